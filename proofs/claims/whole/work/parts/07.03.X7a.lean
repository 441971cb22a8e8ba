abbrev ZX7_init (E : zE) (d : Nat) (X : zX) (P : zM → Prop) (pc : Nat) (Lc : List (Nat × zV)) (S : List zV) (M : zM) (ce sl : Nat) : Prop := zZ cX7_init RX7 "<init>" 1 E (zrm (d + 1) 21 4112) X (zQ E (zPv P) X 21 4112) pc Lc S M ce sl
set_option maxRecDepth 20000 in
theorem vX7_init_0 {E : zE} {d : Nat} {X : zX} {P : zM → Prop} {M : zM} (hr : (xh X).sig.returnType = none) (a0 : Nat)
    (h : ∀ M1, M1 = znew M 9 20 → zK M1 a0 = (8, 25) ∧ ∀ M3, M3 = zsR M1 a0 2 (some (zsz M)) → ∀ M4, M4 = znew M3 10 400 → zK M4 a0 = (8, 25) ∧ ∀ M6, M6 = zsR M4 a0 3 (some (zsz M3)) → ∀ M7, M7 = znew M6 9 4 → (zK M7 (zsz M6)).1 = 9 ∧ 0 ≤ (0 : Int) ∧ 0 < ((zK M7 (zsz M6)).2 : Int) ∧ ∀ M11, M11 = zsI M7 (zsz M6) 0 4 → (zK M11 (zsz M6)).1 = 9 ∧ 0 ≤ (1 : Int) ∧ 1 < ((zK M11 (zsz M6)).2 : Int) ∧ ∀ M15, M15 = zsI M11 (zsz M6) 1 4 → (zK M15 (zsz M6)).1 = 9 ∧ 0 ≤ (2 : Int) ∧ 2 < ((zK M15 (zsz M6)).2 : Int) ∧ ∀ M19, M19 = zsI M15 (zsz M6) 2 4 → (zK M19 (zsz M6)).1 = 9 ∧ 0 ≤ (3 : Int) ∧ 3 < ((zK M19 (zsz M6)).2 : Int) ∧ ∀ M23, M23 = zsI M19 (zsz M6) 3 4 → zK M23 a0 = (8, 25) ∧ ∀ M25, M25 = zsR M23 a0 4 (some (zsz M6)) → ∀ M26, M26 = znew M25 9 4 → (zK M26 (zsz M25)).1 = 9 ∧ 0 ≤ (0 : Int) ∧ 0 < ((zK M26 (zsz M25)).2 : Int) ∧ ∀ M30, M30 = zsI M26 (zsz M25) 0 1 → (zK M30 (zsz M25)).1 = 9 ∧ 0 ≤ (1 : Int) ∧ 1 < ((zK M30 (zsz M25)).2 : Int) ∧ ∀ M34, M34 = zsI M30 (zsz M25) 1 1 → (zK M34 (zsz M25)).1 = 9 ∧ 0 ≤ (2 : Int) ∧ 2 < ((zK M34 (zsz M25)).2 : Int) ∧ ∀ M38, M38 = zsI M34 (zsz M25) 2 1 → (zK M38 (zsz M25)).1 = 9 ∧ 0 ≤ (3 : Int) ∧ 3 < ((zK M38 (zsz M25)).2 : Int) ∧ ∀ M42, M42 = zsI M38 (zsz M25) 3 1 → zK M42 a0 = (8, 25) ∧ ∀ M44, M44 = zsR M42 a0 5 (some (zsz M25)) → ∀ M45, M45 = znew M44 9 25 → zK M45 a0 = (8, 25) ∧ ∀ M47, M47 = zsR M45 a0 7 (some (zsz M44)) → ∀ M48, M48 = znew M47 9 40 → zK M48 a0 = (8, 25) ∧ ∀ M50, M50 = zsR M48 a0 9 (some (zsz M47)) → ∀ M51, M51 = znew M50 9 40 → zK M51 a0 = (8, 25) ∧ ∀ M53, M53 = zsR M51 a0 10 (some (zsz M50)) → ∀ M54, M54 = znew M53 9 40 → zK M54 a0 = (8, 25) ∧ ∀ M56, M56 = zsR M54 a0 11 (some (zsz M53)) → ∀ M57, M57 = znew M56 9 40 → zK M57 a0 = (8, 25) ∧ ∀ M59, M59 = zsR M57 a0 12 (some (zsz M56)) → ∀ M60, M60 = znew M59 9 40 → zK M60 a0 = (8, 25) ∧ ∀ M62, M62 = zsR M60 a0 13 (some (zsz M59)) → ∀ M63, M63 = znew M62 9 40 → zK M63 a0 = (8, 25) ∧ ∀ M65, M65 = zsR M63 a0 14 (some (zsz M62)) → ∀ M66, M66 = znew M65 9 40 → zK M66 a0 = (8, 25) ∧ ∀ M68, M68 = zsR M66 a0 15 (some (zsz M65)) → ∀ M69, M69 = znew M68 9 40 → zK M69 a0 = (8, 25) ∧ ∀ M71, M71 = zsR M69 a0 16 (some (zsz M68)) → ∀ M72, M72 = znew M71 10 1600 → zK M72 a0 = (8, 25) ∧ ∀ M74, M74 = zsR M72 a0 17 (some (zsz M71)) → ∀ M75, M75 = znew M74 10 1600 → zK M75 a0 = (8, 25) ∧ ∀ M77, M77 = zsR M75 a0 18 (some (zsz M74)) → ∀ M78, M78 = znew M77 10 40 → zK M78 a0 = (8, 25) ∧ ∀ M80, M80 = zsR M78 a0 19 (some (zsz M77)) → ∀ M81, M81 = znew M80 9 40 → zK M81 a0 = (8, 25) ∧ ∀ M83, M83 = zsR M81 a0 20 (some (zsz M80)) → ∀ M84, M84 = znew M83 9 40 → zK M84 a0 = (8, 25) ∧ ∀ M86, M86 = zsR M84 a0 21 (some (zsz M83)) → ∀ M87, M87 = znew M86 9 6 → zK M87 a0 = (8, 25) ∧ ∀ M89, M89 = zsR M87 a0 22 (some (zsz M86)) → ∀ M90, M90 = znew M89 9 7 → zK M90 a0 = (8, 25) ∧ ∀ M92, M92 = zsR M90 a0 23 (some (zsz M89)) → ∀ M93, M93 = znew M92 9 6 → zK M93 a0 = (8, 25) ∧ ∀ M95, M95 = zsR M93 a0 24 (some (zsz M92)) → P M95) :
    ZX7_init E d X P 0 [(0, vR (some a0))] [] M 0 0 := by
  refine z_aload_n 0 dX7_init_0 rfl ?_
  refine z_objInit oi_X7_1 dX7_init_1 (Nat.le_of_ble_eq_true rfl) zr3 zr5 ?_
  refine z_aload_n 0 dX7_init_4 rfl ?_
  refine z_bipush dX7_init_5 (by decide) ?_
  refine z_newa (at_ := .int) (tg := 9) (n := 20) (by simp) kw_80 dX7_init_7 rfl (by decide) (Nat.le_of_ble_eq_true rfl) (Nat.le_of_ble_eq_true rfl) ?_
  obtain ⟨M1, hmM1⟩ : ∃ z, z = znew M 9 20 := ⟨_, rfl⟩
  rw [← hmM1]
  have h := h M1 hmM1
  obtain ⟨q2, h⟩ := h
  refine z_putR fl_X7_9 rfl (Or.inr ⟨rfl, rfl⟩) dX7_init_9 q2 ?_
  obtain ⟨M3, hmM3⟩ : ∃ z, z = zsR M1 a0 2 (some (zsz M)) := ⟨_, rfl⟩
  rw [← hmM3]
  have h := h M3 hmM3
  refine z_aload_n 0 dX7_init_12 rfl ?_
  refine z_sipush dX7_init_13 (by decide) ?_
  refine z_newa (at_ := .boolean) (tg := 10) (n := 400) (by simp) kw_760 dX7_init_16 rfl (by decide) (Nat.le_of_ble_eq_true rfl) (Nat.le_of_ble_eq_true rfl) ?_
  obtain ⟨M4, hmM4⟩ : ∃ z, z = znew M3 10 400 := ⟨_, rfl⟩
  rw [← hmM4]
  have h := h M4 hmM4
  obtain ⟨q5, h⟩ := h
  refine z_putR fl_X7_13 rfl (Or.inr ⟨rfl, rfl⟩) dX7_init_18 q5 ?_
  obtain ⟨M6, hmM6⟩ : ∃ z, z = zsR M4 a0 3 (some (zsz M3)) := ⟨_, rfl⟩
  rw [← hmM6]
  have h := h M6 hmM6
  refine z_aload_n 0 dX7_init_21 rfl ?_
  refine z_iconst dX7_init_22 (by decide) ?_
  refine z_newa (at_ := .int) (tg := 9) (n := 4) (by simp) kw_80 dX7_init_23 rfl (by decide) (Nat.le_of_ble_eq_true rfl) (Nat.le_of_ble_eq_true rfl) ?_
  obtain ⟨M7, hmM7⟩ : ∃ z, z = znew M6 9 4 := ⟨_, rfl⟩
  rw [← hmM7]
  have h := h M7 hmM7
  refine z_dup dX7_init_25 rfl ?_
  refine z_iconst dX7_init_26 (by decide) ?_
  refine z_iconst dX7_init_27 (by decide) ?_
  obtain ⟨q8, h⟩ := h
  obtain ⟨q9, h⟩ := h
  obtain ⟨q10, h⟩ := h
  refine z_iast dX7_init_28 (n := (zK M7 (zsz M6)).2) (Prod.ext q8 rfl) q9 q10 ?_
  obtain ⟨M11, hmM11⟩ : ∃ z, z = zsI M7 (zsz M6) 0 4 := ⟨_, rfl⟩
  rw [← hmM11]
  have h := h M11 hmM11
  refine z_dup dX7_init_29 rfl ?_
  refine z_iconst dX7_init_30 (by decide) ?_
  refine z_iconst dX7_init_31 (by decide) ?_
  obtain ⟨q12, h⟩ := h
  obtain ⟨q13, h⟩ := h
  obtain ⟨q14, h⟩ := h
  refine z_iast dX7_init_32 (n := (zK M11 (zsz M6)).2) (Prod.ext q12 rfl) q13 q14 ?_
  obtain ⟨M15, hmM15⟩ : ∃ z, z = zsI M11 (zsz M6) 1 4 := ⟨_, rfl⟩
  rw [← hmM15]
  have h := h M15 hmM15
  refine z_dup dX7_init_33 rfl ?_
  refine z_iconst dX7_init_34 (by decide) ?_
  refine z_iconst dX7_init_35 (by decide) ?_
  obtain ⟨q16, h⟩ := h
  obtain ⟨q17, h⟩ := h
  obtain ⟨q18, h⟩ := h
  refine z_iast dX7_init_36 (n := (zK M15 (zsz M6)).2) (Prod.ext q16 rfl) q17 q18 ?_
  obtain ⟨M19, hmM19⟩ : ∃ z, z = zsI M15 (zsz M6) 2 4 := ⟨_, rfl⟩
  rw [← hmM19]
  have h := h M19 hmM19
  refine z_dup dX7_init_37 rfl ?_
  refine z_iconst dX7_init_38 (by decide) ?_
  refine z_iconst dX7_init_39 (by decide) ?_
  obtain ⟨q20, h⟩ := h
  obtain ⟨q21, h⟩ := h
  obtain ⟨q22, h⟩ := h
  refine z_iast dX7_init_40 (n := (zK M19 (zsz M6)).2) (Prod.ext q20 rfl) q21 q22 ?_
  obtain ⟨M23, hmM23⟩ : ∃ z, z = zsI M19 (zsz M6) 3 4 := ⟨_, rfl⟩
  rw [← hmM23]
  have h := h M23 hmM23
  obtain ⟨q24, h⟩ := h
  refine z_putR fl_X7_17 rfl (Or.inr ⟨rfl, rfl⟩) dX7_init_41 q24 ?_
  obtain ⟨M25, hmM25⟩ : ∃ z, z = zsR M23 a0 4 (some (zsz M6)) := ⟨_, rfl⟩
  rw [← hmM25]
  have h := h M25 hmM25
  refine z_aload_n 0 dX7_init_44 rfl ?_
  refine z_iconst dX7_init_45 (by decide) ?_
  refine z_newa (at_ := .int) (tg := 9) (n := 4) (by simp) kw_80 dX7_init_46 rfl (by decide) (Nat.le_of_ble_eq_true rfl) (Nat.le_of_ble_eq_true rfl) ?_
  obtain ⟨M26, hmM26⟩ : ∃ z, z = znew M25 9 4 := ⟨_, rfl⟩
  rw [← hmM26]
  have h := h M26 hmM26
  refine z_dup dX7_init_48 rfl ?_
  refine z_iconst dX7_init_49 (by decide) ?_
  refine z_iconst dX7_init_50 (by decide) ?_
  obtain ⟨q27, h⟩ := h
  obtain ⟨q28, h⟩ := h
  obtain ⟨q29, h⟩ := h
  refine z_iast dX7_init_51 (n := (zK M26 (zsz M25)).2) (Prod.ext q27 rfl) q28 q29 ?_
  obtain ⟨M30, hmM30⟩ : ∃ z, z = zsI M26 (zsz M25) 0 1 := ⟨_, rfl⟩
  rw [← hmM30]
  have h := h M30 hmM30
  refine z_dup dX7_init_52 rfl ?_
  refine z_iconst dX7_init_53 (by decide) ?_
  refine z_iconst dX7_init_54 (by decide) ?_
  obtain ⟨q31, h⟩ := h
  obtain ⟨q32, h⟩ := h
  obtain ⟨q33, h⟩ := h
  refine z_iast dX7_init_55 (n := (zK M30 (zsz M25)).2) (Prod.ext q31 rfl) q32 q33 ?_
  obtain ⟨M34, hmM34⟩ : ∃ z, z = zsI M30 (zsz M25) 1 1 := ⟨_, rfl⟩
  rw [← hmM34]
  have h := h M34 hmM34
  refine z_dup dX7_init_56 rfl ?_
  refine z_iconst dX7_init_57 (by decide) ?_
  refine z_iconst dX7_init_58 (by decide) ?_
  obtain ⟨q35, h⟩ := h
  obtain ⟨q36, h⟩ := h
  obtain ⟨q37, h⟩ := h
  refine z_iast dX7_init_59 (n := (zK M34 (zsz M25)).2) (Prod.ext q35 rfl) q36 q37 ?_
  obtain ⟨M38, hmM38⟩ : ∃ z, z = zsI M34 (zsz M25) 2 1 := ⟨_, rfl⟩
  rw [← hmM38]
  have h := h M38 hmM38
  refine z_dup dX7_init_60 rfl ?_
  refine z_iconst dX7_init_61 (by decide) ?_
  refine z_iconst dX7_init_62 (by decide) ?_
  obtain ⟨q39, h⟩ := h
  obtain ⟨q40, h⟩ := h
  obtain ⟨q41, h⟩ := h
  refine z_iast dX7_init_63 (n := (zK M38 (zsz M25)).2) (Prod.ext q39 rfl) q40 q41 ?_
  obtain ⟨M42, hmM42⟩ : ∃ z, z = zsI M38 (zsz M25) 3 1 := ⟨_, rfl⟩
  rw [← hmM42]
  have h := h M42 hmM42
  obtain ⟨q43, h⟩ := h
  refine z_putR fl_X7_20 rfl (Or.inr ⟨rfl, rfl⟩) dX7_init_64 q43 ?_
  obtain ⟨M44, hmM44⟩ : ∃ z, z = zsR M42 a0 5 (some (zsz M25)) := ⟨_, rfl⟩
  rw [← hmM44]
  have h := h M44 hmM44
  refine z_aload_n 0 dX7_init_67 rfl ?_
  refine z_bipush dX7_init_68 (by decide) ?_
  refine z_newa (at_ := .int) (tg := 9) (n := 25) (by simp) kw_80 dX7_init_70 rfl (by decide) (Nat.le_of_ble_eq_true rfl) (Nat.le_of_ble_eq_true rfl) ?_
  obtain ⟨M45, hmM45⟩ : ∃ z, z = znew M44 9 25 := ⟨_, rfl⟩
  rw [← hmM45]
  have h := h M45 hmM45
  obtain ⟨q46, h⟩ := h
  refine z_putR fl_X7_23 rfl (Or.inr ⟨rfl, rfl⟩) dX7_init_72 q46 ?_
  obtain ⟨M47, hmM47⟩ : ∃ z, z = zsR M45 a0 7 (some (zsz M44)) := ⟨_, rfl⟩
  rw [← hmM47]
  have h := h M47 hmM47
  refine z_aload_n 0 dX7_init_75 rfl ?_
  refine z_bipush dX7_init_76 (by decide) ?_
  refine z_newa (at_ := .int) (tg := 9) (n := 40) (by simp) kw_80 dX7_init_78 rfl (by decide) (Nat.le_of_ble_eq_true rfl) (Nat.le_of_ble_eq_true rfl) ?_
  obtain ⟨M48, hmM48⟩ : ∃ z, z = znew M47 9 40 := ⟨_, rfl⟩
  rw [← hmM48]
  have h := h M48 hmM48
  obtain ⟨q49, h⟩ := h
  refine z_putR fl_X7_26 rfl (Or.inr ⟨rfl, rfl⟩) dX7_init_80 q49 ?_
  obtain ⟨M50, hmM50⟩ : ∃ z, z = zsR M48 a0 9 (some (zsz M47)) := ⟨_, rfl⟩
  rw [← hmM50]
  have h := h M50 hmM50
  refine z_aload_n 0 dX7_init_83 rfl ?_
  refine z_bipush dX7_init_84 (by decide) ?_
  refine z_newa (at_ := .int) (tg := 9) (n := 40) (by simp) kw_80 dX7_init_86 rfl (by decide) (Nat.le_of_ble_eq_true rfl) (Nat.le_of_ble_eq_true rfl) ?_
  obtain ⟨M51, hmM51⟩ : ∃ z, z = znew M50 9 40 := ⟨_, rfl⟩
  rw [← hmM51]
  have h := h M51 hmM51
  obtain ⟨q52, h⟩ := h
  refine z_putR fl_X7_29 rfl (Or.inr ⟨rfl, rfl⟩) dX7_init_88 q52 ?_
  obtain ⟨M53, hmM53⟩ : ∃ z, z = zsR M51 a0 10 (some (zsz M50)) := ⟨_, rfl⟩
  rw [← hmM53]
  have h := h M53 hmM53
  refine z_aload_n 0 dX7_init_91 rfl ?_
  refine z_bipush dX7_init_92 (by decide) ?_
  refine z_newa (at_ := .int) (tg := 9) (n := 40) (by simp) kw_80 dX7_init_94 rfl (by decide) (Nat.le_of_ble_eq_true rfl) (Nat.le_of_ble_eq_true rfl) ?_
  obtain ⟨M54, hmM54⟩ : ∃ z, z = znew M53 9 40 := ⟨_, rfl⟩
  rw [← hmM54]
  have h := h M54 hmM54
  obtain ⟨q55, h⟩ := h
  refine z_putR fl_X7_32 rfl (Or.inr ⟨rfl, rfl⟩) dX7_init_96 q55 ?_
  obtain ⟨M56, hmM56⟩ : ∃ z, z = zsR M54 a0 11 (some (zsz M53)) := ⟨_, rfl⟩
  rw [← hmM56]
  have h := h M56 hmM56
  refine z_aload_n 0 dX7_init_99 rfl ?_
  refine z_bipush dX7_init_100 (by decide) ?_
  refine z_newa (at_ := .int) (tg := 9) (n := 40) (by simp) kw_80 dX7_init_102 rfl (by decide) (Nat.le_of_ble_eq_true rfl) (Nat.le_of_ble_eq_true rfl) ?_
  obtain ⟨M57, hmM57⟩ : ∃ z, z = znew M56 9 40 := ⟨_, rfl⟩
  rw [← hmM57]
  have h := h M57 hmM57
  obtain ⟨q58, h⟩ := h
  refine z_putR fl_X7_35 rfl (Or.inr ⟨rfl, rfl⟩) dX7_init_104 q58 ?_
  obtain ⟨M59, hmM59⟩ : ∃ z, z = zsR M57 a0 12 (some (zsz M56)) := ⟨_, rfl⟩
  rw [← hmM59]
  have h := h M59 hmM59
  refine z_aload_n 0 dX7_init_107 rfl ?_
  refine z_bipush dX7_init_108 (by decide) ?_
  refine z_newa (at_ := .int) (tg := 9) (n := 40) (by simp) kw_80 dX7_init_110 rfl (by decide) (Nat.le_of_ble_eq_true rfl) (Nat.le_of_ble_eq_true rfl) ?_
  obtain ⟨M60, hmM60⟩ : ∃ z, z = znew M59 9 40 := ⟨_, rfl⟩
  rw [← hmM60]
  have h := h M60 hmM60
  obtain ⟨q61, h⟩ := h
  refine z_putR fl_X7_38 rfl (Or.inr ⟨rfl, rfl⟩) dX7_init_112 q61 ?_
  obtain ⟨M62, hmM62⟩ : ∃ z, z = zsR M60 a0 13 (some (zsz M59)) := ⟨_, rfl⟩
  rw [← hmM62]
  have h := h M62 hmM62
  refine z_aload_n 0 dX7_init_115 rfl ?_
  refine z_bipush dX7_init_116 (by decide) ?_
  refine z_newa (at_ := .int) (tg := 9) (n := 40) (by simp) kw_80 dX7_init_118 rfl (by decide) (Nat.le_of_ble_eq_true rfl) (Nat.le_of_ble_eq_true rfl) ?_
  obtain ⟨M63, hmM63⟩ : ∃ z, z = znew M62 9 40 := ⟨_, rfl⟩
  rw [← hmM63]
  have h := h M63 hmM63
  obtain ⟨q64, h⟩ := h
  refine z_putR fl_X7_41 rfl (Or.inr ⟨rfl, rfl⟩) dX7_init_120 q64 ?_
  obtain ⟨M65, hmM65⟩ : ∃ z, z = zsR M63 a0 14 (some (zsz M62)) := ⟨_, rfl⟩
  rw [← hmM65]
  have h := h M65 hmM65
  refine z_aload_n 0 dX7_init_123 rfl ?_
  refine z_bipush dX7_init_124 (by decide) ?_
  refine z_newa (at_ := .int) (tg := 9) (n := 40) (by simp) kw_80 dX7_init_126 rfl (by decide) (Nat.le_of_ble_eq_true rfl) (Nat.le_of_ble_eq_true rfl) ?_
  obtain ⟨M66, hmM66⟩ : ∃ z, z = znew M65 9 40 := ⟨_, rfl⟩
  rw [← hmM66]
  have h := h M66 hmM66
  obtain ⟨q67, h⟩ := h
  refine z_putR fl_X7_44 rfl (Or.inr ⟨rfl, rfl⟩) dX7_init_128 q67 ?_
  obtain ⟨M68, hmM68⟩ : ∃ z, z = zsR M66 a0 15 (some (zsz M65)) := ⟨_, rfl⟩
  rw [← hmM68]
  have h := h M68 hmM68
  refine z_aload_n 0 dX7_init_131 rfl ?_
  refine z_bipush dX7_init_132 (by decide) ?_
  refine z_newa (at_ := .int) (tg := 9) (n := 40) (by simp) kw_80 dX7_init_134 rfl (by decide) (Nat.le_of_ble_eq_true rfl) (Nat.le_of_ble_eq_true rfl) ?_
  obtain ⟨M69, hmM69⟩ : ∃ z, z = znew M68 9 40 := ⟨_, rfl⟩
  rw [← hmM69]
  have h := h M69 hmM69
  obtain ⟨q70, h⟩ := h
  refine z_putR fl_X7_47 rfl (Or.inr ⟨rfl, rfl⟩) dX7_init_136 q70 ?_
  obtain ⟨M71, hmM71⟩ : ∃ z, z = zsR M69 a0 16 (some (zsz M68)) := ⟨_, rfl⟩
  rw [← hmM71]
  have h := h M71 hmM71
  refine z_aload_n 0 dX7_init_139 rfl ?_
  refine z_sipush dX7_init_140 (by decide) ?_
  refine z_newa (at_ := .boolean) (tg := 10) (n := 1600) (by simp) kw_760 dX7_init_143 rfl (by decide) (Nat.le_of_ble_eq_true rfl) (Nat.le_of_ble_eq_true rfl) ?_
  obtain ⟨M72, hmM72⟩ : ∃ z, z = znew M71 10 1600 := ⟨_, rfl⟩
  rw [← hmM72]
  have h := h M72 hmM72
  obtain ⟨q73, h⟩ := h
  refine z_putR fl_X7_50 rfl (Or.inr ⟨rfl, rfl⟩) dX7_init_145 q73 ?_
  obtain ⟨M74, hmM74⟩ : ∃ z, z = zsR M72 a0 17 (some (zsz M71)) := ⟨_, rfl⟩
  rw [← hmM74]
  have h := h M74 hmM74
  refine z_aload_n 0 dX7_init_148 rfl ?_
  refine z_sipush dX7_init_149 (by decide) ?_
  refine z_newa (at_ := .boolean) (tg := 10) (n := 1600) (by simp) kw_760 dX7_init_152 rfl (by decide) (Nat.le_of_ble_eq_true rfl) (Nat.le_of_ble_eq_true rfl) ?_
  obtain ⟨M75, hmM75⟩ : ∃ z, z = znew M74 10 1600 := ⟨_, rfl⟩
  rw [← hmM75]
  have h := h M75 hmM75
  obtain ⟨q76, h⟩ := h
  refine z_putR fl_X7_53 rfl (Or.inr ⟨rfl, rfl⟩) dX7_init_154 q76 ?_
  obtain ⟨M77, hmM77⟩ : ∃ z, z = zsR M75 a0 18 (some (zsz M74)) := ⟨_, rfl⟩
  rw [← hmM77]
  have h := h M77 hmM77
  refine z_aload_n 0 dX7_init_157 rfl ?_
  refine z_bipush dX7_init_158 (by decide) ?_
  refine z_newa (at_ := .boolean) (tg := 10) (n := 40) (by simp) kw_760 dX7_init_160 rfl (by decide) (Nat.le_of_ble_eq_true rfl) (Nat.le_of_ble_eq_true rfl) ?_
  obtain ⟨M78, hmM78⟩ : ∃ z, z = znew M77 10 40 := ⟨_, rfl⟩
  rw [← hmM78]
  have h := h M78 hmM78
  obtain ⟨q79, h⟩ := h
  refine z_putR fl_X7_56 rfl (Or.inr ⟨rfl, rfl⟩) dX7_init_162 q79 ?_
  obtain ⟨M80, hmM80⟩ : ∃ z, z = zsR M78 a0 19 (some (zsz M77)) := ⟨_, rfl⟩
  rw [← hmM80]
  have h := h M80 hmM80
  refine z_aload_n 0 dX7_init_165 rfl ?_
  refine z_bipush dX7_init_166 (by decide) ?_
  refine z_newa (at_ := .int) (tg := 9) (n := 40) (by simp) kw_80 dX7_init_168 rfl (by decide) (Nat.le_of_ble_eq_true rfl) (Nat.le_of_ble_eq_true rfl) ?_
  obtain ⟨M81, hmM81⟩ : ∃ z, z = znew M80 9 40 := ⟨_, rfl⟩
  rw [← hmM81]
  have h := h M81 hmM81
  obtain ⟨q82, h⟩ := h
  refine z_putR fl_X7_59 rfl (Or.inr ⟨rfl, rfl⟩) dX7_init_170 q82 ?_
  obtain ⟨M83, hmM83⟩ : ∃ z, z = zsR M81 a0 20 (some (zsz M80)) := ⟨_, rfl⟩
  rw [← hmM83]
  have h := h M83 hmM83
  refine z_aload_n 0 dX7_init_173 rfl ?_
  refine z_bipush dX7_init_174 (by decide) ?_
  refine z_newa (at_ := .int) (tg := 9) (n := 40) (by simp) kw_80 dX7_init_176 rfl (by decide) (Nat.le_of_ble_eq_true rfl) (Nat.le_of_ble_eq_true rfl) ?_
  obtain ⟨M84, hmM84⟩ : ∃ z, z = znew M83 9 40 := ⟨_, rfl⟩
  rw [← hmM84]
  have h := h M84 hmM84
  obtain ⟨q85, h⟩ := h
  refine z_putR fl_X7_62 rfl (Or.inr ⟨rfl, rfl⟩) dX7_init_178 q85 ?_
  obtain ⟨M86, hmM86⟩ : ∃ z, z = zsR M84 a0 21 (some (zsz M83)) := ⟨_, rfl⟩
  rw [← hmM86]
  have h := h M86 hmM86
  refine z_aload_n 0 dX7_init_181 rfl ?_
  refine z_bipush dX7_init_182 (by decide) ?_
  refine z_newa (at_ := .int) (tg := 9) (n := 6) (by simp) kw_80 dX7_init_184 rfl (by decide) (Nat.le_of_ble_eq_true rfl) (Nat.le_of_ble_eq_true rfl) ?_
  obtain ⟨M87, hmM87⟩ : ∃ z, z = znew M86 9 6 := ⟨_, rfl⟩
  rw [← hmM87]
  have h := h M87 hmM87
  obtain ⟨q88, h⟩ := h
  refine z_putR fl_X7_65 rfl (Or.inr ⟨rfl, rfl⟩) dX7_init_186 q88 ?_
  obtain ⟨M89, hmM89⟩ : ∃ z, z = zsR M87 a0 22 (some (zsz M86)) := ⟨_, rfl⟩
  rw [← hmM89]
  have h := h M89 hmM89
  refine z_aload_n 0 dX7_init_189 rfl ?_
  refine z_bipush dX7_init_190 (by decide) ?_
  refine z_newa (at_ := .int) (tg := 9) (n := 7) (by simp) kw_80 dX7_init_192 rfl (by decide) (Nat.le_of_ble_eq_true rfl) (Nat.le_of_ble_eq_true rfl) ?_
  obtain ⟨M90, hmM90⟩ : ∃ z, z = znew M89 9 7 := ⟨_, rfl⟩
  rw [← hmM90]
  have h := h M90 hmM90
  obtain ⟨q91, h⟩ := h
  refine z_putR fl_X7_68 rfl (Or.inr ⟨rfl, rfl⟩) dX7_init_194 q91 ?_
  obtain ⟨M92, hmM92⟩ : ∃ z, z = zsR M90 a0 23 (some (zsz M89)) := ⟨_, rfl⟩
  rw [← hmM92]
  have h := h M92 hmM92
  refine z_aload_n 0 dX7_init_197 rfl ?_
  refine z_bipush dX7_init_198 (by decide) ?_
  refine z_newa (at_ := .int) (tg := 9) (n := 6) (by simp) kw_80 dX7_init_200 rfl (by decide) (Nat.le_of_ble_eq_true rfl) (Nat.le_of_ble_eq_true rfl) ?_
  obtain ⟨M93, hmM93⟩ : ∃ z, z = znew M92 9 6 := ⟨_, rfl⟩
  rw [← hmM93]
  have h := h M93 hmM93
  obtain ⟨q94, h⟩ := h
  refine z_putR fl_X7_71 rfl (Or.inr ⟨rfl, rfl⟩) dX7_init_202 q94 ?_
  obtain ⟨M95, hmM95⟩ : ∃ z, z = zsR M93 a0 24 (some (zsz M92)) := ⟨_, rfl⟩
  rw [← hmM95]
  have h := h M95 hmM95
  exact z_vret hr dX7_init_205 (Nat.le_of_ble_eq_true rfl) (Nat.le_of_ble_eq_true rfl) ⟨rfl, h⟩
theorem sX7_init {E : zE} {d : Nat} {P : zM → Prop} {M : zM} (a0 : Nat) (h : ∀ X : zX, (xh X).sig.returnType = none → ZX7_init E d X P 0 [(0, vR (some a0))] [] M 0 0) : zCv E mX7_init (d + 1) 21 4112 [vR (some a0)] M P := z_start (f := mX7_init) rfl (Nat.le_of_ble_eq_true rfl) rfl h
abbrev ZX7_in (E : zE) (d : Nat) (X : zX) (P : Int → zM → Prop) (pc : Nat) (Lc : List (Nat × zV)) (S : List zV) (M : zM) (ce sl : Nat) : Prop := zZ cX7_in RX7 "in" 3 E (zrm (d + 1) 0 0) X (zQ E (zPi P) X 0 0) pc Lc S M ce sl
set_option maxRecDepth 20000 in
theorem vX7_in_0 {E : zE} {d : Nat} {X : zX} {P : Int → zM → Prop} {M : zM} (hr : (xh X).sig.returnType = (some .boolean)) (x0 : Int) (x1 : Int) (x2 : Int)
    (h : ((x0 < x1 → P 0 M) ∧ (x1 ≤ x0 → ((x2 < x0 → P 0 M) ∧ (x0 ≤ x2 → P 1 M))))) :
    ZX7_in E d X P 0 [(0, vI x0), (1, vI x1), (2, vI x2)] [] M 0 0 := by
  refine z_iload_n 0 dX7_in_0 rfl ?_
  refine z_iload_n 1 dX7_in_1 rfl ?_
  refine z_icmp_lt (tgt := 14) dX7_in_2 (by decide) (fun q1 => ?_) (fun q1 => ?_)
  · have h := h.1 q1
    refine z_iconst dX7_in_14 (by decide) ?_
    exact z_zret hr dX7_in_15 (Nat.le_of_ble_eq_true rfl) (Nat.le_of_ble_eq_true rfl) (by decide) ⟨_, rfl, h⟩
  · have h := h.2 q1
    refine z_iload_n 0 dX7_in_5 rfl ?_
    refine z_iload_n 2 dX7_in_6 rfl ?_
    refine z_icmp_gt (tgt := 14) dX7_in_7 (by decide) (fun q2 => ?_) (fun q2 => ?_)
    · have h := h.1 q2
      refine z_iconst dX7_in_14 (by decide) ?_
      exact z_zret hr dX7_in_15 (Nat.le_of_ble_eq_true rfl) (Nat.le_of_ble_eq_true rfl) (by decide) ⟨_, rfl, h⟩
    · have h := h.2 q2
      refine z_iconst dX7_in_10 (by decide) ?_
      refine z_goto (tgt := 15) dX7_in_11 (by decide) ?_
      exact z_zret hr dX7_in_15 (Nat.le_of_ble_eq_true rfl) (Nat.le_of_ble_eq_true rfl) (by decide) ⟨_, rfl, h⟩
theorem sX7_in {E : zE} {d : Nat} {P : Int → zM → Prop} {M : zM} (x0 : Int) (x1 : Int) (x2 : Int) (h : ∀ X : zX, (xh X).sig.returnType = (some .boolean) → ZX7_in E d X P 0 [(0, vI x0), (1, vI x1), (2, vI x2)] [] M 0 0) : zCi E mX7_in (d + 1) 0 0 [vI x0, vI x1, vI x2] M P := z_start (f := mX7_in) rfl (Nat.le_of_ble_eq_true rfl) rfl h
abbrev ZX7_isWork (E : zE) (d : Nat) (X : zX) (P : Int → zM → Prop) (pc : Nat) (Lc : List (Nat × zV)) (S : List zV) (M : zM) (ce sl : Nat) : Prop := zZ cX7_isWork RX7 "isWork" 2 E (zrm (d + 1) 0 0) X (zQ E (zPi P) X 0 0) pc Lc S M ce sl
set_option maxRecDepth 20000 in
theorem vX7_isWork_0 {E : zE} {d : Nat} {X : zX} {P : Int → zM → Prop} {M : zM} (hr : (xh X).sig.returnType = (some .boolean)) (a0 : Nat) (x1 : Int)
    (h : zK M a0 = (8, 25) ∧ zin ((zI M a0 8) - 1) ∧ ∃ P3 : Int → zM → Prop, zCi E mX7_in d 0 0 [vI x1, vI 0, vI ((zI M a0 8) - 1)] M P3 ∧ ∀ r6 M5, P3 r6 M5 → (r6 = 0 ∨ r6 = 1) ∧ P r6 M5) :
    ZX7_isWork E d X P 0 [(0, vR (some a0)), (1, vI x1)] [] M 0 0 := by
  refine z_iload_n 1 dX7_isWork_0 rfl ?_
  refine z_iconst dX7_isWork_1 (by decide) ?_
  refine z_aload_n 0 dX7_isWork_2 rfl ?_
  obtain ⟨q1, h⟩ := h
  refine z_getI fl_X7_74 dX7_isWork_3 q1 ?_
  refine z_iconst dX7_isWork_6 (by decide) ?_
  obtain ⟨q2, h⟩ := h
  refine z_isub dX7_isWork_7 q2 ?_
  obtain ⟨P3, c4, h⟩ := h
  refine z_Si (as := [vI x1, vI 0, vI ((zI M a0 8) - 1)]) ms_X7_78 dX7_isWork_8 c4 rfl rfl (Nat.le_of_ble_eq_true rfl) (Nat.le_of_ble_eq_true rfl) (Nat.le_of_ble_eq_true rfl) (fun r6 M5 p7 => ?_)
  have h := h r6 M5 p7
  obtain ⟨q8, h⟩ := h
  exact z_zret hr dX7_isWork_11 (Nat.le_of_ble_eq_true rfl) (Nat.le_of_ble_eq_true rfl) q8 ⟨_, rfl, h⟩
theorem sX7_isWork {E : zE} {d : Nat} {P : Int → zM → Prop} {M : zM} (a0 : Nat) (x1 : Int) (h : ∀ X : zX, (xh X).sig.returnType = (some .boolean) → ZX7_isWork E d X P 0 [(0, vR (some a0)), (1, vI x1)] [] M 0 0) : zCi E mX7_isWork (d + 1) 0 0 [vR (some a0), vI x1] M P := z_start (f := mX7_isWork) rfl (Nat.le_of_ble_eq_true rfl) rfl h
abbrev ZX7_space (E : zE) (d : Nat) (X : zX) (P : Int → zM → Prop) (pc : Nat) (Lc : List (Nat × zV)) (S : List zV) (M : zM) (ce sl : Nat) : Prop := zZ cX7_space RX7 "space" 2 E (zrm (d + 1) 0 0) X (zQ E (zPi P) X 0 0) pc Lc S M ce sl
set_option maxRecDepth 20000 in
theorem vX7_space_0 {E : zE} {d : Nat} {X : zX} {P : Int → zM → Prop} {M : zM} (hr : (xh X).sig.returnType = (some .int)) (a0 : Nat) (x1 : Int)
    (h : ∃ P1 : Int → zM → Prop, zCi E mX7_in d 0 0 [vI x1, vI 1, vI 9] M P1 ∧ ∀ r4 M3, P1 r4 M3 → ((r4 = 0 → P (-1) M3) ∧ (r4 ≠ 0 → zK M3 a0 = (8, 25) ∧ (((zI M3 a0 1) ≠ 20 → zK M3 a0 = (8, 25) ∧ zK M3 a0 = (8, 25) ∧ ∃ b11, zR M3 a0 2 = some b11 ∧ (zK M3 b11).1 = 9 ∧ 0 ≤ (zI M3 a0 1) ∧ (zI M3 a0 1) < ((zK M3 b11).2 : Int) ∧ ∀ M15, M15 = zsI M3 b11 (zI M3 a0 1) x1 → zK M15 a0 = (8, 25) ∧ zin ((zI M15 a0 1) + 1) ∧ zK M15 a0 = (8, 25) ∧ ∀ M19, M19 = zsI M15 a0 1 ((zI M15 a0 1) + 1) → zK M19 a0 = (8, 25) ∧ zin ((zI M19 a0 1) - 1) ∧ P ((zI M19 a0 1) - 1) M19) ∧ ((zI M3 a0 1) = 20 → P (-1) M3))))) :
    ZX7_space E d X P 0 [(0, vR (some a0)), (1, vI x1)] [] M 0 0 := by
  refine z_iload_n 1 dX7_space_0 rfl ?_
  refine z_iconst dX7_space_1 (by decide) ?_
  refine z_bipush dX7_space_2 (by decide) ?_
  obtain ⟨P1, c2, h⟩ := h
  refine z_Si (as := [vI x1, vI 1, vI 9]) ms_X7_78 dX7_space_4 c2 rfl rfl (Nat.le_of_ble_eq_true rfl) (Nat.le_of_ble_eq_true rfl) (Nat.le_of_ble_eq_true rfl) (fun r4 M3 p5 => ?_)
  have h := h r4 M3 p5
  refine z_if_eq (tgt := 19) dX7_space_7 (by decide) (fun q6 => ?_) (fun q6 => ?_)
  · have h := h.1 q6
    refine z_iconst dX7_space_19 (by decide) ?_
    exact z_iret hr dX7_space_20 (Nat.le_of_ble_eq_true rfl) (Nat.le_of_ble_eq_true rfl) ⟨_, rfl, h⟩
  · have h := h.2 q6
    refine z_aload_n 0 dX7_space_10 rfl ?_
    obtain ⟨q7, h⟩ := h
    refine z_getI fl_X7_82 dX7_space_11 q7 ?_
    refine z_bipush dX7_space_14 (by decide) ?_
    refine z_icmp_ne (tgt := 21) dX7_space_16 (by decide) (fun q8 => ?_) (fun q8 => ?_)
    · have h := h.1 q8
      refine z_aload_n 0 dX7_space_21 rfl ?_
      obtain ⟨q9, h⟩ := h
      refine z_getR fl_X7_9 rfl dX7_space_22 q9 ?_
      refine z_aload_n 0 dX7_space_25 rfl ?_
      obtain ⟨q10, h⟩ := h
      refine z_getI fl_X7_82 dX7_space_26 q10 ?_
      refine z_iload_n 1 dX7_space_29 rfl ?_
      obtain ⟨b11, eb11, h⟩ := h
      rw [eb11]
      obtain ⟨q12, h⟩ := h
      obtain ⟨q13, h⟩ := h
      obtain ⟨q14, h⟩ := h
      refine z_iast dX7_space_30 (n := (zK M3 b11).2) (Prod.ext q12 rfl) q13 q14 ?_
      obtain ⟨M15, hmM15⟩ : ∃ z, z = zsI M3 b11 (zI M3 a0 1) x1 := ⟨_, rfl⟩
      rw [← hmM15]
      have h := h M15 hmM15
      refine z_aload_n 0 dX7_space_31 rfl ?_
      refine z_dup dX7_space_32 rfl ?_
      obtain ⟨q16, h⟩ := h
      refine z_getI fl_X7_82 dX7_space_33 q16 ?_
      refine z_iconst dX7_space_36 (by decide) ?_
      obtain ⟨q17, h⟩ := h
      refine z_iadd dX7_space_37 q17 ?_
      obtain ⟨q18, h⟩ := h
      refine z_putI fl_X7_82 (Or.inl rfl) dX7_space_38 q18 ?_
      obtain ⟨M19, hmM19⟩ : ∃ z, z = zsI M15 a0 1 ((zI M15 a0 1) + 1) := ⟨_, rfl⟩
      rw [← hmM19]
      have h := h M19 hmM19
      refine z_aload_n 0 dX7_space_41 rfl ?_
      obtain ⟨q20, h⟩ := h
      refine z_getI fl_X7_82 dX7_space_42 q20 ?_
      refine z_iconst dX7_space_45 (by decide) ?_
      obtain ⟨q21, h⟩ := h
      refine z_isub dX7_space_46 q21 ?_
      exact z_iret hr dX7_space_47 (Nat.le_of_ble_eq_true rfl) (Nat.le_of_ble_eq_true rfl) ⟨_, rfl, h⟩
    · have h := h.2 q8
      refine z_iconst dX7_space_19 (by decide) ?_
      exact z_iret hr dX7_space_20 (Nat.le_of_ble_eq_true rfl) (Nat.le_of_ble_eq_true rfl) ⟨_, rfl, h⟩
theorem sX7_space {E : zE} {d : Nat} {P : Int → zM → Prop} {M : zM} (a0 : Nat) (x1 : Int) (h : ∀ X : zX, (xh X).sig.returnType = (some .int) → ZX7_space E d X P 0 [(0, vR (some a0)), (1, vI x1)] [] M 0 0) : zCi E mX7_space (d + 1) 0 0 [vR (some a0), vI x1] M P := z_start (f := mX7_space) rfl (Nat.le_of_ble_eq_true rfl) rfl h
abbrev ZX7_near (E : zE) (d : Nat) (X : zX) (P : Int → zM → Prop) (pc : Nat) (Lc : List (Nat × zV)) (S : List zV) (M : zM) (ce sl : Nat) : Prop := zZ cX7_near RX7 "near" 3 E (zrm (d + 1) 0 0) X (zQ E (zPi P) X 0 0) pc Lc S M ce sl
set_option maxRecDepth 20000 in
theorem vX7_near_0 {E : zE} {d : Nat} {X : zX} {P : Int → zM → Prop} {M : zM} (hr : (xh X).sig.returnType = (some .boolean)) (a0 : Nat) (x1 : Int) (x2 : Int)
    (h : zK M a0 = (8, 25) ∧ zin ((zI M a0 1) - 1) ∧ ∃ P3 : Int → zM → Prop, zCi E mX7_in d 0 0 [vI x1, vI 0, vI ((zI M a0 1) - 1)] M P3 ∧ ∀ r6 M5, P3 r6 M5 → ((r6 = 0 → P 0 M5) ∧ (r6 ≠ 0 → zK M5 a0 = (8, 25) ∧ zin ((zI M5 a0 1) - 1) ∧ ∃ P11 : Int → zM → Prop, zCi E mX7_in d 0 0 [vI x2, vI 0, vI ((zI M5 a0 1) - 1)] M5 P11 ∧ ∀ r14 M13, P11 r14 M13 → ((r14 = 0 → P 0 M13) ∧ (r14 ≠ 0 → ((x1 = x2 → P 0 M13) ∧ (x1 ≠ x2 → zK M13 a0 = (8, 25) ∧ zin (20 * x1) ∧ zin ((20 * x1) + x2) ∧ ∃ b21, zR M13 a0 3 = some b21 ∧ (zK M13 b21).1 = 10 ∧ 0 ≤ ((20 * x1) + x2) ∧ ((20 * x1) + x2) < ((zK M13 b21).2 : Int) ∧ (((zI M13 b21 ((20 * x1) + x2)) = 0 → zK M13 a0 = (8, 25) ∧ zin (20 * x1) ∧ zin ((20 * x1) + x2) ∧ (zK M13 b21).1 = 10 ∧ 0 ≤ ((20 * x1) + x2) ∧ ((20 * x1) + x2) < ((zK M13 b21).2 : Int) ∧ ∀ M32, M32 = zsI M13 b21 ((20 * x1) + x2) 1 → zK M32 a0 = (8, 25) ∧ zin (20 * x2) ∧ zin ((20 * x2) + x1) ∧ ∃ b36, zR M32 a0 3 = some b36 ∧ (zK M32 b36).1 = 10 ∧ 0 ≤ ((20 * x2) + x1) ∧ ((20 * x2) + x1) < ((zK M32 b36).2 : Int) ∧ ∀ M40, M40 = zsI M32 b36 ((20 * x2) + x1) 1 → P 1 M40) ∧ ((zI M13 b21 ((20 * x1) + x2)) ≠ 0 → P 0 M13))))))))) :
    ZX7_near E d X P 0 [(0, vR (some a0)), (1, vI x1), (2, vI x2)] [] M 0 0 := by
  refine z_iload_n 1 dX7_near_0 rfl ?_
  refine z_iconst dX7_near_1 (by decide) ?_
  refine z_aload_n 0 dX7_near_2 rfl ?_
  obtain ⟨q1, h⟩ := h
  refine z_getI fl_X7_82 dX7_near_3 q1 ?_
  refine z_iconst dX7_near_6 (by decide) ?_
  obtain ⟨q2, h⟩ := h
  refine z_isub dX7_near_7 q2 ?_
  obtain ⟨P3, c4, h⟩ := h
  refine z_Si (as := [vI x1, vI 0, vI ((zI M a0 1) - 1)]) ms_X7_78 dX7_near_8 c4 rfl rfl (Nat.le_of_ble_eq_true rfl) (Nat.le_of_ble_eq_true rfl) (Nat.le_of_ble_eq_true rfl) (fun r6 M5 p7 => ?_)
  have h := h r6 M5 p7
  refine z_if_eq (tgt := 47) dX7_near_11 (by decide) (fun q8 => ?_) (fun q8 => ?_)
  · have h := h.1 q8
    refine z_iconst dX7_near_47 (by decide) ?_
    exact z_zret hr dX7_near_48 (Nat.le_of_ble_eq_true rfl) (Nat.le_of_ble_eq_true rfl) (by decide) ⟨_, rfl, h⟩
  · have h := h.2 q8
    refine z_iload_n 2 dX7_near_14 rfl ?_
    refine z_iconst dX7_near_15 (by decide) ?_
    refine z_aload_n 0 dX7_near_16 rfl ?_
    obtain ⟨q9, h⟩ := h
    refine z_getI fl_X7_82 dX7_near_17 q9 ?_
    refine z_iconst dX7_near_20 (by decide) ?_
    obtain ⟨q10, h⟩ := h
    refine z_isub dX7_near_21 q10 ?_
    obtain ⟨P11, c12, h⟩ := h
    refine z_Si (as := [vI x2, vI 0, vI ((zI M5 a0 1) - 1)]) ms_X7_78 dX7_near_22 c12 rfl rfl (Nat.le_of_ble_eq_true rfl) (Nat.le_of_ble_eq_true rfl) (Nat.le_of_ble_eq_true rfl) (fun r14 M13 p15 => ?_)
    have h := h r14 M13 p15
    refine z_if_eq (tgt := 47) dX7_near_25 (by decide) (fun q16 => ?_) (fun q16 => ?_)
    · have h := h.1 q16
      refine z_iconst dX7_near_47 (by decide) ?_
      exact z_zret hr dX7_near_48 (Nat.le_of_ble_eq_true rfl) (Nat.le_of_ble_eq_true rfl) (by decide) ⟨_, rfl, h⟩
    · have h := h.2 q16
      refine z_iload_n 1 dX7_near_28 rfl ?_
      refine z_iload_n 2 dX7_near_29 rfl ?_
      refine z_icmp_eq (tgt := 47) dX7_near_30 (by decide) (fun q17 => ?_) (fun q17 => ?_)
      · have h := h.1 q17
        refine z_iconst dX7_near_47 (by decide) ?_
        exact z_zret hr dX7_near_48 (Nat.le_of_ble_eq_true rfl) (Nat.le_of_ble_eq_true rfl) (by decide) ⟨_, rfl, h⟩
      · have h := h.2 q17
        refine z_aload_n 0 dX7_near_33 rfl ?_
        obtain ⟨q18, h⟩ := h
        refine z_getR fl_X7_13 rfl dX7_near_34 q18 ?_
        refine z_bipush dX7_near_37 (by decide) ?_
        refine z_iload_n 1 dX7_near_39 rfl ?_
        obtain ⟨q19, h⟩ := h
        refine z_imul dX7_near_40 q19 ?_
        refine z_iload_n 2 dX7_near_41 rfl ?_
        obtain ⟨q20, h⟩ := h
        refine z_iadd dX7_near_42 q20 ?_
        obtain ⟨b21, eb21, h⟩ := h
        rw [eb21]
        obtain ⟨q22, h⟩ := h
        obtain ⟨q23, h⟩ := h
        obtain ⟨q24, h⟩ := h
        refine z_bald dX7_near_43 (n := (zK M13 b21).2) (Prod.ext q22 rfl) q23 q24 ?_
        refine z_if_eq (tgt := 49) dX7_near_44 (by decide) (fun q25 => ?_) (fun q25 => ?_)
        · have h := h.1 q25
          refine z_aload_n 0 dX7_near_49 rfl ?_
          obtain ⟨q26, h⟩ := h
          refine z_getR fl_X7_13 rfl dX7_near_50 q26 ?_
          rw [eb21]
          refine z_bipush dX7_near_53 (by decide) ?_
          refine z_iload_n 1 dX7_near_55 rfl ?_
          obtain ⟨q27, h⟩ := h
          refine z_imul dX7_near_56 q27 ?_
          refine z_iload_n 2 dX7_near_57 rfl ?_
          obtain ⟨q28, h⟩ := h
          refine z_iadd dX7_near_58 q28 ?_
          refine z_iconst dX7_near_59 (by decide) ?_
          obtain ⟨q29, h⟩ := h
          obtain ⟨q30, h⟩ := h
          obtain ⟨q31, h⟩ := h
          refine z_bast dX7_near_60 (n := (zK M13 b21).2) (Prod.ext q29 rfl) q30 q31 (by decide) ?_
          obtain ⟨M32, hmM32⟩ : ∃ z, z = zsI M13 b21 ((20 * x1) + x2) 1 := ⟨_, rfl⟩
          rw [← hmM32]
          have h := h M32 hmM32
          refine z_aload_n 0 dX7_near_61 rfl ?_
          obtain ⟨q33, h⟩ := h
          refine z_getR fl_X7_13 rfl dX7_near_62 q33 ?_
          refine z_bipush dX7_near_65 (by decide) ?_
          refine z_iload_n 2 dX7_near_67 rfl ?_
          obtain ⟨q34, h⟩ := h
          refine z_imul dX7_near_68 q34 ?_
          refine z_iload_n 1 dX7_near_69 rfl ?_
          obtain ⟨q35, h⟩ := h
          refine z_iadd dX7_near_70 q35 ?_
          refine z_iconst dX7_near_71 (by decide) ?_
          obtain ⟨b36, eb36, h⟩ := h
          rw [eb36]
          obtain ⟨q37, h⟩ := h
          obtain ⟨q38, h⟩ := h
          obtain ⟨q39, h⟩ := h
          refine z_bast dX7_near_72 (n := (zK M32 b36).2) (Prod.ext q37 rfl) q38 q39 (by decide) ?_
          obtain ⟨M40, hmM40⟩ : ∃ z, z = zsI M32 b36 ((20 * x2) + x1) 1 := ⟨_, rfl⟩
          rw [← hmM40]
          have h := h M40 hmM40
          refine z_iconst dX7_near_73 (by decide) ?_
          exact z_zret hr dX7_near_74 (Nat.le_of_ble_eq_true rfl) (Nat.le_of_ble_eq_true rfl) (by decide) ⟨_, rfl, h⟩
        · have h := h.2 q25
          refine z_iconst dX7_near_47 (by decide) ?_
          exact z_zret hr dX7_near_48 (Nat.le_of_ble_eq_true rfl) (Nat.le_of_ble_eq_true rfl) (by decide) ⟨_, rfl, h⟩
theorem sX7_near {E : zE} {d : Nat} {P : Int → zM → Prop} {M : zM} (a0 : Nat) (x1 : Int) (x2 : Int) (h : ∀ X : zX, (xh X).sig.returnType = (some .boolean) → ZX7_near E d X P 0 [(0, vR (some a0)), (1, vI x1), (2, vI x2)] [] M 0 0) : zCi E mX7_near (d + 1) 0 0 [vR (some a0), vI x1, vI x2] M P := z_start (f := mX7_near) rfl (Nat.le_of_ble_eq_true rfl) rfl h
abbrev ZX7_gang (E : zE) (d : Nat) (X : zX) (P : Int → zM → Prop) (pc : Nat) (Lc : List (Nat × zV)) (S : List zV) (M : zM) (ce sl : Nat) : Prop := zZ cX7_gang RX7 "gang" 3 E (zrm (d + 1) 0 0) X (zQ E (zPi P) X 0 0) pc Lc S M ce sl
set_option maxRecDepth 20000 in
theorem vX7_gang_0 {E : zE} {d : Nat} {X : zX} {P : Int → zM → Prop} {M : zM} (hr : (xh X).sig.returnType = (some .boolean)) (a0 : Nat) (x1 : Int) (x2 : Int)
    (h : ∃ P1 : Int → zM → Prop, zCi E mX7_in d 0 0 [vI x1, vI 0, vI 3] M P1 ∧ ∀ r4 M3, P1 r4 M3 → ((r4 = 0 → P 0 M3) ∧ (r4 ≠ 0 → ∃ P7 : Int → zM → Prop, zCi E mX7_in d 0 0 [vI x2, vI 0, vI 99] M3 P7 ∧ ∀ r10 M9, P7 r10 M9 → ((r10 ≠ 0 → zK M9 a0 = (8, 25) ∧ ∃ b14, zR M9 a0 4 = some b14 ∧ (zK M9 b14).1 = 9 ∧ 0 ≤ x1 ∧ x1 < ((zK M9 b14).2 : Int) ∧ ∀ M18, M18 = zsI M9 b14 x1 x2 → P 1 M18) ∧ (r10 = 0 → P 0 M9))))) :
    ZX7_gang E d X P 0 [(0, vR (some a0)), (1, vI x1), (2, vI x2)] [] M 0 0 := by
  refine z_iload_n 1 dX7_gang_0 rfl ?_
  refine z_iconst dX7_gang_1 (by decide) ?_
  refine z_iconst dX7_gang_2 (by decide) ?_
  obtain ⟨P1, c2, h⟩ := h
  refine z_Si (as := [vI x1, vI 0, vI 3]) ms_X7_78 dX7_gang_3 c2 rfl rfl (Nat.le_of_ble_eq_true rfl) (Nat.le_of_ble_eq_true rfl) (Nat.le_of_ble_eq_true rfl) (fun r4 M3 p5 => ?_)
  have h := h r4 M3 p5
  refine z_if_eq (tgt := 19) dX7_gang_6 (by decide) (fun q6 => ?_) (fun q6 => ?_)
  · have h := h.1 q6
    refine z_iconst dX7_gang_19 (by decide) ?_
    exact z_zret hr dX7_gang_20 (Nat.le_of_ble_eq_true rfl) (Nat.le_of_ble_eq_true rfl) (by decide) ⟨_, rfl, h⟩
  · have h := h.2 q6
    refine z_iload_n 2 dX7_gang_9 rfl ?_
    refine z_iconst dX7_gang_10 (by decide) ?_
    refine z_bipush dX7_gang_11 (by decide) ?_
    obtain ⟨P7, c8, h⟩ := h
    refine z_Si (as := [vI x2, vI 0, vI 99]) ms_X7_78 dX7_gang_13 c8 rfl rfl (Nat.le_of_ble_eq_true rfl) (Nat.le_of_ble_eq_true rfl) (Nat.le_of_ble_eq_true rfl) (fun r10 M9 p11 => ?_)
    have h := h r10 M9 p11
    refine z_if_ne (tgt := 21) dX7_gang_16 (by decide) (fun q12 => ?_) (fun q12 => ?_)
    · have h := h.1 q12
      refine z_aload_n 0 dX7_gang_21 rfl ?_
      obtain ⟨q13, h⟩ := h
      refine z_getR fl_X7_17 rfl dX7_gang_22 q13 ?_
      refine z_iload_n 1 dX7_gang_25 rfl ?_
      refine z_iload_n 2 dX7_gang_26 rfl ?_
      obtain ⟨b14, eb14, h⟩ := h
      rw [eb14]
      obtain ⟨q15, h⟩ := h
      obtain ⟨q16, h⟩ := h
      obtain ⟨q17, h⟩ := h
      refine z_iast dX7_gang_27 (n := (zK M9 b14).2) (Prod.ext q15 rfl) q16 q17 ?_
      obtain ⟨M18, hmM18⟩ : ∃ z, z = zsI M9 b14 x1 x2 := ⟨_, rfl⟩
      rw [← hmM18]
      have h := h M18 hmM18
      refine z_iconst dX7_gang_28 (by decide) ?_
      exact z_zret hr dX7_gang_29 (Nat.le_of_ble_eq_true rfl) (Nat.le_of_ble_eq_true rfl) (by decide) ⟨_, rfl, h⟩
    · have h := h.2 q12
      refine z_iconst dX7_gang_19 (by decide) ?_
      exact z_zret hr dX7_gang_20 (Nat.le_of_ble_eq_true rfl) (Nat.le_of_ble_eq_true rfl) (by decide) ⟨_, rfl, h⟩
theorem sX7_gang {E : zE} {d : Nat} {P : Int → zM → Prop} {M : zM} (a0 : Nat) (x1 : Int) (x2 : Int) (h : ∀ X : zX, (xh X).sig.returnType = (some .boolean) → ZX7_gang E d X P 0 [(0, vR (some a0)), (1, vI x1), (2, vI x2)] [] M 0 0) : zCi E mX7_gang (d + 1) 0 0 [vR (some a0), vI x1, vI x2] M P := z_start (f := mX7_gang) rfl (Nat.le_of_ble_eq_true rfl) rfl h
abbrev ZX7_good (E : zE) (d : Nat) (X : zX) (P : Int → zM → Prop) (pc : Nat) (Lc : List (Nat × zV)) (S : List zV) (M : zM) (ce sl : Nat) : Prop := zZ cX7_good RX7 "good" 3 E (zrm (d + 1) 0 0) X (zQ E (zPi P) X 0 0) pc Lc S M ce sl
set_option maxRecDepth 20000 in
theorem vX7_good_0 {E : zE} {d : Nat} {X : zX} {P : Int → zM → Prop} {M : zM} (hr : (xh X).sig.returnType = (some .boolean)) (a0 : Nat) (x1 : Int) (x2 : Int)
    (h : ∃ P1 : Int → zM → Prop, zCi E mX7_in d 0 0 [vI x1, vI 0, vI 3] M P1 ∧ ∀ r4 M3, P1 r4 M3 → ((r4 = 0 → P 0 M3) ∧ (r4 ≠ 0 → ∃ P7 : Int → zM → Prop, zCi E mX7_in d 0 0 [vI x2, vI 0, vI 9] M3 P7 ∧ ∀ r10 M9, P7 r10 M9 → ((r10 ≠ 0 → zK M9 a0 = (8, 25) ∧ ∃ b14, zR M9 a0 5 = some b14 ∧ (zK M9 b14).1 = 9 ∧ 0 ≤ x1 ∧ x1 < ((zK M9 b14).2 : Int) ∧ ∀ M18, M18 = zsI M9 b14 x1 x2 → P 1 M18) ∧ (r10 = 0 → P 0 M9))))) :
    ZX7_good E d X P 0 [(0, vR (some a0)), (1, vI x1), (2, vI x2)] [] M 0 0 := by
  refine z_iload_n 1 dX7_good_0 rfl ?_
  refine z_iconst dX7_good_1 (by decide) ?_
  refine z_iconst dX7_good_2 (by decide) ?_
  obtain ⟨P1, c2, h⟩ := h
  refine z_Si (as := [vI x1, vI 0, vI 3]) ms_X7_78 dX7_good_3 c2 rfl rfl (Nat.le_of_ble_eq_true rfl) (Nat.le_of_ble_eq_true rfl) (Nat.le_of_ble_eq_true rfl) (fun r4 M3 p5 => ?_)
  have h := h r4 M3 p5
  refine z_if_eq (tgt := 19) dX7_good_6 (by decide) (fun q6 => ?_) (fun q6 => ?_)
  · have h := h.1 q6
    refine z_iconst dX7_good_19 (by decide) ?_
    exact z_zret hr dX7_good_20 (Nat.le_of_ble_eq_true rfl) (Nat.le_of_ble_eq_true rfl) (by decide) ⟨_, rfl, h⟩
  · have h := h.2 q6
    refine z_iload_n 2 dX7_good_9 rfl ?_
    refine z_iconst dX7_good_10 (by decide) ?_
    refine z_bipush dX7_good_11 (by decide) ?_
    obtain ⟨P7, c8, h⟩ := h
    refine z_Si (as := [vI x2, vI 0, vI 9]) ms_X7_78 dX7_good_13 c8 rfl rfl (Nat.le_of_ble_eq_true rfl) (Nat.le_of_ble_eq_true rfl) (Nat.le_of_ble_eq_true rfl) (fun r10 M9 p11 => ?_)
    have h := h r10 M9 p11
    refine z_if_ne (tgt := 21) dX7_good_16 (by decide) (fun q12 => ?_) (fun q12 => ?_)
    · have h := h.1 q12
      refine z_aload_n 0 dX7_good_21 rfl ?_
      obtain ⟨q13, h⟩ := h
      refine z_getR fl_X7_20 rfl dX7_good_22 q13 ?_
      refine z_iload_n 1 dX7_good_25 rfl ?_
      refine z_iload_n 2 dX7_good_26 rfl ?_
      obtain ⟨b14, eb14, h⟩ := h
      rw [eb14]
      obtain ⟨q15, h⟩ := h
      obtain ⟨q16, h⟩ := h
      obtain ⟨q17, h⟩ := h
      refine z_iast dX7_good_27 (n := (zK M9 b14).2) (Prod.ext q15 rfl) q16 q17 ?_
      obtain ⟨M18, hmM18⟩ : ∃ z, z = zsI M9 b14 x1 x2 := ⟨_, rfl⟩
      rw [← hmM18]
      have h := h M18 hmM18
      refine z_iconst dX7_good_28 (by decide) ?_
      exact z_zret hr dX7_good_29 (Nat.le_of_ble_eq_true rfl) (Nat.le_of_ble_eq_true rfl) (by decide) ⟨_, rfl, h⟩
    · have h := h.2 q12
      refine z_iconst dX7_good_19 (by decide) ?_
      exact z_zret hr dX7_good_20 (Nat.le_of_ble_eq_true rfl) (Nat.le_of_ble_eq_true rfl) (by decide) ⟨_, rfl, h⟩
theorem sX7_good {E : zE} {d : Nat} {P : Int → zM → Prop} {M : zM} (a0 : Nat) (x1 : Int) (x2 : Int) (h : ∀ X : zX, (xh X).sig.returnType = (some .boolean) → ZX7_good E d X P 0 [(0, vR (some a0)), (1, vI x1), (2, vI x2)] [] M 0 0) : zCi E mX7_good (d + 1) 0 0 [vR (some a0), vI x1, vI x2] M P := z_start (f := mX7_good) rfl (Nat.le_of_ble_eq_true rfl) rfl h
abbrev ZX7_bar (E : zE) (d : Nat) (X : zX) (P : Int → zM → Prop) (pc : Nat) (Lc : List (Nat × zV)) (S : List zV) (M : zM) (ce sl : Nat) : Prop := zZ cX7_bar RX7 "bar" 4 E (zrm (d + 1) 0 0) X (zQ E (zPi P) X 0 0) pc Lc S M ce sl
set_option maxRecDepth 20000 in
theorem vX7_bar_0 {E : zE} {d : Nat} {X : zX} {P : Int → zM → Prop} {M : zM} (hr : (xh X).sig.returnType = (some .boolean)) (a0 : Nat) (x1 : Int) (x2 : Int) (x3 : Int)
    (h : ∃ P1 : Int → zM → Prop, zCi E mX7_in d 0 0 [vI x1, vI 0, vI 4] M P1 ∧ ∀ r4 M3, P1 r4 M3 → ((r4 = 0 → P 0 M3) ∧ (r4 ≠ 0 → ∃ P7 : Int → zM → Prop, zCi E mX7_in d 0 0 [vI x2, vI 0, vI 4] M3 P7 ∧ ∀ r10 M9, P7 r10 M9 → ((r10 = 0 → P 0 M9) ∧ (r10 ≠ 0 → ∃ P13 : Int → zM → Prop, zCi E mX7_in d 0 0 [vI x3, vI 0, vI 2] M9 P13 ∧ ∀ r16 M15, P13 r16 M15 → ((r16 = 0 → P 0 M15) ∧ (r16 ≠ 0 → zK M15 a0 = (8, 25) ∧ zin (5 * x1) ∧ zin ((5 * x1) + x2) ∧ ∃ b22, zR M15 a0 7 = some b22 ∧ (zK M15 b22).1 = 9 ∧ 0 ≤ ((5 * x1) + x2) ∧ ((5 * x1) + x2) < ((zK M15 b22).2 : Int) ∧ (0 : Int) ≤ (zI M15 b22 ((5 * x1) + x2)) ∧ (zI M15 b22 ((5 * x1) + x2)) < (8 : Int) ∧ (0 : Int) ≤ x3 ∧ x3 < (3 : Int) ∧ (0 : Int) ≤ (zshr (zI M15 b22 ((5 * x1) + x2)) x3) ∧ (0 : Int) ≤ 1 ∧ (((zand (zshr (zI M15 b22 ((5 * x1) + x2)) x3) 1) ≠ 1 → zK M15 a0 = (8, 25) ∧ zin (5 * x1) ∧ zin ((5 * x1) + x2) ∧ (zK M15 b22).1 = 9 ∧ 0 ≤ ((5 * x1) + x2) ∧ ((5 * x1) + x2) < ((zK M15 b22).2 : Int) ∧ (0 : Int) ≤ x3 ∧ x3 < (31 : Int) ∧ (0 : Int) ≤ (zI M15 b22 ((5 * x1) + x2)) ∧ (0 : Int) ≤ (zpw x3) ∧ (zK M15 b22).1 = 9 ∧ 0 ≤ ((5 * x1) + x2) ∧ ((5 * x1) + x2) < ((zK M15 b22).2 : Int) ∧ ∀ M46, M46 = zsI M15 b22 ((5 * x1) + x2) (zor (zI M15 b22 ((5 * x1) + x2)) (zpw x3)) → ((x1 = x2 → zK M46 a0 = (8, 25) ∧ zin ((zI M46 a0 6) + 1) ∧ zK M46 a0 = (8, 25) ∧ ∀ M51, M51 = zsI M46 a0 6 ((zI M46 a0 6) + 1) → P 1 M51) ∧ (x1 ≠ x2 → zK M46 a0 = (8, 25) ∧ zin (5 * x2) ∧ zin ((5 * x2) + x1) ∧ ∃ b55, zR M46 a0 7 = some b55 ∧ (zK M46 b55).1 = 9 ∧ 0 ≤ ((5 * x2) + x1) ∧ ((5 * x2) + x1) < ((zK M46 b55).2 : Int) ∧ (0 : Int) ≤ x3 ∧ x3 < (31 : Int) ∧ (0 : Int) ≤ (zI M46 b55 ((5 * x2) + x1)) ∧ (0 : Int) ≤ (zpw x3) ∧ (zK M46 b55).1 = 9 ∧ 0 ≤ ((5 * x2) + x1) ∧ ((5 * x2) + x1) < ((zK M46 b55).2 : Int) ∧ ∀ M66, M66 = zsI M46 b55 ((5 * x2) + x1) (zor (zI M46 b55 ((5 * x2) + x1)) (zpw x3)) → zK M66 a0 = (8, 25) ∧ zin ((zI M66 a0 6) + 1) ∧ zK M66 a0 = (8, 25) ∧ ∀ M70, M70 = zsI M66 a0 6 ((zI M66 a0 6) + 1) → P 1 M70))) ∧ ((zand (zshr (zI M15 b22 ((5 * x1) + x2)) x3) 1) = 1 → P 0 M15))))))))) :
    ZX7_bar E d X P 0 [(0, vR (some a0)), (1, vI x1), (2, vI x2), (3, vI x3)] [] M 0 0 := by
  refine z_iload_n 1 dX7_bar_0 rfl ?_
  refine z_iconst dX7_bar_1 (by decide) ?_
  refine z_iconst dX7_bar_2 (by decide) ?_
  obtain ⟨P1, c2, h⟩ := h
  refine z_Si (as := [vI x1, vI 0, vI 4]) ms_X7_78 dX7_bar_3 c2 rfl rfl (Nat.le_of_ble_eq_true rfl) (Nat.le_of_ble_eq_true rfl) (Nat.le_of_ble_eq_true rfl) (fun r4 M3 p5 => ?_)
  have h := h r4 M3 p5
  refine z_if_eq (tgt := 45) dX7_bar_6 (by decide) (fun q6 => ?_) (fun q6 => ?_)
  · have h := h.1 q6
    refine z_iconst dX7_bar_45 (by decide) ?_
    exact z_zret hr dX7_bar_46 (Nat.le_of_ble_eq_true rfl) (Nat.le_of_ble_eq_true rfl) (by decide) ⟨_, rfl, h⟩
  · have h := h.2 q6
    refine z_iload_n 2 dX7_bar_9 rfl ?_
    refine z_iconst dX7_bar_10 (by decide) ?_
    refine z_iconst dX7_bar_11 (by decide) ?_
    obtain ⟨P7, c8, h⟩ := h
    refine z_Si (as := [vI x2, vI 0, vI 4]) ms_X7_78 dX7_bar_12 c8 rfl rfl (Nat.le_of_ble_eq_true rfl) (Nat.le_of_ble_eq_true rfl) (Nat.le_of_ble_eq_true rfl) (fun r10 M9 p11 => ?_)
    have h := h r10 M9 p11
    refine z_if_eq (tgt := 45) dX7_bar_15 (by decide) (fun q12 => ?_) (fun q12 => ?_)
    · have h := h.1 q12
      refine z_iconst dX7_bar_45 (by decide) ?_
      exact z_zret hr dX7_bar_46 (Nat.le_of_ble_eq_true rfl) (Nat.le_of_ble_eq_true rfl) (by decide) ⟨_, rfl, h⟩
    · have h := h.2 q12
      refine z_iload_n 3 dX7_bar_18 rfl ?_
      refine z_iconst dX7_bar_19 (by decide) ?_
      refine z_iconst dX7_bar_20 (by decide) ?_
      obtain ⟨P13, c14, h⟩ := h
      refine z_Si (as := [vI x3, vI 0, vI 2]) ms_X7_78 dX7_bar_21 c14 rfl rfl (Nat.le_of_ble_eq_true rfl) (Nat.le_of_ble_eq_true rfl) (Nat.le_of_ble_eq_true rfl) (fun r16 M15 p17 => ?_)
      have h := h r16 M15 p17
      refine z_if_eq (tgt := 45) dX7_bar_24 (by decide) (fun q18 => ?_) (fun q18 => ?_)
      · have h := h.1 q18
        refine z_iconst dX7_bar_45 (by decide) ?_
        exact z_zret hr dX7_bar_46 (Nat.le_of_ble_eq_true rfl) (Nat.le_of_ble_eq_true rfl) (by decide) ⟨_, rfl, h⟩
      · have h := h.2 q18
        refine z_aload_n 0 dX7_bar_27 rfl ?_
        obtain ⟨q19, h⟩ := h
        refine z_getR fl_X7_23 rfl dX7_bar_28 q19 ?_
        refine z_iconst dX7_bar_31 (by decide) ?_
        refine z_iload_n 1 dX7_bar_32 rfl ?_
        obtain ⟨q20, h⟩ := h
        refine z_imul dX7_bar_33 q20 ?_
        refine z_iload_n 2 dX7_bar_34 rfl ?_
        obtain ⟨q21, h⟩ := h
        refine z_iadd dX7_bar_35 q21 ?_
        obtain ⟨b22, eb22, h⟩ := h
        rw [eb22]
        obtain ⟨q23, h⟩ := h
        obtain ⟨q24, h⟩ := h
        obtain ⟨q25, h⟩ := h
        refine z_iald dX7_bar_36 (n := (zK M15 b22).2) (Prod.ext q23 rfl) q24 q25 ?_
        refine z_iload_n 3 dX7_bar_37 rfl ?_
        obtain ⟨q26, h⟩ := h
        obtain ⟨q27, h⟩ := h
        obtain ⟨q28, h⟩ := h
        obtain ⟨q29, h⟩ := h
        refine z_ishr dX7_bar_38 q26 q27 q28 q29 ?_
        refine z_iconst dX7_bar_39 (by decide) ?_
        obtain ⟨q30, h⟩ := h
        obtain ⟨q31, h⟩ := h
        refine z_iand dX7_bar_40 q30 q31 ?_
        refine z_iconst dX7_bar_41 (by decide) ?_
        refine z_icmp_ne (tgt := 47) dX7_bar_42 (by decide) (fun q32 => ?_) (fun q32 => ?_)
        · have h := h.1 q32
          refine z_aload_n 0 dX7_bar_47 rfl ?_
          obtain ⟨q33, h⟩ := h
          refine z_getR fl_X7_23 rfl dX7_bar_48 q33 ?_
          rw [eb22]
          refine z_iconst dX7_bar_51 (by decide) ?_
          refine z_iload_n 1 dX7_bar_52 rfl ?_
          obtain ⟨q34, h⟩ := h
          refine z_imul dX7_bar_53 q34 ?_
          refine z_iload_n 2 dX7_bar_54 rfl ?_
          obtain ⟨q35, h⟩ := h
          refine z_iadd dX7_bar_55 q35 ?_
          refine z_dup2 dX7_bar_56 rfl rfl ?_
          obtain ⟨q36, h⟩ := h
          obtain ⟨q37, h⟩ := h
          obtain ⟨q38, h⟩ := h
          refine z_iald dX7_bar_57 (n := (zK M15 b22).2) (Prod.ext q36 rfl) q37 q38 ?_
          refine z_iconst dX7_bar_58 (by decide) ?_
          refine z_iload_n 3 dX7_bar_59 rfl ?_
          obtain ⟨q39, h⟩ := h
          obtain ⟨q40, h⟩ := h
          refine z_ishl dX7_bar_60 q39 q40 ?_
          obtain ⟨q41, h⟩ := h
          obtain ⟨q42, h⟩ := h
          refine z_ior dX7_bar_61 q41 q42 ?_
          obtain ⟨q43, h⟩ := h
          obtain ⟨q44, h⟩ := h
          obtain ⟨q45, h⟩ := h
          refine z_iast dX7_bar_62 (n := (zK M15 b22).2) (Prod.ext q43 rfl) q44 q45 ?_
          obtain ⟨M46, hmM46⟩ : ∃ z, z = zsI M15 b22 ((5 * x1) + x2) (zor (zI M15 b22 ((5 * x1) + x2)) (zpw x3)) := ⟨_, rfl⟩
          rw [← hmM46]
          have h := h M46 hmM46
          refine z_iload_n 1 dX7_bar_63 rfl ?_
          refine z_iload_n 2 dX7_bar_64 rfl ?_
          refine z_icmp_eq (tgt := 84) dX7_bar_65 (by decide) (fun q47 => ?_) (fun q47 => ?_)
          · have h := h.1 q47
            refine z_aload_n 0 dX7_bar_84 rfl ?_
            refine z_dup dX7_bar_85 rfl ?_
            obtain ⟨q48, h⟩ := h
            refine z_getI fl_X7_85 dX7_bar_86 q48 ?_
            refine z_iconst dX7_bar_89 (by decide) ?_
            obtain ⟨q49, h⟩ := h
            refine z_iadd dX7_bar_90 q49 ?_
            obtain ⟨q50, h⟩ := h
            refine z_putI fl_X7_85 (Or.inl rfl) dX7_bar_91 q50 ?_
            obtain ⟨M51, hmM51⟩ : ∃ z, z = zsI M46 a0 6 ((zI M46 a0 6) + 1) := ⟨_, rfl⟩
            rw [← hmM51]
            have h := h M51 hmM51
            refine z_iconst dX7_bar_94 (by decide) ?_
            exact z_zret hr dX7_bar_95 (Nat.le_of_ble_eq_true rfl) (Nat.le_of_ble_eq_true rfl) (by decide) ⟨_, rfl, h⟩
          · have h := h.2 q47
            refine z_aload_n 0 dX7_bar_68 rfl ?_
            obtain ⟨q52, h⟩ := h
            refine z_getR fl_X7_23 rfl dX7_bar_69 q52 ?_
            refine z_iconst dX7_bar_72 (by decide) ?_
            refine z_iload_n 2 dX7_bar_73 rfl ?_
            obtain ⟨q53, h⟩ := h
            refine z_imul dX7_bar_74 q53 ?_
            refine z_iload_n 1 dX7_bar_75 rfl ?_
            obtain ⟨q54, h⟩ := h
            refine z_iadd dX7_bar_76 q54 ?_
            refine z_dup2 dX7_bar_77 rfl rfl ?_
            obtain ⟨b55, eb55, h⟩ := h
            rw [eb55]
            obtain ⟨q56, h⟩ := h
            obtain ⟨q57, h⟩ := h
            obtain ⟨q58, h⟩ := h
            refine z_iald dX7_bar_78 (n := (zK M46 b55).2) (Prod.ext q56 rfl) q57 q58 ?_
            refine z_iconst dX7_bar_79 (by decide) ?_
            refine z_iload_n 3 dX7_bar_80 rfl ?_
            obtain ⟨q59, h⟩ := h
            obtain ⟨q60, h⟩ := h
            refine z_ishl dX7_bar_81 q59 q60 ?_
            obtain ⟨q61, h⟩ := h
            obtain ⟨q62, h⟩ := h
            refine z_ior dX7_bar_82 q61 q62 ?_
            obtain ⟨q63, h⟩ := h
            obtain ⟨q64, h⟩ := h
            obtain ⟨q65, h⟩ := h
            refine z_iast dX7_bar_83 (n := (zK M46 b55).2) (Prod.ext q63 rfl) q64 q65 ?_
            obtain ⟨M66, hmM66⟩ : ∃ z, z = zsI M46 b55 ((5 * x2) + x1) (zor (zI M46 b55 ((5 * x2) + x1)) (zpw x3)) := ⟨_, rfl⟩
            rw [← hmM66]
            have h := h M66 hmM66
            refine z_aload_n 0 dX7_bar_84 rfl ?_
            refine z_dup dX7_bar_85 rfl ?_
            obtain ⟨q67, h⟩ := h
            refine z_getI fl_X7_85 dX7_bar_86 q67 ?_
            refine z_iconst dX7_bar_89 (by decide) ?_
            obtain ⟨q68, h⟩ := h
            refine z_iadd dX7_bar_90 q68 ?_
            obtain ⟨q69, h⟩ := h
            refine z_putI fl_X7_85 (Or.inl rfl) dX7_bar_91 q69 ?_
            obtain ⟨M70, hmM70⟩ : ∃ z, z = zsI M66 a0 6 ((zI M66 a0 6) + 1) := ⟨_, rfl⟩
            rw [← hmM70]
            have h := h M70 hmM70
            refine z_iconst dX7_bar_94 (by decide) ?_
            exact z_zret hr dX7_bar_95 (Nat.le_of_ble_eq_true rfl) (Nat.le_of_ble_eq_true rfl) (by decide) ⟨_, rfl, h⟩
        · have h := h.2 q32
          refine z_iconst dX7_bar_45 (by decide) ?_
          exact z_zret hr dX7_bar_46 (Nat.le_of_ble_eq_true rfl) (Nat.le_of_ble_eq_true rfl) (by decide) ⟨_, rfl, h⟩
theorem sX7_bar {E : zE} {d : Nat} {P : Int → zM → Prop} {M : zM} (a0 : Nat) (x1 : Int) (x2 : Int) (x3 : Int) (h : ∀ X : zX, (xh X).sig.returnType = (some .boolean) → ZX7_bar E d X P 0 [(0, vR (some a0)), (1, vI x1), (2, vI x2), (3, vI x3)] [] M 0 0) : zCi E mX7_bar (d + 1) 0 0 [vR (some a0), vI x1, vI x2, vI x3] M P := z_start (f := mX7_bar) rfl (Nat.le_of_ble_eq_true rfl) rfl h
abbrev ZX7_work (E : zE) (d : Nat) (X : zX) (P : Int → zM → Prop) (pc : Nat) (Lc : List (Nat × zV)) (S : List zV) (M : zM) (ce sl : Nat) : Prop := zZ cX7_work RX7 "work" 8 E (zrm (d + 1) 0 0) X (zQ E (zPi P) X 0 0) pc Lc S M ce sl
set_option maxRecDepth 20000 in
theorem vX7_work_0 {E : zE} {d : Nat} {X : zX} {P : Int → zM → Prop} {M : zM} (hr : (xh X).sig.returnType = (some .int)) (a0 : Nat) (x1 : Int) (x2 : Int)
    (h : 0 < (100000 : Int) ∧ 0 < (10000 : Int) ∧ 0 < (10 : Int) ∧ 0 < (1000 : Int) ∧ 0 < (10 : Int) ∧ 0 < (100 : Int) ∧ 0 < (10 : Int) ∧ 0 < (100 : Int) ∧ ((x1 < 0 → P (-1) M) ∧ (0 ≤ x1 → ∃ P10 : Int → zM → Prop, zCi E mX7_in d 0 0 [vI (Int.tdiv x1 100000), vI 1, vI 40] M P10 ∧ ∀ r13 M12, P10 r13 M12 → ((r13 = 0 → P (-1) M12) ∧ (r13 ≠ 0 → (((Int.tmod (Int.tdiv x1 10000) 10) < 1 → P (-1) M12) ∧ (1 ≤ (Int.tmod (Int.tdiv x1 10000) 10) → ((3 < (Int.tmod (Int.tdiv x1 1000) 10) → P (-1) M12) ∧ ((Int.tmod (Int.tdiv x1 1000) 10) ≤ 3 → ((4 < (Int.tmod (Int.tdiv x1 100) 10) → P (-1) M12) ∧ ((Int.tmod (Int.tdiv x1 100) 10) ≤ 4 → zK M12 a0 = (8, 25) ∧ (((zI M12 a0 1) ≤ (Int.tmod x1 100) → P (-1) M12) ∧ ((Int.tmod x1 100) < (zI M12 a0 1) → ∃ P21 : Int → zM → Prop, zCi E mX7_in d 0 0 [vI x2, vI (-1), vI 3] M12 P21 ∧ ∀ r24 M23, P21 r24 M23 → ((r24 = 0 → P (-1) M23) ∧ (r24 ≠ 0 → zK M23 a0 = (8, 25) ∧ (((zI M23 a0 8) ≠ 40 → zK M23 a0 = (8, 25) ∧ zK M23 a0 = (8, 25) ∧ ∃ b31, zR M23 a0 9 = some b31 ∧ (zK M23 b31).1 = 9 ∧ 0 ≤ (zI M23 a0 8) ∧ (zI M23 a0 8) < ((zK M23 b31).2 : Int) ∧ ∀ M35, M35 = zsI M23 b31 (zI M23 a0 8) (Int.tdiv x1 100000) → zK M35 a0 = (8, 25) ∧ zK M35 a0 = (8, 25) ∧ ∃ b38, zR M35 a0 10 = some b38 ∧ (zK M35 b38).1 = 9 ∧ 0 ≤ (zI M35 a0 8) ∧ (zI M35 a0 8) < ((zK M35 b38).2 : Int) ∧ ∀ M42, M42 = zsI M35 b38 (zI M35 a0 8) (Int.tmod (Int.tdiv x1 1000) 10) → zK M42 a0 = (8, 25) ∧ zK M42 a0 = (8, 25) ∧ ∃ b45, zR M42 a0 11 = some b45 ∧ (zK M42 b45).1 = 9 ∧ 0 ≤ (zI M42 a0 8) ∧ (zI M42 a0 8) < ((zK M42 b45).2 : Int) ∧ ∀ M49, M49 = zsI M42 b45 (zI M42 a0 8) (Int.tmod (Int.tdiv x1 10000) 10) → zK M49 a0 = (8, 25) ∧ zK M49 a0 = (8, 25) ∧ ∃ b52, zR M49 a0 12 = some b52 ∧ (zK M49 b52).1 = 9 ∧ 0 ≤ (zI M49 a0 8) ∧ (zI M49 a0 8) < ((zK M49 b52).2 : Int) ∧ ∀ M56, M56 = zsI M49 b52 (zI M49 a0 8) (Int.tmod x1 100) → zK M56 a0 = (8, 25) ∧ zK M56 a0 = (8, 25) ∧ ∃ b59, zR M56 a0 13 = some b59 ∧ (zK M56 b59).1 = 9 ∧ 0 ≤ (zI M56 a0 8) ∧ (zI M56 a0 8) < ((zK M56 b59).2 : Int) ∧ ∀ M63, M63 = zsI M56 b59 (zI M56 a0 8) (Int.tmod (Int.tdiv x1 100) 10) → zK M63 a0 = (8, 25) ∧ zK M63 a0 = (8, 25) ∧ ∃ b66, zR M63 a0 14 = some b66 ∧ (zK M63 b66).1 = 9 ∧ 0 ≤ (zI M63 a0 8) ∧ (zI M63 a0 8) < ((zK M63 b66).2 : Int) ∧ ∀ M70, M70 = zsI M63 b66 (zI M63 a0 8) x2 → zK M70 a0 = (8, 25) ∧ zK M70 a0 = (8, 25) ∧ ∃ b73, zR M70 a0 15 = some b73 ∧ (zK M70 b73).1 = 9 ∧ 0 ≤ (zI M70 a0 8) ∧ (zI M70 a0 8) < ((zK M70 b73).2 : Int) ∧ ∀ M77, M77 = zsI M70 b73 (zI M70 a0 8) (-1) → zK M77 a0 = (8, 25) ∧ zin ((zI M77 a0 8) + 1) ∧ zK M77 a0 = (8, 25) ∧ ∀ M81, M81 = zsI M77 a0 8 ((zI M77 a0 8) + 1) → zK M81 a0 = (8, 25) ∧ zin ((zI M81 a0 8) - 1) ∧ P ((zI M81 a0 8) - 1) M81) ∧ ((zI M23 a0 8) = 40 → P (-1) M23))))))))))))))))) :
    ZX7_work E d X P 0 [(0, vR (some a0)), (1, vI x1), (2, vI x2)] [] M 0 0 := by
  refine z_iload_n 1 dX7_work_0 rfl ?_
  refine z_ldc (n := 100000) dX7_work_1 kw_788 rfl (by decide) ?_
  obtain ⟨q1, h⟩ := h
  refine z_idiv dX7_work_3 q1 ?_
  refine z_istore_n dX7_work_4 (by decide) rfl ?_
  refine z_iload_n 2 dX7_work_5 rfl ?_
  refine z_sipush dX7_work_6 (by decide) ?_
  obtain ⟨q2, h⟩ := h
  refine z_idiv dX7_work_9 q2 ?_
  refine z_bipush dX7_work_10 (by decide) ?_
  obtain ⟨q3, h⟩ := h
  refine z_irem dX7_work_12 q3 ?_
  refine z_istore dX7_work_13 (by decide) rfl ?_
  refine z_iload_n 3 dX7_work_15 rfl ?_
  refine z_sipush dX7_work_16 (by decide) ?_
  obtain ⟨q4, h⟩ := h
  refine z_idiv dX7_work_19 q4 ?_
  refine z_bipush dX7_work_20 (by decide) ?_
  obtain ⟨q5, h⟩ := h
  refine z_irem dX7_work_22 q5 ?_
  refine z_istore dX7_work_23 (by decide) rfl ?_
  refine z_iload_n 4 dX7_work_25 rfl ?_
  refine z_bipush dX7_work_26 (by decide) ?_
  obtain ⟨q6, h⟩ := h
  refine z_idiv dX7_work_28 q6 ?_
  refine z_bipush dX7_work_29 (by decide) ?_
  obtain ⟨q7, h⟩ := h
  refine z_irem dX7_work_31 q7 ?_
  refine z_istore dX7_work_32 (by decide) rfl ?_
  refine z_iload_n 5 dX7_work_34 rfl ?_
  refine z_bipush dX7_work_35 (by decide) ?_
  obtain ⟨q8, h⟩ := h
  refine z_irem dX7_work_37 q8 ?_
  refine z_istore dX7_work_38 (by decide) rfl ?_
  refine z_iload_n 6 dX7_work_40 rfl ?_
  refine z_if_lt (tgt := 99) dX7_work_41 (by decide) (fun q9 => ?_) (fun q9 => ?_)
  · have h := h.1 q9
    refine z_iconst dX7_work_99 (by decide) ?_
    exact z_iret hr dX7_work_100 (Nat.le_of_ble_eq_true rfl) (Nat.le_of_ble_eq_true rfl) ⟨_, rfl, h⟩
  · have h := h.2 q9
    refine z_iload_n 4 dX7_work_44 rfl ?_
    refine z_iconst dX7_work_45 (by decide) ?_
    refine z_bipush dX7_work_46 (by decide) ?_
    obtain ⟨P10, c11, h⟩ := h
    refine z_Si (as := [vI (Int.tdiv x1 100000), vI 1, vI 40]) ms_X7_78 dX7_work_48 c11 rfl rfl (Nat.le_of_ble_eq_true rfl) (Nat.le_of_ble_eq_true rfl) (Nat.le_of_ble_eq_true rfl) (fun r13 M12 p14 => ?_)
    have h := h r13 M12 p14
    refine z_if_eq (tgt := 99) dX7_work_51 (by decide) (fun q15 => ?_) (fun q15 => ?_)
    · have h := h.1 q15
      refine z_iconst dX7_work_99 (by decide) ?_
      exact z_iret hr dX7_work_100 (Nat.le_of_ble_eq_true rfl) (Nat.le_of_ble_eq_true rfl) ⟨_, rfl, h⟩
    · have h := h.2 q15
      refine z_iload 3 dX7_work_54 rfl ?_
      refine z_iconst dX7_work_56 (by decide) ?_
      refine z_icmp_lt (tgt := 99) dX7_work_57 (by decide) (fun q16 => ?_) (fun q16 => ?_)
      · have h := h.1 q16
        refine z_iconst dX7_work_99 (by decide) ?_
        exact z_iret hr dX7_work_100 (Nat.le_of_ble_eq_true rfl) (Nat.le_of_ble_eq_true rfl) ⟨_, rfl, h⟩
      · have h := h.2 q16
        refine z_iload 2 dX7_work_60 rfl ?_
        refine z_iconst dX7_work_62 (by decide) ?_
        refine z_icmp_gt (tgt := 99) dX7_work_63 (by decide) (fun q17 => ?_) (fun q17 => ?_)
        · have h := h.1 q17
          refine z_iconst dX7_work_99 (by decide) ?_
          exact z_iret hr dX7_work_100 (Nat.le_of_ble_eq_true rfl) (Nat.le_of_ble_eq_true rfl) ⟨_, rfl, h⟩
        · have h := h.2 q17
          refine z_iload 1 dX7_work_66 rfl ?_
          refine z_iconst dX7_work_68 (by decide) ?_
          refine z_icmp_gt (tgt := 99) dX7_work_69 (by decide) (fun q18 => ?_) (fun q18 => ?_)
          · have h := h.1 q18
            refine z_iconst dX7_work_99 (by decide) ?_
            exact z_iret hr dX7_work_100 (Nat.le_of_ble_eq_true rfl) (Nat.le_of_ble_eq_true rfl) ⟨_, rfl, h⟩
          · have h := h.2 q18
            refine z_iload 0 dX7_work_72 rfl ?_
            refine z_aload_n 5 dX7_work_74 rfl ?_
            obtain ⟨q19, h⟩ := h
            refine z_getI fl_X7_82 dX7_work_75 q19 ?_
            refine z_icmp_ge (tgt := 99) dX7_work_78 (by decide) (fun q20 => ?_) (fun q20 => ?_)
            · have h := h.1 q20
              refine z_iconst dX7_work_99 (by decide) ?_
              exact z_iret hr dX7_work_100 (Nat.le_of_ble_eq_true rfl) (Nat.le_of_ble_eq_true rfl) ⟨_, rfl, h⟩
            · have h := h.2 q20
              refine z_iload_n 7 dX7_work_81 rfl ?_
              refine z_iconst dX7_work_82 (by decide) ?_
              refine z_iconst dX7_work_83 (by decide) ?_
              obtain ⟨P21, c22, h⟩ := h
              refine z_Si (as := [vI x2, vI (-1), vI 3]) ms_X7_78 dX7_work_84 c22 rfl rfl (Nat.le_of_ble_eq_true rfl) (Nat.le_of_ble_eq_true rfl) (Nat.le_of_ble_eq_true rfl) (fun r24 M23 p25 => ?_)
              have h := h r24 M23 p25
              refine z_if_eq (tgt := 99) dX7_work_87 (by decide) (fun q26 => ?_) (fun q26 => ?_)
              · have h := h.1 q26
                refine z_iconst dX7_work_99 (by decide) ?_
                exact z_iret hr dX7_work_100 (Nat.le_of_ble_eq_true rfl) (Nat.le_of_ble_eq_true rfl) ⟨_, rfl, h⟩
              · have h := h.2 q26
                refine z_aload_n 5 dX7_work_90 rfl ?_
                obtain ⟨q27, h⟩ := h
                refine z_getI fl_X7_74 dX7_work_91 q27 ?_
                refine z_bipush dX7_work_94 (by decide) ?_
                refine z_icmp_ne (tgt := 101) dX7_work_96 (by decide) (fun q28 => ?_) (fun q28 => ?_)
                · have h := h.1 q28
                  refine z_aload_n 5 dX7_work_101 rfl ?_
                  obtain ⟨q29, h⟩ := h
                  refine z_getR fl_X7_26 rfl dX7_work_102 q29 ?_
                  refine z_aload_n 5 dX7_work_105 rfl ?_
                  obtain ⟨q30, h⟩ := h
                  refine z_getI fl_X7_74 dX7_work_106 q30 ?_
                  refine z_iload_n 4 dX7_work_109 rfl ?_
                  obtain ⟨b31, eb31, h⟩ := h
                  rw [eb31]
                  obtain ⟨q32, h⟩ := h
                  obtain ⟨q33, h⟩ := h
                  obtain ⟨q34, h⟩ := h
                  refine z_iast dX7_work_110 (n := (zK M23 b31).2) (Prod.ext q32 rfl) q33 q34 ?_
                  obtain ⟨M35, hmM35⟩ : ∃ z, z = zsI M23 b31 (zI M23 a0 8) (Int.tdiv x1 100000) := ⟨_, rfl⟩
                  rw [← hmM35]
                  have h := h M35 hmM35
                  refine z_aload_n 5 dX7_work_111 rfl ?_
                  obtain ⟨q36, h⟩ := h
                  refine z_getR fl_X7_29 rfl dX7_work_112 q36 ?_
                  refine z_aload_n 5 dX7_work_115 rfl ?_
                  obtain ⟨q37, h⟩ := h
                  refine z_getI fl_X7_74 dX7_work_116 q37 ?_
                  refine z_iload 2 dX7_work_119 rfl ?_
                  obtain ⟨b38, eb38, h⟩ := h
                  rw [eb38]
                  obtain ⟨q39, h⟩ := h
                  obtain ⟨q40, h⟩ := h
                  obtain ⟨q41, h⟩ := h
                  refine z_iast dX7_work_121 (n := (zK M35 b38).2) (Prod.ext q39 rfl) q40 q41 ?_
                  obtain ⟨M42, hmM42⟩ : ∃ z, z = zsI M35 b38 (zI M35 a0 8) (Int.tmod (Int.tdiv x1 1000) 10) := ⟨_, rfl⟩
                  rw [← hmM42]
                  have h := h M42 hmM42
                  refine z_aload_n 5 dX7_work_122 rfl ?_
                  obtain ⟨q43, h⟩ := h
                  refine z_getR fl_X7_32 rfl dX7_work_123 q43 ?_
                  refine z_aload_n 5 dX7_work_126 rfl ?_
                  obtain ⟨q44, h⟩ := h
                  refine z_getI fl_X7_74 dX7_work_127 q44 ?_
                  refine z_iload 3 dX7_work_130 rfl ?_
                  obtain ⟨b45, eb45, h⟩ := h
                  rw [eb45]
                  obtain ⟨q46, h⟩ := h
                  obtain ⟨q47, h⟩ := h
                  obtain ⟨q48, h⟩ := h
                  refine z_iast dX7_work_132 (n := (zK M42 b45).2) (Prod.ext q46 rfl) q47 q48 ?_
                  obtain ⟨M49, hmM49⟩ : ∃ z, z = zsI M42 b45 (zI M42 a0 8) (Int.tmod (Int.tdiv x1 10000) 10) := ⟨_, rfl⟩
                  rw [← hmM49]
                  have h := h M49 hmM49
                  refine z_aload_n 5 dX7_work_133 rfl ?_
                  obtain ⟨q50, h⟩ := h
                  refine z_getR fl_X7_35 rfl dX7_work_134 q50 ?_
                  refine z_aload_n 5 dX7_work_137 rfl ?_
                  obtain ⟨q51, h⟩ := h
                  refine z_getI fl_X7_74 dX7_work_138 q51 ?_
                  refine z_iload 0 dX7_work_141 rfl ?_
                  obtain ⟨b52, eb52, h⟩ := h
                  rw [eb52]
                  obtain ⟨q53, h⟩ := h
                  obtain ⟨q54, h⟩ := h
                  obtain ⟨q55, h⟩ := h
                  refine z_iast dX7_work_143 (n := (zK M49 b52).2) (Prod.ext q53 rfl) q54 q55 ?_
                  obtain ⟨M56, hmM56⟩ : ∃ z, z = zsI M49 b52 (zI M49 a0 8) (Int.tmod x1 100) := ⟨_, rfl⟩
                  rw [← hmM56]
                  have h := h M56 hmM56
                  refine z_aload_n 5 dX7_work_144 rfl ?_
                  obtain ⟨q57, h⟩ := h
                  refine z_getR fl_X7_38 rfl dX7_work_145 q57 ?_
                  refine z_aload_n 5 dX7_work_148 rfl ?_
                  obtain ⟨q58, h⟩ := h
                  refine z_getI fl_X7_74 dX7_work_149 q58 ?_
                  refine z_iload 1 dX7_work_152 rfl ?_
                  obtain ⟨b59, eb59, h⟩ := h
                  rw [eb59]
                  obtain ⟨q60, h⟩ := h
                  obtain ⟨q61, h⟩ := h
                  obtain ⟨q62, h⟩ := h
                  refine z_iast dX7_work_154 (n := (zK M56 b59).2) (Prod.ext q60 rfl) q61 q62 ?_
                  obtain ⟨M63, hmM63⟩ : ∃ z, z = zsI M56 b59 (zI M56 a0 8) (Int.tmod (Int.tdiv x1 100) 10) := ⟨_, rfl⟩
                  rw [← hmM63]
                  have h := h M63 hmM63
                  refine z_aload_n 5 dX7_work_155 rfl ?_
                  obtain ⟨q64, h⟩ := h
                  refine z_getR fl_X7_41 rfl dX7_work_156 q64 ?_
                  refine z_aload_n 5 dX7_work_159 rfl ?_
                  obtain ⟨q65, h⟩ := h
                  refine z_getI fl_X7_74 dX7_work_160 q65 ?_
                  refine z_iload_n 7 dX7_work_163 rfl ?_
                  obtain ⟨b66, eb66, h⟩ := h
                  rw [eb66]
                  obtain ⟨q67, h⟩ := h
                  obtain ⟨q68, h⟩ := h
                  obtain ⟨q69, h⟩ := h
                  refine z_iast dX7_work_164 (n := (zK M63 b66).2) (Prod.ext q67 rfl) q68 q69 ?_
                  obtain ⟨M70, hmM70⟩ : ∃ z, z = zsI M63 b66 (zI M63 a0 8) x2 := ⟨_, rfl⟩
                  rw [← hmM70]
                  have h := h M70 hmM70
                  refine z_aload_n 5 dX7_work_165 rfl ?_
                  obtain ⟨q71, h⟩ := h
                  refine z_getR fl_X7_44 rfl dX7_work_166 q71 ?_
                  refine z_aload_n 5 dX7_work_169 rfl ?_
                  obtain ⟨q72, h⟩ := h
                  refine z_getI fl_X7_74 dX7_work_170 q72 ?_
                  refine z_iconst dX7_work_173 (by decide) ?_
                  obtain ⟨b73, eb73, h⟩ := h
                  rw [eb73]
                  obtain ⟨q74, h⟩ := h
                  obtain ⟨q75, h⟩ := h
                  obtain ⟨q76, h⟩ := h
                  refine z_iast dX7_work_174 (n := (zK M70 b73).2) (Prod.ext q74 rfl) q75 q76 ?_
                  obtain ⟨M77, hmM77⟩ : ∃ z, z = zsI M70 b73 (zI M70 a0 8) (-1) := ⟨_, rfl⟩
                  rw [← hmM77]
                  have h := h M77 hmM77
                  refine z_aload_n 5 dX7_work_175 rfl ?_
                  refine z_dup dX7_work_176 rfl ?_
                  obtain ⟨q78, h⟩ := h
                  refine z_getI fl_X7_74 dX7_work_177 q78 ?_
                  refine z_iconst dX7_work_180 (by decide) ?_
                  obtain ⟨q79, h⟩ := h
                  refine z_iadd dX7_work_181 q79 ?_
                  obtain ⟨q80, h⟩ := h
                  refine z_putI fl_X7_74 (Or.inl rfl) dX7_work_182 q80 ?_
                  obtain ⟨M81, hmM81⟩ : ∃ z, z = zsI M77 a0 8 ((zI M77 a0 8) + 1) := ⟨_, rfl⟩
                  rw [← hmM81]
                  have h := h M81 hmM81
                  refine z_aload_n 5 dX7_work_185 rfl ?_
                  obtain ⟨q82, h⟩ := h
                  refine z_getI fl_X7_74 dX7_work_186 q82 ?_
                  refine z_iconst dX7_work_189 (by decide) ?_
                  obtain ⟨q83, h⟩ := h
                  refine z_isub dX7_work_190 q83 ?_
                  exact z_iret hr dX7_work_191 (Nat.le_of_ble_eq_true rfl) (Nat.le_of_ble_eq_true rfl) ⟨_, rfl, h⟩
                · have h := h.2 q28
                  refine z_iconst dX7_work_99 (by decide) ?_
                  exact z_iret hr dX7_work_100 (Nat.le_of_ble_eq_true rfl) (Nat.le_of_ble_eq_true rfl) ⟨_, rfl, h⟩
theorem sX7_work {E : zE} {d : Nat} {P : Int → zM → Prop} {M : zM} (a0 : Nat) (x1 : Int) (x2 : Int) (h : ∀ X : zX, (xh X).sig.returnType = (some .int) → ZX7_work E d X P 0 [(0, vR (some a0)), (1, vI x1), (2, vI x2)] [] M 0 0) : zCi E mX7_work (d + 1) 0 0 [vR (some a0), vI x1, vI x2] M P := z_start (f := mX7_work) rfl (Nat.le_of_ble_eq_true rfl) rfl h
abbrev ZX7_isPut (E : zE) (d : Nat) (X : zX) (P : Int → zM → Prop) (pc : Nat) (Lc : List (Nat × zV)) (S : List zV) (M : zM) (ce sl : Nat) : Prop := zZ cX7_isPut RX7 "isPut" 2 E (zrm (d + 1) 0 0) X (zQ E (zPi P) X 0 0) pc Lc S M ce sl
set_option maxRecDepth 20000 in
theorem vX7_isPut_0 {E : zE} {d : Nat} {X : zX} {P : Int → zM → Prop} {M : zM} (hr : (xh X).sig.returnType = (some .boolean)) (a0 : Nat) (x1 : Int)
    (h : zK M a0 = (8, 25) ∧ ∃ b2, zR M a0 15 = some b2 ∧ (zK M b2).1 = 9 ∧ 0 ≤ x1 ∧ x1 < ((zK M b2).2 : Int) ∧ (((zI M b2 x1) = (-1) → P 0 M) ∧ ((zI M b2 x1) ≠ (-1) → P 1 M))) :
    ZX7_isPut E d X P 0 [(0, vR (some a0)), (1, vI x1)] [] M 0 0 := by
  refine z_aload_n 0 dX7_isPut_0 rfl ?_
  obtain ⟨q1, h⟩ := h
  refine z_getR fl_X7_44 rfl dX7_isPut_1 q1 ?_
  refine z_iload_n 1 dX7_isPut_4 rfl ?_
  obtain ⟨b2, eb2, h⟩ := h
  rw [eb2]
  obtain ⟨q3, h⟩ := h
  obtain ⟨q4, h⟩ := h
  obtain ⟨q5, h⟩ := h
  refine z_iald dX7_isPut_5 (n := (zK M b2).2) (Prod.ext q3 rfl) q4 q5 ?_
  refine z_iconst dX7_isPut_6 (by decide) ?_
  refine z_icmp_eq (tgt := 14) dX7_isPut_7 (by decide) (fun q6 => ?_) (fun q6 => ?_)
  · have h := h.1 q6
    refine z_iconst dX7_isPut_14 (by decide) ?_
    exact z_zret hr dX7_isPut_15 (Nat.le_of_ble_eq_true rfl) (Nat.le_of_ble_eq_true rfl) (by decide) ⟨_, rfl, h⟩
  · have h := h.2 q6
    refine z_iconst dX7_isPut_10 (by decide) ?_
    refine z_goto (tgt := 15) dX7_isPut_11 (by decide) ?_
    exact z_zret hr dX7_isPut_15 (Nat.le_of_ble_eq_true rfl) (Nat.le_of_ble_eq_true rfl) (by decide) ⟨_, rfl, h⟩
theorem sX7_isPut {E : zE} {d : Nat} {P : Int → zM → Prop} {M : zM} (a0 : Nat) (x1 : Int) (h : ∀ X : zX, (xh X).sig.returnType = (some .boolean) → ZX7_isPut E d X P 0 [(0, vR (some a0)), (1, vI x1)] [] M 0 0) : zCi E mX7_isPut (d + 1) 0 0 [vR (some a0), vI x1] M P := z_start (f := mX7_isPut) rfl (Nat.le_of_ble_eq_true rfl) rfl h
abbrev ZX7_isBegun (E : zE) (d : Nat) (X : zX) (P : Int → zM → Prop) (pc : Nat) (Lc : List (Nat × zV)) (S : List zV) (M : zM) (ce sl : Nat) : Prop := zZ cX7_isBegun RX7 "isBegun" 2 E (zrm (d + 1) 0 0) X (zQ E (zPi P) X 0 0) pc Lc S M ce sl
set_option maxRecDepth 20000 in
theorem vX7_isBegun_0 {E : zE} {d : Nat} {X : zX} {P : Int → zM → Prop} {M : zM} (hr : (xh X).sig.returnType = (some .boolean)) (a0 : Nat) (x1 : Int)
    (h : zK M a0 = (8, 25) ∧ ∃ P1 : Int → zM → Prop, zCi E mX7_isPut d 0 0 [vR (some a0), vI x1] M P1 ∧ ∀ r4 M3, P1 r4 M3 → ((r4 = 0 → P 0 M3) ∧ (r4 ≠ 0 → zK M3 a0 = (8, 25) ∧ ∃ b9, zR M3 a0 15 = some b9 ∧ (zK M3 b9).1 = 9 ∧ 0 ≤ x1 ∧ x1 < ((zK M3 b9).2 : Int) ∧ zK M3 a0 = (8, 25) ∧ (((zI M3 a0 0) ≤ (zI M3 b9 x1) → P 0 M3) ∧ ((zI M3 b9 x1) < (zI M3 a0 0) → P 1 M3))))) :
    ZX7_isBegun E d X P 0 [(0, vR (some a0)), (1, vI x1)] [] M 0 0 := by
  refine z_aload_n 0 dX7_isBegun_0 rfl ?_
  refine z_iload_n 1 dX7_isBegun_1 rfl ?_
  obtain ⟨q6, h⟩ := h
  obtain ⟨P1, c2, h⟩ := h
  refine z_Vi (as := [vI x1]) mv_X7_89 dX7_isBegun_2 c2 q6 rfl rfl (Nat.le_of_ble_eq_true rfl) (Nat.le_of_ble_eq_true rfl) (Nat.le_of_ble_eq_true rfl) (fun r4 M3 p5 => ?_)
  have h := h r4 M3 p5
  refine z_if_eq (tgt := 25) dX7_isBegun_5 (by decide) (fun q7 => ?_) (fun q7 => ?_)
  · have h := h.1 q7
    refine z_iconst dX7_isBegun_25 (by decide) ?_
    exact z_zret hr dX7_isBegun_26 (Nat.le_of_ble_eq_true rfl) (Nat.le_of_ble_eq_true rfl) (by decide) ⟨_, rfl, h⟩
  · have h := h.2 q7
    refine z_aload_n 0 dX7_isBegun_8 rfl ?_
    obtain ⟨q8, h⟩ := h
    refine z_getR fl_X7_44 rfl dX7_isBegun_9 q8 ?_
    refine z_iload_n 1 dX7_isBegun_12 rfl ?_
    obtain ⟨b9, eb9, h⟩ := h
    rw [eb9]
    obtain ⟨q10, h⟩ := h
    obtain ⟨q11, h⟩ := h
    obtain ⟨q12, h⟩ := h
    refine z_iald dX7_isBegun_13 (n := (zK M3 b9).2) (Prod.ext q10 rfl) q11 q12 ?_
    refine z_aload_n 0 dX7_isBegun_14 rfl ?_
    obtain ⟨q13, h⟩ := h
    refine z_getI fl_X7_93 dX7_isBegun_15 q13 ?_
    refine z_icmp_ge (tgt := 25) dX7_isBegun_18 (by decide) (fun q14 => ?_) (fun q14 => ?_)
    · have h := h.1 q14
      refine z_iconst dX7_isBegun_25 (by decide) ?_
      exact z_zret hr dX7_isBegun_26 (Nat.le_of_ble_eq_true rfl) (Nat.le_of_ble_eq_true rfl) (by decide) ⟨_, rfl, h⟩
    · have h := h.2 q14
      refine z_iconst dX7_isBegun_21 (by decide) ?_
      refine z_goto (tgt := 26) dX7_isBegun_22 (by decide) ?_
      exact z_zret hr dX7_isBegun_26 (Nat.le_of_ble_eq_true rfl) (Nat.le_of_ble_eq_true rfl) (by decide) ⟨_, rfl, h⟩
theorem sX7_isBegun {E : zE} {d : Nat} {P : Int → zM → Prop} {M : zM} (a0 : Nat) (x1 : Int) (h : ∀ X : zX, (xh X).sig.returnType = (some .boolean) → ZX7_isBegun E d X P 0 [(0, vR (some a0)), (1, vI x1)] [] M 0 0) : zCi E mX7_isBegun (d + 1) 0 0 [vR (some a0), vI x1] M P := z_start (f := mX7_isBegun) rfl (Nat.le_of_ble_eq_true rfl) rfl h
abbrev ZX7_endOf (E : zE) (d : Nat) (X : zX) (P : Int → zM → Prop) (pc : Nat) (Lc : List (Nat × zV)) (S : List zV) (M : zM) (ce sl : Nat) : Prop := zZ cX7_endOf RX7 "endOf" 2 E (zrm (d + 1) 0 0) X (zQ E (zPi P) X 0 0) pc Lc S M ce sl
set_option maxRecDepth 20000 in
theorem vX7_endOf_0 {E : zE} {d : Nat} {X : zX} {P : Int → zM → Prop} {M : zM} (hr : (xh X).sig.returnType = (some .int)) (a0 : Nat) (x1 : Int)
    (h : zK M a0 = (8, 25) ∧ ∃ b2, zR M a0 15 = some b2 ∧ (zK M b2).1 = 9 ∧ 0 ≤ x1 ∧ x1 < ((zK M b2).2 : Int) ∧ zK M a0 = (8, 25) ∧ ∃ b7, zR M a0 9 = some b7 ∧ (zK M b7).1 = 9 ∧ 0 ≤ x1 ∧ x1 < ((zK M b7).2 : Int) ∧ zin ((zI M b2 x1) + (zI M b7 x1)) ∧ P ((zI M b2 x1) + (zI M b7 x1)) M) :
    ZX7_endOf E d X P 0 [(0, vR (some a0)), (1, vI x1)] [] M 0 0 := by
  refine z_aload_n 0 dX7_endOf_0 rfl ?_
  obtain ⟨q1, h⟩ := h
  refine z_getR fl_X7_44 rfl dX7_endOf_1 q1 ?_
  refine z_iload_n 1 dX7_endOf_4 rfl ?_
  obtain ⟨b2, eb2, h⟩ := h
  rw [eb2]
  obtain ⟨q3, h⟩ := h
  obtain ⟨q4, h⟩ := h
  obtain ⟨q5, h⟩ := h
  refine z_iald dX7_endOf_5 (n := (zK M b2).2) (Prod.ext q3 rfl) q4 q5 ?_
  refine z_aload_n 0 dX7_endOf_6 rfl ?_
  obtain ⟨q6, h⟩ := h
  refine z_getR fl_X7_26 rfl dX7_endOf_7 q6 ?_
  refine z_iload_n 1 dX7_endOf_10 rfl ?_
  obtain ⟨b7, eb7, h⟩ := h
  rw [eb7]
  obtain ⟨q8, h⟩ := h
  obtain ⟨q9, h⟩ := h
  obtain ⟨q10, h⟩ := h
  refine z_iald dX7_endOf_11 (n := (zK M b7).2) (Prod.ext q8 rfl) q9 q10 ?_
  obtain ⟨q11, h⟩ := h
  refine z_iadd dX7_endOf_12 q11 ?_
  exact z_iret hr dX7_endOf_13 (Nat.le_of_ble_eq_true rfl) (Nat.le_of_ble_eq_true rfl) ⟨_, rfl, h⟩
theorem sX7_endOf {E : zE} {d : Nat} {P : Int → zM → Prop} {M : zM} (a0 : Nat) (x1 : Int) (h : ∀ X : zX, (xh X).sig.returnType = (some .int) → ZX7_endOf E d X P 0 [(0, vR (some a0)), (1, vI x1)] [] M 0 0) : zCi E mX7_endOf (d + 1) 0 0 [vR (some a0), vI x1] M P := z_start (f := mX7_endOf) rfl (Nat.le_of_ble_eq_true rfl) rfl h
abbrev ZX7_isDone (E : zE) (d : Nat) (X : zX) (P : Int → zM → Prop) (pc : Nat) (Lc : List (Nat × zV)) (S : List zV) (M : zM) (ce sl : Nat) : Prop := zZ cX7_isDone RX7 "isDone" 2 E (zrm (d + 1) 0 0) X (zQ E (zPi P) X 0 0) pc Lc S M ce sl
set_option maxRecDepth 20000 in
theorem vX7_isDone_0 {E : zE} {d : Nat} {X : zX} {P : Int → zM → Prop} {M : zM} (hr : (xh X).sig.returnType = (some .boolean)) (a0 : Nat) (x1 : Int)
    (h : zK M a0 = (8, 25) ∧ ∃ P1 : Int → zM → Prop, zCi E mX7_isPut d 0 0 [vR (some a0), vI x1] M P1 ∧ ∀ r4 M3, P1 r4 M3 → ((r4 = 0 → P 0 M3) ∧ (r4 ≠ 0 → zK M3 a0 = (8, 25) ∧ ∃ P8 : Int → zM → Prop, zCi E mX7_endOf d 0 0 [vR (some a0), vI x1] M3 P8 ∧ ∀ r11 M10, P8 r11 M10 → zK M10 a0 = (8, 25) ∧ (((zI M10 a0 0) < r11 → P 0 M10) ∧ (r11 ≤ (zI M10 a0 0) → P 1 M10))))) :
    ZX7_isDone E d X P 0 [(0, vR (some a0)), (1, vI x1)] [] M 0 0 := by
  refine z_aload_n 0 dX7_isDone_0 rfl ?_
  refine z_iload_n 1 dX7_isDone_1 rfl ?_
  obtain ⟨q6, h⟩ := h
  obtain ⟨P1, c2, h⟩ := h
  refine z_Vi (as := [vI x1]) mv_X7_89 dX7_isDone_2 c2 q6 rfl rfl (Nat.le_of_ble_eq_true rfl) (Nat.le_of_ble_eq_true rfl) (Nat.le_of_ble_eq_true rfl) (fun r4 M3 p5 => ?_)
  have h := h r4 M3 p5
  refine z_if_eq (tgt := 24) dX7_isDone_5 (by decide) (fun q7 => ?_) (fun q7 => ?_)
  · have h := h.1 q7
    refine z_iconst dX7_isDone_24 (by decide) ?_
    exact z_zret hr dX7_isDone_25 (Nat.le_of_ble_eq_true rfl) (Nat.le_of_ble_eq_true rfl) (by decide) ⟨_, rfl, h⟩
  · have h := h.2 q7
    refine z_aload_n 0 dX7_isDone_8 rfl ?_
    refine z_iload_n 1 dX7_isDone_9 rfl ?_
    obtain ⟨q13, h⟩ := h
    obtain ⟨P8, c9, h⟩ := h
    refine z_Vi (as := [vI x1]) mv_X7_96 dX7_isDone_10 c9 q13 rfl rfl (Nat.le_of_ble_eq_true rfl) (Nat.le_of_ble_eq_true rfl) (Nat.le_of_ble_eq_true rfl) (fun r11 M10 p12 => ?_)
    have h := h r11 M10 p12
    refine z_aload_n 0 dX7_isDone_13 rfl ?_
    obtain ⟨q14, h⟩ := h
    refine z_getI fl_X7_93 dX7_isDone_14 q14 ?_
    refine z_icmp_gt (tgt := 24) dX7_isDone_17 (by decide) (fun q15 => ?_) (fun q15 => ?_)
    · have h := h.1 q15
      refine z_iconst dX7_isDone_24 (by decide) ?_
      exact z_zret hr dX7_isDone_25 (Nat.le_of_ble_eq_true rfl) (Nat.le_of_ble_eq_true rfl) (by decide) ⟨_, rfl, h⟩
    · have h := h.2 q15
      refine z_iconst dX7_isDone_20 (by decide) ?_
      refine z_goto (tgt := 25) dX7_isDone_21 (by decide) ?_
      exact z_zret hr dX7_isDone_25 (Nat.le_of_ble_eq_true rfl) (Nat.le_of_ble_eq_true rfl) (by decide) ⟨_, rfl, h⟩
theorem sX7_isDone {E : zE} {d : Nat} {P : Int → zM → Prop} {M : zM} (a0 : Nat) (x1 : Int) (h : ∀ X : zX, (xh X).sig.returnType = (some .boolean) → ZX7_isDone E d X P 0 [(0, vR (some a0)), (1, vI x1)] [] M 0 0) : zCi E mX7_isDone (d + 1) 0 0 [vR (some a0), vI x1] M P := z_start (f := mX7_isDone) rfl (Nat.le_of_ble_eq_true rfl) rfl h
abbrev ZX7_hangs (E : zE) (d : Nat) (X : zX) (P : Int → zM → Prop) (pc : Nat) (Lc : List (Nat × zV)) (S : List zV) (M : zM) (ce sl : Nat) : Prop := zZ cX7_hangs RX7 "hangs" 7 E (zrm (d + 1) 0 0) X (zQ E (zPi P) X 0 0) pc Lc S M ce sl
set_option maxRecDepth 20000 in
theorem vX7_hangs_0 {E : zE} {d : Nat} {X : zX} {P : Int → zM → Prop} {M : zM} (hr : (xh X).sig.returnType = (some .boolean)) (a0 : Nat) (x1 : Int) (x2 : Int)
    (h : zK M a0 = (8, 25) ∧ ZX7_hangs E d X P 8 [(0, vR (some a0)), (1, vI x1), (2, vI x2), (3, vR (zR M a0 19)), (4, vI 0)] [] M 0 0) :
    ZX7_hangs E d X P 0 [(0, vR (some a0)), (1, vI x1), (2, vI x2)] [] M 0 0 := by
  refine z_aload_n 0 dX7_hangs_0 rfl ?_
  obtain ⟨q1, h⟩ := h
  refine z_getR fl_X7_56 rfl dX7_hangs_1 q1 ?_
  refine z_astore_n dX7_hangs_4 (by decide) rfl ?_
  refine z_iconst dX7_hangs_5 (by decide) ?_
  refine z_istore dX7_hangs_6 (by decide) rfl ?_
  exact z_sub [2, 3, 4, 1, 0] rfl h
set_option maxRecDepth 20000 in
theorem vX7_hangs_8 {E : zE} {d : Nat} {X : zX} {P : Int → zM → Prop} {M : zM} (hr : (xh X).sig.returnType = (some .boolean)) (a0 : Nat) (x1 : Int) (x2 : Int) (g3 : Option Nat) (x4 : Int)
    (h : zK M a0 = (8, 25) ∧ (((zI M a0 8) ≤ x4 → ZX7_hangs E d X P 42 [(0, vR (some a0)), (1, vI x1), (2, vI x2), (3, vR g3), (4, vI 1)] [] M 0 0) ∧ (x4 < (zI M a0 8) → zK M a0 = (8, 25) ∧ zin (40 * x1) ∧ zin ((40 * x1) + x4) ∧ ∃ b6, zR M a0 17 = some b6 ∧ (zK M b6).1 = 10 ∧ 0 ≤ ((40 * x1) + x4) ∧ ((40 * x1) + x4) < ((zK M b6).2 : Int) ∧ ∃ b10, g3 = some b10 ∧ (zK M b10).1 = 10 ∧ 0 ≤ x4 ∧ x4 < ((zK M b10).2 : Int) ∧ ((zI M b6 ((40 * x1) + x4)) = 0 ∨ (zI M b6 ((40 * x1) + x4)) = 1) ∧ ∀ M15, M15 = zsI M b10 x4 (zI M b6 ((40 * x1) + x4)) → zin (x4 + 1) ∧ ZX7_hangs E d X P 8 [(0, vR (some a0)), (1, vI x1), (2, vI x2), (3, vR (some b10)), (4, vI (x4 + 1))] [] M15 0 0))) :
    ZX7_hangs E d X P 8 [(0, vR (some a0)), (1, vI x1), (2, vI x2), (3, vR g3), (4, vI x4)] [] M 0 0 := by
  refine z_iload 4 dX7_hangs_8 rfl ?_
  refine z_aload_n 0 dX7_hangs_10 rfl ?_
  obtain ⟨q1, h⟩ := h
  refine z_getI fl_X7_74 dX7_hangs_11 q1 ?_
  refine z_icmp_ge (tgt := 39) dX7_hangs_14 (by decide) (fun q2 => ?_) (fun q2 => ?_)
  · have h := h.1 q2
    refine z_iconst dX7_hangs_39 (by decide) ?_
    refine z_istore dX7_hangs_40 (by decide) rfl ?_
    exact z_sub [1, 2, 3, 4, 0] rfl h
  · have h := h.2 q2
    refine z_aload_n 3 dX7_hangs_17 rfl ?_
    refine z_iload 4 dX7_hangs_18 rfl ?_
    refine z_aload_n 0 dX7_hangs_20 rfl ?_
    obtain ⟨q3, h⟩ := h
    refine z_getR fl_X7_50 rfl dX7_hangs_21 q3 ?_
    refine z_bipush dX7_hangs_24 (by decide) ?_
    refine z_iload_n 1 dX7_hangs_26 rfl ?_
    obtain ⟨q4, h⟩ := h
    refine z_imul dX7_hangs_27 q4 ?_
    refine z_iload 4 dX7_hangs_28 rfl ?_
    obtain ⟨q5, h⟩ := h
    refine z_iadd dX7_hangs_30 q5 ?_
    obtain ⟨b6, eb6, h⟩ := h
    rw [eb6]
    obtain ⟨q7, h⟩ := h
    obtain ⟨q8, h⟩ := h
    obtain ⟨q9, h⟩ := h
    refine z_bald dX7_hangs_31 (n := (zK M b6).2) (Prod.ext q7 rfl) q8 q9 ?_
    obtain ⟨b10, eb10, h⟩ := h
    rw [eb10]
    obtain ⟨q11, h⟩ := h
    obtain ⟨q12, h⟩ := h
    obtain ⟨q13, h⟩ := h
    obtain ⟨q14, h⟩ := h
    refine z_bast dX7_hangs_32 (n := (zK M b10).2) (Prod.ext q11 rfl) q12 q13 q14 ?_
    obtain ⟨M15, hmM15⟩ : ∃ z, z = zsI M b10 x4 (zI M b6 ((40 * x1) + x4)) := ⟨_, rfl⟩
    rw [← hmM15]
    have h := h M15 hmM15
    obtain ⟨q16, h⟩ := h
    refine z_iinc 4 dX7_hangs_33 rfl (by decide) q16 rfl ?_
    refine z_goto (tgt := 8) dX7_hangs_36 (by decide) ?_
    exact z_sub [1, 2, 3, 4, 0] rfl h
set_option maxRecDepth 20000 in
theorem vX7_hangs_42 {E : zE} {d : Nat} {X : zX} {P : Int → zM → Prop} {M : zM} (hr : (xh X).sig.returnType = (some .boolean)) (a0 : Nat) (x1 : Int) (x2 : Int) (g3 : Option Nat) (x4 : Int)
    (h : ((x4 = 0 → ∃ b2, g3 = some b2 ∧ (zK M b2).1 = 10 ∧ 0 ≤ x2 ∧ x2 < ((zK M b2).2 : Int) ∧ ((zI M b2 x2) = 0 ∨ (zI M b2 x2) = 1) ∧ P (zI M b2 x2) M) ∧ (x4 ≠ 0 → ZX7_hangs E d X P 53 [(0, vR (some a0)), (1, vI x1), (2, vI x2), (3, vR g3), (4, vI 0), (5, vI 0)] [] M 0 0))) :
    ZX7_hangs E d X P 42 [(0, vR (some a0)), (1, vI x1), (2, vI x2), (3, vR g3), (4, vI x4)] [] M 0 0 := by
  refine z_iload 4 dX7_hangs_42 rfl ?_
  refine z_if_eq (tgt := 130) dX7_hangs_44 (by decide) (fun q1 => ?_) (fun q1 => ?_)
  · have h := h.1 q1
    refine z_aload_n 3 dX7_hangs_130 rfl ?_
    refine z_iload_n 2 dX7_hangs_131 rfl ?_
    obtain ⟨b2, eb2, h⟩ := h
    rw [eb2]
    obtain ⟨q3, h⟩ := h
    obtain ⟨q4, h⟩ := h
    obtain ⟨q5, h⟩ := h
    refine z_bald dX7_hangs_132 (n := (zK M b2).2) (Prod.ext q3 rfl) q4 q5 ?_
    obtain ⟨q6, h⟩ := h
    exact z_zret hr dX7_hangs_133 (Nat.le_of_ble_eq_true rfl) (Nat.le_of_ble_eq_true rfl) q6 ⟨_, rfl, h⟩
  · have h := h.2 q1
    refine z_iconst dX7_hangs_47 (by decide) ?_
    refine z_istore dX7_hangs_48 (by decide) rfl ?_
    refine z_iconst dX7_hangs_50 (by decide) ?_
    refine z_istore dX7_hangs_51 (by decide) rfl ?_
    exact z_sub [2, 3, 4, 5, 1, 0] rfl h
set_option maxRecDepth 20000 in
theorem vX7_hangs_53 {E : zE} {d : Nat} {X : zX} {P : Int → zM → Prop} {M : zM} (hr : (xh X).sig.returnType = (some .boolean)) (a0 : Nat) (x1 : Int) (x2 : Int) (g3 : Option Nat) (x4 : Int) (x5 : Int)
    (h : zK M a0 = (8, 25) ∧ (((zI M a0 8) ≤ x5 → ZX7_hangs E d X P 42 [(0, vR (some a0)), (1, vI x1), (2, vI x2), (3, vR g3), (4, vI x4)] [] M 0 0) ∧ (x5 < (zI M a0 8) → ZX7_hangs E d X P 65 [(0, vR (some a0)), (1, vI x1), (2, vI x2), (3, vR g3), (4, vI x4), (5, vI x5), (6, vI 0)] [] M 0 0))) :
    ZX7_hangs E d X P 53 [(0, vR (some a0)), (1, vI x1), (2, vI x2), (3, vR g3), (4, vI x4), (5, vI x5)] [] M 0 0 := by
  refine z_iload 5 dX7_hangs_53 rfl ?_
  refine z_aload_n 0 dX7_hangs_55 rfl ?_
  obtain ⟨q1, h⟩ := h
  refine z_getI fl_X7_74 dX7_hangs_56 q1 ?_
  refine z_icmp_ge (tgt := 127) dX7_hangs_59 (by decide) (fun q2 => ?_) (fun q2 => ?_)
  · have h := h.1 q2
    refine z_goto (tgt := 42) dX7_hangs_127 (by decide) ?_
    exact z_sub [0, 1, 2, 3, 4] rfl h
  · have h := h.2 q2
    refine z_iconst dX7_hangs_62 (by decide) ?_
    refine z_istore dX7_hangs_63 (by decide) rfl ?_
    exact z_sub [1, 2, 3, 4, 5, 6, 0] rfl h
set_option maxRecDepth 20000 in
theorem vX7_hangs_65 {E : zE} {d : Nat} {X : zX} {P : Int → zM → Prop} {M : zM} (hr : (xh X).sig.returnType = (some .boolean)) (a0 : Nat) (x1 : Int) (x2 : Int) (g3 : Option Nat) (x4 : Int) (x5 : Int) (x6 : Int)
    (h : zK M a0 = (8, 25) ∧ (((zI M a0 8) ≤ x6 → zin (x5 + 1) ∧ ZX7_hangs E d X P 53 [(0, vR (some a0)), (1, vI x1), (2, vI x2), (3, vR g3), (4, vI x4), (5, vI (x5 + 1))] [] M 0 0) ∧ (x6 < (zI M a0 8) → ∃ b4, g3 = some b4 ∧ (zK M b4).1 = 10 ∧ 0 ≤ x5 ∧ x5 < ((zK M b4).2 : Int) ∧ (((zI M b4 x5) = 0 → zin (x5 + 1) ∧ ZX7_hangs E d X P 53 [(0, vR (some a0)), (1, vI x1), (2, vI x2), (3, vR (some b4)), (4, vI x4), (5, vI (x5 + 1))] [] M 0 0) ∧ ((zI M b4 x5) ≠ 0 → (zK M b4).1 = 10 ∧ 0 ≤ x6 ∧ x6 < ((zK M b4).2 : Int) ∧ (((zI M b4 x6) ≠ 0 → zin (x6 + 1) ∧ ZX7_hangs E d X P 65 [(0, vR (some a0)), (1, vI x1), (2, vI x2), (3, vR (some b4)), (4, vI x4), (5, vI x5), (6, vI (x6 + 1))] [] M 0 0) ∧ ((zI M b4 x6) = 0 → zK M a0 = (8, 25) ∧ zin (40 * x5) ∧ zin ((40 * x5) + x6) ∧ ∃ b18, zR M a0 17 = some b18 ∧ (zK M b18).1 = 10 ∧ 0 ≤ ((40 * x5) + x6) ∧ ((40 * x5) + x6) < ((zK M b18).2 : Int) ∧ (((zI M b18 ((40 * x5) + x6)) ≠ 0 → (zK M b4).1 = 10 ∧ 0 ≤ x6 ∧ x6 < ((zK M b4).2 : Int) ∧ ∀ M26, M26 = zsI M b4 x6 1 → zin (x6 + 1) ∧ ZX7_hangs E d X P 65 [(0, vR (some a0)), (1, vI x1), (2, vI x2), (3, vR (some b4)), (4, vI 1), (5, vI x5), (6, vI (x6 + 1))] [] M26 0 0) ∧ ((zI M b18 ((40 * x5) + x6)) = 0 → zin (x6 + 1) ∧ ZX7_hangs E d X P 65 [(0, vR (some a0)), (1, vI x1), (2, vI x2), (3, vR (some b4)), (4, vI x4), (5, vI x5), (6, vI (x6 + 1))] [] M 0 0))))))))) :
    ZX7_hangs E d X P 65 [(0, vR (some a0)), (1, vI x1), (2, vI x2), (3, vR g3), (4, vI x4), (5, vI x5), (6, vI x6)] [] M 0 0 := by
  refine z_iload 6 dX7_hangs_65 rfl ?_
  refine z_aload_n 0 dX7_hangs_67 rfl ?_
  obtain ⟨q1, h⟩ := h
  refine z_getI fl_X7_74 dX7_hangs_68 q1 ?_
  refine z_icmp_ge (tgt := 121) dX7_hangs_71 (by decide) (fun q2 => ?_) (fun q2 => ?_)
  · have h := h.1 q2
    obtain ⟨q3, h⟩ := h
    refine z_iinc 5 dX7_hangs_121 rfl (by decide) q3 rfl ?_
    refine z_goto (tgt := 53) dX7_hangs_124 (by decide) ?_
    exact z_sub [1, 2, 3, 4, 5, 0] rfl h
  · have h := h.2 q2
    refine z_aload_n 3 dX7_hangs_74 rfl ?_
    refine z_iload 5 dX7_hangs_75 rfl ?_
    obtain ⟨b4, eb4, h⟩ := h
    rw [eb4]
    obtain ⟨q5, h⟩ := h
    obtain ⟨q6, h⟩ := h
    obtain ⟨q7, h⟩ := h
    refine z_bald dX7_hangs_77 (n := (zK M b4).2) (Prod.ext q5 rfl) q6 q7 ?_
    refine z_if_eq (tgt := 121) dX7_hangs_78 (by decide) (fun q8 => ?_) (fun q8 => ?_)
    · have h := h.1 q8
      obtain ⟨q9, h⟩ := h
      refine z_iinc 5 dX7_hangs_121 rfl (by decide) q9 rfl ?_
      refine z_goto (tgt := 53) dX7_hangs_124 (by decide) ?_
      exact z_sub [1, 2, 3, 4, 5, 0] rfl h
    · have h := h.2 q8
      refine z_aload_n 3 dX7_hangs_81 rfl ?_
      refine z_iload 6 dX7_hangs_82 rfl ?_
      obtain ⟨q10, h⟩ := h
      obtain ⟨q11, h⟩ := h
      obtain ⟨q12, h⟩ := h
      refine z_bald dX7_hangs_84 (n := (zK M b4).2) (Prod.ext q10 rfl) q11 q12 ?_
      refine z_if_ne (tgt := 115) dX7_hangs_85 (by decide) (fun q13 => ?_) (fun q13 => ?_)
      · have h := h.1 q13
        obtain ⟨q14, h⟩ := h
        refine z_iinc 6 dX7_hangs_115 rfl (by decide) q14 rfl ?_
        refine z_goto (tgt := 65) dX7_hangs_118 (by decide) ?_
        exact z_sub [1, 2, 3, 4, 5, 6, 0] rfl h
      · have h := h.2 q13
        refine z_aload_n 0 dX7_hangs_88 rfl ?_
        obtain ⟨q15, h⟩ := h
        refine z_getR fl_X7_50 rfl dX7_hangs_89 q15 ?_
        refine z_bipush dX7_hangs_92 (by decide) ?_
        refine z_iload 5 dX7_hangs_94 rfl ?_
        obtain ⟨q16, h⟩ := h
        refine z_imul dX7_hangs_96 q16 ?_
        refine z_iload 6 dX7_hangs_97 rfl ?_
        obtain ⟨q17, h⟩ := h
        refine z_iadd dX7_hangs_99 q17 ?_
        obtain ⟨b18, eb18, h⟩ := h
        rw [eb18]
        obtain ⟨q19, h⟩ := h
        obtain ⟨q20, h⟩ := h
        obtain ⟨q21, h⟩ := h
        refine z_bald dX7_hangs_100 (n := (zK M b18).2) (Prod.ext q19 rfl) q20 q21 ?_
        refine z_if_ne (tgt := 107) dX7_hangs_101 (by decide) (fun q22 => ?_) (fun q22 => ?_)
        · have h := h.1 q22
          refine z_aload_n 3 dX7_hangs_107 rfl ?_
          refine z_iload 6 dX7_hangs_108 rfl ?_
          refine z_iconst dX7_hangs_110 (by decide) ?_
          obtain ⟨q23, h⟩ := h
          obtain ⟨q24, h⟩ := h
          obtain ⟨q25, h⟩ := h
          refine z_bast dX7_hangs_111 (n := (zK M b4).2) (Prod.ext q23 rfl) q24 q25 (by decide) ?_
          obtain ⟨M26, hmM26⟩ : ∃ z, z = zsI M b4 x6 1 := ⟨_, rfl⟩
          rw [← hmM26]
          have h := h M26 hmM26
          refine z_iconst dX7_hangs_112 (by decide) ?_
          refine z_istore dX7_hangs_113 (by decide) rfl ?_
          obtain ⟨q27, h⟩ := h
          refine z_iinc 6 dX7_hangs_115 rfl (by decide) q27 rfl ?_
          refine z_goto (tgt := 65) dX7_hangs_118 (by decide) ?_
          exact z_sub [2, 3, 4, 5, 1, 6, 0] rfl h
        · have h := h.2 q22
          refine z_goto (tgt := 115) dX7_hangs_104 (by decide) ?_
          obtain ⟨q28, h⟩ := h
          refine z_iinc 6 dX7_hangs_115 rfl (by decide) q28 rfl ?_
          refine z_goto (tgt := 65) dX7_hangs_118 (by decide) ?_
          exact z_sub [1, 2, 3, 4, 5, 6, 0] rfl h
theorem sX7_hangs {E : zE} {d : Nat} {P : Int → zM → Prop} {M : zM} (a0 : Nat) (x1 : Int) (x2 : Int) (h : ∀ X : zX, (xh X).sig.returnType = (some .boolean) → ZX7_hangs E d X P 0 [(0, vR (some a0)), (1, vI x1), (2, vI x2)] [] M 0 0) : zCi E mX7_hangs (d + 1) 0 0 [vR (some a0), vI x1, vI x2] M P := z_start (f := mX7_hangs) rfl (Nat.le_of_ble_eq_true rfl) rfl h
