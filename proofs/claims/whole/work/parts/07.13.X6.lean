abbrev ZX6_init (E : zE) (d : Nat) (X : zX) (P : zM → Prop) (pc : Nat) (Lc : List (Nat × zV)) (S : List zV) (M : zM) (ce sl : Nat) : Prop := zZ cX6_init RX6 "<init>" 1 E (zrm (d + 1) 21 2201) X (zQ E (zPv P) X 21 2201) pc Lc S M ce sl
set_option maxRecDepth 20000 in
theorem vX6_init_0 {E : zE} {d : Nat} {X : zX} {P : zM → Prop} {M : zM} (hr : (xh X).sig.returnType = none) (a0 : Nat)
    (h : ∀ M1, M1 = znew M 2 5 → ∃ P2 : zM → Prop, zCv E mX1_init d 3 55 [vR (some (zsz M))] M1 P2 ∧ ∀ M4, P2 M4 → zK M4 a0 = (7, 5) ∧ ∀ M8, M8 = zsR M4 a0 0 (some (zsz M)) → ∀ M9, M9 = znew M8 3 6 → ∃ P10 : zM → Prop, zCv E mX2_init d 4 104 [vR (some (zsz M8))] M9 P10 ∧ ∀ M12, P10 M12 → zK M12 a0 = (7, 5) ∧ ∀ M16, M16 = zsR M12 a0 1 (some (zsz M8)) → ∀ M17, M17 = znew M16 1 3 → ∃ P18 : zM → Prop, zCv E mX0_init d 6 2004 [vR (some (zsz M16))] M17 P18 ∧ ∀ M20, P18 M20 → zK M20 a0 = (7, 5) ∧ ∀ M24, M24 = zsR M20 a0 2 (some (zsz M16)) → ∀ M25, M25 = znew M24 5 5 → zK M25 a0 = (7, 5) ∧ zK M25 a0 = (7, 5) ∧ zK M25 a0 = (7, 5) ∧ ∃ b29, zR M25 a0 0 = some b29 ∧ ∃ b30, zR M25 a0 1 = some b30 ∧ ∃ b31, zR M25 a0 2 = some b31 ∧ ∃ P32 : zM → Prop, zCv E mX4_init d 2 8 [vR (some (zsz M24)), vR (some b29), vR (some b30), vR (some b31)] M25 P32 ∧ ∀ M34, P32 M34 → zK M34 a0 = (7, 5) ∧ ∀ M38, M38 = zsR M34 a0 3 (some (zsz M24)) → ∀ M39, M39 = znew M38 4 5 → zK M39 a0 = (7, 5) ∧ zK M39 a0 = (7, 5) ∧ zK M39 a0 = (7, 5) ∧ ∃ b43, zR M39 a0 1 = some b43 ∧ ∃ b44, zR M39 a0 2 = some b44 ∧ ∃ b45, zR M39 a0 3 = some b45 ∧ ∃ P46 : zM → Prop, zCv E mX3_init d 1 6 [vR (some (zsz M38)), vR (some b43), vR (some b44), vR (some b45)] M39 P46 ∧ ∀ M48, P46 M48 → zK M48 a0 = (7, 5) ∧ ∀ M52, M52 = zsR M48 a0 4 (some (zsz M38)) → P M52) :
    ZX6_init E d X P 0 [(0, vR (some a0))] [] M 0 0 := by
  refine z_aload_n 0 dX6_init_0 rfl ?_
  refine z_objInit oi_X6_1 dX6_init_1 (Nat.le_of_ble_eq_true rfl) zr3 zr5 ?_
  refine z_aload_n 0 dX6_init_4 rfl ?_
  refine z_new nw_X6_7 dX6_init_5 (Nat.le_of_ble_eq_true rfl) (Nat.le_of_ble_eq_true rfl) ?_
  obtain ⟨M1, hmM1⟩ : ∃ z, z = znew M 2 5 := ⟨_, rfl⟩
  rw [← hmM1]
  have h := h M1 hmM1
  refine z_dup dX6_init_8 rfl ?_
  obtain ⟨P2, c3, h⟩ := h
  refine z_Iv (as := []) mi_X6_9 dX6_init_9 c3 rfl rfl (Nat.le_of_ble_eq_true rfl) (Nat.le_of_ble_eq_true rfl) (Nat.le_of_ble_eq_true rfl) (fun M4 p6 => ?_)
  have h := h M4 p6
  obtain ⟨q7, h⟩ := h
  refine z_putR fl_X6_10 rfl (Or.inr ⟨rfl, rfl⟩) dX6_init_12 q7 ?_
  obtain ⟨M8, hmM8⟩ : ∃ z, z = zsR M4 a0 0 (some (zsz M)) := ⟨_, rfl⟩
  rw [← hmM8]
  have h := h M8 hmM8
  refine z_aload_n 0 dX6_init_15 rfl ?_
  refine z_new nw_X6_16 dX6_init_16 (Nat.le_of_ble_eq_true rfl) (Nat.le_of_ble_eq_true rfl) ?_
  obtain ⟨M9, hmM9⟩ : ∃ z, z = znew M8 3 6 := ⟨_, rfl⟩
  rw [← hmM9]
  have h := h M9 hmM9
  refine z_dup dX6_init_19 rfl ?_
  obtain ⟨P10, c11, h⟩ := h
  refine z_Iv (as := []) mi_X6_18 dX6_init_20 c11 rfl rfl (Nat.le_of_ble_eq_true rfl) (Nat.le_of_ble_eq_true rfl) (Nat.le_of_ble_eq_true rfl) (fun M12 p14 => ?_)
  have h := h M12 p14
  obtain ⟨q15, h⟩ := h
  refine z_putR fl_X6_19 rfl (Or.inr ⟨rfl, rfl⟩) dX6_init_23 q15 ?_
  obtain ⟨M16, hmM16⟩ : ∃ z, z = zsR M12 a0 1 (some (zsz M8)) := ⟨_, rfl⟩
  rw [← hmM16]
  have h := h M16 hmM16
  refine z_aload_n 0 dX6_init_26 rfl ?_
  refine z_new nw_X6_23 dX6_init_27 (Nat.le_of_ble_eq_true rfl) (Nat.le_of_ble_eq_true rfl) ?_
  obtain ⟨M17, hmM17⟩ : ∃ z, z = znew M16 1 3 := ⟨_, rfl⟩
  rw [← hmM17]
  have h := h M17 hmM17
  refine z_dup dX6_init_30 rfl ?_
  obtain ⟨P18, c19, h⟩ := h
  refine z_Iv (as := []) mi_X6_25 dX6_init_31 c19 rfl rfl (Nat.le_of_ble_eq_true rfl) (Nat.le_of_ble_eq_true rfl) (Nat.le_of_ble_eq_true rfl) (fun M20 p22 => ?_)
  have h := h M20 p22
  obtain ⟨q23, h⟩ := h
  refine z_putR fl_X6_26 rfl (Or.inr ⟨rfl, rfl⟩) dX6_init_34 q23 ?_
  obtain ⟨M24, hmM24⟩ : ∃ z, z = zsR M20 a0 2 (some (zsz M16)) := ⟨_, rfl⟩
  rw [← hmM24]
  have h := h M24 hmM24
  refine z_aload_n 0 dX6_init_37 rfl ?_
  refine z_new nw_X6_30 dX6_init_38 (Nat.le_of_ble_eq_true rfl) (Nat.le_of_ble_eq_true rfl) ?_
  obtain ⟨M25, hmM25⟩ : ∃ z, z = znew M24 5 5 := ⟨_, rfl⟩
  rw [← hmM25]
  have h := h M25 hmM25
  refine z_dup dX6_init_41 rfl ?_
  refine z_aload_n 0 dX6_init_42 rfl ?_
  obtain ⟨q26, h⟩ := h
  refine z_getR fl_X6_10 rfl dX6_init_43 q26 ?_
  refine z_aload_n 0 dX6_init_46 rfl ?_
  obtain ⟨q27, h⟩ := h
  refine z_getR fl_X6_19 rfl dX6_init_47 q27 ?_
  refine z_aload_n 0 dX6_init_50 rfl ?_
  obtain ⟨q28, h⟩ := h
  refine z_getR fl_X6_26 rfl dX6_init_51 q28 ?_
  obtain ⟨b29, eb29, h⟩ := h
  rw [eb29]
  obtain ⟨b30, eb30, h⟩ := h
  rw [eb30]
  obtain ⟨b31, eb31, h⟩ := h
  rw [eb31]
  obtain ⟨P32, c33, h⟩ := h
  refine z_Iv (as := [vR (some b29), vR (some b30), vR (some b31)]) mi_X6_32 dX6_init_54 c33 rfl rfl (Nat.le_of_ble_eq_true rfl) (Nat.le_of_ble_eq_true rfl) (Nat.le_of_ble_eq_true rfl) (fun M34 p36 => ?_)
  have h := h M34 p36
  obtain ⟨q37, h⟩ := h
  refine z_putR fl_X6_35 rfl (Or.inr ⟨rfl, rfl⟩) dX6_init_57 q37 ?_
  obtain ⟨M38, hmM38⟩ : ∃ z, z = zsR M34 a0 3 (some (zsz M24)) := ⟨_, rfl⟩
  rw [← hmM38]
  have h := h M38 hmM38
  refine z_aload_n 0 dX6_init_60 rfl ?_
  refine z_new nw_X6_39 dX6_init_61 (Nat.le_of_ble_eq_true rfl) (Nat.le_of_ble_eq_true rfl) ?_
  obtain ⟨M39, hmM39⟩ : ∃ z, z = znew M38 4 5 := ⟨_, rfl⟩
  rw [← hmM39]
  have h := h M39 hmM39
  refine z_dup dX6_init_64 rfl ?_
  refine z_aload_n 0 dX6_init_65 rfl ?_
  obtain ⟨q40, h⟩ := h
  refine z_getR fl_X6_19 rfl dX6_init_66 q40 ?_
  refine z_aload_n 0 dX6_init_69 rfl ?_
  obtain ⟨q41, h⟩ := h
  refine z_getR fl_X6_26 rfl dX6_init_70 q41 ?_
  refine z_aload_n 0 dX6_init_73 rfl ?_
  obtain ⟨q42, h⟩ := h
  refine z_getR fl_X6_35 rfl dX6_init_74 q42 ?_
  obtain ⟨b43, eb43, h⟩ := h
  rw [eb43]
  obtain ⟨b44, eb44, h⟩ := h
  rw [eb44]
  obtain ⟨b45, eb45, h⟩ := h
  rw [eb45]
  obtain ⟨P46, c47, h⟩ := h
  refine z_Iv (as := [vR (some b43), vR (some b44), vR (some b45)]) mi_X6_41 dX6_init_77 c47 rfl rfl (Nat.le_of_ble_eq_true rfl) (Nat.le_of_ble_eq_true rfl) (Nat.le_of_ble_eq_true rfl) (fun M48 p50 => ?_)
  have h := h M48 p50
  obtain ⟨q51, h⟩ := h
  refine z_putR fl_X6_44 rfl (Or.inr ⟨rfl, rfl⟩) dX6_init_80 q51 ?_
  obtain ⟨M52, hmM52⟩ : ∃ z, z = zsR M48 a0 4 (some (zsz M38)) := ⟨_, rfl⟩
  rw [← hmM52]
  have h := h M52 hmM52
  exact z_vret hr dX6_init_83 (Nat.le_of_ble_eq_true rfl) (Nat.le_of_ble_eq_true rfl) ⟨rfl, h⟩
theorem sX6_init {E : zE} {d : Nat} {P : zM → Prop} {M : zM} (a0 : Nat) (h : ∀ X : zX, (xh X).sig.returnType = none → ZX6_init E d X P 0 [(0, vR (some a0))] [] M 0 0) : zCv E mX6_init (d + 1) 21 2201 [vR (some a0)] M P := z_start (f := mX6_init) rfl (Nat.le_of_ble_eq_true rfl) rfl h
abbrev ZX6_space (E : zE) (d : Nat) (X : zX) (P : Int → zM → Prop) (pc : Nat) (Lc : List (Nat × zV)) (S : List zV) (M : zM) (ce sl : Nat) : Prop := zZ cX6_space RX6 "space" 2 E (zrm (d + 1) 0 0) X (zQ E (zPi P) X 0 0) pc Lc S M ce sl
set_option maxRecDepth 20000 in
theorem vX6_space_0 {E : zE} {d : Nat} {X : zX} {P : Int → zM → Prop} {M : zM} (hr : (xh X).sig.returnType = (some .int)) (a0 : Nat) (x1 : Int)
    (h : ((x1 < 1 → P (-1) M) ∧ (1 ≤ x1 → ((9 < x1 → P (-1) M) ∧ (x1 ≤ 9 → zK M a0 = (7, 5) ∧ ∃ b4, zR M a0 0 = some b4 ∧ zK M b4 = (2, 5) ∧ (((zI M b4 3) < 20 → zK M a0 = (7, 5) ∧ zK M b4 = (2, 5) ∧ ∃ P8 : Int → zM → Prop, zCi E mX1_addSpace d 0 0 [vR (some b4), vI x1] M P8 ∧ ∀ r11 M10, P8 r11 M10 → P r11 M10) ∧ (20 ≤ (zI M b4 3) → P (-1) M))))))) :
    ZX6_space E d X P 0 [(0, vR (some a0)), (1, vI x1)] [] M 0 0 := by
  refine z_iload_n 1 dX6_space_0 rfl ?_
  refine z_iconst dX6_space_1 (by decide) ?_
  refine z_icmp_lt (tgt := 23) dX6_space_2 (by decide) (fun q1 => ?_) (fun q1 => ?_)
  · have h := h.1 q1
    refine z_iconst dX6_space_23 (by decide) ?_
    exact z_iret hr dX6_space_24 (Nat.le_of_ble_eq_true rfl) (Nat.le_of_ble_eq_true rfl) ⟨_, rfl, h⟩
  · have h := h.2 q1
    refine z_iload_n 1 dX6_space_5 rfl ?_
    refine z_bipush dX6_space_6 (by decide) ?_
    refine z_icmp_gt (tgt := 23) dX6_space_8 (by decide) (fun q2 => ?_) (fun q2 => ?_)
    · have h := h.1 q2
      refine z_iconst dX6_space_23 (by decide) ?_
      exact z_iret hr dX6_space_24 (Nat.le_of_ble_eq_true rfl) (Nat.le_of_ble_eq_true rfl) ⟨_, rfl, h⟩
    · have h := h.2 q2
      refine z_aload_n 0 dX6_space_11 rfl ?_
      obtain ⟨q3, h⟩ := h
      refine z_getR fl_X6_10 rfl dX6_space_12 q3 ?_
      obtain ⟨b4, eb4, h⟩ := h
      rw [eb4]
      obtain ⟨q5, h⟩ := h
      refine z_getI fl_X6_48 dX6_space_15 q5 ?_
      refine z_bipush dX6_space_18 (by decide) ?_
      refine z_icmp_lt (tgt := 25) dX6_space_20 (by decide) (fun q6 => ?_) (fun q6 => ?_)
      · have h := h.1 q6
        refine z_aload_n 0 dX6_space_25 rfl ?_
        obtain ⟨q7, h⟩ := h
        refine z_getR fl_X6_10 rfl dX6_space_26 q7 ?_
        rw [eb4]
        refine z_iload_n 1 dX6_space_29 rfl ?_
        obtain ⟨q13, h⟩ := h
        obtain ⟨P8, c9, h⟩ := h
        refine z_Vi (as := [vI x1]) mv_X6_52 dX6_space_30 c9 q13 rfl rfl (Nat.le_of_ble_eq_true rfl) (Nat.le_of_ble_eq_true rfl) (Nat.le_of_ble_eq_true rfl) (fun r11 M10 p12 => ?_)
        have h := h r11 M10 p12
        exact z_iret hr dX6_space_33 (Nat.le_of_ble_eq_true rfl) (Nat.le_of_ble_eq_true rfl) ⟨_, rfl, h⟩
      · have h := h.2 q6
        refine z_iconst dX6_space_23 (by decide) ?_
        exact z_iret hr dX6_space_24 (Nat.le_of_ble_eq_true rfl) (Nat.le_of_ble_eq_true rfl) ⟨_, rfl, h⟩
theorem sX6_space {E : zE} {d : Nat} {P : Int → zM → Prop} {M : zM} (a0 : Nat) (x1 : Int) (h : ∀ X : zX, (xh X).sig.returnType = (some .int) → ZX6_space E d X P 0 [(0, vR (some a0)), (1, vI x1)] [] M 0 0) : zCi E mX6_space (d + 1) 0 0 [vR (some a0), vI x1] M P := z_start (f := mX6_space) rfl (Nat.le_of_ble_eq_true rfl) rfl h
abbrev ZX6_near (E : zE) (d : Nat) (X : zX) (P : Int → zM → Prop) (pc : Nat) (Lc : List (Nat × zV)) (S : List zV) (M : zM) (ce sl : Nat) : Prop := zZ cX6_near RX6 "near" 3 E (zrm (d + 1) 0 0) X (zQ E (zPi P) X 0 0) pc Lc S M ce sl
set_option maxRecDepth 20000 in
theorem vX6_near_0 {E : zE} {d : Nat} {X : zX} {P : Int → zM → Prop} {M : zM} (hr : (xh X).sig.returnType = (some .boolean)) (a0 : Nat) (x1 : Int) (x2 : Int)
    (h : zK M a0 = (7, 5) ∧ ∃ b2, zR M a0 0 = some b2 ∧ zK M b2 = (2, 5) ∧ ∃ P3 : Int → zM → Prop, zCi E mX1_hasSpace d 0 0 [vR (some b2), vI x1] M P3 ∧ ∀ r6 M5, P3 r6 M5 → ((r6 = 0 → P 0 M5) ∧ (r6 ≠ 0 → zK M5 a0 = (7, 5) ∧ ∃ b11, zR M5 a0 0 = some b11 ∧ zK M5 b11 = (2, 5) ∧ ∃ P12 : Int → zM → Prop, zCi E mX1_hasSpace d 0 0 [vR (some b11), vI x2] M5 P12 ∧ ∀ r15 M14, P12 r15 M14 → ((r15 = 0 → P 0 M14) ∧ (r15 ≠ 0 → ((x1 = x2 → P 0 M14) ∧ (x1 ≠ x2 → zK M14 a0 = (7, 5) ∧ ∃ b21, zR M14 a0 0 = some b21 ∧ zK M14 b21 = (2, 5) ∧ ∃ P22 : Int → zM → Prop, zCi E mX1_areNear d 0 0 [vR (some b21), vI x1, vI x2] M14 P22 ∧ ∀ r25 M24, P22 r25 M24 → ((r25 = 0 → zK M24 a0 = (7, 5) ∧ ∃ b30, zR M24 a0 0 = some b30 ∧ zK M24 b30 = (2, 5) ∧ ∃ P31 : zM → Prop, zCv E mX1_join d 0 0 [vR (some b30), vI x1, vI x2] M24 P31 ∧ ∀ M33, P31 M33 → zK M33 a0 = (7, 5) ∧ ∃ b38, zR M33 a0 3 = some b38 ∧ zK M33 b38 = (5, 5) ∧ ∃ P39 : zM → Prop, zCv E mX4_markFoes d 0 0 [vR (some b38)] M33 P39 ∧ ∀ M41, P39 M41 → P 1 M41) ∧ (r25 ≠ 0 → P 0 M24))))))))) :
    ZX6_near E d X P 0 [(0, vR (some a0)), (1, vI x1), (2, vI x2)] [] M 0 0 := by
  refine z_aload_n 0 dX6_near_0 rfl ?_
  obtain ⟨q1, h⟩ := h
  refine z_getR fl_X6_10 rfl dX6_near_1 q1 ?_
  refine z_iload_n 1 dX6_near_4 rfl ?_
  obtain ⟨b2, eb2, h⟩ := h
  rw [eb2]
  obtain ⟨q8, h⟩ := h
  obtain ⟨P3, c4, h⟩ := h
  refine z_Vi (as := [vI x1]) mv_X6_56 dX6_near_5 c4 q8 rfl rfl (Nat.le_of_ble_eq_true rfl) (Nat.le_of_ble_eq_true rfl) (Nat.le_of_ble_eq_true rfl) (fun r6 M5 p7 => ?_)
  have h := h r6 M5 p7
  refine z_if_eq (tgt := 39) dX6_near_8 (by decide) (fun q9 => ?_) (fun q9 => ?_)
  · have h := h.1 q9
    refine z_iconst dX6_near_39 (by decide) ?_
    exact z_zret hr dX6_near_40 (Nat.le_of_ble_eq_true rfl) (Nat.le_of_ble_eq_true rfl) (by decide) ⟨_, rfl, h⟩
  · have h := h.2 q9
    refine z_aload_n 0 dX6_near_11 rfl ?_
    obtain ⟨q10, h⟩ := h
    refine z_getR fl_X6_10 rfl dX6_near_12 q10 ?_
    refine z_iload_n 2 dX6_near_15 rfl ?_
    obtain ⟨b11, eb11, h⟩ := h
    rw [eb11]
    obtain ⟨q17, h⟩ := h
    obtain ⟨P12, c13, h⟩ := h
    refine z_Vi (as := [vI x2]) mv_X6_56 dX6_near_16 c13 q17 rfl rfl (Nat.le_of_ble_eq_true rfl) (Nat.le_of_ble_eq_true rfl) (Nat.le_of_ble_eq_true rfl) (fun r15 M14 p16 => ?_)
    have h := h r15 M14 p16
    refine z_if_eq (tgt := 39) dX6_near_19 (by decide) (fun q18 => ?_) (fun q18 => ?_)
    · have h := h.1 q18
      refine z_iconst dX6_near_39 (by decide) ?_
      exact z_zret hr dX6_near_40 (Nat.le_of_ble_eq_true rfl) (Nat.le_of_ble_eq_true rfl) (by decide) ⟨_, rfl, h⟩
    · have h := h.2 q18
      refine z_iload_n 1 dX6_near_22 rfl ?_
      refine z_iload_n 2 dX6_near_23 rfl ?_
      refine z_icmp_eq (tgt := 39) dX6_near_24 (by decide) (fun q19 => ?_) (fun q19 => ?_)
      · have h := h.1 q19
        refine z_iconst dX6_near_39 (by decide) ?_
        exact z_zret hr dX6_near_40 (Nat.le_of_ble_eq_true rfl) (Nat.le_of_ble_eq_true rfl) (by decide) ⟨_, rfl, h⟩
      · have h := h.2 q19
        refine z_aload_n 0 dX6_near_27 rfl ?_
        obtain ⟨q20, h⟩ := h
        refine z_getR fl_X6_10 rfl dX6_near_28 q20 ?_
        refine z_iload_n 1 dX6_near_31 rfl ?_
        refine z_iload_n 2 dX6_near_32 rfl ?_
        obtain ⟨b21, eb21, h⟩ := h
        rw [eb21]
        obtain ⟨q27, h⟩ := h
        obtain ⟨P22, c23, h⟩ := h
        refine z_Vi (as := [vI x1, vI x2]) mv_X6_60 dX6_near_33 c23 q27 rfl rfl (Nat.le_of_ble_eq_true rfl) (Nat.le_of_ble_eq_true rfl) (Nat.le_of_ble_eq_true rfl) (fun r25 M24 p26 => ?_)
        have h := h r25 M24 p26
        refine z_if_eq (tgt := 41) dX6_near_36 (by decide) (fun q28 => ?_) (fun q28 => ?_)
        · have h := h.1 q28
          refine z_aload_n 0 dX6_near_41 rfl ?_
          obtain ⟨q29, h⟩ := h
          refine z_getR fl_X6_10 rfl dX6_near_42 q29 ?_
          refine z_iload_n 1 dX6_near_45 rfl ?_
          refine z_iload_n 2 dX6_near_46 rfl ?_
          obtain ⟨b30, eb30, h⟩ := h
          rw [eb30]
          obtain ⟨q36, h⟩ := h
          obtain ⟨P31, c32, h⟩ := h
          refine z_Vv (as := [vI x1, vI x2]) mv_X6_64 dX6_near_47 c32 q36 rfl rfl (Nat.le_of_ble_eq_true rfl) (Nat.le_of_ble_eq_true rfl) (Nat.le_of_ble_eq_true rfl) (fun M33 p35 => ?_)
          have h := h M33 p35
          refine z_aload_n 0 dX6_near_50 rfl ?_
          obtain ⟨q37, h⟩ := h
          refine z_getR fl_X6_35 rfl dX6_near_51 q37 ?_
          obtain ⟨b38, eb38, h⟩ := h
          rw [eb38]
          obtain ⟨q44, h⟩ := h
          obtain ⟨P39, c40, h⟩ := h
          refine z_Vv (as := []) mv_X6_68 dX6_near_54 c40 q44 rfl rfl (Nat.le_of_ble_eq_true rfl) (Nat.le_of_ble_eq_true rfl) (Nat.le_of_ble_eq_true rfl) (fun M41 p43 => ?_)
          have h := h M41 p43
          refine z_iconst dX6_near_57 (by decide) ?_
          exact z_zret hr dX6_near_58 (Nat.le_of_ble_eq_true rfl) (Nat.le_of_ble_eq_true rfl) (by decide) ⟨_, rfl, h⟩
        · have h := h.2 q28
          refine z_iconst dX6_near_39 (by decide) ?_
          exact z_zret hr dX6_near_40 (Nat.le_of_ble_eq_true rfl) (Nat.le_of_ble_eq_true rfl) (by decide) ⟨_, rfl, h⟩
theorem sX6_near {E : zE} {d : Nat} {P : Int → zM → Prop} {M : zM} (a0 : Nat) (x1 : Int) (x2 : Int) (h : ∀ X : zX, (xh X).sig.returnType = (some .boolean) → ZX6_near E d X P 0 [(0, vR (some a0)), (1, vI x1), (2, vI x2)] [] M 0 0) : zCi E mX6_near (d + 1) 0 0 [vR (some a0), vI x1, vI x2] M P := z_start (f := mX6_near) rfl (Nat.le_of_ble_eq_true rfl) rfl h
abbrev ZX6_gang (E : zE) (d : Nat) (X : zX) (P : Int → zM → Prop) (pc : Nat) (Lc : List (Nat × zV)) (S : List zV) (M : zM) (ce sl : Nat) : Prop := zZ cX6_gang RX6 "gang" 3 E (zrm (d + 1) 0 0) X (zQ E (zPi P) X 0 0) pc Lc S M ce sl
set_option maxRecDepth 20000 in
theorem vX6_gang_0 {E : zE} {d : Nat} {X : zX} {P : Int → zM → Prop} {M : zM} (hr : (xh X).sig.returnType = (some .boolean)) (a0 : Nat) (x1 : Int) (x2 : Int)
    (h : ∃ P1 : Int → zM → Prop, zCi E mX6_isTrade d 0 0 [vI x1] M P1 ∧ ∀ r4 M3, P1 r4 M3 → ((r4 = 0 → P 0 M3) ∧ (r4 ≠ 0 → ((x2 < 0 → P 0 M3) ∧ (0 ≤ x2 → ((x2 ≤ 99 → zK M3 a0 = (7, 5) ∧ ∃ b10, zR M3 a0 3 = some b10 ∧ zK M3 b10 = (5, 5) ∧ ∃ b12, zR M3 b10 0 = some b12 ∧ (zK M3 b12).1 = 9 ∧ 0 ≤ x1 ∧ x1 < ((zK M3 b12).2 : Int) ∧ ∀ M16, M16 = zsI M3 b12 x1 x2 → P 1 M16) ∧ (99 < x2 → P 0 M3))))))) :
    ZX6_gang E d X P 0 [(0, vR (some a0)), (1, vI x1), (2, vI x2)] [] M 0 0 := by
  refine z_iload_n 1 dX6_gang_0 rfl ?_
  obtain ⟨P1, c2, h⟩ := h
  refine z_Si (as := [vI x1]) ms_X6_71 dX6_gang_1 c2 rfl rfl (Nat.le_of_ble_eq_true rfl) (Nat.le_of_ble_eq_true rfl) (Nat.le_of_ble_eq_true rfl) (fun r4 M3 p5 => ?_)
  have h := h r4 M3 p5
  refine z_if_eq (tgt := 17) dX6_gang_4 (by decide) (fun q6 => ?_) (fun q6 => ?_)
  · have h := h.1 q6
    refine z_iconst dX6_gang_17 (by decide) ?_
    exact z_zret hr dX6_gang_18 (Nat.le_of_ble_eq_true rfl) (Nat.le_of_ble_eq_true rfl) (by decide) ⟨_, rfl, h⟩
  · have h := h.2 q6
    refine z_iload_n 2 dX6_gang_7 rfl ?_
    refine z_if_lt (tgt := 17) dX6_gang_8 (by decide) (fun q7 => ?_) (fun q7 => ?_)
    · have h := h.1 q7
      refine z_iconst dX6_gang_17 (by decide) ?_
      exact z_zret hr dX6_gang_18 (Nat.le_of_ble_eq_true rfl) (Nat.le_of_ble_eq_true rfl) (by decide) ⟨_, rfl, h⟩
    · have h := h.2 q7
      refine z_iload_n 2 dX6_gang_11 rfl ?_
      refine z_bipush dX6_gang_12 (by decide) ?_
      refine z_icmp_le (tgt := 19) dX6_gang_14 (by decide) (fun q8 => ?_) (fun q8 => ?_)
      · have h := h.1 q8
        refine z_aload_n 0 dX6_gang_19 rfl ?_
        obtain ⟨q9, h⟩ := h
        refine z_getR fl_X6_35 rfl dX6_gang_20 q9 ?_
        obtain ⟨b10, eb10, h⟩ := h
        rw [eb10]
        obtain ⟨q11, h⟩ := h
        refine z_getR fl_X6_74 rfl dX6_gang_23 q11 ?_
        refine z_iload_n 1 dX6_gang_26 rfl ?_
        refine z_iload_n 2 dX6_gang_27 rfl ?_
        obtain ⟨b12, eb12, h⟩ := h
        rw [eb12]
        obtain ⟨q13, h⟩ := h
        obtain ⟨q14, h⟩ := h
        obtain ⟨q15, h⟩ := h
        refine z_iast dX6_gang_28 (n := (zK M3 b12).2) (Prod.ext q13 rfl) q14 q15 ?_
        obtain ⟨M16, hmM16⟩ : ∃ z, z = zsI M3 b12 x1 x2 := ⟨_, rfl⟩
        rw [← hmM16]
        have h := h M16 hmM16
        refine z_iconst dX6_gang_29 (by decide) ?_
        exact z_zret hr dX6_gang_30 (Nat.le_of_ble_eq_true rfl) (Nat.le_of_ble_eq_true rfl) (by decide) ⟨_, rfl, h⟩
      · have h := h.2 q8
        refine z_iconst dX6_gang_17 (by decide) ?_
        exact z_zret hr dX6_gang_18 (Nat.le_of_ble_eq_true rfl) (Nat.le_of_ble_eq_true rfl) (by decide) ⟨_, rfl, h⟩
theorem sX6_gang {E : zE} {d : Nat} {P : Int → zM → Prop} {M : zM} (a0 : Nat) (x1 : Int) (x2 : Int) (h : ∀ X : zX, (xh X).sig.returnType = (some .boolean) → ZX6_gang E d X P 0 [(0, vR (some a0)), (1, vI x1), (2, vI x2)] [] M 0 0) : zCi E mX6_gang (d + 1) 0 0 [vR (some a0), vI x1, vI x2] M P := z_start (f := mX6_gang) rfl (Nat.le_of_ble_eq_true rfl) rfl h
abbrev ZX6_good (E : zE) (d : Nat) (X : zX) (P : Int → zM → Prop) (pc : Nat) (Lc : List (Nat × zV)) (S : List zV) (M : zM) (ce sl : Nat) : Prop := zZ cX6_good RX6 "good" 3 E (zrm (d + 1) 0 0) X (zQ E (zPi P) X 0 0) pc Lc S M ce sl
set_option maxRecDepth 20000 in
theorem vX6_good_0 {E : zE} {d : Nat} {X : zX} {P : Int → zM → Prop} {M : zM} (hr : (xh X).sig.returnType = (some .boolean)) (a0 : Nat) (x1 : Int) (x2 : Int)
    (h : ∃ P1 : Int → zM → Prop, zCi E mX6_isGood d 0 0 [vI x1] M P1 ∧ ∀ r4 M3, P1 r4 M3 → ((r4 = 0 → P 0 M3) ∧ (r4 ≠ 0 → ((x2 < 0 → P 0 M3) ∧ (0 ≤ x2 → ((x2 ≤ 9 → zK M3 a0 = (7, 5) ∧ ∃ b10, zR M3 a0 3 = some b10 ∧ zK M3 b10 = (5, 5) ∧ ∃ b12, zR M3 b10 1 = some b12 ∧ (zK M3 b12).1 = 9 ∧ 0 ≤ x1 ∧ x1 < ((zK M3 b12).2 : Int) ∧ ∀ M16, M16 = zsI M3 b12 x1 x2 → P 1 M16) ∧ (9 < x2 → P 0 M3))))))) :
    ZX6_good E d X P 0 [(0, vR (some a0)), (1, vI x1), (2, vI x2)] [] M 0 0 := by
  refine z_iload_n 1 dX6_good_0 rfl ?_
  obtain ⟨P1, c2, h⟩ := h
  refine z_Si (as := [vI x1]) ms_X6_78 dX6_good_1 c2 rfl rfl (Nat.le_of_ble_eq_true rfl) (Nat.le_of_ble_eq_true rfl) (Nat.le_of_ble_eq_true rfl) (fun r4 M3 p5 => ?_)
  have h := h r4 M3 p5
  refine z_if_eq (tgt := 17) dX6_good_4 (by decide) (fun q6 => ?_) (fun q6 => ?_)
  · have h := h.1 q6
    refine z_iconst dX6_good_17 (by decide) ?_
    exact z_zret hr dX6_good_18 (Nat.le_of_ble_eq_true rfl) (Nat.le_of_ble_eq_true rfl) (by decide) ⟨_, rfl, h⟩
  · have h := h.2 q6
    refine z_iload_n 2 dX6_good_7 rfl ?_
    refine z_if_lt (tgt := 17) dX6_good_8 (by decide) (fun q7 => ?_) (fun q7 => ?_)
    · have h := h.1 q7
      refine z_iconst dX6_good_17 (by decide) ?_
      exact z_zret hr dX6_good_18 (Nat.le_of_ble_eq_true rfl) (Nat.le_of_ble_eq_true rfl) (by decide) ⟨_, rfl, h⟩
    · have h := h.2 q7
      refine z_iload_n 2 dX6_good_11 rfl ?_
      refine z_bipush dX6_good_12 (by decide) ?_
      refine z_icmp_le (tgt := 19) dX6_good_14 (by decide) (fun q8 => ?_) (fun q8 => ?_)
      · have h := h.1 q8
        refine z_aload_n 0 dX6_good_19 rfl ?_
        obtain ⟨q9, h⟩ := h
        refine z_getR fl_X6_35 rfl dX6_good_20 q9 ?_
        obtain ⟨b10, eb10, h⟩ := h
        rw [eb10]
        obtain ⟨q11, h⟩ := h
        refine z_getR fl_X6_81 rfl dX6_good_23 q11 ?_
        refine z_iload_n 1 dX6_good_26 rfl ?_
        refine z_iload_n 2 dX6_good_27 rfl ?_
        obtain ⟨b12, eb12, h⟩ := h
        rw [eb12]
        obtain ⟨q13, h⟩ := h
        obtain ⟨q14, h⟩ := h
        obtain ⟨q15, h⟩ := h
        refine z_iast dX6_good_28 (n := (zK M3 b12).2) (Prod.ext q13 rfl) q14 q15 ?_
        obtain ⟨M16, hmM16⟩ : ∃ z, z = zsI M3 b12 x1 x2 := ⟨_, rfl⟩
        rw [← hmM16]
        have h := h M16 hmM16
        refine z_iconst dX6_good_29 (by decide) ?_
        exact z_zret hr dX6_good_30 (Nat.le_of_ble_eq_true rfl) (Nat.le_of_ble_eq_true rfl) (by decide) ⟨_, rfl, h⟩
      · have h := h.2 q8
        refine z_iconst dX6_good_17 (by decide) ?_
        exact z_zret hr dX6_good_18 (Nat.le_of_ble_eq_true rfl) (Nat.le_of_ble_eq_true rfl) (by decide) ⟨_, rfl, h⟩
theorem sX6_good {E : zE} {d : Nat} {P : Int → zM → Prop} {M : zM} (a0 : Nat) (x1 : Int) (x2 : Int) (h : ∀ X : zX, (xh X).sig.returnType = (some .boolean) → ZX6_good E d X P 0 [(0, vR (some a0)), (1, vI x1), (2, vI x2)] [] M 0 0) : zCi E mX6_good (d + 1) 0 0 [vR (some a0), vI x1, vI x2] M P := z_start (f := mX6_good) rfl (Nat.le_of_ble_eq_true rfl) rfl h
abbrev ZX6_bar (E : zE) (d : Nat) (X : zX) (P : Int → zM → Prop) (pc : Nat) (Lc : List (Nat × zV)) (S : List zV) (M : zM) (ce sl : Nat) : Prop := zZ cX6_bar RX6 "bar" 4 E (zrm (d + 1) 0 0) X (zQ E (zPi P) X 0 0) pc Lc S M ce sl
set_option maxRecDepth 20000 in
theorem vX6_bar_0 {E : zE} {d : Nat} {X : zX} {P : Int → zM → Prop} {M : zM} (hr : (xh X).sig.returnType = (some .boolean)) (a0 : Nat) (x1 : Int) (x2 : Int) (x3 : Int)
    (h : ∃ P1 : Int → zM → Prop, zCi E mX6_isKind d 0 0 [vI x1] M P1 ∧ ∀ r4 M3, P1 r4 M3 → ((r4 = 0 → P 0 M3) ∧ (r4 ≠ 0 → ∃ P7 : Int → zM → Prop, zCi E mX6_isKind d 0 0 [vI x2] M3 P7 ∧ ∀ r10 M9, P7 r10 M9 → ((r10 = 0 → P 0 M9) ∧ (r10 ≠ 0 → ((x3 < 0 → P 0 M9) ∧ (0 ≤ x3 → ((3 ≤ x3 → P 0 M9) ∧ (x3 < 3 → zK M9 a0 = (7, 5) ∧ ∃ b16, zR M9 a0 0 = some b16 ∧ zK M9 b16 = (2, 5) ∧ ∃ P17 : Int → zM → Prop, zCi E mX1_isBarred d 0 0 [vR (some b16), vI x1, vI x2, vI x3] M9 P17 ∧ ∀ r20 M19, P17 r20 M19 → ((r20 = 0 → zK M19 a0 = (7, 5) ∧ ∃ b25, zR M19 a0 0 = some b25 ∧ zK M19 b25 = (2, 5) ∧ ∃ P26 : zM → Prop, zCv E mX1_forbid d 0 0 [vR (some b25), vI x1, vI x2, vI x3] M19 P26 ∧ ∀ M28, P26 M28 → zK M28 a0 = (7, 5) ∧ ∃ b33, zR M28 a0 3 = some b33 ∧ zK M28 b33 = (5, 5) ∧ ∃ P34 : zM → Prop, zCv E mX4_markFoes d 0 0 [vR (some b33)] M28 P34 ∧ ∀ M36, P34 M36 → P 1 M36) ∧ (r20 ≠ 0 → P 0 M19))))))))))) :
    ZX6_bar E d X P 0 [(0, vR (some a0)), (1, vI x1), (2, vI x2), (3, vI x3)] [] M 0 0 := by
  refine z_iload_n 1 dX6_bar_0 rfl ?_
  obtain ⟨P1, c2, h⟩ := h
  refine z_Si (as := [vI x1]) ms_X6_84 dX6_bar_1 c2 rfl rfl (Nat.le_of_ble_eq_true rfl) (Nat.le_of_ble_eq_true rfl) (Nat.le_of_ble_eq_true rfl) (fun r4 M3 p5 => ?_)
  have h := h r4 M3 p5
  refine z_if_eq (tgt := 36) dX6_bar_4 (by decide) (fun q6 => ?_) (fun q6 => ?_)
  · have h := h.1 q6
    refine z_iconst dX6_bar_36 (by decide) ?_
    exact z_zret hr dX6_bar_37 (Nat.le_of_ble_eq_true rfl) (Nat.le_of_ble_eq_true rfl) (by decide) ⟨_, rfl, h⟩
  · have h := h.2 q6
    refine z_iload_n 2 dX6_bar_7 rfl ?_
    obtain ⟨P7, c8, h⟩ := h
    refine z_Si (as := [vI x2]) ms_X6_84 dX6_bar_8 c8 rfl rfl (Nat.le_of_ble_eq_true rfl) (Nat.le_of_ble_eq_true rfl) (Nat.le_of_ble_eq_true rfl) (fun r10 M9 p11 => ?_)
    have h := h r10 M9 p11
    refine z_if_eq (tgt := 36) dX6_bar_11 (by decide) (fun q12 => ?_) (fun q12 => ?_)
    · have h := h.1 q12
      refine z_iconst dX6_bar_36 (by decide) ?_
      exact z_zret hr dX6_bar_37 (Nat.le_of_ble_eq_true rfl) (Nat.le_of_ble_eq_true rfl) (by decide) ⟨_, rfl, h⟩
    · have h := h.2 q12
      refine z_iload_n 3 dX6_bar_14 rfl ?_
      refine z_if_lt (tgt := 36) dX6_bar_15 (by decide) (fun q13 => ?_) (fun q13 => ?_)
      · have h := h.1 q13
        refine z_iconst dX6_bar_36 (by decide) ?_
        exact z_zret hr dX6_bar_37 (Nat.le_of_ble_eq_true rfl) (Nat.le_of_ble_eq_true rfl) (by decide) ⟨_, rfl, h⟩
      · have h := h.2 q13
        refine z_iload_n 3 dX6_bar_18 rfl ?_
        refine z_iconst dX6_bar_19 (by decide) ?_
        refine z_icmp_ge (tgt := 36) dX6_bar_20 (by decide) (fun q14 => ?_) (fun q14 => ?_)
        · have h := h.1 q14
          refine z_iconst dX6_bar_36 (by decide) ?_
          exact z_zret hr dX6_bar_37 (Nat.le_of_ble_eq_true rfl) (Nat.le_of_ble_eq_true rfl) (by decide) ⟨_, rfl, h⟩
        · have h := h.2 q14
          refine z_aload_n 0 dX6_bar_23 rfl ?_
          obtain ⟨q15, h⟩ := h
          refine z_getR fl_X6_10 rfl dX6_bar_24 q15 ?_
          refine z_iload_n 1 dX6_bar_27 rfl ?_
          refine z_iload_n 2 dX6_bar_28 rfl ?_
          refine z_iload_n 3 dX6_bar_29 rfl ?_
          obtain ⟨b16, eb16, h⟩ := h
          rw [eb16]
          obtain ⟨q22, h⟩ := h
          obtain ⟨P17, c18, h⟩ := h
          refine z_Vi (as := [vI x1, vI x2, vI x3]) mv_X6_87 dX6_bar_30 c18 q22 rfl rfl (Nat.le_of_ble_eq_true rfl) (Nat.le_of_ble_eq_true rfl) (Nat.le_of_ble_eq_true rfl) (fun r20 M19 p21 => ?_)
          have h := h r20 M19 p21
          refine z_if_eq (tgt := 38) dX6_bar_33 (by decide) (fun q23 => ?_) (fun q23 => ?_)
          · have h := h.1 q23
            refine z_aload_n 0 dX6_bar_38 rfl ?_
            obtain ⟨q24, h⟩ := h
            refine z_getR fl_X6_10 rfl dX6_bar_39 q24 ?_
            refine z_iload_n 1 dX6_bar_42 rfl ?_
            refine z_iload_n 2 dX6_bar_43 rfl ?_
            refine z_iload_n 3 dX6_bar_44 rfl ?_
            obtain ⟨b25, eb25, h⟩ := h
            rw [eb25]
            obtain ⟨q31, h⟩ := h
            obtain ⟨P26, c27, h⟩ := h
            refine z_Vv (as := [vI x1, vI x2, vI x3]) mv_X6_91 dX6_bar_45 c27 q31 rfl rfl (Nat.le_of_ble_eq_true rfl) (Nat.le_of_ble_eq_true rfl) (Nat.le_of_ble_eq_true rfl) (fun M28 p30 => ?_)
            have h := h M28 p30
            refine z_aload_n 0 dX6_bar_48 rfl ?_
            obtain ⟨q32, h⟩ := h
            refine z_getR fl_X6_35 rfl dX6_bar_49 q32 ?_
            obtain ⟨b33, eb33, h⟩ := h
            rw [eb33]
            obtain ⟨q39, h⟩ := h
            obtain ⟨P34, c35, h⟩ := h
            refine z_Vv (as := []) mv_X6_68 dX6_bar_52 c35 q39 rfl rfl (Nat.le_of_ble_eq_true rfl) (Nat.le_of_ble_eq_true rfl) (Nat.le_of_ble_eq_true rfl) (fun M36 p38 => ?_)
            have h := h M36 p38
            refine z_iconst dX6_bar_55 (by decide) ?_
            exact z_zret hr dX6_bar_56 (Nat.le_of_ble_eq_true rfl) (Nat.le_of_ble_eq_true rfl) (by decide) ⟨_, rfl, h⟩
          · have h := h.2 q23
            refine z_iconst dX6_bar_36 (by decide) ?_
            exact z_zret hr dX6_bar_37 (Nat.le_of_ble_eq_true rfl) (Nat.le_of_ble_eq_true rfl) (by decide) ⟨_, rfl, h⟩
theorem sX6_bar {E : zE} {d : Nat} {P : Int → zM → Prop} {M : zM} (a0 : Nat) (x1 : Int) (x2 : Int) (x3 : Int) (h : ∀ X : zX, (xh X).sig.returnType = (some .boolean) → ZX6_bar E d X P 0 [(0, vR (some a0)), (1, vI x1), (2, vI x2), (3, vI x3)] [] M 0 0) : zCi E mX6_bar (d + 1) 0 0 [vR (some a0), vI x1, vI x2, vI x3] M P := z_start (f := mX6_bar) rfl (Nat.le_of_ble_eq_true rfl) rfl h
abbrev ZX6_work (E : zE) (d : Nat) (X : zX) (P : Int → zM → Prop) (pc : Nat) (Lc : List (Nat × zV)) (S : List zV) (M : zM) (ce sl : Nat) : Prop := zZ cX6_work RX6 "work" 4 E (zrm (d + 1) 1 16) X (zQ E (zPi P) X 1 16) pc Lc S M ce sl
set_option maxRecDepth 20000 in
theorem vX6_work_0 {E : zE} {d : Nat} {X : zX} {P : Int → zM → Prop} {M : zM} (hr : (xh X).sig.returnType = (some .int)) (a0 : Nat) (x1 : Int) (x2 : Int)
    (h : ((x1 < 0 → P (-1) M) ∧ (0 ≤ x1 → zK M a0 = (7, 5) ∧ ∃ b3, zR M a0 1 = some b3 ∧ zK M b3 = (3, 6) ∧ ((40 ≤ (zI M b3 4) → P (-1) M) ∧ ((zI M b3 4) < 40 → ((x2 = (-1) → ∀ M7, M7 = znew M 6 16 → zK M7 a0 = (7, 5) ∧ ∃ b9, zR M7 a0 1 = some b9 ∧ zK M7 b9 = (3, 6) ∧ ∃ P11 : zM → Prop, zCv E mX5_init d 0 0 [vR (some (zsz M)), vI (zI M7 b9 4), vI x1, vI x2] M7 P11 ∧ ∀ M13, P11 M13 → zK M13 a0 = (7, 5) ∧ ∃ P16 : Int → zM → Prop, zCi E mX6_canBe d 0 0 [vR (some a0), vR (some (zsz M))] M13 P16 ∧ ∀ r19 M18, P16 r19 M18 → ((r19 ≠ 0 → zK M18 a0 = (7, 5) ∧ ∃ b24, zR M18 a0 1 = some b24 ∧ zK M18 b24 = (3, 6) ∧ ∃ P25 : zM → Prop, zCv E mX2_addWork d 0 0 [vR (some b24), vR (some (zsz M))] M18 P25 ∧ ∀ M27, P25 M27 → zK M27 a0 = (7, 5) ∧ ∃ b32, zR M27 a0 3 = some b32 ∧ zK M27 b32 = (5, 5) ∧ ∃ P33 : zM → Prop, zCv E mX4_markFoes d 0 0 [vR (some b32)] M27 P33 ∧ ∀ M35, P33 M35 → zK M35 (zsz M) = (6, 16) ∧ P (zI M35 (zsz M) 0) M35) ∧ (r19 = 0 → P (-1) M18))) ∧ (x2 ≠ (-1) → ∃ P40 : Int → zM → Prop, zCi E mX6_isGood d 0 0 [vI x2] M P40 ∧ ∀ r43 M42, P40 r43 M42 → ((r43 ≠ 0 → ∀ M46, M46 = znew M42 6 16 → zK M46 a0 = (7, 5) ∧ ∃ b48, zR M46 a0 1 = some b48 ∧ zK M46 b48 = (3, 6) ∧ ∃ P50 : zM → Prop, zCv E mX5_init d 0 0 [vR (some (zsz M42)), vI (zI M46 b48 4), vI x1, vI x2] M46 P50 ∧ ∀ M52, P50 M52 → zK M52 a0 = (7, 5) ∧ ∃ P55 : Int → zM → Prop, zCi E mX6_canBe d 0 0 [vR (some a0), vR (some (zsz M42))] M52 P55 ∧ ∀ r58 M57, P55 r58 M57 → ((r58 ≠ 0 → zK M57 a0 = (7, 5) ∧ ∃ b63, zR M57 a0 1 = some b63 ∧ zK M57 b63 = (3, 6) ∧ ∃ P64 : zM → Prop, zCv E mX2_addWork d 0 0 [vR (some b63), vR (some (zsz M42))] M57 P64 ∧ ∀ M66, P64 M66 → zK M66 a0 = (7, 5) ∧ ∃ b71, zR M66 a0 3 = some b71 ∧ zK M66 b71 = (5, 5) ∧ ∃ P72 : zM → Prop, zCv E mX4_markFoes d 0 0 [vR (some b71)] M66 P72 ∧ ∀ M74, P72 M74 → zK M74 (zsz M42) = (6, 16) ∧ P (zI M74 (zsz M42) 0) M74) ∧ (r58 = 0 → P (-1) M57))) ∧ (r43 = 0 → P (-1) M42))))))))) :
    ZX6_work E d X P 0 [(0, vR (some a0)), (1, vI x1), (2, vI x2)] [] M 0 0 := by
  refine z_iload_n 1 dX6_work_0 rfl ?_
  refine z_if_lt (tgt := 28) dX6_work_1 (by decide) (fun q1 => ?_) (fun q1 => ?_)
  · have h := h.1 q1
    refine z_iconst dX6_work_28 (by decide) ?_
    exact z_iret hr dX6_work_29 (Nat.le_of_ble_eq_true rfl) (Nat.le_of_ble_eq_true rfl) ⟨_, rfl, h⟩
  · have h := h.2 q1
    refine z_aload_n 0 dX6_work_4 rfl ?_
    obtain ⟨q2, h⟩ := h
    refine z_getR fl_X6_19 rfl dX6_work_5 q2 ?_
    obtain ⟨b3, eb3, h⟩ := h
    rw [eb3]
    obtain ⟨q4, h⟩ := h
    refine z_getI fl_X6_95 dX6_work_8 q4 ?_
    refine z_bipush dX6_work_11 (by decide) ?_
    refine z_icmp_ge (tgt := 28) dX6_work_13 (by decide) (fun q5 => ?_) (fun q5 => ?_)
    · have h := h.1 q5
      refine z_iconst dX6_work_28 (by decide) ?_
      exact z_iret hr dX6_work_29 (Nat.le_of_ble_eq_true rfl) (Nat.le_of_ble_eq_true rfl) ⟨_, rfl, h⟩
    · have h := h.2 q5
      refine z_iload_n 2 dX6_work_16 rfl ?_
      refine z_iconst dX6_work_17 (by decide) ?_
      refine z_icmp_eq (tgt := 30) dX6_work_18 (by decide) (fun q6 => ?_) (fun q6 => ?_)
      · have h := h.1 q6
        refine z_new nw_X6_98 dX6_work_30 (Nat.le_of_ble_eq_true rfl) (Nat.le_of_ble_eq_true rfl) ?_
        obtain ⟨M7, hmM7⟩ : ∃ z, z = znew M 6 16 := ⟨_, rfl⟩
        rw [← hmM7]
        have h := h M7 hmM7
        refine z_dup dX6_work_33 rfl ?_
        refine z_aload_n 0 dX6_work_34 rfl ?_
        obtain ⟨q8, h⟩ := h
        refine z_getR fl_X6_19 rfl dX6_work_35 q8 ?_
        obtain ⟨b9, eb9, h⟩ := h
        rw [eb9]
        obtain ⟨q10, h⟩ := h
        refine z_getI fl_X6_95 dX6_work_38 q10 ?_
        refine z_iload_n 1 dX6_work_41 rfl ?_
        refine z_iload_n 2 dX6_work_42 rfl ?_
        obtain ⟨P11, c12, h⟩ := h
        refine z_Iv (as := [vI (zI M7 b9 4), vI x1, vI x2]) mi_X6_100 dX6_work_43 c12 rfl rfl (Nat.le_of_ble_eq_true rfl) (Nat.le_of_ble_eq_true rfl) (Nat.le_of_ble_eq_true rfl) (fun M13 p15 => ?_)
        have h := h M13 p15
        refine z_astore_n dX6_work_46 (by decide) rfl ?_
        refine z_aload_n 1 dX6_work_47 rfl ?_
        refine z_aload_n 0 dX6_work_48 rfl ?_
        obtain ⟨q21, h⟩ := h
        obtain ⟨P16, c17, h⟩ := h
        refine z_Vi (as := [vR (some (zsz M))]) mv_X6_102 dX6_work_49 c17 q21 rfl rfl (Nat.le_of_ble_eq_true rfl) (Nat.le_of_ble_eq_true rfl) (Nat.le_of_ble_eq_true rfl) (fun r19 M18 p20 => ?_)
        have h := h r19 M18 p20
        refine z_if_ne (tgt := 57) dX6_work_52 (by decide) (fun q22 => ?_) (fun q22 => ?_)
        · have h := h.1 q22
          refine z_aload_n 1 dX6_work_57 rfl ?_
          obtain ⟨q23, h⟩ := h
          refine z_getR fl_X6_19 rfl dX6_work_58 q23 ?_
          refine z_aload_n 0 dX6_work_61 rfl ?_
          obtain ⟨b24, eb24, h⟩ := h
          rw [eb24]
          obtain ⟨q30, h⟩ := h
          obtain ⟨P25, c26, h⟩ := h
          refine z_Vv (as := [vR (some (zsz M))]) mv_X6_106 dX6_work_62 c26 q30 rfl rfl (Nat.le_of_ble_eq_true rfl) (Nat.le_of_ble_eq_true rfl) (Nat.le_of_ble_eq_true rfl) (fun M27 p29 => ?_)
          have h := h M27 p29
          refine z_aload_n 1 dX6_work_65 rfl ?_
          obtain ⟨q31, h⟩ := h
          refine z_getR fl_X6_35 rfl dX6_work_66 q31 ?_
          obtain ⟨b32, eb32, h⟩ := h
          rw [eb32]
          obtain ⟨q38, h⟩ := h
          obtain ⟨P33, c34, h⟩ := h
          refine z_Vv (as := []) mv_X6_68 dX6_work_69 c34 q38 rfl rfl (Nat.le_of_ble_eq_true rfl) (Nat.le_of_ble_eq_true rfl) (Nat.le_of_ble_eq_true rfl) (fun M35 p37 => ?_)
          have h := h M35 p37
          refine z_aload_n 0 dX6_work_72 rfl ?_
          obtain ⟨q39, h⟩ := h
          refine z_getI fl_X6_110 dX6_work_73 q39 ?_
          exact z_iret hr dX6_work_76 (Nat.le_of_ble_eq_true rfl) (Nat.le_of_ble_eq_true rfl) ⟨_, rfl, h⟩
        · have h := h.2 q22
          refine z_iconst dX6_work_55 (by decide) ?_
          exact z_iret hr dX6_work_56 (Nat.le_of_ble_eq_true rfl) (Nat.le_of_ble_eq_true rfl) ⟨_, rfl, h⟩
      · have h := h.2 q6
        refine z_iload_n 2 dX6_work_21 rfl ?_
        obtain ⟨P40, c41, h⟩ := h
        refine z_Si (as := [vI x2]) ms_X6_78 dX6_work_22 c41 rfl rfl (Nat.le_of_ble_eq_true rfl) (Nat.le_of_ble_eq_true rfl) (Nat.le_of_ble_eq_true rfl) (fun r43 M42 p44 => ?_)
        have h := h r43 M42 p44
        refine z_if_ne (tgt := 30) dX6_work_25 (by decide) (fun q45 => ?_) (fun q45 => ?_)
        · have h := h.1 q45
          refine z_new nw_X6_98 dX6_work_30 (Nat.le_of_ble_eq_true rfl) (Nat.le_of_ble_eq_true rfl) ?_
          obtain ⟨M46, hmM46⟩ : ∃ z, z = znew M42 6 16 := ⟨_, rfl⟩
          rw [← hmM46]
          have h := h M46 hmM46
          refine z_dup dX6_work_33 rfl ?_
          refine z_aload_n 0 dX6_work_34 rfl ?_
          obtain ⟨q47, h⟩ := h
          refine z_getR fl_X6_19 rfl dX6_work_35 q47 ?_
          obtain ⟨b48, eb48, h⟩ := h
          rw [eb48]
          obtain ⟨q49, h⟩ := h
          refine z_getI fl_X6_95 dX6_work_38 q49 ?_
          refine z_iload_n 1 dX6_work_41 rfl ?_
          refine z_iload_n 2 dX6_work_42 rfl ?_
          obtain ⟨P50, c51, h⟩ := h
          refine z_Iv (as := [vI (zI M46 b48 4), vI x1, vI x2]) mi_X6_100 dX6_work_43 c51 rfl rfl (Nat.le_of_ble_eq_true rfl) (Nat.le_of_ble_eq_true rfl) (Nat.le_of_ble_eq_true rfl) (fun M52 p54 => ?_)
          have h := h M52 p54
          refine z_astore_n dX6_work_46 (by decide) rfl ?_
          refine z_aload_n 1 dX6_work_47 rfl ?_
          refine z_aload_n 0 dX6_work_48 rfl ?_
          obtain ⟨q60, h⟩ := h
          obtain ⟨P55, c56, h⟩ := h
          refine z_Vi (as := [vR (some (zsz M42))]) mv_X6_102 dX6_work_49 c56 q60 rfl rfl (Nat.le_of_ble_eq_true rfl) (Nat.le_of_ble_eq_true rfl) (Nat.le_of_ble_eq_true rfl) (fun r58 M57 p59 => ?_)
          have h := h r58 M57 p59
          refine z_if_ne (tgt := 57) dX6_work_52 (by decide) (fun q61 => ?_) (fun q61 => ?_)
          · have h := h.1 q61
            refine z_aload_n 1 dX6_work_57 rfl ?_
            obtain ⟨q62, h⟩ := h
            refine z_getR fl_X6_19 rfl dX6_work_58 q62 ?_
            refine z_aload_n 0 dX6_work_61 rfl ?_
            obtain ⟨b63, eb63, h⟩ := h
            rw [eb63]
            obtain ⟨q69, h⟩ := h
            obtain ⟨P64, c65, h⟩ := h
            refine z_Vv (as := [vR (some (zsz M42))]) mv_X6_106 dX6_work_62 c65 q69 rfl rfl (Nat.le_of_ble_eq_true rfl) (Nat.le_of_ble_eq_true rfl) (Nat.le_of_ble_eq_true rfl) (fun M66 p68 => ?_)
            have h := h M66 p68
            refine z_aload_n 1 dX6_work_65 rfl ?_
            obtain ⟨q70, h⟩ := h
            refine z_getR fl_X6_35 rfl dX6_work_66 q70 ?_
            obtain ⟨b71, eb71, h⟩ := h
            rw [eb71]
            obtain ⟨q77, h⟩ := h
            obtain ⟨P72, c73, h⟩ := h
            refine z_Vv (as := []) mv_X6_68 dX6_work_69 c73 q77 rfl rfl (Nat.le_of_ble_eq_true rfl) (Nat.le_of_ble_eq_true rfl) (Nat.le_of_ble_eq_true rfl) (fun M74 p76 => ?_)
            have h := h M74 p76
            refine z_aload_n 0 dX6_work_72 rfl ?_
            obtain ⟨q78, h⟩ := h
            refine z_getI fl_X6_110 dX6_work_73 q78 ?_
            exact z_iret hr dX6_work_76 (Nat.le_of_ble_eq_true rfl) (Nat.le_of_ble_eq_true rfl) ⟨_, rfl, h⟩
          · have h := h.2 q61
            refine z_iconst dX6_work_55 (by decide) ?_
            exact z_iret hr dX6_work_56 (Nat.le_of_ble_eq_true rfl) (Nat.le_of_ble_eq_true rfl) ⟨_, rfl, h⟩
        · have h := h.2 q45
          refine z_iconst dX6_work_28 (by decide) ?_
          exact z_iret hr dX6_work_29 (Nat.le_of_ble_eq_true rfl) (Nat.le_of_ble_eq_true rfl) ⟨_, rfl, h⟩
theorem sX6_work {E : zE} {d : Nat} {P : Int → zM → Prop} {M : zM} (a0 : Nat) (x1 : Int) (x2 : Int) (h : ∀ X : zX, (xh X).sig.returnType = (some .int) → ZX6_work E d X P 0 [(0, vR (some a0)), (1, vI x1), (2, vI x2)] [] M 0 0) : zCi E mX6_work (d + 1) 1 16 [vR (some a0), vI x1, vI x2] M P := z_start (f := mX6_work) rfl (Nat.le_of_ble_eq_true rfl) rfl h
abbrev ZX6_need (E : zE) (d : Nat) (X : zX) (P : Int → zM → Prop) (pc : Nat) (Lc : List (Nat × zV)) (S : List zV) (M : zM) (ce sl : Nat) : Prop := zZ cX6_need RX6 "need" 5 E (zrm (d + 1) 0 0) X (zQ E (zPi P) X 0 0) pc Lc S M ce sl
set_option maxRecDepth 20000 in
theorem vX6_need_0 {E : zE} {d : Nat} {X : zX} {P : Int → zM → Prop} {M : zM} (hr : (xh X).sig.returnType = (some .boolean)) (a0 : Nat) (x1 : Int) (x2 : Int)
    (h : zK M a0 = (7, 5) ∧ ∃ b2, zR M a0 1 = some b2 ∧ zK M b2 = (3, 6) ∧ ∃ P3 : Option Nat → zM → Prop, zCr E mX2_find d 0 0 [vR (some b2), vI x1] M P3 ∧ ∀ r6 M5, P3 r6 M5 → zK M5 a0 = (7, 5) ∧ ∃ b10, zR M5 a0 1 = some b10 ∧ zK M5 b10 = (3, 6) ∧ ∃ P11 : Option Nat → zM → Prop, zCr E mX2_find d 0 0 [vR (some b10), vI x2] M5 P11 ∧ ∀ r14 M13, P11 r14 M13 → ((r6 = none → P 0 M13) ∧ (r6 ≠ none → ((r14 = none → P 0 M13) ∧ (r14 ≠ none → ∃ b19, r6 = some b19 ∧ ∃ b20, r14 = some b20 ∧ zK M13 a0 = (7, 5) ∧ ∃ P21 : Int → zM → Prop, zCi E mX6_mayLean d 0 0 [vR (some a0), vR (some b19), vR (some b20)] M13 P21 ∧ ∀ r24 M23, P21 r24 M23 → ((r24 = 0 → P 0 M23) ∧ (r24 ≠ 0 → zK M23 b19 = (6, 16) ∧ ∃ P28 : Int → zM → Prop, zCi E mX5_leansOn d 0 0 [vR (some b19), vR (some b20)] M23 P28 ∧ ∀ r31 M30, P28 r31 M30 → ((r31 = 0 → zK M30 a0 = (7, 5) ∧ ∃ b36, zR M30 a0 1 = some b36 ∧ zK M30 b36 = (3, 6) ∧ ∃ P37 : zM → Prop, zCv E mX2_link d 0 0 [vR (some b36), vR (some b19), vR (some b20)] M30 P37 ∧ ∀ M39, P37 M39 → P 1 M39) ∧ (r31 ≠ 0 → P 0 M30))))))))) :
    ZX6_need E d X P 0 [(0, vR (some a0)), (1, vI x1), (2, vI x2)] [] M 0 0 := by
  refine z_aload_n 0 dX6_need_0 rfl ?_
  obtain ⟨q1, h⟩ := h
  refine z_getR fl_X6_19 rfl dX6_need_1 q1 ?_
  refine z_iload_n 1 dX6_need_4 rfl ?_
  obtain ⟨b2, eb2, h⟩ := h
  rw [eb2]
  obtain ⟨q8, h⟩ := h
  obtain ⟨P3, c4, h⟩ := h
  refine z_Vr (as := [vI x1]) mv_X6_113 dX6_need_5 c4 q8 rfl rfl (Nat.le_of_ble_eq_true rfl) (Nat.le_of_ble_eq_true rfl) (Nat.le_of_ble_eq_true rfl) (fun r6 M5 p7 => ?_)
  have h := h r6 M5 p7
  refine z_astore_n dX6_need_8 (by decide) rfl ?_
  refine z_aload_n 1 dX6_need_9 rfl ?_
  obtain ⟨q9, h⟩ := h
  refine z_getR fl_X6_19 rfl dX6_need_10 q9 ?_
  refine z_iload_n 3 dX6_need_13 rfl ?_
  obtain ⟨b10, eb10, h⟩ := h
  rw [eb10]
  obtain ⟨q16, h⟩ := h
  obtain ⟨P11, c12, h⟩ := h
  refine z_Vr (as := [vI x2]) mv_X6_113 dX6_need_14 c12 q16 rfl rfl (Nat.le_of_ble_eq_true rfl) (Nat.le_of_ble_eq_true rfl) (Nat.le_of_ble_eq_true rfl) (fun r14 M13 p15 => ?_)
  have h := h r14 M13 p15
  refine z_astore dX6_need_17 (by decide) rfl ?_
  refine z_aload_n 1 dX6_need_19 rfl ?_
  refine z_ifnull (tgt := 47) dX6_need_20 (by decide) (fun q17 => ?_) (fun q17 => ?_)
  · have h := h.1 q17
    refine z_iconst dX6_need_47 (by decide) ?_
    exact z_zret hr dX6_need_48 (Nat.le_of_ble_eq_true rfl) (Nat.le_of_ble_eq_true rfl) (by decide) ⟨_, rfl, h⟩
  · have h := h.2 q17
    refine z_aload 0 dX6_need_23 rfl ?_
    refine z_ifnull (tgt := 47) dX6_need_25 (by decide) (fun q18 => ?_) (fun q18 => ?_)
    · have h := h.1 q18
      refine z_iconst dX6_need_47 (by decide) ?_
      exact z_zret hr dX6_need_48 (Nat.le_of_ble_eq_true rfl) (Nat.le_of_ble_eq_true rfl) (by decide) ⟨_, rfl, h⟩
    · have h := h.2 q18
      refine z_aload_n 2 dX6_need_28 rfl ?_
      refine z_aload_n 1 dX6_need_29 rfl ?_
      refine z_aload 0 dX6_need_30 rfl ?_
      obtain ⟨b19, eb19, h⟩ := h
      rw [eb19]
      obtain ⟨b20, eb20, h⟩ := h
      rw [eb20]
      obtain ⟨q26, h⟩ := h
      obtain ⟨P21, c22, h⟩ := h
      refine z_Vi (as := [vR (some b19), vR (some b20)]) mv_X6_117 dX6_need_32 c22 q26 rfl rfl (Nat.le_of_ble_eq_true rfl) (Nat.le_of_ble_eq_true rfl) (Nat.le_of_ble_eq_true rfl) (fun r24 M23 p25 => ?_)
      have h := h r24 M23 p25
      refine z_if_eq (tgt := 47) dX6_need_35 (by decide) (fun q27 => ?_) (fun q27 => ?_)
      · have h := h.1 q27
        refine z_iconst dX6_need_47 (by decide) ?_
        exact z_zret hr dX6_need_48 (Nat.le_of_ble_eq_true rfl) (Nat.le_of_ble_eq_true rfl) (by decide) ⟨_, rfl, h⟩
      · have h := h.2 q27
        refine z_aload_n 1 dX6_need_38 rfl ?_
        refine z_aload 0 dX6_need_39 rfl ?_
        obtain ⟨q33, h⟩ := h
        obtain ⟨P28, c29, h⟩ := h
        refine z_Vi (as := [vR (some b20)]) mv_X6_121 dX6_need_41 c29 q33 rfl rfl (Nat.le_of_ble_eq_true rfl) (Nat.le_of_ble_eq_true rfl) (Nat.le_of_ble_eq_true rfl) (fun r31 M30 p32 => ?_)
        have h := h r31 M30 p32
        refine z_if_eq (tgt := 49) dX6_need_44 (by decide) (fun q34 => ?_) (fun q34 => ?_)
        · have h := h.1 q34
          refine z_aload_n 2 dX6_need_49 rfl ?_
          obtain ⟨q35, h⟩ := h
          refine z_getR fl_X6_19 rfl dX6_need_50 q35 ?_
          refine z_aload_n 1 dX6_need_53 rfl ?_
          refine z_aload 0 dX6_need_54 rfl ?_
          obtain ⟨b36, eb36, h⟩ := h
          rw [eb36]
          obtain ⟨q42, h⟩ := h
          obtain ⟨P37, c38, h⟩ := h
          refine z_Vv (as := [vR (some b19), vR (some b20)]) mv_X6_124 dX6_need_56 c38 q42 rfl rfl (Nat.le_of_ble_eq_true rfl) (Nat.le_of_ble_eq_true rfl) (Nat.le_of_ble_eq_true rfl) (fun M39 p41 => ?_)
          have h := h M39 p41
          refine z_iconst dX6_need_59 (by decide) ?_
          exact z_zret hr dX6_need_60 (Nat.le_of_ble_eq_true rfl) (Nat.le_of_ble_eq_true rfl) (by decide) ⟨_, rfl, h⟩
        · have h := h.2 q34
          refine z_iconst dX6_need_47 (by decide) ?_
          exact z_zret hr dX6_need_48 (Nat.le_of_ble_eq_true rfl) (Nat.le_of_ble_eq_true rfl) (by decide) ⟨_, rfl, h⟩
theorem sX6_need {E : zE} {d : Nat} {P : Int → zM → Prop} {M : zM} (a0 : Nat) (x1 : Int) (x2 : Int) (h : ∀ X : zX, (xh X).sig.returnType = (some .boolean) → ZX6_need E d X P 0 [(0, vR (some a0)), (1, vI x1), (2, vI x2)] [] M 0 0) : zCi E mX6_need (d + 1) 0 0 [vR (some a0), vI x1, vI x2] M P := z_start (f := mX6_need) rfl (Nat.le_of_ble_eq_true rfl) rfl h
abbrev ZX6_tells (E : zE) (d : Nat) (X : zX) (P : Int → zM → Prop) (pc : Nat) (Lc : List (Nat × zV)) (S : List zV) (M : zM) (ce sl : Nat) : Prop := zZ cX6_tells RX6 "tells" 5 E (zrm (d + 1) 0 0) X (zQ E (zPi P) X 0 0) pc Lc S M ce sl
set_option maxRecDepth 20000 in
theorem vX6_tells_0 {E : zE} {d : Nat} {X : zX} {P : Int → zM → Prop} {M : zM} (hr : (xh X).sig.returnType = (some .boolean)) (a0 : Nat) (x1 : Int) (x2 : Int)
    (h : zK M a0 = (7, 5) ∧ ∃ b2, zR M a0 1 = some b2 ∧ zK M b2 = (3, 6) ∧ ∃ P3 : Option Nat → zM → Prop, zCr E mX2_find d 0 0 [vR (some b2), vI x1] M P3 ∧ ∀ r6 M5, P3 r6 M5 → zK M5 a0 = (7, 5) ∧ ∃ b10, zR M5 a0 1 = some b10 ∧ zK M5 b10 = (3, 6) ∧ ∃ P11 : Option Nat → zM → Prop, zCr E mX2_find d 0 0 [vR (some b10), vI x2] M5 P11 ∧ ∀ r14 M13, P11 r14 M13 → ((r6 = none → P 0 M13) ∧ (r6 ≠ none → ((r14 = none → P 0 M13) ∧ (r14 ≠ none → ∃ b19, r6 = some b19 ∧ zK M13 b19 = (6, 16) ∧ (((zI M13 b19 5) ≠ 4 → P 0 M13) ∧ ((zI M13 b19 5) = 4 → ∃ b22, r14 = some b22 ∧ zK M13 a0 = (7, 5) ∧ ∃ P23 : Int → zM → Prop, zCi E mX6_mayLean d 0 0 [vR (some a0), vR (some b19), vR (some b22)] M13 P23 ∧ ∀ r26 M25, P23 r26 M25 → ((r26 ≠ 0 → zK M25 b19 = (6, 16) ∧ zK M25 b22 = (6, 16) ∧ (((if (0 : Int64) < ((zL M25 b19 14) &&& (zL M25 b22 1)) then 1 else if ((zL M25 b19 14) &&& (zL M25 b22 1)) = (0 : Int64) then 0 else -1) = 0 → zK M25 b19 = (6, 16) ∧ zK M25 b22 = (6, 16) ∧ zK M25 b19 = (6, 16) ∧ ∀ M36, M36 = zsL M25 b19 14 ((zL M25 b19 14) ||| (zL M25 b22 1)) → zK M36 a0 = (7, 5) ∧ ∃ b38, zR M36 a0 1 = some b38 ∧ zK M36 b38 = (3, 6) ∧ ∃ P39 : zM → Prop, zCv E mX2_link d 0 0 [vR (some b38), vR (some b19), vR (some b22)] M36 P39 ∧ ∀ M41, P39 M41 → P 1 M41) ∧ ((if (0 : Int64) < ((zL M25 b19 14) &&& (zL M25 b22 1)) then 1 else if ((zL M25 b19 14) &&& (zL M25 b22 1)) = (0 : Int64) then 0 else -1) ≠ 0 → P 0 M25))) ∧ (r26 = 0 → P 0 M25))))))))) :
    ZX6_tells E d X P 0 [(0, vR (some a0)), (1, vI x1), (2, vI x2)] [] M 0 0 := by
  refine z_aload_n 0 dX6_tells_0 rfl ?_
  obtain ⟨q1, h⟩ := h
  refine z_getR fl_X6_19 rfl dX6_tells_1 q1 ?_
  refine z_iload_n 1 dX6_tells_4 rfl ?_
  obtain ⟨b2, eb2, h⟩ := h
  rw [eb2]
  obtain ⟨q8, h⟩ := h
  obtain ⟨P3, c4, h⟩ := h
  refine z_Vr (as := [vI x1]) mv_X6_113 dX6_tells_5 c4 q8 rfl rfl (Nat.le_of_ble_eq_true rfl) (Nat.le_of_ble_eq_true rfl) (Nat.le_of_ble_eq_true rfl) (fun r6 M5 p7 => ?_)
  have h := h r6 M5 p7
  refine z_astore_n dX6_tells_8 (by decide) rfl ?_
  refine z_aload_n 1 dX6_tells_9 rfl ?_
  obtain ⟨q9, h⟩ := h
  refine z_getR fl_X6_19 rfl dX6_tells_10 q9 ?_
  refine z_iload_n 3 dX6_tells_13 rfl ?_
  obtain ⟨b10, eb10, h⟩ := h
  rw [eb10]
  obtain ⟨q16, h⟩ := h
  obtain ⟨P11, c12, h⟩ := h
  refine z_Vr (as := [vI x2]) mv_X6_113 dX6_tells_14 c12 q16 rfl rfl (Nat.le_of_ble_eq_true rfl) (Nat.le_of_ble_eq_true rfl) (Nat.le_of_ble_eq_true rfl) (fun r14 M13 p15 => ?_)
  have h := h r14 M13 p15
  refine z_astore dX6_tells_17 (by decide) rfl ?_
  refine z_aload_n 1 dX6_tells_19 rfl ?_
  refine z_ifnull (tgt := 46) dX6_tells_20 (by decide) (fun q17 => ?_) (fun q17 => ?_)
  · have h := h.1 q17
    refine z_iconst dX6_tells_46 (by decide) ?_
    exact z_zret hr dX6_tells_47 (Nat.le_of_ble_eq_true rfl) (Nat.le_of_ble_eq_true rfl) (by decide) ⟨_, rfl, h⟩
  · have h := h.2 q17
    refine z_aload 0 dX6_tells_23 rfl ?_
    refine z_ifnull (tgt := 46) dX6_tells_25 (by decide) (fun q18 => ?_) (fun q18 => ?_)
    · have h := h.1 q18
      refine z_iconst dX6_tells_46 (by decide) ?_
      exact z_zret hr dX6_tells_47 (Nat.le_of_ble_eq_true rfl) (Nat.le_of_ble_eq_true rfl) (by decide) ⟨_, rfl, h⟩
    · have h := h.2 q18
      refine z_aload_n 1 dX6_tells_28 rfl ?_
      obtain ⟨b19, eb19, h⟩ := h
      rw [eb19]
      obtain ⟨q20, h⟩ := h
      refine z_getI fl_X6_128 dX6_tells_29 q20 ?_
      refine z_iconst dX6_tells_32 (by decide) ?_
      refine z_icmp_ne (tgt := 46) dX6_tells_33 (by decide) (fun q21 => ?_) (fun q21 => ?_)
      · have h := h.1 q21
        refine z_iconst dX6_tells_46 (by decide) ?_
        exact z_zret hr dX6_tells_47 (Nat.le_of_ble_eq_true rfl) (Nat.le_of_ble_eq_true rfl) (by decide) ⟨_, rfl, h⟩
      · have h := h.2 q21
        refine z_aload_n 2 dX6_tells_36 rfl ?_
        refine z_aload_n 1 dX6_tells_37 rfl ?_
        refine z_aload 0 dX6_tells_38 rfl ?_
        obtain ⟨b22, eb22, h⟩ := h
        rw [eb22]
        obtain ⟨q28, h⟩ := h
        obtain ⟨P23, c24, h⟩ := h
        refine z_Vi (as := [vR (some b19), vR (some b22)]) mv_X6_117 dX6_tells_40 c24 q28 rfl rfl (Nat.le_of_ble_eq_true rfl) (Nat.le_of_ble_eq_true rfl) (Nat.le_of_ble_eq_true rfl) (fun r26 M25 p27 => ?_)
        have h := h r26 M25 p27
        refine z_if_ne (tgt := 48) dX6_tells_43 (by decide) (fun q29 => ?_) (fun q29 => ?_)
        · have h := h.1 q29
          refine z_aload_n 1 dX6_tells_48 rfl ?_
          obtain ⟨q30, h⟩ := h
          refine z_getL fl_X6_131 dX6_tells_49 q30 ?_
          refine z_aload 0 dX6_tells_52 rfl ?_
          obtain ⟨q31, h⟩ := h
          refine z_getL fl_X6_135 dX6_tells_54 q31 ?_
          refine z_land dX6_tells_57 ?_
          refine z_lconst (v := 0) dX6_tells_58 rfl ?_
          refine z_lcmp dX6_tells_59 ?_
          refine z_if_eq (tgt := 65) dX6_tells_60 (by decide) (fun q32 => ?_) (fun q32 => ?_)
          · have h := h.1 q32
            refine z_aload_n 1 dX6_tells_65 rfl ?_
            refine z_dup dX6_tells_66 rfl ?_
            obtain ⟨q33, h⟩ := h
            refine z_getL fl_X6_131 dX6_tells_67 q33 ?_
            refine z_aload 0 dX6_tells_70 rfl ?_
            obtain ⟨q34, h⟩ := h
            refine z_getL fl_X6_135 dX6_tells_72 q34 ?_
            refine z_lor dX6_tells_75 ?_
            obtain ⟨q35, h⟩ := h
            refine z_putL fl_X6_131 (Or.inl rfl) dX6_tells_76 q35 ?_
            obtain ⟨M36, hmM36⟩ : ∃ z, z = zsL M25 b19 14 ((zL M25 b19 14) ||| (zL M25 b22 1)) := ⟨_, rfl⟩
            rw [← hmM36]
            have h := h M36 hmM36
            refine z_aload_n 2 dX6_tells_79 rfl ?_
            obtain ⟨q37, h⟩ := h
            refine z_getR fl_X6_19 rfl dX6_tells_80 q37 ?_
            refine z_aload_n 1 dX6_tells_83 rfl ?_
            refine z_aload 0 dX6_tells_84 rfl ?_
            obtain ⟨b38, eb38, h⟩ := h
            rw [eb38]
            obtain ⟨q44, h⟩ := h
            obtain ⟨P39, c40, h⟩ := h
            refine z_Vv (as := [vR (some b19), vR (some b22)]) mv_X6_124 dX6_tells_86 c40 q44 rfl rfl (Nat.le_of_ble_eq_true rfl) (Nat.le_of_ble_eq_true rfl) (Nat.le_of_ble_eq_true rfl) (fun M41 p43 => ?_)
            have h := h M41 p43
            refine z_iconst dX6_tells_89 (by decide) ?_
            exact z_zret hr dX6_tells_90 (Nat.le_of_ble_eq_true rfl) (Nat.le_of_ble_eq_true rfl) (by decide) ⟨_, rfl, h⟩
          · have h := h.2 q32
            refine z_iconst dX6_tells_63 (by decide) ?_
            exact z_zret hr dX6_tells_64 (Nat.le_of_ble_eq_true rfl) (Nat.le_of_ble_eq_true rfl) (by decide) ⟨_, rfl, h⟩
        · have h := h.2 q29
          refine z_iconst dX6_tells_46 (by decide) ?_
          exact z_zret hr dX6_tells_47 (Nat.le_of_ble_eq_true rfl) (Nat.le_of_ble_eq_true rfl) (by decide) ⟨_, rfl, h⟩
theorem sX6_tells {E : zE} {d : Nat} {P : Int → zM → Prop} {M : zM} (a0 : Nat) (x1 : Int) (x2 : Int) (h : ∀ X : zX, (xh X).sig.returnType = (some .boolean) → ZX6_tells E d X P 0 [(0, vR (some a0)), (1, vI x1), (2, vI x2)] [] M 0 0) : zCi E mX6_tells (d + 1) 0 0 [vR (some a0), vI x1, vI x2] M P := z_start (f := mX6_tells) rfl (Nat.le_of_ble_eq_true rfl) rfl h
abbrev ZX6_put (E : zE) (d : Nat) (X : zX) (P : Int → zM → Prop) (pc : Nat) (Lc : List (Nat × zV)) (S : List zV) (M : zM) (ce sl : Nat) : Prop := zZ cX6_put RX6 "put" 4 E (zrm (d + 1) 0 0) X (zQ E (zPi P) X 0 0) pc Lc S M ce sl
set_option maxRecDepth 20000 in
theorem vX6_put_0 {E : zE} {d : Nat} {X : zX} {P : Int → zM → Prop} {M : zM} (hr : (xh X).sig.returnType = (some .boolean)) (a0 : Nat) (x1 : Int) (x2 : Int)
    (h : zK M a0 = (7, 5) ∧ ∃ b2, zR M a0 1 = some b2 ∧ zK M b2 = (3, 6) ∧ ∃ P3 : Option Nat → zM → Prop, zCr E mX2_find d 0 0 [vR (some b2), vI x1] M P3 ∧ ∀ r6 M5, P3 r6 M5 → ((r6 = none → P 0 M5) ∧ (r6 ≠ none → zK M5 a0 = (7, 5) ∧ ∃ b11, zR M5 a0 2 = some b11 ∧ zK M5 b11 = (1, 3) ∧ ∃ b13, r6 = some b13 ∧ zK M5 b13 = (6, 16) ∧ ∃ P14 : Int → zM → Prop, zCi E mX5_hasBegun d 0 0 [vR (some b13), vI (zI M5 b11 2)] M5 P14 ∧ ∀ r17 M16, P14 r17 M16 → ((r17 ≠ 0 → P 0 M16) ∧ (r17 = 0 → zK M16 a0 = (7, 5) ∧ ∃ b22, zR M16 a0 2 = some b22 ∧ zK M16 b22 = (1, 3) ∧ ((x2 < (zI M16 b22 2) → P 0 M16) ∧ ((zI M16 b22 2) ≤ x2 → zK M16 b13 = (6, 16) ∧ zin (400 - (zI M16 b13 7)) ∧ ((x2 ≤ (400 - (zI M16 b13 7)) → zK M16 a0 = (7, 5) ∧ zK M16 b22 = (1, 3) ∧ ∃ P29 : zM → Prop, zCv E mX0_lift d 0 0 [vR (some b22), vR (some b13)] M16 P29 ∧ ∀ M31, P29 M31 → zK M31 a0 = (7, 5) ∧ ∃ b36, zR M31 a0 2 = some b36 ∧ zK M31 b36 = (1, 3) ∧ ∃ P37 : zM → Prop, zCv E mX0_lay d 0 0 [vR (some b36), vR (some b13), vI x2] M31 P37 ∧ ∀ M39, P37 M39 → P 1 M39) ∧ ((400 - (zI M16 b13 7)) < x2 → P 0 M16))))))))) :
    ZX6_put E d X P 0 [(0, vR (some a0)), (1, vI x1), (2, vI x2)] [] M 0 0 := by
  refine z_aload_n 0 dX6_put_0 rfl ?_
  obtain ⟨q1, h⟩ := h
  refine z_getR fl_X6_19 rfl dX6_put_1 q1 ?_
  refine z_iload_n 1 dX6_put_4 rfl ?_
  obtain ⟨b2, eb2, h⟩ := h
  rw [eb2]
  obtain ⟨q8, h⟩ := h
  obtain ⟨P3, c4, h⟩ := h
  refine z_Vr (as := [vI x1]) mv_X6_113 dX6_put_5 c4 q8 rfl rfl (Nat.le_of_ble_eq_true rfl) (Nat.le_of_ble_eq_true rfl) (Nat.le_of_ble_eq_true rfl) (fun r6 M5 p7 => ?_)
  have h := h r6 M5 p7
  refine z_astore_n dX6_put_8 (by decide) rfl ?_
  refine z_aload_n 0 dX6_put_9 rfl ?_
  refine z_ifnull (tgt := 50) dX6_put_10 (by decide) (fun q9 => ?_) (fun q9 => ?_)
  · have h := h.1 q9
    refine z_iconst dX6_put_50 (by decide) ?_
    exact z_zret hr dX6_put_51 (Nat.le_of_ble_eq_true rfl) (Nat.le_of_ble_eq_true rfl) (by decide) ⟨_, rfl, h⟩
  · have h := h.2 q9
    refine z_aload_n 0 dX6_put_13 rfl ?_
    refine z_aload_n 1 dX6_put_14 rfl ?_
    obtain ⟨q10, h⟩ := h
    refine z_getR fl_X6_26 rfl dX6_put_15 q10 ?_
    obtain ⟨b11, eb11, h⟩ := h
    rw [eb11]
    obtain ⟨q12, h⟩ := h
    refine z_getI fl_X6_138 dX6_put_18 q12 ?_
    obtain ⟨b13, eb13, h⟩ := h
    rw [eb13]
    obtain ⟨q19, h⟩ := h
    obtain ⟨P14, c15, h⟩ := h
    refine z_Vi (as := [vI (zI M5 b11 2)]) mv_X6_141 dX6_put_21 c15 q19 rfl rfl (Nat.le_of_ble_eq_true rfl) (Nat.le_of_ble_eq_true rfl) (Nat.le_of_ble_eq_true rfl) (fun r17 M16 p18 => ?_)
    have h := h r17 M16 p18
    refine z_if_ne (tgt := 50) dX6_put_24 (by decide) (fun q20 => ?_) (fun q20 => ?_)
    · have h := h.1 q20
      refine z_iconst dX6_put_50 (by decide) ?_
      exact z_zret hr dX6_put_51 (Nat.le_of_ble_eq_true rfl) (Nat.le_of_ble_eq_true rfl) (by decide) ⟨_, rfl, h⟩
    · have h := h.2 q20
      refine z_iload_n 3 dX6_put_27 rfl ?_
      refine z_aload_n 1 dX6_put_28 rfl ?_
      obtain ⟨q21, h⟩ := h
      refine z_getR fl_X6_26 rfl dX6_put_29 q21 ?_
      obtain ⟨b22, eb22, h⟩ := h
      rw [eb22]
      obtain ⟨q23, h⟩ := h
      refine z_getI fl_X6_138 dX6_put_32 q23 ?_
      refine z_icmp_lt (tgt := 50) dX6_put_35 (by decide) (fun q24 => ?_) (fun q24 => ?_)
      · have h := h.1 q24
        refine z_iconst dX6_put_50 (by decide) ?_
        exact z_zret hr dX6_put_51 (Nat.le_of_ble_eq_true rfl) (Nat.le_of_ble_eq_true rfl) (by decide) ⟨_, rfl, h⟩
      · have h := h.2 q24
        refine z_iload_n 3 dX6_put_38 rfl ?_
        refine z_sipush dX6_put_39 (by decide) ?_
        refine z_aload_n 0 dX6_put_42 rfl ?_
        obtain ⟨q25, h⟩ := h
        refine z_getI fl_X6_144 dX6_put_43 q25 ?_
        obtain ⟨q26, h⟩ := h
        refine z_isub dX6_put_46 q26 ?_
        refine z_icmp_le (tgt := 52) dX6_put_47 (by decide) (fun q27 => ?_) (fun q27 => ?_)
        · have h := h.1 q27
          refine z_aload_n 1 dX6_put_52 rfl ?_
          obtain ⟨q28, h⟩ := h
          refine z_getR fl_X6_26 rfl dX6_put_53 q28 ?_
          rw [eb22]
          refine z_aload_n 0 dX6_put_56 rfl ?_
          obtain ⟨q34, h⟩ := h
          obtain ⟨P29, c30, h⟩ := h
          refine z_Vv (as := [vR (some b13)]) mv_X6_147 dX6_put_57 c30 q34 rfl rfl (Nat.le_of_ble_eq_true rfl) (Nat.le_of_ble_eq_true rfl) (Nat.le_of_ble_eq_true rfl) (fun M31 p33 => ?_)
          have h := h M31 p33
          refine z_aload_n 1 dX6_put_60 rfl ?_
          obtain ⟨q35, h⟩ := h
          refine z_getR fl_X6_26 rfl dX6_put_61 q35 ?_
          refine z_aload_n 0 dX6_put_64 rfl ?_
          refine z_iload_n 3 dX6_put_65 rfl ?_
          obtain ⟨b36, eb36, h⟩ := h
          rw [eb36]
          obtain ⟨q42, h⟩ := h
          obtain ⟨P37, c38, h⟩ := h
          refine z_Vv (as := [vR (some b13), vI x2]) mv_X6_150 dX6_put_66 c38 q42 rfl rfl (Nat.le_of_ble_eq_true rfl) (Nat.le_of_ble_eq_true rfl) (Nat.le_of_ble_eq_true rfl) (fun M39 p41 => ?_)
          have h := h M39 p41
          refine z_iconst dX6_put_69 (by decide) ?_
          exact z_zret hr dX6_put_70 (Nat.le_of_ble_eq_true rfl) (Nat.le_of_ble_eq_true rfl) (by decide) ⟨_, rfl, h⟩
        · have h := h.2 q27
          refine z_iconst dX6_put_50 (by decide) ?_
          exact z_zret hr dX6_put_51 (Nat.le_of_ble_eq_true rfl) (Nat.le_of_ble_eq_true rfl) (by decide) ⟨_, rfl, h⟩
theorem sX6_put {E : zE} {d : Nat} {P : Int → zM → Prop} {M : zM} (a0 : Nat) (x1 : Int) (x2 : Int) (h : ∀ X : zX, (xh X).sig.returnType = (some .boolean) → ZX6_put E d X P 0 [(0, vR (some a0)), (1, vI x1), (2, vI x2)] [] M 0 0) : zCi E mX6_put (d + 1) 0 0 [vR (some a0), vI x1, vI x2] M P := z_start (f := mX6_put) rfl (Nat.le_of_ble_eq_true rfl) rfl h
abbrev ZX6_take (E : zE) (d : Nat) (X : zX) (P : Int → zM → Prop) (pc : Nat) (Lc : List (Nat × zV)) (S : List zV) (M : zM) (ce sl : Nat) : Prop := zZ cX6_take RX6 "take" 3 E (zrm (d + 1) 0 0) X (zQ E (zPi P) X 0 0) pc Lc S M ce sl
set_option maxRecDepth 20000 in
theorem vX6_take_0 {E : zE} {d : Nat} {X : zX} {P : Int → zM → Prop} {M : zM} (hr : (xh X).sig.returnType = (some .boolean)) (a0 : Nat) (x1 : Int)
    (h : zK M a0 = (7, 5) ∧ ∃ b2, zR M a0 1 = some b2 ∧ zK M b2 = (3, 6) ∧ ∃ P3 : Option Nat → zM → Prop, zCr E mX2_find d 0 0 [vR (some b2), vI x1] M P3 ∧ ∀ r6 M5, P3 r6 M5 → ((r6 = none → P 0 M5) ∧ (r6 ≠ none → ∃ b10, r6 = some b10 ∧ zK M5 b10 = (6, 16) ∧ ∃ P11 : Int → zM → Prop, zCi E mX5_isOpen d 0 0 [vR (some b10)] M5 P11 ∧ ∀ r14 M13, P11 r14 M13 → ((r14 ≠ 0 → P 0 M13) ∧ (r14 = 0 → zK M13 a0 = (7, 5) ∧ ∃ b19, zR M13 a0 2 = some b19 ∧ zK M13 b19 = (1, 3) ∧ zK M13 b10 = (6, 16) ∧ ∃ P21 : Int → zM → Prop, zCi E mX5_hasBegun d 0 0 [vR (some b10), vI (zI M13 b19 2)] M13 P21 ∧ ∀ r24 M23, P21 r24 M23 → ((r24 = 0 → zK M23 a0 = (7, 5) ∧ ∃ b29, zR M23 a0 2 = some b29 ∧ zK M23 b29 = (1, 3) ∧ ∃ P30 : zM → Prop, zCv E mX0_lift d 0 0 [vR (some b29), vR (some b10)] M23 P30 ∧ ∀ M32, P30 M32 → P 1 M32) ∧ (r24 ≠ 0 → P 0 M23))))))) :
    ZX6_take E d X P 0 [(0, vR (some a0)), (1, vI x1)] [] M 0 0 := by
  refine z_aload_n 0 dX6_take_0 rfl ?_
  obtain ⟨q1, h⟩ := h
  refine z_getR fl_X6_19 rfl dX6_take_1 q1 ?_
  refine z_iload_n 1 dX6_take_4 rfl ?_
  obtain ⟨b2, eb2, h⟩ := h
  rw [eb2]
  obtain ⟨q8, h⟩ := h
  obtain ⟨P3, c4, h⟩ := h
  refine z_Vr (as := [vI x1]) mv_X6_113 dX6_take_5 c4 q8 rfl rfl (Nat.le_of_ble_eq_true rfl) (Nat.le_of_ble_eq_true rfl) (Nat.le_of_ble_eq_true rfl) (fun r6 M5 p7 => ?_)
  have h := h r6 M5 p7
  refine z_astore_n dX6_take_8 (by decide) rfl ?_
  refine z_aload_n 0 dX6_take_9 rfl ?_
  refine z_ifnull (tgt := 34) dX6_take_10 (by decide) (fun q9 => ?_) (fun q9 => ?_)
  · have h := h.1 q9
    refine z_iconst dX6_take_34 (by decide) ?_
    exact z_zret hr dX6_take_35 (Nat.le_of_ble_eq_true rfl) (Nat.le_of_ble_eq_true rfl) (by decide) ⟨_, rfl, h⟩
  · have h := h.2 q9
    refine z_aload_n 0 dX6_take_13 rfl ?_
    obtain ⟨b10, eb10, h⟩ := h
    rw [eb10]
    obtain ⟨q16, h⟩ := h
    obtain ⟨P11, c12, h⟩ := h
    refine z_Vi (as := []) mv_X6_154 dX6_take_14 c12 q16 rfl rfl (Nat.le_of_ble_eq_true rfl) (Nat.le_of_ble_eq_true rfl) (Nat.le_of_ble_eq_true rfl) (fun r14 M13 p15 => ?_)
    have h := h r14 M13 p15
    refine z_if_ne (tgt := 34) dX6_take_17 (by decide) (fun q17 => ?_) (fun q17 => ?_)
    · have h := h.1 q17
      refine z_iconst dX6_take_34 (by decide) ?_
      exact z_zret hr dX6_take_35 (Nat.le_of_ble_eq_true rfl) (Nat.le_of_ble_eq_true rfl) (by decide) ⟨_, rfl, h⟩
    · have h := h.2 q17
      refine z_aload_n 0 dX6_take_20 rfl ?_
      refine z_aload_n 1 dX6_take_21 rfl ?_
      obtain ⟨q18, h⟩ := h
      refine z_getR fl_X6_26 rfl dX6_take_22 q18 ?_
      obtain ⟨b19, eb19, h⟩ := h
      rw [eb19]
      obtain ⟨q20, h⟩ := h
      refine z_getI fl_X6_138 dX6_take_25 q20 ?_
      obtain ⟨q26, h⟩ := h
      obtain ⟨P21, c22, h⟩ := h
      refine z_Vi (as := [vI (zI M13 b19 2)]) mv_X6_141 dX6_take_28 c22 q26 rfl rfl (Nat.le_of_ble_eq_true rfl) (Nat.le_of_ble_eq_true rfl) (Nat.le_of_ble_eq_true rfl) (fun r24 M23 p25 => ?_)
      have h := h r24 M23 p25
      refine z_if_eq (tgt := 36) dX6_take_31 (by decide) (fun q27 => ?_) (fun q27 => ?_)
      · have h := h.1 q27
        refine z_aload_n 1 dX6_take_36 rfl ?_
        obtain ⟨q28, h⟩ := h
        refine z_getR fl_X6_26 rfl dX6_take_37 q28 ?_
        refine z_aload_n 0 dX6_take_40 rfl ?_
        obtain ⟨b29, eb29, h⟩ := h
        rw [eb29]
        obtain ⟨q35, h⟩ := h
        obtain ⟨P30, c31, h⟩ := h
        refine z_Vv (as := [vR (some b10)]) mv_X6_147 dX6_take_41 c31 q35 rfl rfl (Nat.le_of_ble_eq_true rfl) (Nat.le_of_ble_eq_true rfl) (Nat.le_of_ble_eq_true rfl) (fun M32 p34 => ?_)
        have h := h M32 p34
        refine z_iconst dX6_take_44 (by decide) ?_
        exact z_zret hr dX6_take_45 (Nat.le_of_ble_eq_true rfl) (Nat.le_of_ble_eq_true rfl) (by decide) ⟨_, rfl, h⟩
      · have h := h.2 q27
        refine z_iconst dX6_take_34 (by decide) ?_
        exact z_zret hr dX6_take_35 (Nat.le_of_ble_eq_true rfl) (Nat.le_of_ble_eq_true rfl) (by decide) ⟨_, rfl, h⟩
theorem sX6_take {E : zE} {d : Nat} {P : Int → zM → Prop} {M : zM} (a0 : Nat) (x1 : Int) (h : ∀ X : zX, (xh X).sig.returnType = (some .boolean) → ZX6_take E d X P 0 [(0, vR (some a0)), (1, vI x1)] [] M 0 0) : zCi E mX6_take (d + 1) 0 0 [vR (some a0), vI x1] M P := z_start (f := mX6_take) rfl (Nat.le_of_ble_eq_true rfl) rfl h
abbrev ZX6_may (E : zE) (d : Nat) (X : zX) (P : Int → zM → Prop) (pc : Nat) (Lc : List (Nat × zV)) (S : List zV) (M : zM) (ce sl : Nat) : Prop := zZ cX6_may RX6 "may" 3 E (zrm (d + 1) 0 0) X (zQ E (zPi P) X 0 0) pc Lc S M ce sl
set_option maxRecDepth 20000 in
theorem vX6_may_0 {E : zE} {d : Nat} {X : zX} {P : Int → zM → Prop} {M : zM} (hr : (xh X).sig.returnType = (some .boolean)) (a0 : Nat) (x1 : Int) (x2 : Int)
    (h : ((x2 < 0 → P 0 M) ∧ (0 ≤ x2 → zK M a0 = (7, 5) ∧ ∃ P2 : Int → zM → Prop, zCi E mX6_first d 0 0 [vR (some a0), vI x1, vI x2] M P2 ∧ ∀ r5 M4, P2 r5 M4 → ((r5 ≠ x2 → P 0 M4) ∧ (r5 = x2 → P 1 M4))))) :
    ZX6_may E d X P 0 [(0, vR (some a0)), (1, vI x1), (2, vI x2)] [] M 0 0 := by
  refine z_iload_n 2 dX6_may_0 rfl ?_
  refine z_if_lt (tgt := 18) dX6_may_1 (by decide) (fun q1 => ?_) (fun q1 => ?_)
  · have h := h.1 q1
    refine z_iconst dX6_may_18 (by decide) ?_
    exact z_zret hr dX6_may_19 (Nat.le_of_ble_eq_true rfl) (Nat.le_of_ble_eq_true rfl) (by decide) ⟨_, rfl, h⟩
  · have h := h.2 q1
    refine z_aload_n 0 dX6_may_4 rfl ?_
    refine z_iload_n 1 dX6_may_5 rfl ?_
    refine z_iload_n 2 dX6_may_6 rfl ?_
    obtain ⟨q7, h⟩ := h
    obtain ⟨P2, c3, h⟩ := h
    refine z_Vi (as := [vI x1, vI x2]) mv_X6_158 dX6_may_7 c3 q7 rfl rfl (Nat.le_of_ble_eq_true rfl) (Nat.le_of_ble_eq_true rfl) (Nat.le_of_ble_eq_true rfl) (fun r5 M4 p6 => ?_)
    have h := h r5 M4 p6
    refine z_iload_n 2 dX6_may_10 rfl ?_
    refine z_icmp_ne (tgt := 18) dX6_may_11 (by decide) (fun q8 => ?_) (fun q8 => ?_)
    · have h := h.1 q8
      refine z_iconst dX6_may_18 (by decide) ?_
      exact z_zret hr dX6_may_19 (Nat.le_of_ble_eq_true rfl) (Nat.le_of_ble_eq_true rfl) (by decide) ⟨_, rfl, h⟩
    · have h := h.2 q8
      refine z_iconst dX6_may_14 (by decide) ?_
      refine z_goto (tgt := 19) dX6_may_15 (by decide) ?_
      exact z_zret hr dX6_may_19 (Nat.le_of_ble_eq_true rfl) (Nat.le_of_ble_eq_true rfl) (by decide) ⟨_, rfl, h⟩
theorem sX6_may {E : zE} {d : Nat} {P : Int → zM → Prop} {M : zM} (a0 : Nat) (x1 : Int) (x2 : Int) (h : ∀ X : zX, (xh X).sig.returnType = (some .boolean) → ZX6_may E d X P 0 [(0, vR (some a0)), (1, vI x1), (2, vI x2)] [] M 0 0) : zCi E mX6_may (d + 1) 0 0 [vR (some a0), vI x1, vI x2] M P := z_start (f := mX6_may) rfl (Nat.le_of_ble_eq_true rfl) rfl h
abbrev ZX6_first (E : zE) (d : Nat) (X : zX) (P : Int → zM → Prop) (pc : Nat) (Lc : List (Nat × zV)) (S : List zV) (M : zM) (ce sl : Nat) : Prop := zZ cX6_first RX6 "first" 4 E (zrm (d + 1) 0 0) X (zQ E (zPi P) X 0 0) pc Lc S M ce sl
set_option maxRecDepth 20000 in
theorem vX6_first_0 {E : zE} {d : Nat} {X : zX} {P : Int → zM → Prop} {M : zM} (hr : (xh X).sig.returnType = (some .int)) (a0 : Nat) (x1 : Int) (x2 : Int)
    (h : zK M a0 = (7, 5) ∧ ∃ b2, zR M a0 1 = some b2 ∧ zK M b2 = (3, 6) ∧ ∃ P3 : Option Nat → zM → Prop, zCr E mX2_find d 0 0 [vR (some b2), vI x1] M P3 ∧ ∀ r6 M5, P3 r6 M5 → ((r6 = none → P (-1) M5) ∧ (r6 ≠ none → zK M5 a0 = (7, 5) ∧ ∃ b11, zR M5 a0 2 = some b11 ∧ zK M5 b11 = (1, 3) ∧ ∃ b13, r6 = some b13 ∧ zK M5 b13 = (6, 16) ∧ ∃ P14 : Int → zM → Prop, zCi E mX5_hasBegun d 0 0 [vR (some b13), vI (zI M5 b11 2)] M5 P14 ∧ ∀ r17 M16, P14 r17 M16 → ((r17 = 0 → zK M16 a0 = (7, 5) ∧ ∃ b22, zR M16 a0 3 = some b22 ∧ zK M16 b22 = (5, 5) ∧ ∃ P23 : Int → zM → Prop, zCi E mX4_firstPlace d 0 0 [vR (some b22), vR (some b13), vI x2] M16 P23 ∧ ∀ r26 M25, P23 r26 M25 → P r26 M25) ∧ (r17 ≠ 0 → P (-1) M16))))) :
    ZX6_first E d X P 0 [(0, vR (some a0)), (1, vI x1), (2, vI x2)] [] M 0 0 := by
  refine z_aload_n 0 dX6_first_0 rfl ?_
  obtain ⟨q1, h⟩ := h
  refine z_getR fl_X6_19 rfl dX6_first_1 q1 ?_
  refine z_iload_n 1 dX6_first_4 rfl ?_
  obtain ⟨b2, eb2, h⟩ := h
  rw [eb2]
  obtain ⟨q8, h⟩ := h
  obtain ⟨P3, c4, h⟩ := h
  refine z_Vr (as := [vI x1]) mv_X6_113 dX6_first_5 c4 q8 rfl rfl (Nat.le_of_ble_eq_true rfl) (Nat.le_of_ble_eq_true rfl) (Nat.le_of_ble_eq_true rfl) (fun r6 M5 p7 => ?_)
  have h := h r6 M5 p7
  refine z_astore_n dX6_first_8 (by decide) rfl ?_
  refine z_aload_n 0 dX6_first_9 rfl ?_
  refine z_ifnull (tgt := 27) dX6_first_10 (by decide) (fun q9 => ?_) (fun q9 => ?_)
  · have h := h.1 q9
    refine z_iconst dX6_first_27 (by decide) ?_
    exact z_iret hr dX6_first_28 (Nat.le_of_ble_eq_true rfl) (Nat.le_of_ble_eq_true rfl) ⟨_, rfl, h⟩
  · have h := h.2 q9
    refine z_aload_n 0 dX6_first_13 rfl ?_
    refine z_aload_n 1 dX6_first_14 rfl ?_
    obtain ⟨q10, h⟩ := h
    refine z_getR fl_X6_26 rfl dX6_first_15 q10 ?_
    obtain ⟨b11, eb11, h⟩ := h
    rw [eb11]
    obtain ⟨q12, h⟩ := h
    refine z_getI fl_X6_138 dX6_first_18 q12 ?_
    obtain ⟨b13, eb13, h⟩ := h
    rw [eb13]
    obtain ⟨q19, h⟩ := h
    obtain ⟨P14, c15, h⟩ := h
    refine z_Vi (as := [vI (zI M5 b11 2)]) mv_X6_141 dX6_first_21 c15 q19 rfl rfl (Nat.le_of_ble_eq_true rfl) (Nat.le_of_ble_eq_true rfl) (Nat.le_of_ble_eq_true rfl) (fun r17 M16 p18 => ?_)
    have h := h r17 M16 p18
    refine z_if_eq (tgt := 29) dX6_first_24 (by decide) (fun q20 => ?_) (fun q20 => ?_)
    · have h := h.1 q20
      refine z_aload_n 1 dX6_first_29 rfl ?_
      obtain ⟨q21, h⟩ := h
      refine z_getR fl_X6_35 rfl dX6_first_30 q21 ?_
      refine z_aload_n 0 dX6_first_33 rfl ?_
      refine z_iload_n 3 dX6_first_34 rfl ?_
      obtain ⟨b22, eb22, h⟩ := h
      rw [eb22]
      obtain ⟨q28, h⟩ := h
      obtain ⟨P23, c24, h⟩ := h
      refine z_Vi (as := [vR (some b13), vI x2]) mv_X6_162 dX6_first_35 c24 q28 rfl rfl (Nat.le_of_ble_eq_true rfl) (Nat.le_of_ble_eq_true rfl) (Nat.le_of_ble_eq_true rfl) (fun r26 M25 p27 => ?_)
      have h := h r26 M25 p27
      exact z_iret hr dX6_first_38 (Nat.le_of_ble_eq_true rfl) (Nat.le_of_ble_eq_true rfl) ⟨_, rfl, h⟩
    · have h := h.2 q20
      refine z_iconst dX6_first_27 (by decide) ?_
      exact z_iret hr dX6_first_28 (Nat.le_of_ble_eq_true rfl) (Nat.le_of_ble_eq_true rfl) ⟨_, rfl, h⟩
theorem sX6_first {E : zE} {d : Nat} {P : Int → zM → Prop} {M : zM} (a0 : Nat) (x1 : Int) (x2 : Int) (h : ∀ X : zX, (xh X).sig.returnType = (some .int) → ZX6_first E d X P 0 [(0, vR (some a0)), (1, vI x1), (2, vI x2)] [] M 0 0) : zCi E mX6_first (d + 1) 0 0 [vR (some a0), vI x1, vI x2] M P := z_start (f := mX6_first) rfl (Nat.le_of_ble_eq_true rfl) rfl h
abbrev ZX6_why (E : zE) (d : Nat) (X : zX) (P : Int → zM → Prop) (pc : Nat) (Lc : List (Nat × zV)) (S : List zV) (M : zM) (ce sl : Nat) : Prop := zZ cX6_why RX6 "why" 5 E (zrm (d + 1) 0 0) X (zQ E (zPi P) X 0 0) pc Lc S M ce sl
set_option maxRecDepth 20000 in
theorem vX6_why_0 {E : zE} {d : Nat} {X : zX} {P : Int → zM → Prop} {M : zM} (hr : (xh X).sig.returnType = (some .int)) (a0 : Nat) (x1 : Int)
    (h : ZX6_why E d X P 2 [(0, vR (some a0)), (1, vI x1), (2, vI 0)] [] M 0 0) :
    ZX6_why E d X P 0 [(0, vR (some a0)), (1, vI x1)] [] M 0 0 := by
  refine z_iconst dX6_why_0 (by decide) ?_
  refine z_istore_n dX6_why_1 (by decide) rfl ?_
  exact z_sub [1, 2, 0] rfl h
set_option maxRecDepth 20000 in
theorem vX6_why_2 {E : zE} {d : Nat} {X : zX} {P : Int → zM → Prop} {M : zM} (hr : (xh X).sig.returnType = (some .int)) (a0 : Nat) (x1 : Int) (x2 : Int)
    (h : zK M a0 = (7, 5) ∧ ∃ b2, zR M a0 1 = some b2 ∧ zK M b2 = (3, 6) ∧ (((zI M b2 4) ≤ x2 → P (-1) M) ∧ (x2 < (zI M b2 4) → zK M a0 = (7, 5) ∧ zK M b2 = (3, 6) ∧ ∃ b7, zR M b2 0 = some b7 ∧ ((zK M b7).1 = 12 ∨ (zK M b7).1 = 13) ∧ 0 ≤ x2 ∧ x2 < ((zK M b7).2 : Int) ∧ zK M a0 = (7, 5) ∧ ∃ b12, zR M a0 3 = some b12 ∧ ∃ b13, zR M b7 x2 = some b13 ∧ zK M b12 = (5, 5) ∧ ∃ P14 : Int → zM → Prop, zCi E mX4_leastBroken d 0 0 [vR (some b12), vR (some b13)] M P14 ∧ ∀ r17 M16, P14 r17 M16 → ((r17 = (-1) → zin (x2 + 1) ∧ ZX6_why E d X P 2 [(0, vR (some a0)), (1, vI x1), (2, vI (x2 + 1))] [] M16 0 0) ∧ (r17 ≠ (-1) → zK M16 a0 = (7, 5) ∧ ∃ P22 : Int → zM → Prop, zCi E mX6_partOfBreak d 0 0 [vR (some a0), vR (some b13), vI r17, vI x1] M16 P22 ∧ ∀ r25 M24, P22 r25 M24 → P r25 M24))))) :
    ZX6_why E d X P 2 [(0, vR (some a0)), (1, vI x1), (2, vI x2)] [] M 0 0 := by
  refine z_iload_n 2 dX6_why_2 rfl ?_
  refine z_aload_n 0 dX6_why_3 rfl ?_
  obtain ⟨q1, h⟩ := h
  refine z_getR fl_X6_19 rfl dX6_why_4 q1 ?_
  obtain ⟨b2, eb2, h⟩ := h
  rw [eb2]
  obtain ⟨q3, h⟩ := h
  refine z_getI fl_X6_95 dX6_why_7 q3 ?_
  refine z_icmp_ge (tgt := 54) dX6_why_10 (by decide) (fun q4 => ?_) (fun q4 => ?_)
  · have h := h.1 q4
    refine z_iconst dX6_why_54 (by decide) ?_
    exact z_iret hr dX6_why_55 (Nat.le_of_ble_eq_true rfl) (Nat.le_of_ble_eq_true rfl) ⟨_, rfl, h⟩
  · have h := h.2 q4
    refine z_aload_n 0 dX6_why_13 rfl ?_
    obtain ⟨q5, h⟩ := h
    refine z_getR fl_X6_19 rfl dX6_why_14 q5 ?_
    rw [eb2]
    obtain ⟨q6, h⟩ := h
    refine z_getR fl_X6_166 rfl dX6_why_17 q6 ?_
    refine z_iload_n 2 dX6_why_20 rfl ?_
    obtain ⟨b7, eb7, h⟩ := h
    rw [eb7]
    obtain ⟨q8, h⟩ := h
    obtain ⟨q9, h⟩ := h
    obtain ⟨q10, h⟩ := h
    refine z_aald dX6_why_21 (n := (zK M b7).2) rfl q8 q9 q10 ?_
    refine z_astore_n dX6_why_22 (by decide) rfl ?_
    refine z_aload_n 1 dX6_why_23 rfl ?_
    obtain ⟨q11, h⟩ := h
    refine z_getR fl_X6_35 rfl dX6_why_24 q11 ?_
    refine z_aload_n 0 dX6_why_27 rfl ?_
    obtain ⟨b12, eb12, h⟩ := h
    rw [eb12]
    obtain ⟨b13, eb13, h⟩ := h
    rw [eb13]
    obtain ⟨q19, h⟩ := h
    obtain ⟨P14, c15, h⟩ := h
    refine z_Vi (as := [vR (some b13)]) mv_X6_170 dX6_why_28 c15 q19 rfl rfl (Nat.le_of_ble_eq_true rfl) (Nat.le_of_ble_eq_true rfl) (Nat.le_of_ble_eq_true rfl) (fun r17 M16 p18 => ?_)
    have h := h r17 M16 p18
    refine z_istore dX6_why_31 (by decide) rfl ?_
    refine z_iload 0 dX6_why_33 rfl ?_
    refine z_iconst dX6_why_35 (by decide) ?_
    refine z_icmp_eq (tgt := 48) dX6_why_36 (by decide) (fun q20 => ?_) (fun q20 => ?_)
    · have h := h.1 q20
      obtain ⟨q21, h⟩ := h
      refine z_iinc 4 dX6_why_48 rfl (by decide) q21 rfl ?_
      refine z_goto (tgt := 2) dX6_why_51 (by decide) ?_
      exact z_sub [3, 4, 0] rfl h
    · have h := h.2 q20
      refine z_aload_n 2 dX6_why_39 rfl ?_
      refine z_aload_n 1 dX6_why_40 rfl ?_
      refine z_iload 0 dX6_why_41 rfl ?_
      refine z_iload_n 3 dX6_why_43 rfl ?_
      obtain ⟨q27, h⟩ := h
      obtain ⟨P22, c23, h⟩ := h
      refine z_Vi (as := [vR (some b13), vI r17, vI x1]) mv_X6_174 dX6_why_44 c23 q27 rfl rfl (Nat.le_of_ble_eq_true rfl) (Nat.le_of_ble_eq_true rfl) (Nat.le_of_ble_eq_true rfl) (fun r25 M24 p26 => ?_)
      have h := h r25 M24 p26
      exact z_iret hr dX6_why_47 (Nat.le_of_ble_eq_true rfl) (Nat.le_of_ble_eq_true rfl) ⟨_, rfl, h⟩
theorem sX6_why {E : zE} {d : Nat} {P : Int → zM → Prop} {M : zM} (a0 : Nat) (x1 : Int) (h : ∀ X : zX, (xh X).sig.returnType = (some .int) → ZX6_why E d X P 0 [(0, vR (some a0)), (1, vI x1)] [] M 0 0) : zCi E mX6_why (d + 1) 0 0 [vR (some a0), vI x1] M P := z_start (f := mX6_why) rfl (Nat.le_of_ble_eq_true rfl) rfl h
abbrev ZX6_told (E : zE) (d : Nat) (X : zX) (P : Int → zM → Prop) (pc : Nat) (Lc : List (Nat × zV)) (S : List zV) (M : zM) (ce sl : Nat) : Prop := zZ cX6_told RX6 "told" 4 E (zrm (d + 1) 0 0) X (zQ E (zPi P) X 0 0) pc Lc S M ce sl
set_option maxRecDepth 20000 in
theorem vX6_told_0 {E : zE} {d : Nat} {X : zX} {P : Int → zM → Prop} {M : zM} (hr : (xh X).sig.returnType = (some .int)) (a0 : Nat) (x1 : Int) (x2 : Int)
    (h : zK M a0 = (7, 5) ∧ ∃ b2, zR M a0 1 = some b2 ∧ zK M b2 = (3, 6) ∧ ∃ P3 : Option Nat → zM → Prop, zCr E mX2_find d 0 0 [vR (some b2), vI x1] M P3 ∧ ∀ r6 M5, P3 r6 M5 → ((r6 ≠ none → ((x2 = 0 → ∃ b11, r6 = some b11 ∧ zK M5 b11 = (6, 16) ∧ P (zI M5 b11 7) M5) ∧ (x2 = 1 → ∃ b14, r6 = some b14 ∧ zK M5 b14 = (6, 16) ∧ P (zI M5 b14 2) M5) ∧ (x2 = 2 → ∃ b17, r6 = some b17 ∧ zK M5 b17 = (6, 16) ∧ P (zI M5 b17 3) M5) ∧ (x2 = 3 → ∃ b20, r6 = some b20 ∧ zK M5 b20 = (6, 16) ∧ P (zI M5 b20 4) M5) ∧ (x2 = 4 → ∃ b23, r6 = some b23 ∧ zK M5 b23 = (6, 16) ∧ P (zI M5 b23 5) M5) ∧ (x2 = 5 → ∃ b26, r6 = some b26 ∧ zK M5 b26 = (6, 16) ∧ P (zI M5 b26 6) M5) ∧ (x2 = 6 → ∃ b29, r6 = some b29 ∧ zK M5 a0 = (7, 5) ∧ ∃ P30 : Int → zM → Prop, zCi E mX6_stateOf d 0 0 [vR (some a0), vR (some b29)] M5 P30 ∧ ∀ r33 M32, P30 r33 M32 → P r33 M32) ∧ (x2 = 7 → ∃ b37, r6 = some b37 ∧ zK M5 b37 = (6, 16) ∧ P (zI M5 b37 8) M5) ∧ (x2 = 8 → ∃ b40, r6 = some b40 ∧ zK M5 b40 = (6, 16) ∧ P (zI M5 b40 10) M5) ∧ (x2 = 9 → ∃ b43, r6 = some b43 ∧ zK M5 b43 = (6, 16) ∧ P (zI M5 b43 11) M5) ∧ (x2 = 10 → zK M5 a0 = (7, 5) ∧ ∃ b47, zR M5 a0 1 = some b47 ∧ ∃ b48, r6 = some b48 ∧ zK M5 b47 = (3, 6) ∧ ∃ P49 : Int → zM → Prop, zCi E mX2_slackOf d 0 0 [vR (some b47), vR (some b48)] M5 P49 ∧ ∀ r52 M51, P49 r52 M51 → P r52 M51) ∧ (x2 = 11 → ∃ b56, r6 = some b56 ∧ zK M5 b56 = (6, 16) ∧ ∃ P58 : Int → zM → Prop, zCi E mJ13_bitCount_95d88 d 0 0 [vL (zL M5 b56 12)] M5 P58 ∧ ∀ r61 M60, P58 r61 M60 → P r61 M60) ∧ (x2 = 12 → ∃ b64, r6 = some b64 ∧ zK M5 b64 = (6, 16) ∧ P (zI M5 b64 9) M5) ∧ ((x2 < 0 ∨ 12 < x2) → P (-1) M5))) ∧ (r6 = none → P (-1) M5))) :
    ZX6_told E d X P 0 [(0, vR (some a0)), (1, vI x1), (2, vI x2)] [] M 0 0 := by
  refine z_aload_n 0 dX6_told_0 rfl ?_
  obtain ⟨q1, h⟩ := h
  refine z_getR fl_X6_19 rfl dX6_told_1 q1 ?_
  refine z_iload_n 1 dX6_told_4 rfl ?_
  obtain ⟨b2, eb2, h⟩ := h
  rw [eb2]
  obtain ⟨q8, h⟩ := h
  obtain ⟨P3, c4, h⟩ := h
  refine z_Vr (as := [vI x1]) mv_X6_113 dX6_told_5 c4 q8 rfl rfl (Nat.le_of_ble_eq_true rfl) (Nat.le_of_ble_eq_true rfl) (Nat.le_of_ble_eq_true rfl) (fun r6 M5 p7 => ?_)
  have h := h r6 M5 p7
  refine z_astore_n dX6_told_8 (by decide) rfl ?_
  refine z_aload_n 0 dX6_told_9 rfl ?_
  refine z_ifnonnull (tgt := 15) dX6_told_10 (by decide) (fun q9 => ?_) (fun q9 => ?_)
  · have h := h.1 q9
    refine z_iload_n 3 dX6_told_15 rfl ?_
    obtain ⟨hq10, h⟩ := h
    by_cases q10 : x2 = 0
    · refine z_tableIn (tgt := 84) dX6_told_16 0 q10 (by decide) (by decide) rfl (by decide) ?_
      have h := hq10 q10
      refine z_aload_n 0 dX6_told_84 rfl ?_
      obtain ⟨b11, eb11, h⟩ := h
      rw [eb11]
      obtain ⟨q12, h⟩ := h
      refine z_getI fl_X6_144 dX6_told_85 q12 ?_
      exact z_iret hr dX6_told_88 (Nat.le_of_ble_eq_true rfl) (Nat.le_of_ble_eq_true rfl) ⟨_, rfl, h⟩
    obtain ⟨hq13, h⟩ := h
    by_cases q13 : x2 = 1
    · refine z_tableIn (tgt := 89) dX6_told_16 1 q13 (by decide) (by decide) rfl (by decide) ?_
      have h := hq13 q13
      refine z_aload_n 0 dX6_told_89 rfl ?_
      obtain ⟨b14, eb14, h⟩ := h
      rw [eb14]
      obtain ⟨q15, h⟩ := h
      refine z_getI fl_X6_178 dX6_told_90 q15 ?_
      exact z_iret hr dX6_told_93 (Nat.le_of_ble_eq_true rfl) (Nat.le_of_ble_eq_true rfl) ⟨_, rfl, h⟩
    obtain ⟨hq16, h⟩ := h
    by_cases q16 : x2 = 2
    · refine z_tableIn (tgt := 94) dX6_told_16 2 q16 (by decide) (by decide) rfl (by decide) ?_
      have h := hq16 q16
      refine z_aload_n 0 dX6_told_94 rfl ?_
      obtain ⟨b17, eb17, h⟩ := h
      rw [eb17]
      obtain ⟨q18, h⟩ := h
      refine z_getI fl_X6_181 dX6_told_95 q18 ?_
      exact z_iret hr dX6_told_98 (Nat.le_of_ble_eq_true rfl) (Nat.le_of_ble_eq_true rfl) ⟨_, rfl, h⟩
    obtain ⟨hq19, h⟩ := h
    by_cases q19 : x2 = 3
    · refine z_tableIn (tgt := 99) dX6_told_16 3 q19 (by decide) (by decide) rfl (by decide) ?_
      have h := hq19 q19
      refine z_aload_n 0 dX6_told_99 rfl ?_
      obtain ⟨b20, eb20, h⟩ := h
      rw [eb20]
      obtain ⟨q21, h⟩ := h
      refine z_getI fl_X6_184 dX6_told_100 q21 ?_
      exact z_iret hr dX6_told_103 (Nat.le_of_ble_eq_true rfl) (Nat.le_of_ble_eq_true rfl) ⟨_, rfl, h⟩
    obtain ⟨hq22, h⟩ := h
    by_cases q22 : x2 = 4
    · refine z_tableIn (tgt := 104) dX6_told_16 4 q22 (by decide) (by decide) rfl (by decide) ?_
      have h := hq22 q22
      refine z_aload_n 0 dX6_told_104 rfl ?_
      obtain ⟨b23, eb23, h⟩ := h
      rw [eb23]
      obtain ⟨q24, h⟩ := h
      refine z_getI fl_X6_128 dX6_told_105 q24 ?_
      exact z_iret hr dX6_told_108 (Nat.le_of_ble_eq_true rfl) (Nat.le_of_ble_eq_true rfl) ⟨_, rfl, h⟩
    obtain ⟨hq25, h⟩ := h
    by_cases q25 : x2 = 5
    · refine z_tableIn (tgt := 109) dX6_told_16 5 q25 (by decide) (by decide) rfl (by decide) ?_
      have h := hq25 q25
      refine z_aload_n 0 dX6_told_109 rfl ?_
      obtain ⟨b26, eb26, h⟩ := h
      rw [eb26]
      obtain ⟨q27, h⟩ := h
      refine z_getI fl_X6_187 dX6_told_110 q27 ?_
      exact z_iret hr dX6_told_113 (Nat.le_of_ble_eq_true rfl) (Nat.le_of_ble_eq_true rfl) ⟨_, rfl, h⟩
    obtain ⟨hq28, h⟩ := h
    by_cases q28 : x2 = 6
    · refine z_tableIn (tgt := 114) dX6_told_16 6 q28 (by decide) (by decide) rfl (by decide) ?_
      have h := hq28 q28
      refine z_aload_n 1 dX6_told_114 rfl ?_
      refine z_aload_n 0 dX6_told_115 rfl ?_
      obtain ⟨b29, eb29, h⟩ := h
      rw [eb29]
      obtain ⟨q35, h⟩ := h
      obtain ⟨P30, c31, h⟩ := h
      refine z_Vi (as := [vR (some b29)]) mv_X6_190 dX6_told_116 c31 q35 rfl rfl (Nat.le_of_ble_eq_true rfl) (Nat.le_of_ble_eq_true rfl) (Nat.le_of_ble_eq_true rfl) (fun r33 M32 p34 => ?_)
      have h := h r33 M32 p34
      exact z_iret hr dX6_told_119 (Nat.le_of_ble_eq_true rfl) (Nat.le_of_ble_eq_true rfl) ⟨_, rfl, h⟩
    obtain ⟨hq36, h⟩ := h
    by_cases q36 : x2 = 7
    · refine z_tableIn (tgt := 120) dX6_told_16 7 q36 (by decide) (by decide) rfl (by decide) ?_
      have h := hq36 q36
      refine z_aload_n 0 dX6_told_120 rfl ?_
      obtain ⟨b37, eb37, h⟩ := h
      rw [eb37]
      obtain ⟨q38, h⟩ := h
      refine z_getI fl_X6_193 dX6_told_121 q38 ?_
      exact z_iret hr dX6_told_124 (Nat.le_of_ble_eq_true rfl) (Nat.le_of_ble_eq_true rfl) ⟨_, rfl, h⟩
    obtain ⟨hq39, h⟩ := h
    by_cases q39 : x2 = 8
    · refine z_tableIn (tgt := 125) dX6_told_16 8 q39 (by decide) (by decide) rfl (by decide) ?_
      have h := hq39 q39
      refine z_aload_n 0 dX6_told_125 rfl ?_
      obtain ⟨b40, eb40, h⟩ := h
      rw [eb40]
      obtain ⟨q41, h⟩ := h
      refine z_getI fl_X6_196 dX6_told_126 q41 ?_
      exact z_iret hr dX6_told_129 (Nat.le_of_ble_eq_true rfl) (Nat.le_of_ble_eq_true rfl) ⟨_, rfl, h⟩
    obtain ⟨hq42, h⟩ := h
    by_cases q42 : x2 = 9
    · refine z_tableIn (tgt := 130) dX6_told_16 9 q42 (by decide) (by decide) rfl (by decide) ?_
      have h := hq42 q42
      refine z_aload_n 0 dX6_told_130 rfl ?_
      obtain ⟨b43, eb43, h⟩ := h
      rw [eb43]
      obtain ⟨q44, h⟩ := h
      refine z_getI fl_X6_199 dX6_told_131 q44 ?_
      exact z_iret hr dX6_told_134 (Nat.le_of_ble_eq_true rfl) (Nat.le_of_ble_eq_true rfl) ⟨_, rfl, h⟩
    obtain ⟨hq45, h⟩ := h
    by_cases q45 : x2 = 10
    · refine z_tableIn (tgt := 135) dX6_told_16 10 q45 (by decide) (by decide) rfl (by decide) ?_
      have h := hq45 q45
      refine z_aload_n 1 dX6_told_135 rfl ?_
      obtain ⟨q46, h⟩ := h
      refine z_getR fl_X6_19 rfl dX6_told_136 q46 ?_
      refine z_aload_n 0 dX6_told_139 rfl ?_
      obtain ⟨b47, eb47, h⟩ := h
      rw [eb47]
      obtain ⟨b48, eb48, h⟩ := h
      rw [eb48]
      obtain ⟨q54, h⟩ := h
      obtain ⟨P49, c50, h⟩ := h
      refine z_Vi (as := [vR (some b48)]) mv_X6_202 dX6_told_140 c50 q54 rfl rfl (Nat.le_of_ble_eq_true rfl) (Nat.le_of_ble_eq_true rfl) (Nat.le_of_ble_eq_true rfl) (fun r52 M51 p53 => ?_)
      have h := h r52 M51 p53
      exact z_iret hr dX6_told_143 (Nat.le_of_ble_eq_true rfl) (Nat.le_of_ble_eq_true rfl) ⟨_, rfl, h⟩
    obtain ⟨hq55, h⟩ := h
    by_cases q55 : x2 = 11
    · refine z_tableIn (tgt := 144) dX6_told_16 11 q55 (by decide) (by decide) rfl (by decide) ?_
      have h := hq55 q55
      refine z_aload_n 0 dX6_told_144 rfl ?_
      obtain ⟨b56, eb56, h⟩ := h
      rw [eb56]
      obtain ⟨q57, h⟩ := h
      refine z_getL fl_X6_205 dX6_told_145 q57 ?_
      obtain ⟨P58, c59, h⟩ := h
      refine z_Si (as := [vL (zL M5 b56 12)]) ms_X6_208 dX6_told_148 c59 rfl rfl (Nat.le_of_ble_eq_true rfl) (Nat.le_of_ble_eq_true rfl) (Nat.le_of_ble_eq_true rfl) (fun r61 M60 p62 => ?_)
      have h := h r61 M60 p62
      exact z_iret hr dX6_told_151 (Nat.le_of_ble_eq_true rfl) (Nat.le_of_ble_eq_true rfl) ⟨_, rfl, h⟩
    obtain ⟨hq63, h⟩ := h
    by_cases q63 : x2 = 12
    · refine z_tableIn (tgt := 152) dX6_told_16 12 q63 (by decide) (by decide) rfl (by decide) ?_
      have h := hq63 q63
      refine z_aload_n 0 dX6_told_152 rfl ?_
      obtain ⟨b64, eb64, h⟩ := h
      rw [eb64]
      obtain ⟨q65, h⟩ := h
      refine z_getI fl_X6_214 dX6_told_153 q65 ?_
      exact z_iret hr dX6_told_156 (Nat.le_of_ble_eq_true rfl) (Nat.le_of_ble_eq_true rfl) ⟨_, rfl, h⟩
    have ho66 := zo_0_12 x2 q10 q13 q16 q19 q22 q25 q28 q36 q39 q42 q45 q55 q63
    refine z_tableOut (tgt := 157) dX6_told_16 ho66 (by decide) ?_
    have h := h ho66
    refine z_iconst dX6_told_157 (by decide) ?_
    exact z_iret hr dX6_told_158 (Nat.le_of_ble_eq_true rfl) (Nat.le_of_ble_eq_true rfl) ⟨_, rfl, h⟩
  · have h := h.2 q9
    refine z_iconst dX6_told_13 (by decide) ?_
    exact z_iret hr dX6_told_14 (Nat.le_of_ble_eq_true rfl) (Nat.le_of_ble_eq_true rfl) ⟨_, rfl, h⟩
theorem sX6_told {E : zE} {d : Nat} {P : Int → zM → Prop} {M : zM} (a0 : Nat) (x1 : Int) (x2 : Int) (h : ∀ X : zX, (xh X).sig.returnType = (some .int) → ZX6_told E d X P 0 [(0, vR (some a0)), (1, vI x1), (2, vI x2)] [] M 0 0) : zCi E mX6_told (d + 1) 0 0 [vR (some a0), vI x1, vI x2] M P := z_start (f := mX6_told) rfl (Nat.le_of_ble_eq_true rfl) rfl h
