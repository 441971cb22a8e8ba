abbrev ZX7_may (E : zE) (d : Nat) (X : zX) (P : Int → zM → Prop) (pc : Nat) (Lc : List (Nat × zV)) (S : List zV) (M : zM) (ce sl : Nat) : Prop := zZ cX7_may RX7 "may" 6 E (zrm (d + 1) 0 0) X (zQ E (zPi P) X 0 0) pc Lc S M ce sl
set_option maxRecDepth 20000 in
theorem vX7_may_0 {E : zE} {d : Nat} {X : zX} {P : Int → zM → Prop} {M : zM} (hr : (xh X).sig.returnType = (some .boolean)) (a0 : Nat) (x1 : Int) (x2 : Int)
    (h : zK M a0 = (8, 25) ∧ ∃ P1 : Int → zM → Prop, zCi E mX7_isWork d 0 0 [vR (some a0), vI x1] M P1 ∧ ∀ r4 M3, P1 r4 M3 → ((r4 = 0 → P 0 M3) ∧ (r4 ≠ 0 → zK M3 a0 = (8, 25) ∧ ∃ P8 : Int → zM → Prop, zCi E mX7_isBegun d 0 0 [vR (some a0), vI x1] M3 P8 ∧ ∀ r11 M10, P8 r11 M10 → ((r11 ≠ 0 → P 0 M10) ∧ (r11 = 0 → zK M10 a0 = (8, 25) ∧ ((x2 < (zI M10 a0 0) → P 0 M10) ∧ ((zI M10 a0 0) ≤ x2 → zK M10 a0 = (8, 25) ∧ ∃ b18, zR M10 a0 9 = some b18 ∧ (zK M10 b18).1 = 9 ∧ 0 ≤ x1 ∧ x1 < ((zK M10 b18).2 : Int) ∧ zin (400 - (zI M10 b18 x1)) ∧ ((x2 ≤ (400 - (zI M10 b18 x1)) → zK M10 a0 = (8, 25) ∧ ∃ b25, zR M10 a0 15 = some b25 ∧ (zK M10 b25).1 = 9 ∧ 0 ≤ x1 ∧ x1 < ((zK M10 b25).2 : Int) ∧ zK M10 a0 = (8, 25) ∧ (zK M10 b25).1 = 9 ∧ 0 ≤ x1 ∧ x1 < ((zK M10 b25).2 : Int) ∧ ∀ M33, M33 = zsI M10 b25 x1 x2 → zK M33 a0 = (8, 25) ∧ ∃ P34 : Int → zM → Prop, zCi E mX7_isBad d 0 0 [vR (some a0), vI x1] M33 P34 ∧ ∀ r37 M36, P34 r37 M36 → ((r37 ≠ 0 → ZX7_may E d X P 72 [(0, vR (some a0)), (1, vI x1), (2, vI x2), (3, vI (zI M10 b25 x1)), (4, vI 0), (5, vI 0)] [] M36 0 0) ∧ (r37 = 0 → ZX7_may E d X P 72 [(0, vR (some a0)), (1, vI x1), (2, vI x2), (3, vI (zI M10 b25 x1)), (4, vI 1), (5, vI 0)] [] M36 0 0))) ∧ ((400 - (zI M10 b18 x1)) < x2 → P 0 M10))))))))) :
    ZX7_may E d X P 0 [(0, vR (some a0)), (1, vI x1), (2, vI x2)] [] M 0 0 := by
  refine z_aload_n 0 dX7_may_0 rfl ?_
  refine z_iload_n 1 dX7_may_1 rfl ?_
  obtain ⟨q6, h⟩ := h
  obtain ⟨P1, c2, h⟩ := h
  refine z_Vi (as := [vI x1]) mv_X7_100 dX7_may_2 c2 q6 rfl rfl (Nat.le_of_ble_eq_true rfl) (Nat.le_of_ble_eq_true rfl) (Nat.le_of_ble_eq_true rfl) (fun r4 M3 p5 => ?_)
  have h := h r4 M3 p5
  refine z_if_eq (tgt := 38) dX7_may_5 (by decide) (fun q7 => ?_) (fun q7 => ?_)
  · have h := h.1 q7
    refine z_iconst dX7_may_38 (by decide) ?_
    exact z_zret hr dX7_may_39 (Nat.le_of_ble_eq_true rfl) (Nat.le_of_ble_eq_true rfl) (by decide) ⟨_, rfl, h⟩
  · have h := h.2 q7
    refine z_aload_n 0 dX7_may_8 rfl ?_
    refine z_iload_n 1 dX7_may_9 rfl ?_
    obtain ⟨q13, h⟩ := h
    obtain ⟨P8, c9, h⟩ := h
    refine z_Vi (as := [vI x1]) mv_X7_103 dX7_may_10 c9 q13 rfl rfl (Nat.le_of_ble_eq_true rfl) (Nat.le_of_ble_eq_true rfl) (Nat.le_of_ble_eq_true rfl) (fun r11 M10 p12 => ?_)
    have h := h r11 M10 p12
    refine z_if_ne (tgt := 38) dX7_may_13 (by decide) (fun q14 => ?_) (fun q14 => ?_)
    · have h := h.1 q14
      refine z_iconst dX7_may_38 (by decide) ?_
      exact z_zret hr dX7_may_39 (Nat.le_of_ble_eq_true rfl) (Nat.le_of_ble_eq_true rfl) (by decide) ⟨_, rfl, h⟩
    · have h := h.2 q14
      refine z_iload_n 2 dX7_may_16 rfl ?_
      refine z_aload_n 0 dX7_may_17 rfl ?_
      obtain ⟨q15, h⟩ := h
      refine z_getI fl_X7_93 dX7_may_18 q15 ?_
      refine z_icmp_lt (tgt := 38) dX7_may_21 (by decide) (fun q16 => ?_) (fun q16 => ?_)
      · have h := h.1 q16
        refine z_iconst dX7_may_38 (by decide) ?_
        exact z_zret hr dX7_may_39 (Nat.le_of_ble_eq_true rfl) (Nat.le_of_ble_eq_true rfl) (by decide) ⟨_, rfl, h⟩
      · have h := h.2 q16
        refine z_iload_n 2 dX7_may_24 rfl ?_
        refine z_sipush dX7_may_25 (by decide) ?_
        refine z_aload_n 0 dX7_may_28 rfl ?_
        obtain ⟨q17, h⟩ := h
        refine z_getR fl_X7_26 rfl dX7_may_29 q17 ?_
        refine z_iload_n 1 dX7_may_32 rfl ?_
        obtain ⟨b18, eb18, h⟩ := h
        rw [eb18]
        obtain ⟨q19, h⟩ := h
        obtain ⟨q20, h⟩ := h
        obtain ⟨q21, h⟩ := h
        refine z_iald dX7_may_33 (n := (zK M10 b18).2) (Prod.ext q19 rfl) q20 q21 ?_
        obtain ⟨q22, h⟩ := h
        refine z_isub dX7_may_34 q22 ?_
        refine z_icmp_le (tgt := 40) dX7_may_35 (by decide) (fun q23 => ?_) (fun q23 => ?_)
        · have h := h.1 q23
          refine z_aload_n 0 dX7_may_40 rfl ?_
          obtain ⟨q24, h⟩ := h
          refine z_getR fl_X7_44 rfl dX7_may_41 q24 ?_
          refine z_iload_n 1 dX7_may_44 rfl ?_
          obtain ⟨b25, eb25, h⟩ := h
          rw [eb25]
          obtain ⟨q26, h⟩ := h
          obtain ⟨q27, h⟩ := h
          obtain ⟨q28, h⟩ := h
          refine z_iald dX7_may_45 (n := (zK M10 b25).2) (Prod.ext q26 rfl) q27 q28 ?_
          refine z_istore_n dX7_may_46 (by decide) rfl ?_
          refine z_aload_n 1 dX7_may_47 rfl ?_
          obtain ⟨q29, h⟩ := h
          refine z_getR fl_X7_44 rfl dX7_may_48 q29 ?_
          rw [eb25]
          refine z_iload_n 2 dX7_may_51 rfl ?_
          refine z_iload_n 3 dX7_may_52 rfl ?_
          obtain ⟨q30, h⟩ := h
          obtain ⟨q31, h⟩ := h
          obtain ⟨q32, h⟩ := h
          refine z_iast dX7_may_53 (n := (zK M10 b25).2) (Prod.ext q30 rfl) q31 q32 ?_
          obtain ⟨M33, hmM33⟩ : ∃ z, z = zsI M10 b25 x1 x2 := ⟨_, rfl⟩
          rw [← hmM33]
          have h := h M33 hmM33
          refine z_aload_n 1 dX7_may_54 rfl ?_
          refine z_iload_n 2 dX7_may_55 rfl ?_
          obtain ⟨q39, h⟩ := h
          obtain ⟨P34, c35, h⟩ := h
          refine z_Vi (as := [vI x1]) mv_X7_126 dX7_may_56 c35 q39 rfl rfl (Nat.le_of_ble_eq_true rfl) (Nat.le_of_ble_eq_true rfl) (Nat.le_of_ble_eq_true rfl) (fun r37 M36 p38 => ?_)
          have h := h r37 M36 p38
          refine z_if_ne (tgt := 66) dX7_may_59 (by decide) (fun q40 => ?_) (fun q40 => ?_)
          · have h := h.1 q40
            refine z_iconst dX7_may_66 (by decide) ?_
            refine z_istore dX7_may_67 (by decide) rfl ?_
            refine z_iconst dX7_may_69 (by decide) ?_
            refine z_istore dX7_may_70 (by decide) rfl ?_
            exact z_sub [3, 4, 5, 2, 1, 0] rfl h
          · have h := h.2 q40
            refine z_iconst dX7_may_62 (by decide) ?_
            refine z_goto (tgt := 67) dX7_may_63 (by decide) ?_
            refine z_istore dX7_may_67 (by decide) rfl ?_
            refine z_iconst dX7_may_69 (by decide) ?_
            refine z_istore dX7_may_70 (by decide) rfl ?_
            exact z_sub [3, 4, 5, 2, 1, 0] rfl h
        · have h := h.2 q23
          refine z_iconst dX7_may_38 (by decide) ?_
          exact z_zret hr dX7_may_39 (Nat.le_of_ble_eq_true rfl) (Nat.le_of_ble_eq_true rfl) (by decide) ⟨_, rfl, h⟩
set_option maxRecDepth 20000 in
theorem vX7_may_72 {E : zE} {d : Nat} {X : zX} {P : Int → zM → Prop} {M : zM} (hr : (xh X).sig.returnType = (some .boolean)) (a0 : Nat) (x1 : Int) (x2 : Int) (x3 : Int) (x4 : Int) (x5 : Int)
    (h : zK M a0 = (8, 25) ∧ (((zI M a0 8) ≤ x5 → zK M a0 = (8, 25) ∧ ∃ b4, zR M a0 15 = some b4 ∧ (zK M b4).1 = 9 ∧ 0 ≤ x1 ∧ x1 < ((zK M b4).2 : Int) ∧ ∀ M8, M8 = zsI M b4 x1 x3 → (x4 = 0 ∨ x4 = 1) ∧ P x4 M8) ∧ (x5 < (zI M a0 8) → ((x4 = 0 → zK M a0 = (8, 25) ∧ ∃ b12, zR M a0 15 = some b12 ∧ (zK M b12).1 = 9 ∧ 0 ≤ x1 ∧ x1 < ((zK M b12).2 : Int) ∧ ∀ M16, M16 = zsI M b12 x1 x3 → (x4 = 0 ∨ x4 = 1) ∧ P x4 M16) ∧ (x4 ≠ 0 → zK M a0 = (8, 25) ∧ zin (40 * x5) ∧ zin ((40 * x5) + x1) ∧ ∃ b21, zR M a0 17 = some b21 ∧ (zK M b21).1 = 10 ∧ 0 ≤ ((40 * x5) + x1) ∧ ((40 * x5) + x1) < ((zK M b21).2 : Int) ∧ (((zI M b21 ((40 * x5) + x1)) = 0 → zin (x5 + 1) ∧ ZX7_may E d X P 72 [(0, vR (some a0)), (1, vI x1), (2, vI x2), (3, vI x3), (4, vI 1), (5, vI (x5 + 1))] [] M 0 0) ∧ ((zI M b21 ((40 * x5) + x1)) ≠ 0 → zK M a0 = (8, 25) ∧ ∃ P27 : Int → zM → Prop, zCi E mX7_isPut d 0 0 [vR (some a0), vI x5] M P27 ∧ ∀ r30 M29, P27 r30 M29 → ((r30 = 0 → zin (x5 + 1) ∧ ZX7_may E d X P 72 [(0, vR (some a0)), (1, vI x1), (2, vI x2), (3, vI x3), (4, vI 1), (5, vI (x5 + 1))] [] M29 0 0) ∧ (r30 ≠ 0 → zK M29 a0 = (8, 25) ∧ ∃ P35 : Int → zM → Prop, zCi E mX7_endOf d 0 0 [vR (some a0), vI x1] M29 P35 ∧ ∀ r38 M37, P35 r38 M37 → zK M37 a0 = (8, 25) ∧ ∃ b42, zR M37 a0 15 = some b42 ∧ (zK M37 b42).1 = 9 ∧ 0 ≤ x5 ∧ x5 < ((zK M37 b42).2 : Int) ∧ (((zI M37 b42 x5) < r38 → zin (x5 + 1) ∧ ZX7_may E d X P 72 [(0, vR (some a0)), (1, vI x1), (2, vI x2), (3, vI x3), (4, vI 0), (5, vI (x5 + 1))] [] M37 0 0) ∧ (r38 ≤ (zI M37 b42 x5) → zin (x5 + 1) ∧ ZX7_may E d X P 72 [(0, vR (some a0)), (1, vI x1), (2, vI x2), (3, vI x3), (4, vI 1), (5, vI (x5 + 1))] [] M37 0 0))))))))))) :
    ZX7_may E d X P 72 [(0, vR (some a0)), (1, vI x1), (2, vI x2), (3, vI x3), (4, vI x4), (5, vI x5)] [] M 0 0 := by
  refine z_iload 5 dX7_may_72 rfl ?_
  refine z_aload_n 0 dX7_may_74 rfl ?_
  obtain ⟨q1, h⟩ := h
  refine z_getI fl_X7_74 dX7_may_75 q1 ?_
  refine z_icmp_ge (tgt := 138) dX7_may_78 (by decide) (fun q2 => ?_) (fun q2 => ?_)
  · have h := h.1 q2
    refine z_aload_n 0 dX7_may_138 rfl ?_
    obtain ⟨q3, h⟩ := h
    refine z_getR fl_X7_44 rfl dX7_may_139 q3 ?_
    refine z_iload_n 1 dX7_may_142 rfl ?_
    refine z_iload_n 3 dX7_may_143 rfl ?_
    obtain ⟨b4, eb4, h⟩ := h
    rw [eb4]
    obtain ⟨q5, h⟩ := h
    obtain ⟨q6, h⟩ := h
    obtain ⟨q7, h⟩ := h
    refine z_iast dX7_may_144 (n := (zK M b4).2) (Prod.ext q5 rfl) q6 q7 ?_
    obtain ⟨M8, hmM8⟩ : ∃ z, z = zsI M b4 x1 x3 := ⟨_, rfl⟩
    rw [← hmM8]
    have h := h M8 hmM8
    refine z_iload 4 dX7_may_145 rfl ?_
    obtain ⟨q9, h⟩ := h
    exact z_zret hr dX7_may_147 (Nat.le_of_ble_eq_true rfl) (Nat.le_of_ble_eq_true rfl) q9 ⟨_, rfl, h⟩
  · have h := h.2 q2
    refine z_iload 4 dX7_may_81 rfl ?_
    refine z_if_eq (tgt := 138) dX7_may_83 (by decide) (fun q10 => ?_) (fun q10 => ?_)
    · have h := h.1 q10
      refine z_aload_n 0 dX7_may_138 rfl ?_
      obtain ⟨q11, h⟩ := h
      refine z_getR fl_X7_44 rfl dX7_may_139 q11 ?_
      refine z_iload_n 1 dX7_may_142 rfl ?_
      refine z_iload_n 3 dX7_may_143 rfl ?_
      obtain ⟨b12, eb12, h⟩ := h
      rw [eb12]
      obtain ⟨q13, h⟩ := h
      obtain ⟨q14, h⟩ := h
      obtain ⟨q15, h⟩ := h
      refine z_iast dX7_may_144 (n := (zK M b12).2) (Prod.ext q13 rfl) q14 q15 ?_
      obtain ⟨M16, hmM16⟩ : ∃ z, z = zsI M b12 x1 x3 := ⟨_, rfl⟩
      rw [← hmM16]
      have h := h M16 hmM16
      refine z_iload 4 dX7_may_145 rfl ?_
      obtain ⟨q17, h⟩ := h
      exact z_zret hr dX7_may_147 (Nat.le_of_ble_eq_true rfl) (Nat.le_of_ble_eq_true rfl) q17 ⟨_, rfl, h⟩
    · have h := h.2 q10
      refine z_aload_n 0 dX7_may_86 rfl ?_
      obtain ⟨q18, h⟩ := h
      refine z_getR fl_X7_50 rfl dX7_may_87 q18 ?_
      refine z_bipush dX7_may_90 (by decide) ?_
      refine z_iload 5 dX7_may_92 rfl ?_
      obtain ⟨q19, h⟩ := h
      refine z_imul dX7_may_94 q19 ?_
      refine z_iload_n 1 dX7_may_95 rfl ?_
      obtain ⟨q20, h⟩ := h
      refine z_iadd dX7_may_96 q20 ?_
      obtain ⟨b21, eb21, h⟩ := h
      rw [eb21]
      obtain ⟨q22, h⟩ := h
      obtain ⟨q23, h⟩ := h
      obtain ⟨q24, h⟩ := h
      refine z_bald dX7_may_97 (n := (zK M b21).2) (Prod.ext q22 rfl) q23 q24 ?_
      refine z_if_eq (tgt := 125) dX7_may_98 (by decide) (fun q25 => ?_) (fun q25 => ?_)
      · have h := h.1 q25
        refine z_iconst dX7_may_125 (by decide) ?_
        refine z_goto (tgt := 130) dX7_may_126 (by decide) ?_
        refine z_istore dX7_may_130 (by decide) rfl ?_
        obtain ⟨q26, h⟩ := h
        refine z_iinc 5 dX7_may_132 rfl (by decide) q26 rfl ?_
        refine z_goto (tgt := 72) dX7_may_135 (by decide) ?_
        exact z_sub [2, 3, 4, 5, 1, 0] rfl h
      · have h := h.2 q25
        refine z_aload_n 0 dX7_may_101 rfl ?_
        refine z_iload 5 dX7_may_102 rfl ?_
        obtain ⟨q32, h⟩ := h
        obtain ⟨P27, c28, h⟩ := h
        refine z_Vi (as := [vI x5]) mv_X7_89 dX7_may_104 c28 q32 rfl rfl (Nat.le_of_ble_eq_true rfl) (Nat.le_of_ble_eq_true rfl) (Nat.le_of_ble_eq_true rfl) (fun r30 M29 p31 => ?_)
        have h := h r30 M29 p31
        refine z_if_eq (tgt := 125) dX7_may_107 (by decide) (fun q33 => ?_) (fun q33 => ?_)
        · have h := h.1 q33
          refine z_iconst dX7_may_125 (by decide) ?_
          refine z_goto (tgt := 130) dX7_may_126 (by decide) ?_
          refine z_istore dX7_may_130 (by decide) rfl ?_
          obtain ⟨q34, h⟩ := h
          refine z_iinc 5 dX7_may_132 rfl (by decide) q34 rfl ?_
          refine z_goto (tgt := 72) dX7_may_135 (by decide) ?_
          exact z_sub [2, 3, 4, 5, 1, 0] rfl h
        · have h := h.2 q33
          refine z_aload_n 0 dX7_may_110 rfl ?_
          refine z_iload_n 1 dX7_may_111 rfl ?_
          obtain ⟨q40, h⟩ := h
          obtain ⟨P35, c36, h⟩ := h
          refine z_Vi (as := [vI x1]) mv_X7_96 dX7_may_112 c36 q40 rfl rfl (Nat.le_of_ble_eq_true rfl) (Nat.le_of_ble_eq_true rfl) (Nat.le_of_ble_eq_true rfl) (fun r38 M37 p39 => ?_)
          have h := h r38 M37 p39
          refine z_aload_n 0 dX7_may_115 rfl ?_
          obtain ⟨q41, h⟩ := h
          refine z_getR fl_X7_44 rfl dX7_may_116 q41 ?_
          refine z_iload 5 dX7_may_119 rfl ?_
          obtain ⟨b42, eb42, h⟩ := h
          rw [eb42]
          obtain ⟨q43, h⟩ := h
          obtain ⟨q44, h⟩ := h
          obtain ⟨q45, h⟩ := h
          refine z_iald dX7_may_121 (n := (zK M37 b42).2) (Prod.ext q43 rfl) q44 q45 ?_
          refine z_icmp_gt (tgt := 129) dX7_may_122 (by decide) (fun q46 => ?_) (fun q46 => ?_)
          · have h := h.1 q46
            refine z_iconst dX7_may_129 (by decide) ?_
            refine z_istore dX7_may_130 (by decide) rfl ?_
            obtain ⟨q47, h⟩ := h
            refine z_iinc 5 dX7_may_132 rfl (by decide) q47 rfl ?_
            refine z_goto (tgt := 72) dX7_may_135 (by decide) ?_
            exact z_sub [2, 3, 4, 5, 1, 0] rfl h
          · have h := h.2 q46
            refine z_iconst dX7_may_125 (by decide) ?_
            refine z_goto (tgt := 130) dX7_may_126 (by decide) ?_
            refine z_istore dX7_may_130 (by decide) rfl ?_
            obtain ⟨q48, h⟩ := h
            refine z_iinc 5 dX7_may_132 rfl (by decide) q48 rfl ?_
            refine z_goto (tgt := 72) dX7_may_135 (by decide) ?_
            exact z_sub [2, 3, 4, 5, 1, 0] rfl h
theorem sX7_may {E : zE} {d : Nat} {P : Int → zM → Prop} {M : zM} (a0 : Nat) (x1 : Int) (x2 : Int) (h : ∀ X : zX, (xh X).sig.returnType = (some .boolean) → ZX7_may E d X P 0 [(0, vR (some a0)), (1, vI x1), (2, vI x2)] [] M 0 0) : zCi E mX7_may (d + 1) 0 0 [vR (some a0), vI x1, vI x2] M P := z_start (f := mX7_may) rfl (Nat.le_of_ble_eq_true rfl) rfl h
abbrev ZX7_first (E : zE) (d : Nat) (X : zX) (P : Int → zM → Prop) (pc : Nat) (Lc : List (Nat × zV)) (S : List zV) (M : zM) (ce sl : Nat) : Prop := zZ cX7_first RX7 "first" 4 E (zrm (d + 1) 0 0) X (zQ E (zPi P) X 0 0) pc Lc S M ce sl
set_option maxRecDepth 20000 in
theorem vX7_first_0 {E : zE} {d : Nat} {X : zX} {P : Int → zM → Prop} {M : zM} (hr : (xh X).sig.returnType = (some .int)) (a0 : Nat) (x1 : Int) (x2 : Int)
    (h : zK M a0 = (8, 25) ∧ ((x2 ≤ (zI M a0 0) → zK M a0 = (8, 25) ∧ ZX7_first E d X P 17 [(0, vR (some a0)), (1, vI x1), (2, vI x2), (3, vI (zI M a0 0))] [] M 0 0) ∧ ((zI M a0 0) < x2 → ZX7_first E d X P 17 [(0, vR (some a0)), (1, vI x1), (2, vI x2), (3, vI x2)] [] M 0 0))) :
    ZX7_first E d X P 0 [(0, vR (some a0)), (1, vI x1), (2, vI x2)] [] M 0 0 := by
  refine z_iload_n 2 dX7_first_0 rfl ?_
  refine z_aload_n 0 dX7_first_1 rfl ?_
  obtain ⟨q1, h⟩ := h
  refine z_getI fl_X7_93 dX7_first_2 q1 ?_
  refine z_icmp_le (tgt := 12) dX7_first_5 (by decide) (fun q2 => ?_) (fun q2 => ?_)
  · have h := h.1 q2
    refine z_aload_n 0 dX7_first_12 rfl ?_
    obtain ⟨q3, h⟩ := h
    refine z_getI fl_X7_93 dX7_first_13 q3 ?_
    refine z_istore_n dX7_first_16 (by decide) rfl ?_
    exact z_sub [1, 2, 3, 0] rfl h
  · have h := h.2 q2
    refine z_iload_n 2 dX7_first_8 rfl ?_
    refine z_goto (tgt := 16) dX7_first_9 (by decide) ?_
    refine z_istore_n dX7_first_16 (by decide) rfl ?_
    exact z_sub [1, 2, 3, 0] rfl h
set_option maxRecDepth 20000 in
theorem vX7_first_17 {E : zE} {d : Nat} {X : zX} {P : Int → zM → Prop} {M : zM} (hr : (xh X).sig.returnType = (some .int)) (a0 : Nat) (x1 : Int) (x2 : Int) (x3 : Int)
    (h : ((400 ≤ x3 → P (-1) M) ∧ (x3 < 400 → zK M a0 = (8, 25) ∧ ∃ P2 : Int → zM → Prop, zCi E mX7_may d 0 0 [vR (some a0), vI x1, vI x3] M P2 ∧ ∀ r5 M4, P2 r5 M4 → ((r5 = 0 → zin (x3 + 1) ∧ ZX7_first E d X P 17 [(0, vR (some a0)), (1, vI x1), (2, vI x2), (3, vI (x3 + 1))] [] M4 0 0) ∧ (r5 ≠ 0 → P x3 M4))))) :
    ZX7_first E d X P 17 [(0, vR (some a0)), (1, vI x1), (2, vI x2), (3, vI x3)] [] M 0 0 := by
  refine z_iload_n 3 dX7_first_17 rfl ?_
  refine z_sipush dX7_first_18 (by decide) ?_
  refine z_icmp_ge (tgt := 41) dX7_first_21 (by decide) (fun q1 => ?_) (fun q1 => ?_)
  · have h := h.1 q1
    refine z_iconst dX7_first_41 (by decide) ?_
    exact z_iret hr dX7_first_42 (Nat.le_of_ble_eq_true rfl) (Nat.le_of_ble_eq_true rfl) ⟨_, rfl, h⟩
  · have h := h.2 q1
    refine z_aload_n 0 dX7_first_24 rfl ?_
    refine z_iload_n 1 dX7_first_25 rfl ?_
    refine z_iload_n 3 dX7_first_26 rfl ?_
    obtain ⟨q7, h⟩ := h
    obtain ⟨P2, c3, h⟩ := h
    refine z_Vi (as := [vI x1, vI x3]) mv_X7_129 dX7_first_27 c3 q7 rfl rfl (Nat.le_of_ble_eq_true rfl) (Nat.le_of_ble_eq_true rfl) (Nat.le_of_ble_eq_true rfl) (fun r5 M4 p6 => ?_)
    have h := h r5 M4 p6
    refine z_if_eq (tgt := 35) dX7_first_30 (by decide) (fun q8 => ?_) (fun q8 => ?_)
    · have h := h.1 q8
      obtain ⟨q9, h⟩ := h
      refine z_iinc 3 dX7_first_35 rfl (by decide) q9 rfl ?_
      refine z_goto (tgt := 17) dX7_first_38 (by decide) ?_
      exact z_sub [1, 2, 3, 0] rfl h
    · have h := h.2 q8
      refine z_iload_n 3 dX7_first_33 rfl ?_
      exact z_iret hr dX7_first_34 (Nat.le_of_ble_eq_true rfl) (Nat.le_of_ble_eq_true rfl) ⟨_, rfl, h⟩
theorem sX7_first {E : zE} {d : Nat} {P : Int → zM → Prop} {M : zM} (a0 : Nat) (x1 : Int) (x2 : Int) (h : ∀ X : zX, (xh X).sig.returnType = (some .int) → ZX7_first E d X P 0 [(0, vR (some a0)), (1, vI x1), (2, vI x2)] [] M 0 0) : zCi E mX7_first (d + 1) 0 0 [vR (some a0), vI x1, vI x2] M P := z_start (f := mX7_first) rfl (Nat.le_of_ble_eq_true rfl) rfl h
abbrev ZX7_way (E : zE) (d : Nat) (X : zX) (P : Int → zM → Prop) (pc : Nat) (Lc : List (Nat × zV)) (S : List zV) (M : zM) (ce sl : Nat) : Prop := zZ cX7_way RX7 "way" 4 E (zrm (d + 1) 0 0) X (zQ E (zPi P) X 0 0) pc Lc S M ce sl
set_option maxRecDepth 20000 in
theorem vX7_way_0 {E : zE} {d : Nat} {X : zX} {P : Int → zM → Prop} {M : zM} (hr : (xh X).sig.returnType = (some .int)) (a0 : Nat)
    (h : ZX7_way E d X P 2 [(0, vR (some a0)), (1, vI 0)] [] M 0 0) :
    ZX7_way E d X P 0 [(0, vR (some a0))] [] M 0 0 := by
  refine z_iconst dX7_way_0 (by decide) ?_
  refine z_istore_n dX7_way_1 (by decide) rfl ?_
  exact z_sub [1, 0] rfl h
set_option maxRecDepth 20000 in
theorem vX7_way_2 {E : zE} {d : Nat} {X : zX} {P : Int → zM → Prop} {M : zM} (hr : (xh X).sig.returnType = (some .int)) (a0 : Nat) (x1 : Int)
    (h : zK M a0 = (8, 25) ∧ (((zI M a0 8) ≤ x1 → ZX7_way E d X P 32 [(0, vR (some a0)), (1, vI 1)] [] M 0 0) ∧ (x1 < (zI M a0 8) → zK M a0 = (8, 25) ∧ ∃ b4, zR M a0 20 = some b4 ∧ (zK M b4).1 = 9 ∧ 0 ≤ x1 ∧ x1 < ((zK M b4).2 : Int) ∧ ∀ M8, M8 = zsI M b4 x1 0 → zK M8 a0 = (8, 25) ∧ ∃ b10, zR M8 a0 21 = some b10 ∧ (zK M8 b10).1 = 9 ∧ 0 ≤ x1 ∧ x1 < ((zK M8 b10).2 : Int) ∧ ∀ M14, M14 = zsI M8 b10 x1 0 → zin (x1 + 1) ∧ ZX7_way E d X P 2 [(0, vR (some a0)), (1, vI (x1 + 1))] [] M14 0 0))) :
    ZX7_way E d X P 2 [(0, vR (some a0)), (1, vI x1)] [] M 0 0 := by
  refine z_iload_n 1 dX7_way_2 rfl ?_
  refine z_aload_n 0 dX7_way_3 rfl ?_
  obtain ⟨q1, h⟩ := h
  refine z_getI fl_X7_74 dX7_way_4 q1 ?_
  refine z_icmp_ge (tgt := 30) dX7_way_7 (by decide) (fun q2 => ?_) (fun q2 => ?_)
  · have h := h.1 q2
    refine z_iconst dX7_way_30 (by decide) ?_
    refine z_istore_n dX7_way_31 (by decide) rfl ?_
    exact z_sub [1, 0] rfl h
  · have h := h.2 q2
    refine z_aload_n 0 dX7_way_10 rfl ?_
    obtain ⟨q3, h⟩ := h
    refine z_getR fl_X7_59 rfl dX7_way_11 q3 ?_
    refine z_iload_n 1 dX7_way_14 rfl ?_
    refine z_iconst dX7_way_15 (by decide) ?_
    obtain ⟨b4, eb4, h⟩ := h
    rw [eb4]
    obtain ⟨q5, h⟩ := h
    obtain ⟨q6, h⟩ := h
    obtain ⟨q7, h⟩ := h
    refine z_iast dX7_way_16 (n := (zK M b4).2) (Prod.ext q5 rfl) q6 q7 ?_
    obtain ⟨M8, hmM8⟩ : ∃ z, z = zsI M b4 x1 0 := ⟨_, rfl⟩
    rw [← hmM8]
    have h := h M8 hmM8
    refine z_aload_n 0 dX7_way_17 rfl ?_
    obtain ⟨q9, h⟩ := h
    refine z_getR fl_X7_62 rfl dX7_way_18 q9 ?_
    refine z_iload_n 1 dX7_way_21 rfl ?_
    refine z_iconst dX7_way_22 (by decide) ?_
    obtain ⟨b10, eb10, h⟩ := h
    rw [eb10]
    obtain ⟨q11, h⟩ := h
    obtain ⟨q12, h⟩ := h
    obtain ⟨q13, h⟩ := h
    refine z_iast dX7_way_23 (n := (zK M8 b10).2) (Prod.ext q11 rfl) q12 q13 ?_
    obtain ⟨M14, hmM14⟩ : ∃ z, z = zsI M8 b10 x1 0 := ⟨_, rfl⟩
    rw [← hmM14]
    have h := h M14 hmM14
    obtain ⟨q15, h⟩ := h
    refine z_iinc 1 dX7_way_24 rfl (by decide) q15 rfl ?_
    refine z_goto (tgt := 2) dX7_way_27 (by decide) ?_
    exact z_sub [1, 0] rfl h
set_option maxRecDepth 20000 in
theorem vX7_way_32 {E : zE} {d : Nat} {X : zX} {P : Int → zM → Prop} {M : zM} (hr : (xh X).sig.returnType = (some .int)) (a0 : Nat) (x1 : Int)
    (h : ((x1 = 0 → ZX7_way E d X P 180 [(0, vR (some a0)), (1, vI x1), (2, vI 0), (3, vI 0)] [] M 0 0) ∧ (x1 ≠ 0 → ZX7_way E d X P 40 [(0, vR (some a0)), (1, vI 0), (2, vI 0)] [] M 0 0))) :
    ZX7_way E d X P 32 [(0, vR (some a0)), (1, vI x1)] [] M 0 0 := by
  refine z_iload_n 1 dX7_way_32 rfl ?_
  refine z_if_eq (tgt := 176) dX7_way_33 (by decide) (fun q1 => ?_) (fun q1 => ?_)
  · have h := h.1 q1
    refine z_iconst dX7_way_176 (by decide) ?_
    refine z_istore_n dX7_way_177 (by decide) rfl ?_
    refine z_iconst dX7_way_178 (by decide) ?_
    refine z_istore_n dX7_way_179 (by decide) rfl ?_
    exact z_sub [2, 3, 1, 0] rfl h
  · have h := h.2 q1
    refine z_iconst dX7_way_36 (by decide) ?_
    refine z_istore_n dX7_way_37 (by decide) rfl ?_
    refine z_iconst dX7_way_38 (by decide) ?_
    refine z_istore_n dX7_way_39 (by decide) rfl ?_
    exact z_sub [2, 1, 0] rfl h
set_option maxRecDepth 20000 in
theorem vX7_way_40 {E : zE} {d : Nat} {X : zX} {P : Int → zM → Prop} {M : zM} (hr : (xh X).sig.returnType = (some .int)) (a0 : Nat) (x1 : Int) (x2 : Int)
    (h : zK M a0 = (8, 25) ∧ (((zI M a0 8) ≤ x2 → ZX7_way E d X P 32 [(0, vR (some a0)), (1, vI x1)] [] M 0 0) ∧ (x2 < (zI M a0 8) → ZX7_way E d X P 50 [(0, vR (some a0)), (1, vI x1), (2, vI x2), (3, vI 0)] [] M 0 0))) :
    ZX7_way E d X P 40 [(0, vR (some a0)), (1, vI x1), (2, vI x2)] [] M 0 0 := by
  refine z_iload_n 2 dX7_way_40 rfl ?_
  refine z_aload_n 0 dX7_way_41 rfl ?_
  obtain ⟨q1, h⟩ := h
  refine z_getI fl_X7_74 dX7_way_42 q1 ?_
  refine z_icmp_ge (tgt := 173) dX7_way_45 (by decide) (fun q2 => ?_) (fun q2 => ?_)
  · have h := h.1 q2
    refine z_goto (tgt := 32) dX7_way_173 (by decide) ?_
    exact z_sub [0, 1] rfl h
  · have h := h.2 q2
    refine z_iconst dX7_way_48 (by decide) ?_
    refine z_istore_n dX7_way_49 (by decide) rfl ?_
    exact z_sub [1, 2, 3, 0] rfl h
set_option maxRecDepth 20000 in
theorem vX7_way_50 {E : zE} {d : Nat} {X : zX} {P : Int → zM → Prop} {M : zM} (hr : (xh X).sig.returnType = (some .int)) (a0 : Nat) (x1 : Int) (x2 : Int) (x3 : Int)
    (h : zK M a0 = (8, 25) ∧ (((zI M a0 8) ≤ x3 → zin (x2 + 1) ∧ ZX7_way E d X P 40 [(0, vR (some a0)), (1, vI x1), (2, vI (x2 + 1))] [] M 0 0) ∧ (x3 < (zI M a0 8) → zK M a0 = (8, 25) ∧ zin (40 * x2) ∧ zin ((40 * x2) + x3) ∧ ∃ b7, zR M a0 17 = some b7 ∧ (zK M b7).1 = 10 ∧ 0 ≤ ((40 * x2) + x3) ∧ ((40 * x2) + x3) < ((zK M b7).2 : Int) ∧ (((zI M b7 ((40 * x2) + x3)) ≠ 0 → zK M a0 = (8, 25) ∧ ∃ b13, zR M a0 20 = some b13 ∧ (zK M b13).1 = 9 ∧ 0 ≤ x3 ∧ x3 < ((zK M b13).2 : Int) ∧ zK M a0 = (8, 25) ∧ ∃ b18, zR M a0 9 = some b18 ∧ (zK M b18).1 = 9 ∧ 0 ≤ x3 ∧ x3 < ((zK M b18).2 : Int) ∧ zin ((zI M b13 x3) + (zI M b18 x3)) ∧ zK M a0 = (8, 25) ∧ (zK M b13).1 = 9 ∧ 0 ≤ x2 ∧ x2 < ((zK M b13).2 : Int) ∧ ((((zI M b13 x3) + (zI M b18 x3)) ≤ (zI M b13 x2) → zK M a0 = (8, 25) ∧ ∃ b29, zR M a0 21 = some b29 ∧ (zK M b29).1 = 9 ∧ 0 ≤ x2 ∧ x2 < ((zK M b29).2 : Int) ∧ zK M a0 = (8, 25) ∧ (zK M b18).1 = 9 ∧ 0 ≤ x2 ∧ x2 < ((zK M b18).2 : Int) ∧ zin ((zI M b29 x2) + (zI M b18 x2)) ∧ zK M a0 = (8, 25) ∧ (zK M b29).1 = 9 ∧ 0 ≤ x3 ∧ x3 < ((zK M b29).2 : Int) ∧ ((((zI M b29 x2) + (zI M b18 x2)) ≤ (zI M b29 x3) → zin (x3 + 1) ∧ ZX7_way E d X P 50 [(0, vR (some a0)), (1, vI x1), (2, vI x2), (3, vI (x3 + 1))] [] M 0 0) ∧ ((zI M b29 x3) < ((zI M b29 x2) + (zI M b18 x2)) → zK M a0 = (8, 25) ∧ zK M a0 = (8, 25) ∧ (zK M b29).1 = 9 ∧ 0 ≤ x2 ∧ x2 < ((zK M b29).2 : Int) ∧ zK M a0 = (8, 25) ∧ (zK M b18).1 = 9 ∧ 0 ≤ x2 ∧ x2 < ((zK M b18).2 : Int) ∧ zin ((zI M b29 x2) + (zI M b18 x2)) ∧ (zK M b29).1 = 9 ∧ 0 ≤ x3 ∧ x3 < ((zK M b29).2 : Int) ∧ ∀ M57, M57 = zsI M b29 x3 ((zI M b29 x2) + (zI M b18 x2)) → zin (x3 + 1) ∧ ZX7_way E d X P 50 [(0, vR (some a0)), (1, vI 1), (2, vI x2), (3, vI (x3 + 1))] [] M57 0 0))) ∧ ((zI M b13 x2) < ((zI M b13 x3) + (zI M b18 x3)) → zK M a0 = (8, 25) ∧ zK M a0 = (8, 25) ∧ (zK M b13).1 = 9 ∧ 0 ≤ x3 ∧ x3 < ((zK M b13).2 : Int) ∧ zK M a0 = (8, 25) ∧ (zK M b18).1 = 9 ∧ 0 ≤ x3 ∧ x3 < ((zK M b18).2 : Int) ∧ zin ((zI M b13 x3) + (zI M b18 x3)) ∧ (zK M b13).1 = 9 ∧ 0 ≤ x2 ∧ x2 < ((zK M b13).2 : Int) ∧ ∀ M72, M72 = zsI M b13 x2 ((zI M b13 x3) + (zI M b18 x3)) → zK M72 a0 = (8, 25) ∧ ∃ b74, zR M72 a0 21 = some b74 ∧ (zK M72 b74).1 = 9 ∧ 0 ≤ x2 ∧ x2 < ((zK M72 b74).2 : Int) ∧ zK M72 a0 = (8, 25) ∧ ∃ b79, zR M72 a0 9 = some b79 ∧ (zK M72 b79).1 = 9 ∧ 0 ≤ x2 ∧ x2 < ((zK M72 b79).2 : Int) ∧ zin ((zI M72 b74 x2) + (zI M72 b79 x2)) ∧ zK M72 a0 = (8, 25) ∧ (zK M72 b74).1 = 9 ∧ 0 ≤ x3 ∧ x3 < ((zK M72 b74).2 : Int) ∧ ((((zI M72 b74 x2) + (zI M72 b79 x2)) ≤ (zI M72 b74 x3) → zin (x3 + 1) ∧ ZX7_way E d X P 50 [(0, vR (some a0)), (1, vI 1), (2, vI x2), (3, vI (x3 + 1))] [] M72 0 0) ∧ ((zI M72 b74 x3) < ((zI M72 b74 x2) + (zI M72 b79 x2)) → zK M72 a0 = (8, 25) ∧ zK M72 a0 = (8, 25) ∧ (zK M72 b74).1 = 9 ∧ 0 ≤ x2 ∧ x2 < ((zK M72 b74).2 : Int) ∧ zK M72 a0 = (8, 25) ∧ (zK M72 b79).1 = 9 ∧ 0 ≤ x2 ∧ x2 < ((zK M72 b79).2 : Int) ∧ zin ((zI M72 b74 x2) + (zI M72 b79 x2)) ∧ (zK M72 b74).1 = 9 ∧ 0 ≤ x3 ∧ x3 < ((zK M72 b74).2 : Int) ∧ ∀ M103, M103 = zsI M72 b74 x3 ((zI M72 b74 x2) + (zI M72 b79 x2)) → zin (x3 + 1) ∧ ZX7_way E d X P 50 [(0, vR (some a0)), (1, vI 1), (2, vI x2), (3, vI (x3 + 1))] [] M103 0 0))))) ∧ ((zI M b7 ((40 * x2) + x3)) = 0 → zin (x3 + 1) ∧ ZX7_way E d X P 50 [(0, vR (some a0)), (1, vI x1), (2, vI x2), (3, vI (x3 + 1))] [] M 0 0))))) :
    ZX7_way E d X P 50 [(0, vR (some a0)), (1, vI x1), (2, vI x2), (3, vI x3)] [] M 0 0 := by
  refine z_iload_n 3 dX7_way_50 rfl ?_
  refine z_aload_n 0 dX7_way_51 rfl ?_
  obtain ⟨q1, h⟩ := h
  refine z_getI fl_X7_74 dX7_way_52 q1 ?_
  refine z_icmp_ge (tgt := 167) dX7_way_55 (by decide) (fun q2 => ?_) (fun q2 => ?_)
  · have h := h.1 q2
    obtain ⟨q3, h⟩ := h
    refine z_iinc 2 dX7_way_167 rfl (by decide) q3 rfl ?_
    refine z_goto (tgt := 40) dX7_way_170 (by decide) ?_
    exact z_sub [1, 2, 0] rfl h
  · have h := h.2 q2
    refine z_aload_n 0 dX7_way_58 rfl ?_
    obtain ⟨q4, h⟩ := h
    refine z_getR fl_X7_50 rfl dX7_way_59 q4 ?_
    refine z_bipush dX7_way_62 (by decide) ?_
    refine z_iload_n 2 dX7_way_64 rfl ?_
    obtain ⟨q5, h⟩ := h
    refine z_imul dX7_way_65 q5 ?_
    refine z_iload_n 3 dX7_way_66 rfl ?_
    obtain ⟨q6, h⟩ := h
    refine z_iadd dX7_way_67 q6 ?_
    obtain ⟨b7, eb7, h⟩ := h
    rw [eb7]
    obtain ⟨q8, h⟩ := h
    obtain ⟨q9, h⟩ := h
    obtain ⟨q10, h⟩ := h
    refine z_bald dX7_way_68 (n := (zK M b7).2) (Prod.ext q8 rfl) q9 q10 ?_
    refine z_if_ne (tgt := 75) dX7_way_69 (by decide) (fun q11 => ?_) (fun q11 => ?_)
    · have h := h.1 q11
      refine z_aload_n 0 dX7_way_75 rfl ?_
      obtain ⟨q12, h⟩ := h
      refine z_getR fl_X7_59 rfl dX7_way_76 q12 ?_
      refine z_iload_n 3 dX7_way_79 rfl ?_
      obtain ⟨b13, eb13, h⟩ := h
      rw [eb13]
      obtain ⟨q14, h⟩ := h
      obtain ⟨q15, h⟩ := h
      obtain ⟨q16, h⟩ := h
      refine z_iald dX7_way_80 (n := (zK M b13).2) (Prod.ext q14 rfl) q15 q16 ?_
      refine z_aload_n 0 dX7_way_81 rfl ?_
      obtain ⟨q17, h⟩ := h
      refine z_getR fl_X7_26 rfl dX7_way_82 q17 ?_
      refine z_iload_n 3 dX7_way_85 rfl ?_
      obtain ⟨b18, eb18, h⟩ := h
      rw [eb18]
      obtain ⟨q19, h⟩ := h
      obtain ⟨q20, h⟩ := h
      obtain ⟨q21, h⟩ := h
      refine z_iald dX7_way_86 (n := (zK M b18).2) (Prod.ext q19 rfl) q20 q21 ?_
      obtain ⟨q22, h⟩ := h
      refine z_iadd dX7_way_87 q22 ?_
      refine z_aload_n 0 dX7_way_88 rfl ?_
      obtain ⟨q23, h⟩ := h
      refine z_getR fl_X7_59 rfl dX7_way_89 q23 ?_
      rw [eb13]
      refine z_iload_n 2 dX7_way_92 rfl ?_
      obtain ⟨q24, h⟩ := h
      obtain ⟨q25, h⟩ := h
      obtain ⟨q26, h⟩ := h
      refine z_iald dX7_way_93 (n := (zK M b13).2) (Prod.ext q24 rfl) q25 q26 ?_
      refine z_icmp_le (tgt := 118) dX7_way_94 (by decide) (fun q27 => ?_) (fun q27 => ?_)
      · have h := h.1 q27
        refine z_aload_n 0 dX7_way_118 rfl ?_
        obtain ⟨q28, h⟩ := h
        refine z_getR fl_X7_62 rfl dX7_way_119 q28 ?_
        refine z_iload_n 2 dX7_way_122 rfl ?_
        obtain ⟨b29, eb29, h⟩ := h
        rw [eb29]
        obtain ⟨q30, h⟩ := h
        obtain ⟨q31, h⟩ := h
        obtain ⟨q32, h⟩ := h
        refine z_iald dX7_way_123 (n := (zK M b29).2) (Prod.ext q30 rfl) q31 q32 ?_
        refine z_aload_n 0 dX7_way_124 rfl ?_
        obtain ⟨q33, h⟩ := h
        refine z_getR fl_X7_26 rfl dX7_way_125 q33 ?_
        rw [eb18]
        refine z_iload_n 2 dX7_way_128 rfl ?_
        obtain ⟨q34, h⟩ := h
        obtain ⟨q35, h⟩ := h
        obtain ⟨q36, h⟩ := h
        refine z_iald dX7_way_129 (n := (zK M b18).2) (Prod.ext q34 rfl) q35 q36 ?_
        obtain ⟨q37, h⟩ := h
        refine z_iadd dX7_way_130 q37 ?_
        refine z_aload_n 0 dX7_way_131 rfl ?_
        obtain ⟨q38, h⟩ := h
        refine z_getR fl_X7_62 rfl dX7_way_132 q38 ?_
        rw [eb29]
        refine z_iload_n 3 dX7_way_135 rfl ?_
        obtain ⟨q39, h⟩ := h
        obtain ⟨q40, h⟩ := h
        obtain ⟨q41, h⟩ := h
        refine z_iald dX7_way_136 (n := (zK M b29).2) (Prod.ext q39 rfl) q40 q41 ?_
        refine z_icmp_le (tgt := 161) dX7_way_137 (by decide) (fun q42 => ?_) (fun q42 => ?_)
        · have h := h.1 q42
          obtain ⟨q43, h⟩ := h
          refine z_iinc 3 dX7_way_161 rfl (by decide) q43 rfl ?_
          refine z_goto (tgt := 50) dX7_way_164 (by decide) ?_
          exact z_sub [1, 2, 3, 0] rfl h
        · have h := h.2 q42
          refine z_aload_n 0 dX7_way_140 rfl ?_
          obtain ⟨q44, h⟩ := h
          refine z_getR fl_X7_62 rfl dX7_way_141 q44 ?_
          rw [eb29]
          refine z_iload_n 3 dX7_way_144 rfl ?_
          refine z_aload_n 0 dX7_way_145 rfl ?_
          obtain ⟨q45, h⟩ := h
          refine z_getR fl_X7_62 rfl dX7_way_146 q45 ?_
          rw [eb29]
          refine z_iload_n 2 dX7_way_149 rfl ?_
          obtain ⟨q46, h⟩ := h
          obtain ⟨q47, h⟩ := h
          obtain ⟨q48, h⟩ := h
          refine z_iald dX7_way_150 (n := (zK M b29).2) (Prod.ext q46 rfl) q47 q48 ?_
          refine z_aload_n 0 dX7_way_151 rfl ?_
          obtain ⟨q49, h⟩ := h
          refine z_getR fl_X7_26 rfl dX7_way_152 q49 ?_
          rw [eb18]
          refine z_iload_n 2 dX7_way_155 rfl ?_
          obtain ⟨q50, h⟩ := h
          obtain ⟨q51, h⟩ := h
          obtain ⟨q52, h⟩ := h
          refine z_iald dX7_way_156 (n := (zK M b18).2) (Prod.ext q50 rfl) q51 q52 ?_
          obtain ⟨q53, h⟩ := h
          refine z_iadd dX7_way_157 q53 ?_
          obtain ⟨q54, h⟩ := h
          obtain ⟨q55, h⟩ := h
          obtain ⟨q56, h⟩ := h
          refine z_iast dX7_way_158 (n := (zK M b29).2) (Prod.ext q54 rfl) q55 q56 ?_
          obtain ⟨M57, hmM57⟩ : ∃ z, z = zsI M b29 x3 ((zI M b29 x2) + (zI M b18 x2)) := ⟨_, rfl⟩
          rw [← hmM57]
          have h := h M57 hmM57
          refine z_iconst dX7_way_159 (by decide) ?_
          refine z_istore_n dX7_way_160 (by decide) rfl ?_
          obtain ⟨q58, h⟩ := h
          refine z_iinc 3 dX7_way_161 rfl (by decide) q58 rfl ?_
          refine z_goto (tgt := 50) dX7_way_164 (by decide) ?_
          exact z_sub [2, 1, 3, 0] rfl h
      · have h := h.2 q27
        refine z_aload_n 0 dX7_way_97 rfl ?_
        obtain ⟨q59, h⟩ := h
        refine z_getR fl_X7_59 rfl dX7_way_98 q59 ?_
        rw [eb13]
        refine z_iload_n 2 dX7_way_101 rfl ?_
        refine z_aload_n 0 dX7_way_102 rfl ?_
        obtain ⟨q60, h⟩ := h
        refine z_getR fl_X7_59 rfl dX7_way_103 q60 ?_
        rw [eb13]
        refine z_iload_n 3 dX7_way_106 rfl ?_
        obtain ⟨q61, h⟩ := h
        obtain ⟨q62, h⟩ := h
        obtain ⟨q63, h⟩ := h
        refine z_iald dX7_way_107 (n := (zK M b13).2) (Prod.ext q61 rfl) q62 q63 ?_
        refine z_aload_n 0 dX7_way_108 rfl ?_
        obtain ⟨q64, h⟩ := h
        refine z_getR fl_X7_26 rfl dX7_way_109 q64 ?_
        rw [eb18]
        refine z_iload_n 3 dX7_way_112 rfl ?_
        obtain ⟨q65, h⟩ := h
        obtain ⟨q66, h⟩ := h
        obtain ⟨q67, h⟩ := h
        refine z_iald dX7_way_113 (n := (zK M b18).2) (Prod.ext q65 rfl) q66 q67 ?_
        obtain ⟨q68, h⟩ := h
        refine z_iadd dX7_way_114 q68 ?_
        obtain ⟨q69, h⟩ := h
        obtain ⟨q70, h⟩ := h
        obtain ⟨q71, h⟩ := h
        refine z_iast dX7_way_115 (n := (zK M b13).2) (Prod.ext q69 rfl) q70 q71 ?_
        obtain ⟨M72, hmM72⟩ : ∃ z, z = zsI M b13 x2 ((zI M b13 x3) + (zI M b18 x3)) := ⟨_, rfl⟩
        rw [← hmM72]
        have h := h M72 hmM72
        refine z_iconst dX7_way_116 (by decide) ?_
        refine z_istore_n dX7_way_117 (by decide) rfl ?_
        refine z_aload_n 1 dX7_way_118 rfl ?_
        obtain ⟨q73, h⟩ := h
        refine z_getR fl_X7_62 rfl dX7_way_119 q73 ?_
        refine z_iload_n 2 dX7_way_122 rfl ?_
        obtain ⟨b74, eb74, h⟩ := h
        rw [eb74]
        obtain ⟨q75, h⟩ := h
        obtain ⟨q76, h⟩ := h
        obtain ⟨q77, h⟩ := h
        refine z_iald dX7_way_123 (n := (zK M72 b74).2) (Prod.ext q75 rfl) q76 q77 ?_
        refine z_aload_n 1 dX7_way_124 rfl ?_
        obtain ⟨q78, h⟩ := h
        refine z_getR fl_X7_26 rfl dX7_way_125 q78 ?_
        refine z_iload_n 2 dX7_way_128 rfl ?_
        obtain ⟨b79, eb79, h⟩ := h
        rw [eb79]
        obtain ⟨q80, h⟩ := h
        obtain ⟨q81, h⟩ := h
        obtain ⟨q82, h⟩ := h
        refine z_iald dX7_way_129 (n := (zK M72 b79).2) (Prod.ext q80 rfl) q81 q82 ?_
        obtain ⟨q83, h⟩ := h
        refine z_iadd dX7_way_130 q83 ?_
        refine z_aload_n 1 dX7_way_131 rfl ?_
        obtain ⟨q84, h⟩ := h
        refine z_getR fl_X7_62 rfl dX7_way_132 q84 ?_
        rw [eb74]
        refine z_iload_n 3 dX7_way_135 rfl ?_
        obtain ⟨q85, h⟩ := h
        obtain ⟨q86, h⟩ := h
        obtain ⟨q87, h⟩ := h
        refine z_iald dX7_way_136 (n := (zK M72 b74).2) (Prod.ext q85 rfl) q86 q87 ?_
        refine z_icmp_le (tgt := 161) dX7_way_137 (by decide) (fun q88 => ?_) (fun q88 => ?_)
        · have h := h.1 q88
          obtain ⟨q89, h⟩ := h
          refine z_iinc 3 dX7_way_161 rfl (by decide) q89 rfl ?_
          refine z_goto (tgt := 50) dX7_way_164 (by decide) ?_
          exact z_sub [2, 1, 3, 0] rfl h
        · have h := h.2 q88
          refine z_aload_n 1 dX7_way_140 rfl ?_
          obtain ⟨q90, h⟩ := h
          refine z_getR fl_X7_62 rfl dX7_way_141 q90 ?_
          rw [eb74]
          refine z_iload_n 3 dX7_way_144 rfl ?_
          refine z_aload_n 1 dX7_way_145 rfl ?_
          obtain ⟨q91, h⟩ := h
          refine z_getR fl_X7_62 rfl dX7_way_146 q91 ?_
          rw [eb74]
          refine z_iload_n 2 dX7_way_149 rfl ?_
          obtain ⟨q92, h⟩ := h
          obtain ⟨q93, h⟩ := h
          obtain ⟨q94, h⟩ := h
          refine z_iald dX7_way_150 (n := (zK M72 b74).2) (Prod.ext q92 rfl) q93 q94 ?_
          refine z_aload_n 1 dX7_way_151 rfl ?_
          obtain ⟨q95, h⟩ := h
          refine z_getR fl_X7_26 rfl dX7_way_152 q95 ?_
          rw [eb79]
          refine z_iload_n 2 dX7_way_155 rfl ?_
          obtain ⟨q96, h⟩ := h
          obtain ⟨q97, h⟩ := h
          obtain ⟨q98, h⟩ := h
          refine z_iald dX7_way_156 (n := (zK M72 b79).2) (Prod.ext q96 rfl) q97 q98 ?_
          obtain ⟨q99, h⟩ := h
          refine z_iadd dX7_way_157 q99 ?_
          obtain ⟨q100, h⟩ := h
          obtain ⟨q101, h⟩ := h
          obtain ⟨q102, h⟩ := h
          refine z_iast dX7_way_158 (n := (zK M72 b74).2) (Prod.ext q100 rfl) q101 q102 ?_
          obtain ⟨M103, hmM103⟩ : ∃ z, z = zsI M72 b74 x3 ((zI M72 b74 x2) + (zI M72 b79 x2)) := ⟨_, rfl⟩
          rw [← hmM103]
          have h := h M103 hmM103
          refine z_iconst dX7_way_159 (by decide) ?_
          refine z_istore_n dX7_way_160 (by decide) rfl ?_
          obtain ⟨q104, h⟩ := h
          refine z_iinc 3 dX7_way_161 rfl (by decide) q104 rfl ?_
          refine z_goto (tgt := 50) dX7_way_164 (by decide) ?_
          exact z_sub [2, 1, 3, 0] rfl h
    · have h := h.2 q11
      refine z_goto (tgt := 161) dX7_way_72 (by decide) ?_
      obtain ⟨q105, h⟩ := h
      refine z_iinc 3 dX7_way_161 rfl (by decide) q105 rfl ?_
      refine z_goto (tgt := 50) dX7_way_164 (by decide) ?_
      exact z_sub [1, 2, 3, 0] rfl h
set_option maxRecDepth 20000 in
theorem vX7_way_180 {E : zE} {d : Nat} {X : zX} {P : Int → zM → Prop} {M : zM} (hr : (xh X).sig.returnType = (some .int)) (a0 : Nat) (x1 : Int) (x2 : Int) (x3 : Int)
    (h : zK M a0 = (8, 25) ∧ (((zI M a0 8) ≤ x3 → P x2 M) ∧ (x3 < (zI M a0 8) → zK M a0 = (8, 25) ∧ ∃ b4, zR M a0 20 = some b4 ∧ (zK M b4).1 = 9 ∧ 0 ≤ x3 ∧ x3 < ((zK M b4).2 : Int) ∧ zK M a0 = (8, 25) ∧ ∃ b9, zR M a0 9 = some b9 ∧ (zK M b9).1 = 9 ∧ 0 ≤ x3 ∧ x3 < ((zK M b9).2 : Int) ∧ zin ((zI M b4 x3) + (zI M b9 x3)) ∧ zK M a0 = (8, 25) ∧ ∃ b15, zR M a0 21 = some b15 ∧ (zK M b15).1 = 9 ∧ 0 ≤ x3 ∧ x3 < ((zK M b15).2 : Int) ∧ zin (((zI M b4 x3) + (zI M b9 x3)) + (zI M b15 x3)) ∧ (((((zI M b4 x3) + (zI M b9 x3)) + (zI M b15 x3)) ≤ x2 → zin (x3 + 1) ∧ ZX7_way E d X P 180 [(0, vR (some a0)), (1, vI x1), (2, vI x2), (3, vI (x3 + 1))] [] M 0 0) ∧ (x2 < (((zI M b4 x3) + (zI M b9 x3)) + (zI M b15 x3)) → zK M a0 = (8, 25) ∧ (zK M b4).1 = 9 ∧ 0 ≤ x3 ∧ x3 < ((zK M b4).2 : Int) ∧ zK M a0 = (8, 25) ∧ (zK M b9).1 = 9 ∧ 0 ≤ x3 ∧ x3 < ((zK M b9).2 : Int) ∧ zin ((zI M b4 x3) + (zI M b9 x3)) ∧ zK M a0 = (8, 25) ∧ (zK M b15).1 = 9 ∧ 0 ≤ x3 ∧ x3 < ((zK M b15).2 : Int) ∧ zin (((zI M b4 x3) + (zI M b9 x3)) + (zI M b15 x3)) ∧ zin (x3 + 1) ∧ ZX7_way E d X P 180 [(0, vR (some a0)), (1, vI x1), (2, vI (((zI M b4 x3) + (zI M b9 x3)) + (zI M b15 x3))), (3, vI (x3 + 1))] [] M 0 0))))) :
    ZX7_way E d X P 180 [(0, vR (some a0)), (1, vI x1), (2, vI x2), (3, vI x3)] [] M 0 0 := by
  refine z_iload_n 3 dX7_way_180 rfl ?_
  refine z_aload_n 0 dX7_way_181 rfl ?_
  obtain ⟨q1, h⟩ := h
  refine z_getI fl_X7_74 dX7_way_182 q1 ?_
  refine z_icmp_ge (tgt := 239) dX7_way_185 (by decide) (fun q2 => ?_) (fun q2 => ?_)
  · have h := h.1 q2
    refine z_iload_n 2 dX7_way_239 rfl ?_
    exact z_iret hr dX7_way_240 (Nat.le_of_ble_eq_true rfl) (Nat.le_of_ble_eq_true rfl) ⟨_, rfl, h⟩
  · have h := h.2 q2
    refine z_aload_n 0 dX7_way_188 rfl ?_
    obtain ⟨q3, h⟩ := h
    refine z_getR fl_X7_59 rfl dX7_way_189 q3 ?_
    refine z_iload_n 3 dX7_way_192 rfl ?_
    obtain ⟨b4, eb4, h⟩ := h
    rw [eb4]
    obtain ⟨q5, h⟩ := h
    obtain ⟨q6, h⟩ := h
    obtain ⟨q7, h⟩ := h
    refine z_iald dX7_way_193 (n := (zK M b4).2) (Prod.ext q5 rfl) q6 q7 ?_
    refine z_aload_n 0 dX7_way_194 rfl ?_
    obtain ⟨q8, h⟩ := h
    refine z_getR fl_X7_26 rfl dX7_way_195 q8 ?_
    refine z_iload_n 3 dX7_way_198 rfl ?_
    obtain ⟨b9, eb9, h⟩ := h
    rw [eb9]
    obtain ⟨q10, h⟩ := h
    obtain ⟨q11, h⟩ := h
    obtain ⟨q12, h⟩ := h
    refine z_iald dX7_way_199 (n := (zK M b9).2) (Prod.ext q10 rfl) q11 q12 ?_
    obtain ⟨q13, h⟩ := h
    refine z_iadd dX7_way_200 q13 ?_
    refine z_aload_n 0 dX7_way_201 rfl ?_
    obtain ⟨q14, h⟩ := h
    refine z_getR fl_X7_62 rfl dX7_way_202 q14 ?_
    refine z_iload_n 3 dX7_way_205 rfl ?_
    obtain ⟨b15, eb15, h⟩ := h
    rw [eb15]
    obtain ⟨q16, h⟩ := h
    obtain ⟨q17, h⟩ := h
    obtain ⟨q18, h⟩ := h
    refine z_iald dX7_way_206 (n := (zK M b15).2) (Prod.ext q16 rfl) q17 q18 ?_
    obtain ⟨q19, h⟩ := h
    refine z_iadd dX7_way_207 q19 ?_
    refine z_iload_n 2 dX7_way_208 rfl ?_
    refine z_icmp_le (tgt := 233) dX7_way_209 (by decide) (fun q20 => ?_) (fun q20 => ?_)
    · have h := h.1 q20
      obtain ⟨q21, h⟩ := h
      refine z_iinc 3 dX7_way_233 rfl (by decide) q21 rfl ?_
      refine z_goto (tgt := 180) dX7_way_236 (by decide) ?_
      exact z_sub [1, 2, 3, 0] rfl h
    · have h := h.2 q20
      refine z_aload_n 0 dX7_way_212 rfl ?_
      obtain ⟨q22, h⟩ := h
      refine z_getR fl_X7_59 rfl dX7_way_213 q22 ?_
      rw [eb4]
      refine z_iload_n 3 dX7_way_216 rfl ?_
      obtain ⟨q23, h⟩ := h
      obtain ⟨q24, h⟩ := h
      obtain ⟨q25, h⟩ := h
      refine z_iald dX7_way_217 (n := (zK M b4).2) (Prod.ext q23 rfl) q24 q25 ?_
      refine z_aload_n 0 dX7_way_218 rfl ?_
      obtain ⟨q26, h⟩ := h
      refine z_getR fl_X7_26 rfl dX7_way_219 q26 ?_
      rw [eb9]
      refine z_iload_n 3 dX7_way_222 rfl ?_
      obtain ⟨q27, h⟩ := h
      obtain ⟨q28, h⟩ := h
      obtain ⟨q29, h⟩ := h
      refine z_iald dX7_way_223 (n := (zK M b9).2) (Prod.ext q27 rfl) q28 q29 ?_
      obtain ⟨q30, h⟩ := h
      refine z_iadd dX7_way_224 q30 ?_
      refine z_aload_n 0 dX7_way_225 rfl ?_
      obtain ⟨q31, h⟩ := h
      refine z_getR fl_X7_62 rfl dX7_way_226 q31 ?_
      rw [eb15]
      refine z_iload_n 3 dX7_way_229 rfl ?_
      obtain ⟨q32, h⟩ := h
      obtain ⟨q33, h⟩ := h
      obtain ⟨q34, h⟩ := h
      refine z_iald dX7_way_230 (n := (zK M b15).2) (Prod.ext q32 rfl) q33 q34 ?_
      obtain ⟨q35, h⟩ := h
      refine z_iadd dX7_way_231 q35 ?_
      refine z_istore_n dX7_way_232 (by decide) rfl ?_
      obtain ⟨q36, h⟩ := h
      refine z_iinc 3 dX7_way_233 rfl (by decide) q36 rfl ?_
      refine z_goto (tgt := 180) dX7_way_236 (by decide) ?_
      exact z_sub [2, 3, 1, 0] rfl h
theorem sX7_way {E : zE} {d : Nat} {P : Int → zM → Prop} {M : zM} (a0 : Nat) (h : ∀ X : zX, (xh X).sig.returnType = (some .int) → ZX7_way E d X P 0 [(0, vR (some a0))] [] M 0 0) : zCi E mX7_way (d + 1) 0 0 [vR (some a0)] M P := z_start (f := mX7_way) rfl (Nat.le_of_ble_eq_true rfl) rfl h
abbrev ZX7_slack (E : zE) (d : Nat) (X : zX) (P : Int → zM → Prop) (pc : Nat) (Lc : List (Nat × zV)) (S : List zV) (M : zM) (ce sl : Nat) : Prop := zZ cX7_slack RX7 "slack" 3 E (zrm (d + 1) 0 0) X (zQ E (zPi P) X 0 0) pc Lc S M ce sl
set_option maxRecDepth 20000 in
theorem vX7_slack_0 {E : zE} {d : Nat} {X : zX} {P : Int → zM → Prop} {M : zM} (hr : (xh X).sig.returnType = (some .int)) (a0 : Nat) (x1 : Int) (x2 : Int)
    (h : zK M a0 = (8, 25) ∧ ∃ b2, zR M a0 20 = some b2 ∧ (zK M b2).1 = 9 ∧ 0 ≤ x2 ∧ x2 < ((zK M b2).2 : Int) ∧ zin (x1 - (zI M b2 x2)) ∧ zK M a0 = (8, 25) ∧ ∃ b8, zR M a0 9 = some b8 ∧ (zK M b8).1 = 9 ∧ 0 ≤ x2 ∧ x2 < ((zK M b8).2 : Int) ∧ zin ((x1 - (zI M b2 x2)) - (zI M b8 x2)) ∧ zK M a0 = (8, 25) ∧ ∃ b14, zR M a0 21 = some b14 ∧ (zK M b14).1 = 9 ∧ 0 ≤ x2 ∧ x2 < ((zK M b14).2 : Int) ∧ zin (((x1 - (zI M b2 x2)) - (zI M b8 x2)) - (zI M b14 x2)) ∧ P (((x1 - (zI M b2 x2)) - (zI M b8 x2)) - (zI M b14 x2)) M) :
    ZX7_slack E d X P 0 [(0, vR (some a0)), (1, vI x1), (2, vI x2)] [] M 0 0 := by
  refine z_iload_n 1 dX7_slack_0 rfl ?_
  refine z_aload_n 0 dX7_slack_1 rfl ?_
  obtain ⟨q1, h⟩ := h
  refine z_getR fl_X7_59 rfl dX7_slack_2 q1 ?_
  refine z_iload_n 2 dX7_slack_5 rfl ?_
  obtain ⟨b2, eb2, h⟩ := h
  rw [eb2]
  obtain ⟨q3, h⟩ := h
  obtain ⟨q4, h⟩ := h
  obtain ⟨q5, h⟩ := h
  refine z_iald dX7_slack_6 (n := (zK M b2).2) (Prod.ext q3 rfl) q4 q5 ?_
  obtain ⟨q6, h⟩ := h
  refine z_isub dX7_slack_7 q6 ?_
  refine z_aload_n 0 dX7_slack_8 rfl ?_
  obtain ⟨q7, h⟩ := h
  refine z_getR fl_X7_26 rfl dX7_slack_9 q7 ?_
  refine z_iload_n 2 dX7_slack_12 rfl ?_
  obtain ⟨b8, eb8, h⟩ := h
  rw [eb8]
  obtain ⟨q9, h⟩ := h
  obtain ⟨q10, h⟩ := h
  obtain ⟨q11, h⟩ := h
  refine z_iald dX7_slack_13 (n := (zK M b8).2) (Prod.ext q9 rfl) q10 q11 ?_
  obtain ⟨q12, h⟩ := h
  refine z_isub dX7_slack_14 q12 ?_
  refine z_aload_n 0 dX7_slack_15 rfl ?_
  obtain ⟨q13, h⟩ := h
  refine z_getR fl_X7_62 rfl dX7_slack_16 q13 ?_
  refine z_iload_n 2 dX7_slack_19 rfl ?_
  obtain ⟨b14, eb14, h⟩ := h
  rw [eb14]
  obtain ⟨q15, h⟩ := h
  obtain ⟨q16, h⟩ := h
  obtain ⟨q17, h⟩ := h
  refine z_iald dX7_slack_20 (n := (zK M b14).2) (Prod.ext q15 rfl) q16 q17 ?_
  obtain ⟨q18, h⟩ := h
  refine z_isub dX7_slack_21 q18 ?_
  exact z_iret hr dX7_slack_22 (Nat.le_of_ble_eq_true rfl) (Nat.le_of_ble_eq_true rfl) ⟨_, rfl, h⟩
theorem sX7_slack {E : zE} {d : Nat} {P : Int → zM → Prop} {M : zM} (a0 : Nat) (x1 : Int) (x2 : Int) (h : ∀ X : zX, (xh X).sig.returnType = (some .int) → ZX7_slack E d X P 0 [(0, vR (some a0)), (1, vI x1), (2, vI x2)] [] M 0 0) : zCi E mX7_slack (d + 1) 0 0 [vR (some a0), vI x1, vI x2] M P := z_start (f := mX7_slack) rfl (Nat.le_of_ble_eq_true rfl) rfl h
abbrev ZX7_bound (E : zE) (d : Nat) (X : zX) (P : Int → zM → Prop) (pc : Nat) (Lc : List (Nat × zV)) (S : List zV) (M : zM) (ce sl : Nat) : Prop := zZ cX7_bound RX7 "bound" 6 E (zrm (d + 1) 0 0) X (zQ E (zPi P) X 0 0) pc Lc S M ce sl
set_option maxRecDepth 20000 in
theorem vX7_bound_0 {E : zE} {d : Nat} {X : zX} {P : Int → zM → Prop} {M : zM} (hr : (xh X).sig.returnType = (some .int)) (a0 : Nat)
    (h : zK M a0 = (8, 25) ∧ ∃ P1 : Int → zM → Prop, zCi E mX7_way d 0 0 [vR (some a0)] M P1 ∧ ∀ r4 M3, P1 r4 M3 → ZX7_bound E d X P 7 [(0, vR (some a0)), (1, vI r4), (2, vI 0)] [] M3 0 0) :
    ZX7_bound E d X P 0 [(0, vR (some a0))] [] M 0 0 := by
  refine z_aload_n 0 dX7_bound_0 rfl ?_
  obtain ⟨q6, h⟩ := h
  obtain ⟨P1, c2, h⟩ := h
  refine z_Vi (as := []) mv_X7_132 dX7_bound_1 c2 q6 rfl rfl (Nat.le_of_ble_eq_true rfl) (Nat.le_of_ble_eq_true rfl) (Nat.le_of_ble_eq_true rfl) (fun r4 M3 p5 => ?_)
  have h := h r4 M3 p5
  refine z_istore_n dX7_bound_4 (by decide) rfl ?_
  refine z_iconst dX7_bound_5 (by decide) ?_
  refine z_istore_n dX7_bound_6 (by decide) rfl ?_
  exact z_sub [2, 1, 0] rfl h
set_option maxRecDepth 20000 in
theorem vX7_bound_7 {E : zE} {d : Nat} {X : zX} {P : Int → zM → Prop} {M : zM} (hr : (xh X).sig.returnType = (some .int)) (a0 : Nat) (x1 : Int) (x2 : Int)
    (h : zK M a0 = (8, 25) ∧ zin (8 + (zI M a0 1)) ∧ (((8 + (zI M a0 1)) ≤ x2 → P x1 M) ∧ (x2 < (8 + (zI M a0 1)) → ZX7_bound E d X P 23 [(0, vR (some a0)), (1, vI x1), (2, vI x2), (3, vI 0), (4, vI 0)] [] M 0 0))) :
    ZX7_bound E d X P 7 [(0, vR (some a0)), (1, vI x1), (2, vI x2)] [] M 0 0 := by
  refine z_iload_n 2 dX7_bound_7 rfl ?_
  refine z_bipush dX7_bound_8 (by decide) ?_
  refine z_aload_n 0 dX7_bound_10 rfl ?_
  obtain ⟨q1, h⟩ := h
  refine z_getI fl_X7_82 dX7_bound_11 q1 ?_
  obtain ⟨q2, h⟩ := h
  refine z_iadd dX7_bound_14 q2 ?_
  refine z_icmp_ge (tgt := 224) dX7_bound_15 (by decide) (fun q3 => ?_) (fun q3 => ?_)
  · have h := h.1 q3
    refine z_iload_n 1 dX7_bound_224 rfl ?_
    exact z_iret hr dX7_bound_225 (Nat.le_of_ble_eq_true rfl) (Nat.le_of_ble_eq_true rfl) ⟨_, rfl, h⟩
  · have h := h.2 q3
    refine z_iconst dX7_bound_18 (by decide) ?_
    refine z_istore_n dX7_bound_19 (by decide) rfl ?_
    refine z_iconst dX7_bound_20 (by decide) ?_
    refine z_istore dX7_bound_21 (by decide) rfl ?_
    exact z_sub [2, 3, 4, 1, 0] rfl h
set_option maxRecDepth 20000 in
theorem vX7_bound_23 {E : zE} {d : Nat} {X : zX} {P : Int → zM → Prop} {M : zM} (hr : (xh X).sig.returnType = (some .int)) (a0 : Nat) (x1 : Int) (x2 : Int) (x3 : Int) (x4 : Int)
    (h : zK M a0 = (8, 25) ∧ (((zI M a0 8) ≤ x4 → ZX7_bound E d X P 142 [(0, vR (some a0)), (1, vI x1), (2, vI x2), (3, vI x3), (4, vI x4)] [] M 0 0) ∧ (x4 < (zI M a0 8) → ((4 ≤ x2 → ((8 ≤ x2 → zK M a0 = (8, 25) ∧ ∃ b6, zR M a0 12 = some b6 ∧ (zK M b6).1 = 9 ∧ 0 ≤ x4 ∧ x4 < ((zK M b6).2 : Int) ∧ zin (x2 - 8) ∧ (((zI M b6 x4) ≠ (x2 - 8) → ZX7_bound E d X P 104 [(0, vR (some a0)), (1, vI x1), (2, vI x2), (3, vI x3), (4, vI x4), (5, vI 0)] [] M 0 0) ∧ ((zI M b6 x4) = (x2 - 8) → ZX7_bound E d X P 104 [(0, vR (some a0)), (1, vI x1), (2, vI x2), (3, vI x3), (4, vI x4), (5, vI 1)] [] M 0 0))) ∧ (x2 < 8 → zK M a0 = (8, 25) ∧ ∃ b13, zR M a0 14 = some b13 ∧ (zK M b13).1 = 9 ∧ 0 ≤ x4 ∧ x4 < ((zK M b13).2 : Int) ∧ zin (x2 - 4) ∧ (((zI M b13 x4) ≠ (x2 - 4) → ZX7_bound E d X P 104 [(0, vR (some a0)), (1, vI x1), (2, vI x2), (3, vI x3), (4, vI x4), (5, vI 0)] [] M 0 0) ∧ ((zI M b13 x4) = (x2 - 4) → ZX7_bound E d X P 104 [(0, vR (some a0)), (1, vI x1), (2, vI x2), (3, vI x3), (4, vI x4), (5, vI 1)] [] M 0 0))))) ∧ (x2 < 4 → zK M a0 = (8, 25) ∧ ∃ b20, zR M a0 10 = some b20 ∧ (zK M b20).1 = 9 ∧ 0 ≤ x4 ∧ x4 < ((zK M b20).2 : Int) ∧ (((zI M b20 x4) ≠ x2 → ZX7_bound E d X P 104 [(0, vR (some a0)), (1, vI x1), (2, vI x2), (3, vI x3), (4, vI x4), (5, vI 0)] [] M 0 0) ∧ ((zI M b20 x4) = x2 → ZX7_bound E d X P 104 [(0, vR (some a0)), (1, vI x1), (2, vI x2), (3, vI x3), (4, vI x4), (5, vI 1)] [] M 0 0))))))) :
    ZX7_bound E d X P 23 [(0, vR (some a0)), (1, vI x1), (2, vI x2), (3, vI x3), (4, vI x4)] [] M 0 0 := by
  refine z_iload 4 dX7_bound_23 rfl ?_
  refine z_aload_n 0 dX7_bound_25 rfl ?_
  obtain ⟨q1, h⟩ := h
  refine z_getI fl_X7_74 dX7_bound_26 q1 ?_
  refine z_icmp_ge (tgt := 142) dX7_bound_29 (by decide) (fun q2 => ?_) (fun q2 => ?_)
  · have h := h.1 q2
    exact z_sub [0, 1, 2, 3, 4] rfl h
  · have h := h.2 q2
    refine z_iload_n 2 dX7_bound_32 rfl ?_
    refine z_iconst dX7_bound_33 (by decide) ?_
    refine z_icmp_ge (tgt := 56) dX7_bound_34 (by decide) (fun q3 => ?_) (fun q3 => ?_)
    · have h := h.1 q3
      refine z_iload_n 2 dX7_bound_56 rfl ?_
      refine z_bipush dX7_bound_57 (by decide) ?_
      refine z_icmp_ge (tgt := 83) dX7_bound_59 (by decide) (fun q4 => ?_) (fun q4 => ?_)
      · have h := h.1 q4
        refine z_aload_n 0 dX7_bound_83 rfl ?_
        obtain ⟨q5, h⟩ := h
        refine z_getR fl_X7_35 rfl dX7_bound_84 q5 ?_
        refine z_iload 4 dX7_bound_87 rfl ?_
        obtain ⟨b6, eb6, h⟩ := h
        rw [eb6]
        obtain ⟨q7, h⟩ := h
        obtain ⟨q8, h⟩ := h
        obtain ⟨q9, h⟩ := h
        refine z_iald dX7_bound_89 (n := (zK M b6).2) (Prod.ext q7 rfl) q8 q9 ?_
        refine z_iload_n 2 dX7_bound_90 rfl ?_
        refine z_bipush dX7_bound_91 (by decide) ?_
        obtain ⟨q10, h⟩ := h
        refine z_isub dX7_bound_93 q10 ?_
        refine z_icmp_ne (tgt := 101) dX7_bound_94 (by decide) (fun q11 => ?_) (fun q11 => ?_)
        · have h := h.1 q11
          refine z_iconst dX7_bound_101 (by decide) ?_
          refine z_istore dX7_bound_102 (by decide) rfl ?_
          exact z_sub [1, 2, 3, 4, 5, 0] rfl h
        · have h := h.2 q11
          refine z_iconst dX7_bound_97 (by decide) ?_
          refine z_goto (tgt := 102) dX7_bound_98 (by decide) ?_
          refine z_istore dX7_bound_102 (by decide) rfl ?_
          exact z_sub [1, 2, 3, 4, 5, 0] rfl h
      · have h := h.2 q4
        refine z_aload_n 0 dX7_bound_62 rfl ?_
        obtain ⟨q12, h⟩ := h
        refine z_getR fl_X7_41 rfl dX7_bound_63 q12 ?_
        refine z_iload 4 dX7_bound_66 rfl ?_
        obtain ⟨b13, eb13, h⟩ := h
        rw [eb13]
        obtain ⟨q14, h⟩ := h
        obtain ⟨q15, h⟩ := h
        obtain ⟨q16, h⟩ := h
        refine z_iald dX7_bound_68 (n := (zK M b13).2) (Prod.ext q14 rfl) q15 q16 ?_
        refine z_iload_n 2 dX7_bound_69 rfl ?_
        refine z_iconst dX7_bound_70 (by decide) ?_
        obtain ⟨q17, h⟩ := h
        refine z_isub dX7_bound_71 q17 ?_
        refine z_icmp_ne (tgt := 79) dX7_bound_72 (by decide) (fun q18 => ?_) (fun q18 => ?_)
        · have h := h.1 q18
          refine z_iconst dX7_bound_79 (by decide) ?_
          refine z_goto (tgt := 102) dX7_bound_80 (by decide) ?_
          refine z_istore dX7_bound_102 (by decide) rfl ?_
          exact z_sub [1, 2, 3, 4, 5, 0] rfl h
        · have h := h.2 q18
          refine z_iconst dX7_bound_75 (by decide) ?_
          refine z_goto (tgt := 102) dX7_bound_76 (by decide) ?_
          refine z_istore dX7_bound_102 (by decide) rfl ?_
          exact z_sub [1, 2, 3, 4, 5, 0] rfl h
    · have h := h.2 q3
      refine z_aload_n 0 dX7_bound_37 rfl ?_
      obtain ⟨q19, h⟩ := h
      refine z_getR fl_X7_29 rfl dX7_bound_38 q19 ?_
      refine z_iload 4 dX7_bound_41 rfl ?_
      obtain ⟨b20, eb20, h⟩ := h
      rw [eb20]
      obtain ⟨q21, h⟩ := h
      obtain ⟨q22, h⟩ := h
      obtain ⟨q23, h⟩ := h
      refine z_iald dX7_bound_43 (n := (zK M b20).2) (Prod.ext q21 rfl) q22 q23 ?_
      refine z_iload_n 2 dX7_bound_44 rfl ?_
      refine z_icmp_ne (tgt := 52) dX7_bound_45 (by decide) (fun q24 => ?_) (fun q24 => ?_)
      · have h := h.1 q24
        refine z_iconst dX7_bound_52 (by decide) ?_
        refine z_goto (tgt := 102) dX7_bound_53 (by decide) ?_
        refine z_istore dX7_bound_102 (by decide) rfl ?_
        exact z_sub [1, 2, 3, 4, 5, 0] rfl h
      · have h := h.2 q24
        refine z_iconst dX7_bound_48 (by decide) ?_
        refine z_goto (tgt := 102) dX7_bound_49 (by decide) ?_
        refine z_istore dX7_bound_102 (by decide) rfl ?_
        exact z_sub [1, 2, 3, 4, 5, 0] rfl h
set_option maxRecDepth 20000 in
theorem vX7_bound_104 {E : zE} {d : Nat} {X : zX} {P : Int → zM → Prop} {M : zM} (hr : (xh X).sig.returnType = (some .int)) (a0 : Nat) (x1 : Int) (x2 : Int) (x3 : Int) (x4 : Int) (x5 : Int)
    (h : ((x5 = 0 → zin (x4 + 1) ∧ ZX7_bound E d X P 23 [(0, vR (some a0)), (1, vI x1), (2, vI x2), (3, vI x3), (4, vI (x4 + 1))] [] M 0 0) ∧ (x5 ≠ 0 → zK M a0 = (8, 25) ∧ ∃ b4, zR M a0 9 = some b4 ∧ (zK M b4).1 = 9 ∧ 0 ≤ x4 ∧ x4 < ((zK M b4).2 : Int) ∧ ((4 ≤ x2 → zin ((zI M b4 x4) * 1) ∧ zin (x3 + ((zI M b4 x4) * 1)) ∧ zin (x4 + 1) ∧ ZX7_bound E d X P 23 [(0, vR (some a0)), (1, vI x1), (2, vI x2), (3, vI (x3 + ((zI M b4 x4) * 1))), (4, vI (x4 + 1))] [] M 0 0) ∧ (x2 < 4 → zK M a0 = (8, 25) ∧ ∃ b13, zR M a0 11 = some b13 ∧ (zK M b13).1 = 9 ∧ 0 ≤ x4 ∧ x4 < ((zK M b13).2 : Int) ∧ zin ((zI M b4 x4) * (zI M b13 x4)) ∧ zin (x3 + ((zI M b4 x4) * (zI M b13 x4))) ∧ zin (x4 + 1) ∧ ZX7_bound E d X P 23 [(0, vR (some a0)), (1, vI x1), (2, vI x2), (3, vI (x3 + ((zI M b4 x4) * (zI M b13 x4)))), (4, vI (x4 + 1))] [] M 0 0))))) :
    ZX7_bound E d X P 104 [(0, vR (some a0)), (1, vI x1), (2, vI x2), (3, vI x3), (4, vI x4), (5, vI x5)] [] M 0 0 := by
  refine z_iload 5 dX7_bound_104 rfl ?_
  refine z_if_eq (tgt := 136) dX7_bound_106 (by decide) (fun q1 => ?_) (fun q1 => ?_)
  · have h := h.1 q1
    obtain ⟨q2, h⟩ := h
    refine z_iinc 4 dX7_bound_136 rfl (by decide) q2 rfl ?_
    refine z_goto (tgt := 23) dX7_bound_139 (by decide) ?_
    exact z_sub [1, 2, 3, 4, 0] rfl h
  · have h := h.2 q1
    refine z_iload_n 3 dX7_bound_109 rfl ?_
    refine z_aload_n 0 dX7_bound_110 rfl ?_
    obtain ⟨q3, h⟩ := h
    refine z_getR fl_X7_26 rfl dX7_bound_111 q3 ?_
    refine z_iload 4 dX7_bound_114 rfl ?_
    obtain ⟨b4, eb4, h⟩ := h
    rw [eb4]
    obtain ⟨q5, h⟩ := h
    obtain ⟨q6, h⟩ := h
    obtain ⟨q7, h⟩ := h
    refine z_iald dX7_bound_116 (n := (zK M b4).2) (Prod.ext q5 rfl) q6 q7 ?_
    refine z_iload_n 2 dX7_bound_117 rfl ?_
    refine z_iconst dX7_bound_118 (by decide) ?_
    refine z_icmp_ge (tgt := 132) dX7_bound_119 (by decide) (fun q8 => ?_) (fun q8 => ?_)
    · have h := h.1 q8
      refine z_iconst dX7_bound_132 (by decide) ?_
      obtain ⟨q9, h⟩ := h
      refine z_imul dX7_bound_133 q9 ?_
      obtain ⟨q10, h⟩ := h
      refine z_iadd dX7_bound_134 q10 ?_
      refine z_istore_n dX7_bound_135 (by decide) rfl ?_
      obtain ⟨q11, h⟩ := h
      refine z_iinc 4 dX7_bound_136 rfl (by decide) q11 rfl ?_
      refine z_goto (tgt := 23) dX7_bound_139 (by decide) ?_
      exact z_sub [2, 3, 4, 1, 0] rfl h
    · have h := h.2 q8
      refine z_aload_n 0 dX7_bound_122 rfl ?_
      obtain ⟨q12, h⟩ := h
      refine z_getR fl_X7_32 rfl dX7_bound_123 q12 ?_
      refine z_iload 4 dX7_bound_126 rfl ?_
      obtain ⟨b13, eb13, h⟩ := h
      rw [eb13]
      obtain ⟨q14, h⟩ := h
      obtain ⟨q15, h⟩ := h
      obtain ⟨q16, h⟩ := h
      refine z_iald dX7_bound_128 (n := (zK M b13).2) (Prod.ext q14 rfl) q15 q16 ?_
      refine z_goto (tgt := 133) dX7_bound_129 (by decide) ?_
      obtain ⟨q17, h⟩ := h
      refine z_imul dX7_bound_133 q17 ?_
      obtain ⟨q18, h⟩ := h
      refine z_iadd dX7_bound_134 q18 ?_
      refine z_istore_n dX7_bound_135 (by decide) rfl ?_
      obtain ⟨q19, h⟩ := h
      refine z_iinc 4 dX7_bound_136 rfl (by decide) q19 rfl ?_
      refine z_goto (tgt := 23) dX7_bound_139 (by decide) ?_
      exact z_sub [2, 3, 4, 1, 0] rfl h
set_option maxRecDepth 20000 in
theorem vX7_bound_142 {E : zE} {d : Nat} {X : zX} {P : Int → zM → Prop} {M : zM} (hr : (xh X).sig.returnType = (some .int)) (a0 : Nat) (x1 : Int) (x2 : Int) (x3 : Int) (x4 : Int)
    (h : ((4 ≤ x2 → ((8 ≤ x2 → zK M a0 = (8, 25) ∧ zin (x2 - 8) ∧ ∃ b5, zR M a0 2 = some b5 ∧ (zK M b5).1 = 9 ∧ 0 ≤ (x2 - 8) ∧ (x2 - 8) < ((zK M b5).2 : Int) ∧ ZX7_bound E d X P 184 [(0, vR (some a0)), (1, vI x1), (2, vI x2), (3, vI x3), (4, vI (zI M b5 (x2 - 8)))] [] M 0 0) ∧ (x2 < 8 → zK M a0 = (8, 25) ∧ zin (x2 - 4) ∧ ∃ b11, zR M a0 5 = some b11 ∧ (zK M b11).1 = 9 ∧ 0 ≤ (x2 - 4) ∧ (x2 - 4) < ((zK M b11).2 : Int) ∧ ZX7_bound E d X P 184 [(0, vR (some a0)), (1, vI x1), (2, vI x2), (3, vI x3), (4, vI (zI M b11 (x2 - 4)))] [] M 0 0))) ∧ (x2 < 4 → zK M a0 = (8, 25) ∧ ∃ b16, zR M a0 4 = some b16 ∧ (zK M b16).1 = 9 ∧ 0 ≤ x2 ∧ x2 < ((zK M b16).2 : Int) ∧ ZX7_bound E d X P 184 [(0, vR (some a0)), (1, vI x1), (2, vI x2), (3, vI x3), (4, vI (zI M b16 x2))] [] M 0 0))) :
    ZX7_bound E d X P 142 [(0, vR (some a0)), (1, vI x1), (2, vI x2), (3, vI x3), (4, vI x4)] [] M 0 0 := by
  refine z_iload_n 2 dX7_bound_142 rfl ?_
  refine z_iconst dX7_bound_143 (by decide) ?_
  refine z_icmp_ge (tgt := 156) dX7_bound_144 (by decide) (fun q1 => ?_) (fun q1 => ?_)
  · have h := h.1 q1
    refine z_iload_n 2 dX7_bound_156 rfl ?_
    refine z_bipush dX7_bound_157 (by decide) ?_
    refine z_icmp_ge (tgt := 173) dX7_bound_159 (by decide) (fun q2 => ?_) (fun q2 => ?_)
    · have h := h.1 q2
      refine z_aload_n 0 dX7_bound_173 rfl ?_
      obtain ⟨q3, h⟩ := h
      refine z_getR fl_X7_9 rfl dX7_bound_174 q3 ?_
      refine z_iload_n 2 dX7_bound_177 rfl ?_
      refine z_bipush dX7_bound_178 (by decide) ?_
      obtain ⟨q4, h⟩ := h
      refine z_isub dX7_bound_180 q4 ?_
      obtain ⟨b5, eb5, h⟩ := h
      rw [eb5]
      obtain ⟨q6, h⟩ := h
      obtain ⟨q7, h⟩ := h
      obtain ⟨q8, h⟩ := h
      refine z_iald dX7_bound_181 (n := (zK M b5).2) (Prod.ext q6 rfl) q7 q8 ?_
      refine z_istore dX7_bound_182 (by decide) rfl ?_
      exact z_sub [1, 2, 3, 4, 0] rfl h
    · have h := h.2 q2
      refine z_aload_n 0 dX7_bound_162 rfl ?_
      obtain ⟨q9, h⟩ := h
      refine z_getR fl_X7_20 rfl dX7_bound_163 q9 ?_
      refine z_iload_n 2 dX7_bound_166 rfl ?_
      refine z_iconst dX7_bound_167 (by decide) ?_
      obtain ⟨q10, h⟩ := h
      refine z_isub dX7_bound_168 q10 ?_
      obtain ⟨b11, eb11, h⟩ := h
      rw [eb11]
      obtain ⟨q12, h⟩ := h
      obtain ⟨q13, h⟩ := h
      obtain ⟨q14, h⟩ := h
      refine z_iald dX7_bound_169 (n := (zK M b11).2) (Prod.ext q12 rfl) q13 q14 ?_
      refine z_goto (tgt := 182) dX7_bound_170 (by decide) ?_
      refine z_istore dX7_bound_182 (by decide) rfl ?_
      exact z_sub [1, 2, 3, 4, 0] rfl h
  · have h := h.2 q1
    refine z_aload_n 0 dX7_bound_147 rfl ?_
    obtain ⟨q15, h⟩ := h
    refine z_getR fl_X7_17 rfl dX7_bound_148 q15 ?_
    refine z_iload_n 2 dX7_bound_151 rfl ?_
    obtain ⟨b16, eb16, h⟩ := h
    rw [eb16]
    obtain ⟨q17, h⟩ := h
    obtain ⟨q18, h⟩ := h
    obtain ⟨q19, h⟩ := h
    refine z_iald dX7_bound_152 (n := (zK M b16).2) (Prod.ext q17 rfl) q18 q19 ?_
    refine z_goto (tgt := 182) dX7_bound_153 (by decide) ?_
    refine z_istore dX7_bound_182 (by decide) rfl ?_
    exact z_sub [1, 2, 3, 4, 0] rfl h
set_option maxRecDepth 20000 in
theorem vX7_bound_184 {E : zE} {d : Nat} {X : zX} {P : Int → zM → Prop} {M : zM} (hr : (xh X).sig.returnType = (some .int)) (a0 : Nat) (x1 : Int) (x2 : Int) (x3 : Int) (x4 : Int)
    (h : ((x3 ≠ 0 → ((x4 ≠ 0 → zin (x3 + x4) ∧ zin ((x3 + x4) - 1) ∧ 0 < x4 ∧ (((Int.tdiv ((x3 + x4) - 1) x4) ≤ x1 → zin (x2 + 1) ∧ ZX7_bound E d X P 7 [(0, vR (some a0)), (1, vI x1), (2, vI (x2 + 1))] [] M 0 0) ∧ (x1 < (Int.tdiv ((x3 + x4) - 1) x4) → zin (x2 + 1) ∧ ZX7_bound E d X P 7 [(0, vR (some a0)), (1, vI (Int.tdiv ((x3 + x4) - 1) x4)), (2, vI (x2 + 1))] [] M 0 0))) ∧ (x4 = 0 → P (-1) M))) ∧ (x3 = 0 → zin (x2 + 1) ∧ ZX7_bound E d X P 7 [(0, vR (some a0)), (1, vI x1), (2, vI (x2 + 1))] [] M 0 0))) :
    ZX7_bound E d X P 184 [(0, vR (some a0)), (1, vI x1), (2, vI x2), (3, vI x3), (4, vI x4)] [] M 0 0 := by
  refine z_iload_n 3 dX7_bound_184 rfl ?_
  refine z_if_ne (tgt := 191) dX7_bound_185 (by decide) (fun q1 => ?_) (fun q1 => ?_)
  · have h := h.1 q1
    refine z_iload 4 dX7_bound_191 rfl ?_
    refine z_if_ne (tgt := 198) dX7_bound_193 (by decide) (fun q2 => ?_) (fun q2 => ?_)
    · have h := h.1 q2
      refine z_iload_n 3 dX7_bound_198 rfl ?_
      refine z_iload 4 dX7_bound_199 rfl ?_
      obtain ⟨q3, h⟩ := h
      refine z_iadd dX7_bound_201 q3 ?_
      refine z_iconst dX7_bound_202 (by decide) ?_
      obtain ⟨q4, h⟩ := h
      refine z_isub dX7_bound_203 q4 ?_
      refine z_iload 4 dX7_bound_204 rfl ?_
      obtain ⟨q5, h⟩ := h
      refine z_idiv dX7_bound_206 q5 ?_
      refine z_istore dX7_bound_207 (by decide) rfl ?_
      refine z_iload 0 dX7_bound_209 rfl ?_
      refine z_iload_n 2 dX7_bound_211 rfl ?_
      refine z_icmp_le (tgt := 218) dX7_bound_212 (by decide) (fun q6 => ?_) (fun q6 => ?_)
      · have h := h.1 q6
        obtain ⟨q7, h⟩ := h
        refine z_iinc 3 dX7_bound_218 rfl (by decide) q7 rfl ?_
        refine z_goto (tgt := 7) dX7_bound_221 (by decide) ?_
        exact z_sub [2, 3, 0] rfl h
      · have h := h.2 q6
        refine z_iload 0 dX7_bound_215 rfl ?_
        refine z_istore_n dX7_bound_217 (by decide) rfl ?_
        obtain ⟨q8, h⟩ := h
        refine z_iinc 3 dX7_bound_218 rfl (by decide) q8 rfl ?_
        refine z_goto (tgt := 7) dX7_bound_221 (by decide) ?_
        exact z_sub [3, 1, 0] rfl h
    · have h := h.2 q2
      refine z_iconst dX7_bound_196 (by decide) ?_
      exact z_iret hr dX7_bound_197 (Nat.le_of_ble_eq_true rfl) (Nat.le_of_ble_eq_true rfl) ⟨_, rfl, h⟩
  · have h := h.2 q1
    refine z_goto (tgt := 218) dX7_bound_188 (by decide) ?_
    obtain ⟨q9, h⟩ := h
    refine z_iinc 2 dX7_bound_218 rfl (by decide) q9 rfl ?_
    refine z_goto (tgt := 7) dX7_bound_221 (by decide) ?_
    exact z_sub [1, 2, 0] rfl h
theorem sX7_bound {E : zE} {d : Nat} {P : Int → zM → Prop} {M : zM} (a0 : Nat) (h : ∀ X : zX, (xh X).sig.returnType = (some .int) → ZX7_bound E d X P 0 [(0, vR (some a0))] [] M 0 0) : zCi E mX7_bound (d + 1) 0 0 [vR (some a0)] M P := z_start (f := mX7_bound) rfl (Nat.le_of_ble_eq_true rfl) rfl h
abbrev ZX7_isReady (E : zE) (d : Nat) (X : zX) (P : Int → zM → Prop) (pc : Nat) (Lc : List (Nat × zV)) (S : List zV) (M : zM) (ce sl : Nat) : Prop := zZ cX7_isReady RX7 "isReady" 4 E (zrm (d + 1) 0 0) X (zQ E (zPi P) X 0 0) pc Lc S M ce sl
set_option maxRecDepth 20000 in
theorem vX7_isReady_0 {E : zE} {d : Nat} {X : zX} {P : Int → zM → Prop} {M : zM} (hr : (xh X).sig.returnType = (some .boolean)) (a0 : Nat) (x1 : Int)
    (h : zK M a0 = (8, 25) ∧ ∃ P1 : Int → zM → Prop, zCi E mX7_isPut d 0 0 [vR (some a0), vI x1] M P1 ∧ ∀ r4 M3, P1 r4 M3 → ((r4 ≠ 0 → ZX7_isReady E d X P 16 [(0, vR (some a0)), (1, vI x1), (2, vI 0), (3, vI 0)] [] M3 0 0) ∧ (r4 = 0 → ZX7_isReady E d X P 16 [(0, vR (some a0)), (1, vI x1), (2, vI 1), (3, vI 0)] [] M3 0 0))) :
    ZX7_isReady E d X P 0 [(0, vR (some a0)), (1, vI x1)] [] M 0 0 := by
  refine z_aload_n 0 dX7_isReady_0 rfl ?_
  refine z_iload_n 1 dX7_isReady_1 rfl ?_
  obtain ⟨q6, h⟩ := h
  obtain ⟨P1, c2, h⟩ := h
  refine z_Vi (as := [vI x1]) mv_X7_89 dX7_isReady_2 c2 q6 rfl rfl (Nat.le_of_ble_eq_true rfl) (Nat.le_of_ble_eq_true rfl) (Nat.le_of_ble_eq_true rfl) (fun r4 M3 p5 => ?_)
  have h := h r4 M3 p5
  refine z_if_ne (tgt := 12) dX7_isReady_5 (by decide) (fun q7 => ?_) (fun q7 => ?_)
  · have h := h.1 q7
    refine z_iconst dX7_isReady_12 (by decide) ?_
    refine z_istore_n dX7_isReady_13 (by decide) rfl ?_
    refine z_iconst dX7_isReady_14 (by decide) ?_
    refine z_istore_n dX7_isReady_15 (by decide) rfl ?_
    exact z_sub [2, 3, 1, 0] rfl h
  · have h := h.2 q7
    refine z_iconst dX7_isReady_8 (by decide) ?_
    refine z_goto (tgt := 13) dX7_isReady_9 (by decide) ?_
    refine z_istore_n dX7_isReady_13 (by decide) rfl ?_
    refine z_iconst dX7_isReady_14 (by decide) ?_
    refine z_istore_n dX7_isReady_15 (by decide) rfl ?_
    exact z_sub [2, 3, 1, 0] rfl h
set_option maxRecDepth 20000 in
theorem vX7_isReady_16 {E : zE} {d : Nat} {X : zX} {P : Int → zM → Prop} {M : zM} (hr : (xh X).sig.returnType = (some .boolean)) (a0 : Nat) (x1 : Int) (x2 : Int) (x3 : Int)
    (h : zK M a0 = (8, 25) ∧ (((zI M a0 8) ≤ x3 → (x2 = 0 ∨ x2 = 1) ∧ P x2 M) ∧ (x3 < (zI M a0 8) → ((x2 = 0 → (x2 = 0 ∨ x2 = 1) ∧ P x2 M) ∧ (x2 ≠ 0 → zK M a0 = (8, 25) ∧ zin (40 * x1) ∧ zin ((40 * x1) + x3) ∧ ∃ b9, zR M a0 17 = some b9 ∧ (zK M b9).1 = 10 ∧ 0 ≤ ((40 * x1) + x3) ∧ ((40 * x1) + x3) < ((zK M b9).2 : Int) ∧ (((zI M b9 ((40 * x1) + x3)) = 0 → zin (x3 + 1) ∧ ZX7_isReady E d X P 16 [(0, vR (some a0)), (1, vI x1), (2, vI 1), (3, vI (x3 + 1))] [] M 0 0) ∧ ((zI M b9 ((40 * x1) + x3)) ≠ 0 → zK M a0 = (8, 25) ∧ ∃ P15 : Int → zM → Prop, zCi E mX7_isPut d 0 0 [vR (some a0), vI x3] M P15 ∧ ∀ r18 M17, P15 r18 M17 → ((r18 = 0 → zin (x3 + 1) ∧ ZX7_isReady E d X P 16 [(0, vR (some a0)), (1, vI x1), (2, vI 0), (3, vI (x3 + 1))] [] M17 0 0) ∧ (r18 ≠ 0 → zin (x3 + 1) ∧ ZX7_isReady E d X P 16 [(0, vR (some a0)), (1, vI x1), (2, vI 1), (3, vI (x3 + 1))] [] M17 0 0))))))))) :
    ZX7_isReady E d X P 16 [(0, vR (some a0)), (1, vI x1), (2, vI x2), (3, vI x3)] [] M 0 0 := by
  refine z_iload_n 3 dX7_isReady_16 rfl ?_
  refine z_aload_n 0 dX7_isReady_17 rfl ?_
  obtain ⟨q1, h⟩ := h
  refine z_getI fl_X7_74 dX7_isReady_18 q1 ?_
  refine z_icmp_ge (tgt := 62) dX7_isReady_21 (by decide) (fun q2 => ?_) (fun q2 => ?_)
  · have h := h.1 q2
    refine z_iload_n 2 dX7_isReady_62 rfl ?_
    obtain ⟨q3, h⟩ := h
    exact z_zret hr dX7_isReady_63 (Nat.le_of_ble_eq_true rfl) (Nat.le_of_ble_eq_true rfl) q3 ⟨_, rfl, h⟩
  · have h := h.2 q2
    refine z_iload_n 2 dX7_isReady_24 rfl ?_
    refine z_if_eq (tgt := 62) dX7_isReady_25 (by decide) (fun q4 => ?_) (fun q4 => ?_)
    · have h := h.1 q4
      refine z_iload_n 2 dX7_isReady_62 rfl ?_
      obtain ⟨q5, h⟩ := h
      exact z_zret hr dX7_isReady_63 (Nat.le_of_ble_eq_true rfl) (Nat.le_of_ble_eq_true rfl) q5 ⟨_, rfl, h⟩
    · have h := h.2 q4
      refine z_aload_n 0 dX7_isReady_28 rfl ?_
      obtain ⟨q6, h⟩ := h
      refine z_getR fl_X7_50 rfl dX7_isReady_29 q6 ?_
      refine z_bipush dX7_isReady_32 (by decide) ?_
      refine z_iload_n 1 dX7_isReady_34 rfl ?_
      obtain ⟨q7, h⟩ := h
      refine z_imul dX7_isReady_35 q7 ?_
      refine z_iload_n 3 dX7_isReady_36 rfl ?_
      obtain ⟨q8, h⟩ := h
      refine z_iadd dX7_isReady_37 q8 ?_
      obtain ⟨b9, eb9, h⟩ := h
      rw [eb9]
      obtain ⟨q10, h⟩ := h
      obtain ⟨q11, h⟩ := h
      obtain ⟨q12, h⟩ := h
      refine z_bald dX7_isReady_38 (n := (zK M b9).2) (Prod.ext q10 rfl) q11 q12 ?_
      refine z_if_eq (tgt := 50) dX7_isReady_39 (by decide) (fun q13 => ?_) (fun q13 => ?_)
      · have h := h.1 q13
        refine z_iconst dX7_isReady_50 (by decide) ?_
        refine z_goto (tgt := 55) dX7_isReady_51 (by decide) ?_
        refine z_istore_n dX7_isReady_55 (by decide) rfl ?_
        obtain ⟨q14, h⟩ := h
        refine z_iinc 3 dX7_isReady_56 rfl (by decide) q14 rfl ?_
        refine z_goto (tgt := 16) dX7_isReady_59 (by decide) ?_
        exact z_sub [2, 3, 1, 0] rfl h
      · have h := h.2 q13
        refine z_aload_n 0 dX7_isReady_42 rfl ?_
        refine z_iload_n 3 dX7_isReady_43 rfl ?_
        obtain ⟨q20, h⟩ := h
        obtain ⟨P15, c16, h⟩ := h
        refine z_Vi (as := [vI x3]) mv_X7_89 dX7_isReady_44 c16 q20 rfl rfl (Nat.le_of_ble_eq_true rfl) (Nat.le_of_ble_eq_true rfl) (Nat.le_of_ble_eq_true rfl) (fun r18 M17 p19 => ?_)
        have h := h r18 M17 p19
        refine z_if_eq (tgt := 54) dX7_isReady_47 (by decide) (fun q21 => ?_) (fun q21 => ?_)
        · have h := h.1 q21
          refine z_iconst dX7_isReady_54 (by decide) ?_
          refine z_istore_n dX7_isReady_55 (by decide) rfl ?_
          obtain ⟨q22, h⟩ := h
          refine z_iinc 3 dX7_isReady_56 rfl (by decide) q22 rfl ?_
          refine z_goto (tgt := 16) dX7_isReady_59 (by decide) ?_
          exact z_sub [2, 3, 1, 0] rfl h
        · have h := h.2 q21
          refine z_iconst dX7_isReady_50 (by decide) ?_
          refine z_goto (tgt := 55) dX7_isReady_51 (by decide) ?_
          refine z_istore_n dX7_isReady_55 (by decide) rfl ?_
          obtain ⟨q23, h⟩ := h
          refine z_iinc 3 dX7_isReady_56 rfl (by decide) q23 rfl ?_
          refine z_goto (tgt := 16) dX7_isReady_59 (by decide) ?_
          exact z_sub [2, 3, 1, 0] rfl h
theorem sX7_isReady {E : zE} {d : Nat} {P : Int → zM → Prop} {M : zM} (a0 : Nat) (x1 : Int) (h : ∀ X : zX, (xh X).sig.returnType = (some .boolean) → ZX7_isReady E d X P 0 [(0, vR (some a0)), (1, vI x1)] [] M 0 0) : zCi E mX7_isReady (d + 1) 0 0 [vR (some a0), vI x1] M P := z_start (f := mX7_isReady) rfl (Nat.le_of_ble_eq_true rfl) rfl h
abbrev ZX7_plan (E : zE) (d : Nat) (X : zX) (P : Int → zM → Prop) (pc : Nat) (Lc : List (Nat × zV)) (S : List zV) (M : zM) (ce sl : Nat) : Prop := zZ cX7_plan RX7 "plan" 8 E (zrm (d + 1) 2 80) X (zQ E (zPi P) X 2 80) pc Lc S M ce sl
set_option maxRecDepth 20000 in
theorem vX7_plan_0 {E : zE} {d : Nat} {X : zX} {P : Int → zM → Prop} {M : zM} (hr : (xh X).sig.returnType = (some .int)) (a0 : Nat)
    (h : ∀ M1, M1 = znew M 10 40 → ∀ M2, M2 = znew M1 9 40 → zK M2 a0 = (8, 25) ∧ ∃ P3 : Int → zM → Prop, zCi E mX7_way d 0 0 [vR (some a0)] M2 P3 ∧ ∀ r6 M5, P3 r6 M5 → ZX7_plan E d X P 18 [(0, vR (some a0)), (1, vR (some (zsz M))), (2, vR (some (zsz M1))), (3, vI r6), (4, vI 0)] [] M5 2 80) :
    ZX7_plan E d X P 0 [(0, vR (some a0))] [] M 0 0 := by
  refine z_bipush dX7_plan_0 (by decide) ?_
  refine z_newa (at_ := .boolean) (tg := 10) (n := 40) (by simp) kw_760 dX7_plan_2 rfl (by decide) (Nat.le_of_ble_eq_true rfl) (Nat.le_of_ble_eq_true rfl) ?_
  obtain ⟨M1, hmM1⟩ : ∃ z, z = znew M 10 40 := ⟨_, rfl⟩
  rw [← hmM1]
  have h := h M1 hmM1
  refine z_astore_n dX7_plan_4 (by decide) rfl ?_
  refine z_bipush dX7_plan_5 (by decide) ?_
  refine z_newa (at_ := .int) (tg := 9) (n := 40) (by simp) kw_80 dX7_plan_7 rfl (by decide) (Nat.le_of_ble_eq_true rfl) (Nat.le_of_ble_eq_true rfl) ?_
  obtain ⟨M2, hmM2⟩ : ∃ z, z = znew M1 9 40 := ⟨_, rfl⟩
  rw [← hmM2]
  have h := h M2 hmM2
  refine z_astore_n dX7_plan_9 (by decide) rfl ?_
  refine z_aload_n 2 dX7_plan_10 rfl ?_
  obtain ⟨q8, h⟩ := h
  obtain ⟨P3, c4, h⟩ := h
  refine z_Vi (as := []) mv_X7_132 dX7_plan_11 c4 q8 rfl rfl (Nat.le_of_ble_eq_true rfl) (Nat.le_of_ble_eq_true rfl) (Nat.le_of_ble_eq_true rfl) (fun r6 M5 p7 => ?_)
  have h := h r6 M5 p7
  refine z_istore_n dX7_plan_14 (by decide) rfl ?_
  refine z_iconst dX7_plan_15 (by decide) ?_
  refine z_istore dX7_plan_16 (by decide) rfl ?_
  exact z_sub [4, 3, 2, 1, 0] rfl h
set_option maxRecDepth 20000 in
theorem vX7_plan_18 {E : zE} {d : Nat} {X : zX} {P : Int → zM → Prop} {M : zM} (hr : (xh X).sig.returnType = (some .int)) (a0 : Nat) (g1 : Option Nat) (g2 : Option Nat) (x3 : Int) (x4 : Int)
    (h : zK M a0 = (8, 25) ∧ (((zI M a0 8) ≤ x4 → ZX7_plan E d X P 50 [(0, vR (some a0)), (1, vR g1), (2, vR g2), (3, vI x3), (4, vI 0), (5, vI 1)] [] M 2 80) ∧ (x4 < (zI M a0 8) → zK M a0 = (8, 25) ∧ ∃ P3 : Int → zM → Prop, zCi E mX7_slack d 0 0 [vR (some a0), vI x3, vI x4] M P3 ∧ ∀ r6 M5, P3 r6 M5 → ∃ b9, g2 = some b9 ∧ (zK M5 b9).1 = 9 ∧ 0 ≤ x4 ∧ x4 < ((zK M5 b9).2 : Int) ∧ ∀ M13, M13 = zsI M5 b9 x4 r6 → zin (x4 + 1) ∧ ZX7_plan E d X P 18 [(0, vR (some a0)), (1, vR g1), (2, vR (some b9)), (3, vI x3), (4, vI (x4 + 1))] [] M13 2 80))) :
    ZX7_plan E d X P 18 [(0, vR (some a0)), (1, vR g1), (2, vR g2), (3, vI x3), (4, vI x4)] [] M 2 80 := by
  refine z_iload 4 dX7_plan_18 rfl ?_
  refine z_aload_n 0 dX7_plan_20 rfl ?_
  obtain ⟨q1, h⟩ := h
  refine z_getI fl_X7_74 dX7_plan_21 q1 ?_
  refine z_icmp_ge (tgt := 44) dX7_plan_24 (by decide) (fun q2 => ?_) (fun q2 => ?_)
  · have h := h.1 q2
    refine z_iconst dX7_plan_44 (by decide) ?_
    refine z_istore dX7_plan_45 (by decide) rfl ?_
    refine z_iconst dX7_plan_47 (by decide) ?_
    refine z_istore dX7_plan_48 (by decide) rfl ?_
    exact z_sub [2, 3, 4, 5, 1, 0] rfl h
  · have h := h.2 q2
    refine z_aload_n 2 dX7_plan_27 rfl ?_
    refine z_iload 4 dX7_plan_28 rfl ?_
    refine z_aload_n 0 dX7_plan_30 rfl ?_
    refine z_iload_n 3 dX7_plan_31 rfl ?_
    refine z_iload 4 dX7_plan_32 rfl ?_
    obtain ⟨q8, h⟩ := h
    obtain ⟨P3, c4, h⟩ := h
    refine z_Vi (as := [vI x3, vI x4]) mv_X7_136 dX7_plan_34 c4 q8 rfl rfl (Nat.le_of_ble_eq_true rfl) (Nat.le_of_ble_eq_true rfl) (Nat.le_of_ble_eq_true rfl) (fun r6 M5 p7 => ?_)
    have h := h r6 M5 p7
    obtain ⟨b9, eb9, h⟩ := h
    rw [eb9]
    obtain ⟨q10, h⟩ := h
    obtain ⟨q11, h⟩ := h
    obtain ⟨q12, h⟩ := h
    refine z_iast dX7_plan_37 (n := (zK M5 b9).2) (Prod.ext q10 rfl) q11 q12 ?_
    obtain ⟨M13, hmM13⟩ : ∃ z, z = zsI M5 b9 x4 r6 := ⟨_, rfl⟩
    rw [← hmM13]
    have h := h M13 hmM13
    obtain ⟨q14, h⟩ := h
    refine z_iinc 4 dX7_plan_38 rfl (by decide) q14 rfl ?_
    refine z_goto (tgt := 18) dX7_plan_41 (by decide) ?_
    exact z_sub [1, 2, 3, 4, 0] rfl h
set_option maxRecDepth 20000 in
theorem vX7_plan_50 {E : zE} {d : Nat} {X : zX} {P : Int → zM → Prop} {M : zM} (hr : (xh X).sig.returnType = (some .int)) (a0 : Nat) (g1 : Option Nat) (g2 : Option Nat) (x3 : Int) (x4 : Int) (x5 : Int)
    (h : ((x5 = 0 → P x4 M) ∧ (x5 ≠ 0 → ZX7_plan E d X P 61 [(0, vR (some a0)), (1, vR g1), (2, vR g2), (3, vI x3), (4, vI x4), (5, vI x5), (6, vI (-1)), (7, vI 0)] [] M 2 80))) :
    ZX7_plan E d X P 50 [(0, vR (some a0)), (1, vR g1), (2, vR g2), (3, vI x3), (4, vI x4), (5, vI x5)] [] M 2 80 := by
  refine z_iload 5 dX7_plan_50 rfl ?_
  refine z_if_eq (tgt := 175) dX7_plan_52 (by decide) (fun q1 => ?_) (fun q1 => ?_)
  · have h := h.1 q1
    refine z_iload 4 dX7_plan_175 rfl ?_
    exact z_iret hr dX7_plan_177 (Nat.le_of_ble_eq_true rfl) (Nat.le_of_ble_eq_true rfl) ⟨_, rfl, h⟩
  · have h := h.2 q1
    refine z_iconst dX7_plan_55 (by decide) ?_
    refine z_istore dX7_plan_56 (by decide) rfl ?_
    refine z_iconst dX7_plan_58 (by decide) ?_
    refine z_istore dX7_plan_59 (by decide) rfl ?_
    exact z_sub [2, 3, 4, 5, 6, 7, 1, 0] rfl h
set_option maxRecDepth 20000 in
theorem vX7_plan_61 {E : zE} {d : Nat} {X : zX} {P : Int → zM → Prop} {M : zM} (hr : (xh X).sig.returnType = (some .int)) (a0 : Nat) (g1 : Option Nat) (g2 : Option Nat) (x3 : Int) (x4 : Int) (x5 : Int) (x6 : Int) (x7 : Int)
    (h : zK M a0 = (8, 25) ∧ (((zI M a0 8) ≤ x7 → ((x6 = (-1) → (((0 : Int) ≠ 0 → ∃ b5, g1 = some b5 ∧ (zK M b5).1 = 10 ∧ 0 ≤ x6 ∧ x6 < ((zK M b5).2 : Int) ∧ ∀ M9, M9 = zsI M b5 x6 1 → zK M9 a0 = (8, 25) ∧ zK M9 a0 = (8, 25) ∧ ∃ P11 : Int → zM → Prop, zCi E mX7_first d 0 0 [vR (some a0), vI x6, vI (zI M9 a0 0)] M9 P11 ∧ ∀ r14 M13, P11 r14 M13 → ((r14 ≠ (-1) → zK M13 a0 = (8, 25) ∧ ∃ b19, zR M13 a0 15 = some b19 ∧ (zK M13 b19).1 = 9 ∧ 0 ≤ x6 ∧ x6 < ((zK M13 b19).2 : Int) ∧ ∀ M23, M23 = zsI M13 b19 x6 r14 → zin (x4 + 1) ∧ ZX7_plan E d X P 50 [(0, vR (some a0)), (1, vR (some b5)), (2, vR g2), (3, vI x3), (4, vI (x4 + 1)), (5, vI 0)] [] M23 2 80) ∧ (r14 = (-1) → ZX7_plan E d X P 50 [(0, vR (some a0)), (1, vR (some b5)), (2, vR g2), (3, vI x3), (4, vI x4), (5, vI 0)] [] M13 2 80))) ∧ ((0 : Int) = 0 → ZX7_plan E d X P 50 [(0, vR (some a0)), (1, vR g1), (2, vR g2), (3, vI x3), (4, vI x4), (5, vI 0)] [] M 2 80))) ∧ (x6 ≠ (-1) → (((1 : Int) ≠ 0 → ∃ b26, g1 = some b26 ∧ (zK M b26).1 = 10 ∧ 0 ≤ x6 ∧ x6 < ((zK M b26).2 : Int) ∧ ∀ M30, M30 = zsI M b26 x6 1 → zK M30 a0 = (8, 25) ∧ zK M30 a0 = (8, 25) ∧ ∃ P32 : Int → zM → Prop, zCi E mX7_first d 0 0 [vR (some a0), vI x6, vI (zI M30 a0 0)] M30 P32 ∧ ∀ r35 M34, P32 r35 M34 → ((r35 ≠ (-1) → zK M34 a0 = (8, 25) ∧ ∃ b40, zR M34 a0 15 = some b40 ∧ (zK M34 b40).1 = 9 ∧ 0 ≤ x6 ∧ x6 < ((zK M34 b40).2 : Int) ∧ ∀ M44, M44 = zsI M34 b40 x6 r35 → zin (x4 + 1) ∧ ZX7_plan E d X P 50 [(0, vR (some a0)), (1, vR (some b26)), (2, vR g2), (3, vI x3), (4, vI (x4 + 1)), (5, vI 1)] [] M44 2 80) ∧ (r35 = (-1) → ZX7_plan E d X P 50 [(0, vR (some a0)), (1, vR (some b26)), (2, vR g2), (3, vI x3), (4, vI x4), (5, vI 1)] [] M34 2 80))) ∧ ((1 : Int) = 0 → ZX7_plan E d X P 50 [(0, vR (some a0)), (1, vR g1), (2, vR g2), (3, vI x3), (4, vI x4), (5, vI 1)] [] M 2 80))))) ∧ (x7 < (zI M a0 8) → ∃ b46, g1 = some b46 ∧ (zK M b46).1 = 10 ∧ 0 ≤ x7 ∧ x7 < ((zK M b46).2 : Int) ∧ (((zI M b46 x7) ≠ 0 → zin (x7 + 1) ∧ ZX7_plan E d X P 61 [(0, vR (some a0)), (1, vR (some b46)), (2, vR g2), (3, vI x3), (4, vI x4), (5, vI x5), (6, vI x6), (7, vI (x7 + 1))] [] M 2 80) ∧ ((zI M b46 x7) = 0 → zK M a0 = (8, 25) ∧ ∃ P52 : Int → zM → Prop, zCi E mX7_isReady d 0 0 [vR (some a0), vI x7] M P52 ∧ ∀ r55 M54, P52 r55 M54 → ((r55 = 0 → zin (x7 + 1) ∧ ZX7_plan E d X P 61 [(0, vR (some a0)), (1, vR (some b46)), (2, vR g2), (3, vI x3), (4, vI x4), (5, vI x5), (6, vI x6), (7, vI (x7 + 1))] [] M54 2 80) ∧ (r55 ≠ 0 → ((x6 = (-1) → zin (x7 + 1) ∧ ZX7_plan E d X P 61 [(0, vR (some a0)), (1, vR (some b46)), (2, vR g2), (3, vI x3), (4, vI x4), (5, vI x5), (6, vI x7), (7, vI (x7 + 1))] [] M54 2 80) ∧ (x6 ≠ (-1) → ∃ b62, g2 = some b62 ∧ (zK M54 b62).1 = 9 ∧ 0 ≤ x7 ∧ x7 < ((zK M54 b62).2 : Int) ∧ (zK M54 b62).1 = 9 ∧ 0 ≤ x6 ∧ x6 < ((zK M54 b62).2 : Int) ∧ (((zI M54 b62 x6) ≤ (zI M54 b62 x7) → zin (x7 + 1) ∧ ZX7_plan E d X P 61 [(0, vR (some a0)), (1, vR (some b46)), (2, vR (some b62)), (3, vI x3), (4, vI x4), (5, vI x5), (6, vI x6), (7, vI (x7 + 1))] [] M54 2 80) ∧ ((zI M54 b62 x7) < (zI M54 b62 x6) → zin (x7 + 1) ∧ ZX7_plan E d X P 61 [(0, vR (some a0)), (1, vR (some b46)), (2, vR (some b62)), (3, vI x3), (4, vI x4), (5, vI x5), (6, vI x7), (7, vI (x7 + 1))] [] M54 2 80))))))))))) :
    ZX7_plan E d X P 61 [(0, vR (some a0)), (1, vR g1), (2, vR g2), (3, vI x3), (4, vI x4), (5, vI x5), (6, vI x6), (7, vI x7)] [] M 2 80 := by
  refine z_iload 7 dX7_plan_61 rfl ?_
  refine z_aload_n 0 dX7_plan_63 rfl ?_
  obtain ⟨q1, h⟩ := h
  refine z_getI fl_X7_74 dX7_plan_64 q1 ?_
  refine z_icmp_ge (tgt := 113) dX7_plan_67 (by decide) (fun q2 => ?_) (fun q2 => ?_)
  · have h := h.1 q2
    refine z_iload 6 dX7_plan_113 rfl ?_
    refine z_iconst dX7_plan_115 (by decide) ?_
    refine z_icmp_eq (tgt := 123) dX7_plan_116 (by decide) (fun q3 => ?_) (fun q3 => ?_)
    · have h := h.1 q3
      refine z_iconst dX7_plan_123 (by decide) ?_
      refine z_istore dX7_plan_124 (by decide) rfl ?_
      refine z_iload 0 dX7_plan_126 rfl ?_
      refine z_if_ne (tgt := 134) dX7_plan_128 (by decide) (fun q4 => ?_) (fun q4 => ?_)
      · have h := h.1 q4
        refine z_aload_n 2 dX7_plan_134 rfl ?_
        refine z_iload 6 dX7_plan_135 rfl ?_
        refine z_iconst dX7_plan_137 (by decide) ?_
        obtain ⟨b5, eb5, h⟩ := h
        rw [eb5]
        obtain ⟨q6, h⟩ := h
        obtain ⟨q7, h⟩ := h
        obtain ⟨q8, h⟩ := h
        refine z_bast dX7_plan_138 (n := (zK M b5).2) (Prod.ext q6 rfl) q7 q8 (by decide) ?_
        obtain ⟨M9, hmM9⟩ : ∃ z, z = zsI M b5 x6 1 := ⟨_, rfl⟩
        rw [← hmM9]
        have h := h M9 hmM9
        refine z_aload_n 1 dX7_plan_139 rfl ?_
        refine z_iload 6 dX7_plan_140 rfl ?_
        refine z_aload_n 1 dX7_plan_142 rfl ?_
        obtain ⟨q10, h⟩ := h
        refine z_getI fl_X7_93 dX7_plan_143 q10 ?_
        obtain ⟨q16, h⟩ := h
        obtain ⟨P11, c12, h⟩ := h
        refine z_Vi (as := [vI x6, vI (zI M9 a0 0)]) mv_X7_142 dX7_plan_146 c12 q16 rfl rfl (Nat.le_of_ble_eq_true rfl) (Nat.le_of_ble_eq_true rfl) (Nat.le_of_ble_eq_true rfl) (fun r14 M13 p15 => ?_)
        have h := h r14 M13 p15
        refine z_istore dX7_plan_149 (by decide) rfl ?_
        refine z_iload 0 dX7_plan_151 rfl ?_
        refine z_iconst dX7_plan_153 (by decide) ?_
        refine z_icmp_ne (tgt := 160) dX7_plan_154 (by decide) (fun q17 => ?_) (fun q17 => ?_)
        · have h := h.1 q17
          refine z_aload_n 2 dX7_plan_160 rfl ?_
          obtain ⟨q18, h⟩ := h
          refine z_getR fl_X7_44 rfl dX7_plan_161 q18 ?_
          refine z_iload 7 dX7_plan_164 rfl ?_
          refine z_iload 0 dX7_plan_166 rfl ?_
          obtain ⟨b19, eb19, h⟩ := h
          rw [eb19]
          obtain ⟨q20, h⟩ := h
          obtain ⟨q21, h⟩ := h
          obtain ⟨q22, h⟩ := h
          refine z_iast dX7_plan_168 (n := (zK M13 b19).2) (Prod.ext q20 rfl) q21 q22 ?_
          obtain ⟨M23, hmM23⟩ : ∃ z, z = zsI M13 b19 x6 r14 := ⟨_, rfl⟩
          rw [← hmM23]
          have h := h M23 hmM23
          obtain ⟨q24, h⟩ := h
          refine z_iinc 6 dX7_plan_169 rfl (by decide) q24 rfl ?_
          refine z_goto (tgt := 50) dX7_plan_172 (by decide) ?_
          exact z_sub [3, 4, 5, 6, 0, 2] rfl h
        · have h := h.2 q17
          refine z_goto (tgt := 50) dX7_plan_157 (by decide) ?_
          exact z_sub [2, 3, 4, 5, 6, 1] rfl h
      · have h := h.2 q4
        refine z_goto (tgt := 50) dX7_plan_131 (by decide) ?_
        exact z_sub [1, 2, 3, 4, 5, 0] rfl h
    · have h := h.2 q3
      refine z_iconst dX7_plan_119 (by decide) ?_
      refine z_goto (tgt := 124) dX7_plan_120 (by decide) ?_
      refine z_istore dX7_plan_124 (by decide) rfl ?_
      refine z_iload 0 dX7_plan_126 rfl ?_
      refine z_if_ne (tgt := 134) dX7_plan_128 (by decide) (fun q25 => ?_) (fun q25 => ?_)
      · have h := h.1 q25
        refine z_aload_n 2 dX7_plan_134 rfl ?_
        refine z_iload 6 dX7_plan_135 rfl ?_
        refine z_iconst dX7_plan_137 (by decide) ?_
        obtain ⟨b26, eb26, h⟩ := h
        rw [eb26]
        obtain ⟨q27, h⟩ := h
        obtain ⟨q28, h⟩ := h
        obtain ⟨q29, h⟩ := h
        refine z_bast dX7_plan_138 (n := (zK M b26).2) (Prod.ext q27 rfl) q28 q29 (by decide) ?_
        obtain ⟨M30, hmM30⟩ : ∃ z, z = zsI M b26 x6 1 := ⟨_, rfl⟩
        rw [← hmM30]
        have h := h M30 hmM30
        refine z_aload_n 1 dX7_plan_139 rfl ?_
        refine z_iload 6 dX7_plan_140 rfl ?_
        refine z_aload_n 1 dX7_plan_142 rfl ?_
        obtain ⟨q31, h⟩ := h
        refine z_getI fl_X7_93 dX7_plan_143 q31 ?_
        obtain ⟨q37, h⟩ := h
        obtain ⟨P32, c33, h⟩ := h
        refine z_Vi (as := [vI x6, vI (zI M30 a0 0)]) mv_X7_142 dX7_plan_146 c33 q37 rfl rfl (Nat.le_of_ble_eq_true rfl) (Nat.le_of_ble_eq_true rfl) (Nat.le_of_ble_eq_true rfl) (fun r35 M34 p36 => ?_)
        have h := h r35 M34 p36
        refine z_istore dX7_plan_149 (by decide) rfl ?_
        refine z_iload 0 dX7_plan_151 rfl ?_
        refine z_iconst dX7_plan_153 (by decide) ?_
        refine z_icmp_ne (tgt := 160) dX7_plan_154 (by decide) (fun q38 => ?_) (fun q38 => ?_)
        · have h := h.1 q38
          refine z_aload_n 2 dX7_plan_160 rfl ?_
          obtain ⟨q39, h⟩ := h
          refine z_getR fl_X7_44 rfl dX7_plan_161 q39 ?_
          refine z_iload 7 dX7_plan_164 rfl ?_
          refine z_iload 0 dX7_plan_166 rfl ?_
          obtain ⟨b40, eb40, h⟩ := h
          rw [eb40]
          obtain ⟨q41, h⟩ := h
          obtain ⟨q42, h⟩ := h
          obtain ⟨q43, h⟩ := h
          refine z_iast dX7_plan_168 (n := (zK M34 b40).2) (Prod.ext q41 rfl) q42 q43 ?_
          obtain ⟨M44, hmM44⟩ : ∃ z, z = zsI M34 b40 x6 r35 := ⟨_, rfl⟩
          rw [← hmM44]
          have h := h M44 hmM44
          obtain ⟨q45, h⟩ := h
          refine z_iinc 6 dX7_plan_169 rfl (by decide) q45 rfl ?_
          refine z_goto (tgt := 50) dX7_plan_172 (by decide) ?_
          exact z_sub [3, 4, 5, 6, 0, 2] rfl h
        · have h := h.2 q38
          refine z_goto (tgt := 50) dX7_plan_157 (by decide) ?_
          exact z_sub [2, 3, 4, 5, 6, 1] rfl h
      · have h := h.2 q25
        refine z_goto (tgt := 50) dX7_plan_131 (by decide) ?_
        exact z_sub [1, 2, 3, 4, 5, 0] rfl h
  · have h := h.2 q2
    refine z_aload_n 1 dX7_plan_70 rfl ?_
    refine z_iload 7 dX7_plan_71 rfl ?_
    obtain ⟨b46, eb46, h⟩ := h
    rw [eb46]
    obtain ⟨q47, h⟩ := h
    obtain ⟨q48, h⟩ := h
    obtain ⟨q49, h⟩ := h
    refine z_bald dX7_plan_73 (n := (zK M b46).2) (Prod.ext q47 rfl) q48 q49 ?_
    refine z_if_ne (tgt := 107) dX7_plan_74 (by decide) (fun q50 => ?_) (fun q50 => ?_)
    · have h := h.1 q50
      obtain ⟨q51, h⟩ := h
      refine z_iinc 7 dX7_plan_107 rfl (by decide) q51 rfl ?_
      refine z_goto (tgt := 61) dX7_plan_110 (by decide) ?_
      exact z_sub [1, 2, 3, 4, 5, 6, 7, 0] rfl h
    · have h := h.2 q50
      refine z_aload_n 0 dX7_plan_77 rfl ?_
      refine z_iload 7 dX7_plan_78 rfl ?_
      obtain ⟨q57, h⟩ := h
      obtain ⟨P52, c53, h⟩ := h
      refine z_Vi (as := [vI x7]) mv_X7_139 dX7_plan_80 c53 q57 rfl rfl (Nat.le_of_ble_eq_true rfl) (Nat.le_of_ble_eq_true rfl) (Nat.le_of_ble_eq_true rfl) (fun r55 M54 p56 => ?_)
      have h := h r55 M54 p56
      refine z_if_eq (tgt := 107) dX7_plan_83 (by decide) (fun q58 => ?_) (fun q58 => ?_)
      · have h := h.1 q58
        obtain ⟨q59, h⟩ := h
        refine z_iinc 7 dX7_plan_107 rfl (by decide) q59 rfl ?_
        refine z_goto (tgt := 61) dX7_plan_110 (by decide) ?_
        exact z_sub [1, 2, 3, 4, 5, 6, 7, 0] rfl h
      · have h := h.2 q58
        refine z_iload 6 dX7_plan_86 rfl ?_
        refine z_iconst dX7_plan_88 (by decide) ?_
        refine z_icmp_eq (tgt := 103) dX7_plan_89 (by decide) (fun q60 => ?_) (fun q60 => ?_)
        · have h := h.1 q60
          refine z_iload 7 dX7_plan_103 rfl ?_
          refine z_istore dX7_plan_105 (by decide) rfl ?_
          obtain ⟨q61, h⟩ := h
          refine z_iinc 7 dX7_plan_107 rfl (by decide) q61 rfl ?_
          refine z_goto (tgt := 61) dX7_plan_110 (by decide) ?_
          exact z_sub [2, 3, 4, 5, 6, 7, 1, 0] rfl h
        · have h := h.2 q60
          refine z_aload_n 2 dX7_plan_92 rfl ?_
          refine z_iload 7 dX7_plan_93 rfl ?_
          obtain ⟨b62, eb62, h⟩ := h
          rw [eb62]
          obtain ⟨q63, h⟩ := h
          obtain ⟨q64, h⟩ := h
          obtain ⟨q65, h⟩ := h
          refine z_iald dX7_plan_95 (n := (zK M54 b62).2) (Prod.ext q63 rfl) q64 q65 ?_
          refine z_aload_n 2 dX7_plan_96 rfl ?_
          refine z_iload 6 dX7_plan_97 rfl ?_
          obtain ⟨q66, h⟩ := h
          obtain ⟨q67, h⟩ := h
          obtain ⟨q68, h⟩ := h
          refine z_iald dX7_plan_99 (n := (zK M54 b62).2) (Prod.ext q66 rfl) q67 q68 ?_
          refine z_icmp_ge (tgt := 107) dX7_plan_100 (by decide) (fun q69 => ?_) (fun q69 => ?_)
          · have h := h.1 q69
            obtain ⟨q70, h⟩ := h
            refine z_iinc 7 dX7_plan_107 rfl (by decide) q70 rfl ?_
            refine z_goto (tgt := 61) dX7_plan_110 (by decide) ?_
            exact z_sub [1, 2, 3, 4, 5, 6, 7, 0] rfl h
          · have h := h.2 q69
            refine z_iload 7 dX7_plan_103 rfl ?_
            refine z_istore dX7_plan_105 (by decide) rfl ?_
            obtain ⟨q71, h⟩ := h
            refine z_iinc 7 dX7_plan_107 rfl (by decide) q71 rfl ?_
            refine z_goto (tgt := 61) dX7_plan_110 (by decide) ?_
            exact z_sub [2, 3, 4, 5, 6, 7, 1, 0] rfl h
theorem sX7_plan {E : zE} {d : Nat} {P : Int → zM → Prop} {M : zM} (a0 : Nat) (h : ∀ X : zX, (xh X).sig.returnType = (some .int) → ZX7_plan E d X P 0 [(0, vR (some a0))] [] M 0 0) : zCi E mX7_plan (d + 1) 2 80 [vR (some a0)] M P := z_start (f := mX7_plan) rfl (Nat.le_of_ble_eq_true rfl) rfl h
