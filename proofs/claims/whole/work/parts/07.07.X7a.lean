abbrev ZX7_best (E : zE) (d : Nat) (X : zX) (P : Int → zM → Prop) (pc : Nat) (Lc : List (Nat × zV)) (S : List zV) (M : zM) (ce sl : Nat) : Prop := zZ cX7_best RX7 "best" 5 E (zrm (d + 1) 0 0) X (zQ E (zPi P) X 0 0) pc Lc S M ce sl
set_option maxRecDepth 20000 in
theorem vX7_best_0 {E : zE} {d : Nat} {X : zX} {P : Int → zM → Prop} {M : zM} (hr : (xh X).sig.returnType = (some .int)) (a0 : Nat)
    (h : zK M a0 = (8, 25) ∧ (((zI M a0 8) < 1 → P (-1) M) ∧ (1 ≤ (zI M a0 8) → zK M a0 = (8, 25) ∧ ((6 < (zI M a0 8) → P (-1) M) ∧ ((zI M a0 8) ≤ 6 → zK M a0 = (8, 25) ∧ (((zI M a0 0) ≤ 0 → ZX7_best E d X P 28 [(0, vR (some a0)), (1, vI 0)] [] M 0 0) ∧ (0 < (zI M a0 0) → P (-1) M))))))) :
    ZX7_best E d X P 0 [(0, vR (some a0))] [] M 0 0 := by
  refine z_aload_n 0 dX7_best_0 rfl ?_
  obtain ⟨q1, h⟩ := h
  refine z_getI fl_X7_74 dX7_best_1 q1 ?_
  refine z_iconst dX7_best_4 (by decide) ?_
  refine z_icmp_lt (tgt := 24) dX7_best_5 (by decide) (fun q2 => ?_) (fun q2 => ?_)
  · have h := h.1 q2
    refine z_iconst dX7_best_24 (by decide) ?_
    exact z_iret hr dX7_best_25 (Nat.le_of_ble_eq_true rfl) (Nat.le_of_ble_eq_true rfl) ⟨_, rfl, h⟩
  · have h := h.2 q2
    refine z_aload_n 0 dX7_best_8 rfl ?_
    obtain ⟨q3, h⟩ := h
    refine z_getI fl_X7_74 dX7_best_9 q3 ?_
    refine z_bipush dX7_best_12 (by decide) ?_
    refine z_icmp_gt (tgt := 24) dX7_best_14 (by decide) (fun q4 => ?_) (fun q4 => ?_)
    · have h := h.1 q4
      refine z_iconst dX7_best_24 (by decide) ?_
      exact z_iret hr dX7_best_25 (Nat.le_of_ble_eq_true rfl) (Nat.le_of_ble_eq_true rfl) ⟨_, rfl, h⟩
    · have h := h.2 q4
      refine z_aload_n 0 dX7_best_17 rfl ?_
      obtain ⟨q5, h⟩ := h
      refine z_getI fl_X7_93 dX7_best_18 q5 ?_
      refine z_if_le (tgt := 26) dX7_best_21 (by decide) (fun q6 => ?_) (fun q6 => ?_)
      · have h := h.1 q6
        refine z_iconst dX7_best_26 (by decide) ?_
        refine z_istore_n dX7_best_27 (by decide) rfl ?_
        exact z_sub [1, 0] rfl h
      · have h := h.2 q6
        refine z_iconst dX7_best_24 (by decide) ?_
        exact z_iret hr dX7_best_25 (Nat.le_of_ble_eq_true rfl) (Nat.le_of_ble_eq_true rfl) ⟨_, rfl, h⟩
set_option maxRecDepth 20000 in
theorem vX7_best_28 {E : zE} {d : Nat} {X : zX} {P : Int → zM → Prop} {M : zM} (hr : (xh X).sig.returnType = (some .int)) (a0 : Nat) (x1 : Int)
    (h : zK M a0 = (8, 25) ∧ (((zI M a0 8) ≤ x1 → zK M a0 = (8, 25) ∧ ∃ b4, zR M a0 23 = some b4 ∧ (zK M b4).1 = 9 ∧ 0 ≤ (0 : Int) ∧ 0 < ((zK M b4).2 : Int) ∧ ∀ M8, M8 = zsI M b4 0 0 → ZX7_best E d X P 63 [(0, vR (some a0)), (1, vI (-1)), (2, vI 0)] [] M8 0 0) ∧ (x1 < (zI M a0 8) → zK M a0 = (8, 25) ∧ ∃ P9 : Int → zM → Prop, zCi E mX7_isPut d 0 0 [vR (some a0), vI x1] M P9 ∧ ∀ r12 M11, P9 r12 M11 → ((r12 = 0 → zin (x1 + 1) ∧ ZX7_best E d X P 28 [(0, vR (some a0)), (1, vI (x1 + 1))] [] M11 0 0) ∧ (r12 ≠ 0 → P (-1) M11))))) :
    ZX7_best E d X P 28 [(0, vR (some a0)), (1, vI x1)] [] M 0 0 := by
  refine z_iload_n 1 dX7_best_28 rfl ?_
  refine z_aload_n 0 dX7_best_29 rfl ?_
  obtain ⟨q1, h⟩ := h
  refine z_getI fl_X7_74 dX7_best_30 q1 ?_
  refine z_icmp_ge (tgt := 52) dX7_best_33 (by decide) (fun q2 => ?_) (fun q2 => ?_)
  · have h := h.1 q2
    refine z_iconst dX7_best_52 (by decide) ?_
    refine z_istore_n dX7_best_53 (by decide) rfl ?_
    refine z_iconst dX7_best_54 (by decide) ?_
    refine z_istore_n dX7_best_55 (by decide) rfl ?_
    refine z_aload_n 2 dX7_best_56 rfl ?_
    obtain ⟨q3, h⟩ := h
    refine z_getR fl_X7_68 rfl dX7_best_57 q3 ?_
    refine z_iconst dX7_best_60 (by decide) ?_
    refine z_iconst dX7_best_61 (by decide) ?_
    obtain ⟨b4, eb4, h⟩ := h
    rw [eb4]
    obtain ⟨q5, h⟩ := h
    obtain ⟨q6, h⟩ := h
    obtain ⟨q7, h⟩ := h
    refine z_iast dX7_best_62 (n := (zK M b4).2) (Prod.ext q5 rfl) q6 q7 ?_
    obtain ⟨M8, hmM8⟩ : ∃ z, z = zsI M b4 0 0 := ⟨_, rfl⟩
    rw [← hmM8]
    have h := h M8 hmM8
    exact z_sub [2, 1, 0] rfl h
  · have h := h.2 q2
    refine z_aload_n 0 dX7_best_36 rfl ?_
    refine z_iload_n 1 dX7_best_37 rfl ?_
    obtain ⟨q14, h⟩ := h
    obtain ⟨P9, c10, h⟩ := h
    refine z_Vi (as := [vI x1]) mv_X7_89 dX7_best_38 c10 q14 rfl rfl (Nat.le_of_ble_eq_true rfl) (Nat.le_of_ble_eq_true rfl) (Nat.le_of_ble_eq_true rfl) (fun r12 M11 p13 => ?_)
    have h := h r12 M11 p13
    refine z_if_eq (tgt := 46) dX7_best_41 (by decide) (fun q15 => ?_) (fun q15 => ?_)
    · have h := h.1 q15
      obtain ⟨q16, h⟩ := h
      refine z_iinc 1 dX7_best_46 rfl (by decide) q16 rfl ?_
      refine z_goto (tgt := 28) dX7_best_49 (by decide) ?_
      exact z_sub [1, 0] rfl h
    · have h := h.2 q15
      refine z_iconst dX7_best_44 (by decide) ?_
      exact z_iret hr dX7_best_45 (Nat.le_of_ble_eq_true rfl) (Nat.le_of_ble_eq_true rfl) ⟨_, rfl, h⟩
set_option maxRecDepth 20000 in
theorem vX7_best_63 {E : zE} {d : Nat} {X : zX} {P : Int → zM → Prop} {M : zM} (hr : (xh X).sig.returnType = (some .int)) (a0 : Nat) (x1 : Int) (x2 : Int)
    (h : ((x2 < 0 → ZX7_best E d X P 244 [(0, vR (some a0)), (1, vI x1), (2, vI x2), (3, vI 0)] [] M 0 0) ∧ (0 ≤ x2 → zK M a0 = (8, 25) ∧ ((x2 ≠ (zI M a0 8) → zK M a0 = (8, 25) ∧ ((x2 ≠ (zI M a0 8) → zK M a0 = (8, 25) ∧ ∃ b7, zR M a0 23 = some b7 ∧ (zK M b7).1 = 9 ∧ 0 ≤ x2 ∧ x2 < ((zK M b7).2 : Int) ∧ zK M a0 = (8, 25) ∧ (((zI M b7 x2) ≠ (zI M a0 8) → zK M a0 = (8, 25) ∧ (zK M b7).1 = 9 ∧ 0 ≤ x2 ∧ x2 < ((zK M b7).2 : Int) ∧ zin ((zI M b7 x2) + 1) ∧ (zK M b7).1 = 9 ∧ 0 ≤ x2 ∧ x2 < ((zK M b7).2 : Int) ∧ ∀ M21, M21 = zsI M b7 x2 ((zI M b7 x2) + 1) → zK M21 a0 = (8, 25) ∧ ∃ P22 : Int → zM → Prop, zCi E mX7_isReady d 0 0 [vR (some a0), vI (zI M b7 x2)] M21 P22 ∧ ∀ r25 M24, P22 r25 M24 → ((r25 ≠ 0 → zK M24 a0 = (8, 25) ∧ ∃ P29 : Int → zM → Prop, zCi E mX7_first d 0 0 [vR (some a0), vI (zI M b7 x2), vI 0] M24 P29 ∧ ∀ r32 M31, P29 r32 M31 → ((r32 ≠ (-1) → zK M31 a0 = (8, 25) ∧ ∃ b37, zR M31 a0 15 = some b37 ∧ (zK M31 b37).1 = 9 ∧ 0 ≤ (zI M b7 x2) ∧ (zI M b7 x2) < ((zK M31 b37).2 : Int) ∧ ∀ M41, M41 = zsI M31 b37 (zI M b7 x2) r32 → zK M41 a0 = (8, 25) ∧ ∃ b43, zR M41 a0 22 = some b43 ∧ (zK M41 b43).1 = 9 ∧ 0 ≤ x2 ∧ x2 < ((zK M41 b43).2 : Int) ∧ ∀ M47, M47 = zsI M41 b43 x2 (zI M b7 x2) → zin (x2 + 1) ∧ zK M47 a0 = (8, 25) ∧ ∃ b50, zR M47 a0 23 = some b50 ∧ (zK M47 b50).1 = 9 ∧ 0 ≤ (x2 + 1) ∧ (x2 + 1) < ((zK M47 b50).2 : Int) ∧ ∀ M54, M54 = zsI M47 b50 (x2 + 1) 0 → ZX7_best E d X P 63 [(0, vR (some a0)), (1, vI x1), (2, vI (x2 + 1))] [] M54 0 0) ∧ (r32 = (-1) → ZX7_best E d X P 63 [(0, vR (some a0)), (1, vI x1), (2, vI x2)] [] M31 0 0))) ∧ (r25 = 0 → ZX7_best E d X P 63 [(0, vR (some a0)), (1, vI x1), (2, vI x2)] [] M24 0 0))) ∧ ((zI M b7 x2) = (zI M a0 8) → zin (x2 + (-1)) ∧ (((x2 + (-1)) < 0 → ZX7_best E d X P 63 [(0, vR (some a0)), (1, vI x1), (2, vI (x2 + (-1)))] [] M 0 0) ∧ (0 ≤ (x2 + (-1)) → zK M a0 = (8, 25) ∧ zK M a0 = (8, 25) ∧ ∃ b59, zR M a0 22 = some b59 ∧ (zK M b59).1 = 9 ∧ 0 ≤ (x2 + (-1)) ∧ (x2 + (-1)) < ((zK M b59).2 : Int) ∧ ∃ b63, zR M a0 15 = some b63 ∧ (zK M b63).1 = 9 ∧ 0 ≤ (zI M b59 (x2 + (-1))) ∧ (zI M b59 (x2 + (-1))) < ((zK M b63).2 : Int) ∧ ∀ M67, M67 = zsI M b63 (zI M b59 (x2 + (-1))) (-1) → ZX7_best E d X P 63 [(0, vR (some a0)), (1, vI x1), (2, vI (x2 + (-1)))] [] M67 0 0))))) ∧ (x2 = (zI M a0 8) → zK M a0 = (8, 25) ∧ zK M a0 = (8, 25) ∧ (((zI M a0 8) ≠ (zI M a0 8) → zK M a0 = (8, 25) ∧ ∃ b72, zR M a0 23 = some b72 ∧ (zK M b72).1 = 9 ∧ 0 ≤ x2 ∧ x2 < ((zK M b72).2 : Int) ∧ zin ((zI M b72 x2) + 1) ∧ (zK M b72).1 = 9 ∧ 0 ≤ x2 ∧ x2 < ((zK M b72).2 : Int) ∧ ∀ M80, M80 = zsI M b72 x2 ((zI M b72 x2) + 1) → zK M80 a0 = (8, 25) ∧ ∃ P81 : Int → zM → Prop, zCi E mX7_isReady d 0 0 [vR (some a0), vI (zI M a0 8)] M80 P81 ∧ ∀ r84 M83, P81 r84 M83 → ((r84 ≠ 0 → zK M83 a0 = (8, 25) ∧ ∃ P88 : Int → zM → Prop, zCi E mX7_first d 0 0 [vR (some a0), vI (zI M a0 8), vI 0] M83 P88 ∧ ∀ r91 M90, P88 r91 M90 → ((r91 ≠ (-1) → zK M90 a0 = (8, 25) ∧ ∃ b96, zR M90 a0 15 = some b96 ∧ (zK M90 b96).1 = 9 ∧ 0 ≤ (zI M a0 8) ∧ (zI M a0 8) < ((zK M90 b96).2 : Int) ∧ ∀ M100, M100 = zsI M90 b96 (zI M a0 8) r91 → zK M100 a0 = (8, 25) ∧ ∃ b102, zR M100 a0 22 = some b102 ∧ (zK M100 b102).1 = 9 ∧ 0 ≤ x2 ∧ x2 < ((zK M100 b102).2 : Int) ∧ ∀ M106, M106 = zsI M100 b102 x2 (zI M a0 8) → zin (x2 + 1) ∧ zK M106 a0 = (8, 25) ∧ ∃ b109, zR M106 a0 23 = some b109 ∧ (zK M106 b109).1 = 9 ∧ 0 ≤ (x2 + 1) ∧ (x2 + 1) < ((zK M106 b109).2 : Int) ∧ ∀ M113, M113 = zsI M106 b109 (x2 + 1) 0 → ZX7_best E d X P 63 [(0, vR (some a0)), (1, vI x1), (2, vI (x2 + 1))] [] M113 0 0) ∧ (r91 = (-1) → ZX7_best E d X P 63 [(0, vR (some a0)), (1, vI x1), (2, vI x2)] [] M90 0 0))) ∧ (r84 = 0 → ZX7_best E d X P 63 [(0, vR (some a0)), (1, vI x1), (2, vI x2)] [] M83 0 0))) ∧ ((zI M a0 8) = (zI M a0 8) → zin (x2 + (-1)) ∧ (((x2 + (-1)) < 0 → ZX7_best E d X P 63 [(0, vR (some a0)), (1, vI x1), (2, vI (x2 + (-1)))] [] M 0 0) ∧ (0 ≤ (x2 + (-1)) → zK M a0 = (8, 25) ∧ zK M a0 = (8, 25) ∧ ∃ b118, zR M a0 22 = some b118 ∧ (zK M b118).1 = 9 ∧ 0 ≤ (x2 + (-1)) ∧ (x2 + (-1)) < ((zK M b118).2 : Int) ∧ ∃ b122, zR M a0 15 = some b122 ∧ (zK M b122).1 = 9 ∧ 0 ≤ (zI M b118 (x2 + (-1))) ∧ (zI M b118 (x2 + (-1))) < ((zK M b122).2 : Int) ∧ ∀ M126, M126 = zsI M b122 (zI M b118 (x2 + (-1))) (-1) → ZX7_best E d X P 63 [(0, vR (some a0)), (1, vI x1), (2, vI (x2 + (-1)))] [] M126 0 0))))))) ∧ (x2 = (zI M a0 8) → zK M a0 = (8, 25) ∧ ∃ P127 : Int → zM → Prop, zCi E mX7_end d 0 0 [vR (some a0)] M P127 ∧ ∀ r130 M129, P127 r130 M129 → ((x1 = (-1) → ZX7_best E d X P 95 [(0, vR (some a0)), (1, vI r130), (2, vI x2), (3, vI r130), (4, vI 0)] [] M129 0 0) ∧ (x1 ≠ (-1) → ((x1 ≤ r130 → zK M129 a0 = (8, 25) ∧ ((x2 ≠ (zI M129 a0 8) → zK M129 a0 = (8, 25) ∧ ∃ b138, zR M129 a0 23 = some b138 ∧ (zK M129 b138).1 = 9 ∧ 0 ≤ x2 ∧ x2 < ((zK M129 b138).2 : Int) ∧ zK M129 a0 = (8, 25) ∧ (((zI M129 b138 x2) ≠ (zI M129 a0 8) → zK M129 a0 = (8, 25) ∧ (zK M129 b138).1 = 9 ∧ 0 ≤ x2 ∧ x2 < ((zK M129 b138).2 : Int) ∧ zin ((zI M129 b138 x2) + 1) ∧ (zK M129 b138).1 = 9 ∧ 0 ≤ x2 ∧ x2 < ((zK M129 b138).2 : Int) ∧ ∀ M152, M152 = zsI M129 b138 x2 ((zI M129 b138 x2) + 1) → zK M152 a0 = (8, 25) ∧ ∃ P153 : Int → zM → Prop, zCi E mX7_isReady d 0 0 [vR (some a0), vI (zI M129 b138 x2)] M152 P153 ∧ ∀ r156 M155, P153 r156 M155 → ((r156 ≠ 0 → zK M155 a0 = (8, 25) ∧ ∃ P160 : Int → zM → Prop, zCi E mX7_first d 0 0 [vR (some a0), vI (zI M129 b138 x2), vI 0] M155 P160 ∧ ∀ r163 M162, P160 r163 M162 → ((r163 ≠ (-1) → zK M162 a0 = (8, 25) ∧ ∃ b168, zR M162 a0 15 = some b168 ∧ (zK M162 b168).1 = 9 ∧ 0 ≤ (zI M129 b138 x2) ∧ (zI M129 b138 x2) < ((zK M162 b168).2 : Int) ∧ ∀ M172, M172 = zsI M162 b168 (zI M129 b138 x2) r163 → zK M172 a0 = (8, 25) ∧ ∃ b174, zR M172 a0 22 = some b174 ∧ (zK M172 b174).1 = 9 ∧ 0 ≤ x2 ∧ x2 < ((zK M172 b174).2 : Int) ∧ ∀ M178, M178 = zsI M172 b174 x2 (zI M129 b138 x2) → zin (x2 + 1) ∧ zK M178 a0 = (8, 25) ∧ ∃ b181, zR M178 a0 23 = some b181 ∧ (zK M178 b181).1 = 9 ∧ 0 ≤ (x2 + 1) ∧ (x2 + 1) < ((zK M178 b181).2 : Int) ∧ ∀ M185, M185 = zsI M178 b181 (x2 + 1) 0 → ZX7_best E d X P 63 [(0, vR (some a0)), (1, vI x1), (2, vI (x2 + 1))] [] M185 0 0) ∧ (r163 = (-1) → ZX7_best E d X P 63 [(0, vR (some a0)), (1, vI x1), (2, vI x2)] [] M162 0 0))) ∧ (r156 = 0 → ZX7_best E d X P 63 [(0, vR (some a0)), (1, vI x1), (2, vI x2)] [] M155 0 0))) ∧ ((zI M129 b138 x2) = (zI M129 a0 8) → zin (x2 + (-1)) ∧ (((x2 + (-1)) < 0 → ZX7_best E d X P 63 [(0, vR (some a0)), (1, vI x1), (2, vI (x2 + (-1)))] [] M129 0 0) ∧ (0 ≤ (x2 + (-1)) → zK M129 a0 = (8, 25) ∧ zK M129 a0 = (8, 25) ∧ ∃ b190, zR M129 a0 22 = some b190 ∧ (zK M129 b190).1 = 9 ∧ 0 ≤ (x2 + (-1)) ∧ (x2 + (-1)) < ((zK M129 b190).2 : Int) ∧ ∃ b194, zR M129 a0 15 = some b194 ∧ (zK M129 b194).1 = 9 ∧ 0 ≤ (zI M129 b190 (x2 + (-1))) ∧ (zI M129 b190 (x2 + (-1))) < ((zK M129 b194).2 : Int) ∧ ∀ M198, M198 = zsI M129 b194 (zI M129 b190 (x2 + (-1))) (-1) → ZX7_best E d X P 63 [(0, vR (some a0)), (1, vI x1), (2, vI (x2 + (-1)))] [] M198 0 0))))) ∧ (x2 = (zI M129 a0 8) → zK M129 a0 = (8, 25) ∧ zK M129 a0 = (8, 25) ∧ (((zI M129 a0 8) ≠ (zI M129 a0 8) → zK M129 a0 = (8, 25) ∧ ∃ b203, zR M129 a0 23 = some b203 ∧ (zK M129 b203).1 = 9 ∧ 0 ≤ x2 ∧ x2 < ((zK M129 b203).2 : Int) ∧ zin ((zI M129 b203 x2) + 1) ∧ (zK M129 b203).1 = 9 ∧ 0 ≤ x2 ∧ x2 < ((zK M129 b203).2 : Int) ∧ ∀ M211, M211 = zsI M129 b203 x2 ((zI M129 b203 x2) + 1) → zK M211 a0 = (8, 25) ∧ ∃ P212 : Int → zM → Prop, zCi E mX7_isReady d 0 0 [vR (some a0), vI (zI M129 a0 8)] M211 P212 ∧ ∀ r215 M214, P212 r215 M214 → ((r215 ≠ 0 → zK M214 a0 = (8, 25) ∧ ∃ P219 : Int → zM → Prop, zCi E mX7_first d 0 0 [vR (some a0), vI (zI M129 a0 8), vI 0] M214 P219 ∧ ∀ r222 M221, P219 r222 M221 → ((r222 ≠ (-1) → zK M221 a0 = (8, 25) ∧ ∃ b227, zR M221 a0 15 = some b227 ∧ (zK M221 b227).1 = 9 ∧ 0 ≤ (zI M129 a0 8) ∧ (zI M129 a0 8) < ((zK M221 b227).2 : Int) ∧ ∀ M231, M231 = zsI M221 b227 (zI M129 a0 8) r222 → zK M231 a0 = (8, 25) ∧ ∃ b233, zR M231 a0 22 = some b233 ∧ (zK M231 b233).1 = 9 ∧ 0 ≤ x2 ∧ x2 < ((zK M231 b233).2 : Int) ∧ ∀ M237, M237 = zsI M231 b233 x2 (zI M129 a0 8) → zin (x2 + 1) ∧ zK M237 a0 = (8, 25) ∧ ∃ b240, zR M237 a0 23 = some b240 ∧ (zK M237 b240).1 = 9 ∧ 0 ≤ (x2 + 1) ∧ (x2 + 1) < ((zK M237 b240).2 : Int) ∧ ∀ M244, M244 = zsI M237 b240 (x2 + 1) 0 → ZX7_best E d X P 63 [(0, vR (some a0)), (1, vI x1), (2, vI (x2 + 1))] [] M244 0 0) ∧ (r222 = (-1) → ZX7_best E d X P 63 [(0, vR (some a0)), (1, vI x1), (2, vI x2)] [] M221 0 0))) ∧ (r215 = 0 → ZX7_best E d X P 63 [(0, vR (some a0)), (1, vI x1), (2, vI x2)] [] M214 0 0))) ∧ ((zI M129 a0 8) = (zI M129 a0 8) → zin (x2 + (-1)) ∧ (((x2 + (-1)) < 0 → ZX7_best E d X P 63 [(0, vR (some a0)), (1, vI x1), (2, vI (x2 + (-1)))] [] M129 0 0) ∧ (0 ≤ (x2 + (-1)) → zK M129 a0 = (8, 25) ∧ zK M129 a0 = (8, 25) ∧ ∃ b249, zR M129 a0 22 = some b249 ∧ (zK M129 b249).1 = 9 ∧ 0 ≤ (x2 + (-1)) ∧ (x2 + (-1)) < ((zK M129 b249).2 : Int) ∧ ∃ b253, zR M129 a0 15 = some b253 ∧ (zK M129 b253).1 = 9 ∧ 0 ≤ (zI M129 b249 (x2 + (-1))) ∧ (zI M129 b249 (x2 + (-1))) < ((zK M129 b253).2 : Int) ∧ ∀ M257, M257 = zsI M129 b253 (zI M129 b249 (x2 + (-1))) (-1) → ZX7_best E d X P 63 [(0, vR (some a0)), (1, vI x1), (2, vI (x2 + (-1)))] [] M257 0 0))))))) ∧ (r130 < x1 → ZX7_best E d X P 95 [(0, vR (some a0)), (1, vI r130), (2, vI x2), (3, vI r130), (4, vI 0)] [] M129 0 0))))))))) :
    ZX7_best E d X P 63 [(0, vR (some a0)), (1, vI x1), (2, vI x2)] [] M 0 0 := by
  refine z_iload_n 2 dX7_best_63 rfl ?_
  refine z_if_lt (tgt := 242) dX7_best_64 (by decide) (fun q1 => ?_) (fun q1 => ?_)
  · have h := h.1 q1
    refine z_iconst dX7_best_242 (by decide) ?_
    refine z_istore_n dX7_best_243 (by decide) rfl ?_
    exact z_sub [1, 2, 3, 0] rfl h
  · have h := h.2 q1
    refine z_iload_n 2 dX7_best_67 rfl ?_
    refine z_aload_n 0 dX7_best_68 rfl ?_
    obtain ⟨q2, h⟩ := h
    refine z_getI fl_X7_74 dX7_best_69 q2 ?_
    refine z_icmp_ne (tgt := 124) dX7_best_72 (by decide) (fun q3 => ?_) (fun q3 => ?_)
    · have h := h.1 q3
      refine z_iload_n 2 dX7_best_124 rfl ?_
      refine z_aload_n 0 dX7_best_125 rfl ?_
      obtain ⟨q4, h⟩ := h
      refine z_getI fl_X7_74 dX7_best_126 q4 ?_
      refine z_icmp_ne (tgt := 139) dX7_best_129 (by decide) (fun q5 => ?_) (fun q5 => ?_)
      · have h := h.1 q5
        refine z_aload_n 0 dX7_best_139 rfl ?_
        obtain ⟨q6, h⟩ := h
        refine z_getR fl_X7_68 rfl dX7_best_140 q6 ?_
        refine z_iload_n 2 dX7_best_143 rfl ?_
        obtain ⟨b7, eb7, h⟩ := h
        rw [eb7]
        obtain ⟨q8, h⟩ := h
        obtain ⟨q9, h⟩ := h
        obtain ⟨q10, h⟩ := h
        refine z_iald dX7_best_144 (n := (zK M b7).2) (Prod.ext q8 rfl) q9 q10 ?_
        refine z_istore_n dX7_best_145 (by decide) rfl ?_
        refine z_iload_n 0 dX7_best_146 rfl ?_
        refine z_aload_n 1 dX7_best_147 rfl ?_
        obtain ⟨q11, h⟩ := h
        refine z_getI fl_X7_74 dX7_best_148 q11 ?_
        refine z_icmp_ne (tgt := 176) dX7_best_151 (by decide) (fun q12 => ?_) (fun q12 => ?_)
        · have h := h.1 q12
          refine z_aload_n 1 dX7_best_176 rfl ?_
          obtain ⟨q13, h⟩ := h
          refine z_getR fl_X7_68 rfl dX7_best_177 q13 ?_
          rw [eb7]
          refine z_iload_n 3 dX7_best_180 rfl ?_
          refine z_dup2 dX7_best_181 rfl rfl ?_
          obtain ⟨q14, h⟩ := h
          obtain ⟨q15, h⟩ := h
          obtain ⟨q16, h⟩ := h
          refine z_iald dX7_best_182 (n := (zK M b7).2) (Prod.ext q14 rfl) q15 q16 ?_
          refine z_iconst dX7_best_183 (by decide) ?_
          obtain ⟨q17, h⟩ := h
          refine z_iadd dX7_best_184 q17 ?_
          obtain ⟨q18, h⟩ := h
          obtain ⟨q19, h⟩ := h
          obtain ⟨q20, h⟩ := h
          refine z_iast dX7_best_185 (n := (zK M b7).2) (Prod.ext q18 rfl) q19 q20 ?_
          obtain ⟨M21, hmM21⟩ : ∃ z, z = zsI M b7 x2 ((zI M b7 x2) + 1) := ⟨_, rfl⟩
          rw [← hmM21]
          have h := h M21 hmM21
          refine z_aload_n 1 dX7_best_186 rfl ?_
          refine z_iload_n 0 dX7_best_187 rfl ?_
          obtain ⟨q27, h⟩ := h
          obtain ⟨P22, c23, h⟩ := h
          refine z_Vi (as := [vI (zI M b7 x2)]) mv_X7_139 dX7_best_188 c23 q27 rfl rfl (Nat.le_of_ble_eq_true rfl) (Nat.le_of_ble_eq_true rfl) (Nat.le_of_ble_eq_true rfl) (fun r25 M24 p26 => ?_)
          have h := h r25 M24 p26
          refine z_if_ne (tgt := 197) dX7_best_191 (by decide) (fun q28 => ?_) (fun q28 => ?_)
          · have h := h.1 q28
            refine z_aload_n 1 dX7_best_197 rfl ?_
            refine z_iload_n 0 dX7_best_198 rfl ?_
            refine z_iconst dX7_best_199 (by decide) ?_
            obtain ⟨q34, h⟩ := h
            obtain ⟨P29, c30, h⟩ := h
            refine z_Vi (as := [vI (zI M b7 x2), vI 0]) mv_X7_142 dX7_best_200 c30 q34 rfl rfl (Nat.le_of_ble_eq_true rfl) (Nat.le_of_ble_eq_true rfl) (Nat.le_of_ble_eq_true rfl) (fun r32 M31 p33 => ?_)
            have h := h r32 M31 p33
            refine z_istore dX7_best_203 (by decide) rfl ?_
            refine z_iload 0 dX7_best_205 rfl ?_
            refine z_iconst dX7_best_207 (by decide) ?_
            refine z_icmp_ne (tgt := 214) dX7_best_208 (by decide) (fun q35 => ?_) (fun q35 => ?_)
            · have h := h.1 q35
              refine z_aload_n 2 dX7_best_214 rfl ?_
              obtain ⟨q36, h⟩ := h
              refine z_getR fl_X7_44 rfl dX7_best_215 q36 ?_
              refine z_iload_n 1 dX7_best_218 rfl ?_
              refine z_iload 0 dX7_best_219 rfl ?_
              obtain ⟨b37, eb37, h⟩ := h
              rw [eb37]
              obtain ⟨q38, h⟩ := h
              obtain ⟨q39, h⟩ := h
              obtain ⟨q40, h⟩ := h
              refine z_iast dX7_best_221 (n := (zK M31 b37).2) (Prod.ext q38 rfl) q39 q40 ?_
              obtain ⟨M41, hmM41⟩ : ∃ z, z = zsI M31 b37 (zI M b7 x2) r32 := ⟨_, rfl⟩
              rw [← hmM41]
              have h := h M41 hmM41
              refine z_aload_n 2 dX7_best_222 rfl ?_
              obtain ⟨q42, h⟩ := h
              refine z_getR fl_X7_65 rfl dX7_best_223 q42 ?_
              refine z_iload_n 4 dX7_best_226 rfl ?_
              refine z_iload_n 1 dX7_best_227 rfl ?_
              obtain ⟨b43, eb43, h⟩ := h
              rw [eb43]
              obtain ⟨q44, h⟩ := h
              obtain ⟨q45, h⟩ := h
              obtain ⟨q46, h⟩ := h
              refine z_iast dX7_best_228 (n := (zK M41 b43).2) (Prod.ext q44 rfl) q45 q46 ?_
              obtain ⟨M47, hmM47⟩ : ∃ z, z = zsI M41 b43 x2 (zI M b7 x2) := ⟨_, rfl⟩
              rw [← hmM47]
              have h := h M47 hmM47
              obtain ⟨q48, h⟩ := h
              refine z_iinc 4 dX7_best_229 rfl (by decide) q48 rfl ?_
              refine z_aload_n 3 dX7_best_232 rfl ?_
              obtain ⟨q49, h⟩ := h
              refine z_getR fl_X7_68 rfl dX7_best_233 q49 ?_
              refine z_iload_n 0 dX7_best_236 rfl ?_
              refine z_iconst dX7_best_237 (by decide) ?_
              obtain ⟨b50, eb50, h⟩ := h
              rw [eb50]
              obtain ⟨q51, h⟩ := h
              obtain ⟨q52, h⟩ := h
              obtain ⟨q53, h⟩ := h
              refine z_iast dX7_best_238 (n := (zK M47 b50).2) (Prod.ext q51 rfl) q52 q53 ?_
              obtain ⟨M54, hmM54⟩ : ∃ z, z = zsI M47 b50 (x2 + 1) 0 := ⟨_, rfl⟩
              rw [← hmM54]
              have h := h M54 hmM54
              refine z_goto (tgt := 63) dX7_best_239 (by decide) ?_
              exact z_sub [3, 4, 0] rfl h
            · have h := h.2 q35
              refine z_goto (tgt := 63) dX7_best_211 (by decide) ?_
              exact z_sub [2, 3, 4] rfl h
          · have h := h.2 q28
            refine z_goto (tgt := 63) dX7_best_194 (by decide) ?_
            exact z_sub [1, 2, 3] rfl h
        · have h := h.2 q12
          obtain ⟨q55, h⟩ := h
          refine z_iinc 3 dX7_best_154 rfl (by decide) q55 rfl ?_
          refine z_iload_n 0 dX7_best_157 rfl ?_
          refine z_if_lt (tgt := 63) dX7_best_158 (by decide) (fun q56 => ?_) (fun q56 => ?_)
          · have h := h.1 q56
            exact z_sub [2, 3, 0] rfl h
          · have h := h.2 q56
            refine z_aload_n 2 dX7_best_161 rfl ?_
            obtain ⟨q57, h⟩ := h
            refine z_getR fl_X7_44 rfl dX7_best_162 q57 ?_
            refine z_aload_n 2 dX7_best_165 rfl ?_
            obtain ⟨q58, h⟩ := h
            refine z_getR fl_X7_65 rfl dX7_best_166 q58 ?_
            refine z_iload_n 0 dX7_best_169 rfl ?_
            obtain ⟨b59, eb59, h⟩ := h
            rw [eb59]
            obtain ⟨q60, h⟩ := h
            obtain ⟨q61, h⟩ := h
            obtain ⟨q62, h⟩ := h
            refine z_iald dX7_best_170 (n := (zK M b59).2) (Prod.ext q60 rfl) q61 q62 ?_
            refine z_iconst dX7_best_171 (by decide) ?_
            obtain ⟨b63, eb63, h⟩ := h
            rw [eb63]
            obtain ⟨q64, h⟩ := h
            obtain ⟨q65, h⟩ := h
            obtain ⟨q66, h⟩ := h
            refine z_iast dX7_best_172 (n := (zK M b63).2) (Prod.ext q64 rfl) q65 q66 ?_
            obtain ⟨M67, hmM67⟩ : ∃ z, z = zsI M b63 (zI M b59 (x2 + (-1))) (-1) := ⟨_, rfl⟩
            rw [← hmM67]
            have h := h M67 hmM67
            refine z_goto (tgt := 63) dX7_best_173 (by decide) ?_
            exact z_sub [2, 3, 0] rfl h
      · have h := h.2 q5
        refine z_aload_n 0 dX7_best_132 rfl ?_
        obtain ⟨q68, h⟩ := h
        refine z_getI fl_X7_74 dX7_best_133 q68 ?_
        refine z_goto (tgt := 145) dX7_best_136 (by decide) ?_
        refine z_istore_n dX7_best_145 (by decide) rfl ?_
        refine z_iload_n 0 dX7_best_146 rfl ?_
        refine z_aload_n 1 dX7_best_147 rfl ?_
        obtain ⟨q69, h⟩ := h
        refine z_getI fl_X7_74 dX7_best_148 q69 ?_
        refine z_icmp_ne (tgt := 176) dX7_best_151 (by decide) (fun q70 => ?_) (fun q70 => ?_)
        · have h := h.1 q70
          refine z_aload_n 1 dX7_best_176 rfl ?_
          obtain ⟨q71, h⟩ := h
          refine z_getR fl_X7_68 rfl dX7_best_177 q71 ?_
          refine z_iload_n 3 dX7_best_180 rfl ?_
          refine z_dup2 dX7_best_181 rfl rfl ?_
          obtain ⟨b72, eb72, h⟩ := h
          rw [eb72]
          obtain ⟨q73, h⟩ := h
          obtain ⟨q74, h⟩ := h
          obtain ⟨q75, h⟩ := h
          refine z_iald dX7_best_182 (n := (zK M b72).2) (Prod.ext q73 rfl) q74 q75 ?_
          refine z_iconst dX7_best_183 (by decide) ?_
          obtain ⟨q76, h⟩ := h
          refine z_iadd dX7_best_184 q76 ?_
          obtain ⟨q77, h⟩ := h
          obtain ⟨q78, h⟩ := h
          obtain ⟨q79, h⟩ := h
          refine z_iast dX7_best_185 (n := (zK M b72).2) (Prod.ext q77 rfl) q78 q79 ?_
          obtain ⟨M80, hmM80⟩ : ∃ z, z = zsI M b72 x2 ((zI M b72 x2) + 1) := ⟨_, rfl⟩
          rw [← hmM80]
          have h := h M80 hmM80
          refine z_aload_n 1 dX7_best_186 rfl ?_
          refine z_iload_n 0 dX7_best_187 rfl ?_
          obtain ⟨q86, h⟩ := h
          obtain ⟨P81, c82, h⟩ := h
          refine z_Vi (as := [vI (zI M a0 8)]) mv_X7_139 dX7_best_188 c82 q86 rfl rfl (Nat.le_of_ble_eq_true rfl) (Nat.le_of_ble_eq_true rfl) (Nat.le_of_ble_eq_true rfl) (fun r84 M83 p85 => ?_)
          have h := h r84 M83 p85
          refine z_if_ne (tgt := 197) dX7_best_191 (by decide) (fun q87 => ?_) (fun q87 => ?_)
          · have h := h.1 q87
            refine z_aload_n 1 dX7_best_197 rfl ?_
            refine z_iload_n 0 dX7_best_198 rfl ?_
            refine z_iconst dX7_best_199 (by decide) ?_
            obtain ⟨q93, h⟩ := h
            obtain ⟨P88, c89, h⟩ := h
            refine z_Vi (as := [vI (zI M a0 8), vI 0]) mv_X7_142 dX7_best_200 c89 q93 rfl rfl (Nat.le_of_ble_eq_true rfl) (Nat.le_of_ble_eq_true rfl) (Nat.le_of_ble_eq_true rfl) (fun r91 M90 p92 => ?_)
            have h := h r91 M90 p92
            refine z_istore dX7_best_203 (by decide) rfl ?_
            refine z_iload 0 dX7_best_205 rfl ?_
            refine z_iconst dX7_best_207 (by decide) ?_
            refine z_icmp_ne (tgt := 214) dX7_best_208 (by decide) (fun q94 => ?_) (fun q94 => ?_)
            · have h := h.1 q94
              refine z_aload_n 2 dX7_best_214 rfl ?_
              obtain ⟨q95, h⟩ := h
              refine z_getR fl_X7_44 rfl dX7_best_215 q95 ?_
              refine z_iload_n 1 dX7_best_218 rfl ?_
              refine z_iload 0 dX7_best_219 rfl ?_
              obtain ⟨b96, eb96, h⟩ := h
              rw [eb96]
              obtain ⟨q97, h⟩ := h
              obtain ⟨q98, h⟩ := h
              obtain ⟨q99, h⟩ := h
              refine z_iast dX7_best_221 (n := (zK M90 b96).2) (Prod.ext q97 rfl) q98 q99 ?_
              obtain ⟨M100, hmM100⟩ : ∃ z, z = zsI M90 b96 (zI M a0 8) r91 := ⟨_, rfl⟩
              rw [← hmM100]
              have h := h M100 hmM100
              refine z_aload_n 2 dX7_best_222 rfl ?_
              obtain ⟨q101, h⟩ := h
              refine z_getR fl_X7_65 rfl dX7_best_223 q101 ?_
              refine z_iload_n 4 dX7_best_226 rfl ?_
              refine z_iload_n 1 dX7_best_227 rfl ?_
              obtain ⟨b102, eb102, h⟩ := h
              rw [eb102]
              obtain ⟨q103, h⟩ := h
              obtain ⟨q104, h⟩ := h
              obtain ⟨q105, h⟩ := h
              refine z_iast dX7_best_228 (n := (zK M100 b102).2) (Prod.ext q103 rfl) q104 q105 ?_
              obtain ⟨M106, hmM106⟩ : ∃ z, z = zsI M100 b102 x2 (zI M a0 8) := ⟨_, rfl⟩
              rw [← hmM106]
              have h := h M106 hmM106
              obtain ⟨q107, h⟩ := h
              refine z_iinc 4 dX7_best_229 rfl (by decide) q107 rfl ?_
              refine z_aload_n 3 dX7_best_232 rfl ?_
              obtain ⟨q108, h⟩ := h
              refine z_getR fl_X7_68 rfl dX7_best_233 q108 ?_
              refine z_iload_n 0 dX7_best_236 rfl ?_
              refine z_iconst dX7_best_237 (by decide) ?_
              obtain ⟨b109, eb109, h⟩ := h
              rw [eb109]
              obtain ⟨q110, h⟩ := h
              obtain ⟨q111, h⟩ := h
              obtain ⟨q112, h⟩ := h
              refine z_iast dX7_best_238 (n := (zK M106 b109).2) (Prod.ext q110 rfl) q111 q112 ?_
              obtain ⟨M113, hmM113⟩ : ∃ z, z = zsI M106 b109 (x2 + 1) 0 := ⟨_, rfl⟩
              rw [← hmM113]
              have h := h M113 hmM113
              refine z_goto (tgt := 63) dX7_best_239 (by decide) ?_
              exact z_sub [3, 4, 0] rfl h
            · have h := h.2 q94
              refine z_goto (tgt := 63) dX7_best_211 (by decide) ?_
              exact z_sub [2, 3, 4] rfl h
          · have h := h.2 q87
            refine z_goto (tgt := 63) dX7_best_194 (by decide) ?_
            exact z_sub [1, 2, 3] rfl h
        · have h := h.2 q70
          obtain ⟨q114, h⟩ := h
          refine z_iinc 3 dX7_best_154 rfl (by decide) q114 rfl ?_
          refine z_iload_n 0 dX7_best_157 rfl ?_
          refine z_if_lt (tgt := 63) dX7_best_158 (by decide) (fun q115 => ?_) (fun q115 => ?_)
          · have h := h.1 q115
            exact z_sub [2, 3, 0] rfl h
          · have h := h.2 q115
            refine z_aload_n 2 dX7_best_161 rfl ?_
            obtain ⟨q116, h⟩ := h
            refine z_getR fl_X7_44 rfl dX7_best_162 q116 ?_
            refine z_aload_n 2 dX7_best_165 rfl ?_
            obtain ⟨q117, h⟩ := h
            refine z_getR fl_X7_65 rfl dX7_best_166 q117 ?_
            refine z_iload_n 0 dX7_best_169 rfl ?_
            obtain ⟨b118, eb118, h⟩ := h
            rw [eb118]
            obtain ⟨q119, h⟩ := h
            obtain ⟨q120, h⟩ := h
            obtain ⟨q121, h⟩ := h
            refine z_iald dX7_best_170 (n := (zK M b118).2) (Prod.ext q119 rfl) q120 q121 ?_
            refine z_iconst dX7_best_171 (by decide) ?_
            obtain ⟨b122, eb122, h⟩ := h
            rw [eb122]
            obtain ⟨q123, h⟩ := h
            obtain ⟨q124, h⟩ := h
            obtain ⟨q125, h⟩ := h
            refine z_iast dX7_best_172 (n := (zK M b122).2) (Prod.ext q123 rfl) q124 q125 ?_
            obtain ⟨M126, hmM126⟩ : ∃ z, z = zsI M b122 (zI M b118 (x2 + (-1))) (-1) := ⟨_, rfl⟩
            rw [← hmM126]
            have h := h M126 hmM126
            refine z_goto (tgt := 63) dX7_best_173 (by decide) ?_
            exact z_sub [2, 3, 0] rfl h
    · have h := h.2 q3
      refine z_aload_n 0 dX7_best_75 rfl ?_
      obtain ⟨q132, h⟩ := h
      obtain ⟨P127, c128, h⟩ := h
      refine z_Vi (as := []) mv_X7_145 dX7_best_76 c128 q132 rfl rfl (Nat.le_of_ble_eq_true rfl) (Nat.le_of_ble_eq_true rfl) (Nat.le_of_ble_eq_true rfl) (fun r130 M129 p131 => ?_)
      have h := h r130 M129 p131
      refine z_istore_n dX7_best_79 (by decide) rfl ?_
      refine z_iload_n 2 dX7_best_80 rfl ?_
      refine z_iconst dX7_best_81 (by decide) ?_
      refine z_icmp_eq (tgt := 90) dX7_best_82 (by decide) (fun q133 => ?_) (fun q133 => ?_)
      · have h := h.1 q133
        refine z_iload_n 0 dX7_best_90 rfl ?_
        refine z_istore_n dX7_best_91 (by decide) rfl ?_
        refine z_iconst dX7_best_92 (by decide) ?_
        refine z_istore dX7_best_93 (by decide) rfl ?_
        exact z_sub [3, 1, 4, 2, 0] rfl h
      · have h := h.2 q133
        refine z_iload_n 0 dX7_best_85 rfl ?_
        refine z_iload_n 2 dX7_best_86 rfl ?_
        refine z_icmp_ge (tgt := 124) dX7_best_87 (by decide) (fun q134 => ?_) (fun q134 => ?_)
        · have h := h.1 q134
          refine z_iload_n 3 dX7_best_124 rfl ?_
          refine z_aload_n 1 dX7_best_125 rfl ?_
          obtain ⟨q135, h⟩ := h
          refine z_getI fl_X7_74 dX7_best_126 q135 ?_
          refine z_icmp_ne (tgt := 139) dX7_best_129 (by decide) (fun q136 => ?_) (fun q136 => ?_)
          · have h := h.1 q136
            refine z_aload_n 1 dX7_best_139 rfl ?_
            obtain ⟨q137, h⟩ := h
            refine z_getR fl_X7_68 rfl dX7_best_140 q137 ?_
            refine z_iload_n 3 dX7_best_143 rfl ?_
            obtain ⟨b138, eb138, h⟩ := h
            rw [eb138]
            obtain ⟨q139, h⟩ := h
            obtain ⟨q140, h⟩ := h
            obtain ⟨q141, h⟩ := h
            refine z_iald dX7_best_144 (n := (zK M129 b138).2) (Prod.ext q139 rfl) q140 q141 ?_
            refine z_istore_n dX7_best_145 (by decide) rfl ?_
            refine z_iload_n 0 dX7_best_146 rfl ?_
            refine z_aload_n 1 dX7_best_147 rfl ?_
            obtain ⟨q142, h⟩ := h
            refine z_getI fl_X7_74 dX7_best_148 q142 ?_
            refine z_icmp_ne (tgt := 176) dX7_best_151 (by decide) (fun q143 => ?_) (fun q143 => ?_)
            · have h := h.1 q143
              refine z_aload_n 1 dX7_best_176 rfl ?_
              obtain ⟨q144, h⟩ := h
              refine z_getR fl_X7_68 rfl dX7_best_177 q144 ?_
              rw [eb138]
              refine z_iload_n 3 dX7_best_180 rfl ?_
              refine z_dup2 dX7_best_181 rfl rfl ?_
              obtain ⟨q145, h⟩ := h
              obtain ⟨q146, h⟩ := h
              obtain ⟨q147, h⟩ := h
              refine z_iald dX7_best_182 (n := (zK M129 b138).2) (Prod.ext q145 rfl) q146 q147 ?_
              refine z_iconst dX7_best_183 (by decide) ?_
              obtain ⟨q148, h⟩ := h
              refine z_iadd dX7_best_184 q148 ?_
              obtain ⟨q149, h⟩ := h
              obtain ⟨q150, h⟩ := h
              obtain ⟨q151, h⟩ := h
              refine z_iast dX7_best_185 (n := (zK M129 b138).2) (Prod.ext q149 rfl) q150 q151 ?_
              obtain ⟨M152, hmM152⟩ : ∃ z, z = zsI M129 b138 x2 ((zI M129 b138 x2) + 1) := ⟨_, rfl⟩
              rw [← hmM152]
              have h := h M152 hmM152
              refine z_aload_n 1 dX7_best_186 rfl ?_
              refine z_iload_n 0 dX7_best_187 rfl ?_
              obtain ⟨q158, h⟩ := h
              obtain ⟨P153, c154, h⟩ := h
              refine z_Vi (as := [vI (zI M129 b138 x2)]) mv_X7_139 dX7_best_188 c154 q158 rfl rfl (Nat.le_of_ble_eq_true rfl) (Nat.le_of_ble_eq_true rfl) (Nat.le_of_ble_eq_true rfl) (fun r156 M155 p157 => ?_)
              have h := h r156 M155 p157
              refine z_if_ne (tgt := 197) dX7_best_191 (by decide) (fun q159 => ?_) (fun q159 => ?_)
              · have h := h.1 q159
                refine z_aload_n 1 dX7_best_197 rfl ?_
                refine z_iload_n 0 dX7_best_198 rfl ?_
                refine z_iconst dX7_best_199 (by decide) ?_
                obtain ⟨q165, h⟩ := h
                obtain ⟨P160, c161, h⟩ := h
                refine z_Vi (as := [vI (zI M129 b138 x2), vI 0]) mv_X7_142 dX7_best_200 c161 q165 rfl rfl (Nat.le_of_ble_eq_true rfl) (Nat.le_of_ble_eq_true rfl) (Nat.le_of_ble_eq_true rfl) (fun r163 M162 p164 => ?_)
                have h := h r163 M162 p164
                refine z_istore dX7_best_203 (by decide) rfl ?_
                refine z_iload 0 dX7_best_205 rfl ?_
                refine z_iconst dX7_best_207 (by decide) ?_
                refine z_icmp_ne (tgt := 214) dX7_best_208 (by decide) (fun q166 => ?_) (fun q166 => ?_)
                · have h := h.1 q166
                  refine z_aload_n 2 dX7_best_214 rfl ?_
                  obtain ⟨q167, h⟩ := h
                  refine z_getR fl_X7_44 rfl dX7_best_215 q167 ?_
                  refine z_iload_n 1 dX7_best_218 rfl ?_
                  refine z_iload 0 dX7_best_219 rfl ?_
                  obtain ⟨b168, eb168, h⟩ := h
                  rw [eb168]
                  obtain ⟨q169, h⟩ := h
                  obtain ⟨q170, h⟩ := h
                  obtain ⟨q171, h⟩ := h
                  refine z_iast dX7_best_221 (n := (zK M162 b168).2) (Prod.ext q169 rfl) q170 q171 ?_
                  obtain ⟨M172, hmM172⟩ : ∃ z, z = zsI M162 b168 (zI M129 b138 x2) r163 := ⟨_, rfl⟩
                  rw [← hmM172]
                  have h := h M172 hmM172
                  refine z_aload_n 2 dX7_best_222 rfl ?_
                  obtain ⟨q173, h⟩ := h
                  refine z_getR fl_X7_65 rfl dX7_best_223 q173 ?_
                  refine z_iload_n 4 dX7_best_226 rfl ?_
                  refine z_iload_n 1 dX7_best_227 rfl ?_
                  obtain ⟨b174, eb174, h⟩ := h
                  rw [eb174]
                  obtain ⟨q175, h⟩ := h
                  obtain ⟨q176, h⟩ := h
                  obtain ⟨q177, h⟩ := h
                  refine z_iast dX7_best_228 (n := (zK M172 b174).2) (Prod.ext q175 rfl) q176 q177 ?_
                  obtain ⟨M178, hmM178⟩ : ∃ z, z = zsI M172 b174 x2 (zI M129 b138 x2) := ⟨_, rfl⟩
                  rw [← hmM178]
                  have h := h M178 hmM178
                  obtain ⟨q179, h⟩ := h
                  refine z_iinc 4 dX7_best_229 rfl (by decide) q179 rfl ?_
                  refine z_aload_n 3 dX7_best_232 rfl ?_
                  obtain ⟨q180, h⟩ := h
                  refine z_getR fl_X7_68 rfl dX7_best_233 q180 ?_
                  refine z_iload_n 0 dX7_best_236 rfl ?_
                  refine z_iconst dX7_best_237 (by decide) ?_
                  obtain ⟨b181, eb181, h⟩ := h
                  rw [eb181]
                  obtain ⟨q182, h⟩ := h
                  obtain ⟨q183, h⟩ := h
                  obtain ⟨q184, h⟩ := h
                  refine z_iast dX7_best_238 (n := (zK M178 b181).2) (Prod.ext q182 rfl) q183 q184 ?_
                  obtain ⟨M185, hmM185⟩ : ∃ z, z = zsI M178 b181 (x2 + 1) 0 := ⟨_, rfl⟩
                  rw [← hmM185]
                  have h := h M185 hmM185
                  refine z_goto (tgt := 63) dX7_best_239 (by decide) ?_
                  exact z_sub [3, 4, 0] rfl h
                · have h := h.2 q166
                  refine z_goto (tgt := 63) dX7_best_211 (by decide) ?_
                  exact z_sub [2, 3, 4] rfl h
              · have h := h.2 q159
                refine z_goto (tgt := 63) dX7_best_194 (by decide) ?_
                exact z_sub [1, 2, 3] rfl h
            · have h := h.2 q143
              obtain ⟨q186, h⟩ := h
              refine z_iinc 3 dX7_best_154 rfl (by decide) q186 rfl ?_
              refine z_iload_n 0 dX7_best_157 rfl ?_
              refine z_if_lt (tgt := 63) dX7_best_158 (by decide) (fun q187 => ?_) (fun q187 => ?_)
              · have h := h.1 q187
                exact z_sub [2, 3, 0] rfl h
              · have h := h.2 q187
                refine z_aload_n 2 dX7_best_161 rfl ?_
                obtain ⟨q188, h⟩ := h
                refine z_getR fl_X7_44 rfl dX7_best_162 q188 ?_
                refine z_aload_n 2 dX7_best_165 rfl ?_
                obtain ⟨q189, h⟩ := h
                refine z_getR fl_X7_65 rfl dX7_best_166 q189 ?_
                refine z_iload_n 0 dX7_best_169 rfl ?_
                obtain ⟨b190, eb190, h⟩ := h
                rw [eb190]
                obtain ⟨q191, h⟩ := h
                obtain ⟨q192, h⟩ := h
                obtain ⟨q193, h⟩ := h
                refine z_iald dX7_best_170 (n := (zK M129 b190).2) (Prod.ext q191 rfl) q192 q193 ?_
                refine z_iconst dX7_best_171 (by decide) ?_
                obtain ⟨b194, eb194, h⟩ := h
                rw [eb194]
                obtain ⟨q195, h⟩ := h
                obtain ⟨q196, h⟩ := h
                obtain ⟨q197, h⟩ := h
                refine z_iast dX7_best_172 (n := (zK M129 b194).2) (Prod.ext q195 rfl) q196 q197 ?_
                obtain ⟨M198, hmM198⟩ : ∃ z, z = zsI M129 b194 (zI M129 b190 (x2 + (-1))) (-1) := ⟨_, rfl⟩
                rw [← hmM198]
                have h := h M198 hmM198
                refine z_goto (tgt := 63) dX7_best_173 (by decide) ?_
                exact z_sub [2, 3, 0] rfl h
          · have h := h.2 q136
            refine z_aload_n 1 dX7_best_132 rfl ?_
            obtain ⟨q199, h⟩ := h
            refine z_getI fl_X7_74 dX7_best_133 q199 ?_
            refine z_goto (tgt := 145) dX7_best_136 (by decide) ?_
            refine z_istore_n dX7_best_145 (by decide) rfl ?_
            refine z_iload_n 0 dX7_best_146 rfl ?_
            refine z_aload_n 1 dX7_best_147 rfl ?_
            obtain ⟨q200, h⟩ := h
            refine z_getI fl_X7_74 dX7_best_148 q200 ?_
            refine z_icmp_ne (tgt := 176) dX7_best_151 (by decide) (fun q201 => ?_) (fun q201 => ?_)
            · have h := h.1 q201
              refine z_aload_n 1 dX7_best_176 rfl ?_
              obtain ⟨q202, h⟩ := h
              refine z_getR fl_X7_68 rfl dX7_best_177 q202 ?_
              refine z_iload_n 3 dX7_best_180 rfl ?_
              refine z_dup2 dX7_best_181 rfl rfl ?_
              obtain ⟨b203, eb203, h⟩ := h
              rw [eb203]
              obtain ⟨q204, h⟩ := h
              obtain ⟨q205, h⟩ := h
              obtain ⟨q206, h⟩ := h
              refine z_iald dX7_best_182 (n := (zK M129 b203).2) (Prod.ext q204 rfl) q205 q206 ?_
              refine z_iconst dX7_best_183 (by decide) ?_
              obtain ⟨q207, h⟩ := h
              refine z_iadd dX7_best_184 q207 ?_
              obtain ⟨q208, h⟩ := h
              obtain ⟨q209, h⟩ := h
              obtain ⟨q210, h⟩ := h
              refine z_iast dX7_best_185 (n := (zK M129 b203).2) (Prod.ext q208 rfl) q209 q210 ?_
              obtain ⟨M211, hmM211⟩ : ∃ z, z = zsI M129 b203 x2 ((zI M129 b203 x2) + 1) := ⟨_, rfl⟩
              rw [← hmM211]
              have h := h M211 hmM211
              refine z_aload_n 1 dX7_best_186 rfl ?_
              refine z_iload_n 0 dX7_best_187 rfl ?_
              obtain ⟨q217, h⟩ := h
              obtain ⟨P212, c213, h⟩ := h
              refine z_Vi (as := [vI (zI M129 a0 8)]) mv_X7_139 dX7_best_188 c213 q217 rfl rfl (Nat.le_of_ble_eq_true rfl) (Nat.le_of_ble_eq_true rfl) (Nat.le_of_ble_eq_true rfl) (fun r215 M214 p216 => ?_)
              have h := h r215 M214 p216
              refine z_if_ne (tgt := 197) dX7_best_191 (by decide) (fun q218 => ?_) (fun q218 => ?_)
              · have h := h.1 q218
                refine z_aload_n 1 dX7_best_197 rfl ?_
                refine z_iload_n 0 dX7_best_198 rfl ?_
                refine z_iconst dX7_best_199 (by decide) ?_
                obtain ⟨q224, h⟩ := h
                obtain ⟨P219, c220, h⟩ := h
                refine z_Vi (as := [vI (zI M129 a0 8), vI 0]) mv_X7_142 dX7_best_200 c220 q224 rfl rfl (Nat.le_of_ble_eq_true rfl) (Nat.le_of_ble_eq_true rfl) (Nat.le_of_ble_eq_true rfl) (fun r222 M221 p223 => ?_)
                have h := h r222 M221 p223
                refine z_istore dX7_best_203 (by decide) rfl ?_
                refine z_iload 0 dX7_best_205 rfl ?_
                refine z_iconst dX7_best_207 (by decide) ?_
                refine z_icmp_ne (tgt := 214) dX7_best_208 (by decide) (fun q225 => ?_) (fun q225 => ?_)
                · have h := h.1 q225
                  refine z_aload_n 2 dX7_best_214 rfl ?_
                  obtain ⟨q226, h⟩ := h
                  refine z_getR fl_X7_44 rfl dX7_best_215 q226 ?_
                  refine z_iload_n 1 dX7_best_218 rfl ?_
                  refine z_iload 0 dX7_best_219 rfl ?_
                  obtain ⟨b227, eb227, h⟩ := h
                  rw [eb227]
                  obtain ⟨q228, h⟩ := h
                  obtain ⟨q229, h⟩ := h
                  obtain ⟨q230, h⟩ := h
                  refine z_iast dX7_best_221 (n := (zK M221 b227).2) (Prod.ext q228 rfl) q229 q230 ?_
                  obtain ⟨M231, hmM231⟩ : ∃ z, z = zsI M221 b227 (zI M129 a0 8) r222 := ⟨_, rfl⟩
                  rw [← hmM231]
                  have h := h M231 hmM231
                  refine z_aload_n 2 dX7_best_222 rfl ?_
                  obtain ⟨q232, h⟩ := h
                  refine z_getR fl_X7_65 rfl dX7_best_223 q232 ?_
                  refine z_iload_n 4 dX7_best_226 rfl ?_
                  refine z_iload_n 1 dX7_best_227 rfl ?_
                  obtain ⟨b233, eb233, h⟩ := h
                  rw [eb233]
                  obtain ⟨q234, h⟩ := h
                  obtain ⟨q235, h⟩ := h
                  obtain ⟨q236, h⟩ := h
                  refine z_iast dX7_best_228 (n := (zK M231 b233).2) (Prod.ext q234 rfl) q235 q236 ?_
                  obtain ⟨M237, hmM237⟩ : ∃ z, z = zsI M231 b233 x2 (zI M129 a0 8) := ⟨_, rfl⟩
                  rw [← hmM237]
                  have h := h M237 hmM237
                  obtain ⟨q238, h⟩ := h
                  refine z_iinc 4 dX7_best_229 rfl (by decide) q238 rfl ?_
                  refine z_aload_n 3 dX7_best_232 rfl ?_
                  obtain ⟨q239, h⟩ := h
                  refine z_getR fl_X7_68 rfl dX7_best_233 q239 ?_
                  refine z_iload_n 0 dX7_best_236 rfl ?_
                  refine z_iconst dX7_best_237 (by decide) ?_
                  obtain ⟨b240, eb240, h⟩ := h
                  rw [eb240]
                  obtain ⟨q241, h⟩ := h
                  obtain ⟨q242, h⟩ := h
                  obtain ⟨q243, h⟩ := h
                  refine z_iast dX7_best_238 (n := (zK M237 b240).2) (Prod.ext q241 rfl) q242 q243 ?_
                  obtain ⟨M244, hmM244⟩ : ∃ z, z = zsI M237 b240 (x2 + 1) 0 := ⟨_, rfl⟩
                  rw [← hmM244]
                  have h := h M244 hmM244
                  refine z_goto (tgt := 63) dX7_best_239 (by decide) ?_
                  exact z_sub [3, 4, 0] rfl h
                · have h := h.2 q225
                  refine z_goto (tgt := 63) dX7_best_211 (by decide) ?_
                  exact z_sub [2, 3, 4] rfl h
              · have h := h.2 q218
                refine z_goto (tgt := 63) dX7_best_194 (by decide) ?_
                exact z_sub [1, 2, 3] rfl h
            · have h := h.2 q201
              obtain ⟨q245, h⟩ := h
              refine z_iinc 3 dX7_best_154 rfl (by decide) q245 rfl ?_
              refine z_iload_n 0 dX7_best_157 rfl ?_
              refine z_if_lt (tgt := 63) dX7_best_158 (by decide) (fun q246 => ?_) (fun q246 => ?_)
              · have h := h.1 q246
                exact z_sub [2, 3, 0] rfl h
              · have h := h.2 q246
                refine z_aload_n 2 dX7_best_161 rfl ?_
                obtain ⟨q247, h⟩ := h
                refine z_getR fl_X7_44 rfl dX7_best_162 q247 ?_
                refine z_aload_n 2 dX7_best_165 rfl ?_
                obtain ⟨q248, h⟩ := h
                refine z_getR fl_X7_65 rfl dX7_best_166 q248 ?_
                refine z_iload_n 0 dX7_best_169 rfl ?_
                obtain ⟨b249, eb249, h⟩ := h
                rw [eb249]
                obtain ⟨q250, h⟩ := h
                obtain ⟨q251, h⟩ := h
                obtain ⟨q252, h⟩ := h
                refine z_iald dX7_best_170 (n := (zK M129 b249).2) (Prod.ext q250 rfl) q251 q252 ?_
                refine z_iconst dX7_best_171 (by decide) ?_
                obtain ⟨b253, eb253, h⟩ := h
                rw [eb253]
                obtain ⟨q254, h⟩ := h
                obtain ⟨q255, h⟩ := h
                obtain ⟨q256, h⟩ := h
                refine z_iast dX7_best_172 (n := (zK M129 b253).2) (Prod.ext q254 rfl) q255 q256 ?_
                obtain ⟨M257, hmM257⟩ : ∃ z, z = zsI M129 b253 (zI M129 b249 (x2 + (-1))) (-1) := ⟨_, rfl⟩
                rw [← hmM257]
                have h := h M257 hmM257
                refine z_goto (tgt := 63) dX7_best_173 (by decide) ?_
                exact z_sub [2, 3, 0] rfl h
        · have h := h.2 q134
          refine z_iload_n 0 dX7_best_90 rfl ?_
          refine z_istore_n dX7_best_91 (by decide) rfl ?_
          refine z_iconst dX7_best_92 (by decide) ?_
          refine z_istore dX7_best_93 (by decide) rfl ?_
          exact z_sub [3, 1, 4, 2, 0] rfl h
set_option maxRecDepth 20000 in
theorem vX7_best_95 {E : zE} {d : Nat} {X : zX} {P : Int → zM → Prop} {M : zM} (hr : (xh X).sig.returnType = (some .int)) (a0 : Nat) (x1 : Int) (x2 : Int) (x3 : Int) (x4 : Int)
    (h : zK M a0 = (8, 25) ∧ (((zI M a0 8) ≤ x4 → zK M a0 = (8, 25) ∧ ((x2 ≠ (zI M a0 8) → zK M a0 = (8, 25) ∧ ∃ b6, zR M a0 23 = some b6 ∧ (zK M b6).1 = 9 ∧ 0 ≤ x2 ∧ x2 < ((zK M b6).2 : Int) ∧ zK M a0 = (8, 25) ∧ (((zI M b6 x2) ≠ (zI M a0 8) → zK M a0 = (8, 25) ∧ (zK M b6).1 = 9 ∧ 0 ≤ x2 ∧ x2 < ((zK M b6).2 : Int) ∧ zin ((zI M b6 x2) + 1) ∧ (zK M b6).1 = 9 ∧ 0 ≤ x2 ∧ x2 < ((zK M b6).2 : Int) ∧ ∀ M20, M20 = zsI M b6 x2 ((zI M b6 x2) + 1) → zK M20 a0 = (8, 25) ∧ ∃ P21 : Int → zM → Prop, zCi E mX7_isReady d 0 0 [vR (some a0), vI (zI M b6 x2)] M20 P21 ∧ ∀ r24 M23, P21 r24 M23 → ((r24 ≠ 0 → zK M23 a0 = (8, 25) ∧ ∃ P28 : Int → zM → Prop, zCi E mX7_first d 0 0 [vR (some a0), vI (zI M b6 x2), vI 0] M23 P28 ∧ ∀ r31 M30, P28 r31 M30 → ((r31 ≠ (-1) → zK M30 a0 = (8, 25) ∧ ∃ b36, zR M30 a0 15 = some b36 ∧ (zK M30 b36).1 = 9 ∧ 0 ≤ (zI M b6 x2) ∧ (zI M b6 x2) < ((zK M30 b36).2 : Int) ∧ ∀ M40, M40 = zsI M30 b36 (zI M b6 x2) r31 → zK M40 a0 = (8, 25) ∧ ∃ b42, zR M40 a0 22 = some b42 ∧ (zK M40 b42).1 = 9 ∧ 0 ≤ x2 ∧ x2 < ((zK M40 b42).2 : Int) ∧ ∀ M46, M46 = zsI M40 b42 x2 (zI M b6 x2) → zin (x2 + 1) ∧ zK M46 a0 = (8, 25) ∧ ∃ b49, zR M46 a0 23 = some b49 ∧ (zK M46 b49).1 = 9 ∧ 0 ≤ (x2 + 1) ∧ (x2 + 1) < ((zK M46 b49).2 : Int) ∧ ∀ M53, M53 = zsI M46 b49 (x2 + 1) 0 → ZX7_best E d X P 63 [(0, vR (some a0)), (1, vI x1), (2, vI (x2 + 1))] [] M53 0 0) ∧ (r31 = (-1) → ZX7_best E d X P 63 [(0, vR (some a0)), (1, vI x1), (2, vI x2)] [] M30 0 0))) ∧ (r24 = 0 → ZX7_best E d X P 63 [(0, vR (some a0)), (1, vI x1), (2, vI x2)] [] M23 0 0))) ∧ ((zI M b6 x2) = (zI M a0 8) → zin (x2 + (-1)) ∧ (((x2 + (-1)) < 0 → ZX7_best E d X P 63 [(0, vR (some a0)), (1, vI x1), (2, vI (x2 + (-1)))] [] M 0 0) ∧ (0 ≤ (x2 + (-1)) → zK M a0 = (8, 25) ∧ zK M a0 = (8, 25) ∧ ∃ b58, zR M a0 22 = some b58 ∧ (zK M b58).1 = 9 ∧ 0 ≤ (x2 + (-1)) ∧ (x2 + (-1)) < ((zK M b58).2 : Int) ∧ ∃ b62, zR M a0 15 = some b62 ∧ (zK M b62).1 = 9 ∧ 0 ≤ (zI M b58 (x2 + (-1))) ∧ (zI M b58 (x2 + (-1))) < ((zK M b62).2 : Int) ∧ ∀ M66, M66 = zsI M b62 (zI M b58 (x2 + (-1))) (-1) → ZX7_best E d X P 63 [(0, vR (some a0)), (1, vI x1), (2, vI (x2 + (-1)))] [] M66 0 0))))) ∧ (x2 = (zI M a0 8) → zK M a0 = (8, 25) ∧ zK M a0 = (8, 25) ∧ (((zI M a0 8) ≠ (zI M a0 8) → zK M a0 = (8, 25) ∧ ∃ b71, zR M a0 23 = some b71 ∧ (zK M b71).1 = 9 ∧ 0 ≤ x2 ∧ x2 < ((zK M b71).2 : Int) ∧ zin ((zI M b71 x2) + 1) ∧ (zK M b71).1 = 9 ∧ 0 ≤ x2 ∧ x2 < ((zK M b71).2 : Int) ∧ ∀ M79, M79 = zsI M b71 x2 ((zI M b71 x2) + 1) → zK M79 a0 = (8, 25) ∧ ∃ P80 : Int → zM → Prop, zCi E mX7_isReady d 0 0 [vR (some a0), vI (zI M a0 8)] M79 P80 ∧ ∀ r83 M82, P80 r83 M82 → ((r83 ≠ 0 → zK M82 a0 = (8, 25) ∧ ∃ P87 : Int → zM → Prop, zCi E mX7_first d 0 0 [vR (some a0), vI (zI M a0 8), vI 0] M82 P87 ∧ ∀ r90 M89, P87 r90 M89 → ((r90 ≠ (-1) → zK M89 a0 = (8, 25) ∧ ∃ b95, zR M89 a0 15 = some b95 ∧ (zK M89 b95).1 = 9 ∧ 0 ≤ (zI M a0 8) ∧ (zI M a0 8) < ((zK M89 b95).2 : Int) ∧ ∀ M99, M99 = zsI M89 b95 (zI M a0 8) r90 → zK M99 a0 = (8, 25) ∧ ∃ b101, zR M99 a0 22 = some b101 ∧ (zK M99 b101).1 = 9 ∧ 0 ≤ x2 ∧ x2 < ((zK M99 b101).2 : Int) ∧ ∀ M105, M105 = zsI M99 b101 x2 (zI M a0 8) → zin (x2 + 1) ∧ zK M105 a0 = (8, 25) ∧ ∃ b108, zR M105 a0 23 = some b108 ∧ (zK M105 b108).1 = 9 ∧ 0 ≤ (x2 + 1) ∧ (x2 + 1) < ((zK M105 b108).2 : Int) ∧ ∀ M112, M112 = zsI M105 b108 (x2 + 1) 0 → ZX7_best E d X P 63 [(0, vR (some a0)), (1, vI x1), (2, vI (x2 + 1))] [] M112 0 0) ∧ (r90 = (-1) → ZX7_best E d X P 63 [(0, vR (some a0)), (1, vI x1), (2, vI x2)] [] M89 0 0))) ∧ (r83 = 0 → ZX7_best E d X P 63 [(0, vR (some a0)), (1, vI x1), (2, vI x2)] [] M82 0 0))) ∧ ((zI M a0 8) = (zI M a0 8) → zin (x2 + (-1)) ∧ (((x2 + (-1)) < 0 → ZX7_best E d X P 63 [(0, vR (some a0)), (1, vI x1), (2, vI (x2 + (-1)))] [] M 0 0) ∧ (0 ≤ (x2 + (-1)) → zK M a0 = (8, 25) ∧ zK M a0 = (8, 25) ∧ ∃ b117, zR M a0 22 = some b117 ∧ (zK M b117).1 = 9 ∧ 0 ≤ (x2 + (-1)) ∧ (x2 + (-1)) < ((zK M b117).2 : Int) ∧ ∃ b121, zR M a0 15 = some b121 ∧ (zK M b121).1 = 9 ∧ 0 ≤ (zI M b117 (x2 + (-1))) ∧ (zI M b117 (x2 + (-1))) < ((zK M b121).2 : Int) ∧ ∀ M125, M125 = zsI M b121 (zI M b117 (x2 + (-1))) (-1) → ZX7_best E d X P 63 [(0, vR (some a0)), (1, vI x1), (2, vI (x2 + (-1)))] [] M125 0 0))))))) ∧ (x4 < (zI M a0 8) → zK M a0 = (8, 25) ∧ zK M a0 = (8, 25) ∧ ∃ b128, zR M a0 15 = some b128 ∧ (zK M b128).1 = 9 ∧ 0 ≤ x4 ∧ x4 < ((zK M b128).2 : Int) ∧ ∃ b132, zR M a0 24 = some b132 ∧ (zK M b132).1 = 9 ∧ 0 ≤ x4 ∧ x4 < ((zK M b132).2 : Int) ∧ ∀ M136, M136 = zsI M b132 x4 (zI M b128 x4) → zin (x4 + 1) ∧ ZX7_best E d X P 95 [(0, vR (some a0)), (1, vI x1), (2, vI x2), (3, vI x3), (4, vI (x4 + 1))] [] M136 0 0))) :
    ZX7_best E d X P 95 [(0, vR (some a0)), (1, vI x1), (2, vI x2), (3, vI x3), (4, vI x4)] [] M 0 0 := by
  refine z_iload 4 dX7_best_95 rfl ?_
  refine z_aload_n 0 dX7_best_97 rfl ?_
  obtain ⟨q1, h⟩ := h
  refine z_getI fl_X7_74 dX7_best_98 q1 ?_
  refine z_icmp_ge (tgt := 124) dX7_best_101 (by decide) (fun q2 => ?_) (fun q2 => ?_)
  · have h := h.1 q2
    refine z_iload_n 2 dX7_best_124 rfl ?_
    refine z_aload_n 0 dX7_best_125 rfl ?_
    obtain ⟨q3, h⟩ := h
    refine z_getI fl_X7_74 dX7_best_126 q3 ?_
    refine z_icmp_ne (tgt := 139) dX7_best_129 (by decide) (fun q4 => ?_) (fun q4 => ?_)
    · have h := h.1 q4
      refine z_aload_n 0 dX7_best_139 rfl ?_
      obtain ⟨q5, h⟩ := h
      refine z_getR fl_X7_68 rfl dX7_best_140 q5 ?_
      refine z_iload_n 2 dX7_best_143 rfl ?_
      obtain ⟨b6, eb6, h⟩ := h
      rw [eb6]
      obtain ⟨q7, h⟩ := h
      obtain ⟨q8, h⟩ := h
      obtain ⟨q9, h⟩ := h
      refine z_iald dX7_best_144 (n := (zK M b6).2) (Prod.ext q7 rfl) q8 q9 ?_
      refine z_istore_n dX7_best_145 (by decide) rfl ?_
      refine z_iload_n 0 dX7_best_146 rfl ?_
      refine z_aload_n 1 dX7_best_147 rfl ?_
      obtain ⟨q10, h⟩ := h
      refine z_getI fl_X7_74 dX7_best_148 q10 ?_
      refine z_icmp_ne (tgt := 176) dX7_best_151 (by decide) (fun q11 => ?_) (fun q11 => ?_)
      · have h := h.1 q11
        refine z_aload_n 1 dX7_best_176 rfl ?_
        obtain ⟨q12, h⟩ := h
        refine z_getR fl_X7_68 rfl dX7_best_177 q12 ?_
        rw [eb6]
        refine z_iload_n 3 dX7_best_180 rfl ?_
        refine z_dup2 dX7_best_181 rfl rfl ?_
        obtain ⟨q13, h⟩ := h
        obtain ⟨q14, h⟩ := h
        obtain ⟨q15, h⟩ := h
        refine z_iald dX7_best_182 (n := (zK M b6).2) (Prod.ext q13 rfl) q14 q15 ?_
        refine z_iconst dX7_best_183 (by decide) ?_
        obtain ⟨q16, h⟩ := h
        refine z_iadd dX7_best_184 q16 ?_
        obtain ⟨q17, h⟩ := h
        obtain ⟨q18, h⟩ := h
        obtain ⟨q19, h⟩ := h
        refine z_iast dX7_best_185 (n := (zK M b6).2) (Prod.ext q17 rfl) q18 q19 ?_
        obtain ⟨M20, hmM20⟩ : ∃ z, z = zsI M b6 x2 ((zI M b6 x2) + 1) := ⟨_, rfl⟩
        rw [← hmM20]
        have h := h M20 hmM20
        refine z_aload_n 1 dX7_best_186 rfl ?_
        refine z_iload_n 0 dX7_best_187 rfl ?_
        obtain ⟨q26, h⟩ := h
        obtain ⟨P21, c22, h⟩ := h
        refine z_Vi (as := [vI (zI M b6 x2)]) mv_X7_139 dX7_best_188 c22 q26 rfl rfl (Nat.le_of_ble_eq_true rfl) (Nat.le_of_ble_eq_true rfl) (Nat.le_of_ble_eq_true rfl) (fun r24 M23 p25 => ?_)
        have h := h r24 M23 p25
        refine z_if_ne (tgt := 197) dX7_best_191 (by decide) (fun q27 => ?_) (fun q27 => ?_)
        · have h := h.1 q27
          refine z_aload_n 1 dX7_best_197 rfl ?_
          refine z_iload_n 0 dX7_best_198 rfl ?_
          refine z_iconst dX7_best_199 (by decide) ?_
          obtain ⟨q33, h⟩ := h
          obtain ⟨P28, c29, h⟩ := h
          refine z_Vi (as := [vI (zI M b6 x2), vI 0]) mv_X7_142 dX7_best_200 c29 q33 rfl rfl (Nat.le_of_ble_eq_true rfl) (Nat.le_of_ble_eq_true rfl) (Nat.le_of_ble_eq_true rfl) (fun r31 M30 p32 => ?_)
          have h := h r31 M30 p32
          refine z_istore dX7_best_203 (by decide) rfl ?_
          refine z_iload 0 dX7_best_205 rfl ?_
          refine z_iconst dX7_best_207 (by decide) ?_
          refine z_icmp_ne (tgt := 214) dX7_best_208 (by decide) (fun q34 => ?_) (fun q34 => ?_)
          · have h := h.1 q34
            refine z_aload_n 2 dX7_best_214 rfl ?_
            obtain ⟨q35, h⟩ := h
            refine z_getR fl_X7_44 rfl dX7_best_215 q35 ?_
            refine z_iload_n 1 dX7_best_218 rfl ?_
            refine z_iload 0 dX7_best_219 rfl ?_
            obtain ⟨b36, eb36, h⟩ := h
            rw [eb36]
            obtain ⟨q37, h⟩ := h
            obtain ⟨q38, h⟩ := h
            obtain ⟨q39, h⟩ := h
            refine z_iast dX7_best_221 (n := (zK M30 b36).2) (Prod.ext q37 rfl) q38 q39 ?_
            obtain ⟨M40, hmM40⟩ : ∃ z, z = zsI M30 b36 (zI M b6 x2) r31 := ⟨_, rfl⟩
            rw [← hmM40]
            have h := h M40 hmM40
            refine z_aload_n 2 dX7_best_222 rfl ?_
            obtain ⟨q41, h⟩ := h
            refine z_getR fl_X7_65 rfl dX7_best_223 q41 ?_
            refine z_iload_n 4 dX7_best_226 rfl ?_
            refine z_iload_n 1 dX7_best_227 rfl ?_
            obtain ⟨b42, eb42, h⟩ := h
            rw [eb42]
            obtain ⟨q43, h⟩ := h
            obtain ⟨q44, h⟩ := h
            obtain ⟨q45, h⟩ := h
            refine z_iast dX7_best_228 (n := (zK M40 b42).2) (Prod.ext q43 rfl) q44 q45 ?_
            obtain ⟨M46, hmM46⟩ : ∃ z, z = zsI M40 b42 x2 (zI M b6 x2) := ⟨_, rfl⟩
            rw [← hmM46]
            have h := h M46 hmM46
            obtain ⟨q47, h⟩ := h
            refine z_iinc 4 dX7_best_229 rfl (by decide) q47 rfl ?_
            refine z_aload_n 3 dX7_best_232 rfl ?_
            obtain ⟨q48, h⟩ := h
            refine z_getR fl_X7_68 rfl dX7_best_233 q48 ?_
            refine z_iload_n 0 dX7_best_236 rfl ?_
            refine z_iconst dX7_best_237 (by decide) ?_
            obtain ⟨b49, eb49, h⟩ := h
            rw [eb49]
            obtain ⟨q50, h⟩ := h
            obtain ⟨q51, h⟩ := h
            obtain ⟨q52, h⟩ := h
            refine z_iast dX7_best_238 (n := (zK M46 b49).2) (Prod.ext q50 rfl) q51 q52 ?_
            obtain ⟨M53, hmM53⟩ : ∃ z, z = zsI M46 b49 (x2 + 1) 0 := ⟨_, rfl⟩
            rw [← hmM53]
            have h := h M53 hmM53
            refine z_goto (tgt := 63) dX7_best_239 (by decide) ?_
            exact z_sub [3, 4, 0] rfl h
          · have h := h.2 q34
            refine z_goto (tgt := 63) dX7_best_211 (by decide) ?_
            exact z_sub [2, 3, 4] rfl h
        · have h := h.2 q27
          refine z_goto (tgt := 63) dX7_best_194 (by decide) ?_
          exact z_sub [1, 2, 3] rfl h
      · have h := h.2 q11
        obtain ⟨q54, h⟩ := h
        refine z_iinc 3 dX7_best_154 rfl (by decide) q54 rfl ?_
        refine z_iload_n 0 dX7_best_157 rfl ?_
        refine z_if_lt (tgt := 63) dX7_best_158 (by decide) (fun q55 => ?_) (fun q55 => ?_)
        · have h := h.1 q55
          exact z_sub [2, 3, 0] rfl h
        · have h := h.2 q55
          refine z_aload_n 2 dX7_best_161 rfl ?_
          obtain ⟨q56, h⟩ := h
          refine z_getR fl_X7_44 rfl dX7_best_162 q56 ?_
          refine z_aload_n 2 dX7_best_165 rfl ?_
          obtain ⟨q57, h⟩ := h
          refine z_getR fl_X7_65 rfl dX7_best_166 q57 ?_
          refine z_iload_n 0 dX7_best_169 rfl ?_
          obtain ⟨b58, eb58, h⟩ := h
          rw [eb58]
          obtain ⟨q59, h⟩ := h
          obtain ⟨q60, h⟩ := h
          obtain ⟨q61, h⟩ := h
          refine z_iald dX7_best_170 (n := (zK M b58).2) (Prod.ext q59 rfl) q60 q61 ?_
          refine z_iconst dX7_best_171 (by decide) ?_
          obtain ⟨b62, eb62, h⟩ := h
          rw [eb62]
          obtain ⟨q63, h⟩ := h
          obtain ⟨q64, h⟩ := h
          obtain ⟨q65, h⟩ := h
          refine z_iast dX7_best_172 (n := (zK M b62).2) (Prod.ext q63 rfl) q64 q65 ?_
          obtain ⟨M66, hmM66⟩ : ∃ z, z = zsI M b62 (zI M b58 (x2 + (-1))) (-1) := ⟨_, rfl⟩
          rw [← hmM66]
          have h := h M66 hmM66
          refine z_goto (tgt := 63) dX7_best_173 (by decide) ?_
          exact z_sub [2, 3, 0] rfl h
    · have h := h.2 q4
      refine z_aload_n 0 dX7_best_132 rfl ?_
      obtain ⟨q67, h⟩ := h
      refine z_getI fl_X7_74 dX7_best_133 q67 ?_
      refine z_goto (tgt := 145) dX7_best_136 (by decide) ?_
      refine z_istore_n dX7_best_145 (by decide) rfl ?_
      refine z_iload_n 0 dX7_best_146 rfl ?_
      refine z_aload_n 1 dX7_best_147 rfl ?_
      obtain ⟨q68, h⟩ := h
      refine z_getI fl_X7_74 dX7_best_148 q68 ?_
      refine z_icmp_ne (tgt := 176) dX7_best_151 (by decide) (fun q69 => ?_) (fun q69 => ?_)
      · have h := h.1 q69
        refine z_aload_n 1 dX7_best_176 rfl ?_
        obtain ⟨q70, h⟩ := h
        refine z_getR fl_X7_68 rfl dX7_best_177 q70 ?_
        refine z_iload_n 3 dX7_best_180 rfl ?_
        refine z_dup2 dX7_best_181 rfl rfl ?_
        obtain ⟨b71, eb71, h⟩ := h
        rw [eb71]
        obtain ⟨q72, h⟩ := h
        obtain ⟨q73, h⟩ := h
        obtain ⟨q74, h⟩ := h
        refine z_iald dX7_best_182 (n := (zK M b71).2) (Prod.ext q72 rfl) q73 q74 ?_
        refine z_iconst dX7_best_183 (by decide) ?_
        obtain ⟨q75, h⟩ := h
        refine z_iadd dX7_best_184 q75 ?_
        obtain ⟨q76, h⟩ := h
        obtain ⟨q77, h⟩ := h
        obtain ⟨q78, h⟩ := h
        refine z_iast dX7_best_185 (n := (zK M b71).2) (Prod.ext q76 rfl) q77 q78 ?_
        obtain ⟨M79, hmM79⟩ : ∃ z, z = zsI M b71 x2 ((zI M b71 x2) + 1) := ⟨_, rfl⟩
        rw [← hmM79]
        have h := h M79 hmM79
        refine z_aload_n 1 dX7_best_186 rfl ?_
        refine z_iload_n 0 dX7_best_187 rfl ?_
        obtain ⟨q85, h⟩ := h
        obtain ⟨P80, c81, h⟩ := h
        refine z_Vi (as := [vI (zI M a0 8)]) mv_X7_139 dX7_best_188 c81 q85 rfl rfl (Nat.le_of_ble_eq_true rfl) (Nat.le_of_ble_eq_true rfl) (Nat.le_of_ble_eq_true rfl) (fun r83 M82 p84 => ?_)
        have h := h r83 M82 p84
        refine z_if_ne (tgt := 197) dX7_best_191 (by decide) (fun q86 => ?_) (fun q86 => ?_)
        · have h := h.1 q86
          refine z_aload_n 1 dX7_best_197 rfl ?_
          refine z_iload_n 0 dX7_best_198 rfl ?_
          refine z_iconst dX7_best_199 (by decide) ?_
          obtain ⟨q92, h⟩ := h
          obtain ⟨P87, c88, h⟩ := h
          refine z_Vi (as := [vI (zI M a0 8), vI 0]) mv_X7_142 dX7_best_200 c88 q92 rfl rfl (Nat.le_of_ble_eq_true rfl) (Nat.le_of_ble_eq_true rfl) (Nat.le_of_ble_eq_true rfl) (fun r90 M89 p91 => ?_)
          have h := h r90 M89 p91
          refine z_istore dX7_best_203 (by decide) rfl ?_
          refine z_iload 0 dX7_best_205 rfl ?_
          refine z_iconst dX7_best_207 (by decide) ?_
          refine z_icmp_ne (tgt := 214) dX7_best_208 (by decide) (fun q93 => ?_) (fun q93 => ?_)
          · have h := h.1 q93
            refine z_aload_n 2 dX7_best_214 rfl ?_
            obtain ⟨q94, h⟩ := h
            refine z_getR fl_X7_44 rfl dX7_best_215 q94 ?_
            refine z_iload_n 1 dX7_best_218 rfl ?_
            refine z_iload 0 dX7_best_219 rfl ?_
            obtain ⟨b95, eb95, h⟩ := h
            rw [eb95]
            obtain ⟨q96, h⟩ := h
            obtain ⟨q97, h⟩ := h
            obtain ⟨q98, h⟩ := h
            refine z_iast dX7_best_221 (n := (zK M89 b95).2) (Prod.ext q96 rfl) q97 q98 ?_
            obtain ⟨M99, hmM99⟩ : ∃ z, z = zsI M89 b95 (zI M a0 8) r90 := ⟨_, rfl⟩
            rw [← hmM99]
            have h := h M99 hmM99
            refine z_aload_n 2 dX7_best_222 rfl ?_
            obtain ⟨q100, h⟩ := h
            refine z_getR fl_X7_65 rfl dX7_best_223 q100 ?_
            refine z_iload_n 4 dX7_best_226 rfl ?_
            refine z_iload_n 1 dX7_best_227 rfl ?_
            obtain ⟨b101, eb101, h⟩ := h
            rw [eb101]
            obtain ⟨q102, h⟩ := h
            obtain ⟨q103, h⟩ := h
            obtain ⟨q104, h⟩ := h
            refine z_iast dX7_best_228 (n := (zK M99 b101).2) (Prod.ext q102 rfl) q103 q104 ?_
            obtain ⟨M105, hmM105⟩ : ∃ z, z = zsI M99 b101 x2 (zI M a0 8) := ⟨_, rfl⟩
            rw [← hmM105]
            have h := h M105 hmM105
            obtain ⟨q106, h⟩ := h
            refine z_iinc 4 dX7_best_229 rfl (by decide) q106 rfl ?_
            refine z_aload_n 3 dX7_best_232 rfl ?_
            obtain ⟨q107, h⟩ := h
            refine z_getR fl_X7_68 rfl dX7_best_233 q107 ?_
            refine z_iload_n 0 dX7_best_236 rfl ?_
            refine z_iconst dX7_best_237 (by decide) ?_
            obtain ⟨b108, eb108, h⟩ := h
            rw [eb108]
            obtain ⟨q109, h⟩ := h
            obtain ⟨q110, h⟩ := h
            obtain ⟨q111, h⟩ := h
            refine z_iast dX7_best_238 (n := (zK M105 b108).2) (Prod.ext q109 rfl) q110 q111 ?_
            obtain ⟨M112, hmM112⟩ : ∃ z, z = zsI M105 b108 (x2 + 1) 0 := ⟨_, rfl⟩
            rw [← hmM112]
            have h := h M112 hmM112
            refine z_goto (tgt := 63) dX7_best_239 (by decide) ?_
            exact z_sub [3, 4, 0] rfl h
          · have h := h.2 q93
            refine z_goto (tgt := 63) dX7_best_211 (by decide) ?_
            exact z_sub [2, 3, 4] rfl h
        · have h := h.2 q86
          refine z_goto (tgt := 63) dX7_best_194 (by decide) ?_
          exact z_sub [1, 2, 3] rfl h
      · have h := h.2 q69
        obtain ⟨q113, h⟩ := h
        refine z_iinc 3 dX7_best_154 rfl (by decide) q113 rfl ?_
        refine z_iload_n 0 dX7_best_157 rfl ?_
        refine z_if_lt (tgt := 63) dX7_best_158 (by decide) (fun q114 => ?_) (fun q114 => ?_)
        · have h := h.1 q114
          exact z_sub [2, 3, 0] rfl h
        · have h := h.2 q114
          refine z_aload_n 2 dX7_best_161 rfl ?_
          obtain ⟨q115, h⟩ := h
          refine z_getR fl_X7_44 rfl dX7_best_162 q115 ?_
          refine z_aload_n 2 dX7_best_165 rfl ?_
          obtain ⟨q116, h⟩ := h
          refine z_getR fl_X7_65 rfl dX7_best_166 q116 ?_
          refine z_iload_n 0 dX7_best_169 rfl ?_
          obtain ⟨b117, eb117, h⟩ := h
          rw [eb117]
          obtain ⟨q118, h⟩ := h
          obtain ⟨q119, h⟩ := h
          obtain ⟨q120, h⟩ := h
          refine z_iald dX7_best_170 (n := (zK M b117).2) (Prod.ext q118 rfl) q119 q120 ?_
          refine z_iconst dX7_best_171 (by decide) ?_
          obtain ⟨b121, eb121, h⟩ := h
          rw [eb121]
          obtain ⟨q122, h⟩ := h
          obtain ⟨q123, h⟩ := h
          obtain ⟨q124, h⟩ := h
          refine z_iast dX7_best_172 (n := (zK M b121).2) (Prod.ext q122 rfl) q123 q124 ?_
          obtain ⟨M125, hmM125⟩ : ∃ z, z = zsI M b121 (zI M b117 (x2 + (-1))) (-1) := ⟨_, rfl⟩
          rw [← hmM125]
          have h := h M125 hmM125
          refine z_goto (tgt := 63) dX7_best_173 (by decide) ?_
          exact z_sub [2, 3, 0] rfl h
  · have h := h.2 q2
    refine z_aload_n 0 dX7_best_104 rfl ?_
    obtain ⟨q126, h⟩ := h
    refine z_getR fl_X7_71 rfl dX7_best_105 q126 ?_
    refine z_iload 4 dX7_best_108 rfl ?_
    refine z_aload_n 0 dX7_best_110 rfl ?_
    obtain ⟨q127, h⟩ := h
    refine z_getR fl_X7_44 rfl dX7_best_111 q127 ?_
    refine z_iload 4 dX7_best_114 rfl ?_
    obtain ⟨b128, eb128, h⟩ := h
    rw [eb128]
    obtain ⟨q129, h⟩ := h
    obtain ⟨q130, h⟩ := h
    obtain ⟨q131, h⟩ := h
    refine z_iald dX7_best_116 (n := (zK M b128).2) (Prod.ext q129 rfl) q130 q131 ?_
    obtain ⟨b132, eb132, h⟩ := h
    rw [eb132]
    obtain ⟨q133, h⟩ := h
    obtain ⟨q134, h⟩ := h
    obtain ⟨q135, h⟩ := h
    refine z_iast dX7_best_117 (n := (zK M b132).2) (Prod.ext q133 rfl) q134 q135 ?_
    obtain ⟨M136, hmM136⟩ : ∃ z, z = zsI M b132 x4 (zI M b128 x4) := ⟨_, rfl⟩
    rw [← hmM136]
    have h := h M136 hmM136
    obtain ⟨q137, h⟩ := h
    refine z_iinc 4 dX7_best_118 rfl (by decide) q137 rfl ?_
    refine z_goto (tgt := 95) dX7_best_121 (by decide) ?_
    exact z_sub [1, 2, 3, 4, 0] rfl h
set_option maxRecDepth 20000 in
theorem vX7_best_244 {E : zE} {d : Nat} {X : zX} {P : Int → zM → Prop} {M : zM} (hr : (xh X).sig.returnType = (some .int)) (a0 : Nat) (x1 : Int) (x2 : Int) (x3 : Int)
    (h : zK M a0 = (8, 25) ∧ (((zI M a0 8) ≤ x3 → P x1 M) ∧ (x3 < (zI M a0 8) → ((x1 = (-1) → P x1 M) ∧ (x1 ≠ (-1) → zK M a0 = (8, 25) ∧ zK M a0 = (8, 25) ∧ ∃ b6, zR M a0 24 = some b6 ∧ (zK M b6).1 = 9 ∧ 0 ≤ x3 ∧ x3 < ((zK M b6).2 : Int) ∧ ∃ b10, zR M a0 15 = some b10 ∧ (zK M b10).1 = 9 ∧ 0 ≤ x3 ∧ x3 < ((zK M b10).2 : Int) ∧ ∀ M14, M14 = zsI M b10 x3 (zI M b6 x3) → zin (x3 + 1) ∧ ZX7_best E d X P 244 [(0, vR (some a0)), (1, vI x1), (2, vI x2), (3, vI (x3 + 1))] [] M14 0 0))))) :
    ZX7_best E d X P 244 [(0, vR (some a0)), (1, vI x1), (2, vI x2), (3, vI x3)] [] M 0 0 := by
  refine z_iload_n 3 dX7_best_244 rfl ?_
  refine z_aload_n 0 dX7_best_245 rfl ?_
  obtain ⟨q1, h⟩ := h
  refine z_getI fl_X7_74 dX7_best_246 q1 ?_
  refine z_icmp_ge (tgt := 275) dX7_best_249 (by decide) (fun q2 => ?_) (fun q2 => ?_)
  · have h := h.1 q2
    refine z_iload_n 1 dX7_best_275 rfl ?_
    exact z_iret hr dX7_best_276 (Nat.le_of_ble_eq_true rfl) (Nat.le_of_ble_eq_true rfl) ⟨_, rfl, h⟩
  · have h := h.2 q2
    refine z_iload_n 1 dX7_best_252 rfl ?_
    refine z_iconst dX7_best_253 (by decide) ?_
    refine z_icmp_eq (tgt := 275) dX7_best_254 (by decide) (fun q3 => ?_) (fun q3 => ?_)
    · have h := h.1 q3
      refine z_iload_n 1 dX7_best_275 rfl ?_
      exact z_iret hr dX7_best_276 (Nat.le_of_ble_eq_true rfl) (Nat.le_of_ble_eq_true rfl) ⟨_, rfl, h⟩
    · have h := h.2 q3
      refine z_aload_n 0 dX7_best_257 rfl ?_
      obtain ⟨q4, h⟩ := h
      refine z_getR fl_X7_44 rfl dX7_best_258 q4 ?_
      refine z_iload_n 3 dX7_best_261 rfl ?_
      refine z_aload_n 0 dX7_best_262 rfl ?_
      obtain ⟨q5, h⟩ := h
      refine z_getR fl_X7_71 rfl dX7_best_263 q5 ?_
      refine z_iload_n 3 dX7_best_266 rfl ?_
      obtain ⟨b6, eb6, h⟩ := h
      rw [eb6]
      obtain ⟨q7, h⟩ := h
      obtain ⟨q8, h⟩ := h
      obtain ⟨q9, h⟩ := h
      refine z_iald dX7_best_267 (n := (zK M b6).2) (Prod.ext q7 rfl) q8 q9 ?_
      obtain ⟨b10, eb10, h⟩ := h
      rw [eb10]
      obtain ⟨q11, h⟩ := h
      obtain ⟨q12, h⟩ := h
      obtain ⟨q13, h⟩ := h
      refine z_iast dX7_best_268 (n := (zK M b10).2) (Prod.ext q11 rfl) q12 q13 ?_
      obtain ⟨M14, hmM14⟩ : ∃ z, z = zsI M b10 x3 (zI M b6 x3) := ⟨_, rfl⟩
      rw [← hmM14]
      have h := h M14 hmM14
      obtain ⟨q15, h⟩ := h
      refine z_iinc 3 dX7_best_269 rfl (by decide) q15 rfl ?_
      refine z_goto (tgt := 244) dX7_best_272 (by decide) ?_
      exact z_sub [1, 2, 3, 0] rfl h
theorem sX7_best {E : zE} {d : Nat} {P : Int → zM → Prop} {M : zM} (a0 : Nat) (h : ∀ X : zX, (xh X).sig.returnType = (some .int) → ZX7_best E d X P 0 [(0, vR (some a0))] [] M 0 0) : zCi E mX7_best (d + 1) 0 0 [vR (some a0)] M P := z_start (f := mX7_best) rfl (Nat.le_of_ble_eq_true rfl) rfl h
abbrev ZX7_go (E : zE) (d : Nat) (X : zX) (P : Int → zM → Prop) (pc : Nat) (Lc : List (Nat × zV)) (S : List zV) (M : zM) (ce sl : Nat) : Prop := zZ cX7_go RX7 "go" 2 E (zrm (d + 1) 0 0) X (zQ E (zPi P) X 0 0) pc Lc S M ce sl
set_option maxRecDepth 20000 in
theorem vX7_go_0 {E : zE} {d : Nat} {X : zX} {P : Int → zM → Prop} {M : zM} (hr : (xh X).sig.returnType = (some .int)) (a0 : Nat) (x1 : Int)
    (h : ∃ P1 : Int → zM → Prop, zCi E mX7_in d 0 0 [vI x1, vI 0, vI 400] M P1 ∧ ∀ r4 M3, P1 r4 M3 → ((r4 ≠ 0 → zK M3 a0 = (8, 25) ∧ zin ((zI M3 a0 0) + x1) ∧ ((((zI M3 a0 0) + x1) ≤ 400 → zK M3 a0 = (8, 25) ∧ zin ((zI M3 a0 0) + x1) ∧ zK M3 a0 = (8, 25) ∧ ∀ M13, M13 = zsI M3 a0 0 ((zI M3 a0 0) + x1) → zK M13 a0 = (8, 25) ∧ P (zI M13 a0 0) M13) ∧ (400 < ((zI M3 a0 0) + x1) → zK M3 a0 = (8, 25) ∧ ∀ M16, M16 = zsI M3 a0 0 400 → zK M16 a0 = (8, 25) ∧ P (zI M16 a0 0) M16))) ∧ (r4 = 0 → P (-1) M3))) :
    ZX7_go E d X P 0 [(0, vR (some a0)), (1, vI x1)] [] M 0 0 := by
  refine z_iload_n 1 dX7_go_0 rfl ?_
  refine z_iconst dX7_go_1 (by decide) ?_
  refine z_sipush dX7_go_2 (by decide) ?_
  obtain ⟨P1, c2, h⟩ := h
  refine z_Si (as := [vI x1, vI 0, vI 400]) ms_X7_78 dX7_go_5 c2 rfl rfl (Nat.le_of_ble_eq_true rfl) (Nat.le_of_ble_eq_true rfl) (Nat.le_of_ble_eq_true rfl) (fun r4 M3 p5 => ?_)
  have h := h r4 M3 p5
  refine z_if_ne (tgt := 13) dX7_go_8 (by decide) (fun q6 => ?_) (fun q6 => ?_)
  · have h := h.1 q6
    refine z_aload_n 0 dX7_go_13 rfl ?_
    refine z_aload_n 0 dX7_go_14 rfl ?_
    obtain ⟨q7, h⟩ := h
    refine z_getI fl_X7_93 dX7_go_15 q7 ?_
    refine z_iload_n 1 dX7_go_18 rfl ?_
    obtain ⟨q8, h⟩ := h
    refine z_iadd dX7_go_19 q8 ?_
    refine z_sipush dX7_go_20 (by decide) ?_
    refine z_icmp_le (tgt := 32) dX7_go_23 (by decide) (fun q9 => ?_) (fun q9 => ?_)
    · have h := h.1 q9
      refine z_aload_n 0 dX7_go_32 rfl ?_
      obtain ⟨q10, h⟩ := h
      refine z_getI fl_X7_93 dX7_go_33 q10 ?_
      refine z_iload_n 1 dX7_go_36 rfl ?_
      obtain ⟨q11, h⟩ := h
      refine z_iadd dX7_go_37 q11 ?_
      obtain ⟨q12, h⟩ := h
      refine z_putI fl_X7_93 (Or.inl rfl) dX7_go_38 q12 ?_
      obtain ⟨M13, hmM13⟩ : ∃ z, z = zsI M3 a0 0 ((zI M3 a0 0) + x1) := ⟨_, rfl⟩
      rw [← hmM13]
      have h := h M13 hmM13
      refine z_aload_n 0 dX7_go_41 rfl ?_
      obtain ⟨q14, h⟩ := h
      refine z_getI fl_X7_93 dX7_go_42 q14 ?_
      exact z_iret hr dX7_go_45 (Nat.le_of_ble_eq_true rfl) (Nat.le_of_ble_eq_true rfl) ⟨_, rfl, h⟩
    · have h := h.2 q9
      refine z_sipush dX7_go_26 (by decide) ?_
      refine z_goto (tgt := 38) dX7_go_29 (by decide) ?_
      obtain ⟨q15, h⟩ := h
      refine z_putI fl_X7_93 (Or.inl rfl) dX7_go_38 q15 ?_
      obtain ⟨M16, hmM16⟩ : ∃ z, z = zsI M3 a0 0 400 := ⟨_, rfl⟩
      rw [← hmM16]
      have h := h M16 hmM16
      refine z_aload_n 0 dX7_go_41 rfl ?_
      obtain ⟨q17, h⟩ := h
      refine z_getI fl_X7_93 dX7_go_42 q17 ?_
      exact z_iret hr dX7_go_45 (Nat.le_of_ble_eq_true rfl) (Nat.le_of_ble_eq_true rfl) ⟨_, rfl, h⟩
  · have h := h.2 q6
    refine z_iconst dX7_go_11 (by decide) ?_
    exact z_iret hr dX7_go_12 (Nat.le_of_ble_eq_true rfl) (Nat.le_of_ble_eq_true rfl) ⟨_, rfl, h⟩
theorem sX7_go {E : zE} {d : Nat} {P : Int → zM → Prop} {M : zM} (a0 : Nat) (x1 : Int) (h : ∀ X : zX, (xh X).sig.returnType = (some .int) → ZX7_go E d X P 0 [(0, vR (some a0)), (1, vI x1)] [] M 0 0) : zCi E mX7_go (d + 1) 0 0 [vR (some a0), vI x1] M P := z_start (f := mX7_go) rfl (Nat.le_of_ble_eq_true rfl) rfl h
