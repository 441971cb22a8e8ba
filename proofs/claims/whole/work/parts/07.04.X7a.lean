abbrev ZX7_canNeed (E : zE) (d : Nat) (X : zX) (P : Int → zM → Prop) (pc : Nat) (Lc : List (Nat × zV)) (S : List zV) (M : zM) (ce sl : Nat) : Prop := zZ cX7_canNeed RX7 "canNeed" 3 E (zrm (d + 1) 0 0) X (zQ E (zPi P) X 0 0) pc Lc S M ce sl
set_option maxRecDepth 20000 in
theorem vX7_canNeed_0 {E : zE} {d : Nat} {X : zX} {P : Int → zM → Prop} {M : zM} (hr : (xh X).sig.returnType = (some .boolean)) (a0 : Nat) (x1 : Int) (x2 : Int)
    (h : zK M a0 = (8, 25) ∧ ∃ P1 : Int → zM → Prop, zCi E mX7_isWork d 0 0 [vR (some a0), vI x1] M P1 ∧ ∀ r4 M3, P1 r4 M3 → ((r4 = 0 → P 0 M3) ∧ (r4 ≠ 0 → zK M3 a0 = (8, 25) ∧ ∃ P8 : Int → zM → Prop, zCi E mX7_isWork d 0 0 [vR (some a0), vI x2] M3 P8 ∧ ∀ r11 M10, P8 r11 M10 → ((r11 = 0 → P 0 M10) ∧ (r11 ≠ 0 → ((x1 = x2 → P 0 M10) ∧ (x1 ≠ x2 → zK M10 a0 = (8, 25) ∧ ∃ P16 : Int → zM → Prop, zCi E mX7_isBegun d 0 0 [vR (some a0), vI x1] M10 P16 ∧ ∀ r19 M18, P16 r19 M18 → ((r19 ≠ 0 → P 0 M18) ∧ (r19 = 0 → zK M18 a0 = (8, 25) ∧ ∃ P23 : Int → zM → Prop, zCi E mX7_hangs d 0 0 [vR (some a0), vI x2, vI x1] M18 P23 ∧ ∀ r26 M25, P23 r26 M25 → ((r26 ≠ 0 → P 0 M25) ∧ (r26 = 0 → P 1 M25))))))))))) :
    ZX7_canNeed E d X P 0 [(0, vR (some a0)), (1, vI x1), (2, vI x2)] [] M 0 0 := by
  refine z_aload_n 0 dX7_canNeed_0 rfl ?_
  refine z_iload_n 1 dX7_canNeed_1 rfl ?_
  obtain ⟨q6, h⟩ := h
  obtain ⟨P1, c2, h⟩ := h
  refine z_Vi (as := [vI x1]) mv_X7_100 dX7_canNeed_2 c2 q6 rfl rfl (Nat.le_of_ble_eq_true rfl) (Nat.le_of_ble_eq_true rfl) (Nat.le_of_ble_eq_true rfl) (fun r4 M3 p5 => ?_)
  have h := h r4 M3 p5
  refine z_if_eq (tgt := 42) dX7_canNeed_5 (by decide) (fun q7 => ?_) (fun q7 => ?_)
  · have h := h.1 q7
    refine z_iconst dX7_canNeed_42 (by decide) ?_
    exact z_zret hr dX7_canNeed_43 (Nat.le_of_ble_eq_true rfl) (Nat.le_of_ble_eq_true rfl) (by decide) ⟨_, rfl, h⟩
  · have h := h.2 q7
    refine z_aload_n 0 dX7_canNeed_8 rfl ?_
    refine z_iload_n 2 dX7_canNeed_9 rfl ?_
    obtain ⟨q13, h⟩ := h
    obtain ⟨P8, c9, h⟩ := h
    refine z_Vi (as := [vI x2]) mv_X7_100 dX7_canNeed_10 c9 q13 rfl rfl (Nat.le_of_ble_eq_true rfl) (Nat.le_of_ble_eq_true rfl) (Nat.le_of_ble_eq_true rfl) (fun r11 M10 p12 => ?_)
    have h := h r11 M10 p12
    refine z_if_eq (tgt := 42) dX7_canNeed_13 (by decide) (fun q14 => ?_) (fun q14 => ?_)
    · have h := h.1 q14
      refine z_iconst dX7_canNeed_42 (by decide) ?_
      exact z_zret hr dX7_canNeed_43 (Nat.le_of_ble_eq_true rfl) (Nat.le_of_ble_eq_true rfl) (by decide) ⟨_, rfl, h⟩
    · have h := h.2 q14
      refine z_iload_n 1 dX7_canNeed_16 rfl ?_
      refine z_iload_n 2 dX7_canNeed_17 rfl ?_
      refine z_icmp_eq (tgt := 42) dX7_canNeed_18 (by decide) (fun q15 => ?_) (fun q15 => ?_)
      · have h := h.1 q15
        refine z_iconst dX7_canNeed_42 (by decide) ?_
        exact z_zret hr dX7_canNeed_43 (Nat.le_of_ble_eq_true rfl) (Nat.le_of_ble_eq_true rfl) (by decide) ⟨_, rfl, h⟩
      · have h := h.2 q15
        refine z_aload_n 0 dX7_canNeed_21 rfl ?_
        refine z_iload_n 1 dX7_canNeed_22 rfl ?_
        obtain ⟨q21, h⟩ := h
        obtain ⟨P16, c17, h⟩ := h
        refine z_Vi (as := [vI x1]) mv_X7_103 dX7_canNeed_23 c17 q21 rfl rfl (Nat.le_of_ble_eq_true rfl) (Nat.le_of_ble_eq_true rfl) (Nat.le_of_ble_eq_true rfl) (fun r19 M18 p20 => ?_)
        have h := h r19 M18 p20
        refine z_if_ne (tgt := 42) dX7_canNeed_26 (by decide) (fun q22 => ?_) (fun q22 => ?_)
        · have h := h.1 q22
          refine z_iconst dX7_canNeed_42 (by decide) ?_
          exact z_zret hr dX7_canNeed_43 (Nat.le_of_ble_eq_true rfl) (Nat.le_of_ble_eq_true rfl) (by decide) ⟨_, rfl, h⟩
        · have h := h.2 q22
          refine z_aload_n 0 dX7_canNeed_29 rfl ?_
          refine z_iload_n 2 dX7_canNeed_30 rfl ?_
          refine z_iload_n 1 dX7_canNeed_31 rfl ?_
          obtain ⟨q28, h⟩ := h
          obtain ⟨P23, c24, h⟩ := h
          refine z_Vi (as := [vI x2, vI x1]) mv_X7_106 dX7_canNeed_32 c24 q28 rfl rfl (Nat.le_of_ble_eq_true rfl) (Nat.le_of_ble_eq_true rfl) (Nat.le_of_ble_eq_true rfl) (fun r26 M25 p27 => ?_)
          have h := h r26 M25 p27
          refine z_if_ne (tgt := 42) dX7_canNeed_35 (by decide) (fun q29 => ?_) (fun q29 => ?_)
          · have h := h.1 q29
            refine z_iconst dX7_canNeed_42 (by decide) ?_
            exact z_zret hr dX7_canNeed_43 (Nat.le_of_ble_eq_true rfl) (Nat.le_of_ble_eq_true rfl) (by decide) ⟨_, rfl, h⟩
          · have h := h.2 q29
            refine z_iconst dX7_canNeed_38 (by decide) ?_
            refine z_goto (tgt := 43) dX7_canNeed_39 (by decide) ?_
            exact z_zret hr dX7_canNeed_43 (Nat.le_of_ble_eq_true rfl) (Nat.le_of_ble_eq_true rfl) (by decide) ⟨_, rfl, h⟩
theorem sX7_canNeed {E : zE} {d : Nat} {P : Int → zM → Prop} {M : zM} (a0 : Nat) (x1 : Int) (x2 : Int) (h : ∀ X : zX, (xh X).sig.returnType = (some .boolean) → ZX7_canNeed E d X P 0 [(0, vR (some a0)), (1, vI x1), (2, vI x2)] [] M 0 0) : zCi E mX7_canNeed (d + 1) 0 0 [vR (some a0), vI x1, vI x2] M P := z_start (f := mX7_canNeed) rfl (Nat.le_of_ble_eq_true rfl) rfl h
abbrev ZX7_need (E : zE) (d : Nat) (X : zX) (P : Int → zM → Prop) (pc : Nat) (Lc : List (Nat × zV)) (S : List zV) (M : zM) (ce sl : Nat) : Prop := zZ cX7_need RX7 "need" 3 E (zrm (d + 1) 0 0) X (zQ E (zPi P) X 0 0) pc Lc S M ce sl
set_option maxRecDepth 20000 in
theorem vX7_need_0 {E : zE} {d : Nat} {X : zX} {P : Int → zM → Prop} {M : zM} (hr : (xh X).sig.returnType = (some .boolean)) (a0 : Nat) (x1 : Int) (x2 : Int)
    (h : zK M a0 = (8, 25) ∧ ∃ P1 : Int → zM → Prop, zCi E mX7_canNeed d 0 0 [vR (some a0), vI x1, vI x2] M P1 ∧ ∀ r4 M3, P1 r4 M3 → ((r4 = 0 → P 0 M3) ∧ (r4 ≠ 0 → zK M3 a0 = (8, 25) ∧ zin (40 * x1) ∧ zin ((40 * x1) + x2) ∧ ∃ b11, zR M3 a0 17 = some b11 ∧ (zK M3 b11).1 = 10 ∧ 0 ≤ ((40 * x1) + x2) ∧ ((40 * x1) + x2) < ((zK M3 b11).2 : Int) ∧ (((zI M3 b11 ((40 * x1) + x2)) = 0 → zK M3 a0 = (8, 25) ∧ zin (40 * x1) ∧ zin ((40 * x1) + x2) ∧ (zK M3 b11).1 = 10 ∧ 0 ≤ ((40 * x1) + x2) ∧ ((40 * x1) + x2) < ((zK M3 b11).2 : Int) ∧ ∀ M22, M22 = zsI M3 b11 ((40 * x1) + x2) 1 → P 1 M22) ∧ ((zI M3 b11 ((40 * x1) + x2)) ≠ 0 → P 0 M3))))) :
    ZX7_need E d X P 0 [(0, vR (some a0)), (1, vI x1), (2, vI x2)] [] M 0 0 := by
  refine z_aload_n 0 dX7_need_0 rfl ?_
  refine z_iload_n 1 dX7_need_1 rfl ?_
  refine z_iload_n 2 dX7_need_2 rfl ?_
  obtain ⟨q6, h⟩ := h
  obtain ⟨P1, c2, h⟩ := h
  refine z_Vi (as := [vI x1, vI x2]) mv_X7_110 dX7_need_3 c2 q6 rfl rfl (Nat.le_of_ble_eq_true rfl) (Nat.le_of_ble_eq_true rfl) (Nat.le_of_ble_eq_true rfl) (fun r4 M3 p5 => ?_)
  have h := h r4 M3 p5
  refine z_if_eq (tgt := 23) dX7_need_6 (by decide) (fun q7 => ?_) (fun q7 => ?_)
  · have h := h.1 q7
    refine z_iconst dX7_need_23 (by decide) ?_
    exact z_zret hr dX7_need_24 (Nat.le_of_ble_eq_true rfl) (Nat.le_of_ble_eq_true rfl) (by decide) ⟨_, rfl, h⟩
  · have h := h.2 q7
    refine z_aload_n 0 dX7_need_9 rfl ?_
    obtain ⟨q8, h⟩ := h
    refine z_getR fl_X7_50 rfl dX7_need_10 q8 ?_
    refine z_bipush dX7_need_13 (by decide) ?_
    refine z_iload_n 1 dX7_need_15 rfl ?_
    obtain ⟨q9, h⟩ := h
    refine z_imul dX7_need_16 q9 ?_
    refine z_iload_n 2 dX7_need_17 rfl ?_
    obtain ⟨q10, h⟩ := h
    refine z_iadd dX7_need_18 q10 ?_
    obtain ⟨b11, eb11, h⟩ := h
    rw [eb11]
    obtain ⟨q12, h⟩ := h
    obtain ⟨q13, h⟩ := h
    obtain ⟨q14, h⟩ := h
    refine z_bald dX7_need_19 (n := (zK M3 b11).2) (Prod.ext q12 rfl) q13 q14 ?_
    refine z_if_eq (tgt := 25) dX7_need_20 (by decide) (fun q15 => ?_) (fun q15 => ?_)
    · have h := h.1 q15
      refine z_aload_n 0 dX7_need_25 rfl ?_
      obtain ⟨q16, h⟩ := h
      refine z_getR fl_X7_50 rfl dX7_need_26 q16 ?_
      rw [eb11]
      refine z_bipush dX7_need_29 (by decide) ?_
      refine z_iload_n 1 dX7_need_31 rfl ?_
      obtain ⟨q17, h⟩ := h
      refine z_imul dX7_need_32 q17 ?_
      refine z_iload_n 2 dX7_need_33 rfl ?_
      obtain ⟨q18, h⟩ := h
      refine z_iadd dX7_need_34 q18 ?_
      refine z_iconst dX7_need_35 (by decide) ?_
      obtain ⟨q19, h⟩ := h
      obtain ⟨q20, h⟩ := h
      obtain ⟨q21, h⟩ := h
      refine z_bast dX7_need_36 (n := (zK M3 b11).2) (Prod.ext q19 rfl) q20 q21 (by decide) ?_
      obtain ⟨M22, hmM22⟩ : ∃ z, z = zsI M3 b11 ((40 * x1) + x2) 1 := ⟨_, rfl⟩
      rw [← hmM22]
      have h := h M22 hmM22
      refine z_iconst dX7_need_37 (by decide) ?_
      exact z_zret hr dX7_need_38 (Nat.le_of_ble_eq_true rfl) (Nat.le_of_ble_eq_true rfl) (by decide) ⟨_, rfl, h⟩
    · have h := h.2 q15
      refine z_iconst dX7_need_23 (by decide) ?_
      exact z_zret hr dX7_need_24 (Nat.le_of_ble_eq_true rfl) (Nat.le_of_ble_eq_true rfl) (by decide) ⟨_, rfl, h⟩
theorem sX7_need {E : zE} {d : Nat} {P : Int → zM → Prop} {M : zM} (a0 : Nat) (x1 : Int) (x2 : Int) (h : ∀ X : zX, (xh X).sig.returnType = (some .boolean) → ZX7_need E d X P 0 [(0, vR (some a0)), (1, vI x1), (2, vI x2)] [] M 0 0) : zCi E mX7_need (d + 1) 0 0 [vR (some a0), vI x1, vI x2] M P := z_start (f := mX7_need) rfl (Nat.le_of_ble_eq_true rfl) rfl h
abbrev ZX7_tells (E : zE) (d : Nat) (X : zX) (P : Int → zM → Prop) (pc : Nat) (Lc : List (Nat × zV)) (S : List zV) (M : zM) (ce sl : Nat) : Prop := zZ cX7_tells RX7 "tells" 3 E (zrm (d + 1) 0 0) X (zQ E (zPi P) X 0 0) pc Lc S M ce sl
set_option maxRecDepth 20000 in
theorem vX7_tells_0 {E : zE} {d : Nat} {X : zX} {P : Int → zM → Prop} {M : zM} (hr : (xh X).sig.returnType = (some .boolean)) (a0 : Nat) (x1 : Int) (x2 : Int)
    (h : zK M a0 = (8, 25) ∧ ∃ P1 : Int → zM → Prop, zCi E mX7_canNeed d 0 0 [vR (some a0), vI x1, vI x2] M P1 ∧ ∀ r4 M3, P1 r4 M3 → ((r4 = 0 → P 0 M3) ∧ (r4 ≠ 0 → zK M3 a0 = (8, 25) ∧ ∃ b9, zR M3 a0 13 = some b9 ∧ (zK M3 b9).1 = 9 ∧ 0 ≤ x1 ∧ x1 < ((zK M3 b9).2 : Int) ∧ (((zI M3 b9 x1) ≠ 4 → P 0 M3) ∧ ((zI M3 b9 x1) = 4 → zK M3 a0 = (8, 25) ∧ zin (40 * x1) ∧ zin ((40 * x1) + x2) ∧ ∃ b17, zR M3 a0 18 = some b17 ∧ (zK M3 b17).1 = 10 ∧ 0 ≤ ((40 * x1) + x2) ∧ ((40 * x1) + x2) < ((zK M3 b17).2 : Int) ∧ (((zI M3 b17 ((40 * x1) + x2)) = 0 → zK M3 a0 = (8, 25) ∧ zin (40 * x1) ∧ zin ((40 * x1) + x2) ∧ ∃ b25, zR M3 a0 17 = some b25 ∧ (zK M3 b25).1 = 10 ∧ 0 ≤ ((40 * x1) + x2) ∧ ((40 * x1) + x2) < ((zK M3 b25).2 : Int) ∧ ∀ M29, M29 = zsI M3 b25 ((40 * x1) + x2) 1 → zK M29 a0 = (8, 25) ∧ zin (40 * x1) ∧ zin ((40 * x1) + x2) ∧ ∃ b33, zR M29 a0 18 = some b33 ∧ (zK M29 b33).1 = 10 ∧ 0 ≤ ((40 * x1) + x2) ∧ ((40 * x1) + x2) < ((zK M29 b33).2 : Int) ∧ ∀ M37, M37 = zsI M29 b33 ((40 * x1) + x2) 1 → P 1 M37) ∧ ((zI M3 b17 ((40 * x1) + x2)) ≠ 0 → P 0 M3))))))) :
    ZX7_tells E d X P 0 [(0, vR (some a0)), (1, vI x1), (2, vI x2)] [] M 0 0 := by
  refine z_aload_n 0 dX7_tells_0 rfl ?_
  refine z_iload_n 1 dX7_tells_1 rfl ?_
  refine z_iload_n 2 dX7_tells_2 rfl ?_
  obtain ⟨q6, h⟩ := h
  obtain ⟨P1, c2, h⟩ := h
  refine z_Vi (as := [vI x1, vI x2]) mv_X7_110 dX7_tells_3 c2 q6 rfl rfl (Nat.le_of_ble_eq_true rfl) (Nat.le_of_ble_eq_true rfl) (Nat.le_of_ble_eq_true rfl) (fun r4 M3 p5 => ?_)
  have h := h r4 M3 p5
  refine z_if_eq (tgt := 33) dX7_tells_6 (by decide) (fun q7 => ?_) (fun q7 => ?_)
  · have h := h.1 q7
    refine z_iconst dX7_tells_33 (by decide) ?_
    exact z_zret hr dX7_tells_34 (Nat.le_of_ble_eq_true rfl) (Nat.le_of_ble_eq_true rfl) (by decide) ⟨_, rfl, h⟩
  · have h := h.2 q7
    refine z_aload_n 0 dX7_tells_9 rfl ?_
    obtain ⟨q8, h⟩ := h
    refine z_getR fl_X7_38 rfl dX7_tells_10 q8 ?_
    refine z_iload_n 1 dX7_tells_13 rfl ?_
    obtain ⟨b9, eb9, h⟩ := h
    rw [eb9]
    obtain ⟨q10, h⟩ := h
    obtain ⟨q11, h⟩ := h
    obtain ⟨q12, h⟩ := h
    refine z_iald dX7_tells_14 (n := (zK M3 b9).2) (Prod.ext q10 rfl) q11 q12 ?_
    refine z_iconst dX7_tells_15 (by decide) ?_
    refine z_icmp_ne (tgt := 33) dX7_tells_16 (by decide) (fun q13 => ?_) (fun q13 => ?_)
    · have h := h.1 q13
      refine z_iconst dX7_tells_33 (by decide) ?_
      exact z_zret hr dX7_tells_34 (Nat.le_of_ble_eq_true rfl) (Nat.le_of_ble_eq_true rfl) (by decide) ⟨_, rfl, h⟩
    · have h := h.2 q13
      refine z_aload_n 0 dX7_tells_19 rfl ?_
      obtain ⟨q14, h⟩ := h
      refine z_getR fl_X7_53 rfl dX7_tells_20 q14 ?_
      refine z_bipush dX7_tells_23 (by decide) ?_
      refine z_iload_n 1 dX7_tells_25 rfl ?_
      obtain ⟨q15, h⟩ := h
      refine z_imul dX7_tells_26 q15 ?_
      refine z_iload_n 2 dX7_tells_27 rfl ?_
      obtain ⟨q16, h⟩ := h
      refine z_iadd dX7_tells_28 q16 ?_
      obtain ⟨b17, eb17, h⟩ := h
      rw [eb17]
      obtain ⟨q18, h⟩ := h
      obtain ⟨q19, h⟩ := h
      obtain ⟨q20, h⟩ := h
      refine z_bald dX7_tells_29 (n := (zK M3 b17).2) (Prod.ext q18 rfl) q19 q20 ?_
      refine z_if_eq (tgt := 35) dX7_tells_30 (by decide) (fun q21 => ?_) (fun q21 => ?_)
      · have h := h.1 q21
        refine z_aload_n 0 dX7_tells_35 rfl ?_
        obtain ⟨q22, h⟩ := h
        refine z_getR fl_X7_50 rfl dX7_tells_36 q22 ?_
        refine z_bipush dX7_tells_39 (by decide) ?_
        refine z_iload_n 1 dX7_tells_41 rfl ?_
        obtain ⟨q23, h⟩ := h
        refine z_imul dX7_tells_42 q23 ?_
        refine z_iload_n 2 dX7_tells_43 rfl ?_
        obtain ⟨q24, h⟩ := h
        refine z_iadd dX7_tells_44 q24 ?_
        refine z_iconst dX7_tells_45 (by decide) ?_
        obtain ⟨b25, eb25, h⟩ := h
        rw [eb25]
        obtain ⟨q26, h⟩ := h
        obtain ⟨q27, h⟩ := h
        obtain ⟨q28, h⟩ := h
        refine z_bast dX7_tells_46 (n := (zK M3 b25).2) (Prod.ext q26 rfl) q27 q28 (by decide) ?_
        obtain ⟨M29, hmM29⟩ : ∃ z, z = zsI M3 b25 ((40 * x1) + x2) 1 := ⟨_, rfl⟩
        rw [← hmM29]
        have h := h M29 hmM29
        refine z_aload_n 0 dX7_tells_47 rfl ?_
        obtain ⟨q30, h⟩ := h
        refine z_getR fl_X7_53 rfl dX7_tells_48 q30 ?_
        refine z_bipush dX7_tells_51 (by decide) ?_
        refine z_iload_n 1 dX7_tells_53 rfl ?_
        obtain ⟨q31, h⟩ := h
        refine z_imul dX7_tells_54 q31 ?_
        refine z_iload_n 2 dX7_tells_55 rfl ?_
        obtain ⟨q32, h⟩ := h
        refine z_iadd dX7_tells_56 q32 ?_
        refine z_iconst dX7_tells_57 (by decide) ?_
        obtain ⟨b33, eb33, h⟩ := h
        rw [eb33]
        obtain ⟨q34, h⟩ := h
        obtain ⟨q35, h⟩ := h
        obtain ⟨q36, h⟩ := h
        refine z_bast dX7_tells_58 (n := (zK M29 b33).2) (Prod.ext q34 rfl) q35 q36 (by decide) ?_
        obtain ⟨M37, hmM37⟩ : ∃ z, z = zsI M29 b33 ((40 * x1) + x2) 1 := ⟨_, rfl⟩
        rw [← hmM37]
        have h := h M37 hmM37
        refine z_iconst dX7_tells_59 (by decide) ?_
        exact z_zret hr dX7_tells_60 (Nat.le_of_ble_eq_true rfl) (Nat.le_of_ble_eq_true rfl) (by decide) ⟨_, rfl, h⟩
      · have h := h.2 q21
        refine z_iconst dX7_tells_33 (by decide) ?_
        exact z_zret hr dX7_tells_34 (Nat.le_of_ble_eq_true rfl) (Nat.le_of_ble_eq_true rfl) (by decide) ⟨_, rfl, h⟩
theorem sX7_tells {E : zE} {d : Nat} {P : Int → zM → Prop} {M : zM} (a0 : Nat) (x1 : Int) (x2 : Int) (h : ∀ X : zX, (xh X).sig.returnType = (some .boolean) → ZX7_tells E d X P 0 [(0, vR (some a0)), (1, vI x1), (2, vI x2)] [] M 0 0) : zCi E mX7_tells (d + 1) 0 0 [vR (some a0), vI x1, vI x2] M P := z_start (f := mX7_tells) rfl (Nat.le_of_ble_eq_true rfl) rfl h
abbrev ZX7_put (E : zE) (d : Nat) (X : zX) (P : Int → zM → Prop) (pc : Nat) (Lc : List (Nat × zV)) (S : List zV) (M : zM) (ce sl : Nat) : Prop := zZ cX7_put RX7 "put" 3 E (zrm (d + 1) 0 0) X (zQ E (zPi P) X 0 0) pc Lc S M ce sl
set_option maxRecDepth 20000 in
theorem vX7_put_0 {E : zE} {d : Nat} {X : zX} {P : Int → zM → Prop} {M : zM} (hr : (xh X).sig.returnType = (some .boolean)) (a0 : Nat) (x1 : Int) (x2 : Int)
    (h : zK M a0 = (8, 25) ∧ ∃ P1 : Int → zM → Prop, zCi E mX7_isWork d 0 0 [vR (some a0), vI x1] M P1 ∧ ∀ r4 M3, P1 r4 M3 → ((r4 = 0 → P 0 M3) ∧ (r4 ≠ 0 → zK M3 a0 = (8, 25) ∧ ∃ P8 : Int → zM → Prop, zCi E mX7_isBegun d 0 0 [vR (some a0), vI x1] M3 P8 ∧ ∀ r11 M10, P8 r11 M10 → ((r11 ≠ 0 → P 0 M10) ∧ (r11 = 0 → zK M10 a0 = (8, 25) ∧ ((x2 < (zI M10 a0 0) → P 0 M10) ∧ ((zI M10 a0 0) ≤ x2 → zK M10 a0 = (8, 25) ∧ ∃ b18, zR M10 a0 9 = some b18 ∧ (zK M10 b18).1 = 9 ∧ 0 ≤ x1 ∧ x1 < ((zK M10 b18).2 : Int) ∧ zin (400 - (zI M10 b18 x1)) ∧ ((x2 ≤ (400 - (zI M10 b18 x1)) → zK M10 a0 = (8, 25) ∧ ∃ b25, zR M10 a0 15 = some b25 ∧ (zK M10 b25).1 = 9 ∧ 0 ≤ x1 ∧ x1 < ((zK M10 b25).2 : Int) ∧ ∀ M29, M29 = zsI M10 b25 x1 x2 → P 1 M29) ∧ ((400 - (zI M10 b18 x1)) < x2 → P 0 M10))))))))) :
    ZX7_put E d X P 0 [(0, vR (some a0)), (1, vI x1), (2, vI x2)] [] M 0 0 := by
  refine z_aload_n 0 dX7_put_0 rfl ?_
  refine z_iload_n 1 dX7_put_1 rfl ?_
  obtain ⟨q6, h⟩ := h
  obtain ⟨P1, c2, h⟩ := h
  refine z_Vi (as := [vI x1]) mv_X7_100 dX7_put_2 c2 q6 rfl rfl (Nat.le_of_ble_eq_true rfl) (Nat.le_of_ble_eq_true rfl) (Nat.le_of_ble_eq_true rfl) (fun r4 M3 p5 => ?_)
  have h := h r4 M3 p5
  refine z_if_eq (tgt := 38) dX7_put_5 (by decide) (fun q7 => ?_) (fun q7 => ?_)
  · have h := h.1 q7
    refine z_iconst dX7_put_38 (by decide) ?_
    exact z_zret hr dX7_put_39 (Nat.le_of_ble_eq_true rfl) (Nat.le_of_ble_eq_true rfl) (by decide) ⟨_, rfl, h⟩
  · have h := h.2 q7
    refine z_aload_n 0 dX7_put_8 rfl ?_
    refine z_iload_n 1 dX7_put_9 rfl ?_
    obtain ⟨q13, h⟩ := h
    obtain ⟨P8, c9, h⟩ := h
    refine z_Vi (as := [vI x1]) mv_X7_103 dX7_put_10 c9 q13 rfl rfl (Nat.le_of_ble_eq_true rfl) (Nat.le_of_ble_eq_true rfl) (Nat.le_of_ble_eq_true rfl) (fun r11 M10 p12 => ?_)
    have h := h r11 M10 p12
    refine z_if_ne (tgt := 38) dX7_put_13 (by decide) (fun q14 => ?_) (fun q14 => ?_)
    · have h := h.1 q14
      refine z_iconst dX7_put_38 (by decide) ?_
      exact z_zret hr dX7_put_39 (Nat.le_of_ble_eq_true rfl) (Nat.le_of_ble_eq_true rfl) (by decide) ⟨_, rfl, h⟩
    · have h := h.2 q14
      refine z_iload_n 2 dX7_put_16 rfl ?_
      refine z_aload_n 0 dX7_put_17 rfl ?_
      obtain ⟨q15, h⟩ := h
      refine z_getI fl_X7_93 dX7_put_18 q15 ?_
      refine z_icmp_lt (tgt := 38) dX7_put_21 (by decide) (fun q16 => ?_) (fun q16 => ?_)
      · have h := h.1 q16
        refine z_iconst dX7_put_38 (by decide) ?_
        exact z_zret hr dX7_put_39 (Nat.le_of_ble_eq_true rfl) (Nat.le_of_ble_eq_true rfl) (by decide) ⟨_, rfl, h⟩
      · have h := h.2 q16
        refine z_iload_n 2 dX7_put_24 rfl ?_
        refine z_sipush dX7_put_25 (by decide) ?_
        refine z_aload_n 0 dX7_put_28 rfl ?_
        obtain ⟨q17, h⟩ := h
        refine z_getR fl_X7_26 rfl dX7_put_29 q17 ?_
        refine z_iload_n 1 dX7_put_32 rfl ?_
        obtain ⟨b18, eb18, h⟩ := h
        rw [eb18]
        obtain ⟨q19, h⟩ := h
        obtain ⟨q20, h⟩ := h
        obtain ⟨q21, h⟩ := h
        refine z_iald dX7_put_33 (n := (zK M10 b18).2) (Prod.ext q19 rfl) q20 q21 ?_
        obtain ⟨q22, h⟩ := h
        refine z_isub dX7_put_34 q22 ?_
        refine z_icmp_le (tgt := 40) dX7_put_35 (by decide) (fun q23 => ?_) (fun q23 => ?_)
        · have h := h.1 q23
          refine z_aload_n 0 dX7_put_40 rfl ?_
          obtain ⟨q24, h⟩ := h
          refine z_getR fl_X7_44 rfl dX7_put_41 q24 ?_
          refine z_iload_n 1 dX7_put_44 rfl ?_
          refine z_iload_n 2 dX7_put_45 rfl ?_
          obtain ⟨b25, eb25, h⟩ := h
          rw [eb25]
          obtain ⟨q26, h⟩ := h
          obtain ⟨q27, h⟩ := h
          obtain ⟨q28, h⟩ := h
          refine z_iast dX7_put_46 (n := (zK M10 b25).2) (Prod.ext q26 rfl) q27 q28 ?_
          obtain ⟨M29, hmM29⟩ : ∃ z, z = zsI M10 b25 x1 x2 := ⟨_, rfl⟩
          rw [← hmM29]
          have h := h M29 hmM29
          refine z_iconst dX7_put_47 (by decide) ?_
          exact z_zret hr dX7_put_48 (Nat.le_of_ble_eq_true rfl) (Nat.le_of_ble_eq_true rfl) (by decide) ⟨_, rfl, h⟩
        · have h := h.2 q23
          refine z_iconst dX7_put_38 (by decide) ?_
          exact z_zret hr dX7_put_39 (Nat.le_of_ble_eq_true rfl) (Nat.le_of_ble_eq_true rfl) (by decide) ⟨_, rfl, h⟩
theorem sX7_put {E : zE} {d : Nat} {P : Int → zM → Prop} {M : zM} (a0 : Nat) (x1 : Int) (x2 : Int) (h : ∀ X : zX, (xh X).sig.returnType = (some .boolean) → ZX7_put E d X P 0 [(0, vR (some a0)), (1, vI x1), (2, vI x2)] [] M 0 0) : zCi E mX7_put (d + 1) 0 0 [vR (some a0), vI x1, vI x2] M P := z_start (f := mX7_put) rfl (Nat.le_of_ble_eq_true rfl) rfl h
abbrev ZX7_take (E : zE) (d : Nat) (X : zX) (P : Int → zM → Prop) (pc : Nat) (Lc : List (Nat × zV)) (S : List zV) (M : zM) (ce sl : Nat) : Prop := zZ cX7_take RX7 "take" 2 E (zrm (d + 1) 0 0) X (zQ E (zPi P) X 0 0) pc Lc S M ce sl
set_option maxRecDepth 20000 in
theorem vX7_take_0 {E : zE} {d : Nat} {X : zX} {P : Int → zM → Prop} {M : zM} (hr : (xh X).sig.returnType = (some .boolean)) (a0 : Nat) (x1 : Int)
    (h : zK M a0 = (8, 25) ∧ ∃ P1 : Int → zM → Prop, zCi E mX7_isWork d 0 0 [vR (some a0), vI x1] M P1 ∧ ∀ r4 M3, P1 r4 M3 → ((r4 = 0 → P 0 M3) ∧ (r4 ≠ 0 → zK M3 a0 = (8, 25) ∧ ∃ P8 : Int → zM → Prop, zCi E mX7_isPut d 0 0 [vR (some a0), vI x1] M3 P8 ∧ ∀ r11 M10, P8 r11 M10 → ((r11 = 0 → P 0 M10) ∧ (r11 ≠ 0 → zK M10 a0 = (8, 25) ∧ ∃ P15 : Int → zM → Prop, zCi E mX7_isBegun d 0 0 [vR (some a0), vI x1] M10 P15 ∧ ∀ r18 M17, P15 r18 M17 → ((r18 = 0 → zK M17 a0 = (8, 25) ∧ ∃ b23, zR M17 a0 15 = some b23 ∧ (zK M17 b23).1 = 9 ∧ 0 ≤ x1 ∧ x1 < ((zK M17 b23).2 : Int) ∧ ∀ M27, M27 = zsI M17 b23 x1 (-1) → P 1 M27) ∧ (r18 ≠ 0 → P 0 M17))))))) :
    ZX7_take E d X P 0 [(0, vR (some a0)), (1, vI x1)] [] M 0 0 := by
  refine z_aload_n 0 dX7_take_0 rfl ?_
  refine z_iload_n 1 dX7_take_1 rfl ?_
  obtain ⟨q6, h⟩ := h
  obtain ⟨P1, c2, h⟩ := h
  refine z_Vi (as := [vI x1]) mv_X7_100 dX7_take_2 c2 q6 rfl rfl (Nat.le_of_ble_eq_true rfl) (Nat.le_of_ble_eq_true rfl) (Nat.le_of_ble_eq_true rfl) (fun r4 M3 p5 => ?_)
  have h := h r4 M3 p5
  refine z_if_eq (tgt := 24) dX7_take_5 (by decide) (fun q7 => ?_) (fun q7 => ?_)
  · have h := h.1 q7
    refine z_iconst dX7_take_24 (by decide) ?_
    exact z_zret hr dX7_take_25 (Nat.le_of_ble_eq_true rfl) (Nat.le_of_ble_eq_true rfl) (by decide) ⟨_, rfl, h⟩
  · have h := h.2 q7
    refine z_aload_n 0 dX7_take_8 rfl ?_
    refine z_iload_n 1 dX7_take_9 rfl ?_
    obtain ⟨q13, h⟩ := h
    obtain ⟨P8, c9, h⟩ := h
    refine z_Vi (as := [vI x1]) mv_X7_89 dX7_take_10 c9 q13 rfl rfl (Nat.le_of_ble_eq_true rfl) (Nat.le_of_ble_eq_true rfl) (Nat.le_of_ble_eq_true rfl) (fun r11 M10 p12 => ?_)
    have h := h r11 M10 p12
    refine z_if_eq (tgt := 24) dX7_take_13 (by decide) (fun q14 => ?_) (fun q14 => ?_)
    · have h := h.1 q14
      refine z_iconst dX7_take_24 (by decide) ?_
      exact z_zret hr dX7_take_25 (Nat.le_of_ble_eq_true rfl) (Nat.le_of_ble_eq_true rfl) (by decide) ⟨_, rfl, h⟩
    · have h := h.2 q14
      refine z_aload_n 0 dX7_take_16 rfl ?_
      refine z_iload_n 1 dX7_take_17 rfl ?_
      obtain ⟨q20, h⟩ := h
      obtain ⟨P15, c16, h⟩ := h
      refine z_Vi (as := [vI x1]) mv_X7_103 dX7_take_18 c16 q20 rfl rfl (Nat.le_of_ble_eq_true rfl) (Nat.le_of_ble_eq_true rfl) (Nat.le_of_ble_eq_true rfl) (fun r18 M17 p19 => ?_)
      have h := h r18 M17 p19
      refine z_if_eq (tgt := 26) dX7_take_21 (by decide) (fun q21 => ?_) (fun q21 => ?_)
      · have h := h.1 q21
        refine z_aload_n 0 dX7_take_26 rfl ?_
        obtain ⟨q22, h⟩ := h
        refine z_getR fl_X7_44 rfl dX7_take_27 q22 ?_
        refine z_iload_n 1 dX7_take_30 rfl ?_
        refine z_iconst dX7_take_31 (by decide) ?_
        obtain ⟨b23, eb23, h⟩ := h
        rw [eb23]
        obtain ⟨q24, h⟩ := h
        obtain ⟨q25, h⟩ := h
        obtain ⟨q26, h⟩ := h
        refine z_iast dX7_take_32 (n := (zK M17 b23).2) (Prod.ext q24 rfl) q25 q26 ?_
        obtain ⟨M27, hmM27⟩ : ∃ z, z = zsI M17 b23 x1 (-1) := ⟨_, rfl⟩
        rw [← hmM27]
        have h := h M27 hmM27
        refine z_iconst dX7_take_33 (by decide) ?_
        exact z_zret hr dX7_take_34 (Nat.le_of_ble_eq_true rfl) (Nat.le_of_ble_eq_true rfl) (by decide) ⟨_, rfl, h⟩
      · have h := h.2 q21
        refine z_iconst dX7_take_24 (by decide) ?_
        exact z_zret hr dX7_take_25 (Nat.le_of_ble_eq_true rfl) (Nat.le_of_ble_eq_true rfl) (by decide) ⟨_, rfl, h⟩
theorem sX7_take {E : zE} {d : Nat} {P : Int → zM → Prop} {M : zM} (a0 : Nat) (x1 : Int) (h : ∀ X : zX, (xh X).sig.returnType = (some .boolean) → ZX7_take E d X P 0 [(0, vR (some a0)), (1, vI x1)] [] M 0 0) : zCi E mX7_take (d + 1) 0 0 [vR (some a0), vI x1] M P := z_start (f := mX7_take) rfl (Nat.le_of_ble_eq_true rfl) rfl h
abbrev ZX7_isIn (E : zE) (d : Nat) (X : zX) (P : Int → zM → Prop) (pc : Nat) (Lc : List (Nat × zV)) (S : List zV) (M : zM) (ce sl : Nat) : Prop := zZ cX7_isIn RX7 "isIn" 3 E (zrm (d + 1) 0 0) X (zQ E (zPi P) X 0 0) pc Lc S M ce sl
set_option maxRecDepth 20000 in
theorem vX7_isIn_0 {E : zE} {d : Nat} {X : zX} {P : Int → zM → Prop} {M : zM} (hr : (xh X).sig.returnType = (some .boolean)) (a0 : Nat) (x1 : Int) (x2 : Int)
    (h : zK M a0 = (8, 25) ∧ ∃ P1 : Int → zM → Prop, zCi E mX7_isPut d 0 0 [vR (some a0), vI x1] M P1 ∧ ∀ r4 M3, P1 r4 M3 → ((r4 = 0 → P 0 M3) ∧ (r4 ≠ 0 → zK M3 a0 = (8, 25) ∧ ∃ b9, zR M3 a0 15 = some b9 ∧ (zK M3 b9).1 = 9 ∧ 0 ≤ x1 ∧ x1 < ((zK M3 b9).2 : Int) ∧ zK M3 a0 = (8, 25) ∧ ∃ P13 : Int → zM → Prop, zCi E mX7_endOf d 0 0 [vR (some a0), vI x1] M3 P13 ∧ ∀ r16 M15, P13 r16 M15 → zin (r16 - 1) ∧ ∃ P20 : Int → zM → Prop, zCi E mX7_in d 0 0 [vI x2, vI (zI M3 b9 x1), vI (r16 - 1)] M15 P20 ∧ ∀ r23 M22, P20 r23 M22 → ((r23 = 0 → P 0 M22) ∧ (r23 ≠ 0 → P 1 M22))))) :
    ZX7_isIn E d X P 0 [(0, vR (some a0)), (1, vI x1), (2, vI x2)] [] M 0 0 := by
  refine z_aload_n 0 dX7_isIn_0 rfl ?_
  refine z_iload_n 1 dX7_isIn_1 rfl ?_
  obtain ⟨q6, h⟩ := h
  obtain ⟨P1, c2, h⟩ := h
  refine z_Vi (as := [vI x1]) mv_X7_89 dX7_isIn_2 c2 q6 rfl rfl (Nat.le_of_ble_eq_true rfl) (Nat.le_of_ble_eq_true rfl) (Nat.le_of_ble_eq_true rfl) (fun r4 M3 p5 => ?_)
  have h := h r4 M3 p5
  refine z_if_eq (tgt := 32) dX7_isIn_5 (by decide) (fun q7 => ?_) (fun q7 => ?_)
  · have h := h.1 q7
    refine z_iconst dX7_isIn_32 (by decide) ?_
    exact z_zret hr dX7_isIn_33 (Nat.le_of_ble_eq_true rfl) (Nat.le_of_ble_eq_true rfl) (by decide) ⟨_, rfl, h⟩
  · have h := h.2 q7
    refine z_iload_n 2 dX7_isIn_8 rfl ?_
    refine z_aload_n 0 dX7_isIn_9 rfl ?_
    obtain ⟨q8, h⟩ := h
    refine z_getR fl_X7_44 rfl dX7_isIn_10 q8 ?_
    refine z_iload_n 1 dX7_isIn_13 rfl ?_
    obtain ⟨b9, eb9, h⟩ := h
    rw [eb9]
    obtain ⟨q10, h⟩ := h
    obtain ⟨q11, h⟩ := h
    obtain ⟨q12, h⟩ := h
    refine z_iald dX7_isIn_14 (n := (zK M3 b9).2) (Prod.ext q10 rfl) q11 q12 ?_
    refine z_aload_n 0 dX7_isIn_15 rfl ?_
    refine z_iload_n 1 dX7_isIn_16 rfl ?_
    obtain ⟨q18, h⟩ := h
    obtain ⟨P13, c14, h⟩ := h
    refine z_Vi (as := [vI x1]) mv_X7_96 dX7_isIn_17 c14 q18 rfl rfl (Nat.le_of_ble_eq_true rfl) (Nat.le_of_ble_eq_true rfl) (Nat.le_of_ble_eq_true rfl) (fun r16 M15 p17 => ?_)
    have h := h r16 M15 p17
    refine z_iconst dX7_isIn_20 (by decide) ?_
    obtain ⟨q19, h⟩ := h
    refine z_isub dX7_isIn_21 q19 ?_
    obtain ⟨P20, c21, h⟩ := h
    refine z_Si (as := [vI x2, vI (zI M3 b9 x1), vI (r16 - 1)]) ms_X7_78 dX7_isIn_22 c21 rfl rfl (Nat.le_of_ble_eq_true rfl) (Nat.le_of_ble_eq_true rfl) (Nat.le_of_ble_eq_true rfl) (fun r23 M22 p24 => ?_)
    have h := h r23 M22 p24
    refine z_if_eq (tgt := 32) dX7_isIn_25 (by decide) (fun q25 => ?_) (fun q25 => ?_)
    · have h := h.1 q25
      refine z_iconst dX7_isIn_32 (by decide) ?_
      exact z_zret hr dX7_isIn_33 (Nat.le_of_ble_eq_true rfl) (Nat.le_of_ble_eq_true rfl) (by decide) ⟨_, rfl, h⟩
    · have h := h.2 q25
      refine z_iconst dX7_isIn_28 (by decide) ?_
      refine z_goto (tgt := 33) dX7_isIn_29 (by decide) ?_
      exact z_zret hr dX7_isIn_33 (Nat.le_of_ble_eq_true rfl) (Nat.le_of_ble_eq_true rfl) (by decide) ⟨_, rfl, h⟩
theorem sX7_isIn {E : zE} {d : Nat} {P : Int → zM → Prop} {M : zM} (a0 : Nat) (x1 : Int) (x2 : Int) (h : ∀ X : zX, (xh X).sig.returnType = (some .boolean) → ZX7_isIn E d X P 0 [(0, vR (some a0)), (1, vI x1), (2, vI x2)] [] M 0 0) : zCi E mX7_isIn (d + 1) 0 0 [vR (some a0), vI x1, vI x2] M P := z_start (f := mX7_isIn) rfl (Nat.le_of_ble_eq_true rfl) rfl h
abbrev ZX7_isBarred (E : zE) (d : Nat) (X : zX) (P : Int → zM → Prop) (pc : Nat) (Lc : List (Nat × zV)) (S : List zV) (M : zM) (ce sl : Nat) : Prop := zZ cX7_isBarred RX7 "isBarred" 4 E (zrm (d + 1) 0 0) X (zQ E (zPi P) X 0 0) pc Lc S M ce sl
set_option maxRecDepth 20000 in
theorem vX7_isBarred_0 {E : zE} {d : Nat} {X : zX} {P : Int → zM → Prop} {M : zM} (hr : (xh X).sig.returnType = (some .boolean)) (a0 : Nat) (x1 : Int) (x2 : Int)
    (h : zK M a0 = (8, 25) ∧ zK M a0 = (8, 25) ∧ ∃ b3, zR M a0 13 = some b3 ∧ (zK M b3).1 = 9 ∧ 0 ≤ x1 ∧ x1 < ((zK M b3).2 : Int) ∧ zin (5 * (zI M b3 x1)) ∧ zK M a0 = (8, 25) ∧ (zK M b3).1 = 9 ∧ 0 ≤ x2 ∧ x2 < ((zK M b3).2 : Int) ∧ zin ((5 * (zI M b3 x1)) + (zI M b3 x2)) ∧ ∃ b13, zR M a0 7 = some b13 ∧ (zK M b13).1 = 9 ∧ 0 ≤ ((5 * (zI M b3 x1)) + (zI M b3 x2)) ∧ ((5 * (zI M b3 x1)) + (zI M b3 x2)) < ((zK M b13).2 : Int) ∧ (((zI M b13 ((5 * (zI M b3 x1)) + (zI M b3 x2))) ≠ 0 → (0 : Int) ≤ (zI M b13 ((5 * (zI M b3 x1)) + (zI M b3 x2))) ∧ (0 : Int) ≤ 4 ∧ (((zand (zI M b13 ((5 * (zI M b3 x1)) + (zI M b3 x2))) 4) ≠ 0 → P 1 M) ∧ ((zand (zI M b13 ((5 * (zI M b3 x1)) + (zI M b3 x2))) 4) = 0 → zK M a0 = (8, 25) ∧ ∃ b22, zR M a0 12 = some b22 ∧ (zK M b22).1 = 9 ∧ 0 ≤ x1 ∧ x1 < ((zK M b22).2 : Int) ∧ zK M a0 = (8, 25) ∧ (zK M b22).1 = 9 ∧ 0 ≤ x2 ∧ x2 < ((zK M b22).2 : Int) ∧ (((zI M b22 x1) ≠ (zI M b22 x2) → (0 : Int) ≤ (zI M b13 ((5 * (zI M b3 x1)) + (zI M b3 x2))) ∧ (0 : Int) ≤ 2 ∧ (((zand (zI M b13 ((5 * (zI M b3 x1)) + (zI M b3 x2))) 2) = 0 → P 0 M) ∧ ((zand (zI M b13 ((5 * (zI M b3 x1)) + (zI M b3 x2))) 2) ≠ 0 → zK M a0 = (8, 25) ∧ zK M a0 = (8, 25) ∧ (zK M b22).1 = 9 ∧ 0 ≤ x1 ∧ x1 < ((zK M b22).2 : Int) ∧ zin (20 * (zI M b22 x1)) ∧ zK M a0 = (8, 25) ∧ (zK M b22).1 = 9 ∧ 0 ≤ x2 ∧ x2 < ((zK M b22).2 : Int) ∧ zin ((20 * (zI M b22 x1)) + (zI M b22 x2)) ∧ ∃ b45, zR M a0 3 = some b45 ∧ (zK M b45).1 = 10 ∧ 0 ≤ ((20 * (zI M b22 x1)) + (zI M b22 x2)) ∧ ((20 * (zI M b22 x1)) + (zI M b22 x2)) < ((zK M b45).2 : Int) ∧ (((zI M b45 ((20 * (zI M b22 x1)) + (zI M b22 x2))) = 0 → P 0 M) ∧ ((zI M b45 ((20 * (zI M b22 x1)) + (zI M b22 x2))) ≠ 0 → P 1 M))))) ∧ ((zI M b22 x1) = (zI M b22 x2) → P 1 M))))) ∧ ((zI M b13 ((5 * (zI M b3 x1)) + (zI M b3 x2))) = 0 → P 0 M))) :
    ZX7_isBarred E d X P 0 [(0, vR (some a0)), (1, vI x1), (2, vI x2)] [] M 0 0 := by
  refine z_aload_n 0 dX7_isBarred_0 rfl ?_
  obtain ⟨q1, h⟩ := h
  refine z_getR fl_X7_23 rfl dX7_isBarred_1 q1 ?_
  refine z_iconst dX7_isBarred_4 (by decide) ?_
  refine z_aload_n 0 dX7_isBarred_5 rfl ?_
  obtain ⟨q2, h⟩ := h
  refine z_getR fl_X7_38 rfl dX7_isBarred_6 q2 ?_
  refine z_iload_n 1 dX7_isBarred_9 rfl ?_
  obtain ⟨b3, eb3, h⟩ := h
  rw [eb3]
  obtain ⟨q4, h⟩ := h
  obtain ⟨q5, h⟩ := h
  obtain ⟨q6, h⟩ := h
  refine z_iald dX7_isBarred_10 (n := (zK M b3).2) (Prod.ext q4 rfl) q5 q6 ?_
  obtain ⟨q7, h⟩ := h
  refine z_imul dX7_isBarred_11 q7 ?_
  refine z_aload_n 0 dX7_isBarred_12 rfl ?_
  obtain ⟨q8, h⟩ := h
  refine z_getR fl_X7_38 rfl dX7_isBarred_13 q8 ?_
  rw [eb3]
  refine z_iload_n 2 dX7_isBarred_16 rfl ?_
  obtain ⟨q9, h⟩ := h
  obtain ⟨q10, h⟩ := h
  obtain ⟨q11, h⟩ := h
  refine z_iald dX7_isBarred_17 (n := (zK M b3).2) (Prod.ext q9 rfl) q10 q11 ?_
  obtain ⟨q12, h⟩ := h
  refine z_iadd dX7_isBarred_18 q12 ?_
  obtain ⟨b13, eb13, h⟩ := h
  rw [eb13]
  obtain ⟨q14, h⟩ := h
  obtain ⟨q15, h⟩ := h
  obtain ⟨q16, h⟩ := h
  refine z_iald dX7_isBarred_19 (n := (zK M b13).2) (Prod.ext q14 rfl) q15 q16 ?_
  refine z_istore_n dX7_isBarred_20 (by decide) rfl ?_
  refine z_iload_n 0 dX7_isBarred_21 rfl ?_
  refine z_if_ne (tgt := 27) dX7_isBarred_22 (by decide) (fun q17 => ?_) (fun q17 => ?_)
  · have h := h.1 q17
    refine z_iload_n 0 dX7_isBarred_27 rfl ?_
    refine z_iconst dX7_isBarred_28 (by decide) ?_
    obtain ⟨q18, h⟩ := h
    obtain ⟨q19, h⟩ := h
    refine z_iand dX7_isBarred_29 q18 q19 ?_
    refine z_if_ne (tgt := 48) dX7_isBarred_30 (by decide) (fun q20 => ?_) (fun q20 => ?_)
    · have h := h.1 q20
      refine z_iconst dX7_isBarred_48 (by decide) ?_
      exact z_zret hr dX7_isBarred_49 (Nat.le_of_ble_eq_true rfl) (Nat.le_of_ble_eq_true rfl) (by decide) ⟨_, rfl, h⟩
    · have h := h.2 q20
      refine z_aload_n 1 dX7_isBarred_33 rfl ?_
      obtain ⟨q21, h⟩ := h
      refine z_getR fl_X7_35 rfl dX7_isBarred_34 q21 ?_
      refine z_iload_n 2 dX7_isBarred_37 rfl ?_
      obtain ⟨b22, eb22, h⟩ := h
      rw [eb22]
      obtain ⟨q23, h⟩ := h
      obtain ⟨q24, h⟩ := h
      obtain ⟨q25, h⟩ := h
      refine z_iald dX7_isBarred_38 (n := (zK M b22).2) (Prod.ext q23 rfl) q24 q25 ?_
      refine z_aload_n 1 dX7_isBarred_39 rfl ?_
      obtain ⟨q26, h⟩ := h
      refine z_getR fl_X7_35 rfl dX7_isBarred_40 q26 ?_
      rw [eb22]
      refine z_iload_n 3 dX7_isBarred_43 rfl ?_
      obtain ⟨q27, h⟩ := h
      obtain ⟨q28, h⟩ := h
      obtain ⟨q29, h⟩ := h
      refine z_iald dX7_isBarred_44 (n := (zK M b22).2) (Prod.ext q27 rfl) q28 q29 ?_
      refine z_icmp_ne (tgt := 50) dX7_isBarred_45 (by decide) (fun q30 => ?_) (fun q30 => ?_)
      · have h := h.1 q30
        refine z_iload_n 0 dX7_isBarred_50 rfl ?_
        refine z_iconst dX7_isBarred_51 (by decide) ?_
        obtain ⟨q31, h⟩ := h
        obtain ⟨q32, h⟩ := h
        refine z_iand dX7_isBarred_52 q31 q32 ?_
        refine z_if_eq (tgt := 84) dX7_isBarred_53 (by decide) (fun q33 => ?_) (fun q33 => ?_)
        · have h := h.1 q33
          refine z_iconst dX7_isBarred_84 (by decide) ?_
          exact z_zret hr dX7_isBarred_85 (Nat.le_of_ble_eq_true rfl) (Nat.le_of_ble_eq_true rfl) (by decide) ⟨_, rfl, h⟩
        · have h := h.2 q33
          refine z_aload_n 1 dX7_isBarred_56 rfl ?_
          obtain ⟨q34, h⟩ := h
          refine z_getR fl_X7_13 rfl dX7_isBarred_57 q34 ?_
          refine z_bipush dX7_isBarred_60 (by decide) ?_
          refine z_aload_n 1 dX7_isBarred_62 rfl ?_
          obtain ⟨q35, h⟩ := h
          refine z_getR fl_X7_35 rfl dX7_isBarred_63 q35 ?_
          rw [eb22]
          refine z_iload_n 2 dX7_isBarred_66 rfl ?_
          obtain ⟨q36, h⟩ := h
          obtain ⟨q37, h⟩ := h
          obtain ⟨q38, h⟩ := h
          refine z_iald dX7_isBarred_67 (n := (zK M b22).2) (Prod.ext q36 rfl) q37 q38 ?_
          obtain ⟨q39, h⟩ := h
          refine z_imul dX7_isBarred_68 q39 ?_
          refine z_aload_n 1 dX7_isBarred_69 rfl ?_
          obtain ⟨q40, h⟩ := h
          refine z_getR fl_X7_35 rfl dX7_isBarred_70 q40 ?_
          rw [eb22]
          refine z_iload_n 3 dX7_isBarred_73 rfl ?_
          obtain ⟨q41, h⟩ := h
          obtain ⟨q42, h⟩ := h
          obtain ⟨q43, h⟩ := h
          refine z_iald dX7_isBarred_74 (n := (zK M b22).2) (Prod.ext q41 rfl) q42 q43 ?_
          obtain ⟨q44, h⟩ := h
          refine z_iadd dX7_isBarred_75 q44 ?_
          obtain ⟨b45, eb45, h⟩ := h
          rw [eb45]
          obtain ⟨q46, h⟩ := h
          obtain ⟨q47, h⟩ := h
          obtain ⟨q48, h⟩ := h
          refine z_bald dX7_isBarred_76 (n := (zK M b45).2) (Prod.ext q46 rfl) q47 q48 ?_
          refine z_if_eq (tgt := 84) dX7_isBarred_77 (by decide) (fun q49 => ?_) (fun q49 => ?_)
          · have h := h.1 q49
            refine z_iconst dX7_isBarred_84 (by decide) ?_
            exact z_zret hr dX7_isBarred_85 (Nat.le_of_ble_eq_true rfl) (Nat.le_of_ble_eq_true rfl) (by decide) ⟨_, rfl, h⟩
          · have h := h.2 q49
            refine z_iconst dX7_isBarred_80 (by decide) ?_
            refine z_goto (tgt := 85) dX7_isBarred_81 (by decide) ?_
            exact z_zret hr dX7_isBarred_85 (Nat.le_of_ble_eq_true rfl) (Nat.le_of_ble_eq_true rfl) (by decide) ⟨_, rfl, h⟩
      · have h := h.2 q30
        refine z_iconst dX7_isBarred_48 (by decide) ?_
        exact z_zret hr dX7_isBarred_49 (Nat.le_of_ble_eq_true rfl) (Nat.le_of_ble_eq_true rfl) (by decide) ⟨_, rfl, h⟩
  · have h := h.2 q17
    refine z_iconst dX7_isBarred_25 (by decide) ?_
    exact z_zret hr dX7_isBarred_26 (Nat.le_of_ble_eq_true rfl) (Nat.le_of_ble_eq_true rfl) (by decide) ⟨_, rfl, h⟩
theorem sX7_isBarred {E : zE} {d : Nat} {P : Int → zM → Prop} {M : zM} (a0 : Nat) (x1 : Int) (x2 : Int) (h : ∀ X : zX, (xh X).sig.returnType = (some .boolean) → ZX7_isBarred E d X P 0 [(0, vR (some a0)), (1, vI x1), (2, vI x2)] [] M 0 0) : zCi E mX7_isBarred (d + 1) 0 0 [vR (some a0), vI x1, vI x2] M P := z_start (f := mX7_isBarred) rfl (Nat.le_of_ble_eq_true rfl) rfl h
abbrev ZX7_breaks (E : zE) (d : Nat) (X : zX) (P : Int → zM → Prop) (pc : Nat) (Lc : List (Nat × zV)) (S : List zV) (M : zM) (ce sl : Nat) : Prop := zZ cX7_breaks RX7 "breaks" 4 E (zrm (d + 1) 0 0) X (zQ E (zPi P) X 0 0) pc Lc S M ce sl
set_option maxRecDepth 20000 in
theorem vX7_breaks_0 {E : zE} {d : Nat} {X : zX} {P : Int → zM → Prop} {M : zM} (hr : (xh X).sig.returnType = (some .int)) (a0 : Nat) (x1 : Int) (x2 : Int)
    (h : ((x2 ≠ 1 → zK M a0 = (8, 25) ∧ ∃ b3, zR M a0 15 = some b3 ∧ (zK M b3).1 = 9 ∧ 0 ≤ x1 ∧ x1 < ((zK M b3).2 : Int) ∧ ZX7_breaks E d X P 73 [(0, vR (some a0)), (1, vI x1), (2, vI x2), (3, vI (zI M b3 x1))] [] M 0 0) ∧ (x2 = 1 → ZX7_breaks E d X P 7 [(0, vR (some a0)), (1, vI x1), (2, vI x2), (3, vI 0)] [] M 0 0))) :
    ZX7_breaks E d X P 0 [(0, vR (some a0)), (1, vI x1), (2, vI x2)] [] M 0 0 := by
  refine z_iload_n 2 dX7_breaks_0 rfl ?_
  refine z_iconst dX7_breaks_1 (by decide) ?_
  refine z_icmp_ne (tgt := 66) dX7_breaks_2 (by decide) (fun q1 => ?_) (fun q1 => ?_)
  · have h := h.1 q1
    refine z_aload_n 0 dX7_breaks_66 rfl ?_
    obtain ⟨q2, h⟩ := h
    refine z_getR fl_X7_44 rfl dX7_breaks_67 q2 ?_
    refine z_iload_n 1 dX7_breaks_70 rfl ?_
    obtain ⟨b3, eb3, h⟩ := h
    rw [eb3]
    obtain ⟨q4, h⟩ := h
    obtain ⟨q5, h⟩ := h
    obtain ⟨q6, h⟩ := h
    refine z_iald dX7_breaks_71 (n := (zK M b3).2) (Prod.ext q4 rfl) q5 q6 ?_
    refine z_istore_n dX7_breaks_72 (by decide) rfl ?_
    exact z_sub [1, 2, 3, 0] rfl h
  · have h := h.2 q1
    refine z_iconst dX7_breaks_5 (by decide) ?_
    refine z_istore_n dX7_breaks_6 (by decide) rfl ?_
    exact z_sub [1, 2, 3, 0] rfl h
set_option maxRecDepth 20000 in
theorem vX7_breaks_7 {E : zE} {d : Nat} {X : zX} {P : Int → zM → Prop} {M : zM} (hr : (xh X).sig.returnType = (some .int)) (a0 : Nat) (x1 : Int) (x2 : Int) (x3 : Int)
    (h : zK M a0 = (8, 25) ∧ (((zI M a0 8) ≤ x3 → P (-1) M) ∧ (x3 < (zI M a0 8) → zK M a0 = (8, 25) ∧ zin (40 * x1) ∧ zin ((40 * x1) + x3) ∧ ∃ b6, zR M a0 17 = some b6 ∧ (zK M b6).1 = 10 ∧ 0 ≤ ((40 * x1) + x3) ∧ ((40 * x1) + x3) < ((zK M b6).2 : Int) ∧ (((zI M b6 ((40 * x1) + x3)) = 0 → zin (x3 + 1) ∧ ZX7_breaks E d X P 7 [(0, vR (some a0)), (1, vI x1), (2, vI x2), (3, vI (x3 + 1))] [] M 0 0) ∧ ((zI M b6 ((40 * x1) + x3)) ≠ 0 → zK M a0 = (8, 25) ∧ ∃ P12 : Int → zM → Prop, zCi E mX7_isPut d 0 0 [vR (some a0), vI x3] M P12 ∧ ∀ r15 M14, P12 r15 M14 → ((r15 = 0 → zK M14 a0 = (8, 25) ∧ ∃ b20, zR M14 a0 15 = some b20 ∧ (zK M14 b20).1 = 9 ∧ 0 ≤ x1 ∧ x1 < ((zK M14 b20).2 : Int) ∧ P (zI M14 b20 x1) M14) ∧ (r15 ≠ 0 → zK M14 a0 = (8, 25) ∧ ∃ P24 : Int → zM → Prop, zCi E mX7_endOf d 0 0 [vR (some a0), vI x3] M14 P24 ∧ ∀ r27 M26, P24 r27 M26 → zK M26 a0 = (8, 25) ∧ ∃ b31, zR M26 a0 15 = some b31 ∧ (zK M26 b31).1 = 9 ∧ 0 ≤ x1 ∧ x1 < ((zK M26 b31).2 : Int) ∧ ((r27 ≤ (zI M26 b31 x1) → zin (x3 + 1) ∧ ZX7_breaks E d X P 7 [(0, vR (some a0)), (1, vI x1), (2, vI x2), (3, vI (x3 + 1))] [] M26 0 0) ∧ ((zI M26 b31 x1) < r27 → zK M26 a0 = (8, 25) ∧ (zK M26 b31).1 = 9 ∧ 0 ≤ x1 ∧ x1 < ((zK M26 b31).2 : Int) ∧ P (zI M26 b31 x1) M26))))))))) :
    ZX7_breaks E d X P 7 [(0, vR (some a0)), (1, vI x1), (2, vI x2), (3, vI x3)] [] M 0 0 := by
  refine z_iload_n 3 dX7_breaks_7 rfl ?_
  refine z_aload_n 0 dX7_breaks_8 rfl ?_
  obtain ⟨q1, h⟩ := h
  refine z_getI fl_X7_74 dX7_breaks_9 q1 ?_
  refine z_icmp_ge (tgt := 64) dX7_breaks_12 (by decide) (fun q2 => ?_) (fun q2 => ?_)
  · have h := h.1 q2
    refine z_iconst dX7_breaks_64 (by decide) ?_
    exact z_iret hr dX7_breaks_65 (Nat.le_of_ble_eq_true rfl) (Nat.le_of_ble_eq_true rfl) ⟨_, rfl, h⟩
  · have h := h.2 q2
    refine z_aload_n 0 dX7_breaks_15 rfl ?_
    obtain ⟨q3, h⟩ := h
    refine z_getR fl_X7_50 rfl dX7_breaks_16 q3 ?_
    refine z_bipush dX7_breaks_19 (by decide) ?_
    refine z_iload_n 1 dX7_breaks_21 rfl ?_
    obtain ⟨q4, h⟩ := h
    refine z_imul dX7_breaks_22 q4 ?_
    refine z_iload_n 3 dX7_breaks_23 rfl ?_
    obtain ⟨q5, h⟩ := h
    refine z_iadd dX7_breaks_24 q5 ?_
    obtain ⟨b6, eb6, h⟩ := h
    rw [eb6]
    obtain ⟨q7, h⟩ := h
    obtain ⟨q8, h⟩ := h
    obtain ⟨q9, h⟩ := h
    refine z_bald dX7_breaks_25 (n := (zK M b6).2) (Prod.ext q7 rfl) q8 q9 ?_
    refine z_if_eq (tgt := 58) dX7_breaks_26 (by decide) (fun q10 => ?_) (fun q10 => ?_)
    · have h := h.1 q10
      obtain ⟨q11, h⟩ := h
      refine z_iinc 3 dX7_breaks_58 rfl (by decide) q11 rfl ?_
      refine z_goto (tgt := 7) dX7_breaks_61 (by decide) ?_
      exact z_sub [1, 2, 3, 0] rfl h
    · have h := h.2 q10
      refine z_aload_n 0 dX7_breaks_29 rfl ?_
      refine z_iload_n 3 dX7_breaks_30 rfl ?_
      obtain ⟨q17, h⟩ := h
      obtain ⟨P12, c13, h⟩ := h
      refine z_Vi (as := [vI x3]) mv_X7_89 dX7_breaks_31 c13 q17 rfl rfl (Nat.le_of_ble_eq_true rfl) (Nat.le_of_ble_eq_true rfl) (Nat.le_of_ble_eq_true rfl) (fun r15 M14 p16 => ?_)
      have h := h r15 M14 p16
      refine z_if_eq (tgt := 51) dX7_breaks_34 (by decide) (fun q18 => ?_) (fun q18 => ?_)
      · have h := h.1 q18
        refine z_aload_n 0 dX7_breaks_51 rfl ?_
        obtain ⟨q19, h⟩ := h
        refine z_getR fl_X7_44 rfl dX7_breaks_52 q19 ?_
        refine z_iload_n 1 dX7_breaks_55 rfl ?_
        obtain ⟨b20, eb20, h⟩ := h
        rw [eb20]
        obtain ⟨q21, h⟩ := h
        obtain ⟨q22, h⟩ := h
        obtain ⟨q23, h⟩ := h
        refine z_iald dX7_breaks_56 (n := (zK M14 b20).2) (Prod.ext q21 rfl) q22 q23 ?_
        exact z_iret hr dX7_breaks_57 (Nat.le_of_ble_eq_true rfl) (Nat.le_of_ble_eq_true rfl) ⟨_, rfl, h⟩
      · have h := h.2 q18
        refine z_aload_n 0 dX7_breaks_37 rfl ?_
        refine z_iload_n 3 dX7_breaks_38 rfl ?_
        obtain ⟨q29, h⟩ := h
        obtain ⟨P24, c25, h⟩ := h
        refine z_Vi (as := [vI x3]) mv_X7_96 dX7_breaks_39 c25 q29 rfl rfl (Nat.le_of_ble_eq_true rfl) (Nat.le_of_ble_eq_true rfl) (Nat.le_of_ble_eq_true rfl) (fun r27 M26 p28 => ?_)
        have h := h r27 M26 p28
        refine z_aload_n 0 dX7_breaks_42 rfl ?_
        obtain ⟨q30, h⟩ := h
        refine z_getR fl_X7_44 rfl dX7_breaks_43 q30 ?_
        refine z_iload_n 1 dX7_breaks_46 rfl ?_
        obtain ⟨b31, eb31, h⟩ := h
        rw [eb31]
        obtain ⟨q32, h⟩ := h
        obtain ⟨q33, h⟩ := h
        obtain ⟨q34, h⟩ := h
        refine z_iald dX7_breaks_47 (n := (zK M26 b31).2) (Prod.ext q32 rfl) q33 q34 ?_
        refine z_icmp_le (tgt := 58) dX7_breaks_48 (by decide) (fun q35 => ?_) (fun q35 => ?_)
        · have h := h.1 q35
          obtain ⟨q36, h⟩ := h
          refine z_iinc 3 dX7_breaks_58 rfl (by decide) q36 rfl ?_
          refine z_goto (tgt := 7) dX7_breaks_61 (by decide) ?_
          exact z_sub [1, 2, 3, 0] rfl h
        · have h := h.2 q35
          refine z_aload_n 0 dX7_breaks_51 rfl ?_
          obtain ⟨q37, h⟩ := h
          refine z_getR fl_X7_44 rfl dX7_breaks_52 q37 ?_
          rw [eb31]
          refine z_iload_n 1 dX7_breaks_55 rfl ?_
          obtain ⟨q38, h⟩ := h
          obtain ⟨q39, h⟩ := h
          obtain ⟨q40, h⟩ := h
          refine z_iald dX7_breaks_56 (n := (zK M26 b31).2) (Prod.ext q38 rfl) q39 q40 ?_
          exact z_iret hr dX7_breaks_57 (Nat.le_of_ble_eq_true rfl) (Nat.le_of_ble_eq_true rfl) ⟨_, rfl, h⟩
set_option maxRecDepth 20000 in
theorem vX7_breaks_73 {E : zE} {d : Nat} {X : zX} {P : Int → zM → Prop} {M : zM} (hr : (xh X).sig.returnType = (some .int)) (a0 : Nat) (x1 : Int) (x2 : Int) (x3 : Int)
    (h : zK M a0 = (8, 25) ∧ ∃ P1 : Int → zM → Prop, zCi E mX7_endOf d 0 0 [vR (some a0), vI x1] M P1 ∧ ∀ r4 M3, P1 r4 M3 → ((r4 ≤ x3 → P (-1) M3) ∧ (x3 < r4 → zK M3 a0 = (8, 25) ∧ ∃ P8 : Int → zM → Prop, zCi E mX7_isBroken d 0 0 [vR (some a0), vI x1, vI x2, vI x3] M3 P8 ∧ ∀ r11 M10, P8 r11 M10 → ((r11 = 0 → zin (x3 + 1) ∧ ZX7_breaks E d X P 73 [(0, vR (some a0)), (1, vI x1), (2, vI x2), (3, vI (x3 + 1))] [] M10 0 0) ∧ (r11 ≠ 0 → P x3 M10))))) :
    ZX7_breaks E d X P 73 [(0, vR (some a0)), (1, vI x1), (2, vI x2), (3, vI x3)] [] M 0 0 := by
  refine z_iload_n 3 dX7_breaks_73 rfl ?_
  refine z_aload_n 0 dX7_breaks_74 rfl ?_
  refine z_iload_n 1 dX7_breaks_75 rfl ?_
  obtain ⟨q6, h⟩ := h
  obtain ⟨P1, c2, h⟩ := h
  refine z_Vi (as := [vI x1]) mv_X7_96 dX7_breaks_76 c2 q6 rfl rfl (Nat.le_of_ble_eq_true rfl) (Nat.le_of_ble_eq_true rfl) (Nat.le_of_ble_eq_true rfl) (fun r4 M3 p5 => ?_)
  have h := h r4 M3 p5
  refine z_icmp_ge (tgt := 100) dX7_breaks_79 (by decide) (fun q7 => ?_) (fun q7 => ?_)
  · have h := h.1 q7
    refine z_iconst dX7_breaks_100 (by decide) ?_
    exact z_iret hr dX7_breaks_101 (Nat.le_of_ble_eq_true rfl) (Nat.le_of_ble_eq_true rfl) ⟨_, rfl, h⟩
  · have h := h.2 q7
    refine z_aload_n 0 dX7_breaks_82 rfl ?_
    refine z_iload_n 1 dX7_breaks_83 rfl ?_
    refine z_iload_n 2 dX7_breaks_84 rfl ?_
    refine z_iload_n 3 dX7_breaks_85 rfl ?_
    obtain ⟨q13, h⟩ := h
    obtain ⟨P8, c9, h⟩ := h
    refine z_Vi (as := [vI x1, vI x2, vI x3]) mv_X7_113 dX7_breaks_86 c9 q13 rfl rfl (Nat.le_of_ble_eq_true rfl) (Nat.le_of_ble_eq_true rfl) (Nat.le_of_ble_eq_true rfl) (fun r11 M10 p12 => ?_)
    have h := h r11 M10 p12
    refine z_if_eq (tgt := 94) dX7_breaks_89 (by decide) (fun q14 => ?_) (fun q14 => ?_)
    · have h := h.1 q14
      obtain ⟨q15, h⟩ := h
      refine z_iinc 3 dX7_breaks_94 rfl (by decide) q15 rfl ?_
      refine z_goto (tgt := 73) dX7_breaks_97 (by decide) ?_
      exact z_sub [1, 2, 3, 0] rfl h
    · have h := h.2 q14
      refine z_iload_n 3 dX7_breaks_92 rfl ?_
      exact z_iret hr dX7_breaks_93 (Nat.le_of_ble_eq_true rfl) (Nat.le_of_ble_eq_true rfl) ⟨_, rfl, h⟩
theorem sX7_breaks {E : zE} {d : Nat} {P : Int → zM → Prop} {M : zM} (a0 : Nat) (x1 : Int) (x2 : Int) (h : ∀ X : zX, (xh X).sig.returnType = (some .int) → ZX7_breaks E d X P 0 [(0, vR (some a0)), (1, vI x1), (2, vI x2)] [] M 0 0) : zCi E mX7_breaks (d + 1) 0 0 [vR (some a0), vI x1, vI x2] M P := z_start (f := mX7_breaks) rfl (Nat.le_of_ble_eq_true rfl) rfl h
abbrev ZX7_isBroken (E : zE) (d : Nat) (X : zX) (P : Int → zM → Prop) (pc : Nat) (Lc : List (Nat × zV)) (S : List zV) (M : zM) (ce sl : Nat) : Prop := zZ cX7_isBroken RX7 "isBroken" 6 E (zrm (d + 1) 0 0) X (zQ E (zPi P) X 0 0) pc Lc S M ce sl
set_option maxRecDepth 20000 in
theorem vX7_isBroken_0 {E : zE} {d : Nat} {X : zX} {P : Int → zM → Prop} {M : zM} (hr : (xh X).sig.returnType = (some .boolean)) (a0 : Nat) (x1 : Int) (x2 : Int) (x3 : Int)
    (h : ZX7_isBroken E d X P 6 [(0, vR (some a0)), (1, vI x1), (2, vI x2), (3, vI x3), (4, vI 0), (5, vI 0)] [] M 0 0) :
    ZX7_isBroken E d X P 0 [(0, vR (some a0)), (1, vI x1), (2, vI x2), (3, vI x3)] [] M 0 0 := by
  refine z_iconst dX7_isBroken_0 (by decide) ?_
  refine z_istore dX7_isBroken_1 (by decide) rfl ?_
  refine z_iconst dX7_isBroken_3 (by decide) ?_
  refine z_istore dX7_isBroken_4 (by decide) rfl ?_
  exact z_sub [2, 3, 4, 5, 1, 0] rfl h
set_option maxRecDepth 20000 in
theorem vX7_isBroken_6 {E : zE} {d : Nat} {X : zX} {P : Int → zM → Prop} {M : zM} (hr : (xh X).sig.returnType = (some .boolean)) (a0 : Nat) (x1 : Int) (x2 : Int) (x3 : Int) (x4 : Int) (x5 : Int)
    (h : zK M a0 = (8, 25) ∧ (((zI M a0 8) ≤ x5 → ((x2 ≠ 2 → ((x2 ≠ 3 → ((x2 ≠ 4 → ((x4 ≤ 0 → P 0 M) ∧ (0 < x4 → P 1 M))) ∧ (x2 = 4 → zK M a0 = (8, 25) ∧ zK M a0 = (8, 25) ∧ ∃ b9, zR M a0 12 = some b9 ∧ (zK M b9).1 = 9 ∧ 0 ≤ x1 ∧ x1 < ((zK M b9).2 : Int) ∧ ∃ b13, zR M a0 2 = some b13 ∧ (zK M b13).1 = 9 ∧ 0 ≤ (zI M b9 x1) ∧ (zI M b9 x1) < ((zK M b13).2 : Int) ∧ ((x4 ≤ (zI M b13 (zI M b9 x1)) → P 0 M) ∧ ((zI M b13 (zI M b9 x1)) < x4 → P 1 M))))) ∧ (x2 = 3 → zK M a0 = (8, 25) ∧ ∃ b19, zR M a0 14 = some b19 ∧ (zK M b19).1 = 9 ∧ 0 ≤ x1 ∧ x1 < ((zK M b19).2 : Int) ∧ (((zI M b19 x1) = (-1) → P 0 M) ∧ ((zI M b19 x1) ≠ (-1) → zK M a0 = (8, 25) ∧ zK M a0 = (8, 25) ∧ (zK M b19).1 = 9 ∧ 0 ≤ x1 ∧ x1 < ((zK M b19).2 : Int) ∧ ∃ b29, zR M a0 5 = some b29 ∧ (zK M b29).1 = 9 ∧ 0 ≤ (zI M b19 x1) ∧ (zI M b19 x1) < ((zK M b29).2 : Int) ∧ ((x4 ≤ (zI M b29 (zI M b19 x1)) → P 0 M) ∧ ((zI M b29 (zI M b19 x1)) < x4 → P 1 M))))))) ∧ (x2 = 2 → zK M a0 = (8, 25) ∧ zK M a0 = (8, 25) ∧ ∃ b36, zR M a0 10 = some b36 ∧ (zK M b36).1 = 9 ∧ 0 ≤ x1 ∧ x1 < ((zK M b36).2 : Int) ∧ ∃ b40, zR M a0 4 = some b40 ∧ (zK M b40).1 = 9 ∧ 0 ≤ (zI M b36 x1) ∧ (zI M b36 x1) < ((zK M b40).2 : Int) ∧ ((x4 ≤ (zI M b40 (zI M b36 x1)) → P 0 M) ∧ ((zI M b40 (zI M b36 x1)) < x4 → P 1 M))))) ∧ (x5 < (zI M a0 8) → zK M a0 = (8, 25) ∧ ∃ P45 : Int → zM → Prop, zCi E mX7_isIn d 0 0 [vR (some a0), vI x5, vI x3] M P45 ∧ ∀ r48 M47, P45 r48 M47 → ((r48 ≠ 0 → ((x2 = 2 → zK M47 a0 = (8, 25) ∧ ∃ b54, zR M47 a0 10 = some b54 ∧ (zK M47 b54).1 = 9 ∧ 0 ≤ x5 ∧ x5 < ((zK M47 b54).2 : Int) ∧ zK M47 a0 = (8, 25) ∧ (zK M47 b54).1 = 9 ∧ 0 ≤ x1 ∧ x1 < ((zK M47 b54).2 : Int) ∧ (((zI M47 b54 x5) ≠ (zI M47 b54 x1) → zin (x4 + 0) ∧ zin (x5 + 1) ∧ ZX7_isBroken E d X P 6 [(0, vR (some a0)), (1, vI x1), (2, vI x2), (3, vI x3), (4, vI (x4 + 0)), (5, vI (x5 + 1))] [] M47 0 0) ∧ ((zI M47 b54 x5) = (zI M47 b54 x1) → zK M47 a0 = (8, 25) ∧ ∃ b66, zR M47 a0 11 = some b66 ∧ (zK M47 b66).1 = 9 ∧ 0 ≤ x5 ∧ x5 < ((zK M47 b66).2 : Int) ∧ zin (x4 + (zI M47 b66 x5)) ∧ zin (x5 + 1) ∧ ZX7_isBroken E d X P 6 [(0, vR (some a0)), (1, vI x1), (2, vI x2), (3, vI x3), (4, vI (x4 + (zI M47 b66 x5))), (5, vI (x5 + 1))] [] M47 0 0))) ∧ (x2 = 3 → zK M47 a0 = (8, 25) ∧ ∃ b74, zR M47 a0 14 = some b74 ∧ (zK M47 b74).1 = 9 ∧ 0 ≤ x1 ∧ x1 < ((zK M47 b74).2 : Int) ∧ (((zI M47 b74 x1) = (-1) → zin (x4 + 0) ∧ zin (x5 + 1) ∧ ZX7_isBroken E d X P 6 [(0, vR (some a0)), (1, vI x1), (2, vI x2), (3, vI x3), (4, vI (x4 + 0)), (5, vI (x5 + 1))] [] M47 0 0) ∧ ((zI M47 b74 x1) ≠ (-1) → zK M47 a0 = (8, 25) ∧ (zK M47 b74).1 = 9 ∧ 0 ≤ x5 ∧ x5 < ((zK M47 b74).2 : Int) ∧ zK M47 a0 = (8, 25) ∧ (zK M47 b74).1 = 9 ∧ 0 ≤ x1 ∧ x1 < ((zK M47 b74).2 : Int) ∧ (((zI M47 b74 x5) ≠ (zI M47 b74 x1) → zin (x4 + 0) ∧ zin (x5 + 1) ∧ ZX7_isBroken E d X P 6 [(0, vR (some a0)), (1, vI x1), (2, vI x2), (3, vI x3), (4, vI (x4 + 0)), (5, vI (x5 + 1))] [] M47 0 0) ∧ ((zI M47 b74 x5) = (zI M47 b74 x1) → zin (x4 + 1) ∧ zin (x5 + 1) ∧ ZX7_isBroken E d X P 6 [(0, vR (some a0)), (1, vI x1), (2, vI x2), (3, vI x3), (4, vI (x4 + 1)), (5, vI (x5 + 1))] [] M47 0 0))))) ∧ (x2 = 4 → zK M47 a0 = (8, 25) ∧ ∃ b96, zR M47 a0 12 = some b96 ∧ (zK M47 b96).1 = 9 ∧ 0 ≤ x5 ∧ x5 < ((zK M47 b96).2 : Int) ∧ zK M47 a0 = (8, 25) ∧ (zK M47 b96).1 = 9 ∧ 0 ≤ x1 ∧ x1 < ((zK M47 b96).2 : Int) ∧ (((zI M47 b96 x5) ≠ (zI M47 b96 x1) → zin (x4 + 0) ∧ zin (x5 + 1) ∧ ZX7_isBroken E d X P 6 [(0, vR (some a0)), (1, vI x1), (2, vI x2), (3, vI x3), (4, vI (x4 + 0)), (5, vI (x5 + 1))] [] M47 0 0) ∧ ((zI M47 b96 x5) = (zI M47 b96 x1) → zin (x4 + 1) ∧ zin (x5 + 1) ∧ ZX7_isBroken E d X P 6 [(0, vR (some a0)), (1, vI x1), (2, vI x2), (3, vI x3), (4, vI (x4 + 1)), (5, vI (x5 + 1))] [] M47 0 0))) ∧ ((x2 < 2 ∨ 4 < x2) → ((x5 = x1 → zin (x4 + 0) ∧ zin (x5 + 1) ∧ ZX7_isBroken E d X P 6 [(0, vR (some a0)), (1, vI x1), (2, vI x2), (3, vI x3), (4, vI (x4 + 0)), (5, vI (x5 + 1))] [] M47 0 0) ∧ (x5 ≠ x1 → zK M47 a0 = (8, 25) ∧ ∃ P113 : Int → zM → Prop, zCi E mX7_isBarred d 0 0 [vR (some a0), vI x5, vI x1] M47 P113 ∧ ∀ r116 M115, P113 r116 M115 → ((r116 = 0 → zin (x4 + 0) ∧ zin (x5 + 1) ∧ ZX7_isBroken E d X P 6 [(0, vR (some a0)), (1, vI x1), (2, vI x2), (3, vI x3), (4, vI (x4 + 0)), (5, vI (x5 + 1))] [] M115 0 0) ∧ (r116 ≠ 0 → zin (x4 + 1) ∧ zin (x5 + 1) ∧ ZX7_isBroken E d X P 6 [(0, vR (some a0)), (1, vI x1), (2, vI x2), (3, vI x3), (4, vI (x4 + 1)), (5, vI (x5 + 1))] [] M115 0 0))))))) ∧ (r48 = 0 → zin (x5 + 1) ∧ ZX7_isBroken E d X P 6 [(0, vR (some a0)), (1, vI x1), (2, vI x2), (3, vI x3), (4, vI x4), (5, vI (x5 + 1))] [] M47 0 0))))) :
    ZX7_isBroken E d X P 6 [(0, vR (some a0)), (1, vI x1), (2, vI x2), (3, vI x3), (4, vI x4), (5, vI x5)] [] M 0 0 := by
  refine z_iload 5 dX7_isBroken_6 rfl ?_
  refine z_aload_n 0 dX7_isBroken_8 rfl ?_
  obtain ⟨q1, h⟩ := h
  refine z_getI fl_X7_74 dX7_isBroken_9 q1 ?_
  refine z_icmp_ge (tgt := 191) dX7_isBroken_12 (by decide) (fun q2 => ?_) (fun q2 => ?_)
  · have h := h.1 q2
    refine z_iload_n 2 dX7_isBroken_191 rfl ?_
    refine z_iconst dX7_isBroken_192 (by decide) ?_
    refine z_icmp_ne (tgt := 218) dX7_isBroken_193 (by decide) (fun q3 => ?_) (fun q3 => ?_)
    · have h := h.1 q3
      refine z_iload_n 2 dX7_isBroken_218 rfl ?_
      refine z_iconst dX7_isBroken_219 (by decide) ?_
      refine z_icmp_ne (tgt := 255) dX7_isBroken_220 (by decide) (fun q4 => ?_) (fun q4 => ?_)
      · have h := h.1 q4
        refine z_iload_n 2 dX7_isBroken_255 rfl ?_
        refine z_iconst dX7_isBroken_256 (by decide) ?_
        refine z_icmp_ne (tgt := 284) dX7_isBroken_257 (by decide) (fun q5 => ?_) (fun q5 => ?_)
        · have h := h.1 q5
          refine z_iload 4 dX7_isBroken_284 rfl ?_
          refine z_if_le (tgt := 293) dX7_isBroken_286 (by decide) (fun q6 => ?_) (fun q6 => ?_)
          · have h := h.1 q6
            refine z_iconst dX7_isBroken_293 (by decide) ?_
            exact z_zret hr dX7_isBroken_294 (Nat.le_of_ble_eq_true rfl) (Nat.le_of_ble_eq_true rfl) (by decide) ⟨_, rfl, h⟩
          · have h := h.2 q6
            refine z_iconst dX7_isBroken_289 (by decide) ?_
            refine z_goto (tgt := 294) dX7_isBroken_290 (by decide) ?_
            exact z_zret hr dX7_isBroken_294 (Nat.le_of_ble_eq_true rfl) (Nat.le_of_ble_eq_true rfl) (by decide) ⟨_, rfl, h⟩
        · have h := h.2 q5
          refine z_iload 4 dX7_isBroken_260 rfl ?_
          refine z_aload_n 0 dX7_isBroken_262 rfl ?_
          obtain ⟨q7, h⟩ := h
          refine z_getR fl_X7_9 rfl dX7_isBroken_263 q7 ?_
          refine z_aload_n 0 dX7_isBroken_266 rfl ?_
          obtain ⟨q8, h⟩ := h
          refine z_getR fl_X7_35 rfl dX7_isBroken_267 q8 ?_
          refine z_iload_n 1 dX7_isBroken_270 rfl ?_
          obtain ⟨b9, eb9, h⟩ := h
          rw [eb9]
          obtain ⟨q10, h⟩ := h
          obtain ⟨q11, h⟩ := h
          obtain ⟨q12, h⟩ := h
          refine z_iald dX7_isBroken_271 (n := (zK M b9).2) (Prod.ext q10 rfl) q11 q12 ?_
          obtain ⟨b13, eb13, h⟩ := h
          rw [eb13]
          obtain ⟨q14, h⟩ := h
          obtain ⟨q15, h⟩ := h
          obtain ⟨q16, h⟩ := h
          refine z_iald dX7_isBroken_272 (n := (zK M b13).2) (Prod.ext q14 rfl) q15 q16 ?_
          refine z_icmp_le (tgt := 280) dX7_isBroken_273 (by decide) (fun q17 => ?_) (fun q17 => ?_)
          · have h := h.1 q17
            refine z_iconst dX7_isBroken_280 (by decide) ?_
            refine z_goto (tgt := 294) dX7_isBroken_281 (by decide) ?_
            exact z_zret hr dX7_isBroken_294 (Nat.le_of_ble_eq_true rfl) (Nat.le_of_ble_eq_true rfl) (by decide) ⟨_, rfl, h⟩
          · have h := h.2 q17
            refine z_iconst dX7_isBroken_276 (by decide) ?_
            refine z_goto (tgt := 294) dX7_isBroken_277 (by decide) ?_
            exact z_zret hr dX7_isBroken_294 (Nat.le_of_ble_eq_true rfl) (Nat.le_of_ble_eq_true rfl) (by decide) ⟨_, rfl, h⟩
      · have h := h.2 q4
        refine z_aload_n 0 dX7_isBroken_223 rfl ?_
        obtain ⟨q18, h⟩ := h
        refine z_getR fl_X7_41 rfl dX7_isBroken_224 q18 ?_
        refine z_iload_n 1 dX7_isBroken_227 rfl ?_
        obtain ⟨b19, eb19, h⟩ := h
        rw [eb19]
        obtain ⟨q20, h⟩ := h
        obtain ⟨q21, h⟩ := h
        obtain ⟨q22, h⟩ := h
        refine z_iald dX7_isBroken_228 (n := (zK M b19).2) (Prod.ext q20 rfl) q21 q22 ?_
        refine z_iconst dX7_isBroken_229 (by decide) ?_
        refine z_icmp_eq (tgt := 253) dX7_isBroken_230 (by decide) (fun q23 => ?_) (fun q23 => ?_)
        · have h := h.1 q23
          refine z_iconst dX7_isBroken_253 (by decide) ?_
          exact z_zret hr dX7_isBroken_254 (Nat.le_of_ble_eq_true rfl) (Nat.le_of_ble_eq_true rfl) (by decide) ⟨_, rfl, h⟩
        · have h := h.2 q23
          refine z_iload 4 dX7_isBroken_233 rfl ?_
          refine z_aload_n 0 dX7_isBroken_235 rfl ?_
          obtain ⟨q24, h⟩ := h
          refine z_getR fl_X7_20 rfl dX7_isBroken_236 q24 ?_
          refine z_aload_n 0 dX7_isBroken_239 rfl ?_
          obtain ⟨q25, h⟩ := h
          refine z_getR fl_X7_41 rfl dX7_isBroken_240 q25 ?_
          rw [eb19]
          refine z_iload_n 1 dX7_isBroken_243 rfl ?_
          obtain ⟨q26, h⟩ := h
          obtain ⟨q27, h⟩ := h
          obtain ⟨q28, h⟩ := h
          refine z_iald dX7_isBroken_244 (n := (zK M b19).2) (Prod.ext q26 rfl) q27 q28 ?_
          obtain ⟨b29, eb29, h⟩ := h
          rw [eb29]
          obtain ⟨q30, h⟩ := h
          obtain ⟨q31, h⟩ := h
          obtain ⟨q32, h⟩ := h
          refine z_iald dX7_isBroken_245 (n := (zK M b29).2) (Prod.ext q30 rfl) q31 q32 ?_
          refine z_icmp_le (tgt := 253) dX7_isBroken_246 (by decide) (fun q33 => ?_) (fun q33 => ?_)
          · have h := h.1 q33
            refine z_iconst dX7_isBroken_253 (by decide) ?_
            exact z_zret hr dX7_isBroken_254 (Nat.le_of_ble_eq_true rfl) (Nat.le_of_ble_eq_true rfl) (by decide) ⟨_, rfl, h⟩
          · have h := h.2 q33
            refine z_iconst dX7_isBroken_249 (by decide) ?_
            refine z_goto (tgt := 254) dX7_isBroken_250 (by decide) ?_
            exact z_zret hr dX7_isBroken_254 (Nat.le_of_ble_eq_true rfl) (Nat.le_of_ble_eq_true rfl) (by decide) ⟨_, rfl, h⟩
    · have h := h.2 q3
      refine z_iload 4 dX7_isBroken_196 rfl ?_
      refine z_aload_n 0 dX7_isBroken_198 rfl ?_
      obtain ⟨q34, h⟩ := h
      refine z_getR fl_X7_17 rfl dX7_isBroken_199 q34 ?_
      refine z_aload_n 0 dX7_isBroken_202 rfl ?_
      obtain ⟨q35, h⟩ := h
      refine z_getR fl_X7_29 rfl dX7_isBroken_203 q35 ?_
      refine z_iload_n 1 dX7_isBroken_206 rfl ?_
      obtain ⟨b36, eb36, h⟩ := h
      rw [eb36]
      obtain ⟨q37, h⟩ := h
      obtain ⟨q38, h⟩ := h
      obtain ⟨q39, h⟩ := h
      refine z_iald dX7_isBroken_207 (n := (zK M b36).2) (Prod.ext q37 rfl) q38 q39 ?_
      obtain ⟨b40, eb40, h⟩ := h
      rw [eb40]
      obtain ⟨q41, h⟩ := h
      obtain ⟨q42, h⟩ := h
      obtain ⟨q43, h⟩ := h
      refine z_iald dX7_isBroken_208 (n := (zK M b40).2) (Prod.ext q41 rfl) q42 q43 ?_
      refine z_icmp_le (tgt := 216) dX7_isBroken_209 (by decide) (fun q44 => ?_) (fun q44 => ?_)
      · have h := h.1 q44
        refine z_iconst dX7_isBroken_216 (by decide) ?_
        exact z_zret hr dX7_isBroken_217 (Nat.le_of_ble_eq_true rfl) (Nat.le_of_ble_eq_true rfl) (by decide) ⟨_, rfl, h⟩
      · have h := h.2 q44
        refine z_iconst dX7_isBroken_212 (by decide) ?_
        refine z_goto (tgt := 217) dX7_isBroken_213 (by decide) ?_
        exact z_zret hr dX7_isBroken_217 (Nat.le_of_ble_eq_true rfl) (Nat.le_of_ble_eq_true rfl) (by decide) ⟨_, rfl, h⟩
  · have h := h.2 q2
    refine z_aload_n 0 dX7_isBroken_15 rfl ?_
    refine z_iload 5 dX7_isBroken_16 rfl ?_
    refine z_iload_n 3 dX7_isBroken_18 rfl ?_
    obtain ⟨q50, h⟩ := h
    obtain ⟨P45, c46, h⟩ := h
    refine z_Vi (as := [vI x5, vI x3]) mv_X7_116 dX7_isBroken_19 c46 q50 rfl rfl (Nat.le_of_ble_eq_true rfl) (Nat.le_of_ble_eq_true rfl) (Nat.le_of_ble_eq_true rfl) (fun r48 M47 p49 => ?_)
    have h := h r48 M47 p49
    refine z_if_ne (tgt := 28) dX7_isBroken_22 (by decide) (fun q51 => ?_) (fun q51 => ?_)
    · have h := h.1 q51
      refine z_iload_n 2 dX7_isBroken_28 rfl ?_
      obtain ⟨hq52, h⟩ := h
      by_cases q52 : x2 = 2
      · refine z_tableIn (tgt := 56) dX7_isBroken_29 2 q52 (by decide) (by decide) rfl (by decide) ?_
        have h := hq52 q52
        refine z_iload 4 dX7_isBroken_56 rfl ?_
        refine z_aload_n 0 dX7_isBroken_58 rfl ?_
        obtain ⟨q53, h⟩ := h
        refine z_getR fl_X7_29 rfl dX7_isBroken_59 q53 ?_
        refine z_iload 5 dX7_isBroken_62 rfl ?_
        obtain ⟨b54, eb54, h⟩ := h
        rw [eb54]
        obtain ⟨q55, h⟩ := h
        obtain ⟨q56, h⟩ := h
        obtain ⟨q57, h⟩ := h
        refine z_iald dX7_isBroken_64 (n := (zK M47 b54).2) (Prod.ext q55 rfl) q56 q57 ?_
        refine z_aload_n 0 dX7_isBroken_65 rfl ?_
        obtain ⟨q58, h⟩ := h
        refine z_getR fl_X7_29 rfl dX7_isBroken_66 q58 ?_
        rw [eb54]
        refine z_iload_n 1 dX7_isBroken_69 rfl ?_
        obtain ⟨q59, h⟩ := h
        obtain ⟨q60, h⟩ := h
        obtain ⟨q61, h⟩ := h
        refine z_iald dX7_isBroken_70 (n := (zK M47 b54).2) (Prod.ext q59 rfl) q60 q61 ?_
        refine z_icmp_ne (tgt := 84) dX7_isBroken_71 (by decide) (fun q62 => ?_) (fun q62 => ?_)
        · have h := h.1 q62
          refine z_iconst dX7_isBroken_84 (by decide) ?_
          obtain ⟨q63, h⟩ := h
          refine z_iadd dX7_isBroken_85 q63 ?_
          refine z_istore dX7_isBroken_86 (by decide) rfl ?_
          refine z_goto (tgt := 185) dX7_isBroken_88 (by decide) ?_
          obtain ⟨q64, h⟩ := h
          refine z_iinc 5 dX7_isBroken_185 rfl (by decide) q64 rfl ?_
          refine z_goto (tgt := 6) dX7_isBroken_188 (by decide) ?_
          exact z_sub [2, 3, 4, 5, 1, 0] rfl h
        · have h := h.2 q62
          refine z_aload_n 0 dX7_isBroken_74 rfl ?_
          obtain ⟨q65, h⟩ := h
          refine z_getR fl_X7_32 rfl dX7_isBroken_75 q65 ?_
          refine z_iload 5 dX7_isBroken_78 rfl ?_
          obtain ⟨b66, eb66, h⟩ := h
          rw [eb66]
          obtain ⟨q67, h⟩ := h
          obtain ⟨q68, h⟩ := h
          obtain ⟨q69, h⟩ := h
          refine z_iald dX7_isBroken_80 (n := (zK M47 b66).2) (Prod.ext q67 rfl) q68 q69 ?_
          refine z_goto (tgt := 85) dX7_isBroken_81 (by decide) ?_
          obtain ⟨q70, h⟩ := h
          refine z_iadd dX7_isBroken_85 q70 ?_
          refine z_istore dX7_isBroken_86 (by decide) rfl ?_
          refine z_goto (tgt := 185) dX7_isBroken_88 (by decide) ?_
          obtain ⟨q71, h⟩ := h
          refine z_iinc 5 dX7_isBroken_185 rfl (by decide) q71 rfl ?_
          refine z_goto (tgt := 6) dX7_isBroken_188 (by decide) ?_
          exact z_sub [2, 3, 4, 5, 1, 0] rfl h
      obtain ⟨hq72, h⟩ := h
      by_cases q72 : x2 = 3
      · refine z_tableIn (tgt := 91) dX7_isBroken_29 3 q72 (by decide) (by decide) rfl (by decide) ?_
        have h := hq72 q72
        refine z_iload 4 dX7_isBroken_91 rfl ?_
        refine z_aload_n 0 dX7_isBroken_93 rfl ?_
        obtain ⟨q73, h⟩ := h
        refine z_getR fl_X7_41 rfl dX7_isBroken_94 q73 ?_
        refine z_iload_n 1 dX7_isBroken_97 rfl ?_
        obtain ⟨b74, eb74, h⟩ := h
        rw [eb74]
        obtain ⟨q75, h⟩ := h
        obtain ⟨q76, h⟩ := h
        obtain ⟨q77, h⟩ := h
        refine z_iald dX7_isBroken_98 (n := (zK M47 b74).2) (Prod.ext q75 rfl) q76 q77 ?_
        refine z_iconst dX7_isBroken_99 (by decide) ?_
        refine z_icmp_eq (tgt := 123) dX7_isBroken_100 (by decide) (fun q78 => ?_) (fun q78 => ?_)
        · have h := h.1 q78
          refine z_iconst dX7_isBroken_123 (by decide) ?_
          obtain ⟨q79, h⟩ := h
          refine z_iadd dX7_isBroken_124 q79 ?_
          refine z_istore dX7_isBroken_125 (by decide) rfl ?_
          refine z_goto (tgt := 185) dX7_isBroken_127 (by decide) ?_
          obtain ⟨q80, h⟩ := h
          refine z_iinc 5 dX7_isBroken_185 rfl (by decide) q80 rfl ?_
          refine z_goto (tgt := 6) dX7_isBroken_188 (by decide) ?_
          exact z_sub [2, 3, 4, 5, 1, 0] rfl h
        · have h := h.2 q78
          refine z_aload_n 0 dX7_isBroken_103 rfl ?_
          obtain ⟨q81, h⟩ := h
          refine z_getR fl_X7_41 rfl dX7_isBroken_104 q81 ?_
          rw [eb74]
          refine z_iload 5 dX7_isBroken_107 rfl ?_
          obtain ⟨q82, h⟩ := h
          obtain ⟨q83, h⟩ := h
          obtain ⟨q84, h⟩ := h
          refine z_iald dX7_isBroken_109 (n := (zK M47 b74).2) (Prod.ext q82 rfl) q83 q84 ?_
          refine z_aload_n 0 dX7_isBroken_110 rfl ?_
          obtain ⟨q85, h⟩ := h
          refine z_getR fl_X7_41 rfl dX7_isBroken_111 q85 ?_
          rw [eb74]
          refine z_iload_n 1 dX7_isBroken_114 rfl ?_
          obtain ⟨q86, h⟩ := h
          obtain ⟨q87, h⟩ := h
          obtain ⟨q88, h⟩ := h
          refine z_iald dX7_isBroken_115 (n := (zK M47 b74).2) (Prod.ext q86 rfl) q87 q88 ?_
          refine z_icmp_ne (tgt := 123) dX7_isBroken_116 (by decide) (fun q89 => ?_) (fun q89 => ?_)
          · have h := h.1 q89
            refine z_iconst dX7_isBroken_123 (by decide) ?_
            obtain ⟨q90, h⟩ := h
            refine z_iadd dX7_isBroken_124 q90 ?_
            refine z_istore dX7_isBroken_125 (by decide) rfl ?_
            refine z_goto (tgt := 185) dX7_isBroken_127 (by decide) ?_
            obtain ⟨q91, h⟩ := h
            refine z_iinc 5 dX7_isBroken_185 rfl (by decide) q91 rfl ?_
            refine z_goto (tgt := 6) dX7_isBroken_188 (by decide) ?_
            exact z_sub [2, 3, 4, 5, 1, 0] rfl h
          · have h := h.2 q89
            refine z_iconst dX7_isBroken_119 (by decide) ?_
            refine z_goto (tgt := 124) dX7_isBroken_120 (by decide) ?_
            obtain ⟨q92, h⟩ := h
            refine z_iadd dX7_isBroken_124 q92 ?_
            refine z_istore dX7_isBroken_125 (by decide) rfl ?_
            refine z_goto (tgt := 185) dX7_isBroken_127 (by decide) ?_
            obtain ⟨q93, h⟩ := h
            refine z_iinc 5 dX7_isBroken_185 rfl (by decide) q93 rfl ?_
            refine z_goto (tgt := 6) dX7_isBroken_188 (by decide) ?_
            exact z_sub [2, 3, 4, 5, 1, 0] rfl h
      obtain ⟨hq94, h⟩ := h
      by_cases q94 : x2 = 4
      · refine z_tableIn (tgt := 130) dX7_isBroken_29 4 q94 (by decide) (by decide) rfl (by decide) ?_
        have h := hq94 q94
        refine z_iload 4 dX7_isBroken_130 rfl ?_
        refine z_aload_n 0 dX7_isBroken_132 rfl ?_
        obtain ⟨q95, h⟩ := h
        refine z_getR fl_X7_35 rfl dX7_isBroken_133 q95 ?_
        refine z_iload 5 dX7_isBroken_136 rfl ?_
        obtain ⟨b96, eb96, h⟩ := h
        rw [eb96]
        obtain ⟨q97, h⟩ := h
        obtain ⟨q98, h⟩ := h
        obtain ⟨q99, h⟩ := h
        refine z_iald dX7_isBroken_138 (n := (zK M47 b96).2) (Prod.ext q97 rfl) q98 q99 ?_
        refine z_aload_n 0 dX7_isBroken_139 rfl ?_
        obtain ⟨q100, h⟩ := h
        refine z_getR fl_X7_35 rfl dX7_isBroken_140 q100 ?_
        rw [eb96]
        refine z_iload_n 1 dX7_isBroken_143 rfl ?_
        obtain ⟨q101, h⟩ := h
        obtain ⟨q102, h⟩ := h
        obtain ⟨q103, h⟩ := h
        refine z_iald dX7_isBroken_144 (n := (zK M47 b96).2) (Prod.ext q101 rfl) q102 q103 ?_
        refine z_icmp_ne (tgt := 152) dX7_isBroken_145 (by decide) (fun q104 => ?_) (fun q104 => ?_)
        · have h := h.1 q104
          refine z_iconst dX7_isBroken_152 (by decide) ?_
          obtain ⟨q105, h⟩ := h
          refine z_iadd dX7_isBroken_153 q105 ?_
          refine z_istore dX7_isBroken_154 (by decide) rfl ?_
          refine z_goto (tgt := 185) dX7_isBroken_156 (by decide) ?_
          obtain ⟨q106, h⟩ := h
          refine z_iinc 5 dX7_isBroken_185 rfl (by decide) q106 rfl ?_
          refine z_goto (tgt := 6) dX7_isBroken_188 (by decide) ?_
          exact z_sub [2, 3, 4, 5, 1, 0] rfl h
        · have h := h.2 q104
          refine z_iconst dX7_isBroken_148 (by decide) ?_
          refine z_goto (tgt := 153) dX7_isBroken_149 (by decide) ?_
          obtain ⟨q107, h⟩ := h
          refine z_iadd dX7_isBroken_153 q107 ?_
          refine z_istore dX7_isBroken_154 (by decide) rfl ?_
          refine z_goto (tgt := 185) dX7_isBroken_156 (by decide) ?_
          obtain ⟨q108, h⟩ := h
          refine z_iinc 5 dX7_isBroken_185 rfl (by decide) q108 rfl ?_
          refine z_goto (tgt := 6) dX7_isBroken_188 (by decide) ?_
          exact z_sub [2, 3, 4, 5, 1, 0] rfl h
      have ho109 := zo_2_4 x2 q52 q72 q94
      refine z_tableOut (tgt := 159) dX7_isBroken_29 ho109 (by decide) ?_
      have h := h ho109
      refine z_iload 4 dX7_isBroken_159 rfl ?_
      refine z_iload 5 dX7_isBroken_161 rfl ?_
      refine z_iload_n 1 dX7_isBroken_163 rfl ?_
      refine z_icmp_eq (tgt := 181) dX7_isBroken_164 (by decide) (fun q110 => ?_) (fun q110 => ?_)
      · have h := h.1 q110
        refine z_iconst dX7_isBroken_181 (by decide) ?_
        obtain ⟨q111, h⟩ := h
        refine z_iadd dX7_isBroken_182 q111 ?_
        refine z_istore dX7_isBroken_183 (by decide) rfl ?_
        obtain ⟨q112, h⟩ := h
        refine z_iinc 5 dX7_isBroken_185 rfl (by decide) q112 rfl ?_
        refine z_goto (tgt := 6) dX7_isBroken_188 (by decide) ?_
        exact z_sub [2, 3, 4, 5, 1, 0] rfl h
      · have h := h.2 q110
        refine z_aload_n 0 dX7_isBroken_167 rfl ?_
        refine z_iload 5 dX7_isBroken_168 rfl ?_
        refine z_iload_n 1 dX7_isBroken_170 rfl ?_
        obtain ⟨q118, h⟩ := h
        obtain ⟨P113, c114, h⟩ := h
        refine z_Vi (as := [vI x5, vI x1]) mv_X7_119 dX7_isBroken_171 c114 q118 rfl rfl (Nat.le_of_ble_eq_true rfl) (Nat.le_of_ble_eq_true rfl) (Nat.le_of_ble_eq_true rfl) (fun r116 M115 p117 => ?_)
        have h := h r116 M115 p117
        refine z_if_eq (tgt := 181) dX7_isBroken_174 (by decide) (fun q119 => ?_) (fun q119 => ?_)
        · have h := h.1 q119
          refine z_iconst dX7_isBroken_181 (by decide) ?_
          obtain ⟨q120, h⟩ := h
          refine z_iadd dX7_isBroken_182 q120 ?_
          refine z_istore dX7_isBroken_183 (by decide) rfl ?_
          obtain ⟨q121, h⟩ := h
          refine z_iinc 5 dX7_isBroken_185 rfl (by decide) q121 rfl ?_
          refine z_goto (tgt := 6) dX7_isBroken_188 (by decide) ?_
          exact z_sub [2, 3, 4, 5, 1, 0] rfl h
        · have h := h.2 q119
          refine z_iconst dX7_isBroken_177 (by decide) ?_
          refine z_goto (tgt := 182) dX7_isBroken_178 (by decide) ?_
          obtain ⟨q122, h⟩ := h
          refine z_iadd dX7_isBroken_182 q122 ?_
          refine z_istore dX7_isBroken_183 (by decide) rfl ?_
          obtain ⟨q123, h⟩ := h
          refine z_iinc 5 dX7_isBroken_185 rfl (by decide) q123 rfl ?_
          refine z_goto (tgt := 6) dX7_isBroken_188 (by decide) ?_
          exact z_sub [2, 3, 4, 5, 1, 0] rfl h
    · have h := h.2 q51
      refine z_goto (tgt := 185) dX7_isBroken_25 (by decide) ?_
      obtain ⟨q124, h⟩ := h
      refine z_iinc 5 dX7_isBroken_185 rfl (by decide) q124 rfl ?_
      refine z_goto (tgt := 6) dX7_isBroken_188 (by decide) ?_
      exact z_sub [1, 2, 3, 4, 5, 0] rfl h
theorem sX7_isBroken {E : zE} {d : Nat} {P : Int → zM → Prop} {M : zM} (a0 : Nat) (x1 : Int) (x2 : Int) (x3 : Int) (h : ∀ X : zX, (xh X).sig.returnType = (some .boolean) → ZX7_isBroken E d X P 0 [(0, vR (some a0)), (1, vI x1), (2, vI x2), (3, vI x3)] [] M 0 0) : zCi E mX7_isBroken (d + 1) 0 0 [vR (some a0), vI x1, vI x2, vI x3] M P := z_start (f := mX7_isBroken) rfl (Nat.le_of_ble_eq_true rfl) rfl h
abbrev ZX7_isBad (E : zE) (d : Nat) (X : zX) (P : Int → zM → Prop) (pc : Nat) (Lc : List (Nat × zV)) (S : List zV) (M : zM) (ce sl : Nat) : Prop := zZ cX7_isBad RX7 "isBad" 4 E (zrm (d + 1) 0 0) X (zQ E (zPi P) X 0 0) pc Lc S M ce sl
set_option maxRecDepth 20000 in
theorem vX7_isBad_0 {E : zE} {d : Nat} {X : zX} {P : Int → zM → Prop} {M : zM} (hr : (xh X).sig.returnType = (some .boolean)) (a0 : Nat) (x1 : Int)
    (h : ZX7_isBad E d X P 4 [(0, vR (some a0)), (1, vI x1), (2, vI 0), (3, vI 1)] [] M 0 0) :
    ZX7_isBad E d X P 0 [(0, vR (some a0)), (1, vI x1)] [] M 0 0 := by
  refine z_iconst dX7_isBad_0 (by decide) ?_
  refine z_istore_n dX7_isBad_1 (by decide) rfl ?_
  refine z_iconst dX7_isBad_2 (by decide) ?_
  refine z_istore_n dX7_isBad_3 (by decide) rfl ?_
  exact z_sub [2, 3, 1, 0] rfl h
set_option maxRecDepth 20000 in
theorem vX7_isBad_4 {E : zE} {d : Nat} {X : zX} {P : Int → zM → Prop} {M : zM} (hr : (xh X).sig.returnType = (some .boolean)) (a0 : Nat) (x1 : Int) (x2 : Int) (x3 : Int)
    (h : ((5 < x3 → (x2 = 0 ∨ x2 = 1) ∧ P x2 M) ∧ (x3 ≤ 5 → ((x2 ≠ 0 → (x2 = 0 ∨ x2 = 1) ∧ P x2 M) ∧ (x2 = 0 → zK M a0 = (8, 25) ∧ ∃ P5 : Int → zM → Prop, zCi E mX7_breaks d 0 0 [vR (some a0), vI x1, vI x3] M P5 ∧ ∀ r8 M7, P5 r8 M7 → ((r8 = (-1) → zin (x3 + 1) ∧ ZX7_isBad E d X P 4 [(0, vR (some a0)), (1, vI x1), (2, vI 0), (3, vI (x3 + 1))] [] M7 0 0) ∧ (r8 ≠ (-1) → zin (x3 + 1) ∧ ZX7_isBad E d X P 4 [(0, vR (some a0)), (1, vI x1), (2, vI 1), (3, vI (x3 + 1))] [] M7 0 0))))))) :
    ZX7_isBad E d X P 4 [(0, vR (some a0)), (1, vI x1), (2, vI x2), (3, vI x3)] [] M 0 0 := by
  refine z_iload_n 3 dX7_isBad_4 rfl ?_
  refine z_iconst dX7_isBad_5 (by decide) ?_
  refine z_icmp_gt (tgt := 35) dX7_isBad_6 (by decide) (fun q1 => ?_) (fun q1 => ?_)
  · have h := h.1 q1
    refine z_iload_n 2 dX7_isBad_35 rfl ?_
    obtain ⟨q2, h⟩ := h
    exact z_zret hr dX7_isBad_36 (Nat.le_of_ble_eq_true rfl) (Nat.le_of_ble_eq_true rfl) q2 ⟨_, rfl, h⟩
  · have h := h.2 q1
    refine z_iload_n 2 dX7_isBad_9 rfl ?_
    refine z_if_ne (tgt := 35) dX7_isBad_10 (by decide) (fun q3 => ?_) (fun q3 => ?_)
    · have h := h.1 q3
      refine z_iload_n 2 dX7_isBad_35 rfl ?_
      obtain ⟨q4, h⟩ := h
      exact z_zret hr dX7_isBad_36 (Nat.le_of_ble_eq_true rfl) (Nat.le_of_ble_eq_true rfl) q4 ⟨_, rfl, h⟩
    · have h := h.2 q3
      refine z_aload_n 0 dX7_isBad_13 rfl ?_
      refine z_iload_n 1 dX7_isBad_14 rfl ?_
      refine z_iload_n 3 dX7_isBad_15 rfl ?_
      obtain ⟨q10, h⟩ := h
      obtain ⟨P5, c6, h⟩ := h
      refine z_Vi (as := [vI x1, vI x3]) mv_X7_122 dX7_isBad_16 c6 q10 rfl rfl (Nat.le_of_ble_eq_true rfl) (Nat.le_of_ble_eq_true rfl) (Nat.le_of_ble_eq_true rfl) (fun r8 M7 p9 => ?_)
      have h := h r8 M7 p9
      refine z_iconst dX7_isBad_19 (by decide) ?_
      refine z_icmp_eq (tgt := 27) dX7_isBad_20 (by decide) (fun q11 => ?_) (fun q11 => ?_)
      · have h := h.1 q11
        refine z_iconst dX7_isBad_27 (by decide) ?_
        refine z_istore_n dX7_isBad_28 (by decide) rfl ?_
        obtain ⟨q12, h⟩ := h
        refine z_iinc 3 dX7_isBad_29 rfl (by decide) q12 rfl ?_
        refine z_goto (tgt := 4) dX7_isBad_32 (by decide) ?_
        exact z_sub [2, 3, 1, 0] rfl h
      · have h := h.2 q11
        refine z_iconst dX7_isBad_23 (by decide) ?_
        refine z_goto (tgt := 28) dX7_isBad_24 (by decide) ?_
        refine z_istore_n dX7_isBad_28 (by decide) rfl ?_
        obtain ⟨q13, h⟩ := h
        refine z_iinc 3 dX7_isBad_29 rfl (by decide) q13 rfl ?_
        refine z_goto (tgt := 4) dX7_isBad_32 (by decide) ?_
        exact z_sub [2, 3, 1, 0] rfl h
theorem sX7_isBad {E : zE} {d : Nat} {P : Int → zM → Prop} {M : zM} (a0 : Nat) (x1 : Int) (h : ∀ X : zX, (xh X).sig.returnType = (some .boolean) → ZX7_isBad E d X P 0 [(0, vR (some a0)), (1, vI x1)] [] M 0 0) : zCi E mX7_isBad (d + 1) 0 0 [vR (some a0), vI x1] M P := z_start (f := mX7_isBad) rfl (Nat.le_of_ble_eq_true rfl) rfl h
abbrev ZX7_why (E : zE) (d : Nat) (X : zX) (P : Int → zM → Prop) (pc : Nat) (Lc : List (Nat × zV)) (S : List zV) (M : zM) (ce sl : Nat) : Prop := zZ cX7_why RX7 "why" 5 E (zrm (d + 1) 0 0) X (zQ E (zPi P) X 0 0) pc Lc S M ce sl
set_option maxRecDepth 20000 in
theorem vX7_why_0 {E : zE} {d : Nat} {X : zX} {P : Int → zM → Prop} {M : zM} (hr : (xh X).sig.returnType = (some .int)) (a0 : Nat) (x1 : Int)
    (h : ∃ P1 : Int → zM → Prop, zCi E mX7_in d 0 0 [vI x1, vI 0, vI 2] M P1 ∧ ∀ r4 M3, P1 r4 M3 → ((r4 ≠ 0 → ZX7_why E d X P 13 [(0, vR (some a0)), (1, vI x1), (2, vI 0)] [] M3 0 0) ∧ (r4 = 0 → P (-1) M3))) :
    ZX7_why E d X P 0 [(0, vR (some a0)), (1, vI x1)] [] M 0 0 := by
  refine z_iload_n 1 dX7_why_0 rfl ?_
  refine z_iconst dX7_why_1 (by decide) ?_
  refine z_iconst dX7_why_2 (by decide) ?_
  obtain ⟨P1, c2, h⟩ := h
  refine z_Si (as := [vI x1, vI 0, vI 2]) ms_X7_78 dX7_why_3 c2 rfl rfl (Nat.le_of_ble_eq_true rfl) (Nat.le_of_ble_eq_true rfl) (Nat.le_of_ble_eq_true rfl) (fun r4 M3 p5 => ?_)
  have h := h r4 M3 p5
  refine z_if_ne (tgt := 11) dX7_why_6 (by decide) (fun q6 => ?_) (fun q6 => ?_)
  · have h := h.1 q6
    refine z_iconst dX7_why_11 (by decide) ?_
    refine z_istore_n dX7_why_12 (by decide) rfl ?_
    exact z_sub [1, 2, 0] rfl h
  · have h := h.2 q6
    refine z_iconst dX7_why_9 (by decide) ?_
    exact z_iret hr dX7_why_10 (Nat.le_of_ble_eq_true rfl) (Nat.le_of_ble_eq_true rfl) ⟨_, rfl, h⟩
set_option maxRecDepth 20000 in
theorem vX7_why_13 {E : zE} {d : Nat} {X : zX} {P : Int → zM → Prop} {M : zM} (hr : (xh X).sig.returnType = (some .int)) (a0 : Nat) (x1 : Int) (x2 : Int)
    (h : zK M a0 = (8, 25) ∧ (((zI M a0 8) ≤ x2 → P (-1) M) ∧ (x2 < (zI M a0 8) → ZX7_why E d X P 23 [(0, vR (some a0)), (1, vI x1), (2, vI x2), (3, vI 1)] [] M 0 0))) :
    ZX7_why E d X P 13 [(0, vR (some a0)), (1, vI x1), (2, vI x2)] [] M 0 0 := by
  refine z_iload_n 2 dX7_why_13 rfl ?_
  refine z_aload_n 0 dX7_why_14 rfl ?_
  obtain ⟨q1, h⟩ := h
  refine z_getI fl_X7_74 dX7_why_15 q1 ?_
  refine z_icmp_ge (tgt := 82) dX7_why_18 (by decide) (fun q2 => ?_) (fun q2 => ?_)
  · have h := h.1 q2
    refine z_iconst dX7_why_82 (by decide) ?_
    exact z_iret hr dX7_why_83 (Nat.le_of_ble_eq_true rfl) (Nat.le_of_ble_eq_true rfl) ⟨_, rfl, h⟩
  · have h := h.2 q2
    refine z_iconst dX7_why_21 (by decide) ?_
    refine z_istore_n dX7_why_22 (by decide) rfl ?_
    exact z_sub [1, 2, 3, 0] rfl h
set_option maxRecDepth 20000 in
theorem vX7_why_23 {E : zE} {d : Nat} {X : zX} {P : Int → zM → Prop} {M : zM} (hr : (xh X).sig.returnType = (some .int)) (a0 : Nat) (x1 : Int) (x2 : Int) (x3 : Int)
    (h : ((5 < x3 → zin (x2 + 1) ∧ ZX7_why E d X P 13 [(0, vR (some a0)), (1, vI x1), (2, vI (x2 + 1))] [] M 0 0) ∧ (x3 ≤ 5 → zK M a0 = (8, 25) ∧ ∃ P3 : Int → zM → Prop, zCi E mX7_isPut d 0 0 [vR (some a0), vI x2] M P3 ∧ ∀ r6 M5, P3 r6 M5 → ((r6 = 0 → zin (x2 + 1) ∧ ZX7_why E d X P 13 [(0, vR (some a0)), (1, vI x1), (2, vI (x2 + 1))] [] M5 0 0) ∧ (r6 ≠ 0 → zK M5 a0 = (8, 25) ∧ ∃ P11 : Int → zM → Prop, zCi E mX7_breaks d 0 0 [vR (some a0), vI x2, vI x3] M5 P11 ∧ ∀ r14 M13, P11 r14 M13 → ((r14 = (-1) → zin (x3 + 1) ∧ ZX7_why E d X P 23 [(0, vR (some a0)), (1, vI x1), (2, vI x2), (3, vI (x3 + 1))] [] M13 0 0) ∧ (r14 ≠ (-1) → ((x1 ≠ 0 → ((x1 ≠ 1 → P r14 M13) ∧ (x1 = 1 → P x3 M13))) ∧ (x1 = 0 → P x2 M13))))))))) :
    ZX7_why E d X P 23 [(0, vR (some a0)), (1, vI x1), (2, vI x2), (3, vI x3)] [] M 0 0 := by
  refine z_iload_n 3 dX7_why_23 rfl ?_
  refine z_iconst dX7_why_24 (by decide) ?_
  refine z_icmp_gt (tgt := 76) dX7_why_25 (by decide) (fun q1 => ?_) (fun q1 => ?_)
  · have h := h.1 q1
    obtain ⟨q2, h⟩ := h
    refine z_iinc 2 dX7_why_76 rfl (by decide) q2 rfl ?_
    refine z_goto (tgt := 13) dX7_why_79 (by decide) ?_
    exact z_sub [1, 2, 0] rfl h
  · have h := h.2 q1
    refine z_aload_n 0 dX7_why_28 rfl ?_
    refine z_iload_n 2 dX7_why_29 rfl ?_
    obtain ⟨q8, h⟩ := h
    obtain ⟨P3, c4, h⟩ := h
    refine z_Vi (as := [vI x2]) mv_X7_89 dX7_why_30 c4 q8 rfl rfl (Nat.le_of_ble_eq_true rfl) (Nat.le_of_ble_eq_true rfl) (Nat.le_of_ble_eq_true rfl) (fun r6 M5 p7 => ?_)
    have h := h r6 M5 p7
    refine z_if_eq (tgt := 76) dX7_why_33 (by decide) (fun q9 => ?_) (fun q9 => ?_)
    · have h := h.1 q9
      obtain ⟨q10, h⟩ := h
      refine z_iinc 2 dX7_why_76 rfl (by decide) q10 rfl ?_
      refine z_goto (tgt := 13) dX7_why_79 (by decide) ?_
      exact z_sub [1, 2, 0] rfl h
    · have h := h.2 q9
      refine z_aload_n 0 dX7_why_36 rfl ?_
      refine z_iload_n 2 dX7_why_37 rfl ?_
      refine z_iload_n 3 dX7_why_38 rfl ?_
      obtain ⟨q16, h⟩ := h
      obtain ⟨P11, c12, h⟩ := h
      refine z_Vi (as := [vI x2, vI x3]) mv_X7_122 dX7_why_39 c12 q16 rfl rfl (Nat.le_of_ble_eq_true rfl) (Nat.le_of_ble_eq_true rfl) (Nat.le_of_ble_eq_true rfl) (fun r14 M13 p15 => ?_)
      have h := h r14 M13 p15
      refine z_istore dX7_why_42 (by decide) rfl ?_
      refine z_iload 0 dX7_why_44 rfl ?_
      refine z_iconst dX7_why_46 (by decide) ?_
      refine z_icmp_eq (tgt := 70) dX7_why_47 (by decide) (fun q17 => ?_) (fun q17 => ?_)
      · have h := h.1 q17
        obtain ⟨q18, h⟩ := h
        refine z_iinc 4 dX7_why_70 rfl (by decide) q18 rfl ?_
        refine z_goto (tgt := 23) dX7_why_73 (by decide) ?_
        exact z_sub [2, 3, 4, 0] rfl h
      · have h := h.2 q17
        refine z_iload_n 2 dX7_why_50 rfl ?_
        refine z_if_ne (tgt := 58) dX7_why_51 (by decide) (fun q19 => ?_) (fun q19 => ?_)
        · have h := h.1 q19
          refine z_iload_n 2 dX7_why_58 rfl ?_
          refine z_iconst dX7_why_59 (by decide) ?_
          refine z_icmp_ne (tgt := 67) dX7_why_60 (by decide) (fun q20 => ?_) (fun q20 => ?_)
          · have h := h.1 q20
            refine z_iload 0 dX7_why_67 rfl ?_
            exact z_iret hr dX7_why_69 (Nat.le_of_ble_eq_true rfl) (Nat.le_of_ble_eq_true rfl) ⟨_, rfl, h⟩
          · have h := h.2 q20
            refine z_iload_n 4 dX7_why_63 rfl ?_
            refine z_goto (tgt := 69) dX7_why_64 (by decide) ?_
            exact z_iret hr dX7_why_69 (Nat.le_of_ble_eq_true rfl) (Nat.le_of_ble_eq_true rfl) ⟨_, rfl, h⟩
        · have h := h.2 q19
          refine z_iload_n 3 dX7_why_54 rfl ?_
          refine z_goto (tgt := 69) dX7_why_55 (by decide) ?_
          exact z_iret hr dX7_why_69 (Nat.le_of_ble_eq_true rfl) (Nat.le_of_ble_eq_true rfl) ⟨_, rfl, h⟩
theorem sX7_why {E : zE} {d : Nat} {P : Int → zM → Prop} {M : zM} (a0 : Nat) (x1 : Int) (h : ∀ X : zX, (xh X).sig.returnType = (some .int) → ZX7_why E d X P 0 [(0, vR (some a0)), (1, vI x1)] [] M 0 0) : zCi E mX7_why (d + 1) 0 0 [vR (some a0), vI x1] M P := z_start (f := mX7_why) rfl (Nat.le_of_ble_eq_true rfl) rfl h
