abbrev ZX2_needersOf (E : zE) (d : Nat) (X : zX) (P : Int64 → zM → Prop) (pc : Nat) (Lc : List (Nat × zV)) (S : List zV) (M : zM) (ce sl : Nat) : Prop := zZ cX2_needersOf RX2 "needersOf" 6 E (zrm (d + 1) 0 0) X (zQ E (zPl P) X 0 0) pc Lc S M ce sl
set_option maxRecDepth 20000 in
theorem vX2_needersOf_0 {E : zE} {d : Nat} {X : zX} {P : Int64 → zM → Prop} {M : zM} (hr : (xh X).sig.returnType = (some .long)) (a0 : Nat) (l1 : Int64)
    (h : ZX2_needersOf E d X P 5 [(0, vR (some a0)), (1, vL l1), (3, vL (0 : Int64)), (5, vI 0)] [] M 0 0) :
    ZX2_needersOf E d X P 0 [(0, vR (some a0)), (1, vL l1)] [] M 0 0 := by
  refine z_lconst (v := 0) dX2_needersOf_0 rfl ?_
  refine z_lstore_n dX2_needersOf_1 (by decide) rfl ?_
  refine z_iconst dX2_needersOf_2 (by decide) ?_
  refine z_istore dX2_needersOf_3 (by decide) rfl ?_
  exact z_sub [2, 3, 1, 0] rfl h
set_option maxRecDepth 20000 in
theorem vX2_needersOf_5 {E : zE} {d : Nat} {X : zX} {P : Int64 → zM → Prop} {M : zM} (hr : (xh X).sig.returnType = (some .long)) (a0 : Nat) (l1 : Int64) (l3 : Int64) (x5 : Int)
    (h : zK M a0 = (3, 6) ∧ (((zI M a0 4) ≤ x5 → P l3 M) ∧ (x5 < (zI M a0 4) → zK M a0 = (3, 6) ∧ ∃ b4, zR M a0 0 = some b4 ∧ ((zK M b4).1 = 12 ∨ (zK M b4).1 = 13) ∧ 0 ≤ x5 ∧ x5 < ((zK M b4).2 : Int) ∧ ∃ b8, zR M b4 x5 = some b8 ∧ zK M b8 = (6, 16) ∧ (((if (0 : Int64) < ((zL M b8 12) &&& l1) then 1 else if ((zL M b8 12) &&& l1) = (0 : Int64) then 0 else -1) = 0 → zin (x5 + 1) ∧ ZX2_needersOf E d X P 5 [(0, vR (some a0)), (1, vL l1), (3, vL l3), (5, vI (x5 + 1))] [] M 0 0) ∧ ((if (0 : Int64) < ((zL M b8 12) &&& l1) then 1 else if ((zL M b8 12) &&& l1) = (0 : Int64) then 0 else -1) ≠ 0 → zK M a0 = (3, 6) ∧ ((zK M b4).1 = 12 ∨ (zK M b4).1 = 13) ∧ 0 ≤ x5 ∧ x5 < ((zK M b4).2 : Int) ∧ zK M b8 = (6, 16) ∧ zin (x5 + 1) ∧ ZX2_needersOf E d X P 5 [(0, vR (some a0)), (1, vL l1), (3, vL (l3 ||| (zL M b8 1))), (5, vI (x5 + 1))] [] M 0 0))))) :
    ZX2_needersOf E d X P 5 [(0, vR (some a0)), (1, vL l1), (3, vL l3), (5, vI x5)] [] M 0 0 := by
  refine z_iload 3 dX2_needersOf_5 rfl ?_
  refine z_aload_n 0 dX2_needersOf_7 rfl ?_
  obtain ⟨q1, h⟩ := h
  refine z_getI fl_X2_28 dX2_needersOf_8 q1 ?_
  refine z_icmp_ge (tgt := 50) dX2_needersOf_11 (by decide) (fun q2 => ?_) (fun q2 => ?_)
  · have h := h.1 q2
    refine z_lload_n 2 dX2_needersOf_50 rfl ?_
    exact z_lret hr dX2_needersOf_51 (Nat.le_of_ble_eq_true rfl) (Nat.le_of_ble_eq_true rfl) ⟨_, rfl, h⟩
  · have h := h.2 q2
    refine z_aload_n 0 dX2_needersOf_14 rfl ?_
    obtain ⟨q3, h⟩ := h
    refine z_getR fl_X2_11 rfl dX2_needersOf_15 q3 ?_
    refine z_iload 3 dX2_needersOf_18 rfl ?_
    obtain ⟨b4, eb4, h⟩ := h
    rw [eb4]
    obtain ⟨q5, h⟩ := h
    obtain ⟨q6, h⟩ := h
    obtain ⟨q7, h⟩ := h
    refine z_aald dX2_needersOf_20 (n := (zK M b4).2) rfl q5 q6 q7 ?_
    obtain ⟨b8, eb8, h⟩ := h
    rw [eb8]
    obtain ⟨q9, h⟩ := h
    refine z_getL fl_X2_45 dX2_needersOf_21 q9 ?_
    refine z_lload_n 1 dX2_needersOf_24 rfl ?_
    refine z_land dX2_needersOf_25 ?_
    refine z_lconst (v := 0) dX2_needersOf_26 rfl ?_
    refine z_lcmp dX2_needersOf_27 ?_
    refine z_if_eq (tgt := 44) dX2_needersOf_28 (by decide) (fun q10 => ?_) (fun q10 => ?_)
    · have h := h.1 q10
      obtain ⟨q11, h⟩ := h
      refine z_iinc 3 dX2_needersOf_44 rfl (by decide) q11 rfl ?_
      refine z_goto (tgt := 5) dX2_needersOf_47 (by decide) ?_
      exact z_sub [1, 2, 3, 0] rfl h
    · have h := h.2 q10
      refine z_lload_n 2 dX2_needersOf_31 rfl ?_
      refine z_aload_n 0 dX2_needersOf_32 rfl ?_
      obtain ⟨q12, h⟩ := h
      refine z_getR fl_X2_11 rfl dX2_needersOf_33 q12 ?_
      rw [eb4]
      refine z_iload 3 dX2_needersOf_36 rfl ?_
      obtain ⟨q13, h⟩ := h
      obtain ⟨q14, h⟩ := h
      obtain ⟨q15, h⟩ := h
      refine z_aald dX2_needersOf_38 (n := (zK M b4).2) rfl q13 q14 q15 ?_
      rw [eb8]
      obtain ⟨q16, h⟩ := h
      refine z_getL fl_X2_35 dX2_needersOf_39 q16 ?_
      refine z_lor dX2_needersOf_42 ?_
      refine z_lstore_n dX2_needersOf_43 (by decide) rfl ?_
      obtain ⟨q17, h⟩ := h
      refine z_iinc 3 dX2_needersOf_44 rfl (by decide) q17 rfl ?_
      refine z_goto (tgt := 5) dX2_needersOf_47 (by decide) ?_
      exact z_sub [2, 3, 1, 0] rfl h
theorem sX2_needersOf {E : zE} {d : Nat} {P : Int64 → zM → Prop} {M : zM} (a0 : Nat) (l1 : Int64) (h : ∀ X : zX, (xh X).sig.returnType = (some .long) → ZX2_needersOf E d X P 0 [(0, vR (some a0)), (1, vL l1)] [] M 0 0) : zCl E mX2_needersOf (d + 1) 0 0 [vR (some a0), vL l1] M P := z_start (f := mX2_needersOf) rfl (Nat.le_of_ble_eq_true rfl) rfl h
abbrev ZX2_askedOfTrade (E : zE) (d : Nat) (X : zX) (P : Int → zM → Prop) (pc : Nat) (Lc : List (Nat × zV)) (S : List zV) (M : zM) (ce sl : Nat) : Prop := zZ cX2_askedOfTrade RX2 "askedOfTrade" 4 E (zrm (d + 1) 0 0) X (zQ E (zPi P) X 0 0) pc Lc S M ce sl
set_option maxRecDepth 20000 in
theorem vX2_askedOfTrade_0 {E : zE} {d : Nat} {X : zX} {P : Int → zM → Prop} {M : zM} (hr : (xh X).sig.returnType = (some .int)) (a0 : Nat) (x1 : Int)
    (h : ZX2_askedOfTrade E d X P 4 [(0, vR (some a0)), (1, vI x1), (2, vI 0), (3, vI 0)] [] M 0 0) :
    ZX2_askedOfTrade E d X P 0 [(0, vR (some a0)), (1, vI x1)] [] M 0 0 := by
  refine z_iconst dX2_askedOfTrade_0 (by decide) ?_
  refine z_istore_n dX2_askedOfTrade_1 (by decide) rfl ?_
  refine z_iconst dX2_askedOfTrade_2 (by decide) ?_
  refine z_istore_n dX2_askedOfTrade_3 (by decide) rfl ?_
  exact z_sub [2, 3, 1, 0] rfl h
set_option maxRecDepth 20000 in
theorem vX2_askedOfTrade_4 {E : zE} {d : Nat} {X : zX} {P : Int → zM → Prop} {M : zM} (hr : (xh X).sig.returnType = (some .int)) (a0 : Nat) (x1 : Int) (x2 : Int) (x3 : Int)
    (h : zK M a0 = (3, 6) ∧ (((zI M a0 4) ≤ x3 → P x2 M) ∧ (x3 < (zI M a0 4) → zK M a0 = (3, 6) ∧ ∃ b4, zR M a0 0 = some b4 ∧ ((zK M b4).1 = 12 ∨ (zK M b4).1 = 13) ∧ 0 ≤ x3 ∧ x3 < ((zK M b4).2 : Int) ∧ ∃ b8, zR M b4 x3 = some b8 ∧ zK M b8 = (6, 16) ∧ (((zI M b8 2) ≠ x1 → zin (x3 + 1) ∧ ZX2_askedOfTrade E d X P 4 [(0, vR (some a0)), (1, vI x1), (2, vI x2), (3, vI (x3 + 1))] [] M 0 0) ∧ ((zI M b8 2) = x1 → zK M a0 = (3, 6) ∧ ((zK M b4).1 = 12 ∨ (zK M b4).1 = 13) ∧ 0 ≤ x3 ∧ x3 < ((zK M b4).2 : Int) ∧ zK M b8 = (6, 16) ∧ zK M a0 = (3, 6) ∧ ((zK M b4).1 = 12 ∨ (zK M b4).1 = 13) ∧ 0 ≤ x3 ∧ x3 < ((zK M b4).2 : Int) ∧ zK M b8 = (6, 16) ∧ zin ((zI M b8 7) * (zI M b8 3)) ∧ zin (x2 + ((zI M b8 7) * (zI M b8 3))) ∧ zin (x3 + 1) ∧ ZX2_askedOfTrade E d X P 4 [(0, vR (some a0)), (1, vI x1), (2, vI (x2 + ((zI M b8 7) * (zI M b8 3)))), (3, vI (x3 + 1))] [] M 0 0))))) :
    ZX2_askedOfTrade E d X P 4 [(0, vR (some a0)), (1, vI x1), (2, vI x2), (3, vI x3)] [] M 0 0 := by
  refine z_iload_n 3 dX2_askedOfTrade_4 rfl ?_
  refine z_aload_n 0 dX2_askedOfTrade_5 rfl ?_
  obtain ⟨q1, h⟩ := h
  refine z_getI fl_X2_28 dX2_askedOfTrade_6 q1 ?_
  refine z_icmp_ge (tgt := 53) dX2_askedOfTrade_9 (by decide) (fun q2 => ?_) (fun q2 => ?_)
  · have h := h.1 q2
    refine z_iload_n 2 dX2_askedOfTrade_53 rfl ?_
    exact z_iret hr dX2_askedOfTrade_54 (Nat.le_of_ble_eq_true rfl) (Nat.le_of_ble_eq_true rfl) ⟨_, rfl, h⟩
  · have h := h.2 q2
    refine z_aload_n 0 dX2_askedOfTrade_12 rfl ?_
    obtain ⟨q3, h⟩ := h
    refine z_getR fl_X2_11 rfl dX2_askedOfTrade_13 q3 ?_
    refine z_iload_n 3 dX2_askedOfTrade_16 rfl ?_
    obtain ⟨b4, eb4, h⟩ := h
    rw [eb4]
    obtain ⟨q5, h⟩ := h
    obtain ⟨q6, h⟩ := h
    obtain ⟨q7, h⟩ := h
    refine z_aald dX2_askedOfTrade_17 (n := (zK M b4).2) rfl q5 q6 q7 ?_
    obtain ⟨b8, eb8, h⟩ := h
    rw [eb8]
    obtain ⟨q9, h⟩ := h
    refine z_getI fl_X2_136 dX2_askedOfTrade_18 q9 ?_
    refine z_iload_n 1 dX2_askedOfTrade_21 rfl ?_
    refine z_icmp_ne (tgt := 47) dX2_askedOfTrade_22 (by decide) (fun q10 => ?_) (fun q10 => ?_)
    · have h := h.1 q10
      obtain ⟨q11, h⟩ := h
      refine z_iinc 3 dX2_askedOfTrade_47 rfl (by decide) q11 rfl ?_
      refine z_goto (tgt := 4) dX2_askedOfTrade_50 (by decide) ?_
      exact z_sub [1, 2, 3, 0] rfl h
    · have h := h.2 q10
      refine z_iload_n 2 dX2_askedOfTrade_25 rfl ?_
      refine z_aload_n 0 dX2_askedOfTrade_26 rfl ?_
      obtain ⟨q12, h⟩ := h
      refine z_getR fl_X2_11 rfl dX2_askedOfTrade_27 q12 ?_
      rw [eb4]
      refine z_iload_n 3 dX2_askedOfTrade_30 rfl ?_
      obtain ⟨q13, h⟩ := h
      obtain ⟨q14, h⟩ := h
      obtain ⟨q15, h⟩ := h
      refine z_aald dX2_askedOfTrade_31 (n := (zK M b4).2) rfl q13 q14 q15 ?_
      rw [eb8]
      obtain ⟨q16, h⟩ := h
      refine z_getI fl_X2_93 dX2_askedOfTrade_32 q16 ?_
      refine z_aload_n 0 dX2_askedOfTrade_35 rfl ?_
      obtain ⟨q17, h⟩ := h
      refine z_getR fl_X2_11 rfl dX2_askedOfTrade_36 q17 ?_
      rw [eb4]
      refine z_iload_n 3 dX2_askedOfTrade_39 rfl ?_
      obtain ⟨q18, h⟩ := h
      obtain ⟨q19, h⟩ := h
      obtain ⟨q20, h⟩ := h
      refine z_aald dX2_askedOfTrade_40 (n := (zK M b4).2) rfl q18 q19 q20 ?_
      rw [eb8]
      obtain ⟨q21, h⟩ := h
      refine z_getI fl_X2_139 dX2_askedOfTrade_41 q21 ?_
      obtain ⟨q22, h⟩ := h
      refine z_imul dX2_askedOfTrade_44 q22 ?_
      obtain ⟨q23, h⟩ := h
      refine z_iadd dX2_askedOfTrade_45 q23 ?_
      refine z_istore_n dX2_askedOfTrade_46 (by decide) rfl ?_
      obtain ⟨q24, h⟩ := h
      refine z_iinc 3 dX2_askedOfTrade_47 rfl (by decide) q24 rfl ?_
      refine z_goto (tgt := 4) dX2_askedOfTrade_50 (by decide) ?_
      exact z_sub [2, 3, 1, 0] rfl h
theorem sX2_askedOfTrade {E : zE} {d : Nat} {P : Int → zM → Prop} {M : zM} (a0 : Nat) (x1 : Int) (h : ∀ X : zX, (xh X).sig.returnType = (some .int) → ZX2_askedOfTrade E d X P 0 [(0, vR (some a0)), (1, vI x1)] [] M 0 0) : zCi E mX2_askedOfTrade (d + 1) 0 0 [vR (some a0), vI x1] M P := z_start (f := mX2_askedOfTrade) rfl (Nat.le_of_ble_eq_true rfl) rfl h
abbrev ZX2_askedOfGood (E : zE) (d : Nat) (X : zX) (P : Int → zM → Prop) (pc : Nat) (Lc : List (Nat × zV)) (S : List zV) (M : zM) (ce sl : Nat) : Prop := zZ cX2_askedOfGood RX2 "askedOfGood" 2 E (zrm (d + 1) 0 0) X (zQ E (zPi P) X 0 0) pc Lc S M ce sl
set_option maxRecDepth 20000 in
theorem vX2_askedOfGood_0 {E : zE} {d : Nat} {X : zX} {P : Int → zM → Prop} {M : zM} (hr : (xh X).sig.returnType = (some .int)) (a0 : Nat) (x1 : Int)
    (h : zK M a0 = (3, 6) ∧ ∃ b2, zR M a0 2 = some b2 ∧ (zK M b2).1 = 11 ∧ 0 ≤ x1 ∧ x1 < ((zK M b2).2 : Int) ∧ zK M a0 = (3, 6) ∧ ∃ P6 : Int → zM → Prop, zCi E mX2_lengthOf d 0 0 [vR (some a0), vL (zL M b2 x1)] M P6 ∧ ∀ r9 M8, P6 r9 M8 → P r9 M8) :
    ZX2_askedOfGood E d X P 0 [(0, vR (some a0)), (1, vI x1)] [] M 0 0 := by
  refine z_aload_n 0 dX2_askedOfGood_0 rfl ?_
  refine z_aload_n 0 dX2_askedOfGood_1 rfl ?_
  obtain ⟨q1, h⟩ := h
  refine z_getR fl_X2_21 rfl dX2_askedOfGood_2 q1 ?_
  refine z_iload_n 1 dX2_askedOfGood_5 rfl ?_
  obtain ⟨b2, eb2, h⟩ := h
  rw [eb2]
  obtain ⟨q3, h⟩ := h
  obtain ⟨q4, h⟩ := h
  obtain ⟨q5, h⟩ := h
  refine z_lald dX2_askedOfGood_6 (n := (zK M b2).2) (Prod.ext q3 rfl) q4 q5 ?_
  obtain ⟨q11, h⟩ := h
  obtain ⟨P6, c7, h⟩ := h
  refine z_Vi (as := [vL (zL M b2 x1)]) mv_X2_142 dX2_askedOfGood_7 c7 q11 rfl rfl (Nat.le_of_ble_eq_true rfl) (Nat.le_of_ble_eq_true rfl) (Nat.le_of_ble_eq_true rfl) (fun r9 M8 p10 => ?_)
  have h := h r9 M8 p10
  exact z_iret hr dX2_askedOfGood_10 (Nat.le_of_ble_eq_true rfl) (Nat.le_of_ble_eq_true rfl) ⟨_, rfl, h⟩
theorem sX2_askedOfGood {E : zE} {d : Nat} {P : Int → zM → Prop} {M : zM} (a0 : Nat) (x1 : Int) (h : ∀ X : zX, (xh X).sig.returnType = (some .int) → ZX2_askedOfGood E d X P 0 [(0, vR (some a0)), (1, vI x1)] [] M 0 0) : zCi E mX2_askedOfGood (d + 1) 0 0 [vR (some a0), vI x1] M P := z_start (f := mX2_askedOfGood) rfl (Nat.le_of_ble_eq_true rfl) rfl h
abbrev ZX2_askedOfSpace (E : zE) (d : Nat) (X : zX) (P : Int → zM → Prop) (pc : Nat) (Lc : List (Nat × zV)) (S : List zV) (M : zM) (ce sl : Nat) : Prop := zZ cX2_askedOfSpace RX2 "askedOfSpace" 2 E (zrm (d + 1) 0 0) X (zQ E (zPi P) X 0 0) pc Lc S M ce sl
set_option maxRecDepth 20000 in
theorem vX2_askedOfSpace_0 {E : zE} {d : Nat} {X : zX} {P : Int → zM → Prop} {M : zM} (hr : (xh X).sig.returnType = (some .int)) (a0 : Nat) (x1 : Int)
    (h : zK M a0 = (3, 6) ∧ ∃ b2, zR M a0 3 = some b2 ∧ (zK M b2).1 = 11 ∧ 0 ≤ x1 ∧ x1 < ((zK M b2).2 : Int) ∧ zK M a0 = (3, 6) ∧ ∃ P6 : Int → zM → Prop, zCi E mX2_lengthOf d 0 0 [vR (some a0), vL (zL M b2 x1)] M P6 ∧ ∀ r9 M8, P6 r9 M8 → P r9 M8) :
    ZX2_askedOfSpace E d X P 0 [(0, vR (some a0)), (1, vI x1)] [] M 0 0 := by
  refine z_aload_n 0 dX2_askedOfSpace_0 rfl ?_
  refine z_aload_n 0 dX2_askedOfSpace_1 rfl ?_
  obtain ⟨q1, h⟩ := h
  refine z_getR fl_X2_25 rfl dX2_askedOfSpace_2 q1 ?_
  refine z_iload_n 1 dX2_askedOfSpace_5 rfl ?_
  obtain ⟨b2, eb2, h⟩ := h
  rw [eb2]
  obtain ⟨q3, h⟩ := h
  obtain ⟨q4, h⟩ := h
  obtain ⟨q5, h⟩ := h
  refine z_lald dX2_askedOfSpace_6 (n := (zK M b2).2) (Prod.ext q3 rfl) q4 q5 ?_
  obtain ⟨q11, h⟩ := h
  obtain ⟨P6, c7, h⟩ := h
  refine z_Vi (as := [vL (zL M b2 x1)]) mv_X2_142 dX2_askedOfSpace_7 c7 q11 rfl rfl (Nat.le_of_ble_eq_true rfl) (Nat.le_of_ble_eq_true rfl) (Nat.le_of_ble_eq_true rfl) (fun r9 M8 p10 => ?_)
  have h := h r9 M8 p10
  exact z_iret hr dX2_askedOfSpace_10 (Nat.le_of_ble_eq_true rfl) (Nat.le_of_ble_eq_true rfl) ⟨_, rfl, h⟩
theorem sX2_askedOfSpace {E : zE} {d : Nat} {P : Int → zM → Prop} {M : zM} (a0 : Nat) (x1 : Int) (h : ∀ X : zX, (xh X).sig.returnType = (some .int) → ZX2_askedOfSpace E d X P 0 [(0, vR (some a0)), (1, vI x1)] [] M 0 0) : zCi E mX2_askedOfSpace (d + 1) 0 0 [vR (some a0), vI x1] M P := z_start (f := mX2_askedOfSpace) rfl (Nat.le_of_ble_eq_true rfl) rfl h
abbrev ZX2_lengthOf (E : zE) (d : Nat) (X : zX) (P : Int → zM → Prop) (pc : Nat) (Lc : List (Nat × zV)) (S : List zV) (M : zM) (ce sl : Nat) : Prop := zZ cX2_lengthOf RX2 "lengthOf" 5 E (zrm (d + 1) 0 0) X (zQ E (zPi P) X 0 0) pc Lc S M ce sl
set_option maxRecDepth 20000 in
theorem vX2_lengthOf_0 {E : zE} {d : Nat} {X : zX} {P : Int → zM → Prop} {M : zM} (hr : (xh X).sig.returnType = (some .int)) (a0 : Nat) (l1 : Int64)
    (h : ZX2_lengthOf E d X P 5 [(0, vR (some a0)), (1, vL l1), (3, vI 0), (4, vI 0)] [] M 0 0) :
    ZX2_lengthOf E d X P 0 [(0, vR (some a0)), (1, vL l1)] [] M 0 0 := by
  refine z_iconst dX2_lengthOf_0 (by decide) ?_
  refine z_istore_n dX2_lengthOf_1 (by decide) rfl ?_
  refine z_iconst dX2_lengthOf_2 (by decide) ?_
  refine z_istore dX2_lengthOf_3 (by decide) rfl ?_
  exact z_sub [2, 3, 1, 0] rfl h
set_option maxRecDepth 20000 in
theorem vX2_lengthOf_5 {E : zE} {d : Nat} {X : zX} {P : Int → zM → Prop} {M : zM} (hr : (xh X).sig.returnType = (some .int)) (a0 : Nat) (l1 : Int64) (x3 : Int) (x4 : Int)
    (h : zK M a0 = (3, 6) ∧ (((zI M a0 4) ≤ x4 → P x3 M) ∧ (x4 < (zI M a0 4) → zK M a0 = (3, 6) ∧ ∃ b4, zR M a0 0 = some b4 ∧ ((zK M b4).1 = 12 ∨ (zK M b4).1 = 13) ∧ 0 ≤ x4 ∧ x4 < ((zK M b4).2 : Int) ∧ ∃ b8, zR M b4 x4 = some b8 ∧ zK M b8 = (6, 16) ∧ (((if (0 : Int64) < (l1 &&& (zL M b8 1)) then 1 else if (l1 &&& (zL M b8 1)) = (0 : Int64) then 0 else -1) = 0 → zin (x4 + 1) ∧ ZX2_lengthOf E d X P 5 [(0, vR (some a0)), (1, vL l1), (3, vI x3), (4, vI (x4 + 1))] [] M 0 0) ∧ ((if (0 : Int64) < (l1 &&& (zL M b8 1)) then 1 else if (l1 &&& (zL M b8 1)) = (0 : Int64) then 0 else -1) ≠ 0 → zK M a0 = (3, 6) ∧ ((zK M b4).1 = 12 ∨ (zK M b4).1 = 13) ∧ 0 ≤ x4 ∧ x4 < ((zK M b4).2 : Int) ∧ zK M b8 = (6, 16) ∧ zin (x3 + (zI M b8 7)) ∧ zin (x4 + 1) ∧ ZX2_lengthOf E d X P 5 [(0, vR (some a0)), (1, vL l1), (3, vI (x3 + (zI M b8 7))), (4, vI (x4 + 1))] [] M 0 0))))) :
    ZX2_lengthOf E d X P 5 [(0, vR (some a0)), (1, vL l1), (3, vI x3), (4, vI x4)] [] M 0 0 := by
  refine z_iload 3 dX2_lengthOf_5 rfl ?_
  refine z_aload_n 0 dX2_lengthOf_7 rfl ?_
  obtain ⟨q1, h⟩ := h
  refine z_getI fl_X2_28 dX2_lengthOf_8 q1 ?_
  refine z_icmp_ge (tgt := 50) dX2_lengthOf_11 (by decide) (fun q2 => ?_) (fun q2 => ?_)
  · have h := h.1 q2
    refine z_iload_n 2 dX2_lengthOf_50 rfl ?_
    exact z_iret hr dX2_lengthOf_51 (Nat.le_of_ble_eq_true rfl) (Nat.le_of_ble_eq_true rfl) ⟨_, rfl, h⟩
  · have h := h.2 q2
    refine z_lload_n 1 dX2_lengthOf_14 rfl ?_
    refine z_aload_n 0 dX2_lengthOf_15 rfl ?_
    obtain ⟨q3, h⟩ := h
    refine z_getR fl_X2_11 rfl dX2_lengthOf_16 q3 ?_
    refine z_iload 3 dX2_lengthOf_19 rfl ?_
    obtain ⟨b4, eb4, h⟩ := h
    rw [eb4]
    obtain ⟨q5, h⟩ := h
    obtain ⟨q6, h⟩ := h
    obtain ⟨q7, h⟩ := h
    refine z_aald dX2_lengthOf_21 (n := (zK M b4).2) rfl q5 q6 q7 ?_
    obtain ⟨b8, eb8, h⟩ := h
    rw [eb8]
    obtain ⟨q9, h⟩ := h
    refine z_getL fl_X2_35 dX2_lengthOf_22 q9 ?_
    refine z_land dX2_lengthOf_25 ?_
    refine z_lconst (v := 0) dX2_lengthOf_26 rfl ?_
    refine z_lcmp dX2_lengthOf_27 ?_
    refine z_if_eq (tgt := 44) dX2_lengthOf_28 (by decide) (fun q10 => ?_) (fun q10 => ?_)
    · have h := h.1 q10
      obtain ⟨q11, h⟩ := h
      refine z_iinc 3 dX2_lengthOf_44 rfl (by decide) q11 rfl ?_
      refine z_goto (tgt := 5) dX2_lengthOf_47 (by decide) ?_
      exact z_sub [1, 2, 3, 0] rfl h
    · have h := h.2 q10
      refine z_iload_n 2 dX2_lengthOf_31 rfl ?_
      refine z_aload_n 0 dX2_lengthOf_32 rfl ?_
      obtain ⟨q12, h⟩ := h
      refine z_getR fl_X2_11 rfl dX2_lengthOf_33 q12 ?_
      rw [eb4]
      refine z_iload 3 dX2_lengthOf_36 rfl ?_
      obtain ⟨q13, h⟩ := h
      obtain ⟨q14, h⟩ := h
      obtain ⟨q15, h⟩ := h
      refine z_aald dX2_lengthOf_38 (n := (zK M b4).2) rfl q13 q14 q15 ?_
      rw [eb8]
      obtain ⟨q16, h⟩ := h
      refine z_getI fl_X2_93 dX2_lengthOf_39 q16 ?_
      obtain ⟨q17, h⟩ := h
      refine z_iadd dX2_lengthOf_42 q17 ?_
      refine z_istore_n dX2_lengthOf_43 (by decide) rfl ?_
      obtain ⟨q18, h⟩ := h
      refine z_iinc 3 dX2_lengthOf_44 rfl (by decide) q18 rfl ?_
      refine z_goto (tgt := 5) dX2_lengthOf_47 (by decide) ?_
      exact z_sub [2, 3, 1, 0] rfl h
theorem sX2_lengthOf {E : zE} {d : Nat} {P : Int → zM → Prop} {M : zM} (a0 : Nat) (l1 : Int64) (h : ∀ X : zX, (xh X).sig.returnType = (some .int) → ZX2_lengthOf E d X P 0 [(0, vR (some a0)), (1, vL l1)] [] M 0 0) : zCi E mX2_lengthOf (d + 1) 0 0 [vR (some a0), vL l1] M P := z_start (f := mX2_lengthOf) rfl (Nat.le_of_ble_eq_true rfl) rfl h
