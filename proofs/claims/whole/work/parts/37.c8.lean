/-! ===== the class: answers that change nothing ===== -/
theorem first_no {Y : yS} {w f : Int} (h : ∀ s, ¬ yMay Y w s) : yFirst Y w f = -1 := ylst_no (fun s _ _ => h s)
theorem first_eq {c : Int} {Y : yS} (hi : yInv c Y) {w s : Int} (h0 : 0 ≤ s) : yFirst Y w s = s ↔ yMay Y w s := by
  constructor
  · intro e
    have := (first_may hi (w := w) (f := s) (by omega)).1
    rw [e] at this
    exact this
  · intro m
    have hl := yI_w hi m.1.1 m.1.2
    have a3 := m.2.2.1
    have a4 := m.2.2.2.1
    unfold yFirst
    have e : pif (s ≤ Y 0 0) (Y 0 0) s = s := by
      by_cases q : s ≤ Y 0 0
      · rw [pif_t q]; omega
      · rw [pif_f q]
    rw [e]
    exact ylst_t (by omega) m
theorem acy_nn {Y : yS} (ha : yAcy Y) {w : Int} (hw : yWk Y w) : ¬ yNd Y w w := fun z => ha w hw (hang_nd hw z)
theorem r0_ne {Y : yS} {w : Int} : yR0 Y w ≠ -1 ↔ yBad Y w := by
  unfold yR0 yBad
  rw [ylst_ne (by omega)]
  exact ⟨fun ⟨s, a, b, e⟩ => ⟨s, a, by omega, e⟩, fun ⟨s, a, b, e⟩ => ⟨s, a, by omega, e⟩⟩
theorem r0_b {Y : yS} {w : Int} (h : yR0 Y w ≠ -1) : 1 ≤ yR0 Y w ∧ yR0 Y w ≤ 5 := by
  unfold yR0 at *
  rcases ylst_spec (fun r => yBreaks Y w r ≠ -1) 5 1 6 (by omega) with ⟨e, _⟩ | ⟨e1, e2, _⟩
  · exact absurd e h
  · omega
theorem ysum_not {P : Int → Prop} {n : Int} (h0 : 0 ≤ n) : ysum (fun k => p2i (¬ P k)) n = n - ysum (fun k => p2i (P k)) n := by
  have key : ∀ m : Nat, ysumN (fun k => p2i (¬ P k)) m = m - ysumN (fun k => p2i (P k)) m := by
    intro m
    induction m with
    | zero => rfl
    | succ m ih =>
      show ysumN (fun k => p2i (¬ P k)) m + p2i (¬ P m) = ((m + 1 : Nat) : Int) - (ysumN (fun k => p2i (P k)) m + p2i (P m))
      rw [ih]
      by_cases q : P m
      · rw [p2i_t q, p2i_f (fun z => z q)]; omega
      · rw [p2i_f q, p2i_t q]; omega
  unfold ysum
  rw [key]
  omega
section C8
variable {E : zE} {d x : Nat} {wa : Int → Nat} {M : zM} {V Y : yS} {L : yL} {c : Int}
theorem k_first (h : kR x wa M V L Y) (hi : yInv c Y) (ha : yAcy Y) (w f : Int) : zCi E mX6_first (d + 5) 0 0 [vR (some x), vI w, vI f] M (fun r M' => r = yFirst Y w f ∧ M' = M) := by
  refine sX6_first _ _ _ (fun X hr => vX6_first_0 hr _ _ _ ?_)
  simp only [kk0 h.1, kk1 h.1, kk2 h.1, kk3 h.1, kk4 h.1, kk5 h.1, kk6 h.1, kk7 h.1, kk8 h.1, kk9 h.1, kk10 h.1, kk11 h.1, kk12 h.1, kk13 h.1, kk14 h.1, kk15 h.1, kk16 h.1, kk17 h.1, kk18 h.1, kk19 h.1, kk20 h.1, kk21 h.1, kr0_0 h.1, kr0_1 h.1, kr0_2 h.1, kr0_3 h.1, kr0_4 h.1, kr1_0 h.1, kr1_1 h.1, kr1_2 h.1, kr5_0 h.1, kr5_1 h.1, kr5_2 h.1, kr5_3 h.1, kr10_0 h.1, kr10_1 h.1, kr17_0 h.1, kr17_1 h.1, kr17_2 h.1, kr17_3 h.1, kr17_4 h.1, kr20_0 h.1, kr20_1 h.1, kr20_2 h.1, kr20_3 h.1, ki1 h.2.1, ki2 h.2.1, ki3 h.2.1, ki4 h.2.1, ki5 h.2.1, ki7 h.2.1, kl8 h.2.1, kl9 h.2.1, ki10 h.2.1, kl11 h.2.1, ki13 h.2.1, ki14 h.2.1, ki15 h.2.1, ki16 h.2.1, ki17 h.2.1, ki18 h.2.1, ki19 h.2.1, ki20 h.2.1, ki21 h.2.1, Option.some.injEq, exists_eq_left', true_and, rs13 h.2.2, rs14 h.2.2, rs54 h.2.2, rs102 h.2.2, rg2 h.2.2, rg18 h.2.2, rg19 h.2.2]
  refine zur (k_find h hi w) ?_
  by_cases q : yWk Y w
  · rw [pif_t q]
    refine ⟨fun z => (by cases z), fun _ => ?_⟩
    simp only [kk0 h.1, kk1 h.1, kk2 h.1, kk3 h.1, kk4 h.1, kk5 h.1, kk6 h.1, kk7 h.1, kk8 h.1, kk9 h.1, kk10 h.1, kk11 h.1, kk12 h.1, kk13 h.1, kk14 h.1, kk15 h.1, kk16 h.1, kk17 h.1, kk18 h.1, kk19 h.1, kk20 h.1, kk21 h.1, kr0_0 h.1, kr0_1 h.1, kr0_2 h.1, kr0_3 h.1, kr0_4 h.1, kr1_0 h.1, kr1_1 h.1, kr1_2 h.1, kr5_0 h.1, kr5_1 h.1, kr5_2 h.1, kr5_3 h.1, kr10_0 h.1, kr10_1 h.1, kr17_0 h.1, kr17_1 h.1, kr17_2 h.1, kr17_3 h.1, kr17_4 h.1, kr20_0 h.1, kr20_1 h.1, kr20_2 h.1, kr20_3 h.1, ki1 h.2.1, ki2 h.2.1, ki3 h.2.1, ki4 h.2.1, ki5 h.2.1, ki7 h.2.1, kl8 h.2.1, kl9 h.2.1, ki10 h.2.1, kl11 h.2.1, ki13 h.2.1, ki14 h.2.1, ki15 h.2.1, ki16 h.2.1, ki17 h.2.1, ki18 h.2.1, ki19 h.2.1, ki20 h.2.1, ki21 h.2.1, Option.some.injEq, exists_eq_left', true_and, rs13 h.2.2, rs14 h.2.2, rs54 h.2.2, rs102 h.2.2, rg2 h.2.2, rg18 h.2.2, rg19 h.2.2, kwR h.1 q.1 q.2, kwK h.1 q.1 q.2, kwi0 h.2.1 q.1 q.2, kwl1 h.2.1 q.1 q.2, kwi2 h.2.1 q.1 q.2, kwi3 h.2.1 q.1 q.2, kwi4 h.2.1 q.1 q.2, kwi5 h.2.1 q.1 q.2, kwi6 h.2.1 q.1 q.2, kwi7 h.2.1 q.1 q.2, kwi8 h.2.1 q.1 q.2, kwi9 h.2.1 q.1 q.2, kwi10 h.2.1 q.1 q.2, kwi11 h.2.1 q.1 q.2, kwl12 h.2.1 q.1 q.2, kwl13 h.2.1 q.1 q.2, kwl14 h.2.1 q.1 q.2, kwl15 h.2.1 q.1 q.2, rw22 h.2.2 q, rw23 h.2.2 q, rw24 h.2.2 q, rw25 h.2.2 q, rw26 h.2.2 q, rw27 h.2.2 q, rw28 h.2.2 q, rw29 h.2.2 q, rw30 h.2.2 q, rw31 h.2.2 q, rw32 h.2.2 q, rw33 h.2.2 q]
    refine zu (k_hasBegun (kwK h.1 q.1 q.2) _) ?_
    simp only [kk0 h.1, kk1 h.1, kk2 h.1, kk3 h.1, kk4 h.1, kk5 h.1, kk6 h.1, kk7 h.1, kk8 h.1, kk9 h.1, kk10 h.1, kk11 h.1, kk12 h.1, kk13 h.1, kk14 h.1, kk15 h.1, kk16 h.1, kk17 h.1, kk18 h.1, kk19 h.1, kk20 h.1, kk21 h.1, kr0_0 h.1, kr0_1 h.1, kr0_2 h.1, kr0_3 h.1, kr0_4 h.1, kr1_0 h.1, kr1_1 h.1, kr1_2 h.1, kr5_0 h.1, kr5_1 h.1, kr5_2 h.1, kr5_3 h.1, kr10_0 h.1, kr10_1 h.1, kr17_0 h.1, kr17_1 h.1, kr17_2 h.1, kr17_3 h.1, kr17_4 h.1, kr20_0 h.1, kr20_1 h.1, kr20_2 h.1, kr20_3 h.1, ki1 h.2.1, ki2 h.2.1, ki3 h.2.1, ki4 h.2.1, ki5 h.2.1, ki7 h.2.1, kl8 h.2.1, kl9 h.2.1, ki10 h.2.1, kl11 h.2.1, ki13 h.2.1, ki14 h.2.1, ki15 h.2.1, ki16 h.2.1, ki17 h.2.1, ki18 h.2.1, ki19 h.2.1, ki20 h.2.1, ki21 h.2.1, Option.some.injEq, exists_eq_left', true_and, rs13 h.2.2, rs14 h.2.2, rs54 h.2.2, rs102 h.2.2, rg2 h.2.2, rg18 h.2.2, rg19 h.2.2, kwR h.1 q.1 q.2, kwK h.1 q.1 q.2, kwi0 h.2.1 q.1 q.2, kwl1 h.2.1 q.1 q.2, kwi2 h.2.1 q.1 q.2, kwi3 h.2.1 q.1 q.2, kwi4 h.2.1 q.1 q.2, kwi5 h.2.1 q.1 q.2, kwi6 h.2.1 q.1 q.2, kwi7 h.2.1 q.1 q.2, kwi8 h.2.1 q.1 q.2, kwi9 h.2.1 q.1 q.2, kwi10 h.2.1 q.1 q.2, kwi11 h.2.1 q.1 q.2, kwl12 h.2.1 q.1 q.2, kwl13 h.2.1 q.1 q.2, kwl14 h.2.1 q.1 q.2, kwl15 h.2.1 q.1 q.2, rw22 h.2.2 q, rw23 h.2.2 q, rw24 h.2.2 q, rw25 h.2.2 q, rw26 h.2.2 q, rw27 h.2.2 q, rw28 h.2.2 q, rw29 h.2.2 q, rw30 h.2.2 q, rw31 h.2.2 q, rw32 h.2.2 q, rw33 h.2.2 q]
    refine ⟨fun z => zu (k_firstPlace h hi q (p2i_0.mp z) (acy_nn ha q) f) ⟨rfl, rfl⟩, fun z => ⟨(first_no (fun s m => m.2.1 (p2i_n0.mp z))).symm, by trivial⟩⟩
  · rw [pif_f q]
    exact ⟨fun _ => ⟨(first_no (fun s m => q m.1)).symm, rfl⟩, fun z => absurd rfl z⟩
theorem k_may (h : kR x wa M V L Y) (hi : yInv c Y) (ha : yAcy Y) (w s : Int) : zCi E mX6_may (d + 6) 0 0 [vR (some x), vI w, vI s] M (fun r M' => r = p2i (yMay Y w s) ∧ M' = M) := by
  refine sX6_may _ _ _ (fun X hr => vX6_may_0 hr _ _ _ ?_)
  have hn := yI_now hi
  refine ⟨fun q => ⟨p2i_z0 (fun m => by have := m.2.2.1; omega), rfl⟩, fun q => ⟨kk0 h.1, zu (k_first h hi ha w s) ⟨fun z => ⟨p2i_z0 (fun m => z ((first_eq hi q).mpr m)), rfl⟩, fun z => ⟨p2i_z1 ((first_eq hi q).mp z), rfl⟩⟩⟩⟩
theorem k_partOfBreak (h : kR x wa M V L Y) (hi : yInv c Y) {w r : Int} (hw : yWk Y w) (r0 : 1 ≤ r) (r1 : r ≤ 5) (u : Int) : zCi E mX6_partOfBreak (d + 5) 0 0 [vR (some x), vR (some (wa w)), vI r, vI u] M (fun v M' => v = pif (u = 0) w (pif (u = 1) r (pif (u = 2) (pif (yPut Y w) (yBreaks Y w r) (-1)) (-1))) ∧ M' = M) := by
  refine sX6_partOfBreak _ _ _ _ (fun X hr => vX6_partOfBreak_0 hr _ _ _ _ ?_)
  simp only [kk0 h.1, kk1 h.1, kk2 h.1, kk3 h.1, kk4 h.1, kk5 h.1, kk6 h.1, kk7 h.1, kk8 h.1, kk9 h.1, kk10 h.1, kk11 h.1, kk12 h.1, kk13 h.1, kk14 h.1, kk15 h.1, kk16 h.1, kk17 h.1, kk18 h.1, kk19 h.1, kk20 h.1, kk21 h.1, kr0_0 h.1, kr0_1 h.1, kr0_2 h.1, kr0_3 h.1, kr0_4 h.1, kr1_0 h.1, kr1_1 h.1, kr1_2 h.1, kr5_0 h.1, kr5_1 h.1, kr5_2 h.1, kr5_3 h.1, kr10_0 h.1, kr10_1 h.1, kr17_0 h.1, kr17_1 h.1, kr17_2 h.1, kr17_3 h.1, kr17_4 h.1, kr20_0 h.1, kr20_1 h.1, kr20_2 h.1, kr20_3 h.1, ki1 h.2.1, ki2 h.2.1, ki3 h.2.1, ki4 h.2.1, ki5 h.2.1, ki7 h.2.1, kl8 h.2.1, kl9 h.2.1, ki10 h.2.1, kl11 h.2.1, ki13 h.2.1, ki14 h.2.1, ki15 h.2.1, ki16 h.2.1, ki17 h.2.1, ki18 h.2.1, ki19 h.2.1, ki20 h.2.1, ki21 h.2.1, Option.some.injEq, exists_eq_left', true_and, rs13 h.2.2, rs14 h.2.2, rs54 h.2.2, rs102 h.2.2, rg2 h.2.2, rg18 h.2.2, rg19 h.2.2, kwR h.1 hw.1 hw.2, kwK h.1 hw.1 hw.2, kwi0 h.2.1 hw.1 hw.2, kwl1 h.2.1 hw.1 hw.2, kwi2 h.2.1 hw.1 hw.2, kwi3 h.2.1 hw.1 hw.2, kwi4 h.2.1 hw.1 hw.2, kwi5 h.2.1 hw.1 hw.2, kwi6 h.2.1 hw.1 hw.2, kwi7 h.2.1 hw.1 hw.2, kwi8 h.2.1 hw.1 hw.2, kwi9 h.2.1 hw.1 hw.2, kwi10 h.2.1 hw.1 hw.2, kwi11 h.2.1 hw.1 hw.2, kwl12 h.2.1 hw.1 hw.2, kwl13 h.2.1 hw.1 hw.2, kwl14 h.2.1 hw.1 hw.2, kwl15 h.2.1 hw.1 hw.2, rw22 h.2.2 hw, rw23 h.2.2 hw, rw24 h.2.2 hw, rw25 h.2.2 hw, rw26 h.2.2 hw, rw27 h.2.2 hw, rw28 h.2.2 hw, rw29 h.2.2 hw, rw30 h.2.2 hw, rw31 h.2.2 hw, rw32 h.2.2 hw, rw33 h.2.2 hw]
  refine ⟨fun q => ⟨(pif_t q).symm, by trivial⟩, fun q => ⟨?_, by trivial⟩, fun q => zu (k_leastShift h hi hw r0 r1) ⟨?_, rfl⟩, fun q => ⟨?_, by trivial⟩⟩
  · rw [pif_f (by omega), pif_t q]
  · rw [pif_f (p := u = 0) (by omega), pif_f (p := u = 1) (by omega), pif_t q]
  · rw [pif_f (by omega), pif_f (by omega), pif_f (by omega)]
theorem k_why (h : kR x wa M V L Y) (hi : yInv c Y) (u : Int) : zCi E mX6_why (d + 6) 0 0 [vR (some x), vI u] M (fun r M' => r = whyR Y u ∧ M' = M) := by
  refine sX6_why _ _ (fun X hr => vX6_why_0 hr _ _ ?_)
  have h8 := yI_n hi
  have key : ∀ k : Int, 0 ≤ k → ylst (yBw Y) k (Y 8 0) = yW0 Y → ZX6_why E (d + 5) X (fun r M' => r = whyR Y u ∧ M' = M) 2 [(0, vR (some x)), (1, vI u), (2, vI k)] [] M 0 0 := by
    refine zdownI (n := Y 8 0) (fun k hk hk0 he => ?_) (fun k hk0 hk ih he => ?_)
    · refine vX6_why_2 hr _ _ _ ?_
      simp only [kk0 h.1, kk1 h.1, kk2 h.1, kk3 h.1, kk4 h.1, kk5 h.1, kk6 h.1, kk7 h.1, kk8 h.1, kk9 h.1, kk10 h.1, kk11 h.1, kk12 h.1, kk13 h.1, kk14 h.1, kk15 h.1, kk16 h.1, kk17 h.1, kk18 h.1, kk19 h.1, kk20 h.1, kk21 h.1, kr0_0 h.1, kr0_1 h.1, kr0_2 h.1, kr0_3 h.1, kr0_4 h.1, kr1_0 h.1, kr1_1 h.1, kr1_2 h.1, kr5_0 h.1, kr5_1 h.1, kr5_2 h.1, kr5_3 h.1, kr10_0 h.1, kr10_1 h.1, kr17_0 h.1, kr17_1 h.1, kr17_2 h.1, kr17_3 h.1, kr17_4 h.1, kr20_0 h.1, kr20_1 h.1, kr20_2 h.1, kr20_3 h.1, ki1 h.2.1, ki2 h.2.1, ki3 h.2.1, ki4 h.2.1, ki5 h.2.1, ki7 h.2.1, kl8 h.2.1, kl9 h.2.1, ki10 h.2.1, kl11 h.2.1, ki13 h.2.1, ki14 h.2.1, ki15 h.2.1, ki16 h.2.1, ki17 h.2.1, ki18 h.2.1, ki19 h.2.1, ki20 h.2.1, ki21 h.2.1, Option.some.injEq, exists_eq_left', true_and, rs13 h.2.2, rs14 h.2.2, rs54 h.2.2, rs102 h.2.2, rg2 h.2.2, rg18 h.2.2, rg19 h.2.2]
      refine ⟨fun _ => ⟨?_, by trivial⟩, fun q => by omega⟩
      rw [ylst_n hk] at he
      unfold whyR
      by_cases q : 0 ≤ u ∧ u ≤ 2
      · rw [pif_t q, pif_t he.symm]
      · rw [pif_f q]
    · have hm : yWk Y k := ⟨hk0, hk⟩
      refine vX6_why_2 hr _ _ _ ?_
      simp only [kk0 h.1, kk1 h.1, kk2 h.1, kk3 h.1, kk4 h.1, kk5 h.1, kk6 h.1, kk7 h.1, kk8 h.1, kk9 h.1, kk10 h.1, kk11 h.1, kk12 h.1, kk13 h.1, kk14 h.1, kk15 h.1, kk16 h.1, kk17 h.1, kk18 h.1, kk19 h.1, kk20 h.1, kk21 h.1, kr0_0 h.1, kr0_1 h.1, kr0_2 h.1, kr0_3 h.1, kr0_4 h.1, kr1_0 h.1, kr1_1 h.1, kr1_2 h.1, kr5_0 h.1, kr5_1 h.1, kr5_2 h.1, kr5_3 h.1, kr10_0 h.1, kr10_1 h.1, kr17_0 h.1, kr17_1 h.1, kr17_2 h.1, kr17_3 h.1, kr17_4 h.1, kr20_0 h.1, kr20_1 h.1, kr20_2 h.1, kr20_3 h.1, ki1 h.2.1, ki2 h.2.1, ki3 h.2.1, ki4 h.2.1, ki5 h.2.1, ki7 h.2.1, kl8 h.2.1, kl9 h.2.1, ki10 h.2.1, kl11 h.2.1, ki13 h.2.1, ki14 h.2.1, ki15 h.2.1, ki16 h.2.1, ki17 h.2.1, ki18 h.2.1, ki19 h.2.1, ki20 h.2.1, ki21 h.2.1, Option.some.injEq, exists_eq_left', true_and, rs13 h.2.2, rs14 h.2.2, rs54 h.2.2, rs102 h.2.2, rg2 h.2.2, rg18 h.2.2, rg19 h.2.2, kwR h.1 hm.1 hm.2, kwK h.1 hm.1 hm.2, kwi0 h.2.1 hm.1 hm.2, kwl1 h.2.1 hm.1 hm.2, kwi2 h.2.1 hm.1 hm.2, kwi3 h.2.1 hm.1 hm.2, kwi4 h.2.1 hm.1 hm.2, kwi5 h.2.1 hm.1 hm.2, kwi6 h.2.1 hm.1 hm.2, kwi7 h.2.1 hm.1 hm.2, kwi8 h.2.1 hm.1 hm.2, kwi9 h.2.1 hm.1 hm.2, kwi10 h.2.1 hm.1 hm.2, kwi11 h.2.1 hm.1 hm.2, kwl12 h.2.1 hm.1 hm.2, kwl13 h.2.1 hm.1 hm.2, kwl14 h.2.1 hm.1 hm.2, kwl15 h.2.1 hm.1 hm.2, rw22 h.2.2 hm, rw23 h.2.2 hm, rw24 h.2.2 hm, rw25 h.2.2 hm, rw26 h.2.2 hm, rw27 h.2.2 hm, rw28 h.2.2 hm, rw29 h.2.2 hm, rw30 h.2.2 hm, rw31 h.2.2 hm, rw32 h.2.2 hm, rw33 h.2.2 hm]
      refine ⟨fun q => by omega, fun _ => ⟨by trivial, hk0, by omega, zu (k_leastBroken h hi hm) ⟨fun q => ⟨by unfold zin; omega, ih ?_⟩, fun q => ?_⟩⟩⟩
      · rw [← he, ylst_f hk]
        rintro ⟨z1, z2⟩
        rw [pif_t z1] at q
        exact (r0_ne.mpr z2) q
      · have p : yPut Y k := Classical.byContradiction fun p => q (pif_f p)
        rw [pif_t p] at q ⊢
        have b := r0_b q
        have ew : yW0 Y = k := by rw [← he, ylst_t hk ⟨p, r0_ne.mp q⟩]
        refine ⟨kk0 h.1, zu (k_partOfBreak h hi hm b.1 b.2 u) ⟨?_, rfl⟩⟩
        rw [pif_t p]
        unfold whyR
        rw [ew]
        have hne : ¬ k = -1 := by omega
        by_cases z : 0 ≤ u ∧ u ≤ 2
        · rw [pif_t z, pif_f hne]
          by_cases z0 : u = 0
          · rw [pif_t z0, pif_t z0]
          · rw [pif_f z0, pif_f z0]
            by_cases z1 : u = 1
            · rw [pif_t z1, pif_t z1]
            · rw [pif_f z1, pif_f z1, pif_t (by omega)]
        · rw [pif_f z, pif_f (by omega), pif_f (by omega), pif_f (by omega)]
  exact key 0 (by omega) rfl
theorem k_end (h : kR x wa M V L Y) (hi : yInv c Y) : zCi E mX6_end (d + 2) 0 0 [vR (some x)] M (fun r M' => r = endR Y ∧ M' = M) := by
  refine sX6_end _ (fun X hr => vX6_end_0 hr _ ?_)
  have h8 := yI_n hi
  have key : ∀ k : Int, 0 ≤ k → k ≤ Y 8 0 → ∀ v, v = yfold (fun v w => pif (yPut Y w ∧ v < yEnd Y w) (yEnd Y w) v) 0 k → ZX6_end E (d + 1) X (fun r M' => r = endR Y ∧ M' = M) 4 [(0, vR (some x)), (1, vI v), (2, vI k)] [] M 0 0 := by
    refine zdownI (n := Y 8 0) (fun k hk hk0 hk2 v hv => ?_) (fun k hk0 hk ih hk2 v hv => ?_)
    · have hk : k = Y 8 0 := by omega
      subst hk
      refine vX6_end_4 hr _ _ _ ?_
      simp only [kk0 h.1, kk1 h.1, kk2 h.1, kk3 h.1, kk4 h.1, kk5 h.1, kk6 h.1, kk7 h.1, kk8 h.1, kk9 h.1, kk10 h.1, kk11 h.1, kk12 h.1, kk13 h.1, kk14 h.1, kk15 h.1, kk16 h.1, kk17 h.1, kk18 h.1, kk19 h.1, kk20 h.1, kk21 h.1, kr0_0 h.1, kr0_1 h.1, kr0_2 h.1, kr0_3 h.1, kr0_4 h.1, kr1_0 h.1, kr1_1 h.1, kr1_2 h.1, kr5_0 h.1, kr5_1 h.1, kr5_2 h.1, kr5_3 h.1, kr10_0 h.1, kr10_1 h.1, kr17_0 h.1, kr17_1 h.1, kr17_2 h.1, kr17_3 h.1, kr17_4 h.1, kr20_0 h.1, kr20_1 h.1, kr20_2 h.1, kr20_3 h.1, ki1 h.2.1, ki2 h.2.1, ki3 h.2.1, ki4 h.2.1, ki5 h.2.1, ki7 h.2.1, kl8 h.2.1, kl9 h.2.1, ki10 h.2.1, kl11 h.2.1, ki13 h.2.1, ki14 h.2.1, ki15 h.2.1, ki16 h.2.1, ki17 h.2.1, ki18 h.2.1, ki19 h.2.1, ki20 h.2.1, ki21 h.2.1, Option.some.injEq, exists_eq_left', true_and, rs13 h.2.2, rs14 h.2.2, rs54 h.2.2, rs102 h.2.2, rg2 h.2.2, rg18 h.2.2, rg19 h.2.2]
      exact ⟨fun _ => ⟨hv, by trivial⟩, fun q => by omega⟩
    · have ih := ih (by omega)
      have hm : yWk Y k := ⟨hk0, hk⟩
      refine vX6_end_4 hr _ _ _ ?_
      simp only [kk0 h.1, kk1 h.1, kk2 h.1, kk3 h.1, kk4 h.1, kk5 h.1, kk6 h.1, kk7 h.1, kk8 h.1, kk9 h.1, kk10 h.1, kk11 h.1, kk12 h.1, kk13 h.1, kk14 h.1, kk15 h.1, kk16 h.1, kk17 h.1, kk18 h.1, kk19 h.1, kk20 h.1, kk21 h.1, kr0_0 h.1, kr0_1 h.1, kr0_2 h.1, kr0_3 h.1, kr0_4 h.1, kr1_0 h.1, kr1_1 h.1, kr1_2 h.1, kr5_0 h.1, kr5_1 h.1, kr5_2 h.1, kr5_3 h.1, kr10_0 h.1, kr10_1 h.1, kr17_0 h.1, kr17_1 h.1, kr17_2 h.1, kr17_3 h.1, kr17_4 h.1, kr20_0 h.1, kr20_1 h.1, kr20_2 h.1, kr20_3 h.1, ki1 h.2.1, ki2 h.2.1, ki3 h.2.1, ki4 h.2.1, ki5 h.2.1, ki7 h.2.1, kl8 h.2.1, kl9 h.2.1, ki10 h.2.1, kl11 h.2.1, ki13 h.2.1, ki14 h.2.1, ki15 h.2.1, ki16 h.2.1, ki17 h.2.1, ki18 h.2.1, ki19 h.2.1, ki20 h.2.1, ki21 h.2.1, Option.some.injEq, exists_eq_left', true_and, rs13 h.2.2, rs14 h.2.2, rs54 h.2.2, rs102 h.2.2, rg2 h.2.2, rg18 h.2.2, rg19 h.2.2, kwR h.1 hm.1 hm.2, kwK h.1 hm.1 hm.2, kwi0 h.2.1 hm.1 hm.2, kwl1 h.2.1 hm.1 hm.2, kwi2 h.2.1 hm.1 hm.2, kwi3 h.2.1 hm.1 hm.2, kwi4 h.2.1 hm.1 hm.2, kwi5 h.2.1 hm.1 hm.2, kwi6 h.2.1 hm.1 hm.2, kwi7 h.2.1 hm.1 hm.2, kwi8 h.2.1 hm.1 hm.2, kwi9 h.2.1 hm.1 hm.2, kwi10 h.2.1 hm.1 hm.2, kwi11 h.2.1 hm.1 hm.2, kwl12 h.2.1 hm.1 hm.2, kwl13 h.2.1 hm.1 hm.2, kwl14 h.2.1 hm.1 hm.2, kwl15 h.2.1 hm.1 hm.2, rw22 h.2.2 hm, rw23 h.2.2 hm, rw24 h.2.2 hm, rw25 h.2.2 hm, rw26 h.2.2 hm, rw27 h.2.2 hm, rw28 h.2.2 hm, rw29 h.2.2 hm, rw30 h.2.2 hm, rw31 h.2.2 hm, rw32 h.2.2 hm, rw33 h.2.2 hm]
      refine ⟨fun q => by omega, fun _ => ⟨by trivial, hk0, by omega, zu (k_isOpen (kwK h.1 hm.1 hm.2)) ?_⟩⟩
      simp only [kk0 h.1, kk1 h.1, kk2 h.1, kk3 h.1, kk4 h.1, kk5 h.1, kk6 h.1, kk7 h.1, kk8 h.1, kk9 h.1, kk10 h.1, kk11 h.1, kk12 h.1, kk13 h.1, kk14 h.1, kk15 h.1, kk16 h.1, kk17 h.1, kk18 h.1, kk19 h.1, kk20 h.1, kk21 h.1, kr0_0 h.1, kr0_1 h.1, kr0_2 h.1, kr0_3 h.1, kr0_4 h.1, kr1_0 h.1, kr1_1 h.1, kr1_2 h.1, kr5_0 h.1, kr5_1 h.1, kr5_2 h.1, kr5_3 h.1, kr10_0 h.1, kr10_1 h.1, kr17_0 h.1, kr17_1 h.1, kr17_2 h.1, kr17_3 h.1, kr17_4 h.1, kr20_0 h.1, kr20_1 h.1, kr20_2 h.1, kr20_3 h.1, ki1 h.2.1, ki2 h.2.1, ki3 h.2.1, ki4 h.2.1, ki5 h.2.1, ki7 h.2.1, kl8 h.2.1, kl9 h.2.1, ki10 h.2.1, kl11 h.2.1, ki13 h.2.1, ki14 h.2.1, ki15 h.2.1, ki16 h.2.1, ki17 h.2.1, ki18 h.2.1, ki19 h.2.1, ki20 h.2.1, ki21 h.2.1, Option.some.injEq, exists_eq_left', true_and, rs13 h.2.2, rs14 h.2.2, rs54 h.2.2, rs102 h.2.2, rg2 h.2.2, rg18 h.2.2, rg19 h.2.2, kwR h.1 hm.1 hm.2, kwK h.1 hm.1 hm.2, kwi0 h.2.1 hm.1 hm.2, kwl1 h.2.1 hm.1 hm.2, kwi2 h.2.1 hm.1 hm.2, kwi3 h.2.1 hm.1 hm.2, kwi4 h.2.1 hm.1 hm.2, kwi5 h.2.1 hm.1 hm.2, kwi6 h.2.1 hm.1 hm.2, kwi7 h.2.1 hm.1 hm.2, kwi8 h.2.1 hm.1 hm.2, kwi9 h.2.1 hm.1 hm.2, kwi10 h.2.1 hm.1 hm.2, kwi11 h.2.1 hm.1 hm.2, kwl12 h.2.1 hm.1 hm.2, kwl13 h.2.1 hm.1 hm.2, kwl14 h.2.1 hm.1 hm.2, kwl15 h.2.1 hm.1 hm.2, rw22 h.2.2 hm, rw23 h.2.2 hm, rw24 h.2.2 hm, rw25 h.2.2 hm, rw26 h.2.2 hm, rw27 h.2.2 hm, rw28 h.2.2 hm, rw29 h.2.2 hm, rw30 h.2.2 hm, rw31 h.2.2 hm, rw32 h.2.2 hm, rw33 h.2.2 hm]
      refine ⟨fun q => ⟨by unfold zin; omega, ih _ ?_⟩, fun q => zu (k_behind (v := yEnd Y k) (kwK h.1 hm.1 hm.2) (yB_b hi hm) (by simp only [kwR h.1 hm.1 hm.2, kwK h.1 hm.1 hm.2, kwi0 h.2.1 hm.1 hm.2, kwl1 h.2.1 hm.1 hm.2, kwi2 h.2.1 hm.1 hm.2, kwi3 h.2.1 hm.1 hm.2, kwi4 h.2.1 hm.1 hm.2, kwi5 h.2.1 hm.1 hm.2, kwi6 h.2.1 hm.1 hm.2, kwi7 h.2.1 hm.1 hm.2, kwi8 h.2.1 hm.1 hm.2, kwi9 h.2.1 hm.1 hm.2, kwi10 h.2.1 hm.1 hm.2, kwi11 h.2.1 hm.1 hm.2, kwl12 h.2.1 hm.1 hm.2, kwl13 h.2.1 hm.1 hm.2, kwl14 h.2.1 hm.1 hm.2, kwl15 h.2.1 hm.1 hm.2, rw22 h.2.2 hm, rw23 h.2.2 hm, rw24 h.2.2 hm, rw25 h.2.2 hm, rw26 h.2.2 hm, rw27 h.2.2 hm, rw28 h.2.2 hm, rw29 h.2.2 hm, rw30 h.2.2 hm, rw31 h.2.2 hm, rw32 h.2.2 hm, rw33 h.2.2 hm]; rfl)) ⟨by unfold zin; omega, ih _ ?_⟩⟩
      · rw [yfold_s hk0, ← hv]
        exact (pif_f (fun z => z.1 (p2i_n0.mp q))).symm
      · rw [yfold_s hk0, ← hv]
        have p : yPut Y k := p2i_0.mp q
        by_cases z : v < yEnd Y k
        · rw [pif_t ⟨p, z⟩]; omega
        · rw [pif_f (fun z2 => z z2.2)]; omega
  exact key 0 (by omega) (by omega) 0 rfl
theorem k_load (h : kR x wa M V L Y) (hi : yInv c Y) (s u : Int) : zCi E mX6_load (d + 2) 0 0 [vR (some x), vI s, vI u] M (fun r M' => r = loadR Y s u ∧ M' = M) := by
  refine sX6_load _ _ _ (fun X hr => vX6_load_0 hr _ _ _ ?_)
  have h8 := yI_n hi
  have no : ¬ ((0 ≤ s ∧ s ≤ 399) ∧ (0 ≤ u ∧ u ≤ 8)) → (-1 : Int) = loadR Y s u := fun q => by unfold loadR; rw [pif_f q]
  refine ⟨fun q => ⟨no (by omega), rfl⟩, fun s0 => ⟨fun q => ⟨no (by omega), rfl⟩, fun s1 => ⟨fun q => ⟨no (by omega), rfl⟩, fun u0 => ⟨fun u1 => ?_, fun q => ⟨no (by omega), rfl⟩⟩⟩⟩⟩
  have yes : loadR Y s u = ysum (yLd Y s u) (Y 8 0) := by unfold loadR; rw [pif_t ⟨⟨s0, by omega⟩, u0, u1⟩]
  rw [yes]
  refine ⟨fun u4 => ⟨fun u8 => ?_, fun u8 => ?_⟩, fun u4 => ?_⟩
  · simp only [kk0 h.1, kk1 h.1, kk2 h.1, kk3 h.1, kk4 h.1, kk5 h.1, kk6 h.1, kk7 h.1, kk8 h.1, kk9 h.1, kk10 h.1, kk11 h.1, kk12 h.1, kk13 h.1, kk14 h.1, kk15 h.1, kk16 h.1, kk17 h.1, kk18 h.1, kk19 h.1, kk20 h.1, kk21 h.1, kr0_0 h.1, kr0_1 h.1, kr0_2 h.1, kr0_3 h.1, kr0_4 h.1, kr1_0 h.1, kr1_1 h.1, kr1_2 h.1, kr5_0 h.1, kr5_1 h.1, kr5_2 h.1, kr5_3 h.1, kr10_0 h.1, kr10_1 h.1, kr17_0 h.1, kr17_1 h.1, kr17_2 h.1, kr17_3 h.1, kr17_4 h.1, kr20_0 h.1, kr20_1 h.1, kr20_2 h.1, kr20_3 h.1, ki1 h.2.1, ki2 h.2.1, ki3 h.2.1, ki4 h.2.1, ki5 h.2.1, ki7 h.2.1, kl8 h.2.1, kl9 h.2.1, ki10 h.2.1, kl11 h.2.1, ki13 h.2.1, ki14 h.2.1, ki15 h.2.1, ki16 h.2.1, ki17 h.2.1, ki18 h.2.1, ki19 h.2.1, ki20 h.2.1, ki21 h.2.1, Option.some.injEq, exists_eq_left', true_and, rs13 h.2.2, rs14 h.2.2, rs54 h.2.2, rs102 h.2.2, rg2 h.2.2, rg18 h.2.2, rg19 h.2.2]
    refine ⟨s0, by omega, zu (k_bitCount _) ⟨?_, rfl⟩⟩
    rw [zpop_s ((kRp_bd h.2.2).1 s s0 s1) h8.1 (by omega) (fun k z => z.1.2)]
    refine ysum_congr (fun k a b => ?_)
    unfold yLd
    by_cases z : yIn Y k s
    · rw [p2i_t ⟨⟨a, b⟩, z⟩, pif_t z, pif_f (by omega), pif_f (by omega)]
    · rw [p2i_f (fun z2 => z z2.2), pif_f z]
  · simp only [kk0 h.1, kk1 h.1, kk2 h.1, kk3 h.1, kk4 h.1, kk5 h.1, kk6 h.1, kk7 h.1, kk8 h.1, kk9 h.1, kk10 h.1, kk11 h.1, kk12 h.1, kk13 h.1, kk14 h.1, kk15 h.1, kk16 h.1, kk17 h.1, kk18 h.1, kk19 h.1, kk20 h.1, kk21 h.1, kr0_0 h.1, kr0_1 h.1, kr0_2 h.1, kr0_3 h.1, kr0_4 h.1, kr1_0 h.1, kr1_1 h.1, kr1_2 h.1, kr5_0 h.1, kr5_1 h.1, kr5_2 h.1, kr5_3 h.1, kr10_0 h.1, kr10_1 h.1, kr17_0 h.1, kr17_1 h.1, kr17_2 h.1, kr17_3 h.1, kr17_4 h.1, kr20_0 h.1, kr20_1 h.1, kr20_2 h.1, kr20_3 h.1, ki1 h.2.1, ki2 h.2.1, ki3 h.2.1, ki4 h.2.1, ki5 h.2.1, ki7 h.2.1, kl8 h.2.1, kl9 h.2.1, ki10 h.2.1, kl11 h.2.1, ki13 h.2.1, ki14 h.2.1, ki15 h.2.1, ki16 h.2.1, ki17 h.2.1, ki18 h.2.1, ki19 h.2.1, ki20 h.2.1, ki21 h.2.1, Option.some.injEq, exists_eq_left', true_and, rs13 h.2.2, rs14 h.2.2, rs54 h.2.2, rs102 h.2.2, rg2 h.2.2, rg18 h.2.2, rg19 h.2.2]
    refine ⟨s0, by omega, by unfold zin; omega, by omega, by omega, zu (k_bitCount _) ⟨?_, rfl⟩⟩
    rw [zpop_s (zBs_and ((kRp_bd h.2.2).1 s s0 s1) ((kRp_tk h.2.2).1 (u - 4) (by omega) (by omega))) h8.1 (by omega) (fun k z => z.1.1.2)]
    refine ysum_congr (fun k a b => ?_)
    unfold yLd
    by_cases z : yIn Y k s
    · rw [pif_t z, pif_f (by omega), pif_t u8]
      exact p2i_congr ⟨fun z2 => z2.2.2, fun z2 => ⟨⟨⟨a, b⟩, z⟩, ⟨a, b⟩, z2⟩⟩
    · rw [p2i_f (fun z2 => z z2.1.2), pif_f z]
  · simp only [kk0 h.1, kk1 h.1, kk2 h.1, kk3 h.1, kk4 h.1, kk5 h.1, kk6 h.1, kk7 h.1, kk8 h.1, kk9 h.1, kk10 h.1, kk11 h.1, kk12 h.1, kk13 h.1, kk14 h.1, kk15 h.1, kk16 h.1, kk17 h.1, kk18 h.1, kk19 h.1, kk20 h.1, kk21 h.1, kr0_0 h.1, kr0_1 h.1, kr0_2 h.1, kr0_3 h.1, kr0_4 h.1, kr1_0 h.1, kr1_1 h.1, kr1_2 h.1, kr5_0 h.1, kr5_1 h.1, kr5_2 h.1, kr5_3 h.1, kr10_0 h.1, kr10_1 h.1, kr17_0 h.1, kr17_1 h.1, kr17_2 h.1, kr17_3 h.1, kr17_4 h.1, kr20_0 h.1, kr20_1 h.1, kr20_2 h.1, kr20_3 h.1, ki1 h.2.1, ki2 h.2.1, ki3 h.2.1, ki4 h.2.1, ki5 h.2.1, ki7 h.2.1, kl8 h.2.1, kl9 h.2.1, ki10 h.2.1, kl11 h.2.1, ki13 h.2.1, ki14 h.2.1, ki15 h.2.1, ki16 h.2.1, ki17 h.2.1, ki18 h.2.1, ki19 h.2.1, ki20 h.2.1, ki21 h.2.1, Option.some.injEq, exists_eq_left', true_and, rs13 h.2.2, rs14 h.2.2, rs54 h.2.2, rs102 h.2.2, rg2 h.2.2, rg18 h.2.2, rg19 h.2.2, krw h.1 u0 u4, krk h.1 u0 u4, kri h.2.1 u0 u4, (kRp_bd h.2.2).2 u s u0 u4 s0 s1]
    refine ⟨by trivial, u0, by omega, s0, by omega, ysum_congr (fun k a b => ?_), by trivial⟩
    unfold yLd yHd
    by_cases z : yIn Y k s
    · rw [pif_t (p := yIn Y k s) z, pif_t u4]
      exact pif_c ⟨fun z2 => z2.2, fun z2 => ⟨z, z2⟩⟩
    · rw [pif_f (fun z2 => z z2.1), pif_f z]
theorem k_stateOf (h : kR x wa M V L Y) (hi : yInv c Y) {w : Int} (hw : yWk Y w) : zCi E mX6_stateOf (d + 3) 0 0 [vR (some x), vR (some (wa w))] M (fun r M' => r = stR Y w ∧ M' = M) := by
  refine sX6_stateOf _ _ (fun X hr => vX6_stateOf_0 hr _ _ ⟨kwK h.1 hw.1 hw.2, zu (k_isOpen (kwK h.1 hw.1 hw.2)) ?_⟩)
  simp only [kk0 h.1, kk1 h.1, kk2 h.1, kk3 h.1, kk4 h.1, kk5 h.1, kk6 h.1, kk7 h.1, kk8 h.1, kk9 h.1, kk10 h.1, kk11 h.1, kk12 h.1, kk13 h.1, kk14 h.1, kk15 h.1, kk16 h.1, kk17 h.1, kk18 h.1, kk19 h.1, kk20 h.1, kk21 h.1, kr0_0 h.1, kr0_1 h.1, kr0_2 h.1, kr0_3 h.1, kr0_4 h.1, kr1_0 h.1, kr1_1 h.1, kr1_2 h.1, kr5_0 h.1, kr5_1 h.1, kr5_2 h.1, kr5_3 h.1, kr10_0 h.1, kr10_1 h.1, kr17_0 h.1, kr17_1 h.1, kr17_2 h.1, kr17_3 h.1, kr17_4 h.1, kr20_0 h.1, kr20_1 h.1, kr20_2 h.1, kr20_3 h.1, ki1 h.2.1, ki2 h.2.1, ki3 h.2.1, ki4 h.2.1, ki5 h.2.1, ki7 h.2.1, kl8 h.2.1, kl9 h.2.1, ki10 h.2.1, kl11 h.2.1, ki13 h.2.1, ki14 h.2.1, ki15 h.2.1, ki16 h.2.1, ki17 h.2.1, ki18 h.2.1, ki19 h.2.1, ki20 h.2.1, ki21 h.2.1, Option.some.injEq, exists_eq_left', true_and, rs13 h.2.2, rs14 h.2.2, rs54 h.2.2, rs102 h.2.2, rg2 h.2.2, rg18 h.2.2, rg19 h.2.2, kwR h.1 hw.1 hw.2, kwK h.1 hw.1 hw.2, kwi0 h.2.1 hw.1 hw.2, kwl1 h.2.1 hw.1 hw.2, kwi2 h.2.1 hw.1 hw.2, kwi3 h.2.1 hw.1 hw.2, kwi4 h.2.1 hw.1 hw.2, kwi5 h.2.1 hw.1 hw.2, kwi6 h.2.1 hw.1 hw.2, kwi7 h.2.1 hw.1 hw.2, kwi8 h.2.1 hw.1 hw.2, kwi9 h.2.1 hw.1 hw.2, kwi10 h.2.1 hw.1 hw.2, kwi11 h.2.1 hw.1 hw.2, kwl12 h.2.1 hw.1 hw.2, kwl13 h.2.1 hw.1 hw.2, kwl14 h.2.1 hw.1 hw.2, kwl15 h.2.1 hw.1 hw.2, rw22 h.2.2 hw, rw23 h.2.2 hw, rw24 h.2.2 hw, rw25 h.2.2 hw, rw26 h.2.2 hw, rw27 h.2.2 hw, rw28 h.2.2 hw, rw29 h.2.2 hw, rw30 h.2.2 hw, rw31 h.2.2 hw, rw32 h.2.2 hw, rw33 h.2.2 hw]
  refine ⟨fun q => zu (k_isDone (kwK h.1 hw.1 hw.2) _ (by simp only [kwR h.1 hw.1 hw.2, kwK h.1 hw.1 hw.2, kwi0 h.2.1 hw.1 hw.2, kwl1 h.2.1 hw.1 hw.2, kwi2 h.2.1 hw.1 hw.2, kwi3 h.2.1 hw.1 hw.2, kwi4 h.2.1 hw.1 hw.2, kwi5 h.2.1 hw.1 hw.2, kwi6 h.2.1 hw.1 hw.2, kwi7 h.2.1 hw.1 hw.2, kwi8 h.2.1 hw.1 hw.2, kwi9 h.2.1 hw.1 hw.2, kwi10 h.2.1 hw.1 hw.2, kwi11 h.2.1 hw.1 hw.2, kwl12 h.2.1 hw.1 hw.2, kwl13 h.2.1 hw.1 hw.2, kwl14 h.2.1 hw.1 hw.2, kwl15 h.2.1 hw.1 hw.2, rw22 h.2.2 hw, rw23 h.2.2 hw, rw24 h.2.2 hw, rw25 h.2.2 hw, rw26 h.2.2 hw, rw27 h.2.2 hw, rw28 h.2.2 hw, rw29 h.2.2 hw, rw30 h.2.2 hw, rw31 h.2.2 hw, rw32 h.2.2 hw, rw33 h.2.2 hw]; exact yB_b hi hw)) ?_, fun q => ⟨?_, by trivial⟩⟩
  · have p : yPut Y w := p2i_0.mp q
    simp only [kk0 h.1, kk1 h.1, kk2 h.1, kk3 h.1, kk4 h.1, kk5 h.1, kk6 h.1, kk7 h.1, kk8 h.1, kk9 h.1, kk10 h.1, kk11 h.1, kk12 h.1, kk13 h.1, kk14 h.1, kk15 h.1, kk16 h.1, kk17 h.1, kk18 h.1, kk19 h.1, kk20 h.1, kk21 h.1, kr0_0 h.1, kr0_1 h.1, kr0_2 h.1, kr0_3 h.1, kr0_4 h.1, kr1_0 h.1, kr1_1 h.1, kr1_2 h.1, kr5_0 h.1, kr5_1 h.1, kr5_2 h.1, kr5_3 h.1, kr10_0 h.1, kr10_1 h.1, kr17_0 h.1, kr17_1 h.1, kr17_2 h.1, kr17_3 h.1, kr17_4 h.1, kr20_0 h.1, kr20_1 h.1, kr20_2 h.1, kr20_3 h.1, ki1 h.2.1, ki2 h.2.1, ki3 h.2.1, ki4 h.2.1, ki5 h.2.1, ki7 h.2.1, kl8 h.2.1, kl9 h.2.1, ki10 h.2.1, kl11 h.2.1, ki13 h.2.1, ki14 h.2.1, ki15 h.2.1, ki16 h.2.1, ki17 h.2.1, ki18 h.2.1, ki19 h.2.1, ki20 h.2.1, ki21 h.2.1, Option.some.injEq, exists_eq_left', true_and, rs13 h.2.2, rs14 h.2.2, rs54 h.2.2, rs102 h.2.2, rg2 h.2.2, rg18 h.2.2, rg19 h.2.2, kwR h.1 hw.1 hw.2, kwK h.1 hw.1 hw.2, kwi0 h.2.1 hw.1 hw.2, kwl1 h.2.1 hw.1 hw.2, kwi2 h.2.1 hw.1 hw.2, kwi3 h.2.1 hw.1 hw.2, kwi4 h.2.1 hw.1 hw.2, kwi5 h.2.1 hw.1 hw.2, kwi6 h.2.1 hw.1 hw.2, kwi7 h.2.1 hw.1 hw.2, kwi8 h.2.1 hw.1 hw.2, kwi9 h.2.1 hw.1 hw.2, kwi10 h.2.1 hw.1 hw.2, kwi11 h.2.1 hw.1 hw.2, kwl12 h.2.1 hw.1 hw.2, kwl13 h.2.1 hw.1 hw.2, kwl14 h.2.1 hw.1 hw.2, kwl15 h.2.1 hw.1 hw.2, rw22 h.2.2 hw, rw23 h.2.2 hw, rw24 h.2.2 hw, rw25 h.2.2 hw, rw26 h.2.2 hw, rw27 h.2.2 hw, rw28 h.2.2 hw, rw29 h.2.2 hw, rw30 h.2.2 hw, rw31 h.2.2 hw, rw32 h.2.2 hw, rw33 h.2.2 hw]
    refine ⟨fun q2 => zu (k_hasBegun (kwK h.1 hw.1 hw.2) _) ?_, fun q2 => ⟨?_, by trivial⟩⟩
    · have nd : ¬ yDone Y w := p2i_0.mp q2
      simp only [kk0 h.1, kk1 h.1, kk2 h.1, kk3 h.1, kk4 h.1, kk5 h.1, kk6 h.1, kk7 h.1, kk8 h.1, kk9 h.1, kk10 h.1, kk11 h.1, kk12 h.1, kk13 h.1, kk14 h.1, kk15 h.1, kk16 h.1, kk17 h.1, kk18 h.1, kk19 h.1, kk20 h.1, kk21 h.1, kr0_0 h.1, kr0_1 h.1, kr0_2 h.1, kr0_3 h.1, kr0_4 h.1, kr1_0 h.1, kr1_1 h.1, kr1_2 h.1, kr5_0 h.1, kr5_1 h.1, kr5_2 h.1, kr5_3 h.1, kr10_0 h.1, kr10_1 h.1, kr17_0 h.1, kr17_1 h.1, kr17_2 h.1, kr17_3 h.1, kr17_4 h.1, kr20_0 h.1, kr20_1 h.1, kr20_2 h.1, kr20_3 h.1, ki1 h.2.1, ki2 h.2.1, ki3 h.2.1, ki4 h.2.1, ki5 h.2.1, ki7 h.2.1, kl8 h.2.1, kl9 h.2.1, ki10 h.2.1, kl11 h.2.1, ki13 h.2.1, ki14 h.2.1, ki15 h.2.1, ki16 h.2.1, ki17 h.2.1, ki18 h.2.1, ki19 h.2.1, ki20 h.2.1, ki21 h.2.1, Option.some.injEq, exists_eq_left', true_and, rs13 h.2.2, rs14 h.2.2, rs54 h.2.2, rs102 h.2.2, rg2 h.2.2, rg18 h.2.2, rg19 h.2.2, kwR h.1 hw.1 hw.2, kwK h.1 hw.1 hw.2, kwi0 h.2.1 hw.1 hw.2, kwl1 h.2.1 hw.1 hw.2, kwi2 h.2.1 hw.1 hw.2, kwi3 h.2.1 hw.1 hw.2, kwi4 h.2.1 hw.1 hw.2, kwi5 h.2.1 hw.1 hw.2, kwi6 h.2.1 hw.1 hw.2, kwi7 h.2.1 hw.1 hw.2, kwi8 h.2.1 hw.1 hw.2, kwi9 h.2.1 hw.1 hw.2, kwi10 h.2.1 hw.1 hw.2, kwi11 h.2.1 hw.1 hw.2, kwl12 h.2.1 hw.1 hw.2, kwl13 h.2.1 hw.1 hw.2, kwl14 h.2.1 hw.1 hw.2, kwl15 h.2.1 hw.1 hw.2, rw22 h.2.2 hw, rw23 h.2.2 hw, rw24 h.2.2 hw, rw25 h.2.2 hw, rw26 h.2.2 hw, rw27 h.2.2 hw, rw28 h.2.2 hw, rw29 h.2.2 hw, rw30 h.2.2 hw, rw31 h.2.2 hw, rw32 h.2.2 hw, rw33 h.2.2 hw]
      refine ⟨fun q3 => ⟨?_, by trivial⟩, fun q3 => ⟨?_, by trivial⟩⟩
      · have nb : ¬ yBegun Y w := p2i_0.mp q3
        unfold stR
        rw [pif_t p, pif_f nd, pif_f nb]
      · have nb : yBegun Y w := p2i_n0.mp q3
        unfold stR
        rw [pif_t p, pif_f nd, pif_t nb]
    · have nd : yDone Y w := p2i_n0.mp q2
      unfold stR
      rw [pif_t p, pif_t nd]
  · unfold stR
    rw [pif_f (fun z => z (p2i_n0.mp q))]
theorem k_count (h : kR x wa M V L Y) (hi : yInv c Y) (u : Int) : zCi E mX6_count (d + 4) 0 0 [vR (some x), vI u] M (fun r M' => r = countR Y u ∧ M' = M) := by
  refine sX6_count _ _ (fun X hr => vX6_count_0 hr _ _ ?_)
  have h8 := yI_n hi
  simp only [kk0 h.1, kk1 h.1, kk2 h.1, kk3 h.1, kk4 h.1, kk5 h.1, kk6 h.1, kk7 h.1, kk8 h.1, kk9 h.1, kk10 h.1, kk11 h.1, kk12 h.1, kk13 h.1, kk14 h.1, kk15 h.1, kk16 h.1, kk17 h.1, kk18 h.1, kk19 h.1, kk20 h.1, kk21 h.1, kr0_0 h.1, kr0_1 h.1, kr0_2 h.1, kr0_3 h.1, kr0_4 h.1, kr1_0 h.1, kr1_1 h.1, kr1_2 h.1, kr5_0 h.1, kr5_1 h.1, kr5_2 h.1, kr5_3 h.1, kr10_0 h.1, kr10_1 h.1, kr17_0 h.1, kr17_1 h.1, kr17_2 h.1, kr17_3 h.1, kr17_4 h.1, kr20_0 h.1, kr20_1 h.1, kr20_2 h.1, kr20_3 h.1, ki1 h.2.1, ki2 h.2.1, ki3 h.2.1, ki4 h.2.1, ki5 h.2.1, ki7 h.2.1, kl8 h.2.1, kl9 h.2.1, ki10 h.2.1, kl11 h.2.1, ki13 h.2.1, ki14 h.2.1, ki15 h.2.1, ki16 h.2.1, ki17 h.2.1, ki18 h.2.1, ki19 h.2.1, ki20 h.2.1, ki21 h.2.1, Option.some.injEq, exists_eq_left', true_and, rs13 h.2.2, rs14 h.2.2, rs54 h.2.2, rs102 h.2.2, rg2 h.2.2, rg18 h.2.2, rg19 h.2.2, (kRp_et h.2.2).2.1]
  refine ⟨fun q => ⟨?_, by trivial⟩, fun q => ⟨?_, by trivial⟩, fun q => ⟨?_, by trivial⟩, fun q => ⟨_, k_allPut h hi, ?_⟩, fun q => ⟨_, k_allDone h hi, ?_⟩, fun q => ⟨?_, by trivial⟩, fun q => ⟨?_, by trivial⟩, fun q => ⟨?_, by trivial⟩⟩
  · unfold countR; rw [pif_t q]
  · unfold countR; rw [pif_f (by omega), pif_t q]
  · unfold countR; rw [pif_f (by omega), pif_f (by omega), pif_t q]
  · rintro r M1 ⟨hr1, rfl⟩
    refine zu (k_bitCount _) ?_
    have e : zpop r = ysum (fun k => p2i (yPut Y k)) (Y 8 0) := by
      rw [zpop_s hr1 h8.1 (by omega) (fun k z => z.1.2)]
      exact ysum_congr (fun k a b => p2i_congr ⟨fun z => z.2, fun z => ⟨⟨a, b⟩, z⟩⟩)
    have e2 := ysum_not (P := yPut Y) h8.1
    have b := ysum_b (f := fun k => p2i (yPut Y k)) (b := 1) h8.1 (fun k _ _ => by show 0 ≤ p2i _ ∧ p2i _ ≤ 1; rcases p2i_01 (yPut Y k) with z | z <;> omega)
    rw [e]
    refine ⟨by unfold zin; omega, ?_, rfl⟩
    unfold countR
    rw [pif_f (by omega), pif_f (by omega), pif_f (by omega), pif_t q]
    exact e2.symm
  · rintro r M1 ⟨hr1, rfl⟩
    refine zu (k_bitCount _) ⟨?_, rfl⟩
    rw [zpop_s hr1 h8.1 (by omega) (fun k z => z.1.2)]
    unfold countR
    rw [pif_f (by omega), pif_f (by omega), pif_f (by omega), pif_f (by omega), pif_t q]
    exact ysum_congr (fun k a b => p2i_congr ⟨fun z => z.2, fun z => ⟨⟨a, b⟩, z⟩⟩)
  · unfold countR; rw [pif_f (by omega), pif_f (by omega), pif_f (by omega), pif_f (by omega), pif_f (by omega), pif_t q]
  · unfold countR; rw [pif_f (by omega), pif_f (by omega), pif_f (by omega), pif_f (by omega), pif_f (by omega), pif_f (by omega), pif_t q]
  · unfold countR; rw [pif_f (by omega), pif_f (by omega), pif_f (by omega), pif_f (by omega), pif_f (by omega), pif_f (by omega), pif_f (by omega)]
theorem k_told (h : kR x wa M V L Y) (hi : yInv c Y) (w u : Int) : zCi E mX6_told (d + 4) 0 0 [vR (some x), vI w, vI u] M (fun r M' => r = toldR Y w u ∧ M' = M) := by
  refine sX6_told _ _ _ (fun X hr => vX6_told_0 hr _ _ _ ?_)
  have h8 := yI_n hi
  simp only [kk0 h.1, kk1 h.1, kk2 h.1, kk3 h.1, kk4 h.1, kk5 h.1, kk6 h.1, kk7 h.1, kk8 h.1, kk9 h.1, kk10 h.1, kk11 h.1, kk12 h.1, kk13 h.1, kk14 h.1, kk15 h.1, kk16 h.1, kk17 h.1, kk18 h.1, kk19 h.1, kk20 h.1, kk21 h.1, kr0_0 h.1, kr0_1 h.1, kr0_2 h.1, kr0_3 h.1, kr0_4 h.1, kr1_0 h.1, kr1_1 h.1, kr1_2 h.1, kr5_0 h.1, kr5_1 h.1, kr5_2 h.1, kr5_3 h.1, kr10_0 h.1, kr10_1 h.1, kr17_0 h.1, kr17_1 h.1, kr17_2 h.1, kr17_3 h.1, kr17_4 h.1, kr20_0 h.1, kr20_1 h.1, kr20_2 h.1, kr20_3 h.1, ki1 h.2.1, ki2 h.2.1, ki3 h.2.1, ki4 h.2.1, ki5 h.2.1, ki7 h.2.1, kl8 h.2.1, kl9 h.2.1, ki10 h.2.1, kl11 h.2.1, ki13 h.2.1, ki14 h.2.1, ki15 h.2.1, ki16 h.2.1, ki17 h.2.1, ki18 h.2.1, ki19 h.2.1, ki20 h.2.1, ki21 h.2.1, Option.some.injEq, exists_eq_left', true_and, rs13 h.2.2, rs14 h.2.2, rs54 h.2.2, rs102 h.2.2, rg2 h.2.2, rg18 h.2.2, rg19 h.2.2]
  refine zur (k_find h hi w) ?_
  by_cases q : yWk Y w
  · rw [pif_t q]
    refine ⟨fun _ => ?_, fun z => (by cases z)⟩
    simp only [kk0 h.1, kk1 h.1, kk2 h.1, kk3 h.1, kk4 h.1, kk5 h.1, kk6 h.1, kk7 h.1, kk8 h.1, kk9 h.1, kk10 h.1, kk11 h.1, kk12 h.1, kk13 h.1, kk14 h.1, kk15 h.1, kk16 h.1, kk17 h.1, kk18 h.1, kk19 h.1, kk20 h.1, kk21 h.1, kr0_0 h.1, kr0_1 h.1, kr0_2 h.1, kr0_3 h.1, kr0_4 h.1, kr1_0 h.1, kr1_1 h.1, kr1_2 h.1, kr5_0 h.1, kr5_1 h.1, kr5_2 h.1, kr5_3 h.1, kr10_0 h.1, kr10_1 h.1, kr17_0 h.1, kr17_1 h.1, kr17_2 h.1, kr17_3 h.1, kr17_4 h.1, kr20_0 h.1, kr20_1 h.1, kr20_2 h.1, kr20_3 h.1, ki1 h.2.1, ki2 h.2.1, ki3 h.2.1, ki4 h.2.1, ki5 h.2.1, ki7 h.2.1, kl8 h.2.1, kl9 h.2.1, ki10 h.2.1, kl11 h.2.1, ki13 h.2.1, ki14 h.2.1, ki15 h.2.1, ki16 h.2.1, ki17 h.2.1, ki18 h.2.1, ki19 h.2.1, ki20 h.2.1, ki21 h.2.1, Option.some.injEq, exists_eq_left', true_and, rs13 h.2.2, rs14 h.2.2, rs54 h.2.2, rs102 h.2.2, rg2 h.2.2, rg18 h.2.2, rg19 h.2.2, kwR h.1 q.1 q.2, kwK h.1 q.1 q.2, kwi0 h.2.1 q.1 q.2, kwl1 h.2.1 q.1 q.2, kwi2 h.2.1 q.1 q.2, kwi3 h.2.1 q.1 q.2, kwi4 h.2.1 q.1 q.2, kwi5 h.2.1 q.1 q.2, kwi6 h.2.1 q.1 q.2, kwi7 h.2.1 q.1 q.2, kwi8 h.2.1 q.1 q.2, kwi9 h.2.1 q.1 q.2, kwi10 h.2.1 q.1 q.2, kwi11 h.2.1 q.1 q.2, kwl12 h.2.1 q.1 q.2, kwl13 h.2.1 q.1 q.2, kwl14 h.2.1 q.1 q.2, kwl15 h.2.1 q.1 q.2, rw22 h.2.2 q, rw23 h.2.2 q, rw24 h.2.2 q, rw25 h.2.2 q, rw26 h.2.2 q, rw27 h.2.2 q, rw28 h.2.2 q, rw29 h.2.2 q, rw30 h.2.2 q, rw31 h.2.2 q, rw32 h.2.2 q, rw33 h.2.2 q]
    unfold toldR
    rw [pif_t q]
    refine ⟨fun e => ⟨?_, by trivial⟩, fun e => ⟨?_, by trivial⟩, fun e => ⟨?_, by trivial⟩, fun e => ⟨?_, by trivial⟩, fun e => ⟨?_, by trivial⟩, fun e => ⟨?_, by trivial⟩, fun e => zu (k_stateOf h hi q) ⟨?_, rfl⟩, fun e => ⟨?_, by trivial⟩, fun e => ⟨?_, by trivial⟩, fun e => ⟨?_, by trivial⟩, fun e => zu (k_slackOf h hi q) ⟨?_, rfl⟩, fun e => zu (k_bitCount _) ⟨?_, rfl⟩, fun e => ⟨?_, by trivial⟩, fun e => ⟨?_, by trivial⟩⟩
    · rw [pif_t e]
    · rw [pif_f (p := u = 0) (by omega), pif_t e]
    · rw [pif_f (p := u = 0) (by omega), pif_f (p := u = 1) (by omega), pif_t e]
    · rw [pif_f (p := u = 0) (by omega), pif_f (p := u = 1) (by omega), pif_f (p := u = 2) (by omega), pif_t e]
    · rw [pif_f (p := u = 0) (by omega), pif_f (p := u = 1) (by omega), pif_f (p := u = 2) (by omega), pif_f (p := u = 3) (by omega), pif_t e]
    · rw [pif_f (p := u = 0) (by omega), pif_f (p := u = 1) (by omega), pif_f (p := u = 2) (by omega), pif_f (p := u = 3) (by omega), pif_f (p := u = 4) (by omega), pif_t e]
    · rw [pif_f (p := u = 0) (by omega), pif_f (p := u = 1) (by omega), pif_f (p := u = 2) (by omega), pif_f (p := u = 3) (by omega), pif_f (p := u = 4) (by omega), pif_f (p := u = 5) (by omega), pif_t e]
    · rw [pif_f (p := u = 0) (by omega), pif_f (p := u = 1) (by omega), pif_f (p := u = 2) (by omega), pif_f (p := u = 3) (by omega), pif_f (p := u = 4) (by omega), pif_f (p := u = 5) (by omega), pif_f (p := u = 6) (by omega), pif_t e]
    · rw [pif_f (p := u = 0) (by omega), pif_f (p := u = 1) (by omega), pif_f (p := u = 2) (by omega), pif_f (p := u = 3) (by omega), pif_f (p := u = 4) (by omega), pif_f (p := u = 5) (by omega), pif_f (p := u = 6) (by omega), pif_f (p := u = 7) (by omega), pif_t e]
    · rw [pif_f (p := u = 0) (by omega), pif_f (p := u = 1) (by omega), pif_f (p := u = 2) (by omega), pif_f (p := u = 3) (by omega), pif_f (p := u = 4) (by omega), pif_f (p := u = 5) (by omega), pif_f (p := u = 6) (by omega), pif_f (p := u = 7) (by omega), pif_f (p := u = 8) (by omega), pif_t e]
    · rw [pif_f (p := u = 0) (by omega), pif_f (p := u = 1) (by omega), pif_f (p := u = 2) (by omega), pif_f (p := u = 3) (by omega), pif_f (p := u = 4) (by omega), pif_f (p := u = 5) (by omega), pif_f (p := u = 6) (by omega), pif_f (p := u = 7) (by omega), pif_f (p := u = 8) (by omega), pif_f (p := u = 9) (by omega), pif_t e]
    · rw [pif_f (p := u = 0) (by omega), pif_f (p := u = 1) (by omega), pif_f (p := u = 2) (by omega), pif_f (p := u = 3) (by omega), pif_f (p := u = 4) (by omega), pif_f (p := u = 5) (by omega), pif_f (p := u = 6) (by omega), pif_f (p := u = 7) (by omega), pif_f (p := u = 8) (by omega), pif_f (p := u = 9) (by omega), pif_f (p := u = 10) (by omega), pif_t e]
      rw [zpop_s (kRp_nd h.2.2 w q) h8.1 (by omega) (fun k z => z.1.2)]
      exact ysum_congr (fun k a b => p2i_congr ⟨fun z => z.2, fun z => ⟨⟨a, b⟩, z⟩⟩)
    · rw [pif_f (p := u = 0) (by omega), pif_f (p := u = 1) (by omega), pif_f (p := u = 2) (by omega), pif_f (p := u = 3) (by omega), pif_f (p := u = 4) (by omega), pif_f (p := u = 5) (by omega), pif_f (p := u = 6) (by omega), pif_f (p := u = 7) (by omega), pif_f (p := u = 8) (by omega), pif_f (p := u = 9) (by omega), pif_f (p := u = 10) (by omega), pif_f (p := u = 11) (by omega), pif_t e]
    · rw [pif_f (p := u = 0) (by omega), pif_f (p := u = 1) (by omega), pif_f (p := u = 2) (by omega), pif_f (p := u = 3) (by omega), pif_f (p := u = 4) (by omega), pif_f (p := u = 5) (by omega), pif_f (p := u = 6) (by omega), pif_f (p := u = 7) (by omega), pif_f (p := u = 8) (by omega), pif_f (p := u = 9) (by omega), pif_f (p := u = 10) (by omega), pif_f (p := u = 11) (by omega), pif_f (p := u = 12) (by omega)]
  · rw [pif_f q]
    exact ⟨fun z => absurd rfl z, fun _ => ⟨by unfold toldR; rw [pif_f q], rfl⟩⟩
end C8
