/-! ===== what Net reads, on ===== -/
theorem kNd {c : Int} {V Y : yS} {L : yL} (h : kRp V L Y) (hi : yInv c Y) {k m : Int} (hk : yWk Y k) (hm : yWk Y m) : L 34 k &&& zbit m ≠ 0 ↔ yNd Y k m := by
  rw [zBs_in (kRp_nd h k hk) hm.1 (by have := yW_lt hi hm; omega)]
  exact ⟨fun q => q.2, fun q => ⟨hm, q⟩⟩
noncomputable def yRf (Y : yS) (w v k : Int) : Int := pif (yNd Y w k) (max v (pif (yPut Y k) (yEnd Y k) 400)) v
noncomputable def yRdy (Y : yS) (w : Int) : Int := yfold (yRf Y w) 0 (Y 8 0)
noncomputable def yDf (Y : yS) (w v k : Int) : Int := pif (yNd Y k w ∧ yPut Y k) (min v (Y 15 k)) v
noncomputable def yDue (Y : yS) (w : Int) : Int := yfold (yDf Y w) 400 (Y 8 0)
theorem pif_c {α : Type} {p q : Prop} {x y : α} (h : p ↔ q) : pif p x y = pif q x y := by rw [propext h]
section C4
variable {E : zE} {d x : Nat} {wa : Int → Nat} {M : zM} {V Y : yS} {L : yL} {c : Int}
theorem k_readyFrom (h : kR x wa M V L Y) (hi : yInv c Y) {w : Int} (hw : yWk Y w) : zCi E mX2_readyFrom (d + 2) 0 0 [vR (some (x + 5)), vR (some (wa w))] M (fun r M' => r = yRdy Y w ∧ M' = M) := by
  refine sX2_readyFrom _ _ (fun X hr => vX2_readyFrom_0 hr _ _ ?_)
  have h8 := yI_n hi
  have key : ∀ k : Int, 0 ≤ k → k ≤ Y 8 0 → ∀ v, v = yfold (yRf Y w) 0 k → ZX2_readyFrom E (d + 1) X (fun r M' => r = yRdy Y w ∧ M' = M) 4 [(0, vR (some (x + 5))), (1, vR (some (wa w))), (2, vI v), (3, vI k)] [] M 0 0 := by
    refine zdownI (n := Y 8 0) (fun k hk hk0 hk2 v hv => ?_) (fun k hk0 hk ih hk2 v hv => ?_)
    · have hk : k = Y 8 0 := by omega
      subst hk
      refine vX2_readyFrom_4 hr _ _ _ _ ?_
      simp only [kk0 h.1, kk1 h.1, kk2 h.1, kk3 h.1, kk4 h.1, kk5 h.1, kk6 h.1, kk7 h.1, kk8 h.1, kk9 h.1, kk10 h.1, kk11 h.1, kk12 h.1, kk13 h.1, kk14 h.1, kk15 h.1, kk16 h.1, kk17 h.1, kk18 h.1, kk19 h.1, kk20 h.1, kk21 h.1, kr0_0 h.1, kr0_1 h.1, kr0_2 h.1, kr0_3 h.1, kr0_4 h.1, kr1_0 h.1, kr1_1 h.1, kr1_2 h.1, kr5_0 h.1, kr5_1 h.1, kr5_2 h.1, kr5_3 h.1, kr10_0 h.1, kr10_1 h.1, kr17_0 h.1, kr17_1 h.1, kr17_2 h.1, kr17_3 h.1, kr17_4 h.1, kr20_0 h.1, kr20_1 h.1, kr20_2 h.1, kr20_3 h.1, ki1 h.2.1, ki2 h.2.1, ki3 h.2.1, ki4 h.2.1, ki5 h.2.1, ki7 h.2.1, kl8 h.2.1, kl9 h.2.1, ki10 h.2.1, kl11 h.2.1, ki13 h.2.1, ki14 h.2.1, ki15 h.2.1, ki16 h.2.1, ki17 h.2.1, ki18 h.2.1, ki19 h.2.1, ki20 h.2.1, ki21 h.2.1, Option.some.injEq, exists_eq_left', true_and, rs13 h.2.2, rs14 h.2.2, rs54 h.2.2, rs102 h.2.2, rg2 h.2.2, rg18 h.2.2, rg19 h.2.2]
      exact ⟨fun _ => ⟨hv, by trivial⟩, fun q => by omega⟩
    · have ih := ih (by omega)
      have hm : yWk Y k := ⟨hk0, hk⟩
      refine vX2_readyFrom_4 hr _ _ _ _ ?_
      simp only [kk0 h.1, kk1 h.1, kk2 h.1, kk3 h.1, kk4 h.1, kk5 h.1, kk6 h.1, kk7 h.1, kk8 h.1, kk9 h.1, kk10 h.1, kk11 h.1, kk12 h.1, kk13 h.1, kk14 h.1, kk15 h.1, kk16 h.1, kk17 h.1, kk18 h.1, kk19 h.1, kk20 h.1, kk21 h.1, kr0_0 h.1, kr0_1 h.1, kr0_2 h.1, kr0_3 h.1, kr0_4 h.1, kr1_0 h.1, kr1_1 h.1, kr1_2 h.1, kr5_0 h.1, kr5_1 h.1, kr5_2 h.1, kr5_3 h.1, kr10_0 h.1, kr10_1 h.1, kr17_0 h.1, kr17_1 h.1, kr17_2 h.1, kr17_3 h.1, kr17_4 h.1, kr20_0 h.1, kr20_1 h.1, kr20_2 h.1, kr20_3 h.1, ki1 h.2.1, ki2 h.2.1, ki3 h.2.1, ki4 h.2.1, ki5 h.2.1, ki7 h.2.1, kl8 h.2.1, kl9 h.2.1, ki10 h.2.1, kl11 h.2.1, ki13 h.2.1, ki14 h.2.1, ki15 h.2.1, ki16 h.2.1, ki17 h.2.1, ki18 h.2.1, ki19 h.2.1, ki20 h.2.1, ki21 h.2.1, Option.some.injEq, exists_eq_left', true_and, rs13 h.2.2, rs14 h.2.2, rs54 h.2.2, rs102 h.2.2, rg2 h.2.2, rg18 h.2.2, rg19 h.2.2, kwR h.1 hm.1 hm.2, kwK h.1 hm.1 hm.2, kwi0 h.2.1 hm.1 hm.2, kwl1 h.2.1 hm.1 hm.2, kwi2 h.2.1 hm.1 hm.2, kwi3 h.2.1 hm.1 hm.2, kwi4 h.2.1 hm.1 hm.2, kwi5 h.2.1 hm.1 hm.2, kwi6 h.2.1 hm.1 hm.2, kwi7 h.2.1 hm.1 hm.2, kwi8 h.2.1 hm.1 hm.2, kwi9 h.2.1 hm.1 hm.2, kwi10 h.2.1 hm.1 hm.2, kwi11 h.2.1 hm.1 hm.2, kwl12 h.2.1 hm.1 hm.2, kwl13 h.2.1 hm.1 hm.2, kwl14 h.2.1 hm.1 hm.2, kwl15 h.2.1 hm.1 hm.2, rw22 h.2.2 hm, rw23 h.2.2 hm, rw24 h.2.2 hm, rw25 h.2.2 hm, rw26 h.2.2 hm, rw27 h.2.2 hm, rw28 h.2.2 hm, rw29 h.2.2 hm, rw30 h.2.2 hm, rw31 h.2.2 hm, rw32 h.2.2 hm, rw33 h.2.2 hm, kwK h.1 hw.1 hw.2]
      refine ⟨fun q => by omega, fun _ => ⟨by trivial, hk0, by omega, zu (k_leansOn (kwK h.1 hw.1 hw.2) (kwK h.1 hm.1 hm.2)) ?_⟩⟩
      simp only [kk0 h.1, kk1 h.1, kk2 h.1, kk3 h.1, kk4 h.1, kk5 h.1, kk6 h.1, kk7 h.1, kk8 h.1, kk9 h.1, kk10 h.1, kk11 h.1, kk12 h.1, kk13 h.1, kk14 h.1, kk15 h.1, kk16 h.1, kk17 h.1, kk18 h.1, kk19 h.1, kk20 h.1, kk21 h.1, kr0_0 h.1, kr0_1 h.1, kr0_2 h.1, kr0_3 h.1, kr0_4 h.1, kr1_0 h.1, kr1_1 h.1, kr1_2 h.1, kr5_0 h.1, kr5_1 h.1, kr5_2 h.1, kr5_3 h.1, kr10_0 h.1, kr10_1 h.1, kr17_0 h.1, kr17_1 h.1, kr17_2 h.1, kr17_3 h.1, kr17_4 h.1, kr20_0 h.1, kr20_1 h.1, kr20_2 h.1, kr20_3 h.1, ki1 h.2.1, ki2 h.2.1, ki3 h.2.1, ki4 h.2.1, ki5 h.2.1, ki7 h.2.1, kl8 h.2.1, kl9 h.2.1, ki10 h.2.1, kl11 h.2.1, ki13 h.2.1, ki14 h.2.1, ki15 h.2.1, ki16 h.2.1, ki17 h.2.1, ki18 h.2.1, ki19 h.2.1, ki20 h.2.1, ki21 h.2.1, Option.some.injEq, exists_eq_left', true_and, rs13 h.2.2, rs14 h.2.2, rs54 h.2.2, rs102 h.2.2, rg2 h.2.2, rg18 h.2.2, rg19 h.2.2, kwR h.1 hm.1 hm.2, kwK h.1 hm.1 hm.2, kwi0 h.2.1 hm.1 hm.2, kwl1 h.2.1 hm.1 hm.2, kwi2 h.2.1 hm.1 hm.2, kwi3 h.2.1 hm.1 hm.2, kwi4 h.2.1 hm.1 hm.2, kwi5 h.2.1 hm.1 hm.2, kwi6 h.2.1 hm.1 hm.2, kwi7 h.2.1 hm.1 hm.2, kwi8 h.2.1 hm.1 hm.2, kwi9 h.2.1 hm.1 hm.2, kwi10 h.2.1 hm.1 hm.2, kwi11 h.2.1 hm.1 hm.2, kwl12 h.2.1 hm.1 hm.2, kwl13 h.2.1 hm.1 hm.2, kwl14 h.2.1 hm.1 hm.2, kwl15 h.2.1 hm.1 hm.2, rw22 h.2.2 hm, rw23 h.2.2 hm, rw24 h.2.2 hm, rw25 h.2.2 hm, rw26 h.2.2 hm, rw27 h.2.2 hm, rw28 h.2.2 hm, rw29 h.2.2 hm, rw30 h.2.2 hm, rw31 h.2.2 hm, rw32 h.2.2 hm, rw33 h.2.2 hm, kwl12 h.2.1 hw.1 hw.2, kNd h.2.2 hi hw hm]
      refine ⟨fun q => ⟨by unfold zin; omega, ih _ ?_⟩, fun q => zu (k_isOpen (kwK h.1 hm.1 hm.2)) ?_⟩
      · rw [yfold_s hk0, ← hv]
        exact (pif_f (p2i_0.mp q)).symm
      · have q := p2i_n0.mp q
        simp only [kk0 h.1, kk1 h.1, kk2 h.1, kk3 h.1, kk4 h.1, kk5 h.1, kk6 h.1, kk7 h.1, kk8 h.1, kk9 h.1, kk10 h.1, kk11 h.1, kk12 h.1, kk13 h.1, kk14 h.1, kk15 h.1, kk16 h.1, kk17 h.1, kk18 h.1, kk19 h.1, kk20 h.1, kk21 h.1, kr0_0 h.1, kr0_1 h.1, kr0_2 h.1, kr0_3 h.1, kr0_4 h.1, kr1_0 h.1, kr1_1 h.1, kr1_2 h.1, kr5_0 h.1, kr5_1 h.1, kr5_2 h.1, kr5_3 h.1, kr10_0 h.1, kr10_1 h.1, kr17_0 h.1, kr17_1 h.1, kr17_2 h.1, kr17_3 h.1, kr17_4 h.1, kr20_0 h.1, kr20_1 h.1, kr20_2 h.1, kr20_3 h.1, ki1 h.2.1, ki2 h.2.1, ki3 h.2.1, ki4 h.2.1, ki5 h.2.1, ki7 h.2.1, kl8 h.2.1, kl9 h.2.1, ki10 h.2.1, kl11 h.2.1, ki13 h.2.1, ki14 h.2.1, ki15 h.2.1, ki16 h.2.1, ki17 h.2.1, ki18 h.2.1, ki19 h.2.1, ki20 h.2.1, ki21 h.2.1, Option.some.injEq, exists_eq_left', true_and, rs13 h.2.2, rs14 h.2.2, rs54 h.2.2, rs102 h.2.2, rg2 h.2.2, rg18 h.2.2, rg19 h.2.2, kwR h.1 hm.1 hm.2, kwK h.1 hm.1 hm.2, kwi0 h.2.1 hm.1 hm.2, kwl1 h.2.1 hm.1 hm.2, kwi2 h.2.1 hm.1 hm.2, kwi3 h.2.1 hm.1 hm.2, kwi4 h.2.1 hm.1 hm.2, kwi5 h.2.1 hm.1 hm.2, kwi6 h.2.1 hm.1 hm.2, kwi7 h.2.1 hm.1 hm.2, kwi8 h.2.1 hm.1 hm.2, kwi9 h.2.1 hm.1 hm.2, kwi10 h.2.1 hm.1 hm.2, kwi11 h.2.1 hm.1 hm.2, kwl12 h.2.1 hm.1 hm.2, kwl13 h.2.1 hm.1 hm.2, kwl14 h.2.1 hm.1 hm.2, kwl15 h.2.1 hm.1 hm.2, rw22 h.2.2 hm, rw23 h.2.2 hm, rw24 h.2.2 hm, rw25 h.2.2 hm, rw26 h.2.2 hm, rw27 h.2.2 hm, rw28 h.2.2 hm, rw29 h.2.2 hm, rw30 h.2.2 hm, rw31 h.2.2 hm, rw32 h.2.2 hm, rw33 h.2.2 hm]
        refine ⟨fun q2 => zu (k_behind (v := yEnd Y k) (kwK h.1 hm.1 hm.2) (yB_b hi hm) (by simp only [kwR h.1 hm.1 hm.2, kwK h.1 hm.1 hm.2, kwi0 h.2.1 hm.1 hm.2, kwl1 h.2.1 hm.1 hm.2, kwi2 h.2.1 hm.1 hm.2, kwi3 h.2.1 hm.1 hm.2, kwi4 h.2.1 hm.1 hm.2, kwi5 h.2.1 hm.1 hm.2, kwi6 h.2.1 hm.1 hm.2, kwi7 h.2.1 hm.1 hm.2, kwi8 h.2.1 hm.1 hm.2, kwi9 h.2.1 hm.1 hm.2, kwi10 h.2.1 hm.1 hm.2, kwi11 h.2.1 hm.1 hm.2, kwl12 h.2.1 hm.1 hm.2, kwl13 h.2.1 hm.1 hm.2, kwl14 h.2.1 hm.1 hm.2, kwl15 h.2.1 hm.1 hm.2, rw22 h.2.2 hm, rw23 h.2.2 hm, rw24 h.2.2 hm, rw25 h.2.2 hm, rw26 h.2.2 hm, rw27 h.2.2 hm, rw28 h.2.2 hm, rw29 h.2.2 hm, rw30 h.2.2 hm, rw31 h.2.2 hm, rw32 h.2.2 hm, rw33 h.2.2 hm]; rfl)) ⟨by unfold zin; omega, ih _ ?_⟩, fun q2 => ⟨by unfold zin; omega, ih _ ?_⟩⟩
        · rw [yfold_s hk0, ← hv]
          unfold yRf
          rw [pif_t q, pif_t (p := yPut Y k) (p2i_0.mp q2)]
        · rw [yfold_s hk0, ← hv]
          unfold yRf
          rw [pif_t q, pif_f (fun z => z (p2i_n0.mp q2))]
  exact key 0 (by omega) (by omega) 0 rfl
theorem k_dueBy (h : kR x wa M V L Y) (hi : yInv c Y) {w : Int} (hw : yWk Y w) : zCi E mX2_dueBy (d + 2) 0 0 [vR (some (x + 5)), vR (some (wa w))] M (fun r M' => r = yDue Y w ∧ M' = M) := by
  refine sX2_dueBy _ _ (fun X hr => vX2_dueBy_0 hr _ _ ?_)
  have h8 := yI_n hi
  have key : ∀ k : Int, 0 ≤ k → k ≤ Y 8 0 → ∀ v, v = yfold (yDf Y w) 400 k → ZX2_dueBy E (d + 1) X (fun r M' => r = yDue Y w ∧ M' = M) 6 [(0, vR (some (x + 5))), (1, vR (some (wa w))), (2, vI v), (3, vI k)] [] M 0 0 := by
    refine zdownI (n := Y 8 0) (fun k hk hk0 hk2 v hv => ?_) (fun k hk0 hk ih hk2 v hv => ?_)
    · have hk : k = Y 8 0 := by omega
      subst hk
      refine vX2_dueBy_6 hr _ _ _ _ ?_
      simp only [kk0 h.1, kk1 h.1, kk2 h.1, kk3 h.1, kk4 h.1, kk5 h.1, kk6 h.1, kk7 h.1, kk8 h.1, kk9 h.1, kk10 h.1, kk11 h.1, kk12 h.1, kk13 h.1, kk14 h.1, kk15 h.1, kk16 h.1, kk17 h.1, kk18 h.1, kk19 h.1, kk20 h.1, kk21 h.1, kr0_0 h.1, kr0_1 h.1, kr0_2 h.1, kr0_3 h.1, kr0_4 h.1, kr1_0 h.1, kr1_1 h.1, kr1_2 h.1, kr5_0 h.1, kr5_1 h.1, kr5_2 h.1, kr5_3 h.1, kr10_0 h.1, kr10_1 h.1, kr17_0 h.1, kr17_1 h.1, kr17_2 h.1, kr17_3 h.1, kr17_4 h.1, kr20_0 h.1, kr20_1 h.1, kr20_2 h.1, kr20_3 h.1, ki1 h.2.1, ki2 h.2.1, ki3 h.2.1, ki4 h.2.1, ki5 h.2.1, ki7 h.2.1, kl8 h.2.1, kl9 h.2.1, ki10 h.2.1, kl11 h.2.1, ki13 h.2.1, ki14 h.2.1, ki15 h.2.1, ki16 h.2.1, ki17 h.2.1, ki18 h.2.1, ki19 h.2.1, ki20 h.2.1, ki21 h.2.1, Option.some.injEq, exists_eq_left', true_and, rs13 h.2.2, rs14 h.2.2, rs54 h.2.2, rs102 h.2.2, rg2 h.2.2, rg18 h.2.2, rg19 h.2.2]
      exact ⟨fun _ => ⟨hv, by trivial⟩, fun q => by omega⟩
    · have ih := ih (by omega)
      have hm : yWk Y k := ⟨hk0, hk⟩
      refine vX2_dueBy_6 hr _ _ _ _ ?_
      simp only [kk0 h.1, kk1 h.1, kk2 h.1, kk3 h.1, kk4 h.1, kk5 h.1, kk6 h.1, kk7 h.1, kk8 h.1, kk9 h.1, kk10 h.1, kk11 h.1, kk12 h.1, kk13 h.1, kk14 h.1, kk15 h.1, kk16 h.1, kk17 h.1, kk18 h.1, kk19 h.1, kk20 h.1, kk21 h.1, kr0_0 h.1, kr0_1 h.1, kr0_2 h.1, kr0_3 h.1, kr0_4 h.1, kr1_0 h.1, kr1_1 h.1, kr1_2 h.1, kr5_0 h.1, kr5_1 h.1, kr5_2 h.1, kr5_3 h.1, kr10_0 h.1, kr10_1 h.1, kr17_0 h.1, kr17_1 h.1, kr17_2 h.1, kr17_3 h.1, kr17_4 h.1, kr20_0 h.1, kr20_1 h.1, kr20_2 h.1, kr20_3 h.1, ki1 h.2.1, ki2 h.2.1, ki3 h.2.1, ki4 h.2.1, ki5 h.2.1, ki7 h.2.1, kl8 h.2.1, kl9 h.2.1, ki10 h.2.1, kl11 h.2.1, ki13 h.2.1, ki14 h.2.1, ki15 h.2.1, ki16 h.2.1, ki17 h.2.1, ki18 h.2.1, ki19 h.2.1, ki20 h.2.1, ki21 h.2.1, Option.some.injEq, exists_eq_left', true_and, rs13 h.2.2, rs14 h.2.2, rs54 h.2.2, rs102 h.2.2, rg2 h.2.2, rg18 h.2.2, rg19 h.2.2, kwR h.1 hm.1 hm.2, kwK h.1 hm.1 hm.2, kwi0 h.2.1 hm.1 hm.2, kwl1 h.2.1 hm.1 hm.2, kwi2 h.2.1 hm.1 hm.2, kwi3 h.2.1 hm.1 hm.2, kwi4 h.2.1 hm.1 hm.2, kwi5 h.2.1 hm.1 hm.2, kwi6 h.2.1 hm.1 hm.2, kwi7 h.2.1 hm.1 hm.2, kwi8 h.2.1 hm.1 hm.2, kwi9 h.2.1 hm.1 hm.2, kwi10 h.2.1 hm.1 hm.2, kwi11 h.2.1 hm.1 hm.2, kwl12 h.2.1 hm.1 hm.2, kwl13 h.2.1 hm.1 hm.2, kwl14 h.2.1 hm.1 hm.2, kwl15 h.2.1 hm.1 hm.2, rw22 h.2.2 hm, rw23 h.2.2 hm, rw24 h.2.2 hm, rw25 h.2.2 hm, rw26 h.2.2 hm, rw27 h.2.2 hm, rw28 h.2.2 hm, rw29 h.2.2 hm, rw30 h.2.2 hm, rw31 h.2.2 hm, rw32 h.2.2 hm, rw33 h.2.2 hm, kwK h.1 hw.1 hw.2]
      refine ⟨fun q => by omega, fun _ => ⟨by trivial, hk0, by omega, zu (k_leansOn (kwK h.1 hm.1 hm.2) (kwK h.1 hw.1 hw.2)) ?_⟩⟩
      simp only [kk0 h.1, kk1 h.1, kk2 h.1, kk3 h.1, kk4 h.1, kk5 h.1, kk6 h.1, kk7 h.1, kk8 h.1, kk9 h.1, kk10 h.1, kk11 h.1, kk12 h.1, kk13 h.1, kk14 h.1, kk15 h.1, kk16 h.1, kk17 h.1, kk18 h.1, kk19 h.1, kk20 h.1, kk21 h.1, kr0_0 h.1, kr0_1 h.1, kr0_2 h.1, kr0_3 h.1, kr0_4 h.1, kr1_0 h.1, kr1_1 h.1, kr1_2 h.1, kr5_0 h.1, kr5_1 h.1, kr5_2 h.1, kr5_3 h.1, kr10_0 h.1, kr10_1 h.1, kr17_0 h.1, kr17_1 h.1, kr17_2 h.1, kr17_3 h.1, kr17_4 h.1, kr20_0 h.1, kr20_1 h.1, kr20_2 h.1, kr20_3 h.1, ki1 h.2.1, ki2 h.2.1, ki3 h.2.1, ki4 h.2.1, ki5 h.2.1, ki7 h.2.1, kl8 h.2.1, kl9 h.2.1, ki10 h.2.1, kl11 h.2.1, ki13 h.2.1, ki14 h.2.1, ki15 h.2.1, ki16 h.2.1, ki17 h.2.1, ki18 h.2.1, ki19 h.2.1, ki20 h.2.1, ki21 h.2.1, Option.some.injEq, exists_eq_left', true_and, rs13 h.2.2, rs14 h.2.2, rs54 h.2.2, rs102 h.2.2, rg2 h.2.2, rg18 h.2.2, rg19 h.2.2, kwR h.1 hm.1 hm.2, kwK h.1 hm.1 hm.2, kwi0 h.2.1 hm.1 hm.2, kwl1 h.2.1 hm.1 hm.2, kwi2 h.2.1 hm.1 hm.2, kwi3 h.2.1 hm.1 hm.2, kwi4 h.2.1 hm.1 hm.2, kwi5 h.2.1 hm.1 hm.2, kwi6 h.2.1 hm.1 hm.2, kwi7 h.2.1 hm.1 hm.2, kwi8 h.2.1 hm.1 hm.2, kwi9 h.2.1 hm.1 hm.2, kwi10 h.2.1 hm.1 hm.2, kwi11 h.2.1 hm.1 hm.2, kwl12 h.2.1 hm.1 hm.2, kwl13 h.2.1 hm.1 hm.2, kwl14 h.2.1 hm.1 hm.2, kwl15 h.2.1 hm.1 hm.2, rw22 h.2.2 hm, rw23 h.2.2 hm, rw24 h.2.2 hm, rw25 h.2.2 hm, rw26 h.2.2 hm, rw27 h.2.2 hm, rw28 h.2.2 hm, rw29 h.2.2 hm, rw30 h.2.2 hm, rw31 h.2.2 hm, rw32 h.2.2 hm, rw33 h.2.2 hm, kwl1 h.2.1 hw.1 hw.2, rw23 h.2.2 hw, kNd h.2.2 hi hm hw]
      refine ⟨fun q => ⟨by unfold zin; omega, ih _ ?_⟩, fun q => zu (k_isOpen (kwK h.1 hm.1 hm.2)) ?_⟩
      · rw [yfold_s hk0, ← hv]
        exact (pif_f (fun z => p2i_0.mp q z.1)).symm
      · have q := p2i_n0.mp q
        simp only [kk0 h.1, kk1 h.1, kk2 h.1, kk3 h.1, kk4 h.1, kk5 h.1, kk6 h.1, kk7 h.1, kk8 h.1, kk9 h.1, kk10 h.1, kk11 h.1, kk12 h.1, kk13 h.1, kk14 h.1, kk15 h.1, kk16 h.1, kk17 h.1, kk18 h.1, kk19 h.1, kk20 h.1, kk21 h.1, kr0_0 h.1, kr0_1 h.1, kr0_2 h.1, kr0_3 h.1, kr0_4 h.1, kr1_0 h.1, kr1_1 h.1, kr1_2 h.1, kr5_0 h.1, kr5_1 h.1, kr5_2 h.1, kr5_3 h.1, kr10_0 h.1, kr10_1 h.1, kr17_0 h.1, kr17_1 h.1, kr17_2 h.1, kr17_3 h.1, kr17_4 h.1, kr20_0 h.1, kr20_1 h.1, kr20_2 h.1, kr20_3 h.1, ki1 h.2.1, ki2 h.2.1, ki3 h.2.1, ki4 h.2.1, ki5 h.2.1, ki7 h.2.1, kl8 h.2.1, kl9 h.2.1, ki10 h.2.1, kl11 h.2.1, ki13 h.2.1, ki14 h.2.1, ki15 h.2.1, ki16 h.2.1, ki17 h.2.1, ki18 h.2.1, ki19 h.2.1, ki20 h.2.1, ki21 h.2.1, Option.some.injEq, exists_eq_left', true_and, rs13 h.2.2, rs14 h.2.2, rs54 h.2.2, rs102 h.2.2, rg2 h.2.2, rg18 h.2.2, rg19 h.2.2, kwR h.1 hm.1 hm.2, kwK h.1 hm.1 hm.2, kwi0 h.2.1 hm.1 hm.2, kwl1 h.2.1 hm.1 hm.2, kwi2 h.2.1 hm.1 hm.2, kwi3 h.2.1 hm.1 hm.2, kwi4 h.2.1 hm.1 hm.2, kwi5 h.2.1 hm.1 hm.2, kwi6 h.2.1 hm.1 hm.2, kwi7 h.2.1 hm.1 hm.2, kwi8 h.2.1 hm.1 hm.2, kwi9 h.2.1 hm.1 hm.2, kwi10 h.2.1 hm.1 hm.2, kwi11 h.2.1 hm.1 hm.2, kwl12 h.2.1 hm.1 hm.2, kwl13 h.2.1 hm.1 hm.2, kwl14 h.2.1 hm.1 hm.2, kwl15 h.2.1 hm.1 hm.2, rw22 h.2.2 hm, rw23 h.2.2 hm, rw24 h.2.2 hm, rw25 h.2.2 hm, rw26 h.2.2 hm, rw27 h.2.2 hm, rw28 h.2.2 hm, rw29 h.2.2 hm, rw30 h.2.2 hm, rw31 h.2.2 hm, rw32 h.2.2 hm, rw33 h.2.2 hm]
        refine ⟨fun q2 => ⟨by unfold zin; omega, ih _ ?_⟩, fun q2 => ⟨by unfold zin; omega, ih _ ?_⟩⟩
        · rw [yfold_s hk0, ← hv]
          exact (pif_f (fun z => z.2 (p2i_n0.mp q2))).symm
        · rw [yfold_s hk0, ← hv]
          exact (pif_t ⟨q, p2i_0.mp q2⟩).symm
  exact key 0 (by omega) (by omega) 400 rfl
theorem k_needersOf (h : kR x wa M V L Y) (hi : yInv c Y) {l : Int64} {Q : Int → Prop} (hQ : zBs l Q) : zCl E mX2_needersOf (d + 1) 0 0 [vR (some (x + 5)), vL l] M (fun r M' => zBs r (fun m => yWk Y m ∧ ∃ o, yWk Y o ∧ Q o ∧ yNd Y m o) ∧ M' = M) := by
  refine sX2_needersOf _ _ (fun X hr => vX2_needersOf_0 hr _ _ ?_)
  have h8 := yI_n hi
  have key : ∀ k : Int, 0 ≤ k → k ≤ Y 8 0 → ∀ v, zBs v (fun m => (0 ≤ m ∧ m < k) ∧ ∃ o, yWk Y o ∧ Q o ∧ yNd Y m o) → ZX2_needersOf E d X (fun r M' => zBs r (fun m => yWk Y m ∧ ∃ o, yWk Y o ∧ Q o ∧ yNd Y m o) ∧ M' = M) 5 [(0, vR (some (x + 5))), (1, vL l), (3, vL v), (5, vI k)] [] M 0 0 := by
    refine zdownI (n := Y 8 0) (fun k hk hk0 hk2 v hv => ?_) (fun k hk0 hk ih hk2 v hv => ?_)
    · have hk : k = Y 8 0 := by omega
      subst hk
      refine vX2_needersOf_5 hr _ _ _ _ ?_
      simp only [kk0 h.1, kk1 h.1, kk2 h.1, kk3 h.1, kk4 h.1, kk5 h.1, kk6 h.1, kk7 h.1, kk8 h.1, kk9 h.1, kk10 h.1, kk11 h.1, kk12 h.1, kk13 h.1, kk14 h.1, kk15 h.1, kk16 h.1, kk17 h.1, kk18 h.1, kk19 h.1, kk20 h.1, kk21 h.1, kr0_0 h.1, kr0_1 h.1, kr0_2 h.1, kr0_3 h.1, kr0_4 h.1, kr1_0 h.1, kr1_1 h.1, kr1_2 h.1, kr5_0 h.1, kr5_1 h.1, kr5_2 h.1, kr5_3 h.1, kr10_0 h.1, kr10_1 h.1, kr17_0 h.1, kr17_1 h.1, kr17_2 h.1, kr17_3 h.1, kr17_4 h.1, kr20_0 h.1, kr20_1 h.1, kr20_2 h.1, kr20_3 h.1, ki1 h.2.1, ki2 h.2.1, ki3 h.2.1, ki4 h.2.1, ki5 h.2.1, ki7 h.2.1, kl8 h.2.1, kl9 h.2.1, ki10 h.2.1, kl11 h.2.1, ki13 h.2.1, ki14 h.2.1, ki15 h.2.1, ki16 h.2.1, ki17 h.2.1, ki18 h.2.1, ki19 h.2.1, ki20 h.2.1, ki21 h.2.1, Option.some.injEq, exists_eq_left', true_and, rs13 h.2.2, rs14 h.2.2, rs54 h.2.2, rs102 h.2.2, rg2 h.2.2, rg18 h.2.2, rg19 h.2.2]
      exact ⟨fun _ => ⟨hv, by trivial⟩, fun q => by omega⟩
    · have ih := ih (by omega)
      have hm : yWk Y k := ⟨hk0, hk⟩
      have hz : L 34 k &&& l = 0 ↔ ¬ ∃ o, yWk Y o ∧ Q o ∧ yNd Y k o := by
        rw [zBs_z (zBs_and (kRp_nd h.2.2 k hm) hQ)]
        constructor
        · rintro q ⟨o, o1, o2, o3⟩
          exact q o o1.1 (by have := yW_lt hi o1; omega) ⟨⟨o1, o3⟩, o2⟩
        · exact fun q i _ _ z => q ⟨i, z.1.1, z.2, z.1.2⟩
      refine vX2_needersOf_5 hr _ _ _ _ ?_
      simp only [kk0 h.1, kk1 h.1, kk2 h.1, kk3 h.1, kk4 h.1, kk5 h.1, kk6 h.1, kk7 h.1, kk8 h.1, kk9 h.1, kk10 h.1, kk11 h.1, kk12 h.1, kk13 h.1, kk14 h.1, kk15 h.1, kk16 h.1, kk17 h.1, kk18 h.1, kk19 h.1, kk20 h.1, kk21 h.1, kr0_0 h.1, kr0_1 h.1, kr0_2 h.1, kr0_3 h.1, kr0_4 h.1, kr1_0 h.1, kr1_1 h.1, kr1_2 h.1, kr5_0 h.1, kr5_1 h.1, kr5_2 h.1, kr5_3 h.1, kr10_0 h.1, kr10_1 h.1, kr17_0 h.1, kr17_1 h.1, kr17_2 h.1, kr17_3 h.1, kr17_4 h.1, kr20_0 h.1, kr20_1 h.1, kr20_2 h.1, kr20_3 h.1, ki1 h.2.1, ki2 h.2.1, ki3 h.2.1, ki4 h.2.1, ki5 h.2.1, ki7 h.2.1, kl8 h.2.1, kl9 h.2.1, ki10 h.2.1, kl11 h.2.1, ki13 h.2.1, ki14 h.2.1, ki15 h.2.1, ki16 h.2.1, ki17 h.2.1, ki18 h.2.1, ki19 h.2.1, ki20 h.2.1, ki21 h.2.1, Option.some.injEq, exists_eq_left', true_and, rs13 h.2.2, rs14 h.2.2, rs54 h.2.2, rs102 h.2.2, rg2 h.2.2, rg18 h.2.2, rg19 h.2.2, kwR h.1 hm.1 hm.2, kwK h.1 hm.1 hm.2, kwi0 h.2.1 hm.1 hm.2, kwl1 h.2.1 hm.1 hm.2, kwi2 h.2.1 hm.1 hm.2, kwi3 h.2.1 hm.1 hm.2, kwi4 h.2.1 hm.1 hm.2, kwi5 h.2.1 hm.1 hm.2, kwi6 h.2.1 hm.1 hm.2, kwi7 h.2.1 hm.1 hm.2, kwi8 h.2.1 hm.1 hm.2, kwi9 h.2.1 hm.1 hm.2, kwi10 h.2.1 hm.1 hm.2, kwi11 h.2.1 hm.1 hm.2, kwl12 h.2.1 hm.1 hm.2, kwl13 h.2.1 hm.1 hm.2, kwl14 h.2.1 hm.1 hm.2, kwl15 h.2.1 hm.1 hm.2, rw22 h.2.2 hm, rw23 h.2.2 hm, rw24 h.2.2 hm, rw25 h.2.2 hm, rw26 h.2.2 hm, rw27 h.2.2 hm, rw28 h.2.2 hm, rw29 h.2.2 hm, rw30 h.2.2 hm, rw31 h.2.2 hm, rw32 h.2.2 hm, rw33 h.2.2 hm, cmp0, ne_eq, hz]
      refine ⟨fun q => by omega, fun _ => ⟨by trivial, hk0, by omega, fun q => ⟨by unfold zin; omega, ih _ (zBs_eq hv (fun i i0 i1 => ?_))⟩, fun q => ⟨by trivial, hk0, by omega, by unfold zin; omega, ih _ (zBs_eq (zBs_or hv (zBs_bit hk0 (by omega))) (fun i i0 i1 => ?_))⟩⟩⟩
      · constructor
        · exact fun z => ⟨⟨z.1.1, by have := z.1.2; omega⟩, z.2⟩
        · intro z
          refine ⟨⟨z.1.1, ?_⟩, z.2⟩
          have : i ≠ k := fun e => q (by rw [← e]; exact z.2)
          have := z.1.2
          omega
      · have q := Classical.not_not.mp q
        constructor
        · rintro (z | z)
          · exact ⟨⟨z.1.1, by have := z.1.2; omega⟩, z.2⟩
          · exact ⟨⟨by omega, by omega⟩, by rw [z]; exact q⟩
        · intro z
          by_cases e : i = k
          · exact Or.inr e
          · exact Or.inl ⟨⟨z.1.1, by have := z.1.2; omega⟩, z.2⟩
  exact key 0 (by omega) (by omega) 0 (zBs_0 (fun i _ _ z => by have := z.1; omega))
theorem k_lengthOf (h : kR x wa M V L Y) (hi : yInv c Y) {l : Int64} {Q : Int → Prop} (hQ : zBs l Q) : zCi E mX2_lengthOf (d + 1) 0 0 [vR (some (x + 5)), vL l] M (fun r M' => r = ysum (fun m => pif (Q m) (Y 9 m) 0) (Y 8 0) ∧ M' = M) := by
  refine sX2_lengthOf _ _ (fun X hr => vX2_lengthOf_0 hr _ _ ?_)
  have h8 := yI_n hi
  have hb : ∀ k, 0 ≤ k → k ≤ Y 8 0 → 0 ≤ ysum (fun m => pif (Q m) (Y 9 m) 0) k ∧ ysum (fun m => pif (Q m) (Y 9 m) 0) k ≤ 1600 := by
    intro k k0 k1
    have := ysum_b (f := fun m => pif (Q m) (Y 9 m) 0) (b := 40) k0 (fun j j0 j1 => by
      have := yI_w hi j0 (by omega)
      show 0 ≤ pif (Q j) (Y 9 j) 0 ∧ pif (Q j) (Y 9 j) 0 ≤ 40
      by_cases q : Q j
      · rw [pif_t q]; omega
      · rw [pif_f q]; omega)
    omega
  have key : ∀ k : Int, 0 ≤ k → k ≤ Y 8 0 → ∀ v, v = ysum (fun m => pif (Q m) (Y 9 m) 0) k → ZX2_lengthOf E d X (fun r M' => r = ysum (fun m => pif (Q m) (Y 9 m) 0) (Y 8 0) ∧ M' = M) 5 [(0, vR (some (x + 5))), (1, vL l), (3, vI v), (4, vI k)] [] M 0 0 := by
    refine zdownI (n := Y 8 0) (fun k hk hk0 hk2 v hv => ?_) (fun k hk0 hk ih hk2 v hv => ?_)
    · have hk : k = Y 8 0 := by omega
      subst hk
      refine vX2_lengthOf_5 hr _ _ _ _ ?_
      simp only [kk0 h.1, kk1 h.1, kk2 h.1, kk3 h.1, kk4 h.1, kk5 h.1, kk6 h.1, kk7 h.1, kk8 h.1, kk9 h.1, kk10 h.1, kk11 h.1, kk12 h.1, kk13 h.1, kk14 h.1, kk15 h.1, kk16 h.1, kk17 h.1, kk18 h.1, kk19 h.1, kk20 h.1, kk21 h.1, kr0_0 h.1, kr0_1 h.1, kr0_2 h.1, kr0_3 h.1, kr0_4 h.1, kr1_0 h.1, kr1_1 h.1, kr1_2 h.1, kr5_0 h.1, kr5_1 h.1, kr5_2 h.1, kr5_3 h.1, kr10_0 h.1, kr10_1 h.1, kr17_0 h.1, kr17_1 h.1, kr17_2 h.1, kr17_3 h.1, kr17_4 h.1, kr20_0 h.1, kr20_1 h.1, kr20_2 h.1, kr20_3 h.1, ki1 h.2.1, ki2 h.2.1, ki3 h.2.1, ki4 h.2.1, ki5 h.2.1, ki7 h.2.1, kl8 h.2.1, kl9 h.2.1, ki10 h.2.1, kl11 h.2.1, ki13 h.2.1, ki14 h.2.1, ki15 h.2.1, ki16 h.2.1, ki17 h.2.1, ki18 h.2.1, ki19 h.2.1, ki20 h.2.1, ki21 h.2.1, Option.some.injEq, exists_eq_left', true_and, rs13 h.2.2, rs14 h.2.2, rs54 h.2.2, rs102 h.2.2, rg2 h.2.2, rg18 h.2.2, rg19 h.2.2]
      exact ⟨fun _ => ⟨hv, by trivial⟩, fun q => by omega⟩
    · have ih := ih (by omega)
      have hm : yWk Y k := ⟨hk0, hk⟩
      have hz := zBs_in hQ hk0 (by omega : k < 64)
      have hbk := hb k hk0 (by omega)
      have hl := yI_w hi hk0 hk
      refine vX2_lengthOf_5 hr _ _ _ _ ?_
      simp only [kk0 h.1, kk1 h.1, kk2 h.1, kk3 h.1, kk4 h.1, kk5 h.1, kk6 h.1, kk7 h.1, kk8 h.1, kk9 h.1, kk10 h.1, kk11 h.1, kk12 h.1, kk13 h.1, kk14 h.1, kk15 h.1, kk16 h.1, kk17 h.1, kk18 h.1, kk19 h.1, kk20 h.1, kk21 h.1, kr0_0 h.1, kr0_1 h.1, kr0_2 h.1, kr0_3 h.1, kr0_4 h.1, kr1_0 h.1, kr1_1 h.1, kr1_2 h.1, kr5_0 h.1, kr5_1 h.1, kr5_2 h.1, kr5_3 h.1, kr10_0 h.1, kr10_1 h.1, kr17_0 h.1, kr17_1 h.1, kr17_2 h.1, kr17_3 h.1, kr17_4 h.1, kr20_0 h.1, kr20_1 h.1, kr20_2 h.1, kr20_3 h.1, ki1 h.2.1, ki2 h.2.1, ki3 h.2.1, ki4 h.2.1, ki5 h.2.1, ki7 h.2.1, kl8 h.2.1, kl9 h.2.1, ki10 h.2.1, kl11 h.2.1, ki13 h.2.1, ki14 h.2.1, ki15 h.2.1, ki16 h.2.1, ki17 h.2.1, ki18 h.2.1, ki19 h.2.1, ki20 h.2.1, ki21 h.2.1, Option.some.injEq, exists_eq_left', true_and, rs13 h.2.2, rs14 h.2.2, rs54 h.2.2, rs102 h.2.2, rg2 h.2.2, rg18 h.2.2, rg19 h.2.2, kwR h.1 hm.1 hm.2, kwK h.1 hm.1 hm.2, kwi0 h.2.1 hm.1 hm.2, kwl1 h.2.1 hm.1 hm.2, kwi2 h.2.1 hm.1 hm.2, kwi3 h.2.1 hm.1 hm.2, kwi4 h.2.1 hm.1 hm.2, kwi5 h.2.1 hm.1 hm.2, kwi6 h.2.1 hm.1 hm.2, kwi7 h.2.1 hm.1 hm.2, kwi8 h.2.1 hm.1 hm.2, kwi9 h.2.1 hm.1 hm.2, kwi10 h.2.1 hm.1 hm.2, kwi11 h.2.1 hm.1 hm.2, kwl12 h.2.1 hm.1 hm.2, kwl13 h.2.1 hm.1 hm.2, kwl14 h.2.1 hm.1 hm.2, kwl15 h.2.1 hm.1 hm.2, rw22 h.2.2 hm, rw23 h.2.2 hm, rw24 h.2.2 hm, rw25 h.2.2 hm, rw26 h.2.2 hm, rw27 h.2.2 hm, rw28 h.2.2 hm, rw29 h.2.2 hm, rw30 h.2.2 hm, rw31 h.2.2 hm, rw32 h.2.2 hm, rw33 h.2.2 hm, ne_eq, cmp0]
      refine ⟨fun q => by omega, fun _ => ⟨by trivial, hk0, by omega, fun q => ⟨by unfold zin; omega, ih _ ?_⟩, fun q => ⟨by trivial, hk0, by omega, by unfold zin; omega, by unfold zin; omega, ih _ ?_⟩⟩⟩
      · rw [ysum_s hk0, ← hv, pif_f (fun z => hz.mpr z q)]
        omega
      · rw [ysum_s hk0, ← hv, pif_t (hz.mp q)]
  exact key 0 (by omega) (by omega) 0 rfl
theorem k_askedOfTrade (h : kR x wa M V L Y) (hi : yInv c Y) (t : Int) : zCi E mX2_askedOfTrade (d + 1) 0 0 [vR (some (x + 5)), vI t] M (fun r M' => r = ysum (fun m => pif (Y 10 m = t) (Y 9 m * Y 11 m) 0) (Y 8 0) ∧ M' = M) := by
  refine sX2_askedOfTrade _ _ (fun X hr => vX2_askedOfTrade_0 hr _ _ ?_)
  have h8 := yI_n hi
  have hp : ∀ k, 0 ≤ k → k < Y 8 0 → 0 ≤ Y 9 k * Y 11 k ∧ Y 9 k * Y 11 k ≤ 360 := by
    intro k k0 k1
    have hl := yI_w hi k0 k1
    refine ⟨Int.mul_nonneg (by omega) (by omega), ?_⟩
    have := Int.mul_le_mul (show Y 9 k ≤ 40 by omega) (show Y 11 k ≤ 9 by omega) (by omega) (by omega)
    omega
  have hb : ∀ k, 0 ≤ k → k ≤ Y 8 0 → 0 ≤ ysum (fun m => pif (Y 10 m = t) (Y 9 m * Y 11 m) 0) k ∧ ysum (fun m => pif (Y 10 m = t) (Y 9 m * Y 11 m) 0) k ≤ 14400 := by
    intro k k0 k1
    have := ysum_b (f := fun m => pif (Y 10 m = t) (Y 9 m * Y 11 m) 0) (b := 360) k0 (fun j j0 j1 => by
      have := hp j j0 (by omega)
      show 0 ≤ pif (Y 10 j = t) (Y 9 j * Y 11 j) 0 ∧ pif (Y 10 j = t) (Y 9 j * Y 11 j) 0 ≤ 360
      by_cases q : Y 10 j = t
      · rw [pif_t q]; omega
      · rw [pif_f q]; omega)
    omega
  have key : ∀ k : Int, 0 ≤ k → k ≤ Y 8 0 → ∀ v, v = ysum (fun m => pif (Y 10 m = t) (Y 9 m * Y 11 m) 0) k → ZX2_askedOfTrade E d X (fun r M' => r = ysum (fun m => pif (Y 10 m = t) (Y 9 m * Y 11 m) 0) (Y 8 0) ∧ M' = M) 4 [(0, vR (some (x + 5))), (1, vI t), (2, vI v), (3, vI k)] [] M 0 0 := by
    refine zdownI (n := Y 8 0) (fun k hk hk0 hk2 v hv => ?_) (fun k hk0 hk ih hk2 v hv => ?_)
    · have hk : k = Y 8 0 := by omega
      subst hk
      refine vX2_askedOfTrade_4 hr _ _ _ _ ?_
      simp only [kk0 h.1, kk1 h.1, kk2 h.1, kk3 h.1, kk4 h.1, kk5 h.1, kk6 h.1, kk7 h.1, kk8 h.1, kk9 h.1, kk10 h.1, kk11 h.1, kk12 h.1, kk13 h.1, kk14 h.1, kk15 h.1, kk16 h.1, kk17 h.1, kk18 h.1, kk19 h.1, kk20 h.1, kk21 h.1, kr0_0 h.1, kr0_1 h.1, kr0_2 h.1, kr0_3 h.1, kr0_4 h.1, kr1_0 h.1, kr1_1 h.1, kr1_2 h.1, kr5_0 h.1, kr5_1 h.1, kr5_2 h.1, kr5_3 h.1, kr10_0 h.1, kr10_1 h.1, kr17_0 h.1, kr17_1 h.1, kr17_2 h.1, kr17_3 h.1, kr17_4 h.1, kr20_0 h.1, kr20_1 h.1, kr20_2 h.1, kr20_3 h.1, ki1 h.2.1, ki2 h.2.1, ki3 h.2.1, ki4 h.2.1, ki5 h.2.1, ki7 h.2.1, kl8 h.2.1, kl9 h.2.1, ki10 h.2.1, kl11 h.2.1, ki13 h.2.1, ki14 h.2.1, ki15 h.2.1, ki16 h.2.1, ki17 h.2.1, ki18 h.2.1, ki19 h.2.1, ki20 h.2.1, ki21 h.2.1, Option.some.injEq, exists_eq_left', true_and, rs13 h.2.2, rs14 h.2.2, rs54 h.2.2, rs102 h.2.2, rg2 h.2.2, rg18 h.2.2, rg19 h.2.2]
      exact ⟨fun _ => ⟨hv, by trivial⟩, fun q => by omega⟩
    · have ih := ih (by omega)
      have hm : yWk Y k := ⟨hk0, hk⟩
      have hbk := hb k hk0 (by omega)
      have hpk := hp k hk0 hk
      refine vX2_askedOfTrade_4 hr _ _ _ _ ?_
      simp only [kk0 h.1, kk1 h.1, kk2 h.1, kk3 h.1, kk4 h.1, kk5 h.1, kk6 h.1, kk7 h.1, kk8 h.1, kk9 h.1, kk10 h.1, kk11 h.1, kk12 h.1, kk13 h.1, kk14 h.1, kk15 h.1, kk16 h.1, kk17 h.1, kk18 h.1, kk19 h.1, kk20 h.1, kk21 h.1, kr0_0 h.1, kr0_1 h.1, kr0_2 h.1, kr0_3 h.1, kr0_4 h.1, kr1_0 h.1, kr1_1 h.1, kr1_2 h.1, kr5_0 h.1, kr5_1 h.1, kr5_2 h.1, kr5_3 h.1, kr10_0 h.1, kr10_1 h.1, kr17_0 h.1, kr17_1 h.1, kr17_2 h.1, kr17_3 h.1, kr17_4 h.1, kr20_0 h.1, kr20_1 h.1, kr20_2 h.1, kr20_3 h.1, ki1 h.2.1, ki2 h.2.1, ki3 h.2.1, ki4 h.2.1, ki5 h.2.1, ki7 h.2.1, kl8 h.2.1, kl9 h.2.1, ki10 h.2.1, kl11 h.2.1, ki13 h.2.1, ki14 h.2.1, ki15 h.2.1, ki16 h.2.1, ki17 h.2.1, ki18 h.2.1, ki19 h.2.1, ki20 h.2.1, ki21 h.2.1, Option.some.injEq, exists_eq_left', true_and, rs13 h.2.2, rs14 h.2.2, rs54 h.2.2, rs102 h.2.2, rg2 h.2.2, rg18 h.2.2, rg19 h.2.2, kwR h.1 hm.1 hm.2, kwK h.1 hm.1 hm.2, kwi0 h.2.1 hm.1 hm.2, kwl1 h.2.1 hm.1 hm.2, kwi2 h.2.1 hm.1 hm.2, kwi3 h.2.1 hm.1 hm.2, kwi4 h.2.1 hm.1 hm.2, kwi5 h.2.1 hm.1 hm.2, kwi6 h.2.1 hm.1 hm.2, kwi7 h.2.1 hm.1 hm.2, kwi8 h.2.1 hm.1 hm.2, kwi9 h.2.1 hm.1 hm.2, kwi10 h.2.1 hm.1 hm.2, kwi11 h.2.1 hm.1 hm.2, kwl12 h.2.1 hm.1 hm.2, kwl13 h.2.1 hm.1 hm.2, kwl14 h.2.1 hm.1 hm.2, kwl15 h.2.1 hm.1 hm.2, rw22 h.2.2 hm, rw23 h.2.2 hm, rw24 h.2.2 hm, rw25 h.2.2 hm, rw26 h.2.2 hm, rw27 h.2.2 hm, rw28 h.2.2 hm, rw29 h.2.2 hm, rw30 h.2.2 hm, rw31 h.2.2 hm, rw32 h.2.2 hm, rw33 h.2.2 hm]
      refine ⟨fun q => by omega, fun _ => ⟨by trivial, hk0, by omega, fun q => ⟨by unfold zin; omega, ih _ ?_⟩, fun q => ⟨by trivial, hk0, by omega, by trivial, hk0, by omega, by unfold zin; omega, by unfold zin; omega, by unfold zin; omega, ih _ ?_⟩⟩⟩
      · rw [ysum_s hk0, ← hv, pif_f q]
        omega
      · rw [ysum_s hk0, ← hv, pif_t q]
  exact key 0 (by omega) (by omega) 0 rfl
theorem k_askedOfGood (h : kR x wa M V L Y) (hi : yInv c Y) {t : Int} (t0 : 0 ≤ t) (t1 : t < 4) : zCi E mX2_askedOfGood (d + 2) 0 0 [vR (some (x + 5)), vI t] M (fun r M' => r = ysum (fun m => pif (yWk Y m ∧ Y 14 m = t) (Y 9 m) 0) (Y 8 0) ∧ M' = M) := by
  refine sX2_askedOfGood _ _ (fun X hr => vX2_askedOfGood_0 hr _ _ ?_)
  simp only [kk0 h.1, kk1 h.1, kk2 h.1, kk3 h.1, kk4 h.1, kk5 h.1, kk6 h.1, kk7 h.1, kk8 h.1, kk9 h.1, kk10 h.1, kk11 h.1, kk12 h.1, kk13 h.1, kk14 h.1, kk15 h.1, kk16 h.1, kk17 h.1, kk18 h.1, kk19 h.1, kk20 h.1, kk21 h.1, kr0_0 h.1, kr0_1 h.1, kr0_2 h.1, kr0_3 h.1, kr0_4 h.1, kr1_0 h.1, kr1_1 h.1, kr1_2 h.1, kr5_0 h.1, kr5_1 h.1, kr5_2 h.1, kr5_3 h.1, kr10_0 h.1, kr10_1 h.1, kr17_0 h.1, kr17_1 h.1, kr17_2 h.1, kr17_3 h.1, kr17_4 h.1, kr20_0 h.1, kr20_1 h.1, kr20_2 h.1, kr20_3 h.1, ki1 h.2.1, ki2 h.2.1, ki3 h.2.1, ki4 h.2.1, ki5 h.2.1, ki7 h.2.1, kl8 h.2.1, kl9 h.2.1, ki10 h.2.1, kl11 h.2.1, ki13 h.2.1, ki14 h.2.1, ki15 h.2.1, ki16 h.2.1, ki17 h.2.1, ki18 h.2.1, ki19 h.2.1, ki20 h.2.1, ki21 h.2.1, Option.some.injEq, exists_eq_left', true_and, rs13 h.2.2, rs14 h.2.2, rs54 h.2.2, rs102 h.2.2, rg2 h.2.2, rg18 h.2.2, rg19 h.2.2]
  exact ⟨t0, by omega, zu (k_lengthOf h hi ((kRp_tk h.2.2).1 t t0 t1)) ⟨rfl, rfl⟩⟩
theorem k_askedOfSpace (h : kR x wa M V L Y) (hi : yInv c Y) {t : Int} (t0 : 0 ≤ t) (t1 : t < 20) : zCi E mX2_askedOfSpace (d + 2) 0 0 [vR (some (x + 5)), vI t] M (fun r M' => r = ysum (fun m => pif (yWk Y m ∧ Y 12 m = t) (Y 9 m) 0) (Y 8 0) ∧ M' = M) := by
  refine sX2_askedOfSpace _ _ (fun X hr => vX2_askedOfSpace_0 hr _ _ ?_)
  simp only [kk0 h.1, kk1 h.1, kk2 h.1, kk3 h.1, kk4 h.1, kk5 h.1, kk6 h.1, kk7 h.1, kk8 h.1, kk9 h.1, kk10 h.1, kk11 h.1, kk12 h.1, kk13 h.1, kk14 h.1, kk15 h.1, kk16 h.1, kk17 h.1, kk18 h.1, kk19 h.1, kk20 h.1, kk21 h.1, kr0_0 h.1, kr0_1 h.1, kr0_2 h.1, kr0_3 h.1, kr0_4 h.1, kr1_0 h.1, kr1_1 h.1, kr1_2 h.1, kr5_0 h.1, kr5_1 h.1, kr5_2 h.1, kr5_3 h.1, kr10_0 h.1, kr10_1 h.1, kr17_0 h.1, kr17_1 h.1, kr17_2 h.1, kr17_3 h.1, kr17_4 h.1, kr20_0 h.1, kr20_1 h.1, kr20_2 h.1, kr20_3 h.1, ki1 h.2.1, ki2 h.2.1, ki3 h.2.1, ki4 h.2.1, ki5 h.2.1, ki7 h.2.1, kl8 h.2.1, kl9 h.2.1, ki10 h.2.1, kl11 h.2.1, ki13 h.2.1, ki14 h.2.1, ki15 h.2.1, ki16 h.2.1, ki17 h.2.1, ki18 h.2.1, ki19 h.2.1, ki20 h.2.1, ki21 h.2.1, Option.some.injEq, exists_eq_left', true_and, rs13 h.2.2, rs14 h.2.2, rs54 h.2.2, rs102 h.2.2, rg2 h.2.2, rg18 h.2.2, rg19 h.2.2]
  exact ⟨t0, by omega, zu (k_lengthOf h hi ((kRp_tk h.2.2).2 t t0 t1)) ⟨rfl, rfl⟩⟩
end C4
