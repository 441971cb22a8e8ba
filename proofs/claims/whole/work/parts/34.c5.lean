/-! ===== mostPressing, openedWith ===== -/
theorem kReady {c : Int} {V Y : yS} {L : yL} (h : kRp V L Y) (hi : yInv c Y) {k : Int} (hk : yWk Y k) {l : Int64} (hl : zBs l (fun m => yWk Y m ∧ yPut Y m)) : (Y 15 k = -1 ∧ L 34 k &&& (l ^^^ (-1 : Int64)) = 0) ↔ yReady Y k := by
  rw [zBs_z (zBs_and (kRp_nd h k hk) (zBs_not hl))]
  unfold yReady yPut
  constructor
  · rintro ⟨q1, q2⟩
    refine ⟨fun z => z q1, fun m m0 m1 hn hp => ?_⟩
    exact q2 m m0 (by have := yI_n hi; omega) ⟨⟨⟨m0, m1⟩, hn⟩, fun z => z.2 hp⟩
  · rintro ⟨q1, q2⟩
    refine ⟨Classical.not_not.mp q1, fun m m0 _ z => z.2 ⟨z.1.1, q2 m m0 z.1.1.2 z.1.2⟩⟩
section C5
variable {E : zE} {d x : Nat} {wa : Int → Nat} {M : zM} {V Y : yS} {L : yL} {c : Int}
theorem k_mostPressing (h : kR x wa M V L Y) (hi : yInv c Y) {l : Int64} {T : Int → Prop} (hT : zBs l T) : zCr E mX2_mostPressing (d + 3) 0 0 [vR (some (x + 5)), vL l] M (fun r M' => r = pif (yPk Y T = -1) none (some (wa (yPk Y T))) ∧ M' = M) := by
  refine sX2_mostPressing _ _ (fun X hr => vX2_mostPressing_0 hr _ _ ⟨kk5 h.1, _, k_allPut h hi, ?_⟩)
  rintro lp M1 ⟨hp, rfl⟩
  have h8 := yI_n hi
  have key : ∀ k : Int, 0 ≤ k → k ≤ Y 8 0 → ZX2_mostPressing E (d + 2) X (fun r M' => r = pif (yPk Y T = -1) none (some (wa (yPk Y T))) ∧ M' = M1) 11 [(0, vR (some (x + 5))), (1, vL l), (3, vL lp), (5, vR (pif (yfold (yPkF Y T) (-1) k = -1) none (some (wa (yfold (yPkF Y T) (-1) k))))), (6, vI k)] [] M1 0 0 := by
    refine zdownI (n := Y 8 0) (fun k hk hk0 hk2 => ?_) (fun k hk0 hk ih hk2 => ?_)
    · have hk : k = Y 8 0 := by omega
      subst hk
      refine vX2_mostPressing_11 hr _ _ _ _ _ ?_
      simp only [kk0 h.1, kk1 h.1, kk2 h.1, kk3 h.1, kk4 h.1, kk5 h.1, kk6 h.1, kk7 h.1, kk8 h.1, kk9 h.1, kk10 h.1, kk11 h.1, kk12 h.1, kk13 h.1, kk14 h.1, kk15 h.1, kk16 h.1, kk17 h.1, kk18 h.1, kk19 h.1, kk20 h.1, kk21 h.1, kr0_0 h.1, kr0_1 h.1, kr0_2 h.1, kr0_3 h.1, kr0_4 h.1, kr1_0 h.1, kr1_1 h.1, kr1_2 h.1, kr5_0 h.1, kr5_1 h.1, kr5_2 h.1, kr5_3 h.1, kr10_0 h.1, kr10_1 h.1, kr17_0 h.1, kr17_1 h.1, kr17_2 h.1, kr17_3 h.1, kr17_4 h.1, kr20_0 h.1, kr20_1 h.1, kr20_2 h.1, kr20_3 h.1, ki1 h.2.1, ki2 h.2.1, ki3 h.2.1, ki4 h.2.1, ki5 h.2.1, ki7 h.2.1, kl8 h.2.1, kl9 h.2.1, ki10 h.2.1, kl11 h.2.1, ki13 h.2.1, ki14 h.2.1, ki15 h.2.1, ki16 h.2.1, ki17 h.2.1, ki18 h.2.1, ki19 h.2.1, ki20 h.2.1, ki21 h.2.1, Option.some.injEq, exists_eq_left', true_and, rs13 h.2.2, rs14 h.2.2, rs54 h.2.2, rs102 h.2.2, rg2 h.2.2, rg18 h.2.2, rg19 h.2.2]
      exact ⟨fun _ => ⟨rfl, by trivial⟩, fun q => by omega⟩
    · have ih := ih (by omega)
      have hm : yWk Y k := ⟨hk0, hk⟩
      have hv := yPk_b (Y := Y) (T := T) k.toNat
      have ev : yfoldN (yPkF Y T) (-1) k.toNat = yfold (yPkF Y T) (-1) k := rfl
      rw [ev] at hv
      rw [yfold_s hk0] at ih
      generalize yfold (yPkF Y T) (-1) k = v at hv ih ⊢
      have stay : (T k ∨ ¬ yReady Y k ∨ (v ≠ -1 ∧ slackR Y v ≤ slackR Y k)) → ZX2_mostPressing E (d + 2) X (fun r M' => r = pif (yPk Y T = -1) none (some (wa (yPk Y T))) ∧ M' = M1) 11 [(0, vR (some (x + 5))), (1, vL l), (3, vL lp), (5, vR (pif (v = -1) none (some (wa v)))), (6, vI (k + 1))] [] M1 0 0 := by
        intro q
        have e : yPkF Y T v k = v := pif_f (fun z => by
          rcases q with q | q | q
          · exact z.1 q
          · exact q z.2.1
          · rcases z.2.2 with z3 | z3
            · exact q.1 z3
            · omega)
        rw [e] at ih
        exact ih
      have move : ¬ T k → yReady Y k → (v = -1 ∨ slackR Y k < slackR Y v) → ZX2_mostPressing E (d + 2) X (fun r M' => r = pif (yPk Y T = -1) none (some (wa (yPk Y T))) ∧ M' = M1) 11 [(0, vR (some (x + 5))), (1, vL l), (3, vL lp), (5, vR (some (wa k))), (6, vI (k + 1))] [] M1 0 0 := by
        intro q1 q2 q3
        have e : yPkF Y T v k = k := pif_t ⟨q1, q2, q3⟩
        rw [e, pif_f (p := k = -1) (by omega)] at ih
        exact ih
      have ht := zBs_in hT hk0 (by omega : k < 64)
      refine vX2_mostPressing_11 hr _ _ _ _ _ ?_
      simp only [kk0 h.1, kk1 h.1, kk2 h.1, kk3 h.1, kk4 h.1, kk5 h.1, kk6 h.1, kk7 h.1, kk8 h.1, kk9 h.1, kk10 h.1, kk11 h.1, kk12 h.1, kk13 h.1, kk14 h.1, kk15 h.1, kk16 h.1, kk17 h.1, kk18 h.1, kk19 h.1, kk20 h.1, kk21 h.1, kr0_0 h.1, kr0_1 h.1, kr0_2 h.1, kr0_3 h.1, kr0_4 h.1, kr1_0 h.1, kr1_1 h.1, kr1_2 h.1, kr5_0 h.1, kr5_1 h.1, kr5_2 h.1, kr5_3 h.1, kr10_0 h.1, kr10_1 h.1, kr17_0 h.1, kr17_1 h.1, kr17_2 h.1, kr17_3 h.1, kr17_4 h.1, kr20_0 h.1, kr20_1 h.1, kr20_2 h.1, kr20_3 h.1, ki1 h.2.1, ki2 h.2.1, ki3 h.2.1, ki4 h.2.1, ki5 h.2.1, ki7 h.2.1, kl8 h.2.1, kl9 h.2.1, ki10 h.2.1, kl11 h.2.1, ki13 h.2.1, ki14 h.2.1, ki15 h.2.1, ki16 h.2.1, ki17 h.2.1, ki18 h.2.1, ki19 h.2.1, ki20 h.2.1, ki21 h.2.1, Option.some.injEq, exists_eq_left', true_and, rs13 h.2.2, rs14 h.2.2, rs54 h.2.2, rs102 h.2.2, rg2 h.2.2, rg18 h.2.2, rg19 h.2.2, kwR h.1 hm.1 hm.2, kwK h.1 hm.1 hm.2, kwi0 h.2.1 hm.1 hm.2, kwl1 h.2.1 hm.1 hm.2, kwi2 h.2.1 hm.1 hm.2, kwi3 h.2.1 hm.1 hm.2, kwi4 h.2.1 hm.1 hm.2, kwi5 h.2.1 hm.1 hm.2, kwi6 h.2.1 hm.1 hm.2, kwi7 h.2.1 hm.1 hm.2, kwi8 h.2.1 hm.1 hm.2, kwi9 h.2.1 hm.1 hm.2, kwi10 h.2.1 hm.1 hm.2, kwi11 h.2.1 hm.1 hm.2, kwl12 h.2.1 hm.1 hm.2, kwl13 h.2.1 hm.1 hm.2, kwl14 h.2.1 hm.1 hm.2, kwl15 h.2.1 hm.1 hm.2, rw22 h.2.2 hm, rw23 h.2.2 hm, rw24 h.2.2 hm, rw25 h.2.2 hm, rw26 h.2.2 hm, rw27 h.2.2 hm, rw28 h.2.2 hm, rw29 h.2.2 hm, rw30 h.2.2 hm, rw31 h.2.2 hm, rw32 h.2.2 hm, rw33 h.2.2 hm, cmp0, ne_eq]
      refine ⟨fun q => by omega, fun _ => ⟨by trivial, hk0, by omega, fun q => ⟨fun _ => ⟨by unfold zin; omega, stay (Or.inl (ht.mp q))⟩, fun q => absurd trivial q⟩, fun q => zu (k_isReady (kwK h.1 hm.1 hm.2) lp) ?_⟩⟩
      have q : ¬ T k := fun z => ht.mpr z q
      simp only [kwR h.1 hm.1 hm.2, kwK h.1 hm.1 hm.2, kwi0 h.2.1 hm.1 hm.2, kwl1 h.2.1 hm.1 hm.2, kwi2 h.2.1 hm.1 hm.2, kwi3 h.2.1 hm.1 hm.2, kwi4 h.2.1 hm.1 hm.2, kwi5 h.2.1 hm.1 hm.2, kwi6 h.2.1 hm.1 hm.2, kwi7 h.2.1 hm.1 hm.2, kwi8 h.2.1 hm.1 hm.2, kwi9 h.2.1 hm.1 hm.2, kwi10 h.2.1 hm.1 hm.2, kwi11 h.2.1 hm.1 hm.2, kwl12 h.2.1 hm.1 hm.2, kwl13 h.2.1 hm.1 hm.2, kwl14 h.2.1 hm.1 hm.2, kwl15 h.2.1 hm.1 hm.2, rw22 h.2.2 hm, rw23 h.2.2 hm, rw24 h.2.2 hm, rw25 h.2.2 hm, rw26 h.2.2 hm, rw27 h.2.2 hm, rw28 h.2.2 hm, rw29 h.2.2 hm, rw30 h.2.2 hm, rw31 h.2.2 hm, rw32 h.2.2 hm, rw33 h.2.2 hm, kReady h.2.2 hi hm hp]
      refine ⟨fun q2 => ⟨fun _ => ⟨by unfold zin; omega, stay (Or.inr (Or.inl (p2i_0.mp q2)))⟩, fun q => absurd trivial q⟩, fun q2 => ⟨fun q => by omega, fun _ => ?_⟩⟩
      have q2 := p2i_n0.mp q2
      rcases hv with hv | hv
      · rw [pif_t hv]
        exact ⟨fun _ => ⟨by unfold zin; omega, move q q2 (Or.inl hv)⟩, fun z => absurd rfl z⟩
      · have hv1 : v ≠ -1 := by omega
        have hvw : yWk Y v := ⟨hv.1, by omega⟩
        rw [pif_f hv1] at stay ⊢
        refine ⟨fun z => (by cases z), fun _ => ⟨kk5 h.1, zu (k_slackOf h hi hm) ⟨_, rfl, kk5 h.1, zu (k_slackOf h hi hvw) ⟨fun z => ⟨by unfold zin; omega, stay (Or.inr (Or.inr ⟨hv1, z⟩))⟩, fun z => ⟨by unfold zin; omega, move q q2 (Or.inr z)⟩⟩⟩⟩⟩
  have k0 := key 0 (by omega) (by omega)
  rw [yfold_0, pif_t (p := (-1 : Int) = -1) rfl] at k0
  exact k0
def oCl (Y : yS) (S : Int → Prop) : Prop := ∀ k o, yWk Y k → yWk Y o → yDone Y k → S o → yNd Y k o → S k
theorem k_openedWith (h : kR x wa M V L Y) (hi : yInv c Y) {t : Int} (ht : yWk Y t) : zCl E mX2_openedWith (d + 4) 0 0 [vR (some (x + 5)), vR (some (wa t)), vI (Y 0 0)] M (fun r M' => zBs r (yOpn Y t) ∧ M' = M) := by
  refine sX2_openedWith _ _ _ (fun X hr => vX2_openedWith_0 hr _ _ _ ⟨kk5 h.1, _, k_allDone h hi, ?_⟩)
  rintro ld M1 ⟨hd, rfl⟩
  have h8 := yI_n hi
  have ht4 := yW_lt hi ht
  have key : ∀ k : Int, 0 ≤ k → k ≤ Y 8 0 → ∀ (l : Int64) (S : Int → Prop), zBs l S → (∀ m, S m → yOpn Y t m) → (∀ m, yWk Y m → yDone Y m → (m = t ∨ Y 18 (40 * t + m) ≠ 0) → S m) → (oCl Y S ∨ k ≤ ysum (fun m => p2i (S m)) (Y 8 0)) → ZX2_openedWith E (d + 3) X (fun r M' => zBs r (yOpn Y t) ∧ M' = M1) 22 [(0, vR (some (x + 5))), (1, vR (some (wa t))), (2, vI (Y 0 0)), (3, vL ld), (5, vL l), (7, vI k)] [] M1 0 0 := by
    refine zdownI (n := Y 8 0) (fun k hk hk0 hk2 l S hl h1 h2 h3 => ?_) (fun k hk0 hk ih hk2 l S hl h1 h2 h3 => ?_)
    · have hk : k = Y 8 0 := by omega
      subst hk
      refine vX2_openedWith_22 hr _ _ _ _ _ _ ?_
      simp only [kk0 h.1, kk1 h.1, kk2 h.1, kk3 h.1, kk4 h.1, kk5 h.1, kk6 h.1, kk7 h.1, kk8 h.1, kk9 h.1, kk10 h.1, kk11 h.1, kk12 h.1, kk13 h.1, kk14 h.1, kk15 h.1, kk16 h.1, kk17 h.1, kk18 h.1, kk19 h.1, kk20 h.1, kk21 h.1, kr0_0 h.1, kr0_1 h.1, kr0_2 h.1, kr0_3 h.1, kr0_4 h.1, kr1_0 h.1, kr1_1 h.1, kr1_2 h.1, kr5_0 h.1, kr5_1 h.1, kr5_2 h.1, kr5_3 h.1, kr10_0 h.1, kr10_1 h.1, kr17_0 h.1, kr17_1 h.1, kr17_2 h.1, kr17_3 h.1, kr17_4 h.1, kr20_0 h.1, kr20_1 h.1, kr20_2 h.1, kr20_3 h.1, ki1 h.2.1, ki2 h.2.1, ki3 h.2.1, ki4 h.2.1, ki5 h.2.1, ki7 h.2.1, kl8 h.2.1, kl9 h.2.1, ki10 h.2.1, kl11 h.2.1, ki13 h.2.1, ki14 h.2.1, ki15 h.2.1, ki16 h.2.1, ki17 h.2.1, ki18 h.2.1, ki19 h.2.1, ki20 h.2.1, ki21 h.2.1, Option.some.injEq, exists_eq_left', true_and, rs13 h.2.2, rs14 h.2.2, rs54 h.2.2, rs102 h.2.2, rg2 h.2.2, rg18 h.2.2, rg19 h.2.2]
      refine ⟨fun _ => ⟨zBs_eq hl (fun i i0 i1 => ⟨h1 i, fun z => ?_⟩), by trivial⟩, fun q => by omega⟩
      refine z S h2 ?_
      rcases h3 with h3 | h3
      · exact h3
      · intro a o ha ho hda hso hn
        apply Classical.byContradiction
        intro hc
        have := ysum_lt (f := fun m => p2i (S m)) (g := fun _ => 1) ha.1 ha.2 (fun m _ _ => by rcases p2i_01 (S m) with e | e <;> (show p2i (S m) ≤ 1) <;> omega) (by show p2i (S a) < 1; rw [p2i_f hc]; omega)
        rw [ysum_one (by omega)] at this
        omega
    · have ih := ih (by omega)
      refine vX2_openedWith_22 hr _ _ _ _ _ _ ?_
      simp only [kk0 h.1, kk1 h.1, kk2 h.1, kk3 h.1, kk4 h.1, kk5 h.1, kk6 h.1, kk7 h.1, kk8 h.1, kk9 h.1, kk10 h.1, kk11 h.1, kk12 h.1, kk13 h.1, kk14 h.1, kk15 h.1, kk16 h.1, kk17 h.1, kk18 h.1, kk19 h.1, kk20 h.1, kk21 h.1, kr0_0 h.1, kr0_1 h.1, kr0_2 h.1, kr0_3 h.1, kr0_4 h.1, kr1_0 h.1, kr1_1 h.1, kr1_2 h.1, kr5_0 h.1, kr5_1 h.1, kr5_2 h.1, kr5_3 h.1, kr10_0 h.1, kr10_1 h.1, kr17_0 h.1, kr17_1 h.1, kr17_2 h.1, kr17_3 h.1, kr17_4 h.1, kr20_0 h.1, kr20_1 h.1, kr20_2 h.1, kr20_3 h.1, ki1 h.2.1, ki2 h.2.1, ki3 h.2.1, ki4 h.2.1, ki5 h.2.1, ki7 h.2.1, kl8 h.2.1, kl9 h.2.1, ki10 h.2.1, kl11 h.2.1, ki13 h.2.1, ki14 h.2.1, ki15 h.2.1, ki16 h.2.1, ki17 h.2.1, ki18 h.2.1, ki19 h.2.1, ki20 h.2.1, ki21 h.2.1, Option.some.injEq, exists_eq_left', true_and, rs13 h.2.2, rs14 h.2.2, rs54 h.2.2, rs102 h.2.2, rg2 h.2.2, rg18 h.2.2, rg19 h.2.2]
      refine ⟨fun q => by omega, fun _ => ⟨_, k_needersOf h hi hl, ?_⟩⟩
      rintro ln M2 ⟨hn, rfl⟩
      refine ⟨by unfold zin; omega, ih _ (fun m => S m ∨ ((yWk Y m ∧ ∃ o, yWk Y o ∧ S o ∧ yNd Y m o) ∧ (yWk Y m ∧ yDone Y m))) (zBs_or hl (zBs_and hn hd)) ?_ ?_ ?_⟩
      · rintro m (z | ⟨⟨z1, o, z2, z3, z4⟩, z5⟩)
        · exact h1 m z
        · exact opn_st z1 z2 z5.2 (h1 o z3) z4
      · exact fun m a b e => Or.inl (h2 m a b e)
      · by_cases hcl : oCl Y S
        · refine Or.inl (fun a o ha ho hda hso hnd => Or.inl ?_)
          have hso : S o := by
            rcases hso with z | ⟨⟨z1, o2, z2, z3, z4⟩, z5⟩
            · exact z
            · exact hcl o o2 z1 z2 z5.2 z3 z4
          exact hcl a o ha ho hda hso hnd
        · have h3 : k ≤ ysum (fun m => p2i (S m)) (Y 8 0) := h3.resolve_left hcl
          right
          have hx : ∃ a o, yWk Y a ∧ yWk Y o ∧ yDone Y a ∧ S o ∧ yNd Y a o ∧ ¬ S a := by
            apply Classical.byContradiction
            intro z
            refine hcl (fun a o ha ho hda hso hnd => Classical.byContradiction fun hc => z ⟨a, o, ha, ho, hda, hso, hnd, hc⟩)
          obtain ⟨a, o, ha, ho, hda, hso, hnd, hsa⟩ := hx
          have := ysum_lt (f := fun m => p2i (S m)) (g := fun m => p2i (S m ∨ ((yWk Y m ∧ ∃ o, yWk Y o ∧ S o ∧ yNd Y m o) ∧ (yWk Y m ∧ yDone Y m)))) ha.1 ha.2 (fun m _ _ => p2i_mono Or.inl) (by
            show p2i _ < p2i _
            rw [p2i_f hsa, p2i_t (Or.inr ⟨⟨ha, o, ho, hso, hnd⟩, ha, hda⟩)]
            omega)
          omega
  simp only [kwR h.1 ht.1 ht.2, kwK h.1 ht.1 ht.2, kwi0 h.2.1 ht.1 ht.2, kwl1 h.2.1 ht.1 ht.2, kwi2 h.2.1 ht.1 ht.2, kwi3 h.2.1 ht.1 ht.2, kwi4 h.2.1 ht.1 ht.2, kwi5 h.2.1 ht.1 ht.2, kwi6 h.2.1 ht.1 ht.2, kwi7 h.2.1 ht.1 ht.2, kwi8 h.2.1 ht.1 ht.2, kwi9 h.2.1 ht.1 ht.2, kwi10 h.2.1 ht.1 ht.2, kwi11 h.2.1 ht.1 ht.2, kwl12 h.2.1 ht.1 ht.2, kwl13 h.2.1 ht.1 ht.2, kwl14 h.2.1 ht.1 ht.2, kwl15 h.2.1 ht.1 ht.2, rw22 h.2.2 ht, rw23 h.2.2 ht, rw24 h.2.2 ht, rw25 h.2.2 ht, rw26 h.2.2 ht, rw27 h.2.2 ht, rw28 h.2.2 ht, rw29 h.2.2 ht, rw30 h.2.2 ht, rw31 h.2.2 ht, rw32 h.2.2 ht, rw33 h.2.2 ht]
  refine ⟨trivial, trivial, key 0 (by omega) (by omega) _ (fun m => (m = t ∨ (yWk Y m ∧ Y 18 (40 * t + m) ≠ 0)) ∧ (yWk Y m ∧ yDone Y m)) (zBs_and (zBs_or (zBs_bit ht.1 (by omega)) (kRp_tl h.2.2 t ht)) hd) ?_ ?_ (Or.inr (ysum_nn (fun m _ _ => by show 0 ≤ p2i _; rcases p2i_01 ((m = t ∨ (yWk Y m ∧ Y 18 (40 * t + m) ≠ 0)) ∧ (yWk Y m ∧ yDone Y m)) with e | e <;> rw [e] <;> omega)))⟩
  · rintro m ⟨z1, z2⟩
    refine opn_in z2.1 z2.2 ?_
    rcases z1 with z | z
    · exact Or.inl z
    · exact Or.inr z.2
  · rintro m a b (e | e)
    · exact ⟨Or.inl e, a, b⟩
    · exact ⟨Or.inr ⟨a, e⟩, a, b⟩
end C5
