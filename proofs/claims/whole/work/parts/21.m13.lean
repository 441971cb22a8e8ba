/-! ===== contracts of the reference: bound ===== -/
def yBis (Y : yS) (k w : Int) : Prop := (k < 4 ∧ Y 10 w = k) ∨ (4 ≤ k ∧ k < 8 ∧ Y 14 w = k - 4) ∨ (8 ≤ k ∧ Y 12 w = k - 8)
noncomputable def yBc (Y : yS) (k w : Int) : Int := pif (yBis Y k w) (Y 9 w * pif (k < 4) (Y 11 w) 1) 0
noncomputable def yBs (Y : yS) (k : Int) : Int := ysum (yBc Y k) (Y 8 0)
noncomputable def yBt (Y : yS) (k : Int) : Int := pif (k < 4) (Y 4 k) (pif (k < 8) (Y 5 (k - 4)) (Y 2 (k - 8)))
noncomputable def yBq (Y : yS) (k : Int) : Int := Int.tdiv (yBs Y k + yBt Y k - 1) (yBt Y k)
noncomputable def yBf (Y : yS) (v k : Int) : Int := pif (yBs Y k ≠ 0 ∧ v < yBq Y k) (yBq Y k) v
noncomputable def boundR (Y : yS) : Int := pif (∃ k, 0 ≤ k ∧ k < 8 + Y 1 0 ∧ yBs Y k ≠ 0 ∧ yBt Y k = 0) (-1) (yfold (yBf Y) (wayR Y) (8 + Y 1 0))
theorem yBc_b {c : Int} {Y : yS} (hi : yInv c Y) (k : Int) {w : Int} (h0 : 0 ≤ w) (h1 : w < Y 8 0) : 0 ≤ yBc Y k w ∧ yBc Y k w ≤ 360 := by
  have hw := yI_w hi h0 h1
  unfold yBc
  by_cases q : yBis Y k w
  · rw [pif_t q]
    by_cases q2 : k < 4
    · rw [pif_t q2]
      have a1 : 0 ≤ Y 9 w * Y 11 w := Int.mul_nonneg (by omega) (by omega)
      have a2 : Y 9 w * Y 11 w ≤ 40 * 9 := Int.mul_le_mul (by omega) (by omega) (by omega) (by omega)
      omega
    · rw [pif_f q2]; omega
  · rw [pif_f q]; omega
section M13
variable {E : zE} {d a : Nat} {M : zM} {Y : yS} {c : Int}
theorem c_bound (hs : mSh a M) (hc : mCo a M Y) (hi : yInv c Y) (ha : yAcy Y) : zCi E mX7_bound (d + 2) 0 0 [vR (some a)] M (fun r M' => r = boundR Y ∧ mPo a M M' Y) := by
  refine sX7_bound _ (fun X hr => vX7_bound_0 hr _ ⟨hs.1, _, c_way hs hc hi ha, ?_⟩)
  rintro r0 M1 ⟨rfl, hm⟩
  have hp := hm.1
  have h8 := yI_n hi
  have hsp := yI_sp hi
  have wb := wayR_b hi hm
  have tb : ∀ k, 0 ≤ k → k < 8 + Y 1 0 → 0 ≤ yBt Y k ∧ yBt Y k ≤ 99 := fun k k0 k1 => by
    unfold yBt
    by_cases q : k < 4
    · rw [pif_t q]; exact hi.2.2.2.2.2.2.2.1 k
    · rw [pif_f q]
      by_cases q2 : k < 8
      · rw [pif_t q2]; have := hi.2.2.2.2.2.2.2.2.1 (k - 4); omega
      · rw [pif_f q2]; have := hi.2.2.2.2.2.1 (k - 8) (by omega) (by omega); omega
  have sb : ∀ k j, 0 ≤ j → j ≤ Y 8 0 → 0 ≤ ysum (yBc Y k) j ∧ ysum (yBc Y k) j ≤ 14400 := fun k j j0 j1 => by
    have := ysum_b (f := yBc Y k) (b := 360) j0 (fun o o0 o1 => yBc_b hi k o0 (by omega))
    omega
  have L7 : ∀ k : Int, 0 ≤ k → k ≤ 8 + Y 1 0 → (∀ j, 0 ≤ j → j < k → ¬ (yBs Y j ≠ 0 ∧ yBt Y j = 0)) → ZX7_bound E (d + 1) X (fun r M' => r = boundR Y ∧ mPo a M M' Y) 7 [(0, vR (some a)), (1, vI (yfold (yBf Y) (wayR Y) k)), (2, vI k)] [] M1 0 0 := by
    refine zdownI (n := 8 + Y 1 0) (fun k hk hk0 hk2 hj => ?_) (fun k hk0 hk ih hk2 hj => ?_)
    · have hk : k = 8 + Y 1 0 := by omega
      subst hk
      refine vX7_bound_7 hr _ _ _ ?_
      simp only [mk0 hp.1, mr2 hp.1, mk2 hp.1, mi2 hp.2.1, mr3 hp.1, mk3 hp.1, mi3 hp.2.1, mr4 hp.1, mk4 hp.1, mi4 hp.2.1, mr5 hp.1, mk5 hp.1, mi5 hp.2.1, mr7 hp.1, mk7 hp.1, mi7 hp.2.1, mr9 hp.1, mk9 hp.1, mi9 hp.2.1, mr10 hp.1, mk10 hp.1, mi10 hp.2.1, mr11 hp.1, mk11 hp.1, mi11 hp.2.1, mr12 hp.1, mk12 hp.1, mi12 hp.2.1, mr13 hp.1, mk13 hp.1, mi13 hp.2.1, mr14 hp.1, mk14 hp.1, mi14 hp.2.1, mr15 hp.1, mk15 hp.1, mi15 hp.2.1, mr16 hp.1, mk16 hp.1, mi16 hp.2.1, mr17 hp.1, mk17 hp.1, mi17 hp.2.1, mr18 hp.1, mk18 hp.1, mi18 hp.2.1, mr19 hp.1, mk19 hp.1, mr20 hp.1, mk20 hp.1, mr21 hp.1, mk21 hp.1, mr22 hp.1, mk22 hp.1, mr23 hp.1, mk23 hp.1, mr24 hp.1, mk24 hp.1, mi0 hp.2.1, mi1 hp.2.1, mi6 hp.2.1, mi8 hp.2.1, Option.some.injEq, exists_eq_left', true_and]
      refine ⟨by unfold zin; omega, fun _ => ⟨?_, hp⟩, fun z => by omega⟩
      unfold boundR
      rw [pif_f]
      rintro ⟨j, j0, j1, j2⟩
      exact hj j j0 j1 j2
    · have ih := ih (by omega)
      rw [yfold_s hk0] at ih
      generalize yfold (yBf Y) (wayR Y) k = v at ih ⊢
      have hih : ∀ u : Int, yBf Y v k = u → ¬ (yBs Y k ≠ 0 ∧ yBt Y k = 0) → ZX7_bound E (d + 1) X (fun r M' => r = boundR Y ∧ mPo a M M' Y) 7 [(0, vR (some a)), (1, vI u), (2, vI (k + 1))] [] M1 0 0 := fun u e n => by
        rw [e] at ih
        exact ih (fun j j0 j1 => by
          by_cases ej : j = k
          · rw [ej]; exact n
          · exact hj j j0 (by omega))
      have tk := tb k hk0 hk
      have L184 : ZX7_bound E (d + 1) X (fun r M' => r = boundR Y ∧ mPo a M M' Y) 184 [(0, vR (some a)), (1, vI v), (2, vI k), (3, vI (yBs Y k)), (4, vI (yBt Y k))] [] M1 0 0 := by
        have sk := sb k (Y 8 0) h8.1 (Int.le_refl _)
        have sk : 0 ≤ yBs Y k ∧ yBs Y k ≤ 14400 := sk
        have zk : zin (k + 1) := by unfold zin; omega
        refine vX7_bound_184 hr _ _ _ _ _ ⟨fun q => ⟨fun q2 => ⟨by unfold zin; omega, by unfold zin; omega, by omega, fun q3 => ⟨zk, hih _ ?_ (fun z => q2 z.2)⟩, fun q3 => ⟨zk, hih _ ?_ (fun z => q2 z.2)⟩⟩, fun q2 => ⟨?_, hp⟩⟩, fun q => ⟨zk, hih _ ?_ (fun z => z.1 q)⟩⟩
        · unfold yBf; rw [pif_f (fun z => by have := z.2; unfold yBq at this; omega)]
        · unfold yBf; rw [pif_t ⟨q, q3⟩]; rfl
        · unfold boundR; rw [pif_t ⟨k, hk0, hk, q, q2⟩]
        · unfold yBf; rw [pif_f (fun z => z.1 q)]
      have L142 : ∀ x4 : Int, ZX7_bound E (d + 1) X (fun r M' => r = boundR Y ∧ mPo a M M' Y) 142 [(0, vR (some a)), (1, vI v), (2, vI k), (3, vI (yBs Y k)), (4, vI x4)] [] M1 0 0 := by
        intro x4
        refine vX7_bound_142 hr _ _ _ _ _ ?_
        simp only [mk0 hp.1, mr2 hp.1, mk2 hp.1, mi2 hp.2.1, mr3 hp.1, mk3 hp.1, mi3 hp.2.1, mr4 hp.1, mk4 hp.1, mi4 hp.2.1, mr5 hp.1, mk5 hp.1, mi5 hp.2.1, mr7 hp.1, mk7 hp.1, mi7 hp.2.1, mr9 hp.1, mk9 hp.1, mi9 hp.2.1, mr10 hp.1, mk10 hp.1, mi10 hp.2.1, mr11 hp.1, mk11 hp.1, mi11 hp.2.1, mr12 hp.1, mk12 hp.1, mi12 hp.2.1, mr13 hp.1, mk13 hp.1, mi13 hp.2.1, mr14 hp.1, mk14 hp.1, mi14 hp.2.1, mr15 hp.1, mk15 hp.1, mi15 hp.2.1, mr16 hp.1, mk16 hp.1, mi16 hp.2.1, mr17 hp.1, mk17 hp.1, mi17 hp.2.1, mr18 hp.1, mk18 hp.1, mi18 hp.2.1, mr19 hp.1, mk19 hp.1, mr20 hp.1, mk20 hp.1, mr21 hp.1, mk21 hp.1, mr22 hp.1, mk22 hp.1, mr23 hp.1, mk23 hp.1, mr24 hp.1, mk24 hp.1, mi0 hp.2.1, mi1 hp.2.1, mi6 hp.2.1, mi8 hp.2.1, Option.some.injEq, exists_eq_left', true_and]
        refine ⟨fun q => ⟨fun q2 => ⟨by unfold zin; omega, by omega, by omega, ?_⟩, fun q2 => ⟨by unfold zin; omega, by omega, by omega, ?_⟩⟩, fun q => ⟨hk0, by omega, ?_⟩⟩
        · have e : yBt Y k = Y 2 (k - 8) := by unfold yBt; rw [pif_f (by omega), pif_f (by omega)]
          rw [← e]; exact L184
        · have e : yBt Y k = Y 5 (k - 4) := by unfold yBt; rw [pif_f (by omega), pif_t q2]
          rw [← e]; exact L184
        · have e : yBt Y k = Y 4 k := by unfold yBt; rw [pif_t q]
          rw [← e]; exact L184
      have L23 : ∀ w : Int, 0 ≤ w → w ≤ Y 8 0 → ZX7_bound E (d + 1) X (fun r M' => r = boundR Y ∧ mPo a M M' Y) 23 [(0, vR (some a)), (1, vI v), (2, vI k), (3, vI (ysum (yBc Y k) w)), (4, vI w)] [] M1 0 0 := by
        refine zdownI (n := Y 8 0) (fun w hw hw0 hw2 => ?_) (fun w hw0 hw ih2 hw2 => ?_)
        · have hw : w = Y 8 0 := by omega
          subst hw
          exact vX7_bound_23 hr _ _ _ _ _ ⟨hp.1.1, fun _ => L142 _, fun z => absurd z (by rw [mi8 hp.2.1]; omega)⟩
        · have ih2 := ih2 (by omega)
          rw [ysum_s hw0] at ih2
          have s1 := sb k w hw0 hw2
          have cb := yBc_b hi k hw0 hw
          have hww := yI_w hi hw0 hw
          have zw : zin (w + 1) := by unfold zin; omega
          have n104 : ¬ yBis Y k w → ZX7_bound E (d + 1) X (fun r M' => r = boundR Y ∧ mPo a M M' Y) 104 [(0, vR (some a)), (1, vI v), (2, vI k), (3, vI (ysum (yBc Y k) w)), (4, vI w), (5, vI 0)] [] M1 0 0 := fun n => by
            refine vX7_bound_104 hr _ _ _ _ _ _ ⟨fun _ => ⟨zw, ?_⟩, fun z => absurd rfl z⟩
            have e : yBc Y k w = 0 := by unfold yBc; rw [pif_f n]
            rw [e, Int.add_zero] at ih2
            exact ih2
          have y104 : yBis Y k w → ZX7_bound E (d + 1) X (fun r M' => r = boundR Y ∧ mPo a M M' Y) 104 [(0, vR (some a)), (1, vI v), (2, vI k), (3, vI (ysum (yBc Y k) w)), (4, vI w), (5, vI 1)] [] M1 0 0 := fun n => by
            refine vX7_bound_104 hr _ _ _ _ _ _ ?_
            simp only [mk0 hp.1, mr2 hp.1, mk2 hp.1, mi2 hp.2.1, mr3 hp.1, mk3 hp.1, mi3 hp.2.1, mr4 hp.1, mk4 hp.1, mi4 hp.2.1, mr5 hp.1, mk5 hp.1, mi5 hp.2.1, mr7 hp.1, mk7 hp.1, mi7 hp.2.1, mr9 hp.1, mk9 hp.1, mi9 hp.2.1, mr10 hp.1, mk10 hp.1, mi10 hp.2.1, mr11 hp.1, mk11 hp.1, mi11 hp.2.1, mr12 hp.1, mk12 hp.1, mi12 hp.2.1, mr13 hp.1, mk13 hp.1, mi13 hp.2.1, mr14 hp.1, mk14 hp.1, mi14 hp.2.1, mr15 hp.1, mk15 hp.1, mi15 hp.2.1, mr16 hp.1, mk16 hp.1, mi16 hp.2.1, mr17 hp.1, mk17 hp.1, mi17 hp.2.1, mr18 hp.1, mk18 hp.1, mi18 hp.2.1, mr19 hp.1, mk19 hp.1, mr20 hp.1, mk20 hp.1, mr21 hp.1, mk21 hp.1, mr22 hp.1, mk22 hp.1, mr23 hp.1, mk23 hp.1, mr24 hp.1, mk24 hp.1, mi0 hp.2.1, mi1 hp.2.1, mi6 hp.2.1, mi8 hp.2.1, Option.some.injEq, exists_eq_left', true_and]
            refine ⟨fun z => by omega, fun _ => ⟨hw0, by omega, fun q => ?_, fun q => ⟨hw0, by omega, ?_⟩⟩⟩
            · have e : yBc Y k w = Y 9 w * 1 := by unfold yBc; rw [pif_t n, pif_f (by omega)]
              rw [e] at ih2 cb
              exact ⟨by unfold zin; omega, by unfold zin; omega, zw, ih2⟩
            · have e : yBc Y k w = Y 9 w * Y 11 w := by unfold yBc; rw [pif_t n, pif_t q]
              rw [e] at ih2 cb
              exact ⟨by unfold zin; omega, by unfold zin; omega, zw, ih2⟩
          refine vX7_bound_23 hr _ _ _ _ _ ?_
          simp only [mk0 hp.1, mr2 hp.1, mk2 hp.1, mi2 hp.2.1, mr3 hp.1, mk3 hp.1, mi3 hp.2.1, mr4 hp.1, mk4 hp.1, mi4 hp.2.1, mr5 hp.1, mk5 hp.1, mi5 hp.2.1, mr7 hp.1, mk7 hp.1, mi7 hp.2.1, mr9 hp.1, mk9 hp.1, mi9 hp.2.1, mr10 hp.1, mk10 hp.1, mi10 hp.2.1, mr11 hp.1, mk11 hp.1, mi11 hp.2.1, mr12 hp.1, mk12 hp.1, mi12 hp.2.1, mr13 hp.1, mk13 hp.1, mi13 hp.2.1, mr14 hp.1, mk14 hp.1, mi14 hp.2.1, mr15 hp.1, mk15 hp.1, mi15 hp.2.1, mr16 hp.1, mk16 hp.1, mi16 hp.2.1, mr17 hp.1, mk17 hp.1, mi17 hp.2.1, mr18 hp.1, mk18 hp.1, mi18 hp.2.1, mr19 hp.1, mk19 hp.1, mr20 hp.1, mk20 hp.1, mr21 hp.1, mk21 hp.1, mr22 hp.1, mk22 hp.1, mr23 hp.1, mk23 hp.1, mr24 hp.1, mk24 hp.1, mi0 hp.2.1, mi1 hp.2.1, mi6 hp.2.1, mi8 hp.2.1, Option.some.injEq, exists_eq_left', true_and]
          refine ⟨fun z => by omega, fun _ => ⟨fun q => ⟨fun q2 => ⟨hw0, by omega, by unfold zin; omega, fun q3 => n104 ?_, fun q3 => y104 (Or.inr (Or.inr ⟨q2, q3⟩))⟩, fun q2 => ⟨hw0, by omega, by unfold zin; omega, fun q3 => n104 ?_, fun q3 => y104 (Or.inr (Or.inl ⟨q, q2, q3⟩))⟩⟩, fun q => ⟨hw0, by omega, fun q3 => n104 ?_, fun q3 => y104 (Or.inl ⟨q, q3⟩)⟩⟩⟩
          · rintro (z | z | z)
            · omega
            · omega
            · exact q3 z.2
          · rintro (z | z | z)
            · omega
            · exact q3 z.2.2
            · omega
          · rintro (z | z | z)
            · exact q3 z.2
            · omega
            · omega
      refine vX7_bound_7 hr _ _ _ ?_
      simp only [mk0 hp.1, mr2 hp.1, mk2 hp.1, mi2 hp.2.1, mr3 hp.1, mk3 hp.1, mi3 hp.2.1, mr4 hp.1, mk4 hp.1, mi4 hp.2.1, mr5 hp.1, mk5 hp.1, mi5 hp.2.1, mr7 hp.1, mk7 hp.1, mi7 hp.2.1, mr9 hp.1, mk9 hp.1, mi9 hp.2.1, mr10 hp.1, mk10 hp.1, mi10 hp.2.1, mr11 hp.1, mk11 hp.1, mi11 hp.2.1, mr12 hp.1, mk12 hp.1, mi12 hp.2.1, mr13 hp.1, mk13 hp.1, mi13 hp.2.1, mr14 hp.1, mk14 hp.1, mi14 hp.2.1, mr15 hp.1, mk15 hp.1, mi15 hp.2.1, mr16 hp.1, mk16 hp.1, mi16 hp.2.1, mr17 hp.1, mk17 hp.1, mi17 hp.2.1, mr18 hp.1, mk18 hp.1, mi18 hp.2.1, mr19 hp.1, mk19 hp.1, mr20 hp.1, mk20 hp.1, mr21 hp.1, mk21 hp.1, mr22 hp.1, mk22 hp.1, mr23 hp.1, mk23 hp.1, mr24 hp.1, mk24 hp.1, mi0 hp.2.1, mi1 hp.2.1, mi6 hp.2.1, mi8 hp.2.1, Option.some.injEq, exists_eq_left', true_and]
      exact ⟨by unfold zin; omega, fun z => by omega, fun _ => L23 0 (by omega) h8.1⟩
  exact L7 0 (by omega) (by omega) (fun j j0 j1 => by omega)
end M13
