/-! ===== contracts of the reference: rules, places ===== -/
noncomputable def yCn (Y : yS) (w rule s o : Int) : Int := pif (yIn Y o s) (pif (rule = 2) (pif (Y 10 o = Y 10 w) (Y 11 o) 0) (pif (rule = 3) (p2i (Y 14 w ≠ -1 ∧ Y 14 o = Y 14 w)) (pif (rule = 4) (p2i (Y 12 o = Y 12 w)) (p2i (o ≠ w ∧ yBar Y o w))))) 0
noncomputable def yTot (Y : yS) (w rule s : Int) : Int := ysum (yCn Y w rule s) (Y 8 0)
def yBroken (Y : yS) (w rule s : Int) : Prop := (rule = 2 ∧ Y 4 (Y 10 w) < yTot Y w rule s) ∨ (rule = 3 ∧ Y 14 w ≠ -1 ∧ Y 5 (Y 14 w) < yTot Y w rule s) ∨ (rule = 4 ∧ Y 2 (Y 12 w) < yTot Y w rule s) ∨ (rule ≠ 2 ∧ rule ≠ 3 ∧ rule ≠ 4 ∧ 0 < yTot Y w rule s)
theorem yCn_b {c : Int} {Y : yS} (hi : yInv c Y) (w rule s o : Int) (h0 : 0 ≤ o) (h1 : o < Y 8 0) : 0 ≤ yCn Y w rule s o ∧ yCn Y w rule s o ≤ 9 := by
  have ho := yI_w hi h0 h1
  have e : ∀ p : Prop, 0 ≤ p2i p ∧ p2i p ≤ 9 := fun p => by rcases p2i_01 p with q | q <;> rw [q] <;> omega
  unfold yCn
  by_cases q : yIn Y o s
  · rw [pif_t q]
    by_cases q2 : rule = 2
    · rw [pif_t q2]
      by_cases q3 : Y 10 o = Y 10 w
      · rw [pif_t q3]; omega
      · rw [pif_f q3]; omega
    · rw [pif_f q2]
      by_cases q3 : rule = 3
      · rw [pif_t q3]; exact e _
      · rw [pif_f q3]
        by_cases q4 : rule = 4
        · rw [pif_t q4]; exact e _
        · rw [pif_f q4]; exact e _
  · rw [pif_f q]; omega
theorem ySm_b {c : Int} {Y : yS} (hi : yInv c Y) (w rule s k : Int) (h0 : 0 ≤ k) (h1 : k ≤ Y 8 0) : 0 ≤ ysum (yCn Y w rule s) k ∧ ysum (yCn Y w rule s) k ≤ 360 := by
  have h8 := yI_n hi
  have := ysum_b (f := yCn Y w rule s) (b := 9) h0 (fun o a b => yCn_b hi w rule s o a (by omega))
  omega
def yLate (Y : yS) (w : Int) : Prop := ∃ k, 0 ≤ k ∧ k < Y 8 0 ∧ yNd Y w k ∧ (¬ yPut Y k ∨ Y 15 w < yEnd Y k)
noncomputable def yBreaks (Y : yS) (w rule : Int) : Int := pif (rule = 1) (pif (yLate Y w) (Y 15 w) (-1)) (ylst (yBroken Y w rule) (Y 15 w) (yEnd Y w))
def yBad (Y : yS) (w : Int) : Prop := ∃ r, 1 ≤ r ∧ r ≤ 5 ∧ yBreaks Y w r ≠ -1
section M4
variable {E : zE} {d a : Nat} {M : zM} {Y : yS} {c : Int}
set_option maxHeartbeats 1600000 in
theorem c_isBroken (hs : mSh a M) (hc : mCo a M Y) (hi : yInv c Y) {w rule s : Int} (h0 : 0 ≤ w) (h1 : w < Y 8 0) : zCi E mX7_isBroken (d + 3) 0 0 [vR (some a), vI w, vI rule, vI s] M (fun r M' => r = p2i (yBroken Y w rule s) ∧ M' = M) := by
  refine sX7_isBroken _ _ _ _ (fun X hr => vX7_isBroken_0 hr _ _ _ _ ?_)
  have h8 := yI_n hi
  have hsp := yI_sp hi
  have hw := yI_w hi h0 h1
  have key : ∀ k : Int, 0 ≤ k → k ≤ Y 8 0 → ZX7_isBroken E (d + 2) X (fun r M' => r = p2i (yBroken Y w rule s) ∧ M' = M) 6 [(0, vR (some a)), (1, vI w), (2, vI rule), (3, vI s), (4, vI (ysum (yCn Y w rule s) k)), (5, vI k)] [] M 0 0 := by
    refine zdownI (n := Y 8 0) (fun k hk hk0 hk2 => ?_) (fun k hk0 hk ih hk2 => ?_)
    · have hk : k = Y 8 0 := by omega
      subst hk
      refine vX7_isBroken_6 hr _ _ _ _ _ _ ?_
      simp only [mk0 hs, mr2 hs, mk2 hs, mi2 hc, mr3 hs, mk3 hs, mi3 hc, mr4 hs, mk4 hs, mi4 hc, mr5 hs, mk5 hs, mi5 hc, mr7 hs, mk7 hs, mi7 hc, mr9 hs, mk9 hs, mi9 hc, mr10 hs, mk10 hs, mi10 hc, mr11 hs, mk11 hs, mi11 hc, mr12 hs, mk12 hs, mi12 hc, mr13 hs, mk13 hs, mi13 hc, mr14 hs, mk14 hs, mi14 hc, mr15 hs, mk15 hs, mi15 hc, mr16 hs, mk16 hs, mi16 hc, mr17 hs, mk17 hs, mi17 hc, mr18 hs, mk18 hs, mi18 hc, mr19 hs, mk19 hs, mr20 hs, mk20 hs, mr21 hs, mk21 hs, mr22 hs, mk22 hs, mr23 hs, mk23 hs, mr24 hs, mk24 hs, mi0 hc, mi1 hc, mi6 hc, mi8 hc, Option.some.injEq, exists_eq_left', true_and]
      refine ⟨fun _ => ⟨fun q2 => ⟨fun q3 => ⟨fun q4 => ⟨fun q => ⟨p2i_z0 ?_, by trivial⟩, fun q => ⟨p2i_z1 (Or.inr (Or.inr (Or.inr ⟨q2, q3, q4, q⟩))), by trivial⟩⟩, fun q4 => ⟨h0, by omega, by omega, by omega, fun q => ⟨p2i_z0 ?_, by trivial⟩, fun q => ⟨p2i_z1 (Or.inr (Or.inr (Or.inl ⟨q4, q⟩))), by trivial⟩⟩⟩, fun q3 => ⟨h0, by omega, fun q => ⟨p2i_z0 ?_, by trivial⟩, fun q' => ⟨h0, by omega, by omega, by omega, fun q => ⟨p2i_z0 ?_, by trivial⟩, fun q => ⟨p2i_z1 (Or.inr (Or.inl ⟨q3, q', q⟩)), by trivial⟩⟩⟩⟩, fun q2 => ⟨h0, by omega, by omega, by omega, fun q => ⟨p2i_z0 ?_, by trivial⟩, fun q => ⟨p2i_z1 (Or.inl ⟨q2, q⟩), by trivial⟩⟩⟩, fun q => by omega⟩
      · unfold yBroken yTot; omega
      · unfold yBroken yTot; omega
      · unfold yBroken yTot; omega
      · unfold yBroken yTot; omega
      · unfold yBroken yTot; omega
    · have ih := ih (by omega)
      have hko := yI_w hi hk0 hk
      have hb := ySm_b hi w rule s k hk0 hk2
      have st : ∀ v : Int, yCn Y w rule s k = v → ZX7_isBroken E (d + 2) X (fun r M' => r = p2i (yBroken Y w rule s) ∧ M' = M) 6 [(0, vR (some a)), (1, vI w), (2, vI rule), (3, vI s), (4, vI (ysum (yCn Y w rule s) k + v)), (5, vI (k + 1))] [] M 0 0 := fun v e => by
        rw [ysum_s hk0, e] at ih
        exact ih
      refine vX7_isBroken_6 hr _ _ _ _ _ _ ?_
      refine ⟨hs.1, fun q => absurd q (by rw [mi8 hc]; omega), fun _ => ⟨hs.1, zu (c_isIn hs hc hi hk0 hk) ⟨fun qi => ?_, fun qi => ?_⟩⟩⟩
      · have qi := p2i_n0.mp qi
        have zk : zin (k + 1) := by unfold zin; omega
        have z0 : zin (ysum (yCn Y w rule s) k + 0) := by unfold zin; omega
        have z1 : zin (ysum (yCn Y w rule s) k + 1) := by unfold zin; omega
        have z2 : zin (ysum (yCn Y w rule s) k + Y 11 k) := by unfold zin; omega
        simp only [mk0 hs, mr2 hs, mk2 hs, mi2 hc, mr3 hs, mk3 hs, mi3 hc, mr4 hs, mk4 hs, mi4 hc, mr5 hs, mk5 hs, mi5 hc, mr7 hs, mk7 hs, mi7 hc, mr9 hs, mk9 hs, mi9 hc, mr10 hs, mk10 hs, mi10 hc, mr11 hs, mk11 hs, mi11 hc, mr12 hs, mk12 hs, mi12 hc, mr13 hs, mk13 hs, mi13 hc, mr14 hs, mk14 hs, mi14 hc, mr15 hs, mk15 hs, mi15 hc, mr16 hs, mk16 hs, mi16 hc, mr17 hs, mk17 hs, mi17 hc, mr18 hs, mk18 hs, mi18 hc, mr19 hs, mk19 hs, mr20 hs, mk20 hs, mr21 hs, mk21 hs, mr22 hs, mk22 hs, mr23 hs, mk23 hs, mr24 hs, mk24 hs, mi0 hc, mi1 hc, mi6 hc, mi8 hc, Option.some.injEq, exists_eq_left', true_and]
        refine ⟨fun q2 => ⟨hk0, by omega, h0, by omega, fun q => ⟨z0, zk, st 0 ?_⟩, fun q => ⟨hk0, by omega, z2, zk, st _ ?_⟩⟩, fun q2 => ⟨h0, by omega, fun q => ⟨z0, zk, st 0 ?_⟩, fun q' => ⟨hk0, by omega, h0, by omega, fun q => ⟨z0, zk, st 0 ?_⟩, fun q => ⟨z1, zk, st 1 ?_⟩⟩⟩, fun q2 => ⟨hk0, by omega, h0, by omega, fun q => ⟨z0, zk, st 0 ?_⟩, fun q => ⟨z1, zk, st 1 ?_⟩⟩, fun q2 => ⟨fun q => ⟨z0, zk, st 0 ?_⟩, fun q => zu (c_isBarred hs hc hi hk0 hk h0 h1) ⟨fun q3 => ⟨z0, zk, st 0 ?_⟩, fun q3 => ⟨z1, zk, st 1 ?_⟩⟩⟩⟩
        · unfold yCn; rw [pif_t qi, pif_t q2, pif_f q]
        · unfold yCn; rw [pif_t qi, pif_t q2, pif_t q]
        · unfold yCn; rw [pif_t qi, pif_f (by omega), pif_t q2, p2i_f (fun z => z.1 q)]
        · unfold yCn; rw [pif_t qi, pif_f (by omega), pif_t q2, p2i_f (fun z => q z.2)]
        · unfold yCn; rw [pif_t qi, pif_f (by omega), pif_t q2, p2i_t ⟨q', q⟩]
        · unfold yCn; rw [pif_t qi, pif_f (by omega), pif_f (by omega), pif_t q2, p2i_f q]
        · unfold yCn; rw [pif_t qi, pif_f (by omega), pif_f (by omega), pif_t q2, p2i_t q]
        · unfold yCn; rw [pif_t qi, pif_f (by omega), pif_f (by omega), pif_f (by omega), p2i_f (fun z => z.1 q)]
        · unfold yCn; rw [pif_t qi, pif_f (by omega), pif_f (by omega), pif_f (by omega), p2i_f (fun z => p2i_0.mp q3 z.2)]
        · unfold yCn; rw [pif_t qi, pif_f (by omega), pif_f (by omega), pif_f (by omega), p2i_t ⟨q, p2i_n0.mp q3⟩]
      · have := st 0 (by unfold yCn; rw [pif_f (p2i_0.mp qi)])
        rw [Int.add_zero] at this
        exact ⟨by unfold zin; omega, this⟩
  exact key 0 (by omega) (by omega)
theorem c_breaks (hs : mSh a M) (hc : mCo a M Y) (hi : yInv c Y) {w : Int} (rule : Int) (h0 : 0 ≤ w) (h1 : w < Y 8 0) (hp : yPut Y w) : zCi E mX7_breaks (d + 4) 0 0 [vR (some a), vI w, vI rule] M (fun r M' => r = yBreaks Y w rule ∧ M' = M) := by
  refine sX7_breaks _ _ _ (fun X hr => vX7_breaks_0 hr _ _ _ ?_)
  have h8 := yI_n hi
  have hw := yI_w hi h0 h1
  have hp0 : 0 ≤ Y 15 w := by unfold yPut at hp; omega
  simp only [mk0 hs, mr2 hs, mk2 hs, mi2 hc, mr3 hs, mk3 hs, mi3 hc, mr4 hs, mk4 hs, mi4 hc, mr5 hs, mk5 hs, mi5 hc, mr7 hs, mk7 hs, mi7 hc, mr9 hs, mk9 hs, mi9 hc, mr10 hs, mk10 hs, mi10 hc, mr11 hs, mk11 hs, mi11 hc, mr12 hs, mk12 hs, mi12 hc, mr13 hs, mk13 hs, mi13 hc, mr14 hs, mk14 hs, mi14 hc, mr15 hs, mk15 hs, mi15 hc, mr16 hs, mk16 hs, mi16 hc, mr17 hs, mk17 hs, mi17 hc, mr18 hs, mk18 hs, mi18 hc, mr19 hs, mk19 hs, mr20 hs, mk20 hs, mr21 hs, mk21 hs, mr22 hs, mk22 hs, mr23 hs, mk23 hs, mr24 hs, mk24 hs, mi0 hc, mi1 hc, mi6 hc, mi8 hc, Option.some.injEq, exists_eq_left', true_and]
  refine ⟨fun q => ⟨h0, by omega, ?_⟩, fun q => ?_⟩
  · have key : ∀ s : Int, 0 ≤ s → (ylst (yBroken Y w rule) s (yEnd Y w) = yBreaks Y w rule) → s ≤ 400 → ZX7_breaks E (d + 3) X (fun r M' => r = yBreaks Y w rule ∧ M' = M) 73 [(0, vR (some a)), (1, vI w), (2, vI rule), (3, vI s)] [] M 0 0 := by
      refine zdownI (n := yEnd Y w) (fun s hk hk0 e hk2 => ?_) (fun s hk0 hk ih e hk2 => ?_)
      · refine vX7_breaks_73 hr _ _ _ _ ⟨hs.1, zu (c_endOf hs hc hi h0 h1) ⟨fun _ => ⟨?_, by trivial⟩, fun z => by omega⟩⟩
        rw [← e, ylst_n hk]
      · refine vX7_breaks_73 hr _ _ _ _ ⟨hs.1, zu (c_endOf hs hc hi h0 h1) ⟨fun z => by omega, fun _ => ⟨hs.1, zu (c_isBroken hs hc hi h0 h1) ⟨fun z => ⟨by unfold zin; omega, ih ?_ ?_⟩, fun z => ⟨?_, by trivial⟩⟩⟩⟩⟩
        · rw [← e, ylst_f hk (p2i_0.mp z)]
        · unfold yEnd at hk; omega
        · rw [← e, ylst_t hk (p2i_n0.mp z)]
    refine key _ hp0 ?_ (by omega)
    unfold yBreaks
    rw [pif_f q]
  · subst q
    have key : ∀ k : Int, 0 ≤ k → (∀ j, 0 ≤ j → j < k → j < Y 8 0 → ¬ (yNd Y w j ∧ (¬ yPut Y j ∨ Y 15 w < yEnd Y j))) → k ≤ Y 8 0 → ZX7_breaks E (d + 3) X (fun r M' => r = yBreaks Y w 1 ∧ M' = M) 7 [(0, vR (some a)), (1, vI w), (2, vI 1), (3, vI k)] [] M 0 0 := by
      refine zdownI (n := Y 8 0) (fun k hk hk0 e hk2 => ?_) (fun k hk0 hk ih e hk2 => ?_)
      · refine vX7_breaks_7 hr _ _ _ _ ⟨hs.1, fun _ => ⟨?_, by trivial⟩, fun z => absurd z (by rw [mi8 hc]; omega)⟩
        unfold yBreaks
        rw [pif_t rfl, pif_f]
        rintro ⟨j, a1, a2, a3⟩
        exact e j a1 (by omega) a2 a3
      · have go : ¬ (yNd Y w k ∧ (¬ yPut Y k ∨ Y 15 w < yEnd Y k)) → ZX7_breaks E (d + 3) X (fun r M' => r = yBreaks Y w 1 ∧ M' = M) 7 [(0, vR (some a)), (1, vI w), (2, vI 1), (3, vI (k + 1))] [] M 0 0 := fun n => ih (fun j a1 a2 a3 => by
          by_cases ej : j = k
          · rw [ej]; exact n
          · exact e j a1 (by omega) a3) (by omega)
        have hit : (yNd Y w k ∧ (¬ yPut Y k ∨ Y 15 w < yEnd Y k)) → Y 15 w = yBreaks Y w 1 := fun n => by
          unfold yBreaks
          rw [pif_t rfl, pif_t ⟨k, hk0, hk, n⟩]
        refine vX7_breaks_7 hr _ _ _ _ ?_
        simp only [mk0 hs, mr2 hs, mk2 hs, mi2 hc, mr3 hs, mk3 hs, mi3 hc, mr4 hs, mk4 hs, mi4 hc, mr5 hs, mk5 hs, mi5 hc, mr7 hs, mk7 hs, mi7 hc, mr9 hs, mk9 hs, mi9 hc, mr10 hs, mk10 hs, mi10 hc, mr11 hs, mk11 hs, mi11 hc, mr12 hs, mk12 hs, mi12 hc, mr13 hs, mk13 hs, mi13 hc, mr14 hs, mk14 hs, mi14 hc, mr15 hs, mk15 hs, mi15 hc, mr16 hs, mk16 hs, mi16 hc, mr17 hs, mk17 hs, mi17 hc, mr18 hs, mk18 hs, mi18 hc, mr19 hs, mk19 hs, mr20 hs, mk20 hs, mr21 hs, mk21 hs, mr22 hs, mk22 hs, mr23 hs, mk23 hs, mr24 hs, mk24 hs, mi0 hc, mi1 hc, mi6 hc, mi8 hc, Option.some.injEq, exists_eq_left', true_and]
        refine ⟨fun z => by omega, fun _ => ⟨by unfold zin; omega, by unfold zin; omega, by omega, by omega, fun q => ⟨by unfold zin; omega, go (fun z => z.1 q)⟩, fun q => zu (c_isPut hs hc hk0 (by omega)) ⟨fun q2 => ?_, fun q2 => ?_⟩⟩⟩
        · simp only [mk0 hs, mr2 hs, mk2 hs, mi2 hc, mr3 hs, mk3 hs, mi3 hc, mr4 hs, mk4 hs, mi4 hc, mr5 hs, mk5 hs, mi5 hc, mr7 hs, mk7 hs, mi7 hc, mr9 hs, mk9 hs, mi9 hc, mr10 hs, mk10 hs, mi10 hc, mr11 hs, mk11 hs, mi11 hc, mr12 hs, mk12 hs, mi12 hc, mr13 hs, mk13 hs, mi13 hc, mr14 hs, mk14 hs, mi14 hc, mr15 hs, mk15 hs, mi15 hc, mr16 hs, mk16 hs, mi16 hc, mr17 hs, mk17 hs, mi17 hc, mr18 hs, mk18 hs, mi18 hc, mr19 hs, mk19 hs, mr20 hs, mk20 hs, mr21 hs, mk21 hs, mr22 hs, mk22 hs, mr23 hs, mk23 hs, mr24 hs, mk24 hs, mi0 hc, mi1 hc, mi6 hc, mi8 hc, Option.some.injEq, exists_eq_left', true_and]
          exact ⟨h0, by omega, hit ⟨q, Or.inl (p2i_0.mp q2)⟩, by trivial⟩
        · refine ⟨hs.1, zu (c_endOf hs hc hi hk0 hk) ?_⟩
          simp only [mk0 hs, mr2 hs, mk2 hs, mi2 hc, mr3 hs, mk3 hs, mi3 hc, mr4 hs, mk4 hs, mi4 hc, mr5 hs, mk5 hs, mi5 hc, mr7 hs, mk7 hs, mi7 hc, mr9 hs, mk9 hs, mi9 hc, mr10 hs, mk10 hs, mi10 hc, mr11 hs, mk11 hs, mi11 hc, mr12 hs, mk12 hs, mi12 hc, mr13 hs, mk13 hs, mi13 hc, mr14 hs, mk14 hs, mi14 hc, mr15 hs, mk15 hs, mi15 hc, mr16 hs, mk16 hs, mi16 hc, mr17 hs, mk17 hs, mi17 hc, mr18 hs, mk18 hs, mi18 hc, mr19 hs, mk19 hs, mr20 hs, mk20 hs, mr21 hs, mk21 hs, mr22 hs, mk22 hs, mr23 hs, mk23 hs, mr24 hs, mk24 hs, mi0 hc, mi1 hc, mi6 hc, mi8 hc, Option.some.injEq, exists_eq_left', true_and]
          refine ⟨h0, by omega, fun q3 => ⟨by unfold zin; omega, go (fun z => ?_)⟩, fun q3 => ⟨h0, by omega, hit ⟨q, Or.inr q3⟩, by trivial⟩⟩
          rcases z.2 with z | z
          · exact z (p2i_n0.mp q2)
          · omega
    exact key 0 (by omega) (fun j a1 a2 => by omega) (by omega)
theorem c_isBad (hs : mSh a M) (hc : mCo a M Y) (hi : yInv c Y) {w : Int} (h0 : 0 ≤ w) (h1 : w < Y 8 0) (hp : yPut Y w) : zCi E mX7_isBad (d + 5) 0 0 [vR (some a), vI w] M (fun r M' => r = p2i (yBad Y w) ∧ M' = M) := by
  refine sX7_isBad _ _ (fun X hr => vX7_isBad_0 hr _ _ ?_)
  have key : ∀ k : Int, 0 ≤ k → 1 ≤ k → k ≤ 6 → ∀ v : Int, v = p2i (∃ r, 1 ≤ r ∧ r < k ∧ yBreaks Y w r ≠ -1) → ZX7_isBad E (d + 4) X (fun r M' => r = p2i (yBad Y w) ∧ M' = M) 4 [(0, vR (some a)), (1, vI w), (2, vI v), (3, vI k)] [] M 0 0 := by
    refine zdownI (n := 6) (fun k hk hk0 hk1 hk2 v hv => ?_) (fun k hk0 hk ih hk1 hk2 v hv => ?_)
    · have hk : k = 6 := by omega
      subst hk
      have h01 : v = 0 ∨ v = 1 := by rw [hv]; exact p2i_01 _
      refine vX7_isBad_4 hr _ _ _ _ ⟨fun _ => ⟨h01, ?_, rfl⟩, fun z => by omega⟩
      rw [hv]
      unfold yBad
      congr 1
      apply propext
      exact ⟨fun ⟨r, b1, b2, b3⟩ => ⟨r, b1, by omega, b3⟩, fun ⟨r, b1, b2, b3⟩ => ⟨r, b1, by omega, b3⟩⟩
    · have ih := ih (by omega) (by omega)
      have h01 : v = 0 ∨ v = 1 := by rw [hv]; exact p2i_01 _
      refine vX7_isBad_4 hr _ _ _ _ ⟨fun z => by omega, fun _ => ⟨fun q => ⟨h01, ?_, rfl⟩, fun q => ⟨hs.1, zu (c_breaks hs hc hi k h0 h1 hp) ⟨fun q2 => ⟨by unfold zin; omega, ih _ (p2i_z0 ?_)⟩, fun q2 => ⟨by unfold zin; omega, ih _ (p2i_z1 ⟨k, hk1, by omega, q2⟩)⟩⟩⟩⟩⟩
      · rw [hv] at q
        obtain ⟨r, b1, b2, b3⟩ := p2i_n0.mp q
        rw [hv, p2i_t ⟨r, b1, b2, b3⟩]
        exact p2i_z1 ⟨r, b1, by omega, b3⟩
      · rw [hv] at q
        have q := p2i_0.mp q
        rintro ⟨r, b1, b2, b3⟩
        by_cases e : r = k
        · rw [e] at b3; exact b3 q2
        · exact q ⟨r, b1, by omega, b3⟩
  exact key 1 (by omega) (by omega) (by omega) _ (p2i_z0 (fun ⟨r, b1, b2, b3⟩ => by omega))
end M4
