/-! ===== contracts of the reference: the small methods ===== -/
noncomputable def p2i (p : Prop) : Int := @ite Int p (Classical.propDecidable p) 1 0
theorem p2i_t {p : Prop} (h : p) : p2i p = 1 := if_pos h
theorem p2i_f {p : Prop} (h : ¬ p) : p2i p = 0 := if_neg h
theorem p2i_0 {p : Prop} : p2i p = 0 ↔ ¬ p := ⟨fun h q => by rw [p2i_t q] at h; omega, p2i_f⟩
theorem p2i_n0 {p : Prop} : p2i p ≠ 0 ↔ p := ⟨fun h => Classical.byContradiction fun q => h (p2i_f q), fun q h => by rw [p2i_t q] at h; omega⟩
theorem p2i_1 {p : Prop} : p2i p = 1 ↔ p := ⟨fun h => Classical.byContradiction fun q => by rw [p2i_f q] at h; omega, p2i_t⟩
theorem p2i_01 (p : Prop) : p2i p = 0 ∨ p2i p = 1 := by
  by_cases h : p
  · exact Or.inr (p2i_t h)
  · exact Or.inl (p2i_f h)
theorem p2i_z0 {p : Prop} (h : ¬ p) : 0 = p2i p := (p2i_f h).symm
theorem p2i_z1 {p : Prop} (h : p) : 1 = p2i p := (p2i_t h).symm
/-- what holds of a state, behind c calls -/
def yInv (c : Int) (Y : yS) : Prop :=
  (0 ≤ c ∧ c ≤ 600) ∧ (0 ≤ Y 0 0 ∧ Y 0 0 ≤ 400) ∧ (0 ≤ Y 1 0 ∧ Y 1 0 ≤ 20) ∧ (0 ≤ Y 6 0 ∧ Y 6 0 ≤ c) ∧ (0 ≤ Y 8 0 ∧ Y 8 0 ≤ 40) ∧
  (∀ s, 0 ≤ s → s < Y 1 0 → 1 ≤ Y 2 s ∧ Y 2 s ≤ 9) ∧ (∀ i, Y 3 i = 0 ∨ Y 3 i = 1) ∧ (∀ t, 0 ≤ Y 4 t ∧ Y 4 t ≤ 99) ∧ (∀ g, 0 ≤ Y 5 g ∧ Y 5 g ≤ 9) ∧ (∀ i, 0 ≤ Y 7 i ∧ Y 7 i ≤ 7) ∧
  (∀ w, 0 ≤ w → w < Y 8 0 → (1 ≤ Y 9 w ∧ Y 9 w ≤ 40) ∧ (0 ≤ Y 10 w ∧ Y 10 w ≤ 3) ∧ (1 ≤ Y 11 w ∧ Y 11 w ≤ 9) ∧ (0 ≤ Y 12 w ∧ Y 12 w < Y 1 0) ∧ (0 ≤ Y 13 w ∧ Y 13 w ≤ 4) ∧ (-1 ≤ Y 14 w ∧ Y 14 w ≤ 3) ∧ (Y 15 w = -1 ∨ (0 ≤ Y 15 w ∧ Y 15 w + Y 9 w ≤ 400)) ∧ (0 ≤ Y 16 w ∧ Y 16 w ≤ c)) ∧
  (∀ i, Y 17 i = 0 ∨ Y 17 i = 1) ∧ (∀ i, Y 18 i = 0 ∨ Y 18 i = 1)
theorem yI_now {c : Int} {Y : yS} (h : yInv c Y) : 0 ≤ Y 0 0 ∧ Y 0 0 ≤ 400 := h.2.1
theorem yI_sp {c : Int} {Y : yS} (h : yInv c Y) : 0 ≤ Y 1 0 ∧ Y 1 0 ≤ 20 := h.2.2.1
theorem yI_n {c : Int} {Y : yS} (h : yInv c Y) : 0 ≤ Y 8 0 ∧ Y 8 0 ≤ 40 := h.2.2.2.2.1
theorem yI_w {c : Int} {Y : yS} (h : yInv c Y) {w : Int} (h0 : 0 ≤ w) (h1 : w < Y 8 0) : (1 ≤ Y 9 w ∧ Y 9 w ≤ 40) ∧ (0 ≤ Y 10 w ∧ Y 10 w ≤ 3) ∧ (1 ≤ Y 11 w ∧ Y 11 w ≤ 9) ∧ (0 ≤ Y 12 w ∧ Y 12 w < Y 1 0) ∧ (0 ≤ Y 13 w ∧ Y 13 w ≤ 4) ∧ (-1 ≤ Y 14 w ∧ Y 14 w ≤ 3) ∧ (Y 15 w = -1 ∨ (0 ≤ Y 15 w ∧ Y 15 w + Y 9 w ≤ 400)) ∧ (0 ≤ Y 16 w ∧ Y 16 w ≤ c) := h.2.2.2.2.2.2.2.2.2.2.1 w h0 h1
def yPut (Y : yS) (w : Int) : Prop := Y 15 w ≠ -1
def yEnd (Y : yS) (w : Int) : Int := Y 15 w + Y 9 w
def yBegun (Y : yS) (w : Int) : Prop := yPut Y w ∧ Y 15 w < Y 0 0
def yDone (Y : yS) (w : Int) : Prop := yPut Y w ∧ yEnd Y w ≤ Y 0 0
def yIn (Y : yS) (w s : Int) : Prop := yPut Y w ∧ Y 15 w ≤ s ∧ s < yEnd Y w
def yWk (Y : yS) (w : Int) : Prop := 0 ≤ w ∧ w < Y 8 0
theorem c_in {E : zE} {d : Nat} {M : zM} (x lo hi : Int) : zCi E mX7_in (d + 1) 0 0 [vI x, vI lo, vI hi] M (fun r M' => r = p2i (lo ≤ x ∧ x ≤ hi) ∧ M' = M) := by
  refine sX7_in _ _ _ (fun X hr => vX7_in_0 hr _ _ _ ?_)
  exact ⟨fun h => ⟨p2i_z0 (by omega), by trivial⟩, fun h => ⟨fun h2 => ⟨p2i_z0 (by omega), by trivial⟩, fun h2 => ⟨p2i_z1 (by omega), by trivial⟩⟩⟩
section M1
variable {E : zE} {d a : Nat} {M : zM} {Y : yS} {c : Int}
theorem c_isWork (hs : mSh a M) (hc : mCo a M Y) (hi : yInv c Y) (w : Int) : zCi E mX7_isWork (d + 2) 0 0 [vR (some a), vI w] M (fun r M' => r = p2i (yWk Y w) ∧ M' = M) := by
  refine sX7_isWork _ _ (fun X hr => vX7_isWork_0 hr _ _ ?_)
  have h8 := yI_n hi
  simp only [mk0 hs, mr2 hs, mk2 hs, mi2 hc, mr3 hs, mk3 hs, mi3 hc, mr4 hs, mk4 hs, mi4 hc, mr5 hs, mk5 hs, mi5 hc, mr7 hs, mk7 hs, mi7 hc, mr9 hs, mk9 hs, mi9 hc, mr10 hs, mk10 hs, mi10 hc, mr11 hs, mk11 hs, mi11 hc, mr12 hs, mk12 hs, mi12 hc, mr13 hs, mk13 hs, mi13 hc, mr14 hs, mk14 hs, mi14 hc, mr15 hs, mk15 hs, mi15 hc, mr16 hs, mk16 hs, mi16 hc, mr17 hs, mk17 hs, mi17 hc, mr18 hs, mk18 hs, mi18 hc, mr19 hs, mk19 hs, mr20 hs, mk20 hs, mr21 hs, mk21 hs, mr22 hs, mk22 hs, mr23 hs, mk23 hs, mr24 hs, mk24 hs, mi0 hc, mi1 hc, mi6 hc, mi8 hc, Option.some.injEq, exists_eq_left', true_and]
  refine ⟨by unfold zin; omega, zu (c_in _ _ _) ⟨p2i_01 _, ?_, by trivial⟩⟩
  unfold yWk
  congr 1
  apply propext
  omega
theorem c_isPut (hs : mSh a M) (hc : mCo a M Y) {w : Int} (h0 : 0 ≤ w) (h1 : w < 40) : zCi E mX7_isPut (d + 1) 0 0 [vR (some a), vI w] M (fun r M' => r = p2i (yPut Y w) ∧ M' = M) := by
  refine sX7_isPut _ _ (fun X hr => vX7_isPut_0 hr _ _ ?_)
  simp only [mk0 hs, mr2 hs, mk2 hs, mi2 hc, mr3 hs, mk3 hs, mi3 hc, mr4 hs, mk4 hs, mi4 hc, mr5 hs, mk5 hs, mi5 hc, mr7 hs, mk7 hs, mi7 hc, mr9 hs, mk9 hs, mi9 hc, mr10 hs, mk10 hs, mi10 hc, mr11 hs, mk11 hs, mi11 hc, mr12 hs, mk12 hs, mi12 hc, mr13 hs, mk13 hs, mi13 hc, mr14 hs, mk14 hs, mi14 hc, mr15 hs, mk15 hs, mi15 hc, mr16 hs, mk16 hs, mi16 hc, mr17 hs, mk17 hs, mi17 hc, mr18 hs, mk18 hs, mi18 hc, mr19 hs, mk19 hs, mr20 hs, mk20 hs, mr21 hs, mk21 hs, mr22 hs, mk22 hs, mr23 hs, mk23 hs, mr24 hs, mk24 hs, mi0 hc, mi1 hc, mi6 hc, mi8 hc, Option.some.injEq, exists_eq_left', true_and]
  exact ⟨h0, h1, fun h => ⟨p2i_z0 (fun q => q h), by trivial⟩, fun h => ⟨p2i_z1 h, by trivial⟩⟩
theorem c_isBegun (hs : mSh a M) (hc : mCo a M Y) {w : Int} (h0 : 0 ≤ w) (h1 : w < 40) : zCi E mX7_isBegun (d + 2) 0 0 [vR (some a), vI w] M (fun r M' => r = p2i (yBegun Y w) ∧ M' = M) := by
  refine sX7_isBegun _ _ (fun X hr => vX7_isBegun_0 hr _ _ ?_)
  refine ⟨mk0 hs, zu (c_isPut hs hc h0 h1) ⟨fun h => ⟨p2i_z0 (fun q => p2i_0.mp h q.1), by trivial⟩, fun h => ?_⟩⟩
  have h := p2i_n0.mp h
  simp only [mk0 hs, mr2 hs, mk2 hs, mi2 hc, mr3 hs, mk3 hs, mi3 hc, mr4 hs, mk4 hs, mi4 hc, mr5 hs, mk5 hs, mi5 hc, mr7 hs, mk7 hs, mi7 hc, mr9 hs, mk9 hs, mi9 hc, mr10 hs, mk10 hs, mi10 hc, mr11 hs, mk11 hs, mi11 hc, mr12 hs, mk12 hs, mi12 hc, mr13 hs, mk13 hs, mi13 hc, mr14 hs, mk14 hs, mi14 hc, mr15 hs, mk15 hs, mi15 hc, mr16 hs, mk16 hs, mi16 hc, mr17 hs, mk17 hs, mi17 hc, mr18 hs, mk18 hs, mi18 hc, mr19 hs, mk19 hs, mr20 hs, mk20 hs, mr21 hs, mk21 hs, mr22 hs, mk22 hs, mr23 hs, mk23 hs, mr24 hs, mk24 hs, mi0 hc, mi1 hc, mi6 hc, mi8 hc, Option.some.injEq, exists_eq_left', true_and]
  exact ⟨h0, h1, fun h2 => ⟨p2i_z0 (fun q => by have := q.2; omega), by trivial⟩, fun h2 => ⟨p2i_z1 ⟨h, h2⟩, by trivial⟩⟩
theorem c_endOf (hs : mSh a M) (hc : mCo a M Y) (hi : yInv c Y) {w : Int} (h0 : 0 ≤ w) (h1 : w < Y 8 0) : zCi E mX7_endOf (d + 1) 0 0 [vR (some a), vI w] M (fun r M' => r = yEnd Y w ∧ M' = M) := by
  refine sX7_endOf _ _ (fun X hr => vX7_endOf_0 hr _ _ ?_)
  have h8 := yI_n hi
  have hw := yI_w hi h0 h1
  simp only [mk0 hs, mr2 hs, mk2 hs, mi2 hc, mr3 hs, mk3 hs, mi3 hc, mr4 hs, mk4 hs, mi4 hc, mr5 hs, mk5 hs, mi5 hc, mr7 hs, mk7 hs, mi7 hc, mr9 hs, mk9 hs, mi9 hc, mr10 hs, mk10 hs, mi10 hc, mr11 hs, mk11 hs, mi11 hc, mr12 hs, mk12 hs, mi12 hc, mr13 hs, mk13 hs, mi13 hc, mr14 hs, mk14 hs, mi14 hc, mr15 hs, mk15 hs, mi15 hc, mr16 hs, mk16 hs, mi16 hc, mr17 hs, mk17 hs, mi17 hc, mr18 hs, mk18 hs, mi18 hc, mr19 hs, mk19 hs, mr20 hs, mk20 hs, mr21 hs, mk21 hs, mr22 hs, mk22 hs, mr23 hs, mk23 hs, mr24 hs, mk24 hs, mi0 hc, mi1 hc, mi6 hc, mi8 hc, Option.some.injEq, exists_eq_left', true_and]
  exact ⟨h0, by omega, h0, by omega, by unfold zin; omega, rfl, by trivial⟩
theorem c_isDone (hs : mSh a M) (hc : mCo a M Y) (hi : yInv c Y) {w : Int} (h0 : 0 ≤ w) (h1 : w < Y 8 0) : zCi E mX7_isDone (d + 2) 0 0 [vR (some a), vI w] M (fun r M' => r = p2i (yDone Y w) ∧ M' = M) := by
  refine sX7_isDone _ _ (fun X hr => vX7_isDone_0 hr _ _ ?_)
  have h8 := yI_n hi
  refine ⟨mk0 hs, zu (c_isPut hs hc h0 (by omega)) ⟨fun h => ⟨p2i_z0 (fun q => p2i_0.mp h q.1), by trivial⟩, fun h => ?_⟩⟩
  have h := p2i_n0.mp h
  refine ⟨mk0 hs, zu (c_endOf hs hc hi h0 h1) ?_⟩
  simp only [mk0 hs, mr2 hs, mk2 hs, mi2 hc, mr3 hs, mk3 hs, mi3 hc, mr4 hs, mk4 hs, mi4 hc, mr5 hs, mk5 hs, mi5 hc, mr7 hs, mk7 hs, mi7 hc, mr9 hs, mk9 hs, mi9 hc, mr10 hs, mk10 hs, mi10 hc, mr11 hs, mk11 hs, mi11 hc, mr12 hs, mk12 hs, mi12 hc, mr13 hs, mk13 hs, mi13 hc, mr14 hs, mk14 hs, mi14 hc, mr15 hs, mk15 hs, mi15 hc, mr16 hs, mk16 hs, mi16 hc, mr17 hs, mk17 hs, mi17 hc, mr18 hs, mk18 hs, mi18 hc, mr19 hs, mk19 hs, mr20 hs, mk20 hs, mr21 hs, mk21 hs, mr22 hs, mk22 hs, mr23 hs, mk23 hs, mr24 hs, mk24 hs, mi0 hc, mi1 hc, mi6 hc, mi8 hc, Option.some.injEq, exists_eq_left', true_and]
  exact ⟨fun h2 => ⟨p2i_z0 (fun q => by have := q.2; omega), by trivial⟩, fun h2 => ⟨p2i_z1 ⟨h, h2⟩, by trivial⟩⟩
theorem c_isIn (hs : mSh a M) (hc : mCo a M Y) (hi : yInv c Y) {w s : Int} (h0 : 0 ≤ w) (h1 : w < Y 8 0) : zCi E mX7_isIn (d + 2) 0 0 [vR (some a), vI w, vI s] M (fun r M' => r = p2i (yIn Y w s) ∧ M' = M) := by
  refine sX7_isIn _ _ _ (fun X hr => vX7_isIn_0 hr _ _ _ ?_)
  have h8 := yI_n hi
  have hw := yI_w hi h0 h1
  refine ⟨mk0 hs, zu (c_isPut hs hc h0 (by omega)) ⟨fun h => ⟨p2i_z0 (fun q => p2i_0.mp h q.1), by trivial⟩, fun h => ?_⟩⟩
  have h := p2i_n0.mp h
  simp only [mk0 hs, mr2 hs, mk2 hs, mi2 hc, mr3 hs, mk3 hs, mi3 hc, mr4 hs, mk4 hs, mi4 hc, mr5 hs, mk5 hs, mi5 hc, mr7 hs, mk7 hs, mi7 hc, mr9 hs, mk9 hs, mi9 hc, mr10 hs, mk10 hs, mi10 hc, mr11 hs, mk11 hs, mi11 hc, mr12 hs, mk12 hs, mi12 hc, mr13 hs, mk13 hs, mi13 hc, mr14 hs, mk14 hs, mi14 hc, mr15 hs, mk15 hs, mi15 hc, mr16 hs, mk16 hs, mi16 hc, mr17 hs, mk17 hs, mi17 hc, mr18 hs, mk18 hs, mi18 hc, mr19 hs, mk19 hs, mr20 hs, mk20 hs, mr21 hs, mk21 hs, mr22 hs, mk22 hs, mr23 hs, mk23 hs, mr24 hs, mk24 hs, mi0 hc, mi1 hc, mi6 hc, mi8 hc, Option.some.injEq, exists_eq_left', true_and]
  refine ⟨h0, by omega, zu (c_endOf hs hc hi h0 h1) ⟨by unfold zin yEnd; omega, zu (c_in _ _ _) ⟨fun h2 => ⟨p2i_z0 (fun q => p2i_0.mp h2 ?_), by trivial⟩, fun h2 => ⟨p2i_z1 ⟨h, ?_⟩, by trivial⟩⟩⟩⟩
  · have := q.2; omega
  · have := p2i_n0.mp h2; omega
theorem c_stateOf (hs : mSh a M) (hc : mCo a M Y) (hi : yInv c Y) {w : Int} (h0 : 0 ≤ w) (h1 : w < Y 8 0) : zCi E mX7_stateOf (d + 3) 0 0 [vR (some a), vI w] M (fun r M' => ((¬ yPut Y w ∧ r = 0) ∨ (yDone Y w ∧ r = 3) ∨ (yPut Y w ∧ ¬ yDone Y w ∧ yBegun Y w ∧ r = 2) ∨ (yPut Y w ∧ ¬ yDone Y w ∧ ¬ yBegun Y w ∧ r = 1)) ∧ M' = M) := by
  refine sX7_stateOf _ _ (fun X hr => vX7_stateOf_0 hr _ _ ?_)
  have h8 := yI_n hi
  refine ⟨mk0 hs, zu (c_isPut hs hc h0 (by omega)) ⟨fun h => ?_, fun h => ⟨Or.inl ⟨p2i_0.mp h, by trivial⟩, by trivial⟩⟩⟩
  have h := p2i_n0.mp h
  refine ⟨mk0 hs, zu (c_isDone hs hc hi h0 h1) ⟨fun h2 => ?_, fun h2 => ⟨Or.inr (Or.inl ⟨p2i_n0.mp h2, by trivial⟩), by trivial⟩⟩⟩
  have h2 := p2i_0.mp h2
  refine ⟨mk0 hs, zu (c_isBegun hs hc h0 (by omega)) ⟨fun h3 => ⟨Or.inr (Or.inr (Or.inr ⟨h, h2, p2i_0.mp h3, by trivial⟩)), by trivial⟩, fun h3 => ⟨Or.inr (Or.inr (Or.inl ⟨h, h2, p2i_n0.mp h3, by trivial⟩)), by trivial⟩⟩⟩
end M1
