/-! ===== contracts of the reference: what changes the state in one place ===== -/
noncomputable def pif {α : Type} (p : Prop) (x y : α) : α := @ite α p (Classical.propDecidable p) x y
theorem pif_t {α : Type} {p : Prop} {x y : α} (h : p) : pif p x y = x := if_pos h
theorem pif_f {α : Type} {p : Prop} {x y : α} (h : ¬ p) : pif p x y = y := if_neg h
/-- behind a call of the reference at a: its cells hold Y', nothing else changed -/
def mPo (a : Nat) (M M' : zM) (Y' : yS) : Prop := mSh a M' ∧ mCo a M' Y' ∧ zFr (mAd a) M M'
theorem mPo_rf {a : Nat} {M : zM} {Y : yS} (hs : mSh a M) (hc : mCo a M Y) : mPo a M M Y := ⟨hs, hc, zFr_rf⟩
def gangOk (t h : Int) : Prop := (0 ≤ t ∧ t ≤ 3) ∧ (0 ≤ h ∧ h ≤ 99)
noncomputable def gangY (Y : yS) (t h : Int) : yS := pif (gangOk t h) (yup Y 4 t h) Y
def goodOk (t h : Int) : Prop := (0 ≤ t ∧ t ≤ 3) ∧ (0 ≤ h ∧ h ≤ 9)
noncomputable def goodY (Y : yS) (t h : Int) : yS := pif (goodOk t h) (yup Y 5 t h) Y
def spaceOk (Y : yS) (b : Int) : Prop := (1 ≤ b ∧ b ≤ 9) ∧ Y 1 0 ≠ 20
noncomputable def spaceR (Y : yS) (b : Int) : Int := pif (spaceOk Y b) (Y 1 0) (-1)
noncomputable def spaceY (Y : yS) (b : Int) : yS := pif (spaceOk Y b) (ysc (yup Y 2 (Y 1 0) b) 1 (Y 1 0 + 1)) Y
def nearOk (Y : yS) (x y : Int) : Prop := (0 ≤ x ∧ x < Y 1 0) ∧ (0 ≤ y ∧ y < Y 1 0) ∧ x ≠ y ∧ Y 3 (20 * x + y) = 0
noncomputable def nearY (Y : yS) (x y : Int) : yS := pif (nearOk Y x y) (yup (yup Y 3 (20 * x + y) 1) 3 (20 * y + x) 1) Y
def putOk (Y : yS) (w s : Int) : Prop := yWk Y w ∧ ¬ yBegun Y w ∧ Y 0 0 ≤ s ∧ s ≤ 400 - Y 9 w
noncomputable def putY (Y : yS) (w s : Int) : yS := pif (putOk Y w s) (yup Y 15 w s) Y
def takeOk (Y : yS) (w : Int) : Prop := yWk Y w ∧ yPut Y w ∧ ¬ yBegun Y w
noncomputable def takeY (Y : yS) (w : Int) : yS := pif (takeOk Y w) (yup Y 15 w (-1)) Y
def goOk (n : Int) : Prop := 0 ≤ n ∧ n ≤ 400
noncomputable def goN (Y : yS) (n : Int) : Int := pif (400 < Y 0 0 + n) 400 (Y 0 0 + n)
noncomputable def goR (Y : yS) (n : Int) : Int := pif (goOk n) (goN Y n) (-1)
noncomputable def goY (Y : yS) (n : Int) : yS := pif (goOk n) (ysc Y 0 (goN Y n)) Y
def moreOk (Y : yS) (w n : Int) : Prop := yWk Y w ∧ ¬ yDone Y w ∧ (1 ≤ n ∧ n ≤ 40) ∧ Y 9 w + n ≤ 40 ∧ (yPut Y w → yEnd Y w + n ≤ 400)
noncomputable def moreR (Y : yS) (w n : Int) : Int := pif (moreOk Y w n) (Y 9 w + n) (-1)
noncomputable def moreY (Y : yS) (w n : Int) : yS := pif (moreOk Y w n) (yup Y 9 w (Y 9 w + n)) Y
section M2
variable {E : zE} {d a : Nat} {M : zM} {Y : yS} {c : Int}
theorem c_gang (hs : mSh a M) (hc : mCo a M Y) (t h : Int) : zCi E mX7_gang (d + 2) 0 0 [vR (some a), vI t, vI h] M (fun r M' => r = p2i (gangOk t h) ∧ mPo a M M' (gangY Y t h)) := by
  refine sX7_gang _ _ _ (fun X hr => vX7_gang_0 hr _ _ _ ?_)
  refine zu (c_in _ _ _) ⟨fun q => ?_, fun q => zu (c_in _ _ _) ⟨fun q2 => ?_, fun q2 => ?_⟩⟩
  · have n : ¬ gangOk t h := fun k => p2i_0.mp q k.1
    exact ⟨p2i_z0 n, by unfold gangY; rw [pif_f n]; exact mPo_rf hs hc⟩
  · have n : gangOk t h := ⟨p2i_n0.mp q, p2i_n0.mp q2⟩
    simp only [mk0 hs, mr2 hs, mk2 hs, mi2 hc, mr3 hs, mk3 hs, mi3 hc, mr4 hs, mk4 hs, mi4 hc, mr5 hs, mk5 hs, mi5 hc, mr7 hs, mk7 hs, mi7 hc, mr9 hs, mk9 hs, mi9 hc, mr10 hs, mk10 hs, mi10 hc, mr11 hs, mk11 hs, mi11 hc, mr12 hs, mk12 hs, mi12 hc, mr13 hs, mk13 hs, mi13 hc, mr14 hs, mk14 hs, mi14 hc, mr15 hs, mk15 hs, mi15 hc, mr16 hs, mk16 hs, mi16 hc, mr17 hs, mk17 hs, mi17 hc, mr18 hs, mk18 hs, mi18 hc, mr19 hs, mk19 hs, mr20 hs, mk20 hs, mr21 hs, mk21 hs, mr22 hs, mk22 hs, mr23 hs, mk23 hs, mr24 hs, mk24 hs, mi0 hc, mi1 hc, mi6 hc, mi8 hc, Option.some.injEq, exists_eq_left', true_and]
    refine ⟨n.1.1, by have := n.1.2; omega, ?_⟩
    rintro _ rfl
    exact ⟨p2i_z1 n, by unfold gangY; rw [pif_t n]; exact ⟨hs, mCo_up hc rfl (by decide) rfl, zFr_sI zFr_rf (by unfold mAd; omega)⟩⟩
  · have n : ¬ gangOk t h := fun k => p2i_0.mp q2 k.2
    exact ⟨p2i_z0 n, by unfold gangY; rw [pif_f n]; exact mPo_rf hs hc⟩
theorem c_good (hs : mSh a M) (hc : mCo a M Y) (t h : Int) : zCi E mX7_good (d + 2) 0 0 [vR (some a), vI t, vI h] M (fun r M' => r = p2i (goodOk t h) ∧ mPo a M M' (goodY Y t h)) := by
  refine sX7_good _ _ _ (fun X hr => vX7_good_0 hr _ _ _ ?_)
  refine zu (c_in _ _ _) ⟨fun q => ?_, fun q => zu (c_in _ _ _) ⟨fun q2 => ?_, fun q2 => ?_⟩⟩
  · have n : ¬ goodOk t h := fun k => p2i_0.mp q k.1
    exact ⟨p2i_z0 n, by unfold goodY; rw [pif_f n]; exact mPo_rf hs hc⟩
  · have n : goodOk t h := ⟨p2i_n0.mp q, p2i_n0.mp q2⟩
    simp only [mk0 hs, mr2 hs, mk2 hs, mi2 hc, mr3 hs, mk3 hs, mi3 hc, mr4 hs, mk4 hs, mi4 hc, mr5 hs, mk5 hs, mi5 hc, mr7 hs, mk7 hs, mi7 hc, mr9 hs, mk9 hs, mi9 hc, mr10 hs, mk10 hs, mi10 hc, mr11 hs, mk11 hs, mi11 hc, mr12 hs, mk12 hs, mi12 hc, mr13 hs, mk13 hs, mi13 hc, mr14 hs, mk14 hs, mi14 hc, mr15 hs, mk15 hs, mi15 hc, mr16 hs, mk16 hs, mi16 hc, mr17 hs, mk17 hs, mi17 hc, mr18 hs, mk18 hs, mi18 hc, mr19 hs, mk19 hs, mr20 hs, mk20 hs, mr21 hs, mk21 hs, mr22 hs, mk22 hs, mr23 hs, mk23 hs, mr24 hs, mk24 hs, mi0 hc, mi1 hc, mi6 hc, mi8 hc, Option.some.injEq, exists_eq_left', true_and]
    refine ⟨n.1.1, by have := n.1.2; omega, ?_⟩
    rintro _ rfl
    exact ⟨p2i_z1 n, by unfold goodY; rw [pif_t n]; exact ⟨hs, mCo_up hc rfl (by decide) rfl, zFr_sI zFr_rf (by unfold mAd; omega)⟩⟩
  · have n : ¬ goodOk t h := fun k => p2i_0.mp q2 k.2
    exact ⟨p2i_z0 n, by unfold goodY; rw [pif_f n]; exact mPo_rf hs hc⟩
theorem c_space (hs : mSh a M) (hc : mCo a M Y) (hi : yInv c Y) (b : Int) : zCi E mX7_space (d + 2) 0 0 [vR (some a), vI b] M (fun r M' => r = spaceR Y b ∧ mPo a M M' (spaceY Y b)) := by
  refine sX7_space _ _ (fun X hr => vX7_space_0 hr _ _ ?_)
  have h1 := yI_sp hi
  refine zu (c_in _ _ _) ⟨fun q => ?_, fun q => ?_⟩
  · have n : ¬ spaceOk Y b := fun k => p2i_0.mp q k.1
    exact ⟨by unfold spaceR; rw [pif_f n], by unfold spaceY; rw [pif_f n]; exact mPo_rf hs hc⟩
  · simp only [mk0 hs, mr2 hs, mk2 hs, mi2 hc, mr3 hs, mk3 hs, mi3 hc, mr4 hs, mk4 hs, mi4 hc, mr5 hs, mk5 hs, mi5 hc, mr7 hs, mk7 hs, mi7 hc, mr9 hs, mk9 hs, mi9 hc, mr10 hs, mk10 hs, mi10 hc, mr11 hs, mk11 hs, mi11 hc, mr12 hs, mk12 hs, mi12 hc, mr13 hs, mk13 hs, mi13 hc, mr14 hs, mk14 hs, mi14 hc, mr15 hs, mk15 hs, mi15 hc, mr16 hs, mk16 hs, mi16 hc, mr17 hs, mk17 hs, mi17 hc, mr18 hs, mk18 hs, mi18 hc, mr19 hs, mk19 hs, mr20 hs, mk20 hs, mr21 hs, mk21 hs, mr22 hs, mk22 hs, mr23 hs, mk23 hs, mr24 hs, mk24 hs, mi0 hc, mi1 hc, mi6 hc, mi8 hc, Option.some.injEq, exists_eq_left', true_and]
    refine ⟨fun q2 => ?_, fun q2 => ?_⟩
    · have n : spaceOk Y b := ⟨p2i_n0.mp q, q2⟩
      refine ⟨h1.1, by omega, ?_⟩
      rintro _ rfl
      have hc1 := mCo_up (f := 2) (b := a + 1) (i := Y 1 0) (x := b) hc rfl (by decide) rfl
      refine ⟨hs.1, ?_, hs.1, ?_⟩
      · rw [mi1 hc1]; show zin (Y 1 0 + 1); unfold zin; omega
      · rintro _ rfl
        rw [mi1 hc1, show yup Y 2 (Y 1 0) b 1 0 = Y 1 0 from rfl]
        have hc2 := mCo_sc (f := 1) (j := 1) (x := Y 1 0 + 1) hc1 rfl rfl
        refine ⟨hs.1, ?_, ?_, ?_⟩
        · rw [mi1 hc2]; show zin (Y 1 0 + 1 - 1); unfold zin; omega
        · rw [mi1 hc2]; show Y 1 0 + 1 - 1 = _; unfold spaceR; rw [pif_t n]; omega
        · unfold spaceY; rw [pif_t n]; exact ⟨hs, hc2, zFr_sI (zFr_sI zFr_rf (by unfold mAd; omega)) (by unfold mAd; omega)⟩
    · have n : ¬ spaceOk Y b := fun k => k.2 q2
      exact ⟨by unfold spaceR; rw [pif_f n], by unfold spaceY; rw [pif_f n]; exact mPo_rf hs hc⟩
theorem c_near (hs : mSh a M) (hc : mCo a M Y) (hi : yInv c Y) (x y : Int) : zCi E mX7_near (d + 2) 0 0 [vR (some a), vI x, vI y] M (fun r M' => r = p2i (nearOk Y x y) ∧ mPo a M M' (nearY Y x y)) := by
  refine sX7_near _ _ _ (fun X hr => vX7_near_0 hr _ _ _ ?_)
  have h1 := yI_sp hi
  have no : ¬ nearOk Y x y → (0 : Int) = p2i (nearOk Y x y) ∧ mPo a M M (nearY Y x y) := fun n => ⟨p2i_z0 n, by unfold nearY; rw [pif_f n]; exact mPo_rf hs hc⟩
  refine ⟨hs.1, by rw [mi1 hc]; unfold zin; omega, ?_⟩
  rw [mi1 hc]
  refine zu (c_in _ _ _) ⟨fun q => no (fun k => p2i_0.mp q (by have := k.1; omega)), fun q => ⟨hs.1, by rw [mi1 hc]; unfold zin; omega, ?_⟩⟩
  rw [mi1 hc]
  have q := p2i_n0.mp q
  refine zu (c_in _ _ _) ⟨fun q2 => no (fun k => p2i_0.mp q2 (by have := k.2.1; omega)), fun q2 => ⟨fun q3 => no (fun k => k.2.2.1 q3), fun q3 => ?_⟩⟩
  have q2 := p2i_n0.mp q2
  simp only [mk0 hs, mr2 hs, mk2 hs, mi2 hc, mr3 hs, mk3 hs, mi3 hc, mr4 hs, mk4 hs, mi4 hc, mr5 hs, mk5 hs, mi5 hc, mr7 hs, mk7 hs, mi7 hc, mr9 hs, mk9 hs, mi9 hc, mr10 hs, mk10 hs, mi10 hc, mr11 hs, mk11 hs, mi11 hc, mr12 hs, mk12 hs, mi12 hc, mr13 hs, mk13 hs, mi13 hc, mr14 hs, mk14 hs, mi14 hc, mr15 hs, mk15 hs, mi15 hc, mr16 hs, mk16 hs, mi16 hc, mr17 hs, mk17 hs, mi17 hc, mr18 hs, mk18 hs, mi18 hc, mr19 hs, mk19 hs, mr20 hs, mk20 hs, mr21 hs, mk21 hs, mr22 hs, mk22 hs, mr23 hs, mk23 hs, mr24 hs, mk24 hs, mi0 hc, mi1 hc, mi6 hc, mi8 hc, Option.some.injEq, exists_eq_left', true_and]
  refine ⟨by unfold zin; omega, by unfold zin; omega, by omega, by omega, fun q4 => ?_, fun q4 => no (fun k => q4 k.2.2.2)⟩
  have n : nearOk Y x y := ⟨⟨q.1, by omega⟩, ⟨q2.1, by omega⟩, q3, q4⟩
  refine ⟨by unfold zin; omega, by unfold zin; omega, by omega, by omega, ?_⟩
  rintro _ rfl
  have hc1 := mCo_up (f := 3) (b := a + 2) (i := 20 * x + y) (x := 1) hc rfl (by decide) rfl
  refine ⟨hs.1, by unfold zin; omega, by unfold zin; omega, a + 2, mr3 hs, by rw [show zK (zsI M (a + 2) (20 * x + y) 1) (a + 2) = (10, 400) from mk3 hs], by omega, by rw [show zK (zsI M (a + 2) (20 * x + y) 1) (a + 2) = (10, 400) from mk3 hs]; show 20 * y + x < 400; omega, ?_⟩
  rintro _ rfl
  have hc2 := mCo_up (f := 3) (b := a + 2) (i := 20 * y + x) (x := 1) hc1 rfl (by decide) rfl
  exact ⟨p2i_z1 n, by unfold nearY; rw [pif_t n]; exact ⟨hs, hc2, zFr_sI (zFr_sI zFr_rf (by unfold mAd; omega)) (by unfold mAd; omega)⟩⟩
theorem c_put (hs : mSh a M) (hc : mCo a M Y) (hi : yInv c Y) (w s : Int) : zCi E mX7_put (d + 3) 0 0 [vR (some a), vI w, vI s] M (fun r M' => r = p2i (putOk Y w s) ∧ mPo a M M' (putY Y w s)) := by
  refine sX7_put _ _ _ (fun X hr => vX7_put_0 hr _ _ _ ?_)
  have h8 := yI_n hi
  have no : ¬ putOk Y w s → (0 : Int) = p2i (putOk Y w s) ∧ mPo a M M (putY Y w s) := fun n => ⟨p2i_z0 n, by unfold putY; rw [pif_f n]; exact mPo_rf hs hc⟩
  refine ⟨hs.1, zu (c_isWork hs hc hi w) ⟨fun q => no (fun k => p2i_0.mp q k.1), fun q => ?_⟩⟩
  have q := p2i_n0.mp q
  have hw := yI_w hi q.1 q.2
  refine ⟨hs.1, zu (c_isBegun hs hc q.1 (by have := q.2; omega)) ⟨fun q2 => no (fun k => k.2.1 (p2i_n0.mp q2)), fun q2 => ?_⟩⟩
  have q2 := p2i_0.mp q2
  have q' := q.1
  have q'' := q.2
  simp only [mk0 hs, mr2 hs, mk2 hs, mi2 hc, mr3 hs, mk3 hs, mi3 hc, mr4 hs, mk4 hs, mi4 hc, mr5 hs, mk5 hs, mi5 hc, mr7 hs, mk7 hs, mi7 hc, mr9 hs, mk9 hs, mi9 hc, mr10 hs, mk10 hs, mi10 hc, mr11 hs, mk11 hs, mi11 hc, mr12 hs, mk12 hs, mi12 hc, mr13 hs, mk13 hs, mi13 hc, mr14 hs, mk14 hs, mi14 hc, mr15 hs, mk15 hs, mi15 hc, mr16 hs, mk16 hs, mi16 hc, mr17 hs, mk17 hs, mi17 hc, mr18 hs, mk18 hs, mi18 hc, mr19 hs, mk19 hs, mr20 hs, mk20 hs, mr21 hs, mk21 hs, mr22 hs, mk22 hs, mr23 hs, mk23 hs, mr24 hs, mk24 hs, mi0 hc, mi1 hc, mi6 hc, mi8 hc, Option.some.injEq, exists_eq_left', true_and]
  refine ⟨fun q3 => no (fun k => by have := k.2.2.1; omega), fun q3 => ⟨q.1, by omega, by unfold zin; omega, fun q4 => ⟨q.1, by omega, ?_⟩, fun q4 => no (fun k => by have := k.2.2.2; omega)⟩⟩
  rintro _ rfl
  have n : putOk Y w s := ⟨q, q2, q3, q4⟩
  exact ⟨p2i_z1 n, by unfold putY; rw [pif_t n]; exact ⟨hs, mCo_up hc rfl (by decide) rfl, zFr_sI zFr_rf (by unfold mAd; omega)⟩⟩
theorem c_take (hs : mSh a M) (hc : mCo a M Y) (hi : yInv c Y) (w : Int) : zCi E mX7_take (d + 3) 0 0 [vR (some a), vI w] M (fun r M' => r = p2i (takeOk Y w) ∧ mPo a M M' (takeY Y w)) := by
  refine sX7_take _ _ (fun X hr => vX7_take_0 hr _ _ ?_)
  have h8 := yI_n hi
  have no : ¬ takeOk Y w → (0 : Int) = p2i (takeOk Y w) ∧ mPo a M M (takeY Y w) := fun n => ⟨p2i_z0 n, by unfold takeY; rw [pif_f n]; exact mPo_rf hs hc⟩
  refine ⟨hs.1, zu (c_isWork hs hc hi w) ⟨fun q => no (fun k => p2i_0.mp q k.1), fun q => ?_⟩⟩
  have q := p2i_n0.mp q
  have q' := q.1
  have q'' := q.2
  refine ⟨hs.1, zu (c_isPut hs hc q.1 (by omega)) ⟨fun q2 => no (fun k => p2i_0.mp q2 k.2.1), fun q2 => ?_⟩⟩
  have q2 := p2i_n0.mp q2
  refine ⟨hs.1, zu (c_isBegun hs hc q.1 (by omega)) ⟨fun q3 => ?_, fun q3 => no (fun k => k.2.2 (p2i_n0.mp q3))⟩⟩
  have q3 := p2i_0.mp q3
  simp only [mk0 hs, mr2 hs, mk2 hs, mi2 hc, mr3 hs, mk3 hs, mi3 hc, mr4 hs, mk4 hs, mi4 hc, mr5 hs, mk5 hs, mi5 hc, mr7 hs, mk7 hs, mi7 hc, mr9 hs, mk9 hs, mi9 hc, mr10 hs, mk10 hs, mi10 hc, mr11 hs, mk11 hs, mi11 hc, mr12 hs, mk12 hs, mi12 hc, mr13 hs, mk13 hs, mi13 hc, mr14 hs, mk14 hs, mi14 hc, mr15 hs, mk15 hs, mi15 hc, mr16 hs, mk16 hs, mi16 hc, mr17 hs, mk17 hs, mi17 hc, mr18 hs, mk18 hs, mi18 hc, mr19 hs, mk19 hs, mr20 hs, mk20 hs, mr21 hs, mk21 hs, mr22 hs, mk22 hs, mr23 hs, mk23 hs, mr24 hs, mk24 hs, mi0 hc, mi1 hc, mi6 hc, mi8 hc, Option.some.injEq, exists_eq_left', true_and]
  refine ⟨q.1, by omega, ?_⟩
  rintro _ rfl
  have n : takeOk Y w := ⟨q, q2, q3⟩
  exact ⟨p2i_z1 n, by unfold takeY; rw [pif_t n]; exact ⟨hs, mCo_up hc rfl (by decide) rfl, zFr_sI zFr_rf (by unfold mAd; omega)⟩⟩
theorem c_go (hs : mSh a M) (hc : mCo a M Y) (hi : yInv c Y) (n : Int) : zCi E mX7_go (d + 2) 0 0 [vR (some a), vI n] M (fun r M' => r = goR Y n ∧ mPo a M M' (goY Y n)) := by
  refine sX7_go _ _ (fun X hr => vX7_go_0 hr _ _ ?_)
  have h0 := yI_now hi
  refine zu (c_in _ _ _) ⟨fun q => ?_, fun q => ?_⟩
  · have q : goOk n := p2i_n0.mp q
    have q1 := q.1
    have q2 := q.2
    simp only [mk0 hs, mr2 hs, mk2 hs, mi2 hc, mr3 hs, mk3 hs, mi3 hc, mr4 hs, mk4 hs, mi4 hc, mr5 hs, mk5 hs, mi5 hc, mr7 hs, mk7 hs, mi7 hc, mr9 hs, mk9 hs, mi9 hc, mr10 hs, mk10 hs, mi10 hc, mr11 hs, mk11 hs, mi11 hc, mr12 hs, mk12 hs, mi12 hc, mr13 hs, mk13 hs, mi13 hc, mr14 hs, mk14 hs, mi14 hc, mr15 hs, mk15 hs, mi15 hc, mr16 hs, mk16 hs, mi16 hc, mr17 hs, mk17 hs, mi17 hc, mr18 hs, mk18 hs, mi18 hc, mr19 hs, mk19 hs, mr20 hs, mk20 hs, mr21 hs, mk21 hs, mr22 hs, mk22 hs, mr23 hs, mk23 hs, mr24 hs, mk24 hs, mi0 hc, mi1 hc, mi6 hc, mi8 hc, Option.some.injEq, exists_eq_left', true_and]
    refine ⟨by unfold zin; omega, fun q3 => ⟨by unfold zin; omega, ?_⟩, fun q3 => ?_⟩
    · rintro _ rfl
      have hc1 := mCo_sc (f := 0) (j := 0) (x := Y 0 0 + n) hc rfl rfl
      have e : goN Y n = Y 0 0 + n := pif_f (by omega)
      refine ⟨hs.1, ?_, ?_⟩
      · rw [mi0 hc1]; unfold goR; rw [pif_t q, e]; rfl
      · unfold goY; rw [pif_t q, e]; exact ⟨hs, hc1, zFr_sI zFr_rf (by unfold mAd; omega)⟩
    · rintro _ rfl
      have hc1 := mCo_sc (f := 0) (j := 0) (x := 400) hc rfl rfl
      have e : goN Y n = 400 := pif_t (by omega)
      refine ⟨hs.1, ?_, ?_⟩
      · rw [mi0 hc1]; unfold goR; rw [pif_t q, e]; rfl
      · unfold goY; rw [pif_t q, e]; exact ⟨hs, hc1, zFr_sI zFr_rf (by unfold mAd; omega)⟩
  · have q : ¬ goOk n := p2i_0.mp q
    exact ⟨by unfold goR; rw [pif_f q], by unfold goY; rw [pif_f q]; exact mPo_rf hs hc⟩
theorem c_more (hs : mSh a M) (hc : mCo a M Y) (hi : yInv c Y) (w n : Int) : zCi E mX7_more (d + 3) 0 0 [vR (some a), vI w, vI n] M (fun r M' => r = moreR Y w n ∧ mPo a M M' (moreY Y w n)) := by
  refine sX7_more _ _ _ (fun X hr => vX7_more_0 hr _ _ _ ?_)
  have h8 := yI_n hi
  have no : ¬ moreOk Y w n → (-1 : Int) = moreR Y w n ∧ mPo a M M (moreY Y w n) := fun k => ⟨by unfold moreR; rw [pif_f k], by unfold moreY; rw [pif_f k]; exact mPo_rf hs hc⟩
  refine ⟨hs.1, zu (c_isWork hs hc hi w) ⟨fun q => no (fun k => p2i_0.mp q k.1), fun q => ?_⟩⟩
  have q := p2i_n0.mp q
  have q' := q.1
  have q'' := q.2
  have hw := yI_w hi q.1 q.2
  refine ⟨hs.1, zu (c_isDone hs hc hi q.1 q.2) ⟨fun q2 => no (fun k => k.2.1 (p2i_n0.mp q2)), fun q2 => ?_⟩⟩
  have q2 := p2i_0.mp q2
  refine zu (c_in _ _ _) ⟨fun q3 => no (fun k => p2i_0.mp q3 k.2.2.1), fun q3 => ?_⟩
  have q3 := p2i_n0.mp q3
  have fin : moreOk Y w n → ((Y 9 w + n = moreR Y w n) ∧ mPo a M (zsI M (a + 6) w (Y 9 w + n)) (moreY Y w n)) := fun k => ⟨by unfold moreR; rw [pif_t k], by unfold moreY; rw [pif_t k]; exact ⟨hs, mCo_up hc rfl (by decide) rfl, zFr_sI zFr_rf (by unfold mAd; omega)⟩⟩
  have hc1 : mCo a (zsI M (a + 6) w (Y 9 w + n)) (yup Y 9 w (Y 9 w + n)) := mCo_up hc rfl (by decide) rfl
  have e1 : yup Y 9 w (Y 9 w + n) 9 w = Y 9 w + n := if_pos ⟨rfl, rfl⟩
  have tail : moreOk Y w n → (zK (zsI M (a + 6) w (Y 9 w + n)) a = (8, 25) ∧ ∃ b, zR (zsI M (a + 6) w (Y 9 w + n)) a 9 = some b ∧ (zK (zsI M (a + 6) w (Y 9 w + n)) b).1 = 9 ∧ 0 ≤ w ∧ w < ((zK (zsI M (a + 6) w (Y 9 w + n)) b).2 : Int) ∧ zI (zsI M (a + 6) w (Y 9 w + n)) b w = moreR Y w n ∧ mPo a M (zsI M (a + 6) w (Y 9 w + n)) (moreY Y w n)) := fun k => by
    refine ⟨hs.1, a + 6, mr9 hs, ?_, q.1, ?_, ?_, (fin k).2⟩
    · rw [show zK (zsI M (a + 6) w (Y 9 w + n)) (a + 6) = (9, 40) from mk9 hs]
    · rw [show zK (zsI M (a + 6) w (Y 9 w + n)) (a + 6) = (9, 40) from mk9 hs]; show w < 40; omega
    · rw [mi9 hc1, e1]; exact (fin k).1
  simp only [mk0 hs, mr2 hs, mk2 hs, mi2 hc, mr3 hs, mk3 hs, mi3 hc, mr4 hs, mk4 hs, mi4 hc, mr5 hs, mk5 hs, mi5 hc, mr7 hs, mk7 hs, mi7 hc, mr9 hs, mk9 hs, mi9 hc, mr10 hs, mk10 hs, mi10 hc, mr11 hs, mk11 hs, mi11 hc, mr12 hs, mk12 hs, mi12 hc, mr13 hs, mk13 hs, mi13 hc, mr14 hs, mk14 hs, mi14 hc, mr15 hs, mk15 hs, mi15 hc, mr16 hs, mk16 hs, mi16 hc, mr17 hs, mk17 hs, mi17 hc, mr18 hs, mk18 hs, mi18 hc, mr19 hs, mk19 hs, mr20 hs, mk20 hs, mr21 hs, mk21 hs, mr22 hs, mk22 hs, mr23 hs, mk23 hs, mr24 hs, mk24 hs, mi0 hc, mi1 hc, mi6 hc, mi8 hc, Option.some.injEq, exists_eq_left', true_and]
  refine ⟨q.1, by omega, by unfold zin; omega, fun q4 => no (fun k => by have := k.2.2.2.1; omega), fun q4 => ?_⟩
  refine zu (c_isPut hs hc q.1 (by omega)) ⟨fun q5 => ?_, fun q5 => ?_⟩
  · have k : moreOk Y w n := ⟨q, q2, q3, q4, fun z => absurd z (p2i_0.mp q5)⟩
    simp only [mk0 hs, mr2 hs, mk2 hs, mi2 hc, mr3 hs, mk3 hs, mi3 hc, mr4 hs, mk4 hs, mi4 hc, mr5 hs, mk5 hs, mi5 hc, mr7 hs, mk7 hs, mi7 hc, mr9 hs, mk9 hs, mi9 hc, mr10 hs, mk10 hs, mi10 hc, mr11 hs, mk11 hs, mi11 hc, mr12 hs, mk12 hs, mi12 hc, mr13 hs, mk13 hs, mi13 hc, mr14 hs, mk14 hs, mi14 hc, mr15 hs, mk15 hs, mi15 hc, mr16 hs, mk16 hs, mi16 hc, mr17 hs, mk17 hs, mi17 hc, mr18 hs, mk18 hs, mi18 hc, mr19 hs, mk19 hs, mr20 hs, mk20 hs, mr21 hs, mk21 hs, mr22 hs, mk22 hs, mr23 hs, mk23 hs, mr24 hs, mk24 hs, mi0 hc, mi1 hc, mi6 hc, mi8 hc, Option.some.injEq, exists_eq_left', true_and]
    refine ⟨q.1, by omega, by unfold zin; omega, q.1, by omega, ?_⟩
    rintro _ rfl
    exact tail k
  · have q5 := p2i_n0.mp q5
    refine ⟨hs.1, zu (c_endOf hs hc hi q.1 q.2) ⟨by unfold zin yEnd; omega, fun q6 => ?_, fun q6 => no (fun k => by have := k.2.2.2.2 q5; omega)⟩⟩
    have k : moreOk Y w n := ⟨q, q2, q3, q4, fun _ => q6⟩
    simp only [mk0 hs, mr2 hs, mk2 hs, mi2 hc, mr3 hs, mk3 hs, mi3 hc, mr4 hs, mk4 hs, mi4 hc, mr5 hs, mk5 hs, mi5 hc, mr7 hs, mk7 hs, mi7 hc, mr9 hs, mk9 hs, mi9 hc, mr10 hs, mk10 hs, mi10 hc, mr11 hs, mk11 hs, mi11 hc, mr12 hs, mk12 hs, mi12 hc, mr13 hs, mk13 hs, mi13 hc, mr14 hs, mk14 hs, mi14 hc, mr15 hs, mk15 hs, mi15 hc, mr16 hs, mk16 hs, mi16 hc, mr17 hs, mk17 hs, mi17 hc, mr18 hs, mk18 hs, mi18 hc, mr19 hs, mk19 hs, mr20 hs, mk20 hs, mr21 hs, mk21 hs, mr22 hs, mk22 hs, mr23 hs, mk23 hs, mr24 hs, mk24 hs, mi0 hc, mi1 hc, mi6 hc, mi8 hc, Option.some.injEq, exists_eq_left', true_and]
    refine ⟨q.1, by omega, by unfold zin; omega, q.1, by omega, ?_⟩
    rintro _ rfl
    exact tail k
end M2
