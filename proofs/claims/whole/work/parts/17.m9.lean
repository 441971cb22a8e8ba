/-! ===== contracts of the reference: slack, bar, work, count, told ===== -/
def barOk (Y : yS) (x y k : Int) : Prop := (0 ≤ x ∧ x ≤ 4) ∧ (0 ≤ y ∧ y ≤ 4) ∧ (0 ≤ k ∧ k ≤ 2) ∧ zand (zshr (Y 7 (5 * x + y)) k) 1 ≠ 1
noncomputable def barY1 (Y : yS) (x y k : Int) : yS := yup Y 7 (5 * x + y) (zor (Y 7 (5 * x + y)) (zpw k))
noncomputable def barY2 (Y : yS) (x y k : Int) : yS := pif (x = y) (barY1 Y x y k) (yup (barY1 Y x y k) 7 (5 * y + x) (zor (barY1 Y x y k 7 (5 * y + x)) (zpw k)))
noncomputable def barY (Y : yS) (x y k : Int) : yS := pif (barOk Y x y k) (ysc (barY2 Y x y k) 6 (Y 6 0 + 1)) Y
def workOk (Y : yS) (x g : Int) : Prop := 0 ≤ x ∧ (1 ≤ x.tdiv 100000 ∧ x.tdiv 100000 ≤ 40) ∧ 1 ≤ (x.tdiv 10000).tmod 10 ∧ (x.tdiv 1000).tmod 10 ≤ 3 ∧ (x.tdiv 100).tmod 10 ≤ 4 ∧ x.tmod 100 < Y 1 0 ∧ (-1 ≤ g ∧ g ≤ 3) ∧ Y 8 0 ≠ 40
noncomputable def workR (Y : yS) (x g : Int) : Int := pif (workOk Y x g) (Y 8 0) (-1)
def workY1 (Y : yS) (x g : Int) : yS := ysc (yup (yup (yup (yup (yup (yup (yup Y 9 (Y 8 0) (x.tdiv 100000)) 10 (Y 8 0) ((x.tdiv 1000).tmod 10)) 11 (Y 8 0) ((x.tdiv 10000).tmod 10)) 12 (Y 8 0) (x.tmod 100)) 13 (Y 8 0) ((x.tdiv 100).tmod 10)) 14 (Y 8 0) g) 15 (Y 8 0) (-1)) 8 (Y 8 0 + 1)
noncomputable def workY (Y : yS) (x g : Int) : yS := pif (workOk Y x g) (workY1 Y x g) Y
noncomputable def countR (Y : yS) (x : Int) : Int := pif (x = 0) (Y 0 0) (pif (x = 1) (Y 1 0) (pif (x = 2) (Y 8 0) (pif (x = 3) (ysum (fun w => p2i (¬ yPut Y w)) (Y 8 0)) (pif (x = 4) (ysum (fun w => p2i (yDone Y w)) (Y 8 0)) (pif (x = 5) (Y 6 0) (pif (x = 6) (wayR Y) (-1)))))))
noncomputable def stR (Y : yS) (w : Int) : Int := pif (yPut Y w) (pif (yDone Y w) 3 (pif (yBegun Y w) 2 1)) 0
noncomputable def toldR (Y : yS) (w x : Int) : Int := pif (yWk Y w) (pif (x = 0) (Y 9 w) (pif (x = 1) (Y 10 w) (pif (x = 2) (Y 11 w) (pif (x = 3) (Y 12 w) (pif (x = 4) (Y 13 w) (pif (x = 5) (Y 14 w) (pif (x = 6) (stR Y w) (pif (x = 7) (Y 15 w) (pif (x = 8) (yE Y w) (pif (x = 9) (yT Y w) (pif (x = 10) (slackR Y w) (pif (x = 11) (ysum (fun k => p2i (yNd Y w k)) (Y 8 0)) (pif (x = 12) (Y 16 w) (-1)))))))))))))) (-1)
theorem wayR_b {c : Int} {a : Nat} {M M' : zM} {Y : yS} (hi : yInv c Y) (hm : mWy a M M' Y) : 0 ≤ wayR Y ∧ wayR Y ≤ 4000 := by
  have h8 := yI_n hi
  have key : ∀ n : Nat, (n : Int) ≤ Y 8 0 → 0 ≤ yfoldN (fun v w => pif (v < yE Y w + Y 9 w + yT Y w) (yE Y w + Y 9 w + yT Y w) v) 0 n ∧ yfoldN (fun v w => pif (v < yE Y w + Y 9 w + yT Y w) (yE Y w + Y 9 w + yT Y w) v) 0 n ≤ 4000 := by
    intro n
    induction n with
    | zero => intro _; exact ⟨Int.le_refl _, by show (0 : Int) ≤ 4000; omega⟩
    | succ n ih =>
      intro hn
      have ih := ih (by omega)
      have hw := yI_w hi (w := n) (by omega) (by omega)
      obtain ⟨-, b1, b2⟩ := hm.2 n ⟨by omega, by omega⟩
      generalize hv : yfoldN (fun v w => pif (v < yE Y w + Y 9 w + yT Y w) (yE Y w + Y 9 w + yT Y w) v) 0 n = v at ih
      show 0 ≤ pif (yfoldN (fun v w => pif (v < yE Y w + Y 9 w + yT Y w) (yE Y w + Y 9 w + yT Y w) v) 0 n < yE Y n + Y 9 n + yT Y n) (yE Y n + Y 9 n + yT Y n) (yfoldN (fun v w => pif (v < yE Y w + Y 9 w + yT Y w) (yE Y w + Y 9 w + yT Y w) v) 0 n) ∧ pif (yfoldN (fun v w => pif (v < yE Y w + Y 9 w + yT Y w) (yE Y w + Y 9 w + yT Y w) v) 0 n < yE Y n + Y 9 n + yT Y n) (yE Y n + Y 9 n + yT Y n) (yfoldN (fun v w => pif (v < yE Y w + Y 9 w + yT Y w) (yE Y w + Y 9 w + yT Y w) v) 0 n) ≤ 4000
      rw [hv]
      by_cases q : v < yE Y n + Y 9 n + yT Y n
      · rw [pif_t q]; omega
      · rw [pif_f q]; omega
  exact key (Y 8 0).toNat (by omega)
section M9
variable {E : zE} {d a : Nat} {M : zM} {Y : yS} {c : Int}
theorem c_slack {M0 : zM} (hi : yInv c Y) (hm : mWy a M0 M Y) {w : Int} (hw : yWk Y w) {v : Int} (hv : v = wayR Y) : zCi E mX7_slack (d + 1) 0 0 [vR (some a), vI v, vI w] M (fun r M' => r = slackR Y w ∧ M' = M) := by
  subst hv
  refine sX7_slack _ _ _ (fun X hr => vX7_slack_0 hr _ _ _ ?_)
  have h8 := yI_n hi
  have hp := hm.1
  have wb := wayR_b hi hm
  obtain ⟨⟨e1, e2⟩, b1, b2⟩ := hm.2 w hw
  obtain ⟨w0, w1⟩ := id hw
  have hww := yI_w hi w0 w1
  simp only [mk0 hp.1, mr2 hp.1, mk2 hp.1, mi2 hp.2.1, mr3 hp.1, mk3 hp.1, mi3 hp.2.1, mr4 hp.1, mk4 hp.1, mi4 hp.2.1, mr5 hp.1, mk5 hp.1, mi5 hp.2.1, mr7 hp.1, mk7 hp.1, mi7 hp.2.1, mr9 hp.1, mk9 hp.1, mi9 hp.2.1, mr10 hp.1, mk10 hp.1, mi10 hp.2.1, mr11 hp.1, mk11 hp.1, mi11 hp.2.1, mr12 hp.1, mk12 hp.1, mi12 hp.2.1, mr13 hp.1, mk13 hp.1, mi13 hp.2.1, mr14 hp.1, mk14 hp.1, mi14 hp.2.1, mr15 hp.1, mk15 hp.1, mi15 hp.2.1, mr16 hp.1, mk16 hp.1, mi16 hp.2.1, mr17 hp.1, mk17 hp.1, mi17 hp.2.1, mr18 hp.1, mk18 hp.1, mi18 hp.2.1, mr19 hp.1, mk19 hp.1, mr20 hp.1, mk20 hp.1, mr21 hp.1, mk21 hp.1, mr22 hp.1, mk22 hp.1, mr23 hp.1, mk23 hp.1, mr24 hp.1, mk24 hp.1, mi0 hp.2.1, mi1 hp.2.1, mi6 hp.2.1, mi8 hp.2.1, Option.some.injEq, exists_eq_left', true_and, e1, e2]
  exact ⟨w0, by omega, by unfold zin; omega, w0, by omega, by unfold zin; omega, w0, by omega, by unfold zin; omega, by trivial, by trivial⟩
theorem c_bar (hs : mSh a M) (hc : mCo a M Y) (hi : yInv c Y) (x y k : Int) : zCi E mX7_bar (d + 2) 0 0 [vR (some a), vI x, vI y, vI k] M (fun r M' => r = p2i (barOk Y x y k) ∧ mPo a M M' (barY Y x y k)) := by
  refine sX7_bar _ _ _ _ (fun X hr => vX7_bar_0 hr _ _ _ _ ?_)
  have h6 := hi.2.2.2.1
  have hc6 := hi.1
  have h7 : ∀ i, 0 ≤ Y 7 i ∧ Y 7 i ≤ 7 := hi.2.2.2.2.2.2.2.2.2.1
  have no : ¬ barOk Y x y k → (0 : Int) = p2i (barOk Y x y k) ∧ mPo a M M (barY Y x y k) := fun n => ⟨p2i_z0 n, by unfold barY; rw [pif_f n]; exact mPo_rf hs hc⟩
  refine zu (c_in _ _ _) ⟨fun q => no (fun z => p2i_0.mp q z.1), fun q => zu (c_in _ _ _) ⟨fun q2 => no (fun z => p2i_0.mp q2 z.2.1), fun q2 => zu (c_in _ _ _) ⟨fun q3 => no (fun z => p2i_0.mp q3 z.2.2.1), fun q3 => ?_⟩⟩⟩
  have q := p2i_n0.mp q
  have q2 := p2i_n0.mp q2
  have q3 := p2i_n0.mp q3
  have b7 := h7 (5 * x + y)
  have zs : 0 ≤ zshr (Y 7 (5 * x + y)) k := Int.natCast_nonneg _
  have zp : 0 ≤ zpw k := Int.natCast_nonneg _
  simp only [mk0 hs, mr2 hs, mk2 hs, mi2 hc, mr3 hs, mk3 hs, mi3 hc, mr4 hs, mk4 hs, mi4 hc, mr5 hs, mk5 hs, mi5 hc, mr7 hs, mk7 hs, mi7 hc, mr9 hs, mk9 hs, mi9 hc, mr10 hs, mk10 hs, mi10 hc, mr11 hs, mk11 hs, mi11 hc, mr12 hs, mk12 hs, mi12 hc, mr13 hs, mk13 hs, mi13 hc, mr14 hs, mk14 hs, mi14 hc, mr15 hs, mk15 hs, mi15 hc, mr16 hs, mk16 hs, mi16 hc, mr17 hs, mk17 hs, mi17 hc, mr18 hs, mk18 hs, mi18 hc, mr19 hs, mk19 hs, mr20 hs, mk20 hs, mr21 hs, mk21 hs, mr22 hs, mk22 hs, mr23 hs, mk23 hs, mr24 hs, mk24 hs, mi0 hc, mi1 hc, mi6 hc, mi8 hc, Option.some.injEq, exists_eq_left', true_and]
  refine ⟨by unfold zin; omega, by unfold zin; omega, by omega, by omega, by omega, by omega, by omega, by omega, zs, by omega, fun q4 => ⟨by unfold zin; omega, by unfold zin; omega, by omega, by omega, by omega, by omega, by omega, zp, by omega, by omega, ?_⟩, fun q4 => no (fun z => z.2.2.2 q4)⟩
  rintro M1 e1
  have n : barOk Y x y k := ⟨q, q2, q3, q4⟩
  have hp1 : mPo a M M1 (barY1 Y x y k) := mPo_up (mPo_rf hs hc) e1 (f := 7) rfl (by decide) rfl
  have e6 : barY1 Y x y k 6 0 = Y 6 0 := rfl
  refine ⟨fun q5 => ?_, fun q5 => ?_⟩
  · simp only [mk0 hp1.1, mr2 hp1.1, mk2 hp1.1, mi2 hp1.2.1, mr3 hp1.1, mk3 hp1.1, mi3 hp1.2.1, mr4 hp1.1, mk4 hp1.1, mi4 hp1.2.1, mr5 hp1.1, mk5 hp1.1, mi5 hp1.2.1, mr7 hp1.1, mk7 hp1.1, mi7 hp1.2.1, mr9 hp1.1, mk9 hp1.1, mi9 hp1.2.1, mr10 hp1.1, mk10 hp1.1, mi10 hp1.2.1, mr11 hp1.1, mk11 hp1.1, mi11 hp1.2.1, mr12 hp1.1, mk12 hp1.1, mi12 hp1.2.1, mr13 hp1.1, mk13 hp1.1, mi13 hp1.2.1, mr14 hp1.1, mk14 hp1.1, mi14 hp1.2.1, mr15 hp1.1, mk15 hp1.1, mi15 hp1.2.1, mr16 hp1.1, mk16 hp1.1, mi16 hp1.2.1, mr17 hp1.1, mk17 hp1.1, mi17 hp1.2.1, mr18 hp1.1, mk18 hp1.1, mi18 hp1.2.1, mr19 hp1.1, mk19 hp1.1, mr20 hp1.1, mk20 hp1.1, mr21 hp1.1, mk21 hp1.1, mr22 hp1.1, mk22 hp1.1, mr23 hp1.1, mk23 hp1.1, mr24 hp1.1, mk24 hp1.1, mi0 hp1.2.1, mi1 hp1.2.1, mi6 hp1.2.1, mi8 hp1.2.1, Option.some.injEq, exists_eq_left', true_and, e6]
    refine ⟨by unfold zin; omega, ?_⟩
    rintro M2 e2
    have hp2 := mPo_sc hp1 e2 (f := 6) rfl rfl
    exact ⟨p2i_z1 n, by unfold barY; rw [pif_t n]; unfold barY2; rw [pif_t q5]; exact hp2⟩
  · have b1 : 0 ≤ barY1 Y x y k 7 (5 * y + x) := by
      unfold barY1 yup
      split
      · exact Int.natCast_nonneg _
      · exact (h7 _).1
    simp only [mk0 hp1.1, mr2 hp1.1, mk2 hp1.1, mi2 hp1.2.1, mr3 hp1.1, mk3 hp1.1, mi3 hp1.2.1, mr4 hp1.1, mk4 hp1.1, mi4 hp1.2.1, mr5 hp1.1, mk5 hp1.1, mi5 hp1.2.1, mr7 hp1.1, mk7 hp1.1, mi7 hp1.2.1, mr9 hp1.1, mk9 hp1.1, mi9 hp1.2.1, mr10 hp1.1, mk10 hp1.1, mi10 hp1.2.1, mr11 hp1.1, mk11 hp1.1, mi11 hp1.2.1, mr12 hp1.1, mk12 hp1.1, mi12 hp1.2.1, mr13 hp1.1, mk13 hp1.1, mi13 hp1.2.1, mr14 hp1.1, mk14 hp1.1, mi14 hp1.2.1, mr15 hp1.1, mk15 hp1.1, mi15 hp1.2.1, mr16 hp1.1, mk16 hp1.1, mi16 hp1.2.1, mr17 hp1.1, mk17 hp1.1, mi17 hp1.2.1, mr18 hp1.1, mk18 hp1.1, mi18 hp1.2.1, mr19 hp1.1, mk19 hp1.1, mr20 hp1.1, mk20 hp1.1, mr21 hp1.1, mk21 hp1.1, mr22 hp1.1, mk22 hp1.1, mr23 hp1.1, mk23 hp1.1, mr24 hp1.1, mk24 hp1.1, mi0 hp1.2.1, mi1 hp1.2.1, mi6 hp1.2.1, mi8 hp1.2.1, Option.some.injEq, exists_eq_left', true_and, e6]
    refine ⟨by unfold zin; omega, by unfold zin; omega, by omega, by omega, by omega, by omega, b1, zp, by omega, by omega, ?_⟩
    rintro M2 e2
    have hp2 := mPo_up hp1 e2 (f := 7) rfl (by decide) rfl
    have e62 : yup (barY1 Y x y k) 7 (5 * y + x) (zor (barY1 Y x y k 7 (5 * y + x)) (zpw k)) 6 0 = Y 6 0 := rfl
    simp only [mk0 hp2.1, mr2 hp2.1, mk2 hp2.1, mi2 hp2.2.1, mr3 hp2.1, mk3 hp2.1, mi3 hp2.2.1, mr4 hp2.1, mk4 hp2.1, mi4 hp2.2.1, mr5 hp2.1, mk5 hp2.1, mi5 hp2.2.1, mr7 hp2.1, mk7 hp2.1, mi7 hp2.2.1, mr9 hp2.1, mk9 hp2.1, mi9 hp2.2.1, mr10 hp2.1, mk10 hp2.1, mi10 hp2.2.1, mr11 hp2.1, mk11 hp2.1, mi11 hp2.2.1, mr12 hp2.1, mk12 hp2.1, mi12 hp2.2.1, mr13 hp2.1, mk13 hp2.1, mi13 hp2.2.1, mr14 hp2.1, mk14 hp2.1, mi14 hp2.2.1, mr15 hp2.1, mk15 hp2.1, mi15 hp2.2.1, mr16 hp2.1, mk16 hp2.1, mi16 hp2.2.1, mr17 hp2.1, mk17 hp2.1, mi17 hp2.2.1, mr18 hp2.1, mk18 hp2.1, mi18 hp2.2.1, mr19 hp2.1, mk19 hp2.1, mr20 hp2.1, mk20 hp2.1, mr21 hp2.1, mk21 hp2.1, mr22 hp2.1, mk22 hp2.1, mr23 hp2.1, mk23 hp2.1, mr24 hp2.1, mk24 hp2.1, mi0 hp2.2.1, mi1 hp2.2.1, mi6 hp2.2.1, mi8 hp2.2.1, Option.some.injEq, exists_eq_left', true_and, e62]
    refine ⟨by unfold zin; omega, ?_⟩
    rintro M3 e3
    have hp3 := mPo_sc hp2 e3 (f := 6) rfl rfl
    exact ⟨p2i_z1 n, by unfold barY; rw [pif_t n]; unfold barY2; rw [pif_f q5]; exact hp3⟩
theorem c_work (hs : mSh a M) (hc : mCo a M Y) (hi : yInv c Y) (x g : Int) : zCi E mX7_work (d + 2) 0 0 [vR (some a), vI x, vI g] M (fun r M' => r = workR Y x g ∧ mPo a M M' (workY Y x g)) := by
  refine sX7_work _ _ _ (fun X hr => vX7_work_0 hr _ _ _ ?_)
  have h8 := yI_n hi
  have no : ¬ workOk Y x g → (-1 : Int) = workR Y x g ∧ mPo a M M (workY Y x g) := fun n => ⟨by unfold workR; rw [pif_f n], by unfold workY; rw [pif_f n]; exact mPo_rf hs hc⟩
  refine ⟨by omega, by omega, by omega, by omega, by omega, by omega, by omega, by omega, fun q => no (fun z => by have := z.1; omega), fun q0 => zu (c_in _ _ _) ⟨fun q => no (fun z => p2i_0.mp q z.2.1), fun q1 => ⟨fun q => no (fun z => by have := z.2.2.1; omega), fun q2 => ⟨fun q => no (fun z => by have := z.2.2.2.1; omega), fun q3 => ⟨fun q => no (fun z => by have := z.2.2.2.2.1; omega), fun q4 => ⟨hs.1, ?_⟩⟩⟩⟩⟩⟩
  rw [mi1 hc]
  refine ⟨fun q => no (fun z => by have := z.2.2.2.2.2.1; omega), fun q5 => zu (c_in _ _ _) ⟨fun q => no (fun z => p2i_0.mp q z.2.2.2.2.2.2.1), fun q6 => ⟨hs.1, ?_⟩⟩⟩
  rw [mi8 hc]
  refine ⟨fun q7 => ?_, fun q => no (fun z => z.2.2.2.2.2.2.2 q)⟩
  have n : workOk Y x g := ⟨q0, p2i_n0.mp q1, q2, q3, q4, q5, p2i_n0.mp q6, q7⟩
  have hp0 := mPo_rf hs hc
  simp only [mk0 hp0.1, mr2 hp0.1, mk2 hp0.1, mi2 hp0.2.1, mr3 hp0.1, mk3 hp0.1, mi3 hp0.2.1, mr4 hp0.1, mk4 hp0.1, mi4 hp0.2.1, mr5 hp0.1, mk5 hp0.1, mi5 hp0.2.1, mr7 hp0.1, mk7 hp0.1, mi7 hp0.2.1, mr9 hp0.1, mk9 hp0.1, mi9 hp0.2.1, mr10 hp0.1, mk10 hp0.1, mi10 hp0.2.1, mr11 hp0.1, mk11 hp0.1, mi11 hp0.2.1, mr12 hp0.1, mk12 hp0.1, mi12 hp0.2.1, mr13 hp0.1, mk13 hp0.1, mi13 hp0.2.1, mr14 hp0.1, mk14 hp0.1, mi14 hp0.2.1, mr15 hp0.1, mk15 hp0.1, mi15 hp0.2.1, mr16 hp0.1, mk16 hp0.1, mi16 hp0.2.1, mr17 hp0.1, mk17 hp0.1, mi17 hp0.2.1, mr18 hp0.1, mk18 hp0.1, mi18 hp0.2.1, mr19 hp0.1, mk19 hp0.1, mr20 hp0.1, mk20 hp0.1, mr21 hp0.1, mk21 hp0.1, mr22 hp0.1, mk22 hp0.1, mr23 hp0.1, mk23 hp0.1, mr24 hp0.1, mk24 hp0.1, mi0 hp0.2.1, mi1 hp0.2.1, mi6 hp0.2.1, mi8 hp0.2.1, Option.some.injEq, exists_eq_left', true_and]
  refine ⟨h8.1, by omega, ?_⟩
  rintro M1 e1
  have hp1 := mPo_up hp0 e1 (f := 9) rfl (by decide) rfl
  have k1 : yup Y 9 (Y 8 0) (x.tdiv 100000) 8 0 = Y 8 0 := rfl
  simp only [mk0 hp1.1, mr2 hp1.1, mk2 hp1.1, mi2 hp1.2.1, mr3 hp1.1, mk3 hp1.1, mi3 hp1.2.1, mr4 hp1.1, mk4 hp1.1, mi4 hp1.2.1, mr5 hp1.1, mk5 hp1.1, mi5 hp1.2.1, mr7 hp1.1, mk7 hp1.1, mi7 hp1.2.1, mr9 hp1.1, mk9 hp1.1, mi9 hp1.2.1, mr10 hp1.1, mk10 hp1.1, mi10 hp1.2.1, mr11 hp1.1, mk11 hp1.1, mi11 hp1.2.1, mr12 hp1.1, mk12 hp1.1, mi12 hp1.2.1, mr13 hp1.1, mk13 hp1.1, mi13 hp1.2.1, mr14 hp1.1, mk14 hp1.1, mi14 hp1.2.1, mr15 hp1.1, mk15 hp1.1, mi15 hp1.2.1, mr16 hp1.1, mk16 hp1.1, mi16 hp1.2.1, mr17 hp1.1, mk17 hp1.1, mi17 hp1.2.1, mr18 hp1.1, mk18 hp1.1, mi18 hp1.2.1, mr19 hp1.1, mk19 hp1.1, mr20 hp1.1, mk20 hp1.1, mr21 hp1.1, mk21 hp1.1, mr22 hp1.1, mk22 hp1.1, mr23 hp1.1, mk23 hp1.1, mr24 hp1.1, mk24 hp1.1, mi0 hp1.2.1, mi1 hp1.2.1, mi6 hp1.2.1, mi8 hp1.2.1, Option.some.injEq, exists_eq_left', true_and, k1]
  refine ⟨h8.1, by omega, ?_⟩
  rintro M2 e2
  have hp2 := mPo_up hp1 e2 (f := 10) rfl (by decide) rfl
  have k2 : yup (yup Y 9 (Y 8 0) (x.tdiv 100000)) 10 (Y 8 0) ((x.tdiv 1000).tmod 10) 8 0 = Y 8 0 := rfl
  simp only [mk0 hp2.1, mr2 hp2.1, mk2 hp2.1, mi2 hp2.2.1, mr3 hp2.1, mk3 hp2.1, mi3 hp2.2.1, mr4 hp2.1, mk4 hp2.1, mi4 hp2.2.1, mr5 hp2.1, mk5 hp2.1, mi5 hp2.2.1, mr7 hp2.1, mk7 hp2.1, mi7 hp2.2.1, mr9 hp2.1, mk9 hp2.1, mi9 hp2.2.1, mr10 hp2.1, mk10 hp2.1, mi10 hp2.2.1, mr11 hp2.1, mk11 hp2.1, mi11 hp2.2.1, mr12 hp2.1, mk12 hp2.1, mi12 hp2.2.1, mr13 hp2.1, mk13 hp2.1, mi13 hp2.2.1, mr14 hp2.1, mk14 hp2.1, mi14 hp2.2.1, mr15 hp2.1, mk15 hp2.1, mi15 hp2.2.1, mr16 hp2.1, mk16 hp2.1, mi16 hp2.2.1, mr17 hp2.1, mk17 hp2.1, mi17 hp2.2.1, mr18 hp2.1, mk18 hp2.1, mi18 hp2.2.1, mr19 hp2.1, mk19 hp2.1, mr20 hp2.1, mk20 hp2.1, mr21 hp2.1, mk21 hp2.1, mr22 hp2.1, mk22 hp2.1, mr23 hp2.1, mk23 hp2.1, mr24 hp2.1, mk24 hp2.1, mi0 hp2.2.1, mi1 hp2.2.1, mi6 hp2.2.1, mi8 hp2.2.1, Option.some.injEq, exists_eq_left', true_and, k2]
  refine ⟨h8.1, by omega, ?_⟩
  rintro M3 e3
  have hp3 := mPo_up hp2 e3 (f := 11) rfl (by decide) rfl
  have k3 : yup (yup (yup Y 9 (Y 8 0) (x.tdiv 100000)) 10 (Y 8 0) ((x.tdiv 1000).tmod 10)) 11 (Y 8 0) ((x.tdiv 10000).tmod 10) 8 0 = Y 8 0 := rfl
  simp only [mk0 hp3.1, mr2 hp3.1, mk2 hp3.1, mi2 hp3.2.1, mr3 hp3.1, mk3 hp3.1, mi3 hp3.2.1, mr4 hp3.1, mk4 hp3.1, mi4 hp3.2.1, mr5 hp3.1, mk5 hp3.1, mi5 hp3.2.1, mr7 hp3.1, mk7 hp3.1, mi7 hp3.2.1, mr9 hp3.1, mk9 hp3.1, mi9 hp3.2.1, mr10 hp3.1, mk10 hp3.1, mi10 hp3.2.1, mr11 hp3.1, mk11 hp3.1, mi11 hp3.2.1, mr12 hp3.1, mk12 hp3.1, mi12 hp3.2.1, mr13 hp3.1, mk13 hp3.1, mi13 hp3.2.1, mr14 hp3.1, mk14 hp3.1, mi14 hp3.2.1, mr15 hp3.1, mk15 hp3.1, mi15 hp3.2.1, mr16 hp3.1, mk16 hp3.1, mi16 hp3.2.1, mr17 hp3.1, mk17 hp3.1, mi17 hp3.2.1, mr18 hp3.1, mk18 hp3.1, mi18 hp3.2.1, mr19 hp3.1, mk19 hp3.1, mr20 hp3.1, mk20 hp3.1, mr21 hp3.1, mk21 hp3.1, mr22 hp3.1, mk22 hp3.1, mr23 hp3.1, mk23 hp3.1, mr24 hp3.1, mk24 hp3.1, mi0 hp3.2.1, mi1 hp3.2.1, mi6 hp3.2.1, mi8 hp3.2.1, Option.some.injEq, exists_eq_left', true_and, k3]
  refine ⟨h8.1, by omega, ?_⟩
  rintro M4 e4
  have hp4 := mPo_up hp3 e4 (f := 12) rfl (by decide) rfl
  generalize hY4 : yup (yup (yup (yup Y 9 (Y 8 0) (x.tdiv 100000)) 10 (Y 8 0) ((x.tdiv 1000).tmod 10)) 11 (Y 8 0) ((x.tdiv 10000).tmod 10)) 12 (Y 8 0) (x.tmod 100) = Y4 at hp4
  have k4 : Y4 8 0 = Y 8 0 := by rw [← hY4]; rfl
  simp only [mk0 hp4.1, mr2 hp4.1, mk2 hp4.1, mi2 hp4.2.1, mr3 hp4.1, mk3 hp4.1, mi3 hp4.2.1, mr4 hp4.1, mk4 hp4.1, mi4 hp4.2.1, mr5 hp4.1, mk5 hp4.1, mi5 hp4.2.1, mr7 hp4.1, mk7 hp4.1, mi7 hp4.2.1, mr9 hp4.1, mk9 hp4.1, mi9 hp4.2.1, mr10 hp4.1, mk10 hp4.1, mi10 hp4.2.1, mr11 hp4.1, mk11 hp4.1, mi11 hp4.2.1, mr12 hp4.1, mk12 hp4.1, mi12 hp4.2.1, mr13 hp4.1, mk13 hp4.1, mi13 hp4.2.1, mr14 hp4.1, mk14 hp4.1, mi14 hp4.2.1, mr15 hp4.1, mk15 hp4.1, mi15 hp4.2.1, mr16 hp4.1, mk16 hp4.1, mi16 hp4.2.1, mr17 hp4.1, mk17 hp4.1, mi17 hp4.2.1, mr18 hp4.1, mk18 hp4.1, mi18 hp4.2.1, mr19 hp4.1, mk19 hp4.1, mr20 hp4.1, mk20 hp4.1, mr21 hp4.1, mk21 hp4.1, mr22 hp4.1, mk22 hp4.1, mr23 hp4.1, mk23 hp4.1, mr24 hp4.1, mk24 hp4.1, mi0 hp4.2.1, mi1 hp4.2.1, mi6 hp4.2.1, mi8 hp4.2.1, Option.some.injEq, exists_eq_left', true_and, k4]
  refine ⟨h8.1, by omega, ?_⟩
  rintro M5 e5
  have hp5 := mPo_up hp4 e5 (f := 13) rfl (by decide) rfl
  have k5 : yup Y4 13 (Y 8 0) ((x.tdiv 100).tmod 10) 8 0 = Y 8 0 := k4
  simp only [mk0 hp5.1, mr2 hp5.1, mk2 hp5.1, mi2 hp5.2.1, mr3 hp5.1, mk3 hp5.1, mi3 hp5.2.1, mr4 hp5.1, mk4 hp5.1, mi4 hp5.2.1, mr5 hp5.1, mk5 hp5.1, mi5 hp5.2.1, mr7 hp5.1, mk7 hp5.1, mi7 hp5.2.1, mr9 hp5.1, mk9 hp5.1, mi9 hp5.2.1, mr10 hp5.1, mk10 hp5.1, mi10 hp5.2.1, mr11 hp5.1, mk11 hp5.1, mi11 hp5.2.1, mr12 hp5.1, mk12 hp5.1, mi12 hp5.2.1, mr13 hp5.1, mk13 hp5.1, mi13 hp5.2.1, mr14 hp5.1, mk14 hp5.1, mi14 hp5.2.1, mr15 hp5.1, mk15 hp5.1, mi15 hp5.2.1, mr16 hp5.1, mk16 hp5.1, mi16 hp5.2.1, mr17 hp5.1, mk17 hp5.1, mi17 hp5.2.1, mr18 hp5.1, mk18 hp5.1, mi18 hp5.2.1, mr19 hp5.1, mk19 hp5.1, mr20 hp5.1, mk20 hp5.1, mr21 hp5.1, mk21 hp5.1, mr22 hp5.1, mk22 hp5.1, mr23 hp5.1, mk23 hp5.1, mr24 hp5.1, mk24 hp5.1, mi0 hp5.2.1, mi1 hp5.2.1, mi6 hp5.2.1, mi8 hp5.2.1, Option.some.injEq, exists_eq_left', true_and, k5]
  refine ⟨h8.1, by omega, ?_⟩
  rintro M6 e6
  have hp6 := mPo_up hp5 e6 (f := 14) rfl (by decide) rfl
  have k6 : yup (yup Y4 13 (Y 8 0) ((x.tdiv 100).tmod 10)) 14 (Y 8 0) g 8 0 = Y 8 0 := k4
  simp only [mk0 hp6.1, mr2 hp6.1, mk2 hp6.1, mi2 hp6.2.1, mr3 hp6.1, mk3 hp6.1, mi3 hp6.2.1, mr4 hp6.1, mk4 hp6.1, mi4 hp6.2.1, mr5 hp6.1, mk5 hp6.1, mi5 hp6.2.1, mr7 hp6.1, mk7 hp6.1, mi7 hp6.2.1, mr9 hp6.1, mk9 hp6.1, mi9 hp6.2.1, mr10 hp6.1, mk10 hp6.1, mi10 hp6.2.1, mr11 hp6.1, mk11 hp6.1, mi11 hp6.2.1, mr12 hp6.1, mk12 hp6.1, mi12 hp6.2.1, mr13 hp6.1, mk13 hp6.1, mi13 hp6.2.1, mr14 hp6.1, mk14 hp6.1, mi14 hp6.2.1, mr15 hp6.1, mk15 hp6.1, mi15 hp6.2.1, mr16 hp6.1, mk16 hp6.1, mi16 hp6.2.1, mr17 hp6.1, mk17 hp6.1, mi17 hp6.2.1, mr18 hp6.1, mk18 hp6.1, mi18 hp6.2.1, mr19 hp6.1, mk19 hp6.1, mr20 hp6.1, mk20 hp6.1, mr21 hp6.1, mk21 hp6.1, mr22 hp6.1, mk22 hp6.1, mr23 hp6.1, mk23 hp6.1, mr24 hp6.1, mk24 hp6.1, mi0 hp6.2.1, mi1 hp6.2.1, mi6 hp6.2.1, mi8 hp6.2.1, Option.some.injEq, exists_eq_left', true_and, k6]
  refine ⟨h8.1, by omega, ?_⟩
  rintro M7 e7
  have hp7 := mPo_up hp6 e7 (f := 15) rfl (by decide) rfl
  have k7 : yup (yup (yup Y4 13 (Y 8 0) ((x.tdiv 100).tmod 10)) 14 (Y 8 0) g) 15 (Y 8 0) (-1) 8 0 = Y 8 0 := k4
  simp only [mk0 hp7.1, mr2 hp7.1, mk2 hp7.1, mi2 hp7.2.1, mr3 hp7.1, mk3 hp7.1, mi3 hp7.2.1, mr4 hp7.1, mk4 hp7.1, mi4 hp7.2.1, mr5 hp7.1, mk5 hp7.1, mi5 hp7.2.1, mr7 hp7.1, mk7 hp7.1, mi7 hp7.2.1, mr9 hp7.1, mk9 hp7.1, mi9 hp7.2.1, mr10 hp7.1, mk10 hp7.1, mi10 hp7.2.1, mr11 hp7.1, mk11 hp7.1, mi11 hp7.2.1, mr12 hp7.1, mk12 hp7.1, mi12 hp7.2.1, mr13 hp7.1, mk13 hp7.1, mi13 hp7.2.1, mr14 hp7.1, mk14 hp7.1, mi14 hp7.2.1, mr15 hp7.1, mk15 hp7.1, mi15 hp7.2.1, mr16 hp7.1, mk16 hp7.1, mi16 hp7.2.1, mr17 hp7.1, mk17 hp7.1, mi17 hp7.2.1, mr18 hp7.1, mk18 hp7.1, mi18 hp7.2.1, mr19 hp7.1, mk19 hp7.1, mr20 hp7.1, mk20 hp7.1, mr21 hp7.1, mk21 hp7.1, mr22 hp7.1, mk22 hp7.1, mr23 hp7.1, mk23 hp7.1, mr24 hp7.1, mk24 hp7.1, mi0 hp7.2.1, mi1 hp7.2.1, mi6 hp7.2.1, mi8 hp7.2.1, Option.some.injEq, exists_eq_left', true_and, k7]
  refine ⟨by unfold zin; omega, ?_⟩
  rintro M8 e8
  have hp8 := mPo_sc hp7 e8 (f := 8) rfl rfl
  have k8 : ysc (yup (yup (yup Y4 13 (Y 8 0) ((x.tdiv 100).tmod 10)) 14 (Y 8 0) g) 15 (Y 8 0) (-1)) 8 (Y 8 0 + 1) 8 0 = Y 8 0 + 1 := rfl
  simp only [mk0 hp8.1, mr2 hp8.1, mk2 hp8.1, mi2 hp8.2.1, mr3 hp8.1, mk3 hp8.1, mi3 hp8.2.1, mr4 hp8.1, mk4 hp8.1, mi4 hp8.2.1, mr5 hp8.1, mk5 hp8.1, mi5 hp8.2.1, mr7 hp8.1, mk7 hp8.1, mi7 hp8.2.1, mr9 hp8.1, mk9 hp8.1, mi9 hp8.2.1, mr10 hp8.1, mk10 hp8.1, mi10 hp8.2.1, mr11 hp8.1, mk11 hp8.1, mi11 hp8.2.1, mr12 hp8.1, mk12 hp8.1, mi12 hp8.2.1, mr13 hp8.1, mk13 hp8.1, mi13 hp8.2.1, mr14 hp8.1, mk14 hp8.1, mi14 hp8.2.1, mr15 hp8.1, mk15 hp8.1, mi15 hp8.2.1, mr16 hp8.1, mk16 hp8.1, mi16 hp8.2.1, mr17 hp8.1, mk17 hp8.1, mi17 hp8.2.1, mr18 hp8.1, mk18 hp8.1, mi18 hp8.2.1, mr19 hp8.1, mk19 hp8.1, mr20 hp8.1, mk20 hp8.1, mr21 hp8.1, mk21 hp8.1, mr22 hp8.1, mk22 hp8.1, mr23 hp8.1, mk23 hp8.1, mr24 hp8.1, mk24 hp8.1, mi0 hp8.2.1, mi1 hp8.2.1, mi6 hp8.2.1, mi8 hp8.2.1, Option.some.injEq, exists_eq_left', true_and, k8]
  refine ⟨by unfold zin; omega, by unfold workR; rw [pif_t n]; omega, ?_⟩
  unfold workY
  rw [pif_t n]
  unfold workY1
  rw [hY4]
  exact hp8
theorem c_count (hs : mSh a M) (hc : mCo a M Y) (hi : yInv c Y) (ha : yAcy Y) (x : Int) : zCi E mX7_count (d + 3) 0 0 [vR (some a), vI x] M (fun r M' => r = countR Y x ∧ mPo a M M' Y) := by
  refine sX7_count _ _ (fun X hr => vX7_count_0 hr _ _ ?_)
  have h8 := yI_n hi
  have rf := mPo_rf hs hc
  have pb : ∀ (p : Int → Prop) (k : Int), 0 ≤ k → k ≤ Y 8 0 → 0 ≤ ysum (fun w => p2i (p w)) k ∧ ysum (fun w => p2i (p w)) k ≤ 40 := fun p k k0 k1 => by
    have := ysum_b (f := fun w => p2i (p w)) (b := 1) k0 (fun o _ _ => by rcases p2i_01 (p o) with q | q <;> rw [q] <;> omega)
    omega
  have L61 : x = 3 → ∀ k : Int, 0 ≤ k → k ≤ Y 8 0 → ZX7_count E (d + 2) X (fun r M' => r = countR Y x ∧ mPo a M M' Y) 61 [(0, vR (some a)), (1, vI x), (2, vI (ysum (fun w => p2i (¬ yPut Y w)) k)), (3, vI k)] [] M 0 0 := by
    intro hx
    refine zdownI (n := Y 8 0) (fun k hk hk0 hk2 => ?_) (fun k hk0 hk ih hk2 => ?_)
    · have hk : k = Y 8 0 := by omega
      subst hk
      refine vX7_count_61 hr _ _ _ _ ⟨hs.1, fun _ => ⟨?_, rf⟩, fun z => absurd z (by rw [mi8 hc]; omega)⟩
      unfold countR
      rw [pif_f (by omega), pif_f (by omega), pif_f (by omega), pif_t hx]
    · have ih := ih (by omega)
      have b := pb (fun w => ¬ yPut Y w) k hk0 (by omega)
      rw [ysum_s hk0] at ih
      refine vX7_count_61 hr _ _ _ _ ⟨hs.1, fun z => absurd z (by rw [mi8 hc]; omega), fun _ => ⟨hs.1, zu (c_isPut hs hc hk0 (by omega)) ⟨fun q => ⟨by unfold zin; omega, by unfold zin; omega, ?_⟩, fun q => ⟨by unfold zin; omega, by unfold zin; omega, ?_⟩⟩⟩⟩
      · rw [p2i_t (p2i_0.mp q)] at ih; exact ih
      · rw [p2i_f (fun z => z (p2i_n0.mp q))] at ih; exact ih
  have L95 : x = 4 → ∀ k : Int, 0 ≤ k → k ≤ Y 8 0 → ZX7_count E (d + 2) X (fun r M' => r = countR Y x ∧ mPo a M M' Y) 95 [(0, vR (some a)), (1, vI x), (2, vI (ysum (fun w => p2i (yDone Y w)) k)), (3, vI k)] [] M 0 0 := by
    intro hx
    refine zdownI (n := Y 8 0) (fun k hk hk0 hk2 => ?_) (fun k hk0 hk ih hk2 => ?_)
    · have hk : k = Y 8 0 := by omega
      subst hk
      refine vX7_count_95 hr _ _ _ _ ⟨hs.1, fun _ => ⟨?_, rf⟩, fun z => absurd z (by rw [mi8 hc]; omega)⟩
      unfold countR
      rw [pif_f (by omega), pif_f (by omega), pif_f (by omega), pif_f (by omega), pif_t hx]
    · have ih := ih (by omega)
      have b := pb (fun w => yDone Y w) k hk0 (by omega)
      rw [ysum_s hk0] at ih
      refine vX7_count_95 hr _ _ _ _ ⟨hs.1, fun z => absurd z (by rw [mi8 hc]; omega), fun _ => ⟨hs.1, zu (c_isDone hs hc hi hk0 hk) ⟨fun q => ⟨by unfold zin; omega, by unfold zin; omega, ?_⟩, fun q => ⟨by unfold zin; omega, by unfold zin; omega, ?_⟩⟩⟩⟩
      · rw [p2i_f (p2i_0.mp q)] at ih; exact ih
      · rw [p2i_t (p2i_n0.mp q)] at ih; exact ih
  refine ⟨fun q => ⟨hs.1, ?_, rf⟩, fun q => ⟨hs.1, ?_, rf⟩, fun q => ⟨hs.1, ?_, rf⟩, fun q => L61 q 0 (by omega) (by omega), fun q => L95 q 0 (by omega) (by omega), fun q => ⟨hs.1, ?_, rf⟩, fun q => ⟨hs.1, _, c_way hs hc hi ha, fun r M' hp => ⟨?_, hp.2.1⟩⟩, fun q => ⟨?_, rf⟩⟩
  · rw [mi0 hc]; unfold countR; rw [pif_t q]
  · rw [mi1 hc]; unfold countR; rw [pif_f (by omega), pif_t q]
  · rw [mi8 hc]; unfold countR; rw [pif_f (by omega), pif_f (by omega), pif_t q]
  · rw [mi6 hc]; unfold countR; rw [pif_f (by omega), pif_f (by omega), pif_f (by omega), pif_f (by omega), pif_f (by omega), pif_t q]
  · rw [hp.1]; unfold countR; rw [pif_f (by omega), pif_f (by omega), pif_f (by omega), pif_f (by omega), pif_f (by omega), pif_f (by omega), pif_t q]
  · unfold countR; rw [pif_f (by omega), pif_f (by omega), pif_f (by omega), pif_f (by omega), pif_f (by omega), pif_f (by omega), pif_f (by omega)]
end M9
