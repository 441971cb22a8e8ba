/-! ===== contracts of the reference: may, first, why, load, end ===== -/
theorem yInv_15 {c : Int} {Y : yS} {w x : Int} (hi : yInv c Y) (h : x = -1 ∨ (0 ≤ x ∧ x + Y 9 w ≤ 400)) : yInv c (yup Y 15 w x) := by
  refine ⟨hi.1, hi.2.1, hi.2.2.1, hi.2.2.2.1, hi.2.2.2.2.1, hi.2.2.2.2.2.1, hi.2.2.2.2.2.2.1, hi.2.2.2.2.2.2.2.1, hi.2.2.2.2.2.2.2.2.1, hi.2.2.2.2.2.2.2.2.2.1, fun v h0 h1 => ?_, hi.2.2.2.2.2.2.2.2.2.2.2⟩
  have hv := yI_w hi h0 h1
  refine ⟨hv.1, hv.2.1, hv.2.2.1, hv.2.2.2.1, hv.2.2.2.2.1, hv.2.2.2.2.2.1, ?_, hv.2.2.2.2.2.2.2⟩
  show (if (15 : Nat) = 15 ∧ v = w then x else Y 15 v) = -1 ∨ (0 ≤ (if (15 : Nat) = 15 ∧ v = w then x else Y 15 v) ∧ (if (15 : Nat) = 15 ∧ v = w then x else Y 15 v) + Y 9 v ≤ 400)
  by_cases e : v = w
  · subst e
    rw [if_pos ⟨rfl, rfl⟩]
    exact h
  · rw [if_neg (fun q => e q.2)]
    exact hv.2.2.2.2.2.2.1
theorem zsI_back {M : zM} {b : Nat} {i x y : Int} (h : zI M b i = y) : zsI (zsI M b i x) b i y = M := by
  obtain ⟨sz, K, I, L, R⟩ := M
  unfold zsI
  simp only [Prod.mk.injEq, true_and, and_true]
  funext b' i'
  by_cases e : b' = b ∧ i' = i
  · rw [if_pos e, e.1, e.2, ← h]
    rfl
  · rw [if_neg e, if_neg e]
theorem yup_s (Y : yS) (f : Nat) (i x : Int) : yup Y f i x f i = x := if_pos ⟨rfl, rfl⟩
theorem yup_n (Y : yS) (f : Nat) (i x : Int) {g : Nat} {j : Int} (h : ¬ (g = f ∧ j = i)) : yup Y f i x g j = Y g j := if_neg h
def yMay (Y : yS) (w s : Int) : Prop := yWk Y w ∧ ¬ yBegun Y w ∧ Y 0 0 ≤ s ∧ s ≤ 400 - Y 9 w ∧ ¬ yBad (yup Y 15 w s) w ∧ ∀ k, 0 ≤ k → k < Y 8 0 → yNd Y k w → yPut (yup Y 15 w s) k → s + Y 9 w ≤ yup Y 15 w s 15 k
noncomputable def yFirst (Y : yS) (w f : Int) : Int := ylst (yMay Y w) (pif (f ≤ Y 0 0) (Y 0 0) f) 400
def yBw (Y : yS) (w : Int) : Prop := yPut Y w ∧ yBad Y w
noncomputable def yW0 (Y : yS) : Int := ylst (yBw Y) 0 (Y 8 0)
noncomputable def yR0 (Y : yS) (w : Int) : Int := ylst (fun r => yBreaks Y w r ≠ -1) 1 6
noncomputable def whyR (Y : yS) (x : Int) : Int := pif (0 ≤ x ∧ x ≤ 2) (pif (yW0 Y = -1) (-1) (pif (x = 0) (yW0 Y) (pif (x = 1) (yR0 Y (yW0 Y)) (yBreaks Y (yW0 Y) (yR0 Y (yW0 Y)))))) (-1)
noncomputable def yLd (Y : yS) (s x o : Int) : Int := pif (yIn Y o s) (pif (x < 4) (pif (Y 10 o = x) (Y 11 o) 0) (pif (x < 8) (p2i (Y 14 o = x - 4)) 1)) 0
noncomputable def loadR (Y : yS) (s x : Int) : Int := pif ((0 ≤ s ∧ s ≤ 399) ∧ (0 ≤ x ∧ x ≤ 8)) (ysum (yLd Y s x) (Y 8 0)) (-1)
def yfoldN (g : Int → Int → Int) (x : Int) : Nat → Int
  | 0 => x
  | n + 1 => g (yfoldN g x n) n
def yfold (g : Int → Int → Int) (x n : Int) : Int := yfoldN g x n.toNat
theorem yfold_0 (g : Int → Int → Int) (x : Int) : yfold g x 0 = x := rfl
theorem yfold_s {g : Int → Int → Int} {x n : Int} (h : 0 ≤ n) : yfold g x (n + 1) = g (yfold g x n) n := by
  unfold yfold
  rw [show (n + 1).toNat = n.toNat + 1 by omega]
  show g (yfoldN g x n.toNat) (n.toNat : Int) = _
  rw [show ((n.toNat : Nat) : Int) = n by omega]
noncomputable def endR (Y : yS) : Int := yfold (fun v w => pif (yPut Y w ∧ v < yEnd Y w) (yEnd Y w) v) 0 (Y 8 0)
section M5
variable {E : zE} {d a : Nat} {M : zM} {Y : yS} {c : Int}
theorem c_may (hs : mSh a M) (hc : mCo a M Y) (hi : yInv c Y) (w s : Int) : zCi E mX7_may (d + 6) 0 0 [vR (some a), vI w, vI s] M (fun r M' => r = p2i (yMay Y w s) ∧ M' = M) := by
  refine sX7_may _ _ _ (fun X hr => vX7_may_0 hr _ _ _ ?_)
  have h8 := yI_n hi
  have hn0 := yI_now hi
  refine ⟨hs.1, zu (c_isWork hs hc hi w) ⟨fun q => ⟨p2i_z0 (fun k => p2i_0.mp q k.1), rfl⟩, fun q => ?_⟩⟩
  have q := p2i_n0.mp q
  have q' := q.1
  have q'' := q.2
  have hw := yI_w hi q.1 q.2
  refine ⟨hs.1, zu (c_isBegun hs hc q.1 (by omega)) ⟨fun q2 => ⟨p2i_z0 (fun k => k.2.1 (p2i_n0.mp q2)), rfl⟩, fun q2 => ?_⟩⟩
  have q2 := p2i_0.mp q2
  simp only [mk0 hs, mr2 hs, mk2 hs, mi2 hc, mr3 hs, mk3 hs, mi3 hc, mr4 hs, mk4 hs, mi4 hc, mr5 hs, mk5 hs, mi5 hc, mr7 hs, mk7 hs, mi7 hc, mr9 hs, mk9 hs, mi9 hc, mr10 hs, mk10 hs, mi10 hc, mr11 hs, mk11 hs, mi11 hc, mr12 hs, mk12 hs, mi12 hc, mr13 hs, mk13 hs, mi13 hc, mr14 hs, mk14 hs, mi14 hc, mr15 hs, mk15 hs, mi15 hc, mr16 hs, mk16 hs, mi16 hc, mr17 hs, mk17 hs, mi17 hc, mr18 hs, mk18 hs, mi18 hc, mr19 hs, mk19 hs, mr20 hs, mk20 hs, mr21 hs, mk21 hs, mr22 hs, mk22 hs, mr23 hs, mk23 hs, mr24 hs, mk24 hs, mi0 hc, mi1 hc, mi6 hc, mi8 hc, Option.some.injEq, exists_eq_left', true_and]
  refine ⟨fun q3 => ⟨p2i_z0 (fun k => by have := k.2.2.1; omega), by trivial⟩, fun q3 => ⟨q.1, by omega, by unfold zin; omega, fun q4 => ⟨q.1, by omega, q.1, by omega, ?_⟩, fun q4 => ⟨p2i_z0 (fun k => by have := k.2.2.2.1; omega), by trivial⟩⟩⟩
  rintro _ rfl
  have hs1 : mSh a (zsI M (a + 12) w s) := hs
  have hc1 : mCo a (zsI M (a + 12) w s) (yup Y 15 w s) := mCo_up hc rfl (by decide) rfl
  have hi1 : yInv c (yup Y 15 w s) := yInv_15 hi (Or.inr ⟨by omega, by omega⟩)
  have back : zsI (zsI M (a + 12) w s) (a + 12) w (Y 15 w) = M := zsI_back (mi15 hc w)
  generalize hM1 : zsI M (a + 12) w s = M1 at hs1 hc1 back ⊢
  have hput : yPut (yup Y 15 w s) w := by unfold yPut; rw [yup_s]; omega
  have key : ∀ k : Int, 0 ≤ k → k ≤ Y 8 0 → ∀ v : Int, v = p2i (¬ yBad (yup Y 15 w s) w ∧ ∀ j, 0 ≤ j → j < k → yNd Y j w → yPut (yup Y 15 w s) j → s + Y 9 w ≤ yup Y 15 w s 15 j) → ZX7_may E (d + 5) X (fun r M' => r = p2i (yMay Y w s) ∧ M' = M) 72 [(0, vR (some a)), (1, vI w), (2, vI s), (3, vI (Y 15 w)), (4, vI v), (5, vI k)] [] M1 0 0 := by
    refine zdownI (n := Y 8 0) (fun k hk hk0 hk2 v hv => ?_) (fun k hk0 hk ih hk2 v hv => ?_)
    · have hk : k = Y 8 0 := by omega
      subst hk
      have h01 : v = 0 ∨ v = 1 := by rw [hv]; exact p2i_01 _
      refine vX7_may_72 hr _ _ _ _ _ _ ⟨hs1.1, fun _ => ?_, fun z => absurd z (by rw [mi8 hc1]; exact Int.not_lt.mpr (Int.le_refl _))⟩
      simp only [mk0 hs1, mr2 hs1, mk2 hs1, mi2 hc1, mr3 hs1, mk3 hs1, mi3 hc1, mr4 hs1, mk4 hs1, mi4 hc1, mr5 hs1, mk5 hs1, mi5 hc1, mr7 hs1, mk7 hs1, mi7 hc1, mr9 hs1, mk9 hs1, mi9 hc1, mr10 hs1, mk10 hs1, mi10 hc1, mr11 hs1, mk11 hs1, mi11 hc1, mr12 hs1, mk12 hs1, mi12 hc1, mr13 hs1, mk13 hs1, mi13 hc1, mr14 hs1, mk14 hs1, mi14 hc1, mr15 hs1, mk15 hs1, mi15 hc1, mr16 hs1, mk16 hs1, mi16 hc1, mr17 hs1, mk17 hs1, mi17 hc1, mr18 hs1, mk18 hs1, mi18 hc1, mr19 hs1, mk19 hs1, mr20 hs1, mk20 hs1, mr21 hs1, mk21 hs1, mr22 hs1, mk22 hs1, mr23 hs1, mk23 hs1, mr24 hs1, mk24 hs1, mi0 hc1, mi1 hc1, mi6 hc1, mi8 hc1, Option.some.injEq, exists_eq_left', true_and]
      refine ⟨q.1, by omega, ?_⟩
      rintro _ rfl
      refine ⟨h01, ?_, back⟩
      rw [hv]
      unfold yMay
      congr 1
      apply propext
      exact ⟨fun z => ⟨q, q2, q3, q4, z⟩, fun z => z.2.2.2.2⟩
    · have ih := ih (by omega)
      have h01 : v = 0 ∨ v = 1 := by rw [hv]; exact p2i_01 _
      refine vX7_may_72 hr _ _ _ _ _ _ ⟨hs1.1, fun z => absurd z (by rw [mi8 hc1]; exact Int.not_le.mpr hk), fun _ => ⟨fun q5 => ?_, fun q5 => ?_⟩⟩
      · simp only [mk0 hs1, mr2 hs1, mk2 hs1, mi2 hc1, mr3 hs1, mk3 hs1, mi3 hc1, mr4 hs1, mk4 hs1, mi4 hc1, mr5 hs1, mk5 hs1, mi5 hc1, mr7 hs1, mk7 hs1, mi7 hc1, mr9 hs1, mk9 hs1, mi9 hc1, mr10 hs1, mk10 hs1, mi10 hc1, mr11 hs1, mk11 hs1, mi11 hc1, mr12 hs1, mk12 hs1, mi12 hc1, mr13 hs1, mk13 hs1, mi13 hc1, mr14 hs1, mk14 hs1, mi14 hc1, mr15 hs1, mk15 hs1, mi15 hc1, mr16 hs1, mk16 hs1, mi16 hc1, mr17 hs1, mk17 hs1, mi17 hc1, mr18 hs1, mk18 hs1, mi18 hc1, mr19 hs1, mk19 hs1, mr20 hs1, mk20 hs1, mr21 hs1, mk21 hs1, mr22 hs1, mk22 hs1, mr23 hs1, mk23 hs1, mr24 hs1, mk24 hs1, mi0 hc1, mi1 hc1, mi6 hc1, mi8 hc1, Option.some.injEq, exists_eq_left', true_and]
        refine ⟨q.1, by omega, ?_⟩
        rintro _ rfl
        refine ⟨h01, ?_, back⟩
        rw [q5]
        rw [q5] at hv
        exact p2i_z0 (fun z => p2i_0.mp hv.symm ⟨z.2.2.2.2.1, fun j a1 a2 => z.2.2.2.2.2 j a1 (by omega)⟩)
      · rw [hv] at q5
        have q5 := p2i_n0.mp q5
        have yes : (yNd Y k w → yPut (yup Y 15 w s) k → s + Y 9 w ≤ yup Y 15 w s 15 k) → 1 = p2i (¬ yBad (yup Y 15 w s) w ∧ ∀ j, 0 ≤ j → j < k + 1 → yNd Y j w → yPut (yup Y 15 w s) j → s + Y 9 w ≤ yup Y 15 w s 15 j) := fun z => p2i_z1 ⟨q5.1, fun j a b => by
          by_cases e : j = k
          · rw [e]; exact z
          · exact q5.2 j a (by omega)⟩
        simp only [mk0 hs1, mr2 hs1, mk2 hs1, mi2 hc1, mr3 hs1, mk3 hs1, mi3 hc1, mr4 hs1, mk4 hs1, mi4 hc1, mr5 hs1, mk5 hs1, mi5 hc1, mr7 hs1, mk7 hs1, mi7 hc1, mr9 hs1, mk9 hs1, mi9 hc1, mr10 hs1, mk10 hs1, mi10 hc1, mr11 hs1, mk11 hs1, mi11 hc1, mr12 hs1, mk12 hs1, mi12 hc1, mr13 hs1, mk13 hs1, mi13 hc1, mr14 hs1, mk14 hs1, mi14 hc1, mr15 hs1, mk15 hs1, mi15 hc1, mr16 hs1, mk16 hs1, mi16 hc1, mr17 hs1, mk17 hs1, mi17 hc1, mr18 hs1, mk18 hs1, mi18 hc1, mr19 hs1, mk19 hs1, mr20 hs1, mk20 hs1, mr21 hs1, mk21 hs1, mr22 hs1, mk22 hs1, mr23 hs1, mk23 hs1, mr24 hs1, mk24 hs1, mi0 hc1, mi1 hc1, mi6 hc1, mi8 hc1, Option.some.injEq, exists_eq_left', true_and]
        refine ⟨by unfold zin; omega, by unfold zin; omega, by omega, by omega, fun q6 => ⟨by unfold zin; omega, ih _ (yes (fun z => absurd q6 z))⟩, fun q6 => zu (c_isPut hs1 hc1 hk0 (by omega)) ⟨fun q7 => ⟨by unfold zin; omega, ih _ (yes (fun _ z => absurd z (p2i_0.mp q7)))⟩, fun q7 => ⟨hs1.1, zu (c_endOf hs1 hc1 hi1 q.1 q.2) ?_⟩⟩⟩
        have q7 := p2i_n0.mp q7
        have ee : yEnd (yup Y 15 w s) w = s + Y 9 w := by
          unfold yEnd
          rw [yup_s]
          rfl
        rw [ee]
        simp only [mk0 hs1, mr2 hs1, mk2 hs1, mi2 hc1, mr3 hs1, mk3 hs1, mi3 hc1, mr4 hs1, mk4 hs1, mi4 hc1, mr5 hs1, mk5 hs1, mi5 hc1, mr7 hs1, mk7 hs1, mi7 hc1, mr9 hs1, mk9 hs1, mi9 hc1, mr10 hs1, mk10 hs1, mi10 hc1, mr11 hs1, mk11 hs1, mi11 hc1, mr12 hs1, mk12 hs1, mi12 hc1, mr13 hs1, mk13 hs1, mi13 hc1, mr14 hs1, mk14 hs1, mi14 hc1, mr15 hs1, mk15 hs1, mi15 hc1, mr16 hs1, mk16 hs1, mi16 hc1, mr17 hs1, mk17 hs1, mi17 hc1, mr18 hs1, mk18 hs1, mi18 hc1, mr19 hs1, mk19 hs1, mr20 hs1, mk20 hs1, mr21 hs1, mk21 hs1, mr22 hs1, mk22 hs1, mr23 hs1, mk23 hs1, mr24 hs1, mk24 hs1, mi0 hc1, mi1 hc1, mi6 hc1, mi8 hc1, Option.some.injEq, exists_eq_left', true_and]
        exact ⟨hk0, by omega, fun q8 => ⟨by unfold zin; omega, ih _ (p2i_z0 (fun z => by have := z.2 k hk0 (by omega) q6 q7; omega))⟩, fun q8 => ⟨by unfold zin; omega, ih _ (yes (fun _ _ => q8))⟩⟩
  have k0 := key 0 (by omega) (by omega)
  refine ⟨hs1.1, zu (c_isBad hs1 hc1 hi1 q.1 q.2 hput) ⟨fun q5 => k0 _ (p2i_z0 (fun z => z.1 (p2i_n0.mp q5))), fun q5 => k0 _ (p2i_z1 ⟨p2i_0.mp q5, fun j a b => by exfalso; omega⟩)⟩⟩
theorem c_first (hs : mSh a M) (hc : mCo a M Y) (hi : yInv c Y) (w f : Int) : zCi E mX7_first (d + 7) 0 0 [vR (some a), vI w, vI f] M (fun r M' => r = yFirst Y w f ∧ M' = M) := by
  refine sX7_first _ _ _ (fun X hr => vX7_first_0 hr _ _ _ ?_)
  have hn0 := yI_now hi
  have key : ∀ s : Int, 0 ≤ s → ylst (yMay Y w) s 400 = yFirst Y w f → ZX7_first E (d + 6) X (fun r M' => r = yFirst Y w f ∧ M' = M) 17 [(0, vR (some a)), (1, vI w), (2, vI f), (3, vI s)] [] M 0 0 := by
    refine zdownI (n := 400) (fun s hk hk0 e => ?_) (fun s hk0 hk ih e => ?_)
    · exact vX7_first_17 hr _ _ _ _ ⟨fun _ => ⟨by rw [← e, ylst_n hk], rfl⟩, fun z => by omega⟩
    · exact vX7_first_17 hr _ _ _ _ ⟨fun z => by omega, fun _ => ⟨hs.1, zu (c_may hs hc hi w s) ⟨fun z => ⟨by unfold zin; omega, ih (by rw [← e, ylst_f hk (p2i_0.mp z)])⟩, fun z => ⟨by rw [← e, ylst_t hk (p2i_n0.mp z)], rfl⟩⟩⟩⟩
  simp only [mk0 hs, mr2 hs, mk2 hs, mi2 hc, mr3 hs, mk3 hs, mi3 hc, mr4 hs, mk4 hs, mi4 hc, mr5 hs, mk5 hs, mi5 hc, mr7 hs, mk7 hs, mi7 hc, mr9 hs, mk9 hs, mi9 hc, mr10 hs, mk10 hs, mi10 hc, mr11 hs, mk11 hs, mi11 hc, mr12 hs, mk12 hs, mi12 hc, mr13 hs, mk13 hs, mi13 hc, mr14 hs, mk14 hs, mi14 hc, mr15 hs, mk15 hs, mi15 hc, mr16 hs, mk16 hs, mi16 hc, mr17 hs, mk17 hs, mi17 hc, mr18 hs, mk18 hs, mi18 hc, mr19 hs, mk19 hs, mr20 hs, mk20 hs, mr21 hs, mk21 hs, mr22 hs, mk22 hs, mr23 hs, mk23 hs, mr24 hs, mk24 hs, mi0 hc, mi1 hc, mi6 hc, mi8 hc, Option.some.injEq, exists_eq_left', true_and]
  refine ⟨fun q => key _ hn0.1 (by unfold yFirst; rw [pif_t q]), fun q => key _ (by omega) (by unfold yFirst; rw [pif_f (by omega)])⟩
theorem c_why (hs : mSh a M) (hc : mCo a M Y) (hi : yInv c Y) (x : Int) : zCi E mX7_why (d + 6) 0 0 [vR (some a), vI x] M (fun r M' => r = whyR Y x ∧ M' = M) := by
  refine sX7_why _ _ (fun X hr => vX7_why_0 hr _ _ ?_)
  have h8 := yI_n hi
  refine zu (c_in _ _ _) ⟨fun q => ?_, fun q => ⟨by unfold whyR; rw [pif_f (p2i_0.mp q)], rfl⟩⟩
  have q := p2i_n0.mp q
  have key : ∀ k : Int, 0 ≤ k → ylst (yBw Y) k (Y 8 0) = yW0 Y → k ≤ Y 8 0 → ZX7_why E (d + 5) X (fun r M' => r = whyR Y x ∧ M' = M) 13 [(0, vR (some a)), (1, vI x), (2, vI k)] [] M 0 0 := by
    refine zdownI (n := Y 8 0) (fun k hk hk0 e _ => ?_) (fun k hk0 hk ih e hk2 => ?_)
    · refine vX7_why_13 hr _ _ _ ⟨hs.1, fun _ => ⟨?_, rfl⟩, fun z => absurd z (by rw [mi8 hc]; omega)⟩
      rw [ylst_n hk] at e
      unfold whyR
      rw [pif_t q, pif_t e.symm]
    · have inner : ∀ r : Int, 0 ≤ r → 1 ≤ r → r ≤ 6 → (∀ j, 1 ≤ j → j < r → yPut Y k → yBreaks Y k j = -1) → ZX7_why E (d + 5) X (fun r M' => r = whyR Y x ∧ M' = M) 23 [(0, vR (some a)), (1, vI x), (2, vI k), (3, vI r)] [] M 0 0 := by
        refine zdownI (n := 6) (fun r hr0 _ h1 h2 hj => ?_) (fun r hr0 hr6 ih2 h1 h2 hj => ?_)
        · have hr6 : r = 6 := by omega
          subst hr6
          refine vX7_why_23 hr _ _ _ _ ⟨fun _ => ⟨by unfold zin; omega, ih ?_ (by omega)⟩, fun z => by omega⟩
          rw [← e, ylst_f hk]
          rintro ⟨b1, r, b2, b3, b4⟩
          exact b4 (hj r b2 (by omega) b1)
        · refine vX7_why_23 hr _ _ _ _ ⟨fun z => by omega, fun _ => ⟨hs.1, zu (c_isPut hs hc hk0 (by omega)) ⟨fun q2 => ⟨by unfold zin; omega, ih ?_ (by omega)⟩, fun q2 => ?_⟩⟩⟩
          · rw [← e, ylst_f hk (fun z => p2i_0.mp q2 z.1)]
          · have q2 := p2i_n0.mp q2
            refine ⟨hs.1, zu (c_breaks hs hc hi r hk0 hk q2) ⟨fun q3 => ⟨by unfold zin; omega, ih2 (by omega) (by omega) (fun j a1 a2 a3 => ?_)⟩, fun q3 => ?_⟩⟩
            · by_cases ej : j = r
              · rw [ej]; exact q3
              · exact hj j a1 (by omega) a3
            · have ew : yW0 Y = k := by rw [← e, ylst_t hk ⟨q2, r, h1, by omega, q3⟩]
              have er : yR0 Y k = r := by
                have cnt : ∀ (n : Nat) (s : Int), 1 ≤ s → s ≤ r → r - s ≤ n → ylst (fun r => yBreaks Y k r ≠ -1) s 6 = r := by
                  intro n
                  induction n with
                  | zero => intro s b1 b2 b3; rw [show s = r by omega]; exact ylst_t (by omega) q3
                  | succ n ihn =>
                    intro s b1 b2 b3
                    by_cases es : s = r
                    · rw [es]; exact ylst_t (by omega) q3
                    · rw [ylst_f (by omega) (fun z => z (hj s b1 (by omega) q2))]
                      exact ihn (s + 1) (by omega) (by omega) (by omega)
                exact cnt (r - 1).toNat 1 (by omega) h1 (by omega)
              have hne : ¬ k = -1 := by omega
              refine ⟨fun x0 => ⟨fun x1 => ⟨?_, rfl⟩, fun x1 => ⟨?_, rfl⟩⟩, fun x0 => ⟨?_, rfl⟩⟩
              · unfold whyR; rw [pif_t q, ew, pif_f hne, pif_f x0, pif_f x1, er]
              · unfold whyR; rw [pif_t q, ew, pif_f hne, pif_f x0, pif_t x1, er]
              · unfold whyR; rw [pif_t q, ew, pif_f hne, pif_t x0]
      exact vX7_why_13 hr _ _ _ ⟨hs.1, fun z => absurd z (by rw [mi8 hc]; omega), fun _ => inner 1 (by omega) (by omega) (by omega) (fun j a1 a2 => by omega)⟩
  exact key 0 (by omega) rfl (by omega)
theorem c_load (hs : mSh a M) (hc : mCo a M Y) (hi : yInv c Y) (s x : Int) : zCi E mX7_load (d + 3) 0 0 [vR (some a), vI s, vI x] M (fun r M' => r = loadR Y s x ∧ M' = M) := by
  refine sX7_load _ _ _ (fun X hr => vX7_load_0 hr _ _ _ ?_)
  have h8 := yI_n hi
  refine zu (c_in _ _ _) ⟨fun q => ⟨by unfold loadR; rw [pif_f (fun z => p2i_0.mp q z.1)], rfl⟩, fun q => zu (c_in _ _ _) ⟨fun q2 => ?_, fun q2 => ⟨by unfold loadR; rw [pif_f (fun z => p2i_0.mp q2 z.2)], rfl⟩⟩⟩
  have q := p2i_n0.mp q
  have q2 := p2i_n0.mp q2
  have hlb : ∀ o, 0 ≤ o → o < Y 8 0 → 0 ≤ yLd Y s x o ∧ yLd Y s x o ≤ 9 := by
    intro o o0 o1
    have ho := yI_w hi o0 o1
    unfold yLd
    by_cases b : yIn Y o s
    · rw [pif_t b]
      by_cases b2 : x < 4
      · rw [pif_t b2]
        by_cases b3 : Y 10 o = x
        · rw [pif_t b3]; omega
        · rw [pif_f b3]; omega
      · rw [pif_f b2]
        by_cases b3 : x < 8
        · rw [pif_t b3]
          rcases p2i_01 (Y 14 o = x - 4) with z | z <;> rw [z] <;> omega
        · rw [pif_f b3]; omega
    · rw [pif_f b]; omega
  have key : ∀ k : Int, 0 ≤ k → k ≤ Y 8 0 → ZX7_load E (d + 2) X (fun r M' => r = loadR Y s x ∧ M' = M) 28 [(0, vR (some a)), (1, vI s), (2, vI x), (3, vI (ysum (yLd Y s x) k)), (4, vI k)] [] M 0 0 := by
    refine zdownI (n := Y 8 0) (fun k hk hk0 hk2 => ?_) (fun k hk0 hk ih hk2 => ?_)
    · have hk : k = Y 8 0 := by omega
      subst hk
      exact vX7_load_28 hr _ _ _ _ _ ⟨hs.1, fun _ => ⟨by unfold loadR; rw [pif_t ⟨q, q2⟩], rfl⟩, fun z => absurd z (by rw [mi8 hc]; omega)⟩
    · have ih := ih (by omega)
      have hko := yI_w hi hk0 hk
      have hb := ysum_b (f := yLd Y s x) (b := 9) hk0 (fun o a b => hlb o a (by omega))
      have st : ∀ v : Int, yLd Y s x k = v → ZX7_load E (d + 2) X (fun r M' => r = loadR Y s x ∧ M' = M) 28 [(0, vR (some a)), (1, vI s), (2, vI x), (3, vI (ysum (yLd Y s x) k + v)), (4, vI (k + 1))] [] M 0 0 := fun v e => by
        rw [ysum_s hk0, e] at ih
        exact ih
      refine vX7_load_28 hr _ _ _ _ _ ⟨hs.1, fun z => absurd z (by rw [mi8 hc]; omega), fun _ => ⟨hs.1, zu (c_isIn hs hc hi hk0 hk) ⟨fun qi => ?_, fun qi => ?_⟩⟩⟩
      · have qi := p2i_n0.mp qi
        have zk : zin (k + 1) := by unfold zin; omega
        have z0 : zin (ysum (yLd Y s x) k + 0) := by unfold zin; omega
        have z1 : zin (ysum (yLd Y s x) k + 1) := by unfold zin; omega
        have z2 : zin (ysum (yLd Y s x) k + Y 11 k) := by unfold zin; omega
        simp only [mk0 hs, mr2 hs, mk2 hs, mi2 hc, mr3 hs, mk3 hs, mi3 hc, mr4 hs, mk4 hs, mi4 hc, mr5 hs, mk5 hs, mi5 hc, mr7 hs, mk7 hs, mi7 hc, mr9 hs, mk9 hs, mi9 hc, mr10 hs, mk10 hs, mi10 hc, mr11 hs, mk11 hs, mi11 hc, mr12 hs, mk12 hs, mi12 hc, mr13 hs, mk13 hs, mi13 hc, mr14 hs, mk14 hs, mi14 hc, mr15 hs, mk15 hs, mi15 hc, mr16 hs, mk16 hs, mi16 hc, mr17 hs, mk17 hs, mi17 hc, mr18 hs, mk18 hs, mi18 hc, mr19 hs, mk19 hs, mr20 hs, mk20 hs, mr21 hs, mk21 hs, mr22 hs, mk22 hs, mr23 hs, mk23 hs, mr24 hs, mk24 hs, mi0 hc, mi1 hc, mi6 hc, mi8 hc, Option.some.injEq, exists_eq_left', true_and]
        refine ⟨fun b => ⟨fun b2 => ⟨z1, zk, st 1 ?_⟩, fun b2 => ⟨hk0, by omega, by unfold zin; omega, fun b3 => ⟨z0, zk, st 0 ?_⟩, fun b3 => ⟨z1, zk, st 1 ?_⟩⟩⟩, fun b => ⟨hk0, by omega, fun b3 => ⟨z0, zk, st 0 ?_⟩, fun b3 => ⟨hk0, by omega, z2, zk, st _ ?_⟩⟩⟩
        · unfold yLd; rw [pif_t qi, pif_f (by omega), pif_f (by omega)]
        · unfold yLd; rw [pif_t qi, pif_f (by omega), pif_t b2, p2i_f b3]
        · unfold yLd; rw [pif_t qi, pif_f (by omega), pif_t b2, p2i_t b3]
        · unfold yLd; rw [pif_t qi, pif_t b, pif_f b3]
        · unfold yLd; rw [pif_t qi, pif_t b, pif_t b3]
      · have := st 0 (by unfold yLd; rw [pif_f (p2i_0.mp qi)])
        rw [Int.add_zero] at this
        exact ⟨by unfold zin; omega, this⟩
  exact key 0 (by omega) (by omega)
theorem c_end (hs : mSh a M) (hc : mCo a M Y) (hi : yInv c Y) : zCi E mX7_end (d + 2) 0 0 [vR (some a)] M (fun r M' => r = endR Y ∧ M' = M) := by
  refine sX7_end _ (fun X hr => vX7_end_0 hr _ ?_)
  have h8 := yI_n hi
  have key : ∀ k : Int, 0 ≤ k → k ≤ Y 8 0 → ZX7_end E (d + 1) X (fun r M' => r = endR Y ∧ M' = M) 4 [(0, vR (some a)), (1, vI (yfold (fun v w => pif (yPut Y w ∧ v < yEnd Y w) (yEnd Y w) v) 0 k)), (2, vI k)] [] M 0 0 := by
    refine zdownI (n := Y 8 0) (fun k hk hk0 hk2 => ?_) (fun k hk0 hk ih hk2 => ?_)
    · have hk : k = Y 8 0 := by omega
      subst hk
      exact vX7_end_4 hr _ _ _ ⟨hs.1, fun _ => ⟨rfl, rfl⟩, fun z => absurd z (by rw [mi8 hc]; omega)⟩
    · have ih := ih (by omega)
      rw [yfold_s hk0] at ih
      generalize hg : yfold (fun v w => pif (yPut Y w ∧ v < yEnd Y w) (yEnd Y w) v) 0 k = v at ih ⊢
      refine vX7_end_4 hr _ _ _ ⟨hs.1, fun z => absurd z (by rw [mi8 hc]; omega), fun _ => ⟨hs.1, zu (c_isPut hs hc hk0 (by omega)) ⟨fun q => ⟨by unfold zin; omega, ?_⟩, fun q => ⟨hs.1, zu (c_endOf hs hc hi hk0 hk) ⟨fun q2 => ⟨by unfold zin; omega, ?_⟩, fun q2 => ⟨hs.1, zu (c_endOf hs hc hi hk0 hk) ⟨by unfold zin; omega, ?_⟩⟩⟩⟩⟩⟩⟩
      · rw [pif_f (fun z => p2i_0.mp q z.1)] at ih; exact ih
      · rw [pif_f (fun z => by have := z.2; omega)] at ih; exact ih
      · rw [pif_t ⟨p2i_n0.mp q, q2⟩] at ih; exact ih
  exact key 0 (by omega) (by omega)
end M5
