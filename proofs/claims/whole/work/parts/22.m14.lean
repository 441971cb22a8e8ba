/-! ===== contracts of the reference: best ===== -/
abbrev bSt : Type := Int × (Int → Int)
noncomputable def bStep (Y : yS) (B : bSt) : bSt := pif (B.1 = -1 ∨ endR Y < B.1) (endR Y, fun w => Y 15 w) B
def dloop (g : bSt → Int → bSt) : Nat → bSt → Int → bSt
  | 0, B, _ => B
  | m + 1, B, q => dloop g m (g B q) (q + 1)
noncomputable def dfs : Nat → yS → bSt → bSt
  | 0, Y, B => bStep Y B
  | k + 1, Y, B => dloop (fun B w => pif (yReady Y w ∧ yFirst Y w 0 ≠ -1) (dfs k (yup Y 15 w (yFirst Y w 0)) B) B) (Y 8 0).toNat B 0
noncomputable def dfsG (k : Nat) (Y : yS) (B : bSt) (w : Int) : bSt := pif (yReady Y w ∧ yFirst Y w 0 ≠ -1) (dfs k (yup Y 15 w (yFirst Y w 0)) B) B
noncomputable def dRes (n : Int) : Nat → yS → bSt → Int → bSt
  | 0, Y, B, _ => bStep Y B
  | k + 1, Y, B, q => dloop (dfsG k Y) (n - q).toNat B q
theorem dRes_dfs {n : Int} (k : Nat) {Y : yS} (h : Y 8 0 = n) (B : bSt) : dRes n k Y B 0 = dfs k Y B := by
  cases k with
  | zero => rfl
  | succ k =>
    show dloop (dfsG k Y) (n - 0).toNat B 0 = dloop (dfsG k Y) (Y 8 0).toNat B 0
    rw [Int.sub_zero, h]
def bestOk (Y : yS) : Prop := 1 ≤ Y 8 0 ∧ Y 8 0 ≤ 6 ∧ Y 0 0 ≤ 0 ∧ ∀ w, yWk Y w → ¬ yPut Y w
noncomputable def bestB (Y : yS) : bSt := dfs (Y 8 0).toNat Y (-1, fun _ => 0)
noncomputable def bestR (Y : yS) : Int := pif (bestOk Y) (bestB Y).1 (-1)
noncomputable def bestK (Y : yS) (g : Int → Int) (k : Int) : yS := fun f i => pif (f = 15 ∧ 0 ≤ i ∧ i < k) (g i) (Y f i)
noncomputable def bestY (Y : yS) : yS := pif (bestOk Y ∧ (bestB Y).1 ≠ -1) (bestK Y (bestB Y).2 (Y 8 0)) Y
theorem bestK_0 (Y : yS) (g : Int → Int) (f : Nat) (i : Int) : bestK Y g 0 f i = Y f i := pif_f (fun h => by have := h.2; omega)
theorem bestK_s {Y : yS} {g : Int → Int} {k : Int} (h : 0 ≤ k) (f : Nat) (i : Int) : yup (bestK Y g k) 15 k (g k) f i = bestK Y g (k + 1) f i := by
  unfold yup bestK
  by_cases e : f = 15 ∧ i = k
  · rw [if_pos e, pif_t ⟨e.1, by omega, by omega⟩, e.2]
  · rw [if_neg e]
    have q : (f = 15 ∧ 0 ≤ i ∧ i < k) = (f = 15 ∧ 0 ≤ i ∧ i < k + 1) := propext ⟨fun z => ⟨z.1, z.2.1, by have := z.2.2; omega⟩, fun z => ⟨z.1, z.2.1, by
      have := z.2.2
      by_cases ei : i = k
      · exact absurd ⟨z.1, ei⟩ e
      · omega⟩⟩
    rw [q]
def bInv (a : Nat) (M0 : zM) (c n : Int) (Y : yS) (B : bSt) (M : zM) : Prop := mPo a M0 M Y ∧ yInv c Y ∧ Y 8 0 = n ∧ (B.1 ≠ -1 → ∀ w, 0 ≤ w → w < n → zI M (a + 21) w = B.2 w)
def bFr (a : Nat) (j : Int) (M M' : zM) : Prop := ∀ i, 0 ≤ i → i < j → zI M' (a + 19) i = zI M (a + 19) i ∧ zI M' (a + 20) i = zI M (a + 20) i
section M14
variable {E : zE} {d a : Nat} {M : zM} {Y : yS} {c : Int}
set_option maxHeartbeats 1600000 in
theorem c_best (hs : mSh a M) (hc : mCo a M Y) (hi : yInv c Y) : zCi E mX7_best (d + 8) 0 0 [vR (some a)] M (fun r M' => r = bestR Y ∧ mPo a M M' (bestY Y)) := by
  refine sX7_best _ (fun X hr => vX7_best_0 hr _ ?_)
  have h8 := yI_n hi
  have hn0 := yI_now hi
  have no : ¬ bestOk Y → (-1 : Int) = bestR Y ∧ mPo a M M (bestY Y) := fun n => ⟨by unfold bestR; rw [pif_f n], by unfold bestY; rw [pif_f (fun z => n z.1)]; exact mPo_rf hs hc⟩
  simp only [mk0 hs, mr2 hs, mk2 hs, mi2 hc, mr3 hs, mk3 hs, mi3 hc, mr4 hs, mk4 hs, mi4 hc, mr5 hs, mk5 hs, mi5 hc, mr7 hs, mk7 hs, mi7 hc, mr9 hs, mk9 hs, mi9 hc, mr10 hs, mk10 hs, mi10 hc, mr11 hs, mk11 hs, mi11 hc, mr12 hs, mk12 hs, mi12 hc, mr13 hs, mk13 hs, mi13 hc, mr14 hs, mk14 hs, mi14 hc, mr15 hs, mk15 hs, mi15 hc, mr16 hs, mk16 hs, mi16 hc, mr17 hs, mk17 hs, mi17 hc, mr18 hs, mk18 hs, mi18 hc, mr19 hs, mk19 hs, mr20 hs, mk20 hs, mr21 hs, mk21 hs, mr22 hs, mk22 hs, mr23 hs, mk23 hs, mr24 hs, mk24 hs, mi0 hc, mi1 hc, mi6 hc, mi8 hc, Option.some.injEq, exists_eq_left', true_and]
  refine ⟨fun q => no (fun z => by have := z.1; omega), fun q1 => ⟨fun q => no (fun z => by have := z.2.1; omega), fun q2 => ⟨fun q3 => ?_, fun q => no (fun z => by have := z.2.2.1; omega)⟩⟩⟩
  -- the last loop
  have L244 : ∀ (B : bSt) (x2 : Int), bestOk Y → B = bestB Y → ∀ k : Int, 0 ≤ k → k ≤ Y 8 0 → ∀ M1 : zM, mPo a M M1 (bestK Y B.2 k) → (B.1 = -1 → k = 0) → (B.1 ≠ -1 → ∀ w, 0 ≤ w → w < Y 8 0 → zI M1 (a + 21) w = B.2 w) → ZX7_best E (d + 7) X (fun r M' => r = bestR Y ∧ mPo a M M' (bestY Y)) 244 [(0, vR (some a)), (1, vI B.1), (2, vI x2), (3, vI k)] [] M1 0 0 := by
    intro B x2 ok eB
    refine zdownI (n := Y 8 0) (fun k hk hk0 hk2 M1 hp hb hw => ?_) (fun k hk0 hk ih hk2 M1 hp hb hw => ?_)
    · have hk : k = Y 8 0 := by omega
      have hb1 : B.1 ≠ -1 := fun z => by have := hb z; omega
      refine vX7_best_244 hr _ _ _ _ ⟨hp.1.1, fun _ => ⟨by unfold bestR; rw [pif_t ok, eB], ?_⟩, fun z => absurd z (by rw [mi8 hp.2.1]; show ¬ k < bestK Y B.2 k 8 0; rw [show bestK Y B.2 k 8 0 = Y 8 0 from pif_f (fun z => by have := z.1; omega)]; omega)⟩
      unfold bestY
      rw [pif_t ⟨ok, by rw [← eB]; exact hb1⟩, ← eB, ← hk]
      exact hp
    · have e8 : bestK Y B.2 k 8 0 = Y 8 0 := pif_f (fun z => by have := z.1; omega)
      refine vX7_best_244 hr _ _ _ _ ⟨hp.1.1, fun z => absurd z (by rw [mi8 hp.2.1, e8]; omega), fun _ => ⟨fun z => ⟨by unfold bestR; rw [pif_t ok, eB], ?_⟩, fun z => ?_⟩⟩
      · have hk0 := hb z
        subst hk0
        unfold bestY
        rw [pif_f (fun q => q.2 (by rw [← eB]; exact z))]
        exact mPo_eq hp (fun f i => bestK_0 Y B.2 f i)
      · simp only [mk0 hp.1, mr2 hp.1, mk2 hp.1, mi2 hp.2.1, mr3 hp.1, mk3 hp.1, mi3 hp.2.1, mr4 hp.1, mk4 hp.1, mi4 hp.2.1, mr5 hp.1, mk5 hp.1, mi5 hp.2.1, mr7 hp.1, mk7 hp.1, mi7 hp.2.1, mr9 hp.1, mk9 hp.1, mi9 hp.2.1, mr10 hp.1, mk10 hp.1, mi10 hp.2.1, mr11 hp.1, mk11 hp.1, mi11 hp.2.1, mr12 hp.1, mk12 hp.1, mi12 hp.2.1, mr13 hp.1, mk13 hp.1, mi13 hp.2.1, mr14 hp.1, mk14 hp.1, mi14 hp.2.1, mr15 hp.1, mk15 hp.1, mi15 hp.2.1, mr16 hp.1, mk16 hp.1, mi16 hp.2.1, mr17 hp.1, mk17 hp.1, mi17 hp.2.1, mr18 hp.1, mk18 hp.1, mi18 hp.2.1, mr19 hp.1, mk19 hp.1, mr20 hp.1, mk20 hp.1, mr21 hp.1, mk21 hp.1, mr22 hp.1, mk22 hp.1, mr23 hp.1, mk23 hp.1, mr24 hp.1, mk24 hp.1, mi0 hp.2.1, mi1 hp.2.1, mi6 hp.2.1, mi8 hp.2.1, Option.some.injEq, exists_eq_left', true_and]
        refine ⟨hk0, by omega, hk0, by omega, ?_⟩
        rw [hw z k hk0 hk]
        rintro M2 e2
        have hp2 := mPo_up hp e2 (f := 15) rfl (by decide) rfl
        refine ⟨by unfold zin; omega, ih (by omega) M2 (mPo_eq hp2 (bestK_s hk0)) (fun z2 => absurd z2 z) (fun _ w w0 w1 => ?_)⟩
        rw [e2, zI_sI, if_neg (by omega)]
        exact hw z w w0 w1
  -- a level
  have S : ∀ (k : Nat) (j : Int) (Yc : yS) (Mc : zM) (B : bSt) (q : Int), 0 ≤ j → j + k = Y 8 0 → bInv a M c (Y 8 0) Yc B Mc → (k ≠ 0 → zI Mc (a + 20) j = q ∧ 0 ≤ q ∧ q ≤ Y 8 0) → (∀ (M' : zM) (B' : bSt), bInv a M c (Y 8 0) Yc B' M' → bFr a j Mc M' → B' = dRes (Y 8 0) k Yc B q → ZX7_best E (d + 7) X (fun r M' => r = bestR Y ∧ mPo a M M' (bestY Y)) 146 [(0, vR (some a)), (1, vI B'.1), (2, vI j), (3, vI (Y 8 0))] [] M' 0 0) → ZX7_best E (d + 7) X (fun r M' => r = bestR Y ∧ mPo a M M' (bestY Y)) 63 [(0, vR (some a)), (1, vI B.1), (2, vI j)] [] Mc 0 0 := by
    intro k
    induction k with
    | zero =>
      intro j Yc Mc B q hj0 hj hI _ K
      have hj : j = Y 8 0 := by omega
      subst hj
      obtain ⟨hp, hic, h8c, hB⟩ := id hI
      have done : ∀ (M' : zM) (B' : bSt), bInv a M c (Y 8 0) Yc B' M' → bFr a (Y 8 0) Mc M' → B' = bStep Yc B → ZX7_best E (d + 7) X (fun r M' => r = bestR Y ∧ mPo a M M' (bestY Y)) 124 [(0, vR (some a)), (1, vI B'.1), (2, vI (Y 8 0))] [] M' 0 0 := fun M' B' h1 h2 h3 => by
        refine vX7_best_124 hr _ _ _ ?_
        rw [mi8 h1.1.2.1, h1.2.2.1]
        exact ⟨h1.1.1.1, fun z => absurd rfl z, fun _ => ⟨h1.1.1.1, K M' B' h1 h2 h3⟩⟩
      have L95 : ∀ x : Int, 0 ≤ x → x ≤ Y 8 0 → ∀ M1 : zM, mPo a M M1 Yc → bFr a (Y 8 0) Mc M1 → (∀ w, 0 ≤ w → w < x → zI M1 (a + 21) w = Yc 15 w) → (B.1 = -1 ∨ endR Yc < B.1) → ZX7_best E (d + 7) X (fun r M' => r = bestR Y ∧ mPo a M M' (bestY Y)) 95 [(0, vR (some a)), (1, vI (endR Yc)), (2, vI (Y 8 0)), (3, vI (endR Yc)), (4, vI x)] [] M1 0 0 := by
        refine zdownI (n := Y 8 0) (fun x hx hx0 hx2 M1 hp1 hf hw hc1 => ?_) (fun x hx0 hx ih hx2 M1 hp1 hf hw hc1 => ?_)
        · refine vX7_best_95 hr _ _ _ _ _ ⟨hp1.1.1, fun _ => ?_, fun z => absurd z (by rw [mi8 hp1.2.1, h8c]; omega)⟩
          exact done M1 (endR Yc, fun w => Yc 15 w) ⟨hp1, hic, h8c, fun _ w w0 w1 => hw w w0 (by omega)⟩ hf (by unfold bStep; rw [pif_t hc1])
        · refine vX7_best_95 hr _ _ _ _ _ ?_
          simp only [mk0 hp1.1, mr2 hp1.1, mk2 hp1.1, mi2 hp1.2.1, mr3 hp1.1, mk3 hp1.1, mi3 hp1.2.1, mr4 hp1.1, mk4 hp1.1, mi4 hp1.2.1, mr5 hp1.1, mk5 hp1.1, mi5 hp1.2.1, mr7 hp1.1, mk7 hp1.1, mi7 hp1.2.1, mr9 hp1.1, mk9 hp1.1, mi9 hp1.2.1, mr10 hp1.1, mk10 hp1.1, mi10 hp1.2.1, mr11 hp1.1, mk11 hp1.1, mi11 hp1.2.1, mr12 hp1.1, mk12 hp1.1, mi12 hp1.2.1, mr13 hp1.1, mk13 hp1.1, mi13 hp1.2.1, mr14 hp1.1, mk14 hp1.1, mi14 hp1.2.1, mr15 hp1.1, mk15 hp1.1, mi15 hp1.2.1, mr16 hp1.1, mk16 hp1.1, mi16 hp1.2.1, mr17 hp1.1, mk17 hp1.1, mi17 hp1.2.1, mr18 hp1.1, mk18 hp1.1, mi18 hp1.2.1, mr19 hp1.1, mk19 hp1.1, mr20 hp1.1, mk20 hp1.1, mr21 hp1.1, mk21 hp1.1, mr22 hp1.1, mk22 hp1.1, mr23 hp1.1, mk23 hp1.1, mr24 hp1.1, mk24 hp1.1, mi0 hp1.2.1, mi1 hp1.2.1, mi6 hp1.2.1, mi8 hp1.2.1, Option.some.injEq, exists_eq_left', true_and, h8c]
          refine ⟨fun z => by omega, fun _ => ⟨hx0, by omega, hx0, by omega, ?_⟩⟩
          rintro M2 e2
          refine ⟨by unfold zin; omega, ih (by omega) M2 (mPo_scr hp1 e2 (f := 24) (by decide) (by decide) rfl) (fun i i0 i1 => ?_) (fun w w0 w1 => ?_) hc1⟩
          · rw [e2, zI_sI, zI_sI, if_neg (by omega), if_neg (by omega)]; exact hf i i0 i1
          · rw [e2, zI_sI]
            by_cases ew : w = x
            · rw [if_pos ⟨rfl, ew⟩, ew]
            · rw [if_neg (fun z => ew z.2)]; exact hw w w0 (by omega)
      have st : B.1 = -1 ∨ endR Yc < B.1 → ZX7_best E (d + 7) X (fun r M' => r = bestR Y ∧ mPo a M M' (bestY Y)) 95 [(0, vR (some a)), (1, vI (endR Yc)), (2, vI (Y 8 0)), (3, vI (endR Yc)), (4, vI 0)] [] Mc 0 0 := fun hq => L95 0 (by omega) (by omega) Mc hp (fun i _ _ => ⟨rfl, rfl⟩) (fun w w0 w1 => by omega) hq
      refine vX7_best_63 hr _ _ _ ⟨fun z => by omega, fun _ => ⟨hp.1.1, ?_⟩⟩
      rw [mi8 hp.2.1, h8c]
      refine ⟨fun z => absurd rfl z, fun _ => ⟨hp.1.1, zu (c_end hp.1 hp.2.1 hic) ⟨fun z => st (Or.inl z), fun z => ⟨fun z2 => ?_, fun z2 => st (Or.inr z2)⟩⟩⟩⟩
      exact done Mc B hI (fun i _ _ => ⟨rfl, rfl⟩) (by unfold bStep; rw [pif_f (by omega)])
    | succ k ihk =>
      intro j Yc Mc B q hj0 hj hI hq K
      have inner : ∀ (m : Nat) (q : Int) (Mc : zM) (B : bSt), bInv a M c (Y 8 0) Yc B Mc → zI Mc (a + 20) j = q → 0 ≤ q → q + m = Y 8 0 → (∀ (M' : zM) (B' : bSt), bInv a M c (Y 8 0) Yc B' M' → bFr a j Mc M' → B' = dloop (dfsG k Yc) m B q → ZX7_best E (d + 7) X (fun r M' => r = bestR Y ∧ mPo a M M' (bestY Y)) 146 [(0, vR (some a)), (1, vI B'.1), (2, vI j), (3, vI (Y 8 0))] [] M' 0 0) → ZX7_best E (d + 7) X (fun r M' => r = bestR Y ∧ mPo a M M' (bestY Y)) 63 [(0, vR (some a)), (1, vI B.1), (2, vI j)] [] Mc 0 0 := by
        intro m
        induction m with
        | zero =>
          intro q Mc B hI hq hq0 hqm K
          obtain ⟨hp, hic, h8c, hB⟩ := id hI
          have hqn : q = Y 8 0 := by omega
          refine vX7_best_63 hr _ _ _ ⟨fun z => by omega, fun _ => ⟨hp.1.1, ?_⟩⟩
          rw [mi8 hp.2.1, h8c]
          refine ⟨fun _ => vX7_best_124 hr _ _ _ ?_, fun z => by omega⟩
          rw [mi8 hp.2.1, h8c]
          refine ⟨hp.1.1, fun _ => ⟨hp.1.1, a + 20, mr23 hp.1, by rw [mk23 hp.1], hj0, by rw [mk23 hp.1]; show j < 7; omega, ?_⟩, fun z => by omega⟩
          rw [hq, hqn]
          exact K Mc B hI (fun i _ _ => ⟨rfl, rfl⟩) rfl
        | succ m ihm =>
          intro q Mc B hI hq hq0 hqm K
          obtain ⟨hp, hic, h8c, hB⟩ := id hI
          have hqw : yWk Yc q := ⟨hq0, by omega⟩
          refine vX7_best_63 hr _ _ _ ⟨fun z => by omega, fun _ => ⟨hp.1.1, ?_⟩⟩
          rw [mi8 hp.2.1, h8c]
          refine ⟨fun _ => vX7_best_124 hr _ _ _ ?_, fun z => by omega⟩
          rw [mi8 hp.2.1, h8c]
          refine ⟨hp.1.1, fun _ => ⟨hp.1.1, a + 20, mr23 hp.1, by rw [mk23 hp.1], hj0, by rw [mk23 hp.1]; show j < 7; omega, ?_⟩, fun z => by omega⟩
          rw [hq]
          refine vX7_best_146 hr _ _ _ _ ?_
          rw [mi8 hp.2.1, h8c]
          refine ⟨hp.1.1, fun _ => ⟨hp.1.1, a + 20, mr23 hp.1, by rw [mk23 hp.1], hj0, by rw [mk23 hp.1]; show j < 7; omega, by rw [hq]; unfold zin; omega, by rw [mk23 hp.1], hj0, by rw [mk23 hp.1]; show j < 7; omega, ?_⟩, fun z => by omega⟩
          rw [hq]
          rintro M1 e1
          have hp1 := mPo_scr hp e1 (f := 23) (by decide) (by decide) rfl
          have hI1 : bInv a M c (Y 8 0) Yc B M1 := ⟨hp1, hic, h8c, fun z w w0 w1 => by rw [e1, zI_sI, if_neg (by omega)]; exact hB z w w0 w1⟩
          have hq1 : zI M1 (a + 20) j = q + 1 := by rw [e1, zI_sI, if_pos ⟨rfl, rfl⟩]
          have f1 : bFr a j Mc M1 := fun i i0 i1 => by rw [e1, zI_sI, zI_sI, if_neg (by omega), if_neg (by omega)]; exact ⟨rfl, rfl⟩
          have skip : ¬ (yReady Yc q ∧ yFirst Yc q 0 ≠ -1) → ZX7_best E (d + 7) X (fun r M' => r = bestR Y ∧ mPo a M M' (bestY Y)) 63 [(0, vR (some a)), (1, vI B.1), (2, vI j)] [] M1 0 0 := fun n => ihm (q + 1) M1 B hI1 hq1 (by omega) (by omega) (fun M' B' h1 h2 h3 => K M' B' h1 (fun i i0 i1 => ⟨(h2 i i0 i1).1.trans (f1 i i0 i1).1, (h2 i i0 i1).2.trans (f1 i i0 i1).2⟩) (by
            rw [h3]
            show dloop (dfsG k Yc) m B (q + 1) = dloop (dfsG k Yc) m (dfsG k Yc B q) (q + 1)
            unfold dfsG
            rw [pif_f n]))
          refine ⟨hp1.1.1, zu (c_isReady hp1.1 hp1.2.1 hic hq0 hqw.2) ⟨fun r1 => ⟨hp1.1.1, zu (c_first hp1.1 hp1.2.1 hic q 0) ⟨fun r2 => ?_, fun r2 => skip (fun z => z.2 r2)⟩⟩, fun r1 => skip (fun z => p2i_0.mp r1 z.1)⟩⟩
          have r1 := p2i_n0.mp r1
          refine ⟨hp1.1.1, a + 12, mr15 hp1.1, by rw [mk15 hp1.1], hq0, by rw [mk15 hp1.1]; show q < 40; omega, ?_⟩
          rintro M2 e2
          have hp2 : mPo a M M2 (yup Yc 15 q (yFirst Yc q 0)) := mPo_up hp1 e2 (f := 15) rfl (by decide) rfl
          refine ⟨hp2.1.1, a + 19, mr22 hp2.1, by rw [mk22 hp2.1], hj0, by rw [mk22 hp2.1]; show j < 6; omega, ?_⟩
          rintro M3 e3
          have hp3 := mPo_scr hp2 e3 (f := 22) (by decide) (by decide) rfl
          refine ⟨by unfold zin; omega, hp3.1.1, a + 20, mr23 hp3.1, by rw [mk23 hp3.1], by omega, by rw [mk23 hp3.1]; show j + 1 < 7; omega, ?_⟩
          rintro M4 e4
          have hp4 := mPo_scr hp3 e4 (f := 23) (by decide) (by decide) rfl
          have z21 : ∀ w, zI M4 (a + 21) w = zI M1 (a + 21) w := fun w => by rw [e4, zI_sI, if_neg (by omega), e3, zI_sI, if_neg (by omega), e2, zI_sI, if_neg (by omega)]
          have z19 : ∀ i, i ≠ j → zI M4 (a + 19) i = zI M1 (a + 19) i := fun i hij => by rw [e4, zI_sI, if_neg (by omega), e3, zI_sI, if_neg (by omega), e2, zI_sI, if_neg (by omega)]
          have z19j : zI M4 (a + 19) j = q := by rw [e4, zI_sI, if_neg (by omega), e3, zI_sI, if_pos ⟨rfl, rfl⟩]
          have z20 : ∀ i, i ≠ j + 1 → zI M4 (a + 20) i = zI M1 (a + 20) i := fun i hij => by rw [e4, zI_sI, if_neg (fun z => hij z.2), e3, zI_sI, if_neg (by omega), e2, zI_sI, if_neg (by omega)]
          have z20j : zI M4 (a + 20) (j + 1) = 0 := by rw [e4, zI_sI, if_pos ⟨rfl, rfl⟩]
          have hI4 : bInv a M c (Y 8 0) (yup Yc 15 q (yFirst Yc q 0)) B M4 := ⟨hp4, yInv_pl hic r2, h8c, fun z w w0 w1 => by rw [z21]; exact hI1.2.2.2 z w w0 w1⟩
          refine ihk (j + 1) _ M4 B 0 (by omega) (by omega) hI4 (fun _ => ⟨z20j, by omega, by omega⟩) (fun M5 B5 h5 f5 e5 => ?_)
          -- back from the deeper level
          refine vX7_best_146 hr _ _ _ _ ?_
          have h85 : (yup Yc 15 q (yFirst Yc q 0)) 8 0 = Y 8 0 := h8c
          rw [mi8 h5.1.2.1, h85]
          refine ⟨h5.1.1.1, fun z => absurd rfl z, fun _ => ⟨by unfold zin; omega, fun z => by omega, fun _ => ?_⟩⟩
          have ej : j + 1 + (-1) = j := by omega
          rw [ej]
          have o5 : zI M5 (a + 19) j = q := by rw [(f5 j hj0 (by omega)).1, z19j]
          refine ⟨h5.1.1.1, h5.1.1.1, a + 19, mr22 h5.1.1, by rw [mk22 h5.1.1], hj0, by rw [mk22 h5.1.1]; show j < 6; omega, a + 12, mr15 h5.1.1, by rw [mk15 h5.1.1], by rw [o5]; exact hq0, by rw [o5, mk15 h5.1.1]; show q < 40; omega, ?_⟩
          rw [o5]
          rintro M6 e6
          have hp6 := mPo_up h5.1 e6 (f := 15) rfl (by decide) rfl
          have hput : Yc 15 q = -1 := Classical.not_not.mp r1.1
          have hp6 : mPo a M M6 Yc := mPo_eq hp6 (fun f i => by
            unfold yup
            by_cases e : f = 15 ∧ i = q
            · rw [if_pos e, e.1, e.2, hput]
            · rw [if_neg e, if_neg e])
          have hI6 : bInv a M c (Y 8 0) Yc B5 M6 := ⟨hp6, hic, h8c, fun z w w0 w1 => by rw [e6, zI_sI, if_neg (by omega)]; exact h5.2.2.2 z w w0 w1⟩
          have q6 : zI M6 (a + 20) j = q + 1 := by
            rw [e6, zI_sI, if_neg (by omega), (f5 j hj0 (by omega)).2, z20 j (by omega)]
            exact hq1
          refine ihm (q + 1) M6 B5 hI6 q6 (by omega) (by omega) (fun M' B' h1 h2 h3 => K M' B' h1 (fun i i0 i1 => ?_) ?_)
          · have g5 := f5 i i0 (by omega)
            have g1 := f1 i i0 i1
            have g2 := h2 i i0 i1
            rw [e6, zI_sI, zI_sI, if_neg (by omega), if_neg (by omega)] at g2
            exact ⟨by rw [g2.1, g5.1, z19 i (by omega), g1.1], by rw [g2.2, g5.2, z20 i (by omega), g1.2]⟩
          · rw [h3]
            show dloop (dfsG k Yc) m B5 (q + 1) = dloop (dfsG k Yc) m (dfsG k Yc B q) (q + 1)
            have : B5 = dfsG k Yc B q := by
              rw [e5, dRes_dfs k h85]
              unfold dfsG
              rw [pif_t ⟨r1, r2⟩]
            rw [this]
      obtain ⟨g1, g2, g3⟩ := hq (by omega)
      exact inner (Y 8 0 - q).toNat q Mc B hI g1 g2 (by omega) (fun M' B' h1 h2 h3 => K M' B' h1 h2 h3)
  have L28 : ∀ k : Int, 0 ≤ k → k ≤ Y 8 0 → (∀ w, 0 ≤ w → w < k → ¬ yPut Y w) → ZX7_best E (d + 7) X (fun r M' => r = bestR Y ∧ mPo a M M' (bestY Y)) 28 [(0, vR (some a)), (1, vI k)] [] M 0 0 := by
    refine zdownI (n := Y 8 0) (fun k hk hk0 hk2 hj => ?_) (fun k hk0 hk ih hk2 hj => ?_)
    · have ok : bestOk Y := ⟨q1, q2, q3, fun w hw => hj w hw.1 (by have := hw.2; omega)⟩
      refine vX7_best_28 hr _ _ ?_
      simp only [mk0 hs, mr2 hs, mk2 hs, mi2 hc, mr3 hs, mk3 hs, mi3 hc, mr4 hs, mk4 hs, mi4 hc, mr5 hs, mk5 hs, mi5 hc, mr7 hs, mk7 hs, mi7 hc, mr9 hs, mk9 hs, mi9 hc, mr10 hs, mk10 hs, mi10 hc, mr11 hs, mk11 hs, mi11 hc, mr12 hs, mk12 hs, mi12 hc, mr13 hs, mk13 hs, mi13 hc, mr14 hs, mk14 hs, mi14 hc, mr15 hs, mk15 hs, mi15 hc, mr16 hs, mk16 hs, mi16 hc, mr17 hs, mk17 hs, mi17 hc, mr18 hs, mk18 hs, mi18 hc, mr19 hs, mk19 hs, mr20 hs, mk20 hs, mr21 hs, mk21 hs, mr22 hs, mk22 hs, mr23 hs, mk23 hs, mr24 hs, mk24 hs, mi0 hc, mi1 hc, mi6 hc, mi8 hc, Option.some.injEq, exists_eq_left', true_and]
      refine ⟨fun _ => ⟨by omega, by omega, ?_⟩, fun z => by omega⟩
      rintro M1 e1
      have hp1 := mPo_scr (mPo_rf hs hc) e1 (f := 23) (by decide) (by decide) rfl
      refine S (Y 8 0).toNat 0 Y M1 (-1, fun _ => 0) 0 (by omega) (by omega) ⟨hp1, hi, rfl, fun z => absurd rfl z⟩ (fun _ => ⟨by rw [e1, zI_sI, if_pos ⟨rfl, rfl⟩], by omega, by omega⟩) (fun M2 B h2 _ e2 => ?_)
      have eB : B = bestB Y := by rw [e2, dRes_dfs _ rfl]; rfl
      refine vX7_best_146 hr _ _ _ _ ?_
      rw [mi8 h2.1.2.1]
      refine ⟨h2.1.1.1, fun z => absurd rfl z, fun _ => ⟨by unfold zin; omega, fun _ => ?_, fun z => by omega⟩⟩
      refine vX7_best_63 hr _ _ _ ⟨fun _ => ?_, fun z => by omega⟩
      exact L244 B _ ok eB 0 (by omega) h8.1 M2 (mPo_eq h2.1 (fun f i => (bestK_0 Y B.2 f i).symm)) (fun _ => rfl) h2.2.2.2
    · refine vX7_best_28 hr _ _ ⟨hs.1, fun z => absurd z (by rw [mi8 hc]; omega), fun _ => ⟨hs.1, zu (c_isPut hs hc hk0 (by omega)) ⟨fun q => ⟨by unfold zin; omega, ih (by omega) (fun w w0 w1 => ?_)⟩, fun q => no (fun z => z.2.2.2 k ⟨hk0, hk⟩ (p2i_n0.mp q))⟩⟩⟩
      by_cases e : w = k
      · rw [e]; exact p2i_0.mp q
      · exact hj w w0 (by omega)
  exact L28 0 (by omega) h8.1 (fun w w0 w1 => by omega)
end M14
