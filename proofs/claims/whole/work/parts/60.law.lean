/-! ===== the law: its loop ===== -/
theorem mSh_fr {a : Nat} {M M' : zM} {A : Nat → Prop} (h : mSh a M) (hz : a + 21 < zsz M) (f : zFr A M M') (hA : ∀ b, a ≤ b → b ≤ a + 21 → ¬ A b) : mSh a M' := by
  refine ⟨?_, fun g hg hm => ?_⟩
  · rw [(f.2 a (by omega) (hA a (by omega) (by omega))).1]; exact h.1
  · have hp := moff_pos g hg hm
    have := h.2 g hg hm
    rw [(f.2 a (by omega) (hA a (by omega) (by omega))).2.2.2, (f.2 (a + moff g) (by omega) (hA _ (by omega) (by omega))).1]
    exact this
theorem mCo_fr {a : Nat} {M M' : zM} {Y : yS} {A : Nat → Prop} (h : mCo a M Y) (hz : a + 21 < zsz M) (f : zFr A M M') (hA : ∀ b, a ≤ b → b ≤ a + 21 → ¬ A b) : mCo a M' Y := by
  intro g i hg
  rw [← h g i hg]
  unfold mI
  by_cases hm : misc g = true
  · rw [if_pos hm, if_pos hm, (f.2 a (by omega) (hA a (by omega) (by omega))).2.1]
  · have hp := moff_pos g (by omega) (by simpa using hm)
    rw [if_neg hm, if_neg hm, (f.2 (a + moff g) (by omega) (hA _ (by omega) (by omega))).2.1]
theorem kR_rf {x : Nat} {wa : Int → Nat} {M M1 : zM} {V Y : yS} {L : yL} (h : kR x wa M V L Y) (e : M1 = M) : kO x M M1 Y := by
  subst e
  exact ⟨wa, V, L, h, zFr_rf⟩
theorem mPo_rfe {a : Nat} {M M1 : zM} {Y : yS} (hs : mSh a M) (hc : mCo a M Y) (e : M1 = M) : mPo a M M1 Y := by
  subst e
  exact mPo_rf hs hc
/-- class and reference stand for the same state, behind c calls -/
def lwI (x : Nat) (c : Int) (M : zM) (Y : yS) : Prop := (∃ wa V L, kR x wa M V L Y) ∧ mSh (x + 22) M ∧ mCo (x + 22) M Y ∧ yJ c Y ∧ x + 44 ≤ zsz M
theorem lw_pair {E : zE} {f6 f7 : zF} {as : List zV} {mc1 ms1 mc2 ms2 : Nat} {Rv : Int} {Y Y' : yS} {x : Nat} {c : Int} {M : zM} (hI : lwI x c M Y)
    (h6 : ∃ P1 : Int → zM → Prop, zCi E f6 40 mc1 ms1 (vR (some x) :: as) M P1 ∧ ∀ r M1, P1 r M1 → r = Rv ∧ kO x M M1 Y')
    (h7 : ∀ M1, mSh (x + 22) M1 → mCo (x + 22) M1 Y → x + 22 + 21 < zsz M1 → ∃ P2 : Int → zM → Prop, zCi E f7 40 mc2 ms2 (vR (some (x + 22)) :: as) M1 P2 ∧ ∀ r M2, P2 r M2 → r = Rv ∧ mPo (x + 22) M1 M2 Y')
    (hj : yJ (c + 1) Y') {Z : zM → Prop} (hZ : ∀ M2, lwI x (c + 1) M2 Y' → Z M2) :
    ∃ P1 : Int → zM → Prop, zCi E f6 40 mc1 ms1 (vR (some x) :: as) M P1 ∧ ∀ r1 M1, P1 r1 M1 → zK M1 (x + 22) = (8, 25) ∧ ∃ P2 : Int → zM → Prop, zCi E f7 40 mc2 ms2 (vR (some (x + 22)) :: as) M1 P2 ∧ ∀ r2 M2, P2 r2 M2 → r1 = r2 ∧ Z M2 := by
  obtain ⟨-, hs, hc, -, hz⟩ := hI
  obtain ⟨P1, c1, h6⟩ := h6
  refine ⟨P1, c1, fun r1 M1 p1 => ?_⟩
  obtain ⟨e1, wa, V, L, hR, f1⟩ := h6 r1 M1 p1
  have fA : ∀ b, x + 22 ≤ b → b ≤ x + 22 + 21 → ¬ kAd x b := fun b h1 h2 z => by
    unfold kAd at z
    omega
  have hs1 := mSh_fr hs (by omega) f1 fA
  have hc1 := mCo_fr hc (by omega) f1 fA
  have hz1 : x + 44 ≤ zsz M1 := Nat.le_trans hz f1.1
  obtain ⟨P2, c2, h7⟩ := h7 M1 hs1 hc1 (by omega)
  refine ⟨hs1.1, P2, c2, fun r2 M2 p2 => ?_⟩
  obtain ⟨e2, hp⟩ := h7 r2 M2 p2
  have fB : ∀ b, ((x ≤ b ∧ b < x + 22) ∨ x + 44 ≤ b) → b < zsz M1 → ¬ mAd (x + 22) b := fun b h1 _ z => by
    unfold mAd at z
    omega
  refine ⟨e1.trans e2.symm, hZ M2 ⟨⟨wa, V, L, kSh_fr hR.1 (by omega) hp.2.2 fB, kCo_fr hR.1 hR.2.1 (by omega) hp.2.2 fB, hR.2.2⟩, hp.1, hp.2.1, hj, Nat.le_trans hz1 hp.2.2.1⟩⟩
set_option maxRecDepth 20000 in
set_option maxHeartbeats 4000000 in
theorem lw_loop {E : zE} {X : zX} {b L : Nat} {sc : Nat → Int32} (hs : lwS E X b L sc) (hret : (xh X).sig.returnType = ret) (harg : xa X = #[Value.ref b]) {x : Nat} : ∀ (n c : Nat) (M : zM) (Y : yS), L ≤ 4 * c + n → 4 * c ≤ L → lwI x (c : Int) M Y → ZL E X (lw_Z (xb X) #[Value.ref b] (xs X)) 18 [(0, vR (some b)), (1, vR (some x)), (2, vR (some (x + 22))), (3, vI (4 * (c : Int)))] [] M (44 + 2 * c) (6400 + 80 * c) := by
  have hL := hs.2.2.2
  intro n
  induction n with
  | zero =>
    intro c M Y h1 h2 hI
    refine z_iload_n 3 dL_law_18 rfl ?_
    refine z_aload_n 0 dL_law_19 rfl ?_
    refine z_slen hs dL_law_20 ?_
    refine z_iconst dL_law_21 (by decide) ?_
    refine z_isub dL_law_22 (by unfold zin; omega) ?_
    refine z_icmp_gt (tgt := 775) dL_law_23 (by decide) (fun q => ?_) (fun q => by omega)
    refine z_iconst dL_law_775 (by decide) ?_
    exact y_end hret harg hs.2.2.1 dL_law_776 (by omega) (by omega)
  | succ n ih =>
    intro c M Y h1 h2 hI
    obtain ⟨⟨wa, V, Lw, h⟩, hms, hmc, hj, hz⟩ := id hI
    have hi := hj.1
    have ha := hj.2.1
    have hc6 : (c : Int) < 600 := by omega
    have hKx : zK M x = (7, 5) := kk0 h.1
    refine z_iload_n 3 dL_law_18 rfl ?_
    refine z_aload_n 0 dL_law_19 rfl ?_
    refine z_slen hs dL_law_20 ?_
    refine z_iconst dL_law_21 (by decide) ?_
    refine z_isub dL_law_22 (by unfold zin; omega) ?_
    refine z_icmp_gt (tgt := 775) dL_law_23 (by decide) (fun q => ?_) (fun q => ?_)
    · refine z_iconst dL_law_775 (by decide) ?_
      exact y_end hret harg hs.2.2.1 dL_law_776 (by omega) (by omega)
    · have K : ∀ (M2 : zM) (Y2 : yS) (ce' sl' : Nat), lwI x ((c : Int) + 1) M2 Y2 → ce' ≤ 44 + 2 * (c + 1) → sl' ≤ 6400 + 80 * (c + 1) → ZL E X (lw_Z (xb X) #[Value.ref b] (xs X)) 769 [(0, vR (some b)), (1, vR (some x)), (2, vR (some (x + 22))), (3, vI (4 * (c : Int)))] [] M2 ce' sl' := by
        intro M2 Y2 ce' sl' hI2 hc2 hs2
        refine z_wid hc2 hs2 ?_
        refine z_iinc 3 dL_law_769 rfl (by decide) (by unfold zin; omega) rfl ?_
        refine z_goto (tgt := 18) dL_law_772 (by decide) ?_
        have e : 4 * (c : Int) + 4 = 4 * ((c + 1 : Nat) : Int) := by omega
        rw [e]
        have hI3 : lwI x ((c + 1 : Nat) : Int) M2 Y2 := by
          rw [show ((c + 1 : Nat) : Int) = (c : Int) + 1 by omega]
          exact hI2
        exact z_sub [1, 2, 3, 0] rfl (ih (c + 1) M2 Y2 (by omega) (by omega) hI3)
      refine z_aload_n 0 dL_law_26 rfl ?_
      refine z_iload_n 3 dL_law_27 rfl ?_
      refine z_sld hs (by omega) (by omega) dL_law_28 ?_
      refine z_bipush dL_law_29 (by decide) ?_
      refine z_iandA dL_law_31 (fun r => ?_)
      have go : ZL E X (lw_Z (xb X) #[Value.ref b] (xs X)) 32 [(0, vR (some b)), (1, vR (some x)), (2, vR (some (x + 22))), (3, vI (4 * (c : Int)))] [vI r] M (44 + 2 * c) (6400 + 80 * c) := by
        by_cases q0 : r = 0
        · refine z_tableIn (tgt := 140) dL_law_32 0 q0 (by decide) (by decide) rfl (by decide) ?_
          exact lc0 hs (by omega) (by omega) (by omega) (by omega) hKx (lw_pair hI ⟨_, k_space h hi _, fun r M1 z => ⟨z.1, kT_O z.2⟩⟩ (fun M1 hs1 hc1 hz1 => ⟨_, c_space hs1 hc1 hi _, fun r M2 z => z⟩) (yJ_c (yJ_space hj _) hc6) (fun M2 h2 => K M2 _ _ _ h2 (by omega) (by omega)))
        by_cases q1 : r = 1
        · refine z_tableIn (tgt := 163) dL_law_32 1 q1 (by decide) (by decide) rfl (by decide) ?_
          exact lc1 hs (by omega) (by omega) (by omega) (by omega) hKx (lw_pair hI ⟨_, k_near h hj _ _, fun r M1 z => ⟨z.1, kT_O z.2⟩⟩ (fun M1 hs1 hc1 hz1 => ⟨_, c_near hs1 hc1 hi _ _, fun r M2 z => z⟩) (yJ_c (yJ_near hj _ _) hc6) (fun M2 h2 => K M2 _ _ _ h2 (by omega) (by omega)))
        by_cases q2 : r = 2
        · refine z_tableIn (tgt := 196) dL_law_32 2 q2 (by decide) (by decide) rfl (by decide) ?_
          exact lc2 hs (by omega) (by omega) (by omega) (by omega) hKx (lw_pair hI ⟨_, k_gang h _ _, fun r M1 z => ⟨z.1, kT_O z.2⟩⟩ (fun M1 hs1 hc1 hz1 => ⟨_, c_gang hs1 hc1 _ _, fun r M2 z => z⟩) (yJ_c (yJ_gang hj _ _) hc6) (fun M2 h2 => K M2 _ _ _ h2 (by omega) (by omega)))
        by_cases q3 : r = 3
        · refine z_tableIn (tgt := 229) dL_law_32 3 q3 (by decide) (by decide) rfl (by decide) ?_
          exact lc3 hs (by omega) (by omega) (by omega) (by omega) hKx (lw_pair hI ⟨_, k_good h _ _, fun r M1 z => ⟨z.1, kT_O z.2⟩⟩ (fun M1 hs1 hc1 hz1 => ⟨_, c_good hs1 hc1 _ _, fun r M2 z => z⟩) (yJ_c (yJ_good hj _ _) hc6) (fun M2 h2 => K M2 _ _ _ h2 (by omega) (by omega)))
        by_cases q4 : r = 4
        · refine z_tableIn (tgt := 262) dL_law_32 4 q4 (by decide) (by decide) rfl (by decide) ?_
          exact lc4 hs (by omega) (by omega) (by omega) (by omega) hKx (lw_pair hI ⟨_, k_bar h hj hc6 _ _ _, fun r M1 z => ⟨z.1, kT_O z.2⟩⟩ (fun M1 hs1 hc1 hz1 => ⟨_, c_bar hs1 hc1 hi _ _ _, fun r M2 z => z⟩) (yJ_bar hj hc6 _ _ _) (fun M2 h2 => K M2 _ _ _ h2 (by omega) (by omega)))
        by_cases q5 : r = 5
        · refine z_tableIn (tgt := 305) dL_law_32 5 q5 (by decide) (by decide) rfl (by decide) ?_
          exact lc5 hs (by omega) (by omega) (by omega) (by omega) hKx (lw_pair hI ⟨_, k_work h hj hz _ _, fun r M1 z => z⟩ (fun M1 hs1 hc1 hz1 => ⟨_, c_work hs1 hc1 hi _ _, fun r M2 z => z⟩) (yJ_c (yJ_work hj _ _) hc6) (fun M2 h2 => K M2 _ _ _ h2 (by omega) (by omega)))
        by_cases q6 : r = 6
        · refine z_tableIn (tgt := 338) dL_law_32 6 q6 (by decide) (by decide) rfl (by decide) ?_
          exact lc6 hs (by omega) (by omega) (by omega) (by omega) hKx (lw_pair hI ⟨_, k_need h hj _ _, fun r M1 z => ⟨z.1, kT_O z.2⟩⟩ (fun M1 hs1 hc1 hz1 => ⟨_, c_need hs1 hc1 hi _ _, fun r M2 z => z⟩) (yJ_c (yJ_need hj _ _) hc6) (fun M2 h2 => K M2 _ _ _ h2 (by omega) (by omega)))
        by_cases q7 : r = 7
        · refine z_tableIn (tgt := 371) dL_law_32 7 q7 (by decide) (by decide) rfl (by decide) ?_
          exact lc7 hs (by omega) (by omega) (by omega) (by omega) hKx (lw_pair hI ⟨_, k_tells h hj _ _, fun r M1 z => ⟨z.1, kT_O z.2⟩⟩ (fun M1 hs1 hc1 hz1 => ⟨_, c_tells hs1 hc1 hi _ _, fun r M2 z => z⟩) (yJ_c (yJ_tells hj _ _) hc6) (fun M2 h2 => K M2 _ _ _ h2 (by omega) (by omega)))
        by_cases q8 : r = 8
        · refine z_tableIn (tgt := 404) dL_law_32 8 q8 (by decide) (by decide) rfl (by decide) ?_
          exact lc8 hs (by omega) (by omega) (by omega) (by omega) hKx (lw_pair hI ⟨_, k_put h hj _ _, fun r M1 z => ⟨z.1, kT_O z.2⟩⟩ (fun M1 hs1 hc1 hz1 => ⟨_, c_put hs1 hc1 hi _ _, fun r M2 z => z⟩) (yJ_c (yJ_put hj _ _) hc6) (fun M2 h2 => K M2 _ _ _ h2 (by omega) (by omega)))
        by_cases q9 : r = 9
        · refine z_tableIn (tgt := 437) dL_law_32 9 q9 (by decide) (by decide) rfl (by decide) ?_
          exact lc9 hs (by omega) (by omega) (by omega) (by omega) hKx (lw_pair hI ⟨_, k_take h hj _, fun r M1 z => ⟨z.1, kT_O z.2⟩⟩ (fun M1 hs1 hc1 hz1 => ⟨_, c_take hs1 hc1 hi _, fun r M2 z => z⟩) (yJ_c (yJ_take hj _) hc6) (fun M2 h2 => K M2 _ _ _ h2 (by omega) (by omega)))
        by_cases q10 : r = 10
        · refine z_tableIn (tgt := 460) dL_law_32 10 q10 (by decide) (by decide) rfl (by decide) ?_
          exact lc10 hs (by omega) (by omega) (by omega) (by omega) hKx (lw_pair hI ⟨_, k_may h hi ha _ _, fun r M1 z => ⟨z.1, kR_rf h z.2⟩⟩ (fun M1 hs1 hc1 hz1 => ⟨_, c_may hs1 hc1 hi _ _, fun r M2 z => ⟨z.1, mPo_rfe hs1 hc1 z.2⟩⟩) (yJ_c hj hc6) (fun M2 h2 => K M2 _ _ _ h2 (by omega) (by omega)))
        by_cases q11 : r = 11
        · refine z_tableIn (tgt := 493) dL_law_32 11 q11 (by decide) (by decide) rfl (by decide) ?_
          exact lc11 hs (by omega) (by omega) (by omega) (by omega) hKx (lw_pair hI ⟨_, k_first h hi ha _ _, fun r M1 z => ⟨z.1, kR_rf h z.2⟩⟩ (fun M1 hs1 hc1 hz1 => ⟨_, c_first hs1 hc1 hi _ _, fun r M2 z => ⟨z.1, mPo_rfe hs1 hc1 z.2⟩⟩) (yJ_c hj hc6) (fun M2 h2 => K M2 _ _ _ h2 (by omega) (by omega)))
        by_cases q12 : r = 12
        · refine z_tableIn (tgt := 526) dL_law_32 12 q12 (by decide) (by decide) rfl (by decide) ?_
          exact lc12 hs (by omega) (by omega) (by omega) (by omega) hKx (lw_pair hI ⟨_, k_why h hi _, fun r M1 z => ⟨z.1, kR_rf h z.2⟩⟩ (fun M1 hs1 hc1 hz1 => ⟨_, c_why hs1 hc1 hi _, fun r M2 z => ⟨z.1, mPo_rfe hs1 hc1 z.2⟩⟩) (yJ_c hj hc6) (fun M2 h2 => K M2 _ _ _ h2 (by omega) (by omega)))
        by_cases q13 : r = 13
        · refine z_tableIn (tgt := 549) dL_law_32 13 q13 (by decide) (by decide) rfl (by decide) ?_
          exact lc13 hs (by omega) (by omega) (by omega) (by omega) hKx (lw_pair hI ⟨_, k_told h hi _ _, fun r M1 z => ⟨z.1, kR_rf h z.2⟩⟩ (fun M1 hs1 hc1 hz1 => ⟨_, c_told hs1 hc1 hi ha _ _, fun r M2 z => z⟩) (yJ_c hj hc6) (fun M2 h2 => K M2 _ _ _ h2 (by omega) (by omega)))
        by_cases q14 : r = 14
        · refine z_tableIn (tgt := 582) dL_law_32 14 q14 (by decide) (by decide) rfl (by decide) ?_
          exact lc14 hs (by omega) (by omega) (by omega) (by omega) hKx (lw_pair hI ⟨_, k_load h hi _ _, fun r M1 z => ⟨z.1, kR_rf h z.2⟩⟩ (fun M1 hs1 hc1 hz1 => ⟨_, c_load hs1 hc1 hi _ _, fun r M2 z => ⟨z.1, mPo_rfe hs1 hc1 z.2⟩⟩) (yJ_c hj hc6) (fun M2 h2 => K M2 _ _ _ h2 (by omega) (by omega)))
        by_cases q15 : r = 15
        · refine z_tableIn (tgt := 615) dL_law_32 15 q15 (by decide) (by decide) rfl (by decide) ?_
          exact lc15 hs (by omega) (by omega) (by omega) (by omega) hKx (lw_pair hI ⟨_, k_plan h hj, fun r M1 z => ⟨z.1, kT_O z.2⟩⟩ (fun M1 hs1 hc1 hz1 => ⟨_, c_plan hs1 hc1 hi ha hz1, fun r M2 z => z⟩) (yJ_c (yJ_plan hj) hc6) (fun M2 h2 => K M2 _ _ _ h2 (by omega) (by omega)))
        by_cases q16 : r = 16
        · refine z_tableIn (tgt := 628) dL_law_32 16 q16 (by decide) (by decide) rfl (by decide) ?_
          exact lc16 hs (by omega) (by omega) (by omega) (by omega) hKx (lw_pair hI ⟨_, k_best h hj, fun r M1 z => ⟨z.1, kT_O z.2⟩⟩ (fun M1 hs1 hc1 hz1 => ⟨_, c_best hs1 hc1 hi, fun r M2 z => z⟩) (yJ_c (yJ_best hj) hc6) (fun M2 h2 => K M2 _ _ _ h2 (by omega) (by omega)))
        by_cases q17 : r = 17
        · refine z_tableIn (tgt := 641) dL_law_32 17 q17 (by decide) (by decide) rfl (by decide) ?_
          exact lc17 hs (by omega) (by omega) (by omega) (by omega) hKx (lw_pair hI ⟨_, k_end h hi, fun r M1 z => ⟨z.1, kR_rf h z.2⟩⟩ (fun M1 hs1 hc1 hz1 => ⟨_, c_end hs1 hc1 hi, fun r M2 z => ⟨z.1, mPo_rfe hs1 hc1 z.2⟩⟩) (yJ_c hj hc6) (fun M2 h2 => K M2 _ _ _ h2 (by omega) (by omega)))
        by_cases q18 : r = 18
        · refine z_tableIn (tgt := 654) dL_law_32 18 q18 (by decide) (by decide) rfl (by decide) ?_
          exact lc18 hs (by omega) (by omega) (by omega) (by omega) hKx (lw_pair hI ⟨_, k_bound h hi, fun r M1 z => ⟨z.1, kR_rf h z.2⟩⟩ (fun M1 hs1 hc1 hz1 => ⟨_, c_bound hs1 hc1 hi ha, fun r M2 z => z⟩) (yJ_c hj hc6) (fun M2 h2 => K M2 _ _ _ h2 (by omega) (by omega)))
        by_cases q19 : r = 19
        · refine z_tableIn (tgt := 667) dL_law_32 19 q19 (by decide) (by decide) rfl (by decide) ?_
          exact lc19 hs (by omega) (by omega) (by omega) (by omega) hKx (lw_pair hI ⟨_, k_go h hi _, fun r M1 z => ⟨z.1, kT_O z.2⟩⟩ (fun M1 hs1 hc1 hz1 => ⟨_, c_go hs1 hc1 hi _, fun r M2 z => z⟩) (yJ_c (yJ_go hj _) hc6) (fun M2 h2 => K M2 _ _ _ h2 (by omega) (by omega)))
        by_cases q20 : r = 20
        · refine z_tableIn (tgt := 690) dL_law_32 20 q20 (by decide) (by decide) rfl (by decide) ?_
          exact lc20 hs (by omega) (by omega) (by omega) (by omega) hKx (lw_pair hI ⟨_, k_fail h hj hc6 _, fun r M1 z => ⟨z.1, kT_O z.2⟩⟩ (fun M1 hs1 hc1 hz1 => ⟨_, c_fail hs1 hc1 hi hz1 _, fun r M2 z => z⟩) (yJ_fail hj hc6 _) (fun M2 h2 => K M2 _ _ _ h2 (by omega) (by omega)))
        by_cases q21 : r = 21
        · refine z_tableIn (tgt := 713) dL_law_32 21 q21 (by decide) (by decide) rfl (by decide) ?_
          exact lc21 hs (by omega) (by omega) (by omega) (by omega) hKx (lw_pair hI ⟨_, k_more h hj _ _, fun r M1 z => ⟨z.1, kT_O z.2⟩⟩ (fun M1 hs1 hc1 hz1 => ⟨_, c_more hs1 hc1 hi _ _, fun r M2 z => z⟩) (yJ_c (yJ_more hj _ _) hc6) (fun M2 h2 => K M2 _ _ _ h2 (by omega) (by omega)))
        by_cases q22 : r = 22
        · refine z_tableIn (tgt := 746) dL_law_32 22 q22 (by decide) (by decide) rfl (by decide) ?_
          exact lc22 hs (by omega) (by omega) (by omega) (by omega) hKx (lw_pair hI ⟨_, k_count h hi _, fun r M1 z => ⟨z.1, kR_rf h z.2⟩⟩ (fun M1 hs1 hc1 hz1 => ⟨_, c_count hs1 hc1 hi ha _, fun r M2 z => z⟩) (yJ_c hj hc6) (fun M2 h2 => K M2 _ _ _ h2 (by omega) (by omega)))
        refine z_tableOut (tgt := 769) dL_law_32 (by omega) (by decide) ?_
        exact K M Y _ _ ⟨hI.1, hI.2.1, hI.2.2.1, yJ_c hj hc6, hz⟩ (by omega) (by omega)
      exact go
