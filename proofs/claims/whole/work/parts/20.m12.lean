/-! ===== contracts of the reference: plan ===== -/
noncomputable def yPkF (Y : yS) (T : Int → Prop) (b w : Int) : Int := pif (¬ T w ∧ yReady Y w ∧ (b = -1 ∨ slackR Y w < slackR Y b)) w b
noncomputable def yPk (Y : yS) (T : Int → Prop) : Int := yfold (yPkF Y T) (-1) (Y 8 0)
noncomputable def planF : Nat → yS → (Int → Prop) → Int → Int × yS
  | 0, Y, _, n => (n, Y)
  | k + 1, Y, T, n => pif (yPk Y T = -1) (n, Y) (pif (yFirst Y (yPk Y T) (Y 0 0) = -1) (planF k Y (fun w => T w ∨ w = yPk Y T) n) (planF k (yup Y 15 (yPk Y T) (yFirst Y (yPk Y T) (Y 0 0))) (fun w => T w ∨ w = yPk Y T) (n + 1)))
noncomputable def planV (Y : yS) : Int × yS := planF 41 Y (fun _ => False) 0
theorem yPk_b {Y : yS} {T : Int → Prop} : ∀ k : Nat, yfoldN (yPkF Y T) (-1) k = -1 ∨ (0 ≤ yfoldN (yPkF Y T) (-1) k ∧ yfoldN (yPkF Y T) (-1) k < k ∧ ¬ T (yfoldN (yPkF Y T) (-1) k) ∧ yReady Y (yfoldN (yPkF Y T) (-1) k)) := by
  intro k
  induction k with
  | zero => exact Or.inl rfl
  | succ k ih =>
    show yPkF Y T (yfoldN (yPkF Y T) (-1) k) k = -1 ∨ (0 ≤ yPkF Y T (yfoldN (yPkF Y T) (-1) k) k ∧ yPkF Y T (yfoldN (yPkF Y T) (-1) k) k < _ ∧ ¬ T (yPkF Y T (yfoldN (yPkF Y T) (-1) k) k) ∧ yReady Y (yPkF Y T (yfoldN (yPkF Y T) (-1) k) k))
    generalize yfoldN (yPkF Y T) (-1) k = v at ih ⊢
    unfold yPkF
    by_cases q : ¬ T k ∧ yReady Y k ∧ (v = -1 ∨ slackR Y k < slackR Y v)
    · rw [pif_t q]
      exact Or.inr ⟨by omega, by omega, q.1, q.2.1⟩
    · rw [pif_f q]
      rcases ih with e | ⟨e1, e2, e3⟩
      · exact Or.inl e
      · exact Or.inr ⟨e1, by omega, e3⟩
theorem yPk_w {c : Int} {Y : yS} (hi : yInv c Y) {T : Int → Prop} (h : yPk Y T ≠ -1) : yWk Y (yPk Y T) ∧ ¬ T (yPk Y T) ∧ yReady Y (yPk Y T) := by
  have h8 := yI_n hi
  rcases yPk_b (Y := Y) (T := T) (Y 8 0).toNat with e | ⟨e1, e2, e3⟩
  · exact absurd e h
  · exact ⟨⟨e1, by have : yPk Y T < ((Y 8 0).toNat : Int) := e2; omega⟩, e3⟩
theorem first_may {c : Int} {Y : yS} (hi : yInv c Y) {w f : Int} (h : yFirst Y w f ≠ -1) : yMay Y w (yFirst Y w f) ∧ 0 ≤ yFirst Y w f := by
  have hn := yI_now hi
  unfold yFirst at *
  have h0 : 0 ≤ pif (f ≤ Y 0 0) (Y 0 0) f := by
    by_cases q : f ≤ Y 0 0
    · rw [pif_t q]; exact hn.1
    · rw [pif_f q]; omega
  rcases ylst_spec (yMay Y w) (400 - pif (f ≤ Y 0 0) (Y 0 0) f).toNat (pif (f ≤ Y 0 0) (Y 0 0) f) 400 (by omega) with ⟨e, _⟩ | ⟨e1, e2, e3, _⟩
  · exact absurd e h
  · exact ⟨e3, by omega⟩
theorem yInv_pl {c : Int} {Y : yS} (hi : yInv c Y) {w f : Int} (h : yFirst Y w f ≠ -1) : yInv c (yup Y 15 w (yFirst Y w f)) := by
  obtain ⟨m, h0⟩ := first_may hi h
  exact yInv_15 hi (Or.inr ⟨h0, by have := m.2.2.2.1; omega⟩)
theorem mWy_far {a b : Nat} {M0 M M1 : zM} {Y : yS} {i x : Int} (h : mWy a M0 M Y) (e : M1 = zsI M b i x) (hb : zsz M0 ≤ b) (ha : a + 21 < zsz M0) : mWy a M0 M1 Y := by
  refine ⟨mPo_far h.1 e hb ha, fun k hk => ?_⟩
  rw [e, zI_sI, zI_sI, if_neg (by omega), if_neg (by omega)]
  exact h.2 k hk
section M12
variable {E : zE} {d a : Nat} {M : zM} {Y : yS} {c : Int}
theorem c_plan (hs : mSh a M) (hc : mCo a M Y) (hi : yInv c Y) (ha : yAcy Y) (hz : a + 21 < zsz M) : zCi E mX7_plan (d + 8) 2 80 [vR (some a)] M (fun r M' => r = (planV Y).1 ∧ mPo a M M' (planV Y).2) := by
  refine sX7_plan _ (fun X hr => vX7_plan_0 hr _ ?_)
  have h8 := yI_n hi
  rintro M1 e1 M2 e2
  have hp1 := mPo_new (mPo_rf hs hc) e1 hz
  have hp2 := mPo_new hp1 e2 hz
  have z1 : zsz M1 = zsz M + 1 := by rw [e1, zsz_new]
  have z2 : zsz M2 = zsz M + 2 := by rw [e2, zsz_new, z1]
  have hK1 : zK M2 (zsz M) = (10, 40) := by rw [e2, zK_new, if_neg (by omega), e1, zK_new, if_pos rfl]
  have hK2 : zK M2 (zsz M + 1) = (9, 40) := by rw [e2, zK_new, if_pos z1.symm]
  have hI1 : ∀ i, zI M2 (zsz M) i = 0 := fun i => by rw [e2, zI_new, if_neg (by omega), e1, zI_new, if_pos rfl]
  rw [z1]
  generalize hb : zsz M = b at hK1 hK2 hI1 z2 hz ⊢
  have hbz : zsz M ≤ b := by omega
  have hbz1 : zsz M ≤ b + 1 := by omega
  have hza : a + 21 < zsz M := by omega
  -- the main loop
  have T50 : ∀ (n : Nat) (M3 : zM) (Y3 : yS) (T : Int → Prop) (x3 cnt : Int), mPo a M M3 Y3 → yInv c Y3 → Y3 8 0 = Y 8 0 → zK M3 b = (10, 40) → zK M3 (b + 1) = (9, 40) → (∀ w, yWk Y3 w → (T w ↔ zI M3 b w ≠ 0)) → (∀ w, yWk Y3 w → zI M3 (b + 1) w = slackR Y3 w) → hUn M3 b (Y 8 0) < n → (0 ≤ cnt ∧ cnt + n ≤ 100) → planF n Y3 T cnt = planV Y → ZX7_plan E (d + 7) X (fun r M' => r = (planV Y).1 ∧ mPo a M M' (planV Y).2) 50 [(0, vR (some a)), (1, vR (some b)), (2, vR (some (b + 1))), (3, vI x3), (4, vI cnt), (5, vI 1)] [] M3 2 80 := by
    intro n
    induction n with
    | zero => intro M3 Y3 T x3 cnt _ _ _ _ _ _ _ hn; have := hUn_nn (M := M3) (b := b) (n := Y 8 0); omega
    | succ n ihn =>
      intro M3 Y3 T x3 cnt hp hi3 h83 hKb hKs hT hS hn hcnt hpl
      have L61 : ∀ k : Int, 0 ≤ k → k ≤ Y3 8 0 → ZX7_plan E (d + 7) X (fun r M' => r = (planV Y).1 ∧ mPo a M M' (planV Y).2) 61 [(0, vR (some a)), (1, vR (some b)), (2, vR (some (b + 1))), (3, vI x3), (4, vI cnt), (5, vI 1), (6, vI (yfold (yPkF Y3 T) (-1) k)), (7, vI k)] [] M3 2 80 := by
        refine zdownI (n := Y3 8 0) (fun k hk hk0 hk2 => ?_) (fun k hk0 hk ih hk2 => ?_)
        · have hk : k = Y3 8 0 := by omega
          subst hk
          refine vX7_plan_61 hr _ _ _ _ _ _ _ _ ⟨hp.1.1, fun _ => ⟨fun q => ⟨fun z => absurd rfl z, fun _ => ?_⟩, fun q => ⟨fun _ => ?_, fun z => by omega⟩⟩, fun z => absurd z (by rw [mi8 hp.2.1]; omega)⟩
          · have q : yPk Y3 T = -1 := q
            refine vX7_plan_50 hr _ _ _ _ _ _ ⟨fun _ => ?_, fun z => absurd rfl z⟩
            rw [← hpl]
            unfold planF
            rw [pif_t q]
            exact ⟨rfl, hp⟩
          · have q : yPk Y3 T ≠ -1 := q
            obtain ⟨⟨w0, w1⟩, w2, w3⟩ := yPk_w hi3 q
            show ∃ b26, some b = some b26 ∧ (zK M3 b26).1 = 10 ∧ 0 ≤ yPk Y3 T ∧ yPk Y3 T < ((zK M3 b26).2 : Int) ∧ _
            refine ⟨b, rfl, by rw [hKb], w0, by rw [hKb]; show yPk Y3 T < 40; omega, ?_⟩
            show ∀ M30, M30 = zsI M3 b (yPk Y3 T) 1 → _
            rintro M4 e4
            have hp4 := mPo_far hp e4 hbz hza
            have hz0 : zI M3 b (yPk Y3 T) = 0 := Classical.byContradiction fun z => w2 ((hT _ ⟨w0, w1⟩).mpr z)
            have hun := hUn_set (M := M3) (b := b) (n := Y 8 0) w0 (by omega) hz0
            have hT4 : ∀ w, yWk Y3 w → ((T w ∨ w = yPk Y3 T) ↔ zI M4 b w ≠ 0) := fun w hw => by
              rw [e4, zI_sI]
              by_cases ew : w = yPk Y3 T
              · rw [if_pos ⟨rfl, ew⟩]
                exact ⟨fun _ => by omega, fun _ => Or.inr ew⟩
              · rw [if_neg (fun z => ew z.2)]
                exact ⟨fun z => (hT w hw).mp (z.resolve_right ew), fun z => Or.inl ((hT w hw).mpr z)⟩
            have hS4 : ∀ w, yWk Y3 w → zI M4 (b + 1) w = slackR Y3 w := fun w hw => by
              rw [e4, zI_sI, if_neg (by omega)]
              exact hS w hw
            have hKb4 : zK M4 b = (10, 40) := by rw [e4]; exact hKb
            have hKs4 : zK M4 (b + 1) = (9, 40) := by rw [e4]; exact hKs
            have hu4 : hUn M4 b (Y 8 0) < n := by rw [e4, hun]; omega
            have hpl2 := hpl
            unfold planF at hpl2
            rw [pif_f q] at hpl2
            refine ⟨hp4.1.1, hp4.1.1, ?_⟩
            rw [mi0 hp4.2.1]
            show ∃ P32 : Int → zM → Prop, zCi E mX7_first (d + 7) 0 0 [vR (some a), vI (yPk Y3 T), vI (Y3 0 0)] M4 P32 ∧ _
            refine zu (c_first hp4.1 hp4.2.1 hi3 (yPk Y3 T) (Y3 0 0)) ⟨fun q2 => ?_, fun q2 => ?_⟩
            · rw [pif_f q2] at hpl2
              refine ⟨hp4.1.1, a + 12, mr15 hp4.1, by rw [mk15 hp4.1], w0, by rw [mk15 hp4.1]; show yPk Y3 T < 40; omega, ?_⟩
              rintro M5 e5
              have hp5 : mPo a M M5 (yup Y3 15 (yPk Y3 T) (yFirst Y3 (yPk Y3 T) (Y3 0 0))) := mPo_up hp4 e5 (f := 15) rfl (by decide) rfl
              refine ⟨by unfold zin; omega, ihn M5 _ (fun w => T w ∨ w = yPk Y3 T) x3 (cnt + 1) hp5 (yInv_pl hi3 q2) h83 (by rw [e5]; exact hKb4) (by rw [e5]; exact hKs4) (fun w hw => ?_) (fun w hw => ?_) ?_ (by omega) hpl2⟩
              · rw [e5, zI_sI, if_neg (by omega)]; exact hT4 w hw
              · rw [e5, zI_sI, if_neg (by omega)]; exact hS4 w hw
              · have eu : hUn M5 b (Y 8 0) = hUn M4 b (Y 8 0) := ysum_congr (fun k _ _ => by rw [e5, zI_sI, if_neg (by omega)])
                rw [eu]; exact hu4
            · rw [pif_t q2] at hpl2
              exact ihn M4 Y3 (fun w => T w ∨ w = yPk Y3 T) x3 cnt hp4 hi3 h83 hKb4 hKs4 hT4 hS4 hu4 (by omega) hpl2
        · have ih := ih (by omega)
          rw [yfold_s hk0] at ih
          have hb3 := yPk_b (Y := Y3) (T := T) k.toNat
          have hv3 : yfoldN (yPkF Y3 T) (-1) k.toNat = yfold (yPkF Y3 T) (-1) k := rfl
          rw [hv3] at hb3
          generalize yfold (yPkF Y3 T) (-1) k = v at ih hb3 ⊢
          have h8' := yI_n hi3
          have hk' : yWk Y3 k := ⟨hk0, hk⟩
          have zk : zin (k + 1) := by unfold zin; omega
          refine vX7_plan_61 hr _ _ _ _ _ _ _ _ ⟨hp.1.1, fun z => absurd z (by rw [mi8 hp.2.1]; omega), fun _ => ⟨b, rfl, by rw [hKb], hk0, by rw [hKb]; show k < 40; omega, fun q => ⟨zk, ?_⟩, fun q => ⟨hp.1.1, zu (c_isReady hp.1 hp.2.1 hi3 hk0 hk) ⟨fun q2 => ⟨zk, ?_⟩, fun q2 => ⟨fun q3 => ⟨zk, ?_⟩, fun q3 => ?_⟩⟩⟩⟩⟩
          · unfold yPkF at ih
            rw [pif_f (fun z => z.1 ((hT k hk').mpr q))] at ih
            exact ih
          · unfold yPkF at ih
            rw [pif_f (fun z => p2i_0.mp q2 z.2.1)] at ih
            exact ih
          · unfold yPkF at ih
            rw [pif_t ⟨fun z => (hT k hk').mp z q, p2i_n0.mp q2, Or.inl q3⟩] at ih
            exact ih
          · obtain ⟨v0, v1, v2⟩ := hb3.resolve_left q3
            have v1 : v < k := by have : v < ((k.toNat : Nat) : Int) := v1; omega
            refine ⟨b + 1, rfl, by rw [hKs], hk0, by rw [hKs]; show k < 40; omega, by rw [hKs], v0, by rw [hKs]; show v < 40; omega, ?_⟩
            rw [hS k hk', hS v ⟨v0, by omega⟩]
            refine ⟨fun q4 => ⟨zk, ?_⟩, fun q4 => ⟨zk, ?_⟩⟩
            · unfold yPkF at ih
              rw [pif_f (fun z => by
                rcases z.2.2 with z | z
                · exact q3 z
                · omega)] at ih
              exact ih
            · unfold yPkF at ih
              rw [pif_t ⟨fun z => (hT k hk').mp z q, p2i_n0.mp q2, Or.inr q4⟩] at ih
              exact ih
      exact vX7_plan_50 hr _ _ _ _ _ _ ⟨fun z => by omega, fun _ => L61 0 (by omega) (yI_n hi3).1⟩
  -- slacks
  have L18 : ∀ k : Int, 0 ≤ k → k ≤ Y 8 0 → ∀ M3 : zM, mWy a M M3 Y → zK M3 b = (10, 40) → zK M3 (b + 1) = (9, 40) → (∀ i, zI M3 b i = 0) → (∀ j, yWk Y j → j < k → zI M3 (b + 1) j = slackR Y j) → ZX7_plan E (d + 7) X (fun r M' => r = (planV Y).1 ∧ mPo a M M' (planV Y).2) 18 [(0, vR (some a)), (1, vR (some b)), (2, vR (some (b + 1))), (3, vI (wayR Y)), (4, vI k)] [] M3 2 80 := by
    refine zdownI (n := Y 8 0) (fun k hk hk0 hk2 M3 hm hKb hKs hI hj => ?_) (fun k hk0 hk ih hk2 M3 hm hKb hKs hI hj => ?_)
    · have hu : hUn M3 b (Y 8 0) ≤ 40 := by
        have := ysum_b (f := fun k => p2i (zI M3 b k = 0)) (b := 1) (n := Y 8 0) h8.1 (fun o _ _ => by rcases p2i_01 (zI M3 b o = 0) with q | q <;> rw [q] <;> omega)
        unfold hUn
        omega
      exact vX7_plan_18 hr _ _ _ _ _ ⟨hm.1.1.1, fun _ => T50 41 M3 Y (fun _ => False) (wayR Y) 0 hm.1 hi rfl hKb hKs (fun w _ => ⟨fun z => z.elim, fun z => absurd (hI w) z⟩) (fun w hw => hj w hw (by have := hw.2; omega)) (by omega) (by omega) rfl, fun z => absurd z (by rw [mi8 hm.1.2.1]; omega)⟩
    · refine vX7_plan_18 hr _ _ _ _ _ ⟨hm.1.1.1, fun z => absurd z (by rw [mi8 hm.1.2.1]; omega), fun _ => ⟨hm.1.1.1, zu (c_slack hi hm ⟨hk0, hk⟩ rfl) ⟨b + 1, rfl, by rw [hKs], hk0, by rw [hKs]; show k < 40; omega, ?_⟩⟩⟩
      rintro M4 e4
      refine ⟨by unfold zin; omega, ih (by omega) M4 (mWy_far hm e4 hbz1 hza) (by rw [e4]; exact hKb) (by rw [e4]; exact hKs) (fun i => by rw [e4, zI_sI, if_neg (by omega)]; exact hI i) (fun j h h2 => ?_)⟩
      rw [e4, zI_sI]
      by_cases e : j = k
      · rw [if_pos ⟨rfl, e⟩, e]
      · rw [if_neg (fun z => e z.2)]; exact hj j h (by omega)
  refine ⟨hp2.1.1, _, c_way hp2.1 hp2.2.1 hi ha, ?_⟩
  rintro r M5 ⟨rfl, hm⟩
  have fr := hm.1.2.2
  have f1 := fr.2 b (by omega) (by unfold mAd; omega)
  have f2 := fr.2 (b + 1) (by omega) (by unfold mAd; omega)
  exact L18 0 (by omega) h8.1 M5 ⟨⟨hm.1.1, hm.1.2.1, zFr_tr hp2.2.2 fr⟩, hm.2⟩ (by rw [f1.1]; exact hK1) (by rw [f2.1]; exact hK2) (fun i => by rw [f1.2.1]; exact hI1 i) (fun j h h2 => absurd h.1 (by omega))
end M12
