/-! ===== Net: weigh ===== -/
/-- early, behind the first r works of the row -/
def wE (V Y : yS) (r : Int) : Prop := (∀ v, yWk Y v → 0 ≤ V 32 v ∧ V 32 v ≤ 40 * yRk Y v) ∧ (∀ v, yWk Y v → V 32 v = 0 ∨ ∃ p, 0 ≤ p ∧ p < r ∧ yNd Y v (V 7 p) ∧ V 32 v = V 32 (V 7 p) + Y 9 (V 7 p)) ∧ (∀ p, 0 ≤ p → p < r → ∀ v, yWk Y v → yNd Y v (V 7 p) → V 32 (V 7 p) + Y 9 (V 7 p) ≤ V 32 v)
/-- tail, behind the works of the row from r on -/
def wT (V Y : yS) (r : Int) : Prop := (∀ v, yWk Y v → 0 ≤ V 33 v ∧ V 33 v ≤ 40 * (39 - yRk Y v)) ∧ (∀ v, yWk Y v → V 33 v = 0 ∨ ∃ p, r ≤ p ∧ p < Y 8 0 ∧ yNd Y (V 7 p) v ∧ V 33 v = V 33 (V 7 p) + Y 9 (V 7 p)) ∧ (∀ p, r ≤ p → p < Y 8 0 → ∀ v, yWk Y v → yNd Y (V 7 p) v → V 33 (V 7 p) + Y 9 (V 7 p) ≤ V 33 v)
theorem wE_s {c : Int} {V Y : yS} (hi : yInv c Y) (ha : yAcy Y) (hR : rRk V Y) {r : Int} (r0 : 0 ≤ r) (r1 : r < Y 8 0) (h : wE V Y r) : wE (peV V Y (V 7 r) (Y 8 0)) Y (r + 1) := by
  have hb := hR.1 r r0 r1
  have hlb := yI_w hi hb.1 hb.2
  have nb : ¬ yNd Y (V 7 r) (V 7 r) := acy_nn ha hb
  have e7 : ∀ p, peV V Y (V 7 r) (Y 8 0) 7 p = V 7 p := fun p => peV_o (by omega) p
  have ee : ∀ v, yWk Y v → (yNd Y v (V 7 r) → peV V Y (V 7 r) (Y 8 0) 32 v = max (V 32 v) (V 32 (V 7 r) + Y 9 (V 7 r))) ∧ (¬ yNd Y v (V 7 r) → peV V Y (V 7 r) (Y 8 0) 32 v = V 32 v) := fun v hv => ⟨fun z => pif_t ⟨rfl, hv.1, hv.2, z⟩, fun z => pif_f (fun z2 => z z2.2.2.2)⟩
  have stay : ∀ p, 0 ≤ p → p ≤ r → peV V Y (V 7 r) (Y 8 0) 32 (V 7 p) = V 32 (V 7 p) := fun p p0 p1 => by
    have hp := hR.1 p p0 (by omega)
    refine (ee _ hp).2 (fun z => ?_)
    have := rk_lt ha hb z
    have := hR.2.2 p r p0 p1 r1
    omega
  refine ⟨fun v hv => ?_, fun v hv => ?_, fun p p0 p1 v hv hn => ?_⟩
  · have h1 := h.1 v hv
    have h2 := h.1 _ hb
    by_cases z : yNd Y v (V 7 r)
    · rw [(ee v hv).1 z]
      have := rk_lt ha hb z
      omega
    · rw [(ee v hv).2 z]; exact h1
  · by_cases z : yNd Y v (V 7 r) ∧ V 32 v < V 32 (V 7 r) + Y 9 (V 7 r)
    · refine Or.inr ⟨r, r0, by omega, by rw [e7]; exact z.1, ?_⟩
      rw [(ee v hv).1 z.1, e7, stay r r0 (by omega)]
      omega
    · have same : peV V Y (V 7 r) (Y 8 0) 32 v = V 32 v := by
        by_cases z2 : yNd Y v (V 7 r)
        · rw [(ee v hv).1 z2]
          have : ¬ V 32 v < V 32 (V 7 r) + Y 9 (V 7 r) := fun q => z ⟨z2, q⟩
          omega
        · exact (ee v hv).2 z2
      rw [same]
      rcases h.2.1 v hv with q | ⟨p, p0, p1, q1, q2⟩
      · exact Or.inl q
      · exact Or.inr ⟨p, p0, by omega, by rw [e7]; exact q1, by rw [e7, stay p p0 (by omega)]; exact q2⟩
  · rw [e7] at hn ⊢
    rw [stay p p0 (by omega)]
    by_cases e : p = r
    · rw [e] at hn ⊢
      rw [(ee v hv).1 hn]
      omega
    · have := h.2.2 p p0 (by omega) v hv hn
      by_cases z : yNd Y v (V 7 r)
      · rw [(ee v hv).1 z]; omega
      · rw [(ee v hv).2 z]; exact this
theorem wT_s {c : Int} {V Y : yS} (hi : yInv c Y) (ha : yAcy Y) (hR : rRk V Y) {r : Int} (r0 : 0 ≤ r) (r1 : r < Y 8 0) (h : wT V Y (r + 1)) : wT (ptV V Y (V 7 r) (Y 8 0)) Y r := by
  have hb := hR.1 r r0 r1
  have hlb := yI_w hi hb.1 hb.2
  have nb : ¬ yNd Y (V 7 r) (V 7 r) := acy_nn ha hb
  have e7 : ∀ p, ptV V Y (V 7 r) (Y 8 0) 7 p = V 7 p := fun p => ptV_o (by omega) p
  have ee : ∀ v, yWk Y v → (yNd Y (V 7 r) v → ptV V Y (V 7 r) (Y 8 0) 33 v = max (V 33 v) (Y 9 (V 7 r) + V 33 (V 7 r))) ∧ (¬ yNd Y (V 7 r) v → ptV V Y (V 7 r) (Y 8 0) 33 v = V 33 v) := fun v hv => ⟨fun z => pif_t ⟨rfl, hv.1, hv.2, z⟩, fun z => pif_f (fun z2 => z z2.2.2.2)⟩
  have stay : ∀ p, r ≤ p → p < Y 8 0 → ptV V Y (V 7 r) (Y 8 0) 33 (V 7 p) = V 33 (V 7 p) := fun p p0 p1 => by
    have hp := hR.1 p (by omega) p1
    refine (ee _ hp).2 (fun z => ?_)
    have := rk_lt ha hp z
    have := hR.2.2 r p r0 p0 p1
    omega
  refine ⟨fun v hv => ?_, fun v hv => ?_, fun p p0 p1 v hv hn => ?_⟩
  · have h1 := h.1 v hv
    have h2 := h.1 _ hb
    by_cases z : yNd Y (V 7 r) v
    · rw [(ee v hv).1 z]
      have := rk_lt ha hv z
      omega
    · rw [(ee v hv).2 z]; exact h1
  · by_cases z : yNd Y (V 7 r) v ∧ V 33 v < Y 9 (V 7 r) + V 33 (V 7 r)
    · refine Or.inr ⟨r, by omega, r1, by rw [e7]; exact z.1, ?_⟩
      rw [(ee v hv).1 z.1, e7, stay r (by omega) r1]
      omega
    · have same : ptV V Y (V 7 r) (Y 8 0) 33 v = V 33 v := by
        by_cases z2 : yNd Y (V 7 r) v
        · rw [(ee v hv).1 z2]
          have : ¬ V 33 v < Y 9 (V 7 r) + V 33 (V 7 r) := fun q => z ⟨z2, q⟩
          omega
        · exact (ee v hv).2 z2
      rw [same]
      rcases h.2.1 v hv with q | ⟨p, p0, p1, q1, q2⟩
      · exact Or.inl q
      · exact Or.inr ⟨p, by omega, p1, by rw [e7]; exact q1, by rw [e7, stay p (by omega) p1]; exact q2⟩
  · rw [e7] at hn ⊢
    rw [stay p p0 p1]
    by_cases e : p = r
    · rw [e] at hn ⊢
      rw [(ee v hv).1 hn]
      omega
    · have := h.2.2 p (by omega) p1 v hv hn
      by_cases z : yNd Y (V 7 r) v
      · rw [(ee v hv).1 z]; omega
      · rw [(ee v hv).2 z]; exact this
theorem wE_fin {c : Int} {V Y : yS} (hi : yInv c Y) (ha : yAcy Y) (hR : rRk V Y) (h : wE V Y (Y 8 0)) {v : Int} (hv : yWk Y v) : V 32 v = yE Y v := by
  refine yE_eq (e := fun k => V 32 k) hi ha (fun u hu => ⟨(h.1 u hu).1, fun b hb hn => ?_, ?_⟩) hv
  · obtain ⟨p, p0, p1, e⟩ := hR.2.1 b hb
    have := h.2.2 p p0 p1 u hu (by rw [e]; exact hn)
    rw [e] at this
    exact this
  · rcases h.2.1 u hu with q | ⟨p, p0, p1, q1, q2⟩
    · exact Or.inl q
    · exact Or.inr ⟨V 7 p, hR.1 p p0 p1, q1, q2⟩
theorem wT_fin {c : Int} {V Y : yS} (hi : yInv c Y) (ha : yAcy Y) (hR : rRk V Y) (h : wT V Y 0) {v : Int} (hv : yWk Y v) : V 33 v = yT Y v := by
  refine yT_eq (e := fun k => V 33 k) hi ha (fun u hu => ⟨(h.1 u hu).1, fun b hb hn => ?_, ?_⟩) hv
  · obtain ⟨p, p0, p1, e⟩ := hR.2.1 b hb
    have := h.2.2 p p0 p1 u hu (by rw [e]; exact hn)
    rw [e] at this
    exact this
  · rcases h.2.1 u hu with q | ⟨p, p0, p1, q1, q2⟩
    · exact Or.inl q
    · exact Or.inr ⟨V 7 p, hR.1 p p0 p1, q1, q2⟩
def kWo (V1 V : yS) : Prop := ∀ o, o ≠ 7 → o ≠ 32 → o ≠ 33 → ∀ i, ¬ (o = 5 ∧ i = 5) → V1 o i = V o i
section C14
variable {E : zE} {d x : Nat} {wa : Int → Nat} {M : zM} {V Y : yS} {L : yL} {c : Int}
theorem k_weigh (hs : kSh x wa (Y 8 0) M) (hc : kCo x wa (Y 8 0) M V L) (e54 : V 5 4 = Y 8 0) (h29 : ∀ k, yWk Y k → V 29 k = Y 9 k) (h23 : ∀ k, yWk Y k → L 23 k = zbit k) (hnd : rNd L Y) (hun : rUn L Y) (hi : yInv c Y) (ha : yAcy Y) : zCv E mX2_weigh (d + 3) 0 0 [vR (some (x + 5))] M (fun M' => ∃ V1, kPo x wa (Y 8 0) M M' V1 L ∧ kWo V1 V ∧ rEt V1 Y) := by
  refine sX2_weigh _ (fun X hr => vX2_weigh_0 hr _ ⟨kk5 hs, _, k_rank hs hc e54 hun hi ha, ?_⟩)
  have h8 := yI_n hi
  rintro M0 ⟨V0, hp0, ho0, hR0⟩
  have rkb : ∀ v, yWk Y v → 0 ≤ yRk Y v ∧ yRk Y v ≤ 39 := fun v hv => rk_b hi ha hv
  -- the way
  have L110 : ∀ k : Int, 0 ≤ k → k ≤ Y 8 0 → ∀ (M1 : zM) (V1 : yS), kPo x wa (Y 8 0) M M1 V1 L → kWo V1 V → (∀ v, yWk Y v → V1 32 v = yE Y v ∧ V1 33 v = yT Y v ∧ (0 ≤ yE Y v ∧ yE Y v ≤ 1560) ∧ (0 ≤ yT Y v ∧ yT Y v ≤ 1560)) → (V1 5 5 = yfold (fun v w => pif (v < yE Y w + Y 9 w + yT Y w) (yE Y w + Y 9 w + yT Y w) v) 0 k) → (0 ≤ V1 5 5 ∧ V1 5 5 ≤ 4000) → ZX2_weigh E (d + 2) X (fun M' => ∃ V1, kPo x wa (Y 8 0) M M' V1 L ∧ kWo V1 V ∧ rEt V1 Y) 110 [(0, vR (some (x + 5))), (1, vI k)] [] M1 0 0 := by
    refine zdownI (n := Y 8 0) (fun k hk hk0 hk2 M1 V1 hp ho hv he hb => ?_) (fun k hk0 hk ih hk2 M1 V1 hp ho hv he hb => ?_)
    · have hk : k = Y 8 0 := by omega
      subst hk
      refine vX2_weigh_110 hr _ _ ?_
      simp only [kk0 hp.1, kk1 hp.1, kk2 hp.1, kk3 hp.1, kk4 hp.1, kk5 hp.1, kk6 hp.1, kk7 hp.1, kk8 hp.1, kk9 hp.1, kk10 hp.1, kk11 hp.1, kk12 hp.1, kk13 hp.1, kk14 hp.1, kk15 hp.1, kk16 hp.1, kk17 hp.1, kk18 hp.1, kk19 hp.1, kk20 hp.1, kk21 hp.1, kr0_0 hp.1, kr0_1 hp.1, kr0_2 hp.1, kr0_3 hp.1, kr0_4 hp.1, kr1_0 hp.1, kr1_1 hp.1, kr1_2 hp.1, kr5_0 hp.1, kr5_1 hp.1, kr5_2 hp.1, kr5_3 hp.1, kr10_0 hp.1, kr10_1 hp.1, kr17_0 hp.1, kr17_1 hp.1, kr17_2 hp.1, kr17_3 hp.1, kr17_4 hp.1, kr20_0 hp.1, kr20_1 hp.1, kr20_2 hp.1, kr20_3 hp.1, ki1 hp.2.1, ki2 hp.2.1, ki3 hp.2.1, ki4 hp.2.1, ki5 hp.2.1, ki7 hp.2.1, kl8 hp.2.1, kl9 hp.2.1, ki10 hp.2.1, kl11 hp.2.1, ki13 hp.2.1, ki14 hp.2.1, ki15 hp.2.1, ki16 hp.2.1, ki17 hp.2.1, ki18 hp.2.1, ki19 hp.2.1, ki20 hp.2.1, ki21 hp.2.1, Option.some.injEq, exists_eq_left', true_and, ho 5 (by decide) (by decide) (by decide) 4 (by omega), e54]
      have he : V1 5 5 = wayR Y := he
      exact ⟨fun _ => ⟨V1, hp, ho, hv, he, by rw [← he]; exact hb⟩, fun q => by omega⟩
    · have ih := ih (by omega)
      have hm : yWk Y k := ⟨hk0, hk⟩
      obtain ⟨v1, v2, v3, v4⟩ := hv k hm
      have hl := yI_w hi hk0 hk
      have v29 : V1 29 k = Y 9 k := by rw [ho 29 (by decide) (by decide) (by decide) k (by omega)]; exact h29 k hm
      refine vX2_weigh_110 hr _ _ ?_
      simp only [kk0 hp.1, kk1 hp.1, kk2 hp.1, kk3 hp.1, kk4 hp.1, kk5 hp.1, kk6 hp.1, kk7 hp.1, kk8 hp.1, kk9 hp.1, kk10 hp.1, kk11 hp.1, kk12 hp.1, kk13 hp.1, kk14 hp.1, kk15 hp.1, kk16 hp.1, kk17 hp.1, kk18 hp.1, kk19 hp.1, kk20 hp.1, kk21 hp.1, kr0_0 hp.1, kr0_1 hp.1, kr0_2 hp.1, kr0_3 hp.1, kr0_4 hp.1, kr1_0 hp.1, kr1_1 hp.1, kr1_2 hp.1, kr5_0 hp.1, kr5_1 hp.1, kr5_2 hp.1, kr5_3 hp.1, kr10_0 hp.1, kr10_1 hp.1, kr17_0 hp.1, kr17_1 hp.1, kr17_2 hp.1, kr17_3 hp.1, kr17_4 hp.1, kr20_0 hp.1, kr20_1 hp.1, kr20_2 hp.1, kr20_3 hp.1, ki1 hp.2.1, ki2 hp.2.1, ki3 hp.2.1, ki4 hp.2.1, ki5 hp.2.1, ki7 hp.2.1, kl8 hp.2.1, kl9 hp.2.1, ki10 hp.2.1, kl11 hp.2.1, ki13 hp.2.1, ki14 hp.2.1, ki15 hp.2.1, ki16 hp.2.1, ki17 hp.2.1, ki18 hp.2.1, ki19 hp.2.1, ki20 hp.2.1, ki21 hp.2.1, Option.some.injEq, exists_eq_left', true_and, kwR hp.1 hk0 hk, kwK hp.1 hk0 hk, kwi0 hp.2.1 hk0 hk, kwl1 hp.2.1 hk0 hk, kwi2 hp.2.1 hk0 hk, kwi3 hp.2.1 hk0 hk, kwi4 hp.2.1 hk0 hk, kwi5 hp.2.1 hk0 hk, kwi6 hp.2.1 hk0 hk, kwi7 hp.2.1 hk0 hk, kwi8 hp.2.1 hk0 hk, kwi9 hp.2.1 hk0 hk, kwi10 hp.2.1 hk0 hk, kwi11 hp.2.1 hk0 hk, kwl12 hp.2.1 hk0 hk, kwl13 hp.2.1 hk0 hk, kwl14 hp.2.1 hk0 hk, kwl15 hp.2.1 hk0 hk, ho 5 (by decide) (by decide) (by decide) 4 (by omega), e54]
      refine ⟨fun q => by omega, fun _ => ⟨by trivial, hk0, by omega, zu (k_wholeWay (v := yE Y k + Y 9 k + yT Y k) (kwK hp.1 hk0 hk) ?_ ?_ ?_) ?_⟩⟩
      · simp only [kwR hp.1 hk0 hk, kwK hp.1 hk0 hk, kwi0 hp.2.1 hk0 hk, kwl1 hp.2.1 hk0 hk, kwi2 hp.2.1 hk0 hk, kwi3 hp.2.1 hk0 hk, kwi4 hp.2.1 hk0 hk, kwi5 hp.2.1 hk0 hk, kwi6 hp.2.1 hk0 hk, kwi7 hp.2.1 hk0 hk, kwi8 hp.2.1 hk0 hk, kwi9 hp.2.1 hk0 hk, kwi10 hp.2.1 hk0 hk, kwi11 hp.2.1 hk0 hk, kwl12 hp.2.1 hk0 hk, kwl13 hp.2.1 hk0 hk, kwl14 hp.2.1 hk0 hk, kwl15 hp.2.1 hk0 hk, v1, v29]; unfold zin; omega
      · unfold zin; omega
      · simp only [kwR hp.1 hk0 hk, kwK hp.1 hk0 hk, kwi0 hp.2.1 hk0 hk, kwl1 hp.2.1 hk0 hk, kwi2 hp.2.1 hk0 hk, kwi3 hp.2.1 hk0 hk, kwi4 hp.2.1 hk0 hk, kwi5 hp.2.1 hk0 hk, kwi6 hp.2.1 hk0 hk, kwi7 hp.2.1 hk0 hk, kwi8 hp.2.1 hk0 hk, kwi9 hp.2.1 hk0 hk, kwi10 hp.2.1 hk0 hk, kwi11 hp.2.1 hk0 hk, kwl12 hp.2.1 hk0 hk, kwl13 hp.2.1 hk0 hk, kwl14 hp.2.1 hk0 hk, kwl15 hp.2.1 hk0 hk, v1, v2, v29]
      · simp only [kk0 hp.1, kk1 hp.1, kk2 hp.1, kk3 hp.1, kk4 hp.1, kk5 hp.1, kk6 hp.1, kk7 hp.1, kk8 hp.1, kk9 hp.1, kk10 hp.1, kk11 hp.1, kk12 hp.1, kk13 hp.1, kk14 hp.1, kk15 hp.1, kk16 hp.1, kk17 hp.1, kk18 hp.1, kk19 hp.1, kk20 hp.1, kk21 hp.1, kr0_0 hp.1, kr0_1 hp.1, kr0_2 hp.1, kr0_3 hp.1, kr0_4 hp.1, kr1_0 hp.1, kr1_1 hp.1, kr1_2 hp.1, kr5_0 hp.1, kr5_1 hp.1, kr5_2 hp.1, kr5_3 hp.1, kr10_0 hp.1, kr10_1 hp.1, kr17_0 hp.1, kr17_1 hp.1, kr17_2 hp.1, kr17_3 hp.1, kr17_4 hp.1, kr20_0 hp.1, kr20_1 hp.1, kr20_2 hp.1, kr20_3 hp.1, ki1 hp.2.1, ki2 hp.2.1, ki3 hp.2.1, ki4 hp.2.1, ki5 hp.2.1, ki7 hp.2.1, kl8 hp.2.1, kl9 hp.2.1, ki10 hp.2.1, kl11 hp.2.1, ki13 hp.2.1, ki14 hp.2.1, ki15 hp.2.1, ki16 hp.2.1, ki17 hp.2.1, ki18 hp.2.1, ki19 hp.2.1, ki20 hp.2.1, ki21 hp.2.1, Option.some.injEq, exists_eq_left', true_and]
        rintro M2 e2
        have hp2 := kPo_I (o := 5) hp e2 rfl (by decide)
        refine ⟨by unfold zin; omega, ih M2 _ hp2 (fun o h7 h32 h33 i hn => ?_) (fun v hv2 => ?_) ?_ ?_⟩
        · rw [yup_n _ _ _ _ hn]; exact ho o h7 h32 h33 i hn
        · rw [yup_o (by omega), yup_o (by omega)]; exact hv v hv2
        · rw [yup_s, yfold_s hk0, ← he]
          by_cases z : V1 5 5 < yE Y k + Y 9 k + yT Y k
          · rw [pif_t z]; omega
          · rw [pif_f z]; omega
        · rw [yup_s]; omega
  -- the tails, from behind
  have L78 : ∀ (n : Nat) (r : Int), r + 1 = n → r < Y 8 0 → ∀ (M1 : zM) (V1 : yS), kPo x wa (Y 8 0) M M1 V1 L → kWo V1 V → rRk V1 Y → wE V1 Y (Y 8 0) → wT V1 Y (r + 1) → ZX2_weigh E (d + 2) X (fun M' => ∃ V1, kPo x wa (Y 8 0) M M' V1 L ∧ kWo V1 V ∧ rEt V1 Y) 78 [(0, vR (some (x + 5))), (1, vI r)] [] M1 0 0 := by
    intro n
    induction n with
    | zero =>
      intro r hr1 hr2 M1 V1 hp ho hR he ht
      refine vX2_weigh_78 hr _ _ ⟨fun _ => ⟨kk5 hp.1, ?_⟩, fun q => by omega⟩
      rintro M2 e2
      have hp2 := kPo_I (o := 5) hp e2 rfl (by decide)
      have ht : wT V1 Y 0 := by rw [show r + 1 = 0 by omega] at ht; exact ht
      refine L110 0 (by omega) h8.1 M2 _ hp2 (fun o h7 h32 h33 i hn => ?_) (fun v hv => ?_) (by rw [yup_s]; rfl) (by rw [yup_s]; omega)
      · rw [yup_n _ _ _ _ hn]; exact ho o h7 h32 h33 i hn
      · rw [yup_o (by omega), yup_o (by omega)]
        have b1 := he.1 v hv
        have b2 := ht.1 v hv
        have b3 := rkb v hv
        rw [← wE_fin hi ha hR he hv, ← wT_fin hi ha hR ht hv]
        exact ⟨rfl, rfl, by omega, by omega⟩
    | succ n ihn =>
      intro r hr1 hr2 M1 V1 hp ho hR he ht
      have r0 : 0 ≤ r := by omega
      have hb := hR.1 r r0 hr2
      refine vX2_weigh_78 hr _ _ ⟨fun q => by omega, fun _ => ?_⟩
      have hb1 := hb.1
      have hb2 := hb.2
      simp only [kk0 hp.1, kk1 hp.1, kk2 hp.1, kk3 hp.1, kk4 hp.1, kk5 hp.1, kk6 hp.1, kk7 hp.1, kk8 hp.1, kk9 hp.1, kk10 hp.1, kk11 hp.1, kk12 hp.1, kk13 hp.1, kk14 hp.1, kk15 hp.1, kk16 hp.1, kk17 hp.1, kk18 hp.1, kk19 hp.1, kk20 hp.1, kk21 hp.1, kr0_0 hp.1, kr0_1 hp.1, kr0_2 hp.1, kr0_3 hp.1, kr0_4 hp.1, kr1_0 hp.1, kr1_1 hp.1, kr1_2 hp.1, kr5_0 hp.1, kr5_1 hp.1, kr5_2 hp.1, kr5_3 hp.1, kr10_0 hp.1, kr10_1 hp.1, kr17_0 hp.1, kr17_1 hp.1, kr17_2 hp.1, kr17_3 hp.1, kr17_4 hp.1, kr20_0 hp.1, kr20_1 hp.1, kr20_2 hp.1, kr20_3 hp.1, ki1 hp.2.1, ki2 hp.2.1, ki3 hp.2.1, ki4 hp.2.1, ki5 hp.2.1, ki7 hp.2.1, kl8 hp.2.1, kl9 hp.2.1, ki10 hp.2.1, kl11 hp.2.1, ki13 hp.2.1, ki14 hp.2.1, ki15 hp.2.1, ki16 hp.2.1, ki17 hp.2.1, ki18 hp.2.1, ki19 hp.2.1, ki20 hp.2.1, ki21 hp.2.1, Option.some.injEq, exists_eq_left', true_and, kwR hp.1 hb1 hb2, kwK hp.1 hb1 hb2, kwi0 hp.2.1 hb1 hb2, kwl1 hp.2.1 hb1 hb2, kwi2 hp.2.1 hb1 hb2, kwi3 hp.2.1 hb1 hb2, kwi4 hp.2.1 hb1 hb2, kwi5 hp.2.1 hb1 hb2, kwi6 hp.2.1 hb1 hb2, kwi7 hp.2.1 hb1 hb2, kwi8 hp.2.1 hb1 hb2, kwi9 hp.2.1 hb1 hb2, kwi10 hp.2.1 hb1 hb2, kwi11 hp.2.1 hb1 hb2, kwl12 hp.2.1 hb1 hb2, kwl13 hp.2.1 hb1 hb2, kwl14 hp.2.1 hb1 hb2, kwl15 hp.2.1 hb1 hb2]
      refine ⟨by omega, by omega, by trivial, hb.1, by omega, _, k_pushTail hp.1 hp.2.1 (by rw [ho 5 (by decide) (by decide) (by decide) 4 (by omega)]; exact e54) (fun k hk => by rw [ho 29 (by decide) (by decide) (by decide) k (by omega)]; exact h29 k hk) h23 hnd hi ha (fun k hk => by have := ht.1 k hk; have := rkb k hk; omega) hb, ?_⟩
      rintro M2 hp2
      have h7 : ∀ p, ptV V1 Y (V1 7 r) (Y 8 0) 7 p = V1 7 p := fun p => ptV_o (by omega) p
      have h32 : ∀ p, ptV V1 Y (V1 7 r) (Y 8 0) 32 p = V1 32 p := fun p => ptV_o (by omega) p
      refine ⟨by unfold zin; omega, ?_⟩
      rw [show r + (-1) = r - 1 by omega]
      refine ihn (r - 1) (by omega) (by omega) M2 _ (kPo_tr hp hp2) (fun o h7 h32 h33 i hn => ?_) ?_ ?_ ?_
      · rw [ptV_o h33]; exact ho o h7 h32 h33 i hn
      · unfold rRk
        simp only [h7]
        exact hR
      · unfold wE
        simp only [h7, h32]
        exact he
      · rw [show r - 1 + 1 = r by omega]
        exact wT_s hi ha hR r0 hr2 ht
  -- the earlies
  have L42 : ∀ r : Int, 0 ≤ r → r ≤ Y 8 0 → ∀ (M1 : zM) (V1 : yS), kPo x wa (Y 8 0) M M1 V1 L → kWo V1 V → rRk V1 Y → wE V1 Y r → (∀ v, yWk Y v → V1 33 v = 0) → ZX2_weigh E (d + 2) X (fun M' => ∃ V1, kPo x wa (Y 8 0) M M' V1 L ∧ kWo V1 V ∧ rEt V1 Y) 42 [(0, vR (some (x + 5))), (1, vI r)] [] M1 0 0 := by
    refine zdownI (n := Y 8 0) (fun r hk hk0 hk2 M1 V1 hp ho hR he ht => ?_) (fun r hk0 hk ih hk2 M1 V1 hp ho hR he ht => ?_)
    · have hk : r = Y 8 0 := by omega
      subst hk
      refine vX2_weigh_42 hr _ _ ?_
      simp only [kk0 hp.1, kk1 hp.1, kk2 hp.1, kk3 hp.1, kk4 hp.1, kk5 hp.1, kk6 hp.1, kk7 hp.1, kk8 hp.1, kk9 hp.1, kk10 hp.1, kk11 hp.1, kk12 hp.1, kk13 hp.1, kk14 hp.1, kk15 hp.1, kk16 hp.1, kk17 hp.1, kk18 hp.1, kk19 hp.1, kk20 hp.1, kk21 hp.1, kr0_0 hp.1, kr0_1 hp.1, kr0_2 hp.1, kr0_3 hp.1, kr0_4 hp.1, kr1_0 hp.1, kr1_1 hp.1, kr1_2 hp.1, kr5_0 hp.1, kr5_1 hp.1, kr5_2 hp.1, kr5_3 hp.1, kr10_0 hp.1, kr10_1 hp.1, kr17_0 hp.1, kr17_1 hp.1, kr17_2 hp.1, kr17_3 hp.1, kr17_4 hp.1, kr20_0 hp.1, kr20_1 hp.1, kr20_2 hp.1, kr20_3 hp.1, ki1 hp.2.1, ki2 hp.2.1, ki3 hp.2.1, ki4 hp.2.1, ki5 hp.2.1, ki7 hp.2.1, kl8 hp.2.1, kl9 hp.2.1, ki10 hp.2.1, kl11 hp.2.1, ki13 hp.2.1, ki14 hp.2.1, ki15 hp.2.1, ki16 hp.2.1, ki17 hp.2.1, ki18 hp.2.1, ki19 hp.2.1, ki20 hp.2.1, ki21 hp.2.1, Option.some.injEq, exists_eq_left', true_and, ho 5 (by decide) (by decide) (by decide) 4 (by omega), e54]
      refine ⟨fun _ => ⟨by unfold zin; omega, L78 (Y 8 0).toNat (Y 8 0 - 1) (by omega) (by omega) M1 V1 hp ho hR he ⟨fun v hv => ?_, fun v hv => Or.inl (ht v hv), fun p p0 p1 => by omega⟩⟩, fun q => by omega⟩
      rw [ht v hv]
      have := rkb v hv
      omega
    · have ih := ih (by omega)
      have hb := hR.1 r hk0 hk
      have hb1 := hb.1
      have hb2 := hb.2
      refine vX2_weigh_42 hr _ _ ?_
      simp only [kk0 hp.1, kk1 hp.1, kk2 hp.1, kk3 hp.1, kk4 hp.1, kk5 hp.1, kk6 hp.1, kk7 hp.1, kk8 hp.1, kk9 hp.1, kk10 hp.1, kk11 hp.1, kk12 hp.1, kk13 hp.1, kk14 hp.1, kk15 hp.1, kk16 hp.1, kk17 hp.1, kk18 hp.1, kk19 hp.1, kk20 hp.1, kk21 hp.1, kr0_0 hp.1, kr0_1 hp.1, kr0_2 hp.1, kr0_3 hp.1, kr0_4 hp.1, kr1_0 hp.1, kr1_1 hp.1, kr1_2 hp.1, kr5_0 hp.1, kr5_1 hp.1, kr5_2 hp.1, kr5_3 hp.1, kr10_0 hp.1, kr10_1 hp.1, kr17_0 hp.1, kr17_1 hp.1, kr17_2 hp.1, kr17_3 hp.1, kr17_4 hp.1, kr20_0 hp.1, kr20_1 hp.1, kr20_2 hp.1, kr20_3 hp.1, ki1 hp.2.1, ki2 hp.2.1, ki3 hp.2.1, ki4 hp.2.1, ki5 hp.2.1, ki7 hp.2.1, kl8 hp.2.1, kl9 hp.2.1, ki10 hp.2.1, kl11 hp.2.1, ki13 hp.2.1, ki14 hp.2.1, ki15 hp.2.1, ki16 hp.2.1, ki17 hp.2.1, ki18 hp.2.1, ki19 hp.2.1, ki20 hp.2.1, ki21 hp.2.1, Option.some.injEq, exists_eq_left', true_and, kwR hp.1 hb1 hb2, kwK hp.1 hb1 hb2, kwi0 hp.2.1 hb1 hb2, kwl1 hp.2.1 hb1 hb2, kwi2 hp.2.1 hb1 hb2, kwi3 hp.2.1 hb1 hb2, kwi4 hp.2.1 hb1 hb2, kwi5 hp.2.1 hb1 hb2, kwi6 hp.2.1 hb1 hb2, kwi7 hp.2.1 hb1 hb2, kwi8 hp.2.1 hb1 hb2, kwi9 hp.2.1 hb1 hb2, kwi10 hp.2.1 hb1 hb2, kwi11 hp.2.1 hb1 hb2, kwl12 hp.2.1 hb1 hb2, kwl13 hp.2.1 hb1 hb2, kwl14 hp.2.1 hb1 hb2, kwl15 hp.2.1 hb1 hb2, ho 5 (by decide) (by decide) (by decide) 4 (by omega), e54]
      refine ⟨fun q => by omega, fun _ => ⟨by omega, by omega, by trivial, hb.1, by omega, _, k_pushEarly hp.1 hp.2.1 (by rw [ho 5 (by decide) (by decide) (by decide) 4 (by omega)]; exact e54) (fun k hk => by rw [ho 29 (by decide) (by decide) (by decide) k (by omega)]; exact h29 k hk) h23 hnd hi ha (fun k hk => by have := he.1 k hk; have := rkb k hk; omega) hb, ?_⟩⟩
      rintro M2 hp2
      have h7 : ∀ p, peV V1 Y (V1 7 r) (Y 8 0) 7 p = V1 7 p := fun p => peV_o (by omega) p
      refine ⟨by unfold zin; omega, ih M2 _ (kPo_tr hp hp2) (fun o h7 h32 h33 i hn => ?_) ?_ (wE_s hi ha hR hk0 hk he) (fun v hv => ?_)⟩
      · rw [peV_o h32]; exact ho o h7 h32 h33 i hn
      · unfold rRk
        simp only [h7]
        exact hR
      · rw [peV_o (by omega)]; exact ht v hv
  have L6 : ∀ k : Int, 0 ≤ k → k ≤ Y 8 0 → ∀ (M1 : zM) (V1 : yS), kPo x wa (Y 8 0) M M1 V1 L → kWo V1 V → rRk V1 Y → (∀ j, 0 ≤ j → j < k → V1 32 j = 0 ∧ V1 33 j = 0) → ZX2_weigh E (d + 2) X (fun M' => ∃ V1, kPo x wa (Y 8 0) M M' V1 L ∧ kWo V1 V ∧ rEt V1 Y) 6 [(0, vR (some (x + 5))), (1, vI k)] [] M1 0 0 := by
    refine zdownI (n := Y 8 0) (fun k hk hk0 hk2 M1 V1 hp ho hR hz => ?_) (fun k hk0 hk ih hk2 M1 V1 hp ho hR hz => ?_)
    · have hk : k = Y 8 0 := by omega
      subst hk
      refine vX2_weigh_6 hr _ _ ?_
      simp only [kk0 hp.1, kk1 hp.1, kk2 hp.1, kk3 hp.1, kk4 hp.1, kk5 hp.1, kk6 hp.1, kk7 hp.1, kk8 hp.1, kk9 hp.1, kk10 hp.1, kk11 hp.1, kk12 hp.1, kk13 hp.1, kk14 hp.1, kk15 hp.1, kk16 hp.1, kk17 hp.1, kk18 hp.1, kk19 hp.1, kk20 hp.1, kk21 hp.1, kr0_0 hp.1, kr0_1 hp.1, kr0_2 hp.1, kr0_3 hp.1, kr0_4 hp.1, kr1_0 hp.1, kr1_1 hp.1, kr1_2 hp.1, kr5_0 hp.1, kr5_1 hp.1, kr5_2 hp.1, kr5_3 hp.1, kr10_0 hp.1, kr10_1 hp.1, kr17_0 hp.1, kr17_1 hp.1, kr17_2 hp.1, kr17_3 hp.1, kr17_4 hp.1, kr20_0 hp.1, kr20_1 hp.1, kr20_2 hp.1, kr20_3 hp.1, ki1 hp.2.1, ki2 hp.2.1, ki3 hp.2.1, ki4 hp.2.1, ki5 hp.2.1, ki7 hp.2.1, kl8 hp.2.1, kl9 hp.2.1, ki10 hp.2.1, kl11 hp.2.1, ki13 hp.2.1, ki14 hp.2.1, ki15 hp.2.1, ki16 hp.2.1, ki17 hp.2.1, ki18 hp.2.1, ki19 hp.2.1, ki20 hp.2.1, ki21 hp.2.1, Option.some.injEq, exists_eq_left', true_and, ho 5 (by decide) (by decide) (by decide) 4 (by omega), e54]
      refine ⟨fun _ => L42 0 (by omega) h8.1 M1 V1 hp ho hR ⟨fun v hv => ?_, fun v hv => Or.inl (hz v hv.1 hv.2).1, fun p p0 p1 => by omega⟩ (fun v hv => (hz v hv.1 hv.2).2), fun q => by omega⟩
      rw [(hz v hv.1 hv.2).1]
      have := rkb v hv
      omega
    · have ih := ih (by omega)
      refine vX2_weigh_6 hr _ _ ?_
      simp only [kk0 hp.1, kk1 hp.1, kk2 hp.1, kk3 hp.1, kk4 hp.1, kk5 hp.1, kk6 hp.1, kk7 hp.1, kk8 hp.1, kk9 hp.1, kk10 hp.1, kk11 hp.1, kk12 hp.1, kk13 hp.1, kk14 hp.1, kk15 hp.1, kk16 hp.1, kk17 hp.1, kk18 hp.1, kk19 hp.1, kk20 hp.1, kk21 hp.1, kr0_0 hp.1, kr0_1 hp.1, kr0_2 hp.1, kr0_3 hp.1, kr0_4 hp.1, kr1_0 hp.1, kr1_1 hp.1, kr1_2 hp.1, kr5_0 hp.1, kr5_1 hp.1, kr5_2 hp.1, kr5_3 hp.1, kr10_0 hp.1, kr10_1 hp.1, kr17_0 hp.1, kr17_1 hp.1, kr17_2 hp.1, kr17_3 hp.1, kr17_4 hp.1, kr20_0 hp.1, kr20_1 hp.1, kr20_2 hp.1, kr20_3 hp.1, ki1 hp.2.1, ki2 hp.2.1, ki3 hp.2.1, ki4 hp.2.1, ki5 hp.2.1, ki7 hp.2.1, kl8 hp.2.1, kl9 hp.2.1, ki10 hp.2.1, kl11 hp.2.1, ki13 hp.2.1, ki14 hp.2.1, ki15 hp.2.1, ki16 hp.2.1, ki17 hp.2.1, ki18 hp.2.1, ki19 hp.2.1, ki20 hp.2.1, ki21 hp.2.1, Option.some.injEq, exists_eq_left', true_and, kwR hp.1 hk0 hk, kwK hp.1 hk0 hk, kwi0 hp.2.1 hk0 hk, kwl1 hp.2.1 hk0 hk, kwi2 hp.2.1 hk0 hk, kwi3 hp.2.1 hk0 hk, kwi4 hp.2.1 hk0 hk, kwi5 hp.2.1 hk0 hk, kwi6 hp.2.1 hk0 hk, kwi7 hp.2.1 hk0 hk, kwi8 hp.2.1 hk0 hk, kwi9 hp.2.1 hk0 hk, kwi10 hp.2.1 hk0 hk, kwi11 hp.2.1 hk0 hk, kwl12 hp.2.1 hk0 hk, kwl13 hp.2.1 hk0 hk, kwl14 hp.2.1 hk0 hk, kwl15 hp.2.1 hk0 hk, ho 5 (by decide) (by decide) (by decide) 4 (by omega), e54]
      refine ⟨fun q => by omega, fun _ => ⟨by trivial, hk0, by omega, ?_⟩⟩
      rintro M2 e2
      have hp2 := kPo_wI (f := 10) hp e2 rfl rfl (by decide) hk0 hk
      simp only [kk0 hp2.1, kk1 hp2.1, kk2 hp2.1, kk3 hp2.1, kk4 hp2.1, kk5 hp2.1, kk6 hp2.1, kk7 hp2.1, kk8 hp2.1, kk9 hp2.1, kk10 hp2.1, kk11 hp2.1, kk12 hp2.1, kk13 hp2.1, kk14 hp2.1, kk15 hp2.1, kk16 hp2.1, kk17 hp2.1, kk18 hp2.1, kk19 hp2.1, kk20 hp2.1, kk21 hp2.1, kr0_0 hp2.1, kr0_1 hp2.1, kr0_2 hp2.1, kr0_3 hp2.1, kr0_4 hp2.1, kr1_0 hp2.1, kr1_1 hp2.1, kr1_2 hp2.1, kr5_0 hp2.1, kr5_1 hp2.1, kr5_2 hp2.1, kr5_3 hp2.1, kr10_0 hp2.1, kr10_1 hp2.1, kr17_0 hp2.1, kr17_1 hp2.1, kr17_2 hp2.1, kr17_3 hp2.1, kr17_4 hp2.1, kr20_0 hp2.1, kr20_1 hp2.1, kr20_2 hp2.1, kr20_3 hp2.1, ki1 hp2.2.1, ki2 hp2.2.1, ki3 hp2.2.1, ki4 hp2.2.1, ki5 hp2.2.1, ki7 hp2.2.1, kl8 hp2.2.1, kl9 hp2.2.1, ki10 hp2.2.1, kl11 hp2.2.1, ki13 hp2.2.1, ki14 hp2.2.1, ki15 hp2.2.1, ki16 hp2.2.1, ki17 hp2.2.1, ki18 hp2.2.1, ki19 hp2.2.1, ki20 hp2.2.1, ki21 hp2.2.1, Option.some.injEq, exists_eq_left', true_and, kwR hp2.1 hk0 hk, kwK hp2.1 hk0 hk, kwi0 hp2.2.1 hk0 hk, kwl1 hp2.2.1 hk0 hk, kwi2 hp2.2.1 hk0 hk, kwi3 hp2.2.1 hk0 hk, kwi4 hp2.2.1 hk0 hk, kwi5 hp2.2.1 hk0 hk, kwi6 hp2.2.1 hk0 hk, kwi7 hp2.2.1 hk0 hk, kwi8 hp2.2.1 hk0 hk, kwi9 hp2.2.1 hk0 hk, kwi10 hp2.2.1 hk0 hk, kwi11 hp2.2.1 hk0 hk, kwl12 hp2.2.1 hk0 hk, kwl13 hp2.2.1 hk0 hk, kwl14 hp2.2.1 hk0 hk, kwl15 hp2.2.1 hk0 hk]
      refine ⟨by trivial, hk0, by omega, ?_⟩
      rintro M3 e3
      have hp3 := kPo_wI (f := 11) hp2 e3 rfl rfl (by decide) hk0 hk
      refine ⟨by unfold zin; omega, ih M3 _ hp3 (fun o h7 h32 h33 i hn => ?_) ?_ (fun j j0 j1 => ?_)⟩
      · rw [yup_o (by omega), yup_o (by omega)]; exact ho o h7 h32 h33 i hn
      · exact hR
      · by_cases e : j = k
        · rw [e]
          exact ⟨by rw [yup_o (by omega), yup_s], by rw [yup_s]⟩
        · rw [yup_o (by omega), yup_n _ _ _ _ (fun z => e z.2), yup_n _ _ _ _ (fun z => e z.2), yup_o (by omega)]
          exact hz j j0 (by omega)
  exact L6 0 (by omega) h8.1 M0 V0 hp0 (fun o h7 _ _ i _ => ho0 o h7 i) hR0 (fun j j0 j1 => by omega)
end C14
