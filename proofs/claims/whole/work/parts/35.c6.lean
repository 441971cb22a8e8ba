/-! ===== Rules: what a work lacks in a shift ===== -/
noncomputable def yCw (Y : yS) (w rule s o : Int) : Int := pif (o = w ∨ yIn Y o s) (pif (rule = 2) (pif (Y 10 o = Y 10 w) (Y 11 o) 0) (pif (rule = 3) (p2i (Y 14 w ≠ -1 ∧ Y 14 o = Y 14 w)) (pif (rule = 4) (p2i (Y 12 o = Y 12 w)) (p2i (o ≠ w ∧ yBar Y o w))))) 0
theorem yCw_3 (Y : yS) (w s k : Int) : yCw Y w 3 s k = pif (k = w ∨ yIn Y k s) (p2i (Y 14 w ≠ -1 ∧ Y 14 k = Y 14 w)) 0 := by
  unfold yCw
  rw [pif_f (p := (3 : Int) = 2) (by omega), pif_t (p := (3 : Int) = 3) rfl]
theorem yCw_4 (Y : yS) (w s k : Int) : yCw Y w 4 s k = pif (k = w ∨ yIn Y k s) (p2i (Y 12 k = Y 12 w)) 0 := by
  unfold yCw
  rw [pif_f (p := (4 : Int) = 2) (by omega), pif_f (p := (4 : Int) = 3) (by omega), pif_t (p := (4 : Int) = 4) rfl]
theorem yCw_5 (Y : yS) (w s k : Int) : yCw Y w 5 s k = pif (k = w ∨ yIn Y k s) (p2i (k ≠ w ∧ yBar Y k w)) 0 := by
  unfold yCw
  rw [pif_f (p := (5 : Int) = 2) (by omega), pif_f (p := (5 : Int) = 3) (by omega), pif_f (p := (5 : Int) = 4) (by omega)]
noncomputable def yTw (Y : yS) (w rule s : Int) : Int := ysum (yCw Y w rule s) (Y 8 0)
def yLk (Y : yS) (w rule s : Int) : Prop := (rule = 2 ∧ Y 4 (Y 10 w) < yTw Y w rule s) ∨ (rule = 3 ∧ Y 14 w ≠ -1 ∧ Y 5 (Y 14 w) < yTw Y w rule s) ∨ (rule = 4 ∧ Y 2 (Y 12 w) < yTw Y w rule s) ∨ (rule ≠ 2 ∧ rule ≠ 3 ∧ rule ≠ 4 ∧ 0 < yTw Y w rule s)
theorem yLk_in {Y : yS} {w s : Int} (h : yIn Y w s) (r : Int) : yLk Y w r s ↔ yBroken Y w r s := by
  have e : yTw Y w r s = yTot Y w r s := ysum_congr (fun k _ _ => by
    unfold yCw yCn
    rw [pif_c (q := yIn Y k s) ⟨fun z => z.elim (fun q => by rw [q]; exact h) id, Or.inr⟩])
  unfold yLk yBroken
  rw [e]
theorem yLk_up {Y : yS} {w s s0 : Int} (h0 : 0 ≤ s0) (h1 : s0 ≤ s) (h2 : s < s0 + Y 9 w) (r : Int) : yBroken (yup Y 15 w s0) w r s ↔ yLk Y w r s := by
  have e : yTot (yup Y 15 w s0) w r s = yTw Y w r s := by
    show ysum (yCn (yup Y 15 w s0) w r s) (Y 8 0) = ysum (yCw Y w r s) (Y 8 0)
    refine ysum_congr (fun k _ _ => ?_)
    show pif (yIn (yup Y 15 w s0) k s) _ 0 = pif (k = w ∨ yIn Y k s) _ 0
    rw [pif_c (p := yIn (yup Y 15 w s0) k s) (q := k = w ∨ yIn Y k s)]
    · rfl
    · unfold yIn yPut yEnd
      by_cases q : k = w
      · subst q
        rw [yup_s, yup_n _ _ _ _ (by omega)]
        exact ⟨fun _ => Or.inl rfl, fun _ => ⟨by omega, h1, h2⟩⟩
      · rw [yup_n _ _ _ _ (fun z => q z.2), yup_n _ _ _ _ (by omega)]
        exact ⟨Or.inr, fun z => z.resolve_left q⟩
  unfold yBroken yLk
  rw [e]
  exact Iff.rfl
theorem ysum_pos {f : Int → Int} {n : Int} (h0 : 0 ≤ n) (h : ∀ k, 0 ≤ k → k < n → 0 ≤ f k) : 0 < ysum f n ↔ ∃ k, 0 ≤ k ∧ k < n ∧ 0 < f k := by
  constructor
  · intro q
    apply Classical.byContradiction
    intro z
    have e : ysum f n = ysum (fun _ => 0) n := ysum_congr (fun k a b => by
      have := h k a b
      apply Classical.byContradiction
      intro z2
      exact z ⟨k, a, b, by omega⟩)
    have := ysum_b (f := fun _ => 0) (b := 0) h0 (fun _ _ _ => ⟨Int.le_refl _, Int.le_refl _⟩)
    omega
  · rintro ⟨k, a, b, q⟩
    have e := ysum_lt (f := fun _ => 0) (g := f) a b (fun j j0 j1 => h j j0 j1) q
    have := ysum_b (f := fun _ => (0 : Int)) (b := 0) h0 (fun _ _ _ => ⟨Int.le_refl _, Int.le_refl _⟩)
    omega
theorem yHd_b {c : Int} {Y : yS} (hi : yInv c Y) (t s : Int) : 0 ≤ ysum (yHd Y t s) (Y 8 0) ∧ ysum (yHd Y t s) (Y 8 0) ≤ 360 := by
  have h8 := yI_n hi
  have := ysum_b (f := yHd Y t s) (b := 9) h8.1 (fun k a b => by
    have := yI_w hi a b
    unfold yHd
    by_cases q : yIn Y k s ∧ Y 10 k = t
    · rw [pif_t q]; omega
    · rw [pif_f q]; omega)
  omega
section C6
variable {E : zE} {d x : Nat} {wa : Int → Nat} {M : zM} {V Y : yS} {L : yL} {c : Int}
theorem k_lacksHands (h : kR x wa M V L Y) (hi : yInv c Y) {w s : Int} (hw : yWk Y w) (s0 : 0 ≤ s) (s1 : s < 400) : zCi E mX4_lacksHands (d + 1) 0 0 [vR (some (x + 17)), vR (some (wa w)), vI s] M (fun r M' => r = p2i (yLk Y w 2 s) ∧ M' = M) := by
  refine sX4_lacksHands _ _ _ (fun X hr => vX4_lacksHands_0 hr _ _ _ ?_)
  have hb := yI_w hi hw.1 hw.2
  have t0 : 0 ≤ Y 10 w := by omega
  have t1 : Y 10 w < 4 := by omega
  have hv := (kRp_bd h.2.2).2 _ s t0 t1 s0 s1
  have hz := zBs_in ((kRp_bd h.2.2).1 s s0 s1) hw.1 (by have := yW_lt hi hw; omega)
  have hbd := yHd_b hi (Y 10 w) s
  have e2 : yLk Y w 2 s ↔ Y 4 (Y 10 w) < yTw Y w 2 s := by
    unfold yLk
    exact ⟨fun z => by rcases z with z | z | z | z <;> omega, fun z => Or.inl ⟨rfl, z⟩⟩
  have yes : yIn Y w s → yTw Y w 2 s = ysum (yHd Y (Y 10 w) s) (Y 8 0) := fun q => ysum_congr (fun k _ _ => by
    unfold yCw yHd
    rw [pif_c (q := yIn Y k s) ⟨fun z => z.elim (fun q2 => by rw [q2]; exact q) id, Or.inr⟩, pif_t rfl]
    by_cases a : yIn Y k s
    · rw [pif_t a]
      exact pif_c ⟨fun z => ⟨a, z⟩, fun z => z.2⟩
    · rw [pif_f a, pif_f (fun z => a z.1)])
  have no : ¬ yIn Y w s → yTw Y w 2 s = ysum (yHd Y (Y 10 w) s) (Y 8 0) + Y 11 w := fun q => by
    have := ysum_upd (f := yHd Y (Y 10 w) s) (g := yCw Y w 2 s) hw.1 hw.2 (fun k hk => by
      unfold yCw yHd
      rw [pif_c (q := yIn Y k s) ⟨fun z => z.resolve_left hk, Or.inr⟩, pif_t rfl]
      by_cases a : yIn Y k s
      · rw [pif_t a]
        exact pif_c ⟨fun z => ⟨a, z⟩, fun z => z.2⟩
      · rw [pif_f a, pif_f (fun z => a z.1)])
    have e3 : yCw Y w 2 s w = Y 11 w := by
      unfold yCw
      rw [pif_t (Or.inl rfl), pif_t rfl, pif_t rfl]
    have e4 : yHd Y (Y 10 w) s w = 0 := pif_f (fun z => q z.1)
    unfold yTw
    omega
  simp only [kk0 h.1, kk1 h.1, kk2 h.1, kk3 h.1, kk4 h.1, kk5 h.1, kk6 h.1, kk7 h.1, kk8 h.1, kk9 h.1, kk10 h.1, kk11 h.1, kk12 h.1, kk13 h.1, kk14 h.1, kk15 h.1, kk16 h.1, kk17 h.1, kk18 h.1, kk19 h.1, kk20 h.1, kk21 h.1, kr0_0 h.1, kr0_1 h.1, kr0_2 h.1, kr0_3 h.1, kr0_4 h.1, kr1_0 h.1, kr1_1 h.1, kr1_2 h.1, kr5_0 h.1, kr5_1 h.1, kr5_2 h.1, kr5_3 h.1, kr10_0 h.1, kr10_1 h.1, kr17_0 h.1, kr17_1 h.1, kr17_2 h.1, kr17_3 h.1, kr17_4 h.1, kr20_0 h.1, kr20_1 h.1, kr20_2 h.1, kr20_3 h.1, ki1 h.2.1, ki2 h.2.1, ki3 h.2.1, ki4 h.2.1, ki5 h.2.1, ki7 h.2.1, kl8 h.2.1, kl9 h.2.1, ki10 h.2.1, kl11 h.2.1, ki13 h.2.1, ki14 h.2.1, ki15 h.2.1, ki16 h.2.1, ki17 h.2.1, ki18 h.2.1, ki19 h.2.1, ki20 h.2.1, ki21 h.2.1, Option.some.injEq, exists_eq_left', true_and, rs13 h.2.2, rs14 h.2.2, rs54 h.2.2, rs102 h.2.2, rg2 h.2.2, rg18 h.2.2, rg19 h.2.2, kwR h.1 hw.1 hw.2, kwK h.1 hw.1 hw.2, kwi0 h.2.1 hw.1 hw.2, kwl1 h.2.1 hw.1 hw.2, kwi2 h.2.1 hw.1 hw.2, kwi3 h.2.1 hw.1 hw.2, kwi4 h.2.1 hw.1 hw.2, kwi5 h.2.1 hw.1 hw.2, kwi6 h.2.1 hw.1 hw.2, kwi7 h.2.1 hw.1 hw.2, kwi8 h.2.1 hw.1 hw.2, kwi9 h.2.1 hw.1 hw.2, kwi10 h.2.1 hw.1 hw.2, kwi11 h.2.1 hw.1 hw.2, kwl12 h.2.1 hw.1 hw.2, kwl13 h.2.1 hw.1 hw.2, kwl14 h.2.1 hw.1 hw.2, kwl15 h.2.1 hw.1 hw.2, rw22 h.2.2 hw, rw23 h.2.2 hw, rw24 h.2.2 hw, rw25 h.2.2 hw, rw26 h.2.2 hw, rw27 h.2.2 hw, rw28 h.2.2 hw, rw29 h.2.2 hw, rw30 h.2.2 hw, rw31 h.2.2 hw, rw32 h.2.2 hw, rw33 h.2.2 hw, krw h.1 t0 t1, krk h.1 t0 t1, kri h.2.1 t0 t1, hv, cmp0, ne_eq]
  refine ⟨by trivial, t0, by omega, s0, by omega, s0, by omega, fun q => ⟨fun _ => ⟨by unfold zin; omega, t0, by omega, fun q2 => ⟨p2i_z0 (fun z => ?_), by trivial⟩, fun q2 => ⟨p2i_z1 ?_, by trivial⟩⟩, fun q => absurd trivial q⟩, fun q => ⟨fun q => by omega, fun _ => ⟨t0, by omega, fun q2 => ⟨p2i_z0 (fun z => ?_), by trivial⟩, fun q2 => ⟨p2i_z1 ?_, by trivial⟩⟩⟩⟩
  · rw [e2, no (fun z2 => hz.mpr ⟨hw, z2⟩ q)] at z
    omega
  · rw [e2, no (fun z2 => hz.mpr ⟨hw, z2⟩ q)]
    exact q2
  · rw [e2, yes (hz.mp q).2] at z
    omega
  · rw [e2, yes (hz.mp q).2]
    exact q2
theorem k_lacksGood (h : kR x wa M V L Y) (hi : yInv c Y) {w s : Int} (hw : yWk Y w) (s0 : 0 ≤ s) (s1 : s < 400) : zCi E mX4_lacksGood (d + 2) 0 0 [vR (some (x + 17)), vR (some (wa w)), vI s] M (fun r M' => r = p2i (yLk Y w 3 s) ∧ M' = M) := by
  refine sX4_lacksGood _ _ _ (fun X hr => vX4_lacksGood_0 hr _ _ _ ?_)
  have h8 := yI_n hi
  have hb := yI_w hi hw.1 hw.2
  have e2 : yLk Y w 3 s ↔ Y 14 w ≠ -1 ∧ Y 5 (Y 14 w) < yTw Y w 3 s := by
    unfold yLk
    exact ⟨fun z => by rcases z with z | z | z | z <;> omega, fun z => Or.inr (Or.inl ⟨rfl, z⟩)⟩
  simp only [kk0 h.1, kk1 h.1, kk2 h.1, kk3 h.1, kk4 h.1, kk5 h.1, kk6 h.1, kk7 h.1, kk8 h.1, kk9 h.1, kk10 h.1, kk11 h.1, kk12 h.1, kk13 h.1, kk14 h.1, kk15 h.1, kk16 h.1, kk17 h.1, kk18 h.1, kk19 h.1, kk20 h.1, kk21 h.1, kr0_0 h.1, kr0_1 h.1, kr0_2 h.1, kr0_3 h.1, kr0_4 h.1, kr1_0 h.1, kr1_1 h.1, kr1_2 h.1, kr5_0 h.1, kr5_1 h.1, kr5_2 h.1, kr5_3 h.1, kr10_0 h.1, kr10_1 h.1, kr17_0 h.1, kr17_1 h.1, kr17_2 h.1, kr17_3 h.1, kr17_4 h.1, kr20_0 h.1, kr20_1 h.1, kr20_2 h.1, kr20_3 h.1, ki1 h.2.1, ki2 h.2.1, ki3 h.2.1, ki4 h.2.1, ki5 h.2.1, ki7 h.2.1, kl8 h.2.1, kl9 h.2.1, ki10 h.2.1, kl11 h.2.1, ki13 h.2.1, ki14 h.2.1, ki15 h.2.1, ki16 h.2.1, ki17 h.2.1, ki18 h.2.1, ki19 h.2.1, ki20 h.2.1, ki21 h.2.1, Option.some.injEq, exists_eq_left', true_and, rs13 h.2.2, rs14 h.2.2, rs54 h.2.2, rs102 h.2.2, rg2 h.2.2, rg18 h.2.2, rg19 h.2.2, kwR h.1 hw.1 hw.2, kwK h.1 hw.1 hw.2, kwi0 h.2.1 hw.1 hw.2, kwl1 h.2.1 hw.1 hw.2, kwi2 h.2.1 hw.1 hw.2, kwi3 h.2.1 hw.1 hw.2, kwi4 h.2.1 hw.1 hw.2, kwi5 h.2.1 hw.1 hw.2, kwi6 h.2.1 hw.1 hw.2, kwi7 h.2.1 hw.1 hw.2, kwi8 h.2.1 hw.1 hw.2, kwi9 h.2.1 hw.1 hw.2, kwi10 h.2.1 hw.1 hw.2, kwi11 h.2.1 hw.1 hw.2, kwl12 h.2.1 hw.1 hw.2, kwl13 h.2.1 hw.1 hw.2, kwl14 h.2.1 hw.1 hw.2, kwl15 h.2.1 hw.1 hw.2, rw22 h.2.2 hw, rw23 h.2.2 hw, rw24 h.2.2 hw, rw25 h.2.2 hw, rw26 h.2.2 hw, rw27 h.2.2 hw, rw28 h.2.2 hw, rw29 h.2.2 hw, rw30 h.2.2 hw, rw31 h.2.2 hw, rw32 h.2.2 hw, rw33 h.2.2 hw]
  refine ⟨fun q => ?_, fun q => ⟨p2i_z0 (fun z => (e2.mp z).1 q), by trivial⟩⟩
  have t0 : 0 ≤ Y 14 w := by omega
  have t1 : Y 14 w < 4 := by omega
  have hp : zpop ((L 11 s ||| zbit w) &&& L 8 (Y 14 w)) = yTw Y w 3 s := by
    rw [zpop_s (zBs_and (zBs_or ((kRp_bd h.2.2).1 s s0 s1) (zBs_bit hw.1 (by have := yW_lt hi hw; omega))) ((kRp_tk h.2.2).1 _ t0 t1)) h8.1 (by omega) (fun k z => z.2.1.2)]
    refine ysum_congr (fun k a b => ?_)
    rw [yCw_3]
    by_cases z : k = w ∨ yIn Y k s
    · rw [pif_t z]
      refine p2i_congr ⟨fun z2 => ⟨q, z2.2.2⟩, fun z2 => ⟨?_, ⟨a, b⟩, z2.2⟩⟩
      rcases z with z | z
      · exact Or.inr z
      · exact Or.inl ⟨⟨a, b⟩, z⟩
    · rw [pif_f z]
      refine p2i_f (fun z2 => z ?_)
      rcases z2.1 with z3 | z3
      · exact Or.inr z3.2
      · exact Or.inl z3
  refine ⟨s0, by omega, t0, by omega, zu (k_bitCount _) ?_⟩
  simp only [kk0 h.1, kk1 h.1, kk2 h.1, kk3 h.1, kk4 h.1, kk5 h.1, kk6 h.1, kk7 h.1, kk8 h.1, kk9 h.1, kk10 h.1, kk11 h.1, kk12 h.1, kk13 h.1, kk14 h.1, kk15 h.1, kk16 h.1, kk17 h.1, kk18 h.1, kk19 h.1, kk20 h.1, kk21 h.1, kr0_0 h.1, kr0_1 h.1, kr0_2 h.1, kr0_3 h.1, kr0_4 h.1, kr1_0 h.1, kr1_1 h.1, kr1_2 h.1, kr5_0 h.1, kr5_1 h.1, kr5_2 h.1, kr5_3 h.1, kr10_0 h.1, kr10_1 h.1, kr17_0 h.1, kr17_1 h.1, kr17_2 h.1, kr17_3 h.1, kr17_4 h.1, kr20_0 h.1, kr20_1 h.1, kr20_2 h.1, kr20_3 h.1, ki1 h.2.1, ki2 h.2.1, ki3 h.2.1, ki4 h.2.1, ki5 h.2.1, ki7 h.2.1, kl8 h.2.1, kl9 h.2.1, ki10 h.2.1, kl11 h.2.1, ki13 h.2.1, ki14 h.2.1, ki15 h.2.1, ki16 h.2.1, ki17 h.2.1, ki18 h.2.1, ki19 h.2.1, ki20 h.2.1, ki21 h.2.1, Option.some.injEq, exists_eq_left', true_and, rs13 h.2.2, rs14 h.2.2, rs54 h.2.2, rs102 h.2.2, rg2 h.2.2, rg18 h.2.2, rg19 h.2.2, kwR h.1 hw.1 hw.2, kwK h.1 hw.1 hw.2, kwi0 h.2.1 hw.1 hw.2, kwl1 h.2.1 hw.1 hw.2, kwi2 h.2.1 hw.1 hw.2, kwi3 h.2.1 hw.1 hw.2, kwi4 h.2.1 hw.1 hw.2, kwi5 h.2.1 hw.1 hw.2, kwi6 h.2.1 hw.1 hw.2, kwi7 h.2.1 hw.1 hw.2, kwi8 h.2.1 hw.1 hw.2, kwi9 h.2.1 hw.1 hw.2, kwi10 h.2.1 hw.1 hw.2, kwi11 h.2.1 hw.1 hw.2, kwl12 h.2.1 hw.1 hw.2, kwl13 h.2.1 hw.1 hw.2, kwl14 h.2.1 hw.1 hw.2, kwl15 h.2.1 hw.1 hw.2, rw22 h.2.2 hw, rw23 h.2.2 hw, rw24 h.2.2 hw, rw25 h.2.2 hw, rw26 h.2.2 hw, rw27 h.2.2 hw, rw28 h.2.2 hw, rw29 h.2.2 hw, rw30 h.2.2 hw, rw31 h.2.2 hw, rw32 h.2.2 hw, rw33 h.2.2 hw, hp]
  refine ⟨t0, by omega, fun q2 => ⟨p2i_z0 (fun z => ?_), by trivial⟩, fun q2 => ⟨p2i_z1 (e2.mpr ⟨q, q2⟩), by trivial⟩⟩
  have := (e2.mp z).2
  omega
theorem k_lacksRoom (h : kR x wa M V L Y) (hi : yInv c Y) {w s : Int} (hw : yWk Y w) (s0 : 0 ≤ s) (s1 : s < 400) : zCi E mX4_lacksRoom (d + 2) 0 0 [vR (some (x + 17)), vR (some (wa w)), vI s] M (fun r M' => r = p2i (yLk Y w 4 s) ∧ M' = M) := by
  refine sX4_lacksRoom _ _ _ (fun X hr => vX4_lacksRoom_0 hr _ _ _ ?_)
  have h8 := yI_n hi
  have hsp := yI_sp hi
  have hb := yI_w hi hw.1 hw.2
  have e2 : yLk Y w 4 s ↔ Y 2 (Y 12 w) < yTw Y w 4 s := by
    unfold yLk
    exact ⟨fun z => by rcases z with z | z | z | z <;> omega, fun z => Or.inr (Or.inr (Or.inl ⟨rfl, z⟩))⟩
  have t0 : 0 ≤ Y 12 w := by omega
  have t1 : Y 12 w < 20 := by omega
  have hp : zpop ((L 11 s ||| zbit w) &&& L 9 (Y 12 w)) = yTw Y w 4 s := by
    rw [zpop_s (zBs_and (zBs_or ((kRp_bd h.2.2).1 s s0 s1) (zBs_bit hw.1 (by have := yW_lt hi hw; omega))) ((kRp_tk h.2.2).2 _ t0 t1)) h8.1 (by omega) (fun k z => z.2.1.2)]
    refine ysum_congr (fun k a b => ?_)
    rw [yCw_4]
    by_cases z : k = w ∨ yIn Y k s
    · rw [pif_t z]
      refine p2i_congr ⟨fun z2 => z2.2.2, fun z2 => ⟨?_, ⟨a, b⟩, z2⟩⟩
      rcases z with z | z
      · exact Or.inr z
      · exact Or.inl ⟨⟨a, b⟩, z⟩
    · rw [pif_f z]
      refine p2i_f (fun z2 => z ?_)
      rcases z2.1 with z3 | z3
      · exact Or.inr z3.2
      · exact Or.inl z3
  simp only [kk0 h.1, kk1 h.1, kk2 h.1, kk3 h.1, kk4 h.1, kk5 h.1, kk6 h.1, kk7 h.1, kk8 h.1, kk9 h.1, kk10 h.1, kk11 h.1, kk12 h.1, kk13 h.1, kk14 h.1, kk15 h.1, kk16 h.1, kk17 h.1, kk18 h.1, kk19 h.1, kk20 h.1, kk21 h.1, kr0_0 h.1, kr0_1 h.1, kr0_2 h.1, kr0_3 h.1, kr0_4 h.1, kr1_0 h.1, kr1_1 h.1, kr1_2 h.1, kr5_0 h.1, kr5_1 h.1, kr5_2 h.1, kr5_3 h.1, kr10_0 h.1, kr10_1 h.1, kr17_0 h.1, kr17_1 h.1, kr17_2 h.1, kr17_3 h.1, kr17_4 h.1, kr20_0 h.1, kr20_1 h.1, kr20_2 h.1, kr20_3 h.1, ki1 h.2.1, ki2 h.2.1, ki3 h.2.1, ki4 h.2.1, ki5 h.2.1, ki7 h.2.1, kl8 h.2.1, kl9 h.2.1, ki10 h.2.1, kl11 h.2.1, ki13 h.2.1, ki14 h.2.1, ki15 h.2.1, ki16 h.2.1, ki17 h.2.1, ki18 h.2.1, ki19 h.2.1, ki20 h.2.1, ki21 h.2.1, Option.some.injEq, exists_eq_left', true_and, rs13 h.2.2, rs14 h.2.2, rs54 h.2.2, rs102 h.2.2, rg2 h.2.2, rg18 h.2.2, rg19 h.2.2, kwR h.1 hw.1 hw.2, kwK h.1 hw.1 hw.2, kwi0 h.2.1 hw.1 hw.2, kwl1 h.2.1 hw.1 hw.2, kwi2 h.2.1 hw.1 hw.2, kwi3 h.2.1 hw.1 hw.2, kwi4 h.2.1 hw.1 hw.2, kwi5 h.2.1 hw.1 hw.2, kwi6 h.2.1 hw.1 hw.2, kwi7 h.2.1 hw.1 hw.2, kwi8 h.2.1 hw.1 hw.2, kwi9 h.2.1 hw.1 hw.2, kwi10 h.2.1 hw.1 hw.2, kwi11 h.2.1 hw.1 hw.2, kwl12 h.2.1 hw.1 hw.2, kwl13 h.2.1 hw.1 hw.2, kwl14 h.2.1 hw.1 hw.2, kwl15 h.2.1 hw.1 hw.2, rw22 h.2.2 hw, rw23 h.2.2 hw, rw24 h.2.2 hw, rw25 h.2.2 hw, rw26 h.2.2 hw, rw27 h.2.2 hw, rw28 h.2.2 hw, rw29 h.2.2 hw, rw30 h.2.2 hw, rw31 h.2.2 hw, rw32 h.2.2 hw, rw33 h.2.2 hw]
  refine ⟨s0, by omega, t0, by omega, zu (k_bitCount _) ?_⟩
  simp only [kk0 h.1, kk1 h.1, kk2 h.1, kk3 h.1, kk4 h.1, kk5 h.1, kk6 h.1, kk7 h.1, kk8 h.1, kk9 h.1, kk10 h.1, kk11 h.1, kk12 h.1, kk13 h.1, kk14 h.1, kk15 h.1, kk16 h.1, kk17 h.1, kk18 h.1, kk19 h.1, kk20 h.1, kk21 h.1, kr0_0 h.1, kr0_1 h.1, kr0_2 h.1, kr0_3 h.1, kr0_4 h.1, kr1_0 h.1, kr1_1 h.1, kr1_2 h.1, kr5_0 h.1, kr5_1 h.1, kr5_2 h.1, kr5_3 h.1, kr10_0 h.1, kr10_1 h.1, kr17_0 h.1, kr17_1 h.1, kr17_2 h.1, kr17_3 h.1, kr17_4 h.1, kr20_0 h.1, kr20_1 h.1, kr20_2 h.1, kr20_3 h.1, ki1 h.2.1, ki2 h.2.1, ki3 h.2.1, ki4 h.2.1, ki5 h.2.1, ki7 h.2.1, kl8 h.2.1, kl9 h.2.1, ki10 h.2.1, kl11 h.2.1, ki13 h.2.1, ki14 h.2.1, ki15 h.2.1, ki16 h.2.1, ki17 h.2.1, ki18 h.2.1, ki19 h.2.1, ki20 h.2.1, ki21 h.2.1, Option.some.injEq, exists_eq_left', true_and, rs13 h.2.2, rs14 h.2.2, rs54 h.2.2, rs102 h.2.2, rg2 h.2.2, rg18 h.2.2, rg19 h.2.2, kwR h.1 hw.1 hw.2, kwK h.1 hw.1 hw.2, kwi0 h.2.1 hw.1 hw.2, kwl1 h.2.1 hw.1 hw.2, kwi2 h.2.1 hw.1 hw.2, kwi3 h.2.1 hw.1 hw.2, kwi4 h.2.1 hw.1 hw.2, kwi5 h.2.1 hw.1 hw.2, kwi6 h.2.1 hw.1 hw.2, kwi7 h.2.1 hw.1 hw.2, kwi8 h.2.1 hw.1 hw.2, kwi9 h.2.1 hw.1 hw.2, kwi10 h.2.1 hw.1 hw.2, kwi11 h.2.1 hw.1 hw.2, kwl12 h.2.1 hw.1 hw.2, kwl13 h.2.1 hw.1 hw.2, kwl14 h.2.1 hw.1 hw.2, kwl15 h.2.1 hw.1 hw.2, rw22 h.2.2 hw, rw23 h.2.2 hw, rw24 h.2.2 hw, rw25 h.2.2 hw, rw26 h.2.2 hw, rw27 h.2.2 hw, rw28 h.2.2 hw, rw29 h.2.2 hw, rw30 h.2.2 hw, rw31 h.2.2 hw, rw32 h.2.2 hw, rw33 h.2.2 hw, hp]
  refine ⟨t0, by omega, fun q2 => ⟨p2i_z0 (fun z => ?_), by trivial⟩, fun q2 => ⟨p2i_z1 (e2.mpr q2), by trivial⟩⟩
  have := e2.mp z
  omega
theorem k_meetsFoe (h : kR x wa M V L Y) (hi : yInv c Y) {w s : Int} (hw : yWk Y w) (s0 : 0 ≤ s) (s1 : s < 400) : zCi E mX4_meetsFoe (d + 1) 0 0 [vR (some (x + 17)), vR (some (wa w)), vI s] M (fun r M' => r = p2i (yLk Y w 5 s) ∧ M' = M) := by
  refine sX4_meetsFoe _ _ _ (fun X hr => vX4_meetsFoe_0 hr _ _ _ ?_)
  have h8 := yI_n hi
  have e2 : yLk Y w 5 s ↔ 0 < yTw Y w 5 s := by
    unfold yLk
    exact ⟨fun z => by rcases z with z | z | z | z <;> omega, fun z => Or.inr (Or.inr (Or.inr ⟨by omega, by omega, by omega, z⟩))⟩
  have hn : ∀ k, yCw Y w 5 s k = pif (k = w ∨ yIn Y k s) (p2i (k ≠ w ∧ yBar Y k w)) 0 := yCw_5 Y w s
  have e3 : yLk Y w 5 s ↔ L 11 s &&& L 37 w ≠ 0 := by
    rw [e2, Ne, zBs_z (zBs_and ((kRp_bd h.2.2).1 s s0 s1) (kRp_fo h.2.2 w hw))]
    unfold yTw
    rw [ysum_pos h8.1 (fun k _ _ => by
      rw [hn]
      by_cases z : k = w ∨ yIn Y k s
      · rw [pif_t z]; rcases p2i_01 (k ≠ w ∧ yBar Y k w) with e | e <;> rw [e] <;> omega
      · rw [pif_f z]; omega)]
    constructor
    · rintro ⟨k, a, b, q⟩ z
      rw [hn] at q
      by_cases z1 : k = w ∨ yIn Y k s
      · rw [pif_t z1] at q
        have q : k ≠ w ∧ yBar Y k w := Classical.byContradiction (fun z2 => by rw [p2i_f z2] at q; omega)
        exact z k a (by omega) ⟨⟨⟨a, b⟩, z1.resolve_left q.1⟩, ⟨a, b⟩, q⟩
      · rw [pif_f z1] at q
        omega
    · intro z
      apply Classical.byContradiction
      intro z2
      refine z (fun k a _ z3 => z2 ⟨k, a, z3.1.1.2, ?_⟩)
      rw [hn, pif_t (Or.inr z3.1.2), p2i_t z3.2.2]
      omega
  simp only [kk0 h.1, kk1 h.1, kk2 h.1, kk3 h.1, kk4 h.1, kk5 h.1, kk6 h.1, kk7 h.1, kk8 h.1, kk9 h.1, kk10 h.1, kk11 h.1, kk12 h.1, kk13 h.1, kk14 h.1, kk15 h.1, kk16 h.1, kk17 h.1, kk18 h.1, kk19 h.1, kk20 h.1, kk21 h.1, kr0_0 h.1, kr0_1 h.1, kr0_2 h.1, kr0_3 h.1, kr0_4 h.1, kr1_0 h.1, kr1_1 h.1, kr1_2 h.1, kr5_0 h.1, kr5_1 h.1, kr5_2 h.1, kr5_3 h.1, kr10_0 h.1, kr10_1 h.1, kr17_0 h.1, kr17_1 h.1, kr17_2 h.1, kr17_3 h.1, kr17_4 h.1, kr20_0 h.1, kr20_1 h.1, kr20_2 h.1, kr20_3 h.1, ki1 h.2.1, ki2 h.2.1, ki3 h.2.1, ki4 h.2.1, ki5 h.2.1, ki7 h.2.1, kl8 h.2.1, kl9 h.2.1, ki10 h.2.1, kl11 h.2.1, ki13 h.2.1, ki14 h.2.1, ki15 h.2.1, ki16 h.2.1, ki17 h.2.1, ki18 h.2.1, ki19 h.2.1, ki20 h.2.1, ki21 h.2.1, Option.some.injEq, exists_eq_left', true_and, rs13 h.2.2, rs14 h.2.2, rs54 h.2.2, rs102 h.2.2, rg2 h.2.2, rg18 h.2.2, rg19 h.2.2, kwR h.1 hw.1 hw.2, kwK h.1 hw.1 hw.2, kwi0 h.2.1 hw.1 hw.2, kwl1 h.2.1 hw.1 hw.2, kwi2 h.2.1 hw.1 hw.2, kwi3 h.2.1 hw.1 hw.2, kwi4 h.2.1 hw.1 hw.2, kwi5 h.2.1 hw.1 hw.2, kwi6 h.2.1 hw.1 hw.2, kwi7 h.2.1 hw.1 hw.2, kwi8 h.2.1 hw.1 hw.2, kwi9 h.2.1 hw.1 hw.2, kwi10 h.2.1 hw.1 hw.2, kwi11 h.2.1 hw.1 hw.2, kwl12 h.2.1 hw.1 hw.2, kwl13 h.2.1 hw.1 hw.2, kwl14 h.2.1 hw.1 hw.2, kwl15 h.2.1 hw.1 hw.2, rw22 h.2.2 hw, rw23 h.2.2 hw, rw24 h.2.2 hw, rw25 h.2.2 hw, rw26 h.2.2 hw, rw27 h.2.2 hw, rw28 h.2.2 hw, rw29 h.2.2 hw, rw30 h.2.2 hw, rw31 h.2.2 hw, rw32 h.2.2 hw, rw33 h.2.2 hw, cmp0, ne_eq]
  exact ⟨s0, by omega, fun q => ⟨p2i_z0 (fun z => e3.mp z q), by trivial⟩, fun q => ⟨p2i_z1 (e3.mpr q), by trivial⟩⟩
def yFree (Y : yS) (w s : Int) : Prop := ¬ yLk Y w 2 s ∧ ¬ yLk Y w 3 s ∧ ¬ yLk Y w 4 s ∧ ¬ yLk Y w 5 s
theorem k_isFree (h : kR x wa M V L Y) (hi : yInv c Y) {w s : Int} (hw : yWk Y w) (s0 : 0 ≤ s) (s1 : s < 400) : zCi E mX4_isFree (d + 3) 0 0 [vR (some (x + 17)), vR (some (wa w)), vI s] M (fun r M' => r = p2i (yFree Y w s) ∧ M' = M) := by
  refine sX4_isFree _ _ _ (fun X hr => vX4_isFree_0 hr _ _ _ ?_)
  refine ⟨kk17 h.1, zu (k_lacksHands h hi hw s0 s1) ⟨fun q => ⟨p2i_z0 (fun z => z.1 (p2i_n0.mp q)), rfl⟩, fun q1 => ⟨kk17 h.1, zu (k_lacksGood h hi hw s0 s1) ⟨fun q => ⟨p2i_z0 (fun z => z.2.1 (p2i_n0.mp q)), rfl⟩, fun q2 => ⟨kk17 h.1, zu (k_lacksRoom h hi hw s0 s1) ⟨fun q => ⟨p2i_z0 (fun z => z.2.2.1 (p2i_n0.mp q)), rfl⟩, fun q3 => ⟨kk17 h.1, zu (k_meetsFoe h hi hw s0 s1) ⟨fun q => ⟨p2i_z0 (fun z => z.2.2.2 (p2i_n0.mp q)), rfl⟩, fun q4 => ⟨p2i_z1 ⟨p2i_0.mp q1, p2i_0.mp q2, p2i_0.mp q3, p2i_0.mp q4⟩, rfl⟩⟩⟩⟩⟩⟩⟩⟩⟩
end C6
