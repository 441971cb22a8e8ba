/-! ===== the class: more, fail, plan ===== -/
theorem yI_failK {c : Int} {Y : yS} (hi : yInv c Y) (hc : c < 600) (t k : Int) : yInv (c + 1) (failK Y t k) := by
  have hc1 := hi.1
  have o : ∀ f, f ≠ 15 → f ≠ 16 → ∀ i, failK Y t k f i = Y f i := fun f h1 h2 i => failK_ot h1 h2
  have o15 : ∀ w, failK Y t k 15 w = -1 ∨ failK Y t k 15 w = Y 15 w := fun w => by
    unfold failK
    by_cases z : (15 : Nat) = 15 ∧ 0 ≤ w ∧ w < k ∧ yOpn Y t w
    · rw [pif_t z]; exact Or.inl rfl
    · rw [pif_f z, pif_f (fun z2 => by have := z2.1; omega)]; exact Or.inr rfl
  have o16 : ∀ w, failK Y t k 16 w = Y 16 w + 1 ∨ failK Y t k 16 w = Y 16 w := fun w => by
    unfold failK
    rw [pif_f (fun z2 => by have := z2.1; omega)]
    by_cases z : (16 : Nat) = 16 ∧ 0 ≤ w ∧ w < k ∧ yOpn Y t w
    · rw [pif_t z]; exact Or.inl rfl
    · rw [pif_f z]; exact Or.inr rfl
  generalize failK Y t k = Y' at o o15 o16
  unfold yInv at hi ⊢
  simp only [o 0 (by decide) (by decide), o 1 (by decide) (by decide), o 2 (by decide) (by decide), o 3 (by decide) (by decide), o 4 (by decide) (by decide), o 5 (by decide) (by decide), o 6 (by decide) (by decide), o 7 (by decide) (by decide), o 8 (by decide) (by decide), o 9 (by decide) (by decide), o 10 (by decide) (by decide), o 11 (by decide) (by decide), o 12 (by decide) (by decide), o 13 (by decide) (by decide), o 14 (by decide) (by decide), o 17 (by decide) (by decide), o 18 (by decide) (by decide)]
  refine ⟨by omega, hi.2.1, hi.2.2.1, by have := hi.2.2.2.1; omega, hi.2.2.2.2.1, hi.2.2.2.2.2.1, hi.2.2.2.2.2.2.1, hi.2.2.2.2.2.2.2.1, hi.2.2.2.2.2.2.2.2.1, hi.2.2.2.2.2.2.2.2.2.1, fun w a b => ?_, hi.2.2.2.2.2.2.2.2.2.2.2⟩
  have hv := hi.2.2.2.2.2.2.2.2.2.2.1 w a b
  refine ⟨hv.1, hv.2.1, hv.2.2.1, hv.2.2.2.1, hv.2.2.2.2.1, hv.2.2.2.2.2.1, ?_, ?_⟩
  · rcases o15 w with e | e
    · exact Or.inl e
    · rw [e]; exact hv.2.2.2.2.2.2.1
  · rcases o16 w with e | e <;> rw [e] <;> omega
/-- the times a work was opened change, all else stands -/
theorem kRp_16 {V Y : yS} {L : yL} {k v : Int} (h : kRp V L Y) : kRp (yup V 31 k v) L (yup Y 16 k v) := by
  have hv : ∀ o, o ≠ 31 → ∀ i, yup V 31 k v o i = V o i := fun o ho i => yup_o ho i
  have hw : rW (yup V 31 k v) L (yup Y 16 k v) := fun a ha => by
    have ha : yWk Y a := ha
    have h1 := kRp_w h a ha
    refine ⟨h1.1, h1.2.1, h1.2.2.1, h1.2.2.2.1, h1.2.2.2.2.1, h1.2.2.2.2.2.1, h1.2.2.2.2.2.2.1, h1.2.2.2.2.2.2.2.1, h1.2.2.2.2.2.2.2.2.1, ?_⟩
    by_cases e : a = k
    · rw [e, yup_s, yup_s]
    · rw [yup_n _ _ _ _ (fun z => e z.2), yup_n _ _ _ _ (fun z => e z.2)]; exact h1.2.2.2.2.2.2.2.2.2
  exact ⟨h.1, h.2.1, rNr_c (kRp_nr h) (fun _ => rfl) (fun _ => rfl), rBr_c (kRp_br h) (fun _ => rfl) (fun _ => rfl), hw, rNd_c (kRp_nd h) (fun _ => rfl) (fun _ => rfl) (fun _ => rfl), rUn_c (kRp_un h) (fun _ => rfl) (fun _ => rfl) (fun _ => rfl), rTl_c (kRp_tl h) (fun _ => rfl) (fun _ => rfl) (fun _ => rfl), rFo_c (kRp_fo h) (fun _ => rfl) (fun _ => rfl) (fun _ => rfl) (fun _ => rfl) (fun _ => rfl) (fun _ => rfl), rEt_c (kRp_et h) (fun _ => rfl) (fun _ => rfl) rfl (fun _ => rfl) (fun _ => rfl) (fun _ => rfl), rTk_c (kRp_tk h) (fun _ => rfl) (fun _ => rfl) (fun _ => rfl) (fun _ => rfl) (fun _ => rfl), rBd_c (kRp_bd h) (fun _ => rfl) (fun t ht i => hv (13 + t) (by omega) i) (fun _ => rfl) (fun _ => rfl) (fun _ => rfl) (fun _ => rfl) (fun _ => rfl)⟩
section C16
variable {E : zE} {d x : Nat} {wa : Int → Nat} {M : zM} {V Y : yS} {L : yL} {c : Int}
theorem k_lengthen (h : kR x wa M V L Y) (hj : yJ c Y) {w n : Int} (ok : moreOk Y w n) : zCv E mX0_lengthen (d + 3) 0 0 [vR (some (x + 10)), vR (some (wa w)), vI n] M (fun M' => ∃ V1 L1, kPo x wa (Y 8 0) M M' V1 L1 ∧ (∀ o, o ≠ 29 → o ≠ 30 → (o < 13 ∨ 16 < o) → ∀ i, V1 o i = V o i) ∧ (∀ o, o ≠ 11 → ∀ i, L1 o i = L o i) ∧ rW V1 L1 (yup Y 9 w (Y 9 w + n)) ∧ rBd V1 L1 (yup Y 9 w (Y 9 w + n))) := by
  refine sX0_lengthen _ _ _ (fun X hr => vX0_lengthen_0 hr _ _ _ ?_)
  have hi := hj.1
  obtain ⟨hw, q2, q3, q4, q5⟩ := ok
  have hl := yI_w hi hw.1 hw.2
  have hj1 : yJ c (yup Y 15 w (-1)) := yJ_15 hj (Or.inl rfl)
  have np : ¬ yPut (yup Y 15 w (-1)) w := fun z => z (yup_s _ _ _ _)
  have e9 : yup Y 15 w (-1) 9 w = Y 9 w := yup_o (by omega) w
  have hj2 := yJ_more1 hj1 (w := w) (n := n) ⟨hw, fun z => np z.1, q3, by rw [e9]; exact q4, fun z => absurd z np⟩
  rw [e9] at hj2
  simp only [kk0 h.1, kk1 h.1, kk2 h.1, kk3 h.1, kk4 h.1, kk5 h.1, kk6 h.1, kk7 h.1, kk8 h.1, kk9 h.1, kk10 h.1, kk11 h.1, kk12 h.1, kk13 h.1, kk14 h.1, kk15 h.1, kk16 h.1, kk17 h.1, kk18 h.1, kk19 h.1, kk20 h.1, kk21 h.1, kr0_0 h.1, kr0_1 h.1, kr0_2 h.1, kr0_3 h.1, kr0_4 h.1, kr1_0 h.1, kr1_1 h.1, kr1_2 h.1, kr5_0 h.1, kr5_1 h.1, kr5_2 h.1, kr5_3 h.1, kr10_0 h.1, kr10_1 h.1, kr17_0 h.1, kr17_1 h.1, kr17_2 h.1, kr17_3 h.1, kr17_4 h.1, kr20_0 h.1, kr20_1 h.1, kr20_2 h.1, kr20_3 h.1, ki1 h.2.1, ki2 h.2.1, ki3 h.2.1, ki4 h.2.1, ki5 h.2.1, ki7 h.2.1, kl8 h.2.1, kl9 h.2.1, ki10 h.2.1, kl11 h.2.1, ki13 h.2.1, ki14 h.2.1, ki15 h.2.1, ki16 h.2.1, ki17 h.2.1, ki18 h.2.1, ki19 h.2.1, ki20 h.2.1, ki21 h.2.1, Option.some.injEq, exists_eq_left', true_and, rs13 h.2.2, rs14 h.2.2, rs54 h.2.2, rs102 h.2.2, rg2 h.2.2, rg18 h.2.2, rg19 h.2.2, kwR h.1 hw.1 hw.2, kwK h.1 hw.1 hw.2, kwi0 h.2.1 hw.1 hw.2, kwl1 h.2.1 hw.1 hw.2, kwi2 h.2.1 hw.1 hw.2, kwi3 h.2.1 hw.1 hw.2, kwi4 h.2.1 hw.1 hw.2, kwi5 h.2.1 hw.1 hw.2, kwi6 h.2.1 hw.1 hw.2, kwi7 h.2.1 hw.1 hw.2, kwi8 h.2.1 hw.1 hw.2, kwi9 h.2.1 hw.1 hw.2, kwi10 h.2.1 hw.1 hw.2, kwi11 h.2.1 hw.1 hw.2, kwl12 h.2.1 hw.1 hw.2, kwl13 h.2.1 hw.1 hw.2, kwl14 h.2.1 hw.1 hw.2, kwl15 h.2.1 hw.1 hw.2, rw22 h.2.2 hw, rw23 h.2.2 hw, rw24 h.2.2 hw, rw25 h.2.2 hw, rw26 h.2.2 hw, rw27 h.2.2 hw, rw28 h.2.2 hw, rw29 h.2.2 hw, rw30 h.2.2 hw, rw31 h.2.2 hw, rw32 h.2.2 hw, rw33 h.2.2 hw]
  refine ⟨_, k_lift0 h.1 h.2.1 (kRp_w h.2.2) (kRp_bd h.2.2) hi hw, ?_⟩
  rintro M1 ⟨V1, L1, hp1, hv1, hl1, hw1, hb1⟩
  have v29 : V1 29 w = Y 9 w := (hw1 w hw).2.2.2.2.2.2.2.1
  simp only [kk0 hp1.1, kk1 hp1.1, kk2 hp1.1, kk3 hp1.1, kk4 hp1.1, kk5 hp1.1, kk6 hp1.1, kk7 hp1.1, kk8 hp1.1, kk9 hp1.1, kk10 hp1.1, kk11 hp1.1, kk12 hp1.1, kk13 hp1.1, kk14 hp1.1, kk15 hp1.1, kk16 hp1.1, kk17 hp1.1, kk18 hp1.1, kk19 hp1.1, kk20 hp1.1, kk21 hp1.1, kr0_0 hp1.1, kr0_1 hp1.1, kr0_2 hp1.1, kr0_3 hp1.1, kr0_4 hp1.1, kr1_0 hp1.1, kr1_1 hp1.1, kr1_2 hp1.1, kr5_0 hp1.1, kr5_1 hp1.1, kr5_2 hp1.1, kr5_3 hp1.1, kr10_0 hp1.1, kr10_1 hp1.1, kr17_0 hp1.1, kr17_1 hp1.1, kr17_2 hp1.1, kr17_3 hp1.1, kr17_4 hp1.1, kr20_0 hp1.1, kr20_1 hp1.1, kr20_2 hp1.1, kr20_3 hp1.1, ki1 hp1.2.1, ki2 hp1.2.1, ki3 hp1.2.1, ki4 hp1.2.1, ki5 hp1.2.1, ki7 hp1.2.1, kl8 hp1.2.1, kl9 hp1.2.1, ki10 hp1.2.1, kl11 hp1.2.1, ki13 hp1.2.1, ki14 hp1.2.1, ki15 hp1.2.1, ki16 hp1.2.1, ki17 hp1.2.1, ki18 hp1.2.1, ki19 hp1.2.1, ki20 hp1.2.1, ki21 hp1.2.1, Option.some.injEq, exists_eq_left', true_and, kwR hp1.1 hw.1 hw.2, kwK hp1.1 hw.1 hw.2, kwi0 hp1.2.1 hw.1 hw.2, kwl1 hp1.2.1 hw.1 hw.2, kwi2 hp1.2.1 hw.1 hw.2, kwi3 hp1.2.1 hw.1 hw.2, kwi4 hp1.2.1 hw.1 hw.2, kwi5 hp1.2.1 hw.1 hw.2, kwi6 hp1.2.1 hw.1 hw.2, kwi7 hp1.2.1 hw.1 hw.2, kwi8 hp1.2.1 hw.1 hw.2, kwi9 hp1.2.1 hw.1 hw.2, kwi10 hp1.2.1 hw.1 hw.2, kwi11 hp1.2.1 hw.1 hw.2, kwl12 hp1.2.1 hw.1 hw.2, kwl13 hp1.2.1 hw.1 hw.2, kwl14 hp1.2.1 hw.1 hw.2, kwl15 hp1.2.1 hw.1 hw.2, v29]
  refine ⟨by unfold zin; omega, ?_⟩
  rintro M2 e2
  have hp2 := kPo_wI (f := 7) hp1 e2 rfl rfl (by decide) hw.1 hw.2
  have hw2 : rW (yup V1 (22 + 7) w (Y 9 w + n)) L1 (yup (yup Y 15 w (-1)) 9 w (Y 9 w + n)) := fun a ha => by
    have ha : yWk Y a := ha
    have h1 := hw1 a ha
    refine ⟨h1.1, h1.2.1, h1.2.2.1, h1.2.2.2.1, h1.2.2.2.2.1, h1.2.2.2.2.2.1, h1.2.2.2.2.2.2.1, ?_, h1.2.2.2.2.2.2.2.2⟩
    by_cases e : a = w
    · rw [e, yup_s, yup_s]
    · rw [yup_n _ _ _ _ (fun z => e z.2), yup_n _ _ _ _ (fun z => e z.2)]; exact h1.2.2.2.2.2.2.2.1
  have inn : ∀ m s, yIn (yup (yup Y 15 w (-1)) 9 w (Y 9 w + n)) m s ↔ yIn (yup Y 15 w (-1)) m s := fun m s => by
    unfold yIn yPut yEnd
    rw [yup_o (g := 15) (by omega)]
    by_cases e : m = w
    · rw [e, yup_s]
      exact ⟨fun z => absurd rfl z.1, fun z => absurd rfl z.1⟩
    · rw [yup_n (yup Y 15 w (-1)) 9 w _ (fun z => e z.2)]
  have hb2 : rBd (yup V1 (22 + 7) w (Y 9 w + n)) L1 (yup (yup Y 15 w (-1)) 9 w (Y 9 w + n)) := by
    refine ⟨fun s s0 s1 => zBs_eq (hb1.1 s s0 s1) (fun m _ _ => ?_), fun t s t0 t1 s0 s1 => ?_⟩
    · rw [inn]
      exact Iff.rfl
    · rw [yup_o (by omega), hb1.2 t s t0 t1 s0 s1]
      refine ysum_congr (fun m _ _ => ?_)
      unfold yHd
      rw [yup_o (g := 10) (by omega), yup_o (g := 11) (by omega)]
      refine pif_c ?_
      rw [inn]
      exact Iff.rfl
  refine ⟨fun q => ?_, fun q => ⟨kk10 hp2.1, _, k_lay0 (Y := yup (yup Y 15 w (-1)) 9 w (Y 9 w + n)) hp2.1 hp2.2.1 hw2 hb2 hj2.1 hw ?_ (by omega) ?_, ?_⟩⟩
  · rw [yup_id Y q] at hw2 hb2
    exact ⟨_, L1, hp2, fun o h29 h30 h13 i => by rw [yup_o h29]; exact hv1 o h30 h13 i, hl1, hw2, hb2⟩
  · rw [yup_o (by omega), yup_s]
  · rw [yup_s]
    have := q5 q
    unfold yEnd at this
    omega
  · rintro M3 ⟨V3, L3, hp3, hv3, hl3, hw3, hb3⟩
    have ee : yup (yup (yup Y 15 w (-1)) 9 w (Y 9 w + n)) 15 w (Y 15 w) = yup Y 9 w (Y 9 w + n) := by
      rw [yupc Y (show (15 : Nat) ≠ 9 by omega), yup2, yup_id]
      exact yup_o (by omega) w
    rw [ee] at hw3 hb3
    exact ⟨V3, L3, kPo_tr hp2 hp3, fun o h29 h30 h13 i => by rw [hv3 o h30 h13, yup_o h29]; exact hv1 o h30 h13 i, fun o h11 i => by rw [hl3 o h11]; exact hl1 o h11 i, hw3, hb3⟩
theorem k_more (h : kR x wa M V L Y) (hj : yJ c Y) (w n : Int) : zCi E mX6_more (d + 4) 0 0 [vR (some x), vI w, vI n] M (fun r M' => r = moreR Y w n ∧ kT x wa M M' (moreY Y w n)) := by
  refine sX6_more _ _ _ (fun X hr => vX6_more_0 hr _ _ _ ?_)
  have hi := hj.1
  have no : ¬ moreOk Y w n → (-1 : Int) = moreR Y w n ∧ kT x wa M M (moreY Y w n) := fun q => ⟨by unfold moreR; rw [pif_f q], by unfold moreY; rw [pif_f q]; exact kT_rf h⟩
  simp only [kk0 h.1, kk1 h.1, kk2 h.1, kk3 h.1, kk4 h.1, kk5 h.1, kk6 h.1, kk7 h.1, kk8 h.1, kk9 h.1, kk10 h.1, kk11 h.1, kk12 h.1, kk13 h.1, kk14 h.1, kk15 h.1, kk16 h.1, kk17 h.1, kk18 h.1, kk19 h.1, kk20 h.1, kk21 h.1, kr0_0 h.1, kr0_1 h.1, kr0_2 h.1, kr0_3 h.1, kr0_4 h.1, kr1_0 h.1, kr1_1 h.1, kr1_2 h.1, kr5_0 h.1, kr5_1 h.1, kr5_2 h.1, kr5_3 h.1, kr10_0 h.1, kr10_1 h.1, kr17_0 h.1, kr17_1 h.1, kr17_2 h.1, kr17_3 h.1, kr17_4 h.1, kr20_0 h.1, kr20_1 h.1, kr20_2 h.1, kr20_3 h.1, ki1 h.2.1, ki2 h.2.1, ki3 h.2.1, ki4 h.2.1, ki5 h.2.1, ki7 h.2.1, kl8 h.2.1, kl9 h.2.1, ki10 h.2.1, kl11 h.2.1, ki13 h.2.1, ki14 h.2.1, ki15 h.2.1, ki16 h.2.1, ki17 h.2.1, ki18 h.2.1, ki19 h.2.1, ki20 h.2.1, ki21 h.2.1, Option.some.injEq, exists_eq_left', true_and, rs13 h.2.2, rs14 h.2.2, rs54 h.2.2, rs102 h.2.2, rg2 h.2.2, rg18 h.2.2, rg19 h.2.2]
  refine zur (k_find h hi w) ?_
  by_cases hw : yWk Y w
  · rw [pif_t hw]
    have hl := yI_w hi hw.1 hw.2
    refine ⟨fun z => (by cases z), fun _ => ?_⟩
    simp only [kk0 h.1, kk1 h.1, kk2 h.1, kk3 h.1, kk4 h.1, kk5 h.1, kk6 h.1, kk7 h.1, kk8 h.1, kk9 h.1, kk10 h.1, kk11 h.1, kk12 h.1, kk13 h.1, kk14 h.1, kk15 h.1, kk16 h.1, kk17 h.1, kk18 h.1, kk19 h.1, kk20 h.1, kk21 h.1, kr0_0 h.1, kr0_1 h.1, kr0_2 h.1, kr0_3 h.1, kr0_4 h.1, kr1_0 h.1, kr1_1 h.1, kr1_2 h.1, kr5_0 h.1, kr5_1 h.1, kr5_2 h.1, kr5_3 h.1, kr10_0 h.1, kr10_1 h.1, kr17_0 h.1, kr17_1 h.1, kr17_2 h.1, kr17_3 h.1, kr17_4 h.1, kr20_0 h.1, kr20_1 h.1, kr20_2 h.1, kr20_3 h.1, ki1 h.2.1, ki2 h.2.1, ki3 h.2.1, ki4 h.2.1, ki5 h.2.1, ki7 h.2.1, kl8 h.2.1, kl9 h.2.1, ki10 h.2.1, kl11 h.2.1, ki13 h.2.1, ki14 h.2.1, ki15 h.2.1, ki16 h.2.1, ki17 h.2.1, ki18 h.2.1, ki19 h.2.1, ki20 h.2.1, ki21 h.2.1, Option.some.injEq, exists_eq_left', true_and, rs13 h.2.2, rs14 h.2.2, rs54 h.2.2, rs102 h.2.2, rg2 h.2.2, rg18 h.2.2, rg19 h.2.2, kwR h.1 hw.1 hw.2, kwK h.1 hw.1 hw.2, kwi0 h.2.1 hw.1 hw.2, kwl1 h.2.1 hw.1 hw.2, kwi2 h.2.1 hw.1 hw.2, kwi3 h.2.1 hw.1 hw.2, kwi4 h.2.1 hw.1 hw.2, kwi5 h.2.1 hw.1 hw.2, kwi6 h.2.1 hw.1 hw.2, kwi7 h.2.1 hw.1 hw.2, kwi8 h.2.1 hw.1 hw.2, kwi9 h.2.1 hw.1 hw.2, kwi10 h.2.1 hw.1 hw.2, kwi11 h.2.1 hw.1 hw.2, kwl12 h.2.1 hw.1 hw.2, kwl13 h.2.1 hw.1 hw.2, kwl14 h.2.1 hw.1 hw.2, kwl15 h.2.1 hw.1 hw.2, rw22 h.2.2 hw, rw23 h.2.2 hw, rw24 h.2.2 hw, rw25 h.2.2 hw, rw26 h.2.2 hw, rw27 h.2.2 hw, rw28 h.2.2 hw, rw29 h.2.2 hw, rw30 h.2.2 hw, rw31 h.2.2 hw, rw32 h.2.2 hw, rw33 h.2.2 hw]
    refine zu (k_isDone (kwK h.1 hw.1 hw.2) _ (by simp only [kwR h.1 hw.1 hw.2, kwK h.1 hw.1 hw.2, kwi0 h.2.1 hw.1 hw.2, kwl1 h.2.1 hw.1 hw.2, kwi2 h.2.1 hw.1 hw.2, kwi3 h.2.1 hw.1 hw.2, kwi4 h.2.1 hw.1 hw.2, kwi5 h.2.1 hw.1 hw.2, kwi6 h.2.1 hw.1 hw.2, kwi7 h.2.1 hw.1 hw.2, kwi8 h.2.1 hw.1 hw.2, kwi9 h.2.1 hw.1 hw.2, kwi10 h.2.1 hw.1 hw.2, kwi11 h.2.1 hw.1 hw.2, kwl12 h.2.1 hw.1 hw.2, kwl13 h.2.1 hw.1 hw.2, kwl14 h.2.1 hw.1 hw.2, kwl15 h.2.1 hw.1 hw.2, rw22 h.2.2 hw, rw23 h.2.2 hw, rw24 h.2.2 hw, rw25 h.2.2 hw, rw26 h.2.2 hw, rw27 h.2.2 hw, rw28 h.2.2 hw, rw29 h.2.2 hw, rw30 h.2.2 hw, rw31 h.2.2 hw, rw32 h.2.2 hw, rw33 h.2.2 hw]; exact yB_b hi hw)) ?_
    simp only [kk0 h.1, kk1 h.1, kk2 h.1, kk3 h.1, kk4 h.1, kk5 h.1, kk6 h.1, kk7 h.1, kk8 h.1, kk9 h.1, kk10 h.1, kk11 h.1, kk12 h.1, kk13 h.1, kk14 h.1, kk15 h.1, kk16 h.1, kk17 h.1, kk18 h.1, kk19 h.1, kk20 h.1, kk21 h.1, kr0_0 h.1, kr0_1 h.1, kr0_2 h.1, kr0_3 h.1, kr0_4 h.1, kr1_0 h.1, kr1_1 h.1, kr1_2 h.1, kr5_0 h.1, kr5_1 h.1, kr5_2 h.1, kr5_3 h.1, kr10_0 h.1, kr10_1 h.1, kr17_0 h.1, kr17_1 h.1, kr17_2 h.1, kr17_3 h.1, kr17_4 h.1, kr20_0 h.1, kr20_1 h.1, kr20_2 h.1, kr20_3 h.1, ki1 h.2.1, ki2 h.2.1, ki3 h.2.1, ki4 h.2.1, ki5 h.2.1, ki7 h.2.1, kl8 h.2.1, kl9 h.2.1, ki10 h.2.1, kl11 h.2.1, ki13 h.2.1, ki14 h.2.1, ki15 h.2.1, ki16 h.2.1, ki17 h.2.1, ki18 h.2.1, ki19 h.2.1, ki20 h.2.1, ki21 h.2.1, Option.some.injEq, exists_eq_left', true_and, rs13 h.2.2, rs14 h.2.2, rs54 h.2.2, rs102 h.2.2, rg2 h.2.2, rg18 h.2.2, rg19 h.2.2, kwR h.1 hw.1 hw.2, kwK h.1 hw.1 hw.2, kwi0 h.2.1 hw.1 hw.2, kwl1 h.2.1 hw.1 hw.2, kwi2 h.2.1 hw.1 hw.2, kwi3 h.2.1 hw.1 hw.2, kwi4 h.2.1 hw.1 hw.2, kwi5 h.2.1 hw.1 hw.2, kwi6 h.2.1 hw.1 hw.2, kwi7 h.2.1 hw.1 hw.2, kwi8 h.2.1 hw.1 hw.2, kwi9 h.2.1 hw.1 hw.2, kwi10 h.2.1 hw.1 hw.2, kwi11 h.2.1 hw.1 hw.2, kwl12 h.2.1 hw.1 hw.2, kwl13 h.2.1 hw.1 hw.2, kwl14 h.2.1 hw.1 hw.2, kwl15 h.2.1 hw.1 hw.2, rw22 h.2.2 hw, rw23 h.2.2 hw, rw24 h.2.2 hw, rw25 h.2.2 hw, rw26 h.2.2 hw, rw27 h.2.2 hw, rw28 h.2.2 hw, rw29 h.2.2 hw, rw30 h.2.2 hw, rw31 h.2.2 hw, rw32 h.2.2 hw, rw33 h.2.2 hw]
    -- what follows, once it is allowed
    have go : ∀ ok : moreOk Y w n, ∃ P : zM → Prop, zCv E mX0_lengthen (d + 3) 0 0 [vR (some (x + 10)), vR (some (wa w)), vI n] M P ∧ ∀ M36, P M36 → zK M36 x = (7, 5) ∧ ∃ b41, zR M36 x 1 = some b41 ∧ zK M36 b41 = (3, 6) ∧ ∃ P42 : zM → Prop, zCv E mX2_weigh (d + 3) 0 0 [vR (some b41)] M36 P42 ∧ ∀ M44, P42 M44 → zK M44 (wa w) = (6, 16) ∧ (zI M44 (wa w) 7 = moreR Y w n ∧ kT x wa M M44 (moreY Y w n)) := by
      intro ok
      have hj' := yJ_more1 hj ok
      refine ⟨_, k_lengthen h hj ok, ?_⟩
      rintro M1 ⟨V1, L1, hp1, hv1, hl1, hw1, hb1⟩
      have oy : ∀ f, f ≠ 9 → ∀ i, yup Y 9 w (Y 9 w + n) f i = Y f i := fun f hf i => yup_o hf i
      have hnd : rNd L1 (yup Y 9 w (Y 9 w + n)) := rNd_c (kRp_nd h.2.2) (hl1 34 (by omega)) (oy 8 (by omega)) (oy 17 (by omega))
      have hun : rUn L1 (yup Y 9 w (Y 9 w + n)) := rUn_c (kRp_un h.2.2) (hl1 35 (by omega)) (oy 8 (by omega)) (oy 17 (by omega))
      refine ⟨kk0 hp1.1, x + 5, kr0_1 hp1.1, kk5 hp1.1, _, k_weigh (Y := yup Y 9 w (Y 9 w + n)) hp1.1 hp1.2.1 (by rw [hv1 5 (by omega) (by omega) (by omega)]; exact h.2.2.1.2.2.1) (fun a ha => (hw1 a ha).2.2.2.2.2.2.2.1) (fun a ha => (hw1 a ha).2.1) hnd hun hj'.1 hj'.2.1, ?_⟩
      rintro M2 ⟨V2, hp2, hV2, het⟩
      have v : ∀ o, o ≠ 5 → o ≠ 7 → o ≠ 32 → o ≠ 33 → ∀ i, V2 o i = V1 o i := fun o h5 h7 h32 h33 i => hV2 o h7 h32 h33 i (fun z => h5 z.1)
      have v' : ∀ o, o ≠ 5 → o ≠ 7 → o ≠ 32 → o ≠ 33 → o ≠ 29 → o ≠ 30 → (o < 13 ∨ 16 < o) → ∀ i, V2 o i = V o i := fun o h5 h7 h32 h33 h29 h30 h13 i => by rw [v o h5 h7 h32 h33]; exact hv1 o h29 h30 h13 i
      have hp12 : kPo x wa (Y 8 0) M M2 V2 L1 := kPo_tr hp1 hp2
      refine ⟨kwK hp2.1 hw.1 hw.2, ?_, ?_⟩
      · rw [kwi7 hp2.2.1 hw.1 hw.2, v 29 (by omega) (by omega) (by omega) (by omega), (hw1 w hw).2.2.2.2.2.2.2.1, yup_s]
        unfold moreR
        rw [pif_t ok]
      · unfold moreY
        rw [pif_t ok]
        have hS := h.2.2.1
        have hG := h.2.2.2.1
        exact ⟨V2, L1, hp12, ⟨by rw [v' 1 (by omega) (by omega) (by omega) (by omega) (by omega) (by omega) (by omega)]; exact hS.1, by rw [v' 1 (by omega) (by omega) (by omega) (by omega) (by omega) (by omega) (by omega)]; exact hS.2.1, by rw [hV2 5 (by omega) (by omega) (by omega) 4 (by omega), hv1 5 (by omega) (by omega) (by omega)]; exact hS.2.2.1, by rw [v' 10 (by omega) (by omega) (by omega) (by omega) (by omega) (by omega) (by omega)]; exact hS.2.2.2⟩, ⟨fun i => by rw [v' 2 (by omega) (by omega) (by omega) (by omega) (by omega) (by omega) (by omega)]; exact hG.1 i, fun i => by rw [v' 18 (by omega) (by omega) (by omega) (by omega) (by omega) (by omega) (by omega)]; exact hG.2.1 i, fun i => by rw [v' 19 (by omega) (by omega) (by omega) (by omega) (by omega) (by omega) (by omega)]; exact hG.2.2 i⟩, rNr_c (kRp_nr h.2.2) (v' 3 (by omega) (by omega) (by omega) (by omega) (by omega) (by omega) (by omega)) (oy 3 (by omega)), rBr_c (kRp_br h.2.2) (v' 4 (by omega) (by omega) (by omega) (by omega) (by omega) (by omega) (by omega)) (oy 7 (by omega)), rW_c hw1 (fun f _ _ => v f (by omega) (by omega) (by omega) (by omega)) (fun _ => rfl) (fun _ _ _ _ => rfl), hnd, hun, rTl_c (kRp_tl h.2.2) (hl1 36 (by omega)) (oy 8 (by omega)) (oy 18 (by omega)), rFo_c (kRp_fo h.2.2) (hl1 37 (by omega)) (oy 3 (by omega)) (oy 7 (by omega)) (oy 8 (by omega)) (oy 12 (by omega)) (oy 13 (by omega)), het, rTk_c (kRp_tk h.2.2) (hl1 8 (by omega)) (hl1 9 (by omega)) (oy 8 (by omega)) (oy 12 (by omega)) (oy 14 (by omega)), rBd_c hb1 (fun _ => rfl) (fun t ht => v (13 + t) (by omega) (by omega) (by omega) (by omega)) (fun _ => rfl) (fun _ => rfl) (fun _ => rfl) (fun _ => rfl) (fun _ => rfl)⟩
    refine ⟨fun q => no (fun z => z.2.1 (p2i_n0.mp q)), fun q => ⟨fun q2 => no (fun z => by have := z.2.2.1; omega), fun q2 => ⟨by unfold zin; omega, fun q3 => zu (k_isOpen (kwK h.1 hw.1 hw.2)) ?_, fun q3 => no (fun z => by have := z.2.2.2.1; omega)⟩⟩⟩
    simp only [kk0 h.1, kk1 h.1, kk2 h.1, kk3 h.1, kk4 h.1, kk5 h.1, kk6 h.1, kk7 h.1, kk8 h.1, kk9 h.1, kk10 h.1, kk11 h.1, kk12 h.1, kk13 h.1, kk14 h.1, kk15 h.1, kk16 h.1, kk17 h.1, kk18 h.1, kk19 h.1, kk20 h.1, kk21 h.1, kr0_0 h.1, kr0_1 h.1, kr0_2 h.1, kr0_3 h.1, kr0_4 h.1, kr1_0 h.1, kr1_1 h.1, kr1_2 h.1, kr5_0 h.1, kr5_1 h.1, kr5_2 h.1, kr5_3 h.1, kr10_0 h.1, kr10_1 h.1, kr17_0 h.1, kr17_1 h.1, kr17_2 h.1, kr17_3 h.1, kr17_4 h.1, kr20_0 h.1, kr20_1 h.1, kr20_2 h.1, kr20_3 h.1, ki1 h.2.1, ki2 h.2.1, ki3 h.2.1, ki4 h.2.1, ki5 h.2.1, ki7 h.2.1, kl8 h.2.1, kl9 h.2.1, ki10 h.2.1, kl11 h.2.1, ki13 h.2.1, ki14 h.2.1, ki15 h.2.1, ki16 h.2.1, ki17 h.2.1, ki18 h.2.1, ki19 h.2.1, ki20 h.2.1, ki21 h.2.1, Option.some.injEq, exists_eq_left', true_and, rs13 h.2.2, rs14 h.2.2, rs54 h.2.2, rs102 h.2.2, rg2 h.2.2, rg18 h.2.2, rg19 h.2.2, kwR h.1 hw.1 hw.2, kwK h.1 hw.1 hw.2, kwi0 h.2.1 hw.1 hw.2, kwl1 h.2.1 hw.1 hw.2, kwi2 h.2.1 hw.1 hw.2, kwi3 h.2.1 hw.1 hw.2, kwi4 h.2.1 hw.1 hw.2, kwi5 h.2.1 hw.1 hw.2, kwi6 h.2.1 hw.1 hw.2, kwi7 h.2.1 hw.1 hw.2, kwi8 h.2.1 hw.1 hw.2, kwi9 h.2.1 hw.1 hw.2, kwi10 h.2.1 hw.1 hw.2, kwi11 h.2.1 hw.1 hw.2, kwl12 h.2.1 hw.1 hw.2, kwl13 h.2.1 hw.1 hw.2, kwl14 h.2.1 hw.1 hw.2, kwl15 h.2.1 hw.1 hw.2, rw22 h.2.2 hw, rw23 h.2.2 hw, rw24 h.2.2 hw, rw25 h.2.2 hw, rw26 h.2.2 hw, rw27 h.2.2 hw, rw28 h.2.2 hw, rw29 h.2.2 hw, rw30 h.2.2 hw, rw31 h.2.2 hw, rw32 h.2.2 hw, rw33 h.2.2 hw]
    refine ⟨fun q4 => ?_, fun q4 => zu (k_behind (v := yEnd Y w) (kwK h.1 hw.1 hw.2) (yB_b hi hw) (by simp only [kwR h.1 hw.1 hw.2, kwK h.1 hw.1 hw.2, kwi0 h.2.1 hw.1 hw.2, kwl1 h.2.1 hw.1 hw.2, kwi2 h.2.1 hw.1 hw.2, kwi3 h.2.1 hw.1 hw.2, kwi4 h.2.1 hw.1 hw.2, kwi5 h.2.1 hw.1 hw.2, kwi6 h.2.1 hw.1 hw.2, kwi7 h.2.1 hw.1 hw.2, kwi8 h.2.1 hw.1 hw.2, kwi9 h.2.1 hw.1 hw.2, kwi10 h.2.1 hw.1 hw.2, kwi11 h.2.1 hw.1 hw.2, kwl12 h.2.1 hw.1 hw.2, kwl13 h.2.1 hw.1 hw.2, kwl14 h.2.1 hw.1 hw.2, kwl15 h.2.1 hw.1 hw.2, rw22 h.2.2 hw, rw23 h.2.2 hw, rw24 h.2.2 hw, rw25 h.2.2 hw, rw26 h.2.2 hw, rw27 h.2.2 hw, rw28 h.2.2 hw, rw29 h.2.2 hw, rw30 h.2.2 hw, rw31 h.2.2 hw, rw32 h.2.2 hw, rw33 h.2.2 hw]; rfl)) ?_⟩
    · exact go ⟨hw, p2i_0.mp q, ⟨by omega, by omega⟩, by omega, fun z => absurd (p2i_n0.mp q4) z⟩
    · have hE : yEnd Y w = Y 15 w + Y 9 w := rfl
      refine ⟨by unfold zin; omega, fun q5 => ?_, fun q5 => no (fun z => by have := z.2.2.2.2 (p2i_0.mp q4); omega)⟩
      simp only [kk0 h.1, kk1 h.1, kk2 h.1, kk3 h.1, kk4 h.1, kk5 h.1, kk6 h.1, kk7 h.1, kk8 h.1, kk9 h.1, kk10 h.1, kk11 h.1, kk12 h.1, kk13 h.1, kk14 h.1, kk15 h.1, kk16 h.1, kk17 h.1, kk18 h.1, kk19 h.1, kk20 h.1, kk21 h.1, kr0_0 h.1, kr0_1 h.1, kr0_2 h.1, kr0_3 h.1, kr0_4 h.1, kr1_0 h.1, kr1_1 h.1, kr1_2 h.1, kr5_0 h.1, kr5_1 h.1, kr5_2 h.1, kr5_3 h.1, kr10_0 h.1, kr10_1 h.1, kr17_0 h.1, kr17_1 h.1, kr17_2 h.1, kr17_3 h.1, kr17_4 h.1, kr20_0 h.1, kr20_1 h.1, kr20_2 h.1, kr20_3 h.1, ki1 h.2.1, ki2 h.2.1, ki3 h.2.1, ki4 h.2.1, ki5 h.2.1, ki7 h.2.1, kl8 h.2.1, kl9 h.2.1, ki10 h.2.1, kl11 h.2.1, ki13 h.2.1, ki14 h.2.1, ki15 h.2.1, ki16 h.2.1, ki17 h.2.1, ki18 h.2.1, ki19 h.2.1, ki20 h.2.1, ki21 h.2.1, Option.some.injEq, exists_eq_left', true_and, rs13 h.2.2, rs14 h.2.2, rs54 h.2.2, rs102 h.2.2, rg2 h.2.2, rg18 h.2.2, rg19 h.2.2]
      exact go ⟨hw, p2i_0.mp q, ⟨by omega, by omega⟩, by omega, fun _ => q5⟩
  · rw [pif_f hw]
    exact ⟨fun _ => no (fun z => hw z.1), fun z => absurd rfl z⟩
theorem k_fail (h : kR x wa M V L Y) (hj : yJ c Y) (hc : c < 600) (t : Int) : zCi E mX6_fail (d + 5) 0 0 [vR (some x), vI t] M (fun r M' => r = failR Y t ∧ kT x wa M M' (failY Y t)) := by
  refine sX6_fail _ _ (fun X hr => vX6_fail_0 hr _ _ ?_)
  have hi := hj.1
  have h8 := yI_n hi
  have hc1 := hi.1
  have no : ¬ failOk Y t → (-1 : Int) = failR Y t ∧ kT x wa M M (failY Y t) := fun q => ⟨by unfold failR; rw [pif_f q], by unfold failY; rw [pif_f q]; exact kT_rf h⟩
  simp only [kk0 h.1, kk1 h.1, kk2 h.1, kk3 h.1, kk4 h.1, kk5 h.1, kk6 h.1, kk7 h.1, kk8 h.1, kk9 h.1, kk10 h.1, kk11 h.1, kk12 h.1, kk13 h.1, kk14 h.1, kk15 h.1, kk16 h.1, kk17 h.1, kk18 h.1, kk19 h.1, kk20 h.1, kk21 h.1, kr0_0 h.1, kr0_1 h.1, kr0_2 h.1, kr0_3 h.1, kr0_4 h.1, kr1_0 h.1, kr1_1 h.1, kr1_2 h.1, kr5_0 h.1, kr5_1 h.1, kr5_2 h.1, kr5_3 h.1, kr10_0 h.1, kr10_1 h.1, kr17_0 h.1, kr17_1 h.1, kr17_2 h.1, kr17_3 h.1, kr17_4 h.1, kr20_0 h.1, kr20_1 h.1, kr20_2 h.1, kr20_3 h.1, ki1 h.2.1, ki2 h.2.1, ki3 h.2.1, ki4 h.2.1, ki5 h.2.1, ki7 h.2.1, kl8 h.2.1, kl9 h.2.1, ki10 h.2.1, kl11 h.2.1, ki13 h.2.1, ki14 h.2.1, ki15 h.2.1, ki16 h.2.1, ki17 h.2.1, ki18 h.2.1, ki19 h.2.1, ki20 h.2.1, ki21 h.2.1, Option.some.injEq, exists_eq_left', true_and, rs13 h.2.2, rs14 h.2.2, rs54 h.2.2, rs102 h.2.2, rg2 h.2.2, rg18 h.2.2, rg19 h.2.2]
  refine zur (k_find h hi t) ?_
  by_cases hw : yWk Y t
  · rw [pif_t hw]
    refine ⟨fun z => (by cases z), fun _ => ?_⟩
    simp only [kk0 h.1, kk1 h.1, kk2 h.1, kk3 h.1, kk4 h.1, kk5 h.1, kk6 h.1, kk7 h.1, kk8 h.1, kk9 h.1, kk10 h.1, kk11 h.1, kk12 h.1, kk13 h.1, kk14 h.1, kk15 h.1, kk16 h.1, kk17 h.1, kk18 h.1, kk19 h.1, kk20 h.1, kk21 h.1, kr0_0 h.1, kr0_1 h.1, kr0_2 h.1, kr0_3 h.1, kr0_4 h.1, kr1_0 h.1, kr1_1 h.1, kr1_2 h.1, kr5_0 h.1, kr5_1 h.1, kr5_2 h.1, kr5_3 h.1, kr10_0 h.1, kr10_1 h.1, kr17_0 h.1, kr17_1 h.1, kr17_2 h.1, kr17_3 h.1, kr17_4 h.1, kr20_0 h.1, kr20_1 h.1, kr20_2 h.1, kr20_3 h.1, ki1 h.2.1, ki2 h.2.1, ki3 h.2.1, ki4 h.2.1, ki5 h.2.1, ki7 h.2.1, kl8 h.2.1, kl9 h.2.1, ki10 h.2.1, kl11 h.2.1, ki13 h.2.1, ki14 h.2.1, ki15 h.2.1, ki16 h.2.1, ki17 h.2.1, ki18 h.2.1, ki19 h.2.1, ki20 h.2.1, ki21 h.2.1, Option.some.injEq, exists_eq_left', true_and, rs13 h.2.2, rs14 h.2.2, rs54 h.2.2, rs102 h.2.2, rg2 h.2.2, rg18 h.2.2, rg19 h.2.2, kwR h.1 hw.1 hw.2, kwK h.1 hw.1 hw.2, kwi0 h.2.1 hw.1 hw.2, kwl1 h.2.1 hw.1 hw.2, kwi2 h.2.1 hw.1 hw.2, kwi3 h.2.1 hw.1 hw.2, kwi4 h.2.1 hw.1 hw.2, kwi5 h.2.1 hw.1 hw.2, kwi6 h.2.1 hw.1 hw.2, kwi7 h.2.1 hw.1 hw.2, kwi8 h.2.1 hw.1 hw.2, kwi9 h.2.1 hw.1 hw.2, kwi10 h.2.1 hw.1 hw.2, kwi11 h.2.1 hw.1 hw.2, kwl12 h.2.1 hw.1 hw.2, kwl13 h.2.1 hw.1 hw.2, kwl14 h.2.1 hw.1 hw.2, kwl15 h.2.1 hw.1 hw.2, rw22 h.2.2 hw, rw23 h.2.2 hw, rw24 h.2.2 hw, rw25 h.2.2 hw, rw26 h.2.2 hw, rw27 h.2.2 hw, rw28 h.2.2 hw, rw29 h.2.2 hw, rw30 h.2.2 hw, rw31 h.2.2 hw, rw32 h.2.2 hw, rw33 h.2.2 hw]
    refine ⟨fun q => no (fun z => q z.2.1), fun q => zu (k_isDone (kwK h.1 hw.1 hw.2) _ (by simp only [kwR h.1 hw.1 hw.2, kwK h.1 hw.1 hw.2, kwi0 h.2.1 hw.1 hw.2, kwl1 h.2.1 hw.1 hw.2, kwi2 h.2.1 hw.1 hw.2, kwi3 h.2.1 hw.1 hw.2, kwi4 h.2.1 hw.1 hw.2, kwi5 h.2.1 hw.1 hw.2, kwi6 h.2.1 hw.1 hw.2, kwi7 h.2.1 hw.1 hw.2, kwi8 h.2.1 hw.1 hw.2, kwi9 h.2.1 hw.1 hw.2, kwi10 h.2.1 hw.1 hw.2, kwi11 h.2.1 hw.1 hw.2, kwl12 h.2.1 hw.1 hw.2, kwl13 h.2.1 hw.1 hw.2, kwl14 h.2.1 hw.1 hw.2, kwl15 h.2.1 hw.1 hw.2, rw22 h.2.2 hw, rw23 h.2.2 hw, rw24 h.2.2 hw, rw25 h.2.2 hw, rw26 h.2.2 hw, rw27 h.2.2 hw, rw28 h.2.2 hw, rw29 h.2.2 hw, rw30 h.2.2 hw, rw31 h.2.2 hw, rw32 h.2.2 hw, rw33 h.2.2 hw]; exact yB_b hi hw)) ?_⟩
    simp only [kk0 h.1, kk1 h.1, kk2 h.1, kk3 h.1, kk4 h.1, kk5 h.1, kk6 h.1, kk7 h.1, kk8 h.1, kk9 h.1, kk10 h.1, kk11 h.1, kk12 h.1, kk13 h.1, kk14 h.1, kk15 h.1, kk16 h.1, kk17 h.1, kk18 h.1, kk19 h.1, kk20 h.1, kk21 h.1, kr0_0 h.1, kr0_1 h.1, kr0_2 h.1, kr0_3 h.1, kr0_4 h.1, kr1_0 h.1, kr1_1 h.1, kr1_2 h.1, kr5_0 h.1, kr5_1 h.1, kr5_2 h.1, kr5_3 h.1, kr10_0 h.1, kr10_1 h.1, kr17_0 h.1, kr17_1 h.1, kr17_2 h.1, kr17_3 h.1, kr17_4 h.1, kr20_0 h.1, kr20_1 h.1, kr20_2 h.1, kr20_3 h.1, ki1 h.2.1, ki2 h.2.1, ki3 h.2.1, ki4 h.2.1, ki5 h.2.1, ki7 h.2.1, kl8 h.2.1, kl9 h.2.1, ki10 h.2.1, kl11 h.2.1, ki13 h.2.1, ki14 h.2.1, ki15 h.2.1, ki16 h.2.1, ki17 h.2.1, ki18 h.2.1, ki19 h.2.1, ki20 h.2.1, ki21 h.2.1, Option.some.injEq, exists_eq_left', true_and, rs13 h.2.2, rs14 h.2.2, rs54 h.2.2, rs102 h.2.2, rg2 h.2.2, rg18 h.2.2, rg19 h.2.2, kwR h.1 hw.1 hw.2, kwK h.1 hw.1 hw.2, kwi0 h.2.1 hw.1 hw.2, kwl1 h.2.1 hw.1 hw.2, kwi2 h.2.1 hw.1 hw.2, kwi3 h.2.1 hw.1 hw.2, kwi4 h.2.1 hw.1 hw.2, kwi5 h.2.1 hw.1 hw.2, kwi6 h.2.1 hw.1 hw.2, kwi7 h.2.1 hw.1 hw.2, kwi8 h.2.1 hw.1 hw.2, kwi9 h.2.1 hw.1 hw.2, kwi10 h.2.1 hw.1 hw.2, kwi11 h.2.1 hw.1 hw.2, kwl12 h.2.1 hw.1 hw.2, kwl13 h.2.1 hw.1 hw.2, kwl14 h.2.1 hw.1 hw.2, kwl15 h.2.1 hw.1 hw.2, rw22 h.2.2 hw, rw23 h.2.2 hw, rw24 h.2.2 hw, rw25 h.2.2 hw, rw26 h.2.2 hw, rw27 h.2.2 hw, rw28 h.2.2 hw, rw29 h.2.2 hw, rw30 h.2.2 hw, rw31 h.2.2 hw, rw32 h.2.2 hw, rw33 h.2.2 hw]
    refine ⟨fun q2 => ⟨_, k_openedWith h hi hw, ?_⟩, fun q2 => no (fun z => p2i_0.mp q2 z.2.2)⟩
    have ok : failOk Y t := ⟨hw, q, p2i_n0.mp q2⟩
    rintro l M0 ⟨hO, rfl⟩
    have key : ∀ k : Int, 0 ≤ k → k ≤ Y 8 0 → ∀ (M1 : zM) (V1 : yS) (L1 : yL), kPo x wa (Y 8 0) M0 M1 V1 L1 → kRp V1 L1 (failK Y t k) → ZX6_fail E (d + 4) X (fun r M' => r = failR Y t ∧ kT x wa M0 M' (failY Y t)) 56 [(0, vR (some x)), (1, vI t), (2, vR (some (wa t))), (3, vL l), (5, vI k)] [] M1 0 0 := by
      refine zdownI (n := Y 8 0) (fun k hk hk0 hk2 M1 V1 L1 hp hR => ?_) (fun k hk0 hk ih hk2 M1 V1 L1 hp hR => ?_)
      · have hk : k = Y 8 0 := by omega
        subst hk
        have e8 : failK Y t (Y 8 0) 8 0 = Y 8 0 := failK_ot (by decide) (by decide)
        refine vX6_fail_56 hr _ _ _ _ _ ?_
        simp only [kk0 hp.1, kk1 hp.1, kk2 hp.1, kk3 hp.1, kk4 hp.1, kk5 hp.1, kk6 hp.1, kk7 hp.1, kk8 hp.1, kk9 hp.1, kk10 hp.1, kk11 hp.1, kk12 hp.1, kk13 hp.1, kk14 hp.1, kk15 hp.1, kk16 hp.1, kk17 hp.1, kk18 hp.1, kk19 hp.1, kk20 hp.1, kk21 hp.1, kr0_0 hp.1, kr0_1 hp.1, kr0_2 hp.1, kr0_3 hp.1, kr0_4 hp.1, kr1_0 hp.1, kr1_1 hp.1, kr1_2 hp.1, kr5_0 hp.1, kr5_1 hp.1, kr5_2 hp.1, kr5_3 hp.1, kr10_0 hp.1, kr10_1 hp.1, kr17_0 hp.1, kr17_1 hp.1, kr17_2 hp.1, kr17_3 hp.1, kr17_4 hp.1, kr20_0 hp.1, kr20_1 hp.1, kr20_2 hp.1, kr20_3 hp.1, ki1 hp.2.1, ki2 hp.2.1, ki3 hp.2.1, ki4 hp.2.1, ki5 hp.2.1, ki7 hp.2.1, kl8 hp.2.1, kl9 hp.2.1, ki10 hp.2.1, kl11 hp.2.1, ki13 hp.2.1, ki14 hp.2.1, ki15 hp.2.1, ki16 hp.2.1, ki17 hp.2.1, ki18 hp.2.1, ki19 hp.2.1, ki20 hp.2.1, ki21 hp.2.1, Option.some.injEq, exists_eq_left', true_and, rs54 hR, e8]
        refine ⟨fun _ => zu (k_bitCount _) ⟨?_, ?_⟩, fun z => by omega⟩
        · rw [zpop_s hO h8.1 (by omega) (fun m hm => (opn_wk hm).1.2)]
          unfold failR
          rw [pif_t ok]
        · unfold failY
          rw [pif_t ok]
          exact ⟨V1, L1, by rw [e8]; exact hp, hR⟩
      · have ih := ih (by omega)
        have hm : yWk Y k := ⟨hk0, hk⟩
        have e8 : failK Y t k 8 0 = Y 8 0 := failK_ot (by decide) (by decide)
        have hmk : yWk (failK Y t k) k := ⟨hk0, by rw [e8]; exact hk⟩
        have hik := yI_failK hi hc t k
        have hin := zBs_in hO hk0 (by omega : k < 64)
        have hp' := hp
        rw [← e8] at hp'
        refine vX6_fail_56 hr _ _ _ _ _ ?_
        simp only [kk0 hp.1, kk1 hp.1, kk2 hp.1, kk3 hp.1, kk4 hp.1, kk5 hp.1, kk6 hp.1, kk7 hp.1, kk8 hp.1, kk9 hp.1, kk10 hp.1, kk11 hp.1, kk12 hp.1, kk13 hp.1, kk14 hp.1, kk15 hp.1, kk16 hp.1, kk17 hp.1, kk18 hp.1, kk19 hp.1, kk20 hp.1, kk21 hp.1, kr0_0 hp.1, kr0_1 hp.1, kr0_2 hp.1, kr0_3 hp.1, kr0_4 hp.1, kr1_0 hp.1, kr1_1 hp.1, kr1_2 hp.1, kr5_0 hp.1, kr5_1 hp.1, kr5_2 hp.1, kr5_3 hp.1, kr10_0 hp.1, kr10_1 hp.1, kr17_0 hp.1, kr17_1 hp.1, kr17_2 hp.1, kr17_3 hp.1, kr17_4 hp.1, kr20_0 hp.1, kr20_1 hp.1, kr20_2 hp.1, kr20_3 hp.1, ki1 hp.2.1, ki2 hp.2.1, ki3 hp.2.1, ki4 hp.2.1, ki5 hp.2.1, ki7 hp.2.1, kl8 hp.2.1, kl9 hp.2.1, ki10 hp.2.1, kl11 hp.2.1, ki13 hp.2.1, ki14 hp.2.1, ki15 hp.2.1, ki16 hp.2.1, ki17 hp.2.1, ki18 hp.2.1, ki19 hp.2.1, ki20 hp.2.1, ki21 hp.2.1, Option.some.injEq, exists_eq_left', true_and, kwR hp.1 hk0 hk, kwK hp.1 hk0 hk, kwi0 hp.2.1 hk0 hk, kwl1 hp.2.1 hk0 hk, kwi2 hp.2.1 hk0 hk, kwi3 hp.2.1 hk0 hk, kwi4 hp.2.1 hk0 hk, kwi5 hp.2.1 hk0 hk, kwi6 hp.2.1 hk0 hk, kwi7 hp.2.1 hk0 hk, kwi8 hp.2.1 hk0 hk, kwi9 hp.2.1 hk0 hk, kwi10 hp.2.1 hk0 hk, kwi11 hp.2.1 hk0 hk, kwl12 hp.2.1 hk0 hk, kwl13 hp.2.1 hk0 hk, kwl14 hp.2.1 hk0 hk, kwl15 hp.2.1 hk0 hk, rs54 hR, rw23 hR hmk, e8, cmp0, ne_eq]
        refine ⟨fun z => by omega, fun _ => ⟨by trivial, hk0, by omega, fun z => ⟨by unfold zin; omega, ih M1 V1 L1 hp ?_⟩, fun z => ⟨_, k_lift0 (Y := failK Y t k) hp'.1 hp'.2.1 (kRp_w hR) (kRp_bd hR) hik hmk, ?_⟩⟩⟩
        · have e : failK Y t k = failK Y t (k + 1) := by
            funext f i
            exact failK_n (fun z2 => hin.mpr z2 z) f i
          rw [← e]
          exact hR
        · have z : yOpn Y t k := hin.mp z
          rintro M2 hB
          obtain ⟨V2, L2, hp2, hv2, hR2⟩ := kB_T (Y := failK Y t k) hR hB
          rw [e8] at hp2
          have e16 : failK Y t k 16 k = Y 16 k := failK_lo 16 (Int.le_refl _)
          have v31 : V2 31 k = Y 16 k := by
            rw [hv2 31 (by omega) (by omega), rw31 hR hmk]
            exact e16
          have hwk := yI_w hi hk0 hk
          simp only [kwR hp2.1 hk0 hk, kwK hp2.1 hk0 hk, kwi0 hp2.2.1 hk0 hk, kwl1 hp2.2.1 hk0 hk, kwi2 hp2.2.1 hk0 hk, kwi3 hp2.2.1 hk0 hk, kwi4 hp2.2.1 hk0 hk, kwi5 hp2.2.1 hk0 hk, kwi6 hp2.2.1 hk0 hk, kwi7 hp2.2.1 hk0 hk, kwi8 hp2.2.1 hk0 hk, kwi9 hp2.2.1 hk0 hk, kwi10 hp2.2.1 hk0 hk, kwi11 hp2.2.1 hk0 hk, kwl12 hp2.2.1 hk0 hk, kwl13 hp2.2.1 hk0 hk, kwl14 hp2.2.1 hk0 hk, kwl15 hp2.2.1 hk0 hk, v31]
          refine ⟨by trivial, by unfold zin; omega, by trivial, ?_⟩
          rintro M3 e3
          have hp3 := kPo_wI (f := 9) hp2 e3 rfl rfl (by decide) hk0 hk
          have hR3 := kRp_16 (k := k) (v := Y 16 k + 1) hR2
          have e : yup (yup (failK Y t k) 15 k (-1)) 16 k (Y 16 k + 1) = failK Y t (k + 1) := by
            funext f i
            rw [← e16]
            exact failK_s z hk0 f i
          rw [e] at hR3
          exact ⟨by unfold zin; omega, ih M3 _ L2 (kPo_tr hp hp3) hR3⟩
    have e0 : failK Y t 0 = Y := by
      funext f i
      exact failK_0 Y t f i
    exact key 0 (by omega) h8.1 M0 V L (kPo_rf h.1 h.2.1) (by rw [e0]; exact h.2.2)
  · rw [pif_f hw]
    exact ⟨fun _ => no (fun z => hw z.1), fun z => absurd rfl z⟩
theorem planF_n {Y : yS} {T : Int → Prop} {n : Int} (h : yPk Y T = -1) : ∀ m : Nat, planF m Y T n = (n, Y) := by
  intro m
  cases m with
  | zero => rfl
  | succ m =>
    unfold planF
    rw [pif_t h]
theorem k_plan (h : kR x wa M V L Y) (hj : yJ c Y) : zCi E mX6_plan (d + 5) 0 0 [vR (some x)] M (fun r M' => r = (planV Y).1 ∧ kT x wa M M' (planV Y).2) := by
  refine sX6_plan _ (fun X hr => vX6_plan_0 hr _ ?_)
  have h8 := yI_n hj.1
  have key : ∀ k : Int, 0 ≤ k → k ≤ Y 8 0 → ∀ (M1 : zM) (Y1 : yS) (T : Int → Prop) (l : Int64) (cnt : Int) (m : Nat), kT x wa M M1 Y1 → yJ c Y1 → Y1 8 0 = Y 8 0 → zBs l T → (∀ w, T w → yWk Y w) → ysum (fun w => p2i (T w)) (Y 8 0) = k → (0 ≤ cnt ∧ cnt ≤ k) → k + m = 41 → planF m Y1 T cnt = planV Y → ZX6_plan E (d + 4) X (fun r M' => r = (planV Y).1 ∧ kT x wa M M' (planV Y).2) 7 [(0, vR (some x)), (1, vL l), (3, vI cnt), (4, vI k)] [] M1 0 0 := by
    refine zdownI (n := Y 8 0) (fun k hk hk0 hk2 M1 Y1 T l cnt m hT hj1 he8 hl hTw hs hcn hm hpl => ?_) (fun k hk0 hk ih hk2 M1 Y1 T l cnt m hT hj1 he8 hl hTw hs hcn hm hpl => ?_)
    · have hk : k = Y 8 0 := by omega
      have all : ∀ w, yWk Y w → T w := fun w hw => Classical.byContradiction fun z => by
        have := ysum_lt (f := fun w => p2i (T w)) (g := fun _ => 1) hw.1 hw.2 (fun a _ _ => by show p2i (T a) ≤ 1; rcases p2i_01 (T a) with e | e <;> omega) (by show p2i (T w) < 1; rw [p2i_f z]; omega)
        rw [ysum_one h8.1] at this
        omega
      have hpk : yPk Y1 T = -1 := Classical.byContradiction fun z => by
        obtain ⟨z1, z2, -⟩ := yPk_w hj1.1 z
        exact z2 (all _ ⟨z1.1, by rw [← he8]; exact z1.2⟩)
      obtain ⟨V1, L1, hR1⟩ := kT_R hT
      refine vX6_plan_7 hr _ _ _ _ ?_
      simp only [kk0 hR1.1, kk1 hR1.1, kk2 hR1.1, kk3 hR1.1, kk4 hR1.1, kk5 hR1.1, kk6 hR1.1, kk7 hR1.1, kk8 hR1.1, kk9 hR1.1, kk10 hR1.1, kk11 hR1.1, kk12 hR1.1, kk13 hR1.1, kk14 hR1.1, kk15 hR1.1, kk16 hR1.1, kk17 hR1.1, kk18 hR1.1, kk19 hR1.1, kk20 hR1.1, kk21 hR1.1, kr0_0 hR1.1, kr0_1 hR1.1, kr0_2 hR1.1, kr0_3 hR1.1, kr0_4 hR1.1, kr1_0 hR1.1, kr1_1 hR1.1, kr1_2 hR1.1, kr5_0 hR1.1, kr5_1 hR1.1, kr5_2 hR1.1, kr5_3 hR1.1, kr10_0 hR1.1, kr10_1 hR1.1, kr17_0 hR1.1, kr17_1 hR1.1, kr17_2 hR1.1, kr17_3 hR1.1, kr17_4 hR1.1, kr20_0 hR1.1, kr20_1 hR1.1, kr20_2 hR1.1, kr20_3 hR1.1, ki1 hR1.2.1, ki2 hR1.2.1, ki3 hR1.2.1, ki4 hR1.2.1, ki5 hR1.2.1, ki7 hR1.2.1, kl8 hR1.2.1, kl9 hR1.2.1, ki10 hR1.2.1, kl11 hR1.2.1, ki13 hR1.2.1, ki14 hR1.2.1, ki15 hR1.2.1, ki16 hR1.2.1, ki17 hR1.2.1, ki18 hR1.2.1, ki19 hR1.2.1, ki20 hR1.2.1, ki21 hR1.2.1, Option.some.injEq, exists_eq_left', true_and, rs13 hR1.2.2, rs14 hR1.2.2, rs54 hR1.2.2, rs102 hR1.2.2, rg2 hR1.2.2, rg18 hR1.2.2, rg19 hR1.2.2, he8]
      rw [← hpl, planF_n hpk]
      exact ⟨fun _ => ⟨rfl, hT⟩, fun z => by omega⟩
    · have ih := ih (by omega)
      obtain ⟨m, rfl⟩ : ∃ m', m = m' + 1 := ⟨m - 1, by omega⟩
      obtain ⟨V1, L1, hR1⟩ := kT_R hT
      refine vX6_plan_7 hr _ _ _ _ ?_
      simp only [kk0 hR1.1, kk1 hR1.1, kk2 hR1.1, kk3 hR1.1, kk4 hR1.1, kk5 hR1.1, kk6 hR1.1, kk7 hR1.1, kk8 hR1.1, kk9 hR1.1, kk10 hR1.1, kk11 hR1.1, kk12 hR1.1, kk13 hR1.1, kk14 hR1.1, kk15 hR1.1, kk16 hR1.1, kk17 hR1.1, kk18 hR1.1, kk19 hR1.1, kk20 hR1.1, kk21 hR1.1, kr0_0 hR1.1, kr0_1 hR1.1, kr0_2 hR1.1, kr0_3 hR1.1, kr0_4 hR1.1, kr1_0 hR1.1, kr1_1 hR1.1, kr1_2 hR1.1, kr5_0 hR1.1, kr5_1 hR1.1, kr5_2 hR1.1, kr5_3 hR1.1, kr10_0 hR1.1, kr10_1 hR1.1, kr17_0 hR1.1, kr17_1 hR1.1, kr17_2 hR1.1, kr17_3 hR1.1, kr17_4 hR1.1, kr20_0 hR1.1, kr20_1 hR1.1, kr20_2 hR1.1, kr20_3 hR1.1, ki1 hR1.2.1, ki2 hR1.2.1, ki3 hR1.2.1, ki4 hR1.2.1, ki5 hR1.2.1, ki7 hR1.2.1, kl8 hR1.2.1, kl9 hR1.2.1, ki10 hR1.2.1, kl11 hR1.2.1, ki13 hR1.2.1, ki14 hR1.2.1, ki15 hR1.2.1, ki16 hR1.2.1, ki17 hR1.2.1, ki18 hR1.2.1, ki19 hR1.2.1, ki20 hR1.2.1, ki21 hR1.2.1, Option.some.injEq, exists_eq_left', true_and, rs13 hR1.2.2, rs14 hR1.2.2, rs54 hR1.2.2, rs102 hR1.2.2, rg2 hR1.2.2, rg18 hR1.2.2, rg19 hR1.2.2, he8]
      refine ⟨fun z => by omega, fun _ => zur (k_mostPressing hR1 hj1.1 hl) ?_⟩
      by_cases hpk : yPk Y1 T = -1
      · rw [pif_t hpk]
        rw [← hpl, planF_n hpk]
        exact ⟨fun z => absurd rfl z, fun _ => ⟨rfl, hT⟩⟩
      · rw [pif_f hpk]
        obtain ⟨hw, hnT, hrd⟩ := yPk_w hj1.1 hpk
        have hwY : yWk Y (yPk Y1 T) := ⟨hw.1, by rw [← he8]; exact hw.2⟩
        have ho : Y1 15 (yPk Y1 T) = -1 := Classical.not_not.mp hrd.1
        have w40 := yW_lt hj1.1 hw
        unfold planF at hpl
        rw [pif_f hpk] at hpl
        have hsum : ysum (fun w => p2i (T w ∨ w = yPk Y1 T)) (Y 8 0) = k + 1 := by
          have := ysum_upd (f := fun w => p2i (T w)) (g := fun w => p2i (T w ∨ w = yPk Y1 T)) hwY.1 hwY.2 (fun a ha => p2i_congr ⟨fun z => z.resolve_right ha, Or.inl⟩)
          have e1 : p2i (T (yPk Y1 T) ∨ yPk Y1 T = yPk Y1 T) = 1 := p2i_t (Or.inr rfl)
          have e2 : p2i (T (yPk Y1 T)) = 0 := p2i_f hnT
          have this : ysum (fun w => p2i (T w ∨ w = yPk Y1 T)) (Y 8 0) = ysum (fun w => p2i (T w)) (Y 8 0) + p2i (T (yPk Y1 T) ∨ yPk Y1 T = yPk Y1 T) - p2i (T (yPk Y1 T)) := this
          omega
        have hTw' : ∀ w, (T w ∨ w = yPk Y1 T) → yWk Y w := fun w z => z.elim (hTw w) (fun z => by rw [z]; exact hwY)
        have hl' : zBs (l ||| zbit (yPk Y1 T)) (fun w => T w ∨ w = yPk Y1 T) := zBs_or hl (zBs_bit hw.1 (by omega))
        generalize yPk Y1 T = w at hpl hw hnT hrd hwY ho w40 hsum hTw' hl' ⊢
        refine ⟨fun _ => ?_, fun z => (by cases z)⟩
        simp only [kk0 hR1.1, kk1 hR1.1, kk2 hR1.1, kk3 hR1.1, kk4 hR1.1, kk5 hR1.1, kk6 hR1.1, kk7 hR1.1, kk8 hR1.1, kk9 hR1.1, kk10 hR1.1, kk11 hR1.1, kk12 hR1.1, kk13 hR1.1, kk14 hR1.1, kk15 hR1.1, kk16 hR1.1, kk17 hR1.1, kk18 hR1.1, kk19 hR1.1, kk20 hR1.1, kk21 hR1.1, kr0_0 hR1.1, kr0_1 hR1.1, kr0_2 hR1.1, kr0_3 hR1.1, kr0_4 hR1.1, kr1_0 hR1.1, kr1_1 hR1.1, kr1_2 hR1.1, kr5_0 hR1.1, kr5_1 hR1.1, kr5_2 hR1.1, kr5_3 hR1.1, kr10_0 hR1.1, kr10_1 hR1.1, kr17_0 hR1.1, kr17_1 hR1.1, kr17_2 hR1.1, kr17_3 hR1.1, kr17_4 hR1.1, kr20_0 hR1.1, kr20_1 hR1.1, kr20_2 hR1.1, kr20_3 hR1.1, ki1 hR1.2.1, ki2 hR1.2.1, ki3 hR1.2.1, ki4 hR1.2.1, ki5 hR1.2.1, ki7 hR1.2.1, kl8 hR1.2.1, kl9 hR1.2.1, ki10 hR1.2.1, kl11 hR1.2.1, ki13 hR1.2.1, ki14 hR1.2.1, ki15 hR1.2.1, ki16 hR1.2.1, ki17 hR1.2.1, ki18 hR1.2.1, ki19 hR1.2.1, ki20 hR1.2.1, ki21 hR1.2.1, Option.some.injEq, exists_eq_left', true_and, rs13 hR1.2.2, rs14 hR1.2.2, rs54 hR1.2.2, rs102 hR1.2.2, rg2 hR1.2.2, rg18 hR1.2.2, rg19 hR1.2.2, kwR hR1.1 hw.1 hw.2, kwK hR1.1 hw.1 hw.2, kwi0 hR1.2.1 hw.1 hw.2, kwl1 hR1.2.1 hw.1 hw.2, kwi2 hR1.2.1 hw.1 hw.2, kwi3 hR1.2.1 hw.1 hw.2, kwi4 hR1.2.1 hw.1 hw.2, kwi5 hR1.2.1 hw.1 hw.2, kwi6 hR1.2.1 hw.1 hw.2, kwi7 hR1.2.1 hw.1 hw.2, kwi8 hR1.2.1 hw.1 hw.2, kwi9 hR1.2.1 hw.1 hw.2, kwi10 hR1.2.1 hw.1 hw.2, kwi11 hR1.2.1 hw.1 hw.2, kwl12 hR1.2.1 hw.1 hw.2, kwl13 hR1.2.1 hw.1 hw.2, kwl14 hR1.2.1 hw.1 hw.2, kwl15 hR1.2.1 hw.1 hw.2, rw22 hR1.2.2 hw, rw23 hR1.2.2 hw, rw24 hR1.2.2 hw, rw25 hR1.2.2 hw, rw26 hR1.2.2 hw, rw27 hR1.2.2 hw, rw28 hR1.2.2 hw, rw29 hR1.2.2 hw, rw30 hR1.2.2 hw, rw31 hR1.2.2 hw, rw32 hR1.2.2 hw, rw33 hR1.2.2 hw]
        refine zu (k_firstPlace hR1 hj1.1 hw (fun z => z.1 ho) (acy_nn hj1.2.1 hw) (Y1 0 0)) ⟨fun q => ⟨by unfold zin; omega, ?_⟩, fun q => ?_⟩
        · rw [pif_t q] at hpl
          exact ih M1 Y1 _ _ cnt m hT hj1 he8 hl' hTw' hsum (by omega) (by omega) hpl
        · rw [pif_f q] at hpl
          obtain ⟨my, f0⟩ := first_may hj1.1 q
          have f1 := my.2.2.2.1
          refine ⟨kk0 hR1.1, x + 10, kr0_2 hR1.1, kk10 hR1.1, _, k_lay0 hR1.1 hR1.2.1 (kRp_w hR1.2.2) (kRp_bd hR1.2.2) hj1.1 hw ho f0 (by omega), ?_⟩
          rintro M2 hB
          obtain ⟨V2, L2, hp2, -, hR2⟩ := kB_T hR1.2.2 hB
          exact ⟨by unfold zin; omega, by unfold zin; omega, ih M2 (yup Y1 15 w (yFirst Y1 w (Y1 0 0))) _ _ (cnt + 1) m (kT_tr (Y2 := yup Y1 15 w (yFirst Y1 w (Y1 0 0))) hT ⟨V2, L2, hp2, hR2⟩) (yJ_15 hj1 (Or.inr ⟨f0, by omega⟩)) he8 hl' hTw' hsum (by omega) (by omega) hpl⟩
  have s0 : ysum (fun _ => p2i False) (Y 8 0) = 0 := by
    have e : ysum (fun _ => p2i False) (Y 8 0) = ysum (fun _ => 0) (Y 8 0) := ysum_congr (fun _ _ _ => p2i_f (fun z => z))
    have := ysum_b (f := fun _ => (0 : Int)) (b := 0) h8.1 (fun _ _ _ => ⟨Int.le_refl _, Int.le_refl _⟩)
    omega
  exact key 0 (by omega) h8.1 M Y (fun _ => False) 0 0 41 (kT_rf h) hj rfl (zBs_0 (fun _ _ _ z => z)) (fun _ z => z.elim) s0 (by omega) (by omega) rfl
end C16
