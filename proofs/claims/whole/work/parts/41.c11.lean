/-! ===== the class: gang, good, go, space, near, bar ===== -/
/-- behind a call of the class at x: its cells stand for Y', with the same works, nothing else changed -/
def kT (x : Nat) (wa : Int → Nat) (M0 M : zM) (Y : yS) : Prop := ∃ V L, kPo x wa (Y 8 0) M0 M V L ∧ kRp V L Y
theorem kT_rf {x : Nat} {wa : Int → Nat} {M : zM} {V Y : yS} {L : yL} (h : kR x wa M V L Y) : kT x wa M M Y := ⟨V, L, kPo_rf h.1 h.2.1, h.2.2⟩
theorem kT_R {x : Nat} {wa : Int → Nat} {M0 M : zM} {Y : yS} (h : kT x wa M0 M Y) : ∃ V L, kR x wa M V L Y := by
  obtain ⟨V, L, h1, h2⟩ := h
  exact ⟨V, L, h1.1, h1.2.1, h2⟩
theorem kT_tr {x : Nat} {wa : Int → Nat} {M0 M1 M2 : zM} {Y1 Y2 : yS} (h1 : kT x wa M0 M1 Y1) (h2 : kT x wa M1 M2 Y2) : kT x wa M0 M2 Y2 := by
  obtain ⟨V1, L1, a1, b1⟩ := h1
  obtain ⟨V2, L2, a2, b2⟩ := h2
  exact ⟨V2, L2, ⟨a2.1, a2.2.1, zFr_tr a1.2.2.1 a2.2.2.1, a2.2.2.2.trans a1.2.2.2⟩, b2⟩
theorem kRp_g {V V' Y Y' : yS} {L : yL} (h : kRp V L Y) (hS : rS V' Y') (hG : rG V' Y') (v : ∀ o, o ≠ 1 → o ≠ 2 → o ≠ 10 → o ≠ 18 → o ≠ 19 → ∀ i, V' o i = V o i) (y : ∀ f, f ≠ 0 → f ≠ 1 → f ≠ 2 → f ≠ 4 → f ≠ 5 → ∀ i, Y' f i = Y f i) : kRp V' L Y' := by
  have v' : ∀ o, (2 < o ∧ o < 10) ∨ (10 < o ∧ o < 18) ∨ 19 < o → ∀ i, V' o i = V o i := fun o ho => v o (by omega) (by omega) (by omega) (by omega) (by omega)
  have y' : ∀ f, f = 3 ∨ 5 < f → ∀ i, Y' f i = Y f i := fun f hf => y f (by omega) (by omega) (by omega) (by omega) (by omega)
  exact ⟨hS, hG, rNr_c (kRp_nr h) (v' 3 (by omega)) (y' 3 (by omega)), rBr_c (kRp_br h) (v' 4 (by omega)) (y' 7 (by omega)), rW_c (kRp_w h) (fun f _ _ => v' f (by omega)) (fun _ => rfl) (fun f _ _ => y' f (by omega)), rNd_c (kRp_nd h) (fun _ => rfl) (y' 8 (by omega)) (y' 17 (by omega)), rUn_c (kRp_un h) (fun _ => rfl) (y' 8 (by omega)) (y' 17 (by omega)), rTl_c (kRp_tl h) (fun _ => rfl) (y' 8 (by omega)) (y' 18 (by omega)), rFo_c (kRp_fo h) (fun _ => rfl) (y' 3 (by omega)) (y' 7 (by omega)) (y' 8 (by omega)) (y' 12 (by omega)) (y' 13 (by omega)), rEt_c (kRp_et h) (v' 32 (by omega)) (v' 33 (by omega)) (v' 5 (by omega) 5) (y' 8 (by omega)) (y' 9 (by omega)) (y' 17 (by omega)), rTk_c (kRp_tk h) (fun _ => rfl) (fun _ => rfl) (y' 8 (by omega)) (y' 12 (by omega)) (y' 14 (by omega)), rBd_c (kRp_bd h) (fun _ => rfl) (fun t ht => v' (13 + t) (by omega)) (y' 8 (by omega)) (y' 9 (by omega)) (y' 10 (by omega)) (y' 11 (by omega)) (y' 15 (by omega))⟩
/-- near and bars change, the foes are marked anew -/
theorem kRp_f {V V' Y Y' : yS} {L L' : yL} (h : kRp V L Y) (hS : rS V' Y') (hN : rNr V' Y') (hB : rBr V' Y') (hF : rFo L' Y') (v : ∀ o, o ≠ 1 → o ≠ 3 → o ≠ 4 → ∀ i, V' o i = V o i) (l : ∀ o i, o ≠ 37 → L' o i = L o i) (y : ∀ f, f ≠ 3 → f ≠ 6 → f ≠ 7 → ∀ i, Y' f i = Y f i) : kRp V' L' Y' := by
  have v' : ∀ o, o = 2 ∨ 4 < o → ∀ i, V' o i = V o i := fun o ho => v o (by omega) (by omega) (by omega)
  have y' : ∀ f, f < 3 ∨ f = 4 ∨ f = 5 ∨ 7 < f → ∀ i, Y' f i = Y f i := fun f hf => y f (by omega) (by omega) (by omega)
  have hG := h.2.1
  refine ⟨hS, ⟨fun i => by rw [v' 2 (by omega), y' 2 (by omega)]; exact hG.1 i, fun i => by rw [v' 18 (by omega), y' 4 (by omega)]; exact hG.2.1 i, fun i => by rw [v' 19 (by omega), y' 5 (by omega)]; exact hG.2.2 i⟩, hN, hB, rW_c (kRp_w h) (fun f _ _ => v' f (by omega)) (fun i => l 23 i (by omega)) (fun f _ _ => y' f (by omega)), rNd_c (kRp_nd h) (fun i => l 34 i (by omega)) (y' 8 (by omega)) (y' 17 (by omega)), rUn_c (kRp_un h) (fun i => l 35 i (by omega)) (y' 8 (by omega)) (y' 17 (by omega)), rTl_c (kRp_tl h) (fun i => l 36 i (by omega)) (y' 8 (by omega)) (y' 18 (by omega)), hF, rEt_c (kRp_et h) (v' 32 (by omega)) (v' 33 (by omega)) (v' 5 (by omega) 5) (y' 8 (by omega)) (y' 9 (by omega)) (y' 17 (by omega)), rTk_c (kRp_tk h) (fun i => l 8 i (by omega)) (fun i => l 9 i (by omega)) (y' 8 (by omega)) (y' 12 (by omega)) (y' 14 (by omega)), rBd_c (kRp_bd h) (fun i => l 11 i (by omega)) (fun t ht => v' (13 + t) (by omega)) (y' 8 (by omega)) (y' 9 (by omega)) (y' 10 (by omega)) (y' 11 (by omega)) (y' 15 (by omega))⟩
theorem yup_o {Y : yS} {f : Nat} {i x : Int} {g : Nat} (h : g ≠ f) (j : Int) : yup Y f i x g j = Y g j := yup_n _ _ _ _ (fun z => h z.1)
section C11
variable {E : zE} {d x : Nat} {wa : Int → Nat} {M : zM} {V Y : yS} {L : yL} {c : Int}
theorem k_gang (h : kR x wa M V L Y) (t v : Int) : zCi E mX6_gang (d + 2) 0 0 [vR (some x), vI t, vI v] M (fun r M' => r = p2i (gangOk t v) ∧ kT x wa M M' (gangY Y t v)) := by
  refine sX6_gang _ _ _ (fun X hr => vX6_gang_0 hr _ _ _ ?_)
  have no : ¬ gangOk t v → (0 : Int) = p2i (gangOk t v) ∧ kT x wa M M (gangY Y t v) := fun n => ⟨p2i_z0 n, by unfold gangY; rw [pif_f n]; exact kT_rf h⟩
  refine zu (k_isTrade t) ⟨fun q => no (fun z => p2i_0.mp q z.1), fun q => ⟨fun q2 => no (fun z => by have := z.2; omega), fun q2 => ⟨fun q3 => ?_, fun q3 => no (fun z => by have := z.2; omega)⟩⟩⟩
  have q := p2i_n0.mp q
  have ok : gangOk t v := ⟨q, q2, q3⟩
  simp only [kk0 h.1, kk1 h.1, kk2 h.1, kk3 h.1, kk4 h.1, kk5 h.1, kk6 h.1, kk7 h.1, kk8 h.1, kk9 h.1, kk10 h.1, kk11 h.1, kk12 h.1, kk13 h.1, kk14 h.1, kk15 h.1, kk16 h.1, kk17 h.1, kk18 h.1, kk19 h.1, kk20 h.1, kk21 h.1, kr0_0 h.1, kr0_1 h.1, kr0_2 h.1, kr0_3 h.1, kr0_4 h.1, kr1_0 h.1, kr1_1 h.1, kr1_2 h.1, kr5_0 h.1, kr5_1 h.1, kr5_2 h.1, kr5_3 h.1, kr10_0 h.1, kr10_1 h.1, kr17_0 h.1, kr17_1 h.1, kr17_2 h.1, kr17_3 h.1, kr17_4 h.1, kr20_0 h.1, kr20_1 h.1, kr20_2 h.1, kr20_3 h.1, ki1 h.2.1, ki2 h.2.1, ki3 h.2.1, ki4 h.2.1, ki5 h.2.1, ki7 h.2.1, kl8 h.2.1, kl9 h.2.1, ki10 h.2.1, kl11 h.2.1, ki13 h.2.1, ki14 h.2.1, ki15 h.2.1, ki16 h.2.1, ki17 h.2.1, ki18 h.2.1, ki19 h.2.1, ki20 h.2.1, ki21 h.2.1, Option.some.injEq, exists_eq_left', true_and, rs13 h.2.2, rs14 h.2.2, rs54 h.2.2, rs102 h.2.2, rg2 h.2.2, rg18 h.2.2, rg19 h.2.2]
  refine ⟨q.1, by omega, ?_⟩
  rintro M1 e1
  refine ⟨p2i_z1 ok, ?_⟩
  unfold gangY
  rw [pif_t ok]
  refine ⟨yup V 18 t v, L, kPo_I (o := 18) (kPo_rf h.1 h.2.1) e1 rfl (by decide), kRp_g h.2.2 h.2.2.1 ⟨h.2.2.2.1.1, fun i => ?_, h.2.2.2.1.2.2⟩ (fun o _ _ _ h18 _ => yup_o h18) (fun f _ _ _ h4 _ => yup_o h4)⟩
  by_cases e : i = t
  · rw [e, yup_s, yup_s]
  · rw [yup_n _ _ _ _ (fun z => e z.2), yup_n _ _ _ _ (fun z => e z.2)]; exact h.2.2.2.1.2.1 i
theorem k_good (h : kR x wa M V L Y) (t v : Int) : zCi E mX6_good (d + 2) 0 0 [vR (some x), vI t, vI v] M (fun r M' => r = p2i (goodOk t v) ∧ kT x wa M M' (goodY Y t v)) := by
  refine sX6_good _ _ _ (fun X hr => vX6_good_0 hr _ _ _ ?_)
  have no : ¬ goodOk t v → (0 : Int) = p2i (goodOk t v) ∧ kT x wa M M (goodY Y t v) := fun n => ⟨p2i_z0 n, by unfold goodY; rw [pif_f n]; exact kT_rf h⟩
  refine zu (k_isGood t) ⟨fun q => no (fun z => p2i_0.mp q z.1), fun q => ⟨fun q2 => no (fun z => by have := z.2; omega), fun q2 => ⟨fun q3 => ?_, fun q3 => no (fun z => by have := z.2; omega)⟩⟩⟩
  have q := p2i_n0.mp q
  have ok : goodOk t v := ⟨q, q2, q3⟩
  simp only [kk0 h.1, kk1 h.1, kk2 h.1, kk3 h.1, kk4 h.1, kk5 h.1, kk6 h.1, kk7 h.1, kk8 h.1, kk9 h.1, kk10 h.1, kk11 h.1, kk12 h.1, kk13 h.1, kk14 h.1, kk15 h.1, kk16 h.1, kk17 h.1, kk18 h.1, kk19 h.1, kk20 h.1, kk21 h.1, kr0_0 h.1, kr0_1 h.1, kr0_2 h.1, kr0_3 h.1, kr0_4 h.1, kr1_0 h.1, kr1_1 h.1, kr1_2 h.1, kr5_0 h.1, kr5_1 h.1, kr5_2 h.1, kr5_3 h.1, kr10_0 h.1, kr10_1 h.1, kr17_0 h.1, kr17_1 h.1, kr17_2 h.1, kr17_3 h.1, kr17_4 h.1, kr20_0 h.1, kr20_1 h.1, kr20_2 h.1, kr20_3 h.1, ki1 h.2.1, ki2 h.2.1, ki3 h.2.1, ki4 h.2.1, ki5 h.2.1, ki7 h.2.1, kl8 h.2.1, kl9 h.2.1, ki10 h.2.1, kl11 h.2.1, ki13 h.2.1, ki14 h.2.1, ki15 h.2.1, ki16 h.2.1, ki17 h.2.1, ki18 h.2.1, ki19 h.2.1, ki20 h.2.1, ki21 h.2.1, Option.some.injEq, exists_eq_left', true_and, rs13 h.2.2, rs14 h.2.2, rs54 h.2.2, rs102 h.2.2, rg2 h.2.2, rg18 h.2.2, rg19 h.2.2]
  refine ⟨q.1, by omega, ?_⟩
  rintro M1 e1
  refine ⟨p2i_z1 ok, ?_⟩
  unfold goodY
  rw [pif_t ok]
  refine ⟨yup V 19 t v, L, kPo_I (o := 19) (kPo_rf h.1 h.2.1) e1 rfl (by decide), kRp_g h.2.2 h.2.2.1 ⟨h.2.2.2.1.1, h.2.2.2.1.2.1, fun i => ?_⟩ (fun o _ _ _ _ h19 => yup_o h19) (fun f _ _ _ _ h5 => yup_o h5)⟩
  by_cases e : i = t
  · rw [e, yup_s, yup_s]
  · rw [yup_n _ _ _ _ (fun z => e z.2), yup_n _ _ _ _ (fun z => e z.2)]; exact h.2.2.2.1.2.2 i
theorem k_go (h : kR x wa M V L Y) (hi : yInv c Y) (n : Int) : zCi E mX6_go (d + 1) 0 0 [vR (some x), vI n] M (fun r M' => r = goR Y n ∧ kT x wa M M' (goY Y n)) := by
  refine sX6_go _ _ (fun X hr => vX6_go_0 hr _ _ ?_)
  have hn := yI_now hi
  have no : ¬ goOk n → (-1 : Int) = goR Y n ∧ kT x wa M M (goY Y n) := fun q => ⟨by unfold goR; rw [pif_f q], by unfold goY; rw [pif_f q]; exact kT_rf h⟩
  simp only [kk0 h.1, kk1 h.1, kk2 h.1, kk3 h.1, kk4 h.1, kk5 h.1, kk6 h.1, kk7 h.1, kk8 h.1, kk9 h.1, kk10 h.1, kk11 h.1, kk12 h.1, kk13 h.1, kk14 h.1, kk15 h.1, kk16 h.1, kk17 h.1, kk18 h.1, kk19 h.1, kk20 h.1, kk21 h.1, kr0_0 h.1, kr0_1 h.1, kr0_2 h.1, kr0_3 h.1, kr0_4 h.1, kr1_0 h.1, kr1_1 h.1, kr1_2 h.1, kr5_0 h.1, kr5_1 h.1, kr5_2 h.1, kr5_3 h.1, kr10_0 h.1, kr10_1 h.1, kr17_0 h.1, kr17_1 h.1, kr17_2 h.1, kr17_3 h.1, kr17_4 h.1, kr20_0 h.1, kr20_1 h.1, kr20_2 h.1, kr20_3 h.1, ki1 h.2.1, ki2 h.2.1, ki3 h.2.1, ki4 h.2.1, ki5 h.2.1, ki7 h.2.1, kl8 h.2.1, kl9 h.2.1, ki10 h.2.1, kl11 h.2.1, ki13 h.2.1, ki14 h.2.1, ki15 h.2.1, ki16 h.2.1, ki17 h.2.1, ki18 h.2.1, ki19 h.2.1, ki20 h.2.1, ki21 h.2.1, Option.some.injEq, exists_eq_left', true_and, rs13 h.2.2, rs14 h.2.2, rs54 h.2.2, rs102 h.2.2, rg2 h.2.2, rg18 h.2.2, rg19 h.2.2]
  refine ⟨fun q => no (fun z => by have := z.1; omega), fun q => ⟨fun q2 => ⟨by unfold zin; omega, ?_⟩, fun q2 => no (fun z => by have := z.2; omega)⟩⟩
  rintro M1 e1
  have ok : goOk n := ⟨q, q2⟩
  have en : min 400 (Y 0 0 + n) = goN Y n := by
    unfold goN
    by_cases z : 400 < Y 0 0 + n
    · rw [pif_t z]; omega
    · rw [pif_f z]; omega
  rw [en] at e1
  have hp := kPo_I (o := 10) (kPo_rf h.1 h.2.1) e1 rfl (by decide)
  simp only [kk0 hp.1, kk1 hp.1, kk2 hp.1, kk3 hp.1, kk4 hp.1, kk5 hp.1, kk6 hp.1, kk7 hp.1, kk8 hp.1, kk9 hp.1, kk10 hp.1, kk11 hp.1, kk12 hp.1, kk13 hp.1, kk14 hp.1, kk15 hp.1, kk16 hp.1, kk17 hp.1, kk18 hp.1, kk19 hp.1, kk20 hp.1, kk21 hp.1, kr0_0 hp.1, kr0_1 hp.1, kr0_2 hp.1, kr0_3 hp.1, kr0_4 hp.1, kr1_0 hp.1, kr1_1 hp.1, kr1_2 hp.1, kr5_0 hp.1, kr5_1 hp.1, kr5_2 hp.1, kr5_3 hp.1, kr10_0 hp.1, kr10_1 hp.1, kr17_0 hp.1, kr17_1 hp.1, kr17_2 hp.1, kr17_3 hp.1, kr17_4 hp.1, kr20_0 hp.1, kr20_1 hp.1, kr20_2 hp.1, kr20_3 hp.1, ki1 hp.2.1, ki2 hp.2.1, ki3 hp.2.1, ki4 hp.2.1, ki5 hp.2.1, ki7 hp.2.1, kl8 hp.2.1, kl9 hp.2.1, ki10 hp.2.1, kl11 hp.2.1, ki13 hp.2.1, ki14 hp.2.1, ki15 hp.2.1, ki16 hp.2.1, ki17 hp.2.1, ki18 hp.2.1, ki19 hp.2.1, ki20 hp.2.1, ki21 hp.2.1, Option.some.injEq, exists_eq_left', true_and]
  rw [yup_s]
  refine ⟨by unfold goR; rw [pif_t ok], ?_⟩
  unfold goY
  rw [pif_t ok]
  exact ⟨yup V 10 2 (goN Y n), L, hp, kRp_g h.2.2 ⟨h.2.2.1.1, h.2.2.1.2.1, h.2.2.1.2.2.1, by rw [yup_s]; rfl⟩ h.2.2.2.1 (fun o _ _ h10 _ _ => yup_o h10) (fun f h0 _ _ _ _ i => by show (if f = 0 then _ else _) = _; rw [if_neg h0])⟩
theorem k_space (h : kR x wa M V L Y) (hi : yInv c Y) (b : Int) : zCi E mX6_space (d + 2) 0 0 [vR (some x), vI b] M (fun r M' => r = spaceR Y b ∧ kT x wa M M' (spaceY Y b)) := by
  refine sX6_space _ _ (fun X hr => vX6_space_0 hr _ _ ?_)
  have hsp := yI_sp hi
  have no : ¬ spaceOk Y b → (-1 : Int) = spaceR Y b ∧ kT x wa M M (spaceY Y b) := fun q => ⟨by unfold spaceR; rw [pif_f q], by unfold spaceY; rw [pif_f q]; exact kT_rf h⟩
  simp only [kk0 h.1, kk1 h.1, kk2 h.1, kk3 h.1, kk4 h.1, kk5 h.1, kk6 h.1, kk7 h.1, kk8 h.1, kk9 h.1, kk10 h.1, kk11 h.1, kk12 h.1, kk13 h.1, kk14 h.1, kk15 h.1, kk16 h.1, kk17 h.1, kk18 h.1, kk19 h.1, kk20 h.1, kk21 h.1, kr0_0 h.1, kr0_1 h.1, kr0_2 h.1, kr0_3 h.1, kr0_4 h.1, kr1_0 h.1, kr1_1 h.1, kr1_2 h.1, kr5_0 h.1, kr5_1 h.1, kr5_2 h.1, kr5_3 h.1, kr10_0 h.1, kr10_1 h.1, kr17_0 h.1, kr17_1 h.1, kr17_2 h.1, kr17_3 h.1, kr17_4 h.1, kr20_0 h.1, kr20_1 h.1, kr20_2 h.1, kr20_3 h.1, ki1 h.2.1, ki2 h.2.1, ki3 h.2.1, ki4 h.2.1, ki5 h.2.1, ki7 h.2.1, kl8 h.2.1, kl9 h.2.1, ki10 h.2.1, kl11 h.2.1, ki13 h.2.1, ki14 h.2.1, ki15 h.2.1, ki16 h.2.1, ki17 h.2.1, ki18 h.2.1, ki19 h.2.1, ki20 h.2.1, ki21 h.2.1, Option.some.injEq, exists_eq_left', true_and, rs13 h.2.2, rs14 h.2.2, rs54 h.2.2, rs102 h.2.2, rg2 h.2.2, rg18 h.2.2, rg19 h.2.2]
  refine ⟨fun q => no (fun z => by have := z.1.1; omega), fun q => ⟨fun q2 => no (fun z => by have := z.1.2; omega), fun q2 => ⟨fun q3 => ⟨_, sX1_addSpace (P := fun r M' => r = spaceR Y b ∧ kT x wa M M' (spaceY Y b)) _ _ (fun X2 hr2 => vX1_addSpace_0 hr2 _ _ ?_), fun r M1 z => z⟩, fun q3 => no (fun z => z.2 (by omega))⟩⟩⟩
  have ok : spaceOk Y b := ⟨⟨q, q2⟩, by omega⟩
  simp only [kk0 h.1, kk1 h.1, kk2 h.1, kk3 h.1, kk4 h.1, kk5 h.1, kk6 h.1, kk7 h.1, kk8 h.1, kk9 h.1, kk10 h.1, kk11 h.1, kk12 h.1, kk13 h.1, kk14 h.1, kk15 h.1, kk16 h.1, kk17 h.1, kk18 h.1, kk19 h.1, kk20 h.1, kk21 h.1, kr0_0 h.1, kr0_1 h.1, kr0_2 h.1, kr0_3 h.1, kr0_4 h.1, kr1_0 h.1, kr1_1 h.1, kr1_2 h.1, kr5_0 h.1, kr5_1 h.1, kr5_2 h.1, kr5_3 h.1, kr10_0 h.1, kr10_1 h.1, kr17_0 h.1, kr17_1 h.1, kr17_2 h.1, kr17_3 h.1, kr17_4 h.1, kr20_0 h.1, kr20_1 h.1, kr20_2 h.1, kr20_3 h.1, ki1 h.2.1, ki2 h.2.1, ki3 h.2.1, ki4 h.2.1, ki5 h.2.1, ki7 h.2.1, kl8 h.2.1, kl9 h.2.1, ki10 h.2.1, kl11 h.2.1, ki13 h.2.1, ki14 h.2.1, ki15 h.2.1, ki16 h.2.1, ki17 h.2.1, ki18 h.2.1, ki19 h.2.1, ki20 h.2.1, ki21 h.2.1, Option.some.injEq, exists_eq_left', true_and, rs13 h.2.2, rs14 h.2.2, rs54 h.2.2, rs102 h.2.2, rg2 h.2.2, rg18 h.2.2, rg19 h.2.2]
  refine ⟨hsp.1, by omega, ?_⟩
  rintro M1 e1
  have hp1 := kPo_I (o := 2) (kPo_rf h.1 h.2.1) e1 rfl (by decide)
  have k1 : yup V 2 (Y 1 0) b 1 3 = Y 1 0 := h.2.2.1.1
  simp only [kk0 hp1.1, kk1 hp1.1, kk2 hp1.1, kk3 hp1.1, kk4 hp1.1, kk5 hp1.1, kk6 hp1.1, kk7 hp1.1, kk8 hp1.1, kk9 hp1.1, kk10 hp1.1, kk11 hp1.1, kk12 hp1.1, kk13 hp1.1, kk14 hp1.1, kk15 hp1.1, kk16 hp1.1, kk17 hp1.1, kk18 hp1.1, kk19 hp1.1, kk20 hp1.1, kk21 hp1.1, kr0_0 hp1.1, kr0_1 hp1.1, kr0_2 hp1.1, kr0_3 hp1.1, kr0_4 hp1.1, kr1_0 hp1.1, kr1_1 hp1.1, kr1_2 hp1.1, kr5_0 hp1.1, kr5_1 hp1.1, kr5_2 hp1.1, kr5_3 hp1.1, kr10_0 hp1.1, kr10_1 hp1.1, kr17_0 hp1.1, kr17_1 hp1.1, kr17_2 hp1.1, kr17_3 hp1.1, kr17_4 hp1.1, kr20_0 hp1.1, kr20_1 hp1.1, kr20_2 hp1.1, kr20_3 hp1.1, ki1 hp1.2.1, ki2 hp1.2.1, ki3 hp1.2.1, ki4 hp1.2.1, ki5 hp1.2.1, ki7 hp1.2.1, kl8 hp1.2.1, kl9 hp1.2.1, ki10 hp1.2.1, kl11 hp1.2.1, ki13 hp1.2.1, ki14 hp1.2.1, ki15 hp1.2.1, ki16 hp1.2.1, ki17 hp1.2.1, ki18 hp1.2.1, ki19 hp1.2.1, ki20 hp1.2.1, ki21 hp1.2.1, Option.some.injEq, exists_eq_left', true_and, k1]
  refine ⟨by unfold zin; omega, ?_⟩
  rintro M2 e2
  have hp2 := kPo_I (o := 1) hp1 e2 rfl (by decide)
  simp only [kk0 hp2.1, kk1 hp2.1, kk2 hp2.1, kk3 hp2.1, kk4 hp2.1, kk5 hp2.1, kk6 hp2.1, kk7 hp2.1, kk8 hp2.1, kk9 hp2.1, kk10 hp2.1, kk11 hp2.1, kk12 hp2.1, kk13 hp2.1, kk14 hp2.1, kk15 hp2.1, kk16 hp2.1, kk17 hp2.1, kk18 hp2.1, kk19 hp2.1, kk20 hp2.1, kk21 hp2.1, kr0_0 hp2.1, kr0_1 hp2.1, kr0_2 hp2.1, kr0_3 hp2.1, kr0_4 hp2.1, kr1_0 hp2.1, kr1_1 hp2.1, kr1_2 hp2.1, kr5_0 hp2.1, kr5_1 hp2.1, kr5_2 hp2.1, kr5_3 hp2.1, kr10_0 hp2.1, kr10_1 hp2.1, kr17_0 hp2.1, kr17_1 hp2.1, kr17_2 hp2.1, kr17_3 hp2.1, kr17_4 hp2.1, kr20_0 hp2.1, kr20_1 hp2.1, kr20_2 hp2.1, kr20_3 hp2.1, ki1 hp2.2.1, ki2 hp2.2.1, ki3 hp2.2.1, ki4 hp2.2.1, ki5 hp2.2.1, ki7 hp2.2.1, kl8 hp2.2.1, kl9 hp2.2.1, ki10 hp2.2.1, kl11 hp2.2.1, ki13 hp2.2.1, ki14 hp2.2.1, ki15 hp2.2.1, ki16 hp2.2.1, ki17 hp2.2.1, ki18 hp2.2.1, ki19 hp2.2.1, ki20 hp2.2.1, ki21 hp2.2.1, Option.some.injEq, exists_eq_left', true_and]
  rw [yup_s]
  refine ⟨by unfold zin; omega, ?_, ?_⟩
  · unfold spaceR; rw [pif_t ok]; omega
  · unfold spaceY
    rw [pif_t ok]
    refine ⟨_, L, hp2, kRp_g h.2.2 ⟨by rw [yup_s]; rfl, ?_, ?_, ?_⟩ ⟨fun i => ?_, h.2.2.2.1.2.1, h.2.2.2.1.2.2⟩ (fun o h1 h2 _ _ _ i => by rw [yup_o h1, yup_o h2]) (fun f _ h1 h2 _ _ i => by show (if f = 1 then _ else _) = _; rw [if_neg h1, yup_o h2])⟩
    · rw [yup_n _ _ _ _ (by omega), yup_o (by omega)]; exact h.2.2.1.2.1
    · exact h.2.2.1.2.2.1
    · exact h.2.2.1.2.2.2
    · show yup (yup V 2 (Y 1 0) b) 1 3 (Y 1 0 + 1) 2 i = yup Y 2 (Y 1 0) b 2 i
      rw [yup_o (by omega)]
      by_cases e : i = Y 1 0
      · rw [e, yup_s, yup_s]
      · rw [yup_n _ _ _ _ (fun z => e z.2), yup_n _ _ _ _ (fun z => e z.2)]; exact h.2.2.2.1.1 i
theorem k_near (h : kR x wa M V L Y) (hj : yJ c Y) (a b : Int) : zCi E mX6_near (d + 5) 0 0 [vR (some x), vI a, vI b] M (fun r M' => r = p2i (nearOk Y a b) ∧ kT x wa M M' (nearY Y a b)) := by
  refine sX6_near _ _ _ (fun X hr => vX6_near_0 hr _ _ _ ?_)
  have hi := hj.1
  have hsp := yI_sp hi
  have no : ¬ nearOk Y a b → (0 : Int) = p2i (nearOk Y a b) ∧ kT x wa M M (nearY Y a b) := fun n => ⟨p2i_z0 n, by unfold nearY; rw [pif_f n]; exact kT_rf h⟩
  have hv3 := kRp_nr h.2.2
  simp only [kk0 h.1, kk1 h.1, kk2 h.1, kk3 h.1, kk4 h.1, kk5 h.1, kk6 h.1, kk7 h.1, kk8 h.1, kk9 h.1, kk10 h.1, kk11 h.1, kk12 h.1, kk13 h.1, kk14 h.1, kk15 h.1, kk16 h.1, kk17 h.1, kk18 h.1, kk19 h.1, kk20 h.1, kk21 h.1, kr0_0 h.1, kr0_1 h.1, kr0_2 h.1, kr0_3 h.1, kr0_4 h.1, kr1_0 h.1, kr1_1 h.1, kr1_2 h.1, kr5_0 h.1, kr5_1 h.1, kr5_2 h.1, kr5_3 h.1, kr10_0 h.1, kr10_1 h.1, kr17_0 h.1, kr17_1 h.1, kr17_2 h.1, kr17_3 h.1, kr17_4 h.1, kr20_0 h.1, kr20_1 h.1, kr20_2 h.1, kr20_3 h.1, ki1 h.2.1, ki2 h.2.1, ki3 h.2.1, ki4 h.2.1, ki5 h.2.1, ki7 h.2.1, kl8 h.2.1, kl9 h.2.1, ki10 h.2.1, kl11 h.2.1, ki13 h.2.1, ki14 h.2.1, ki15 h.2.1, ki16 h.2.1, ki17 h.2.1, ki18 h.2.1, ki19 h.2.1, ki20 h.2.1, ki21 h.2.1, Option.some.injEq, exists_eq_left', true_and, rs13 h.2.2, rs14 h.2.2, rs54 h.2.2, rs102 h.2.2, rg2 h.2.2, rg18 h.2.2, rg19 h.2.2]
  refine zu (k_hasSpace h.1 h.2.1 (rs13 h.2.2) a) ⟨fun q => no (fun z => p2i_0.mp q z.1), fun q => ?_⟩
  simp only [kk0 h.1, kk1 h.1, kk2 h.1, kk3 h.1, kk4 h.1, kk5 h.1, kk6 h.1, kk7 h.1, kk8 h.1, kk9 h.1, kk10 h.1, kk11 h.1, kk12 h.1, kk13 h.1, kk14 h.1, kk15 h.1, kk16 h.1, kk17 h.1, kk18 h.1, kk19 h.1, kk20 h.1, kk21 h.1, kr0_0 h.1, kr0_1 h.1, kr0_2 h.1, kr0_3 h.1, kr0_4 h.1, kr1_0 h.1, kr1_1 h.1, kr1_2 h.1, kr5_0 h.1, kr5_1 h.1, kr5_2 h.1, kr5_3 h.1, kr10_0 h.1, kr10_1 h.1, kr17_0 h.1, kr17_1 h.1, kr17_2 h.1, kr17_3 h.1, kr17_4 h.1, kr20_0 h.1, kr20_1 h.1, kr20_2 h.1, kr20_3 h.1, ki1 h.2.1, ki2 h.2.1, ki3 h.2.1, ki4 h.2.1, ki5 h.2.1, ki7 h.2.1, kl8 h.2.1, kl9 h.2.1, ki10 h.2.1, kl11 h.2.1, ki13 h.2.1, ki14 h.2.1, ki15 h.2.1, ki16 h.2.1, ki17 h.2.1, ki18 h.2.1, ki19 h.2.1, ki20 h.2.1, ki21 h.2.1, Option.some.injEq, exists_eq_left', true_and, rs13 h.2.2, rs14 h.2.2, rs54 h.2.2, rs102 h.2.2, rg2 h.2.2, rg18 h.2.2, rg19 h.2.2]
  refine zu (k_hasSpace h.1 h.2.1 (rs13 h.2.2) b) ⟨fun q2 => no (fun z => p2i_0.mp q2 z.2.1), fun q2 => ⟨fun q3 => no (fun z => z.2.2.1 q3), fun q3 => ?_⟩⟩
  have q := p2i_n0.mp q
  have q2 := p2i_n0.mp q2
  simp only [kk0 h.1, kk1 h.1, kk2 h.1, kk3 h.1, kk4 h.1, kk5 h.1, kk6 h.1, kk7 h.1, kk8 h.1, kk9 h.1, kk10 h.1, kk11 h.1, kk12 h.1, kk13 h.1, kk14 h.1, kk15 h.1, kk16 h.1, kk17 h.1, kk18 h.1, kk19 h.1, kk20 h.1, kk21 h.1, kr0_0 h.1, kr0_1 h.1, kr0_2 h.1, kr0_3 h.1, kr0_4 h.1, kr1_0 h.1, kr1_1 h.1, kr1_2 h.1, kr5_0 h.1, kr5_1 h.1, kr5_2 h.1, kr5_3 h.1, kr10_0 h.1, kr10_1 h.1, kr17_0 h.1, kr17_1 h.1, kr17_2 h.1, kr17_3 h.1, kr17_4 h.1, kr20_0 h.1, kr20_1 h.1, kr20_2 h.1, kr20_3 h.1, ki1 h.2.1, ki2 h.2.1, ki3 h.2.1, ki4 h.2.1, ki5 h.2.1, ki7 h.2.1, kl8 h.2.1, kl9 h.2.1, ki10 h.2.1, kl11 h.2.1, ki13 h.2.1, ki14 h.2.1, ki15 h.2.1, ki16 h.2.1, ki17 h.2.1, ki18 h.2.1, ki19 h.2.1, ki20 h.2.1, ki21 h.2.1, Option.some.injEq, exists_eq_left', true_and, rs13 h.2.2, rs14 h.2.2, rs54 h.2.2, rs102 h.2.2, rg2 h.2.2, rg18 h.2.2, rg19 h.2.2]
  refine zu (k_areNear h.1 h.2.1 hv3 q.1 (by omega) q2.1 (by omega)) ⟨fun q4 => ?_, fun q4 => no (fun z => p2i_n0.mp q4 z.2.2.2)⟩
  have q4 : Y 3 (20 * a + b) = 0 := Classical.not_not.mp (p2i_0.mp q4)
  have ok : nearOk Y a b := ⟨q, q2, q3, q4⟩
  have hj' := yJ_near1 hj ok
  have pa := (hv3 a q.1 (by omega)).1
  have pb := (hv3 b q2.1 (by omega)).1
  simp only [kk0 h.1, kk1 h.1, kk2 h.1, kk3 h.1, kk4 h.1, kk5 h.1, kk6 h.1, kk7 h.1, kk8 h.1, kk9 h.1, kk10 h.1, kk11 h.1, kk12 h.1, kk13 h.1, kk14 h.1, kk15 h.1, kk16 h.1, kk17 h.1, kk18 h.1, kk19 h.1, kk20 h.1, kk21 h.1, kr0_0 h.1, kr0_1 h.1, kr0_2 h.1, kr0_3 h.1, kr0_4 h.1, kr1_0 h.1, kr1_1 h.1, kr1_2 h.1, kr5_0 h.1, kr5_1 h.1, kr5_2 h.1, kr5_3 h.1, kr10_0 h.1, kr10_1 h.1, kr17_0 h.1, kr17_1 h.1, kr17_2 h.1, kr17_3 h.1, kr17_4 h.1, kr20_0 h.1, kr20_1 h.1, kr20_2 h.1, kr20_3 h.1, ki1 h.2.1, ki2 h.2.1, ki3 h.2.1, ki4 h.2.1, ki5 h.2.1, ki7 h.2.1, kl8 h.2.1, kl9 h.2.1, ki10 h.2.1, kl11 h.2.1, ki13 h.2.1, ki14 h.2.1, ki15 h.2.1, ki16 h.2.1, ki17 h.2.1, ki18 h.2.1, ki19 h.2.1, ki20 h.2.1, ki21 h.2.1, Option.some.injEq, exists_eq_left', true_and, rs13 h.2.2, rs14 h.2.2, rs54 h.2.2, rs102 h.2.2, rg2 h.2.2, rg18 h.2.2, rg19 h.2.2]
  refine ⟨fun M1 => ∃ V1, kPo x wa (Y 8 0) M M1 V1 L ∧ (∀ o, o ≠ 3 → ∀ i, V1 o i = V o i) ∧ rNr V1 (yup (yup Y 3 (20 * a + b) 1) 3 (20 * b + a) 1), sX1_join _ _ _ (fun X2 hr2 => vX1_join_0 hr2 _ _ _ ?_), ?_⟩
  · simp only [kk0 h.1, kk1 h.1, kk2 h.1, kk3 h.1, kk4 h.1, kk5 h.1, kk6 h.1, kk7 h.1, kk8 h.1, kk9 h.1, kk10 h.1, kk11 h.1, kk12 h.1, kk13 h.1, kk14 h.1, kk15 h.1, kk16 h.1, kk17 h.1, kk18 h.1, kk19 h.1, kk20 h.1, kk21 h.1, kr0_0 h.1, kr0_1 h.1, kr0_2 h.1, kr0_3 h.1, kr0_4 h.1, kr1_0 h.1, kr1_1 h.1, kr1_2 h.1, kr5_0 h.1, kr5_1 h.1, kr5_2 h.1, kr5_3 h.1, kr10_0 h.1, kr10_1 h.1, kr17_0 h.1, kr17_1 h.1, kr17_2 h.1, kr17_3 h.1, kr17_4 h.1, kr20_0 h.1, kr20_1 h.1, kr20_2 h.1, kr20_3 h.1, ki1 h.2.1, ki2 h.2.1, ki3 h.2.1, ki4 h.2.1, ki5 h.2.1, ki7 h.2.1, kl8 h.2.1, kl9 h.2.1, ki10 h.2.1, kl11 h.2.1, ki13 h.2.1, ki14 h.2.1, ki15 h.2.1, ki16 h.2.1, ki17 h.2.1, ki18 h.2.1, ki19 h.2.1, ki20 h.2.1, ki21 h.2.1, Option.some.injEq, exists_eq_left', true_and, rs13 h.2.2, rs14 h.2.2, rs54 h.2.2, rs102 h.2.2, rg2 h.2.2, rg18 h.2.2, rg19 h.2.2]
    refine ⟨q.1, by omega, q2.1, by omega, pa.1, Int.natCast_nonneg _, q.1, by omega, ?_⟩
    rintro M1 e1
    have hp1 := kPo_I (o := 3) (kPo_rf h.1 h.2.1) e1 rfl (by decide)
    have kb : yup V 3 a (zor (V 3 a) (zpw b)) 3 b = V 3 b := yup_n _ _ _ _ (fun z => q3 z.2.symm)
    simp only [kk0 hp1.1, kk1 hp1.1, kk2 hp1.1, kk3 hp1.1, kk4 hp1.1, kk5 hp1.1, kk6 hp1.1, kk7 hp1.1, kk8 hp1.1, kk9 hp1.1, kk10 hp1.1, kk11 hp1.1, kk12 hp1.1, kk13 hp1.1, kk14 hp1.1, kk15 hp1.1, kk16 hp1.1, kk17 hp1.1, kk18 hp1.1, kk19 hp1.1, kk20 hp1.1, kk21 hp1.1, kr0_0 hp1.1, kr0_1 hp1.1, kr0_2 hp1.1, kr0_3 hp1.1, kr0_4 hp1.1, kr1_0 hp1.1, kr1_1 hp1.1, kr1_2 hp1.1, kr5_0 hp1.1, kr5_1 hp1.1, kr5_2 hp1.1, kr5_3 hp1.1, kr10_0 hp1.1, kr10_1 hp1.1, kr17_0 hp1.1, kr17_1 hp1.1, kr17_2 hp1.1, kr17_3 hp1.1, kr17_4 hp1.1, kr20_0 hp1.1, kr20_1 hp1.1, kr20_2 hp1.1, kr20_3 hp1.1, ki1 hp1.2.1, ki2 hp1.2.1, ki3 hp1.2.1, ki4 hp1.2.1, ki5 hp1.2.1, ki7 hp1.2.1, kl8 hp1.2.1, kl9 hp1.2.1, ki10 hp1.2.1, kl11 hp1.2.1, ki13 hp1.2.1, ki14 hp1.2.1, ki15 hp1.2.1, ki16 hp1.2.1, ki17 hp1.2.1, ki18 hp1.2.1, ki19 hp1.2.1, ki20 hp1.2.1, ki21 hp1.2.1, Option.some.injEq, exists_eq_left', true_and, kb]
    refine ⟨q2.1, by omega, q.1, by omega, pb.1, Int.natCast_nonneg _, q2.1, by omega, ?_⟩
    rintro M2 e2
    have hp2 := kPo_I (o := 3) hp1 e2 rfl (by decide)
    refine ⟨_, hp2, fun o ho i => by rw [yup_o ho, yup_o ho], fun i i0 i1 => ?_⟩
    have e20 : ((2 ^ 20 : Nat) : Int) = 1048576 := rfl
    have za := zor_lt (x := V 3 a) (y := b) (n := 20) (by omega) (by omega) pa.1
    have zb := zor_lt (x := V 3 b) (y := a) (n := 20) (by omega) (by omega) pb.1
    have hv := hv3 i i0 i1
    have ey : ∀ j, 0 ≤ j → j < 20 → (yup (yup Y 3 (20 * a + b) 1) 3 (20 * b + a) 1 3 (20 * i + j) ≠ 0 ↔ (Y 3 (20 * i + j) ≠ 0 ∨ (i = b ∧ j = a) ∨ (i = a ∧ j = b))) := by
      intro j j0 j1
      unfold yup
      by_cases z1 : 20 * i + j = 20 * b + a
      · rw [if_pos ⟨rfl, z1⟩]
        exact ⟨fun _ => Or.inr (Or.inl (by omega)), fun _ => by omega⟩
      · rw [if_neg (fun z => z1 z.2)]
        by_cases z2 : 20 * i + j = 20 * a + b
        · rw [if_pos ⟨rfl, z2⟩]
          exact ⟨fun _ => Or.inr (Or.inr (by omega)), fun _ => by omega⟩
        · rw [if_neg (fun z => z2 z.2)]
          exact ⟨Or.inl, fun z => z.elim id (fun z => by omega)⟩
    by_cases eb : i = b
    · rw [eb, yup_s]
      rw [eb] at ey hv
      refine ⟨by omega, fun j j0 j1 => ?_⟩
      rw [zor_pw, ey j j0 j1, hv.2 j j0 j1]
      constructor
      · rintro (z | z)
        · exact Or.inl z
        · exact Or.inr (Or.inl ⟨rfl, by omega⟩)
      · rintro (z | z | z)
        · exact Or.inl z
        · exact Or.inr (by omega)
        · exact absurd z.1.symm q3
    · rw [yup_n _ _ _ _ (fun z => eb z.2)]
      by_cases ea : i = a
      · rw [ea, yup_s]
        rw [ea] at ey hv
        refine ⟨by omega, fun j j0 j1 => ?_⟩
        rw [zor_pw, ey j j0 j1, hv.2 j j0 j1]
        constructor
        · rintro (z | z)
          · exact Or.inl z
          · exact Or.inr (Or.inr ⟨rfl, by omega⟩)
        · rintro (z | z | z)
          · exact Or.inl z
          · exact absurd z.1 q3
          · exact Or.inr (by omega)
      · rw [yup_n _ _ _ _ (fun z => ea z.2)]
        refine ⟨hv.1, fun j j0 j1 => ?_⟩
        rw [ey j j0 j1, hv.2 j j0 j1]
        exact ⟨Or.inl, fun z => z.elim id (fun z => by omega)⟩
  · rintro M1 ⟨V1, hp1, ho, hn1⟩
    have e54 : V1 5 4 = yup (yup Y 3 (20 * a + b) 1) 3 (20 * b + a) 1 8 0 := by rw [ho 5 (by decide)]; exact h.2.2.1.2.2.1
    have hw1 : rW V1 L (yup (yup Y 3 (20 * a + b) 1) 3 (20 * b + a) 1) := rW_c (kRp_w h.2.2) (fun f _ _ => ho f (by omega)) (fun _ => rfl) (fun f _ _ i => by rw [yup_o (by omega), yup_o (by omega)])
    have hb1 : rBr V1 (yup (yup Y 3 (20 * a + b) 1) 3 (20 * b + a) 1) := rBr_c (kRp_br h.2.2) (ho 4 (by decide)) (fun _ => rfl)
    refine ⟨kk0 hp1.1, x + 17, kr0_3 hp1.1, kk17 hp1.1, _, k_markFoes (Y := yup (yup Y 3 (20 * a + b) 1) 3 (20 * b + a) 1) hp1.1 hp1.2.1 e54 hw1 hn1 hb1 hj'.1 hj'.2.2.1, ?_⟩
    rintro M2 ⟨L2, hp2, hl, hf⟩
    refine ⟨p2i_z1 ok, ?_⟩
    unfold nearY
    rw [pif_t ok]
    exact ⟨V1, L2, kPo_tr hp1 hp2, kRp_f h.2.2 ⟨by rw [ho 1 (by decide)]; exact h.2.2.1.1, by rw [ho 1 (by decide)]; exact h.2.2.1.2.1, by rw [ho 5 (by decide)]; exact h.2.2.1.2.2.1, by rw [ho 10 (by decide)]; exact h.2.2.1.2.2.2⟩ hn1 hb1 hf (fun o _ h3 _ => ho o h3) hl (fun f h3 _ _ i => by rw [yup_o h3, yup_o h3])⟩
theorem k_bar (h : kR x wa M V L Y) (hj : yJ c Y) (hc : c < 600) (a b k : Int) : zCi E mX6_bar (d + 5) 0 0 [vR (some x), vI a, vI b, vI k] M (fun r M' => r = p2i (barOk Y a b k) ∧ kT x wa M M' (barY Y a b k)) := by
  refine sX6_bar _ _ _ _ (fun X hr => vX6_bar_0 hr _ _ _ _ ?_)
  have hi := hj.1
  have no : ¬ barOk Y a b k → (0 : Int) = p2i (barOk Y a b k) ∧ kT x wa M M (barY Y a b k) := fun n => ⟨p2i_z0 n, by unfold barY; rw [pif_f n]; exact kT_rf h⟩
  have hv4 := kRp_br h.2.2
  refine zu (k_isKind a) ⟨fun q => no (fun z => p2i_0.mp q z.1), fun q => zu (k_isKind b) ⟨fun q2 => no (fun z => p2i_0.mp q2 z.2.1), fun q2 => ⟨fun q3 => no (fun z => by have := z.2.2.1; omega), fun q3 => ⟨fun q4 => no (fun z => by have := z.2.2.1; omega), fun q4 => ?_⟩⟩⟩⟩
  have q := p2i_n0.mp q
  have q2 := p2i_n0.mp q2
  simp only [kk0 h.1, kk1 h.1, kk2 h.1, kk3 h.1, kk4 h.1, kk5 h.1, kk6 h.1, kk7 h.1, kk8 h.1, kk9 h.1, kk10 h.1, kk11 h.1, kk12 h.1, kk13 h.1, kk14 h.1, kk15 h.1, kk16 h.1, kk17 h.1, kk18 h.1, kk19 h.1, kk20 h.1, kk21 h.1, kr0_0 h.1, kr0_1 h.1, kr0_2 h.1, kr0_3 h.1, kr0_4 h.1, kr1_0 h.1, kr1_1 h.1, kr1_2 h.1, kr5_0 h.1, kr5_1 h.1, kr5_2 h.1, kr5_3 h.1, kr10_0 h.1, kr10_1 h.1, kr17_0 h.1, kr17_1 h.1, kr17_2 h.1, kr17_3 h.1, kr17_4 h.1, kr20_0 h.1, kr20_1 h.1, kr20_2 h.1, kr20_3 h.1, ki1 h.2.1, ki2 h.2.1, ki3 h.2.1, ki4 h.2.1, ki5 h.2.1, ki7 h.2.1, kl8 h.2.1, kl9 h.2.1, ki10 h.2.1, kl11 h.2.1, ki13 h.2.1, ki14 h.2.1, ki15 h.2.1, ki16 h.2.1, ki17 h.2.1, ki18 h.2.1, ki19 h.2.1, ki20 h.2.1, ki21 h.2.1, Option.some.injEq, exists_eq_left', true_and, rs13 h.2.2, rs14 h.2.2, rs54 h.2.2, rs102 h.2.2, rg2 h.2.2, rg18 h.2.2, rg19 h.2.2]
  refine zu (k_isBarred h.1 h.2.1 hv4 q.1 (by omega) q2.1 (by omega) q3 q4) ⟨fun q5 => ?_, fun q5 => no (fun z => z.2.2.2 (p2i_n0.mp q5))⟩
  have ok : barOk Y a b k := ⟨q, q2, ⟨q3, by omega⟩, p2i_0.mp q5⟩
  have hj' := yJ_bar1 hj hc ok
  have h6 := hi.2.2.2.1
  have hc6 := hi.1
  have pa := (hv4 k a q3 q4 q.1 (by omega)).1
  have pb := (hv4 k b q3 q4 q2.1 (by omega)).1
  have e32 : ((2 ^ 5 : Nat) : Int) = 32 := rfl
  have za := zor_lt (x := V 4 (k * 5 + a)) (y := b) (n := 5) (by omega) (by omega) pa.1
  simp only [kk0 h.1, kk1 h.1, kk2 h.1, kk3 h.1, kk4 h.1, kk5 h.1, kk6 h.1, kk7 h.1, kk8 h.1, kk9 h.1, kk10 h.1, kk11 h.1, kk12 h.1, kk13 h.1, kk14 h.1, kk15 h.1, kk16 h.1, kk17 h.1, kk18 h.1, kk19 h.1, kk20 h.1, kk21 h.1, kr0_0 h.1, kr0_1 h.1, kr0_2 h.1, kr0_3 h.1, kr0_4 h.1, kr1_0 h.1, kr1_1 h.1, kr1_2 h.1, kr5_0 h.1, kr5_1 h.1, kr5_2 h.1, kr5_3 h.1, kr10_0 h.1, kr10_1 h.1, kr17_0 h.1, kr17_1 h.1, kr17_2 h.1, kr17_3 h.1, kr17_4 h.1, kr20_0 h.1, kr20_1 h.1, kr20_2 h.1, kr20_3 h.1, ki1 h.2.1, ki2 h.2.1, ki3 h.2.1, ki4 h.2.1, ki5 h.2.1, ki7 h.2.1, kl8 h.2.1, kl9 h.2.1, ki10 h.2.1, kl11 h.2.1, ki13 h.2.1, ki14 h.2.1, ki15 h.2.1, ki16 h.2.1, ki17 h.2.1, ki18 h.2.1, ki19 h.2.1, ki20 h.2.1, ki21 h.2.1, Option.some.injEq, exists_eq_left', true_and, rs13 h.2.2, rs14 h.2.2, rs54 h.2.2, rs102 h.2.2, rg2 h.2.2, rg18 h.2.2, rg19 h.2.2]
  refine ⟨fun M1 => ∃ V1, kPo x wa (Y 8 0) M M1 V1 L ∧ (∀ o, o ≠ 1 → o ≠ 4 → ∀ i, V1 o i = V o i) ∧ V1 1 3 = V 1 3 ∧ V1 1 4 = Y 6 0 + 1 ∧ rBr V1 (ysc (barY2 Y a b k) 6 (Y 6 0 + 1)), sX1_forbid _ _ _ _ (fun X2 hr2 => vX1_forbid_0 hr2 _ _ _ _ ?_), ?_⟩
  · simp only [kk0 h.1, kk1 h.1, kk2 h.1, kk3 h.1, kk4 h.1, kk5 h.1, kk6 h.1, kk7 h.1, kk8 h.1, kk9 h.1, kk10 h.1, kk11 h.1, kk12 h.1, kk13 h.1, kk14 h.1, kk15 h.1, kk16 h.1, kk17 h.1, kk18 h.1, kk19 h.1, kk20 h.1, kk21 h.1, kr0_0 h.1, kr0_1 h.1, kr0_2 h.1, kr0_3 h.1, kr0_4 h.1, kr1_0 h.1, kr1_1 h.1, kr1_2 h.1, kr5_0 h.1, kr5_1 h.1, kr5_2 h.1, kr5_3 h.1, kr10_0 h.1, kr10_1 h.1, kr17_0 h.1, kr17_1 h.1, kr17_2 h.1, kr17_3 h.1, kr17_4 h.1, kr20_0 h.1, kr20_1 h.1, kr20_2 h.1, kr20_3 h.1, ki1 h.2.1, ki2 h.2.1, ki3 h.2.1, ki4 h.2.1, ki5 h.2.1, ki7 h.2.1, kl8 h.2.1, kl9 h.2.1, ki10 h.2.1, kl11 h.2.1, ki13 h.2.1, ki14 h.2.1, ki15 h.2.1, ki16 h.2.1, ki17 h.2.1, ki18 h.2.1, ki19 h.2.1, ki20 h.2.1, ki21 h.2.1, Option.some.injEq, exists_eq_left', true_and, rs13 h.2.2, rs14 h.2.2, rs54 h.2.2, rs102 h.2.2, rg2 h.2.2, rg18 h.2.2, rg19 h.2.2]
    refine ⟨by unfold zin; omega, by unfold zin; omega, by omega, by omega, q2.1, by omega, pa.1, Int.natCast_nonneg _, by omega, by omega, ?_⟩
    rintro M1 e1
    have hp1 := kPo_I (o := 4) (kPo_rf h.1 h.2.1) e1 rfl (by decide)
    have kb0 : 0 ≤ yup V 4 (k * 5 + a) (zor (V 4 (k * 5 + a)) (zpw b)) 4 (k * 5 + b) ∧ yup V 4 (k * 5 + a) (zor (V 4 (k * 5 + a)) (zpw b)) 4 (k * 5 + b) < 32 := by
      by_cases e : k * 5 + b = k * 5 + a
      · rw [e, yup_s]; omega
      · rw [yup_n _ _ _ _ (fun z => e z.2)]; exact pb
    simp only [kk0 hp1.1, kk1 hp1.1, kk2 hp1.1, kk3 hp1.1, kk4 hp1.1, kk5 hp1.1, kk6 hp1.1, kk7 hp1.1, kk8 hp1.1, kk9 hp1.1, kk10 hp1.1, kk11 hp1.1, kk12 hp1.1, kk13 hp1.1, kk14 hp1.1, kk15 hp1.1, kk16 hp1.1, kk17 hp1.1, kk18 hp1.1, kk19 hp1.1, kk20 hp1.1, kk21 hp1.1, kr0_0 hp1.1, kr0_1 hp1.1, kr0_2 hp1.1, kr0_3 hp1.1, kr0_4 hp1.1, kr1_0 hp1.1, kr1_1 hp1.1, kr1_2 hp1.1, kr5_0 hp1.1, kr5_1 hp1.1, kr5_2 hp1.1, kr5_3 hp1.1, kr10_0 hp1.1, kr10_1 hp1.1, kr17_0 hp1.1, kr17_1 hp1.1, kr17_2 hp1.1, kr17_3 hp1.1, kr17_4 hp1.1, kr20_0 hp1.1, kr20_1 hp1.1, kr20_2 hp1.1, kr20_3 hp1.1, ki1 hp1.2.1, ki2 hp1.2.1, ki3 hp1.2.1, ki4 hp1.2.1, ki5 hp1.2.1, ki7 hp1.2.1, kl8 hp1.2.1, kl9 hp1.2.1, ki10 hp1.2.1, kl11 hp1.2.1, ki13 hp1.2.1, ki14 hp1.2.1, ki15 hp1.2.1, ki16 hp1.2.1, ki17 hp1.2.1, ki18 hp1.2.1, ki19 hp1.2.1, ki20 hp1.2.1, ki21 hp1.2.1, Option.some.injEq, exists_eq_left', true_and]
    refine ⟨by unfold zin; omega, by unfold zin; omega, by omega, by omega, q.1, by omega, kb0.1, Int.natCast_nonneg _, by omega, by omega, ?_⟩
    rintro M2 e2
    have hp2 := kPo_I (o := 4) hp1 e2 rfl (by decide)
    have k14 : yup (yup V 4 (k * 5 + a) (zor (V 4 (k * 5 + a)) (zpw b))) 4 (k * 5 + b) (zor (yup V 4 (k * 5 + a) (zor (V 4 (k * 5 + a)) (zpw b)) 4 (k * 5 + b)) (zpw a)) 1 4 = Y 6 0 := h.2.2.1.2.1
    simp only [kk0 hp2.1, kk1 hp2.1, kk2 hp2.1, kk3 hp2.1, kk4 hp2.1, kk5 hp2.1, kk6 hp2.1, kk7 hp2.1, kk8 hp2.1, kk9 hp2.1, kk10 hp2.1, kk11 hp2.1, kk12 hp2.1, kk13 hp2.1, kk14 hp2.1, kk15 hp2.1, kk16 hp2.1, kk17 hp2.1, kk18 hp2.1, kk19 hp2.1, kk20 hp2.1, kk21 hp2.1, kr0_0 hp2.1, kr0_1 hp2.1, kr0_2 hp2.1, kr0_3 hp2.1, kr0_4 hp2.1, kr1_0 hp2.1, kr1_1 hp2.1, kr1_2 hp2.1, kr5_0 hp2.1, kr5_1 hp2.1, kr5_2 hp2.1, kr5_3 hp2.1, kr10_0 hp2.1, kr10_1 hp2.1, kr17_0 hp2.1, kr17_1 hp2.1, kr17_2 hp2.1, kr17_3 hp2.1, kr17_4 hp2.1, kr20_0 hp2.1, kr20_1 hp2.1, kr20_2 hp2.1, kr20_3 hp2.1, ki1 hp2.2.1, ki2 hp2.2.1, ki3 hp2.2.1, ki4 hp2.2.1, ki5 hp2.2.1, ki7 hp2.2.1, kl8 hp2.2.1, kl9 hp2.2.1, ki10 hp2.2.1, kl11 hp2.2.1, ki13 hp2.2.1, ki14 hp2.2.1, ki15 hp2.2.1, ki16 hp2.2.1, ki17 hp2.2.1, ki18 hp2.2.1, ki19 hp2.2.1, ki20 hp2.2.1, ki21 hp2.2.1, Option.some.injEq, exists_eq_left', true_and, k14]
    refine ⟨by unfold zin; omega, ?_⟩
    rintro M3 e3
    have hp3 := kPo_I (o := 1) hp2 e3 rfl (by decide)
    refine ⟨_, hp3, fun o h1 h4 i => by rw [yup_o h1, yup_o h4, yup_o h4], ?_, by rw [yup_s], fun s i s0 s1 i0 i1 => ?_⟩
    · rw [yup_n _ _ _ _ (by omega), yup_o (by omega), yup_o (by omega)]
      exact rs13 h.2.2
    · rw [yup_o (g := 4) (by omega)]
      have zb := zor_lt (x := yup V 4 (k * 5 + a) (zor (V 4 (k * 5 + a)) (zpw b)) 4 (k * 5 + b)) (y := a) (n := 5) (by omega) (by omega) kb0.1
      have hv := hv4 s i s0 s1 i0 i1
      have b7 := hi.2.2.2.2.2.2.2.2.2.1
      have ey : ∀ j, 0 ≤ j → j < 5 → (zand (zshr (ysc (barY2 Y a b k) 6 (Y 6 0 + 1) 7 (5 * i + j)) s) 1 = 1 ↔ (zand (zshr (Y 7 (5 * i + j)) s) 1 = 1 ∨ (s = k ∧ ((i = a ∧ j = b) ∨ (i = b ∧ j = a))))) := by
        intro j j0 j1
        rw [show ysc (barY2 Y a b k) 6 (Y 6 0 + 1) 7 (5 * i + j) = barY2 Y a b k 7 (5 * i + j) from rfl, bar_at ok i j i0 i1 j0 j1]
        by_cases z : (i = a ∧ j = b) ∨ (i = b ∧ j = a)
        · rw [if_pos z, zsb, zsb, zor_pw]
          exact ⟨fun z2 => z2.elim Or.inl (fun z2 => Or.inr ⟨by omega, z⟩), fun z2 => z2.elim Or.inl (fun z2 => Or.inr (by rw [z2.1]))⟩
        · rw [if_neg z]
          exact ⟨Or.inl, fun z2 => z2.elim id (fun z2 => absurd z2.2 z)⟩
      by_cases eb : s * 5 + i = k * 5 + b
      · have es : s = k := by omega
        have ei : i = b := by omega
        rw [eb, yup_s]
        refine ⟨by omega, fun j j0 j1 => ?_⟩
        rw [zor_pw, ey j j0 j1]
        by_cases ea : k * 5 + b = k * 5 + a
        · rw [ea, yup_s, zor_pw, ← ea, ← eb, hv.2 j j0 j1]
          constructor
          · rintro ((z | z) | z)
            · exact Or.inl z
            · exact Or.inr ⟨es, Or.inl (by omega)⟩
            · exact Or.inr ⟨es, Or.inr (by omega)⟩
          · rintro (z | ⟨-, z | z⟩)
            · exact Or.inl (Or.inl z)
            · exact Or.inl (Or.inr (by omega))
            · exact Or.inr (by omega)
        · rw [yup_n _ _ _ _ (fun z => ea z.2), ← eb, hv.2 j j0 j1]
          constructor
          · rintro (z | z)
            · exact Or.inl z
            · exact Or.inr ⟨es, Or.inr (by omega)⟩
          · rintro (z | ⟨-, z | z⟩)
            · exact Or.inl z
            · omega
            · exact Or.inr (by omega)
      · rw [yup_n _ _ _ _ (fun z => eb z.2)]
        by_cases ea : s * 5 + i = k * 5 + a
        · rw [ea, yup_s, ← ea]
          rw [ea] at eb
          refine ⟨by rw [ea]; omega, fun j j0 j1 => ?_⟩
          rw [zor_pw, ey j j0 j1, hv.2 j j0 j1]
          constructor
          · rintro (z | z)
            · exact Or.inl z
            · exact Or.inr ⟨by omega, Or.inl (by omega)⟩
          · rintro (z | ⟨-, z | z⟩)
            · exact Or.inl z
            · exact Or.inr (by omega)
            · omega
        · rw [yup_n _ _ _ _ (fun z => ea z.2)]
          refine ⟨hv.1, fun j j0 j1 => ?_⟩
          rw [ey j j0 j1, hv.2 j j0 j1]
          exact ⟨Or.inl, fun z => z.elim id (fun z => by omega)⟩
  · rintro M1 ⟨V1, hp1, ho, h13, h14, hb1⟩
    have oy : ∀ f, f ≠ 6 → f ≠ 7 → ∀ i, ysc (barY2 Y a b k) 6 (Y 6 0 + 1) f i = Y f i := fun f f6 f7 i => by
      show (if f = 6 then _ else _) = _
      rw [if_neg f6]
      exact barY2_ot f7 i
    have o6 : ysc (barY2 Y a b k) 6 (Y 6 0 + 1) 6 0 = Y 6 0 + 1 := rfl
    unfold barY
    rw [pif_t ok]
    generalize ysc (barY2 Y a b k) 6 (Y 6 0 + 1) = Y' at oy o6 hb1 hj' ⊢
    have hp1' := hp1
    rw [← oy 8 (by decide) (by decide) 0] at hp1'
    have e54 : V1 5 4 = Y' 8 0 := by rw [ho 5 (by decide) (by decide), oy 8 (by decide) (by decide)]; exact rs54 h.2.2
    have hw1 : rW V1 L Y' := rW_c (kRp_w h.2.2) (fun f _ _ => ho f (by omega) (by omega)) (fun _ => rfl) (fun f _ _ i => oy f (by omega) (by omega) i)
    have hn1 : rNr V1 Y' := rNr_c (kRp_nr h.2.2) (ho 3 (by decide) (by decide)) (oy 3 (by decide) (by decide))
    refine ⟨kk0 hp1.1, x + 17, kr0_3 hp1.1, kk17 hp1.1, _, k_markFoes (Y := Y') hp1'.1 hp1'.2.1 e54 hw1 hn1 hb1 hj'.1 hj'.2.2.1, ?_⟩
    rintro M2 ⟨L2, hp2, hl, hf⟩
    refine ⟨p2i_z1 ok, ?_⟩
    exact ⟨V1, L2, kPo_tr hp1' hp2, kRp_f h.2.2 ⟨by rw [h13, oy 1 (by decide) (by decide)]; exact h.2.2.1.1, by rw [h14, o6], by rw [ho 5 (by decide) (by decide), oy 8 (by decide) (by decide)]; exact h.2.2.1.2.2.1, by rw [ho 10 (by decide) (by decide), oy 0 (by decide) (by decide)]; exact h.2.2.1.2.2.2⟩ hn1 hb1 hf (fun o h1 _ h4 => ho o h1 h4) hl (fun f _ h6 h7 i => oy f h6 h7 i)⟩
end C11
