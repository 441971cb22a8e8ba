/-! ===== the class: bound; small helpers ===== -/
noncomputable def yGr (a b : Int) : Int := pif (a = -1 ∨ b = -1) (-1) (max a b)
noncomputable def ySf (s t : Int) : Int := pif (s = 0) 0 (pif (t < 1) (-1) (Int.tdiv (s + t - 1) t))
noncomputable def yGB (Y : yS) (k : Int) : Int := pif (∃ j, 0 ≤ j ∧ j < k ∧ yBs Y j ≠ 0 ∧ yBt Y j = 0) (-1) (yfold (yBf Y) (wayR Y) k)
theorem yBf_nn (Y : yS) (h : 0 ≤ wayR Y) : ∀ n : Nat, 0 ≤ yfoldN (yBf Y) (wayR Y) n := by
  intro n
  induction n with
  | zero => exact h
  | succ n ih =>
    show 0 ≤ yBf Y (yfoldN (yBf Y) (wayR Y) n) n
    generalize yfoldN (yBf Y) (wayR Y) n = v at ih ⊢
    unfold yBf
    by_cases q : yBs Y n ≠ 0 ∧ v < yBq Y n
    · rw [pif_t q]; omega
    · rw [pif_f q]; exact ih
theorem yGB_s {Y : yS} (hw : 0 ≤ wayR Y) {k : Int} (h0 : 0 ≤ k) (hs : 0 ≤ yBs Y k) (ht : 0 ≤ yBt Y k) : yGr (yGB Y k) (ySf (yBs Y k) (yBt Y k)) = yGB Y (k + 1) := by
  have hf : 0 ≤ yfold (yBf Y) (wayR Y) k := yBf_nn Y hw k.toNat
  by_cases q : ∃ j, 0 ≤ j ∧ j < k ∧ yBs Y j ≠ 0 ∧ yBt Y j = 0
  · have q2 : ∃ j, 0 ≤ j ∧ j < k + 1 ∧ yBs Y j ≠ 0 ∧ yBt Y j = 0 := by
      obtain ⟨j, a, b, e⟩ := q
      exact ⟨j, a, by omega, e⟩
    unfold yGB yGr
    rw [pif_t q, pif_t q2, pif_t (Or.inl rfl)]
  · unfold yGB
    rw [pif_f q, yfold_s h0]
    generalize yfold (yBf Y) (wayR Y) k = v at hf ⊢
    unfold ySf
    by_cases z : yBs Y k = 0
    · rw [pif_t z, pif_f]
      · unfold yGr yBf
        rw [pif_f (by omega), pif_f (fun z2 => z2.1 z)]
        omega
      · rintro ⟨j, a, b, e1, e2⟩
        by_cases ej : j = k
        · rw [ej] at e1; exact e1 z
        · exact q ⟨j, a, by omega, e1, e2⟩
    · rw [pif_f z]
      by_cases t : yBt Y k < 1
      · rw [pif_t t, pif_t ⟨k, h0, by omega, z, by omega⟩]
        unfold yGr
        rw [pif_t (Or.inr rfl)]
      · rw [pif_f t, pif_f]
        · have hq : 0 ≤ yBq Y k := Int.tdiv_nonneg (by omega) (by omega)
          have e : Int.tdiv (yBs Y k + yBt Y k - 1) (yBt Y k) = yBq Y k := rfl
          rw [e]
          unfold yGr yBf
          rw [pif_f (by omega)]
          by_cases l : v < yBq Y k
          · rw [pif_t ⟨z, l⟩]; omega
          · rw [pif_f (fun z2 => l z2.2)]; omega
        · rintro ⟨j, a, b, e1, e2⟩
          by_cases ej : j = k
          · rw [ej] at e2; omega
          · exact q ⟨j, a, by omega, e1, e2⟩
section C9
variable {E : zE} {d x : Nat} {wa : Int → Nat} {M : zM} {V Y : yS} {L : yL} {c : Int}
theorem k_greater (a b : Int) : zCi E mX6_greater (d + 1) 0 0 [vI a, vI b] M (fun r M' => r = yGr a b ∧ M' = M) := by
  refine sX6_greater _ _ (fun X hr => vX6_greater_0 hr _ _ ?_)
  unfold yGr
  exact ⟨fun q => ⟨(pif_t (Or.inl q)).symm, rfl⟩, fun q => ⟨fun q2 => ⟨(pif_f (fun z => z.elim q q2)).symm, rfl⟩, fun q2 => ⟨(pif_t (Or.inr q2)).symm, rfl⟩⟩⟩
theorem k_shiftsFor {s t : Int} (s0 : 0 ≤ s) (s1 : s ≤ 100000) (t0 : 0 ≤ t) (t1 : t ≤ 1000) : zCi E mX6_shiftsFor (d + 1) 0 0 [vI s, vI t] M (fun r M' => r = ySf s t ∧ M' = M) := by
  refine sX6_shiftsFor _ _ (fun X hr => vX6_shiftsFor_0 hr _ _ ?_)
  unfold ySf
  exact ⟨fun q => ⟨fun q2 => ⟨by unfold zin; omega, by unfold zin; omega, by omega, by rw [pif_f q, pif_f (by omega)], rfl⟩, fun q2 => ⟨by rw [pif_f q, pif_t q2], rfl⟩⟩, fun q => ⟨(pif_t q).symm, rfl⟩⟩
theorem k_isTrade (t : Int) : zCi E mX6_isTrade (d + 1) 0 0 [vI t] M (fun r M' => r = p2i (0 ≤ t ∧ t ≤ 3) ∧ M' = M) := by
  refine sX6_isTrade _ (fun X hr => vX6_isTrade_0 hr _ ⟨fun q => ⟨p2i_z0 (by omega), rfl⟩, fun q => ⟨fun q2 => ⟨p2i_z0 (by omega), rfl⟩, fun q2 => ⟨p2i_z1 (by omega), rfl⟩⟩⟩)
theorem k_isGood (t : Int) : zCi E mX6_isGood (d + 1) 0 0 [vI t] M (fun r M' => r = p2i (0 ≤ t ∧ t ≤ 3) ∧ M' = M) := by
  refine sX6_isGood _ (fun X hr => vX6_isGood_0 hr _ ⟨fun q => ⟨p2i_z0 (by omega), rfl⟩, fun q => ⟨fun q2 => ⟨p2i_z0 (by omega), rfl⟩, fun q2 => ⟨p2i_z1 (by omega), rfl⟩⟩⟩)
theorem k_isKind (t : Int) : zCi E mX6_isKind (d + 1) 0 0 [vI t] M (fun r M' => r = p2i (0 ≤ t ∧ t ≤ 4) ∧ M' = M) := by
  refine sX6_isKind _ (fun X hr => vX6_isKind_0 hr _ ⟨fun q => ⟨p2i_z0 (by omega), rfl⟩, fun q => ⟨fun q2 => ⟨p2i_z0 (by omega), rfl⟩, fun q2 => ⟨p2i_z1 (by omega), rfl⟩⟩⟩)
theorem k_hasSpace (hs : kSh x wa (Y 8 0) M) (hc : kCo x wa (Y 8 0) M V L) (e : V 1 3 = Y 1 0) (s : Int) : zCi E mX1_hasSpace (d + 1) 0 0 [vR (some (x + 1)), vI s] M (fun r M' => r = p2i (0 ≤ s ∧ s < Y 1 0) ∧ M' = M) := by
  refine sX1_hasSpace _ _ (fun X hr => vX1_hasSpace_0 hr _ _ ?_)
  simp only [kk0 hs, kk1 hs, kk2 hs, kk3 hs, kk4 hs, kk5 hs, kk6 hs, kk7 hs, kk8 hs, kk9 hs, kk10 hs, kk11 hs, kk12 hs, kk13 hs, kk14 hs, kk15 hs, kk16 hs, kk17 hs, kk18 hs, kk19 hs, kk20 hs, kk21 hs, kr0_0 hs, kr0_1 hs, kr0_2 hs, kr0_3 hs, kr0_4 hs, kr1_0 hs, kr1_1 hs, kr1_2 hs, kr5_0 hs, kr5_1 hs, kr5_2 hs, kr5_3 hs, kr10_0 hs, kr10_1 hs, kr17_0 hs, kr17_1 hs, kr17_2 hs, kr17_3 hs, kr17_4 hs, kr20_0 hs, kr20_1 hs, kr20_2 hs, kr20_3 hs, ki1 hc, ki2 hc, ki3 hc, ki4 hc, ki5 hc, ki7 hc, kl8 hc, kl9 hc, ki10 hc, kl11 hc, ki13 hc, ki14 hc, ki15 hc, ki16 hc, ki17 hc, ki18 hc, ki19 hc, ki20 hc, ki21 hc, Option.some.injEq, exists_eq_left', true_and, e]
  exact ⟨fun q => ⟨p2i_z0 (by omega), by trivial⟩, fun q => ⟨fun q2 => ⟨p2i_z0 (by omega), by trivial⟩, fun q2 => ⟨p2i_z1 (by omega), by trivial⟩⟩⟩
theorem k_bound (h : kR x wa M V L Y) (hi : yInv c Y) : zCi E mX6_bound (d + 3) 0 0 [vR (some x)] M (fun r M' => r = boundR Y ∧ M' = M) := by
  refine sX6_bound _ (fun X hr => vX6_bound_0 hr _ ?_)
  have h8 := yI_n hi
  have hsp := yI_sp hi
  have hwy := (kRp_et h.2.2).2
  have sb : ∀ k, 0 ≤ yBs Y k ∧ yBs Y k ≤ 14400 := fun k => by
    have := ysum_b (f := yBc Y k) (b := 360) h8.1 (fun o o0 o1 => yBc_b hi k o0 o1)
    unfold yBs
    omega
  have tb : ∀ k, 0 ≤ k → k < 8 + Y 1 0 → 0 ≤ yBt Y k ∧ yBt Y k ≤ 99 := fun k k0 k1 => by
    unfold yBt
    by_cases q : k < 4
    · rw [pif_t q]; exact hi.2.2.2.2.2.2.2.1 k
    · rw [pif_f q]
      by_cases q2 : k < 8
      · rw [pif_t q2]; have := hi.2.2.2.2.2.2.2.2.1 (k - 4); omega
      · rw [pif_f q2]; have := hi.2.2.2.2.2.1 (k - 8) (by omega) (by omega); omega
  have end1 : yGB Y (8 + Y 1 0) = boundR Y := rfl
  have eT : ∀ t, 0 ≤ t → t < 4 → ysum (fun m => pif (Y 10 m = t) (Y 9 m * Y 11 m) 0) (Y 8 0) = yBs Y t ∧ Y 4 t = yBt Y t := fun t t0 t1 => by
    refine ⟨ysum_congr (fun m a b => ?_), ?_⟩
    · unfold yBc
      rw [pif_t (p := t < 4) t1]
      exact pif_c ⟨fun z => Or.inl ⟨t1, z⟩, fun z => by rcases z with z | z | z <;> omega⟩
    · unfold yBt
      rw [pif_t t1]
  have eG : ∀ t, 0 ≤ t → t < 4 → ysum (fun m => pif (yWk Y m ∧ Y 14 m = t) (Y 9 m) 0) (Y 8 0) = yBs Y (4 + t) ∧ Y 5 t = yBt Y (4 + t) := fun t t0 t1 => by
    refine ⟨ysum_congr (fun m a b => ?_), ?_⟩
    · unfold yBc
      rw [pif_f (p := 4 + t < 4) (by omega), Int.mul_one]
      exact pif_c ⟨fun z => Or.inr (Or.inl ⟨by omega, by omega, by omega⟩), fun z => ⟨⟨a, b⟩, by rcases z with z | z | z <;> omega⟩⟩
    · unfold yBt
      rw [pif_f (by omega), pif_t (by omega), show 4 + t - 4 = t by omega]
  have eS : ∀ t, 0 ≤ t → t < Y 1 0 → ysum (fun m => pif (yWk Y m ∧ Y 12 m = t) (Y 9 m) 0) (Y 8 0) = yBs Y (8 + t) ∧ Y 2 t = yBt Y (8 + t) := fun t t0 t1 => by
    refine ⟨ysum_congr (fun m a b => ?_), ?_⟩
    · unfold yBc
      rw [pif_f (p := 8 + t < 4) (by omega), Int.mul_one]
      exact pif_c ⟨fun z => Or.inr (Or.inr ⟨by omega, by omega⟩), fun z => ⟨⟨a, b⟩, by rcases z with z | z | z <;> omega⟩⟩
    · unfold yBt
      rw [pif_f (by omega), pif_f (by omega), show 8 + t - 8 = t by omega]
  have L86 : ∀ k : Int, 0 ≤ k → k ≤ Y 1 0 → ZX6_bound E (d + 2) X (fun r M' => r = boundR Y ∧ M' = M) 86 [(0, vR (some x)), (1, vI (yGB Y (8 + k))), (2, vI k)] [] M 0 0 := by
    refine zdownI (n := Y 1 0) (fun k hk hk0 hk2 => ?_) (fun k hk0 hk ih hk2 => ?_)
    · have hk : k = Y 1 0 := by omega
      subst hk
      refine vX6_bound_86 hr _ _ _ ?_
      simp only [kk0 h.1, kk1 h.1, kk2 h.1, kk3 h.1, kk4 h.1, kk5 h.1, kk6 h.1, kk7 h.1, kk8 h.1, kk9 h.1, kk10 h.1, kk11 h.1, kk12 h.1, kk13 h.1, kk14 h.1, kk15 h.1, kk16 h.1, kk17 h.1, kk18 h.1, kk19 h.1, kk20 h.1, kk21 h.1, kr0_0 h.1, kr0_1 h.1, kr0_2 h.1, kr0_3 h.1, kr0_4 h.1, kr1_0 h.1, kr1_1 h.1, kr1_2 h.1, kr5_0 h.1, kr5_1 h.1, kr5_2 h.1, kr5_3 h.1, kr10_0 h.1, kr10_1 h.1, kr17_0 h.1, kr17_1 h.1, kr17_2 h.1, kr17_3 h.1, kr17_4 h.1, kr20_0 h.1, kr20_1 h.1, kr20_2 h.1, kr20_3 h.1, ki1 h.2.1, ki2 h.2.1, ki3 h.2.1, ki4 h.2.1, ki5 h.2.1, ki7 h.2.1, kl8 h.2.1, kl9 h.2.1, ki10 h.2.1, kl11 h.2.1, ki13 h.2.1, ki14 h.2.1, ki15 h.2.1, ki16 h.2.1, ki17 h.2.1, ki18 h.2.1, ki19 h.2.1, ki20 h.2.1, ki21 h.2.1, Option.some.injEq, exists_eq_left', true_and, rs13 h.2.2, rs14 h.2.2, rs54 h.2.2, rs102 h.2.2, rg2 h.2.2, rg18 h.2.2, rg19 h.2.2]
      exact ⟨fun _ => ⟨end1, by trivial⟩, fun q => by omega⟩
    · have ih := ih (by omega)
      have t1 := tb (8 + k) (by omega) (by omega)
      have s1 := sb (8 + k)
      refine vX6_bound_86 hr _ _ _ ?_
      simp only [kk0 h.1, kk1 h.1, kk2 h.1, kk3 h.1, kk4 h.1, kk5 h.1, kk6 h.1, kk7 h.1, kk8 h.1, kk9 h.1, kk10 h.1, kk11 h.1, kk12 h.1, kk13 h.1, kk14 h.1, kk15 h.1, kk16 h.1, kk17 h.1, kk18 h.1, kk19 h.1, kk20 h.1, kk21 h.1, kr0_0 h.1, kr0_1 h.1, kr0_2 h.1, kr0_3 h.1, kr0_4 h.1, kr1_0 h.1, kr1_1 h.1, kr1_2 h.1, kr5_0 h.1, kr5_1 h.1, kr5_2 h.1, kr5_3 h.1, kr10_0 h.1, kr10_1 h.1, kr17_0 h.1, kr17_1 h.1, kr17_2 h.1, kr17_3 h.1, kr17_4 h.1, kr20_0 h.1, kr20_1 h.1, kr20_2 h.1, kr20_3 h.1, ki1 h.2.1, ki2 h.2.1, ki3 h.2.1, ki4 h.2.1, ki5 h.2.1, ki7 h.2.1, kl8 h.2.1, kl9 h.2.1, ki10 h.2.1, kl11 h.2.1, ki13 h.2.1, ki14 h.2.1, ki15 h.2.1, ki16 h.2.1, ki17 h.2.1, ki18 h.2.1, ki19 h.2.1, ki20 h.2.1, ki21 h.2.1, Option.some.injEq, exists_eq_left', true_and, rs13 h.2.2, rs14 h.2.2, rs54 h.2.2, rs102 h.2.2, rg2 h.2.2, rg18 h.2.2, rg19 h.2.2]
      refine ⟨fun q => by omega, fun _ => zu (k_askedOfSpace h hi hk0 (by omega)) ?_⟩
      simp only [kk0 h.1, kk1 h.1, kk2 h.1, kk3 h.1, kk4 h.1, kk5 h.1, kk6 h.1, kk7 h.1, kk8 h.1, kk9 h.1, kk10 h.1, kk11 h.1, kk12 h.1, kk13 h.1, kk14 h.1, kk15 h.1, kk16 h.1, kk17 h.1, kk18 h.1, kk19 h.1, kk20 h.1, kk21 h.1, kr0_0 h.1, kr0_1 h.1, kr0_2 h.1, kr0_3 h.1, kr0_4 h.1, kr1_0 h.1, kr1_1 h.1, kr1_2 h.1, kr5_0 h.1, kr5_1 h.1, kr5_2 h.1, kr5_3 h.1, kr10_0 h.1, kr10_1 h.1, kr17_0 h.1, kr17_1 h.1, kr17_2 h.1, kr17_3 h.1, kr17_4 h.1, kr20_0 h.1, kr20_1 h.1, kr20_2 h.1, kr20_3 h.1, ki1 h.2.1, ki2 h.2.1, ki3 h.2.1, ki4 h.2.1, ki5 h.2.1, ki7 h.2.1, kl8 h.2.1, kl9 h.2.1, ki10 h.2.1, kl11 h.2.1, ki13 h.2.1, ki14 h.2.1, ki15 h.2.1, ki16 h.2.1, ki17 h.2.1, ki18 h.2.1, ki19 h.2.1, ki20 h.2.1, ki21 h.2.1, Option.some.injEq, exists_eq_left', true_and, rs13 h.2.2, rs14 h.2.2, rs54 h.2.2, rs102 h.2.2, rg2 h.2.2, rg18 h.2.2, rg19 h.2.2]
      rw [(eS k hk0 hk).1, (eS k hk0 hk).2]
      refine ⟨hk0, by omega, zu (k_shiftsFor s1.1 (by omega) t1.1 (by omega)) (zu (k_greater _ _) ⟨by unfold zin; omega, ?_⟩)⟩
      rw [yGB_s hwy.2.1 (by omega) s1.1 t1.1, show 8 + k + 1 = 8 + (k + 1) by omega]
      exact ih
  have L48 : ∀ k : Int, 0 ≤ k → k ≤ 4 → ZX6_bound E (d + 2) X (fun r M' => r = boundR Y ∧ M' = M) 48 [(0, vR (some x)), (1, vI (yGB Y (4 + k))), (2, vI k)] [] M 0 0 := by
    refine zdownI (n := 4) (fun k hk hk0 hk2 => ?_) (fun k hk0 hk ih hk2 => ?_)
    · have hk : k = 4 := by omega
      subst hk
      exact vX6_bound_48 hr _ _ _ ⟨fun _ => L86 0 (by omega) (by omega), fun q => by omega⟩
    · have ih := ih (by omega)
      have t1 := tb (4 + k) (by omega) (by omega)
      have s1 := sb (4 + k)
      refine vX6_bound_48 hr _ _ _ ?_
      simp only [kk0 h.1, kk1 h.1, kk2 h.1, kk3 h.1, kk4 h.1, kk5 h.1, kk6 h.1, kk7 h.1, kk8 h.1, kk9 h.1, kk10 h.1, kk11 h.1, kk12 h.1, kk13 h.1, kk14 h.1, kk15 h.1, kk16 h.1, kk17 h.1, kk18 h.1, kk19 h.1, kk20 h.1, kk21 h.1, kr0_0 h.1, kr0_1 h.1, kr0_2 h.1, kr0_3 h.1, kr0_4 h.1, kr1_0 h.1, kr1_1 h.1, kr1_2 h.1, kr5_0 h.1, kr5_1 h.1, kr5_2 h.1, kr5_3 h.1, kr10_0 h.1, kr10_1 h.1, kr17_0 h.1, kr17_1 h.1, kr17_2 h.1, kr17_3 h.1, kr17_4 h.1, kr20_0 h.1, kr20_1 h.1, kr20_2 h.1, kr20_3 h.1, ki1 h.2.1, ki2 h.2.1, ki3 h.2.1, ki4 h.2.1, ki5 h.2.1, ki7 h.2.1, kl8 h.2.1, kl9 h.2.1, ki10 h.2.1, kl11 h.2.1, ki13 h.2.1, ki14 h.2.1, ki15 h.2.1, ki16 h.2.1, ki17 h.2.1, ki18 h.2.1, ki19 h.2.1, ki20 h.2.1, ki21 h.2.1, Option.some.injEq, exists_eq_left', true_and, rs13 h.2.2, rs14 h.2.2, rs54 h.2.2, rs102 h.2.2, rg2 h.2.2, rg18 h.2.2, rg19 h.2.2]
      refine ⟨fun q => by omega, fun _ => zu (k_askedOfGood h hi hk0 (by omega)) ?_⟩
      simp only [kk0 h.1, kk1 h.1, kk2 h.1, kk3 h.1, kk4 h.1, kk5 h.1, kk6 h.1, kk7 h.1, kk8 h.1, kk9 h.1, kk10 h.1, kk11 h.1, kk12 h.1, kk13 h.1, kk14 h.1, kk15 h.1, kk16 h.1, kk17 h.1, kk18 h.1, kk19 h.1, kk20 h.1, kk21 h.1, kr0_0 h.1, kr0_1 h.1, kr0_2 h.1, kr0_3 h.1, kr0_4 h.1, kr1_0 h.1, kr1_1 h.1, kr1_2 h.1, kr5_0 h.1, kr5_1 h.1, kr5_2 h.1, kr5_3 h.1, kr10_0 h.1, kr10_1 h.1, kr17_0 h.1, kr17_1 h.1, kr17_2 h.1, kr17_3 h.1, kr17_4 h.1, kr20_0 h.1, kr20_1 h.1, kr20_2 h.1, kr20_3 h.1, ki1 h.2.1, ki2 h.2.1, ki3 h.2.1, ki4 h.2.1, ki5 h.2.1, ki7 h.2.1, kl8 h.2.1, kl9 h.2.1, ki10 h.2.1, kl11 h.2.1, ki13 h.2.1, ki14 h.2.1, ki15 h.2.1, ki16 h.2.1, ki17 h.2.1, ki18 h.2.1, ki19 h.2.1, ki20 h.2.1, ki21 h.2.1, Option.some.injEq, exists_eq_left', true_and, rs13 h.2.2, rs14 h.2.2, rs54 h.2.2, rs102 h.2.2, rg2 h.2.2, rg18 h.2.2, rg19 h.2.2]
      rw [(eG k hk0 hk).1, (eG k hk0 hk).2]
      refine ⟨hk0, by omega, zu (k_shiftsFor s1.1 (by omega) t1.1 (by omega)) (zu (k_greater _ _) ⟨by unfold zin; omega, ?_⟩)⟩
      rw [yGB_s hwy.2.1 (by omega) s1.1 t1.1, show 4 + k + 1 = 4 + (k + 1) by omega]
      exact ih
  have L10 : ∀ k : Int, 0 ≤ k → k ≤ 4 → ZX6_bound E (d + 2) X (fun r M' => r = boundR Y ∧ M' = M) 10 [(0, vR (some x)), (1, vI (yGB Y k)), (2, vI k)] [] M 0 0 := by
    refine zdownI (n := 4) (fun k hk hk0 hk2 => ?_) (fun k hk0 hk ih hk2 => ?_)
    · have hk : k = 4 := by omega
      subst hk
      exact vX6_bound_10 hr _ _ _ ⟨fun _ => L48 0 (by omega) (by omega), fun q => by omega⟩
    · have ih := ih (by omega)
      have t1 := tb k (by omega) (by omega)
      have s1 := sb k
      refine vX6_bound_10 hr _ _ _ ?_
      simp only [kk0 h.1, kk1 h.1, kk2 h.1, kk3 h.1, kk4 h.1, kk5 h.1, kk6 h.1, kk7 h.1, kk8 h.1, kk9 h.1, kk10 h.1, kk11 h.1, kk12 h.1, kk13 h.1, kk14 h.1, kk15 h.1, kk16 h.1, kk17 h.1, kk18 h.1, kk19 h.1, kk20 h.1, kk21 h.1, kr0_0 h.1, kr0_1 h.1, kr0_2 h.1, kr0_3 h.1, kr0_4 h.1, kr1_0 h.1, kr1_1 h.1, kr1_2 h.1, kr5_0 h.1, kr5_1 h.1, kr5_2 h.1, kr5_3 h.1, kr10_0 h.1, kr10_1 h.1, kr17_0 h.1, kr17_1 h.1, kr17_2 h.1, kr17_3 h.1, kr17_4 h.1, kr20_0 h.1, kr20_1 h.1, kr20_2 h.1, kr20_3 h.1, ki1 h.2.1, ki2 h.2.1, ki3 h.2.1, ki4 h.2.1, ki5 h.2.1, ki7 h.2.1, kl8 h.2.1, kl9 h.2.1, ki10 h.2.1, kl11 h.2.1, ki13 h.2.1, ki14 h.2.1, ki15 h.2.1, ki16 h.2.1, ki17 h.2.1, ki18 h.2.1, ki19 h.2.1, ki20 h.2.1, ki21 h.2.1, Option.some.injEq, exists_eq_left', true_and, rs13 h.2.2, rs14 h.2.2, rs54 h.2.2, rs102 h.2.2, rg2 h.2.2, rg18 h.2.2, rg19 h.2.2]
      refine ⟨fun q => by omega, fun _ => zu (k_askedOfTrade h hi k) ?_⟩
      simp only [kk0 h.1, kk1 h.1, kk2 h.1, kk3 h.1, kk4 h.1, kk5 h.1, kk6 h.1, kk7 h.1, kk8 h.1, kk9 h.1, kk10 h.1, kk11 h.1, kk12 h.1, kk13 h.1, kk14 h.1, kk15 h.1, kk16 h.1, kk17 h.1, kk18 h.1, kk19 h.1, kk20 h.1, kk21 h.1, kr0_0 h.1, kr0_1 h.1, kr0_2 h.1, kr0_3 h.1, kr0_4 h.1, kr1_0 h.1, kr1_1 h.1, kr1_2 h.1, kr5_0 h.1, kr5_1 h.1, kr5_2 h.1, kr5_3 h.1, kr10_0 h.1, kr10_1 h.1, kr17_0 h.1, kr17_1 h.1, kr17_2 h.1, kr17_3 h.1, kr17_4 h.1, kr20_0 h.1, kr20_1 h.1, kr20_2 h.1, kr20_3 h.1, ki1 h.2.1, ki2 h.2.1, ki3 h.2.1, ki4 h.2.1, ki5 h.2.1, ki7 h.2.1, kl8 h.2.1, kl9 h.2.1, ki10 h.2.1, kl11 h.2.1, ki13 h.2.1, ki14 h.2.1, ki15 h.2.1, ki16 h.2.1, ki17 h.2.1, ki18 h.2.1, ki19 h.2.1, ki20 h.2.1, ki21 h.2.1, Option.some.injEq, exists_eq_left', true_and, rs13 h.2.2, rs14 h.2.2, rs54 h.2.2, rs102 h.2.2, rg2 h.2.2, rg18 h.2.2, rg19 h.2.2]
      rw [(eT k hk0 hk).1, (eT k hk0 hk).2]
      refine ⟨hk0, by omega, zu (k_shiftsFor s1.1 (by omega) t1.1 (by omega)) (zu (k_greater _ _) ⟨by unfold zin; omega, ?_⟩)⟩
      rw [yGB_s hwy.2.1 (by omega) s1.1 t1.1]
      exact ih
  have k0 := L10 0 (by omega) (by omega)
  have e0 : yGB Y 0 = wayR Y := by
    unfold yGB
    rw [pif_f (by rintro ⟨j, a, b, -⟩; omega), yfold_0]
  rw [e0] at k0
  simp only [kk0 h.1, kk1 h.1, kk2 h.1, kk3 h.1, kk4 h.1, kk5 h.1, kk6 h.1, kk7 h.1, kk8 h.1, kk9 h.1, kk10 h.1, kk11 h.1, kk12 h.1, kk13 h.1, kk14 h.1, kk15 h.1, kk16 h.1, kk17 h.1, kk18 h.1, kk19 h.1, kk20 h.1, kk21 h.1, kr0_0 h.1, kr0_1 h.1, kr0_2 h.1, kr0_3 h.1, kr0_4 h.1, kr1_0 h.1, kr1_1 h.1, kr1_2 h.1, kr5_0 h.1, kr5_1 h.1, kr5_2 h.1, kr5_3 h.1, kr10_0 h.1, kr10_1 h.1, kr17_0 h.1, kr17_1 h.1, kr17_2 h.1, kr17_3 h.1, kr17_4 h.1, kr20_0 h.1, kr20_1 h.1, kr20_2 h.1, kr20_3 h.1, ki1 h.2.1, ki2 h.2.1, ki3 h.2.1, ki4 h.2.1, ki5 h.2.1, ki7 h.2.1, kl8 h.2.1, kl9 h.2.1, ki10 h.2.1, kl11 h.2.1, ki13 h.2.1, ki14 h.2.1, ki15 h.2.1, ki16 h.2.1, ki17 h.2.1, ki18 h.2.1, ki19 h.2.1, ki20 h.2.1, ki21 h.2.1, Option.some.injEq, exists_eq_left', true_and, rs13 h.2.2, rs14 h.2.2, rs54 h.2.2, rs102 h.2.2, rg2 h.2.2, rg18 h.2.2, rg19 h.2.2, hwy.1]
  exact k0
end C9
/-! ===== the relation, piece by piece, when other things change ===== -/
section RC
variable {V V' Y Y' : yS} {L L' : yL}
theorem rNr_c (h : rNr V Y) (v3 : ∀ i, V' 3 i = V 3 i) (y3 : ∀ i, Y' 3 i = Y 3 i) : rNr V' Y' := by
  unfold rNr at *
  simp only [v3, y3]
  exact h
theorem rBr_c (h : rBr V Y) (v4 : ∀ i, V' 4 i = V 4 i) (y7 : ∀ i, Y' 7 i = Y 7 i) : rBr V' Y' := by
  unfold rBr at *
  simp only [v4, y7]
  exact h
theorem rW_c (h : rW V L Y) (v : ∀ f, 22 ≤ f → f < 32 → ∀ i, V' f i = V f i) (l : ∀ i, L' 23 i = L 23 i) (y : ∀ f, 8 ≤ f → f < 17 → ∀ i, Y' f i = Y f i) : rW V' L' Y' := by
  unfold rW yWk at *
  simp only [v 22 (by decide) (by decide), v 24 (by decide) (by decide), v 25 (by decide) (by decide), v 26 (by decide) (by decide), v 27 (by decide) (by decide), v 28 (by decide) (by decide), v 29 (by decide) (by decide), v 30 (by decide) (by decide), v 31 (by decide) (by decide), l, y 8 (by decide) (by decide), y 9 (by decide) (by decide), y 10 (by decide) (by decide), y 11 (by decide) (by decide), y 12 (by decide) (by decide), y 13 (by decide) (by decide), y 14 (by decide) (by decide), y 15 (by decide) (by decide), y 16 (by decide) (by decide)]
  exact h
theorem rNd_c (h : rNd L Y) (l : ∀ i, L' 34 i = L 34 i) (y8 : ∀ i, Y' 8 i = Y 8 i) (y17 : ∀ i, Y' 17 i = Y 17 i) : rNd L' Y' := by
  unfold rNd yWk yNd at *
  simp only [l, y8, y17]
  exact h
theorem hang_c (y8 : ∀ i, Y' 8 i = Y 8 i) (y17 : ∀ i, Y' 17 i = Y 17 i) (v o : Int) : yHang Y' v o ↔ yHang Y v o := by
  unfold yHang yWk yNd
  simp only [y8, y17]
theorem rUn_c (h : rUn L Y) (l : ∀ i, L' 35 i = L 35 i) (y8 : ∀ i, Y' 8 i = Y 8 i) (y17 : ∀ i, Y' 17 i = Y 17 i) : rUn L' Y' := by
  intro k hk
  rw [l]
  refine zBs_eq (h k ⟨hk.1, by rw [← y8]; exact hk.2⟩) (fun i _ _ => (hang_c y8 y17 k i).symm)
theorem rTl_c (h : rTl L Y) (l : ∀ i, L' 36 i = L 36 i) (y8 : ∀ i, Y' 8 i = Y 8 i) (y18 : ∀ i, Y' 18 i = Y 18 i) : rTl L' Y' := by
  unfold rTl yWk at *
  simp only [l, y8, y18]
  exact h
theorem rFo_c (h : rFo L Y) (l : ∀ i, L' 37 i = L 37 i) (y3 : ∀ i, Y' 3 i = Y 3 i) (y7 : ∀ i, Y' 7 i = Y 7 i) (y8 : ∀ i, Y' 8 i = Y 8 i) (y12 : ∀ i, Y' 12 i = Y 12 i) (y13 : ∀ i, Y' 13 i = Y 13 i) : rFo L' Y' := by
  unfold rFo yWk yBar at *
  simp only [l, y3, y7, y8, y12, y13]
  exact h
theorem yE_c (y8 : ∀ i, Y' 8 i = Y 8 i) (y9 : ∀ i, Y' 9 i = Y 9 i) (y17 : ∀ i, Y' 17 i = Y 17 i) (k : Int) : yE Y' k = yE Y k := by
  have e : yEa Y' = yEa Y := by
    funext e
    unfold yEa yWk yNd
    simp only [y8, y9, y17]
  unfold yE
  rw [e]
theorem yT_c (y8 : ∀ i, Y' 8 i = Y 8 i) (y9 : ∀ i, Y' 9 i = Y 9 i) (y17 : ∀ i, Y' 17 i = Y 17 i) (k : Int) : yT Y' k = yT Y k := by
  have e : yTa Y' = yTa Y := by
    funext e
    unfold yTa yWk yNd
    simp only [y8, y9, y17]
  unfold yT
  rw [e]
theorem way_c (y8 : ∀ i, Y' 8 i = Y 8 i) (y9 : ∀ i, Y' 9 i = Y 9 i) (y17 : ∀ i, Y' 17 i = Y 17 i) : wayR Y' = wayR Y := by
  unfold wayR
  simp only [yE_c y8 y9 y17, yT_c y8 y9 y17, y8, y9]
theorem rEt_c (h : rEt V Y) (v32 : ∀ i, V' 32 i = V 32 i) (v33 : ∀ i, V' 33 i = V 33 i) (v5 : V' 5 5 = V 5 5) (y8 : ∀ i, Y' 8 i = Y 8 i) (y9 : ∀ i, Y' 9 i = Y 9 i) (y17 : ∀ i, Y' 17 i = Y 17 i) : rEt V' Y' := by
  unfold rEt yWk at *
  simp only [yE_c y8 y9 y17, yT_c y8 y9 y17, way_c y8 y9 y17, y8, v32, v33, v5]
  exact h
theorem rTk_c (h : rTk L Y) (l8 : ∀ i, L' 8 i = L 8 i) (l9 : ∀ i, L' 9 i = L 9 i) (y8 : ∀ i, Y' 8 i = Y 8 i) (y12 : ∀ i, Y' 12 i = Y 12 i) (y14 : ∀ i, Y' 14 i = Y 14 i) : rTk L' Y' := by
  unfold rTk yWk at *
  simp only [l8, l9, y8, y12, y14]
  exact h
theorem rBd_c (h : rBd V L Y) (l : ∀ i, L' 11 i = L 11 i) (v : ∀ t : Nat, t < 4 → ∀ i, V' (13 + t) i = V (13 + t) i) (y8 : ∀ i, Y' 8 i = Y 8 i) (y9 : ∀ i, Y' 9 i = Y 9 i) (y10 : ∀ i, Y' 10 i = Y 10 i) (y11 : ∀ i, Y' 11 i = Y 11 i) (y15 : ∀ i, Y' 15 i = Y 15 i) : rBd V' L' Y' := by
  refine ⟨fun s s0 s1 => ?_, fun t s t0 t1 s0 s1 => ?_⟩
  · have := h.1 s s0 s1
    unfold yWk yIn yPut yEnd at *
    simp only [l, y8, y9, y15]
    exact this
  · rw [v t.toNat (by omega), h.2 t s t0 t1 s0 s1, y8]
    refine ysum_congr (fun k _ _ => ?_)
    unfold yHd yIn yPut yEnd
    simp only [y9, y10, y11, y15]
end RC
