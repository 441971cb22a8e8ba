/-! ===== Ground: near, bars; Rules: foes ===== -/
theorem tb_and (x k : Nat) : x &&& 2 ^ k ≠ 0 ↔ x.testBit k = true := by
  constructor
  · intro h
    apply Classical.byContradiction
    intro q
    refine h (Nat.eq_of_testBit_eq (fun i => ?_))
    rw [Nat.testBit_and, Nat.testBit_two_pow, Nat.zero_testBit]
    by_cases e : k = i
    · rw [← e]
      simp [Bool.not_eq_true] at q
      rw [q]
      rfl
    · rw [decide_eq_false e, Bool.and_false]
  · intro h q
    have := congrArg (fun n => n.testBit k) q
    simp only [Nat.testBit_and, Nat.testBit_two_pow, Nat.zero_testBit, h, decide_true, Bool.and_true] at this
    cases this
theorem zand_pw {x y : Int} : zand x (zpw y) ≠ 0 ↔ x.toNat.testBit y.toNat = true := by
  rw [← tb_and]
  unfold zand zpw
  rw [Int.toNat_natCast]
  omega
theorem zor_pw {x y : Int} (j : Nat) : (zor x (zpw y)).toNat.testBit j = true ↔ x.toNat.testBit j = true ∨ y.toNat = j := by
  unfold zor zpw
  rw [Int.toNat_natCast, Int.toNat_natCast, Nat.testBit_or, Nat.testBit_two_pow]
  simp [Bool.or_eq_true]
theorem zor_lt {x y : Int} {n : Nat} (hx : x < ((2 ^ n : Nat) : Int)) (hy : y.toNat < n) (hx0 : 0 ≤ x) : 0 ≤ zor x (zpw y) ∧ zor x (zpw y) < ((2 ^ n : Nat) : Int) := by
  unfold zor zpw
  rw [Int.toNat_natCast]
  have : x.toNat ||| 2 ^ y.toNat < 2 ^ n := Nat.or_lt_two_pow (by omega) (Nat.pow_lt_pow_right (by decide) hy)
  omega
theorem zsb {y h : Int} : zand (zshr y h) 1 = 1 ↔ y.toNat.testBit h.toNat = true := by
  have e : zand (zshr y h) 1 = ((y.toNat >>> h.toNat &&& 1 : Nat) : Int) := by
    unfold zand zshr
    rw [Int.toNat_natCast]
    rfl
  rw [e, Nat.testBit_eq_decide_div_mod_eq, Nat.and_one_is_mod, Nat.shiftRight_eq_div_pow, decide_eq_true_eq]
  omega
theorem bar8 {y : Int} (h0 : 0 ≤ y) (h1 : y ≤ 7) : (zand y 4 ≠ 0 ↔ zand (zshr y 2) 1 = 1) ∧ (zand y 2 ≠ 0 ↔ zand (zshr y 1) 1 = 1) ∧ (y ≠ 0 ↔ (zand (zshr y 0) 1 = 1 ∨ zand (zshr y 1) 1 = 1 ∨ zand (zshr y 2) 1 = 1)) := by
  have key : ∀ k : Nat, k < 8 → (zand (k : Int) 4 ≠ 0 ↔ zand (zshr (k : Int) 2) 1 = 1) ∧ (zand (k : Int) 2 ≠ 0 ↔ zand (zshr (k : Int) 1) 1 = 1) ∧ ((k : Int) ≠ 0 ↔ (zand (zshr (k : Int) 0) 1 = 1 ∨ zand (zshr (k : Int) 1) 1 = 1 ∨ zand (zshr (k : Int) 2) 1 = 1)) := by
    unfold zand zshr
    decide
  obtain ⟨k, rfl⟩ : ∃ k : Nat, y = (k : Int) := ⟨y.toNat, by omega⟩
  exact key k (by omega)
def ySym (Y : yS) : Prop := (∀ i j, 0 ≤ i → i < 20 → 0 ≤ j → j < 20 → Y 3 (20 * i + j) = Y 3 (20 * j + i)) ∧ (∀ i j, 0 ≤ i → i < 5 → 0 ≤ j → j < 5 → Y 7 (5 * i + j) = Y 7 (5 * j + i))
def yFar (Y : yS) : Prop := (∀ w k, 0 ≤ w → w < 40 → 0 ≤ k → k < 40 → (Y 17 (40 * w + k) ≠ 0 ∨ Y 18 (40 * w + k) ≠ 0) → yWk Y w ∧ yWk Y k) ∧ (∀ w, Y 8 0 ≤ w → w < 40 → Y 16 w = 0)
/-- the invariant of the state, whole -/
def yJ (c : Int) (Y : yS) : Prop := yInv c Y ∧ yAcy Y ∧ ySym Y ∧ yFar Y
section C10
variable {E : zE} {d x : Nat} {wa : Int → Nat} {M : zM} {V Y : yS} {L : yL} {c : Int}
theorem k_areNear (hs : kSh x wa (Y 8 0) M) (hc : kCo x wa (Y 8 0) M V L) (hn : rNr V Y) {i j : Int} (i0 : 0 ≤ i) (i1 : i < 20) (j0 : 0 ≤ j) (j1 : j < 20) : zCi E mX1_areNear (d + 1) 0 0 [vR (some (x + 1)), vI i, vI j] M (fun r M' => r = p2i (Y 3 (20 * i + j) ≠ 0) ∧ M' = M) := by
  refine sX1_areNear _ _ _ (fun X hr => vX1_areNear_0 hr _ _ _ ?_)
  have h3 := hn i i0 i1
  have e := h3.2 j j0 j1
  simp only [kk0 hs, kk1 hs, kk2 hs, kk3 hs, kk4 hs, kk5 hs, kk6 hs, kk7 hs, kk8 hs, kk9 hs, kk10 hs, kk11 hs, kk12 hs, kk13 hs, kk14 hs, kk15 hs, kk16 hs, kk17 hs, kk18 hs, kk19 hs, kk20 hs, kk21 hs, kr0_0 hs, kr0_1 hs, kr0_2 hs, kr0_3 hs, kr0_4 hs, kr1_0 hs, kr1_1 hs, kr1_2 hs, kr5_0 hs, kr5_1 hs, kr5_2 hs, kr5_3 hs, kr10_0 hs, kr10_1 hs, kr17_0 hs, kr17_1 hs, kr17_2 hs, kr17_3 hs, kr17_4 hs, kr20_0 hs, kr20_1 hs, kr20_2 hs, kr20_3 hs, ki1 hc, ki2 hc, ki3 hc, ki4 hc, ki5 hc, ki7 hc, kl8 hc, kl9 hc, ki10 hc, kl11 hc, ki13 hc, ki14 hc, ki15 hc, ki16 hc, ki17 hc, ki18 hc, ki19 hc, ki20 hc, ki21 hc, Option.some.injEq, exists_eq_left', true_and]
  refine ⟨i0, by omega, j0, by omega, h3.1.1, Int.natCast_nonneg _, fun q => ⟨p2i_z0 (fun z => ?_), by trivial⟩, fun q => ⟨p2i_z1 (e.mp (zand_pw.mp q)), by trivial⟩⟩
  exact (zand_pw.mpr (e.mpr z)) q
theorem k_isBarred (hs : kSh x wa (Y 8 0) M) (hc : kCo x wa (Y 8 0) M V L) (hn : rBr V Y) {i j h : Int} (i0 : 0 ≤ i) (i1 : i < 5) (j0 : 0 ≤ j) (j1 : j < 5) (h0 : 0 ≤ h) (h1 : h < 3) : zCi E mX1_isBarred (d + 1) 0 0 [vR (some (x + 1)), vI i, vI j, vI h] M (fun r M' => r = p2i (zand (zshr (Y 7 (5 * i + j)) h) 1 = 1) ∧ M' = M) := by
  refine sX1_isBarred _ _ _ _ (fun X hr => vX1_isBarred_0 hr _ _ _ _ ?_)
  have h3 := hn h i h0 h1 i0 i1
  have e := h3.2 j j0 j1
  simp only [kk0 hs, kk1 hs, kk2 hs, kk3 hs, kk4 hs, kk5 hs, kk6 hs, kk7 hs, kk8 hs, kk9 hs, kk10 hs, kk11 hs, kk12 hs, kk13 hs, kk14 hs, kk15 hs, kk16 hs, kk17 hs, kk18 hs, kk19 hs, kk20 hs, kk21 hs, kr0_0 hs, kr0_1 hs, kr0_2 hs, kr0_3 hs, kr0_4 hs, kr1_0 hs, kr1_1 hs, kr1_2 hs, kr5_0 hs, kr5_1 hs, kr5_2 hs, kr5_3 hs, kr10_0 hs, kr10_1 hs, kr17_0 hs, kr17_1 hs, kr17_2 hs, kr17_3 hs, kr17_4 hs, kr20_0 hs, kr20_1 hs, kr20_2 hs, kr20_3 hs, ki1 hc, ki2 hc, ki3 hc, ki4 hc, ki5 hc, ki7 hc, kl8 hc, kl9 hc, ki10 hc, kl11 hc, ki13 hc, ki14 hc, ki15 hc, ki16 hc, ki17 hc, ki18 hc, ki19 hc, ki20 hc, ki21 hc, Option.some.injEq, exists_eq_left', true_and]
  refine ⟨by unfold zin; omega, by unfold zin; omega, by omega, by omega, j0, by omega, h3.1.1, Int.natCast_nonneg _, fun q => ⟨p2i_z0 (fun z => ?_), by trivial⟩, fun q => ⟨p2i_z1 (e.mp (zand_pw.mp q)), by trivial⟩⟩
  exact (zand_pw.mpr (e.mpr z)) q
theorem k_keepsApart (hs : kSh x wa (Y 8 0) M) (hc : kCo x wa (Y 8 0) M V L) (hw : rW V L Y) (hn : rNr V Y) (hb : rBr V Y) (hi : yInv c Y) (hy : ySym Y) {j k : Int} (hj : yWk Y j) (hk : yWk Y k) : zCi E mX1_keepsApart (d + 2) 0 0 [vR (some (x + 1)), vR (some (wa j)), vR (some (wa k))] M (fun r M' => r = p2i (yBar Y k j) ∧ M' = M) := by
  have bj := yI_w hi hj.1 hj.2
  have bk := yI_w hi hk.1 hk.2
  have hsp := yI_sp hi
  have b7 := hi.2.2.2.2.2.2.2.2.2.1 (5 * Y 13 j + Y 13 k)
  have s7 := hy.2 (Y 13 k) (Y 13 j) (by omega) (by omega) (by omega) (by omega)
  have s3 := hy.1 (Y 12 k) (Y 12 j) (by omega) (by omega) (by omega) (by omega)
  obtain ⟨a4, a2, an⟩ := bar8 b7.1 b7.2
  have eb : yBar Y k j ↔ (zand (zshr (Y 7 (5 * Y 13 j + Y 13 k)) 2) 1 = 1 ∨ (Y 12 j = Y 12 k ∧ (zand (zshr (Y 7 (5 * Y 13 j + Y 13 k)) 0) 1 = 1 ∨ zand (zshr (Y 7 (5 * Y 13 j + Y 13 k)) 1) 1 = 1)) ∨ (Y 3 (20 * Y 12 j + Y 12 k) ≠ 0 ∧ zand (zshr (Y 7 (5 * Y 13 j + Y 13 k)) 1) 1 = 1)) := by
    unfold yBar
    rw [s7, s3, a4, a2, an]
    constructor
    · rintro ⟨z, z2 | z2 | z2⟩
      · exact Or.inl z2
      · rcases z with z | z | z
        · exact Or.inr (Or.inl ⟨z2.symm, Or.inl z⟩)
        · exact Or.inr (Or.inl ⟨z2.symm, Or.inr z⟩)
        · exact Or.inl z
      · exact Or.inr (Or.inr ⟨z2.2, z2.1⟩)
    · rintro (z | ⟨z, z2 | z2⟩ | ⟨z, z2⟩)
      · exact ⟨Or.inr (Or.inr z), Or.inl z⟩
      · exact ⟨Or.inl z2, Or.inr (Or.inl z.symm)⟩
      · exact ⟨Or.inr (Or.inl z2), Or.inr (Or.inl z.symm)⟩
      · exact ⟨Or.inr (Or.inl z2), Or.inr (Or.inr ⟨z2, z⟩)⟩
  rw [show p2i (yBar Y k j) = p2i _ from p2i_congr eb]
  refine sX1_keepsApart _ _ _ (fun X hr => vX1_keepsApart_0 hr _ _ _ ?_)
  simp only [kk0 hs, kk1 hs, kk2 hs, kk3 hs, kk4 hs, kk5 hs, kk6 hs, kk7 hs, kk8 hs, kk9 hs, kk10 hs, kk11 hs, kk12 hs, kk13 hs, kk14 hs, kk15 hs, kk16 hs, kk17 hs, kk18 hs, kk19 hs, kk20 hs, kk21 hs, kr0_0 hs, kr0_1 hs, kr0_2 hs, kr0_3 hs, kr0_4 hs, kr1_0 hs, kr1_1 hs, kr1_2 hs, kr5_0 hs, kr5_1 hs, kr5_2 hs, kr5_3 hs, kr10_0 hs, kr10_1 hs, kr17_0 hs, kr17_1 hs, kr17_2 hs, kr17_3 hs, kr17_4 hs, kr20_0 hs, kr20_1 hs, kr20_2 hs, kr20_3 hs, ki1 hc, ki2 hc, ki3 hc, ki4 hc, ki5 hc, ki7 hc, kl8 hc, kl9 hc, ki10 hc, kl11 hc, ki13 hc, ki14 hc, ki15 hc, ki16 hc, ki17 hc, ki18 hc, ki19 hc, ki20 hc, ki21 hc, Option.some.injEq, exists_eq_left', true_and, kwR hs hj.1 hj.2, kwK hs hj.1 hj.2, kwi0 hc hj.1 hj.2, kwl1 hc hj.1 hj.2, kwi2 hc hj.1 hj.2, kwi3 hc hj.1 hj.2, kwi4 hc hj.1 hj.2, kwi5 hc hj.1 hj.2, kwi6 hc hj.1 hj.2, kwi7 hc hj.1 hj.2, kwi8 hc hj.1 hj.2, kwi9 hc hj.1 hj.2, kwi10 hc hj.1 hj.2, kwi11 hc hj.1 hj.2, kwl12 hc hj.1 hj.2, kwl13 hc hj.1 hj.2, kwl14 hc hj.1 hj.2, kwl15 hc hj.1 hj.2, kwR hs hk.1 hk.2, kwK hs hk.1 hk.2, kwi0 hc hk.1 hk.2, kwl1 hc hk.1 hk.2, kwi2 hc hk.1 hk.2, kwi3 hc hk.1 hk.2, kwi4 hc hk.1 hk.2, kwi5 hc hk.1 hk.2, kwi6 hc hk.1 hk.2, kwi7 hc hk.1 hk.2, kwi8 hc hk.1 hk.2, kwi9 hc hk.1 hk.2, kwi10 hc hk.1 hk.2, kwi11 hc hk.1 hk.2, kwl12 hc hk.1 hk.2, kwl13 hc hk.1 hk.2, kwl14 hc hk.1 hk.2, kwl15 hc hk.1 hk.2, (hw _ hj).1, (hw _ hj).2.1, (hw _ hj).2.2.1, (hw _ hj).2.2.2.1, (hw _ hj).2.2.2.2.1, (hw _ hj).2.2.2.2.2.1, (hw _ hj).2.2.2.2.2.2.1, (hw _ hj).2.2.2.2.2.2.2.1, (hw _ hj).2.2.2.2.2.2.2.2.1, (hw _ hj).2.2.2.2.2.2.2.2.2, (hw _ hk).1, (hw _ hk).2.1, (hw _ hk).2.2.1, (hw _ hk).2.2.2.1, (hw _ hk).2.2.2.2.1, (hw _ hk).2.2.2.2.2.1, (hw _ hk).2.2.2.2.2.2.1, (hw _ hk).2.2.2.2.2.2.2.1, (hw _ hk).2.2.2.2.2.2.2.2.1, (hw _ hk).2.2.2.2.2.2.2.2.2]
  refine zu (k_isBarred hs hc hb (by omega) (by omega) (by omega) (by omega) (by omega) (by omega)) ⟨fun q1 => ?_, fun q1 => ⟨p2i_z1 (Or.inl (p2i_n0.mp q1)), rfl⟩⟩
  have q1 := p2i_0.mp q1
  simp only [kk0 hs, kk1 hs, kk2 hs, kk3 hs, kk4 hs, kk5 hs, kk6 hs, kk7 hs, kk8 hs, kk9 hs, kk10 hs, kk11 hs, kk12 hs, kk13 hs, kk14 hs, kk15 hs, kk16 hs, kk17 hs, kk18 hs, kk19 hs, kk20 hs, kk21 hs, kr0_0 hs, kr0_1 hs, kr0_2 hs, kr0_3 hs, kr0_4 hs, kr1_0 hs, kr1_1 hs, kr1_2 hs, kr5_0 hs, kr5_1 hs, kr5_2 hs, kr5_3 hs, kr10_0 hs, kr10_1 hs, kr17_0 hs, kr17_1 hs, kr17_2 hs, kr17_3 hs, kr17_4 hs, kr20_0 hs, kr20_1 hs, kr20_2 hs, kr20_3 hs, ki1 hc, ki2 hc, ki3 hc, ki4 hc, ki5 hc, ki7 hc, kl8 hc, kl9 hc, ki10 hc, kl11 hc, ki13 hc, ki14 hc, ki15 hc, ki16 hc, ki17 hc, ki18 hc, ki19 hc, ki20 hc, ki21 hc, Option.some.injEq, exists_eq_left', true_and, kwR hs hj.1 hj.2, kwK hs hj.1 hj.2, kwi0 hc hj.1 hj.2, kwl1 hc hj.1 hj.2, kwi2 hc hj.1 hj.2, kwi3 hc hj.1 hj.2, kwi4 hc hj.1 hj.2, kwi5 hc hj.1 hj.2, kwi6 hc hj.1 hj.2, kwi7 hc hj.1 hj.2, kwi8 hc hj.1 hj.2, kwi9 hc hj.1 hj.2, kwi10 hc hj.1 hj.2, kwi11 hc hj.1 hj.2, kwl12 hc hj.1 hj.2, kwl13 hc hj.1 hj.2, kwl14 hc hj.1 hj.2, kwl15 hc hj.1 hj.2, kwR hs hk.1 hk.2, kwK hs hk.1 hk.2, kwi0 hc hk.1 hk.2, kwl1 hc hk.1 hk.2, kwi2 hc hk.1 hk.2, kwi3 hc hk.1 hk.2, kwi4 hc hk.1 hk.2, kwi5 hc hk.1 hk.2, kwi6 hc hk.1 hk.2, kwi7 hc hk.1 hk.2, kwi8 hc hk.1 hk.2, kwi9 hc hk.1 hk.2, kwi10 hc hk.1 hk.2, kwi11 hc hk.1 hk.2, kwl12 hc hk.1 hk.2, kwl13 hc hk.1 hk.2, kwl14 hc hk.1 hk.2, kwl15 hc hk.1 hk.2, (hw _ hj).1, (hw _ hj).2.1, (hw _ hj).2.2.1, (hw _ hj).2.2.2.1, (hw _ hj).2.2.2.2.1, (hw _ hj).2.2.2.2.2.1, (hw _ hj).2.2.2.2.2.2.1, (hw _ hj).2.2.2.2.2.2.2.1, (hw _ hj).2.2.2.2.2.2.2.2.1, (hw _ hj).2.2.2.2.2.2.2.2.2, (hw _ hk).1, (hw _ hk).2.1, (hw _ hk).2.2.1, (hw _ hk).2.2.2.1, (hw _ hk).2.2.2.2.1, (hw _ hk).2.2.2.2.2.1, (hw _ hk).2.2.2.2.2.2.1, (hw _ hk).2.2.2.2.2.2.2.1, (hw _ hk).2.2.2.2.2.2.2.2.1, (hw _ hk).2.2.2.2.2.2.2.2.2]
  refine ⟨fun q2 => zu (k_areNear hs hc hn (by omega) (by omega) (by omega) (by omega)) ?_, fun q2 => zu (k_isBarred hs hc hb (by omega) (by omega) (by omega) (by omega) (by omega) (by omega)) ?_⟩
  · simp only [kk0 hs, kk1 hs, kk2 hs, kk3 hs, kk4 hs, kk5 hs, kk6 hs, kk7 hs, kk8 hs, kk9 hs, kk10 hs, kk11 hs, kk12 hs, kk13 hs, kk14 hs, kk15 hs, kk16 hs, kk17 hs, kk18 hs, kk19 hs, kk20 hs, kk21 hs, kr0_0 hs, kr0_1 hs, kr0_2 hs, kr0_3 hs, kr0_4 hs, kr1_0 hs, kr1_1 hs, kr1_2 hs, kr5_0 hs, kr5_1 hs, kr5_2 hs, kr5_3 hs, kr10_0 hs, kr10_1 hs, kr17_0 hs, kr17_1 hs, kr17_2 hs, kr17_3 hs, kr17_4 hs, kr20_0 hs, kr20_1 hs, kr20_2 hs, kr20_3 hs, ki1 hc, ki2 hc, ki3 hc, ki4 hc, ki5 hc, ki7 hc, kl8 hc, kl9 hc, ki10 hc, kl11 hc, ki13 hc, ki14 hc, ki15 hc, ki16 hc, ki17 hc, ki18 hc, ki19 hc, ki20 hc, ki21 hc, Option.some.injEq, exists_eq_left', true_and, kwR hs hj.1 hj.2, kwK hs hj.1 hj.2, kwi0 hc hj.1 hj.2, kwl1 hc hj.1 hj.2, kwi2 hc hj.1 hj.2, kwi3 hc hj.1 hj.2, kwi4 hc hj.1 hj.2, kwi5 hc hj.1 hj.2, kwi6 hc hj.1 hj.2, kwi7 hc hj.1 hj.2, kwi8 hc hj.1 hj.2, kwi9 hc hj.1 hj.2, kwi10 hc hj.1 hj.2, kwi11 hc hj.1 hj.2, kwl12 hc hj.1 hj.2, kwl13 hc hj.1 hj.2, kwl14 hc hj.1 hj.2, kwl15 hc hj.1 hj.2, kwR hs hk.1 hk.2, kwK hs hk.1 hk.2, kwi0 hc hk.1 hk.2, kwl1 hc hk.1 hk.2, kwi2 hc hk.1 hk.2, kwi3 hc hk.1 hk.2, kwi4 hc hk.1 hk.2, kwi5 hc hk.1 hk.2, kwi6 hc hk.1 hk.2, kwi7 hc hk.1 hk.2, kwi8 hc hk.1 hk.2, kwi9 hc hk.1 hk.2, kwi10 hc hk.1 hk.2, kwi11 hc hk.1 hk.2, kwl12 hc hk.1 hk.2, kwl13 hc hk.1 hk.2, kwl14 hc hk.1 hk.2, kwl15 hc hk.1 hk.2, (hw _ hj).1, (hw _ hj).2.1, (hw _ hj).2.2.1, (hw _ hj).2.2.2.1, (hw _ hj).2.2.2.2.1, (hw _ hj).2.2.2.2.2.1, (hw _ hj).2.2.2.2.2.2.1, (hw _ hj).2.2.2.2.2.2.2.1, (hw _ hj).2.2.2.2.2.2.2.2.1, (hw _ hj).2.2.2.2.2.2.2.2.2, (hw _ hk).1, (hw _ hk).2.1, (hw _ hk).2.2.1, (hw _ hk).2.2.2.1, (hw _ hk).2.2.2.2.1, (hw _ hk).2.2.2.2.2.1, (hw _ hk).2.2.2.2.2.2.1, (hw _ hk).2.2.2.2.2.2.2.1, (hw _ hk).2.2.2.2.2.2.2.2.1, (hw _ hk).2.2.2.2.2.2.2.2.2]
    refine ⟨fun q3 => ⟨p2i_z0 ?_, by trivial⟩, fun q3 => zu (k_isBarred hs hc hb (by omega) (by omega) (by omega) (by omega) (by omega) (by omega)) ⟨fun q4 => ⟨p2i_z0 ?_, rfl⟩, fun q4 => ⟨p2i_z1 (Or.inr (Or.inr ⟨p2i_n0.mp q3, p2i_n0.mp q4⟩)), rfl⟩⟩⟩
    · rintro (z | z | z)
      · exact q1 z
      · exact q2 z.1
      · exact p2i_0.mp q3 z.1
    · rintro (z | z | z)
      · exact q1 z
      · exact q2 z.1
      · exact p2i_0.mp q4 z.2
  · simp only [kk0 hs, kk1 hs, kk2 hs, kk3 hs, kk4 hs, kk5 hs, kk6 hs, kk7 hs, kk8 hs, kk9 hs, kk10 hs, kk11 hs, kk12 hs, kk13 hs, kk14 hs, kk15 hs, kk16 hs, kk17 hs, kk18 hs, kk19 hs, kk20 hs, kk21 hs, kr0_0 hs, kr0_1 hs, kr0_2 hs, kr0_3 hs, kr0_4 hs, kr1_0 hs, kr1_1 hs, kr1_2 hs, kr5_0 hs, kr5_1 hs, kr5_2 hs, kr5_3 hs, kr10_0 hs, kr10_1 hs, kr17_0 hs, kr17_1 hs, kr17_2 hs, kr17_3 hs, kr17_4 hs, kr20_0 hs, kr20_1 hs, kr20_2 hs, kr20_3 hs, ki1 hc, ki2 hc, ki3 hc, ki4 hc, ki5 hc, ki7 hc, kl8 hc, kl9 hc, ki10 hc, kl11 hc, ki13 hc, ki14 hc, ki15 hc, ki16 hc, ki17 hc, ki18 hc, ki19 hc, ki20 hc, ki21 hc, Option.some.injEq, exists_eq_left', true_and, kwR hs hj.1 hj.2, kwK hs hj.1 hj.2, kwi0 hc hj.1 hj.2, kwl1 hc hj.1 hj.2, kwi2 hc hj.1 hj.2, kwi3 hc hj.1 hj.2, kwi4 hc hj.1 hj.2, kwi5 hc hj.1 hj.2, kwi6 hc hj.1 hj.2, kwi7 hc hj.1 hj.2, kwi8 hc hj.1 hj.2, kwi9 hc hj.1 hj.2, kwi10 hc hj.1 hj.2, kwi11 hc hj.1 hj.2, kwl12 hc hj.1 hj.2, kwl13 hc hj.1 hj.2, kwl14 hc hj.1 hj.2, kwl15 hc hj.1 hj.2, kwR hs hk.1 hk.2, kwK hs hk.1 hk.2, kwi0 hc hk.1 hk.2, kwl1 hc hk.1 hk.2, kwi2 hc hk.1 hk.2, kwi3 hc hk.1 hk.2, kwi4 hc hk.1 hk.2, kwi5 hc hk.1 hk.2, kwi6 hc hk.1 hk.2, kwi7 hc hk.1 hk.2, kwi8 hc hk.1 hk.2, kwi9 hc hk.1 hk.2, kwi10 hc hk.1 hk.2, kwi11 hc hk.1 hk.2, kwl12 hc hk.1 hk.2, kwl13 hc hk.1 hk.2, kwl14 hc hk.1 hk.2, kwl15 hc hk.1 hk.2, (hw _ hj).1, (hw _ hj).2.1, (hw _ hj).2.2.1, (hw _ hj).2.2.2.1, (hw _ hj).2.2.2.2.1, (hw _ hj).2.2.2.2.2.1, (hw _ hj).2.2.2.2.2.2.1, (hw _ hj).2.2.2.2.2.2.2.1, (hw _ hj).2.2.2.2.2.2.2.2.1, (hw _ hj).2.2.2.2.2.2.2.2.2, (hw _ hk).1, (hw _ hk).2.1, (hw _ hk).2.2.1, (hw _ hk).2.2.2.1, (hw _ hk).2.2.2.2.1, (hw _ hk).2.2.2.2.2.1, (hw _ hk).2.2.2.2.2.2.1, (hw _ hk).2.2.2.2.2.2.2.1, (hw _ hk).2.2.2.2.2.2.2.2.1, (hw _ hk).2.2.2.2.2.2.2.2.2]
    refine ⟨fun q3 => ⟨p2i_z1 (Or.inr (Or.inl ⟨q2, Or.inl (p2i_n0.mp q3)⟩)), by trivial⟩, fun q3 => zu (k_isBarred hs hc hb (by omega) (by omega) (by omega) (by omega) (by omega) (by omega)) ⟨fun q4 => ⟨p2i_z0 ?_, rfl⟩, fun q4 => ⟨p2i_z1 (Or.inr (Or.inl ⟨q2, Or.inr (p2i_n0.mp q4)⟩)), rfl⟩⟩⟩
    rintro (z | ⟨-, z | z⟩ | z)
    · exact q1 z
    · exact p2i_0.mp q3 z
    · exact p2i_0.mp q4 z
    · exact p2i_0.mp q4 z.2
theorem k_foesOf (hs : kSh x wa (Y 8 0) M) (hc : kCo x wa (Y 8 0) M V L) (e54 : V 5 4 = Y 8 0) (hw : rW V L Y) (hn : rNr V Y) (hb : rBr V Y) (hi : yInv c Y) (hy : ySym Y) {w : Int} (hj : yWk Y w) : zCl E mX4_foesOf (d + 3) 0 0 [vR (some (x + 17)), vR (some (wa w))] M (fun r M' => zBs r (fun m => yWk Y m ∧ m ≠ w ∧ yBar Y m w) ∧ M' = M) := by
  refine sX4_foesOf _ _ (fun X hr => vX4_foesOf_0 hr _ _ ?_)
  have h8 := yI_n hi
  have key : ∀ k : Int, 0 ≤ k → k ≤ Y 8 0 → ∀ l, zBs l (fun m => (0 ≤ m ∧ m < k) ∧ m ≠ w ∧ yBar Y m w) → ZX4_foesOf E (d + 2) X (fun r M' => zBs r (fun m => yWk Y m ∧ m ≠ w ∧ yBar Y m w) ∧ M' = M) 5 [(0, vR (some (x + 17))), (1, vR (some (wa w))), (2, vL l), (4, vI k)] [] M 0 0 := by
    refine zdownI (n := Y 8 0) (fun k hk hk0 hk2 l hl => ?_) (fun k hk0 hk ih hk2 l hl => ?_)
    · have hk : k = Y 8 0 := by omega
      subst hk
      refine vX4_foesOf_5 hr _ _ _ _ ?_
      simp only [kk0 hs, kk1 hs, kk2 hs, kk3 hs, kk4 hs, kk5 hs, kk6 hs, kk7 hs, kk8 hs, kk9 hs, kk10 hs, kk11 hs, kk12 hs, kk13 hs, kk14 hs, kk15 hs, kk16 hs, kk17 hs, kk18 hs, kk19 hs, kk20 hs, kk21 hs, kr0_0 hs, kr0_1 hs, kr0_2 hs, kr0_3 hs, kr0_4 hs, kr1_0 hs, kr1_1 hs, kr1_2 hs, kr5_0 hs, kr5_1 hs, kr5_2 hs, kr5_3 hs, kr10_0 hs, kr10_1 hs, kr17_0 hs, kr17_1 hs, kr17_2 hs, kr17_3 hs, kr17_4 hs, kr20_0 hs, kr20_1 hs, kr20_2 hs, kr20_3 hs, ki1 hc, ki2 hc, ki3 hc, ki4 hc, ki5 hc, ki7 hc, kl8 hc, kl9 hc, ki10 hc, kl11 hc, ki13 hc, ki14 hc, ki15 hc, ki16 hc, ki17 hc, ki18 hc, ki19 hc, ki20 hc, ki21 hc, Option.some.injEq, exists_eq_left', true_and, e54]
      exact ⟨fun _ => ⟨hl, by trivial⟩, fun q => by omega⟩
    · have ih := ih (by omega)
      have hk' : yWk Y k := ⟨hk0, hk⟩
      have stay : ¬ (k ≠ w ∧ yBar Y k w) → zBs l (fun m => (0 ≤ m ∧ m < k + 1) ∧ m ≠ w ∧ yBar Y m w) := fun q => zBs_eq hl (fun i i0 i1 => by
        constructor
        · exact fun z => ⟨⟨z.1.1, by have := z.1.2; omega⟩, z.2⟩
        · intro z
          refine ⟨⟨z.1.1, ?_⟩, z.2⟩
          have : i ≠ k := fun e => q (by rw [← e]; exact z.2)
          have := z.1.2
          omega)
      refine vX4_foesOf_5 hr _ _ _ _ ?_
      simp only [kk0 hs, kk1 hs, kk2 hs, kk3 hs, kk4 hs, kk5 hs, kk6 hs, kk7 hs, kk8 hs, kk9 hs, kk10 hs, kk11 hs, kk12 hs, kk13 hs, kk14 hs, kk15 hs, kk16 hs, kk17 hs, kk18 hs, kk19 hs, kk20 hs, kk21 hs, kr0_0 hs, kr0_1 hs, kr0_2 hs, kr0_3 hs, kr0_4 hs, kr1_0 hs, kr1_1 hs, kr1_2 hs, kr5_0 hs, kr5_1 hs, kr5_2 hs, kr5_3 hs, kr10_0 hs, kr10_1 hs, kr17_0 hs, kr17_1 hs, kr17_2 hs, kr17_3 hs, kr17_4 hs, kr20_0 hs, kr20_1 hs, kr20_2 hs, kr20_3 hs, ki1 hc, ki2 hc, ki3 hc, ki4 hc, ki5 hc, ki7 hc, kl8 hc, kl9 hc, ki10 hc, kl11 hc, ki13 hc, ki14 hc, ki15 hc, ki16 hc, ki17 hc, ki18 hc, ki19 hc, ki20 hc, ki21 hc, Option.some.injEq, exists_eq_left', true_and, kwR hs hk0 hk, kwK hs hk0 hk, kwi0 hc hk0 hk, kwl1 hc hk0 hk, kwi2 hc hk0 hk, kwi3 hc hk0 hk, kwi4 hc hk0 hk, kwi5 hc hk0 hk, kwi6 hc hk0 hk, kwi7 hc hk0 hk, kwi8 hc hk0 hk, kwi9 hc hk0 hk, kwi10 hc hk0 hk, kwi11 hc hk0 hk, kwl12 hc hk0 hk, kwl13 hc hk0 hk, kwl14 hc hk0 hk, kwl15 hc hk0 hk, e54]
      refine ⟨fun q => by omega, fun _ => ⟨by trivial, hk0, by omega, fun q => ⟨by unfold zin; omega, ih _ (stay (fun z => z.1 (hs.2.2.2 k w hk0 hk hj.1 hj.2 q)))⟩, fun q => zu (k_keepsApart hs hc hw hn hb hi hy hj hk') ?_⟩⟩
      have kw : k ≠ w := fun e => q (by rw [e])
      simp only [kwR hs hk0 hk, kwK hs hk0 hk, kwi0 hc hk0 hk, kwl1 hc hk0 hk, kwi2 hc hk0 hk, kwi3 hc hk0 hk, kwi4 hc hk0 hk, kwi5 hc hk0 hk, kwi6 hc hk0 hk, kwi7 hc hk0 hk, kwi8 hc hk0 hk, kwi9 hc hk0 hk, kwi10 hc hk0 hk, kwi11 hc hk0 hk, kwl12 hc hk0 hk, kwl13 hc hk0 hk, kwl14 hc hk0 hk, kwl15 hc hk0 hk, (hw _ hk').1, (hw _ hk').2.1, (hw _ hk').2.2.1, (hw _ hk').2.2.2.1, (hw _ hk').2.2.2.2.1, (hw _ hk').2.2.2.2.2.1, (hw _ hk').2.2.2.2.2.2.1, (hw _ hk').2.2.2.2.2.2.2.1, (hw _ hk').2.2.2.2.2.2.2.2.1, (hw _ hk').2.2.2.2.2.2.2.2.2]
      refine ⟨fun q2 => ⟨by unfold zin; omega, ih _ (stay (fun z => p2i_0.mp q2 z.2))⟩, fun q2 => ⟨by trivial, by unfold zin; omega, ih _ (zBs_eq (zBs_or hl (zBs_bit hk0 (by omega))) (fun i i0 i1 => ?_))⟩⟩
      constructor
      · rintro (z | z)
        · exact ⟨⟨z.1.1, by have := z.1.2; omega⟩, z.2⟩
        · exact ⟨⟨by omega, by omega⟩, by rw [z]; exact ⟨kw, p2i_n0.mp q2⟩⟩
      · intro z
        by_cases e : i = k
        · exact Or.inr e
        · exact Or.inl ⟨⟨z.1.1, by have := z.1.2; omega⟩, z.2⟩
  exact key 0 (by omega) (by omega) 0 (zBs_0 (fun i _ _ z => by have := z.1; omega))
theorem k_markFoes (hs : kSh x wa (Y 8 0) M) (hc : kCo x wa (Y 8 0) M V L) (e54 : V 5 4 = Y 8 0) (hw : rW V L Y) (hn : rNr V Y) (hb : rBr V Y) (hi : yInv c Y) (hy : ySym Y) : zCv E mX4_markFoes (d + 4) 0 0 [vR (some (x + 17))] M (fun M' => ∃ L', kPo x wa (Y 8 0) M M' V L' ∧ (∀ o i, o ≠ 37 → L' o i = L o i) ∧ rFo L' Y) := by
  refine sX4_markFoes _ (fun X hr => vX4_markFoes_0 hr _ ?_)
  have h8 := yI_n hi
  have key : ∀ k : Int, 0 ≤ k → k ≤ Y 8 0 → ∀ (M1 : zM) (L1 : yL), kPo x wa (Y 8 0) M M1 V L1 → (∀ o i, o ≠ 37 → L1 o i = L o i) → (∀ j, 0 ≤ j → j < k → zBs (L1 37 j) (fun m => yWk Y m ∧ m ≠ j ∧ yBar Y m j)) → ZX4_markFoes E (d + 3) X (fun M' => ∃ L', kPo x wa (Y 8 0) M M' V L' ∧ (∀ o i, o ≠ 37 → L' o i = L o i) ∧ rFo L' Y) 2 [(0, vR (some (x + 17))), (1, vI k)] [] M1 0 0 := by
    refine zdownI (n := Y 8 0) (fun k hk hk0 hk2 M1 L1 hp ho hf => ?_) (fun k hk0 hk ih hk2 M1 L1 hp ho hf => ?_)
    · refine vX4_markFoes_2 hr _ _ ?_
      simp only [kk0 hp.1, kk1 hp.1, kk2 hp.1, kk3 hp.1, kk4 hp.1, kk5 hp.1, kk6 hp.1, kk7 hp.1, kk8 hp.1, kk9 hp.1, kk10 hp.1, kk11 hp.1, kk12 hp.1, kk13 hp.1, kk14 hp.1, kk15 hp.1, kk16 hp.1, kk17 hp.1, kk18 hp.1, kk19 hp.1, kk20 hp.1, kk21 hp.1, kr0_0 hp.1, kr0_1 hp.1, kr0_2 hp.1, kr0_3 hp.1, kr0_4 hp.1, kr1_0 hp.1, kr1_1 hp.1, kr1_2 hp.1, kr5_0 hp.1, kr5_1 hp.1, kr5_2 hp.1, kr5_3 hp.1, kr10_0 hp.1, kr10_1 hp.1, kr17_0 hp.1, kr17_1 hp.1, kr17_2 hp.1, kr17_3 hp.1, kr17_4 hp.1, kr20_0 hp.1, kr20_1 hp.1, kr20_2 hp.1, kr20_3 hp.1, ki1 hp.2.1, ki2 hp.2.1, ki3 hp.2.1, ki4 hp.2.1, ki5 hp.2.1, ki7 hp.2.1, kl8 hp.2.1, kl9 hp.2.1, ki10 hp.2.1, kl11 hp.2.1, ki13 hp.2.1, ki14 hp.2.1, ki15 hp.2.1, ki16 hp.2.1, ki17 hp.2.1, ki18 hp.2.1, ki19 hp.2.1, ki20 hp.2.1, ki21 hp.2.1, Option.some.injEq, exists_eq_left', true_and, e54]
      refine ⟨fun _ => ⟨L1, hp, ho, fun j hj => hf j hj.1 (by have := hj.2; omega)⟩, fun q => by omega⟩
    · have ih := ih (by omega)
      have hk' : yWk Y k := ⟨hk0, hk⟩
      have hw1 : rW V L1 Y := rW_c hw (fun _ _ _ _ => rfl) (fun i => ho 23 i (by decide)) (fun _ _ _ _ => rfl)
      refine vX4_markFoes_2 hr _ _ ?_
      simp only [kk0 hp.1, kk1 hp.1, kk2 hp.1, kk3 hp.1, kk4 hp.1, kk5 hp.1, kk6 hp.1, kk7 hp.1, kk8 hp.1, kk9 hp.1, kk10 hp.1, kk11 hp.1, kk12 hp.1, kk13 hp.1, kk14 hp.1, kk15 hp.1, kk16 hp.1, kk17 hp.1, kk18 hp.1, kk19 hp.1, kk20 hp.1, kk21 hp.1, kr0_0 hp.1, kr0_1 hp.1, kr0_2 hp.1, kr0_3 hp.1, kr0_4 hp.1, kr1_0 hp.1, kr1_1 hp.1, kr1_2 hp.1, kr5_0 hp.1, kr5_1 hp.1, kr5_2 hp.1, kr5_3 hp.1, kr10_0 hp.1, kr10_1 hp.1, kr17_0 hp.1, kr17_1 hp.1, kr17_2 hp.1, kr17_3 hp.1, kr17_4 hp.1, kr20_0 hp.1, kr20_1 hp.1, kr20_2 hp.1, kr20_3 hp.1, ki1 hp.2.1, ki2 hp.2.1, ki3 hp.2.1, ki4 hp.2.1, ki5 hp.2.1, ki7 hp.2.1, kl8 hp.2.1, kl9 hp.2.1, ki10 hp.2.1, kl11 hp.2.1, ki13 hp.2.1, ki14 hp.2.1, ki15 hp.2.1, ki16 hp.2.1, ki17 hp.2.1, ki18 hp.2.1, ki19 hp.2.1, ki20 hp.2.1, ki21 hp.2.1, Option.some.injEq, exists_eq_left', true_and, kwR hp.1 hk0 hk, kwK hp.1 hk0 hk, kwi0 hp.2.1 hk0 hk, kwl1 hp.2.1 hk0 hk, kwi2 hp.2.1 hk0 hk, kwi3 hp.2.1 hk0 hk, kwi4 hp.2.1 hk0 hk, kwi5 hp.2.1 hk0 hk, kwi6 hp.2.1 hk0 hk, kwi7 hp.2.1 hk0 hk, kwi8 hp.2.1 hk0 hk, kwi9 hp.2.1 hk0 hk, kwi10 hp.2.1 hk0 hk, kwi11 hp.2.1 hk0 hk, kwl12 hp.2.1 hk0 hk, kwl13 hp.2.1 hk0 hk, kwl14 hp.2.1 hk0 hk, kwl15 hp.2.1 hk0 hk, e54]
      refine ⟨fun q => by omega, fun _ => ⟨by trivial, hk0, by omega, by trivial, hk0, by omega, _, k_foesOf hp.1 hp.2.1 e54 hw1 hn hb hi hy hk', ?_⟩⟩
      rintro r M2 ⟨hr2, rfl⟩
      refine ⟨kwK hp.1 hk0 hk, ?_⟩
      rintro M3 e3
      refine ⟨by unfold zin; omega, ih M3 _ (kPo_wL (f := 15) hp e3 rfl rfl (by decide) hk0 hk) (fun o i h7 => ?_) (fun j j0 j1 => ?_)⟩
      · show (if o = 37 ∧ i = k then r else L1 o i) = L o i
        rw [if_neg (fun z => h7 z.1)]
        exact ho o i h7
      · show zBs (if (37 : Nat) = 37 ∧ j = k then r else L1 37 j) _
        by_cases e : j = k
        · rw [if_pos ⟨rfl, e⟩, e]; exact hr2
        · rw [if_neg (fun z => e z.2)]; exact hf j j0 (by omega)
  exact key 0 (by omega) h8.1 M L (kPo_rf hs hc) (fun _ _ _ => rfl) (fun j j0 j1 => by omega)
end C10
