/-! ===== Rules: first place, least broken rule ===== -/
theorem ylst_is {p : Int → Prop} {lo hi r : Int} (h0 : 0 ≤ lo) (h1 : lo ≤ r) (h2 : r < hi) (h3 : p r) (h4 : ∀ s, lo ≤ s → s < r → ¬ p s) : ylst p lo hi = r := by
  rcases ylst_spec p (hi - lo).toNat lo hi (by omega) with ⟨_, e⟩ | ⟨e1, e2, e3, e4⟩
  · exact absurd h3 (e r h1 h2)
  · by_cases q : ylst p lo hi < r
    · exact absurd e3 (h4 _ e1 q)
    · by_cases q2 : r < ylst p lo hi
      · exact absurd h3 (e4 r h1 q2)
      · omega
theorem ylst_no {p : Int → Prop} {lo hi : Int} (h4 : ∀ s, lo ≤ s → s < hi → ¬ p s) : ylst p lo hi = -1 := by
  rcases ylst_spec p (hi - lo).toNat lo hi (by omega) with ⟨e, _⟩ | ⟨e1, e2, e3, e4⟩
  · exact e
  · exact absurd e3 (h4 _ e1 e2)
theorem yRdy_le (Y : yS) (w s : Int) : ∀ n : Nat, yfoldN (yRf Y w) 0 n ≤ s ↔ 0 ≤ s ∧ ∀ k : Int, 0 ≤ k → k < n → yNd Y w k → pif (yPut Y k) (yEnd Y k) 400 ≤ s := by
  intro n
  induction n with
  | zero => exact ⟨fun h => ⟨h, fun k a b => by omega⟩, fun h => h.1⟩
  | succ n ih =>
    show yRf Y w (yfoldN (yRf Y w) 0 n) n ≤ s ↔ _
    generalize yfoldN (yRf Y w) 0 n = v at ih ⊢
    unfold yRf
    by_cases q : yNd Y w n
    · rw [pif_t q, Int.max_le, ih]
      constructor
      · rintro ⟨⟨a, b⟩, e⟩
        refine ⟨a, fun k k0 k1 hk => ?_⟩
        by_cases z : k = n
        · rw [z]; exact e
        · exact b k k0 (by omega) hk
      · rintro ⟨a, b⟩
        exact ⟨⟨a, fun k k0 k1 => b k k0 (by omega)⟩, b n (by omega) (by omega) q⟩
    · rw [pif_f q, ih]
      constructor
      · rintro ⟨a, b⟩
        refine ⟨a, fun k k0 k1 hk => ?_⟩
        by_cases z : k = n
        · rw [z] at hk; exact absurd hk q
        · exact b k k0 (by omega) hk
      · rintro ⟨a, b⟩
        exact ⟨a, fun k k0 k1 => b k k0 (by omega)⟩
theorem yDue_le (Y : yS) (w s : Int) : ∀ n : Nat, s ≤ yfoldN (yDf Y w) 400 n ↔ s ≤ 400 ∧ ∀ k : Int, 0 ≤ k → k < n → yNd Y k w → yPut Y k → s ≤ Y 15 k := by
  intro n
  induction n with
  | zero => exact ⟨fun h => ⟨h, fun k a b => by omega⟩, fun h => h.1⟩
  | succ n ih =>
    show s ≤ yDf Y w (yfoldN (yDf Y w) 400 n) n ↔ _
    generalize yfoldN (yDf Y w) 400 n = v at ih ⊢
    unfold yDf
    by_cases q : yNd Y n w ∧ yPut Y n
    · rw [pif_t q, Int.le_min, ih]
      constructor
      · rintro ⟨⟨a, b⟩, e⟩
        refine ⟨a, fun k k0 k1 hk hp => ?_⟩
        by_cases z : k = n
        · rw [z]; exact e
        · exact b k k0 (by omega) hk hp
      · rintro ⟨a, b⟩
        exact ⟨⟨a, fun k k0 k1 => b k k0 (by omega)⟩, b n (by omega) (by omega) q.1 q.2⟩
    · rw [pif_f q, ih]
      constructor
      · rintro ⟨a, b⟩
        refine ⟨a, fun k k0 k1 hk hp => ?_⟩
        by_cases z : k = n
        · rw [z] at hk hp; exact absurd ⟨hk, hp⟩ q
        · exact b k k0 (by omega) hk hp
      · rintro ⟨a, b⟩
        exact ⟨a, fun k k0 k1 => b k k0 (by omega)⟩
theorem rdy_le {c : Int} {Y : yS} (hi : yInv c Y) (w s : Int) : yRdy Y w ≤ s ↔ 0 ≤ s ∧ ∀ k, yWk Y k → yNd Y w k → pif (yPut Y k) (yEnd Y k) 400 ≤ s := by
  have h8 := yI_n hi
  unfold yRdy yfold
  rw [yRdy_le]
  exact ⟨fun z => ⟨z.1, fun k hk => z.2 k hk.1 (by have := hk.2; omega)⟩, fun z => ⟨z.1, fun k a b => z.2 k ⟨a, by omega⟩⟩⟩
theorem due_le {c : Int} {Y : yS} (hi : yInv c Y) (w s : Int) : s ≤ yDue Y w ↔ s ≤ 400 ∧ ∀ k, yWk Y k → yNd Y k w → yPut Y k → s ≤ Y 15 k := by
  have h8 := yI_n hi
  unfold yDue yfold
  rw [yDue_le]
  exact ⟨fun z => ⟨z.1, fun k hk => z.2 k hk.1 (by have := hk.2; omega)⟩, fun z => ⟨z.1, fun k a b => z.2 k ⟨a, by omega⟩⟩⟩
theorem late_iff {c : Int} {Y : yS} (hi : yInv c Y) {w : Int} (h0 : 0 ≤ Y 15 w) (h1 : Y 15 w < 400) : yLate Y w ↔ Y 15 w < yRdy Y w := by
  have e : yRdy Y w ≤ Y 15 w ↔ ¬ yLate Y w := by
    rw [rdy_le hi]
    constructor
    · rintro ⟨-, z⟩ ⟨k, k0, k1, hn, hk⟩
      have := z k ⟨k0, k1⟩ hn
      by_cases q : yPut Y k
      · rw [pif_t q] at this
        rcases hk with hk | hk
        · exact hk q
        · omega
      · rw [pif_f q] at this
        omega
    · intro z
      refine ⟨h0, fun k hk hn => ?_⟩
      by_cases q : yPut Y k
      · rw [pif_t q]
        apply Classical.byContradiction
        intro q2
        exact z ⟨k, hk.1, hk.2, hn, Or.inr (by omega)⟩
      · exact absurd ⟨k, hk.1, hk.2, hn, Or.inl q⟩ z
  constructor
  · intro z
    apply Classical.byContradiction
    intro q
    exact (e.mp (by omega)) z
  · intro z
    apply Classical.byContradiction
    intro q
    have := e.mpr q
    omega
theorem may_iff {c : Int} {Y : yS} (hi : yInv c Y) {w : Int} (hw : yWk Y w) (hb : ¬ yBegun Y w) (hn : ¬ yNd Y w w) (s : Int) : yMay Y w s ↔ Y 0 0 ≤ s ∧ yRdy Y w ≤ s ∧ s + Y 9 w ≤ yDue Y w ∧ ∀ q, s ≤ q → q < s + Y 9 w → yFree Y w q := by
  have hl := yI_w hi hw.1 hw.2
  have hn0 := yI_now hi
  have ot : ∀ k, k ≠ w → yup Y 15 w s 15 k = Y 15 k := fun k hk => yup_n _ _ _ _ (fun z => hk z.2)
  have me : yup Y 15 w s 15 w = s := yup_s _ _ _ _
  have dueE : ∀ k, (yNd Y k w → yPut (yup Y 15 w s) k → s + Y 9 w ≤ yup Y 15 w s 15 k) ↔ (yNd Y k w → yPut Y k → s + Y 9 w ≤ Y 15 k) := by
    intro k
    by_cases q : k = w
    · subst q
      exact ⟨fun _ z => absurd z hn, fun _ z => absurd z hn⟩
    · unfold yPut
      rw [ot k q]
  have brk : ∀ r, 2 ≤ r → 0 ≤ s → (yBreaks (yup Y 15 w s) w r ≠ -1 ↔ ∃ q, s ≤ q ∧ q < s + Y 9 w ∧ yLk Y w r q) := by
    intro r hr h0
    have e1 : yBreaks (yup Y 15 w s) w r = ylst (yBroken (yup Y 15 w s) w r) s (s + Y 9 w) := by
      unfold yBreaks yEnd
      rw [pif_f (by omega), me]
      rfl
    rw [e1, ylst_ne h0]
    constructor
    · rintro ⟨q, a, b, e⟩
      exact ⟨q, a, b, (yLk_up h0 a b r).mp e⟩
    · rintro ⟨q, a, b, e⟩
      exact ⟨q, a, b, (yLk_up h0 a b r).mpr e⟩
  have brk1 : 0 ≤ s → s < 400 → (yBreaks (yup Y 15 w s) w 1 ≠ -1 ↔ ¬ yRdy Y w ≤ s) := by
    intro h0 h1
    have e0 : yBreaks (yup Y 15 w s) w 1 ≠ -1 ↔ yLate (yup Y 15 w s) w := by
      unfold yBreaks
      rw [pif_t rfl]
      by_cases q : yLate (yup Y 15 w s) w
      · rw [pif_t q, me]
        exact ⟨fun _ => q, fun _ => by omega⟩
      · rw [pif_f q]
        exact ⟨fun z => absurd rfl z, fun z => absurd z q⟩
    rw [e0, rdy_le hi]
    constructor
    · rintro ⟨k, k0, k1, hk, hq⟩ ⟨-, z⟩
      have hk : yNd Y w k := hk
      have kw : k ≠ w := fun e => hn (by rw [e] at hk; exact hk)
      have z := z k ⟨k0, k1⟩ hk
      unfold yPut yEnd at hq
      rw [ot k kw, me] at hq
      by_cases q : yPut Y k
      · rw [pif_t q] at z
        rcases hq with hq | hq
        · exact hq q
        · have hq : s < Y 15 k + Y 9 k := hq
          unfold yEnd at z
          omega
      · rw [pif_f q] at z
        omega
    · intro z
      apply Classical.byContradiction
      intro z2
      refine z ⟨h0, fun k hk hnd => ?_⟩
      have kw : k ≠ w := fun e => hn (by rw [e] at hnd; exact hnd)
      apply Classical.byContradiction
      intro z3
      refine z2 ⟨k, hk.1, hk.2, hnd, ?_⟩
      unfold yPut yEnd
      rw [ot k kw, me]
      by_cases q : yPut Y k
      · rw [pif_t q] at z3
        right
        show s < Y 15 k + Y 9 k
        unfold yEnd at z3
        omega
      · exact Or.inl q
  unfold yMay
  rw [due_le hi]
  constructor
  · rintro ⟨-, -, a3, a4, a5, a6⟩
    refine ⟨a3, ?_, ⟨by omega, fun k hk h1 h2 => (dueE k).mp (a6 k hk.1 hk.2) h1 h2⟩, fun q q1 q2 => ?_⟩
    · apply Classical.byContradiction
      intro z
      exact a5 ⟨1, by omega, by omega, (brk1 (by omega) (by omega)).mpr z⟩
    · have no : ∀ r, 2 ≤ r → r ≤ 5 → ¬ yLk Y w r q := fun r r0 r1 z => a5 ⟨r, by omega, r1, (brk r r0 (by omega)).mpr ⟨q, q1, q2, z⟩⟩
      exact ⟨no 2 (by omega) (by omega), no 3 (by omega) (by omega), no 4 (by omega) (by omega), no 5 (by omega) (by omega)⟩
  · rintro ⟨a1, a2, ⟨a3, a4⟩, a5⟩
    refine ⟨hw, hb, a1, by omega, ?_, fun k k0 k1 => (dueE k).mpr (a4 k ⟨k0, k1⟩)⟩
    rintro ⟨r, r0, r1, z⟩
    by_cases e : r = 1
    · subst e
      exact (brk1 (by omega) (by omega)).mp z a2
    · obtain ⟨q, q1, q2, q3⟩ := (brk r (by omega) (by omega)).mp z
      have := a5 q q1 q2
      rcases (show r = 2 ∨ r = 3 ∨ r = 4 ∨ r = 5 by omega) with rfl | rfl | rfl | rfl
      · exact this.1 q3
      · exact this.2.1 q3
      · exact this.2.2.1 q3
      · exact this.2.2.2 q3
section C7
variable {E : zE} {d x : Nat} {wa : Int → Nat} {M : zM} {V Y : yS} {L : yL} {c : Int}
theorem k_firstPlace (h : kR x wa M V L Y) (hi : yInv c Y) {w : Int} (hw : yWk Y w) (hb : ¬ yBegun Y w) (hn : ¬ yNd Y w w) (f : Int) : zCi E mX4_firstPlace (d + 4) 0 0 [vR (some (x + 17)), vR (some (wa w)), vI f] M (fun r M' => r = yFirst Y w f ∧ M' = M) := by
  refine sX4_firstPlace _ _ _ (fun X hr => vX4_firstPlace_0 hr _ _ _ ?_)
  have hl := yI_w hi hw.1 hw.2
  have hn0 := yI_now hi
  have hd : yDue Y w ≤ 400 := ((due_le hi w _).mp (Int.le_refl _)).1
  have hmay := may_iff hi hw hb hn
  have elo : pif (f ≤ Y 0 0) (Y 0 0) f = max f (Y 0 0) := by
    by_cases q : f ≤ Y 0 0
    · rw [pif_t q]; omega
    · rw [pif_f q]; omega
  have key : ∀ (j : Nat) (s r : Int), yDue Y w - s ≤ j → max (max f (Y 0 0)) (yRdy Y w) ≤ s - r → 0 ≤ r → r < Y 9 w → (∀ q, s - r ≤ q → q < s → yFree Y w q) → (∀ q, max (max f (Y 0 0)) (yRdy Y w) ≤ q → q < s - r → ¬ ∀ u, q ≤ u → u < q + Y 9 w → yFree Y w u) → ZX4_firstPlace E (d + 3) X (fun r M' => r = yFirst Y w f ∧ M' = M) 36 [(0, vR (some (x + 17))), (1, vR (some (wa w))), (2, vI f), (3, vI (yDue Y w)), (4, vI r), (5, vI s)] [] M 0 0 := by
    intro j
    have none : ∀ s r : Int, max (max f (Y 0 0)) (yRdy Y w) ≤ s - r → r < Y 9 w → (∀ q, max (max f (Y 0 0)) (yRdy Y w) ≤ q → q < s - r → ¬ ∀ u, q ≤ u → u < q + Y 9 w → yFree Y w u) → yDue Y w ≤ s → (-1 : Int) = yFirst Y w f := by
      intro s r h1 h2 h3 h4
      unfold yFirst
      rw [elo, ylst_no]
      intro q q1 q2 z
      rw [hmay] at z
      by_cases e : q < s - r
      · exact h3 q (by omega) e z.2.2.2
      · omega
    induction j with
    | zero =>
      intro s r hj h1 h2 h3 h4 h5
      refine vX4_firstPlace_36 hr _ _ _ _ _ _ ⟨fun q => ⟨none s r h1 h3 h5 q, rfl⟩, fun q => by omega⟩
    | succ j ih =>
      intro s r hj h1 h2 h3 h4 h5
      refine vX4_firstPlace_36 hr _ _ _ _ _ _ ⟨fun q => ⟨none s r h1 h3 h5 q, rfl⟩, fun q => ⟨kk17 h.1, zu (k_isFree h hi hw (by omega) (by omega)) ?_⟩⟩
      simp only [kwR h.1 hw.1 hw.2, kwK h.1 hw.1 hw.2, kwi0 h.2.1 hw.1 hw.2, kwl1 h.2.1 hw.1 hw.2, kwi2 h.2.1 hw.1 hw.2, kwi3 h.2.1 hw.1 hw.2, kwi4 h.2.1 hw.1 hw.2, kwi5 h.2.1 hw.1 hw.2, kwi6 h.2.1 hw.1 hw.2, kwi7 h.2.1 hw.1 hw.2, kwi8 h.2.1 hw.1 hw.2, kwi9 h.2.1 hw.1 hw.2, kwi10 h.2.1 hw.1 hw.2, kwi11 h.2.1 hw.1 hw.2, kwl12 h.2.1 hw.1 hw.2, kwl13 h.2.1 hw.1 hw.2, kwl14 h.2.1 hw.1 hw.2, kwl15 h.2.1 hw.1 hw.2, rw22 h.2.2 hw, rw23 h.2.2 hw, rw24 h.2.2 hw, rw25 h.2.2 hw, rw26 h.2.2 hw, rw27 h.2.2 hw, rw28 h.2.2 hw, rw29 h.2.2 hw, rw30 h.2.2 hw, rw31 h.2.2 hw, rw32 h.2.2 hw, rw33 h.2.2 hw]
      refine ⟨fun q2 => ⟨by trivial, fun q3 => ⟨by unfold zin; omega, ih (s + 1) 0 (by omega) (by omega) (by omega) (by omega) (fun q a b => by omega) (fun q a b z => ?_)⟩, fun q3 => by omega⟩, fun q2 => ⟨by unfold zin; omega, by trivial, fun q3 => ⟨by unfold zin; omega, ih (s + 1) (r + 1) (by omega) (by omega) (by omega) (by omega) (fun q a b => ?_) (fun q a b => h5 q a (by omega))⟩, fun q3 => ⟨by trivial, by unfold zin; omega, by unfold zin; omega, ?_, by trivial⟩⟩⟩
      · by_cases e : q < s - r
        · exact h5 q a e z
        · exact p2i_0.mp q2 (z s (by omega) (by omega))
      · by_cases e : q = s
        · rw [e]; exact p2i_n0.mp q2
        · exact h4 q (by omega) (by omega)
      · unfold yFirst
        rw [elo, ylst_is (r := s - Y 9 w + 1)]
        · omega
        · omega
        · omega
        · rw [hmay]
          refine ⟨by omega, by omega, by omega, fun q a b => ?_⟩
          by_cases e : q = s
          · rw [e]; exact p2i_n0.mp q2
          · exact h4 q (by omega) (by omega)
        · intro q a b z
          rw [hmay] at z
          exact h5 q (by omega) (by omega) z.2.2.2
  simp only [kk0 h.1, kk1 h.1, kk2 h.1, kk3 h.1, kk4 h.1, kk5 h.1, kk6 h.1, kk7 h.1, kk8 h.1, kk9 h.1, kk10 h.1, kk11 h.1, kk12 h.1, kk13 h.1, kk14 h.1, kk15 h.1, kk16 h.1, kk17 h.1, kk18 h.1, kk19 h.1, kk20 h.1, kk21 h.1, kr0_0 h.1, kr0_1 h.1, kr0_2 h.1, kr0_3 h.1, kr0_4 h.1, kr1_0 h.1, kr1_1 h.1, kr1_2 h.1, kr5_0 h.1, kr5_1 h.1, kr5_2 h.1, kr5_3 h.1, kr10_0 h.1, kr10_1 h.1, kr17_0 h.1, kr17_1 h.1, kr17_2 h.1, kr17_3 h.1, kr17_4 h.1, kr20_0 h.1, kr20_1 h.1, kr20_2 h.1, kr20_3 h.1, ki1 h.2.1, ki2 h.2.1, ki3 h.2.1, ki4 h.2.1, ki5 h.2.1, ki7 h.2.1, kl8 h.2.1, kl9 h.2.1, ki10 h.2.1, kl11 h.2.1, ki13 h.2.1, ki14 h.2.1, ki15 h.2.1, ki16 h.2.1, ki17 h.2.1, ki18 h.2.1, ki19 h.2.1, ki20 h.2.1, ki21 h.2.1, Option.some.injEq, exists_eq_left', true_and, rs13 h.2.2, rs14 h.2.2, rs54 h.2.2, rs102 h.2.2, rg2 h.2.2, rg18 h.2.2, rg19 h.2.2]
  refine zu (k_dueBy h hi hw) ?_
  simp only [kk0 h.1, kk1 h.1, kk2 h.1, kk3 h.1, kk4 h.1, kk5 h.1, kk6 h.1, kk7 h.1, kk8 h.1, kk9 h.1, kk10 h.1, kk11 h.1, kk12 h.1, kk13 h.1, kk14 h.1, kk15 h.1, kk16 h.1, kk17 h.1, kk18 h.1, kk19 h.1, kk20 h.1, kk21 h.1, kr0_0 h.1, kr0_1 h.1, kr0_2 h.1, kr0_3 h.1, kr0_4 h.1, kr1_0 h.1, kr1_1 h.1, kr1_2 h.1, kr5_0 h.1, kr5_1 h.1, kr5_2 h.1, kr5_3 h.1, kr10_0 h.1, kr10_1 h.1, kr17_0 h.1, kr17_1 h.1, kr17_2 h.1, kr17_3 h.1, kr17_4 h.1, kr20_0 h.1, kr20_1 h.1, kr20_2 h.1, kr20_3 h.1, ki1 h.2.1, ki2 h.2.1, ki3 h.2.1, ki4 h.2.1, ki5 h.2.1, ki7 h.2.1, kl8 h.2.1, kl9 h.2.1, ki10 h.2.1, kl11 h.2.1, ki13 h.2.1, ki14 h.2.1, ki15 h.2.1, ki16 h.2.1, ki17 h.2.1, ki18 h.2.1, ki19 h.2.1, ki20 h.2.1, ki21 h.2.1, Option.some.injEq, exists_eq_left', true_and, rs13 h.2.2, rs14 h.2.2, rs54 h.2.2, rs102 h.2.2, rg2 h.2.2, rg18 h.2.2, rg19 h.2.2]
  refine zu (k_readyFrom h hi hw) ?_
  exact key (yDue Y w - max (max f (Y 0 0)) (yRdy Y w)).toNat _ 0 (by omega) (by omega) (by omega) (by omega) (fun q a b => by omega) (fun q a b => by omega)
def yBrk (Y : yS) (w r s : Int) : Prop := (r = 1 ∧ s = Y 15 w ∧ yLate Y w) ∨ (r ≠ 1 ∧ yBroken Y w r s)
theorem k_isBroken (h : kR x wa M V L Y) (hi : yInv c Y) {w s r : Int} (hw : yWk Y w) (hp : yPut Y w) (s0 : Y 15 w ≤ s) (s1 : s < yEnd Y w) (r0 : 1 ≤ r) (r1 : r ≤ 5) : zCi E mX4_isBroken (d + 3) 0 0 [vR (some (x + 17)), vR (some (wa w)), vI r, vI s] M (fun v M' => v = p2i (yBrk Y w r s) ∧ M' = M) := by
  refine sX4_isBroken _ _ _ _ (fun X hr => vX4_isBroken_0 hr _ _ _ _ ?_)
  have hl := yI_w hi hw.1 hw.2
  have hi2 : yIn Y w s := ⟨hp, s0, s1⟩
  unfold yPut at hp
  unfold yEnd at s1
  have a0 : 0 ≤ s := by omega
  have a1 : s < 400 := by omega
  have ee : ∀ k, k ≠ 1 → (yLk Y w k s ↔ yBrk Y w k s) := fun k hk => (yLk_in hi2 k).trans ⟨fun z => Or.inr ⟨hk, z⟩, fun z => z.elim (fun z => absurd z.1 hk) (fun z => z.2)⟩
  simp only [kk0 h.1, kk1 h.1, kk2 h.1, kk3 h.1, kk4 h.1, kk5 h.1, kk6 h.1, kk7 h.1, kk8 h.1, kk9 h.1, kk10 h.1, kk11 h.1, kk12 h.1, kk13 h.1, kk14 h.1, kk15 h.1, kk16 h.1, kk17 h.1, kk18 h.1, kk19 h.1, kk20 h.1, kk21 h.1, kr0_0 h.1, kr0_1 h.1, kr0_2 h.1, kr0_3 h.1, kr0_4 h.1, kr1_0 h.1, kr1_1 h.1, kr1_2 h.1, kr5_0 h.1, kr5_1 h.1, kr5_2 h.1, kr5_3 h.1, kr10_0 h.1, kr10_1 h.1, kr17_0 h.1, kr17_1 h.1, kr17_2 h.1, kr17_3 h.1, kr17_4 h.1, kr20_0 h.1, kr20_1 h.1, kr20_2 h.1, kr20_3 h.1, ki1 h.2.1, ki2 h.2.1, ki3 h.2.1, ki4 h.2.1, ki5 h.2.1, ki7 h.2.1, kl8 h.2.1, kl9 h.2.1, ki10 h.2.1, kl11 h.2.1, ki13 h.2.1, ki14 h.2.1, ki15 h.2.1, ki16 h.2.1, ki17 h.2.1, ki18 h.2.1, ki19 h.2.1, ki20 h.2.1, ki21 h.2.1, Option.some.injEq, exists_eq_left', true_and, rs13 h.2.2, rs14 h.2.2, rs54 h.2.2, rs102 h.2.2, rg2 h.2.2, rg18 h.2.2, rg19 h.2.2, kwR h.1 hw.1 hw.2, kwK h.1 hw.1 hw.2, kwi0 h.2.1 hw.1 hw.2, kwl1 h.2.1 hw.1 hw.2, kwi2 h.2.1 hw.1 hw.2, kwi3 h.2.1 hw.1 hw.2, kwi4 h.2.1 hw.1 hw.2, kwi5 h.2.1 hw.1 hw.2, kwi6 h.2.1 hw.1 hw.2, kwi7 h.2.1 hw.1 hw.2, kwi8 h.2.1 hw.1 hw.2, kwi9 h.2.1 hw.1 hw.2, kwi10 h.2.1 hw.1 hw.2, kwi11 h.2.1 hw.1 hw.2, kwl12 h.2.1 hw.1 hw.2, kwl13 h.2.1 hw.1 hw.2, kwl14 h.2.1 hw.1 hw.2, kwl15 h.2.1 hw.1 hw.2, rw22 h.2.2 hw, rw23 h.2.2 hw, rw24 h.2.2 hw, rw25 h.2.2 hw, rw26 h.2.2 hw, rw27 h.2.2 hw, rw28 h.2.2 hw, rw29 h.2.2 hw, rw30 h.2.2 hw, rw31 h.2.2 hw, rw32 h.2.2 hw, rw33 h.2.2 hw]
  refine ⟨fun q => ⟨fun q2 => ⟨p2i_z0 (fun z => ?_), by trivial⟩, fun q2 => zu (k_readyFrom h hi hw) ⟨fun q3 => ⟨p2i_z0 (fun z => ?_), rfl⟩, fun q3 => ⟨p2i_z1 (Or.inl ⟨q, q2, ?_⟩), rfl⟩⟩⟩, fun q => zu (k_lacksHands h hi hw a0 a1) ⟨p2i_01 _, by rw [q, p2i_congr (ee 2 (by omega))], rfl⟩, fun q => zu (k_lacksGood h hi hw a0 a1) ⟨p2i_01 _, by rw [q, p2i_congr (ee 3 (by omega))], rfl⟩, fun q => zu (k_lacksRoom h hi hw a0 a1) ⟨p2i_01 _, by rw [q, p2i_congr (ee 4 (by omega))], rfl⟩, fun q => zu (k_meetsFoe h hi hw a0 a1) ⟨p2i_01 _, by rw [q, p2i_congr (ee 5 (by omega))], rfl⟩, fun q => by omega⟩
  · rcases z with z | z
    · exact q2 z.2.1
    · exact z.1 q
  · rcases z with z | z
    · have := (late_iff hi (by omega) (by omega)).mp z.2.2
      omega
    · exact z.1 q
  · rw [late_iff hi (by omega) (by omega)]
    omega
theorem yBrk_lst {c : Int} {Y : yS} (hi : yInv c Y) {w r : Int} (hw : yWk Y w) (hp : yPut Y w) : ylst (yBrk Y w r) (Y 15 w) (yEnd Y w) = yBreaks Y w r := by
  have hl := yI_w hi hw.1 hw.2
  unfold yPut at hp
  have hE : yEnd Y w = Y 15 w + Y 9 w := rfl
  unfold yBreaks
  by_cases q : r = 1
  · rw [pif_t q]
    by_cases q2 : yLate Y w
    · rw [pif_t q2]
      exact ylst_is (by omega) (by omega) (by omega) (Or.inl ⟨q, rfl, q2⟩) (fun s a b => by omega)
    · rw [pif_f q2]
      exact ylst_no (fun s a b z => z.elim (fun z => q2 z.2.2) (fun z => z.1 q))
  · rw [pif_f q]
    exact ylst_congr (yEnd Y w - Y 15 w).toNat _ _ (by omega) (fun s _ _ => ⟨fun z => z.elim (fun z => absurd z.1 q) (fun z => z.2), fun z => Or.inr ⟨q, z⟩⟩)
theorem k_leastShift (h : kR x wa M V L Y) (hi : yInv c Y) {w r : Int} (hw : yWk Y w) (r0 : 1 ≤ r) (r1 : r ≤ 5) : zCi E mX4_leastShift (d + 4) 0 0 [vR (some (x + 17)), vR (some (wa w)), vI r] M (fun v M' => v = pif (yPut Y w) (yBreaks Y w r) (-1) ∧ M' = M) := by
  refine sX4_leastShift _ _ _ (fun X hr => vX4_leastShift_0 hr _ _ _ ⟨kwK h.1 hw.1 hw.2, zu (k_isOpen (kwK h.1 hw.1 hw.2)) ?_⟩)
  have hl := yI_w hi hw.1 hw.2
  simp only [kwR h.1 hw.1 hw.2, kwK h.1 hw.1 hw.2, kwi0 h.2.1 hw.1 hw.2, kwl1 h.2.1 hw.1 hw.2, kwi2 h.2.1 hw.1 hw.2, kwi3 h.2.1 hw.1 hw.2, kwi4 h.2.1 hw.1 hw.2, kwi5 h.2.1 hw.1 hw.2, kwi6 h.2.1 hw.1 hw.2, kwi7 h.2.1 hw.1 hw.2, kwi8 h.2.1 hw.1 hw.2, kwi9 h.2.1 hw.1 hw.2, kwi10 h.2.1 hw.1 hw.2, kwi11 h.2.1 hw.1 hw.2, kwl12 h.2.1 hw.1 hw.2, kwl13 h.2.1 hw.1 hw.2, kwl14 h.2.1 hw.1 hw.2, kwl15 h.2.1 hw.1 hw.2, rw22 h.2.2 hw, rw23 h.2.2 hw, rw24 h.2.2 hw, rw25 h.2.2 hw, rw26 h.2.2 hw, rw27 h.2.2 hw, rw28 h.2.2 hw, rw29 h.2.2 hw, rw30 h.2.2 hw, rw31 h.2.2 hw, rw32 h.2.2 hw, rw33 h.2.2 hw]
  refine ⟨fun q => ⟨by trivial, ?_⟩, fun q => ⟨(pif_f (fun z => z (p2i_n0.mp q))).symm, by trivial⟩⟩
  have hp : yPut Y w := p2i_0.mp q
  have hp' := hp
  unfold yPut at hp'
  have hE : yEnd Y w = Y 15 w + Y 9 w := rfl
  rw [pif_t hp, ← yBrk_lst hi hw hp]
  have key : ∀ (j : Nat) (s : Int), yEnd Y w - s ≤ j → Y 15 w ≤ s → ylst (yBrk Y w r) (Y 15 w) (yEnd Y w) = ylst (yBrk Y w r) s (yEnd Y w) → ZX4_leastShift E (d + 3) X (fun v M' => v = ylst (yBrk Y w r) (Y 15 w) (yEnd Y w) ∧ M' = M) 14 [(0, vR (some (x + 17))), (1, vR (some (wa w))), (2, vI r), (3, vI s)] [] M 0 0 := by
    intro j
    induction j with
    | zero =>
      intro s hj hs he
      refine vX4_leastShift_14 hr _ _ _ _ ⟨kwK h.1 hw.1 hw.2, zu (k_behind (v := yEnd Y w) (kwK h.1 hw.1 hw.2) (yB_b hi hw) (by simp only [kwR h.1 hw.1 hw.2, kwK h.1 hw.1 hw.2, kwi0 h.2.1 hw.1 hw.2, kwl1 h.2.1 hw.1 hw.2, kwi2 h.2.1 hw.1 hw.2, kwi3 h.2.1 hw.1 hw.2, kwi4 h.2.1 hw.1 hw.2, kwi5 h.2.1 hw.1 hw.2, kwi6 h.2.1 hw.1 hw.2, kwi7 h.2.1 hw.1 hw.2, kwi8 h.2.1 hw.1 hw.2, kwi9 h.2.1 hw.1 hw.2, kwi10 h.2.1 hw.1 hw.2, kwi11 h.2.1 hw.1 hw.2, kwl12 h.2.1 hw.1 hw.2, kwl13 h.2.1 hw.1 hw.2, kwl14 h.2.1 hw.1 hw.2, kwl15 h.2.1 hw.1 hw.2, rw22 h.2.2 hw, rw23 h.2.2 hw, rw24 h.2.2 hw, rw25 h.2.2 hw, rw26 h.2.2 hw, rw27 h.2.2 hw, rw28 h.2.2 hw, rw29 h.2.2 hw, rw30 h.2.2 hw, rw31 h.2.2 hw, rw32 h.2.2 hw, rw33 h.2.2 hw]; rfl)) ⟨fun q => ⟨?_, rfl⟩, fun q => by omega⟩⟩
      rw [he, ylst_n q]
    | succ j ih =>
      intro s hj hs he
      refine vX4_leastShift_14 hr _ _ _ _ ⟨kwK h.1 hw.1 hw.2, zu (k_behind (v := yEnd Y w) (kwK h.1 hw.1 hw.2) (yB_b hi hw) (by simp only [kwR h.1 hw.1 hw.2, kwK h.1 hw.1 hw.2, kwi0 h.2.1 hw.1 hw.2, kwl1 h.2.1 hw.1 hw.2, kwi2 h.2.1 hw.1 hw.2, kwi3 h.2.1 hw.1 hw.2, kwi4 h.2.1 hw.1 hw.2, kwi5 h.2.1 hw.1 hw.2, kwi6 h.2.1 hw.1 hw.2, kwi7 h.2.1 hw.1 hw.2, kwi8 h.2.1 hw.1 hw.2, kwi9 h.2.1 hw.1 hw.2, kwi10 h.2.1 hw.1 hw.2, kwi11 h.2.1 hw.1 hw.2, kwl12 h.2.1 hw.1 hw.2, kwl13 h.2.1 hw.1 hw.2, kwl14 h.2.1 hw.1 hw.2, kwl15 h.2.1 hw.1 hw.2, rw22 h.2.2 hw, rw23 h.2.2 hw, rw24 h.2.2 hw, rw25 h.2.2 hw, rw26 h.2.2 hw, rw27 h.2.2 hw, rw28 h.2.2 hw, rw29 h.2.2 hw, rw30 h.2.2 hw, rw31 h.2.2 hw, rw32 h.2.2 hw, rw33 h.2.2 hw]; rfl)) ⟨fun q => ⟨?_, rfl⟩, fun q => ⟨kk17 h.1, zu (k_isBroken h hi hw hp hs q r0 r1) ⟨fun q2 => ⟨by unfold zin; omega, ih (s + 1) (by omega) (by omega) ?_⟩, fun q2 => ⟨?_, rfl⟩⟩⟩⟩⟩
      · rw [he, ylst_n q]
      · rw [he, ylst_f q (p2i_0.mp q2)]
      · rw [he, ylst_t q (p2i_n0.mp q2)]
  exact key (yEnd Y w - Y 15 w).toNat _ (by omega) (by omega) rfl
theorem k_leastBroken (h : kR x wa M V L Y) (hi : yInv c Y) {w : Int} (hw : yWk Y w) : zCi E mX4_leastBroken (d + 5) 0 0 [vR (some (x + 17)), vR (some (wa w))] M (fun v M' => v = pif (yPut Y w) (yR0 Y w) (-1) ∧ M' = M) := by
  refine sX4_leastBroken _ _ (fun X hr => vX4_leastBroken_0 hr _ _ ?_)
  have key : ∀ (j : Nat) (s : Int), 6 - s ≤ j → 1 ≤ s → (yPut Y w → yR0 Y w = ylst (fun r => yBreaks Y w r ≠ -1) s 6) → ZX4_leastBroken E (d + 4) X (fun v M' => v = pif (yPut Y w) (yR0 Y w) (-1) ∧ M' = M) 2 [(0, vR (some (x + 17))), (1, vR (some (wa w))), (2, vI s)] [] M 0 0 := by
    intro j
    have fin : ∀ s : Int, 5 < s → (yPut Y w → yR0 Y w = ylst (fun r => yBreaks Y w r ≠ -1) s 6) → (-1 : Int) = pif (yPut Y w) (yR0 Y w) (-1) := by
      intro s hs he
      by_cases q : yPut Y w
      · rw [pif_t q, he q, ylst_n (by omega)]
      · rw [pif_f q]
    induction j with
    | zero =>
      intro s hj hs he
      exact vX4_leastBroken_2 hr _ _ _ ⟨fun q => ⟨fin s q he, rfl⟩, fun q => by omega⟩
    | succ j ih =>
      intro s hj hs he
      refine vX4_leastBroken_2 hr _ _ _ ⟨fun q => ⟨fin s q he, rfl⟩, fun q => ⟨kk17 h.1, zu (k_leastShift h hi hw hs q) ⟨fun q2 => ⟨by unfold zin; omega, ih (s + 1) (by omega) (by omega) (fun p => ?_)⟩, fun q2 => ⟨?_, rfl⟩⟩⟩⟩
      · rw [pif_t p] at q2
        rw [he p, ylst_f (by omega) (fun z => z q2)]
      · have p : yPut Y w := Classical.byContradiction fun p => q2 (pif_f p)
        rw [pif_t p] at q2
        rw [pif_t p, he p]
        exact (ylst_t (p := fun r => yBreaks Y w r ≠ -1) (by omega) q2).symm
  exact key 5 1 (by omega) (by omega) (fun _ => rfl)
end C7
