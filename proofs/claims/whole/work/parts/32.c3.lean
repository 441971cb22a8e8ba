/-! ===== the class's contents against Y; what Net reads ===== -/
def rS (V Y : yS) : Prop := V 1 3 = Y 1 0 ∧ V 1 4 = Y 6 0 ∧ V 5 4 = Y 8 0 ∧ V 10 2 = Y 0 0
def rG (V Y : yS) : Prop := (∀ i, V 2 i = Y 2 i) ∧ (∀ i, V 18 i = Y 4 i) ∧ (∀ i, V 19 i = Y 5 i)
def rNr (V Y : yS) : Prop := ∀ i, 0 ≤ i → i < 20 → (0 ≤ V 3 i ∧ V 3 i < 1048576) ∧ ∀ j, 0 ≤ j → j < 20 → ((V 3 i).toNat.testBit j.toNat = true ↔ Y 3 (20 * i + j) ≠ 0)
def rBr (V Y : yS) : Prop := ∀ h i, 0 ≤ h → h < 3 → 0 ≤ i → i < 5 → (0 ≤ V 4 (h * 5 + i) ∧ V 4 (h * 5 + i) < 32) ∧ ∀ j, 0 ≤ j → j < 5 → ((V 4 (h * 5 + i)).toNat.testBit j.toNat = true ↔ zand (zshr (Y 7 (5 * i + j)) h) 1 = 1)
def rW (V : yS) (L : yL) (Y : yS) : Prop := ∀ k, yWk Y k → V 22 k = k ∧ L 23 k = zbit k ∧ V 24 k = Y 10 k ∧ V 25 k = Y 11 k ∧ V 26 k = Y 12 k ∧ V 27 k = Y 13 k ∧ V 28 k = Y 14 k ∧ V 29 k = Y 9 k ∧ V 30 k = Y 15 k ∧ V 31 k = Y 16 k
def rNd (L : yL) (Y : yS) : Prop := ∀ k, yWk Y k → zBs (L 34 k) (fun m => yWk Y m ∧ yNd Y k m)
def rUn (L : yL) (Y : yS) : Prop := ∀ k, yWk Y k → zBs (L 35 k) (yHang Y k)
def rTl (L : yL) (Y : yS) : Prop := ∀ k, yWk Y k → zBs (L 36 k) (fun m => yWk Y m ∧ Y 18 (40 * k + m) ≠ 0)
def rFo (L : yL) (Y : yS) : Prop := ∀ k, yWk Y k → zBs (L 37 k) (fun m => yWk Y m ∧ m ≠ k ∧ yBar Y m k)
def rEt (V Y : yS) : Prop := (∀ k, yWk Y k → V 32 k = yE Y k ∧ V 33 k = yT Y k ∧ (0 ≤ yE Y k ∧ yE Y k ≤ 1560) ∧ (0 ≤ yT Y k ∧ yT Y k ≤ 1560)) ∧ V 5 5 = wayR Y ∧ (0 ≤ wayR Y ∧ wayR Y ≤ 4000)
def rTk (L : yL) (Y : yS) : Prop := (∀ g, 0 ≤ g → g < 4 → zBs (L 8 g) (fun m => yWk Y m ∧ Y 14 m = g)) ∧ (∀ s, 0 ≤ s → s < 20 → zBs (L 9 s) (fun m => yWk Y m ∧ Y 12 m = s))
noncomputable def yHd (Y : yS) (t s m : Int) : Int := pif (yIn Y m s ∧ Y 10 m = t) (Y 11 m) 0
def rBd (V : yS) (L : yL) (Y : yS) : Prop := (∀ s, 0 ≤ s → s < 400 → zBs (L 11 s) (fun m => yWk Y m ∧ yIn Y m s)) ∧ (∀ t s, 0 ≤ t → t < 4 → 0 ≤ s → s < 400 → V (13 + t.toNat) s = ysum (yHd Y t s) (Y 8 0))
def kRp (V : yS) (L : yL) (Y : yS) : Prop := rS V Y ∧ rG V Y ∧ rNr V Y ∧ rBr V Y ∧ rW V L Y ∧ rNd L Y ∧ rUn L Y ∧ rTl L Y ∧ rFo L Y ∧ rEt V Y ∧ rTk L Y ∧ rBd V L Y
def kR (x : Nat) (wa : Int → Nat) (M : zM) (V : yS) (L : yL) (Y : yS) : Prop := kSh x wa (Y 8 0) M ∧ kCo x wa (Y 8 0) M V L ∧ kRp V L Y
section C3a
variable {V Y : yS} {L : yL}
theorem rs13 (h : kRp V L Y) : V 1 3 = Y 1 0 := h.1.1
theorem rs14 (h : kRp V L Y) : V 1 4 = Y 6 0 := h.1.2.1
theorem rs54 (h : kRp V L Y) : V 5 4 = Y 8 0 := h.1.2.2.1
theorem rs102 (h : kRp V L Y) : V 10 2 = Y 0 0 := h.1.2.2.2
theorem rg2 (h : kRp V L Y) (i : Int) : V 2 i = Y 2 i := h.2.1.1 i
theorem rg18 (h : kRp V L Y) (i : Int) : V 18 i = Y 4 i := h.2.1.2.1 i
theorem rg19 (h : kRp V L Y) (i : Int) : V 19 i = Y 5 i := h.2.1.2.2 i
theorem kRp_nr (h : kRp V L Y) : rNr V Y := h.2.2.1
theorem kRp_br (h : kRp V L Y) : rBr V Y := h.2.2.2.1
theorem kRp_w (h : kRp V L Y) : rW V L Y := h.2.2.2.2.1
theorem kRp_nd (h : kRp V L Y) : rNd L Y := h.2.2.2.2.2.1
theorem kRp_un (h : kRp V L Y) : rUn L Y := h.2.2.2.2.2.2.1
theorem kRp_tl (h : kRp V L Y) : rTl L Y := h.2.2.2.2.2.2.2.1
theorem kRp_fo (h : kRp V L Y) : rFo L Y := h.2.2.2.2.2.2.2.2.1
theorem kRp_et (h : kRp V L Y) : rEt V Y := h.2.2.2.2.2.2.2.2.2.1
theorem kRp_tk (h : kRp V L Y) : rTk L Y := h.2.2.2.2.2.2.2.2.2.2.1
theorem kRp_bd (h : kRp V L Y) : rBd V L Y := h.2.2.2.2.2.2.2.2.2.2.2
theorem rw22 (h : kRp V L Y) {k : Int} (hk : yWk Y k) : V 22 k = k := (kRp_w h k hk).1
theorem rw23 (h : kRp V L Y) {k : Int} (hk : yWk Y k) : L 23 k = zbit k := (kRp_w h k hk).2.1
theorem rw24 (h : kRp V L Y) {k : Int} (hk : yWk Y k) : V 24 k = Y 10 k := (kRp_w h k hk).2.2.1
theorem rw25 (h : kRp V L Y) {k : Int} (hk : yWk Y k) : V 25 k = Y 11 k := (kRp_w h k hk).2.2.2.1
theorem rw26 (h : kRp V L Y) {k : Int} (hk : yWk Y k) : V 26 k = Y 12 k := (kRp_w h k hk).2.2.2.2.1
theorem rw27 (h : kRp V L Y) {k : Int} (hk : yWk Y k) : V 27 k = Y 13 k := (kRp_w h k hk).2.2.2.2.2.1
theorem rw28 (h : kRp V L Y) {k : Int} (hk : yWk Y k) : V 28 k = Y 14 k := (kRp_w h k hk).2.2.2.2.2.2.1
theorem rw29 (h : kRp V L Y) {k : Int} (hk : yWk Y k) : V 29 k = Y 9 k := (kRp_w h k hk).2.2.2.2.2.2.2.1
theorem rw30 (h : kRp V L Y) {k : Int} (hk : yWk Y k) : V 30 k = Y 15 k := (kRp_w h k hk).2.2.2.2.2.2.2.2.1
theorem rw31 (h : kRp V L Y) {k : Int} (hk : yWk Y k) : V 31 k = Y 16 k := (kRp_w h k hk).2.2.2.2.2.2.2.2.2
theorem rw32 (h : kRp V L Y) {k : Int} (hk : yWk Y k) : V 32 k = yE Y k := ((kRp_et h).1 k hk).1
theorem rw33 (h : kRp V L Y) {k : Int} (hk : yWk Y k) : V 33 k = yT Y k := ((kRp_et h).1 k hk).2.1
end C3a
theorem yW_lt {c : Int} {Y : yS} (hi : yInv c Y) {k : Int} (hk : yWk Y k) : k < 40 := by have := yI_n hi; have := hk.2; omega
theorem yB_b {c : Int} {Y : yS} (hi : yInv c Y) {k : Int} (hk : yWk Y k) : zin (Y 15 k + Y 9 k) := by
  have := yI_w hi hk.1 hk.2
  unfold zin
  omega
section C3
variable {E : zE} {d x : Nat} {wa : Int → Nat} {M : zM} {V Y : yS} {L : yL} {c : Int}
theorem k_find (h : kR x wa M V L Y) (hi : yInv c Y) (w : Int) : zCr E mX2_find (d + 1) 0 0 [vR (some (x + 5)), vI w] M (fun r M' => r = pif (yWk Y w) (some (wa w)) none ∧ M' = M) := by
  refine sX2_find _ _ (fun X hr => vX2_find_0 hr _ _ ?_)
  have h8 := yI_n hi
  simp only [kk0 h.1, kk1 h.1, kk2 h.1, kk3 h.1, kk4 h.1, kk5 h.1, kk6 h.1, kk7 h.1, kk8 h.1, kk9 h.1, kk10 h.1, kk11 h.1, kk12 h.1, kk13 h.1, kk14 h.1, kk15 h.1, kk16 h.1, kk17 h.1, kk18 h.1, kk19 h.1, kk20 h.1, kk21 h.1, kr0_0 h.1, kr0_1 h.1, kr0_2 h.1, kr0_3 h.1, kr0_4 h.1, kr1_0 h.1, kr1_1 h.1, kr1_2 h.1, kr5_0 h.1, kr5_1 h.1, kr5_2 h.1, kr5_3 h.1, kr10_0 h.1, kr10_1 h.1, kr17_0 h.1, kr17_1 h.1, kr17_2 h.1, kr17_3 h.1, kr17_4 h.1, kr20_0 h.1, kr20_1 h.1, kr20_2 h.1, kr20_3 h.1, ki1 h.2.1, ki2 h.2.1, ki3 h.2.1, ki4 h.2.1, ki5 h.2.1, ki7 h.2.1, kl8 h.2.1, kl9 h.2.1, ki10 h.2.1, kl11 h.2.1, ki13 h.2.1, ki14 h.2.1, ki15 h.2.1, ki16 h.2.1, ki17 h.2.1, ki18 h.2.1, ki19 h.2.1, ki20 h.2.1, ki21 h.2.1, Option.some.injEq, exists_eq_left', true_and, rs13 h.2.2, rs14 h.2.2, rs54 h.2.2, rs102 h.2.2, rg2 h.2.2, rg18 h.2.2, rg19 h.2.2]
  refine ⟨fun q => ⟨(pif_f (fun z => by have := z.1; omega)).symm, by trivial⟩, fun q => ⟨fun q2 => ⟨(pif_f (fun z => by have := z.2; omega)).symm, by trivial⟩, fun q2 => ⟨by trivial, q, by omega, ?_, by trivial⟩⟩⟩
  rw [kwR h.1 q q2, pif_t ⟨q, q2⟩]
theorem k_slackOf (h : kR x wa M V L Y) (hi : yInv c Y) {w : Int} (hw : yWk Y w) : zCi E mX2_slackOf (d + 2) 0 0 [vR (some (x + 5)), vR (some (wa w))] M (fun r M' => r = slackR Y w ∧ M' = M) := by
  refine sX2_slackOf _ _ (fun X hr => vX2_slackOf_0 hr _ _ ?_)
  have he := kRp_et h.2.2
  have h1 := he.1 w hw
  have h2 := yI_w hi hw.1 hw.2
  have h3 := he.2.2
  refine ⟨kk5 h.1, kwK h.1 hw.1 hw.2, zu (k_wholeWay (v := yE Y w + Y 9 w + yT Y w) (kwK h.1 hw.1 hw.2) ?_ ?_ ?_) ?_⟩
  · simp only [kwR h.1 hw.1 hw.2, kwK h.1 hw.1 hw.2, kwi0 h.2.1 hw.1 hw.2, kwl1 h.2.1 hw.1 hw.2, kwi2 h.2.1 hw.1 hw.2, kwi3 h.2.1 hw.1 hw.2, kwi4 h.2.1 hw.1 hw.2, kwi5 h.2.1 hw.1 hw.2, kwi6 h.2.1 hw.1 hw.2, kwi7 h.2.1 hw.1 hw.2, kwi8 h.2.1 hw.1 hw.2, kwi9 h.2.1 hw.1 hw.2, kwi10 h.2.1 hw.1 hw.2, kwi11 h.2.1 hw.1 hw.2, kwl12 h.2.1 hw.1 hw.2, kwl13 h.2.1 hw.1 hw.2, kwl14 h.2.1 hw.1 hw.2, kwl15 h.2.1 hw.1 hw.2, rw22 h.2.2 hw, rw23 h.2.2 hw, rw24 h.2.2 hw, rw25 h.2.2 hw, rw26 h.2.2 hw, rw27 h.2.2 hw, rw28 h.2.2 hw, rw29 h.2.2 hw, rw30 h.2.2 hw, rw31 h.2.2 hw, rw32 h.2.2 hw, rw33 h.2.2 hw]
    unfold zin; omega
  · unfold zin; omega
  · simp only [kwR h.1 hw.1 hw.2, kwK h.1 hw.1 hw.2, kwi0 h.2.1 hw.1 hw.2, kwl1 h.2.1 hw.1 hw.2, kwi2 h.2.1 hw.1 hw.2, kwi3 h.2.1 hw.1 hw.2, kwi4 h.2.1 hw.1 hw.2, kwi5 h.2.1 hw.1 hw.2, kwi6 h.2.1 hw.1 hw.2, kwi7 h.2.1 hw.1 hw.2, kwi8 h.2.1 hw.1 hw.2, kwi9 h.2.1 hw.1 hw.2, kwi10 h.2.1 hw.1 hw.2, kwi11 h.2.1 hw.1 hw.2, kwl12 h.2.1 hw.1 hw.2, kwl13 h.2.1 hw.1 hw.2, kwl14 h.2.1 hw.1 hw.2, kwl15 h.2.1 hw.1 hw.2, rw22 h.2.2 hw, rw23 h.2.2 hw, rw24 h.2.2 hw, rw25 h.2.2 hw, rw26 h.2.2 hw, rw27 h.2.2 hw, rw28 h.2.2 hw, rw29 h.2.2 hw, rw30 h.2.2 hw, rw31 h.2.2 hw, rw32 h.2.2 hw, rw33 h.2.2 hw]
  · simp only [kk0 h.1, kk1 h.1, kk2 h.1, kk3 h.1, kk4 h.1, kk5 h.1, kk6 h.1, kk7 h.1, kk8 h.1, kk9 h.1, kk10 h.1, kk11 h.1, kk12 h.1, kk13 h.1, kk14 h.1, kk15 h.1, kk16 h.1, kk17 h.1, kk18 h.1, kk19 h.1, kk20 h.1, kk21 h.1, kr0_0 h.1, kr0_1 h.1, kr0_2 h.1, kr0_3 h.1, kr0_4 h.1, kr1_0 h.1, kr1_1 h.1, kr1_2 h.1, kr5_0 h.1, kr5_1 h.1, kr5_2 h.1, kr5_3 h.1, kr10_0 h.1, kr10_1 h.1, kr17_0 h.1, kr17_1 h.1, kr17_2 h.1, kr17_3 h.1, kr17_4 h.1, kr20_0 h.1, kr20_1 h.1, kr20_2 h.1, kr20_3 h.1, ki1 h.2.1, ki2 h.2.1, ki3 h.2.1, ki4 h.2.1, ki5 h.2.1, ki7 h.2.1, kl8 h.2.1, kl9 h.2.1, ki10 h.2.1, kl11 h.2.1, ki13 h.2.1, ki14 h.2.1, ki15 h.2.1, ki16 h.2.1, ki17 h.2.1, ki18 h.2.1, ki19 h.2.1, ki20 h.2.1, ki21 h.2.1, Option.some.injEq, exists_eq_left', true_and, rs13 h.2.2, rs14 h.2.2, rs54 h.2.2, rs102 h.2.2, rg2 h.2.2, rg18 h.2.2, rg19 h.2.2, he.2.1]
    refine ⟨by unfold zin; omega, ?_, by trivial⟩
    unfold slackR
    omega
theorem k_allPut (h : kR x wa M V L Y) (hi : yInv c Y) : zCl E mX2_allThatArePut (d + 2) 0 0 [vR (some (x + 5))] M (fun r M' => zBs r (fun m => yWk Y m ∧ yPut Y m) ∧ M' = M) := by
  refine sX2_allThatArePut _ (fun X hr => vX2_allThatArePut_0 hr _ ?_)
  have h8 := yI_n hi
  have key : ∀ k : Int, 0 ≤ k → k ≤ Y 8 0 → ∀ l, zBs l (fun m => (0 ≤ m ∧ m < k) ∧ yPut Y m) → ZX2_allThatArePut E (d + 1) X (fun r M' => zBs r (fun m => yWk Y m ∧ yPut Y m) ∧ M' = M) 4 [(0, vR (some (x + 5))), (1, vL l), (3, vI k)] [] M 0 0 := by
    refine zdownI (n := Y 8 0) (fun k hk hk0 hk2 l hl => ?_) (fun k hk0 hk ih hk2 l hl => ?_)
    · have hk : k = Y 8 0 := by omega
      subst hk
      refine vX2_allThatArePut_4 hr _ _ _ ?_
      simp only [kk0 h.1, kk1 h.1, kk2 h.1, kk3 h.1, kk4 h.1, kk5 h.1, kk6 h.1, kk7 h.1, kk8 h.1, kk9 h.1, kk10 h.1, kk11 h.1, kk12 h.1, kk13 h.1, kk14 h.1, kk15 h.1, kk16 h.1, kk17 h.1, kk18 h.1, kk19 h.1, kk20 h.1, kk21 h.1, kr0_0 h.1, kr0_1 h.1, kr0_2 h.1, kr0_3 h.1, kr0_4 h.1, kr1_0 h.1, kr1_1 h.1, kr1_2 h.1, kr5_0 h.1, kr5_1 h.1, kr5_2 h.1, kr5_3 h.1, kr10_0 h.1, kr10_1 h.1, kr17_0 h.1, kr17_1 h.1, kr17_2 h.1, kr17_3 h.1, kr17_4 h.1, kr20_0 h.1, kr20_1 h.1, kr20_2 h.1, kr20_3 h.1, ki1 h.2.1, ki2 h.2.1, ki3 h.2.1, ki4 h.2.1, ki5 h.2.1, ki7 h.2.1, kl8 h.2.1, kl9 h.2.1, ki10 h.2.1, kl11 h.2.1, ki13 h.2.1, ki14 h.2.1, ki15 h.2.1, ki16 h.2.1, ki17 h.2.1, ki18 h.2.1, ki19 h.2.1, ki20 h.2.1, ki21 h.2.1, Option.some.injEq, exists_eq_left', true_and, rs13 h.2.2, rs14 h.2.2, rs54 h.2.2, rs102 h.2.2, rg2 h.2.2, rg18 h.2.2, rg19 h.2.2]
      exact ⟨fun _ => ⟨hl, by trivial⟩, fun q => by omega⟩
    · have ih := ih (by omega)
      have hw : yWk Y k := ⟨hk0, hk⟩
      refine vX2_allThatArePut_4 hr _ _ _ ?_
      simp only [kk0 h.1, kk1 h.1, kk2 h.1, kk3 h.1, kk4 h.1, kk5 h.1, kk6 h.1, kk7 h.1, kk8 h.1, kk9 h.1, kk10 h.1, kk11 h.1, kk12 h.1, kk13 h.1, kk14 h.1, kk15 h.1, kk16 h.1, kk17 h.1, kk18 h.1, kk19 h.1, kk20 h.1, kk21 h.1, kr0_0 h.1, kr0_1 h.1, kr0_2 h.1, kr0_3 h.1, kr0_4 h.1, kr1_0 h.1, kr1_1 h.1, kr1_2 h.1, kr5_0 h.1, kr5_1 h.1, kr5_2 h.1, kr5_3 h.1, kr10_0 h.1, kr10_1 h.1, kr17_0 h.1, kr17_1 h.1, kr17_2 h.1, kr17_3 h.1, kr17_4 h.1, kr20_0 h.1, kr20_1 h.1, kr20_2 h.1, kr20_3 h.1, ki1 h.2.1, ki2 h.2.1, ki3 h.2.1, ki4 h.2.1, ki5 h.2.1, ki7 h.2.1, kl8 h.2.1, kl9 h.2.1, ki10 h.2.1, kl11 h.2.1, ki13 h.2.1, ki14 h.2.1, ki15 h.2.1, ki16 h.2.1, ki17 h.2.1, ki18 h.2.1, ki19 h.2.1, ki20 h.2.1, ki21 h.2.1, Option.some.injEq, exists_eq_left', true_and, rs13 h.2.2, rs14 h.2.2, rs54 h.2.2, rs102 h.2.2, rg2 h.2.2, rg18 h.2.2, rg19 h.2.2, kwR h.1 hw.1 hw.2, kwK h.1 hw.1 hw.2, kwi0 h.2.1 hw.1 hw.2, kwl1 h.2.1 hw.1 hw.2, kwi2 h.2.1 hw.1 hw.2, kwi3 h.2.1 hw.1 hw.2, kwi4 h.2.1 hw.1 hw.2, kwi5 h.2.1 hw.1 hw.2, kwi6 h.2.1 hw.1 hw.2, kwi7 h.2.1 hw.1 hw.2, kwi8 h.2.1 hw.1 hw.2, kwi9 h.2.1 hw.1 hw.2, kwi10 h.2.1 hw.1 hw.2, kwi11 h.2.1 hw.1 hw.2, kwl12 h.2.1 hw.1 hw.2, kwl13 h.2.1 hw.1 hw.2, kwl14 h.2.1 hw.1 hw.2, kwl15 h.2.1 hw.1 hw.2, rw22 h.2.2 hw, rw23 h.2.2 hw, rw24 h.2.2 hw, rw25 h.2.2 hw, rw26 h.2.2 hw, rw27 h.2.2 hw, rw28 h.2.2 hw, rw29 h.2.2 hw, rw30 h.2.2 hw, rw31 h.2.2 hw, rw32 h.2.2 hw, rw33 h.2.2 hw]
      refine ⟨fun q => by omega, fun _ => ⟨by trivial, hk0, by omega, zu (k_isOpen (kwK h.1 hw.1 hw.2)) ?_⟩⟩
      simp only [kk0 h.1, kk1 h.1, kk2 h.1, kk3 h.1, kk4 h.1, kk5 h.1, kk6 h.1, kk7 h.1, kk8 h.1, kk9 h.1, kk10 h.1, kk11 h.1, kk12 h.1, kk13 h.1, kk14 h.1, kk15 h.1, kk16 h.1, kk17 h.1, kk18 h.1, kk19 h.1, kk20 h.1, kk21 h.1, kr0_0 h.1, kr0_1 h.1, kr0_2 h.1, kr0_3 h.1, kr0_4 h.1, kr1_0 h.1, kr1_1 h.1, kr1_2 h.1, kr5_0 h.1, kr5_1 h.1, kr5_2 h.1, kr5_3 h.1, kr10_0 h.1, kr10_1 h.1, kr17_0 h.1, kr17_1 h.1, kr17_2 h.1, kr17_3 h.1, kr17_4 h.1, kr20_0 h.1, kr20_1 h.1, kr20_2 h.1, kr20_3 h.1, ki1 h.2.1, ki2 h.2.1, ki3 h.2.1, ki4 h.2.1, ki5 h.2.1, ki7 h.2.1, kl8 h.2.1, kl9 h.2.1, ki10 h.2.1, kl11 h.2.1, ki13 h.2.1, ki14 h.2.1, ki15 h.2.1, ki16 h.2.1, ki17 h.2.1, ki18 h.2.1, ki19 h.2.1, ki20 h.2.1, ki21 h.2.1, Option.some.injEq, exists_eq_left', true_and, rs13 h.2.2, rs14 h.2.2, rs54 h.2.2, rs102 h.2.2, rg2 h.2.2, rg18 h.2.2, rg19 h.2.2, kwR h.1 hw.1 hw.2, kwK h.1 hw.1 hw.2, kwi0 h.2.1 hw.1 hw.2, kwl1 h.2.1 hw.1 hw.2, kwi2 h.2.1 hw.1 hw.2, kwi3 h.2.1 hw.1 hw.2, kwi4 h.2.1 hw.1 hw.2, kwi5 h.2.1 hw.1 hw.2, kwi6 h.2.1 hw.1 hw.2, kwi7 h.2.1 hw.1 hw.2, kwi8 h.2.1 hw.1 hw.2, kwi9 h.2.1 hw.1 hw.2, kwi10 h.2.1 hw.1 hw.2, kwi11 h.2.1 hw.1 hw.2, kwl12 h.2.1 hw.1 hw.2, kwl13 h.2.1 hw.1 hw.2, kwl14 h.2.1 hw.1 hw.2, kwl15 h.2.1 hw.1 hw.2, rw22 h.2.2 hw, rw23 h.2.2 hw, rw24 h.2.2 hw, rw25 h.2.2 hw, rw26 h.2.2 hw, rw27 h.2.2 hw, rw28 h.2.2 hw, rw29 h.2.2 hw, rw30 h.2.2 hw, rw31 h.2.2 hw, rw32 h.2.2 hw, rw33 h.2.2 hw]
      refine ⟨fun q => ⟨by unfold zin; omega, ih _ (zBs_eq hl (fun i i0 i1 => ?_))⟩, fun q => ⟨by trivial, hk0, by omega, by unfold zin; omega, ih _ (zBs_eq (zBs_or hl (zBs_bit hk0 (by omega))) (fun i i0 i1 => ?_))⟩⟩
      · have q := p2i_n0.mp q
        constructor
        · exact fun z => ⟨⟨z.1.1, by have := z.1.2; omega⟩, z.2⟩
        · intro z
          refine ⟨⟨z.1.1, ?_⟩, z.2⟩
          have : i ≠ k := fun e => z.2 (by rw [e]; exact q)
          have := z.1.2
          omega
      · have q := p2i_0.mp q
        constructor
        · rintro (z | z)
          · exact ⟨⟨z.1.1, by have := z.1.2; omega⟩, z.2⟩
          · exact ⟨⟨by omega, by omega⟩, by rw [z]; exact q⟩
        · intro z
          by_cases e : i = k
          · exact Or.inr e
          · exact Or.inl ⟨⟨z.1.1, by have := z.1.2; omega⟩, z.2⟩
  exact key 0 (by omega) (by omega) 0 (zBs_0 (fun i _ _ z => by have := z.1; omega))
theorem k_allDone (h : kR x wa M V L Y) (hi : yInv c Y) : zCl E mX2_allDone (d + 3) 0 0 [vR (some (x + 5)), vI (Y 0 0)] M (fun r M' => zBs r (fun m => yWk Y m ∧ yDone Y m) ∧ M' = M) := by
  refine sX2_allDone _ _ (fun X hr => vX2_allDone_0 hr _ _ ?_)
  have h8 := yI_n hi
  have key : ∀ k : Int, 0 ≤ k → k ≤ Y 8 0 → ∀ l, zBs l (fun m => (0 ≤ m ∧ m < k) ∧ yDone Y m) → ZX2_allDone E (d + 2) X (fun r M' => zBs r (fun m => yWk Y m ∧ yDone Y m) ∧ M' = M) 5 [(0, vR (some (x + 5))), (1, vI (Y 0 0)), (2, vL l), (4, vI k)] [] M 0 0 := by
    refine zdownI (n := Y 8 0) (fun k hk hk0 hk2 l hl => ?_) (fun k hk0 hk ih hk2 l hl => ?_)
    · have hk : k = Y 8 0 := by omega
      subst hk
      refine vX2_allDone_5 hr _ _ _ _ ?_
      simp only [kk0 h.1, kk1 h.1, kk2 h.1, kk3 h.1, kk4 h.1, kk5 h.1, kk6 h.1, kk7 h.1, kk8 h.1, kk9 h.1, kk10 h.1, kk11 h.1, kk12 h.1, kk13 h.1, kk14 h.1, kk15 h.1, kk16 h.1, kk17 h.1, kk18 h.1, kk19 h.1, kk20 h.1, kk21 h.1, kr0_0 h.1, kr0_1 h.1, kr0_2 h.1, kr0_3 h.1, kr0_4 h.1, kr1_0 h.1, kr1_1 h.1, kr1_2 h.1, kr5_0 h.1, kr5_1 h.1, kr5_2 h.1, kr5_3 h.1, kr10_0 h.1, kr10_1 h.1, kr17_0 h.1, kr17_1 h.1, kr17_2 h.1, kr17_3 h.1, kr17_4 h.1, kr20_0 h.1, kr20_1 h.1, kr20_2 h.1, kr20_3 h.1, ki1 h.2.1, ki2 h.2.1, ki3 h.2.1, ki4 h.2.1, ki5 h.2.1, ki7 h.2.1, kl8 h.2.1, kl9 h.2.1, ki10 h.2.1, kl11 h.2.1, ki13 h.2.1, ki14 h.2.1, ki15 h.2.1, ki16 h.2.1, ki17 h.2.1, ki18 h.2.1, ki19 h.2.1, ki20 h.2.1, ki21 h.2.1, Option.some.injEq, exists_eq_left', true_and, rs13 h.2.2, rs14 h.2.2, rs54 h.2.2, rs102 h.2.2, rg2 h.2.2, rg18 h.2.2, rg19 h.2.2]
      exact ⟨fun _ => ⟨hl, by trivial⟩, fun q => by omega⟩
    · have ih := ih (by omega)
      have hw : yWk Y k := ⟨hk0, hk⟩
      refine vX2_allDone_5 hr _ _ _ _ ?_
      simp only [kk0 h.1, kk1 h.1, kk2 h.1, kk3 h.1, kk4 h.1, kk5 h.1, kk6 h.1, kk7 h.1, kk8 h.1, kk9 h.1, kk10 h.1, kk11 h.1, kk12 h.1, kk13 h.1, kk14 h.1, kk15 h.1, kk16 h.1, kk17 h.1, kk18 h.1, kk19 h.1, kk20 h.1, kk21 h.1, kr0_0 h.1, kr0_1 h.1, kr0_2 h.1, kr0_3 h.1, kr0_4 h.1, kr1_0 h.1, kr1_1 h.1, kr1_2 h.1, kr5_0 h.1, kr5_1 h.1, kr5_2 h.1, kr5_3 h.1, kr10_0 h.1, kr10_1 h.1, kr17_0 h.1, kr17_1 h.1, kr17_2 h.1, kr17_3 h.1, kr17_4 h.1, kr20_0 h.1, kr20_1 h.1, kr20_2 h.1, kr20_3 h.1, ki1 h.2.1, ki2 h.2.1, ki3 h.2.1, ki4 h.2.1, ki5 h.2.1, ki7 h.2.1, kl8 h.2.1, kl9 h.2.1, ki10 h.2.1, kl11 h.2.1, ki13 h.2.1, ki14 h.2.1, ki15 h.2.1, ki16 h.2.1, ki17 h.2.1, ki18 h.2.1, ki19 h.2.1, ki20 h.2.1, ki21 h.2.1, Option.some.injEq, exists_eq_left', true_and, rs13 h.2.2, rs14 h.2.2, rs54 h.2.2, rs102 h.2.2, rg2 h.2.2, rg18 h.2.2, rg19 h.2.2, kwR h.1 hw.1 hw.2, kwK h.1 hw.1 hw.2, kwi0 h.2.1 hw.1 hw.2, kwl1 h.2.1 hw.1 hw.2, kwi2 h.2.1 hw.1 hw.2, kwi3 h.2.1 hw.1 hw.2, kwi4 h.2.1 hw.1 hw.2, kwi5 h.2.1 hw.1 hw.2, kwi6 h.2.1 hw.1 hw.2, kwi7 h.2.1 hw.1 hw.2, kwi8 h.2.1 hw.1 hw.2, kwi9 h.2.1 hw.1 hw.2, kwi10 h.2.1 hw.1 hw.2, kwi11 h.2.1 hw.1 hw.2, kwl12 h.2.1 hw.1 hw.2, kwl13 h.2.1 hw.1 hw.2, kwl14 h.2.1 hw.1 hw.2, kwl15 h.2.1 hw.1 hw.2, rw22 h.2.2 hw, rw23 h.2.2 hw, rw24 h.2.2 hw, rw25 h.2.2 hw, rw26 h.2.2 hw, rw27 h.2.2 hw, rw28 h.2.2 hw, rw29 h.2.2 hw, rw30 h.2.2 hw, rw31 h.2.2 hw, rw32 h.2.2 hw, rw33 h.2.2 hw]
      refine ⟨fun q => by omega, fun _ => ⟨by trivial, hk0, by omega, zu (k_isDone (kwK h.1 hw.1 hw.2) _ (by simp only [kwR h.1 hw.1 hw.2, kwK h.1 hw.1 hw.2, kwi0 h.2.1 hw.1 hw.2, kwl1 h.2.1 hw.1 hw.2, kwi2 h.2.1 hw.1 hw.2, kwi3 h.2.1 hw.1 hw.2, kwi4 h.2.1 hw.1 hw.2, kwi5 h.2.1 hw.1 hw.2, kwi6 h.2.1 hw.1 hw.2, kwi7 h.2.1 hw.1 hw.2, kwi8 h.2.1 hw.1 hw.2, kwi9 h.2.1 hw.1 hw.2, kwi10 h.2.1 hw.1 hw.2, kwi11 h.2.1 hw.1 hw.2, kwl12 h.2.1 hw.1 hw.2, kwl13 h.2.1 hw.1 hw.2, kwl14 h.2.1 hw.1 hw.2, kwl15 h.2.1 hw.1 hw.2, rw22 h.2.2 hw, rw23 h.2.2 hw, rw24 h.2.2 hw, rw25 h.2.2 hw, rw26 h.2.2 hw, rw27 h.2.2 hw, rw28 h.2.2 hw, rw29 h.2.2 hw, rw30 h.2.2 hw, rw31 h.2.2 hw, rw32 h.2.2 hw, rw33 h.2.2 hw]; exact yB_b hi hw)) ?_⟩⟩
      simp only [kk0 h.1, kk1 h.1, kk2 h.1, kk3 h.1, kk4 h.1, kk5 h.1, kk6 h.1, kk7 h.1, kk8 h.1, kk9 h.1, kk10 h.1, kk11 h.1, kk12 h.1, kk13 h.1, kk14 h.1, kk15 h.1, kk16 h.1, kk17 h.1, kk18 h.1, kk19 h.1, kk20 h.1, kk21 h.1, kr0_0 h.1, kr0_1 h.1, kr0_2 h.1, kr0_3 h.1, kr0_4 h.1, kr1_0 h.1, kr1_1 h.1, kr1_2 h.1, kr5_0 h.1, kr5_1 h.1, kr5_2 h.1, kr5_3 h.1, kr10_0 h.1, kr10_1 h.1, kr17_0 h.1, kr17_1 h.1, kr17_2 h.1, kr17_3 h.1, kr17_4 h.1, kr20_0 h.1, kr20_1 h.1, kr20_2 h.1, kr20_3 h.1, ki1 h.2.1, ki2 h.2.1, ki3 h.2.1, ki4 h.2.1, ki5 h.2.1, ki7 h.2.1, kl8 h.2.1, kl9 h.2.1, ki10 h.2.1, kl11 h.2.1, ki13 h.2.1, ki14 h.2.1, ki15 h.2.1, ki16 h.2.1, ki17 h.2.1, ki18 h.2.1, ki19 h.2.1, ki20 h.2.1, ki21 h.2.1, Option.some.injEq, exists_eq_left', true_and, rs13 h.2.2, rs14 h.2.2, rs54 h.2.2, rs102 h.2.2, rg2 h.2.2, rg18 h.2.2, rg19 h.2.2, kwR h.1 hw.1 hw.2, kwK h.1 hw.1 hw.2, kwi0 h.2.1 hw.1 hw.2, kwl1 h.2.1 hw.1 hw.2, kwi2 h.2.1 hw.1 hw.2, kwi3 h.2.1 hw.1 hw.2, kwi4 h.2.1 hw.1 hw.2, kwi5 h.2.1 hw.1 hw.2, kwi6 h.2.1 hw.1 hw.2, kwi7 h.2.1 hw.1 hw.2, kwi8 h.2.1 hw.1 hw.2, kwi9 h.2.1 hw.1 hw.2, kwi10 h.2.1 hw.1 hw.2, kwi11 h.2.1 hw.1 hw.2, kwl12 h.2.1 hw.1 hw.2, kwl13 h.2.1 hw.1 hw.2, kwl14 h.2.1 hw.1 hw.2, kwl15 h.2.1 hw.1 hw.2, rw22 h.2.2 hw, rw23 h.2.2 hw, rw24 h.2.2 hw, rw25 h.2.2 hw, rw26 h.2.2 hw, rw27 h.2.2 hw, rw28 h.2.2 hw, rw29 h.2.2 hw, rw30 h.2.2 hw, rw31 h.2.2 hw, rw32 h.2.2 hw, rw33 h.2.2 hw]
      have de : (Y 15 k ≠ -1 ∧ Y 15 k + Y 9 k ≤ Y 0 0) ↔ yDone Y k := Iff.rfl
      refine ⟨fun q => ⟨by unfold zin; omega, ih _ (zBs_eq hl (fun i i0 i1 => ?_))⟩, fun q => ⟨by trivial, hk0, by omega, by unfold zin; omega, ih _ (zBs_eq (zBs_or hl (zBs_bit hk0 (by omega))) (fun i i0 i1 => ?_))⟩⟩
      · have q := p2i_0.mp q
        constructor
        · exact fun z => ⟨⟨z.1.1, by have := z.1.2; omega⟩, z.2⟩
        · intro z
          refine ⟨⟨z.1.1, ?_⟩, z.2⟩
          have : i ≠ k := fun e => q (de.mpr (by rw [← e]; exact z.2))
          have := z.1.2
          omega
      · have q := de.mp (p2i_n0.mp q)
        constructor
        · rintro (z | z)
          · exact ⟨⟨z.1.1, by have := z.1.2; omega⟩, z.2⟩
          · exact ⟨⟨by omega, by omega⟩, by rw [z]; exact q⟩
        · intro z
          by_cases e : i = k
          · exact Or.inr e
          · exact Or.inl ⟨⟨z.1.1, by have := z.1.2; omega⟩, z.2⟩
  exact key 0 (by omega) (by omega) 0 (zBs_0 (fun i _ _ z => by have := z.1; omega))
end C3
