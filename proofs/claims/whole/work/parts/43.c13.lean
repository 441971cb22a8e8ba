/-! ===== Net: rank, pushEarly, pushTail, weigh ===== -/
theorem kNd0 {c : Int} {Y : yS} {L : yL} (h : rNd L Y) (hi : yInv c Y) {k m : Int} (hk : yWk Y k) (hm : yWk Y m) : L 34 k &&& zbit m ≠ 0 ↔ yNd Y k m := by
  rw [zBs_in (h k hk) hm.1 (by have := yW_lt hi hm; omega)]
  exact ⟨fun q => q.2, fun q => ⟨hm, q⟩⟩
def rRk (V Y : yS) : Prop := (∀ p, 0 ≤ p → p < Y 8 0 → yWk Y (V 7 p)) ∧ (∀ i, yWk Y i → ∃ p, 0 ≤ p ∧ p < Y 8 0 ∧ V 7 p = i) ∧ (∀ p q, 0 ≤ p → p ≤ q → q < Y 8 0 → yRk Y (V 7 p) ≤ yRk Y (V 7 q))
def yLx (Y : yS) (b i j : Int) : Prop := yRk Y j < b ∨ (yRk Y j = b ∧ j < i)
noncomputable def yCt (Y : yS) (b i : Int) : Int := ysum (fun j => p2i (yLx Y b i j)) (Y 8 0)
def rRp (V Y : yS) (b i r : Int) : Prop := r = yCt Y b i ∧ (∀ p, 0 ≤ p → p < r → yWk Y (V 7 p) ∧ yLx Y b i (V 7 p)) ∧ (∀ j, yWk Y j → yLx Y b i j → ∃ p, 0 ≤ p ∧ p < r ∧ V 7 p = j) ∧ (∀ p q, 0 ≤ p → p ≤ q → q < r → yRk Y (V 7 p) ≤ yRk Y (V 7 q))
noncomputable def peV (V Y : yS) (b k : Int) : yS := fun o i => pif (o = 32 ∧ 0 ≤ i ∧ i < k ∧ yNd Y i b) (max (V 32 i) (V 32 b + Y 9 b)) (V o i)
noncomputable def ptV (V Y : yS) (b k : Int) : yS := fun o i => pif (o = 33 ∧ 0 ≤ i ∧ i < k ∧ yNd Y b i) (max (V 33 i) (Y 9 b + V 33 b)) (V o i)
theorem peV_o {V Y : yS} {b k : Int} {o : Nat} (h : o ≠ 32) (i : Int) : peV V Y b k o i = V o i := pif_f (fun z => h z.1)
theorem ptV_o {V Y : yS} {b k : Int} {o : Nat} (h : o ≠ 33) (i : Int) : ptV V Y b k o i = V o i := pif_f (fun z => h z.1)
theorem peV_n {V Y : yS} {b k : Int} (h : ¬ yNd Y k b) (o : Nat) (i : Int) : peV V Y b k o i = peV V Y b (k + 1) o i := by
  unfold peV
  refine pif_c ⟨fun z => ⟨z.1, z.2.1, by have := z.2.2.1; omega, z.2.2.2⟩, fun z => ⟨z.1, z.2.1, ?_, z.2.2.2⟩⟩
  have := z.2.2.1
  by_cases e : i = k
  · rw [e] at z; exact absurd z.2.2.2 h
  · omega
theorem peV_s {V Y : yS} {b k : Int} (h : yNd Y k b) (h0 : 0 ≤ k) (o : Nat) (i : Int) : yup (peV V Y b k) 32 k (max (V 32 k) (V 32 b + Y 9 b)) o i = peV V Y b (k + 1) o i := by
  by_cases e : o = 32 ∧ i = k
  · rw [e.1, e.2, yup_s]
    unfold peV
    rw [pif_t ⟨rfl, h0, by omega, h⟩]
  · rw [yup_n _ _ _ _ e]
    unfold peV
    refine pif_c ⟨fun z => ⟨z.1, z.2.1, by have := z.2.2.1; omega, z.2.2.2⟩, fun z => ⟨z.1, z.2.1, ?_, z.2.2.2⟩⟩
    have := z.2.2.1
    have : i ≠ k := fun e2 => e ⟨z.1, e2⟩
    omega
theorem ptV_n {V Y : yS} {b k : Int} (h : ¬ yNd Y b k) (o : Nat) (i : Int) : ptV V Y b k o i = ptV V Y b (k + 1) o i := by
  unfold ptV
  refine pif_c ⟨fun z => ⟨z.1, z.2.1, by have := z.2.2.1; omega, z.2.2.2⟩, fun z => ⟨z.1, z.2.1, ?_, z.2.2.2⟩⟩
  have := z.2.2.1
  by_cases e : i = k
  · rw [e] at z; exact absurd z.2.2.2 h
  · omega
theorem ptV_s {V Y : yS} {b k : Int} (h : yNd Y b k) (h0 : 0 ≤ k) (o : Nat) (i : Int) : yup (ptV V Y b k) 33 k (max (V 33 k) (Y 9 b + V 33 b)) o i = ptV V Y b (k + 1) o i := by
  by_cases e : o = 33 ∧ i = k
  · rw [e.1, e.2, yup_s]
    unfold ptV
    rw [pif_t ⟨rfl, h0, by omega, h⟩]
  · rw [yup_n _ _ _ _ e]
    unfold ptV
    refine pif_c ⟨fun z => ⟨z.1, z.2.1, by have := z.2.2.1; omega, z.2.2.2⟩, fun z => ⟨z.1, z.2.1, ?_, z.2.2.2⟩⟩
    have := z.2.2.1
    have : i ≠ k := fun e2 => e ⟨z.1, e2⟩
    omega
section C13
variable {E : zE} {d x : Nat} {wa : Int → Nat} {M : zM} {V Y : yS} {L : yL} {c : Int}
theorem k_pushEarly (hs : kSh x wa (Y 8 0) M) (hc : kCo x wa (Y 8 0) M V L) (e54 : V 5 4 = Y 8 0) (h29 : ∀ k, yWk Y k → V 29 k = Y 9 k) (h23 : ∀ k, yWk Y k → L 23 k = zbit k) (hnd : rNd L Y) (hi : yInv c Y) (ha : yAcy Y) (hv : ∀ k, yWk Y k → 0 ≤ V 32 k ∧ V 32 k ≤ 2000) {b : Int} (hb : yWk Y b) : zCv E mX2_pushEarly (d + 2) 0 0 [vR (some (x + 5)), vR (some (wa b))] M (fun M' => kPo x wa (Y 8 0) M M' (peV V Y b (Y 8 0)) L) := by
  refine sX2_pushEarly _ _ (fun X hr => vX2_pushEarly_0 hr _ _ ?_)
  have h8 := yI_n hi
  have nb : ¬ yNd Y b b := acy_nn ha hb
  have key : ∀ k : Int, 0 ≤ k → k ≤ Y 8 0 → ∀ M1 : zM, kPo x wa (Y 8 0) M M1 (peV V Y b k) L → ZX2_pushEarly E (d + 1) X (fun M' => kPo x wa (Y 8 0) M M' (peV V Y b (Y 8 0)) L) 2 [(0, vR (some (x + 5))), (1, vR (some (wa b))), (2, vI k)] [] M1 0 0 := by
    refine zdownI (n := Y 8 0) (fun k hk hk0 hk2 M1 hp => ?_) (fun k hk0 hk ih hk2 M1 hp => ?_)
    · have hk : k = Y 8 0 := by omega
      subst hk
      refine vX2_pushEarly_2 hr _ _ _ ?_
      simp only [kk0 hp.1, kk1 hp.1, kk2 hp.1, kk3 hp.1, kk4 hp.1, kk5 hp.1, kk6 hp.1, kk7 hp.1, kk8 hp.1, kk9 hp.1, kk10 hp.1, kk11 hp.1, kk12 hp.1, kk13 hp.1, kk14 hp.1, kk15 hp.1, kk16 hp.1, kk17 hp.1, kk18 hp.1, kk19 hp.1, kk20 hp.1, kk21 hp.1, kr0_0 hp.1, kr0_1 hp.1, kr0_2 hp.1, kr0_3 hp.1, kr0_4 hp.1, kr1_0 hp.1, kr1_1 hp.1, kr1_2 hp.1, kr5_0 hp.1, kr5_1 hp.1, kr5_2 hp.1, kr5_3 hp.1, kr10_0 hp.1, kr10_1 hp.1, kr17_0 hp.1, kr17_1 hp.1, kr17_2 hp.1, kr17_3 hp.1, kr17_4 hp.1, kr20_0 hp.1, kr20_1 hp.1, kr20_2 hp.1, kr20_3 hp.1, ki1 hp.2.1, ki2 hp.2.1, ki3 hp.2.1, ki4 hp.2.1, ki5 hp.2.1, ki7 hp.2.1, kl8 hp.2.1, kl9 hp.2.1, ki10 hp.2.1, kl11 hp.2.1, ki13 hp.2.1, ki14 hp.2.1, ki15 hp.2.1, ki16 hp.2.1, ki17 hp.2.1, ki18 hp.2.1, ki19 hp.2.1, ki20 hp.2.1, ki21 hp.2.1, Option.some.injEq, exists_eq_left', true_and, peV_o (show (5 : Nat) ≠ 32 by omega), e54]
      exact ⟨fun _ => hp, fun q => by omega⟩
    · have ih := ih (by omega)
      have hm : yWk Y k := ⟨hk0, hk⟩
      have hvb := hv b hb
      have hvk := hv k hm
      have hlb := yI_w hi hb.1 hb.2
      have eb : peV V Y b k 32 b = V 32 b := pif_f (fun z => nb z.2.2.2)
      have ek : peV V Y b k 32 k = V 32 k := pif_f (fun z => by have := z.2.2.1; omega)
      refine vX2_pushEarly_2 hr _ _ _ ?_
      simp only [kk0 hp.1, kk1 hp.1, kk2 hp.1, kk3 hp.1, kk4 hp.1, kk5 hp.1, kk6 hp.1, kk7 hp.1, kk8 hp.1, kk9 hp.1, kk10 hp.1, kk11 hp.1, kk12 hp.1, kk13 hp.1, kk14 hp.1, kk15 hp.1, kk16 hp.1, kk17 hp.1, kk18 hp.1, kk19 hp.1, kk20 hp.1, kk21 hp.1, kr0_0 hp.1, kr0_1 hp.1, kr0_2 hp.1, kr0_3 hp.1, kr0_4 hp.1, kr1_0 hp.1, kr1_1 hp.1, kr1_2 hp.1, kr5_0 hp.1, kr5_1 hp.1, kr5_2 hp.1, kr5_3 hp.1, kr10_0 hp.1, kr10_1 hp.1, kr17_0 hp.1, kr17_1 hp.1, kr17_2 hp.1, kr17_3 hp.1, kr17_4 hp.1, kr20_0 hp.1, kr20_1 hp.1, kr20_2 hp.1, kr20_3 hp.1, ki1 hp.2.1, ki2 hp.2.1, ki3 hp.2.1, ki4 hp.2.1, ki5 hp.2.1, ki7 hp.2.1, kl8 hp.2.1, kl9 hp.2.1, ki10 hp.2.1, kl11 hp.2.1, ki13 hp.2.1, ki14 hp.2.1, ki15 hp.2.1, ki16 hp.2.1, ki17 hp.2.1, ki18 hp.2.1, ki19 hp.2.1, ki20 hp.2.1, ki21 hp.2.1, Option.some.injEq, exists_eq_left', true_and, kwR hp.1 hk0 hk, kwK hp.1 hk0 hk, kwi0 hp.2.1 hk0 hk, kwl1 hp.2.1 hk0 hk, kwi2 hp.2.1 hk0 hk, kwi3 hp.2.1 hk0 hk, kwi4 hp.2.1 hk0 hk, kwi5 hp.2.1 hk0 hk, kwi6 hp.2.1 hk0 hk, kwi7 hp.2.1 hk0 hk, kwi8 hp.2.1 hk0 hk, kwi9 hp.2.1 hk0 hk, kwi10 hp.2.1 hk0 hk, kwi11 hp.2.1 hk0 hk, kwl12 hp.2.1 hk0 hk, kwl13 hp.2.1 hk0 hk, kwl14 hp.2.1 hk0 hk, kwl15 hp.2.1 hk0 hk, kwR hp.1 hb.1 hb.2, kwK hp.1 hb.1 hb.2, kwi0 hp.2.1 hb.1 hb.2, kwl1 hp.2.1 hb.1 hb.2, kwi2 hp.2.1 hb.1 hb.2, kwi3 hp.2.1 hb.1 hb.2, kwi4 hp.2.1 hb.1 hb.2, kwi5 hp.2.1 hb.1 hb.2, kwi6 hp.2.1 hb.1 hb.2, kwi7 hp.2.1 hb.1 hb.2, kwi8 hp.2.1 hb.1 hb.2, kwi9 hp.2.1 hb.1 hb.2, kwi10 hp.2.1 hb.1 hb.2, kwi11 hp.2.1 hb.1 hb.2, kwl12 hp.2.1 hb.1 hb.2, kwl13 hp.2.1 hb.1 hb.2, kwl14 hp.2.1 hb.1 hb.2, kwl15 hp.2.1 hb.1 hb.2, peV_o (show (5 : Nat) ≠ 32 by omega), e54]
      refine ⟨fun q => by omega, fun _ => ⟨by trivial, hk0, by omega, zu (k_leansOn (kwK hp.1 hk0 hk) (kwK hp.1 hb.1 hb.2)) ?_⟩⟩
      simp only [kk0 hp.1, kk1 hp.1, kk2 hp.1, kk3 hp.1, kk4 hp.1, kk5 hp.1, kk6 hp.1, kk7 hp.1, kk8 hp.1, kk9 hp.1, kk10 hp.1, kk11 hp.1, kk12 hp.1, kk13 hp.1, kk14 hp.1, kk15 hp.1, kk16 hp.1, kk17 hp.1, kk18 hp.1, kk19 hp.1, kk20 hp.1, kk21 hp.1, kr0_0 hp.1, kr0_1 hp.1, kr0_2 hp.1, kr0_3 hp.1, kr0_4 hp.1, kr1_0 hp.1, kr1_1 hp.1, kr1_2 hp.1, kr5_0 hp.1, kr5_1 hp.1, kr5_2 hp.1, kr5_3 hp.1, kr10_0 hp.1, kr10_1 hp.1, kr17_0 hp.1, kr17_1 hp.1, kr17_2 hp.1, kr17_3 hp.1, kr17_4 hp.1, kr20_0 hp.1, kr20_1 hp.1, kr20_2 hp.1, kr20_3 hp.1, ki1 hp.2.1, ki2 hp.2.1, ki3 hp.2.1, ki4 hp.2.1, ki5 hp.2.1, ki7 hp.2.1, kl8 hp.2.1, kl9 hp.2.1, ki10 hp.2.1, kl11 hp.2.1, ki13 hp.2.1, ki14 hp.2.1, ki15 hp.2.1, ki16 hp.2.1, ki17 hp.2.1, ki18 hp.2.1, ki19 hp.2.1, ki20 hp.2.1, ki21 hp.2.1, Option.some.injEq, exists_eq_left', true_and, kwR hp.1 hk0 hk, kwK hp.1 hk0 hk, kwi0 hp.2.1 hk0 hk, kwl1 hp.2.1 hk0 hk, kwi2 hp.2.1 hk0 hk, kwi3 hp.2.1 hk0 hk, kwi4 hp.2.1 hk0 hk, kwi5 hp.2.1 hk0 hk, kwi6 hp.2.1 hk0 hk, kwi7 hp.2.1 hk0 hk, kwi8 hp.2.1 hk0 hk, kwi9 hp.2.1 hk0 hk, kwi10 hp.2.1 hk0 hk, kwi11 hp.2.1 hk0 hk, kwl12 hp.2.1 hk0 hk, kwl13 hp.2.1 hk0 hk, kwl14 hp.2.1 hk0 hk, kwl15 hp.2.1 hk0 hk, kwR hp.1 hb.1 hb.2, kwK hp.1 hb.1 hb.2, kwi0 hp.2.1 hb.1 hb.2, kwl1 hp.2.1 hb.1 hb.2, kwi2 hp.2.1 hb.1 hb.2, kwi3 hp.2.1 hb.1 hb.2, kwi4 hp.2.1 hb.1 hb.2, kwi5 hp.2.1 hb.1 hb.2, kwi6 hp.2.1 hb.1 hb.2, kwi7 hp.2.1 hb.1 hb.2, kwi8 hp.2.1 hb.1 hb.2, kwi9 hp.2.1 hb.1 hb.2, kwi10 hp.2.1 hb.1 hb.2, kwi11 hp.2.1 hb.1 hb.2, kwl12 hp.2.1 hb.1 hb.2, kwl13 hp.2.1 hb.1 hb.2, kwl14 hp.2.1 hb.1 hb.2, kwl15 hp.2.1 hb.1 hb.2, h23 b hb, kNd0 hnd hi hm hb, peV_o (show (29 : Nat) ≠ 32 by omega), h29 b hb, eb, ek]
      refine ⟨fun q => ⟨by unfold zin; omega, ih M1 (kPo_eq hp (peV_n (p2i_0.mp q)) (fun _ _ => rfl))⟩, fun q => ⟨by unfold zin; omega, ?_⟩⟩
      rintro M2 e2
      exact ⟨by unfold zin; omega, ih M2 (kPo_eq (kPo_wI (f := 10) hp e2 rfl rfl (by decide) hk0 hk) (peV_s (p2i_n0.mp q) hk0) (fun _ _ => rfl))⟩
  exact key 0 (by omega) h8.1 M (kPo_eq (kPo_rf hs hc) (fun o i => (pif_f (fun z => by have := z.2.2.1; omega)).symm) (fun _ _ => rfl))
theorem k_pushTail (hs : kSh x wa (Y 8 0) M) (hc : kCo x wa (Y 8 0) M V L) (e54 : V 5 4 = Y 8 0) (h29 : ∀ k, yWk Y k → V 29 k = Y 9 k) (h23 : ∀ k, yWk Y k → L 23 k = zbit k) (hnd : rNd L Y) (hi : yInv c Y) (ha : yAcy Y) (hv : ∀ k, yWk Y k → 0 ≤ V 33 k ∧ V 33 k ≤ 2000) {b : Int} (hb : yWk Y b) : zCv E mX2_pushTail (d + 2) 0 0 [vR (some (x + 5)), vR (some (wa b))] M (fun M' => kPo x wa (Y 8 0) M M' (ptV V Y b (Y 8 0)) L) := by
  refine sX2_pushTail _ _ (fun X hr => vX2_pushTail_0 hr _ _ ?_)
  have h8 := yI_n hi
  have nb : ¬ yNd Y b b := acy_nn ha hb
  have key : ∀ k : Int, 0 ≤ k → k ≤ Y 8 0 → ∀ M1 : zM, kPo x wa (Y 8 0) M M1 (ptV V Y b k) L → ZX2_pushTail E (d + 1) X (fun M' => kPo x wa (Y 8 0) M M' (ptV V Y b (Y 8 0)) L) 2 [(0, vR (some (x + 5))), (1, vR (some (wa b))), (2, vI k)] [] M1 0 0 := by
    refine zdownI (n := Y 8 0) (fun k hk hk0 hk2 M1 hp => ?_) (fun k hk0 hk ih hk2 M1 hp => ?_)
    · have hk : k = Y 8 0 := by omega
      subst hk
      refine vX2_pushTail_2 hr _ _ _ ?_
      simp only [kk0 hp.1, kk1 hp.1, kk2 hp.1, kk3 hp.1, kk4 hp.1, kk5 hp.1, kk6 hp.1, kk7 hp.1, kk8 hp.1, kk9 hp.1, kk10 hp.1, kk11 hp.1, kk12 hp.1, kk13 hp.1, kk14 hp.1, kk15 hp.1, kk16 hp.1, kk17 hp.1, kk18 hp.1, kk19 hp.1, kk20 hp.1, kk21 hp.1, kr0_0 hp.1, kr0_1 hp.1, kr0_2 hp.1, kr0_3 hp.1, kr0_4 hp.1, kr1_0 hp.1, kr1_1 hp.1, kr1_2 hp.1, kr5_0 hp.1, kr5_1 hp.1, kr5_2 hp.1, kr5_3 hp.1, kr10_0 hp.1, kr10_1 hp.1, kr17_0 hp.1, kr17_1 hp.1, kr17_2 hp.1, kr17_3 hp.1, kr17_4 hp.1, kr20_0 hp.1, kr20_1 hp.1, kr20_2 hp.1, kr20_3 hp.1, ki1 hp.2.1, ki2 hp.2.1, ki3 hp.2.1, ki4 hp.2.1, ki5 hp.2.1, ki7 hp.2.1, kl8 hp.2.1, kl9 hp.2.1, ki10 hp.2.1, kl11 hp.2.1, ki13 hp.2.1, ki14 hp.2.1, ki15 hp.2.1, ki16 hp.2.1, ki17 hp.2.1, ki18 hp.2.1, ki19 hp.2.1, ki20 hp.2.1, ki21 hp.2.1, Option.some.injEq, exists_eq_left', true_and, ptV_o (show (5 : Nat) ≠ 33 by omega), e54]
      exact ⟨fun _ => hp, fun q => by omega⟩
    · have ih := ih (by omega)
      have hm : yWk Y k := ⟨hk0, hk⟩
      have hvb := hv b hb
      have hvk := hv k hm
      have hlb := yI_w hi hb.1 hb.2
      have eb : ptV V Y b k 33 b = V 33 b := pif_f (fun z => nb z.2.2.2)
      have ek : ptV V Y b k 33 k = V 33 k := pif_f (fun z => by have := z.2.2.1; omega)
      refine vX2_pushTail_2 hr _ _ _ ?_
      simp only [kk0 hp.1, kk1 hp.1, kk2 hp.1, kk3 hp.1, kk4 hp.1, kk5 hp.1, kk6 hp.1, kk7 hp.1, kk8 hp.1, kk9 hp.1, kk10 hp.1, kk11 hp.1, kk12 hp.1, kk13 hp.1, kk14 hp.1, kk15 hp.1, kk16 hp.1, kk17 hp.1, kk18 hp.1, kk19 hp.1, kk20 hp.1, kk21 hp.1, kr0_0 hp.1, kr0_1 hp.1, kr0_2 hp.1, kr0_3 hp.1, kr0_4 hp.1, kr1_0 hp.1, kr1_1 hp.1, kr1_2 hp.1, kr5_0 hp.1, kr5_1 hp.1, kr5_2 hp.1, kr5_3 hp.1, kr10_0 hp.1, kr10_1 hp.1, kr17_0 hp.1, kr17_1 hp.1, kr17_2 hp.1, kr17_3 hp.1, kr17_4 hp.1, kr20_0 hp.1, kr20_1 hp.1, kr20_2 hp.1, kr20_3 hp.1, ki1 hp.2.1, ki2 hp.2.1, ki3 hp.2.1, ki4 hp.2.1, ki5 hp.2.1, ki7 hp.2.1, kl8 hp.2.1, kl9 hp.2.1, ki10 hp.2.1, kl11 hp.2.1, ki13 hp.2.1, ki14 hp.2.1, ki15 hp.2.1, ki16 hp.2.1, ki17 hp.2.1, ki18 hp.2.1, ki19 hp.2.1, ki20 hp.2.1, ki21 hp.2.1, Option.some.injEq, exists_eq_left', true_and, kwR hp.1 hk0 hk, kwK hp.1 hk0 hk, kwi0 hp.2.1 hk0 hk, kwl1 hp.2.1 hk0 hk, kwi2 hp.2.1 hk0 hk, kwi3 hp.2.1 hk0 hk, kwi4 hp.2.1 hk0 hk, kwi5 hp.2.1 hk0 hk, kwi6 hp.2.1 hk0 hk, kwi7 hp.2.1 hk0 hk, kwi8 hp.2.1 hk0 hk, kwi9 hp.2.1 hk0 hk, kwi10 hp.2.1 hk0 hk, kwi11 hp.2.1 hk0 hk, kwl12 hp.2.1 hk0 hk, kwl13 hp.2.1 hk0 hk, kwl14 hp.2.1 hk0 hk, kwl15 hp.2.1 hk0 hk, kwR hp.1 hb.1 hb.2, kwK hp.1 hb.1 hb.2, kwi0 hp.2.1 hb.1 hb.2, kwl1 hp.2.1 hb.1 hb.2, kwi2 hp.2.1 hb.1 hb.2, kwi3 hp.2.1 hb.1 hb.2, kwi4 hp.2.1 hb.1 hb.2, kwi5 hp.2.1 hb.1 hb.2, kwi6 hp.2.1 hb.1 hb.2, kwi7 hp.2.1 hb.1 hb.2, kwi8 hp.2.1 hb.1 hb.2, kwi9 hp.2.1 hb.1 hb.2, kwi10 hp.2.1 hb.1 hb.2, kwi11 hp.2.1 hb.1 hb.2, kwl12 hp.2.1 hb.1 hb.2, kwl13 hp.2.1 hb.1 hb.2, kwl14 hp.2.1 hb.1 hb.2, kwl15 hp.2.1 hb.1 hb.2, ptV_o (show (5 : Nat) ≠ 33 by omega), e54]
      refine ⟨fun q => by omega, fun _ => ⟨by trivial, hk0, by omega, zu (k_leansOn (kwK hp.1 hb.1 hb.2) (kwK hp.1 hk0 hk)) ?_⟩⟩
      simp only [kk0 hp.1, kk1 hp.1, kk2 hp.1, kk3 hp.1, kk4 hp.1, kk5 hp.1, kk6 hp.1, kk7 hp.1, kk8 hp.1, kk9 hp.1, kk10 hp.1, kk11 hp.1, kk12 hp.1, kk13 hp.1, kk14 hp.1, kk15 hp.1, kk16 hp.1, kk17 hp.1, kk18 hp.1, kk19 hp.1, kk20 hp.1, kk21 hp.1, kr0_0 hp.1, kr0_1 hp.1, kr0_2 hp.1, kr0_3 hp.1, kr0_4 hp.1, kr1_0 hp.1, kr1_1 hp.1, kr1_2 hp.1, kr5_0 hp.1, kr5_1 hp.1, kr5_2 hp.1, kr5_3 hp.1, kr10_0 hp.1, kr10_1 hp.1, kr17_0 hp.1, kr17_1 hp.1, kr17_2 hp.1, kr17_3 hp.1, kr17_4 hp.1, kr20_0 hp.1, kr20_1 hp.1, kr20_2 hp.1, kr20_3 hp.1, ki1 hp.2.1, ki2 hp.2.1, ki3 hp.2.1, ki4 hp.2.1, ki5 hp.2.1, ki7 hp.2.1, kl8 hp.2.1, kl9 hp.2.1, ki10 hp.2.1, kl11 hp.2.1, ki13 hp.2.1, ki14 hp.2.1, ki15 hp.2.1, ki16 hp.2.1, ki17 hp.2.1, ki18 hp.2.1, ki19 hp.2.1, ki20 hp.2.1, ki21 hp.2.1, Option.some.injEq, exists_eq_left', true_and, kwR hp.1 hk0 hk, kwK hp.1 hk0 hk, kwi0 hp.2.1 hk0 hk, kwl1 hp.2.1 hk0 hk, kwi2 hp.2.1 hk0 hk, kwi3 hp.2.1 hk0 hk, kwi4 hp.2.1 hk0 hk, kwi5 hp.2.1 hk0 hk, kwi6 hp.2.1 hk0 hk, kwi7 hp.2.1 hk0 hk, kwi8 hp.2.1 hk0 hk, kwi9 hp.2.1 hk0 hk, kwi10 hp.2.1 hk0 hk, kwi11 hp.2.1 hk0 hk, kwl12 hp.2.1 hk0 hk, kwl13 hp.2.1 hk0 hk, kwl14 hp.2.1 hk0 hk, kwl15 hp.2.1 hk0 hk, kwR hp.1 hb.1 hb.2, kwK hp.1 hb.1 hb.2, kwi0 hp.2.1 hb.1 hb.2, kwl1 hp.2.1 hb.1 hb.2, kwi2 hp.2.1 hb.1 hb.2, kwi3 hp.2.1 hb.1 hb.2, kwi4 hp.2.1 hb.1 hb.2, kwi5 hp.2.1 hb.1 hb.2, kwi6 hp.2.1 hb.1 hb.2, kwi7 hp.2.1 hb.1 hb.2, kwi8 hp.2.1 hb.1 hb.2, kwi9 hp.2.1 hb.1 hb.2, kwi10 hp.2.1 hb.1 hb.2, kwi11 hp.2.1 hb.1 hb.2, kwl12 hp.2.1 hb.1 hb.2, kwl13 hp.2.1 hb.1 hb.2, kwl14 hp.2.1 hb.1 hb.2, kwl15 hp.2.1 hb.1 hb.2, h23 k hm, kNd0 hnd hi hb hm, ptV_o (show (29 : Nat) ≠ 33 by omega), h29 b hb, eb, ek]
      refine ⟨fun q => ⟨by unfold zin; omega, ih M1 (kPo_eq hp (ptV_n (p2i_0.mp q)) (fun _ _ => rfl))⟩, fun q => ⟨by unfold zin; omega, ?_⟩⟩
      rintro M2 e2
      exact ⟨by unfold zin; omega, ih M2 (kPo_eq (kPo_wI (f := 11) hp e2 rfl rfl (by decide) hk0 hk) (ptV_s (p2i_n0.mp q) hk0) (fun _ _ => rfl))⟩
  exact key 0 (by omega) h8.1 M (kPo_eq (kPo_rf hs hc) (fun o i => (pif_f (fun z => by have := z.2.2.1; omega)).symm) (fun _ _ => rfl))
theorem k_rank (hs : kSh x wa (Y 8 0) M) (hc : kCo x wa (Y 8 0) M V L) (e54 : V 5 4 = Y 8 0) (hun : rUn L Y) (hi : yInv c Y) (ha : yAcy Y) : zCv E mX2_rank (d + 2) 0 0 [vR (some (x + 5))] M (fun M' => ∃ V1, kPo x wa (Y 8 0) M M' V1 L ∧ (∀ o, o ≠ 7 → ∀ i, V1 o i = V o i) ∧ rRk V1 Y) := by
  refine sX2_rank _ (fun X hr => vX2_rank_0 hr _ ?_)
  have h8 := yI_n hi
  have pop : ∀ k, yWk Y k → zpop (L 35 k) = yRk Y k := fun k hk => zpop_s (hun k hk) h8.1 (by omega) (fun m hm => (hang_wk hm).2)
  have rkn : ∀ k, yWk Y k → 0 ≤ yRk Y k ∧ yRk Y k < Y 8 0 := fun k hk => by
    refine ⟨(rk_b hi ha hk).1, ?_⟩
    have : yRk Y k < ysum (fun _ => 1) (Y 8 0) := ysum_lt (b := k) hk.1 hk.2 (fun m _ _ => by rcases p2i_01 (yHang Y k m) with q | q <;> rw [q] <;> omega) (by rw [p2i_f (ha k hk)]; omega)
    rw [ysum_one h8.1] at this
    exact this
  have ctb : ∀ b i, 0 ≤ yCt Y b i ∧ yCt Y b i ≤ Y 8 0 := fun b i => by
    have := ysum_b (f := fun j => p2i (yLx Y b i j)) (b := 1) h8.1 (fun j _ _ => by show 0 ≤ p2i _ ∧ p2i _ ≤ 1; rcases p2i_01 (yLx Y b i j) with z | z <;> omega)
    unfold yCt
    omega
  have cts : ∀ b i, yWk Y i → yRk Y i = b → yCt Y b (i + 1) = yCt Y b i + 1 := fun b i hk e => by
    have := ysum_upd (f := fun j => p2i (yLx Y b i j)) (g := fun j => p2i (yLx Y b (i + 1) j)) hk.1 hk.2 (fun j hj => p2i_congr ⟨fun z => z.elim Or.inl (fun z => Or.inr ⟨z.1, by omega⟩), fun z => z.elim Or.inl (fun z => Or.inr ⟨z.1, by omega⟩)⟩)
    have e1 : p2i (yLx Y b (i + 1) i) = 1 := p2i_t (Or.inr ⟨e, by omega⟩)
    have e2 : p2i (yLx Y b i i) = 0 := p2i_f (fun z => by rcases z with z | z <;> omega)
    have this : yCt Y b (i + 1) = yCt Y b i + p2i (yLx Y b (i + 1) i) - p2i (yLx Y b i i) := this
    omega
  have ctn : ∀ b i, yRk Y i ≠ b → ∀ j, yLx Y b (i + 1) j ↔ yLx Y b i j := fun b i e j => ⟨fun z => z.elim Or.inl (fun z => Or.inr ⟨z.1, by
    have : j ≠ i := fun e2 => e (by rw [← e2]; exact z.1)
    omega⟩), fun z => z.elim Or.inl (fun z => Or.inr ⟨z.1, by omega⟩)⟩
  have ctx : ∀ b i i2, (∀ j, yWk Y j → (yLx Y b i j ↔ yLx Y (b + 1) i2 j)) → yCt Y b i = yCt Y (b + 1) i2 := fun b i i2 e => ysum_congr (fun j a1 a2 => p2i_congr (e j ⟨a1, a2⟩))
  have key : ∀ b : Int, 0 ≤ b → b ≤ Y 8 0 → ∀ (M1 : zM) (V1 : yS) (r : Int), kPo x wa (Y 8 0) M M1 V1 L → (∀ o, o ≠ 7 → ∀ i, V1 o i = V o i) → rRp V1 Y b 0 r → ZX2_rank E (d + 1) X (fun M' => ∃ V1, kPo x wa (Y 8 0) M M' V1 L ∧ (∀ o, o ≠ 7 → ∀ i, V1 o i = V o i) ∧ rRk V1 Y) 4 [(0, vR (some (x + 5))), (1, vI r), (2, vI b)] [] M1 0 0 := by
    refine zdownI (n := Y 8 0) (fun b hb hb0 hb2 M1 V1 r hp ho hR => ?_) (fun b hb0 hb ih hb2 M1 V1 r hp ho hR => ?_)
    · have hb : b = Y 8 0 := by omega
      subst hb
      refine vX2_rank_4 hr _ _ _ ?_
      simp only [kk0 hp.1, kk1 hp.1, kk2 hp.1, kk3 hp.1, kk4 hp.1, kk5 hp.1, kk6 hp.1, kk7 hp.1, kk8 hp.1, kk9 hp.1, kk10 hp.1, kk11 hp.1, kk12 hp.1, kk13 hp.1, kk14 hp.1, kk15 hp.1, kk16 hp.1, kk17 hp.1, kk18 hp.1, kk19 hp.1, kk20 hp.1, kk21 hp.1, kr0_0 hp.1, kr0_1 hp.1, kr0_2 hp.1, kr0_3 hp.1, kr0_4 hp.1, kr1_0 hp.1, kr1_1 hp.1, kr1_2 hp.1, kr5_0 hp.1, kr5_1 hp.1, kr5_2 hp.1, kr5_3 hp.1, kr10_0 hp.1, kr10_1 hp.1, kr17_0 hp.1, kr17_1 hp.1, kr17_2 hp.1, kr17_3 hp.1, kr17_4 hp.1, kr20_0 hp.1, kr20_1 hp.1, kr20_2 hp.1, kr20_3 hp.1, ki1 hp.2.1, ki2 hp.2.1, ki3 hp.2.1, ki4 hp.2.1, ki5 hp.2.1, ki7 hp.2.1, kl8 hp.2.1, kl9 hp.2.1, ki10 hp.2.1, kl11 hp.2.1, ki13 hp.2.1, ki14 hp.2.1, ki15 hp.2.1, ki16 hp.2.1, ki17 hp.2.1, ki18 hp.2.1, ki19 hp.2.1, ki20 hp.2.1, ki21 hp.2.1, Option.some.injEq, exists_eq_left', true_and, ho 5 (by decide), e54]
      refine ⟨fun _ => ⟨V1, hp, ho, ?_⟩, fun q => by omega⟩
      obtain ⟨r1, r2, r3, r4⟩ := hR
      have all : ∀ j, yWk Y j → yLx Y (Y 8 0) 0 j := fun j hj => Or.inl (rkn j hj).2
      have rn : r = Y 8 0 := by
        rw [r1]
        unfold yCt
        rw [ysum_congr (g := fun _ => 1) (fun j a1 a2 => p2i_t (all j ⟨a1, a2⟩)), ysum_one h8.1]
      rw [rn] at r2 r3 r4
      exact ⟨fun p a1 a2 => (r2 p a1 a2).1, fun j hj => r3 j hj (all j hj), r4⟩
    · have ih := ih (by omega)
      have inner : ∀ i : Int, 0 ≤ i → i ≤ Y 8 0 → ∀ (M2 : zM) (V2 : yS) (r : Int), kPo x wa (Y 8 0) M M2 V2 L → (∀ o, o ≠ 7 → ∀ i, V2 o i = V o i) → rRp V2 Y b i r → ZX2_rank E (d + 1) X (fun M' => ∃ V1, kPo x wa (Y 8 0) M M' V1 L ∧ (∀ o, o ≠ 7 → ∀ i, V1 o i = V o i) ∧ rRk V1 Y) 14 [(0, vR (some (x + 5))), (1, vI r), (2, vI b), (3, vI i)] [] M2 0 0 := by
        refine zdownI (n := Y 8 0) (fun i hi1 hi0 hi2 M2 V2 r hp ho hR => ?_) (fun i hi0 hi1 ih2 hi2 M2 V2 r hp ho hR => ?_)
        · have hi1 : i = Y 8 0 := by omega
          subst hi1
          refine vX2_rank_14 hr _ _ _ _ ?_
          simp only [kk0 hp.1, kk1 hp.1, kk2 hp.1, kk3 hp.1, kk4 hp.1, kk5 hp.1, kk6 hp.1, kk7 hp.1, kk8 hp.1, kk9 hp.1, kk10 hp.1, kk11 hp.1, kk12 hp.1, kk13 hp.1, kk14 hp.1, kk15 hp.1, kk16 hp.1, kk17 hp.1, kk18 hp.1, kk19 hp.1, kk20 hp.1, kk21 hp.1, kr0_0 hp.1, kr0_1 hp.1, kr0_2 hp.1, kr0_3 hp.1, kr0_4 hp.1, kr1_0 hp.1, kr1_1 hp.1, kr1_2 hp.1, kr5_0 hp.1, kr5_1 hp.1, kr5_2 hp.1, kr5_3 hp.1, kr10_0 hp.1, kr10_1 hp.1, kr17_0 hp.1, kr17_1 hp.1, kr17_2 hp.1, kr17_3 hp.1, kr17_4 hp.1, kr20_0 hp.1, kr20_1 hp.1, kr20_2 hp.1, kr20_3 hp.1, ki1 hp.2.1, ki2 hp.2.1, ki3 hp.2.1, ki4 hp.2.1, ki5 hp.2.1, ki7 hp.2.1, kl8 hp.2.1, kl9 hp.2.1, ki10 hp.2.1, kl11 hp.2.1, ki13 hp.2.1, ki14 hp.2.1, ki15 hp.2.1, ki16 hp.2.1, ki17 hp.2.1, ki18 hp.2.1, ki19 hp.2.1, ki20 hp.2.1, ki21 hp.2.1, Option.some.injEq, exists_eq_left', true_and, ho 5 (by decide), e54]
          have eq : ∀ j, yWk Y j → (yLx Y b (Y 8 0) j ↔ yLx Y (b + 1) 0 j) := fun j hj => by
            have := hj.1
            have := hj.2
            unfold yLx
            omega
          obtain ⟨r1, r2, r3, r4⟩ := hR
          exact ⟨fun _ => ⟨by unfold zin; omega, ih M2 V2 r hp ho ⟨by rw [r1]; exact ctx b _ 0 eq, fun p a1 a2 => ⟨(r2 p a1 a2).1, (eq _ (r2 p a1 a2).1).mp (r2 p a1 a2).2⟩, fun j hj z => r3 j hj ((eq j hj).mpr z), r4⟩⟩, fun q => by omega⟩
        · have ih2 := ih2 (by omega)
          have hm : yWk Y i := ⟨hi0, hi1⟩
          obtain ⟨r1, r2, r3, r4⟩ := id hR
          have cb := ctb b i
          refine vX2_rank_14 hr _ _ _ _ ?_
          simp only [kk0 hp.1, kk1 hp.1, kk2 hp.1, kk3 hp.1, kk4 hp.1, kk5 hp.1, kk6 hp.1, kk7 hp.1, kk8 hp.1, kk9 hp.1, kk10 hp.1, kk11 hp.1, kk12 hp.1, kk13 hp.1, kk14 hp.1, kk15 hp.1, kk16 hp.1, kk17 hp.1, kk18 hp.1, kk19 hp.1, kk20 hp.1, kk21 hp.1, kr0_0 hp.1, kr0_1 hp.1, kr0_2 hp.1, kr0_3 hp.1, kr0_4 hp.1, kr1_0 hp.1, kr1_1 hp.1, kr1_2 hp.1, kr5_0 hp.1, kr5_1 hp.1, kr5_2 hp.1, kr5_3 hp.1, kr10_0 hp.1, kr10_1 hp.1, kr17_0 hp.1, kr17_1 hp.1, kr17_2 hp.1, kr17_3 hp.1, kr17_4 hp.1, kr20_0 hp.1, kr20_1 hp.1, kr20_2 hp.1, kr20_3 hp.1, ki1 hp.2.1, ki2 hp.2.1, ki3 hp.2.1, ki4 hp.2.1, ki5 hp.2.1, ki7 hp.2.1, kl8 hp.2.1, kl9 hp.2.1, ki10 hp.2.1, kl11 hp.2.1, ki13 hp.2.1, ki14 hp.2.1, ki15 hp.2.1, ki16 hp.2.1, ki17 hp.2.1, ki18 hp.2.1, ki19 hp.2.1, ki20 hp.2.1, ki21 hp.2.1, Option.some.injEq, exists_eq_left', true_and, kwR hp.1 hi0 hi1, kwK hp.1 hi0 hi1, kwi0 hp.2.1 hi0 hi1, kwl1 hp.2.1 hi0 hi1, kwi2 hp.2.1 hi0 hi1, kwi3 hp.2.1 hi0 hi1, kwi4 hp.2.1 hi0 hi1, kwi5 hp.2.1 hi0 hi1, kwi6 hp.2.1 hi0 hi1, kwi7 hp.2.1 hi0 hi1, kwi8 hp.2.1 hi0 hi1, kwi9 hp.2.1 hi0 hi1, kwi10 hp.2.1 hi0 hi1, kwi11 hp.2.1 hi0 hi1, kwl12 hp.2.1 hi0 hi1, kwl13 hp.2.1 hi0 hi1, kwl14 hp.2.1 hi0 hi1, kwl15 hp.2.1 hi0 hi1, ho 5 (by decide), e54]
          refine ⟨fun q => by omega, fun _ => ⟨by trivial, hi0, by omega, zu (k_bitCount _) ?_⟩⟩
          simp only [kk0 hp.1, kk1 hp.1, kk2 hp.1, kk3 hp.1, kk4 hp.1, kk5 hp.1, kk6 hp.1, kk7 hp.1, kk8 hp.1, kk9 hp.1, kk10 hp.1, kk11 hp.1, kk12 hp.1, kk13 hp.1, kk14 hp.1, kk15 hp.1, kk16 hp.1, kk17 hp.1, kk18 hp.1, kk19 hp.1, kk20 hp.1, kk21 hp.1, kr0_0 hp.1, kr0_1 hp.1, kr0_2 hp.1, kr0_3 hp.1, kr0_4 hp.1, kr1_0 hp.1, kr1_1 hp.1, kr1_2 hp.1, kr5_0 hp.1, kr5_1 hp.1, kr5_2 hp.1, kr5_3 hp.1, kr10_0 hp.1, kr10_1 hp.1, kr17_0 hp.1, kr17_1 hp.1, kr17_2 hp.1, kr17_3 hp.1, kr17_4 hp.1, kr20_0 hp.1, kr20_1 hp.1, kr20_2 hp.1, kr20_3 hp.1, ki1 hp.2.1, ki2 hp.2.1, ki3 hp.2.1, ki4 hp.2.1, ki5 hp.2.1, ki7 hp.2.1, kl8 hp.2.1, kl9 hp.2.1, ki10 hp.2.1, kl11 hp.2.1, ki13 hp.2.1, ki14 hp.2.1, ki15 hp.2.1, ki16 hp.2.1, ki17 hp.2.1, ki18 hp.2.1, ki19 hp.2.1, ki20 hp.2.1, ki21 hp.2.1, Option.some.injEq, exists_eq_left', true_and, pop i hm]
          refine ⟨fun q => ⟨by unfold zin; omega, ih2 M2 V2 r hp ho ⟨by rw [r1]; exact ysum_congr (fun j _ _ => p2i_congr (ctn b i q j).symm), fun p a1 a2 => ⟨(r2 p a1 a2).1, (ctn b i q _).mpr (r2 p a1 a2).2⟩, fun j hj z => r3 j hj ((ctn b i q j).mp z), r4⟩⟩, fun q => ?_⟩
          have cs := cts b i hm q
          have cb2 := ctb b (i + 1)
          refine ⟨by omega, by omega, ?_⟩
          rintro M3 e3
          have hp3 := kPo_I (o := 7) hp e3 rfl (by decide)
          refine ⟨by unfold zin; omega, by unfold zin; omega, ih2 M3 _ (r + 1) hp3 (fun o h7 j => by rw [yup_o h7]; exact ho o h7 j) ⟨by omega, fun p a1 a2 => ?_, fun j hj z => ?_, fun p p2 a1 a2 a3 => ?_⟩⟩
          · by_cases e : p = r
            · rw [e, yup_s]; exact ⟨hm, Or.inr ⟨q, by omega⟩⟩
            · rw [yup_n _ _ _ _ (fun z => e z.2)]
              have := r2 p a1 (by omega)
              exact ⟨this.1, this.2.elim Or.inl (fun z => Or.inr ⟨z.1, by omega⟩)⟩
          · by_cases e : j = i
            · exact ⟨r, by omega, by omega, by rw [yup_s, e]⟩
            · obtain ⟨p, a1, a2, a3⟩ := r3 j hj (z.elim Or.inl (fun z => Or.inr ⟨z.1, by omega⟩))
              exact ⟨p, a1, by omega, by rw [yup_n _ _ _ _ (fun z => by have := z.2; omega)]; exact a3⟩
          · by_cases e : p2 = r
            · rw [e, yup_s]
              by_cases e2 : p = r
              · rw [e2, yup_s]; omega
              · rw [yup_n _ _ _ _ (fun z => e2 z.2)]
                have := (r2 p a1 (by omega)).2
                rcases this with z | z <;> omega
            · rw [yup_n _ _ _ _ (fun z => e z.2), yup_n _ _ _ _ (fun z => by have := z.2; omega)]
              exact r4 p p2 a1 a2 (by omega)
      refine vX2_rank_4 hr _ _ _ ?_
      simp only [kk0 hp.1, kk1 hp.1, kk2 hp.1, kk3 hp.1, kk4 hp.1, kk5 hp.1, kk6 hp.1, kk7 hp.1, kk8 hp.1, kk9 hp.1, kk10 hp.1, kk11 hp.1, kk12 hp.1, kk13 hp.1, kk14 hp.1, kk15 hp.1, kk16 hp.1, kk17 hp.1, kk18 hp.1, kk19 hp.1, kk20 hp.1, kk21 hp.1, kr0_0 hp.1, kr0_1 hp.1, kr0_2 hp.1, kr0_3 hp.1, kr0_4 hp.1, kr1_0 hp.1, kr1_1 hp.1, kr1_2 hp.1, kr5_0 hp.1, kr5_1 hp.1, kr5_2 hp.1, kr5_3 hp.1, kr10_0 hp.1, kr10_1 hp.1, kr17_0 hp.1, kr17_1 hp.1, kr17_2 hp.1, kr17_3 hp.1, kr17_4 hp.1, kr20_0 hp.1, kr20_1 hp.1, kr20_2 hp.1, kr20_3 hp.1, ki1 hp.2.1, ki2 hp.2.1, ki3 hp.2.1, ki4 hp.2.1, ki5 hp.2.1, ki7 hp.2.1, kl8 hp.2.1, kl9 hp.2.1, ki10 hp.2.1, kl11 hp.2.1, ki13 hp.2.1, ki14 hp.2.1, ki15 hp.2.1, ki16 hp.2.1, ki17 hp.2.1, ki18 hp.2.1, ki19 hp.2.1, ki20 hp.2.1, ki21 hp.2.1, Option.some.injEq, exists_eq_left', true_and, ho 5 (by decide), e54]
      exact ⟨fun q => by omega, fun _ => inner 0 (by omega) h8.1 M1 V1 r hp ho hR⟩
  have no : ∀ j, yWk Y j → ¬ yLx Y 0 0 j := fun j hj z => by
    have := (rkn j hj).1
    have := hj.1
    rcases z with z | z <;> omega
  refine key 0 (by omega) h8.1 M V 0 (kPo_rf hs hc) (fun _ _ _ => rfl) ⟨?_, fun p a1 a2 => by omega, fun j hj z => absurd z (no j hj), fun p q a1 a2 a3 => by omega⟩
  have e : yCt Y 0 0 = ysum (fun _ => 0) (Y 8 0) := ysum_congr (fun j a1 a2 => p2i_f (no j ⟨a1, a2⟩))
  have := ysum_b (f := fun _ => (0 : Int)) (b := 0) h8.1 (fun _ _ _ => ⟨Int.le_refl _, Int.le_refl _⟩)
  omega
end C13
