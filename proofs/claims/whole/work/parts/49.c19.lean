/-! ===== Orders: the soonest end ===== -/
theorem endN_le (Y : yS) (s : Int) : ∀ n : Nat, yfoldN (fun v w => pif (yPut Y w ∧ v < yEnd Y w) (yEnd Y w) v) 0 n ≤ s ↔ 0 ≤ s ∧ ∀ k : Int, 0 ≤ k → k < n → yPut Y k → yEnd Y k ≤ s := by
  intro n
  induction n with
  | zero => exact ⟨fun h => ⟨h, fun k a b => by omega⟩, fun h => h.1⟩
  | succ n ih =>
    show pif (yPut Y n ∧ yfoldN (fun v w => pif (yPut Y w ∧ v < yEnd Y w) (yEnd Y w) v) 0 n < yEnd Y n) (yEnd Y n) (yfoldN (fun v w => pif (yPut Y w ∧ v < yEnd Y w) (yEnd Y w) v) 0 n) ≤ s ↔ _
    generalize yfoldN (fun v w => pif (yPut Y w ∧ v < yEnd Y w) (yEnd Y w) v) 0 n = v at ih ⊢
    have split : (∀ k : Int, 0 ≤ k → k < ((n + 1 : Nat) : Int) → yPut Y k → yEnd Y k ≤ s) ↔ ((∀ k : Int, 0 ≤ k → k < n → yPut Y k → yEnd Y k ≤ s) ∧ (yPut Y n → yEnd Y n ≤ s)) := by
      constructor
      · exact fun z => ⟨fun k a b => z k a (by omega), z n (by omega) (by omega)⟩
      · rintro ⟨z1, z2⟩ k a b
        by_cases e : k = n
        · rw [e]; exact z2
        · exact z1 k a (by omega)
    rw [split]
    by_cases q : yPut Y n ∧ v < yEnd Y n
    · rw [pif_t q]
      constructor
      · intro z
        have := ih.mp (by omega)
        exact ⟨this.1, this.2, fun _ => z⟩
      · exact fun z => z.2.2 q.1
    · rw [pif_f q]
      constructor
      · intro z
        have := ih.mp z
        refine ⟨this.1, this.2, fun p => ?_⟩
        have : ¬ v < yEnd Y n := fun z2 => q ⟨p, z2⟩
        omega
      · exact fun z => ih.mpr ⟨z.1, z.2.1⟩
theorem end_le {c : Int} {Y : yS} (hi : yInv c Y) (s : Int) : endR Y ≤ s ↔ 0 ≤ s ∧ ∀ k, yWk Y k → yPut Y k → yEnd Y k ≤ s := by
  have h8 := yI_n hi
  unfold endR yfold
  rw [endN_le]
  exact ⟨fun z => ⟨z.1, fun k hk => z.2 k hk.1 (by have := hk.2; omega)⟩, fun z => ⟨z.1, fun k a b => z.2 k ⟨a, by omega⟩⟩⟩
theorem end_b {c : Int} {Y : yS} (hi : yInv c Y) : 0 ≤ endR Y ∧ endR Y ≤ 400 := by
  refine ⟨((end_le hi _).mp (Int.le_refl _)).1, (end_le hi 400).mpr ⟨by omega, fun k hk hp => ?_⟩⟩
  have := yI_w hi hk.1 hk.2
  unfold yPut at hp
  unfold yEnd
  omega
theorem end_up {c : Int} {Y : yS} (hi : yInv c Y) {w s : Int} (hw : yWk Y w) (ho : Y 15 w = -1) (s0 : 0 ≤ s) (s1 : s + Y 9 w ≤ 400) : endR (yup Y 15 w s) = max (endR Y) (s + Y 9 w) := by
  have hi' : yInv c (yup Y 15 w s) := yInv_15 hi (Or.inr ⟨s0, s1⟩)
  have hl := yI_w hi hw.1 hw.2
  have e : ∀ u, endR (yup Y 15 w s) ≤ u ↔ max (endR Y) (s + Y 9 w) ≤ u := fun u => by
    rw [end_le hi', Int.max_le, end_le hi]
    constructor
    · rintro ⟨z, z2⟩
      refine ⟨⟨z, fun k hk hp => ?_⟩, ?_⟩
      · have kw : k ≠ w := fun e => hp (by rw [e]; exact ho)
        have := z2 k hk (by unfold yPut; rw [yup_n _ _ _ _ (fun z => kw z.2)]; exact hp)
        unfold yEnd at this ⊢
        rw [yup_n _ _ _ _ (fun z => kw z.2), yup_o (by omega)] at this
        exact this
      · have := z2 w hw (by unfold yPut; rw [yup_s]; omega)
        unfold yEnd at this
        rw [yup_s, yup_o (by omega)] at this
        exact this
    · rintro ⟨⟨z, z2⟩, z3⟩
      refine ⟨z, fun k hk hp => ?_⟩
      unfold yPut at hp
      unfold yEnd
      rw [yup_o (g := 9) (by omega)]
      by_cases kw : k = w
      · rw [kw, yup_s]; exact z3
      · rw [yup_n _ _ _ _ (fun z => kw z.2)] at hp ⊢
        exact z2 k hk hp
  have a := (e (max (endR Y) (s + Y 9 w))).mpr (Int.le_refl _)
  have b := (e (endR (yup Y 15 w s))).mp (Int.le_refl _)
  omega
theorem dloop_id {g : bSt → Int → bSt} {B : bSt} (h : ∀ q, 0 ≤ q → g B q = B) : ∀ (m : Nat) (q : Int), 0 ≤ q → dloop g m B q = B := by
  intro m
  induction m with
  | zero => intro q _; rfl
  | succ m ih =>
    intro q q0
    show dloop g m (g B q) (q + 1) = B
    rw [h q q0]
    exact ih (q + 1) (by omega)
theorem dloop_idn {g : bSt → Int → bSt} {B : bSt} {n : Int} (h : ∀ q, 0 ≤ q → q < n → g B q = B) : ∀ (m : Nat) (q : Int), 0 ≤ q → q + m ≤ n → dloop g m B q = B := by
  intro m
  induction m with
  | zero => intro q _ _; rfl
  | succ m ih =>
    intro q q0 q1
    show dloop g m (g B q) (q + 1) = B
    rw [h q q0 (by omega)]
    exact ih (q + 1) (by omega) (by omega)
/-- a branch that is no sooner changes nothing -/
theorem dfs_cut {c : Int} {B : bSt} : ∀ (k : Nat) (Y : yS), yInv c Y → B.1 ≠ -1 → B.1 ≤ endR Y → dfs k Y B = B := by
  intro k
  induction k with
  | zero =>
    intro Y hi h1 h2
    show bStep Y B = B
    unfold bStep
    rw [pif_f (by omega)]
  | succ k ih =>
    intro Y hi h1 h2
    have h8 := yI_n hi
    refine dloop_idn (n := Y 8 0) (fun q q0 q1 => ?_) _ _ (by omega) (by omega)
    show pif (yReady Y q ∧ yFirst Y q 0 ≠ -1) (dfs k (yup Y 15 q (yFirst Y q 0)) B) B = B
    by_cases z : yReady Y q ∧ yFirst Y q 0 ≠ -1
    · rw [pif_t z]
      obtain ⟨my, f0⟩ := first_may hi z.2
      have ho : Y 15 q = -1 := Classical.not_not.mp z.1.1
      have f1 := my.2.2.2.1
      refine ih _ (yInv_pl hi z.2) h1 ?_
      rw [end_up hi ⟨q0, q1⟩ ho f0 (by omega)]
      omega
    · rw [pif_f z]
def bH (Y : yS) (B : bSt) : Prop := B.1 ≠ -1 → ∀ w, yWk Y w → 0 ≤ B.2 w ∧ B.2 w + Y 9 w ≤ 400
noncomputable def yOp (Y : yS) : Int := ysum (fun w => p2i (¬ yPut Y w)) (Y 8 0)
theorem yOp_up {c : Int} {Y : yS} (hi : yInv c Y) {w s : Int} (hw : yWk Y w) (ho : Y 15 w = -1) (s0 : 0 ≤ s) : yOp (yup Y 15 w s) = yOp Y - 1 := by
  have := ysum_upd (f := fun k => p2i (¬ yPut Y k)) (g := fun k => p2i (¬ yPut (yup Y 15 w s) k)) hw.1 hw.2 (fun k hk => by
    refine p2i_congr ?_
    unfold yPut
    rw [yup_n _ _ _ _ (fun z => hk z.2)])
  have e1 : p2i (¬ yPut (yup Y 15 w s) w) = 0 := p2i_f (fun z => z (by unfold yPut; rw [yup_s]; omega))
  have e2 : p2i (¬ yPut Y w) = 1 := p2i_t (fun z => z ho)
  have this : yOp (yup Y 15 w s) = yOp Y + p2i (¬ yPut (yup Y 15 w s) w) - p2i (¬ yPut Y w) := this
  omega
theorem yOp_0 {c : Int} {Y : yS} (hi : yInv c Y) (h : yOp Y = 0) {w : Int} (hw : yWk Y w) : yPut Y w := Classical.byContradiction fun z => by
  have h8 := yI_n hi
  have := (ysum_pos (f := fun k => p2i (¬ yPut Y k)) h8.1 (fun k _ _ => by show 0 ≤ p2i _; rcases p2i_01 (¬ yPut Y k) with e | e <;> omega)).mpr ⟨w, hw.1, hw.2, by show 0 < p2i _; rw [p2i_t z]; omega⟩
  have h : ysum (fun k => p2i (¬ yPut Y k)) (Y 8 0) = 0 := h
  omega
theorem bH_dfs {c : Int} {Y0 : yS} : ∀ (k : Nat) (Y : yS) (B : bSt), yInv c Y → (∀ f i, f ≠ 15 → Y f i = Y0 f i) → yOp Y = k → bH Y0 B → bH Y0 (dfs k Y B) := by
  intro k
  induction k with
  | zero =>
    intro Y B hi ho hk h
    show bH Y0 (bStep Y B)
    unfold bStep
    by_cases q : B.1 = -1 ∨ endR Y < B.1
    · rw [pif_t q]
      intro _ w hw
      have hw' : yWk Y w := ⟨hw.1, by rw [ho 8 0 (by decide)]; exact hw.2⟩
      have := yI_w hi hw'.1 hw'.2
      have hp := yOp_0 hi hk hw'
      unfold yPut at hp
      rw [ho 9 w (by decide)] at this
      show 0 ≤ Y 15 w ∧ Y 15 w + Y0 9 w ≤ 400
      omega
    · rw [pif_f q]; exact h
  | succ k ih =>
    intro Y B hi ho hk h
    have h8 := yI_n hi
    have key : ∀ (m : Nat) (B : bSt) (q : Int), 0 ≤ q → q + m ≤ Y 8 0 → bH Y0 B → bH Y0 (dloop (dfsG k Y) m B q) := by
      intro m
      induction m with
      | zero => intro B q _ _ hB; exact hB
      | succ m ihm =>
        intro B q q0 q1 hB
        refine ihm _ _ (by omega) (by omega) ?_
        unfold dfsG
        by_cases z : yReady Y q ∧ yFirst Y q 0 ≠ -1
        · rw [pif_t z]
          obtain ⟨my, f0⟩ := first_may hi z.2
          have ho2 : Y 15 q = -1 := Classical.not_not.mp z.1.1
          refine ih _ _ (yInv_pl hi z.2) (fun f i hf => by rw [yup_n _ _ _ _ (fun z2 => hf z2.1)]; exact ho f i hf) ?_ hB
          rw [yOp_up hi ⟨q0, by omega⟩ ho2 f0]
          omega
        · rw [pif_f z]; exact hB
    exact key (Y 8 0).toNat B 0 (by omega) (by omega) h
/-- what stands of the search in the cells -/
def bRel (Y V : yS) (B : bSt) : Prop := (B.1 = -1 ∧ V 20 4 = 401) ∨ (B.1 ≠ -1 ∧ V 20 4 = B.1 ∧ (0 ≤ B.1 ∧ B.1 ≤ 400) ∧ ∀ w, yWk Y w → V 21 w = B.2 w)
theorem kRp_20 {V V' Y : yS} {L : yL} (h : kRp V L Y) (v : ∀ o, o ≠ 20 → o ≠ 21 → ∀ i, V' o i = V o i) : kRp V' L Y := by
  have hS := h.1
  have hG := h.2.1
  exact ⟨⟨by rw [v 1 (by omega) (by omega)]; exact hS.1, by rw [v 1 (by omega) (by omega)]; exact hS.2.1, by rw [v 5 (by omega) (by omega)]; exact hS.2.2.1, by rw [v 10 (by omega) (by omega)]; exact hS.2.2.2⟩, ⟨fun i => by rw [v 2 (by omega) (by omega)]; exact hG.1 i, fun i => by rw [v 18 (by omega) (by omega)]; exact hG.2.1 i, fun i => by rw [v 19 (by omega) (by omega)]; exact hG.2.2 i⟩, rNr_c (kRp_nr h) (v 3 (by omega) (by omega)) (fun _ => rfl), rBr_c (kRp_br h) (v 4 (by omega) (by omega)) (fun _ => rfl), rW_c (kRp_w h) (fun f _ _ => v f (by omega) (by omega)) (fun _ => rfl) (fun _ _ _ _ => rfl), kRp_nd h, kRp_un h, kRp_tl h, kRp_fo h, rEt_c (kRp_et h) (v 32 (by omega) (by omega)) (v 33 (by omega) (by omega)) (v 5 (by omega) (by omega) 5) (fun _ => rfl) (fun _ => rfl) (fun _ => rfl), kRp_tk h, rBd_c (kRp_bd h) (fun _ => rfl) (fun t ht => v (13 + t) (by omega) (by omega)) (fun _ => rfl) (fun _ => rfl) (fun _ => rfl) (fun _ => rfl) (fun _ => rfl)⟩
section C19
variable {E : zE} {d x : Nat} {wa : Int → Nat} {M : zM} {V Y : yS} {L : yL} {c : Int}
theorem k_keep (h : kR x wa M V L Y) (hi : yInv c Y) (h6 : Y 8 0 ≤ 6) (u : Int) : zCv E mX3_keep (d + 1) 0 0 [vR (some (x + 20)), vI u] M (fun M' => ∃ V1, kPo x wa (Y 8 0) M M' V1 L ∧ (∀ o, o ≠ 20 → o ≠ 21 → ∀ i, V1 o i = V o i) ∧ V1 20 4 = u ∧ ∀ w, yWk Y w → V1 21 w = Y 15 w) := by
  refine sX3_keep _ _ (fun X hr => vX3_keep_0 hr _ _ ⟨kk20 h.1, ?_⟩)
  rintro M1 e1
  have h8 := yI_n hi
  have hp1 := kPo_I (o := 20) (kPo_rf h.1 h.2.1) e1 rfl (by decide)
  have key : ∀ k : Int, 0 ≤ k → k ≤ Y 8 0 → ∀ (M2 : zM) (V2 : yS), kPo x wa (Y 8 0) M M2 V2 L → (∀ o, o ≠ 20 → o ≠ 21 → ∀ i, V2 o i = V o i) → V2 20 4 = u → (∀ w, 0 ≤ w → w < k → V2 21 w = Y 15 w) → ZX3_keep E d X (fun M' => ∃ V1, kPo x wa (Y 8 0) M M' V1 L ∧ (∀ o, o ≠ 20 → o ≠ 21 → ∀ i, V1 o i = V o i) ∧ V1 20 4 = u ∧ ∀ w, yWk Y w → V1 21 w = Y 15 w) 7 [(0, vR (some (x + 20))), (1, vI u), (2, vI k)] [] M2 0 0 := by
    refine zdownI (n := Y 8 0) (fun k hk hk0 hk2 M2 V2 hp ho h4 hw => ?_) (fun k hk0 hk ih hk2 M2 V2 hp ho h4 hw => ?_)
    · have e54 : V2 5 4 = Y 8 0 := by rw [ho 5 (by omega) (by omega)]; exact rs54 h.2.2
      refine vX3_keep_7 hr _ _ _ ?_
      simp only [kk0 hp.1, kk1 hp.1, kk2 hp.1, kk3 hp.1, kk4 hp.1, kk5 hp.1, kk6 hp.1, kk7 hp.1, kk8 hp.1, kk9 hp.1, kk10 hp.1, kk11 hp.1, kk12 hp.1, kk13 hp.1, kk14 hp.1, kk15 hp.1, kk16 hp.1, kk17 hp.1, kk18 hp.1, kk19 hp.1, kk20 hp.1, kk21 hp.1, kr0_0 hp.1, kr0_1 hp.1, kr0_2 hp.1, kr0_3 hp.1, kr0_4 hp.1, kr1_0 hp.1, kr1_1 hp.1, kr1_2 hp.1, kr5_0 hp.1, kr5_1 hp.1, kr5_2 hp.1, kr5_3 hp.1, kr10_0 hp.1, kr10_1 hp.1, kr17_0 hp.1, kr17_1 hp.1, kr17_2 hp.1, kr17_3 hp.1, kr17_4 hp.1, kr20_0 hp.1, kr20_1 hp.1, kr20_2 hp.1, kr20_3 hp.1, ki1 hp.2.1, ki2 hp.2.1, ki3 hp.2.1, ki4 hp.2.1, ki5 hp.2.1, ki7 hp.2.1, kl8 hp.2.1, kl9 hp.2.1, ki10 hp.2.1, kl11 hp.2.1, ki13 hp.2.1, ki14 hp.2.1, ki15 hp.2.1, ki16 hp.2.1, ki17 hp.2.1, ki18 hp.2.1, ki19 hp.2.1, ki20 hp.2.1, ki21 hp.2.1, Option.some.injEq, exists_eq_left', true_and, e54]
      exact ⟨fun _ => ⟨V2, hp, ho, h4, fun w hw2 => hw w hw2.1 (by have := hw2.2; omega)⟩, fun q => by omega⟩
    · have ih := ih (by omega)
      have hm : yWk Y k := ⟨hk0, hk⟩
      have e54 : V2 5 4 = Y 8 0 := by rw [ho 5 (by omega) (by omega)]; exact rs54 h.2.2
      have e30 : V2 30 k = Y 15 k := by rw [ho 30 (by omega) (by omega)]; exact rw30 h.2.2 hm
      refine vX3_keep_7 hr _ _ _ ?_
      simp only [kk0 hp.1, kk1 hp.1, kk2 hp.1, kk3 hp.1, kk4 hp.1, kk5 hp.1, kk6 hp.1, kk7 hp.1, kk8 hp.1, kk9 hp.1, kk10 hp.1, kk11 hp.1, kk12 hp.1, kk13 hp.1, kk14 hp.1, kk15 hp.1, kk16 hp.1, kk17 hp.1, kk18 hp.1, kk19 hp.1, kk20 hp.1, kk21 hp.1, kr0_0 hp.1, kr0_1 hp.1, kr0_2 hp.1, kr0_3 hp.1, kr0_4 hp.1, kr1_0 hp.1, kr1_1 hp.1, kr1_2 hp.1, kr5_0 hp.1, kr5_1 hp.1, kr5_2 hp.1, kr5_3 hp.1, kr10_0 hp.1, kr10_1 hp.1, kr17_0 hp.1, kr17_1 hp.1, kr17_2 hp.1, kr17_3 hp.1, kr17_4 hp.1, kr20_0 hp.1, kr20_1 hp.1, kr20_2 hp.1, kr20_3 hp.1, ki1 hp.2.1, ki2 hp.2.1, ki3 hp.2.1, ki4 hp.2.1, ki5 hp.2.1, ki7 hp.2.1, kl8 hp.2.1, kl9 hp.2.1, ki10 hp.2.1, kl11 hp.2.1, ki13 hp.2.1, ki14 hp.2.1, ki15 hp.2.1, ki16 hp.2.1, ki17 hp.2.1, ki18 hp.2.1, ki19 hp.2.1, ki20 hp.2.1, ki21 hp.2.1, Option.some.injEq, exists_eq_left', true_and, kwR hp.1 hk0 hk, kwK hp.1 hk0 hk, kwi0 hp.2.1 hk0 hk, kwl1 hp.2.1 hk0 hk, kwi2 hp.2.1 hk0 hk, kwi3 hp.2.1 hk0 hk, kwi4 hp.2.1 hk0 hk, kwi5 hp.2.1 hk0 hk, kwi6 hp.2.1 hk0 hk, kwi7 hp.2.1 hk0 hk, kwi8 hp.2.1 hk0 hk, kwi9 hp.2.1 hk0 hk, kwi10 hp.2.1 hk0 hk, kwi11 hp.2.1 hk0 hk, kwl12 hp.2.1 hk0 hk, kwl13 hp.2.1 hk0 hk, kwl14 hp.2.1 hk0 hk, kwl15 hp.2.1 hk0 hk, e54, e30]
      refine ⟨fun q => by omega, fun _ => ⟨fun q => by omega, fun _ => ⟨by trivial, hk0, by omega, hk0, by omega, ?_⟩⟩⟩
      rintro M3 e3
      have hp3 := kPo_I (o := 21) hp e3 rfl (by decide)
      refine ⟨by unfold zin; omega, ih M3 _ hp3 (fun o a b i => by rw [yup_o b]; exact ho o a b i) (by rw [yup_o (by omega)]; exact h4) (fun w w0 w1 => ?_)⟩
      by_cases e : w = k
      · rw [e, yup_s]
      · rw [yup_n _ _ _ _ (fun z => e z.2)]; exact hw w w0 (by omega)
  exact key 0 (by omega) h8.1 M1 _ hp1 (fun o a _ i => yup_o a i) (yup_s _ _ _ _) (fun w w0 w1 => by omega)
theorem k_layNext (h6 : 0 ≤ Y 8 0) : ∀ (k : Nat) (e : Nat) (M : zM) (V Y : yS) (L : yL) (B : bSt) (j : Int), kR x wa M V L Y → yJ c Y → Y 8 0 ≤ 6 → 0 ≤ j → j + k = Y 8 0 → bRel Y V B → endR Y < V 20 4 → zCv E mX3_layNext (e + (2 * k + 5)) 0 0 [vR (some (x + 20)), vI j, vI (endR Y)] M (fun M' => ∃ V1 L1, kPo x wa (Y 8 0) M M' V1 L1 ∧ kRp V1 L1 Y ∧ bRel Y V1 (dfs k Y B)) := by
  intro k
  induction k with
  | zero =>
    intro e M V Y L B j h hj h6 j0 jk hb hlt
    have hi := hj.1
    refine sX3_layNext (d := e + 4) _ _ _ (fun X hr => vX3_layNext_0 hr _ _ _ ?_)
    simp only [kk0 h.1, kk1 h.1, kk2 h.1, kk3 h.1, kk4 h.1, kk5 h.1, kk6 h.1, kk7 h.1, kk8 h.1, kk9 h.1, kk10 h.1, kk11 h.1, kk12 h.1, kk13 h.1, kk14 h.1, kk15 h.1, kk16 h.1, kk17 h.1, kk18 h.1, kk19 h.1, kk20 h.1, kk21 h.1, kr0_0 h.1, kr0_1 h.1, kr0_2 h.1, kr0_3 h.1, kr0_4 h.1, kr1_0 h.1, kr1_1 h.1, kr1_2 h.1, kr5_0 h.1, kr5_1 h.1, kr5_2 h.1, kr5_3 h.1, kr10_0 h.1, kr10_1 h.1, kr17_0 h.1, kr17_1 h.1, kr17_2 h.1, kr17_3 h.1, kr17_4 h.1, kr20_0 h.1, kr20_1 h.1, kr20_2 h.1, kr20_3 h.1, ki1 h.2.1, ki2 h.2.1, ki3 h.2.1, ki4 h.2.1, ki5 h.2.1, ki7 h.2.1, kl8 h.2.1, kl9 h.2.1, ki10 h.2.1, kl11 h.2.1, ki13 h.2.1, ki14 h.2.1, ki15 h.2.1, ki16 h.2.1, ki17 h.2.1, ki18 h.2.1, ki19 h.2.1, ki20 h.2.1, ki21 h.2.1, Option.some.injEq, exists_eq_left', true_and, rs13 h.2.2, rs14 h.2.2, rs54 h.2.2, rs102 h.2.2, rg2 h.2.2, rg18 h.2.2, rg19 h.2.2]
    refine ⟨fun _ => ⟨_, k_keep (d := e + 3) h hi h6 (endR Y), ?_⟩, fun q => by omega⟩
    rintro M1 ⟨V1, hp1, ho, h4, hw⟩
    refine ⟨V1, L, hp1, kRp_20 h.2.2 ho, ?_⟩
    show bRel Y V1 (bStep Y B)
    have eb := end_b hi
    unfold bStep
    have cond : B.1 = -1 ∨ endR Y < B.1 := by
      rcases hb with z | z
      · exact Or.inl z.1
      · exact Or.inr (by have := z.2.1; omega)
    rw [pif_t cond]
    exact Or.inr ⟨by show endR Y ≠ -1; omega, h4, eb, hw⟩
  | succ k ihk =>
    intro e M V Y L B j h hj h6 j0 jk hb hlt
    have hi := hj.1
    have h8 := yI_n hi
    rw [show e + (2 * (k + 1) + 5) = (e + (2 * k + 5)) + 1 + 1 by omega]
    refine sX3_layNext _ _ _ (fun X hr => vX3_layNext_0 hr _ _ _ ?_)
    simp only [kk0 h.1, kk1 h.1, kk2 h.1, kk3 h.1, kk4 h.1, kk5 h.1, kk6 h.1, kk7 h.1, kk8 h.1, kk9 h.1, kk10 h.1, kk11 h.1, kk12 h.1, kk13 h.1, kk14 h.1, kk15 h.1, kk16 h.1, kk17 h.1, kk18 h.1, kk19 h.1, kk20 h.1, kk21 h.1, kr0_0 h.1, kr0_1 h.1, kr0_2 h.1, kr0_3 h.1, kr0_4 h.1, kr1_0 h.1, kr1_1 h.1, kr1_2 h.1, kr5_0 h.1, kr5_1 h.1, kr5_2 h.1, kr5_3 h.1, kr10_0 h.1, kr10_1 h.1, kr17_0 h.1, kr17_1 h.1, kr17_2 h.1, kr17_3 h.1, kr17_4 h.1, kr20_0 h.1, kr20_1 h.1, kr20_2 h.1, kr20_3 h.1, ki1 h.2.1, ki2 h.2.1, ki3 h.2.1, ki4 h.2.1, ki5 h.2.1, ki7 h.2.1, kl8 h.2.1, kl9 h.2.1, ki10 h.2.1, kl11 h.2.1, ki13 h.2.1, ki14 h.2.1, ki15 h.2.1, ki16 h.2.1, ki17 h.2.1, ki18 h.2.1, ki19 h.2.1, ki20 h.2.1, ki21 h.2.1, Option.some.injEq, exists_eq_left', true_and, rs13 h.2.2, rs14 h.2.2, rs54 h.2.2, rs102 h.2.2, rg2 h.2.2, rg18 h.2.2, rg19 h.2.2]
    refine ⟨fun q => by omega, fun _ => ⟨fun _ => ⟨_, k_allPut (d := e + (2 * k + 4)) h hi, ?_⟩, fun q => by omega⟩⟩
    rintro lp M0 ⟨hlp, rfl⟩
    -- one work of the row
    have one : ∀ (M1 : zM) (V1 : yS) (L1 : yL) (B1 : bSt) (w : Int), kR x wa M1 V1 L1 Y → yWk Y w → yReady Y w → bRel Y V1 B1 → endR Y < 401 → zCv E mX3_layAndGoOn ((e + (2 * k + 5)) + 1) 0 0 [vR (some (x + 20)), vR (some (wa w)), vI j, vI (endR Y)] M1 (fun M' => ∃ V2 L2, kPo x wa (Y 8 0) M1 M' V2 L2 ∧ kRp V2 L2 Y ∧ bRel Y V2 (dfsG k Y B1 w)) := by
      intro M1 V1 L1 B1 w h1 hw hrd hb1 hlt1
      have ho : Y 15 w = -1 := Classical.not_not.mp hrd.1
      have hl := yI_w hi hw.1 hw.2
      have eb := end_b hi
      refine sX3_layAndGoOn _ _ _ _ (fun X2 hr2 => vX3_layAndGoOn_0 hr2 _ _ _ _ ?_)
      simp only [kk0 h1.1, kk1 h1.1, kk2 h1.1, kk3 h1.1, kk4 h1.1, kk5 h1.1, kk6 h1.1, kk7 h1.1, kk8 h1.1, kk9 h1.1, kk10 h1.1, kk11 h1.1, kk12 h1.1, kk13 h1.1, kk14 h1.1, kk15 h1.1, kk16 h1.1, kk17 h1.1, kk18 h1.1, kk19 h1.1, kk20 h1.1, kk21 h1.1, kr0_0 h1.1, kr0_1 h1.1, kr0_2 h1.1, kr0_3 h1.1, kr0_4 h1.1, kr1_0 h1.1, kr1_1 h1.1, kr1_2 h1.1, kr5_0 h1.1, kr5_1 h1.1, kr5_2 h1.1, kr5_3 h1.1, kr10_0 h1.1, kr10_1 h1.1, kr17_0 h1.1, kr17_1 h1.1, kr17_2 h1.1, kr17_3 h1.1, kr17_4 h1.1, kr20_0 h1.1, kr20_1 h1.1, kr20_2 h1.1, kr20_3 h1.1, ki1 h1.2.1, ki2 h1.2.1, ki3 h1.2.1, ki4 h1.2.1, ki5 h1.2.1, ki7 h1.2.1, kl8 h1.2.1, kl9 h1.2.1, ki10 h1.2.1, kl11 h1.2.1, ki13 h1.2.1, ki14 h1.2.1, ki15 h1.2.1, ki16 h1.2.1, ki17 h1.2.1, ki18 h1.2.1, ki19 h1.2.1, ki20 h1.2.1, ki21 h1.2.1, Option.some.injEq, exists_eq_left', true_and, rs13 h1.2.2, rs14 h1.2.2, rs54 h1.2.2, rs102 h1.2.2, rg2 h1.2.2, rg18 h1.2.2, rg19 h1.2.2]
      have fp := k_firstPlace (E := E) (d := e + (2 * k + 1)) h1 hi hw (fun z => z.1 ho) (acy_nn hj.2.1 hw) 0
      rw [show e + (2 * k + 1) + 4 = e + (2 * k + 5) by omega] at fp
      refine zu fp ⟨fun q => ?_, fun q => ?_⟩
      · refine ⟨V1, L1, kPo_rf h1.1 h1.2.1, h1.2.2, ?_⟩
        unfold dfsG
        rw [pif_f (fun z => z.2 q)]
        exact hb1
      · obtain ⟨my, f0⟩ := first_may hi q
        have f1 := my.2.2.2.1
        have eu := end_up hi hw ho f0 (by omega)
        simp only [kk0 h1.1, kk1 h1.1, kk2 h1.1, kk3 h1.1, kk4 h1.1, kk5 h1.1, kk6 h1.1, kk7 h1.1, kk8 h1.1, kk9 h1.1, kk10 h1.1, kk11 h1.1, kk12 h1.1, kk13 h1.1, kk14 h1.1, kk15 h1.1, kk16 h1.1, kk17 h1.1, kk18 h1.1, kk19 h1.1, kk20 h1.1, kk21 h1.1, kr0_0 h1.1, kr0_1 h1.1, kr0_2 h1.1, kr0_3 h1.1, kr0_4 h1.1, kr1_0 h1.1, kr1_1 h1.1, kr1_2 h1.1, kr5_0 h1.1, kr5_1 h1.1, kr5_2 h1.1, kr5_3 h1.1, kr10_0 h1.1, kr10_1 h1.1, kr17_0 h1.1, kr17_1 h1.1, kr17_2 h1.1, kr17_3 h1.1, kr17_4 h1.1, kr20_0 h1.1, kr20_1 h1.1, kr20_2 h1.1, kr20_3 h1.1, ki1 h1.2.1, ki2 h1.2.1, ki3 h1.2.1, ki4 h1.2.1, ki5 h1.2.1, ki7 h1.2.1, kl8 h1.2.1, kl9 h1.2.1, ki10 h1.2.1, kl11 h1.2.1, ki13 h1.2.1, ki14 h1.2.1, ki15 h1.2.1, ki16 h1.2.1, ki17 h1.2.1, ki18 h1.2.1, ki19 h1.2.1, ki20 h1.2.1, ki21 h1.2.1, Option.some.injEq, exists_eq_left', true_and, rs13 h1.2.2, rs14 h1.2.2, rs54 h1.2.2, rs102 h1.2.2, rg2 h1.2.2, rg18 h1.2.2, rg19 h1.2.2, kwR h1.1 hw.1 hw.2, kwK h1.1 hw.1 hw.2, kwi0 h1.2.1 hw.1 hw.2, kwl1 h1.2.1 hw.1 hw.2, kwi2 h1.2.1 hw.1 hw.2, kwi3 h1.2.1 hw.1 hw.2, kwi4 h1.2.1 hw.1 hw.2, kwi5 h1.2.1 hw.1 hw.2, kwi6 h1.2.1 hw.1 hw.2, kwi7 h1.2.1 hw.1 hw.2, kwi8 h1.2.1 hw.1 hw.2, kwi9 h1.2.1 hw.1 hw.2, kwi10 h1.2.1 hw.1 hw.2, kwi11 h1.2.1 hw.1 hw.2, kwl12 h1.2.1 hw.1 hw.2, kwl13 h1.2.1 hw.1 hw.2, kwl14 h1.2.1 hw.1 hw.2, kwl15 h1.2.1 hw.1 hw.2, rw22 h1.2.2 hw, rw23 h1.2.2 hw, rw24 h1.2.2 hw, rw25 h1.2.2 hw, rw26 h1.2.2 hw, rw27 h1.2.2 hw, rw28 h1.2.2 hw, rw29 h1.2.2 hw, rw30 h1.2.2 hw, rw31 h1.2.2 hw, rw32 h1.2.2 hw, rw33 h1.2.2 hw]
        refine ⟨by unfold zin; omega, fun q2 => ?_, fun q2 => ?_⟩
        · have ly := k_lay0 (E := E) (d := e + (2 * k + 3)) h1.1 h1.2.1 (kRp_w h1.2.2) (kRp_bd h1.2.2) hi hw ho f0 (by omega)
          rw [show e + (2 * k + 3) + 2 = e + (2 * k + 5) by omega] at ly
          refine ⟨_, ly, ?_⟩
          rintro M2 hB
          obtain ⟨V2, L2, hp2, hv2, hr2'⟩ := kB_T h1.2.2 hB
          have hj2 : yJ c (yup Y 15 w (yFirst Y w 0)) := yJ_15 hj (Or.inr ⟨f0, by omega⟩)
          have hR2 : kR x wa M2 V2 L2 (yup Y 15 w (yFirst Y w 0)) := ⟨hp2.1, hp2.2.1, hr2'⟩
          have bh := k_behind (E := E) (d := e + (2 * k + 4)) (M := M2) (v := yFirst Y w 0 + Y 9 w) (kwK hp2.1 hw.1 hw.2) (by unfold zin; omega) (by
            rw [kwi8 hp2.2.1 hw.1 hw.2, kwi7 hp2.2.1 hw.1 hw.2, rw30 hr2' (k := w) hw, rw29 hr2' (k := w) hw, yup_s, yup_o (by omega)])
          rw [show e + (2 * k + 4) + 1 = e + (2 * k + 5) by omega] at bh
          refine ⟨by unfold zin; omega, kwK hp2.1 hw.1 hw.2, zu bh ⟨kk20 hp2.1, ?_⟩⟩
          rw [← eu]
          have v20 : ∀ i, V2 20 i = V1 20 i := hv2 20 (by omega) (by omega)
          have v21 : ∀ i, V2 21 i = V1 21 i := hv2 21 (by omega) (by omega)
          have hb2 : bRel (yup Y 15 w (yFirst Y w 0)) V2 B1 := by
            unfold bRel
            simp only [v20, v21]
            exact hb1
          refine ⟨_, ihk e M2 V2 _ L2 B1 (j + 1) hR2 hj2 h6 (by omega) (by show j + 1 + (k : Int) = Y 8 0; omega) hb2 (by rw [eu, v20]; exact q2), ?_⟩
          rintro M3 ⟨V3, L3, hp3, hr3, hb3⟩
          have lf := k_lift0 (E := E) (d := e + (2 * k + 3)) (Y := yup Y 15 w (yFirst Y w 0)) hp3.1 hp3.2.1 (kRp_w hr3) (kRp_bd hr3) hj2.1 (w := w) hw
          rw [show e + (2 * k + 3) + 2 = e + (2 * k + 5) by omega] at lf
          refine ⟨kk20 hp3.1, x + 10, kr20_2 hp3.1, kk10 hp3.1, _, lf, ?_⟩
          rintro M4 hB4
          obtain ⟨V4, L4, hp4, hv4, hr4⟩ := kB_T (Y := yup Y 15 w (yFirst Y w 0)) hr3 hB4
          rw [yup2, yup_id Y ho] at hr4
          refine ⟨V4, L4, kPo_tr hp2 (kPo_tr hp3 hp4), hr4, ?_⟩
          have w20 : ∀ i, V4 20 i = V3 20 i := hv4 20 (by omega) (by omega)
          have w21 : ∀ i, V4 21 i = V3 21 i := hv4 21 (by omega) (by omega)
          unfold dfsG
          rw [pif_t ⟨hrd, q⟩]
          unfold bRel
          simp only [w20, w21]
          exact hb3
        · refine ⟨V1, L1, kPo_rf h1.1 h1.2.1, h1.2.2, ?_⟩
          unfold dfsG
          rw [pif_t ⟨hrd, q⟩]
          rcases id hb1 with z | z
          · have := z.2
            omega
          · have z2 := z.2.1
            rw [dfs_cut k _ (yInv_pl hi q) z.1 (by rw [eu]; omega)]
            exact hb1
    have eb := end_b hi
    have key : ∀ (m : Nat) (i : Int), 0 ≤ i → i + m = Y 8 0 → ∀ (M1 : zM) (V1 : yS) (L1 : yL) (B1 : bSt), kPo x wa (Y 8 0) M0 M1 V1 L1 → kRp V1 L1 Y → bRel Y V1 B1 → dloop (dfsG k Y) m B1 i = dfs (k + 1) Y B → ZX3_layNext E ((e + (2 * k + 5)) + 1) X (fun M' => ∃ V1 L1, kPo x wa (Y 8 0) M0 M' V1 L1 ∧ kRp V1 L1 Y ∧ bRel Y V1 (dfs (k + 1) Y B)) 34 [(0, vR (some (x + 20))), (1, vI j), (2, vI (endR Y)), (3, vL lp), (5, vI i)] [] M1 0 0 := by
      intro m
      induction m with
      | zero =>
        intro i i0 im M1 V1 L1 B1 hp hr1 hb1 hd
        have h1 : kR x wa M1 V1 L1 Y := ⟨hp.1, hp.2.1, hr1⟩
        refine vX3_layNext_34 hr _ _ _ _ _ ?_
        simp only [kk0 h1.1, kk1 h1.1, kk2 h1.1, kk3 h1.1, kk4 h1.1, kk5 h1.1, kk6 h1.1, kk7 h1.1, kk8 h1.1, kk9 h1.1, kk10 h1.1, kk11 h1.1, kk12 h1.1, kk13 h1.1, kk14 h1.1, kk15 h1.1, kk16 h1.1, kk17 h1.1, kk18 h1.1, kk19 h1.1, kk20 h1.1, kk21 h1.1, kr0_0 h1.1, kr0_1 h1.1, kr0_2 h1.1, kr0_3 h1.1, kr0_4 h1.1, kr1_0 h1.1, kr1_1 h1.1, kr1_2 h1.1, kr5_0 h1.1, kr5_1 h1.1, kr5_2 h1.1, kr5_3 h1.1, kr10_0 h1.1, kr10_1 h1.1, kr17_0 h1.1, kr17_1 h1.1, kr17_2 h1.1, kr17_3 h1.1, kr17_4 h1.1, kr20_0 h1.1, kr20_1 h1.1, kr20_2 h1.1, kr20_3 h1.1, ki1 h1.2.1, ki2 h1.2.1, ki3 h1.2.1, ki4 h1.2.1, ki5 h1.2.1, ki7 h1.2.1, kl8 h1.2.1, kl9 h1.2.1, ki10 h1.2.1, kl11 h1.2.1, ki13 h1.2.1, ki14 h1.2.1, ki15 h1.2.1, ki16 h1.2.1, ki17 h1.2.1, ki18 h1.2.1, ki19 h1.2.1, ki20 h1.2.1, ki21 h1.2.1, Option.some.injEq, exists_eq_left', true_and, rs13 h1.2.2, rs14 h1.2.2, rs54 h1.2.2, rs102 h1.2.2, rg2 h1.2.2, rg18 h1.2.2, rg19 h1.2.2]
        refine ⟨fun _ => ⟨V1, L1, hp, hr1, ?_⟩, fun q => by omega⟩
        rw [← hd]
        exact hb1
      | succ m ihm =>
        intro i i0 im M1 V1 L1 B1 hp hr1 hb1 hd
        have h1 : kR x wa M1 V1 L1 Y := ⟨hp.1, hp.2.1, hr1⟩
        have hm : yWk Y i := ⟨i0, by omega⟩
        refine vX3_layNext_34 hr _ _ _ _ _ ?_
        simp only [kk0 h1.1, kk1 h1.1, kk2 h1.1, kk3 h1.1, kk4 h1.1, kk5 h1.1, kk6 h1.1, kk7 h1.1, kk8 h1.1, kk9 h1.1, kk10 h1.1, kk11 h1.1, kk12 h1.1, kk13 h1.1, kk14 h1.1, kk15 h1.1, kk16 h1.1, kk17 h1.1, kk18 h1.1, kk19 h1.1, kk20 h1.1, kk21 h1.1, kr0_0 h1.1, kr0_1 h1.1, kr0_2 h1.1, kr0_3 h1.1, kr0_4 h1.1, kr1_0 h1.1, kr1_1 h1.1, kr1_2 h1.1, kr5_0 h1.1, kr5_1 h1.1, kr5_2 h1.1, kr5_3 h1.1, kr10_0 h1.1, kr10_1 h1.1, kr17_0 h1.1, kr17_1 h1.1, kr17_2 h1.1, kr17_3 h1.1, kr17_4 h1.1, kr20_0 h1.1, kr20_1 h1.1, kr20_2 h1.1, kr20_3 h1.1, ki1 h1.2.1, ki2 h1.2.1, ki3 h1.2.1, ki4 h1.2.1, ki5 h1.2.1, ki7 h1.2.1, kl8 h1.2.1, kl9 h1.2.1, ki10 h1.2.1, kl11 h1.2.1, ki13 h1.2.1, ki14 h1.2.1, ki15 h1.2.1, ki16 h1.2.1, ki17 h1.2.1, ki18 h1.2.1, ki19 h1.2.1, ki20 h1.2.1, ki21 h1.2.1, Option.some.injEq, exists_eq_left', true_and, rs13 h1.2.2, rs14 h1.2.2, rs54 h1.2.2, rs102 h1.2.2, rg2 h1.2.2, rg18 h1.2.2, rg19 h1.2.2, kwR h1.1 hm.1 hm.2, kwK h1.1 hm.1 hm.2, kwi0 h1.2.1 hm.1 hm.2, kwl1 h1.2.1 hm.1 hm.2, kwi2 h1.2.1 hm.1 hm.2, kwi3 h1.2.1 hm.1 hm.2, kwi4 h1.2.1 hm.1 hm.2, kwi5 h1.2.1 hm.1 hm.2, kwi6 h1.2.1 hm.1 hm.2, kwi7 h1.2.1 hm.1 hm.2, kwi8 h1.2.1 hm.1 hm.2, kwi9 h1.2.1 hm.1 hm.2, kwi10 h1.2.1 hm.1 hm.2, kwi11 h1.2.1 hm.1 hm.2, kwl12 h1.2.1 hm.1 hm.2, kwl13 h1.2.1 hm.1 hm.2, kwl14 h1.2.1 hm.1 hm.2, kwl15 h1.2.1 hm.1 hm.2, rw22 h1.2.2 hm, rw23 h1.2.2 hm, rw24 h1.2.2 hm, rw25 h1.2.2 hm, rw26 h1.2.2 hm, rw27 h1.2.2 hm, rw28 h1.2.2 hm, rw29 h1.2.2 hm, rw30 h1.2.2 hm, rw31 h1.2.2 hm, rw32 h1.2.2 hm, rw33 h1.2.2 hm]
        have rd := k_isReady (E := E) (d := e + (2 * k + 4)) (kwK h1.1 hm.1 hm.2) lp
        rw [show e + (2 * k + 4) + 2 = e + (2 * k + 5) + 1 by omega] at rd
        refine ⟨fun q => by omega, fun _ => ⟨by trivial, i0, by omega, zu rd ?_⟩⟩
        simp only [kk0 h1.1, kk1 h1.1, kk2 h1.1, kk3 h1.1, kk4 h1.1, kk5 h1.1, kk6 h1.1, kk7 h1.1, kk8 h1.1, kk9 h1.1, kk10 h1.1, kk11 h1.1, kk12 h1.1, kk13 h1.1, kk14 h1.1, kk15 h1.1, kk16 h1.1, kk17 h1.1, kk18 h1.1, kk19 h1.1, kk20 h1.1, kk21 h1.1, kr0_0 h1.1, kr0_1 h1.1, kr0_2 h1.1, kr0_3 h1.1, kr0_4 h1.1, kr1_0 h1.1, kr1_1 h1.1, kr1_2 h1.1, kr5_0 h1.1, kr5_1 h1.1, kr5_2 h1.1, kr5_3 h1.1, kr10_0 h1.1, kr10_1 h1.1, kr17_0 h1.1, kr17_1 h1.1, kr17_2 h1.1, kr17_3 h1.1, kr17_4 h1.1, kr20_0 h1.1, kr20_1 h1.1, kr20_2 h1.1, kr20_3 h1.1, ki1 h1.2.1, ki2 h1.2.1, ki3 h1.2.1, ki4 h1.2.1, ki5 h1.2.1, ki7 h1.2.1, kl8 h1.2.1, kl9 h1.2.1, ki10 h1.2.1, kl11 h1.2.1, ki13 h1.2.1, ki14 h1.2.1, ki15 h1.2.1, ki16 h1.2.1, ki17 h1.2.1, ki18 h1.2.1, ki19 h1.2.1, ki20 h1.2.1, ki21 h1.2.1, Option.some.injEq, exists_eq_left', true_and, rs13 h1.2.2, rs14 h1.2.2, rs54 h1.2.2, rs102 h1.2.2, rg2 h1.2.2, rg18 h1.2.2, rg19 h1.2.2, kwR h1.1 hm.1 hm.2, kwK h1.1 hm.1 hm.2, kwi0 h1.2.1 hm.1 hm.2, kwl1 h1.2.1 hm.1 hm.2, kwi2 h1.2.1 hm.1 hm.2, kwi3 h1.2.1 hm.1 hm.2, kwi4 h1.2.1 hm.1 hm.2, kwi5 h1.2.1 hm.1 hm.2, kwi6 h1.2.1 hm.1 hm.2, kwi7 h1.2.1 hm.1 hm.2, kwi8 h1.2.1 hm.1 hm.2, kwi9 h1.2.1 hm.1 hm.2, kwi10 h1.2.1 hm.1 hm.2, kwi11 h1.2.1 hm.1 hm.2, kwl12 h1.2.1 hm.1 hm.2, kwl13 h1.2.1 hm.1 hm.2, kwl14 h1.2.1 hm.1 hm.2, kwl15 h1.2.1 hm.1 hm.2, rw22 h1.2.2 hm, rw23 h1.2.2 hm, rw24 h1.2.2 hm, rw25 h1.2.2 hm, rw26 h1.2.2 hm, rw27 h1.2.2 hm, rw28 h1.2.2 hm, rw29 h1.2.2 hm, rw30 h1.2.2 hm, rw31 h1.2.2 hm, rw32 h1.2.2 hm, rw33 h1.2.2 hm, kReady hr1 hi hm hlp]
        refine ⟨fun q => ⟨by unfold zin; omega, ihm (i + 1) (by omega) (by omega) M1 V1 L1 B1 hp hr1 hb1 ?_⟩, fun q => ⟨by trivial, i0, by omega, _, one M1 V1 L1 B1 i h1 hm (p2i_n0.mp q) hb1 (by omega), ?_⟩⟩
        · rw [← hd]
          show dloop (dfsG k Y) m B1 (i + 1) = dloop (dfsG k Y) m (dfsG k Y B1 i) (i + 1)
          unfold dfsG
          rw [pif_f (fun z => p2i_0.mp q z.1)]
        · rintro M2 ⟨V2, L2, hp2, hr2, hb2⟩
          exact ⟨by unfold zin; omega, ihm (i + 1) (by omega) (by omega) M2 V2 L2 _ (kPo_tr hp hp2) hr2 hb2 hd⟩
    exact key (Y 8 0).toNat 0 (by omega) (by omega) M0 V L B (kPo_rf h.1 h.2.1) h.2.2 hb rfl
theorem k_layBest (h : kR x wa M V L Y) (hj : yJ c Y) (ok : bestOk Y) (e : Nat) : zCi E mX3_layBest (e + (2 * (Y 8 0).toNat + 5) + 1) 0 0 [vR (some (x + 20))] M (fun r M' => r = bestR Y ∧ kT x wa M M' (bestY Y)) := by
  refine sX3_layBest _ (fun X hr => vX3_layBest_0 hr _ ⟨kk20 h.1, ?_⟩)
  have hi := hj.1
  have h8 := yI_n hi
  obtain ⟨n1, n6, -, hop⟩ := id ok
  rintro M1 e1
  have hp1 := kPo_I (o := 20) (kPo_rf h.1 h.2.1) e1 rfl (by decide)
  have hr1 : kRp (yup V 20 4 401) L Y := kRp_20 h.2.2 (fun o a _ i => yup_o a i)
  have h1 : kR x wa M1 (yup V 20 4 401) L Y := ⟨hp1.1, hp1.2.1, hr1⟩
  have end0 : endR Y = 0 := by
    have a := (end_le hi 0).mpr ⟨by omega, fun k hk hp => absurd hp (hop k hk)⟩
    have := end_b hi
    omega
  have ln := k_layNext (E := E) (c := c) h8.1 (Y 8 0).toNat e M1 _ Y L (-1, fun _ => 0) 0 h1 hj n6 (by omega) (by omega) (Or.inl ⟨rfl, yup_s _ _ _ _⟩) (by rw [end0, yup_s]; omega)
  rw [end0] at ln
  refine ⟨kk20 hp1.1, _, ln, ?_⟩
  have opn : yOp Y = (Y 8 0).toNat := by
    unfold yOp
    rw [ysum_congr (g := fun _ => 1) (fun k a b => p2i_t (hop k ⟨a, b⟩)), ysum_one h8.1]
    omega
  have hH : bH Y (bestB Y) := bH_dfs _ _ _ hi (fun _ _ _ => rfl) opn (fun z => absurd rfl z)
  rintro M2 ⟨V2, L2, hp2, hr2, hb2⟩
  have hb2 : bRel Y V2 (bestB Y) := hb2
  have hp12 := kPo_tr hp1 hp2
  refine ⟨kk20 hp2.1, ?_⟩
  rw [ki20 hp2.2.1]
  refine ⟨fun q => ?_, fun q => ?_⟩
  · obtain ⟨b1, b2, b3, b4⟩ := hb2.resolve_left (fun z => by have := z.2; omega)
    have key : ∀ k : Int, 0 ≤ k → k ≤ Y 8 0 → ∀ (M3 : zM) (V3 : yS) (L3 : yL), kPo x wa (Y 8 0) M M3 V3 L3 → kRp V3 L3 (bestK Y (bestB Y).2 k) → (∀ i, V3 20 i = V2 20 i) → (∀ i, V3 21 i = V2 21 i) → ZX3_layBest E (e + (2 * (Y 8 0).toNat + 5)) X (fun r M' => r = bestR Y ∧ kT x wa M M' (bestY Y)) 27 [(0, vR (some (x + 20))), (1, vI k)] [] M3 0 0 := by
      refine zdownI (n := Y 8 0) (fun k hk hk0 hk2 M3 V3 L3 hp hr3 h20 h21 => ?_) (fun k hk0 hk ih hk2 M3 V3 L3 hp hr3 h20 h21 => ?_)
      · have hk : k = Y 8 0 := by omega
        subst hk
        have e8 : bestK Y (bestB Y).2 (Y 8 0) 8 0 = Y 8 0 := bestK_ot (by omega) 0
        have fin : V2 20 4 = bestR Y ∧ kT x wa M M3 (bestY Y) := by
          refine ⟨?_, ?_⟩
          · rw [b2]
            unfold bestR
            rw [pif_t ok]
          · unfold bestY
            rw [pif_t ⟨ok, b1⟩]
            exact ⟨V3, L3, by rw [e8]; exact hp, hr3⟩
        refine vX3_layBest_27 hr _ _ ?_
        simp only [kk0 hp.1, kk1 hp.1, kk2 hp.1, kk3 hp.1, kk4 hp.1, kk5 hp.1, kk6 hp.1, kk7 hp.1, kk8 hp.1, kk9 hp.1, kk10 hp.1, kk11 hp.1, kk12 hp.1, kk13 hp.1, kk14 hp.1, kk15 hp.1, kk16 hp.1, kk17 hp.1, kk18 hp.1, kk19 hp.1, kk20 hp.1, kk21 hp.1, kr0_0 hp.1, kr0_1 hp.1, kr0_2 hp.1, kr0_3 hp.1, kr0_4 hp.1, kr1_0 hp.1, kr1_1 hp.1, kr1_2 hp.1, kr5_0 hp.1, kr5_1 hp.1, kr5_2 hp.1, kr5_3 hp.1, kr10_0 hp.1, kr10_1 hp.1, kr17_0 hp.1, kr17_1 hp.1, kr17_2 hp.1, kr17_3 hp.1, kr17_4 hp.1, kr20_0 hp.1, kr20_1 hp.1, kr20_2 hp.1, kr20_3 hp.1, ki1 hp.2.1, ki2 hp.2.1, ki3 hp.2.1, ki4 hp.2.1, ki5 hp.2.1, ki7 hp.2.1, kl8 hp.2.1, kl9 hp.2.1, ki10 hp.2.1, kl11 hp.2.1, ki13 hp.2.1, ki14 hp.2.1, ki15 hp.2.1, ki16 hp.2.1, ki17 hp.2.1, ki18 hp.2.1, ki19 hp.2.1, ki20 hp.2.1, ki21 hp.2.1, Option.some.injEq, exists_eq_left', true_and, rs54 hr3, e8, h20]
        exact ⟨fun _ => fin, fun z => by omega⟩
      · have ih := ih (by omega)
        have hm : yWk Y k := ⟨hk0, hk⟩
        have e8 : bestK Y (bestB Y).2 k 8 0 = Y 8 0 := bestK_ot (by omega) 0
        have hmk : yWk (bestK Y (bestB Y).2 k) k := ⟨hk0, by rw [e8]; exact hk⟩
        have eo : bestK Y (bestB Y).2 k 15 k = -1 := by
          unfold bestK
          rw [pif_f (fun z => by have := z.2.2; omega)]
          exact Classical.not_not.mp (hop k hm)
        have hik : yInv c (bestK Y (bestB Y).2 k) := by
          have o : ∀ f, f ≠ 15 → ∀ i, bestK Y (bestB Y).2 k f i = Y f i := fun f hf i => bestK_ot hf i
          have o15 : ∀ w, yWk Y w → bestK Y (bestB Y).2 k 15 w = (bestB Y).2 w ∨ bestK Y (bestB Y).2 k 15 w = Y 15 w := fun w hw => by
            unfold bestK
            by_cases z : (15 : Nat) = 15 ∧ 0 ≤ w ∧ w < k
            · rw [pif_t z]; exact Or.inl rfl
            · rw [pif_f z]; exact Or.inr rfl
          generalize bestK Y (bestB Y).2 k = Y' at o o15
          unfold yInv at hi ⊢
          simp only [o 0 (by decide), o 1 (by decide), o 2 (by decide), o 3 (by decide), o 4 (by decide), o 5 (by decide), o 6 (by decide), o 7 (by decide), o 8 (by decide), o 9 (by decide), o 10 (by decide), o 11 (by decide), o 12 (by decide), o 13 (by decide), o 14 (by decide), o 16 (by decide), o 17 (by decide), o 18 (by decide)]
          refine ⟨hi.1, hi.2.1, hi.2.2.1, hi.2.2.2.1, hi.2.2.2.2.1, hi.2.2.2.2.2.1, hi.2.2.2.2.2.2.1, hi.2.2.2.2.2.2.2.1, hi.2.2.2.2.2.2.2.2.1, hi.2.2.2.2.2.2.2.2.2.1, fun w a b => ?_, hi.2.2.2.2.2.2.2.2.2.2.2⟩
          have hv := hi.2.2.2.2.2.2.2.2.2.2.1 w a b
          refine ⟨hv.1, hv.2.1, hv.2.2.1, hv.2.2.2.1, hv.2.2.2.2.1, hv.2.2.2.2.2.1, ?_, hv.2.2.2.2.2.2.2⟩
          rcases o15 w ⟨a, b⟩ with z | z
          · rw [z]; exact Or.inr (hH b1 w ⟨a, b⟩)
          · rw [z]; exact hv.2.2.2.2.2.2.1
        have hbk := hH b1 k hm
        have e21 : V2 21 k = (bestB Y).2 k := b4 k hm
        have hp' := hp
        rw [← e8] at hp'
        refine vX3_layBest_27 hr _ _ ?_
        simp only [kk0 hp.1, kk1 hp.1, kk2 hp.1, kk3 hp.1, kk4 hp.1, kk5 hp.1, kk6 hp.1, kk7 hp.1, kk8 hp.1, kk9 hp.1, kk10 hp.1, kk11 hp.1, kk12 hp.1, kk13 hp.1, kk14 hp.1, kk15 hp.1, kk16 hp.1, kk17 hp.1, kk18 hp.1, kk19 hp.1, kk20 hp.1, kk21 hp.1, kr0_0 hp.1, kr0_1 hp.1, kr0_2 hp.1, kr0_3 hp.1, kr0_4 hp.1, kr1_0 hp.1, kr1_1 hp.1, kr1_2 hp.1, kr5_0 hp.1, kr5_1 hp.1, kr5_2 hp.1, kr5_3 hp.1, kr10_0 hp.1, kr10_1 hp.1, kr17_0 hp.1, kr17_1 hp.1, kr17_2 hp.1, kr17_3 hp.1, kr17_4 hp.1, kr20_0 hp.1, kr20_1 hp.1, kr20_2 hp.1, kr20_3 hp.1, ki1 hp.2.1, ki2 hp.2.1, ki3 hp.2.1, ki4 hp.2.1, ki5 hp.2.1, ki7 hp.2.1, kl8 hp.2.1, kl9 hp.2.1, ki10 hp.2.1, kl11 hp.2.1, ki13 hp.2.1, ki14 hp.2.1, ki15 hp.2.1, ki16 hp.2.1, ki17 hp.2.1, ki18 hp.2.1, ki19 hp.2.1, ki20 hp.2.1, ki21 hp.2.1, Option.some.injEq, exists_eq_left', true_and, kwR hp.1 hk0 hk, kwK hp.1 hk0 hk, kwi0 hp.2.1 hk0 hk, kwl1 hp.2.1 hk0 hk, kwi2 hp.2.1 hk0 hk, kwi3 hp.2.1 hk0 hk, kwi4 hp.2.1 hk0 hk, kwi5 hp.2.1 hk0 hk, kwi6 hp.2.1 hk0 hk, kwi7 hp.2.1 hk0 hk, kwi8 hp.2.1 hk0 hk, kwi9 hp.2.1 hk0 hk, kwi10 hp.2.1 hk0 hk, kwi11 hp.2.1 hk0 hk, kwl12 hp.2.1 hk0 hk, kwl13 hp.2.1 hk0 hk, kwl14 hp.2.1 hk0 hk, kwl15 hp.2.1 hk0 hk, rs54 hr3, e8, h21, e21]
        have ly := k_lay0 (E := E) (d := e + (2 * (Y 8 0).toNat + 3)) (Y := bestK Y (bestB Y).2 k) (s := (bestB Y).2 k) hp'.1 hp'.2.1 (kRp_w hr3) (kRp_bd hr3) hik hmk eo hbk.1 (by rw [bestK_ot (by omega)]; exact hbk.2)
        rw [show e + (2 * (Y 8 0).toNat + 3) + 2 = e + (2 * (Y 8 0).toNat + 5) by omega] at ly
        refine ⟨fun z => by omega, fun _ => ⟨fun z => by omega, fun _ => ⟨by trivial, hk0, by omega, hk0, by omega, _, ly, ?_⟩⟩⟩
        rintro M4 hB
        obtain ⟨V4, L4, hp4, hv4, hr4⟩ := kB_T (Y := bestK Y (bestB Y).2 k) hr3 hB
        have ek : yup (bestK Y (bestB Y).2 k) 15 k ((bestB Y).2 k) = bestK Y (bestB Y).2 (k + 1) := by
          funext f i
          exact bestK_s hk0 f i
        rw [ek] at hr4
        rw [e8] at hp4
        exact ⟨by unfold zin; omega, ih M4 V4 L4 (kPo_tr hp hp4) hr4 (fun i => by rw [hv4 20 (by omega) (by omega)]; exact h20 i) (fun i => by rw [hv4 21 (by omega) (by omega)]; exact h21 i)⟩
    have e0 : bestK Y (bestB Y).2 0 = Y := by
      funext f i
      exact bestK_0 Y _ f i
    exact key 0 (by omega) h8.1 M2 V2 L2 hp12 (by rw [e0]; exact hr2) (fun _ => rfl) (fun _ => rfl)
  · have z : (bestB Y).1 = -1 := by
      rcases hb2 with z | z
      · exact z.1
      · have := z.2.1
        have := z.2.2.1
        omega
    refine ⟨?_, ?_⟩
    · unfold bestR
      rw [pif_t ok, z]
    · unfold bestY
      rw [pif_f (fun z2 => z2.2 z)]
      exact ⟨V2, L2, hp12, hr2⟩
theorem k_best (h : kR x wa M V L Y) (hj : yJ c Y) : zCi E mX6_best (d + 20) 0 0 [vR (some x)] M (fun r M' => r = bestR Y ∧ kT x wa M M' (bestY Y)) := by
  refine sX6_best _ (fun X hr => vX6_best_0 hr _ ?_)
  have hi := hj.1
  have hn := yI_now hi
  have no : ¬ bestOk Y → (-1 : Int) = bestR Y ∧ kT x wa M M (bestY Y) := fun q => ⟨by unfold bestR; rw [pif_f q], by unfold bestY; rw [pif_f (fun z => q z.1)]; exact kT_rf h⟩
  simp only [kk0 h.1, kk1 h.1, kk2 h.1, kk3 h.1, kk4 h.1, kk5 h.1, kk6 h.1, kk7 h.1, kk8 h.1, kk9 h.1, kk10 h.1, kk11 h.1, kk12 h.1, kk13 h.1, kk14 h.1, kk15 h.1, kk16 h.1, kk17 h.1, kk18 h.1, kk19 h.1, kk20 h.1, kk21 h.1, kr0_0 h.1, kr0_1 h.1, kr0_2 h.1, kr0_3 h.1, kr0_4 h.1, kr1_0 h.1, kr1_1 h.1, kr1_2 h.1, kr5_0 h.1, kr5_1 h.1, kr5_2 h.1, kr5_3 h.1, kr10_0 h.1, kr10_1 h.1, kr17_0 h.1, kr17_1 h.1, kr17_2 h.1, kr17_3 h.1, kr17_4 h.1, kr20_0 h.1, kr20_1 h.1, kr20_2 h.1, kr20_3 h.1, ki1 h.2.1, ki2 h.2.1, ki3 h.2.1, ki4 h.2.1, ki5 h.2.1, ki7 h.2.1, kl8 h.2.1, kl9 h.2.1, ki10 h.2.1, kl11 h.2.1, ki13 h.2.1, ki14 h.2.1, ki15 h.2.1, ki16 h.2.1, ki17 h.2.1, ki18 h.2.1, ki19 h.2.1, ki20 h.2.1, ki21 h.2.1, Option.some.injEq, exists_eq_left', true_and, rs13 h.2.2, rs14 h.2.2, rs54 h.2.2, rs102 h.2.2, rg2 h.2.2, rg18 h.2.2, rg19 h.2.2]
  refine ⟨fun q => no (fun z => by have := z.1; omega), fun q1 => ⟨fun q => no (fun z => by have := z.2.1; omega), fun q2 => ⟨fun q => no (fun z => by have := z.2.2.1; omega), fun q3 => ⟨_, k_allPut (d := d + 17) h hi, ?_⟩⟩⟩⟩
  rintro l M1 ⟨hl, rfl⟩
  have hz := zBs_z hl
  simp only [kk0 h.1, kk1 h.1, kk2 h.1, kk3 h.1, kk4 h.1, kk5 h.1, kk6 h.1, kk7 h.1, kk8 h.1, kk9 h.1, kk10 h.1, kk11 h.1, kk12 h.1, kk13 h.1, kk14 h.1, kk15 h.1, kk16 h.1, kk17 h.1, kk18 h.1, kk19 h.1, kk20 h.1, kk21 h.1, kr0_0 h.1, kr0_1 h.1, kr0_2 h.1, kr0_3 h.1, kr0_4 h.1, kr1_0 h.1, kr1_1 h.1, kr1_2 h.1, kr5_0 h.1, kr5_1 h.1, kr5_2 h.1, kr5_3 h.1, kr10_0 h.1, kr10_1 h.1, kr17_0 h.1, kr17_1 h.1, kr17_2 h.1, kr17_3 h.1, kr17_4 h.1, kr20_0 h.1, kr20_1 h.1, kr20_2 h.1, kr20_3 h.1, ki1 h.2.1, ki2 h.2.1, ki3 h.2.1, ki4 h.2.1, ki5 h.2.1, ki7 h.2.1, kl8 h.2.1, kl9 h.2.1, ki10 h.2.1, kl11 h.2.1, ki13 h.2.1, ki14 h.2.1, ki15 h.2.1, ki16 h.2.1, ki17 h.2.1, ki18 h.2.1, ki19 h.2.1, ki20 h.2.1, ki21 h.2.1, Option.some.injEq, exists_eq_left', true_and, rs13 h.2.2, rs14 h.2.2, rs54 h.2.2, rs102 h.2.2, rg2 h.2.2, rg18 h.2.2, rg19 h.2.2, cmp0, ne_eq]
  refine ⟨fun q => ?_, fun q => no (fun z => q (hz.mpr (fun i _ _ z2 => z.2.2.2 i z2.1 z2.2)))⟩
  have ok : bestOk Y := ⟨q1, q2, by omega, fun w hw hp => hz.mp q w hw.1 (by have := yW_lt hi hw; omega) ⟨hw, hp⟩⟩
  obtain ⟨e, he⟩ : ∃ e, d + 19 = e + (2 * (Y 8 0).toNat + 5) + 1 := ⟨d + 19 - (2 * (Y 8 0).toNat + 5) - 1, by omega⟩
  have lb := k_layBest (E := E) h hj ok e
  rw [← he] at lb
  exact ⟨_, lb, fun r M' z => z⟩
end C19
