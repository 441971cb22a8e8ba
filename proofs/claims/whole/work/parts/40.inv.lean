/-! ===== the invariant is kept by every call ===== -/
theorem yI_c {c : Int} {Y : yS} (h : yInv c Y) (hc : c < 600) : yInv (c + 1) Y := by
  have h1 := h.1
  have h4 := h.2.2.2.1
  refine ⟨by omega, h.2.1, h.2.2.1, by omega, h.2.2.2.2.1, h.2.2.2.2.2.1, h.2.2.2.2.2.2.1, h.2.2.2.2.2.2.2.1, h.2.2.2.2.2.2.2.2.1, h.2.2.2.2.2.2.2.2.2.1, fun w a b => ?_, h.2.2.2.2.2.2.2.2.2.2.2⟩
  have := yI_w h a b
  refine ⟨this.1, this.2.1, this.2.2.1, this.2.2.2.1, this.2.2.2.2.1, this.2.2.2.2.2.1, this.2.2.2.2.2.2.1, by omega⟩
theorem yJ_c {c : Int} {Y : yS} (h : yJ c Y) (hc : c < 600) : yJ (c + 1) Y := ⟨yI_c h.1 hc, h.2⟩
section YI
variable {c : Int} {Y Y' : yS}
theorem acy_c (h : yAcy Y) (y8 : ∀ i, Y' 8 i = Y 8 i) (y17 : ∀ i, Y' 17 i = Y 17 i) : yAcy Y' := fun w hw z => h w ⟨hw.1, by rw [← y8]; exact hw.2⟩ ((hang_c y8 y17 w w).mp z)
theorem sym_c (h : ySym Y) (y3 : ∀ i, Y' 3 i = Y 3 i) (y7 : ∀ i, Y' 7 i = Y 7 i) : ySym Y' := by
  unfold ySym at *
  simp only [y3, y7]
  exact h
theorem far_c (h : yFar Y) (y8 : ∀ i, Y' 8 i = Y 8 i) (y16 : ∀ i, Y' 16 i = Y 16 i) (y17 : ∀ i, Y' 17 i = Y 17 i) (y18 : ∀ i, Y' 18 i = Y 18 i) : yFar Y' := by
  unfold yFar yWk at *
  simp only [y8, y16, y17, y18]
  exact h
theorem yJ_gang (h : yJ c Y) (t v : Int) : yJ c (gangY Y t v) := by
  unfold gangY
  by_cases q : gangOk t v
  · rw [pif_t q]
    have hi := h.1
    refine ⟨⟨hi.1, hi.2.1, hi.2.2.1, hi.2.2.2.1, hi.2.2.2.2.1, hi.2.2.2.2.2.1, hi.2.2.2.2.2.2.1, fun s => ?_, hi.2.2.2.2.2.2.2.2⟩, acy_c h.2.1 (fun _ => rfl) (fun _ => rfl), sym_c h.2.2.1 (fun _ => rfl) (fun _ => rfl), far_c h.2.2.2 (fun _ => rfl) (fun _ => rfl) (fun _ => rfl) (fun _ => rfl)⟩
    unfold yup
    split
    · exact q.2
    · exact hi.2.2.2.2.2.2.2.1 s
  · rw [pif_f q]; exact h
theorem yJ_good (h : yJ c Y) (t v : Int) : yJ c (goodY Y t v) := by
  unfold goodY
  by_cases q : goodOk t v
  · rw [pif_t q]
    have hi := h.1
    refine ⟨⟨hi.1, hi.2.1, hi.2.2.1, hi.2.2.2.1, hi.2.2.2.2.1, hi.2.2.2.2.2.1, hi.2.2.2.2.2.2.1, hi.2.2.2.2.2.2.2.1, fun s => ?_, hi.2.2.2.2.2.2.2.2.2⟩, acy_c h.2.1 (fun _ => rfl) (fun _ => rfl), sym_c h.2.2.1 (fun _ => rfl) (fun _ => rfl), far_c h.2.2.2 (fun _ => rfl) (fun _ => rfl) (fun _ => rfl) (fun _ => rfl)⟩
    unfold yup
    split
    · exact q.2
    · exact hi.2.2.2.2.2.2.2.2.1 s
  · rw [pif_f q]; exact h
theorem goN_b (hi : yInv c Y) {n : Int} (q : goOk n) : 0 ≤ goN Y n ∧ goN Y n ≤ 400 := by
  have h0 := yI_now hi
  have q1 := q.1
  unfold goN
  by_cases z : 400 < Y 0 0 + n
  · rw [pif_t z]; omega
  · rw [pif_f z]; omega
theorem yJ_go (h : yJ c Y) (n : Int) : yJ c (goY Y n) := by
  unfold goY
  by_cases q : goOk n
  · rw [pif_t q]
    have hi := h.1
    exact ⟨⟨hi.1, goN_b hi q, hi.2.2⟩, acy_c h.2.1 (fun _ => rfl) (fun _ => rfl), sym_c h.2.2.1 (fun _ => rfl) (fun _ => rfl), far_c h.2.2.2 (fun _ => rfl) (fun _ => rfl) (fun _ => rfl) (fun _ => rfl)⟩
  · rw [pif_f q]; exact h
theorem yJ_space (h : yJ c Y) (b : Int) : yJ c (spaceY Y b) := by
  unfold spaceY
  by_cases q : spaceOk Y b
  · rw [pif_t q]
    have hi := h.1
    have hsp := yI_sp hi
    have q2 := q.2
    have e1 : ysc (yup Y 2 (Y 1 0) b) 1 (Y 1 0 + 1) 1 0 = Y 1 0 + 1 := rfl
    refine ⟨⟨hi.1, hi.2.1, by rw [e1]; omega, hi.2.2.2.1, hi.2.2.2.2.1, fun s s0 s1 => ?_, hi.2.2.2.2.2.2.1, hi.2.2.2.2.2.2.2.1, hi.2.2.2.2.2.2.2.2.1, hi.2.2.2.2.2.2.2.2.2.1, fun w a b => ?_, hi.2.2.2.2.2.2.2.2.2.2.2⟩, acy_c h.2.1 (fun _ => rfl) (fun _ => rfl), sym_c h.2.2.1 (fun _ => rfl) (fun _ => rfl), far_c h.2.2.2 (fun _ => rfl) (fun _ => rfl) (fun _ => rfl) (fun _ => rfl)⟩
    · rw [e1] at s1
      show 1 ≤ yup Y 2 (Y 1 0) b 2 s ∧ yup Y 2 (Y 1 0) b 2 s ≤ 9
      by_cases e : s = Y 1 0
      · rw [e, yup_s]; exact q.1
      · rw [yup_n _ _ _ _ (fun z => e z.2)]
        exact hi.2.2.2.2.2.1 s s0 (by omega)
    · have := yI_w hi a b
      refine ⟨this.1, this.2.1, this.2.2.1, ⟨this.2.2.2.1.1, ?_⟩, this.2.2.2.2⟩
      rw [e1]
      show Y 12 w < Y 1 0 + 1
      omega
  · rw [pif_f q]; exact h
theorem yJ_near1 (h : yJ c Y) {a b : Int} (q : nearOk Y a b) : yJ c (yup (yup Y 3 (20 * a + b) 1) 3 (20 * b + a) 1) := by
  have hi := h.1
  have hsp := yI_sp hi
  obtain ⟨qa, qb, qab, q0⟩ := q
  refine ⟨⟨hi.1, hi.2.1, hi.2.2.1, hi.2.2.2.1, hi.2.2.2.2.1, hi.2.2.2.2.2.1, fun i => ?_, hi.2.2.2.2.2.2.2⟩, acy_c h.2.1 (fun _ => rfl) (fun _ => rfl), ⟨fun i j i0 i1 j0 j1 => ?_, h.2.2.1.2⟩, far_c h.2.2.2 (fun _ => rfl) (fun _ => rfl) (fun _ => rfl) (fun _ => rfl)⟩
  · unfold yup
    split
    · exact Or.inr rfl
    · split
      · exact Or.inr rfl
      · exact hi.2.2.2.2.2.2.1 i
  · have e : ∀ i j, 0 ≤ i → i < 20 → 0 ≤ j → j < 20 → yup (yup Y 3 (20 * a + b) 1) 3 (20 * b + a) 1 3 (20 * i + j) = if (i = b ∧ j = a) ∨ (i = a ∧ j = b) then 1 else Y 3 (20 * i + j) := by
      intro i j i0 i1 j0 j1
      unfold yup
      by_cases z1 : 20 * i + j = 20 * b + a
      · rw [if_pos ⟨rfl, z1⟩, if_pos (Or.inl (by omega))]
      · rw [if_neg (fun z => z1 z.2)]
        by_cases z2 : 20 * i + j = 20 * a + b
        · rw [if_pos ⟨rfl, z2⟩, if_pos (Or.inr (by omega))]
        · rw [if_neg (fun z => z2 z.2), if_neg (by omega)]
    rw [e i j i0 i1 j0 j1, e j i j0 j1 i0 i1, h.2.2.1.1 i j i0 i1 j0 j1]
    by_cases z : (i = b ∧ j = a) ∨ (i = a ∧ j = b)
    · rw [if_pos z, if_pos (by omega)]
    · rw [if_neg z, if_neg (by omega)]
theorem yJ_near (h : yJ c Y) (a b : Int) : yJ c (nearY Y a b) := by
  unfold nearY
  by_cases q : nearOk Y a b
  · rw [pif_t q]; exact yJ_near1 h q
  · rw [pif_f q]; exact h
theorem zor7 {y k : Int} (h0 : 0 ≤ y) (h1 : y ≤ 7) (k0 : 0 ≤ k) (k1 : k ≤ 2) : 0 ≤ zor y (zpw k) ∧ zor y (zpw k) ≤ 7 := by
  have := zor_lt (x := y) (y := k) (n := 3) (by show y < 8; omega) (by omega) h0
  have e : ((2 ^ 3 : Nat) : Int) = 8 := rfl
  omega
theorem bar_at {a b k : Int} (q : barOk Y a b k) : ∀ i j, 0 ≤ i → i < 5 → 0 ≤ j → j < 5 → barY2 Y a b k 7 (5 * i + j) = if (i = a ∧ j = b) ∨ (i = b ∧ j = a) then zor (Y 7 (5 * i + j)) (zpw k) else Y 7 (5 * i + j) := by
  obtain ⟨qa, qb, qk, q0⟩ := q
  intro i j i0 i1 j0 j1
  unfold barY2
  by_cases e : a = b
  · rw [pif_t e]
    unfold barY1 yup
    by_cases z : 5 * i + j = 5 * a + b
    · rw [if_pos ⟨rfl, z⟩, if_pos (by omega), z]
    · rw [if_neg (fun z2 => z z2.2), if_neg (by omega)]
  · rw [pif_f e]
    by_cases z : 5 * i + j = 5 * b + a
    · rw [z, yup_s, if_pos (by omega)]
      unfold barY1
      rw [yup_n _ _ _ _ (fun z2 => by have := z2.2; omega)]
    · rw [yup_n _ _ _ _ (fun z2 => z z2.2)]
      unfold barY1
      by_cases z2 : 5 * i + j = 5 * a + b
      · rw [z2, yup_s, if_pos (by omega)]
      · rw [yup_n _ _ _ _ (fun z3 => z2 z3.2), if_neg (by omega)]
theorem barY2_ot {a b k : Int} {f : Nat} (hf : f ≠ 7) (i : Int) : barY2 Y a b k f i = Y f i := by
  unfold barY2
  by_cases e : a = b
  · rw [pif_t e]
    exact yup_n _ _ _ _ (fun z => hf z.1)
  · rw [pif_f e, yup_n _ _ _ _ (fun z => hf z.1)]
    exact yup_n _ _ _ _ (fun z => hf z.1)
theorem yJ_bar1 (h : yJ c Y) (hc : c < 600) {a b k : Int} (q : barOk Y a b k) : yJ (c + 1) (ysc (barY2 Y a b k) 6 (Y 6 0 + 1)) := by
  have hi := yI_c h.1 hc
  have h6 := h.1.2.2.2.1
  have h7 := h.1.2.2.2.2.2.2.2.2.2.1
  have hb := bar_at q
  obtain ⟨qa, qb, qk, q0⟩ := q
  have o : ∀ f, f ≠ 7 → f ≠ 6 → ∀ i, ysc (barY2 Y a b k) 6 (Y 6 0 + 1) f i = Y f i := fun f f7 f6 i => by
    show (if f = 6 then _ else _) = _
    rw [if_neg f6]
    exact barY2_ot f7 i
  have o6 : ∀ i, ysc (barY2 Y a b k) 6 (Y 6 0 + 1) 6 i = Y 6 0 + 1 := fun _ => rfl
  have o7 : ∀ i, ysc (barY2 Y a b k) 6 (Y 6 0 + 1) 7 i = barY2 Y a b k 7 i := fun _ => rfl
  have b7 : ∀ i, 0 ≤ barY2 Y a b k 7 i ∧ barY2 Y a b k 7 i ≤ 7 := by
    have b1 : ∀ i, 0 ≤ barY1 Y a b k 7 i ∧ barY1 Y a b k 7 i ≤ 7 := fun i => by
      unfold barY1
      by_cases z : i = 5 * a + b
      · rw [z, yup_s]; exact zor7 (h7 _).1 (h7 _).2 qk.1 qk.2
      · rw [yup_n _ _ _ _ (fun z2 => z z2.2)]; exact h7 i
    intro i
    unfold barY2
    by_cases e : a = b
    · rw [pif_t e]; exact b1 i
    · rw [pif_f e]
      by_cases z : i = 5 * b + a
      · rw [z, yup_s]; exact zor7 (b1 _).1 (b1 _).2 qk.1 qk.2
      · rw [yup_n _ _ _ _ (fun z2 => z z2.2)]; exact b1 i
  generalize ysc (barY2 Y a b k) 6 (Y 6 0 + 1) = Y' at o o6 o7
  refine ⟨?_, acy_c h.2.1 (o 8 (by decide) (by decide)) (o 17 (by decide) (by decide)), ⟨fun i j i0 i1 j0 j1 => by rw [o 3 (by decide) (by decide), o 3 (by decide) (by decide)]; exact h.2.2.1.1 i j i0 i1 j0 j1, fun i j i0 i1 j0 j1 => ?_⟩, far_c h.2.2.2 (o 8 (by decide) (by decide)) (o 16 (by decide) (by decide)) (o 17 (by decide) (by decide)) (o 18 (by decide) (by decide))⟩
  · unfold yInv at hi ⊢
    simp only [o 0 (by decide) (by decide), o 1 (by decide) (by decide), o 2 (by decide) (by decide), o 3 (by decide) (by decide), o 4 (by decide) (by decide), o 5 (by decide) (by decide), o 8 (by decide) (by decide), o 9 (by decide) (by decide), o 10 (by decide) (by decide), o 11 (by decide) (by decide), o 12 (by decide) (by decide), o 13 (by decide) (by decide), o 14 (by decide) (by decide), o 15 (by decide) (by decide), o 16 (by decide) (by decide), o 17 (by decide) (by decide), o 18 (by decide) (by decide), o6, o7]
    exact ⟨hi.1, hi.2.1, hi.2.2.1, by omega, hi.2.2.2.2.1, hi.2.2.2.2.2.1, hi.2.2.2.2.2.2.1, hi.2.2.2.2.2.2.2.1, hi.2.2.2.2.2.2.2.2.1, b7, hi.2.2.2.2.2.2.2.2.2.2⟩
  · rw [o7, o7, hb i j i0 i1 j0 j1, hb j i j0 j1 i0 i1, h.2.2.1.2 i j i0 i1 j0 j1]
    by_cases z : (i = a ∧ j = b) ∨ (i = b ∧ j = a)
    · rw [if_pos z, if_pos (by omega)]
    · rw [if_neg z, if_neg (by omega)]
theorem yJ_bar (h : yJ c Y) (hc : c < 600) (a b k : Int) : yJ (c + 1) (barY Y a b k) := by
  unfold barY
  by_cases q : barOk Y a b k
  · rw [pif_t q]; exact yJ_bar1 h hc q
  · rw [pif_f q]; exact yJ_c h hc
theorem yJ_15 (h : yJ c Y) {w v : Int} (b : v = -1 ∨ (0 ≤ v ∧ v + Y 9 w ≤ 400)) : yJ c (yup Y 15 w v) := ⟨yInv_15 h.1 b, acy_c h.2.1 (fun _ => rfl) (fun _ => rfl), sym_c h.2.2.1 (fun _ => rfl) (fun _ => rfl), far_c h.2.2.2 (fun _ => rfl) (fun _ => rfl) (fun _ => rfl) (fun _ => rfl)⟩
theorem yJ_put (h : yJ c Y) (w s : Int) : yJ c (putY Y w s) := by
  unfold putY
  by_cases q : putOk Y w s
  · rw [pif_t q]
    have hn := yI_now h.1
    exact yJ_15 h (Or.inr ⟨by have := q.2.2.1; omega, by have := q.2.2.2; omega⟩)
  · rw [pif_f q]; exact h
theorem yJ_take (h : yJ c Y) (w : Int) : yJ c (takeY Y w) := by
  unfold takeY
  by_cases q : takeOk Y w
  · rw [pif_t q]; exact yJ_15 h (Or.inl rfl)
  · rw [pif_f q]; exact h
theorem yJ_more1 (h : yJ c Y) {w n : Int} (q : moreOk Y w n) : yJ c (yup Y 9 w (Y 9 w + n)) := by
  have hi := h.1
  obtain ⟨q1, q2, q3, q4, q5⟩ := q
  refine ⟨⟨hi.1, hi.2.1, hi.2.2.1, hi.2.2.2.1, hi.2.2.2.2.1, hi.2.2.2.2.2.1, hi.2.2.2.2.2.2.1, hi.2.2.2.2.2.2.2.1, hi.2.2.2.2.2.2.2.2.1, hi.2.2.2.2.2.2.2.2.2.1, fun v a b => ?_, hi.2.2.2.2.2.2.2.2.2.2.2⟩, acy_c h.2.1 (fun _ => rfl) (fun _ => rfl), sym_c h.2.2.1 (fun _ => rfl) (fun _ => rfl), far_c h.2.2.2 (fun _ => rfl) (fun _ => rfl) (fun _ => rfl) (fun _ => rfl)⟩
  have hv := yI_w hi a b
  show (1 ≤ yup Y 9 w (Y 9 w + n) 9 v ∧ yup Y 9 w (Y 9 w + n) 9 v ≤ 40) ∧ (0 ≤ Y 10 v ∧ Y 10 v ≤ 3) ∧ (1 ≤ Y 11 v ∧ Y 11 v ≤ 9) ∧ (0 ≤ Y 12 v ∧ Y 12 v < Y 1 0) ∧ (0 ≤ Y 13 v ∧ Y 13 v ≤ 4) ∧ (-1 ≤ Y 14 v ∧ Y 14 v ≤ 3) ∧ (Y 15 v = -1 ∨ (0 ≤ Y 15 v ∧ Y 15 v + yup Y 9 w (Y 9 w + n) 9 v ≤ 400)) ∧ (0 ≤ Y 16 v ∧ Y 16 v ≤ c)
  by_cases e : v = w
  · subst e
    rw [yup_s]
    refine ⟨by omega, hv.2.1, hv.2.2.1, hv.2.2.2.1, hv.2.2.2.2.1, hv.2.2.2.2.2.1, ?_, hv.2.2.2.2.2.2.2⟩
    by_cases z : Y 15 v = -1
    · exact Or.inl z
    · have := q5 z
      unfold yEnd at this
      omega
  · rw [yup_n _ _ _ _ (fun z => e z.2)]
    exact hv
theorem yJ_more (h : yJ c Y) (w n : Int) : yJ c (moreY Y w n) := by
  unfold moreY
  by_cases q : moreOk Y w n
  · rw [pif_t q]; exact yJ_more1 h q
  · rw [pif_f q]; exact h
theorem yJ_planF : ∀ (k : Nat) (Y : yS) (T : Int → Prop) (n : Int), yJ c Y → yJ c (planF k Y T n).2 := by
  intro k
  induction k with
  | zero => intro Y T n h; exact h
  | succ k ih =>
    intro Y T n h
    unfold planF
    by_cases q : yPk Y T = -1
    · rw [pif_t q]; exact h
    · rw [pif_f q]
      by_cases q2 : yFirst Y (yPk Y T) (Y 0 0) = -1
      · rw [pif_t q2]; exact ih _ _ _ h
      · rw [pif_f q2]
        obtain ⟨m, h0⟩ := first_may h.1 q2
        exact ih _ _ _ (yJ_15 h (Or.inr ⟨h0, by have := m.2.2.2.1; omega⟩))
theorem yJ_plan (h : yJ c Y) : yJ c (planV Y).2 := yJ_planF _ _ _ _ h
def bG (Y : yS) (B : bSt) : Prop := B.1 ≠ -1 → ∀ w, yWk Y w → (B.2 w = -1 ∨ (0 ≤ B.2 w ∧ B.2 w + Y 9 w ≤ 400))
theorem dloop_in {G : bSt → Prop} {g : bSt → Int → bSt} (hg : ∀ B q, G B → G (g B q)) : ∀ (m : Nat) (B : bSt) (q : Int), G B → G (dloop g m B q) := by
  intro m
  induction m with
  | zero => intro B q h; exact h
  | succ m ih => intro B q h; exact ih _ _ (hg B q h)
theorem bG_dfs {Y0 : yS} : ∀ (k : Nat) (Y : yS) (B : bSt), yInv c Y → (∀ f i, f ≠ 15 → Y f i = Y0 f i) → bG Y0 B → bG Y0 (dfs k Y B) := by
  intro k
  induction k with
  | zero =>
    intro Y B hi ho h
    show bG Y0 (bStep Y B)
    unfold bStep
    by_cases q : B.1 = -1 ∨ endR Y < B.1
    · rw [pif_t q]
      intro _ w hw
      have := yI_w hi hw.1 (by rw [ho 8 0 (by decide)]; exact hw.2)
      rw [ho 9 w (by decide)] at this
      exact this.2.2.2.2.2.2.1
    · rw [pif_f q]; exact h
  | succ k ih =>
    intro Y B hi ho h
    refine dloop_in (G := bG Y0) (fun B q hB => ?_) _ _ _ h
    by_cases z : yReady Y q ∧ yFirst Y q 0 ≠ -1
    · show bG Y0 (pif (yReady Y q ∧ yFirst Y q 0 ≠ -1) (dfs k (yup Y 15 q (yFirst Y q 0)) B) B)
      rw [pif_t z]
      exact ih _ _ (yInv_pl hi z.2) (fun f i hf => by rw [yup_n _ _ _ _ (fun z2 => hf z2.1)]; exact ho f i hf) hB
    · show bG Y0 (pif (yReady Y q ∧ yFirst Y q 0 ≠ -1) (dfs k (yup Y 15 q (yFirst Y q 0)) B) B)
      rw [pif_f z]
      exact hB
theorem bestK_ot {Y : yS} {g : Int → Int} {k : Int} {f : Nat} (hf : f ≠ 15) (i : Int) : bestK Y g k f i = Y f i := pif_f (fun z => hf z.1)
theorem yJ_best (h : yJ c Y) : yJ c (bestY Y) := by
  unfold bestY
  by_cases q : bestOk Y ∧ (bestB Y).1 ≠ -1
  · rw [pif_t q]
    have hi := h.1
    have g : bG Y (bestB Y) := bG_dfs _ _ _ hi (fun _ _ _ => rfl) (fun z => absurd rfl z)
    have o : ∀ f, f ≠ 15 → ∀ i, bestK Y (bestB Y).2 (Y 8 0) f i = Y f i := fun f hf i => bestK_ot hf i
    have o15 : ∀ w, yWk Y w → bestK Y (bestB Y).2 (Y 8 0) 15 w = (bestB Y).2 w := fun w hw => pif_t ⟨rfl, hw⟩
    generalize bestK Y (bestB Y).2 (Y 8 0) = Y' at o o15
    refine ⟨?_, acy_c h.2.1 (o 8 (by decide)) (o 17 (by decide)), sym_c h.2.2.1 (o 3 (by decide)) (o 7 (by decide)), far_c h.2.2.2 (o 8 (by decide)) (o 16 (by decide)) (o 17 (by decide)) (o 18 (by decide))⟩
    unfold yInv at hi ⊢
    simp only [o 0 (by decide), o 1 (by decide), o 2 (by decide), o 3 (by decide), o 4 (by decide), o 5 (by decide), o 6 (by decide), o 7 (by decide), o 8 (by decide), o 9 (by decide), o 10 (by decide), o 11 (by decide), o 12 (by decide), o 13 (by decide), o 14 (by decide), o 16 (by decide), o 17 (by decide), o 18 (by decide)]
    refine ⟨hi.1, hi.2.1, hi.2.2.1, hi.2.2.2.1, hi.2.2.2.2.1, hi.2.2.2.2.2.1, hi.2.2.2.2.2.2.1, hi.2.2.2.2.2.2.2.1, hi.2.2.2.2.2.2.2.2.1, hi.2.2.2.2.2.2.2.2.2.1, fun w a b => ?_, hi.2.2.2.2.2.2.2.2.2.2.2⟩
    have hv := hi.2.2.2.2.2.2.2.2.2.2.1 w a b
    refine ⟨hv.1, hv.2.1, hv.2.2.1, hv.2.2.2.1, hv.2.2.2.2.1, hv.2.2.2.2.2.1, ?_, hv.2.2.2.2.2.2.2⟩
    rw [o15 w ⟨a, b⟩]
    exact g q.2 w ⟨a, b⟩
  · rw [pif_f q]; exact h
theorem yJ_fail (h : yJ c Y) (hc : c < 600) (t : Int) : yJ (c + 1) (failY Y t) := by
  unfold failY
  by_cases q : failOk Y t
  · rw [pif_t q]
    have hi := h.1
    have hc1 := hi.1
    have o : ∀ f, f ≠ 15 → f ≠ 16 → ∀ i, failK Y t (Y 8 0) f i = Y f i := fun f h1 h2 i => failK_ot h1 h2
    have o15 : ∀ w, failK Y t (Y 8 0) 15 w = -1 ∨ failK Y t (Y 8 0) 15 w = Y 15 w := fun w => by
      unfold failK
      by_cases z : (15 : Nat) = 15 ∧ 0 ≤ w ∧ w < Y 8 0 ∧ yOpn Y t w
      · rw [pif_t z]; exact Or.inl rfl
      · rw [pif_f z, pif_f (fun z2 => by have := z2.1; omega)]; exact Or.inr rfl
    have o16 : ∀ w, failK Y t (Y 8 0) 16 w = Y 16 w + 1 ∨ failK Y t (Y 8 0) 16 w = Y 16 w := fun w => by
      unfold failK
      rw [pif_f (fun z2 => by have := z2.1; omega)]
      by_cases z : (16 : Nat) = 16 ∧ 0 ≤ w ∧ w < Y 8 0 ∧ yOpn Y t w
      · rw [pif_t z]; exact Or.inl rfl
      · rw [pif_f z]; exact Or.inr rfl
    have o16f : ∀ w, Y 8 0 ≤ w → failK Y t (Y 8 0) 16 w = Y 16 w := fun w hw => failK_lo 16 hw
    generalize failK Y t (Y 8 0) = Y' at o o15 o16 o16f
    refine ⟨?_, acy_c h.2.1 (o 8 (by decide) (by decide)) (o 17 (by decide) (by decide)), sym_c h.2.2.1 (o 3 (by decide) (by decide)) (o 7 (by decide) (by decide)), ⟨?_, fun w a b => ?_⟩⟩
    · unfold yInv at hi ⊢
      simp only [o 0 (by decide) (by decide), o 1 (by decide) (by decide), o 2 (by decide) (by decide), o 3 (by decide) (by decide), o 4 (by decide) (by decide), o 5 (by decide) (by decide), o 6 (by decide) (by decide), o 7 (by decide) (by decide), o 8 (by decide) (by decide), o 9 (by decide) (by decide), o 10 (by decide) (by decide), o 11 (by decide) (by decide), o 12 (by decide) (by decide), o 13 (by decide) (by decide), o 14 (by decide) (by decide), o 17 (by decide) (by decide), o 18 (by decide) (by decide)]
      refine ⟨by omega, hi.2.1, hi.2.2.1, by have := hi.2.2.2.1; omega, hi.2.2.2.2.1, hi.2.2.2.2.2.1, hi.2.2.2.2.2.2.1, hi.2.2.2.2.2.2.2.1, hi.2.2.2.2.2.2.2.2.1, hi.2.2.2.2.2.2.2.2.2.1, fun w a b => ?_, hi.2.2.2.2.2.2.2.2.2.2.2⟩
      have hv := hi.2.2.2.2.2.2.2.2.2.2.1 w a b
      refine ⟨hv.1, hv.2.1, hv.2.2.1, hv.2.2.2.1, hv.2.2.2.2.1, hv.2.2.2.2.2.1, ?_, ?_⟩
      · rcases o15 w with e | e
        · exact Or.inl e
        · rw [e]; exact hv.2.2.2.2.2.2.1
      · rcases o16 w with e | e <;> rw [e] <;> omega
    · have := h.2.2.2.1
      unfold yWk at *
      simp only [o 8 (by decide) (by decide), o 17 (by decide) (by decide), o 18 (by decide) (by decide)]
      exact this
    · rw [o 8 (by decide) (by decide)] at a
      rw [o16f w a]
      exact h.2.2.2.2 w a b
  · rw [pif_f q]; exact yJ_c h hc
/-! one more edge -/
theorem nd_up {w k : Int} (hk0 : 0 ≤ k) (hk1 : k < 40) (a b : Int) (b0 : 0 ≤ b) (b1 : b < 40) : yNd (yup Y 17 (40 * w + k) 1) a b ↔ yNd Y a b ∨ (a = w ∧ b = k) := by
  unfold yNd
  by_cases e : 40 * a + b = 40 * w + k
  · rw [e, yup_s]
    exact ⟨fun _ => Or.inr ⟨by omega, by omega⟩, fun _ => by omega⟩
  · rw [yup_n _ _ _ _ (fun z => e z.2)]
    exact ⟨Or.inl, fun z => z.elim id (fun z => absurd (by rw [z.1, z.2]) e)⟩
theorem hang_up (hi : yInv c Y) {w k : Int} (hw : yWk Y w) (hk : yWk Y k) (v o : Int) : yHang (yup Y 17 (40 * w + k) 1) v o ↔ yHang Y v o ∨ ((v = w ∨ yHang Y v w) ∧ (o = k ∨ yHang Y k o)) := by
  have l40 : ∀ m, yWk Y m → 0 ≤ m ∧ m < 40 := fun m hm => ⟨hm.1, yW_lt hi hm⟩
  have nd := fun (a b : Int) (hb : yWk Y b) => nd_up (Y := Y) (w := w) (l40 k hk).1 (l40 k hk).2 a b (l40 b hb).1 (l40 b hb).2
  have mono : ∀ v o, yHang Y v o → yHang (yup Y 17 (40 * w + k) 1) v o := fun v o z S h1 h2 => z S (fun m hm hn => h1 m hm ((nd v m hm).mpr (Or.inl hn))) (fun m m2 hm hm2 hs hn => h2 m m2 hm hm2 hs ((nd m m2 hm2).mpr (Or.inl hn)))
  constructor
  · intro z
    refine z (fun o => yHang Y v o ∨ ((v = w ∨ yHang Y v w) ∧ (o = k ∨ yHang Y k o))) (fun m hm hn => ?_) (fun m m2 hm hm2 hs hn => ?_)
    · have hm : yWk Y m := hm
      rcases (nd v m hm).mp hn with hn | hn
      · exact Or.inl (hang_nd hm hn)
      · exact Or.inr ⟨Or.inl hn.1, Or.inl hn.2⟩
    · have hm : yWk Y m := hm
      have hm2 : yWk Y m2 := hm2
      rcases (nd m m2 hm2).mp hn with hn | hn
      · rcases hs with hs | ⟨hs, e | e⟩
        · exact Or.inl (hang_tr hs hm2 hn)
        · exact Or.inr ⟨hs, Or.inr (hang_nd hm2 (by rw [e] at hn; exact hn))⟩
        · exact Or.inr ⟨hs, Or.inr (hang_tr e hm2 hn)⟩
      · rcases hs with hs | ⟨hs, -⟩
        · exact Or.inr ⟨Or.inr (by rw [hn.1] at hs; exact hs), Or.inl hn.2⟩
        · exact Or.inr ⟨hs, Or.inl hn.2⟩
  · have st : yHang (yup Y 17 (40 * w + k) 1) w k := hang_nd (Y := yup Y 17 (40 * w + k) 1) hk ((nd w k hk).mpr (Or.inr ⟨rfl, rfl⟩))
    rintro (z | ⟨z, z2⟩)
    · exact mono v o z
    · have a1 : yHang (yup Y 17 (40 * w + k) 1) v k := by
        rcases z with z | z
        · rw [z]; exact st
        · exact hang_trans (mono v w z) st
      rcases z2 with z2 | z2
      · rw [z2]; exact a1
      · exact hang_trans a1 (mono k o z2)
theorem yJ_need1 (h : yJ c Y) {w k : Int} (q : canOk Y w k) : yJ c (yup Y 17 (40 * w + k) 1) := by
  have hi := h.1
  obtain ⟨hw, hk, hwk, hb, hh⟩ := q
  refine ⟨⟨hi.1, hi.2.1, hi.2.2.1, hi.2.2.2.1, hi.2.2.2.2.1, hi.2.2.2.2.2.1, hi.2.2.2.2.2.2.1, hi.2.2.2.2.2.2.2.1, hi.2.2.2.2.2.2.2.2.1, hi.2.2.2.2.2.2.2.2.2.1, hi.2.2.2.2.2.2.2.2.2.2.1, fun i => ?_, hi.2.2.2.2.2.2.2.2.2.2.2.2⟩, fun v hv z => ?_, sym_c h.2.2.1 (fun _ => rfl) (fun _ => rfl), ⟨fun a b a0 a1 b0 b1 z => ?_, h.2.2.2.2⟩⟩
  · unfold yup
    split
    · exact Or.inr rfl
    · exact hi.2.2.2.2.2.2.2.2.2.2.2.1 i
  · have hv : yWk Y v := hv
    rcases (hang_up hi hw hk v v).mp z with z | ⟨z1 | z1, z2 | z2⟩
    · exact h.2.1 v hv z
    · exact hwk (z1.symm.trans z2)
    · rw [z1] at z2; exact hh z2
    · rw [z2] at z1; exact hh z1
    · exact hh (hang_trans z2 z1)
  · have z : yup Y 17 (40 * w + k) 1 17 (40 * a + b) ≠ 0 ∨ Y 18 (40 * a + b) ≠ 0 := z
    rcases z with z | z
    · rcases (nd_up (Y := Y) (w := w) hk.1 (yW_lt hi hk) a b b0 b1).mp z with z | z
      · exact h.2.2.2.1 a b a0 a1 b0 b1 (Or.inl z)
      · rw [z.1, z.2]; exact ⟨hw, hk⟩
    · exact h.2.2.2.1 a b a0 a1 b0 b1 (Or.inr z)
theorem yJ_need (h : yJ c Y) (w k : Int) : yJ c (needY Y w k) := by
  unfold needY
  by_cases q : needOk Y w k
  · rw [pif_t q]; exact yJ_need1 h q.1
  · rw [pif_f q]; exact h
theorem yJ_tells1 (h : yJ c Y) {w k : Int} (hw : yWk Y w) (hk : yWk Y k) : yJ c (yup Y 18 (40 * w + k) 1) := by
  have hi := h.1
  refine ⟨⟨hi.1, hi.2.1, hi.2.2.1, hi.2.2.2.1, hi.2.2.2.2.1, hi.2.2.2.2.2.1, hi.2.2.2.2.2.2.1, hi.2.2.2.2.2.2.2.1, hi.2.2.2.2.2.2.2.2.1, hi.2.2.2.2.2.2.2.2.2.1, hi.2.2.2.2.2.2.2.2.2.2.1, hi.2.2.2.2.2.2.2.2.2.2.2.1, fun i => ?_⟩, acy_c h.2.1 (fun _ => rfl) (fun _ => rfl), sym_c h.2.2.1 (fun _ => rfl) (fun _ => rfl), ⟨fun a b a0 a1 b0 b1 z => ?_, h.2.2.2.2⟩⟩
  · unfold yup
    split
    · exact Or.inr rfl
    · exact hi.2.2.2.2.2.2.2.2.2.2.2.2 i
  · have z : Y 17 (40 * a + b) ≠ 0 ∨ yup Y 18 (40 * w + k) 1 18 (40 * a + b) ≠ 0 := z
    rcases z with z | z
    · exact h.2.2.2.1 a b a0 a1 b0 b1 (Or.inl z)
    · by_cases e : 40 * a + b = 40 * w + k
      · have k1 := yW_lt hi hk
        have k0 := hk.1
        have ea : a = w := by omega
        have eb : b = k := by omega
        rw [ea, eb]
        exact ⟨hw, hk⟩
      · rw [yup_n _ _ _ _ (fun z2 => e z2.2)] at z
        exact h.2.2.2.1 a b a0 a1 b0 b1 (Or.inr z)
theorem yJ_tells (h : yJ c Y) (w k : Int) : yJ c (tellsY Y w k) := by
  unfold tellsY
  by_cases q : tellsOk Y w k
  · rw [pif_t q]; exact yJ_tells1 (yJ_need1 h q.1) q.1.1 q.1.2.1
  · rw [pif_f q]; exact h
/-! one more work -/
theorem workY1_o {x g : Int} {f : Nat} {i : Int} (h : f < 8 ∨ 16 ≤ f) : workY1 Y x g f i = Y f i := by
  unfold workY1
  show (if f = 8 then _ else _) = _
  rw [if_neg (by omega)]
  rw [yup_n _ _ _ _ (by omega), yup_n _ _ _ _ (by omega), yup_n _ _ _ _ (by omega), yup_n _ _ _ _ (by omega), yup_n _ _ _ _ (by omega), yup_n _ _ _ _ (by omega), yup_n _ _ _ _ (by omega)]
theorem workY1_8 {x g i : Int} : workY1 Y x g 8 i = Y 8 0 + 1 := rfl
theorem workY1_lo {x g : Int} {f : Nat} {i : Int} (h8 : f ≠ 8) (h : i ≠ Y 8 0) : workY1 Y x g f i = Y f i := by
  unfold workY1
  show (if f = 8 then _ else _) = _
  rw [if_neg h8]
  rw [yup_n _ _ _ _ (fun z => h z.2), yup_n _ _ _ _ (fun z => h z.2), yup_n _ _ _ _ (fun z => h z.2), yup_n _ _ _ _ (fun z => h z.2), yup_n _ _ _ _ (fun z => h z.2), yup_n _ _ _ _ (fun z => h z.2), yup_n _ _ _ _ (fun z => h z.2)]
theorem workY1_n (x g : Int) : workY1 Y x g 9 (Y 8 0) = x.tdiv 100000 ∧ workY1 Y x g 10 (Y 8 0) = (x.tdiv 1000).tmod 10 ∧ workY1 Y x g 11 (Y 8 0) = (x.tdiv 10000).tmod 10 ∧ workY1 Y x g 12 (Y 8 0) = x.tmod 100 ∧ workY1 Y x g 13 (Y 8 0) = (x.tdiv 100).tmod 10 ∧ workY1 Y x g 14 (Y 8 0) = g ∧ workY1 Y x g 15 (Y 8 0) = -1 := by
  unfold workY1 ysc yup
  simp
theorem hang_work (hj : yJ c Y) {x g : Int} (h40 : Y 8 0 < 40) {v : Int} (v0 : 0 ≤ v) (v1 : v < 40) (o : Int) : yHang (workY1 Y x g) v o ↔ yHang Y v o := by
  have nd : ∀ a b, yNd (workY1 Y x g) a b ↔ yNd Y a b := fun a b => by unfold yNd; rw [workY1_o (by omega)]
  have wk : ∀ m, yWk Y m → yWk (workY1 Y x g) m := fun m hm => ⟨hm.1, by rw [workY1_8]; have := hm.2; omega⟩
  have w40 : ∀ m, yWk (workY1 Y x g) m → 0 ≤ m ∧ m < 40 := fun m hm => ⟨hm.1, by have := hm.2; rw [workY1_8] at this; omega⟩
  constructor
  · intro z
    refine z (yHang Y v) (fun m hm hn => ?_) (fun m m2 hm hm2 hs hn => ?_)
    · have hn := (nd v m).mp hn
      exact hang_nd (hj.2.2.2.1 v m v0 v1 (w40 m hm).1 (w40 m hm).2 (Or.inl hn)).2 hn
    · have hn := (nd m m2).mp hn
      exact hang_tr hs (hj.2.2.2.1 m m2 (w40 m hm).1 (w40 m hm).2 (w40 m2 hm2).1 (w40 m2 hm2).2 (Or.inl hn)).2 hn
  · exact fun z S h1 h2 => z S (fun m hm hn => h1 m (wk m hm) ((nd v m).mpr hn)) (fun m m2 hm hm2 hs hn => h2 m m2 (wk m hm) (wk m2 hm2) hs ((nd m m2).mpr hn))
theorem hang_new (hj : yJ c Y) (h40 : Y 8 0 < 40) (o : Int) : ¬ yHang Y (Y 8 0) o := fun z => by
  have h8 := yI_n hj.1
  refine z (fun _ => False) (fun m hm hn => ?_) (fun _ _ _ _ hs _ => hs)
  have := (hj.2.2.2.1 (Y 8 0) m h8.1 h40 hm.1 (yW_lt hj.1 hm) (Or.inl hn)).1.2
  omega
theorem yJ_work1 (h : yJ c Y) {x g : Int} (q : workOk Y x g) : yJ c (workY1 Y x g) := by
  have hi := h.1
  have h8 := yI_n hi
  obtain ⟨q0, q1, q2, q3, q4, q5, q6, q7⟩ := q
  have h40 : Y 8 0 < 40 := by omega
  obtain ⟨n9, n10, n11, n12, n13, n14, n15⟩ := workY1_n (Y := Y) x g
  have hc0 := hi.1
  refine ⟨⟨hi.1, ?_, ?_, ?_, ?_, ?_, ?_, ?_, ?_, ?_, ?_, ?_, ?_⟩, fun v hv z => ?_, sym_c h.2.2.1 (fun _ => workY1_o (by omega)) (fun _ => workY1_o (by omega)), ⟨fun a b a0 a1 b0 b1 z => ?_, fun w a b => ?_⟩⟩
  · rw [workY1_o (by omega)]; exact hi.2.1
  · rw [workY1_o (by omega)]; exact hi.2.2.1
  · rw [workY1_o (by omega)]; exact hi.2.2.2.1
  · rw [workY1_8]; omega
  · intro s s0 s1
    rw [workY1_o (by omega)] at s1
    rw [workY1_o (by omega)]
    exact hi.2.2.2.2.2.1 s s0 s1
  · intro i
    rw [workY1_o (by omega)]
    exact hi.2.2.2.2.2.2.1 i
  · intro i
    rw [workY1_o (by omega)]
    exact hi.2.2.2.2.2.2.2.1 i
  · intro i
    rw [workY1_o (by omega)]
    exact hi.2.2.2.2.2.2.2.2.1 i
  · intro i
    rw [workY1_o (by omega)]
    exact hi.2.2.2.2.2.2.2.2.2.1 i
  · intro w w0 w1
    rw [workY1_8] at w1
    rw [show workY1 Y x g 1 0 = Y 1 0 from workY1_o (by omega), show workY1 Y x g 16 w = Y 16 w from workY1_o (by omega)]
    by_cases e : w = Y 8 0
    · have z16 := h.2.2.2.2 w (by omega) (by omega)
      rw [z16]
      subst e
      rw [n9, n10, n11, n12, n13, n14, n15]
      have m1 : 0 ≤ (x.tdiv 1000).tmod 10 := Int.tmod_nonneg _ (Int.tdiv_nonneg q0 (by omega))
      have m2 : (x.tdiv 10000).tmod 10 < 10 := Int.tmod_lt_of_pos _ (by omega)
      have m3 : 0 ≤ x.tmod 100 := Int.tmod_nonneg _ q0
      have m4 : 0 ≤ (x.tdiv 100).tmod 10 := Int.tmod_nonneg _ (Int.tdiv_nonneg q0 (by omega))
      exact ⟨q1, ⟨m1, q3⟩, ⟨q2, by omega⟩, ⟨m3, q5⟩, ⟨m4, q4⟩, q6, Or.inl rfl, by omega⟩
    · rw [workY1_lo (by omega) e, workY1_lo (by omega) e, workY1_lo (by omega) e, workY1_lo (by omega) e, workY1_lo (by omega) e, workY1_lo (by omega) e, workY1_lo (by omega) e]
      exact yI_w hi w0 (by omega)
  · intro i
    rw [workY1_o (by omega)]
    exact hi.2.2.2.2.2.2.2.2.2.2.2.1 i
  · intro i
    rw [workY1_o (by omega)]
    exact hi.2.2.2.2.2.2.2.2.2.2.2.2 i
  · have v1 := hv.2
    rw [workY1_8] at v1
    have z := (hang_work h h40 hv.1 (by omega) v).mp z
    by_cases e : v = Y 8 0
    · rw [e] at z; exact hang_new h h40 _ z
    · exact h.2.1 v ⟨hv.1, by omega⟩ z
  · rw [workY1_o (by omega), workY1_o (by omega)] at z
    have := h.2.2.2.1 a b a0 a1 b0 b1 z
    exact ⟨⟨this.1.1, by rw [workY1_8]; have := this.1.2; omega⟩, ⟨this.2.1, by rw [workY1_8]; have := this.2.2; omega⟩⟩
  · rw [workY1_8] at a
    rw [workY1_o (by omega)]
    exact h.2.2.2.2 w (by omega) b
theorem yJ_work (h : yJ c Y) (x g : Int) : yJ c (workY Y x g) := by
  unfold workY
  by_cases q : workOk Y x g
  · rw [pif_t q]; exact yJ_work1 h q
  · rw [pif_f q]; exact h
end YI
