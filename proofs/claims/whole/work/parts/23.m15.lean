/-! ===== contracts of the reference: its constructor ===== -/
def yZ0 : yS := fun f i => if f = 4 then (if 0 ≤ i ∧ i < 4 then 4 else 0) else if f = 5 then (if 0 ≤ i ∧ i < 4 then 1 else 0) else 0
/-- the first k arrays stand -/
def iM (a k : Nat) (M0 M : zM) : Prop := zsz M = a + 1 + k ∧ zK M a = (8, 25) ∧ (∀ i, zI M a i = 0) ∧ (∀ f, f < 25 → misc f = false → moff f ≤ k → zR M a f = some (a + moff f) ∧ zK M (a + moff f) = mkind f ∧ ∀ i, zI M (a + moff f) i = yZ0 f i) ∧ (∀ b, b < a → zK M b = zK M0 b ∧ (∀ j, zI M b j = zI M0 b j) ∧ (∀ j, zL M b j = zL M0 b j) ∧ (∀ j, zR M b j = zR M0 b j))
theorem iM_step {a k f t n : Nat} {j : Int} {M0 M M1 M2 M3 : zM} (h : iM a k M0 M) (hf : f < 25) (hm : misc f = false) (ho : moff f = k + 1) (hk : mkind f = (t, n)) (e1 : M1 = znew M t n) (h2 : zsz M2 = zsz M1 ∧ (∀ b, zK M2 b = zK M1 b) ∧ (∀ b i, zR M2 b i = zR M1 b i) ∧ (∀ b i, zL M2 b i = zL M1 b i) ∧ (∀ b i, b ≠ zsz M → zI M2 b i = zI M1 b i) ∧ ∀ i, zI M2 (zsz M) i = yZ0 f i) (hj : j = f) (e3 : M3 = zsR M2 a j (some (zsz M))) : iM a (k + 1) M0 M3 := by
  subst hj
  obtain ⟨i1, i2, i3, i4, i5⟩ := h
  obtain ⟨s2, K2, R2, L2, I2, Z2⟩ := h2
  subst e3
  refine ⟨by rw [zsz_sR, s2, e1, zsz_new, i1]; omega, by rw [zK_sR, K2, e1, zK_new, if_neg (by omega)]; exact i2, fun i => by rw [zI_sR, I2 a i (by omega), e1, zI_new, if_neg (by omega)]; exact i3 i, fun g hg hgm hgo => ?_, fun b hb => ?_⟩
  · by_cases e : g = f
    · subst e
      rw [zR_sR, if_pos ⟨rfl, rfl⟩, zK_sR, K2, e1, zK_new, if_pos (by omega), hk, i1]
      refine ⟨by rw [ho]; congr 1; omega, rfl, fun i => ?_⟩
      rw [zI_sR, ← Z2 i, i1, ho]
      congr 1
      omega
    · have hne : moff g ≠ k + 1 := fun z => e (moff_inj g hg f hf hgm hm (by omega))
      obtain ⟨a1, a2, a3⟩ := i4 g hg hgm (by omega)
      refine ⟨?_, ?_, fun i => ?_⟩
      · rw [zR_sR, if_neg (fun z => e (by have := z.2; omega)), R2, e1, zR_new, if_neg (by omega)]; exact a1
      · rw [zK_sR, K2, e1, zK_new, if_neg (by omega)]; exact a2
      · rw [zI_sR, I2 _ _ (by omega), e1, zI_new, if_neg (by omega)]; exact a3 i
  · obtain ⟨a1, a2, a3, a4⟩ := i5 b hb
    exact ⟨by rw [zK_sR, K2, e1, zK_new, if_neg (by omega)]; exact a1, fun i => by rw [zI_sR, I2 b i (by omega), e1, zI_new, if_neg (by omega)]; exact a2 i, fun i => by rw [zL_sR, L2, e1, zL_new, if_neg (by omega)]; exact a3 i, fun i => by rw [zR_sR, if_neg (fun z => by have := z.1; omega), R2, e1, zR_new, if_neg (by omega)]; exact a4 i⟩
theorem iM_pl {a k f t n : Nat} {j : Int} {M0 M M1 M3 : zM} (h : iM a k M0 M) (hf : f < 25) (hm : misc f = false) (ho : moff f = k + 1) (hk : mkind f = (t, n)) (h4 : f ≠ 4 ∧ f ≠ 5) (e1 : M1 = znew M t n) (hj : j = f) (e3 : M3 = zsR M1 a j (some (zsz M))) : iM a (k + 1) M0 M3 :=
  iM_step h hf hm ho hk e1 ⟨rfl, fun _ => rfl, fun _ _ => rfl, fun _ _ => rfl, fun _ _ _ => rfl, fun i => by rw [e1, zI_new, if_pos rfl]; unfold yZ0; rw [if_neg h4.1, if_neg h4.2]⟩ hj e3
theorem iM_K {a k t n : Nat} {M0 M M1 : zM} (h : iM a k M0 M) (e1 : M1 = znew M t n) : zK M1 a = (8, 25) ∧ zK M1 (zsz M) = (t, n) := by
  have := h.1
  exact ⟨by rw [e1, zK_new, if_neg (by omega)]; exact h.2.1, by rw [e1, zK_new, if_pos rfl]⟩
theorem i4_at (M : zM) (b : Nat) (v : Int) (hz : ∀ i, zI M b i = 0) (i : Int) : zI (zsI (zsI (zsI (zsI M b 0 v) b 1 v) b 2 v) b 3 v) b i = if 0 ≤ i ∧ i < 4 then v else 0 := by
  rw [zI_sI, zI_sI, zI_sI, zI_sI, hz i]
  by_cases h : 0 ≤ i ∧ i < 4
  · rw [if_pos h]
    rcases (show i = 0 ∨ i = 1 ∨ i = 2 ∨ i = 3 by omega) with rfl | rfl | rfl | rfl <;> simp
  · rw [if_neg h, if_neg (by omega), if_neg (by omega), if_neg (by omega), if_neg (by omega)]
theorem c_init {E : zE} {d a : Nat} {M : zM} (hz : zsz M = a + 1) (hK : zK M a = (8, 25)) (hI : ∀ i, zI M a i = 0) : zCv E mX7_init (d + 1) 21 4112 [vR (some a)] M (fun M' => iM a 21 M M') := by
  refine sX7_init _ (fun X hr => vX7_init_0 hr _ ?_)
  have h0 : iM a 0 M M := ⟨hz, hK, hI, fun f hf hm ho => absurd (moff_pos f hf hm).1 (by omega), fun b _ => ⟨rfl, fun _ => rfl, fun _ => rfl, fun _ => rfl⟩⟩
  intro A1 ea1
  refine ⟨(iM_K h0 ea1).1, ?_⟩
  intro C1 ec1
  have h1 := iM_pl (f := 2) h0 (by decide) rfl rfl rfl (by decide) ea1 rfl ec1
  intro A2 ea2
  refine ⟨(iM_K h1 ea2).1, ?_⟩
  intro C2 ec2
  have h2 := iM_pl (f := 3) h1 (by decide) rfl rfl rfl (by decide) ea2 rfl ec2
  intro A3 ea3
  have ka3 := iM_K h2 ea3
  have kq3_0 : zK A3 (zsz C2) = (9, 4) := ka3.2
  refine ⟨by rw [kq3_0], by omega, by rw [kq3_0]; decide, ?_⟩
  intro B3_0 eb3_0
  have kq3_1 : zK B3_0 (zsz C2) = (9, 4) := by rw [eb3_0]; exact kq3_0
  refine ⟨by rw [kq3_1], by omega, by rw [kq3_1]; decide, ?_⟩
  intro B3_1 eb3_1
  have kq3_2 : zK B3_1 (zsz C2) = (9, 4) := by rw [eb3_1]; exact kq3_1
  refine ⟨by rw [kq3_2], by omega, by rw [kq3_2]; decide, ?_⟩
  intro B3_2 eb3_2
  have kq3_3 : zK B3_2 (zsz C2) = (9, 4) := by rw [eb3_2]; exact kq3_2
  refine ⟨by rw [kq3_3], by omega, by rw [kq3_3]; decide, ?_⟩
  intro B3_3 eb3_3
  have kz3 : zK B3_3 a = (8, 25) := by rw [eb3_3, zK_sI, eb3_2, zK_sI, eb3_1, zK_sI, eb3_0, zK_sI]; exact ka3.1
  refine ⟨kz3, ?_⟩
  intro C3 ec3
  have h3 := iM_step (f := 4) h2 (by decide) rfl rfl rfl ea3 (M2 := B3_3) ⟨by rw [eb3_3, eb3_2, eb3_1, eb3_0]; rfl, fun b => by rw [eb3_3, eb3_2, eb3_1, eb3_0]; rfl, fun b i => by rw [eb3_3, eb3_2, eb3_1, eb3_0]; rfl, fun b i => by rw [eb3_3, eb3_2, eb3_1, eb3_0]; rfl, fun b i hb => by rw [eb3_3, eb3_2, eb3_1, eb3_0, zI_sI, zI_sI, zI_sI, zI_sI, if_neg (fun z => hb z.1), if_neg (fun z => hb z.1), if_neg (fun z => hb z.1), if_neg (fun z => hb z.1)], fun i => by rw [eb3_3, eb3_2, eb3_1, eb3_0, i4_at _ _ _ (fun i => by rw [ea3, zI_new, if_pos rfl])]; rfl⟩ rfl ec3
  intro A4 ea4
  have ka4 := iM_K h3 ea4
  have kq4_0 : zK A4 (zsz C3) = (9, 4) := ka4.2
  refine ⟨by rw [kq4_0], by omega, by rw [kq4_0]; decide, ?_⟩
  intro B4_0 eb4_0
  have kq4_1 : zK B4_0 (zsz C3) = (9, 4) := by rw [eb4_0]; exact kq4_0
  refine ⟨by rw [kq4_1], by omega, by rw [kq4_1]; decide, ?_⟩
  intro B4_1 eb4_1
  have kq4_2 : zK B4_1 (zsz C3) = (9, 4) := by rw [eb4_1]; exact kq4_1
  refine ⟨by rw [kq4_2], by omega, by rw [kq4_2]; decide, ?_⟩
  intro B4_2 eb4_2
  have kq4_3 : zK B4_2 (zsz C3) = (9, 4) := by rw [eb4_2]; exact kq4_2
  refine ⟨by rw [kq4_3], by omega, by rw [kq4_3]; decide, ?_⟩
  intro B4_3 eb4_3
  have kz4 : zK B4_3 a = (8, 25) := by rw [eb4_3, zK_sI, eb4_2, zK_sI, eb4_1, zK_sI, eb4_0, zK_sI]; exact ka4.1
  refine ⟨kz4, ?_⟩
  intro C4 ec4
  have h4 := iM_step (f := 5) h3 (by decide) rfl rfl rfl ea4 (M2 := B4_3) ⟨by rw [eb4_3, eb4_2, eb4_1, eb4_0]; rfl, fun b => by rw [eb4_3, eb4_2, eb4_1, eb4_0]; rfl, fun b i => by rw [eb4_3, eb4_2, eb4_1, eb4_0]; rfl, fun b i => by rw [eb4_3, eb4_2, eb4_1, eb4_0]; rfl, fun b i hb => by rw [eb4_3, eb4_2, eb4_1, eb4_0, zI_sI, zI_sI, zI_sI, zI_sI, if_neg (fun z => hb z.1), if_neg (fun z => hb z.1), if_neg (fun z => hb z.1), if_neg (fun z => hb z.1)], fun i => by rw [eb4_3, eb4_2, eb4_1, eb4_0, i4_at _ _ _ (fun i => by rw [ea4, zI_new, if_pos rfl])]; rfl⟩ rfl ec4
  intro A5 ea5
  refine ⟨(iM_K h4 ea5).1, ?_⟩
  intro C5 ec5
  have h5 := iM_pl (f := 7) h4 (by decide) rfl rfl rfl (by decide) ea5 rfl ec5
  intro A6 ea6
  refine ⟨(iM_K h5 ea6).1, ?_⟩
  intro C6 ec6
  have h6 := iM_pl (f := 9) h5 (by decide) rfl rfl rfl (by decide) ea6 rfl ec6
  intro A7 ea7
  refine ⟨(iM_K h6 ea7).1, ?_⟩
  intro C7 ec7
  have h7 := iM_pl (f := 10) h6 (by decide) rfl rfl rfl (by decide) ea7 rfl ec7
  intro A8 ea8
  refine ⟨(iM_K h7 ea8).1, ?_⟩
  intro C8 ec8
  have h8 := iM_pl (f := 11) h7 (by decide) rfl rfl rfl (by decide) ea8 rfl ec8
  intro A9 ea9
  refine ⟨(iM_K h8 ea9).1, ?_⟩
  intro C9 ec9
  have h9 := iM_pl (f := 12) h8 (by decide) rfl rfl rfl (by decide) ea9 rfl ec9
  intro A10 ea10
  refine ⟨(iM_K h9 ea10).1, ?_⟩
  intro C10 ec10
  have h10 := iM_pl (f := 13) h9 (by decide) rfl rfl rfl (by decide) ea10 rfl ec10
  intro A11 ea11
  refine ⟨(iM_K h10 ea11).1, ?_⟩
  intro C11 ec11
  have h11 := iM_pl (f := 14) h10 (by decide) rfl rfl rfl (by decide) ea11 rfl ec11
  intro A12 ea12
  refine ⟨(iM_K h11 ea12).1, ?_⟩
  intro C12 ec12
  have h12 := iM_pl (f := 15) h11 (by decide) rfl rfl rfl (by decide) ea12 rfl ec12
  intro A13 ea13
  refine ⟨(iM_K h12 ea13).1, ?_⟩
  intro C13 ec13
  have h13 := iM_pl (f := 16) h12 (by decide) rfl rfl rfl (by decide) ea13 rfl ec13
  intro A14 ea14
  refine ⟨(iM_K h13 ea14).1, ?_⟩
  intro C14 ec14
  have h14 := iM_pl (f := 17) h13 (by decide) rfl rfl rfl (by decide) ea14 rfl ec14
  intro A15 ea15
  refine ⟨(iM_K h14 ea15).1, ?_⟩
  intro C15 ec15
  have h15 := iM_pl (f := 18) h14 (by decide) rfl rfl rfl (by decide) ea15 rfl ec15
  intro A16 ea16
  refine ⟨(iM_K h15 ea16).1, ?_⟩
  intro C16 ec16
  have h16 := iM_pl (f := 19) h15 (by decide) rfl rfl rfl (by decide) ea16 rfl ec16
  intro A17 ea17
  refine ⟨(iM_K h16 ea17).1, ?_⟩
  intro C17 ec17
  have h17 := iM_pl (f := 20) h16 (by decide) rfl rfl rfl (by decide) ea17 rfl ec17
  intro A18 ea18
  refine ⟨(iM_K h17 ea18).1, ?_⟩
  intro C18 ec18
  have h18 := iM_pl (f := 21) h17 (by decide) rfl rfl rfl (by decide) ea18 rfl ec18
  intro A19 ea19
  refine ⟨(iM_K h18 ea19).1, ?_⟩
  intro C19 ec19
  have h19 := iM_pl (f := 22) h18 (by decide) rfl rfl rfl (by decide) ea19 rfl ec19
  intro A20 ea20
  refine ⟨(iM_K h19 ea20).1, ?_⟩
  intro C20 ec20
  have h20 := iM_pl (f := 23) h19 (by decide) rfl rfl rfl (by decide) ea20 rfl ec20
  intro A21 ea21
  refine ⟨(iM_K h20 ea21).1, ?_⟩
  intro C21 ec21
  have h21 := iM_pl (f := 24) h20 (by decide) rfl rfl rfl (by decide) ea21 rfl ec21
  exact h21
theorem iM_sh {a : Nat} {M0 M : zM} (h : iM a 21 M0 M) : mSh a M ∧ mCo a M yZ0 := by
  refine ⟨⟨h.2.1, fun f hf hm => ?_⟩, fun f i hf => ?_⟩
  · obtain ⟨a1, a2, -⟩ := h.2.2.2.1 f hf hm (moff_pos f hf hm).2
    exact ⟨a1, a2⟩
  · unfold mI
    by_cases hm : misc f = true
    · rw [if_pos hm, h.2.2.1]
      have key : ∀ f : Nat, f < 19 → misc f = true → f ≠ 4 ∧ f ≠ 5 := by decide
      have q := key f hf hm
      unfold yZ0
      rw [if_neg q.1, if_neg q.2]
    · rw [if_neg hm]
      exact (h.2.2.2.1 f (by omega) (by simpa using hm) (moff_pos f (by omega) (by simpa using hm)).2).2.2 i
