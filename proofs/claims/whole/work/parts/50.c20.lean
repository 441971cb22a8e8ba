/-! ===== the constructors of the class ===== -/
def gV : yS := fun o i => if o = 18 then (if 0 ≤ i ∧ i < 4 then 4 else 0) else if o = 19 then (if 0 ≤ i ∧ i < 4 then 1 else 0) else 0
def gM (x k : Nat) (R : List (Nat × Int × Nat)) (M0 M : zM) : Prop := zsz M = x + k ∧ (∀ o, o < k → zK M (x + o) = kkind o) ∧ (∀ q ∈ R, q.1 < k ∧ zR M (x + q.1) q.2.1 = some (x + q.2.2)) ∧ (∀ o, o < k → ∀ i, zI M (x + o) i = gV o i) ∧ (∀ o, o < k → ∀ i, zL M (x + o) i = 0) ∧ (∀ b, b < x → zK M b = zK M0 b ∧ (∀ j, zI M b j = zI M0 b j) ∧ (∀ j, zL M b j = zL M0 b j) ∧ (∀ j, zR M b j = zR M0 b j))
section GM
variable {x k : Nat} {R : List (Nat × Int × Nat)} {M0 M M1 : zM}
theorem gM_K (h : gM x k R M0 M) {o : Nat} (ho : o < k) : zK M (x + o) = kkind o := h.2.1 o ho
/-- one more cell; v: what is put into it at once -/
theorem gM_cell {t n : Nat} (h : gM x k R M0 M) (hk : kkind k = (t, n)) (z : zsz M1 = zsz M + 1) (hK : ∀ b, zK M1 b = if b = zsz M then (t, n) else zK M b) (hI : ∀ b i, b ≠ zsz M → zI M1 b i = zI M b i) (hI2 : ∀ i, zI M1 (zsz M) i = gV k i) (hL : ∀ b i, zL M1 b i = if b = zsz M then 0 else zL M b i) (hR : ∀ b i, b ≠ zsz M → zR M1 b i = zR M b i) : gM x (k + 1) R M0 M1 := by
  obtain ⟨a1, a2, a3, a4, a5, a6⟩ := h
  refine ⟨by omega, fun o ho => ?_, fun q hq => ?_, fun o ho i => ?_, fun o ho i => ?_, fun b hb => ?_⟩
  · rw [hK]
    by_cases e : o = k
    · rw [if_pos (by omega), e, hk]
    · rw [if_neg (by omega)]; exact a2 o (by omega)
  · have := a3 q hq
    refine ⟨by omega, ?_⟩
    rw [hR _ _ (by omega)]
    exact this.2
  · by_cases e : o = k
    · rw [e, ← a1]; exact hI2 i
    · rw [hI _ _ (by omega)]; exact a4 o (by omega) i
  · rw [hL]
    by_cases e : o = k
    · rw [if_pos (by omega)]
    · rw [if_neg (by omega)]; exact a5 o (by omega) i
  · obtain ⟨b1, b2, b3, b4⟩ := a6 b hb
    refine ⟨?_, fun j => ?_, fun j => ?_, fun j => ?_⟩
    · rw [hK, if_neg (by omega)]; exact b1
    · rw [hI _ _ (by omega)]; exact b2 j
    · rw [hL, if_neg (by omega)]; exact b3 j
    · rw [hR _ _ (by omega)]; exact b4 j
theorem gM_new {t n : Nat} (h : gM x k R M0 M) (hk : kkind k = (t, n)) (h18 : k ≠ 18) (h19 : k ≠ 19) (e : M1 = znew M t n) : gM x (k + 1) R M0 M1 := by
  subst e
  refine gM_cell h hk rfl (fun b => rfl) (fun b i hb => by rw [zI_new, if_neg hb]) (fun i => by rw [zI_new, if_pos rfl]; unfold gV; rw [if_neg h18, if_neg h19]) (fun b i => rfl) (fun b i hb => by rw [zR_new, if_neg hb])
theorem gM_four {v : Int} (h : gM x k R M0 M) (hk : kkind k = (9, 4)) (hv : ∀ i, gV k i = if 0 ≤ i ∧ i < 4 then v else 0) (e : M1 = zsI (zsI (zsI (zsI (znew M 9 4) (zsz M) 0 v) (zsz M) 1 v) (zsz M) 2 v) (zsz M) 3 v) : gM x (k + 1) R M0 M1 := by
  subst e
  refine gM_cell h hk rfl (fun b => rfl) (fun b i hb => ?_) (fun i => ?_) (fun b i => rfl) (fun b i hb => ?_)
  · rw [zI_sI, zI_sI, zI_sI, zI_sI, if_neg (fun z => hb z.1), if_neg (fun z => hb z.1), if_neg (fun z => hb z.1), if_neg (fun z => hb z.1), zI_new, if_neg hb]
  · rw [i4_at _ _ _ (fun i => by rw [zI_new, if_pos rfl]), hv]
  · show zR (znew M 9 4) b i = _
    rw [zR_new, if_neg hb]
theorem gM_ref {a b c : Nat} {j : Int} (h : gM x k R M0 M) (ha : a < k) (hb : b = x + a) (hn : ∀ q ∈ R, ¬ (q.1 = a ∧ q.2.1 = j)) {r : Option Nat} (hr : r = some (x + c)) (e : M1 = zsR M b j r) : gM x k ((a, j, c) :: R) M0 M1 := by
  subst e
  subst hb
  subst hr
  obtain ⟨a1, a2, a3, a4, a5, a6⟩ := h
  refine ⟨a1, a2, fun q hq => ?_, a4, a5, fun b hb => ?_⟩
  · rcases List.mem_cons.mp hq with e | e
    · rw [e]
      exact ⟨ha, by rw [zR_sR, if_pos ⟨rfl, rfl⟩]⟩
    · have := a3 q e
      refine ⟨this.1, ?_⟩
      rw [zR_sR, if_neg (fun z => hn q e ⟨by have := z.1; omega, z.2⟩)]
      exact this.2
  · obtain ⟨b1, b2, b3, b4⟩ := a6 b hb
    exact ⟨b1, b2, b3, fun j => by rw [zR_sR, if_neg (fun z => by have := z.1; omega)]; exact b4 j⟩
end GM
theorem gM_multi {x : Nat} {R : List (Nat × Int × Nat)} {M0 M M1 : zM} (h : gM x 12 R M0 M) (hn : ∀ q ∈ R, q.1 ≠ 12) (e : M1 = zmulti M) : gM x 17 ((12, 3, 16) :: (12, 2, 15) :: (12, 1, 14) :: (12, 0, 13) :: R) M0 M1 := by
  have z := h.1
  have h1 := gM_new (M1 := znew M 13 4) h rfl (by decide) (by decide) rfl
  have h2 := gM_new (M1 := znew (znew M 13 4) 9 400) h1 rfl (by decide) (by decide) rfl
  have h3 := gM_new (M1 := znew (znew (znew M 13 4) 9 400) 9 400) h2 rfl (by decide) (by decide) rfl
  have h4 := gM_new (M1 := znew (znew (znew (znew M 13 4) 9 400) 9 400) 9 400) h3 rfl (by decide) (by decide) rfl
  have h5 := gM_new (M1 := znew (znew (znew (znew (znew M 13 4) 9 400) 9 400) 9 400) 9 400) h4 rfl (by decide) (by decide) rfl
  have r1 := gM_ref (a := 12) (c := 13) (j := 0) h5 (by decide) (b := zsz M) z (fun q hq z => hn q hq z.1) (r := some (zsz M + 1)) (by rw [z]) rfl
  have r2 := gM_ref (a := 12) (c := 14) (j := 1) r1 (by decide) (b := zsz M) z (fun q hq z => by
    rcases List.mem_cons.mp hq with e | e
    · rw [e] at z; exact absurd z.2 (by decide)
    · exact hn q e z.1) (r := some (zsz M + 2)) (by rw [z]) rfl
  have r3 := gM_ref (a := 12) (c := 15) (j := 2) r2 (by decide) (b := zsz M) z (fun q hq z => by
    rcases List.mem_cons.mp hq with e | e
    · rw [e] at z; exact absurd z.2 (by decide)
    · rcases List.mem_cons.mp e with e | e
      · rw [e] at z; exact absurd z.2 (by decide)
      · exact hn q e z.1) (r := some (zsz M + 3)) (by rw [z]) rfl
  have r4 := gM_ref (a := 12) (c := 16) (j := 3) r3 (by decide) (b := zsz M) z (fun q hq z => by
    rcases List.mem_cons.mp hq with e | e
    · rw [e] at z; exact absurd z.2 (by decide)
    · rcases List.mem_cons.mp e with e | e
      · rw [e] at z; exact absurd z.2 (by decide)
      · rcases List.mem_cons.mp e with e | e
        · rw [e] at z; exact absurd z.2 (by decide)
        · exact hn q e z.1) (r := some (zsz M + 4)) (by rw [z]) rfl
  rw [e]
  exact r4
section C20
variable {E : zE} {d x : Nat} {R : List (Nat × Int × Nat)} {M0 M : zM}
theorem k_init1 (h : gM x 2 R M0 M) (hn : ∀ q ∈ R, q.1 ≠ 1) : zCv E mX1_init (d + 1) 3 55 [vR (some (x + 1))] M (fun M' => gM x 5 ((1, 2, 4) :: (1, 1, 3) :: (1, 0, 2) :: R) M0 M') := by
  refine sX1_init _ (fun X hr => vX1_init_0 hr _ ?_)
  intro M1 e1
  have h1 := gM_new h rfl (by decide) (by decide) e1
  refine ⟨gM_K h1 (by decide), ?_⟩
  intro M2 e2
  have h2 := gM_ref (a := 1) (c := 2) h1 (by decide) rfl (fun q hq z => hn q hq z.1) (by rw [h.1]) e2
  intro M3 e3
  have h3 := gM_new h2 rfl (by decide) (by decide) e3
  refine ⟨gM_K h3 (by decide), ?_⟩
  intro M4 e4
  have h4 := gM_ref (a := 1) (c := 3) h3 (by decide) rfl (fun q hq z => by
    rcases List.mem_cons.mp hq with e | e
    · rw [e] at z; exact absurd z.2 (by decide)
    · exact hn q e z.1) (by rw [h2.1]) e4
  intro M5 e5
  have h5 := gM_new h4 rfl (by decide) (by decide) e5
  refine ⟨gM_K h5 (by decide), ?_⟩
  intro M6 e6
  exact gM_ref (a := 1) (c := 4) h5 (by decide) rfl (fun q hq z => by
    rcases List.mem_cons.mp hq with e | e
    · rw [e] at z; exact absurd z.2 (by decide)
    · rcases List.mem_cons.mp e with e | e
      · rw [e] at z; exact absurd z.2 (by decide)
      · exact hn q e z.1) (by rw [h4.1]) e6
theorem k_init2 (h : gM x 6 R M0 M) (hn : ∀ q ∈ R, q.1 ≠ 5) : zCv E mX2_init (d + 1) 4 104 [vR (some (x + 5))] M (fun M' => gM x 10 ((5, 3, 9) :: (5, 2, 8) :: (5, 1, 7) :: (5, 0, 6) :: R) M0 M') := by
  refine sX2_init _ (fun X hr => vX2_init_0 hr _ ?_)
  intro M1 e1
  have h1 := gM_new h rfl (by decide) (by decide) e1
  refine ⟨gM_K h1 (by decide), ?_⟩
  intro M2 e2
  have h2 := gM_ref (a := 5) (c := 6) h1 (by decide) rfl (fun q hq z => hn q hq z.1) (by rw [h.1]) e2
  intro M3 e3
  have h3 := gM_new h2 rfl (by decide) (by decide) e3
  refine ⟨gM_K h3 (by decide), ?_⟩
  intro M4 e4
  have h4 := gM_ref (a := 5) (c := 7) h3 (by decide) rfl (fun q hq z => by
    rcases List.mem_cons.mp hq with e | e
    · rw [e] at z; exact absurd z.2 (by decide)
    · exact hn q e z.1) (by rw [h2.1]) e4
  intro M5 e5
  have h5 := gM_new h4 rfl (by decide) (by decide) e5
  refine ⟨gM_K h5 (by decide), ?_⟩
  intro M6 e6
  have h6 := gM_ref (a := 5) (c := 8) h5 (by decide) rfl (fun q hq z => by
    rcases List.mem_cons.mp hq with e | e
    · rw [e] at z; exact absurd z.2 (by decide)
    · rcases List.mem_cons.mp e with e | e
      · rw [e] at z; exact absurd z.2 (by decide)
      · exact hn q e z.1) (by rw [h4.1]) e6
  intro M7 e7
  have h7 := gM_new h6 rfl (by decide) (by decide) e7
  refine ⟨gM_K h7 (by decide), ?_⟩
  intro M8 e8
  exact gM_ref (a := 5) (c := 9) h7 (by decide) rfl (fun q hq z => by
    rcases List.mem_cons.mp hq with e | e
    · rw [e] at z; exact absurd z.2 (by decide)
    · rcases List.mem_cons.mp e with e | e
      · rw [e] at z; exact absurd z.2 (by decide)
      · rcases List.mem_cons.mp e with e | e
        · rw [e] at z; exact absurd z.2 (by decide)
        · exact hn q e z.1) (by rw [h6.1]) e8
theorem k_init0 (h : gM x 11 R M0 M) (hn : ∀ q ∈ R, q.1 < 10) : zCv E mX0_init (d + 1) 6 2004 [vR (some (x + 10))] M (fun M' => gM x 17 ((10, 1, 12) :: (12, 3, 16) :: (12, 2, 15) :: (12, 1, 14) :: (12, 0, 13) :: (10, 0, 11) :: R) M0 M') := by
  refine sX0_init _ (fun X hr => vX0_init_0 hr _ ?_)
  intro M1 e1
  have h1 := gM_new h rfl (by decide) (by decide) e1
  refine ⟨gM_K h1 (by decide), ?_⟩
  intro M2 e2
  have h2 := gM_ref (a := 10) (c := 11) h1 (by decide) rfl (fun q hq z => by have := hn q hq; omega) (by rw [h.1]) e2
  intro M3 e3
  have h3 := gM_multi h2 (fun q hq => by
    rcases List.mem_cons.mp hq with e | e
    · rw [e]; decide
    · have := hn q e; omega) e3
  refine ⟨gM_K h3 (by decide), ?_⟩
  intro M4 e4
  exact gM_ref (a := 10) (c := 12) h3 (by decide) rfl (fun q hq z => by
    rcases List.mem_cons.mp hq with e | e
    · rw [e] at z; exact absurd z.1 (by decide)
    · rcases List.mem_cons.mp e with e | e
      · rw [e] at z; exact absurd z.1 (by decide)
      · rcases List.mem_cons.mp e with e | e
        · rw [e] at z; exact absurd z.1 (by decide)
        · rcases List.mem_cons.mp e with e | e
          · rw [e] at z; exact absurd z.1 (by decide)
          · rcases List.mem_cons.mp e with e | e
            · rw [e] at z; exact absurd z.2 (by decide)
            · have := hn q e; omega) (by rw [h2.1]) e4
theorem k_init4 (h : gM x 18 R M0 M) (hn : ∀ q ∈ R, q.1 ≠ 17) : zCv E mX4_init (d + 1) 2 8 [vR (some (x + 17)), vR (some (x + 1)), vR (some (x + 5)), vR (some (x + 10))] M (fun M' => gM x 20 ((17, 4, 10) :: (17, 3, 5) :: (17, 2, 1) :: (17, 1, 19) :: (17, 0, 18) :: R) M0 M') := by
  refine sX4_init _ _ _ _ (fun X hr => vX4_init_0 hr _ _ _ _ ?_)
  intro A ea
  have kA : zK A (zsz M) = (9, 4) := by rw [ea, zK_new, if_pos rfl]
  refine ⟨by rw [kA], by omega, by rw [kA]; decide, ?_⟩
  intro B0 eb0
  have k0 : zK B0 (zsz M) = (9, 4) := by rw [eb0]; exact kA
  refine ⟨by rw [k0], by omega, by rw [k0]; decide, ?_⟩
  intro B1 eb1
  have k1 : zK B1 (zsz M) = (9, 4) := by rw [eb1]; exact k0
  refine ⟨by rw [k1], by omega, by rw [k1]; decide, ?_⟩
  intro B2 eb2
  have k2 : zK B2 (zsz M) = (9, 4) := by rw [eb2]; exact k1
  refine ⟨by rw [k2], by omega, by rw [k2]; decide, ?_⟩
  intro B3 eb3
  have h1 := gM_four (v := 4) h rfl (fun i => rfl) (M1 := B3) (by rw [eb3, eb2, eb1, eb0, ea])
  refine ⟨gM_K h1 (by decide), ?_⟩
  intro C1 ec1
  have h2 := gM_ref (a := 17) (c := 18) h1 (by decide) rfl (fun q hq z => hn q hq z.1) (by rw [h.1]) ec1
  intro A' ea'
  have kA' : zK A' (zsz C1) = (9, 4) := by rw [ea', zK_new, if_pos rfl]
  refine ⟨by rw [kA'], by omega, by rw [kA']; decide, ?_⟩
  intro D0 ed0
  have j0 : zK D0 (zsz C1) = (9, 4) := by rw [ed0]; exact kA'
  refine ⟨by rw [j0], by omega, by rw [j0]; decide, ?_⟩
  intro D1 ed1
  have j1 : zK D1 (zsz C1) = (9, 4) := by rw [ed1]; exact j0
  refine ⟨by rw [j1], by omega, by rw [j1]; decide, ?_⟩
  intro D2 ed2
  have j2 : zK D2 (zsz C1) = (9, 4) := by rw [ed2]; exact j1
  refine ⟨by rw [j2], by omega, by rw [j2]; decide, ?_⟩
  intro D3 ed3
  have h3 := gM_four (v := 1) h2 rfl (fun i => rfl) (M1 := D3) (by rw [ed3, ed2, ed1, ed0, ea'])
  refine ⟨gM_K h3 (by decide), ?_⟩
  intro C2 ec2
  have h4 := gM_ref (a := 17) (c := 19) h3 (by decide) rfl (fun q hq z => by
    rcases List.mem_cons.mp hq with e | e
    · rw [e] at z; exact absurd z.2 (by decide)
    · exact hn q e z.1) (by rw [h2.1]) ec2
  refine ⟨gM_K h4 (by decide), ?_⟩
  intro C3 ec3
  have h5 := gM_ref (a := 17) (c := 1) h4 (by decide) rfl (fun q hq z => by
    rcases List.mem_cons.mp hq with e | e
    · rw [e] at z; exact absurd z.2 (by decide)
    · rcases List.mem_cons.mp e with e | e
      · rw [e] at z; exact absurd z.2 (by decide)
      · exact hn q e z.1) rfl ec3
  refine ⟨gM_K h5 (by decide), ?_⟩
  intro C4 ec4
  have h6 := gM_ref (a := 17) (c := 5) h5 (by decide) rfl (fun q hq z => by
    rcases List.mem_cons.mp hq with e | e
    · rw [e] at z; exact absurd z.2 (by decide)
    · rcases List.mem_cons.mp e with e | e
      · rw [e] at z; exact absurd z.2 (by decide)
      · rcases List.mem_cons.mp e with e | e
        · rw [e] at z; exact absurd z.2 (by decide)
        · exact hn q e z.1) rfl ec4
  refine ⟨gM_K h6 (by decide), ?_⟩
  intro C5 ec5
  exact gM_ref (a := 17) (c := 10) h6 (by decide) rfl (fun q hq z => by
    rcases List.mem_cons.mp hq with e | e
    · rw [e] at z; exact absurd z.2 (by decide)
    · rcases List.mem_cons.mp e with e | e
      · rw [e] at z; exact absurd z.2 (by decide)
      · rcases List.mem_cons.mp e with e | e
        · rw [e] at z; exact absurd z.2 (by decide)
        · rcases List.mem_cons.mp e with e | e
          · rw [e] at z; exact absurd z.2 (by decide)
          · exact hn q e z.1) rfl ec5
theorem k_init3 (h : gM x 21 R M0 M) (hn : ∀ q ∈ R, q.1 ≠ 20) : zCv E mX3_init (d + 1) 1 6 [vR (some (x + 20)), vR (some (x + 5)), vR (some (x + 10)), vR (some (x + 17))] M (fun M' => gM x 22 ((20, 3, 17) :: (20, 2, 10) :: (20, 1, 5) :: (20, 0, 21) :: R) M0 M') := by
  refine sX3_init _ _ _ _ (fun X hr => vX3_init_0 hr _ _ _ _ ?_)
  intro M1 e1
  have h1 := gM_new h rfl (by decide) (by decide) e1
  refine ⟨gM_K h1 (by decide), ?_⟩
  intro M2 e2
  have h2 := gM_ref (a := 20) (c := 21) h1 (by decide) rfl (fun q hq z => hn q hq z.1) (by rw [h.1]) e2
  refine ⟨gM_K h2 (by decide), ?_⟩
  intro M3 e3
  have h3 := gM_ref (a := 20) (c := 5) h2 (by decide) rfl (fun q hq z => by
    rcases List.mem_cons.mp hq with e | e
    · rw [e] at z; exact absurd z.2 (by decide)
    · exact hn q e z.1) rfl e3
  refine ⟨gM_K h3 (by decide), ?_⟩
  intro M4 e4
  have h4 := gM_ref (a := 20) (c := 10) h3 (by decide) rfl (fun q hq z => by
    rcases List.mem_cons.mp hq with e | e
    · rw [e] at z; exact absurd z.2 (by decide)
    · rcases List.mem_cons.mp e with e | e
      · rw [e] at z; exact absurd z.2 (by decide)
      · exact hn q e z.1) rfl e4
  refine ⟨gM_K h4 (by decide), ?_⟩
  intro M5 e5
  exact gM_ref (a := 20) (c := 17) h4 (by decide) rfl (fun q hq z => by
    rcases List.mem_cons.mp hq with e | e
    · rw [e] at z; exact absurd z.2 (by decide)
    · rcases List.mem_cons.mp e with e | e
      · rw [e] at z; exact absurd z.2 (by decide)
      · rcases List.mem_cons.mp e with e | e
        · rw [e] at z; exact absurd z.2 (by decide)
        · exact hn q e z.1) rfl e5
def gR : List (Nat × Int × Nat) := [(0, 4, 20), (20, 3, 17), (20, 2, 10), (20, 1, 5), (20, 0, 21), (0, 3, 17), (17, 4, 10), (17, 3, 5), (17, 2, 1), (17, 1, 19), (17, 0, 18), (0, 2, 10), (10, 1, 12), (12, 3, 16), (12, 2, 15), (12, 1, 14), (12, 0, 13), (10, 0, 11), (0, 1, 5), (5, 3, 9), (5, 2, 8), (5, 1, 7), (5, 0, 6), (0, 0, 1), (1, 2, 4), (1, 1, 3), (1, 0, 2)]
theorem k_init (h : gM x 1 [] M0 M) : zCv E mX6_init (d + 2) 21 2201 [vR (some x)] M (fun M' => gM x 22 gR M0 M') := by
  refine sX6_init _ (fun X hr => vX6_init_0 hr _ ?_)
  intro M1 e1
  have h1 := gM_new h rfl (by decide) (by decide) e1
  rw [h.1]
  refine ⟨_, k_init1 h1 (by decide), ?_⟩
  intro M2 h2
  refine ⟨gM_K (o := 0) h2 (by decide), ?_⟩
  intro M3 e3
  have h3 := gM_ref (a := 0) (c := 1) h2 (by decide) rfl (by decide) rfl e3
  intro M4 e4
  have h4 := gM_new h3 rfl (by decide) (by decide) e4
  rw [h3.1]
  refine ⟨_, k_init2 h4 (by decide), ?_⟩
  intro M5 h5
  refine ⟨gM_K (o := 0) h5 (by decide), ?_⟩
  intro M6 e6
  have h6 := gM_ref (a := 0) (c := 5) h5 (by decide) rfl (by decide) rfl e6
  intro M7 e7
  have h7 := gM_new h6 rfl (by decide) (by decide) e7
  rw [h6.1]
  refine ⟨_, k_init0 h7 (by decide), ?_⟩
  intro M8 h8
  refine ⟨gM_K (o := 0) h8 (by decide), ?_⟩
  intro M9 e9
  have h9 := gM_ref (a := 0) (c := 10) h8 (by decide) rfl (by decide) rfl e9
  intro M10 e10
  have h10 := gM_new h9 rfl (by decide) (by decide) e10
  have k10 : zK M10 x = (7, 5) := gM_K (o := 0) h10 (by decide)
  have r0 : zR M10 x 0 = some (x + 1) := (h10.2.2.1 (0, 0, 1) (by decide)).2
  have r1 : zR M10 x 1 = some (x + 5) := (h10.2.2.1 (0, 1, 5) (by decide)).2
  have r2 : zR M10 x 2 = some (x + 10) := (h10.2.2.1 (0, 2, 10) (by decide)).2
  rw [h9.1]
  refine ⟨k10, k10, k10, _, r0, _, r1, _, r2, _, k_init4 h10 (by decide), ?_⟩
  intro M11 h11
  refine ⟨gM_K (o := 0) h11 (by decide), ?_⟩
  intro M12 e12
  have h12 := gM_ref (a := 0) (c := 17) h11 (by decide) rfl (by decide) rfl e12
  intro M13 e13
  have h13 := gM_new h12 rfl (by decide) (by decide) e13
  have k13 : zK M13 x = (7, 5) := gM_K (o := 0) h13 (by decide)
  have s1 : zR M13 x 1 = some (x + 5) := (h13.2.2.1 (0, 1, 5) (by decide)).2
  have s2 : zR M13 x 2 = some (x + 10) := (h13.2.2.1 (0, 2, 10) (by decide)).2
  have s3 : zR M13 x 3 = some (x + 17) := (h13.2.2.1 (0, 3, 17) (by decide)).2
  rw [h12.1]
  refine ⟨k13, k13, k13, _, s1, _, s2, _, s3, _, k_init3 h13 (by decide), ?_⟩
  intro M14 h14
  refine ⟨gM_K (o := 0) h14 (by decide), ?_⟩
  intro M15 e15
  exact gM_ref (a := 0) (c := 20) h14 (by decide) rfl (by decide) rfl e15
end C20
/-! the state at the start -/
theorem yZ8 (i : Int) : yZ0 8 i = 0 := rfl
theorem yZ_nw (w : Int) : ¬ yWk yZ0 w := fun z => by
  have a := z.1
  have b := z.2
  rw [yZ8] at b
  omega
theorem yJ_0 : yJ 0 yZ0 := by
  refine ⟨⟨by omega, by decide, by decide, by decide, by decide, fun s s0 s1 => ?_, fun i => Or.inl rfl, fun t => ?_, fun g => ?_, fun i => ⟨Int.le_refl 0, by show (0 : Int) ≤ 7; omega⟩, fun w a b => absurd ⟨a, b⟩ (yZ_nw w), fun i => Or.inl rfl, fun i => Or.inl rfl⟩, fun w hw => absurd hw (yZ_nw w), ⟨fun _ _ _ _ _ _ => rfl, fun _ _ _ _ _ _ => rfl⟩, ⟨fun w k _ _ _ _ z => ?_, fun _ _ _ => rfl⟩⟩
  · have s1 : s < 0 := s1
    omega
  · show 0 ≤ (if 0 ≤ t ∧ t < 4 then (4 : Int) else 0) ∧ (if 0 ≤ t ∧ t < 4 then (4 : Int) else 0) ≤ 99
    split <;> omega
  · show 0 ≤ (if 0 ≤ g ∧ g < 4 then (1 : Int) else 0) ∧ (if 0 ≤ g ∧ g < 4 then (1 : Int) else 0) ≤ 9
    split <;> omega
  · rcases z with z | z <;> exact absurd rfl z
theorem kRp_0 : kRp gV (fun _ _ => 0) yZ0 := by
  refine ⟨⟨rfl, rfl, rfl, rfl⟩, ⟨fun _ => rfl, fun _ => rfl, fun _ => rfl⟩, fun i _ _ => ⟨⟨Int.le_refl 0, by show (0 : Int) < 1048576; omega⟩, fun j _ _ => ?_⟩, fun h i _ _ _ _ => ⟨?_, fun j _ _ => ?_⟩, fun k hk => absurd hk (yZ_nw k), fun k hk => absurd hk (yZ_nw k), fun k hk => absurd hk (yZ_nw k), fun k hk => absurd hk (yZ_nw k), fun k hk => absurd hk (yZ_nw k), ⟨fun k hk => absurd hk (yZ_nw k), rfl, ?_⟩, ⟨fun g _ _ => zBs_0 (fun m _ _ z => yZ_nw m z.1), fun s _ _ => zBs_0 (fun m _ _ z => yZ_nw m z.1)⟩, ⟨fun s _ _ => zBs_0 (fun m _ _ z => yZ_nw m z.1), fun t s t0 t1 _ _ => ?_⟩⟩
  · have e : gV 3 i = 0 := rfl
    rw [e, show (0 : Int).toNat = 0 from rfl, Nat.zero_testBit]
    exact ⟨fun z => (by cases z), fun z => absurd rfl z⟩
  · have e : gV 4 (h * 5 + i) = 0 := rfl
    rw [e]
    omega
  · have e : gV 4 (h * 5 + i) = 0 := rfl
    have e2 : yZ0 7 (5 * i + j) = 0 := rfl
    rw [e, zsb, e2, show (0 : Int).toNat = 0 from rfl, Nat.zero_testBit, Nat.zero_testBit]
  · have e : wayR yZ0 = 0 := rfl
    rw [e]
    omega
  · have e : gV (13 + t.toNat) s = 0 := by
      unfold gV
      rw [if_neg (by omega), if_neg (by omega)]
    rw [e]
    rfl
theorem kR_0 {x : Nat} {M0 M : zM} (h : gM x 22 gR M0 M) : kR x (fun _ => 0) M gV (fun _ _ => 0) yZ0 := by
  have sub : ∀ q ∈ krefs, q ∈ gR := by decide
  refine ⟨⟨h.2.1, fun q hq => (h.2.2.1 q (sub q hq)).2, fun k k0 k1 => ?_, fun j k j0 j1 => ?_⟩, ⟨fun o i ho => h.2.2.2.1 o ho i, fun o i ho => h.2.2.2.2.1 o ho i, fun f k hf k0 k1 => ?_, fun f k hf k0 k1 => ?_⟩, kRp_0⟩
  · rw [yZ8] at k1; omega
  · rw [yZ8] at j1; omega
  · rw [yZ8] at k1; omega
  · rw [yZ8] at k1; omega
theorem m_0 {a : Nat} {M0 M : zM} (h : iM a 21 M0 M) : mSh a M ∧ mCo a M yZ0 := by
  obtain ⟨h1, h2, h3, h4, h5⟩ := h
  refine ⟨⟨h2, fun f hf hm => ?_⟩, fun f i hf => ?_⟩
  · have := (moff_pos f hf hm).2
    have := h4 f hf hm this
    exact ⟨this.1, this.2.1⟩
  · unfold mI
    by_cases hm : misc f = true
    · rw [if_pos hm, h3]
      have key : ∀ f : Nat, f < 19 → misc f = true → f ≠ 4 ∧ f ≠ 5 := by decide
      have := key f hf hm
      unfold yZ0
      rw [if_neg this.1, if_neg this.2]
    · rw [if_neg hm]
      have hm : misc f = false := by simpa using hm
      exact (h4 f (by omega) hm (moff_pos f (by omega) hm).2).2.2 i
