/-! ===== the class: work ===== -/
def kO (x : Nat) (M0 M : zM) (Y : yS) : Prop := ∃ wa V L, kR x wa M V L Y ∧ zFr (kAd x) M0 M
theorem kT_O {x : Nat} {wa : Int → Nat} {M0 M : zM} {Y : yS} (h : kT x wa M0 M Y) : kO x M0 M Y := by
  obtain ⟨V, L, h1, h2⟩ := h
  exact ⟨wa, V, L, ⟨h1.1, h1.2.1, h2⟩, h1.2.2.1⟩
theorem kSh_fr {x : Nat} {wa : Int → Nat} {n : Int} {M M' : zM} {A : Nat → Prop} (h : kSh x wa n M) (hz : x + 22 ≤ zsz M) (f : zFr A M M') (hA : ∀ b, ((x ≤ b ∧ b < x + 22) ∨ x + 44 ≤ b) → b < zsz M → ¬ A b) : kSh x wa n M' := by
  have key : ∀ q ∈ krefs, q.1 < 22 := by decide
  refine ⟨fun o ho => ?_, fun q hq => ?_, fun k k0 k1 => ?_, h.2.2.2⟩
  · rw [(f.2 (x + o) (by omega) (hA _ (by omega) (by omega))).1]; exact h.1 o ho
  · have := key q hq
    rw [(f.2 (x + q.1) (by omega) (hA _ (by omega) (by omega))).2.2.2]; exact h.2.1 q hq
  · obtain ⟨a1, a2, a3, a4⟩ := h.2.2.1 k k0 k1
    have := f.1
    refine ⟨?_, ?_, a3, by omega⟩
    · rw [(f.2 (x + 6) (by omega) (hA _ (by omega) (by omega))).2.2.2]; exact a1
    · rw [(f.2 (wa k) a4 (hA _ (by omega) a4)).1]; exact a2
theorem kCo_fr {x : Nat} {wa : Int → Nat} {n : Int} {M M' : zM} {V : yS} {L : yL} {A : Nat → Prop} (h : kSh x wa n M) (hc : kCo x wa n M V L) (hz : x + 22 ≤ zsz M) (f : zFr A M M') (hA : ∀ b, ((x ≤ b ∧ b < x + 22) ∨ x + 44 ≤ b) → b < zsz M → ¬ A b) : kCo x wa n M' V L := by
  refine ⟨fun o i ho => ?_, fun o i ho => ?_, fun g k hg k0 k1 => ?_, fun g k hg k0 k1 => ?_⟩
  · rw [(f.2 (x + o) (by omega) (hA _ (by omega) (by omega))).2.1]; exact hc.1 o i ho
  · rw [(f.2 (x + o) (by omega) (hA _ (by omega) (by omega))).2.2.1]; exact hc.2.1 o i ho
  · obtain ⟨a1, a2, a3, a4⟩ := h.2.2.1 k k0 k1
    rw [(f.2 (wa k) a4 (hA _ (by omega) a4)).2.1]; exact hc.2.2.1 g k hg k0 k1
  · obtain ⟨a1, a2, a3, a4⟩ := h.2.2.1 k k0 k1
    rw [(f.2 (wa k) a4 (hA _ (by omega) a4)).2.2.1]; exact hc.2.2.2 g k hg k0 k1
def wNew (M : zM) (a : Nat) (n w g : Int) : zM := zsI (zsI (zsI (zsI (zsI (zsI (zsL (zsI (zsI M a 8 (-1)) a 0 n) a 1 (zbit n)) a 6 g) a 4 (Int.tmod w 100)) a 5 (Int.tmod (Int.tdiv w 100) 10)) a 2 (Int.tmod (Int.tdiv w 1000) 10)) a 3 (Int.tmod (Int.tdiv w 10000) 10)) a 7 (Int.tdiv w 100000)
def NI (n w g f : Int) : Int := if f = 7 then Int.tdiv w 100000 else if f = 3 then Int.tmod (Int.tdiv w 10000) 10 else if f = 2 then Int.tmod (Int.tdiv w 1000) 10 else if f = 5 then Int.tmod (Int.tdiv w 100) 10 else if f = 4 then Int.tmod w 100 else if f = 6 then g else if f = 0 then n else if f = 8 then -1 else 0
theorem wNew_I {M : zM} {a : Nat} {n w g : Int} (hz : ∀ i, zI M a i = 0) (f : Int) : zI (wNew M a n w g) a f = NI n w g f := by
  unfold wNew NI
  simp only [zI_sI, zI_sL, true_and, hz]
theorem wNew_L {M : zM} {a : Nat} {n w g : Int} (hz : ∀ i, zL M a i = 0) (f : Int) : zL (wNew M a n w g) a f = if f = 1 then zbit n else 0 := by
  unfold wNew
  simp only [zL_sI, zL_sL, true_and, hz]
theorem wNew_fr {M : zM} {t n2 : Nat} {n w g : Int} : zFr (fun _ => False) M (wNew (znew M t n2) (zsz M) n w g) := by
  refine ⟨by show zsz M ≤ zsz M + 1; omega, fun b hb _ => ?_⟩
  have e : b ≠ zsz M := Nat.ne_of_lt hb
  unfold wNew
  refine ⟨?_, fun j => ?_, fun j => ?_, fun j => ?_⟩
  · simp only [zK_sI, zK_sL, zK_new, e, if_false]
  · simp only [zI_sI, zI_sL, zI_new, e, false_and, if_false]
  · simp only [zL_sI, zL_sL, zL_new, e, false_and, if_false]
  · simp only [zR_sI, zR_sL, zR_new, e, if_false]
theorem k_wInit {E : zE} {d : Nat} {M : zM} {a : Nat} (hK : zK M a = (6, 16)) (n w g : Int) : zCv E mX5_init (d + 1) 0 0 [vR (some a), vI n, vI w, vI g] M (fun M' => M' = wNew M a n w g) := by
  refine sX5_init _ _ _ _ (fun X hr => vX5_init_0 hr _ _ _ _ ?_)
  refine ⟨hK, ?_⟩
  rintro _ rfl
  refine ⟨hK, ?_⟩
  rintro _ rfl
  refine ⟨hK, ?_⟩
  rintro _ rfl
  refine ⟨hK, ?_⟩
  rintro _ rfl
  refine ⟨by omega, hK, ?_⟩
  rintro _ rfl
  refine ⟨by omega, by omega, hK, ?_⟩
  rintro _ rfl
  refine ⟨by omega, by omega, hK, ?_⟩
  rintro _ rfl
  refine ⟨by omega, by omega, hK, ?_⟩
  rintro _ rfl
  refine ⟨by omega, hK, ?_⟩
  rintro _ rfl
  rfl
def wOkC (Y : yS) (w : Int) : Prop := (1 ≤ w.tdiv 100000 ∧ w.tdiv 100000 ≤ 40) ∧ 1 ≤ (w.tdiv 10000).tmod 10 ∧ (0 ≤ (w.tdiv 1000).tmod 10 ∧ (w.tdiv 1000).tmod 10 ≤ 3) ∧ (0 ≤ (w.tdiv 100).tmod 10 ∧ (w.tdiv 100).tmod 10 ≤ 4) ∧ (0 ≤ w.tmod 100 ∧ w.tmod 100 < Y 1 0)
def wV (V : yS) (k n w g : Int) : yS := fun o i => if 22 ≤ o ∧ i = k then NI n w g ((o - 22 : Nat) : Int) else V o i
def wL (L : yL) (k : Int) : yL := fun o i => if 22 ≤ o ∧ i = k then (if o = 23 then zbit k else 0) else L o i
section C17
variable {E : zE} {d x : Nat} {wa : Int → Nat} {M : zM} {V Y : yS} {L : yL} {c : Int}
theorem k_canBe (hs : kSh x wa (Y 8 0) M) (hc : kCo x wa (Y 8 0) M V L) (e13 : V 1 3 = Y 1 0) {a : Nat} {n w g : Int} (hK : zK M a = (6, 16)) (hI : ∀ f, zI M a f = NI n w g f) : zCi E mX6_canBe (d + 2) 0 0 [vR (some x), vR (some a)] M (fun r M' => r = p2i (wOkC Y w) ∧ M' = M) := by
  refine sX6_canBe _ _ (fun X hr => vX6_canBe_0 hr _ _ ?_)
  have n7 : NI n w g 7 = w.tdiv 100000 := rfl
  have n3 : NI n w g 3 = (w.tdiv 10000).tmod 10 := rfl
  have n2 : NI n w g 2 = (w.tdiv 1000).tmod 10 := rfl
  have n5 : NI n w g 5 = (w.tdiv 100).tmod 10 := rfl
  have n4 : NI n w g 4 = w.tmod 100 := rfl
  simp only [hK, hI, n7, n3, n2, n5, n4, true_and]
  refine ⟨fun q => ⟨p2i_z0 (fun z => by have := z.1; omega), by trivial⟩, fun q1 => ⟨fun q => ⟨p2i_z0 (fun z => by have := z.1; omega), by trivial⟩, fun q2 => ⟨fun q => ⟨p2i_z0 (fun z => by have := z.2.1; omega), by trivial⟩, fun q3 => zu (k_isTrade _) ⟨fun q => ⟨p2i_z0 (fun z => p2i_0.mp q z.2.2.1), rfl⟩, fun q4 => ?_⟩⟩⟩⟩
  simp only [hK, hI, n7, n3, n2, n5, n4, true_and]
  refine zu (k_isKind _) ⟨fun q => ⟨p2i_z0 (fun z => p2i_0.mp q z.2.2.2.1), rfl⟩, fun q5 => ?_⟩
  simp only [kk0 hs, kk1 hs, kk2 hs, kk3 hs, kk4 hs, kk5 hs, kk6 hs, kk7 hs, kk8 hs, kk9 hs, kk10 hs, kk11 hs, kk12 hs, kk13 hs, kk14 hs, kk15 hs, kk16 hs, kk17 hs, kk18 hs, kk19 hs, kk20 hs, kk21 hs, kr0_0 hs, kr0_1 hs, kr0_2 hs, kr0_3 hs, kr0_4 hs, kr1_0 hs, kr1_1 hs, kr1_2 hs, kr5_0 hs, kr5_1 hs, kr5_2 hs, kr5_3 hs, kr10_0 hs, kr10_1 hs, kr17_0 hs, kr17_1 hs, kr17_2 hs, kr17_3 hs, kr17_4 hs, kr20_0 hs, kr20_1 hs, kr20_2 hs, kr20_3 hs, ki1 hc, ki2 hc, ki3 hc, ki4 hc, ki5 hc, ki7 hc, kl8 hc, kl9 hc, ki10 hc, kl11 hc, ki13 hc, ki14 hc, ki15 hc, ki16 hc, ki17 hc, ki18 hc, ki19 hc, ki20 hc, ki21 hc, Option.some.injEq, exists_eq_left', true_and, hK, hI, n4]
  refine zu (k_hasSpace hs hc e13 _) ⟨fun q => ⟨p2i_z0 (fun z => p2i_0.mp q z.2.2.2.2), rfl⟩, fun q6 => ⟨p2i_z1 ⟨⟨q1, q2⟩, q3, p2i_n0.mp q4, p2i_n0.mp q5, p2i_n0.mp q6⟩, rfl⟩⟩
theorem k_addWork {wa' : Int → Nat} (hs : kSh x wa (Y 8 0) M) (hc : kCo x wa (Y 8 0) M V L) (hR : kRp V L Y) (hj : yJ c Y) {w g : Int} (ok : workOk Y w g) (hwa : ∀ k, k ≠ Y 8 0 → wa' k = wa k) (hK : zK M (wa' (Y 8 0)) = (6, 16)) (hx : x + 44 ≤ wa' (Y 8 0)) (hz : wa' (Y 8 0) < zsz M) (hne : ∀ k, 0 ≤ k → k < Y 8 0 → wa k ≠ wa' (Y 8 0)) (hI : ∀ f, zI M (wa' (Y 8 0)) f = NI (Y 8 0) w g f) (hL : ∀ f, zL M (wa' (Y 8 0)) f = if f = 1 then zbit (Y 8 0) else 0) : zCv E mX2_addWork (d + 4) 0 0 [vR (some (x + 5)), vR (some (wa' (Y 8 0)))] M (fun M' => ∃ V1 L1, kSh x wa' (Y 8 0 + 1) M' ∧ kCo x wa' (Y 8 0 + 1) M' V1 L1 ∧ zFr (kAd x) M M' ∧ zsz M' = zsz M ∧ rS V1 (workY1 Y w g) ∧ rG V1 (workY1 Y w g) ∧ rNr V1 (workY1 Y w g) ∧ rBr V1 (workY1 Y w g) ∧ rW V1 L1 (workY1 Y w g) ∧ rNd L1 (workY1 Y w g) ∧ rUn L1 (workY1 Y w g) ∧ rTl L1 (workY1 Y w g) ∧ rEt V1 (workY1 Y w g) ∧ rTk L1 (workY1 Y w g) ∧ rBd V1 L1 (workY1 Y w g)) := by
  refine sX2_addWork _ _ (fun X hr => vX2_addWork_0 hr _ _ ?_)
  have hi := hj.1
  have h8 := yI_n hi
  have hsp := yI_sp hi
  have hj' := yJ_work1 hj ok
  obtain ⟨q0, q1, q2, q3, q4, q5, q6, q7⟩ := id ok
  have h40 : Y 8 0 < 40 := by omega
  obtain ⟨n9, n10, n11, n12, n13, n14, n15⟩ := workY1_n (Y := Y) w g
  have e54 : V 5 4 = Y 8 0 := rs54 hR
  have m3 : 0 ≤ w.tmod 100 := Int.tmod_nonneg _ q0
  simp only [kk0 hs, kk1 hs, kk2 hs, kk3 hs, kk4 hs, kk5 hs, kk6 hs, kk7 hs, kk8 hs, kk9 hs, kk10 hs, kk11 hs, kk12 hs, kk13 hs, kk14 hs, kk15 hs, kk16 hs, kk17 hs, kk18 hs, kk19 hs, kk20 hs, kk21 hs, kr0_0 hs, kr0_1 hs, kr0_2 hs, kr0_3 hs, kr0_4 hs, kr1_0 hs, kr1_1 hs, kr1_2 hs, kr5_0 hs, kr5_1 hs, kr5_2 hs, kr5_3 hs, kr10_0 hs, kr10_1 hs, kr17_0 hs, kr17_1 hs, kr17_2 hs, kr17_3 hs, kr17_4 hs, kr20_0 hs, kr20_1 hs, kr20_2 hs, kr20_3 hs, ki1 hc, ki2 hc, ki3 hc, ki4 hc, ki5 hc, ki7 hc, kl8 hc, kl9 hc, ki10 hc, kl11 hc, ki13 hc, ki14 hc, ki15 hc, ki16 hc, ki17 hc, ki18 hc, ki19 hc, ki20 hc, ki21 hc, Option.some.injEq, exists_eq_left', true_and, e54, hK]
  refine ⟨h8.1, by omega, ?_⟩
  rintro M1 e1
  -- the row of works is one longer
  have hs1 : kSh x wa' (Y 8 0 + 1) M1 := by
    subst e1
    refine ⟨hs.1, fun q hq => ?_, fun k k0 k1 => ?_, fun j k j0 j1 k0 k1 e => ?_⟩
    · have key : ∀ q ∈ krefs, q.1 ≠ 6 := by decide
      rw [zR_sR, if_neg (fun z => key q hq (by have := z.1; omega))]
      exact hs.2.1 q hq
    · by_cases e : k = Y 8 0
      · rw [e, zR_sR, if_pos ⟨rfl, rfl⟩]
        exact ⟨rfl, hK, hx, hz⟩
      · rw [hwa k e, zR_sR, if_neg (fun z => e z.2)]
        exact hs.2.2.1 k k0 (by omega)
    · by_cases ej : j = Y 8 0
      · by_cases ek : k = Y 8 0
        · rw [ej, ek]
        · rw [ej, hwa k ek] at e
          exact absurd e.symm (hne k k0 (by omega))
      · by_cases ek : k = Y 8 0
        · rw [ek, hwa j ej] at e
          exact absurd e (hne j j0 (by omega))
        · rw [hwa j ej, hwa k ek] at e
          exact hs.2.2.2 j k j0 (by omega) k0 (by omega) e
  have hc1 : kCo x wa' (Y 8 0 + 1) M1 (wV V (Y 8 0) (Y 8 0) w g) (wL L (Y 8 0)) := by
    subst e1
    refine ⟨fun o i ho => ?_, fun o i ho => ?_, fun f k hf k0 k1 => ?_, fun f k hf k0 k1 => ?_⟩
    · unfold wV
      rw [if_neg (by omega)]
      exact hc.1 o i ho
    · unfold wL
      rw [if_neg (by omega)]
      exact hc.2.1 o i ho
    · unfold wV
      by_cases e : k = Y 8 0
      · rw [if_pos ⟨by omega, e⟩, e, show 22 + f - 22 = f by omega]
        exact hI f
      · rw [if_neg (fun z => e z.2), hwa k e]
        exact hc.2.2.1 f k hf k0 (by omega)
    · unfold wL
      by_cases e : k = Y 8 0
      · rw [if_pos ⟨by omega, e⟩, e]
        show zL M (wa' (Y 8 0)) (f : Int) = _
        rw [hL]
        by_cases e2 : f = 1
        · rw [if_pos (by omega), if_pos (by omega)]
        · rw [if_neg (by omega), if_neg (by omega)]
      · rw [if_neg (fun z => e z.2), hwa k e]
        exact hc.2.2.2 f k hf k0 (by omega)
  have f1 : zFr (kAd x) M M1 := by rw [e1]; exact zFr_sR zFr_rf (Or.inl ⟨by omega, by omega⟩)
  have z1 : zsz M1 = zsz M := by rw [e1]; rfl
  have hp1 := kPo_rf hs1 hc1
  have n0 : 0 ≤ Y 8 0 := h8.1
  have n1 : Y 8 0 < Y 8 0 + 1 := by omega
  have v54 : wV V (Y 8 0) (Y 8 0) w g 5 4 = Y 8 0 := e54
  simp only [kk0 hp1.1, kk1 hp1.1, kk2 hp1.1, kk3 hp1.1, kk4 hp1.1, kk5 hp1.1, kk6 hp1.1, kk7 hp1.1, kk8 hp1.1, kk9 hp1.1, kk10 hp1.1, kk11 hp1.1, kk12 hp1.1, kk13 hp1.1, kk14 hp1.1, kk15 hp1.1, kk16 hp1.1, kk17 hp1.1, kk18 hp1.1, kk19 hp1.1, kk20 hp1.1, kk21 hp1.1, kr0_0 hp1.1, kr0_1 hp1.1, kr0_2 hp1.1, kr0_3 hp1.1, kr0_4 hp1.1, kr1_0 hp1.1, kr1_1 hp1.1, kr1_2 hp1.1, kr5_0 hp1.1, kr5_1 hp1.1, kr5_2 hp1.1, kr5_3 hp1.1, kr10_0 hp1.1, kr10_1 hp1.1, kr17_0 hp1.1, kr17_1 hp1.1, kr17_2 hp1.1, kr17_3 hp1.1, kr17_4 hp1.1, kr20_0 hp1.1, kr20_1 hp1.1, kr20_2 hp1.1, kr20_3 hp1.1, ki1 hp1.2.1, ki2 hp1.2.1, ki3 hp1.2.1, ki4 hp1.2.1, ki5 hp1.2.1, ki7 hp1.2.1, kl8 hp1.2.1, kl9 hp1.2.1, ki10 hp1.2.1, kl11 hp1.2.1, ki13 hp1.2.1, ki14 hp1.2.1, ki15 hp1.2.1, ki16 hp1.2.1, ki17 hp1.2.1, ki18 hp1.2.1, ki19 hp1.2.1, ki20 hp1.2.1, ki21 hp1.2.1, Option.some.injEq, exists_eq_left', true_and, v54]
  refine ⟨by unfold zin; omega, ?_⟩
  rintro M2 e2
  have hp2 := kPo_I (o := 5) hp1 e2 rfl (by decide)
  generalize hV2 : yup (wV V (Y 8 0) (Y 8 0) w g) 5 4 (Y 8 0 + 1) = V2 at hp2
  have vo : ∀ o i, (22 ≤ o → i ≠ Y 8 0) → ¬ (o = 5 ∧ i = 4) → V2 o i = V o i := fun o i h1 h2 => by
    rw [← hV2, yup_n _ _ _ _ h2]
    unfold wV
    rw [if_neg (fun z => h1 z.1 z.2)]
  have vn : ∀ o, 22 ≤ o → V2 o (Y 8 0) = NI (Y 8 0) w g ((o - 22 : Nat) : Int) := fun o h1 => by
    rw [← hV2, yup_o (by omega)]
    unfold wV
    rw [if_pos ⟨h1, rfl⟩]
  have v26 : V2 26 (Y 8 0) = w.tmod 100 := vn 26 (by omega)
  have v28 : V2 28 (Y 8 0) = g := vn 28 (by omega)
  have l23 : wL L (Y 8 0) 23 (Y 8 0) = zbit (Y 8 0) := by
    unfold wL
    rw [if_pos ⟨by omega, rfl⟩, if_pos rfl]
  have l9 : wL L (Y 8 0) 9 (w.tmod 100) = L 9 (w.tmod 100) := by
    unfold wL
    rw [if_neg (by omega)]
  simp only [kk0 hp2.1, kk1 hp2.1, kk2 hp2.1, kk3 hp2.1, kk4 hp2.1, kk5 hp2.1, kk6 hp2.1, kk7 hp2.1, kk8 hp2.1, kk9 hp2.1, kk10 hp2.1, kk11 hp2.1, kk12 hp2.1, kk13 hp2.1, kk14 hp2.1, kk15 hp2.1, kk16 hp2.1, kk17 hp2.1, kk18 hp2.1, kk19 hp2.1, kk20 hp2.1, kk21 hp2.1, kr0_0 hp2.1, kr0_1 hp2.1, kr0_2 hp2.1, kr0_3 hp2.1, kr0_4 hp2.1, kr1_0 hp2.1, kr1_1 hp2.1, kr1_2 hp2.1, kr5_0 hp2.1, kr5_1 hp2.1, kr5_2 hp2.1, kr5_3 hp2.1, kr10_0 hp2.1, kr10_1 hp2.1, kr17_0 hp2.1, kr17_1 hp2.1, kr17_2 hp2.1, kr17_3 hp2.1, kr17_4 hp2.1, kr20_0 hp2.1, kr20_1 hp2.1, kr20_2 hp2.1, kr20_3 hp2.1, ki1 hp2.2.1, ki2 hp2.2.1, ki3 hp2.2.1, ki4 hp2.2.1, ki5 hp2.2.1, ki7 hp2.2.1, kl8 hp2.2.1, kl9 hp2.2.1, ki10 hp2.2.1, kl11 hp2.2.1, ki13 hp2.2.1, ki14 hp2.2.1, ki15 hp2.2.1, ki16 hp2.2.1, ki17 hp2.2.1, ki18 hp2.2.1, ki19 hp2.2.1, ki20 hp2.2.1, ki21 hp2.2.1, Option.some.injEq, exists_eq_left', true_and, kwR hp2.1 n0 n1, kwK hp2.1 n0 n1, kwi0 hp2.2.1 n0 n1, kwl1 hp2.2.1 n0 n1, kwi2 hp2.2.1 n0 n1, kwi3 hp2.2.1 n0 n1, kwi4 hp2.2.1 n0 n1, kwi5 hp2.2.1 n0 n1, kwi6 hp2.2.1 n0 n1, kwi7 hp2.2.1 n0 n1, kwi8 hp2.2.1 n0 n1, kwi9 hp2.2.1 n0 n1, kwi10 hp2.2.1 n0 n1, kwi11 hp2.2.1 n0 n1, kwl12 hp2.2.1 n0 n1, kwl13 hp2.2.1 n0 n1, kwl14 hp2.2.1 n0 n1, kwl15 hp2.2.1 n0 n1, v26, l23, l9]
  refine ⟨m3, by omega, m3, by omega, ?_⟩
  rintro M3 e3
  have hp3 := kPo_L (o := 9) hp2 e3 rfl (by decide)
  -- what stands behind the sets, once the goods are marked too
  have fin : ∀ (M4 : zM) (L4 : yL), kPo x wa' (Y 8 0 + 1) M1 M4 V2 L4 → (∀ i, L4 9 i = if i = w.tmod 100 then L 9 i ||| zbit (Y 8 0) else L 9 i) → (∀ i, 0 ≤ i → L4 8 i = if i = g then L 8 i ||| zbit (Y 8 0) else L 8 i) → (∀ o i, o ≠ 8 → o ≠ 9 → L4 o i = wL L (Y 8 0) o i) → ∃ P26 : zM → Prop, zCv E mX2_weigh (d + 3) 0 0 [vR (some (x + 5))] M4 P26 ∧ ∀ M28, P26 M28 → ∃ V1 L1, kSh x wa' (Y 8 0 + 1) M28 ∧ kCo x wa' (Y 8 0 + 1) M28 V1 L1 ∧ zFr (kAd x) M M28 ∧ zsz M28 = zsz M ∧ rS V1 (workY1 Y w g) ∧ rG V1 (workY1 Y w g) ∧ rNr V1 (workY1 Y w g) ∧ rBr V1 (workY1 Y w g) ∧ rW V1 L1 (workY1 Y w g) ∧ rNd L1 (workY1 Y w g) ∧ rUn L1 (workY1 Y w g) ∧ rTl L1 (workY1 Y w g) ∧ rEt V1 (workY1 Y w g) ∧ rTk L1 (workY1 Y w g) ∧ rBd V1 L1 (workY1 Y w g) := by
    intro M4 L4 hp4 hl9 hl8 hlo
    have wk : ∀ m, yWk (workY1 Y w g) m ↔ yWk Y m ∨ m = Y 8 0 := fun m => by
      unfold yWk
      rw [workY1_8]
      omega
    have lo : ∀ o k, o ≠ 8 → o ≠ 9 → k ≠ Y 8 0 → L4 o k = L o k := fun o k a1 a2 a3 => by
      rw [hlo o k a1 a2]
      unfold wL
      rw [if_neg (fun z => a3 z.2)]
    have ln : ∀ o, 23 < o → L4 o (Y 8 0) = 0 := fun o ho => by
      rw [hlo o _ (by omega) (by omega)]
      unfold wL
      rw [if_pos ⟨by omega, rfl⟩, if_neg (by omega)]
    have l11 : ∀ i, L4 11 i = L 11 i := fun i => by
      rw [hlo 11 i (by omega) (by omega)]
      unfold wL
      rw [if_neg (by omega)]
    have ylo : ∀ f k, f ≠ 8 → k ≠ Y 8 0 → workY1 Y w g f k = Y f k := fun f k a1 a2 => workY1_lo a1 a2
    have y17 : ∀ i, workY1 Y w g 17 i = Y 17 i := fun i => workY1_o (by omega)
    have y18 : ∀ i, workY1 Y w g 18 i = Y 18 i := fun i => workY1_o (by omega)
    have far := hj.2.2.2
    have lt40 : ∀ m, yWk Y m ∨ m = Y 8 0 → 0 ≤ m ∧ m < 40 := fun m z => z.elim (fun z => ⟨z.1, yW_lt hi z⟩) (fun z => by omega)
    have hw' : rW V2 L4 (workY1 Y w g) := fun k hk => by
      rcases (wk k).mp hk with hk | hk
      · have hkn : k ≠ Y 8 0 := by have := hk.2; omega
        have h1 := kRp_w hR k hk
        rw [vo 22 k (fun _ => hkn) (by omega), vo 24 k (fun _ => hkn) (by omega), vo 25 k (fun _ => hkn) (by omega), vo 26 k (fun _ => hkn) (by omega), vo 27 k (fun _ => hkn) (by omega), vo 28 k (fun _ => hkn) (by omega), vo 29 k (fun _ => hkn) (by omega), vo 30 k (fun _ => hkn) (by omega), vo 31 k (fun _ => hkn) (by omega), lo 23 k (by omega) (by omega) hkn, ylo 9 k (by omega) hkn, ylo 10 k (by omega) hkn, ylo 11 k (by omega) hkn, ylo 12 k (by omega) hkn, ylo 13 k (by omega) hkn, ylo 14 k (by omega) hkn, ylo 15 k (by omega) hkn, ylo 16 k (by omega) hkn]
        exact h1
      · subst hk
        rw [n9, n10, n11, n12, n13, n14, n15, workY1_o (f := 16) (by omega), far.2 _ (Int.le_refl _) h40, vn 22 (by omega), vn 24 (by omega), vn 25 (by omega), vn 26 (by omega), vn 27 (by omega), vn 28 (by omega), vn 29 (by omega), vn 30 (by omega), vn 31 (by omega), hlo 23 _ (by omega) (by omega), l23]
        exact ⟨rfl, rfl, rfl, rfl, rfl, rfl, rfl, rfl, rfl, rfl⟩
    have hnd : rNd L4 (workY1 Y w g) := fun k hk => by
      have hk := (wk k).mp hk
      by_cases e : k = Y 8 0
      · rw [e, ln 34 (by omega)]
        refine zBs_0 (fun m m0 m1 z => ?_)
        have z2 : Y 17 (40 * Y 8 0 + m) ≠ 0 := by rw [← y17]; exact z.2
        have := (far.1 (Y 8 0) m h8.1 h40 (lt40 m ((wk m).mp z.1)).1 (lt40 m ((wk m).mp z.1)).2 (Or.inl z2)).1.2
        omega
      · have hk : yWk Y k := hk.resolve_right e
        rw [lo 34 k (by omega) (by omega) e]
        refine zBs_eq (kRp_nd hR k hk) (fun m m0 m1 => ?_)
        unfold yNd
        rw [y17, wk]
        exact ⟨fun z => ⟨Or.inl z.1, z.2⟩, fun z => ⟨(far.1 k m hk.1 (yW_lt hi hk) (lt40 m z.1).1 (lt40 m z.1).2 (Or.inl z.2)).2, z.2⟩⟩
    have hun : rUn L4 (workY1 Y w g) := fun k hk => by
      have hk := (wk k).mp hk
      by_cases e : k = Y 8 0
      · rw [e, ln 35 (by omega)]
        refine zBs_0 (fun m m0 m1 z => ?_)
        exact hang_new hj h40 m ((hang_work hj h40 h8.1 h40 m).mp z)
      · have hk : yWk Y k := hk.resolve_right e
        rw [lo 35 k (by omega) (by omega) e]
        exact zBs_eq (kRp_un hR k hk) (fun m m0 m1 => (hang_work hj h40 hk.1 (yW_lt hi hk) m).symm)
    have htl : rTl L4 (workY1 Y w g) := fun k hk => by
      have hk := (wk k).mp hk
      by_cases e : k = Y 8 0
      · rw [e, ln 36 (by omega)]
        refine zBs_0 (fun m m0 m1 z => ?_)
        have z2 : Y 18 (40 * Y 8 0 + m) ≠ 0 := by rw [← y18]; exact z.2
        have := (far.1 (Y 8 0) m h8.1 h40 (lt40 m ((wk m).mp z.1)).1 (lt40 m ((wk m).mp z.1)).2 (Or.inr z2)).1.2
        omega
      · have hk : yWk Y k := hk.resolve_right e
        rw [lo 36 k (by omega) (by omega) e]
        refine zBs_eq (kRp_tl hR k hk) (fun m m0 m1 => ?_)
        rw [y18, wk]
        exact ⟨fun z => ⟨Or.inl z.1, z.2⟩, fun z => ⟨(far.1 k m hk.1 (yW_lt hi hk) (lt40 m z.1).1 (lt40 m z.1).2 (Or.inr z.2)).2, z.2⟩⟩
    have hset : ∀ (f : Nat) (v : Int) (l : Int64) (u : Int), f ≠ 8 → workY1 Y w g f (Y 8 0) = v → zBs l (fun m => yWk Y m ∧ Y f m = u) → zBs (if u = v then l ||| zbit (Y 8 0) else l) (fun m => yWk (workY1 Y w g) m ∧ workY1 Y w g f m = u) := by
      intro f v l u hf hfv hl
      by_cases e : u = v
      · rw [if_pos e]
        refine zBs_eq (zBs_or hl (zBs_bit h8.1 (by omega))) (fun m m0 m1 => ?_)
        rw [wk]
        by_cases em : m = Y 8 0
        · rw [em, hfv, e]
          exact ⟨fun _ => ⟨Or.inr rfl, rfl⟩, fun _ => Or.inr rfl⟩
        · rw [ylo f m hf em]
          exact ⟨fun z => z.elim (fun z => ⟨Or.inl z.1, z.2⟩) (fun z => absurd z em), fun z => Or.inl ⟨z.1.resolve_right em, z.2⟩⟩
      · rw [if_neg e]
        refine zBs_eq hl (fun m m0 m1 => ?_)
        rw [wk]
        by_cases em : m = Y 8 0
        · rw [em, hfv]
          exact ⟨fun z => absurd z.1.2 (by omega), fun z => absurd z.2.symm e⟩
        · rw [ylo f m hf em]
          exact ⟨fun z => ⟨Or.inl z.1, z.2⟩, fun z => ⟨z.1.resolve_right em, z.2⟩⟩
    have htk : rTk L4 (workY1 Y w g) := by
      refine ⟨fun u u0 u1 => ?_, fun u u0 u1 => ?_⟩
      · rw [hl8 u u0]
        exact hset 14 g (L 8 u) u (by omega) n14 ((kRp_tk hR).1 u u0 u1)
      · rw [hl9 u]
        exact hset 12 (w.tmod 100) (L 9 u) u (by omega) n12 ((kRp_tk hR).2 u u0 u1)
    have nin : ∀ s, ¬ yIn (workY1 Y w g) (Y 8 0) s := fun s z => z.1 n15
    have inn : ∀ m s, m ≠ Y 8 0 → (yIn (workY1 Y w g) m s ↔ yIn Y m s) := fun m s hm => by
      unfold yIn yPut yEnd
      rw [ylo 15 m (by omega) hm, ylo 9 m (by omega) hm]
    have hbd : rBd V2 L4 (workY1 Y w g) := by
      refine ⟨fun s s0 s1 => ?_, fun t s t0 t1 s0 s1 => ?_⟩
      · rw [l11]
        refine zBs_eq ((kRp_bd hR).1 s s0 s1) (fun m m0 m1 => ?_)
        rw [wk]
        by_cases em : m = Y 8 0
        · rw [em]
          exact ⟨fun z => absurd z.1.2 (by omega), fun z => absurd z.2 (nin s)⟩
        · rw [inn m s em]
          exact ⟨fun z => ⟨Or.inl z.1, z.2⟩, fun z => ⟨z.1.resolve_right em, z.2⟩⟩
      · rw [vo (13 + t.toNat) s (fun z => by omega) (by omega), (kRp_bd hR).2 t s t0 t1 s0 s1, workY1_8, ysum_s h8.1]
        have e0 : yHd (workY1 Y w g) t s (Y 8 0) = 0 := pif_f (fun z => nin s z.1)
        rw [e0, Int.add_zero]
        refine ysum_congr (fun m m0 m1 => ?_)
        have em : m ≠ Y 8 0 := by omega
        unfold yHd
        rw [ylo 10 m (by omega) em, ylo 11 m (by omega) em]
        exact pif_c ⟨fun z => ⟨(inn m s em).mpr z.1, z.2⟩, fun z => ⟨(inn m s em).mp z.1, z.2⟩⟩
    have v5 : V2 5 4 = Y 8 0 + 1 := by rw [← hV2, yup_s]
    refine ⟨_, k_weigh (Y := workY1 Y w g) hp4.1 hp4.2.1 v5 (fun a ha => (hw' a ha).2.2.2.2.2.2.2.1) (fun a ha => (hw' a ha).2.1) hnd hun hj'.1 hj'.2.1, ?_⟩
    rintro M5 ⟨V5, hp5, hV5, het⟩
    have v : ∀ o, o ≠ 5 → o ≠ 7 → o ≠ 32 → o ≠ 33 → ∀ i, V5 o i = V2 o i := fun o h5 h7 h32 h33 i => hV5 o h7 h32 h33 i (fun z => h5 z.1)
    have v' : ∀ o, o ≠ 5 → o ≠ 7 → o < 22 → ∀ i, V5 o i = V o i := fun o h5 h7 h22 i => by rw [v o h5 h7 (by omega) (by omega), vo o i (fun z => by omega) (fun z => h5 z.1)]
    have hS := hR.1
    have hG := hR.2.1
    exact ⟨V5, L4, hp5.1, hp5.2.1, zFr_tr f1 (zFr_tr hp4.2.2.1 hp5.2.2.1), by rw [hp5.2.2.2, hp4.2.2.2, z1], ⟨by rw [v' 1 (by omega) (by omega) (by omega), workY1_o (by omega)]; exact hS.1, by rw [v' 1 (by omega) (by omega) (by omega), workY1_o (by omega)]; exact hS.2.1, by rw [hV5 5 (by omega) (by omega) (by omega) 4 (by omega)]; exact v5, by rw [v' 10 (by omega) (by omega) (by omega), workY1_o (by omega)]; exact hS.2.2.2⟩, ⟨fun i => by rw [v' 2 (by omega) (by omega) (by omega), workY1_o (by omega)]; exact hG.1 i, fun i => by rw [v' 18 (by omega) (by omega) (by omega), workY1_o (by omega)]; exact hG.2.1 i, fun i => by rw [v' 19 (by omega) (by omega) (by omega), workY1_o (by omega)]; exact hG.2.2 i⟩, rNr_c (kRp_nr hR) (v' 3 (by omega) (by omega) (by omega)) (fun _ => workY1_o (by omega)), rBr_c (kRp_br hR) (v' 4 (by omega) (by omega) (by omega)) (fun _ => workY1_o (by omega)), rW_c hw' (fun f _ _ => v f (by omega) (by omega) (by omega) (by omega)) (fun _ => rfl) (fun _ _ _ _ => rfl), hnd, hun, htl, het, htk, rBd_c hbd (fun _ => rfl) (fun t ht => v (13 + t) (by omega) (by omega) (by omega) (by omega)) (fun _ => rfl) (fun _ => rfl) (fun _ => rfl) (fun _ => rfl) (fun _ => rfl)⟩
  have lw9 : ∀ i, lup (wL L (Y 8 0)) 9 (w.tmod 100) (L 9 (w.tmod 100) ||| zbit (Y 8 0)) 9 i = if i = w.tmod 100 then L 9 i ||| zbit (Y 8 0) else L 9 i := fun i => by
    show (if (9 : Nat) = 9 ∧ i = w.tmod 100 then _ else _) = _
    by_cases e : i = w.tmod 100
    · rw [if_pos ⟨rfl, e⟩, if_pos e, e]
    · rw [if_neg (fun z => e z.2), if_neg e]
      unfold wL
      rw [if_neg (by omega)]
  have lw8 : ∀ i, lup (wL L (Y 8 0)) 9 (w.tmod 100) (L 9 (w.tmod 100) ||| zbit (Y 8 0)) 8 i = L 8 i := fun i => by
    show (if (8 : Nat) = 9 ∧ i = w.tmod 100 then _ else _) = _
    rw [if_neg (by omega)]
    unfold wL
    rw [if_neg (by omega)]
  have lw23 : lup (wL L (Y 8 0)) 9 (w.tmod 100) (L 9 (w.tmod 100) ||| zbit (Y 8 0)) 23 (Y 8 0) = zbit (Y 8 0) := l23
  simp only [kk0 hp3.1, kk1 hp3.1, kk2 hp3.1, kk3 hp3.1, kk4 hp3.1, kk5 hp3.1, kk6 hp3.1, kk7 hp3.1, kk8 hp3.1, kk9 hp3.1, kk10 hp3.1, kk11 hp3.1, kk12 hp3.1, kk13 hp3.1, kk14 hp3.1, kk15 hp3.1, kk16 hp3.1, kk17 hp3.1, kk18 hp3.1, kk19 hp3.1, kk20 hp3.1, kk21 hp3.1, kr0_0 hp3.1, kr0_1 hp3.1, kr0_2 hp3.1, kr0_3 hp3.1, kr0_4 hp3.1, kr1_0 hp3.1, kr1_1 hp3.1, kr1_2 hp3.1, kr5_0 hp3.1, kr5_1 hp3.1, kr5_2 hp3.1, kr5_3 hp3.1, kr10_0 hp3.1, kr10_1 hp3.1, kr17_0 hp3.1, kr17_1 hp3.1, kr17_2 hp3.1, kr17_3 hp3.1, kr17_4 hp3.1, kr20_0 hp3.1, kr20_1 hp3.1, kr20_2 hp3.1, kr20_3 hp3.1, ki1 hp3.2.1, ki2 hp3.2.1, ki3 hp3.2.1, ki4 hp3.2.1, ki5 hp3.2.1, ki7 hp3.2.1, kl8 hp3.2.1, kl9 hp3.2.1, ki10 hp3.2.1, kl11 hp3.2.1, ki13 hp3.2.1, ki14 hp3.2.1, ki15 hp3.2.1, ki16 hp3.2.1, ki17 hp3.2.1, ki18 hp3.2.1, ki19 hp3.2.1, ki20 hp3.2.1, ki21 hp3.2.1, Option.some.injEq, exists_eq_left', true_and, kwR hp3.1 n0 n1, kwK hp3.1 n0 n1, kwi0 hp3.2.1 n0 n1, kwl1 hp3.2.1 n0 n1, kwi2 hp3.2.1 n0 n1, kwi3 hp3.2.1 n0 n1, kwi4 hp3.2.1 n0 n1, kwi5 hp3.2.1 n0 n1, kwi6 hp3.2.1 n0 n1, kwi7 hp3.2.1 n0 n1, kwi8 hp3.2.1 n0 n1, kwi9 hp3.2.1 n0 n1, kwi10 hp3.2.1 n0 n1, kwi11 hp3.2.1 n0 n1, kwl12 hp3.2.1 n0 n1, kwl13 hp3.2.1 n0 n1, kwl14 hp3.2.1 n0 n1, kwl15 hp3.2.1 n0 n1, v28]
  refine ⟨fun q => ?_, fun q => ?_⟩
  · refine fin M3 _ hp3 lw9 (fun i i0 => ?_) (fun o i a1 a2 => ?_)
    · rw [lw8, if_neg (by omega)]
    · show (if o = 9 ∧ i = w.tmod 100 then _ else _) = _
      rw [if_neg (fun z => a2 z.1)]
  · rw [lw8, lw23]
    refine ⟨by omega, by omega, by omega, by omega, ?_⟩
    rintro M4 e4
    have hp4 := kPo_L (o := 8) hp3 e4 rfl (by decide)
    refine ⟨kk5 hp4.1, fin M4 _ hp4 (fun i => ?_) (fun i i0 => ?_) (fun o i a1 a2 => ?_)⟩
    · rw [← lw9 i]
      show (if (9 : Nat) = 8 ∧ i = g then _ else _) = _
      rw [if_neg (by omega)]
    · show (if (8 : Nat) = 8 ∧ i = g then _ else _) = _
      by_cases e : i = g
      · rw [if_pos ⟨rfl, e⟩, if_pos e, e]
      · rw [if_neg (fun z => e z.2), if_neg e]
        exact lw8 i
    · show (if o = 8 ∧ i = g then _ else (if o = 9 ∧ i = w.tmod 100 then _ else _)) = _
      rw [if_neg (fun z => a1 z.1), if_neg (fun z => a2 z.1)]
end C17
