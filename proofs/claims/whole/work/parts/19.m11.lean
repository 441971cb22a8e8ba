/-! ===== contracts of the reference: fail ===== -/
def yOpn (Y : yS) (t w : Int) : Prop := ∀ S : Int → Prop, (∀ k, yWk Y k → yDone Y k → (k = t ∨ Y 18 (40 * t + k) ≠ 0) → S k) → (∀ k o, yWk Y k → yWk Y o → yDone Y k → S o → yNd Y k o → S k) → S w
theorem opn_in {Y : yS} {t k : Int} (hk : yWk Y k) (hd : yDone Y k) (h : k = t ∨ Y 18 (40 * t + k) ≠ 0) : yOpn Y t k := fun _ h1 _ => h1 k hk hd h
theorem opn_st {Y : yS} {t k o : Int} (hk : yWk Y k) (ho : yWk Y o) (hd : yDone Y k) (h : yOpn Y t o) (hn : yNd Y k o) : yOpn Y t k := fun S h1 h2 => h2 k o hk ho hd (h S h1 h2) hn
theorem opn_wk {Y : yS} {t k : Int} (h : yOpn Y t k) : yWk Y k ∧ yDone Y k := h (fun k => yWk Y k ∧ yDone Y k) (fun _ a b _ => ⟨a, b⟩) (fun _ _ a _ b _ _ => ⟨a, b⟩)
def failOk (Y : yS) (t : Int) : Prop := yWk Y t ∧ Y 13 t = 4 ∧ yDone Y t
noncomputable def failK (Y : yS) (t k : Int) : yS := fun f i => pif (f = 15 ∧ 0 ≤ i ∧ i < k ∧ yOpn Y t i) (-1) (pif (f = 16 ∧ 0 ≤ i ∧ i < k ∧ yOpn Y t i) (Y 16 i + 1) (Y f i))
noncomputable def failY (Y : yS) (t : Int) : yS := pif (failOk Y t) (failK Y t (Y 8 0)) Y
noncomputable def failR (Y : yS) (t : Int) : Int := pif (failOk Y t) (ysum (fun k => p2i (yOpn Y t k)) (Y 8 0)) (-1)
theorem failK_0 (Y : yS) (t : Int) (f : Nat) (i : Int) : failK Y t 0 f i = Y f i := by
  unfold failK
  rw [pif_f (fun h => by have := h.2; omega), pif_f (fun h => by have := h.2; omega)]
theorem failK_n {Y : yS} {t k : Int} (h : ¬ yOpn Y t k) (f : Nat) (i : Int) : failK Y t k f i = failK Y t (k + 1) f i := by
  unfold failK
  have e : ∀ g : Nat, (f = g ∧ 0 ≤ i ∧ i < k ∧ yOpn Y t i) = (f = g ∧ 0 ≤ i ∧ i < k + 1 ∧ yOpn Y t i) := fun g => propext ⟨fun q => ⟨q.1, q.2.1, by have := q.2.2.1; omega, q.2.2.2⟩, fun q => ⟨q.1, q.2.1, by
    have := q.2.2.1
    by_cases z : i = k
    · rw [z] at q; exact absurd q.2.2.2 h
    · omega, q.2.2.2⟩⟩
  rw [e 15, e 16]
theorem failK_lo {Y : yS} {t k : Int} (f : Nat) {i : Int} (h : k ≤ i) : failK Y t k f i = Y f i := by
  unfold failK
  rw [pif_f (fun z => by have := z.2; omega), pif_f (fun z => by have := z.2; omega)]
theorem failK_ot {Y : yS} {t k : Int} {f : Nat} {i : Int} (h : f ≠ 15) (h2 : f ≠ 16) : failK Y t k f i = Y f i := by
  unfold failK
  rw [pif_f (fun z => h z.1), pif_f (fun z => h2 z.1)]
theorem failK_s {Y : yS} {t k : Int} (h : yOpn Y t k) (h0 : 0 ≤ k) (f : Nat) (i : Int) : yup (yup (failK Y t k) 15 k (-1)) 16 k (failK Y t k 16 k + 1) f i = failK Y t (k + 1) f i := by
  unfold yup
  by_cases e : i = k
  · subst e
    by_cases e5 : f = 15
    · subst e5
      rw [if_neg (by omega), if_pos ⟨rfl, rfl⟩]
      unfold failK
      rw [pif_t ⟨rfl, h0, by omega, h⟩]
    · by_cases e6 : f = 16
      · subst e6
        rw [if_pos ⟨rfl, rfl⟩, failK_lo 16 (Int.le_refl _)]
        unfold failK
        rw [pif_f (fun z => by have := z.1; omega), pif_t ⟨rfl, h0, by omega, h⟩]
      · rw [if_neg (fun z => e6 z.1), if_neg (fun z => e5 z.1), failK_ot e5 e6, failK_ot e5 e6]
  · rw [if_neg (fun z => e z.2), if_neg (fun z => e z.2)]
    unfold failK
    have e1 : ∀ g : Nat, (f = g ∧ 0 ≤ i ∧ i < k ∧ yOpn Y t i) = (f = g ∧ 0 ≤ i ∧ i < k + 1 ∧ yOpn Y t i) := fun g => propext ⟨fun q => ⟨q.1, q.2.1, by have := q.2.2.1; omega, q.2.2.2⟩, fun q => ⟨q.1, q.2.1, by have := q.2.2.1; omega, q.2.2.2⟩⟩
    rw [e1 15, e1 16]
def fOk (a b : Nat) (M0 : zM) (Y : yS) (t : Int) (M : zM) : Prop := mPo a M0 M Y ∧ zK M b = (10, 40) ∧ (∀ k, yWk Y k → zI M b k = 0 ∨ zI M b k = 1) ∧ (∀ k, yWk Y k → zI M b k ≠ 0 → yOpn Y t k) ∧ (∀ k, yWk Y k → yDone Y k → (k = t ∨ Y 18 (40 * t + k) ≠ 0) → zI M b k ≠ 0)
def fCl (b : Nat) (Y : yS) (M : zM) (x : Int) : Prop := yDone Y x → ∀ o, yWk Y o → zI M b o ≠ 0 → yNd Y x o → zI M b x ≠ 0
section M11
variable {E : zE} {d a : Nat} {M : zM} {Y : yS} {c : Int}
theorem c_fail (hs : mSh a M) (hc : mCo a M Y) (hi : yInv c Y) (hz : a + 21 < zsz M) (t : Int) : zCi E mX7_fail (d + 3) 1 40 [vR (some a), vI t] M (fun r M' => r = failR Y t ∧ mPo a M M' (failY Y t)) := by
  refine sX7_fail _ _ (fun X hr => vX7_fail_0 hr _ _ ?_)
  have h8 := yI_n hi
  have hc6 := hi.1
  have no : ¬ failOk Y t → (-1 : Int) = failR Y t ∧ mPo a M M (failY Y t) := fun n => ⟨by unfold failR; rw [pif_f n], by unfold failY; rw [pif_f n]; exact mPo_rf hs hc⟩
  refine ⟨hs.1, zu (c_isWork hs hc hi t) ⟨fun q => no (fun z => p2i_0.mp q z.1), fun q => ?_⟩⟩
  have ht := p2i_n0.mp q
  obtain ⟨t0, t1⟩ := id ht
  simp only [mk0 hs, mr2 hs, mk2 hs, mi2 hc, mr3 hs, mk3 hs, mi3 hc, mr4 hs, mk4 hs, mi4 hc, mr5 hs, mk5 hs, mi5 hc, mr7 hs, mk7 hs, mi7 hc, mr9 hs, mk9 hs, mi9 hc, mr10 hs, mk10 hs, mi10 hc, mr11 hs, mk11 hs, mi11 hc, mr12 hs, mk12 hs, mi12 hc, mr13 hs, mk13 hs, mi13 hc, mr14 hs, mk14 hs, mi14 hc, mr15 hs, mk15 hs, mi15 hc, mr16 hs, mk16 hs, mi16 hc, mr17 hs, mk17 hs, mi17 hc, mr18 hs, mk18 hs, mi18 hc, mr19 hs, mk19 hs, mr20 hs, mk20 hs, mr21 hs, mk21 hs, mr22 hs, mk22 hs, mr23 hs, mk23 hs, mr24 hs, mk24 hs, mi0 hc, mi1 hc, mi6 hc, mi8 hc, Option.some.injEq, exists_eq_left', true_and]
  refine ⟨t0, by omega, fun q2 => no (fun z => q2 z.2.1), fun q2 => zu (c_isDone hs hc hi t0 t1) ⟨fun q3 => ?_, fun q3 => no (fun z => p2i_0.mp q3 z.2.2)⟩⟩
  have ok : failOk Y t := ⟨ht, q2, p2i_n0.mp q3⟩
  rintro M1 e1
  have hp1 := mPo_new (mPo_rf hs hc) e1 hz
  have hK1 : zK M1 (zsz M) = (10, 40) := by rw [e1, zK_new, if_pos rfl]
  generalize hb : zsz M = b at hK1 hz ⊢
  have hbz : zsz M ≤ b := by omega
  have hza : a + 21 < zsz M := by omega
  -- the last loop
  have L186 : ∀ k : Int, 0 ≤ k → k ≤ Y 8 0 → ∀ (M2 : zM) (x3 : Int), mPo a M M2 (failK Y t k) → zK M2 b = (10, 40) → (∀ j, yWk Y j → (zI M2 b j ≠ 0 ↔ yOpn Y t j)) → ZX7_fail E (d + 2) X (fun r M' => r = failR Y t ∧ mPo a M M' (failY Y t)) 186 [(0, vR (some a)), (1, vI t), (2, vR (some b)), (3, vI x3), (4, vI (ysum (fun k => p2i (yOpn Y t k)) k)), (5, vI k)] [] M2 1 40 := by
    refine zdownI (n := Y 8 0) (fun k hk hk0 hk2 M2 x3 hp hK hO => ?_) (fun k hk0 hk ih hk2 M2 x3 hp hK hO => ?_)
    · have hk : k = Y 8 0 := by omega
      subst hk
      refine vX7_fail_186 hr _ _ _ _ _ _ ⟨hp.1.1, fun _ => ⟨by unfold failR; rw [pif_t ok], by unfold failY; rw [pif_t ok]; exact hp⟩, fun z => absurd z (by rw [mi8 hp.2.1, failK_ot (by decide) (by decide)]; omega)⟩
    · have ih := ih (by omega)
      have hko := yI_w hi hk0 hk
      have bs := ysum_b (f := fun k => p2i (yOpn Y t k)) (b := 1) hk0 (fun o _ _ => by rcases p2i_01 (yOpn Y t o) with q | q <;> rw [q] <;> omega)
      rw [ysum_s hk0] at ih
      refine vX7_fail_186 hr _ _ _ _ _ _ ⟨hp.1.1, fun z => absurd z (by rw [mi8 hp.2.1, failK_ot (by decide) (by decide)]; omega), fun _ => ⟨b, rfl, by rw [hK], hk0, by rw [hK]; show k < 40; omega, fun q => ?_, fun q => ?_⟩⟩
      · have o := (hO k ⟨hk0, hk⟩).mp q
        simp only [mk0 hp.1, mr2 hp.1, mk2 hp.1, mi2 hp.2.1, mr3 hp.1, mk3 hp.1, mi3 hp.2.1, mr4 hp.1, mk4 hp.1, mi4 hp.2.1, mr5 hp.1, mk5 hp.1, mi5 hp.2.1, mr7 hp.1, mk7 hp.1, mi7 hp.2.1, mr9 hp.1, mk9 hp.1, mi9 hp.2.1, mr10 hp.1, mk10 hp.1, mi10 hp.2.1, mr11 hp.1, mk11 hp.1, mi11 hp.2.1, mr12 hp.1, mk12 hp.1, mi12 hp.2.1, mr13 hp.1, mk13 hp.1, mi13 hp.2.1, mr14 hp.1, mk14 hp.1, mi14 hp.2.1, mr15 hp.1, mk15 hp.1, mi15 hp.2.1, mr16 hp.1, mk16 hp.1, mi16 hp.2.1, mr17 hp.1, mk17 hp.1, mi17 hp.2.1, mr18 hp.1, mk18 hp.1, mi18 hp.2.1, mr19 hp.1, mk19 hp.1, mr20 hp.1, mk20 hp.1, mr21 hp.1, mk21 hp.1, mr22 hp.1, mk22 hp.1, mr23 hp.1, mk23 hp.1, mr24 hp.1, mk24 hp.1, mi0 hp.2.1, mi1 hp.2.1, mi6 hp.2.1, mi8 hp.2.1, Option.some.injEq, exists_eq_left', true_and]
        refine ⟨hk0, by omega, ?_⟩
        rintro M3 e3
        have hp3 := mPo_up hp e3 (f := 15) rfl (by decide) rfl
        have k3 : yup (failK Y t k) 15 k (-1) 16 k = Y 16 k := failK_lo 16 (Int.le_refl _)
        have k3' : failK Y t k 16 k = Y 16 k := failK_lo 16 (Int.le_refl _)
        simp only [mk0 hp3.1, mr2 hp3.1, mk2 hp3.1, mi2 hp3.2.1, mr3 hp3.1, mk3 hp3.1, mi3 hp3.2.1, mr4 hp3.1, mk4 hp3.1, mi4 hp3.2.1, mr5 hp3.1, mk5 hp3.1, mi5 hp3.2.1, mr7 hp3.1, mk7 hp3.1, mi7 hp3.2.1, mr9 hp3.1, mk9 hp3.1, mi9 hp3.2.1, mr10 hp3.1, mk10 hp3.1, mi10 hp3.2.1, mr11 hp3.1, mk11 hp3.1, mi11 hp3.2.1, mr12 hp3.1, mk12 hp3.1, mi12 hp3.2.1, mr13 hp3.1, mk13 hp3.1, mi13 hp3.2.1, mr14 hp3.1, mk14 hp3.1, mi14 hp3.2.1, mr15 hp3.1, mk15 hp3.1, mi15 hp3.2.1, mr16 hp3.1, mk16 hp3.1, mi16 hp3.2.1, mr17 hp3.1, mk17 hp3.1, mi17 hp3.2.1, mr18 hp3.1, mk18 hp3.1, mi18 hp3.2.1, mr19 hp3.1, mk19 hp3.1, mr20 hp3.1, mk20 hp3.1, mr21 hp3.1, mk21 hp3.1, mr22 hp3.1, mk22 hp3.1, mr23 hp3.1, mk23 hp3.1, mr24 hp3.1, mk24 hp3.1, mi0 hp3.2.1, mi1 hp3.2.1, mi6 hp3.2.1, mi8 hp3.2.1, Option.some.injEq, exists_eq_left', true_and, k3]
        refine ⟨hk0, by omega, by unfold zin; omega, hk0, by omega, ?_⟩
        rintro M4 e4
        have hp4 := mPo_up hp3 e4 (f := 16) rfl (by decide) rfl
        rw [← k3'] at hp4
        rw [p2i_t o] at ih
        refine ⟨by unfold zin; omega, by unfold zin; omega, ih M4 x3 (mPo_eq hp4 (failK_s o hk0)) (by rw [e4, zK_sI, e3, zK_sI]; exact hK) (fun j hj => ?_)⟩
        rw [e4, zI_sI, if_neg (fun z => by have := z.1; omega), e3, zI_sI, if_neg (fun z => by have := z.1; omega)]
        exact hO j hj
      · have o : ¬ yOpn Y t k := fun z => (hO k ⟨hk0, hk⟩).mpr z q
        rw [p2i_f o, Int.add_zero] at ih
        exact ⟨by unfold zin; omega, ih M2 x3 (mPo_eq hp (failK_n o)) hK hO⟩
  have fin : ∀ M2 : zM, fOk a b M Y t M2 → (∀ x, yWk Y x → fCl b Y M2 x) → ∀ x3 : Int, ZX7_fail E (d + 2) X (fun r M' => r = failR Y t ∧ mPo a M M' (failY Y t)) 186 [(0, vR (some a)), (1, vI t), (2, vR (some b)), (3, vI x3), (4, vI 0), (5, vI 0)] [] M2 1 40 := fun M2 hk hcl x3 => L186 0 (by omega) (by omega) M2 x3 (mPo_eq hk.1 (fun f i => (failK_0 Y t f i).symm)) hk.2.1 (fun j hj => ⟨hk.2.2.2.1 j hj, fun o h0 => o (fun k => yWk Y k → zI M2 b k ≠ 0) (fun k hk2 hd ho _ => hk.2.2.2.2 k hk2 hd ho) (fun k o2 hk2 ho2 hd s hn _ => hcl k hk2 hd o2 ho2 (s ho2) hn) hj h0⟩)
  have T86 : ∀ (n : Nat) (M2 : zM), fOk a b M Y t M2 → hUn M2 b (Y 8 0) < n → ∀ x3 : Int, (x3 = 0 → ∀ x, yWk Y x → fCl b Y M2 x) → ZX7_fail E (d + 2) X (fun r M' => r = failR Y t ∧ mPo a M M' (failY Y t)) 86 [(0, vR (some a)), (1, vI t), (2, vR (some b)), (3, vI x3)] [] M2 1 40 := by
    intro n
    induction n with
    | zero => intro M2 _ hn; have := hUn_nn (M := M2) (b := b) (n := Y 8 0); omega
    | succ n ihn =>
      intro M2 hk hn x3 h3
      have L95 : ∀ x4 : Int, 0 ≤ x4 → x4 ≤ Y 8 0 → ∀ (M3 : zM) (y : Int), fOk a b M Y t M3 → ((y = 0 ∧ hUn M3 b (Y 8 0) < n + 1 ∧ ∀ x, yWk Y x → x < x4 → fCl b Y M3 x) ∨ (y ≠ 0 ∧ hUn M3 b (Y 8 0) < n)) → ZX7_fail E (d + 2) X (fun r M' => r = failR Y t ∧ mPo a M M' (failY Y t)) 95 [(0, vR (some a)), (1, vI t), (2, vR (some b)), (3, vI y), (4, vI x4)] [] M3 1 40 := by
        refine zdownI (n := Y 8 0) (fun x hx _ _ M3 y hk3 hd => ?_) (fun x hx0 hx ih _ M3 y hk3 hd => ?_)
        · refine vX7_fail_95 hr _ _ _ _ _ ⟨hk3.1.1.1, fun _ => ?_, fun z => absurd z (by rw [mi8 hk3.1.2.1]; omega)⟩
          rcases hd with ⟨e, e2, e3⟩ | ⟨e, e2⟩
          · exact vX7_fail_86 hr _ _ _ _ ⟨fun _ => fin M3 hk3 (fun x hx => e3 x hx (by have := hx.2; omega)) y, fun z => absurd e z⟩
          · exact ihn M3 hk3 e2 y (fun z => absurd z e)
        · have hx' : yWk Y x := ⟨hx0, hx⟩
          have nxt : ∀ (M4 : zM) (z : Int), fOk a b M Y t M4 → ((z = 0 ∧ hUn M4 b (Y 8 0) < n + 1 ∧ (∀ v, yWk Y v → v < x → fCl b Y M4 v) ∧ fCl b Y M4 x) ∨ (z ≠ 0 ∧ hUn M4 b (Y 8 0) < n)) → ZX7_fail E (d + 2) X (fun r M' => r = failR Y t ∧ mPo a M M' (failY Y t)) 95 [(0, vR (some a)), (1, vI t), (2, vR (some b)), (3, vI z), (4, vI (x + 1))] [] M4 1 40 := fun M4 z h4 hd4 => ih (by omega) M4 z h4 (by
            rcases hd4 with ⟨e, e2, e3, e4⟩ | e
            · refine Or.inl ⟨e, e2, fun v hv hv2 => ?_⟩
              by_cases ev : v = x
              · rw [ev]; exact e4
              · exact e3 v hv (by omega)
            · exact Or.inr e)
          have L107 : ∀ x5 : Int, 0 ≤ x5 → x5 ≤ Y 8 0 → ∀ (M4 : zM) (z : Int), fOk a b M Y t M4 → ((z = 0 ∧ hUn M4 b (Y 8 0) < n + 1 ∧ (∀ v, yWk Y v → v < x → fCl b Y M4 v) ∧ (∀ o, yWk Y o → o < x5 → zI M4 b o ≠ 0 → yNd Y x o → zI M4 b x ≠ 0)) ∨ (z ≠ 0 ∧ hUn M4 b (Y 8 0) < n)) → ZX7_fail E (d + 2) X (fun r M' => r = failR Y t ∧ mPo a M M' (failY Y t)) 107 [(0, vR (some a)), (1, vI t), (2, vR (some b)), (3, vI z), (4, vI x), (5, vI x5)] [] M4 1 40 := by
            refine zdownI (n := Y 8 0) (fun y hy _ _ M4 z h4 hd4 => ?_) (fun y hy0 hy ih2 _ M4 z h4 hd4 => ?_)
            · refine vX7_fail_107 hr _ _ _ _ _ _ ⟨h4.1.1.1, fun _ => ⟨by unfold zin; omega, nxt M4 z h4 ?_⟩, fun w => absurd w (by rw [mi8 h4.1.2.1]; omega)⟩
              rcases hd4 with ⟨e, e2, e3, e4⟩ | e
              · exact Or.inl ⟨e, e2, e3, fun _ o ho hq hn => e4 o ho (by have := ho.2; omega) hq hn⟩
              · exact Or.inr e
            · have ih2 := ih2 (by omega)
              have out : fCl b Y M4 x → ZX7_fail E (d + 2) X (fun r M' => r = failR Y t ∧ mPo a M M' (failY Y t)) 95 [(0, vR (some a)), (1, vI t), (2, vR (some b)), (3, vI z), (4, vI (x + 1))] [] M4 1 40 := fun q => nxt M4 z h4 (by
                rcases hd4 with ⟨e, e2, e3, e4⟩ | e
                · exact Or.inl ⟨e, e2, e3, q⟩
                · exact Or.inr e)
              have keep : (zI M4 b y ≠ 0 → yNd Y x y → zI M4 b x ≠ 0) → ZX7_fail E (d + 2) X (fun r M' => r = failR Y t ∧ mPo a M M' (failY Y t)) 107 [(0, vR (some a)), (1, vI t), (2, vR (some b)), (3, vI z), (4, vI x), (5, vI (y + 1))] [] M4 1 40 := fun q => ih2 M4 z h4 (by
                rcases hd4 with ⟨e, e2, e3, e4⟩ | e
                · refine Or.inl ⟨e, e2, e3, fun o ho ho2 hq hn => ?_⟩
                  by_cases eo : o = y
                  · rw [eo] at hq hn; exact q hq hn
                  · exact e4 o ho (by omega) hq hn
                · exact Or.inr e)
              have hle : hUn M4 b (Y 8 0) < n + 1 := by
                rcases hd4 with ⟨_, e2, _⟩ | ⟨_, e2⟩ <;> omega
              have hpp := h4.1
              have zx : zin (x + 1) := by unfold zin; omega
              have zy : zin (y + 1) := by unfold zin; omega
              refine vX7_fail_107 hr _ _ _ _ _ _ ⟨h4.1.1.1, fun w => absurd w (by rw [mi8 h4.1.2.1]; omega), fun _ => ⟨b, rfl, by rw [h4.2.1], hx0, by rw [h4.2.1]; show x < 40; omega, fun q => ⟨zx, out (fun _ _ _ _ _ => q)⟩, fun q => ⟨h4.1.1.1, zu (c_isDone hpp.1 hpp.2.1 hi hx0 hx) ⟨fun q2 => ⟨zx, out (fun z => absurd z (p2i_0.mp q2))⟩, fun q2 => ⟨by rw [h4.2.1], hy0, by rw [h4.2.1]; show y < 40; omega, fun q3 => ⟨zy, keep (fun z => absurd q3 z)⟩, fun q3 => ?_⟩⟩⟩⟩⟩
              simp only [mk0 hpp.1, mr2 hpp.1, mk2 hpp.1, mi2 hpp.2.1, mr3 hpp.1, mk3 hpp.1, mi3 hpp.2.1, mr4 hpp.1, mk4 hpp.1, mi4 hpp.2.1, mr5 hpp.1, mk5 hpp.1, mi5 hpp.2.1, mr7 hpp.1, mk7 hpp.1, mi7 hpp.2.1, mr9 hpp.1, mk9 hpp.1, mi9 hpp.2.1, mr10 hpp.1, mk10 hpp.1, mi10 hpp.2.1, mr11 hpp.1, mk11 hpp.1, mi11 hpp.2.1, mr12 hpp.1, mk12 hpp.1, mi12 hpp.2.1, mr13 hpp.1, mk13 hpp.1, mi13 hpp.2.1, mr14 hpp.1, mk14 hpp.1, mi14 hpp.2.1, mr15 hpp.1, mk15 hpp.1, mi15 hpp.2.1, mr16 hpp.1, mk16 hpp.1, mi16 hpp.2.1, mr17 hpp.1, mk17 hpp.1, mi17 hpp.2.1, mr18 hpp.1, mk18 hpp.1, mi18 hpp.2.1, mr19 hpp.1, mk19 hpp.1, mr20 hpp.1, mk20 hpp.1, mr21 hpp.1, mk21 hpp.1, mr22 hpp.1, mk22 hpp.1, mr23 hpp.1, mk23 hpp.1, mr24 hpp.1, mk24 hpp.1, mi0 hpp.2.1, mi1 hpp.2.1, mi6 hpp.2.1, mi8 hpp.2.1, Option.some.injEq, exists_eq_left', true_and]
              refine ⟨by unfold zin; omega, by unfold zin; omega, by omega, by omega, fun q4 => ⟨by rw [h4.2.1], hx0, by rw [h4.2.1]; show x < 40; omega, ?_⟩, fun q4 => ⟨zy, keep (fun _ z => absurd q4 z)⟩⟩
              rintro M5 rfl
              have hun := hUn_set (M := M4) (b := b) hx0 hx q
              refine ⟨zy, ih2 _ 1 ⟨mPo_far h4.1 rfl hbz hza, h4.2.1, fun k hk5 => ?_, fun k hk5 hq => ?_, fun k hk5 hd5 hq => ?_⟩ (Or.inr ⟨by omega, by rw [hun]; omega⟩)⟩
              · rw [zI_sI]
                split
                · exact Or.inr rfl
                · exact h4.2.2.1 k hk5
              · rw [zI_sI] at hq
                by_cases ek : k = x
                · rw [ek]; exact opn_st hx' ⟨hy0, hy⟩ (p2i_n0.mp q2) (h4.2.2.2.1 y ⟨hy0, hy⟩ q3) q4
                · rw [if_neg (fun z => ek z.2)] at hq
                  exact h4.2.2.2.1 k hk5 hq
              · rw [zI_sI]
                split
                · omega
                · exact h4.2.2.2.2 k hk5 hd5 hq
          refine vX7_fail_95 hr _ _ _ _ _ ⟨hk3.1.1.1, fun z => absurd z (by rw [mi8 hk3.1.2.1]; omega), fun _ => L107 0 (by omega) (by omega) M3 y hk3 ?_⟩
          rcases hd with ⟨e, e2, e3⟩ | e
          · exact Or.inl ⟨e, e2, e3, fun o ho ho2 => absurd ho.1 (by omega)⟩
          · exact Or.inr e
      exact vX7_fail_86 hr _ _ _ _ ⟨fun z => fin M2 hk (h3 z) x3, fun _ => L95 0 (by omega) (by omega) M2 0 hk (Or.inl ⟨rfl, by omega, fun x hx hx2 => absurd hx.1 (by omega)⟩)⟩
  have L35 : ∀ k : Int, 0 ≤ k → k ≤ Y 8 0 → ∀ M2 : zM, mPo a M M2 Y → zK M2 b = (10, 40) → (∀ j, yWk Y j → j < k → zI M2 b j = p2i (yDone Y j ∧ (j = t ∨ Y 18 (40 * t + j) ≠ 0))) → ZX7_fail E (d + 2) X (fun r M' => r = failR Y t ∧ mPo a M M' (failY Y t)) 35 [(0, vR (some a)), (1, vI t), (2, vR (some b)), (3, vI k)] [] M2 1 40 := by
    refine zdownI (n := Y 8 0) (fun k hk hk0 hk2 M2 hp hK hj => ?_) (fun k hk0 hk ih hk2 M2 hp hK hj => ?_)
    · have hj : ∀ j, yWk Y j → zI M2 b j = p2i (yDone Y j ∧ (j = t ∨ Y 18 (40 * t + j) ≠ 0)) := fun j h => hj j h (by have := h.2; omega)
      refine vX7_fail_35 hr _ _ _ _ ⟨hp.1.1, fun _ => T86 (hUn M2 b (Y 8 0) + 1).toNat M2 ⟨hp, hK, fun j h => by rw [hj j h]; exact p2i_01 _, fun j h q => ?_, fun j h hd q => ?_⟩ (by have := hUn_nn (M := M2) (b := b) (n := Y 8 0); omega) 1 (fun z => by omega), fun z => absurd z (by rw [mi8 hp.2.1]; omega)⟩
      · rw [hj j h] at q
        have q := p2i_n0.mp q
        exact opn_in h q.1 q.2
      · rw [hj j h, p2i_t ⟨hd, q⟩]; omega
    · have ih := ih (by omega)
      have st : ∀ v : Int, v = p2i (yDone Y k ∧ (k = t ∨ Y 18 (40 * t + k) ≠ 0)) → ZX7_fail E (d + 2) X (fun r M' => r = failR Y t ∧ mPo a M M' (failY Y t)) 35 [(0, vR (some a)), (1, vI t), (2, vR (some b)), (3, vI (k + 1))] [] (zsI M2 b k v) 1 40 := fun v hv => ih _ (mPo_far hp rfl hbz hza) hK (fun j h h2 => by
        rw [zI_sI]
        by_cases e : j = k
        · rw [if_pos ⟨rfl, e⟩, e]; exact hv
        · rw [if_neg (fun z => e z.2)]; exact hj j h (by omega))
      have zk : zin (k + 1) := by unfold zin; omega
      have arr : ∀ {Z : zM → Prop} (v : Int), Z (zsI M2 b k v) → ∃ b10, some b = some b10 ∧ (zK M2 b10).1 = 10 ∧ 0 ≤ k ∧ k < ((zK M2 b10).2 : Int) ∧ ∀ M14, M14 = zsI M2 b10 k v → Z M14 := fun v h => ⟨b, rfl, by rw [hK], hk0, by rw [hK]; show k < 40; omega, fun M14 e => by rw [e]; exact h⟩
      refine vX7_fail_35 hr _ _ _ _ ⟨hp.1.1, fun z => absurd z (by rw [mi8 hp.2.1]; omega), fun _ => ⟨hp.1.1, zu (c_isDone hp.1 hp.2.1 hi hk0 hk) ⟨fun q => arr (Z := fun M14 => zin (k + 1) ∧ ZX7_fail E (d + 2) X (fun r M' => r = failR Y t ∧ mPo a M M' (failY Y t)) 35 [(0, vR (some a)), (1, vI t), (2, vR (some b)), (3, vI (k + 1))] [] M14 1 40) 0 ⟨zk, st 0 (p2i_z0 (fun z => p2i_0.mp q z.1))⟩ |> fun ⟨b10, e, r⟩ => by cases e; exact ⟨b, rfl, r⟩, fun q => ⟨fun q2 => ?_, fun q2 => ?_⟩⟩⟩⟩
      · refine ⟨b, rfl, by rw [hK], hk0, by rw [hK]; show k < 40; omega, ?_⟩
        rintro M3 rfl
        exact ⟨zk, st 1 (p2i_z1 ⟨p2i_n0.mp q, Or.inl q2⟩)⟩
      · simp only [mk0 hp.1, mr2 hp.1, mk2 hp.1, mi2 hp.2.1, mr3 hp.1, mk3 hp.1, mi3 hp.2.1, mr4 hp.1, mk4 hp.1, mi4 hp.2.1, mr5 hp.1, mk5 hp.1, mi5 hp.2.1, mr7 hp.1, mk7 hp.1, mi7 hp.2.1, mr9 hp.1, mk9 hp.1, mi9 hp.2.1, mr10 hp.1, mk10 hp.1, mi10 hp.2.1, mr11 hp.1, mk11 hp.1, mi11 hp.2.1, mr12 hp.1, mk12 hp.1, mi12 hp.2.1, mr13 hp.1, mk13 hp.1, mi13 hp.2.1, mr14 hp.1, mk14 hp.1, mi14 hp.2.1, mr15 hp.1, mk15 hp.1, mi15 hp.2.1, mr16 hp.1, mk16 hp.1, mi16 hp.2.1, mr17 hp.1, mk17 hp.1, mi17 hp.2.1, mr18 hp.1, mk18 hp.1, mi18 hp.2.1, mr19 hp.1, mk19 hp.1, mr20 hp.1, mk20 hp.1, mr21 hp.1, mk21 hp.1, mr22 hp.1, mk22 hp.1, mr23 hp.1, mk23 hp.1, mr24 hp.1, mk24 hp.1, mi0 hp.2.1, mi1 hp.2.1, mi6 hp.2.1, mi8 hp.2.1, Option.some.injEq, exists_eq_left', true_and]
        refine ⟨by unfold zin; omega, by unfold zin; omega, by omega, by omega, fun q4 => ⟨by rw [hK], hk0, by rw [hK]; show k < 40; omega, ?_⟩, fun q4 => ⟨by rw [hK], hk0, by rw [hK]; show k < 40; omega, ?_⟩⟩
        · rintro M3 rfl
          refine ⟨zk, st 0 (p2i_z0 (fun z => ?_))⟩
          rcases z.2 with z | z
          · exact q2 z
          · exact z q4
        · rintro M3 rfl
          exact ⟨zk, st 1 (p2i_z1 ⟨p2i_n0.mp q, Or.inr q4⟩)⟩
  exact L35 0 (by omega) (by omega) M1 hp1 hK1 (fun j h h2 => absurd h.1 (by omega))
end M11
