/-! ===== contracts of the reference: told, fail ===== -/
theorem zFr_far {A : Nat → Prop} {M M1 : zM} {a : Nat} {j x : Int} (h : zFr A M M1) (ha : zsz M ≤ a) : zFr A M (zsI M1 a j x) := by
  refine ⟨h.1, fun b hb hA => ?_⟩
  obtain ⟨a1, a2, a3, a4⟩ := h.2 b hb hA
  exact ⟨a1, fun i => by rw [zI_sI, if_neg (fun q => by have := q.1; omega)]; exact a2 i, a3, a4⟩
theorem mPo_far {a b : Nat} {M0 M M1 : zM} {Y : yS} {i x : Int} (h : mPo a M0 M Y) (e : M1 = zsI M b i x) (hb : zsz M0 ≤ b) (ha : a + 21 < zsz M0) : mPo a M0 M1 Y := by
  subst e
  refine ⟨h.1, fun g j hg => ?_, zFr_far h.2.2 hb⟩
  rw [← h.2.1 g j hg]
  unfold mI
  by_cases hm : misc g = true
  · rw [if_pos hm, if_pos hm, zI_sI, if_neg (by omega)]
  · have := (moff_pos g (by omega) (by simpa using hm)).2
    rw [if_neg hm, if_neg hm, zI_sI, if_neg (by omega)]
theorem mPo_new {a t n : Nat} {M0 M M1 : zM} {Y : yS} (h : mPo a M0 M Y) (e : M1 = znew M t n) (ha : a + 21 < zsz M0) : mPo a M0 M1 Y := by
  subst e
  have := h.2.2.1
  exact ⟨mSh_new h.1 (by omega), mCo_new h.2.1 (by omega), zFr_new h.2.2⟩
theorem mPo_eq {a : Nat} {M0 M : zM} {Y Y' : yS} (h : mPo a M0 M Y) (e : ∀ f i, Y f i = Y' f i) : mPo a M0 M Y' := ⟨h.1, fun f i hf => by rw [h.2.1 f i hf, e], h.2.2⟩
section M10
variable {E : zE} {d a : Nat} {M : zM} {Y : yS} {c : Int}
theorem c_told (hs : mSh a M) (hc : mCo a M Y) (hi : yInv c Y) (ha : yAcy Y) (w x : Int) : zCi E mX7_told (d + 4) 0 0 [vR (some a), vI w, vI x] M (fun r M' => r = toldR Y w x ∧ mPo a M M' Y) := by
  refine sX7_told _ _ _ (fun X hr => vX7_told_0 hr _ _ _ ?_)
  have h8 := yI_n hi
  refine ⟨hs.1, zu (c_isWork hs hc hi w) ⟨fun q => ?_, fun q => ⟨by unfold toldR; rw [pif_f (p2i_0.mp q)], mPo_rf hs hc⟩⟩⟩
  have hw := p2i_n0.mp q
  obtain ⟨w0, w1⟩ := id hw
  have L34 : ∀ (M1 : zM) (v : Int), mPo a M M1 Y → ((8 ≤ x ∧ x ≤ 10) → v = wayR Y ∧ mWy a M M1 Y) → ZX7_told E (d + 3) X (fun r M' => r = toldR Y w x ∧ mPo a M M' Y) 34 [(0, vR (some a)), (1, vI w), (2, vI x), (3, vI 0), (4, vI v)] [] M1 0 0 := by
    intro M1 v hp hv
    have L180 : x = 11 → ∀ k : Int, 0 ≤ k → k ≤ Y 8 0 → ZX7_told E (d + 3) X (fun r M' => r = toldR Y w x ∧ mPo a M M' Y) 180 [(0, vR (some a)), (1, vI w), (2, vI x), (3, vI (ysum (fun k => p2i (yNd Y w k)) k)), (4, vI v), (5, vI k)] [] M1 0 0 := by
      intro hx
      refine zdownI (n := Y 8 0) (fun k hk hk0 hk2 => ?_) (fun k hk0 hk ih hk2 => ?_)
      · have hk : k = Y 8 0 := by omega
        subst hk
        refine vX7_told_180 hr _ _ _ _ _ _ ⟨hp.1.1, fun _ => ⟨?_, hp⟩, fun z => absurd z (by rw [mi8 hp.2.1]; omega)⟩
        unfold toldR
        rw [pif_t hw, pif_f (by omega), pif_f (by omega), pif_f (by omega), pif_f (by omega), pif_f (by omega), pif_f (by omega), pif_f (by omega), pif_f (by omega), pif_f (by omega), pif_f (by omega), pif_f (by omega), pif_t hx]
      · have ih := ih (by omega)
        have b := ysum_b (f := fun k => p2i (yNd Y w k)) (b := 1) hk0 (fun o _ _ => by rcases p2i_01 (yNd Y w o) with q | q <;> rw [q] <;> omega)
        rw [ysum_s hk0] at ih
        refine vX7_told_180 hr _ _ _ _ _ _ ?_
        simp only [mk0 hp.1, mr2 hp.1, mk2 hp.1, mi2 hp.2.1, mr3 hp.1, mk3 hp.1, mi3 hp.2.1, mr4 hp.1, mk4 hp.1, mi4 hp.2.1, mr5 hp.1, mk5 hp.1, mi5 hp.2.1, mr7 hp.1, mk7 hp.1, mi7 hp.2.1, mr9 hp.1, mk9 hp.1, mi9 hp.2.1, mr10 hp.1, mk10 hp.1, mi10 hp.2.1, mr11 hp.1, mk11 hp.1, mi11 hp.2.1, mr12 hp.1, mk12 hp.1, mi12 hp.2.1, mr13 hp.1, mk13 hp.1, mi13 hp.2.1, mr14 hp.1, mk14 hp.1, mi14 hp.2.1, mr15 hp.1, mk15 hp.1, mi15 hp.2.1, mr16 hp.1, mk16 hp.1, mi16 hp.2.1, mr17 hp.1, mk17 hp.1, mi17 hp.2.1, mr18 hp.1, mk18 hp.1, mi18 hp.2.1, mr19 hp.1, mk19 hp.1, mr20 hp.1, mk20 hp.1, mr21 hp.1, mk21 hp.1, mr22 hp.1, mk22 hp.1, mr23 hp.1, mk23 hp.1, mr24 hp.1, mk24 hp.1, mi0 hp.2.1, mi1 hp.2.1, mi6 hp.2.1, mi8 hp.2.1, Option.some.injEq, exists_eq_left', true_and]
        refine ⟨fun z => by omega, fun _ => ⟨by unfold zin; omega, by unfold zin; omega, by omega, by omega, fun q => ⟨by unfold zin; omega, by unfold zin; omega, ?_⟩, fun q => ⟨by unfold zin; omega, by unfold zin; omega, ?_⟩⟩⟩
        · rw [p2i_f (fun z => z q)] at ih; exact ih
        · rw [p2i_t (show yNd Y w k from q)] at ih; exact ih
    have a1 := hp.1
    have a2 := hp.2.1
    refine vX7_told_34 hr _ _ _ _ _ ?_
    simp only [mk0 hp.1, mr2 hp.1, mk2 hp.1, mi2 hp.2.1, mr3 hp.1, mk3 hp.1, mi3 hp.2.1, mr4 hp.1, mk4 hp.1, mi4 hp.2.1, mr5 hp.1, mk5 hp.1, mi5 hp.2.1, mr7 hp.1, mk7 hp.1, mi7 hp.2.1, mr9 hp.1, mk9 hp.1, mi9 hp.2.1, mr10 hp.1, mk10 hp.1, mi10 hp.2.1, mr11 hp.1, mk11 hp.1, mi11 hp.2.1, mr12 hp.1, mk12 hp.1, mi12 hp.2.1, mr13 hp.1, mk13 hp.1, mi13 hp.2.1, mr14 hp.1, mk14 hp.1, mi14 hp.2.1, mr15 hp.1, mk15 hp.1, mi15 hp.2.1, mr16 hp.1, mk16 hp.1, mi16 hp.2.1, mr17 hp.1, mk17 hp.1, mi17 hp.2.1, mr18 hp.1, mk18 hp.1, mi18 hp.2.1, mr19 hp.1, mk19 hp.1, mr20 hp.1, mk20 hp.1, mr21 hp.1, mk21 hp.1, mr22 hp.1, mk22 hp.1, mr23 hp.1, mk23 hp.1, mr24 hp.1, mk24 hp.1, mi0 hp.2.1, mi1 hp.2.1, mi6 hp.2.1, mi8 hp.2.1, Option.some.injEq, exists_eq_left', true_and]
    refine ⟨fun q => ⟨w0, by omega, ?_, hp⟩, fun q => ⟨w0, by omega, ?_, hp⟩, fun q => ⟨w0, by omega, ?_, hp⟩, fun q => ⟨w0, by omega, ?_, hp⟩, fun q => ⟨w0, by omega, ?_, hp⟩, fun q => ⟨w0, by omega, ?_, hp⟩, fun q => ⟨_, c_stateOf a1 a2 hi w0 w1, ?_⟩, fun q => ⟨w0, by omega, ?_, hp⟩, fun q => ⟨w0, by omega, ?_, hp⟩, fun q => ⟨w0, by omega, ?_, hp⟩, fun q => zu (c_slack hi (hv (by omega)).2 hw (hv (by omega)).1) ⟨?_, hp⟩, fun q => L180 q 0 (by omega) (by omega), fun q => ⟨w0, by omega, ?_, hp⟩, fun q => ⟨?_, hp⟩⟩
    · unfold toldR; rw [pif_t hw, pif_t q]
    · unfold toldR; rw [pif_t hw, pif_f (by omega), pif_t q]
    · unfold toldR; rw [pif_t hw, pif_f (by omega), pif_f (by omega), pif_t q]
    · unfold toldR; rw [pif_t hw, pif_f (by omega), pif_f (by omega), pif_f (by omega), pif_t q]
    · unfold toldR; rw [pif_t hw, pif_f (by omega), pif_f (by omega), pif_f (by omega), pif_f (by omega), pif_t q]
    · unfold toldR; rw [pif_t hw, pif_f (by omega), pif_f (by omega), pif_f (by omega), pif_f (by omega), pif_f (by omega), pif_t q]
    · rintro r M' ⟨h, rfl⟩
      refine ⟨?_, hp⟩
      unfold toldR
      rw [pif_t hw, pif_f (by omega), pif_f (by omega), pif_f (by omega), pif_f (by omega), pif_f (by omega), pif_f (by omega), pif_t q]
      unfold stR
      rcases h with ⟨b1, b2⟩ | ⟨b1, b2⟩ | ⟨b1, b2, b3, b4⟩ | ⟨b1, b2, b3, b4⟩
      · rw [pif_f b1]; exact b2
      · rw [pif_t b1.1, pif_t b1]; exact b2
      · rw [pif_t b1, pif_f b2, pif_t b3]; exact b4
      · rw [pif_t b1, pif_f b2, pif_f b3]; exact b4
    · unfold toldR; rw [pif_t hw, pif_f (by omega), pif_f (by omega), pif_f (by omega), pif_f (by omega), pif_f (by omega), pif_f (by omega), pif_f (by omega), pif_t q]
    · rw [((hv (by omega)).2.2 w hw).1.1]
      unfold toldR; rw [pif_t hw, pif_f (by omega), pif_f (by omega), pif_f (by omega), pif_f (by omega), pif_f (by omega), pif_f (by omega), pif_f (by omega), pif_f (by omega), pif_t q]
    · rw [((hv (by omega)).2.2 w hw).1.2]
      unfold toldR; rw [pif_t hw, pif_f (by omega), pif_f (by omega), pif_f (by omega), pif_f (by omega), pif_f (by omega), pif_f (by omega), pif_f (by omega), pif_f (by omega), pif_f (by omega), pif_t q]
    · unfold toldR; rw [pif_t hw, pif_f (by omega), pif_f (by omega), pif_f (by omega), pif_f (by omega), pif_f (by omega), pif_f (by omega), pif_f (by omega), pif_f (by omega), pif_f (by omega), pif_f (by omega), pif_t q]
    · unfold toldR; rw [pif_t hw, pif_f (by omega), pif_f (by omega), pif_f (by omega), pif_f (by omega), pif_f (by omega), pif_f (by omega), pif_f (by omega), pif_f (by omega), pif_f (by omega), pif_f (by omega), pif_f (by omega), pif_f (by omega), pif_t q]
    · unfold toldR; rw [pif_t hw, pif_f (by omega), pif_f (by omega), pif_f (by omega), pif_f (by omega), pif_f (by omega), pif_f (by omega), pif_f (by omega), pif_f (by omega), pif_f (by omega), pif_f (by omega), pif_f (by omega), pif_f (by omega), pif_f (by omega)]
  refine ⟨fun q2 => L34 M 0 (mPo_rf hs hc) (fun z => by omega), fun q2 => ⟨fun q3 => L34 M 0 (mPo_rf hs hc) (fun z => by omega), fun q3 => ⟨hs.1, _, c_way hs hc hi ha, fun r M' hp => L34 M' r hp.2.1 (fun _ => ⟨hp.1, hp.2⟩)⟩⟩⟩
end M10
