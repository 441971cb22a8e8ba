/-! ===== the class: need, tells, put, take ===== -/
theorem yup2 (Y : yS) (f : Nat) (i u v : Int) : yup (yup Y f i u) f i v = yup Y f i v := by
  funext g j
  unfold yup
  by_cases e : g = f ∧ j = i
  · rw [if_pos e, if_pos e]
  · rw [if_neg e, if_neg e, if_neg e]
theorem yupc (Y : yS) {f g : Nat} (h : f ≠ g) (i j u v : Int) : yup (yup Y f i u) g j v = yup (yup Y g j v) f i u := by
  funext o k
  unfold yup
  by_cases e : o = g ∧ k = j
  · rw [if_pos e, if_neg (fun z => h (z.1.symm.trans e.1)), if_pos e]
  · rw [if_neg e]
    by_cases e2 : o = f ∧ k = i
    · rw [if_pos e2, if_pos e2]
    · rw [if_neg e2, if_neg e2, if_neg e]
theorem yup_id (Y : yS) {f : Nat} {i u : Int} (h : Y f i = u) : yup Y f i u = Y := by
  funext o k
  unfold yup
  by_cases e : o = f ∧ k = i
  · rw [if_pos e, e.1, e.2, h]
  · rw [if_neg e]
/-- needs change, early and tail are weighed anew -/
theorem kRp_k {V V1 Y Y' : yS} {L L2 : yL} (h : kRp V L Y) (hV : kWo V1 V) (hL : ∀ o, o ≠ 34 → o ≠ 35 → ∀ i, L2 o i = L o i) (hnd : rNd L2 Y') (hun : rUn L2 Y') (het : rEt V1 Y') (y : ∀ f, f ≠ 17 → ∀ i, Y' f i = Y f i) : kRp V1 L2 Y' := by
  have v : ∀ o, o ≠ 5 → o ≠ 7 → o ≠ 32 → o ≠ 33 → ∀ i, V1 o i = V o i := fun o h5 h7 h32 h33 i => hV o h7 h32 h33 i (fun z => h5 z.1)
  have hS := h.1
  have hG := h.2.1
  exact ⟨⟨by rw [v 1 (by omega) (by omega) (by omega) (by omega), y 1 (by omega)]; exact hS.1, by rw [v 1 (by omega) (by omega) (by omega) (by omega), y 6 (by omega)]; exact hS.2.1, by rw [hV 5 (by omega) (by omega) (by omega) 4 (by omega), y 8 (by omega)]; exact hS.2.2.1, by rw [v 10 (by omega) (by omega) (by omega) (by omega), y 0 (by omega)]; exact hS.2.2.2⟩, ⟨fun i => by rw [v 2 (by omega) (by omega) (by omega) (by omega), y 2 (by omega)]; exact hG.1 i, fun i => by rw [v 18 (by omega) (by omega) (by omega) (by omega), y 4 (by omega)]; exact hG.2.1 i, fun i => by rw [v 19 (by omega) (by omega) (by omega) (by omega), y 5 (by omega)]; exact hG.2.2 i⟩, rNr_c (kRp_nr h) (v 3 (by omega) (by omega) (by omega) (by omega)) (y 3 (by omega)), rBr_c (kRp_br h) (v 4 (by omega) (by omega) (by omega) (by omega)) (y 7 (by omega)), rW_c (kRp_w h) (fun f _ _ => v f (by omega) (by omega) (by omega) (by omega)) (hL 23 (by omega) (by omega)) (fun f _ _ => y f (by omega)), hnd, hun, rTl_c (kRp_tl h) (hL 36 (by omega) (by omega)) (y 8 (by omega)) (y 18 (by omega)), rFo_c (kRp_fo h) (hL 37 (by omega) (by omega)) (y 3 (by omega)) (y 7 (by omega)) (y 8 (by omega)) (y 12 (by omega)) (y 13 (by omega)), het, rTk_c (kRp_tk h) (hL 8 (by omega) (by omega)) (hL 9 (by omega) (by omega)) (y 8 (by omega)) (y 12 (by omega)) (y 14 (by omega)), rBd_c (kRp_bd h) (hL 11 (by omega) (by omega)) (fun t ht => v (13 + t) (by omega) (by omega) (by omega) (by omega)) (y 8 (by omega)) (y 9 (by omega)) (y 10 (by omega)) (y 11 (by omega)) (y 15 (by omega))⟩
noncomputable def lkL (L : yL) (Y : yS) (w k q : Int) : yL := fun o i => pif (o = 35 ∧ 0 ≤ i ∧ i < q ∧ (i = w ∨ yHang Y i w)) (L 35 i ||| (L 35 k ||| zbit k)) (lup L 34 w (L 34 w ||| zbit k) o i)
theorem lkL_n {L : yL} {Y : yS} {w k q : Int} (h : ¬ (q = w ∨ yHang Y q w)) (o : Nat) (i : Int) : lkL L Y w k q o i = lkL L Y w k (q + 1) o i := by
  unfold lkL
  refine pif_c ⟨fun z => ⟨z.1, z.2.1, by have := z.2.2.1; omega, z.2.2.2⟩, fun z => ⟨z.1, z.2.1, ?_, z.2.2.2⟩⟩
  have := z.2.2.1
  by_cases e : i = q
  · rw [e] at z; exact absurd z.2.2.2 h
  · omega
theorem lkL_s {L : yL} {Y : yS} {w k q : Int} (h : q = w ∨ yHang Y q w) (h0 : 0 ≤ q) (o : Nat) (i : Int) : lup (lkL L Y w k q) 35 q (L 35 q ||| (L 35 k ||| zbit k)) o i = lkL L Y w k (q + 1) o i := by
  by_cases e : o = 35 ∧ i = q
  · show (if o = 35 ∧ i = q then _ else _) = _
    rw [if_pos e, e.1, e.2]
    unfold lkL
    rw [pif_t ⟨rfl, h0, by omega, h⟩]
  · show (if o = 35 ∧ i = q then _ else _) = _
    rw [if_neg e]
    unfold lkL
    refine pif_c ⟨fun z => ⟨z.1, z.2.1, by have := z.2.2.1; omega, z.2.2.2⟩, fun z => ⟨z.1, z.2.1, ?_, z.2.2.2⟩⟩
    have := z.2.2.1
    have : i ≠ q := fun e2 => e ⟨z.1, e2⟩
    omega
theorem lkL_o {L : yL} {Y : yS} {w k q : Int} {o : Nat} (h : o ≠ 34) (h2 : o ≠ 35) (i : Int) : lkL L Y w k q o i = L o i := by
  unfold lkL
  rw [pif_f (fun z => h2 z.1)]
  show (if o = 34 ∧ i = w then _ else _) = _
  rw [if_neg (fun z => h z.1)]
theorem lkL_q {L : yL} {Y : yS} {w k q i : Int} (h : q ≤ i) : lkL L Y w k q 35 i = L 35 i := by
  unfold lkL
  rw [pif_f (fun z => by have := z.2.2.1; omega)]
  rfl
section C15
variable {E : zE} {d x : Nat} {wa : Int → Nat} {M : zM} {V Y : yS} {L : yL} {c : Int}
theorem k_mayLean (h : kR x wa M V L Y) (hi : yInv c Y) {w k : Int} (hw : yWk Y w) (hk : yWk Y k) : zCi E mX6_mayLean (d + 3) 0 0 [vR (some x), vR (some (wa w)), vR (some (wa k))] M (fun r M' => r = p2i (w ≠ k ∧ ¬ yHang Y k w ∧ ¬ yBegun Y w) ∧ M' = M) := by
  refine sX6_mayLean _ _ _ (fun X hr => vX6_mayLean_0 hr _ _ _ ?_)
  have e : (L 35 k &&& zbit w ≠ 0) ↔ yHang Y k w := zBs_in (kRp_un h.2.2 k hk) hw.1 (by have := yW_lt hi hw; omega)
  refine ⟨fun q => ⟨p2i_z0 (fun z => z.1 (h.1.2.2.2 w k hw.1 hw.2 hk.1 hk.2 (Option.some.inj q))), rfl⟩, fun q => ⟨kwK h.1 hk.1 hk.2, zu (k_hangsOn (kwK h.1 hk.1 hk.2) (kwK h.1 hw.1 hw.2)) ?_⟩⟩
  have wk : w ≠ k := fun e => q (by rw [e])
  simp only [kk0 h.1, kk1 h.1, kk2 h.1, kk3 h.1, kk4 h.1, kk5 h.1, kk6 h.1, kk7 h.1, kk8 h.1, kk9 h.1, kk10 h.1, kk11 h.1, kk12 h.1, kk13 h.1, kk14 h.1, kk15 h.1, kk16 h.1, kk17 h.1, kk18 h.1, kk19 h.1, kk20 h.1, kk21 h.1, kr0_0 h.1, kr0_1 h.1, kr0_2 h.1, kr0_3 h.1, kr0_4 h.1, kr1_0 h.1, kr1_1 h.1, kr1_2 h.1, kr5_0 h.1, kr5_1 h.1, kr5_2 h.1, kr5_3 h.1, kr10_0 h.1, kr10_1 h.1, kr17_0 h.1, kr17_1 h.1, kr17_2 h.1, kr17_3 h.1, kr17_4 h.1, kr20_0 h.1, kr20_1 h.1, kr20_2 h.1, kr20_3 h.1, ki1 h.2.1, ki2 h.2.1, ki3 h.2.1, ki4 h.2.1, ki5 h.2.1, ki7 h.2.1, kl8 h.2.1, kl9 h.2.1, ki10 h.2.1, kl11 h.2.1, ki13 h.2.1, ki14 h.2.1, ki15 h.2.1, ki16 h.2.1, ki17 h.2.1, ki18 h.2.1, ki19 h.2.1, ki20 h.2.1, ki21 h.2.1, Option.some.injEq, exists_eq_left', true_and, rs13 h.2.2, rs14 h.2.2, rs54 h.2.2, rs102 h.2.2, rg2 h.2.2, rg18 h.2.2, rg19 h.2.2, kwR h.1 hw.1 hw.2, kwK h.1 hw.1 hw.2, kwi0 h.2.1 hw.1 hw.2, kwl1 h.2.1 hw.1 hw.2, kwi2 h.2.1 hw.1 hw.2, kwi3 h.2.1 hw.1 hw.2, kwi4 h.2.1 hw.1 hw.2, kwi5 h.2.1 hw.1 hw.2, kwi6 h.2.1 hw.1 hw.2, kwi7 h.2.1 hw.1 hw.2, kwi8 h.2.1 hw.1 hw.2, kwi9 h.2.1 hw.1 hw.2, kwi10 h.2.1 hw.1 hw.2, kwi11 h.2.1 hw.1 hw.2, kwl12 h.2.1 hw.1 hw.2, kwl13 h.2.1 hw.1 hw.2, kwl14 h.2.1 hw.1 hw.2, kwl15 h.2.1 hw.1 hw.2, rw22 h.2.2 hw, rw23 h.2.2 hw, rw24 h.2.2 hw, rw25 h.2.2 hw, rw26 h.2.2 hw, rw27 h.2.2 hw, rw28 h.2.2 hw, rw29 h.2.2 hw, rw30 h.2.2 hw, rw31 h.2.2 hw, rw32 h.2.2 hw, rw33 h.2.2 hw, kwl13 h.2.1 hk.1 hk.2, e]
  refine ⟨fun q2 => ⟨p2i_z0 (fun z => z.2.1 (p2i_n0.mp q2)), by trivial⟩, fun q2 => zu (k_hasBegun (kwK h.1 hw.1 hw.2) _) ?_⟩
  simp only [kwR h.1 hw.1 hw.2, kwK h.1 hw.1 hw.2, kwi0 h.2.1 hw.1 hw.2, kwl1 h.2.1 hw.1 hw.2, kwi2 h.2.1 hw.1 hw.2, kwi3 h.2.1 hw.1 hw.2, kwi4 h.2.1 hw.1 hw.2, kwi5 h.2.1 hw.1 hw.2, kwi6 h.2.1 hw.1 hw.2, kwi7 h.2.1 hw.1 hw.2, kwi8 h.2.1 hw.1 hw.2, kwi9 h.2.1 hw.1 hw.2, kwi10 h.2.1 hw.1 hw.2, kwi11 h.2.1 hw.1 hw.2, kwl12 h.2.1 hw.1 hw.2, kwl13 h.2.1 hw.1 hw.2, kwl14 h.2.1 hw.1 hw.2, kwl15 h.2.1 hw.1 hw.2, rw22 h.2.2 hw, rw23 h.2.2 hw, rw24 h.2.2 hw, rw25 h.2.2 hw, rw26 h.2.2 hw, rw27 h.2.2 hw, rw28 h.2.2 hw, rw29 h.2.2 hw, rw30 h.2.2 hw, rw31 h.2.2 hw, rw32 h.2.2 hw, rw33 h.2.2 hw]
  exact ⟨fun q3 => ⟨p2i_z0 (fun z => z.2.2 (p2i_n0.mp q3)), by trivial⟩, fun q3 => ⟨p2i_z1 ⟨wk, p2i_0.mp q2, p2i_0.mp q3⟩, by trivial⟩⟩
theorem k_link (h : kR x wa M V L Y) (hj : yJ c Y) {w k : Int} (hok : canOk Y w k) : zCv E mX2_link (d + 4) 0 0 [vR (some (x + 5)), vR (some (wa w)), vR (some (wa k))] M (fun M' => kT x wa M M' (yup Y 17 (40 * w + k) 1)) := by
  refine sX2_link _ _ _ (fun X hr => vX2_link_0 hr _ _ _ ?_)
  have hi := hj.1
  have h8 := yI_n hi
  have hj' := yJ_need1 hj hok
  obtain ⟨hw, hk, hwk, -, -⟩ := hok
  have w40 := yW_lt hi hw
  have k40 := yW_lt hi hk
  simp only [kwR h.1 hw.1 hw.2, kwK h.1 hw.1 hw.2, kwi0 h.2.1 hw.1 hw.2, kwl1 h.2.1 hw.1 hw.2, kwi2 h.2.1 hw.1 hw.2, kwi3 h.2.1 hw.1 hw.2, kwi4 h.2.1 hw.1 hw.2, kwi5 h.2.1 hw.1 hw.2, kwi6 h.2.1 hw.1 hw.2, kwi7 h.2.1 hw.1 hw.2, kwi8 h.2.1 hw.1 hw.2, kwi9 h.2.1 hw.1 hw.2, kwi10 h.2.1 hw.1 hw.2, kwi11 h.2.1 hw.1 hw.2, kwl12 h.2.1 hw.1 hw.2, kwl13 h.2.1 hw.1 hw.2, kwl14 h.2.1 hw.1 hw.2, kwl15 h.2.1 hw.1 hw.2, rw22 h.2.2 hw, rw23 h.2.2 hw, rw24 h.2.2 hw, rw25 h.2.2 hw, rw26 h.2.2 hw, rw27 h.2.2 hw, rw28 h.2.2 hw, rw29 h.2.2 hw, rw30 h.2.2 hw, rw31 h.2.2 hw, rw32 h.2.2 hw, rw33 h.2.2 hw, kwR h.1 hk.1 hk.2, kwK h.1 hk.1 hk.2, kwi0 h.2.1 hk.1 hk.2, kwl1 h.2.1 hk.1 hk.2, kwi2 h.2.1 hk.1 hk.2, kwi3 h.2.1 hk.1 hk.2, kwi4 h.2.1 hk.1 hk.2, kwi5 h.2.1 hk.1 hk.2, kwi6 h.2.1 hk.1 hk.2, kwi7 h.2.1 hk.1 hk.2, kwi8 h.2.1 hk.1 hk.2, kwi9 h.2.1 hk.1 hk.2, kwi10 h.2.1 hk.1 hk.2, kwi11 h.2.1 hk.1 hk.2, kwl12 h.2.1 hk.1 hk.2, kwl13 h.2.1 hk.1 hk.2, kwl14 h.2.1 hk.1 hk.2, kwl15 h.2.1 hk.1 hk.2, rw22 h.2.2 hk, rw23 h.2.2 hk, rw24 h.2.2 hk, rw25 h.2.2 hk, rw26 h.2.2 hk, rw27 h.2.2 hk, rw28 h.2.2 hk, rw29 h.2.2 hk, rw30 h.2.2 hk, rw31 h.2.2 hk, rw32 h.2.2 hk, rw33 h.2.2 hk]
  refine ⟨by trivial, by trivial, by trivial, ?_⟩
  rintro M1 e1
  have hp1 := kPo_wL (f := 12) (kPo_rf h.1 h.2.1) e1 rfl rfl (by decide) hw.1 hw.2
  have l23 : lup L (22 + 12) w (L 34 w ||| zbit k) 23 k = zbit k := rw23 h.2.2 hk
  have l35 : lup L (22 + 12) w (L 34 w ||| zbit k) 35 k = L 35 k := rfl
  simp only [kwR hp1.1 hk.1 hk.2, kwK hp1.1 hk.1 hk.2, kwi0 hp1.2.1 hk.1 hk.2, kwl1 hp1.2.1 hk.1 hk.2, kwi2 hp1.2.1 hk.1 hk.2, kwi3 hp1.2.1 hk.1 hk.2, kwi4 hp1.2.1 hk.1 hk.2, kwi5 hp1.2.1 hk.1 hk.2, kwi6 hp1.2.1 hk.1 hk.2, kwi7 hp1.2.1 hk.1 hk.2, kwi8 hp1.2.1 hk.1 hk.2, kwi9 hp1.2.1 hk.1 hk.2, kwi10 hp1.2.1 hk.1 hk.2, kwi11 hp1.2.1 hk.1 hk.2, kwl12 hp1.2.1 hk.1 hk.2, kwl13 hp1.2.1 hk.1 hk.2, kwl14 hp1.2.1 hk.1 hk.2, kwl15 hp1.2.1 hk.1 hk.2, l23, l35]
  refine ⟨by trivial, by trivial, ?_⟩
  have key : ∀ q : Int, 0 ≤ q → q ≤ Y 8 0 → ∀ M2 : zM, kPo x wa (Y 8 0) M M2 V (lkL L Y w k q) → ZX2_link E (d + 3) X (fun M' => kT x wa M M' (yup Y 17 (40 * w + k) 1)) 26 [(0, vR (some (x + 5))), (1, vR (some (wa w))), (2, vR (some (wa k))), (3, vL (L 35 k ||| zbit k)), (5, vI q)] [] M2 0 0 := by
    refine zdownI (n := Y 8 0) (fun q hq hq0 hq2 M2 hp => ?_) (fun q hq0 hq ih hq2 M2 hp => ?_)
    · have hq : q = Y 8 0 := by omega
      subst hq
      have hnd : rNd (lkL L Y w k (Y 8 0)) (yup Y 17 (40 * w + k) 1) := fun a ha => by
        have ha : yWk Y a := ha
        have h1 := kRp_nd h.2.2 a ha
        by_cases e : a = w
        · have el : lkL L Y w k (Y 8 0) 34 a = L 34 a ||| zbit k := by
            unfold lkL
            rw [pif_f (fun z => by have := z.1; omega), e]
            show (if (34 : Nat) = 34 ∧ w = w then _ else _) = _
            rw [if_pos ⟨rfl, rfl⟩]
          rw [el]
          refine zBs_eq (zBs_or h1 (zBs_bit hk.1 (by omega))) (fun m m0 m1 => ?_)
          constructor
          · rintro (z | z)
            · exact ⟨z.1, (nd_up hk.1 k40 a m m0 (yW_lt hi z.1)).mpr (Or.inl z.2)⟩
            · rw [z]
              exact ⟨hk, (nd_up hk.1 k40 a k hk.1 k40).mpr (Or.inr ⟨e, rfl⟩)⟩
          · rintro ⟨z1, z2⟩
            have z1 : yWk Y m := z1
            rcases (nd_up hk.1 k40 a m m0 (yW_lt hi z1)).mp z2 with z | z
            · exact Or.inl ⟨z1, z⟩
            · exact Or.inr z.2
        · have el : lkL L Y w k (Y 8 0) 34 a = L 34 a := by
            unfold lkL
            rw [pif_f (fun z => by have := z.1; omega)]
            show (if (34 : Nat) = 34 ∧ a = w then _ else _) = _
            rw [if_neg (fun z => e z.2)]
          rw [el]
          refine zBs_eq h1 (fun m m0 m1 => ?_)
          constructor
          · exact fun z => ⟨z.1, (nd_up hk.1 k40 a m m0 (yW_lt hi z.1)).mpr (Or.inl z.2)⟩
          · rintro ⟨z1, z2⟩
            have z1 : yWk Y m := z1
            exact ⟨z1, ((nd_up hk.1 k40 a m m0 (yW_lt hi z1)).mp z2).elim id (fun z => absurd z.1 e)⟩
      have hun : rUn (lkL L Y w k (Y 8 0)) (yup Y 17 (40 * w + k) 1) := fun a ha => by
        have ha : yWk Y a := ha
        have h1 := kRp_un h.2.2 a ha
        by_cases e : a = w ∨ yHang Y a w
        · have el : lkL L Y w k (Y 8 0) 35 a = L 35 a ||| (L 35 k ||| zbit k) := pif_t ⟨rfl, ha.1, ha.2, e⟩
          rw [el]
          refine zBs_eq (zBs_or h1 (zBs_or (kRp_un h.2.2 k hk) (zBs_bit hk.1 (by omega)))) (fun m m0 m1 => ?_)
          rw [hang_up hi hw hk a m]
          constructor
          · rintro (z | z | z)
            · exact Or.inl z
            · exact Or.inr ⟨e, Or.inr z⟩
            · exact Or.inr ⟨e, Or.inl z⟩
          · rintro (z | ⟨-, z | z⟩)
            · exact Or.inl z
            · exact Or.inr (Or.inr z)
            · exact Or.inr (Or.inl z)
        · have el : lkL L Y w k (Y 8 0) 35 a = L 35 a := by
            unfold lkL
            rw [pif_f (fun z => e z.2.2.2)]
            rfl
          rw [el]
          refine zBs_eq h1 (fun m m0 m1 => ?_)
          rw [hang_up hi hw hk a m]
          exact ⟨Or.inl, fun z => z.elim id (fun z => absurd z.1 e)⟩
      refine vX2_link_26 hr _ _ _ _ _ ?_
      simp only [kk0 hp.1, kk1 hp.1, kk2 hp.1, kk3 hp.1, kk4 hp.1, kk5 hp.1, kk6 hp.1, kk7 hp.1, kk8 hp.1, kk9 hp.1, kk10 hp.1, kk11 hp.1, kk12 hp.1, kk13 hp.1, kk14 hp.1, kk15 hp.1, kk16 hp.1, kk17 hp.1, kk18 hp.1, kk19 hp.1, kk20 hp.1, kk21 hp.1, kr0_0 hp.1, kr0_1 hp.1, kr0_2 hp.1, kr0_3 hp.1, kr0_4 hp.1, kr1_0 hp.1, kr1_1 hp.1, kr1_2 hp.1, kr5_0 hp.1, kr5_1 hp.1, kr5_2 hp.1, kr5_3 hp.1, kr10_0 hp.1, kr10_1 hp.1, kr17_0 hp.1, kr17_1 hp.1, kr17_2 hp.1, kr17_3 hp.1, kr17_4 hp.1, kr20_0 hp.1, kr20_1 hp.1, kr20_2 hp.1, kr20_3 hp.1, ki1 hp.2.1, ki2 hp.2.1, ki3 hp.2.1, ki4 hp.2.1, ki5 hp.2.1, ki7 hp.2.1, kl8 hp.2.1, kl9 hp.2.1, ki10 hp.2.1, kl11 hp.2.1, ki13 hp.2.1, ki14 hp.2.1, ki15 hp.2.1, ki16 hp.2.1, ki17 hp.2.1, ki18 hp.2.1, ki19 hp.2.1, ki20 hp.2.1, ki21 hp.2.1, Option.some.injEq, exists_eq_left', true_and, rs54 h.2.2]
      refine ⟨fun _ => ⟨_, k_weigh (Y := yup Y 17 (40 * w + k) 1) hp.1 hp.2.1 (h.2.2.1.2.2.1) (fun a ha => rw29 h.2.2 ha) (fun a ha => by rw [lkL_o (by omega) (by omega)]; exact rw23 h.2.2 ha) hnd hun hj'.1 hj'.2.1, ?_⟩, fun z => by omega⟩
      rintro M3 ⟨V3, hp3, hV3, het⟩
      exact ⟨V3, _, kPo_tr hp hp3, kRp_k h.2.2 hV3 (fun o h34 h35 i => lkL_o h34 h35 i) hnd hun het (fun f hf => yup_o hf)⟩
    · have ih := ih (by omega)
      have hm : yWk Y q := ⟨hq0, hq⟩
      have l35q : lkL L Y w k q 35 q = L 35 q := lkL_q (Int.le_refl _)
      have l23w : lkL L Y w k q 23 w = zbit w := by rw [lkL_o (by omega) (by omega)]; exact rw23 h.2.2 hw
      have eh : (L 35 q &&& zbit w ≠ 0) ↔ yHang Y q w := zBs_in (kRp_un h.2.2 q hm) hw.1 (by omega)
      refine vX2_link_26 hr _ _ _ _ _ ?_
      simp only [kk0 hp.1, kk1 hp.1, kk2 hp.1, kk3 hp.1, kk4 hp.1, kk5 hp.1, kk6 hp.1, kk7 hp.1, kk8 hp.1, kk9 hp.1, kk10 hp.1, kk11 hp.1, kk12 hp.1, kk13 hp.1, kk14 hp.1, kk15 hp.1, kk16 hp.1, kk17 hp.1, kk18 hp.1, kk19 hp.1, kk20 hp.1, kk21 hp.1, kr0_0 hp.1, kr0_1 hp.1, kr0_2 hp.1, kr0_3 hp.1, kr0_4 hp.1, kr1_0 hp.1, kr1_1 hp.1, kr1_2 hp.1, kr5_0 hp.1, kr5_1 hp.1, kr5_2 hp.1, kr5_3 hp.1, kr10_0 hp.1, kr10_1 hp.1, kr17_0 hp.1, kr17_1 hp.1, kr17_2 hp.1, kr17_3 hp.1, kr17_4 hp.1, kr20_0 hp.1, kr20_1 hp.1, kr20_2 hp.1, kr20_3 hp.1, ki1 hp.2.1, ki2 hp.2.1, ki3 hp.2.1, ki4 hp.2.1, ki5 hp.2.1, ki7 hp.2.1, kl8 hp.2.1, kl9 hp.2.1, ki10 hp.2.1, kl11 hp.2.1, ki13 hp.2.1, ki14 hp.2.1, ki15 hp.2.1, ki16 hp.2.1, ki17 hp.2.1, ki18 hp.2.1, ki19 hp.2.1, ki20 hp.2.1, ki21 hp.2.1, Option.some.injEq, exists_eq_left', true_and, kwR hp.1 hq0 hq, kwK hp.1 hq0 hq, kwi0 hp.2.1 hq0 hq, kwl1 hp.2.1 hq0 hq, kwi2 hp.2.1 hq0 hq, kwi3 hp.2.1 hq0 hq, kwi4 hp.2.1 hq0 hq, kwi5 hp.2.1 hq0 hq, kwi6 hp.2.1 hq0 hq, kwi7 hp.2.1 hq0 hq, kwi8 hp.2.1 hq0 hq, kwi9 hp.2.1 hq0 hq, kwi10 hp.2.1 hq0 hq, kwi11 hp.2.1 hq0 hq, kwl12 hp.2.1 hq0 hq, kwl13 hp.2.1 hq0 hq, kwl14 hp.2.1 hq0 hq, kwl15 hp.2.1 hq0 hq, rs54 h.2.2, l35q]
      refine ⟨fun z => by omega, fun _ => ⟨by trivial, hq0, by omega, fun z => ?_, fun z => zu (k_hangsOn (kwK hp.1 hq0 hq) (kwK hp.1 hw.1 hw.2)) ?_⟩⟩
      · have qw : q = w := h.1.2.2.2 q w hq0 hq hw.1 hw.2 z
        rintro M3 e3
        exact ⟨by unfold zin; omega, ih M3 (kPo_eq (kPo_wL (f := 13) hp e3 rfl rfl (by decide) hq0 hq) (fun _ _ => rfl) (lkL_s (Or.inl qw) hq0))⟩
      · have qw : q ≠ w := fun e => z (by rw [e])
        simp only [kwR hp.1 hq0 hq, kwK hp.1 hq0 hq, kwi0 hp.2.1 hq0 hq, kwl1 hp.2.1 hq0 hq, kwi2 hp.2.1 hq0 hq, kwi3 hp.2.1 hq0 hq, kwi4 hp.2.1 hq0 hq, kwi5 hp.2.1 hq0 hq, kwi6 hp.2.1 hq0 hq, kwi7 hp.2.1 hq0 hq, kwi8 hp.2.1 hq0 hq, kwi9 hp.2.1 hq0 hq, kwi10 hp.2.1 hq0 hq, kwi11 hp.2.1 hq0 hq, kwl12 hp.2.1 hq0 hq, kwl13 hp.2.1 hq0 hq, kwl14 hp.2.1 hq0 hq, kwl15 hp.2.1 hq0 hq, kwl1 hp.2.1 hw.1 hw.2, l35q, l23w, eh]
        refine ⟨fun z2 => ⟨by unfold zin; omega, ih M2 (kPo_eq hp (fun _ _ => rfl) (lkL_n (fun z3 => z3.elim qw (p2i_0.mp z2))))⟩, fun z2 => ⟨by trivial, by trivial, ?_⟩⟩
        rintro M3 e3
        exact ⟨by unfold zin; omega, ih M3 (kPo_eq (kPo_wL (f := 13) hp e3 rfl rfl (by decide) hq0 hq) (fun _ _ => rfl) (lkL_s (Or.inr (p2i_n0.mp z2)) hq0))⟩
  exact key 0 (by omega) h8.1 M1 (kPo_eq hp1 (fun _ _ => rfl) (fun o i => (pif_f (fun z => by have := z.2.2.1; omega)).symm))
theorem k_need (h : kR x wa M V L Y) (hj : yJ c Y) (w k : Int) : zCi E mX6_need (d + 5) 0 0 [vR (some x), vI w, vI k] M (fun r M' => r = p2i (needOk Y w k) ∧ kT x wa M M' (needY Y w k)) := by
  refine sX6_need _ _ _ (fun X hr => vX6_need_0 hr _ _ _ ?_)
  have hi := hj.1
  have no : ¬ needOk Y w k → (0 : Int) = p2i (needOk Y w k) ∧ kT x wa M M (needY Y w k) := fun n => ⟨p2i_z0 n, by unfold needY; rw [pif_f n]; exact kT_rf h⟩
  simp only [kk0 h.1, kk1 h.1, kk2 h.1, kk3 h.1, kk4 h.1, kk5 h.1, kk6 h.1, kk7 h.1, kk8 h.1, kk9 h.1, kk10 h.1, kk11 h.1, kk12 h.1, kk13 h.1, kk14 h.1, kk15 h.1, kk16 h.1, kk17 h.1, kk18 h.1, kk19 h.1, kk20 h.1, kk21 h.1, kr0_0 h.1, kr0_1 h.1, kr0_2 h.1, kr0_3 h.1, kr0_4 h.1, kr1_0 h.1, kr1_1 h.1, kr1_2 h.1, kr5_0 h.1, kr5_1 h.1, kr5_2 h.1, kr5_3 h.1, kr10_0 h.1, kr10_1 h.1, kr17_0 h.1, kr17_1 h.1, kr17_2 h.1, kr17_3 h.1, kr17_4 h.1, kr20_0 h.1, kr20_1 h.1, kr20_2 h.1, kr20_3 h.1, ki1 h.2.1, ki2 h.2.1, ki3 h.2.1, ki4 h.2.1, ki5 h.2.1, ki7 h.2.1, kl8 h.2.1, kl9 h.2.1, ki10 h.2.1, kl11 h.2.1, ki13 h.2.1, ki14 h.2.1, ki15 h.2.1, ki16 h.2.1, ki17 h.2.1, ki18 h.2.1, ki19 h.2.1, ki20 h.2.1, ki21 h.2.1, Option.some.injEq, exists_eq_left', true_and, rs13 h.2.2, rs14 h.2.2, rs54 h.2.2, rs102 h.2.2, rg2 h.2.2, rg18 h.2.2, rg19 h.2.2]
  refine zur (k_find h hi w) ?_
  simp only [kk0 h.1, kk1 h.1, kk2 h.1, kk3 h.1, kk4 h.1, kk5 h.1, kk6 h.1, kk7 h.1, kk8 h.1, kk9 h.1, kk10 h.1, kk11 h.1, kk12 h.1, kk13 h.1, kk14 h.1, kk15 h.1, kk16 h.1, kk17 h.1, kk18 h.1, kk19 h.1, kk20 h.1, kk21 h.1, kr0_0 h.1, kr0_1 h.1, kr0_2 h.1, kr0_3 h.1, kr0_4 h.1, kr1_0 h.1, kr1_1 h.1, kr1_2 h.1, kr5_0 h.1, kr5_1 h.1, kr5_2 h.1, kr5_3 h.1, kr10_0 h.1, kr10_1 h.1, kr17_0 h.1, kr17_1 h.1, kr17_2 h.1, kr17_3 h.1, kr17_4 h.1, kr20_0 h.1, kr20_1 h.1, kr20_2 h.1, kr20_3 h.1, ki1 h.2.1, ki2 h.2.1, ki3 h.2.1, ki4 h.2.1, ki5 h.2.1, ki7 h.2.1, kl8 h.2.1, kl9 h.2.1, ki10 h.2.1, kl11 h.2.1, ki13 h.2.1, ki14 h.2.1, ki15 h.2.1, ki16 h.2.1, ki17 h.2.1, ki18 h.2.1, ki19 h.2.1, ki20 h.2.1, ki21 h.2.1, Option.some.injEq, exists_eq_left', true_and, rs13 h.2.2, rs14 h.2.2, rs54 h.2.2, rs102 h.2.2, rg2 h.2.2, rg18 h.2.2, rg19 h.2.2]
  refine zur (k_find h hi k) ?_
  by_cases hw : yWk Y w
  · by_cases hk : yWk Y k
    · rw [pif_t hw, pif_t hk]
      refine ⟨fun z => (by cases z), fun _ => ⟨fun z => (by cases z), fun _ => ⟨_, rfl, _, rfl, kk0 h.1, zu (k_mayLean h hi hw hk) ⟨fun q => no (fun z => p2i_0.mp q ⟨z.1.2.2.1, z.1.2.2.2.2, z.1.2.2.2.1⟩), fun q => ⟨kwK h.1 hw.1 hw.2, zu (k_leansOn (kwK h.1 hw.1 hw.2) (kwK h.1 hk.1 hk.2)) ?_⟩⟩⟩⟩⟩
      have q := p2i_n0.mp q
      simp only [kk0 h.1, kk1 h.1, kk2 h.1, kk3 h.1, kk4 h.1, kk5 h.1, kk6 h.1, kk7 h.1, kk8 h.1, kk9 h.1, kk10 h.1, kk11 h.1, kk12 h.1, kk13 h.1, kk14 h.1, kk15 h.1, kk16 h.1, kk17 h.1, kk18 h.1, kk19 h.1, kk20 h.1, kk21 h.1, kr0_0 h.1, kr0_1 h.1, kr0_2 h.1, kr0_3 h.1, kr0_4 h.1, kr1_0 h.1, kr1_1 h.1, kr1_2 h.1, kr5_0 h.1, kr5_1 h.1, kr5_2 h.1, kr5_3 h.1, kr10_0 h.1, kr10_1 h.1, kr17_0 h.1, kr17_1 h.1, kr17_2 h.1, kr17_3 h.1, kr17_4 h.1, kr20_0 h.1, kr20_1 h.1, kr20_2 h.1, kr20_3 h.1, ki1 h.2.1, ki2 h.2.1, ki3 h.2.1, ki4 h.2.1, ki5 h.2.1, ki7 h.2.1, kl8 h.2.1, kl9 h.2.1, ki10 h.2.1, kl11 h.2.1, ki13 h.2.1, ki14 h.2.1, ki15 h.2.1, ki16 h.2.1, ki17 h.2.1, ki18 h.2.1, ki19 h.2.1, ki20 h.2.1, ki21 h.2.1, Option.some.injEq, exists_eq_left', true_and, rs13 h.2.2, rs14 h.2.2, rs54 h.2.2, rs102 h.2.2, rg2 h.2.2, rg18 h.2.2, rg19 h.2.2, kwl12 h.2.1 hw.1 hw.2, kwl1 h.2.1 hk.1 hk.2, rw23 h.2.2 hk, kNd h.2.2 hi hw hk]
      refine ⟨fun q2 => ?_, fun q2 => no (fun z => p2i_n0.mp q2 z.2)⟩
      have q2 : Y 17 (40 * w + k) = 0 := Classical.not_not.mp (p2i_0.mp q2)
      have ok : needOk Y w k := ⟨⟨hw, hk, q.1, q.2.2, q.2.1⟩, q2⟩
      refine ⟨_, k_link h hj ok.1, fun M1 hT => ⟨p2i_z1 ok, ?_⟩⟩
      unfold needY
      rw [pif_t ok]
      exact hT
    · rw [pif_t hw, pif_f hk]
      exact ⟨fun z => (by cases z), fun _ => ⟨fun _ => no (fun z => hk z.1.2.1), fun z => absurd rfl z⟩⟩
  · rw [pif_f hw]
    exact ⟨fun _ => no (fun z => hw z.1.1), fun z => absurd rfl z⟩
theorem k_tells (h : kR x wa M V L Y) (hj : yJ c Y) (w k : Int) : zCi E mX6_tells (d + 5) 0 0 [vR (some x), vI w, vI k] M (fun r M' => r = p2i (tellsOk Y w k) ∧ kT x wa M M' (tellsY Y w k)) := by
  refine sX6_tells _ _ _ (fun X hr => vX6_tells_0 hr _ _ _ ?_)
  have hi := hj.1
  have no : ¬ tellsOk Y w k → (0 : Int) = p2i (tellsOk Y w k) ∧ kT x wa M M (tellsY Y w k) := fun n => ⟨p2i_z0 n, by unfold tellsY; rw [pif_f n]; exact kT_rf h⟩
  simp only [kk0 h.1, kk1 h.1, kk2 h.1, kk3 h.1, kk4 h.1, kk5 h.1, kk6 h.1, kk7 h.1, kk8 h.1, kk9 h.1, kk10 h.1, kk11 h.1, kk12 h.1, kk13 h.1, kk14 h.1, kk15 h.1, kk16 h.1, kk17 h.1, kk18 h.1, kk19 h.1, kk20 h.1, kk21 h.1, kr0_0 h.1, kr0_1 h.1, kr0_2 h.1, kr0_3 h.1, kr0_4 h.1, kr1_0 h.1, kr1_1 h.1, kr1_2 h.1, kr5_0 h.1, kr5_1 h.1, kr5_2 h.1, kr5_3 h.1, kr10_0 h.1, kr10_1 h.1, kr17_0 h.1, kr17_1 h.1, kr17_2 h.1, kr17_3 h.1, kr17_4 h.1, kr20_0 h.1, kr20_1 h.1, kr20_2 h.1, kr20_3 h.1, ki1 h.2.1, ki2 h.2.1, ki3 h.2.1, ki4 h.2.1, ki5 h.2.1, ki7 h.2.1, kl8 h.2.1, kl9 h.2.1, ki10 h.2.1, kl11 h.2.1, ki13 h.2.1, ki14 h.2.1, ki15 h.2.1, ki16 h.2.1, ki17 h.2.1, ki18 h.2.1, ki19 h.2.1, ki20 h.2.1, ki21 h.2.1, Option.some.injEq, exists_eq_left', true_and, rs13 h.2.2, rs14 h.2.2, rs54 h.2.2, rs102 h.2.2, rg2 h.2.2, rg18 h.2.2, rg19 h.2.2]
  refine zur (k_find h hi w) ?_
  simp only [kk0 h.1, kk1 h.1, kk2 h.1, kk3 h.1, kk4 h.1, kk5 h.1, kk6 h.1, kk7 h.1, kk8 h.1, kk9 h.1, kk10 h.1, kk11 h.1, kk12 h.1, kk13 h.1, kk14 h.1, kk15 h.1, kk16 h.1, kk17 h.1, kk18 h.1, kk19 h.1, kk20 h.1, kk21 h.1, kr0_0 h.1, kr0_1 h.1, kr0_2 h.1, kr0_3 h.1, kr0_4 h.1, kr1_0 h.1, kr1_1 h.1, kr1_2 h.1, kr5_0 h.1, kr5_1 h.1, kr5_2 h.1, kr5_3 h.1, kr10_0 h.1, kr10_1 h.1, kr17_0 h.1, kr17_1 h.1, kr17_2 h.1, kr17_3 h.1, kr17_4 h.1, kr20_0 h.1, kr20_1 h.1, kr20_2 h.1, kr20_3 h.1, ki1 h.2.1, ki2 h.2.1, ki3 h.2.1, ki4 h.2.1, ki5 h.2.1, ki7 h.2.1, kl8 h.2.1, kl9 h.2.1, ki10 h.2.1, kl11 h.2.1, ki13 h.2.1, ki14 h.2.1, ki15 h.2.1, ki16 h.2.1, ki17 h.2.1, ki18 h.2.1, ki19 h.2.1, ki20 h.2.1, ki21 h.2.1, Option.some.injEq, exists_eq_left', true_and, rs13 h.2.2, rs14 h.2.2, rs54 h.2.2, rs102 h.2.2, rg2 h.2.2, rg18 h.2.2, rg19 h.2.2]
  refine zur (k_find h hi k) ?_
  by_cases hw : yWk Y w
  · by_cases hk : yWk Y k
    · rw [pif_t hw, pif_t hk]
      have k40 := yW_lt hi hk
      refine ⟨fun z => (by cases z), fun _ => ⟨fun z => (by cases z), fun _ => ?_⟩⟩
      simp only [kk0 h.1, kk1 h.1, kk2 h.1, kk3 h.1, kk4 h.1, kk5 h.1, kk6 h.1, kk7 h.1, kk8 h.1, kk9 h.1, kk10 h.1, kk11 h.1, kk12 h.1, kk13 h.1, kk14 h.1, kk15 h.1, kk16 h.1, kk17 h.1, kk18 h.1, kk19 h.1, kk20 h.1, kk21 h.1, kr0_0 h.1, kr0_1 h.1, kr0_2 h.1, kr0_3 h.1, kr0_4 h.1, kr1_0 h.1, kr1_1 h.1, kr1_2 h.1, kr5_0 h.1, kr5_1 h.1, kr5_2 h.1, kr5_3 h.1, kr10_0 h.1, kr10_1 h.1, kr17_0 h.1, kr17_1 h.1, kr17_2 h.1, kr17_3 h.1, kr17_4 h.1, kr20_0 h.1, kr20_1 h.1, kr20_2 h.1, kr20_3 h.1, ki1 h.2.1, ki2 h.2.1, ki3 h.2.1, ki4 h.2.1, ki5 h.2.1, ki7 h.2.1, kl8 h.2.1, kl9 h.2.1, ki10 h.2.1, kl11 h.2.1, ki13 h.2.1, ki14 h.2.1, ki15 h.2.1, ki16 h.2.1, ki17 h.2.1, ki18 h.2.1, ki19 h.2.1, ki20 h.2.1, ki21 h.2.1, Option.some.injEq, exists_eq_left', true_and, rs13 h.2.2, rs14 h.2.2, rs54 h.2.2, rs102 h.2.2, rg2 h.2.2, rg18 h.2.2, rg19 h.2.2, kwR h.1 hw.1 hw.2, kwK h.1 hw.1 hw.2, kwi0 h.2.1 hw.1 hw.2, kwl1 h.2.1 hw.1 hw.2, kwi2 h.2.1 hw.1 hw.2, kwi3 h.2.1 hw.1 hw.2, kwi4 h.2.1 hw.1 hw.2, kwi5 h.2.1 hw.1 hw.2, kwi6 h.2.1 hw.1 hw.2, kwi7 h.2.1 hw.1 hw.2, kwi8 h.2.1 hw.1 hw.2, kwi9 h.2.1 hw.1 hw.2, kwi10 h.2.1 hw.1 hw.2, kwi11 h.2.1 hw.1 hw.2, kwl12 h.2.1 hw.1 hw.2, kwl13 h.2.1 hw.1 hw.2, kwl14 h.2.1 hw.1 hw.2, kwl15 h.2.1 hw.1 hw.2, rw22 h.2.2 hw, rw23 h.2.2 hw, rw24 h.2.2 hw, rw25 h.2.2 hw, rw26 h.2.2 hw, rw27 h.2.2 hw, rw28 h.2.2 hw, rw29 h.2.2 hw, rw30 h.2.2 hw, rw31 h.2.2 hw, rw32 h.2.2 hw, rw33 h.2.2 hw]
      refine ⟨fun q0 => no (fun z => q0 z.2.1), fun q0 => zu (k_mayLean h hi hw hk) ⟨fun q => ?_, fun q => no (fun z => p2i_0.mp q ⟨z.1.2.2.1, z.1.2.2.2.2, z.1.2.2.2.1⟩)⟩⟩
      have q := p2i_n0.mp q
      have et : (L 36 w &&& zbit k ≠ 0) ↔ Y 18 (40 * w + k) ≠ 0 := by
        rw [zBs_in (kRp_tl h.2.2 w hw) hk.1 (by omega)]
        exact ⟨fun z => z.2, fun z => ⟨hk, z⟩⟩
      simp only [kwR h.1 hw.1 hw.2, kwK h.1 hw.1 hw.2, kwi0 h.2.1 hw.1 hw.2, kwl1 h.2.1 hw.1 hw.2, kwi2 h.2.1 hw.1 hw.2, kwi3 h.2.1 hw.1 hw.2, kwi4 h.2.1 hw.1 hw.2, kwi5 h.2.1 hw.1 hw.2, kwi6 h.2.1 hw.1 hw.2, kwi7 h.2.1 hw.1 hw.2, kwi8 h.2.1 hw.1 hw.2, kwi9 h.2.1 hw.1 hw.2, kwi10 h.2.1 hw.1 hw.2, kwi11 h.2.1 hw.1 hw.2, kwl12 h.2.1 hw.1 hw.2, kwl13 h.2.1 hw.1 hw.2, kwl14 h.2.1 hw.1 hw.2, kwl15 h.2.1 hw.1 hw.2, rw22 h.2.2 hw, rw23 h.2.2 hw, rw24 h.2.2 hw, rw25 h.2.2 hw, rw26 h.2.2 hw, rw27 h.2.2 hw, rw28 h.2.2 hw, rw29 h.2.2 hw, rw30 h.2.2 hw, rw31 h.2.2 hw, rw32 h.2.2 hw, rw33 h.2.2 hw, kwR h.1 hk.1 hk.2, kwK h.1 hk.1 hk.2, kwi0 h.2.1 hk.1 hk.2, kwl1 h.2.1 hk.1 hk.2, kwi2 h.2.1 hk.1 hk.2, kwi3 h.2.1 hk.1 hk.2, kwi4 h.2.1 hk.1 hk.2, kwi5 h.2.1 hk.1 hk.2, kwi6 h.2.1 hk.1 hk.2, kwi7 h.2.1 hk.1 hk.2, kwi8 h.2.1 hk.1 hk.2, kwi9 h.2.1 hk.1 hk.2, kwi10 h.2.1 hk.1 hk.2, kwi11 h.2.1 hk.1 hk.2, kwl12 h.2.1 hk.1 hk.2, kwl13 h.2.1 hk.1 hk.2, kwl14 h.2.1 hk.1 hk.2, kwl15 h.2.1 hk.1 hk.2, rw22 h.2.2 hk, rw23 h.2.2 hk, rw24 h.2.2 hk, rw25 h.2.2 hk, rw26 h.2.2 hk, rw27 h.2.2 hk, rw28 h.2.2 hk, rw29 h.2.2 hk, rw30 h.2.2 hk, rw31 h.2.2 hk, rw32 h.2.2 hk, rw33 h.2.2 hk, cmp0, ne_eq]
      refine ⟨by trivial, by trivial, fun q2 => ⟨by trivial, by trivial, by trivial, ?_⟩, fun q2 => no (fun z => et.mp q2 z.2.2)⟩
      have q2 : Y 18 (40 * w + k) = 0 := Classical.byContradiction fun z => et.mpr z q2
      have ok : tellsOk Y w k := ⟨⟨hw, hk, q.1, q.2.2, q.2.1⟩, q0, q2⟩
      rintro M1 e1
      have hp1 := kPo_wL (f := 14) (kPo_rf h.1 h.2.1) e1 rfl rfl (by decide) hw.1 hw.2
      have hj1 := yJ_tells1 hj hw hk
      have lo : ∀ o, o ≠ 36 → ∀ i, lup L (22 + 14) w (L 36 w ||| zbit k) o i = L o i := fun o ho i => by
        show (if o = 36 ∧ i = w then _ else _) = _
        rw [if_neg (fun z => ho z.1)]
      have htl : rTl (lup L (22 + 14) w (L 36 w ||| zbit k)) (yup Y 18 (40 * w + k) 1) := fun a ha => by
        have ha : yWk Y a := ha
        have h1 := kRp_tl h.2.2 a ha
        show zBs (if (36 : Nat) = 36 ∧ a = w then L 36 w ||| zbit k else L 36 a) (fun m => yWk Y m ∧ yup Y 18 (40 * w + k) 1 18 (40 * a + m) ≠ 0)
        by_cases e : a = w
        · rw [if_pos ⟨rfl, e⟩, ← e]
          refine zBs_eq (zBs_or h1 (zBs_bit hk.1 (by omega))) (fun m m0 m1 => ?_)
          by_cases em : m = k
          · rw [em, yup_s]
            exact ⟨fun _ => ⟨hk, by omega⟩, fun _ => Or.inr rfl⟩
          · constructor
            · rintro (z | z)
              · exact ⟨z.1, by rw [yup_n _ _ _ _ (fun z2 => em (by have := z2.2; omega))]; exact z.2⟩
              · exact absurd z em
            · rintro ⟨z1, z2⟩
              rw [yup_n _ _ _ _ (fun z2 => em (by have := z2.2; omega))] at z2
              exact Or.inl ⟨z1, z2⟩
        · rw [if_neg (fun z => e z.2)]
          refine zBs_eq h1 (fun m m0 m1 => ?_)
          constructor
          · rintro ⟨z1, z2⟩
            have := yW_lt hi z1
            exact ⟨z1, by rw [yup_n _ _ _ _ (fun z2 => e (by have := z2.2; have := hk.1; omega))]; exact z2⟩
          · rintro ⟨z1, z2⟩
            have := yW_lt hi z1
            rw [yup_n _ _ _ _ (fun z2 => e (by have := z2.2; have := hk.1; omega))] at z2
            exact ⟨z1, z2⟩
      have hR1 : kR x wa M1 V (lup L (22 + 14) w (L 36 w ||| zbit k)) (yup Y 18 (40 * w + k) 1) := ⟨hp1.1, hp1.2.1, h.2.2.1, h.2.2.2.1, rNr_c (kRp_nr h.2.2) (fun _ => rfl) (fun _ => rfl), rBr_c (kRp_br h.2.2) (fun _ => rfl) (fun _ => rfl), rW_c (kRp_w h.2.2) (fun _ _ _ _ => rfl) (lo 23 (by omega)) (fun f _ _ => yup_o (by omega)), rNd_c (kRp_nd h.2.2) (lo 34 (by omega)) (fun _ => rfl) (fun _ => rfl), rUn_c (kRp_un h.2.2) (lo 35 (by omega)) (fun _ => rfl) (fun _ => rfl), htl, rFo_c (kRp_fo h.2.2) (lo 37 (by omega)) (fun _ => rfl) (fun _ => rfl) (fun _ => rfl) (fun _ => rfl) (fun _ => rfl), rEt_c (kRp_et h.2.2) (fun _ => rfl) (fun _ => rfl) rfl (fun _ => rfl) (fun _ => rfl) (fun _ => rfl), rTk_c (kRp_tk h.2.2) (lo 8 (by omega)) (lo 9 (by omega)) (fun _ => rfl) (fun _ => rfl) (fun _ => rfl), rBd_c (kRp_bd h.2.2) (lo 11 (by omega)) (fun _ _ _ => rfl) (fun _ => rfl) (fun _ => rfl) (fun _ => rfl) (fun _ => rfl) (fun _ => rfl)⟩
      have ok1 : canOk (yup Y 18 (40 * w + k) 1) w k := ⟨hw, hk, ok.1.2.2.1, ok.1.2.2.2.1, fun z => ok.1.2.2.2.2 ((hang_c (Y := Y) (Y' := yup Y 18 (40 * w + k) 1) (fun _ => rfl) (fun _ => rfl) k w).mp z)⟩
      refine ⟨kk0 hp1.1, x + 5, kr0_1 hp1.1, kk5 hp1.1, _, k_link hR1 hj1 ok1, fun M2 hT => ⟨p2i_z1 ok, ?_⟩⟩
      unfold tellsY
      rw [pif_t ok, yupc Y (show (17 : Nat) ≠ 18 by omega)]
      exact kT_tr (Y1 := yup Y 18 (40 * w + k) 1) ⟨V, _, hp1, hR1.2.2⟩ hT
    · rw [pif_t hw, pif_f hk]
      exact ⟨fun z => (by cases z), fun _ => ⟨fun _ => no (fun z => hk z.1.2.1), fun z => absurd rfl z⟩⟩
  · rw [pif_f hw]
    exact ⟨fun _ => no (fun z => hw z.1.1), fun z => absurd rfl z⟩
theorem k_put (h : kR x wa M V L Y) (hj : yJ c Y) (w s : Int) : zCi E mX6_put (d + 3) 0 0 [vR (some x), vI w, vI s] M (fun r M' => r = p2i (putOk Y w s) ∧ kT x wa M M' (putY Y w s)) := by
  refine sX6_put _ _ _ (fun X hr => vX6_put_0 hr _ _ _ ?_)
  have hi := hj.1
  have hn := yI_now hi
  have no : ¬ putOk Y w s → (0 : Int) = p2i (putOk Y w s) ∧ kT x wa M M (putY Y w s) := fun n => ⟨p2i_z0 n, by unfold putY; rw [pif_f n]; exact kT_rf h⟩
  simp only [kk0 h.1, kk1 h.1, kk2 h.1, kk3 h.1, kk4 h.1, kk5 h.1, kk6 h.1, kk7 h.1, kk8 h.1, kk9 h.1, kk10 h.1, kk11 h.1, kk12 h.1, kk13 h.1, kk14 h.1, kk15 h.1, kk16 h.1, kk17 h.1, kk18 h.1, kk19 h.1, kk20 h.1, kk21 h.1, kr0_0 h.1, kr0_1 h.1, kr0_2 h.1, kr0_3 h.1, kr0_4 h.1, kr1_0 h.1, kr1_1 h.1, kr1_2 h.1, kr5_0 h.1, kr5_1 h.1, kr5_2 h.1, kr5_3 h.1, kr10_0 h.1, kr10_1 h.1, kr17_0 h.1, kr17_1 h.1, kr17_2 h.1, kr17_3 h.1, kr17_4 h.1, kr20_0 h.1, kr20_1 h.1, kr20_2 h.1, kr20_3 h.1, ki1 h.2.1, ki2 h.2.1, ki3 h.2.1, ki4 h.2.1, ki5 h.2.1, ki7 h.2.1, kl8 h.2.1, kl9 h.2.1, ki10 h.2.1, kl11 h.2.1, ki13 h.2.1, ki14 h.2.1, ki15 h.2.1, ki16 h.2.1, ki17 h.2.1, ki18 h.2.1, ki19 h.2.1, ki20 h.2.1, ki21 h.2.1, Option.some.injEq, exists_eq_left', true_and, rs13 h.2.2, rs14 h.2.2, rs54 h.2.2, rs102 h.2.2, rg2 h.2.2, rg18 h.2.2, rg19 h.2.2]
  refine zur (k_find h hi w) ?_
  by_cases hw : yWk Y w
  · rw [pif_t hw]
    have hl := yI_w hi hw.1 hw.2
    refine ⟨fun z => (by cases z), fun _ => ?_⟩
    simp only [kk0 h.1, kk1 h.1, kk2 h.1, kk3 h.1, kk4 h.1, kk5 h.1, kk6 h.1, kk7 h.1, kk8 h.1, kk9 h.1, kk10 h.1, kk11 h.1, kk12 h.1, kk13 h.1, kk14 h.1, kk15 h.1, kk16 h.1, kk17 h.1, kk18 h.1, kk19 h.1, kk20 h.1, kk21 h.1, kr0_0 h.1, kr0_1 h.1, kr0_2 h.1, kr0_3 h.1, kr0_4 h.1, kr1_0 h.1, kr1_1 h.1, kr1_2 h.1, kr5_0 h.1, kr5_1 h.1, kr5_2 h.1, kr5_3 h.1, kr10_0 h.1, kr10_1 h.1, kr17_0 h.1, kr17_1 h.1, kr17_2 h.1, kr17_3 h.1, kr17_4 h.1, kr20_0 h.1, kr20_1 h.1, kr20_2 h.1, kr20_3 h.1, ki1 h.2.1, ki2 h.2.1, ki3 h.2.1, ki4 h.2.1, ki5 h.2.1, ki7 h.2.1, kl8 h.2.1, kl9 h.2.1, ki10 h.2.1, kl11 h.2.1, ki13 h.2.1, ki14 h.2.1, ki15 h.2.1, ki16 h.2.1, ki17 h.2.1, ki18 h.2.1, ki19 h.2.1, ki20 h.2.1, ki21 h.2.1, Option.some.injEq, exists_eq_left', true_and, rs13 h.2.2, rs14 h.2.2, rs54 h.2.2, rs102 h.2.2, rg2 h.2.2, rg18 h.2.2, rg19 h.2.2, kwR h.1 hw.1 hw.2, kwK h.1 hw.1 hw.2, kwi0 h.2.1 hw.1 hw.2, kwl1 h.2.1 hw.1 hw.2, kwi2 h.2.1 hw.1 hw.2, kwi3 h.2.1 hw.1 hw.2, kwi4 h.2.1 hw.1 hw.2, kwi5 h.2.1 hw.1 hw.2, kwi6 h.2.1 hw.1 hw.2, kwi7 h.2.1 hw.1 hw.2, kwi8 h.2.1 hw.1 hw.2, kwi9 h.2.1 hw.1 hw.2, kwi10 h.2.1 hw.1 hw.2, kwi11 h.2.1 hw.1 hw.2, kwl12 h.2.1 hw.1 hw.2, kwl13 h.2.1 hw.1 hw.2, kwl14 h.2.1 hw.1 hw.2, kwl15 h.2.1 hw.1 hw.2, rw22 h.2.2 hw, rw23 h.2.2 hw, rw24 h.2.2 hw, rw25 h.2.2 hw, rw26 h.2.2 hw, rw27 h.2.2 hw, rw28 h.2.2 hw, rw29 h.2.2 hw, rw30 h.2.2 hw, rw31 h.2.2 hw, rw32 h.2.2 hw, rw33 h.2.2 hw]
    refine zu (k_hasBegun (kwK h.1 hw.1 hw.2) _) ?_
    simp only [kk0 h.1, kk1 h.1, kk2 h.1, kk3 h.1, kk4 h.1, kk5 h.1, kk6 h.1, kk7 h.1, kk8 h.1, kk9 h.1, kk10 h.1, kk11 h.1, kk12 h.1, kk13 h.1, kk14 h.1, kk15 h.1, kk16 h.1, kk17 h.1, kk18 h.1, kk19 h.1, kk20 h.1, kk21 h.1, kr0_0 h.1, kr0_1 h.1, kr0_2 h.1, kr0_3 h.1, kr0_4 h.1, kr1_0 h.1, kr1_1 h.1, kr1_2 h.1, kr5_0 h.1, kr5_1 h.1, kr5_2 h.1, kr5_3 h.1, kr10_0 h.1, kr10_1 h.1, kr17_0 h.1, kr17_1 h.1, kr17_2 h.1, kr17_3 h.1, kr17_4 h.1, kr20_0 h.1, kr20_1 h.1, kr20_2 h.1, kr20_3 h.1, ki1 h.2.1, ki2 h.2.1, ki3 h.2.1, ki4 h.2.1, ki5 h.2.1, ki7 h.2.1, kl8 h.2.1, kl9 h.2.1, ki10 h.2.1, kl11 h.2.1, ki13 h.2.1, ki14 h.2.1, ki15 h.2.1, ki16 h.2.1, ki17 h.2.1, ki18 h.2.1, ki19 h.2.1, ki20 h.2.1, ki21 h.2.1, Option.some.injEq, exists_eq_left', true_and, rs13 h.2.2, rs14 h.2.2, rs54 h.2.2, rs102 h.2.2, rg2 h.2.2, rg18 h.2.2, rg19 h.2.2, kwR h.1 hw.1 hw.2, kwK h.1 hw.1 hw.2, kwi0 h.2.1 hw.1 hw.2, kwl1 h.2.1 hw.1 hw.2, kwi2 h.2.1 hw.1 hw.2, kwi3 h.2.1 hw.1 hw.2, kwi4 h.2.1 hw.1 hw.2, kwi5 h.2.1 hw.1 hw.2, kwi6 h.2.1 hw.1 hw.2, kwi7 h.2.1 hw.1 hw.2, kwi8 h.2.1 hw.1 hw.2, kwi9 h.2.1 hw.1 hw.2, kwi10 h.2.1 hw.1 hw.2, kwi11 h.2.1 hw.1 hw.2, kwl12 h.2.1 hw.1 hw.2, kwl13 h.2.1 hw.1 hw.2, kwl14 h.2.1 hw.1 hw.2, kwl15 h.2.1 hw.1 hw.2, rw22 h.2.2 hw, rw23 h.2.2 hw, rw24 h.2.2 hw, rw25 h.2.2 hw, rw26 h.2.2 hw, rw27 h.2.2 hw, rw28 h.2.2 hw, rw29 h.2.2 hw, rw30 h.2.2 hw, rw31 h.2.2 hw, rw32 h.2.2 hw, rw33 h.2.2 hw]
    refine ⟨fun q => no (fun z => z.2.1 (p2i_n0.mp q)), fun q => ⟨fun q2 => no (fun z => by have := z.2.2.1; omega), fun q2 => ⟨by unfold zin; omega, fun q3 => ⟨_, k_lift0 h.1 h.2.1 (kRp_w h.2.2) (kRp_bd h.2.2) hi hw, ?_⟩, fun q3 => no (fun z => by have := z.2.2.2; omega)⟩⟩⟩
    have ok : putOk Y w s := ⟨hw, p2i_0.mp q, q2, q3⟩
    rintro M1 hB
    obtain ⟨V1, L1, hp1, -, hr1⟩ := kB_T h.2.2 hB
    have hi1 : yInv c (yup Y 15 w (-1)) := yInv_15 hi (Or.inl rfl)
    refine ⟨kk0 hp1.1, x + 10, kr0_2 hp1.1, kk10 hp1.1, _, k_lay0 (Y := yup Y 15 w (-1)) hp1.1 hp1.2.1 (kRp_w hr1) (kRp_bd hr1) hi1 hw (yup_s _ _ _ _) (by omega) (by rw [yup_o (by omega)]; omega), ?_⟩
    rintro M2 hB2
    obtain ⟨V2, L2, hp2, -, hr2⟩ := kB_T (Y := yup Y 15 w (-1)) hr1 hB2
    refine ⟨p2i_z1 ok, ?_⟩
    unfold putY
    rw [pif_t ok]
    rw [yup2] at hr2
    exact ⟨V2, L2, kPo_tr hp1 hp2, hr2⟩
  · rw [pif_f hw]
    exact ⟨fun _ => no (fun z => hw z.1), fun z => absurd rfl z⟩
theorem k_take (h : kR x wa M V L Y) (hj : yJ c Y) (w : Int) : zCi E mX6_take (d + 3) 0 0 [vR (some x), vI w] M (fun r M' => r = p2i (takeOk Y w) ∧ kT x wa M M' (takeY Y w)) := by
  refine sX6_take _ _ (fun X hr => vX6_take_0 hr _ _ ?_)
  have hi := hj.1
  have no : ¬ takeOk Y w → (0 : Int) = p2i (takeOk Y w) ∧ kT x wa M M (takeY Y w) := fun n => ⟨p2i_z0 n, by unfold takeY; rw [pif_f n]; exact kT_rf h⟩
  simp only [kk0 h.1, kk1 h.1, kk2 h.1, kk3 h.1, kk4 h.1, kk5 h.1, kk6 h.1, kk7 h.1, kk8 h.1, kk9 h.1, kk10 h.1, kk11 h.1, kk12 h.1, kk13 h.1, kk14 h.1, kk15 h.1, kk16 h.1, kk17 h.1, kk18 h.1, kk19 h.1, kk20 h.1, kk21 h.1, kr0_0 h.1, kr0_1 h.1, kr0_2 h.1, kr0_3 h.1, kr0_4 h.1, kr1_0 h.1, kr1_1 h.1, kr1_2 h.1, kr5_0 h.1, kr5_1 h.1, kr5_2 h.1, kr5_3 h.1, kr10_0 h.1, kr10_1 h.1, kr17_0 h.1, kr17_1 h.1, kr17_2 h.1, kr17_3 h.1, kr17_4 h.1, kr20_0 h.1, kr20_1 h.1, kr20_2 h.1, kr20_3 h.1, ki1 h.2.1, ki2 h.2.1, ki3 h.2.1, ki4 h.2.1, ki5 h.2.1, ki7 h.2.1, kl8 h.2.1, kl9 h.2.1, ki10 h.2.1, kl11 h.2.1, ki13 h.2.1, ki14 h.2.1, ki15 h.2.1, ki16 h.2.1, ki17 h.2.1, ki18 h.2.1, ki19 h.2.1, ki20 h.2.1, ki21 h.2.1, Option.some.injEq, exists_eq_left', true_and, rs13 h.2.2, rs14 h.2.2, rs54 h.2.2, rs102 h.2.2, rg2 h.2.2, rg18 h.2.2, rg19 h.2.2]
  refine zur (k_find h hi w) ?_
  by_cases hw : yWk Y w
  · rw [pif_t hw]
    refine ⟨fun z => (by cases z), fun _ => ?_⟩
    simp only [kk0 h.1, kk1 h.1, kk2 h.1, kk3 h.1, kk4 h.1, kk5 h.1, kk6 h.1, kk7 h.1, kk8 h.1, kk9 h.1, kk10 h.1, kk11 h.1, kk12 h.1, kk13 h.1, kk14 h.1, kk15 h.1, kk16 h.1, kk17 h.1, kk18 h.1, kk19 h.1, kk20 h.1, kk21 h.1, kr0_0 h.1, kr0_1 h.1, kr0_2 h.1, kr0_3 h.1, kr0_4 h.1, kr1_0 h.1, kr1_1 h.1, kr1_2 h.1, kr5_0 h.1, kr5_1 h.1, kr5_2 h.1, kr5_3 h.1, kr10_0 h.1, kr10_1 h.1, kr17_0 h.1, kr17_1 h.1, kr17_2 h.1, kr17_3 h.1, kr17_4 h.1, kr20_0 h.1, kr20_1 h.1, kr20_2 h.1, kr20_3 h.1, ki1 h.2.1, ki2 h.2.1, ki3 h.2.1, ki4 h.2.1, ki5 h.2.1, ki7 h.2.1, kl8 h.2.1, kl9 h.2.1, ki10 h.2.1, kl11 h.2.1, ki13 h.2.1, ki14 h.2.1, ki15 h.2.1, ki16 h.2.1, ki17 h.2.1, ki18 h.2.1, ki19 h.2.1, ki20 h.2.1, ki21 h.2.1, Option.some.injEq, exists_eq_left', true_and, rs13 h.2.2, rs14 h.2.2, rs54 h.2.2, rs102 h.2.2, rg2 h.2.2, rg18 h.2.2, rg19 h.2.2, kwR h.1 hw.1 hw.2, kwK h.1 hw.1 hw.2, kwi0 h.2.1 hw.1 hw.2, kwl1 h.2.1 hw.1 hw.2, kwi2 h.2.1 hw.1 hw.2, kwi3 h.2.1 hw.1 hw.2, kwi4 h.2.1 hw.1 hw.2, kwi5 h.2.1 hw.1 hw.2, kwi6 h.2.1 hw.1 hw.2, kwi7 h.2.1 hw.1 hw.2, kwi8 h.2.1 hw.1 hw.2, kwi9 h.2.1 hw.1 hw.2, kwi10 h.2.1 hw.1 hw.2, kwi11 h.2.1 hw.1 hw.2, kwl12 h.2.1 hw.1 hw.2, kwl13 h.2.1 hw.1 hw.2, kwl14 h.2.1 hw.1 hw.2, kwl15 h.2.1 hw.1 hw.2, rw22 h.2.2 hw, rw23 h.2.2 hw, rw24 h.2.2 hw, rw25 h.2.2 hw, rw26 h.2.2 hw, rw27 h.2.2 hw, rw28 h.2.2 hw, rw29 h.2.2 hw, rw30 h.2.2 hw, rw31 h.2.2 hw, rw32 h.2.2 hw, rw33 h.2.2 hw]
    refine zu (k_isOpen (kwK h.1 hw.1 hw.2)) ?_
    simp only [kk0 h.1, kk1 h.1, kk2 h.1, kk3 h.1, kk4 h.1, kk5 h.1, kk6 h.1, kk7 h.1, kk8 h.1, kk9 h.1, kk10 h.1, kk11 h.1, kk12 h.1, kk13 h.1, kk14 h.1, kk15 h.1, kk16 h.1, kk17 h.1, kk18 h.1, kk19 h.1, kk20 h.1, kk21 h.1, kr0_0 h.1, kr0_1 h.1, kr0_2 h.1, kr0_3 h.1, kr0_4 h.1, kr1_0 h.1, kr1_1 h.1, kr1_2 h.1, kr5_0 h.1, kr5_1 h.1, kr5_2 h.1, kr5_3 h.1, kr10_0 h.1, kr10_1 h.1, kr17_0 h.1, kr17_1 h.1, kr17_2 h.1, kr17_3 h.1, kr17_4 h.1, kr20_0 h.1, kr20_1 h.1, kr20_2 h.1, kr20_3 h.1, ki1 h.2.1, ki2 h.2.1, ki3 h.2.1, ki4 h.2.1, ki5 h.2.1, ki7 h.2.1, kl8 h.2.1, kl9 h.2.1, ki10 h.2.1, kl11 h.2.1, ki13 h.2.1, ki14 h.2.1, ki15 h.2.1, ki16 h.2.1, ki17 h.2.1, ki18 h.2.1, ki19 h.2.1, ki20 h.2.1, ki21 h.2.1, Option.some.injEq, exists_eq_left', true_and, rs13 h.2.2, rs14 h.2.2, rs54 h.2.2, rs102 h.2.2, rg2 h.2.2, rg18 h.2.2, rg19 h.2.2, kwR h.1 hw.1 hw.2, kwK h.1 hw.1 hw.2, kwi0 h.2.1 hw.1 hw.2, kwl1 h.2.1 hw.1 hw.2, kwi2 h.2.1 hw.1 hw.2, kwi3 h.2.1 hw.1 hw.2, kwi4 h.2.1 hw.1 hw.2, kwi5 h.2.1 hw.1 hw.2, kwi6 h.2.1 hw.1 hw.2, kwi7 h.2.1 hw.1 hw.2, kwi8 h.2.1 hw.1 hw.2, kwi9 h.2.1 hw.1 hw.2, kwi10 h.2.1 hw.1 hw.2, kwi11 h.2.1 hw.1 hw.2, kwl12 h.2.1 hw.1 hw.2, kwl13 h.2.1 hw.1 hw.2, kwl14 h.2.1 hw.1 hw.2, kwl15 h.2.1 hw.1 hw.2, rw22 h.2.2 hw, rw23 h.2.2 hw, rw24 h.2.2 hw, rw25 h.2.2 hw, rw26 h.2.2 hw, rw27 h.2.2 hw, rw28 h.2.2 hw, rw29 h.2.2 hw, rw30 h.2.2 hw, rw31 h.2.2 hw, rw32 h.2.2 hw, rw33 h.2.2 hw]
    refine ⟨fun q => no (fun z => z.2.1 (p2i_n0.mp q)), fun q => zu (k_hasBegun (kwK h.1 hw.1 hw.2) _) ?_⟩
    simp only [kk0 h.1, kk1 h.1, kk2 h.1, kk3 h.1, kk4 h.1, kk5 h.1, kk6 h.1, kk7 h.1, kk8 h.1, kk9 h.1, kk10 h.1, kk11 h.1, kk12 h.1, kk13 h.1, kk14 h.1, kk15 h.1, kk16 h.1, kk17 h.1, kk18 h.1, kk19 h.1, kk20 h.1, kk21 h.1, kr0_0 h.1, kr0_1 h.1, kr0_2 h.1, kr0_3 h.1, kr0_4 h.1, kr1_0 h.1, kr1_1 h.1, kr1_2 h.1, kr5_0 h.1, kr5_1 h.1, kr5_2 h.1, kr5_3 h.1, kr10_0 h.1, kr10_1 h.1, kr17_0 h.1, kr17_1 h.1, kr17_2 h.1, kr17_3 h.1, kr17_4 h.1, kr20_0 h.1, kr20_1 h.1, kr20_2 h.1, kr20_3 h.1, ki1 h.2.1, ki2 h.2.1, ki3 h.2.1, ki4 h.2.1, ki5 h.2.1, ki7 h.2.1, kl8 h.2.1, kl9 h.2.1, ki10 h.2.1, kl11 h.2.1, ki13 h.2.1, ki14 h.2.1, ki15 h.2.1, ki16 h.2.1, ki17 h.2.1, ki18 h.2.1, ki19 h.2.1, ki20 h.2.1, ki21 h.2.1, Option.some.injEq, exists_eq_left', true_and, rs13 h.2.2, rs14 h.2.2, rs54 h.2.2, rs102 h.2.2, rg2 h.2.2, rg18 h.2.2, rg19 h.2.2, kwR h.1 hw.1 hw.2, kwK h.1 hw.1 hw.2, kwi0 h.2.1 hw.1 hw.2, kwl1 h.2.1 hw.1 hw.2, kwi2 h.2.1 hw.1 hw.2, kwi3 h.2.1 hw.1 hw.2, kwi4 h.2.1 hw.1 hw.2, kwi5 h.2.1 hw.1 hw.2, kwi6 h.2.1 hw.1 hw.2, kwi7 h.2.1 hw.1 hw.2, kwi8 h.2.1 hw.1 hw.2, kwi9 h.2.1 hw.1 hw.2, kwi10 h.2.1 hw.1 hw.2, kwi11 h.2.1 hw.1 hw.2, kwl12 h.2.1 hw.1 hw.2, kwl13 h.2.1 hw.1 hw.2, kwl14 h.2.1 hw.1 hw.2, kwl15 h.2.1 hw.1 hw.2, rw22 h.2.2 hw, rw23 h.2.2 hw, rw24 h.2.2 hw, rw25 h.2.2 hw, rw26 h.2.2 hw, rw27 h.2.2 hw, rw28 h.2.2 hw, rw29 h.2.2 hw, rw30 h.2.2 hw, rw31 h.2.2 hw, rw32 h.2.2 hw, rw33 h.2.2 hw]
    refine ⟨fun q2 => ⟨_, k_lift0 h.1 h.2.1 (kRp_w h.2.2) (kRp_bd h.2.2) hi hw, ?_⟩, fun q2 => no (fun z => z.2.2 (p2i_n0.mp q2))⟩
    have ok : takeOk Y w := ⟨hw, p2i_0.mp q, p2i_0.mp q2⟩
    rintro M1 hB
    obtain ⟨V1, L1, hp1, -, hr1⟩ := kB_T h.2.2 hB
    refine ⟨p2i_z1 ok, ?_⟩
    unfold takeY
    rw [pif_t ok]
    exact ⟨V1, L1, hp1, hr1⟩
  · rw [pif_f hw]
    exact ⟨fun _ => no (fun z => hw z.1), fun z => absurd rfl z⟩
end C15
