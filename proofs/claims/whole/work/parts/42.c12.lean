/-! ===== Board: lay, lift, lengthen ===== -/
def layV (V : yS) (ti : Nat) (h w s q : Int) : yS := fun o i => if o = 13 + ti ∧ s ≤ i ∧ i < q then V o i + h else if o = 30 ∧ i = w then s else V o i
def layL (L : yL) (w s q : Int) : yL := fun o i => if o = 11 ∧ s ≤ i ∧ i < q then L o i ||| zbit w else L o i
def lifV (V : yS) (ti : Nat) (h s q : Int) : yS := fun o i => if o = 13 + ti ∧ s ≤ i ∧ i < q then V o i - h else V o i
def lifL (L : yL) (w s q : Int) : yL := fun o i => if o = 11 ∧ s ≤ i ∧ i < q then L o i &&& (zbit w ^^^ (-1 : Int64)) else L o i
theorem layV_0 {V : yS} {ti : Nat} {h w s : Int} (o : Nat) (i : Int) : yup V 30 w s o i = layV V ti h w s s o i := by
  unfold layV yup
  rw [if_neg (c := o = 13 + ti ∧ s ≤ i ∧ i < s) (by omega)]
theorem layL_0 {L : yL} {w s : Int} (o : Nat) (i : Int) : L o i = layL L w s s o i := by
  unfold layL
  rw [if_neg (by omega)]
theorem lifV_0 {V : yS} {ti : Nat} {h s : Int} (o : Nat) (i : Int) : V o i = lifV V ti h s s o i := by
  unfold lifV
  rw [if_neg (by omega)]
theorem lifL_0 {L : yL} {w s : Int} (o : Nat) (i : Int) : L o i = lifL L w s s o i := by
  unfold lifL
  rw [if_neg (by omega)]
theorem layV_q {V : yS} {ti : Nat} {h w s q : Int} (ht : ti < 4) : layV V ti h w s q (13 + ti) q = V (13 + ti) q := by
  unfold layV
  rw [if_neg (by omega), if_neg (by omega)]
theorem layV_s {V : yS} {ti : Nat} {h w s q : Int} (ht : ti < 4) (hs : s ≤ q) (o : Nat) (i : Int) : yup (layV V ti h w s q) (13 + ti) q (V (13 + ti) q + h) o i = layV V ti h w s (q + 1) o i := by
  by_cases e : o = 13 + ti ∧ i = q
  · rw [e.1, e.2, yup_s]
    unfold layV
    rw [if_pos ⟨rfl, hs, by omega⟩]
  · rw [yup_n _ _ _ _ e]
    unfold layV
    by_cases z : o = 13 + ti ∧ s ≤ i ∧ i < q
    · rw [if_pos z, if_pos ⟨z.1, z.2.1, by omega⟩]
    · rw [if_neg z, if_neg (c := o = 13 + ti ∧ s ≤ i ∧ i < q + 1) (by omega)]
theorem layL_s {L : yL} {w s q : Int} (hs : s ≤ q) (o : Nat) (i : Int) : lup (layL L w s q) 11 q (L 11 q ||| zbit w) o i = layL L w s (q + 1) o i := by
  unfold lup layL
  by_cases e : o = 11 ∧ i = q
  · rw [if_pos e, if_pos ⟨e.1, by omega, by omega⟩, e.1, e.2]
  · rw [if_neg e]
    by_cases z : o = 11 ∧ s ≤ i ∧ i < q
    · rw [if_pos z, if_pos ⟨z.1, z.2.1, by omega⟩]
    · rw [if_neg z, if_neg (by omega)]
theorem layL_q {L : yL} {w s q : Int} : layL L w s q 11 q = L 11 q := by
  unfold layL
  rw [if_neg (by omega)]
theorem lifV_s {V : yS} {ti : Nat} {h s q : Int} (hs : s ≤ q) (o : Nat) (i : Int) : yup (lifV V ti h s q) (13 + ti) q (V (13 + ti) q - h) o i = lifV V ti h s (q + 1) o i := by
  by_cases e : o = 13 + ti ∧ i = q
  · rw [e.1, e.2, yup_s]
    unfold lifV
    rw [if_pos ⟨rfl, hs, by omega⟩]
  · rw [yup_n _ _ _ _ e]
    unfold lifV
    by_cases z : o = 13 + ti ∧ s ≤ i ∧ i < q
    · rw [if_pos z, if_pos ⟨z.1, z.2.1, by omega⟩]
    · rw [if_neg z, if_neg (by omega)]
theorem lifV_q {V : yS} {ti : Nat} {h s q : Int} : lifV V ti h s q (13 + ti) q = V (13 + ti) q := by
  unfold lifV
  rw [if_neg (by omega)]
theorem lifL_s {L : yL} {w s q : Int} (hs : s ≤ q) (o : Nat) (i : Int) : lup (lifL L w s q) 11 q (L 11 q &&& (zbit w ^^^ (-1 : Int64))) o i = lifL L w s (q + 1) o i := by
  unfold lup lifL
  by_cases e : o = 11 ∧ i = q
  · rw [if_pos e, if_pos ⟨e.1, by omega, by omega⟩, e.1, e.2]
  · rw [if_neg e]
    by_cases z : o = 11 ∧ s ≤ i ∧ i < q
    · rw [if_pos z, if_pos ⟨z.1, z.2.1, by omega⟩]
    · rw [if_neg z, if_neg (by omega)]
theorem lifL_q {L : yL} {w s q : Int} : lifL L w s q 11 q = L 11 q := by
  unfold lifL
  rw [if_neg (by omega)]
theorem yIn_up {Y : yS} {w s m q : Int} (hs : 0 ≤ s) : yIn (yup Y 15 w s) m q ↔ (m = w ∧ s ≤ q ∧ q < s + Y 9 w) ∨ (m ≠ w ∧ yIn Y m q) := by
  unfold yIn yPut yEnd
  by_cases e : m = w
  · subst e
    rw [yup_s, yup_o (by omega)]
    exact ⟨fun z => Or.inl ⟨rfl, z.2⟩, fun z => z.elim (fun z => ⟨by omega, z.2⟩) (fun z => absurd rfl z.1)⟩
  · rw [yup_n _ _ _ _ (fun z => e z.2), yup_o (by omega)]
    exact ⟨fun z => Or.inr ⟨e, z⟩, fun z => z.elim (fun z => absurd z.1 e) (fun z => z.2)⟩
theorem yIn_dn {Y : yS} {w m q : Int} : yIn (yup Y 15 w (-1)) m q ↔ (m ≠ w ∧ yIn Y m q) := by
  unfold yIn yPut yEnd
  by_cases e : m = w
  · subst e
    rw [yup_s]
    exact ⟨fun z => absurd rfl z.1, fun z => absurd rfl z.1⟩
  · rw [yup_n _ _ _ _ (fun z => e z.2), yup_o (by omega)]
    exact ⟨fun z => ⟨e, z⟩, fun z => z.2⟩
theorem lay_bd {V Y : yS} {L : yL} {c w s : Int} (hb : rBd V L Y) (hi : yInv c Y) (hk : yWk Y w) (ho : Y 15 w = -1) (s0 : 0 ≤ s) (s1 : s + Y 9 w ≤ 400) : rBd (layV V (Y 10 w).toNat (Y 11 w) w s (s + Y 9 w)) (layL L w s (s + Y 9 w)) (yup Y 15 w s) := by
  have hl := yI_w hi hk.1 hk.2
  have h8 := yI_n hi
  have hk4 := yW_lt hi hk
  have nin : ∀ q, ¬ yIn Y w q := fun q z => z.1 ho
  refine ⟨fun q q0 q1 => ?_, fun t q t0 t1 q0 q1 => ?_⟩
  · have hq := hb.1 q q0 q1
    show zBs (layL L w s (s + Y 9 w) 11 q) (fun m => yWk Y m ∧ yIn (yup Y 15 w s) m q)
    unfold layL
    by_cases z : s ≤ q ∧ q < s + Y 9 w
    · rw [if_pos ⟨rfl, z⟩]
      refine zBs_eq (zBs_or hq (zBs_bit hk.1 (by omega))) (fun i i0 i1 => ?_)
      rw [yIn_up s0]
      constructor
      · rintro (a | a)
        · exact ⟨a.1, Or.inr ⟨fun e => nin q (by rw [← e]; exact a.2), a.2⟩⟩
        · exact ⟨by rw [a]; exact hk, Or.inl ⟨a, z⟩⟩
      · rintro ⟨a, b | b⟩
        · exact Or.inr b.1
        · exact Or.inl ⟨a, b.2⟩
    · rw [if_neg (fun z2 => z z2.2)]
      refine zBs_eq hq (fun i i0 i1 => ?_)
      rw [yIn_up s0]
      constructor
      · exact fun a => ⟨a.1, Or.inr ⟨fun e => nin q (by rw [← e]; exact a.2), a.2⟩⟩
      · rintro ⟨a, b | b⟩
        · exact absurd b.2 z
        · exact ⟨a, b.2⟩
  · have hq := hb.2 t q t0 t1 q0 q1
    have oth : ∀ k, k ≠ w → yHd (yup Y 15 w s) t q k = yHd Y t q k := fun k hkw => by
      unfold yHd
      rw [yup_o (by omega), yup_o (by omega)]
      refine pif_c ?_
      rw [yIn_up s0]
      exact ⟨fun z => ⟨z.1.elim (fun z => absurd z.1 hkw) (fun z => z.2), z.2⟩, fun z => ⟨Or.inr ⟨hkw, z.1⟩, z.2⟩⟩
    have e1 : yHd Y t q w = 0 := pif_f (fun z => nin q z.1)
    have up := ysum_upd (f := yHd Y t q) (g := yHd (yup Y 15 w s) t q) hk.1 hk.2 oth
    show layV V (Y 10 w).toNat (Y 11 w) w s (s + Y 9 w) (13 + t.toNat) q = ysum (yHd (yup Y 15 w s) t q) (Y 8 0)
    unfold layV
    by_cases z : Y 10 w = t ∧ s ≤ q ∧ q < s + Y 9 w
    · rw [if_pos ⟨by rw [z.1], z.2⟩]
      have e2 : yHd (yup Y 15 w s) t q w = Y 11 w := pif_t ⟨(yIn_up s0).mpr (Or.inl ⟨rfl, z.2⟩), by rw [yup_o (by omega)]; exact z.1⟩
      omega
    · rw [if_neg (by omega), if_neg (by omega)]
      have e2 : yHd (yup Y 15 w s) t q w = 0 := pif_f (fun z2 => z ⟨by have := z2.2; rw [yup_o (by omega)] at this; exact this, by
        rcases (yIn_up s0).mp z2.1 with z3 | z3
        · exact z3.2
        · exact absurd rfl z3.1⟩)
      omega
theorem lif_bd {V Y : yS} {L : yL} {c w : Int} (hb : rBd V L Y) (hi : yInv c Y) (hk : yWk Y w) (hp : Y 15 w ≠ -1) : rBd (yup (lifV V (Y 10 w).toNat (Y 11 w) (Y 15 w) (Y 15 w + Y 9 w)) 30 w (-1)) (lifL L w (Y 15 w) (Y 15 w + Y 9 w)) (yup Y 15 w (-1)) := by
  have hl := yI_w hi hk.1 hk.2
  have h8 := yI_n hi
  have hk4 := yW_lt hi hk
  have isin : ∀ q, yIn Y w q ↔ Y 15 w ≤ q ∧ q < Y 15 w + Y 9 w := fun q => ⟨fun z => z.2, fun z => ⟨hp, z⟩⟩
  refine ⟨fun q q0 q1 => ?_, fun t q t0 t1 q0 q1 => ?_⟩
  · have hq := hb.1 q q0 q1
    show zBs (lifL L w (Y 15 w) (Y 15 w + Y 9 w) 11 q) (fun m => yWk Y m ∧ yIn (yup Y 15 w (-1)) m q)
    unfold lifL
    by_cases z : Y 15 w ≤ q ∧ q < Y 15 w + Y 9 w
    · rw [if_pos ⟨rfl, z⟩]
      refine zBs_eq (zBs_and hq (zBs_not (zBs_bit hk.1 (by omega)))) (fun i i0 i1 => ?_)
      rw [yIn_dn]
      exact ⟨fun a => ⟨a.1.1, a.2, a.1.2⟩, fun a => ⟨⟨a.1, a.2.2⟩, a.2.1⟩⟩
    · rw [if_neg (fun z2 => z z2.2)]
      refine zBs_eq hq (fun i i0 i1 => ?_)
      rw [yIn_dn]
      exact ⟨fun a => ⟨a.1, fun e => z ((isin q).mp (by rw [← e]; exact a.2)), a.2⟩, fun a => ⟨a.1, a.2.2⟩⟩
  · have hq := hb.2 t q t0 t1 q0 q1
    have oth : ∀ k, k ≠ w → yHd (yup Y 15 w (-1)) t q k = yHd Y t q k := fun k hkw => by
      unfold yHd
      rw [yup_o (by omega), yup_o (by omega)]
      refine pif_c ?_
      rw [yIn_dn]
      exact ⟨fun z => ⟨z.1.2, z.2⟩, fun z => ⟨⟨hkw, z.1⟩, z.2⟩⟩
    have e1 : yHd (yup Y 15 w (-1)) t q w = 0 := pif_f (fun z => (yIn_dn.mp z.1).1 rfl)
    have up := ysum_upd (f := yHd Y t q) (g := yHd (yup Y 15 w (-1)) t q) hk.1 hk.2 oth
    rw [yup_o (by omega)]
    show lifV V (Y 10 w).toNat (Y 11 w) (Y 15 w) (Y 15 w + Y 9 w) (13 + t.toNat) q = ysum (yHd (yup Y 15 w (-1)) t q) (Y 8 0)
    unfold lifV
    by_cases z : Y 10 w = t ∧ Y 15 w ≤ q ∧ q < Y 15 w + Y 9 w
    · rw [if_pos ⟨by rw [z.1], z.2⟩]
      have e2 : yHd Y t q w = Y 11 w := pif_t ⟨(isin q).mpr z.2, z.1⟩
      omega
    · rw [if_neg (by omega)]
      have e2 : yHd Y t q w = 0 := pif_f (fun z2 => z ⟨z2.2, (isin q).mp z2.1⟩)
      omega
section C12
variable {E : zE} {d x : Nat} {wa : Int → Nat} {M : zM} {V Y : yS} {L : yL} {c : Int}
/-- what lay and lift leave -/
def kB (x : Nat) (wa : Int → Nat) (n : Int) (M M' : zM) (V : yS) (L : yL) (Y' : yS) : Prop := ∃ V1 L1, kPo x wa n M M' V1 L1 ∧ (∀ o, o ≠ 30 → (o < 13 ∨ 16 < o) → ∀ i, V1 o i = V o i) ∧ (∀ o, o ≠ 11 → ∀ i, L1 o i = L o i) ∧ rW V1 L1 Y' ∧ rBd V1 L1 Y'
theorem k_lay0 (hs : kSh x wa (Y 8 0) M) (hc : kCo x wa (Y 8 0) M V L) (hw : rW V L Y) (hb : rBd V L Y) (hi : yInv c Y) {w s : Int} (hk : yWk Y w) (ho : Y 15 w = -1) (s0 : 0 ≤ s) (s1 : s + Y 9 w ≤ 400) : zCv E mX0_lay (d + 2) 0 0 [vR (some (x + 10)), vR (some (wa w)), vI s] M (fun M' => kB x wa (Y 8 0) M M' V L (yup Y 15 w s)) := by
  refine sX0_lay _ _ _ (fun X hr => vX0_lay_0 hr _ _ _ ?_)
  have hl := yI_w hi hk.1 hk.2
  have t0 : 0 ≤ Y 10 w := by omega
  have t1 : Y 10 w < 4 := by omega
  have ti : (Y 10 w).toNat < 4 := by omega
  have key : ∀ (j : Nat) (q : Int), s + Y 9 w - q ≤ j → s ≤ q → q ≤ s + Y 9 w → ∀ M1 : zM, kPo x wa (Y 8 0) M M1 (layV V (Y 10 w).toNat (Y 11 w) w s q) (layL L w s q) → ZX0_lay E (d + 1) X (fun M' => kB x wa (Y 8 0) M M' V L (yup Y 15 w s)) 18 [(0, vR (some (x + 10))), (1, vR (some (wa w))), (2, vI s), (3, vR (some (x + (13 + (Y 10 w).toNat)))), (4, vI q)] [] M1 0 0 := by
    intro j
    have beh : ∀ (q : Int) (M1 : zM), kPo x wa (Y 8 0) M M1 (layV V (Y 10 w).toNat (Y 11 w) w s q) (layL L w s q) → zI M1 (wa w) 8 + zI M1 (wa w) 7 = s + Y 9 w := fun q M1 hp => by
      rw [kwi8 hp.2.1 hk.1 hk.2, kwi7 hp.2.1 hk.1 hk.2]
      unfold layV
      rw [if_neg (by omega), if_pos ⟨rfl, rfl⟩, if_neg (by omega), if_neg (by omega), (hw w hk).2.2.2.2.2.2.2.1]
    have zb : zin (s + Y 9 w) := by unfold zin; omega
    have fin : ∀ (q : Int) (M1 : zM), q = s + Y 9 w → kPo x wa (Y 8 0) M M1 (layV V (Y 10 w).toNat (Y 11 w) w s q) (layL L w s q) → kB x wa (Y 8 0) M M1 V L (yup Y 15 w s) := fun q M1 e hp => by
      subst e
      refine ⟨_, _, hp, fun o h30 ho i => ?_, fun o h11 i => ?_, fun k hk2 => ?_, lay_bd hb hi hk ho s0 s1⟩
      · unfold layV
        rw [if_neg (by omega), if_neg (by omega)]
      · unfold layL
        rw [if_neg (by omega)]
      · have hk2 : yWk Y k := hk2
        have h1 := hw k hk2
        have lv : ∀ o, 16 < o → o ≠ 30 → layV V (Y 10 w).toNat (Y 11 w) w s (s + Y 9 w) o k = V o k := fun o a b => by
          unfold layV
          rw [if_neg (by omega), if_neg (by omega)]
        rw [lv 22 (by omega) (by omega), lv 24 (by omega) (by omega), lv 25 (by omega) (by omega), lv 26 (by omega) (by omega), lv 27 (by omega) (by omega), lv 28 (by omega) (by omega), lv 29 (by omega) (by omega), lv 31 (by omega) (by omega)]
        refine ⟨h1.1, ?_, h1.2.2.1, h1.2.2.2.1, h1.2.2.2.2.1, h1.2.2.2.2.2.1, h1.2.2.2.2.2.2.1, h1.2.2.2.2.2.2.2.1, ?_, h1.2.2.2.2.2.2.2.2.2⟩
        · unfold layL
          rw [if_neg (by omega)]
          exact h1.2.1
        · unfold layV
          rw [if_neg (by omega)]
          by_cases e : k = w
          · rw [if_pos ⟨rfl, e⟩, e, yup_s]
          · rw [if_neg (fun z => e z.2), yup_n _ _ _ _ (fun z => e z.2)]
            exact h1.2.2.2.2.2.2.2.2.1
    induction j with
    | zero =>
      intro q hj h1 h2 M1 hp
      exact vX0_lay_18 hr _ _ _ _ _ ⟨kwK hp.1 hk.1 hk.2, zu (k_behind (kwK hp.1 hk.1 hk.2) zb (beh q M1 hp)) ⟨fun _ => fin q M1 (by omega) hp, fun z => by omega⟩⟩
    | succ j ih =>
      intro q hj h1 h2 M1 hp
      refine vX0_lay_18 hr _ _ _ _ _ ⟨kwK hp.1 hk.1 hk.2, zu (k_behind (kwK hp.1 hk.1 hk.2) zb (beh q M1 hp)) ⟨fun z => fin q M1 (by omega) hp, fun z => ?_⟩⟩
      have l23 : layL L w s q 23 w = zbit w := by
        unfold layL
        rw [if_neg (by omega)]
        exact (hw w hk).2.1
      simp only [kk0 hp.1, kk1 hp.1, kk2 hp.1, kk3 hp.1, kk4 hp.1, kk5 hp.1, kk6 hp.1, kk7 hp.1, kk8 hp.1, kk9 hp.1, kk10 hp.1, kk11 hp.1, kk12 hp.1, kk13 hp.1, kk14 hp.1, kk15 hp.1, kk16 hp.1, kk17 hp.1, kk18 hp.1, kk19 hp.1, kk20 hp.1, kk21 hp.1, kr0_0 hp.1, kr0_1 hp.1, kr0_2 hp.1, kr0_3 hp.1, kr0_4 hp.1, kr1_0 hp.1, kr1_1 hp.1, kr1_2 hp.1, kr5_0 hp.1, kr5_1 hp.1, kr5_2 hp.1, kr5_3 hp.1, kr10_0 hp.1, kr10_1 hp.1, kr17_0 hp.1, kr17_1 hp.1, kr17_2 hp.1, kr17_3 hp.1, kr17_4 hp.1, kr20_0 hp.1, kr20_1 hp.1, kr20_2 hp.1, kr20_3 hp.1, ki1 hp.2.1, ki2 hp.2.1, ki3 hp.2.1, ki4 hp.2.1, ki5 hp.2.1, ki7 hp.2.1, kl8 hp.2.1, kl9 hp.2.1, ki10 hp.2.1, kl11 hp.2.1, ki13 hp.2.1, ki14 hp.2.1, ki15 hp.2.1, ki16 hp.2.1, ki17 hp.2.1, ki18 hp.2.1, ki19 hp.2.1, ki20 hp.2.1, ki21 hp.2.1, Option.some.injEq, exists_eq_left', true_and, kwR hp.1 hk.1 hk.2, kwK hp.1 hk.1 hk.2, kwi0 hp.2.1 hk.1 hk.2, kwl1 hp.2.1 hk.1 hk.2, kwi2 hp.2.1 hk.1 hk.2, kwi3 hp.2.1 hk.1 hk.2, kwi4 hp.2.1 hk.1 hk.2, kwi5 hp.2.1 hk.1 hk.2, kwi6 hp.2.1 hk.1 hk.2, kwi7 hp.2.1 hk.1 hk.2, kwi8 hp.2.1 hk.1 hk.2, kwi9 hp.2.1 hk.1 hk.2, kwi10 hp.2.1 hk.1 hk.2, kwi11 hp.2.1 hk.1 hk.2, kwl12 hp.2.1 hk.1 hk.2, kwl13 hp.2.1 hk.1 hk.2, kwl14 hp.2.1 hk.1 hk.2, kwl15 hp.2.1 hk.1 hk.2, layL_q, l23]
      refine ⟨by omega, by omega, by omega, by omega, ?_⟩
      rintro M2 e2
      have hp2 := kPo_L (o := 11) hp e2 rfl (by decide)
      have l25 : layV V (Y 10 w).toNat (Y 11 w) w s q 25 w = Y 11 w := by
        unfold layV
        rw [if_neg (by omega), if_neg (by omega)]
        exact (hw w hk).2.2.2.1
      have hbq := hb.2 _ q t0 t1 (by omega) (by omega)
      have hbd := yHd_b hi (Y 10 w) q
      simp only [kk0 hp2.1, kk1 hp2.1, kk2 hp2.1, kk3 hp2.1, kk4 hp2.1, kk5 hp2.1, kk6 hp2.1, kk7 hp2.1, kk8 hp2.1, kk9 hp2.1, kk10 hp2.1, kk11 hp2.1, kk12 hp2.1, kk13 hp2.1, kk14 hp2.1, kk15 hp2.1, kk16 hp2.1, kk17 hp2.1, kk18 hp2.1, kk19 hp2.1, kk20 hp2.1, kk21 hp2.1, kr0_0 hp2.1, kr0_1 hp2.1, kr0_2 hp2.1, kr0_3 hp2.1, kr0_4 hp2.1, kr1_0 hp2.1, kr1_1 hp2.1, kr1_2 hp2.1, kr5_0 hp2.1, kr5_1 hp2.1, kr5_2 hp2.1, kr5_3 hp2.1, kr10_0 hp2.1, kr10_1 hp2.1, kr17_0 hp2.1, kr17_1 hp2.1, kr17_2 hp2.1, kr17_3 hp2.1, kr17_4 hp2.1, kr20_0 hp2.1, kr20_1 hp2.1, kr20_2 hp2.1, kr20_3 hp2.1, ki1 hp2.2.1, ki2 hp2.2.1, ki3 hp2.2.1, ki4 hp2.2.1, ki5 hp2.2.1, ki7 hp2.2.1, kl8 hp2.2.1, kl9 hp2.2.1, ki10 hp2.2.1, kl11 hp2.2.1, ki13 hp2.2.1, ki14 hp2.2.1, ki15 hp2.2.1, ki16 hp2.2.1, ki17 hp2.2.1, ki18 hp2.2.1, ki19 hp2.2.1, ki20 hp2.2.1, ki21 hp2.2.1, Option.some.injEq, exists_eq_left', true_and, kwR hp2.1 hk.1 hk.2, kwK hp2.1 hk.1 hk.2, kwi0 hp2.2.1 hk.1 hk.2, kwl1 hp2.2.1 hk.1 hk.2, kwi2 hp2.2.1 hk.1 hk.2, kwi3 hp2.2.1 hk.1 hk.2, kwi4 hp2.2.1 hk.1 hk.2, kwi5 hp2.2.1 hk.1 hk.2, kwi6 hp2.2.1 hk.1 hk.2, kwi7 hp2.2.1 hk.1 hk.2, kwi8 hp2.2.1 hk.1 hk.2, kwi9 hp2.2.1 hk.1 hk.2, kwi10 hp2.2.1 hk.1 hk.2, kwi11 hp2.2.1 hk.1 hk.2, kwl12 hp2.2.1 hk.1 hk.2, kwl13 hp2.2.1 hk.1 hk.2, kwl14 hp2.2.1 hk.1 hk.2, kwl15 hp2.2.1 hk.1 hk.2, krk hp2.1 t0 t1, kri hp2.2.1 t0 t1, layV_q ti, l25]
      refine ⟨by omega, by omega, by unfold zin; omega, by omega, by omega, ?_⟩
      rintro M3 e3
      have hp3 := kPo_I (o := 13 + (Y 10 w).toNat) hp2 e3 rfl (by omega)
      exact ⟨by unfold zin; omega, ih (q + 1) (by omega) (by omega) (by omega) M3 (kPo_eq hp3 (layV_s ti h1) (layL_s h1))⟩
  refine ⟨kwK hs hk.1 hk.2, ?_⟩
  rintro M1 e1
  have hp1 := kPo_wI (f := 8) (kPo_rf hs hc) e1 rfl rfl (by decide) hk.1 hk.2
  have v24 : yup V 30 w s 24 w = Y 10 w := (hw w hk).2.2.1
  simp only [kk0 hp1.1, kk1 hp1.1, kk2 hp1.1, kk3 hp1.1, kk4 hp1.1, kk5 hp1.1, kk6 hp1.1, kk7 hp1.1, kk8 hp1.1, kk9 hp1.1, kk10 hp1.1, kk11 hp1.1, kk12 hp1.1, kk13 hp1.1, kk14 hp1.1, kk15 hp1.1, kk16 hp1.1, kk17 hp1.1, kk18 hp1.1, kk19 hp1.1, kk20 hp1.1, kk21 hp1.1, kr0_0 hp1.1, kr0_1 hp1.1, kr0_2 hp1.1, kr0_3 hp1.1, kr0_4 hp1.1, kr1_0 hp1.1, kr1_1 hp1.1, kr1_2 hp1.1, kr5_0 hp1.1, kr5_1 hp1.1, kr5_2 hp1.1, kr5_3 hp1.1, kr10_0 hp1.1, kr10_1 hp1.1, kr17_0 hp1.1, kr17_1 hp1.1, kr17_2 hp1.1, kr17_3 hp1.1, kr17_4 hp1.1, kr20_0 hp1.1, kr20_1 hp1.1, kr20_2 hp1.1, kr20_3 hp1.1, ki1 hp1.2.1, ki2 hp1.2.1, ki3 hp1.2.1, ki4 hp1.2.1, ki5 hp1.2.1, ki7 hp1.2.1, kl8 hp1.2.1, kl9 hp1.2.1, ki10 hp1.2.1, kl11 hp1.2.1, ki13 hp1.2.1, ki14 hp1.2.1, ki15 hp1.2.1, ki16 hp1.2.1, ki17 hp1.2.1, ki18 hp1.2.1, ki19 hp1.2.1, ki20 hp1.2.1, ki21 hp1.2.1, Option.some.injEq, exists_eq_left', true_and, kwR hp1.1 hk.1 hk.2, kwK hp1.1 hk.1 hk.2, kwi0 hp1.2.1 hk.1 hk.2, kwl1 hp1.2.1 hk.1 hk.2, kwi2 hp1.2.1 hk.1 hk.2, kwi3 hp1.2.1 hk.1 hk.2, kwi4 hp1.2.1 hk.1 hk.2, kwi5 hp1.2.1 hk.1 hk.2, kwi6 hp1.2.1 hk.1 hk.2, kwi7 hp1.2.1 hk.1 hk.2, kwi8 hp1.2.1 hk.1 hk.2, kwi9 hp1.2.1 hk.1 hk.2, kwi10 hp1.2.1 hk.1 hk.2, kwi11 hp1.2.1 hk.1 hk.2, kwl12 hp1.2.1 hk.1 hk.2, kwl13 hp1.2.1 hk.1 hk.2, kwl14 hp1.2.1 hk.1 hk.2, kwl15 hp1.2.1 hk.1 hk.2, krw hp1.1 t0 t1, v24]
  refine ⟨by trivial, t0, by omega, key (Y 9 w).toNat s (by omega) (by omega) (by omega) M1 (kPo_eq hp1 layV_0 layL_0)⟩
theorem k_lift0 (hs : kSh x wa (Y 8 0) M) (hc : kCo x wa (Y 8 0) M V L) (hw : rW V L Y) (hb : rBd V L Y) (hi : yInv c Y) {w : Int} (hk : yWk Y w) : zCv E mX0_lift (d + 2) 0 0 [vR (some (x + 10)), vR (some (wa w))] M (fun M' => kB x wa (Y 8 0) M M' V L (yup Y 15 w (-1))) := by
  refine sX0_lift _ _ (fun X hr => vX0_lift_0 hr _ _ ⟨kwK hs hk.1 hk.2, zu (k_isOpen (kwK hs hk.1 hk.2)) ?_⟩)
  have hl := yI_w hi hk.1 hk.2
  have t0 : 0 ≤ Y 10 w := by omega
  have t1 : Y 10 w < 4 := by omega
  have ti : (Y 10 w).toNat < 4 := by omega
  have w8 : zI M (wa w) 8 = Y 15 w := by rw [kwi8 hc hk.1 hk.2]; exact (hw w hk).2.2.2.2.2.2.2.2.1
  rw [w8]
  refine ⟨fun q => ?_, fun q => ?_⟩
  · have hp : Y 15 w ≠ -1 := p2i_0.mp q
    have key : ∀ (j : Nat) (q : Int), Y 15 w + Y 9 w - q ≤ j → Y 15 w ≤ q → q ≤ Y 15 w + Y 9 w → ∀ M1 : zM, kPo x wa (Y 8 0) M M1 (lifV V (Y 10 w).toNat (Y 11 w) (Y 15 w) q) (lifL L w (Y 15 w) q) → ZX0_lift E (d + 1) X (fun M' => kB x wa (Y 8 0) M M' V L (yup Y 15 w (-1))) 23 [(0, vR (some (x + 10))), (1, vR (some (wa w))), (2, vR (some (x + (13 + (Y 10 w).toNat)))), (3, vI q)] [] M1 0 0 := by
      intro j
      have beh : ∀ (q : Int) (M1 : zM), kPo x wa (Y 8 0) M M1 (lifV V (Y 10 w).toNat (Y 11 w) (Y 15 w) q) (lifL L w (Y 15 w) q) → zI M1 (wa w) 8 + zI M1 (wa w) 7 = Y 15 w + Y 9 w := fun q M1 hp => by
        rw [kwi8 hp.2.1 hk.1 hk.2, kwi7 hp.2.1 hk.1 hk.2]
        unfold lifV
        rw [if_neg (by omega), if_neg (by omega), (hw w hk).2.2.2.2.2.2.2.1, (hw w hk).2.2.2.2.2.2.2.2.1]
      have zb : zin (Y 15 w + Y 9 w) := yB_b hi hk
      have fin : ∀ (q : Int) (M1 M2 : zM), q = Y 15 w + Y 9 w → kPo x wa (Y 8 0) M M1 (lifV V (Y 10 w).toNat (Y 11 w) (Y 15 w) q) (lifL L w (Y 15 w) q) → M2 = zsI M1 (wa w) 8 (-1) → kB x wa (Y 8 0) M M2 V L (yup Y 15 w (-1)) := fun q M1 M2 e hpo e2 => by
        subst e
        have hp2 := kPo_wI (f := 8) hpo e2 rfl rfl (by decide) hk.1 hk.2
        refine ⟨_, _, hp2, fun o h30 ho i => ?_, fun o h11 i => ?_, fun k hk2 => ?_, lif_bd hb hi hk hp⟩
        · rw [yup_o h30]
          unfold lifV
          rw [if_neg (by omega)]
        · unfold lifL
          rw [if_neg (by omega)]
        · have hk2 : yWk Y k := hk2
          have h1 := hw k hk2
          have lv : ∀ o, 16 < o → o ≠ 30 → yup (lifV V (Y 10 w).toNat (Y 11 w) (Y 15 w) (Y 15 w + Y 9 w)) (22 + 8) w (-1) o k = V o k := fun o a b => by
            rw [yup_o b]
            unfold lifV
            rw [if_neg (by omega)]
          rw [lv 22 (by omega) (by omega), lv 24 (by omega) (by omega), lv 25 (by omega) (by omega), lv 26 (by omega) (by omega), lv 27 (by omega) (by omega), lv 28 (by omega) (by omega), lv 29 (by omega) (by omega), lv 31 (by omega) (by omega)]
          refine ⟨h1.1, ?_, h1.2.2.1, h1.2.2.2.1, h1.2.2.2.2.1, h1.2.2.2.2.2.1, h1.2.2.2.2.2.2.1, h1.2.2.2.2.2.2.2.1, ?_, h1.2.2.2.2.2.2.2.2.2⟩
          · unfold lifL
            rw [if_neg (by omega)]
            exact h1.2.1
          · by_cases e : k = w
            · rw [e, yup_s, yup_s]
            · rw [yup_n _ _ _ _ (fun z => e z.2), yup_n _ _ _ _ (fun z => e z.2)]
              unfold lifV
              rw [if_neg (by omega)]
              exact h1.2.2.2.2.2.2.2.2.1
      induction j with
      | zero =>
        intro q hj h1 h2 M1 hp
        exact vX0_lift_23 hr _ _ _ _ ⟨kwK hp.1 hk.1 hk.2, zu (k_behind (kwK hp.1 hk.1 hk.2) zb (beh q M1 hp)) ⟨fun _ => ⟨kwK hp.1 hk.1 hk.2, fun M2 e2 => fin q M1 M2 (by omega) hp e2⟩, fun z => by omega⟩⟩
      | succ j ih =>
        intro q hj h1 h2 M1 hp
        refine vX0_lift_23 hr _ _ _ _ ⟨kwK hp.1 hk.1 hk.2, zu (k_behind (kwK hp.1 hk.1 hk.2) zb (beh q M1 hp)) ⟨fun z => ⟨kwK hp.1 hk.1 hk.2, fun M2 e2 => fin q M1 M2 (by omega) hp e2⟩, fun z => ?_⟩⟩
        have l23 : lifL L w (Y 15 w) q 23 w = zbit w := by
          unfold lifL
          rw [if_neg (by omega)]
          exact (hw w hk).2.1
        simp only [kk0 hp.1, kk1 hp.1, kk2 hp.1, kk3 hp.1, kk4 hp.1, kk5 hp.1, kk6 hp.1, kk7 hp.1, kk8 hp.1, kk9 hp.1, kk10 hp.1, kk11 hp.1, kk12 hp.1, kk13 hp.1, kk14 hp.1, kk15 hp.1, kk16 hp.1, kk17 hp.1, kk18 hp.1, kk19 hp.1, kk20 hp.1, kk21 hp.1, kr0_0 hp.1, kr0_1 hp.1, kr0_2 hp.1, kr0_3 hp.1, kr0_4 hp.1, kr1_0 hp.1, kr1_1 hp.1, kr1_2 hp.1, kr5_0 hp.1, kr5_1 hp.1, kr5_2 hp.1, kr5_3 hp.1, kr10_0 hp.1, kr10_1 hp.1, kr17_0 hp.1, kr17_1 hp.1, kr17_2 hp.1, kr17_3 hp.1, kr17_4 hp.1, kr20_0 hp.1, kr20_1 hp.1, kr20_2 hp.1, kr20_3 hp.1, ki1 hp.2.1, ki2 hp.2.1, ki3 hp.2.1, ki4 hp.2.1, ki5 hp.2.1, ki7 hp.2.1, kl8 hp.2.1, kl9 hp.2.1, ki10 hp.2.1, kl11 hp.2.1, ki13 hp.2.1, ki14 hp.2.1, ki15 hp.2.1, ki16 hp.2.1, ki17 hp.2.1, ki18 hp.2.1, ki19 hp.2.1, ki20 hp.2.1, ki21 hp.2.1, Option.some.injEq, exists_eq_left', true_and, kwR hp.1 hk.1 hk.2, kwK hp.1 hk.1 hk.2, kwi0 hp.2.1 hk.1 hk.2, kwl1 hp.2.1 hk.1 hk.2, kwi2 hp.2.1 hk.1 hk.2, kwi3 hp.2.1 hk.1 hk.2, kwi4 hp.2.1 hk.1 hk.2, kwi5 hp.2.1 hk.1 hk.2, kwi6 hp.2.1 hk.1 hk.2, kwi7 hp.2.1 hk.1 hk.2, kwi8 hp.2.1 hk.1 hk.2, kwi9 hp.2.1 hk.1 hk.2, kwi10 hp.2.1 hk.1 hk.2, kwi11 hp.2.1 hk.1 hk.2, kwl12 hp.2.1 hk.1 hk.2, kwl13 hp.2.1 hk.1 hk.2, kwl14 hp.2.1 hk.1 hk.2, kwl15 hp.2.1 hk.1 hk.2, lifL_q, l23]
        refine ⟨by omega, by omega, by omega, by omega, ?_⟩
        rintro M2 e2
        have hp2 := kPo_L (o := 11) hp e2 rfl (by decide)
        have l25 : lifV V (Y 10 w).toNat (Y 11 w) (Y 15 w) q 25 w = Y 11 w := by
          unfold lifV
          rw [if_neg (by omega)]
          exact (hw w hk).2.2.2.1
        have hbq := hb.2 _ q t0 t1 (by omega) (by omega)
        have hbd := yHd_b hi (Y 10 w) q
        simp only [kk0 hp2.1, kk1 hp2.1, kk2 hp2.1, kk3 hp2.1, kk4 hp2.1, kk5 hp2.1, kk6 hp2.1, kk7 hp2.1, kk8 hp2.1, kk9 hp2.1, kk10 hp2.1, kk11 hp2.1, kk12 hp2.1, kk13 hp2.1, kk14 hp2.1, kk15 hp2.1, kk16 hp2.1, kk17 hp2.1, kk18 hp2.1, kk19 hp2.1, kk20 hp2.1, kk21 hp2.1, kr0_0 hp2.1, kr0_1 hp2.1, kr0_2 hp2.1, kr0_3 hp2.1, kr0_4 hp2.1, kr1_0 hp2.1, kr1_1 hp2.1, kr1_2 hp2.1, kr5_0 hp2.1, kr5_1 hp2.1, kr5_2 hp2.1, kr5_3 hp2.1, kr10_0 hp2.1, kr10_1 hp2.1, kr17_0 hp2.1, kr17_1 hp2.1, kr17_2 hp2.1, kr17_3 hp2.1, kr17_4 hp2.1, kr20_0 hp2.1, kr20_1 hp2.1, kr20_2 hp2.1, kr20_3 hp2.1, ki1 hp2.2.1, ki2 hp2.2.1, ki3 hp2.2.1, ki4 hp2.2.1, ki5 hp2.2.1, ki7 hp2.2.1, kl8 hp2.2.1, kl9 hp2.2.1, ki10 hp2.2.1, kl11 hp2.2.1, ki13 hp2.2.1, ki14 hp2.2.1, ki15 hp2.2.1, ki16 hp2.2.1, ki17 hp2.2.1, ki18 hp2.2.1, ki19 hp2.2.1, ki20 hp2.2.1, ki21 hp2.2.1, Option.some.injEq, exists_eq_left', true_and, kwR hp2.1 hk.1 hk.2, kwK hp2.1 hk.1 hk.2, kwi0 hp2.2.1 hk.1 hk.2, kwl1 hp2.2.1 hk.1 hk.2, kwi2 hp2.2.1 hk.1 hk.2, kwi3 hp2.2.1 hk.1 hk.2, kwi4 hp2.2.1 hk.1 hk.2, kwi5 hp2.2.1 hk.1 hk.2, kwi6 hp2.2.1 hk.1 hk.2, kwi7 hp2.2.1 hk.1 hk.2, kwi8 hp2.2.1 hk.1 hk.2, kwi9 hp2.2.1 hk.1 hk.2, kwi10 hp2.2.1 hk.1 hk.2, kwi11 hp2.2.1 hk.1 hk.2, kwl12 hp2.2.1 hk.1 hk.2, kwl13 hp2.2.1 hk.1 hk.2, kwl14 hp2.2.1 hk.1 hk.2, kwl15 hp2.2.1 hk.1 hk.2, krk hp2.1 t0 t1, kri hp2.2.1 t0 t1, lifV_q, l25]
        refine ⟨by omega, by omega, by unfold zin; omega, by omega, by omega, ?_⟩
        rintro M3 e3
        have hp3 := kPo_I (o := 13 + (Y 10 w).toNat) hp2 e3 rfl (by omega)
        exact ⟨by unfold zin; omega, ih (q + 1) (by omega) (by omega) (by omega) M3 (kPo_eq hp3 (lifV_s h1) (lifL_s h1))⟩
    simp only [kk0 hs, kk1 hs, kk2 hs, kk3 hs, kk4 hs, kk5 hs, kk6 hs, kk7 hs, kk8 hs, kk9 hs, kk10 hs, kk11 hs, kk12 hs, kk13 hs, kk14 hs, kk15 hs, kk16 hs, kk17 hs, kk18 hs, kk19 hs, kk20 hs, kk21 hs, kr0_0 hs, kr0_1 hs, kr0_2 hs, kr0_3 hs, kr0_4 hs, kr1_0 hs, kr1_1 hs, kr1_2 hs, kr5_0 hs, kr5_1 hs, kr5_2 hs, kr5_3 hs, kr10_0 hs, kr10_1 hs, kr17_0 hs, kr17_1 hs, kr17_2 hs, kr17_3 hs, kr17_4 hs, kr20_0 hs, kr20_1 hs, kr20_2 hs, kr20_3 hs, ki1 hc, ki2 hc, ki3 hc, ki4 hc, ki5 hc, ki7 hc, kl8 hc, kl9 hc, ki10 hc, kl11 hc, ki13 hc, ki14 hc, ki15 hc, ki16 hc, ki17 hc, ki18 hc, ki19 hc, ki20 hc, ki21 hc, Option.some.injEq, exists_eq_left', true_and, kwR hs hk.1 hk.2, kwK hs hk.1 hk.2, kwi0 hc hk.1 hk.2, kwl1 hc hk.1 hk.2, kwi2 hc hk.1 hk.2, kwi3 hc hk.1 hk.2, kwi4 hc hk.1 hk.2, kwi5 hc hk.1 hk.2, kwi6 hc hk.1 hk.2, kwi7 hc hk.1 hk.2, kwi8 hc hk.1 hk.2, kwi9 hc hk.1 hk.2, kwi10 hc hk.1 hk.2, kwi11 hc hk.1 hk.2, kwl12 hc hk.1 hk.2, kwl13 hc hk.1 hk.2, kwl14 hc hk.1 hk.2, kwl15 hc hk.1 hk.2, (hw _ hk).1, (hw _ hk).2.1, (hw _ hk).2.2.1, (hw _ hk).2.2.2.1, (hw _ hk).2.2.2.2.1, (hw _ hk).2.2.2.2.2.1, (hw _ hk).2.2.2.2.2.2.1, (hw _ hk).2.2.2.2.2.2.2.1, (hw _ hk).2.2.2.2.2.2.2.2.1, (hw _ hk).2.2.2.2.2.2.2.2.2, krw hs t0 t1]
    refine ⟨by trivial, t0, by omega, key (Y 9 w).toNat (Y 15 w) (by omega) (by omega) (by omega) M (kPo_eq (kPo_rf hs hc) lifV_0 lifL_0)⟩
  · have hp : Y 15 w = -1 := p2i_n0.mp q
    have e : ∀ i, yup Y 15 w (-1) 15 i = Y 15 i := fun i => by
      by_cases z : i = w
      · rw [z, yup_s, hp]
      · rw [yup_n _ _ _ _ (fun z2 => z z2.2)]
    refine ⟨V, L, kPo_rf hs hc, fun _ _ _ _ => rfl, fun _ _ _ => rfl, rW_c hw (fun _ _ _ _ => rfl) (fun _ => rfl) (fun f _ _ i => ?_), rBd_c hb (fun _ => rfl) (fun _ _ _ => rfl) (fun _ => rfl) (fun _ => rfl) (fun _ => rfl) (fun _ => rfl) e⟩
    by_cases z : f = 15
    · rw [z]; exact e i
    · exact yup_o z i
/-- a work's shift changes, all else stands -/
theorem kRp_15 {V V' Y Y' : yS} {L L' : yL} (h : kRp V L Y) (v : ∀ o, o ≠ 30 → (o < 13 ∨ 16 < o) → ∀ i, V' o i = V o i) (l : ∀ o, o ≠ 11 → ∀ i, L' o i = L o i) (hw : rW V' L' Y') (hb : rBd V' L' Y') (y : ∀ f, f ≠ 15 → ∀ i, Y' f i = Y f i) : kRp V' L' Y' := by
  have hS := h.1
  have hG := h.2.1
  exact ⟨⟨by rw [v 1 (by omega) (by omega), y 1 (by omega)]; exact hS.1, by rw [v 1 (by omega) (by omega), y 6 (by omega)]; exact hS.2.1, by rw [v 5 (by omega) (by omega), y 8 (by omega)]; exact hS.2.2.1, by rw [v 10 (by omega) (by omega), y 0 (by omega)]; exact hS.2.2.2⟩, ⟨fun i => by rw [v 2 (by omega) (by omega), y 2 (by omega)]; exact hG.1 i, fun i => by rw [v 18 (by omega) (by omega), y 4 (by omega)]; exact hG.2.1 i, fun i => by rw [v 19 (by omega) (by omega), y 5 (by omega)]; exact hG.2.2 i⟩, rNr_c (kRp_nr h) (v 3 (by omega) (by omega)) (y 3 (by omega)), rBr_c (kRp_br h) (v 4 (by omega) (by omega)) (y 7 (by omega)), hw, rNd_c (kRp_nd h) (l 34 (by omega)) (y 8 (by omega)) (y 17 (by omega)), rUn_c (kRp_un h) (l 35 (by omega)) (y 8 (by omega)) (y 17 (by omega)), rTl_c (kRp_tl h) (l 36 (by omega)) (y 8 (by omega)) (y 18 (by omega)), rFo_c (kRp_fo h) (l 37 (by omega)) (y 3 (by omega)) (y 7 (by omega)) (y 8 (by omega)) (y 12 (by omega)) (y 13 (by omega)), rEt_c (kRp_et h) (v 32 (by omega) (by omega)) (v 33 (by omega) (by omega)) (v 5 (by omega) (by omega) 5) (y 8 (by omega)) (y 9 (by omega)) (y 17 (by omega)), rTk_c (kRp_tk h) (l 8 (by omega)) (l 9 (by omega)) (y 8 (by omega)) (y 12 (by omega)) (y 14 (by omega)), hb⟩
theorem kB_T (h : kRp V L Y) {M' : zM} {w s : Int} (hb : kB x wa (Y 8 0) M M' V L (yup Y 15 w s)) : ∃ V1 L1, kPo x wa (Y 8 0) M M' V1 L1 ∧ (∀ o, o ≠ 30 → (o < 13 ∨ 16 < o) → ∀ i, V1 o i = V o i) ∧ kRp V1 L1 (yup Y 15 w s) := by
  obtain ⟨V1, L1, h1, h2, h3, h4, h5⟩ := hb
  exact ⟨V1, L1, h1, h2, kRp_15 h h2 h3 h4 h5 (fun f hf => yup_o hf)⟩
end C12
