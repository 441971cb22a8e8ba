/-! ===== contracts of the reference: searches and counts ===== -/
theorem zdownI {n : Int} {F : Int → Prop} (h0 : ∀ k, n ≤ k → 0 ≤ k → F k) (hs : ∀ k, 0 ≤ k → k < n → F (k + 1) → F k) : ∀ k, 0 ≤ k → F k := by
  have key : ∀ (j : Nat) (k : Int), 0 ≤ k → n - k ≤ j → F k := by
    intro j
    induction j with
    | zero => intro k hk hj; exact h0 k (by omega) hk
    | succ j ih =>
      intro k hk hj
      by_cases h : n ≤ k
      · exact h0 k h hk
      · exact hs k hk (by omega) (ih (k + 1) (by omega) (by omega))
  exact fun k hk => key (n - k).toNat k hk (by omega)
noncomputable def yfind (p : Int → Prop) : Nat → Int → Int
  | 0, _ => -1
  | k + 1, s => pif (p s) s (yfind p k (s + 1))
/-- the least of lo .. hi - 1 with p; -1 if there is none -/
noncomputable def ylst (p : Int → Prop) (lo hi : Int) : Int := yfind p (hi - lo).toNat lo
theorem ylst_n {p : Int → Prop} {lo hi : Int} (h : hi ≤ lo) : ylst p lo hi = -1 := by
  unfold ylst
  rw [show (hi - lo).toNat = 0 by omega]
  rfl
theorem ylst_s {p : Int → Prop} {lo hi : Int} (h : lo < hi) : ylst p lo hi = pif (p lo) lo (ylst p (lo + 1) hi) := by
  unfold ylst
  rw [show (hi - lo).toNat = (hi - (lo + 1)).toNat + 1 by omega]
  rfl
theorem ylst_t {p : Int → Prop} {lo hi : Int} (h : lo < hi) (hp : p lo) : ylst p lo hi = lo := by rw [ylst_s h, pif_t hp]
theorem ylst_f {p : Int → Prop} {lo hi : Int} (h : lo < hi) (hp : ¬ p lo) : ylst p lo hi = ylst p (lo + 1) hi := by rw [ylst_s h, pif_f hp]
/-- what it is -/
theorem ylst_spec (p : Int → Prop) : ∀ (n : Nat) (lo hi : Int), hi - lo ≤ n → (ylst p lo hi = -1 ∧ ∀ s, lo ≤ s → s < hi → ¬ p s) ∨ (lo ≤ ylst p lo hi ∧ ylst p lo hi < hi ∧ p (ylst p lo hi) ∧ ∀ s, lo ≤ s → s < ylst p lo hi → ¬ p s) := by
  intro n
  induction n with
  | zero => intro lo hi h; exact Or.inl ⟨ylst_n (by omega), fun s h1 h2 => by omega⟩
  | succ n ih =>
    intro lo hi h
    by_cases hl : hi ≤ lo
    · exact Or.inl ⟨ylst_n hl, fun s h1 h2 => by omega⟩
    · by_cases hp : p lo
      · rw [ylst_t (by omega) hp]
        exact Or.inr ⟨by omega, by omega, hp, fun s h1 h2 => by omega⟩
      · rw [ylst_f (by omega) hp]
        rcases ih (lo + 1) hi (by omega) with ⟨a, b⟩ | ⟨a, b, c, e⟩
        · refine Or.inl ⟨a, fun s h1 h2 => ?_⟩
          by_cases q : s = lo
          · rw [q]; exact hp
          · exact b s (by omega) h2
        · refine Or.inr ⟨by omega, b, c, fun s h1 h2 => ?_⟩
          by_cases q : s = lo
          · rw [q]; exact hp
          · exact e s (by omega) h2
theorem ylst_ne {p : Int → Prop} {lo hi : Int} (h0 : 0 ≤ lo) : ylst p lo hi ≠ -1 ↔ ∃ s, lo ≤ s ∧ s < hi ∧ p s := by
  rcases ylst_spec p (hi - lo).toNat lo hi (by omega) with ⟨a, b⟩ | ⟨a, b, c, e⟩
  · rw [a]
    exact ⟨fun q => absurd rfl q, fun ⟨s, h1, h2, h3⟩ => absurd h3 (b s h1 h2)⟩
  · exact ⟨fun _ => ⟨_, a, b, c⟩, fun _ => by omega⟩
theorem ylst_congr {p q : Int → Prop} : ∀ (n : Nat) (lo hi : Int), hi - lo ≤ n → (∀ s, lo ≤ s → s < hi → (p s ↔ q s)) → ylst p lo hi = ylst q lo hi := by
  intro n
  induction n with
  | zero => intro lo hi h _; rw [ylst_n (by omega), ylst_n (by omega)]
  | succ n ih =>
    intro lo hi h hpq
    by_cases hl : hi ≤ lo
    · rw [ylst_n hl, ylst_n hl]
    · have e := hpq lo (by omega) (by omega)
      by_cases hp : p lo
      · rw [ylst_t (by omega) hp, ylst_t (by omega) (e.mp hp)]
      · rw [ylst_f (by omega) hp, ylst_f (by omega) (fun z => hp (e.mpr z))]
        exact ih (lo + 1) hi (by omega) (fun s h1 h2 => hpq s (by omega) h2)
/-- the sum of f 0 .. f (n - 1) -/
def ysumN (f : Int → Int) : Nat → Int
  | 0 => 0
  | n + 1 => ysumN f n + f n
def ysum (f : Int → Int) (n : Int) : Int := ysumN f n.toNat
theorem ysum_0 (f : Int → Int) : ysum f 0 = 0 := rfl
theorem ysum_s {f : Int → Int} {n : Int} (h : 0 ≤ n) : ysum f (n + 1) = ysum f n + f n := by
  unfold ysum
  rw [show (n + 1).toNat = n.toNat + 1 by omega]
  show ysumN f n.toNat + f (n.toNat : Int) = _
  rw [show ((n.toNat : Nat) : Int) = n by omega]
theorem ysum_le {f : Int → Int} {b : Int} : ∀ n : Nat, (∀ k : Int, 0 ≤ k → k < n → 0 ≤ f k ∧ f k ≤ b) → 0 ≤ ysumN f n ∧ ysumN f n ≤ b * n := by
  intro n
  induction n with
  | zero => intro _; exact ⟨Int.le_refl _, by show (0 : Int) ≤ b * 0; omega⟩
  | succ n ih =>
    intro h
    have h1 := ih (fun k a b => h k a (by omega))
    have h2 := h n (by omega) (by omega)
    have e : b * ((n + 1 : Nat) : Int) = b * n + b := by rw [Int.natCast_succ, Int.mul_add, Int.mul_one]
    show 0 ≤ ysumN f n + f n ∧ ysumN f n + f n ≤ _
    omega
theorem ysum_b {f : Int → Int} {b n : Int} (hn : 0 ≤ n) (h : ∀ k, 0 ≤ k → k < n → 0 ≤ f k ∧ f k ≤ b) : 0 ≤ ysum f n ∧ ysum f n ≤ b * n := by
  have := ysum_le (f := f) (b := b) n.toNat (fun k a q => h k a (by omega))
  rw [show ((n.toNat : Nat) : Int) = n by omega] at this
  exact this
theorem ysumN_congr {f g : Int → Int} : ∀ n : Nat, (∀ k : Int, 0 ≤ k → k < n → f k = g k) → ysumN f n = ysumN g n := by
  intro n
  induction n with
  | zero => intro _; rfl
  | succ n ih =>
    intro h
    show ysumN f n + f n = ysumN g n + g n
    rw [ih (fun k a b => h k a (by omega)), h n (by omega) (by omega)]
theorem ysum_congr {f g : Int → Int} {n : Int} (h : ∀ k, 0 ≤ k → k < n → f k = g k) : ysum f n = ysum g n := ysumN_congr n.toNat (fun k a b => h k a (by omega))
def yNd (Y : yS) (w k : Int) : Prop := Y 17 (40 * w + k) ≠ 0
def yReady (Y : yS) (w : Int) : Prop := ¬ yPut Y w ∧ ∀ k, 0 ≤ k → k < Y 8 0 → yNd Y w k → yPut Y k
def yBar (Y : yS) (v w : Int) : Prop := Y 7 (5 * Y 13 v + Y 13 w) ≠ 0 ∧ (zand (Y 7 (5 * Y 13 v + Y 13 w)) 4 ≠ 0 ∨ Y 12 v = Y 12 w ∨ (zand (Y 7 (5 * Y 13 v + Y 13 w)) 2 ≠ 0 ∧ Y 3 (20 * Y 12 v + Y 12 w) ≠ 0))
section M3
variable {E : zE} {d a : Nat} {M : zM} {Y : yS} {c : Int}
theorem c_isReady (hs : mSh a M) (hc : mCo a M Y) (hi : yInv c Y) {w : Int} (h0 : 0 ≤ w) (h1 : w < Y 8 0) : zCi E mX7_isReady (d + 2) 0 0 [vR (some a), vI w] M (fun r M' => r = p2i (yReady Y w) ∧ M' = M) := by
  refine sX7_isReady _ _ (fun X hr => vX7_isReady_0 hr _ _ ?_)
  have h8 := yI_n hi
  have key : ∀ k : Int, 0 ≤ k → k ≤ Y 8 0 → ∀ v : Int, v = p2i (¬ yPut Y w ∧ ∀ j, 0 ≤ j → j < k → yNd Y w j → yPut Y j) → ZX7_isReady E (d + 1) X (fun r M' => r = p2i (yReady Y w) ∧ M' = M) 16 [(0, vR (some a)), (1, vI w), (2, vI v), (3, vI k)] [] M 0 0 := by
    refine zdownI (n := Y 8 0) (fun k hk hk0 hk2 v hv => ?_) (fun k hk0 hk ih hk2 v hv => ?_)
    · have hk : k = Y 8 0 := by omega
      subst hk
      have h01 : v = 0 ∨ v = 1 := by rw [hv]; exact p2i_01 _
      refine vX7_isReady_16 hr _ _ _ _ ?_
      simp only [mk0 hs, mr2 hs, mk2 hs, mi2 hc, mr3 hs, mk3 hs, mi3 hc, mr4 hs, mk4 hs, mi4 hc, mr5 hs, mk5 hs, mi5 hc, mr7 hs, mk7 hs, mi7 hc, mr9 hs, mk9 hs, mi9 hc, mr10 hs, mk10 hs, mi10 hc, mr11 hs, mk11 hs, mi11 hc, mr12 hs, mk12 hs, mi12 hc, mr13 hs, mk13 hs, mi13 hc, mr14 hs, mk14 hs, mi14 hc, mr15 hs, mk15 hs, mi15 hc, mr16 hs, mk16 hs, mi16 hc, mr17 hs, mk17 hs, mi17 hc, mr18 hs, mk18 hs, mi18 hc, mr19 hs, mk19 hs, mr20 hs, mk20 hs, mr21 hs, mk21 hs, mr22 hs, mk22 hs, mr23 hs, mk23 hs, mr24 hs, mk24 hs, mi0 hc, mi1 hc, mi6 hc, mi8 hc, Option.some.injEq, exists_eq_left', true_and]
      exact ⟨fun _ => ⟨h01, hv, trivial⟩, fun q => by omega⟩
    · have ih := ih (by omega)
      have h01 : v = 0 ∨ v = 1 := by rw [hv]; exact p2i_01 _
      refine vX7_isReady_16 hr _ _ _ _ ?_
      simp only [mk0 hs, mr2 hs, mk2 hs, mi2 hc, mr3 hs, mk3 hs, mi3 hc, mr4 hs, mk4 hs, mi4 hc, mr5 hs, mk5 hs, mi5 hc, mr7 hs, mk7 hs, mi7 hc, mr9 hs, mk9 hs, mi9 hc, mr10 hs, mk10 hs, mi10 hc, mr11 hs, mk11 hs, mi11 hc, mr12 hs, mk12 hs, mi12 hc, mr13 hs, mk13 hs, mi13 hc, mr14 hs, mk14 hs, mi14 hc, mr15 hs, mk15 hs, mi15 hc, mr16 hs, mk16 hs, mi16 hc, mr17 hs, mk17 hs, mi17 hc, mr18 hs, mk18 hs, mi18 hc, mr19 hs, mk19 hs, mr20 hs, mk20 hs, mr21 hs, mk21 hs, mr22 hs, mk22 hs, mr23 hs, mk23 hs, mr24 hs, mk24 hs, mi0 hc, mi1 hc, mi6 hc, mi8 hc, Option.some.injEq, exists_eq_left', true_and]
      refine ⟨fun q => by omega, fun _ => ⟨fun q => ⟨h01, ?_, trivial⟩, fun q => ?_⟩⟩
      · rw [q]
        rw [q] at hv
        exact p2i_z0 (fun z => p2i_0.mp hv.symm ⟨z.1, fun j a b => z.2 j a (by omega)⟩)
      · rw [hv] at q
        have q := p2i_n0.mp q
        have yes : (yNd Y w k → yPut Y k) → 1 = p2i (¬ yPut Y w ∧ ∀ j, 0 ≤ j → j < k + 1 → yNd Y w j → yPut Y j) := fun z => p2i_z1 ⟨q.1, fun j a b => by
          by_cases e : j = k
          · rw [e]; exact z
          · exact q.2 j a (by omega)⟩
        refine ⟨by unfold zin; omega, by unfold zin; omega, by omega, by omega, fun q2 => ⟨by unfold zin; omega, ih _ (yes (fun z => absurd q2 z))⟩, fun q2 => zu (c_isPut hs hc hk0 (by omega)) ⟨fun q3 => ⟨by unfold zin; omega, ih _ (p2i_z0 (fun z => p2i_0.mp q3 (z.2 k hk0 (by omega) q2)))⟩, fun q3 => ⟨by unfold zin; omega, ih _ (yes (fun _ => p2i_n0.mp q3))⟩⟩⟩
  have k0 := key 0 (by omega) (by omega)
  refine ⟨hs.1, zu (c_isPut hs hc h0 (by omega)) ⟨fun q => k0 _ (p2i_z0 (fun z => z.1 (p2i_n0.mp q))), fun q => k0 _ (p2i_z1 ⟨p2i_0.mp q, fun j a b => by exfalso; omega⟩)⟩⟩
theorem c_isBarred (hs : mSh a M) (hc : mCo a M Y) (hi : yInv c Y) {v w : Int} (h0 : 0 ≤ v) (h1 : v < Y 8 0) (g0 : 0 ≤ w) (g1 : w < Y 8 0) : zCi E mX7_isBarred (d + 1) 0 0 [vR (some a), vI v, vI w] M (fun r M' => r = p2i (yBar Y v w) ∧ M' = M) := by
  refine sX7_isBarred _ _ _ (fun X hr => vX7_isBarred_0 hr _ _ _ ?_)
  have h8 := yI_n hi
  have hsp := yI_sp hi
  have hv := yI_w hi h0 h1
  have hw := yI_w hi g0 g1
  have h7 := hi.2.2.2.2.2.2.2.2.2.1 (5 * Y 13 v + Y 13 w)
  simp only [mk0 hs, mr2 hs, mk2 hs, mi2 hc, mr3 hs, mk3 hs, mi3 hc, mr4 hs, mk4 hs, mi4 hc, mr5 hs, mk5 hs, mi5 hc, mr7 hs, mk7 hs, mi7 hc, mr9 hs, mk9 hs, mi9 hc, mr10 hs, mk10 hs, mi10 hc, mr11 hs, mk11 hs, mi11 hc, mr12 hs, mk12 hs, mi12 hc, mr13 hs, mk13 hs, mi13 hc, mr14 hs, mk14 hs, mi14 hc, mr15 hs, mk15 hs, mi15 hc, mr16 hs, mk16 hs, mi16 hc, mr17 hs, mk17 hs, mi17 hc, mr18 hs, mk18 hs, mi18 hc, mr19 hs, mk19 hs, mr20 hs, mk20 hs, mr21 hs, mk21 hs, mr22 hs, mk22 hs, mr23 hs, mk23 hs, mr24 hs, mk24 hs, mi0 hc, mi1 hc, mi6 hc, mi8 hc, Option.some.injEq, exists_eq_left', true_and]
  refine ⟨h0, by omega, by unfold zin; omega, g0, by omega, by unfold zin; omega, by omega, by omega, fun q => ⟨by omega, by omega, fun q2 => ⟨p2i_z1 ⟨q, Or.inl q2⟩, by trivial⟩, fun q2 => ⟨h0, by omega, g0, by omega, fun q3 => ⟨by omega, by omega, fun q4 => ⟨p2i_z0 ?_, by trivial⟩, fun q4 => ⟨h0, by omega, by unfold zin; omega, g0, by omega, by unfold zin; omega, by omega, by omega, fun q5 => ⟨p2i_z0 ?_, by trivial⟩, fun q5 => ⟨p2i_z1 ⟨q, Or.inr (Or.inr ⟨q4, q5⟩)⟩, by trivial⟩⟩⟩, fun q3 => ⟨p2i_z1 ⟨q, Or.inr (Or.inl q3)⟩, by trivial⟩⟩⟩, fun q => ⟨p2i_z0 (fun z => z.1 q), by trivial⟩⟩
  · rintro ⟨-, z | z | z⟩
    · exact z q2
    · exact q3 z
    · exact z.1 q4
  · rintro ⟨-, z | z | z⟩
    · exact z q2
    · exact q3 z
    · exact z.2 q5
end M3
