/-! ===== ranks; early and tail; contracts of the reference: way, slack ===== -/
theorem ysumN_lt {f g : Int → Int} {b : Int} : ∀ n : Nat, 0 ≤ b → (∀ k : Int, 0 ≤ k → k < n → f k ≤ g k) → (b < n → f b < g b) → ysumN f n + (if b < n then 1 else 0) ≤ ysumN g n := by
  intro n
  induction n with
  | zero => intro h0 _ _; rw [if_neg (by omega)]; exact Int.le_refl _
  | succ n ih =>
    intro h0 h1 h2
    have i1 := ih h0 (fun k a q => h1 k a (by omega)) (fun q => h2 (by omega))
    have i2 := h1 n (by omega) (by omega)
    show ysumN f n + f n + _ ≤ ysumN g n + g n
    by_cases e : (n : Int) = b
    · have i3 := h2 (by omega)
      rw [if_neg (by omega)] at i1
      rw [if_pos (by omega)]
      rw [← e] at i3
      omega
    · by_cases q : b < (n : Int)
      · rw [if_pos q] at i1
        rw [if_pos (by omega)]
        omega
      · rw [if_neg q] at i1
        rw [if_neg (by omega)]
        omega
theorem ysum_lt {f g : Int → Int} {b n : Int} (h0 : 0 ≤ b) (hb : b < n) (h1 : ∀ k, 0 ≤ k → k < n → f k ≤ g k) (h2 : f b < g b) : ysum f n < ysum g n := by
  have := ysumN_lt (f := f) (g := g) (b := b) n.toNat h0 (fun k a q => h1 k a (by omega)) (fun _ => h2)
  rw [if_pos (by omega)] at this
  unfold ysum
  omega
theorem ysum_one {n : Int} (h : 0 ≤ n) : ysum (fun _ => 1) n = n := by
  have : ∀ m : Nat, ysumN (fun _ => 1) m = m := by
    intro m
    induction m with
    | zero => rfl
    | succ m ih => show ysumN (fun _ => 1) m + 1 = _; rw [ih]; omega
  unfold ysum
  rw [this]
  omega
def yAcy (Y : yS) : Prop := ∀ w, yWk Y w → ¬ yHang Y w w
noncomputable def yRk (Y : yS) (w : Int) : Int := ysum (fun k => p2i (yHang Y w k)) (Y 8 0)
theorem p2i_mono {p q : Prop} (h : p → q) : p2i p ≤ p2i q := by
  by_cases hp : p
  · rw [p2i_t hp, p2i_t (h hp)]; omega
  · rw [p2i_f hp]; rcases p2i_01 q with z | z <;> rw [z] <;> omega
theorem rk_lt {Y : yS} (ha : yAcy Y) {v k : Int} (hk : yWk Y k) (hn : yNd Y v k) : yRk Y k < yRk Y v := by
  refine ysum_lt (b := k) hk.1 hk.2 (fun m _ _ => p2i_mono (fun h => hang_trans (hang_nd hk hn) h)) ?_
  rw [p2i_f (ha k hk), p2i_t (hang_nd hk hn)]
  omega
theorem rk_b {c : Int} {Y : yS} (hi : yInv c Y) (ha : yAcy Y) {w : Int} (hw : yWk Y w) : 0 ≤ yRk Y w ∧ yRk Y w ≤ 39 := by
  have h8 := yI_n hi
  refine ⟨ysum_nn (fun k _ _ => by rcases p2i_01 (yHang Y w k) with q | q <;> rw [q] <;> omega), ?_⟩
  have : yRk Y w < ysum (fun _ => 1) (Y 8 0) := ysum_lt (b := w) hw.1 hw.2 (fun m _ _ => by rcases p2i_01 (yHang Y w m) with q | q <;> rw [q] <;> omega) (by rw [p2i_f (ha w hw)]; omega)
  rw [ysum_one h8.1] at this
  omega
def yEa (Y : yS) (e : Int → Int) : Prop := ∀ v, yWk Y v → 0 ≤ e v ∧ (∀ b, yWk Y b → yNd Y v b → e b + Y 9 b ≤ e v) ∧ (e v = 0 ∨ ∃ b, yWk Y b ∧ yNd Y v b ∧ e v = e b + Y 9 b)
def yTa (Y : yS) (t : Int → Int) : Prop := ∀ b, yWk Y b → 0 ≤ t b ∧ (∀ v, yWk Y v → yNd Y v b → t v + Y 9 v ≤ t b) ∧ (t b = 0 ∨ ∃ v, yWk Y v ∧ yNd Y v b ∧ t b = t v + Y 9 v)
theorem ea_le {c : Int} {Y : yS} (hi : yInv c Y) (ha : yAcy Y) {e f : Int → Int} (h1 : yEa Y e) (h2 : yEa Y f) : ∀ (n : Nat) (v : Int), yWk Y v → yRk Y v < n → e v ≤ f v := by
  intro n
  induction n with
  | zero => intro v hv h; have := (rk_b hi ha hv).1; omega
  | succ n ih =>
    intro v hv h
    rcases (h1 v hv).2.2 with q | ⟨b, hb, hn, q⟩
    · rw [q]; exact (h2 v hv).1
    · have := ih b hb (by have := rk_lt ha hb hn; omega)
      have := (h2 v hv).2.1 b hb hn
      omega
theorem ta_le {c : Int} {Y : yS} (hi : yInv c Y) (ha : yAcy Y) {e f : Int → Int} (h1 : yTa Y e) (h2 : yTa Y f) : ∀ (n : Nat) (v : Int), yWk Y v → 39 - yRk Y v < n → e v ≤ f v := by
  intro n
  induction n with
  | zero => intro v hv h; have := (rk_b hi ha hv).2; omega
  | succ n ih =>
    intro v hv h
    rcases (h1 v hv).2.2 with q | ⟨b, hb, hn, q⟩
    · rw [q]; exact (h2 v hv).1
    · have := ih b hb (by have := rk_lt ha hv hn; omega)
      have := (h2 v hv).2.1 b hb hn
      omega
noncomputable def yE (Y : yS) : Int → Int := @Classical.epsilon (Int → Int) ⟨fun _ => 0⟩ (yEa Y)
noncomputable def yT (Y : yS) : Int → Int := @Classical.epsilon (Int → Int) ⟨fun _ => 0⟩ (yTa Y)
theorem yE_eq {c : Int} {Y : yS} (hi : yInv c Y) (ha : yAcy Y) {e : Int → Int} (h : yEa Y e) {v : Int} (hv : yWk Y v) : e v = yE Y v := by
  have h2 : yEa Y (yE Y) := @Classical.epsilon_spec_aux (Int → Int) ⟨fun _ => 0⟩ (yEa Y) ⟨e, h⟩
  have r := rk_b hi ha hv
  have a1 := ea_le hi ha h h2 (yRk Y v + 1).toNat v hv (by omega)
  have a2 := ea_le hi ha h2 h (yRk Y v + 1).toNat v hv (by omega)
  omega
theorem yT_eq {c : Int} {Y : yS} (hi : yInv c Y) (ha : yAcy Y) {e : Int → Int} (h : yTa Y e) {v : Int} (hv : yWk Y v) : e v = yT Y v := by
  have h2 : yTa Y (yT Y) := @Classical.epsilon_spec_aux (Int → Int) ⟨fun _ => 0⟩ (yTa Y) ⟨e, h⟩
  have r := rk_b hi ha hv
  have a1 := ta_le hi ha h h2 (39 - yRk Y v + 1).toNat v hv (by omega)
  have a2 := ta_le hi ha h2 h (39 - yRk Y v + 1).toNat v hv (by omega)
  omega
noncomputable def wayR (Y : yS) : Int := yfold (fun v w => pif (v < yE Y w + Y 9 w + yT Y w) (yE Y w + Y 9 w + yT Y w) v) 0 (Y 8 0)
/-- behind way(): the rows of early and tail stand -/
def mWy (a : Nat) (M M' : zM) (Y : yS) : Prop := mPo a M M' Y ∧ ∀ k, yWk Y k → (zI M' (a + 17) k = yE Y k ∧ zI M' (a + 18) k = yT Y k) ∧ (0 ≤ yE Y k ∧ yE Y k ≤ 1560) ∧ (0 ≤ yT Y k ∧ yT Y k ≤ 1560)
def wOk (a : Nat) (M0 : zM) (Y : yS) (M : zM) : Prop := mPo a M0 M Y ∧ ∀ k, yWk Y k → (0 ≤ zI M (a + 17) k ∧ zI M (a + 17) k ≤ 40 * yRk Y k) ∧ (0 ≤ zI M (a + 18) k ∧ zI M (a + 18) k ≤ 40 * (39 - yRk Y k)) ∧ (zI M (a + 17) k = 0 ∨ ∃ b, yWk Y b ∧ yNd Y k b ∧ zI M (a + 17) k ≤ zI M (a + 17) b + Y 9 b) ∧ (zI M (a + 18) k = 0 ∨ ∃ b, yWk Y b ∧ yNd Y b k ∧ zI M (a + 18) k ≤ zI M (a + 18) b + Y 9 b)
def wMu (a : Nat) (Y : yS) (M : zM) : Int := ysum (fun k => 1560 - zI M (a + 17) k - zI M (a + 18) k) (Y 8 0)
def wPr (a : Nat) (Y : yS) (M : zM) (x b : Int) : Prop := yNd Y x b → zI M (a + 17) b + Y 9 b ≤ zI M (a + 17) x ∧ zI M (a + 18) x + Y 9 x ≤ zI M (a + 18) b
theorem wMu_nn {a : Nat} {M0 M : zM} {Y : yS} (h : wOk a M0 Y M) : 0 ≤ wMu a Y M := ysum_nn (fun k h0 h1 => by have := h.2 k ⟨h0, h1⟩; omega)
theorem wOk_e {a : Nat} {M0 M M1 : zM} {Y : yS} {c x b : Int} (hi : yInv c Y) (ha : yAcy Y) (h : wOk a M0 Y M) (hx : yWk Y x) (hb : yWk Y b) (hn : yNd Y x b) (hlt : zI M (a + 17) x < zI M (a + 17) b + Y 9 b) (e : M1 = zsI M (a + 17) x (zI M (a + 17) b + Y 9 b)) : wOk a M0 Y M1 ∧ wMu a Y M1 < wMu a Y M := by
  have hw := yI_w hi hb.1 hb.2
  have hr := rk_lt ha hb hn
  have hB := h.2 b hb
  have hX := h.2 x hx
  subst e
  have z : ∀ k, zI (zsI M (a + 17) x (zI M (a + 17) b + Y 9 b)) (a + 17) k = if k = x then zI M (a + 17) b + Y 9 b else zI M (a + 17) k := fun k => by
    rw [zI_sI]
    by_cases q : k = x
    · rw [if_pos ⟨rfl, q⟩, if_pos q]
    · rw [if_neg (fun w => q w.2), if_neg q]
  have z2 : ∀ k, zI (zsI M (a + 17) x (zI M (a + 17) b + Y 9 b)) (a + 18) k = zI M (a + 18) k := fun k => by
    rw [zI_sI, if_neg (fun w => by have := w.1; omega)]
  have bx : b ≠ x := fun q => by rw [q] at hr; omega
  refine ⟨⟨mPo_scr h.1 rfl (f := 20) (by decide) (by decide) rfl, fun k hk => ?_⟩, ?_⟩
  · have hK := h.2 k hk
    rw [z, z2]
    refine ⟨?_, hK.2.1, ?_, ?_⟩
    · by_cases q : k = x
      · rw [if_pos q, q]; omega
      · rw [if_neg q]; exact hK.1
    · by_cases q : k = x
      · rw [if_pos q]
        refine Or.inr ⟨b, hb, by rw [q]; exact hn, ?_⟩
        rw [z, if_neg bx]
        omega
      · rw [if_neg q]
        rcases hK.2.2.1 with w | ⟨m, hm, hmn, w⟩
        · exact Or.inl w
        · refine Or.inr ⟨m, hm, hmn, ?_⟩
          rw [z]
          by_cases qm : m = x
          · rw [if_pos qm]; rw [qm] at w; rw [qm]; omega
          · rw [if_neg qm]; exact w
    · rcases hK.2.2.2 with w | ⟨m, hm, hmn, w⟩
      · exact Or.inl w
      · exact Or.inr ⟨m, hm, hmn, by rw [z2]; exact w⟩
  · refine ysum_lt (b := x) hx.1 hx.2 (fun k k0 k1 => ?_) ?_
    · rw [z, z2]
      by_cases q : k = x
      · rw [if_pos q, q]; omega
      · rw [if_neg q]; omega
    · rw [z, z2, if_pos rfl]; omega
theorem wOk_t {a : Nat} {M0 M M1 : zM} {Y : yS} {c x b : Int} (hi : yInv c Y) (ha : yAcy Y) (h : wOk a M0 Y M) (hx : yWk Y x) (hb : yWk Y b) (hn : yNd Y x b) (hlt : zI M (a + 18) b < zI M (a + 18) x + Y 9 x) (e : M1 = zsI M (a + 18) b (zI M (a + 18) x + Y 9 x)) : wOk a M0 Y M1 ∧ wMu a Y M1 < wMu a Y M := by
  have hw := yI_w hi hx.1 hx.2
  have hr := rk_lt ha hb hn
  have hB := h.2 b hb
  have hX := h.2 x hx
  subst e
  have z : ∀ k, zI (zsI M (a + 18) b (zI M (a + 18) x + Y 9 x)) (a + 18) k = if k = b then zI M (a + 18) x + Y 9 x else zI M (a + 18) k := fun k => by
    rw [zI_sI]
    by_cases q : k = b
    · rw [if_pos ⟨rfl, q⟩, if_pos q]
    · rw [if_neg (fun w => q w.2), if_neg q]
  have z2 : ∀ k, zI (zsI M (a + 18) b (zI M (a + 18) x + Y 9 x)) (a + 17) k = zI M (a + 17) k := fun k => by
    rw [zI_sI, if_neg (fun w => by have := w.1; omega)]
  have bx : x ≠ b := fun q => by rw [q] at hr; omega
  refine ⟨⟨mPo_scr h.1 rfl (f := 21) (by decide) (by decide) rfl, fun k hk => ?_⟩, ?_⟩
  · have hK := h.2 k hk
    rw [z, z2]
    refine ⟨hK.1, ?_, ?_, ?_⟩
    · by_cases q : k = b
      · rw [if_pos q, q]; omega
      · rw [if_neg q]; exact hK.2.1
    · rcases hK.2.2.1 with w | ⟨m, hm, hmn, w⟩
      · exact Or.inl w
      · exact Or.inr ⟨m, hm, hmn, by rw [z2]; exact w⟩
    · by_cases q : k = b
      · rw [if_pos q]
        refine Or.inr ⟨x, hx, by rw [q]; exact hn, ?_⟩
        rw [z, if_neg bx]
        omega
      · rw [if_neg q]
        rcases hK.2.2.2 with w | ⟨m, hm, hmn, w⟩
        · exact Or.inl w
        · refine Or.inr ⟨m, hm, hmn, ?_⟩
          rw [z]
          by_cases qm : m = b
          · rw [if_pos qm]; rw [qm] at w; rw [qm]; omega
          · rw [if_neg qm]; exact w
  · refine ysum_lt (b := b) hb.1 hb.2 (fun k k0 k1 => ?_) ?_
    · rw [z, z2]
      by_cases q : k = b
      · rw [if_pos q, q]; omega
      · rw [if_neg q]; omega
    · rw [z, z2, if_pos rfl]; omega
section M8
variable {E : zE} {d a : Nat} {M : zM} {Y : yS} {c : Int}
theorem c_way (hs : mSh a M) (hc : mCo a M Y) (hi : yInv c Y) (ha : yAcy Y) : zCi E mX7_way (d + 1) 0 0 [vR (some a)] M (fun r M' => r = wayR Y ∧ mWy a M M' Y) := by
  refine sX7_way _ (fun X hr => vX7_way_0 hr _ ?_)
  have h8 := yI_n hi
  -- the last loop
  have L180 : ∀ (M1 : zM) (x1 : Int), mWy a M M1 Y → ∀ k : Int, 0 ≤ k → k ≤ Y 8 0 → ZX7_way E d X (fun r M' => r = wayR Y ∧ mWy a M M' Y) 180 [(0, vR (some a)), (1, vI x1), (2, vI (yfold (fun v w => pif (v < yE Y w + Y 9 w + yT Y w) (yE Y w + Y 9 w + yT Y w) v) 0 k)), (3, vI k)] [] M1 0 0 := by
    intro M1 x1 hm
    have hp := hm.1
    refine zdownI (n := Y 8 0) (fun k hk hk0 hk2 => ?_) (fun k hk0 hk ih hk2 => ?_)
    · have hk : k = Y 8 0 := by omega
      subst hk
      exact vX7_way_180 hr _ _ _ _ ⟨hp.1.1, fun _ => ⟨rfl, hm⟩, fun z => absurd z (by rw [mi8 hp.2.1]; omega)⟩
    · have ih := ih (by omega)
      rw [yfold_s hk0] at ih
      generalize yfold (fun v w => pif (v < yE Y w + Y 9 w + yT Y w) (yE Y w + Y 9 w + yT Y w) v) 0 k = v at ih ⊢
      have hko := yI_w hi hk0 hk
      obtain ⟨⟨e1, e2⟩, b1, b2⟩ := hm.2 k ⟨hk0, hk⟩
      refine vX7_way_180 hr _ _ _ _ ?_
      simp only [mk0 hp.1, mr2 hp.1, mk2 hp.1, mi2 hp.2.1, mr3 hp.1, mk3 hp.1, mi3 hp.2.1, mr4 hp.1, mk4 hp.1, mi4 hp.2.1, mr5 hp.1, mk5 hp.1, mi5 hp.2.1, mr7 hp.1, mk7 hp.1, mi7 hp.2.1, mr9 hp.1, mk9 hp.1, mi9 hp.2.1, mr10 hp.1, mk10 hp.1, mi10 hp.2.1, mr11 hp.1, mk11 hp.1, mi11 hp.2.1, mr12 hp.1, mk12 hp.1, mi12 hp.2.1, mr13 hp.1, mk13 hp.1, mi13 hp.2.1, mr14 hp.1, mk14 hp.1, mi14 hp.2.1, mr15 hp.1, mk15 hp.1, mi15 hp.2.1, mr16 hp.1, mk16 hp.1, mi16 hp.2.1, mr17 hp.1, mk17 hp.1, mi17 hp.2.1, mr18 hp.1, mk18 hp.1, mi18 hp.2.1, mr19 hp.1, mk19 hp.1, mr20 hp.1, mk20 hp.1, mr21 hp.1, mk21 hp.1, mr22 hp.1, mk22 hp.1, mr23 hp.1, mk23 hp.1, mr24 hp.1, mk24 hp.1, mi0 hp.2.1, mi1 hp.2.1, mi6 hp.2.1, mi8 hp.2.1, Option.some.injEq, exists_eq_left', true_and, e1, e2]
      refine ⟨fun z => by omega, fun _ => ⟨hk0, by omega, hk0, by omega, by unfold zin; omega, hk0, by omega, by unfold zin; omega, fun q => ⟨by unfold zin; omega, ?_⟩, fun q => ⟨hk0, by omega, hk0, by omega, by unfold zin; omega, hk0, by omega, by unfold zin; omega, by unfold zin; omega, ?_⟩⟩⟩
      · rw [pif_f (by omega)] at ih; exact ih
      · rw [pif_t q] at ih; exact ih
  have fin : ∀ (M1 : zM), wOk a M Y M1 → (∀ x, yWk Y x → ∀ b, yWk Y b → wPr a Y M1 x b) → mWy a M M1 Y := by
    intro M1 hk hcl
    have he : yEa Y (fun k => zI M1 (a + 17) k) := fun v hv => by
      have hV := hk.2 v hv
      refine ⟨hV.1.1, fun b hb hn => (hcl v hv b hb hn).1, ?_⟩
      rcases hV.2.2.1 with w | ⟨m, hm, hmn, w⟩
      · exact Or.inl w
      · refine Or.inr ⟨m, hm, hmn, ?_⟩
        have := (hcl v hv m hm hmn).1
        show zI M1 (a + 17) v = zI M1 (a + 17) m + Y 9 m
        omega
    have ht : yTa Y (fun k => zI M1 (a + 18) k) := fun v hv => by
      have hV := hk.2 v hv
      refine ⟨hV.2.1.1, fun b hb hn => (hcl b hb v hv hn).2, ?_⟩
      rcases hV.2.2.2 with w | ⟨m, hm, hmn, w⟩
      · exact Or.inl w
      · refine Or.inr ⟨m, hm, hmn, ?_⟩
        have := (hcl m hm v hv hmn).2
        show zI M1 (a + 18) v = zI M1 (a + 18) m + Y 9 m
        omega
    refine ⟨hk.1, fun k hk2 => ?_⟩
    have i1 : zI M1 (a + 17) k = yE Y k := yE_eq hi ha he hk2
    have i2 : zI M1 (a + 18) k = yT Y k := yT_eq hi ha ht hk2
    have hV := hk.2 k hk2
    have r := rk_b hi ha hk2
    exact ⟨⟨i1, i2⟩, by omega, by omega⟩
  have T32 : ∀ (n : Nat) (M1 : zM), wOk a M Y M1 → wMu a Y M1 < n → ∀ x1 : Int, (x1 = 0 → ∀ x, yWk Y x → ∀ b, yWk Y b → wPr a Y M1 x b) → ZX7_way E d X (fun r M' => r = wayR Y ∧ mWy a M M' Y) 32 [(0, vR (some a)), (1, vI x1)] [] M1 0 0 := by
    intro n
    induction n with
    | zero => intro M1 hk hn; have := wMu_nn hk; omega
    | succ n ihn =>
      intro M1 hk hn x1 h1
      have L40 : ∀ x2 : Int, 0 ≤ x2 → x2 ≤ Y 8 0 → ∀ (M2 : zM) (y : Int), wOk a M Y M2 → ((y = 0 ∧ wMu a Y M2 < n + 1 ∧ ∀ x, yWk Y x → x < x2 → ∀ b, yWk Y b → wPr a Y M2 x b) ∨ (y ≠ 0 ∧ wMu a Y M2 < n)) → ZX7_way E d X (fun r M' => r = wayR Y ∧ mWy a M M' Y) 40 [(0, vR (some a)), (1, vI y), (2, vI x2)] [] M2 0 0 := by
        refine zdownI (n := Y 8 0) (fun x hx _ _ M2 y hk2 hd => ?_) (fun x hx0 hx ih _ M2 y hk2 hd => ?_)
        · refine vX7_way_40 hr _ _ _ ⟨hk2.1.1.1, fun _ => ?_, fun z => absurd z (by rw [mi8 hk2.1.2.1]; omega)⟩
          rcases hd with ⟨e, e2, e3⟩ | ⟨e, e2⟩
          · exact vX7_way_32 hr _ _ ⟨fun _ => L180 M2 y (fin M2 hk2 (fun x hx b hb => e3 x hx (by have := hx.2; omega) b hb)) 0 (by omega) (by omega), fun z => absurd e z⟩
          · exact ihn M2 hk2 e2 y (fun z => absurd z e)
        · have L50 : ∀ x3 : Int, 0 ≤ x3 → x3 ≤ Y 8 0 → ∀ (M3 : zM) (z : Int), wOk a M Y M3 → ((z = 0 ∧ wMu a Y M3 < n + 1 ∧ (∀ y, yWk Y y → y < x → ∀ b, yWk Y b → wPr a Y M3 y b) ∧ (∀ b, yWk Y b → b < x3 → wPr a Y M3 x b)) ∨ (z ≠ 0 ∧ wMu a Y M3 < n)) → ZX7_way E d X (fun r M' => r = wayR Y ∧ mWy a M M' Y) 50 [(0, vR (some a)), (1, vI z), (2, vI x), (3, vI x3)] [] M3 0 0 := by
            refine zdownI (n := Y 8 0) (fun y hy _ _ M3 z hk3 hd3 => ?_) (fun y hy0 hy ih2 _ M3 z hk3 hd3 => ?_)
            · refine vX7_way_50 hr _ _ _ _ ⟨hk3.1.1.1, fun _ => ⟨by unfold zin; omega, ih (by omega) M3 z hk3 ?_⟩, fun w => absurd w (by rw [mi8 hk3.1.2.1]; omega)⟩
              rcases hd3 with ⟨e, e2, e3, e4⟩ | e
              · refine Or.inl ⟨e, e2, fun w hw hw2 b hb => ?_⟩
                by_cases ew : w = x
                · rw [ew]; exact e4 b hb (by have := hb.2; omega)
                · exact e3 w hw (by omega) b hb
              · exact Or.inr e
            · have ih2 := ih2 (by omega)
              have hx' : yWk Y x := ⟨hx0, hx⟩
              have hy' : yWk Y y := ⟨hy0, hy⟩
              have hxw := yI_w hi hx0 hx
              have hyw := yI_w hi hy0 hy
              have keep : wPr a Y M3 x y → ZX7_way E d X (fun r M' => r = wayR Y ∧ mWy a M M' Y) 50 [(0, vR (some a)), (1, vI z), (2, vI x), (3, vI (y + 1))] [] M3 0 0 := fun q => ih2 M3 z hk3 (by
                rcases hd3 with ⟨e, e2, e3, e4⟩ | e
                · refine Or.inl ⟨e, e2, e3, fun b hb hb2 => ?_⟩
                  by_cases eb : b = y
                  · rw [eb]; exact q
                  · exact e4 b hb (by omega)
                · exact Or.inr e)
              have hle : wMu a Y M3 < n + 1 := by
                rcases hd3 with ⟨_, e2, _⟩ | ⟨_, e2⟩ <;> omega
              have chg : ∀ M4 : zM, wOk a M Y M4 → wMu a Y M4 < wMu a Y M3 → ZX7_way E d X (fun r M' => r = wayR Y ∧ mWy a M M' Y) 50 [(0, vR (some a)), (1, vI 1), (2, vI x), (3, vI (y + 1))] [] M4 0 0 := fun M4 h4 h5 => ih2 M4 1 h4 (Or.inr ⟨by omega, by omega⟩)
              have zk : zin (y + 1) := by unfold zin; omega
              have rx := rk_b hi ha hx'
              have ry := rk_b hi ha hy'
              have zt : ∀ M4 : zM, wOk a M Y M4 → zin (zI M4 (a + 18) x + Y 9 x) := fun M4 h4 => by have := h4.2 x hx'; unfold zin; omega
              have ze : ∀ M4 : zM, wOk a M Y M4 → zin (zI M4 (a + 17) y + Y 9 y) := fun M4 h4 => by have := h4.2 y hy'; unfold zin; omega
              have hp3 := hk3.1
              refine vX7_way_50 hr _ _ _ _ ?_
              simp only [mk0 hp3.1, mr2 hp3.1, mk2 hp3.1, mi2 hp3.2.1, mr3 hp3.1, mk3 hp3.1, mi3 hp3.2.1, mr4 hp3.1, mk4 hp3.1, mi4 hp3.2.1, mr5 hp3.1, mk5 hp3.1, mi5 hp3.2.1, mr7 hp3.1, mk7 hp3.1, mi7 hp3.2.1, mr9 hp3.1, mk9 hp3.1, mi9 hp3.2.1, mr10 hp3.1, mk10 hp3.1, mi10 hp3.2.1, mr11 hp3.1, mk11 hp3.1, mi11 hp3.2.1, mr12 hp3.1, mk12 hp3.1, mi12 hp3.2.1, mr13 hp3.1, mk13 hp3.1, mi13 hp3.2.1, mr14 hp3.1, mk14 hp3.1, mi14 hp3.2.1, mr15 hp3.1, mk15 hp3.1, mi15 hp3.2.1, mr16 hp3.1, mk16 hp3.1, mi16 hp3.2.1, mr17 hp3.1, mk17 hp3.1, mi17 hp3.2.1, mr18 hp3.1, mk18 hp3.1, mi18 hp3.2.1, mr19 hp3.1, mk19 hp3.1, mr20 hp3.1, mk20 hp3.1, mr21 hp3.1, mk21 hp3.1, mr22 hp3.1, mk22 hp3.1, mr23 hp3.1, mk23 hp3.1, mr24 hp3.1, mk24 hp3.1, mi0 hp3.2.1, mi1 hp3.2.1, mi6 hp3.2.1, mi8 hp3.2.1, Option.some.injEq, exists_eq_left', true_and]
              refine ⟨fun w => by omega, fun _ => ⟨by unfold zin; omega, by unfold zin; omega, by omega, by omega, fun q => ⟨hy0, by omega, hy0, by omega, ze M3 hk3, hx0, by omega, fun q2 => ⟨hx0, by omega, hx0, by omega, zt M3 hk3, hy0, by omega, fun q3 => ⟨zk, keep (fun _ => ⟨q2, q3⟩)⟩, fun q3 => ⟨hx0, by omega, hx0, by omega, zt M3 hk3, hy0, by omega, ?_⟩⟩, fun q2 => ⟨hy0, by omega, hy0, by omega, ze M3 hk3, hx0, by omega, ?_⟩⟩, fun q => ⟨zk, keep (fun w => absurd q w)⟩⟩⟩
              · rintro M4 e4
                obtain ⟨o1, o2⟩ := wOk_t hi ha hk3 hx' hy' q q3 e4
                exact ⟨zk, chg M4 o1 o2⟩
              · rintro M4 e4
                obtain ⟨o1, o2⟩ := wOk_e hi ha hk3 hx' hy' q q2 e4
                have hp4 := o1.1
                simp only [mk0 hp4.1, mr2 hp4.1, mk2 hp4.1, mi2 hp4.2.1, mr3 hp4.1, mk3 hp4.1, mi3 hp4.2.1, mr4 hp4.1, mk4 hp4.1, mi4 hp4.2.1, mr5 hp4.1, mk5 hp4.1, mi5 hp4.2.1, mr7 hp4.1, mk7 hp4.1, mi7 hp4.2.1, mr9 hp4.1, mk9 hp4.1, mi9 hp4.2.1, mr10 hp4.1, mk10 hp4.1, mi10 hp4.2.1, mr11 hp4.1, mk11 hp4.1, mi11 hp4.2.1, mr12 hp4.1, mk12 hp4.1, mi12 hp4.2.1, mr13 hp4.1, mk13 hp4.1, mi13 hp4.2.1, mr14 hp4.1, mk14 hp4.1, mi14 hp4.2.1, mr15 hp4.1, mk15 hp4.1, mi15 hp4.2.1, mr16 hp4.1, mk16 hp4.1, mi16 hp4.2.1, mr17 hp4.1, mk17 hp4.1, mi17 hp4.2.1, mr18 hp4.1, mk18 hp4.1, mi18 hp4.2.1, mr19 hp4.1, mk19 hp4.1, mr20 hp4.1, mk20 hp4.1, mr21 hp4.1, mk21 hp4.1, mr22 hp4.1, mk22 hp4.1, mr23 hp4.1, mk23 hp4.1, mr24 hp4.1, mk24 hp4.1, mi0 hp4.2.1, mi1 hp4.2.1, mi6 hp4.2.1, mi8 hp4.2.1, Option.some.injEq, exists_eq_left', true_and]
                refine ⟨hx0, by omega, hx0, by omega, zt M4 o1, hy0, by omega, fun q3 => ⟨zk, chg M4 o1 o2⟩, fun q3 => ⟨hx0, by omega, hx0, by omega, zt M4 o1, hy0, by omega, ?_⟩⟩
                rintro M5 e5
                obtain ⟨u1, u2⟩ := wOk_t hi ha o1 hx' hy' q q3 e5
                exact ⟨zk, chg M5 u1 (by omega)⟩
          refine vX7_way_40 hr _ _ _ ⟨hk2.1.1.1, fun z => absurd z (by rw [mi8 hk2.1.2.1]; omega), fun _ => L50 0 (by omega) (by omega) M2 y hk2 ?_⟩
          rcases hd with ⟨e, e2, e3⟩ | e
          · exact Or.inl ⟨e, e2, e3, fun b hb hb2 => absurd hb.1 (by omega)⟩
          · exact Or.inr e
      refine vX7_way_32 hr _ _ ⟨fun z => L180 M1 x1 (fin M1 hk (h1 z)) 0 (by omega) (by omega), fun _ => L40 0 (by omega) (by omega) M1 0 hk (Or.inl ⟨rfl, by omega, fun x hx hx2 => absurd hx.1 (by omega)⟩)⟩
  have L2 : ∀ k : Int, 0 ≤ k → k ≤ Y 8 0 → ∀ M1 : zM, mPo a M M1 Y → (∀ j, yWk Y j → j < k → zI M1 (a + 17) j = 0 ∧ zI M1 (a + 18) j = 0) → ZX7_way E d X (fun r M' => r = wayR Y ∧ mWy a M M' Y) 2 [(0, vR (some a)), (1, vI k)] [] M1 0 0 := by
    refine zdownI (n := Y 8 0) (fun k hk hk0 hk2 M1 hp hj => ?_) (fun k hk0 hk ih hk2 M1 hp hj => ?_)
    · have hj : ∀ j, yWk Y j → zI M1 (a + 17) j = 0 ∧ zI M1 (a + 18) j = 0 := fun j h => hj j h (by have := h.2; omega)
      have ok : wOk a M Y M1 := ⟨hp, fun j h => by
        have r := rk_b hi ha h
        obtain ⟨e1, e2⟩ := hj j h
        rw [e1, e2]
        exact ⟨by omega, by omega, Or.inl rfl, Or.inl rfl⟩⟩
      exact vX7_way_2 hr _ _ ⟨hp.1.1, fun _ => T32 (wMu a Y M1 + 1).toNat M1 ok (by have := wMu_nn ok; omega) 1 (fun z => by omega), fun z => absurd z (by rw [mi8 hp.2.1]; omega)⟩
    · refine vX7_way_2 hr _ _ ?_
      simp only [mk0 hp.1, mr2 hp.1, mk2 hp.1, mi2 hp.2.1, mr3 hp.1, mk3 hp.1, mi3 hp.2.1, mr4 hp.1, mk4 hp.1, mi4 hp.2.1, mr5 hp.1, mk5 hp.1, mi5 hp.2.1, mr7 hp.1, mk7 hp.1, mi7 hp.2.1, mr9 hp.1, mk9 hp.1, mi9 hp.2.1, mr10 hp.1, mk10 hp.1, mi10 hp.2.1, mr11 hp.1, mk11 hp.1, mi11 hp.2.1, mr12 hp.1, mk12 hp.1, mi12 hp.2.1, mr13 hp.1, mk13 hp.1, mi13 hp.2.1, mr14 hp.1, mk14 hp.1, mi14 hp.2.1, mr15 hp.1, mk15 hp.1, mi15 hp.2.1, mr16 hp.1, mk16 hp.1, mi16 hp.2.1, mr17 hp.1, mk17 hp.1, mi17 hp.2.1, mr18 hp.1, mk18 hp.1, mi18 hp.2.1, mr19 hp.1, mk19 hp.1, mr20 hp.1, mk20 hp.1, mr21 hp.1, mk21 hp.1, mr22 hp.1, mk22 hp.1, mr23 hp.1, mk23 hp.1, mr24 hp.1, mk24 hp.1, mi0 hp.2.1, mi1 hp.2.1, mi6 hp.2.1, mi8 hp.2.1, Option.some.injEq, exists_eq_left', true_and]
      refine ⟨fun z => by omega, fun _ => ⟨hk0, by omega, ?_⟩⟩
      rintro M2 e2
      have hp2 := mPo_scr hp e2 (f := 20) (by decide) (by decide) rfl
      simp only [mk0 hp2.1, mr2 hp2.1, mk2 hp2.1, mi2 hp2.2.1, mr3 hp2.1, mk3 hp2.1, mi3 hp2.2.1, mr4 hp2.1, mk4 hp2.1, mi4 hp2.2.1, mr5 hp2.1, mk5 hp2.1, mi5 hp2.2.1, mr7 hp2.1, mk7 hp2.1, mi7 hp2.2.1, mr9 hp2.1, mk9 hp2.1, mi9 hp2.2.1, mr10 hp2.1, mk10 hp2.1, mi10 hp2.2.1, mr11 hp2.1, mk11 hp2.1, mi11 hp2.2.1, mr12 hp2.1, mk12 hp2.1, mi12 hp2.2.1, mr13 hp2.1, mk13 hp2.1, mi13 hp2.2.1, mr14 hp2.1, mk14 hp2.1, mi14 hp2.2.1, mr15 hp2.1, mk15 hp2.1, mi15 hp2.2.1, mr16 hp2.1, mk16 hp2.1, mi16 hp2.2.1, mr17 hp2.1, mk17 hp2.1, mi17 hp2.2.1, mr18 hp2.1, mk18 hp2.1, mi18 hp2.2.1, mr19 hp2.1, mk19 hp2.1, mr20 hp2.1, mk20 hp2.1, mr21 hp2.1, mk21 hp2.1, mr22 hp2.1, mk22 hp2.1, mr23 hp2.1, mk23 hp2.1, mr24 hp2.1, mk24 hp2.1, mi0 hp2.2.1, mi1 hp2.2.1, mi6 hp2.2.1, mi8 hp2.2.1, Option.some.injEq, exists_eq_left', true_and]
      refine ⟨hk0, by omega, ?_⟩
      rintro M3 e3
      have hp3 := mPo_scr hp2 e3 (f := 21) (by decide) (by decide) rfl
      refine ⟨by unfold zin; omega, ih (by omega) M3 hp3 (fun j h h2 => ?_)⟩
      rw [e3, e2, zI_sI, zI_sI, zI_sI, zI_sI]
      by_cases q : j = k
      · rw [q, if_neg (by omega), if_pos ⟨rfl, rfl⟩, if_pos ⟨rfl, rfl⟩]; exact ⟨rfl, rfl⟩
      · rw [if_neg (by omega), if_neg (by omega), if_neg (by omega), if_neg (by omega)]; exact hj j h (by omega)
  exact L2 0 (by omega) (by omega) M (mPo_rf hs hc) (fun j h h2 => absurd h.1 (by omega))
noncomputable def slackR (Y : yS) (w : Int) : Int := wayR Y - yE Y w - Y 9 w - yT Y w
end M8
