/-! ===== what hangs on what; contracts of the reference: hangs, need, tells ===== -/
def yHang (Y : yS) (v o : Int) : Prop := ∀ S : Int → Prop, (∀ k, yWk Y k → yNd Y v k → S k) → (∀ k m, yWk Y k → yWk Y m → S k → yNd Y k m → S m) → S o
theorem hang_nd {Y : yS} {v k : Int} (hk : yWk Y k) (h : yNd Y v k) : yHang Y v k := fun _ h1 _ => h1 k hk h
theorem hang_wk {Y : yS} {v o : Int} (h : yHang Y v o) : yWk Y o := h (yWk Y) (fun _ hk _ => hk) (fun _ _ _ hm _ _ => hm)
theorem hang_tr {Y : yS} {v k m : Int} (h : yHang Y v k) (hm : yWk Y m) (hn : yNd Y k m) : yHang Y v m := fun S h1 h2 => h2 k m (hang_wk h) hm (h S h1 h2) hn
theorem hang_trans {Y : yS} {v k m : Int} (h : yHang Y v k) (h' : yHang Y k m) : yHang Y v m := fun S h1 h2 => h' S (fun j hj hn => h2 k j (hang_wk h) hj (h S h1 h2) hn) h2
theorem ysumN_upd {f g : Int → Int} {b : Int} : ∀ n : Nat, 0 ≤ b → (∀ k, k ≠ b → g k = f k) → ysumN g n = ysumN f n + (if b < n then g b - f b else 0) := by
  intro n
  induction n with
  | zero => intro hb _; rw [if_neg (by omega)]; rfl
  | succ n ih =>
    intro hb h
    have ih := ih hb h
    show ysumN g n + g n = ysumN f n + f n + _
    by_cases e : (n : Int) = b
    · rw [ih, if_neg (by omega), if_pos (by omega), e]; omega
    · rw [ih, h n e]
      by_cases q : b < (n : Int)
      · rw [if_pos q, if_pos (by omega)]; omega
      · rw [if_neg q, if_neg (by omega)]; omega
theorem ysum_upd {f g : Int → Int} {b n : Int} (h0 : 0 ≤ b) (h1 : b < n) (h : ∀ k, k ≠ b → g k = f k) : ysum g n = ysum f n + g b - f b := by
  unfold ysum
  rw [ysumN_upd n.toNat h0 h, if_pos (by omega)]
  omega
theorem ysum_nn {f : Int → Int} {n : Int} (h : ∀ k, 0 ≤ k → k < n → 0 ≤ f k) : 0 ≤ ysum f n := by
  have key : ∀ m : Nat, (m : Int) ≤ n ∨ m = 0 → 0 ≤ ysumN f m := by
    intro m
    induction m with
    | zero => intro _; exact Int.le_refl _
    | succ m ih =>
      intro hm
      show 0 ≤ ysumN f m + f m
      have := ih (by omega)
      have := h m (by omega) (by omega)
      omega
  exact key n.toNat (by omega)
noncomputable def hUn (M : zM) (b : Nat) (n : Int) : Int := ysum (fun k => p2i (zI M b k = 0)) n
theorem hUn_nn {M : zM} {b : Nat} {n : Int} : 0 ≤ hUn M b n := ysum_nn (fun k _ _ => by rcases p2i_01 (zI M b k = 0) with q | q <;> rw [q] <;> omega)
theorem hUn_set {M : zM} {b : Nat} {n i : Int} (h0 : 0 ≤ i) (h1 : i < n) (h : zI M b i = 0) : hUn (zsI M b i 1) b n = hUn M b n - 1 := by
  unfold hUn
  rw [ysum_upd (f := fun k => p2i (zI M b k = 0)) (b := i) h0 h1]
  · have e : zI (zsI M b i 1) b i = 1 := by rw [zI_sI, if_pos ⟨rfl, rfl⟩]
    show _ + p2i (zI (zsI M b i 1) b i = 0) - p2i (zI M b i = 0) = _
    rw [p2i_f (by rw [e]; omega), p2i_t h]
    omega
  · intro k hk
    show p2i (zI (zsI M b i 1) b k = 0) = p2i (zI M b k = 0)
    rw [zI_sI, if_neg (fun q => hk q.2)]
theorem mPo_up {a b f : Nat} {M0 M M1 : zM} {Y : yS} {i x : Int} (h : mPo a M0 M Y) (e : M1 = zsI M b i x) (hf : misc f = false) (hl : f < 19) (hb : b = a + moff f) : mPo a M0 M1 (yup Y f i x) := by
  subst e
  exact ⟨h.1, mCo_up h.2.1 hf hl hb, zFr_sI h.2.2 (by have := moff_pos f (by omega) hf; unfold mAd; omega)⟩
theorem mPo_scr {a b f : Nat} {M0 M M1 : zM} {Y : yS} {i x : Int} (h : mPo a M0 M Y) (e : M1 = zsI M b i x) (hf : 19 ≤ f) (hl : f < 25) (hb : b = a + moff f) : mPo a M0 M1 Y := by
  subst e
  have key : ∀ f : Nat, f < 25 → 19 ≤ f → misc f = false := by decide
  exact ⟨h.1, mCo_scr h.2.1 hf hl hb, zFr_sI h.2.2 (by have := moff_pos f hl (key f hl hf); unfold mAd; omega)⟩
theorem mPo_sc {a f : Nat} {M0 M M1 : zM} {Y : yS} {j x : Int} (h : mPo a M0 M Y) (e : M1 = zsI M a j x) (hf : misc f = true) (hj : j = f) : mPo a M0 M1 (ysc Y f x) := by
  subst e
  exact ⟨h.1, mCo_sc h.2.1 hf hj, zFr_sI h.2.2 (by unfold mAd; omega)⟩
def hOk (a : Nat) (M0 : zM) (Y : yS) (v : Int) (M : zM) : Prop := mPo a M0 M Y ∧ (∀ k, yWk Y k → zI M (a + 16) k = 0 ∨ zI M (a + 16) k = 1) ∧ (∀ k, yWk Y k → zI M (a + 16) k ≠ 0 → yHang Y v k) ∧ (∀ k, yWk Y k → yNd Y v k → zI M (a + 16) k ≠ 0)
def hCl (a : Nat) (Y : yS) (M : zM) (x : Int) : Prop := zI M (a + 16) x ≠ 0 → ∀ m, yWk Y m → yNd Y x m → zI M (a + 16) m ≠ 0
section M7
variable {E : zE} {d a : Nat} {M : zM} {Y : yS} {c : Int}
theorem c_hangs (hs : mSh a M) (hc : mCo a M Y) (hi : yInv c Y) {v o : Int} (hv : yWk Y v) (ho : yWk Y o) : zCi E mX7_hangs (d + 1) 0 0 [vR (some a), vI v, vI o] M (fun r M' => r = p2i (yHang Y v o) ∧ mPo a M M' Y) := by
  refine sX7_hangs _ _ _ (fun X hr => vX7_hangs_0 hr _ _ _ ⟨hs.1, ?_⟩)
  rw [mr19 hs]
  have h8 := yI_n hi
  have h17 := hi.2.2.2.2.2.2.2.2.2.2.2.1
  obtain ⟨v0, v1⟩ := id hv
  obtain ⟨o0, o1⟩ := id ho
  have T42 : ∀ (n : Nat) (M1 : zM), hOk a M Y v M1 → hUn M1 (a + 16) (Y 8 0) ≤ n → ∀ x4 : Int, (x4 = 0 → ∀ x, yWk Y x → hCl a Y M1 x) → ZX7_hangs E d X (fun r M' => r = p2i (yHang Y v o) ∧ mPo a M M' Y) 42 [(0, vR (some a)), (1, vI v), (2, vI o), (3, vR (some (a + 16))), (4, vI x4)] [] M1 0 0 := by
    intro n
    induction n with
    | zero =>
      intro M1 hk hn x4 h4
      -- all are reached: one more round changes nothing
      have all : ∀ k, yWk Y k → zI M1 (a + 16) k ≠ 0 := by
        intro k hk2 z
        have e := hUn_set (M := M1) (b := a + 16) hk2.1 hk2.2 z
        have := hUn_nn (M := zsI M1 (a + 16) k 1) (b := a + 16) (n := Y 8 0)
        omega
      have close : ∀ x, yWk Y x → hCl a Y M1 x := fun x _ _ m hm _ => all m hm
      have fin : ZX7_hangs E d X (fun r M' => r = p2i (yHang Y v o) ∧ mPo a M M' Y) 42 [(0, vR (some a)), (1, vI v), (2, vI o), (3, vR (some (a + 16))), (4, vI 0)] [] M1 0 0 := by
        refine vX7_hangs_42 hr _ _ _ _ _ ⟨fun _ => ⟨a + 16, rfl, by rw [mk19 hk.1.1], o0, by rw [mk19 hk.1.1]; show o < 40; omega, hk.2.1 o ho, ?_, hk.1⟩, fun z => absurd rfl z⟩
        have h1 := all o ho
        rw [(hk.2.1 o ho).resolve_left h1]
        exact p2i_z1 (hk.2.2.1 o ho h1)
      have L53 : ∀ x5 : Int, 0 ≤ x5 → x5 ≤ Y 8 0 → ZX7_hangs E d X (fun r M' => r = p2i (yHang Y v o) ∧ mPo a M M' Y) 53 [(0, vR (some a)), (1, vI v), (2, vI o), (3, vR (some (a + 16))), (4, vI 0), (5, vI x5)] [] M1 0 0 := by
        refine zdownI (n := Y 8 0) (fun x hx _ _ => ?_) (fun x hx0 hx ih _ => ?_)
        · exact vX7_hangs_53 hr _ _ _ _ _ _ ⟨hk.1.1.1, fun _ => fin, fun z => absurd z (by rw [mi8 hk.1.2.1]; omega)⟩
        · have L65 : ∀ x6 : Int, 0 ≤ x6 → x6 ≤ Y 8 0 → ZX7_hangs E d X (fun r M' => r = p2i (yHang Y v o) ∧ mPo a M M' Y) 65 [(0, vR (some a)), (1, vI v), (2, vI o), (3, vR (some (a + 16))), (4, vI 0), (5, vI x), (6, vI x6)] [] M1 0 0 := by
            refine zdownI (n := Y 8 0) (fun y hy _ _ => ?_) (fun y hy0 hy ih2 _ => ?_)
            · exact vX7_hangs_65 hr _ _ _ _ _ _ _ ⟨hk.1.1.1, fun _ => ⟨by unfold zin; omega, ih (by omega)⟩, fun z => absurd z (by rw [mi8 hk.1.2.1]; omega)⟩
            · refine vX7_hangs_65 hr _ _ _ _ _ _ _ ⟨hk.1.1.1, fun z => absurd z (by rw [mi8 hk.1.2.1]; omega), fun _ => ⟨a + 16, rfl, by rw [mk19 hk.1.1], hx0, by rw [mk19 hk.1.1]; show x < 40; omega, fun _ => ⟨by unfold zin; omega, ih (by omega)⟩, fun _ => ⟨by rw [mk19 hk.1.1], hy0, by rw [mk19 hk.1.1]; show y < 40; omega, fun _ => ⟨by unfold zin; omega, ih2 (by omega)⟩, fun z => absurd z (all y ⟨hy0, hy⟩)⟩⟩⟩
          exact vX7_hangs_53 hr _ _ _ _ _ _ ⟨hk.1.1.1, fun z => absurd z (by rw [mi8 hk.1.2.1]; omega), fun _ => L65 0 (by omega) (by omega)⟩
      refine vX7_hangs_42 hr _ _ _ _ _ ⟨fun z => ?_, fun _ => L53 0 (by omega) (by omega)⟩
      refine ⟨a + 16, rfl, by rw [mk19 hk.1.1], o0, by rw [mk19 hk.1.1]; show o < 40; omega, hk.2.1 o ho, ?_, hk.1⟩
      have h1 := all o ho
      rw [(hk.2.1 o ho).resolve_left h1]
      exact p2i_z1 (hk.2.2.1 o ho h1)
    | succ n ihn =>
      intro M1 hk hn x4 h4
      -- invariant of a round: behind it, as it began, or fewer unreached
      have L53 : ∀ x5 : Int, 0 ≤ x5 → x5 ≤ Y 8 0 → ∀ (M2 : zM) (y4 : Int), hOk a M Y v M2 → ((y4 = 0 ∧ hUn M2 (a + 16) (Y 8 0) ≤ n + 1 ∧ ∀ x, yWk Y x → x < x5 → hCl a Y M2 x) ∨ (y4 ≠ 0 ∧ hUn M2 (a + 16) (Y 8 0) ≤ n)) → ZX7_hangs E d X (fun r M' => r = p2i (yHang Y v o) ∧ mPo a M M' Y) 53 [(0, vR (some a)), (1, vI v), (2, vI o), (3, vR (some (a + 16))), (4, vI y4), (5, vI x5)] [] M2 0 0 := by
        refine zdownI (n := Y 8 0) (fun x hx _ _ M2 y4 hk2 hd => ?_) (fun x hx0 hx ih _ M2 y4 hk2 hd => ?_)
        · refine vX7_hangs_53 hr _ _ _ _ _ _ ⟨hk2.1.1.1, fun _ => ?_, fun z => absurd z (by rw [mi8 hk2.1.2.1]; omega)⟩
          rcases hd with ⟨e, e2, e3⟩ | ⟨e, e2⟩
          · -- no change: it ends
            refine vX7_hangs_42 hr _ _ _ _ _ ⟨fun _ => ⟨a + 16, rfl, by rw [mk19 hk2.1.1], o0, by rw [mk19 hk2.1.1]; show o < 40; omega, hk2.2.1 o ho, ?_, hk2.1⟩, fun z => absurd e z⟩
            by_cases h1 : zI M2 (a + 16) o = 0
            · rw [h1]
              refine p2i_z0 (fun z => ?_)
              exact z (fun k => zI M2 (a + 16) k ≠ 0) (fun k hk3 hn3 => hk2.2.2.2 k hk3 hn3) (fun k m hk3 hm3 s3 hn3 => e3 k hk3 (by have := hk3.2; omega) s3 m hm3 hn3) h1
            · rw [(hk2.2.1 o ho).resolve_left h1]
              exact p2i_z1 (hk2.2.2.1 o ho h1)
          · exact ihn M2 hk2 e2 y4 (fun z => absurd z e)
        · have L65 : ∀ x6 : Int, 0 ≤ x6 → x6 ≤ Y 8 0 → ∀ (M3 : zM) (z4 : Int), hOk a M Y v M3 → ((z4 = 0 ∧ hUn M3 (a + 16) (Y 8 0) ≤ n + 1 ∧ (∀ y, yWk Y y → y < x → hCl a Y M3 y) ∧ (zI M3 (a + 16) x ≠ 0 → ∀ m, yWk Y m → m < x6 → yNd Y x m → zI M3 (a + 16) m ≠ 0)) ∨ (z4 ≠ 0 ∧ hUn M3 (a + 16) (Y 8 0) ≤ n)) → ZX7_hangs E d X (fun r M' => r = p2i (yHang Y v o) ∧ mPo a M M' Y) 65 [(0, vR (some a)), (1, vI v), (2, vI o), (3, vR (some (a + 16))), (4, vI z4), (5, vI x), (6, vI x6)] [] M3 0 0 := by
            refine zdownI (n := Y 8 0) (fun y hy _ _ M3 z4 hk3 hd3 => ?_) (fun y hy0 hy ih2 _ M3 z4 hk3 hd3 => ?_)
            · refine vX7_hangs_65 hr _ _ _ _ _ _ _ ⟨hk3.1.1.1, fun _ => ⟨by unfold zin; omega, ih (by omega) M3 z4 hk3 ?_⟩, fun z => absurd z (by rw [mi8 hk3.1.2.1]; omega)⟩
              rcases hd3 with ⟨e, e2, e3, e4⟩ | e
              · refine Or.inl ⟨e, e2, fun w hw hw2 => ?_⟩
                by_cases ew : w = x
                · rw [ew]; exact fun q m hm hn => e4 q m hm (by have := hm.2; omega) hn
                · exact e3 w hw (by omega)
              · exact Or.inr e
            · have next0 : zI M3 (a + 16) x = 0 → ZX7_hangs E d X (fun r M' => r = p2i (yHang Y v o) ∧ mPo a M M' Y) 53 [(0, vR (some a)), (1, vI v), (2, vI o), (3, vR (some (a + 16))), (4, vI z4), (5, vI (x + 1))] [] M3 0 0 := fun q => ih (by omega) M3 z4 hk3 (by
                rcases hd3 with ⟨e, e2, e3, e4⟩ | e
                · refine Or.inl ⟨e, e2, fun w hw hw2 => ?_⟩
                  by_cases ew : w = x
                  · rw [ew]; exact fun q2 => absurd q q2
                  · exact e3 w hw (by omega)
                · exact Or.inr e)
              have keep : (zI M3 (a + 16) x ≠ 0 → yNd Y x y → zI M3 (a + 16) y ≠ 0) → ZX7_hangs E d X (fun r M' => r = p2i (yHang Y v o) ∧ mPo a M M' Y) 65 [(0, vR (some a)), (1, vI v), (2, vI o), (3, vR (some (a + 16))), (4, vI z4), (5, vI x), (6, vI (y + 1))] [] M3 0 0 := fun q => ih2 (by omega) M3 z4 hk3 (by
                rcases hd3 with ⟨e, e2, e3, e4⟩ | e
                · refine Or.inl ⟨e, e2, e3, fun q2 m hm hm2 hn => ?_⟩
                  by_cases em : m = y
                  · rw [em]; rw [em] at hn; exact q q2 hn
                  · exact e4 q2 m hm (by omega) hn
                · exact Or.inr e)
              refine vX7_hangs_65 hr _ _ _ _ _ _ _ ⟨hk3.1.1.1, fun z => absurd z (by rw [mi8 hk3.1.2.1]; omega), fun _ => ⟨a + 16, rfl, by rw [mk19 hk3.1.1], hx0, by rw [mk19 hk3.1.1]; show x < 40; omega, fun q => ⟨by unfold zin; omega, next0 q⟩, fun q => ⟨by rw [mk19 hk3.1.1], hy0, by rw [mk19 hk3.1.1]; show y < 40; omega, fun q2 => ⟨by unfold zin; omega, keep (fun _ _ => q2)⟩, fun q2 => ?_⟩⟩⟩
              refine ⟨hk3.1.1.1, by unfold zin; omega, by unfold zin; omega, a + 14, mr17 hk3.1.1, by rw [mk17 hk3.1.1], by omega, by rw [mk17 hk3.1.1]; show 40 * x + y < 1600; omega, ?_⟩
              rw [mi17 hk3.1.2.1]
              refine ⟨fun q3 => ⟨by rw [mk19 hk3.1.1], hy0, by rw [mk19 hk3.1.1]; show y < 40; omega, ?_⟩, fun q3 => ⟨by unfold zin; omega, keep (fun _ z => absurd q3 z)⟩⟩
              rintro M4 rfl
              have hun := hUn_set (M := M3) (b := a + 16) hy0 hy q2
              have hle : hUn M3 (a + 16) (Y 8 0) ≤ n + 1 := by
                rcases hd3 with ⟨_, e2, _⟩ | ⟨_, e2⟩ <;> omega
              refine ⟨by unfold zin; omega, ih2 (by omega) (zsI M3 (a + 16) y 1) 1 ⟨mPo_scr hk3.1 rfl (f := 19) (by decide) (by decide) rfl, fun k hk4 => ?_, fun k hk4 hq => ?_, fun k hk4 hq => ?_⟩ (Or.inr ⟨by omega, by rw [hun]; omega⟩)⟩
              · rw [zI_sI]
                split
                · exact Or.inr rfl
                · exact hk3.2.1 k hk4
              · rw [zI_sI] at hq
                by_cases ek : k = y
                · rw [ek]; exact hang_tr (hk3.2.2.1 x ⟨hx0, hx⟩ q) ⟨hy0, hy⟩ q3
                · rw [if_neg (fun z => ek z.2)] at hq
                  exact hk3.2.2.1 k hk4 hq
              · rw [zI_sI]
                split
                · omega
                · exact hk3.2.2.2 k hk4 hq
          refine vX7_hangs_53 hr _ _ _ _ _ _ ⟨hk2.1.1.1, fun z => absurd z (by rw [mi8 hk2.1.2.1]; omega), fun _ => L65 0 (by omega) (by omega) M2 y4 hk2 ?_⟩
          rcases hd with ⟨e, e2, e3⟩ | e
          · exact Or.inl ⟨e, e2, e3, fun _ m hm hm2 => absurd hm.1 (by omega)⟩
          · exact Or.inr e
      refine vX7_hangs_42 hr _ _ _ _ _ ⟨fun z => ?_, fun _ => L53 0 (by omega) (by omega) M1 0 hk (Or.inl ⟨rfl, by omega, fun x hx hx2 => absurd hx.1 (by omega)⟩)⟩
      refine ⟨a + 16, rfl, by rw [mk19 hk.1.1], o0, by rw [mk19 hk.1.1]; show o < 40; omega, hk.2.1 o ho, ?_, hk.1⟩
      by_cases h1 : zI M1 (a + 16) o = 0
      · rw [h1]
        refine p2i_z0 (fun z2 => ?_)
        exact z2 (fun k => zI M1 (a + 16) k ≠ 0) (fun k hk3 hn3 => hk.2.2.2 k hk3 hn3) (fun k m hk3 hm3 s3 hn3 => h4 z k hk3 s3 m hm3 hn3) h1
      · rw [(hk.2.1 o ho).resolve_left h1]
        exact p2i_z1 (hk.2.2.1 o ho h1)
  have L8 : ∀ x4 : Int, 0 ≤ x4 → x4 ≤ Y 8 0 → ∀ M1 : zM, mPo a M M1 Y → (∀ k, yWk Y k → k < x4 → zI M1 (a + 16) k = Y 17 (40 * v + k)) → ZX7_hangs E d X (fun r M' => r = p2i (yHang Y v o) ∧ mPo a M M' Y) 8 [(0, vR (some a)), (1, vI v), (2, vI o), (3, vR (some (a + 16))), (4, vI x4)] [] M1 0 0 := by
    refine zdownI (n := Y 8 0) (fun x hx _ hx2 M1 hp hj => ?_) (fun x hx0 hx ih hx2 M1 hp hj => ?_)
    · refine vX7_hangs_8 hr _ _ _ _ _ ⟨hp.1.1, fun _ => ?_, fun z => absurd z (by rw [mi8 hp.2.1]; omega)⟩
      have hj : ∀ k, yWk Y k → zI M1 (a + 16) k = Y 17 (40 * v + k) := fun k hk => hj k hk (by have := hk.2; omega)
      exact T42 (hUn M1 (a + 16) (Y 8 0)).toNat M1 ⟨hp, fun k hk => by rw [hj k hk]; exact h17 _, fun k hk hq => hang_nd hk (by rw [hj k hk] at hq; exact hq), fun k hk hq => by rw [hj k hk]; exact hq⟩ (by have := hUn_nn (M := M1) (b := a + 16) (n := Y 8 0); omega) 1 (fun z => by omega)
    · refine vX7_hangs_8 hr _ _ _ _ _ ⟨hp.1.1, fun z => absurd z (by rw [mi8 hp.2.1]; omega), fun _ => ⟨hp.1.1, by unfold zin; omega, by unfold zin; omega, a + 14, mr17 hp.1, by rw [mk17 hp.1], by omega, by rw [mk17 hp.1]; show 40 * v + x < 1600; omega, a + 16, rfl, by rw [mk19 hp.1], hx0, by rw [mk19 hp.1]; show x < 40; omega, by rw [mi17 hp.2.1]; exact h17 _, ?_⟩⟩
      rintro M2 rfl
      refine ⟨by unfold zin; omega, ih (by omega) _ (mPo_scr hp rfl (f := 19) (by decide) (by decide) rfl) (fun k hk hk2 => ?_)⟩
      rw [zI_sI, mi17 hp.2.1]
      by_cases ek : k = x
      · rw [if_pos ⟨rfl, ek⟩, ek]
      · rw [if_neg (fun z => ek z.2)]
        exact hj k hk (by omega)
  exact L8 0 (by omega) (by omega) M (mPo_rf hs hc) (fun k hk hk2 => absurd hk.1 (by omega))
def canOk (Y : yS) (w k : Int) : Prop := yWk Y w ∧ yWk Y k ∧ w ≠ k ∧ ¬ yBegun Y w ∧ ¬ yHang Y k w
theorem c_canNeed (hs : mSh a M) (hc : mCo a M Y) (hi : yInv c Y) (w k : Int) : zCi E mX7_canNeed (d + 3) 0 0 [vR (some a), vI w, vI k] M (fun r M' => r = p2i (canOk Y w k) ∧ mPo a M M' Y) := by
  refine sX7_canNeed _ _ _ (fun X hr => vX7_canNeed_0 hr _ _ _ ?_)
  have h8 := yI_n hi
  refine ⟨hs.1, zu (c_isWork hs hc hi w) ⟨fun q => ⟨p2i_z0 (fun z => p2i_0.mp q z.1), mPo_rf hs hc⟩, fun q => ⟨hs.1, zu (c_isWork hs hc hi k) ⟨fun q2 => ⟨p2i_z0 (fun z => p2i_0.mp q2 z.2.1), mPo_rf hs hc⟩, fun q2 => ⟨fun q3 => ⟨p2i_z0 (fun z => z.2.2.1 q3), mPo_rf hs hc⟩, fun q3 => ?_⟩⟩⟩⟩⟩
  have q := p2i_n0.mp q
  have q2 := p2i_n0.mp q2
  refine ⟨hs.1, zu (c_isBegun hs hc q.1 (by have := q.2; omega)) ⟨fun q4 => ⟨p2i_z0 (fun z => z.2.2.2.1 (p2i_n0.mp q4)), mPo_rf hs hc⟩, fun q4 => ⟨hs.1, _, c_hangs hs hc hi q2 q, ?_⟩⟩⟩
  rintro r M' ⟨rfl, hp⟩
  exact ⟨fun q5 => ⟨p2i_z0 (fun z => z.2.2.2.2 (p2i_n0.mp q5)), hp⟩, fun q5 => ⟨p2i_z1 ⟨q, q2, q3, p2i_0.mp q4, p2i_0.mp q5⟩, hp⟩⟩
def needOk (Y : yS) (w k : Int) : Prop := canOk Y w k ∧ Y 17 (40 * w + k) = 0
noncomputable def needY (Y : yS) (w k : Int) : yS := pif (needOk Y w k) (yup Y 17 (40 * w + k) 1) Y
theorem c_need (hs : mSh a M) (hc : mCo a M Y) (hi : yInv c Y) (w k : Int) : zCi E mX7_need (d + 4) 0 0 [vR (some a), vI w, vI k] M (fun r M' => r = p2i (needOk Y w k) ∧ mPo a M M' (needY Y w k)) := by
  refine sX7_need _ _ _ (fun X hr => vX7_need_0 hr _ _ _ ?_)
  have h8 := yI_n hi
  refine ⟨hs.1, _, c_canNeed hs hc hi w k, ?_⟩
  rintro r M1 ⟨rfl, hp⟩
  have no : ¬ needOk Y w k → (0 : Int) = p2i (needOk Y w k) ∧ mPo a M M1 (needY Y w k) := fun n => ⟨p2i_z0 n, by unfold needY; rw [pif_f n]; exact hp⟩
  refine ⟨fun q => no (fun z => p2i_0.mp q z.1), fun q => ?_⟩
  have q := p2i_n0.mp q
  obtain ⟨⟨w0, w1⟩, ⟨k0, k1⟩, -⟩ := id q
  simp only [mk0 hp.1, mr2 hp.1, mk2 hp.1, mi2 hp.2.1, mr3 hp.1, mk3 hp.1, mi3 hp.2.1, mr4 hp.1, mk4 hp.1, mi4 hp.2.1, mr5 hp.1, mk5 hp.1, mi5 hp.2.1, mr7 hp.1, mk7 hp.1, mi7 hp.2.1, mr9 hp.1, mk9 hp.1, mi9 hp.2.1, mr10 hp.1, mk10 hp.1, mi10 hp.2.1, mr11 hp.1, mk11 hp.1, mi11 hp.2.1, mr12 hp.1, mk12 hp.1, mi12 hp.2.1, mr13 hp.1, mk13 hp.1, mi13 hp.2.1, mr14 hp.1, mk14 hp.1, mi14 hp.2.1, mr15 hp.1, mk15 hp.1, mi15 hp.2.1, mr16 hp.1, mk16 hp.1, mi16 hp.2.1, mr17 hp.1, mk17 hp.1, mi17 hp.2.1, mr18 hp.1, mk18 hp.1, mi18 hp.2.1, mr19 hp.1, mk19 hp.1, mr20 hp.1, mk20 hp.1, mr21 hp.1, mk21 hp.1, mr22 hp.1, mk22 hp.1, mr23 hp.1, mk23 hp.1, mr24 hp.1, mk24 hp.1, mi0 hp.2.1, mi1 hp.2.1, mi6 hp.2.1, mi8 hp.2.1, Option.some.injEq, exists_eq_left', true_and]
  refine ⟨by unfold zin; omega, by unfold zin; omega, by omega, by omega, fun q2 => ⟨by unfold zin; omega, by unfold zin; omega, by omega, by omega, ?_⟩, fun q2 => no (fun z => q2 z.2)⟩
  rintro M2 e
  have n : needOk Y w k := ⟨q, q2⟩
  exact ⟨p2i_z1 n, by unfold needY; rw [pif_t n]; exact mPo_up hp e rfl (by decide) rfl⟩
def tellsOk (Y : yS) (w k : Int) : Prop := canOk Y w k ∧ Y 13 w = 4 ∧ Y 18 (40 * w + k) = 0
noncomputable def tellsY (Y : yS) (w k : Int) : yS := pif (tellsOk Y w k) (yup (yup Y 17 (40 * w + k) 1) 18 (40 * w + k) 1) Y
theorem c_tells (hs : mSh a M) (hc : mCo a M Y) (hi : yInv c Y) (w k : Int) : zCi E mX7_tells (d + 4) 0 0 [vR (some a), vI w, vI k] M (fun r M' => r = p2i (tellsOk Y w k) ∧ mPo a M M' (tellsY Y w k)) := by
  refine sX7_tells _ _ _ (fun X hr => vX7_tells_0 hr _ _ _ ?_)
  have h8 := yI_n hi
  refine ⟨hs.1, _, c_canNeed hs hc hi w k, ?_⟩
  rintro r M1 ⟨rfl, hp⟩
  have no : ¬ tellsOk Y w k → (0 : Int) = p2i (tellsOk Y w k) ∧ mPo a M M1 (tellsY Y w k) := fun n => ⟨p2i_z0 n, by unfold tellsY; rw [pif_f n]; exact hp⟩
  refine ⟨fun q => no (fun z => p2i_0.mp q z.1), fun q => ?_⟩
  have q := p2i_n0.mp q
  obtain ⟨⟨w0, w1⟩, ⟨k0, k1⟩, -⟩ := id q
  simp only [mk0 hp.1, mr2 hp.1, mk2 hp.1, mi2 hp.2.1, mr3 hp.1, mk3 hp.1, mi3 hp.2.1, mr4 hp.1, mk4 hp.1, mi4 hp.2.1, mr5 hp.1, mk5 hp.1, mi5 hp.2.1, mr7 hp.1, mk7 hp.1, mi7 hp.2.1, mr9 hp.1, mk9 hp.1, mi9 hp.2.1, mr10 hp.1, mk10 hp.1, mi10 hp.2.1, mr11 hp.1, mk11 hp.1, mi11 hp.2.1, mr12 hp.1, mk12 hp.1, mi12 hp.2.1, mr13 hp.1, mk13 hp.1, mi13 hp.2.1, mr14 hp.1, mk14 hp.1, mi14 hp.2.1, mr15 hp.1, mk15 hp.1, mi15 hp.2.1, mr16 hp.1, mk16 hp.1, mi16 hp.2.1, mr17 hp.1, mk17 hp.1, mi17 hp.2.1, mr18 hp.1, mk18 hp.1, mi18 hp.2.1, mr19 hp.1, mk19 hp.1, mr20 hp.1, mk20 hp.1, mr21 hp.1, mk21 hp.1, mr22 hp.1, mk22 hp.1, mr23 hp.1, mk23 hp.1, mr24 hp.1, mk24 hp.1, mi0 hp.2.1, mi1 hp.2.1, mi6 hp.2.1, mi8 hp.2.1, Option.some.injEq, exists_eq_left', true_and]
  refine ⟨w0, by omega, fun q2 => no (fun z => q2 z.2.1), fun q2 => ⟨by unfold zin; omega, by unfold zin; omega, by omega, by omega, fun q3 => ⟨by unfold zin; omega, by unfold zin; omega, by omega, by omega, ?_⟩, fun q3 => no (fun z => q3 z.2.2)⟩⟩
  rintro M2 e
  have hp2 := mPo_up hp e (f := 17) rfl (by decide) rfl
  simp only [mk0 hp2.1, mr2 hp2.1, mk2 hp2.1, mi2 hp2.2.1, mr3 hp2.1, mk3 hp2.1, mi3 hp2.2.1, mr4 hp2.1, mk4 hp2.1, mi4 hp2.2.1, mr5 hp2.1, mk5 hp2.1, mi5 hp2.2.1, mr7 hp2.1, mk7 hp2.1, mi7 hp2.2.1, mr9 hp2.1, mk9 hp2.1, mi9 hp2.2.1, mr10 hp2.1, mk10 hp2.1, mi10 hp2.2.1, mr11 hp2.1, mk11 hp2.1, mi11 hp2.2.1, mr12 hp2.1, mk12 hp2.1, mi12 hp2.2.1, mr13 hp2.1, mk13 hp2.1, mi13 hp2.2.1, mr14 hp2.1, mk14 hp2.1, mi14 hp2.2.1, mr15 hp2.1, mk15 hp2.1, mi15 hp2.2.1, mr16 hp2.1, mk16 hp2.1, mi16 hp2.2.1, mr17 hp2.1, mk17 hp2.1, mi17 hp2.2.1, mr18 hp2.1, mk18 hp2.1, mi18 hp2.2.1, mr19 hp2.1, mk19 hp2.1, mr20 hp2.1, mk20 hp2.1, mr21 hp2.1, mk21 hp2.1, mr22 hp2.1, mk22 hp2.1, mr23 hp2.1, mk23 hp2.1, mr24 hp2.1, mk24 hp2.1, mi0 hp2.2.1, mi1 hp2.2.1, mi6 hp2.2.1, mi8 hp2.2.1, Option.some.injEq, exists_eq_left', true_and]
  refine ⟨by unfold zin; omega, by unfold zin; omega, by omega, by omega, ?_⟩
  rintro M3 e3
  have n : tellsOk Y w k := ⟨q, q2, q3⟩
  exact ⟨p2i_z1 n, by unfold tellsY; rw [pif_t n]; exact mPo_up hp2 e3 rfl (by decide) rfl⟩
end M7
