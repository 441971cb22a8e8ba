/-! ===== arrays, new ===== -/
theorem z_idx {i : Int} {q : Nat} (h0 : 0 ≤ i) : ((q : Int) = i) ↔ q = i.toNat := by omega
theorem zarr_up {M : zM} {a : Nat} {i x : Int} (h0 : 0 ≤ i) : (fun q : Nat => Int32.ofInt (zI (zsI M a i x) a q)) = upd (fun q : Nat => Int32.ofInt (zI M a q)) i.toNat (Int32.ofInt x) := by
  funext q
  simp only [zI_sI, true_and, z_idx h0, upd]
  split <;> rfl
theorem zarr_upL {M : zM} {a : Nat} {i : Int} {x : Int64} (h0 : 0 ≤ i) : (fun q : Nat => zL (zsL M a i x) a q) = vp_updL (fun q : Nat => zL M a q) i.toNat x := by
  funext q
  simp only [zL_sL, true_and, z_idx h0, vp_updL]
theorem zarr_upR {M : zM} {a : Nat} {i : Int} {x : Option Nat} (h0 : 0 ≤ i) : (fun q : Nat => zR (zsR M a i x) a q) = va_up (fun q : Nat => zR M a q) i.toNat x := by
  funext q
  simp only [zR_sR, true_and, z_idx h0, va_up]
section ZA
variable {cc : ByteArray} {own nm : String} {nL : Nat} {E : zE} {R : Room} {X : zX} {Q : State → Prop} {pc : Nat} {Lc : List (Nat × zV)} {S : List zV} {M : zM} {ce sl : Nat}
theorem z_iald {a n : Nat} {i : Int} (hd : decode cc pc = .ok (.iaload, 1)) (hK : zK M a = (9, n)) (h0 : 0 ≤ i) (h1 : i < n) (h : zZ cc own nm nL E R X Q (pc + 1) Lc (vI (zI M a i) :: S) M ce sl) : zZ cc own nm nL E R X Q pc Lc (vI i :: vR (some a) :: S) M ce sl := by
  intro hSt hM hS hL H locs ls hR hV hls
  obtain ⟨a1, a2⟩ := zokM_at hM hK (by decide)
  have he := zws_get (cA := E.2.2.2) a1 a2
  rw [zcell_arr hK (by decide)] at he
  have hi : zin i := zokS_hd hS
  refine va_iald hSt.1 hSt.2.1 hSt.2.2.2.2.2.1.1 hR.2.2 _ 0 he rfl (zi_in hi h0 h1) hd ?_
  rw [zi_nat h0 hi]
  have e : ((i.toNat : Nat) : Int) = i := Int.toNat_of_nonneg h0
  have := h hSt hM (zokS_cons (hM.1 a i) (zokS_tl (zokS_tl hS))) hL H locs ls hR hV hls
  simp only [e]
  exact this
theorem z_bald {a n : Nat} {i : Int} (hd : decode cc pc = .ok (.baload, 1)) (hK : zK M a = (10, n)) (h0 : 0 ≤ i) (h1 : i < n) (h : zZ cc own nm nL E R X Q (pc + 1) Lc (vI (zI M a i) :: S) M ce sl) : zZ cc own nm nL E R X Q pc Lc (vI i :: vR (some a) :: S) M ce sl := by
  intro hSt hM hS hL H locs ls hR hV hls
  obtain ⟨a1, a2⟩ := zokM_at hM hK (by decide)
  have he := zws_get (cA := E.2.2.2) a1 a2
  rw [zcell_arr hK (by decide)] at he
  have hi : zin i := zokS_hd hS
  refine va_zald hSt.1 hSt.2.1 hSt.2.2.2.2.2.1.1 hR.2.2 _ 1 he rfl (zi_in hi h0 h1) hd ?_
  rw [zi_nat h0 hi]
  have e : ((i.toNat : Nat) : Int) = i := Int.toNat_of_nonneg h0
  have := h hSt hM (zokS_cons (hM.1 a i) (zokS_tl (zokS_tl hS))) hL H locs ls hR hV hls
  simp only [e]
  exact this
theorem z_lald {a n : Nat} {i : Int} (hd : decode cc pc = .ok (.laload, 1)) (hK : zK M a = (11, n)) (h0 : 0 ≤ i) (h1 : i < n) (h : zZ cc own nm nL E R X Q (pc + 1) Lc (vL (zL M a i) :: S) M ce sl) : zZ cc own nm nL E R X Q pc Lc (vI i :: vR (some a) :: S) M ce sl := by
  intro hSt hM hS hL H locs ls hR hV hls
  obtain ⟨a1, a2⟩ := zokM_at hM hK (by decide)
  have he := zws_get (cA := E.2.2.2) a1 a2
  rw [zcell_arr hK (by decide)] at he
  have hi : zin i := zokS_hd hS
  refine va_lald hSt.1 hSt.2.1 hSt.2.2.2.2.2.1.1 hR.2.2 _ 2 he rfl (zi_in hi h0 h1) hd ?_
  rw [zi_nat h0 hi]
  have e : ((i.toNat : Nat) : Int) = i := Int.toNat_of_nonneg h0
  have := h hSt hM (zokS_cons trivial (zokS_tl (zokS_tl hS))) hL H locs ls hR hV hls
  simp only [e]
  exact this
/-- an array of references: Work[] (12) or int[][] (13) -/
theorem z_aald {a n tg : Nat} {i : Int} (hd : decode cc pc = .ok (.aaload, 1)) (hK : zK M a = (tg, n)) (htg : tg = 12 ∨ tg = 13) (h0 : 0 ≤ i) (h1 : i < n) (h : zZ cc own nm nL E R X Q (pc + 1) Lc (vR (zR M a i) :: S) M ce sl) : zZ cc own nm nL E R X Q pc Lc (vI i :: vR (some a) :: S) M ce sl := by
  intro hSt hM hS hL H locs ls hR hV hls
  obtain ⟨a1, a2⟩ := zokM_at hM hK (by omega)
  have he := zws_get (cA := E.2.2.2) a1 a2
  rw [zcell_arr hK (by omega)] at he
  have hi : zin i := zokS_hd hS
  have hlt : (Int32.ofInt i).toNatClampNeg < n := by rw [zi_nat h0 hi]; omega
  have e : ((i.toNat : Nat) : Int) = i := Int.toNat_of_nonneg h0
  have hh := h hSt hM (zokS_cons trivial (zokS_tl (zokS_tl hS))) hL H locs ls hR hV hls
  have hin := zi_in hi h0 h1
  rcases htg with rfl | rfl
  · refine W.aald (v := va_rf (zR M a i)) (ty := .object RX5) hSt.1 hSt.2.1 (hR.2.2 _ _ he) ((hSt.2.2.2.2.2.1.1.2 3 _ rfl).1 n (fun j => va_rf (zR M a j))) rfl (fun q => by cases q) (by show ¬ (_ ∨ (arrV _ _ _).slots.size ≤ _); rw [arrV_size]; exact hin) (by show (arrV _ _ _).slots[_]? = _; rw [arrV_read _ _ hlt, zi_nat h0 hi]; show some (va_rf (zR M a ((i.toNat : Nat) : Int))) = _; rw [e]) rfl rfl hd hh
  · refine W.aald (v := va_rf (zR M a i)) (ty := .array .int) hSt.1 hSt.2.1 (hR.2.2 _ _ he) ((hSt.2.2.2.2.2.1.1.2 4 _ rfl).1 n (fun j => va_rf (zR M a j))) rfl (fun q => by cases q) (by show ¬ (_ ∨ (arrV _ _ _).slots.size ≤ _); rw [arrV_size]; exact hin) (by show (arrV _ _ _).slots[_]? = _; rw [arrV_read _ _ hlt, zi_nat h0 hi]; show some (va_rf (zR M a ((i.toNat : Nat) : Int))) = _; rw [e]) rfl rfl hd hh
theorem z_iast {a n : Nat} {i x : Int} (hd : decode cc pc = .ok (.iastore, 1)) (hK : zK M a = (9, n)) (h0 : 0 ≤ i) (h1 : i < n) (h : zZ cc own nm nL E R X Q (pc + 1) Lc S (zsI M a i x) ce sl) : zZ cc own nm nL E R X Q pc Lc (vI x :: vI i :: vR (some a) :: S) M ce sl := by
  intro hSt hM hS hL H locs ls hR hV hls
  obtain ⟨a1, a2⟩ := zokM_at hM hK (by decide)
  have he := zws_get (cA := E.2.2.2) a1 a2
  rw [zcell_arr hK (by decide)] at he
  have hx : zin x := zokS_hd hS
  have hi : zin i := zokS_hd (zokS_tl hS)
  have hc : zcell E.2.2.2 (zsI M a i x) a = .inl (E.2.2.2 9, n, .inl (upd (fun q : Nat => Int32.ofInt (zI M a q)) i.toNat (Int32.ofInt x))) := by
    rw [zcell_arr (M := zsI M a i x) (tg := 9) (n := n) hK (by decide)]
    show Sum.inl (_, _, Sum.inl _) = _
    rw [zarr_up h0]
  have hk := fun H1 locs1 (hP1 : va_P E.2.2.1 vwCl (zws E.2.1 E.2.2.2 (zsI M a i x)) H1) hS1 (hz : H1.size = H.size) => h hSt (zokM_sI hM hx) (zokS_tl (zokS_tl (zokS_tl hS))) hL H1 locs1 ls ⟨hz.trans hR.1, hR.2.1, hP1⟩ hS1 hls
  refine W.iast hSt.1 hSt.2.1 (hR.2.2 _ _ he) ((hSt.2.2.2.2.2.1.1.2 0 _ rfl).1 n (fun j => .int (Int32.ofInt (zI M a j)))) (fun q => by cases q) (by show ¬ (_ ∨ (arrV _ _ _).slots.size ≤ _); rw [arrV_size]; exact zi_in hi h0 h1) rfl rfl hd fun H1 e z oq => ?_
  refine hk H1 _ ?_ (hV.put z oq a1) z
  rw [← zws_set (M := M) (M' := zsI M a i x) a1 a2 rfl (fun b hb => zcell_sI hb)]
  refine hR.2.2.set zws_D he ?_ oq
  rw [hc]
  show H1[a]? = some (vp_cell _ _)
  rw [e]
  show some ((vp_cell _ (n, .inl (fun q : Nat => Int32.ofInt (zI M a q)))).setSlot _ _) = some (vp_cell _ (n, .inl _))
  rw [vp_cell_i, vp_cell_i, arrV_store, zi_nat h0 hi]
  congr 2
  funext q
  by_cases hq : q = i.toNat
  · subst hq; simp [updV, upd]
  · simp [updV, upd, hq]
theorem z_bast {a n : Nat} {i x : Int} (hd : decode cc pc = .ok (.bastore, 1)) (hK : zK M a = (10, n)) (h0 : 0 ≤ i) (h1 : i < n) (hb01 : x = 0 ∨ x = 1) (h : zZ cc own nm nL E R X Q (pc + 1) Lc S (zsI M a i x) ce sl) : zZ cc own nm nL E R X Q pc Lc (vI x :: vI i :: vR (some a) :: S) M ce sl := by
  intro hSt hM hS hL H locs ls hR hV hls
  obtain ⟨a1, a2⟩ := zokM_at hM hK (by decide)
  have he := zws_get (cA := E.2.2.2) a1 a2
  rw [zcell_arr hK (by decide)] at he
  have hx : zin x := zokS_hd hS
  have hi : zin i := zokS_hd (zokS_tl hS)
  have hc : zcell E.2.2.2 (zsI M a i x) a = .inl (E.2.2.2 10, n, .inl (upd (fun q : Nat => Int32.ofInt (zI M a q)) i.toNat (Int32.ofInt x))) := by
    rw [zcell_arr (M := zsI M a i x) (tg := 10) (n := n) hK (by decide)]
    show Sum.inl (_, _, Sum.inl _) = _
    rw [zarr_up h0]
  have hnar : narrow .boolean (.int (Int32.ofInt x)) = .int (Int32.ofInt x) := by rcases hb01 with rfl | rfl <;> rfl
  have hk := fun H1 locs1 (hP1 : va_P E.2.2.1 vwCl (zws E.2.1 E.2.2.2 (zsI M a i x)) H1) hS1 (hz : H1.size = H.size) => h hSt (zokM_sI hM hx) (zokS_tl (zokS_tl (zokS_tl hS))) hL H1 locs1 ls ⟨hz.trans hR.1, hR.2.1, hP1⟩ hS1 hls
  refine W.zast hSt.1 hSt.2.1 (hR.2.2 _ _ he) ((hSt.2.2.2.2.2.1.1.2 1 _ rfl).1 n (fun j => .int (Int32.ofInt (zI M a j)))) (fun q => by cases q) (by show ¬ (_ ∨ (arrV _ _ _).slots.size ≤ _); rw [arrV_size]; exact zi_in hi h0 h1) rfl rfl hd fun H1 e z oq => ?_
  refine hk H1 _ ?_ (hV.put z oq a1) z
  rw [← zws_set (M := M) (M' := zsI M a i x) a1 a2 rfl (fun b hb => zcell_sI hb)]
  refine hR.2.2.set zws_D he ?_ oq
  rw [hc]
  show H1[a]? = some (vp_cell _ _)
  rw [e, hnar]
  show some ((vp_cell _ (n, .inl (fun q : Nat => Int32.ofInt (zI M a q)))).setSlot _ _) = some (vp_cell _ (n, .inl _))
  rw [vp_cell_i, vp_cell_i, arrV_store, zi_nat h0 hi]
  congr 2
  funext q
  by_cases hq : q = i.toNat
  · subst hq; simp [updV, upd]
  · simp [updV, upd, hq]
theorem z_last {a n : Nat} {i : Int} {x : Int64} (hd : decode cc pc = .ok (.lastore, 1)) (hK : zK M a = (11, n)) (h0 : 0 ≤ i) (h1 : i < n) (h : zZ cc own nm nL E R X Q (pc + 1) Lc S (zsL M a i x) ce sl) : zZ cc own nm nL E R X Q pc Lc (vL x :: vI i :: vR (some a) :: S) M ce sl := by
  intro hSt hM hS hL H locs ls hR hV hls
  obtain ⟨a1, a2⟩ := zokM_at hM hK (by decide)
  have he := zws_get (cA := E.2.2.2) a1 a2
  rw [zcell_arr hK (by decide)] at he
  have hi : zin i := zokS_hd (zokS_tl hS)
  have hc : zcell E.2.2.2 (zsL M a i x) a = .inl (E.2.2.2 11, n, .inr (.inl (vp_updL (fun q : Nat => zL M a q) i.toNat x))) := by
    rw [zcell_arr (M := zsL M a i x) (tg := 11) (n := n) hK (by decide)]
    show Sum.inl (_, _, Sum.inr (Sum.inl _)) = _
    rw [zarr_upL h0]
  have hk := fun H1 locs1 (hP1 : va_P E.2.2.1 vwCl (zws E.2.1 E.2.2.2 (zsL M a i x)) H1) hS1 (hz : H1.size = H.size) => h hSt (zokM_sL hM) (zokS_tl (zokS_tl (zokS_tl hS))) hL H1 locs1 ls ⟨hz.trans hR.1, hR.2.1, hP1⟩ hS1 hls
  refine W.last hSt.1 hSt.2.1 (hR.2.2 _ _ he) ((hSt.2.2.2.2.2.1.1.2 2 _ rfl).1 n (fun j => .long (zL M a j))) (fun q => by cases q) (by show ¬ (_ ∨ (arrV _ _ _).slots.size ≤ _); rw [arrV_size]; exact zi_in hi h0 h1) rfl rfl hd fun H1 e z oq => ?_
  refine hk H1 _ ?_ (hV.put z oq a1) z
  rw [← zws_set (M := M) (M' := zsL M a i x) a1 a2 rfl (fun b hb => zcell_sL hb)]
  refine hR.2.2.set zws_D he ?_ oq
  rw [hc]
  show H1[a]? = some (vp_cell _ _)
  rw [e]
  show some ((vp_cell _ (n, .inr (.inl (fun q : Nat => zL M a q)))).setSlot _ _) = some (vp_cell _ (n, .inr (.inl _)))
  rw [vp_cell_l, vp_cell_l, arrV_store, zi_nat h0 hi]
  congr 2
  funext q
  by_cases hq : q = i.toNat
  · subst hq; simp [updV, vp_updL]
  · simp [updV, vp_updL, hq]
/-- a Work goes into a Work[] -/
theorem z_aast {a b n nw : Nat} {i : Int} (hd : decode cc pc = .ok (.aastore, 1)) (hK : zK M a = (12, n)) (hKb : zK M b = (6, nw)) (h0 : 0 ≤ i) (h1 : i < n) (h : zZ cc own nm nL E R X Q (pc + 1) Lc S (zsR M a i (some b)) ce sl) : zZ cc own nm nL E R X Q pc Lc (vR (some b) :: vI i :: vR (some a) :: S) M ce sl := by
  intro hSt hM hS hL H locs ls hR hV hls
  obtain ⟨a1, a2⟩ := zokM_at hM hK (by decide)
  obtain ⟨b1, b2⟩ := zokM_at hM hKb (by decide)
  have he := zws_get (cA := E.2.2.2) a1 a2
  rw [zcell_arr hK (by decide)] at he
  have heb := zws_get (cA := E.2.2.2) b1 b2
  rw [zcell_obj hKb (by decide)] at heb
  have hi : zin i := zokS_hd (zokS_tl hS)
  have hc : zcell E.2.2.2 (zsR M a i (some b)) a = .inl (E.2.2.2 12, n, .inr (.inr (.inr (.inr (va_up (fun q : Nat => zR M a q) i.toNat (some b)))))) := by
    rw [zcell_arr (M := zsR M a i (some b)) (tg := 12) (n := n) hK (by decide)]
    show Sum.inl (_, _, Sum.inr (Sum.inr (Sum.inr (Sum.inr _)))) = _
    rw [zarr_upR h0]
  have hk := fun H1 locs1 (hP1 : va_P E.2.2.1 vwCl (zws E.2.1 E.2.2.2 (zsR M a i (some b))) H1) hS1 (hz : H1.size = H.size) => h hSt (zokM_sR hM) (zokS_tl (zokS_tl (zokS_tl hS))) hL H1 locs1 ls ⟨hz.trans hR.1, hR.2.1, hP1⟩ hS1 hls
  have hin := zi_in hi h0 h1
  have hlt : (Int32.ofInt i).toNatClampNeg < n := by rw [zi_nat h0 hi]; omega
  have h00 : ¬ Int32.ofInt i < 0 := fun q => hin (Or.inl q)
  obtain ⟨r', hr', cellV, g1, g2, g3, -⟩ := hR.2.2 _ _ heb
  have hcls := (hSt.2.2.2.2.2.1.1.1 5 (RX5, TX5, 16) rfl).2
  obtain ⟨kA, comp, k1, k2, k3, -⟩ := (hSt.2.2.2.2.2.1.1.2 3 _ rfl).2
  have hcomp : comp = E.2.2.1.1 5 := Option.some.inj (k3.symm.trans hcls.1)
  subst hcomp
  obtain ⟨kC, hkC, -⟩ := id hcls.2
  refine W.aast hSt.1 hSt.2.1 (hR.2.2 _ _ he) (fun q h => by cases h) (fun h => by cases h) k1 k2 rfl hkC ⟨h00, by show _ < (arrV _ _ _).slots.size; rw [arrV_size]; exact hlt⟩ g1 (fun q h => by rw [g3] at h; cases h) (by rw [g2]; exact hkC) (by rw [g2]; exact va_assign hcls) rfl rfl hd fun H1 e z oq => ?_
  refine hk H1 _ ?_ (hV.put z oq a1) z
  rw [← zws_set (M := M) (M' := zsR M a i (some b)) a1 a2 rfl (fun c hb => zcell_sR hb)]
  refine hR.2.2.set zws_D he ?_ oq
  rw [hc]
  show H1[a]? = some (vp_cell _ _)
  rw [e]
  show some ((vp_cell _ (n, .inr (.inr (.inr (.inr (fun q : Nat => zR M a q)))))).setSlot _ _) = some (vp_cell _ (n, .inr (.inr (.inr (.inr _)))))
  rw [vp_cell_q, vp_cell_q, arrV_store, zi_nat h0 hi]
  congr 2
  funext q
  by_cases hq : q = i.toNat
  · subst hq; simp [updV, va_up, va_rf]
  · simp [updV, va_up, hq]
/-- what a new cell leaves -/
theorem zRel_push {t n : Nat} {H H1 : Heap} {locs : List Loc} (hR : zRel E M H) (hV : va_S (fun q => E.2.1 ≤ q) (xs X).heap H locs) (e1 : va_at E.2.2.1 vwCl (zsz M, zcell E.2.2.2 (znew M t n) (zsz M)) H1) (z1 : H1.size = zsz M + 1) (o1 : ∀ q, q < zsz M → H1[q]? = H[q]?) : zRel E (znew M t n) H1 ∧ va_S (fun q => E.2.1 ≤ q) (xs X).heap H1 locs := by
  obtain ⟨r1, r2, r3⟩ := hR
  refine ⟨⟨z1, by rw [zsz_new]; omega, ?_⟩, by rw [z1, ← r1]; have := hV.1; omega, fun q h1 h2 => ?_, hV.2.2⟩
  · rw [← zws_push r2 (zsz_new M t n) (fun b hb => zcell_new hb)]
    refine va_P.app (r3.kept fun k q hk => o1 q.1 (by rw [← r1]; exact (r3 k q hk).lt)) (fun k q hk => ?_)
    have hz : k < 1 := (List.getElem?_eq_some_iff.mp hk).1
    rw [show k = 0 by omega] at hk
    cases hk
    exact e1
  · rw [o1 q (by rw [← r1]; exact Nat.lt_of_lt_of_le h1 hV.1)]
    exact hV.2.1 q h1 h2
def zNw (own : String) (idx tg n : Nat) : Prop := ∃ (C : String) (T : u_T), vwCl[tg - 1]? = some (C, T, n) ∧ (1 ≤ tg ∧ tg < 9) ∧ n < 2147483648 ∧ (∀ w ∈ u_ws C T n, w ∈ zT) ∧ (∀ i, i < n → parseFieldDescriptor (T i).2.2.1 = some (zfty (tg - 1) i)) ∧ Cond.classLink own idx C ∈ zT ∧ Cond.instantiable C n ∈ zT ∧ Cond.initialized C ∈ zT ∧ (∀ i, i < n → zfty (tg - 1) i = .int ∨ zfty (tg - 1) i = .long ∨ zisR (zfty (tg - 1) i) = true)
theorem z_new {idx tg n : Nat} (hn : zNw own idx tg n) (hd : decode cc pc = .ok (.new idx, 3)) (hc : ce + 1 ≤ R.cells) (hs : sl + n ≤ R.slots) (h : zZ cc own nm nL E R X Q (pc + 3) Lc (vR (some (zsz M)) :: S) (znew M tg n) (ce + 1) (sl + n)) : zZ cc own nm nL E R X Q pc Lc S M ce sl := by
  intro hSt hM hS hL H locs ls hR hV hls
  obtain ⟨C, T, hcl, ht, hb, hin, hty, w1, w2, w3, hdf⟩ := hn
  have hKn := hSt.2.2.2.2.2.1.1.1 (tg - 1) _ hcl
  refine W.newcK hSt.1 hSt.2.1 hSt.2.2.2.1 (hSt.2.2.2.2.1 _ w1) (hSt.2.2.2.2.1 _ w2) (hSt.2.2.2.2.1 _ w3) rfl hd hc hs hKn.2.1 hR.1 fun H1 kC hkC e1 z1 o1 => ?_
  obtain ⟨p1, p2⟩ := zRel_push (t := tg) (n := n) hR hV (by
    rw [zcell_obj (tg := tg) (n := n) (by rw [zK_new, if_pos rfl]) ht.2]
    refine ⟨_, hcl, (u_born (zfty (tg - 1)) hSt.2.2.2.2.1 hin hKn hkC e1 hty).to fun i hi => ?_⟩
    have hg := zobj_get (M := znew M tg n) (a := zsz M) (t := tg - 1) hi
    simp only [vp_V, List.getD_eq_getElem?_getD, hg, Option.getD_some]
    rcases hdf i hi with q | q | q
    · rw [q]; simp only [zfv, zI_new, if_true]; rfl
    · rw [q]; simp only [zfv, zL_new, if_true]; rfl
    · rw [zfv_R q, zR_new, if_pos rfl]
      cases hq : zfty (tg - 1) i <;> rw [hq] at q <;> first | rfl | cases q) z1 o1
  exact h hSt (zokM_new hM hb hR.2.1) (zokS_cons trivial hS) hL H1 locs ls p1 p2 hls
theorem z_newa {at_ : ArrayType} {tg n : Nat} {k : Int} (hat : (at_ = .int ∧ tg = 9) ∨ (at_ = .boolean ∧ tg = 10) ∨ (at_ = .long ∧ tg = 11)) (hw : Cond.arrayClass (newarray.typeOf at_) ∈ zT) (hd : decode cc pc = .ok (.newarray at_, 2)) (hk : k = (n : Int)) (hn : n ≤ 10000) (hc : ce + 1 ≤ R.cells) (hs : sl + n ≤ R.slots) (h : zZ cc own nm nL E R X Q (pc + 2) Lc (vR (some (zsz M)) :: S) (znew M tg n) (ce + 1) (sl + n)) : zZ cc own nm nL E R X Q pc Lc (vI k :: S) M ce sl := by
  subst hk
  intro hSt hM hS hL H locs ls hR hV hls
  have hz : zin (n : Int) := zokS_hd hS
  have hh := h hSt (zokM_new hM (by omega) hR.2.1) (zokS_cons trivial (zokS_tl hS)) hL
  refine va_newaK (N := n) hSt.1 hSt.2.1 (hSt.2.2.2.2.1 _ hw) rfl hd rfl (by rw [← zi_0, zi_lt hz zin_0]; omega) (by rw [zi_nat (by omega) hz]; omega) (by rcases hat with ⟨rfl, -⟩ | ⟨rfl, -⟩ | ⟨rfl, -⟩ <;> simp [newarray.typeOf, componentBytes] <;> omega) hc hs hR.1 fun H1 cA e1 z1 o1 hAr hNm => ?_
  have key : ∀ (hcA : cA = E.2.2.2 tg), zRel E (znew M tg n) H1 ∧ va_S (fun q => E.2.1 ≤ q) (xs X).heap H1 locs := fun hcA => zRel_push (t := tg) (n := n) hR hV (by
    rw [zcell_arr (tg := tg) (n := n) (by rw [zK_new, if_pos rfl]) (by omega), ← hcA]
    show H1[zsz M]? = some (vp_cell _ _)
    rw [e1]
    rcases hat with ⟨rfl, rfl⟩ | ⟨rfl, rfl⟩ | ⟨rfl, rfl⟩
    · show _ = some (vp_cell _ (n, .inl (fun q : Nat => Int32.ofInt (zI (znew M 9 n) (zsz M) q)))); rw [vp_cell_i]; simp only [zI_new, if_true]; rfl
    · show _ = some (vp_cell _ (n, .inl (fun q : Nat => Int32.ofInt (zI (znew M 10 n) (zsz M) q)))); rw [vp_cell_i]; simp only [zI_new, if_true]; rfl
    · show _ = some (vp_cell _ (n, .inr (.inl (fun q : Nat => zL (znew M 11 n) (zsz M) q)))); rw [vp_cell_l]; simp only [zL_new, if_true]; rfl) z1 o1
  have hcA : cA = E.2.2.2 tg := by
    rcases hat with ⟨rfl, rfl⟩ | ⟨rfl, rfl⟩ | ⟨rfl, rfl⟩
    · exact Option.some.inj (hNm.symm.trans (hSt.2.2.2.2.2.1.1.2 0 _ rfl).2)
    · exact Option.some.inj (hNm.symm.trans (hSt.2.2.2.2.2.1.1.2 1 _ rfl).2)
    · exact Option.some.inj (hNm.symm.trans (hSt.2.2.2.2.2.1.1.2 2 _ rfl).2)
  obtain ⟨p1, p2⟩ := key hcA
  exact hh H1 locs ls p1 p2 hls
theorem z_anew {idx n : Nat} {k : Int} (hw : Cond.classLink own idx RX5 ∈ zT) (hd : decode cc pc = .ok (.anewarray idx, 3)) (hk : k = (n : Int)) (hn : n ≤ 10000) (hc : ce + 1 ≤ R.cells) (hs : sl + n ≤ R.slots) (h : zZ cc own nm nL E R X Q (pc + 3) Lc (vR (some (zsz M)) :: S) (znew M 12 n) (ce + 1) (sl + n)) : zZ cc own nm nL E R X Q pc Lc (vI k :: S) M ce sl := by
  subst hk
  intro hSt hM hS hL H locs ls hR hV hls
  have hz : zin (n : Int) := zokS_hd hS
  have hnat : (Int32.ofInt (n : Int)).toNatClampNeg = n := by rw [zi_nat (by omega) hz]; omega
  have hh := h hSt (zokM_new hM (by omega) hR.2.1) (zokS_cons trivial (zokS_tl hS)) hL
  refine W.anew hSt.1 hSt.2.1 hSt.2.2.2.1 (hSt.2.2.2.2.1 _ hw) (va_AO.use hSt.2.2.2.2.2.1.2.1) rfl hd rfl (by rw [← zi_0, zi_lt hz zin_0]; omega) (by rw [hnat]; omega) hc (by rw [hnat]; exact hs) fun cA kA comp f1 f2 f3 f4 => ?_
  rw [hnat]
  obtain ⟨kA2, comp2, -, -, -, g4⟩ := (hSt.2.2.2.2.2.1.1.2 3 _ rfl).2
  have hcA : cA = E.2.2.2 12 := Option.some.inj (f1.symm.trans g4)
  obtain ⟨p1, p2⟩ := zRel_push (t := 12) (n := n) (H1 := H.push { cls := cA, slots := Array.replicate n .null, vm := .none }) hR hV (by
    rw [zcell_arr (tg := 12) (n := n) (by rw [zK_new, if_pos rfl]) (by decide), ← hcA]
    show _ = some (vp_cell _ (n, .inr (.inr (.inr (.inr (fun q : Nat => zR (znew M 12 n) (zsz M) q))))))
    rw [vp_cell_q]
    simp only [zR_new, if_true]
    show (H.push _)[zsz M]? = _
    rw [← hR.1, Array.getElem?_push_size, arrV_new]
    rfl) (by rw [Array.size_push, hR.1]) (fun q hq => by rw [Array.getElem?_push, if_neg (by rw [hR.1]; omega)])
  have := hh _ locs ls p1 p2 hls
  rw [← hR.1] at this
  exact this
end ZA
