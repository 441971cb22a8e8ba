/-! ===== rows on memory ===== -/
def zFl (own : String) (idx tg : Nat) (j : Int) (n : Nat) (ty : FieldType) (fin : Bool) : Prop :=
  ∃ (C : String) (T : u_T) (k : Nat), vwCl[tg - 1]? = some (C, T, n) ∧ (1 ≤ tg ∧ tg < 9) ∧ j = (k : Int) ∧ k < n ∧ (∀ w ∈ u_ws C T n, w ∈ zT) ∧ Cond.fieldLink own idx (T k).1 (T k).2.1 (T k).2.2.1 ∈ zT ∧ zfty (tg - 1) k = ty ∧ (∀ i, i < n → parseFieldDescriptor (T i).2.2.1 = some (zfty (tg - 1) i)) ∧ (∀ a, a < n → ∀ b, b < n → a ≠ b → (T a).2.1 ≠ (T b).2.1) ∧ (T k).2.2.2 = fin ∧ (T k).1 = C
theorem zcell_obj {cA : Nat → ClassId} {M : zM} {a tg n : Nat} (hK : zK M a = (tg, n)) (h : tg < 9) : zcell cA M a = .inr (tg - 1, zobj M a (tg - 1) n) := by
  unfold zcell
  rw [hK]
  exact if_pos h
theorem zcell_arr {cA : Nat → ClassId} {M : zM} {a tg n : Nat} (hK : zK M a = (tg, n)) (h : 9 ≤ tg) : zcell cA M a = .inl (cA tg, n, zarr M a tg) := by
  unfold zcell
  rw [hK]
  exact if_neg (by show ¬ tg < 9; omega)
theorem zobj_get {M : zM} {a t n k : Nat} (hk : k < n) : (zobj M a t n)[k]? = some (zfv M a (zfty t k) k) := by
  unfold zobj
  rw [List.getElem?_map, List.getElem?_range hk]
  rfl
theorem zobj_len {M : zM} {a t n : Nat} : (zobj M a t n).length = n := by
  unfold zobj
  rw [List.length_map, List.length_range]
theorem zobj_set {M M' : zM} {a t n k : Nat} {v : Value} (hk : k < n) (h1 : zfv M' a (zfty t k) k = v) (h2 : ∀ (j : Nat) (ty : FieldType), j ≠ k → zfv M' a ty j = zfv M a ty j) : (zobj M a t n).set k v = zobj M' a t n := by
  apply List.ext_getElem?
  intro i
  by_cases hi : i = k
  · subst hi
    rw [List.getElem?_set_self (by rw [zobj_len]; exact hk), zobj_get hk, h1]
  · rw [List.getElem?_set_ne (fun e => hi e.symm)]
    by_cases hl : i < n
    · rw [zobj_get hl, zobj_get hl, h2 i _ hi]
    · rw [List.getElem?_eq_none (by rw [zobj_len]; omega), List.getElem?_eq_none (by rw [zobj_len]; omega)]
theorem zcell_sI {cA : Nat → ClassId} {M : zM} {a b : Nat} {j x : Int} (hb : b ≠ a) : zcell cA (zsI M a j x) b = zcell cA M b := by
  simp only [zcell, zobj, zarr, zfv, zK_sI, zI_sI, zL_sI, zR_sI, hb, false_and, if_false]
theorem zcell_sL {cA : Nat → ClassId} {M : zM} {a b : Nat} {j : Int} {x : Int64} (hb : b ≠ a) : zcell cA (zsL M a j x) b = zcell cA M b := by
  simp only [zcell, zobj, zarr, zfv, zK_sL, zI_sL, zL_sL, zR_sL, hb, false_and, if_false]
theorem zcell_sR {cA : Nat → ClassId} {M : zM} {a b : Nat} {j : Int} {x : Option Nat} (hb : b ≠ a) : zcell cA (zsR M a j x) b = zcell cA M b := by
  simp only [zcell, zobj, zarr, zfv, zK_sR, zI_sR, zL_sR, zR_sR, hb, false_and, if_false]
theorem zcell_new {cA : Nat → ClassId} {M : zM} {b t n : Nat} (hb : b < zsz M) : zcell cA (znew M t n) b = zcell cA M b := by
  have hb : b ≠ zsz M := Nat.ne_of_lt hb
  simp only [zcell, zobj, zarr, zfv, zK_new, zI_new, zL_new, zR_new, hb, if_false]
theorem zokM_at {E : zE} {M : zM} (hM : zokM E M) {a tg n : Nat} (hK : zK M a = (tg, n)) (h : 1 ≤ tg) : E.2.1 ≤ a ∧ a < zsz M := hM.2.2 a (by rw [hK]; show tg ≠ 0; omega)
theorem zokM_n {E : zE} {M : zM} (hM : zokM E M) {a tg n : Nat} (hK : zK M a = (tg, n)) : n < 2147483648 := by have := hM.2.1 a; rw [hK] at this; exact this
theorem zokM_sI {E : zE} {M : zM} (hM : zokM E M) {a : Nat} {j x : Int} (hx : zin x) : zokM E (zsI M a j x) := by
  refine ⟨fun b i => ?_, hM.2.1, hM.2.2⟩
  rw [zI_sI]
  split
  · exact hx
  · exact hM.1 b i
theorem zokM_sL {E : zE} {M : zM} (hM : zokM E M) {a : Nat} {j : Int} {x : Int64} : zokM E (zsL M a j x) := ⟨hM.1, hM.2.1, hM.2.2⟩
theorem zokM_sR {E : zE} {M : zM} (hM : zokM E M) {a : Nat} {j : Int} {x : Option Nat} : zokM E (zsR M a j x) := ⟨hM.1, hM.2.1, hM.2.2⟩
theorem zokM_new {E : zE} {M : zM} (hM : zokM E M) {t n : Nat} (hn : n < 2147483648) (hN : E.2.1 ≤ zsz M) : zokM E (znew M t n) := by
  refine ⟨fun b i => ?_, fun b => ?_, fun b hb => ?_⟩
  · rw [zI_new]
    split
    · exact zin_0
    · exact hM.1 b i
  · rw [zK_new]
    split
    · exact hn
    · exact hM.2.1 b
  · rw [zsz_new]
    rw [zK_new] at hb
    by_cases e : b = zsz M
    · omega
    · rw [if_neg e] at hb
      have := hM.2.2 b hb
      omega
section ZM
variable {cc : ByteArray} {own nm : String} {nL : Nat} {E : zE} {R : Room} {X : zX} {Q : State → Prop} {pc : Nat} {Lc : List (Nat × zV)} {S : List zV} {M : zM} {ce sl : Nat}
theorem z_get {idx tg n a : Nat} {j : Int} {ty : FieldType} {fin : Bool} (hf : zFl own idx tg j n ty fin) (hd : decode cc pc = .ok (.getfield idx, 3)) (hK : zK M a = (tg, n)) {v : zV} (hv : zv v = zfv M a ty j) (hok : zokM E M → zok v) (h : zZ cc own nm nL E R X Q (pc + 3) Lc (v :: S) M ce sl) : zZ cc own nm nL E R X Q pc Lc (vR (some a) :: S) M ce sl := by
  intro hSt hM hS hL H locs ls hR hV hls
  obtain ⟨C, T, k, hc, ht, hj, hk, hin, hlink, hty, -⟩ := hf
  obtain ⟨a1, a2⟩ := zokM_at hM hK ht.1
  have he := zws_get (cA := E.2.2.2) a1 a2
  rw [zcell_obj hK ht.2] at he
  refine va_get (v := zv v) hSt.1 hSt.2.1 hSt.2.2.2.2.1 hin hSt.2.2.2.1 hSt.2.2.2.2.2.1.1 hR.2.2 _ he hc k hk (hSt.2.2.2.2.1 _ hlink) (fun _ h9 => h9) (by rw [zobj_get hk, hty, hv, hj]) hd ?_
  exact h hSt hM (zokS_cons (hok hM) (zokS_tl hS)) hL H locs ls hR hV hls
theorem z_getI {idx tg n a : Nat} {j : Int} {fin : Bool} (hf : zFl own idx tg j n .int fin) (hd : decode cc pc = .ok (.getfield idx, 3)) (hK : zK M a = (tg, n)) (h : zZ cc own nm nL E R X Q (pc + 3) Lc (vI (zI M a j) :: S) M ce sl) : zZ cc own nm nL E R X Q pc Lc (vR (some a) :: S) M ce sl := z_get (v := vI (zI M a j)) hf hd hK rfl (fun hM => hM.1 a j) h
theorem z_getL {idx tg n a : Nat} {j : Int} {fin : Bool} (hf : zFl own idx tg j n .long fin) (hd : decode cc pc = .ok (.getfield idx, 3)) (hK : zK M a = (tg, n)) (h : zZ cc own nm nL E R X Q (pc + 3) Lc (vL (zL M a j) :: S) M ce sl) : zZ cc own nm nL E R X Q pc Lc (vR (some a) :: S) M ce sl := z_get (v := vL (zL M a j)) hf hd hK rfl (fun _ => trivial) h
def zisR (ty : FieldType) : Bool := match ty with
  | .object _ => true
  | .array _ => true
  | _ => false
theorem zfv_R {M : zM} {a : Nat} {ty : FieldType} {j : Int} (h : zisR ty = true) : zfv M a ty j = va_rf (zR M a j) := by
  cases ty <;> first | rfl | cases h
theorem z_getR {idx tg n a : Nat} {j : Int} {ty : FieldType} {fin : Bool} (hf : zFl own idx tg j n ty fin) (hty : zisR ty = true) (hd : decode cc pc = .ok (.getfield idx, 3)) (hK : zK M a = (tg, n)) (h : zZ cc own nm nL E R X Q (pc + 3) Lc (vR (zR M a j) :: S) M ce sl) : zZ cc own nm nL E R X Q pc Lc (vR (some a) :: S) M ce sl := z_get (v := vR (zR M a j)) hf hd hK (by rw [zfv_R hty]; rfl) (fun _ => trivial) h
/-- a field is stored: the general row -/
theorem z_put {idx tg n a : Nat} {j : Int} {ty : FieldType} {fin : Bool} (hf : zFl own idx tg j n ty fin) (hfin : fin = false ∨ (nm = "<init>" ∧ (vwCl[tg - 1]?).map (fun q => q.1) = some own)) (hd : decode cc pc = .ok (.putfield idx, 3)) (hK : zK M a = (tg, n)) {v : zV} {M' : zM} (hn : narrow ty (zv v) = zv v) (hfit : fits ty (zv v) = true) (hv : zfv M' a ty j = zv v) (hK' : ∀ b, zK M' b = zK M b) (hs : zsz M' = zsz M) (ho : ∀ b, b ≠ a → zcell E.2.2.2 M' b = zcell E.2.2.2 M b) (h2 : ∀ (i : Nat) (t2 : FieldType), (i : Int) ≠ j → zfv M' a t2 i = zfv M a t2 i) (hok : zokM E M → zok v → zokM E M') (h : zZ cc own nm nL E R X Q (pc + 3) Lc S M' ce sl) : zZ cc own nm nL E R X Q pc Lc (v :: vR (some a) :: S) M ce sl := by
  intro hSt hM hS hL H locs ls hR hV hls
  obtain ⟨C, T, k, hc, ht, hj, hk, hin, hlink, hty, htys, hnms, hff, hfo⟩ := hf
  obtain ⟨a1, a2⟩ := zokM_at hM hK ht.1
  have he := zws_get (cA := E.2.2.2) a1 a2
  rw [zcell_obj hK ht.2] at he
  have hM' := hok hM (zokS_hd hS)
  have hset : (zobj M a (tg - 1) n).set k (zv v) = zobj M' a (tg - 1) n := zobj_set hk (by rw [hty, ← hj]; exact hv) (fun i t2 hi => h2 i t2 (by rw [hj]; omega))
  have hcell : zcell E.2.2.2 M' a = .inr (tg - 1, zobj M' a (tg - 1) n) := zcell_obj (by rw [hK', hK]) ht.2
  have kk : ∀ (H1 : Heap) (locs1 : List Loc), va_P E.2.2.1 vwCl ((zws E.2.1 E.2.2.2 M).set (a - E.2.1) (a, .inr (tg - 1, (zobj M a (tg - 1) n).set k (zv v)))) H1 → va_D (fun q => E.2.1 ≤ q) ((zws E.2.1 E.2.2.2 M).set (a - E.2.1) (a, .inr (tg - 1, (zobj M a (tg - 1) n).set k (zv v)))) → va_S (fun q => E.2.1 ≤ q) (xs X).heap H1 locs1 → H1.size = H.size → W (xp X) E.1 (xe X) R (xs X) (xm X) (xa X) (xb X) (xh X) (xc X) H1 locs1 ce sl Q (F0 (xm X) (pc + 3) ls (S.map zv)) := by
    intro H1 locs1 hP1 hD1 hS1 hz
    rw [hset, ← hcell, zws_set a1 a2 hs ho] at hP1
    exact h hSt hM' (zokS_tl (zokS_tl hS)) hL H1 locs1 ls ⟨by rw [hz, hs]; exact hR.1, by rw [hs]; exact hR.2.1, hP1⟩ hS1 hls
  have hap := va_apart (own := own) hSt.2.2.2.2.1 hin (zfty (tg - 1)) htys hnms hSt.2.2.2.2.2.1.1 hc
  obtain ⟨r, h1, cell, q1, q2, q3, q4⟩ := hR.2.2 _ _ he
  have hr : r = (C, T, n) := Option.some.inj (h1.symm.trans hc)
  subst hr
  obtain ⟨hSl, hfc, kC, hkC, hkind⟩ := hSt.2.2.2.2.2.1.1.1 (tg - 1) _ hc
  obtain ⟨cf, kf, fi, f, hi, hsl⟩ := hSl k hk
  have hlay := hSt.2.2.2.2.1 _ (hin _ (u_in_lay hk))
  unfold u_lay at hlay
  have hst := (u_facts hfc hkC (u_lays hSt.2.2.2.2.1 hin hk) hi).1
  have hdt : parseFieldDescriptor (T k).2.2.1 = some ty := by rw [htys k hk, hty]
  have fin2 : ∀ H' : Heap, H'[a]? = some (cell.setSlot (E.2.2.1.2 (tg - 1) k) (zv v)) → H'.size = H.size → (∀ q, q ≠ a → H'[q]? = H[q]?) → ∀ fs : Nat, W (xp X) E.1 (xe X) R (xs X) (xm X) (xa X) (xb X) (xh X) (xc X) H' (locs ++ [⟨a, fs⟩]) ce sl Q (F0 (xm X) (pc + 3) ls (S.map zv)) := by
    intro H' e1 e2 e3 fs
    exact kk H' _ (hR.2.2.set zws_D he ⟨_, hc, t_OB.to (V := updV (vp_V (zobj M a (tg - 1) n)) k (zv v)) ⟨_, e1, q2, q3, t_set q4 hap hk (zv v)⟩ (fun i _ => vp_updV_set (by rw [zobj_len]; exact hk) (zv v) i)⟩ e3) (zws_D.set he) (hV.put e2 e3 a1) e2
  cases fin with
  | false =>
    rw [if_neg (by rw [hff]; decide)] at hlay
    have h6 := u_store hfc hkC hkind hlay hi hdt hn hfit
    refine W.putK hSt.1 hSt.2.1 (f := f) ⟨hSt.2.2.2.1, hSt.2.2.2.2.1 _ hlink, ⟨_, _, _, hi⟩, hst⟩ (by rw [q2]; exact h6) q1 q3 (by rw [hsl]; exact k2_hasslot (q4 k hk)) rfl rfl hd fun H' e1 e2 e3 => ?_
    rw [hsl] at e1 ⊢
    exact fin2 H' e1 e2 e3 _
  | true =>
    rw [if_pos hff] at hlay
    have hin2 : (xh X).name = "<init>" := by
      rcases hfin with e | e
      · cases e
      · rw [hSt.2.2.2.2.2.2.2.2]; exact e.1
    have hfo2 : (T k).1 = own := by
      rcases hfin with e | e
      · cases e
      · have e2 := e.2
        rw [hc] at e2
        rw [hfo]
        exact Option.some.inj e2
    have hcf : (xm X).cls = cf := by
      obtain ⟨_, _, c', _, _, _, -, -, hf', -, -, -, hown2, -⟩ := Cond.laysFinal_spec hlay
      have e1 : c' = cf := by have := hi.symm.trans hf'; simp at this; exact this.1.symm
      rw [hfo2] at hown2
      rw [← e1]; exact Option.some.inj (hSt.2.2.2.1.symm.trans hown2)
    have h6 := u_fits hfc hkC hkind (Or.inr hlay) hi hdt hn hfit
    refine W.putFinK hSt.1 hSt.2.1 hSt.2.2.2.1 (hSt.2.2.2.2.1 _ hlink) hi hst hcf hin2 (by rw [q2]; exact h6) q1 q3 (by rw [hsl]; exact k2_hasslot (q4 k hk)) rfl rfl hd fun H' e1 e2 e3 => ?_
    rw [hsl] at e1 ⊢
    exact fin2 H' e1 e2 e3 _
theorem z_putI {idx tg n a : Nat} {j x : Int} {fin : Bool} (hf : zFl own idx tg j n .int fin) (hfin : fin = false ∨ (nm = "<init>" ∧ (vwCl[tg - 1]?).map (fun q => q.1) = some own)) (hd : decode cc pc = .ok (.putfield idx, 3)) (hK : zK M a = (tg, n)) (h : zZ cc own nm nL E R X Q (pc + 3) Lc S (zsI M a j x) ce sl) : zZ cc own nm nL E R X Q pc Lc (vI x :: vR (some a) :: S) M ce sl :=
  z_put (v := vI x) (M' := zsI M a j x) hf hfin hd hK rfl rfl (by simp only [zfv, zI_sI, and_self, if_true]; rfl) (fun _ => rfl) rfl (fun _ hb => zcell_sI hb) (fun i t2 hi => by simp only [zfv, zI_sI, zL_sI, zR_sI, hi, and_false, if_false]) (fun hM hx => zokM_sI hM hx) h
theorem z_putL {idx tg n a : Nat} {j : Int} {x : Int64} {fin : Bool} (hf : zFl own idx tg j n .long fin) (hfin : fin = false ∨ (nm = "<init>" ∧ (vwCl[tg - 1]?).map (fun q => q.1) = some own)) (hd : decode cc pc = .ok (.putfield idx, 3)) (hK : zK M a = (tg, n)) (h : zZ cc own nm nL E R X Q (pc + 3) Lc S (zsL M a j x) ce sl) : zZ cc own nm nL E R X Q pc Lc (vL x :: vR (some a) :: S) M ce sl :=
  z_put (v := vL x) (M' := zsL M a j x) hf hfin hd hK rfl rfl (by simp only [zfv, zL_sL, and_self, if_true]; rfl) (fun _ => rfl) rfl (fun _ hb => zcell_sL hb) (fun i t2 hi => by simp only [zfv, zI_sL, zL_sL, zR_sL, hi, and_false, if_false]) (fun hM _ => zokM_sL hM) h
theorem z_putR {idx tg n a : Nat} {j : Int} {x : Option Nat} {ty : FieldType} {fin : Bool} (hf : zFl own idx tg j n ty fin) (hty : zisR ty = true) (hfin : fin = false ∨ (nm = "<init>" ∧ (vwCl[tg - 1]?).map (fun q => q.1) = some own)) (hd : decode cc pc = .ok (.putfield idx, 3)) (hK : zK M a = (tg, n)) (h : zZ cc own nm nL E R X Q (pc + 3) Lc S (zsR M a j x) ce sl) : zZ cc own nm nL E R X Q pc Lc (vR x :: vR (some a) :: S) M ce sl :=
  z_put (v := vR x) (M' := zsR M a j x) hf hfin hd hK (by cases ty <;> first | (cases x <;> rfl) | cases hty) (by cases ty <;> first | (cases x <;> rfl) | cases hty) (by rw [zfv_R hty, zR_sR, if_pos ⟨rfl, rfl⟩]; rfl) (fun _ => rfl) rfl (fun _ hb => zcell_sR hb) (fun i t2 hi => by simp only [zfv, zI_sR, zL_sR, zR_sR, hi, and_false, if_false]) (fun hM _ => zokM_sR hM) h
end ZM
