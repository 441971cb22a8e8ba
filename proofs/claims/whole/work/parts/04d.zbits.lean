/-! ===== bits, fewer locals, more ===== -/
theorem zi_of_nat (n : Nat) : Int32.ofInt (n : Int) = nI n := Int32.ofInt_eq_ofNat
theorem zi_and (a b : Nat) : nI a &&& nI b = nI (a &&& b) := by
  apply Int32.toBitVec_inj.1
  show BitVec.ofNat 32 a &&& BitVec.ofNat 32 b = BitVec.ofNat 32 (a &&& b)
  apply BitVec.eq_of_getLsbD_eq
  intro i hi
  simp [hi]
theorem zi_or (a b : Nat) : nI a ||| nI b = nI (a ||| b) := by
  apply Int32.toBitVec_inj.1
  show BitVec.ofNat 32 a ||| BitVec.ofNat 32 b = BitVec.ofNat 32 (a ||| b)
  apply BitVec.eq_of_getLsbD_eq
  intro i hi
  simp [hi]
def zand (x y : Int) : Int := ((x.toNat &&& y.toNat : Nat) : Int)
def zor (x y : Int) : Int := ((x.toNat ||| y.toNat : Nat) : Int)
def zshr (x y : Int) : Int := ((x.toNat >>> y.toNat : Nat) : Int)
def zpw (y : Int) : Int := ((2 ^ y.toNat : Nat) : Int)
def zbit (y : Int) : Int64 := (1 : Int64) <<< ((Int32.ofInt y).toInt64 &&& 63)
def zushr (x : Int64) (y : Int) : Int64 := (x.toUInt64 >>> ((Int32.ofInt y).toInt64.toUInt64 &&& Int64.toUInt64 63)).toInt64
theorem zand_le {x y : Int} (h : 0 ≤ x) : zand x y ≤ x := by
  unfold zand
  have := Nat.and_le_left (n := x.toNat) (m := y.toNat)
  omega
section ZB
variable {cc : ByteArray} {own nm : String} {nL : Nat} {E : zE} {R : Room} {X : zX} {Q : State → Prop} {pc : Nat} {Lc : List (Nat × zV)} {S : List zV} {M : zM} {ce sl : Nat}
theorem z_sub {Lc' : List (Nat × zV)} (ks : List Nat) (hl : ks.filterMap (fun k => Lc'[k]?) = Lc) (h : zZ cc own nm nL E R X Q pc Lc S M ce sl) : zZ cc own nm nL E R X Q pc Lc' S M ce sl := by
  subst hl
  intro hSt hM hS hL H locs ls hR hV hls
  have hm : ∀ q ∈ ks.filterMap (fun k => Lc'[k]?), q ∈ Lc' := fun q hq => by
    obtain ⟨k, -, hk⟩ := List.mem_filterMap.mp hq
    exact List.mem_of_getElem? hk
  refine h hSt hM hS (fun q hq => hL q (hm q hq)) H locs ls hR hV ⟨hls.1, hls.2.1, fun q hq => ?_⟩
  unfold zlv at hq
  obtain ⟨q', h1, rfl⟩ := List.mem_map.mp hq
  exact hls.2.2 _ (List.mem_map.mpr ⟨q', hm q' h1, rfl⟩)
theorem z_iand {x y : Int} (hd : decode cc pc = .ok (.iand, 1)) (hx0 : 0 ≤ x) (hy0 : 0 ≤ y) (h : zZ cc own nm nL E R X Q (pc + 1) Lc (vI (zand x y) :: S) M ce sl) : zZ cc own nm nL E R X Q pc Lc (vI y :: vI x :: S) M ce sl := by
  intro hSt hM hS hL H locs ls hR hV hls
  have hx : zin x := zokS_hd (zokS_tl hS)
  refine lv_iand hSt.1 hSt.2.1 hd ?_
  have e : Int32.ofInt x &&& Int32.ofInt y = Int32.ofInt (zand x y) := by
    unfold zand
    rw [zi_of_nat, ← zi_and, ← zi_of_nat, ← zi_of_nat, Int.toNat_of_nonneg hx0, Int.toNat_of_nonneg hy0]
  rw [e]
  refine h hSt hM (zokS_cons ?_ (zokS_tl (zokS_tl hS))) hL H locs ls hR hV hls
  show zin _
  have := zand_le (y := y) hx0
  have h0 : 0 ≤ zand x y := by unfold zand; omega
  unfold zin at *
  omega
theorem z_ior {x y : Int} (hd : decode cc pc = .ok (.ior, 1)) (hx0 : 0 ≤ x) (hy0 : 0 ≤ y) (h : zZ cc own nm nL E R X Q (pc + 1) Lc (vI (zor x y) :: S) M ce sl) : zZ cc own nm nL E R X Q pc Lc (vI y :: vI x :: S) M ce sl := by
  intro hSt hM hS hL H locs ls hR hV hls
  have hx : zin x := zokS_hd (zokS_tl hS)
  have hy : zin y := zokS_hd hS
  refine lv_ior hSt.1 hSt.2.1 hd ?_
  have e : Int32.ofInt x ||| Int32.ofInt y = Int32.ofInt (zor x y) := by
    unfold zor
    rw [zi_of_nat, ← zi_or, ← zi_of_nat, ← zi_of_nat, Int.toNat_of_nonneg hx0, Int.toNat_of_nonneg hy0]
  rw [e]
  refine h hSt hM (zokS_cons ?_ (zokS_tl (zokS_tl hS))) hL H locs ls hR hV hls
  show zin _
  have : x.toNat ||| y.toNat < 2 ^ 31 := Nat.or_lt_two_pow (by unfold zin at hx; omega) (by unfold zin at hy; omega)
  unfold zin zor
  omega
theorem z_ishl {y : Int} (hd : decode cc pc = .ok (.ishl, 1)) (hy0 : 0 ≤ y) (hy1 : y < 31) (h : zZ cc own nm nL E R X Q (pc + 1) Lc (vI (zpw y) :: S) M ce sl) : zZ cc own nm nL E R X Q pc Lc (vI y :: vI 1 :: S) M ce sl := by
  intro hSt hM hS hL H locs ls hR hV hls
  refine lv_ishl hSt.1 hSt.2.1 hd ?_
  obtain ⟨n, rfl⟩ : ∃ n : Nat, y = (n : Int) := ⟨y.toNat, by omega⟩
  have hn : n < 31 := by omega
  have key : ∀ k : Nat, k < 31 → Int32.ofInt 1 <<< (Int32.ofInt (k : Int) &&& 31) = Int32.ofInt (zpw (k : Int)) ∧ zin (zpw (k : Int)) := by
    unfold zin zpw
    decide +kernel
  rw [(key n hn).1]
  exact h hSt hM (zokS_cons (key n hn).2 (zokS_tl (zokS_tl hS))) hL H locs ls hR hV hls
/-- of small numbers alone -/
theorem z_ishr {x y : Int} (hd : decode cc pc = .ok (.ishr, 1)) (hx0 : 0 ≤ x) (hx1 : x < 8) (hy0 : 0 ≤ y) (hy1 : y < 3) (h : zZ cc own nm nL E R X Q (pc + 1) Lc (vI (zshr x y) :: S) M ce sl) : zZ cc own nm nL E R X Q pc Lc (vI y :: vI x :: S) M ce sl := by
  intro hSt hM hS hL H locs ls hR hV hls
  refine lv_ishr hSt.1 hSt.2.1 hd ?_
  obtain ⟨n, rfl⟩ : ∃ n : Nat, y = (n : Int) := ⟨y.toNat, by omega⟩
  obtain ⟨k, rfl⟩ : ∃ n : Nat, x = (n : Int) := ⟨x.toNat, by omega⟩
  have key : ∀ k : Nat, k < 8 → ∀ n : Nat, n < 3 → Int32.ofInt (k : Int) >>> (Int32.ofInt (n : Int) &&& 31) = Int32.ofInt (zshr (k : Int) (n : Int)) ∧ zin (zshr (k : Int) (n : Int)) := by
    unfold zin zshr
    decide +kernel
  rw [(key k (by omega) n (by omega)).1]
  exact h hSt hM (zokS_cons (key k (by omega) n (by omega)).2 (zokS_tl (zokS_tl hS))) hL H locs ls hR hV hls
theorem z_lshl {y : Int} (hd : decode cc pc = .ok (.lshl, 1)) (h : zZ cc own nm nL E R X Q (pc + 1) Lc (vL (zbit y) :: S) M ce sl) : zZ cc own nm nL E R X Q pc Lc (vI y :: vL 1 :: S) M ce sl := by
  intro hSt hM hS hL H locs ls hR hV hls
  refine lv_lshl hSt.1 hSt.2.1 hd rfl ?_
  exact h hSt hM (zokS_cons trivial (zokS_tl (zokS_tl hS))) hL H locs ls hR hV hls
theorem z_ladd {x y : Int64} (hd : decode cc pc = .ok (.ladd, 1)) (h : zZ cc own nm nL E R X Q (pc + 1) Lc (vL (x + y) :: S) M ce sl) : zZ cc own nm nL E R X Q pc Lc (vL y :: vL x :: S) M ce sl := by
  intro hSt hM hS hL H locs ls hR hV hls
  refine lv_ladd hSt.1 hSt.2.1 hd ?_
  exact h hSt hM (zokS_cons trivial (zokS_tl (zokS_tl hS))) hL H locs ls hR hV hls
theorem z_lsub {x y : Int64} (hd : decode cc pc = .ok (.lsub, 1)) (h : zZ cc own nm nL E R X Q (pc + 1) Lc (vL (x - y) :: S) M ce sl) : zZ cc own nm nL E R X Q pc Lc (vL y :: vL x :: S) M ce sl := by
  intro hSt hM hS hL H locs ls hR hV hls
  refine lv_lsub hSt.1 hSt.2.1 hd ?_
  exact h hSt hM (zokS_cons trivial (zokS_tl (zokS_tl hS))) hL H locs ls hR hV hls
theorem z_lushr {x : Int64} {y : Int} (hd : decode cc pc = .ok (.lushr, 1)) (h : zZ cc own nm nL E R X Q (pc + 1) Lc (vL (zushr x y) :: S) M ce sl) : zZ cc own nm nL E R X Q pc Lc (vI y :: vL x :: S) M ce sl := by
  intro hSt hM hS hL H locs ls hR hV hls
  refine lv_lushr hSt.1 hSt.2.1 hd rfl ?_
  exact h hSt hM (zokS_cons trivial (zokS_tl (zokS_tl hS))) hL H locs ls hR hV hls
theorem z_l2i {x : Int64} (hd : decode cc pc = .ok (.l2i, 1)) (h : zZ cc own nm nL E R X Q (pc + 1) Lc (vI x.toInt32.toInt :: S) M ce sl) : zZ cc own nm nL E R X Q pc Lc (vL x :: S) M ce sl := by
  intro hSt hM hS hL H locs ls hR hV hls
  refine lv_l2i (v := Int32.ofInt x.toInt32.toInt) hSt.1 hSt.2.1 hd (by rw [Int32.ofInt_toInt]) ?_
  refine h hSt hM (zokS_cons ?_ (zokS_tl hS)) hL H locs ls hR hV hls
  show zin _
  have h1 := x.toInt32.toInt_lt
  have h2 := x.toInt32.le_toInt
  unfold zin
  omega
theorem z_iandb {x y : Int} (hd : decode cc pc = .ok (.iand, 1)) (hb : (x = 0 ∨ x = 1) ∧ (y = 0 ∨ y = 1)) (h : zZ cc own nm nL E R X Q (pc + 1) Lc (vI (x * y) :: S) M ce sl) : zZ cc own nm nL E R X Q pc Lc (vI y :: vI x :: S) M ce sl := by
  refine z_iand hd (by omega) (by omega) ?_
  have e : zand x y = x * y := by
    rcases hb with ⟨rfl | rfl, rfl | rfl⟩ <;> rfl
  rw [e]
  exact h
theorem z_dup2 {v w : zV} (hd : decode cc pc = .ok (.dup2, 1)) (hv : zc2 v = false) (hw : zc2 w = false) (h : zZ cc own nm nL E R X Q (pc + 1) Lc (v :: w :: v :: w :: S) M ce sl) : zZ cc own nm nL E R X Q pc Lc (v :: w :: S) M ce sl := by
  have cat : ∀ u : zV, zc2 u = false → (zv u).category = 1 := fun u hu => by
    rcases lv_cat (zv u) with e | e
    · exact e
    · exact absurd hu (by rw [← zv_cat, e]; decide)
  intro hSt hM hS hL H locs ls hR hV hls
  refine lv_dup2_11 hSt.1 hSt.2.1 hd (cat v hv) (cat w hw) ?_
  exact h hSt hM (zokS_cons (zokS_hd hS) (zokS_cons (zokS_hd (zokS_tl hS)) hS)) hL H locs ls hR hV hls
theorem zr1 {d mc ms : Nat} : d + 1 ≤ (zrm (d + 1) mc ms).frames := Nat.le_refl _
theorem zr2 {d mc ms n : Nat} (h : n ≤ 20) : 8 + (n + 11) + 40 * d ≤ (zrm (d + 1) mc ms).locals := by
  show 8 + (n + 11) + 40 * d ≤ 40 * (d + 1)
  omega
theorem zr3 {d mc ms : Nat} : 1 ≤ (zrm (d + 1) mc ms).frames := by show 1 ≤ d + 1; omega
theorem zr4 {d mc ms : Nat} : 21 ≤ (zrm (d + 1) mc ms).locals := by show 21 ≤ 40 * (d + 1); omega
theorem zr5 {d mc ms : Nat} : 20 ≤ (zrm (d + 1) mc ms).locals := by show 20 ≤ 40 * (d + 1); omega
end ZB
/-! typed contracts -/
def zPi (P : Int → zM → Prop) : Option zV → zM → Prop := fun v M => ∃ r, v = some (vI r) ∧ P r M
def zPl (P : Int64 → zM → Prop) : Option zV → zM → Prop := fun v M => ∃ r, v = some (vL r) ∧ P r M
def zPr (P : Option Nat → zM → Prop) : Option zV → zM → Prop := fun v M => ∃ r, v = some (vR r) ∧ P r M
def zPv (P : zM → Prop) : Option zV → zM → Prop := fun v M => v = none ∧ P M
def zCi (E : zE) (f : zF) (d mc ms : Nat) (as : List zV) (M : zM) (P : Int → zM → Prop) : Prop := zCC E f d mc ms as M (zPi P)
def zCl (E : zE) (f : zF) (d mc ms : Nat) (as : List zV) (M : zM) (P : Int64 → zM → Prop) : Prop := zCC E f d mc ms as M (zPl P)
def zCr (E : zE) (f : zF) (d mc ms : Nat) (as : List zV) (M : zM) (P : Option Nat → zM → Prop) : Prop := zCC E f d mc ms as M (zPr P)
def zCv (E : zE) (f : zF) (d mc ms : Nat) (as : List zV) (M : zM) (P : zM → Prop) : Prop := zCC E f d mc ms as M (zPv P)
