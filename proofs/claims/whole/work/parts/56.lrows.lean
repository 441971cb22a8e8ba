/-! ===== the law: the rows of its own ===== -/
def lwS (E : zE) (X : zX) (b L : Nat) (sc : Nat → Int32) : Prop := va_X b L sc (xs X) (xs X).heap ∧ b < (xs X).heap.size ∧ E.2.1 = (xs X).heap.size ∧ L ≤ 2048
def scv (sc : Nat → Int32) (i : Int) : Int := (sc i.toNat).toInt
section LR
variable {cc : ByteArray} {own nm : String} {nL : Nat} {E : zE} {R : Room} {X : zX} {Q : State → Prop} {pc : Nat} {Lc : List (Nat × zV)} {S : List zV} {M : zM} {ce sl : Nat}
theorem zin_i32 (v : Int32) : zin v.toInt := by
  have h1 := v.toInt_lt
  have h2 := v.le_toInt
  unfold zin
  omega
theorem z_sld {b L : Nat} {sc : Nat → Int32} (hs : lwS E X b L sc) {i : Int} (i0 : 0 ≤ i) (i1 : i < L) (hd : decode cc pc = .ok (.iaload, 1)) (h : zZ cc own nm nL E R X Q (pc + 1) Lc (vI (scv sc i) :: S) M ce sl) : zZ cc own nm nL E R X Q pc Lc (vI i :: vR (some b) :: S) M ce sl := by
  intro hSt hM hS hL H locs ls hR hV hls
  have hz : zin i := zokS_hd hS
  obtain ⟨h1, h2, h3, h4⟩ := hs
  refine va_sld hSt.1 hSt.2.1 h1 h2 (A := fun q => E.2.1 ≤ q) (by show ¬ E.2.1 ≤ b; omega) hV (zi_in hz i0 i1) hd ?_
  have e : Value.int (sc (Int32.ofInt i).toNatClampNeg) = zv (vI (scv sc i)) := by
    show _ = Value.int (Int32.ofInt (sc i.toNat).toInt)
    rw [zi_nat i0 hz, Int32.ofInt_toInt]
  rw [e]
  exact h hSt hM (zokS_cons (zin_i32 _) (zokS_tl (zokS_tl hS))) hL H locs ls hR hV hls
theorem z_slen {b L : Nat} {sc : Nat → Int32} (hs : lwS E X b L sc) (hd : decode cc pc = .ok (.arraylength, 1)) (h : zZ cc own nm nL E R X Q (pc + 1) Lc (vI (L : Int) :: S) M ce sl) : zZ cc own nm nL E R X Q pc Lc (vR (some b) :: S) M ce sl := by
  intro hSt hM hS hL H locs ls hR hV hls
  obtain ⟨h1, h2, h3, h4⟩ := hs
  refine va_slen hSt.1 hSt.2.1 h1 h2 (A := fun q => E.2.1 ≤ q) (by show ¬ E.2.1 ≤ b; omega) hV hd ?_
  have e : Value.int (Int32.ofNat L) = zv (vI (L : Int)) := by
    show _ = Value.int (Int32.ofInt (L : Int))
    rw [zi_of_nat]
    rfl
  rw [e]
  exact h hSt hM (zokS_cons (by show zin _; unfold zin; omega) (zokS_tl hS)) hL H locs ls hR hV hls
theorem z_iandA {x y : Int} (hd : decode cc pc = .ok (.iand, 1)) (h : ∀ r : Int, zZ cc own nm nL E R X Q (pc + 1) Lc (vI r :: S) M ce sl) : zZ cc own nm nL E R X Q pc Lc (vI y :: vI x :: S) M ce sl := by
  intro hSt hM hS hL H locs ls hR hV hls
  refine lv_iand hSt.1 hSt.2.1 hd ?_
  have e : Value.int (Int32.ofInt x &&& Int32.ofInt y) = zv (vI (Int32.ofInt x &&& Int32.ofInt y).toInt) := by
    show _ = Value.int (Int32.ofInt _)
    rw [Int32.ofInt_toInt]
  rw [e]
  exact h _ hSt hM (zokS_cons (zin_i32 _) (zokS_tl (zokS_tl hS))) hL H locs ls hR hV hls
theorem z_wid {ce' sl' : Nat} (h1 : ce ≤ ce') (h2 : sl ≤ sl') (h : zZ cc own nm nL E R X Q pc Lc S M ce' sl') : zZ cc own nm nL E R X Q pc Lc S M ce sl := by
  intro hSt hM hS hL H locs ls hR hV hls
  exact W.widen h1 h2 (h hSt hM hS hL H locs ls hR hV hls)
theorem y_Vi {f : zF} {mc ms idx n b tg nf : Nat} {as St : List zV} {P : Int → zM → Prop} (hm : zMV own idx f n tg nf) (hd : decode cc pc = .ok (.invokevirtual idx, 3)) (hC : zCi E f 40 mc ms (vR (some b) :: as) M P) (hK : zK M b = (tg, nf)) (hn : as.length = n) (hst : as.reverse ++ vR (some b) :: S = St) (hcat : (S.map zcat).sum ≤ 8) (hc : ce + mc ≤ 600000) (hs : sl + ms ≤ 7302250)
    (h : ∀ r M', P r M' → zZ cc own nm nL E room_1 X Q (pc + 3) Lc (vI r :: S) M' (ce + mc) (sl + ms)) : zZ cc own nm nL E room_1 X Q pc Lc St M ce sl := by
  obtain ⟨h1, h2, T, h3⟩ := hm
  have h20 := h1.2.2.2
  exact z_callV hC h1 h2 hd h3 hK hn hst hcat (by decide) (by show 8 + (f.2.2.1 + 11) + 40 * 40 ≤ 84000; omega) hc hs (fun v M' ⟨r, e, hp⟩ => by subst e; exact h r M' hp)
theorem y_Iv {f : zF} {mc ms idx n b : Nat} {as St : List zV} {P : zM → Prop} (hm : zMI own idx f n) (hd : decode cc pc = .ok (.invokespecial idx, 3)) (hC : zCv E f 40 mc ms (vR (some b) :: as) M P) (hn : as.length = n) (hst : as.reverse ++ vR (some b) :: S = St) (hcat : (S.map zcat).sum ≤ 8) (hc : ce + mc ≤ 600000) (hs : sl + ms ≤ 7302250)
    (h : ∀ M', P M' → zZ cc own nm nL E room_1 X Q (pc + 3) Lc S M' (ce + mc) (sl + ms)) : zZ cc own nm nL E room_1 X Q pc Lc St M ce sl := by
  obtain ⟨h1, h2, h3, h4, h5 | ⟨host, h5⟩⟩ := hm
  · have h20 := h1.2.2.2
    exact z_callI hC h1 h2 h3 ⟨h5, h4⟩ hd hn hst hcat (by decide) (by show 8 + (f.2.2.1 + 11) + 40 * 40 ≤ 84000; omega) hc hs (fun v M' ⟨e, hp⟩ => by subst e; exact h M' hp)
  · have h20 := h1.2.2.2
    exact z_callIN hC h1 h2 h3 ⟨h5, h4⟩ hd hn hst hcat (by decide) (by show 8 + (f.2.2.1 + 11) + 40 * 40 ≤ 84000; omega) hc hs (fun v M' ⟨e, hp⟩ => by subst e; exact h M' hp)
theorem y_end {b : Nat} (hr : (xh X).sig.returnType = ret) (ha : xa X = #[Value.ref b]) (hN : E.2.1 = (xs X).heap.size) (hd : decode cL_law pc = .ok (.ireturn, 1)) (hc : ce ≤ 600000) (hs : sl ≤ 7302250) : zZ cL_law own nm nL E room_1 X (lw_Z (xb X) #[Value.ref b] (xs X)) pc Lc [vI 1] M ce sl := by
  intro hSt hM hS hL H locs ls hR hV hls
  refine va_forget (fun q hq => by have := hV.2.2 q hq; omega) ?_
  refine W.widen hc hs ?_
  rw [ha]
  exact lw_ret hSt.1 hSt.2.1 hr hSt.2.2.2.2.2.2.1 hd
end LR
