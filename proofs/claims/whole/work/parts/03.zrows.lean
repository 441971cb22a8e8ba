/-! ===== the judgement and its rows ===== -/
def zT : List Cond := lw_tbl.filter goodWord
theorem zT_good {c : Cond} (h : c ∈ zT) : GoodIn zT (c :: zT) := by
  have key : ∀ w ∈ zT, w ∈ zT ∧ ((w.onTables && w.keeps) = true ∨ ∃ ty, w = .arrayClass ty) := fun w hw => ⟨hw, good_of_word (List.mem_filter.mp hw).2⟩
  intro w hw
  rcases List.mem_cons.mp hw with e | e
  · rw [e]; exact key c h
  · exact key w e
theorem zT_of {c : Cond} (i : Nat) (h : lw_tbl[i]? = some c) (g : goodWord c = true) : c ∈ zT := List.mem_filter.mpr ⟨List.mem_of_getElem? h, g⟩
def zAOA (U : State) : Prop := ∃ (comp c : ClassId) (k : Class), U.vm.findClass "[I" = some comp ∧ (U.vm.classes.findIdx? fun (x : Class) => match x.kind with | .array component _ => component == comp | _ => false) = some c ∧ U.vm.classes[c]? = some k ∧ k.kind = .array comp (.array .int) ∧ U.vm.findClass "[[I" = some c
/-- the words on nest mates, which are carried -/
def zNest : List (String × Nat × MethodName × String) := [(RX6, 9, yX1_init, "RefitYard"), (RX6, 18, yX2_init, "RefitYard"), (RX6, 25, yX0_init, "RefitYard")]
def zNN (U : State) : Prop := ∀ q ∈ zNest, va_Nw (.methodLinkNest q.1 q.2.1 q.2.2.1 q.2.2.2) U
def zKn (E : zE) (U : State) : Prop := va_K E.2.2.1 vwCl (ztys E.2.2.2) U ∧ va_AO RX5 U ∧ zAOA U ∧ zNN U
abbrev xp (X : zX) : Program := X.1
abbrev xe (X : zX) : Env := X.2.1
abbrev xs (X : zX) : State := X.2.2.1
abbrev xm (X : zX) : MethodId := X.2.2.2.1
abbrev xa (X : zX) : Array Value := X.2.2.2.2.1
abbrev xb (X : zX) : List Frame := X.2.2.2.2.2.1
abbrev xh (X : zX) : Method := X.2.2.2.2.2.2.1
abbrev xc (X : zX) : Code := X.2.2.2.2.2.2.2
def zSt (cc : ByteArray) (own nm : String) (nL : Nat) (E : zE) (X : zX) : Prop :=
  (xp X).tables.exec = Jvm.exec ∧ (xc X).code = cc ∧ (xc X).maxLocals = nL ∧ (xs X).vm.findClass own = some (xm X).cls ∧ (∀ w ∈ zT, w.before (xa X) (xs X) = true) ∧ zKn E (xs X) ∧ (xh X).locks = false ∧ E.2.1 ≤ (xs X).heap.size ∧ (xh X).name = nm
def zZ (cc : ByteArray) (own nm : String) (nL : Nat) (E : zE) (R : Room) (X : zX) (Q : State → Prop) (pc : Nat) (Lc : List (Nat × zV)) (S : List zV) (M : zM) (ce sl : Nat) : Prop :=
  zSt cc own nm nL E X → zokM E M → zokS S → zokL Lc → ∀ (H : Heap) (locs : List Loc) (ls : Array Slot), zRel E M H → va_S (fun q => E.2.1 ≤ q) (xs X).heap H locs → lv_has ls nL (zlv Lc) →
    W (xp X) E.1 (xe X) R (xs X) (xm X) (xa X) (xb X) (xh X) (xc X) H locs ce sl Q (F0 (xm X) pc ls (S.map zv))
section ZR
variable {cc : ByteArray} {own nm : String} {nL : Nat} {E : zE} {R : Room} {X : zX} {Q : State → Prop} {pc : Nat} {Lc : List (Nat × zV)} {S : List zV} {M : zM} {ce sl : Nat}
/-! locals and constants -/
theorem z_iload_n {k : Fin 4} (pl : Nat) {x : Int} (hd : decode cc pc = .ok (.iload_n k, 1)) (hl : Lc[pl]? = some ((k : Nat), vI x)) (h : zZ cc own nm nL E R X Q (pc + 1) Lc (vI x :: S) M ce sl) : zZ cc own nm nL E R X Q pc Lc S M ce sl := by
  intro hSt hM hS hL H locs ls hR hV hls
  refine lv_iload_n hSt.1 hSt.2.1 hd rfl (lv_at hls pl (zlv_get hl)) ?_
  exact h hSt hM (zokS_cons (zokL_get hL hl) hS) hL H locs ls hR hV hls
theorem z_iload {i : Nat} (pl : Nat) {x : Int} (hd : decode cc pc = .ok (.iload i, 2)) (hl : Lc[pl]? = some (i, vI x)) (h : zZ cc own nm nL E R X Q (pc + 2) Lc (vI x :: S) M ce sl) : zZ cc own nm nL E R X Q pc Lc S M ce sl := by
  intro hSt hM hS hL H locs ls hR hV hls
  refine lv_iload hSt.1 hSt.2.1 hd (lv_at hls pl (zlv_get hl)) ?_
  exact h hSt hM (zokS_cons (zokL_get hL hl) hS) hL H locs ls hR hV hls
theorem z_lload_n {k : Fin 4} (pl : Nat) {x : Int64} (hd : decode cc pc = .ok (.lload_n k, 1)) (hl : Lc[pl]? = some ((k : Nat), vL x)) (h : zZ cc own nm nL E R X Q (pc + 1) Lc (vL x :: S) M ce sl) : zZ cc own nm nL E R X Q pc Lc S M ce sl := by
  intro hSt hM hS hL H locs ls hR hV hls
  refine lv_lload_n hSt.1 hSt.2.1 hd rfl (lv_at hls pl (zlv_get hl)) ?_
  exact h hSt hM (zokS_cons trivial hS) hL H locs ls hR hV hls
theorem z_lload {i : Nat} (pl : Nat) {x : Int64} (hd : decode cc pc = .ok (.lload i, 2)) (hl : Lc[pl]? = some (i, vL x)) (h : zZ cc own nm nL E R X Q (pc + 2) Lc (vL x :: S) M ce sl) : zZ cc own nm nL E R X Q pc Lc S M ce sl := by
  intro hSt hM hS hL H locs ls hR hV hls
  refine lv_lload hSt.1 hSt.2.1 hd (lv_at hls pl (zlv_get hl)) ?_
  exact h hSt hM (zokS_cons trivial hS) hL H locs ls hR hV hls
theorem z_aload_n {k : Fin 4} (pl : Nat) {x : Option Nat} (hd : decode cc pc = .ok (.aload_n k, 1)) (hl : Lc[pl]? = some ((k : Nat), vR x)) (h : zZ cc own nm nL E R X Q (pc + 1) Lc (vR x :: S) M ce sl) : zZ cc own nm nL E R X Q pc Lc S M ce sl := by
  intro hSt hM hS hL H locs ls hR hV hls
  have hk := h hSt hM (zokS_cons trivial hS) hL H locs ls hR hV hls
  have hg : ls[(k : Nat)]? = some (.val (va_rf x)) := lv_at hls pl (zlv_get hl)
  have hx := hSt.1
  have hb := hSt.2.1
  cases x with
  | some a => exact lv_aload_n hx hb hd rfl hg hk
  | none =>
    intro T hT Y
    obtain ⟨t, a, b⟩ := hk T hT Y
    refine ⟨t, ?_, b⟩
    jvm_step Y.here [Y.here.top, hx, hb, hd, hg, va_rf]
    exact ⟨rfl, a⟩
theorem z_aload {i : Nat} (pl : Nat) {x : Option Nat} (hd : decode cc pc = .ok (.aload i, 2)) (hl : Lc[pl]? = some (i, vR x)) (h : zZ cc own nm nL E R X Q (pc + 2) Lc (vR x :: S) M ce sl) : zZ cc own nm nL E R X Q pc Lc S M ce sl := by
  intro hSt hM hS hL H locs ls hR hV hls
  have hk := h hSt hM (zokS_cons trivial hS) hL H locs ls hR hV hls
  have hg : ls[i]? = some (.val (va_rf x)) := lv_at hls pl (zlv_get hl)
  have hx := hSt.1
  have hb := hSt.2.1
  cases x with
  | some a => exact lv_aload hx hb hd hg hk
  | none =>
    intro T hT Y
    obtain ⟨t, a, b⟩ := hk T hT Y
    refine ⟨t, ?_, b⟩
    jvm_step Y.here [Y.here.top, hx, hb, hd, hg, va_rf]
    exact ⟨rfl, a⟩
theorem z_istore_n {k : Fin 4} {x : Int} {Lc' : List (Nat × zV)} (hd : decode cc pc = .ok (.istore_n k, 1)) (hn : (k : Nat) < nL) (hl : zput (k : Nat) (vI x) Lc = Lc') (h : zZ cc own nm nL E R X Q (pc + 1) Lc' S M ce sl) : zZ cc own nm nL E R X Q pc Lc (vI x :: S) M ce sl := by
  subst hl
  intro hSt hM hS hL H locs ls hR hV hls
  refine lv_istore_n hSt.1 hSt.2.1 hd rfl hls hn (zlv_put _ (vI x) Lc) (fun ls' hls' => ?_)
  exact h hSt hM (zokS_tl hS) (zokL_put hL (zokS_hd hS)) H locs ls' hR hV hls'
theorem z_istore {i : Nat} {x : Int} {Lc' : List (Nat × zV)} (hd : decode cc pc = .ok (.istore i, 2)) (hn : i < nL) (hl : zput i (vI x) Lc = Lc') (h : zZ cc own nm nL E R X Q (pc + 2) Lc' S M ce sl) : zZ cc own nm nL E R X Q pc Lc (vI x :: S) M ce sl := by
  subst hl
  intro hSt hM hS hL H locs ls hR hV hls
  refine lv_istore hSt.1 hSt.2.1 hd hls hn (zlv_put _ (vI x) Lc) (fun ls' hls' => ?_)
  exact h hSt hM (zokS_tl hS) (zokL_put hL (zokS_hd hS)) H locs ls' hR hV hls'
theorem z_lstore_n {k : Fin 4} {x : Int64} {Lc' : List (Nat × zV)} (hd : decode cc pc = .ok (.lstore_n k, 1)) (hn : (k : Nat) + 1 < nL) (hl : zputL (k : Nat) (vL x) Lc = Lc') (h : zZ cc own nm nL E R X Q (pc + 1) Lc' S M ce sl) : zZ cc own nm nL E R X Q pc Lc (vL x :: S) M ce sl := by
  subst hl
  intro hSt hM hS hL H locs ls hR hV hls
  refine lv_lstore_n hSt.1 hSt.2.1 hd rfl hls hn (zlv_putL _ (vL x) Lc) (fun ls' hls' => ?_)
  exact h hSt hM (zokS_tl hS) (zokL_putL hL trivial) H locs ls' hR hV hls'
theorem z_lstore {i : Nat} {x : Int64} {Lc' : List (Nat × zV)} (hd : decode cc pc = .ok (.lstore i, 2)) (hn : i + 1 < nL) (hl : zputL i (vL x) Lc = Lc') (h : zZ cc own nm nL E R X Q (pc + 2) Lc' S M ce sl) : zZ cc own nm nL E R X Q pc Lc (vL x :: S) M ce sl := by
  subst hl
  intro hSt hM hS hL H locs ls hR hV hls
  refine lv_lstore hSt.1 hSt.2.1 hd hls hn (zlv_putL _ (vL x) Lc) (fun ls' hls' => ?_)
  exact h hSt hM (zokS_tl hS) (zokL_putL hL trivial) H locs ls' hR hV hls'
theorem z_astore_n {k : Fin 4} {x : Option Nat} {Lc' : List (Nat × zV)} (hd : decode cc pc = .ok (.astore_n k, 1)) (hn : (k : Nat) < nL) (hl : zput (k : Nat) (vR x) Lc = Lc') (h : zZ cc own nm nL E R X Q (pc + 1) Lc' S M ce sl) : zZ cc own nm nL E R X Q pc Lc (vR x :: S) M ce sl := by
  subst hl
  intro hSt hM hS hL H locs ls hR hV hls
  have hx := hSt.1
  have hb := hSt.2.1
  cases x with
  | some a =>
    refine lv_astore_n hx hb hd rfl hls hn (zlv_put _ (vR (some a)) Lc) (fun ls' hls' => ?_)
    exact h hSt hM (zokS_tl hS) (zokL_put hL trivial) H locs ls' hR hV hls'
  | none =>
    obtain ⟨ls', e', h'⟩ := lv_store1 (v := .null) hls hn rfl
    have hk := h hSt hM (zokS_tl hS) (zokL_put hL trivial) H locs ls' hR hV (by rw [← zlv_put]; exact h')
    intro T hT Y
    obtain ⟨t, a, b⟩ := hk T hT Y
    refine ⟨t, ?_, b⟩
    jvm_step Y.here [Y.here.top, hx, hb, hd, e', zv, va_rf]
    exact ⟨rfl, a⟩
theorem z_astore {i : Nat} {x : Option Nat} {Lc' : List (Nat × zV)} (hd : decode cc pc = .ok (.astore i, 2)) (hn : i < nL) (hl : zput i (vR x) Lc = Lc') (h : zZ cc own nm nL E R X Q (pc + 2) Lc' S M ce sl) : zZ cc own nm nL E R X Q pc Lc (vR x :: S) M ce sl := by
  subst hl
  intro hSt hM hS hL H locs ls hR hV hls
  have hx := hSt.1
  have hb := hSt.2.1
  cases x with
  | some a =>
    refine lv_astore hx hb hd hls hn (zlv_put _ (vR (some a)) Lc) (fun ls' hls' => ?_)
    exact h hSt hM (zokS_tl hS) (zokL_put hL trivial) H locs ls' hR hV hls'
  | none =>
    obtain ⟨ls', e', h'⟩ := lv_store1 (v := .null) hls hn rfl
    have hk := h hSt hM (zokS_tl hS) (zokL_put hL trivial) H locs ls' hR hV (by rw [← zlv_put]; exact h')
    intro T hT Y
    obtain ⟨t, a, b⟩ := hk T hT Y
    refine ⟨t, ?_, b⟩
    jvm_step Y.here [Y.here.top, hx, hb, hd, e', zv, va_rf]
    exact ⟨rfl, a⟩
theorem z_iconst {n : Int} (hd : decode cc pc = .ok (.iconst n, 1)) (hn : -2147483648 ≤ n ∧ n ≤ 2147483647) (h : zZ cc own nm nL E R X Q (pc + 1) Lc (vI n :: S) M ce sl) : zZ cc own nm nL E R X Q pc Lc S M ce sl := by
  intro hSt hM hS hL H locs ls hR hV hls
  refine lv_iconst hSt.1 hSt.2.1 hd rfl ?_
  exact h hSt hM (zokS_cons hn hS) hL H locs ls hR hV hls
theorem z_bipush {n : Int} (hd : decode cc pc = .ok (.bipush n, 2)) (hn : -128 ≤ n ∧ n ≤ 127) (h : zZ cc own nm nL E R X Q (pc + 2) Lc (vI n :: S) M ce sl) : zZ cc own nm nL E R X Q pc Lc S M ce sl := by
  intro hSt hM hS hL H locs ls hR hV hls
  refine lv_bipush (v := Int32.ofInt n) hSt.1 hSt.2.1 hd ?_ ?_
  · rw [← Int32.toInt_inj, Int8.toInt_toInt32, Int8.toInt_ofInt_of_le (by omega) (by omega), zi_toInt (by unfold zin; omega)]
  · exact h hSt hM (zokS_cons (by show zin n; unfold zin; omega) hS) hL H locs ls hR hV hls
theorem z_sipush {n : Int} (hd : decode cc pc = .ok (.sipush n, 3)) (hn : -32768 ≤ n ∧ n ≤ 32767) (h : zZ cc own nm nL E R X Q (pc + 3) Lc (vI n :: S) M ce sl) : zZ cc own nm nL E R X Q pc Lc S M ce sl := by
  intro hSt hM hS hL H locs ls hR hV hls
  refine lv_sipush (v := Int32.ofInt n) hSt.1 hSt.2.1 hd ?_ ?_
  · rw [← Int32.toInt_inj, Int16.toInt_toInt32, Int16.toInt_ofInt_of_le (by omega) (by omega), zi_toInt (by unfold zin; omega)]
  · exact h hSt hM (zokS_cons (by show zin n; unfold zin; omega) hS) hL H locs ls hR hV hls
theorem z_ldc {idx : Nat} {v : Int32} {n : Int} (hd : decode cc pc = .ok (.ldc idx, 2)) (hc : Cond.constant own idx v ∈ zT) (hv : Int32.ofInt n = v) (hn : -2147483648 ≤ n ∧ n ≤ 2147483647) (h : zZ cc own nm nL E R X Q (pc + 2) Lc (vI n :: S) M ce sl) : zZ cc own nm nL E R X Q pc Lc S M ce sl := by
  subst hv
  intro hSt hM hS hL H locs ls hR hV hls
  refine lv_ldc hSt.1 hSt.2.1 hSt.2.2.2.1 (hSt.2.2.2.2.1 _ hc) hd ?_
  exact h hSt hM (zokS_cons hn hS) hL H locs ls hR hV hls
theorem z_ldc2 {idx : Nat} {v : Int64} (hd : decode cc pc = .ok (.ldc2_w idx, 3)) (hc : Cond.constantLong own idx v ∈ zT) (h : zZ cc own nm nL E R X Q (pc + 3) Lc (vL v :: S) M ce sl) : zZ cc own nm nL E R X Q pc Lc S M ce sl := by
  intro hSt hM hS hL H locs ls hR hV hls
  refine lv_ldc2 hSt.1 hSt.2.1 hSt.2.2.2.1 (hSt.2.2.2.2.1 _ hc) hd ?_
  exact h hSt hM (zokS_cons trivial hS) hL H locs ls hR hV hls
theorem z_lconst {n : Fin 2} {v : Int64} (hd : decode cc pc = .ok (.lconst n, 1)) (hv : Int64.ofNat (n : Nat) = v) (h : zZ cc own nm nL E R X Q (pc + 1) Lc (vL v :: S) M ce sl) : zZ cc own nm nL E R X Q pc Lc S M ce sl := by
  intro hSt hM hS hL H locs ls hR hV hls
  refine lv_lconst hSt.1 hSt.2.1 hd hv ?_
  exact h hSt hM (zokS_cons trivial hS) hL H locs ls hR hV hls
theorem z_null (hd : decode cc pc = .ok (.aconst_null, 1)) (h : zZ cc own nm nL E R X Q (pc + 1) Lc (vR none :: S) M ce sl) : zZ cc own nm nL E R X Q pc Lc S M ce sl := by
  intro hSt hM hS hL H locs ls hR hV hls
  refine lv_null hSt.1 hSt.2.1 hd ?_
  exact h hSt hM (zokS_cons trivial hS) hL H locs ls hR hV hls
theorem z_dup {v : zV} (hd : decode cc pc = .ok (.dup, 1)) (hc : zc2 v = false) (h : zZ cc own nm nL E R X Q (pc + 1) Lc (v :: v :: S) M ce sl) : zZ cc own nm nL E R X Q pc Lc (v :: S) M ce sl := by
  intro hSt hM hS hL H locs ls hR hV hls
  refine lv_dup hSt.1 hSt.2.1 hd ?_ ?_
  · rcases lv_cat (zv v) with e | e
    · exact e
    · exact absurd hc (by rw [← zv_cat, e]; decide)
  · exact h hSt hM (zokS_cons (zokS_hd hS) hS) hL H locs ls hR hV hls
/-! arithmetic -/
theorem z_iadd {x y : Int} (hd : decode cc pc = .ok (.iadd, 1)) (hz : zin (x + y)) (h : zZ cc own nm nL E R X Q (pc + 1) Lc (vI (x + y) :: S) M ce sl) : zZ cc own nm nL E R X Q pc Lc (vI y :: vI x :: S) M ce sl := by
  intro hSt hM hS hL H locs ls hR hV hls
  refine lv_iadd hSt.1 hSt.2.1 hd ?_
  rw [← Int32.ofInt_add]
  exact h hSt hM (zokS_cons hz (zokS_tl (zokS_tl hS))) hL H locs ls hR hV hls
theorem z_isub {x y : Int} (hd : decode cc pc = .ok (.isub, 1)) (hz : zin (x - y)) (h : zZ cc own nm nL E R X Q (pc + 1) Lc (vI (x - y) :: S) M ce sl) : zZ cc own nm nL E R X Q pc Lc (vI y :: vI x :: S) M ce sl := by
  intro hSt hM hS hL H locs ls hR hV hls
  refine lv_isub hSt.1 hSt.2.1 hd ?_
  rw [← Int32.ofInt_sub]
  exact h hSt hM (zokS_cons hz (zokS_tl (zokS_tl hS))) hL H locs ls hR hV hls
theorem z_imul {x y : Int} (hd : decode cc pc = .ok (.imul, 1)) (hz : zin (x * y)) (h : zZ cc own nm nL E R X Q (pc + 1) Lc (vI (x * y) :: S) M ce sl) : zZ cc own nm nL E R X Q pc Lc (vI y :: vI x :: S) M ce sl := by
  intro hSt hM hS hL H locs ls hR hV hls
  refine lv_imul hSt.1 hSt.2.1 hd ?_
  rw [← Int32.ofInt_mul]
  exact h hSt hM (zokS_cons hz (zokS_tl (zokS_tl hS))) hL H locs ls hR hV hls
theorem z_div_eq {x y : Int} (hx : zin x) (hy : zin y) (h0 : 0 < y) : Int32.ofInt x / Int32.ofInt y = Int32.ofInt (x.tdiv y) ∧ zin (x.tdiv y) := by
  have hr : zin (x.tdiv y) := by
    have h1 := Int.natAbs_tdiv_le_natAbs x y
    unfold zin at *
    by_cases hx0 : 0 ≤ x
    · have := Int.tdiv_nonneg hx0 (Int.le_of_lt h0)
      omega
    · have h2 : 0 ≤ (-x).tdiv y := Int.tdiv_nonneg (by omega) (by omega)
      rw [Int.neg_tdiv] at h2
      omega
  refine ⟨?_, hr⟩
  rw [← Int32.toInt_inj, Int32.toInt_div_of_ne_right _ _ (by
    rw [show (-1 : Int32) = Int32.ofInt (-1) from rfl, Ne, zi_inj hy (by unfold zin; omega)]
    omega), zi_toInt hx, zi_toInt hy, zi_toInt hr]
theorem z_idiv {x y : Int} (hd : decode cc pc = .ok (.idiv, 1)) (h0 : 0 < y) (h : zZ cc own nm nL E R X Q (pc + 1) Lc (vI (x.tdiv y) :: S) M ce sl) : zZ cc own nm nL E R X Q pc Lc (vI y :: vI x :: S) M ce sl := by
  intro hSt hM hS hL H locs ls hR hV hls
  have hx : zin x := zokS_hd (zokS_tl hS)
  have hy : zin y := zokS_hd hS
  obtain ⟨e, hr⟩ := z_div_eq hx hy h0
  refine lv_idiv hSt.1 hSt.2.1 hd ?_ ?_
  · rw [← zi_0, zi_inj hy zin_0]; omega
  · rw [e]
    exact h hSt hM (zokS_cons hr (zokS_tl (zokS_tl hS))) hL H locs ls hR hV hls
theorem z_irem {x y : Int} (hd : decode cc pc = .ok (.irem, 1)) (h0 : 0 < y) (h : zZ cc own nm nL E R X Q (pc + 1) Lc (vI (x.tmod y) :: S) M ce sl) : zZ cc own nm nL E R X Q pc Lc (vI y :: vI x :: S) M ce sl := by
  intro hSt hM hS hL H locs ls hR hV hls
  have hx : zin x := zokS_hd (zokS_tl hS)
  have hy : zin y := zokS_hd hS
  obtain ⟨e, hr⟩ := z_div_eq hx hy h0
  have hm : x - x.tdiv y * y = x.tmod y := by rw [Int.tmod_def, Int.mul_comm]
  have hz : zin (x.tmod y) := by
    have h1 := Int.tmod_lt_of_pos x h0
    have h2 : -y < x.tmod y := by
      have := Int.lt_tmod_of_pos x h0
      omega
    unfold zin at *
    omega
  refine lv_irem hSt.1 hSt.2.1 hd ?_ ?_
  · rw [← zi_0, zi_inj hy zin_0]; omega
  · rw [e, ← Int32.ofInt_mul, ← Int32.ofInt_sub, hm]
    exact h hSt hM (zokS_cons hz (zokS_tl (zokS_tl hS))) hL H locs ls hR hV hls
theorem z_iinc {i : Nat} {n : Int} (pl : Nat) {x : Int} {Lc' : List (Nat × zV)} (hd : decode cc pc = .ok (.iinc i n, 3)) (hk : Lc[pl]? = some (i, vI x)) (hn : i < nL) (hz : zin (x + n)) (hl : zput i (vI (x + n)) Lc = Lc') (h : zZ cc own nm nL E R X Q (pc + 3) Lc' S M ce sl) : zZ cc own nm nL E R X Q pc Lc S M ce sl := by
  subst hl
  intro hSt hM hS hL H locs ls hR hV hls
  refine lv_iinc (v := Int32.ofInt (x + n)) hSt.1 hSt.2.1 hd hls (zlv_get hk) (by rw [Int32.ofInt_add]) hn (zlv_put _ (vI (x + n)) Lc) (fun ls' hls' => ?_)
  exact h hSt hM hS (zokL_put hL hz) H locs ls' hR hV hls'
theorem z_land {x y : Int64} (hd : decode cc pc = .ok (.land, 1)) (h : zZ cc own nm nL E R X Q (pc + 1) Lc (vL (x &&& y) :: S) M ce sl) : zZ cc own nm nL E R X Q pc Lc (vL y :: vL x :: S) M ce sl := by
  intro hSt hM hS hL H locs ls hR hV hls
  refine lv_land hSt.1 hSt.2.1 hd ?_
  exact h hSt hM (zokS_cons trivial (zokS_tl (zokS_tl hS))) hL H locs ls hR hV hls
theorem z_lor {x y : Int64} (hd : decode cc pc = .ok (.lor, 1)) (h : zZ cc own nm nL E R X Q (pc + 1) Lc (vL (x ||| y) :: S) M ce sl) : zZ cc own nm nL E R X Q pc Lc (vL y :: vL x :: S) M ce sl := by
  intro hSt hM hS hL H locs ls hR hV hls
  refine lv_lor hSt.1 hSt.2.1 hd ?_
  exact h hSt hM (zokS_cons trivial (zokS_tl (zokS_tl hS))) hL H locs ls hR hV hls
theorem z_lxor {x y : Int64} (hd : decode cc pc = .ok (.lxor, 1)) (h : zZ cc own nm nL E R X Q (pc + 1) Lc (vL (x ^^^ y) :: S) M ce sl) : zZ cc own nm nL E R X Q pc Lc (vL y :: vL x :: S) M ce sl := by
  intro hSt hM hS hL H locs ls hR hV hls
  refine lv_lxor hSt.1 hSt.2.1 hd ?_
  exact h hSt hM (zokS_cons trivial (zokS_tl (zokS_tl hS))) hL H locs ls hR hV hls
/-! branches -/
theorem z_goto {off : Int} {tgt : Nat} (hd : decode cc pc = .ok (.goto off, 3)) (ht : (pc : Int) + off = (tgt : Int)) (h : zZ cc own nm nL E R X Q tgt Lc S M ce sl) : zZ cc own nm nL E R X Q pc Lc S M ce sl := by
  intro hSt hM hS hL H locs ls hR hV hls
  exact lv_goto hSt.1 hSt.2.1 hd ht (h hSt hM hS hL H locs ls hR hV hls)
theorem z_icmp_eq {x y off : Int} {tgt : Nat} (hd : decode cc pc = .ok (.if_icmp .eq off, 3)) (ht : (pc : Int) + off = (tgt : Int)) (h1 : x = y → zZ cc own nm nL E R X Q tgt Lc S M ce sl) (h2 : x ≠ y → zZ cc own nm nL E R X Q (pc + 3) Lc S M ce sl) : zZ cc own nm nL E R X Q pc Lc (vI y :: vI x :: S) M ce sl := by
  intro hSt hM hS hL H locs ls hR hV hls
  have hx : zin x := zokS_hd (zokS_tl hS)
  have hy : zin y := zokS_hd hS
  exact lv_icmp_eq hSt.1 hSt.2.1 hd ht (fun c => h1 ((zi_inj hx hy).mp c) hSt hM (zokS_tl (zokS_tl hS)) hL H locs ls hR hV hls) (fun c => h2 (fun e => c ((zi_inj hx hy).mpr e)) hSt hM (zokS_tl (zokS_tl hS)) hL H locs ls hR hV hls)
theorem z_icmp_ne {x y off : Int} {tgt : Nat} (hd : decode cc pc = .ok (.if_icmp .ne off, 3)) (ht : (pc : Int) + off = (tgt : Int)) (h1 : x ≠ y → zZ cc own nm nL E R X Q tgt Lc S M ce sl) (h2 : x = y → zZ cc own nm nL E R X Q (pc + 3) Lc S M ce sl) : zZ cc own nm nL E R X Q pc Lc (vI y :: vI x :: S) M ce sl := by
  intro hSt hM hS hL H locs ls hR hV hls
  have hx : zin x := zokS_hd (zokS_tl hS)
  have hy : zin y := zokS_hd hS
  refine lv_icmp_ne hSt.1 hSt.2.1 hd ht (fun c => h1 (fun e => c ((zi_inj hx hy).mpr e)) hSt hM (zokS_tl (zokS_tl hS)) hL H locs ls hR hV hls) (fun c => h2 ?_ hSt hM (zokS_tl (zokS_tl hS)) hL H locs ls hR hV hls)
  exact (zi_inj hx hy).mp c
theorem z_icmp_lt {x y off : Int} {tgt : Nat} (hd : decode cc pc = .ok (.if_icmp .lt off, 3)) (ht : (pc : Int) + off = (tgt : Int)) (h1 : x < y → zZ cc own nm nL E R X Q tgt Lc S M ce sl) (h2 : y ≤ x → zZ cc own nm nL E R X Q (pc + 3) Lc S M ce sl) : zZ cc own nm nL E R X Q pc Lc (vI y :: vI x :: S) M ce sl := by
  intro hSt hM hS hL H locs ls hR hV hls
  have hx : zin x := zokS_hd (zokS_tl hS)
  have hy : zin y := zokS_hd hS
  exact lv_icmp_lt hSt.1 hSt.2.1 hd ht (fun c => h1 ((zi_lt hx hy).mp c) hSt hM (zokS_tl (zokS_tl hS)) hL H locs ls hR hV hls) (fun c => h2 (Int.not_lt.mp fun e => c ((zi_lt hx hy).mpr e)) hSt hM (zokS_tl (zokS_tl hS)) hL H locs ls hR hV hls)
theorem z_icmp_ge {x y off : Int} {tgt : Nat} (hd : decode cc pc = .ok (.if_icmp .ge off, 3)) (ht : (pc : Int) + off = (tgt : Int)) (h1 : y ≤ x → zZ cc own nm nL E R X Q tgt Lc S M ce sl) (h2 : x < y → zZ cc own nm nL E R X Q (pc + 3) Lc S M ce sl) : zZ cc own nm nL E R X Q pc Lc (vI y :: vI x :: S) M ce sl := by
  intro hSt hM hS hL H locs ls hR hV hls
  have hx : zin x := zokS_hd (zokS_tl hS)
  have hy : zin y := zokS_hd hS
  exact lv_icmp_ge hSt.1 hSt.2.1 hd ht (fun c => h1 ((zi_le hy hx).mp c) hSt hM (zokS_tl (zokS_tl hS)) hL H locs ls hR hV hls) (fun c => h2 (Int.not_le.mp fun e => c ((zi_le hy hx).mpr e)) hSt hM (zokS_tl (zokS_tl hS)) hL H locs ls hR hV hls)
theorem z_icmp_gt {x y off : Int} {tgt : Nat} (hd : decode cc pc = .ok (.if_icmp .gt off, 3)) (ht : (pc : Int) + off = (tgt : Int)) (h1 : y < x → zZ cc own nm nL E R X Q tgt Lc S M ce sl) (h2 : x ≤ y → zZ cc own nm nL E R X Q (pc + 3) Lc S M ce sl) : zZ cc own nm nL E R X Q pc Lc (vI y :: vI x :: S) M ce sl := by
  intro hSt hM hS hL H locs ls hR hV hls
  have hx : zin x := zokS_hd (zokS_tl hS)
  have hy : zin y := zokS_hd hS
  exact lv_icmp_gt hSt.1 hSt.2.1 hd ht (fun c => h1 ((zi_lt hy hx).mp c) hSt hM (zokS_tl (zokS_tl hS)) hL H locs ls hR hV hls) (fun c => h2 (Int.not_lt.mp fun e => c ((zi_lt hy hx).mpr e)) hSt hM (zokS_tl (zokS_tl hS)) hL H locs ls hR hV hls)
theorem z_icmp_le {x y off : Int} {tgt : Nat} (hd : decode cc pc = .ok (.if_icmp .le off, 3)) (ht : (pc : Int) + off = (tgt : Int)) (h1 : x ≤ y → zZ cc own nm nL E R X Q tgt Lc S M ce sl) (h2 : y < x → zZ cc own nm nL E R X Q (pc + 3) Lc S M ce sl) : zZ cc own nm nL E R X Q pc Lc (vI y :: vI x :: S) M ce sl := by
  intro hSt hM hS hL H locs ls hR hV hls
  have hx : zin x := zokS_hd (zokS_tl hS)
  have hy : zin y := zokS_hd hS
  exact lv_icmp_le hSt.1 hSt.2.1 hd ht (fun c => h1 ((zi_le hx hy).mp c) hSt hM (zokS_tl (zokS_tl hS)) hL H locs ls hR hV hls) (fun c => h2 (Int.not_le.mp fun e => c ((zi_le hx hy).mpr e)) hSt hM (zokS_tl (zokS_tl hS)) hL H locs ls hR hV hls)
theorem z_if_eq {x off : Int} {tgt : Nat} (hd : decode cc pc = .ok (.ifCond .eq off, 3)) (ht : (pc : Int) + off = (tgt : Int)) (h1 : x = 0 → zZ cc own nm nL E R X Q tgt Lc S M ce sl) (h2 : x ≠ 0 → zZ cc own nm nL E R X Q (pc + 3) Lc S M ce sl) : zZ cc own nm nL E R X Q pc Lc (vI x :: S) M ce sl := by
  intro hSt hM hS hL H locs ls hR hV hls
  have hx : zin x := zokS_hd hS
  exact lv_if_eq hSt.1 hSt.2.1 hd ht (fun c => h1 ((zi_inj hx zin_0).mp (by rw [zi_0]; exact c)) hSt hM (zokS_tl hS) hL H locs ls hR hV hls) (fun c => h2 (fun e => c (by rw [← zi_0]; exact (zi_inj hx zin_0).mpr e)) hSt hM (zokS_tl hS) hL H locs ls hR hV hls)
theorem z_if_ne {x off : Int} {tgt : Nat} (hd : decode cc pc = .ok (.ifCond .ne off, 3)) (ht : (pc : Int) + off = (tgt : Int)) (h1 : x ≠ 0 → zZ cc own nm nL E R X Q tgt Lc S M ce sl) (h2 : x = 0 → zZ cc own nm nL E R X Q (pc + 3) Lc S M ce sl) : zZ cc own nm nL E R X Q pc Lc (vI x :: S) M ce sl := by
  intro hSt hM hS hL H locs ls hR hV hls
  have hx : zin x := zokS_hd hS
  exact lv_if_ne hSt.1 hSt.2.1 hd ht (fun c => h1 (fun e => c (by rw [← zi_0]; exact (zi_inj hx zin_0).mpr e)) hSt hM (zokS_tl hS) hL H locs ls hR hV hls) (fun c => h2 ((zi_inj hx zin_0).mp (by rw [zi_0]; exact c)) hSt hM (zokS_tl hS) hL H locs ls hR hV hls)
theorem z_if_lt {x off : Int} {tgt : Nat} (hd : decode cc pc = .ok (.ifCond .lt off, 3)) (ht : (pc : Int) + off = (tgt : Int)) (h1 : x < 0 → zZ cc own nm nL E R X Q tgt Lc S M ce sl) (h2 : 0 ≤ x → zZ cc own nm nL E R X Q (pc + 3) Lc S M ce sl) : zZ cc own nm nL E R X Q pc Lc (vI x :: S) M ce sl := by
  intro hSt hM hS hL H locs ls hR hV hls
  have hx : zin x := zokS_hd hS
  exact lv_if_lt hSt.1 hSt.2.1 hd ht (fun c => h1 ((zi_lt hx zin_0).mp (by rw [zi_0]; exact c)) hSt hM (zokS_tl hS) hL H locs ls hR hV hls) (fun c => h2 (Int.not_lt.mp fun e => c (by rw [← zi_0]; exact (zi_lt hx zin_0).mpr e)) hSt hM (zokS_tl hS) hL H locs ls hR hV hls)
theorem z_if_le {x off : Int} {tgt : Nat} (hd : decode cc pc = .ok (.ifCond .le off, 3)) (ht : (pc : Int) + off = (tgt : Int)) (h1 : x ≤ 0 → zZ cc own nm nL E R X Q tgt Lc S M ce sl) (h2 : 0 < x → zZ cc own nm nL E R X Q (pc + 3) Lc S M ce sl) : zZ cc own nm nL E R X Q pc Lc (vI x :: S) M ce sl := by
  intro hSt hM hS hL H locs ls hR hV hls
  have hx : zin x := zokS_hd hS
  exact lv_if_le hSt.1 hSt.2.1 hd ht (fun c => h1 ((zi_le hx zin_0).mp (by rw [zi_0]; exact c)) hSt hM (zokS_tl hS) hL H locs ls hR hV hls) (fun c => h2 (Int.not_le.mp fun e => c (by rw [← zi_0]; exact (zi_le hx zin_0).mpr e)) hSt hM (zokS_tl hS) hL H locs ls hR hV hls)
theorem z_ifnull {r : Option Nat} {off : Int} {tgt : Nat} (hd : decode cc pc = .ok (.ifnull off, 3)) (ht : (pc : Int) + off = (tgt : Int)) (h1 : r = none → zZ cc own nm nL E R X Q tgt Lc S M ce sl) (h2 : r ≠ none → zZ cc own nm nL E R X Q (pc + 3) Lc S M ce sl) : zZ cc own nm nL E R X Q pc Lc (vR r :: S) M ce sl := by
  intro hSt hM hS hL H locs ls hR hV hls
  cases r with
  | none => exact lv_ifnullN hSt.1 hSt.2.1 hd ht (h1 rfl hSt hM (zokS_tl hS) hL H locs ls hR hV hls)
  | some a => exact lv_ifnull hSt.1 hSt.2.1 hd (h2 (fun e => by cases e) hSt hM (zokS_tl hS) hL H locs ls hR hV hls)
theorem z_ifnonnull {r : Option Nat} {off : Int} {tgt : Nat} (hd : decode cc pc = .ok (.ifnonnull off, 3)) (ht : (pc : Int) + off = (tgt : Int)) (h1 : r ≠ none → zZ cc own nm nL E R X Q tgt Lc S M ce sl) (h2 : r = none → zZ cc own nm nL E R X Q (pc + 3) Lc S M ce sl) : zZ cc own nm nL E R X Q pc Lc (vR r :: S) M ce sl := by
  intro hSt hM hS hL H locs ls hR hV hls
  cases r with
  | none => exact lv_ifnonnullN hSt.1 hSt.2.1 hd (h2 rfl hSt hM (zokS_tl hS) hL H locs ls hR hV hls)
  | some a => exact lv_ifnonnull hSt.1 hSt.2.1 hd ht (h1 (fun e => by cases e) hSt hM (zokS_tl hS) hL H locs ls hR hV hls)
theorem z_acmp_eq {rx ry : Option Nat} {off : Int} {tgt : Nat} (hd : decode cc pc = .ok (.if_acmp .eq off, 3)) (ht : (pc : Int) + off = (tgt : Int)) (h1 : rx = ry → zZ cc own nm nL E R X Q tgt Lc S M ce sl) (h2 : rx ≠ ry → zZ cc own nm nL E R X Q (pc + 3) Lc S M ce sl) : zZ cc own nm nL E R X Q pc Lc (vR ry :: vR rx :: S) M ce sl := by
  intro hSt hM hS hL H locs ls hR hV hls
  exact lv_acmp_eq hSt.1 hSt.2.1 hd ht (fun c => h1 c hSt hM (zokS_tl (zokS_tl hS)) hL H locs ls hR hV hls) (fun c => h2 c hSt hM (zokS_tl (zokS_tl hS)) hL H locs ls hR hV hls)
theorem z_acmp_ne {rx ry : Option Nat} {off : Int} {tgt : Nat} (hd : decode cc pc = .ok (.if_acmp .ne off, 3)) (ht : (pc : Int) + off = (tgt : Int)) (h1 : rx ≠ ry → zZ cc own nm nL E R X Q tgt Lc S M ce sl) (h2 : rx = ry → zZ cc own nm nL E R X Q (pc + 3) Lc S M ce sl) : zZ cc own nm nL E R X Q pc Lc (vR ry :: vR rx :: S) M ce sl := by
  intro hSt hM hS hL H locs ls hR hV hls
  exact lv_acmp_ne hSt.1 hSt.2.1 hd ht (fun c => h1 c hSt hM (zokS_tl (zokS_tl hS)) hL H locs ls hR hV hls) (fun c => h2 c hSt hM (zokS_tl (zokS_tl hS)) hL H locs ls hR hV hls)
theorem z_tableIn {dflt lo hi : Int} {offs : Array Int} {len : Nat} {x off : Int} {tgt : Nat} (hd : decode cc pc = .ok (.tableswitch dflt lo hi offs, len)) (k : Int) (hx : x = k) (h1 : ¬ k < lo) (h2 : ¬ hi < k) (ho : offs[(k - lo).toNat]? = some off) (ht : (pc : Int) + off = (tgt : Int)) (h : zZ cc own nm nL E R X Q tgt Lc S M ce sl) : zZ cc own nm nL E R X Q pc Lc (vI x :: S) M ce sl := by
  subst hx
  intro hSt hM hS hL H locs ls hR hV hls
  have hx : zin x := zokS_hd hS
  exact lv_tableIn hSt.1 hSt.2.1 hd (by rw [zi_toInt hx]; exact h1) (by rw [zi_toInt hx]; exact h2) (by rw [zi_toInt hx]; exact ho) ht (h hSt hM (zokS_tl hS) hL H locs ls hR hV hls)
theorem z_tableOut {dflt lo hi : Int} {offs : Array Int} {len : Nat} {x : Int} {tgt : Nat} (hd : decode cc pc = .ok (.tableswitch dflt lo hi offs, len)) (h0 : x < lo ∨ hi < x) (ht : (pc : Int) + dflt = (tgt : Int)) (h : zZ cc own nm nL E R X Q tgt Lc S M ce sl) : zZ cc own nm nL E R X Q pc Lc (vI x :: S) M ce sl := by
  intro hSt hM hS hL H locs ls hR hV hls
  have hx : zin x := zokS_hd hS
  exact lv_tableOut hSt.1 hSt.2.1 hd (by rw [zi_toInt hx]; exact h0) ht (h hSt hM (zokS_tl hS) hL H locs ls hR hV hls)
theorem z_lcmp {x y : Int64} (hd : decode cc pc = .ok (.lcmp, 1)) (h : zZ cc own nm nL E R X Q (pc + 1) Lc (vI (if y < x then 1 else if x = y then 0 else -1) :: S) M ce sl) : zZ cc own nm nL E R X Q pc Lc (vL y :: vL x :: S) M ce sl := by
  intro hSt hM hS hL H locs ls hR hV hls
  refine W.lcmp hSt.1 hSt.2.1 hd ?_
  have hz : zin (if y < x then 1 else if x = y then 0 else -1) := by
    unfold zin
    split
    · omega
    · split <;> omega
  have e : lg_cmp x y = Int32.ofInt (if y < x then 1 else if x = y then 0 else -1) := by
    unfold lg_cmp
    by_cases h1 : y < x
    · rw [if_pos h1, if_pos h1]; rfl
    · rw [if_neg h1, if_neg h1]
      by_cases h2 : x = y
      · rw [if_pos h2, if_pos h2]; rfl
      · rw [if_neg h2, if_neg h2]; rfl
  rw [e]
  exact h hSt hM (zokS_cons hz (zokS_tl (zokS_tl hS))) hL H locs ls hR hV hls
end ZR
