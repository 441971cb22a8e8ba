/-! ===== contracts: start, return, call ===== -/
theorem zAOA_moved {u U : State} (hvm : u.vm.Alike U.vm) (h : zAOA u) : zAOA U := by
  obtain ⟨comp, c, k, h1, h2, h3, h4, h5⟩ := h
  obtain ⟨k', hk', he⟩ := hvm.2.2 _ _ h3
  have hi : (U.vm.classes.findIdx? fun (x : Class) => match x.kind with | .array component _ => component == comp | _ => false) = some c := by
    have a := va_idx_bare U.vm comp
    have b := va_idx_bare u.vm comp
    first | rw [hvm.bare_eq] at a | rw [← hvm.bare_eq] at a
    exact a.symm.trans (b.trans h2)
  exact ⟨comp, c, k', by rw [hvm.findClass]; exact h1, hi, hk', by rw [he]; exact h4, by rw [hvm.findClass]; exact h5⟩
theorem zKn_moved {E : zE} {u U : State} (hW : u.WarmedH U.vm) (h : zKn E u) : zKn E U := ⟨va_K.moved hW.alike h.1, va_AO.moved hW.alike h.2.1, zAOA_moved hW.alike h.2.2.1, fun q hq => va_Nw.warmM hW (h.2.2.2 q hq)⟩
theorem zKn_same {E : zE} {u U : State} (e : u.vm = U.vm) (h : zKn E u) : zKn E U := ⟨va_K.moved (by rw [e]; exact Vm.Alike.refl U.vm) h.1, va_AO.moved (by rw [e]; exact Vm.Alike.refl U.vm) h.2.1, zAOA_moved (by rw [e]; exact Vm.Alike.refl U.vm) h.2.2.1, fun q hq => va_Nw.same rfl e (h.2.2.2 q hq)⟩
def zrm (d mc ms : Nat) : Room := { frames := d, cells := mc, slots := ms, locals := 40 * d }
def zQc (E : zE) (P : Option zV → zM → Prop) : Array Value → State → Outcome → State → Prop := fun _ st oc t => (∃ (v : Option zV) (M' : zM), oc = .returned (v.map zv) ∧ P v M' ∧ zokM E M' ∧ (∀ w, v = some w → zok w) ∧ zRel E M' t.heap ∧ zKn E t) ∧ va_F (fun q => E.2.1 ≤ q) st t
def zPc (E : zE) (as : List zV) (M : zM) : Array Value → State → Prop := va_Pc (as.map zv) (fun U => zRel E M U.heap ∧ zKn E U)
def zCC (E : zE) (f : zF) (d mc ms : Nat) (as : List zV) (M : zM) (P : Option zV → zM → Prop) : Prop :=
  zokM E M → zokS as → Met E.1 f.1 (Cond.code f.1 f.2.1 f.2.2.1 f.2.2.2 :: zT) (zrm d mc ms) (zPc E as M) (zQc E P) mc ms (fun q => E.2.1 ≤ q)
def zQ (E : zE) (P : Option zV → zM → Prop) (X : zX) (mc ms : Nat) : State → Prop := MQ (xb X) (zQc E P) (xa X) (xs X) mc ms (fun q => E.2.1 ≤ q)
def zargs : Nat → List zV → List (Nat × zV)
  | _, [] => []
  | i, v :: vs => (i, v) :: zargs (if zc2 v then i + 2 else i + 1) vs
theorem zargs_eq (as : List zV) : ∀ i : Nat, lv_args i (as.map zv) = zlv (zargs i as) := by
  induction as with
  | nil => intro i; rfl
  | cons v vs ih =>
    intro i
    show (i, zv v) :: lv_args (if (zv v).category = 2 then i + 2 else i + 1) (vs.map zv) = (i, zv v) :: zlv (zargs (if zc2 v then i + 2 else i + 1) vs)
    rw [← zv_cat, ih]
    congr 2
    by_cases h : (zv v).category = 2
    · rw [if_pos h, if_pos (by rw [h]; rfl)]
    · rw [if_neg h, if_neg (by simpa using h)]
theorem zargs_ok {as : List zV} (h : zokS as) : ∀ i : Nat, zokL (zargs i as) := by
  induction as with
  | nil => intro i q hq; cases hq
  | cons v vs ih =>
    intro i q hq
    rcases List.mem_cons.mp hq with e | e
    · rw [e]; exact zokS_hd h
    · exact ih (zokS_tl h) _ q e
def zcat (v : zV) : Nat := match v with
  | .inr (.inl _) => 2
  | _ => 1
theorem zcat_eq (v : zV) : (zv v).category = zcat v := by
  rcases v with x | y | r
  · rfl
  · rfl
  · cases r <;> rfl
theorem zcat_sum (S : List zV) : ((S.map zv).map fun v => v.category).sum = (S.map zcat).sum := by
  rw [List.map_map]
  congr 1
  apply List.map_congr_left
  intro v _
  exact zcat_eq v
theorem zsl_len (as : List zV) : (lg_sl (as.map zv)).length = (as.map zcat).sum := by
  induction as with
  | nil => rfl
  | cons v vs ih =>
    rcases v with x | y | r
    · show (lg_sl (.int _ :: vs.map zv)).length = _
      simp only [lg_sl, List.map_cons, List.sum_cons, zcat, ← ih]
      simp [Value.category]
      try omega
    · show (lg_sl (.long _ :: vs.map zv)).length = _
      simp only [lg_sl, List.map_cons, List.sum_cons, zcat, ← ih]
      simp [Value.category]
      try omega
    · cases r with
      | none =>
        show (lg_sl (.null :: vs.map zv)).length = _
        simp only [lg_sl, List.map_cons, List.sum_cons, zcat, ← ih]
        simp [Value.category]
        try omega
      | some a =>
        show (lg_sl (.ref a :: vs.map zv)).length = _
        simp only [lg_sl, List.map_cons, List.sum_cons, zcat, ← ih]
        simp [Value.category]
        try omega
theorem z_start {E : zE} {f : zF} {d mc ms : Nat} {as : List zV} {M : zM} {P : Option zV → zM → Prop} (hy : plainName f.1.cls = true) (hlen : (as.map zcat).sum ≤ f.2.2.1) {Lc : List (Nat × zV)} (hLc : zargs 0 as = Lc)
    (h : ∀ X : zX, (xh X).sig.returnType = f.2.2.2 → zZ f.2.1 f.1.cls f.1.name f.2.2.1 E (zrm d mc ms) X (zQ E P X mc ms) 0 Lc [] M 0 0) : zCC E f d mc ms as M P := by
  subst hLc
  intro hM hS
  refine Met.ofW (cc := f.2.1) (maxL := f.2.2.1) (ret := f.2.2.2) hy rfl ?_
  intro p e s m args below meth c s₁ B hml hv
  obtain ⟨rfl, hR, hKn⟩ := hv
  have hts := atoms_spec (ws := Cond.code f.1 f.2.1 f.2.2.1 f.2.2.2 :: zT) B.pre
  have hown : s.vm.findClass f.1.cls = some m.cls := findClass_of_methodNamed B.named
  have hnm : meth.name = f.1.name := (name_of_methodNamed B.named B.method).1
  have hl := lv_entry (as.map zv) (n := f.2.2.1) (by rw [zsl_len]; exact hlen)
  rw [lg_entry_eq]
  generalize (lg_sl (as.map zv) ++ List.replicate (f.2.2.1 - (lg_sl (as.map zv)).length) Slot.unset).toArray = ls at hl ⊢
  rw [zargs_eq] at hl
  exact h (p, e, s, m, (as.map zv).toArray, below, meth, c) B.returns ⟨B.exec, B.bytes, hml, hown, fun w hw => hts w (List.mem_cons_of_mem _ hw), hKn, B.notSynchronized, by rw [hR.1]; exact hR.2.1, hnm⟩ hM zokS_nil (zargs_ok hS 0) s.heap [] ls hR va_S.rf hl
section ZC
variable {cc : ByteArray} {own nm : String} {nL : Nat} {E : zE} {R : Room} {X : zX} {Q : State → Prop} {pc : Nat} {Lc : List (Nat × zV)} {S : List zV} {M : zM} {ce sl : Nat}
theorem z_iret {P : Option zV → zM → Prop} {mc ms : Nat} {x : Int} (hr : (xh X).sig.returnType = some .int) (hd : decode cc pc = .ok (.ireturn, 1)) (hc : ce ≤ mc) (hs : sl ≤ ms) (h : P (some (vI x)) M) : zZ cc own nm nL E R X (zQ E P X mc ms) pc Lc [vI x] M ce sl := by
  intro hSt hM hS hL H locs ls hR hV hls
  refine W.widen (k := mc) (n := ms) hc hs ?_
  exact W.iret hSt.1 hSt.2.1 hr (fun t ht hW => ⟨⟨some (vI x), M, rfl, h, hM, fun w e => by cases e; exact zokS_hd hS, by rw [ht]; exact hR, zKn_moved hW hSt.2.2.2.2.2.1⟩, hV.F ht⟩) hV.2.2 hd hSt.2.2.2.2.2.2.1
theorem z_zret {P : Option zV → zM → Prop} {mc ms : Nat} {x : Int} (hr : (xh X).sig.returnType = some .boolean) (hd : decode cc pc = .ok (.ireturn, 1)) (hc : ce ≤ mc) (hs : sl ≤ ms) (hb01 : x = 0 ∨ x = 1) (h : P (some (vI x)) M) : zZ cc own nm nL E R X (zQ E P X mc ms) pc Lc [vI x] M ce sl := by
  intro hSt hM hS hL H locs ls hR hV hls
  refine W.widen (k := mc) (n := ms) hc hs ?_
  exact W.zret hSt.1 hSt.2.1 hr (by rcases hb01 with rfl | rfl <;> rfl) (fun t ht hW => ⟨⟨some (vI x), M, rfl, h, hM, fun w e => by cases e; exact zokS_hd hS, by rw [ht]; exact hR, zKn_moved hW hSt.2.2.2.2.2.1⟩, hV.F ht⟩) hV.2.2 hd hSt.2.2.2.2.2.2.1
theorem z_lret {P : Option zV → zM → Prop} {mc ms : Nat} {x : Int64} (hr : (xh X).sig.returnType = some .long) (hd : decode cc pc = .ok (.lreturn, 1)) (hc : ce ≤ mc) (hs : sl ≤ ms) (h : P (some (vL x)) M) : zZ cc own nm nL E R X (zQ E P X mc ms) pc Lc [vL x] M ce sl := by
  intro hSt hM hS hL H locs ls hR hV hls
  refine W.widen (k := mc) (n := ms) hc hs ?_
  exact W.lret hSt.1 hSt.2.1 hr (fun t ht hW => ⟨⟨some (vL x), M, rfl, h, hM, fun w e => by cases e; trivial, by rw [ht]; exact hR, zKn_moved hW hSt.2.2.2.2.2.1⟩, hV.F ht⟩) hV.2.2 hd (hlocks := hSt.2.2.2.2.2.2.1)
theorem z_aret {P : Option zV → zM → Prop} {mc ms : Nat} {x : Option Nat} {C : String} (hr : (xh X).sig.returnType = some (.object C)) (hd : decode cc pc = .ok (.areturn, 1)) (hc : ce ≤ mc) (hs : sl ≤ ms) (h : P (some (vR x)) M) : zZ cc own nm nL E R X (zQ E P X mc ms) pc Lc [vR x] M ce sl := by
  intro hSt hM hS hL H locs ls hR hV hls
  refine W.widen (k := mc) (n := ms) hc hs ?_
  exact W.aret hSt.1 hSt.2.1 hr (Or.inl ⟨C, rfl⟩) (by cases x with | none => exact Or.inl rfl | some a => exact Or.inr ⟨a, rfl⟩) (fun t ht hW => ⟨⟨some (vR x), M, rfl, h, hM, fun w e => by cases e; trivial, by rw [ht]; exact hR, zKn_moved hW hSt.2.2.2.2.2.1⟩, hV.F ht⟩) hV.2.2 hd hSt.2.2.2.2.2.2.1
theorem z_vret {P : Option zV → zM → Prop} {mc ms : Nat} (hr : (xh X).sig.returnType = none) (hd : decode cc pc = .ok (.return_, 1)) (hc : ce ≤ mc) (hs : sl ≤ ms) (h : P none M) : zZ cc own nm nL E R X (zQ E P X mc ms) pc Lc [] M ce sl := by
  intro hSt hM hS hL H locs ls hR hV hls
  refine W.widen (k := mc) (n := ms) hc hs ?_
  exact W.vret hSt.1 hSt.2.1 hr (fun t ht hW => ⟨⟨none, M, rfl, h, hM, (fun w e => by cases e), by rw [ht]; exact hR, zKn_moved hW hSt.2.2.2.2.2.1⟩, hV.F ht⟩) hV.2.2 hd hSt.2.2.2.2.2.2.1
/-! calls -/
theorem zPc_blind {as : List zV} : FrameBlind (zPc E as M) := fun a U g mk q => ⟨q.1, q.2.1, zKn_same (u := U) (U := U.calling g mk a) rfl q.2.2⟩
def zMm (f : zF) (n : Nat) : Prop := Cond.initialized f.1.cls ∈ zT ∧ Cond.code f.1 f.2.1 f.2.2.1 f.2.2.2 ∈ zT ∧ (f.1.cls ≠ "java/lang/invoke/MethodHandle" ∧ f.1.cls ≠ "java/lang/invoke/VarHandle" ∧ (parseMethodDescriptor f.1.desc).map (fun d => d.parameters.length) = some n) ∧ f.2.2.1 ≤ 20
theorem z_run {f : zF} {d mc ms : Nat} {as : List zV} {P : Option zV → zM → Prop} {H : Heap} {locs : List Loc} {ls : Array Slot} {St : List zV}
    (hrun : va_Run (xp X) E.1 (xe X) R (xs X) (xm X) (xa X) (xb X) (xh X) (xc X) H locs ce sl mc ms (F0 (xm X) pc ls (St.map zv)) (S.map zv) (zQc E P (as.map zv).toArray) (fun q => E.2.1 ≤ q))
    (hSt : zSt cc own nm nL E X) (hS : zokS S) (hL : zokL Lc) (hV : va_S (fun q => E.2.1 ≤ q) (xs X).heap H locs) (hls : lv_has ls nL (zlv Lc))
    (h : ∀ v M', P v M' → zZ cc own nm nL E R X Q (pc + 3) Lc (v.toList ++ S) M' (ce + mc) (sl + ms)) :
    W (xp X) E.1 (xe X) R (xs X) (xm X) (xa X) (xb X) (xh X) (xc X) H locs ce sl Q (F0 (xm X) pc ls (St.map zv)) := by
  intro T hT Y
  obtain ⟨v0, st₀, t, T', L, h0, Y', hLl, e1, e2, ⟨⟨v, M', hv, hp, hM', hok, hR', hKn'⟩, hz, hk⟩, st⟩ := hrun T hT Y
  have hv0 : v0 = v.map zv := by injection hv
  rw [h0] at hz hk
  have hS2 : zokS (v.toList ++ S) := by
    intro w hw
    rcases List.mem_append.mp hw with q | q
    · exact hok w (by simpa using q)
    · exact hS w q
  obtain ⟨t2, a1, b1⟩ := h v M' hp hSt hM' hS2 hL T'.heap (locs ++ L) ls (by rw [e1]; exact hR') ⟨Nat.le_trans hV.1 (by rw [e1]; exact hz), fun q h1 h2 => by rw [e1, hk q (Nat.lt_of_lt_of_le h1 hV.1) h2]; exact hV.2.1 q h1 h2, fun q hq => by
      rcases List.mem_append.mp hq with z | z
      · exact hV.2.2 q z
      · exact hLl q z⟩ hls T' rfl Y'
  refine ⟨t2, st t2 ?_, b1⟩
  have e : (v.toList ++ S).map zv = v0.toList ++ S.map zv := by
    rw [hv0, List.map_append]
    cases v <;> rfl
  rw [← e]
  exact a1
theorem z_callV {f : zF} {d mc ms idx n b tg nf : Nat} {T : u_T} {as St : List zV} {P : Option zV → zM → Prop} (hC : zCC E f d mc ms (vR (some b) :: as) M P) (hm : zMm f n) (hw : Cond.methodLink own idx f.1 ∈ zT ∧ Cond.instanceMethod f.1 ∈ zT ∧ Cond.selects f.1.cls f.1 f.1 ∈ zT) (hd : decode cc pc = .ok (.invokevirtual idx, 3)) (hcl : vwCl[tg - 1]? = some (f.1.cls, T, nf) ∧ 1 ≤ tg ∧ tg < 9) (hK : zK M b = (tg, nf)) (hn : as.length = n) (hst : as.reverse ++ vR (some b) :: S = St) (hcat : (S.map zcat).sum ≤ 8) (hR1 : d + 1 ≤ R.frames) (hR2 : 8 + (f.2.2.1 + 11) + 40 * d ≤ R.locals) (hc : ce + mc ≤ R.cells) (hs : sl + ms ≤ R.slots)
    (h : ∀ v M', P v M' → zZ cc own nm nL E R X Q (pc + 3) Lc (v.toList ++ S) M' (ce + mc) (sl + ms)) : zZ cc own nm nL E R X Q pc Lc St M ce sl := by
  subst hst
  intro hSt hM hS hL H locs ls hR hV hls
  obtain ⟨a1, a2⟩ := zokM_at hM hK hcl.2.1
  have he := zws_get (cA := E.2.2.2) a1 a2
  rw [zcell_obj hK hcl.2.2] at he
  have hS1 : zokS (vR (some b) :: as) := fun w hw => by
    rcases List.mem_cons.mp hw with e | e
    · rw [e]; trivial
    · exact hS w (List.mem_append_left _ (List.mem_reverse.mpr e))
  have hS2 : zokS S := fun w hw => hS w (List.mem_append_right _ (List.mem_cons_of_mem _ hw))
  have hts := hSt.2.2.2.2.1
  refine z_run (f := f) (d := d) (as := vR (some b) :: as) (va_runV (As := as.map zv) (C := f.1.cls) (b := b) (n := n) (ret := f.2.2.2) (bytes := f.2.1) (maxL := f.2.2.1) (Ts := zT) ⟨hSt.1, hSt.2.1, hSt.2.2.1, hSt.2.2.2.1, hts⟩ (hC hM hS1) ⟨callB_of n hts (zT_good hm.2.1) rfl rfl rfl (hts _ hm.1) (hts _ hw.1) hm.2.2.1 ⟨hR1, hR2⟩, hts _ hw.2.1, hts _ hw.2.2⟩ ⟨zPc_blind, va_recv hSt.2.2.2.2.2.1.1 hR.2.2 hcl.1 he, fun U hU hW => ⟨rfl, by rw [hU]; exact hR, zKn_moved hW hSt.2.2.2.2.2.1⟩⟩ rfl (by rw [List.length_map]; exact hn) hls.1 (by show List.map zv _ = _; rw [List.map_append, List.map_reverse]; rfl) (lv_room (by rw [zcat_sum]; exact hcat)) hd ⟨hc, hs⟩) hSt hS2 hL hV hls h
theorem z_callS {f : zF} {d mc ms idx n : Nat} {as St : List zV} {P : Option zV → zM → Prop} (hC : zCC E f d mc ms as M P) (hm : zMm f n) (hw : Cond.methodLink own idx f.1 ∈ zT ∧ Cond.static f.1 ∈ zT) (hd : decode cc pc = .ok (.invokestatic idx, 3)) (hn : as.length = n) (hst : as.reverse ++ S = St) (hcat : (S.map zcat).sum ≤ 8) (hR1 : d + 1 ≤ R.frames) (hR2 : 8 + (f.2.2.1 + 11) + 40 * d ≤ R.locals) (hc : ce + mc ≤ R.cells) (hs : sl + ms ≤ R.slots)
    (h : ∀ v M', P v M' → zZ cc own nm nL E R X Q (pc + 3) Lc (v.toList ++ S) M' (ce + mc) (sl + ms)) : zZ cc own nm nL E R X Q pc Lc St M ce sl := by
  subst hst
  intro hSt hM hS hL H locs ls hR hV hls
  have hS1 : zokS as := fun w hw => hS w (List.mem_append_left _ (List.mem_reverse.mpr hw))
  have hS2 : zokS S := fun w hw => hS w (List.mem_append_right _ hw)
  have hts := hSt.2.2.2.2.1
  refine z_run (f := f) (d := d) (as := as) (va_runS (As := as.map zv) (n := n) (ret := f.2.2.2) (bytes := f.2.1) (maxL := f.2.2.1) (Ts := zT) ⟨hSt.1, hSt.2.1, hSt.2.2.1, hSt.2.2.2.1, hts⟩ (hC hM hS1) ⟨callB_of n hts (zT_good hm.2.1) rfl rfl rfl (hts _ hm.1) (hts _ hw.1) hm.2.2.1 ⟨hR1, hR2⟩, hts _ hw.2⟩ ⟨zPc_blind, fun U hU hW => ⟨rfl, by rw [hU]; exact hR, zKn_moved hW hSt.2.2.2.2.2.1⟩⟩ rfl (by rw [List.length_map]; exact hn) hls.1 (by show List.map zv _ = _; rw [List.map_append, List.map_reverse]) (lv_room (by rw [zcat_sum]; exact hcat)) hd ⟨hc, hs⟩) hSt hS2 hL hV hls h
/-- a constructor -/
theorem z_callI {f : zF} {d mc ms idx n b : Nat} {as St : List zV} {P : Option zV → zM → Prop} (hC : zCC E f d mc ms (vR (some b) :: as) M P) (hm : zMm f n) (hnone : f.2.2.2 = none) (hini : f.1.name = "<init>") (hw : Cond.methodLink own idx f.1 ∈ zT ∧ Cond.instanceMethod f.1 ∈ zT) (hd : decode cc pc = .ok (.invokespecial idx, 3)) (hn : as.length = n) (hst : as.reverse ++ vR (some b) :: S = St) (hcat : (S.map zcat).sum ≤ 8) (hR1 : d + 1 ≤ R.frames) (hR2 : 8 + (f.2.2.1 + 11) + 40 * d ≤ R.locals) (hc : ce + mc ≤ R.cells) (hs : sl + ms ≤ R.slots)
    (h : ∀ v M', P v M' → zZ cc own nm nL E R X Q (pc + 3) Lc (v.toList ++ S) M' (ce + mc) (sl + ms)) : zZ cc own nm nL E R X Q pc Lc St M ce sl := by
  subst hst
  obtain ⟨y, cb, nl, ret⟩ := f
  cases hnone
  intro hSt hM hS hL H locs ls hR hV hls
  have hS1 : zokS (vR (some b) :: as) := fun w hw => by
    rcases List.mem_cons.mp hw with e | e
    · rw [e]; trivial
    · exact hS w (List.mem_append_left _ (List.mem_reverse.mpr e))
  have hS2 : zokS S := fun w hw => hS w (List.mem_append_right _ (List.mem_cons_of_mem _ hw))
  have hts := hSt.2.2.2.2.1
  refine z_run (f := (y, cb, nl, none)) (d := d) (as := vR (some b) :: as) (va_runI (As := as.map zv) (b := b) (n := n) (bytes := cb) (maxL := nl) (Ts := zT) ⟨hSt.1, hSt.2.1, hSt.2.2.1, hSt.2.2.2.1, hts⟩ (hC hM hS1) ⟨callB_of n hts (zT_good hm.2.1) rfl rfl rfl (hts _ hm.1) (hts _ hw.1) hm.2.2.1 ⟨hR1, hR2⟩, hini, hts _ hw.2⟩ ⟨zPc_blind, fun U hU hW => ⟨rfl, by rw [hU]; exact hR, zKn_moved hW hSt.2.2.2.2.2.1⟩⟩ rfl (by rw [List.length_map]; exact hn) hls.1 (by show List.map zv _ = _; rw [List.map_append, List.map_reverse]; rfl) (lv_room (by rw [zcat_sum]; exact hcat)) hd ⟨hc, hs⟩) hSt hS2 hL hV hls h
/-- a nest mate's private constructor -/
theorem z_callIN {f : zF} {d mc ms idx n b : Nat} {host : String} {as St : List zV} {P : Option zV → zM → Prop} (hC : zCC E f d mc ms (vR (some b) :: as) M P) (hm : zMm f n) (hnone : f.2.2.2 = none) (hini : f.1.name = "<init>") (hw : (own, idx, f.1, host) ∈ zNest ∧ Cond.instanceMethod f.1 ∈ zT) (hd : decode cc pc = .ok (.invokespecial idx, 3)) (hn : as.length = n) (hst : as.reverse ++ vR (some b) :: S = St) (hcat : (S.map zcat).sum ≤ 8) (hR1 : d + 1 ≤ R.frames) (hR2 : 8 + (f.2.2.1 + 11) + 40 * d ≤ R.locals) (hc : ce + mc ≤ R.cells) (hs : sl + ms ≤ R.slots)
    (h : ∀ v M', P v M' → zZ cc own nm nL E R X Q (pc + 3) Lc (v.toList ++ S) M' (ce + mc) (sl + ms)) : zZ cc own nm nL E R X Q pc Lc St M ce sl := by
  subst hst
  obtain ⟨y, cb, nl, ret⟩ := f
  cases hnone
  intro hSt hM hS hL H locs ls hR hV hls
  have hS1 : zokS (vR (some b) :: as) := fun w hw => by
    rcases List.mem_cons.mp hw with e | e
    · rw [e]; trivial
    · exact hS w (List.mem_append_left _ (List.mem_reverse.mpr e))
  have hS2 : zokS S := fun w hw => hS w (List.mem_append_right _ (List.mem_cons_of_mem _ hw))
  have hts := hSt.2.2.2.2.1
  refine z_run (f := (y, cb, nl, none)) (d := d) (as := vR (some b) :: as) (va_runIN (As := as.map zv) (b := b) (n := n) (bytes := cb) (maxL := nl) (Ts := zT) (host := host) ⟨hSt.1, hSt.2.1, hSt.2.2.1, hSt.2.2.2.1, hts⟩ (hC hM hS1) ⟨va_cnB n hts (zT_good hm.2.1) rfl rfl rfl (hSt.2.2.2.2.2.1.2.2.2 _ hw.1) (hts _ hm.1) hm.2.2.1 ⟨hR1, hR2⟩, hini, hts _ hw.2⟩ ⟨zPc_blind, fun U hU hW => ⟨rfl, by rw [hU]; exact hR, zKn_moved hW hSt.2.2.2.2.2.1⟩⟩ rfl (by rw [List.length_map]; exact hn) hls.1 (by show List.map zv _ = _; rw [List.map_append, List.map_reverse]; rfl) (lv_room (by rw [zcat_sum]; exact hcat)) hd ⟨hc, hs⟩) hSt hS2 hL hV hls h
theorem z_objInit {idx b : Nat} (hw : Cond.methodLink own idx Lib.objectInit ∈ zT ∧ Cond.instanceMethod Lib.objectInit ∈ zT ∧ Cond.code Lib.objectInit ⟨#[0xb1]⟩ 1 none ∈ zT) (hd : decode cc pc = .ok (.invokespecial idx, 3)) (hcat : (S.map zcat).sum ≤ 8) (hR1 : 1 ≤ R.frames) (hR2 : 20 ≤ R.locals) (h : zZ cc own nm nL E R X Q (pc + 3) Lc S M ce sl) : zZ cc own nm nL E R X Q pc Lc (vR (some b) :: S) M ce sl := by
  intro hSt hM hS hL H locs ls hR hV hls
  have hts := hSt.2.2.2.2.1
  have hlr := lv_room (m := xm X) (pc := pc) (ls := ls) (rest := (vR (some b) :: S).map zv) (st := S.map zv) (by rw [zcat_sum]; exact hcat)
  refine W.objInit hSt.1 hSt.2.1 hSt.2.2.2.1 (hts _ hw.1) (hts _ hw.2.1) (hts _ hw.2.2) rfl (by rw [hSt.2.2.1]; exact hls.1) (rest := S.map zv) rfl hd hR1 (by omega) ?_
  exact h hSt hM (zokS_tl hS) hL H locs ls hR hV hls
theorem z_max {idx : Nat} {x y : Int} (hw : Cond.methodLink own idx Lib.Math.max.name ∈ zT ∧ Cond.static Lib.Math.max.name ∈ zT ∧ Cond.initialized "java/lang/Math" ∈ zT ∧ Cond.code Lib.Math.max.name Lib.Math.max.code 2 (some .int) ∈ zT) (hd : decode cc pc = .ok (.invokestatic idx, 3)) (hcat : (S.map zcat).sum ≤ 8) (hR1 : 1 ≤ R.frames) (hR2 : 21 ≤ R.locals) (hc : ce ≤ R.cells) (hs : sl ≤ R.slots) (h : zZ cc own nm nL E R X Q (pc + 3) Lc (vI (max x y) :: S) M ce sl) : zZ cc own nm nL E R X Q pc Lc (vI y :: vI x :: S) M ce sl := by
  intro hSt hM hS hL H locs ls hR hV hls
  have hx : zin x := zokS_hd (zokS_tl hS)
  have hy : zin y := zokS_hd hS
  have hts := hSt.2.2.2.2.1
  refine va_mmax hSt.1 hSt.2.1 (by rw [hSt.2.2.1]; exact hls.1.symm) hSt.2.2.2.1 (hts _ hw.1) (hts _ hw.2.1) (hts _ hw.2.2.1) (hts _ hw.2.2.2) hR1 (by rw [zcat_sum]; omega) hc hs hd ?_
  have e : (if Int32.ofInt x < Int32.ofInt y then Int32.ofInt y else Int32.ofInt x) = Int32.ofInt (max x y) := by
    by_cases q : x < y
    · rw [if_pos ((zi_lt hx hy).mpr q), Int.max_def, if_pos (by omega)]
    · rw [if_neg (fun z => q ((zi_lt hx hy).mp z)), Int.max_def]
      by_cases q2 : x ≤ y
      · rw [if_pos q2, show x = y by omega]
      · rw [if_neg q2]
  rw [e]
  exact h hSt hM (zokS_cons (by show zin _; unfold zin at *; omega) (zokS_tl (zokS_tl hS))) hL H locs ls hR hV hls
theorem z_min {idx : Nat} {x y : Int} (hw : Cond.methodLink own idx Lib.Math.min.name ∈ zT ∧ Cond.static Lib.Math.min.name ∈ zT ∧ Cond.initialized "java/lang/Math" ∈ zT ∧ Cond.code Lib.Math.min.name Lib.Math.min.code 2 (some .int) ∈ zT) (hd : decode cc pc = .ok (.invokestatic idx, 3)) (hcat : (S.map zcat).sum ≤ 8) (hR1 : 1 ≤ R.frames) (hR2 : 21 ≤ R.locals) (hc : ce ≤ R.cells) (hs : sl ≤ R.slots) (h : zZ cc own nm nL E R X Q (pc + 3) Lc (vI (min x y) :: S) M ce sl) : zZ cc own nm nL E R X Q pc Lc (vI y :: vI x :: S) M ce sl := by
  intro hSt hM hS hL H locs ls hR hV hls
  have hx : zin x := zokS_hd (zokS_tl hS)
  have hy : zin y := zokS_hd hS
  have hts := hSt.2.2.2.2.1
  refine va_mmin hSt.1 hSt.2.1 (by rw [hSt.2.2.1]; exact hls.1.symm) hSt.2.2.2.1 (hts _ hw.1) (hts _ hw.2.1) (hts _ hw.2.2.1) (hts _ hw.2.2.2) hR1 (by rw [zcat_sum]; omega) hc hs hd ?_
  have e : (if Int32.ofInt y < Int32.ofInt x then Int32.ofInt y else Int32.ofInt x) = Int32.ofInt (min x y) := by
    by_cases q : y < x
    · rw [if_pos ((zi_lt hy hx).mpr q), Int.min_def, if_neg (by omega)]
    · rw [if_neg (fun z => q ((zi_lt hy hx).mp z)), Int.min_def, if_pos (by omega)]
  rw [e]
  exact h hSt hM (zokS_cons (by show zin _; unfold zin at *; omega) (zokS_tl (zokS_tl hS))) hL H locs ls hR hV hls
end ZC
