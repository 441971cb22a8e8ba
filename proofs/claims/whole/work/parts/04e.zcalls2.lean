/-! ===== calls, typed, from a room zrm ===== -/
def zMV (own : String) (idx : Nat) (f : zF) (n tg nf : Nat) : Prop := zMm f n ∧ (Cond.methodLink own idx f.1 ∈ zT ∧ Cond.instanceMethod f.1 ∈ zT ∧ Cond.selects f.1.cls f.1 f.1 ∈ zT) ∧ ∃ T, vwCl[tg - 1]? = some (f.1.cls, T, nf) ∧ 1 ≤ tg ∧ tg < 9
def zMS (own : String) (idx : Nat) (f : zF) (n : Nat) : Prop := zMm f n ∧ (Cond.methodLink own idx f.1 ∈ zT ∧ Cond.static f.1 ∈ zT)
def zMI (own : String) (idx : Nat) (f : zF) (n : Nat) : Prop := zMm f n ∧ f.2.2.2 = none ∧ f.1.name = "<init>" ∧ Cond.instanceMethod f.1 ∈ zT ∧ (Cond.methodLink own idx f.1 ∈ zT ∨ ∃ host, (own, idx, f.1, host) ∈ zNest)
section ZK
variable {cc : ByteArray} {own nm : String} {nL : Nat} {E : zE} {X : zX} {Q : State → Prop} {pc : Nat} {Lc : List (Nat × zV)} {S : List zV} {M : zM} {ce sl : Nat} {f : zF} {d mc ms mc0 ms0 idx n b tg nf : Nat} {as St : List zV}
theorem z_V {P : Option zV → zM → Prop} (hm : zMV own idx f n tg nf) (hd : decode cc pc = .ok (.invokevirtual idx, 3)) (hC : zCC E f d mc ms (vR (some b) :: as) M P) (hK : zK M b = (tg, nf)) (hn : as.length = n) (hst : as.reverse ++ vR (some b) :: S = St) (hcat : (S.map zcat).sum ≤ 8) (hc : ce + mc ≤ mc0) (hs : sl + ms ≤ ms0)
    (h : ∀ v M', P v M' → zZ cc own nm nL E (zrm (d + 1) mc0 ms0) X Q (pc + 3) Lc (v.toList ++ S) M' (ce + mc) (sl + ms)) : zZ cc own nm nL E (zrm (d + 1) mc0 ms0) X Q pc Lc St M ce sl := by
  obtain ⟨h1, h2, T, h3⟩ := hm
  exact z_callV hC h1 h2 hd h3 hK hn hst hcat zr1 (zr2 h1.2.2.2) hc hs h
theorem z_Vi {P : Int → zM → Prop} (hm : zMV own idx f n tg nf) (hd : decode cc pc = .ok (.invokevirtual idx, 3)) (hC : zCi E f d mc ms (vR (some b) :: as) M P) (hK : zK M b = (tg, nf)) (hn : as.length = n) (hst : as.reverse ++ vR (some b) :: S = St) (hcat : (S.map zcat).sum ≤ 8) (hc : ce + mc ≤ mc0) (hs : sl + ms ≤ ms0)
    (h : ∀ r M', P r M' → zZ cc own nm nL E (zrm (d + 1) mc0 ms0) X Q (pc + 3) Lc (vI r :: S) M' (ce + mc) (sl + ms)) : zZ cc own nm nL E (zrm (d + 1) mc0 ms0) X Q pc Lc St M ce sl :=
  z_V hm hd hC hK hn hst hcat hc hs (fun v M' ⟨r, e, hp⟩ => by subst e; exact h r M' hp)
theorem z_Vl {P : Int64 → zM → Prop} (hm : zMV own idx f n tg nf) (hd : decode cc pc = .ok (.invokevirtual idx, 3)) (hC : zCl E f d mc ms (vR (some b) :: as) M P) (hK : zK M b = (tg, nf)) (hn : as.length = n) (hst : as.reverse ++ vR (some b) :: S = St) (hcat : (S.map zcat).sum ≤ 8) (hc : ce + mc ≤ mc0) (hs : sl + ms ≤ ms0)
    (h : ∀ r M', P r M' → zZ cc own nm nL E (zrm (d + 1) mc0 ms0) X Q (pc + 3) Lc (vL r :: S) M' (ce + mc) (sl + ms)) : zZ cc own nm nL E (zrm (d + 1) mc0 ms0) X Q pc Lc St M ce sl :=
  z_V hm hd hC hK hn hst hcat hc hs (fun v M' ⟨r, e, hp⟩ => by subst e; exact h r M' hp)
theorem z_Vr {P : Option Nat → zM → Prop} (hm : zMV own idx f n tg nf) (hd : decode cc pc = .ok (.invokevirtual idx, 3)) (hC : zCr E f d mc ms (vR (some b) :: as) M P) (hK : zK M b = (tg, nf)) (hn : as.length = n) (hst : as.reverse ++ vR (some b) :: S = St) (hcat : (S.map zcat).sum ≤ 8) (hc : ce + mc ≤ mc0) (hs : sl + ms ≤ ms0)
    (h : ∀ r M', P r M' → zZ cc own nm nL E (zrm (d + 1) mc0 ms0) X Q (pc + 3) Lc (vR r :: S) M' (ce + mc) (sl + ms)) : zZ cc own nm nL E (zrm (d + 1) mc0 ms0) X Q pc Lc St M ce sl :=
  z_V hm hd hC hK hn hst hcat hc hs (fun v M' ⟨r, e, hp⟩ => by subst e; exact h r M' hp)
theorem z_Vv {P : zM → Prop} (hm : zMV own idx f n tg nf) (hd : decode cc pc = .ok (.invokevirtual idx, 3)) (hC : zCv E f d mc ms (vR (some b) :: as) M P) (hK : zK M b = (tg, nf)) (hn : as.length = n) (hst : as.reverse ++ vR (some b) :: S = St) (hcat : (S.map zcat).sum ≤ 8) (hc : ce + mc ≤ mc0) (hs : sl + ms ≤ ms0)
    (h : ∀ M', P M' → zZ cc own nm nL E (zrm (d + 1) mc0 ms0) X Q (pc + 3) Lc S M' (ce + mc) (sl + ms)) : zZ cc own nm nL E (zrm (d + 1) mc0 ms0) X Q pc Lc St M ce sl :=
  z_V hm hd hC hK hn hst hcat hc hs (fun v M' ⟨e, hp⟩ => by subst e; exact h M' hp)
theorem z_Si {P : Int → zM → Prop} (hm : zMS own idx f n) (hd : decode cc pc = .ok (.invokestatic idx, 3)) (hC : zCi E f d mc ms as M P) (hn : as.length = n) (hst : as.reverse ++ S = St) (hcat : (S.map zcat).sum ≤ 8) (hc : ce + mc ≤ mc0) (hs : sl + ms ≤ ms0)
    (h : ∀ r M', P r M' → zZ cc own nm nL E (zrm (d + 1) mc0 ms0) X Q (pc + 3) Lc (vI r :: S) M' (ce + mc) (sl + ms)) : zZ cc own nm nL E (zrm (d + 1) mc0 ms0) X Q pc Lc St M ce sl :=
  z_callS hC hm.1 hm.2 hd hn hst hcat zr1 (zr2 hm.1.2.2.2) hc hs (fun v M' ⟨r, e, hp⟩ => by subst e; exact h r M' hp)
theorem z_Iv {P : zM → Prop} (hm : zMI own idx f n) (hd : decode cc pc = .ok (.invokespecial idx, 3)) (hC : zCv E f d mc ms (vR (some b) :: as) M P) (hn : as.length = n) (hst : as.reverse ++ vR (some b) :: S = St) (hcat : (S.map zcat).sum ≤ 8) (hc : ce + mc ≤ mc0) (hs : sl + ms ≤ ms0)
    (h : ∀ M', P M' → zZ cc own nm nL E (zrm (d + 1) mc0 ms0) X Q (pc + 3) Lc S M' (ce + mc) (sl + ms)) : zZ cc own nm nL E (zrm (d + 1) mc0 ms0) X Q pc Lc St M ce sl := by
  obtain ⟨h1, h2, h3, h4, h5 | ⟨host, h5⟩⟩ := hm
  · exact z_callI hC h1 h2 h3 ⟨h5, h4⟩ hd hn hst hcat zr1 (zr2 h1.2.2.2) hc hs (fun v M' ⟨e, hp⟩ => by subst e; exact h M' hp)
  · exact z_callIN hC h1 h2 h3 ⟨h5, h4⟩ hd hn hst hcat zr1 (zr2 h1.2.2.2) hc hs (fun v M' ⟨e, hp⟩ => by subst e; exact h M' hp)
end ZK
