/-! ===== new int[4][400] ===== -/
def zmulti (M : zM) : zM := zsR (zsR (zsR (zsR (znew (znew (znew (znew (znew M 13 4) 9 400) 9 400) 9 400) 9 400) (zsz M) 0 (some (zsz M + 1))) (zsz M) 1 (some (zsz M + 2))) (zsz M) 2 (some (zsz M + 3))) (zsz M) 3 (some (zsz M + 4))
/-! ===== new int[4][400]: the step itself ===== -/
/-- the row of rows, i of them in their places -/
def zmO (cA : ClassId) (h0 i : Nat) : Cell := arrV cA 4 (fun j => va_rf (if j < i then some (h0 + 1 + j) else none))
def zmI (cI : ClassId) : Cell := arrV cI 400 (fun _ => .int 0)
def zmT (T : State) (cA cI : ClassId) : Nat → State
  | 0 => T.pushCell (zmO cA T.heap.size 0)
  | i + 1 => ((zmT T cA cI i).pushCell (zmI cI)).setCell T.heap.size (zmO cA T.heap.size (i + 1))
theorem zmO_new (cA : ClassId) (h0 : Nat) : ({ cls := cA, slots := Array.replicate 4 .null, vm := .none } : Cell) = zmO cA h0 0 := by
  rw [arrV_new]
  rfl
theorem zmI_new (cI : ClassId) : ({ cls := cI, slots := Array.replicate 400 (.int 0), vm := .none } : Cell) = zmI cI := by
  rw [arrV_new]
  rfl
theorem zmO_set (cA : ClassId) (h0 i : Nat) : (zmO cA h0 i).setSlot i (.ref (h0 + 1 + i)) = zmO cA h0 (i + 1) := by
  unfold zmO
  rw [arrV_store]
  refine congrArg (arrV cA 4) (funext fun j => ?_)
  unfold updV
  by_cases q : j = i
  · rw [if_pos q, q, if_pos (Nat.lt_succ_self i)]
    rfl
  · rw [if_neg q]
    show va_rf (if j < i then some (h0 + 1 + j) else none) = va_rf (if j < i + 1 then some (h0 + 1 + j) else none)
    by_cases z : j < i
    · rw [if_pos z, if_pos (by omega)]
    · rw [if_neg z, if_neg (by omega)]
theorem zm_f (T : State) (cA cI : ClassId) : ∀ i, (zmT T cA cI i).heap.size = T.heap.size + 1 + i ∧ (zmT T cA cI i).heap[T.heap.size]? = some (zmO cA T.heap.size i) ∧ (zmT T cA cI i).vm = T.vm ∧ (zmT T cA cI i).slotsUsed = T.slotsUsed + 4 + i * 400 ∧ (∀ a, a < T.heap.size → (zmT T cA cI i).heap[a]? = T.heap[a]?) ∧ (∀ j, j < i → (zmT T cA cI i).heap[T.heap.size + 1 + j]? = some (zmI cI)) := by
  intro i
  induction i with
  | zero => exact ⟨by simp [zmT], by simp [zmT], rfl, by simp [zmT, zmO, arrV], fun a ha => State.heap_pushCell_of_lt _ _ ha, fun j hj => absurd hj (Nat.not_lt_zero _)⟩
  | succ i ih =>
    obtain ⟨a1, a2, a3, a4, a5, a6⟩ := ih
    have lt0 : T.heap.size < (zmT T cA cI i).heap.size := by omega
    have at0 : ((zmT T cA cI i).pushCell (zmI cI)).heap[T.heap.size]? = some (zmO cA T.heap.size i) := by rw [State.heap_pushCell_of_lt (h := lt0)]; exact a2
    refine ⟨?_, State.heap_setCell_self at0, by simp [zmT, a3], ?_, fun a ha => ?_, fun j hj => ?_⟩
    · simp [zmT, State.setCell, a1]
      omega
    · simp [zmT, a4, zmI, arrV]
      omega
    · show (((zmT T cA cI i).pushCell (zmI cI)).setCell T.heap.size _).heap[a]? = _
      have lta : a < (zmT T cA cI i).heap.size := by omega
      rw [State.heap_setCell_other (Nat.ne_of_gt ha), State.heap_pushCell_of_lt (h := lta)]
      exact a5 a ha
    · show (((zmT T cA cI i).pushCell (zmI cI)).setCell T.heap.size _).heap[T.heap.size + 1 + j]? = _
      rw [State.heap_setCell_other (show T.heap.size ≠ T.heap.size + 1 + j by omega)]
      by_cases q : j = i
      · subst q
        rw [← a1]
        exact State.heap_pushCell_size _ _
      · have ltj : T.heap.size + 1 + j < (zmT T cA cI i).heap.size := by omega
        rw [State.heap_pushCell_of_lt (h := ltj)]
        exact a6 j (by omega)
theorem zmT_top (T : State) (g : JFrame) (cA cI : ClassId) : ∀ i, zmT (T.setTop g) cA cI i = (zmT T cA cI i).setTop g := by
  intro i
  induction i with
  | zero => rfl
  | succ i ih => simp only [zmT, ih, State.heap_setTop, State.pushCell_setTop, State.setCell_setTop]
section ZMU
variable {p : Program} {l : Launch} {e : Env} {R : Room} {s : State} {m : MethodId} {args : Array Value} {below : List Frame} {meth : Method} {c : Code} {T : State} {locs : List Loc} {cells slots : Nat}
theorem zm_stand (X : Stand p l e R s m args below meth c T locs cells slots) (cA cI : ClassId) : ∀ i, ∃ locs', Stand p l e R s m args below meth c (zmT T cA cI i) (locs ++ locs') (cells + 1 + i) (slots + 4 + i * 400) ∧ ∀ q ∈ locs', q.base = T.heap.size := by
  intro i
  induction i with
  | zero =>
    refine ⟨[], ?_, fun q hq => by cases hq⟩
    have h := X.pushed (zmO cA T.heap.size 0)
    rw [show (zmO cA T.heap.size 0).slots.size = 4 by simp [zmO, arrV]] at h
    simpa [zmT] using h
  | succ i ih =>
    obtain ⟨l2, ih, hl⟩ := ih
    obtain ⟨a1, a2, -⟩ := zm_f T cA cI i
    have lt0 : T.heap.size < (zmT T cA cI i).heap.size := by omega
    have at0 : ((zmT T cA cI i).pushCell (zmI cI)).heap[T.heap.size]? = some (zmO cA T.heap.size i) := by rw [State.heap_pushCell_of_lt (h := lt0)]; exact a2
    have h := (ih.pushed (zmI cI)).stored at0 i (.ref (T.heap.size + 1 + i))
    rw [zmO_set, show (zmI cI).slots.size = 400 by simp [zmI, arrV], show slots + 4 + i * 400 + 400 = slots + 4 + (i + 1) * 400 by omega, List.append_assoc] at h
    have h' : Stand p l e R s m args below meth c (zmT T cA cI (i + 1)) (locs ++ (l2 ++ [⟨T.heap.size, i⟩])) (cells + 1 + (i + 1)) (slots + 4 + (i + 1) * 400) := h
    refine ⟨_, h', fun q hq => ?_⟩
    rcases List.mem_append.mp hq with z | z
    · exact hl q z
    · rw [List.mem_singleton.mp z]
end ZMU
section ZMW
variable {Ec : CtlPost} {e : Env} {d : Bool} {acts : List Action} {s : State}
theorem zm_fit (v : Option Nat) : fits (.array .int) (va_rf v) = true := by
  cases v <;> rfl
/-- one row -/
theorem zm_row {cI cc : ClassId} {kI : Class} {m : Int32} (hm : m = 400) (hk : s.vm.classes[cI]? = some kI) (hkind : kI.kind = .array cc .int) (hl : ¬ 400 > e.platform.arrayLengthLimit) (hh : ¬ 1600 > e.platform.maxHeapBytes) (h1 : s.heap.size < e.platform.maxCells) (h2 : s.slotsUsed + 400 ≤ e.platform.maxSlots) {Q : Addr → Pre} (hq : ∀ acts', Q s.heap.size d acts' (s.pushCell (zmI cI))) : wp (multianewarray.make cI [m]) Q Ec e d acts s := by
  subst hm
  rw [multianewarray.make]
  simp only [wp_bind', W.ite, show ¬ (400 : Int32) < 0 from by decide, if_false, wp_pure', W.theClass, hk, hkind, Option.some.injEq, exists_eq_left']
  refine W.newArray_of hk hkind hl hh h1 h2 rfl (fun acts' => ?_)
  have := hq acts'
  rw [← zmI_new] at this
  exact this
/-- the row of rows -/
theorem zm_make {cA cI cc : ClassId} {kA kI : Class} {n m : Int32} (hn : n = 4) (hm : m = 400) (hkA : s.vm.classes[cA]? = some kA) (hA : kA.kind = .array cI (.array .int)) (hkI : s.vm.classes[cI]? = some kI) (hI : kI.kind = .array cc .int) (hl : ¬ 400 > e.platform.arrayLengthLimit) (hh : ¬ 1600 > e.platform.maxHeapBytes) (h1 : s.heap.size + 5 ≤ e.platform.maxCells) (h2 : s.slotsUsed + 1604 ≤ e.platform.maxSlots) {Q : Addr → Pre} (hq : ∀ d' acts', Q s.heap.size d' acts' (zmT s cA cI 4)) : wp (multianewarray.make cA [n, m]) Q Ec e d acts s := by
  subst hn
  have hf : ([m].find? (· < 0)) = none := by rw [hm]; decide
  rw [multianewarray.make]
  simp only [wp_bind', W.ite, show ¬ (4 : Int32) < 0 from by decide, if_false, wp_pure', W.theClass, hkA, hA, Option.some.injEq, exists_eq_left']
  refine W.newArray_of hkA hA (show ¬ 4 > _ by omega) (show ¬ 4 * 4 > _ by omega) (by omega) (show _ + 4 ≤ _ by omega) rfl (fun acts1 => ?_)
  simp only [hf]
  rw [ite_self, wp_bind', Std.Legacy.Range.forIn_eq_forIn_range']
  show wp (forIn (List.range' 0 4 1) PUnit.unit _) _ Ec e d acts1 _
  refine wp_forIn_inv (fun rest s' => ∃ i, i ≤ 4 ∧ rest = List.range' i (4 - i) ∧ s' = zmT s cA cI i) _ _ ⟨0, by omega, rfl, ?_⟩ ?_ ?_
  · show s.pushCell ({ cls := cA, slots := Array.replicate 4 .null, vm := .none } : Cell) = s.pushCell (zmO cA s.heap.size 0)
    rw [zmO_new]
  · rintro y rest s' d' acts' Q' ⟨i, hi, hl', rfl⟩ hnext
    have lt : i < 4 := by
      rcases Nat.lt_or_ge i 4 with z | z
      · exact z
      · rw [show 4 - i = 0 by omega] at hl'
        cases hl'
    rw [show 4 - i = (4 - (i + 1)) + 1 by omega, List.range'_succ] at hl'
    obtain ⟨rfl, hrest⟩ := List.cons.inj hl'
    obtain ⟨a1, a2, a3, a4, -⟩ := zm_f s cA cI y
    simp only [wp_bind']
    refine zm_row hm (by rw [a3]; exact hkI) hI hl hh (by omega) (by omega) (fun acts2 => ?_)
    have lt0 : s.heap.size < (zmT s cA cI y).heap.size := by omega
    simp only [wp_bind', W.writeLoc, wp_pure']
    refine ⟨zmO cA s.heap.size y, by rw [State.heap_pushCell_of_lt (h := lt0)]; exact a2, fun z => (by cases z), by simp [zmO, arrV]; omega, ?_, hnext _ _ _ ⟨y + 1, lt, hrest, ?_⟩⟩
    · show State.fitsSlot _ cA .none _ _ = true
      simp [State.fitsSlot, State.slotType?, a3, hkA, hA]
      rfl
    · rw [a1, zmO_set]
      rfl
  · rintro s' d' acts' ⟨i, hi, hl', rfl⟩
    have e4 : i = 4 := by
      rcases Nat.lt_or_ge i 4 with z | z
      · rw [show 4 - i = (4 - (i + 1)) + 1 by omega, List.range'_succ] at hl'
        cases hl'
      · omega
    subst e4
    simp only [wp_pure']
    exact hq _ _
end ZMW
section ZMX
variable {p : Program} {l : Launch} {e : Env} {R : Room} {s : State} {m : MethodId} {args : Array Value} {below : List Frame} {meth : Method} {c : Code} {H : Heap} {locs : List Loc} {cells slots : Nat} {Q : State → Prop}
theorem zm_W {cc : ByteArray} (hexec : p.tables.exec = Jvm.exec) (hb : c.code = cc) {own : String} {index : Nat} (hown : s.vm.findClass own = some m.cls) (hclink : (Cond.classLink own index "[[I").before args s = true) (hao : zAOA s) (harr : (Cond.arrayClass .int).before args s = true) {pc : Nat} {ls : Array Slot} {rest : List Value} (hdg : decode cc pc = .ok (.multianewarray index 2, 4)) (hcells : cells + 5 ≤ R.cells) (hslots : slots + 1604 ≤ R.slots)
    (kk : ∀ (cA cI : ClassId) (H1 : Heap) (locs' : List Loc), s.vm.findClass "[[I" = some cA → s.vm.findClass "[I" = some cI → H1.size = H.size + 5 → (∀ a, a < H.size → H1[a]? = H[a]?) → H1[H.size]? = some (zmO cA H.size 4) → (∀ j, j < 4 → H1[H.size + 1 + j]? = some (zmI cI)) → (∀ q ∈ locs', q.base = H.size) → W p l e R s m args below meth c H1 (locs ++ locs') (cells + 5) (slots + 1604) Q (F0 m (pc + 4) ls (.ref H.size :: rest))) : W p l e R s m args below meth c H locs cells slots Q (F0 m pc ls (.int 400 :: .int 4 :: rest)) := by
  intro T hT X
  subst hT
  subst hb
  have hpl : e.platform.magicAccessors = ({} : Platform).magicAccessors := by rw [X.admits.platform]
  obtain ⟨cI, cA, kA, hcI, hidx, hkA, hkindA, hcA⟩ := hao
  obtain ⟨cI', kI, cc, hcI', hkI, hkindI⟩ := Cond.arrayClass_spec harr
  have eI : cI' = cI := Option.some.inj (hcI'.symm.trans hcI)
  subst eI
  obtain ⟨c0, hc0, hcl⟩ := Cond.classLink_spec hown hclink e.platform hpl
  cases hcA.symm.trans hc0
  obtain ⟨hg1, hw1, hr1⟩ := State.classEntry (e := e) X.warmed hcl
  generalize T.vm.noted m.cls index (.cls cA) = vm1 at hg1 hw1 hr1
  have hal : s.vm.Alike vm1 := hw1.alike
  obtain ⟨kA1, hkA1, eA⟩ := hal.2.2 _ _ hkA
  obtain ⟨kI1, hkI1, eI⟩ := hal.2.2 _ _ hkI
  have hkindA1 : kA1.kind = .array cI' (.array .int) := by rw [eA]; exact hkindA
  have hkindI1 : kI1.kind = .array cc .int := by rw [eI]; exact hkindI
  obtain ⟨r1, r2⟩ := X.roomAbove hcells hslots
  obtain ⟨locs', X4, hl4⟩ := zm_stand (X.noted hw1) cA cI' 4
  obtain ⟨f1, f2, f3, f4, f5, f6⟩ := zm_f (T.setVm vm1) cA cI' 4
  obtain ⟨t, b1, b2⟩ := kk cA cI' (zmT (T.setVm vm1) cA cI' 4).heap locs' hcA hcI (by rw [f1]; rfl) f5 f2 f6 hl4 (zmT (T.setVm vm1) cA cI' 4) rfl X4
  refine ⟨t, ?_, b2⟩
  have hl : ¬ 400 > e.platform.arrayLengthLimit := by rw [Launch.admits_arrayLengthLimit X.admits]; omega
  have hh : ¬ 1600 > e.platform.maxHeapBytes := by rw [Launch.admits_maxHeapBytes X.admits]; omega
  jvm_step X.here [hexec, hdg]
  simp only [multianewarray.sem, wp_bind', W.resolveClassAt_links (State.method?_setTop (F0 m pc ls (.int 400 :: .int 4 :: rest)) X.here.top) hg1]
  rw [W.popN, if_neg (by decide)]
  refine ⟨F0 m pc ls (.int 400 :: .int 4 :: rest), State.topJava?_setTop' (s := T.setVm vm1) _ X.here.top, [.int 4, .int 400], rest, rfl, rfl, ?_⟩
  simp only [List.mapM_cons, List.mapM_nil, wp_bind', wp_pure']
  refine zm_make (cc := cc) rfl rfl hkA1 hkindA1 hkI1 hkindI1 hl hh (by show T.heap.size + 5 ≤ _; omega) (by show T.slotsUsed + 1604 ≤ _; omega) (fun d' acts' => ?_)
  have eS : ((T.setTop (F0 m pc ls (.int 400 :: .int 4 :: rest))).setVm vm1).setTop { F0 m pc ls (.int 400 :: .int 4 :: rest) with stack := rest } = (T.setVm vm1).setTop { F0 m pc ls (.int 400 :: .int 4 :: rest) with stack := rest } := by
    show ((T.setVm vm1).setTop _).setTop _ = _
    rw [State.setTop_setTop]
  rw [eS, zmT_top]
  simp only [wp_bind', W.mark, W.pushRef, State.topJava?_setTop' _ X4.here.top, Option.some.injEq, exists_eq_left', State.setTop_setTop, State.heap_setTop]
  intro acts
  simp [jvm, X4.here.top]
  exact b1
end ZMX
/-! ===== new int[4][400]: the row ===== -/
theorem zmu_K (M : zM) (b : Nat) : zK (zmulti M) b = if b = zsz M then (13, 4) else if zsz M < b ∧ b < zsz M + 5 then (9, 400) else zK M b := by
  show (if b = zsz M + 1 + 1 + 1 + 1 then ((9 : Nat), (400 : Nat)) else if b = zsz M + 1 + 1 + 1 then (9, 400) else if b = zsz M + 1 + 1 then (9, 400) else if b = zsz M + 1 then (9, 400) else if b = zsz M then (13, 4) else zK M b) = _
  by_cases e : b = zsz M
  · rw [if_pos e, if_neg (by omega), if_neg (by omega), if_neg (by omega), if_neg (by omega), if_pos e]
  · rw [if_neg e]
    by_cases e2 : zsz M < b ∧ b < zsz M + 5
    · rw [if_pos e2]
      rcases (show b = zsz M + 1 ∨ b = zsz M + 1 + 1 ∨ b = zsz M + 1 + 1 + 1 ∨ b = zsz M + 1 + 1 + 1 + 1 by omega) with z | z | z | z
      · rw [if_neg (by omega), if_neg (by omega), if_neg (by omega), if_pos z, if_neg e]
      · rw [if_neg (by omega), if_neg (by omega), if_pos z, if_neg e]
      · rw [if_neg (by omega), if_pos z, if_neg e]
      · rw [if_pos z, if_neg e]
    · rw [if_neg e2, if_neg (by omega), if_neg (by omega), if_neg (by omega), if_neg (by omega), if_neg e]
theorem zmu_I (M : zM) (b : Nat) (i : Int) : zI (zmulti M) b i = if zsz M ≤ b ∧ b < zsz M + 5 then 0 else zI M b i := by
  show (if b = zsz M + 1 + 1 + 1 + 1 then (0 : Int) else if b = zsz M + 1 + 1 + 1 then 0 else if b = zsz M + 1 + 1 then 0 else if b = zsz M + 1 then 0 else if b = zsz M then 0 else zI M b i) = _
  by_cases e2 : zsz M ≤ b ∧ b < zsz M + 5
  · rw [if_pos e2]
    rcases (show b = zsz M ∨ b = zsz M + 1 ∨ b = zsz M + 1 + 1 ∨ b = zsz M + 1 + 1 + 1 ∨ b = zsz M + 1 + 1 + 1 + 1 by omega) with z | z | z | z | z
    · rw [if_neg (by omega), if_neg (by omega), if_neg (by omega), if_neg (by omega), if_pos z]
    · rw [if_neg (by omega), if_neg (by omega), if_neg (by omega), if_pos z]
    · rw [if_neg (by omega), if_neg (by omega), if_pos z]
    · rw [if_neg (by omega), if_pos z]
    · rw [if_pos z]
  · rw [if_neg e2, if_neg (by omega), if_neg (by omega), if_neg (by omega), if_neg (by omega), if_neg (by omega)]
theorem zmu_o {cA : Nat → ClassId} (M : zM) {b : Nat} (hb : b < zsz M) : zcell cA (zmulti M) b = zcell cA M b := by
  have e : b ≠ zsz M := Nat.ne_of_lt hb
  unfold zmulti
  rw [zcell_sR e, zcell_sR e, zcell_sR e, zcell_sR e, zcell_new (by simp only [zsz_new]; omega), zcell_new (by simp only [zsz_new]; omega), zcell_new (by simp only [zsz_new]; omega), zcell_new (by simp only [zsz_new]; omega), zcell_new hb]
theorem zmu_R (M : zM) (j : Nat) : zR (zmulti M) (zsz M) (j : Int) = if j < 4 then some (zsz M + 1 + j) else none := by
  show (if zsz M = zsz M ∧ (j : Int) = 3 then some (zsz M + 4) else if zsz M = zsz M ∧ (j : Int) = 2 then some (zsz M + 3) else if zsz M = zsz M ∧ (j : Int) = 1 then some (zsz M + 2) else if zsz M = zsz M ∧ (j : Int) = 0 then some (zsz M + 1) else if zsz M = zsz M + 1 + 1 + 1 + 1 then none else if zsz M = zsz M + 1 + 1 + 1 then none else if zsz M = zsz M + 1 + 1 then none else if zsz M = zsz M + 1 then none else if zsz M = zsz M then none else zR M (zsz M) j) = _
  rcases (show j = 0 ∨ j = 1 ∨ j = 2 ∨ j = 3 ∨ 4 ≤ j by omega) with z | z | z | z | z
  · subst z
    rw [if_neg (by omega), if_neg (by omega), if_neg (by omega), if_pos ⟨rfl, rfl⟩, if_pos (by omega)]
  · subst z
    rw [if_neg (by omega), if_neg (by omega), if_pos ⟨rfl, rfl⟩, if_pos (by omega)]
  · subst z
    rw [if_neg (by omega), if_pos ⟨rfl, rfl⟩, if_pos (by omega)]
  · subst z
    rw [if_pos ⟨rfl, rfl⟩, if_pos (by omega)]
  · rw [if_neg (by omega), if_neg (by omega), if_neg (by omega), if_neg (by omega), if_neg (by omega), if_neg (by omega), if_neg (by omega), if_neg (by omega), if_pos rfl, if_neg (by omega)]
theorem zmu_ok {E : zE} {M : zM} (hM : zokM E M) (hN : E.2.1 ≤ zsz M) : zokM E (zmulti M) := by
  unfold zmulti
  refine zokM_sR (zokM_sR (zokM_sR (zokM_sR ?_)))
  exact zokM_new (zokM_new (zokM_new (zokM_new (zokM_new hM (by decide) hN) (by decide) (by rw [zsz_new]; omega)) (by decide) (by rw [zsz_new, zsz_new]; omega)) (by decide) (by rw [zsz_new, zsz_new, zsz_new]; omega)) (by decide) (by rw [zsz_new, zsz_new, zsz_new, zsz_new]; omega)
theorem z_multi {cc : ByteArray} {own nm : String} {nL : Nat} {E : zE} {R : Room} {X : zX} {Q : State → Prop} {pc : Nat} {Lc : List (Nat × zV)} {S : List zV} {M : zM} {ce sl idx : Nat} (hw : Cond.classLink own idx "[[I" ∈ zT) (hw2 : Cond.arrayClass .int ∈ zT) (hd : decode cc pc = .ok (.multianewarray idx 2, 4)) (hc : ce + 5 ≤ R.cells) (hs : sl + 1604 ≤ R.slots) (h : zZ cc own nm nL E R X Q (pc + 4) Lc (vR (some (zsz M)) :: S) (zmulti M) (ce + 5) (sl + 1604)) : zZ cc own nm nL E R X Q pc Lc (vI 400 :: vI 4 :: S) M ce sl := by
  intro hSt hM hS hL H locs ls hR hV hls
  refine zm_W hSt.1 hSt.2.1 hSt.2.2.2.1 (hSt.2.2.2.2.1 _ hw) hSt.2.2.2.2.2.1.2.2.1 (hSt.2.2.2.2.1 _ hw2) hd hc hs fun cA cI H1 locs' fA fI z1 o1 e0 er hl => ?_
  obtain ⟨r1, r2, r3⟩ := hR
  have hcA : cA = E.2.2.2 13 := Option.some.inj (fA.symm.trans (hSt.2.2.2.2.2.1.1.2 4 _ rfl).2)
  have hcI : cI = E.2.2.2 9 := Option.some.inj (fI.symm.trans (hSt.2.2.2.2.2.1.1.2 0 _ rfl).2)
  have zz : zsz (zmulti M) = zsz M + 5 := rfl
  rw [r1] at z1 o1 e0 er hl ⊢
  have old : va_P E.2.2.1 vwCl (zws E.2.1 E.2.2.2 M) H1 := r3.kept fun k q hk => o1 q.1 (by rw [← r1]; exact (r3 k q hk).lt)
  have rel : zRel E (zmulti M) H1 := by
    refine ⟨by rw [z1, zz], by rw [zz]; omega, fun k q hk => ?_⟩
    obtain ⟨hk1, rfl⟩ := zws_at hk
    rw [zz] at hk1
    by_cases lt : E.2.1 + k < zsz M
    · have g := old k (E.2.1 + k, zcell E.2.2.2 M (E.2.1 + k)) (by
        have := zws_get (N := E.2.1) (cA := E.2.2.2) (M := M) (a := E.2.1 + k) (by omega) lt
        rw [show E.2.1 + k - E.2.1 = k by omega] at this
        exact this)
      rw [zmu_o M lt]
      exact g
    · by_cases e : E.2.1 + k = zsz M
      · rw [e, zcell_arr (tg := 13) (n := 4) (by rw [zmu_K, if_pos rfl]) (by decide)]
        show H1[zsz M]? = some (vp_cell _ (4, .inr (.inr (.inr (.inr (fun q : Nat => zR (zmulti M) (zsz M) q))))))
        rw [vp_cell_q, e0, ← hcA]
        unfold zmO
        simp only [zmu_R]
      · obtain ⟨j, hj, ej⟩ : ∃ j, j < 4 ∧ E.2.1 + k = zsz M + 1 + j := ⟨E.2.1 + k - zsz M - 1, by omega, by omega⟩
        rw [ej, zcell_arr (tg := 9) (n := 400) (by rw [zmu_K, if_neg (by omega), if_pos (by omega)]) (by decide)]
        show H1[zsz M + 1 + j]? = some (vp_cell _ (400, .inl (fun q : Nat => Int32.ofInt (zI (zmulti M) (zsz M + 1 + j) q))))
        rw [vp_cell_i, er j hj, ← hcI]
        unfold zmI
        have ez : ∀ q : Nat, zI (zmulti M) (zsz M + 1 + j) q = 0 := fun q => by rw [zmu_I, if_pos (by omega)]
        simp only [ez, zi_0]
  have vs : va_S (fun q => E.2.1 ≤ q) (xs X).heap H1 (locs ++ locs') := by
    have v1 := hV.1
    refine ⟨by rw [z1]; omega, fun q h1 h2 => ?_, fun q hq => ?_⟩
    · rw [o1 q (by omega)]
      exact hV.2.1 q h1 h2
    · rcases List.mem_append.mp hq with z | z
      · exact hV.2.2 q z
      · show E.2.1 ≤ q.base
        rw [hl q z]
        exact r2
  exact h hSt (zmu_ok hM r2) (zokS_cons trivial (zokS_tl (zokS_tl hS))) hL H1 (locs ++ locs') ls rel vs hls
