/-! ===== an abstract memory: kinds and sizes of cells, ints as numbers, longs, references; the judgement zZ over it ===== -/
abbrev zV : Type := Int ⊕ (Int64 ⊕ Option Nat)
abbrev zM : Type := Nat × (Nat → Nat × Nat) × (Nat → Int → Int) × (Nat → Int → Int64) × (Nat → Int → Option Nat)
abbrev zE : Type := Launch × Nat × va_G × (Nat → ClassId)
abbrev zX : Type := Program × Env × State × MethodId × Array Value × List Frame × Method × Code
abbrev zF : Type := MethodName × ByteArray × Nat × Option FieldType
abbrev vI (x : Int) : zV := Sum.inl x
abbrev vL (x : Int64) : zV := Sum.inr (Sum.inl x)
abbrev vR (r : Option Nat) : zV := Sum.inr (Sum.inr r)
def zsz (M : zM) : Nat := M.1
def zK (M : zM) (a : Nat) : Nat × Nat := M.2.1 a
def zI (M : zM) (a : Nat) (j : Int) : Int := M.2.2.1 a j
def zL (M : zM) (a : Nat) (j : Int) : Int64 := M.2.2.2.1 a j
def zR (M : zM) (a : Nat) (j : Int) : Option Nat := M.2.2.2.2 a j
def zsI (M : zM) (a : Nat) (j x : Int) : zM := (M.1, M.2.1, fun b i => if b = a ∧ i = j then x else M.2.2.1 b i, M.2.2.2.1, M.2.2.2.2)
def zsL (M : zM) (a : Nat) (j : Int) (x : Int64) : zM := (M.1, M.2.1, M.2.2.1, fun b i => if b = a ∧ i = j then x else M.2.2.2.1 b i, M.2.2.2.2)
def zsR (M : zM) (a : Nat) (j : Int) (x : Option Nat) : zM := (M.1, M.2.1, M.2.2.1, M.2.2.2.1, fun b i => if b = a ∧ i = j then x else M.2.2.2.2 b i)
def znew (M : zM) (t n : Nat) : zM := (M.1 + 1, fun b => if b = M.1 then (t, n) else M.2.1 b, fun b i => if b = M.1 then 0 else M.2.2.1 b i, fun b i => if b = M.1 then 0 else M.2.2.2.1 b i, fun b i => if b = M.1 then none else M.2.2.2.2 b i)
theorem zI_sI (M : zM) (a : Nat) (j x : Int) (b : Nat) (i : Int) : zI (zsI M a j x) b i = if b = a ∧ i = j then x else zI M b i := rfl
theorem zI_sL (M : zM) (a : Nat) (j : Int) (x : Int64) (b : Nat) (i : Int) : zI (zsL M a j x) b i = zI M b i := rfl
theorem zI_sR (M : zM) (a : Nat) (j : Int) (x : Option Nat) (b : Nat) (i : Int) : zI (zsR M a j x) b i = zI M b i := rfl
theorem zI_new (M : zM) (t n b : Nat) (i : Int) : zI (znew M t n) b i = if b = zsz M then 0 else zI M b i := rfl
theorem zL_sI (M : zM) (a : Nat) (j x : Int) (b : Nat) (i : Int) : zL (zsI M a j x) b i = zL M b i := rfl
theorem zL_sL (M : zM) (a : Nat) (j : Int) (x : Int64) (b : Nat) (i : Int) : zL (zsL M a j x) b i = if b = a ∧ i = j then x else zL M b i := rfl
theorem zL_sR (M : zM) (a : Nat) (j : Int) (x : Option Nat) (b : Nat) (i : Int) : zL (zsR M a j x) b i = zL M b i := rfl
theorem zL_new (M : zM) (t n b : Nat) (i : Int) : zL (znew M t n) b i = if b = zsz M then 0 else zL M b i := rfl
theorem zR_sI (M : zM) (a : Nat) (j x : Int) (b : Nat) (i : Int) : zR (zsI M a j x) b i = zR M b i := rfl
theorem zR_sL (M : zM) (a : Nat) (j : Int) (x : Int64) (b : Nat) (i : Int) : zR (zsL M a j x) b i = zR M b i := rfl
theorem zR_sR (M : zM) (a : Nat) (j : Int) (x : Option Nat) (b : Nat) (i : Int) : zR (zsR M a j x) b i = if b = a ∧ i = j then x else zR M b i := rfl
theorem zR_new (M : zM) (t n b : Nat) (i : Int) : zR (znew M t n) b i = if b = zsz M then none else zR M b i := rfl
theorem zK_sI (M : zM) (a : Nat) (j x : Int) (b : Nat) : zK (zsI M a j x) b = zK M b := rfl
theorem zK_sL (M : zM) (a : Nat) (j : Int) (x : Int64) (b : Nat) : zK (zsL M a j x) b = zK M b := rfl
theorem zK_sR (M : zM) (a : Nat) (j : Int) (x : Option Nat) (b : Nat) : zK (zsR M a j x) b = zK M b := rfl
theorem zK_new (M : zM) (t n b : Nat) : zK (znew M t n) b = if b = zsz M then (t, n) else zK M b := rfl
theorem zsz_sI (M : zM) (a : Nat) (j x : Int) : zsz (zsI M a j x) = zsz M := rfl
theorem zsz_sL (M : zM) (a : Nat) (j : Int) (x : Int64) : zsz (zsL M a j x) = zsz M := rfl
theorem zsz_sR (M : zM) (a : Nat) (j : Int) (x : Option Nat) : zsz (zsR M a j x) = zsz M := rfl
theorem zsz_new (M : zM) (t n : Nat) : zsz (znew M t n) = zsz M + 1 := rfl
def zin (x : Int) : Prop := -2147483648 ≤ x ∧ x ≤ 2147483647
def zv (v : zV) : Value := match v with
  | .inl x => .int (Int32.ofInt x)
  | .inr (.inl y) => .long y
  | .inr (.inr r) => va_rf r
def zok (v : zV) : Prop := match v with
  | .inl x => zin x
  | .inr _ => True
def zokS (S : List zV) : Prop := ∀ v ∈ S, zok v
def zokL (Lc : List (Nat × zV)) : Prop := ∀ q ∈ Lc, zok q.2
def zokM (E : zE) (M : zM) : Prop := (∀ a j, zin (zI M a j)) ∧ (∀ a, (zK M a).2 < 2147483648) ∧ (∀ a, (zK M a).1 ≠ 0 → E.2.1 ≤ a ∧ a < zsz M)
def zlv (Lc : List (Nat × zV)) : List (Nat × Value) := Lc.map (fun q => (q.1, zv q.2))
def zc2 (v : zV) : Bool := match v with
  | .inr (.inl _) => true
  | _ => false
def zput (i : Nat) (v : zV) (Lc : List (Nat × zV)) : List (Nat × zV) := (i, v) :: Lc.filter (fun q => !(q.1 == i) && !(q.1 + 1 == i && zc2 q.2))
def zputL (i : Nat) (v : zV) (Lc : List (Nat × zV)) : List (Nat × zV) := (i, v) :: Lc.filter (fun q => !(q.1 == i) && (!(q.1 == i + 1) && !(q.1 + 1 == i && zc2 q.2)))
theorem zv_cat (v : zV) : ((zv v).category == 2) = zc2 v := by
  rcases v with x | y | r
  · rfl
  · rfl
  · cases r <;> rfl
theorem zlv_put (i : Nat) (v : zV) (Lc : List (Nat × zV)) : (i, zv v) :: (zlv Lc).filter (fun q => !(q.1 == i) && !(q.1 + 1 == i && q.2.category == 2)) = zlv (zput i v Lc) := by
  unfold zput zlv
  rw [List.map_cons, List.filter_map]
  congr 2
  apply List.filter_congr
  intro q _
  simp only [Function.comp, zv_cat]
theorem zlv_putL (i : Nat) (v : zV) (Lc : List (Nat × zV)) : (i, zv v) :: (zlv Lc).filter (fun q => !(q.1 == i) && (!(q.1 == i + 1) && !(q.1 + 1 == i && q.2.category == 2))) = zlv (zputL i v Lc) := by
  unfold zputL zlv
  rw [List.map_cons, List.filter_map]
  congr 2
  apply List.filter_congr
  intro q _
  simp only [Function.comp, zv_cat]
theorem zlv_get {Lc : List (Nat × zV)} {k i : Nat} {v : zV} (h : Lc[k]? = some (i, v)) : (zlv Lc)[k]? = some (i, zv v) := by
  unfold zlv
  rw [List.getElem?_map, h]
  rfl
theorem zokL_put {i : Nat} {v : zV} {Lc : List (Nat × zV)} (h : zokL Lc) (hv : zok v) : zokL (zput i v Lc) := by
  intro q hq
  rcases List.mem_cons.mp hq with e | e
  · rw [e]; exact hv
  · exact h q (List.mem_filter.mp e).1
theorem zokL_putL {i : Nat} {v : zV} {Lc : List (Nat × zV)} (h : zokL Lc) (hv : zok v) : zokL (zputL i v Lc) := by
  intro q hq
  rcases List.mem_cons.mp hq with e | e
  · rw [e]; exact hv
  · exact h q (List.mem_filter.mp e).1
theorem zokL_get {Lc : List (Nat × zV)} {k i : Nat} {v : zV} (h : zokL Lc) (hk : Lc[k]? = some (i, v)) : zok v := h (i, v) (List.mem_of_getElem? hk)
theorem zokS_cons {v : zV} {S : List zV} (hv : zok v) (h : zokS S) : zokS (v :: S) := fun q hq => (List.mem_cons.mp hq).elim (fun e => e ▸ hv) (h q)
theorem zokS_hd {v : zV} {S : List zV} (h : zokS (v :: S)) : zok v := h v List.mem_cons_self
theorem zokS_tl {v : zV} {S : List zV} (h : zokS (v :: S)) : zokS S := fun q hq => h q (List.mem_cons_of_mem _ hq)
theorem zokS_nil : zokS [] := fun _ h => absurd h List.not_mem_nil
/-! numbers -/
theorem zi_toInt {x : Int} (h : zin x) : (Int32.ofInt x).toInt = x := Int32.toInt_ofInt_of_le (by have := h.1; omega) (by have := h.2; omega)
theorem zi_inj {x y : Int} (hx : zin x) (hy : zin y) : Int32.ofInt x = Int32.ofInt y ↔ x = y := by
  rw [← Int32.toInt_inj, zi_toInt hx, zi_toInt hy]
theorem zi_lt {x y : Int} (hx : zin x) (hy : zin y) : Int32.ofInt x < Int32.ofInt y ↔ x < y := by
  rw [Int32.lt_iff_toInt_lt, zi_toInt hx, zi_toInt hy]
theorem zi_le {x y : Int} (hx : zin x) (hy : zin y) : Int32.ofInt x ≤ Int32.ofInt y ↔ x ≤ y := by
  rw [Int32.le_iff_toInt_le, zi_toInt hx, zi_toInt hy]
theorem zi_0 : Int32.ofInt 0 = 0 := by decide
theorem zin_0 : zin 0 := by unfold zin; omega
theorem zi_nat {x : Int} (h0 : 0 ≤ x) (h : zin x) : (Int32.ofInt x).toNatClampNeg = x.toNat := Int32.toNatClampNeg_ofInt_of_le (by have := h.1; omega) (by have := h.2; omega)
theorem zi_in {x : Int} {n : Nat} (hx : zin x) (h0 : 0 ≤ x) (h1 : x < n) : vp_in (Int32.ofInt x) n := by
  rw [vp_in_iff, zi_toInt hx]
  exact ⟨h0, h1⟩
/-! cells -/
def zfty (t j : Nat) : FieldType := match t with
  | 0 => tyX0 j
  | 1 => tyX1 j
  | 2 => tyX2 j
  | 3 => tyX3 j
  | 4 => tyX4 j
  | 5 => tyX5 j
  | 6 => tyX6 j
  | _ => tyX7 j
def zfv (M : zM) (a : Nat) (ty : FieldType) (j : Int) : Value := match ty with
  | .int => .int (Int32.ofInt (zI M a j))
  | .long => .long (zL M a j)
  | _ => va_rf (zR M a j)
def zarr (M : zM) (a t : Nat) : (Nat → Int32) ⊕ (Nat → Int64) ⊕ (Nat → UInt32) ⊕ (Nat → UInt64) ⊕ (Nat → Option Nat) := match t with
  | 9 => .inl (fun i => Int32.ofInt (zI M a i))
  | 10 => .inl (fun i => Int32.ofInt (zI M a i))
  | 11 => .inr (.inl (fun i => zL M a i))
  | _ => .inr (.inr (.inr (.inr (fun i => zR M a i))))
def zobj (M : zM) (a t n : Nat) : List Value := (List.range n).map (fun j => zfv M a (zfty t j) j)
def zcell (cA : Nat → ClassId) (M : zM) (a : Nat) : va_E :=
  if (zK M a).1 < 9 then .inr ((zK M a).1 - 1, zobj M a ((zK M a).1 - 1) (zK M a).2) else .inl (cA (zK M a).1, (zK M a).2, zarr M a (zK M a).1)
def zws (N : Nat) (cA : Nat → ClassId) (M : zM) : va_W := (List.range (zsz M - N)).map (fun k => (N + k, zcell cA M (N + k)))
def ztys (cA : Nat → ClassId) : List (ClassId × FieldType) := [(cA 9, .int), (cA 10, .boolean), (cA 11, .long), (cA 12, .object RX5), (cA 13, .array .int)]
def zRel (E : zE) (M : zM) (H : Heap) : Prop := H.size = zsz M ∧ E.2.1 ≤ zsz M ∧ va_P E.2.2.1 vwCl (zws E.2.1 E.2.2.2 M) H
theorem zws_get {N : Nat} {cA : Nat → ClassId} {M : zM} {a : Nat} (h1 : N ≤ a) (h2 : a < zsz M) : (zws N cA M)[a - N]? = some (a, zcell cA M a) := by
  unfold zws
  rw [List.getElem?_map, List.getElem?_range (by omega)]
  simp only [Option.map_some, Option.some.injEq, Prod.mk.injEq]
  rw [show N + (a - N) = a by omega]
  exact ⟨rfl, rfl⟩
theorem zws_at {N : Nat} {cA : Nat → ClassId} {M : zM} {k : Nat} {q : Nat × va_E} (h : (zws N cA M)[k]? = some q) : k < zsz M - N ∧ q = (N + k, zcell cA M (N + k)) := by
  unfold zws at h
  rw [List.getElem?_map] at h
  by_cases hk : k < zsz M - N
  · rw [List.getElem?_range hk] at h
    exact ⟨hk, (Option.some.inj h).symm⟩
  · rw [List.getElem?_eq_none (by rw [List.length_range]; omega)] at h
    cases h
theorem zws_D {N : Nat} {cA : Nat → ClassId} {M : zM} : va_D (fun q => N ≤ q) (zws N cA M) := by
  refine ⟨fun i j p q hi hj hpq => ?_, fun k q hk => ?_⟩
  · obtain ⟨h1, e1⟩ := zws_at hi
    obtain ⟨h2, e2⟩ := zws_at hj
    rw [e1, e2] at hpq
    have hpq : N + i = N + j := hpq
    omega
  · obtain ⟨h1, e1⟩ := zws_at hk
    rw [e1]
    exact Nat.le_add_right _ _
theorem zws_set {N : Nat} {cA : Nat → ClassId} {M M' : zM} {a : Nat} (h1 : N ≤ a) (h2 : a < zsz M) (hs : zsz M' = zsz M) (ho : ∀ b, b ≠ a → zcell cA M' b = zcell cA M b) : (zws N cA M).set (a - N) (a, zcell cA M' a) = zws N cA M' := by
  apply List.ext_getElem?
  intro k
  by_cases hk : k = a - N
  · subst hk
    rw [List.getElem?_set_self (by unfold zws; rw [List.length_map, List.length_range]; omega), zws_get h1 (by rw [hs]; exact h2)]
  · rw [List.getElem?_set_ne (fun e => hk e.symm)]
    unfold zws
    rw [hs, List.getElem?_map, List.getElem?_map]
    by_cases hl : k < zsz M - N
    · rw [List.getElem?_range hl]
      simp only [Option.map_some]
      rw [ho (N + k) (by omega)]
    · rw [List.getElem?_eq_none (by rw [List.length_range]; omega)]
      rfl
theorem zws_push {N : Nat} {cA : Nat → ClassId} {M M' : zM} (h1 : N ≤ zsz M) (hs : zsz M' = zsz M + 1) (ho : ∀ b, b < zsz M → zcell cA M' b = zcell cA M b) : zws N cA M ++ [(zsz M, zcell cA M' (zsz M))] = zws N cA M' := by
  unfold zws
  rw [hs, show zsz M + 1 - N = (zsz M - N) + 1 by omega, List.range_succ, List.map_append]
  congr 1
  · apply List.map_congr_left
    intro k hk
    have hk := List.mem_range.mp hk
    rw [ho (N + k) (by omega)]
  · simp only [List.map_cons, List.map_nil]
    rw [show N + (zsz M - N) = zsz M by omega]
