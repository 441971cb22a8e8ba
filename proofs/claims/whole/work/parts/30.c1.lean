/-! ===== the class: sets of works as bits, its cells, their contents ===== -/
def zB (x : Int64) (i : Int) : Bool := x.toBitVec.getLsbD i.toNat
def zBs (x : Int64) (P : Int → Prop) : Prop := ∀ i : Int, 0 ≤ i → i < 64 → (zB x i = true ↔ P i)
theorem zB_and (x y : Int64) (i : Int) : zB (x &&& y) i = (zB x i && zB y i) := by
  unfold zB
  rw [Int64.toBitVec_and, BitVec.getLsbD_and]
theorem zB_or (x y : Int64) (i : Int) : zB (x ||| y) i = (zB x i || zB y i) := by
  unfold zB
  rw [Int64.toBitVec_or, BitVec.getLsbD_or]
theorem zB_not (x : Int64) {i : Int} (h0 : 0 ≤ i) (h1 : i < 64) : zB (x ^^^ (-1 : Int64)) i = !zB x i := by
  unfold zB
  rw [Int64.toBitVec_xor, BitVec.getLsbD_xor, show ((-1 : Int64)).toBitVec = BitVec.allOnes 64 from rfl, BitVec.getLsbD_allOnes, decide_eq_true (by omega : i.toNat < 64), Bool.xor_true]
theorem zB_0 (i : Int) : zB 0 i = false := by
  unfold zB
  rw [show (0 : Int64).toBitVec = 0#64 from rfl, BitVec.getLsbD_zero]
theorem zB_bit {k i : Int} (k0 : 0 ≤ k) (k1 : k < 64) : zB (zbit k) i = true ↔ i.toNat = k.toNat := by
  have key : ∀ m : Nat, m < 64 → (zbit (m : Int)).toBitVec = BitVec.twoPow 64 m := by
    unfold zbit
    decide +kernel
  unfold zB
  obtain ⟨m, rfl⟩ : ∃ m : Nat, k = (m : Int) := ⟨k.toNat, by omega⟩
  rw [key m (by omega), BitVec.getLsbD_twoPow]
  rw [decide_eq_true (by omega : m < 64), Bool.true_and]
  simp only [decide_eq_true_eq, Int.toNat_natCast]
  omega
theorem zB_ext {x y : Int64} (h : ∀ i : Int, 0 ≤ i → i < 64 → zB x i = zB y i) : x = y := by
  apply Int64.toBitVec_inj.1
  apply BitVec.eq_of_getLsbD_eq
  intro i hi
  have := h (i : Int) (by omega) (by omega)
  unfold zB at this
  rw [Int.toNat_natCast] at this
  exact this
theorem zBs_0 {P : Int → Prop} (h : ∀ i, 0 ≤ i → i < 64 → ¬ P i) : zBs 0 P := fun i h0 h1 => by
  rw [zB_0]
  exact ⟨fun q => (by cases q), fun q => absurd q (h i h0 h1)⟩
theorem zBs_eq {x : Int64} {P Q : Int → Prop} (h : zBs x P) (e : ∀ i, 0 ≤ i → i < 64 → (P i ↔ Q i)) : zBs x Q := fun i h0 h1 => (h i h0 h1).trans (e i h0 h1)
theorem zBs_or {x y : Int64} {P Q : Int → Prop} (hx : zBs x P) (hy : zBs y Q) : zBs (x ||| y) (fun i => P i ∨ Q i) := fun i h0 h1 => by
  rw [zB_or, Bool.or_eq_true, hx i h0 h1, hy i h0 h1]
theorem zBs_and {x y : Int64} {P Q : Int → Prop} (hx : zBs x P) (hy : zBs y Q) : zBs (x &&& y) (fun i => P i ∧ Q i) := fun i h0 h1 => by
  rw [zB_and, Bool.and_eq_true, hx i h0 h1, hy i h0 h1]
theorem zBs_not {x : Int64} {P : Int → Prop} (hx : zBs x P) : zBs (x ^^^ (-1 : Int64)) (fun i => ¬ P i) := fun i h0 h1 => by
  show _ ↔ ¬ P i
  rw [zB_not x h0 h1, ← hx i h0 h1]
  cases zB x i <;> simp
theorem zBs_bit {k : Int} (k0 : 0 ≤ k) (k1 : k < 64) : zBs (zbit k) (fun i => i = k) := fun i h0 _ => by
  rw [zB_bit k0 k1]
  omega
theorem zBs_z {x : Int64} {P : Int → Prop} (h : zBs x P) : x = 0 ↔ ∀ i, 0 ≤ i → i < 64 → ¬ P i := by
  constructor
  · intro e i h0 h1 p
    rw [e] at h
    have := (h i h0 h1).mpr p
    rw [zB_0] at this
    cases this
  · intro q
    apply zB_ext
    intro i h0 h1
    rw [zB_0]
    have := q i h0 h1
    rw [← h i h0 h1] at this
    simpa using this
theorem zBs_in {x : Int64} {P : Int → Prop} (h : zBs x P) {k : Int} (k0 : 0 ≤ k) (k1 : k < 64) : x &&& zbit k ≠ 0 ↔ P k := by
  have e := zBs_z (zBs_and h (zBs_bit k0 k1))
  rw [Ne, e]
  constructor
  · intro q
    apply Classical.byContradiction
    intro n
    exact q (fun i _ _ z => n (by rw [← z.2]; exact z.1))
  · intro q z
    exact z k k0 k1 ⟨q, rfl⟩
theorem cmp0 (x : Int64) : ((if (0 : Int64) < x then 1 else if x = (0 : Int64) then 0 else -1) : Int) = 0 ↔ x = 0 := by
  by_cases h : (0 : Int64) < x
  · rw [if_pos h]
    refine ⟨fun q => by omega, fun q => ?_⟩
    rw [q] at h
    exact absurd h (by decide)
  · rw [if_neg h]
    by_cases h2 : x = 0
    · rw [if_pos h2]
      exact ⟨fun _ => h2, fun _ => rfl⟩
    · rw [if_neg h2]
      exact ⟨fun q => by omega, fun q => absurd q h2⟩
noncomputable def zpop (x : Int64) : Int := ysum (fun i => p2i (zB x i = true)) 64
theorem ysum_tail {f : Int → Int} {n m : Int} (h0 : 0 ≤ n) (h : n ≤ m) (hz : ∀ k, n ≤ k → k < m → f k = 0) : ysum f m = ysum f n := by
  have key : ∀ j : Nat, n + j ≤ m → ysum f (n + j) = ysum f n := by
    intro j
    induction j with
    | zero => intro _; rw [show n + ((0 : Nat) : Int) = n by omega]
    | succ j ih =>
      intro hj
      rw [show n + ((j + 1 : Nat) : Int) = (n + j) + 1 by omega, ysum_s (by omega), ih (by omega), hz _ (by omega) (by omega)]
      omega
  have := key (m - n).toNat (by omega)
  rw [show n + ((m - n).toNat : Int) = m by omega] at this
  exact this
theorem p2i_congr {p q : Prop} (h : p ↔ q) : p2i p = p2i q := by rw [propext h]
theorem zpop_s {x : Int64} {P : Int → Prop} {n : Int} (h : zBs x P) (h0 : 0 ≤ n) (h1 : n ≤ 64) (hP : ∀ k, P k → k < n) : zpop x = ysum (fun i => p2i (P i)) n := by
  unfold zpop
  rw [ysum_congr (g := fun i => p2i (P i)) (fun k a b => by rw [p2i_congr (h k a b)])]
  exact ysum_tail h0 h1 (fun k a _ => p2i_f (fun q => by have := hP k q; omega))
/-! ===== cells ===== -/
abbrev yL : Type := Nat → Int → Int64
def lup (L : yL) (f : Nat) (i : Int) (x : Int64) : yL := fun g j => if g = f ∧ j = i then x else L g j
def kkind : Nat → Nat × Nat
  | 0 => (7, 5)
  | 1 => (2, 5)
  | 2 => (9, 20)
  | 3 => (9, 20)
  | 4 => (9, 15)
  | 5 => (3, 6)
  | 6 => (12, 40)
  | 7 => (9, 40)
  | 8 => (11, 4)
  | 9 => (11, 20)
  | 10 => (1, 3)
  | 11 => (11, 400)
  | 12 => (13, 4)
  | 13 => (9, 400)
  | 14 => (9, 400)
  | 15 => (9, 400)
  | 16 => (9, 400)
  | 17 => (5, 5)
  | 18 => (9, 4)
  | 19 => (9, 4)
  | 20 => (4, 5)
  | _ => (9, 6)
def krefs : List (Nat × Int × Nat) := [(0,0,1),(0,1,5),(0,2,10),(0,3,17),(0,4,20),(1,0,2),(1,1,3),(1,2,4),(5,0,6),(5,1,7),(5,2,8),(5,3,9),(10,0,11),(10,1,12),(12,0,13),(12,1,14),(12,2,15),(12,3,16),(17,0,18),(17,1,19),(17,2,1),(17,3,5),(17,4,10),(20,0,21),(20,1,5),(20,2,10),(20,3,17)]
def kSh (x : Nat) (wa : Int → Nat) (n : Int) (M : zM) : Prop :=
  (∀ o : Nat, o < 22 → zK M (x + o) = kkind o) ∧ (∀ q ∈ krefs, zR M (x + q.1) q.2.1 = some (x + q.2.2)) ∧ (∀ k, 0 ≤ k → k < n → zR M (x + 6) k = some (wa k) ∧ zK M (wa k) = (6, 16) ∧ x + 44 ≤ wa k ∧ wa k < zsz M) ∧ (∀ j k, 0 ≤ j → j < n → 0 ≤ k → k < n → wa j = wa k → j = k)
def kCo (x : Nat) (wa : Int → Nat) (n : Int) (M : zM) (V : yS) (L : yL) : Prop :=
  (∀ (o : Nat) (i : Int), o < 22 → zI M (x + o) i = V o i) ∧ (∀ (o : Nat) (i : Int), o < 22 → zL M (x + o) i = L o i) ∧ (∀ (f : Nat) (k : Int), f < 16 → 0 ≤ k → k < n → zI M (wa k) (f : Int) = V (22 + f) k) ∧ (∀ (f : Nat) (k : Int), f < 16 → 0 ≤ k → k < n → zL M (wa k) (f : Int) = L (22 + f) k)
def kAd (x : Nat) : Nat → Prop := fun b => (x ≤ b ∧ b < x + 22) ∨ x + 44 ≤ b
def kPo (x : Nat) (wa : Int → Nat) (n : Int) (M0 M : zM) (V : yS) (L : yL) : Prop := kSh x wa n M ∧ kCo x wa n M V L ∧ zFr (kAd x) M0 M ∧ zsz M = zsz M0
theorem kPo_rf {x : Nat} {wa : Int → Nat} {n : Int} {M : zM} {V : yS} {L : yL} (hs : kSh x wa n M) (hc : kCo x wa n M V L) : kPo x wa n M M V L := ⟨hs, hc, zFr_rf, rfl⟩
theorem kPo_tr {x : Nat} {wa : Int → Nat} {n : Int} {M0 M1 M2 : zM} {V V2 : yS} {L L2 : yL} (h1 : kPo x wa n M0 M1 V L) (h2 : kPo x wa n M1 M2 V2 L2) : kPo x wa n M0 M2 V2 L2 := ⟨h2.1, h2.2.1, zFr_tr h1.2.2.1 h2.2.2.1, h2.2.2.2.trans h1.2.2.2⟩
theorem kPo_eq {x : Nat} {wa : Int → Nat} {n : Int} {M0 M : zM} {V V2 : yS} {L L2 : yL} (h : kPo x wa n M0 M V L) (e : ∀ o i, V o i = V2 o i) (e2 : ∀ o i, L o i = L2 o i) : kPo x wa n M0 M V2 L2 := ⟨h.1, ⟨fun o i ho => by rw [← e]; exact h.2.1.1 o i ho, fun o i ho => by rw [← e2]; exact h.2.1.2.1 o i ho, fun f k a b c => by rw [← e]; exact h.2.1.2.2.1 f k a b c, fun f k a b c => by rw [← e2]; exact h.2.1.2.2.2 f k a b c⟩, h.2.2⟩
theorem kSh_v {x : Nat} {wa : Int → Nat} {n : Int} {M M1 : zM} (h : kSh x wa n M) (e1 : ∀ b, zK M1 b = zK M b) (e2 : ∀ b j, zR M1 b j = zR M b j) (e3 : zsz M1 = zsz M) : kSh x wa n M1 :=
  ⟨fun o ho => by rw [e1]; exact h.1 o ho, fun q hq => by rw [e2]; exact h.2.1 q hq, fun k a b => by rw [e1, e2, e3]; exact h.2.2.1 k a b, h.2.2.2⟩
section K0
variable {x : Nat} {wa : Int → Nat} {n : Int} {M0 M M1 : zM} {V : yS} {L : yL}
theorem kPo_I (h : kPo x wa n M0 M V L) {o b : Nat} {i v : Int} (e : M1 = zsI M b i v) (hb : b = x + o) (ho : o < 22) : kPo x wa n M0 M1 (yup V o i v) L := by
  subst e
  subst hb
  refine ⟨kSh_v h.1 (fun _ => rfl) (fun _ _ => rfl) rfl, ⟨fun o2 i2 ho2 => ?_, h.2.1.2.1, fun f k hf k0 k1 => ?_, h.2.1.2.2.2⟩, zFr_sI h.2.2.1 (Or.inl ⟨by omega, by omega⟩), h.2.2.2⟩
  · rw [zI_sI]
    unfold yup
    by_cases q : o2 = o ∧ i2 = i
    · rw [if_pos q, if_pos ⟨by rw [q.1], q.2⟩]
    · rw [if_neg q, if_neg (fun z => q ⟨by have := z.1; omega, z.2⟩)]
      exact h.2.1.1 o2 i2 ho2
  · have hw := (h.1.2.2.1 k k0 k1).2.2.1
    rw [zI_sI, if_neg (fun z => by have := z.1; omega), h.2.1.2.2.1 f k hf k0 k1]
    unfold yup
    rw [if_neg (fun z => by have := z.1; omega)]
theorem kPo_L (h : kPo x wa n M0 M V L) {o b : Nat} {i : Int} {v : Int64} (e : M1 = zsL M b i v) (hb : b = x + o) (ho : o < 22) : kPo x wa n M0 M1 V (lup L o i v) := by
  subst e
  subst hb
  refine ⟨kSh_v h.1 (fun _ => rfl) (fun _ _ => rfl) rfl, ⟨h.2.1.1, fun o2 i2 ho2 => ?_, h.2.1.2.2.1, fun f k hf k0 k1 => ?_⟩, zFr_sL h.2.2.1 (Or.inl ⟨by omega, by omega⟩), h.2.2.2⟩
  · rw [zL_sL]
    unfold lup
    by_cases q : o2 = o ∧ i2 = i
    · rw [if_pos q, if_pos ⟨by rw [q.1], q.2⟩]
    · rw [if_neg q, if_neg (fun z => q ⟨by have := z.1; omega, z.2⟩)]
      exact h.2.1.2.1 o2 i2 ho2
  · have hw := (h.1.2.2.1 k k0 k1).2.2.1
    rw [zL_sL, if_neg (fun z => by have := z.1; omega), h.2.1.2.2.2 f k hf k0 k1]
    unfold lup
    rw [if_neg (fun z => by have := z.1; omega)]
theorem kPo_wI (h : kPo x wa n M0 M V L) {f b : Nat} {k j v : Int} (e : M1 = zsI M b j v) (hb : b = wa k) (hj : j = (f : Int)) (hf : f < 16) (k0 : 0 ≤ k) (k1 : k < n) : kPo x wa n M0 M1 (yup V (22 + f) k v) L := by
  subst e
  subst hb
  subst hj
  have hw := (h.1.2.2.1 k k0 k1).2.2.1
  refine ⟨kSh_v h.1 (fun _ => rfl) (fun _ _ => rfl) rfl, ⟨fun o2 i2 ho2 => ?_, h.2.1.2.1, fun f2 k2 hf2 a0 a1 => ?_, h.2.1.2.2.2⟩, zFr_sI h.2.2.1 (Or.inr (by omega)), h.2.2.2⟩
  · rw [zI_sI, if_neg (fun z => by have := z.1; omega), h.2.1.1 o2 i2 ho2]
    unfold yup
    rw [if_neg (fun z => by have := z.1; omega)]
  · rw [zI_sI]
    unfold yup
    by_cases q : f2 = f ∧ k2 = k
    · rw [if_pos ⟨by rw [q.2], by rw [q.1]⟩, if_pos ⟨by rw [q.1], q.2⟩]
    · rw [if_neg (fun z => q ⟨by have := z.2; omega, h.1.2.2.2 k2 k a0 a1 k0 k1 z.1⟩), if_neg (fun z => q ⟨by have := z.1; omega, z.2⟩)]
      exact h.2.1.2.2.1 f2 k2 hf2 a0 a1
theorem kPo_wL (h : kPo x wa n M0 M V L) {f b : Nat} {k j : Int} {v : Int64} (e : M1 = zsL M b j v) (hb : b = wa k) (hj : j = (f : Int)) (hf : f < 16) (k0 : 0 ≤ k) (k1 : k < n) : kPo x wa n M0 M1 V (lup L (22 + f) k v) := by
  subst e
  subst hb
  subst hj
  have hw := (h.1.2.2.1 k k0 k1).2.2.1
  refine ⟨kSh_v h.1 (fun _ => rfl) (fun _ _ => rfl) rfl, ⟨h.2.1.1, fun o2 i2 ho2 => ?_, h.2.1.2.2.1, fun f2 k2 hf2 a0 a1 => ?_⟩, zFr_sL h.2.2.1 (Or.inr (by omega)), h.2.2.2⟩
  · rw [zL_sL, if_neg (fun z => by have := z.1; omega), h.2.1.2.1 o2 i2 ho2]
    unfold lup
    rw [if_neg (fun z => by have := z.1; omega)]
  · rw [zL_sL]
    unfold lup
    by_cases q : f2 = f ∧ k2 = k
    · rw [if_pos ⟨by rw [q.2], by rw [q.1]⟩, if_pos ⟨by rw [q.1], q.2⟩]
    · rw [if_neg (fun z => q ⟨by have := z.2; omega, h.1.2.2.2 k2 k a0 a1 k0 k1 z.1⟩), if_neg (fun z => q ⟨by have := z.1; omega, z.2⟩)]
      exact h.2.1.2.2.2 f2 k2 hf2 a0 a1
end K0
