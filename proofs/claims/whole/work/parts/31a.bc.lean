/-! ===== Long.bitCount ===== -/
def bM (m : Nat) : Nat → Nat
  | 0 => 0
  | k + 1 => m + 256 * bM m k
theorem b_and {a m A B : Nat} (ha : a < 256) (hm : m < 256) : (a + 256 * A) &&& (m + 256 * B) = (a &&& m) + 256 * (A &&& B) := by
  have hb : a &&& m < 2 ^ 8 := Nat.lt_of_le_of_lt Nat.and_le_left ha
  have e1 : ∀ i, Nat.testBit (a + 256 * A) i = if i < 8 then a.testBit i else A.testBit (i - 8) := fun i => by
    rw [Nat.add_comm]
    exact Nat.testBit_two_pow_mul_add A (i := 8) ha i
  have e2 : ∀ i, Nat.testBit (m + 256 * B) i = if i < 8 then m.testBit i else B.testBit (i - 8) := fun i => by
    rw [Nat.add_comm]
    exact Nat.testBit_two_pow_mul_add B (i := 8) hm i
  have e3 : ∀ i, Nat.testBit ((a &&& m) + 256 * (A &&& B)) i = if i < 8 then (a &&& m).testBit i else (A &&& B).testBit (i - 8) := fun i => by
    rw [Nat.add_comm]
    exact Nat.testBit_two_pow_mul_add (A &&& B) (i := 8) hb i
  apply Nat.eq_of_testBit_eq
  intro i
  rw [Nat.testBit_and, e1, e2, e3, Nat.testBit_and, Nat.testBit_and]
  split <;> rfl
def bA (k n : Nat) : Nat := n - ((n >>> 1) &&& bM 0x55 k)
def bB (k n : Nat) : Nat := (n &&& bM 0x33 k) + ((n >>> 2) &&& bM 0x33 k)
def bC (k n : Nat) : Nat := (n + (n >>> 4)) &&& bM 0x0f k
def bq1 (a : Nat) : Nat := a - ((a >>> 1) &&& 0x55)
def bq2 (a : Nat) : Nat := (a &&& 0x33) + ((a >>> 2) &&& 0x33)
def bq3 (a : Nat) : Nat := (a + (a >>> 4)) &&& 0x0f
theorem b_sh {a A s : Nat} (p : Nat) (hp : s = 2 ^ p) (hs : 256 % s = 0) (h0 : 0 < s) : (a + 256 * A) >>> p = (a >>> p + (256 / s) * (A % s)) + 256 * (A >>> p) := by
  rw [Nat.shiftRight_eq_div_pow, Nat.shiftRight_eq_div_pow, Nat.shiftRight_eq_div_pow, ← hp]
  obtain ⟨t, ht⟩ : ∃ t, 256 = s * t := ⟨256 / s, by have := Nat.div_add_mod 256 s; omega⟩
  have e1 : 256 / s = t := by rw [ht, Nat.mul_div_cancel_left t h0]
  have e2 : (a + 256 * A) / s = a / s + t * A := by
    rw [ht, Nat.mul_assoc, Nat.add_mul_div_left _ _ h0]
  have e3 : t * A = t * (A % s) + 256 * (A / s) := by
    have := Nat.div_add_mod A s
    rw [ht]
    calc t * A = t * (s * (A / s) + A % s) := by rw [this]
      _ = t * (A % s) + s * t * (A / s) := by rw [Nat.mul_add, Nat.add_comm, ← Nat.mul_assoc, Nat.mul_comm t s]
  rw [e2, e1, e3, Nat.add_assoc]
theorem bA_s {k a A : Nat} (ha : a < 256) : bA (k + 1) (a + 256 * A) = bq1 a + 256 * bA k A ∧ bq1 a < 256 ∧ bA k A ≤ A := by
  have key : ∀ a, a < 256 → ∀ q, q < 2 → (a >>> 1 + 128 * q) &&& 0x55 = (a >>> 1) &&& 0x55 ∧ a >>> 1 + 128 * q < 256 ∧ (a >>> 1) &&& 0x55 ≤ a := by decide +kernel
  have hk := key a ha (A % 2) (Nat.mod_lt _ (by omega))
  have e : (a + 256 * A) >>> 1 = (a >>> 1 + 128 * (A % 2)) + 256 * (A >>> 1) := b_sh 1 rfl (by decide) (by decide)
  have hle : (A >>> 1) &&& bM 0x55 k ≤ A := Nat.le_trans Nat.and_le_left (by rw [Nat.shiftRight_eq_div_pow]; exact Nat.div_le_self _ _)
  refine ⟨?_, ?_, by unfold bA; omega⟩
  · unfold bA bq1
    show (a + 256 * A) - (((a + 256 * A) >>> 1) &&& (0x55 + 256 * bM 0x55 k)) = _
    rw [e, b_and hk.2.1 (by decide), hk.1]
    have := hk.2.2
    omega
  · unfold bq1
    omega
theorem bB_s {k a A : Nat} (ha : a < 256) : bB (k + 1) (a + 256 * A) = bq2 a + 256 * bB k A ∧ bq2 a < 103 ∧ bq2 a % 16 ≤ 6 := by
  have key : ∀ a, a < 256 → ∀ q, q < 4 → (a >>> 2 + 64 * q) &&& 0x33 = (a >>> 2) &&& 0x33 ∧ a >>> 2 + 64 * q < 256 := by decide +kernel
  have key2 : ∀ a, a < 256 → bq2 a < 103 ∧ bq2 a % 16 ≤ 6 := by
    unfold bq2
    decide +kernel
  have hk := key a ha (A % 4) (Nat.mod_lt _ (by omega))
  have e : (a + 256 * A) >>> 2 = (a >>> 2 + 64 * (A % 4)) + 256 * (A >>> 2) := b_sh 2 rfl (by decide) (by decide)
  refine ⟨?_, key2 a ha⟩
  unfold bB bq2
  show ((a + 256 * A) &&& (0x33 + 256 * bM 0x33 k)) + (((a + 256 * A) >>> 2) &&& (0x33 + 256 * bM 0x33 k)) = _
  rw [e, b_and hk.2 (by decide), hk.1, b_and ha (by decide)]
  omega
theorem bB_16 {k A : Nat} : bB k A % 16 ≤ 6 := by
  cases k with
  | zero =>
    unfold bB
    show ((A &&& 0) + ((A >>> 2) &&& 0)) % 16 ≤ 6
    rw [Nat.and_zero, Nat.and_zero]
    decide
  | succ k =>
    have h := bB_s (k := k) (a := A % 256) (A := A / 256) (Nat.mod_lt _ (by omega))
    rw [show A % 256 + 256 * (A / 256) = A by omega] at h
    rw [h.1]
    omega
theorem bC_s {k a A : Nat} (ha : a < 103) (hA : A % 16 ≤ 6) : bC (k + 1) (a + 256 * A) = bq3 a + 256 * bC k A := by
  have key : ∀ a, a < 103 → ∀ q, q ≤ 6 → (a + (a >>> 4 + 16 * q)) &&& 0x0f = (a + a >>> 4) &&& 0x0f ∧ a + (a >>> 4 + 16 * q) < 256 := by decide +kernel
  have hk := key a ha (A % 16) hA
  have e : (a + 256 * A) >>> 4 = (a >>> 4 + 16 * (A % 16)) + 256 * (A >>> 4) := b_sh 4 rfl (by decide) (by decide)
  unfold bC bq3
  show ((a + 256 * A) + (a + 256 * A) >>> 4) &&& (0x0f + 256 * bM 0x0f k) = _
  rw [e, show a + 256 * A + (a >>> 4 + 16 * (A % 16) + 256 * (A >>> 4)) = (a + (a >>> 4 + 16 * (A % 16))) + 256 * (A + A >>> 4) by omega, b_and hk.2 (by decide), hk.1]
def bG3 (a : Nat) : Nat := bq3 (bq2 (bq1 a))
def bF (k n : Nat) : Nat := bC k (bB k (bA k n))
theorem bF_s {k a A : Nat} (ha : a < 256) : bF (k + 1) (a + 256 * A) = bG3 a + 256 * bF k A := by
  obtain ⟨h1, h2, h3⟩ := bA_s (k := k) (A := A) ha
  obtain ⟨g1, g2, g3⟩ := bB_s (k := k) (A := bA k A) h2
  unfold bF
  rw [h1, g1, bC_s g2 bB_16]
  rfl
def pcN : Nat → Nat → Nat
  | 0, _ => 0
  | k + 1, n => pcN k n + n / 2 ^ k % 2
theorem pc8 : ∀ a, a < 256 → bG3 a = pcN 8 a ∧ bG3 a ≤ 8 := by
  unfold bG3 bq3 bq2 bq1
  decide +kernel
theorem pcN_lo {a A : Nat} : ∀ k, k ≤ 8 → pcN k (a + 256 * A) = pcN k a := by
  intro k
  induction k with
  | zero => intro _; rfl
  | succ k ih =>
    intro hk
    show pcN k (a + 256 * A) + (a + 256 * A) / 2 ^ k % 2 = pcN k a + a / 2 ^ k % 2
    rw [ih (by omega)]
    congr 1
    have e : 256 = 2 ^ k * (2 * 2 ^ (7 - k)) := by
      rw [← Nat.mul_assoc, Nat.mul_comm (2 ^ k) 2, Nat.mul_assoc, ← Nat.pow_add, show k + (7 - k) = 7 by omega]
    rw [show 256 * A = 2 ^ k * (2 * (2 ^ (7 - k) * A)) by
      rw [← Nat.mul_assoc 2, ← Nat.mul_assoc (2 ^ k), ← e], Nat.add_mul_div_left _ _ (Nat.two_pow_pos k), Nat.add_mul_mod_self_left]
theorem pcN_hi {a A : Nat} (ha : a < 256) : ∀ m, pcN (8 + m) (a + 256 * A) = pcN 8 a + pcN m A := by
  intro m
  induction m with
  | zero => exact pcN_lo 8 (by omega)
  | succ m ih =>
    show pcN (8 + m) (a + 256 * A) + (a + 256 * A) / 2 ^ (8 + m) % 2 = pcN 8 a + (pcN m A + A / 2 ^ m % 2)
    rw [ih, Nat.pow_add, ← Nat.div_div_eq_div_mul, show (a + 256 * A) / 2 ^ 8 = A by show (a + 256 * A) / 256 = A; omega]
    omega
theorem b_8 {n : Nat} (h : n < 18446744073709551616) : ∃ g0 g1 g2 g3 g4 g5 g6 g7 : Nat, (g0 ≤ 8 ∧ g1 ≤ 8 ∧ g2 ≤ 8 ∧ g3 ≤ 8 ∧ g4 ≤ 8 ∧ g5 ≤ 8 ∧ g6 ≤ 8 ∧ g7 ≤ 8) ∧ bF 8 n = g0 + 256 * (g1 + 256 * (g2 + 256 * (g3 + 256 * (g4 + 256 * (g5 + 256 * (g6 + 256 * g7)))))) ∧ pcN 64 n = g0 + (g1 + (g2 + (g3 + (g4 + (g5 + (g6 + g7)))))) := by
  have st : ∀ k n, bF (k + 1) n = bG3 (n % 256) + 256 * bF k (n / 256) ∧ (∀ m, pcN (8 + m) n = bG3 (n % 256) + pcN m (n / 256)) ∧ bG3 (n % 256) ≤ 8 := fun k n => by
    have hl : n % 256 < 256 := Nat.mod_lt _ (by omega)
    have e : n % 256 + 256 * (n / 256) = n := by omega
    have h1 := bF_s (k := k) (A := n / 256) hl
    rw [e] at h1
    refine ⟨h1, fun m => ?_, (pc8 _ hl).2⟩
    have h2 := pcN_hi (A := n / 256) hl m
    rw [e] at h2
    rw [h2, (pc8 _ hl).1]
  have s0 := st 7 n
  have s1 := st 6 (n / 256)
  have s2 := st 5 (n / 256 / 256)
  have s3 := st 4 (n / 256 / 256 / 256)
  have s4 := st 3 (n / 256 / 256 / 256 / 256)
  have s5 := st 2 (n / 256 / 256 / 256 / 256 / 256)
  have s6 := st 1 (n / 256 / 256 / 256 / 256 / 256 / 256)
  have s7 := st 0 (n / 256 / 256 / 256 / 256 / 256 / 256 / 256)
  have z : bF 0 (n / 256 / 256 / 256 / 256 / 256 / 256 / 256 / 256) = 0 := by
    unfold bF bC
    exact Nat.and_zero _
  refine ⟨_, _, _, _, _, _, _, _, ⟨s0.2.2, s1.2.2, s2.2.2, s3.2.2, s4.2.2, s5.2.2, s6.2.2, s7.2.2⟩, ?_, ?_⟩
  · rw [s0.1, s1.1, s2.1, s3.1, s4.1, s5.1, s6.1, s7.1, z]
    rfl
  · have t0 := s0.2.1 56
    have t1 := s1.2.1 48
    have t2 := s2.2.1 40
    have t3 := s3.2.1 32
    have t4 := s4.2.1 24
    have t5 := s5.2.1 16
    have t6 := s6.2.1 8
    have t7 := s7.2.1 0
    rw [t0, t1, t2, t3, t4, t5, t6, t7]
    rfl
def uN (x : Int64) : Nat := x.toUInt64.toNat
theorem uN_lt (x : Int64) : uN x < 18446744073709551616 := x.toUInt64.toNat_lt
theorem uN_and (x y : Int64) : uN (x &&& y) = uN x &&& uN y := by
  unfold uN
  rw [Int64.toUInt64_and, UInt64.toNat_and]
theorem uN_add {x y : Int64} (h : uN x + uN y < 18446744073709551616) : uN (x + y) = uN x + uN y := by
  unfold uN at *
  rw [Int64.toUInt64_add, UInt64.toNat_add, Nat.mod_eq_of_lt h]
theorem uN_sub {x y : Int64} (h : uN y ≤ uN x) : uN (x - y) = uN x - uN y := by
  unfold uN at *
  rw [Int64.toUInt64_sub, UInt64.toNat_sub_of_le]
  exact h
theorem uN_sh (x : Int64) (p : Nat) (y : Int) (h : ((Int32.ofInt y).toInt64.toUInt64 &&& Int64.toUInt64 63).toNat % 64 = p) : uN (zushr x y) = uN x >>> p := by
  unfold uN zushr
  rw [← h]
  exact UInt64.toNat_shiftRight _ _
theorem uN_toInt {x : Int64} (h : uN x < 9223372036854775808) : x.toInt = (uN x : Int) := by
  have e : x.toInt = Int.bmod (uN x : Int) (2 ^ 64) := BitVec.toInt_eq_toNat_bmod x.toBitVec
  rw [e, Int.bmod_eq_of_le (by omega) (by omega)]
theorem zpop_N (x : Int64) : zpop x = (pcN 64 (uN x) : Int) := by
  have key : ∀ k : Nat, k ≤ 64 → ysumN (fun i => p2i (zB x i = true)) k = (pcN k (uN x) : Int) := by
    intro k
    induction k with
    | zero => intro _; rfl
    | succ k ih =>
      intro hk
      show ysumN (fun i => p2i (zB x i = true)) k + p2i (zB x (k : Int) = true) = ((pcN k (uN x) + uN x / 2 ^ k % 2 : Nat) : Int)
      rw [ih (by omega)]
      have e : zB x (k : Int) = true ↔ uN x / 2 ^ k % 2 = 1 := by
        unfold zB
        rw [Int.toNat_natCast]
        show (x.toBitVec.toNat.testBit k) = true ↔ _
        rw [Nat.testBit_eq_decide_div_mod_eq, decide_eq_true_eq]
        exact Iff.rfl
      have hm : uN x / 2 ^ k % 2 < 2 := Nat.mod_lt _ (by omega)
      by_cases q : uN x / 2 ^ k % 2 = 1
      · rw [p2i_t (e.mpr q), q]; omega
      · rw [p2i_f (fun z => q (e.mp z))]; omega
  exact key 64 (by omega)
theorem bd8 {a T : Nat} (h : a < 256) : (a + 256 * T) / 256 = T := by omega
theorem bd16 {a b T : Nat} (h : a < 256) (h2 : b < 256) : (a + 256 * (b + 256 * T)) / 65536 = T := by omega
theorem bd32 {a b c e T : Nat} (h : a < 256) (h2 : b < 256) (h3 : c < 256) (h4 : e < 256) : (a + 256 * (b + 256 * (c + 256 * (e + 256 * T)))) / 4294967296 = T := by omega
theorem bm32 {a b c e T : Nat} (h : a < 65) (h2 : b < 65) (h3 : c < 65) (h4 : e < 65) : (a + 256 * (b + 256 * (c + 256 * (e + 256 * T)))) % 4294967296 = a + 256 * (b + 256 * (c + 256 * e)) := by omega
theorem bvl {a b c d e f g h : Nat} (ha : a ≤ 64) (hb : b ≤ 64) (hc : c ≤ 64) (hd : d ≤ 64) (he : e ≤ 64) (hf : f ≤ 64) (hg : g ≤ 64) (hh : h ≤ 64) : a + 256 * (b + 256 * (c + 256 * (d + 256 * (e + 256 * (f + 256 * (g + 256 * h)))))) ≤ 4629771061636907072 := by omega
theorem bpl {a b A B : Nat} : (a + 256 * A) + (b + 256 * B) = (a + b) + 256 * (A + B) := by omega
theorem bpm {a b A : Nat} : (a + 256 * A) + b = (a + b) + 256 * A := by omega
theorem ba1 {g0 g1 g2 g3 g4 g5 g6 g7 : Nat} : (g0 + 256 * (g1 + 256 * (g2 + 256 * (g3 + 256 * (g4 + 256 * (g5 + 256 * (g6 + 256 * (g7)))))))) + (g1 + 256 * (g2 + 256 * (g3 + 256 * (g4 + 256 * (g5 + 256 * (g6 + 256 * (g7))))))) = (g0 + g1) + 256 * ((g1 + g2) + 256 * ((g2 + g3) + 256 * ((g3 + g4) + 256 * ((g4 + g5) + 256 * ((g5 + g6) + 256 * ((g6 + g7) + 256 * (g7))))))) := by
  rw [bpl, bpl, bpl, bpl, bpl, bpl, bpm]
theorem ba2 {g0 g1 g2 g3 g4 g5 g6 g7 : Nat} : ((g0 + g1) + 256 * ((g1 + g2) + 256 * ((g2 + g3) + 256 * ((g3 + g4) + 256 * ((g4 + g5) + 256 * ((g5 + g6) + 256 * ((g6 + g7) + 256 * (g7)))))))) + ((g2 + g3) + 256 * ((g3 + g4) + 256 * ((g4 + g5) + 256 * ((g5 + g6) + 256 * ((g6 + g7) + 256 * (g7)))))) = ((g0 + g1) + (g2 + g3)) + 256 * (((g1 + g2) + (g3 + g4)) + 256 * (((g2 + g3) + (g4 + g5)) + 256 * (((g3 + g4) + (g5 + g6)) + 256 * (((g4 + g5) + (g6 + g7)) + 256 * (((g5 + g6) + g7) + 256 * ((g6 + g7) + 256 * (g7))))))) := by
  rw [bpl, bpl, bpl, bpl, bpl, bpm]
theorem ba3 {g0 g1 g2 g3 g4 g5 g6 g7 : Nat} : (((g0 + g1) + (g2 + g3)) + 256 * (((g1 + g2) + (g3 + g4)) + 256 * (((g2 + g3) + (g4 + g5)) + 256 * (((g3 + g4) + (g5 + g6)) + 256 * (((g4 + g5) + (g6 + g7)) + 256 * (((g5 + g6) + g7) + 256 * ((g6 + g7) + 256 * (g7)))))))) + (((g4 + g5) + (g6 + g7)) + 256 * (((g5 + g6) + g7) + 256 * ((g6 + g7) + 256 * (g7)))) = (((g0 + g1) + (g2 + g3)) + ((g4 + g5) + (g6 + g7))) + 256 * ((((g1 + g2) + (g3 + g4)) + ((g5 + g6) + g7)) + 256 * ((((g2 + g3) + (g4 + g5)) + (g6 + g7)) + 256 * ((((g3 + g4) + (g5 + g6)) + g7) + 256 * (((g4 + g5) + (g6 + g7)) + 256 * (((g5 + g6) + g7) + 256 * ((g6 + g7) + 256 * (g7))))))) := by
  rw [bpl, bpl, bpl, bpm]
theorem bsS {x : Int64} {A B C p : Nat} {y : Int} (hs : uN (zushr x y) = uN x >>> p) (hx : uN x = A) (hA : A ≤ 4629771061636907072) (hB : A >>> p = B) (hC : A + B = C) : uN (x + zushr x y) = C := by
  have : A >>> p ≤ A := by rw [Nat.shiftRight_eq_div_pow]; exact Nat.div_le_self _ _
  rw [uN_add (by rw [hs, hx]; omega), hs, hx, hB, hC]
theorem bfin {a b c e T W : Nat} {x : Int64} (ha : a ≤ 64) (hb : b ≤ 64) (hc : c ≤ 64) (he : e ≤ 64) (hW : a + 256 * (b + 256 * (c + 256 * (e + 256 * T))) = W) (hx : uN x = W) (hl : W ≤ 4629771061636907072) : (0 : Int) ≤ Int32.toInt (Int64.toInt32 x) ∧ zand (Int32.toInt (Int64.toInt32 x)) 127 = (a : Int) := by
  have mm := bm32 (a := a) (b := b) (c := c) (e := e) (T := T) (by omega) (by omega) (by omega) (by omega)
  rw [hW] at mm
  have u7 : Int32.toInt (Int64.toInt32 x) = ((W % 4294967296 : Nat) : Int) := by
    rw [Int64.toInt_toInt32, uN_toInt (by rw [hx]; omega), hx]
    have lt : W % 4294967296 < 2147483648 := by rw [mm]; clear mm hW hx hl; omega
    clear mm hW hx hl
    rw [Int.bmod_def, if_pos]
    · omega
    · omega
  rw [u7, mm]
  refine ⟨Int.natCast_nonneg _, ?_⟩
  unfold zand
  rw [Int.toNat_natCast, show (127 : Int).toNat = 2 ^ 7 - 1 from rfl, Nat.and_two_pow_sub_one_eq_mod]
  clear mm hW hx hl u7
  generalize b + 256 * (c + 256 * e) = Z
  omega
theorem zbc_n {l x1 x2 x3 x4 x5 x6 : Int64} (hx1 : x1 = l - ((zushr l 1) &&& (6148914691236517205 : Int64))) (hx2 : x2 = (x1 &&& (3689348814741910323 : Int64)) + ((zushr x1 2) &&& (3689348814741910323 : Int64))) (hx3 : x3 = (x2 + (zushr x2 4)) &&& (1085102592571150095 : Int64)) (hx4 : x4 = x3 + (zushr x3 8)) (hx5 : x5 = x4 + (zushr x4 16)) (hx6 : x6 = x5 + (zushr x5 32)) : (0 : Int) ≤ Int32.toInt (Int64.toInt32 x6) ∧ zand (Int32.toInt (Int64.toInt32 x6)) 127 = zpop l := by
  have hl := uN_lt l
  have c5 : uN 6148914691236517205 = bM 0x55 8 := by decide +kernel
  have c3 : uN 3689348814741910323 = bM 0x33 8 := by decide +kernel
  have cf : uN 1085102592571150095 = bM 0x0f 8 := by decide +kernel
  -- the first number
  have u1 : uN x1 = bA 8 (uN l) := by
    have e : uN ((zushr l 1) &&& (6148914691236517205 : Int64)) = (uN l >>> 1) &&& bM 0x55 8 := by rw [uN_and, c5, uN_sh l 1 1 (by decide +kernel)]
    have le : (uN l >>> 1) &&& bM 0x55 8 ≤ uN l := Nat.le_trans Nat.and_le_left (by rw [Nat.shiftRight_eq_div_pow]; exact Nat.div_le_self _ _)
    rw [hx1, uN_sub (by rw [e]; exact le), e]
    rfl
  have m3 : bM 0x33 8 = 3689348814741910323 := by decide +kernel
  have u2 : uN x2 = bB 8 (bA 8 (uN l)) := by
    have e1 : uN (x1 &&& (3689348814741910323 : Int64)) = bA 8 (uN l) &&& bM 0x33 8 := by rw [uN_and, c3, u1]
    have e2 : uN ((zushr x1 2) &&& (3689348814741910323 : Int64)) = (bA 8 (uN l) >>> 2) &&& bM 0x33 8 := by rw [uN_and, c3, uN_sh x1 2 2 (by decide +kernel), u1]
    have l1 : bA 8 (uN l) &&& bM 0x33 8 ≤ bM 0x33 8 := Nat.and_le_right
    have l2 : (bA 8 (uN l) >>> 2) &&& bM 0x33 8 ≤ bM 0x33 8 := Nat.and_le_right
    rw [hx2, uN_add (by rw [e1, e2]; omega), e1, e2]
    rfl
  have b2lt : uN x2 ≤ 7378697629483820646 := by
    rw [u2]
    unfold bB
    have l1 : bA 8 (uN l) &&& bM 0x33 8 ≤ bM 0x33 8 := Nat.and_le_right
    have l2 : (bA 8 (uN l) >>> 2) &&& bM 0x33 8 ≤ bM 0x33 8 := Nat.and_le_right
    omega
  have u3 : uN x3 = bF 8 (uN l) := by
    have e1 : uN (zushr x2 4) = uN x2 >>> 4 := uN_sh x2 4 4 (by decide +kernel)
    have le : uN x2 >>> 4 ≤ uN x2 := by rw [Nat.shiftRight_eq_div_pow]; exact Nat.div_le_self _ _
    rw [hx3, uN_and, cf, uN_add (by rw [e1]; omega), e1, u2]
    rfl
  obtain ⟨g0, g1, g2, g3, g4, g5, g6, g7, hg, hF, hP⟩ := b_8 hl
  obtain ⟨h0, h1, h2, h3, h4, h5, h6, h7⟩ := hg
  rw [hF] at u3
  clear hF b2lt u2 u1 cf c3 c5 m3 hl
  rw [zpop_N, hP]
  clear hP
  revert u3
  have s1 : g0 < 256 := by omega
  have s2 : (g0 + g1) < 256 ∧ (g1 + g2) < 256 := by omega
  have s4 : (((g0 + g1) + (g2 + g3)) < 256 ∧ ((g1 + g2) + (g3 + g4)) < 256) ∧ (((g2 + g3) + (g4 + g5)) < 256 ∧ ((g3 + g4) + (g5 + g6)) < 256) := by omega
  have s8 : ((((g0 + g1) + (g2 + g3)) + ((g4 + g5) + (g6 + g7))) ≤ 64 ∧ (((g1 + g2) + (g3 + g4)) + ((g5 + g6) + g7)) ≤ 64) ∧ ((((g2 + g3) + (g4 + g5)) + (g6 + g7)) ≤ 64 ∧ (((g3 + g4) + (g5 + g6)) + g7) ≤ 64) := by omega
  have sf : (((g0 + g1) + (g2 + g3)) + ((g4 + g5) + (g6 + g7))) = g0 + (g1 + (g2 + (g3 + (g4 + (g5 + (g6 + g7)))))) := by omega
  have v1 := bvl (a := g0) (b := g1) (c := g2) (d := g3) (e := g4) (f := g5) (g := g6) (h := g7) (by omega) (by omega) (by omega) (by omega) (by omega) (by omega) (by omega) (by omega)
  revert v1
  have v2 := bvl (a := (g0 + g1)) (b := (g1 + g2)) (c := (g2 + g3)) (d := (g3 + g4)) (e := (g4 + g5)) (f := (g5 + g6)) (g := (g6 + g7)) (h := g7) (by omega) (by omega) (by omega) (by omega) (by omega) (by omega) (by omega) (by omega)
  revert v2
  have v4 := bvl (a := ((g0 + g1) + (g2 + g3))) (b := ((g1 + g2) + (g3 + g4))) (c := ((g2 + g3) + (g4 + g5))) (d := ((g3 + g4) + (g5 + g6))) (e := ((g4 + g5) + (g6 + g7))) (f := ((g5 + g6) + g7)) (g := (g6 + g7)) (h := g7) (by omega) (by omega) (by omega) (by omega) (by omega) (by omega) (by omega) (by omega)
  revert v4
  have v8 := bvl (a := (((g0 + g1) + (g2 + g3)) + ((g4 + g5) + (g6 + g7)))) (b := (((g1 + g2) + (g3 + g4)) + ((g5 + g6) + g7))) (c := (((g2 + g3) + (g4 + g5)) + (g6 + g7))) (d := (((g3 + g4) + (g5 + g6)) + g7)) (e := ((g4 + g5) + (g6 + g7))) (f := ((g5 + g6) + g7)) (g := (g6 + g7)) (h := g7) (by omega) (by omega) (by omega) (by omega) (by omega) (by omega) (by omega) (by omega)
  intro v4 v2 v1 u3
  have u4 := bsS (uN_sh x3 8 8 (by decide +kernel)) u3 v1 (by rw [Nat.shiftRight_eq_div_pow]; exact bd8 s1) ba1
  rw [← hx4] at u4
  have u5 := bsS (uN_sh x4 16 16 (by decide +kernel)) u4 v2 (by rw [Nat.shiftRight_eq_div_pow]; exact bd16 s2.1 s2.2) ba2
  rw [← hx5] at u5
  have u6 := bsS (uN_sh x5 32 32 (by decide +kernel)) u5 v4 (by rw [Nat.shiftRight_eq_div_pow]; exact bd32 s4.1.1 s4.1.2 s4.2.1 s4.2.2) ba3
  rw [← hx6] at u6
  rw [← sf]
  exact bfin s8.1.1 s8.1.2 s8.2.1 s8.2.2 rfl u6 v8
