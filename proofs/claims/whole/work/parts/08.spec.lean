/-! ===== the state as the reference holds it: Y field index; the shape and the contents of its cells ===== -/
abbrev yS : Type := Nat → Int → Int
def yup (Y : yS) (f : Nat) (i x : Int) : yS := fun g j => if g = f ∧ j = i then x else Y g j
def ysc (Y : yS) (f : Nat) (x : Int) : yS := fun g j => if g = f then x else Y g j
def moff : Nat → Nat
  | 2 => 1
  | 3 => 2
  | 4 => 3
  | 5 => 4
  | 7 => 5
  | 9 => 6
  | 10 => 7
  | 11 => 8
  | 12 => 9
  | 13 => 10
  | 14 => 11
  | 15 => 12
  | 16 => 13
  | 17 => 14
  | 18 => 15
  | 19 => 16
  | 20 => 17
  | 21 => 18
  | 22 => 19
  | 23 => 20
  | 24 => 21
  | _ => 0
def mkind : Nat → Nat × Nat
  | 2 => (9, 20)
  | 3 => (10, 400)
  | 4 => (9, 4)
  | 5 => (9, 4)
  | 7 => (9, 25)
  | 17 => (10, 1600)
  | 18 => (10, 1600)
  | 19 => (10, 40)
  | 22 => (9, 6)
  | 23 => (9, 7)
  | 24 => (9, 6)
  | _ => (9, 40)
def misc (f : Nat) : Bool := f == 0 || f == 1 || f == 6 || f == 8
def mSh (a : Nat) (M : zM) : Prop := zK M a = (8, 25) ∧ ∀ f : Nat, f < 25 → misc f = false → zR M a f = some (a + moff f) ∧ zK M (a + moff f) = mkind f
def mI (a : Nat) (M : zM) (f : Nat) (i : Int) : Int := if misc f then zI M a f else zI M (a + moff f) i
def mCo (a : Nat) (M : zM) (Y : yS) : Prop := ∀ (f : Nat) (i : Int), f < 19 → mI a M f i = Y f i
theorem mCo_sc {a : Nat} {M : zM} {Y : yS} {f : Nat} {j x : Int} (h : mCo a M Y) (hf : misc f = true) (hj : j = f) : mCo a (zsI M a j x) (ysc Y f x) := by
  subst hj
  intro g i hg
  unfold mI ysc
  by_cases e : g = f
  · subst e
    rw [if_pos hf, if_pos rfl, zI_sI, if_pos ⟨rfl, rfl⟩]
  · rw [if_neg e, ← h g i hg]
    unfold mI
    by_cases hm : misc g = true
    · rw [if_pos hm, if_pos hm, zI_sI, if_neg (fun q => e (by have := q.2; omega))]
    · rw [if_neg hm, if_neg hm, zI_sI, if_neg]
      intro q
      have : moff g = 0 := by have := q.1; omega
      revert hm this
      clear h hf e q
      unfold misc moff
      revert hg
      revert g
      decide
theorem moff_inj : ∀ f : Nat, f < 25 → ∀ g : Nat, g < 25 → misc f = false → misc g = false → moff f = moff g → f = g := by decide
theorem moff_pos : ∀ f : Nat, f < 25 → misc f = false → 1 ≤ moff f ∧ moff f ≤ 21 := by decide
theorem mCo_up {a : Nat} {M : zM} {Y : yS} {f b : Nat} {i x : Int} (h : mCo a M Y) (hf : misc f = false) (hl : f < 19) (hb : b = a + moff f) : mCo a (zsI M b i x) (yup Y f i x) := by
  subst hb
  intro g j hg
  unfold mI yup
  by_cases hm : misc g = true
  · have e : g ≠ f := fun q => by rw [q, hf] at hm; cases hm
    rw [if_pos hm, zI_sI, if_neg (by have := (moff_pos f (by omega) hf).1; omega), if_neg (fun q => e q.1), ← h g j hg]
    unfold mI
    rw [if_pos hm]
  · rw [if_neg hm, zI_sI]
    by_cases e : g = f
    · subst e
      by_cases ej : j = i
      · rw [if_pos ⟨rfl, ej⟩, if_pos ⟨rfl, ej⟩]
      · rw [if_neg (fun q => ej q.2), if_neg (fun q => ej q.2), ← h g j hg]
        unfold mI
        rw [if_neg hm]
    · rw [if_neg (fun q => e (moff_inj g (by omega) f (by omega) (by simpa using hm) hf (by omega))), if_neg (fun q => e q.1), ← h g j hg]
      unfold mI
      rw [if_neg hm]
theorem mCo_scr {a : Nat} {M : zM} {Y : yS} {f b : Nat} {i x : Int} (h : mCo a M Y) (hf : 19 ≤ f) (hl : f < 25) (hb : b = a + moff f) : mCo a (zsI M b i x) Y := by
  subst hb
  have key : ∀ f : Nat, f < 25 → 19 ≤ f → misc f = false := by decide
  have hfm : misc f = false := key f hl hf
  intro g j hg
  rw [← h g j hg]
  unfold mI
  by_cases hm : misc g = true
  · rw [if_pos hm, if_pos hm, zI_sI, if_neg (by have := (moff_pos f hl hfm).1; omega)]
  · rw [if_neg hm, if_neg hm, zI_sI, if_neg]
    intro q
    have := moff_inj g (by omega) f hl (by simpa using hm) hfm (by omega)
    omega
/-! frames -/
def zFr (A : Nat → Prop) (M M' : zM) : Prop := zsz M ≤ zsz M' ∧ ∀ b, b < zsz M → ¬ A b → zK M' b = zK M b ∧ (∀ j, zI M' b j = zI M b j) ∧ (∀ j, zL M' b j = zL M b j) ∧ (∀ j, zR M' b j = zR M b j)
theorem zFr_rf {A : Nat → Prop} {M : zM} : zFr A M M := ⟨Nat.le_refl _, fun _ _ _ => ⟨rfl, fun _ => rfl, fun _ => rfl, fun _ => rfl⟩⟩
theorem zFr_tr {A : Nat → Prop} {M M1 M2 : zM} (h1 : zFr A M M1) (h2 : zFr A M1 M2) : zFr A M M2 := by
  refine ⟨Nat.le_trans h1.1 h2.1, fun b hb hA => ?_⟩
  obtain ⟨a1, a2, a3, a4⟩ := h1.2 b hb hA
  obtain ⟨b1, b2, b3, b4⟩ := h2.2 b (Nat.lt_of_lt_of_le hb h1.1) hA
  exact ⟨b1.trans a1, fun j => (b2 j).trans (a2 j), fun j => (b3 j).trans (a3 j), fun j => (b4 j).trans (a4 j)⟩
theorem zFr_sI {A : Nat → Prop} {M M1 : zM} {a : Nat} {j x : Int} (h : zFr A M M1) (hA : A a) : zFr A M (zsI M1 a j x) := zFr_tr h ⟨Nat.le_refl _, fun b _ hb => ⟨rfl, fun i => by rw [zI_sI, if_neg (fun q => hb (by rw [q.1]; exact hA))], fun _ => rfl, fun _ => rfl⟩⟩
theorem zFr_sL {A : Nat → Prop} {M M1 : zM} {a : Nat} {j : Int} {x : Int64} (h : zFr A M M1) (hA : A a) : zFr A M (zsL M1 a j x) := zFr_tr h ⟨Nat.le_refl _, fun b _ hb => ⟨rfl, fun _ => rfl, fun i => by rw [zL_sL, if_neg (fun q => hb (by rw [q.1]; exact hA))], fun _ => rfl⟩⟩
theorem zFr_sR {A : Nat → Prop} {M M1 : zM} {a : Nat} {j : Int} {x : Option Nat} (h : zFr A M M1) (hA : A a) : zFr A M (zsR M1 a j x) := zFr_tr h ⟨Nat.le_refl _, fun b _ hb => ⟨rfl, fun _ => rfl, fun _ => rfl, fun i => by rw [zR_sR, if_neg (fun q => hb (by rw [q.1]; exact hA))]⟩⟩
theorem zFr_new {A : Nat → Prop} {M M1 : zM} {t n : Nat} (h : zFr A M M1) : zFr A M (znew M1 t n) := zFr_tr h ⟨Nat.le_succ _, fun b hb _ => by
  have e : b ≠ zsz M1 := Nat.ne_of_lt hb
  exact ⟨by rw [zK_new, if_neg e], fun i => by rw [zI_new, if_neg e], fun i => by rw [zL_new, if_neg e], fun i => by rw [zR_new, if_neg e]⟩⟩
def mAd (a : Nat) : Nat → Prop := fun b => a ≤ b ∧ b ≤ a + 21
theorem mSh_new {a : Nat} {M : zM} {t n : Nat} (h : mSh a M) (ha : a + 21 < zsz M) : mSh a (znew M t n) := by
  refine ⟨by rw [zK_new, if_neg (by omega)]; exact h.1, fun f hf hm => ?_⟩
  have := (moff_pos f hf hm).2
  rw [zR_new, if_neg (by omega), zK_new, if_neg (by omega)]
  exact h.2 f hf hm
theorem mCo_new {a : Nat} {M : zM} {t n : Nat} {Y : yS} (h : mCo a M Y) (ha : a + 21 < zsz M) : mCo a (znew M t n) Y := by
  intro g j hg
  rw [← h g j hg]
  unfold mI
  by_cases hm : misc g = true
  · rw [if_pos hm, if_pos hm, zI_new, if_neg (by omega)]
  · have := (moff_pos g (by omega) (by simpa using hm)).2
    rw [if_neg hm, if_neg hm, zI_new, if_neg (by omega)]
theorem zdown {n : Nat} {F : Nat → Prop} (h0 : F n) (hs : ∀ k, k < n → F (k + 1) → F k) : ∀ k, k ≤ n → F k := by
  have key : ∀ j k, k + j = n → F k := by
    intro j
    induction j with
    | zero => intro k hk; rw [show k = n by omega]; exact h0
    | succ j ih => intro k hk; exact hs k (by omega) (ih (k + 1) (by omega))
  exact fun k hk => key (n - k) k (by omega)
/-! uses of contracts -/
theorem zu {E : zE} {f : zF} {d mc ms : Nat} {as : List zV} {M : zM} {v : Int} (hc : zCi E f d mc ms as M (fun r M' => r = v ∧ M' = M)) {K : Int → zM → Prop} (h : K v M) : ∃ P : Int → zM → Prop, zCi E f d mc ms as M P ∧ ∀ r M', P r M' → K r M' := ⟨_, hc, fun r M' ⟨e1, e2⟩ => by subst e1; subst e2; exact h⟩
theorem zul {E : zE} {f : zF} {d mc ms : Nat} {as : List zV} {M : zM} {v : Int64} (hc : zCl E f d mc ms as M (fun r M' => r = v ∧ M' = M)) {K : Int64 → zM → Prop} (h : K v M) : ∃ P : Int64 → zM → Prop, zCl E f d mc ms as M P ∧ ∀ r M', P r M' → K r M' := ⟨_, hc, fun r M' ⟨e1, e2⟩ => by subst e1; subst e2; exact h⟩
theorem zur {E : zE} {f : zF} {d mc ms : Nat} {as : List zV} {M : zM} {v : Option Nat} (hc : zCr E f d mc ms as M (fun r M' => r = v ∧ M' = M)) {K : Option Nat → zM → Prop} (h : K v M) : ∃ P : Option Nat → zM → Prop, zCr E f d mc ms as M P ∧ ∀ r M', P r M' → K r M' := ⟨_, hc, fun r M' ⟨e1, e2⟩ => by subst e1; subst e2; exact h⟩
def b2i (b : Bool) : Int := if b then 1 else 0
theorem b2i_01 (b : Bool) : b2i b = 0 ∨ b2i b = 1 := by cases b <;> simp [b2i]
theorem b2i_0 (b : Bool) : b2i b = 0 ↔ b = false := by cases b <;> simp [b2i]
theorem b2i_1 (b : Bool) : b2i b = 1 ↔ b = true := by cases b <;> simp [b2i]
