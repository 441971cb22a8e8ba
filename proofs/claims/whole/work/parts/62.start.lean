/-! ===== the law: from its entry ===== -/
set_option maxRecDepth 20000 in
theorem lw_known {s : State} {A : Array Value} (hts : ∀ w ∈ lw_tbl, w.before A s = true) : ∃ (G : va_G) (cA : Nat → ClassId), va_K G vwCl (ztys cA) s ∧ va_AO RX5 s ∧ zAOA s ∧ zNN s := by
  have hT : ∀ w ∈ zT, w.before A s = true := fun w hw => hts w (List.mem_filter.mp hw).1
  obtain ⟨c0, i0, k0⟩ := u_known (C := RX0) (T := TX0) (N := 3) (n := 3) hT ui_X0 (hT _ kw_120)
  obtain ⟨c1, i1, k1⟩ := u_known (C := RX1) (T := TX1) (N := 5) (n := 5) hT ui_X1 (hT _ kw_55)
  obtain ⟨c2, i2, k2⟩ := u_known (C := RX2) (T := TX2) (N := 6) (n := 6) hT ui_X2 (hT _ kw_82)
  obtain ⟨c3, i3, k3⟩ := u_known (C := RX3) (T := TX3) (N := 5) (n := 5) hT ui_X3 (hT _ kw_167)
  obtain ⟨c4, i4, k4⟩ := u_known (C := RX4) (T := TX4) (N := 5) (n := 5) hT ui_X4 (hT _ kw_143)
  obtain ⟨c5, i5, k5⟩ := u_known (C := RX5) (T := TX5) (N := 16) (n := 16) hT ui_X5 (hT _ kw_276)
  obtain ⟨c6, i6, k6⟩ := u_known (C := RX6) (T := TX6) (N := 5) (n := 5) hT ui_X6 (hT _ kw_47)
  obtain ⟨c7, i7, k7⟩ := u_known (C := RX7) (T := TX7) (N := 25) (n := 25) hT ui_X7 (hT _ kw_679)
  obtain ⟨dC, dI, hKc⟩ : ∃ (dC : Nat → ClassId) (dI : Nat → Nat → Nat), ∀ (k : Nat) (q : vw_C), vwCl[k]? = some q → u_Kn s q.1 q.2.1 q.2.2 (dC k) (dI k) := by
    refine ⟨fun k => match k with | 0 => c0 | 1 => c1 | 2 => c2 | 3 => c3 | 4 => c4 | 5 => c5 | 6 => c6 | _ => c7, fun k => match k with | 0 => i0 | 1 => i1 | 2 => i2 | 3 => i3 | 4 => i4 | 5 => i5 | 6 => i6 | _ => i7, ?_⟩
    intro k q hq
    match k, hq with
    | 0, hq => cases hq; exact k0
    | 1, hq => cases hq; exact k1
    | 2, hq => cases hq; exact k2
    | 3, hq => cases hq; exact k3
    | 4, hq => cases hq; exact k4
    | 5, hq => cases hq; exact k5
    | 6, hq => cases hq; exact k6
    | 7, hq => cases hq; exact k7
    | k + 8, hq => simp [vwCl] at hq
  have wi : Cond.arrayClass .int ∈ lw_tbl := List.mem_of_getElem? (i := 80) rfl
  have wl : Cond.arrayClass .long ∈ lw_tbl := List.mem_of_getElem? (i := 118) rfl
  have wb : Cond.arrayClass .boolean ∈ lw_tbl := List.mem_of_getElem? (i := 760) rfl
  have wo : Cond.arrayOver (.object RX5) ∈ lw_tbl := List.mem_of_getElem? (i := 88) rfl
  have wa : Cond.arrayOver (.array .int) ∈ lw_tbl := List.mem_of_getElem? (i := 126) rfl
  have n1 : Cond.methodLinkNest RX6 9 yX1_init "RefitYard" ∈ lw_tbl := List.mem_of_getElem? (i := 56) rfl
  have n2 : Cond.methodLinkNest RX6 18 yX2_init "RefitYard" ∈ lw_tbl := List.mem_of_getElem? (i := 83) rfl
  have n3 : Cond.methodLinkNest RX6 25 yX0_init "RefitYard" ∈ lw_tbl := List.mem_of_getElem? (i := 121) rfl
  obtain ⟨ci, ki, mi, a1, a2, a3⟩ := Cond.arrayClass_spec (hts _ wi)
  obtain ⟨cl, kl, ml, b1, b2, b3⟩ := Cond.arrayClass_spec (hts _ wl)
  obtain ⟨cb, kb, mb, d1, d2, d3⟩ := Cond.arrayClass_spec (hts _ wb)
  obtain ⟨mo, co, ko, o1, o2, o3, o4, o5⟩ := Cond.arrayOver_spec (hts _ wo)
  obtain ⟨ma, ca, ka, p1, p2, p3, p4, p5⟩ := arrayOverA_spec (hts _ wa)
  refine ⟨(dC, dI), fun k => match k with | 9 => ci | 10 => cb | 11 => cl | 12 => co | _ => ca, ⟨hKc, fun k q hq => ?_⟩, va_AO.of (hts _ wo), ⟨ma, ca, ka, p1, p2, p3, p4, p5⟩, fun q hq => ?_⟩
  · match k, hq with
    | 0, hq => cases hq; exact ⟨fun n z => ⟨fun k h => (by cases h), ki, a2, mi, a3⟩, a1⟩
    | 1, hq => cases hq; exact ⟨fun n z => ⟨fun k h => (by cases h), kb, d2, mb, d3⟩, d1⟩
    | 2, hq => cases hq; exact ⟨fun n z => ⟨fun k h => (by cases h), kl, b2, ml, b3⟩, b1⟩
    | 3, hq => cases hq; exact ⟨fun n z => ⟨fun k h => (by cases h), ko, o3, mo, o4⟩, ⟨ko, mo, o3, o4, o1, o5⟩⟩
    | 4, hq => cases hq; exact ⟨fun n z => ⟨fun k h => (by cases h), ka, p3, ma, p4⟩, p5⟩
    | k + 5, hq => simp [ztys] at hq
  · rcases List.mem_cons.mp hq with e | e
    · rw [e]; exact va_Nw.of rfl (hts _ n1)
    · rcases List.mem_cons.mp e with e | e
      · rw [e]; exact va_Nw.of rfl (hts _ n2)
      · rcases List.mem_cons.mp e with e | e
        · rw [e]; exact va_Nw.of rfl (hts _ n3)
        · cases e
theorem lw_begin {E : zE} {X : zX} {b L : Nat} {sc : Nat → Int32} (hs : lwS E X b L sc) (hret : (xh X).sig.returnType = ret) (harg : xa X = #[Value.ref b]) {M0 : zM} : ZL E X (lw_Z (xb X) #[Value.ref b] (xs X)) 0 [(0, vR (some b))] [] M0 0 0 := by
  refine z_new nw_L_7 dL_law_0 (Nat.le_of_ble_eq_true rfl) (Nat.le_of_ble_eq_true rfl) ?_
  refine z_dup dL_law_3 rfl ?_
  have g0 : gM (zsz M0) 0 [] M0 M0 := ⟨rfl, fun o ho => absurd ho (Nat.not_lt_zero _), fun q hq => (by cases hq), fun o ho => absurd ho (Nat.not_lt_zero _), fun o ho => absurd ho (Nat.not_lt_zero _), fun _ _ => ⟨rfl, fun _ => rfl, fun _ => rfl, fun _ => rfl⟩⟩
  have g1 : gM (zsz M0) 1 [] M0 (znew M0 7 5) := gM_new g0 rfl (by decide) (by decide) rfl
  refine y_Iv (as := []) mi_L_9 dL_law_4 (k_init (d := 38) g1) rfl rfl (Nat.le_of_ble_eq_true rfl) (Nat.le_of_ble_eq_true rfl) (Nat.le_of_ble_eq_true rfl) (fun M1 g2 => ?_)
  refine z_astore_n dL_law_7 (by decide) rfl ?_
  refine z_new nw_L_10 dL_law_8 (Nat.le_of_ble_eq_true rfl) (Nat.le_of_ble_eq_true rfl) ?_
  refine z_dup dL_law_11 rfl ?_
  have hz1 : zsz M1 = zsz M0 + 22 := g2.1
  generalize hx : zsz M0 = x at hz1 g2 ⊢
  rw [hz1]
  have e2 : zsz (znew M1 8 25) = x + 22 + 1 := by rw [zsz_new, hz1]
  have k2 : zK (znew M1 8 25) (x + 22) = (8, 25) := by rw [zK_new, if_pos hz1.symm]
  have i2 : ∀ i, zI (znew M1 8 25) (x + 22) i = 0 := fun i => by rw [zI_new, if_pos hz1.symm]
  refine y_Iv (as := []) mi_L_12 dL_law_12 (c_init (d := 39) e2 k2 i2) rfl rfl (Nat.le_of_ble_eq_true rfl) (Nat.le_of_ble_eq_true rfl) (Nat.le_of_ble_eq_true rfl) (fun M3 h3 => ?_)
  refine z_astore_n dL_law_15 (by decide) rfl ?_
  refine z_iconst dL_law_16 (by decide) ?_
  refine z_istore_n dL_law_17 (by decide) rfl ?_
  have fr : zFr (fun _ => False) M1 M3 := by
    refine ⟨by rw [h3.1, hz1]; omega, fun q hq _ => ?_⟩
    have hlt : q < x + 22 := by omega
    obtain ⟨c1, c2, c3, c4⟩ := h3.2.2.2.2 q hlt
    have ne : q ≠ zsz M1 := by omega
    exact ⟨by rw [c1, zK_new, if_neg ne], fun j => by rw [c2, zI_new, if_neg ne], fun j => by rw [c3, zL_new, if_neg ne], fun j => by rw [c4, zR_new, if_neg ne]⟩
  have hR := kR_0 g2
  obtain ⟨ms, mc⟩ := m_0 h3
  have hI : lwI x ((0 : Nat) : Int) M3 yZ0 := ⟨⟨_, _, _, kSh_fr hR.1 (by omega) fr (fun _ _ _ z => z), kCo_fr hR.1 hR.2.1 (by omega) fr (fun _ _ _ z => z), hR.2.2⟩, ms, mc, yJ_0, by rw [h3.1]; omega⟩
  have lp := lw_loop hs hret harg (x := x) L 0 M3 yZ0 (by omega) (by omega) hI
  refine z_wid (Nat.le_of_ble_eq_true rfl) (Nat.le_of_ble_eq_true rfl) (z_sub [3, 2, 1, 0] rfl lp)
/-- from the entry, for every script of at most 2048 ints, the law comes to its end with true -/
theorem whole_start {p : Program} {e : Env} {s : State} {m : MethodId} {below : List Frame} {meth : Method} {c : Code} (l : Launch) {b L : Nat} {xs : Nat → Int32} (hL : L ≤ 2048) (C0 : lw_At p s m meth c b L xs) : W p l e room_1 s m #[Value.ref b] below meth c s.heap [] 0 0 (lw_Z below #[Value.ref b] s) (entryFrame m ([Value.ref b] : List Value).toArray 4) := by
  obtain ⟨hx, hb, hr, hml, hown, hts, hX, hbl, hlocks, hgv⟩ := C0
  obtain ⟨G, cA, hKn⟩ := lw_known hts
  have hT : ∀ w ∈ zT, w.before #[Value.ref b] s = true := fun w hw => hts w (List.mem_filter.mp hw).1
  have hl := lv_entry ([Value.ref b]) (n := 4) (Nat.le_of_ble_eq_true rfl)
  rw [lg_entry_eq]
  generalize (lg_sl ([Value.ref b]) ++ List.replicate (4 - (lg_sl ([Value.ref b])).length) Slot.unset).toArray = ls at hl ⊢
  have hl : lv_has ls 4 (zlv [(0, vR (some b))]) := hl
  have st := lw_begin (E := (l, s.heap.size, G, cA)) (X := (p, e, s, m, #[Value.ref b], below, meth, c)) (L := L) (sc := xs) ⟨hX, hbl, rfl, hL⟩ hr rfl (M0 := (s.heap.size, fun _ => (0, 0), fun _ _ => 0, fun _ _ => 0, fun _ _ => none))
  exact st ⟨hx, hb, hml, hown, hT, hKn, hlocks, Nat.le_refl _, rfl⟩ ⟨fun _ _ => zin_0, fun _ => (by show (0 : Nat) < 2147483648; omega), fun _ h => absurd rfl h⟩ zokS_nil (fun q hq => by rw [List.mem_singleton.mp hq]; trivial) s.heap [] ls ⟨rfl, Nat.le_refl _, fun k q hq => by
    obtain ⟨h1, -⟩ := zws_at hq
    have h1 : k < s.heap.size - s.heap.size := h1
    omega⟩ va_S.rf hl
