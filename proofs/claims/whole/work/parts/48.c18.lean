/-! ===== the class: work, whole ===== -/
theorem kR_O {x : Nat} {wa : Int → Nat} {M M' : zM} {V Y : yS} {L : yL} (h : kR x wa M V L Y) (hz : x + 44 ≤ zsz M) (f : zFr (fun _ => False) M M') : kR x wa M' V L Y := ⟨kSh_fr h.1 (by omega) f (fun _ _ _ z => z), kCo_fr h.1 h.2.1 (by omega) f (fun _ _ _ z => z), h.2.2⟩
theorem zFr_mono {A B : Nat → Prop} {M M' : zM} (h : zFr A M M') (hAB : ∀ b, A b → B b) : zFr B M M' := ⟨h.1, fun b hb hB => h.2 b hb (fun z => hB (hAB b z))⟩
theorem workOk_iff {Y : yS} {w g : Int} (w0 : 0 ≤ w) (hg : -1 ≤ g ∧ g ≤ 3) (h40 : Y 8 0 ≠ 40) : workOk Y w g ↔ wOkC Y w := by
  have m1 : 0 ≤ (w.tdiv 1000).tmod 10 := Int.tmod_nonneg _ (Int.tdiv_nonneg w0 (by omega))
  have m3 : 0 ≤ w.tmod 100 := Int.tmod_nonneg _ w0
  have m4 : 0 ≤ (w.tdiv 100).tmod 10 := Int.tmod_nonneg _ (Int.tdiv_nonneg w0 (by omega))
  unfold workOk wOkC
  constructor
  · rintro ⟨-, a, b, e, f, h, -, -⟩
    exact ⟨a, b, ⟨m1, e⟩, ⟨m4, f⟩, ⟨m3, h⟩⟩
  · rintro ⟨a, b, e, f, h⟩
    exact ⟨w0, a, b, e.2, f.2, h.2, hg, h40⟩
section C18
variable {E : zE} {d x : Nat} {wa : Int → Nat} {M : zM} {V Y : yS} {L : yL} {c : Int}
theorem k_work (h : kR x wa M V L Y) (hj : yJ c Y) (hz : x + 44 ≤ zsz M) (w g : Int) : zCi E mX6_work (d + 5) 1 16 [vR (some x), vI w, vI g] M (fun r M' => r = workR Y w g ∧ kO x M M' (workY Y w g)) := by
  refine sX6_work _ _ _ (fun X hr => vX6_work_0 hr _ _ _ ?_)
  have hi := hj.1
  have h8 := yI_n hi
  have no : ∀ M1 : zM, ¬ workOk Y w g → zFr (fun _ => False) M M1 → (-1 : Int) = workR Y w g ∧ kO x M M1 (workY Y w g) := fun M1 q f => ⟨by unfold workR; rw [pif_f q], by unfold workY; rw [pif_f q]; exact ⟨wa, V, L, kR_O h hz f, zFr_mono f (fun _ z => z.elim)⟩⟩
  have no0 : ¬ workOk Y w g → (-1 : Int) = workR Y w g ∧ kO x M M (workY Y w g) := fun q => no M q zFr_rf
  have rest : 0 ≤ w → Y 8 0 < 40 → (-1 ≤ g ∧ g ≤ 3) → ∀ M7, M7 = znew M 6 16 → zK M7 x = (7, 5) ∧ ∃ b9, zR M7 x 1 = some b9 ∧ zK M7 b9 = (3, 6) ∧ ∃ P11 : zM → Prop, zCv E mX5_init (d + 4) 0 0 [vR (some (zsz M)), vI (zI M7 b9 4), vI w, vI g] M7 P11 ∧ ∀ M13, P11 M13 → zK M13 x = (7, 5) ∧ ∃ P16 : Int → zM → Prop, zCi E mX6_canBe (d + 4) 0 0 [vR (some x), vR (some (zsz M))] M13 P16 ∧ ∀ r19 M18, P16 r19 M18 → ((r19 ≠ 0 → zK M18 x = (7, 5) ∧ ∃ b24, zR M18 x 1 = some b24 ∧ zK M18 b24 = (3, 6) ∧ ∃ P25 : zM → Prop, zCv E mX2_addWork (d + 4) 0 0 [vR (some b24), vR (some (zsz M))] M18 P25 ∧ ∀ M27, P25 M27 → zK M27 x = (7, 5) ∧ ∃ b32, zR M27 x 3 = some b32 ∧ zK M27 b32 = (5, 5) ∧ ∃ P33 : zM → Prop, zCv E mX4_markFoes (d + 4) 0 0 [vR (some b32)] M27 P33 ∧ ∀ M35, P33 M35 → zK M35 (zsz M) = (6, 16) ∧ (zI M35 (zsz M) 0 = workR Y w g ∧ kO x M M35 (workY Y w g))) ∧ (r19 = 0 → (-1 : Int) = workR Y w g ∧ kO x M M18 (workY Y w g))) := by
    intro w0 h40 hg M7 e7
    have f7 : zFr (fun _ => False) M M7 := by rw [e7]; exact zFr_new zFr_rf
    have hR7 := kR_O h hz f7
    have hK7 : zK M7 (zsz M) = (6, 16) := by rw [e7, zK_new, if_pos rfl]
    have hI7 : ∀ i, zI M7 (zsz M) i = 0 := fun i => by rw [e7, zI_new, if_pos rfl]
    have hL7 : ∀ i, zL M7 (zsz M) i = 0 := fun i => by rw [e7, zL_new, if_pos rfl]
    have hz7 : zsz M7 = zsz M + 1 := by rw [e7, zsz_new]
    simp only [kk0 hR7.1, kk1 hR7.1, kk2 hR7.1, kk3 hR7.1, kk4 hR7.1, kk5 hR7.1, kk6 hR7.1, kk7 hR7.1, kk8 hR7.1, kk9 hR7.1, kk10 hR7.1, kk11 hR7.1, kk12 hR7.1, kk13 hR7.1, kk14 hR7.1, kk15 hR7.1, kk16 hR7.1, kk17 hR7.1, kk18 hR7.1, kk19 hR7.1, kk20 hR7.1, kk21 hR7.1, kr0_0 hR7.1, kr0_1 hR7.1, kr0_2 hR7.1, kr0_3 hR7.1, kr0_4 hR7.1, kr1_0 hR7.1, kr1_1 hR7.1, kr1_2 hR7.1, kr5_0 hR7.1, kr5_1 hR7.1, kr5_2 hR7.1, kr5_3 hR7.1, kr10_0 hR7.1, kr10_1 hR7.1, kr17_0 hR7.1, kr17_1 hR7.1, kr17_2 hR7.1, kr17_3 hR7.1, kr17_4 hR7.1, kr20_0 hR7.1, kr20_1 hR7.1, kr20_2 hR7.1, kr20_3 hR7.1, ki1 hR7.2.1, ki2 hR7.2.1, ki3 hR7.2.1, ki4 hR7.2.1, ki5 hR7.2.1, ki7 hR7.2.1, kl8 hR7.2.1, kl9 hR7.2.1, ki10 hR7.2.1, kl11 hR7.2.1, ki13 hR7.2.1, ki14 hR7.2.1, ki15 hR7.2.1, ki16 hR7.2.1, ki17 hR7.2.1, ki18 hR7.2.1, ki19 hR7.2.1, ki20 hR7.2.1, ki21 hR7.2.1, Option.some.injEq, exists_eq_left', true_and, rs13 hR7.2.2, rs14 hR7.2.2, rs54 hR7.2.2, rs102 hR7.2.2, rg2 hR7.2.2, rg18 hR7.2.2, rg19 hR7.2.2]
    refine ⟨_, k_wInit hK7 _ _ _, ?_⟩
    rintro M13 e13
    have f13 : zFr (fun _ => False) M M13 := by rw [e13, e7]; exact wNew_fr
    have hR13 := kR_O h hz f13
    have hK13 : zK M13 (zsz M) = (6, 16) := by rw [e13]; exact hK7
    have hI13 : ∀ i, zI M13 (zsz M) i = NI (Y 8 0) w g i := fun i => by rw [e13]; exact wNew_I hI7 i
    have hL13 : ∀ i, zL M13 (zsz M) i = if i = 1 then zbit (Y 8 0) else 0 := fun i => by rw [e13]; exact wNew_L hL7 i
    have hz13 : zsz M13 = zsz M + 1 := by rw [e13]; exact hz7
    refine ⟨kk0 hR13.1, zu (k_canBe hR13.1 hR13.2.1 (rs13 h.2.2) hK13 hI13) ⟨fun q => ?_, fun q => no M13 (fun z => p2i_0.mp q ((workOk_iff w0 hg (by omega)).mp z)) f13⟩⟩
    have ok : workOk Y w g := (workOk_iff w0 hg (by omega)).mpr (p2i_n0.mp q)
    have hj' := yJ_work1 hj ok
    have hne : ∀ k, 0 ≤ k → k < Y 8 0 → wa k ≠ zsz M := fun k k0 k1 e => by
      have := (h.1.2.2.1 k k0 k1).2.2.2
      omega
    generalize hza : zsz M = a at hK13 hI13 hL13 hz13 hne ⊢
    have hxa : x + 44 ≤ a := by omega
    have haz : a < zsz M13 := by omega
    obtain ⟨wa', ewa, hwa⟩ : ∃ wa' : Int → Nat, wa' (Y 8 0) = a ∧ ∀ k, k ≠ Y 8 0 → wa' k = wa k := ⟨fun k => if k = Y 8 0 then a else wa k, if_pos rfl, fun k hk => if_neg hk⟩
    rw [← ewa] at hK13 hI13 hL13 hne hxa haz ⊢
    refine ⟨kk0 hR13.1, x + 5, kr0_1 hR13.1, kk5 hR13.1, _, k_addWork hR13.1 hR13.2.1 h.2.2 hj ok hwa hK13 hxa haz hne hI13 hL13, ?_⟩
    rintro M27 ⟨V1, L1, hs1, hc1, f1, z1, hS, hG, hN, hB, hW, hnd, hun, htl, het, htk, hbd⟩
    refine ⟨kk0 hs1, x + 17, kr0_3 hs1, kk17 hs1, _, k_markFoes (Y := workY1 Y w g) hs1 hc1 hS.2.2.1 hW hN hB hj'.1 hj'.2.2.1, ?_⟩
    rintro M35 ⟨L2, hp2, hl2, hf⟩
    have n1 : Y 8 0 < workY1 Y w g 8 0 := by rw [workY1_8]; omega
    have hwn : yWk (workY1 Y w g) (Y 8 0) := ⟨h8.1, n1⟩
    refine ⟨kwK hp2.1 h8.1 n1, ?_, ?_⟩
    · rw [kwi0 hp2.2.1 h8.1 n1, (hW _ hwn).1]
      unfold workR
      rw [pif_t ok]
    · unfold workY
      rw [pif_t ok]
      refine ⟨wa', V1, L2, ⟨hp2.1, hp2.2.1, hS, hG, hN, hB, rW_c hW (fun _ _ _ _ => rfl) (fun i => hl2 23 i (by omega)) (fun _ _ _ _ => rfl), rNd_c hnd (fun i => hl2 34 i (by omega)) (fun _ => rfl) (fun _ => rfl), rUn_c hun (fun i => hl2 35 i (by omega)) (fun _ => rfl) (fun _ => rfl), rTl_c htl (fun i => hl2 36 i (by omega)) (fun _ => rfl) (fun _ => rfl), hf, het, rTk_c htk (fun i => hl2 8 i (by omega)) (fun i => hl2 9 i (by omega)) (fun _ => rfl) (fun _ => rfl) (fun _ => rfl), rBd_c hbd (fun i => hl2 11 i (by omega)) (fun _ _ _ => rfl) (fun _ => rfl) (fun _ => rfl) (fun _ => rfl) (fun _ => rfl) (fun _ => rfl)⟩, zFr_tr (zFr_mono f13 (fun _ z => z.elim)) (zFr_tr f1 hp2.2.2.1)⟩
  simp only [kk0 h.1, kk1 h.1, kk2 h.1, kk3 h.1, kk4 h.1, kk5 h.1, kk6 h.1, kk7 h.1, kk8 h.1, kk9 h.1, kk10 h.1, kk11 h.1, kk12 h.1, kk13 h.1, kk14 h.1, kk15 h.1, kk16 h.1, kk17 h.1, kk18 h.1, kk19 h.1, kk20 h.1, kk21 h.1, kr0_0 h.1, kr0_1 h.1, kr0_2 h.1, kr0_3 h.1, kr0_4 h.1, kr1_0 h.1, kr1_1 h.1, kr1_2 h.1, kr5_0 h.1, kr5_1 h.1, kr5_2 h.1, kr5_3 h.1, kr10_0 h.1, kr10_1 h.1, kr17_0 h.1, kr17_1 h.1, kr17_2 h.1, kr17_3 h.1, kr17_4 h.1, kr20_0 h.1, kr20_1 h.1, kr20_2 h.1, kr20_3 h.1, ki1 h.2.1, ki2 h.2.1, ki3 h.2.1, ki4 h.2.1, ki5 h.2.1, ki7 h.2.1, kl8 h.2.1, kl9 h.2.1, ki10 h.2.1, kl11 h.2.1, ki13 h.2.1, ki14 h.2.1, ki15 h.2.1, ki16 h.2.1, ki17 h.2.1, ki18 h.2.1, ki19 h.2.1, ki20 h.2.1, ki21 h.2.1, Option.some.injEq, exists_eq_left', true_and, rs13 h.2.2, rs14 h.2.2, rs54 h.2.2, rs102 h.2.2, rg2 h.2.2, rg18 h.2.2, rg19 h.2.2]
  refine ⟨fun q => no0 (fun z => by have := z.1; omega), fun w0 => ⟨fun q => no0 (fun z => z.2.2.2.2.2.2.2 (by omega)), fun h40 => ⟨fun q => rest w0 h40 (by omega), fun q => zu (k_isGood g) ⟨fun q2 => ?_, fun q2 => no0 (fun z => p2i_0.mp q2 ?_)⟩⟩⟩⟩
  · have := p2i_n0.mp q2
    exact rest w0 h40 (by omega)
  · have := z.2.2.2.2.2.2.1
    omega
end C18
