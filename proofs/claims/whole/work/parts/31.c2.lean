/-! ===== contracts of the class: Work ===== -/
section C2
variable {E : zE} {d : Nat} {M : zM} {b : Nat}
theorem k_isOpen (hK : zK M b = (6, 16)) : zCi E mX5_isOpen (d + 1) 0 0 [vR (some b)] M (fun r M' => r = p2i (zI M b 8 = -1) ∧ M' = M) :=
  sX5_isOpen _ (fun X hr => vX5_isOpen_0 hr _ ⟨hK, fun q => ⟨p2i_z0 q, rfl⟩, fun q => ⟨p2i_z1 q, rfl⟩⟩)
theorem k_behind (hK : zK M b = (6, 16)) {v : Int} (hz : zin v) (e : zI M b 8 + zI M b 7 = v) : zCi E mX5_behind (d + 1) 0 0 [vR (some b)] M (fun r M' => r = v ∧ M' = M) :=
  sX5_behind _ (fun X hr => vX5_behind_0 hr _ ⟨hK, hK, by rw [e]; exact hz, e, rfl⟩)
theorem k_hasBegun (hK : zK M b = (6, 16)) (w : Int) : zCi E mX5_hasBegun (d + 2) 0 0 [vR (some b), vI w] M (fun r M' => r = p2i (zI M b 8 ≠ -1 ∧ zI M b 8 < w) ∧ M' = M) := by
  refine sX5_hasBegun _ _ (fun X hr => vX5_hasBegun_0 hr _ _ ⟨hK, zu (k_isOpen hK) ⟨fun q => ⟨p2i_z0 (fun z => z.1 (p2i_n0.mp q)), rfl⟩, fun q => ⟨hK, fun q2 => ⟨p2i_z0 (fun z => by have := z.2; omega), rfl⟩, fun q2 => ⟨p2i_z1 ⟨p2i_0.mp q, q2⟩, rfl⟩⟩⟩⟩)
theorem k_isDone (hK : zK M b = (6, 16)) (w : Int) (hz : zin (zI M b 8 + zI M b 7)) : zCi E mX5_isDone (d + 2) 0 0 [vR (some b), vI w] M (fun r M' => r = p2i (zI M b 8 ≠ -1 ∧ zI M b 8 + zI M b 7 ≤ w) ∧ M' = M) := by
  refine sX5_isDone _ _ (fun X hr => vX5_isDone_0 hr _ _ ⟨hK, zu (k_isOpen hK) ⟨fun q => ⟨p2i_z0 (fun z => z.1 (p2i_n0.mp q)), rfl⟩, fun q => ⟨hK, zu (k_behind hK hz rfl) ⟨fun q2 => ⟨p2i_z0 (fun z => by have := z.2; omega), rfl⟩, fun q2 => ⟨p2i_z1 ⟨p2i_0.mp q, q2⟩, rfl⟩⟩⟩⟩⟩)
theorem k_leansOn {b2 : Nat} (hK : zK M b = (6, 16)) (hK2 : zK M b2 = (6, 16)) : zCi E mX5_leansOn (d + 1) 0 0 [vR (some b), vR (some b2)] M (fun r M' => r = p2i (zL M b 12 &&& zL M b2 1 ≠ 0) ∧ M' = M) := by
  refine sX5_leansOn _ _ (fun X hr => vX5_leansOn_0 hr _ _ ⟨hK, hK2, fun q => ⟨p2i_z0 (fun z => z ((cmp0 _).mp q)), rfl⟩, fun q => ⟨p2i_z1 (fun z => q ((cmp0 _).mpr z)), rfl⟩⟩)
theorem k_hangsOn {b2 : Nat} (hK : zK M b = (6, 16)) (hK2 : zK M b2 = (6, 16)) : zCi E mX5_hangsOn (d + 1) 0 0 [vR (some b), vR (some b2)] M (fun r M' => r = p2i (zL M b 13 &&& zL M b2 1 ≠ 0) ∧ M' = M) := by
  refine sX5_hangsOn _ _ (fun X hr => vX5_hangsOn_0 hr _ _ ⟨hK, hK2, fun q => ⟨p2i_z0 (fun z => z ((cmp0 _).mp q)), rfl⟩, fun q => ⟨p2i_z1 (fun z => q ((cmp0 _).mpr z)), rfl⟩⟩)
theorem k_isReady (hK : zK M b = (6, 16)) (l : Int64) : zCi E mX5_isReady (d + 2) 0 0 [vR (some b), vL l] M (fun r M' => r = p2i (zI M b 8 = -1 ∧ zL M b 12 &&& (l ^^^ (-1 : Int64)) = 0) ∧ M' = M) := by
  refine sX5_isReady _ _ (fun X hr => vX5_isReady_0 hr _ _ ⟨hK, zu (k_isOpen hK) ⟨fun q => ⟨p2i_z0 (fun z => p2i_0.mp q z.1), rfl⟩, fun q => ⟨hK, fun q2 => ⟨p2i_z0 (fun z => q2 ((cmp0 _).mpr z.2)), rfl⟩, fun q2 => ⟨p2i_z1 ⟨p2i_n0.mp q, (cmp0 _).mp q2⟩, rfl⟩⟩⟩⟩)
theorem k_wholeWay (hK : zK M b = (6, 16)) {v : Int} (hz1 : zin (zI M b 10 + zI M b 7)) (hz : zin v) (e : zI M b 10 + zI M b 7 + zI M b 11 = v) : zCi E mX5_wholeWay (d + 1) 0 0 [vR (some b)] M (fun r M' => r = v ∧ M' = M) :=
  sX5_wholeWay _ (fun X hr => vX5_wholeWay_0 hr _ ⟨hK, hK, hz1, hK, by rw [e]; exact hz, e, rfl⟩)
end C2
