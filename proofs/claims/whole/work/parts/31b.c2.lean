/-! ===== Long.bitCount, its contract ===== -/
theorem k_bitCount {E : zE} {d : Nat} {M : zM} (l : Int64) : zCi E mJ13_bitCount_95d88 (d + 1) 0 0 [vL l] M (fun r M' => r = zpop l ∧ M' = M) := by
  refine sJ13_bitCount_95d88 _ (fun X hr => vJ13_bitCount_95d88_0 hr _ ?_)
  obtain ⟨h1, h2⟩ := zbc_n (l := l) rfl rfl rfl rfl rfl rfl
  exact ⟨h1, by omega, h2, rfl⟩
