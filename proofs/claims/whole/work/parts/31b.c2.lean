/-! ===== Long.bitCount ===== -/
theorem k_bitCount {E : zE} {d : Nat} {M : zM} (l : Int64) : zCi E mJ13_bitCount_95d88 (d + 1) 0 0 [vL l] M (fun r M' => r = zpop l ∧ M' = M) := by
  sorry
