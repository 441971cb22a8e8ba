/-! ===== the reference's cells, one by one ===== -/
theorem mk0 {a : Nat} {M : zM} (h : mSh a M) : zK M a = (8, 25) := h.1
theorem mr2 {a : Nat} {M : zM} (h : mSh a M) : zR M a 2 = some (a + 1) := (h.2 2 (by decide) rfl).1
theorem mk2 {a : Nat} {M : zM} (h : mSh a M) : zK M (a + 1) = (9, 20) := (h.2 2 (by decide) rfl).2
theorem mi2 {a : Nat} {M : zM} {Y : yS} (h : mCo a M Y) (i : Int) : zI M (a + 1) i = Y 2 i := h 2 i (by decide)
theorem mr3 {a : Nat} {M : zM} (h : mSh a M) : zR M a 3 = some (a + 2) := (h.2 3 (by decide) rfl).1
theorem mk3 {a : Nat} {M : zM} (h : mSh a M) : zK M (a + 2) = (10, 400) := (h.2 3 (by decide) rfl).2
theorem mi3 {a : Nat} {M : zM} {Y : yS} (h : mCo a M Y) (i : Int) : zI M (a + 2) i = Y 3 i := h 3 i (by decide)
theorem mr4 {a : Nat} {M : zM} (h : mSh a M) : zR M a 4 = some (a + 3) := (h.2 4 (by decide) rfl).1
theorem mk4 {a : Nat} {M : zM} (h : mSh a M) : zK M (a + 3) = (9, 4) := (h.2 4 (by decide) rfl).2
theorem mi4 {a : Nat} {M : zM} {Y : yS} (h : mCo a M Y) (i : Int) : zI M (a + 3) i = Y 4 i := h 4 i (by decide)
theorem mr5 {a : Nat} {M : zM} (h : mSh a M) : zR M a 5 = some (a + 4) := (h.2 5 (by decide) rfl).1
theorem mk5 {a : Nat} {M : zM} (h : mSh a M) : zK M (a + 4) = (9, 4) := (h.2 5 (by decide) rfl).2
theorem mi5 {a : Nat} {M : zM} {Y : yS} (h : mCo a M Y) (i : Int) : zI M (a + 4) i = Y 5 i := h 5 i (by decide)
theorem mr7 {a : Nat} {M : zM} (h : mSh a M) : zR M a 7 = some (a + 5) := (h.2 7 (by decide) rfl).1
theorem mk7 {a : Nat} {M : zM} (h : mSh a M) : zK M (a + 5) = (9, 25) := (h.2 7 (by decide) rfl).2
theorem mi7 {a : Nat} {M : zM} {Y : yS} (h : mCo a M Y) (i : Int) : zI M (a + 5) i = Y 7 i := h 7 i (by decide)
theorem mr9 {a : Nat} {M : zM} (h : mSh a M) : zR M a 9 = some (a + 6) := (h.2 9 (by decide) rfl).1
theorem mk9 {a : Nat} {M : zM} (h : mSh a M) : zK M (a + 6) = (9, 40) := (h.2 9 (by decide) rfl).2
theorem mi9 {a : Nat} {M : zM} {Y : yS} (h : mCo a M Y) (i : Int) : zI M (a + 6) i = Y 9 i := h 9 i (by decide)
theorem mr10 {a : Nat} {M : zM} (h : mSh a M) : zR M a 10 = some (a + 7) := (h.2 10 (by decide) rfl).1
theorem mk10 {a : Nat} {M : zM} (h : mSh a M) : zK M (a + 7) = (9, 40) := (h.2 10 (by decide) rfl).2
theorem mi10 {a : Nat} {M : zM} {Y : yS} (h : mCo a M Y) (i : Int) : zI M (a + 7) i = Y 10 i := h 10 i (by decide)
theorem mr11 {a : Nat} {M : zM} (h : mSh a M) : zR M a 11 = some (a + 8) := (h.2 11 (by decide) rfl).1
theorem mk11 {a : Nat} {M : zM} (h : mSh a M) : zK M (a + 8) = (9, 40) := (h.2 11 (by decide) rfl).2
theorem mi11 {a : Nat} {M : zM} {Y : yS} (h : mCo a M Y) (i : Int) : zI M (a + 8) i = Y 11 i := h 11 i (by decide)
theorem mr12 {a : Nat} {M : zM} (h : mSh a M) : zR M a 12 = some (a + 9) := (h.2 12 (by decide) rfl).1
theorem mk12 {a : Nat} {M : zM} (h : mSh a M) : zK M (a + 9) = (9, 40) := (h.2 12 (by decide) rfl).2
theorem mi12 {a : Nat} {M : zM} {Y : yS} (h : mCo a M Y) (i : Int) : zI M (a + 9) i = Y 12 i := h 12 i (by decide)
theorem mr13 {a : Nat} {M : zM} (h : mSh a M) : zR M a 13 = some (a + 10) := (h.2 13 (by decide) rfl).1
theorem mk13 {a : Nat} {M : zM} (h : mSh a M) : zK M (a + 10) = (9, 40) := (h.2 13 (by decide) rfl).2
theorem mi13 {a : Nat} {M : zM} {Y : yS} (h : mCo a M Y) (i : Int) : zI M (a + 10) i = Y 13 i := h 13 i (by decide)
theorem mr14 {a : Nat} {M : zM} (h : mSh a M) : zR M a 14 = some (a + 11) := (h.2 14 (by decide) rfl).1
theorem mk14 {a : Nat} {M : zM} (h : mSh a M) : zK M (a + 11) = (9, 40) := (h.2 14 (by decide) rfl).2
theorem mi14 {a : Nat} {M : zM} {Y : yS} (h : mCo a M Y) (i : Int) : zI M (a + 11) i = Y 14 i := h 14 i (by decide)
theorem mr15 {a : Nat} {M : zM} (h : mSh a M) : zR M a 15 = some (a + 12) := (h.2 15 (by decide) rfl).1
theorem mk15 {a : Nat} {M : zM} (h : mSh a M) : zK M (a + 12) = (9, 40) := (h.2 15 (by decide) rfl).2
theorem mi15 {a : Nat} {M : zM} {Y : yS} (h : mCo a M Y) (i : Int) : zI M (a + 12) i = Y 15 i := h 15 i (by decide)
theorem mr16 {a : Nat} {M : zM} (h : mSh a M) : zR M a 16 = some (a + 13) := (h.2 16 (by decide) rfl).1
theorem mk16 {a : Nat} {M : zM} (h : mSh a M) : zK M (a + 13) = (9, 40) := (h.2 16 (by decide) rfl).2
theorem mi16 {a : Nat} {M : zM} {Y : yS} (h : mCo a M Y) (i : Int) : zI M (a + 13) i = Y 16 i := h 16 i (by decide)
theorem mr17 {a : Nat} {M : zM} (h : mSh a M) : zR M a 17 = some (a + 14) := (h.2 17 (by decide) rfl).1
theorem mk17 {a : Nat} {M : zM} (h : mSh a M) : zK M (a + 14) = (10, 1600) := (h.2 17 (by decide) rfl).2
theorem mi17 {a : Nat} {M : zM} {Y : yS} (h : mCo a M Y) (i : Int) : zI M (a + 14) i = Y 17 i := h 17 i (by decide)
theorem mr18 {a : Nat} {M : zM} (h : mSh a M) : zR M a 18 = some (a + 15) := (h.2 18 (by decide) rfl).1
theorem mk18 {a : Nat} {M : zM} (h : mSh a M) : zK M (a + 15) = (10, 1600) := (h.2 18 (by decide) rfl).2
theorem mi18 {a : Nat} {M : zM} {Y : yS} (h : mCo a M Y) (i : Int) : zI M (a + 15) i = Y 18 i := h 18 i (by decide)
theorem mr19 {a : Nat} {M : zM} (h : mSh a M) : zR M a 19 = some (a + 16) := (h.2 19 (by decide) rfl).1
theorem mk19 {a : Nat} {M : zM} (h : mSh a M) : zK M (a + 16) = (10, 40) := (h.2 19 (by decide) rfl).2
theorem mr20 {a : Nat} {M : zM} (h : mSh a M) : zR M a 20 = some (a + 17) := (h.2 20 (by decide) rfl).1
theorem mk20 {a : Nat} {M : zM} (h : mSh a M) : zK M (a + 17) = (9, 40) := (h.2 20 (by decide) rfl).2
theorem mr21 {a : Nat} {M : zM} (h : mSh a M) : zR M a 21 = some (a + 18) := (h.2 21 (by decide) rfl).1
theorem mk21 {a : Nat} {M : zM} (h : mSh a M) : zK M (a + 18) = (9, 40) := (h.2 21 (by decide) rfl).2
theorem mr22 {a : Nat} {M : zM} (h : mSh a M) : zR M a 22 = some (a + 19) := (h.2 22 (by decide) rfl).1
theorem mk22 {a : Nat} {M : zM} (h : mSh a M) : zK M (a + 19) = (9, 6) := (h.2 22 (by decide) rfl).2
theorem mr23 {a : Nat} {M : zM} (h : mSh a M) : zR M a 23 = some (a + 20) := (h.2 23 (by decide) rfl).1
theorem mk23 {a : Nat} {M : zM} (h : mSh a M) : zK M (a + 20) = (9, 7) := (h.2 23 (by decide) rfl).2
theorem mr24 {a : Nat} {M : zM} (h : mSh a M) : zR M a 24 = some (a + 21) := (h.2 24 (by decide) rfl).1
theorem mk24 {a : Nat} {M : zM} (h : mSh a M) : zK M (a + 21) = (9, 6) := (h.2 24 (by decide) rfl).2
theorem mi0 {a : Nat} {M : zM} {Y : yS} (h : mCo a M Y) : zI M a 0 = Y 0 0 := h 0 0 (by decide)
theorem mi1 {a : Nat} {M : zM} {Y : yS} (h : mCo a M Y) : zI M a 1 = Y 1 0 := h 1 0 (by decide)
theorem mi6 {a : Nat} {M : zM} {Y : yS} (h : mCo a M Y) : zI M a 6 = Y 6 0 := h 6 0 (by decide)
theorem mi8 {a : Nat} {M : zM} {Y : yS} (h : mCo a M Y) : zI M a 8 = Y 8 0 := h 8 0 (by decide)
