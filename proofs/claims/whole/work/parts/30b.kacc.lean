/-! ===== the class's cells, one by one ===== -/
theorem kk0 {x : Nat} {wa : Int → Nat} {n : Int} {M : zM} (h : kSh x wa n M) : zK M x = (7, 5) := h.1 0 (by decide)
theorem kk1 {x : Nat} {wa : Int → Nat} {n : Int} {M : zM} (h : kSh x wa n M) : zK M (x + 1) = (2, 5) := h.1 1 (by decide)
theorem ki1 {x : Nat} {wa : Int → Nat} {n : Int} {M : zM} {V : yS} {L : yL} (h : kCo x wa n M V L) (i : Int) : zI M (x + 1) i = V 1 i := h.1 1 i (by decide)
theorem kk2 {x : Nat} {wa : Int → Nat} {n : Int} {M : zM} (h : kSh x wa n M) : zK M (x + 2) = (9, 20) := h.1 2 (by decide)
theorem ki2 {x : Nat} {wa : Int → Nat} {n : Int} {M : zM} {V : yS} {L : yL} (h : kCo x wa n M V L) (i : Int) : zI M (x + 2) i = V 2 i := h.1 2 i (by decide)
theorem kk3 {x : Nat} {wa : Int → Nat} {n : Int} {M : zM} (h : kSh x wa n M) : zK M (x + 3) = (9, 20) := h.1 3 (by decide)
theorem ki3 {x : Nat} {wa : Int → Nat} {n : Int} {M : zM} {V : yS} {L : yL} (h : kCo x wa n M V L) (i : Int) : zI M (x + 3) i = V 3 i := h.1 3 i (by decide)
theorem kk4 {x : Nat} {wa : Int → Nat} {n : Int} {M : zM} (h : kSh x wa n M) : zK M (x + 4) = (9, 15) := h.1 4 (by decide)
theorem ki4 {x : Nat} {wa : Int → Nat} {n : Int} {M : zM} {V : yS} {L : yL} (h : kCo x wa n M V L) (i : Int) : zI M (x + 4) i = V 4 i := h.1 4 i (by decide)
theorem kk5 {x : Nat} {wa : Int → Nat} {n : Int} {M : zM} (h : kSh x wa n M) : zK M (x + 5) = (3, 6) := h.1 5 (by decide)
theorem ki5 {x : Nat} {wa : Int → Nat} {n : Int} {M : zM} {V : yS} {L : yL} (h : kCo x wa n M V L) (i : Int) : zI M (x + 5) i = V 5 i := h.1 5 i (by decide)
theorem kk6 {x : Nat} {wa : Int → Nat} {n : Int} {M : zM} (h : kSh x wa n M) : zK M (x + 6) = (12, 40) := h.1 6 (by decide)
theorem kk7 {x : Nat} {wa : Int → Nat} {n : Int} {M : zM} (h : kSh x wa n M) : zK M (x + 7) = (9, 40) := h.1 7 (by decide)
theorem ki7 {x : Nat} {wa : Int → Nat} {n : Int} {M : zM} {V : yS} {L : yL} (h : kCo x wa n M V L) (i : Int) : zI M (x + 7) i = V 7 i := h.1 7 i (by decide)
theorem kk8 {x : Nat} {wa : Int → Nat} {n : Int} {M : zM} (h : kSh x wa n M) : zK M (x + 8) = (11, 4) := h.1 8 (by decide)
theorem kl8 {x : Nat} {wa : Int → Nat} {n : Int} {M : zM} {V : yS} {L : yL} (h : kCo x wa n M V L) (i : Int) : zL M (x + 8) i = L 8 i := h.2.1 8 i (by decide)
theorem kk9 {x : Nat} {wa : Int → Nat} {n : Int} {M : zM} (h : kSh x wa n M) : zK M (x + 9) = (11, 20) := h.1 9 (by decide)
theorem kl9 {x : Nat} {wa : Int → Nat} {n : Int} {M : zM} {V : yS} {L : yL} (h : kCo x wa n M V L) (i : Int) : zL M (x + 9) i = L 9 i := h.2.1 9 i (by decide)
theorem kk10 {x : Nat} {wa : Int → Nat} {n : Int} {M : zM} (h : kSh x wa n M) : zK M (x + 10) = (1, 3) := h.1 10 (by decide)
theorem ki10 {x : Nat} {wa : Int → Nat} {n : Int} {M : zM} {V : yS} {L : yL} (h : kCo x wa n M V L) (i : Int) : zI M (x + 10) i = V 10 i := h.1 10 i (by decide)
theorem kk11 {x : Nat} {wa : Int → Nat} {n : Int} {M : zM} (h : kSh x wa n M) : zK M (x + 11) = (11, 400) := h.1 11 (by decide)
theorem kl11 {x : Nat} {wa : Int → Nat} {n : Int} {M : zM} {V : yS} {L : yL} (h : kCo x wa n M V L) (i : Int) : zL M (x + 11) i = L 11 i := h.2.1 11 i (by decide)
theorem kk12 {x : Nat} {wa : Int → Nat} {n : Int} {M : zM} (h : kSh x wa n M) : zK M (x + 12) = (13, 4) := h.1 12 (by decide)
theorem kk13 {x : Nat} {wa : Int → Nat} {n : Int} {M : zM} (h : kSh x wa n M) : zK M (x + 13) = (9, 400) := h.1 13 (by decide)
theorem ki13 {x : Nat} {wa : Int → Nat} {n : Int} {M : zM} {V : yS} {L : yL} (h : kCo x wa n M V L) (i : Int) : zI M (x + 13) i = V 13 i := h.1 13 i (by decide)
theorem kk14 {x : Nat} {wa : Int → Nat} {n : Int} {M : zM} (h : kSh x wa n M) : zK M (x + 14) = (9, 400) := h.1 14 (by decide)
theorem ki14 {x : Nat} {wa : Int → Nat} {n : Int} {M : zM} {V : yS} {L : yL} (h : kCo x wa n M V L) (i : Int) : zI M (x + 14) i = V 14 i := h.1 14 i (by decide)
theorem kk15 {x : Nat} {wa : Int → Nat} {n : Int} {M : zM} (h : kSh x wa n M) : zK M (x + 15) = (9, 400) := h.1 15 (by decide)
theorem ki15 {x : Nat} {wa : Int → Nat} {n : Int} {M : zM} {V : yS} {L : yL} (h : kCo x wa n M V L) (i : Int) : zI M (x + 15) i = V 15 i := h.1 15 i (by decide)
theorem kk16 {x : Nat} {wa : Int → Nat} {n : Int} {M : zM} (h : kSh x wa n M) : zK M (x + 16) = (9, 400) := h.1 16 (by decide)
theorem ki16 {x : Nat} {wa : Int → Nat} {n : Int} {M : zM} {V : yS} {L : yL} (h : kCo x wa n M V L) (i : Int) : zI M (x + 16) i = V 16 i := h.1 16 i (by decide)
theorem kk17 {x : Nat} {wa : Int → Nat} {n : Int} {M : zM} (h : kSh x wa n M) : zK M (x + 17) = (5, 5) := h.1 17 (by decide)
theorem ki17 {x : Nat} {wa : Int → Nat} {n : Int} {M : zM} {V : yS} {L : yL} (h : kCo x wa n M V L) (i : Int) : zI M (x + 17) i = V 17 i := h.1 17 i (by decide)
theorem kk18 {x : Nat} {wa : Int → Nat} {n : Int} {M : zM} (h : kSh x wa n M) : zK M (x + 18) = (9, 4) := h.1 18 (by decide)
theorem ki18 {x : Nat} {wa : Int → Nat} {n : Int} {M : zM} {V : yS} {L : yL} (h : kCo x wa n M V L) (i : Int) : zI M (x + 18) i = V 18 i := h.1 18 i (by decide)
theorem kk19 {x : Nat} {wa : Int → Nat} {n : Int} {M : zM} (h : kSh x wa n M) : zK M (x + 19) = (9, 4) := h.1 19 (by decide)
theorem ki19 {x : Nat} {wa : Int → Nat} {n : Int} {M : zM} {V : yS} {L : yL} (h : kCo x wa n M V L) (i : Int) : zI M (x + 19) i = V 19 i := h.1 19 i (by decide)
theorem kk20 {x : Nat} {wa : Int → Nat} {n : Int} {M : zM} (h : kSh x wa n M) : zK M (x + 20) = (4, 5) := h.1 20 (by decide)
theorem ki20 {x : Nat} {wa : Int → Nat} {n : Int} {M : zM} {V : yS} {L : yL} (h : kCo x wa n M V L) (i : Int) : zI M (x + 20) i = V 20 i := h.1 20 i (by decide)
theorem kk21 {x : Nat} {wa : Int → Nat} {n : Int} {M : zM} (h : kSh x wa n M) : zK M (x + 21) = (9, 6) := h.1 21 (by decide)
theorem ki21 {x : Nat} {wa : Int → Nat} {n : Int} {M : zM} {V : yS} {L : yL} (h : kCo x wa n M V L) (i : Int) : zI M (x + 21) i = V 21 i := h.1 21 i (by decide)
theorem kr0_0 {x : Nat} {wa : Int → Nat} {n : Int} {M : zM} (h : kSh x wa n M) : zR M x 0 = some (x + 1) := h.2.1 (0, 0, 1) (by decide)
theorem kr0_1 {x : Nat} {wa : Int → Nat} {n : Int} {M : zM} (h : kSh x wa n M) : zR M x 1 = some (x + 5) := h.2.1 (0, 1, 5) (by decide)
theorem kr0_2 {x : Nat} {wa : Int → Nat} {n : Int} {M : zM} (h : kSh x wa n M) : zR M x 2 = some (x + 10) := h.2.1 (0, 2, 10) (by decide)
theorem kr0_3 {x : Nat} {wa : Int → Nat} {n : Int} {M : zM} (h : kSh x wa n M) : zR M x 3 = some (x + 17) := h.2.1 (0, 3, 17) (by decide)
theorem kr0_4 {x : Nat} {wa : Int → Nat} {n : Int} {M : zM} (h : kSh x wa n M) : zR M x 4 = some (x + 20) := h.2.1 (0, 4, 20) (by decide)
theorem kr1_0 {x : Nat} {wa : Int → Nat} {n : Int} {M : zM} (h : kSh x wa n M) : zR M (x + 1) 0 = some (x + 2) := h.2.1 (1, 0, 2) (by decide)
theorem kr1_1 {x : Nat} {wa : Int → Nat} {n : Int} {M : zM} (h : kSh x wa n M) : zR M (x + 1) 1 = some (x + 3) := h.2.1 (1, 1, 3) (by decide)
theorem kr1_2 {x : Nat} {wa : Int → Nat} {n : Int} {M : zM} (h : kSh x wa n M) : zR M (x + 1) 2 = some (x + 4) := h.2.1 (1, 2, 4) (by decide)
theorem kr5_0 {x : Nat} {wa : Int → Nat} {n : Int} {M : zM} (h : kSh x wa n M) : zR M (x + 5) 0 = some (x + 6) := h.2.1 (5, 0, 6) (by decide)
theorem kr5_1 {x : Nat} {wa : Int → Nat} {n : Int} {M : zM} (h : kSh x wa n M) : zR M (x + 5) 1 = some (x + 7) := h.2.1 (5, 1, 7) (by decide)
theorem kr5_2 {x : Nat} {wa : Int → Nat} {n : Int} {M : zM} (h : kSh x wa n M) : zR M (x + 5) 2 = some (x + 8) := h.2.1 (5, 2, 8) (by decide)
theorem kr5_3 {x : Nat} {wa : Int → Nat} {n : Int} {M : zM} (h : kSh x wa n M) : zR M (x + 5) 3 = some (x + 9) := h.2.1 (5, 3, 9) (by decide)
theorem kr10_0 {x : Nat} {wa : Int → Nat} {n : Int} {M : zM} (h : kSh x wa n M) : zR M (x + 10) 0 = some (x + 11) := h.2.1 (10, 0, 11) (by decide)
theorem kr10_1 {x : Nat} {wa : Int → Nat} {n : Int} {M : zM} (h : kSh x wa n M) : zR M (x + 10) 1 = some (x + 12) := h.2.1 (10, 1, 12) (by decide)
theorem kr12_0 {x : Nat} {wa : Int → Nat} {n : Int} {M : zM} (h : kSh x wa n M) : zR M (x + 12) 0 = some (x + 13) := h.2.1 (12, 0, 13) (by decide)
theorem kr12_1 {x : Nat} {wa : Int → Nat} {n : Int} {M : zM} (h : kSh x wa n M) : zR M (x + 12) 1 = some (x + 14) := h.2.1 (12, 1, 14) (by decide)
theorem kr12_2 {x : Nat} {wa : Int → Nat} {n : Int} {M : zM} (h : kSh x wa n M) : zR M (x + 12) 2 = some (x + 15) := h.2.1 (12, 2, 15) (by decide)
theorem kr12_3 {x : Nat} {wa : Int → Nat} {n : Int} {M : zM} (h : kSh x wa n M) : zR M (x + 12) 3 = some (x + 16) := h.2.1 (12, 3, 16) (by decide)
theorem kr17_0 {x : Nat} {wa : Int → Nat} {n : Int} {M : zM} (h : kSh x wa n M) : zR M (x + 17) 0 = some (x + 18) := h.2.1 (17, 0, 18) (by decide)
theorem kr17_1 {x : Nat} {wa : Int → Nat} {n : Int} {M : zM} (h : kSh x wa n M) : zR M (x + 17) 1 = some (x + 19) := h.2.1 (17, 1, 19) (by decide)
theorem kr17_2 {x : Nat} {wa : Int → Nat} {n : Int} {M : zM} (h : kSh x wa n M) : zR M (x + 17) 2 = some (x + 1) := h.2.1 (17, 2, 1) (by decide)
theorem kr17_3 {x : Nat} {wa : Int → Nat} {n : Int} {M : zM} (h : kSh x wa n M) : zR M (x + 17) 3 = some (x + 5) := h.2.1 (17, 3, 5) (by decide)
theorem kr17_4 {x : Nat} {wa : Int → Nat} {n : Int} {M : zM} (h : kSh x wa n M) : zR M (x + 17) 4 = some (x + 10) := h.2.1 (17, 4, 10) (by decide)
theorem kr20_0 {x : Nat} {wa : Int → Nat} {n : Int} {M : zM} (h : kSh x wa n M) : zR M (x + 20) 0 = some (x + 21) := h.2.1 (20, 0, 21) (by decide)
theorem kr20_1 {x : Nat} {wa : Int → Nat} {n : Int} {M : zM} (h : kSh x wa n M) : zR M (x + 20) 1 = some (x + 5) := h.2.1 (20, 1, 5) (by decide)
theorem kr20_2 {x : Nat} {wa : Int → Nat} {n : Int} {M : zM} (h : kSh x wa n M) : zR M (x + 20) 2 = some (x + 10) := h.2.1 (20, 2, 10) (by decide)
theorem kr20_3 {x : Nat} {wa : Int → Nat} {n : Int} {M : zM} (h : kSh x wa n M) : zR M (x + 20) 3 = some (x + 17) := h.2.1 (20, 3, 17) (by decide)
theorem kwR {x : Nat} {wa : Int → Nat} {n : Int} {M : zM} (h : kSh x wa n M) {k : Int} (k0 : 0 ≤ k) (k1 : k < n) : zR M (x + 6) k = some (wa k) := (h.2.2.1 k k0 k1).1
theorem kwK {x : Nat} {wa : Int → Nat} {n : Int} {M : zM} (h : kSh x wa n M) {k : Int} (k0 : 0 ≤ k) (k1 : k < n) : zK M (wa k) = (6, 16) := (h.2.2.1 k k0 k1).2.1
theorem kwi0 {x : Nat} {wa : Int → Nat} {n : Int} {M : zM} {V : yS} {L : yL} (h : kCo x wa n M V L) {k : Int} (k0 : 0 ≤ k) (k1 : k < n) : zI M (wa k) 0 = V 22 k := h.2.2.1 0 k (by decide) k0 k1
theorem kwl1 {x : Nat} {wa : Int → Nat} {n : Int} {M : zM} {V : yS} {L : yL} (h : kCo x wa n M V L) {k : Int} (k0 : 0 ≤ k) (k1 : k < n) : zL M (wa k) 1 = L 23 k := h.2.2.2 1 k (by decide) k0 k1
theorem kwi2 {x : Nat} {wa : Int → Nat} {n : Int} {M : zM} {V : yS} {L : yL} (h : kCo x wa n M V L) {k : Int} (k0 : 0 ≤ k) (k1 : k < n) : zI M (wa k) 2 = V 24 k := h.2.2.1 2 k (by decide) k0 k1
theorem kwi3 {x : Nat} {wa : Int → Nat} {n : Int} {M : zM} {V : yS} {L : yL} (h : kCo x wa n M V L) {k : Int} (k0 : 0 ≤ k) (k1 : k < n) : zI M (wa k) 3 = V 25 k := h.2.2.1 3 k (by decide) k0 k1
theorem kwi4 {x : Nat} {wa : Int → Nat} {n : Int} {M : zM} {V : yS} {L : yL} (h : kCo x wa n M V L) {k : Int} (k0 : 0 ≤ k) (k1 : k < n) : zI M (wa k) 4 = V 26 k := h.2.2.1 4 k (by decide) k0 k1
theorem kwi5 {x : Nat} {wa : Int → Nat} {n : Int} {M : zM} {V : yS} {L : yL} (h : kCo x wa n M V L) {k : Int} (k0 : 0 ≤ k) (k1 : k < n) : zI M (wa k) 5 = V 27 k := h.2.2.1 5 k (by decide) k0 k1
theorem kwi6 {x : Nat} {wa : Int → Nat} {n : Int} {M : zM} {V : yS} {L : yL} (h : kCo x wa n M V L) {k : Int} (k0 : 0 ≤ k) (k1 : k < n) : zI M (wa k) 6 = V 28 k := h.2.2.1 6 k (by decide) k0 k1
theorem kwi7 {x : Nat} {wa : Int → Nat} {n : Int} {M : zM} {V : yS} {L : yL} (h : kCo x wa n M V L) {k : Int} (k0 : 0 ≤ k) (k1 : k < n) : zI M (wa k) 7 = V 29 k := h.2.2.1 7 k (by decide) k0 k1
theorem kwi8 {x : Nat} {wa : Int → Nat} {n : Int} {M : zM} {V : yS} {L : yL} (h : kCo x wa n M V L) {k : Int} (k0 : 0 ≤ k) (k1 : k < n) : zI M (wa k) 8 = V 30 k := h.2.2.1 8 k (by decide) k0 k1
theorem kwi9 {x : Nat} {wa : Int → Nat} {n : Int} {M : zM} {V : yS} {L : yL} (h : kCo x wa n M V L) {k : Int} (k0 : 0 ≤ k) (k1 : k < n) : zI M (wa k) 9 = V 31 k := h.2.2.1 9 k (by decide) k0 k1
theorem kwi10 {x : Nat} {wa : Int → Nat} {n : Int} {M : zM} {V : yS} {L : yL} (h : kCo x wa n M V L) {k : Int} (k0 : 0 ≤ k) (k1 : k < n) : zI M (wa k) 10 = V 32 k := h.2.2.1 10 k (by decide) k0 k1
theorem kwi11 {x : Nat} {wa : Int → Nat} {n : Int} {M : zM} {V : yS} {L : yL} (h : kCo x wa n M V L) {k : Int} (k0 : 0 ≤ k) (k1 : k < n) : zI M (wa k) 11 = V 33 k := h.2.2.1 11 k (by decide) k0 k1
theorem kwl12 {x : Nat} {wa : Int → Nat} {n : Int} {M : zM} {V : yS} {L : yL} (h : kCo x wa n M V L) {k : Int} (k0 : 0 ≤ k) (k1 : k < n) : zL M (wa k) 12 = L 34 k := h.2.2.2 12 k (by decide) k0 k1
theorem kwl13 {x : Nat} {wa : Int → Nat} {n : Int} {M : zM} {V : yS} {L : yL} (h : kCo x wa n M V L) {k : Int} (k0 : 0 ≤ k) (k1 : k < n) : zL M (wa k) 13 = L 35 k := h.2.2.2 13 k (by decide) k0 k1
theorem kwl14 {x : Nat} {wa : Int → Nat} {n : Int} {M : zM} {V : yS} {L : yL} (h : kCo x wa n M V L) {k : Int} (k0 : 0 ≤ k) (k1 : k < n) : zL M (wa k) 14 = L 36 k := h.2.2.2 14 k (by decide) k0 k1
theorem kwl15 {x : Nat} {wa : Int → Nat} {n : Int} {M : zM} {V : yS} {L : yL} (h : kCo x wa n M V L) {k : Int} (k0 : 0 ≤ k) (k1 : k < n) : zL M (wa k) 15 = L 37 k := h.2.2.2 15 k (by decide) k0 k1
theorem krw {x : Nat} {wa : Int → Nat} {n : Int} {M : zM} (h : kSh x wa n M) {t : Int} (t0 : 0 ≤ t) (t1 : t < 4) : zR M (x + 12) t = some (x + (13 + t.toNat)) := by
  rcases (show t = 0 ∨ t = 1 ∨ t = 2 ∨ t = 3 by omega) with rfl | rfl | rfl | rfl
  · exact kr12_0 h
  · exact kr12_1 h
  · exact kr12_2 h
  · exact kr12_3 h
theorem krk {x : Nat} {wa : Int → Nat} {n : Int} {M : zM} (h : kSh x wa n M) {t : Int} (t0 : 0 ≤ t) (t1 : t < 4) : zK M (x + (13 + t.toNat)) = (9, 400) := by
  rcases (show t = 0 ∨ t = 1 ∨ t = 2 ∨ t = 3 by omega) with rfl | rfl | rfl | rfl
  · exact kk13 h
  · exact kk14 h
  · exact kk15 h
  · exact kk16 h
theorem kri {x : Nat} {wa : Int → Nat} {n : Int} {M : zM} {V : yS} {L : yL} (h : kCo x wa n M V L) {t : Int} (t0 : 0 ≤ t) (t1 : t < 4) (i : Int) : zI M (x + (13 + t.toNat)) i = V (13 + t.toNat) i := h.1 _ i (by omega)
