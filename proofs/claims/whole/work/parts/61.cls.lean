/-! ===== the class: the shape of its fixed objects, rules ===== -/
def cfL : List (Nat × Nat × Nat) := [(10, 0, 20), (10, 1, 30), (10, 2, 40), (10, 3, 50), (10, 4, 60), (10, 5, 70), (10, 6, 80), (10, 7, 90), (10, 8, 100), (50, 0, 51), (50, 5, 52), (50, 6, 53), (50, 7, 54), (50, 8, 55), (60, 0, 61), (60, 1, 62), (70, 0, 71), (70, 1, 72), (70, 2, 73), (70, 3, 74), (80, 0, 81), (80, 1, 82), (80, 2, 83), (90, 0, 91), (90, 1, 92), (90, 2, 93), (100, 0, 101), (100, 1, 102), (100, 2, 103), (100, 3, 104), (100, 4, 105), (100, 5, 106)]
def ckL : List (Nat × Nat × Nat) := [(10, 13, 0), (20, 1, 0), (30, 1, 0), (40, 1, 0), (50, 11, 0), (60, 7, 0), (70, 9, 0), (72, 3, 0), (80, 12, 0), (90, 4, 0), (100, 2, 0), (5, 21, 1), (51, 20, 100), (52, 20, 6), (53, 20, 6), (54, 20, 6), (55, 20, 6), (61, 20, 10), (62, 20, 10), (73, 21, 6), (74, 20, 3), (81, 20, 2048), (82, 20, 64), (83, 20, 8), (91, 20, 10), (92, 20, 10), (93, 20, 1024), (101, 20, 24), (102, 20, 4), (103, 20, 4), (104, 20, 6), (105, 20, 6), (106, 20, 7), (1, 23, 18), (2, 27, 0), (3, 27, 77), (71, 24, 25)]
def PS (u : SU) : Prop := ∀ i, i < 25 → u.1 71 i = 1070 + 2 * i ∧ u.2.1 (1070 + 2 * i) = 6 ∧ u.1 (1070 + 2 * i) 3 = 1071 + 2 * i ∧ u.2.1 (1071 + 2 * i) = 3
def CS (u : SU) : Prop := (∀ q ∈ cfL, u.1 q.1 q.2.1 = q.2.2) ∧ (∀ q ∈ ckL, u.2.1 q.1 = q.2.1 ∧ u.2.2 q.1 = q.2.2) ∧ PS u
section CLS1
variable {β : Type} {m : IM} {j : JM} {u : SU} {k n : Nat}
theorem cG_10 (hc : CS u) {f : Int32 → Option β} : gI (pm m j u) 10 12 k f = f (m 10 k) := e_gI (hc.2.1 _ (List.mem_of_getElem? (i := 0) rfl)).1
theorem cP_10 (hc : CS u) {f : PM → Option β} {v : Int32} : pI (pm m j u) 10 12 k v f = f (pm (u2 m 10 k v) j u) := e_pI (hc.2.1 _ (List.mem_of_getElem? (i := 0) rfl)).1
theorem cT_10 (hc : CS u) {f : Option β} : tst (pm m j u) 10 12 f = f := e_tst (hc.2.1 _ (List.mem_of_getElem? (i := 0) rfl)).1
theorem cR_10_0 (hc : CS u) {f : Nat → Option β} : gR (pm m j u) 10 12 0 f = f 20 := e_gR (hc.2.1 _ (List.mem_of_getElem? (i := 0) rfl)).1 (hc.1 _ (List.mem_of_getElem? (i := 0) rfl)) (by decide)
theorem cR_10_1 (hc : CS u) {f : Nat → Option β} : gR (pm m j u) 10 12 1 f = f 30 := e_gR (hc.2.1 _ (List.mem_of_getElem? (i := 0) rfl)).1 (hc.1 _ (List.mem_of_getElem? (i := 1) rfl)) (by decide)
theorem cR_10_2 (hc : CS u) {f : Nat → Option β} : gR (pm m j u) 10 12 2 f = f 40 := e_gR (hc.2.1 _ (List.mem_of_getElem? (i := 0) rfl)).1 (hc.1 _ (List.mem_of_getElem? (i := 2) rfl)) (by decide)
theorem cR_10_3 (hc : CS u) {f : Nat → Option β} : gR (pm m j u) 10 12 3 f = f 50 := e_gR (hc.2.1 _ (List.mem_of_getElem? (i := 0) rfl)).1 (hc.1 _ (List.mem_of_getElem? (i := 3) rfl)) (by decide)
theorem cR_10_4 (hc : CS u) {f : Nat → Option β} : gR (pm m j u) 10 12 4 f = f 60 := e_gR (hc.2.1 _ (List.mem_of_getElem? (i := 0) rfl)).1 (hc.1 _ (List.mem_of_getElem? (i := 4) rfl)) (by decide)
theorem cR_10_5 (hc : CS u) {f : Nat → Option β} : gR (pm m j u) 10 12 5 f = f 70 := e_gR (hc.2.1 _ (List.mem_of_getElem? (i := 0) rfl)).1 (hc.1 _ (List.mem_of_getElem? (i := 5) rfl)) (by decide)
theorem cR_10_6 (hc : CS u) {f : Nat → Option β} : gR (pm m j u) 10 12 6 f = f 80 := e_gR (hc.2.1 _ (List.mem_of_getElem? (i := 0) rfl)).1 (hc.1 _ (List.mem_of_getElem? (i := 6) rfl)) (by decide)
theorem cR_10_7 (hc : CS u) {f : Nat → Option β} : gR (pm m j u) 10 12 7 f = f 90 := e_gR (hc.2.1 _ (List.mem_of_getElem? (i := 0) rfl)).1 (hc.1 _ (List.mem_of_getElem? (i := 7) rfl)) (by decide)
theorem cR_10_8 (hc : CS u) {f : Nat → Option β} : gR (pm m j u) 10 12 8 f = f 100 := e_gR (hc.2.1 _ (List.mem_of_getElem? (i := 0) rfl)).1 (hc.1 _ (List.mem_of_getElem? (i := 8) rfl)) (by decide)
theorem cG_20 (hc : CS u) {f : Int32 → Option β} : gI (pm m j u) 20 0 k f = f (m 20 k) := e_gI (hc.2.1 _ (List.mem_of_getElem? (i := 1) rfl)).1
theorem cP_20 (hc : CS u) {f : PM → Option β} {v : Int32} : pI (pm m j u) 20 0 k v f = f (pm (u2 m 20 k v) j u) := e_pI (hc.2.1 _ (List.mem_of_getElem? (i := 1) rfl)).1
theorem cT_20 (hc : CS u) {f : Option β} : tst (pm m j u) 20 0 f = f := e_tst (hc.2.1 _ (List.mem_of_getElem? (i := 1) rfl)).1
theorem cG_30 (hc : CS u) {f : Int32 → Option β} : gI (pm m j u) 30 0 k f = f (m 30 k) := e_gI (hc.2.1 _ (List.mem_of_getElem? (i := 2) rfl)).1
theorem cP_30 (hc : CS u) {f : PM → Option β} {v : Int32} : pI (pm m j u) 30 0 k v f = f (pm (u2 m 30 k v) j u) := e_pI (hc.2.1 _ (List.mem_of_getElem? (i := 2) rfl)).1
theorem cT_30 (hc : CS u) {f : Option β} : tst (pm m j u) 30 0 f = f := e_tst (hc.2.1 _ (List.mem_of_getElem? (i := 2) rfl)).1
theorem cG_40 (hc : CS u) {f : Int32 → Option β} : gI (pm m j u) 40 0 k f = f (m 40 k) := e_gI (hc.2.1 _ (List.mem_of_getElem? (i := 3) rfl)).1
theorem cP_40 (hc : CS u) {f : PM → Option β} {v : Int32} : pI (pm m j u) 40 0 k v f = f (pm (u2 m 40 k v) j u) := e_pI (hc.2.1 _ (List.mem_of_getElem? (i := 3) rfl)).1
theorem cT_40 (hc : CS u) {f : Option β} : tst (pm m j u) 40 0 f = f := e_tst (hc.2.1 _ (List.mem_of_getElem? (i := 3) rfl)).1
theorem cG_50 (hc : CS u) {f : Int32 → Option β} : gI (pm m j u) 50 10 k f = f (m 50 k) := e_gI (hc.2.1 _ (List.mem_of_getElem? (i := 4) rfl)).1
theorem cP_50 (hc : CS u) {f : PM → Option β} {v : Int32} : pI (pm m j u) 50 10 k v f = f (pm (u2 m 50 k v) j u) := e_pI (hc.2.1 _ (List.mem_of_getElem? (i := 4) rfl)).1
theorem cT_50 (hc : CS u) {f : Option β} : tst (pm m j u) 50 10 f = f := e_tst (hc.2.1 _ (List.mem_of_getElem? (i := 4) rfl)).1
theorem cR_50_0 (hc : CS u) {f : Nat → Option β} : gR (pm m j u) 50 10 0 f = f 51 := e_gR (hc.2.1 _ (List.mem_of_getElem? (i := 4) rfl)).1 (hc.1 _ (List.mem_of_getElem? (i := 9) rfl)) (by decide)
theorem cR_50_5 (hc : CS u) {f : Nat → Option β} : gR (pm m j u) 50 10 5 f = f 52 := e_gR (hc.2.1 _ (List.mem_of_getElem? (i := 4) rfl)).1 (hc.1 _ (List.mem_of_getElem? (i := 10) rfl)) (by decide)
theorem cR_50_6 (hc : CS u) {f : Nat → Option β} : gR (pm m j u) 50 10 6 f = f 53 := e_gR (hc.2.1 _ (List.mem_of_getElem? (i := 4) rfl)).1 (hc.1 _ (List.mem_of_getElem? (i := 11) rfl)) (by decide)
theorem cR_50_7 (hc : CS u) {f : Nat → Option β} : gR (pm m j u) 50 10 7 f = f 54 := e_gR (hc.2.1 _ (List.mem_of_getElem? (i := 4) rfl)).1 (hc.1 _ (List.mem_of_getElem? (i := 12) rfl)) (by decide)
theorem cR_50_8 (hc : CS u) {f : Nat → Option β} : gR (pm m j u) 50 10 8 f = f 55 := e_gR (hc.2.1 _ (List.mem_of_getElem? (i := 4) rfl)).1 (hc.1 _ (List.mem_of_getElem? (i := 13) rfl)) (by decide)
theorem cG_60 (hc : CS u) {f : Int32 → Option β} : gI (pm m j u) 60 6 k f = f (m 60 k) := e_gI (hc.2.1 _ (List.mem_of_getElem? (i := 5) rfl)).1
theorem cP_60 (hc : CS u) {f : PM → Option β} {v : Int32} : pI (pm m j u) 60 6 k v f = f (pm (u2 m 60 k v) j u) := e_pI (hc.2.1 _ (List.mem_of_getElem? (i := 5) rfl)).1
theorem cT_60 (hc : CS u) {f : Option β} : tst (pm m j u) 60 6 f = f := e_tst (hc.2.1 _ (List.mem_of_getElem? (i := 5) rfl)).1
theorem cR_60_0 (hc : CS u) {f : Nat → Option β} : gR (pm m j u) 60 6 0 f = f 61 := e_gR (hc.2.1 _ (List.mem_of_getElem? (i := 5) rfl)).1 (hc.1 _ (List.mem_of_getElem? (i := 14) rfl)) (by decide)
theorem cR_60_1 (hc : CS u) {f : Nat → Option β} : gR (pm m j u) 60 6 1 f = f 62 := e_gR (hc.2.1 _ (List.mem_of_getElem? (i := 5) rfl)).1 (hc.1 _ (List.mem_of_getElem? (i := 15) rfl)) (by decide)
theorem cG_70 (hc : CS u) {f : Int32 → Option β} : gI (pm m j u) 70 8 k f = f (m 70 k) := e_gI (hc.2.1 _ (List.mem_of_getElem? (i := 6) rfl)).1
theorem cP_70 (hc : CS u) {f : PM → Option β} {v : Int32} : pI (pm m j u) 70 8 k v f = f (pm (u2 m 70 k v) j u) := e_pI (hc.2.1 _ (List.mem_of_getElem? (i := 6) rfl)).1
theorem cT_70 (hc : CS u) {f : Option β} : tst (pm m j u) 70 8 f = f := e_tst (hc.2.1 _ (List.mem_of_getElem? (i := 6) rfl)).1
theorem cR_70_0 (hc : CS u) {f : Nat → Option β} : gR (pm m j u) 70 8 0 f = f 71 := e_gR (hc.2.1 _ (List.mem_of_getElem? (i := 6) rfl)).1 (hc.1 _ (List.mem_of_getElem? (i := 16) rfl)) (by decide)
theorem cR_70_1 (hc : CS u) {f : Nat → Option β} : gR (pm m j u) 70 8 1 f = f 72 := e_gR (hc.2.1 _ (List.mem_of_getElem? (i := 6) rfl)).1 (hc.1 _ (List.mem_of_getElem? (i := 17) rfl)) (by decide)
theorem cR_70_2 (hc : CS u) {f : Nat → Option β} : gR (pm m j u) 70 8 2 f = f 73 := e_gR (hc.2.1 _ (List.mem_of_getElem? (i := 6) rfl)).1 (hc.1 _ (List.mem_of_getElem? (i := 18) rfl)) (by decide)
theorem cR_70_3 (hc : CS u) {f : Nat → Option β} : gR (pm m j u) 70 8 3 f = f 74 := e_gR (hc.2.1 _ (List.mem_of_getElem? (i := 6) rfl)).1 (hc.1 _ (List.mem_of_getElem? (i := 19) rfl)) (by decide)
theorem cG_72 (hc : CS u) {f : Int32 → Option β} : gI (pm m j u) 72 2 k f = f (m 72 k) := e_gI (hc.2.1 _ (List.mem_of_getElem? (i := 7) rfl)).1
theorem cP_72 (hc : CS u) {f : PM → Option β} {v : Int32} : pI (pm m j u) 72 2 k v f = f (pm (u2 m 72 k v) j u) := e_pI (hc.2.1 _ (List.mem_of_getElem? (i := 7) rfl)).1
theorem cT_72 (hc : CS u) {f : Option β} : tst (pm m j u) 72 2 f = f := e_tst (hc.2.1 _ (List.mem_of_getElem? (i := 7) rfl)).1
theorem cG_80 (hc : CS u) {f : Int32 → Option β} : gI (pm m j u) 80 11 k f = f (m 80 k) := e_gI (hc.2.1 _ (List.mem_of_getElem? (i := 8) rfl)).1
theorem cP_80 (hc : CS u) {f : PM → Option β} {v : Int32} : pI (pm m j u) 80 11 k v f = f (pm (u2 m 80 k v) j u) := e_pI (hc.2.1 _ (List.mem_of_getElem? (i := 8) rfl)).1
theorem cT_80 (hc : CS u) {f : Option β} : tst (pm m j u) 80 11 f = f := e_tst (hc.2.1 _ (List.mem_of_getElem? (i := 8) rfl)).1
theorem cR_80_0 (hc : CS u) {f : Nat → Option β} : gR (pm m j u) 80 11 0 f = f 81 := e_gR (hc.2.1 _ (List.mem_of_getElem? (i := 8) rfl)).1 (hc.1 _ (List.mem_of_getElem? (i := 20) rfl)) (by decide)
theorem cR_80_1 (hc : CS u) {f : Nat → Option β} : gR (pm m j u) 80 11 1 f = f 82 := e_gR (hc.2.1 _ (List.mem_of_getElem? (i := 8) rfl)).1 (hc.1 _ (List.mem_of_getElem? (i := 21) rfl)) (by decide)
theorem cR_80_2 (hc : CS u) {f : Nat → Option β} : gR (pm m j u) 80 11 2 f = f 83 := e_gR (hc.2.1 _ (List.mem_of_getElem? (i := 8) rfl)).1 (hc.1 _ (List.mem_of_getElem? (i := 22) rfl)) (by decide)
theorem cG_90 (hc : CS u) {f : Int32 → Option β} : gI (pm m j u) 90 3 k f = f (m 90 k) := e_gI (hc.2.1 _ (List.mem_of_getElem? (i := 9) rfl)).1
theorem cP_90 (hc : CS u) {f : PM → Option β} {v : Int32} : pI (pm m j u) 90 3 k v f = f (pm (u2 m 90 k v) j u) := e_pI (hc.2.1 _ (List.mem_of_getElem? (i := 9) rfl)).1
theorem cT_90 (hc : CS u) {f : Option β} : tst (pm m j u) 90 3 f = f := e_tst (hc.2.1 _ (List.mem_of_getElem? (i := 9) rfl)).1
theorem cR_90_0 (hc : CS u) {f : Nat → Option β} : gR (pm m j u) 90 3 0 f = f 91 := e_gR (hc.2.1 _ (List.mem_of_getElem? (i := 9) rfl)).1 (hc.1 _ (List.mem_of_getElem? (i := 23) rfl)) (by decide)
theorem cR_90_1 (hc : CS u) {f : Nat → Option β} : gR (pm m j u) 90 3 1 f = f 92 := e_gR (hc.2.1 _ (List.mem_of_getElem? (i := 9) rfl)).1 (hc.1 _ (List.mem_of_getElem? (i := 24) rfl)) (by decide)
theorem cR_90_2 (hc : CS u) {f : Nat → Option β} : gR (pm m j u) 90 3 2 f = f 93 := e_gR (hc.2.1 _ (List.mem_of_getElem? (i := 9) rfl)).1 (hc.1 _ (List.mem_of_getElem? (i := 25) rfl)) (by decide)
theorem cG_100 (hc : CS u) {f : Int32 → Option β} : gI (pm m j u) 100 1 k f = f (m 100 k) := e_gI (hc.2.1 _ (List.mem_of_getElem? (i := 10) rfl)).1
theorem cP_100 (hc : CS u) {f : PM → Option β} {v : Int32} : pI (pm m j u) 100 1 k v f = f (pm (u2 m 100 k v) j u) := e_pI (hc.2.1 _ (List.mem_of_getElem? (i := 10) rfl)).1
theorem cT_100 (hc : CS u) {f : Option β} : tst (pm m j u) 100 1 f = f := e_tst (hc.2.1 _ (List.mem_of_getElem? (i := 10) rfl)).1
theorem cR_100_0 (hc : CS u) {f : Nat → Option β} : gR (pm m j u) 100 1 0 f = f 101 := e_gR (hc.2.1 _ (List.mem_of_getElem? (i := 10) rfl)).1 (hc.1 _ (List.mem_of_getElem? (i := 26) rfl)) (by decide)
theorem cR_100_1 (hc : CS u) {f : Nat → Option β} : gR (pm m j u) 100 1 1 f = f 102 := e_gR (hc.2.1 _ (List.mem_of_getElem? (i := 10) rfl)).1 (hc.1 _ (List.mem_of_getElem? (i := 27) rfl)) (by decide)
theorem cR_100_2 (hc : CS u) {f : Nat → Option β} : gR (pm m j u) 100 1 2 f = f 103 := e_gR (hc.2.1 _ (List.mem_of_getElem? (i := 10) rfl)).1 (hc.1 _ (List.mem_of_getElem? (i := 28) rfl)) (by decide)
theorem cR_100_3 (hc : CS u) {f : Nat → Option β} : gR (pm m j u) 100 1 3 f = f 104 := e_gR (hc.2.1 _ (List.mem_of_getElem? (i := 10) rfl)).1 (hc.1 _ (List.mem_of_getElem? (i := 29) rfl)) (by decide)
theorem cR_100_4 (hc : CS u) {f : Nat → Option β} : gR (pm m j u) 100 1 4 f = f 105 := e_gR (hc.2.1 _ (List.mem_of_getElem? (i := 10) rfl)).1 (hc.1 _ (List.mem_of_getElem? (i := 30) rfl)) (by decide)
theorem cR_100_5 (hc : CS u) {f : Nat → Option β} : gR (pm m j u) 100 1 5 f = f 106 := e_gR (hc.2.1 _ (List.mem_of_getElem? (i := 10) rfl)).1 (hc.1 _ (List.mem_of_getElem? (i := 31) rfl)) (by decide)
theorem cA_5 (hc : CS u) (hn : n < 1) {f : Int64 → Option β} : aJ (pm m j u) 5 (nI n) f = f (j 5 n) := e_aJ (hc.2.1 _ (List.mem_of_getElem? (i := 11) rfl)).1 (hc.2.1 _ (List.mem_of_getElem? (i := 11) rfl)).2 (by decide) hn
theorem cS_5 (hc : CS u) (hn : n < 1) {f : PM → Option β} {v : Int64} : sJ (pm m j u) 5 (nI n) v f = f (pm m (u2 j 5 n v) u) := e_sJ (hc.2.1 _ (List.mem_of_getElem? (i := 11) rfl)).1 (hc.2.1 _ (List.mem_of_getElem? (i := 11) rfl)).2 (by decide) hn
theorem cA_51 (hc : CS u) (hn : n < 100) {f : Int32 → Option β} : aI (pm m j u) 51 (nI n) f = f (m 51 n) := e_aI (hc.2.1 _ (List.mem_of_getElem? (i := 12) rfl)).1 (hc.2.1 _ (List.mem_of_getElem? (i := 12) rfl)).2 (by decide) hn
theorem cS_51 (hc : CS u) (hn : n < 100) {f : PM → Option β} {v : Int32} : sI (pm m j u) 51 (nI n) v f = f (pm (u2 m 51 n v) j u) := e_sI (hc.2.1 _ (List.mem_of_getElem? (i := 12) rfl)).1 (hc.2.1 _ (List.mem_of_getElem? (i := 12) rfl)).2 (by decide) hn
theorem cA_52 (hc : CS u) (hn : n < 6) {f : Int32 → Option β} : aI (pm m j u) 52 (nI n) f = f (m 52 n) := e_aI (hc.2.1 _ (List.mem_of_getElem? (i := 13) rfl)).1 (hc.2.1 _ (List.mem_of_getElem? (i := 13) rfl)).2 (by decide) hn
theorem cS_52 (hc : CS u) (hn : n < 6) {f : PM → Option β} {v : Int32} : sI (pm m j u) 52 (nI n) v f = f (pm (u2 m 52 n v) j u) := e_sI (hc.2.1 _ (List.mem_of_getElem? (i := 13) rfl)).1 (hc.2.1 _ (List.mem_of_getElem? (i := 13) rfl)).2 (by decide) hn
theorem cA_53 (hc : CS u) (hn : n < 6) {f : Int32 → Option β} : aI (pm m j u) 53 (nI n) f = f (m 53 n) := e_aI (hc.2.1 _ (List.mem_of_getElem? (i := 14) rfl)).1 (hc.2.1 _ (List.mem_of_getElem? (i := 14) rfl)).2 (by decide) hn
theorem cS_53 (hc : CS u) (hn : n < 6) {f : PM → Option β} {v : Int32} : sI (pm m j u) 53 (nI n) v f = f (pm (u2 m 53 n v) j u) := e_sI (hc.2.1 _ (List.mem_of_getElem? (i := 14) rfl)).1 (hc.2.1 _ (List.mem_of_getElem? (i := 14) rfl)).2 (by decide) hn
theorem cA_54 (hc : CS u) (hn : n < 6) {f : Int32 → Option β} : aI (pm m j u) 54 (nI n) f = f (m 54 n) := e_aI (hc.2.1 _ (List.mem_of_getElem? (i := 15) rfl)).1 (hc.2.1 _ (List.mem_of_getElem? (i := 15) rfl)).2 (by decide) hn
theorem cS_54 (hc : CS u) (hn : n < 6) {f : PM → Option β} {v : Int32} : sI (pm m j u) 54 (nI n) v f = f (pm (u2 m 54 n v) j u) := e_sI (hc.2.1 _ (List.mem_of_getElem? (i := 15) rfl)).1 (hc.2.1 _ (List.mem_of_getElem? (i := 15) rfl)).2 (by decide) hn
theorem cA_55 (hc : CS u) (hn : n < 6) {f : Int32 → Option β} : aI (pm m j u) 55 (nI n) f = f (m 55 n) := e_aI (hc.2.1 _ (List.mem_of_getElem? (i := 16) rfl)).1 (hc.2.1 _ (List.mem_of_getElem? (i := 16) rfl)).2 (by decide) hn
theorem cS_55 (hc : CS u) (hn : n < 6) {f : PM → Option β} {v : Int32} : sI (pm m j u) 55 (nI n) v f = f (pm (u2 m 55 n v) j u) := e_sI (hc.2.1 _ (List.mem_of_getElem? (i := 16) rfl)).1 (hc.2.1 _ (List.mem_of_getElem? (i := 16) rfl)).2 (by decide) hn
theorem cA_61 (hc : CS u) (hn : n < 10) {f : Int32 → Option β} : aI (pm m j u) 61 (nI n) f = f (m 61 n) := e_aI (hc.2.1 _ (List.mem_of_getElem? (i := 17) rfl)).1 (hc.2.1 _ (List.mem_of_getElem? (i := 17) rfl)).2 (by decide) hn
theorem cS_61 (hc : CS u) (hn : n < 10) {f : PM → Option β} {v : Int32} : sI (pm m j u) 61 (nI n) v f = f (pm (u2 m 61 n v) j u) := e_sI (hc.2.1 _ (List.mem_of_getElem? (i := 17) rfl)).1 (hc.2.1 _ (List.mem_of_getElem? (i := 17) rfl)).2 (by decide) hn
theorem cA_62 (hc : CS u) (hn : n < 10) {f : Int32 → Option β} : aI (pm m j u) 62 (nI n) f = f (m 62 n) := e_aI (hc.2.1 _ (List.mem_of_getElem? (i := 18) rfl)).1 (hc.2.1 _ (List.mem_of_getElem? (i := 18) rfl)).2 (by decide) hn
theorem cS_62 (hc : CS u) (hn : n < 10) {f : PM → Option β} {v : Int32} : sI (pm m j u) 62 (nI n) v f = f (pm (u2 m 62 n v) j u) := e_sI (hc.2.1 _ (List.mem_of_getElem? (i := 18) rfl)).1 (hc.2.1 _ (List.mem_of_getElem? (i := 18) rfl)).2 (by decide) hn
theorem cA_73 (hc : CS u) (hn : n < 6) {f : Int64 → Option β} : aJ (pm m j u) 73 (nI n) f = f (j 73 n) := e_aJ (hc.2.1 _ (List.mem_of_getElem? (i := 19) rfl)).1 (hc.2.1 _ (List.mem_of_getElem? (i := 19) rfl)).2 (by decide) hn
theorem cS_73 (hc : CS u) (hn : n < 6) {f : PM → Option β} {v : Int64} : sJ (pm m j u) 73 (nI n) v f = f (pm m (u2 j 73 n v) u) := e_sJ (hc.2.1 _ (List.mem_of_getElem? (i := 19) rfl)).1 (hc.2.1 _ (List.mem_of_getElem? (i := 19) rfl)).2 (by decide) hn
theorem cA_74 (hc : CS u) (hn : n < 3) {f : Int32 → Option β} : aI (pm m j u) 74 (nI n) f = f (m 74 n) := e_aI (hc.2.1 _ (List.mem_of_getElem? (i := 20) rfl)).1 (hc.2.1 _ (List.mem_of_getElem? (i := 20) rfl)).2 (by decide) hn
theorem cS_74 (hc : CS u) (hn : n < 3) {f : PM → Option β} {v : Int32} : sI (pm m j u) 74 (nI n) v f = f (pm (u2 m 74 n v) j u) := e_sI (hc.2.1 _ (List.mem_of_getElem? (i := 20) rfl)).1 (hc.2.1 _ (List.mem_of_getElem? (i := 20) rfl)).2 (by decide) hn
theorem cA_81 (hc : CS u) (hn : n < 2048) {f : Int32 → Option β} : aI (pm m j u) 81 (nI n) f = f (m 81 n) := e_aI (hc.2.1 _ (List.mem_of_getElem? (i := 21) rfl)).1 (hc.2.1 _ (List.mem_of_getElem? (i := 21) rfl)).2 (by decide) hn
theorem cS_81 (hc : CS u) (hn : n < 2048) {f : PM → Option β} {v : Int32} : sI (pm m j u) 81 (nI n) v f = f (pm (u2 m 81 n v) j u) := e_sI (hc.2.1 _ (List.mem_of_getElem? (i := 21) rfl)).1 (hc.2.1 _ (List.mem_of_getElem? (i := 21) rfl)).2 (by decide) hn
theorem cA_82 (hc : CS u) (hn : n < 64) {f : Int32 → Option β} : aI (pm m j u) 82 (nI n) f = f (m 82 n) := e_aI (hc.2.1 _ (List.mem_of_getElem? (i := 22) rfl)).1 (hc.2.1 _ (List.mem_of_getElem? (i := 22) rfl)).2 (by decide) hn
theorem cS_82 (hc : CS u) (hn : n < 64) {f : PM → Option β} {v : Int32} : sI (pm m j u) 82 (nI n) v f = f (pm (u2 m 82 n v) j u) := e_sI (hc.2.1 _ (List.mem_of_getElem? (i := 22) rfl)).1 (hc.2.1 _ (List.mem_of_getElem? (i := 22) rfl)).2 (by decide) hn
theorem cA_83 (hc : CS u) (hn : n < 8) {f : Int32 → Option β} : aI (pm m j u) 83 (nI n) f = f (m 83 n) := e_aI (hc.2.1 _ (List.mem_of_getElem? (i := 23) rfl)).1 (hc.2.1 _ (List.mem_of_getElem? (i := 23) rfl)).2 (by decide) hn
theorem cS_83 (hc : CS u) (hn : n < 8) {f : PM → Option β} {v : Int32} : sI (pm m j u) 83 (nI n) v f = f (pm (u2 m 83 n v) j u) := e_sI (hc.2.1 _ (List.mem_of_getElem? (i := 23) rfl)).1 (hc.2.1 _ (List.mem_of_getElem? (i := 23) rfl)).2 (by decide) hn
theorem cA_91 (hc : CS u) (hn : n < 10) {f : Int32 → Option β} : aI (pm m j u) 91 (nI n) f = f (m 91 n) := e_aI (hc.2.1 _ (List.mem_of_getElem? (i := 24) rfl)).1 (hc.2.1 _ (List.mem_of_getElem? (i := 24) rfl)).2 (by decide) hn
theorem cS_91 (hc : CS u) (hn : n < 10) {f : PM → Option β} {v : Int32} : sI (pm m j u) 91 (nI n) v f = f (pm (u2 m 91 n v) j u) := e_sI (hc.2.1 _ (List.mem_of_getElem? (i := 24) rfl)).1 (hc.2.1 _ (List.mem_of_getElem? (i := 24) rfl)).2 (by decide) hn
theorem cA_92 (hc : CS u) (hn : n < 10) {f : Int32 → Option β} : aI (pm m j u) 92 (nI n) f = f (m 92 n) := e_aI (hc.2.1 _ (List.mem_of_getElem? (i := 25) rfl)).1 (hc.2.1 _ (List.mem_of_getElem? (i := 25) rfl)).2 (by decide) hn
theorem cS_92 (hc : CS u) (hn : n < 10) {f : PM → Option β} {v : Int32} : sI (pm m j u) 92 (nI n) v f = f (pm (u2 m 92 n v) j u) := e_sI (hc.2.1 _ (List.mem_of_getElem? (i := 25) rfl)).1 (hc.2.1 _ (List.mem_of_getElem? (i := 25) rfl)).2 (by decide) hn
theorem cA_93 (hc : CS u) (hn : n < 1024) {f : Int32 → Option β} : aI (pm m j u) 93 (nI n) f = f (m 93 n) := e_aI (hc.2.1 _ (List.mem_of_getElem? (i := 26) rfl)).1 (hc.2.1 _ (List.mem_of_getElem? (i := 26) rfl)).2 (by decide) hn
theorem cS_93 (hc : CS u) (hn : n < 1024) {f : PM → Option β} {v : Int32} : sI (pm m j u) 93 (nI n) v f = f (pm (u2 m 93 n v) j u) := e_sI (hc.2.1 _ (List.mem_of_getElem? (i := 26) rfl)).1 (hc.2.1 _ (List.mem_of_getElem? (i := 26) rfl)).2 (by decide) hn
theorem cA_101 (hc : CS u) (hn : n < 24) {f : Int32 → Option β} : aI (pm m j u) 101 (nI n) f = f (m 101 n) := e_aI (hc.2.1 _ (List.mem_of_getElem? (i := 27) rfl)).1 (hc.2.1 _ (List.mem_of_getElem? (i := 27) rfl)).2 (by decide) hn
theorem cS_101 (hc : CS u) (hn : n < 24) {f : PM → Option β} {v : Int32} : sI (pm m j u) 101 (nI n) v f = f (pm (u2 m 101 n v) j u) := e_sI (hc.2.1 _ (List.mem_of_getElem? (i := 27) rfl)).1 (hc.2.1 _ (List.mem_of_getElem? (i := 27) rfl)).2 (by decide) hn
theorem cA_102 (hc : CS u) (hn : n < 4) {f : Int32 → Option β} : aI (pm m j u) 102 (nI n) f = f (m 102 n) := e_aI (hc.2.1 _ (List.mem_of_getElem? (i := 28) rfl)).1 (hc.2.1 _ (List.mem_of_getElem? (i := 28) rfl)).2 (by decide) hn
theorem cS_102 (hc : CS u) (hn : n < 4) {f : PM → Option β} {v : Int32} : sI (pm m j u) 102 (nI n) v f = f (pm (u2 m 102 n v) j u) := e_sI (hc.2.1 _ (List.mem_of_getElem? (i := 28) rfl)).1 (hc.2.1 _ (List.mem_of_getElem? (i := 28) rfl)).2 (by decide) hn
theorem cA_103 (hc : CS u) (hn : n < 4) {f : Int32 → Option β} : aI (pm m j u) 103 (nI n) f = f (m 103 n) := e_aI (hc.2.1 _ (List.mem_of_getElem? (i := 29) rfl)).1 (hc.2.1 _ (List.mem_of_getElem? (i := 29) rfl)).2 (by decide) hn
theorem cS_103 (hc : CS u) (hn : n < 4) {f : PM → Option β} {v : Int32} : sI (pm m j u) 103 (nI n) v f = f (pm (u2 m 103 n v) j u) := e_sI (hc.2.1 _ (List.mem_of_getElem? (i := 29) rfl)).1 (hc.2.1 _ (List.mem_of_getElem? (i := 29) rfl)).2 (by decide) hn
theorem cA_104 (hc : CS u) (hn : n < 6) {f : Int32 → Option β} : aI (pm m j u) 104 (nI n) f = f (m 104 n) := e_aI (hc.2.1 _ (List.mem_of_getElem? (i := 30) rfl)).1 (hc.2.1 _ (List.mem_of_getElem? (i := 30) rfl)).2 (by decide) hn
theorem cS_104 (hc : CS u) (hn : n < 6) {f : PM → Option β} {v : Int32} : sI (pm m j u) 104 (nI n) v f = f (pm (u2 m 104 n v) j u) := e_sI (hc.2.1 _ (List.mem_of_getElem? (i := 30) rfl)).1 (hc.2.1 _ (List.mem_of_getElem? (i := 30) rfl)).2 (by decide) hn
theorem cA_105 (hc : CS u) (hn : n < 6) {f : Int32 → Option β} : aI (pm m j u) 105 (nI n) f = f (m 105 n) := e_aI (hc.2.1 _ (List.mem_of_getElem? (i := 31) rfl)).1 (hc.2.1 _ (List.mem_of_getElem? (i := 31) rfl)).2 (by decide) hn
theorem cS_105 (hc : CS u) (hn : n < 6) {f : PM → Option β} {v : Int32} : sI (pm m j u) 105 (nI n) v f = f (pm (u2 m 105 n v) j u) := e_sI (hc.2.1 _ (List.mem_of_getElem? (i := 31) rfl)).1 (hc.2.1 _ (List.mem_of_getElem? (i := 31) rfl)).2 (by decide) hn
theorem cA_106 (hc : CS u) (hn : n < 7) {f : Int32 → Option β} : aI (pm m j u) 106 (nI n) f = f (m 106 n) := e_aI (hc.2.1 _ (List.mem_of_getElem? (i := 32) rfl)).1 (hc.2.1 _ (List.mem_of_getElem? (i := 32) rfl)).2 (by decide) hn
theorem cS_106 (hc : CS u) (hn : n < 7) {f : PM → Option β} {v : Int32} : sI (pm m j u) 106 (nI n) v f = f (pm (u2 m 106 n v) j u) := e_sI (hc.2.1 _ (List.mem_of_getElem? (i := 32) rfl)).1 (hc.2.1 _ (List.mem_of_getElem? (i := 32) rfl)).2 (by decide) hn
theorem cA_1 (hc : CS u) (hn : n < 18) {f : Int32 → Option β} : aS (pm m j u) 1 (nI n) f = f (m 1 n) := e_aS (hc.2.1 _ (List.mem_of_getElem? (i := 33) rfl)).1 (hc.2.1 _ (List.mem_of_getElem? (i := 33) rfl)).2 (by decide) hn
theorem cL_71 (hc : CS u) {f : Int32 → Option β} : ln (pm m j u) 71 f = f (nI 25) := e_ln (by rw [(hc.2.1 _ (List.mem_of_getElem? (i := 36) rfl)).1]; decide) (by rw [(hc.2.1 _ (List.mem_of_getElem? (i := 36) rfl)).1]; decide) (hc.2.1 _ (List.mem_of_getElem? (i := 36) rfl)).2 (by decide)
theorem e_aR {N b a : Nat} {f : Nat → Option β} (hT : u.2.1 a = 24 ∨ u.2.1 a = 25 ∨ u.2.1 a = 26) (hN : u.2.2 a = N) (hb : N < 2 ^ 31) (hn : n < N) (hr : u.1 a n = b) (h0 : b ≠ 0) : aR (pm m j u) a (nI n) f = f b := by
  subst hN hr
  unfold aR
  have hh : ¬ (nI n < 0 ∨ u.2.2 a ≤ (nI n).toNatClampNeg) := nI_in hn hb
  have hz : mR (pm m j u) a (nI n).toNatClampNeg ≠ 0 := by rw [nI_clamp (by omega)]; exact h0
  rw [if_pos ⟨hT, hh, hz⟩, nI_clamp (by omega)]; rfl
theorem cA_71 (hc : CS u) (hn : n < 25) {f : Nat → Option β} : aR (pm m j u) 71 (nI n) f = f (1070 + 2 * n) := e_aR (Or.inl (hc.2.1 _ (List.mem_of_getElem? (i := 36) rfl)).1) (hc.2.1 _ (List.mem_of_getElem? (i := 36) rfl)).2 (by decide) hn (hc.2.2 n hn).1 (by omega)
theorem cG_pt (hc : CS u) (hn : n < 25) {f : Int32 → Option β} : gI (pm m j u) (1070 + 2 * n) 5 k f = f (m (1070 + 2 * n) k) := e_gI (hc.2.2 n hn).2.1
theorem cR_pt (hc : CS u) (hn : n < 25) {f : Nat → Option β} : gR (pm m j u) (1070 + 2 * n) 5 3 f = f (1071 + 2 * n) := e_gR (hc.2.2 n hn).2.1 (hc.2.2 n hn).2.2.1 (by omega)
theorem cG_pc (hc : CS u) (hn : n < 25) {f : Int32 → Option β} : gI (pm m j u) (1071 + 2 * n) 2 k f = f (m (1071 + 2 * n) k) := e_gI (hc.2.2 n hn).2.2.2
theorem cP_pc (hc : CS u) (hn : n < 25) {f : PM → Option β} {v : Int32} : pI (pm m j u) (1071 + 2 * n) 2 k v f = f (pm (u2 m (1071 + 2 * n) k v) j u) := e_pI (hc.2.2 n hn).2.2.2
theorem cT_pc (hc : CS u) (hn : n < 25) {f : Option β} : tst (pm m j u) (1071 + 2 * n) 2 f = f := e_tst (hc.2.2 n hn).2.2.2
end CLS1
theorem l_0 : (0 : Int32) = nI 0 := rfl
theorem l_1 : (1 : Int32) = nI 1 := rfl
theorem l_2 : (2 : Int32) = nI 2 := rfl
theorem l_3 : (3 : Int32) = nI 3 := rfl
theorem l_4 : (4 : Int32) = nI 4 := rfl
theorem l_5 : (5 : Int32) = nI 5 := rfl
theorem l_6 : (6 : Int32) = nI 6 := rfl
theorem l_7 : (7 : Int32) = nI 7 := rfl
theorem l_8 : (8 : Int32) = nI 8 := rfl
theorem l_9 : (9 : Int32) = nI 9 := rfl
theorem l_10 : (10 : Int32) = nI 10 := rfl
theorem l_12 : (12 : Int32) = nI 12 := rfl
theorem l_16 : (16 : Int32) = nI 16 := rfl
theorem l_20 : (20 : Int32) = nI 20 := rfl
theorem l_24 : (24 : Int32) = nI 24 := rfl
theorem l_31 : (31 : Int32) = nI 31 := rfl
theorem l_32 : (32 : Int32) = nI 32 := rfl
theorem l_35 : (35 : Int32) = nI 35 := rfl
theorem l_36 : (36 : Int32) = nI 36 := rfl
theorem l_40 : (40 : Int32) = nI 40 := rfl
theorem l_44 : (44 : Int32) = nI 44 := rfl
theorem l_48 : (48 : Int32) = nI 48 := rfl
theorem l_59 : (59 : Int32) = nI 59 := rfl
theorem l_63 : (63 : Int32) = nI 63 := rfl
theorem l_64 : (64 : Int32) = nI 64 := rfl
theorem l_90 : (90 : Int32) = nI 90 := rfl
theorem l_95 : (95 : Int32) = nI 95 := rfl
theorem l_96 : (96 : Int32) = nI 96 := rfl
theorem l_100 : (100 : Int32) = nI 100 := rfl
theorem l_120 : (120 : Int32) = nI 120 := rfl
theorem l_127 : (127 : Int32) = nI 127 := rfl
theorem l_200 : (200 : Int32) = nI 200 := rfl
theorem l_216 : (216 : Int32) = nI 216 := rfl
theorem l_255 : (255 : Int32) = nI 255 := rfl
theorem l_999 : (999 : Int32) = nI 999 := rfl
theorem l_1000 : (1000 : Int32) = nI 1000 := rfl
theorem l_10000 : (10000 : Int32) = nI 10000 := rfl
theorem l_1000000 : (1000000 : Int32) = nI 1000000 := rfl
theorem l_1048575 : (1048575 : Int32) = nI 1048575 := rfl
theorem l_1000000000 : (1000000000 : Int32) = nI 1000000000 := rfl
theorem l_m1 : (-1 : Int32) = oI 0 := by decide
def cM2 : Int32 := -2
def cM8 : Int32 := -8
theorem l_m2 : (-2 : Int32) = cM2 := rfl
theorem l_m8 : (-8 : Int32) = cM8 := rfl
section CLS2
variable {β : Type} {m : IM} {j : JM} {u : SU} {a b k : Nat}
theorem e_u2e {v : Int32} {i : Nat} (h : i = k) : u2 m a k v a i = v := by rw [h]; exact e_u2s
theorem e_v2e {v : Int64} {i : Nat} (h : i = k) : u2 j a k v a i = v := by rw [h]; simp [u2]
theorem e_v2k {v : Int64} {i : Nat} (h : i ≠ k) : u2 j a k v a i = j a i := by simp [u2, h]
theorem e_v2a {v : Int64} {i : Nat} (h : b ≠ a) : u2 j a k v b i = j b i := by simp [u2, h]
theorem e_v2r {v : Int64} (h : b ≠ a) : u2 j a k v b = j b := by funext i; simp [u2, h]
theorem e_cxl {α γ : Type} {x : Nat} {h : PM} {f : α → PM → Option ((Nat ⊕ γ) × PM)} : cx (some (.inl x, h)) f = some (.inl x, h) := (fun h => h) (Eq.refl _)
theorem e_cxr {α γ : Type} {r : α} {h : PM} {f : α → PM → Option ((Nat ⊕ γ) × PM)} : cx (some (.inr r, h)) f = f r h := (fun h => h) (Eq.refl _)
theorem e_rzn {n : Nat} {h : PM} (hn : n ≤ 1) : rz (nI n) h = some (nI n, h) := by
  rcases (show n = 0 ∨ n = 1 by omega) with rfl | rfl
  · exact e_rz0
  · exact e_rz1
theorem nI_dec (n : Nat) : nI (n + 1) + oI 0 = nI n := by rw [oI_0, ← Int32.sub_eq_add_neg, nI_pred]
theorem nI_o0 {n : Nat} (h : n < 2 ^ 31) : (nI n = oI 0) = False := eq_false (fun z => by
  rw [fa_eq, nI_toInt h] at z
  have : (oI 0).toInt = -1 := by decide
  omega)
theorem o0_lt {n : Nat} (h : n < 2 ^ 31) : oI 0 < nI n := by
  rw [fa_lt, nI_toInt h, show (oI 0).toInt = -1 by decide]; omega
theorem mx_n {a b : Nat} (ha : a < 2 ^ 31) (hb : b < 2 ^ 31) : mx (nI a) (nI b) = nI (max a b) := by
  unfold mx
  by_cases c : a < b
  · rw [if_pos (nI_lt c hb), Nat.max_eq_right (by omega)]
  · rw [if_neg (nI_nlt (by omega) ha), Nat.max_eq_left (by omega)]
theorem mn_n {a b : Nat} (ha : a < 2 ^ 31) (hb : b < 2 ^ 31) : mn (nI a) (nI b) = nI (min a b) := by
  unfold mn
  by_cases c : b < a
  · rw [if_pos (nI_lt c ha), Nat.min_eq_right (by omega)]
  · rw [if_neg (nI_nlt (by omega) hb), Nat.min_eq_left (by omega)]
def adiff (a b : Nat) : Nat := (a - b) + (b - a)
theorem ab_n {a b : Nat} (ha : a < 2 ^ 30) (hb : b < 2 ^ 30) : ab (nI a - nI b) = nI (adiff a b) := by
  unfold ab adiff
  by_cases c : b ≤ a
  · rw [pk_sub c, if_pos (nI_pos' (by omega)), show b - a = 0 by omega, Nat.add_zero]
  · have e : ¬ 0 ≤ nI a - nI b := fun z => by rw [fa_le, pk_sub_toInt ha hb] at z; have : ((0 : Int32)).toInt = 0 := rfl; omega
    rw [if_neg e, show a - b = 0 by omega, Nat.zero_add, ← pk_sub (show a ≤ b by omega)]
    apply Int32.toInt_inj.mp
    rw [pk_sub_toInt hb ha, fb_subI (by rw [pk_sub_toInt ha hb]; show -2147483648 ≤ (0 : Int) - _; omega) (by rw [pk_sub_toInt ha hb]; show (0 : Int) - _ < _; omega), pk_sub_toInt ha hb]
    show (0 : Int) - _ = _
    omega
theorem ab_1 {a : Nat} (ha : a < 2 ^ 31) : ab (nI a) = nI a := if_pos (nI_pos' ha)
end CLS2
