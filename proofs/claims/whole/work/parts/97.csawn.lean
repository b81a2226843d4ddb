/-! ===== the class: best, sawn, cut ===== -/
def FW (m m' : IM) : Prop := ∀ b, b ≠ 72 → b ≠ 74 → (b < 1071 ∨ 1119 < b ∨ b % 2 = 0) → (b < 2000 ∨ 3000 ≤ b) → m' b = m b
section CSW
variable {m : IM} {j : JM} {u : SU}
theorem C_findBest (hc : CS u) {ra ps nM : Nat} {ly : Nat → List Lay} {S : Nat → Bool} {pf pp : Nat → Nat} (hD : MD nM ly) (hPD : PD ps pf pp) (hra : 2000 ≤ ra) (hra2 : ra + 3 < 3000) (hR : RoO u ra) (hB : SB m) (hA : CAm m j u nM ly) (hP : CAp m ps pf pp) (hS : ∀ z, z < 6 → j (ra + 1) z = lN (lay S z)) : ∃ m' j', F_X7_findBest 70 ra 30 60 (pm m j u) = some ((), pm m' j' u) ∧ (∀ b, b ≠ 72 → b ≠ 74 → (b < 1071 ∨ 1119 < b ∨ b % 2 = 0) → b ≠ ra → b ≠ ra + 2 → b ≠ ra + 3 → m' b = m b) ∧ (∀ b, b ≠ 73 → j' b = j b) ∧ KNW m' ra (bstI (bestN (wOf ps pf pp) S nM ly)) := by
  have hn := hD.1
  obtain ⟨m1, a1, a2, a3⟩ := C_resetL (j := j) (c1 := ra) (c2 := 30) (c3 := 60) hc 25 0 LF m (by omega) (by unfold LF; omega) (fun i hi => by omega)
  obtain ⟨m2, j2, b1, b2, b3, b4⟩ := C_models (S := S) hc hD hPD hra (by omega) hR nM 0 LF m1 j (by omega) (by unfold LF; omega) (SB_fr hB a2) (CAm_fr hA hn (by rw [a2 30 (by decide) (by decide) (by omega)]) (fun b g1 g2 => a2 b (by omega) (by omega) (by omega)) (fun _ _ _ => rfl)) (CAp_FS hP a2) hS (fun i hi => ⟨⟨a3 i hi, fun z => absurd rfl z⟩, Nat.zero_le _⟩)
  have f2 := FS_tr a2 b2
  obtain ⟨m3, c1, c2, c3⟩ := C_choose (m := m2) (j := j2) (S := S) (wv := wOf ps pf pp) hc (fun q hq => okM_of hD hq) hra hR (fun k hk => (b4 k hk).2) (SB_fr hB f2).2 (fun i hi => (b4 i hi).1)
  refine ⟨m3, j2, ?_, fun b g1 g2 g3 g4 g5 g6 => by rw [c2.1 b g4 g5 g6, f2 b g1 g2 g3], b3, c3⟩
  unfold F_X7_findBest
  rw [e_jn, show (0 : Int32) = nI 0 from rfl, a1]
  try dsimp only
  rw [e_jn, b1]
  try dsimp only
  rw [cT_70 hc, c1, e_cl]
theorem C_sawnR (hc : CS u) {r nR nM ps : Nat} {sd : Nat → Bool} {ly : Nat → List Lay} {pf pp : Nat → Nat} (hr : r < nR) (hn : nR ≤ 10) (hD : MD nM ly) (hPD : PD ps pf pp) (hA : CAr m j u nR sd (fun r => bstI (bestN (wOf ps pf pp) (rgh sd r) nM ly))) (hM : CAm m j u nM ly) (hP : CAp m ps pf pp) (hB : SB m) : ∃ m' j', F_X11_sawnRough 10 (nI r) (pm m j u) = some (.inr (nmR r), pm m' j' u) ∧ FW m m' ∧ (∀ b, b ≠ 73 → j' b = j b) ∧ CAr m' j' u nR sd (fun r => bstI (bestN (wOf ps pf pp) (rgh sd r) nM ly)) ∧ KNW m' (nmR r) (bstI (bestN (wOf ps pf pp) (rgh sd r) nM ly)) := by
  obtain ⟨hO, hS, hK⟩ := hA.2.2 r hr
  have hrof := C_roughOf (j := j) hc hA hn hr
  rcases hK with hK | ⟨hK1, hK2⟩
  · obtain ⟨m1, j1, a1, a2, a3, a4⟩ := C_findBest (S := rgh sd r) hc hD hPD (show 2000 ≤ nmR r by unfold nmR; omega) (show nmR r + 3 < 3000 by unfold nmR; omega) hO hB hM hP hS
    have nb : ∀ t, t ≠ r → t < nR → ∀ d, d ≤ 3 → nmR t + d ≠ nmR r ∧ nmR t + d ≠ nmR r + 2 ∧ nmR t + d ≠ nmR r + 3 := fun t h1 h2 d hd => by unfold nmR; omega
    have hKN : KNW (u2 m1 (nmR r) 1 (nI 1)) (nmR r) (bstI (bestN (wOf ps pf pp) (rgh sd r) nM ly)) := by
      unfold KNW
      rw [e_u2k (by decide), e_u2k (by decide), e_u2k (by decide), e_u2k (by decide), e_u2r (by omega), e_u2r (by omega)]
      exact a4
    refine ⟨u2 m1 (nmR r) 1 (nI 1), j1, ?_, fun b g1 g2 g3 g4 => by rw [e_u2r (by unfold nmR; omega), a2 b g1 g2 g3 (by unfold nmR; omega) (by unfold nmR; omega) (by unfold nmR; omega)], a3, ⟨hA.1, ?_, fun t ht => ?_⟩, hKN⟩
    · have hz : n01 (show 1 ≤ 1 by omega) = n01 (show 1 ≤ 1 by omega) := rfl
      unfold F_X11_sawnRough
      simp (disch := omega) only [e_cl, e_jn, e_lt, e_cxl, e_cxr, e_rzn, ↓l_m1, ↓l_m2, ↓l_m8, l_0, l_1, l_2, l_3, l_4, l_5, l_6, l_7, l_8, l_9, l_10, l_12, l_16, l_20, l_24, l_31, l_32, l_35, l_36, l_40, l_44, l_48, l_59, l_63, l_64, l_90, l_95, l_96, l_100, l_120, l_127, l_200, l_216, l_255, l_999, l_1000, l_10000, l_1000000, l_1048575, l_1000000000, nI_add, pk_mul, pk_sub, nI_leI, nI_ltI, nI_eq, nI_dec, nI_o0, mx_n, mn_n, ab_1, ab_n, e_u2e, e_u2k, e_u2a, if_pos, if_neg, if_true, if_false, not_true, not_false_eq_true, ne_eq, Nat.add_zero, Nat.zero_add, cG_10 hc, cP_10 hc, cT_10 hc, cR_10_0 hc, cR_10_1 hc, cR_10_2 hc, cR_10_3 hc, cR_10_4 hc, cR_10_5 hc, cR_10_6 hc, cR_10_7 hc, cR_10_8 hc, cG_70 hc, cP_70 hc, cT_70 hc, cR_70_0 hc, cR_70_1 hc, cR_70_2 hc, cA_73 hc, cS_73 hc, cR_70_3 hc, cA_74 hc, cS_74 hc, oG hO, oP hO, oZ hO, oT hO, oR0 hO, oR6 hO, oR7 hO, oA hO, oS hO, oG2 hO, oP2 hO, oT2 hO, oG3 hO, oP3 hO, oT3 hO, hrof, hK, a1]
    · rw [e_u2a (by unfold nmR; omega), a2 20 (by decide) (by decide) (by omega) (by unfold nmR; omega) (by unfold nmR; omega) (by unfold nmR; omega)]; exact hA.2.1
    · by_cases e : t = r
      · subst e
        exact ⟨hO, fun z hz => by rw [a3 _ (by unfold nmR; omega)]; exact hS z hz, Or.inr ⟨e_u2s, hKN⟩⟩
      · have key : ∀ d, d ≤ 3 → u2 m1 (nmR r) 1 (nI 1) (nmR t + d) = m (nmR t + d) := fun d hd => by
          obtain ⟨g1, g2, g3⟩ := nb t e ht d hd
          rw [e_u2r g1, a2 _ (by unfold nmR; omega) (by unfold nmR; omega) (by unfold nmR; omega) g1 g2 g3]
        exact RO_fr (hA.2.2 t ht) (a3 _ (by unfold nmR; omega)) (key 0 (by omega)) (key 2 (by omega)) (key 3 (by omega))
  · refine ⟨m, j, ?_, fun _ _ _ _ _ => rfl, fun _ _ => rfl, hA, hK2⟩
    unfold F_X11_sawnRough
    simp (disch := omega) only [e_cl, e_jn, e_lt, e_cxl, e_cxr, e_rzn, ↓l_m1, ↓l_m2, ↓l_m8, l_0, l_1, l_2, l_3, l_4, l_5, l_6, l_7, l_8, l_9, l_10, l_12, l_16, l_20, l_24, l_31, l_32, l_35, l_36, l_40, l_44, l_48, l_59, l_63, l_64, l_90, l_95, l_96, l_100, l_120, l_127, l_200, l_216, l_255, l_999, l_1000, l_10000, l_1000000, l_1048575, l_1000000000, nI_add, pk_mul, pk_sub, nI_leI, nI_ltI, nI_eq, nI_dec, nI_o0, mx_n, mn_n, ab_1, ab_n, e_u2e, e_u2k, e_u2a, if_pos, if_neg, if_true, if_false, not_true, not_false_eq_true, ne_eq, Nat.add_zero, Nat.zero_add, cG_10 hc, cP_10 hc, cT_10 hc, cR_10_0 hc, cR_10_1 hc, cR_10_2 hc, cR_10_3 hc, cR_10_4 hc, cR_10_5 hc, cR_10_6 hc, cR_10_7 hc, cR_10_8 hc, oG hO, oP hO, oZ hO, oT hO, oR0 hO, oR6 hO, oR7 hO, oA hO, oS hO, oG2 hO, oP2 hO, oT2 hO, oG3 hO, oP3 hO, oT3 hO, hrof, hK1]
theorem C_sawnNo (hc : CS u) {nR : Nat} {x : Int32} {sd : Nat → Bool} {bb : Nat → BST} (hA : CAr m j u nR sd bb) (hn : nR ≤ 10) (hx : ¬ ∃ s, s < nR ∧ x = nI s) : F_X11_sawnRough 10 x (pm m j u) = some (.inl 1, pm m j u) := by
  simp only [F_X11_sawnRough, cT_10 hc, C_roughNo hc hA hn hx, e_cxl]
theorem C_best1 (hc : CS u) {nR : Nat} {x : Int32} {sd : Nat → Bool} {bb : Nat → BST} (hA : CAr m j u nR sd bb) (hn : nR ≤ 10) (hx : ¬ ∃ s, s < nR ∧ x = nI s) : F_X11_best 10 x (pm m j u) = some (.inl 1, pm m j u) := by
  simp only [F_X11_best, cT_10 hc, C_sawnNo hc hA hn hx, e_cxl]
theorem C_sawn1 (hc : CS u) {nR : Nat} {x y : Int32} {sd : Nat → Bool} {bb : Nat → BST} (hA : CAr m j u nR sd bb) (hn : nR ≤ 10) (hx : ¬ ∃ s, s < nR ∧ x = nI s) : F_X11_sawn 10 x y (pm m j u) = some (.inl 1, pm m j u) := by
  simp only [F_X11_sawn, cT_10 hc, C_sawnNo hc hA hn hx, e_cxl]
theorem C_cut1 (hc : CS u) {nR : Nat} {x y z : Int32} {sd : Nat → Bool} {bb : Nat → BST} (hA : CAr m j u nR sd bb) (hn : nR ≤ 10) (hx : ¬ ∃ s, s < nR ∧ x = nI s) : F_X11_cut 10 x y z (pm m j u) = some (.inl 1, pm m j u) := by
  simp only [F_X11_cut, cT_10 hc, C_sawnNo hc hA hn hx, e_cxl]
theorem C_done1 (hc : CS u) {nR : Nat} {x : Int32} {sd : Nat → Bool} {bb : Nat → BST} (hA : CAr m j u nR sd bb) (hn : nR ≤ 10) (hx : ¬ ∃ s, s < nR ∧ x = nI s) : F_X11_done 10 x (pm m j u) = some (.inl 1, pm m j u) := by
  simp only [F_X11_done, cT_10 hc, C_sawnNo hc hA hn hx, e_cxl]
theorem C_tell2 {ra w : Nat} {v : Int32} (hR : RoO u ra) (hw : w ≤ 6) (hv : m (ra + 2) (w + 1) = v) : F_X1_tell (ra + 2) (nI w) (pm m j u) = some (v, pm m j u) := by
  rcases (show w = 0 ∨ w = 1 ∨ w = 2 ∨ w = 3 ∨ w = 4 ∨ w = 5 ∨ w = 6 by omega) with rfl | rfl | rfl | rfl | rfl | rfl | rfl <;> simp (disch := omega) only [F_X1_tell, e_cl, e_jn, e_lt, e_cxl, e_cxr, e_rzn, ↓l_m1, ↓l_m2, ↓l_m8, l_0, l_1, l_2, l_3, l_4, l_5, l_6, l_7, l_8, l_9, l_10, l_12, l_16, l_20, l_24, l_31, l_32, l_35, l_36, l_40, l_44, l_48, l_59, l_63, l_64, l_90, l_95, l_96, l_100, l_120, l_127, l_200, l_216, l_255, l_999, l_1000, l_10000, l_1000000, l_1048575, l_1000000000, nI_add, pk_mul, pk_sub, nI_leI, nI_ltI, nI_eq, nI_dec, nI_o0, mx_n, mn_n, ab_1, ab_n, e_u2e, e_u2k, e_u2a, if_pos, if_neg, if_true, if_false, not_true, not_false_eq_true, ne_eq, Nat.add_zero, Nat.zero_add, oG hR, oP hR, oZ hR, oT hR, oR0 hR, oR6 hR, oR7 hR, oA hR, oS hR, oG2 hR, oP2 hR, oT2 hR, oG3 hR, oP3 hR, oT3 hR, hv]
theorem C_tell3 {ra w : Nat} {v : Int32} (hR : RoO u ra) (hw : w ≤ 6) (hv : m (ra + 3) (w + 1) = v) : F_X1_tell (ra + 3) (nI w) (pm m j u) = some (v, pm m j u) := by
  rcases (show w = 0 ∨ w = 1 ∨ w = 2 ∨ w = 3 ∨ w = 4 ∨ w = 5 ∨ w = 6 by omega) with rfl | rfl | rfl | rfl | rfl | rfl | rfl <;> simp (disch := omega) only [F_X1_tell, e_cl, e_jn, e_lt, e_cxl, e_cxr, e_rzn, ↓l_m1, ↓l_m2, ↓l_m8, l_0, l_1, l_2, l_3, l_4, l_5, l_6, l_7, l_8, l_9, l_10, l_12, l_16, l_20, l_24, l_31, l_32, l_35, l_36, l_40, l_44, l_48, l_59, l_63, l_64, l_90, l_95, l_96, l_100, l_120, l_127, l_200, l_216, l_255, l_999, l_1000, l_10000, l_1000000, l_1048575, l_1000000000, nI_add, pk_mul, pk_sub, nI_leI, nI_ltI, nI_eq, nI_dec, nI_o0, mx_n, mn_n, ab_1, ab_n, e_u2e, e_u2k, e_u2a, if_pos, if_neg, if_true, if_false, not_true, not_false_eq_true, ne_eq, Nat.add_zero, Nat.zero_add, oG hR, oP hR, oZ hR, oT hR, oR0 hR, oR6 hR, oR7 hR, oA hR, oS hR, oG2 hR, oP2 hR, oT2 hR, oG3 hR, oP3 hR, oT3 hR, hv]
/-- a call that asks for the best of a rough -/
def CQ (m m' : IM) (j j' : JM) (u : SU) (nR : Nat) (sd : Nat → Bool) (nM : Nat) (ly : Nat → List Lay) (ps : Nat) (pf pp : Nat → Nat) : Prop := FW m m' ∧ (∀ b, b ≠ 73 → j' b = j b) ∧ CAr m' j' u nR sd (fun r => bstI (bestN (wOf ps pf pp) (rgh sd r) nM ly))
theorem C_best2 (hc : CS u) {r nR nM ps : Nat} {sd : Nat → Bool} {ly : Nat → List Lay} {pf pp : Nat → Nat} (hr : r < nR) (hn : nR ≤ 10) (hD : MD nM ly) (hPD : PD ps pf pp) (hA : CAr m j u nR sd (fun r => bstI (bestN (wOf ps pf pp) (rgh sd r) nM ly))) (hM : CAm m j u nM ly) (hP : CAp m ps pf pp) (hB : SB m) : ∃ m' j', F_X11_best 10 (nI r) (pm m j u) = some (.inr (nI (bestN (wOf ps pf pp) (rgh sd r) nM ly).1), pm m' j' u) ∧ CQ m m' j j' u nR sd nM ly ps pf pp := by
  obtain ⟨m', j', a1, a2, a3, a4, a5⟩ := C_sawnR hc hr hn hD hPD hA hM hP hB
  have hO := (hA.2.2 r hr).1
  have h4 : m' (nmR r) 4 = nI (bestN (wOf ps pf pp) (rgh sd r) nM ly).1 := a5.1
  refine ⟨m', j', ?_, a2, a3, a4⟩
  simp (disch := omega) only [F_X11_best, e_cl, e_jn, e_lt, e_cxl, e_cxr, e_rzn, ↓l_m1, ↓l_m2, ↓l_m8, l_0, l_1, l_2, l_3, l_4, l_5, l_6, l_7, l_8, l_9, l_10, l_12, l_16, l_20, l_24, l_31, l_32, l_35, l_36, l_40, l_44, l_48, l_59, l_63, l_64, l_90, l_95, l_96, l_100, l_120, l_127, l_200, l_216, l_255, l_999, l_1000, l_10000, l_1000000, l_1048575, l_1000000000, nI_add, pk_mul, pk_sub, nI_leI, nI_ltI, nI_eq, nI_dec, nI_o0, mx_n, mn_n, ab_1, ab_n, e_u2e, e_u2k, e_u2a, if_pos, if_neg, if_true, if_false, not_true, not_false_eq_true, ne_eq, Nat.add_zero, Nat.zero_add, cG_10 hc, cP_10 hc, cT_10 hc, cR_10_0 hc, cR_10_1 hc, cR_10_2 hc, cR_10_3 hc, cR_10_4 hc, cR_10_5 hc, cR_10_6 hc, cR_10_7 hc, cR_10_8 hc, oG hO, oP hO, oZ hO, oT hO, oR0 hO, oR6 hO, oR7 hO, oA hO, oS hO, oG2 hO, oP2 hO, oT2 hO, oG3 hO, oP3 hO, oT3 hO, a1, h4]
theorem C_sawn2 (hc : CS u) {r nR nM ps : Nat} {y : Int32} {sd : Nat → Bool} {ly : Nat → List Lay} {pf pp : Nat → Nat} (hr : r < nR) (hn : nR ≤ 10) (hD : MD nM ly) (hPD : PD ps pf pp) (hA : CAr m j u nR sd (fun r => bstI (bestN (wOf ps pf pp) (rgh sd r) nM ly))) (hM : CAm m j u nM ly) (hP : CAp m ps pf pp) (hB : SB m) (hy : ¬ ∃ s, s < 3 ∧ y = nI s) : ∃ m' j', F_X11_sawn 10 (nI r) y (pm m j u) = some (.inl 2, pm m' j' u) ∧ CQ m m' j j' u nR sd nM ly ps pf pp := by
  obtain ⟨m', j', a1, a2, a3, a4, a5⟩ := C_sawnR hc hr hn hD hPD hA hM hP hB
  refine ⟨m', j', ?_, a2, a3, a4⟩
  rcases nI_ncase (n := 3) (by omega) hy with c | ⟨l, h1, h2, rfl⟩
  · simp only [F_X11_sawn, cT_10 hc, a1, e_cxr, e_jn, if_pos c]
  · simp (disch := omega) only [F_X11_sawn, e_cl, e_jn, e_lt, e_cxl, e_cxr, e_rzn, ↓l_m1, ↓l_m2, ↓l_m8, l_0, l_1, l_2, l_3, l_4, l_5, l_6, l_7, l_8, l_9, l_10, l_12, l_16, l_20, l_24, l_31, l_32, l_35, l_36, l_40, l_44, l_48, l_59, l_63, l_64, l_90, l_95, l_96, l_100, l_120, l_127, l_200, l_216, l_255, l_999, l_1000, l_10000, l_1000000, l_1048575, l_1000000000, nI_add, pk_mul, pk_sub, nI_leI, nI_ltI, nI_eq, nI_dec, nI_o0, mx_n, mn_n, ab_1, ab_n, e_u2e, e_u2k, e_u2a, if_pos, if_neg, if_true, if_false, not_true, not_false_eq_true, ne_eq, Nat.add_zero, Nat.zero_add, cG_10 hc, cP_10 hc, cT_10 hc, cR_10_0 hc, cR_10_1 hc, cR_10_2 hc, cR_10_3 hc, cR_10_4 hc, cR_10_5 hc, cR_10_6 hc, cR_10_7 hc, cR_10_8 hc, a1]
theorem C_sawn3 (hc : CS u) {r w nR nM ps : Nat} {sd : Nat → Bool} {ly : Nat → List Lay} {pf pp : Nat → Nat} (hr : r < nR) (hn : nR ≤ 10) (hD : MD nM ly) (hPD : PD ps pf pp) (hA : CAr m j u nR sd (fun r => bstI (bestN (wOf ps pf pp) (rgh sd r) nM ly))) (hM : CAm m j u nM ly) (hP : CAp m ps pf pp) (hB : SB m) (hw : w ≤ 2) : ∃ m' j', F_X11_sawn 10 (nI r) (nI w) (pm m j u) = some (.inr (sawV (bestN (wOf ps pf pp) (rgh sd r) nM ly) w), pm m' j' u) ∧ CQ m m' j j' u nR sd nM ly ps pf pp := by
  obtain ⟨m', j', a1, a2, a3, a4, a5⟩ := C_sawnR hc hr hn hD hPD hA hM hP hB
  have hO := (hA.2.2 r hr).1
  obtain ⟨-, k2, k3, k5, -⟩ := a5
  refine ⟨m', j', ?_, a2, a3, a4⟩
  rcases (show w = 0 ∨ w = 1 ∨ w = 2 by omega) with rfl | rfl | rfl
  · simp (disch := omega) only [F_X11_sawn, e_cl, e_jn, e_lt, e_cxl, e_cxr, e_rzn, ↓l_m1, ↓l_m2, ↓l_m8, l_0, l_1, l_2, l_3, l_4, l_5, l_6, l_7, l_8, l_9, l_10, l_12, l_16, l_20, l_24, l_31, l_32, l_35, l_36, l_40, l_44, l_48, l_59, l_63, l_64, l_90, l_95, l_96, l_100, l_120, l_127, l_200, l_216, l_255, l_999, l_1000, l_10000, l_1000000, l_1048575, l_1000000000, nI_add, pk_mul, pk_sub, nI_leI, nI_ltI, nI_eq, nI_dec, nI_o0, mx_n, mn_n, ab_1, ab_n, e_u2e, e_u2k, e_u2a, if_pos, if_neg, if_true, if_false, not_true, not_false_eq_true, ne_eq, Nat.add_zero, Nat.zero_add, cG_10 hc, cP_10 hc, cT_10 hc, cR_10_0 hc, cR_10_1 hc, cR_10_2 hc, cR_10_3 hc, cR_10_4 hc, cR_10_5 hc, cR_10_6 hc, cR_10_7 hc, cR_10_8 hc, oG hO, oP hO, oZ hO, oT hO, oR0 hO, oR6 hO, oR7 hO, oA hO, oS hO, oG2 hO, oP2 hO, oT2 hO, oG3 hO, oP3 hO, oT3 hO, a1, k2]; rfl
  · simp (disch := omega) only [F_X11_sawn, e_cl, e_jn, e_lt, e_cxl, e_cxr, e_rzn, ↓l_m1, ↓l_m2, ↓l_m8, l_0, l_1, l_2, l_3, l_4, l_5, l_6, l_7, l_8, l_9, l_10, l_12, l_16, l_20, l_24, l_31, l_32, l_35, l_36, l_40, l_44, l_48, l_59, l_63, l_64, l_90, l_95, l_96, l_100, l_120, l_127, l_200, l_216, l_255, l_999, l_1000, l_10000, l_1000000, l_1048575, l_1000000000, nI_add, pk_mul, pk_sub, nI_leI, nI_ltI, nI_eq, nI_dec, nI_o0, mx_n, mn_n, ab_1, ab_n, e_u2e, e_u2k, e_u2a, if_pos, if_neg, if_true, if_false, not_true, not_false_eq_true, ne_eq, Nat.add_zero, Nat.zero_add, cG_10 hc, cP_10 hc, cT_10 hc, cR_10_0 hc, cR_10_1 hc, cR_10_2 hc, cR_10_3 hc, cR_10_4 hc, cR_10_5 hc, cR_10_6 hc, cR_10_7 hc, cR_10_8 hc, oG hO, oP hO, oZ hO, oT hO, oR0 hO, oR6 hO, oR7 hO, oA hO, oS hO, oG2 hO, oP2 hO, oT2 hO, oG3 hO, oP3 hO, oT3 hO, a1, k3]; rfl
  · simp (disch := omega) only [F_X11_sawn, e_cl, e_jn, e_lt, e_cxl, e_cxr, e_rzn, ↓l_m1, ↓l_m2, ↓l_m8, l_0, l_1, l_2, l_3, l_4, l_5, l_6, l_7, l_8, l_9, l_10, l_12, l_16, l_20, l_24, l_31, l_32, l_35, l_36, l_40, l_44, l_48, l_59, l_63, l_64, l_90, l_95, l_96, l_100, l_120, l_127, l_200, l_216, l_255, l_999, l_1000, l_10000, l_1000000, l_1048575, l_1000000000, nI_add, pk_mul, pk_sub, nI_leI, nI_ltI, nI_eq, nI_dec, nI_o0, mx_n, mn_n, ab_1, ab_n, e_u2e, e_u2k, e_u2a, if_pos, if_neg, if_true, if_false, not_true, not_false_eq_true, ne_eq, Nat.add_zero, Nat.zero_add, cG_10 hc, cP_10 hc, cT_10 hc, cR_10_0 hc, cR_10_1 hc, cR_10_2 hc, cR_10_3 hc, cR_10_4 hc, cR_10_5 hc, cR_10_6 hc, cR_10_7 hc, cR_10_8 hc, oG hO, oP hO, oZ hO, oT hO, oR0 hO, oR6 hO, oR7 hO, oA hO, oS hO, oG2 hO, oP2 hO, oT2 hO, oG3 hO, oP3 hO, oT3 hO, a1, k5]; rfl
theorem C_cut2 (hc : CS u) {r nR nM ps : Nat} {y z : Int32} {sd : Nat → Bool} {ly : Nat → List Lay} {pf pp : Nat → Nat} (hr : r < nR) (hn : nR ≤ 10) (hD : MD nM ly) (hPD : PD ps pf pp) (hA : CAr m j u nR sd (fun r => bstI (bestN (wOf ps pf pp) (rgh sd r) nM ly))) (hM : CAm m j u nM ly) (hP : CAp m ps pf pp) (hB : SB m) (hz : ¬ ∃ s, s < 7 ∧ z = nI s) : ∃ m' j', F_X11_cut 10 (nI r) y z (pm m j u) = some (.inl 2, pm m' j' u) ∧ CQ m m' j j' u nR sd nM ly ps pf pp := by
  obtain ⟨m', j', a1, a2, a3, a4, a5⟩ := C_sawnR hc hr hn hD hPD hA hM hP hB
  refine ⟨m', j', ?_, a2, a3, a4⟩
  rcases nI_ncase (n := 7) (by omega) hz with c | ⟨l, h1, h2, rfl⟩
  · simp only [F_X11_cut, cT_10 hc, a1, e_cxr, e_jn, if_pos c]
  · unfold F_X11_cut
    rw [cT_10 hc, a1, e_cxr, e_jn, if_neg (nI_pos h2), if_neg (show ¬ nI l ≤ 6 from nI_ge (a := 6) (by omega) h2)]
theorem C_cut3 (hc : CS u) {r w nR nM ps : Nat} {x : Int32} {sd : Nat → Bool} {ly : Nat → List Lay} {pf pp : Nat → Nat} (hr : r < nR) (hn : nR ≤ 10) (hD : MD nM ly) (hPD : PD ps pf pp) (hA : CAr m j u nR sd (fun r => bstI (bestN (wOf ps pf pp) (rgh sd r) nM ly))) (hM : CAm m j u nM ly) (hP : CAp m ps pf pp) (hB : SB m) (hw : w ≤ 6) : ∃ m' j', F_X11_cut 10 (nI r) x (nI w) (pm m j u) = some (.inr (cutV (bestN (wOf ps pf pp) (rgh sd r) nM ly) x w), pm m' j' u) ∧ CQ m m' j j' u nR sd nM ly ps pf pp := by
  obtain ⟨m', j', a1, a2, a3, a4, a5⟩ := C_sawnR hc hr hn hD hPD hA hM hP hB
  have hO := (hA.2.2 r hr).1
  obtain ⟨-, -, -, k5, kc, kf, kg⟩ := a5
  refine ⟨m', j', ?_, a2, a3, a4⟩
  have k5 : m' (nmR r) 5 = nI (bestN (wOf ps pf pp) (rgh sd r) nM ly).2.2.2.1 := k5
  have kc : (bestN (wOf ps pf pp) (rgh sd r) nM ly).2.2.2.1 ≤ 2 := kc
  unfold F_X11_cut
  rw [cT_10 hc, a1, e_cxr, e_jn, if_neg (nI_pos (by omega)), if_pos (show nI w ≤ 6 from nI_le (b := 6) hw (by decide)), e_jn]
  have none_ : ∀ h : PM, (jn (fun (s9 : Int32) (h10 : PM) => some ((Sum.inr s9 : Nat ⊕ Int32), h10)) fun k57 => jn (fun (h11 : PM) => k57 (-1) h11) fun k56 => if nI w < 3 then (k56 h) else (if 5 < nI w then (k56 h) else (k57 (-1000) h))) = some (.inr (if 3 ≤ w ∧ w ≤ 5 then -1000 else -1), h) := fun h => by
    rw [e_jn, e_jn]
    by_cases c1 : w < 3
    · rw [if_pos (show nI w < 3 from nI_lt (b := 3) c1 (by decide)), if_neg (by omega)]
    · rw [if_neg (show ¬ nI w < 3 from nI_nlt (b := 3) (by omega) (by omega))]
      by_cases c2 : 5 < w
      · rw [if_pos (show 5 < nI w from nI_lt (a := 5) c2 (by omega)), if_neg (by omega)]
      · rw [if_neg (show ¬ 5 < nI w from nI_nlt (a := 5) (by omega) (by decide)), if_pos (by omega)]
  by_cases c : ∃ s, s < (bestN (wOf ps pf pp) (rgh sd r) nM ly).2.2.2.1 ∧ x = nI s
  · obtain ⟨s, hs, rfl⟩ := c
    unfold cutV
    rw [if_neg (not_lt_of (by omega) hs), if_neg (nI_pos (by omega)), oG hO, k5, if_pos (nI_lt hs (by omega)), e_jn]
    rcases (show s = 0 ∨ s = 1 by omega) with rfl | rfl
    · rw [if_neg (show ¬ ¬ nI 0 = 0 from fun z => z rfl), if_pos (show nI 0 = 0 from rfl), oR6 hO, oT2 hO, C_tell2 hO hw (kf (by show 1 ≤ (bestN (wOf ps pf pp) (rgh sd r) nM ly).2.2.2.1; omega) w (by omega)), e_cl]
      rfl
    · rw [if_pos (show ¬ nI 1 = 0 by decide), if_neg (show ¬ nI 1 = 0 by decide), oR7 hO, oT3 hO, C_tell3 hO hw (kg (by show 2 ≤ (bestN (wOf ps pf pp) (rgh sd r) nM ly).2.2.2.1; omega) w (by omega)), e_cl]
      rfl
  · have hlt := lt_of_not (by omega) c
    unfold cutV
    rw [if_pos hlt]
    rcases nI_ncase (by omega) c with c1 | ⟨l, h1, h2, rfl⟩
    · rw [if_pos c1]
      exact none_ _
    · rw [if_neg (nI_pos h2), oG hO, k5, if_neg (nI_nlt h1 h2)]
      exact none_ _
end CSW
