/-! ===== the class: models, fit; the first place in a part ===== -/
def nmM (k : Nat) : Nat := 3000 + 50 * k
def MO (m : IM) (j : JM) (u : SU) (a : Nat) (l : List Lay) : Prop := MoO u a ∧ m a 3 = nI (tot l) ∧ m a 4 = nI (gre l) ∧ (∀ b, b < 3 → m (a + 1) b = nI (le_ l b) ∧ m (a + 2) b = nI (sp_ l b)) ∧ ∀ t w z, 1 ≤ t → t ≤ gre l → w < 6 → z < 6 → j (a + 4 + (6 * (t - 1) + w)) z = lN (lay (mkB l t w) z)
def CAm (m : IM) (j : JM) (u : SU) (nM : Nat) (ly : Nat → List Lay) : Prop := LiS u 30 nM nmM ∧ m 30 2 = nI nM ∧ ∀ q, q < nM → MO m j u (nmM q) (ly q)
theorem MO_fr {m m' : IM} {j j' : JM} {u : SU} {a : Nat} {l : List Lay} (h : MO m j u a l) (hm : ∀ b, a ≤ b → b < a + 3 → m' b = m b) (hj : ∀ b, a + 4 ≤ b → b < a + 40 → j' b = j b) : MO m' j' u a l := by
  obtain ⟨h1, h2, h3, h4, h5⟩ := h
  refine ⟨h1, by rw [hm a (by omega) (by omega)]; exact h2, by rw [hm a (by omega) (by omega)]; exact h3, fun b hb => by rw [hm (a + 1) (by omega) (by omega), hm (a + 2) (by omega) (by omega)]; exact h4 b hb, fun t w z g1 g2 g3 g4 => ?_⟩
  have := (gre_iff.mp g2).1
  rw [hj _ (by omega) (by omega)]
  exact h5 t w z g1 g2 g3 g4
theorem CAm_fr {m m' : IM} {j j' : JM} {u : SU} {nM : Nat} {ly : Nat → List Lay} (h : CAm m j u nM ly) (hn : nM ≤ 6) (h30 : m' 30 2 = m 30 2) (hm : ∀ b, 3000 ≤ b → b < 4000 → m' b = m b) (hj : ∀ b, 3000 ≤ b → b < 4000 → j' b = j b) : CAm m' j' u nM ly :=
  ⟨h.1, by rw [h30]; exact h.2.1, fun q hq => MO_fr (h.2.2 q hq) (fun b g1 g2 => hm b (by unfold nmM at *; omega) (by unfold nmM at *; omega)) (fun b g1 g2 => hj b (by unfold nmM at *; omega) (by unfold nmM at *; omega))⟩
theorem fitN_gre {S : Nat → Bool} {l : List Lay} (h : okM l) {w : Nat} (hw : w < 6) : ∀ d, gre l + d ≤ 6 → fitN S l w (gre l + d) = fitN S l w (gre l)
  | 0, _ => rfl
  | d + 1, hd => by
    have ih := fitN_gre h (S := S) hw d (by omega)
    rw [show gre l + (d + 1) = (gre l + d) + 1 by omega, fitN, if_neg (fun z => ?_), ih]
    have h1 := (fit_216 h hw z).1
    have := gre_iff.mpr ⟨(by omega : gre l + d + 1 ≤ 6), h1⟩
    omega
section CFIT
variable {m : IM} {j : JM} {u : SU}
theorem C_fitL (hc : CS u) {ra a w : Nat} {l : List Lay} {S : Nat → Bool} (hM : okM l) (hw : w < 6) (hR : RoO u ra) (ha : 3000 ≤ a) (hra : 2000 ≤ ra) : ∀ (t fu : Nat) (m : IM) (j : JM), t ≤ gre l → t < fu → TU m → MO m j u a l → (∀ z, z < 6 → j (ra + 1) z = lN (lay S z)) →
    ∃ m' j', (∀ (K1 : PM → Option ((Nat ⊕ Int32) × PM)) (K2 : Int32 → PM → Option ((Nat ⊕ Int32) × PM)), F_X11_fit_L72 10 (nI w) ra a K1 K2 fu (nI t) (pm m j u) = if fitN S l w t = 0 then K1 (pm m' j' u) else K2 (nI (fitN S l w t)) (pm m' j' u)) ∧ (∀ b, b ≠ 74 → m' b = m b) ∧ (∀ b, b ≠ 73 → j' b = j b) := by
  intro t
  induction t with
  | zero =>
    intro fu m j ht hfu hT hO hS
    obtain ⟨fu, rfl⟩ : ∃ g, fu = g + 1 := ⟨fu - 1, by omega⟩
    refine ⟨m, j, fun K1 K2 => ?_, fun _ _ => rfl, fun _ _ => rfl⟩
    rw [show fitN S l w 0 = 0 from rfl, if_pos rfl, F_X11_fit_L72]
    simp (disch := omega) only [e_cl, e_jn, e_lt, e_cxl, e_cxr, e_rzn, ↓l_m1, ↓l_m2, ↓l_m8, l_0, l_1, l_2, l_3, l_4, l_5, l_6, l_7, l_8, l_9, l_10, l_12, l_16, l_20, l_24, l_31, l_32, l_35, l_36, l_40, l_44, l_48, l_59, l_63, l_64, l_90, l_95, l_96, l_100, l_120, l_127, l_200, l_216, l_255, l_999, l_1000, l_10000, l_1000000, l_1048575, l_1000000000, nI_add, pk_mul, pk_sub, nI_leI, nI_ltI, nI_eq, nI_dec, nI_o0, mx_n, mn_n, ab_1, ab_n, e_u2e, e_u2k, e_u2a, if_pos, if_neg, if_true, if_false, not_true, not_false_eq_true, ne_eq, Nat.add_zero, Nat.zero_add]
  | succ t ih =>
    intro fu m j ht hfu hT hO hS
    obtain ⟨fu, rfl⟩ : ∃ g, fu = g + 1 := ⟨fu - 1, by omega⟩
    have g6 := gre_le (l := l)
    obtain ⟨m1, j1, a1, a2, a3, -, -⟩ := C_search (m := m) (j := j) hc hM hO.1 hR ha hra (show 1 ≤ t + 1 by omega) ht hw hT (fun b hb => (hO.2.2.2.1 b hb).2) (fun z hz => hO.2.2.2.2 (t + 1) w z (by omega) ht hw hz) hS
    by_cases c : fitW S l (t + 1) w < 216
    · refine ⟨m1, j1, fun K1 K2 => ?_, a2, a3⟩
      rw [fitN, if_pos c, if_neg (by omega), F_X11_fit_L72]
      rw [decide_eq_true c] at a1
      simp (disch := omega) only [e_cl, e_jn, e_lt, e_cxl, e_cxr, e_rzn, ↓l_m1, ↓l_m2, ↓l_m8, l_0, l_1, l_2, l_3, l_4, l_5, l_6, l_7, l_8, l_9, l_10, l_12, l_16, l_20, l_24, l_31, l_32, l_35, l_36, l_40, l_44, l_48, l_59, l_63, l_64, l_90, l_95, l_96, l_100, l_120, l_127, l_200, l_216, l_255, l_999, l_1000, l_10000, l_1000000, l_1048575, l_1000000000, nI_add, pk_mul, pk_sub, nI_leI, nI_ltI, nI_eq, nI_dec, nI_o0, mx_n, mn_n, ab_1, ab_n, e_u2e, e_u2k, e_u2a, if_pos, if_neg, if_true, if_false, not_true, not_false_eq_true, ne_eq, Nat.add_zero, Nat.zero_add, cG_10 hc, cP_10 hc, cT_10 hc, cR_10_0 hc, cR_10_1 hc, cR_10_2 hc, cR_10_3 hc, cR_10_4 hc, cR_10_5 hc, cR_10_6 hc, cR_10_7 hc, cR_10_8 hc, cG_70 hc, cP_70 hc, cT_70 hc, cR_70_0 hc, cR_70_1 hc, cR_70_2 hc, cA_73 hc, cS_73 hc, cR_70_3 hc, cA_74 hc, cS_74 hc, oG hR, oP hR, oZ hR, oT hR, oR0 hR, oR6 hR, oR7 hR, oA hR, oS hR, oG2 hR, oP2 hR, oT2 hR, oG3 hR, oP3 hR, oT3 hR, a1, Bool.toNat_true]
    · obtain ⟨m', j', i1, i2, i3⟩ := ih fu m1 j1 (by omega) (by omega) (fun w hw a ha => by rw [a2 1 (by decide)]; exact hT w hw a ha) (MO_fr hO (fun b g1 g2 => a2 b (by omega)) (fun b g1 g2 => a3 b (by omega))) (fun z hz => by rw [a3 _ (by omega)]; exact hS z hz)
      refine ⟨m', j', fun K1 K2 => ?_, fun b hb => by rw [i2 b hb, a2 b hb], fun b hb => by rw [i3 b hb, a3 b hb]⟩
      rw [fitN, if_neg c, ← i1 K1 K2, F_X11_fit_L72]
      rw [decide_eq_false c] at a1
      simp (disch := omega) only [e_cl, e_jn, e_lt, e_cxl, e_cxr, e_rzn, ↓l_m1, ↓l_m2, ↓l_m8, l_0, l_1, l_2, l_3, l_4, l_5, l_6, l_7, l_8, l_9, l_10, l_12, l_16, l_20, l_24, l_31, l_32, l_35, l_36, l_40, l_44, l_48, l_59, l_63, l_64, l_90, l_95, l_96, l_100, l_120, l_127, l_200, l_216, l_255, l_999, l_1000, l_10000, l_1000000, l_1048575, l_1000000000, nI_add, pk_mul, pk_sub, nI_leI, nI_ltI, nI_eq, nI_dec, nI_o0, mx_n, mn_n, ab_1, ab_n, e_u2e, e_u2k, e_u2a, if_pos, if_neg, if_true, if_false, not_true, not_false_eq_true, ne_eq, Nat.add_zero, Nat.zero_add, cG_10 hc, cP_10 hc, cT_10 hc, cR_10_0 hc, cR_10_1 hc, cR_10_2 hc, cR_10_3 hc, cR_10_4 hc, cR_10_5 hc, cR_10_6 hc, cR_10_7 hc, cR_10_8 hc, cG_70 hc, cP_70 hc, cT_70 hc, cR_70_0 hc, cR_70_1 hc, cR_70_2 hc, cA_73 hc, cS_73 hc, cR_70_3 hc, cA_74 hc, cS_74 hc, oG hR, oP hR, oZ hR, oT hR, oR0 hR, oR6 hR, oR7 hR, oA hR, oS hR, oG2 hR, oP2 hR, oT2 hR, oG3 hR, oP3 hR, oT3 hR, a1, Bool.toNat_false]
theorem C_fit1 (hc : CS u) {nR : Nat} {x y z : Int32} {sd : Nat → Bool} {bb : Nat → BST} (hA : CAr m j u nR sd bb) (hn : nR ≤ 10) (hx : ¬ ∃ s, s < nR ∧ x = nI s) : F_X11_fit 10 x y z (pm m j u) = some (.inl 1, pm m j u) := by
  simp only [F_X11_fit, cT_10 hc, C_roughNo hc hA hn hx, e_cxl]
theorem C_fit2 (hc : CS u) {nR r nM : Nat} {y z : Int32} {sd : Nat → Bool} {bb : Nat → BST} {ly : Nat → List Lay} (hA : CAr m j u nR sd bb) (hn : nR ≤ 10) (hr : r < nR) (hM : CAm m j u nM ly) (hnM : nM ≤ 6) (hy : ¬ ∃ s, s < nM ∧ y = nI s) : F_X11_fit 10 (nI r) y z (pm m j u) = some (.inl 4, pm m j u) := by
  rcases nI_ncase (by omega) hy with c | ⟨l, h1, h2, rfl⟩
  · simp only [F_X11_fit, cT_10 hc, C_roughOf hc hA hn hr, e_cxr, e_jn, if_pos c]
  · simp (disch := omega) only [F_X11_fit, e_cl, e_jn, e_lt, e_cxl, e_cxr, e_rzn, ↓l_m1, ↓l_m2, ↓l_m8, l_0, l_1, l_2, l_3, l_4, l_5, l_6, l_7, l_8, l_9, l_10, l_12, l_16, l_20, l_24, l_31, l_32, l_35, l_36, l_40, l_44, l_48, l_59, l_63, l_64, l_90, l_95, l_96, l_100, l_120, l_127, l_200, l_216, l_255, l_999, l_1000, l_10000, l_1000000, l_1048575, l_1000000000, nI_add, pk_mul, pk_sub, nI_leI, nI_ltI, nI_eq, nI_dec, nI_o0, mx_n, mn_n, ab_1, ab_n, e_u2e, e_u2k, e_u2a, if_pos, if_neg, if_true, if_false, not_true, not_false_eq_true, ne_eq, Nat.add_zero, Nat.zero_add, cG_10 hc, cP_10 hc, cT_10 hc, cR_10_0 hc, cR_10_1 hc, cR_10_2 hc, cR_10_3 hc, cR_10_4 hc, cR_10_5 hc, cR_10_6 hc, cR_10_7 hc, cR_10_8 hc, cG_30 hc, cP_30 hc, cT_30 hc, C_roughOf hc hA hn hr, C_size hM.1 hM.2.1]
theorem C_fit3 (hc : CS u) {nR r nM q : Nat} {z : Int32} {sd : Nat → Bool} {bb : Nat → BST} {ly : Nat → List Lay} (hA : CAr m j u nR sd bb) (hn : nR ≤ 10) (hr : r < nR) (hM : CAm m j u nM ly) (hnM : nM ≤ 6) (hq : q < nM) (hz : ¬ ∃ s, s < 6 ∧ z = nI s) : F_X11_fit 10 (nI r) (nI q) z (pm m j u) = some (.inl 2, pm m j u) := by
  rcases nI_ncase (n := 6) (by omega) hz with c | ⟨l, h1, h2, rfl⟩
  · have c : z < nI 0 := c
    have c := eq_true c
    simp (disch := omega) only [F_X11_fit, e_cl, e_jn, e_lt, e_cxl, e_cxr, e_rzn, ↓l_m1, ↓l_m2, ↓l_m8, l_0, l_1, l_2, l_3, l_4, l_5, l_6, l_7, l_8, l_9, l_10, l_12, l_16, l_20, l_24, l_31, l_32, l_35, l_36, l_40, l_44, l_48, l_59, l_63, l_64, l_90, l_95, l_96, l_100, l_120, l_127, l_200, l_216, l_255, l_999, l_1000, l_10000, l_1000000, l_1048575, l_1000000000, nI_add, pk_mul, pk_sub, nI_leI, nI_ltI, nI_eq, nI_dec, nI_o0, mx_n, mn_n, ab_1, ab_n, e_u2e, e_u2k, e_u2a, if_pos, if_neg, if_true, if_false, not_true, not_false_eq_true, ne_eq, Nat.add_zero, Nat.zero_add, cG_10 hc, cP_10 hc, cT_10 hc, cR_10_0 hc, cR_10_1 hc, cR_10_2 hc, cR_10_3 hc, cR_10_4 hc, cR_10_5 hc, cR_10_6 hc, cR_10_7 hc, cR_10_8 hc, cG_30 hc, cP_30 hc, cT_30 hc, C_roughOf hc hA hn hr, C_size hM.1 hM.2.1, c]
  · simp (disch := omega) only [F_X11_fit, e_cl, e_jn, e_lt, e_cxl, e_cxr, e_rzn, ↓l_m1, ↓l_m2, ↓l_m8, l_0, l_1, l_2, l_3, l_4, l_5, l_6, l_7, l_8, l_9, l_10, l_12, l_16, l_20, l_24, l_31, l_32, l_35, l_36, l_40, l_44, l_48, l_59, l_63, l_64, l_90, l_95, l_96, l_100, l_120, l_127, l_200, l_216, l_255, l_999, l_1000, l_10000, l_1000000, l_1048575, l_1000000000, nI_add, pk_mul, pk_sub, nI_leI, nI_ltI, nI_eq, nI_dec, nI_o0, mx_n, mn_n, ab_1, ab_n, e_u2e, e_u2k, e_u2a, if_pos, if_neg, if_true, if_false, not_true, not_false_eq_true, ne_eq, Nat.add_zero, Nat.zero_add, cG_10 hc, cP_10 hc, cT_10 hc, cR_10_0 hc, cR_10_1 hc, cR_10_2 hc, cR_10_3 hc, cR_10_4 hc, cR_10_5 hc, cR_10_6 hc, cR_10_7 hc, cR_10_8 hc, cG_30 hc, cP_30 hc, cT_30 hc, C_roughOf hc hA hn hr, C_size hM.1 hM.2.1]
theorem C_fit4 (hc : CS u) {nR r nM q w : Nat} {sd : Nat → Bool} {bb : Nat → BST} {ly : Nat → List Lay} (hA : CAr m j u nR sd bb) (hn : nR ≤ 10) (hr : r < nR) (hM : CAm m j u nM ly) (hD : MD nM ly) (hq : q < nM) (hw : w < 6) (hT : TU m) : ∃ m' j', F_X11_fit 10 (nI r) (nI q) (nI w) (pm m j u) = some (.inr (nI (fitN (rgh sd r) (ly q) w 6)), pm m' j' u) ∧ (∀ b, b ≠ 74 → m' b = m b) ∧ (∀ b, b ≠ 73 → j' b = j b) := by
  have hnM := hD.1
  have hok := okM_of hD hq
  obtain ⟨hO, hS, -⟩ := hA.2.2 r hr
  have hMO := hM.2.2 q hq
  have g6 := gre_le (l := ly q)
  obtain ⟨m', j', a1, a2, a3⟩ := C_fitL (S := rgh sd r) hc hok hw hO (show 3000 ≤ nmM q by unfold nmM; omega) (show 2000 ≤ nmR r by unfold nmR; omega) (gre (ly q)) LF m j (Nat.le_refl _) (by unfold LF; omega) hT hMO hS
  have e := fitN_gre (S := rgh sd r) hok hw (6 - gre (ly q)) (by omega)
  rw [show gre (ly q) + (6 - gre (ly q)) = 6 by omega] at e
  refine ⟨m', j', ?_, a2, a3⟩
  have hMoO := hMO.1
  have h4 := hMO.2.2.1
  rw [← e] at a1
  unfold F_X11_fit
  simp (disch := omega) only [e_cl, e_jn, e_lt, e_cxl, e_cxr, e_rzn, ↓l_m1, ↓l_m2, ↓l_m8, l_0, l_1, l_2, l_3, l_4, l_5, l_6, l_7, l_8, l_9, l_10, l_12, l_16, l_20, l_24, l_31, l_32, l_35, l_36, l_40, l_44, l_48, l_59, l_63, l_64, l_90, l_95, l_96, l_100, l_120, l_127, l_200, l_216, l_255, l_999, l_1000, l_10000, l_1000000, l_1048575, l_1000000000, nI_add, pk_mul, pk_sub, nI_leI, nI_ltI, nI_eq, nI_dec, nI_o0, mx_n, mn_n, ab_1, ab_n, e_u2e, e_u2k, e_u2a, if_pos, if_neg, if_true, if_false, not_true, not_false_eq_true, ne_eq, Nat.add_zero, Nat.zero_add, cG_10 hc, cP_10 hc, cT_10 hc, cR_10_0 hc, cR_10_1 hc, cR_10_2 hc, cR_10_3 hc, cR_10_4 hc, cR_10_5 hc, cR_10_6 hc, cR_10_7 hc, cR_10_8 hc, cG_30 hc, cP_30 hc, cT_30 hc, mG hMoO, mP hMoO, mT_ hMoO, mR0 hMoO, mR1 hMoO, mR2 hMoO, mA1 hMoO, mA2 hMoO, mS1 hMoO, mS2 hMoO, mA3 hMoO, mA4 hMoO, mS4 hMoO, C_roughOf hc hA hn hr, C_size hM.1 hM.2.1, C_get hM.1 hM.2.1 hq, h4, a1]
  by_cases c : fitN (rgh sd r) (ly q) w 6 = 0
  · rw [if_pos c, c]
  · rw [if_neg c]
/-! the first place in a part -/
def SW (m : IM) : Prop := ∀ k, k < 25 → m (1070 + 2 * k) 0 = nI (ptA k) ∧ m (1070 + 2 * k) 1 = nI (ptL k) ∧ m (1070 + 2 * k) 2 = nI (ptH k)
theorem pt_b {k : Nat} (hk : k < 25) : ptA k < 3 ∧ ptL k ≤ 5 ∧ 1 ≤ ptH k ∧ ptH k ≤ 6 := by
  unfold ptA ptL ptH
  by_cases c : k = 0
  · rw [if_pos c, if_pos c, if_pos c]; omega
  · rw [if_neg c, if_neg c, if_neg c]
    by_cases d : (k - 1) % 2 = 0
    · rw [if_pos d, if_pos d]; omega
    · rw [if_neg d, if_neg d]; omega
/-- the bits of a layer that a part wants -/
def wtB (ax L M i : Nat) : Bool := if ax = 0 then bkP L M 0 6 i else if ax = 1 then bkP 0 5 L (M + 1) i else true
theorem prt_row {S : Nat → Bool} {l : List Lay} (h : okM l) {t w k z : Nat} (h1 : 1 ≤ t) (hw : w < 6) (hk : k < 25) (hL : ptL k + fx l t w (ptA k) ≤ ptH k) : lay (GdM (prt S k) l t w) z = if ptA k = 2 ∧ (z < ptL k ∨ ptH k - fx l t w (ptA k) < z) then 0 else lay (GdM S l t w) z &&& bN (wtB (ptA k) (ptL k) (ptH k - fx l t w (ptA k))) 36 := by
  obtain ⟨b1, b2, b3, b4⟩ := pt_b hk
  have key : ∀ i, i < 36 → (GdM (prt S k) l t w (36 * z + i) = true ↔ GdM S l t w (36 * z + i) = true ∧ ptL k ≤ coo (ptA k) (36 * z + i) ∧ coo (ptA k) (36 * z + i) ≤ ptH k - fx l t w (ptA k)) := fun i hi => by
    unfold prt
    rw [GdM_part h (show 0 < t by omega) hw b1]
    constructor
    · intro ⟨q1, q2, q3⟩; exact ⟨q1, q2, by omega⟩
    · intro ⟨q1, q2, q3⟩; exact ⟨q1, q2, by omega⟩
  have bb : ∀ (x y : Bool), (x = true ↔ y = true) → x = y := fun x y h => by
    cases y
    · exact ts_nt (fun z => by have := h.mp z; cases this)
    · exact h.mpr rfl
  by_cases c : ptA k = 2 ∧ (z < ptL k ∨ ptH k - fx l t w (ptA k) < z)
  · rw [if_pos c]
    refine lay_z.mpr (fun i hi => ts_nt (fun y => ?_))
    have := (key i hi).mp y
    rw [c.1] at this c
    rw [coo_2] at this
    omega
  · rw [if_neg c]
    unfold lay
    refine (bN_eq (Nat.lt_of_le_of_lt Nat.and_le_left (bN_lt _ _)) (fun i hi => ?_)).symm
    rw [Nat.testBit_and, bN_tb, bN_tb, decide_eq_true hi, Bool.true_and, Bool.true_and]
    refine (bb _ _ ?_).symm
    rw [key i hi, Bool.and_eq_true]
    unfold wtB
    have cc : ∀ P Q R : Prop, (P ∧ Q ↔ R) → ∀ A : Prop, (A ∧ P ∧ Q ↔ A ∧ R) := fun P Q R h A => by rw [h]
    refine cc _ _ _ ?_ _
    rcases (show ptA k = 0 ∨ ptA k = 1 ∨ ptA k = 2 by omega) with e | e | e
    · rw [e, if_pos rfl]
      unfold bkP
      rw [Bool.and_eq_true, Bool.and_eq_true, Bool.and_eq_true, decide_eq_true_eq, decide_eq_true_eq, decide_eq_true_eq, decide_eq_true_eq, coo_0]
      omega
    · rw [e, if_neg (by decide), if_pos rfl]
      unfold bkP
      rw [Bool.and_eq_true, Bool.and_eq_true, Bool.and_eq_true, decide_eq_true_eq, decide_eq_true_eq, decide_eq_true_eq, decide_eq_true_eq, coo_1]
      omega
    · rw [e, if_neg (by decide), if_neg (by decide), coo_2]
      rw [e] at c
      have c' : ¬ (z < ptL k ∨ ptH k - fx l t w 2 < z) := fun y => c ⟨rfl, y⟩
      constructor
      · intro _; rfl
      · intro _; omega
theorem prt_none {S : Nat → Bool} {l : List Lay} (h : okM l) {t w k : Nat} (h1 : 1 ≤ t) (hw : w < 6) (hk : k < 25) (hL : ¬ ptL k + fx l t w (ptA k) ≤ ptH k) : fitW (prt S k) l t w = 216 := by
  obtain ⟨b1, b2, b3, b4⟩ := pt_b hk
  refine ff_none (fun p hp => ts_nt (fun y => ?_))
  unfold prt at y
  have := (GdM_part h (show 0 < t by omega) hw b1).mp y
  omega
end CFIT
