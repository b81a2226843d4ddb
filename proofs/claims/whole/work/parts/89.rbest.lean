/-! ===== the reference: the best ===== -/
def BB (m : IM) (b : BN) : Prop := m 200 31 = nI b.1 ∧ m 200 28 = oI b.2.1 ∧ m 200 29 = oI b.2.2.1 ∧ m 200 30 = nI b.2.2.2.1 ∧ b.2.2.2.1 ≤ 2 ∧ (1 ≤ b.2.2.2.1 → ∀ k, k < 7 → m 217 k = b.2.2.2.2.1 k) ∧ (2 ≤ b.2.2.2.1 → ∀ k, k < 7 → m 217 (8 + k) = b.2.2.2.2.2 k)
abbrev FrB (m m' : IM) : Prop := Fr [210, 211, 212, 213, 214, 215, 216, 217] [22, 23, 24, 28, 29, 30, 31] m m'
section RBEST
variable {m : IM} {j : JM} {u : SU}
theorem FrB_p {m' : IM} (h : ∀ b, b ≠ 210 → b ≠ 211 → b ≠ 212 → m' b = m b) : FrB m m' := by
  refine ⟨fun x h1 h2 => ?_, fun k _ => by rw [h 200 (by decide) (by decide) (by decide)]⟩
  simp only [List.mem_cons, List.not_mem_nil, or_false, not_or] at h1
  exact h x h1.1 h1.2.1 h1.2.2.1
theorem FrB_c {m' : IM} (h : Fr [213, 214, 215] [22, 23, 24] m m') : FrB m m' := h.sub (by decide) (by decide)
theorem BB_fr {m' : IM} {b : BN} (hB : BB m b) (h7 : m' 217 = m 217) (h28 : m' 200 28 = m 200 28) (h29 : m' 200 29 = m 200 29) (h30 : m' 200 30 = m 200 30) (h31 : m' 200 31 = m 200 31) : BB m' b := by
  unfold BB; rw [h7, h28, h29, h30, h31]; exact hB
theorem R_keepL (hs : RS u) {a n : Nat} (hn : n ≤ 1) (ha : a ≠ 217) (hA : ∀ (m : IM) (k : Nat) (f : Int32 → Option (Unit × PM)), k < 8 → aI (pm m j u) a (nI k) f = f (m a k)) : ∀ (d k fu : Nat) (m : IM), k + d = 7 → d < fu → m 200 30 = nI n →
    ∃ m', (∀ K, F_X12_keepCut_L2 200 a K fu (nI k) (pm m j u) = K (pm m' j u)) ∧ (∀ b, b ≠ 217 → m' b = m b) ∧ (∀ i, i < 8 * n + k → m' 217 i = m 217 i) ∧ ∀ i, k ≤ i → i < 7 → m' 217 (8 * n + i) = m a i := by
  intro d
  induction d with
  | zero =>
    intro k fu m hk hfu h30
    obtain ⟨fu, rfl⟩ : ∃ g, fu = g + 1 := ⟨fu - 1, by omega⟩
    have e : k = 7 := by omega
    subst e
    refine ⟨m, fun K => ?_, fun _ _ => rfl, fun _ _ => rfl, fun i g1 g2 => by omega⟩
    simp (disch := omega) only [F_X12_keepCut_L2, e_cl, e_jn, e_lt, e_cxl, e_cxr, e_rzn, ↓l_m1, ↓l_m2, ↓l_m8, l_0, l_1, l_2, l_3, l_4, l_5, l_6, l_7, l_8, l_9, l_10, l_12, l_16, l_20, l_24, l_31, l_32, l_35, l_36, l_40, l_44, l_48, l_59, l_63, l_64, l_90, l_95, l_96, l_100, l_120, l_127, l_200, l_216, l_255, l_999, l_1000, l_10000, l_1000000, l_1048575, l_1000000000, nI_add, pk_mul, pk_sub, nI_leI, nI_ltI, nI_eq, nI_dec, nI_o0, mx_n, mn_n, ab_1, ab_n, e_u2e, e_u2k, e_u2a, if_pos, if_neg, if_true, if_false, not_true, not_false_eq_true, ne_eq, Nat.add_zero, Nat.zero_add]
  | succ d ih =>
    intro k fu m hk hfu h30
    obtain ⟨fu, rfl⟩ : ∃ g, fu = g + 1 := ⟨fu - 1, by omega⟩
    obtain ⟨m', i1, i2, i3, i4⟩ := ih (k + 1) fu (u2 m 217 (8 * n + k) (m a k)) (by omega) (by omega) (by rw [e_u2a (by decide)]; exact h30)
    refine ⟨m', fun K => ?_, fun b hb => by rw [i2 b hb, e_u2r hb], fun i hi => by rw [i3 i (by omega), e_u2k (by omega)], fun i g1 g2 => ?_⟩
    · rw [← i1 K, F_X12_keepCut_L2]
      simp (disch := omega) only [e_cl, e_jn, e_lt, e_cxl, e_cxr, e_rzn, ↓l_m1, ↓l_m2, ↓l_m8, l_0, l_1, l_2, l_3, l_4, l_5, l_6, l_7, l_8, l_9, l_10, l_12, l_16, l_20, l_24, l_31, l_32, l_35, l_36, l_40, l_44, l_48, l_59, l_63, l_64, l_90, l_95, l_96, l_100, l_120, l_127, l_200, l_216, l_255, l_999, l_1000, l_10000, l_1000000, l_1048575, l_1000000000, nI_add, pk_mul, pk_sub, nI_leI, nI_ltI, nI_eq, nI_dec, nI_o0, mx_n, mn_n, ab_1, ab_n, e_u2e, e_u2k, e_u2a, if_pos, if_neg, if_true, if_false, not_true, not_false_eq_true, ne_eq, Nat.add_zero, Nat.zero_add, rP hs, rI hs, rT hs, rR_27 hs, rA_217 hs, rS_217 hs, h30, hA]
    · by_cases e : i = k
      · subst e; rw [i3 _ (by omega), e_u2s]
      · rw [i4 i (by omega) g2, e_u2a ha]
theorem R_keep (hs : RS u) {a n : Nat} (hn : n ≤ 1) (ha : a ≠ 217) (ha2 : a ≠ 200) (hA : ∀ (m : IM) (k : Nat) (f : Int32 → Option (Unit × PM)), k < 8 → aI (pm m j u) a (nI k) f = f (m a k)) (h30 : m 200 30 = nI n) : ∃ m', F_X12_keepCut 200 a (pm m j u) = some ((), pm m' j u) ∧ (∀ b, b ≠ 200 → b ≠ 217 → m' b = m b) ∧ (∀ k, k ≠ 30 → m' 200 k = m 200 k) ∧ m' 200 30 = nI (n + 1) ∧ (∀ i, i < 8 * n → m' 217 i = m 217 i) ∧ ∀ i, i < 7 → m' 217 (8 * n + i) = m a i := by
  obtain ⟨m1, a1, a2, a3, a4⟩ := R_keepL (j := j) hs hn ha hA 7 0 LF m (by omega) (by unfold LF; omega) h30
  refine ⟨u2 m1 200 30 (nI (n + 1)), ?_, fun b g1 g2 => by rw [e_u2r g1, a2 b g2], fun k hk => by rw [e_u2k hk, a2 200 (by decide)], e_u2s, fun i hi => by rw [e_u2a (by decide), a3 i (by omega)], fun i hi => by rw [e_u2a (by decide), a4 i (by omega) hi]⟩
  have e30 : m1 200 30 = nI n := by rw [a2 200 (by decide)]; exact h30
  unfold F_X12_keepCut
  simp (disch := omega) only [e_cl, e_jn, e_lt, e_cxl, e_cxr, e_rzn, ↓l_m1, ↓l_m2, ↓l_m8, l_0, l_1, l_2, l_3, l_4, l_5, l_6, l_7, l_8, l_9, l_10, l_12, l_16, l_20, l_24, l_31, l_32, l_35, l_36, l_40, l_44, l_48, l_59, l_63, l_64, l_90, l_95, l_96, l_100, l_120, l_127, l_200, l_216, l_255, l_999, l_1000, l_10000, l_1000000, l_1048575, l_1000000000, nI_add, pk_mul, pk_sub, nI_leI, nI_ltI, nI_eq, nI_dec, nI_o0, mx_n, mn_n, ab_1, ab_n, e_u2e, e_u2k, e_u2a, if_pos, if_neg, if_true, if_false, not_true, not_false_eq_true, ne_eq, Nat.add_zero, Nat.zero_add, rP hs, rI hs, rT hs, a1, e30]
theorem R_L79 (hs : RS u) {c1 c2 c3 c4 : Int32} : ∀ (d k fu : Nat) (m : IM), k + d = 7 → d < fu →
    ∃ m', (∀ K, F_X12_findBest_L79 200 c1 c2 c3 c4 K fu (nI k) (pm m j u) = K (pm m' j u)) ∧ (∀ b, b ≠ 216 → m' b = m b) ∧ (∀ i, i < k → m' 216 i = m 216 i) ∧ ∀ i, k ≤ i → i < 7 → m' 216 i = m 215 i := by
  intro d
  induction d with
  | zero =>
    intro k fu m hk hfu
    obtain ⟨fu, rfl⟩ : ∃ g, fu = g + 1 := ⟨fu - 1, by omega⟩
    have e : k = 7 := by omega
    subst e
    refine ⟨m, fun K => ?_, fun _ _ => rfl, fun _ _ => rfl, fun i g1 g2 => by omega⟩
    simp (disch := omega) only [F_X12_findBest_L79, e_cl, e_jn, e_lt, e_cxl, e_cxr, e_rzn, ↓l_m1, ↓l_m2, ↓l_m8, l_0, l_1, l_2, l_3, l_4, l_5, l_6, l_7, l_8, l_9, l_10, l_12, l_16, l_20, l_24, l_31, l_32, l_35, l_36, l_40, l_44, l_48, l_59, l_63, l_64, l_90, l_95, l_96, l_100, l_120, l_127, l_200, l_216, l_255, l_999, l_1000, l_10000, l_1000000, l_1048575, l_1000000000, nI_add, pk_mul, pk_sub, nI_leI, nI_ltI, nI_eq, nI_dec, nI_o0, mx_n, mn_n, ab_1, ab_n, e_u2e, e_u2k, e_u2a, if_pos, if_neg, if_true, if_false, not_true, not_false_eq_true, ne_eq, Nat.add_zero, Nat.zero_add]
  | succ d ih =>
    intro k fu m hk hfu
    obtain ⟨fu, rfl⟩ : ∃ g, fu = g + 1 := ⟨fu - 1, by omega⟩
    obtain ⟨m', i1, i2, i3, i4⟩ := ih (k + 1) fu (u2 m 216 k (m 215 k)) (by omega) (by omega)
    refine ⟨m', fun K => ?_, fun b hb => by rw [i2 b hb, e_u2r hb], fun i hi => by rw [i3 i (by omega), e_u2k (by omega)], fun i g1 g2 => ?_⟩
    · rw [← i1 K, F_X12_findBest_L79]
      simp (disch := omega) only [e_cl, e_jn, e_lt, e_cxl, e_cxr, e_rzn, ↓l_m1, ↓l_m2, ↓l_m8, l_0, l_1, l_2, l_3, l_4, l_5, l_6, l_7, l_8, l_9, l_10, l_12, l_16, l_20, l_24, l_31, l_32, l_35, l_36, l_40, l_44, l_48, l_59, l_63, l_64, l_90, l_95, l_96, l_100, l_120, l_127, l_200, l_216, l_255, l_999, l_1000, l_10000, l_1000000, l_1048575, l_1000000000, nI_add, pk_mul, pk_sub, nI_leI, nI_ltI, nI_eq, nI_dec, nI_o0, mx_n, mn_n, ab_1, ab_n, e_u2e, e_u2k, e_u2a, if_pos, if_neg, if_true, if_false, not_true, not_false_eq_true, ne_eq, Nat.add_zero, Nat.zero_add, rP hs, rI hs, rT hs, rR_25 hs, rA_215 hs, rS_215 hs, rR_26 hs, rA_216 hs, rS_216 hs]
    · by_cases e : i = k
      · subst e; rw [i3 _ (by omega), e_u2s]
      · rw [i4 i (by omega) g2, e_u2a (by decide)]
theorem pt_lo {S : Nat → Bool} {k : Nat} : prt S (2 * k + 1) = inP (k / 4) 0 (k % 4) S := by
  have e1 : ptA (2 * k + 1) = k / 4 := by unfold ptA; rw [if_neg (by omega)]; omega
  have e2 : ptL (2 * k + 1) = 0 := by unfold ptL; rw [if_neg (by omega), if_pos (by omega)]
  have e3 : ptH (2 * k + 1) - 1 = k % 4 := by unfold ptH; rw [if_neg (by omega), if_pos (by omega)]; omega
  unfold prt
  rw [e1, e2, e3]
theorem pt_hi {S : Nat → Bool} {k : Nat} : prt S (2 * k + 2) = inP (k / 4) (k % 4 + 2) 5 S := by
  have e1 : ptA (2 * k + 2) = k / 4 := by unfold ptA; rw [if_neg (by omega)]; omega
  have e2 : ptL (2 * k + 2) = k % 4 + 2 := by unfold ptL; rw [if_neg (by omega), if_neg (by omega)]; omega
  have e3 : ptH (2 * k + 2) - 1 = 5 := by unfold ptH; rw [if_neg (by omega), if_neg (by omega)]
  unfold prt
  rw [e1, e2, e3]
/-- what the best needs to stand -/
def QB (m : IM) (nR : Nat) (sd : Nat → Bool) (nM : Nat) (ly : Nat → List Lay) (ps : Nat) (pf pp : Nat → Nat) : Prop := RAr m nR sd ∧ RAm m nM ly ∧ RAp m ps pf pp
theorem QB_fr {m' : IM} {nR nM ps : Nat} {sd : Nat → Bool} {ly : Nat → List Lay} {pf pp : Nat → Nat} (h : QB m nR sd nM ly ps pf pp) (hF : FrB m m') : QB m' nR sd nM ly ps pf pp := ⟨RAr_fr h.1 hF (by decide) (by decide), RAm_fr h.2.1 hF (by decide) (by decide), RAp_fr h.2.2 hF (by decide) (by decide) (by decide)⟩
theorem R_L55b (hs : RS u) {r nR nM ps ax : Nat} {sd : Nat → Bool} {ly : Nat → List Lay} {pf pp : Nat → Nat} (hr : r < 10) (hax : ax < 3) (hD : MD nM ly) (hPD : PD ps pf pp) : ∀ (d s fu : Nat) (m : IM), s + d = 4 → d < fu → QB m nR sd nM ly ps pf pp → BB m (bstF (cutK (wOf ps pf pp) (rgh sd r) nM ly) (4 * ax + s)) → (bstF (cutK (wOf ps pf pp) (rgh sd r) nM ly) (4 * ax + s)).1 ≤ 4320000 →
    ∃ m', (∀ K, F_X12_findBest_L55 200 (nI r) (nI ax) K fu (nI (s + 1)) (pm m j u) = K (pm m' j u)) ∧ FrB m m' ∧ BB m' (bstF (cutK (wOf ps pf pp) (rgh sd r) nM ly) (4 * ax + 4)) ∧ (bstF (cutK (wOf ps pf pp) (rgh sd r) nM ly) (4 * ax + 4)).1 ≤ 4320000 := by
  intro d
  induction d with
  | zero =>
    intro s fu m hs4 hfu hQ hB hb
    obtain ⟨fu, rfl⟩ : ∃ g, fu = g + 1 := ⟨fu - 1, by omega⟩
    have e : s = 4 := by omega
    subst e
    refine ⟨m, fun K => ?_, Fr.rf m, hB, hb⟩
    simp (disch := omega) only [F_X12_findBest_L55, e_cl, e_jn, e_lt, e_cxl, e_cxr, e_rzn, ↓l_m1, ↓l_m2, ↓l_m8, l_0, l_1, l_2, l_3, l_4, l_5, l_6, l_7, l_8, l_9, l_10, l_12, l_16, l_20, l_24, l_31, l_32, l_35, l_36, l_40, l_44, l_48, l_59, l_63, l_64, l_90, l_95, l_96, l_100, l_120, l_127, l_200, l_216, l_255, l_999, l_1000, l_10000, l_1000000, l_1048575, l_1000000000, nI_add, pk_mul, pk_sub, nI_leI, nI_ltI, nI_eq, nI_dec, nI_o0, mx_n, mn_n, ab_1, ab_n, e_u2e, e_u2k, e_u2a, if_pos, if_neg, if_true, if_false, not_true, not_false_eq_true, ne_eq, Nat.add_zero, Nat.zero_add]
  | succ d ih =>
    intro s fu m hs4 hfu hQ hB hb
    obtain ⟨fu, rfl⟩ : ∃ g, fu = g + 1 := ⟨fu - 1, by omega⟩
    obtain ⟨k, hk⟩ : ∃ k, k = 4 * ax + s := ⟨_, rfl⟩
    have k4 : k / 4 = ax := by omega
    have k5 : k % 4 = s := by omega
    rw [← hk] at hB hb
    obtain ⟨m1, a1, a2, a3⟩ := R_partP (j := j) (ax := ax) (lo := 0) (hi := s) hs hr hax (by omega) (by omega) hQ.1
    have f1 := FrB_p a2
    rw [← k4, ← k5, ← pt_lo] at a3
    have q1 := QB_fr hQ f1
    obtain ⟨m2, b1, b2, b3, b4⟩ := R_findCut (j := j) hs hD hPD q1.2.1 a3 q1.2.2
    have f2 := f1.tr (FrB_c b2)
    obtain ⟨m3, c1, c2, -, c4⟩ := R_L79 (j := j) (c1 := nI r) (c2 := nI ax) (c3 := nI (s + 1)) (c4 := nI (cutK (wOf ps pf pp) (rgh sd r) nM ly (2 * k + 1)).1) hs 7 0 LF m2 (by omega) (by unfold LF; omega)
    have f3 : FrB m m3 := f2.tr ⟨fun x h1 _ => c2 x (fun z => h1 (by rw [z]; decide)), fun k _ => by rw [c2 200 (by decide)]⟩
    have q3 := QB_fr hQ f3
    obtain ⟨m4, d1, d2, d3⟩ := R_partP (j := j) (ax := ax) (lo := s + 2) (hi := 5) hs hr hax (by omega) (by omega) q3.1
    rw [← k4, show s + 2 = k % 4 + 2 by omega, ← pt_hi] at d3
    have f4 := f3.tr (FrB_p d2)
    have q4 := QB_fr hQ f4
    obtain ⟨m5, e1, e2, e3, e4⟩ := R_findCut (j := j) hs hD hPD q4.2.1 d3 q4.2.2
    have f5 := f4.tr (FrB_c e2)
    have lowS : ∀ i, i < 7 → (cutK (wOf ps pf pp) (rgh sd r) nM ly (2 * k + 1)).1 ≠ 0 → m5 216 i = (cutK (wOf ps pf pp) (rgh sd r) nM ly (2 * k + 1)).2 i := fun i hi hz => by
      rw [e2.1 216 (by decide) (by decide), d2 216 (by decide) (by decide) (by decide), c4 i (by omega) hi]
      exact b3 hz i hi
    have hiS : ∀ i, i < 7 → (cutK (wOf ps pf pp) (rgh sd r) nM ly (2 * k + 2)).1 ≠ 0 → m5 215 i = (cutK (wOf ps pf pp) (rgh sd r) nM ly (2 * k + 2)).2 i := fun i hi hz => e3 hz i hi
    have k200 : ∀ i, i ≠ 22 → i ≠ 23 → i ≠ 24 → m5 200 i = m 200 i := fun i g1 g2 g3 => by
      have gg : i ∉ [22, 23, 24] := by simp only [List.mem_cons, List.not_mem_nil, or_false, not_or]; exact ⟨g1, g2, g3⟩
      rw [e2.2 i gg, d2 200 (by decide) (by decide) (by decide), c2 200 (by decide), b2.2 i gg, a2 200 (by decide) (by decide) (by decide)]
    have k217 : m5 217 = m 217 := by rw [e2.1 217 (by decide) (by decide), d2 217 (by decide) (by decide) (by decide), c2 217 (by decide), b2.1 217 (by decide) (by decide), a2 217 (by decide) (by decide) (by decide)]
    have hB5 : BB m5 (bstF (cutK (wOf ps pf pp) (rgh sd r) nM ly) k) := BB_fr hB k217 (k200 28 (by decide) (by decide) (by decide)) (k200 29 (by decide) (by decide) (by decide)) (k200 30 (by decide) (by decide) (by decide)) (k200 31 (by decide) (by decide) (by decide))
    have ebs : bstF (cutK (wOf ps pf pp) (rgh sd r) nM ly) (k + 1) = if (bstF (cutK (wOf ps pf pp) (rgh sd r) nM ly) k).1 < (cutK (wOf ps pf pp) (rgh sd r) nM ly (2 * k + 1)).1 + (cutK (wOf ps pf pp) (rgh sd r) nM ly (2 * k + 2)).1 then ((cutK (wOf ps pf pp) (rgh sd r) nM ly (2 * k + 1)).1 + (cutK (wOf ps pf pp) (rgh sd r) nM ly (2 * k + 2)).1, k / 4 + 1, k % 4 + 2, 2, (cutK (wOf ps pf pp) (rgh sd r) nM ly (2 * k + 1)).2, (cutK (wOf ps pf pp) (rgh sd r) nM ly (2 * k + 2)).2) else bstF (cutK (wOf ps pf pp) (rgh sd r) nM ly) k := rfl
    have b4 : (cutK (wOf ps pf pp) (rgh sd r) nM ly (2 * k + 1)).1 ≤ 2160000 := b4
    have e4 : (cutK (wOf ps pf pp) (rgh sd r) nM ly (2 * k + 2)).1 ≤ 2160000 := e4
    have b1 : F_X12_findCut 200 (pm m1 j u) = some (nI (cutK (wOf ps pf pp) (rgh sd r) nM ly (2 * k + 1)).1, pm m2 j u) := b1
    have e1 : F_X12_findCut 200 (pm m4 j u) = some (nI (cutK (wOf ps pf pp) (rgh sd r) nM ly (2 * k + 2)).1, pm m5 j u) := e1
    have h31 := hB5.1
    by_cases c : (bstF (cutK (wOf ps pf pp) (rgh sd r) nM ly) k).1 < (cutK (wOf ps pf pp) (rgh sd r) nM ly (2 * k + 1)).1 + (cutK (wOf ps pf pp) (rgh sd r) nM ly (2 * k + 2)).1
    · obtain ⟨p1, p2⟩ := bst_two (fun q hq => okM_of hD hq) c
      rw [if_pos c] at ebs
      generalize hone : cutK (wOf ps pf pp) (rgh sd r) nM ly (2 * k + 1) = one at *
      generalize hoth : cutK (wOf ps pf pp) (rgh sd r) nM ly (2 * k + 2) = oth at *
      obtain ⟨m6, em6⟩ : ∃ m6, m6 = u2 (u2 (u2 (u2 m5 200 31 (nI (one.1 + oth.1))) 200 28 (nI ax)) 200 29 (nI (s + 1))) 200 30 (nI 0) := ⟨_, rfl⟩
      have k6 : ∀ b, b ≠ 200 → m6 b = m5 b := fun b hb => by rw [em6, e_u2r hb, e_u2r hb, e_u2r hb, e_u2r hb]
      obtain ⟨m7, g1, g2, g3, g4, -, g6⟩ := R_keep (j := j) (m := m6) (a := 216) (n := 0) hs (by omega) (by decide) (by decide) (fun m k f hk => rA_216 hs hk) (by rw [em6, e_u2s])
      obtain ⟨m8, i1, i2, i3, i4, i5, i6⟩ := R_keep (j := j) (m := m7) (a := 215) (n := 1) hs (by omega) (by decide) (by decide) (fun m k f hk => rA_215 hs hk) g4
      have f8 : FrB m m8 := by
        refine f5.tr ⟨fun x h1 h2 => ?_, fun x hx => ?_⟩
        · have h3 : x ≠ 217 := fun z => h1 (by rw [z]; decide)
          rw [i2 x h2 h3, g2 x h2 h3, k6 x h2]
        · simp only [List.mem_cons, List.not_mem_nil, or_false, not_or] at hx
          rw [i3 x hx.2.2.2.2.2.1, g3 x hx.2.2.2.2.2.1, em6, e_u2k hx.2.2.2.2.2.1, e_u2k hx.2.2.2.2.1, e_u2k hx.2.2.2.1, e_u2k hx.2.2.2.2.2.2]
      have hB8 : BB m8 (bstF (cutK (wOf ps pf pp) (rgh sd r) nM ly) (4 * ax + (s + 1))) := by
        rw [show 4 * ax + (s + 1) = k + 1 by omega, ebs]
        refine ⟨?_, ?_, ?_, i4, Nat.le_refl _, fun _ x hx => ?_, fun _ x hx => ?_⟩
        · rw [i3 31 (by decide), g3 31 (by decide), em6, e_u2k (by decide), e_u2k (by decide), e_u2k (by decide), e_u2s]
        · rw [i3 28 (by decide), g3 28 (by decide), em6, e_u2k (by decide), e_u2k (by decide), e_u2s]
          show nI ax = oI (k / 4 + 1)
          rw [oI_s, k4]
        · rw [i3 29 (by decide), g3 29 (by decide), em6, e_u2k (by decide), e_u2s]
          show nI (s + 1) = oI (k % 4 + 2)
          rw [oI_s, k5]
        · have := g6 x hx
          rw [Nat.mul_zero, Nat.zero_add] at this
          rw [i5 x (by omega), this, k6 216 (by decide)]
          exact lowS x hx (by omega)
        · rw [i6 x hx, g2 215 (by decide) (by decide), k6 215 (by decide)]
          exact hiS x hx (by omega)
      obtain ⟨m', n1, n2, n3, n4⟩ := ih (s + 1) fu m8 (by omega) (by omega) (QB_fr hQ f8) hB8 (by rw [show 4 * ax + (s + 1) = k + 1 by omega, ebs]; show one.1 + oth.1 ≤ _; omega)
      refine ⟨m', fun K => ?_, f8.tr n2, n3, n4⟩
      rw [em6] at g1
      rw [← n1 K, F_X12_findBest_L55]
      simp (disch := omega) only [e_cl, e_jn, e_lt, e_cxl, e_cxr, e_rzn, ↓l_m1, ↓l_m2, ↓l_m8, l_0, l_1, l_2, l_3, l_4, l_5, l_6, l_7, l_8, l_9, l_10, l_12, l_16, l_20, l_24, l_31, l_32, l_35, l_36, l_40, l_44, l_48, l_59, l_63, l_64, l_90, l_95, l_96, l_100, l_120, l_127, l_200, l_216, l_255, l_999, l_1000, l_10000, l_1000000, l_1048575, l_1000000000, nI_add, pk_mul, pk_sub, nI_leI, nI_ltI, nI_eq, nI_dec, nI_o0, mx_n, mn_n, ab_1, ab_n, e_u2e, e_u2k, e_u2a, if_pos, if_neg, if_true, if_false, not_true, not_false_eq_true, ne_eq, Nat.add_zero, Nat.zero_add, rP hs, rI hs, rT hs, rR_25 hs, rA_215 hs, rS_215 hs, rR_26 hs, rA_216 hs, rS_216 hs, Nat.add_sub_cancel, a1, b1, c1, d1, e1, h31, g1, i1]
    · rw [if_neg c] at ebs
      obtain ⟨m', n1, n2, n3, n4⟩ := ih (s + 1) fu m5 (by omega) (by omega) (QB_fr hQ f5) (by rw [show 4 * ax + (s + 1) = k + 1 by omega, ebs]; exact hB5) (by rw [show 4 * ax + (s + 1) = k + 1 by omega, ebs]; exact hb)
      refine ⟨m', fun K => ?_, f5.tr n2, n3, n4⟩
      rw [← n1 K, F_X12_findBest_L55]
      simp (disch := omega) only [e_cl, e_jn, e_lt, e_cxl, e_cxr, e_rzn, ↓l_m1, ↓l_m2, ↓l_m8, l_0, l_1, l_2, l_3, l_4, l_5, l_6, l_7, l_8, l_9, l_10, l_12, l_16, l_20, l_24, l_31, l_32, l_35, l_36, l_40, l_44, l_48, l_59, l_63, l_64, l_90, l_95, l_96, l_100, l_120, l_127, l_200, l_216, l_255, l_999, l_1000, l_10000, l_1000000, l_1048575, l_1000000000, nI_add, pk_mul, pk_sub, nI_leI, nI_ltI, nI_eq, nI_dec, nI_o0, mx_n, mn_n, ab_1, ab_n, e_u2e, e_u2k, e_u2a, if_pos, if_neg, if_true, if_false, not_true, not_false_eq_true, ne_eq, Nat.add_zero, Nat.zero_add, rP hs, rI hs, rT hs, rR_25 hs, rA_215 hs, rS_215 hs, rR_26 hs, rA_216 hs, rS_216 hs, Nat.add_sub_cancel, a1, b1, c1, d1, e1, h31]
theorem R_L48b (hs : RS u) {r nR nM ps : Nat} {sd : Nat → Bool} {ly : Nat → List Lay} {pf pp : Nat → Nat} (hr : r < 10) (hD : MD nM ly) (hPD : PD ps pf pp) : ∀ (d ax fu : Nat) (m : IM), ax + d = 3 → d < fu → QB m nR sd nM ly ps pf pp → BB m (bstF (cutK (wOf ps pf pp) (rgh sd r) nM ly) (4 * ax)) → (bstF (cutK (wOf ps pf pp) (rgh sd r) nM ly) (4 * ax)).1 ≤ 4320000 →
    ∃ m', (∀ K, F_X12_findBest_L48 200 (nI r) K fu (nI ax) (pm m j u) = K (pm m' j u)) ∧ FrB m m' ∧ BB m' (bestN (wOf ps pf pp) (rgh sd r) nM ly) ∧ (bestN (wOf ps pf pp) (rgh sd r) nM ly).1 ≤ 4320000 := by
  intro d
  induction d with
  | zero =>
    intro ax fu m hax hfu hQ hB hb
    obtain ⟨fu, rfl⟩ : ∃ g, fu = g + 1 := ⟨fu - 1, by omega⟩
    have e : ax = 3 := by omega
    subst e
    refine ⟨m, fun K => ?_, Fr.rf m, hB, hb⟩
    simp (disch := omega) only [F_X12_findBest_L48, e_cl, e_jn, e_lt, e_cxl, e_cxr, e_rzn, ↓l_m1, ↓l_m2, ↓l_m8, l_0, l_1, l_2, l_3, l_4, l_5, l_6, l_7, l_8, l_9, l_10, l_12, l_16, l_20, l_24, l_31, l_32, l_35, l_36, l_40, l_44, l_48, l_59, l_63, l_64, l_90, l_95, l_96, l_100, l_120, l_127, l_200, l_216, l_255, l_999, l_1000, l_10000, l_1000000, l_1048575, l_1000000000, nI_add, pk_mul, pk_sub, nI_leI, nI_ltI, nI_eq, nI_dec, nI_o0, mx_n, mn_n, ab_1, ab_n, e_u2e, e_u2k, e_u2a, if_pos, if_neg, if_true, if_false, not_true, not_false_eq_true, ne_eq, Nat.add_zero, Nat.zero_add]
  | succ d ih =>
    intro ax fu m hax hfu hQ hB hb
    obtain ⟨fu, rfl⟩ : ∃ g, fu = g + 1 := ⟨fu - 1, by omega⟩
    obtain ⟨m1, a1, a2, a3, a4⟩ := R_L55b (j := j) hs hr (show ax < 3 by omega) hD hPD 4 0 LF m (by omega) (by unfold LF; omega) hQ hB hb
    obtain ⟨m', i1, i2, i3⟩ := ih (ax + 1) fu m1 (by omega) (by omega) (QB_fr hQ a2) (by rw [show 4 * (ax + 1) = 4 * ax + 4 by omega]; exact a3) (by rw [show 4 * (ax + 1) = 4 * ax + 4 by omega]; exact a4)
    refine ⟨m', fun K => ?_, a2.tr i2, i3⟩
    rw [Nat.zero_add] at a1
    rw [← i1 K, F_X12_findBest_L48]
    simp (disch := omega) only [e_cl, e_jn, e_lt, e_cxl, e_cxr, e_rzn, ↓l_m1, ↓l_m2, ↓l_m8, l_0, l_1, l_2, l_3, l_4, l_5, l_6, l_7, l_8, l_9, l_10, l_12, l_16, l_20, l_24, l_31, l_32, l_35, l_36, l_40, l_44, l_48, l_59, l_63, l_64, l_90, l_95, l_96, l_100, l_120, l_127, l_200, l_216, l_255, l_999, l_1000, l_10000, l_1000000, l_1048575, l_1000000000, nI_add, pk_mul, pk_sub, nI_leI, nI_ltI, nI_eq, nI_dec, nI_o0, mx_n, mn_n, ab_1, ab_n, e_u2e, e_u2k, e_u2a, if_pos, if_neg, if_true, if_false, not_true, not_false_eq_true, ne_eq, Nat.add_zero, Nat.zero_add, a1]
theorem R_findBest (hs : RS u) {r nR nM ps : Nat} {sd : Nat → Bool} {ly : Nat → List Lay} {pf pp : Nat → Nat} (hr : r < 10) (hD : MD nM ly) (hPD : PD ps pf pp) (hQ : QB m nR sd nM ly ps pf pp) : ∃ m', F_X12_findBest 200 (nI r) (pm m j u) = some ((), pm m' j u) ∧ FrB m m' ∧ BB m' (bestN (wOf ps pf pp) (rgh sd r) nM ly) ∧ (bestN (wOf ps pf pp) (rgh sd r) nM ly).1 ≤ 4320000 := by
  obtain ⟨m1, a1, a2, -, a3⟩ := R_partW (j := j) hs hr hQ.1
  have f1 := FrB_p a2
  have q1 := QB_fr hQ f1
  obtain ⟨m2, b1, b2, b3, b4⟩ := R_findCut (j := j) hs hD hPD q1.2.1 a3 q1.2.2
  have f2 := f1.tr (FrB_c b2)
  have e0 : bstF (cutK (wOf ps pf pp) (rgh sd r) nM ly) 0 = ((cutK (wOf ps pf pp) (rgh sd r) nM ly 0).1, 0, 0, if 0 < (cutK (wOf ps pf pp) (rgh sd r) nM ly 0).1 then 1 else 0, (cutK (wOf ps pf pp) (rgh sd r) nM ly 0).2, fun _ => 0) := rfl
  have b1 : F_X12_findCut 200 (pm m1 j u) = some (nI (cutK (wOf ps pf pp) (rgh sd r) nM ly 0).1, pm m2 j u) := b1
  have b3 : CM m2 (cutK (wOf ps pf pp) (rgh sd r) nM ly 0) := b3
  have b4 : (cutK (wOf ps pf pp) (rgh sd r) nM ly 0).1 ≤ 2160000 := b4
  obtain ⟨m3, em3⟩ : ∃ m3, m3 = u2 (u2 (u2 (u2 m2 200 31 (nI (cutK (wOf ps pf pp) (rgh sd r) nM ly 0).1)) 200 28 (oI 0)) 200 29 (oI 0)) 200 30 (nI 0) := ⟨_, rfl⟩
  have k3 : ∀ b, b ≠ 200 → m3 b = m2 b := fun b hb => by rw [em3, e_u2r hb, e_u2r hb, e_u2r hb, e_u2r hb]
  have f3 : FrB m m3 := by
    refine f2.tr ⟨fun x h1 h2 => k3 x h2, fun x hx => ?_⟩
    simp only [List.mem_cons, List.not_mem_nil, or_false, not_or] at hx
    rw [em3, e_u2k hx.2.2.2.2.2.1, e_u2k hx.2.2.2.2.1, e_u2k hx.2.2.2.1, e_u2k hx.2.2.2.2.2.2]
  have h31 : m3 200 31 = nI (cutK (wOf ps pf pp) (rgh sd r) nM ly 0).1 := by rw [em3, e_u2k (by decide), e_u2k (by decide), e_u2k (by decide), e_u2s]
  by_cases c : 0 < (cutK (wOf ps pf pp) (rgh sd r) nM ly 0).1
  · obtain ⟨m4, g1, g2, g3, g4, -, g6⟩ := R_keep (j := j) (m := m3) (a := 215) (n := 0) hs (by omega) (by decide) (by decide) (fun m k f hk => rA_215 hs hk) (by rw [em3, e_u2s])
    have f4 : FrB m m4 := by
      refine f3.tr ⟨fun x h1 h2 => g2 x h2 (fun z => h1 (by rw [z]; decide)), fun x hx => g3 x (fun z => hx (by rw [z]; decide))⟩
    obtain ⟨m', i1, i2, i3, i4⟩ := R_L48b (j := j) hs hr hD hPD 3 0 LF m4 (by omega) (by unfold LF; omega) (QB_fr hQ f4) (by
      rw [Nat.mul_zero, e0, if_pos c]
      refine ⟨by rw [g3 31 (by decide)]; exact h31, by rw [g3 28 (by decide), em3, e_u2k (by decide), e_u2k (by decide), e_u2s], by rw [g3 29 (by decide), em3, e_u2k (by decide), e_u2s], g4, (show 1 ≤ 2 by decide), fun _ x hx => ?_, fun z => absurd (show 2 ≤ 1 from z) (by decide)⟩
      have := g6 x hx
      rw [Nat.mul_zero, Nat.zero_add] at this
      rw [this, k3 215 (by decide)]
      exact b3 (by omega) x hx) (by rw [Nat.mul_zero, e0]; show (cutK (wOf ps pf pp) (rgh sd r) nM ly 0).1 ≤ _; omega)
    refine ⟨m', ?_, f4.tr i2, i3, i4⟩
    rw [em3] at g1
    unfold F_X12_findBest
    simp (disch := omega) only [e_cl, e_jn, e_lt, e_cxl, e_cxr, e_rzn, ↓l_m1, ↓l_m2, ↓l_m8, l_0, l_1, l_2, l_3, l_4, l_5, l_6, l_7, l_8, l_9, l_10, l_12, l_16, l_20, l_24, l_31, l_32, l_35, l_36, l_40, l_44, l_48, l_59, l_63, l_64, l_90, l_95, l_96, l_100, l_120, l_127, l_200, l_216, l_255, l_999, l_1000, l_10000, l_1000000, l_1048575, l_1000000000, nI_add, pk_mul, pk_sub, nI_leI, nI_ltI, nI_eq, nI_dec, nI_o0, mx_n, mn_n, ab_1, ab_n, e_u2e, e_u2k, e_u2a, if_pos, if_neg, if_true, if_false, not_true, not_false_eq_true, ne_eq, Nat.add_zero, Nat.zero_add, rP hs, rI hs, rT hs, rR_25 hs, rA_215 hs, rS_215 hs, a1, b1, g1, i1]
  · obtain ⟨m', i1, i2, i3, i4⟩ := R_L48b (j := j) hs hr hD hPD 3 0 LF m3 (by omega) (by unfold LF; omega) (QB_fr hQ f3) (by
      rw [Nat.mul_zero, e0, if_neg c]
      exact ⟨h31, by rw [em3, e_u2k (by decide), e_u2k (by decide), e_u2s], by rw [em3, e_u2k (by decide), e_u2s], by rw [em3, e_u2s], (show 0 ≤ 2 by decide), fun z => absurd (show 1 ≤ 0 from z) (by decide), fun z => absurd (show 2 ≤ 0 from z) (by decide)⟩) (by rw [Nat.mul_zero, e0]; show (cutK (wOf ps pf pp) (rgh sd r) nM ly 0).1 ≤ _; omega)
    refine ⟨m', ?_, f3.tr i2, i3, i4⟩
    rw [em3] at i1
    have c0 : (cutK (wOf ps pf pp) (rgh sd r) nM ly 0).1 = 0 := by omega
    rw [c0] at b1 i1
    unfold F_X12_findBest
    simp (disch := omega) only [e_cl, e_jn, e_lt, e_cxl, e_cxr, e_rzn, ↓l_m1, ↓l_m2, ↓l_m8, l_0, l_1, l_2, l_3, l_4, l_5, l_6, l_7, l_8, l_9, l_10, l_12, l_16, l_20, l_24, l_31, l_32, l_35, l_36, l_40, l_44, l_48, l_59, l_63, l_64, l_90, l_95, l_96, l_100, l_120, l_127, l_200, l_216, l_255, l_999, l_1000, l_10000, l_1000000, l_1048575, l_1000000000, nI_add, pk_mul, pk_sub, nI_leI, nI_ltI, nI_eq, nI_dec, nI_o0, mx_n, mn_n, ab_1, ab_n, e_u2e, e_u2k, e_u2a, if_pos, if_neg, if_true, if_false, not_true, not_false_eq_true, ne_eq, Nat.add_zero, Nat.zero_add, rP hs, rI hs, rT hs, rR_25 hs, rA_215 hs, rS_215 hs, a1, b1, i1]
end RBEST
