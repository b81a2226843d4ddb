/-! ===== the class: the wheel ===== -/
section RPOL
variable {m : IM} {j : JM} {u : SU}
theorem R_polish2 (hs : RS u) {nS nL s : Nat} {sg ix an : Nat → Nat → Nat} (hD : SD nS nL sg ix an) (hA : RAs m nS sg ix an) (hx : s < nS) (h : sg s 4 = 1 ∨ sg s 4 = 0 ∧ sg s 3 = 0) : F_X12_polish 200 (nI s) (pm m j u) = some (if sg s 4 = 1 then -1 else -2, pm (u2 m 200 0 0) j u) := by
  have hS := hD.1
  obtain ⟨a1, a2, a3, a4, a5, a6, a7, a8, a9⟩ := hA.2 s hx
  rcases h with h | ⟨h, h3⟩
  · simp (disch := omega) only [F_X12_polish, e_cl, e_jn, e_lt, e_cxl, e_cxr, e_rzn, ↓l_m1, ↓l_m2, ↓l_m8, l_0, l_1, l_2, l_3, l_4, l_5, l_6, l_7, l_8, l_9, l_10, l_12, l_16, l_20, l_24, l_31, l_32, l_35, l_36, l_40, l_44, l_48, l_59, l_63, l_64, l_90, l_95, l_96, l_100, l_120, l_127, l_200, l_216, l_255, l_999, l_1000, l_10000, l_1000000, l_1048575, l_1000000000, nI_add, pk_mul, pk_sub, nI_leI, nI_ltI, nI_eq, nI_dec, nI_o0, mx_n, mn_n, ab_1, ab_n, e_u2e, e_u2k, e_u2a, if_pos, if_neg, if_true, if_false, not_true, not_false_eq_true, ne_eq, Nat.add_zero, Nat.zero_add, rP hs, rI hs, rT hs, rR_42 hs, rA_227 hs, rS_227 hs, R_isS_ok (j := j) hs (m := u2 m 200 0 (nI 0)) th0 (by rw [e_u2k (by decide)]; exact hA.1) hD.1 hx, a5, h]
  · simp (disch := omega) only [F_X12_polish, e_cl, e_jn, e_lt, e_cxl, e_cxr, e_rzn, ↓l_m1, ↓l_m2, ↓l_m8, l_0, l_1, l_2, l_3, l_4, l_5, l_6, l_7, l_8, l_9, l_10, l_12, l_16, l_20, l_24, l_31, l_32, l_35, l_36, l_40, l_44, l_48, l_59, l_63, l_64, l_90, l_95, l_96, l_100, l_120, l_127, l_200, l_216, l_255, l_999, l_1000, l_10000, l_1000000, l_1048575, l_1000000000, nI_add, pk_mul, pk_sub, nI_leI, nI_ltI, nI_eq, nI_dec, nI_o0, mx_n, mn_n, ab_1, ab_n, e_u2e, e_u2k, e_u2a, if_pos, if_neg, if_true, if_false, not_true, not_false_eq_true, ne_eq, Nat.add_zero, Nat.zero_add, rP hs, rI hs, rT hs, rR_42 hs, rA_227 hs, rS_227 hs, rR_36 hs, rA_221 hs, rS_221 hs, R_isS_ok (j := j) hs (m := u2 m 200 0 (nI 0)) th0 (by rw [e_u2k (by decide)]; exact hA.1) hD.1 hx, a5, a4, h, h3]
/-- the grains of a stone behind its polish -/
def polG (sg ix an : Nat → Nat → Nat) (s : Nat) : Nat := grd (sg s 0) (fun k => an s (plO (ix s) (an s) (sg s 3) k)) (sg s 3)
def polS (sg ix an : Nat → Nat → Nat) (s : Nat) : Nat → Nat → Nat := u2 (u2 sg s 0 (polG sg ix an s)) s 4 1
theorem R_polish3 (hs : RS u) {nS nL s : Nat} {sg ix an : Nat → Nat → Nat} (hD : SD nS nL sg ix an) (hA : RAs m nS sg ix an) (hx : s < nS) (h4 : sg s 4 = 0) (h3 : sg s 3 ≠ 0) : ∃ m', F_X12_polish 200 (nI s) (pm m j u) = some (nI (polG sg ix an s), pm m' j u) ∧ m' 200 0 = 0 ∧ Fr [218, 227, 228, 229] [0] m m' ∧ RAs m' nS (polS sg ix an s) ix an := by
  have hS := hD.1
  obtain ⟨a1, a2, a3, a4, a5, a6, a7, a8, a9⟩ := hA.2 s hx
  obtain ⟨d1, d2, d3, d4, d5, d6, d7, d8, d9, d10⟩ := hD.2 s hx
  obtain ⟨m1, b1, b2, b3⟩ := R_findPlan (j := j) (m := u2 m 200 0 0) hs (FI_fr (FI_of hD hA hx) (e_u2r (by decide)) (e_u2r (by decide))) (by rw [e_u2a (by decide)]; exact a4)
  obtain ⟨m2, c1, c2, c3, c4⟩ := R_polL (j := j) (s := s) (n := sg s 3) (g := sg s 0) (t := fun k => an s (plO (ix s) (an s) (sg s 3) k)) (od := plO (ix s) (an s) (sg s 3)) hs (by omega) d2 d1 (fun h12 => gR h12 200 13 42 fun x13 => sZ h12 x13 (nI s) 1 fun h14 => gR h14 200 13 33 fun x15 => aI h14 x15 (nI s) fun x16 => some (x16, h14)) (sg s 3) 0 LF m1 (by rw [b2 221 (by decide) (by decide), e_u2a (by decide)]; exact a4) (fun i hi => by
      have hl := plO_lt (ix := ix s) (an := an s) hi
      refine ⟨b3 i hi, hl, ?_, (d10 _ hl).2⟩
      rw [b2 223 (by decide) (by decide), e_u2a (by decide)]; exact (a9 _ hl).2) (by rw [b2 218 (by decide) (by decide), e_u2a (by decide)]; exact a1) (by omega) (by unfold LF; omega)
  have keep : ∀ b, b ≠ 218 → b ≠ 228 → b ≠ 229 → b ≠ 200 → m2 b = m b := fun b h1 h2 h3 h4 => by rw [c2 b h1, b2 b h2 h3, e_u2r h4]
  refine ⟨u2 m2 227 s 1, ?_, ?_, ⟨fun b hb h2 => ?_, fun k hk => ?_⟩, ?_⟩
  · simp (disch := omega) only [F_X12_polish, e_cl, e_jn, e_lt, e_cxl, e_cxr, e_rzn, ↓l_m1, ↓l_m2, ↓l_m8, l_0, l_1, l_2, l_3, l_4, l_5, l_6, l_7, l_8, l_9, l_10, l_12, l_16, l_20, l_24, l_31, l_32, l_35, l_36, l_40, l_44, l_48, l_59, l_63, l_64, l_90, l_95, l_96, l_100, l_120, l_127, l_200, l_216, l_255, l_999, l_1000, l_10000, l_1000000, l_1048575, l_1000000000, nI_add, pk_mul, pk_sub, nI_leI, nI_ltI, nI_eq, nI_dec, nI_o0, mx_n, mn_n, ab_1, ab_n, e_u2e, e_u2k, e_u2a, if_pos, if_neg, if_true, if_false, not_true, not_false_eq_true, ne_eq, Nat.add_zero, Nat.zero_add, rP hs, rI hs, rT hs, rR_42 hs, rA_227 hs, rS_227 hs, rR_36 hs, rA_221 hs, rS_221 hs, rR_33 hs, rA_218 hs, rS_218 hs, R_isS_ok (j := j) hs (m := u2 m 200 0 (nI 0)) th0 (by rw [e_u2k (by decide)]; exact hA.1) hD.1 hx, a5, a4, h4] at b1 c1 ⊢
    rw [b1, e_cl, c1, rS_227 hs (v := nI 1) (show s < 40 by omega) (Or.inr rfl), rR_33 hs, rA_218 hs (show s < 40 by omega), e_u2a (by decide), c4]
    rfl
  · rw [e_u2a (by decide), c2 200 (by decide), b2 200 (by decide) (by decide)]; exact th0
  · simp only [List.mem_cons, List.not_mem_nil, or_false, not_or] at hb
    rw [e_u2r hb.2.1, keep b hb.1 hb.2.2.1 hb.2.2.2 h2]
  · rw [e_u2a (by decide), c2 200 (by decide), b2 200 (by decide) (by decide), e_u2k (fun z => hk (by rw [z]; simp))]
  · refine ⟨by rw [e_u2a (by decide), c2 200 (by decide), b2 200 (by decide) (by decide), e_u2k (by decide)]; exact hA.1, fun t ht => ?_⟩
    obtain ⟨e1, e2, e3, e4, e5, e6, e7, e8, e9⟩ := hA.2 t ht
    simp (disch := omega) only [e_u2a, keep 219, keep 220, keep 221, keep 222, keep 223, keep 224, keep 225, keep 226]
    unfold polS
    by_cases e : t = s
    · subst e
      have w : ∀ k, k ≠ 0 → k ≠ 4 → u2 (u2 sg t 0 (polG sg ix an t)) t 4 1 t k = sg t k := fun k h1 h2 => by simp [u2, h1, h2]
      simp (disch := omega) only [w, e2, e3, e4, e6, e7, e8, e_u2s, c4]
      exact ⟨by simp [u2, polG], trivial, trivial, trivial, by simp [u2]; rfl, trivial, trivial, trivial, e9⟩
    · have w : ∀ k, u2 (u2 sg s 0 (polG sg ix an s)) s 4 1 t k = sg t k := fun k => by simp [u2, e]
      simp (disch := omega) only [w, e2, e3, e4, e6, e7, e8, e_u2k, c3, keep 227, e5]
      rw [b2 218 (by decide) (by decide), e_u2a (by decide)]
      exact ⟨e1, trivial, trivial, trivial, trivial, trivial, trivial, trivial, e9⟩
end RPOL
section CPLAN
variable {m : IM} {j : JM} {u : SU}
/-- the facets of a stone as the class has them -/
def FC (m : IM) (a n : Nat) (ix an : Nat → Nat) : Prop := n ≤ 8 ∧ m a 7 = nI n ∧ ∀ f, f < n → m (a + 1) f = nI (ix f) ∧ m (a + 2) f = nI (an f) ∧ ix f ≤ 95 ∧ an f ≤ 90
theorem adiff0 (x : Nat) : adiff 0 x = x := by unfold adiff; omega
theorem C_way {i a i2 a2 : Nat} (h1 : i ≤ 95) (h2 : a ≤ 90) (h3 : i2 ≤ 95) (h4 : a2 ≤ 90) (h : PM) : F_X10_way (nI i - nI i2) (nI a - nI a2) h = some (nI (wayN i a i2 a2), h) := by
  unfold F_X10_way wayN
  rw [ab_n (by omega) (by omega), ab_n (by omega) (by omega)]
  have hd : adiff i i2 ≤ 95 := by unfold adiff; omega
  generalize adiff i i2 = d at hd ⊢
  generalize adiff a a2 = e
  simp (disch := omega) only [e_lt, l_96, l_2, pk_sub, mn_n, pk_mul, nI_add]
theorem C_way1 {i a : Nat} (h1 : i ≤ 95) (h2 : a ≤ 90) (h : PM) : F_X10_way (nI i) (nI a) h = some (nI (wayN 0 0 i a), h) := by
  unfold F_X10_way wayN
  rw [adiff0, adiff0]
  simp (disch := omega) only [e_lt, ab_1, l_96, l_2, pk_sub, mn_n, pk_mul, nI_add]
theorem FC_fr {m' : IM} {a n : Nat} {ix an : Nat → Nat} (h : FC m a n ix an) (h0 : m' a 7 = m a 7) (h1 : m' (a + 1) = m (a + 1)) (h2 : m' (a + 2) = m (a + 2)) : FC m' a n ix an := by
  unfold FC
  rw [h0, h1, h2]
  exact h
theorem C_meas31 (hc : CS u) {a n k : Nat} {ix an : Nat → Nat} (ha : 4000 ≤ a) (hO : StO u a) (hk : k < n) (K : PM → Option (Unit × PM)) : ∀ (d i fu : Nat) (m : IM), FC m a n ix an → i + d = n → d < fu →
    ∃ m', F_X10_measure_L31 80 a (nI n) (nI k) K fu (nI i) (pm m j u) = K (pm m' j u) ∧ (∀ b, b ≠ 82 → m' b = m b) ∧ (∀ x, (x < 8 * k + i ∨ 8 * k + n ≤ x) → m' 82 x = m 82 x) ∧ ∀ g, i ≤ g → g < n → m' 82 (8 * k + g) = nI (apF ix an k g) := by
  intro d
  induction d with
  | zero =>
    intro i fu m hF hd hfu
    have hn := hF.1
    obtain ⟨fu, rfl⟩ : ∃ g, fu = g + 1 := ⟨fu - 1, by omega⟩
    have e : i = n := by omega
    subst e
    refine ⟨m, ?_, fun _ _ => rfl, fun _ _ => rfl, fun g h1 h2 => by omega⟩
    simp (disch := omega) only [F_X10_measure_L31, e_cl, e_jn, e_lt, e_cxl, e_cxr, e_rzn, ↓l_m1, ↓l_m2, ↓l_m8, l_0, l_1, l_2, l_3, l_4, l_5, l_6, l_7, l_8, l_9, l_10, l_12, l_16, l_20, l_24, l_31, l_32, l_35, l_36, l_40, l_44, l_48, l_59, l_63, l_64, l_90, l_95, l_96, l_100, l_120, l_127, l_200, l_216, l_255, l_999, l_1000, l_10000, l_1000000, l_1048575, l_1000000000, nI_add, pk_mul, pk_sub, nI_leI, nI_ltI, nI_eq, nI_dec, nI_o0, mx_n, mn_n, ab_1, ab_n, e_u2e, e_u2k, e_u2a, if_pos, if_neg, if_true, if_false, not_true, not_false_eq_true, ne_eq, Nat.add_zero, Nat.zero_add]
  | succ d ih =>
    intro i fu m hF hd hfu
    have hn := hF.1
    obtain ⟨fu, rfl⟩ : ∃ g, fu = g + 1 := ⟨fu - 1, by omega⟩
    obtain ⟨a1, a2, a3, a4⟩ := hF.2.2 k hk
    obtain ⟨b1, b2, b3, b4⟩ := hF.2.2 i (by omega)
    obtain ⟨m', i1, i2, i3, i4⟩ := ih (i + 1) fu (u2 m 82 (k * 8 + i) (nI (apF ix an k i))) (FC_fr hF (e_u2a (by omega)) (e_u2r (by omega)) (e_u2r (by omega))) (by omega) (by omega)
    refine ⟨m', ?_, fun b hb => by rw [i2 b hb, e_u2r hb], fun x hx => by rw [i3 x (by omega), e_u2k (by omega)], fun g h1 h2 => ?_⟩
    · rw [F_X10_measure_L31]
      have w := C_way a3 a4 b3 b4 (pm m j u)
      simp (disch := omega) only [↓w, e_cl, e_jn, e_lt, e_cxl, e_cxr, e_rzn, ↓l_m1, ↓l_m2, ↓l_m8, l_0, l_1, l_2, l_3, l_4, l_5, l_6, l_7, l_8, l_9, l_10, l_12, l_16, l_20, l_24, l_31, l_32, l_35, l_36, l_40, l_44, l_48, l_59, l_63, l_64, l_90, l_95, l_96, l_100, l_120, l_127, l_200, l_216, l_255, l_999, l_1000, l_10000, l_1000000, l_1048575, l_1000000000, nI_add, pk_mul, pk_sub, nI_leI, nI_ltI, nI_eq, nI_dec, nI_o0, mx_n, mn_n, ab_1, ab_n, e_u2e, e_u2k, e_u2a, if_pos, if_neg, if_true, if_false, not_true, not_false_eq_true, ne_eq, Nat.add_zero, Nat.zero_add, cG_80 hc, cP_80 hc, cT_80 hc, cR_80_0 hc, cA_81 hc, cS_81 hc, cR_80_1 hc, cA_82 hc, cS_82 hc, cR_80_2 hc, cA_83 hc, cS_83 hc, sG hO, sP hO, sZ_ hO, sT hO, sR8 hO, sR9 hO, sR12 hO, sA1 hO, sA2 hO, sA3 hO, sS1 hO, sS2 hO, sS3 hO, a1, a2, b1, b2] at i1 ⊢
      exact i1
    · by_cases e : g = i
      · subst e; rw [i3 _ (by omega), e_u2e (by omega)]
      · exact i4 g (by omega) h2
theorem C_meas (hc : CS u) {a n : Nat} {ix an : Nat → Nat} (ha : 4000 ≤ a) (hO : StO u a) (K : PM → Option (Unit × PM)) : ∀ (d k fu : Nat) (m : IM), FC m a n ix an → k + d = n → d < fu →
    ∃ m', F_X10_measure_L2 80 a (nI n) K fu (nI k) (pm m j u) = K (pm m' j u) ∧ (∀ b, b ≠ 82 → b ≠ 83 → m' b = m b) ∧ (∀ x, (x < 8 * k ∨ 8 * n ≤ x) → m' 82 x = m 82 x) ∧ (∀ x, (x < k ∨ n ≤ x) → m' 83 x = m 83 x) ∧ ∀ g, k ≤ g → g < n → m' 83 g = nI (stF ix an g) ∧ ∀ i, i < n → m' 82 (8 * g + i) = nI (apF ix an g i) := by
  intro d
  induction d with
  | zero =>
    intro i fu m hF hd hfu
    have hn := hF.1
    obtain ⟨fu, rfl⟩ : ∃ g, fu = g + 1 := ⟨fu - 1, by omega⟩
    have e : i = n := by omega
    subst e
    refine ⟨m, ?_, fun _ _ _ => rfl, fun _ _ => rfl, fun _ _ => rfl, fun g h1 h2 => by omega⟩
    simp (disch := omega) only [F_X10_measure_L2, e_cl, e_jn, e_lt, e_cxl, e_cxr, e_rzn, ↓l_m1, ↓l_m2, ↓l_m8, l_0, l_1, l_2, l_3, l_4, l_5, l_6, l_7, l_8, l_9, l_10, l_12, l_16, l_20, l_24, l_31, l_32, l_35, l_36, l_40, l_44, l_48, l_59, l_63, l_64, l_90, l_95, l_96, l_100, l_120, l_127, l_200, l_216, l_255, l_999, l_1000, l_10000, l_1000000, l_1048575, l_1000000000, nI_add, pk_mul, pk_sub, nI_leI, nI_ltI, nI_eq, nI_dec, nI_o0, mx_n, mn_n, ab_1, ab_n, e_u2e, e_u2k, e_u2a, if_pos, if_neg, if_true, if_false, not_true, not_false_eq_true, ne_eq, Nat.add_zero, Nat.zero_add]
  | succ d ih =>
    intro k fu m hF hd hfu
    have hn := hF.1
    obtain ⟨fu, rfl⟩ : ∃ g, fu = g + 1 := ⟨fu - 1, by omega⟩
    obtain ⟨a1, a2, a3, a4⟩ := hF.2.2 k (by omega)
    obtain ⟨m1, b1, b2, b3, b4⟩ := C_meas31 (j := j) hc ha hO (show k < n by omega) (fun h13 => F_X10_measure_L2 80 a (nI n) K fu (nI k + 1) h13) n 0 LF (u2 m 83 k (nI (stF ix an k))) (FC_fr hF (e_u2a (by omega)) (e_u2r (by omega)) (e_u2r (by omega))) (by omega) (by unfold LF; omega)
    obtain ⟨m', i1, i2, i3, i5, i4⟩ := ih (k + 1) fu m1 (FC_fr hF (by rw [b2 a (by omega), e_u2a (by omega)]) (by rw [b2 _ (by omega), e_u2r (by omega)]) (by rw [b2 _ (by omega), e_u2r (by omega)])) (by omega) (by omega)
    refine ⟨m', ?_, fun b h1 h2 => by rw [i2 b h1 h2, b2 b h1, e_u2r h2], fun x hx => by rw [i3 x (by omega), b3 x (by omega), e_u2a (by decide)], fun x hx => by rw [i5 x (by omega), b2 83 (by decide), e_u2k (by omega)], fun g h1 h2 => ?_⟩
    · rw [F_X10_measure_L2]
      have w := C_way1 a3 a4 (pm m j u)
      simp (disch := omega) only [e_cl, e_jn, e_lt, e_cxl, e_cxr, e_rzn, ↓l_m1, ↓l_m2, ↓l_m8, l_0, l_1, l_2, l_3, l_4, l_5, l_6, l_7, l_8, l_9, l_10, l_12, l_16, l_20, l_24, l_31, l_32, l_35, l_36, l_40, l_44, l_48, l_59, l_63, l_64, l_90, l_95, l_96, l_100, l_120, l_127, l_200, l_216, l_255, l_999, l_1000, l_10000, l_1000000, l_1048575, l_1000000000, nI_add, pk_mul, pk_sub, nI_leI, nI_ltI, nI_eq, nI_dec, nI_o0, mx_n, mn_n, ab_1, ab_n, e_u2e, e_u2k, e_u2a, if_pos, if_neg, if_true, if_false, not_true, not_false_eq_true, ne_eq, Nat.add_zero, Nat.zero_add, cG_80 hc, cP_80 hc, cT_80 hc, cR_80_0 hc, cA_81 hc, cS_81 hc, cR_80_1 hc, cA_82 hc, cS_82 hc, cR_80_2 hc, cA_83 hc, cS_83 hc, sG hO, sP hO, sZ_ hO, sT hO, sR8 hO, sR9 hO, sR12 hO, sA1 hO, sA2 hO, sA3 hO, sS1 hO, sS2 hO, sS3 hO, a1, a2, w] at b1 i1 ⊢
      rw [show wayN 0 0 (ix k) (an k) = stF ix an k from rfl, b1, i1]
    · by_cases e : g = k
      · subst e
        refine ⟨by rw [i5 _ (by omega), b2 83 (by decide), e_u2s], fun i hi => ?_⟩
        rw [i3 _ (by omega)]
        exact b4 i (by omega) hi
      · exact i4 g (by omega) h2
def AP (m : IM) (n : Nat) (ix an : Nat → Nat) : Prop := n ≤ 8 ∧ (∀ f, f < n → ix f ≤ 95 ∧ an f ≤ 90) ∧ ∀ g, g < n → m 83 g = nI (stF ix an g) ∧ ∀ i, i < n → m 82 (8 * g + i) = nI (apF ix an g i)
theorem AP_a {n : Nat} {ix an : Nat → Nat} (h : AP m n ix an) : ∀ f g, f < n → g < n → apF ix an f g ≤ 228 := fun f g hf hg => wayN_le (h.2.1 f hf).1 (h.2.1 f hf).2 (h.2.1 g hg).1 (h.2.1 g hg).2
theorem AP_s {n : Nat} {ix an : Nat → Nat} (h : AP m n ix an) : ∀ g, g < n → stF ix an g ≤ 228 := fun g hg => wayN_le (Nat.zero_le _) (Nat.zero_le _) (h.2.1 g hg).1 (h.2.1 g hg).2
theorem vv_b {n : Nat} {ix an : Nat → Nat} {p : Nat × Nat} (h : AP m n ix an) (hp : p.2 ≤ n) : ∀ g, g < n → vv n (apF ix an) (stF ix an) p g < 1000000 := fun g hg => by
  have h2 := rst_bound (AP_a h) (S := p.1 ||| 2 ^ g) hg
  unfold vv
  split
  · have := AP_s h g hg; omega
  · have := AP_a h (p.2 - 1) g (by omega) hg; omega
/-- the table of the rests as the class has it, of the sets above lo -/
def TC (m : IM) (lo n : Nat) (ap : Nat → Nat → Nat) : Prop := ∀ S, lo < S → S < 2 ^ n → ∀ f, f < n → S.testBit f = true → m 81 (8 * S + f) = nI (rst n ap S f)
theorem C_through (hc : CS u) {n g lo : Nat} {ix an : Nat → Nat} {p : Nat × Nat} (hA : AP m n ix an) (hT : TC m lo n (apF ix an)) (hlo : lo ≤ p.1) (hp1 : p.1 < 2 ^ n) (hp2 : p.2 ≤ n) (hg : g < n) (hb : p.1.testBit g = false) : F_X10_through 80 (nI p.1) (oI p.2) (nI g) (pm m j u) = some (nI (vv n (apF ix an) (stF ix an) p g), pm m j u) := by
  have hn := hA.1
  have h8 := p2_256 hn
  obtain ⟨q1, q2⟩ := or_gt hp1 hg hb
  have ht := hT _ (by omega) q2 g hg (by rw [fb_bit_set, decide_eq_true rfl, Bool.or_true])
  have hi : (p.1 ||| 2 ^ g) * 8 + g = 8 * (p.1 ||| 2 ^ g) + g := by omega
  unfold vv
  by_cases z : p.2 = 0
  · simp (disch := omega) only [F_X10_through, e_cl, e_jn, e_lt, e_cxl, e_cxr, e_rzn, ↓l_m1, ↓l_m2, ↓l_m8, l_0, l_1, l_2, l_3, l_4, l_5, l_6, l_7, l_8, l_9, l_10, l_12, l_16, l_20, l_24, l_31, l_32, l_35, l_36, l_40, l_44, l_48, l_59, l_63, l_64, l_90, l_95, l_96, l_100, l_120, l_127, l_200, l_216, l_255, l_999, l_1000, l_10000, l_1000000, l_1048575, l_1000000000, nI_add, pk_mul, pk_sub, nI_leI, nI_ltI, nI_eq, nI_dec, nI_o0, mx_n, mn_n, ab_1, ab_n, e_u2e, e_u2k, e_u2a, if_pos, if_neg, if_true, if_false, not_true, not_false_eq_true, ne_eq, Nat.add_zero, Nat.zero_add, cG_80 hc, cP_80 hc, cT_80 hc, cR_80_0 hc, cA_81 hc, cS_81 hc, cR_80_1 hc, cA_82 hc, cS_82 hc, cR_80_2 hc, cA_83 hc, cS_83 hc, z, n_shl', n_or, hi, ht, (hA.2.2 g hg).1]
  · have h2 := (hA.2.2 (p.2 - 1) (by omega)).2 g hg
    have hi2 : (p.2 - 1) * 8 + g = 8 * (p.2 - 1) + g := by omega
    simp (disch := omega) only [F_X10_through, e_cl, e_jn, e_lt, e_cxl, e_cxr, e_rzn, ↓l_m1, ↓l_m2, ↓l_m8, l_0, l_1, l_2, l_3, l_4, l_5, l_6, l_7, l_8, l_9, l_10, l_12, l_16, l_20, l_24, l_31, l_32, l_35, l_36, l_40, l_44, l_48, l_59, l_63, l_64, l_90, l_95, l_96, l_100, l_120, l_127, l_200, l_216, l_255, l_999, l_1000, l_10000, l_1000000, l_1048575, l_1000000000, nI_add, pk_mul, pk_sub, nI_leI, nI_ltI, nI_eq, nI_dec, nI_o0, mx_n, mn_n, ab_1, ab_n, e_u2e, e_u2k, e_u2a, if_pos, if_neg, if_true, if_false, not_true, not_false_eq_true, ne_eq, Nat.add_zero, Nat.zero_add, cG_80 hc, cP_80 hc, cT_80 hc, cR_80_0 hc, cA_81 hc, cS_81 hc, cR_80_1 hc, cA_82 hc, cS_82 hc, cR_80_2 hc, cA_83 hc, cS_83 hc, oI_p z, n_shl', n_or, hi, hi2, ht, h2]
theorem C_holdsN {B k : Nat} (hB : B < 2 ^ 64) (hk : k < 64) (h : PM) : F_X11_holds (lN B) (nI k) h = some (nI (B.testBit k).toNat, h) := by
  rw [C_holds hB hk]; cases B.testBit k <;> rfl
theorem C_holdsI {S k : Nat} (hB : S < 2 ^ 31) (hk : k < 64) (h : PM) : F_X11_holds (Int32.toInt64 (nI S)) (nI k) h = some (nI (S.testBit k).toNat, h) := by
  rw [nI_l hB]; exact C_holdsN (by omega) hk h
theorem C_shortL (hc : CS u) {n lo : Nat} {ix an : Nat → Nat} {p : Nat × Nat} (hA : AP m n ix an) (hT : TC m lo n (apF ix an)) (hlo : lo ≤ p.1) (hp1 : p.1 < 2 ^ n) (hp2 : p.2 ≤ n) (K : Int32 → PM → Option (Int32 × PM)) : ∀ (d g fu : Nat), g + d = n → d < fu →
    F_X10_shortest_L6 80 (nI p.1) (oI p.2) (nI n) K fu (oI (mnv (fun g => !p.1.testBit g) (vv n (apF ix an) (stF ix an) p) g)) (nI g) (pm m j u) = K (oI (mnv (fun g => !p.1.testBit g) (vv n (apF ix an) (stF ix an) p) n)) (pm m j u) := by
  have hn := hA.1
  have h8 := p2_256 hn
  intro d
  induction d with
  | zero =>
    intro g fu hg hfu
    obtain ⟨fu, rfl⟩ : ∃ g, fu = g + 1 := ⟨fu - 1, by omega⟩
    have e : g = n := by omega
    subst e
    simp (disch := omega) only [F_X10_shortest_L6, e_cl, e_jn, e_lt, e_cxl, e_cxr, e_rzn, ↓l_m1, ↓l_m2, ↓l_m8, l_0, l_1, l_2, l_3, l_4, l_5, l_6, l_7, l_8, l_9, l_10, l_12, l_16, l_20, l_24, l_31, l_32, l_35, l_36, l_40, l_44, l_48, l_59, l_63, l_64, l_90, l_95, l_96, l_100, l_120, l_127, l_200, l_216, l_255, l_999, l_1000, l_10000, l_1000000, l_1048575, l_1000000000, nI_add, pk_mul, pk_sub, nI_leI, nI_ltI, nI_eq, nI_dec, nI_o0, mx_n, mn_n, ab_1, ab_n, e_u2e, e_u2k, e_u2a, if_pos, if_neg, if_true, if_false, not_true, not_false_eq_true, ne_eq, Nat.add_zero, Nat.zero_add]
  | succ d ih =>
    intro g fu hg hfu
    obtain ⟨fu, rfl⟩ : ∃ g, fu = g + 1 := ⟨fu - 1, by omega⟩
    have hi := ih (g + 1) fu (by omega) (by omega)
    have hgn : g < n := by omega
    obtain ⟨P, eP⟩ : ∃ P : Nat → Bool, P = fun g => !p.1.testBit g := ⟨_, rfl⟩
    rw [← eP] at hi ⊢
    have hvb := vv_b hA hp2
    have hmb : mnv P (vv n (apF ix an) (stF ix an) p) g ≤ 1000000 + 1 := mnv_bound (fun g' hg' _ => by have := hvb g' (by omega); omega)
    have hv := hvb g hgn
    by_cases c : p.1.testBit g = true
    · have t := tb0 c
      have st := mnv_n (P := P) (v := vv n (apF ix an) (stF ix an) p) (g := g) (fun z => by rw [eP] at z; simp [c] at z)
      rw [st.1] at hi
      rw [F_X10_shortest_L6]
      simp (disch := omega) only [e_cl, e_jn, e_lt, e_cxl, e_cxr, e_rzn, ↓l_m1, ↓l_m2, ↓l_m8, l_0, l_1, l_2, l_3, l_4, l_5, l_6, l_7, l_8, l_9, l_10, l_12, l_16, l_20, l_24, l_31, l_32, l_35, l_36, l_40, l_44, l_48, l_59, l_63, l_64, l_90, l_95, l_96, l_100, l_120, l_127, l_200, l_216, l_255, l_999, l_1000, l_10000, l_1000000, l_1048575, l_1000000000, nI_add, pk_mul, pk_sub, nI_leI, nI_ltI, nI_eq, nI_dec, nI_o0, mx_n, mn_n, ab_1, ab_n, e_u2e, e_u2k, e_u2a, if_pos, if_neg, if_true, if_false, not_true, not_false_eq_true, ne_eq, Nat.add_zero, Nat.zero_add, C_holdsI]
      exact hi
    · have c := ts_nt c
      have t := tb1 c
      have hP : P g = true := by rw [eP]; simp [c]
      have th := C_through (j := j) hc hA hT hlo hp1 hp2 hgn c
      have sy := mnv_y (P := P) (v := vv n (apF ix an) (stF ix an) p) (g := g)
      have sn := mnv_n (P := P) (v := vv n (apF ix an) (stF ix an) p) (g := g)
      generalize mnv P (vv n (apF ix an) (stF ix an) p) g = M at hmb sy sn ⊢
      rw [F_X10_shortest_L6]
      by_cases z : M = 0
      · rw [(sy ⟨hP, Or.inl z⟩).1, oI_s] at hi
        simp (disch := omega) only [e_cl, e_jn, e_lt, e_cxl, e_cxr, e_rzn, ↓l_m1, ↓l_m2, ↓l_m8, l_0, l_1, l_2, l_3, l_4, l_5, l_6, l_7, l_8, l_9, l_10, l_12, l_16, l_20, l_24, l_31, l_32, l_35, l_36, l_40, l_44, l_48, l_59, l_63, l_64, l_90, l_95, l_96, l_100, l_120, l_127, l_200, l_216, l_255, l_999, l_1000, l_10000, l_1000000, l_1048575, l_1000000000, nI_add, pk_mul, pk_sub, nI_leI, nI_ltI, nI_eq, nI_dec, nI_o0, mx_n, mn_n, ab_1, ab_n, e_u2e, e_u2k, e_u2a, if_pos, if_neg, if_true, if_false, not_true, not_false_eq_true, ne_eq, Nat.add_zero, Nat.zero_add, cG_80 hc, cP_80 hc, cT_80 hc, cR_80_0 hc, cA_81 hc, cS_81 hc, cR_80_1 hc, cA_82 hc, cS_82 hc, cR_80_2 hc, cA_83 hc, cS_83 hc, C_holdsI, th, z]
        exact hi
      · by_cases c2 : vv n (apF ix an) (stF ix an) p g + 1 < M
        · rw [(sy ⟨hP, Or.inr c2⟩).1, oI_s] at hi
          simp (disch := omega) only [e_cl, e_jn, e_lt, e_cxl, e_cxr, e_rzn, ↓l_m1, ↓l_m2, ↓l_m8, l_0, l_1, l_2, l_3, l_4, l_5, l_6, l_7, l_8, l_9, l_10, l_12, l_16, l_20, l_24, l_31, l_32, l_35, l_36, l_40, l_44, l_48, l_59, l_63, l_64, l_90, l_95, l_96, l_100, l_120, l_127, l_200, l_216, l_255, l_999, l_1000, l_10000, l_1000000, l_1048575, l_1000000000, nI_add, pk_mul, pk_sub, nI_leI, nI_ltI, nI_eq, nI_dec, nI_o0, mx_n, mn_n, ab_1, ab_n, e_u2e, e_u2k, e_u2a, if_pos, if_neg, if_true, if_false, not_true, not_false_eq_true, ne_eq, Nat.add_zero, Nat.zero_add, cG_80 hc, cP_80 hc, cT_80 hc, cR_80_0 hc, cA_81 hc, cS_81 hc, cR_80_1 hc, cA_82 hc, cS_82 hc, cR_80_2 hc, cA_83 hc, cS_83 hc, C_holdsI, th, oI_p z]
          exact hi
        · rw [(sn (fun y => y.2.elim z c2)).1, oI_p z] at hi
          simp (disch := omega) only [e_cl, e_jn, e_lt, e_cxl, e_cxr, e_rzn, ↓l_m1, ↓l_m2, ↓l_m8, l_0, l_1, l_2, l_3, l_4, l_5, l_6, l_7, l_8, l_9, l_10, l_12, l_16, l_20, l_24, l_31, l_32, l_35, l_36, l_40, l_44, l_48, l_59, l_63, l_64, l_90, l_95, l_96, l_100, l_120, l_127, l_200, l_216, l_255, l_999, l_1000, l_10000, l_1000000, l_1048575, l_1000000000, nI_add, pk_mul, pk_sub, nI_leI, nI_ltI, nI_eq, nI_dec, nI_o0, mx_n, mn_n, ab_1, ab_n, e_u2e, e_u2k, e_u2a, if_pos, if_neg, if_true, if_false, not_true, not_false_eq_true, ne_eq, Nat.add_zero, Nat.zero_add, cG_80 hc, cP_80 hc, cT_80 hc, cR_80_0 hc, cA_81 hc, cS_81 hc, cR_80_1 hc, cA_82 hc, cS_82 hc, cR_80_2 hc, cA_83 hc, cS_83 hc, C_holdsI, th, oI_p z]
          exact hi
theorem C_shortest (hc : CS u) {n lo : Nat} {ix an : Nat → Nat} {p : Nat × Nat} (hA : AP m n ix an) (hT : TC m lo n (apF ix an)) (hlo : lo ≤ p.1) (hp1 : p.1 < 2 ^ n) (hp2 : p.2 ≤ n) : F_X10_shortest 80 (nI p.1) (oI p.2) (nI n) (pm m j u) = some (nI (mnv (fun g => !p.1.testBit g) (vv n (apF ix an) (stF ix an) p) n - 1), pm m j u) := by
  have hn := hA.1
  have hmb : mnv (fun g => !p.1.testBit g) (vv n (apF ix an) (stF ix an) p) n ≤ 1000000 + 1 := mnv_bound (fun g' hg' _ => by have := vv_b hA hp2 g' (by omega); omega)
  have h := fun K => C_shortL (j := j) hc hA hT hlo hp1 hp2 K n 0 LF (by omega) (by unfold LF; omega)
  rw [show mnv (fun g => !p.1.testBit g) (vv n (apF ix an) (stF ix an) p) 0 = 0 from rfl] at h
  generalize mnv (fun g => !p.1.testBit g) (vv n (apF ix an) (stF ix an) p) n = M at hmb h ⊢
  by_cases z : M = 0
  · simp (disch := omega) only [F_X10_shortest, e_cl, e_jn, e_lt, e_cxl, e_cxr, e_rzn, ↓l_m1, ↓l_m2, ↓l_m8, l_0, l_1, l_2, l_3, l_4, l_5, l_6, l_7, l_8, l_9, l_10, l_12, l_16, l_20, l_24, l_31, l_32, l_35, l_36, l_40, l_44, l_48, l_59, l_63, l_64, l_90, l_95, l_96, l_100, l_120, l_127, l_200, l_216, l_255, l_999, l_1000, l_10000, l_1000000, l_1048575, l_1000000000, nI_add, pk_mul, pk_sub, nI_leI, nI_ltI, nI_eq, nI_dec, nI_o0, mx_n, mn_n, ab_1, ab_n, e_u2e, e_u2k, e_u2a, if_pos, if_neg, if_true, if_false, not_true, not_false_eq_true, ne_eq, Nat.add_zero, Nat.zero_add, h, z]
  · simp (disch := omega) only [F_X10_shortest, e_cl, e_jn, e_lt, e_cxl, e_cxr, e_rzn, ↓l_m1, ↓l_m2, ↓l_m8, l_0, l_1, l_2, l_3, l_4, l_5, l_6, l_7, l_8, l_9, l_10, l_12, l_16, l_20, l_24, l_31, l_32, l_35, l_36, l_40, l_44, l_48, l_59, l_63, l_64, l_90, l_95, l_96, l_100, l_120, l_127, l_200, l_216, l_255, l_999, l_1000, l_10000, l_1000000, l_1048575, l_1000000000, nI_add, pk_mul, pk_sub, nI_leI, nI_ltI, nI_eq, nI_dec, nI_o0, mx_n, mn_n, ab_1, ab_n, e_u2e, e_u2k, e_u2a, if_pos, if_neg, if_true, if_false, not_true, not_false_eq_true, ne_eq, Nat.add_zero, Nat.zero_add, h, oI_p z]
theorem AP_fr {m' : IM} {n : Nat} {ix an : Nat → Nat} (h : AP m n ix an) (h1 : m' 82 = m 82) (h2 : m' 83 = m 83) : AP m' n ix an := by
  unfold AP
  rw [h1, h2]
  exact h
theorem C_L33 (hc : CS u) {n S a : Nat} {ix an : Nat → Nat} (hS : S < 2 ^ n) (K : PM → Option (Unit × PM)) : ∀ (d f fu : Nat) (m : IM), AP m n ix an → TC m S n (apF ix an) → f + d = n → d < fu →
    ∃ m', F_X10_layPlan_L33 80 a (nI n) (nI S) K fu (nI f) (pm m j u) = K (pm m' j u) ∧ (∀ b, b ≠ 81 → m' b = m b) ∧ (∀ i, (i < 8 * S + f ∨ 8 * S + n ≤ i) → m' 81 i = m 81 i) ∧ ∀ g, f ≤ g → g < n → S.testBit g = true → m' 81 (8 * S + g) = nI (rst n (apF ix an) S g) := by
  intro d
  induction d with
  | zero =>
    intro f fu m hA hT hd hfu
    have hn := hA.1
    obtain ⟨fu, rfl⟩ : ∃ g, fu = g + 1 := ⟨fu - 1, by omega⟩
    have e : f = n := by omega
    subst e
    refine ⟨m, ?_, fun _ _ => rfl, fun _ _ => rfl, fun g h1 h2 => by omega⟩
    simp (disch := omega) only [F_X10_layPlan_L33, e_cl, e_jn, e_lt, e_cxl, e_cxr, e_rzn, ↓l_m1, ↓l_m2, ↓l_m8, l_0, l_1, l_2, l_3, l_4, l_5, l_6, l_7, l_8, l_9, l_10, l_12, l_16, l_20, l_24, l_31, l_32, l_35, l_36, l_40, l_44, l_48, l_59, l_63, l_64, l_90, l_95, l_96, l_100, l_120, l_127, l_200, l_216, l_255, l_999, l_1000, l_10000, l_1000000, l_1048575, l_1000000000, nI_add, pk_mul, pk_sub, nI_leI, nI_ltI, nI_eq, nI_dec, nI_o0, mx_n, mn_n, ab_1, ab_n, e_u2e, e_u2k, e_u2a, if_pos, if_neg, if_true, if_false, not_true, not_false_eq_true, ne_eq, Nat.add_zero, Nat.zero_add]
  | succ d ih =>
    intro f fu m hA hT hd hfu
    have hn := hA.1
    have h8 := p2_256 hn
    have hf : f < n := by omega
    obtain ⟨fu, rfl⟩ : ∃ g, fu = g + 1 := ⟨fu - 1, by omega⟩
    by_cases c : S.testBit f = true
    · have t := tb0 c
      obtain ⟨m', i1, i2, i3, i4⟩ := ih (f + 1) fu (u2 m 81 (S * 8 + f) (nI (rst n (apF ix an) S f))) (AP_fr hA (e_u2r (by decide)) (e_u2r (by decide))) (fun S' h1 h2 g hg hb => by rw [e_u2k (by omega)]; exact hT S' h1 h2 g hg hb) (by omega) (by omega)
      refine ⟨m', ?_, fun b hb => by rw [i2 b hb, e_u2r hb], fun i hi => by rw [i3 i (by omega), e_u2k (by omega)], fun g h1 h2 h3 => ?_⟩
      · have sh := C_shortest (j := j) (p := (S, f + 1)) hc hA hT (Nat.le_refl _) hS (by show f + 1 ≤ n; omega)
        rw [show mnv (fun g => !(S, f + 1).1.testBit g) (vv n (apF ix an) (stF ix an) (S, f + 1)) n - 1 = rst n (apF ix an) S f from (rst_eq (apF ix an) hn f hS).symm, show oI (S, f + 1).2 = nI f from oI_s f, show (S, f + 1).1 = S from rfl] at sh
        rw [F_X10_layPlan_L33]
        simp (disch := omega) only [e_cl, e_jn, e_lt, e_cxl, e_cxr, e_rzn, ↓l_m1, ↓l_m2, ↓l_m8, l_0, l_1, l_2, l_3, l_4, l_5, l_6, l_7, l_8, l_9, l_10, l_12, l_16, l_20, l_24, l_31, l_32, l_35, l_36, l_40, l_44, l_48, l_59, l_63, l_64, l_90, l_95, l_96, l_100, l_120, l_127, l_200, l_216, l_255, l_999, l_1000, l_10000, l_1000000, l_1048575, l_1000000000, nI_add, pk_mul, pk_sub, nI_leI, nI_ltI, nI_eq, nI_dec, nI_o0, mx_n, mn_n, ab_1, ab_n, e_u2e, e_u2k, e_u2a, if_pos, if_neg, if_true, if_false, not_true, not_false_eq_true, ne_eq, Nat.add_zero, Nat.zero_add, cG_80 hc, cP_80 hc, cT_80 hc, cR_80_0 hc, cA_81 hc, cS_81 hc, cR_80_1 hc, cA_82 hc, cS_82 hc, cR_80_2 hc, cA_83 hc, cS_83 hc, C_holdsI, sh] at i1 ⊢
        exact i1
      · by_cases e : g = f
        · subst e; rw [i3 _ (by omega), e_u2e (by omega)]
        · exact i4 g (by omega) h2 h3
    · have c := ts_nt c
      have t := tb1 c
      obtain ⟨m', i1, i2, i3, i4⟩ := ih (f + 1) fu m hA hT (by omega) (by omega)
      refine ⟨m', ?_, i2, fun i hi => by rw [i3 i (by omega)], fun g h1 h2 h3 => ?_⟩
      · rw [F_X10_layPlan_L33]
        simp (disch := omega) only [e_cl, e_jn, e_lt, e_cxl, e_cxr, e_rzn, ↓l_m1, ↓l_m2, ↓l_m8, l_0, l_1, l_2, l_3, l_4, l_5, l_6, l_7, l_8, l_9, l_10, l_12, l_16, l_20, l_24, l_31, l_32, l_35, l_36, l_40, l_44, l_48, l_59, l_63, l_64, l_90, l_95, l_96, l_100, l_120, l_127, l_200, l_216, l_255, l_999, l_1000, l_10000, l_1000000, l_1048575, l_1000000000, nI_add, pk_mul, pk_sub, nI_leI, nI_ltI, nI_eq, nI_dec, nI_o0, mx_n, mn_n, ab_1, ab_n, e_u2e, e_u2k, e_u2a, if_pos, if_neg, if_true, if_false, not_true, not_false_eq_true, ne_eq, Nat.add_zero, Nat.zero_add, cG_80 hc, cP_80 hc, cT_80 hc, cR_80_0 hc, cA_81 hc, cS_81 hc, cR_80_1 hc, cA_82 hc, cS_82 hc, cR_80_2 hc, cA_83 hc, cS_83 hc, C_holdsI] at i1 ⊢
        exact i1
      · by_cases e : g = f
        · subst e; rw [c] at h3; cases h3
        · exact i4 g (by omega) h2 h3
theorem C_L25 (hc : CS u) {n a : Nat} {ix an : Nat → Nat} (K : PM → Option (Unit × PM)) : ∀ (S fu : Nat) (m : IM), AP m n ix an → TC m S n (apF ix an) → S < 2 ^ n → S < fu →
    ∃ m', F_X10_layPlan_L25 80 a (nI n) K fu (nI S) (pm m j u) = K (pm m' j u) ∧ (∀ b, b ≠ 81 → m' b = m b) ∧ TC m' 0 n (apF ix an) := by
  intro S
  induction S with
  | zero =>
    intro fu m hA hT hS hfu
    obtain ⟨fu, rfl⟩ : ∃ g, fu = g + 1 := ⟨fu - 1, by omega⟩
    refine ⟨m, ?_, fun _ _ => rfl, hT⟩
    simp (disch := omega) only [F_X10_layPlan_L25, e_cl, e_jn, e_lt, e_cxl, e_cxr, e_rzn, ↓l_m1, ↓l_m2, ↓l_m8, l_0, l_1, l_2, l_3, l_4, l_5, l_6, l_7, l_8, l_9, l_10, l_12, l_16, l_20, l_24, l_31, l_32, l_35, l_36, l_40, l_44, l_48, l_59, l_63, l_64, l_90, l_95, l_96, l_100, l_120, l_127, l_200, l_216, l_255, l_999, l_1000, l_10000, l_1000000, l_1048575, l_1000000000, nI_add, pk_mul, pk_sub, nI_leI, nI_ltI, nI_eq, nI_dec, nI_o0, mx_n, mn_n, ab_1, ab_n, e_u2e, e_u2k, e_u2a, if_pos, if_neg, if_true, if_false, not_true, not_false_eq_true, ne_eq, Nat.add_zero, Nat.zero_add]
  | succ S ih =>
    intro fu m hA hT hS hfu
    have hn := hA.1
    have h8 := p2_256 hn
    obtain ⟨fu, rfl⟩ : ∃ g, fu = g + 1 := ⟨fu - 1, by omega⟩
    obtain ⟨m1, a1, a2, a3, a4⟩ := C_L33 (j := j) (a := a) hc hS (fun h17 => F_X10_layPlan_L25 80 a (nI n) K fu (nI (S + 1) + (-1)) h17) n 0 LF m hA hT (by omega) (by unfold LF; omega)
    obtain ⟨m', b1, b2, b3⟩ := ih fu m1 (AP_fr hA (a2 _ (by decide)) (a2 _ (by decide))) (fun S' h1 h2 f hf hb => by
      by_cases e : S' = S + 1
      · subst e; exact a4 f (by omega) hf hb
      · rw [a3 _ (by omega)]; exact hT S' (by omega) h2 f hf hb) (by omega) (by omega)
    refine ⟨m', ?_, fun b hb => by rw [b2 b hb, a2 b hb], b3⟩
    rw [F_X10_layPlan_L25]
    simp (disch := omega) only [e_cl, e_jn, e_lt, e_cxl, e_cxr, e_rzn, ↓l_m1, ↓l_m2, ↓l_m8, l_0, l_1, l_2, l_3, l_4, l_5, l_6, l_7, l_8, l_9, l_10, l_12, l_16, l_20, l_24, l_31, l_32, l_35, l_36, l_40, l_44, l_48, l_59, l_63, l_64, l_90, l_95, l_96, l_100, l_120, l_127, l_200, l_216, l_255, l_999, l_1000, l_10000, l_1000000, l_1048575, l_1000000000, nI_add, pk_mul, pk_sub, nI_leI, nI_ltI, nI_eq, nI_dec, nI_o0, mx_n, mn_n, ab_1, ab_n, e_u2e, e_u2k, e_u2a, if_pos, if_neg, if_true, if_false, not_true, not_false_eq_true, ne_eq, Nat.add_zero, Nat.zero_add] at a1 b1 ⊢
    rw [a1, b1]
theorem C_fosL (hc : CS u) {n lo : Nat} {ix an : Nat → Nat} {p : Nat × Nat} (hA : AP m n ix an) (hT : TC m lo n (apF ix an)) (hlo : lo ≤ p.1) (hp1 : p.1 < 2 ^ n) (hp2 : p.2 ≤ n) (hM : mnv (fun g => !p.1.testBit g) (vv n (apF ix an) (stF ix an) p) n ≠ 0) (K : Int32 → PM → Option (Int32 × PM)) : ∀ (d g fu : Nat), g + d = nxt n (apF ix an) (stF ix an) p → d < fu →
    F_X10_firstOfShortest_L12 80 (nI p.1) (oI p.2) (nI n) (nI (mnv (fun g => !p.1.testBit g) (vv n (apF ix an) (stF ix an) p) n - 1)) K fu (nI g) (pm m j u) = K (nI (nxt n (apF ix an) (stF ix an) p)) (pm m j u) := by
  have hn := hA.1
  have h8 := p2_256 hn
  have hvb := vv_b hA hp2
  obtain ⟨a1, a2, a3, a4, -⟩ := amn_ok _ _ n hM
  have a1 : nxt n (apF ix an) (stF ix an) p < n := a1
  have a2 : p.1.testBit (nxt n (apF ix an) (stF ix an) p) = false := by unfold nxt; simpa using a2
  have a3 : vv n (apF ix an) (stF ix an) p (nxt n (apF ix an) (stF ix an) p) + 1 = mnv (fun g => !p.1.testBit g) (vv n (apF ix an) (stF ix an) p) n := a3
  have a4 : ∀ g, g < nxt n (apF ix an) (stF ix an) p → p.1.testBit g = false → mnv (fun g => !p.1.testBit g) (vv n (apF ix an) (stF ix an) p) n < vv n (apF ix an) (stF ix an) p g + 1 := fun g hg hb => a4 g hg (by simp [hb])
  have b1 := hvb _ a1
  generalize nxt n (apF ix an) (stF ix an) p = q at *
  generalize mnv (fun g => !p.1.testBit g) (vv n (apF ix an) (stF ix an) p) n = M at *
  intro d
  induction d with
  | zero =>
    intro g fu hg hfu
    obtain ⟨fu, rfl⟩ : ∃ g, fu = g + 1 := ⟨fu - 1, by omega⟩
    have e : g = q := by omega
    subst e
    have th := C_through (j := j) hc hA hT hlo hp1 hp2 a1 a2
    have t := tb1 a2
    rw [F_X10_firstOfShortest_L12]
    by_cases z : n - 1 ≤ g
    · simp (disch := omega) only [e_cl, e_jn, e_lt, e_cxl, e_cxr, e_rzn, ↓l_m1, ↓l_m2, ↓l_m8, l_0, l_1, l_2, l_3, l_4, l_5, l_6, l_7, l_8, l_9, l_10, l_12, l_16, l_20, l_24, l_31, l_32, l_35, l_36, l_40, l_44, l_48, l_59, l_63, l_64, l_90, l_95, l_96, l_100, l_120, l_127, l_200, l_216, l_255, l_999, l_1000, l_10000, l_1000000, l_1048575, l_1000000000, nI_add, pk_mul, pk_sub, nI_leI, nI_ltI, nI_eq, nI_dec, nI_o0, mx_n, mn_n, ab_1, ab_n, e_u2e, e_u2k, e_u2a, if_pos, if_neg, if_true, if_false, not_true, not_false_eq_true, ne_eq, Nat.add_zero, Nat.zero_add, cG_80 hc, cP_80 hc, cT_80 hc, cR_80_0 hc, cA_81 hc, cS_81 hc, cR_80_1 hc, cA_82 hc, cS_82 hc, cR_80_2 hc, cA_83 hc, cS_83 hc]
    · simp (disch := omega) only [e_cl, e_jn, e_lt, e_cxl, e_cxr, e_rzn, ↓l_m1, ↓l_m2, ↓l_m8, l_0, l_1, l_2, l_3, l_4, l_5, l_6, l_7, l_8, l_9, l_10, l_12, l_16, l_20, l_24, l_31, l_32, l_35, l_36, l_40, l_44, l_48, l_59, l_63, l_64, l_90, l_95, l_96, l_100, l_120, l_127, l_200, l_216, l_255, l_999, l_1000, l_10000, l_1000000, l_1048575, l_1000000000, nI_add, pk_mul, pk_sub, nI_leI, nI_ltI, nI_eq, nI_dec, nI_o0, mx_n, mn_n, ab_1, ab_n, e_u2e, e_u2k, e_u2a, if_pos, if_neg, if_true, if_false, not_true, not_false_eq_true, ne_eq, Nat.add_zero, Nat.zero_add, cG_80 hc, cP_80 hc, cT_80 hc, cR_80_0 hc, cA_81 hc, cS_81 hc, cR_80_1 hc, cA_82 hc, cS_82 hc, cR_80_2 hc, cA_83 hc, cS_83 hc, C_holdsI, th]
  | succ d ih =>
    intro g fu hg hfu
    obtain ⟨fu, rfl⟩ : ∃ g, fu = g + 1 := ⟨fu - 1, by omega⟩
    have hi := ih (g + 1) fu (by omega) (by omega)
    have hgn : g < n := by omega
    rw [F_X10_firstOfShortest_L12]
    by_cases c : p.1.testBit g = true
    · have t := tb0 c
      simp (disch := omega) only [e_cl, e_jn, e_lt, e_cxl, e_cxr, e_rzn, ↓l_m1, ↓l_m2, ↓l_m8, l_0, l_1, l_2, l_3, l_4, l_5, l_6, l_7, l_8, l_9, l_10, l_12, l_16, l_20, l_24, l_31, l_32, l_35, l_36, l_40, l_44, l_48, l_59, l_63, l_64, l_90, l_95, l_96, l_100, l_120, l_127, l_200, l_216, l_255, l_999, l_1000, l_10000, l_1000000, l_1048575, l_1000000000, nI_add, pk_mul, pk_sub, nI_leI, nI_ltI, nI_eq, nI_dec, nI_o0, mx_n, mn_n, ab_1, ab_n, e_u2e, e_u2k, e_u2a, if_pos, if_neg, if_true, if_false, not_true, not_false_eq_true, ne_eq, Nat.add_zero, Nat.zero_add, cG_80 hc, cP_80 hc, cT_80 hc, cR_80_0 hc, cA_81 hc, cS_81 hc, cR_80_1 hc, cA_82 hc, cS_82 hc, cR_80_2 hc, cA_83 hc, cS_83 hc, C_holdsI]
      exact hi
    · have c := ts_nt c
      have t := tb1 c
      have th := C_through (j := j) hc hA hT hlo hp1 hp2 hgn c
      have v1 := a4 g (by omega) c
      have v2 := hvb g hgn
      simp (disch := omega) only [e_cl, e_jn, e_lt, e_cxl, e_cxr, e_rzn, ↓l_m1, ↓l_m2, ↓l_m8, l_0, l_1, l_2, l_3, l_4, l_5, l_6, l_7, l_8, l_9, l_10, l_12, l_16, l_20, l_24, l_31, l_32, l_35, l_36, l_40, l_44, l_48, l_59, l_63, l_64, l_90, l_95, l_96, l_100, l_120, l_127, l_200, l_216, l_255, l_999, l_1000, l_10000, l_1000000, l_1048575, l_1000000000, nI_add, pk_mul, pk_sub, nI_leI, nI_ltI, nI_eq, nI_dec, nI_o0, mx_n, mn_n, ab_1, ab_n, e_u2e, e_u2k, e_u2a, if_pos, if_neg, if_true, if_false, not_true, not_false_eq_true, ne_eq, Nat.add_zero, Nat.zero_add, cG_80 hc, cP_80 hc, cT_80 hc, cR_80_0 hc, cA_81 hc, cS_81 hc, cR_80_1 hc, cA_82 hc, cS_82 hc, cR_80_2 hc, cA_83 hc, cS_83 hc, C_holdsI, th]
      exact hi
end CPLAN
