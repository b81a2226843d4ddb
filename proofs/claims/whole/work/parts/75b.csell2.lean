/-! ===== the class: sell, the rest; count ===== -/
section CSELL2
variable {m : IM} {j : JM} {u : SU}
theorem C_giveAll (hc : CS u) {L : Nat} {br : Int32} {bd lm : Nat → Nat} (hLD : LD L bd lm) (hA : CAl m L br bd lm) : ∃ m', F_X0_giveAll 100 (pm m j u) = some (oI (sellR bd lm L).1, pm m' j u) ∧ (∀ b, b ≠ 100 → b ≠ 103 → b ≠ 104 → b ≠ 105 → b ≠ 106 → m' b = m b) ∧ (∀ k, k ≠ 7 → m' 100 k = m 100 k) ∧ (∀ b, b < 4 → m' 103 b = nI 0) ∧ ∀ i, i < L → m' 105 i = oI (wc (dgD L (sellR bd lm L).2 i)) := by
  obtain ⟨hL6, hbd, -, hlm⟩ := hLD
  obtain ⟨h1, h2, h3, h4⟩ := hA
  obtain ⟨m1, a1, a2, a3⟩ := C_hopeL (j := j) hc hL6 hbd L LF (u2 (u2 m 100 7 (oI 0)) 106 L (nI 0)) (Nat.le_refl _) (by unfold LF; omega) (fun i hi => by rw [e_u2a (by decide), e_u2a (by decide)]; exact h3 i hi) (fun i g1 g2 => by rw [show i = L by omega, e_u2s, Nat.sub_self]; rfl)
  have a2' : ∀ b, b ≠ 100 → b ≠ 106 → m1 b = m b := fun b g1 g2 => by rw [a2 b g2, e_u2r g2, e_u2r g1]
  have a20 : m1 100 = u2 m 100 7 (oI 0) 100 := by rw [a2 100 (by decide), e_u2r (by decide)]
  have hG : GI m1 L bd lm 0 0 (0, 0) := by
    refine ⟨⟨by rw [a20, e_u2k (by decide)]; exact h1, fun i hi => by rw [a2' 101 (by decide) (by decide)]; exact h3 i hi, fun b hb => by rw [a2' 102 (by decide) (by decide)]; exact (h4 b hb).1, a3⟩, by rw [a20, e_u2s], fun b hb => by rw [a2' 103 (by decide) (by decide)]; exact (h4 b hb).2, fun i hi => by omega, fun z => absurd rfl z⟩
  obtain ⟨m2, b1, b2, b3⟩ := C_give (j := j) hc hL6 hbd hlm L 8 0 0 m1 (0, 0) (Nat.zero_add _) (by omega) (by show 0 ≤ _; omega) hG
  have b1 : F_X0_give 8 100 (nI 0) (nI 0) (pm m1 j u) = some ((), pm m2 j u) := b1
  refine ⟨m2, ?_, fun b g1 g2 g3 g4 g5 => by rw [b3.1 b g1 g2 g3 g4, a2' b g1 g5], fun k hk => by rw [b3.2 k hk, a20, e_u2k hk], fun b hb => b2.2.2.1 b hb, b2.2.2.2.2 ?_⟩
  · have eL : nI L - nI 1 = oI L := rfl
    have e7 : m2 100 7 = oI (sellR bd lm L).1 := b2.2.1
    unfold F_X0_giveAll
    simp (disch := omega) only [e_cl, e_jn, e_lt, e_cxl, e_cxr, e_rzn, ↓l_m1, ↓l_m2, ↓l_m8, l_0, l_1, l_2, l_3, l_4, l_5, l_6, l_7, l_8, l_9, l_10, l_12, l_16, l_20, l_24, l_31, l_32, l_35, l_36, l_40, l_44, l_48, l_59, l_63, l_64, l_90, l_95, l_96, l_100, l_120, l_127, l_200, l_216, l_255, l_999, l_1000, l_10000, l_1000000, l_1048575, l_1000000000, nI_add, pk_mul, pk_sub, nI_leI, nI_ltI, nI_eq, nI_dec, nI_o0, mx_n, mn_n, ab_1, ab_n, e_u2e, e_u2k, e_u2a, if_pos, if_neg, if_true, if_false, not_true, not_false_eq_true, ne_eq, Nat.add_zero, Nat.zero_add, cG_100 hc, cP_100 hc, cT_100 hc, cR_100_0 hc, cA_101 hc, cS_101 hc, cR_100_1 hc, cA_102 hc, cS_102 hc, cR_100_2 hc, cA_103 hc, cS_103 hc, cR_100_3 hc, cA_104 hc, cS_104 hc, cR_100_4 hc, cA_105 hc, cS_105 hc, cR_100_5 hc, cA_106 hc, cS_106 hc, h1, eL, a1, b1, e7]
  · have := sp_pos bd lm L L 0 (0, 0)
    show (sp bd lm L L 0 (0, 0)).1 ≠ 0
    omega
theorem ST_set {m' : IM} {a : Nat} {g g' ix an : Nat → Nat} (h : ST m u a g ix an) (h0 : ∀ k, k ≠ 4 → k ≠ 5 → k ≠ 6 → m' a k = m a k) (h1 : m' (a + 1) = m (a + 1)) (h2 : m' (a + 2) = m (a + 2)) (h3 : m' (a + 3) = m (a + 3)) (hg : ∀ k, k ≠ 5 → k ≠ 6 → k ≠ 7 → g' k = g k) (e4 : m' a 4 = oI (g' 5)) (e5 : m' a 5 = oI (g' 6)) (e6 : m' a 6 = oI (g' 7)) : ST m' u a g' ix an := by
  obtain ⟨s1, ⟨q0, q1, q2, q3, -⟩, f, pl, p1, p2, p3⟩ := h
  unfold ST
  rw [hg 0 (by decide) (by decide) (by decide), hg 1 (by decide) (by decide) (by decide), hg 2 (by decide) (by decide) (by decide), hg 3 (by decide) (by decide) (by decide), hg 4 (by decide) (by decide) (by decide), h0 0 (by decide) (by decide) (by decide), h0 1 (by decide) (by decide) (by decide), h0 2 (by decide) (by decide) (by decide), h0 3 (by decide) (by decide) (by decide), h0 10 (by decide) (by decide) (by decide), h0 11 (by decide) (by decide) (by decide), h3]
  exact ⟨s1, ⟨q0, q1, q2, q3, e4, e5, e6⟩, FC_fr f (h0 7 (by decide) (by decide) (by decide)) h1 h2, pl, p1, p2, p3⟩
theorem C_winner (hc : CS u) {L l : Nat} {v : Int32} (hL : L ≤ 6) (hl : l < L) (h : m 100 6 = nI L) (hw : m 105 l = v) : F_X0_winnerOf 100 (nI l) (pm m j u) = some (v, pm m j u) := by
  simp (disch := omega) only [F_X0_winnerOf, e_cl, e_jn, e_lt, e_cxl, e_cxr, e_rzn, ↓l_m1, ↓l_m2, ↓l_m8, l_0, l_1, l_2, l_3, l_4, l_5, l_6, l_7, l_8, l_9, l_10, l_12, l_16, l_20, l_24, l_31, l_32, l_35, l_36, l_40, l_44, l_48, l_59, l_63, l_64, l_90, l_95, l_96, l_100, l_120, l_127, l_200, l_216, l_255, l_999, l_1000, l_10000, l_1000000, l_1048575, l_1000000000, nI_add, pk_mul, pk_sub, nI_leI, nI_ltI, nI_eq, nI_dec, nI_o0, mx_n, mn_n, ab_1, ab_n, e_u2e, e_u2k, e_u2a, if_pos, if_neg, if_true, if_false, not_true, not_false_eq_true, ne_eq, Nat.add_zero, Nat.zero_add, cG_100 hc, cP_100 hc, cT_100 hc, cR_100_0 hc, cA_101 hc, cS_101 hc, cR_100_1 hc, cA_102 hc, cS_102 hc, cR_100_2 hc, cA_103 hc, cS_103 hc, cR_100_3 hc, cA_104 hc, cS_104 hc, cR_100_4 hc, cA_105 hc, cS_105 hc, cR_100_5 hc, cA_106 hc, cS_106 hc, h, hw]
theorem C_sellL (hc : CS u) {nS L : Nat} {sg ix an : Nat → Nat → Nat} {dg : Nat → Nat} {c1 : Int32} (hD : SD nS L sg ix an) (hL : L ≤ 6) : ∀ (d n fu : Nat) (m : IM), CAs m u nS (fun s k => if s < n then selS sg dg s k else sg s k) ix an → m 100 6 = nI L → (∀ i, i < L → m 105 i = oI (wc (dg i))) → n + d = nS → d < fu →
    ∃ m', (∀ K, F_X11_sell_L10 10 c1 K fu (nI n) (pm m j u) = K (pm m' j u)) ∧ (∀ b, b < 4000 → m' b = m b) ∧ CAs m' u nS (selS sg dg) ix an := by
  have hS := hD.1
  intro d
  induction d with
  | zero =>
    intro n fu m hA h1 h2 hn hfu
    obtain ⟨fu, rfl⟩ : ∃ g, fu = g + 1 := ⟨fu - 1, by omega⟩
    have e : n = nS := by omega
    subst e
    refine ⟨m, fun K => ?_, fun _ _ => rfl, ⟨hA.1, hA.2.1, fun s hs => ?_⟩⟩
    · rw [F_X11_sell_L10]
      simp (disch := omega) only [e_cl, e_jn, e_lt, e_cxl, e_cxr, e_rzn, ↓l_m1, ↓l_m2, ↓l_m8, l_0, l_1, l_2, l_3, l_4, l_5, l_6, l_7, l_8, l_9, l_10, l_12, l_16, l_20, l_24, l_31, l_32, l_35, l_36, l_40, l_44, l_48, l_59, l_63, l_64, l_90, l_95, l_96, l_100, l_120, l_127, l_200, l_216, l_255, l_999, l_1000, l_10000, l_1000000, l_1048575, l_1000000000, nI_add, pk_mul, pk_sub, nI_leI, nI_ltI, nI_eq, nI_dec, nI_o0, mx_n, mn_n, ab_1, ab_n, e_u2e, e_u2k, e_u2a, if_pos, if_neg, if_true, if_false, not_true, not_false_eq_true, ne_eq, Nat.add_zero, Nat.zero_add, cG_10 hc, cP_10 hc, cT_10 hc, cR_10_0 hc, cR_10_1 hc, cR_10_2 hc, cR_10_3 hc, cR_10_4 hc, cR_10_5 hc, cR_10_6 hc, cR_10_7 hc, cR_10_8 hc, cG_40 hc, cP_40 hc, cT_40 hc, C_size hA.1 hA.2.1]
    · have := hA.2.2 s hs
      simp only [if_pos hs] at this
      exact this
  | succ d ih =>
    intro n fu m hA h1 h2 hn hfu
    obtain ⟨fu, rfl⟩ : ∃ g, fu = g + 1 := ⟨fu - 1, by omega⟩
    have hlt : n < nS := by omega
    have hS' := hA.2.2 n hlt
    simp only [Nat.lt_irrefl, if_false] at hS'
    have hS' : ST m u (nmS n) (sg n) (ix n) (an n) := hS'
    have hO := hS'.1
    obtain ⟨-, -, -, -, -, h7, h8⟩ := hS'.2.1
    obtain ⟨d1, d2, d3, d4, d5, d6, d7, -⟩ := hD.2 n hlt
    have ha : 4000 ≤ nmS n := by unfold nmS; omega
    by_cases c : sg n 6 = 0
    · obtain ⟨m', i1, i2, i3⟩ := ih (n + 1) fu m (by
        refine CAs_up hA hlt rfl ?_ (fun _ _ _ => rfl) (fun s hs e => ⟨?_, rfl, rfl⟩)
        · have e : (fun k => if n < n + 1 then selS sg dg n k else sg n k) = sg n := by
            funext k
            rw [if_pos (by omega)]
            unfold selS selB
            by_cases e6 : k = 6
            · rw [if_pos e6, e6, c]
            · rw [if_neg e6]
              by_cases e7 : k = 7
              · rw [if_pos e7, if_pos c, e7]
              · rw [if_neg e7]
          show ST m u (nmS n) (fun k => if n < n + 1 then selS sg dg n k else sg n k) (ix n) (an n)
          rw [e]; exact hS'
        · funext k
          by_cases c : s < n
          · rw [if_pos c, if_pos (by omega)]
          · rw [if_neg c, if_neg (by omega)]) h1 h2 (by omega) (by omega)
      refine ⟨m', fun K => ?_, i2, i3⟩
      rw [c] at h7
      rw [← i1 K, F_X11_sell_L10]
      simp (disch := omega) only [e_cl, e_jn, e_lt, e_cxl, e_cxr, e_rzn, ↓l_m1, ↓l_m2, ↓l_m8, l_0, l_1, l_2, l_3, l_4, l_5, l_6, l_7, l_8, l_9, l_10, l_12, l_16, l_20, l_24, l_31, l_32, l_35, l_36, l_40, l_44, l_48, l_59, l_63, l_64, l_90, l_95, l_96, l_100, l_120, l_127, l_200, l_216, l_255, l_999, l_1000, l_10000, l_1000000, l_1048575, l_1000000000, nI_add, pk_mul, pk_sub, nI_leI, nI_ltI, nI_eq, nI_dec, nI_o0, mx_n, mn_n, ab_1, ab_n, e_u2e, e_u2k, e_u2a, if_pos, if_neg, if_true, if_false, not_true, not_false_eq_true, ne_eq, Nat.add_zero, Nat.zero_add, cG_10 hc, cP_10 hc, cT_10 hc, cR_10_0 hc, cR_10_1 hc, cR_10_2 hc, cR_10_3 hc, cR_10_4 hc, cR_10_5 hc, cR_10_6 hc, cR_10_7 hc, cR_10_8 hc, cG_40 hc, cP_40 hc, cT_40 hc, sG hO, sP hO, sZ_ hO, sT hO, sR8 hO, sR9 hO, sR12 hO, sA1 hO, sA2 hO, sA3 hO, sS1 hO, sS2 hO, sS3 hO, C_size hA.1 hA.2.1, C_get hA.1 hA.2.1 hlt, h7]
    · have hw := C_winner (j := j) hc hL (show sg n 6 - 1 < L by omega) h1 (h2 (sg n 6 - 1) (by omega))
      have k40 : ∀ b, b ≠ nmS n → u2 (u2 m (nmS n) 6 (oI (wc (dg (sg n 6 - 1))))) (nmS n) 5 (oI 0) b = m b := fun b hb => by rw [e_u2r hb, e_u2r hb]
      obtain ⟨m', i1, i2, i3⟩ := ih (n + 1) fu (u2 (u2 m (nmS n) 6 (oI (wc (dg (sg n 6 - 1))))) (nmS n) 5 (oI 0)) (by
        refine CAs_up hA hlt (by rw [k40 40 (by omega)]) (ST_set hS' (fun k g4 g5 g6 => by rw [e_u2k g5, e_u2k g6]) (k40 _ (by omega)) (k40 _ (by omega)) (k40 _ (by omega)) (fun k g5 g6 g7 => ?_) ?_ ?_ ?_) (fun b g1 g2 => k40 b (by omega)) (fun s hs e => ⟨?_, rfl, rfl⟩)
        · show (if n < n + 1 then selS sg dg n k else sg n k) = sg n k
          rw [if_pos (by omega), selS, if_neg g6, if_neg g7]
        · show _ = oI (if n < n + 1 then selS sg dg n 5 else sg n 5)
          rw [if_pos (by omega), selS, if_neg (by decide), if_neg (by decide), e_u2k (by decide), e_u2k (by decide)]
          exact hS'.2.1.2.2.2.2.1
        · show _ = oI (if n < n + 1 then selS sg dg n 6 else sg n 6)
          rw [if_pos (by omega), selS, if_pos rfl, e_u2s]
        · show _ = oI (if n < n + 1 then selS sg dg n 7 else sg n 7)
          rw [if_pos (by omega), selS, if_neg (by decide), if_pos rfl, selB, if_neg c, e_u2k (by decide), e_u2s]
        · funext k
          by_cases c : s < n
          · rw [if_pos c, if_pos (by omega)]
          · rw [if_neg c, if_neg (by omega)]) (by rw [k40 100 (by omega)]; exact h1) (fun i hi => by rw [k40 105 (by omega)]; exact h2 i hi) (by omega) (by omega)
      refine ⟨m', fun K => ?_, fun b hb => by rw [i2 b hb, k40 b (by omega)], i3⟩
      rw [oI_p c] at h7
      rw [← i1 K, F_X11_sell_L10]
      simp (disch := omega) only [e_cl, e_jn, e_lt, e_cxl, e_cxr, e_rzn, ↓l_m1, ↓l_m2, ↓l_m8, l_0, l_1, l_2, l_3, l_4, l_5, l_6, l_7, l_8, l_9, l_10, l_12, l_16, l_20, l_24, l_31, l_32, l_35, l_36, l_40, l_44, l_48, l_59, l_63, l_64, l_90, l_95, l_96, l_100, l_120, l_127, l_200, l_216, l_255, l_999, l_1000, l_10000, l_1000000, l_1048575, l_1000000000, nI_add, pk_mul, pk_sub, nI_leI, nI_ltI, nI_eq, nI_dec, nI_o0, mx_n, mn_n, ab_1, ab_n, e_u2e, e_u2k, e_u2a, if_pos, if_neg, if_true, if_false, not_true, not_false_eq_true, ne_eq, Nat.add_zero, Nat.zero_add, cG_10 hc, cP_10 hc, cT_10 hc, cR_10_0 hc, cR_10_1 hc, cR_10_2 hc, cR_10_3 hc, cR_10_4 hc, cR_10_5 hc, cR_10_6 hc, cR_10_7 hc, cR_10_8 hc, cG_40 hc, cP_40 hc, cT_40 hc, cG_100 hc, cP_100 hc, cT_100 hc, cR_100_0 hc, cA_101 hc, cS_101 hc, cR_100_1 hc, cA_102 hc, cS_102 hc, cR_100_2 hc, cA_103 hc, cS_103 hc, cR_100_3 hc, cA_104 hc, cS_104 hc, cR_100_4 hc, cA_105 hc, cS_105 hc, cR_100_5 hc, cA_106 hc, cS_106 hc, sG hO, sP hO, sZ_ hO, sT hO, sR8 hO, sR9 hO, sR12 hO, sA1 hO, sA2 hO, sA3 hO, sS1 hO, sS2 hO, sS3 hO, C_size hA.1 hA.2.1, C_get hA.1 hA.2.1 hlt, h7, hw]
theorem C_clearL (hc : CS u) : ∀ (d n fu : Nat) (m : IM), n + d = 24 → d < fu → (∀ i, i < n → m 101 i = nI 0) →
    ∃ m', (∀ K, F_X0_clear_L7 100 K fu (nI n) (pm m j u) = K (pm m' j u)) ∧ (∀ b, b ≠ 101 → m' b = m b) ∧ ∀ i, i < 24 → m' 101 i = nI 0 := by
  intro d
  induction d with
  | zero =>
    intro n fu m hn hfu h
    obtain ⟨fu, rfl⟩ : ∃ g, fu = g + 1 := ⟨fu - 1, by omega⟩
    have e : n = 24 := by omega
    subst e
    refine ⟨m, fun K => ?_, fun _ _ => rfl, h⟩
    simp (disch := omega) only [F_X0_clear_L7, e_cl, e_jn, e_lt, e_cxl, e_cxr, e_rzn, ↓l_m1, ↓l_m2, ↓l_m8, l_0, l_1, l_2, l_3, l_4, l_5, l_6, l_7, l_8, l_9, l_10, l_12, l_16, l_20, l_24, l_31, l_32, l_35, l_36, l_40, l_44, l_48, l_59, l_63, l_64, l_90, l_95, l_96, l_100, l_120, l_127, l_200, l_216, l_255, l_999, l_1000, l_10000, l_1000000, l_1048575, l_1000000000, nI_add, pk_mul, pk_sub, nI_leI, nI_ltI, nI_eq, nI_dec, nI_o0, mx_n, mn_n, ab_1, ab_n, e_u2e, e_u2k, e_u2a, if_pos, if_neg, if_true, if_false, not_true, not_false_eq_true, ne_eq, Nat.add_zero, Nat.zero_add]
  | succ d ih =>
    intro n fu m hn hfu h
    obtain ⟨fu, rfl⟩ : ∃ g, fu = g + 1 := ⟨fu - 1, by omega⟩
    obtain ⟨m', i1, i2, i3⟩ := ih (n + 1) fu (u2 m 101 n (nI 0)) (by omega) (by omega) (fun i hi => by
      by_cases e : i = n
      · rw [e, e_u2s]
      · rw [e_u2k e]; exact h i (by omega))
    refine ⟨m', fun K => ?_, fun b hb => by rw [i2 b hb, e_u2r hb], i3⟩
    rw [← i1 K, F_X0_clear_L7]
    simp (disch := omega) only [e_cl, e_jn, e_lt, e_cxl, e_cxr, e_rzn, ↓l_m1, ↓l_m2, ↓l_m8, l_0, l_1, l_2, l_3, l_4, l_5, l_6, l_7, l_8, l_9, l_10, l_12, l_16, l_20, l_24, l_31, l_32, l_35, l_36, l_40, l_44, l_48, l_59, l_63, l_64, l_90, l_95, l_96, l_100, l_120, l_127, l_200, l_216, l_255, l_999, l_1000, l_10000, l_1000000, l_1048575, l_1000000000, nI_add, pk_mul, pk_sub, nI_leI, nI_ltI, nI_eq, nI_dec, nI_o0, mx_n, mn_n, ab_1, ab_n, e_u2e, e_u2k, e_u2a, if_pos, if_neg, if_true, if_false, not_true, not_false_eq_true, ne_eq, Nat.add_zero, Nat.zero_add, cG_100 hc, cP_100 hc, cT_100 hc, cR_100_0 hc, cA_101 hc, cS_101 hc, cR_100_1 hc, cA_102 hc, cS_102 hc, cR_100_2 hc, cA_103 hc, cS_103 hc, cR_100_3 hc, cA_104 hc, cS_104 hc, cR_100_4 hc, cA_105 hc, cS_105 hc, cR_100_5 hc, cA_106 hc, cS_106 hc]
theorem C_sell (hc : CS u) {nS L : Nat} {sg ix an : Nat → Nat → Nat} {br : Int32} {bd lm : Nat → Nat} (hD : SD nS L sg ix an) (hLD : LD L bd lm) (hA : CAs m u nS sg ix an) (hL : CAl m L br bd lm) : ∃ m', F_X11_sell 10 (pm m j u) = some (oI (sellR bd lm L).1, pm m' j u) ∧ (∀ b, b < 4000 → b ≠ 10 → (b < 100 ∨ 106 < b) → m' b = m b) ∧ CAs m' u nS (selS sg (dgD L (sellR bd lm L).2)) ix an ∧ CAl m' 0 (br + oI (sellR bd lm L).1) (fun _ => 0) lm := by
  have hL6 := hLD.1
  obtain ⟨m1, a1, a2, a3, a4, a5⟩ := C_giveAll (j := j) hc hLD hL
  obtain ⟨h1, h2, h3, h4⟩ := hL
  obtain ⟨m2, b1, b2, b3⟩ := C_sellL (j := j) (dg := dgD L (sellR bd lm L).2) (c1 := oI (sellR bd lm L).1) hc hD hL6 nS 0 LF m1 (by
    have e : (fun s k => if s < 0 then selS sg (dgD L (sellR bd lm L).2) s k else sg s k) = sg := by funext s k; rw [if_neg (by omega)]
    rw [e]
    exact CAs_fr hA (a2 40 (by decide) (by decide) (by decide) (by decide) (by decide)) (fun b hb => a2 b (by omega) (by omega) (by omega) (by omega) (by omega))) (by rw [a3 6 (by decide)]; exact h1) a5 (by omega) (by have := hD.1; unfold LF; omega)
  obtain ⟨m3, c1, c2, c3⟩ := C_clearL (j := j) hc 24 0 LF (u2 m2 100 6 (nI 0)) (by omega) (by unfold LF; omega) (fun i hi => by omega)
  have e9 : m3 10 9 = br := by rw [c2 10 (by decide), e_u2a (by decide), b2 10 (by decide), a2 10 (by decide) (by decide) (by decide) (by decide) (by decide)]; exact h2
  have k3 : ∀ b, b < 4000 → b ≠ 100 → b ≠ 101 → b ≠ 103 → b ≠ 104 → b ≠ 105 → b ≠ 106 → m3 b = m b := fun b g0 g1 g2 g3 g4 g5 g6 => by rw [c2 b g2, e_u2r g1, b2 b g0, a2 b g1 g3 g4 g5 g6]
  refine ⟨u2 m3 10 9 (br + oI (sellR bd lm L).1), ?_, fun b g0 g1 g2 => ?_, ?_, ?_⟩
  · unfold F_X11_sell F_X0_clear
    simp (disch := omega) only [e_cl, e_jn, e_lt, e_cxl, e_cxr, e_rzn, ↓l_m1, ↓l_m2, ↓l_m8, l_0, l_1, l_2, l_3, l_4, l_5, l_6, l_7, l_8, l_9, l_10, l_12, l_16, l_20, l_24, l_31, l_32, l_35, l_36, l_40, l_44, l_48, l_59, l_63, l_64, l_90, l_95, l_96, l_100, l_120, l_127, l_200, l_216, l_255, l_999, l_1000, l_10000, l_1000000, l_1048575, l_1000000000, nI_add, pk_mul, pk_sub, nI_leI, nI_ltI, nI_eq, nI_dec, nI_o0, mx_n, mn_n, ab_1, ab_n, e_u2e, e_u2k, e_u2a, if_pos, if_neg, if_true, if_false, not_true, not_false_eq_true, ne_eq, Nat.add_zero, Nat.zero_add, cG_10 hc, cP_10 hc, cT_10 hc, cR_10_0 hc, cR_10_1 hc, cR_10_2 hc, cR_10_3 hc, cR_10_4 hc, cR_10_5 hc, cR_10_6 hc, cR_10_7 hc, cR_10_8 hc, cG_100 hc, cP_100 hc, cT_100 hc, cR_100_0 hc, cA_101 hc, cS_101 hc, cR_100_1 hc, cA_102 hc, cS_102 hc, cR_100_2 hc, cA_103 hc, cS_103 hc, cR_100_3 hc, cA_104 hc, cS_104 hc, cR_100_4 hc, cA_105 hc, cS_105 hc, cR_100_5 hc, cA_106 hc, cS_106 hc, a1, b1, c1, e9]
  · rw [e_u2r g1, k3 b g0 (by omega) (by omega) (by omega) (by omega) (by omega) (by omega)]
  · refine CAs_fr b3 (by rw [e_u2r (by decide), c2 40 (by decide), e_u2r (by decide)]) (fun b hb => by rw [e_u2r (by omega), c2 b (by omega), e_u2r (by omega)])
  · refine ⟨?_, by rw [e_u2s], fun i hi => ?_, fun b hb => ?_⟩
    · rw [e_u2a (by decide), c2 100 (by decide), e_u2s]
    · rw [e_u2a (by decide)]; exact c3 i hi
    · rw [e_u2a (by decide), e_u2a (by decide), k3 102 (by decide) (by decide) (by decide) (by decide) (by decide) (by decide) (by decide), c2 103 (by decide), e_u2a (by decide), b2 103 (by decide)]
      exact ⟨(h4 b hb).1, a4 b hb⟩
theorem C_soldL (hc : CS u) {nS nL : Nat} {sg ix an : Nat → Nat → Nat} (hD : SD nS nL sg ix an) (hA : CAs m u nS sg ix an) (K : Int32 → PM → Option (Int32 × PM)) : ∀ (d n fu : Nat), n + d = nS → d < fu →
    F_X11_soldStones_L4 10 K fu (nI (fb_ct (soldP sg) n)) (nI n) (pm m j u) = K (nI (fb_ct (soldP sg) nS)) (pm m j u) := by
  have hS := hD.1
  intro d
  induction d with
  | zero =>
    intro n fu hn hfu
    obtain ⟨fu, rfl⟩ : ∃ g, fu = g + 1 := ⟨fu - 1, by omega⟩
    have e : n = nS := by omega
    subst e
    rw [F_X11_soldStones_L4]
    simp (disch := omega) only [e_cl, e_jn, e_lt, e_cxl, e_cxr, e_rzn, ↓l_m1, ↓l_m2, ↓l_m8, l_0, l_1, l_2, l_3, l_4, l_5, l_6, l_7, l_8, l_9, l_10, l_12, l_16, l_20, l_24, l_31, l_32, l_35, l_36, l_40, l_44, l_48, l_59, l_63, l_64, l_90, l_95, l_96, l_100, l_120, l_127, l_200, l_216, l_255, l_999, l_1000, l_10000, l_1000000, l_1048575, l_1000000000, nI_add, pk_mul, pk_sub, nI_leI, nI_ltI, nI_eq, nI_dec, nI_o0, mx_n, mn_n, ab_1, ab_n, e_u2e, e_u2k, e_u2a, if_pos, if_neg, if_true, if_false, not_true, not_false_eq_true, ne_eq, Nat.add_zero, Nat.zero_add, cG_10 hc, cP_10 hc, cT_10 hc, cR_10_0 hc, cR_10_1 hc, cR_10_2 hc, cR_10_3 hc, cR_10_4 hc, cR_10_5 hc, cR_10_6 hc, cR_10_7 hc, cR_10_8 hc, cG_40 hc, cP_40 hc, cT_40 hc, C_size hA.1 hA.2.1]
  | succ d ih =>
    intro n fu hn hfu
    obtain ⟨fu, rfl⟩ : ∃ g, fu = g + 1 := ⟨fu - 1, by omega⟩
    have hlt : n < nS := by omega
    obtain ⟨hO, ⟨h0, h1, h2, h5, h6, h7, h8⟩, hF, -⟩ := hA.2.2 n hlt
    obtain ⟨d1, d2, d3, d4, d5, d6, -⟩ := hD.2 n hlt
    have hi := ih (n + 1) fu (by omega) (by omega)
    rw [fb_ct_succ] at hi
    rw [F_X11_soldStones_L4]
    by_cases c : sg n 7 = 0
    · have e : soldP sg n = false := decide_eq_false (fun z => z c)
      rw [e] at hi
      rw [c] at h8
      simp (disch := omega) only [e_cl, e_jn, e_lt, e_cxl, e_cxr, e_rzn, ↓l_m1, ↓l_m2, ↓l_m8, l_0, l_1, l_2, l_3, l_4, l_5, l_6, l_7, l_8, l_9, l_10, l_12, l_16, l_20, l_24, l_31, l_32, l_35, l_36, l_40, l_44, l_48, l_59, l_63, l_64, l_90, l_95, l_96, l_100, l_120, l_127, l_200, l_216, l_255, l_999, l_1000, l_10000, l_1000000, l_1048575, l_1000000000, nI_add, pk_mul, pk_sub, nI_leI, nI_ltI, nI_eq, nI_dec, nI_o0, mx_n, mn_n, ab_1, ab_n, e_u2e, e_u2k, e_u2a, if_pos, if_neg, if_true, if_false, not_true, not_false_eq_true, ne_eq, Nat.add_zero, Nat.zero_add, cG_10 hc, cP_10 hc, cT_10 hc, cR_10_0 hc, cR_10_1 hc, cR_10_2 hc, cR_10_3 hc, cR_10_4 hc, cR_10_5 hc, cR_10_6 hc, cR_10_7 hc, cR_10_8 hc, cG_40 hc, cP_40 hc, cT_40 hc, sG hO, sP hO, sZ_ hO, sT hO, sR8 hO, sR9 hO, sR12 hO, sA1 hO, sA2 hO, sA3 hO, sS1 hO, sS2 hO, sS3 hO, C_size hA.1 hA.2.1, C_get hA.1 hA.2.1 hlt, h8, Bool.false_eq_true] at hi ⊢
      exact hi
    · have e : soldP sg n = true := decide_eq_true c
      rw [e] at hi
      simp (disch := omega) only [e_cl, e_jn, e_lt, e_cxl, e_cxr, e_rzn, ↓l_m1, ↓l_m2, ↓l_m8, l_0, l_1, l_2, l_3, l_4, l_5, l_6, l_7, l_8, l_9, l_10, l_12, l_16, l_20, l_24, l_31, l_32, l_35, l_36, l_40, l_44, l_48, l_59, l_63, l_64, l_90, l_95, l_96, l_100, l_120, l_127, l_200, l_216, l_255, l_999, l_1000, l_10000, l_1000000, l_1048575, l_1000000000, nI_add, pk_mul, pk_sub, nI_leI, nI_ltI, nI_eq, nI_dec, nI_o0, mx_n, mn_n, ab_1, ab_n, e_u2e, e_u2k, e_u2a, if_pos, if_neg, if_true, if_false, not_true, not_false_eq_true, ne_eq, Nat.add_zero, Nat.zero_add, cG_10 hc, cP_10 hc, cT_10 hc, cR_10_0 hc, cR_10_1 hc, cR_10_2 hc, cR_10_3 hc, cR_10_4 hc, cR_10_5 hc, cR_10_6 hc, cR_10_7 hc, cR_10_8 hc, cG_40 hc, cP_40 hc, cT_40 hc, sG hO, sP hO, sZ_ hO, sT hO, sR8 hO, sR9 hO, sR12 hO, sA1 hO, sA2 hO, sA3 hO, sS1 hO, sS2 hO, sS3 hO, C_size hA.1 hA.2.1, C_get hA.1 hA.2.1 hlt, h8, oI_ne c (show sg n 7 < 2 ^ 31 by omega)] at hi ⊢
      exact hi
theorem C_sold (hc : CS u) {nS nL : Nat} {sg ix an : Nat → Nat → Nat} (hD : SD nS nL sg ix an) (hA : CAs m u nS sg ix an) : F_X11_soldStones 10 (pm m j u) = some (nI (fb_ct (soldP sg) nS), pm m j u) := by
  unfold F_X11_soldStones
  rw [e_jn]
  exact C_soldL hc hD hA _ nS 0 LF (by omega) (by have := hD.1; unfold LF; omega)
end CSELL2
