/-! ===== the class: facet, told, prices, tape, bids ===== -/
section CSI
variable {m : IM} {j : JM} {u : SU}
theorem C_facet1 (hc : CS u) {nS : Nat} {x y z : Int32} {sg ix an : Nat → Nat → Nat} (hA : CAs m u nS sg ix an) (hn : nS ≤ 40) (hx : ¬ ∃ s, s < nS ∧ x = nI s) : F_X11_facet 10 x y z (pm m j u) = some (.inl 4, pm m j u) := by
  simp only [F_X11_facet, cT_10 hc, C_stoneNo hc hA hn hx, e_cxl]
theorem C_facet2 (hc : CS u) {nS s : Nat} {y z : Int32} {sg ix an : Nat → Nat → Nat} (hA : CAs m u nS sg ix an) (hn : nS ≤ 40) (hx : s < nS) (hy : ¬ ((∃ p, p < 96 ∧ y = nI p) ∧ ∃ q, q < 91 ∧ z = nI q)) : F_X11_facet 10 (nI s) y z (pm m j u) = some (.inl 2, pm m j u) := by
  by_cases c : ∃ p, p < 96 ∧ y = nI p
  · have hz : ¬ ∃ q, q < 91 ∧ z = nI q := fun w => hy ⟨c, w⟩
    obtain ⟨p, hp, rfl⟩ := c
    rcases nI_ncase (n := 91) (by omega) hz with c | ⟨l, h1, h2, rfl⟩
    · simp (disch := omega) only [F_X11_facet, e_jn, cT_10 hc, C_stoneOf hc hA hn hx, e_cxr, if_neg (nI_pos (show p < 2 ^ 31 by omega)), if_neg (show ¬ (96 : Int32) ≤ nI p from nI_ge (b := 96) (by omega) (by decide)), if_pos c]
    · simp (disch := omega) only [F_X11_facet, e_cl, e_jn, e_lt, e_cxl, e_cxr, e_rzn, ↓l_m1, ↓l_m2, ↓l_m8, l_0, l_1, l_2, l_3, l_4, l_5, l_6, l_7, l_8, l_9, l_10, l_12, l_16, l_20, l_24, l_31, l_32, l_35, l_36, l_40, l_44, l_48, l_59, l_63, l_64, l_90, l_95, l_96, l_100, l_120, l_127, l_200, l_216, l_255, l_999, l_1000, l_10000, l_1000000, l_1048575, l_1000000000, nI_add, pk_mul, pk_sub, nI_leI, nI_ltI, nI_eq, nI_dec, nI_o0, mx_n, mn_n, ab_1, ab_n, e_u2e, e_u2k, e_u2a, if_pos, if_neg, if_true, if_false, not_true, not_false_eq_true, ne_eq, Nat.add_zero, Nat.zero_add, cG_10 hc, cP_10 hc, cT_10 hc, cR_10_0 hc, cR_10_1 hc, cR_10_2 hc, cR_10_3 hc, cR_10_4 hc, cR_10_5 hc, cR_10_6 hc, cR_10_7 hc, cR_10_8 hc, C_stoneOf hc hA hn hx]
  · rcases nI_ncase (n := 96) (by omega) c with c | ⟨l, h1, h2, rfl⟩
    · simp (disch := omega) only [F_X11_facet, e_jn, cT_10 hc, C_stoneOf hc hA hn hx, e_cxr, if_pos c]
    · simp (disch := omega) only [F_X11_facet, e_cl, e_jn, e_lt, e_cxl, e_cxr, e_rzn, ↓l_m1, ↓l_m2, ↓l_m8, l_0, l_1, l_2, l_3, l_4, l_5, l_6, l_7, l_8, l_9, l_10, l_12, l_16, l_20, l_24, l_31, l_32, l_35, l_36, l_40, l_44, l_48, l_59, l_63, l_64, l_90, l_95, l_96, l_100, l_120, l_127, l_200, l_216, l_255, l_999, l_1000, l_10000, l_1000000, l_1048575, l_1000000000, nI_add, pk_mul, pk_sub, nI_leI, nI_ltI, nI_eq, nI_dec, nI_o0, mx_n, mn_n, ab_1, ab_n, e_u2e, e_u2k, e_u2a, if_pos, if_neg, if_true, if_false, not_true, not_false_eq_true, ne_eq, Nat.add_zero, Nat.zero_add, cG_10 hc, cP_10 hc, cT_10 hc, cR_10_0 hc, cR_10_1 hc, cR_10_2 hc, cR_10_3 hc, cR_10_4 hc, cR_10_5 hc, cR_10_6 hc, cR_10_7 hc, cR_10_8 hc, C_stoneOf hc hA hn hx]
theorem C_facet3 (hc : CS u) {nS nL s p q : Nat} {sg ix an : Nat → Nat → Nat} (hD : SD nS nL sg ix an) (hA : CAs m u nS sg ix an) (hx : s < nS) (hp : p ≤ 95) (hq : q ≤ 90) (h : sg s 4 = 1 ∨ sg s 4 = 0 ∧ sg s 3 = 8) : F_X11_facet 10 (nI s) (nI p) (nI q) (pm m j u) = some (.inr (if sg s 4 = 1 then -1 else -2), pm m j u) := by
  obtain ⟨hO, h1, hF, -⟩ := hA.2.2 s hx
  rcases h with h | ⟨h, h3⟩
  · simp (disch := omega) only [F_X11_facet, e_cl, e_jn, e_lt, e_cxl, e_cxr, e_rzn, ↓l_m1, ↓l_m2, ↓l_m8, l_0, l_1, l_2, l_3, l_4, l_5, l_6, l_7, l_8, l_9, l_10, l_12, l_16, l_20, l_24, l_31, l_32, l_35, l_36, l_40, l_44, l_48, l_59, l_63, l_64, l_90, l_95, l_96, l_100, l_120, l_127, l_200, l_216, l_255, l_999, l_1000, l_10000, l_1000000, l_1048575, l_1000000000, nI_add, pk_mul, pk_sub, nI_leI, nI_ltI, nI_eq, nI_dec, nI_o0, mx_n, mn_n, ab_1, ab_n, e_u2e, e_u2k, e_u2a, if_pos, if_neg, if_true, if_false, not_true, not_false_eq_true, ne_eq, Nat.add_zero, Nat.zero_add, cG_10 hc, cP_10 hc, cT_10 hc, cR_10_0 hc, cR_10_1 hc, cR_10_2 hc, cR_10_3 hc, cR_10_4 hc, cR_10_5 hc, cR_10_6 hc, cR_10_7 hc, cR_10_8 hc, sG hO, sP hO, sZ_ hO, sT hO, sR8 hO, sR9 hO, sR12 hO, sA1 hO, sA2 hO, sA3 hO, sS1 hO, sS2 hO, sS3 hO, C_stoneOf hc hA hD.1 hx, h1.2.2.2.1, h]
  · simp (disch := omega) only [F_X11_facet, e_cl, e_jn, e_lt, e_cxl, e_cxr, e_rzn, ↓l_m1, ↓l_m2, ↓l_m8, l_0, l_1, l_2, l_3, l_4, l_5, l_6, l_7, l_8, l_9, l_10, l_12, l_16, l_20, l_24, l_31, l_32, l_35, l_36, l_40, l_44, l_48, l_59, l_63, l_64, l_90, l_95, l_96, l_100, l_120, l_127, l_200, l_216, l_255, l_999, l_1000, l_10000, l_1000000, l_1048575, l_1000000000, nI_add, pk_mul, pk_sub, nI_leI, nI_ltI, nI_eq, nI_dec, nI_o0, mx_n, mn_n, ab_1, ab_n, e_u2e, e_u2k, e_u2a, if_pos, if_neg, if_true, if_false, not_true, not_false_eq_true, ne_eq, Nat.add_zero, Nat.zero_add, cG_10 hc, cP_10 hc, cT_10 hc, cR_10_0 hc, cR_10_1 hc, cR_10_2 hc, cR_10_3 hc, cR_10_4 hc, cR_10_5 hc, cR_10_6 hc, cR_10_7 hc, cR_10_8 hc, sG hO, sP hO, sZ_ hO, sT hO, sR8 hO, sR9 hO, sR12 hO, sA1 hO, sA2 hO, sA3 hO, sS1 hO, sS2 hO, sS3 hO, C_stoneOf hc hA hD.1 hx, h1.2.2.2.1, hF.2.1, h, h3]
theorem C_facet5 (hc : CS u) {nS nL s p q : Nat} {sg ix an : Nat → Nat → Nat} (hD : SD nS nL sg ix an) (hA : CAs m u nS sg ix an) (hx : s < nS) (hp : p ≤ 95) (hq : q ≤ 90) (h4 : sg s 4 = 0) (h3 : sg s 3 < 8) : ∃ m', F_X11_facet 10 (nI s) (nI p) (nI q) (pm m j u) = some (.inr (nI (sg s 3 + 1)), pm m' j u) ∧ (∀ b, b < 4000 → m' b = m b) ∧ CAs m' u nS (u2 sg s 3 (sg s 3 + 1)) (u2 ix s (sg s 3) p) (u2 an s (sg s 3) q) := by
  obtain ⟨hO, h1, hF, pl, p1, p2, -⟩ := hA.2.2 s hx
  have ha : 4000 ≤ nmS s := by unfold nmS; omega
  refine ⟨u2 (u2 (u2 m (nmS s + 1) (sg s 3) (nI p)) (nmS s + 2) (sg s 3) (nI q)) (nmS s) 7 (nI (sg s 3 + 1)), ?_, fun b hb => by rw [e_u2r (by omega), e_u2r (by omega), e_u2r (by omega)], ?_⟩
  · simp (disch := omega) only [F_X11_facet, e_cl, e_jn, e_lt, e_cxl, e_cxr, e_rzn, ↓l_m1, ↓l_m2, ↓l_m8, l_0, l_1, l_2, l_3, l_4, l_5, l_6, l_7, l_8, l_9, l_10, l_12, l_16, l_20, l_24, l_31, l_32, l_35, l_36, l_40, l_44, l_48, l_59, l_63, l_64, l_90, l_95, l_96, l_100, l_120, l_127, l_200, l_216, l_255, l_999, l_1000, l_10000, l_1000000, l_1048575, l_1000000000, nI_add, pk_mul, pk_sub, nI_leI, nI_ltI, nI_eq, nI_dec, nI_o0, mx_n, mn_n, ab_1, ab_n, e_u2e, e_u2k, e_u2a, if_pos, if_neg, if_true, if_false, not_true, not_false_eq_true, ne_eq, Nat.add_zero, Nat.zero_add, cG_10 hc, cP_10 hc, cT_10 hc, cR_10_0 hc, cR_10_1 hc, cR_10_2 hc, cR_10_3 hc, cR_10_4 hc, cR_10_5 hc, cR_10_6 hc, cR_10_7 hc, cR_10_8 hc, sG hO, sP hO, sZ_ hO, sT hO, sR8 hO, sR9 hO, sR12 hO, sA1 hO, sA2 hO, sA3 hO, sS1 hO, sS2 hO, sS3 hO, C_stoneOf hc hA hD.1 hx, h1.2.2.2.1, hF.2.1, h4]
  · have w3 : u2 sg s 3 (sg s 3 + 1) s 3 = sg s 3 + 1 := by simp [u2]
    have w : ∀ k, k ≠ 3 → u2 sg s 3 (sg s 3 + 1) s k = sg s k := fun k hk => by simp [u2, hk]
    refine CAs_up hA hx (by rw [e_u2a (by omega), e_u2a (by omega), e_u2a (by omega)]) ⟨hO, ?_, ⟨by omega, by rw [w3, e_u2s], fun f hf => ?_⟩, pl, ?_, by omega, fun z => by omega⟩ (fun b h1 h2 => by rw [e_u2r (by omega), e_u2r (by omega), e_u2r (by omega)]) (fun t _ ht => ⟨by funext k; simp [u2, ht], by funext k; simp [u2, ht], by funext k; simp [u2, ht]⟩)
    · simp (disch := omega) only [w, e_u2k, e_u2a]
      exact h1
    · rw [w3] at hf
      by_cases e : f = sg s 3
      · subst e
        simp (disch := omega) only [e_u2a, e_u2s]
        refine ⟨by simp [u2], by simp [u2], by simpa [u2] using hp, by simpa [u2] using hq⟩
      · simp (disch := omega) only [e_u2a, e_u2k]
        obtain ⟨q1, q2, q3, q4⟩ := hF.2.2 f (by omega)
        exact ⟨by simpa [u2, e] using q1, by simpa [u2, e] using q2, by simpa [u2, e] using q3, by simpa [u2, e] using q4⟩
    · rw [e_u2k (by decide), e_u2a (by omega), e_u2a (by omega)]; exact p1
theorem C_told1 (hc : CS u) {nS : Nat} {x y : Int32} {sg ix an : Nat → Nat → Nat} (hA : CAs m u nS sg ix an) (hn : nS ≤ 40) (hx : ¬ ∃ s, s < nS ∧ x = nI s) : F_X11_told 10 x y (pm m j u) = some (.inl 4, pm m j u) := by
  simp only [F_X11_told, cT_10 hc, C_stoneNo hc hA hn hx, e_cxl]
theorem C_told2 (hc : CS u) {nS s : Nat} {y : Int32} {sg ix an : Nat → Nat → Nat} (hA : CAs m u nS sg ix an) (hn : nS ≤ 40) (hx : s < nS) (hy : ¬ ∃ p, p < 7 ∧ y = nI p) : F_X11_told 10 (nI s) y (pm m j u) = some (.inl 2, pm m j u) := by
  rcases nI_ncase (n := 7) (by omega) hy with c | ⟨l, h1, h2, rfl⟩
  · simp (disch := omega) only [F_X11_told, e_jn, cT_10 hc, C_stoneOf hc hA hn hx, e_cxr, if_pos c]
  · simp (disch := omega) only [F_X11_told, e_cl, e_jn, e_lt, e_cxl, e_cxr, e_rzn, ↓l_m1, ↓l_m2, ↓l_m8, l_0, l_1, l_2, l_3, l_4, l_5, l_6, l_7, l_8, l_9, l_10, l_12, l_16, l_20, l_24, l_31, l_32, l_35, l_36, l_40, l_44, l_48, l_59, l_63, l_64, l_90, l_95, l_96, l_100, l_120, l_127, l_200, l_216, l_255, l_999, l_1000, l_10000, l_1000000, l_1048575, l_1000000000, nI_add, pk_mul, pk_sub, nI_leI, nI_ltI, nI_eq, nI_dec, nI_o0, mx_n, mn_n, ab_1, ab_n, e_u2e, e_u2k, e_u2a, if_pos, if_neg, if_true, if_false, not_true, not_false_eq_true, ne_eq, Nat.add_zero, Nat.zero_add, cG_10 hc, cP_10 hc, cT_10 hc, cR_10_0 hc, cR_10_1 hc, cR_10_2 hc, cR_10_3 hc, cR_10_4 hc, cR_10_5 hc, cR_10_6 hc, cR_10_7 hc, cR_10_8 hc, C_stoneOf hc hA hn hx]
theorem C_told3 (hc : CS u) {nS nL s w : Nat} {sg ix an : Nat → Nat → Nat} (hD : SD nS nL sg ix an) (hA : CAs m u nS sg ix an) (hx : s < nS) (hw : w ≤ 6) : F_X11_told 10 (nI s) (nI w) (pm m j u) = some (.inr (tellV sg s w), pm m j u) := by
  obtain ⟨hO, ⟨h0, h1, h2, h5, h6, h7, h8⟩, hF, -⟩ := hA.2.2 s hx
  have b4 := (hD.2 s hx).2.2.1
  unfold tellV
  rcases (show w = 0 ∨ w = 1 ∨ w = 2 ∨ w = 3 ∨ w = 4 ∨ w = 5 ∨ w = 6 by omega) with rfl | rfl | rfl | rfl | rfl | rfl | rfl
  · simp (disch := omega) only [F_X11_told, F_X8_tell, e_cl, e_jn, e_lt, e_cxl, e_cxr, e_rzn, ↓l_m1, ↓l_m2, ↓l_m8, l_0, l_1, l_2, l_3, l_4, l_5, l_6, l_7, l_8, l_9, l_10, l_12, l_16, l_20, l_24, l_31, l_32, l_35, l_36, l_40, l_44, l_48, l_59, l_63, l_64, l_90, l_95, l_96, l_100, l_120, l_127, l_200, l_216, l_255, l_999, l_1000, l_10000, l_1000000, l_1048575, l_1000000000, nI_add, pk_mul, pk_sub, nI_leI, nI_ltI, nI_eq, nI_dec, nI_o0, mx_n, mn_n, ab_1, ab_n, e_u2e, e_u2k, e_u2a, if_pos, if_neg, if_true, if_false, not_true, not_false_eq_true, ne_eq, Nat.add_zero, Nat.zero_add, cG_10 hc, cP_10 hc, cT_10 hc, cR_10_0 hc, cR_10_1 hc, cR_10_2 hc, cR_10_3 hc, cR_10_4 hc, cR_10_5 hc, cR_10_6 hc, cR_10_7 hc, cR_10_8 hc, sG hO, sP hO, sZ_ hO, sT hO, sR8 hO, sR9 hO, sR12 hO, sA1 hO, sA2 hO, sA3 hO, sS1 hO, sS2 hO, sS3 hO, C_stoneOf hc hA hD.1 hx, h2]
  · simp (disch := omega) only [F_X11_told, F_X8_tell, e_cl, e_jn, e_lt, e_cxl, e_cxr, e_rzn, ↓l_m1, ↓l_m2, ↓l_m8, l_0, l_1, l_2, l_3, l_4, l_5, l_6, l_7, l_8, l_9, l_10, l_12, l_16, l_20, l_24, l_31, l_32, l_35, l_36, l_40, l_44, l_48, l_59, l_63, l_64, l_90, l_95, l_96, l_100, l_120, l_127, l_200, l_216, l_255, l_999, l_1000, l_10000, l_1000000, l_1048575, l_1000000000, nI_add, pk_mul, pk_sub, nI_leI, nI_ltI, nI_eq, nI_dec, nI_o0, mx_n, mn_n, ab_1, ab_n, e_u2e, e_u2k, e_u2a, if_pos, if_neg, if_true, if_false, not_true, not_false_eq_true, ne_eq, Nat.add_zero, Nat.zero_add, cG_10 hc, cP_10 hc, cT_10 hc, cR_10_0 hc, cR_10_1 hc, cR_10_2 hc, cR_10_3 hc, cR_10_4 hc, cR_10_5 hc, cR_10_6 hc, cR_10_7 hc, cR_10_8 hc, sG hO, sP hO, sZ_ hO, sT hO, sR8 hO, sR9 hO, sR12 hO, sA1 hO, sA2 hO, sA3 hO, sS1 hO, sS2 hO, sS3 hO, C_stoneOf hc hA hD.1 hx, h0]
  · simp (disch := omega) only [F_X11_told, F_X8_tell, e_cl, e_jn, e_lt, e_cxl, e_cxr, e_rzn, ↓l_m1, ↓l_m2, ↓l_m8, l_0, l_1, l_2, l_3, l_4, l_5, l_6, l_7, l_8, l_9, l_10, l_12, l_16, l_20, l_24, l_31, l_32, l_35, l_36, l_40, l_44, l_48, l_59, l_63, l_64, l_90, l_95, l_96, l_100, l_120, l_127, l_200, l_216, l_255, l_999, l_1000, l_10000, l_1000000, l_1048575, l_1000000000, nI_add, pk_mul, pk_sub, nI_leI, nI_ltI, nI_eq, nI_dec, nI_o0, mx_n, mn_n, ab_1, ab_n, e_u2e, e_u2k, e_u2a, if_pos, if_neg, if_true, if_false, not_true, not_false_eq_true, ne_eq, Nat.add_zero, Nat.zero_add, cG_10 hc, cP_10 hc, cT_10 hc, cR_10_0 hc, cR_10_1 hc, cR_10_2 hc, cR_10_3 hc, cR_10_4 hc, cR_10_5 hc, cR_10_6 hc, cR_10_7 hc, cR_10_8 hc, sG hO, sP hO, sZ_ hO, sT hO, sR8 hO, sR9 hO, sR12 hO, sA1 hO, sA2 hO, sA3 hO, sS1 hO, sS2 hO, sS3 hO, C_stoneOf hc hA hD.1 hx, h1]
  · rcases (show sg s 4 = 0 ∨ sg s 4 = 1 by omega) with e | e
    · simp (disch := omega) only [F_X11_told, F_X8_tell, e_cl, e_jn, e_lt, e_cxl, e_cxr, e_rzn, ↓l_m1, ↓l_m2, ↓l_m8, l_0, l_1, l_2, l_3, l_4, l_5, l_6, l_7, l_8, l_9, l_10, l_12, l_16, l_20, l_24, l_31, l_32, l_35, l_36, l_40, l_44, l_48, l_59, l_63, l_64, l_90, l_95, l_96, l_100, l_120, l_127, l_200, l_216, l_255, l_999, l_1000, l_10000, l_1000000, l_1048575, l_1000000000, nI_add, pk_mul, pk_sub, nI_leI, nI_ltI, nI_eq, nI_dec, nI_o0, mx_n, mn_n, ab_1, ab_n, e_u2e, e_u2k, e_u2a, if_pos, if_neg, if_true, if_false, not_true, not_false_eq_true, ne_eq, Nat.add_zero, Nat.zero_add, cG_10 hc, cP_10 hc, cT_10 hc, cR_10_0 hc, cR_10_1 hc, cR_10_2 hc, cR_10_3 hc, cR_10_4 hc, cR_10_5 hc, cR_10_6 hc, cR_10_7 hc, cR_10_8 hc, sG hO, sP hO, sZ_ hO, sT hO, sR8 hO, sR9 hO, sR12 hO, sA1 hO, sA2 hO, sA3 hO, sS1 hO, sS2 hO, sS3 hO, C_stoneOf hc hA hD.1 hx, h5, e]
    · simp (disch := omega) only [F_X11_told, F_X8_tell, e_cl, e_jn, e_lt, e_cxl, e_cxr, e_rzn, ↓l_m1, ↓l_m2, ↓l_m8, l_0, l_1, l_2, l_3, l_4, l_5, l_6, l_7, l_8, l_9, l_10, l_12, l_16, l_20, l_24, l_31, l_32, l_35, l_36, l_40, l_44, l_48, l_59, l_63, l_64, l_90, l_95, l_96, l_100, l_120, l_127, l_200, l_216, l_255, l_999, l_1000, l_10000, l_1000000, l_1048575, l_1000000000, nI_add, pk_mul, pk_sub, nI_leI, nI_ltI, nI_eq, nI_dec, nI_o0, mx_n, mn_n, ab_1, ab_n, e_u2e, e_u2k, e_u2a, if_pos, if_neg, if_true, if_false, not_true, not_false_eq_true, ne_eq, Nat.add_zero, Nat.zero_add, cG_10 hc, cP_10 hc, cT_10 hc, cR_10_0 hc, cR_10_1 hc, cR_10_2 hc, cR_10_3 hc, cR_10_4 hc, cR_10_5 hc, cR_10_6 hc, cR_10_7 hc, cR_10_8 hc, sG hO, sP hO, sZ_ hO, sT hO, sR8 hO, sR9 hO, sR12 hO, sA1 hO, sA2 hO, sA3 hO, sS1 hO, sS2 hO, sS3 hO, C_stoneOf hc hA hD.1 hx, h5, e]
  · simp (disch := omega) only [F_X11_told, F_X8_tell, e_cl, e_jn, e_lt, e_cxl, e_cxr, e_rzn, ↓l_m1, ↓l_m2, ↓l_m8, l_0, l_1, l_2, l_3, l_4, l_5, l_6, l_7, l_8, l_9, l_10, l_12, l_16, l_20, l_24, l_31, l_32, l_35, l_36, l_40, l_44, l_48, l_59, l_63, l_64, l_90, l_95, l_96, l_100, l_120, l_127, l_200, l_216, l_255, l_999, l_1000, l_10000, l_1000000, l_1048575, l_1000000000, nI_add, pk_mul, pk_sub, nI_leI, nI_ltI, nI_eq, nI_dec, nI_o0, mx_n, mn_n, ab_1, ab_n, e_u2e, e_u2k, e_u2a, if_pos, if_neg, if_true, if_false, not_true, not_false_eq_true, ne_eq, Nat.add_zero, Nat.zero_add, cG_10 hc, cP_10 hc, cT_10 hc, cR_10_0 hc, cR_10_1 hc, cR_10_2 hc, cR_10_3 hc, cR_10_4 hc, cR_10_5 hc, cR_10_6 hc, cR_10_7 hc, cR_10_8 hc, sG hO, sP hO, sZ_ hO, sT hO, sR8 hO, sR9 hO, sR12 hO, sA1 hO, sA2 hO, sA3 hO, sS1 hO, sS2 hO, sS3 hO, C_stoneOf hc hA hD.1 hx, h6]
  · simp (disch := omega) only [F_X11_told, F_X8_tell, e_cl, e_jn, e_lt, e_cxl, e_cxr, e_rzn, ↓l_m1, ↓l_m2, ↓l_m8, l_0, l_1, l_2, l_3, l_4, l_5, l_6, l_7, l_8, l_9, l_10, l_12, l_16, l_20, l_24, l_31, l_32, l_35, l_36, l_40, l_44, l_48, l_59, l_63, l_64, l_90, l_95, l_96, l_100, l_120, l_127, l_200, l_216, l_255, l_999, l_1000, l_10000, l_1000000, l_1048575, l_1000000000, nI_add, pk_mul, pk_sub, nI_leI, nI_ltI, nI_eq, nI_dec, nI_o0, mx_n, mn_n, ab_1, ab_n, e_u2e, e_u2k, e_u2a, if_pos, if_neg, if_true, if_false, not_true, not_false_eq_true, ne_eq, Nat.add_zero, Nat.zero_add, cG_10 hc, cP_10 hc, cT_10 hc, cR_10_0 hc, cR_10_1 hc, cR_10_2 hc, cR_10_3 hc, cR_10_4 hc, cR_10_5 hc, cR_10_6 hc, cR_10_7 hc, cR_10_8 hc, sG hO, sP hO, sZ_ hO, sT hO, sR8 hO, sR9 hO, sR12 hO, sA1 hO, sA2 hO, sA3 hO, sS1 hO, sS2 hO, sS3 hO, C_stoneOf hc hA hD.1 hx, h7]
  · simp (disch := omega) only [F_X11_told, F_X8_tell, e_cl, e_jn, e_lt, e_cxl, e_cxr, e_rzn, ↓l_m1, ↓l_m2, ↓l_m8, l_0, l_1, l_2, l_3, l_4, l_5, l_6, l_7, l_8, l_9, l_10, l_12, l_16, l_20, l_24, l_31, l_32, l_35, l_36, l_40, l_44, l_48, l_59, l_63, l_64, l_90, l_95, l_96, l_100, l_120, l_127, l_200, l_216, l_255, l_999, l_1000, l_10000, l_1000000, l_1048575, l_1000000000, nI_add, pk_mul, pk_sub, nI_leI, nI_ltI, nI_eq, nI_dec, nI_o0, mx_n, mn_n, ab_1, ab_n, e_u2e, e_u2k, e_u2a, if_pos, if_neg, if_true, if_false, not_true, not_false_eq_true, ne_eq, Nat.add_zero, Nat.zero_add, cG_10 hc, cP_10 hc, cT_10 hc, cR_10_0 hc, cR_10_1 hc, cR_10_2 hc, cR_10_3 hc, cR_10_4 hc, cR_10_5 hc, cR_10_6 hc, cR_10_7 hc, cR_10_8 hc, sG hO, sP hO, sZ_ hO, sT hO, sR8 hO, sR9 hO, sR12 hO, sA1 hO, sA2 hO, sA3 hO, sS1 hO, sS2 hO, sS3 hO, C_stoneOf hc hA hD.1 hx, h8]
theorem C_round1 (hc : CS u) {nS : Nat} {x : Int32} {sg ix an : Nat → Nat → Nat} (hA : CAs m u nS sg ix an) (hn : nS ≤ 40) (hx : ¬ ∃ s, s < nS ∧ x = nI s) : F_X11_round 10 x (pm m j u) = some (.inl 4, pm m j u) := by
  simp only [F_X11_round, F_X11_plannedStone, cT_10 hc, C_stoneNo hc hA hn hx, e_cxl]
theorem C_plan1 (hc : CS u) {nS : Nat} {x y : Int32} {sg ix an : Nat → Nat → Nat} (hA : CAs m u nS sg ix an) (hn : nS ≤ 40) (hx : ¬ ∃ s, s < nS ∧ x = nI s) : F_X11_plan 10 x y (pm m j u) = some (.inl 4, pm m j u) := by
  simp only [F_X11_plan, F_X11_plannedStone, cT_10 hc, C_stoneNo hc hA hn hx, e_cxl]
theorem C_polish1 (hc : CS u) {nS : Nat} {x : Int32} {sg ix an : Nat → Nat → Nat} (hA : CAs m u nS sg ix an) (hn : nS ≤ 40) (hx : ¬ ∃ s, s < nS ∧ x = nI s) : F_X11_polish 10 x (pm m j u) = some (.inl 4, pm m j u) := by
  simp only [F_X11_polish, F_X11_plannedStone, cT_10 hc, C_stoneNo hc hA hn hx, e_cxl]
/-- prices of the class -/
def CAp (m : IM) (ps : Nat) (pf pp : Nat → Nat) : Prop := m 60 2 = nI ps ∧ ∀ i, i < ps → m 61 i = nI (pf i) ∧ m 62 i = nI (pp i)
theorem CAp_fr {m' : IM} {ps : Nat} {pf pp : Nat → Nat} (h : CAp m ps pf pp) (h0 : m' 60 2 = m 60 2) (h1 : m' 61 = m 61) (h2 : m' 62 = m 62) : CAp m' ps pf pp := by
  unfold CAp; rw [h0, h1, h2]; exact h
theorem C_worthL (hc : CS u) {ps w : Nat} {pf pp : Nat → Nat} (hD : PD ps pf pp) (hA : CAp m ps pf pp) (hw : w < 2 ^ 31) (K : Int32 → PM → Option (Int32 × PM)) : ∀ (d n fu : Nat), n + d = ps → d < fu →
    F_X5_worthOf_L7 60 (nI w) K fu (nI (if bk pf w n = 0 then 0 else pf (bk pf w n - 1))) (nI (if bk pf w n = 0 then 0 else pp (bk pf w n - 1))) (nI n) (pm m j u) = K (nI (if bk pf w ps = 0 then 0 else pp (bk pf w ps - 1))) (pm m j u) := by
  obtain ⟨d1, d2, d3⟩ := hD
  intro d
  induction d with
  | zero =>
    intro n fu hn hfu
    obtain ⟨fu, rfl⟩ : ∃ g, fu = g + 1 := ⟨fu - 1, by omega⟩
    have e : n = ps := by omega
    subst e
    rw [F_X5_worthOf_L7, cG_60 hc, hA.1, if_pos (nI_le (Nat.le_refl _) (by omega))]
  | succ d ih =>
    intro n fu hn hfu
    obtain ⟨fu, rfl⟩ : ∃ g, fu = g + 1 := ⟨fu - 1, by omega⟩
    have hi := ih (n + 1) fu (by omega) (by omega)
    have hlt : n < ps := by omega
    obtain ⟨v1, v2⟩ := hA.2 n hlt
    obtain ⟨q1, q2, q3⟩ := d2 n hlt
    have hb := bk_le pf w n
    have hS : (if bk pf w n = 0 then 0 else pf (bk pf w n - 1)) ≤ 216 := by
      split
      · omega
      · exact (d2 _ (by omega)).2.1
    have hs2 : pf n ≤ w ∧ (bk pf w n = 0 ∨ pf (bk pf w n - 1) < pf n) ↔ pf n ≤ w ∧ (if bk pf w n = 0 then 0 else pf (bk pf w n - 1)) < pf n := by
      split <;> omega
    obtain ⟨S, eS⟩ : ∃ S, S = (if bk pf w n = 0 then 0 else pf (bk pf w n - 1)) := ⟨_, rfl⟩
    obtain ⟨P, eP⟩ : ∃ P, P = (if bk pf w n = 0 then 0 else pp (bk pf w n - 1)) := ⟨_, rfl⟩
    rw [← eS] at hS hs2 ⊢
    rw [← eP]
    rw [F_X5_worthOf_L7]
    by_cases c : pf n ≤ w ∧ (bk pf w n = 0 ∨ pf (bk pf w n - 1) < pf n)
    · have e : bk pf w (n + 1) = n + 1 := by rw [bk, if_pos c]
      have c' := hs2.mp c
      rw [e, if_neg (by omega), if_neg (by omega), Nat.add_sub_cancel] at hi
      simp (disch := omega) only [e_cl, e_jn, e_lt, e_cxl, e_cxr, e_rzn, ↓l_m1, ↓l_m2, ↓l_m8, l_0, l_1, l_2, l_3, l_4, l_5, l_6, l_7, l_8, l_9, l_10, l_12, l_16, l_20, l_24, l_31, l_32, l_35, l_36, l_40, l_44, l_48, l_59, l_63, l_64, l_90, l_95, l_96, l_100, l_120, l_127, l_200, l_216, l_255, l_999, l_1000, l_10000, l_1000000, l_1048575, l_1000000000, nI_add, pk_mul, pk_sub, nI_leI, nI_ltI, nI_eq, nI_dec, nI_o0, mx_n, mn_n, ab_1, ab_n, e_u2e, e_u2k, e_u2a, if_pos, if_neg, if_true, if_false, not_true, not_false_eq_true, ne_eq, Nat.add_zero, Nat.zero_add, cG_60 hc, cP_60 hc, cT_60 hc, cR_60_0 hc, cA_61 hc, cS_61 hc, cR_60_1 hc, cA_62 hc, cS_62 hc, hA.1, v1, v2] at hi ⊢
      exact hi
    · have e : bk pf w (n + 1) = bk pf w n := by rw [bk, if_neg c]
      rw [e, ← eS, ← eP] at hi
      have c' : ¬ (pf n ≤ w ∧ S < pf n) := fun z => c (hs2.mpr z)
      by_cases c1 : w < pf n
      · simp (disch := omega) only [e_cl, e_jn, e_lt, e_cxl, e_cxr, e_rzn, ↓l_m1, ↓l_m2, ↓l_m8, l_0, l_1, l_2, l_3, l_4, l_5, l_6, l_7, l_8, l_9, l_10, l_12, l_16, l_20, l_24, l_31, l_32, l_35, l_36, l_40, l_44, l_48, l_59, l_63, l_64, l_90, l_95, l_96, l_100, l_120, l_127, l_200, l_216, l_255, l_999, l_1000, l_10000, l_1000000, l_1048575, l_1000000000, nI_add, pk_mul, pk_sub, nI_leI, nI_ltI, nI_eq, nI_dec, nI_o0, mx_n, mn_n, ab_1, ab_n, e_u2e, e_u2k, e_u2a, if_pos, if_neg, if_true, if_false, not_true, not_false_eq_true, ne_eq, Nat.add_zero, Nat.zero_add, cG_60 hc, cP_60 hc, cT_60 hc, cR_60_0 hc, cA_61 hc, cS_61 hc, cR_60_1 hc, cA_62 hc, cS_62 hc, hA.1, v1, v2] at hi ⊢
        exact hi
      · have : pf n ≤ S := by omega
        simp (disch := omega) only [e_cl, e_jn, e_lt, e_cxl, e_cxr, e_rzn, ↓l_m1, ↓l_m2, ↓l_m8, l_0, l_1, l_2, l_3, l_4, l_5, l_6, l_7, l_8, l_9, l_10, l_12, l_16, l_20, l_24, l_31, l_32, l_35, l_36, l_40, l_44, l_48, l_59, l_63, l_64, l_90, l_95, l_96, l_100, l_120, l_127, l_200, l_216, l_255, l_999, l_1000, l_10000, l_1000000, l_1048575, l_1000000000, nI_add, pk_mul, pk_sub, nI_leI, nI_ltI, nI_eq, nI_dec, nI_o0, mx_n, mn_n, ab_1, ab_n, e_u2e, e_u2k, e_u2a, if_pos, if_neg, if_true, if_false, not_true, not_false_eq_true, ne_eq, Nat.add_zero, Nat.zero_add, cG_60 hc, cP_60 hc, cT_60 hc, cR_60_0 hc, cA_61 hc, cS_61 hc, cR_60_1 hc, cA_62 hc, cS_62 hc, hA.1, v1, v2] at hi ⊢
        exact hi
theorem C_worthOf (hc : CS u) {ps w : Nat} {pf pp : Nat → Nat} (hD : PD ps pf pp) (hA : CAp m ps pf pp) (hw : w < 2 ^ 31) : F_X5_worthOf 60 (nI w) (pm m j u) = some (nI (wOf ps pf pp w), pm m j u) := by
  have hps := hD.1
  have h := fun K => C_worthL (j := j) hc hD hA hw K ps 0 LF (by omega) (by unfold LF; omega)
  simp only [show bk pf w 0 = 0 from rfl, if_true] at h
  unfold wOf
  by_cases c : bk pf w ps = 0
  · rw [if_pos c]
    simp only [if_pos c] at h
    simp (disch := omega) only [F_X5_worthOf, e_cl, e_jn, e_lt, e_cxl, e_cxr, e_rzn, ↓l_m1, ↓l_m2, ↓l_m8, l_0, l_1, l_2, l_3, l_4, l_5, l_6, l_7, l_8, l_9, l_10, l_12, l_16, l_20, l_24, l_31, l_32, l_35, l_36, l_40, l_44, l_48, l_59, l_63, l_64, l_90, l_95, l_96, l_100, l_120, l_127, l_200, l_216, l_255, l_999, l_1000, l_10000, l_1000000, l_1048575, l_1000000000, nI_add, pk_mul, pk_sub, nI_leI, nI_ltI, nI_eq, nI_dec, nI_o0, mx_n, mn_n, ab_1, ab_n, e_u2e, e_u2k, e_u2a, if_pos, if_neg, if_true, if_false, not_true, not_false_eq_true, ne_eq, Nat.add_zero, Nat.zero_add, h, Nat.mul_zero]
  · rw [if_neg c]
    simp only [if_neg c] at h
    simp (disch := omega) only [F_X5_worthOf, e_cl, e_jn, e_lt, e_cxl, e_cxr, e_rzn, ↓l_m1, ↓l_m2, ↓l_m8, l_0, l_1, l_2, l_3, l_4, l_5, l_6, l_7, l_8, l_9, l_10, l_12, l_16, l_20, l_24, l_31, l_32, l_35, l_36, l_40, l_44, l_48, l_59, l_63, l_64, l_90, l_95, l_96, l_100, l_120, l_127, l_200, l_216, l_255, l_999, l_1000, l_10000, l_1000000, l_1048575, l_1000000000, nI_add, pk_mul, pk_sub, nI_leI, nI_ltI, nI_eq, nI_dec, nI_o0, mx_n, mn_n, ab_1, ab_n, e_u2e, e_u2k, e_u2a, if_pos, if_neg, if_true, if_false, not_true, not_false_eq_true, ne_eq, Nat.add_zero, Nat.zero_add, h]
theorem C_worth1 (hc : CS u) {x : Int32} (hx : ¬ ∃ w, w < 217 ∧ x = nI w) : F_X11_worth 10 x (pm m j u) = some (.inl 2, pm m j u) := by
  rcases nI_ncase (n := 217) (by omega) hx with c | ⟨l, h1, h2, rfl⟩
  · simp only [F_X11_worth, e_jn, if_pos c]
  · simp (disch := omega) only [F_X11_worth, e_cl, e_jn, e_lt, e_cxl, e_cxr, e_rzn, ↓l_m1, ↓l_m2, ↓l_m8, l_0, l_1, l_2, l_3, l_4, l_5, l_6, l_7, l_8, l_9, l_10, l_12, l_16, l_20, l_24, l_31, l_32, l_35, l_36, l_40, l_44, l_48, l_59, l_63, l_64, l_90, l_95, l_96, l_100, l_120, l_127, l_200, l_216, l_255, l_999, l_1000, l_10000, l_1000000, l_1048575, l_1000000000, nI_add, pk_mul, pk_sub, nI_leI, nI_ltI, nI_eq, nI_dec, nI_o0, mx_n, mn_n, ab_1, ab_n, e_u2e, e_u2k, e_u2a, if_pos, if_neg, if_true, if_false, not_true, not_false_eq_true, ne_eq, Nat.add_zero, Nat.zero_add, cG_10 hc, cP_10 hc, cT_10 hc, cR_10_0 hc, cR_10_1 hc, cR_10_2 hc, cR_10_3 hc, cR_10_4 hc, cR_10_5 hc, cR_10_6 hc, cR_10_7 hc, cR_10_8 hc]
theorem C_worth2 (hc : CS u) {ps w : Nat} {pf pp : Nat → Nat} (hD : PD ps pf pp) (hA : CAp m ps pf pp) (hw : w ≤ 216) : F_X11_worth 10 (nI w) (pm m j u) = some (.inr (nI (wOf ps pf pp w)), pm m j u) := by
  simp (disch := omega) only [F_X11_worth, e_cl, e_jn, e_lt, e_cxl, e_cxr, e_rzn, ↓l_m1, ↓l_m2, ↓l_m8, l_0, l_1, l_2, l_3, l_4, l_5, l_6, l_7, l_8, l_9, l_10, l_12, l_16, l_20, l_24, l_31, l_32, l_35, l_36, l_40, l_44, l_48, l_59, l_63, l_64, l_90, l_95, l_96, l_100, l_120, l_127, l_200, l_216, l_255, l_999, l_1000, l_10000, l_1000000, l_1048575, l_1000000000, nI_add, pk_mul, pk_sub, nI_leI, nI_ltI, nI_eq, nI_dec, nI_o0, mx_n, mn_n, ab_1, ab_n, e_u2e, e_u2k, e_u2a, if_pos, if_neg, if_true, if_false, not_true, not_false_eq_true, ne_eq, Nat.add_zero, Nat.zero_add, cG_10 hc, cP_10 hc, cT_10 hc, cR_10_0 hc, cR_10_1 hc, cR_10_2 hc, cR_10_3 hc, cR_10_4 hc, cR_10_5 hc, cR_10_6 hc, cR_10_7 hc, cR_10_8 hc, cG_60 hc, cP_60 hc, cT_60 hc, cR_60_0 hc, cA_61 hc, cS_61 hc, cR_60_1 hc, cA_62 hc, cS_62 hc, C_worthOf hc hD hA (show w < 2 ^ 31 by omega)]
theorem C_putL (hc : CS u) {ps w : Nat} {pf pp : Nat → Nat} {c2 : Int32} (hD : PD ps pf pp) (hA : CAp m ps pf pp) (hw : w < 2 ^ 31) (K1 : PM → Option (Int32 × PM)) (K2 : Int32 → PM → Option (Int32 × PM)) : ∀ (d n fu : Nat), n + d = stepAt pf ps w → d < fu →
    F_X5_put_L2 60 (nI w) c2 K1 K2 fu (nI n) (pm m j u) = if stepAt pf ps w < ps then K2 (nI (stepAt pf ps w)) (pm m j u) else K1 (pm m j u) := by
  have hps := hD.1
  have hle := stepAt_le pf ps w
  have hno : ∀ i, i < stepAt pf ps w → pf i ≠ w := fun i hi => stepAt_no hi
  have hyes : stepAt pf ps w < ps → pf (stepAt pf ps w) = w := fun h => stepAt_yes h
  generalize stepAt pf ps w = q at *
  intro d
  induction d with
  | zero =>
    intro n fu hn hfu
    obtain ⟨fu, rfl⟩ : ∃ g, fu = g + 1 := ⟨fu - 1, by omega⟩
    have e : n = q := by omega
    subst e
    rw [F_X5_put_L2]
    by_cases c : n < ps
    · have hv := (hA.2 n c).1
      have hy := hyes c
      simp (disch := omega) only [e_cl, e_jn, e_lt, e_cxl, e_cxr, e_rzn, ↓l_m1, ↓l_m2, ↓l_m8, l_0, l_1, l_2, l_3, l_4, l_5, l_6, l_7, l_8, l_9, l_10, l_12, l_16, l_20, l_24, l_31, l_32, l_35, l_36, l_40, l_44, l_48, l_59, l_63, l_64, l_90, l_95, l_96, l_100, l_120, l_127, l_200, l_216, l_255, l_999, l_1000, l_10000, l_1000000, l_1048575, l_1000000000, nI_add, pk_mul, pk_sub, nI_leI, nI_ltI, nI_eq, nI_dec, nI_o0, mx_n, mn_n, ab_1, ab_n, e_u2e, e_u2k, e_u2a, if_pos, if_neg, if_true, if_false, not_true, not_false_eq_true, ne_eq, Nat.add_zero, Nat.zero_add, cG_60 hc, cP_60 hc, cT_60 hc, cR_60_0 hc, cA_61 hc, cS_61 hc, cR_60_1 hc, cA_62 hc, cS_62 hc, hA.1, hv, hy]
    · simp (disch := omega) only [e_cl, e_jn, e_lt, e_cxl, e_cxr, e_rzn, ↓l_m1, ↓l_m2, ↓l_m8, l_0, l_1, l_2, l_3, l_4, l_5, l_6, l_7, l_8, l_9, l_10, l_12, l_16, l_20, l_24, l_31, l_32, l_35, l_36, l_40, l_44, l_48, l_59, l_63, l_64, l_90, l_95, l_96, l_100, l_120, l_127, l_200, l_216, l_255, l_999, l_1000, l_10000, l_1000000, l_1048575, l_1000000000, nI_add, pk_mul, pk_sub, nI_leI, nI_ltI, nI_eq, nI_dec, nI_o0, mx_n, mn_n, ab_1, ab_n, e_u2e, e_u2k, e_u2a, if_pos, if_neg, if_true, if_false, not_true, not_false_eq_true, ne_eq, Nat.add_zero, Nat.zero_add, cG_60 hc, cP_60 hc, cT_60 hc, cR_60_0 hc, cA_61 hc, cS_61 hc, cR_60_1 hc, cA_62 hc, cS_62 hc, hA.1]
  | succ d ih =>
    intro n fu hn hfu
    obtain ⟨fu, rfl⟩ : ∃ g, fu = g + 1 := ⟨fu - 1, by omega⟩
    have hi := ih (n + 1) fu (by omega) (by omega)
    have hv := (hA.2 n (by omega)).1
    have hy := hno n (by omega)
    have hb := (hD.2.1 n (by omega)).2.1
    rw [F_X5_put_L2]
    simp (disch := omega) only [e_cl, e_jn, e_lt, e_cxl, e_cxr, e_rzn, ↓l_m1, ↓l_m2, ↓l_m8, l_0, l_1, l_2, l_3, l_4, l_5, l_6, l_7, l_8, l_9, l_10, l_12, l_16, l_20, l_24, l_31, l_32, l_35, l_36, l_40, l_44, l_48, l_59, l_63, l_64, l_90, l_95, l_96, l_100, l_120, l_127, l_200, l_216, l_255, l_999, l_1000, l_10000, l_1000000, l_1048575, l_1000000000, nI_add, pk_mul, pk_sub, nI_leI, nI_ltI, nI_eq, nI_dec, nI_o0, mx_n, mn_n, ab_1, ab_n, e_u2e, e_u2k, e_u2a, if_pos, if_neg, if_true, if_false, not_true, not_false_eq_true, ne_eq, Nat.add_zero, Nat.zero_add, cG_60 hc, cP_60 hc, cT_60 hc, cR_60_0 hc, cA_61 hc, cS_61 hc, cR_60_1 hc, cA_62 hc, cS_62 hc, hA.1, hv] at hi ⊢
    exact hi
theorem C_put (hc : CS u) {ps w q : Nat} {pf pp : Nat → Nat} (hD : PD ps pf pp) (hA : CAp m ps pf pp) (hw : w < 2 ^ 31) : ∃ m', F_X5_put 60 (nI w) (nI q) (pm m j u) = some (if stepAt pf ps w = 10 then nI 0 else nI 1, pm m' j u) ∧ (∀ b, b ≠ 60 → b ≠ 61 → b ≠ 62 → m' b = m b) ∧
    (if stepAt pf ps w = 10 then m' = m else CAp m' (if stepAt pf ps w = ps then ps + 1 else ps) (upd1 pf (stepAt pf ps w) w) (upd1 pp (stepAt pf ps w) q)) := by
  have hps := hD.1
  have hle := stepAt_le pf ps w
  have h := fun K1 K2 => C_putL (j := j) (c2 := nI q) hc hD hA hw K1 K2 (stepAt pf ps w) 0 LF (by omega) (by unfold LF; omega)
  have hyes : stepAt pf ps w < ps → pf (stepAt pf ps w) = w := fun h => stepAt_yes h
  generalize stepAt pf ps w = k0 at *
  by_cases c : k0 < ps
  · simp only [if_pos c] at h
    simp only [if_neg (show ¬ k0 = 10 by omega), if_neg (show ¬ k0 = ps by omega)]
    refine ⟨u2 m 62 k0 (nI q), ?_, fun b _ _ h => e_u2r h, ?_⟩
    · simp (disch := omega) only [F_X5_put, e_cl, e_jn, e_lt, e_cxl, e_cxr, e_rzn, ↓l_m1, ↓l_m2, ↓l_m8, l_0, l_1, l_2, l_3, l_4, l_5, l_6, l_7, l_8, l_9, l_10, l_12, l_16, l_20, l_24, l_31, l_32, l_35, l_36, l_40, l_44, l_48, l_59, l_63, l_64, l_90, l_95, l_96, l_100, l_120, l_127, l_200, l_216, l_255, l_999, l_1000, l_10000, l_1000000, l_1048575, l_1000000000, nI_add, pk_mul, pk_sub, nI_leI, nI_ltI, nI_eq, nI_dec, nI_o0, mx_n, mn_n, ab_1, ab_n, e_u2e, e_u2k, e_u2a, if_pos, if_neg, if_true, if_false, not_true, not_false_eq_true, ne_eq, Nat.add_zero, Nat.zero_add, cG_60 hc, cP_60 hc, cT_60 hc, cR_60_0 hc, cA_61 hc, cS_61 hc, cR_60_1 hc, cA_62 hc, cS_62 hc, h]
    · refine ⟨by rw [e_u2a (by decide)]; exact hA.1, fun i hi => ?_⟩
      rw [e_u2a (by decide)]
      by_cases e : i = k0
      · rw [e, upd1_s, upd1_s, e_u2s, (hA.2 k0 c).1, hyes c]; exact ⟨rfl, rfl⟩
      · rw [upd1_n e, upd1_n e, e_u2k e]; exact hA.2 i hi
  · have e : k0 = ps := by omega
    subst e
    simp only [if_neg c] at h
    by_cases c2 : k0 = 10
    · refine ⟨m, ?_, fun _ _ _ _ => rfl, by rw [if_pos c2]⟩
      simp (disch := omega) only [F_X5_put, e_cl, e_jn, e_lt, e_cxl, e_cxr, e_rzn, ↓l_m1, ↓l_m2, ↓l_m8, l_0, l_1, l_2, l_3, l_4, l_5, l_6, l_7, l_8, l_9, l_10, l_12, l_16, l_20, l_24, l_31, l_32, l_35, l_36, l_40, l_44, l_48, l_59, l_63, l_64, l_90, l_95, l_96, l_100, l_120, l_127, l_200, l_216, l_255, l_999, l_1000, l_10000, l_1000000, l_1048575, l_1000000000, nI_add, pk_mul, pk_sub, nI_leI, nI_ltI, nI_eq, nI_dec, nI_o0, mx_n, mn_n, ab_1, ab_n, e_u2e, e_u2k, e_u2a, if_pos, if_neg, if_true, if_false, not_true, not_false_eq_true, ne_eq, Nat.add_zero, Nat.zero_add, cG_60 hc, cP_60 hc, cT_60 hc, cR_60_0 hc, cA_61 hc, cS_61 hc, cR_60_1 hc, cA_62 hc, cS_62 hc, h, hA.1]
    · simp only [if_neg c2, if_true]
      refine ⟨u2 (u2 (u2 m 61 k0 (nI w)) 62 k0 (nI q)) 60 2 (nI (k0 + 1)), ?_, fun b h1 h2 h3 => by rw [e_u2r h1, e_u2r h3, e_u2r h2], ?_⟩
      · simp (disch := omega) only [F_X5_put, e_cl, e_jn, e_lt, e_cxl, e_cxr, e_rzn, ↓l_m1, ↓l_m2, ↓l_m8, l_0, l_1, l_2, l_3, l_4, l_5, l_6, l_7, l_8, l_9, l_10, l_12, l_16, l_20, l_24, l_31, l_32, l_35, l_36, l_40, l_44, l_48, l_59, l_63, l_64, l_90, l_95, l_96, l_100, l_120, l_127, l_200, l_216, l_255, l_999, l_1000, l_10000, l_1000000, l_1048575, l_1000000000, nI_add, pk_mul, pk_sub, nI_leI, nI_ltI, nI_eq, nI_dec, nI_o0, mx_n, mn_n, ab_1, ab_n, e_u2e, e_u2k, e_u2a, if_pos, if_neg, if_true, if_false, not_true, not_false_eq_true, ne_eq, Nat.add_zero, Nat.zero_add, cG_60 hc, cP_60 hc, cT_60 hc, cR_60_0 hc, cA_61 hc, cS_61 hc, cR_60_1 hc, cA_62 hc, cS_62 hc, h, hA.1]
      · refine ⟨e_u2s, fun i hi => ?_⟩
        by_cases e : i = k0
        · rw [e, upd1_s, upd1_s]
          simp (disch := omega) only [e_u2a, e_u2s]
          exact ⟨trivial, trivial⟩
        · rw [upd1_n e, upd1_n e]
          simp (disch := omega) only [e_u2a, e_u2k]
          exact hA.2 i (by omega)
theorem lt_1 {x : Int32} (h : x < 0) : x < 1 := by
  rw [fa_lt] at h ⊢
  have : ((0 : Int32)).toInt = 0 := rfl
  have : ((1 : Int32)).toInt = 1 := rfl
  omega
theorem C_price1 (hc : CS u) {x y : Int32} (hx : ¬ ((∃ w, 1 ≤ w ∧ w ≤ 216 ∧ x = nI w) ∧ ∃ q, q < 10001 ∧ y = nI q)) : F_X11_price 10 x y (pm m j u) = some (.inl 2, pm m j u) := by
  by_cases c0 : x < 0
  · simp only [F_X11_price, e_jn, if_pos (lt_1 c0)]
  · obtain ⟨w, hw, rfl⟩ := nI_of c0
    by_cases c : 1 ≤ w ∧ w ≤ 216
    · have hy : ¬ ∃ q, q < 10001 ∧ y = nI q := fun z => hx ⟨⟨w, c.1, c.2, rfl⟩, z⟩
      rcases nI_ncase (n := 10001) (by omega) hy with c' | ⟨l, h1, h2, rfl⟩
      · simp (disch := omega) only [F_X11_price, e_jn, if_neg (show ¬ nI w < 1 from nI_nlt (b := 1) c.1 (by omega)), if_neg (show ¬ (216 : Int32) < nI w from nI_nlt (a := 216) c.2 (by decide)), if_pos c']
      · simp (disch := omega) only [F_X11_price, e_cl, e_jn, e_lt, e_cxl, e_cxr, e_rzn, ↓l_m1, ↓l_m2, ↓l_m8, l_0, l_1, l_2, l_3, l_4, l_5, l_6, l_7, l_8, l_9, l_10, l_12, l_16, l_20, l_24, l_31, l_32, l_35, l_36, l_40, l_44, l_48, l_59, l_63, l_64, l_90, l_95, l_96, l_100, l_120, l_127, l_200, l_216, l_255, l_999, l_1000, l_10000, l_1000000, l_1048575, l_1000000000, nI_add, pk_mul, pk_sub, nI_leI, nI_ltI, nI_eq, nI_dec, nI_o0, mx_n, mn_n, ab_1, ab_n, e_u2e, e_u2k, e_u2a, if_pos, if_neg, if_true, if_false, not_true, not_false_eq_true, ne_eq, Nat.add_zero, Nat.zero_add, cG_10 hc, cP_10 hc, cT_10 hc, cR_10_0 hc, cR_10_1 hc, cR_10_2 hc, cR_10_3 hc, cR_10_4 hc, cR_10_5 hc, cR_10_6 hc, cR_10_7 hc, cR_10_8 hc]
    · by_cases c1 : w < 1
      · simp (disch := omega) only [F_X11_price, e_cl, e_jn, e_lt, e_cxl, e_cxr, e_rzn, ↓l_m1, ↓l_m2, ↓l_m8, l_0, l_1, l_2, l_3, l_4, l_5, l_6, l_7, l_8, l_9, l_10, l_12, l_16, l_20, l_24, l_31, l_32, l_35, l_36, l_40, l_44, l_48, l_59, l_63, l_64, l_90, l_95, l_96, l_100, l_120, l_127, l_200, l_216, l_255, l_999, l_1000, l_10000, l_1000000, l_1048575, l_1000000000, nI_add, pk_mul, pk_sub, nI_leI, nI_ltI, nI_eq, nI_dec, nI_o0, mx_n, mn_n, ab_1, ab_n, e_u2e, e_u2k, e_u2a, if_pos, if_neg, if_true, if_false, not_true, not_false_eq_true, ne_eq, Nat.add_zero, Nat.zero_add, cG_10 hc, cP_10 hc, cT_10 hc, cR_10_0 hc, cR_10_1 hc, cR_10_2 hc, cR_10_3 hc, cR_10_4 hc, cR_10_5 hc, cR_10_6 hc, cR_10_7 hc, cR_10_8 hc]
      · simp (disch := omega) only [F_X11_price, e_cl, e_jn, e_lt, e_cxl, e_cxr, e_rzn, ↓l_m1, ↓l_m2, ↓l_m8, l_0, l_1, l_2, l_3, l_4, l_5, l_6, l_7, l_8, l_9, l_10, l_12, l_16, l_20, l_24, l_31, l_32, l_35, l_36, l_40, l_44, l_48, l_59, l_63, l_64, l_90, l_95, l_96, l_100, l_120, l_127, l_200, l_216, l_255, l_999, l_1000, l_10000, l_1000000, l_1048575, l_1000000000, nI_add, pk_mul, pk_sub, nI_leI, nI_ltI, nI_eq, nI_dec, nI_o0, mx_n, mn_n, ab_1, ab_n, e_u2e, e_u2k, e_u2a, if_pos, if_neg, if_true, if_false, not_true, not_false_eq_true, ne_eq, Nat.add_zero, Nat.zero_add, cG_10 hc, cP_10 hc, cT_10 hc, cR_10_0 hc, cR_10_1 hc, cR_10_2 hc, cR_10_3 hc, cR_10_4 hc, cR_10_5 hc, cR_10_6 hc, cR_10_7 hc, cR_10_8 hc]
theorem C_price2 (hc : CS u) {ps w q nR : Nat} {pf pp : Nat → Nat} {sd : Nat → Bool} {bb : Nat → BST} (hD : PD ps pf pp) (hA : CAp m ps pf pp) (hR : CAr m j u nR sd bb) (hn : nR ≤ 10) (h1 : 1 ≤ w) (h2 : w ≤ 216) (h3 : q ≤ 10000) : ∃ m', F_X11_price 10 (nI w) (nI q) (pm m j u) = some (.inr (if stepAt pf ps w = 10 then -1 else nI (if stepAt pf ps w = ps then ps + 1 else ps)), pm m' j u) ∧ (∀ b, (b < 60 ∨ 62 < b ∧ b < 2000 ∨ 3000 ≤ b) → m' b = m b) ∧
    (if stepAt pf ps w = 10 then m' = m else CAp m' (if stepAt pf ps w = ps then ps + 1 else ps) (upd1 pf (stepAt pf ps w) w) (upd1 pp (stepAt pf ps w) q) ∧ ∀ bb', CAr m' j u nR sd bb') := by
  have hps := hD.1
  obtain ⟨m1, a1, a2, a3⟩ := C_put (j := j) (q := q) hc hD hA (show w < 2 ^ 31 by omega)
  by_cases c : stepAt pf ps w = 10
  · simp only [if_pos c] at a1 a3 ⊢
    subst a3
    refine ⟨m1, ?_, fun _ _ => rfl, rfl⟩
    simp (disch := omega) only [F_X11_price, e_cl, e_jn, e_lt, e_cxl, e_cxr, e_rzn, ↓l_m1, ↓l_m2, ↓l_m8, l_0, l_1, l_2, l_3, l_4, l_5, l_6, l_7, l_8, l_9, l_10, l_12, l_16, l_20, l_24, l_31, l_32, l_35, l_36, l_40, l_44, l_48, l_59, l_63, l_64, l_90, l_95, l_96, l_100, l_120, l_127, l_200, l_216, l_255, l_999, l_1000, l_10000, l_1000000, l_1048575, l_1000000000, nI_add, pk_mul, pk_sub, nI_leI, nI_ltI, nI_eq, nI_dec, nI_o0, mx_n, mn_n, ab_1, ab_n, e_u2e, e_u2k, e_u2a, if_pos, if_neg, if_true, if_false, not_true, not_false_eq_true, ne_eq, Nat.add_zero, Nat.zero_add, cG_10 hc, cP_10 hc, cT_10 hc, cR_10_0 hc, cR_10_1 hc, cR_10_2 hc, cR_10_3 hc, cR_10_4 hc, cR_10_5 hc, cR_10_6 hc, cR_10_7 hc, cR_10_8 hc, cG_60 hc, cP_60 hc, cT_60 hc, cR_60_0 hc, cA_61 hc, cS_61 hc, cR_60_1 hc, cA_62 hc, cS_62 hc, a1]
  · simp only [if_neg c] at a1 a3 ⊢
    obtain ⟨m2, b1, b2, b3⟩ := C_forget (j := j) (m := m1) hc hn (CAr_fr hR (by rw [a2 20 (by decide) (by decide) (by decide)]) (fun b h1 h2 => a2 b (by omega) (by omega) (by omega)) (fun _ _ _ => rfl) hn)
    refine ⟨m2, ?_, fun b hb => by rw [b2 b (by omega), a2 b (by omega) (by omega) (by omega)], CAp_fr a3 (by rw [b2 60 (by decide)]) (b2 _ (by decide)) (b2 _ (by decide)), b3⟩
    have h60 : m2 60 2 = nI (if stepAt pf ps w = ps then ps + 1 else ps) := by rw [b2 60 (by decide)]; exact a3.1
    simp (disch := omega) only [F_X11_price, e_cl, e_jn, e_lt, e_cxl, e_cxr, e_rzn, ↓l_m1, ↓l_m2, ↓l_m8, l_0, l_1, l_2, l_3, l_4, l_5, l_6, l_7, l_8, l_9, l_10, l_12, l_16, l_20, l_24, l_31, l_32, l_35, l_36, l_40, l_44, l_48, l_59, l_63, l_64, l_90, l_95, l_96, l_100, l_120, l_127, l_200, l_216, l_255, l_999, l_1000, l_10000, l_1000000, l_1048575, l_1000000000, nI_add, pk_mul, pk_sub, nI_leI, nI_ltI, nI_eq, nI_dec, nI_o0, mx_n, mn_n, ab_1, ab_n, e_u2e, e_u2k, e_u2a, if_pos, if_neg, if_true, if_false, not_true, not_false_eq_true, ne_eq, Nat.add_zero, Nat.zero_add, cG_10 hc, cP_10 hc, cT_10 hc, cR_10_0 hc, cR_10_1 hc, cR_10_2 hc, cR_10_3 hc, cR_10_4 hc, cR_10_5 hc, cR_10_6 hc, cR_10_7 hc, cR_10_8 hc, cG_60 hc, cP_60 hc, cT_60 hc, cR_60_0 hc, cA_61 hc, cS_61 hc, cR_60_1 hc, cA_62 hc, cS_62 hc, a1, b1, h60]
/-- the tape of the class -/
def CAt (m : IM) (tl : Nat) (tb : Nat → Int32) : Prop := m 50 1 = nI tl ∧ ∀ i, i < tl → m 51 i = tb i
theorem s24 : nI 24 + cM8 = nI 16 := by decide
theorem s16 : nI 16 + cM8 = nI 8 := by decide
theorem s8 : nI 8 + cM8 = nI 0 := by decide
theorem s0 : (nI 0 + cM8 < nI 0) = True := eq_true (by decide)
theorem C_append (hc : CS u) {tl : Nat} {w : Int32} (h : m 50 1 = nI tl) (htl : tl + 4 ≤ 100) : ∃ m', F_X9_append 50 w (pm m j u) = some ((), pm m' j u) ∧ (∀ b, b ≠ 50 → b ≠ 51 → m' b = m b) ∧ m' 50 1 = nI (tl + 4) ∧ (∀ i, i < tl → m' 51 i = m 51 i) ∧ ∀ q, q < 4 → m' 51 (tl + q) = byt w q := by
  refine ⟨u2 (u2 (u2 (u2 (u2 (u2 (u2 (u2 m 51 tl (byt w 0)) 50 1 (nI (tl + 1))) 51 (tl + 1) (byt w 1)) 50 1 (nI (tl + 1 + 1))) 51 (tl + 1 + 1) (byt w 2)) 50 1 (nI (tl + 1 + 1 + 1))) 51 (tl + 1 + 1 + 1) (byt w 3)) 50 1 (nI (tl + 1 + 1 + 1 + 1)), ?_, fun b h1 h2 => ?_, e_u2s, fun i hi => ?_, fun q hq => ?_⟩
  · obtain ⟨f, hf⟩ : ∃ f, LF = f + 1 + 1 + 1 + 1 + 1 := ⟨19995, rfl⟩
    unfold F_X9_append
    rw [hf]
    simp (disch := omega) only [F_X9_append_L3, e_cl, e_jn, e_lt, e_cxl, e_cxr, e_rzn, ↓l_m1, ↓l_m2, ↓l_m8, l_0, l_1, l_2, l_3, l_4, l_5, l_6, l_7, l_8, l_9, l_10, l_12, l_16, l_20, l_24, l_31, l_32, l_35, l_36, l_40, l_44, l_48, l_59, l_63, l_64, l_90, l_95, l_96, l_100, l_120, l_127, l_200, l_216, l_255, l_999, l_1000, l_10000, l_1000000, l_1048575, l_1000000000, nI_add, pk_mul, pk_sub, nI_leI, nI_ltI, nI_eq, nI_dec, nI_o0, mx_n, mn_n, ab_1, ab_n, e_u2e, e_u2k, e_u2a, if_pos, if_neg, if_true, if_false, not_true, not_false_eq_true, ne_eq, Nat.add_zero, Nat.zero_add, cG_50 hc, cP_50 hc, cT_50 hc, cR_50_0 hc, cA_51 hc, cS_51 hc, cR_50_5 hc, cA_52 hc, cS_52 hc, cR_50_6 hc, cA_53 hc, cS_53 hc, cR_50_7 hc, cA_54 hc, cS_54 hc, cR_50_8 hc, cA_55 hc, cS_55 hc, s24, s16, s8, s0, h]
    rfl
  · simp only [e_u2r h1, e_u2r h2]
  · simp (disch := omega) only [e_u2k, e_u2a]
  · rcases (show q = 0 ∨ q = 1 ∨ q = 2 ∨ q = 3 by omega) with rfl | rfl | rfl | rfl
    · simp (disch := omega) only [e_u2k, e_u2a, e_u2e]
    · simp (disch := omega) only [e_u2k, e_u2a, e_u2e]
    · simp (disch := omega) only [e_u2k, e_u2a, e_u2e]
    · simp (disch := omega) only [e_u2k, e_u2a, e_u2e]
theorem C_feed1 (hc : CS u) {a b c d e : Int32} {tl : Nat} (h : m 50 1 = nI tl) (htl : tl ≤ 100) (h2 : 80 < tl) : F_X11_feed 10 a b c d e (pm m j u) = some (-1, pm m j u) := by
  simp (disch := omega) only [F_X11_feed, e_cl, e_jn, e_lt, e_cxl, e_cxr, e_rzn, ↓l_m1, ↓l_m2, ↓l_m8, l_0, l_1, l_2, l_3, l_4, l_5, l_6, l_7, l_8, l_9, l_10, l_12, l_16, l_20, l_24, l_31, l_32, l_35, l_36, l_40, l_44, l_48, l_59, l_63, l_64, l_90, l_95, l_96, l_100, l_120, l_127, l_200, l_216, l_255, l_999, l_1000, l_10000, l_1000000, l_1048575, l_1000000000, nI_add, pk_mul, pk_sub, nI_leI, nI_ltI, nI_eq, nI_dec, nI_o0, mx_n, mn_n, ab_1, ab_n, e_u2e, e_u2k, e_u2a, if_pos, if_neg, if_true, if_false, not_true, not_false_eq_true, ne_eq, Nat.add_zero, Nat.zero_add, cG_10 hc, cP_10 hc, cT_10 hc, cR_10_0 hc, cR_10_1 hc, cR_10_2 hc, cR_10_3 hc, cR_10_4 hc, cR_10_5 hc, cR_10_6 hc, cR_10_7 hc, cR_10_8 hc, cG_50 hc, cP_50 hc, cT_50 hc, cR_50_0 hc, cA_51 hc, cS_51 hc, cR_50_5 hc, cA_52 hc, cS_52 hc, cR_50_6 hc, cA_53 hc, cS_53 hc, cR_50_7 hc, cA_54 hc, cS_54 hc, cR_50_8 hc, cA_55 hc, cS_55 hc, h]
theorem C_feed2 (hc : CS u) {a b c d e : Int32} {tl : Nat} {tb : Nat → Int32} (hA : CAt m tl tb) (h2 : tl ≤ 80) : ∃ m', F_X11_feed 10 a b c d e (pm m j u) = some (nI (tl + 20), pm m' j u) ∧ (∀ b, b ≠ 50 → b ≠ 51 → m' b = m b) ∧ CAt m' (tl + 20) (fun i => if i < tl then tb i else byt (wrd a b c d e (i - tl)) ((i - tl) % 4)) := by
  obtain ⟨m1, a1, a2, a3, a4, a5⟩ := C_append (j := j) (w := a) hc hA.1 (by omega)
  obtain ⟨m2, b1, b2, b3, b4, b5⟩ := C_append (j := j) (w := b) hc a3 (by omega)
  obtain ⟨m3, c1, c2, c3, c4, c5⟩ := C_append (j := j) (w := c) hc b3 (by omega)
  obtain ⟨m4, d1, d2, d3, d4, d5⟩ := C_append (j := j) (w := d) hc c3 (by omega)
  obtain ⟨m5, e1, e2, e3, e4, e5⟩ := C_append (j := j) (w := e) hc d3 (by omega)
  refine ⟨m5, ?_, fun x h1 h2 => by rw [e2 x h1 h2, d2 x h1 h2, c2 x h1 h2, b2 x h1 h2, a2 x h1 h2], e3, fun i hi => ?_⟩
  · simp (disch := omega) only [F_X11_feed, e_cl, e_jn, e_lt, e_cxl, e_cxr, e_rzn, ↓l_m1, ↓l_m2, ↓l_m8, l_0, l_1, l_2, l_3, l_4, l_5, l_6, l_7, l_8, l_9, l_10, l_12, l_16, l_20, l_24, l_31, l_32, l_35, l_36, l_40, l_44, l_48, l_59, l_63, l_64, l_90, l_95, l_96, l_100, l_120, l_127, l_200, l_216, l_255, l_999, l_1000, l_10000, l_1000000, l_1048575, l_1000000000, nI_add, pk_mul, pk_sub, nI_leI, nI_ltI, nI_eq, nI_dec, nI_o0, mx_n, mn_n, ab_1, ab_n, e_u2e, e_u2k, e_u2a, if_pos, if_neg, if_true, if_false, not_true, not_false_eq_true, ne_eq, Nat.add_zero, Nat.zero_add, cG_10 hc, cP_10 hc, cT_10 hc, cR_10_0 hc, cR_10_1 hc, cR_10_2 hc, cR_10_3 hc, cR_10_4 hc, cR_10_5 hc, cR_10_6 hc, cR_10_7 hc, cR_10_8 hc, cG_50 hc, cP_50 hc, cT_50 hc, cR_50_0 hc, cA_51 hc, cS_51 hc, cR_50_5 hc, cA_52 hc, cS_52 hc, cR_50_6 hc, cA_53 hc, cS_53 hc, cR_50_7 hc, cA_54 hc, cS_54 hc, cR_50_8 hc, cA_55 hc, cS_55 hc, hA.1, a1, b1, c1, d1, e1, e3]
  · have hx : ∀ tl q : Nat, (tl + q) - tl = q := fun tl q => by omega
    by_cases g0 : i < tl
    · rw [e4 i (by omega), d4 i (by omega), c4 i (by omega), b4 i (by omega), a4 i g0, hA.2 i g0]; exact (if_pos g0).symm
    · obtain ⟨t, rfl⟩ : ∃ t, i = tl + t := ⟨i - tl, by omega⟩
      have : (if tl + t < tl then tb (tl + t) else byt (wrd a b c d e (tl + t - tl)) ((tl + t - tl) % 4)) = byt (wrd a b c d e t) (t % 4) := by rw [if_neg g0, Nat.add_sub_cancel_left]
      refine Eq.trans ?_ this.symm
      unfold wrd
      by_cases g1 : t < 4
      · rw [e4 _ (by omega), d4 _ (by omega), c4 _ (by omega), b4 _ (by omega), a5 t g1, if_pos g1, Nat.mod_eq_of_lt g1]
      · rw [if_neg g1]
        by_cases g2 : t < 8
        · have := b5 (t - 4) (by omega)
          rw [show tl + 4 + (t - 4) = tl + t by omega] at this
          rw [e4 _ (by omega), d4 _ (by omega), c4 _ (by omega), this, if_pos g2, show t % 4 = t - 4 by omega]
        · rw [if_neg g2]
          by_cases g3 : t < 12
          · have := c5 (t - 8) (by omega)
            rw [show tl + 4 + 4 + (t - 8) = tl + t by omega] at this
            rw [e4 _ (by omega), d4 _ (by omega), this, if_pos g3, show t % 4 = t - 8 by omega]
          · rw [if_neg g3]
            by_cases g4 : t < 16
            · have := d5 (t - 12) (by omega)
              rw [show tl + 4 + 4 + 4 + (t - 12) = tl + t by omega] at this
              rw [e4 _ (by omega), this, if_pos g4, show t % 4 = t - 12 by omega]
            · have := e5 (t - 16) (by omega)
              rw [show tl + 4 + 4 + 4 + 4 + (t - 16) = tl + t by omega] at this
              rw [this, if_neg g4, show t % 4 = t - 16 by omega]
/-- lots and bids of the class -/
def CAl (m : IM) (nL : Nat) (br : Int32) (bd lm : Nat → Nat) : Prop := m 100 6 = nI nL ∧ m 10 9 = br ∧ (∀ i, i < 24 → m 101 i = nI (bd i)) ∧ ∀ b, b < 4 → m 102 b = nI (lm b) ∧ m 103 b = nI 0
theorem CAl_fr {m' : IM} {nL : Nat} {br : Int32} {bd lm : Nat → Nat} (h : CAl m nL br bd lm) (h0 : m' 100 = m 100) (h1 : m' 10 = m 10) (h2 : m' 101 = m 101) (h3 : m' 102 = m 102) (h4 : m' 103 = m 103) : CAl m' nL br bd lm := by
  unfold CAl; rw [h0, h1, h2, h3, h4]; exact h
theorem C_bidder {x : Int32} {h : PM} (hx : ¬ ∃ b, b < 4 ∧ x = nI b) : F_X11_refuseNoBidder x h = some (.inl 1, h) := by
  rcases nI_ncase (n := 4) (by omega) hx with c | ⟨l, h1, h2, rfl⟩
  · simp only [F_X11_refuseNoBidder, e_jn, if_pos c]
  · simp (disch := omega) only [F_X11_refuseNoBidder, e_cl, e_jn, e_lt, e_cxl, e_cxr, e_rzn, ↓l_m1, ↓l_m2, ↓l_m8, l_0, l_1, l_2, l_3, l_4, l_5, l_6, l_7, l_8, l_9, l_10, l_12, l_16, l_20, l_24, l_31, l_32, l_35, l_36, l_40, l_44, l_48, l_59, l_63, l_64, l_90, l_95, l_96, l_100, l_120, l_127, l_200, l_216, l_255, l_999, l_1000, l_10000, l_1000000, l_1048575, l_1000000000, nI_add, pk_mul, pk_sub, nI_leI, nI_ltI, nI_eq, nI_dec, nI_o0, mx_n, mn_n, ab_1, ab_n, e_u2e, e_u2k, e_u2a, if_pos, if_neg, if_true, if_false, not_true, not_false_eq_true, ne_eq, Nat.add_zero, Nat.zero_add]
theorem C_bidder2 {b : Nat} {h : PM} (hb : b < 4) : F_X11_refuseNoBidder (nI b) h = some (.inr (), h) := by
  simp (disch := omega) only [F_X11_refuseNoBidder, e_cl, e_jn, e_lt, e_cxl, e_cxr, e_rzn, ↓l_m1, ↓l_m2, ↓l_m8, l_0, l_1, l_2, l_3, l_4, l_5, l_6, l_7, l_8, l_9, l_10, l_12, l_16, l_20, l_24, l_31, l_32, l_35, l_36, l_40, l_44, l_48, l_59, l_63, l_64, l_90, l_95, l_96, l_100, l_120, l_127, l_200, l_216, l_255, l_999, l_1000, l_10000, l_1000000, l_1048575, l_1000000000, nI_add, pk_mul, pk_sub, nI_leI, nI_ltI, nI_eq, nI_dec, nI_o0, mx_n, mn_n, ab_1, ab_n, e_u2e, e_u2k, e_u2a, if_pos, if_neg, if_true, if_false, not_true, not_false_eq_true, ne_eq, Nat.add_zero, Nat.zero_add]
theorem C_most1 {x y : Int32} {h : PM} (hx : ¬ ∃ b, b < 4 ∧ x = nI b) : F_X11_most 10 x y h = some (.inl 1, h) := by
  simp only [F_X11_most, C_bidder hx, e_cxl]
theorem C_most2 {b : Nat} {y : Int32} {h : PM} (hb : b < 4) (hy : ¬ ∃ q, q < 7 ∧ y = nI q) : F_X11_most 10 (nI b) y h = some (.inl 2, h) := by
  rcases nI_ncase (n := 7) (by omega) hy with c | ⟨l, h1, h2, rfl⟩
  · simp only [F_X11_most, C_bidder2 hb, e_cxr, e_jn, if_pos c]
  · simp (disch := omega) only [F_X11_most, C_bidder2 hb, e_cl, e_jn, e_lt, e_cxl, e_cxr, e_rzn, ↓l_m1, ↓l_m2, ↓l_m8, l_0, l_1, l_2, l_3, l_4, l_5, l_6, l_7, l_8, l_9, l_10, l_12, l_16, l_20, l_24, l_31, l_32, l_35, l_36, l_40, l_44, l_48, l_59, l_63, l_64, l_90, l_95, l_96, l_100, l_120, l_127, l_200, l_216, l_255, l_999, l_1000, l_10000, l_1000000, l_1048575, l_1000000000, nI_add, pk_mul, pk_sub, nI_leI, nI_ltI, nI_eq, nI_dec, nI_o0, mx_n, mn_n, ab_1, ab_n, e_u2e, e_u2k, e_u2a, if_pos, if_neg, if_true, if_false, not_true, not_false_eq_true, ne_eq, Nat.add_zero, Nat.zero_add]
theorem C_most3 (hc : CS u) {nL b n : Nat} {br : Int32} {bd lm : Nat → Nat} (hA : CAl m nL br bd lm) (hb : b < 4) (hn : n ≤ 6) : F_X11_most 10 (nI b) (nI n) (pm m j u) = some (.inr (nI (lm b)), pm (u2 m 102 b (nI n)) j u) ∧ CAl (u2 m 102 b (nI n)) nL br bd (fun i => if i = b then n else lm i) := by
  refine ⟨?_, by rw [e_u2a (by decide)]; exact hA.1, by rw [e_u2a (by decide)]; exact hA.2.1, fun i hi => by rw [e_u2a (by decide)]; exact hA.2.2.1 i hi, fun i hi => ⟨?_, by rw [e_u2a (by decide)]; exact (hA.2.2.2 i hi).2⟩⟩
  · simp (disch := omega) only [F_X11_most, C_bidder2 hb, e_cl, e_jn, e_lt, e_cxl, e_cxr, e_rzn, ↓l_m1, ↓l_m2, ↓l_m8, l_0, l_1, l_2, l_3, l_4, l_5, l_6, l_7, l_8, l_9, l_10, l_12, l_16, l_20, l_24, l_31, l_32, l_35, l_36, l_40, l_44, l_48, l_59, l_63, l_64, l_90, l_95, l_96, l_100, l_120, l_127, l_200, l_216, l_255, l_999, l_1000, l_10000, l_1000000, l_1048575, l_1000000000, nI_add, pk_mul, pk_sub, nI_leI, nI_ltI, nI_eq, nI_dec, nI_o0, mx_n, mn_n, ab_1, ab_n, e_u2e, e_u2k, e_u2a, if_pos, if_neg, if_true, if_false, not_true, not_false_eq_true, ne_eq, Nat.add_zero, Nat.zero_add, cG_10 hc, cP_10 hc, cT_10 hc, cR_10_0 hc, cR_10_1 hc, cR_10_2 hc, cR_10_3 hc, cR_10_4 hc, cR_10_5 hc, cR_10_6 hc, cR_10_7 hc, cR_10_8 hc, cG_100 hc, cP_100 hc, cT_100 hc, cR_100_0 hc, cA_101 hc, cS_101 hc, cR_100_1 hc, cA_102 hc, cS_102 hc, cR_100_2 hc, cA_103 hc, cS_103 hc, cR_100_3 hc, cA_104 hc, cS_104 hc, cR_100_4 hc, cA_105 hc, cS_105 hc, cR_100_5 hc, cA_106 hc, cS_106 hc, (hA.2.2.2 b hb).1]
  · by_cases e : i = b
    · rw [e, e_u2s]; exact congrArg nI (if_pos rfl).symm
    · rw [e_u2k e, (hA.2.2.2 i hi).1]; exact congrArg nI (if_neg e).symm
theorem C_bid1 {x y z : Int32} {h : PM} (hx : ¬ ∃ b, b < 4 ∧ x = nI b) : F_X11_bid 10 x y z h = some (.inl 1, h) := by
  simp only [F_X11_bid, C_bidder hx, e_cxl]
theorem C_bid2 (hc : CS u) {b nL : Nat} {y z : Int32} (hb : b < 4) (hL : m 100 6 = nI nL) (hn : nL ≤ 6) (hy : ¬ ((∃ l, l < nL ∧ y = nI l) ∧ ∃ q, 1 ≤ q ∧ q ≤ 1000000 ∧ z = nI q)) : F_X11_bid 10 (nI b) y z (pm m j u) = some (.inl 2, pm m j u) := by
  by_cases c : ∃ l, l < nL ∧ y = nI l
  · have hz : ¬ ∃ q, 1 ≤ q ∧ q ≤ 1000000 ∧ z = nI q := fun w => hy ⟨c, w⟩
    obtain ⟨l, hl, rfl⟩ := c
    by_cases c0 : z < 0
    · have c1 : z < nI 1 := lt_1 c0
      simp (disch := omega) only [F_X11_bid, C_bidder2 hb, e_cl, e_jn, e_lt, e_cxl, e_cxr, e_rzn, ↓l_m1, ↓l_m2, ↓l_m8, l_0, l_1, l_2, l_3, l_4, l_5, l_6, l_7, l_8, l_9, l_10, l_12, l_16, l_20, l_24, l_31, l_32, l_35, l_36, l_40, l_44, l_48, l_59, l_63, l_64, l_90, l_95, l_96, l_100, l_120, l_127, l_200, l_216, l_255, l_999, l_1000, l_10000, l_1000000, l_1048575, l_1000000000, nI_add, pk_mul, pk_sub, nI_leI, nI_ltI, nI_eq, nI_dec, nI_o0, mx_n, mn_n, ab_1, ab_n, e_u2e, e_u2k, e_u2a, if_pos, if_neg, if_true, if_false, not_true, not_false_eq_true, ne_eq, Nat.add_zero, Nat.zero_add, cG_10 hc, cP_10 hc, cT_10 hc, cR_10_0 hc, cR_10_1 hc, cR_10_2 hc, cR_10_3 hc, cR_10_4 hc, cR_10_5 hc, cR_10_6 hc, cR_10_7 hc, cR_10_8 hc, cG_100 hc, cP_100 hc, cT_100 hc, cR_100_0 hc, cA_101 hc, cS_101 hc, cR_100_1 hc, cA_102 hc, cS_102 hc, cR_100_2 hc, cA_103 hc, cS_103 hc, cR_100_3 hc, cA_104 hc, cS_104 hc, cR_100_4 hc, cA_105 hc, cS_105 hc, cR_100_5 hc, cA_106 hc, cS_106 hc, hL, if_pos c1]
    · obtain ⟨q, hq, rfl⟩ := nI_of c0
      by_cases c1 : q < 1
      · simp (disch := omega) only [F_X11_bid, C_bidder2 hb, e_cl, e_jn, e_lt, e_cxl, e_cxr, e_rzn, ↓l_m1, ↓l_m2, ↓l_m8, l_0, l_1, l_2, l_3, l_4, l_5, l_6, l_7, l_8, l_9, l_10, l_12, l_16, l_20, l_24, l_31, l_32, l_35, l_36, l_40, l_44, l_48, l_59, l_63, l_64, l_90, l_95, l_96, l_100, l_120, l_127, l_200, l_216, l_255, l_999, l_1000, l_10000, l_1000000, l_1048575, l_1000000000, nI_add, pk_mul, pk_sub, nI_leI, nI_ltI, nI_eq, nI_dec, nI_o0, mx_n, mn_n, ab_1, ab_n, e_u2e, e_u2k, e_u2a, if_pos, if_neg, if_true, if_false, not_true, not_false_eq_true, ne_eq, Nat.add_zero, Nat.zero_add, cG_10 hc, cP_10 hc, cT_10 hc, cR_10_0 hc, cR_10_1 hc, cR_10_2 hc, cR_10_3 hc, cR_10_4 hc, cR_10_5 hc, cR_10_6 hc, cR_10_7 hc, cR_10_8 hc, cG_100 hc, cP_100 hc, cT_100 hc, cR_100_0 hc, cA_101 hc, cS_101 hc, cR_100_1 hc, cA_102 hc, cS_102 hc, cR_100_2 hc, cA_103 hc, cS_103 hc, cR_100_3 hc, cA_104 hc, cS_104 hc, cR_100_4 hc, cA_105 hc, cS_105 hc, cR_100_5 hc, cA_106 hc, cS_106 hc, hL]
      · have : 1000000 < q := Classical.byContradiction fun w => hz ⟨q, by omega, by omega, rfl⟩
        simp (disch := omega) only [F_X11_bid, C_bidder2 hb, e_cl, e_jn, e_lt, e_cxl, e_cxr, e_rzn, ↓l_m1, ↓l_m2, ↓l_m8, l_0, l_1, l_2, l_3, l_4, l_5, l_6, l_7, l_8, l_9, l_10, l_12, l_16, l_20, l_24, l_31, l_32, l_35, l_36, l_40, l_44, l_48, l_59, l_63, l_64, l_90, l_95, l_96, l_100, l_120, l_127, l_200, l_216, l_255, l_999, l_1000, l_10000, l_1000000, l_1048575, l_1000000000, nI_add, pk_mul, pk_sub, nI_leI, nI_ltI, nI_eq, nI_dec, nI_o0, mx_n, mn_n, ab_1, ab_n, e_u2e, e_u2k, e_u2a, if_pos, if_neg, if_true, if_false, not_true, not_false_eq_true, ne_eq, Nat.add_zero, Nat.zero_add, cG_10 hc, cP_10 hc, cT_10 hc, cR_10_0 hc, cR_10_1 hc, cR_10_2 hc, cR_10_3 hc, cR_10_4 hc, cR_10_5 hc, cR_10_6 hc, cR_10_7 hc, cR_10_8 hc, cG_100 hc, cP_100 hc, cT_100 hc, cR_100_0 hc, cA_101 hc, cS_101 hc, cR_100_1 hc, cA_102 hc, cS_102 hc, cR_100_2 hc, cA_103 hc, cS_103 hc, cR_100_3 hc, cA_104 hc, cS_104 hc, cR_100_4 hc, cA_105 hc, cS_105 hc, cR_100_5 hc, cA_106 hc, cS_106 hc, hL]
  · rcases nI_ncase (by omega) c with c | ⟨l, h1, h2, rfl⟩
    · simp only [F_X11_bid, C_bidder2 hb, e_cxr, e_jn, if_pos c]
    · simp (disch := omega) only [F_X11_bid, C_bidder2 hb, e_cl, e_jn, e_lt, e_cxl, e_cxr, e_rzn, ↓l_m1, ↓l_m2, ↓l_m8, l_0, l_1, l_2, l_3, l_4, l_5, l_6, l_7, l_8, l_9, l_10, l_12, l_16, l_20, l_24, l_31, l_32, l_35, l_36, l_40, l_44, l_48, l_59, l_63, l_64, l_90, l_95, l_96, l_100, l_120, l_127, l_200, l_216, l_255, l_999, l_1000, l_10000, l_1000000, l_1048575, l_1000000000, nI_add, pk_mul, pk_sub, nI_leI, nI_ltI, nI_eq, nI_dec, nI_o0, mx_n, mn_n, ab_1, ab_n, e_u2e, e_u2k, e_u2a, if_pos, if_neg, if_true, if_false, not_true, not_false_eq_true, ne_eq, Nat.add_zero, Nat.zero_add, cG_10 hc, cP_10 hc, cT_10 hc, cR_10_0 hc, cR_10_1 hc, cR_10_2 hc, cR_10_3 hc, cR_10_4 hc, cR_10_5 hc, cR_10_6 hc, cR_10_7 hc, cR_10_8 hc, cG_100 hc, cP_100 hc, cT_100 hc, cR_100_0 hc, cA_101 hc, cS_101 hc, cR_100_1 hc, cA_102 hc, cS_102 hc, cR_100_2 hc, cA_103 hc, cS_103 hc, cR_100_3 hc, cA_104 hc, cS_104 hc, cR_100_4 hc, cA_105 hc, cS_105 hc, cR_100_5 hc, cA_106 hc, cS_106 hc, hL]
theorem C_bid3 (hc : CS u) {nL b l n : Nat} {br : Int32} {bd lm : Nat → Nat} (hD : LD nL bd lm) (hA : CAl m nL br bd lm) (hb : b < 4) (hl : l < nL) (h1 : 1 ≤ n) (h2 : n ≤ 1000000) : ∃ m', F_X11_bid 10 (nI b) (nI l) (nI n) (pm m j u) = some (.inr (if bd (4 * l + b) = 0 then 1 else -1), pm m' j u) ∧ (∀ b, b ≠ 101 → m' b = m b) ∧ CAl m' nL br (fun i => if i = 4 * l + b ∧ bd i = 0 then n else bd i) lm := by
  have hn6 := hD.1
  have hbd := hD.2.1 (4 * l + b) (by omega)
  have hv := hA.2.2.1 (l * 4 + b) (by omega)
  rw [show l * 4 + b = 4 * l + b by omega] at hv
  have e4 : l * 4 + b = 4 * l + b := by omega
  by_cases c : bd (4 * l + b) = 0
  · refine ⟨u2 m 101 (4 * l + b) (nI n), ?_, fun b hb => e_u2r hb, by rw [e_u2a (by decide)]; exact hA.1, by rw [e_u2a (by decide)]; exact hA.2.1, fun i hi => ?_, fun i hi => by rw [e_u2a (by decide), e_u2a (by decide)]; exact hA.2.2.2 i hi⟩
    · simp (disch := omega) only [F_X11_bid, F_X0_seal, C_bidder2 hb, e_cl, e_jn, e_lt, e_cxl, e_cxr, e_rzn, ↓l_m1, ↓l_m2, ↓l_m8, l_0, l_1, l_2, l_3, l_4, l_5, l_6, l_7, l_8, l_9, l_10, l_12, l_16, l_20, l_24, l_31, l_32, l_35, l_36, l_40, l_44, l_48, l_59, l_63, l_64, l_90, l_95, l_96, l_100, l_120, l_127, l_200, l_216, l_255, l_999, l_1000, l_10000, l_1000000, l_1048575, l_1000000000, nI_add, pk_mul, pk_sub, nI_leI, nI_ltI, nI_eq, nI_dec, nI_o0, mx_n, mn_n, ab_1, ab_n, e_u2e, e_u2k, e_u2a, if_pos, if_neg, if_true, if_false, not_true, not_false_eq_true, ne_eq, Nat.add_zero, Nat.zero_add, cG_10 hc, cP_10 hc, cT_10 hc, cR_10_0 hc, cR_10_1 hc, cR_10_2 hc, cR_10_3 hc, cR_10_4 hc, cR_10_5 hc, cR_10_6 hc, cR_10_7 hc, cR_10_8 hc, cG_100 hc, cP_100 hc, cT_100 hc, cR_100_0 hc, cA_101 hc, cS_101 hc, cR_100_1 hc, cA_102 hc, cS_102 hc, cR_100_2 hc, cA_103 hc, cS_103 hc, cR_100_3 hc, cA_104 hc, cS_104 hc, cR_100_4 hc, cA_105 hc, cS_105 hc, cR_100_5 hc, cA_106 hc, cS_106 hc, hA.1, e4, hv, c]
    · by_cases e : i = 4 * l + b
      · rw [e, e_u2s]; exact congrArg nI (if_pos ⟨rfl, c⟩).symm
      · rw [e_u2k e, hA.2.2.1 i hi]; exact congrArg nI (if_neg (fun z => e z.1)).symm
  · refine ⟨m, ?_, fun _ _ => rfl, hA.1, hA.2.1, fun i hi => ?_, hA.2.2.2⟩
    · simp (disch := omega) only [F_X11_bid, F_X0_seal, C_bidder2 hb, e_cl, e_jn, e_lt, e_cxl, e_cxr, e_rzn, ↓l_m1, ↓l_m2, ↓l_m8, l_0, l_1, l_2, l_3, l_4, l_5, l_6, l_7, l_8, l_9, l_10, l_12, l_16, l_20, l_24, l_31, l_32, l_35, l_36, l_40, l_44, l_48, l_59, l_63, l_64, l_90, l_95, l_96, l_100, l_120, l_127, l_200, l_216, l_255, l_999, l_1000, l_10000, l_1000000, l_1048575, l_1000000000, nI_add, pk_mul, pk_sub, nI_leI, nI_ltI, nI_eq, nI_dec, nI_o0, mx_n, mn_n, ab_1, ab_n, e_u2e, e_u2k, e_u2a, if_pos, if_neg, if_true, if_false, not_true, not_false_eq_true, ne_eq, Nat.add_zero, Nat.zero_add, cG_10 hc, cP_10 hc, cT_10 hc, cR_10_0 hc, cR_10_1 hc, cR_10_2 hc, cR_10_3 hc, cR_10_4 hc, cR_10_5 hc, cR_10_6 hc, cR_10_7 hc, cR_10_8 hc, cG_100 hc, cP_100 hc, cT_100 hc, cR_100_0 hc, cA_101 hc, cS_101 hc, cR_100_1 hc, cA_102 hc, cS_102 hc, cR_100_2 hc, cA_103 hc, cS_103 hc, cR_100_3 hc, cA_104 hc, cS_104 hc, cR_100_4 hc, cA_105 hc, cS_105 hc, cR_100_5 hc, cA_106 hc, cS_106 hc, hA.1, e4, hv]
    · rw [hA.2.2.1 i hi]; exact congrArg nI (if_neg (fun z => c (by rw [← z.1]; exact z.2))).symm
end CSI
