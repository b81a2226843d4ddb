/-! ===== the reference: sell ===== -/
section RSELL
variable {m : IM} {j : JM} {u : SU}
theorem fa_bb {g : Bool} : g.toNat ≤ 1 := by cases g <;> decide
theorem nI_o (l : Nat) : nI l + oI 0 = oI l := by rw [oI_0, ← Int32.sub_eq_add_neg]; rfl
theorem R_L76 (hs : RS u) {L : Nat} {bd : Nat → Nat} {c1 c2 c3 : Int32} (hL : L ≤ 6) (hbd : ∀ i, i < 24 → bd i ≤ 1000000) : ∀ (l P acc fu : Nat) (g : Bool) (m : IM) (us : Nat → Nat), l ≤ L → P < 15625 → acc + 1000000 * l ≤ 6000000 → (∀ b, us b + l ≤ 6) → (∀ b, b < 4 → m 237 b = nI (us b)) → (∀ i, i < 4 * L → m 233 i = nI (bd i)) → l < fu →
    ∃ m', (∀ K, F_X12_sell_L76 200 c1 c2 c3 K fu (nI P) (nI acc) (nI g.toNat) (oI l) (pm m j u) = K (nI (acc + sumD bd l P)) (nI (g && bkD bd l P).toNat) (pm m' j u)) ∧ (∀ b, b ≠ 235 → b ≠ 237 → m' b = m b) ∧ (∀ b, b < 4 → m' 237 b = nI (us b + usD l P b)) ∧ (∀ i, l ≤ i → m' 235 i = m 235 i) ∧ ∀ i, i < l → m' 235 i = nI (dgD l P i) := by
  intro l
  induction l with
  | zero =>
    intro P acc fu g m us hl hP hacc hus h57 h53 hfu
    obtain ⟨fu, rfl⟩ : ∃ g, fu = g + 1 := ⟨fu - 1, by omega⟩
    refine ⟨m, fun K => ?_, fun _ _ _ => rfl, h57, fun _ _ => rfl, fun i hi => by omega⟩
    have e0 : oI 0 < 0 := by decide
    rw [F_X12_sell_L76, if_pos e0, show bkD bd 0 P = true from rfl, Bool.and_true]
    rfl
  | succ l ih =>
    intro P acc fu g m us hl hP hacc hus h57 h53 hfu
    obtain ⟨fu, rfl⟩ : ∃ g, fu = g + 1 := ⟨fu - 1, by omega⟩
    have hp5 : P - P / 5 * 5 = P % 5 := by omega
    have hg := fa_bb (g := g)
    by_cases d4 : P % 5 = 4
    · obtain ⟨m', a1, a2, a3, a4, a5⟩ := ih (P / 5) acc fu g (u2 m 235 l (nI 4)) us (by omega) (by omega) (by omega) (fun b => by have := hus b; omega) (fun b hb => by rw [e_u2a (by decide)]; exact h57 b hb) (fun i hi => by rw [e_u2a (by decide)]; exact h53 i hi) (by omega)
      refine ⟨m', fun K => ?_, fun b h1 h2 => by rw [a2 b h1 h2, e_u2r h1], fun b hb => ?_, fun i hi => by rw [a4 i (by omega), e_u2k (by omega)], fun i hi => ?_⟩
      · rw [sumD, bkD, d4, if_neg (by omega), show sumD bd l (P / 5) + 0 = sumD bd l (P / 5) from rfl, decide_eq_true (by omega : 4 ≤ 4), Bool.true_or, Bool.and_true, ← a1 K, F_X12_sell_L76]
        simp (disch := omega) only [e_cl, e_jn, e_lt, e_cxl, e_cxr, e_rzn, ↓l_m1, ↓l_m2, ↓l_m8, l_0, l_1, l_2, l_3, l_4, l_5, l_6, l_7, l_8, l_9, l_10, l_12, l_16, l_20, l_24, l_31, l_32, l_35, l_36, l_40, l_44, l_48, l_59, l_63, l_64, l_90, l_95, l_96, l_100, l_120, l_127, l_200, l_216, l_255, l_999, l_1000, l_10000, l_1000000, l_1048575, l_1000000000, nI_add, pk_mul, pk_sub, nI_leI, nI_ltI, nI_eq, nI_dec, nI_o0, mx_n, mn_n, ab_1, ab_n, e_u2e, e_u2k, e_u2a, if_pos, if_neg, if_true, if_false, not_true, not_false_eq_true, ne_eq, Nat.add_zero, Nat.zero_add, rP hs, rI hs, rT hs, rR_55 hs, rA_235 hs, rS_235 hs, oI_s, pk_div, hp5, d4, e_dv (show nI 5 ≠ 0 by decide), nI_o]
      · rw [a3 b hb, usD, d4, if_neg (by omega)]; rfl
      · rw [dgD]
        by_cases e : i = l
        · rw [if_pos e, e, a4 l (by omega), e_u2s, d4]
        · rw [if_neg e]; exact a5 i (by omega)
    · have hd : P % 5 < 4 := by omega
      have hv := h53 (4 * l + P % 5) (by omega)
      have hb5 := hbd (4 * l + P % 5) (by omega)
      have hu := h57 (P % 5) hd
      have hub := hus (P % 5)
      obtain ⟨m', a1, a2, a3, a4, a5⟩ := ih (P / 5) (acc + bd (4 * l + P % 5)) fu (g && decide (0 < bd (4 * l + P % 5))) (u2 (u2 m 235 l (nI (P % 5))) 237 (P % 5) (nI (us (P % 5) + 1))) (fun b => us b + if P % 5 = b then 1 else 0) (by omega) (by omega) (by omega) (fun b => by have := hus b; split <;> omega) (fun b hb => by
        by_cases e : b = P % 5
        · rw [e, e_u2s]
          show _ = nI (us (P % 5) + if P % 5 = P % 5 then 1 else 0)
          rw [if_pos rfl]
        · rw [e_u2k e, e_u2a (by decide), h57 b hb]
          show _ = nI (us b + if P % 5 = b then 1 else 0)
          rw [if_neg (fun z => e z.symm), Nat.add_zero]) (fun i hi => by rw [e_u2a (by decide), e_u2a (by decide)]; exact h53 i hi) (by omega)
      refine ⟨m', fun K => ?_, fun b h1 h2 => by rw [a2 b h1 h2, e_u2r h2, e_u2r h1], fun b hb => ?_, fun i hi => by rw [a4 i (by omega), e_u2a (by decide), e_u2k (by omega)], fun i hi => ?_⟩
      · rw [sumD, bkD, if_pos hd, decide_eq_false (by omega : ¬ 4 ≤ P % 5), Bool.false_or, Bool.and_comm (bkD bd l (P / 5)), ← Bool.and_assoc, show acc + (sumD bd l (P / 5) + bd (4 * l + P % 5)) = acc + bd (4 * l + P % 5) + sumD bd l (P / 5) by omega, ← a1 K, F_X12_sell_L76]
        by_cases c : bd (4 * l + P % 5) = 0
        · rw [decide_eq_false (by omega : ¬ 0 < bd (4 * l + P % 5)), Bool.and_false]
          cases g
          · simp (disch := omega) only [e_cl, e_jn, e_lt, e_cxl, e_cxr, e_rzn, ↓l_m1, ↓l_m2, ↓l_m8, l_0, l_1, l_2, l_3, l_4, l_5, l_6, l_7, l_8, l_9, l_10, l_12, l_16, l_20, l_24, l_31, l_32, l_35, l_36, l_40, l_44, l_48, l_59, l_63, l_64, l_90, l_95, l_96, l_100, l_120, l_127, l_200, l_216, l_255, l_999, l_1000, l_10000, l_1000000, l_1048575, l_1000000000, nI_add, pk_mul, pk_sub, nI_leI, nI_ltI, nI_eq, nI_dec, nI_o0, mx_n, mn_n, ab_1, ab_n, e_u2e, e_u2k, e_u2a, if_pos, if_neg, if_true, if_false, not_true, not_false_eq_true, ne_eq, Nat.add_zero, Nat.zero_add, rP hs, rI hs, rT hs, rR_55 hs, rA_235 hs, rS_235 hs, rR_53 hs, rA_233 hs, rS_233 hs, rR_57 hs, rA_237 hs, rS_237 hs, oI_s, pk_div, hp5, hv, hu, e_dv (show nI 5 ≠ 0 by decide), nI_o, Bool.toNat_false]
          · simp (disch := omega) only [e_cl, e_jn, e_lt, e_cxl, e_cxr, e_rzn, ↓l_m1, ↓l_m2, ↓l_m8, l_0, l_1, l_2, l_3, l_4, l_5, l_6, l_7, l_8, l_9, l_10, l_12, l_16, l_20, l_24, l_31, l_32, l_35, l_36, l_40, l_44, l_48, l_59, l_63, l_64, l_90, l_95, l_96, l_100, l_120, l_127, l_200, l_216, l_255, l_999, l_1000, l_10000, l_1000000, l_1048575, l_1000000000, nI_add, pk_mul, pk_sub, nI_leI, nI_ltI, nI_eq, nI_dec, nI_o0, mx_n, mn_n, ab_1, ab_n, e_u2e, e_u2k, e_u2a, if_pos, if_neg, if_true, if_false, not_true, not_false_eq_true, ne_eq, Nat.add_zero, Nat.zero_add, rP hs, rI hs, rT hs, rR_55 hs, rA_235 hs, rS_235 hs, rR_53 hs, rA_233 hs, rS_233 hs, rR_57 hs, rA_237 hs, rS_237 hs, oI_s, pk_div, hp5, hv, hu, e_dv (show nI 5 ≠ 0 by decide), nI_o, Bool.toNat_false, Bool.toNat_true]
        · rw [decide_eq_true (by omega : 0 < bd (4 * l + P % 5)), Bool.and_true]
          cases g
          · simp (disch := omega) only [e_cl, e_jn, e_lt, e_cxl, e_cxr, e_rzn, ↓l_m1, ↓l_m2, ↓l_m8, l_0, l_1, l_2, l_3, l_4, l_5, l_6, l_7, l_8, l_9, l_10, l_12, l_16, l_20, l_24, l_31, l_32, l_35, l_36, l_40, l_44, l_48, l_59, l_63, l_64, l_90, l_95, l_96, l_100, l_120, l_127, l_200, l_216, l_255, l_999, l_1000, l_10000, l_1000000, l_1048575, l_1000000000, nI_add, pk_mul, pk_sub, nI_leI, nI_ltI, nI_eq, nI_dec, nI_o0, mx_n, mn_n, ab_1, ab_n, e_u2e, e_u2k, e_u2a, if_pos, if_neg, if_true, if_false, not_true, not_false_eq_true, ne_eq, Nat.add_zero, Nat.zero_add, rP hs, rI hs, rT hs, rR_55 hs, rA_235 hs, rS_235 hs, rR_53 hs, rA_233 hs, rS_233 hs, rR_57 hs, rA_237 hs, rS_237 hs, oI_s, pk_div, hp5, hv, hu, e_dv (show nI 5 ≠ 0 by decide), nI_o, Bool.toNat_false]
          · simp (disch := omega) only [e_cl, e_jn, e_lt, e_cxl, e_cxr, e_rzn, ↓l_m1, ↓l_m2, ↓l_m8, l_0, l_1, l_2, l_3, l_4, l_5, l_6, l_7, l_8, l_9, l_10, l_12, l_16, l_20, l_24, l_31, l_32, l_35, l_36, l_40, l_44, l_48, l_59, l_63, l_64, l_90, l_95, l_96, l_100, l_120, l_127, l_200, l_216, l_255, l_999, l_1000, l_10000, l_1000000, l_1048575, l_1000000000, nI_add, pk_mul, pk_sub, nI_leI, nI_ltI, nI_eq, nI_dec, nI_o0, mx_n, mn_n, ab_1, ab_n, e_u2e, e_u2k, e_u2a, if_pos, if_neg, if_true, if_false, not_true, not_false_eq_true, ne_eq, Nat.add_zero, Nat.zero_add, rP hs, rI hs, rT hs, rR_55 hs, rA_235 hs, rS_235 hs, rR_53 hs, rA_233 hs, rS_233 hs, rR_57 hs, rA_237 hs, rS_237 hs, oI_s, pk_div, hp5, hv, hu, e_dv (show nI 5 ≠ 0 by decide), nI_o, Bool.toNat_false, Bool.toNat_true]
      · rw [a3 b hb, usD]
        show nI (us b + (if P % 5 = b then 1 else 0) + usD l (P / 5) b) = _
        congr 1
        omega
      · rw [dgD]
        by_cases e : i = l
        · rw [if_pos e, e, a4 l (by omega), e_u2a (by decide), e_u2s]
        · rw [if_neg e]; exact a5 i (by omega)
def alB (p : Nat → Bool) : Nat → Bool
  | 0 => true
  | n + 1 => alB p n && p n
theorem alB4 (p : Nat → Bool) : alB p 4 = (List.range 4).all p := by
  show ((((true && p 0) && p 1) && p 2) && p 3) = (p 0 && (p 1 && (p 2 && (p 3 && true))))
  cases p 0 <;> cases p 1 <;> cases p 2 <;> cases p 3 <;> rfl
theorem R_L175 (hs : RS u) {g : Bool} {us lm : Nat → Nat} {c1 c2 c3 c5 : Int32} (hus : ∀ b, us b ≤ 6) (hlm : ∀ b, b < 4 → lm b ≤ 6) (h57 : ∀ b, b < 4 → m 237 b = nI (us b)) (h54 : ∀ b, b < 4 → m 234 b = nI (lm b)) (K : Int32 → PM → Option (Int32 × PM)) : ∀ (d n fu : Nat), n + d = 4 → d < fu →
    F_X12_sell_L175 200 c1 c2 c3 c5 K fu (nI (g && alB (fun b => decide (us b ≤ lm b)) n).toNat) (nI n) (pm m j u) = K (nI (g && alB (fun b => decide (us b ≤ lm b)) 4).toNat) (pm m j u) := by
  intro d
  induction d with
  | zero =>
    intro n fu hn hfu
    obtain ⟨fu, rfl⟩ : ∃ g, fu = g + 1 := ⟨fu - 1, by omega⟩
    have e : n = 4 := by omega
    subst e
    rw [F_X12_sell_L175, if_pos (show (4 : Int32) ≤ nI 4 by decide)]
  | succ d ih =>
    intro n fu hn hfu
    obtain ⟨fu, rfl⟩ : ∃ g, fu = g + 1 := ⟨fu - 1, by omega⟩
    have hi := ih (n + 1) fu (by omega) (by omega)
    have h1 := h57 n (by omega)
    have h2 := h54 n (by omega)
    have h3 := hus n
    have h4 := hlm n (by omega)
    rw [alB, ← Bool.and_assoc] at hi
    generalize (g && alB (fun b => decide (us b ≤ lm b)) n) = G at hi ⊢
    rw [F_X12_sell_L175]
    by_cases c : us n ≤ lm n
    · rw [decide_eq_true c, Bool.and_true] at hi
      cases G
      · simp (disch := omega) only [e_cl, e_jn, e_lt, e_cxl, e_cxr, e_rzn, ↓l_m1, ↓l_m2, ↓l_m8, l_0, l_1, l_2, l_3, l_4, l_5, l_6, l_7, l_8, l_9, l_10, l_12, l_16, l_20, l_24, l_31, l_32, l_35, l_36, l_40, l_44, l_48, l_59, l_63, l_64, l_90, l_95, l_96, l_100, l_120, l_127, l_200, l_216, l_255, l_999, l_1000, l_10000, l_1000000, l_1048575, l_1000000000, nI_add, pk_mul, pk_sub, nI_leI, nI_ltI, nI_eq, nI_dec, nI_o0, mx_n, mn_n, ab_1, ab_n, e_u2e, e_u2k, e_u2a, if_pos, if_neg, if_true, if_false, not_true, not_false_eq_true, ne_eq, Nat.add_zero, Nat.zero_add, rP hs, rI hs, rT hs, rR_57 hs, rA_237 hs, rS_237 hs, rR_54 hs, rA_234 hs, rS_234 hs, h1, h2, Bool.toNat_false] at hi ⊢
        exact hi
      · simp (disch := omega) only [e_cl, e_jn, e_lt, e_cxl, e_cxr, e_rzn, ↓l_m1, ↓l_m2, ↓l_m8, l_0, l_1, l_2, l_3, l_4, l_5, l_6, l_7, l_8, l_9, l_10, l_12, l_16, l_20, l_24, l_31, l_32, l_35, l_36, l_40, l_44, l_48, l_59, l_63, l_64, l_90, l_95, l_96, l_100, l_120, l_127, l_200, l_216, l_255, l_999, l_1000, l_10000, l_1000000, l_1048575, l_1000000000, nI_add, pk_mul, pk_sub, nI_leI, nI_ltI, nI_eq, nI_dec, nI_o0, mx_n, mn_n, ab_1, ab_n, e_u2e, e_u2k, e_u2a, if_pos, if_neg, if_true, if_false, not_true, not_false_eq_true, ne_eq, Nat.add_zero, Nat.zero_add, rP hs, rI hs, rT hs, rR_57 hs, rA_237 hs, rS_237 hs, rR_54 hs, rA_234 hs, rS_234 hs, h1, h2, Bool.toNat_true] at hi ⊢
        exact hi
    · rw [decide_eq_false c, Bool.and_false] at hi
      cases G
      · simp (disch := omega) only [e_cl, e_jn, e_lt, e_cxl, e_cxr, e_rzn, ↓l_m1, ↓l_m2, ↓l_m8, l_0, l_1, l_2, l_3, l_4, l_5, l_6, l_7, l_8, l_9, l_10, l_12, l_16, l_20, l_24, l_31, l_32, l_35, l_36, l_40, l_44, l_48, l_59, l_63, l_64, l_90, l_95, l_96, l_100, l_120, l_127, l_200, l_216, l_255, l_999, l_1000, l_10000, l_1000000, l_1048575, l_1000000000, nI_add, pk_mul, pk_sub, nI_leI, nI_ltI, nI_eq, nI_dec, nI_o0, mx_n, mn_n, ab_1, ab_n, e_u2e, e_u2k, e_u2a, if_pos, if_neg, if_true, if_false, not_true, not_false_eq_true, ne_eq, Nat.add_zero, Nat.zero_add, rP hs, rI hs, rT hs, rR_57 hs, rA_237 hs, rS_237 hs, rR_54 hs, rA_234 hs, rS_234 hs, h1, h2, Bool.toNat_false] at hi ⊢
        exact hi
      · simp (disch := omega) only [e_cl, e_jn, e_lt, e_cxl, e_cxr, e_rzn, ↓l_m1, ↓l_m2, ↓l_m8, l_0, l_1, l_2, l_3, l_4, l_5, l_6, l_7, l_8, l_9, l_10, l_12, l_16, l_20, l_24, l_31, l_32, l_35, l_36, l_40, l_44, l_48, l_59, l_63, l_64, l_90, l_95, l_96, l_100, l_120, l_127, l_200, l_216, l_255, l_999, l_1000, l_10000, l_1000000, l_1048575, l_1000000000, nI_add, pk_mul, pk_sub, nI_leI, nI_ltI, nI_eq, nI_dec, nI_o0, mx_n, mn_n, ab_1, ab_n, e_u2e, e_u2k, e_u2a, if_pos, if_neg, if_true, if_false, not_true, not_false_eq_true, ne_eq, Nat.add_zero, Nat.zero_add, rP hs, rI hs, rT hs, rR_57 hs, rA_237 hs, rS_237 hs, rR_54 hs, rA_234 hs, rS_234 hs, h1, h2, Bool.toNat_true, Bool.toNat_false] at hi ⊢
        exact hi
theorem R_L236 (hs : RS u) {L : Nat} {c1 c2 c3 : Int32} (hL : L ≤ 6) : ∀ (d n fu : Nat) (m : IM), m 200 51 = nI L → n + d = L → d < fu →
    ∃ m', (∀ K, F_X12_sell_L236 200 c1 c2 c3 K fu (nI n) (pm m j u) = K (pm m' j u)) ∧ (∀ b, b ≠ 236 → m' b = m b) ∧ (∀ i, i < n → m' 236 i = m 236 i) ∧ ∀ i, n ≤ i → i < L → m' 236 i = m 235 i := by
  intro d
  induction d with
  | zero =>
    intro n fu m h1 hn hfu
    obtain ⟨fu, rfl⟩ : ∃ g, fu = g + 1 := ⟨fu - 1, by omega⟩
    have e : n = L := by omega
    subst e
    refine ⟨m, fun K => ?_, fun _ _ => rfl, fun _ _ => rfl, fun i h1 h2 => by omega⟩
    simp (disch := omega) only [F_X12_sell_L236, e_cl, e_jn, e_lt, e_cxl, e_cxr, e_rzn, ↓l_m1, ↓l_m2, ↓l_m8, l_0, l_1, l_2, l_3, l_4, l_5, l_6, l_7, l_8, l_9, l_10, l_12, l_16, l_20, l_24, l_31, l_32, l_35, l_36, l_40, l_44, l_48, l_59, l_63, l_64, l_90, l_95, l_96, l_100, l_120, l_127, l_200, l_216, l_255, l_999, l_1000, l_10000, l_1000000, l_1048575, l_1000000000, nI_add, pk_mul, pk_sub, nI_leI, nI_ltI, nI_eq, nI_dec, nI_o0, mx_n, mn_n, ab_1, ab_n, e_u2e, e_u2k, e_u2a, if_pos, if_neg, if_true, if_false, not_true, not_false_eq_true, ne_eq, Nat.add_zero, Nat.zero_add, rP hs, rI hs, rT hs, h1]
  | succ d ih =>
    intro n fu m h1 hn hfu
    obtain ⟨fu, rfl⟩ : ∃ g, fu = g + 1 := ⟨fu - 1, by omega⟩
    obtain ⟨m', i1, i2, i3, i4⟩ := ih (n + 1) fu (u2 m 236 n (m 235 n)) (by rw [e_u2a (by decide)]; exact h1) (by omega) (by omega)
    refine ⟨m', fun K => ?_, fun b h => by rw [i2 b h, e_u2r h], fun i hi => by rw [i3 i (by omega), e_u2k (by omega)], fun i g1 g2 => ?_⟩
    · rw [← i1 K, F_X12_sell_L236]
      simp (disch := omega) only [e_cl, e_jn, e_lt, e_cxl, e_cxr, e_rzn, ↓l_m1, ↓l_m2, ↓l_m8, l_0, l_1, l_2, l_3, l_4, l_5, l_6, l_7, l_8, l_9, l_10, l_12, l_16, l_20, l_24, l_31, l_32, l_35, l_36, l_40, l_44, l_48, l_59, l_63, l_64, l_90, l_95, l_96, l_100, l_120, l_127, l_200, l_216, l_255, l_999, l_1000, l_10000, l_1000000, l_1048575, l_1000000000, nI_add, pk_mul, pk_sub, nI_leI, nI_ltI, nI_eq, nI_dec, nI_o0, mx_n, mn_n, ab_1, ab_n, e_u2e, e_u2k, e_u2a, if_pos, if_neg, if_true, if_false, not_true, not_false_eq_true, ne_eq, Nat.add_zero, Nat.zero_add, rP hs, rI hs, rT hs, rR_55 hs, rA_235 hs, rS_235 hs, rR_56 hs, rA_236 hs, rS_236 hs, h1]
    · by_cases e : i = n
      · subst e; rw [i3 _ (by omega), e_u2s]
      · rw [i4 i (by omega) g2, e_u2a (by decide)]
theorem R_L48 (hs : RS u) {c1 c2 c3 c4 c5 c6 : Int32} : ∀ (d n fu : Nat) (m : IM), n + d = 4 → d < fu →
    ∃ m', (∀ K, F_X12_sell_L48 200 c1 c2 c3 c4 c5 c6 K fu (nI n) (pm m j u) = K (pm m' j u)) ∧ (∀ b, b ≠ 237 → m' b = m b) ∧ (∀ i, i < n → m' 237 i = m 237 i) ∧ ∀ i, n ≤ i → i < 4 → m' 237 i = nI 0 := by
  intro d
  induction d with
  | zero =>
    intro n fu m hn hfu
    obtain ⟨fu, rfl⟩ : ∃ g, fu = g + 1 := ⟨fu - 1, by omega⟩
    have e : n = 4 := by omega
    subst e
    refine ⟨m, fun K => ?_, fun _ _ => rfl, fun _ _ => rfl, fun i h1 h2 => by omega⟩
    simp (disch := omega) only [F_X12_sell_L48, e_cl, e_jn, e_lt, e_cxl, e_cxr, e_rzn, ↓l_m1, ↓l_m2, ↓l_m8, l_0, l_1, l_2, l_3, l_4, l_5, l_6, l_7, l_8, l_9, l_10, l_12, l_16, l_20, l_24, l_31, l_32, l_35, l_36, l_40, l_44, l_48, l_59, l_63, l_64, l_90, l_95, l_96, l_100, l_120, l_127, l_200, l_216, l_255, l_999, l_1000, l_10000, l_1000000, l_1048575, l_1000000000, nI_add, pk_mul, pk_sub, nI_leI, nI_ltI, nI_eq, nI_dec, nI_o0, mx_n, mn_n, ab_1, ab_n, e_u2e, e_u2k, e_u2a, if_pos, if_neg, if_true, if_false, not_true, not_false_eq_true, ne_eq, Nat.add_zero, Nat.zero_add, rP hs, rI hs, rT hs]
  | succ d ih =>
    intro n fu m hn hfu
    obtain ⟨fu, rfl⟩ : ∃ g, fu = g + 1 := ⟨fu - 1, by omega⟩
    obtain ⟨m', i1, i2, i3, i4⟩ := ih (n + 1) fu (u2 m 237 n (nI 0)) (by omega) (by omega)
    refine ⟨m', fun K => ?_, fun b h => by rw [i2 b h, e_u2r h], fun i hi => by rw [i3 i (by omega), e_u2k (by omega)], fun i g1 g2 => ?_⟩
    · rw [← i1 K, F_X12_sell_L48]
      simp (disch := omega) only [e_cl, e_jn, e_lt, e_cxl, e_cxr, e_rzn, ↓l_m1, ↓l_m2, ↓l_m8, l_0, l_1, l_2, l_3, l_4, l_5, l_6, l_7, l_8, l_9, l_10, l_12, l_16, l_20, l_24, l_31, l_32, l_35, l_36, l_40, l_44, l_48, l_59, l_63, l_64, l_90, l_95, l_96, l_100, l_120, l_127, l_200, l_216, l_255, l_999, l_1000, l_10000, l_1000000, l_1048575, l_1000000000, nI_add, pk_mul, pk_sub, nI_leI, nI_ltI, nI_eq, nI_dec, nI_o0, mx_n, mn_n, ab_1, ab_n, e_u2e, e_u2k, e_u2a, if_pos, if_neg, if_true, if_false, not_true, not_false_eq_true, ne_eq, Nat.add_zero, Nat.zero_add, rP hs, rI hs, rT hs, rR_57 hs, rA_237 hs, rS_237 hs]
    · by_cases e : i = n
      · subst e; rw [i3 _ (by omega), e_u2s]
      · exact i4 i (by omega) g2
/-- what the search needs of the reference's memory -/
def RLs (m : IM) (L : Nat) (bd lm : Nat → Nat) : Prop := m 200 51 = nI L ∧ (∀ i, i < 4 * L → m 233 i = nI (bd i)) ∧ ∀ b, b < 4 → m 234 b = nI (lm b)
theorem RLs_fr {m' : IM} {L : Nat} {bd lm : Nat → Nat} (h : RLs m L bd lm) (h0 : m' 200 = m 200) (h1 : m' 233 = m 233) (h2 : m' 234 = m 234) : RLs m' L bd lm := by
  unfold RLs; rw [h0, h1, h2]; exact h
theorem pw6 {L : Nat} (h : L ≤ 6) : 5 ^ L ≤ 15625 := Nat.pow_le_pow_right (n := 5) (j := 6) (by decide) h
theorem R_L31 (hs : RS u) {L : Nat} {bd lm : Nat → Nat} (hL : L ≤ 6) (hbd : ∀ i, i < 24 → bd i ≤ 1000000) (hlm : ∀ b, b < 4 → lm b ≤ 6) : ∀ (n w fu : Nat) (m : IM) (st : Nat × Nat), w + n = 5 ^ L → n < fu → RLs m L bd lm → st.1 ≤ 6000001 → (st.1 ≠ 0 → ∀ i, i < L → m 236 i = nI (dgD L st.2 i)) →
    ∃ m', (∀ K, F_X12_sell_L31 200 (nI (5 ^ L)) K fu (oI st.1) (nI w) (pm m j u) = K (oI (fz bd lm L n w st).1) (pm m' j u)) ∧ (∀ b, b ≠ 235 → b ≠ 236 → b ≠ 237 → m' b = m b) ∧ ((fz bd lm L n w st).1 ≠ 0 → ∀ i, i < L → m' 236 i = nI (dgD L (fz bd lm L n w st).2 i)) := by
  have h5 := pw6 hL
  intro n
  induction n with
  | zero =>
    intro w fu m st hw hfu hR hst hd
    obtain ⟨fu, rfl⟩ : ∃ g, fu = g + 1 := ⟨fu - 1, by omega⟩
    refine ⟨m, fun K => ?_, fun _ _ _ _ => rfl, hd⟩
    rw [F_X12_sell_L31, if_pos (nI_le (by omega) (by omega))]
    rfl
  | succ n ih =>
    intro w fu m st hw hfu hR hst hd
    obtain ⟨fu, rfl⟩ : ∃ g, fu = g + 1 := ⟨fu - 1, by omega⟩
    have n1 : ¬ nI (5 ^ L) ≤ nI w := nI_ge (by omega) (by omega)
    obtain ⟨m1, a1, a2, -, a4⟩ := R_L48 (j := j) (c1 := nI (5 ^ L)) (c2 := oI st.1) (c3 := nI w) (c4 := nI w) (c5 := 0) (c6 := 1) hs 4 0 LF m (by omega) (by unfold LF; omega)
    have hR1 : RLs m1 L bd lm := RLs_fr hR (a2 _ (by decide)) (a2 _ (by decide)) (a2 _ (by decide))
    obtain ⟨m2, b1, b2, b3, b4, b5⟩ := R_L76 (j := j) (c1 := nI (5 ^ L)) (c2 := oI st.1) (c3 := nI w) hs hL hbd L w 0 LF true m1 (fun _ => 0) (Nat.le_refl _) (by omega) (by omega) (fun b => by omega) (fun b hb => a4 b (by omega) hb) hR1.2.1 (by unfold LF; omega)
    have hR2 : RLs m2 L bd lm := RLs_fr hR1 (b2 _ (by decide) (by decide)) (b2 _ (by decide) (by decide)) (b2 _ (by decide) (by decide))
    have c1 := fun K => R_L175 (j := j) (m := m2) (g := true && bkD bd L w) (us := usD L w) (lm := lm) (c1 := nI (5 ^ L)) (c2 := oI st.1) (c3 := nI w) (c5 := nI (0 + sumD bd L w)) hs (fun b => Nat.le_trans (usD_le L w b) hL) hlm (fun b hb => by rw [b3 b hb, Nat.zero_add]) hR2.2.2 K 4 0 LF (by omega) (by unfold LF; omega)
    rw [show alB (fun b => decide (usD L w b ≤ lm b)) 0 = true from rfl, Bool.and_true, alB4] at c1
    have hsum := sumD_le hbd L w hL
    obtain ⟨m3, d1, d2, d3, d4⟩ := R_L236 (j := j) (c1 := nI (5 ^ L)) (c2 := nI (0 + sumD bd L w)) (c3 := nI w) hs hL L 0 LF m2 hR2.1 (by omega) (by unfold LF; omega)
    have head : ∀ K, F_X12_sell_L31 200 (nI (5 ^ L)) K (fu + 1) (oI st.1) (nI w) (pm m j u) = if (bkD bd L w && ((List.range 4).all fun b => decide (usD L w b ≤ lm b))) = true ∧ st.1 < sumD bd L w + 1 then F_X12_sell_L31 200 (nI (5 ^ L)) K fu (nI (sumD bd L w)) (nI (w + 1)) (pm m3 j u) else F_X12_sell_L31 200 (nI (5 ^ L)) K fu (oI st.1) (nI (w + 1)) (pm m2 j u) := fun K => by
      rw [F_X12_sell_L31, if_neg n1, e_jn, show (0 : Int32) = nI 0 from rfl, show (1 : Int32) = nI 1 from rfl]
      have a1' := a1
      rw [show (0 : Int32) = nI 0 from rfl, show (1 : Int32) = nI 1 from rfl] at a1'
      rw [a1']
      try dsimp only
      rw [rI hs, hR1.1, e_lt, show nI L - nI 1 = oI L from rfl, e_jn, show nI 1 = nI true.toNat from rfl, b1]
      try dsimp only
      rw [e_jn, c1]
      try dsimp only
      rw [Bool.true_and, Nat.zero_add, e_jn]
      cases c : (bkD bd L w && ((List.range 4).all fun b => decide (usD L w b ≤ lm b)))
      · rw [if_pos (show nI false.toNat = nI 0 from rfl), if_neg (fun z => by cases z.1)]
        try dsimp only
        rw [show nI true.toNat = nI 1 from rfl, nI_add]
      · rw [if_neg (show ¬ nI true.toNat = nI 0 by decide)]
        by_cases c2 : st.1 < sumD bd L w + 1
        · have q : oI st.1 < nI (sumD bd L w) := by
            by_cases z : st.1 = 0
            · rw [z]; exact o0_lt (by omega)
            · rw [oI_p z]; exact nI_lt (by omega) (by omega)
          rw [if_pos q, if_pos ⟨rfl, c2⟩, e_jn]
          rw [Nat.zero_add] at d1
          rw [d1]
          try dsimp only
          rw [show nI true.toNat = nI 1 from rfl, nI_add]
        · have q : ¬ oI st.1 < nI (sumD bd L w) := by
            rw [oI_p (by omega)]; exact nI_nlt (by omega) (by omega)
          rw [if_neg q, if_neg (fun z => c2 z.2)]
          try dsimp only
          rw [show nI true.toNat = nI 1 from rfl, nI_add]
    by_cases c : (bkD bd L w && ((List.range 4).all fun b => decide (usD L w b ≤ lm b))) = true ∧ st.1 < sumD bd L w + 1
    · have hR3 : RLs m3 L bd lm := RLs_fr hR2 (d2 _ (by decide)) (d2 _ (by decide)) (d2 _ (by decide))
      obtain ⟨m', i1, i2, i3⟩ := ih (w + 1) fu m3 (sumD bd L w + 1, w) (by omega) (by omega) hR3 (by show sumD bd L w + 1 ≤ _; omega) (fun _ i hi => by rw [d4 i (by omega) hi]; exact b5 i hi)
      have e : fz bd lm L (n + 1) w st = fz bd lm L n (w + 1) (sumD bd L w + 1, w) := by rw [fz]; unfold lf; rw [if_pos c]
      refine ⟨m', fun K => ?_, fun b h1 h2 h3 => by rw [i2 b h1 h2 h3, d2 b h2, b2 b h1 h3, a2 b h3], ?_⟩
      · rw [head K, if_pos c, e, ← i1 K, show oI (sumD bd L w + 1, w).1 = nI (sumD bd L w) from oI_s _]
      · rw [e]; exact i3
    · obtain ⟨m', i1, i2, i3⟩ := ih (w + 1) fu m2 st (by omega) (by omega) hR2 hst (fun z i hi => by rw [b2 236 (by decide) (by decide), a2 236 (by decide)]; exact hd z i hi)
      have e : fz bd lm L (n + 1) w st = fz bd lm L n (w + 1) st := by rw [fz]; unfold lf; rw [if_neg c]
      refine ⟨m', fun K => ?_, fun b h1 h2 h3 => by rw [i2 b h1 h2 h3, b2 b h1 h3, a2 b h3], ?_⟩
      · rw [head K, if_neg c, e, ← i1 K]
      · rw [e]; exact i3
end RSELL
