/-! ===== the class: lot, count ===== -/
theorem anyB_of {p : Nat → Bool} : ∀ {n k : Nat}, k < n → p k = true → anyB p n = true
  | 0, k, h, _ => by omega
  | n + 1, k, h, hp => by
    rw [anyB]
    by_cases e : k = n
    · rw [← e, hp, Bool.or_true]
    · rw [anyB_of (show k < n by omega) hp, Bool.true_or]
theorem anyB_non {p : Nat → Bool} : ∀ {n : Nat}, (∀ k, k < n → p k = false) → anyB p n = false
  | 0, _ => rfl
  | n + 1, h => by rw [anyB, anyB_non (fun k hk => h k (by omega)), h n (by omega)]; rfl
section LOTC
variable {m : IM} {j : JM} {u : SU}
theorem C_bits (hc : CS u) {nS a b : Nat} {sg ix an : Nat → Nat → Nat} (hA : CAs m u nS sg ix an) (hS : nS ≤ 40) (ha : a < 2 ^ 20) (hb : b < 2 ^ 20) : F_X11_stoneBits 10 (nI a) (nI b) (pm m j u) = some (if lotB a b < 2 ^ nS then .inr (lN (lotB a b)) else .inl 2, pm m j u) := by
  have hB := lotB_lt ha hb
  have q1 : nI a &&& (-1048576) = 0 := hi12.mpr ⟨a, ha, rfl⟩
  have q2 : nI b &&& (-1048576) = 0 := hi12.mpr ⟨b, hb, rfl⟩
  have e1 : (Int32.toInt64 (nI a)) ||| ((Int32.toInt64 (nI b)) <<< ((Int32.toInt64 20) &&& 63)) = lN (lotB a b) := lotC ha hb
  have e2 : (Int64.toUInt64 (lN (lotB a b)) >>> ((Int32.toInt64 (nI nS)).toUInt64 &&& Int64.toUInt64 63)).toInt64 = lN (lotB a b / 2 ^ nS) := wb_shr (by omega) (by omega)
  by_cases c : lotB a b < 2 ^ nS
  · have hz := lN_z (B := lotB a b) (n := nS) (by omega) c
    simp only [F_X11_stoneBits, e_lt, e_jn, e1, q1, q2, not_true, if_false, cR_10_2 hc, cT_40 hc, C_size hA.1 hA.2.1, e_cl, e2, lg_cmp_eq, hz, if_true, if_pos c]
  · have hz := lN_nz (B := lotB a b) (n := nS) (by omega) c
    simp only [F_X11_stoneBits, e_lt, e_jn, e1, q1, q2, not_true, if_false, cR_10_2 hc, cT_40 hc, C_size hA.1 hA.2.1, e_cl, e2, lg_cmp_eq, hz, if_neg c]
theorem C_bitsNo (hc : CS u) {nS : Nat} {x y : Int32} {sg ix an : Nat → Nat → Nat} (hA : CAs m u nS sg ix an) (hS : nS ≤ 40) (hx : ¬ lotOk nS x y) : F_X11_stoneBits 10 x y (pm m j u) = some (.inl 2, pm m j u) := by
  by_cases q1 : x &&& (-1048576) = 0
  · by_cases q2 : y &&& (-1048576) = 0
    · obtain ⟨a, ha, rfl⟩ := hi12.mp q1
      obtain ⟨b, hb, rfl⟩ := hi12.mp q2
      rw [C_bits hc hA hS ha hb, if_neg (fun w => hx ⟨a, b, ha, hb, rfl, rfl, w⟩)]
    · simp only [F_X11_stoneBits, e_lt, e_jn, q1, not_true, if_false, if_pos (show ¬ y &&& (-1048576) = 0 from q2)]
  · simp only [F_X11_stoneBits, e_lt, e_jn, if_pos (show ¬ x &&& (-1048576) = 0 from q1)]
theorem C_takenL (hc : CS u) {nS nL B : Nat} {sg ix an : Nat → Nat → Nat} (hD : SD nS nL sg ix an) (hL : nL ≤ 6) (hB : B < 2 ^ 62) (hA : CAs m u nS sg ix an) (K1 K2 : PM → Option (Int32 × PM)) : ∀ (d n fu : Nat), n + d = nS → d < fu → (∀ i, i < n → tkB sg B i = false) →
    F_X11_hasTaken_L2 10 (lN B) K1 K2 fu (nI n) (pm m j u) = if anyB (tkB sg B) nS = true then K2 (pm m j u) else K1 (pm m j u) := by
  have hS := hD.1
  intro d
  induction d with
  | zero =>
    intro n fu hn hfu hno
    obtain ⟨fu, rfl⟩ : ∃ g, fu = g + 1 := ⟨fu - 1, by omega⟩
    have e : n = nS := by omega
    subst e
    rw [anyB_non hno, F_X11_hasTaken_L2]
    simp (disch := omega) only [e_cl, e_jn, e_lt, e_cxl, e_cxr, e_rzn, ↓l_m1, ↓l_m2, ↓l_m8, l_0, l_1, l_2, l_3, l_4, l_5, l_6, l_7, l_8, l_9, l_10, l_12, l_16, l_20, l_24, l_31, l_32, l_35, l_36, l_40, l_44, l_48, l_59, l_63, l_64, l_90, l_95, l_96, l_100, l_120, l_127, l_200, l_216, l_255, l_999, l_1000, l_10000, l_1000000, l_1048575, l_1000000000, nI_add, pk_mul, pk_sub, nI_leI, nI_ltI, nI_eq, nI_dec, nI_o0, mx_n, mn_n, ab_1, ab_n, e_u2e, e_u2k, e_u2a, if_pos, if_neg, if_true, if_false, not_true, not_false_eq_true, ne_eq, Nat.add_zero, Nat.zero_add, cG_10 hc, cP_10 hc, cT_10 hc, cR_10_0 hc, cR_10_1 hc, cR_10_2 hc, cR_10_3 hc, cR_10_4 hc, cR_10_5 hc, cR_10_6 hc, cR_10_7 hc, cR_10_8 hc, cG_40 hc, cP_40 hc, cT_40 hc, C_size hA.1 hA.2.1, Bool.false_eq_true]
  | succ d ih =>
    intro n fu hn hfu hno
    obtain ⟨fu, rfl⟩ : ∃ g, fu = g + 1 := ⟨fu - 1, by omega⟩
    have hlt : n < nS := by omega
    obtain ⟨hO, ⟨h0, h1, h2, h5, h6, h7, h8⟩, hF, -⟩ := hA.2.2 n hlt
    obtain ⟨d1, d2, d3, d4, d5, d6, -⟩ := hD.2 n hlt
    have hi := ih (n + 1) fu (by omega) (by omega)
    rw [F_X11_hasTaken_L2]
    cases c : tkB sg B n
    · have hi := hi (fun i hi => by
        by_cases e : i = n
        · rw [e]; exact c
        · exact hno i (by omega))
      rw [← hi]
      unfold tkB at c
      cases hb : B.testBit n
      · have t := tb1 hb
        simp (disch := omega) only [e_cl, e_jn, e_lt, e_cxl, e_cxr, e_rzn, ↓l_m1, ↓l_m2, ↓l_m8, l_0, l_1, l_2, l_3, l_4, l_5, l_6, l_7, l_8, l_9, l_10, l_12, l_16, l_20, l_24, l_31, l_32, l_35, l_36, l_40, l_44, l_48, l_59, l_63, l_64, l_90, l_95, l_96, l_100, l_120, l_127, l_200, l_216, l_255, l_999, l_1000, l_10000, l_1000000, l_1048575, l_1000000000, nI_add, pk_mul, pk_sub, nI_leI, nI_ltI, nI_eq, nI_dec, nI_o0, mx_n, mn_n, ab_1, ab_n, e_u2e, e_u2k, e_u2a, if_pos, if_neg, if_true, if_false, not_true, not_false_eq_true, ne_eq, Nat.add_zero, Nat.zero_add, cG_10 hc, cP_10 hc, cT_10 hc, cR_10_0 hc, cR_10_1 hc, cR_10_2 hc, cR_10_3 hc, cR_10_4 hc, cR_10_5 hc, cR_10_6 hc, cR_10_7 hc, cR_10_8 hc, cG_40 hc, cP_40 hc, cT_40 hc, sG hO, sP hO, sZ_ hO, sT hO, sR8 hO, sR9 hO, sR12 hO, sA1 hO, sA2 hO, sA3 hO, sS1 hO, sS2 hO, sS3 hO, C_size hA.1 hA.2.1, C_get hA.1 hA.2.1 hlt, C_holdsN]
      · rw [hb, Bool.true_and, Bool.or_eq_false_iff] at c
        have c6 : sg n 6 = 0 := by simpa using c.1
        have c7 : sg n 7 = 0 := by simpa using c.2
        have t := tb0 hb
        simp (disch := omega) only [e_cl, e_jn, e_lt, e_cxl, e_cxr, e_rzn, ↓l_m1, ↓l_m2, ↓l_m8, l_0, l_1, l_2, l_3, l_4, l_5, l_6, l_7, l_8, l_9, l_10, l_12, l_16, l_20, l_24, l_31, l_32, l_35, l_36, l_40, l_44, l_48, l_59, l_63, l_64, l_90, l_95, l_96, l_100, l_120, l_127, l_200, l_216, l_255, l_999, l_1000, l_10000, l_1000000, l_1048575, l_1000000000, nI_add, pk_mul, pk_sub, nI_leI, nI_ltI, nI_eq, nI_dec, nI_o0, mx_n, mn_n, ab_1, ab_n, e_u2e, e_u2k, e_u2a, if_pos, if_neg, if_true, if_false, not_true, not_false_eq_true, ne_eq, Nat.add_zero, Nat.zero_add, cG_10 hc, cP_10 hc, cT_10 hc, cR_10_0 hc, cR_10_1 hc, cR_10_2 hc, cR_10_3 hc, cR_10_4 hc, cR_10_5 hc, cR_10_6 hc, cR_10_7 hc, cR_10_8 hc, cG_40 hc, cP_40 hc, cT_40 hc, sG hO, sP hO, sZ_ hO, sT hO, sR8 hO, sR9 hO, sR12 hO, sA1 hO, sA2 hO, sA3 hO, sS1 hO, sS2 hO, sS3 hO, C_size hA.1 hA.2.1, C_get hA.1 hA.2.1 hlt, C_holdsN, h7, h8, c6, c7]
    · rw [anyB_of hlt c, if_pos rfl]
      unfold tkB at c
      rw [Bool.and_eq_true, Bool.or_eq_true] at c
      have t := tb0 c.1
      by_cases c6 : sg n 6 = 0
      · have c7 : sg n 7 ≠ 0 := by rcases c.2 with z | z <;> simp_all
        simp (disch := omega) only [e_cl, e_jn, e_lt, e_cxl, e_cxr, e_rzn, ↓l_m1, ↓l_m2, ↓l_m8, l_0, l_1, l_2, l_3, l_4, l_5, l_6, l_7, l_8, l_9, l_10, l_12, l_16, l_20, l_24, l_31, l_32, l_35, l_36, l_40, l_44, l_48, l_59, l_63, l_64, l_90, l_95, l_96, l_100, l_120, l_127, l_200, l_216, l_255, l_999, l_1000, l_10000, l_1000000, l_1048575, l_1000000000, nI_add, pk_mul, pk_sub, nI_leI, nI_ltI, nI_eq, nI_dec, nI_o0, mx_n, mn_n, ab_1, ab_n, e_u2e, e_u2k, e_u2a, if_pos, if_neg, if_true, if_false, not_true, not_false_eq_true, ne_eq, Nat.add_zero, Nat.zero_add, cG_10 hc, cP_10 hc, cT_10 hc, cR_10_0 hc, cR_10_1 hc, cR_10_2 hc, cR_10_3 hc, cR_10_4 hc, cR_10_5 hc, cR_10_6 hc, cR_10_7 hc, cR_10_8 hc, cG_40 hc, cP_40 hc, cT_40 hc, sG hO, sP hO, sZ_ hO, sT hO, sR8 hO, sR9 hO, sR12 hO, sA1 hO, sA2 hO, sA3 hO, sS1 hO, sS2 hO, sS3 hO, C_size hA.1 hA.2.1, C_get hA.1 hA.2.1 hlt, C_holdsN, h7, h8, c6, oI_ne c7 (show sg n 7 < 2 ^ 31 by omega)]
      · simp (disch := omega) only [e_cl, e_jn, e_lt, e_cxl, e_cxr, e_rzn, ↓l_m1, ↓l_m2, ↓l_m8, l_0, l_1, l_2, l_3, l_4, l_5, l_6, l_7, l_8, l_9, l_10, l_12, l_16, l_20, l_24, l_31, l_32, l_35, l_36, l_40, l_44, l_48, l_59, l_63, l_64, l_90, l_95, l_96, l_100, l_120, l_127, l_200, l_216, l_255, l_999, l_1000, l_10000, l_1000000, l_1048575, l_1000000000, nI_add, pk_mul, pk_sub, nI_leI, nI_ltI, nI_eq, nI_dec, nI_o0, mx_n, mn_n, ab_1, ab_n, e_u2e, e_u2k, e_u2a, if_pos, if_neg, if_true, if_false, not_true, not_false_eq_true, ne_eq, Nat.add_zero, Nat.zero_add, cG_10 hc, cP_10 hc, cT_10 hc, cR_10_0 hc, cR_10_1 hc, cR_10_2 hc, cR_10_3 hc, cR_10_4 hc, cR_10_5 hc, cR_10_6 hc, cR_10_7 hc, cR_10_8 hc, cG_40 hc, cP_40 hc, cT_40 hc, sG hO, sP hO, sZ_ hO, sT hO, sR8 hO, sR9 hO, sR12 hO, sA1 hO, sA2 hO, sA3 hO, sS1 hO, sS2 hO, sS3 hO, C_size hA.1 hA.2.1, C_get hA.1 hA.2.1 hlt, C_holdsN, h7, oI_ne c6 (show sg n 6 < 2 ^ 31 by omega)]
theorem C_pairL (hc : CS u) {nS nL B : Nat} {sg ix an : Nat → Nat → Nat} (hD : SD nS nL sg ix an) (hB : B < 2 ^ 62) (hA : CAs m u nS sg ix an) (K1 K2 : PM → Option (Int32 × PM)) : ∀ (d n fu : Nat), n + d = nS → d < fu → (∀ i, i < n → lkB sg B i = false) →
    F_X11_partsPair_L2 10 (lN B) K1 K2 fu (nI n) (pm m j u) = if anyB (lkB sg B) nS = true then K2 (pm m j u) else K1 (pm m j u) := by
  have hS := hD.1
  intro d
  induction d with
  | zero =>
    intro n fu hn hfu hno
    obtain ⟨fu, rfl⟩ : ∃ g, fu = g + 1 := ⟨fu - 1, by omega⟩
    have e : n = nS := by omega
    subst e
    rw [anyB_non hno, F_X11_partsPair_L2]
    simp (disch := omega) only [e_cl, e_jn, e_lt, e_cxl, e_cxr, e_rzn, ↓l_m1, ↓l_m2, ↓l_m8, l_0, l_1, l_2, l_3, l_4, l_5, l_6, l_7, l_8, l_9, l_10, l_12, l_16, l_20, l_24, l_31, l_32, l_35, l_36, l_40, l_44, l_48, l_59, l_63, l_64, l_90, l_95, l_96, l_100, l_120, l_127, l_200, l_216, l_255, l_999, l_1000, l_10000, l_1000000, l_1048575, l_1000000000, nI_add, pk_mul, pk_sub, nI_leI, nI_ltI, nI_eq, nI_dec, nI_o0, mx_n, mn_n, ab_1, ab_n, e_u2e, e_u2k, e_u2a, if_pos, if_neg, if_true, if_false, not_true, not_false_eq_true, ne_eq, Nat.add_zero, Nat.zero_add, cG_10 hc, cP_10 hc, cT_10 hc, cR_10_0 hc, cR_10_1 hc, cR_10_2 hc, cR_10_3 hc, cR_10_4 hc, cR_10_5 hc, cR_10_6 hc, cR_10_7 hc, cR_10_8 hc, cG_40 hc, cP_40 hc, cT_40 hc, C_size hA.1 hA.2.1, Bool.false_eq_true]
  | succ d ih =>
    intro n fu hn hfu hno
    obtain ⟨fu, rfl⟩ : ∃ g, fu = g + 1 := ⟨fu - 1, by omega⟩
    have hlt : n < nS := by omega
    obtain ⟨hO, ⟨h0, h1, h2, h5, h6, h7, h8⟩, hF, -⟩ := hA.2.2 n hlt
    obtain ⟨d1, d2, d3, d4, d5, d6, -⟩ := hD.2 n hlt
    have hi := ih (n + 1) fu (by omega) (by omega)
    rw [F_X11_partsPair_L2]
    cases c : lkB sg B n
    · have hi := hi (fun i hi => by
        by_cases e : i = n
        · rw [e]; exact c
        · exact hno i (by omega))
      rw [← hi]
      unfold lkB at c
      cases hb : B.testBit n
      · have t := tb1 hb
        simp (disch := omega) only [e_cl, e_jn, e_lt, e_cxl, e_cxr, e_rzn, ↓l_m1, ↓l_m2, ↓l_m8, l_0, l_1, l_2, l_3, l_4, l_5, l_6, l_7, l_8, l_9, l_10, l_12, l_16, l_20, l_24, l_31, l_32, l_35, l_36, l_40, l_44, l_48, l_59, l_63, l_64, l_90, l_95, l_96, l_100, l_120, l_127, l_200, l_216, l_255, l_999, l_1000, l_10000, l_1000000, l_1048575, l_1000000000, nI_add, pk_mul, pk_sub, nI_leI, nI_ltI, nI_eq, nI_dec, nI_o0, mx_n, mn_n, ab_1, ab_n, e_u2e, e_u2k, e_u2a, if_pos, if_neg, if_true, if_false, not_true, not_false_eq_true, ne_eq, Nat.add_zero, Nat.zero_add, cG_10 hc, cP_10 hc, cT_10 hc, cR_10_0 hc, cR_10_1 hc, cR_10_2 hc, cR_10_3 hc, cR_10_4 hc, cR_10_5 hc, cR_10_6 hc, cR_10_7 hc, cR_10_8 hc, cG_40 hc, cP_40 hc, cT_40 hc, sG hO, sP hO, sZ_ hO, sT hO, sR8 hO, sR9 hO, sR12 hO, sA1 hO, sA2 hO, sA3 hO, sS1 hO, sS2 hO, sS3 hO, C_size hA.1 hA.2.1, C_get hA.1 hA.2.1 hlt, C_holdsN, h6]
      · rw [hb, Bool.true_and, Bool.and_eq_false_iff] at c
        have t := tb0 hb
        by_cases c5 : sg n 5 = 0
        · simp (disch := omega) only [e_cl, e_jn, e_lt, e_cxl, e_cxr, e_rzn, ↓l_m1, ↓l_m2, ↓l_m8, l_0, l_1, l_2, l_3, l_4, l_5, l_6, l_7, l_8, l_9, l_10, l_12, l_16, l_20, l_24, l_31, l_32, l_35, l_36, l_40, l_44, l_48, l_59, l_63, l_64, l_90, l_95, l_96, l_100, l_120, l_127, l_200, l_216, l_255, l_999, l_1000, l_10000, l_1000000, l_1048575, l_1000000000, nI_add, pk_mul, pk_sub, nI_leI, nI_ltI, nI_eq, nI_dec, nI_o0, mx_n, mn_n, ab_1, ab_n, e_u2e, e_u2k, e_u2a, if_pos, if_neg, if_true, if_false, not_true, not_false_eq_true, ne_eq, Nat.add_zero, Nat.zero_add, cG_10 hc, cP_10 hc, cT_10 hc, cR_10_0 hc, cR_10_1 hc, cR_10_2 hc, cR_10_3 hc, cR_10_4 hc, cR_10_5 hc, cR_10_6 hc, cR_10_7 hc, cR_10_8 hc, cG_40 hc, cP_40 hc, cT_40 hc, sG hO, sP hO, sZ_ hO, sT hO, sR8 hO, sR9 hO, sR12 hO, sA1 hO, sA2 hO, sA3 hO, sS1 hO, sS2 hO, sS3 hO, C_size hA.1 hA.2.1, C_get hA.1 hA.2.1 hlt, C_holdsN, h6, c5]
        · have c8 : B.testBit (sg n 5 - 1) = true := by rcases c with z | z <;> simp_all
          have t' := tb0 c8
          simp (disch := omega) only [e_cl, e_jn, e_lt, e_cxl, e_cxr, e_rzn, ↓l_m1, ↓l_m2, ↓l_m8, l_0, l_1, l_2, l_3, l_4, l_5, l_6, l_7, l_8, l_9, l_10, l_12, l_16, l_20, l_24, l_31, l_32, l_35, l_36, l_40, l_44, l_48, l_59, l_63, l_64, l_90, l_95, l_96, l_100, l_120, l_127, l_200, l_216, l_255, l_999, l_1000, l_10000, l_1000000, l_1048575, l_1000000000, nI_add, pk_mul, pk_sub, nI_leI, nI_ltI, nI_eq, nI_dec, nI_o0, mx_n, mn_n, ab_1, ab_n, e_u2e, e_u2k, e_u2a, if_pos, if_neg, if_true, if_false, not_true, not_false_eq_true, ne_eq, Nat.add_zero, Nat.zero_add, cG_10 hc, cP_10 hc, cT_10 hc, cR_10_0 hc, cR_10_1 hc, cR_10_2 hc, cR_10_3 hc, cR_10_4 hc, cR_10_5 hc, cR_10_6 hc, cR_10_7 hc, cR_10_8 hc, cG_40 hc, cP_40 hc, cT_40 hc, sG hO, sP hO, sZ_ hO, sT hO, sR8 hO, sR9 hO, sR12 hO, sA1 hO, sA2 hO, sA3 hO, sS1 hO, sS2 hO, sS3 hO, C_size hA.1 hA.2.1, C_get hA.1 hA.2.1 hlt, C_holdsN, h6, oI_p c5]
    · rw [anyB_of hlt c, if_pos rfl]
      unfold lkB at c
      rw [Bool.and_eq_true, Bool.and_eq_true] at c
      have t := tb0 c.1
      have c5 : sg n 5 ≠ 0 := by simpa using c.2.1
      have c8 : B.testBit (sg n 5 - 1) = false := by simpa using c.2.2
      have t' := tb1 c8
      simp (disch := omega) only [e_cl, e_jn, e_lt, e_cxl, e_cxr, e_rzn, ↓l_m1, ↓l_m2, ↓l_m8, l_0, l_1, l_2, l_3, l_4, l_5, l_6, l_7, l_8, l_9, l_10, l_12, l_16, l_20, l_24, l_31, l_32, l_35, l_36, l_40, l_44, l_48, l_59, l_63, l_64, l_90, l_95, l_96, l_100, l_120, l_127, l_200, l_216, l_255, l_999, l_1000, l_10000, l_1000000, l_1048575, l_1000000000, nI_add, pk_mul, pk_sub, nI_leI, nI_ltI, nI_eq, nI_dec, nI_o0, mx_n, mn_n, ab_1, ab_n, e_u2e, e_u2k, e_u2a, if_pos, if_neg, if_true, if_false, not_true, not_false_eq_true, ne_eq, Nat.add_zero, Nat.zero_add, cG_10 hc, cP_10 hc, cT_10 hc, cR_10_0 hc, cR_10_1 hc, cR_10_2 hc, cR_10_3 hc, cR_10_4 hc, cR_10_5 hc, cR_10_6 hc, cR_10_7 hc, cR_10_8 hc, cG_40 hc, cP_40 hc, cT_40 hc, sG hO, sP hO, sZ_ hO, sT hO, sR8 hO, sR9 hO, sR12 hO, sA1 hO, sA2 hO, sA3 hO, sS1 hO, sS2 hO, sS3 hO, C_size hA.1 hA.2.1, C_get hA.1 hA.2.1 hlt, C_holdsN, h6, oI_p c5]
theorem C_lotL (hc : CS u) {nS nL B : Nat} {sg ix an : Nat → Nat → Nat} (hS : nS ≤ 40) (hL : nL ≤ 6) (hB : B < 2 ^ 62) (K : PM → Option ((Nat ⊕ Int32) × PM)) : ∀ (d n fu : Nat) (m : IM), CAs m u nS (fun s k => if k = 6 ∧ B.testBit s = true ∧ s < n then nL + 1 else sg s k) ix an → n + d = nS → d < fu →
    ∃ m', F_X11_lot_L90 10 (lN B) (nI nL) K fu (nI n) (pm m j u) = K (pm m' j u) ∧ (∀ b, b < 4000 → m' b = m b) ∧ CAs m' u nS (fun s k => if k = 6 ∧ B.testBit s = true ∧ s < nS then nL + 1 else sg s k) ix an := by
  intro d
  induction d with
  | zero =>
    intro n fu m hA hn hfu
    obtain ⟨fu, rfl⟩ : ∃ g, fu = g + 1 := ⟨fu - 1, by omega⟩
    have e : n = nS := by omega
    subst e
    refine ⟨m, ?_, fun _ _ => rfl, hA⟩
    rw [F_X11_lot_L90]
    simp (disch := omega) only [e_cl, e_jn, e_lt, e_cxl, e_cxr, e_rzn, ↓l_m1, ↓l_m2, ↓l_m8, l_0, l_1, l_2, l_3, l_4, l_5, l_6, l_7, l_8, l_9, l_10, l_12, l_16, l_20, l_24, l_31, l_32, l_35, l_36, l_40, l_44, l_48, l_59, l_63, l_64, l_90, l_95, l_96, l_100, l_120, l_127, l_200, l_216, l_255, l_999, l_1000, l_10000, l_1000000, l_1048575, l_1000000000, nI_add, pk_mul, pk_sub, nI_leI, nI_ltI, nI_eq, nI_dec, nI_o0, mx_n, mn_n, ab_1, ab_n, e_u2e, e_u2k, e_u2a, if_pos, if_neg, if_true, if_false, not_true, not_false_eq_true, ne_eq, Nat.add_zero, Nat.zero_add, cG_10 hc, cP_10 hc, cT_10 hc, cR_10_0 hc, cR_10_1 hc, cR_10_2 hc, cR_10_3 hc, cR_10_4 hc, cR_10_5 hc, cR_10_6 hc, cR_10_7 hc, cR_10_8 hc, cG_40 hc, cP_40 hc, cT_40 hc, C_size hA.1 hA.2.1]
  | succ d ih =>
    intro n fu m hA hn hfu
    obtain ⟨fu, rfl⟩ : ∃ g, fu = g + 1 := ⟨fu - 1, by omega⟩
    have hlt : n < nS := by omega
    have hS' := hA.2.2 n hlt
    obtain ⟨hO, ⟨h0, h1, h2, h5, h6, h7, h8⟩, hF, hpl⟩ := hS'
    have ha : 4000 ≤ nmS n := by unfold nmS; omega
    cases hb : B.testBit n
    · have t := tb1 hb
      obtain ⟨m', i1, i2, i3⟩ := ih (n + 1) fu m (by
        have e : (fun s k => if k = 6 ∧ B.testBit s = true ∧ s < n + 1 then nL + 1 else sg s k) = (fun s k => if k = 6 ∧ B.testBit s = true ∧ s < n then nL + 1 else sg s k) := by
          funext s k
          by_cases e : s = n
          · subst e; rw [if_neg (fun z => by rw [hb] at z; cases z.2.1), if_neg (fun z => by rw [hb] at z; cases z.2.1)]
          · by_cases c : k = 6 ∧ B.testBit s = true ∧ s < n
            · rw [if_pos c, if_pos ⟨c.1, c.2.1, by omega⟩]
            · rw [if_neg c, if_neg (fun z => c ⟨z.1, z.2.1, by omega⟩)]
        rw [e]; exact hA) (by omega) (by omega)
      refine ⟨m', ?_, i2, i3⟩
      rw [F_X11_lot_L90]
      simp (disch := omega) only [e_cl, e_jn, e_lt, e_cxl, e_cxr, e_rzn, ↓l_m1, ↓l_m2, ↓l_m8, l_0, l_1, l_2, l_3, l_4, l_5, l_6, l_7, l_8, l_9, l_10, l_12, l_16, l_20, l_24, l_31, l_32, l_35, l_36, l_40, l_44, l_48, l_59, l_63, l_64, l_90, l_95, l_96, l_100, l_120, l_127, l_200, l_216, l_255, l_999, l_1000, l_10000, l_1000000, l_1048575, l_1000000000, nI_add, pk_mul, pk_sub, nI_leI, nI_ltI, nI_eq, nI_dec, nI_o0, mx_n, mn_n, ab_1, ab_n, e_u2e, e_u2k, e_u2a, if_pos, if_neg, if_true, if_false, not_true, not_false_eq_true, ne_eq, Nat.add_zero, Nat.zero_add, cG_10 hc, cP_10 hc, cT_10 hc, cR_10_0 hc, cR_10_1 hc, cR_10_2 hc, cR_10_3 hc, cR_10_4 hc, cR_10_5 hc, cR_10_6 hc, cR_10_7 hc, cR_10_8 hc, cG_40 hc, cP_40 hc, cT_40 hc, sG hO, sP hO, sZ_ hO, sT hO, sR8 hO, sR9 hO, sR12 hO, sA1 hO, sA2 hO, sA3 hO, sS1 hO, sS2 hO, sS3 hO, C_size hA.1 hA.2.1, C_holdsN] at i1 ⊢
      exact i1
    · have t := tb0 hb
      obtain ⟨m', i1, i2, i3⟩ := ih (n + 1) fu (u2 m (nmS n) 5 (nI nL)) (by
        refine CAs_up hA hlt (by rw [e_u2a (by omega)]) ⟨hO, ?_, ?_, ?_⟩ (fun b h1 h2 => e_u2r (by omega)) (fun s hs e => ⟨?_, rfl, rfl⟩)
        · simp (disch := omega) only [e_u2k, e_u2s]
          refine ⟨by rw [h0]; simp, by rw [h1]; simp, by rw [h2]; simp, by rw [h5]; simp, by rw [h6]; simp, ?_, by rw [h8]; simp⟩
          simp [hb, oI_s]
        · have hF' : FC m (nmS n) (sg n 3) (ix n) (an n) := by simpa using hF
          have : FC (u2 m (nmS n) 5 (nI nL)) (nmS n) (sg n 3) (ix n) (an n) := FC_fr hF' (e_u2k (by decide)) (e_u2r (by omega)) (e_u2r (by omega))
          simpa using this
        · have hpl' : ∃ pl, m (nmS n) 10 = nI pl ∧ pl ≤ sg n 3 ∧ (pl = sg n 3 → m (nmS n) 11 = nI (plN (ix n) (an n) (sg n 3)) ∧ ∀ k, k < sg n 3 → m (nmS n + 3) k = nI (plO (ix n) (an n) (sg n 3) k)) := by simpa using hpl
          have : ∃ pl, u2 m (nmS n) 5 (nI nL) (nmS n) 10 = nI pl ∧ pl ≤ sg n 3 ∧ (pl = sg n 3 → u2 m (nmS n) 5 (nI nL) (nmS n) 11 = nI (plN (ix n) (an n) (sg n 3)) ∧ ∀ k, k < sg n 3 → u2 m (nmS n) 5 (nI nL) (nmS n + 3) k = nI (plO (ix n) (an n) (sg n 3) k)) := by
            simp (disch := omega) only [e_u2k, e_u2a]
            exact hpl'
          simpa using this
        · funext k
          by_cases c : k = 6 ∧ B.testBit s = true ∧ s < n
          · rw [if_pos c, if_pos ⟨c.1, c.2.1, by omega⟩]
          · rw [if_neg c, if_neg (fun z => c ⟨z.1, z.2.1, by omega⟩)]) (by omega) (by omega)
      refine ⟨m', ?_, fun b hb => by rw [i2 b hb, e_u2r (by omega)], i3⟩
      rw [F_X11_lot_L90]
      simp (disch := omega) only [e_cl, e_jn, e_lt, e_cxl, e_cxr, e_rzn, ↓l_m1, ↓l_m2, ↓l_m8, l_0, l_1, l_2, l_3, l_4, l_5, l_6, l_7, l_8, l_9, l_10, l_12, l_16, l_20, l_24, l_31, l_32, l_35, l_36, l_40, l_44, l_48, l_59, l_63, l_64, l_90, l_95, l_96, l_100, l_120, l_127, l_200, l_216, l_255, l_999, l_1000, l_10000, l_1000000, l_1048575, l_1000000000, nI_add, pk_mul, pk_sub, nI_leI, nI_ltI, nI_eq, nI_dec, nI_o0, mx_n, mn_n, ab_1, ab_n, e_u2e, e_u2k, e_u2a, if_pos, if_neg, if_true, if_false, not_true, not_false_eq_true, ne_eq, Nat.add_zero, Nat.zero_add, cG_10 hc, cP_10 hc, cT_10 hc, cR_10_0 hc, cR_10_1 hc, cR_10_2 hc, cR_10_3 hc, cR_10_4 hc, cR_10_5 hc, cR_10_6 hc, cR_10_7 hc, cR_10_8 hc, cG_40 hc, cP_40 hc, cT_40 hc, sG hO, sP hO, sZ_ hO, sT hO, sR8 hO, sR9 hO, sR12 hO, sA1 hO, sA2 hO, sA3 hO, sS1 hO, sS2 hO, sS3 hO, C_size hA.1 hA.2.1, C_get hA.1 hA.2.1 hlt, C_holdsN] at i1 ⊢
      exact i1
theorem C_lot1 (hc : CS u) {nS : Nat} {x y : Int32} {sg ix an : Nat → Nat → Nat} (hA : CAs m u nS sg ix an) (hS : nS ≤ 40) (hx : ¬ lotOk nS x y) : F_X11_lot 10 x y (pm m j u) = some (.inl 2, pm m j u) := by
  simp only [F_X11_lot, cT_10 hc, C_bitsNo hc hA hS hx, e_cxl]
theorem ct_64 {B nS : Nat} (hS : nS ≤ 40) (hB : B < 2 ^ nS) : fb_ct B.testBit 64 = fb_ct B.testBit nS := by
  obtain ⟨d, hd⟩ : ∃ d, 64 = nS + d := ⟨64 - nS, by omega⟩
  rw [hd, fb_ct_split]
  have z : fb_ct (fun k => B.testBit (nS + k)) d = 0 := fb_ct_zero.mpr (fun k _ => Nat.testBit_lt_two_pow (Nat.lt_of_lt_of_le hB (Nat.pow_le_pow_right (by decide) (by omega))))
  rw [z, Nat.add_zero]
theorem C_lot2 (hc : CS u) {nS nL a b : Nat} {sg ix an : Nat → Nat → Nat} {br : Int32} {bd lm : Nat → Nat} (hD : SD nS nL sg ix an) (hLD : LD nL bd lm) (hA : CAs m u nS sg ix an) (hL : CAl m nL br bd lm) (ha : a < 2 ^ 20) (hb : b < 2 ^ 20) (hB : lotB a b < 2 ^ nS) : ∃ m', F_X11_lot 10 (nI a) (nI b) (pm m j u) = some (.inr (lotA sg nS nL (lotB a b)), pm m' j u) ∧ (∀ b, b < 4000 → b ≠ 100 → m' b = m b) ∧
    (¬ lotGood sg nS nL (lotB a b) → CAs m' u nS sg ix an ∧ CAl m' nL br bd lm) ∧ (lotGood sg nS nL (lotB a b) → CAs m' u nS (lotS sg (lotB a b) nL) ix an ∧ CAl m' (nL + 1) br bd lm) := by
  have hS := hD.1
  have hL6 := hLD.1
  have hB40 := lotB_lt ha hb
  have hbits := C_bits (j := j) hc hA hS ha hb
  rw [if_pos hB] at hbits
  have hct := C_bitCount (B := lotB a b) (by omega) (pm m j u)
  rw [ct_64 hS hB] at hct
  have hcl := fb_ct_le (lotB a b).testBit nS
  have htk := fun K1 K2 => C_takenL (j := j) (B := lotB a b) hc hD hL6 (by omega) hA K1 K2 nS 0 LF (by omega) (by unfold LF; omega) (fun i hi => by omega)
  have hlk := fun K1 K2 => C_pairL (j := j) (B := lotB a b) hc hD (by omega) hA K1 K2 nS 0 LF (by omega) (by unfold LF; omega) (fun i hi => by omega)
  have fin : ∀ X, ¬ lotGood sg nS nL (lotB a b) → F_X11_lot 10 (nI a) (nI b) (pm m j u) = some (.inr X, pm m j u) → X = lotA sg nS nL (lotB a b) → ∃ m', F_X11_lot 10 (nI a) (nI b) (pm m j u) = some (.inr (lotA sg nS nL (lotB a b)), pm m' j u) ∧ (∀ b, b < 4000 → b ≠ 100 → m' b = m b) ∧ (¬ lotGood sg nS nL (lotB a b) → CAs m' u nS sg ix an ∧ CAl m' nL br bd lm) ∧ (lotGood sg nS nL (lotB a b) → CAs m' u nS (lotS sg (lotB a b) nL) ix an ∧ CAl m' (nL + 1) br bd lm) := fun X hg hF hX => ⟨m, by rw [hF, hX], fun _ _ _ => rfl, fun _ => ⟨hA, hL⟩, fun g => absurd g hg⟩
  by_cases c1 : fb_ct (lotB a b).testBit nS < 1 ∨ 10 < fb_ct (lotB a b).testBit nS
  · refine fin (-1) (fun g => g.1 c1) ?_ (by unfold lotA; rw [if_pos c1])
    rcases c1 with c1 | c1
    · simp (disch := omega) only [F_X11_lot, e_cl, e_jn, e_lt, e_cxl, e_cxr, e_rzn, ↓l_m1, ↓l_m2, ↓l_m8, l_0, l_1, l_2, l_3, l_4, l_5, l_6, l_7, l_8, l_9, l_10, l_12, l_16, l_20, l_24, l_31, l_32, l_35, l_36, l_40, l_44, l_48, l_59, l_63, l_64, l_90, l_95, l_96, l_100, l_120, l_127, l_200, l_216, l_255, l_999, l_1000, l_10000, l_1000000, l_1048575, l_1000000000, nI_add, pk_mul, pk_sub, nI_leI, nI_ltI, nI_eq, nI_dec, nI_o0, mx_n, mn_n, ab_1, ab_n, e_u2e, e_u2k, e_u2a, if_pos, if_neg, if_true, if_false, not_true, not_false_eq_true, ne_eq, Nat.add_zero, Nat.zero_add, cG_10 hc, cP_10 hc, cT_10 hc, cR_10_0 hc, cR_10_1 hc, cR_10_2 hc, cR_10_3 hc, cR_10_4 hc, cR_10_5 hc, cR_10_6 hc, cR_10_7 hc, cR_10_8 hc, hbits, hct]
    · simp (disch := omega) only [F_X11_lot, e_cl, e_jn, e_lt, e_cxl, e_cxr, e_rzn, ↓l_m1, ↓l_m2, ↓l_m8, l_0, l_1, l_2, l_3, l_4, l_5, l_6, l_7, l_8, l_9, l_10, l_12, l_16, l_20, l_24, l_31, l_32, l_35, l_36, l_40, l_44, l_48, l_59, l_63, l_64, l_90, l_95, l_96, l_100, l_120, l_127, l_200, l_216, l_255, l_999, l_1000, l_10000, l_1000000, l_1048575, l_1000000000, nI_add, pk_mul, pk_sub, nI_leI, nI_ltI, nI_eq, nI_dec, nI_o0, mx_n, mn_n, ab_1, ab_n, e_u2e, e_u2k, e_u2a, if_pos, if_neg, if_true, if_false, not_true, not_false_eq_true, ne_eq, Nat.add_zero, Nat.zero_add, cG_10 hc, cP_10 hc, cT_10 hc, cR_10_0 hc, cR_10_1 hc, cR_10_2 hc, cR_10_3 hc, cR_10_4 hc, cR_10_5 hc, cR_10_6 hc, cR_10_7 hc, cR_10_8 hc, hbits, hct]
  · by_cases c2 : anyB (tkB sg (lotB a b)) nS = true
    · refine fin (-2) (fun g => g.2.1 c2) ?_ (by unfold lotA; rw [if_neg c1, if_pos c2])
      simp only [if_pos c2] at htk
      simp (disch := omega) only [F_X11_lot, F_X11_hasTaken, e_cl, e_jn, e_lt, e_cxl, e_cxr, e_rzn, ↓l_m1, ↓l_m2, ↓l_m8, l_0, l_1, l_2, l_3, l_4, l_5, l_6, l_7, l_8, l_9, l_10, l_12, l_16, l_20, l_24, l_31, l_32, l_35, l_36, l_40, l_44, l_48, l_59, l_63, l_64, l_90, l_95, l_96, l_100, l_120, l_127, l_200, l_216, l_255, l_999, l_1000, l_10000, l_1000000, l_1048575, l_1000000000, nI_add, pk_mul, pk_sub, nI_leI, nI_ltI, nI_eq, nI_dec, nI_o0, mx_n, mn_n, ab_1, ab_n, e_u2e, e_u2k, e_u2a, if_pos, if_neg, if_true, if_false, not_true, not_false_eq_true, ne_eq, Nat.add_zero, Nat.zero_add, cG_10 hc, cP_10 hc, cT_10 hc, cR_10_0 hc, cR_10_1 hc, cR_10_2 hc, cR_10_3 hc, cR_10_4 hc, cR_10_5 hc, cR_10_6 hc, cR_10_7 hc, cR_10_8 hc, hbits, hct, htk]
    · simp only [if_neg c2] at htk
      by_cases c3 : anyB (lkB sg (lotB a b)) nS = true
      · refine fin (-3) (fun g => g.2.2.1 c3) ?_ (by unfold lotA; rw [if_neg c1, if_neg c2, if_pos c3])
        simp only [if_pos c3] at hlk
        simp (disch := omega) only [F_X11_lot, F_X11_hasTaken, F_X11_partsPair, e_cl, e_jn, e_lt, e_cxl, e_cxr, e_rzn, ↓l_m1, ↓l_m2, ↓l_m8, l_0, l_1, l_2, l_3, l_4, l_5, l_6, l_7, l_8, l_9, l_10, l_12, l_16, l_20, l_24, l_31, l_32, l_35, l_36, l_40, l_44, l_48, l_59, l_63, l_64, l_90, l_95, l_96, l_100, l_120, l_127, l_200, l_216, l_255, l_999, l_1000, l_10000, l_1000000, l_1048575, l_1000000000, nI_add, pk_mul, pk_sub, nI_leI, nI_ltI, nI_eq, nI_dec, nI_o0, mx_n, mn_n, ab_1, ab_n, e_u2e, e_u2k, e_u2a, if_pos, if_neg, if_true, if_false, not_true, not_false_eq_true, ne_eq, Nat.add_zero, Nat.zero_add, cG_10 hc, cP_10 hc, cT_10 hc, cR_10_0 hc, cR_10_1 hc, cR_10_2 hc, cR_10_3 hc, cR_10_4 hc, cR_10_5 hc, cR_10_6 hc, cR_10_7 hc, cR_10_8 hc, hbits, hct, htk, hlk]
      · simp only [if_neg c3] at hlk
        by_cases c4 : nL = 6
        · refine fin (-4) (fun g => g.2.2.2 c4) ?_ (by unfold lotA; rw [if_neg c1, if_neg c2, if_neg c3, if_pos c4])
          simp (disch := omega) only [F_X11_lot, F_X11_hasTaken, F_X11_partsPair, e_cl, e_jn, e_lt, e_cxl, e_cxr, e_rzn, ↓l_m1, ↓l_m2, ↓l_m8, l_0, l_1, l_2, l_3, l_4, l_5, l_6, l_7, l_8, l_9, l_10, l_12, l_16, l_20, l_24, l_31, l_32, l_35, l_36, l_40, l_44, l_48, l_59, l_63, l_64, l_90, l_95, l_96, l_100, l_120, l_127, l_200, l_216, l_255, l_999, l_1000, l_10000, l_1000000, l_1048575, l_1000000000, nI_add, pk_mul, pk_sub, nI_leI, nI_ltI, nI_eq, nI_dec, nI_o0, mx_n, mn_n, ab_1, ab_n, e_u2e, e_u2k, e_u2a, if_pos, if_neg, if_true, if_false, not_true, not_false_eq_true, ne_eq, Nat.add_zero, Nat.zero_add, cG_10 hc, cP_10 hc, cT_10 hc, cR_10_0 hc, cR_10_1 hc, cR_10_2 hc, cR_10_3 hc, cR_10_4 hc, cR_10_5 hc, cR_10_6 hc, cR_10_7 hc, cR_10_8 hc, cG_100 hc, cP_100 hc, cT_100 hc, cR_100_0 hc, cA_101 hc, cS_101 hc, cR_100_1 hc, cA_102 hc, cS_102 hc, cR_100_2 hc, cA_103 hc, cS_103 hc, cR_100_3 hc, cA_104 hc, cS_104 hc, cR_100_4 hc, cA_105 hc, cS_105 hc, cR_100_5 hc, cA_106 hc, cS_106 hc, hbits, hct, htk, hlk, hL.1]
        · have hgood : lotGood sg nS nL (lotB a b) := ⟨c1, c2, c3, c4⟩
          obtain ⟨m1, a1, a2, a3⟩ := C_lotL (j := j) (B := lotB a b) (nL := nL) (sg := sg) hc hS hL6 (by omega) (fun h24 => some (.inr (nI nL), h24)) nS 0 LF (u2 m 100 6 (nI (nL + 1))) (CAs_fr (by
            have e : (fun s k => if k = 6 ∧ (lotB a b).testBit s = true ∧ s < 0 then nL + 1 else sg s k) = sg := by funext s k; rw [if_neg (fun z => by omega)]
            rw [e]; exact hA) (e_u2r (by decide)) (fun b hb => e_u2r (by omega))) (by omega) (by unfold LF; omega)
          have a20 : m1 100 6 = nI (nL + 1) := by rw [a2 100 (by decide), e_u2s]
          have a2 : ∀ b, b < 4000 → b ≠ 100 → m1 b = m b := fun b h1 h2 => by rw [a2 b h1, e_u2r h2]
          refine ⟨m1, ?_, a2, fun g => absurd hgood g, fun _ => ⟨?_, ?_⟩⟩
          · unfold lotA
            rw [if_neg c1, if_neg c2, if_neg c3, if_neg c4]
            simp (disch := omega) only [F_X11_lot, F_X11_hasTaken, F_X11_partsPair, e_cl, e_jn, e_lt, e_cxl, e_cxr, e_rzn, ↓l_m1, ↓l_m2, ↓l_m8, l_0, l_1, l_2, l_3, l_4, l_5, l_6, l_7, l_8, l_9, l_10, l_12, l_16, l_20, l_24, l_31, l_32, l_35, l_36, l_40, l_44, l_48, l_59, l_63, l_64, l_90, l_95, l_96, l_100, l_120, l_127, l_200, l_216, l_255, l_999, l_1000, l_10000, l_1000000, l_1048575, l_1000000000, nI_add, pk_mul, pk_sub, nI_leI, nI_ltI, nI_eq, nI_dec, nI_o0, mx_n, mn_n, ab_1, ab_n, e_u2e, e_u2k, e_u2a, if_pos, if_neg, if_true, if_false, not_true, not_false_eq_true, ne_eq, Nat.add_zero, Nat.zero_add, cG_10 hc, cP_10 hc, cT_10 hc, cR_10_0 hc, cR_10_1 hc, cR_10_2 hc, cR_10_3 hc, cR_10_4 hc, cR_10_5 hc, cR_10_6 hc, cR_10_7 hc, cR_10_8 hc, cG_100 hc, cP_100 hc, cT_100 hc, cR_100_0 hc, cA_101 hc, cS_101 hc, cR_100_1 hc, cA_102 hc, cS_102 hc, cR_100_2 hc, cA_103 hc, cS_103 hc, cR_100_3 hc, cA_104 hc, cS_104 hc, cR_100_4 hc, cA_105 hc, cS_105 hc, cR_100_5 hc, cA_106 hc, cS_106 hc, hbits, hct, htk, hlk, hL.1] at a1 ⊢
            rw [a1]
          · refine ⟨a3.1, a3.2.1, fun s hs => ?_⟩
            have := a3.2.2 s hs
            have e : (fun k => if k = 6 ∧ (lotB a b).testBit s = true ∧ s < nS then nL + 1 else sg s k) = lotS sg (lotB a b) nL s := by
              funext k
              unfold lotS
              by_cases c : k = 6 ∧ (lotB a b).testBit s = true
              · rw [if_pos c, if_pos ⟨c.1, c.2, hs⟩]
              · rw [if_neg c, if_neg (fun z => c ⟨z.1, z.2.1⟩)]
            rw [← e]; exact this
          · refine ⟨a20, by rw [a2 10 (by decide) (by decide)]; exact hL.2.1, fun i hi => by rw [a2 101 (by decide) (by decide)]; exact hL.2.2.1 i hi, fun i hi => by rw [a2 102 (by decide) (by decide), a2 103 (by decide) (by decide)]; exact hL.2.2.2 i hi⟩
end LOTC
