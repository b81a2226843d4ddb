/-! ===== the class: match, the rest ===== -/
section CMB
variable {m : IM} {j : JM} {u : SU}
theorem C_collL (hc : CS u) {nS nL : Nat} {sg ix an : Nat → Nat → Nat} (hD : SD nS nL sg ix an) : ∀ (d s fu : Nat) (m : IM), CAs m u nS sg ix an → m 90 3 = nI (col sg s).1 → (∀ k, k < (col sg s).1 → m 91 k = nI ((col sg s).2 k) ∧ m 92 k = nI (sg ((col sg s).2 k) 0)) → s + d = nS → d < fu →
    ∃ m', (∀ K, F_X2_collect_L7 90 40 K fu (nI s) (pm m j u) = K (pm m' j u)) ∧ (∀ b, b ≠ 90 → b ≠ 91 → b ≠ 92 → m' b = m b) ∧ m' 90 3 = nI (col sg nS).1 ∧ ∀ k, k < (col sg nS).1 → m' 91 k = nI ((col sg nS).2 k) ∧ m' 92 k = nI (sg ((col sg nS).2 k) 0) := by
  have hS := hD.1
  intro d
  induction d with
  | zero =>
    intro s fu m hA h3 h4 hs' hfu
    obtain ⟨fu, rfl⟩ : ∃ g, fu = g + 1 := ⟨fu - 1, by omega⟩
    have e : s = nS := by omega
    subst e
    refine ⟨m, fun K => ?_, fun _ _ _ _ => rfl, h3, h4⟩
    rw [F_X2_collect_L7]
    simp (disch := omega) only [e_cl, e_jn, e_lt, e_cxl, e_cxr, e_rzn, ↓l_m1, ↓l_m2, ↓l_m8, l_0, l_1, l_2, l_3, l_4, l_5, l_6, l_7, l_8, l_9, l_10, l_12, l_16, l_20, l_24, l_31, l_32, l_35, l_36, l_40, l_44, l_48, l_59, l_63, l_64, l_90, l_95, l_96, l_100, l_120, l_127, l_200, l_216, l_255, l_999, l_1000, l_10000, l_1000000, l_1048575, l_1000000000, nI_add, pk_mul, pk_sub, nI_leI, nI_ltI, nI_eq, nI_dec, nI_o0, mx_n, mn_n, ab_1, ab_n, e_u2e, e_u2k, e_u2a, if_pos, if_neg, if_true, if_false, not_true, not_false_eq_true, ne_eq, Nat.add_zero, Nat.zero_add, cG_40 hc, cP_40 hc, cT_40 hc, cG_90 hc, cP_90 hc, cT_90 hc, cR_90_0 hc, cA_91 hc, cS_91 hc, cR_90_1 hc, cA_92 hc, cS_92 hc, cR_90_2 hc, cA_93 hc, cS_93 hc, C_size hA.1 hA.2.1]
  | succ d ih =>
    intro s fu m hA h3 h4 hs' hfu
    obtain ⟨fu, rfl⟩ : ∃ g, fu = g + 1 := ⟨fu - 1, by omega⟩
    have hlt : s < nS := by omega
    have hc10 := (col_ok sg s).1
    obtain ⟨hO, ⟨-, -, q0, q1, q2, -, q3⟩, -⟩ := hA.2.2 s hlt
    obtain ⟨d1, d2, d3, d4, d5, d6, d7, -⟩ := hD.2 s hlt
    by_cases f : (col sg s).1 = 10
    · have e : col sg nS = col sg s := by rw [← hs']; exact col_full f (d + 1)
      rw [e]
      refine ⟨m, fun K => ?_, fun _ _ _ _ => rfl, h3, h4⟩
      rw [f] at h3
      rw [F_X2_collect_L7]
      simp (disch := omega) only [e_cl, e_jn, e_lt, e_cxl, e_cxr, e_rzn, ↓l_m1, ↓l_m2, ↓l_m8, l_0, l_1, l_2, l_3, l_4, l_5, l_6, l_7, l_8, l_9, l_10, l_12, l_16, l_20, l_24, l_31, l_32, l_35, l_36, l_40, l_44, l_48, l_59, l_63, l_64, l_90, l_95, l_96, l_100, l_120, l_127, l_200, l_216, l_255, l_999, l_1000, l_10000, l_1000000, l_1048575, l_1000000000, nI_add, pk_mul, pk_sub, nI_leI, nI_ltI, nI_eq, nI_dec, nI_o0, mx_n, mn_n, ab_1, ab_n, e_u2e, e_u2k, e_u2a, if_pos, if_neg, if_true, if_false, not_true, not_false_eq_true, ne_eq, Nat.add_zero, Nat.zero_add, cG_40 hc, cP_40 hc, cT_40 hc, cG_90 hc, cP_90 hc, cT_90 hc, cR_90_0 hc, cA_91 hc, cS_91 hc, cR_90_1 hc, cA_92 hc, cS_92 hc, cR_90_2 hc, cA_93 hc, cS_93 hc, C_size hA.1 hA.2.1, h3]
    · by_cases c : elB sg s = true
      · obtain ⟨c4, c5, c7⟩ := elB_t.mp c
        have ec := col_y (sg := sg) (s := s) ⟨by omega, c⟩
        rw [c4] at q1
        rw [c5] at q2
        rw [c7] at q3
        have fr : ∀ b, b ≠ 90 → b ≠ 91 → b ≠ 92 → u2 (u2 (u2 m 91 (col sg s).1 (nI s)) 92 (col sg s).1 (nI (sg s 0))) 90 3 (nI ((col sg s).1 + 1)) b = m b := fun b g1 g2 g3 => by rw [e_u2r g1, e_u2r g3, e_u2r g2]
        obtain ⟨m', i1, i2, i4⟩ := ih (s + 1) fu (u2 (u2 (u2 m 91 (col sg s).1 (nI s)) 92 (col sg s).1 (nI (sg s 0))) 90 3 (nI ((col sg s).1 + 1))) (CAs_fr hA (fr 40 (by decide) (by decide) (by decide)) (fun b hb => fr b (by omega) (by omega) (by omega))) (by rw [e_u2s, ec]) (fun k hk => by
          rw [ec] at hk ⊢
          have hk : k < (col sg s).1 + 1 := hk
          rw [e_u2r (b := 91) (by decide), e_u2r (b := 91) (by decide), e_u2r (b := 92) (by decide)]
          show u2 m 91 _ _ 91 k = nI (if k = (col sg s).1 then s else (col sg s).2 k) ∧ _ = nI (sg (if k = (col sg s).1 then s else (col sg s).2 k) 0)
          by_cases e : k = (col sg s).1
          · rw [e, e_u2s, e_u2s, if_pos rfl]; exact ⟨rfl, rfl⟩
          · rw [e_u2k e, e_u2k e, if_neg e, e_u2r (b := 92) (by decide)]; exact h4 k (by omega)) (by omega) (by omega)
        refine ⟨m', fun K => ?_, fun b g1 g2 g3 => by rw [i2 b g1 g2 g3, fr b g1 g2 g3], i4⟩
        have ha : 4000 ≤ nmS s := by unfold nmS; omega
        rw [← i1 K, F_X2_collect_L7]
        simp (disch := omega) only [e_cl, e_jn, e_lt, e_cxl, e_cxr, e_rzn, ↓l_m1, ↓l_m2, ↓l_m8, l_0, l_1, l_2, l_3, l_4, l_5, l_6, l_7, l_8, l_9, l_10, l_12, l_16, l_20, l_24, l_31, l_32, l_35, l_36, l_40, l_44, l_48, l_59, l_63, l_64, l_90, l_95, l_96, l_100, l_120, l_127, l_200, l_216, l_255, l_999, l_1000, l_10000, l_1000000, l_1048575, l_1000000000, nI_add, pk_mul, pk_sub, nI_leI, nI_ltI, nI_eq, nI_dec, nI_o0, mx_n, mn_n, ab_1, ab_n, e_u2e, e_u2k, e_u2a, if_pos, if_neg, if_true, if_false, not_true, not_false_eq_true, ne_eq, Nat.add_zero, Nat.zero_add, cG_40 hc, cP_40 hc, cT_40 hc, cG_90 hc, cP_90 hc, cT_90 hc, cR_90_0 hc, cA_91 hc, cS_91 hc, cR_90_1 hc, cA_92 hc, cS_92 hc, cR_90_2 hc, cA_93 hc, cS_93 hc, sG hO, sP hO, sZ_ hO, sT hO, sR8 hO, sR9 hO, sR12 hO, sA1 hO, sA2 hO, sA3 hO, sS1 hO, sS2 hO, sS3 hO, C_size hA.1 hA.2.1, C_get hA.1 hA.2.1 hlt, h3, q0, q1, q2, q3]
      · have ec := col_n (sg := sg) (s := s) (fun z => c z.2)
        obtain ⟨m', i1, i2, i4⟩ := ih (s + 1) fu m hA (by rw [ec]; exact h3) (by rw [ec]; exact h4) (by omega) (by omega)
        refine ⟨m', fun K => ?_, i2, i4⟩
        rw [← i1 K, F_X2_collect_L7]
        by_cases c4 : sg s 4 = 1
        · rw [c4] at q1
          by_cases c5 : sg s 5 = 0
          · have c7 : sg s 7 ≠ 0 := fun z => c (elB_t.mpr ⟨c4, c5, z⟩)
            rw [c5] at q2
            simp (disch := omega) only [e_cl, e_jn, e_lt, e_cxl, e_cxr, e_rzn, ↓l_m1, ↓l_m2, ↓l_m8, l_0, l_1, l_2, l_3, l_4, l_5, l_6, l_7, l_8, l_9, l_10, l_12, l_16, l_20, l_24, l_31, l_32, l_35, l_36, l_40, l_44, l_48, l_59, l_63, l_64, l_90, l_95, l_96, l_100, l_120, l_127, l_200, l_216, l_255, l_999, l_1000, l_10000, l_1000000, l_1048575, l_1000000000, nI_add, pk_mul, pk_sub, nI_leI, nI_ltI, nI_eq, nI_dec, nI_o0, mx_n, mn_n, ab_1, ab_n, e_u2e, e_u2k, e_u2a, if_pos, if_neg, if_true, if_false, not_true, not_false_eq_true, ne_eq, Nat.add_zero, Nat.zero_add, cG_40 hc, cP_40 hc, cT_40 hc, cG_90 hc, cP_90 hc, cT_90 hc, cR_90_0 hc, cA_91 hc, cS_91 hc, cR_90_1 hc, cA_92 hc, cS_92 hc, cR_90_2 hc, cA_93 hc, cS_93 hc, sG hO, sP hO, sZ_ hO, sT hO, sR8 hO, sR9 hO, sR12 hO, sA1 hO, sA2 hO, sA3 hO, sS1 hO, sS2 hO, sS3 hO, C_size hA.1 hA.2.1, C_get hA.1 hA.2.1 hlt, h3, q1, q2, q3, oI_ne c7 (show sg s 7 < 2 ^ 31 by omega)]
          · simp (disch := omega) only [e_cl, e_jn, e_lt, e_cxl, e_cxr, e_rzn, ↓l_m1, ↓l_m2, ↓l_m8, l_0, l_1, l_2, l_3, l_4, l_5, l_6, l_7, l_8, l_9, l_10, l_12, l_16, l_20, l_24, l_31, l_32, l_35, l_36, l_40, l_44, l_48, l_59, l_63, l_64, l_90, l_95, l_96, l_100, l_120, l_127, l_200, l_216, l_255, l_999, l_1000, l_10000, l_1000000, l_1048575, l_1000000000, nI_add, pk_mul, pk_sub, nI_leI, nI_ltI, nI_eq, nI_dec, nI_o0, mx_n, mn_n, ab_1, ab_n, e_u2e, e_u2k, e_u2a, if_pos, if_neg, if_true, if_false, not_true, not_false_eq_true, ne_eq, Nat.add_zero, Nat.zero_add, cG_40 hc, cP_40 hc, cT_40 hc, cG_90 hc, cP_90 hc, cT_90 hc, cR_90_0 hc, cA_91 hc, cS_91 hc, cR_90_1 hc, cA_92 hc, cS_92 hc, cR_90_2 hc, cA_93 hc, cS_93 hc, sG hO, sP hO, sZ_ hO, sT hO, sR8 hO, sR9 hO, sR12 hO, sA1 hO, sA2 hO, sA3 hO, sS1 hO, sS2 hO, sS3 hO, C_size hA.1 hA.2.1, C_get hA.1 hA.2.1 hlt, h3, q1, q2, oI_ne c5 (show sg s 5 < 2 ^ 31 by omega)]
        · have c4' : sg s 4 = 0 := by omega
          rw [c4'] at q1
          simp (disch := omega) only [e_cl, e_jn, e_lt, e_cxl, e_cxr, e_rzn, ↓l_m1, ↓l_m2, ↓l_m8, l_0, l_1, l_2, l_3, l_4, l_5, l_6, l_7, l_8, l_9, l_10, l_12, l_16, l_20, l_24, l_31, l_32, l_35, l_36, l_40, l_44, l_48, l_59, l_63, l_64, l_90, l_95, l_96, l_100, l_120, l_127, l_200, l_216, l_255, l_999, l_1000, l_10000, l_1000000, l_1048575, l_1000000000, nI_add, pk_mul, pk_sub, nI_leI, nI_ltI, nI_eq, nI_dec, nI_o0, mx_n, mn_n, ab_1, ab_n, e_u2e, e_u2k, e_u2a, if_pos, if_neg, if_true, if_false, not_true, not_false_eq_true, ne_eq, Nat.add_zero, Nat.zero_add, cG_40 hc, cP_40 hc, cT_40 hc, cG_90 hc, cP_90 hc, cT_90 hc, cR_90_0 hc, cA_91 hc, cS_91 hc, cR_90_1 hc, cA_92 hc, cS_92 hc, cR_90_2 hc, cA_93 hc, cS_93 hc, sG hO, sP hO, sZ_ hO, sT hO, sR8 hO, sR9 hO, sR12 hO, sA1 hO, sA2 hO, sA3 hO, sS1 hO, sS2 hO, sS3 hO, C_size hA.1 hA.2.1, C_get hA.1 hA.2.1 hlt, h3, q1]
theorem C_join (hc : CS u) {nS a b : Nat} {sg ix an : Nat → Nat → Nat} (hS : nS ≤ 40) (hA : CAs m u nS sg ix an) (ha : a < nS) (hb : b < nS) (hab : a ≠ b) : ∃ m', F_X2_join 40 (nI a) (nI b) (pm m j u) = some ((), pm m' j u) ∧ (∀ b, b < 4000 → m' b = m b) ∧ CAs m' u nS (u2 (u2 sg a 5 (b + 1)) b 5 (a + 1)) ix an := by
  have up : ∀ (m : IM) (sg : Nat → Nat → Nat) (x y : Nat), x < nS → CAs m u nS sg ix an → CAs (u2 m (nmS x) 4 (nI y)) u nS (u2 sg x 5 (y + 1)) ix an := fun m sg x y hx hA => by
    have hxx : 4000 ≤ nmS x := by unfold nmS; omega
    have hST := hA.2.2 x hx
    refine CAs_up hA hx (e_u2a (by omega)) (ST_set hST (fun k g4 g5 g6 => e_u2k g4) (e_u2r (by omega)) (e_u2r (by omega)) (e_u2r (by omega)) (fun k g5 g6 g7 => ?_) ?_ ?_ ?_) (fun b g1 g2 => e_u2r (by omega)) (fun t ht e => ⟨?_, rfl, rfl⟩)
    · simp [u2, g5]
    · rw [e_u2s]; simp [u2, oI_s]
    · rw [e_u2k (by decide), hST.2.1.2.2.2.2.2.1]; simp [u2]
    · rw [e_u2k (by decide), hST.2.1.2.2.2.2.2.2]; simp [u2]
    · funext k; simp [u2, e]
  have hO1 := (hA.2.2 a ha).1
  have hO2 := (hA.2.2 b hb).1
  have h1 := up m sg a b ha hA
  refine ⟨u2 (u2 m (nmS a) 4 (nI b)) (nmS b) 4 (nI a), ?_, fun x hx => by rw [e_u2r (by unfold nmS; omega), e_u2r (by unfold nmS; omega)], up _ _ b a hb h1⟩
  simp (disch := omega) only [F_X2_join, e_cl, e_jn, e_lt, e_cxl, e_cxr, e_rzn, ↓l_m1, ↓l_m2, ↓l_m8, l_0, l_1, l_2, l_3, l_4, l_5, l_6, l_7, l_8, l_9, l_10, l_12, l_16, l_20, l_24, l_31, l_32, l_35, l_36, l_40, l_44, l_48, l_59, l_63, l_64, l_90, l_95, l_96, l_100, l_120, l_127, l_200, l_216, l_255, l_999, l_1000, l_10000, l_1000000, l_1048575, l_1000000000, nI_add, pk_mul, pk_sub, nI_leI, nI_ltI, nI_eq, nI_dec, nI_o0, mx_n, mn_n, ab_1, ab_n, e_u2e, e_u2k, e_u2a, if_pos, if_neg, if_true, if_false, not_true, not_false_eq_true, ne_eq, Nat.add_zero, Nat.zero_add, cG_40 hc, cP_40 hc, cT_40 hc, sG hO1, sP hO1, sZ_ hO1, sT hO1, sR8 hO1, sR9 hO1, sR12 hO1, sA1 hO1, sA2 hO1, sA3 hO1, sS1 hO1, sS2 hO1, sS3 hO1, sG hO2, sP hO2, sZ_ hO2, sT hO2, sR8 hO2, sR9 hO2, sR12 hO2, sA1 hO2, sA2 hO2, sA3 hO2, sS1 hO2, sS2 hO2, sS3 hO2, C_size hA.1 hA.2.1, C_get hA.1 hA.2.1 ha, C_get h1.1 h1.2.1 hb]
theorem w2_upd {W : Nat → Nat} {k i : Nat} (h : k ≠ i) : w2 W k i = upd1 (upd1 W k (i + 1)) i (k + 1) := by
  funext x
  show (if x = k then i + 1 else if x = i then k + 1 else W x) = if x = i then k + 1 else if x = k then i + 1 else W x
  by_cases e : x = k
  · rw [if_pos e, if_neg (by omega), if_pos e]
  · rw [if_neg e, if_neg e]
theorem zero_of {S n : Nat} (hS : S < 2 ^ n) (h : fb_ct S.testBit n = 0) : S = 0 := by
  apply Nat.eq_of_testBit_eq
  intro i
  rw [Nat.zero_testBit]
  by_cases c : i < n
  · exact fb_ct_zero.mp h i c
  · exact Nat.testBit_lt_two_pow (Nat.lt_of_lt_of_le hS (Nat.pow_le_pow_right (by decide) (by omega)))
theorem C_L53 (hc : CS u) {nS n V : Nat} {sg ix an : Nat → Nat → Nat} {tn g Wf : Nat → Nat} (hS : nS ≤ 40) (hi : ∀ a b, a < n → b < n → tn a = tn b → a = b) (ht : ∀ k, k < n → tn k < nS) : ∀ (d it fu c off S : Nat) (W : Nat → Nat) (m : IM), it + d = n → d < fu → MM m n g → TV m n g (2 ^ n) → (∀ k, k < n → m 91 k = nI (tn k)) → CAs m u nS (matS sg n tn W) ix an → S < 2 ^ n → fb_ct S.testBit n + it ≤ n → cw n (prG g) (apG g) n S W = Wf → vl n (prG g) (apG g) n S + 1000000 * c = V + off → off ≤ 21600 * c → c ≤ it →
    ∃ m', (∀ K, F_X2_pairUp_L53 90 40 K fu (nI c) (nI S) (nI it) (pm m j u) = K (nI (prsv V)) (pm m' j u)) ∧ (∀ b, b < 4000 → m' b = m b) ∧ CAs m' u nS (matS sg n tn Wf) ix an := by
  have fin : ∀ c off W (m : IM), c ≤ n → n ≤ 10 → cw n (prG g) (apG g) n 0 W = Wf → vl n (prG g) (apG g) n 0 + 1000000 * c = V + off → off ≤ 21600 * c → W = Wf ∧ c = prsv V := fun c off W m h1 h2 h3 h4 h5 => by
    rw [vl_zero.2] at h3
    rw [vl_zero.1] at h4
    refine ⟨h3, ?_⟩
    unfold prsv
    omega
  intro d
  induction d with
  | zero =>
    intro it fu c off S W m hit hfu hM hT hN hA hS2 hct hcw hv ho hci
    obtain ⟨fu, rfl⟩ : ∃ g, fu = g + 1 := ⟨fu - 1, by omega⟩
    have h10 := hM.2.1
    have e : it = n := by omega
    subst e
    have z := zero_of hS2 (by omega)
    subst z
    obtain ⟨f1, f2⟩ := fin c off W m (by omega) h10 hcw hv ho
    subst f1
    refine ⟨m, fun K => ?_, fun _ _ => rfl, hA⟩
    rw [F_X2_pairUp_L53, ← f2]
    simp (disch := omega) only [e_cl, e_jn, e_lt, e_cxl, e_cxr, e_rzn, ↓l_m1, ↓l_m2, ↓l_m8, l_0, l_1, l_2, l_3, l_4, l_5, l_6, l_7, l_8, l_9, l_10, l_12, l_16, l_20, l_24, l_31, l_32, l_35, l_36, l_40, l_44, l_48, l_59, l_63, l_64, l_90, l_95, l_96, l_100, l_120, l_127, l_200, l_216, l_255, l_999, l_1000, l_10000, l_1000000, l_1048575, l_1000000000, nI_add, pk_mul, pk_sub, nI_leI, nI_ltI, nI_eq, nI_dec, nI_o0, mx_n, mn_n, ab_1, ab_n, e_u2e, e_u2k, e_u2a, if_pos, if_neg, if_true, if_false, not_true, not_false_eq_true, ne_eq, Nat.add_zero, Nat.zero_add, cG_90 hc, cP_90 hc, cT_90 hc, cR_90_0 hc, cA_91 hc, cS_91 hc, cR_90_1 hc, cA_92 hc, cS_92 hc, cR_90_2 hc, cA_93 hc, cS_93 hc, hM.1]
  | succ d ih =>
    intro it fu c off S W m hit hfu hM hT hN hA hS2 hct hcw hv ho hci
    obtain ⟨fu, rfl⟩ : ∃ g, fu = g + 1 := ⟨fu - 1, by omega⟩
    have h10 := hM.2.1
    have h3 := hM.1
    have hp := p10 h10
    by_cases z : S = 0
    · subst z
      obtain ⟨f1, f2⟩ := fin c off W m (by omega) h10 hcw hv ho
      subst f1
      refine ⟨m, fun K => ?_, fun _ _ => rfl, hA⟩
      rw [F_X2_pairUp_L53, ← f2]
      simp (disch := omega) only [e_cl, e_jn, e_lt, e_cxl, e_cxr, e_rzn, ↓l_m1, ↓l_m2, ↓l_m8, l_0, l_1, l_2, l_3, l_4, l_5, l_6, l_7, l_8, l_9, l_10, l_12, l_16, l_20, l_24, l_31, l_32, l_35, l_36, l_40, l_44, l_48, l_59, l_63, l_64, l_90, l_95, l_96, l_100, l_120, l_127, l_200, l_216, l_255, l_999, l_1000, l_10000, l_1000000, l_1048575, l_1000000000, nI_add, pk_mul, pk_sub, nI_leI, nI_ltI, nI_eq, nI_dec, nI_o0, mx_n, mn_n, ab_1, ab_n, e_u2e, e_u2k, e_u2a, if_pos, if_neg, if_true, if_false, not_true, not_false_eq_true, ne_eq, Nat.add_zero, Nat.zero_add, cG_90 hc, cP_90 hc, cT_90 hc, cR_90_0 hc, cA_91 hc, cS_91 hc, cR_90_1 hc, cA_92 hc, cS_92 hc, cR_90_2 hc, cA_93 hc, cS_93 hc, hM.1]
    · obtain ⟨k, hk⟩ := LB_ex z
      have hkn := LB_lt hk hS2
      have hlb := C_lowestBit hk (show S < 2 ^ 63 by omega) (pm m j u)
      rw [← nI_l (show S < 2 ^ 31 by omega)] at hlb
      have hm := C_mateIn (j := j) hc hM hT hS2 hk
      obtain ⟨l1, l2⟩ := clr_lt hk.1 hS2 hkn
      have ct1 := clr_ct hk.1 hkn
      obtain ⟨cv1, cv2, -⟩ := ch_val (pr := prG g) (ap := apG g) hk hkn
      have hcw' := (vl_LB (pr := prG g) (ap := apG g) hk hkn).2 W
      rw [hcw] at hcw'
      by_cases c0 : ch n (prG g) (apG g) n k S = 0
      · rw [if_pos c0] at hcw'
        obtain ⟨m', i1, i2, i3⟩ := ih (it + 1) fu c off (clr S k) W m (by omega) (by omega) hM hT hN hA l2 (by omega) hcw'.symm (by rw [← cv1 c0]; exact hv) ho (by omega)
        refine ⟨m', fun K => ?_, i2, i3⟩
        rw [c0] at hm
        rw [← i1 K, F_X2_pairUp_L53]
        simp (disch := omega) only [e_cl, e_jn, e_lt, e_cxl, e_cxr, e_rzn, ↓l_m1, ↓l_m2, ↓l_m8, l_0, l_1, l_2, l_3, l_4, l_5, l_6, l_7, l_8, l_9, l_10, l_12, l_16, l_20, l_24, l_31, l_32, l_35, l_36, l_40, l_44, l_48, l_59, l_63, l_64, l_90, l_95, l_96, l_100, l_120, l_127, l_200, l_216, l_255, l_999, l_1000, l_10000, l_1000000, l_1048575, l_1000000000, nI_add, pk_mul, pk_sub, nI_leI, nI_ltI, nI_eq, nI_dec, nI_o0, mx_n, mn_n, ab_1, ab_n, e_u2e, e_u2k, e_u2a, if_pos, if_neg, if_true, if_false, not_true, not_false_eq_true, ne_eq, Nat.add_zero, Nat.zero_add, cG_90 hc, cP_90 hc, cT_90 hc, cR_90_0 hc, cA_91 hc, cS_91 hc, cR_90_1 hc, cA_92 hc, cS_92 hc, cR_90_2 hc, cA_93 hc, cS_93 hc, h3, hlb, hm, n_shl', nI_clr hk.1]
      · rw [if_neg c0] at hcw'
        obtain ⟨v1, v2, v3, -⟩ := cv2 c0
        obtain ⟨w1, w2', w3⟩ := pP_t.mp v2
        rw [oI_p c0] at hm
        generalize ch n (prG g) (apG g) n k S - 1 = i at *
        have hb := apG_b (hM.2.2 k hkn).2 (hM.2.2 i v1).2 w3
        have t2 : (clr S k).testBit i = true := by rw [clr_tb hk.1, w2', decide_eq_true (by omega)]; rfl
        obtain ⟨l3, l4⟩ := clr_lt t2 l2 v1
        have ct2 := clr_ct t2 v1
        have hne : tn k ≠ tn i := fun z => by have := hi k i hkn v1 z; omega
        obtain ⟨m1, a1, a2, a3⟩ := C_join (j := j) hc hS hA (ht k hkn) (ht i v1) hne
        have q1 := hN k hkn
        have q2 := hN i v1
        have b1 := ht k hkn
        have b2 := ht i v1
        obtain ⟨m', i1, i2, i3⟩ := ih (it + 1) fu (c + 1) (off + apG g k i) (clr (clr S k) i) (w2 W k i) m1 (by omega) (by omega) (by unfold MM; rw [a2 90 (by decide), a2 92 (by decide)]; exact hM) (fun T hT' => by rw [a2 93 (by decide)]; exact hT T hT') (fun x hx => by rw [a2 91 (by decide)]; exact hN x hx) (by
          rw [w2_upd (show k ≠ i by omega), matS_1 hi v1 (by omega), matS_1 hi hkn (by omega)]
          exact a3) l4 (by omega) hcw'.symm (by omega) (by omega) (by omega)
        refine ⟨m', fun K => ?_, fun b hb => by rw [i2 b hb, a2 b hb], i3⟩
        rw [← i1 K, F_X2_pairUp_L53]
        simp (disch := omega) only [e_cl, e_jn, e_lt, e_cxl, e_cxr, e_rzn, ↓l_m1, ↓l_m2, ↓l_m8, l_0, l_1, l_2, l_3, l_4, l_5, l_6, l_7, l_8, l_9, l_10, l_12, l_16, l_20, l_24, l_31, l_32, l_35, l_36, l_40, l_44, l_48, l_59, l_63, l_64, l_90, l_95, l_96, l_100, l_120, l_127, l_200, l_216, l_255, l_999, l_1000, l_10000, l_1000000, l_1048575, l_1000000000, nI_add, pk_mul, pk_sub, nI_leI, nI_ltI, nI_eq, nI_dec, nI_o0, mx_n, mn_n, ab_1, ab_n, e_u2e, e_u2k, e_u2a, if_pos, if_neg, if_true, if_false, not_true, not_false_eq_true, ne_eq, Nat.add_zero, Nat.zero_add, cG_90 hc, cP_90 hc, cT_90 hc, cR_90_0 hc, cA_91 hc, cS_91 hc, cR_90_1 hc, cA_92 hc, cS_92 hc, cR_90_2 hc, cA_93 hc, cS_93 hc, h3, hlb, hm, n_shl', nI_clr hk.1, nI_clr t2, q1, q2, a1]
theorem C_match (hc : CS u) {nS nL : Nat} {sg ix an : Nat → Nat → Nat} (hD : SD nS nL sg ix an) (hA : CAs m u nS sg ix an) : ∃ m', F_X11_match 10 (pm m j u) = some (nI (prsv (mtV sg nS)), pm m' j u) ∧ Fz 90 93 m m' ∧ CAs m' u nS (mtS sg nS) ix an := by
  have hS := hD.1
  obtain ⟨k1, k2, k3⟩ := col_ok sg nS
  have kz : col sg 0 = (0, fun _ => 0) := rfl
  have hA0 : CAs (u2 m 90 3 (nI 0)) u nS sg ix an := CAs_fr hA (e_u2r (by decide)) (fun b hb => e_u2r (by omega))
  obtain ⟨m1, a1, a2, a3, a4⟩ := C_collL (j := j) hc hD nS 0 LF (u2 m 90 3 (nI 0)) hA0 (by rw [e_u2s]; rfl) (fun k hk => by rw [kz] at hk; exact absurd hk (Nat.not_lt_zero _)) (by omega) (by unfold LF; omega)
  have hA1 : CAs m1 u nS sg ix an := CAs_fr hA0 (a2 40 (by decide) (by decide) (by decide)) (fun b hb => a2 b (by omega) (by omega) (by omega))
  have e3 : m1 90 3 = nI (mtN sg nS) := a3
  have e10 : mtN sg nS ≤ 10 := k1
  have hp := p10 e10
  have hp1 : 1 ≤ 2 ^ mtN sg nS := Nat.one_le_two_pow
  have hM1 : MM (u2 m1 93 0 (nI 0)) (mtN sg nS) (mtG sg nS) := by
    refine ⟨by rw [e_u2a (by decide)]; exact a3, k1, fun k hk => ?_⟩
    rw [e_u2a (by decide)]
    exact ⟨(a4 k hk).2, (hD.2 _ (k2 k hk).1).1⟩
  obtain ⟨m2, b1, b2, b3⟩ := C_L23 (j := j) hc (2 ^ mtN sg nS - 1) 1 LF (u2 m1 93 0 (nI 0)) (by omega) (by unfold LF; omega) (by omega) hM1 (fun T hT => by
    rw [show T = 0 by omega, e_u2s, vl_zero.1])
  have hA2 : CAs m2 u nS sg ix an := CAs_fr hA1 (by rw [b2 40 (by decide), e_u2r (by decide)]) (fun b hb => by rw [b2 b (by omega), e_u2r (by omega)])
  obtain ⟨m3, c1, c2, c3⟩ := C_L53 (j := j) (n := mtN sg nS) (V := mtV sg nS) (Wf := mtW sg nS) (tn := mtT sg nS) (g := mtG sg nS) (sg := sg) hc hS (fun a b ha hb h => col_inj ha hb h) (fun k hk => (k2 k hk).1) (mtN sg nS) 0 LF 0 0 (2 ^ mtN sg nS - 1) (fun _ => 0) m2 (Nat.zero_add _) (by unfold LF; omega) (by unfold MM; rw [b2 90 (by decide), b2 92 (by decide)]; exact hM1) b3 (fun k hk => by rw [b2 91 (by decide), e_u2a (by decide)]; exact (a4 k hk).1) (by rw [matS_0]; exact hA2) (by omega) (by have := fb_ct_le (2 ^ mtN sg nS - 1).testBit (mtN sg nS); omega) rfl (by unfold mtV; omega) (by omega) (by omega)
  refine ⟨m3, ?_, fun b g1 g2 => ?_, c3⟩
  · unfold F_X11_match F_X2_pairUp F_X2_collect
    simp (disch := omega) only [e_cl, e_jn, e_lt, e_cxl, e_cxr, e_rzn, ↓l_m1, ↓l_m2, ↓l_m8, l_0, l_1, l_2, l_3, l_4, l_5, l_6, l_7, l_8, l_9, l_10, l_12, l_16, l_20, l_24, l_31, l_32, l_35, l_36, l_40, l_44, l_48, l_59, l_63, l_64, l_90, l_95, l_96, l_100, l_120, l_127, l_200, l_216, l_255, l_999, l_1000, l_10000, l_1000000, l_1048575, l_1000000000, nI_add, pk_mul, pk_sub, nI_leI, nI_ltI, nI_eq, nI_dec, nI_o0, mx_n, mn_n, ab_1, ab_n, e_u2e, e_u2k, e_u2a, if_pos, if_neg, if_true, if_false, not_true, not_false_eq_true, ne_eq, Nat.add_zero, Nat.zero_add, cG_10 hc, cP_10 hc, cT_10 hc, cR_10_0 hc, cR_10_1 hc, cR_10_2 hc, cR_10_3 hc, cR_10_4 hc, cR_10_5 hc, cR_10_6 hc, cR_10_7 hc, cR_10_8 hc, cG_90 hc, cP_90 hc, cT_90 hc, cR_90_0 hc, cA_91 hc, cS_91 hc, cR_90_1 hc, cA_92 hc, cS_92 hc, cR_90_2 hc, cA_93 hc, cS_93 hc, a1, e3, n_shl', b1, c1]
  · rw [c2 b g1, b2 b (by omega), e_u2r (by omega), a2 b (by omega) (by omega) (by omega), e_u2r (by omega)]
end CMB
