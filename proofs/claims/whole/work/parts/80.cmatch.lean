/-! ===== the class: match ===== -/
theorem clr_or {S k : Nat} (h : S.testBit k = true) : clr S k ||| 2 ^ k = S := by
  apply Nat.eq_of_testBit_eq
  intro i
  rw [fb_bit_set, clr_tb h]
  by_cases e : i = k
  · rw [e, decide_eq_true (p := k = k) rfl, Bool.or_true, h]
  · rw [decide_eq_false e, decide_eq_true e, Bool.and_true, Bool.or_false]
theorem clr_lt {S k n : Nat} (h : S.testBit k = true) (hS : S < 2 ^ n) (hk : k < n) : clr S k < S ∧ clr S k < 2 ^ n := by
  have h1 : clr S k < 2 ^ n := Nat.xor_lt_two_pow hS (Nat.pow_lt_pow_right (by decide) hk)
  have h2 := or_gt h1 hk (by rw [clr_tb h, decide_eq_false (fun z => z rfl), Bool.and_false])
  rw [clr_or h] at h2
  exact ⟨h2.1, h1⟩
theorem clr_ct {S k n : Nat} (h : S.testBit k = true) (hk : k < n) : fb_ct (clr S k).testBit n + 1 = fb_ct S.testBit n := by
  have := fb_ct_upd S.testBit false hk
  rw [h] at this
  have e : fb_ct (clr S k).testBit n = fb_ct (fun x => if x = k then false else S.testBit x) n := fb_ct_cong (fun x _ => by
    rw [clr_tb h]
    show _ = if x = k then false else S.testBit x
    by_cases e : x = k
    · rw [if_pos e, decide_eq_false (fun z => z e), Bool.and_false]
    · rw [if_neg e, decide_eq_true e, Bool.and_true])
  rw [e]
  exact this
theorem bt_n (S : Nat) {i : Nat} (hi : i < 32) : bt (nI S) i = S.testBit i := by
  unfold bt
  show (BitVec.ofNat 32 S).getLsbD i = _
  rw [BitVec.getLsbD_ofNat, decide_eq_true hi, Bool.true_and]
theorem nI_clr {S a : Nat} (h : S.testBit a = true) : nI S &&& (nI (2 ^ a) ^^^ oI 0) = nI (clr S a) := by
  apply b_ext
  intro i hi
  rw [b_and, b_xor, bt_n S hi, bt_n _ hi, bt_n _ hi, oI_0, b_m1 i hi, clr_tb h, Nat.testBit_two_pow]
  by_cases e : a = i
  · rw [decide_eq_true e, decide_eq_false (fun z => z e.symm)]; rfl
  · rw [decide_eq_false e, decide_eq_true (show i ≠ a from fun z => e z.symm)]; rfl
theorem nI_clr2 {S a b : Nat} (h : S.testBit a = true) (hb : S.testBit b = true) (hab : a ≠ b) : nI S &&& (nI (2 ^ a ||| 2 ^ b) ^^^ oI 0) = nI (clr (clr S a) b) := by
  have h2 : (clr S a).testBit b = true := by rw [clr_tb h, hb, decide_eq_true (Ne.symm hab)]; rfl
  apply b_ext
  intro i hi
  rw [b_and, b_xor, bt_n S hi, bt_n _ hi, bt_n _ hi, oI_0, b_m1 i hi, clr_tb h2, clr_tb h, Nat.testBit_or, Nat.testBit_two_pow, Nat.testBit_two_pow]
  by_cases e : a = i
  · rw [decide_eq_true e, decide_eq_false (show ¬ i ≠ a from fun z => z e.symm)]
    cases S.testBit i <;> cases decide (b = i) <;> cases decide (i ≠ b) <;> rfl
  · rw [decide_eq_false e, decide_eq_true (show i ≠ a from fun z => e z.symm)]
    by_cases e2 : b = i
    · rw [decide_eq_true e2, decide_eq_false (show ¬ i ≠ b from fun z => z e2.symm)]
      cases S.testBit i <;> rfl
    · rw [decide_eq_false e2, decide_eq_true (show i ≠ b from fun z => e2 z.symm)]
      cases S.testBit i <;> rfl
def MM (m : IM) (n : Nat) (g : Nat → Nat) : Prop := m 90 3 = nI n ∧ n ≤ 10 ∧ ∀ k, k < n → m 92 k = nI (g k) ∧ g k ≤ 216000
def TV (m : IM) (n : Nat) (g : Nat → Nat) (lim : Nat) : Prop := ∀ T, T < lim → m 93 T = nI (vl n (prG g) (apG g) n T)
theorem p10 {n : Nat} (h : n ≤ 10) : 2 ^ n ≤ 1024 := Nat.pow_le_pow_right (n := 2) (j := 10) (by decide) h
section CMA
variable {m : IM} {j : JM} {u : SU}
theorem C_apart (hc : CS u) {n a b : Nat} {g : Nat → Nat} (hM : MM m n g) (ha : a < n) (hb : b < n) : F_X2_apart 90 (nI a) (nI b) (pm m j u) = some (nI (apG g a b), pm m j u) := by
  have h10 := hM.2.1
  obtain ⟨a1, a2⟩ := hM.2.2 a ha
  obtain ⟨b1, b2⟩ := hM.2.2 b hb
  have e := ab_n (a := g a) (b := g b) (by omega) (by omega)
  simp (disch := omega) only [F_X2_apart, cR_90_1 hc, cA_92 hc, a1, b1, e]
  rfl
theorem apG_le {g : Nat → Nat} {a b : Nat} (ha : g a ≤ 216000) (hb : g b ≤ 216000) : apG g a b ≤ 216000 := adiff_le ha hb
theorem C_isPair (hc : CS u) {n a b : Nat} {g : Nat → Nat} (hM : MM m n g) (ha : a < n) (hb : b < n) : F_X2_isPair 90 (nI a) (nI b) (pm m j u) = some (nI (prG g a b).toNat, pm m j u) := by
  have h10 := hM.2.1
  obtain ⟨a1, a2⟩ := hM.2.2 a ha
  obtain ⟨b1, b2⟩ := hM.2.2 b hb
  have ea := C_apart (j := j) hc hM ha hb
  have hd := apG_le a2 b2
  cases c : prG g a b
  · have c := of_decide_eq_false c
    have c : ¬ 10 * apG g a b ≤ max (g a) (g b) := c
    simp (disch := omega) only [F_X2_isPair, e_cl, e_jn, e_lt, e_cxl, e_cxr, e_rzn, ↓l_m1, ↓l_m2, ↓l_m8, l_0, l_1, l_2, l_3, l_4, l_5, l_6, l_7, l_8, l_9, l_10, l_12, l_16, l_20, l_24, l_31, l_32, l_35, l_36, l_40, l_44, l_48, l_59, l_63, l_64, l_90, l_95, l_96, l_100, l_120, l_127, l_200, l_216, l_255, l_999, l_1000, l_10000, l_1000000, l_1048575, l_1000000000, nI_add, pk_mul, pk_sub, nI_leI, nI_ltI, nI_eq, nI_dec, nI_o0, mx_n, mn_n, ab_1, ab_n, e_u2e, e_u2k, e_u2a, if_pos, if_neg, if_true, if_false, not_true, not_false_eq_true, ne_eq, Nat.add_zero, Nat.zero_add, cG_90 hc, cP_90 hc, cT_90 hc, cR_90_0 hc, cA_91 hc, cS_91 hc, cR_90_1 hc, cA_92 hc, cS_92 hc, cR_90_2 hc, cA_93 hc, cS_93 hc, a1, b1, ea, Bool.toNat_false]
  · have c := of_decide_eq_true c
    have c : 10 * apG g a b ≤ max (g a) (g b) := c
    simp (disch := omega) only [F_X2_isPair, e_cl, e_jn, e_lt, e_cxl, e_cxr, e_rzn, ↓l_m1, ↓l_m2, ↓l_m8, l_0, l_1, l_2, l_3, l_4, l_5, l_6, l_7, l_8, l_9, l_10, l_12, l_16, l_20, l_24, l_31, l_32, l_35, l_36, l_40, l_44, l_48, l_59, l_63, l_64, l_90, l_95, l_96, l_100, l_120, l_127, l_200, l_216, l_255, l_999, l_1000, l_10000, l_1000000, l_1048575, l_1000000000, nI_add, pk_mul, pk_sub, nI_leI, nI_ltI, nI_eq, nI_dec, nI_o0, mx_n, mn_n, ab_1, ab_n, e_u2e, e_u2k, e_u2a, if_pos, if_neg, if_true, if_false, not_true, not_false_eq_true, ne_eq, Nat.add_zero, Nat.zero_add, cG_90 hc, cP_90 hc, cT_90 hc, cR_90_0 hc, cA_91 hc, cS_91 hc, cR_90_1 hc, cA_92 hc, cS_92 hc, cR_90_2 hc, cA_93 hc, cS_93 hc, a1, b1, ea, Bool.toNat_true]
theorem C_withPair (hc : CS u) {n S a b lim : Nat} {g : Nat → Nat} (hM : MM m n g) (hT : TV m n g lim) (hS : S < 2 ^ n) (hl : S ≤ lim) (ha : a < n) (hb : b < n) (hab : a ≠ b) (ta : S.testBit a = true) (tb : S.testBit b = true) : F_X2_withPair 90 (nI S) (nI a) (nI b) (pm m j u) = some (nI (vl n (prG g) (apG g) n (clr (clr S a) b) + (1000000 - apG g a b)), pm m j u) := by
  have h10 := hM.2.1
  have ea := C_apart (j := j) hc hM ha hb
  have hd := apG_le (hM.2.2 a ha).2 (hM.2.2 b hb).2
  have t2 : (clr S a).testBit b = true := by rw [clr_tb ta, tb, decide_eq_true (Ne.symm hab)]; rfl
  obtain ⟨l1, l2⟩ := clr_lt ta hS ha
  obtain ⟨l3, l4⟩ := clr_lt t2 l2 hb
  have hv := hT (clr (clr S a) b) (by omega)
  have hp := p10 h10
  simp (disch := omega) only [F_X2_withPair, e_cl, e_jn, e_lt, e_cxl, e_cxr, e_rzn, ↓l_m1, ↓l_m2, ↓l_m8, l_0, l_1, l_2, l_3, l_4, l_5, l_6, l_7, l_8, l_9, l_10, l_12, l_16, l_20, l_24, l_31, l_32, l_35, l_36, l_40, l_44, l_48, l_59, l_63, l_64, l_90, l_95, l_96, l_100, l_120, l_127, l_200, l_216, l_255, l_999, l_1000, l_10000, l_1000000, l_1048575, l_1000000000, nI_add, pk_mul, pk_sub, nI_leI, nI_ltI, nI_eq, nI_dec, nI_o0, mx_n, mn_n, ab_1, ab_n, e_u2e, e_u2k, e_u2a, if_pos, if_neg, if_true, if_false, not_true, not_false_eq_true, ne_eq, Nat.add_zero, Nat.zero_add, cG_90 hc, cP_90 hc, cT_90 hc, cR_90_0 hc, cA_91 hc, cS_91 hc, cR_90_1 hc, cA_92 hc, cS_92 hc, cR_90_2 hc, cA_93 hc, cS_93 hc, n_shl', n_or, nI_clr2 ta tb hab, hv, ea]
  rw [show vl n (prG g) (apG g) n (clr (clr S a) b) + 1000000 - apG g a b = vl n (prG g) (apG g) n (clr (clr S a) b) + (1000000 - apG g a b) by omega]
theorem C_bestL (hc : CS u) {n S k : Nat} {g : Nat → Nat} (hM : MM m n g) (hT : TV m n g S) (hS : S < 2 ^ n) (hk : k < n) (tk : S.testBit k = true) (K : Int32 → PM → Option (Int32 × PM)) : ∀ (d i fu : Nat), i + d = n → d < fu → k < i →
    F_X2_bestOf_L24 90 (nI S) (nI k) K fu (nI (max (mxv (pP (prG g) k S) (fun i => vl n (prG g) (apG g) n (clr (clr S k) i) + (1000000 - apG g k i)) i) (vl n (prG g) (apG g) n (clr S k) + 1) - 1)) (nI i) (pm m j u) = K (nI (max (mxv (pP (prG g) k S) (fun i => vl n (prG g) (apG g) n (clr (clr S k) i) + (1000000 - apG g k i)) n) (vl n (prG g) (apG g) n (clr S k) + 1) - 1)) (pm m j u) := by
  have h10 := hM.2.1
  have h3 := hM.1
  have hp := p10 h10
  have va := vl_le (n := n) (pr := prG g) (ap := apG g) n (clr S k)
  intro d
  induction d with
  | zero =>
    intro i fu hi hfu hki
    obtain ⟨fu, rfl⟩ : ∃ g, fu = g + 1 := ⟨fu - 1, by omega⟩
    have e : i = n := by omega
    subst e
    rw [F_X2_bestOf_L24]
    simp (disch := omega) only [e_cl, e_jn, e_lt, e_cxl, e_cxr, e_rzn, ↓l_m1, ↓l_m2, ↓l_m8, l_0, l_1, l_2, l_3, l_4, l_5, l_6, l_7, l_8, l_9, l_10, l_12, l_16, l_20, l_24, l_31, l_32, l_35, l_36, l_40, l_44, l_48, l_59, l_63, l_64, l_90, l_95, l_96, l_100, l_120, l_127, l_200, l_216, l_255, l_999, l_1000, l_10000, l_1000000, l_1048575, l_1000000000, nI_add, pk_mul, pk_sub, nI_leI, nI_ltI, nI_eq, nI_dec, nI_o0, mx_n, mn_n, ab_1, ab_n, e_u2e, e_u2k, e_u2a, if_pos, if_neg, if_true, if_false, not_true, not_false_eq_true, ne_eq, Nat.add_zero, Nat.zero_add, cG_90 hc, cP_90 hc, cT_90 hc, cR_90_0 hc, cA_91 hc, cS_91 hc, cR_90_1 hc, cA_92 hc, cS_92 hc, cR_90_2 hc, cA_93 hc, cS_93 hc, h3]
  | succ d ih =>
    intro i fu hi hfu hki
    obtain ⟨fu, rfl⟩ : ∃ g, fu = g + 1 := ⟨fu - 1, by omega⟩
    have hi' := ih (i + 1) fu (by omega) (by omega) (by omega)
    have hin : i < n := by omega
    have vb := vl_le (n := n) (pr := prG g) (ap := apG g) n (clr (clr S k) i)
    have hX : mxv (pP (prG g) k S) (fun i => vl n (prG g) (apG g) n (clr (clr S k) i) + (1000000 - apG g k i)) i ≤ 11000001 := mxv_le (fun x _ _ => by
      have := vl_le (n := n) (pr := prG g) (ap := apG g) n (clr (clr S k) x)
      show vl n (prG g) (apG g) n (clr (clr S k) x) + _ + 1 ≤ _
      omega)
    by_cases c : pP (prG g) k S i = true
    · obtain ⟨-, p2, p3⟩ := pP_t.mp c
      have hw := C_withPair (j := j) hc hM hT hS (Nat.le_refl _) hk hin (by omega) tk p2
      have hpr := C_isPair (j := j) hc hM hk hin
      rw [p3] at hpr
      have hh := C_holdsI (k := i) (show S < 2 ^ 31 by omega) (by omega) (pm m j u)
      rw [p2] at hh
      have em : max (mxv (pP (prG g) k S) (fun i => vl n (prG g) (apG g) n (clr (clr S k) i) + (1000000 - apG g k i)) (i + 1)) (vl n (prG g) (apG g) n (clr S k) + 1) - 1 = max (max (mxv (pP (prG g) k S) (fun i => vl n (prG g) (apG g) n (clr (clr S k) i) + (1000000 - apG g k i)) i) (vl n (prG g) (apG g) n (clr S k) + 1) - 1) (vl n (prG g) (apG g) n (clr (clr S k) i) + (1000000 - apG g k i)) := by
        by_cases c2 : mxv (pP (prG g) k S) (fun i => vl n (prG g) (apG g) n (clr (clr S k) i) + (1000000 - apG g k i)) i < vl n (prG g) (apG g) n (clr (clr S k) i) + (1000000 - apG g k i) + 1
        · rw [(mxv_y (P := pP (prG g) k S) (v := fun i => vl n (prG g) (apG g) n (clr (clr S k) i) + (1000000 - apG g k i)) (g := i) ⟨c, c2⟩).1]
          show max (vl n (prG g) (apG g) n (clr (clr S k) i) + (1000000 - apG g k i) + 1) _ - 1 = _
          omega
        · rw [(mxv_n (P := pP (prG g) k S) (v := fun i => vl n (prG g) (apG g) n (clr (clr S k) i) + (1000000 - apG g k i)) (g := i) (fun z => c2 z.2)).1]
          omega
      rw [em] at hi'
      rw [← hi', F_X2_bestOf_L24]
      simp (disch := omega) only [e_cl, e_jn, e_lt, e_cxl, e_cxr, e_rzn, ↓l_m1, ↓l_m2, ↓l_m8, l_0, l_1, l_2, l_3, l_4, l_5, l_6, l_7, l_8, l_9, l_10, l_12, l_16, l_20, l_24, l_31, l_32, l_35, l_36, l_40, l_44, l_48, l_59, l_63, l_64, l_90, l_95, l_96, l_100, l_120, l_127, l_200, l_216, l_255, l_999, l_1000, l_10000, l_1000000, l_1048575, l_1000000000, nI_add, pk_mul, pk_sub, nI_leI, nI_ltI, nI_eq, nI_dec, nI_o0, mx_n, mn_n, ab_1, ab_n, e_u2e, e_u2k, e_u2a, if_pos, if_neg, if_true, if_false, not_true, not_false_eq_true, ne_eq, Nat.add_zero, Nat.zero_add, cG_90 hc, cP_90 hc, cT_90 hc, cR_90_0 hc, cA_91 hc, cS_91 hc, cR_90_1 hc, cA_92 hc, cS_92 hc, cR_90_2 hc, cA_93 hc, cS_93 hc, h3, hh, hpr, hw, Bool.toNat_true]
    · rw [(mxv_n (P := pP (prG g) k S) (v := fun i => vl n (prG g) (apG g) n (clr (clr S k) i) + (1000000 - apG g k i)) (g := i) (fun z => c z.1)).1] at hi'
      rw [← hi', F_X2_bestOf_L24]
      have hh := C_holdsI (k := i) (show S < 2 ^ 31 by omega) (by omega) (pm m j u)
      cases p2 : S.testBit i
      · rw [p2] at hh
        simp (disch := omega) only [e_cl, e_jn, e_lt, e_cxl, e_cxr, e_rzn, ↓l_m1, ↓l_m2, ↓l_m8, l_0, l_1, l_2, l_3, l_4, l_5, l_6, l_7, l_8, l_9, l_10, l_12, l_16, l_20, l_24, l_31, l_32, l_35, l_36, l_40, l_44, l_48, l_59, l_63, l_64, l_90, l_95, l_96, l_100, l_120, l_127, l_200, l_216, l_255, l_999, l_1000, l_10000, l_1000000, l_1048575, l_1000000000, nI_add, pk_mul, pk_sub, nI_leI, nI_ltI, nI_eq, nI_dec, nI_o0, mx_n, mn_n, ab_1, ab_n, e_u2e, e_u2k, e_u2a, if_pos, if_neg, if_true, if_false, not_true, not_false_eq_true, ne_eq, Nat.add_zero, Nat.zero_add, cG_90 hc, cP_90 hc, cT_90 hc, cR_90_0 hc, cA_91 hc, cS_91 hc, cR_90_1 hc, cA_92 hc, cS_92 hc, cR_90_2 hc, cA_93 hc, cS_93 hc, h3, hh, Bool.toNat_false]
      · have p3 : prG g k i = false := ts_nt (fun z => c (pP_t.mpr ⟨hki, p2, z⟩))
        have hpr := C_isPair (j := j) hc hM hk hin
        rw [p3] at hpr
        rw [p2] at hh
        simp (disch := omega) only [e_cl, e_jn, e_lt, e_cxl, e_cxr, e_rzn, ↓l_m1, ↓l_m2, ↓l_m8, l_0, l_1, l_2, l_3, l_4, l_5, l_6, l_7, l_8, l_9, l_10, l_12, l_16, l_20, l_24, l_31, l_32, l_35, l_36, l_40, l_44, l_48, l_59, l_63, l_64, l_90, l_95, l_96, l_100, l_120, l_127, l_200, l_216, l_255, l_999, l_1000, l_10000, l_1000000, l_1048575, l_1000000000, nI_add, pk_mul, pk_sub, nI_leI, nI_ltI, nI_eq, nI_dec, nI_o0, mx_n, mn_n, ab_1, ab_n, e_u2e, e_u2k, e_u2a, if_pos, if_neg, if_true, if_false, not_true, not_false_eq_true, ne_eq, Nat.add_zero, Nat.zero_add, cG_90 hc, cP_90 hc, cT_90 hc, cR_90_0 hc, cA_91 hc, cS_91 hc, cR_90_1 hc, cA_92 hc, cS_92 hc, cR_90_2 hc, cA_93 hc, cS_93 hc, h3, hh, hpr, Bool.toNat_true, Bool.toNat_false]
theorem mxv_lowz {n k S : Nat} {g : Nat → Nat} {f : Nat → Nat} : mxv (pP (prG g) k S) f (k + 1) = 0 := Nat.le_zero.mp (mxv_le (fun x hx hp => by have := (pP_t.mp hp).1; omega))
theorem C_bestOf (hc : CS u) {n S : Nat} {g : Nat → Nat} (hM : MM m n g) (hT : TV m n g S) (hS : S < 2 ^ n) (h0 : S ≠ 0) : F_X2_bestOf 90 (nI S) (pm m j u) = some (nI (vl n (prG g) (apG g) n S), pm m j u) := by
  have h10 := hM.2.1
  have hp := p10 h10
  obtain ⟨k, hk⟩ := LB_ex h0
  have hkn := LB_lt hk hS
  have hL := fun K => C_bestL (j := j) hc hM hT hS hkn hk.1 K (n - (k + 1)) (k + 1) LF (by omega) (by unfold LF; omega) (by omega)
  rw [mxv_lowz (n := n), show max 0 (vl n (prG g) (apG g) n (clr S k) + 1) - 1 = vl n (prG g) (apG g) n (clr S k) by omega] at hL
  have hv := hT (clr S k) (clr_lt hk.1 hS hkn).1
  have hlt := (clr_lt hk.1 hS hkn).2
  have hlb := C_lowestBit hk (show S < 2 ^ 63 by omega) (pm m j u)
  rw [(vl_LB hk hkn).1]
  unfold F_X2_bestOf
  rw [nI_l (show S < 2 ^ 31 by omega), hlb]
  simp (disch := omega) only [e_cl, e_jn, e_lt, e_cxl, e_cxr, e_rzn, ↓l_m1, ↓l_m2, ↓l_m8, l_0, l_1, l_2, l_3, l_4, l_5, l_6, l_7, l_8, l_9, l_10, l_12, l_16, l_20, l_24, l_31, l_32, l_35, l_36, l_40, l_44, l_48, l_59, l_63, l_64, l_90, l_95, l_96, l_100, l_120, l_127, l_200, l_216, l_255, l_999, l_1000, l_10000, l_1000000, l_1048575, l_1000000000, nI_add, pk_mul, pk_sub, nI_leI, nI_ltI, nI_eq, nI_dec, nI_o0, mx_n, mn_n, ab_1, ab_n, e_u2e, e_u2k, e_u2a, if_pos, if_neg, if_true, if_false, not_true, not_false_eq_true, ne_eq, Nat.add_zero, Nat.zero_add, cG_90 hc, cP_90 hc, cT_90 hc, cR_90_0 hc, cA_91 hc, cS_91 hc, cR_90_1 hc, cA_92 hc, cS_92 hc, cR_90_2 hc, cA_93 hc, cS_93 hc, n_shl', nI_clr hk.1, hv, hL]
theorem C_L23 (hc : CS u) {n : Nat} {g : Nat → Nat} : ∀ (e S fu : Nat) (m : IM), S + e = 2 ^ n → e < fu → 1 ≤ S → MM m n g → TV m n g S →
    ∃ m', (∀ K, F_X2_pairUp_L23 90 40 (nI (2 ^ n - 1)) K fu (nI S) (pm m j u) = K (pm m' j u)) ∧ (∀ b, b ≠ 93 → m' b = m b) ∧ TV m' n g (2 ^ n) := by
  intro e
  induction e with
  | zero =>
    intro S fu m hS hfu h1 hM hT
    obtain ⟨fu, rfl⟩ : ∃ g, fu = g + 1 := ⟨fu - 1, by omega⟩
    have hp := p10 hM.2.1
    refine ⟨m, fun K => ?_, fun _ _ => rfl, by rw [← hS]; exact hT⟩
    rw [F_X2_pairUp_L23]
    simp (disch := omega) only [e_cl, e_jn, e_lt, e_cxl, e_cxr, e_rzn, ↓l_m1, ↓l_m2, ↓l_m8, l_0, l_1, l_2, l_3, l_4, l_5, l_6, l_7, l_8, l_9, l_10, l_12, l_16, l_20, l_24, l_31, l_32, l_35, l_36, l_40, l_44, l_48, l_59, l_63, l_64, l_90, l_95, l_96, l_100, l_120, l_127, l_200, l_216, l_255, l_999, l_1000, l_10000, l_1000000, l_1048575, l_1000000000, nI_add, pk_mul, pk_sub, nI_leI, nI_ltI, nI_eq, nI_dec, nI_o0, mx_n, mn_n, ab_1, ab_n, e_u2e, e_u2k, e_u2a, if_pos, if_neg, if_true, if_false, not_true, not_false_eq_true, ne_eq, Nat.add_zero, Nat.zero_add]
  | succ e ih =>
    intro S fu m hS hfu h1 hM hT
    obtain ⟨fu, rfl⟩ : ∃ g, fu = g + 1 := ⟨fu - 1, by omega⟩
    have hp := p10 hM.2.1
    have hb := C_bestOf (j := j) hc hM hT (by omega) (by omega)
    obtain ⟨m', i1, i2, i3⟩ := ih (S + 1) fu (u2 m 93 S (nI (vl n (prG g) (apG g) n S))) (by omega) (by omega) (by omega) (by unfold MM; rw [e_u2r (b := 90) (by decide), e_u2r (b := 92) (by decide)]; exact hM) (fun T hT' => by
      by_cases e : T = S
      · rw [e, e_u2s]
      · rw [e_u2k e]; exact hT T (by omega))
    refine ⟨m', fun K => ?_, fun b hb => by rw [i2 b hb, e_u2r hb], i3⟩
    rw [← i1 K, F_X2_pairUp_L23]
    simp (disch := omega) only [e_cl, e_jn, e_lt, e_cxl, e_cxr, e_rzn, ↓l_m1, ↓l_m2, ↓l_m8, l_0, l_1, l_2, l_3, l_4, l_5, l_6, l_7, l_8, l_9, l_10, l_12, l_16, l_20, l_24, l_31, l_32, l_35, l_36, l_40, l_44, l_48, l_59, l_63, l_64, l_90, l_95, l_96, l_100, l_120, l_127, l_200, l_216, l_255, l_999, l_1000, l_10000, l_1000000, l_1048575, l_1000000000, nI_add, pk_mul, pk_sub, nI_leI, nI_ltI, nI_eq, nI_dec, nI_o0, mx_n, mn_n, ab_1, ab_n, e_u2e, e_u2k, e_u2a, if_pos, if_neg, if_true, if_false, not_true, not_false_eq_true, ne_eq, Nat.add_zero, Nat.zero_add, cG_90 hc, cP_90 hc, cT_90 hc, cR_90_0 hc, cA_91 hc, cS_91 hc, cR_90_1 hc, cA_92 hc, cS_92 hc, cR_90_2 hc, cA_93 hc, cS_93 hc, hb]
theorem C_mateL (hc : CS u) {n S k : Nat} {g : Nat → Nat} (hM : MM m n g) (hT : TV m n g (2 ^ n)) (hS : S < 2 ^ n) (hk : LB S k) (K1 : PM → Option (Int32 × PM)) (K2 : Int32 → PM → Option (Int32 × PM)) : ∀ (d i fu : Nat), i + d = n → d < fu → k < i → (ch n (prG g) (apG g) n k S ≠ 0 → i ≤ ch n (prG g) (apG g) n k S - 1) →
    F_X2_mateIn_L4 90 (nI S) (nI k) K1 K2 fu (nI i) (pm m j u) = if ch n (prG g) (apG g) n k S = 0 then K1 (pm m j u) else K2 (nI (ch n (prG g) (apG g) n k S - 1)) (pm m j u) := by
  have h10 := hM.2.1
  have h3 := hM.1
  have hp := p10 h10
  have hkn := LB_lt hk hS
  obtain ⟨cv1, cv2, cv3⟩ := ch_val (pr := prG g) (ap := apG g) hk hkn
  have va := vl_le (n := n) (pr := prG g) (ap := apG g) n S
  have hvS := hT S hS
  intro d
  induction d with
  | zero =>
    intro i fu hi hfu hki hq
    obtain ⟨fu, rfl⟩ : ∃ g, fu = g + 1 := ⟨fu - 1, by omega⟩
    have e : i = n := by omega
    subst e
    have z : ch i (prG g) (apG g) i k S = 0 := Classical.byContradiction fun z => by
      have := (cv2 z).1
      have := hq z
      omega
    rw [if_pos z, F_X2_mateIn_L4]
    simp (disch := omega) only [e_cl, e_jn, e_lt, e_cxl, e_cxr, e_rzn, ↓l_m1, ↓l_m2, ↓l_m8, l_0, l_1, l_2, l_3, l_4, l_5, l_6, l_7, l_8, l_9, l_10, l_12, l_16, l_20, l_24, l_31, l_32, l_35, l_36, l_40, l_44, l_48, l_59, l_63, l_64, l_90, l_95, l_96, l_100, l_120, l_127, l_200, l_216, l_255, l_999, l_1000, l_10000, l_1000000, l_1048575, l_1000000000, nI_add, pk_mul, pk_sub, nI_leI, nI_ltI, nI_eq, nI_dec, nI_o0, mx_n, mn_n, ab_1, ab_n, e_u2e, e_u2k, e_u2a, if_pos, if_neg, if_true, if_false, not_true, not_false_eq_true, ne_eq, Nat.add_zero, Nat.zero_add, cG_90 hc, cP_90 hc, cT_90 hc, cR_90_0 hc, cA_91 hc, cS_91 hc, cR_90_1 hc, cA_92 hc, cS_92 hc, cR_90_2 hc, cA_93 hc, cS_93 hc, h3]
  | succ d ih =>
    intro i fu hi hfu hki hq
    obtain ⟨fu, rfl⟩ : ∃ g, fu = g + 1 := ⟨fu - 1, by omega⟩
    have hin : i < n := by omega
    have hh := C_holdsI (k := i) (show S < 2 ^ 31 by omega) (by omega) (pm m j u)
    have vb := vl_le (n := n) (pr := prG g) (ap := apG g) n (clr (clr S k) i)
    rw [F_X2_mateIn_L4]
    by_cases c : pP (prG g) k S i = true
    · obtain ⟨-, p2, p3⟩ := pP_t.mp c
      have hw := C_withPair (j := j) hc hM hT hS (by omega) hkn hin (by omega) hk.1 p2
      have hpr := C_isPair (j := j) hc hM hkn hin
      rw [p3] at hpr
      rw [p2] at hh
      by_cases c2 : ch n (prG g) (apG g) n k S ≠ 0 ∧ i = ch n (prG g) (apG g) n k S - 1
      · rw [if_neg c2.1, ← c2.2]
        have := (cv2 c2.1).2.2.1
        rw [← c2.2] at this
        rw [← this] at hw
        simp (disch := omega) only [e_cl, e_jn, e_lt, e_cxl, e_cxr, e_rzn, ↓l_m1, ↓l_m2, ↓l_m8, l_0, l_1, l_2, l_3, l_4, l_5, l_6, l_7, l_8, l_9, l_10, l_12, l_16, l_20, l_24, l_31, l_32, l_35, l_36, l_40, l_44, l_48, l_59, l_63, l_64, l_90, l_95, l_96, l_100, l_120, l_127, l_200, l_216, l_255, l_999, l_1000, l_10000, l_1000000, l_1048575, l_1000000000, nI_add, pk_mul, pk_sub, nI_leI, nI_ltI, nI_eq, nI_dec, nI_o0, mx_n, mn_n, ab_1, ab_n, e_u2e, e_u2k, e_u2a, if_pos, if_neg, if_true, if_false, not_true, not_false_eq_true, ne_eq, Nat.add_zero, Nat.zero_add, cG_90 hc, cP_90 hc, cT_90 hc, cR_90_0 hc, cA_91 hc, cS_91 hc, cR_90_1 hc, cA_92 hc, cS_92 hc, cR_90_2 hc, cA_93 hc, cS_93 hc, h3, hh, hpr, hw, hvS, Bool.toNat_true]
      · have hlt : vl n (prG g) (apG g) n (clr (clr S k) i) + (1000000 - apG g k i) < vl n (prG g) (apG g) n S := by
          by_cases z : ch n (prG g) (apG g) n k S = 0
          · exact cv3 z i hin c
          · exact (cv2 z).2.2.2 i (by have := hq z; omega) c
        have hi' := ih (i + 1) fu (by omega) (by omega) (by omega) (fun z => by have := hq z; omega)
        rw [← hi']
        simp (disch := omega) only [e_cl, e_jn, e_lt, e_cxl, e_cxr, e_rzn, ↓l_m1, ↓l_m2, ↓l_m8, l_0, l_1, l_2, l_3, l_4, l_5, l_6, l_7, l_8, l_9, l_10, l_12, l_16, l_20, l_24, l_31, l_32, l_35, l_36, l_40, l_44, l_48, l_59, l_63, l_64, l_90, l_95, l_96, l_100, l_120, l_127, l_200, l_216, l_255, l_999, l_1000, l_10000, l_1000000, l_1048575, l_1000000000, nI_add, pk_mul, pk_sub, nI_leI, nI_ltI, nI_eq, nI_dec, nI_o0, mx_n, mn_n, ab_1, ab_n, e_u2e, e_u2k, e_u2a, if_pos, if_neg, if_true, if_false, not_true, not_false_eq_true, ne_eq, Nat.add_zero, Nat.zero_add, cG_90 hc, cP_90 hc, cT_90 hc, cR_90_0 hc, cA_91 hc, cS_91 hc, cR_90_1 hc, cA_92 hc, cS_92 hc, cR_90_2 hc, cA_93 hc, cS_93 hc, h3, hh, hpr, hw, hvS, Bool.toNat_true]
    · have hi' := ih (i + 1) fu (by omega) (by omega) (by omega) (fun z => by
        have h1 := hq z
        have h2 := (cv2 z).2.1
        by_cases e : i = ch n (prG g) (apG g) n k S - 1
        · rw [← e] at h2; exact absurd h2 c
        · omega)
      rw [← hi']
      cases p2 : S.testBit i
      · rw [p2] at hh
        simp (disch := omega) only [e_cl, e_jn, e_lt, e_cxl, e_cxr, e_rzn, ↓l_m1, ↓l_m2, ↓l_m8, l_0, l_1, l_2, l_3, l_4, l_5, l_6, l_7, l_8, l_9, l_10, l_12, l_16, l_20, l_24, l_31, l_32, l_35, l_36, l_40, l_44, l_48, l_59, l_63, l_64, l_90, l_95, l_96, l_100, l_120, l_127, l_200, l_216, l_255, l_999, l_1000, l_10000, l_1000000, l_1048575, l_1000000000, nI_add, pk_mul, pk_sub, nI_leI, nI_ltI, nI_eq, nI_dec, nI_o0, mx_n, mn_n, ab_1, ab_n, e_u2e, e_u2k, e_u2a, if_pos, if_neg, if_true, if_false, not_true, not_false_eq_true, ne_eq, Nat.add_zero, Nat.zero_add, cG_90 hc, cP_90 hc, cT_90 hc, cR_90_0 hc, cA_91 hc, cS_91 hc, cR_90_1 hc, cA_92 hc, cS_92 hc, cR_90_2 hc, cA_93 hc, cS_93 hc, h3, hh, Bool.toNat_false]
      · have p3 : prG g k i = false := ts_nt (fun z => c (pP_t.mpr ⟨hki, p2, z⟩))
        have hpr := C_isPair (j := j) hc hM hkn hin
        rw [p3] at hpr
        rw [p2] at hh
        simp (disch := omega) only [e_cl, e_jn, e_lt, e_cxl, e_cxr, e_rzn, ↓l_m1, ↓l_m2, ↓l_m8, l_0, l_1, l_2, l_3, l_4, l_5, l_6, l_7, l_8, l_9, l_10, l_12, l_16, l_20, l_24, l_31, l_32, l_35, l_36, l_40, l_44, l_48, l_59, l_63, l_64, l_90, l_95, l_96, l_100, l_120, l_127, l_200, l_216, l_255, l_999, l_1000, l_10000, l_1000000, l_1048575, l_1000000000, nI_add, pk_mul, pk_sub, nI_leI, nI_ltI, nI_eq, nI_dec, nI_o0, mx_n, mn_n, ab_1, ab_n, e_u2e, e_u2k, e_u2a, if_pos, if_neg, if_true, if_false, not_true, not_false_eq_true, ne_eq, Nat.add_zero, Nat.zero_add, cG_90 hc, cP_90 hc, cT_90 hc, cR_90_0 hc, cA_91 hc, cS_91 hc, cR_90_1 hc, cA_92 hc, cS_92 hc, cR_90_2 hc, cA_93 hc, cS_93 hc, h3, hh, hpr, Bool.toNat_true, Bool.toNat_false]
theorem C_mateIn (hc : CS u) {n S k : Nat} {g : Nat → Nat} (hM : MM m n g) (hT : TV m n g (2 ^ n)) (hS : S < 2 ^ n) (hk : LB S k) : F_X2_mateIn 90 (nI S) (nI k) (pm m j u) = some (oI (ch n (prG g) (apG g) n k S), pm m j u) := by
  have h10 := hM.2.1
  have hkn := LB_lt hk hS
  have hL := fun K1 K2 => C_mateL (j := j) hc hM hT hS hk K1 K2 (n - (k + 1)) (k + 1) LF (by omega) (by unfold LF; omega) (by omega) (fun z => by
    have := (pP_t.mp (((ch_val (pr := prG g) (ap := apG g) hk hkn).2.1 z).2.1)).1
    omega)
  unfold F_X2_mateIn
  simp (disch := omega) only [e_cl, e_jn, e_lt, e_cxl, e_cxr, e_rzn, ↓l_m1, ↓l_m2, ↓l_m8, l_0, l_1, l_2, l_3, l_4, l_5, l_6, l_7, l_8, l_9, l_10, l_12, l_16, l_20, l_24, l_31, l_32, l_35, l_36, l_40, l_44, l_48, l_59, l_63, l_64, l_90, l_95, l_96, l_100, l_120, l_127, l_200, l_216, l_255, l_999, l_1000, l_10000, l_1000000, l_1048575, l_1000000000, nI_add, pk_mul, pk_sub, nI_leI, nI_ltI, nI_eq, nI_dec, nI_o0, mx_n, mn_n, ab_1, ab_n, e_u2e, e_u2k, e_u2a, if_pos, if_neg, if_true, if_false, not_true, not_false_eq_true, ne_eq, Nat.add_zero, Nat.zero_add, hL]
  by_cases c : ch n (prG g) (apG g) n k S = 0
  · rw [if_pos c, c]
  · rw [if_neg c, oI_p c]
end CMA
