/-! ===== the reference: match, at last ===== -/
def mtN (sg : Nat → Nat → Nat) (nS : Nat) : Nat := (col sg nS).1
def mtT (sg : Nat → Nat → Nat) (nS : Nat) : Nat → Nat := (col sg nS).2
def mtG (sg : Nat → Nat → Nat) (nS : Nat) : Nat → Nat := fun k => sg (mtT sg nS k) 0
def mtV (sg : Nat → Nat → Nat) (nS : Nat) : Nat := vl (mtN sg nS) (prG (mtG sg nS)) (apG (mtG sg nS)) (mtN sg nS) (2 ^ mtN sg nS - 1)
def mtW (sg : Nat → Nat → Nat) (nS : Nat) : Nat → Nat := cw (mtN sg nS) (prG (mtG sg nS)) (apG (mtG sg nS)) (mtN sg nS) (2 ^ mtN sg nS - 1) (fun _ => 0)
def mtS (sg : Nat → Nat → Nat) (nS : Nat) : Nat → Nat → Nat := matS sg (mtN sg nS) (mtT sg nS) (mtW sg nS)
def prsv (v : Nat) : Nat := (v + 999999) / 1000000
section RMC
variable {m : IM} {j : JM} {u : SU}
theorem R_L12 (hs : RS u) {nS nL : Nat} {sg ix an : Nat → Nat → Nat} (hD : SD nS nL sg ix an) : ∀ (d s fu : Nat) (m : IM), m 200 32 = nI nS → (∀ s, s < nS → m 227 s = nI (sg s 4) ∧ m 224 s = oI (sg s 5) ∧ m 226 s = oI (sg s 7)) → m 200 45 = nI (col sg s).1 → (∀ k, k < (col sg s).1 → m 230 k = nI ((col sg s).2 k) ∧ m 231 k = oI 0) → s + d = nS → d < fu →
    ∃ m', (∀ K, F_X12_match_L12 200 K fu (nI s) (pm m j u) = K (pm m' j u)) ∧ (∀ b, b ≠ 200 → b ≠ 230 → b ≠ 231 → m' b = m b) ∧ (∀ k, k ≠ 45 → m' 200 k = m 200 k) ∧ m' 200 45 = nI (col sg nS).1 ∧ ∀ k, k < (col sg nS).1 → m' 230 k = nI ((col sg nS).2 k) ∧ m' 231 k = oI 0 := by
  have hS := hD.1
  intro d
  induction d with
  | zero =>
    intro s fu m h1 h2 h3 h4 hs' hfu
    obtain ⟨fu, rfl⟩ : ∃ g, fu = g + 1 := ⟨fu - 1, by omega⟩
    have e : s = nS := by omega
    subst e
    refine ⟨m, fun K => ?_, fun _ _ _ _ => rfl, fun _ _ => rfl, h3, h4⟩
    simp (disch := omega) only [F_X12_match_L12, e_cl, e_jn, e_lt, e_cxl, e_cxr, e_rzn, ↓l_m1, ↓l_m2, ↓l_m8, l_0, l_1, l_2, l_3, l_4, l_5, l_6, l_7, l_8, l_9, l_10, l_12, l_16, l_20, l_24, l_31, l_32, l_35, l_36, l_40, l_44, l_48, l_59, l_63, l_64, l_90, l_95, l_96, l_100, l_120, l_127, l_200, l_216, l_255, l_999, l_1000, l_10000, l_1000000, l_1048575, l_1000000000, nI_add, pk_mul, pk_sub, nI_leI, nI_ltI, nI_eq, nI_dec, nI_o0, mx_n, mn_n, ab_1, ab_n, e_u2e, e_u2k, e_u2a, if_pos, if_neg, if_true, if_false, not_true, not_false_eq_true, ne_eq, Nat.add_zero, Nat.zero_add, rP hs, rI hs, rT hs, h1]
  | succ d ih =>
    intro s fu m h1 h2 h3 h4 hs' hfu
    obtain ⟨fu, rfl⟩ : ∃ g, fu = g + 1 := ⟨fu - 1, by omega⟩
    have hlt : s < nS := by omega
    have hc10 := (col_ok sg s).1
    obtain ⟨q1, q2, q3⟩ := h2 s hlt
    obtain ⟨d1, d2, d3, d4, d5, d6, d7, -⟩ := hD.2 s hlt
    by_cases f : (col sg s).1 = 10
    · have e : col sg nS = col sg s := by rw [← hs']; exact col_full f (d + 1)
      rw [e]
      refine ⟨m, fun K => ?_, fun _ _ _ _ => rfl, fun _ _ => rfl, h3, h4⟩
      rw [f] at h3
      simp (disch := omega) only [F_X12_match_L12, e_cl, e_jn, e_lt, e_cxl, e_cxr, e_rzn, ↓l_m1, ↓l_m2, ↓l_m8, l_0, l_1, l_2, l_3, l_4, l_5, l_6, l_7, l_8, l_9, l_10, l_12, l_16, l_20, l_24, l_31, l_32, l_35, l_36, l_40, l_44, l_48, l_59, l_63, l_64, l_90, l_95, l_96, l_100, l_120, l_127, l_200, l_216, l_255, l_999, l_1000, l_10000, l_1000000, l_1048575, l_1000000000, nI_add, pk_mul, pk_sub, nI_leI, nI_ltI, nI_eq, nI_dec, nI_o0, mx_n, mn_n, ab_1, ab_n, e_u2e, e_u2k, e_u2a, if_pos, if_neg, if_true, if_false, not_true, not_false_eq_true, ne_eq, Nat.add_zero, Nat.zero_add, rP hs, rI hs, rT hs, h1, h3]
    · by_cases c : elB sg s = true
      · obtain ⟨c4, c5, c7⟩ := elB_t.mp c
        have ec := col_y (sg := sg) (s := s) ⟨by omega, c⟩
        rw [c4] at q1
        rw [c5] at q2
        rw [c7] at q3
        obtain ⟨m', i1, i2, i3, i4⟩ := ih (s + 1) fu (u2 (u2 (u2 m 230 (col sg s).1 (nI s)) 231 (col sg s).1 (oI 0)) 200 45 (nI ((col sg s).1 + 1))) (by rw [e_u2k (by decide), e_u2a (by decide), e_u2a (by decide)]; exact h1) (fun t ht => by rw [e_u2a (by decide), e_u2a (by decide), e_u2a (by decide), e_u2a (by decide), e_u2a (by decide), e_u2a (by decide), e_u2a (by decide), e_u2a (by decide), e_u2a (by decide)]; exact h2 t ht) (by rw [e_u2s, ec]) (fun k hk => by
          rw [ec] at hk ⊢
          have hk : k < (col sg s).1 + 1 := hk
          rw [e_u2r (b := 230) (by decide), e_u2r (b := 230) (by decide), e_u2r (b := 231) (by decide)]
          show u2 m 230 _ _ 230 k = nI (if k = (col sg s).1 then s else (col sg s).2 k) ∧ _
          by_cases e : k = (col sg s).1
          · rw [e, e_u2s, e_u2s, if_pos rfl]; exact ⟨rfl, rfl⟩
          · rw [e_u2k e, e_u2k e, if_neg e, e_u2r (b := 231) (by decide)]; exact h4 k (by omega)) (by omega) (by omega)
        refine ⟨m', fun K => ?_, fun b g1 g2 g3 => by rw [i2 b g1 g2 g3, e_u2r g1, e_u2r g3, e_u2r g2], fun k hk => by rw [i3 k hk, e_u2k hk, e_u2a (by decide), e_u2a (by decide)], i4⟩
        rw [← i1 K, F_X12_match_L12]
        simp (disch := omega) only [e_cl, e_jn, e_lt, e_cxl, e_cxr, e_rzn, ↓l_m1, ↓l_m2, ↓l_m8, l_0, l_1, l_2, l_3, l_4, l_5, l_6, l_7, l_8, l_9, l_10, l_12, l_16, l_20, l_24, l_31, l_32, l_35, l_36, l_40, l_44, l_48, l_59, l_63, l_64, l_90, l_95, l_96, l_100, l_120, l_127, l_200, l_216, l_255, l_999, l_1000, l_10000, l_1000000, l_1048575, l_1000000000, nI_add, pk_mul, pk_sub, nI_leI, nI_ltI, nI_eq, nI_dec, nI_o0, mx_n, mn_n, ab_1, ab_n, e_u2e, e_u2k, e_u2a, if_pos, if_neg, if_true, if_false, not_true, not_false_eq_true, ne_eq, Nat.add_zero, Nat.zero_add, rP hs, rI hs, rT hs, rR_42 hs, rA_227 hs, rS_227 hs, rR_39 hs, rA_224 hs, rS_224 hs, rR_41 hs, rA_226 hs, rS_226 hs, rR_48 hs, rA_230 hs, rS_230 hs, rR_49 hs, rA_231 hs, rS_231 hs, h1, h3, q1, q2, q3]
      · have ec := col_n (sg := sg) (s := s) (fun z => c z.2)
        obtain ⟨m', i1, i2, i3, i4⟩ := ih (s + 1) fu m h1 h2 (by rw [ec]; exact h3) (by rw [ec]; exact h4) (by omega) (by omega)
        refine ⟨m', fun K => ?_, i2, i3, i4⟩
        rw [← i1 K, F_X12_match_L12]
        by_cases c4 : sg s 4 = 1
        · rw [c4] at q1
          by_cases c5 : sg s 5 = 0
          · have c7 : sg s 7 ≠ 0 := fun z => c (elB_t.mpr ⟨c4, c5, z⟩)
            rw [c5] at q2
            simp (disch := omega) only [e_cl, e_jn, e_lt, e_cxl, e_cxr, e_rzn, ↓l_m1, ↓l_m2, ↓l_m8, l_0, l_1, l_2, l_3, l_4, l_5, l_6, l_7, l_8, l_9, l_10, l_12, l_16, l_20, l_24, l_31, l_32, l_35, l_36, l_40, l_44, l_48, l_59, l_63, l_64, l_90, l_95, l_96, l_100, l_120, l_127, l_200, l_216, l_255, l_999, l_1000, l_10000, l_1000000, l_1048575, l_1000000000, nI_add, pk_mul, pk_sub, nI_leI, nI_ltI, nI_eq, nI_dec, nI_o0, mx_n, mn_n, ab_1, ab_n, e_u2e, e_u2k, e_u2a, if_pos, if_neg, if_true, if_false, not_true, not_false_eq_true, ne_eq, Nat.add_zero, Nat.zero_add, rP hs, rI hs, rT hs, rR_42 hs, rA_227 hs, rS_227 hs, rR_39 hs, rA_224 hs, rS_224 hs, rR_41 hs, rA_226 hs, rS_226 hs, h1, h3, q1, q2, q3, oI_ne c7 (show sg s 7 < 2 ^ 31 by omega)]
          · simp (disch := omega) only [e_cl, e_jn, e_lt, e_cxl, e_cxr, e_rzn, ↓l_m1, ↓l_m2, ↓l_m8, l_0, l_1, l_2, l_3, l_4, l_5, l_6, l_7, l_8, l_9, l_10, l_12, l_16, l_20, l_24, l_31, l_32, l_35, l_36, l_40, l_44, l_48, l_59, l_63, l_64, l_90, l_95, l_96, l_100, l_120, l_127, l_200, l_216, l_255, l_999, l_1000, l_10000, l_1000000, l_1048575, l_1000000000, nI_add, pk_mul, pk_sub, nI_leI, nI_ltI, nI_eq, nI_dec, nI_o0, mx_n, mn_n, ab_1, ab_n, e_u2e, e_u2k, e_u2a, if_pos, if_neg, if_true, if_false, not_true, not_false_eq_true, ne_eq, Nat.add_zero, Nat.zero_add, rP hs, rI hs, rT hs, rR_42 hs, rA_227 hs, rS_227 hs, rR_39 hs, rA_224 hs, rS_224 hs, rR_41 hs, rA_226 hs, rS_226 hs, h1, h3, q1, q2, oI_ne c5 (show sg s 5 < 2 ^ 31 by omega)]
        · have c4' : sg s 4 = 0 := by omega
          rw [c4'] at q1
          simp (disch := omega) only [e_cl, e_jn, e_lt, e_cxl, e_cxr, e_rzn, ↓l_m1, ↓l_m2, ↓l_m8, l_0, l_1, l_2, l_3, l_4, l_5, l_6, l_7, l_8, l_9, l_10, l_12, l_16, l_20, l_24, l_31, l_32, l_35, l_36, l_40, l_44, l_48, l_59, l_63, l_64, l_90, l_95, l_96, l_100, l_120, l_127, l_200, l_216, l_255, l_999, l_1000, l_10000, l_1000000, l_1048575, l_1000000000, nI_add, pk_mul, pk_sub, nI_leI, nI_ltI, nI_eq, nI_dec, nI_o0, mx_n, mn_n, ab_1, ab_n, e_u2e, e_u2k, e_u2a, if_pos, if_neg, if_true, if_false, not_true, not_false_eq_true, ne_eq, Nat.add_zero, Nat.zero_add, rP hs, rI hs, rT hs, rR_42 hs, rA_227 hs, rS_227 hs, h1, h3, q1]
def Wp (W : Nat → Nat) (p : Nat) : Nat → Nat := fun i => if i < p then W i else 0
theorem Wp_s {W : Nat → Nat} {p : Nat} (h : W p ≠ 0) : Wp W (p + 1) = upd1 (Wp W p) p (W p) := by
  funext i
  unfold Wp upd1
  by_cases e : i = p
  · rw [if_pos e, if_pos (by omega), e]
  · rw [if_neg e]
    show _ = if i < p then W i else 0
    by_cases c : i < p
    · rw [if_pos c, if_pos (by omega)]
    · rw [if_neg c, if_neg (by omega)]
theorem Wp_z {W : Nat → Nat} {p : Nat} (h : W p = 0) : Wp W (p + 1) = Wp W p := by
  funext i
  unfold Wp
  by_cases e : i = p
  · rw [if_pos (by omega), if_neg (by omega), e, h]
  · by_cases c : i < p
    · rw [if_pos c, if_pos (by omega)]
    · rw [if_neg c, if_neg (by omega)]
theorem R_L116 (hs : RS u) {nS n : Nat} {sg : Nat → Nat → Nat} {tn W : Nat → Nat} (hS : nS ≤ 40) (hn : n ≤ 10) (hi : ∀ a b, a < n → b < n → tn a = tn b → a = b) (ht : ∀ k, k < n → tn k < nS) (hW : ∀ k, k < n → W k ≤ n) : ∀ (d p fu : Nat) (m : IM), m 200 45 = nI n → (∀ k, k < n → m 230 k = nI (tn k) ∧ m 232 k = oI (W k)) → (∀ s, s < nS → m 224 s = oI (matS sg n tn (Wp W p) s 5)) → p + d = n → d < fu →
    ∃ m', (∀ K, F_X12_match_L116 200 K fu (nI p) (pm m j u) = K (pm m' j u)) ∧ (∀ b, b ≠ 224 → m' b = m b) ∧ ∀ s, s < nS → m' 224 s = oI (matS sg n tn (Wp W n) s 5) := by
  intro d
  induction d with
  | zero =>
    intro p fu m h1 h2 h3 hp hfu
    obtain ⟨fu, rfl⟩ : ∃ g, fu = g + 1 := ⟨fu - 1, by omega⟩
    have e : p = n := by omega
    subst e
    refine ⟨m, fun K => ?_, fun _ _ => rfl, h3⟩
    simp (disch := omega) only [F_X12_match_L116, e_cl, e_jn, e_lt, e_cxl, e_cxr, e_rzn, ↓l_m1, ↓l_m2, ↓l_m8, l_0, l_1, l_2, l_3, l_4, l_5, l_6, l_7, l_8, l_9, l_10, l_12, l_16, l_20, l_24, l_31, l_32, l_35, l_36, l_40, l_44, l_48, l_59, l_63, l_64, l_90, l_95, l_96, l_100, l_120, l_127, l_200, l_216, l_255, l_999, l_1000, l_10000, l_1000000, l_1048575, l_1000000000, nI_add, pk_mul, pk_sub, nI_leI, nI_ltI, nI_eq, nI_dec, nI_o0, mx_n, mn_n, ab_1, ab_n, e_u2e, e_u2k, e_u2a, if_pos, if_neg, if_true, if_false, not_true, not_false_eq_true, ne_eq, Nat.add_zero, Nat.zero_add, rP hs, rI hs, rT hs, h1]
  | succ d ih =>
    intro p fu m h1 h2 h3 hp hfu
    obtain ⟨fu, rfl⟩ : ∃ g, fu = g + 1 := ⟨fu - 1, by omega⟩
    have hlt : p < n := by omega
    obtain ⟨q1, q2⟩ := h2 p hlt
    have hw := hW p hlt
    by_cases c : W p = 0
    · obtain ⟨m', i1, i2, i3⟩ := ih (p + 1) fu m h1 h2 (by rw [Wp_z c]; exact h3) (by omega) (by omega)
      refine ⟨m', fun K => ?_, i2, i3⟩
      rw [c] at q2
      rw [← i1 K, F_X12_match_L116]
      simp (disch := omega) only [e_cl, e_jn, e_lt, e_cxl, e_cxr, e_rzn, ↓l_m1, ↓l_m2, ↓l_m8, l_0, l_1, l_2, l_3, l_4, l_5, l_6, l_7, l_8, l_9, l_10, l_12, l_16, l_20, l_24, l_31, l_32, l_35, l_36, l_40, l_44, l_48, l_59, l_63, l_64, l_90, l_95, l_96, l_100, l_120, l_127, l_200, l_216, l_255, l_999, l_1000, l_10000, l_1000000, l_1048575, l_1000000000, nI_add, pk_mul, pk_sub, nI_leI, nI_ltI, nI_eq, nI_dec, nI_o0, mx_n, mn_n, ab_1, ab_n, e_u2e, e_u2k, e_u2a, if_pos, if_neg, if_true, if_false, not_true, not_false_eq_true, ne_eq, Nat.add_zero, Nat.zero_add, rP hs, rI hs, rT hs, rR_50 hs, rA_232 hs, rS_232 hs, h1, q2]
    · have q3 := (h2 (W p - 1) (by omega)).1
      have t1 := ht p hlt
      have t2 := ht (W p - 1) (by omega)
      obtain ⟨m', i1, i2, i3⟩ := ih (p + 1) fu (u2 m 224 (tn p) (nI (tn (W p - 1)))) (by rw [e_u2a (by decide)]; exact h1) (fun k hk => by rw [e_u2a (by decide), e_u2a (by decide)]; exact h2 k hk) (fun s hs => by
        rw [Wp_s c, matS_1 hi hlt c]
        by_cases e : s = tn p
        · rw [e, e_u2s]; simp [u2, oI_s]
        · rw [e_u2k e, h3 s hs]; simp [u2, e]) (by omega) (by omega)
      refine ⟨m', fun K => ?_, fun b hb => by rw [i2 b hb, e_u2r hb], i3⟩
      rw [← i1 K, F_X12_match_L116]
      simp (disch := omega) only [e_cl, e_jn, e_lt, e_cxl, e_cxr, e_rzn, ↓l_m1, ↓l_m2, ↓l_m8, l_0, l_1, l_2, l_3, l_4, l_5, l_6, l_7, l_8, l_9, l_10, l_12, l_16, l_20, l_24, l_31, l_32, l_35, l_36, l_40, l_44, l_48, l_59, l_63, l_64, l_90, l_95, l_96, l_100, l_120, l_127, l_200, l_216, l_255, l_999, l_1000, l_10000, l_1000000, l_1048575, l_1000000000, nI_add, pk_mul, pk_sub, nI_leI, nI_ltI, nI_eq, nI_dec, nI_o0, mx_n, mn_n, ab_1, ab_n, e_u2e, e_u2k, e_u2a, if_pos, if_neg, if_true, if_false, not_true, not_false_eq_true, ne_eq, Nat.add_zero, Nat.zero_add, rP hs, rI hs, rT hs, rR_50 hs, rA_232 hs, rS_232 hs, rR_48 hs, rA_230 hs, rS_230 hs, rR_39 hs, rA_224 hs, rS_224 hs, h1, q1, q2, oI_p c, q3]
theorem tb_all {n i : Nat} (h : i < n) : (2 ^ n - 1).testBit i = true := by rw [Nat.testBit_two_pow_sub_one]; exact decide_eq_true h
theorem R_match (hs : RS u) {nS nL : Nat} {sg ix an : Nat → Nat → Nat} (hD : SD nS nL sg ix an) (hA : RAs m nS sg ix an) : ∃ m', F_X12_match 200 (pm m j u) = some (nI (prsv (mtV sg nS)), pm m' j u) ∧ m' 200 0 = 0 ∧ Fr [224, 230, 231, 232] [0, 45, 46, 47] m m' ∧ RAs m' nS (mtS sg nS) ix an := by
  have hS := hD.1
  obtain ⟨k1, k2, k3⟩ := col_ok sg nS
  have kz : col sg 0 = (0, fun _ => 0) := rfl
  obtain ⟨m1, a1, a2, a3, a4, a5⟩ := R_L12 (j := j) hs hD nS 0 LF (u2 (u2 m 200 0 0) 200 45 0) (by rw [e_u2k (by decide), e_u2k (by decide)]; exact hA.1) (fun s hs' => by
    rw [e_u2a (by decide), e_u2a (by decide), e_u2a (by decide), e_u2a (by decide), e_u2a (by decide), e_u2a (by decide)]
    have := hA.2 s hs'
    exact ⟨this.2.2.2.2.1, this.2.2.2.2.2.1, this.2.2.2.2.2.2.2.1⟩) (by rw [e_u2s]; rfl) (fun k hk => by rw [kz] at hk; exact absurd hk (Nat.not_lt_zero _)) (by omega) (by unfold LF; omega)
  have a2' : ∀ b, b ≠ 200 → b ≠ 230 → b ≠ 231 → m1 b = m b := fun b g1 g2 g3 => by rw [a2 b g1 g2 g3, e_u2r g1, e_u2r g1]
  have a3' : ∀ k, k ≠ 0 → k ≠ 45 → m1 200 k = m 200 k := fun k g1 g2 => by rw [a3 k g2, e_u2k g2, e_u2k g1]
  have hTM : TM (u2 (u2 m1 200 46 (oI 0)) 200 47 (nI 0)) (mtN sg nS) (mtT sg nS) (mtG sg nS) := by
    refine ⟨by rw [e_u2k (by decide), e_u2k (by decide)]; exact a4, k1, fun k hk => ?_⟩
    have hk' := (k2 k hk).1
    have g := hA.2 (mtT sg nS k) hk'
    rw [e_u2a (by decide), e_u2a (by decide), e_u2a (by decide), e_u2a (by decide), a2' 218 (by decide) (by decide) (by decide)]
    exact ⟨(a5 k hk).1, by show (col sg nS).2 k < 40; omega, g.1, (hD.2 _ hk').1⟩
  obtain ⟨m2, b1, b2, b3, b4⟩ := R_tp (j := j) hs (mtN sg nS) 16 0 0 0 0 (fun _ => 0) (u2 (u2 m1 200 46 (oI 0)) 200 47 (nI 0)) (0, fun _ => 0) (Nat.zero_add _) (by have : mtN sg nS ≤ 10 := k1; omega) hTM (fun k hk => by rw [e_u2a (by decide), e_u2a (by decide)]; exact ⟨(a5 k hk).2, Nat.zero_le _⟩) ⟨⟨0, 0, by rw [e_u2k (by decide), e_u2s], by rw [e_u2s], Or.inl ⟨rfl, rfl, rfl⟩⟩, fun z => absurd rfl z⟩ (by omega) (by omega) (by omega) (Or.inl rfl)
  rw [tp_eq (mtN sg nS) (2 ^ mtN sg nS - 1) (fun _ => 0) 0 (0, fun _ => 0) (Nat.le_refl _) (fun i _ hi => ⟨fun _ => rfl, fun _ => tb_all hi⟩), if_pos (show 0 < 0 + _ + 1 by omega)] at b3
  obtain ⟨⟨bp, bo, c1, c2, c3⟩, c4⟩ := b3
  have c4 : ∀ k, k < mtN sg nS → m2 232 k = oI (mtW sg nS k) ∧ mtW sg nS k ≤ mtN sg nS := c4 (show 0 + _ + 1 ≠ 0 by omega)
  have c3 : 0 + mtV sg nS + 1 = 0 ∧ bp = 0 ∧ bo = 0 ∨ bp ≠ 0 ∧ 0 + mtV sg nS + 1 + bo = 1000000 * (bp - 1) + 1 ∧ bo ≤ 21600 * (bp - 1) ∧ bp ≤ 11 := c3
  have ebp : bp ≠ 0 ∧ bp - 1 = prsv (mtV sg nS) := by unfold prsv; omega
  have t2 : ∀ b, b ≠ 200 → b ≠ 230 → b ≠ 231 → b ≠ 232 → m2 b = m b := fun b g1 g2 g3 g4 => by rw [b4.1 b g1 g3 g4, e_u2r g1, e_u2r g1, a2' b g1 g2 g3]
  have t3 : ∀ k, k ≠ 0 → k ≠ 45 → k ≠ 46 → k ≠ 47 → m2 200 k = m 200 k := fun k g1 g2 g3 g4 => by rw [b4.2 k g3 g4, e_u2k g4, e_u2k g3, a3' k g1 g2]
  have t0 : m2 200 0 = 0 := by rw [b4.2 0 (by decide) (by decide), e_u2k (by decide), e_u2k (by decide), a3 0 (by decide), e_u2k (by decide), e_u2s]
  have hTM2 := TM_fr hTM b4
  obtain ⟨m3, d1, d2, d3⟩ := R_L116 (j := j) (sg := sg) hs hS k1 (tn := mtT sg nS) (W := mtW sg nS) (fun a b ha hb h => col_inj ha hb h) (fun k hk => (k2 k hk).1) (fun k hk => (c4 k hk).2) (mtN sg nS) 0 LF m2 hTM2.1 (fun k hk => ⟨(hTM2.2.2 k hk).1, (c4 k hk).1⟩) (fun s hs' => by
    rw [show Wp (mtW sg nS) 0 = (fun _ => 0) from rfl, matS_0, t2 224 (by decide) (by decide) (by decide) (by decide)]
    exact (hA.2 s hs').2.2.2.2.2.1) (Nat.zero_add _) (by have : mtN sg nS ≤ 10 := k1; unfold LF; omega)
  refine ⟨m3, ?_, by rw [d2 200 (by decide)]; exact t0, ⟨fun x h1 h2 => ?_, fun k hk => ?_⟩, ⟨?_, fun s hs' => ?_⟩⟩
  · unfold F_X12_match
    rw [rP hs, rP hs, e_jn]
    rw [show (0 : Int32) = nI 0 from rfl] at a1 ⊢
    rw [a1]
    try dsimp only
    rw [rP hs, rP hs, rT hs, l_m1, b1, e_cl]
    try dsimp only
    rw [e_jn, d1]
    try dsimp only
    rw [rI hs, d2 200 (by decide), c1, oI_p ebp.1, ebp.2]
  · simp only [List.mem_cons, List.not_mem_nil, or_false, not_or] at h1
    rw [d2 x h1.1, t2 x h2 h1.2.1 h1.2.2.1 h1.2.2.2]
  · simp only [List.mem_cons, List.not_mem_nil, or_false, not_or] at hk
    rw [d2 200 (by decide), t3 k hk.1 hk.2.1 hk.2.2.1 hk.2.2.2]
  · rw [d2 200 (by decide), t3 32 (by decide) (by decide) (by decide) (by decide)]; exact hA.1
  · have e := hA.2 s hs'
    have keep : ∀ x, x ≠ 200 → x ≠ 224 → x ≠ 230 → x ≠ 231 → x ≠ 232 → m3 x = m x := fun x h1 h2 h3 h4 h5 => by rw [d2 x h2, t2 x h1 h3 h4 h5]
    have w : ∀ k, k ≠ 5 → mtS sg nS s k = sg s k := fun k h1 => by unfold mtS matS; rw [if_neg (fun z => h1 z.1)]
    have e5 : m3 224 s = oI (mtS sg nS s 5) := by
      have ee : matS sg (mtN sg nS) (mtT sg nS) (Wp (mtW sg nS) (mtN sg nS)) = mtS sg nS := matS_cong (fun p hp => if_pos hp)
      rw [d3 s hs', ← ee]; rfl
    rw [keep 218 (by decide) (by decide) (by decide) (by decide) (by decide), keep 219 (by decide) (by decide) (by decide) (by decide) (by decide), keep 220 (by decide) (by decide) (by decide) (by decide) (by decide), keep 221 (by decide) (by decide) (by decide) (by decide) (by decide), keep 222 (by decide) (by decide) (by decide) (by decide) (by decide), keep 223 (by decide) (by decide) (by decide) (by decide) (by decide), keep 225 (by decide) (by decide) (by decide) (by decide) (by decide), keep 226 (by decide) (by decide) (by decide) (by decide) (by decide), keep 227 (by decide) (by decide) (by decide) (by decide) (by decide)]
    rw [w 0 (by decide), w 1 (by decide), w 2 (by decide), w 3 (by decide), w 4 (by decide), w 6 (by decide), w 7 (by decide)]
    exact ⟨e.1, e.2.1, e.2.2.1, e.2.2.2.1, e.2.2.2.2.1, e5, e.2.2.2.2.2.2⟩
end RMC
