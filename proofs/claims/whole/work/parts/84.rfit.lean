/-! ===== the reference: does a laid model fit ===== -/
theorem zlt {a b c d : Nat} (ha : a < 2 ^ 30) (hb : b < 2 ^ 30) (hc : c < 2 ^ 30) (hd : d < 2 ^ 30) : nI a - nI b < nI c - nI d ↔ a + d < c + b := by
  rw [fa_lt, pk_sub_toInt ha hb, pk_sub_toInt hc hd]; omega
theorem zsum {t P s l : Nat} (h : l ≤ P) : nI (t * P) + (nI s - nI (t * l)) = nI (s + t * (P - l)) := by
  have h2 : t * l ≤ t * P := Nat.mul_le_mul_left _ h
  rw [Int32.sub_eq_add_neg, ← Int32.add_assoc, ← Int32.sub_eq_add_neg, nI_add, pk_sub (by omega), Nat.mul_sub]
  congr 1
  omega
theorem zinc {s e : Nat} : (nI s - nI e) + nI 1 = nI (s + 1) - nI e := by
  rw [← nI_add, Int32.sub_eq_add_neg, Int32.sub_eq_add_neg, Int32.add_assoc, Int32.add_comm (-nI e), ← Int32.add_assoc]
theorem zneg {t l : Nat} : (-nI t) * nI l = nI 0 - nI (t * l) := by
  rw [Int32.neg_mul, pk_mul, nI_0, Int32.zero_sub]
/-- the cells of a model in the reference's memory; the part -/
def RM (m : IM) (q : Nat) (l : List Lay) : Prop := m 203 q = nI (tot l) ∧ tot l ≤ 216 ∧ ∀ k, k < tot l → m 205 (216 * q + k) = nI (cel l 0 k).1 ∧ m 206 (216 * q + k) = nI (cel l 0 k).2.1 ∧ m 207 (216 * q + k) = nI (cel l 0 k).2.2
def PT (m : IM) (S : Nat → Bool) : Prop := ∀ i, i < 216 → m 212 i = nI (S i).toNat
section RFIT
variable {m : IM} {j : JM} {u : SU}
theorem RM_fr {m' : IM} {q : Nat} {l : List Lay} (h : RM m q l) (h3 : m' 203 = m 203) (h5 : m' 205 = m 205) (h6 : m' 206 = m 206) (h7 : m' 207 = m 207) : RM m' q l := by
  unfold RM; rw [h3, h5, h6, h7]; exact h
set_option maxHeartbeats 1000000 in
theorem R_laid (hs : RS u) {q k w a : Nat} {c : Nat × Nat × Nat} (hq : q < 6) (hk : k < 216) (h1 : m 205 (216 * q + k) = nI c.1) (h2 : m 206 (216 * q + k) = nI c.2.1) (h3 : m 207 (216 * q + k) = nI c.2.2) (hw : w < 6) (ha : a < 3) : F_X12_laid 200 (nI (216 * q + k)) (nI w) (nI a) (pm m j u) = some (nI (cmp c (tu w a)), pm m j u) := by
  rcases (show w = 0 ∨ w = 1 ∨ w = 2 ∨ w = 3 ∨ w = 4 ∨ w = 5 by omega) with rfl | rfl | rfl | rfl | rfl | rfl <;> rcases (show a = 0 ∨ a = 1 ∨ a = 2 by omega) with rfl | rfl | rfl <;> (simp (disch := omega) only [F_X12_laid, e_cl, e_jn, e_lt, e_cxl, e_cxr, e_rzn, ↓l_m1, ↓l_m2, ↓l_m8, l_0, l_1, l_2, l_3, l_4, l_5, l_6, l_7, l_8, l_9, l_10, l_12, l_16, l_20, l_24, l_31, l_32, l_35, l_36, l_40, l_44, l_48, l_59, l_63, l_64, l_90, l_95, l_96, l_100, l_120, l_127, l_200, l_216, l_255, l_999, l_1000, l_10000, l_1000000, l_1048575, l_1000000000, nI_add, pk_mul, pk_sub, nI_leI, nI_ltI, nI_eq, nI_dec, nI_o0, mx_n, mn_n, ab_1, ab_n, e_u2e, e_u2k, e_u2a, if_pos, if_neg, if_true, if_false, not_true, not_false_eq_true, ne_eq, Nat.add_zero, Nat.zero_add, rP hs, rI hs, rT hs, rR_11 hs, rA_205 hs, rS_205 hs, rR_12 hs, rA_206 hs, rS_206 hs, rR_13 hs, rA_207 hs, rS_207 hs, h1, h2, h3] <;> rfl)
theorem nums {t i : Nat} (h1 : 1 ≤ t) (h2 : t ≤ 6) (hi : i < t * t * t) : ∃ e r0 r1 r2, i / t = e ∧ i % t = r0 ∧ i / t % t = r1 ∧ i / t / t = r2 ∧ (r0 < t ∧ r1 < t ∧ r2 < t) ∧ nI i / nI t = nI e ∧ nI e / nI t = nI r2 ∧ nI i - nI (e * t) = nI r0 ∧ nI e - nI (r2 * t) = nI r1 := by
  obtain ⟨b0, b1, b2⟩ := ix_blk h1 h2 hi
  have hi2 : i < 2 ^ 20 := by
    have : t * t * t ≤ 6 * 6 * 6 := Nat.mul_le_mul (Nat.mul_le_mul h2 h2) h2
    omega
  have he : i / t ≤ i := Nat.div_le_self _ _
  refine ⟨i / t, i % t, i / t % t, i / t / t, rfl, rfl, rfl, rfl, ⟨b0, b1, b2⟩, pk_div (by omega) (by omega) (by omega), pk_div (by generalize i / t = e at *; omega) (by omega) (by omega), ?_, ?_⟩
  · have := Nat.div_add_mod i t
    rw [Nat.mul_comm] at this
    rw [pk_sub (Nat.div_mul_le_self i t)]
    congr 1
    generalize i / t * t = x at *
    generalize i % t = y at *
    omega
  · have := Nat.div_add_mod (i / t) t
    rw [Nat.mul_comm] at this
    rw [pk_sub (Nat.div_mul_le_self (i / t) t)]
    congr 1
    generalize i / t / t * t = x at *
    generalize i / t % t = y at *
    generalize i / t = z at *
    omega
theorem R_L72 (hs : RS u) {t X Y Z : Nat} {S : Nat → Bool} {c1 c3 c4 c5 c6 c7 : Int32} (h1 : 1 ≤ t) (h2 : t ≤ 6) (hX : X + t ≤ 6) (hY : Y + t ≤ 6) (hZ : Z + t ≤ 6) (hP : PT m S) (K1 K2 : PM → Option (Int32 × PM)) : ∀ (d i fu : Nat), i + d = t * t * t → d < fu → (∀ i', i' < i → S (mkI (X + i' % t) (Y + i' / t % t) (Z + i' / t / t)) = true) →
    F_X12_isThere_L72 200 c1 (nI t) c3 c4 c5 c6 c7 (nI X) (nI Y) (nI Z) K1 K2 fu (nI i) (pm m j u) = if alB (fun i => S (mkI (X + i % t) (Y + i / t % t) (Z + i / t / t))) (t * t * t) = true then K1 (pm m j u) else K2 (pm m j u) := by
  have t3 : t * t * t ≤ 6 * 6 * 6 := Nat.mul_le_mul (Nat.mul_le_mul h2 h2) h2
  have tz : nI t ≠ 0 := nI_ne0 (by omega) (by omega)
  intro d
  induction d with
  | zero =>
    intro i fu hi hfu hA
    obtain ⟨fu, rfl⟩ : ∃ g, fu = g + 1 := ⟨fu - 1, by omega⟩
    rw [Nat.add_zero] at hi
    subst hi
    rw [if_pos (alB_t.mpr hA), F_X12_isThere_L72]
    simp (disch := omega) only [e_cl, e_jn, e_lt, e_cxl, e_cxr, e_rzn, ↓l_m1, ↓l_m2, ↓l_m8, l_0, l_1, l_2, l_3, l_4, l_5, l_6, l_7, l_8, l_9, l_10, l_12, l_16, l_20, l_24, l_31, l_32, l_35, l_36, l_40, l_44, l_48, l_59, l_63, l_64, l_90, l_95, l_96, l_100, l_120, l_127, l_200, l_216, l_255, l_999, l_1000, l_10000, l_1000000, l_1048575, l_1000000000, nI_add, pk_mul, pk_sub, nI_leI, nI_ltI, nI_eq, nI_dec, nI_o0, mx_n, mn_n, ab_1, ab_n, e_u2e, e_u2k, e_u2a, if_pos, if_neg, if_true, if_false, not_true, not_false_eq_true, ne_eq, Nat.add_zero, Nat.zero_add]
  | succ d ih =>
    intro i fu hi hfu hA
    obtain ⟨fu, rfl⟩ : ∃ g, fu = g + 1 := ⟨fu - 1, by omega⟩
    obtain ⟨e, r0, r1, r2, e0, e1, e2, e3, ⟨b0, b1, b2⟩, n1, n2, n3, n4⟩ := nums h1 h2 (show i < t * t * t by omega)
    have hv := hP (mkI (X + r0) (Y + r1) (Z + r2)) (by unfold mkI; omega)
    unfold mkI at hv
    rw [F_X12_isThere_L72]
    cases c : S (mkI (X + r0) (Y + r1) (Z + r2))
    · have hno : ¬ alB (fun i => S (mkI (X + i % t) (Y + i / t % t) (Z + i / t / t))) (t * t * t) = true := fun z => by
        have := alB_t.mp z i (by omega)
        rw [e1, e2, e3, c] at this; cases this
      rw [if_neg hno]
      unfold mkI at c
      rw [c] at hv
      simp (disch := omega) only [e_cl, e_jn, e_lt, e_cxl, e_cxr, e_rzn, ↓l_m1, ↓l_m2, ↓l_m8, l_0, l_1, l_2, l_3, l_4, l_5, l_6, l_7, l_8, l_9, l_10, l_12, l_16, l_20, l_24, l_31, l_32, l_35, l_36, l_40, l_44, l_48, l_59, l_63, l_64, l_90, l_95, l_96, l_100, l_120, l_127, l_200, l_216, l_255, l_999, l_1000, l_10000, l_1000000, l_1048575, l_1000000000, nI_add, pk_mul, pk_sub, nI_leI, nI_ltI, nI_eq, nI_dec, nI_o0, mx_n, mn_n, ab_1, ab_n, e_u2e, e_u2k, e_u2a, if_pos, if_neg, if_true, if_false, not_true, not_false_eq_true, ne_eq, Nat.add_zero, Nat.zero_add, rP hs, rI hs, rT hs, rR_19 hs, rA_212 hs, rS_212 hs, e_dv tz, n1, n2, n3, n4, hv, Bool.toNat_false]
    · rw [← ih (i + 1) fu (by omega) (by omega) (fun i' hi' => by
        by_cases z : i' = i
        · rw [z, e1, e2, e3, c]
        · exact hA i' (by omega))]
      unfold mkI at c
      rw [c] at hv
      simp (disch := omega) only [e_cl, e_jn, e_lt, e_cxl, e_cxr, e_rzn, ↓l_m1, ↓l_m2, ↓l_m8, l_0, l_1, l_2, l_3, l_4, l_5, l_6, l_7, l_8, l_9, l_10, l_12, l_16, l_20, l_24, l_31, l_32, l_35, l_36, l_40, l_44, l_48, l_59, l_63, l_64, l_90, l_95, l_96, l_100, l_120, l_127, l_200, l_216, l_255, l_999, l_1000, l_10000, l_1000000, l_1048575, l_1000000000, nI_add, pk_mul, pk_sub, nI_leI, nI_ltI, nI_eq, nI_dec, nI_o0, mx_n, mn_n, ab_1, ab_n, e_u2e, e_u2k, e_u2a, if_pos, if_neg, if_true, if_false, not_true, not_false_eq_true, ne_eq, Nat.add_zero, Nat.zero_add, rP hs, rI hs, rT hs, rR_19 hs, rA_212 hs, rS_212 hs, e_dv tz, n1, n2, n3, n4, hv, Bool.toNat_true]
def thB (S : Nat → Bool) (l : List Lay) (t w p k : Nat) : Bool := alB (fun i => S (bps l t w p k i)) (t * t * t)
theorem R_L7 (hs : RS u) {q t w s0 s1 s2 : Nat} {l : List Lay} {S : Nat → Bool} (hM : okM l) (hq : q < 6) (h1 : 1 ≤ t) (h2 : t ≤ 6) (hw : w < 6) (hR : RM m q l) (hP : PT m S) (hb0 : s0 + fx l t w 0 ≤ 6) (hb1 : s1 + fx l t w 1 ≤ 6) (hb2 : s2 + fx l t w 2 ≤ 6) (K1 K2 : PM → Option (Int32 × PM)) : ∀ (d k fu : Nat), k + d = tot l → d < fu → (∀ k', k' < k → thB S l t w (mkI s0 s1 s2) k' = true) →
    F_X12_isThere_L7 200 (nI q) (nI t) (nI w) (nI s0 - nI (t * le_ l (tu w 0))) (nI s1 - nI (t * le_ l (tu w 1))) (nI s2 - nI (t * le_ l (tu w 2))) K1 K2 fu (nI (216 * q + k)) (pm m j u) = if alB (thB S l t w (mkI s0 s1 s2)) (tot l) = true then K1 (pm m j u) else K2 (pm m j u) := by
  obtain ⟨hw1, ht, hcel⟩ := hR
  intro d
  induction d with
  | zero =>
    intro k fu hk hfu hA
    obtain ⟨fu, rfl⟩ : ∃ g, fu = g + 1 := ⟨fu - 1, by omega⟩
    have e : k = tot l := by omega
    subst e
    rw [if_pos (alB_t.mpr hA), F_X12_isThere_L7]
    simp (disch := omega) only [e_cl, e_jn, e_lt, e_cxl, e_cxr, e_rzn, ↓l_m1, ↓l_m2, ↓l_m8, l_0, l_1, l_2, l_3, l_4, l_5, l_6, l_7, l_8, l_9, l_10, l_12, l_16, l_20, l_24, l_31, l_32, l_35, l_36, l_40, l_44, l_48, l_59, l_63, l_64, l_90, l_95, l_96, l_100, l_120, l_127, l_200, l_216, l_255, l_999, l_1000, l_10000, l_1000000, l_1048575, l_1000000000, nI_add, pk_mul, pk_sub, nI_leI, nI_ltI, nI_eq, nI_dec, nI_o0, mx_n, mn_n, ab_1, ab_n, e_u2e, e_u2k, e_u2a, if_pos, if_neg, if_true, if_false, not_true, not_false_eq_true, ne_eq, Nat.add_zero, Nat.zero_add, rP hs, rI hs, rT hs, rR_9 hs, rA_203 hs, rS_203 hs, hw1]
  | succ d ih =>
    intro k fu hk hfu hA
    obtain ⟨fu, rfl⟩ : ∃ g, fu = g + 1 := ⟨fu - 1, by omega⟩
    have hkt : k < tot l := by omega
    obtain ⟨c1, c2, c3⟩ := hcel k hkt
    have la := fun a (ha : a < 3) => R_laid (j := j) hs hq (show k < 216 by omega) c1 c2 c3 hw ha
    have l0 := la 0 (by decide)
    have l1 := la 1 (by decide)
    have l2 := la 2 (by decide)
    have g := fun a => (geo hM (tu w a)).2.2.2.2 k hkt
    have bd : ∀ a, a < 3 → t * (cmp (cel l 0 k) (tu w a) - le_ l (tu w a)) + t ≤ fx l t w a := fun a ha => by
      have g := g a
      have s := sp_b_ hM (tu w a)
      have : t * (cmp (cel l 0 k) (tu w a) - le_ l (tu w a) + 1) ≤ t * sp_ l (tu w a) := Nat.mul_le_mul_left _ (by omega)
      rw [Nat.mul_add, Nat.mul_one] at this
      exact this
    have d0 := bd 0 (by decide)
    have d1 := bd 1 (by decide)
    have d2 := bd 2 (by decide)
    have z0 := zsum (t := t) (s := s0) (g 0).1
    have z1 := zsum (t := t) (s := s1) (g 1).1
    have z2 := zsum (t := t) (s := s2) (g 2).1
    have hL := fun K1 K2 => R_L72 (j := j) (c1 := nI q) (c3 := nI w) (c4 := nI s0 - nI (t * le_ l (tu w 0))) (c5 := nI s1 - nI (t * le_ l (tu w 1))) (c6 := nI s2 - nI (t * le_ l (tu w 2))) (c7 := nI (216 * q + k)) hs h1 h2 (show s0 + t * (cmp (cel l 0 k) (tu w 0) - le_ l (tu w 0)) + t ≤ 6 by omega) (show s1 + t * (cmp (cel l 0 k) (tu w 1) - le_ l (tu w 1)) + t ≤ 6 by omega) (show s2 + t * (cmp (cel l 0 k) (tu w 2) - le_ l (tu w 2)) + t ≤ 6 by omega) hP K1 K2 (t * t * t) 0 LF (by omega) (by have : t * t * t ≤ 6 * 6 * 6 := Nat.mul_le_mul (Nat.mul_le_mul h2 h2) h2; unfold LF; omega) (fun i hi => by omega)
    have eth : alB (fun i => S (mkI (s0 + t * (cmp (cel l 0 k) (tu w 0) - le_ l (tu w 0)) + i % t) (s1 + t * (cmp (cel l 0 k) (tu w 1) - le_ l (tu w 1)) + i / t % t) (s2 + t * (cmp (cel l 0 k) (tu w 2) - le_ l (tu w 2)) + i / t / t))) (t * t * t) = thB S l t w (mkI s0 s1 s2) k := by
      unfold thB
      congr 1
      funext i
      congr 1
      unfold bps mkI
      generalize i % t = x0
      generalize i / t % t = x1
      generalize i / t / t = x2
      omega
    rw [eth] at hL
    rw [F_X12_isThere_L7]
    cases c : thB S l t w (mkI s0 s1 s2) k
    · have hno : ¬ alB (thB S l t w (mkI s0 s1 s2)) (tot l) = true := fun z => by
        have := alB_t.mp z k hkt
        rw [c] at this; cases this
      rw [if_neg hno]
      simp only [c, Bool.false_eq_true, if_false] at hL
      simp (disch := omega) only [e_cl, e_jn, e_lt, e_cxl, e_cxr, e_rzn, ↓l_m1, ↓l_m2, ↓l_m8, l_0, l_1, l_2, l_3, l_4, l_5, l_6, l_7, l_8, l_9, l_10, l_12, l_16, l_20, l_24, l_31, l_32, l_35, l_36, l_40, l_44, l_48, l_59, l_63, l_64, l_90, l_95, l_96, l_100, l_120, l_127, l_200, l_216, l_255, l_999, l_1000, l_10000, l_1000000, l_1048575, l_1000000000, nI_add, pk_mul, pk_sub, nI_leI, nI_ltI, nI_eq, nI_dec, nI_o0, mx_n, mn_n, ab_1, ab_n, e_u2e, e_u2k, e_u2a, if_pos, if_neg, if_true, if_false, not_true, not_false_eq_true, ne_eq, Nat.add_zero, Nat.zero_add, rP hs, rI hs, rT hs, rR_9 hs, rA_203 hs, rS_203 hs, hw1, l0, l1, l2, z0, z1, z2, hL]
    · rw [← ih (k + 1) fu (by omega) (by omega) (fun k' hk' => by
        by_cases z : k' = k
        · rw [z, c]
        · exact hA k' (by omega))]
      simp only [c, if_true] at hL
      simp (disch := omega) only [e_cl, e_jn, e_lt, e_cxl, e_cxr, e_rzn, ↓l_m1, ↓l_m2, ↓l_m8, l_0, l_1, l_2, l_3, l_4, l_5, l_6, l_7, l_8, l_9, l_10, l_12, l_16, l_20, l_24, l_31, l_32, l_35, l_36, l_40, l_44, l_48, l_59, l_63, l_64, l_90, l_95, l_96, l_100, l_120, l_127, l_200, l_216, l_255, l_999, l_1000, l_10000, l_1000000, l_1048575, l_1000000000, nI_add, pk_mul, pk_sub, nI_leI, nI_ltI, nI_eq, nI_dec, nI_o0, mx_n, mn_n, ab_1, ab_n, e_u2e, e_u2k, e_u2a, if_pos, if_neg, if_true, if_false, not_true, not_false_eq_true, ne_eq, Nat.add_zero, Nat.zero_add, rP hs, rI hs, rT hs, rR_9 hs, rA_203 hs, rS_203 hs, hw1, l0, l1, l2, z0, z1, z2, hL]
      rfl
theorem R_isThere (hs : RS u) {q t w s0 s1 s2 : Nat} {l : List Lay} {S : Nat → Bool} (hM : okM l) (hq : q < 6) (h1 : 1 ≤ t) (h2 : t ≤ 6) (hw : w < 6) (hR : RM m q l) (hP : PT m S) (hb0 : s0 + fx l t w 0 ≤ 6) (hb1 : s1 + fx l t w 1 ≤ 6) (hb2 : s2 + fx l t w 2 ≤ 6) : F_X12_isThere 200 (nI q) (nI t) (nI w) (nI s0 - nI (t * le_ l (tu w 0))) (nI s1 - nI (t * le_ l (tu w 1))) (nI s2 - nI (t * le_ l (tu w 2))) (pm m j u) = some (nI (GdM S l t w (mkI s0 s1 s2)).toNat, pm m j u) := by
  have f0 := (sp_b_ hM (tu w 0)).1
  have hpos : ∀ a, 1 ≤ fx l t w a := fun a => by
    have := Nat.mul_le_mul h1 (sp_b_ hM (tu w a)).1
    exact this
  have p0 := hpos 0
  have p1 := hpos 1
  have p2 := hpos 2
  have hL := fun K1 K2 => R_L7 (j := j) hs hM hq h1 h2 hw hR hP hb0 hb1 hb2 K1 K2 (tot l) 0 LF (by omega) (by have := hR.2.1; unfold LF; omega) (fun k hk => by omega)
  have e : alB (thB S l t w (mkI s0 s1 s2)) (tot l) = GdM S l t w (mkI s0 s1 s2) := by
    have hf := fx3 (l := l) (t := t) (w := w) (by omega) (by omega) (by omega)
    have k1 : alB (thB S l t w (mkI s0 s1 s2)) (tot l) = true ↔ GdM S l t w (mkI s0 s1 s2) = true := by
      unfold GdM
      rw [GdB_t, ← th_iff hM h1 h2 hw hf, alB_t]
      have c := coo_mk (x := s0) (y := s1) (z := s2) (by omega) (by omega)
      rw [coo_0, coo_1, coo_2] at c
      rw [c.1, c.2.1, c.2.2]
      constructor
      · intro z
        exact ⟨⟨hb0, hb1, hb2⟩, fun k hk => alB_t.mp (z k hk)⟩
      · intro z k hk
        exact alB_t.mpr (z.2 k hk)
    cases c : GdM S l t w (mkI s0 s1 s2)
    · exact ts_nt (fun z => by rw [k1.mp z] at c; cases c)
    · exact k1.mpr c
  rw [e] at hL
  cases c : GdM S l t w (mkI s0 s1 s2)
  · simp only [c, Bool.false_eq_true, if_false] at hL
    unfold F_X12_isThere
    simp (disch := omega) only [e_cl, e_jn, e_lt, e_cxl, e_cxr, e_rzn, ↓l_m1, ↓l_m2, ↓l_m8, l_0, l_1, l_2, l_3, l_4, l_5, l_6, l_7, l_8, l_9, l_10, l_12, l_16, l_20, l_24, l_31, l_32, l_35, l_36, l_40, l_44, l_48, l_59, l_63, l_64, l_90, l_95, l_96, l_100, l_120, l_127, l_200, l_216, l_255, l_999, l_1000, l_10000, l_1000000, l_1048575, l_1000000000, nI_add, pk_mul, pk_sub, nI_leI, nI_ltI, nI_eq, nI_dec, nI_o0, mx_n, mn_n, ab_1, ab_n, e_u2e, e_u2k, e_u2a, if_pos, if_neg, if_true, if_false, not_true, not_false_eq_true, ne_eq, Nat.add_zero, Nat.zero_add, Bool.toNat_false]
    rw [show nI (216 * q) = nI (216 * q + 0) from rfl, hL]
  · simp only [c, if_true] at hL
    unfold F_X12_isThere
    simp (disch := omega) only [e_cl, e_jn, e_lt, e_cxl, e_cxr, e_rzn, ↓l_m1, ↓l_m2, ↓l_m8, l_0, l_1, l_2, l_3, l_4, l_5, l_6, l_7, l_8, l_9, l_10, l_12, l_16, l_20, l_24, l_31, l_32, l_35, l_36, l_40, l_44, l_48, l_59, l_63, l_64, l_90, l_95, l_96, l_100, l_120, l_127, l_200, l_216, l_255, l_999, l_1000, l_10000, l_1000000, l_1048575, l_1000000000, nI_add, pk_mul, pk_sub, nI_leI, nI_ltI, nI_eq, nI_dec, nI_o0, mx_n, mn_n, ab_1, ab_n, e_u2e, e_u2k, e_u2a, if_pos, if_neg, if_true, if_false, not_true, not_false_eq_true, ne_eq, Nat.add_zero, Nat.zero_add, Bool.toNat_true]
    rw [show nI (216 * q) = nI (216 * q + 0) from rfl, hL]
end RFIT
