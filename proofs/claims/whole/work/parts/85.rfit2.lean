/-! ===== the reference: isFitting, fit ===== -/
section RFIT2
variable {m : IM} {j : JM} {u : SU}
def LG (m : IM) (f : Nat → Nat → Nat) (g : Nat → Nat → Nat) (k : Nat) (a : Nat) : Prop := ∀ b, b < 3 → m 213 b = nI (lst (f b) (if b < a then k + 1 else k)) ∧ m 214 b = nI (gst (g b) (if b < a then k + 1 else k))
theorem R_L59 (hs : RS u) {q k w : Nat} {l : List Lay} {c2 : Int32} (hM : okM l) (hq : q < 6) (hw : w < 6) (hk : k < tot l) : ∀ (d a fu : Nat) (m : IM), a + d = 3 → d < fu → RM m q l → LG m (fun b k => cmp (cel l 0 k) (tu w b)) (fun b k => cmp (cel l 0 k) (tu w b)) k a →
    ∃ m', (∀ K, F_X12_isFitting_L59 200 (nI q) c2 (nI w) (nI (216 * q + k)) K fu (nI a) (pm m j u) = K (pm m' j u)) ∧ (∀ b, b ≠ 213 → b ≠ 214 → m' b = m b) ∧ LG m' (fun b k => cmp (cel l 0 k) (tu w b)) (fun b k => cmp (cel l 0 k) (tu w b)) (k + 1) 0 := by
  intro d
  induction d with
  | zero =>
    intro a fu m ha hfu hR hL
    obtain ⟨fu, rfl⟩ : ∃ g, fu = g + 1 := ⟨fu - 1, by omega⟩
    have e : a = 3 := by omega
    subst e
    refine ⟨m, fun K => ?_, fun _ _ _ => rfl, fun b hb => ?_⟩
    · simp (disch := omega) only [F_X12_isFitting_L59, e_cl, e_jn, e_lt, e_cxl, e_cxr, e_rzn, ↓l_m1, ↓l_m2, ↓l_m8, l_0, l_1, l_2, l_3, l_4, l_5, l_6, l_7, l_8, l_9, l_10, l_12, l_16, l_20, l_24, l_31, l_32, l_35, l_36, l_40, l_44, l_48, l_59, l_63, l_64, l_90, l_95, l_96, l_100, l_120, l_127, l_200, l_216, l_255, l_999, l_1000, l_10000, l_1000000, l_1048575, l_1000000000, nI_add, pk_mul, pk_sub, nI_leI, nI_ltI, nI_eq, nI_dec, nI_o0, mx_n, mn_n, ab_1, ab_n, e_u2e, e_u2k, e_u2a, if_pos, if_neg, if_true, if_false, not_true, not_false_eq_true, ne_eq, Nat.add_zero, Nat.zero_add]
    · have := hL b hb
      rw [if_pos hb] at this
      rw [if_neg (by omega)]
      exact this
  | succ d ih =>
    intro a fu m ha hfu hR hL
    obtain ⟨fu, rfl⟩ : ∃ g, fu = g + 1 := ⟨fu - 1, by omega⟩
    obtain ⟨hw1, ht, hcel⟩ := hR
    obtain ⟨c1, c2', c3⟩ := hcel k hk
    have ha3 : a < 3 := by omega
    have la := R_laid (j := j) hs hq (show k < 216 by omega) c1 c2' c3 hw ha3
    obtain ⟨q1, q2⟩ := hL a ha3
    rw [if_neg (by omega)] at q1 q2
    have q1 : m 213 a = nI (lst (fun k => cmp (cel l 0 k) (tu w a)) k) := q1
    have q2 : m 214 a = nI (gst (fun k => cmp (cel l 0 k) (tu w a)) k) := q2
    have bl := (lst_le (fun k => cmp (cel l 0 k) (tu w a)) k).1
    have bg : gst (fun k => cmp (cel l 0 k) (tu w a)) k ≤ 5 := by
      rcases gst_at (fun k => cmp (cel l 0 k) (tu w a)) k with z | ⟨k', z1, z2⟩
      · rw [z]; omega
      · rw [← z2]; exact cmp_b hM (by omega) _
    have bv := cmp_b hM hk (tu w a)
    have key : ∀ (m' : IM), (∀ b, b ≠ 213 → b ≠ 214 → m' b = m b) → m' 213 a = nI (min (lst (fun k => cmp (cel l 0 k) (tu w a)) k) (cmp (cel l 0 k) (tu w a))) → m' 214 a = nI (max (gst (fun k => cmp (cel l 0 k) (tu w a)) k) (cmp (cel l 0 k) (tu w a))) → (∀ b, b ≠ a → m' 213 b = m 213 b ∧ m' 214 b = m 214 b) → (∀ K, F_X12_isFitting_L59 200 (nI q) c2 (nI w) (nI (216 * q + k)) K (fu + 1) (nI a) (pm m j u) = F_X12_isFitting_L59 200 (nI q) c2 (nI w) (nI (216 * q + k)) K fu (nI (a + 1)) (pm m' j u)) → ∃ m', (∀ K, F_X12_isFitting_L59 200 (nI q) c2 (nI w) (nI (216 * q + k)) K (fu + 1) (nI a) (pm m j u) = K (pm m' j u)) ∧ (∀ b, b ≠ 213 → b ≠ 214 → m' b = m b) ∧ LG m' (fun b k => cmp (cel l 0 k) (tu w b)) (fun b k => cmp (cel l 0 k) (tu w b)) (k + 1) 0 := fun m1 f1 f2 f3 f4 f5 => by
      obtain ⟨m', i1, i2, i3⟩ := ih (a + 1) fu m1 (by omega) (by omega) (RM_fr ⟨hw1, ht, hcel⟩ (f1 _ (by decide) (by decide)) (f1 _ (by decide) (by decide)) (f1 _ (by decide) (by decide)) (f1 _ (by decide) (by decide))) (fun b hb => by
        by_cases e : b = a
        · subst e
          rw [if_pos (by omega), lst, gst]
          exact ⟨f2, f3⟩
        · have := hL b hb
          rw [(f4 b e).1, (f4 b e).2]
          by_cases z : b < a
          · rw [if_pos z] at this
            rw [if_pos (by omega)]; exact this
          · rw [if_neg z] at this
            rw [if_neg (by omega)]; exact this)
      exact ⟨m', fun K => by rw [f5 K, i1 K], fun b g1 g2 => by rw [i2 b g1 g2, f1 b g1 g2], i3⟩
    by_cases x1 : lst (fun k => cmp (cel l 0 k) (tu w a)) k ≤ cmp (cel l 0 k) (tu w a)
    · by_cases x2 : cmp (cel l 0 k) (tu w a) ≤ gst (fun k => cmp (cel l 0 k) (tu w a)) k
      · refine key m (fun _ _ _ => rfl) (by rw [q1]; congr 1; omega) (by rw [q2]; congr 1; omega) (fun _ _ => ⟨rfl, rfl⟩) (fun K => ?_)
        rw [F_X12_isFitting_L59]
        simp (disch := omega) only [e_cl, e_jn, e_lt, e_cxl, e_cxr, e_rzn, ↓l_m1, ↓l_m2, ↓l_m8, l_0, l_1, l_2, l_3, l_4, l_5, l_6, l_7, l_8, l_9, l_10, l_12, l_16, l_20, l_24, l_31, l_32, l_35, l_36, l_40, l_44, l_48, l_59, l_63, l_64, l_90, l_95, l_96, l_100, l_120, l_127, l_200, l_216, l_255, l_999, l_1000, l_10000, l_1000000, l_1048575, l_1000000000, nI_add, pk_mul, pk_sub, nI_leI, nI_ltI, nI_eq, nI_dec, nI_o0, mx_n, mn_n, ab_1, ab_n, e_u2e, e_u2k, e_u2a, if_pos, if_neg, if_true, if_false, not_true, not_false_eq_true, ne_eq, Nat.add_zero, Nat.zero_add, rP hs, rI hs, rT hs, rR_20 hs, rA_213 hs, rS_213 hs, rR_21 hs, rA_214 hs, rS_214 hs, la, q1, q2]
      · refine key (u2 m 214 a (nI (cmp (cel l 0 k) (tu w a)))) (fun b _ g => e_u2r g) (by rw [e_u2a (by decide), q1]; congr 1; omega) (by rw [e_u2s]; congr 1; omega) (fun b hb => ⟨e_u2a (by decide), e_u2k hb⟩) (fun K => ?_)
        rw [F_X12_isFitting_L59]
        simp (disch := omega) only [e_cl, e_jn, e_lt, e_cxl, e_cxr, e_rzn, ↓l_m1, ↓l_m2, ↓l_m8, l_0, l_1, l_2, l_3, l_4, l_5, l_6, l_7, l_8, l_9, l_10, l_12, l_16, l_20, l_24, l_31, l_32, l_35, l_36, l_40, l_44, l_48, l_59, l_63, l_64, l_90, l_95, l_96, l_100, l_120, l_127, l_200, l_216, l_255, l_999, l_1000, l_10000, l_1000000, l_1048575, l_1000000000, nI_add, pk_mul, pk_sub, nI_leI, nI_ltI, nI_eq, nI_dec, nI_o0, mx_n, mn_n, ab_1, ab_n, e_u2e, e_u2k, e_u2a, if_pos, if_neg, if_true, if_false, not_true, not_false_eq_true, ne_eq, Nat.add_zero, Nat.zero_add, rP hs, rI hs, rT hs, rR_20 hs, rA_213 hs, rS_213 hs, rR_21 hs, rA_214 hs, rS_214 hs, la, q1, q2]
    · by_cases x2 : cmp (cel l 0 k) (tu w a) ≤ gst (fun k => cmp (cel l 0 k) (tu w a)) k
      · refine key (u2 m 213 a (nI (cmp (cel l 0 k) (tu w a)))) (fun b g _ => e_u2r g) (by rw [e_u2s]; congr 1; omega) (by rw [e_u2a (by decide), q2]; congr 1; omega) (fun b hb => ⟨e_u2k hb, e_u2a (by decide)⟩) (fun K => ?_)
        rw [F_X12_isFitting_L59]
        simp (disch := omega) only [e_cl, e_jn, e_lt, e_cxl, e_cxr, e_rzn, ↓l_m1, ↓l_m2, ↓l_m8, l_0, l_1, l_2, l_3, l_4, l_5, l_6, l_7, l_8, l_9, l_10, l_12, l_16, l_20, l_24, l_31, l_32, l_35, l_36, l_40, l_44, l_48, l_59, l_63, l_64, l_90, l_95, l_96, l_100, l_120, l_127, l_200, l_216, l_255, l_999, l_1000, l_10000, l_1000000, l_1048575, l_1000000000, nI_add, pk_mul, pk_sub, nI_leI, nI_ltI, nI_eq, nI_dec, nI_o0, mx_n, mn_n, ab_1, ab_n, e_u2e, e_u2k, e_u2a, if_pos, if_neg, if_true, if_false, not_true, not_false_eq_true, ne_eq, Nat.add_zero, Nat.zero_add, rP hs, rI hs, rT hs, rR_20 hs, rA_213 hs, rS_213 hs, rR_21 hs, rA_214 hs, rS_214 hs, la, q1, q2]
      · refine key (u2 (u2 m 213 a (nI (cmp (cel l 0 k) (tu w a)))) 214 a (nI (cmp (cel l 0 k) (tu w a)))) (fun b g g' => by rw [e_u2r g', e_u2r g]) (by rw [e_u2a (by decide), e_u2s]; congr 1; omega) (by rw [e_u2s]; congr 1; omega) (fun b hb => ⟨by rw [e_u2a (by decide), e_u2k hb], by rw [e_u2k hb, e_u2a (by decide)]⟩) (fun K => ?_)
        rw [F_X12_isFitting_L59]
        simp (disch := omega) only [e_cl, e_jn, e_lt, e_cxl, e_cxr, e_rzn, ↓l_m1, ↓l_m2, ↓l_m8, l_0, l_1, l_2, l_3, l_4, l_5, l_6, l_7, l_8, l_9, l_10, l_12, l_16, l_20, l_24, l_31, l_32, l_35, l_36, l_40, l_44, l_48, l_59, l_63, l_64, l_90, l_95, l_96, l_100, l_120, l_127, l_200, l_216, l_255, l_999, l_1000, l_10000, l_1000000, l_1048575, l_1000000000, nI_add, pk_mul, pk_sub, nI_leI, nI_ltI, nI_eq, nI_dec, nI_o0, mx_n, mn_n, ab_1, ab_n, e_u2e, e_u2k, e_u2a, if_pos, if_neg, if_true, if_false, not_true, not_false_eq_true, ne_eq, Nat.add_zero, Nat.zero_add, rP hs, rI hs, rT hs, rR_20 hs, rA_213 hs, rS_213 hs, rR_21 hs, rA_214 hs, rS_214 hs, la, q1, q2]
theorem R_L39 (hs : RS u) {q w : Nat} {l : List Lay} {c2 : Int32} (hM : okM l) (hq : q < 6) (hw : w < 6) : ∀ (d k fu : Nat) (m : IM), k + d = tot l → d < fu → RM m q l → LG m (fun b k => cmp (cel l 0 k) (tu w b)) (fun b k => cmp (cel l 0 k) (tu w b)) k 0 →
    ∃ m', (∀ K, F_X12_isFitting_L39 200 (nI q) c2 (nI w) K fu (nI (216 * q + k)) (pm m j u) = K (pm m' j u)) ∧ (∀ b, b ≠ 213 → b ≠ 214 → m' b = m b) ∧ ∀ b, b < 3 → m' 213 b = nI (le_ l (tu w b)) ∧ m' 214 b = nI (hi_ l (tu w b)) := by
  intro d
  induction d with
  | zero =>
    intro k fu m hk hfu hR hL
    obtain ⟨fu, rfl⟩ : ∃ g, fu = g + 1 := ⟨fu - 1, by omega⟩
    have e : k = tot l := by omega
    subst e
    refine ⟨m, fun K => ?_, fun _ _ _ => rfl, fun b hb => ?_⟩
    · have := hR.2.1
      simp (disch := omega) only [F_X12_isFitting_L39, e_cl, e_jn, e_lt, e_cxl, e_cxr, e_rzn, ↓l_m1, ↓l_m2, ↓l_m8, l_0, l_1, l_2, l_3, l_4, l_5, l_6, l_7, l_8, l_9, l_10, l_12, l_16, l_20, l_24, l_31, l_32, l_35, l_36, l_40, l_44, l_48, l_59, l_63, l_64, l_90, l_95, l_96, l_100, l_120, l_127, l_200, l_216, l_255, l_999, l_1000, l_10000, l_1000000, l_1048575, l_1000000000, nI_add, pk_mul, pk_sub, nI_leI, nI_ltI, nI_eq, nI_dec, nI_o0, mx_n, mn_n, ab_1, ab_n, e_u2e, e_u2k, e_u2a, if_pos, if_neg, if_true, if_false, not_true, not_false_eq_true, ne_eq, Nat.add_zero, Nat.zero_add, rP hs, rI hs, rT hs, rR_9 hs, rA_203 hs, rS_203 hs, hR.1]
    · have := hL b hb
      rw [if_neg (by omega)] at this
      exact this
  | succ d ih =>
    intro k fu m hk hfu hR hL
    obtain ⟨fu, rfl⟩ : ∃ g, fu = g + 1 := ⟨fu - 1, by omega⟩
    have ht := hR.2.1
    obtain ⟨m1, a1, a2, a3⟩ := R_L59 (j := j) (c2 := c2) hs hM hq hw (show k < tot l by omega) 3 0 LF m (by omega) (by unfold LF; omega) hR hL
    obtain ⟨m', i1, i2, i3⟩ := ih (k + 1) fu m1 (by omega) (by omega) (RM_fr hR (a2 _ (by decide) (by decide)) (a2 _ (by decide) (by decide)) (a2 _ (by decide) (by decide)) (a2 _ (by decide) (by decide))) a3
    refine ⟨m', fun K => ?_, fun b g1 g2 => by rw [i2 b g1 g2, a2 b g1 g2], i3⟩
    rw [← i1 K, F_X12_isFitting_L39]
    simp (disch := omega) only [e_cl, e_jn, e_lt, e_cxl, e_cxr, e_rzn, ↓l_m1, ↓l_m2, ↓l_m8, l_0, l_1, l_2, l_3, l_4, l_5, l_6, l_7, l_8, l_9, l_10, l_12, l_16, l_20, l_24, l_31, l_32, l_35, l_36, l_40, l_44, l_48, l_59, l_63, l_64, l_90, l_95, l_96, l_100, l_120, l_127, l_200, l_216, l_255, l_999, l_1000, l_10000, l_1000000, l_1048575, l_1000000000, nI_add, pk_mul, pk_sub, nI_leI, nI_ltI, nI_eq, nI_dec, nI_o0, mx_n, mn_n, ab_1, ab_n, e_u2e, e_u2k, e_u2a, if_pos, if_neg, if_true, if_false, not_true, not_false_eq_true, ne_eq, Nat.add_zero, Nat.zero_add, rP hs, rI hs, rT hs, rR_9 hs, rA_203 hs, rS_203 hs, hR.1, a1]
    rfl
theorem R_L3f (hs : RS u) {c1 c2 c3 : Int32} : ∀ (d a fu : Nat) (m : IM), a + d = 3 → d < fu → (∀ b, b < a → m 213 b = nI 9 ∧ m 214 b = nI 0) →
    ∃ m', (∀ K, F_X12_isFitting_L3 200 c1 c2 c3 K fu (nI a) (pm m j u) = K (pm m' j u)) ∧ (∀ b, b ≠ 213 → b ≠ 214 → m' b = m b) ∧ ∀ b, b < 3 → m' 213 b = nI 9 ∧ m' 214 b = nI 0 := by
  intro d
  induction d with
  | zero =>
    intro a fu m ha hfu h
    obtain ⟨fu, rfl⟩ : ∃ g, fu = g + 1 := ⟨fu - 1, by omega⟩
    have e : a = 3 := by omega
    subst e
    refine ⟨m, fun K => ?_, fun _ _ _ => rfl, h⟩
    simp (disch := omega) only [F_X12_isFitting_L3, e_cl, e_jn, e_lt, e_cxl, e_cxr, e_rzn, ↓l_m1, ↓l_m2, ↓l_m8, l_0, l_1, l_2, l_3, l_4, l_5, l_6, l_7, l_8, l_9, l_10, l_12, l_16, l_20, l_24, l_31, l_32, l_35, l_36, l_40, l_44, l_48, l_59, l_63, l_64, l_90, l_95, l_96, l_100, l_120, l_127, l_200, l_216, l_255, l_999, l_1000, l_10000, l_1000000, l_1048575, l_1000000000, nI_add, pk_mul, pk_sub, nI_leI, nI_ltI, nI_eq, nI_dec, nI_o0, mx_n, mn_n, ab_1, ab_n, e_u2e, e_u2k, e_u2a, if_pos, if_neg, if_true, if_false, not_true, not_false_eq_true, ne_eq, Nat.add_zero, Nat.zero_add]
  | succ d ih =>
    intro a fu m ha hfu h
    obtain ⟨fu, rfl⟩ : ∃ g, fu = g + 1 := ⟨fu - 1, by omega⟩
    obtain ⟨m', i1, i2, i3⟩ := ih (a + 1) fu (u2 (u2 m 213 a (nI 9)) 214 a (nI 0)) (by omega) (by omega) (fun b hb => by
      by_cases e : b = a
      · rw [e, e_u2s, e_u2a (by decide), e_u2s]; exact ⟨rfl, rfl⟩
      · rw [e_u2k e, e_u2a (by decide), e_u2k e, e_u2a (by decide)]; exact h b (by omega))
    refine ⟨m', fun K => ?_, fun b g1 g2 => by rw [i2 b g1 g2, e_u2r g2, e_u2r g1], i3⟩
    rw [← i1 K, F_X12_isFitting_L3]
    simp (disch := omega) only [e_cl, e_jn, e_lt, e_cxl, e_cxr, e_rzn, ↓l_m1, ↓l_m2, ↓l_m8, l_0, l_1, l_2, l_3, l_4, l_5, l_6, l_7, l_8, l_9, l_10, l_12, l_16, l_20, l_24, l_31, l_32, l_35, l_36, l_40, l_44, l_48, l_59, l_63, l_64, l_90, l_95, l_96, l_100, l_120, l_127, l_200, l_216, l_255, l_999, l_1000, l_10000, l_1000000, l_1048575, l_1000000000, nI_add, pk_mul, pk_sub, nI_leI, nI_ltI, nI_eq, nI_dec, nI_o0, mx_n, mn_n, ab_1, ab_n, e_u2e, e_u2k, e_u2a, if_pos, if_neg, if_true, if_false, not_true, not_false_eq_true, ne_eq, Nat.add_zero, Nat.zero_add, rP hs, rI hs, rT hs, rR_20 hs, rA_213 hs, rS_213 hs, rR_21 hs, rA_214 hs, rS_214 hs]
/-- all that the search of a place needs -/
def FM (m : IM) (S : Nat → Bool) (q : Nat) (l : List Lay) (t w : Nat) : Prop := (okM l ∧ q < 6 ∧ 1 ≤ t ∧ t ≤ 6 ∧ w < 6) ∧ RM m q l ∧ PT m S ∧ ∀ b, b < 3 → m 213 b = nI (le_ l (tu w b)) ∧ m 214 b = nI (hi_ l (tu w b))
theorem FM_c {q t w b s : Nat} {l : List Lay} {S : Nat → Bool} (h : FM m S q l t w) (hs : s ≤ 7) : (nI 6 - nI (t * (hi_ l (tu w b) + 1)) < nI s - nI (t * le_ l (tu w b))) ↔ 6 < s + fx l t w b := by
  obtain ⟨⟨h1, h2, h3, h4, h5⟩, -⟩ := h
  have s1 := sp_b_ h1 (tu w b)
  have g := geo h1 (tu w b)
  have e : t * (hi_ l (tu w b) + 1) = t * le_ l (tu w b) + fx l t w b := by
    unfold fx
    rw [← s1.2.2, Nat.mul_add]
  have e2 : t * le_ l (tu w b) ≤ 6 * 6 := Nat.mul_le_mul h4 (by omega)
  have e3 : fx l t w b ≤ 6 * 6 := Nat.mul_le_mul h4 s1.2.1
  rw [e, zlt (by omega) (by omega) (by omega) (by omega)]
  omega
theorem fp_b {S : Nat → Bool} {l : List Lay} {t w : Nat} (h : fitW S l t w < 216) : fitW S l t w % 6 + fx l t w 0 ≤ 6 ∧ fitW S l t w / 6 % 6 + fx l t w 1 ≤ 6 ∧ fitW S l t w / 36 + fx l t w 2 ≤ 6 := (GdB_t.mp (fa_first_yes _ _ h)).1
theorem R_L199 (hs : RS u) {q t w s1 s2 : Nat} {l : List Lay} {S : Nat → Bool} (hF : FM m S q l t w) (hb1 : s1 + fx l t w 1 ≤ 6) (hb2 : s2 + fx l t w 2 ≤ 6) (K1 : PM → Option (Int32 × PM)) (K2 : Int32 → PM → Option (Int32 × PM)) : ∀ (d s0 fu : Nat), s0 + d = 7 → d < fu → mkI s0 s1 s2 ≤ fitW S l t w →
    F_X12_isFitting_L199 200 (nI q) (nI t) (nI w) (nI s2 - nI (t * le_ l (tu w 2))) (nI s1 - nI (t * le_ l (tu w 1))) K1 K2 fu (nI s0 - nI (t * le_ l (tu w 0))) (pm m j u) = if fitW S l t w < 6 * s1 + 36 * s2 + 6 then K2 (nI (fitW S l t w - (6 * s1 + 36 * s2)) - nI (t * le_ l (tu w 0))) (pm m j u) else K1 (pm m j u) := by
  have hFM := hF
  obtain ⟨⟨h1, h2, h3, h4, h5⟩, hR, hP, hlg⟩ := hF
  have l4 := (hlg 0 (by decide)).2
  have hpos : ∀ a, 1 ≤ fx l t w a := fun a => Nat.mul_le_mul h3 (sp_b_ h1 (tu w a)).1
  have p1 := hpos 1
  have p2 := hpos 2
  intro d
  induction d with
  | zero =>
    intro s0 fu hs0 hfu hfp
    obtain ⟨fu, rfl⟩ : ∃ g, fu = g + 1 := ⟨fu - 1, by omega⟩
    have e : s0 = 7 := by omega
    subst e
    unfold mkI at hfp
    have c := (FM_c (b := 0) (s := 7) hFM (by omega)).mpr (by omega)
    rw [if_neg (by omega), F_X12_isFitting_L199]
    simp (disch := omega) only [e_cl, e_jn, e_lt, e_cxl, e_cxr, e_rzn, ↓l_m1, ↓l_m2, ↓l_m8, l_0, l_1, l_2, l_3, l_4, l_5, l_6, l_7, l_8, l_9, l_10, l_12, l_16, l_20, l_24, l_31, l_32, l_35, l_36, l_40, l_44, l_48, l_59, l_63, l_64, l_90, l_95, l_96, l_100, l_120, l_127, l_200, l_216, l_255, l_999, l_1000, l_10000, l_1000000, l_1048575, l_1000000000, nI_add, pk_mul, pk_sub, nI_leI, nI_ltI, nI_eq, nI_dec, nI_o0, mx_n, mn_n, ab_1, ab_n, e_u2e, e_u2k, e_u2a, if_pos, if_neg, if_true, if_false, not_true, not_false_eq_true, ne_eq, Nat.add_zero, Nat.zero_add, rP hs, rI hs, rT hs, rR_21 hs, rA_214 hs, rS_214 hs, l4, eq_true c]
  | succ d ih =>
    intro s0 fu hs0 hfu hfp
    obtain ⟨fu, rfl⟩ : ∃ g, fu = g + 1 := ⟨fu - 1, by omega⟩
    have cc := FM_c (b := 0) (s := s0) hFM (by omega)
    unfold mkI at hfp
    by_cases c : 6 < s0 + fx l t w 0
    · have hno : ¬ fitW S l t w < 6 * s1 + 36 * s2 + 6 := fun z => by
        have b := (fp_b (S := S) (l := l) (t := t) (w := w) (by omega)).1
        omega
      rw [if_neg hno, F_X12_isFitting_L199]
      simp (disch := omega) only [e_cl, e_jn, e_lt, e_cxl, e_cxr, e_rzn, ↓l_m1, ↓l_m2, ↓l_m8, l_0, l_1, l_2, l_3, l_4, l_5, l_6, l_7, l_8, l_9, l_10, l_12, l_16, l_20, l_24, l_31, l_32, l_35, l_36, l_40, l_44, l_48, l_59, l_63, l_64, l_90, l_95, l_96, l_100, l_120, l_127, l_200, l_216, l_255, l_999, l_1000, l_10000, l_1000000, l_1048575, l_1000000000, nI_add, pk_mul, pk_sub, nI_leI, nI_ltI, nI_eq, nI_dec, nI_o0, mx_n, mn_n, ab_1, ab_n, e_u2e, e_u2k, e_u2a, if_pos, if_neg, if_true, if_false, not_true, not_false_eq_true, ne_eq, Nat.add_zero, Nat.zero_add, rP hs, rI hs, rT hs, rR_21 hs, rA_214 hs, rS_214 hs, l4, eq_true (cc.mpr c)]
    · have cf : (nI 6 - nI (t * (hi_ l (tu w 0) + 1)) < nI s0 - nI (t * le_ l (tu w 0))) = False := eq_false (fun z => c (cc.mp z))
      have it := R_isThere (j := j) hs h1 h2 h3 h4 h5 hR hP (show s0 + fx l t w 0 ≤ 6 by omega) hb1 hb2
      have p0 := hpos 0
      have hp216 : mkI s0 s1 s2 < 216 := by unfold mkI; omega
      cases cg : GdM S l t w (mkI s0 s1 s2)
      · rw [cg] at it
        have hne : fitW S l t w ≠ mkI s0 s1 s2 := fun z => by
          have := fa_first_yes (GdM S l t w) 216 (show fitW S l t w < 216 by omega)
          rw [show fa_first (GdM S l t w) 216 = mkI s0 s1 s2 from z, cg] at this; cases this
        unfold mkI at hne
        rw [← ih (s0 + 1) fu (by omega) (by omega) (by unfold mkI; omega), F_X12_isFitting_L199]
        simp (disch := omega) only [e_cl, e_jn, e_lt, e_cxl, e_cxr, e_rzn, ↓l_m1, ↓l_m2, ↓l_m8, l_0, l_1, l_2, l_3, l_4, l_5, l_6, l_7, l_8, l_9, l_10, l_12, l_16, l_20, l_24, l_31, l_32, l_35, l_36, l_40, l_44, l_48, l_59, l_63, l_64, l_90, l_95, l_96, l_100, l_120, l_127, l_200, l_216, l_255, l_999, l_1000, l_10000, l_1000000, l_1048575, l_1000000000, nI_add, pk_mul, pk_sub, nI_leI, nI_ltI, nI_eq, nI_dec, nI_o0, mx_n, mn_n, ab_1, ab_n, e_u2e, e_u2k, e_u2a, if_pos, if_neg, if_true, if_false, not_true, not_false_eq_true, ne_eq, Nat.add_zero, Nat.zero_add, rP hs, rI hs, rT hs, rR_21 hs, rA_214 hs, rS_214 hs, l4, cf, it, Bool.toNat_false, zinc]
      · rw [cg] at it
        have heq : fitW S l t w = mkI s0 s1 s2 := by
          have hle : ¬ mkI s0 s1 s2 < fitW S l t w := fun z => by
            have := fa_first_no (GdM S l t w) 216 (mkI s0 s1 s2) z
            rw [cg] at this; cases this
          unfold mkI at hle ⊢
          omega
        unfold mkI at heq
        rw [if_pos (by omega), heq, show s0 + 6 * s1 + 36 * s2 - (6 * s1 + 36 * s2) = s0 by omega, F_X12_isFitting_L199]
        simp (disch := omega) only [e_cl, e_jn, e_lt, e_cxl, e_cxr, e_rzn, ↓l_m1, ↓l_m2, ↓l_m8, l_0, l_1, l_2, l_3, l_4, l_5, l_6, l_7, l_8, l_9, l_10, l_12, l_16, l_20, l_24, l_31, l_32, l_35, l_36, l_40, l_44, l_48, l_59, l_63, l_64, l_90, l_95, l_96, l_100, l_120, l_127, l_200, l_216, l_255, l_999, l_1000, l_10000, l_1000000, l_1048575, l_1000000000, nI_add, pk_mul, pk_sub, nI_leI, nI_ltI, nI_eq, nI_dec, nI_o0, mx_n, mn_n, ab_1, ab_n, e_u2e, e_u2k, e_u2a, if_pos, if_neg, if_true, if_false, not_true, not_false_eq_true, ne_eq, Nat.add_zero, Nat.zero_add, rP hs, rI hs, rT hs, rR_21 hs, rA_214 hs, rS_214 hs, l4, cf, it, Bool.toNat_true]
theorem R_L170 (hs : RS u) {q t w s2 : Nat} {l : List Lay} {S : Nat → Bool} (hF : FM m S q l t w) (hb2 : s2 + fx l t w 2 ≤ 6) (K1 : PM → Option (Int32 × PM)) (K2 : Int32 → Int32 → PM → Option (Int32 × PM)) : ∀ (d s1 fu : Nat), s1 + d = 7 → d < fu → 6 * s1 + 36 * s2 ≤ fitW S l t w →
    F_X12_isFitting_L170 200 (nI q) (nI t) (nI w) (nI s2 - nI (t * le_ l (tu w 2))) K1 K2 fu (nI s1 - nI (t * le_ l (tu w 1))) (pm m j u) = if fitW S l t w < 36 * s2 + 36 then K2 (nI (fitW S l t w / 6 % 6) - nI (t * le_ l (tu w 1))) (nI (fitW S l t w % 6) - nI (t * le_ l (tu w 0))) (pm m j u) else K1 (pm m j u) := by
  have hFM := hF
  obtain ⟨⟨h1, h2, h3, h4, h5⟩, hR, hP, hlg⟩ := hF
  have l3 := (hlg 0 (by decide)).1
  have l4 := (hlg 1 (by decide)).2
  have hpos : ∀ a, 1 ≤ fx l t w a := fun a => Nat.mul_le_mul h3 (sp_b_ h1 (tu w a)).1
  have p2 := hpos 2
  intro d
  induction d with
  | zero =>
    intro s1 fu hs1 hfu hfp
    obtain ⟨fu, rfl⟩ : ∃ g, fu = g + 1 := ⟨fu - 1, by omega⟩
    have e : s1 = 7 := by omega
    subst e
    have c := (FM_c (b := 1) (s := 7) hFM (by omega)).mpr (by omega)
    rw [if_neg (by omega), F_X12_isFitting_L170]
    simp (disch := omega) only [e_cl, e_jn, e_lt, e_cxl, e_cxr, e_rzn, ↓l_m1, ↓l_m2, ↓l_m8, l_0, l_1, l_2, l_3, l_4, l_5, l_6, l_7, l_8, l_9, l_10, l_12, l_16, l_20, l_24, l_31, l_32, l_35, l_36, l_40, l_44, l_48, l_59, l_63, l_64, l_90, l_95, l_96, l_100, l_120, l_127, l_200, l_216, l_255, l_999, l_1000, l_10000, l_1000000, l_1048575, l_1000000000, nI_add, pk_mul, pk_sub, nI_leI, nI_ltI, nI_eq, nI_dec, nI_o0, mx_n, mn_n, ab_1, ab_n, e_u2e, e_u2k, e_u2a, if_pos, if_neg, if_true, if_false, not_true, not_false_eq_true, ne_eq, Nat.add_zero, Nat.zero_add, rP hs, rI hs, rT hs, rR_21 hs, rA_214 hs, rS_214 hs, l4, eq_true c]
  | succ d ih =>
    intro s1 fu hs1 hfu hfp
    obtain ⟨fu, rfl⟩ : ∃ g, fu = g + 1 := ⟨fu - 1, by omega⟩
    have cc := FM_c (b := 1) (s := s1) hFM (by omega)
    by_cases c : 6 < s1 + fx l t w 1
    · have hno : ¬ fitW S l t w < 36 * s2 + 36 := fun z => by
        have b := (fp_b (S := S) (l := l) (t := t) (w := w) (by omega)).2.1
        omega
      rw [if_neg hno, F_X12_isFitting_L170]
      simp (disch := omega) only [e_cl, e_jn, e_lt, e_cxl, e_cxr, e_rzn, ↓l_m1, ↓l_m2, ↓l_m8, l_0, l_1, l_2, l_3, l_4, l_5, l_6, l_7, l_8, l_9, l_10, l_12, l_16, l_20, l_24, l_31, l_32, l_35, l_36, l_40, l_44, l_48, l_59, l_63, l_64, l_90, l_95, l_96, l_100, l_120, l_127, l_200, l_216, l_255, l_999, l_1000, l_10000, l_1000000, l_1048575, l_1000000000, nI_add, pk_mul, pk_sub, nI_leI, nI_ltI, nI_eq, nI_dec, nI_o0, mx_n, mn_n, ab_1, ab_n, e_u2e, e_u2k, e_u2a, if_pos, if_neg, if_true, if_false, not_true, not_false_eq_true, ne_eq, Nat.add_zero, Nat.zero_add, rP hs, rI hs, rT hs, rR_21 hs, rA_214 hs, rS_214 hs, l4, eq_true (cc.mpr c)]
    · have cf : (nI 6 - nI (t * (hi_ l (tu w 1) + 1)) < nI s1 - nI (t * le_ l (tu w 1))) = False := eq_false (fun z => c (cc.mp z))
      have hL := fun K1 K2 => R_L199 (j := j) hs hFM (show s1 + fx l t w 1 ≤ 6 by omega) hb2 K1 K2 7 0 LF (by omega) (by unfold LF; omega) (by unfold mkI; omega)
      have p1 := hpos 1
      by_cases cr : fitW S l t w < 6 * s1 + 36 * s2 + 6
      · simp only [if_pos cr] at hL
        rw [if_pos (by omega), show fitW S l t w / 6 % 6 = s1 by omega, show fitW S l t w % 6 = fitW S l t w - (6 * s1 + 36 * s2) by omega, F_X12_isFitting_L170]
        simp (disch := omega) only [e_cl, e_jn, e_lt, e_cxl, e_cxr, e_rzn, ↓l_m1, ↓l_m2, ↓l_m8, l_0, l_1, l_2, l_3, l_4, l_5, l_6, l_7, l_8, l_9, l_10, l_12, l_16, l_20, l_24, l_31, l_32, l_35, l_36, l_40, l_44, l_48, l_59, l_63, l_64, l_90, l_95, l_96, l_100, l_120, l_127, l_200, l_216, l_255, l_999, l_1000, l_10000, l_1000000, l_1048575, l_1000000000, nI_add, pk_mul, pk_sub, nI_leI, nI_ltI, nI_eq, nI_dec, nI_o0, mx_n, mn_n, ab_1, ab_n, e_u2e, e_u2k, e_u2a, if_pos, if_neg, if_true, if_false, not_true, not_false_eq_true, ne_eq, Nat.add_zero, Nat.zero_add, rP hs, rI hs, rT hs, rR_20 hs, rA_213 hs, rS_213 hs, rR_21 hs, rA_214 hs, rS_214 hs, l3, l4, cf, zneg, hL]
      · simp only [if_neg cr] at hL
        rw [← ih (s1 + 1) fu (by omega) (by omega) (by omega), F_X12_isFitting_L170]
        simp (disch := omega) only [e_cl, e_jn, e_lt, e_cxl, e_cxr, e_rzn, ↓l_m1, ↓l_m2, ↓l_m8, l_0, l_1, l_2, l_3, l_4, l_5, l_6, l_7, l_8, l_9, l_10, l_12, l_16, l_20, l_24, l_31, l_32, l_35, l_36, l_40, l_44, l_48, l_59, l_63, l_64, l_90, l_95, l_96, l_100, l_120, l_127, l_200, l_216, l_255, l_999, l_1000, l_10000, l_1000000, l_1048575, l_1000000000, nI_add, pk_mul, pk_sub, nI_leI, nI_ltI, nI_eq, nI_dec, nI_o0, mx_n, mn_n, ab_1, ab_n, e_u2e, e_u2k, e_u2a, if_pos, if_neg, if_true, if_false, not_true, not_false_eq_true, ne_eq, Nat.add_zero, Nat.zero_add, rP hs, rI hs, rT hs, rR_20 hs, rA_213 hs, rS_213 hs, rR_21 hs, rA_214 hs, rS_214 hs, l3, l4, cf, zneg, hL, zinc]
theorem R_L141 (hs : RS u) {q t w : Nat} {l : List Lay} {S : Nat → Bool} (hF : FM m S q l t w) (K1 : PM → Option (Int32 × PM)) (K2 : Int32 → Int32 → Int32 → PM → Option (Int32 × PM)) : ∀ (d s2 fu : Nat), s2 + d = 7 → d < fu → 36 * s2 ≤ fitW S l t w →
    F_X12_isFitting_L141 200 (nI q) (nI t) (nI w) K1 K2 fu (nI s2 - nI (t * le_ l (tu w 2))) (pm m j u) = if fitW S l t w < 216 then K2 (nI (fitW S l t w / 36) - nI (t * le_ l (tu w 2))) (nI (fitW S l t w / 6 % 6) - nI (t * le_ l (tu w 1))) (nI (fitW S l t w % 6) - nI (t * le_ l (tu w 0))) (pm m j u) else K1 (pm m j u) := by
  have hFM := hF
  obtain ⟨⟨h1, h2, h3, h4, h5⟩, hR, hP, hlg⟩ := hF
  have l3 := (hlg 1 (by decide)).1
  have l4 := (hlg 2 (by decide)).2
  have hpos : ∀ a, 1 ≤ fx l t w a := fun a => Nat.mul_le_mul h3 (sp_b_ h1 (tu w a)).1
  have hle : fitW S l t w ≤ 216 := fa_first_le _ _
  intro d
  induction d with
  | zero =>
    intro s2 fu hs2 hfu hfp
    obtain ⟨fu, rfl⟩ : ∃ g, fu = g + 1 := ⟨fu - 1, by omega⟩
    have e : s2 = 7 := by omega
    subst e
    have c := (FM_c (b := 2) (s := 7) hFM (by omega)).mpr (by omega)
    rw [if_neg (by omega), F_X12_isFitting_L141]
    simp (disch := omega) only [e_cl, e_jn, e_lt, e_cxl, e_cxr, e_rzn, ↓l_m1, ↓l_m2, ↓l_m8, l_0, l_1, l_2, l_3, l_4, l_5, l_6, l_7, l_8, l_9, l_10, l_12, l_16, l_20, l_24, l_31, l_32, l_35, l_36, l_40, l_44, l_48, l_59, l_63, l_64, l_90, l_95, l_96, l_100, l_120, l_127, l_200, l_216, l_255, l_999, l_1000, l_10000, l_1000000, l_1048575, l_1000000000, nI_add, pk_mul, pk_sub, nI_leI, nI_ltI, nI_eq, nI_dec, nI_o0, mx_n, mn_n, ab_1, ab_n, e_u2e, e_u2k, e_u2a, if_pos, if_neg, if_true, if_false, not_true, not_false_eq_true, ne_eq, Nat.add_zero, Nat.zero_add, rP hs, rI hs, rT hs, rR_21 hs, rA_214 hs, rS_214 hs, l4, eq_true c]
  | succ d ih =>
    intro s2 fu hs2 hfu hfp
    obtain ⟨fu, rfl⟩ : ∃ g, fu = g + 1 := ⟨fu - 1, by omega⟩
    have cc := FM_c (b := 2) (s := s2) hFM (by omega)
    by_cases c : 6 < s2 + fx l t w 2
    · have hno : ¬ fitW S l t w < 216 := fun z => by
        have b := (fp_b (S := S) (l := l) (t := t) (w := w) (by omega)).2.2
        omega
      rw [if_neg hno, F_X12_isFitting_L141]
      simp (disch := omega) only [e_cl, e_jn, e_lt, e_cxl, e_cxr, e_rzn, ↓l_m1, ↓l_m2, ↓l_m8, l_0, l_1, l_2, l_3, l_4, l_5, l_6, l_7, l_8, l_9, l_10, l_12, l_16, l_20, l_24, l_31, l_32, l_35, l_36, l_40, l_44, l_48, l_59, l_63, l_64, l_90, l_95, l_96, l_100, l_120, l_127, l_200, l_216, l_255, l_999, l_1000, l_10000, l_1000000, l_1048575, l_1000000000, nI_add, pk_mul, pk_sub, nI_leI, nI_ltI, nI_eq, nI_dec, nI_o0, mx_n, mn_n, ab_1, ab_n, e_u2e, e_u2k, e_u2a, if_pos, if_neg, if_true, if_false, not_true, not_false_eq_true, ne_eq, Nat.add_zero, Nat.zero_add, rP hs, rI hs, rT hs, rR_21 hs, rA_214 hs, rS_214 hs, l4, eq_true (cc.mpr c)]
    · have cf : (nI 6 - nI (t * (hi_ l (tu w 2) + 1)) < nI s2 - nI (t * le_ l (tu w 2))) = False := eq_false (fun z => c (cc.mp z))
      have hL := fun K1 K2 => R_L170 (j := j) hs hFM (show s2 + fx l t w 2 ≤ 6 by omega) K1 K2 7 0 LF (by omega) (by unfold LF; omega) (by omega)
      have p1 := hpos 2
      by_cases cr : fitW S l t w < 36 * s2 + 36
      · simp only [if_pos cr] at hL
        rw [if_pos (by omega), show fitW S l t w / 36 = s2 by omega, F_X12_isFitting_L141]
        simp (disch := omega) only [e_cl, e_jn, e_lt, e_cxl, e_cxr, e_rzn, ↓l_m1, ↓l_m2, ↓l_m8, l_0, l_1, l_2, l_3, l_4, l_5, l_6, l_7, l_8, l_9, l_10, l_12, l_16, l_20, l_24, l_31, l_32, l_35, l_36, l_40, l_44, l_48, l_59, l_63, l_64, l_90, l_95, l_96, l_100, l_120, l_127, l_200, l_216, l_255, l_999, l_1000, l_10000, l_1000000, l_1048575, l_1000000000, nI_add, pk_mul, pk_sub, nI_leI, nI_ltI, nI_eq, nI_dec, nI_o0, mx_n, mn_n, ab_1, ab_n, e_u2e, e_u2k, e_u2a, if_pos, if_neg, if_true, if_false, not_true, not_false_eq_true, ne_eq, Nat.add_zero, Nat.zero_add, rP hs, rI hs, rT hs, rR_20 hs, rA_213 hs, rS_213 hs, rR_21 hs, rA_214 hs, rS_214 hs, l3, l4, cf, zneg, hL]
      · simp only [if_neg cr] at hL
        rw [← ih (s2 + 1) fu (by omega) (by omega) (by omega), F_X12_isFitting_L141]
        simp (disch := omega) only [e_cl, e_jn, e_lt, e_cxl, e_cxr, e_rzn, ↓l_m1, ↓l_m2, ↓l_m8, l_0, l_1, l_2, l_3, l_4, l_5, l_6, l_7, l_8, l_9, l_10, l_12, l_16, l_20, l_24, l_31, l_32, l_35, l_36, l_40, l_44, l_48, l_59, l_63, l_64, l_90, l_95, l_96, l_100, l_120, l_127, l_200, l_216, l_255, l_999, l_1000, l_10000, l_1000000, l_1048575, l_1000000000, nI_add, pk_mul, pk_sub, nI_leI, nI_ltI, nI_eq, nI_dec, nI_o0, mx_n, mn_n, ab_1, ab_n, e_u2e, e_u2k, e_u2a, if_pos, if_neg, if_true, if_false, not_true, not_false_eq_true, ne_eq, Nat.add_zero, Nat.zero_add, rP hs, rI hs, rT hs, rR_20 hs, rA_213 hs, rS_213 hs, rR_21 hs, rA_214 hs, rS_214 hs, l3, l4, cf, zneg, hL, zinc]
theorem R_isFitting (hs : RS u) {q t w : Nat} {l : List Lay} {S : Nat → Bool} (h1 : okM l) (h2 : q < 6) (h3 : 1 ≤ t) (h4 : t ≤ 6) (h5 : w < 6) (hR : RM m q l) (hP : PT m S) : ∃ m', F_X12_isFitting 200 (nI q) (nI t) (nI w) (pm m j u) = some (nI (decide (fitW S l t w < 216)).toNat, pm m' j u) ∧ (∀ b, b ≠ 200 → b ≠ 213 → b ≠ 214 → m' b = m b) ∧ (∀ k, k ≠ 22 → k ≠ 23 → k ≠ 24 → m' 200 k = m 200 k) ∧ (fitW S l t w < 216 → m' 200 22 = nI (fitW S l t w % 6) - nI (t * le_ l (tu w 0)) ∧ m' 200 23 = nI (fitW S l t w / 6 % 6) - nI (t * le_ l (tu w 1)) ∧ m' 200 24 = nI (fitW S l t w / 36) - nI (t * le_ l (tu w 2))) := by
  obtain ⟨m1, a1, a2, a3⟩ := R_L3f (j := j) (c1 := nI q) (c2 := nI t) (c3 := nI w) hs 3 0 LF m (by omega) (by unfold LF; omega) (fun b hb => by omega)
  have hR1 : RM m1 q l := RM_fr hR (a2 _ (by decide) (by decide)) (a2 _ (by decide) (by decide)) (a2 _ (by decide) (by decide)) (a2 _ (by decide) (by decide))
  obtain ⟨m2, b1, b2, b3⟩ := R_L39 (j := j) (c2 := nI t) hs h1 h2 h5 (tot l) 0 LF m1 (by omega) (by have := hR.2.1; unfold LF; omega) hR1 (fun b hb => by rw [if_neg (by omega)]; exact a3 b hb)
  have hF : FM m2 S q l t w := by
    refine ⟨⟨h1, h2, h3, h4, h5⟩, RM_fr hR1 (b2 _ (by decide) (by decide)) (b2 _ (by decide) (by decide)) (b2 _ (by decide) (by decide)) (b2 _ (by decide) (by decide)), fun i hi => ?_, b3⟩
    rw [b2 212 (by decide) (by decide), a2 212 (by decide) (by decide)]; exact hP i hi
  have hL := fun K1 K2 => R_L141 (j := j) hs hF K1 K2 7 0 LF (by omega) (by unfold LF; omega) (by omega)
  have l5 := (b3 2 (by decide)).1
  have ef : ∀ b, b ≠ 213 → b ≠ 214 → m2 b = m b := fun b g1 g2 => by rw [b2 b g1 g2, a2 b g1 g2]
  by_cases c : fitW S l t w < 216
  · simp only [if_pos c] at hL
    refine ⟨u2 (u2 (u2 m2 200 22 (nI (fitW S l t w % 6) - nI (t * le_ l (tu w 0)))) 200 23 (nI (fitW S l t w / 6 % 6) - nI (t * le_ l (tu w 1)))) 200 24 (nI (fitW S l t w / 36) - nI (t * le_ l (tu w 2))), ?_, fun b g1 g2 g3 => by rw [e_u2r g1, e_u2r g1, e_u2r g1, ef b g2 g3], fun k g1 g2 g3 => by rw [e_u2k g3, e_u2k g2, e_u2k g1, ef 200 (by decide) (by decide)], fun _ => ⟨?_, ?_, ?_⟩⟩
    · rw [decide_eq_true c]
      unfold F_X12_isFitting
      simp (disch := omega) only [e_cl, e_jn, e_lt, e_cxl, e_cxr, e_rzn, ↓l_m1, ↓l_m2, ↓l_m8, l_0, l_1, l_2, l_3, l_4, l_5, l_6, l_7, l_8, l_9, l_10, l_12, l_16, l_20, l_24, l_31, l_32, l_35, l_36, l_40, l_44, l_48, l_59, l_63, l_64, l_90, l_95, l_96, l_100, l_120, l_127, l_200, l_216, l_255, l_999, l_1000, l_10000, l_1000000, l_1048575, l_1000000000, nI_add, pk_mul, pk_sub, nI_leI, nI_ltI, nI_eq, nI_dec, nI_o0, mx_n, mn_n, ab_1, ab_n, e_u2e, e_u2k, e_u2a, if_pos, if_neg, if_true, if_false, not_true, not_false_eq_true, ne_eq, Nat.add_zero, Nat.zero_add, rP hs, rI hs, rT hs, rR_20 hs, rA_213 hs, rS_213 hs, Bool.toNat_true, a1]
      rw [show nI (216 * q) = nI (216 * q + 0) from rfl, b1]
      simp (disch := omega) only [e_cl, e_jn, e_lt, e_cxl, e_cxr, e_rzn, ↓l_m1, ↓l_m2, ↓l_m8, l_0, l_1, l_2, l_3, l_4, l_5, l_6, l_7, l_8, l_9, l_10, l_12, l_16, l_20, l_24, l_31, l_32, l_35, l_36, l_40, l_44, l_48, l_59, l_63, l_64, l_90, l_95, l_96, l_100, l_120, l_127, l_200, l_216, l_255, l_999, l_1000, l_10000, l_1000000, l_1048575, l_1000000000, nI_add, pk_mul, pk_sub, nI_leI, nI_ltI, nI_eq, nI_dec, nI_o0, mx_n, mn_n, ab_1, ab_n, e_u2e, e_u2k, e_u2a, if_pos, if_neg, if_true, if_false, not_true, not_false_eq_true, ne_eq, Nat.add_zero, Nat.zero_add, rP hs, rI hs, rT hs, rR_20 hs, rA_213 hs, rS_213 hs, l5, zneg, hL]
    · rw [e_u2k (by decide), e_u2k (by decide), e_u2s]
    · rw [e_u2k (by decide), e_u2s]
    · rw [e_u2s]
  · simp only [if_neg c] at hL
    refine ⟨m2, ?_, fun b g1 g2 g3 => ef b g2 g3, fun k _ _ _ => by rw [ef 200 (by decide) (by decide)], fun z => absurd z c⟩
    rw [decide_eq_false c]
    unfold F_X12_isFitting
    simp (disch := omega) only [e_cl, e_jn, e_lt, e_cxl, e_cxr, e_rzn, ↓l_m1, ↓l_m2, ↓l_m8, l_0, l_1, l_2, l_3, l_4, l_5, l_6, l_7, l_8, l_9, l_10, l_12, l_16, l_20, l_24, l_31, l_32, l_35, l_36, l_40, l_44, l_48, l_59, l_63, l_64, l_90, l_95, l_96, l_100, l_120, l_127, l_200, l_216, l_255, l_999, l_1000, l_10000, l_1000000, l_1048575, l_1000000000, nI_add, pk_mul, pk_sub, nI_leI, nI_ltI, nI_eq, nI_dec, nI_o0, mx_n, mn_n, ab_1, ab_n, e_u2e, e_u2k, e_u2a, if_pos, if_neg, if_true, if_false, not_true, not_false_eq_true, ne_eq, Nat.add_zero, Nat.zero_add, rP hs, rI hs, rT hs, rR_20 hs, rA_213 hs, rS_213 hs, Bool.toNat_false, a1]
    rw [show nI (216 * q) = nI (216 * q + 0) from rfl, b1]
    simp (disch := omega) only [e_cl, e_jn, e_lt, e_cxl, e_cxr, e_rzn, ↓l_m1, ↓l_m2, ↓l_m8, l_0, l_1, l_2, l_3, l_4, l_5, l_6, l_7, l_8, l_9, l_10, l_12, l_16, l_20, l_24, l_31, l_32, l_35, l_36, l_40, l_44, l_48, l_59, l_63, l_64, l_90, l_95, l_96, l_100, l_120, l_127, l_200, l_216, l_255, l_999, l_1000, l_10000, l_1000000, l_1048575, l_1000000000, nI_add, pk_mul, pk_sub, nI_leI, nI_ltI, nI_eq, nI_dec, nI_o0, mx_n, mn_n, ab_1, ab_n, e_u2e, e_u2k, e_u2a, if_pos, if_neg, if_true, if_false, not_true, not_false_eq_true, ne_eq, Nat.add_zero, Nat.zero_add, rP hs, rI hs, rT hs, rR_20 hs, rA_213 hs, rS_213 hs, l5, zneg, hL]
end RFIT2
