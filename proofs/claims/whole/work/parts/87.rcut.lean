/-! ===== the reference: parts, fit, cuts ===== -/
section RCUT
variable {m : IM} {j : JM} {u : SU}
theorem R_sp3 (hs : RS u) {ax lo hi : Nat} {A c1 : Int32} (hA : ∀ a, a < 3 → (nI a = A ↔ a = ax)) : ∀ (d a fu : Nat) (m : IM), a + d = 3 → d < fu → (∀ b, b < a → m 210 b = nI (if b = ax then lo else 0) ∧ m 211 b = nI (if b = ax then hi else 5)) →
    ∃ m', (∀ K, F_X12_setPart_L3 200 c1 A (nI lo) (nI hi) K fu (nI a) (pm m j u) = K (pm m' j u)) ∧ (∀ b, b ≠ 210 → b ≠ 211 → m' b = m b) ∧ ∀ b, b < 3 → m' 210 b = nI (if b = ax then lo else 0) ∧ m' 211 b = nI (if b = ax then hi else 5) := by
  intro d
  induction d with
  | zero =>
    intro a fu m ha hfu h
    obtain ⟨fu, rfl⟩ : ∃ g, fu = g + 1 := ⟨fu - 1, by omega⟩
    have e : a = 3 := by omega
    subst e
    refine ⟨m, fun K => ?_, fun _ _ _ => rfl, h⟩
    simp (disch := omega) only [F_X12_setPart_L3, e_cl, e_jn, e_lt, e_cxl, e_cxr, e_rzn, ↓l_m1, ↓l_m2, ↓l_m8, l_0, l_1, l_2, l_3, l_4, l_5, l_6, l_7, l_8, l_9, l_10, l_12, l_16, l_20, l_24, l_31, l_32, l_35, l_36, l_40, l_44, l_48, l_59, l_63, l_64, l_90, l_95, l_96, l_100, l_120, l_127, l_200, l_216, l_255, l_999, l_1000, l_10000, l_1000000, l_1048575, l_1000000000, nI_add, pk_mul, pk_sub, nI_leI, nI_ltI, nI_eq, nI_dec, nI_o0, mx_n, mn_n, ab_1, ab_n, e_u2e, e_u2k, e_u2a, if_pos, if_neg, if_true, if_false, not_true, not_false_eq_true, ne_eq, Nat.add_zero, Nat.zero_add]
  | succ d ih =>
    intro a fu m ha hfu h
    obtain ⟨fu, rfl⟩ : ∃ g, fu = g + 1 := ⟨fu - 1, by omega⟩
    obtain ⟨m', i1, i2, i3⟩ := ih (a + 1) fu (u2 (u2 m 210 a (nI (if a = ax then lo else 0))) 211 a (nI (if a = ax then hi else 5))) (by omega) (by omega) (fun b hb => by
      by_cases e : b = a
      · rw [e, e_u2s, e_u2a (by decide), e_u2s]; exact ⟨rfl, rfl⟩
      · rw [e_u2k e, e_u2a (by decide), e_u2k e, e_u2a (by decide)]; exact h b (by omega))
    refine ⟨m', fun K => ?_, fun b g1 g2 => by rw [i2 b g1 g2, e_u2r g2, e_u2r g1], i3⟩
    have hA' := hA a (by omega)
    rw [← i1 K, F_X12_setPart_L3]
    by_cases c : a = ax
    · have e1 : (nI a = A) = True := eq_true (hA'.mpr c)
      rw [if_pos c, if_pos c]
      simp (disch := omega) only [e_cl, e_jn, e_lt, e_cxl, e_cxr, e_rzn, ↓l_m1, ↓l_m2, ↓l_m8, l_0, l_1, l_2, l_3, l_4, l_5, l_6, l_7, l_8, l_9, l_10, l_12, l_16, l_20, l_24, l_31, l_32, l_35, l_36, l_40, l_44, l_48, l_59, l_63, l_64, l_90, l_95, l_96, l_100, l_120, l_127, l_200, l_216, l_255, l_999, l_1000, l_10000, l_1000000, l_1048575, l_1000000000, nI_add, pk_mul, pk_sub, nI_leI, nI_ltI, nI_eq, nI_dec, nI_o0, mx_n, mn_n, ab_1, ab_n, e_u2e, e_u2k, e_u2a, if_pos, if_neg, if_true, if_false, not_true, not_false_eq_true, ne_eq, Nat.add_zero, Nat.zero_add, rP hs, rI hs, rT hs, rR_17 hs, rA_210 hs, rS_210 hs, rR_18 hs, rA_211 hs, rS_211 hs, e1]
    · have e1 : (nI a = A) = False := eq_false (fun z => c (hA'.mp z))
      rw [if_neg c, if_neg c]
      simp (disch := omega) only [e_cl, e_jn, e_lt, e_cxl, e_cxr, e_rzn, ↓l_m1, ↓l_m2, ↓l_m8, l_0, l_1, l_2, l_3, l_4, l_5, l_6, l_7, l_8, l_9, l_10, l_12, l_16, l_20, l_24, l_31, l_32, l_35, l_36, l_40, l_44, l_48, l_59, l_63, l_64, l_90, l_95, l_96, l_100, l_120, l_127, l_200, l_216, l_255, l_999, l_1000, l_10000, l_1000000, l_1048575, l_1000000000, nI_add, pk_mul, pk_sub, nI_leI, nI_ltI, nI_eq, nI_dec, nI_o0, mx_n, mn_n, ab_1, ab_n, e_u2e, e_u2k, e_u2a, if_pos, if_neg, if_true, if_false, not_true, not_false_eq_true, ne_eq, Nat.add_zero, Nat.zero_add, rP hs, rI hs, rT hs, rR_17 hs, rA_210 hs, rS_210 hs, rR_18 hs, rA_211 hs, rS_211 hs, e1]
def bxP (ax lo hi i : Nat) : Prop := ((if 0 = ax then lo else 0) ≤ i % 6 ∧ i % 6 ≤ (if 0 = ax then hi else 5)) ∧ ((if 1 = ax then lo else 0) ≤ i / 6 % 6 ∧ i / 6 % 6 ≤ (if 1 = ax then hi else 5)) ∧ (if 2 = ax then lo else 0) ≤ i / 36 ∧ i / 36 ≤ (if 2 = ax then hi else 5)
theorem R_spStep (hs : RS u) {r i l0 h0 l1 h1 l2 h2 v fu : Nat} (K : PM → Option (Unit × PM)) (hr : r < 10) (hi : i < 216) (b0 : l0 ≤ 6) (b1 : h0 ≤ 6) (b2 : l1 ≤ 6) (b3 : h1 ≤ 6) (b4 : l2 ≤ 6) (b5 : h2 ≤ 6) (a1 : m 210 0 = nI l0) (a2 : m 211 0 = nI h0) (a3 : m 210 1 = nI l1) (a4 : m 211 1 = nI h1) (a5 : m 210 2 = nI l2) (a6 : m 211 2 = nI h2) (hsd : m 201 (216 * r + i) = nI v) :
    (((l0 ≤ i % 6 ∧ i % 6 ≤ h0) ∧ (l1 ≤ i / 6 % 6 ∧ i / 6 % 6 ≤ h1) ∧ l2 ≤ i / 36 ∧ i / 36 ≤ h2) → F_X12_setPart_L55 200 (nI r) K (fu + 1) (nI i) (pm m j u) = F_X12_setPart_L55 200 (nI r) K fu (nI (i + 1)) (pm (u2 m 212 i (nI v)) j u)) ∧ (¬ ((l0 ≤ i % 6 ∧ i % 6 ≤ h0) ∧ (l1 ≤ i / 6 % 6 ∧ i / 6 % 6 ≤ h1) ∧ l2 ≤ i / 36 ∧ i / 36 ≤ h2) → F_X12_setPart_L55 200 (nI r) K (fu + 1) (nI i) (pm m j u) = F_X12_setPart_L55 200 (nI r) K fu (nI (i + 1)) (pm (u2 m 212 i (nI 0)) j u)) := by
  have x0 : i - i / 6 * 6 = i % 6 := by omega
  have x1 : i / 6 - i / 6 / 6 * 6 = i / 6 % 6 := by omega
  have y0 : i % 6 < 6 := by omega
  have y1 : i / 6 % 6 < 6 := by omega
  have y2 : i / 36 < 6 := by omega
  have w : ∀ (x lo hi : Nat) (h : PM), x < 6 → lo ≤ 6 → hi ≤ 6 → F_X12_within (nI x) (nI lo) (nI hi) h = some (nI (decide (lo ≤ x ∧ x ≤ hi)).toNat, h) := fun x lo hi h q1 q2 q3 => by
    have e1 := nI_ltI (a := x) (b := lo) (by omega) (by omega)
    have e2 := nI_ltI (a := hi) (b := x) (by omega) (by omega)
    rw [R_within]
    by_cases c : lo ≤ x ∧ x ≤ hi
    · rw [if_neg (fun z => by rw [e1, e2] at z; omega), decide_eq_true c]; rfl
    · rw [if_pos (by rw [e1, e2]; omega), decide_eq_false c]; rfl
  have w0 := fun h => w (i % 6) l0 h0 h y0 b0 b1
  have w1 := fun h => w (i / 6 % 6) l1 h1 h y1 b2 b3
  have w2 := fun h => w (i / 36) l2 h2 h y2 b4 b5
  have head : F_X12_setPart_L55 200 (nI r) K (fu + 1) (nI i) (pm m j u) = (if nI (decide (l0 ≤ i % 6 ∧ i % 6 ≤ h0)).toNat = nI 0 then F_X12_setPart_L55 200 (nI r) K fu (nI (i + 1)) (pm (u2 m 212 i (nI 0)) j u) else if nI (decide (l1 ≤ i / 6 % 6 ∧ i / 6 % 6 ≤ h1)).toNat = nI 0 then F_X12_setPart_L55 200 (nI r) K fu (nI (i + 1)) (pm (u2 m 212 i (nI 0)) j u) else if nI (decide (l2 ≤ i / 36 ∧ i / 36 ≤ h2)).toNat = nI 0 then F_X12_setPart_L55 200 (nI r) K fu (nI (i + 1)) (pm (u2 m 212 i (nI 0)) j u) else F_X12_setPart_L55 200 (nI r) K fu (nI (i + 1)) (pm (u2 m 212 i (nI v)) j u)) := by
    clear b0 b1 b2 b3 b4 b5 y0 y1 y2 w
    rw [F_X12_setPart_L55]
    generalize decide (l0 ≤ i % 6 ∧ i % 6 ≤ h0) = d0 at w0 ⊢
    generalize decide (l1 ≤ i / 6 % 6 ∧ i / 6 % 6 ≤ h1) = d1 at w1 ⊢
    generalize decide (l2 ≤ i / 36 ∧ i / 36 ≤ h2) = d2 at w2 ⊢
    cases d0 <;> cases d1 <;> cases d2 <;> simp (disch := omega) only [e_cl, e_jn, e_lt, e_cxl, e_cxr, e_rzn, ↓l_m1, ↓l_m2, ↓l_m8, l_0, l_1, l_2, l_3, l_4, l_5, l_6, l_7, l_8, l_9, l_10, l_12, l_16, l_20, l_24, l_31, l_32, l_35, l_36, l_40, l_44, l_48, l_59, l_63, l_64, l_90, l_95, l_96, l_100, l_120, l_127, l_200, l_216, l_255, l_999, l_1000, l_10000, l_1000000, l_1048575, l_1000000000, nI_add, pk_mul, pk_sub, nI_leI, nI_ltI, nI_eq, nI_dec, nI_o0, mx_n, mn_n, ab_1, ab_n, e_u2e, e_u2k, e_u2a, if_pos, if_neg, if_true, if_false, not_true, not_false_eq_true, ne_eq, Nat.add_zero, Nat.zero_add, rP hs, rI hs, rT hs, rR_17 hs, rA_210 hs, rS_210 hs, rR_18 hs, rA_211 hs, rS_211 hs, rR_19 hs, rA_212 hs, rS_212 hs, rR_2 hs, rA_201 hs, rS_201 hs, pk_div, e_dv (show nI 6 ≠ 0 by decide), e_dv (show nI 36 ≠ 0 by decide), x0, x1, a1, a2, a3, a4, a5, a6, hsd, w0, w1, w2, Bool.toNat_true, Bool.toNat_false]
  rw [head]
  constructor
  · intro ⟨c0, c1, c2⟩
    rw [decide_eq_true c0, decide_eq_true c1, decide_eq_true c2]
    rfl
  · intro c
    by_cases c0 : l0 ≤ i % 6 ∧ i % 6 ≤ h0
    · by_cases c1 : l1 ≤ i / 6 % 6 ∧ i / 6 % 6 ≤ h1
      · have c2 : ¬ (l2 ≤ i / 36 ∧ i / 36 ≤ h2) := fun z => c ⟨c0, c1, z⟩
        rw [decide_eq_true c0, decide_eq_true c1, decide_eq_false c2]; rfl
      · rw [decide_eq_true c0, decide_eq_false c1]; rfl
    · rw [decide_eq_false c0]; rfl
theorem R_sp55 (hs : RS u) {r nR ax lo hi : Nat} {sd : Nat → Bool} (hr : r < 10) (hlo : lo ≤ 6) (hhi : hi ≤ 6) : ∀ (d i fu : Nat) (m : IM), i + d = 216 → d < fu → RAr m nR sd → (∀ b, b < 3 → m 210 b = nI (if b = ax then lo else 0) ∧ m 211 b = nI (if b = ax then hi else 5)) → (∀ k, k < i → (bxP ax lo hi k → m 212 k = nI (sd (216 * r + k)).toNat) ∧ (¬ bxP ax lo hi k → m 212 k = nI 0)) →
    ∃ m', (∀ K, F_X12_setPart_L55 200 (nI r) K fu (nI i) (pm m j u) = K (pm m' j u)) ∧ (∀ b, b ≠ 212 → m' b = m b) ∧ ∀ k, k < 216 → (bxP ax lo hi k → m' 212 k = nI (sd (216 * r + k)).toNat) ∧ (¬ bxP ax lo hi k → m' 212 k = nI 0) := by
  intro d
  induction d with
  | zero =>
    intro i fu m hi' hfu hR hB hA
    obtain ⟨fu, rfl⟩ : ∃ g, fu = g + 1 := ⟨fu - 1, by omega⟩
    have e : i = 216 := by omega
    subst e
    refine ⟨m, fun K => ?_, fun _ _ => rfl, hA⟩
    simp (disch := omega) only [F_X12_setPart_L55, e_cl, e_jn, e_lt, e_cxl, e_cxr, e_rzn, ↓l_m1, ↓l_m2, ↓l_m8, l_0, l_1, l_2, l_3, l_4, l_5, l_6, l_7, l_8, l_9, l_10, l_12, l_16, l_20, l_24, l_31, l_32, l_35, l_36, l_40, l_44, l_48, l_59, l_63, l_64, l_90, l_95, l_96, l_100, l_120, l_127, l_200, l_216, l_255, l_999, l_1000, l_10000, l_1000000, l_1048575, l_1000000000, nI_add, pk_mul, pk_sub, nI_leI, nI_ltI, nI_eq, nI_dec, nI_o0, mx_n, mn_n, ab_1, ab_n, e_u2e, e_u2k, e_u2a, if_pos, if_neg, if_true, if_false, not_true, not_false_eq_true, ne_eq, Nat.add_zero, Nat.zero_add]
  | succ d ih =>
    intro i fu m hi' hfu hR hB hA
    obtain ⟨fu, rfl⟩ : ∃ g, fu = g + 1 := ⟨fu - 1, by omega⟩
    obtain ⟨a1, a2⟩ := hB 0 (by decide)
    obtain ⟨a3, a4⟩ := hB 1 (by decide)
    obtain ⟨a5, a6⟩ := hB 2 (by decide)
    have hsd := hR.2.2 (216 * r + i) (by omega)
    have hsd : m 201 (216 * r + i) = nI (sd (216 * r + i)).toNat := by rw [hsd]; cases sd (216 * r + i) <;> rfl
    have go : ∀ v : Int32, (bxP ax lo hi i → v = nI (sd (216 * r + i)).toNat) → (¬ bxP ax lo hi i → v = nI 0) → (∀ K, F_X12_setPart_L55 200 (nI r) K (fu + 1) (nI i) (pm m j u) = F_X12_setPart_L55 200 (nI r) K fu (nI (i + 1)) (pm (u2 m 212 i v) j u)) → ∃ m', (∀ K, F_X12_setPart_L55 200 (nI r) K (fu + 1) (nI i) (pm m j u) = K (pm m' j u)) ∧ (∀ b, b ≠ 212 → m' b = m b) ∧ ∀ k, k < 216 → (bxP ax lo hi k → m' 212 k = nI (sd (216 * r + k)).toNat) ∧ (¬ bxP ax lo hi k → m' 212 k = nI 0) := fun v v1 v2 v3 => by
      obtain ⟨m', i1, i2, i3⟩ := ih (i + 1) fu (u2 m 212 i v) (by omega) (by omega) (by unfold RAr; rw [e_u2r (b := 200) (by decide), e_u2r (b := 201) (by decide)]; exact hR) (fun b hb => by rw [e_u2a (by decide), e_u2a (by decide)]; exact hB b hb) (fun k hk => by
        by_cases e : k = i
        · rw [e, e_u2s]; exact ⟨v1, v2⟩
        · rw [e_u2k e]; exact hA k (by omega))
      exact ⟨m', fun K => by rw [v3 K, i1 K], fun b hb => by rw [i2 b hb, e_u2r hb], i3⟩
    have zz := fun K => R_spStep (j := j) (fu := fu) (v := (sd (216 * r + i)).toNat) hs K hr (show i < 216 by omega) (show (if 0 = ax then lo else 0) ≤ 6 by split <;> omega) (show (if 0 = ax then hi else 5) ≤ 6 by split <;> omega) (show (if 1 = ax then lo else 0) ≤ 6 by split <;> omega) (show (if 1 = ax then hi else 5) ≤ 6 by split <;> omega) (show (if 2 = ax then lo else 0) ≤ 6 by split <;> omega) (show (if 2 = ax then hi else 5) ≤ 6 by split <;> omega) a1 a2 a3 a4 a5 a6 hsd
    by_cases c : bxP ax lo hi i
    · exact go _ (fun _ => rfl) (fun z => absurd c z) (fun K => (zz K).1 c)
    · exact go _ (fun z => absurd z c) (fun _ => rfl) (fun K => (zz K).2 c)
theorem R_setPart (hs : RS u) {r nR ax lo hi : Nat} {sd : Nat → Bool} {A : Int32} (hA : ∀ a, a < 3 → (nI a = A ↔ a = ax)) (hr : r < 10) (hlo : lo ≤ 6) (hhi : hi ≤ 6) (hR : RAr m nR sd) (S' : Nat → Bool) (hS : ∀ i, i < 216 → (bxP ax lo hi i → S' i = sd (216 * r + i)) ∧ (¬ bxP ax lo hi i → S' i = false)) : ∃ m', F_X12_setPart 200 (nI r) A (nI lo) (nI hi) (pm m j u) = some ((), pm m' j u) ∧ (∀ b, b ≠ 210 → b ≠ 211 → b ≠ 212 → m' b = m b) ∧ PT m' S' := by
  obtain ⟨m1, a1, a2, a3⟩ := R_sp3 (j := j) (c1 := nI r) (lo := lo) (hi := hi) hs hA 3 0 LF m (by omega) (by unfold LF; omega) (fun b hb => by omega)
  obtain ⟨m2, b1, b2, b3⟩ := R_sp55 (j := j) hs hr hlo hhi 216 0 LF m1 (by omega) (by unfold LF; omega) (show RAr m1 nR sd by unfold RAr; rw [a2 200 (by decide) (by decide), a2 201 (by decide) (by decide)]; exact hR) a3 (fun k hk => by omega)
  refine ⟨m2, ?_, fun b g1 g2 g3 => by rw [b2 b g3, a2 b g1 g2], fun i hi' => ?_⟩
  · unfold F_X12_setPart
    simp (disch := omega) only [e_cl, e_jn, e_lt, e_cxl, e_cxr, e_rzn, ↓l_m1, ↓l_m2, ↓l_m8, l_0, l_1, l_2, l_3, l_4, l_5, l_6, l_7, l_8, l_9, l_10, l_12, l_16, l_20, l_24, l_31, l_32, l_35, l_36, l_40, l_44, l_48, l_59, l_63, l_64, l_90, l_95, l_96, l_100, l_120, l_127, l_200, l_216, l_255, l_999, l_1000, l_10000, l_1000000, l_1048575, l_1000000000, nI_add, pk_mul, pk_sub, nI_leI, nI_ltI, nI_eq, nI_dec, nI_o0, mx_n, mn_n, ab_1, ab_n, e_u2e, e_u2k, e_u2a, if_pos, if_neg, if_true, if_false, not_true, not_false_eq_true, ne_eq, Nat.add_zero, Nat.zero_add, a1, b1]
  · by_cases c : bxP ax lo hi i
    · rw [(b3 i hi').1 c, (hS i hi').1 c]
    · rw [(b3 i hi').2 c, (hS i hi').2 c]; rfl
theorem bx_whole {i : Nat} (hi : i < 216) : bxP 3 0 5 i := by
  unfold bxP
  simp only [if_neg (show ¬ 0 = 3 by decide), if_neg (show ¬ 1 = 3 by decide), if_neg (show ¬ 2 = 3 by decide)]
  omega
theorem ax_none : ∀ a, a < 3 → (nI a = oI 0 ↔ a = 3) := fun a ha => by
  rw [nI_o0 (show a < 2 ^ 31 by omega)]
  exact ⟨fun z => z.elim, fun z => by omega⟩
theorem ax_some {ax : Nat} (h : ax < 3) : ∀ a, a < 3 → (nI a = nI ax ↔ a = ax) := fun a ha => nI_eq (by omega) (by omega)
theorem bx_in {ax lo hi i : Nat} (hax : ax < 3) (hi' : i < 216) : bxP ax lo hi i ↔ lo ≤ coo ax i ∧ coo ax i ≤ hi := by
  unfold bxP
  rcases (show ax = 0 ∨ ax = 1 ∨ ax = 2 by omega) with rfl | rfl | rfl
  · rw [coo_0]
    simp only [if_true, if_neg (show ¬ 1 = 0 by decide), if_neg (show ¬ 2 = 0 by decide)]
    omega
  · rw [coo_1]
    simp only [if_true, if_neg (show ¬ 0 = 1 by decide), if_neg (show ¬ 2 = 1 by decide)]
    omega
  · rw [coo_2]
    simp only [if_true, if_neg (show ¬ 0 = 2 by decide), if_neg (show ¬ 1 = 2 by decide)]
    omega
/-- the whole -/
theorem R_partW (hs : RS u) {r nR : Nat} {sd : Nat → Bool} (hr : r < 10) (hR : RAr m nR sd) : ∃ m', F_X12_setPart 200 (nI r) (oI 0) (nI 0) (nI 5) (pm m j u) = some ((), pm m' j u) ∧ (∀ b, b ≠ 210 → b ≠ 211 → b ≠ 212 → m' b = m b) ∧ PT m' (rgh sd r) ∧ PT m' (prt (rgh sd r) 0) := by
  obtain ⟨m', a1, a2, a3⟩ := R_setPart (j := j) hs ax_none hr (by omega) (by omega) hR (rgh sd r) (fun i hi => ⟨fun _ => rfl, fun z => absurd (bx_whole hi) z⟩)
  refine ⟨m', a1, a2, a3, fun i hi => ?_⟩
  rw [a3 i hi]
  congr 2
  unfold prt inP
  have e : ptA 0 = 2 := rfl
  have e1 : ptL 0 = 0 := rfl
  have e2 : ptH 0 = 6 := rfl
  rw [e, e1, e2, coo_2, decide_eq_true (Nat.zero_le _), decide_eq_true (by omega : i / 36 ≤ 6 - 1), Bool.and_true, Bool.and_true]
theorem R_partP (hs : RS u) {r nR ax lo hi : Nat} {sd : Nat → Bool} (hr : r < 10) (hax : ax < 3) (hlo : lo ≤ 6) (hhi : hi ≤ 6) (hR : RAr m nR sd) : ∃ m', F_X12_setPart 200 (nI r) (nI ax) (nI lo) (nI hi) (pm m j u) = some ((), pm m' j u) ∧ (∀ b, b ≠ 210 → b ≠ 211 → b ≠ 212 → m' b = m b) ∧ PT m' (inP ax lo hi (rgh sd r)) := by
  refine R_setPart (j := j) hs (ax_some hax) hr hlo hhi hR (inP ax lo hi (rgh sd r)) (fun i hi' => ⟨fun z => ?_, fun z => ?_⟩)
  · obtain ⟨z1, z2⟩ := (bx_in hax hi').mp z
    unfold inP
    rw [decide_eq_true z1, decide_eq_true z2, Bool.and_true, Bool.and_true]; rfl
  · exact ts_nt (fun y => z ((bx_in hax hi').mpr (inP_t.mp y).2))
/-! fit -/
def fitN (S : Nat → Bool) (l : List Lay) (w : Nat) : Nat → Nat
  | 0 => 0
  | t + 1 => if fitW S l (t + 1) w < 216 then t + 1 else fitN S l w t
theorem R_fitL (hs : RS u) {q w : Nat} {l : List Lay} {S : Nat → Bool} (h1 : okM l) (h2 : q < 6) (h5 : w < 6) : ∀ (t fu : Nat) (m : IM), t ≤ 6 → t < fu → RM m q l → PT m S →
    ∃ m', (∀ (K1 : PM → Option (Int32 × PM)) (K2 : Int32 → PM → Option (Int32 × PM)), F_X12_fit_L49 200 (nI q) (nI w) K1 K2 fu (nI t) (pm m j u) = if fitN S l w t = 0 then K1 (pm m' j u) else K2 (nI (fitN S l w t)) (pm m' j u)) ∧ (∀ b, b ≠ 200 → b ≠ 213 → b ≠ 214 → m' b = m b) ∧ (∀ k, k ≠ 22 → k ≠ 23 → k ≠ 24 → m' 200 k = m 200 k) := by
  intro t
  induction t with
  | zero =>
    intro fu m ht hfu hR hP
    obtain ⟨fu, rfl⟩ : ∃ g, fu = g + 1 := ⟨fu - 1, by omega⟩
    refine ⟨m, fun K1 K2 => ?_, fun _ _ _ _ => rfl, fun _ _ _ _ => rfl⟩
    rw [show fitN S l w 0 = 0 from rfl, if_pos rfl, F_X12_fit_L49]
    simp (disch := omega) only [e_cl, e_jn, e_lt, e_cxl, e_cxr, e_rzn, ↓l_m1, ↓l_m2, ↓l_m8, l_0, l_1, l_2, l_3, l_4, l_5, l_6, l_7, l_8, l_9, l_10, l_12, l_16, l_20, l_24, l_31, l_32, l_35, l_36, l_40, l_44, l_48, l_59, l_63, l_64, l_90, l_95, l_96, l_100, l_120, l_127, l_200, l_216, l_255, l_999, l_1000, l_10000, l_1000000, l_1048575, l_1000000000, nI_add, pk_mul, pk_sub, nI_leI, nI_ltI, nI_eq, nI_dec, nI_o0, mx_n, mn_n, ab_1, ab_n, e_u2e, e_u2k, e_u2a, if_pos, if_neg, if_true, if_false, not_true, not_false_eq_true, ne_eq, Nat.add_zero, Nat.zero_add]
  | succ t ih =>
    intro fu m ht hfu hR hP
    obtain ⟨fu, rfl⟩ : ∃ g, fu = g + 1 := ⟨fu - 1, by omega⟩
    obtain ⟨m1, a1, a2, a3, -⟩ := R_isFitting (j := j) hs h1 h2 (show 1 ≤ t + 1 by omega) ht h5 hR hP
    by_cases c : fitW S l (t + 1) w < 216
    · refine ⟨m1, fun K1 K2 => ?_, a2, a3⟩
      rw [fitN, if_pos c, if_neg (by omega), F_X12_fit_L49]
      rw [decide_eq_true c] at a1
      simp (disch := omega) only [e_cl, e_jn, e_lt, e_cxl, e_cxr, e_rzn, ↓l_m1, ↓l_m2, ↓l_m8, l_0, l_1, l_2, l_3, l_4, l_5, l_6, l_7, l_8, l_9, l_10, l_12, l_16, l_20, l_24, l_31, l_32, l_35, l_36, l_40, l_44, l_48, l_59, l_63, l_64, l_90, l_95, l_96, l_100, l_120, l_127, l_200, l_216, l_255, l_999, l_1000, l_10000, l_1000000, l_1048575, l_1000000000, nI_add, pk_mul, pk_sub, nI_leI, nI_ltI, nI_eq, nI_dec, nI_o0, mx_n, mn_n, ab_1, ab_n, e_u2e, e_u2k, e_u2a, if_pos, if_neg, if_true, if_false, not_true, not_false_eq_true, ne_eq, Nat.add_zero, Nat.zero_add, rP hs, rI hs, rT hs, a1, Bool.toNat_true]
    · obtain ⟨m', i1, i2, i3⟩ := ih fu m1 (by omega) (by omega) (RM_fr hR (a2 _ (by decide) (by decide) (by decide)) (a2 _ (by decide) (by decide) (by decide)) (a2 _ (by decide) (by decide) (by decide)) (a2 _ (by decide) (by decide) (by decide))) (fun i hi => by rw [a2 212 (by decide) (by decide) (by decide)]; exact hP i hi)
      refine ⟨m', fun K1 K2 => ?_, fun b g1 g2 g3 => by rw [i2 b g1 g2 g3, a2 b g1 g2 g3], fun k g1 g2 g3 => by rw [i3 k g1 g2 g3, a3 k g1 g2 g3]⟩
      rw [fitN, if_neg c, ← i1 K1 K2, F_X12_fit_L49]
      rw [decide_eq_false c] at a1
      simp (disch := omega) only [e_cl, e_jn, e_lt, e_cxl, e_cxr, e_rzn, ↓l_m1, ↓l_m2, ↓l_m8, l_0, l_1, l_2, l_3, l_4, l_5, l_6, l_7, l_8, l_9, l_10, l_12, l_16, l_20, l_24, l_31, l_32, l_35, l_36, l_40, l_44, l_48, l_59, l_63, l_64, l_90, l_95, l_96, l_100, l_120, l_127, l_200, l_216, l_255, l_999, l_1000, l_10000, l_1000000, l_1048575, l_1000000000, nI_add, pk_mul, pk_sub, nI_leI, nI_ltI, nI_eq, nI_dec, nI_o0, mx_n, mn_n, ab_1, ab_n, e_u2e, e_u2k, e_u2a, if_pos, if_neg, if_true, if_false, not_true, not_false_eq_true, ne_eq, Nat.add_zero, Nat.zero_add, rP hs, rI hs, rT hs, a1, Bool.toNat_false]
theorem fitN_le (S : Nat → Bool) (l : List Lay) (w : Nat) : ∀ t, fitN S l w t ≤ t
  | 0 => Nat.le_refl _
  | t + 1 => by
    rw [fitN]
    split
    · exact Nat.le_refl _
    · have := fitN_le S l w t; omega
theorem RAm_RM {nM q : Nat} {ly : Nat → List Lay} (hD : MD nM ly) (hA : RAm m nM ly) (hq : q < nM) : RM m q (ly q) := by
  have h := hA.2 q hq
  refine ⟨h.1, tot_216 hD hq, fun k hk => ?_⟩
  have := Cells_cel (ly q) 0 0 h.2 k hk
  rw [Nat.add_zero] at this
  exact this
theorem R_isM_ok (hs : RS u) {nM q : Nat} (h0 : m 200 0 = nI 0) (hn : m 200 7 = nI nM) (hM : nM ≤ 6) (hq : q < nM) : F_X12_isModel 200 (nI q) (pm m j u) = some (nI 1, pm m j u) := by
  simp (disch := omega) only [F_X12_isModel, e_cl, e_jn, e_lt, e_cxl, e_cxr, e_rzn, ↓l_m1, ↓l_m2, ↓l_m8, l_0, l_1, l_2, l_3, l_4, l_5, l_6, l_7, l_8, l_9, l_10, l_12, l_16, l_20, l_24, l_31, l_32, l_35, l_36, l_40, l_44, l_48, l_59, l_63, l_64, l_90, l_95, l_96, l_100, l_120, l_127, l_200, l_216, l_255, l_999, l_1000, l_10000, l_1000000, l_1048575, l_1000000000, nI_add, pk_mul, pk_sub, nI_leI, nI_ltI, nI_eq, nI_dec, nI_o0, mx_n, mn_n, ab_1, ab_n, e_u2e, e_u2k, e_u2a, if_pos, if_neg, if_true, if_false, not_true, not_false_eq_true, ne_eq, Nat.add_zero, Nat.zero_add, rP hs, rI hs, rT hs, R_within, hn, R_may1n hs h0]
theorem R_isM_no (hs : RS u) {nM : Nat} {x : Int32} (h0 : m 200 0 = nI 0) (hn : m 200 7 = nI nM) (hM : nM ≤ 6) (hq : ¬ ∃ r, r < nM ∧ x = nI r) : F_X12_isModel 200 x (pm m j u) = some (nI 0, pm (u2 m 200 0 (nI 2)) j u) := by
  have h := lt_of_not (by omega : nM < 2 ^ 31) hq
  simp (disch := omega) only [F_X12_isModel, rI hs, rT hs, hn, R_within, if_pos h, e_cl]
  rw [show (0 : Int32) = nI 0 from rfl, show (2 : Int32) = nI 2 from rfl, R_may0n hs h0 (by decide) (by decide)]
  rfl
end RCUT
