/-! ===== the reference: fit; the cut of a part ===== -/
section RCUT2
variable {m : IM} {j : JM} {u : SU}
theorem okM_of {nM q : Nat} {ly : Nat → List Lay} (hD : MD nM ly) (hq : q < nM) : okM (ly q) := hD.2 q hq
theorem R_fit1 (hs : RS u) {nR : Nat} {sd : Nat → Bool} (hA : RAr m nR sd) {x y z : Int32} (hx : ¬ ∃ r, r < nR ∧ x = nI r) : F_X12_fit 200 x y z (pm m j u) = some (0, pm (u2 (u2 m 200 0 0) 200 0 1) j u) := by
  obtain ⟨hn, h1, -⟩ := hA
  simp (disch := omega) only [F_X12_fit, rP hs, rI hs, rT hs, e_cl, e_jn, e_lt, e_rz0, e_rz1, e_u2s, e_u2k, e_u2a, R_within, i10, i00, i01, if_true, if_false, not_true, not_false_eq_true, ne_eq, R_isR_no hs th0 (show u2 m 200 0 0 200 1 = nI nR by rw [e_u2k (by decide)]; exact h1) hn hx]
theorem R_fit2 (hs : RS u) {nR nM r : Nat} {sd : Nat → Bool} (hA : RAr m nR sd) (hr : r < nR) (hM : m 200 7 = nI nM) (hn : nM ≤ 6) {y z : Int32} (hy : ¬ ∃ r, r < nM ∧ y = nI r) : F_X12_fit 200 (nI r) y z (pm m j u) = some (0, pm (u2 (u2 m 200 0 0) 200 0 2) j u) := by
  obtain ⟨hnR, h1, -⟩ := hA
  have e := R_isM_no (j := j) (m := u2 m 200 0 0) hs th0 (show u2 m 200 0 0 200 7 = nI nM by rw [e_u2k (by decide)]; exact hM) hn hy
  simp (disch := omega) only [F_X12_fit, rP hs, rI hs, rT hs, e_cl, e_jn, e_lt, e_rz0, e_rz1, e_u2s, e_u2k, e_u2a, R_within, i10, i00, i01, if_true, if_false, not_true, not_false_eq_true, ne_eq, R_isR_ok hs th0 (show u2 m 200 0 0 200 1 = nI nR by rw [e_u2k (by decide)]; exact h1) hnR hr, e, nI_0]
  rfl
theorem R_fit3 (hs : RS u) {nR nM r q : Nat} {sd : Nat → Bool} (hA : RAr m nR sd) (hr : r < nR) (hM : m 200 7 = nI nM) (hn : nM ≤ 6) (hq : q < nM) {z : Int32} (hz : z < 0 ∨ 5 < z) : F_X12_fit 200 (nI r) (nI q) z (pm m j u) = some (0, pm (u2 (u2 m 200 0 0) 200 0 3) j u) := by
  obtain ⟨hnR, h1, -⟩ := hA
  have e := R_isM_ok (j := j) (m := u2 m 200 0 0) hs th0 (show u2 m 200 0 0 200 7 = nI nM by rw [e_u2k (by decide)]; exact hM) hn hq
  have e1 : ¬ nI 1 = 0 := by decide
  simp (disch := omega) only [F_X12_fit, rP hs, rI hs, rT hs, e_cl, e_jn, e_lt, e_rz0, e_rz1, e_u2s, e_u2k, e_u2a, R_within, i10, i00, i01, if_true, if_false, not_true, not_false_eq_true, ne_eq, R_isR_ok hs th0 (show u2 m 200 0 0 200 1 = nI nR by rw [e_u2k (by decide)]; exact h1) hnR hr, e, if_neg e1, if_pos hz, R_may0 hs th0 (show (3 : Int32) ≠ 0 by decide)]
theorem R_fit4 (hs : RS u) {nR nM r q w : Nat} {sd : Nat → Bool} {ly : Nat → List Lay} (hA : RAr m nR sd) (hr : r < nR) (hD : MD nM ly) (hM : RAm m nM ly) (hq : q < nM) (hw : w < 6) : ∃ m', F_X12_fit 200 (nI r) (nI q) (nI w) (pm m j u) = some (nI (fitN (rgh sd r) (ly q) w 6), pm m' j u) ∧ m' 200 0 = 0 ∧ Fr [210, 211, 212, 213, 214] [0, 22, 23, 24] m m' := by
  have hnR := hA.1
  have hn := hD.1
  have e := R_isM_ok (j := j) (m := u2 m 200 0 0) hs th0 (show u2 m 200 0 0 200 7 = nI nM by rw [e_u2k (by decide)]; exact hM.1) hn hq
  have er := R_isR_ok (j := j) (m := u2 m 200 0 0) hs th0 (show u2 m 200 0 0 200 1 = nI nR by rw [e_u2k (by decide)]; exact hA.2.1) hnR hr
  have hA0 : RAr (u2 m 200 0 0) nR sd := RAr_fr hA (Fr.fld (A := []) (K := [0]) (by decide)) (by decide) (by decide)
  have hM0 : RM (u2 m 200 0 0) q (ly q) := RAm_RM hD (RAm_fr hM (Fr.fld (A := []) (K := [0]) (by decide)) (by decide) (by decide)) hq
  obtain ⟨m1, a1, a2, a3, -⟩ := R_partW (j := j) hs (show r < 10 by omega) hA0
  obtain ⟨m2, b1, b2, b3⟩ := R_fitL (j := j) hs (okM_of hD hq) (show q < 6 by omega) hw 6 LF m1 (by omega) (by unfold LF; omega) (RM_fr hM0 (a2 _ (by decide) (by decide) (by decide)) (a2 _ (by decide) (by decide) (by decide)) (a2 _ (by decide) (by decide) (by decide)) (a2 _ (by decide) (by decide) (by decide))) a3
  refine ⟨m2, ?_, ?_, ⟨fun x h1 h2 => ?_, fun k hk => ?_⟩⟩
  · have e1 : ¬ nI 1 = 0 := by decide
    have l5 : (5 : Int32) = nI 5 := rfl
    have ew : ¬ (nI w < 0 ∨ 5 < nI w) := nx_in (lo := 0) (hi := 5) (by omega) (by omega) (by decide)
    unfold F_X12_fit
    rw [rP hs, rT hs, er, e_cl, e_jn, if_neg (show ¬ (1 : Int32) = 0 by decide), rT hs, e, e_cl, if_neg e1, R_within, if_neg ew, e_cl, rT hs, R_may1 hs th0, e_cl, if_pos (show ¬ (1 : Int32) = 0 by decide), rT hs, l_m1, show (0 : Int32) = nI 0 from rfl, show (5 : Int32) = nI 5 from rfl, show (6 : Int32) = nI 6 from rfl]
    rw [show (0 : Int32) = nI 0 from rfl] at a1
    rw [a1, e_cl, e_jn, e_jn, b1]
    by_cases c : fitN (rgh sd r) (ly q) w 6 = 0
    · rw [if_pos c, c]
    · rw [if_neg c]
  · rw [b3 0 (by decide) (by decide) (by decide), a2 200 (by decide) (by decide) (by decide)]; exact th0
  · simp only [List.mem_cons, List.not_mem_nil, or_false, not_or] at h1
    rw [b2 x h2 h1.2.2.2.1 h1.2.2.2.2, a2 x h1.1 h1.2.1 h1.2.2.1, e_u2r h2]
  · simp only [List.mem_cons, List.not_mem_nil, or_false, not_or] at hk
    rw [b3 k hk.2.1 hk.2.2.1 hk.2.2.2, a2 200 (by decide) (by decide) (by decide), e_u2k hk.1]
/-! the cut -/
theorem R_L57 (hs : RS u) {q t : Nat} {l : List Lay} {S : Nat → Bool} {c1 c4 : Int32} (h1 : okM l) (h2 : q < 6) (h3 : 1 ≤ t) (h4 : t ≤ 6) : ∀ (d w fu : Nat) (m : IM), w + d = 6 → d < fu → w ≤ way1 S l t → RM m q l → PT m S →
    ∃ m', (∀ K, F_X12_findCut_L57 200 c1 (nI q) (nI t) c4 K fu (nI w) (pm m j u) = K (nI (way1 S l t)) (pm m' j u)) ∧ (∀ b, b ≠ 200 → b ≠ 213 → b ≠ 214 → m' b = m b) ∧ (∀ k, k ≠ 22 → k ≠ 23 → k ≠ 24 → m' 200 k = m 200 k) ∧ (way1 S l t < 6 → m' 200 22 = nI (fitW S l t (way1 S l t) % 6) - nI (t * le_ l (tu (way1 S l t) 0)) ∧ m' 200 23 = nI (fitW S l t (way1 S l t) / 6 % 6) - nI (t * le_ l (tu (way1 S l t) 1)) ∧ m' 200 24 = nI (fitW S l t (way1 S l t) / 36) - nI (t * le_ l (tu (way1 S l t) 2))) := by
  have hle : way1 S l t ≤ 6 := fa_first_le _ _
  intro d
  induction d with
  | zero =>
    intro w fu m hw hfu hwy hR hP
    obtain ⟨fu, rfl⟩ : ∃ g, fu = g + 1 := ⟨fu - 1, by omega⟩
    have e : w = 6 := by omega
    subst e
    have e6 : way1 S l t = 6 := by omega
    refine ⟨m, fun K => ?_, fun _ _ _ _ => rfl, fun _ _ _ _ => rfl, fun z => by omega⟩
    rw [e6, F_X12_findCut_L57]
    simp (disch := omega) only [e_cl, e_jn, e_lt, e_cxl, e_cxr, e_rzn, ↓l_m1, ↓l_m2, ↓l_m8, l_0, l_1, l_2, l_3, l_4, l_5, l_6, l_7, l_8, l_9, l_10, l_12, l_16, l_20, l_24, l_31, l_32, l_35, l_36, l_40, l_44, l_48, l_59, l_63, l_64, l_90, l_95, l_96, l_100, l_120, l_127, l_200, l_216, l_255, l_999, l_1000, l_10000, l_1000000, l_1048575, l_1000000000, nI_add, pk_mul, pk_sub, nI_leI, nI_ltI, nI_eq, nI_dec, nI_o0, mx_n, mn_n, ab_1, ab_n, e_u2e, e_u2k, e_u2a, if_pos, if_neg, if_true, if_false, not_true, not_false_eq_true, ne_eq, Nat.add_zero, Nat.zero_add]
  | succ d ih =>
    intro w fu m hw hfu hwy hR hP
    obtain ⟨fu, rfl⟩ : ∃ g, fu = g + 1 := ⟨fu - 1, by omega⟩
    obtain ⟨m1, a1, a2, a3, a4⟩ := R_isFitting (j := j) hs h1 h2 h3 h4 (show w < 6 by omega) hR hP
    by_cases c : fitW S l t w < 216
    · have hno : ∀ i, i < way1 S l t → decide (fitW S l t i < 216) = false := fun i hi => fa_first_no (fun w => decide (fitW S l t w < 216)) 6 i hi
      have ew : way1 S l t = w := ff_eq (p := fun w => decide (fitW S l t w < 216)) (n := 6) (by omega) (decide_eq_true c) (fun i hi => hno i (by omega))
      refine ⟨m1, fun K => ?_, a2, a3, fun _ => by rw [ew]; exact a4 c⟩
      rw [ew, F_X12_findCut_L57]
      rw [decide_eq_true c] at a1
      simp (disch := omega) only [e_cl, e_jn, e_lt, e_cxl, e_cxr, e_rzn, ↓l_m1, ↓l_m2, ↓l_m8, l_0, l_1, l_2, l_3, l_4, l_5, l_6, l_7, l_8, l_9, l_10, l_12, l_16, l_20, l_24, l_31, l_32, l_35, l_36, l_40, l_44, l_48, l_59, l_63, l_64, l_90, l_95, l_96, l_100, l_120, l_127, l_200, l_216, l_255, l_999, l_1000, l_10000, l_1000000, l_1048575, l_1000000000, nI_add, pk_mul, pk_sub, nI_leI, nI_ltI, nI_eq, nI_dec, nI_o0, mx_n, mn_n, ab_1, ab_n, e_u2e, e_u2k, e_u2a, if_pos, if_neg, if_true, if_false, not_true, not_false_eq_true, ne_eq, Nat.add_zero, Nat.zero_add, rP hs, rI hs, rT hs, a1, Bool.toNat_true]
    · have hne : way1 S l t ≠ w := fun z => by
        have := fa_first_yes (fun w => decide (fitW S l t w < 216)) 6 (show way1 S l t < 6 by omega)
        have this := of_decide_eq_true this
        rw [show fa_first (fun w => decide (fitW S l t w < 216)) 6 = w from z] at this
        exact c this
      obtain ⟨m', i1, i2, i3, i4⟩ := ih (w + 1) fu m1 (by omega) (by omega) (by omega) (RM_fr hR (a2 _ (by decide) (by decide) (by decide)) (a2 _ (by decide) (by decide) (by decide)) (a2 _ (by decide) (by decide) (by decide)) (a2 _ (by decide) (by decide) (by decide))) (fun i hi => by rw [a2 212 (by decide) (by decide) (by decide)]; exact hP i hi)
      refine ⟨m', fun K => ?_, fun b g1 g2 g3 => by rw [i2 b g1 g2 g3, a2 b g1 g2 g3], fun k g1 g2 g3 => by rw [i3 k g1 g2 g3, a3 k g1 g2 g3], i4⟩
      rw [← i1 K, F_X12_findCut_L57]
      rw [decide_eq_false c] at a1
      simp (disch := omega) only [e_cl, e_jn, e_lt, e_cxl, e_cxr, e_rzn, ↓l_m1, ↓l_m2, ↓l_m8, l_0, l_1, l_2, l_3, l_4, l_5, l_6, l_7, l_8, l_9, l_10, l_12, l_16, l_20, l_24, l_31, l_32, l_35, l_36, l_40, l_44, l_48, l_59, l_63, l_64, l_90, l_95, l_96, l_100, l_120, l_127, l_200, l_216, l_255, l_999, l_1000, l_10000, l_1000000, l_1048575, l_1000000000, nI_add, pk_mul, pk_sub, nI_leI, nI_ltI, nI_eq, nI_dec, nI_o0, mx_n, mn_n, ab_1, ab_n, e_u2e, e_u2k, e_u2a, if_pos, if_neg, if_true, if_false, not_true, not_false_eq_true, ne_eq, Nat.add_zero, Nat.zero_add, rP hs, rI hs, rT hs, a1, Bool.toNat_false]
def CM (m : IM) (ct : CT) : Prop := ct.1 ≠ 0 → ∀ k, k < 7 → m 215 k = ct.2 k
theorem bk_yes {pf : Nat → Nat} {w : Nat} : ∀ n, bk pf w n ≠ 0 → bk pf w n - 1 < n := fun n h => by have := bk_le pf w n; omega
theorem wOf_le {ps w : Nat} {pf pp : Nat → Nat} (hD : PD ps pf pp) (hw : w ≤ 216) : wOf ps pf pp w ≤ 2160000 := by
  unfold wOf
  split
  · omega
  · next h =>
    have h1 := (hD.2.1 (bk pf w ps - 1) (bk_yes ps h)).2.2
    have := Nat.mul_le_mul hw h1
    omega
theorem R_L15 (hs : RS u) {q ps nM : Nat} {ly : Nat → List Lay} {S : Nat → Bool} {pf pp : Nat → Nat} (hD : MD nM ly) (hq : q < nM) (hPD : PD ps pf pp) : ∀ (t fu : Nat) (m : IM) (ct : CT), t ≤ 6 → t < fu → RAm m nM ly → PT m S → RAp m ps pf pp → CM m ct → ct.1 ≤ 2160000 →
    ∃ m', (∀ K, F_X12_findCut_L15 200 (nI q) K fu (nI ct.1) (nI t) (pm m j u) = K (nI (dnT (wOf ps pf pp) S q (ly q) t ct).1) (pm m' j u)) ∧ Fr [213, 214, 215] [22, 23, 24] m m' ∧ CM m' (dnT (wOf ps pf pp) S q (ly q) t ct) ∧ (dnT (wOf ps pf pp) S q (ly q) t ct).1 ≤ 2160000 := by
  have hM := okM_of hD hq
  have hq6 : q < 6 := by have := hD.1; omega
  have htot := tot_216 hD hq
  intro t
  induction t with
  | zero =>
    intro fu m ct ht hfu hR hP hA hC hct
    obtain ⟨fu, rfl⟩ : ∃ g, fu = g + 1 := ⟨fu - 1, by omega⟩
    refine ⟨m, fun K => ?_, Fr.rf m, hC, hct⟩
    rw [dnT, F_X12_findCut_L15]
    simp (disch := omega) only [e_cl, e_jn, e_lt, e_cxl, e_cxr, e_rzn, ↓l_m1, ↓l_m2, ↓l_m8, l_0, l_1, l_2, l_3, l_4, l_5, l_6, l_7, l_8, l_9, l_10, l_12, l_16, l_20, l_24, l_31, l_32, l_35, l_36, l_40, l_44, l_48, l_59, l_63, l_64, l_90, l_95, l_96, l_100, l_120, l_127, l_200, l_216, l_255, l_999, l_1000, l_10000, l_1000000, l_1048575, l_1000000000, nI_add, pk_mul, pk_sub, nI_leI, nI_ltI, nI_eq, nI_dec, nI_o0, mx_n, mn_n, ab_1, ab_n, e_u2e, e_u2k, e_u2a, if_pos, if_neg, if_true, if_false, not_true, not_false_eq_true, ne_eq, Nat.add_zero, Nat.zero_add]
  | succ t ih =>
    intro fu m ct ht hfu hR hP hA hC hct
    obtain ⟨fu, rfl⟩ : ∃ g, fu = g + 1 := ⟨fu - 1, by omega⟩
    have hw1 := (RAm_RM hD hR hq).1
    have hb : tot (ly q) * (t + 1) * (t + 1) * (t + 1) ≤ 216 * 6 * 6 * 6 := Nat.mul_le_mul (Nat.mul_le_mul (Nat.mul_le_mul htot (by omega)) (by omega)) (by omega)
    rw [dnT]
    have skip : stT (wOf ps pf pp) S q (ly q) (t + 1) ct = ct → (∀ K, F_X12_findCut_L15 200 (nI q) K (fu + 1) (nI ct.1) (nI (t + 1)) (pm m j u) = F_X12_findCut_L15 200 (nI q) K fu (nI ct.1) (nI t) (pm m j u)) → ∃ m', (∀ K, F_X12_findCut_L15 200 (nI q) K (fu + 1) (nI ct.1) (nI (t + 1)) (pm m j u) = K (nI (dnT (wOf ps pf pp) S q (ly q) t (stT (wOf ps pf pp) S q (ly q) (t + 1) ct)).1) (pm m' j u)) ∧ Fr [213, 214, 215] [22, 23, 24] m m' ∧ CM m' (dnT (wOf ps pf pp) S q (ly q) t (stT (wOf ps pf pp) S q (ly q) (t + 1) ct)) ∧ (dnT (wOf ps pf pp) S q (ly q) t (stT (wOf ps pf pp) S q (ly q) (t + 1) ct)).1 ≤ 2160000 := fun e1 e2 => by
      rw [e1]
      obtain ⟨m', i1, i2⟩ := ih fu m ct (by omega) (by omega) hR hP hA hC hct
      exact ⟨m', fun K => by rw [e2 K, i1 K], i2⟩
    by_cases c1 : 216 < tot (ly q) * (t + 1) * (t + 1) * (t + 1)
    · refine skip (if_neg (fun z => by have := (way_216 hM z.2).2; omega)) (fun K => ?_)
      rw [F_X12_findCut_L15]
      simp (disch := omega) only [e_cl, e_jn, e_lt, e_cxl, e_cxr, e_rzn, ↓l_m1, ↓l_m2, ↓l_m8, l_0, l_1, l_2, l_3, l_4, l_5, l_6, l_7, l_8, l_9, l_10, l_12, l_16, l_20, l_24, l_31, l_32, l_35, l_36, l_40, l_44, l_48, l_59, l_63, l_64, l_90, l_95, l_96, l_100, l_120, l_127, l_200, l_216, l_255, l_999, l_1000, l_10000, l_1000000, l_1048575, l_1000000000, nI_add, pk_mul, pk_sub, nI_leI, nI_ltI, nI_eq, nI_dec, nI_o0, mx_n, mn_n, ab_1, ab_n, e_u2e, e_u2k, e_u2a, if_pos, if_neg, if_true, if_false, not_true, not_false_eq_true, ne_eq, Nat.add_zero, Nat.zero_add, rP hs, rI hs, rT hs, rR_9 hs, rA_203 hs, rS_203 hs, hw1]
    · have hX : tot (ly q) * (t + 1) * (t + 1) * (t + 1) ≤ 216 := by omega
      have hwo := fun (m : IM) (hA : RAp m ps pf pp) => R_worthOf (j := j) hs hPD hA (show tot (ly q) * (t + 1) * (t + 1) * (t + 1) < 2 ^ 31 by omega)
      have hwm := hwo m hA
      have hwb := wOf_le hPD hX
      by_cases c2 : ct.1 < wOf ps pf pp (tot (ly q) * (t + 1) * (t + 1) * (t + 1))
      · obtain ⟨m1, a1, a2, a3, a4⟩ := R_L57 (j := j) (S := S) (c1 := nI ct.1) (c4 := nI (tot (ly q) * (t + 1) * (t + 1) * (t + 1))) hs hM hq6 (show 1 ≤ t + 1 by omega) ht 6 0 LF m (by omega) (by unfold LF; omega) (by omega) (RAm_RM hD hR hq) hP
        have hF1 : Fr [213, 214, 215] [22, 23, 24] m m1 := by
          refine ⟨fun x h1 h2 => ?_, fun k hk => ?_⟩
          · simp only [List.mem_cons, List.not_mem_nil, or_false, not_or] at h1
            exact a2 x h2 h1.1 h1.2.1
          · simp only [List.mem_cons, List.not_mem_nil, or_false, not_or] at hk
            exact a3 k hk.1 hk.2.1 hk.2.2
        have hA1 : RAp m1 ps pf pp := RAp_fr hA hF1 (by decide) (by decide) (by decide)
        have hw2 := hwo m1 hA1
        have hwl : way1 S (ly q) (t + 1) ≤ 6 := fa_first_le _ _
        by_cases c3 : way1 S (ly q) (t + 1) < 6
        · obtain ⟨g1, g2, g3⟩ := a4 c3
          have est : stT (wOf ps pf pp) S q (ly q) (t + 1) ct = (wOf ps pf pp (tot (ly q) * (t + 1) * (t + 1) * (t + 1)), cfF q (ly q) (t + 1) (way1 S (ly q) (t + 1)) (fitW S (ly q) (t + 1) (way1 S (ly q) (t + 1)))) := if_pos ⟨c2, c3⟩
          rw [est]
          obtain ⟨m2, em2⟩ : ∃ m2, m2 = u2 (u2 (u2 (u2 (u2 (u2 (u2 m1 215 0 (nI q)) 215 1 (nI (t + 1))) 215 2 (nI (way1 S (ly q) (t + 1)))) 215 3 (nI (fitW S (ly q) (t + 1) (way1 S (ly q) (t + 1)) % 6) - nI ((t + 1) * le_ (ly q) (tu (way1 S (ly q) (t + 1)) 0)))) 215 4 (nI (fitW S (ly q) (t + 1) (way1 S (ly q) (t + 1)) / 6 % 6) - nI ((t + 1) * le_ (ly q) (tu (way1 S (ly q) (t + 1)) 1)))) 215 5 (nI (fitW S (ly q) (t + 1) (way1 S (ly q) (t + 1)) / 36) - nI ((t + 1) * le_ (ly q) (tu (way1 S (ly q) (t + 1)) 2)))) 215 6 (nI (tot (ly q) * (t + 1) * (t + 1) * (t + 1))) := ⟨_, rfl⟩
          have k2 : ∀ b, b ≠ 215 → m2 b = m1 b := fun b hb => by rw [em2, e_u2r hb, e_u2r hb, e_u2r hb, e_u2r hb, e_u2r hb, e_u2r hb, e_u2r hb]
          have hF2 : Fr [213, 214, 215] [22, 23, 24] m m2 := by
            refine hF1.tr ⟨fun x h1 h2 => ?_, fun k hk => by rw [k2 200 (by decide)]⟩
            simp only [List.mem_cons, List.not_mem_nil, or_false, not_or] at h1
            exact k2 x h1.2.2
          obtain ⟨m', i1, i2, i3, i4⟩ := ih fu m2 (wOf ps pf pp (tot (ly q) * (t + 1) * (t + 1) * (t + 1)), cfF q (ly q) (t + 1) (way1 S (ly q) (t + 1)) (fitW S (ly q) (t + 1) (way1 S (ly q) (t + 1)))) (by omega) (by omega) (RAm_fr hR hF2 (by decide) (by decide)) (fun i hi => by rw [hF2.1 212 (by decide) (by decide)]; exact hP i hi) (RAp_fr hA hF2 (by decide) (by decide) (by decide)) (fun _ k hk => by
            rw [em2]
            rcases (show k = 0 ∨ k = 1 ∨ k = 2 ∨ k = 3 ∨ k = 4 ∨ k = 5 ∨ k = 6 by omega) with rfl | rfl | rfl | rfl | rfl | rfl | rfl <;> (simp (disch := omega) only [e_u2k, e_u2s] <;> rfl)) hwb
          refine ⟨m', fun K => ?_, hF2.tr i2, i3, i4⟩
          rw [← i1 K, em2, F_X12_findCut_L15]
          simp (disch := omega) only [e_cl, e_jn, e_lt, e_cxl, e_cxr, e_rzn, ↓l_m1, ↓l_m2, ↓l_m8, l_0, l_1, l_2, l_3, l_4, l_5, l_6, l_7, l_8, l_9, l_10, l_12, l_16, l_20, l_24, l_31, l_32, l_35, l_36, l_40, l_44, l_48, l_59, l_63, l_64, l_90, l_95, l_96, l_100, l_120, l_127, l_200, l_216, l_255, l_999, l_1000, l_10000, l_1000000, l_1048575, l_1000000000, nI_add, pk_mul, pk_sub, nI_leI, nI_ltI, nI_eq, nI_dec, nI_o0, mx_n, mn_n, ab_1, ab_n, e_u2e, e_u2k, e_u2a, if_pos, if_neg, if_true, if_false, not_true, not_false_eq_true, ne_eq, Nat.add_zero, Nat.zero_add, rP hs, rI hs, rT hs, rR_9 hs, rA_203 hs, rS_203 hs, rR_25 hs, rA_215 hs, rS_215 hs, hw1, hwm, a1, hw2, g1, g2, g3]
        · have e6 : way1 S (ly q) (t + 1) = 6 := by omega
          rw [e6] at a1
          have est : stT (wOf ps pf pp) S q (ly q) (t + 1) ct = ct := if_neg (fun z => c3 z.2)
          rw [est]
          obtain ⟨m', i1, i2, i3, i4⟩ := ih fu m1 ct (by omega) (by omega) (RAm_fr hR hF1 (by decide) (by decide)) (fun i hi => by rw [hF1.1 212 (by decide) (by decide)]; exact hP i hi) hA1 (fun z k hk => by rw [a2 215 (by decide) (by decide) (by decide)]; exact hC z k hk) hct
          refine ⟨m', fun K => ?_, hF1.tr i2, i3, i4⟩
          rw [← i1 K, F_X12_findCut_L15]
          simp (disch := omega) only [e_cl, e_jn, e_lt, e_cxl, e_cxr, e_rzn, ↓l_m1, ↓l_m2, ↓l_m8, l_0, l_1, l_2, l_3, l_4, l_5, l_6, l_7, l_8, l_9, l_10, l_12, l_16, l_20, l_24, l_31, l_32, l_35, l_36, l_40, l_44, l_48, l_59, l_63, l_64, l_90, l_95, l_96, l_100, l_120, l_127, l_200, l_216, l_255, l_999, l_1000, l_10000, l_1000000, l_1048575, l_1000000000, nI_add, pk_mul, pk_sub, nI_leI, nI_ltI, nI_eq, nI_dec, nI_o0, mx_n, mn_n, ab_1, ab_n, e_u2e, e_u2k, e_u2a, if_pos, if_neg, if_true, if_false, not_true, not_false_eq_true, ne_eq, Nat.add_zero, Nat.zero_add, rP hs, rI hs, rT hs, rR_9 hs, rA_203 hs, rS_203 hs, hw1, hwm, a1]
      · refine skip (if_neg (fun z => c2 z.1)) (fun K => ?_)
        rw [F_X12_findCut_L15]
        simp (disch := omega) only [e_cl, e_jn, e_lt, e_cxl, e_cxr, e_rzn, ↓l_m1, ↓l_m2, ↓l_m8, l_0, l_1, l_2, l_3, l_4, l_5, l_6, l_7, l_8, l_9, l_10, l_12, l_16, l_20, l_24, l_31, l_32, l_35, l_36, l_40, l_44, l_48, l_59, l_63, l_64, l_90, l_95, l_96, l_100, l_120, l_127, l_200, l_216, l_255, l_999, l_1000, l_10000, l_1000000, l_1048575, l_1000000000, nI_add, pk_mul, pk_sub, nI_leI, nI_ltI, nI_eq, nI_dec, nI_o0, mx_n, mn_n, ab_1, ab_n, e_u2e, e_u2k, e_u2a, if_pos, if_neg, if_true, if_false, not_true, not_false_eq_true, ne_eq, Nat.add_zero, Nat.zero_add, rP hs, rI hs, rT hs, rR_9 hs, rA_203 hs, rS_203 hs, hw1, hwm]
theorem R_L4c (hs : RS u) {ps nM : Nat} {ly : Nat → List Lay} {S : Nat → Bool} {pf pp : Nat → Nat} (hD : MD nM ly) (hPD : PD ps pf pp) : ∀ (d q fu : Nat) (m : IM), q + d = nM → d < fu → RAm m nM ly → PT m S → RAp m ps pf pp → CM m (cutC (wOf ps pf pp) S q ly) → (cutC (wOf ps pf pp) S q ly).1 ≤ 2160000 →
    ∃ m', (∀ K, F_X12_findCut_L4 200 K fu (nI (cutC (wOf ps pf pp) S q ly).1) (nI q) (pm m j u) = K (nI (cutC (wOf ps pf pp) S nM ly).1) (pm m' j u)) ∧ Fr [213, 214, 215] [22, 23, 24] m m' ∧ CM m' (cutC (wOf ps pf pp) S nM ly) ∧ (cutC (wOf ps pf pp) S nM ly).1 ≤ 2160000 := by
  have hn := hD.1
  intro d
  induction d with
  | zero =>
    intro q fu m hq hfu hR hP hA hC hb
    obtain ⟨fu, rfl⟩ : ∃ g, fu = g + 1 := ⟨fu - 1, by omega⟩
    have e : q = nM := by omega
    subst e
    refine ⟨m, fun K => ?_, Fr.rf m, hC, hb⟩
    rw [F_X12_findCut_L4]
    simp (disch := omega) only [e_cl, e_jn, e_lt, e_cxl, e_cxr, e_rzn, ↓l_m1, ↓l_m2, ↓l_m8, l_0, l_1, l_2, l_3, l_4, l_5, l_6, l_7, l_8, l_9, l_10, l_12, l_16, l_20, l_24, l_31, l_32, l_35, l_36, l_40, l_44, l_48, l_59, l_63, l_64, l_90, l_95, l_96, l_100, l_120, l_127, l_200, l_216, l_255, l_999, l_1000, l_10000, l_1000000, l_1048575, l_1000000000, nI_add, pk_mul, pk_sub, nI_leI, nI_ltI, nI_eq, nI_dec, nI_o0, mx_n, mn_n, ab_1, ab_n, e_u2e, e_u2k, e_u2a, if_pos, if_neg, if_true, if_false, not_true, not_false_eq_true, ne_eq, Nat.add_zero, Nat.zero_add, rP hs, rI hs, rT hs, hR.1]
  | succ d ih =>
    intro q fu m hq hfu hR hP hA hC hb
    obtain ⟨fu, rfl⟩ : ∃ g, fu = g + 1 := ⟨fu - 1, by omega⟩
    obtain ⟨m1, a1, a2, a3, a4⟩ := R_L15 (j := j) (S := S) hs hD (show q < nM by omega) hPD 6 LF m (cutC (wOf ps pf pp) S q ly) (by omega) (by unfold LF; omega) hR hP hA hC hb
    have e : cutC (wOf ps pf pp) S (q + 1) ly = dnT (wOf ps pf pp) S q (ly q) 6 (cutC (wOf ps pf pp) S q ly) := rfl
    obtain ⟨m', i1, i2, i3, i4⟩ := ih (q + 1) fu m1 (by omega) (by omega) (RAm_fr hR a2 (by decide) (by decide)) (fun i hi => by rw [a2.1 212 (by decide) (by decide)]; exact hP i hi) (RAp_fr hA a2 (by decide) (by decide) (by decide)) (by rw [e]; exact a3) (by rw [e]; exact a4)
    refine ⟨m', fun K => ?_, a2.tr i2, i3, i4⟩
    rw [← i1 K, e, F_X12_findCut_L4]
    simp (disch := omega) only [e_cl, e_jn, e_lt, e_cxl, e_cxr, e_rzn, ↓l_m1, ↓l_m2, ↓l_m8, l_0, l_1, l_2, l_3, l_4, l_5, l_6, l_7, l_8, l_9, l_10, l_12, l_16, l_20, l_24, l_31, l_32, l_35, l_36, l_40, l_44, l_48, l_59, l_63, l_64, l_90, l_95, l_96, l_100, l_120, l_127, l_200, l_216, l_255, l_999, l_1000, l_10000, l_1000000, l_1048575, l_1000000000, nI_add, pk_mul, pk_sub, nI_leI, nI_ltI, nI_eq, nI_dec, nI_o0, mx_n, mn_n, ab_1, ab_n, e_u2e, e_u2k, e_u2a, if_pos, if_neg, if_true, if_false, not_true, not_false_eq_true, ne_eq, Nat.add_zero, Nat.zero_add, rP hs, rI hs, rT hs, hR.1, a1]
theorem R_findCut (hs : RS u) {ps nM : Nat} {ly : Nat → List Lay} {S : Nat → Bool} {pf pp : Nat → Nat} (hD : MD nM ly) (hPD : PD ps pf pp) (hR : RAm m nM ly) (hP : PT m S) (hA : RAp m ps pf pp) : ∃ m', F_X12_findCut 200 (pm m j u) = some (nI (cutC (wOf ps pf pp) S nM ly).1, pm m' j u) ∧ Fr [213, 214, 215] [22, 23, 24] m m' ∧ CM m' (cutC (wOf ps pf pp) S nM ly) ∧ (cutC (wOf ps pf pp) S nM ly).1 ≤ 2160000 := by
  have hn := hD.1
  obtain ⟨m', a1, a2, a3, a4⟩ := R_L4c (j := j) hs hD hPD nM 0 LF m (by omega) (by unfold LF; omega) hR hP hA (fun z => absurd rfl z) (Nat.zero_le _)
  refine ⟨m', ?_, a2, a3, a4⟩
  unfold F_X12_findCut
  rw [e_jn, show (0 : Int32) = nI 0 from rfl]
  exact a1 _
end RCUT2
