/-! ===== the reference: best, sawn, cut, done ===== -/
abbrev FrC (m m' : IM) : Prop := Fr [210, 211, 212, 213, 214, 215, 216, 217] [0, 22, 23, 24, 28, 29, 30, 31] m m'
section RDONE
variable {m : IM} {j : JM} {u : SU}
theorem QB_0 {nR nM ps : Nat} {sd : Nat → Bool} {ly : Nat → List Lay} {pf pp : Nat → Nat} (h : QB m nR sd nM ly ps pf pp) : QB (u2 m 200 0 0) nR sd nM ly ps pf pp := ⟨RAr_fr h.1 (Fr.fld (A := []) (K := [0]) (by decide)) (by decide) (by decide), RAm_fr h.2.1 (Fr.fld (A := []) (K := [0]) (by decide)) (by decide) (by decide), RAp_fr h.2.2 (Fr.fld (A := []) (K := [0]) (by decide)) (by decide) (by decide) (by decide)⟩
theorem R_fb (hs : RS u) {r nR nM ps : Nat} {sd : Nat → Bool} {ly : Nat → List Lay} {pf pp : Nat → Nat} (hr : r < nR) (hD : MD nM ly) (hPD : PD ps pf pp) (hQ : QB m nR sd nM ly ps pf pp) : F_X12_isRough 200 (nI r) (pm (u2 m 200 0 0) j u) = some (1, pm (u2 m 200 0 0) j u) ∧ ∃ m', F_X12_findBest 200 (nI r) (pm (u2 m 200 0 0) j u) = some ((), pm m' j u) ∧ m' 200 0 = 0 ∧ FrC m m' ∧ BB m' (bestN (wOf ps pf pp) (rgh sd r) nM ly) := by
  have hnR := hQ.1.1
  obtain ⟨m', a1, a2, a3, -⟩ := R_findBest (j := j) hs (show r < 10 by omega) hD hPD (QB_0 hQ)
  refine ⟨R_isR_ok hs th0 (by rw [e_u2k (by decide)]; exact hQ.1.2.1) hnR hr, m', a1, ?_, ?_, a3⟩
  · rw [a2.2 0 (by decide)]; exact th0
  · exact (Fr.fld (A := [210, 211, 212, 213, 214, 215, 216, 217]) (K := [0, 22, 23, 24, 28, 29, 30, 31]) (by decide)).tr (a2.sub (by decide) (by decide))
theorem R_best1 (hs : RS u) {nR : Nat} {sd : Nat → Bool} (hA : RAr m nR sd) {x : Int32} (hx : ¬ ∃ r, r < nR ∧ x = nI r) : F_X12_best 200 x (pm m j u) = some (0, pm (u2 (u2 m 200 0 0) 200 0 1) j u) := by
  simp (disch := omega) only [F_X12_best, rP hs, rI hs, rT hs, e_cl, e_jn, e_lt, e_rz0, e_rz1, e_u2s, e_u2k, e_u2a, R_within, i10, i00, i01, if_true, if_false, not_true, not_false_eq_true, ne_eq, R_isR_no hs th0 (show u2 m 200 0 0 200 1 = nI nR by rw [e_u2k (by decide)]; exact hA.2.1) hA.1 hx]
theorem R_best2 (hs : RS u) {r nR nM ps : Nat} {sd : Nat → Bool} {ly : Nat → List Lay} {pf pp : Nat → Nat} (hr : r < nR) (hD : MD nM ly) (hPD : PD ps pf pp) (hQ : QB m nR sd nM ly ps pf pp) : ∃ m', F_X12_best 200 (nI r) (pm m j u) = some (nI (bestN (wOf ps pf pp) (rgh sd r) nM ly).1, pm m' j u) ∧ m' 200 0 = 0 ∧ FrC m m' := by
  obtain ⟨e, m', a1, a2, a3, a4⟩ := R_fb (j := j) hs hr hD hPD hQ
  refine ⟨m', ?_, a2, a3⟩
  simp (disch := omega) only [F_X12_best, rP hs, rI hs, rT hs, e_cl, e_jn, e_lt, e_rz0, e_rz1, e_u2s, e_u2k, e_u2a, R_within, i10, i00, i01, if_true, if_false, not_true, not_false_eq_true, ne_eq, e, a1, a4.1]
theorem R_sawn1 (hs : RS u) {nR : Nat} {sd : Nat → Bool} (hA : RAr m nR sd) {x y : Int32} (hx : ¬ ∃ r, r < nR ∧ x = nI r) : F_X12_sawn 200 x y (pm m j u) = some (0, pm (u2 (u2 m 200 0 0) 200 0 1) j u) := by
  simp (disch := omega) only [F_X12_sawn, rP hs, rI hs, rT hs, e_cl, e_jn, e_lt, e_rz0, e_rz1, e_u2s, e_u2k, e_u2a, R_within, i10, i00, i01, if_true, if_false, not_true, not_false_eq_true, ne_eq, R_isR_no hs th0 (show u2 m 200 0 0 200 1 = nI nR by rw [e_u2k (by decide)]; exact hA.2.1) hA.1 hx]
theorem R_sawn2 (hs : RS u) {r nR : Nat} {sd : Nat → Bool} (hA : RAr m nR sd) {y : Int32} (hr : r < nR) (hy : y < 0 ∨ 2 < y) : F_X12_sawn 200 (nI r) y (pm m j u) = some (0, pm (u2 (u2 m 200 0 0) 200 0 2) j u) := by
  simp (disch := omega) only [F_X12_sawn, rP hs, rI hs, rT hs, e_cl, e_jn, e_lt, e_rz0, e_rz1, e_u2s, e_u2k, e_u2a, R_within, i10, i00, i01, if_true, if_false, not_true, not_false_eq_true, ne_eq, R_isR_ok hs th0 (show u2 m 200 0 0 200 1 = nI nR by rw [e_u2k (by decide)]; exact hA.2.1) hA.1 hr, if_pos hy, R_may0 hs th0 (show (2 : Int32) ≠ 0 by decide)]
def sawV (b : BN) (w : Nat) : Int32 := if w = 0 then oI b.2.1 else if w = 1 then oI b.2.2.1 else nI b.2.2.2.1
theorem R_sawn3 (hs : RS u) {r w nR nM ps : Nat} {sd : Nat → Bool} {ly : Nat → List Lay} {pf pp : Nat → Nat} (hr : r < nR) (hw : w ≤ 2) (hD : MD nM ly) (hPD : PD ps pf pp) (hQ : QB m nR sd nM ly ps pf pp) : ∃ m', F_X12_sawn 200 (nI r) (nI w) (pm m j u) = some (sawV (bestN (wOf ps pf pp) (rgh sd r) nM ly) w, pm m' j u) ∧ m' 200 0 = 0 ∧ FrC m m' := by
  obtain ⟨e, m', a1, a2, a3, a4⟩ := R_fb (j := j) hs hr hD hPD hQ
  refine ⟨m', ?_, a2, a3⟩
  have hw' : ¬ (nI w < 0 ∨ 2 < nI w) := nx_in (lo := 0) (hi := 2) (by omega) hw (by decide)
  unfold F_X12_sawn
  simp (disch := omega) only [rP hs, rI hs, rT hs, e_cl, e_jn, e_lt, e_rz0, e_rz1, e_u2s, e_u2k, e_u2a, R_within, i10, i00, i01, if_true, if_false, not_true, not_false_eq_true, ne_eq, e, if_neg hw', R_may1 hs th0, a1]
  rcases (show w = 0 ∨ w = 1 ∨ w = 2 by omega) with rfl | rfl | rfl
  · rw [if_neg (show ¬ ¬ nI 0 = 0 from fun z => z rfl), a4.2.1]; rfl
  · rw [if_pos (show ¬ nI 1 = 0 by decide), if_neg (show ¬ ¬ nI 1 = 1 from fun z => z rfl), a4.2.2.1]; rfl
  · rw [if_pos (show ¬ nI 2 = 0 by decide), if_pos (show ¬ nI 2 = 1 by decide), a4.2.2.2.1]; rfl
theorem R_cut1 (hs : RS u) {nR : Nat} {sd : Nat → Bool} (hA : RAr m nR sd) {x y z : Int32} (hx : ¬ ∃ r, r < nR ∧ x = nI r) : F_X12_cut 200 x y z (pm m j u) = some (0, pm (u2 (u2 m 200 0 0) 200 0 1) j u) := by
  simp (disch := omega) only [F_X12_cut, rP hs, rI hs, rT hs, e_cl, e_jn, e_lt, e_rz0, e_rz1, e_u2s, e_u2k, e_u2a, R_within, i10, i00, i01, if_true, if_false, not_true, not_false_eq_true, ne_eq, R_isR_no hs th0 (show u2 m 200 0 0 200 1 = nI nR by rw [e_u2k (by decide)]; exact hA.2.1) hA.1 hx]
theorem R_cut2 (hs : RS u) {r nR : Nat} {sd : Nat → Bool} (hA : RAr m nR sd) {y z : Int32} (hr : r < nR) (hz : z < 0 ∨ 6 < z) : F_X12_cut 200 (nI r) y z (pm m j u) = some (0, pm (u2 (u2 m 200 0 0) 200 0 2) j u) := by
  simp (disch := omega) only [F_X12_cut, rP hs, rI hs, rT hs, e_cl, e_jn, e_lt, e_rz0, e_rz1, e_u2s, e_u2k, e_u2a, R_within, i10, i00, i01, if_true, if_false, not_true, not_false_eq_true, ne_eq, R_isR_ok hs th0 (show u2 m 200 0 0 200 1 = nI nR by rw [e_u2k (by decide)]; exact hA.2.1) hA.1 hr, if_pos hz, R_may0 hs th0 (show (2 : Int32) ≠ 0 by decide)]
def cutV (b : BN) (x : Int32) (w : Nat) : Int32 := if x < 0 ∨ nI b.2.2.2.1 - 1 < x then (if 3 ≤ w ∧ w ≤ 5 then -1000 else -1) else if x = 0 then b.2.2.2.2.1 w else b.2.2.2.2.2 w
theorem R_cut3 (hs : RS u) {r w nR nM ps : Nat} {x : Int32} {sd : Nat → Bool} {ly : Nat → List Lay} {pf pp : Nat → Nat} (hr : r < nR) (hw : w ≤ 6) (hD : MD nM ly) (hPD : PD ps pf pp) (hQ : QB m nR sd nM ly ps pf pp) : ∃ m', F_X12_cut 200 (nI r) x (nI w) (pm m j u) = some (cutV (bestN (wOf ps pf pp) (rgh sd r) nM ly) x w, pm m' j u) ∧ m' 200 0 = 0 ∧ FrC m m' := by
  obtain ⟨e, m', a1, a2, a3, a4⟩ := R_fb (j := j) hs hr hD hPD hQ
  obtain ⟨-, -, -, b4, b5, b6, b7⟩ := a4
  refine ⟨m', ?_, a2, a3⟩
  have hw' : ¬ (nI w < 0 ∨ 6 < nI w) := nx_in (lo := 0) (hi := 6) (by omega) hw (by decide)
  unfold F_X12_cut
  rw [rP hs, rT hs, e, e_cl, e_jn, if_neg (show ¬ (1 : Int32) = 0 by decide), R_within, if_neg hw', e_cl, rT hs, R_may1 hs th0, e_cl, if_pos (show ¬ (1 : Int32) = 0 by decide), rT hs, a1, e_cl, rI hs, b4, R_within, e_cl]
  unfold cutV
  by_cases c : x < 0 ∨ nI (bestN (wOf ps pf pp) (rgh sd r) nM ly).2.2.2.1 - 1 < x
  · rw [if_pos c, if_pos c, if_neg (show ¬ ¬ (0 : Int32) = 0 from fun z => z rfl), R_within, e_cl, e_jn]
    by_cases c2 : 3 ≤ w ∧ w ≤ 5
    · have hh : ¬ (nI w < 3 ∨ 5 < nI w) := nx_in (lo := 3) (hi := 5) c2.1 c2.2 (by decide)
      rw [if_neg hh, if_neg (show ¬ (1 : Int32) = 0 by decide), if_pos c2]
    · have : nI w < 3 ∨ 5 < nI w := by
        by_cases z : w < 3
        · exact Or.inl (nI_lt (b := 3) z (by decide))
        · exact Or.inr (nI_lt (a := 5) (by omega) (by omega))
      rw [if_pos this, if_pos rfl, if_neg c2]
  · rw [if_neg c, if_neg c, if_pos (show ¬ (1 : Int32) = 0 by decide), rR_27 hs]
    obtain ⟨k, hk, rfl⟩ : ∃ k, k < (bestN (wOf ps pf pp) (rgh sd r) nM ly).2.2.2.1 ∧ x = nI k := Classical.byContradiction fun z => c (lt_of_not (by omega) z)
    rcases (show k = 0 ∨ k = 1 by omega) with rfl | rfl
    · rw [if_pos (show nI 0 = 0 from rfl), show (8 : Int32) * nI 0 + nI w = nI (8 * 0 + w) from by rw [show (8 : Int32) = nI 8 from rfl, pk_mul, nI_add], rA_217 hs (by omega), show 8 * 0 + w = w by omega, b6 (by omega) w (by omega)]
    · rw [if_neg (show ¬ nI 1 = 0 by decide), show (8 : Int32) * nI 1 + nI w = nI (8 + w) from by rw [show (8 : Int32) = nI 8 from rfl, pk_mul, nI_add], rA_217 hs (by omega), b7 (by omega) w (by omega)]
/-! done -/
def adS (sg : Nat → Nat → Nat) (n W q r : Nat) : Nat → Nat → Nat := fun s k => if s = n then (if k = 0 then 1000 * W else if k = 1 then r else if k = 2 then q else 0) else sg s k
theorem R_add (hs : RS u) {n k cuts W q r : Nat} {sg ix an : Nat → Nat → Nat} {fu : Nat} (hn : n < 40) (hr : r < 10) (hA : RAs m n sg ix an) (h30 : m 200 30 = nI cuts) (hk : k < cuts) (hc : cuts ≤ 2) (h6 : m 217 (8 * k + 6) = nI W) (h0 : m 217 (8 * k) = nI q) (hW : W ≤ 216) : ∃ m', (∀ K, F_X12_done_L38 200 (nI r) K (fu + 1) (nI k) (pm m j u) = F_X12_done_L38 200 (nI r) K fu (nI (k + 1)) (pm m' j u)) ∧ Fr [218, 219, 220, 221, 224, 225, 226, 227] [32] m m' ∧ RAs m' (n + 1) (adS sg n W q r) ix an := by
  obtain ⟨h32, hS⟩ := hA
  obtain ⟨m', em⟩ : ∃ m', m' = u2 (u2 (u2 (u2 (u2 (u2 (u2 (u2 (u2 m 218 n (nI (1000 * W))) 219 n (nI r)) 220 n (nI q)) 221 n (nI 0)) 224 n (oI 0)) 225 n (oI 0)) 226 n (oI 0)) 227 n (nI 0)) 200 32 (nI (n + 1)) := ⟨_, rfl⟩
  have hF : Fr [218, 219, 220, 221, 224, 225, 226, 227] [32] m m' := by
    rw [em]
    exact ((((((((Fr.row (by decide) (by decide)).tr (Fr.row (by decide) (by decide))).tr (Fr.row (by decide) (by decide))).tr (Fr.row (by decide) (by decide))).tr (Fr.row (by decide) (by decide))).tr (Fr.row (by decide) (by decide))).tr (Fr.row (by decide) (by decide))).tr (Fr.row (by decide) (by decide))).tr (Fr.fld (by decide))
  refine ⟨m', fun K => ?_, hF, ?_, fun s hs' => ?_⟩
  · rw [em, F_X12_done_L38]
    simp (disch := omega) only [e_cl, e_jn, e_lt, e_cxl, e_cxr, e_rzn, ↓l_m1, ↓l_m2, ↓l_m8, l_0, l_1, l_2, l_3, l_4, l_5, l_6, l_7, l_8, l_9, l_10, l_12, l_16, l_20, l_24, l_31, l_32, l_35, l_36, l_40, l_44, l_48, l_59, l_63, l_64, l_90, l_95, l_96, l_100, l_120, l_127, l_200, l_216, l_255, l_999, l_1000, l_10000, l_1000000, l_1048575, l_1000000000, nI_add, pk_mul, pk_sub, nI_leI, nI_ltI, nI_eq, nI_dec, nI_o0, mx_n, mn_n, ab_1, ab_n, e_u2e, e_u2k, e_u2a, if_pos, if_neg, if_true, if_false, not_true, not_false_eq_true, ne_eq, Nat.add_zero, Nat.zero_add, rP hs, rI hs, rT hs, rR_27 hs, rA_217 hs, rS_217 hs, rR_33 hs, rA_218 hs, rS_218 hs, rR_34 hs, rA_219 hs, rS_219 hs, rR_35 hs, rA_220 hs, rS_220 hs, rR_36 hs, rA_221 hs, rS_221 hs, rR_39 hs, rA_224 hs, rS_224 hs, rR_40 hs, rA_225 hs, rS_225 hs, rR_41 hs, rA_226 hs, rS_226 hs, h30, h32, h6, h0, rR_42 hs, rS_227 hs _ (n01 (show 0 ≤ 1 by omega))]
  · rw [em, e_u2s]
  · by_cases e : s = n
    · subst e
      unfold adS
      simp only [if_true]
      rw [em]
      refine ⟨?_, ?_, ?_, ?_, ?_, ?_, ?_, ?_, fun f hf => absurd hf (Nat.not_lt_zero _)⟩ <;> (simp (disch := omega) only [e_u2a, e_u2s] <;> rfl)
    · have := hS s (by omega)
      unfold adS
      simp only [if_neg e]
      rw [em]
      simp (disch := omega) only [e_u2a, e_u2k]
      exact this
theorem R_L38e (hs : RS u) {cuts r fu : Nat} (h30 : m 200 30 = nI cuts) (hc : cuts ≤ 2) (K : PM → Option (Int32 × PM)) : F_X12_done_L38 200 (nI r) K (fu + 1) (nI cuts) (pm m j u) = K (pm m j u) := by
  rw [F_X12_done_L38]
  simp (disch := omega) only [e_cl, e_jn, e_lt, e_cxl, e_cxr, e_rzn, ↓l_m1, ↓l_m2, ↓l_m8, l_0, l_1, l_2, l_3, l_4, l_5, l_6, l_7, l_8, l_9, l_10, l_12, l_16, l_20, l_24, l_31, l_32, l_35, l_36, l_40, l_44, l_48, l_59, l_63, l_64, l_90, l_95, l_96, l_100, l_120, l_127, l_200, l_216, l_255, l_999, l_1000, l_10000, l_1000000, l_1048575, l_1000000000, nI_add, pk_mul, pk_sub, nI_leI, nI_ltI, nI_eq, nI_dec, nI_o0, mx_n, mn_n, ab_1, ab_n, e_u2e, e_u2k, e_u2a, if_pos, if_neg, if_true, if_false, not_true, not_false_eq_true, ne_eq, Nat.add_zero, Nat.zero_add, rP hs, rI hs, rT hs, h30]
theorem R_L167 (hs : RS u) {r : Nat} (hr : r < 10) : ∀ (d i fu : Nat) (m : IM), i + d = 216 → d < fu →
    ∃ m', (∀ K, F_X12_done_L167 200 (nI r) K fu (nI i) (pm m j u) = K (pm m' j u)) ∧ (∀ b, b ≠ 201 → m' b = m b) ∧ (∀ k, (k < 216 * r + i ∨ 216 * r + 216 ≤ k) → m' 201 k = m 201 k) ∧ ∀ k, 216 * r + i ≤ k → k < 216 * r + 216 → m' 201 k = nI 0 := by
  intro d
  induction d with
  | zero =>
    intro i fu m hi hfu
    obtain ⟨fu, rfl⟩ : ∃ g, fu = g + 1 := ⟨fu - 1, by omega⟩
    have e : i = 216 := by omega
    subst e
    refine ⟨m, fun K => ?_, fun _ _ => rfl, fun _ _ => rfl, fun k g1 g2 => by omega⟩
    simp (disch := omega) only [F_X12_done_L167, e_cl, e_jn, e_lt, e_cxl, e_cxr, e_rzn, ↓l_m1, ↓l_m2, ↓l_m8, l_0, l_1, l_2, l_3, l_4, l_5, l_6, l_7, l_8, l_9, l_10, l_12, l_16, l_20, l_24, l_31, l_32, l_35, l_36, l_40, l_44, l_48, l_59, l_63, l_64, l_90, l_95, l_96, l_100, l_120, l_127, l_200, l_216, l_255, l_999, l_1000, l_10000, l_1000000, l_1048575, l_1000000000, nI_add, pk_mul, pk_sub, nI_leI, nI_ltI, nI_eq, nI_dec, nI_o0, mx_n, mn_n, ab_1, ab_n, e_u2e, e_u2k, e_u2a, if_pos, if_neg, if_true, if_false, not_true, not_false_eq_true, ne_eq, Nat.add_zero, Nat.zero_add]
  | succ d ih =>
    intro i fu m hi hfu
    obtain ⟨fu, rfl⟩ : ∃ g, fu = g + 1 := ⟨fu - 1, by omega⟩
    obtain ⟨m', i1, i2, i3, i4⟩ := ih (i + 1) fu (u2 m 201 (216 * r + i) (nI 0)) (by omega) (by omega)
    refine ⟨m', fun K => ?_, fun b hb => by rw [i2 b hb, e_u2r hb], fun k hk => by rw [i3 k (by omega), e_u2k (by omega)], fun k g1 g2 => ?_⟩
    · rw [← i1 K, F_X12_done_L167]
      simp (disch := omega) only [e_cl, e_jn, e_lt, e_cxl, e_cxr, e_rzn, ↓l_m1, ↓l_m2, ↓l_m8, l_0, l_1, l_2, l_3, l_4, l_5, l_6, l_7, l_8, l_9, l_10, l_12, l_16, l_20, l_24, l_31, l_32, l_35, l_36, l_40, l_44, l_48, l_59, l_63, l_64, l_90, l_95, l_96, l_100, l_120, l_127, l_200, l_216, l_255, l_999, l_1000, l_10000, l_1000000, l_1048575, l_1000000000, nI_add, pk_mul, pk_sub, nI_leI, nI_ltI, nI_eq, nI_dec, nI_o0, mx_n, mn_n, ab_1, ab_n, e_u2e, e_u2k, e_u2a, if_pos, if_neg, if_true, if_false, not_true, not_false_eq_true, ne_eq, Nat.add_zero, Nat.zero_add, rP hs, rI hs, rT hs, rR_2 hs, rA_201 hs, rS_201 hs]
    · by_cases e : k = 216 * r + i
      · subst e; rw [i3 _ (by omega), e_u2s]
      · exact i4 k (by omega) g2
def clrS (sd : Nat → Bool) (r : Nat) : Nat → Bool := fun i => if 216 * r ≤ i ∧ i < 216 * r + 216 then false else sd i
def tnI (x : Int32) : Nat := x.toInt.toNat
theorem tnI_n {n : Nat} (h : n < 2 ^ 31) : tnI (nI n) = n := by unfold tnI; rw [nI_toInt h]; rfl
def dnS (sg : Nat → Nat → Nat) (nS r : Nat) (b : BN) : Nat → Nat → Nat := if b.2.2.2.1 = 0 then sg else if b.2.2.2.1 = 1 then adS sg nS (tnI (b.2.2.2.2.1 6)) (tnI (b.2.2.2.2.1 0)) r else adS (adS sg nS (tnI (b.2.2.2.2.1 6)) (tnI (b.2.2.2.2.1 0)) r) (nS + 1) (tnI (b.2.2.2.2.2 6)) (tnI (b.2.2.2.2.2 0)) r
/-- what a cut tells of its model and weight -/
def okF (nM : Nat) (f : Nat → Int32) : Prop := f 0 = nI (tnI (f 0)) ∧ tnI (f 0) < nM ∧ f 6 = nI (tnI (f 6)) ∧ tnI (f 6) ≤ 216
theorem cutC_ok {wv : Nat → Nat} {S : Nat → Bool} {ly : Nat → List Lay} : ∀ nM, nM ≤ 6 → (∀ q, q < nM → okM (ly q)) → (cutC wv S nM ly).1 ≠ 0 → okF nM (cutC wv S nM ly).2 := by
  have dn : ∀ (q nM : Nat) (l : List Lay), okM l → q < nM → nM ≤ 6 → ∀ (T : Nat) (ct : CT), (ct.1 ≠ 0 → okF nM ct.2) → (dnT wv S q l T ct).1 ≠ 0 → okF nM (dnT wv S q l T ct).2 := by
    intro q nM l hl hq hn T
    induction T with
    | zero => intro ct h hz; exact h hz
    | succ T ih =>
      intro ct h hz
      rw [dnT] at hz ⊢
      refine ih _ (fun z => ?_) hz
      unfold stT at z ⊢
      split
      · next hc =>
        have hb := (way_216 hl hc.2).2
        have e0 : cfF q l (T + 1) (way1 S l (T + 1)) (fitW S l (T + 1) (way1 S l (T + 1))) 0 = nI q := rfl
        have e6 : cfF q l (T + 1) (way1 S l (T + 1)) (fitW S l (T + 1) (way1 S l (T + 1))) 6 = nI (tot l * (T + 1) * (T + 1) * (T + 1)) := rfl
        show okF nM (cfF q l (T + 1) (way1 S l (T + 1)) (fitW S l (T + 1) (way1 S l (T + 1))))
        unfold okF
        rw [e0, e6, tnI_n (by omega), tnI_n (by omega)]
        exact ⟨rfl, hq, rfl, hb⟩
      · next hc => rw [if_neg hc] at z; exact h z
  intro nM
  induction nM with
  | zero => intro _ _ hz; exact absurd rfl hz
  | succ nM ih =>
    intro hn hM hz
    exact dn nM (nM + 1) (ly nM) (hM nM (by omega)) (by omega) hn 6 (cutC wv S nM ly) (fun z => by
      obtain ⟨q1, q2, q3, q4⟩ := ih (by omega) (fun q hq => hM q (by omega)) z
      exact ⟨q1, by omega, q3, q4⟩) hz
theorem best_ok {wv : Nat → Nat} {S : Nat → Bool} {ly : Nat → List Lay} {nM : Nat} (hn : nM ≤ 6) (hM : ∀ q, q < nM → okM (ly q)) : ∀ k, (bstF (cutK wv S nM ly) k).2.2.2.1 ≤ 2 ∧ (1 ≤ (bstF (cutK wv S nM ly) k).2.2.2.1 → okF nM (bstF (cutK wv S nM ly) k).2.2.2.2.1) ∧ (2 ≤ (bstF (cutK wv S nM ly) k).2.2.2.1 → okF nM (bstF (cutK wv S nM ly) k).2.2.2.2.2)
  | 0 => by
    show (if 0 < (cutK wv S nM ly 0).1 then 1 else 0) ≤ 2 ∧ (1 ≤ (if 0 < (cutK wv S nM ly 0).1 then 1 else 0) → okF nM (cutK wv S nM ly 0).2) ∧ (2 ≤ (if 0 < (cutK wv S nM ly 0).1 then 1 else 0) → okF nM (fun _ => 0))
    by_cases c : 0 < (cutK wv S nM ly 0).1
    · rw [if_pos c]
      exact ⟨by omega, fun _ => cutC_ok nM hn hM (by unfold cutK at c; omega), fun z => by omega⟩
    · rw [if_neg c]
      exact ⟨by omega, fun z => by omega, fun z => by omega⟩
  | k + 1 => by
    have ih := best_ok (wv := wv) (S := S) hn hM k
    rw [bstF]
    by_cases c : (bstF (cutK wv S nM ly) k).1 < (cutK wv S nM ly (2 * k + 1)).1 + (cutK wv S nM ly (2 * k + 2)).1
    · obtain ⟨p1, p2⟩ := bst_two hM c
      rw [if_pos c]
      exact ⟨Nat.le_refl 2, fun _ => cutC_ok nM hn hM (by unfold cutK at p1; omega), fun _ => cutC_ok nM hn hM (by unfold cutK at p2; omega)⟩
    · rw [if_neg c]; exact ih
theorem R_done1 (hs : RS u) {nR : Nat} {sd : Nat → Bool} (hA : RAr m nR sd) {x : Int32} (hx : ¬ ∃ r, r < nR ∧ x = nI r) : F_X12_done 200 x (pm m j u) = some (0, pm (u2 (u2 m 200 0 0) 200 0 1) j u) := by
  simp (disch := omega) only [F_X12_done, rP hs, rI hs, rT hs, e_cl, e_jn, e_lt, e_rz0, e_rz1, e_u2s, e_u2k, e_u2a, R_within, i10, i00, i01, if_true, if_false, not_true, not_false_eq_true, ne_eq, R_isR_no hs th0 (show u2 m 200 0 0 200 1 = nI nR by rw [e_u2k (by decide)]; exact hA.2.1) hA.1 hx]
theorem R_done2 (hs : RS u) {r nR nM ps nS : Nat} {sd : Nat → Bool} {ly : Nat → List Lay} {pf pp : Nat → Nat} (hr : r < nR) (hD : MD nM ly) (hPD : PD ps pf pp) (hQ : QB m nR sd nM ly ps pf pp) (h32 : m 200 32 = nI nS) (hS : nS ≤ 40) (hc : 40 < nS + (bestN (wOf ps pf pp) (rgh sd r) nM ly).2.2.2.1) : ∃ m', F_X12_done 200 (nI r) (pm m j u) = some (-1, pm m' j u) ∧ m' 200 0 = 0 ∧ FrC m m' := by
  obtain ⟨e, m', a1, a2, a3, a4⟩ := R_fb (j := j) hs hr hD hPD hQ
  obtain ⟨-, -, -, b4, b5, -, -⟩ := a4
  refine ⟨m', ?_, a2, a3⟩
  have e32 : m' 200 32 = nI nS := by rw [a3.2 32 (by decide)]; exact h32
  unfold F_X12_done
  rw [rP hs, rT hs, e, e_cl, if_pos (show ¬ (1 : Int32) = 0 by decide), rT hs, a1, e_cl, rI hs, e32, rI hs, b4, nI_add, if_neg (show ¬ nI (nS + (bestN (wOf ps pf pp) (rgh sd r) nM ly).2.2.2.1) ≤ 40 from nI_ge (a := 40) hc (by omega))]
theorem R_done3 (hs : RS u) {r nR nM ps nS : Nat} {sd : Nat → Bool} {ly : Nat → List Lay} {pf pp : Nat → Nat} {sg ix an : Nat → Nat → Nat} (hr : r < nR) (hD : MD nM ly) (hPD : PD ps pf pp) (hQ : QB m nR sd nM ly ps pf pp) (hA : RAs m nS sg ix an) (hc : nS + (bestN (wOf ps pf pp) (rgh sd r) nM ly).2.2.2.1 ≤ 40) : ∃ m', F_X12_done 200 (nI r) (pm m j u) = some (nI (bestN (wOf ps pf pp) (rgh sd r) nM ly).2.2.2.1, pm m' j u) ∧ m' 200 0 = 0 ∧ Fr [201, 210, 211, 212, 213, 214, 215, 216, 217, 218, 219, 220, 221, 224, 225, 226, 227] [0, 22, 23, 24, 28, 29, 30, 31, 32] m m' ∧ RAr m' nR (clrS sd r) ∧ RAs m' (nS + (bestN (wOf ps pf pp) (rgh sd r) nM ly).2.2.2.1) (dnS sg nS r (bestN (wOf ps pf pp) (rgh sd r) nM ly)) ix an := by
  obtain ⟨e, m1, a1, a2, a3, a4⟩ := R_fb (j := j) hs hr hD hPD hQ
  obtain ⟨o1, o2, o3⟩ := best_ok (wv := wOf ps pf pp) (S := rgh sd r) hD.1 (fun q hq => okM_of hD hq) 12
  have hbn : bstF (cutK (wOf ps pf pp) (rgh sd r) nM ly) 12 = bestN (wOf ps pf pp) (rgh sd r) nM ly := rfl
  rw [hbn] at o1 o2 o3
  have hnR := hQ.1.1
  have hA1 : RAs m1 nS sg ix an := RAs_fr hA a3 (by decide) (by decide)
  have hR1 : RAr m1 nR sd := RAr_fr hQ.1 a3 (by decide) (by decide)
  generalize bestN (wOf ps pf pp) (rgh sd r) nM ly = b at *
  obtain ⟨-, -, -, b4, b5, b6, b7⟩ := a4
  have add : ∃ m2, (∀ K, F_X12_done_L38 200 (nI r) K LF (nI 0) (pm m1 j u) = K (pm m2 j u)) ∧ Fr [218, 219, 220, 221, 224, 225, 226, 227] [32] m1 m2 ∧ RAs m2 (nS + b.2.2.2.1) (dnS sg nS r b) ix an := by
    rcases (show b.2.2.2.1 = 0 ∨ b.2.2.2.1 = 1 ∨ b.2.2.2.1 = 2 by omega) with z | z | z
    · refine ⟨m1, fun K => ?_, Fr.rf m1, ?_⟩
      · rw [z] at b4
        exact R_L38e hs b4 (by omega) K
      · unfold dnS
        rw [if_pos z, z]; exact hA1
    · obtain ⟨q1, q2, q3, q4⟩ := o2 (by omega)
      obtain ⟨m2, c1, c2, c3⟩ := R_add (j := j) (fu := 19999) (k := 0) (W := tnI (b.2.2.2.2.1 6)) (q := tnI (b.2.2.2.2.1 0)) hs (show nS < 40 by omega) (show r < 10 by omega) hA1 b4 (by omega) b5 (by rw [b6 (by omega) 6 (by decide)]; exact q3) (by rw [b6 (by omega) 0 (by decide)]; exact q1) q4
      refine ⟨m2, fun K => ?_, c2, ?_⟩
      · have e30 : m2 200 30 = nI (0 + 1) := by rw [c2.2 30 (by decide), b4, z]
        exact (c1 K).trans (R_L38e hs e30 (by omega) K)
      · unfold dnS
        rw [if_neg (by omega), if_pos z, z]; exact c3
    · obtain ⟨q1, q2, q3, q4⟩ := o2 (by omega)
      obtain ⟨p1, p2, p3, p4⟩ := o3 (by omega)
      obtain ⟨m2, c1, c2, c3⟩ := R_add (j := j) (fu := 19999) (k := 0) (W := tnI (b.2.2.2.2.1 6)) (q := tnI (b.2.2.2.2.1 0)) hs (show nS < 40 by omega) (show r < 10 by omega) hA1 b4 (by omega) b5 (by rw [b6 (by omega) 6 (by decide)]; exact q3) (by rw [b6 (by omega) 0 (by decide)]; exact q1) q4
      have e30 : m2 200 30 = nI b.2.2.2.1 := by rw [c2.2 30 (by decide), b4]
      obtain ⟨m3, d1, d2, d3⟩ := R_add (j := j) (m := m2) (fu := 19998) (k := 1) (W := tnI (b.2.2.2.2.2 6)) (q := tnI (b.2.2.2.2.2 0)) hs (show nS + 1 < 40 by omega) (show r < 10 by omega) c3 e30 (by omega) b5 (by rw [c2.1 217 (by decide) (by decide)]; exact (b7 (by omega) 6 (by decide)).trans p3) (by rw [c2.1 217 (by decide) (by decide)]; exact (b7 (by omega) 0 (by decide)).trans p1) p4
      refine ⟨m3, fun K => ?_, c2.tr d2, ?_⟩
      · have e31 : m3 200 30 = nI (1 + 1) := by rw [d2.2 30 (by decide), e30, z]
        exact (c1 K).trans ((d1 K).trans (R_L38e hs e31 (by omega) K))
      · unfold dnS
        rw [if_neg (by omega), if_neg (by omega), z]; exact d3
  obtain ⟨m2, c1, c2, c3⟩ := add
  obtain ⟨m3, d1, d2, d3, d4⟩ := R_L167 (j := j) hs (show r < 10 by omega) 216 0 LF m2 (by omega) (by unfold LF; omega)
  have e32 : m1 200 32 = nI nS := hA1.1
  have e30 : m3 200 30 = nI b.2.2.2.1 := by rw [d2 200 (by decide), c2.2 30 (by decide), b4]
  refine ⟨m3, ?_, ?_, ?_, ⟨hnR, ?_, fun i hi => ?_⟩, ?_⟩
  · unfold F_X12_done
    rw [rP hs, rT hs, e, e_cl, if_pos (show ¬ (1 : Int32) = 0 by decide), rT hs, a1, e_cl, rI hs, e32, rI hs, b4, nI_add, if_pos (show nI (nS + b.2.2.2.1) ≤ 40 from nI_le (b := 40) hc (by decide)), e_jn, show (0 : Int32) = nI 0 from rfl, c1]
    try dsimp only
    rw [e_jn, d1]
    try dsimp only
    rw [rI hs, e30]
  · rw [d2 200 (by decide), c2.2 0 (by decide)]; exact a2
  · refine (a3.sub (by decide) (by decide)).tr ((c2.sub (by decide) (by decide)).tr ⟨fun x h1 h2 => d2 x (fun z => h1 (by rw [z]; decide)), fun k _ => by rw [d2 200 (by decide)]⟩)
  · rw [d2 200 (by decide), c2.2 1 (by decide)]; exact hR1.2.1
  · have := hR1.2.2 i hi
    unfold clrS
    by_cases c : 216 * r ≤ i ∧ i < 216 * r + 216
    · rw [if_pos c, d4 i (by omega) c.2]; rfl
    · rw [if_neg c, d3 i (by omega), c2.1 201 (by decide) (by decide)]; exact this
  · exact RAs_fr c3 (A := [201]) (K := []) ⟨fun x h1 _ => d2 x (fun z => h1 (by rw [z]; decide)), fun k _ => by rw [d2 200 (by decide)]⟩ (by decide) (by decide)
end RDONE
