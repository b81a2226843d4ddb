/-! ===== the reference: round, plan, polish ===== -/
section RPLAN2
variable {m : IM} {j : JM} {u : SU}
theorem R_may1n (hs : RS u) {c : Int32} (h0 : m 200 0 = nI 0) : F_X12_may 200 (nI 1) c (pm m j u) = some (1, pm m j u) := R_may1 hs h0
theorem R_may0n (hs : RS u) {c : Nat} (h0 : m 200 0 = nI 0) (hc : c ≠ 0) (hb : c < 2 ^ 31) : F_X12_may 200 (nI 0) (nI c) (pm m j u) = some (0, pm (u2 m 200 0 (nI c)) j u) := R_may0 hs h0 (fun z => hc ((nI_eq (b := 0) hb (by decide)).mp z))
def plN (ix an : Nat → Nat) (n : Nat) : Nat := lenv n (apF ix an) (stF ix an)
def plO (ix an : Nat → Nat) (n k : Nat) : Nat := nxt n (apF ix an) (stF ix an) (stp n (apF ix an) (stF ix an) k)
theorem plO_lt {ix an : Nat → Nat} {n k : Nat} (h : k < n) : plO ix an n k < n := (nxt_ok h).2
theorem R_L171 (hs : RS u) {s n : Nat} {ix an : Nat → Nat} (kk : Int32 → PM → Option (Int32 × PM)) : ∀ (d k fu : Nat) (m : IM), FI m s n ix an → TB m 0 n (apF ix an) → k + d = n → d < fu →
    ∃ m', F_X12_findPlan_L171 200 (nI s) (nI n) kk fu (nI (stp n (apF ix an) (stF ix an) k).1) (oI (stp n (apF ix an) (stF ix an) k).2) (nI (if k = 0 then 0 else plN ix an n)) (nI k) (pm m j u) = kk (nI (plN ix an n)) (pm m' j u) ∧ (∀ b, b ≠ 229 → m' b = m b) ∧ (∀ i, i < k → m' 229 i = m 229 i) ∧ ∀ i, k ≤ i → i < n → m' 229 i = nI (plO ix an n i) := by
  intro d
  induction d with
  | zero =>
    intro k fu m hF hT hd hfu
    have hn := hF.1
    obtain ⟨fu, rfl⟩ : ∃ g, fu = g + 1 := ⟨fu - 1, by omega⟩
    have e : k = n := by omega
    subst e
    refine ⟨m, ?_, fun _ _ => rfl, fun _ _ => rfl, fun i h1 h2 => by omega⟩
    have e0 : (if k = 0 then 0 else plN ix an k) = plN ix an k := by
      by_cases z : k = 0
      · rw [if_pos z, z]; rfl
      · rw [if_neg z]
    rw [e0]
    simp (disch := omega) only [F_X12_findPlan_L171, e_cl, e_jn, e_lt, e_cxl, e_cxr, e_rzn, ↓l_m1, ↓l_m2, ↓l_m8, l_0, l_1, l_2, l_3, l_4, l_5, l_6, l_7, l_8, l_9, l_10, l_12, l_16, l_20, l_24, l_31, l_32, l_35, l_36, l_40, l_44, l_48, l_59, l_63, l_64, l_90, l_95, l_96, l_100, l_120, l_127, l_200, l_216, l_255, l_999, l_1000, l_10000, l_1000000, l_1048575, l_1000000000, nI_add, pk_mul, pk_sub, nI_leI, nI_ltI, nI_eq, nI_dec, nI_o0, mx_n, mn_n, ab_1, ab_n, e_u2e, e_u2k, e_u2a, if_pos, if_neg, if_true, if_false, not_true, not_false_eq_true, ne_eq, Nat.add_zero, Nat.zero_add]
  | succ d ih =>
    intro k fu m hF hT hd hfu
    have hn := hF.1
    have h8 := p2_256 hn
    have hk : k < n := by omega
    obtain ⟨fu, rfl⟩ : ∃ g, fu = g + 1 := ⟨fu - 1, by omega⟩
    obtain ⟨s1, s2, s3, s4⟩ := stp_ok (n := n) (ap := apF ix an) (st := stF ix an) k (by omega)
    obtain ⟨n1, n2⟩ := nxt_ok (n := n) (ap := apF ix an) (st := stF ix an) hk
    have hlen : k = 0 → mnv (fun g => !(stp n (apF ix an) (stF ix an) k).1.testBit g) (vv n (apF ix an) (stF ix an) (stp n (apF ix an) (stF ix an) k)) n - 1 = plN ix an n := fun z => by rw [z]; rfl
    have e1 : (stp n (apF ix an) (stF ix an) (k + 1)).1 = (stp n (apF ix an) (stF ix an) k).1 ||| 2 ^ plO ix an n k := rfl
    have e2 : (stp n (apF ix an) (stF ix an) (k + 1)).2 = plO ix an n k + 1 := rfl
    have n2 : plO ix an n k < n := n2
    obtain ⟨m', i1, i2, i3, i4⟩ := ih (k + 1) fu (u2 m 229 k (nI (plO ix an n k))) (FI_fr hF (e_u2r (by decide)) (e_u2r (by decide))) (fun S' h1 h2 g hg => by rw [e_u2a (by decide)]; exact hT S' h1 h2 g hg) (by omega) (by omega)
    rw [e1, e2, oI_s, if_neg (by omega)] at i1
    have h187 := fun c6 c7 K => R_L187 (j := j) (c6 := c6) (c7 := c7) hs hF hT s1 s3 K n 0 LF (by omega) (by unfold LF; omega)
    rw [show (if mnv (fun g => !(stp n (apF ix an) (stF ix an) k).1.testBit g) (vv n (apF ix an) (stF ix an) (stp n (apF ix an) (stF ix an) k)) 0 = 0 then 0 else amn (fun g => !(stp n (apF ix an) (stF ix an) k).1.testBit g) (vv n (apF ix an) (stF ix an) (stp n (apF ix an) (stF ix an) k)) 0 + 1) = 0 from rfl, show acc0 1000000000 (mnv (fun g => !(stp n (apF ix an) (stF ix an) k).1.testBit g) (vv n (apF ix an) (stF ix an) (stp n (apF ix an) (stF ix an) k)) 0) = 1000000000 from rfl] at h187
    simp only [if_neg n1, oI_s] at h187
    rw [show amn (fun g => !(stp n (apF ix an) (stF ix an) k).1.testBit g) (vv n (apF ix an) (stF ix an) (stp n (apF ix an) (stF ix an) k)) n = plO ix an n k from rfl, show acc0 1000000000 (mnv (fun g => !(stp n (apF ix an) (stF ix an) k).1.testBit g) (vv n (apF ix an) (stF ix an) (stp n (apF ix an) (stF ix an) k)) n) = mnv (fun g => !(stp n (apF ix an) (stF ix an) k).1.testBit g) (vv n (apF ix an) (stF ix an) (stp n (apF ix an) (stF ix an) k)) n - 1 from if_neg n1] at h187
    refine ⟨m', ?_, fun b hb => by rw [i2 b hb, e_u2r hb], fun i hi => by rw [i3 i (by omega), e_u2k (by omega)], fun i h1 h2 => ?_⟩
    · rw [F_X12_findPlan_L171]
      by_cases z : k = 0
      · rw [hlen z] at h187
        simp (disch := omega) only [e_cl, e_jn, e_lt, e_cxl, e_cxr, e_rzn, ↓l_m1, ↓l_m2, ↓l_m8, l_0, l_1, l_2, l_3, l_4, l_5, l_6, l_7, l_8, l_9, l_10, l_12, l_16, l_20, l_24, l_31, l_32, l_35, l_36, l_40, l_44, l_48, l_59, l_63, l_64, l_90, l_95, l_96, l_100, l_120, l_127, l_200, l_216, l_255, l_999, l_1000, l_10000, l_1000000, l_1048575, l_1000000000, nI_add, pk_mul, pk_sub, nI_leI, nI_ltI, nI_eq, nI_dec, nI_o0, mx_n, mn_n, ab_1, ab_n, e_u2e, e_u2k, e_u2a, if_pos, if_neg, if_true, if_false, not_true, not_false_eq_true, ne_eq, Nat.add_zero, Nat.zero_add, rP hs, rI hs, rT hs, rR_44 hs, rA_229 hs, rS_229 hs, h187, n_shl', n_or] at i1 ⊢
        exact i1
      · simp (disch := omega) only [e_cl, e_jn, e_lt, e_cxl, e_cxr, e_rzn, ↓l_m1, ↓l_m2, ↓l_m8, l_0, l_1, l_2, l_3, l_4, l_5, l_6, l_7, l_8, l_9, l_10, l_12, l_16, l_20, l_24, l_31, l_32, l_35, l_36, l_40, l_44, l_48, l_59, l_63, l_64, l_90, l_95, l_96, l_100, l_120, l_127, l_200, l_216, l_255, l_999, l_1000, l_10000, l_1000000, l_1048575, l_1000000000, nI_add, pk_mul, pk_sub, nI_leI, nI_ltI, nI_eq, nI_dec, nI_o0, mx_n, mn_n, ab_1, ab_n, e_u2e, e_u2k, e_u2a, if_pos, if_neg, if_true, if_false, not_true, not_false_eq_true, ne_eq, Nat.add_zero, Nat.zero_add, rP hs, rI hs, rT hs, rR_44 hs, rA_229 hs, rS_229 hs, h187, n_shl', n_or] at i1 ⊢
        exact i1
    · by_cases e : i = k
      · subst e; rw [i3 _ (by omega), e_u2s]
      · exact i4 i (by omega) h2
theorem R_findPlan (hs : RS u) {s n : Nat} {ix an : Nat → Nat} (hF : FI m s n ix an) (hn : m 221 s = nI n) : ∃ m', F_X12_findPlan 200 (nI s) (pm m j u) = some (nI (plN ix an n), pm m' j u) ∧ (∀ b, b ≠ 228 → b ≠ 229 → m' b = m b) ∧ ∀ k, k < n → m' 229 k = nI (plO ix an n k) := by
  have hn8 := hF.1
  have h8 := p2_256 hn8
  have hp := Nat.two_pow_pos n
  have hs40 := hF.2.1
  obtain ⟨m1, a1, a2, a3⟩ := R_L16 (j := j) (s := s) (n := n) (ix := ix) (an := an) hs (fun h4 => F_X12_findPlan_L171 200 (nI s) (nI n) (fun v5 h6 => some (v5, h6)) LF 0 (-1) 0 0 h4) (2 ^ n - 1) LF m hF (fun S h1 h2 => by omega) (by omega) (by unfold LF; omega)
  obtain ⟨m', b1, b2, b3, b4⟩ := R_L171 (j := j) hs (fun v5 h6 => some (v5, h6)) n 0 LF m1 (FI_fr hF (a2 _ (by decide)) (a2 _ (by decide))) a3 (by omega) (by unfold LF; omega)
  refine ⟨m', ?_, fun b h1 h2 => by rw [b2 b h2, a2 b h1], fun k hk => b4 k (by omega) hk⟩
  rw [show (stp n (apF ix an) (stF ix an) 0).1 = 0 from rfl, show (stp n (apF ix an) (stF ix an) 0).2 = 0 from rfl, if_pos rfl] at b1
  simp (disch := omega) only [F_X12_findPlan, e_cl, e_jn, e_lt, e_cxl, e_cxr, e_rzn, ↓l_m1, ↓l_m2, ↓l_m8, l_0, l_1, l_2, l_3, l_4, l_5, l_6, l_7, l_8, l_9, l_10, l_12, l_16, l_20, l_24, l_31, l_32, l_35, l_36, l_40, l_44, l_48, l_59, l_63, l_64, l_90, l_95, l_96, l_100, l_120, l_127, l_200, l_216, l_255, l_999, l_1000, l_10000, l_1000000, l_1048575, l_1000000000, nI_add, pk_mul, pk_sub, nI_leI, nI_ltI, nI_eq, nI_dec, nI_o0, mx_n, mn_n, ab_1, ab_n, e_u2e, e_u2k, e_u2a, if_pos, if_neg, if_true, if_false, not_true, not_false_eq_true, ne_eq, Nat.add_zero, Nat.zero_add, rP hs, rI hs, rT hs, rR_36 hs, rA_221 hs, rS_221 hs, hn, n_shl'] at a1 b1 ⊢
  rw [a1, b1]
theorem FI_of {nS nL s : Nat} {sg ix an : Nat → Nat → Nat} (hD : SD nS nL sg ix an) (hA : RAs m nS sg ix an) (hx : s < nS) : FI m s (sg s 3) (ix s) (an s) := by
  have h1 := hD.1
  obtain ⟨-, b3, -, -, -, -, -, -, -, b9⟩ := hD.2 s hx
  obtain ⟨-, -, -, -, -, -, -, -, a9⟩ := hA.2 s hx
  exact ⟨b3, by omega, fun f hf => ⟨(a9 f hf).1, (a9 f hf).2, (b9 f hf).1, (b9 f hf).2⟩⟩
theorem Fr_of2 {m1 m' : IM} {a b : Nat} (ha : a ≠ 200) (hb : b ≠ 200) (h : ∀ c, c ≠ a → c ≠ b → m' c = m1 c) : Fr [a, b] [0] m1 m' := ⟨fun c h1 _ => h c (fun z => h1 (by rw [z]; simp)) (fun z => h1 (by rw [z]; simp)), fun k _ => by rw [h 200 (Ne.symm ha) (Ne.symm hb)]⟩
theorem R_round1 (hs : RS u) {nS : Nat} {x : Int32} (hnS : nS ≤ 40) (hn : m 200 32 = nI nS) (hx : ¬ ∃ s, s < nS ∧ x = nI s) : F_X12_round 200 x (pm m j u) = some (0, pm (u2 (u2 m 200 0 0) 200 0 1) j u) := by
  simp only [F_X12_round, rP hs, rI hs, rT hs, e_cl, e_jn, e_lt, e_rz0, e_rz1, e_u2s, e_u2k, e_u2a, R_within, i10, i00, i01, if_true, if_false, not_true, not_false_eq_true, ne_eq, R_isS_no (j := j) hs (m := u2 m 200 0 0) th0 (by rw [e_u2k (by decide)]; exact hn) hnS hx]
theorem R_plan1 (hs : RS u) {nS : Nat} {x y : Int32} (hnS : nS ≤ 40) (hn : m 200 32 = nI nS) (hx : ¬ ∃ s, s < nS ∧ x = nI s) : F_X12_plan 200 x y (pm m j u) = some (0, pm (u2 (u2 m 200 0 0) 200 0 1) j u) := by
  simp only [F_X12_plan, rP hs, rI hs, rT hs, e_cl, e_jn, e_lt, e_rz0, e_rz1, e_u2s, e_u2k, e_u2a, R_within, i10, i00, i01, if_true, if_false, not_true, not_false_eq_true, ne_eq, R_isS_no (j := j) hs (m := u2 m 200 0 0) th0 (by rw [e_u2k (by decide)]; exact hn) hnS hx]
theorem R_polish1 (hs : RS u) {nS : Nat} {x : Int32} (hnS : nS ≤ 40) (hn : m 200 32 = nI nS) (hx : ¬ ∃ s, s < nS ∧ x = nI s) : F_X12_polish 200 x (pm m j u) = some (0, pm (u2 (u2 m 200 0 0) 200 0 1) j u) := by
  simp only [F_X12_polish, rP hs, rI hs, rT hs, e_cl, e_jn, e_lt, e_rz0, e_rz1, e_u2s, e_u2k, e_u2a, R_within, i10, i00, i01, if_true, if_false, not_true, not_false_eq_true, ne_eq, R_isS_no (j := j) hs (m := u2 m 200 0 0) th0 (by rw [e_u2k (by decide)]; exact hn) hnS hx]
theorem R_round2 (hs : RS u) {nS nL s : Nat} {sg ix an : Nat → Nat → Nat} (hD : SD nS nL sg ix an) (hA : RAs m nS sg ix an) (hx : s < nS) : ∃ m', F_X12_round 200 (nI s) (pm m j u) = some (nI (plN (ix s) (an s) (sg s 3)), pm m' j u) ∧ m' 200 0 = 0 ∧ Fr [228, 229] [0] m m' := by
  obtain ⟨m', a1, a2, a3⟩ := R_findPlan (j := j) (m := u2 m 200 0 0) hs (FI_fr (FI_of hD hA hx) (e_u2r (by decide)) (e_u2r (by decide))) (by rw [e_u2a (by decide)]; exact (hA.2 s hx).2.2.2.1)
  refine ⟨m', ?_, by rw [a2 200 (by decide) (by decide)]; exact th0, (Fr.fld (by decide)).tr (Fr_of2 (by decide) (by decide) a2)⟩
  simp only [F_X12_round, rP hs, rI hs, rT hs, e_cl, e_jn, e_lt, e_rz0, e_rz1, e_u2s, e_u2k, e_u2a, R_within, i10, i00, i01, if_true, if_false, not_true, not_false_eq_true, ne_eq, R_isS_ok (j := j) hs (m := u2 m 200 0 0) th0 (by rw [e_u2k (by decide)]; exact hA.1) hD.1 hx, a1]
theorem R_plan2 (hs : RS u) {nS nL s : Nat} {y : Int32} {sg ix an : Nat → Nat → Nat} (hD : SD nS nL sg ix an) (hA : RAs m nS sg ix an) (hx : s < nS) : ∃ m', (F_X12_plan 200 (nI s) y (pm m j u) = some (if y < 0 ∨ nI (sg s 3) - 1 < y then -1 else nI (plO (ix s) (an s) (sg s 3) y.toInt.toNat), pm m' j u)) ∧ m' 200 0 = 0 ∧ Fr [228, 229] [0] m m' := by
  have hS := hD.1
  obtain ⟨m', a1, a2, a3⟩ := R_findPlan (j := j) (m := u2 m 200 0 0) hs (FI_fr (FI_of hD hA hx) (e_u2r (by decide)) (e_u2r (by decide))) (by rw [e_u2a (by decide)]; exact (hA.2 s hx).2.2.2.1)
  have h36 : m' 221 s = nI (sg s 3) := by rw [a2 221 (by decide) (by decide), e_u2a (by decide)]; exact (hA.2 s hx).2.2.2.1
  have hf := (hD.2 s hx).2.1
  refine ⟨m', ?_, by rw [a2 200 (by decide) (by decide)]; exact th0, (Fr.fld (by decide)).tr (Fr_of2 (by decide) (by decide) a2)⟩
  by_cases c : y < 0 ∨ nI (sg s 3) - 1 < y
  · simp (disch := omega) only [F_X12_plan, rP hs, rI hs, rT hs, e_cl, e_jn, e_lt, e_rz0, e_rz1, e_u2s, e_u2k, e_u2a, R_within, i10, i00, i01, if_true, if_false, not_true, not_false_eq_true, ne_eq, rR_36 hs, rA_221 hs, rS_221 hs, R_isS_ok (j := j) hs (m := u2 m 200 0 0) th0 (by rw [e_u2k (by decide)]; exact hA.1) hD.1 hx, a1, h36, if_pos c]
  · have hy : ∃ l, l < sg s 3 ∧ y = nI l := Classical.byContradiction fun z => c (lt_of_not (by omega) z)
    obtain ⟨l, hl, rfl⟩ := hy
    simp (disch := omega) only [F_X12_plan, rP hs, rI hs, rT hs, e_cl, e_jn, e_lt, e_rz0, e_rz1, e_u2s, e_u2k, e_u2a, R_within, i10, i00, i01, if_true, if_false, not_true, not_false_eq_true, ne_eq, rR_36 hs, rA_221 hs, rS_221 hs, rR_44 hs, rA_229 hs, rS_229 hs, R_isS_ok (j := j) hs (m := u2 m 200 0 0) th0 (by rw [e_u2k (by decide)]; exact hA.1) hD.1 hx, a1, h36, if_neg c, a3 l hl, nI_toInt (show l < 2 ^ 31 by omega), Int.toNat_natCast]
/-- the grains left behind so many facets -/
def grd (g : Nat) (t : Nat → Nat) : Nat → Nat
  | 0 => g
  | k + 1 => grd g t k - (grd g t k * (t k + 10) + 999) / 1000
theorem grd_le (g : Nat) (t : Nat → Nat) : ∀ k, grd g t k ≤ g
  | 0 => Nat.le_refl g
  | k + 1 => Nat.le_trans (Nat.sub_le _ _) (grd_le g t k)
theorem grd_st {x t : Nat} (ht : t ≤ 90) : (x * (t + 10) + 999) / 1000 ≤ x := by
  have : x * (t + 10) ≤ x * 100 := Nat.mul_le_mul_left x (by omega)
  omega
theorem grd_mul {x t : Nat} (hx : x ≤ 216000) (ht : t ≤ 90) : x * (t + 10) ≤ 21600000 := Nat.mul_le_mul hx (show t + 10 ≤ 100 by omega)
theorem R_polL (hs : RS u) {s n g : Nat} {t : Nat → Nat} (hs40 : s < 40) (hn : n ≤ 8) (hg : g ≤ 216000) {od : Nat → Nat} (k : PM → Option (Int32 × PM)) : ∀ (d i fu : Nat) (m : IM), m 221 s = nI n → (∀ i, i < n → m 229 i = nI (od i) ∧ od i < n ∧ m 223 (8 * s + od i) = nI (t i) ∧ t i ≤ 90) → m 218 s = nI (grd g t i) → i + d = n → d < fu →
    ∃ m', F_X12_polish_L46 200 (nI s) k fu (nI i) (pm m j u) = k (pm m' j u) ∧ (∀ b, b ≠ 218 → m' b = m b) ∧ (∀ i, i ≠ s → m' 218 i = m 218 i) ∧ m' 218 s = nI (grd g t n) := by
  intro d
  induction d with
  | zero =>
    intro i fu m h1 h2 h3 hd hfu
    obtain ⟨fu, rfl⟩ : ∃ g, fu = g + 1 := ⟨fu - 1, by omega⟩
    have e : i = n := by omega
    subst e
    refine ⟨m, ?_, fun _ _ => rfl, fun _ _ => rfl, h3⟩
    simp (disch := omega) only [F_X12_polish_L46, e_cl, e_jn, e_lt, e_cxl, e_cxr, e_rzn, ↓l_m1, ↓l_m2, ↓l_m8, l_0, l_1, l_2, l_3, l_4, l_5, l_6, l_7, l_8, l_9, l_10, l_12, l_16, l_20, l_24, l_31, l_32, l_35, l_36, l_40, l_44, l_48, l_59, l_63, l_64, l_90, l_95, l_96, l_100, l_120, l_127, l_200, l_216, l_255, l_999, l_1000, l_10000, l_1000000, l_1048575, l_1000000000, nI_add, pk_mul, pk_sub, nI_leI, nI_ltI, nI_eq, nI_dec, nI_o0, mx_n, mn_n, ab_1, ab_n, e_u2e, e_u2k, e_u2a, if_pos, if_neg, if_true, if_false, not_true, not_false_eq_true, ne_eq, Nat.add_zero, Nat.zero_add, rP hs, rI hs, rT hs, rR_36 hs, rA_221 hs, rS_221 hs, h1]
  | succ d ih =>
    intro i fu m h1 h2 h3 hd hfu
    obtain ⟨fu, rfl⟩ : ∃ g, fu = g + 1 := ⟨fu - 1, by omega⟩
    obtain ⟨q1, q2, q3, q4⟩ := h2 i (by omega)
    have l1 := grd_le g t i
    have l2 := grd_st (x := grd g t i) q4
    have l3 := grd_mul (x := grd g t i) (by omega) q4
    obtain ⟨m', a1, a2, a3, a4⟩ := ih (i + 1) fu (u2 m 218 s (nI (grd g t (i + 1)))) (by rw [e_u2a (by decide)]; exact h1) (fun k hk => by rw [e_u2a (by decide), e_u2a (by decide)]; exact h2 k hk) (by rw [e_u2s]) (by omega) (by omega)
    refine ⟨m', ?_, fun b hb => by rw [a2 b hb, e_u2r hb], fun k hk => by rw [a3 k hk, e_u2k hk], a4⟩
    rw [grd] at a1
    rw [F_X12_polish_L46]
    simp (disch := omega) only [e_cl, e_jn, e_lt, e_cxl, e_cxr, e_rzn, ↓l_m1, ↓l_m2, ↓l_m8, l_0, l_1, l_2, l_3, l_4, l_5, l_6, l_7, l_8, l_9, l_10, l_12, l_16, l_20, l_24, l_31, l_32, l_35, l_36, l_40, l_44, l_48, l_59, l_63, l_64, l_90, l_95, l_96, l_100, l_120, l_127, l_200, l_216, l_255, l_999, l_1000, l_10000, l_1000000, l_1048575, l_1000000000, nI_add, pk_mul, pk_sub, nI_leI, nI_ltI, nI_eq, nI_dec, nI_o0, mx_n, mn_n, ab_1, ab_n, e_u2e, e_u2k, e_u2a, if_pos, if_neg, if_true, if_false, not_true, not_false_eq_true, ne_eq, Nat.add_zero, Nat.zero_add, rP hs, rI hs, rT hs, rR_36 hs, rA_221 hs, rS_221 hs, rR_33 hs, rA_218 hs, rS_218 hs, rR_38 hs, rA_223 hs, rS_223 hs, rR_44 hs, rA_229 hs, rS_229 hs, h1, h3, q1, q3, pk_div, e_dv (show nI 1000 ≠ 0 by decide)] at a1 ⊢
    exact a1
end RPLAN2
