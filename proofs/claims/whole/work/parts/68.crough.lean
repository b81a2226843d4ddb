/-! ===== the class: roughs, scan, stuff ===== -/
def bN (p : Nat → Bool) : Nat → Nat
  | 0 => 0
  | n + 1 => 2 ^ n * (p n).toNat + bN p n
theorem bN_lt (p : Nat → Bool) : ∀ n, bN p n < 2 ^ n
  | 0 => Nat.one_pos
  | n + 1 => by
    have := bN_lt p n
    rw [bN, Nat.pow_succ]
    cases p n
    · show 2 ^ n * 0 + _ < _; omega
    · show 2 ^ n * 1 + _ < _; omega
theorem bN_tb (p : Nat → Bool) : ∀ n i, (bN p n).testBit i = (decide (i < n) && p i)
  | 0, i => by show Nat.testBit 0 i = _; rw [Nat.zero_testBit, decide_eq_false (by omega)]; rfl
  | n + 1, i => by
    rw [bN, Nat.testBit_two_pow_mul_add _ (bN_lt p n), bN_tb p n i]
    by_cases c : i < n
    · rw [if_pos c, decide_eq_true c, decide_eq_true (by omega : i < n + 1)]
    · rw [if_neg c]
      by_cases e : i = n
      · subst e
        rw [decide_eq_true (by omega : i < i + 1), Nat.sub_self, Bool.true_and]
        cases p i <;> rfl
      · rw [decide_eq_false (by omega : ¬ i < n + 1), Bool.false_and]
        obtain ⟨d, hd⟩ : ∃ d, i - n = d + 1 := ⟨i - n - 1, by omega⟩
        rw [hd]
        cases p n
        · exact Nat.zero_testBit _
        · show Nat.testBit 1 (d + 1) = false
          rw [tb_one, decide_eq_false (by omega)]
theorem bN_cong {p q : Nat → Bool} : ∀ {n : Nat}, (∀ i, i < n → p i = q i) → bN p n = bN q n
  | 0, _ => rfl
  | n + 1, h => by rw [bN, bN, bN_cong (fun i hi => h i (by omega)), h n (by omega)]
theorem bN_ct (p : Nat → Bool) {n N : Nat} (h : n ≤ N) : fb_ct (bN p n).testBit N = fb_ct p n := by
  obtain ⟨d, rfl⟩ : ∃ d, N = n + d := ⟨N - n, by omega⟩
  rw [fb_ct_split, fb_ct_cong (q := p) (fun k hk => by rw [bN_tb, decide_eq_true hk, Bool.true_and])]
  have z : fb_ct (fun k => (bN p n).testBit (n + k)) d = 0 := fb_ct_zero.mpr (fun k _ => by rw [bN_tb, decide_eq_false (by omega), Bool.false_and])
  rw [z, Nat.add_zero]
theorem bN_eq {X : Nat} {p : Nat → Bool} {n : Nat} (hX : X < 2 ^ n) (h : ∀ i, i < n → X.testBit i = p i) : X = bN p n := by
  apply Nat.eq_of_testBit_eq
  intro i
  rw [bN_tb]
  by_cases c : i < n
  · rw [decide_eq_true c, Bool.true_and, h i c]
  · rw [decide_eq_false c, Bool.false_and, Nat.testBit_lt_two_pow (Nat.lt_of_lt_of_le hX (Nat.pow_le_pow_right (by decide) (by omega)))]
/-- a layer as bits -/
def lay (S : Nat → Bool) (z : Nat) : Nat := bN (fun i => S (36 * z + i)) 36
theorem lay_lt (S : Nat → Bool) (z : Nat) : lay S z < 2 ^ 36 := bN_lt _ _
theorem lay_tb (S : Nat → Bool) {z i : Nat} (h : i < 36) : (lay S z).testBit i = S (36 * z + i) := by unfold lay; rw [bN_tb, decide_eq_true h, Bool.true_and]
theorem lN_tbit (n i : Nat) : (lN n).toBitVec.getLsbD i = (decide (i < 64) && n.testBit i) := by rw [wb_tb, BitVec.getLsbD_ofNat]
theorem andnot {B Fl : Nat} (hB : B < 2 ^ 36) : lN B &&& (lN Fl ^^^ (-1)) = lN (bN (fun i => B.testBit i && !Fl.testBit i) 36) := by
  apply wb_inj
  apply BitVec.eq_of_getLsbD_eq
  intro i hi
  rw [Int64.toBitVec_and, Int64.toBitVec_xor, BitVec.getLsbD_and, BitVec.getLsbD_xor, lN_tbit, lN_tbit, lN_tbit, bN_tb, decide_eq_true hi, Bool.true_and, Bool.true_and, Bool.true_and, show (-1 : Int64).toBitVec = BitVec.allOnes 64 from by decide, BitVec.getLsbD_allOnes, decide_eq_true hi]
  by_cases c : i < 36
  · rw [decide_eq_true c, Bool.true_and]; cases Fl.testBit i <;> rfl
  · rw [decide_eq_false c, Bool.false_and, Nat.testBit_lt_two_pow (Nat.lt_of_lt_of_le hB (Nat.pow_le_pow_right (by decide) (by omega))), Bool.false_and]
theorem noLay {B : Nat} (hB : B < 2 ^ 64) : lN B &&& (-68719476736) = 0 ↔ B < 2 ^ 36 := by
  have e : (-68719476736 : Int64) = lN (2 ^ 64 - 2 ^ 36) := by decide
  have t : ∀ i, (2 ^ 64 - 2 ^ 36).testBit i = (decide (36 ≤ i) && decide (i < 64)) := fun i => by
    rw [show 2 ^ 64 - 2 ^ 36 = 2 ^ 64 - ((2 ^ 36 - 1) + 1) from by decide, Nat.testBit_two_pow_sub_succ (by decide), Nat.testBit_two_pow_sub_one]
    by_cases c : i < 36
    · rw [decide_eq_true c, decide_eq_false (by omega : ¬ 36 ≤ i)]; cases decide (i < 64) <;> rfl
    · rw [decide_eq_false c, decide_eq_true (by omega : 36 ≤ i)]; cases decide (i < 64) <;> rfl
  rw [e, fb_andL]
  have hl : B &&& (2 ^ 64 - 2 ^ 36) < 2 ^ 64 := Nat.lt_of_le_of_lt Nat.and_le_left hB
  constructor
  · intro h
    have h0 : B &&& (2 ^ 64 - 2 ^ 36) = 0 := by
      have := congrArg (fun x : Int64 => x.toBitVec.toNat) h
      rw [wb_tn hl] at this
      exact this
    refine Classical.byContradiction fun z => ?_
    obtain ⟨i, h1, h2⟩ := Nat.exists_ge_and_testBit_of_ge_two_pow (Nat.not_lt.mp z)
    have := congrArg (fun x => Nat.testBit x i) h0
    have hi : i < 64 := Classical.byContradiction fun w => by
      rw [Nat.testBit_lt_two_pow (Nat.lt_of_lt_of_le hB (Nat.pow_le_pow_right (by decide) (by omega)))] at h2
      cases h2
    simp only [Nat.testBit_and, t, h2, decide_eq_true h1, decide_eq_true hi, Nat.zero_testBit] at this
    cases this
  · intro h
    have h0 : B &&& (2 ^ 64 - 2 ^ 36) = 0 := by
      apply Nat.eq_of_testBit_eq
      intro i
      rw [Nat.testBit_and, t, Nat.zero_testBit]
      by_cases c : 36 ≤ i
      · rw [Nat.testBit_lt_two_pow (Nat.lt_of_lt_of_le h (Nat.pow_le_pow_right (by decide) c)), Bool.false_and]
      · rw [decide_eq_false c, Bool.false_and, Bool.and_false]
    rw [h0]; rfl
theorem isLay_iff {B : Nat} (hB : B < 2 ^ 64) : isLay (lN B) ↔ B < 2 ^ 36 := by
  have e : (68719476736 : Int64).toInt = 68719476736 := by decide
  unfold isLay
  rw [fa_lt64, fa_lt64, lN_ti hB, e, show ((0 : Int64)).toInt = 0 from rfl]
  split <;> omega
section CRO
variable {m : IM} {j : JM} {u : SU}
theorem C_noLay {x : Int64} (h : PM) : F_X11_isNoLayer x h = some (if x &&& (-68719476736) = 0 then nI 0 else nI 1, h) := by
  unfold F_X11_isNoLayer
  rw [e_jn]
  simp only [lg_cmp_eq]
  by_cases c : x &&& (-68719476736) = 0
  · rw [if_pos c, if_pos c]; rfl
  · rw [if_neg c, if_neg c]; rfl
theorem C_noLay0 {x : Int64} (hx : isLay x) (h : PM) : F_X11_isNoLayer x h = some (nI 0, h) := by
  obtain ⟨B, hB, rfl⟩ := wb_of x
  rw [C_noLay, if_pos ((noLay hB).mpr ((isLay_iff hB).mp hx))]
theorem C_noLay1 {x : Int64} (hx : ¬ isLay x) (h : PM) : F_X11_isNoLayer x h = some (nI 1, h) := by
  obtain ⟨B, hB, rfl⟩ := wb_of x
  rw [C_noLay, if_neg (fun z => hx ((isLay_iff hB).mpr ((noLay hB).mp z)))]
/-- BEST of a rough: worth, axis, where, how many cuts, the cuts -/
abbrev BST : Type := Int32 × Int32 × Int32 × Nat × (Nat → Int32) × (Nat → Int32)
def KNW (m : IM) (a : Nat) (b : BST) : Prop := m a 4 = b.1 ∧ m a 2 = b.2.1 ∧ m a 3 = b.2.2.1 ∧ m a 5 = nI b.2.2.2.1 ∧ b.2.2.2.1 ≤ 2 ∧ (1 ≤ b.2.2.2.1 → ∀ k, k < 7 → m (a + 2) (k + 1) = b.2.2.2.2.1 k) ∧ (2 ≤ b.2.2.2.1 → ∀ k, k < 7 → m (a + 3) (k + 1) = b.2.2.2.2.2 k)
def RO (m : IM) (j : JM) (u : SU) (a : Nat) (S : Nat → Bool) (b : BST) : Prop := RoO u a ∧ (∀ z, z < 6 → j (a + 1) z = lN (lay S z)) ∧ (m a 1 = nI 0 ∨ m a 1 = nI 1 ∧ KNW m a b)
def nmR (k : Nat) : Nat := 2000 + 10 * k
def rgh (sd : Nat → Bool) (r : Nat) : Nat → Bool := fun i => sd (216 * r + i)
def CAr (m : IM) (j : JM) (u : SU) (nR : Nat) (sd : Nat → Bool) (bb : Nat → BST) : Prop := LiS u 20 nR nmR ∧ m 20 2 = nI nR ∧ ∀ r, r < nR → RO m j u (nmR r) (rgh sd r) (bb r)
theorem KNW_fr {m' : IM} {a : Nat} {b : BST} (h : KNW m a b) (h0 : m' a = m a) (h2 : m' (a + 2) = m (a + 2)) (h3 : m' (a + 3) = m (a + 3)) : KNW m' a b := by
  unfold KNW; rw [h0, h2, h3]; exact h
theorem RO_fr {m' : IM} {j' : JM} {a : Nat} {S : Nat → Bool} {b : BST} (h : RO m j u a S b) (hj : j' (a + 1) = j (a + 1)) (h0 : m' a = m a) (h2 : m' (a + 2) = m (a + 2)) (h3 : m' (a + 3) = m (a + 3)) : RO m' j' u a S b := by
  unfold RO KNW; rw [h0, h2, h3, hj]; exact h
theorem CAr_fr {m' : IM} {j' : JM} {nR : Nat} {sd : Nat → Bool} {bb : Nat → BST} (h : CAr m j u nR sd bb) (h20 : m' 20 2 = m 20 2) (hh : ∀ b, 2000 ≤ b → b < 3000 → m' b = m b) (hj : ∀ b, 2000 ≤ b → b < 3000 → j' b = j b) (hn : nR ≤ 10) : CAr m' j' u nR sd bb :=
  ⟨h.1, by rw [h20]; exact h.2.1, fun r hr => RO_fr (h.2.2 r hr) (hj _ (by unfold nmR; omega) (by unfold nmR; omega)) (hh _ (by unfold nmR; omega) (by unfold nmR; omega)) (hh _ (by unfold nmR; omega) (by unfold nmR; omega)) (hh _ (by unfold nmR; omega) (by unfold nmR; omega))⟩
theorem C_roughOf (hc : CS u) {nR r : Nat} {sd : Nat → Bool} {bb : Nat → BST} (hA : CAr m j u nR sd bb) (hn : nR ≤ 10) (hr : r < nR) : F_X11_roughOf 10 (nI r) (pm m j u) = some (.inr (nmR r), pm m j u) := by
  have hO := (hA.2.2 r hr).1
  simp (disch := omega) only [F_X11_roughOf, e_cl, e_jn, e_lt, e_cxl, e_cxr, e_rzn, ↓l_m1, ↓l_m2, ↓l_m8, l_0, l_1, l_2, l_3, l_4, l_5, l_6, l_7, l_8, l_9, l_10, l_12, l_16, l_20, l_24, l_31, l_32, l_35, l_36, l_40, l_44, l_48, l_59, l_63, l_64, l_90, l_95, l_96, l_100, l_120, l_127, l_200, l_216, l_255, l_999, l_1000, l_10000, l_1000000, l_1048575, l_1000000000, nI_add, pk_mul, pk_sub, nI_leI, nI_ltI, nI_eq, nI_dec, nI_o0, mx_n, mn_n, ab_1, ab_n, e_u2e, e_u2k, e_u2a, if_pos, if_neg, if_true, if_false, not_true, not_false_eq_true, ne_eq, Nat.add_zero, Nat.zero_add, cG_10 hc, cP_10 hc, cT_10 hc, cR_10_0 hc, cR_10_1 hc, cR_10_2 hc, cR_10_3 hc, cR_10_4 hc, cR_10_5 hc, cR_10_6 hc, cR_10_7 hc, cR_10_8 hc, cG_20 hc, cP_20 hc, cT_20 hc, oG hO, oP hO, oZ hO, oT hO, oR0 hO, oR6 hO, oR7 hO, oA hO, oS hO, oG2 hO, oP2 hO, oT2 hO, oG3 hO, oP3 hO, oT3 hO, C_size hA.1 hA.2.1, C_get hA.1 hA.2.1 hr]
theorem C_roughNo (hc : CS u) {nR : Nat} {x : Int32} {sd : Nat → Bool} {bb : Nat → BST} (hA : CAr m j u nR sd bb) (hn : nR ≤ 10) (hx : ¬ ∃ s, s < nR ∧ x = nI s) : F_X11_roughOf 10 x (pm m j u) = some (.inl 1, pm m j u) := by
  rcases nI_ncase (by omega) hx with c | ⟨l, h1, h2, rfl⟩
  · simp only [F_X11_roughOf, e_jn, if_pos c]
  · simp (disch := omega) only [F_X11_roughOf, e_cl, e_jn, e_lt, e_cxl, e_cxr, e_rzn, ↓l_m1, ↓l_m2, ↓l_m8, l_0, l_1, l_2, l_3, l_4, l_5, l_6, l_7, l_8, l_9, l_10, l_12, l_16, l_20, l_24, l_31, l_32, l_35, l_36, l_40, l_44, l_48, l_59, l_63, l_64, l_90, l_95, l_96, l_100, l_120, l_127, l_200, l_216, l_255, l_999, l_1000, l_10000, l_1000000, l_1048575, l_1000000000, nI_add, pk_mul, pk_sub, nI_leI, nI_ltI, nI_eq, nI_dec, nI_o0, mx_n, mn_n, ab_1, ab_n, e_u2e, e_u2k, e_u2a, if_pos, if_neg, if_true, if_false, not_true, not_false_eq_true, ne_eq, Nat.add_zero, Nat.zero_add, cG_10 hc, cP_10 hc, cT_10 hc, cR_10_0 hc, cR_10_1 hc, cR_10_2 hc, cR_10_3 hc, cR_10_4 hc, cR_10_5 hc, cR_10_6 hc, cR_10_7 hc, cR_10_8 hc, cG_20 hc, cP_20 hc, cT_20 hc, C_size hA.1 hA.2.1]
/-- the cells of a rough with a layer told anew -/
def putS (sd : Nat → Bool) (r z : Nat) (p : Nat → Bool) : Nat → Bool := fun i => if 216 * r + 36 * z ≤ i ∧ i < 216 * r + 36 * z + 36 then p (i - (216 * r + 36 * z)) else sd i
theorem C_scan1 (hc : CS u) {nR : Nat} {x z : Int32} {b f : Int64} {sd : Nat → Bool} {bb : Nat → BST} (hA : CAr m j u nR sd bb) (hn : nR ≤ 10) (hx : ¬ ∃ s, s < nR ∧ x = nI s) : F_X11_scan 10 x z b f (pm m j u) = some (.inl 1, pm m j u) := by
  simp only [F_X11_scan, cT_10 hc, C_roughNo hc hA hn hx, e_cxl]
theorem C_scan2 (hc : CS u) {nR r : Nat} {z : Int32} {b f : Int64} {sd : Nat → Bool} {bb : Nat → BST} (hA : CAr m j u nR sd bb) (hn : nR ≤ 10) (hr : r < nR) (hz : ¬ ∃ s, s < 6 ∧ z = nI s) : F_X11_scan 10 (nI r) z b f (pm m j u) = some (.inl 1, pm m j u) := by
  rcases nI_ncase (n := 6) (by omega) hz with c | ⟨l, h1, h2, rfl⟩
  · simp only [F_X11_scan, cT_10 hc, C_roughOf hc hA hn hr, e_cxr, e_jn, if_pos c]
  · simp (disch := omega) only [F_X11_scan, e_cl, e_jn, e_lt, e_cxl, e_cxr, e_rzn, ↓l_m1, ↓l_m2, ↓l_m8, l_0, l_1, l_2, l_3, l_4, l_5, l_6, l_7, l_8, l_9, l_10, l_12, l_16, l_20, l_24, l_31, l_32, l_35, l_36, l_40, l_44, l_48, l_59, l_63, l_64, l_90, l_95, l_96, l_100, l_120, l_127, l_200, l_216, l_255, l_999, l_1000, l_10000, l_1000000, l_1048575, l_1000000000, nI_add, pk_mul, pk_sub, nI_leI, nI_ltI, nI_eq, nI_dec, nI_o0, mx_n, mn_n, ab_1, ab_n, e_u2e, e_u2k, e_u2a, if_pos, if_neg, if_true, if_false, not_true, not_false_eq_true, ne_eq, Nat.add_zero, Nat.zero_add, cG_10 hc, cP_10 hc, cT_10 hc, cR_10_0 hc, cR_10_1 hc, cR_10_2 hc, cR_10_3 hc, cR_10_4 hc, cR_10_5 hc, cR_10_6 hc, cR_10_7 hc, cR_10_8 hc, C_roughOf hc hA hn hr]
theorem C_scan3 (hc : CS u) {nR r z : Nat} {b f : Int64} {sd : Nat → Bool} {bb : Nat → BST} (hA : CAr m j u nR sd bb) (hn : nR ≤ 10) (hr : r < nR) (hz : z < 6) (hb : ¬ (isLay b ∧ isLay f)) : F_X11_scan 10 (nI r) (nI z) b f (pm m j u) = some (.inl 2, pm m j u) := by
  by_cases c : isLay b
  · simp (disch := omega) only [F_X11_scan, e_cl, e_jn, e_lt, e_cxl, e_cxr, e_rzn, ↓l_m1, ↓l_m2, ↓l_m8, l_0, l_1, l_2, l_3, l_4, l_5, l_6, l_7, l_8, l_9, l_10, l_12, l_16, l_20, l_24, l_31, l_32, l_35, l_36, l_40, l_44, l_48, l_59, l_63, l_64, l_90, l_95, l_96, l_100, l_120, l_127, l_200, l_216, l_255, l_999, l_1000, l_10000, l_1000000, l_1048575, l_1000000000, nI_add, pk_mul, pk_sub, nI_leI, nI_ltI, nI_eq, nI_dec, nI_o0, mx_n, mn_n, ab_1, ab_n, e_u2e, e_u2k, e_u2a, if_pos, if_neg, if_true, if_false, not_true, not_false_eq_true, ne_eq, Nat.add_zero, Nat.zero_add, cG_10 hc, cP_10 hc, cT_10 hc, cR_10_0 hc, cR_10_1 hc, cR_10_2 hc, cR_10_3 hc, cR_10_4 hc, cR_10_5 hc, cR_10_6 hc, cR_10_7 hc, cR_10_8 hc, C_roughOf hc hA hn hr, C_noLay0 c, C_noLay1 (fun w => hb ⟨c, w⟩)]
  · simp (disch := omega) only [F_X11_scan, e_cl, e_jn, e_lt, e_cxl, e_cxr, e_rzn, ↓l_m1, ↓l_m2, ↓l_m8, l_0, l_1, l_2, l_3, l_4, l_5, l_6, l_7, l_8, l_9, l_10, l_12, l_16, l_20, l_24, l_31, l_32, l_35, l_36, l_40, l_44, l_48, l_59, l_63, l_64, l_90, l_95, l_96, l_100, l_120, l_127, l_200, l_216, l_255, l_999, l_1000, l_10000, l_1000000, l_1048575, l_1000000000, nI_add, pk_mul, pk_sub, nI_leI, nI_ltI, nI_eq, nI_dec, nI_o0, mx_n, mn_n, ab_1, ab_n, e_u2e, e_u2k, e_u2a, if_pos, if_neg, if_true, if_false, not_true, not_false_eq_true, ne_eq, Nat.add_zero, Nat.zero_add, cG_10 hc, cP_10 hc, cT_10 hc, cR_10_0 hc, cR_10_1 hc, cR_10_2 hc, cR_10_3 hc, cR_10_4 hc, cR_10_5 hc, cR_10_6 hc, cR_10_7 hc, cR_10_8 hc, C_roughOf hc hA hn hr, C_noLay1 c]
theorem C_scan4 (hc : CS u) {nR r z B Fl : Nat} {sd : Nat → Bool} {bb : Nat → BST} (hA : CAr m j u nR sd bb) (hn : nR ≤ 10) (hr : r < nR) (hz : z < 6) (hB : B < 2 ^ 36) (hF : Fl < 2 ^ 36) : ∃ m' j', F_X11_scan 10 (nI r) (nI z) (lN B) (lN Fl) (pm m j u) = some (.inr (nI (fb_ct (fun i => B.testBit i && !Fl.testBit i) 36)), pm m' j' u) ∧ (∀ b, (b < 2000 ∨ 3000 ≤ b) → m' b = m b ∧ j' b = j b) ∧ ∀ bb', (∀ t, t ≠ r → bb' t = bb t) → CAr m' j' u nR (putS sd r z (fun i => B.testBit i && !Fl.testBit i)) bb' := by
  have hO := (hA.2.2 r hr).1
  have l1 : isLay (lN B) := (isLay_iff (by omega)).mpr hB
  have l2 : isLay (lN Fl) := (isLay_iff (by omega)).mpr hF
  have l3 := bN_lt (fun i => B.testBit i && !Fl.testBit i) 36
  refine ⟨u2 m (nmR r) 1 (nI 0), u2 j (nmR r + 1) z (lN (bN (fun i => B.testBit i && !Fl.testBit i) 36)), ?_, fun b hb => ⟨e_u2r (by unfold nmR; omega), e_v2r (by unfold nmR; omega)⟩, fun bb' hbb => ⟨hA.1, by rw [e_u2a (by unfold nmR; omega)]; exact hA.2.1, fun t ht => ?_⟩⟩
  · simp (disch := omega) only [F_X11_scan, e_cl, e_jn, e_lt, e_cxl, e_cxr, e_rzn, ↓l_m1, ↓l_m2, ↓l_m8, l_0, l_1, l_2, l_3, l_4, l_5, l_6, l_7, l_8, l_9, l_10, l_12, l_16, l_20, l_24, l_31, l_32, l_35, l_36, l_40, l_44, l_48, l_59, l_63, l_64, l_90, l_95, l_96, l_100, l_120, l_127, l_200, l_216, l_255, l_999, l_1000, l_10000, l_1000000, l_1048575, l_1000000000, nI_add, pk_mul, pk_sub, nI_leI, nI_ltI, nI_eq, nI_dec, nI_o0, mx_n, mn_n, ab_1, ab_n, e_u2e, e_u2k, e_u2a, if_pos, if_neg, if_true, if_false, not_true, not_false_eq_true, ne_eq, Nat.add_zero, Nat.zero_add, cG_10 hc, cP_10 hc, cT_10 hc, cR_10_0 hc, cR_10_1 hc, cR_10_2 hc, cR_10_3 hc, cR_10_4 hc, cR_10_5 hc, cR_10_6 hc, cR_10_7 hc, cR_10_8 hc, oG hO, oP hO, oZ hO, oT hO, oR0 hO, oR6 hO, oR7 hO, oA hO, oS hO, oG2 hO, oP2 hO, oT2 hO, oG3 hO, oP3 hO, oT3 hO, e_v2e, e_v2k, e_v2a, C_roughOf hc hA hn hr, C_noLay0 l1, C_noLay0 l2, andnot hB, C_bitCount, bN_ct]
  · by_cases e : t = r
    · subst e
      refine ⟨hO, fun z' hz' => ?_, Or.inl e_u2s⟩
      by_cases e2 : z' = z
      · subst e2
        rw [e_v2e rfl]
        refine congrArg lN ?_
        unfold lay rgh putS
        apply bN_cong
        intro i hi
        show _ = if 216 * t + 36 * z' ≤ 216 * t + (36 * z' + i) ∧ 216 * t + (36 * z' + i) < 216 * t + 36 * z' + 36 then B.testBit (216 * t + (36 * z' + i) - (216 * t + 36 * z')) && !Fl.testBit (216 * t + (36 * z' + i) - (216 * t + 36 * z')) else sd (216 * t + (36 * z' + i))
        rw [if_pos (by omega), show 216 * t + (36 * z' + i) - (216 * t + 36 * z') = i by omega]
      · rw [e_v2k e2, (hA.2.2 t ht).2.1 z' hz']
        refine congrArg lN ?_
        unfold lay rgh putS
        apply bN_cong
        intro i hi
        show _ = if 216 * t + 36 * z ≤ 216 * t + (36 * z' + i) ∧ 216 * t + (36 * z' + i) < 216 * t + 36 * z + 36 then _ else sd (216 * t + (36 * z' + i))
        rw [if_neg (by omega)]
    · have h1 := RO_fr (m' := u2 m (nmR r) 1 (nI 0)) (j' := u2 j (nmR r + 1) z (lN (bN (fun i => B.testBit i && !Fl.testBit i) 36))) (hA.2.2 t ht) (e_v2r (by unfold nmR; omega)) (e_u2r (by unfold nmR; omega)) (e_u2r (by unfold nmR; omega)) (e_u2r (by unfold nmR; omega))
      rw [hbb t e]
      refine ⟨h1.1, fun z' hz' => ?_, h1.2.2⟩
      rw [h1.2.1 z' hz']
      refine congrArg lN ?_
      unfold lay rgh putS
      apply bN_cong
      intro i hi
      show _ = if 216 * r + 36 * z ≤ 216 * t + (36 * z' + i) ∧ 216 * t + (36 * z' + i) < 216 * r + 36 * z + 36 then _ else sd (216 * t + (36 * z' + i))
      rw [if_neg (by omega)]
theorem C_stuffL {a : Nat} {S : Nat → Bool} (hO : RoO u a) (hj : ∀ z, z < 6 → j (a + 1) z = lN (lay S z)) (K : Int32 → PM → Option ((Nat ⊕ Int32) × PM)) : ∀ (d z fu : Nat), z + d = 6 → d < fu →
    F_X11_stuff_L11 a K fu (nI (fb_ct S (36 * z))) (nI z) (pm m j u) = K (nI (fb_ct S 216)) (pm m j u) := by
  intro d
  induction d with
  | zero =>
    intro z fu hz hfu
    obtain ⟨fu, rfl⟩ : ∃ g, fu = g + 1 := ⟨fu - 1, by omega⟩
    have e : z = 6 := by omega
    subst e
    simp (disch := omega) only [F_X11_stuff_L11, e_cl, e_jn, e_lt, e_cxl, e_cxr, e_rzn, ↓l_m1, ↓l_m2, ↓l_m8, l_0, l_1, l_2, l_3, l_4, l_5, l_6, l_7, l_8, l_9, l_10, l_12, l_16, l_20, l_24, l_31, l_32, l_35, l_36, l_40, l_44, l_48, l_59, l_63, l_64, l_90, l_95, l_96, l_100, l_120, l_127, l_200, l_216, l_255, l_999, l_1000, l_10000, l_1000000, l_1048575, l_1000000000, nI_add, pk_mul, pk_sub, nI_leI, nI_ltI, nI_eq, nI_dec, nI_o0, mx_n, mn_n, ab_1, ab_n, e_u2e, e_u2k, e_u2a, if_pos, if_neg, if_true, if_false, not_true, not_false_eq_true, ne_eq, Nat.add_zero, Nat.zero_add]
  | succ d ih =>
    intro z fu hz hfu
    obtain ⟨fu, rfl⟩ : ∃ g, fu = g + 1 := ⟨fu - 1, by omega⟩
    have hi := ih (z + 1) fu (by omega) (by omega)
    have l1 := lay_lt S z
    have l2 : fb_ct (lay S z).testBit 64 = fb_ct (fun i => S (36 * z + i)) 36 := bN_ct _ (by decide)
    rw [show 36 * (z + 1) = 36 * z + 36 by omega, fb_ct_split] at hi
    rw [F_X11_stuff_L11]
    simp (disch := omega) only [e_cl, e_jn, e_lt, e_cxl, e_cxr, e_rzn, ↓l_m1, ↓l_m2, ↓l_m8, l_0, l_1, l_2, l_3, l_4, l_5, l_6, l_7, l_8, l_9, l_10, l_12, l_16, l_20, l_24, l_31, l_32, l_35, l_36, l_40, l_44, l_48, l_59, l_63, l_64, l_90, l_95, l_96, l_100, l_120, l_127, l_200, l_216, l_255, l_999, l_1000, l_10000, l_1000000, l_1048575, l_1000000000, nI_add, pk_mul, pk_sub, nI_leI, nI_ltI, nI_eq, nI_dec, nI_o0, mx_n, mn_n, ab_1, ab_n, e_u2e, e_u2k, e_u2a, if_pos, if_neg, if_true, if_false, not_true, not_false_eq_true, ne_eq, Nat.add_zero, Nat.zero_add, oG hO, oP hO, oZ hO, oT hO, oR0 hO, oR6 hO, oR7 hO, oA hO, oS hO, oG2 hO, oP2 hO, oT2 hO, oG3 hO, oP3 hO, oT3 hO, hj z (by omega), C_bitCount, l2] at hi ⊢
    exact hi
theorem C_stuff1 (hc : CS u) {nR : Nat} {x : Int32} {sd : Nat → Bool} {bb : Nat → BST} (hA : CAr m j u nR sd bb) (hn : nR ≤ 10) (hx : ¬ ∃ s, s < nR ∧ x = nI s) : F_X11_stuff 10 x (pm m j u) = some (.inl 1, pm m j u) := by
  simp only [F_X11_stuff, cT_10 hc, C_roughNo hc hA hn hx, e_cxl]
theorem C_stuff2 (hc : CS u) {nR r : Nat} {sd : Nat → Bool} {bb : Nat → BST} (hA : CAr m j u nR sd bb) (hn : nR ≤ 10) (hr : r < nR) : F_X11_stuff 10 (nI r) (pm m j u) = some (.inr (nI (fb_ct (fun i => sd (216 * r + i)) 216)), pm m j u) := by
  obtain ⟨hO, hj, -⟩ := hA.2.2 r hr
  have h := fun K => C_stuffL (m := m) hO hj K 6 0 LF (by omega) (by unfold LF; omega)
  rw [show fb_ct (rgh sd r) (36 * 0) = 0 from rfl] at h
  simp (disch := omega) only [F_X11_stuff, e_cl, e_jn, e_lt, e_cxl, e_cxr, e_rzn, ↓l_m1, ↓l_m2, ↓l_m8, l_0, l_1, l_2, l_3, l_4, l_5, l_6, l_7, l_8, l_9, l_10, l_12, l_16, l_20, l_24, l_31, l_32, l_35, l_36, l_40, l_44, l_48, l_59, l_63, l_64, l_90, l_95, l_96, l_100, l_120, l_127, l_200, l_216, l_255, l_999, l_1000, l_10000, l_1000000, l_1048575, l_1000000000, nI_add, pk_mul, pk_sub, nI_leI, nI_ltI, nI_eq, nI_dec, nI_o0, mx_n, mn_n, ab_1, ab_n, e_u2e, e_u2k, e_u2a, if_pos, if_neg, if_true, if_false, not_true, not_false_eq_true, ne_eq, Nat.add_zero, Nat.zero_add, cG_10 hc, cP_10 hc, cT_10 hc, cR_10_0 hc, cR_10_1 hc, cR_10_2 hc, cR_10_3 hc, cR_10_4 hc, cR_10_5 hc, cR_10_6 hc, cR_10_7 hc, cR_10_8 hc, C_roughOf hc hA hn hr, h]
  rfl
theorem C_forgetL (hc : CS u) {nR : Nat} {sd : Nat → Bool} {bb : Nat → BST} (hn : nR ≤ 10) (K : PM → Option (Unit × PM)) : ∀ (d r fu : Nat) (m : IM), (∀ bb', (∀ t, r ≤ t → bb' t = bb t) → CAr m j u nR sd bb') → r + d = nR → d < fu →
    ∃ m', F_X11_forgetCuts_L2 10 K fu (nI r) (pm m j u) = K (pm m' j u) ∧ (∀ b, (b < 2000 ∨ 3000 ≤ b) → m' b = m b) ∧ ∀ bb', CAr m' j u nR sd bb' := by
  intro d
  induction d with
  | zero =>
    intro r fu m H hr hfu
    obtain ⟨fu, rfl⟩ : ∃ g, fu = g + 1 := ⟨fu - 1, by omega⟩
    have e : r = nR := by omega
    subst e
    have hA := H bb (fun _ _ => rfl)
    refine ⟨m, ?_, fun _ _ => rfl, fun bb' => ?_⟩
    · simp (disch := omega) only [F_X11_forgetCuts_L2, e_cl, e_jn, e_lt, e_cxl, e_cxr, e_rzn, ↓l_m1, ↓l_m2, ↓l_m8, l_0, l_1, l_2, l_3, l_4, l_5, l_6, l_7, l_8, l_9, l_10, l_12, l_16, l_20, l_24, l_31, l_32, l_35, l_36, l_40, l_44, l_48, l_59, l_63, l_64, l_90, l_95, l_96, l_100, l_120, l_127, l_200, l_216, l_255, l_999, l_1000, l_10000, l_1000000, l_1048575, l_1000000000, nI_add, pk_mul, pk_sub, nI_leI, nI_ltI, nI_eq, nI_dec, nI_o0, mx_n, mn_n, ab_1, ab_n, e_u2e, e_u2k, e_u2a, if_pos, if_neg, if_true, if_false, not_true, not_false_eq_true, ne_eq, Nat.add_zero, Nat.zero_add, cG_10 hc, cP_10 hc, cT_10 hc, cR_10_0 hc, cR_10_1 hc, cR_10_2 hc, cR_10_3 hc, cR_10_4 hc, cR_10_5 hc, cR_10_6 hc, cR_10_7 hc, cR_10_8 hc, cG_20 hc, cP_20 hc, cT_20 hc, C_size hA.1 hA.2.1]
    · have h := H (fun t => if t < r then bb' t else bb t) (fun t ht => if_neg (by omega))
      refine ⟨h.1, h.2.1, fun t ht => ?_⟩
      have := h.2.2 t ht
      simp only [if_pos ht] at this
      exact this
  | succ d ih =>
    intro r fu m H hr hfu
    obtain ⟨fu, rfl⟩ : ∃ g, fu = g + 1 := ⟨fu - 1, by omega⟩
    have hA := H bb (fun _ _ => rfl)
    have hO := (hA.2.2 r (by omega)).1
    obtain ⟨m', a1, a2, a3⟩ := ih (r + 1) fu (u2 m (nmR r) 1 (nI 0)) (fun bb' hbb => by
      have hB := H (fun t => if t = r then bb t else bb' t) (fun t ht => by
        by_cases e : t = r
        · exact if_pos e
        · rw [if_neg e]; exact hbb t (by omega))
      refine ⟨hB.1, by rw [e_u2a (by unfold nmR; omega)]; exact hB.2.1, fun t ht => ?_⟩
      by_cases e : t = r
      · subst e; exact ⟨hO, (hB.2.2 t ht).2.1, Or.inl e_u2s⟩
      · have := hB.2.2 t ht
        simp only [if_neg e] at this
        exact RO_fr this rfl (e_u2r (by unfold nmR; omega)) (e_u2r (by unfold nmR; omega)) (e_u2r (by unfold nmR; omega))) (by omega) (by omega)
    refine ⟨m', ?_, fun b hb => by rw [a2 b hb, e_u2r (by unfold nmR; omega)], a3⟩
    rw [F_X11_forgetCuts_L2]
    simp (disch := omega) only [e_cl, e_jn, e_lt, e_cxl, e_cxr, e_rzn, ↓l_m1, ↓l_m2, ↓l_m8, l_0, l_1, l_2, l_3, l_4, l_5, l_6, l_7, l_8, l_9, l_10, l_12, l_16, l_20, l_24, l_31, l_32, l_35, l_36, l_40, l_44, l_48, l_59, l_63, l_64, l_90, l_95, l_96, l_100, l_120, l_127, l_200, l_216, l_255, l_999, l_1000, l_10000, l_1000000, l_1048575, l_1000000000, nI_add, pk_mul, pk_sub, nI_leI, nI_ltI, nI_eq, nI_dec, nI_o0, mx_n, mn_n, ab_1, ab_n, e_u2e, e_u2k, e_u2a, if_pos, if_neg, if_true, if_false, not_true, not_false_eq_true, ne_eq, Nat.add_zero, Nat.zero_add, cG_10 hc, cP_10 hc, cT_10 hc, cR_10_0 hc, cR_10_1 hc, cR_10_2 hc, cR_10_3 hc, cR_10_4 hc, cR_10_5 hc, cR_10_6 hc, cR_10_7 hc, cR_10_8 hc, cG_20 hc, cP_20 hc, cT_20 hc, oG hO, oP hO, oZ hO, oT hO, oR0 hO, oR6 hO, oR7 hO, oA hO, oS hO, oG2 hO, oP2 hO, oT2 hO, oG3 hO, oP3 hO, oT3 hO, C_size hA.1 hA.2.1, C_get hA.1 hA.2.1 (show r < nR by omega)] at a1 ⊢
    exact a1
theorem C_forget (hc : CS u) {nR : Nat} {sd : Nat → Bool} {bb : Nat → BST} (hn : nR ≤ 10) (hA : CAr m j u nR sd bb) : ∃ m', F_X11_forgetCuts 10 (pm m j u) = some ((), pm m' j u) ∧ (∀ b, (b < 2000 ∨ 3000 ≤ b) → m' b = m b) ∧ ∀ bb', CAr m' j u nR sd bb' := by
  obtain ⟨m', a1, a2, a3⟩ := C_forgetL (j := j) (m := m) (bb := bb) hc hn (fun h1 => some ((), h1)) nR 0 LF (fun bb' h => by rw [show bb' = bb from funext fun t => h t (by omega)]; exact hA) (by omega) (by unfold LF; omega)
  refine ⟨m', ?_, a2, a3⟩
  simp (disch := omega) only [F_X11_forgetCuts, e_cl, e_jn, e_lt, e_cxl, e_cxr, e_rzn, ↓l_m1, ↓l_m2, ↓l_m8, l_0, l_1, l_2, l_3, l_4, l_5, l_6, l_7, l_8, l_9, l_10, l_12, l_16, l_20, l_24, l_31, l_32, l_35, l_36, l_40, l_44, l_48, l_59, l_63, l_64, l_90, l_95, l_96, l_100, l_120, l_127, l_200, l_216, l_255, l_999, l_1000, l_10000, l_1000000, l_1048575, l_1000000000, nI_add, pk_mul, pk_sub, nI_leI, nI_ltI, nI_eq, nI_dec, nI_o0, mx_n, mn_n, ab_1, ab_n, e_u2e, e_u2k, e_u2a, if_pos, if_neg, if_true, if_false, not_true, not_false_eq_true, ne_eq, Nat.add_zero, Nat.zero_add] at a1 ⊢
  exact a1
end CRO
