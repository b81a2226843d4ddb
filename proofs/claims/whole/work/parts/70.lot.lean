/-! ===== lots ===== -/
def anyB (p : Nat → Bool) : Nat → Bool
  | 0 => false
  | n + 1 => anyB p n || p n
theorem anyB_no {p : Nat → Bool} : ∀ {n : Nat}, anyB p n = false → ∀ k, k < n → p k = false
  | 0, _, k, hk => by omega
  | n + 1, h, k, hk => by
    rw [anyB, Bool.or_eq_false_iff] at h
    by_cases e : k = n
    · rw [e]; exact h.2
    · exact anyB_no h.1 k (by omega)
theorem anyB_yes {p : Nat → Bool} : ∀ {n : Nat}, anyB p n = true → ∃ k, k < n ∧ p k = true ∧ ∀ i, i < k → p i = false
  | 0, h => by cases h
  | n + 1, h => by
    cases c : anyB p n
    · rw [anyB, c, Bool.false_or] at h
      exact ⟨n, by omega, h, fun i hi => anyB_no c i hi⟩
    · obtain ⟨k, h1, h2, h3⟩ := anyB_yes c
      exact ⟨k, by omega, h2, h3⟩
theorem lgn_eq (x y : Int64) : (lg_cmp x y = nI 0) ↔ x = y := lg_cmp_eq x y
theorem sh_s {B n : Nat} (hB : B < 2 ^ 62) (hn : n < 64) : lN B >>> ((nI n).toInt64 &&& 63) = lN (B / 2 ^ n) := pf_shr (d := n) (by rw [wb_c n hn, wb_tb, wb_sm n hn, BitVec.toNat_ofNat, Nat.mod_eq_of_lt (by omega)]) hB
theorem bit0n {B n : Nat} (hB : B < 2 ^ 62) (hn : n < 64) : (lg_cmp ((lN B >>> ((nI n).toInt64 &&& 63)) &&& 1) 0 = nI 0) = (B.testBit n = false) := propext (bitS0 hB hn)
theorem bit1n {B n : Nat} (hB : B < 2 ^ 62) (hn : n < 64) : (lg_cmp ((lN B >>> ((nI n).toInt64 &&& 63)) &&& 1) 1 = nI 0) = (B.testBit n = true) := propext (bitS1 hB hn)
def lotB (a b : Nat) : Nat := b * 2 ^ 20 + a
theorem lotB_lt {a b : Nat} (ha : a < 2 ^ 20) (hb : b < 2 ^ 20) : lotB a b < 2 ^ 40 := by unfold lotB; omega
theorem lotR {a b : Nat} (ha : a < 2 ^ 20) (hb : b < 2 ^ 20) : ((nI b).toInt64 <<< ((nI 20).toInt64 &&& 63)) ||| (nI a).toInt64 = lN (lotB a b) := by
  rw [nI_l (n := b) (by omega), nI_l (n := a) (by omega), wb_shl b (by decide), fb_orL]
  unfold lotB
  rw [Nat.mul_comm b, Nat.two_pow_add_eq_or_of_lt ha]
theorem lotC {a b : Nat} (ha : a < 2 ^ 20) (hb : b < 2 ^ 20) : (nI a).toInt64 ||| ((nI b).toInt64 <<< ((nI 20).toInt64 &&& 63)) = lN (lotB a b) := by
  rw [← lotR ha hb]
  apply wb_inj
  rw [Int64.toBitVec_or, Int64.toBitVec_or, BitVec.or_comm]
theorem hi12 {x : Int32} : x &&& (-1048576) = 0 ↔ ∃ a, a < 2 ^ 20 ∧ x = nI a := by
  obtain ⟨n, hn, rfl⟩ := wb_of32 x
  have e : (-1048576 : Int32) = nI (2 ^ 32 - 2 ^ 20) := by decide
  have t : ∀ i, (2 ^ 32 - 2 ^ 20).testBit i = (decide (20 ≤ i) && decide (i < 32)) := fun i => by
    rw [show 2 ^ 32 - 2 ^ 20 = 2 ^ 32 - ((2 ^ 20 - 1) + 1) from by decide, Nat.testBit_two_pow_sub_succ (by decide), Nat.testBit_two_pow_sub_one]
    by_cases c : i < 20
    · rw [decide_eq_true c, decide_eq_false (by omega : ¬ 20 ≤ i)]; cases decide (i < 32) <;> rfl
    · rw [decide_eq_false c, decide_eq_true (by omega : 20 ≤ i)]; cases decide (i < 32) <;> rfl
  have tn : ∀ {a : Nat}, a < 2 ^ 32 → (nI a).toBitVec.toNat = a := fun {a} h => by show (BitVec.ofNat 32 a).toNat = a; rw [BitVec.toNat_ofNat, Nat.mod_eq_of_lt h]
  rw [e, fa_and]
  have hl : n &&& (2 ^ 32 - 2 ^ 20) < 2 ^ 32 := Nat.lt_of_le_of_lt Nat.and_le_left hn
  constructor
  · intro h
    have h0 : n &&& (2 ^ 32 - 2 ^ 20) = 0 := by
      have := congrArg (fun x : Int32 => x.toBitVec.toNat) h
      rw [tn hl] at this
      exact this
    refine ⟨n, Classical.byContradiction fun z => ?_, rfl⟩
    obtain ⟨i, h1, h2⟩ := Nat.exists_ge_and_testBit_of_ge_two_pow (Nat.not_lt.mp z)
    have := congrArg (fun x => Nat.testBit x i) h0
    have hi : i < 32 := Classical.byContradiction fun w => by
      rw [Nat.testBit_lt_two_pow (Nat.lt_of_lt_of_le hn (Nat.pow_le_pow_right (by decide) (by omega)))] at h2
      cases h2
    simp only [Nat.testBit_and, t, h2, decide_eq_true h1, decide_eq_true hi, Nat.zero_testBit] at this
    cases this
  · intro ⟨a, ha, h⟩
    have ea : n = a := by have := congrArg (fun x : Int32 => x.toBitVec.toNat) h; rw [tn hn, tn (by omega)] at this; exact this
    subst ea
    have h0 : n &&& (2 ^ 32 - 2 ^ 20) = 0 := by
      apply Nat.eq_of_testBit_eq
      intro i
      rw [Nat.testBit_and, t, Nat.zero_testBit]
      by_cases c : 20 ≤ i
      · rw [Nat.testBit_lt_two_pow (Nat.lt_of_lt_of_le ha (Nat.pow_le_pow_right (by decide) c)), Bool.false_and]
      · rw [decide_eq_false c, Bool.false_and, Bool.and_false]
    rw [h0]; rfl
def tkB (sg : Nat → Nat → Nat) (B s : Nat) : Bool := B.testBit s && (decide (sg s 6 ≠ 0) || decide (sg s 7 ≠ 0))
def lkB (sg : Nat → Nat → Nat) (B s : Nat) : Bool := B.testBit s && (decide (sg s 5 ≠ 0) && !B.testBit (sg s 5 - 1))
def lotS (sg : Nat → Nat → Nat) (B nL : Nat) : Nat → Nat → Nat := fun s k => if k = 6 ∧ B.testBit s = true then nL + 1 else sg s k
section LOT
variable {m : IM} {j : JM} {u : SU}
theorem oI_ne {q : Nat} (hq : q ≠ 0) (hb : q < 2 ^ 31) : (oI q = oI 0) = False := eq_false (fun z => hq ((oI_inj hb (by decide)).mp z))
theorem R_lotT (hs : RS u) {β : Type} {nS nL n : Nat} {sg ix an : Nat → Nat → Nat} {B : Nat} (hD : SD nS nL sg ix an) (hL : nL ≤ 6) (hA : RAs m nS sg ix an) (hn : n < nS) (hb : B.testBit n = true) (kk : Int32 → PM → Option β) :
    jn kk (fun k145 => jn (fun (h64 : PM) => k145 1 h64) fun k140 => if ¬ nI (anyB (tkB sg B) n).toNat = 0 then (k140 (pm m j u)) else (gR (pm m j u) 200 13 40 fun x65 => aI (pm m j u) x65 (nI n) fun x66 => if ¬ x66 = (-1) then (k140 (pm m j u)) else (gR (pm m j u) 200 13 41 fun x67 => aI (pm m j u) x67 (nI n) fun x68 => if x68 = (-1) then (k145 0 (pm m j u)) else (k140 (pm m j u))))) = kk (nI (anyB (tkB sg B) (n + 1)).toNat) (pm m j u) := by
  have hS := hD.1
  obtain ⟨a1, a2, a3, a4, a5, a6, a7, a8, a9⟩ := hA.2 n hn
  obtain ⟨d1, d2, d3, d4, d5, d6, d7, d8, d9, d10⟩ := hD.2 n hn
  rw [anyB]
  cases c : anyB (tkB sg B) n
  · rw [show (false || tkB sg B n) = tkB sg B n from rfl]
    unfold tkB
    rw [hb, Bool.true_and]
    by_cases c6 : sg n 6 = 0
    · by_cases c7 : sg n 7 = 0
      · simp (disch := omega) only [e_cl, e_jn, e_lt, e_cxl, e_cxr, e_rzn, ↓l_m1, ↓l_m2, ↓l_m8, l_0, l_1, l_2, l_3, l_4, l_5, l_6, l_7, l_8, l_9, l_10, l_12, l_16, l_20, l_24, l_31, l_32, l_35, l_36, l_40, l_44, l_48, l_59, l_63, l_64, l_90, l_95, l_96, l_100, l_120, l_127, l_200, l_216, l_255, l_999, l_1000, l_10000, l_1000000, l_1048575, l_1000000000, nI_add, pk_mul, pk_sub, nI_leI, nI_ltI, nI_eq, nI_dec, nI_o0, mx_n, mn_n, ab_1, ab_n, e_u2e, e_u2k, e_u2a, if_pos, if_neg, if_true, if_false, not_true, not_false_eq_true, ne_eq, Nat.add_zero, Nat.zero_add, rP hs, rI hs, rT hs, rR_40 hs, rA_225 hs, rS_225 hs, rR_41 hs, rA_226 hs, rS_226 hs, a7, a8, c6, c7, Bool.toNat_false, decide_false, decide_true, Bool.or_self]
      · simp (disch := omega) only [e_cl, e_jn, e_lt, e_cxl, e_cxr, e_rzn, ↓l_m1, ↓l_m2, ↓l_m8, l_0, l_1, l_2, l_3, l_4, l_5, l_6, l_7, l_8, l_9, l_10, l_12, l_16, l_20, l_24, l_31, l_32, l_35, l_36, l_40, l_44, l_48, l_59, l_63, l_64, l_90, l_95, l_96, l_100, l_120, l_127, l_200, l_216, l_255, l_999, l_1000, l_10000, l_1000000, l_1048575, l_1000000000, nI_add, pk_mul, pk_sub, nI_leI, nI_ltI, nI_eq, nI_dec, nI_o0, mx_n, mn_n, ab_1, ab_n, e_u2e, e_u2k, e_u2a, if_pos, if_neg, if_true, if_false, not_true, not_false_eq_true, ne_eq, Nat.add_zero, Nat.zero_add, rP hs, rI hs, rT hs, rR_40 hs, rA_225 hs, rS_225 hs, rR_41 hs, rA_226 hs, rS_226 hs, a7, a8, c6, oI_ne c7 (show sg n 7 < 2 ^ 31 by omega), Bool.toNat_false, decide_false, decide_true, Bool.or_true, Bool.toNat_true, c7]
    · simp (disch := omega) only [e_cl, e_jn, e_lt, e_cxl, e_cxr, e_rzn, ↓l_m1, ↓l_m2, ↓l_m8, l_0, l_1, l_2, l_3, l_4, l_5, l_6, l_7, l_8, l_9, l_10, l_12, l_16, l_20, l_24, l_31, l_32, l_35, l_36, l_40, l_44, l_48, l_59, l_63, l_64, l_90, l_95, l_96, l_100, l_120, l_127, l_200, l_216, l_255, l_999, l_1000, l_10000, l_1000000, l_1048575, l_1000000000, nI_add, pk_mul, pk_sub, nI_leI, nI_ltI, nI_eq, nI_dec, nI_o0, mx_n, mn_n, ab_1, ab_n, e_u2e, e_u2k, e_u2a, if_pos, if_neg, if_true, if_false, not_true, not_false_eq_true, ne_eq, Nat.add_zero, Nat.zero_add, rP hs, rI hs, rT hs, rR_40 hs, rA_225 hs, rS_225 hs, rR_41 hs, rA_226 hs, rS_226 hs, a7, oI_ne c6 (show sg n 6 < 2 ^ 31 by omega), Bool.toNat_false, decide_true, Bool.true_or, Bool.toNat_true, c6]
  · simp (disch := omega) only [e_cl, e_jn, e_lt, e_cxl, e_cxr, e_rzn, ↓l_m1, ↓l_m2, ↓l_m8, l_0, l_1, l_2, l_3, l_4, l_5, l_6, l_7, l_8, l_9, l_10, l_12, l_16, l_20, l_24, l_31, l_32, l_35, l_36, l_40, l_44, l_48, l_59, l_63, l_64, l_90, l_95, l_96, l_100, l_120, l_127, l_200, l_216, l_255, l_999, l_1000, l_10000, l_1000000, l_1048575, l_1000000000, nI_add, pk_mul, pk_sub, nI_leI, nI_ltI, nI_eq, nI_dec, nI_o0, mx_n, mn_n, ab_1, ab_n, e_u2e, e_u2k, e_u2a, if_pos, if_neg, if_true, if_false, not_true, not_false_eq_true, ne_eq, Nat.add_zero, Nat.zero_add, Bool.toNat_true, Bool.true_or]
theorem R_lotK (hs : RS u) {β : Type} {nS nL n : Nat} {sg ix an : Nat → Nat → Nat} {B : Nat} (hD : SD nS nL sg ix an) (hB : B < 2 ^ 62) (hA : RAs m nS sg ix an) (hn : n < nS) (hb : B.testBit n = true) (kk : Int32 → PM → Option β) :
    jn kk (fun k185 => jn (fun (h58 : PM) => k185 1 h58) fun k180 => if ¬ nI (anyB (lkB sg B) n).toNat = 0 then (k180 (pm m j u)) else (gR (pm m j u) 200 13 39 fun x59 => aI (pm m j u) x59 (nI n) fun x60 => jn (fun (h61 : PM) => k185 0 h61) fun k184 => if x60 = (-1) then (k184 (pm m j u)) else (gR (pm m j u) 200 13 39 fun x62 => aI (pm m j u) x62 (nI n) fun x63 => if ¬ (lg_cmp ((lN B >>> ((Int32.toInt64 x63) &&& 63)) &&& 1) 0) = 0 then (k184 (pm m j u)) else (k180 (pm m j u))))) = kk (nI (anyB (lkB sg B) (n + 1)).toNat) (pm m j u) := by
  have hS := hD.1
  obtain ⟨a1, a2, a3, a4, a5, a6, a7, a8, a9⟩ := hA.2 n hn
  obtain ⟨d1, d2, d3, d4, d5, d6, d7, d8, d9, d10⟩ := hD.2 n hn
  rw [anyB]
  cases c : anyB (lkB sg B) n
  · rw [show (false || lkB sg B n) = lkB sg B n from rfl]
    unfold lkB
    rw [hb, Bool.true_and]
    by_cases c5 : sg n 5 = 0
    · simp (disch := omega) only [e_cl, e_jn, e_lt, e_cxl, e_cxr, e_rzn, ↓l_m1, ↓l_m2, ↓l_m8, l_0, l_1, l_2, l_3, l_4, l_5, l_6, l_7, l_8, l_9, l_10, l_12, l_16, l_20, l_24, l_31, l_32, l_35, l_36, l_40, l_44, l_48, l_59, l_63, l_64, l_90, l_95, l_96, l_100, l_120, l_127, l_200, l_216, l_255, l_999, l_1000, l_10000, l_1000000, l_1048575, l_1000000000, nI_add, pk_mul, pk_sub, nI_leI, nI_ltI, nI_eq, nI_dec, nI_o0, mx_n, mn_n, ab_1, ab_n, e_u2e, e_u2k, e_u2a, if_pos, if_neg, if_true, if_false, not_true, not_false_eq_true, ne_eq, Nat.add_zero, Nat.zero_add, rP hs, rI hs, rT hs, rR_39 hs, rA_224 hs, rS_224 hs, a6, c5, Bool.toNat_false, decide_false, Bool.false_and]
    · have hb5 := bit0n (n := sg n 5 - 1) hB (by omega)
      cases c8 : B.testBit (sg n 5 - 1)
      · rw [c8] at hb5
        simp (disch := omega) only [e_cl, e_jn, e_lt, e_cxl, e_cxr, e_rzn, ↓l_m1, ↓l_m2, ↓l_m8, l_0, l_1, l_2, l_3, l_4, l_5, l_6, l_7, l_8, l_9, l_10, l_12, l_16, l_20, l_24, l_31, l_32, l_35, l_36, l_40, l_44, l_48, l_59, l_63, l_64, l_90, l_95, l_96, l_100, l_120, l_127, l_200, l_216, l_255, l_999, l_1000, l_10000, l_1000000, l_1048575, l_1000000000, nI_add, pk_mul, pk_sub, nI_leI, nI_ltI, nI_eq, nI_dec, nI_o0, mx_n, mn_n, ab_1, ab_n, e_u2e, e_u2k, e_u2a, if_pos, if_neg, if_true, if_false, not_true, not_false_eq_true, ne_eq, Nat.add_zero, Nat.zero_add, rP hs, rI hs, rT hs, rR_39 hs, rA_224 hs, rS_224 hs, a6, oI_p c5, hb5, Bool.toNat_false, decide_true, Bool.true_and, Bool.not_false, Bool.toNat_true, c5]
      · rw [c8] at hb5
        simp (disch := omega) only [e_cl, e_jn, e_lt, e_cxl, e_cxr, e_rzn, ↓l_m1, ↓l_m2, ↓l_m8, l_0, l_1, l_2, l_3, l_4, l_5, l_6, l_7, l_8, l_9, l_10, l_12, l_16, l_20, l_24, l_31, l_32, l_35, l_36, l_40, l_44, l_48, l_59, l_63, l_64, l_90, l_95, l_96, l_100, l_120, l_127, l_200, l_216, l_255, l_999, l_1000, l_10000, l_1000000, l_1048575, l_1000000000, nI_add, pk_mul, pk_sub, nI_leI, nI_ltI, nI_eq, nI_dec, nI_o0, mx_n, mn_n, ab_1, ab_n, e_u2e, e_u2k, e_u2a, if_pos, if_neg, if_true, if_false, not_true, not_false_eq_true, ne_eq, Nat.add_zero, Nat.zero_add, rP hs, rI hs, rT hs, rR_39 hs, rA_224 hs, rS_224 hs, a6, oI_p c5, hb5, Bool.toNat_false, decide_true, Bool.true_and, Bool.not_true, Bool.true_eq_false, c5]
  · simp (disch := omega) only [e_cl, e_jn, e_lt, e_cxl, e_cxr, e_rzn, ↓l_m1, ↓l_m2, ↓l_m8, l_0, l_1, l_2, l_3, l_4, l_5, l_6, l_7, l_8, l_9, l_10, l_12, l_16, l_20, l_24, l_31, l_32, l_35, l_36, l_40, l_44, l_48, l_59, l_63, l_64, l_90, l_95, l_96, l_100, l_120, l_127, l_200, l_216, l_255, l_999, l_1000, l_10000, l_1000000, l_1048575, l_1000000000, nI_add, pk_mul, pk_sub, nI_leI, nI_ltI, nI_eq, nI_dec, nI_o0, mx_n, mn_n, ab_1, ab_n, e_u2e, e_u2k, e_u2a, if_pos, if_neg, if_true, if_false, not_true, not_false_eq_true, ne_eq, Nat.add_zero, Nat.zero_add, Bool.toNat_true, Bool.true_or]
theorem R_L86 (hs : RS u) {nS nL : Nat} {sg ix an : Nat → Nat → Nat} {B : Nat} (hD : SD nS nL sg ix an) (hL : nL ≤ 6) (hB : B < 2 ^ 62) (hA : RAs m nS sg ix an) (K : Int32 → Int32 → Int32 → PM → Option (Int32 × PM)) : ∀ (d n fu : Nat), n + d = nS → d < fu →
    F_X12_lot_L86 200 (lN B) K fu (nI (fb_ct B.testBit n)) (nI (anyB (tkB sg B) n).toNat) (nI (anyB (lkB sg B) n).toNat) (nI n) (pm m j u) = K (nI (fb_ct B.testBit nS)) (nI (anyB (tkB sg B) nS).toNat) (nI (anyB (lkB sg B) nS).toNat) (pm m j u) := by
  have hS := hD.1
  intro d
  induction d with
  | zero =>
    intro n fu hn hfu
    obtain ⟨fu, rfl⟩ : ∃ g, fu = g + 1 := ⟨fu - 1, by omega⟩
    have e : n = nS := by omega
    subst e
    rw [F_X12_lot_L86, rI hs, hA.1, if_pos (nI_le (Nat.le_refl _) (by omega))]
  | succ d ih =>
    intro n fu hn hfu
    obtain ⟨fu, rfl⟩ : ∃ g, fu = g + 1 := ⟨fu - 1, by omega⟩
    have hi := ih (n + 1) fu (by omega) (by omega)
    rw [F_X12_lot_L86, rI hs, hA.1, if_neg (nI_ge (by omega) (by omega)), e_jn]
    have b0 := bitS0 (B := B) (n := n) hB (by omega)
    cases hb : B.testBit n
    · rw [if_neg (fun z => z (b0.mpr hb))]
      rw [fb_ct_succ, hb, anyB, anyB, show tkB sg B n = false by unfold tkB; rw [hb]; rfl, show lkB sg B n = false by unfold lkB; rw [hb]; rfl, Bool.or_false, Bool.or_false] at hi
      simp only [nI_1] at hi ⊢
      exact hi
    · rw [if_pos (fun z => by rw [b0.mp z] at hb; cases hb)]
      rw [R_lotT hs hD hL hA (by omega) hb, R_lotK hs hD hB hA (by omega) hb]
      rw [fb_ct_succ, hb] at hi
      simp only [nI_1] at hi ⊢
      exact hi
theorem lN_z {B n : Nat} (hB : B < 2 ^ 62) (h : B < 2 ^ n) : (lN (B / 2 ^ n) = 0) = True := eq_true (by rw [Nat.div_eq_of_lt h]; rfl)
theorem lN_nz {B n : Nat} (hB : B < 2 ^ 62) (h : ¬ B < 2 ^ n) : (lN (B / 2 ^ n) = 0) = False := eq_false (fun z => by
  have hp := Nat.two_pow_pos n
  have h1 : 0 < B / 2 ^ n := Nat.div_pos (by omega) hp
  have h2 : B / 2 ^ n ≤ B := Nat.div_le_self _ _
  have := (fb_lN_inj (a := B / 2 ^ n) (b := 0) (by omega) (by decide)).mp z
  omega)
def lotOk (nS : Nat) (x y : Int32) : Prop := ∃ a b, a < 2 ^ 20 ∧ b < 2 ^ 20 ∧ x = nI a ∧ y = nI b ∧ lotB a b < 2 ^ nS
def lotK (XB : Int64) (v14 v15 v16 : Int32) (h17 : PM) : Option (Int32 × PM) := cl (F_X12_within v14 1 10 h17) fun r18 h19 => if ¬ r18 = 0 then (if v15 = 0 then (if v16 = 0 then (gI h19 200 13 51 fun x21 => if ¬ x21 = 6 then (jn (fun  (h22 : PM) => jn (fun  (h23 : PM) => gI h23 200 13 51 fun x24 => pI h23 200 13 51 (x24 + 1) fun h25 => gI h25 200 13 51 fun x26 => some (x26 - 1, h25)) fun k305 => F_X12_lot_L278 200 k305 LF 0 h22) fun k275 => F_X12_lot_L237 200 XB k275 LF 0 h19) else (some ((-4), h19))) else (some ((-3), h19))) else (some ((-2), h19))) else (some ((-1), h19))
theorem R_lotTop (hs : RS u) {nS a b : Nat} (hn : m 200 32 = nI nS) (hS : nS ≤ 40) (ha : a < 2 ^ 20) (hb : b < 2 ^ 20) : F_X12_lot 200 (nI a) (nI b) (pm m j u) = if lotB a b < 2 ^ nS then F_X12_lot_L86 200 (lN (lotB a b)) (lotK (lN (lotB a b))) LF 0 0 0 0 (pm (u2 m 200 0 0) j u) else some (0, pm (u2 (u2 m 200 0 0) 200 0 1) j u) := by
  have hB := lotB_lt ha hb
  have g1 : ¬ (nI a < 0 ∨ 1048575 < nI a) := nx_in (n := a) (lo := 0) (hi := 1048575) (by omega) (by omega) (by decide)
  have g2 : ¬ (nI b < 0 ∨ 1048575 < nI b) := nx_in (n := b) (lo := 0) (hi := 1048575) (by omega) (by omega) (by decide)
  have w1 : ∀ h, F_X12_within (nI a) 0 1048575 h = some (1, h) := fun h => by rw [R_within, if_neg g1]
  have w2 : ∀ h, F_X12_within (nI b) 0 1048575 h = some (1, h) := fun h => by rw [R_within, if_neg g2]
  have n1 : ¬ (1 : Int32) = 0 := by decide
  have eB : ((Int32.toInt64 (nI b)) <<< ((Int32.toInt64 20) &&& 63)) ||| (Int32.toInt64 (nI a)) = lN (lotB a b) := lotR ha hb
  unfold F_X12_lot
  rw [rP hs, w1, e_cl, e_jn, e_jn, if_neg n1, w2, e_cl, if_neg n1]
  dsimp only
  rw [e_lt, eB, e_jn, e_jn, if_neg n1, rI hs, e_u2k (by decide), hn, sh_s (by omega) (by omega)]
  by_cases c : lotB a b < 2 ^ nS
  · rw [if_pos c, if_neg (fun z => z ((lg_cmp_eq _ _).mpr (of_eq_true (lN_z (by omega) c))))]
    dsimp only
    rw [rT hs, R_may1 hs th0, e_cl, if_pos n1, e_jn]
    rfl
  · rw [if_neg c, if_pos (fun z => of_eq_false (lN_nz (by omega) c) ((lg_cmp_eq _ _).mp z))]
    dsimp only
    rw [rT hs, R_may0 hs th0 (by decide), e_cl, if_neg (fun z => z rfl)]
theorem R_lot1 (hs : RS u) {nS : Nat} {x y : Int32} (hn : m 200 32 = nI nS) (hS : nS ≤ 40) (hx : ¬ lotOk nS x y) : F_X12_lot 200 x y (pm m j u) = some (0, pm (u2 (u2 m 200 0 0) 200 0 1) j u) := by
  have e2 := R_may0 (j := j) hs (m := u2 m 200 0 0) th0 (show (1 : Int32) ≠ 0 by decide)
  by_cases c1 : x < 0 ∨ 1048575 < x
  · simp only [F_X12_lot, rP hs, rI hs, rT hs, e_cl, e_jn, e_lt, e_rz0, e_rz1, e_u2s, e_u2k, e_u2a, R_within, i10, i00, i01, if_true, if_false, not_true, not_false_eq_true, ne_eq, if_pos c1, e2]
  · by_cases c2 : y < 0 ∨ 1048575 < y
    · simp only [F_X12_lot, rP hs, rI hs, rT hs, e_cl, e_jn, e_lt, e_rz0, e_rz1, e_u2s, e_u2k, e_u2a, R_within, i10, i00, i01, if_true, if_false, not_true, not_false_eq_true, ne_eq, if_neg c1, if_pos c2, e2]
    · obtain ⟨a, -, ha, rfl⟩ := w_of (lo := 0) (hi := 1048575) c1 (by decide) (by decide)
      obtain ⟨b, -, hb, rfl⟩ := w_of (lo := 0) (hi := 1048575) c2 (by decide) (by decide)
      rw [R_lotTop hs hn hS (by omega) (by omega), if_neg (fun w => hx ⟨a, b, by omega, by omega, rfl, rfl, w⟩)]
theorem R_L237 (hs : RS u) {nS nL B : Nat} (hS : nS ≤ 40) (hL : nL ≤ 6) (hB : B < 2 ^ 62) (K : PM → Option (Int32 × PM)) : ∀ (d n fu : Nat) (m : IM), m 200 32 = nI nS → m 200 51 = nI nL → n + d = nS → d < fu →
    ∃ m', F_X12_lot_L237 200 (lN B) K fu (nI n) (pm m j u) = K (pm m' j u) ∧ (∀ b, b ≠ 225 → m' b = m b) ∧ (∀ i, i < n → m' 225 i = m 225 i) ∧ ∀ i, n ≤ i → i < nS → m' 225 i = if B.testBit i then nI nL else m 225 i := by
  intro d
  induction d with
  | zero =>
    intro n fu m h1 h2 hn hfu
    obtain ⟨fu, rfl⟩ : ∃ g, fu = g + 1 := ⟨fu - 1, by omega⟩
    have e : n = nS := by omega
    subst e
    refine ⟨m, ?_, fun _ _ => rfl, fun _ _ => rfl, fun i h1 h2 => by omega⟩
    simp (disch := omega) only [F_X12_lot_L237, e_cl, e_jn, e_lt, e_cxl, e_cxr, e_rzn, ↓l_m1, ↓l_m2, ↓l_m8, l_0, l_1, l_2, l_3, l_4, l_5, l_6, l_7, l_8, l_9, l_10, l_12, l_16, l_20, l_24, l_31, l_32, l_35, l_36, l_40, l_44, l_48, l_59, l_63, l_64, l_90, l_95, l_96, l_100, l_120, l_127, l_200, l_216, l_255, l_999, l_1000, l_10000, l_1000000, l_1048575, l_1000000000, nI_add, pk_mul, pk_sub, nI_leI, nI_ltI, nI_eq, nI_dec, nI_o0, mx_n, mn_n, ab_1, ab_n, e_u2e, e_u2k, e_u2a, if_pos, if_neg, if_true, if_false, not_true, not_false_eq_true, ne_eq, Nat.add_zero, Nat.zero_add, rP hs, rI hs, rT hs, h1]
  | succ d ih =>
    intro n fu m h1 h2 hn hfu
    obtain ⟨fu, rfl⟩ : ∃ g, fu = g + 1 := ⟨fu - 1, by omega⟩
    have hb := bit1n (B := B) (n := n) hB (by omega)
    cases c : B.testBit n
    · rw [c] at hb
      obtain ⟨m', i1, i2, i3, i4⟩ := ih (n + 1) fu m h1 h2 (by omega) (by omega)
      refine ⟨m', ?_, i2, fun i hi => i3 i (by omega), fun i g1 g2 => ?_⟩
      · rw [F_X12_lot_L237]
        simp (disch := omega) only [e_cl, e_jn, e_lt, e_cxl, e_cxr, e_rzn, ↓l_m1, ↓l_m2, ↓l_m8, l_0, l_1, l_2, l_3, l_4, l_5, l_6, l_7, l_8, l_9, l_10, l_12, l_16, l_20, l_24, l_31, l_32, l_35, l_36, l_40, l_44, l_48, l_59, l_63, l_64, l_90, l_95, l_96, l_100, l_120, l_127, l_200, l_216, l_255, l_999, l_1000, l_10000, l_1000000, l_1048575, l_1000000000, nI_add, pk_mul, pk_sub, nI_leI, nI_ltI, nI_eq, nI_dec, nI_o0, mx_n, mn_n, ab_1, ab_n, e_u2e, e_u2k, e_u2a, if_pos, if_neg, if_true, if_false, not_true, not_false_eq_true, ne_eq, Nat.add_zero, Nat.zero_add, rP hs, rI hs, rT hs, h1, hb, Bool.false_eq_true] at i1 ⊢
        exact i1
      · by_cases e : i = n
        · subst e; rw [i3 _ (by omega), c]; rfl
        · exact i4 i (by omega) g2
    · rw [c] at hb
      obtain ⟨m', i1, i2, i3, i4⟩ := ih (n + 1) fu (u2 m 225 n (nI nL)) (by rw [e_u2a (by decide)]; exact h1) (by rw [e_u2a (by decide)]; exact h2) (by omega) (by omega)
      refine ⟨m', ?_, fun b h => by rw [i2 b h, e_u2r h], fun i hi => by rw [i3 i (by omega), e_u2k (by omega)], fun i g1 g2 => ?_⟩
      · rw [F_X12_lot_L237]
        simp (disch := omega) only [e_cl, e_jn, e_lt, e_cxl, e_cxr, e_rzn, ↓l_m1, ↓l_m2, ↓l_m8, l_0, l_1, l_2, l_3, l_4, l_5, l_6, l_7, l_8, l_9, l_10, l_12, l_16, l_20, l_24, l_31, l_32, l_35, l_36, l_40, l_44, l_48, l_59, l_63, l_64, l_90, l_95, l_96, l_100, l_120, l_127, l_200, l_216, l_255, l_999, l_1000, l_10000, l_1000000, l_1048575, l_1000000000, nI_add, pk_mul, pk_sub, nI_leI, nI_ltI, nI_eq, nI_dec, nI_o0, mx_n, mn_n, ab_1, ab_n, e_u2e, e_u2k, e_u2a, if_pos, if_neg, if_true, if_false, not_true, not_false_eq_true, ne_eq, Nat.add_zero, Nat.zero_add, rP hs, rI hs, rT hs, rR_40 hs, rA_225 hs, rS_225 hs, h1, h2, hb] at i1 ⊢
        exact i1
      · by_cases e : i = n
        · subst e; rw [i3 _ (by omega), c, e_u2s]; rfl
        · rw [i4 i (by omega) g2, e_u2k e]
theorem R_L278 (hs : RS u) {nL : Nat} (hL : nL < 6) (K : PM → Option (Int32 × PM)) : ∀ (d n fu : Nat) (m : IM), m 200 51 = nI nL → n + d = 4 → d < fu →
    ∃ m', F_X12_lot_L278 200 K fu (nI n) (pm m j u) = K (pm m' j u) ∧ (∀ b, b ≠ 233 → m' b = m b) ∧ (∀ i, i < 4 * nL + n → m' 233 i = m 233 i) ∧ ∀ i, 4 * nL + n ≤ i → i < 4 * nL + 4 → m' 233 i = nI 0 := by
  intro d
  induction d with
  | zero =>
    intro n fu m h2 hn hfu
    obtain ⟨fu, rfl⟩ : ∃ g, fu = g + 1 := ⟨fu - 1, by omega⟩
    have e : n = 4 := by omega
    subst e
    refine ⟨m, ?_, fun _ _ => rfl, fun _ _ => rfl, fun i h1 h2 => by omega⟩
    simp (disch := omega) only [F_X12_lot_L278, e_cl, e_jn, e_lt, e_cxl, e_cxr, e_rzn, ↓l_m1, ↓l_m2, ↓l_m8, l_0, l_1, l_2, l_3, l_4, l_5, l_6, l_7, l_8, l_9, l_10, l_12, l_16, l_20, l_24, l_31, l_32, l_35, l_36, l_40, l_44, l_48, l_59, l_63, l_64, l_90, l_95, l_96, l_100, l_120, l_127, l_200, l_216, l_255, l_999, l_1000, l_10000, l_1000000, l_1048575, l_1000000000, nI_add, pk_mul, pk_sub, nI_leI, nI_ltI, nI_eq, nI_dec, nI_o0, mx_n, mn_n, ab_1, ab_n, e_u2e, e_u2k, e_u2a, if_pos, if_neg, if_true, if_false, not_true, not_false_eq_true, ne_eq, Nat.add_zero, Nat.zero_add, rP hs, rI hs, rT hs]
  | succ d ih =>
    intro n fu m h2 hn hfu
    obtain ⟨fu, rfl⟩ : ∃ g, fu = g + 1 := ⟨fu - 1, by omega⟩
    obtain ⟨m', i1, i2, i3, i4⟩ := ih (n + 1) fu (u2 m 233 (4 * nL + n) (nI 0)) (by rw [e_u2a (by decide)]; exact h2) (by omega) (by omega)
    refine ⟨m', ?_, fun b h => by rw [i2 b h, e_u2r h], fun i hi => by rw [i3 i (by omega), e_u2k (by omega)], fun i g1 g2 => ?_⟩
    · rw [F_X12_lot_L278]
      simp (disch := omega) only [e_cl, e_jn, e_lt, e_cxl, e_cxr, e_rzn, ↓l_m1, ↓l_m2, ↓l_m8, l_0, l_1, l_2, l_3, l_4, l_5, l_6, l_7, l_8, l_9, l_10, l_12, l_16, l_20, l_24, l_31, l_32, l_35, l_36, l_40, l_44, l_48, l_59, l_63, l_64, l_90, l_95, l_96, l_100, l_120, l_127, l_200, l_216, l_255, l_999, l_1000, l_10000, l_1000000, l_1048575, l_1000000000, nI_add, pk_mul, pk_sub, nI_leI, nI_ltI, nI_eq, nI_dec, nI_o0, mx_n, mn_n, ab_1, ab_n, e_u2e, e_u2k, e_u2a, if_pos, if_neg, if_true, if_false, not_true, not_false_eq_true, ne_eq, Nat.add_zero, Nat.zero_add, rP hs, rI hs, rT hs, rR_53 hs, rA_233 hs, rS_233 hs, h2] at i1 ⊢
      exact i1
    · by_cases e : i = 4 * nL + n
      · subst e; rw [i3 _ (by omega), e_u2s]
      · exact i4 i (by omega) g2
/-- what a lot of good bits answers -/
def lotA (sg : Nat → Nat → Nat) (nS nL B : Nat) : Int32 := if fb_ct B.testBit nS < 1 ∨ 10 < fb_ct B.testBit nS then -1 else if anyB (tkB sg B) nS = true then -2 else if anyB (lkB sg B) nS = true then -3 else if nL = 6 then -4 else nI nL
def lotGood (sg : Nat → Nat → Nat) (nS nL B : Nat) : Prop := ¬ (fb_ct B.testBit nS < 1 ∨ 10 < fb_ct B.testBit nS) ∧ ¬ anyB (tkB sg B) nS = true ∧ ¬ anyB (lkB sg B) nS = true ∧ ¬ nL = 6
theorem R_lot2 (hs : RS u) {nS nL a b : Nat} {sg ix an : Nat → Nat → Nat} {br : Int32} {bd lm : Nat → Nat} (hD : SD nS nL sg ix an) (hLD : LD nL bd lm) (hA : RAs m nS sg ix an) (hL : RAl m nL br bd lm) (ha : a < 2 ^ 20) (hb : b < 2 ^ 20) (hB : lotB a b < 2 ^ nS) : ∃ m', F_X12_lot 200 (nI a) (nI b) (pm m j u) = some (lotA sg nS nL (lotB a b), pm m' j u) ∧ m' 200 0 = 0 ∧ Fr [225, 233] [0, 51] m m' ∧
    (¬ lotGood sg nS nL (lotB a b) → RAs m' nS sg ix an ∧ RAl m' nL br bd lm) ∧ (lotGood sg nS nL (lotB a b) → RAs m' nS (lotS sg (lotB a b) nL) ix an ∧ RAl m' (nL + 1) br bd lm) := by
  have hS := hD.1
  have hL6 := hLD.1
  have hB40 := lotB_lt ha hb
  have hz := lN_z (B := lotB a b) (n := nS) (by omega) hB
  have hA' : RAs (u2 m 200 0 0) nS sg ix an := RAs_fr hA (Fr.fld (A := []) (K := [0]) List.mem_cons_self) (by decide) (by decide)
  have hL' : RAl (u2 m 200 0 0) nL br bd lm := RAl_fr hL (Fr.fld (A := []) (K := [0]) List.mem_cons_self) (by decide) (by decide) (by decide) (by decide)
  have h86 := fun K => R_L86 (j := j) (B := lotB a b) hs hD hL6 (by omega) hA' K nS 0 LF (by omega) (by unfold LF; omega)
  rw [show fb_ct (lotB a b).testBit 0 = 0 from rfl, show anyB (tkB sg (lotB a b)) 0 = false from rfl, show anyB (lkB sg (lotB a b)) 0 = false from rfl, show false.toNat = 0 from rfl] at h86
  simp only [l_0] at h86
  rw [R_lotTop hs hA.1 hS ha hb, if_pos hB]
  have hc := fb_ct_le (lotB a b).testBit nS
  have fin : ∀ X, ¬ lotGood sg nS nL (lotB a b) → F_X12_lot_L86 200 (lN (lotB a b)) (lotK (lN (lotB a b))) LF 0 0 0 0 (pm (u2 m 200 0 0) j u) = some (X, pm (u2 m 200 0 0) j u) → X = lotA sg nS nL (lotB a b) → ∃ m', F_X12_lot_L86 200 (lN (lotB a b)) (lotK (lN (lotB a b))) LF 0 0 0 0 (pm (u2 m 200 0 0) j u) = some (lotA sg nS nL (lotB a b), pm m' j u) ∧ m' 200 0 = 0 ∧ Fr [225, 233] [0, 51] m m' ∧ (¬ lotGood sg nS nL (lotB a b) → RAs m' nS sg ix an ∧ RAl m' nL br bd lm) ∧ (lotGood sg nS nL (lotB a b) → RAs m' nS (lotS sg (lotB a b) nL) ix an ∧ RAl m' (nL + 1) br bd lm) := fun X hg hF hX => ⟨u2 m 200 0 0, by rw [hF, hX], th0, Fr.fld (by decide), fun _ => ⟨hA', hL'⟩, fun g => absurd g hg⟩
  by_cases c1 : fb_ct (lotB a b).testBit nS < 1 ∨ 10 < fb_ct (lotB a b).testBit nS
  · refine fin (-1) (fun g => g.1 c1) ?_ (by unfold lotA; rw [if_pos c1])
    simp (disch := omega) only [e_cl, e_jn, e_lt, e_cxl, e_cxr, e_rzn, ↓l_m1, ↓l_m2, ↓l_m8, l_0, l_1, l_2, l_3, l_4, l_5, l_6, l_7, l_8, l_9, l_10, l_12, l_16, l_20, l_24, l_31, l_32, l_35, l_36, l_40, l_44, l_48, l_59, l_63, l_64, l_90, l_95, l_96, l_100, l_120, l_127, l_200, l_216, l_255, l_999, l_1000, l_10000, l_1000000, l_1048575, l_1000000000, nI_add, pk_mul, pk_sub, nI_leI, nI_ltI, nI_eq, nI_dec, nI_o0, mx_n, mn_n, ab_1, ab_n, e_u2e, e_u2k, e_u2a, if_pos, if_neg, if_true, if_false, not_true, not_false_eq_true, ne_eq, Nat.add_zero, Nat.zero_add, rP hs, rI hs, rT hs, R_within, h86, lotK]
  · by_cases c2 : anyB (tkB sg (lotB a b)) nS = true
    · refine fin (-2) (fun g => g.2.1 c2) ?_ (by unfold lotA; rw [if_neg c1, if_pos c2])
      have t := tb0 c2
      simp (disch := omega) only [e_cl, e_jn, e_lt, e_cxl, e_cxr, e_rzn, ↓l_m1, ↓l_m2, ↓l_m8, l_0, l_1, l_2, l_3, l_4, l_5, l_6, l_7, l_8, l_9, l_10, l_12, l_16, l_20, l_24, l_31, l_32, l_35, l_36, l_40, l_44, l_48, l_59, l_63, l_64, l_90, l_95, l_96, l_100, l_120, l_127, l_200, l_216, l_255, l_999, l_1000, l_10000, l_1000000, l_1048575, l_1000000000, nI_add, pk_mul, pk_sub, nI_leI, nI_ltI, nI_eq, nI_dec, nI_o0, mx_n, mn_n, ab_1, ab_n, e_u2e, e_u2k, e_u2a, if_pos, if_neg, if_true, if_false, not_true, not_false_eq_true, ne_eq, Nat.add_zero, Nat.zero_add, rP hs, rI hs, rT hs, R_within, h86, lotK]
    · have t := tb1 (ts_nt c2)
      by_cases c3 : anyB (lkB sg (lotB a b)) nS = true
      · refine fin (-3) (fun g => g.2.2.1 c3) ?_ (by unfold lotA; rw [if_neg c1, if_neg c2, if_pos c3])
        have t' := tb0 c3
        simp (disch := omega) only [e_cl, e_jn, e_lt, e_cxl, e_cxr, e_rzn, ↓l_m1, ↓l_m2, ↓l_m8, l_0, l_1, l_2, l_3, l_4, l_5, l_6, l_7, l_8, l_9, l_10, l_12, l_16, l_20, l_24, l_31, l_32, l_35, l_36, l_40, l_44, l_48, l_59, l_63, l_64, l_90, l_95, l_96, l_100, l_120, l_127, l_200, l_216, l_255, l_999, l_1000, l_10000, l_1000000, l_1048575, l_1000000000, nI_add, pk_mul, pk_sub, nI_leI, nI_ltI, nI_eq, nI_dec, nI_o0, mx_n, mn_n, ab_1, ab_n, e_u2e, e_u2k, e_u2a, if_pos, if_neg, if_true, if_false, not_true, not_false_eq_true, ne_eq, Nat.add_zero, Nat.zero_add, rP hs, rI hs, rT hs, R_within, h86, lotK]
      · have t' := tb1 (ts_nt c3)
        by_cases c4 : nL = 6
        · refine fin (-4) (fun g => g.2.2.2 c4) ?_ (by unfold lotA; rw [if_neg c1, if_neg c2, if_neg c3, if_pos c4])
          simp (disch := omega) only [e_cl, e_jn, e_lt, e_cxl, e_cxr, e_rzn, ↓l_m1, ↓l_m2, ↓l_m8, l_0, l_1, l_2, l_3, l_4, l_5, l_6, l_7, l_8, l_9, l_10, l_12, l_16, l_20, l_24, l_31, l_32, l_35, l_36, l_40, l_44, l_48, l_59, l_63, l_64, l_90, l_95, l_96, l_100, l_120, l_127, l_200, l_216, l_255, l_999, l_1000, l_10000, l_1000000, l_1048575, l_1000000000, nI_add, pk_mul, pk_sub, nI_leI, nI_ltI, nI_eq, nI_dec, nI_o0, mx_n, mn_n, ab_1, ab_n, e_u2e, e_u2k, e_u2a, if_pos, if_neg, if_true, if_false, not_true, not_false_eq_true, ne_eq, Nat.add_zero, Nat.zero_add, rP hs, rI hs, rT hs, R_within, h86, lotK, hL.1, c4]
        · have hgood : lotGood sg nS nL (lotB a b) := ⟨c1, c2, c3, c4⟩
          obtain ⟨m1, a1, a2, a3, a4⟩ := R_L237 (j := j) (B := lotB a b) hs hS hL6 (by omega) (fun h22 => F_X12_lot_L278 200 (fun h23 => gI h23 200 13 51 fun x24 => pI h23 200 13 51 (x24 + 1) fun h25 => gI h25 200 13 51 fun x26 => some (x26 - 1, h25)) LF 0 h22) nS 0 LF (u2 m 200 0 0) (by rw [e_u2k (by decide)]; exact hA.1) (by rw [e_u2k (by decide)]; exact hL.1) (by omega) (by unfold LF; omega)
          obtain ⟨m2, b1, b2, b3, b4⟩ := R_L278 (j := j) (nL := nL) hs (by omega) (fun h23 => gI h23 200 13 51 fun x24 => pI h23 200 13 51 (x24 + 1) fun h25 => gI h25 200 13 51 fun x26 => some (x26 - 1, h25)) 4 0 LF m1 (by rw [a2 200 (by decide), e_u2k (by decide)]; exact hL.1) (by omega) (by unfold LF; omega)
          have h51 : m2 200 51 = nI nL := by rw [b2 200 (by decide), a2 200 (by decide), e_u2k (by decide)]; exact hL.1
          refine ⟨u2 m2 200 51 (nI (nL + 1)), ?_, ?_, ⟨fun x h1 h2 => ?_, fun k hk => ?_⟩, fun g => absurd hgood g, fun _ => ⟨⟨?_, fun s hs' => ?_⟩, ?_, ?_, fun i hi => ?_, fun i hi => ?_⟩⟩
          · unfold lotA
            rw [if_neg c1, if_neg c2, if_neg c3, if_neg c4]
            simp (disch := omega) only [e_cl, e_jn, e_lt, e_cxl, e_cxr, e_rzn, ↓l_m1, ↓l_m2, ↓l_m8, l_0, l_1, l_2, l_3, l_4, l_5, l_6, l_7, l_8, l_9, l_10, l_12, l_16, l_20, l_24, l_31, l_32, l_35, l_36, l_40, l_44, l_48, l_59, l_63, l_64, l_90, l_95, l_96, l_100, l_120, l_127, l_200, l_216, l_255, l_999, l_1000, l_10000, l_1000000, l_1048575, l_1000000000, nI_add, pk_mul, pk_sub, nI_leI, nI_ltI, nI_eq, nI_dec, nI_o0, mx_n, mn_n, ab_1, ab_n, e_u2e, e_u2k, e_u2a, if_pos, if_neg, if_true, if_false, not_true, not_false_eq_true, ne_eq, Nat.add_zero, Nat.zero_add, rP hs, rI hs, rT hs, R_within, h86, lotK, hL.1] at a1 b1 ⊢
            rw [a1, b1]
            simp (disch := omega) only [e_cl, e_jn, e_lt, e_cxl, e_cxr, e_rzn, ↓l_m1, ↓l_m2, ↓l_m8, l_0, l_1, l_2, l_3, l_4, l_5, l_6, l_7, l_8, l_9, l_10, l_12, l_16, l_20, l_24, l_31, l_32, l_35, l_36, l_40, l_44, l_48, l_59, l_63, l_64, l_90, l_95, l_96, l_100, l_120, l_127, l_200, l_216, l_255, l_999, l_1000, l_10000, l_1000000, l_1048575, l_1000000000, nI_add, pk_mul, pk_sub, nI_leI, nI_ltI, nI_eq, nI_dec, nI_o0, mx_n, mn_n, ab_1, ab_n, e_u2e, e_u2k, e_u2a, if_pos, if_neg, if_true, if_false, not_true, not_false_eq_true, ne_eq, Nat.add_zero, Nat.zero_add, rP hs, rI hs, rT hs, h51, Nat.add_sub_cancel]
          · rw [e_u2k (by decide), b2 200 (by decide), a2 200 (by decide)]; exact th0
          · simp only [List.mem_cons, List.not_mem_nil, or_false, not_or] at h1
            rw [e_u2r h2, b2 x h1.2, a2 x h1.1, e_u2r h2]
          · simp only [List.mem_cons, List.not_mem_nil, or_false, not_or] at hk
            rw [e_u2k hk.2, b2 200 (by decide), a2 200 (by decide), e_u2k hk.1]
          · rw [e_u2k (by decide), b2 200 (by decide), a2 200 (by decide)]; exact hA'.1
          · obtain ⟨e1, e2, e3, e4, e5, e6, e7, e8, e9⟩ := hA.2 s hs'
            have keep : ∀ x, x ≠ 200 → x ≠ 225 → x ≠ 233 → u2 m2 200 51 (nI (nL + 1)) x = m x := fun x h1 h2 h3 => by rw [e_u2r h1, b2 x h3, a2 x h2, e_u2r h1]
            rw [keep 218 (by decide) (by decide) (by decide), keep 219 (by decide) (by decide) (by decide), keep 220 (by decide) (by decide) (by decide), keep 221 (by decide) (by decide) (by decide), keep 222 (by decide) (by decide) (by decide), keep 223 (by decide) (by decide) (by decide), keep 224 (by decide) (by decide) (by decide), keep 226 (by decide) (by decide) (by decide), keep 227 (by decide) (by decide) (by decide), e_u2r (show 225 ≠ 200 by decide), b2 225 (by decide), a4 s (by omega) hs', e_u2a (by decide)]
            have w : ∀ k, k ≠ 6 → lotS sg (lotB a b) nL s k = sg s k := fun k hk => by unfold lotS; rw [if_neg (fun z => hk z.1)]
            rw [w 0 (by decide), w 1 (by decide), w 2 (by decide), w 3 (by decide), w 4 (by decide), w 5 (by decide), w 7 (by decide)]
            refine ⟨e1, e2, e3, e4, e5, e6, ?_, e8, e9⟩
            unfold lotS
            cases c : (lotB a b).testBit s
            · rw [if_neg (by decide), if_neg (fun z => by cases z.2), e7]
            · rw [if_pos rfl, if_pos ⟨rfl, rfl⟩, oI_s]
          · exact e_u2s
          · rw [e_u2k (by decide), b2 200 (by decide), a2 200 (by decide)]; exact hL'.2.1
          · rw [e_u2a (by decide)]
            by_cases c : i < 4 * nL
            · rw [b3 i (by omega), a2 233 (by decide)]; exact hL'.2.2.1 i c
            · rw [b4 i (by omega) (by omega), hLD.2.2.1 i (by omega)]
          · rw [e_u2a (by decide), b2 234 (by decide), a2 234 (by decide)]; exact hL'.2.2.2 i hi
end LOT
