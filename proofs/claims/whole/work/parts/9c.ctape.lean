/-! ===== the class: a model's text is read ===== -/
def TXc (m : IM) (n : Nat) (tb : Nat → Int32) : Prop := n ≤ 100 ∧ m 50 3 = nI n ∧ ∀ i, i < n → m 51 i = tb i
/-- what reading a layer may change -/
def LFr (z : Nat) (m m' : IM) : Prop := (∀ b, b ≠ 50 → b ≠ 52 → b ≠ 53 → b ≠ 54 → b ≠ 55 → m' b = m b) ∧ (∀ k, k ≠ 2 → m' 50 k = m 50 k) ∧ ∀ b i, b ≠ 50 → i ≠ z → m' b i = m b i
section CTP
variable {m : IM} {j : JM} {u : SU}
theorem LFr_rf {z : Nat} : LFr z m m := ⟨fun _ _ _ _ _ _ => rfl, fun _ _ => rfl, fun _ _ _ _ => rfl⟩
theorem LFr_tr {z : Nat} {m1 m2 m3 : IM} (h : LFr z m1 m2) (g : LFr z m2 m3) : LFr z m1 m3 := ⟨fun b h1 h2 h3 h4 h5 => (g.1 b h1 h2 h3 h4 h5).trans (h.1 b h1 h2 h3 h4 h5), fun k hk => (g.2.1 k hk).trans (h.2.1 k hk), fun b i h1 h2 => (g.2.2 b i h1 h2).trans (h.2.2 b i h1 h2)⟩
theorem LFr_5 {z : Nat} {v : Int32} : LFr z m (u2 m 50 2 v) := ⟨fun _ h _ _ _ _ => e_u2r h, fun _ h => e_u2k h, fun _ _ h _ => e_u2a h⟩
theorem LFr_a {z a : Nat} {v : Int32} (ha : a = 52 ∨ a = 53 ∨ a = 54 ∨ a = 55) : LFr z m (u2 m a z v) := by
  refine ⟨fun b h1 h2 h3 h4 h5 => e_u2r (by omega), fun k hk => e_u2a (by omega), fun b i h1 h2 => ?_⟩
  by_cases e : b = a
  · rw [e]; exact e_u2k h2
  · exact e_u2a e
theorem TXc_L {z n : Nat} {m' : IM} {tb : Nat → Int32} (h : TXc m n tb) (hF : LFr z m m') : TXc m' n tb := by
  refine ⟨h.1, by rw [hF.2.1 3 (by decide)]; exact h.2.1, fun i hi => ?_⟩
  rw [hF.1 51 (by decide) (by decide) (by decide) (by decide) (by decide)]
  exact h.2.2 i hi
theorem C_endL (hc : CS u) {n : Nat} {tb : Nat → Int32} (K : PM → Option (Int32 × PM)) : ∀ (d p fu : Nat) (m : IM), TXc m n tb → m 50 2 = nI p → n - p = d → p ≤ n → d < fu → F_X9_isEnd_L0 50 K fu (pm m j u) = K (pm (u2 m 50 2 (nI (skp tb d p))) j u) := by
  intro d
  induction d with
  | zero =>
    intro p fu m hT h2 hd hp hfu
    obtain ⟨fu, rfl⟩ : ∃ g, fu = g + 1 := ⟨fu - 1, by omega⟩
    have e : p = n := by omega
    subst e
    have hn := hT.1
    have e3 := hT.2.1
    rw [show skp tb 0 p = p from rfl, u2_id h2, F_X9_isEnd_L0]
    simp (disch := omega) only [e_cl, e_jn, e_lt, e_cxl, e_cxr, e_rzn, ↓l_m1, ↓l_m2, ↓l_m8, l_0, l_1, l_2, l_3, l_4, l_5, l_6, l_7, l_8, l_9, l_10, l_12, l_16, l_20, l_24, l_31, l_32, l_35, l_36, l_40, l_44, l_48, l_59, l_63, l_64, l_90, l_95, l_96, l_100, l_120, l_127, l_200, l_216, l_255, l_999, l_1000, l_10000, l_1000000, l_1048575, l_1000000000, nI_add, pk_mul, pk_sub, nI_leI, nI_ltI, nI_eq, nI_dec, nI_o0, mx_n, mn_n, ab_1, ab_n, e_u2e, e_u2k, e_u2a, if_pos, if_neg, if_true, if_false, not_true, not_false_eq_true, ne_eq, Nat.add_zero, Nat.zero_add, cG_50 hc, cP_50 hc, cT_50 hc, cR_50_0 hc, cA_51 hc, cS_51 hc, cR_50_5 hc, cA_52 hc, cS_52 hc, cR_50_6 hc, cA_53 hc, cS_53 hc, cR_50_7 hc, cA_54 hc, cS_54 hc, cR_50_8 hc, cA_55 hc, cS_55 hc, h2, e3]
  | succ d ih =>
    intro p fu m hT h2 hd hp hfu
    obtain ⟨fu, rfl⟩ : ∃ g, fu = g + 1 := ⟨fu - 1, by omega⟩
    have hn := hT.1
    have e3 := hT.2.1
    have hv := hT.2.2 p (by omega)
    rw [skp]
    by_cases c : tb p = 32
    · have hi := ih (p + 1) fu (u2 m 50 2 (nI (p + 1))) (TXc_L (z := 0) hT LFr_5) e_u2s (by omega) (by omega) (by omega)
      rw [u2_u2] at hi
      rw [c] at hv
      rw [if_pos c, ← hi, F_X9_isEnd_L0]
      simp (disch := omega) only [e_cl, e_jn, e_lt, e_cxl, e_cxr, e_rzn, ↓l_m1, ↓l_m2, ↓l_m8, l_0, l_1, l_2, l_3, l_4, l_5, l_6, l_7, l_8, l_9, l_10, l_12, l_16, l_20, l_24, l_31, l_32, l_35, l_36, l_40, l_44, l_48, l_59, l_63, l_64, l_90, l_95, l_96, l_100, l_120, l_127, l_200, l_216, l_255, l_999, l_1000, l_10000, l_1000000, l_1048575, l_1000000000, nI_add, pk_mul, pk_sub, nI_leI, nI_ltI, nI_eq, nI_dec, nI_o0, mx_n, mn_n, ab_1, ab_n, e_u2e, e_u2k, e_u2a, if_pos, if_neg, if_true, if_false, not_true, not_false_eq_true, ne_eq, Nat.add_zero, Nat.zero_add, cG_50 hc, cP_50 hc, cT_50 hc, cR_50_0 hc, cA_51 hc, cS_51 hc, cR_50_5 hc, cA_52 hc, cS_52 hc, cR_50_6 hc, cA_53 hc, cS_53 hc, cR_50_7 hc, cA_54 hc, cS_54 hc, cR_50_8 hc, cA_55 hc, cS_55 hc, h2, e3, hv]
    · have cf : (tb p = nI 32) = False := eq_false c
      rw [if_neg c, u2_id h2, F_X9_isEnd_L0]
      simp (disch := omega) only [e_cl, e_jn, e_lt, e_cxl, e_cxr, e_rzn, ↓l_m1, ↓l_m2, ↓l_m8, l_0, l_1, l_2, l_3, l_4, l_5, l_6, l_7, l_8, l_9, l_10, l_12, l_16, l_20, l_24, l_31, l_32, l_35, l_36, l_40, l_44, l_48, l_59, l_63, l_64, l_90, l_95, l_96, l_100, l_120, l_127, l_200, l_216, l_255, l_999, l_1000, l_10000, l_1000000, l_1048575, l_1000000000, nI_add, pk_mul, pk_sub, nI_leI, nI_ltI, nI_eq, nI_dec, nI_o0, mx_n, mn_n, ab_1, ab_n, e_u2e, e_u2k, e_u2a, if_pos, if_neg, if_true, if_false, not_true, not_false_eq_true, ne_eq, Nat.add_zero, Nat.zero_add, cG_50 hc, cP_50 hc, cT_50 hc, cR_50_0 hc, cA_51 hc, cS_51 hc, cR_50_5 hc, cA_52 hc, cS_52 hc, cR_50_6 hc, cA_53 hc, cS_53 hc, cR_50_7 hc, cA_54 hc, cS_54 hc, cR_50_8 hc, cA_55 hc, cS_55 hc, h2, e3, hv, cf]
theorem C_isEnd (hc : CS u) {n p : Nat} {tb : Nat → Int32} (hT : TXc m n tb) (h2 : m 50 2 = nI p) (hp : p ≤ n) : F_X9_isEnd 50 (pm m j u) = some (nI (decide (n ≤ skip tb n p)).toNat, pm (u2 m 50 2 (nI (skip tb n p))) j u) := by
  have hn := hT.1
  have e3 := hT.2.1
  have hk := skip_le (tb := tb) hp
  have hL := fun K => C_endL (j := j) hc K (n - p) p LF m hT h2 rfl hp (by unfold LF; omega)
  rw [show skp tb (n - p) p = skip tb n p from rfl] at hL
  unfold F_X9_isEnd
  by_cases c : n ≤ skip tb n p
  · rw [decide_eq_true c]
    simp (disch := omega) only [e_cl, e_jn, e_lt, e_cxl, e_cxr, e_rzn, ↓l_m1, ↓l_m2, ↓l_m8, l_0, l_1, l_2, l_3, l_4, l_5, l_6, l_7, l_8, l_9, l_10, l_12, l_16, l_20, l_24, l_31, l_32, l_35, l_36, l_40, l_44, l_48, l_59, l_63, l_64, l_90, l_95, l_96, l_100, l_120, l_127, l_200, l_216, l_255, l_999, l_1000, l_10000, l_1000000, l_1048575, l_1000000000, nI_add, pk_mul, pk_sub, nI_leI, nI_ltI, nI_eq, nI_dec, nI_o0, mx_n, mn_n, ab_1, ab_n, e_u2e, e_u2k, e_u2a, if_pos, if_neg, if_true, if_false, not_true, not_false_eq_true, ne_eq, Nat.add_zero, Nat.zero_add, cG_50 hc, cP_50 hc, cT_50 hc, cR_50_0 hc, cA_51 hc, cS_51 hc, cR_50_5 hc, cA_52 hc, cS_52 hc, cR_50_6 hc, cA_53 hc, cS_53 hc, cR_50_7 hc, cA_54 hc, cS_54 hc, cR_50_8 hc, cA_55 hc, cS_55 hc, hL, e3, Bool.toNat_true]
  · rw [decide_eq_false c]
    simp (disch := omega) only [e_cl, e_jn, e_lt, e_cxl, e_cxr, e_rzn, ↓l_m1, ↓l_m2, ↓l_m8, l_0, l_1, l_2, l_3, l_4, l_5, l_6, l_7, l_8, l_9, l_10, l_12, l_16, l_20, l_24, l_31, l_32, l_35, l_36, l_40, l_44, l_48, l_59, l_63, l_64, l_90, l_95, l_96, l_100, l_120, l_127, l_200, l_216, l_255, l_999, l_1000, l_10000, l_1000000, l_1048575, l_1000000000, nI_add, pk_mul, pk_sub, nI_leI, nI_ltI, nI_eq, nI_dec, nI_o0, mx_n, mn_n, ab_1, ab_n, e_u2e, e_u2k, e_u2a, if_pos, if_neg, if_true, if_false, not_true, not_false_eq_true, ne_eq, Nat.add_zero, Nat.zero_add, cG_50 hc, cP_50 hc, cT_50 hc, cR_50_0 hc, cA_51 hc, cS_51 hc, cR_50_5 hc, cA_52 hc, cS_52 hc, cR_50_6 hc, cA_53 hc, cS_53 hc, cR_50_7 hc, cA_54 hc, cS_54 hc, cR_50_8 hc, cA_55 hc, cS_55 hc, hL, e3, Bool.toNat_false]
theorem C_digit (hc : CS u) {n p lo hi : Nat} {tb : Nat → Int32} (hT : TXc m n tb) (h2 : m 50 2 = nI p) (hp : p ≤ n) (hlo : lo < 2 ^ 31) (hhi : hi < 2 ^ 31) :
    (∀ q, pdig tb n lo hi p = .inl q → F_X9_readDigit 50 (nI lo) (nI hi) (pm m j u) = some (oI 0, pm (u2 m 50 2 (nI q)) j u)) ∧
    (∀ d q, pdig tb n lo hi p = .inr (d, q) → F_X9_readDigit 50 (nI lo) (nI hi) (pm m j u) = some (nI d, pm (u2 m 50 2 (nI q)) j u)) := by
  have hn := hT.1
  have hk := skip_le (tb := tb) hp
  have he := C_isEnd (j := j) hc hT h2 hp
  unfold pdig
  by_cases c : skip tb n p < n
  · rw [decide_eq_false (show ¬ n ≤ skip tb n p by omega)] at he
    have hv := hT.2.2 _ c
    by_cases c2 : tb (skip tb n p) - 48 < nI lo ∨ nI hi < tb (skip tb n p) - 48
    · rw [if_neg (fun z => z.2 c2)]
      refine ⟨fun q hq => ?_, fun d q hq => by cases hq⟩
      cases hq
      unfold F_X9_readDigit
      rw [cT_50 hc, he, e_cl, if_pos (show nI false.toNat = 0 from rfl), cR_50_0 hc, cG_50 hc, e_u2s, cA_51 hc (by omega), e_u2a (by decide), hv, e_lt, e_jn]
      by_cases c3 : tb (skip tb n p) - 48 < nI lo
      · rw [if_pos c3, l_m1]
      · have c4 : ¬ tb (skip tb n p) - 48 ≤ nI hi := fun z => by
          rcases c2 with y | y
          · exact c3 y
          · rw [fa_lt] at y; rw [fa_le] at z; omega
        rw [if_neg c3, if_neg c4, l_m1]
    · rw [if_pos ⟨c, c2⟩]
      refine ⟨fun q hq => (by cases hq), fun d q hq => ?_⟩
      cases hq
      obtain ⟨d, hd1, hd2, hd3⟩ := w_of c2 hlo hhi
      have e : (tb (skip tb n p) - 48).toInt.toNat = d := by rw [hd3, nI_toInt (by omega)]; omega
      rw [e]
      unfold F_X9_readDigit
      rw [cT_50 hc, he, e_cl, if_pos (show nI false.toNat = 0 from rfl), cR_50_0 hc, cG_50 hc, e_u2s, cA_51 hc (by omega), e_u2a (by decide), hv, e_lt, e_jn, hd3, if_neg (nI_nlt hd1 (by omega)), if_pos (nI_le hd2 hhi), cG_50 hc, e_u2s, cP_50 hc, u2_u2, nI_1]
  · rw [if_neg (fun z => c z.1)]
    refine ⟨fun q hq => ?_, fun d q hq => by cases hq⟩
    cases hq
    rw [decide_eq_true (show n ≤ skip tb n p by omega)] at he
    unfold F_X9_readDigit
    rw [cT_50 hc, he, e_cl, if_neg (show ¬ nI true.toNat = 0 by decide), l_m1]
theorem C_sign (hc : CS u) {n p : Nat} {c : Int32} {tb : Nat → Int32} (hT : TXc m n tb) (h2 : m 50 2 = nI p) (hp : p ≤ n) :
    (∀ q, psgn tb n c p = .inl q → F_X9_readSign 50 c (pm m j u) = some (nI 0, pm (u2 m 50 2 (nI q)) j u)) ∧
    (∀ q, psgn tb n c p = .inr q → F_X9_readSign 50 c (pm m j u) = some (nI 1, pm (u2 m 50 2 (nI q)) j u)) := by
  have hn := hT.1
  have hk := skip_le (tb := tb) hp
  have he := C_isEnd (j := j) hc hT h2 hp
  unfold psgn
  by_cases c1 : skip tb n p < n
  · rw [decide_eq_false (show ¬ n ≤ skip tb n p by omega)] at he
    have hv := hT.2.2 _ c1
    by_cases c2 : tb (skip tb n p) = c
    · rw [if_pos ⟨c1, c2⟩]
      refine ⟨fun q hq => (by cases hq), fun q hq => ?_⟩
      cases hq
      unfold F_X9_readSign
      rw [cT_50 hc, he, e_cl, e_jn, if_neg (show ¬ ¬ nI false.toNat = 0 from fun z => z rfl), cR_50_0 hc, cG_50 hc, e_u2s, cA_51 hc (by omega), e_u2a (by decide), hv, if_pos c2, cG_50 hc, e_u2s, cP_50 hc, u2_u2, nI_1, e_rz1]
      rfl
    · rw [if_neg (fun z => c2 z.2)]
      refine ⟨fun q hq => ?_, fun q hq => by cases hq⟩
      cases hq
      unfold F_X9_readSign
      rw [cT_50 hc, he, e_cl, e_jn, if_neg (show ¬ ¬ nI false.toNat = 0 from fun z => z rfl), cR_50_0 hc, cG_50 hc, e_u2s, cA_51 hc (by omega), e_u2a (by decide), hv, if_neg c2]
      rfl
  · rw [if_neg (fun z => c1 z.1)]
    refine ⟨fun q hq => ?_, fun q hq => by cases hq⟩
    cases hq
    rw [decide_eq_true (show n ≤ skip tb n p by omega)] at he
    unfold F_X9_readSign
    rw [cT_50 hc, he, e_cl, e_jn, if_pos (show ¬ nI true.toNat = 0 by decide)]
    rfl
def layOK (m' : IM) (z : Nat) (fl : Nat) : Nat ⊕ (Nat × Nat × Nat × Nat × Nat) → Prop
  | .inl q => fl = 0 ∧ m' 50 2 = nI q
  | .inr (w, d, x, y, q) => fl = 1 ∧ m' 50 2 = nI q ∧ m' 54 z = nI w ∧ m' 55 z = nI d ∧ m' 52 z = nI x ∧ m' 53 z = nI y
/-- a digit into a row, then a sign -/
def dgs (fld arr : Nat) (z lo hi c : Int32) (R : PM → Option (Int32 × PM)) (h : PM) : Option (Int32 × PM) := tst h 50 10 (cl (F_X9_readDigit 50 lo hi h) fun r2 h3 => sI h3 arr z r2 fun h5 => gR h5 50 10 fld fun x6 => aI h5 x6 z fun x7 => if x7 = (-1) then (rz 0 h5) else (tst h5 50 10 (cl (F_X9_readSign 50 c h5) fun r9 h10 => if ¬ r9 = 0 then (R h10) else (rz 0 h10))))
def rl3 (z : Int32) (h34 : PM) : Option (Int32 × PM) := gR h34 50 10 6 fun x36 => gR h34 50 10 8 fun x37 => aI h34 x37 z fun x38 => tst h34 50 10 (cl (F_X9_readDigit 50 0 (6 - x38) h34) fun r39 h40 => sI h40 x36 z r39 fun h42 => gR h42 50 10 6 fun x43 => aI h42 x43 z fun x44 => if x44 = (-1) then (rz 0 h42) else (rz 1 h42))
def rl2 (z : Int32) (h21 : PM) : Option (Int32 × PM) := gR h21 50 10 5 fun x23 => gR h21 50 10 7 fun x24 => aI h21 x24 z fun x25 => dgs 5 x23 z 0 (6 - x25) 44 (rl3 z) h21
def rl1 (z : Int32) (h10 : PM) : Option (Int32 × PM) := gR h10 50 10 8 fun x12 => dgs 8 x12 z 1 6 64 (rl2 z) h10
theorem rl_0 (z : Int32) (h : PM) : F_X9_readLayer 50 z h = gR h 50 10 7 fun x1 => dgs 7 x1 z 1 6 120 (rl1 z) h := rfl
theorem C_dgs (hc : CS u) {fld arr lo hi n p z : Nat} {c : Int32} {tb : Nat → Int32} {R : PM → Option (Int32 × PM)} (hz : z < 6) (hR : ∀ (m : IM) (f : Nat → Option (Int32 × PM)), gR (pm m j u) 50 10 fld f = f arr) (hA : ∀ (m : IM) (f : Int32 → Option (Int32 × PM)), aI (pm m j u) arr (nI z) f = f (m arr z)) (hS : ∀ (m : IM) (v : Int32) (f : PM → Option (Int32 × PM)), sI (pm m j u) arr (nI z) v f = f (pm (u2 m arr z v) j u)) (harr : arr = 52 ∨ arr = 53 ∨ arr = 54 ∨ arr = 55) (hT : TXc m n tb) (h2 : m 50 2 = nI p) (hp : p ≤ n) (hlo : lo < 2 ^ 31) (hhi : hi < 2 ^ 30) :
    (∀ q, pdig tb n lo hi p = .inl q → dgs fld arr (nI z) (nI lo) (nI hi) c R (pm m j u) = some (nI 0, pm (u2 (u2 m 50 2 (nI q)) arr z (oI 0)) j u)) ∧
    (∀ d p1 q, pdig tb n lo hi p = .inr (d, p1) → psgn tb n c p1 = .inl q → dgs fld arr (nI z) (nI lo) (nI hi) c R (pm m j u) = some (nI 0, pm (u2 (u2 (u2 m 50 2 (nI p1)) arr z (nI d)) 50 2 (nI q)) j u)) ∧
    (∀ d p1 p2, pdig tb n lo hi p = .inr (d, p1) → psgn tb n c p1 = .inr p2 → dgs fld arr (nI z) (nI lo) (nI hi) c R (pm m j u) = R (pm (u2 (u2 (u2 m 50 2 (nI p1)) arr z (nI d)) 50 2 (nI p2)) j u)) := by
  have hD := C_digit (j := j) hc hT h2 hp hlo (show hi < 2 ^ 31 by omega)
  have hn := hT.1
  refine ⟨fun q hq => ?_, fun d p1 q hd hq => ?_, fun d p1 p2 hd hq => ?_⟩
  · unfold dgs
    rw [cT_50 hc, hD.1 q hq, e_cl, hS, hR, hA, e_u2s, if_pos (show oI 0 = -1 from oI_0), e_rz0]
    rfl
  · have a1 := pdig_in hp hlo (by omega) hd
    have e2 : (u2 (u2 m 50 2 (nI p1)) arr z (nI d)) 50 2 = nI p1 := by rw [e_u2a (by omega), e_u2s]
    have hsg := (C_sign (c := c) (j := j) hc (TXc_L hT (LFr_tr LFr_5 (LFr_a harr))) e2 a1.2.2.2).1 q hq
    unfold dgs
    rw [cT_50 hc, hD.2 d p1 hd, e_cl, hS, hR, hA, e_u2s, if_neg (show ¬ nI d = -1 from fun y => by rw [l_m1, nI_o0 (by omega)] at y; exact y), cT_50 hc, hsg, e_cl, if_neg (show ¬ ¬ nI 0 = 0 from fun y => y rfl), e_rz0]
    rfl
  · have a1 := pdig_in hp hlo (by omega) hd
    have e2 : (u2 (u2 m 50 2 (nI p1)) arr z (nI d)) 50 2 = nI p1 := by rw [e_u2a (by omega), e_u2s]
    have hsg := (C_sign (c := c) (j := j) hc (TXc_L hT (LFr_tr LFr_5 (LFr_a harr))) e2 a1.2.2.2).2 p2 hq
    unfold dgs
    rw [cT_50 hc, hD.2 d p1 hd, e_cl, hS, hR, hA, e_u2s, if_neg (show ¬ nI d = -1 from fun y => by rw [l_m1, nI_o0 (by omega)] at y; exact y), cT_50 hc, hsg, e_cl, if_pos (show ¬ nI 1 = 0 by decide)]
theorem C_layer (hc : CS u) {n p z : Nat} {tb : Nat → Int32} (hT : TXc m n tb) (h2 : m 50 2 = nI p) (hp : p ≤ n) (hz : z < 6) : ∃ m' fl, F_X9_readLayer 50 (nI z) (pm m j u) = some (nI fl, pm m' j u) ∧ LFr z m m' ∧ layOK m' z fl (player tb n p) := by
  have hn := hT.1
  have L0 := C_dgs (j := j) (fld := 7) (arr := 54) (lo := 1) (hi := 6) (c := 120) (R := rl1 (nI z)) hc hz (fun m f => cR_50_7 hc) (fun m f => cA_54 hc hz) (fun m v f => cS_54 hc hz) (by omega) hT h2 hp (by decide) (by decide)
  have top : F_X9_readLayer 50 (nI z) (pm m j u) = dgs 7 54 (nI z) (nI 1) (nI 6) 120 (rl1 (nI z)) (pm m j u) := by rw [rl_0, cR_50_7 hc]; rfl
  unfold player
  rcases h1 : pdig tb n 1 6 p with q | ⟨w, p1⟩
  · exact ⟨_, 0, top.trans (L0.1 q h1), LFr_tr LFr_5 (LFr_a (by omega)), rfl, by rw [e_u2a (by decide), e_u2s]⟩
  · have a1 := pdig_in hp (by decide) (by decide) h1
    dsimp only
    rcases s1 : psgn tb n 120 p1 with q | p2
    · exact ⟨_, 0, top.trans (L0.2.1 w p1 q h1 s1), LFr_tr (LFr_tr LFr_5 (LFr_a (by omega))) LFr_5, rfl, e_u2s⟩
    · have t1 := top.trans (L0.2.2 w p1 p2 h1 s1)
      have a2 := psgn_in a1.2.2.2 s1
      obtain ⟨m2, em2⟩ : ∃ m2, m2 = u2 (u2 (u2 m 50 2 (nI p1)) 54 z (nI w)) 50 2 (nI p2) := ⟨_, rfl⟩
      rw [← em2] at t1
      have f2 : LFr z m m2 := by rw [em2]; exact LFr_tr (LFr_tr LFr_5 (LFr_a (by omega))) LFr_5
      have p2e : m2 50 2 = nI p2 := by rw [em2, e_u2s]
      have w2 : m2 54 z = nI w := by rw [em2, e_u2a (by decide), e_u2s]
      clear em2
      have T2 := TXc_L hT f2
      have L1 := C_dgs (j := j) (fld := 8) (arr := 55) (lo := 1) (hi := 6) (c := 64) (R := rl2 (nI z)) hc hz (fun m f => cR_50_8 hc) (fun m f => cA_55 hc hz) (fun m v f => cS_55 hc hz) (by omega) T2 p2e a2.2 (by decide) (by decide)
      have t2 : F_X9_readLayer 50 (nI z) (pm m j u) = dgs 8 55 (nI z) (nI 1) (nI 6) 64 (rl2 (nI z)) (pm m2 j u) := by rw [t1, rl1, cR_50_8 hc]; rfl
      dsimp only
      rcases h3 : pdig tb n 1 6 p2 with q | ⟨d, p3⟩
      · exact ⟨_, 0, t2.trans (L1.1 q h3), LFr_tr f2 (LFr_tr LFr_5 (LFr_a (by omega))), rfl, by rw [e_u2a (by decide), e_u2s]⟩
      · have a3 := pdig_in a2.2 (by decide) (by decide) h3
        dsimp only
        rcases s3 : psgn tb n 64 p3 with q | p4
        · exact ⟨_, 0, t2.trans (L1.2.1 d p3 q h3 s3), LFr_tr f2 (LFr_tr (LFr_tr LFr_5 (LFr_a (by omega))) LFr_5), rfl, e_u2s⟩
        · have t3 := t2.trans (L1.2.2 d p3 p4 h3 s3)
          have a4 := psgn_in a3.2.2.2 s3
          obtain ⟨m4, em4⟩ : ∃ m4, m4 = u2 (u2 (u2 m2 50 2 (nI p3)) 55 z (nI d)) 50 2 (nI p4) := ⟨_, rfl⟩
          rw [← em4] at t3
          have f4 : LFr z m m4 := by rw [em4]; exact LFr_tr f2 (LFr_tr (LFr_tr LFr_5 (LFr_a (by omega))) LFr_5)
          have p4e : m4 50 2 = nI p4 := by rw [em4, e_u2s]
          have w4 : m4 54 z = nI w := by rw [em4, e_u2a (by decide), e_u2a (by decide), e_u2a (by decide)]; exact w2
          have d4 : m4 55 z = nI d := by rw [em4, e_u2a (by decide), e_u2s]
          clear em4
          have T4 := TXc_L hT f4
          have L2 := C_dgs (j := j) (fld := 5) (arr := 52) (lo := 0) (hi := 6 - w) (c := 44) (R := rl3 (nI z)) hc hz (fun m f => cR_50_5 hc) (fun m f => cA_52 hc hz) (fun m v f => cS_52 hc hz) (by omega) T4 p4e a4.2 (by decide) (by omega)
          have t4 : F_X9_readLayer 50 (nI z) (pm m j u) = dgs 5 52 (nI z) (nI 0) (nI (6 - w)) 44 (rl3 (nI z)) (pm m4 j u) := by
            rw [t3, rl2, cR_50_5 hc, cR_50_7 hc, cA_54 hc hz, w4, show (6 : Int32) = nI 6 from rfl, pk_sub a1.2.1]; rfl
          dsimp only
          rcases h5 : pdig tb n 0 (6 - w) p4 with q | ⟨x, p5⟩
          · exact ⟨_, 0, t4.trans (L2.1 q h5), LFr_tr f4 (LFr_tr LFr_5 (LFr_a (by omega))), rfl, by rw [e_u2a (by decide), e_u2s]⟩
          · have a5 := pdig_in a4.2 (by decide) (by omega) h5
            dsimp only
            rcases s5 : psgn tb n 44 p5 with q | p6
            · exact ⟨_, 0, t4.trans (L2.2.1 x p5 q h5 s5), LFr_tr f4 (LFr_tr (LFr_tr LFr_5 (LFr_a (by omega))) LFr_5), rfl, e_u2s⟩
            · have t5 := t4.trans (L2.2.2 x p5 p6 h5 s5)
              have a6 := psgn_in a5.2.2.2 s5
              obtain ⟨m6, em6⟩ : ∃ m6, m6 = u2 (u2 (u2 m4 50 2 (nI p5)) 52 z (nI x)) 50 2 (nI p6) := ⟨_, rfl⟩
              rw [← em6] at t5
              have f6 : LFr z m m6 := by rw [em6]; exact LFr_tr f4 (LFr_tr (LFr_tr LFr_5 (LFr_a (by omega))) LFr_5)
              have p6e : m6 50 2 = nI p6 := by rw [em6, e_u2s]
              have w6 : m6 54 z = nI w := by rw [em6, e_u2a (by decide), e_u2a (by decide), e_u2a (by decide)]; exact w4
              have d6 : m6 55 z = nI d := by rw [em6, e_u2a (by decide), e_u2a (by decide), e_u2a (by decide)]; exact d4
              have x6 : m6 52 z = nI x := by rw [em6, e_u2a (by decide), e_u2s]
              clear em6
              have T6 := TXc_L hT f6
              have D7 := C_digit (lo := 0) (hi := 6 - d) (j := j) hc T6 p6e a6.2 (by decide) (by omega)
              have t6 : ∀ v mm, F_X9_readDigit 50 (nI 0) (nI (6 - d)) (pm m6 j u) = some (v, pm mm j u) → F_X9_readLayer 50 (nI z) (pm m j u) = if v = -1 then rz 0 (pm (u2 mm 53 z v) j u) else rz 1 (pm (u2 mm 53 z v) j u) := fun v mm hv => by
                rw [t5, rl3, cR_50_6 hc, cR_50_8 hc, cA_55 hc hz, d6, show (6 : Int32) = nI 6 from rfl, pk_sub a3.2.1, cT_50 hc, show (0 : Int32) = nI 0 from rfl, hv, e_cl, cS_53 hc hz, cR_50_6 hc, cA_53 hc hz, e_u2s]
              dsimp only
              rcases h7 : pdig tb n 0 (6 - d) p6 with q | ⟨y, p7⟩
              · refine ⟨u2 (u2 m6 50 2 (nI q)) 53 z (oI 0), 0, ?_, LFr_tr f6 (LFr_tr LFr_5 (LFr_a (by omega))), rfl, by rw [e_u2a (by decide), e_u2s]⟩
                rw [t6 _ _ (D7.1 q h7), if_pos oI_0, e_rz0]; rfl
              · have a7 := pdig_in a6.2 (by decide) (by omega) h7
                refine ⟨u2 (u2 m6 50 2 (nI p7)) 53 z (nI y), 1, ?_, LFr_tr f6 (LFr_tr LFr_5 (LFr_a (by omega))), rfl, ?_, ?_, ?_, ?_, e_u2s⟩
                · rw [t6 _ _ (D7.2 y p7 h7), if_neg (show ¬ nI y = -1 from fun y' => by rw [l_m1, nI_o0 (by omega)] at y'; exact y'), e_rz1]; rfl
                · rw [e_u2a (by decide), e_u2s]
                · rw [e_u2a (by decide), e_u2a (by decide)]; exact w6
                · rw [e_u2a (by decide), e_u2a (by decide)]; exact d6
                · rw [e_u2a (by decide), e_u2a (by decide)]; exact x6
end CTP
