/-! ===== the reference: match ===== -/
def prG (g : Nat → Nat) (k i : Nat) : Bool := decide (10 * adiff (g k) (g i) ≤ max (g k) (g i))
def apG (g : Nat → Nat) (k i : Nat) : Nat := adiff (g k) (g i)
theorem apG_b {g : Nat → Nat} {k i : Nat} (hk : g k ≤ 216000) (hi : g i ≤ 216000) (h : prG g k i = true) : apG g k i ≤ 21600 := by
  have h := of_decide_eq_true h
  unfold apG
  omega
def tpF (n : Nat) (pr : Nat → Nat → Bool) (ap : Nat → Nat → Nat) (d k : Nat) (W : Nat → Nat) (v : Nat) : Nat → Nat × (Nat → Nat) → Nat × (Nat → Nat) := fun i s => if k < i ∧ W i = 0 ∧ pr k i = true then tp n pr ap d (w2 W k i) (v + (1000000 - ap k i)) s else s
theorem tp_ag {n : Nat} {pr : Nat → Nat → Bool} {ap : Nat → Nat → Nat} : ∀ (d : Nat) (W : Nat → Nat) (v : Nat) (st : Nat × (Nat → Nat)), d ≤ n → tp n pr ap d W v st = st ∨ ∀ x, x < n - d → (tp n pr ap d W v st).2 x = W x := by
  intro d
  induction d with
  | zero =>
    intro W v st _
    rw [tp]
    split
    · exact Or.inr (fun _ _ => rfl)
    · exact Or.inl rfl
  | succ d ih =>
    intro W v st hd
    rw [tp]
    split
    · have fol : ∀ q, fo (fun i s => if n - (d + 1) < i ∧ W i = 0 ∧ pr (n - (d + 1)) i = true then tp n pr ap d (w2 W (n - (d + 1)) i) (v + (1000000 - ap (n - (d + 1)) i)) s else s) q st = st ∨ ∀ x, x < n - (d + 1) → (fo (fun i s => if n - (d + 1) < i ∧ W i = 0 ∧ pr (n - (d + 1)) i = true then tp n pr ap d (w2 W (n - (d + 1)) i) (v + (1000000 - ap (n - (d + 1)) i)) s else s) q st).2 x = W x := by
        intro q
        induction q with
        | zero => exact Or.inl rfl
        | succ q ihq =>
          rw [fo]
          generalize (fo (fun i s => if n - (d + 1) < i ∧ W i = 0 ∧ pr (n - (d + 1)) i = true then tp n pr ap d (w2 W (n - (d + 1)) i) (v + (1000000 - ap (n - (d + 1)) i)) s else s) q st) = s at ihq ⊢
          show (if n - (d + 1) < q ∧ W q = 0 ∧ pr (n - (d + 1)) q = true then tp n pr ap d (w2 W (n - (d + 1)) q) (v + (1000000 - ap (n - (d + 1)) q)) s else s) = st ∨ ∀ x, x < n - (d + 1) → (if n - (d + 1) < q ∧ W q = 0 ∧ pr (n - (d + 1)) q = true then tp n pr ap d (w2 W (n - (d + 1)) q) (v + (1000000 - ap (n - (d + 1)) q)) s else s).2 x = W x
          split
          · next hc =>
            rcases ih (w2 W (n - (d + 1)) q) (v + (1000000 - ap (n - (d + 1)) q)) s (by omega) with e | e
            · rw [e]; exact ihq
            · refine Or.inr (fun x hx => ?_)
              rw [e x (by omega), w2, if_neg (by omega), if_neg (by omega)]
          · exact ihq
      rcases ih W v (fo (fun i s => if n - (d + 1) < i ∧ W i = 0 ∧ pr (n - (d + 1)) i = true then tp n pr ap d (w2 W (n - (d + 1)) i) (v + (1000000 - ap (n - (d + 1)) i)) s else s) n st) (by omega) with e | e
      · rw [e]; exact fol n
      · exact Or.inr (fun x hx => e x (by omega))
    · rcases ih W v st (by omega) with e | e
      · exact Or.inl e
      · exact Or.inr (fun x hx => e x (by omega))
theorem tpF_ag {n : Nat} {pr : Nat → Nat → Bool} {ap : Nat → Nat → Nat} {d k : Nat} {W : Nat → Nat} {v : Nat} {st : Nat × (Nat → Nat)} (hk : k + d + 1 = n) : ∀ q, fo (tpF n pr ap d k W v) q st = st ∨ ((∀ x, x < k → (fo (tpF n pr ap d k W v) q st).2 x = W x) ∧ (fo (tpF n pr ap d k W v) q st).2 k ≠ 0 ∧ (fo (tpF n pr ap d k W v) q st).2 k ≤ q) := by
  intro q
  induction q with
  | zero => exact Or.inl rfl
  | succ q ihq =>
    rw [fo]
    generalize fo (tpF n pr ap d k W v) q st = s at ihq ⊢
    have e0 : tpF n pr ap d k W v q s = if k < q ∧ W q = 0 ∧ pr k q = true then tp n pr ap d (w2 W k q) (v + (1000000 - ap k q)) s else s := rfl
    by_cases c : k < q ∧ W q = 0 ∧ pr k q = true
    · rw [e0, if_pos c]
      rcases tp_ag (n := n) (pr := pr) (ap := ap) d (w2 W k q) (v + (1000000 - ap k q)) s (by omega) with e | e
      · rw [e]
        rcases ihq with i | ⟨i1, i2, i3⟩
        · exact Or.inl i
        · exact Or.inr ⟨i1, i2, by omega⟩
      · refine Or.inr ⟨fun x hx => ?_, ?_, ?_⟩
        · rw [e x (by omega), w2, if_neg (by omega), if_neg (by omega)]
        · rw [e k (by omega), w2, if_pos rfl]; omega
        · rw [e k (by omega), w2, if_pos rfl]; exact Nat.le_refl _
    · rw [e0, if_neg c]
      rcases ihq with i | ⟨i1, i2, i3⟩
      · exact Or.inl i
      · exact Or.inr ⟨i1, i2, by omega⟩
/-- what was found stands ahead of what is tried now -/
def Bf (k : Nat) (W : Nat → Nat) (st : Nat × (Nat → Nat)) : Prop := st.1 = 0 ∨ ∃ q, q < k ∧ (∀ i, i < q → st.2 i = W i) ∧ st.2 q ≠ 0 ∧ (W q = 0 ∨ st.2 q < W q)
def TM (m : IM) (n : Nat) (tn g : Nat → Nat) : Prop := m 200 45 = nI n ∧ n ≤ 10 ∧ ∀ k, k < n → m 230 k = nI (tn k) ∧ tn k < 40 ∧ m 218 (tn k) = nI (g k) ∧ g k ≤ 216000
def WM (m : IM) (n : Nat) (W : Nat → Nat) : Prop := ∀ k, k < n → m 231 k = oI (W k) ∧ W k ≤ n
def BM (m : IM) (n : Nat) (st : Nat × (Nat → Nat)) : Prop := (∃ bp bo, m 200 46 = oI bp ∧ m 200 47 = nI bo ∧ (st.1 = 0 ∧ bp = 0 ∧ bo = 0 ∨ bp ≠ 0 ∧ st.1 + bo = 1000000 * (bp - 1) + 1 ∧ bo ≤ 21600 * (bp - 1) ∧ bp ≤ 11)) ∧ (st.1 ≠ 0 → ∀ k, k < n → m 232 k = oI (st.2 k) ∧ st.2 k ≤ n)
def TF (m m' : IM) : Prop := (∀ b, b ≠ 200 → b ≠ 231 → b ≠ 232 → m' b = m b) ∧ ∀ k, k ≠ 46 → k ≠ 47 → m' 200 k = m 200 k
section RMA
variable {m : IM} {j : JM} {u : SU}
theorem TF_rf : TF m m := ⟨fun _ _ _ _ => rfl, fun _ _ _ => rfl⟩
theorem TF_tr {m1 m2 m3 : IM} (h : TF m1 m2) (g : TF m2 m3) : TF m1 m3 := ⟨fun b h1 h2 h3 => (g.1 b h1 h2 h3).trans (h.1 b h1 h2 h3), fun k h1 h2 => (g.2 k h1 h2).trans (h.2 k h1 h2)⟩
theorem TF_w {k : Nat} {v : Int32} : TF m (u2 m 231 k v) := ⟨fun _ _ h _ => e_u2r h, fun _ _ _ => e_u2a (by decide)⟩
theorem TM_fr {m' : IM} {n : Nat} {tn g : Nat → Nat} (h : TM m n tn g) (hF : TF m m') : TM m' n tn g := by
  refine ⟨by rw [hF.2 45 (by decide) (by decide)]; exact h.1, h.2.1, fun k hk => ?_⟩
  rw [hF.1 230 (by decide) (by decide) (by decide), hF.1 218 (by decide) (by decide) (by decide)]
  exact h.2.2 k hk
theorem BM_w {n k : Nat} {v : Int32} {st : Nat × (Nat → Nat)} (h : BM m n st) : BM (u2 m 231 k v) n st := by
  unfold BM
  rw [e_u2r (b := 200) (by decide), e_u2r (b := 232) (by decide)]
  exact h
theorem adiff_le {a b M : Nat} (ha : a ≤ M) (hb : b ≤ M) : adiff a b ≤ M := by unfold adiff; omega
theorem R_isPair (hs : RS u) {a b ga gb : Nat} (ha : a < 40) (hb : b < 40) (h1 : m 218 a = nI ga) (h2 : m 218 b = nI gb) (g1 : ga ≤ 216000) (g2 : gb ≤ 216000) : F_X12_isPair 200 (nI a) (nI b) (pm m j u) = some (nI (decide (10 * adiff ga gb ≤ max ga gb)).toNat, pm m j u) := by
  have hd := adiff_le g1 g2
  have ho := fun h => R_off (a := ga) (b := gb) (by omega) (by omega) h
  by_cases c : ga ≤ gb
  · rw [show max ga gb = gb by omega]
    by_cases c2 : 10 * adiff ga gb ≤ gb
    · rw [decide_eq_true c2]
      simp (disch := omega) only [F_X12_isPair, e_cl, e_jn, e_lt, e_cxl, e_cxr, e_rzn, ↓l_m1, ↓l_m2, ↓l_m8, l_0, l_1, l_2, l_3, l_4, l_5, l_6, l_7, l_8, l_9, l_10, l_12, l_16, l_20, l_24, l_31, l_32, l_35, l_36, l_40, l_44, l_48, l_59, l_63, l_64, l_90, l_95, l_96, l_100, l_120, l_127, l_200, l_216, l_255, l_999, l_1000, l_10000, l_1000000, l_1048575, l_1000000000, nI_add, pk_mul, pk_sub, nI_leI, nI_ltI, nI_eq, nI_dec, nI_o0, mx_n, mn_n, ab_1, ab_n, e_u2e, e_u2k, e_u2a, if_pos, if_neg, if_true, if_false, not_true, not_false_eq_true, ne_eq, Nat.add_zero, Nat.zero_add, rP hs, rI hs, rT hs, rR_33 hs, rA_218 hs, rS_218 hs, h1, h2, ho, Bool.toNat_true]
    · rw [decide_eq_false c2]
      simp (disch := omega) only [F_X12_isPair, e_cl, e_jn, e_lt, e_cxl, e_cxr, e_rzn, ↓l_m1, ↓l_m2, ↓l_m8, l_0, l_1, l_2, l_3, l_4, l_5, l_6, l_7, l_8, l_9, l_10, l_12, l_16, l_20, l_24, l_31, l_32, l_35, l_36, l_40, l_44, l_48, l_59, l_63, l_64, l_90, l_95, l_96, l_100, l_120, l_127, l_200, l_216, l_255, l_999, l_1000, l_10000, l_1000000, l_1048575, l_1000000000, nI_add, pk_mul, pk_sub, nI_leI, nI_ltI, nI_eq, nI_dec, nI_o0, mx_n, mn_n, ab_1, ab_n, e_u2e, e_u2k, e_u2a, if_pos, if_neg, if_true, if_false, not_true, not_false_eq_true, ne_eq, Nat.add_zero, Nat.zero_add, rP hs, rI hs, rT hs, rR_33 hs, rA_218 hs, rS_218 hs, h1, h2, ho, Bool.toNat_false]
  · rw [show max ga gb = ga by omega]
    rw [pk_sub (show gb ≤ ga by omega)] at ho
    by_cases c2 : 10 * adiff ga gb ≤ ga
    · rw [decide_eq_true c2]
      simp (disch := omega) only [F_X12_isPair, e_cl, e_jn, e_lt, e_cxl, e_cxr, e_rzn, ↓l_m1, ↓l_m2, ↓l_m8, l_0, l_1, l_2, l_3, l_4, l_5, l_6, l_7, l_8, l_9, l_10, l_12, l_16, l_20, l_24, l_31, l_32, l_35, l_36, l_40, l_44, l_48, l_59, l_63, l_64, l_90, l_95, l_96, l_100, l_120, l_127, l_200, l_216, l_255, l_999, l_1000, l_10000, l_1000000, l_1048575, l_1000000000, nI_add, pk_mul, pk_sub, nI_leI, nI_ltI, nI_eq, nI_dec, nI_o0, mx_n, mn_n, ab_1, ab_n, e_u2e, e_u2k, e_u2a, if_pos, if_neg, if_true, if_false, not_true, not_false_eq_true, ne_eq, Nat.add_zero, Nat.zero_add, rP hs, rI hs, rT hs, rR_33 hs, rA_218 hs, rS_218 hs, h1, h2, ho, Bool.toNat_true]
    · rw [decide_eq_false c2]
      simp (disch := omega) only [F_X12_isPair, e_cl, e_jn, e_lt, e_cxl, e_cxr, e_rzn, ↓l_m1, ↓l_m2, ↓l_m8, l_0, l_1, l_2, l_3, l_4, l_5, l_6, l_7, l_8, l_9, l_10, l_12, l_16, l_20, l_24, l_31, l_32, l_35, l_36, l_40, l_44, l_48, l_59, l_63, l_64, l_90, l_95, l_96, l_100, l_120, l_127, l_200, l_216, l_255, l_999, l_1000, l_10000, l_1000000, l_1048575, l_1000000000, nI_add, pk_mul, pk_sub, nI_leI, nI_ltI, nI_eq, nI_dec, nI_o0, mx_n, mn_n, ab_1, ab_n, e_u2e, e_u2k, e_u2a, if_pos, if_neg, if_true, if_false, not_true, not_false_eq_true, ne_eq, Nat.add_zero, Nat.zero_add, rP hs, rI hs, rT hs, rR_33 hs, rA_218 hs, rS_218 hs, h1, h2, ho, Bool.toNat_false]
theorem R_aheadL (hs : RS u) {n q : Nat} {W B : Nat → Nat} (hn : m 200 45 = nI n) (hn10 : n ≤ 10) (hW : WM m n W) (hB : ∀ k, k < n → m 232 k = oI (B k) ∧ B k ≤ n) (hq : q < n) (he : ∀ i, i < q → B i = W i) (hne : B q ≠ W q) (K1 : PM → Option (Int32 × PM)) (K2 : Int32 → PM → Option (Int32 × PM)) : ∀ (d i fu : Nat), i + d = q → d < fu →
    F_X12_isAhead_L2 200 K1 K2 fu (nI i) (pm m j u) = K2 (nI q) (pm m j u) := by
  intro d
  induction d with
  | zero =>
    intro i fu hi hfu
    obtain ⟨fu, rfl⟩ : ∃ g, fu = g + 1 := ⟨fu - 1, by omega⟩
    have e : i = q := by omega
    subst e
    obtain ⟨w1, w2⟩ := hW i hq
    obtain ⟨b1, b2⟩ := hB i hq
    have ne : (oI (W i) = oI (B i)) = False := eq_false (fun z => hne ((oI_inj (by omega) (by omega)).mp z).symm)
    rw [F_X12_isAhead_L2]
    simp (disch := omega) only [e_cl, e_jn, e_lt, e_cxl, e_cxr, e_rzn, ↓l_m1, ↓l_m2, ↓l_m8, l_0, l_1, l_2, l_3, l_4, l_5, l_6, l_7, l_8, l_9, l_10, l_12, l_16, l_20, l_24, l_31, l_32, l_35, l_36, l_40, l_44, l_48, l_59, l_63, l_64, l_90, l_95, l_96, l_100, l_120, l_127, l_200, l_216, l_255, l_999, l_1000, l_10000, l_1000000, l_1048575, l_1000000000, nI_add, pk_mul, pk_sub, nI_leI, nI_ltI, nI_eq, nI_dec, nI_o0, mx_n, mn_n, ab_1, ab_n, e_u2e, e_u2k, e_u2a, if_pos, if_neg, if_true, if_false, not_true, not_false_eq_true, ne_eq, Nat.add_zero, Nat.zero_add, rP hs, rI hs, rT hs, rR_49 hs, rA_231 hs, rS_231 hs, rR_50 hs, rA_232 hs, rS_232 hs, hn, w1, b1, ne]
  | succ d ih =>
    intro i fu hi hfu
    obtain ⟨fu, rfl⟩ : ∃ g, fu = g + 1 := ⟨fu - 1, by omega⟩
    have hi' := ih (i + 1) fu (by omega) (by omega)
    obtain ⟨w1, w2⟩ := hW i (by omega)
    obtain ⟨b1, b2⟩ := hB i (by omega)
    rw [he i (by omega)] at b1
    rw [F_X12_isAhead_L2]
    simp (disch := omega) only [e_cl, e_jn, e_lt, e_cxl, e_cxr, e_rzn, ↓l_m1, ↓l_m2, ↓l_m8, l_0, l_1, l_2, l_3, l_4, l_5, l_6, l_7, l_8, l_9, l_10, l_12, l_16, l_20, l_24, l_31, l_32, l_35, l_36, l_40, l_44, l_48, l_59, l_63, l_64, l_90, l_95, l_96, l_100, l_120, l_127, l_200, l_216, l_255, l_999, l_1000, l_10000, l_1000000, l_1048575, l_1000000000, nI_add, pk_mul, pk_sub, nI_leI, nI_ltI, nI_eq, nI_dec, nI_o0, mx_n, mn_n, ab_1, ab_n, e_u2e, e_u2k, e_u2a, if_pos, if_neg, if_true, if_false, not_true, not_false_eq_true, ne_eq, Nat.add_zero, Nat.zero_add, rP hs, rI hs, rT hs, rR_49 hs, rA_231 hs, rS_231 hs, rR_50 hs, rA_232 hs, rS_232 hs, hn, w1, b1] at hi' ⊢
    exact hi'
theorem R_ahead (hs : RS u) {n q : Nat} {W B : Nat → Nat} (hn : m 200 45 = nI n) (hn10 : n ≤ 10) (hW : WM m n W) (hB : ∀ k, k < n → m 232 k = oI (B k) ∧ B k ≤ n) (hq : q < n) (he : ∀ i, i < q → B i = W i) (h0 : B q ≠ 0) (hlt : W q = 0 ∨ B q < W q) : F_X12_isAhead 200 (pm m j u) = some (nI 0, pm m j u) := by
  have hL := fun K1 K2 => R_aheadL (j := j) hs hn hn10 hW hB hq he (by omega) K1 K2 q 0 LF (by omega) (by unfold LF; omega)
  obtain ⟨w1, w2⟩ := hW q hq
  obtain ⟨b1, b2⟩ := hB q hq
  rw [oI_p h0] at b1
  by_cases c : W q = 0
  · rw [c] at w1
    simp (disch := omega) only [F_X12_isAhead, e_cl, e_jn, e_lt, e_cxl, e_cxr, e_rzn, ↓l_m1, ↓l_m2, ↓l_m8, l_0, l_1, l_2, l_3, l_4, l_5, l_6, l_7, l_8, l_9, l_10, l_12, l_16, l_20, l_24, l_31, l_32, l_35, l_36, l_40, l_44, l_48, l_59, l_63, l_64, l_90, l_95, l_96, l_100, l_120, l_127, l_200, l_216, l_255, l_999, l_1000, l_10000, l_1000000, l_1048575, l_1000000000, nI_add, pk_mul, pk_sub, nI_leI, nI_ltI, nI_eq, nI_dec, nI_o0, mx_n, mn_n, ab_1, ab_n, e_u2e, e_u2k, e_u2a, if_pos, if_neg, if_true, if_false, not_true, not_false_eq_true, ne_eq, Nat.add_zero, Nat.zero_add, rP hs, rI hs, rT hs, rR_49 hs, rA_231 hs, rS_231 hs, rR_50 hs, rA_232 hs, rS_232 hs, hL, w1]
  · rw [oI_p c] at w1
    simp (disch := omega) only [F_X12_isAhead, e_cl, e_jn, e_lt, e_cxl, e_cxr, e_rzn, ↓l_m1, ↓l_m2, ↓l_m8, l_0, l_1, l_2, l_3, l_4, l_5, l_6, l_7, l_8, l_9, l_10, l_12, l_16, l_20, l_24, l_31, l_32, l_35, l_36, l_40, l_44, l_48, l_59, l_63, l_64, l_90, l_95, l_96, l_100, l_120, l_127, l_200, l_216, l_255, l_999, l_1000, l_10000, l_1000000, l_1048575, l_1000000000, nI_add, pk_mul, pk_sub, nI_leI, nI_ltI, nI_eq, nI_dec, nI_o0, mx_n, mn_n, ab_1, ab_n, e_u2e, e_u2k, e_u2a, if_pos, if_neg, if_true, if_false, not_true, not_false_eq_true, ne_eq, Nat.add_zero, Nat.zero_add, rP hs, rI hs, rT hs, rR_49 hs, rA_231 hs, rS_231 hs, rR_50 hs, rA_232 hs, rS_232 hs, hL, w1, b1]
theorem R_L73 (hs : RS u) {n : Nat} {rc : Nat → Int32 → Int32 → Int32 → PM → Option (Unit × PM)} (hn10 : n ≤ 10) : ∀ (d k fu : Nat) (m : IM), m 200 45 = nI n → k + d = n → d < fu →
    ∃ m', (∀ K, F_X12_tryPairs_L73 rc 200 K fu (nI k) (pm m j u) = K (pm m' j u)) ∧ (∀ b, b ≠ 232 → m' b = m b) ∧ (∀ i, i < k → m' 232 i = m 232 i) ∧ ∀ i, k ≤ i → i < n → m' 232 i = m 231 i := by
  intro d
  induction d with
  | zero =>
    intro k fu m h1 hk hfu
    obtain ⟨fu, rfl⟩ : ∃ g, fu = g + 1 := ⟨fu - 1, by omega⟩
    have e : k = n := by omega
    subst e
    refine ⟨m, fun K => ?_, fun _ _ => rfl, fun _ _ => rfl, fun i g1 g2 => by omega⟩
    simp (disch := omega) only [F_X12_tryPairs_L73, e_cl, e_jn, e_lt, e_cxl, e_cxr, e_rzn, ↓l_m1, ↓l_m2, ↓l_m8, l_0, l_1, l_2, l_3, l_4, l_5, l_6, l_7, l_8, l_9, l_10, l_12, l_16, l_20, l_24, l_31, l_32, l_35, l_36, l_40, l_44, l_48, l_59, l_63, l_64, l_90, l_95, l_96, l_100, l_120, l_127, l_200, l_216, l_255, l_999, l_1000, l_10000, l_1000000, l_1048575, l_1000000000, nI_add, pk_mul, pk_sub, nI_leI, nI_ltI, nI_eq, nI_dec, nI_o0, mx_n, mn_n, ab_1, ab_n, e_u2e, e_u2k, e_u2a, if_pos, if_neg, if_true, if_false, not_true, not_false_eq_true, ne_eq, Nat.add_zero, Nat.zero_add, rP hs, rI hs, rT hs, h1]
  | succ d ih =>
    intro k fu m h1 hk hfu
    obtain ⟨fu, rfl⟩ : ∃ g, fu = g + 1 := ⟨fu - 1, by omega⟩
    obtain ⟨m', i1, i2, i3, i4⟩ := ih (k + 1) fu (u2 m 232 k (m 231 k)) (by rw [e_u2a (by decide)]; exact h1) (by omega) (by omega)
    refine ⟨m', fun K => ?_, fun b h => by rw [i2 b h, e_u2r h], fun i hi => by rw [i3 i (by omega), e_u2k (by omega)], fun i g1 g2 => ?_⟩
    · rw [← i1 K, F_X12_tryPairs_L73]
      simp (disch := omega) only [e_cl, e_jn, e_lt, e_cxl, e_cxr, e_rzn, ↓l_m1, ↓l_m2, ↓l_m8, l_0, l_1, l_2, l_3, l_4, l_5, l_6, l_7, l_8, l_9, l_10, l_12, l_16, l_20, l_24, l_31, l_32, l_35, l_36, l_40, l_44, l_48, l_59, l_63, l_64, l_90, l_95, l_96, l_100, l_120, l_127, l_200, l_216, l_255, l_999, l_1000, l_10000, l_1000000, l_1048575, l_1000000000, nI_add, pk_mul, pk_sub, nI_leI, nI_ltI, nI_eq, nI_dec, nI_o0, mx_n, mn_n, ab_1, ab_n, e_u2e, e_u2k, e_u2a, if_pos, if_neg, if_true, if_false, not_true, not_false_eq_true, ne_eq, Nat.add_zero, Nat.zero_add, rP hs, rI hs, rT hs, rR_49 hs, rA_231 hs, rS_231 hs, rR_50 hs, rA_232 hs, rS_232 hs, h1]
    · by_cases e : i = k
      · subst e; rw [i3 _ (by omega), e_u2s]
      · rw [i4 i (by omega) g2, e_u2a (by decide)]
theorem oI_eqn {T S : Nat} (hT : T < 2 ^ 31) (hS : S < 2 ^ 30) : nI S = oI T ↔ T = S + 1 := by
  rw [← oI_s S, oI_inj (by omega) hT]
  exact ⟨fun h => h.symm, fun h => h.symm⟩
/-- the reference's leaf -/
theorem R_tp0 (hs : RS u) {n dd p s v : Nat} {tn g W : Nat → Nat} {st : Nat × (Nat → Nat)} (hT : TM m n tn g) (hW : WM m n W) (hB : BM m n st) (hv : v + s = 1000000 * p) (hsp : s ≤ 21600 * p) (hp : p ≤ 10) (hf : Bf n W st) :
    ∃ m', F_X12_tryPairs (dd + 1) 200 (nI n) (nI p) (nI s) (pm m j u) = some ((), pm m' j u) ∧ WM m' n W ∧ BM m' n (if st.1 < v + 1 then (v + 1, W) else st) ∧ TF m m' := by
  obtain ⟨h45, hn10, hT2⟩ := hT
  obtain ⟨⟨bp, bo, b1, b2, b3⟩, b4⟩ := hB
  have bp11 : bp ≤ 11 := by omega
  have q1 := oI_lt (T := bp) (S := p) (by omega) (by omega)
  have q2 := oI_eqn (T := bp) (S := p) (by omega) (by omega)
  have q3 := nI_ltI (a := s) (b := bo) (by omega) (by omega)
  have q4 := nI_eq (a := s) (b := bo) (by omega) (by omega)
  have e45 : ¬ ¬ nI n = nI n := fun z => z rfl
  by_cases c : st.1 < v + 1
  · obtain ⟨m1, a1, a2, a3, a4⟩ := R_L73 (j := j) (rc := F_X12_tryPairs dd) hs hn10 n 0 LF (u2 (u2 m 200 46 (nI p)) 200 47 (nI s)) (by rw [e_u2k (by decide), e_u2k (by decide)]; exact h45) (by omega) (by unfold LF; omega)
    have a2' : ∀ b, b ≠ 200 → b ≠ 232 → m1 b = m b := fun b g1 g2 => by rw [a2 b g2, e_u2r g1, e_u2r g1]
    refine ⟨m1, ?_, fun k hk => by rw [a2' 231 (by decide) (by decide)]; exact hW k hk, ?_, ?_⟩
    · have fin : ∀ (x : Unit), (jn (fun (h54 : PM) => some (x, h54)) fun k102 => F_X12_tryPairs_L73 (F_X12_tryPairs dd) 200 k102 LF 0 (pm (u2 (u2 m 200 46 (nI p)) 200 47 (nI s)) j u)) = some (x, pm m1 j u) := fun x => by
        rw [e_jn, show (0 : Int32) = nI 0 from rfl, a1]
      have n1 : ¬ ((1 : Int32) = 0) := by decide
      rw [F_X12_tryPairs, rI hs, h45, if_neg e45, rI hs, b1, e_jn, e_jn]
      by_cases c1 : bp < p + 1
      · rw [if_pos (q1.mpr c1)]
        dsimp only
        rw [if_pos n1, rP hs, rP hs]
        exact fin ()
      · have c2 : bp = p + 1 ∧ s < bo := by omega
        rw [if_neg (fun z => c1 (q1.mp z)), rI hs, b1, e_jn, if_neg (fun z => z (q2.mpr c2.1)), rI hs, b2, if_pos (q3.mpr c2.2)]
        dsimp only
        rw [if_pos n1, rP hs, rP hs]
        exact fin ()
    · rw [if_pos c]
      refine ⟨⟨p + 1, s, ?_, ?_, Or.inr ⟨by omega, ?_, by omega, by omega⟩⟩, fun _ k hk => ?_⟩
      · rw [a2 200 (by decide), e_u2k (by decide), e_u2s, oI_s]
      · rw [a2 200 (by decide), e_u2s]
      · show v + 1 + s = _; omega
      · rw [a4 k (by omega) hk, e_u2a (by decide), e_u2a (by decide)]; exact hW k hk
    · exact ⟨fun b g1 g2 g3 => a2' b g1 g3, fun k g1 g2 => by rw [a2 200 (by decide), e_u2k g2, e_u2k g1]⟩
  · refine ⟨m, ?_, hW, by rw [if_neg c]; exact ⟨⟨bp, bo, b1, b2, b3⟩, b4⟩, TF_rf⟩
    have n0 : ¬ ¬ ((0 : Int32) = 0) := fun z => z rfl
    rw [F_X12_tryPairs, rI hs, h45, if_neg e45, rI hs, b1, e_jn, e_jn]
    have c1 : ¬ bp < p + 1 := by omega
    rw [if_neg (fun z => c1 (q1.mp z)), rI hs, b1, e_jn]
    by_cases c2 : bp = p + 1
    · rw [if_neg (fun z => z (q2.mpr c2)), rI hs, b2]
      have c3 : ¬ s < bo := by omega
      rw [if_neg (fun z => c3 (q3.mp z)), rI hs, b2]
      by_cases c4 : s = bo
      · rw [if_neg (fun z => z (q4.mpr c4)), rT hs]
        have hz : st.1 ≠ 0 := by omega
        rcases hf with z | ⟨q, f1, f2, f3, f4⟩
        · exact absurd z hz
        · rw [R_ahead hs h45 hn10 hW (b4 hz) f1 f2 f3 f4, e_cl, if_pos (show nI 0 = 0 from rfl)]
          dsimp only
          rw [if_neg n0]
      · rw [if_pos (fun z => c4 (q4.mp z))]
        dsimp only
        rw [if_neg n0]
    · rw [if_pos (fun z => c2 (q2.mp z))]
      dsimp only
      rw [if_neg n0]
end RMA
