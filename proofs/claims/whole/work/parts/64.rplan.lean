/-! ===== the reference: the plan ===== -/
section RPLAN
variable {m : IM} {j : JM} {u : SU}
theorem R_off {a b : Nat} (ha : a < 2 ^ 30) (hb : b < 2 ^ 30) (h : PM) : F_X12_off (nI a - nI b) h = some (nI (adiff a b), h) := by
  unfold F_X12_off adiff
  rw [e_jn]
  by_cases c : b ≤ a
  · rw [pk_sub c, if_pos (nI_pos' (by omega)), show b - a = 0 by omega, Nat.add_zero]
  · have e : ¬ 0 ≤ nI a - nI b := fun z => by rw [fa_le, pk_sub_toInt ha hb] at z; have : ((0 : Int32)).toInt = 0 := rfl; omega
    rw [if_neg e, show a - b = 0 by omega, Nat.zero_add, Int32.neg_sub, pk_sub (by omega)]
theorem R_off1 {a : Nat} (ha : a < 2 ^ 31) (h : PM) : F_X12_off (nI a) h = some (nI a, h) := by
  unfold F_X12_off
  rw [e_jn, if_pos (nI_pos' ha)]
theorem R_way {i a i2 a2 : Nat} (h1 : i ≤ 95) (h2 : a ≤ 90) (h3 : i2 ≤ 95) (h4 : a2 ≤ 90) (h : PM) : F_X12_way (nI i) (nI a) (nI i2) (nI a2) h = some (nI (wayN i a i2 a2), h) := by
  unfold F_X12_way wayN
  rw [R_off (by omega) (by omega)]
  have hd : adiff i i2 ≤ 95 := by unfold adiff; omega
  generalize adiff i i2 = d at hd ⊢
  simp only [e_cl, e_jn, R_off (show a < 2 ^ 30 by omega) (show a2 < 2 ^ 30 by omega)]
  generalize adiff a a2 = e
  simp (disch := omega) only [l_96, l_2, pk_sub, nI_leI, pk_mul, nI_add]
  by_cases c : 96 - d ≤ d
  · rw [if_pos c, Nat.min_eq_right c]
  · rw [if_neg c, Nat.min_eq_left (by omega)]
/-- the facets of a stone as the reference has them -/
def FI (m : IM) (s n : Nat) (ix an : Nat → Nat) : Prop := n ≤ 8 ∧ s < 40 ∧ ∀ f, f < n → m 222 (8 * s + f) = nI (ix f) ∧ m 223 (8 * s + f) = nI (an f) ∧ ix f ≤ 95 ∧ an f ≤ 90
def apF (ix an : Nat → Nat) (f g : Nat) : Nat := wayN (ix f) (an f) (ix g) (an g)
def stF (ix an : Nat → Nat) (g : Nat) : Nat := wayN 0 0 (ix g) (an g)
theorem R_between (hs : RS u) {s n f g : Nat} {ix an : Nat → Nat} (hF : FI m s n ix an) (hf : f < n) (hg : g < n) : F_X12_between 200 (nI s) (nI f) (nI g) (pm m j u) = some (nI (apF ix an f g), pm m j u) := by
  obtain ⟨h1, h2, h3⟩ := hF
  obtain ⟨a1, a2, a3, a4⟩ := h3 f hf
  obtain ⟨b1, b2, b3, b4⟩ := h3 g hg
  simp (disch := omega) only [F_X12_between, e_cl, e_jn, e_lt, e_cxl, e_cxr, e_rzn, ↓l_m1, ↓l_m2, ↓l_m8, l_0, l_1, l_2, l_3, l_4, l_5, l_6, l_7, l_8, l_9, l_10, l_12, l_16, l_20, l_24, l_31, l_32, l_35, l_36, l_40, l_44, l_48, l_59, l_63, l_64, l_90, l_95, l_96, l_100, l_120, l_127, l_200, l_216, l_255, l_999, l_1000, l_10000, l_1000000, l_1048575, l_1000000000, nI_add, pk_mul, pk_sub, nI_leI, nI_ltI, nI_eq, nI_dec, nI_o0, mx_n, mn_n, ab_1, ab_n, e_u2e, e_u2k, e_u2a, if_pos, if_neg, if_true, if_false, not_true, not_false_eq_true, ne_eq, Nat.add_zero, Nat.zero_add, rP hs, rI hs, rT hs, rR_37 hs, rA_222 hs, rS_222 hs, rR_38 hs, rA_223 hs, rS_223 hs, a1, a2, b1, b2, R_way a3 a4 b3 b4]
  rfl
theorem R_first (hs : RS u) {s n g : Nat} {ix an : Nat → Nat} (hF : FI m s n ix an) (hg : g < n) : F_X12_first 200 (nI s) (nI g) (pm m j u) = some (nI (stF ix an g), pm m j u) := by
  obtain ⟨h1, h2, h3⟩ := hF
  obtain ⟨b1, b2, b3, b4⟩ := h3 g hg
  simp (disch := omega) only [F_X12_first, e_cl, e_jn, e_lt, e_cxl, e_cxr, e_rzn, ↓l_m1, ↓l_m2, ↓l_m8, l_0, l_1, l_2, l_3, l_4, l_5, l_6, l_7, l_8, l_9, l_10, l_12, l_16, l_20, l_24, l_31, l_32, l_35, l_36, l_40, l_44, l_48, l_59, l_63, l_64, l_90, l_95, l_96, l_100, l_120, l_127, l_200, l_216, l_255, l_999, l_1000, l_10000, l_1000000, l_1048575, l_1000000000, nI_add, pk_mul, pk_sub, nI_leI, nI_ltI, nI_eq, nI_dec, nI_o0, mx_n, mn_n, ab_1, ab_n, e_u2e, e_u2k, e_u2a, if_pos, if_neg, if_true, if_false, not_true, not_false_eq_true, ne_eq, Nat.add_zero, Nat.zero_add, rP hs, rI hs, rT hs, rR_37 hs, rA_222 hs, rS_222 hs, rR_38 hs, rA_223 hs, rS_223 hs, b1, b2, R_way (Nat.zero_le 95) (Nat.zero_le 90) b3 b4]
  rfl
def acc0 (A x : Nat) : Nat := if x = 0 then A else x - 1
theorem R_L47 (hs : RS u) {s n S f A : Nat} {ix an rr : Nat → Nat} {c3 : Int32} (hF : FI m s n ix an) (hS : S < 2 ^ n) (hf : f < n) (hT : ∀ g, g < n → S.testBit g = false → m 228 (8 * (S ||| 2 ^ g) + g) = nI (rr g)) (hr : ∀ g, g < n → S.testBit g = false → apF ix an f g + rr g < A) (hA : A ≤ 1000000000) (k : Int32 → PM → Option (Int32 × PM)) : ∀ (d g fu : Nat), g + d = n → d < fu →
    F_X12_findPlan_L47 200 (nI s) (nI n) c3 (nI S) (nI f) k fu (nI (acc0 A (mnv (fun g => !S.testBit g) (fun g => apF ix an f g + rr g) g))) (nI g) (pm m j u) = k (nI (acc0 A (mnv (fun g => !S.testBit g) (fun g => apF ix an f g + rr g) n))) (pm m j u) := by
  have hn := hF.1
  have h8 := p2_256 hn
  intro d
  induction d with
  | zero =>
    intro g fu hg hfu
    obtain ⟨fu, rfl⟩ : ∃ g, fu = g + 1 := ⟨fu - 1, by omega⟩
    have e : g = n := by omega
    subst e
    simp (disch := omega) only [F_X12_findPlan_L47, e_cl, e_jn, e_lt, e_cxl, e_cxr, e_rzn, ↓l_m1, ↓l_m2, ↓l_m8, l_0, l_1, l_2, l_3, l_4, l_5, l_6, l_7, l_8, l_9, l_10, l_12, l_16, l_20, l_24, l_31, l_32, l_35, l_36, l_40, l_44, l_48, l_59, l_63, l_64, l_90, l_95, l_96, l_100, l_120, l_127, l_200, l_216, l_255, l_999, l_1000, l_10000, l_1000000, l_1048575, l_1000000000, nI_add, pk_mul, pk_sub, nI_leI, nI_ltI, nI_eq, nI_dec, nI_o0, mx_n, mn_n, ab_1, ab_n, e_u2e, e_u2k, e_u2a, if_pos, if_neg, if_true, if_false, not_true, not_false_eq_true, ne_eq, Nat.add_zero, Nat.zero_add]
  | succ d ih =>
    intro g fu hg hfu
    obtain ⟨fu, rfl⟩ : ∃ g, fu = g + 1 := ⟨fu - 1, by omega⟩
    have hi := ih (g + 1) fu (by omega) (by omega)
    have hgn : g < n := by omega
    by_cases c : S.testBit g = true
    · have t := tb0 c
      simp (disch := omega) only [F_X12_findPlan_L47, e_cl, e_jn, e_lt, e_cxl, e_cxr, e_rzn, ↓l_m1, ↓l_m2, ↓l_m8, l_0, l_1, l_2, l_3, l_4, l_5, l_6, l_7, l_8, l_9, l_10, l_12, l_16, l_20, l_24, l_31, l_32, l_35, l_36, l_40, l_44, l_48, l_59, l_63, l_64, l_90, l_95, l_96, l_100, l_120, l_127, l_200, l_216, l_255, l_999, l_1000, l_10000, l_1000000, l_1048575, l_1000000000, nI_add, pk_mul, pk_sub, nI_leI, nI_ltI, nI_eq, nI_dec, nI_o0, mx_n, mn_n, ab_1, ab_n, e_u2e, e_u2k, e_u2a, if_pos, if_neg, if_true, if_false, not_true, not_false_eq_true, ne_eq, Nat.add_zero, Nat.zero_add, n_sbit]
      rw [mnv, if_neg (fun z => by rw [c] at z; cases z.1)] at hi
      exact hi
    · have c := ts_nt c
      have t := tb1 c
      have hp := hT g hgn c
      have hb := hr g hgn c
      obtain ⟨q1, q2⟩ := or_gt hS hgn c
      have hmb : mnv (fun g => !S.testBit g) (fun g => apF ix an f g + rr g) g ≤ A := by
        cases A with
        | zero => omega
        | succ A => exact mnv_bound (fun g' hg' hp' => by have := hr g' (by omega) (by simpa using hp'); show apF ix an f g' + rr g' ≤ A; omega)
      rw [mnv] at hi
      generalize hM : mnv (fun g => !S.testBit g) (fun g => apF ix an f g + rr g) g = M at *
      have hx : acc0 A M ≤ A := by unfold acc0; split <;> omega
      simp (disch := omega) only [F_X12_findPlan_L47, e_cl, e_jn, e_lt, e_cxl, e_cxr, e_rzn, ↓l_m1, ↓l_m2, ↓l_m8, l_0, l_1, l_2, l_3, l_4, l_5, l_6, l_7, l_8, l_9, l_10, l_12, l_16, l_20, l_24, l_31, l_32, l_35, l_36, l_40, l_44, l_48, l_59, l_63, l_64, l_90, l_95, l_96, l_100, l_120, l_127, l_200, l_216, l_255, l_999, l_1000, l_10000, l_1000000, l_1048575, l_1000000000, nI_add, pk_mul, pk_sub, nI_leI, nI_ltI, nI_eq, nI_dec, nI_o0, mx_n, mn_n, ab_1, ab_n, e_u2e, e_u2k, e_u2a, if_pos, if_neg, if_true, if_false, not_true, not_false_eq_true, ne_eq, Nat.add_zero, Nat.zero_add, rP hs, rI hs, rT hs, rR_43 hs, rA_228 hs, rS_228 hs, n_sbit, n_shl', n_or, R_between hs hF hf hgn, hp]
      by_cases c2 : M = 0 ∨ apF ix an f g + rr g + 1 < M
      · rw [if_pos ⟨by rw [c]; rfl, c2⟩] at hi
        have : ¬ acc0 A M ≤ apF ix an f g + rr g := by unfold acc0; split <;> omega
        rw [if_neg this]
        exact hi
      · rw [if_neg (fun z => c2 z.2)] at hi
        have : acc0 A M ≤ apF ix an f g + rr g := by unfold acc0; split <;> omega
        rw [if_pos this]
        exact hi
/-- the table of the rests, of the sets above lo -/
def TB (m : IM) (lo n : Nat) (ap : Nat → Nat → Nat) : Prop := ∀ S, lo < S → S < 2 ^ n → ∀ f, f < n → m 228 (8 * S + f) = nI (rst n ap S f)
theorem ap_b {ix an : Nat → Nat} {s n : Nat} (hF : FI m s n ix an) : ∀ f g, f < n → g < n → apF ix an f g ≤ 228 := fun f g hf hg => by
  obtain ⟨-, -, a3, a4⟩ := hF.2.2 f hf
  obtain ⟨-, -, b3, b4⟩ := hF.2.2 g hg
  exact wayN_le a3 a4 b3 b4
theorem st_b {ix an : Nat → Nat} {s n : Nat} (hF : FI m s n ix an) : ∀ g, g < n → stF ix an g ≤ 228 := fun g hg => by
  obtain ⟨-, -, b3, b4⟩ := hF.2.2 g hg
  exact wayN_le (Nat.zero_le _) (Nat.zero_le _) b3 b4
theorem all_bits {S n : Nat} (hS : S < 2 ^ n) (h : ∀ g, g < n → S.testBit g = true) : S = 2 ^ n - 1 := by
  apply Nat.eq_of_testBit_eq
  intro i
  rw [Nat.testBit_two_pow_sub_one]
  by_cases c : i < n
  · rw [h i c, decide_eq_true c]
  · rw [Nat.testBit_lt_two_pow (Nat.lt_of_lt_of_le hS (Nat.pow_le_pow_right (by decide) (by omega))), decide_eq_false c]
theorem FI_fr {m' : IM} {s n : Nat} {ix an : Nat → Nat} (h : FI m s n ix an) (h1 : m' 222 = m 222) (h2 : m' 223 = m 223) : FI m' s n ix an := by
  unfold FI
  rw [h1, h2]
  exact h
theorem R_L24 (hs : RS u) {s n S : Nat} {ix an : Nat → Nat} (hS : S < 2 ^ n) (k : PM → Option (Int32 × PM)) : ∀ (d f fu : Nat) (m : IM), FI m s n ix an → TB m S n (apF ix an) → f + d = n → d < fu →
    ∃ m', F_X12_findPlan_L24 200 (nI s) (nI n) (nI (2 ^ n - 1)) (nI S) k fu (nI f) (pm m j u) = k (pm m' j u) ∧ (∀ b, b ≠ 228 → m' b = m b) ∧ (∀ i, (i < 8 * S + f ∨ 8 * S + n ≤ i) → m' 228 i = m 228 i) ∧ ∀ g, f ≤ g → g < n → m' 228 (8 * S + g) = nI (rst n (apF ix an) S g) := by
  intro d
  induction d with
  | zero =>
    intro f fu m hF hT hd hfu
    have hn := hF.1
    obtain ⟨fu, rfl⟩ : ∃ g, fu = g + 1 := ⟨fu - 1, by omega⟩
    have e : f = n := by omega
    subst e
    refine ⟨m, ?_, fun _ _ => rfl, fun _ _ => rfl, fun g h1 h2 => by omega⟩
    simp (disch := omega) only [F_X12_findPlan_L24, e_cl, e_jn, e_lt, e_cxl, e_cxr, e_rzn, ↓l_m1, ↓l_m2, ↓l_m8, l_0, l_1, l_2, l_3, l_4, l_5, l_6, l_7, l_8, l_9, l_10, l_12, l_16, l_20, l_24, l_31, l_32, l_35, l_36, l_40, l_44, l_48, l_59, l_63, l_64, l_90, l_95, l_96, l_100, l_120, l_127, l_200, l_216, l_255, l_999, l_1000, l_10000, l_1000000, l_1048575, l_1000000000, nI_add, pk_mul, pk_sub, nI_leI, nI_ltI, nI_eq, nI_dec, nI_o0, mx_n, mn_n, ab_1, ab_n, e_u2e, e_u2k, e_u2a, if_pos, if_neg, if_true, if_false, not_true, not_false_eq_true, ne_eq, Nat.add_zero, Nat.zero_add]
  | succ d ih =>
    intro f fu m hF hT hd hfu
    have hn := hF.1
    have h8 := p2_256 hn
    have hf : f < n := by omega
    obtain ⟨fu, rfl⟩ : ∃ g, fu = g + 1 := ⟨fu - 1, by omega⟩
    obtain ⟨m', i1, i2, i3, i4⟩ := ih (f + 1) fu (u2 m 228 (8 * S + f) (nI (rst n (apF ix an) S f))) (FI_fr hF (e_u2r (by decide)) (e_u2r (by decide))) (fun S' h1 h2 g hg => by rw [e_u2k (by omega)]; exact hT S' h1 h2 g hg) (by omega) (by omega)
    refine ⟨m', ?_, fun b hb => by rw [i2 b hb, e_u2r hb], fun i hi => by rw [i3 i (by omega), e_u2k (by omega)], fun g h1 h2 => ?_⟩
    · have hrr : ∀ g, g < n → S.testBit g = false → m 228 (8 * (S ||| 2 ^ g) + g) = nI (rst n (apF ix an) (S ||| 2 ^ g) g) := fun g hg hp => by
        obtain ⟨q1, q2⟩ := or_gt hS hg hp
        exact hT _ q1 q2 g hg
      have hb : ∀ g, g < n → S.testBit g = false → apF ix an f g + rst n (apF ix an) (S ||| 2 ^ g) g < 1000000000 := fun g hg _ => by
        have := ap_b hF f g hf hg
        have := rst_bound (ap_b hF) (S := S ||| 2 ^ g) hg
        omega
      by_cases c : S = 2 ^ n - 1
      · have hno : ∀ g, g < n → S.testBit g = true := fun g hg => by rw [c, Nat.testBit_two_pow_sub_one, decide_eq_true hg]
        have hz : mnv (fun g => !S.testBit g) (fun g => apF ix an f g + rst n (apF ix an) (S ||| 2 ^ g) g) n = 0 := (mnv_zero _ _ n).mpr (fun g hg => by simp [hno g hg])
        have h47 := R_L47 (j := j) (c3 := nI (2 ^ n - 1)) (A := 0) hs hF hS hf hrr (fun g hg hp => by rw [hno g hg] at hp; cases hp) (by omega) (fun v53 h54 => gR h54 200 13 43 fun x55 => sI h54 x55 ((8 * nI S) + nI f) v53 fun h56 => F_X12_findPlan_L24 200 (nI s) (nI n) (nI (2 ^ n - 1)) (nI S) k fu (nI f + 1) h56) n 0 LF (by omega) (by unfold LF; omega)
        rw [hz, show acc0 0 (mnv _ _ 0) = 0 from rfl, show acc0 0 0 = 0 from rfl] at h47
        have er := rst_eq (apF ix an) hn f hS
        rw [hz] at er
        rw [er] at i1
        rw [F_X12_findPlan_L24]
        simp (disch := omega) only [e_cl, e_jn, e_lt, e_cxl, e_cxr, e_rzn, ↓l_m1, ↓l_m2, ↓l_m8, l_0, l_1, l_2, l_3, l_4, l_5, l_6, l_7, l_8, l_9, l_10, l_12, l_16, l_20, l_24, l_31, l_32, l_35, l_36, l_40, l_44, l_48, l_59, l_63, l_64, l_90, l_95, l_96, l_100, l_120, l_127, l_200, l_216, l_255, l_999, l_1000, l_10000, l_1000000, l_1048575, l_1000000000, nI_add, pk_mul, pk_sub, nI_leI, nI_ltI, nI_eq, nI_dec, nI_o0, mx_n, mn_n, ab_1, ab_n, e_u2e, e_u2k, e_u2a, if_pos, if_neg, if_true, if_false, not_true, not_false_eq_true, ne_eq, Nat.add_zero, Nat.zero_add, rP hs, rI hs, rT hs, rR_43 hs, rA_228 hs, rS_228 hs] at h47 i1 ⊢
        rw [h47, i1]
      · have hz : mnv (fun g => !S.testBit g) (fun g => apF ix an f g + rst n (apF ix an) (S ||| 2 ^ g) g) n ≠ 0 := fun z => c (all_bits hS (fun g hg => by have := (mnv_zero _ _ n).mp z g hg; simpa using this))
        have h47 := R_L47 (j := j) (c3 := nI (2 ^ n - 1)) (A := 1000000000) hs hF hS hf hrr hb (by omega) (fun v53 h54 => gR h54 200 13 43 fun x55 => sI h54 x55 ((8 * nI S) + nI f) v53 fun h56 => F_X12_findPlan_L24 200 (nI s) (nI n) (nI (2 ^ n - 1)) (nI S) k fu (nI f + 1) h56) n 0 LF (by omega) (by unfold LF; omega)
        rw [show acc0 1000000000 (mnv _ _ 0) = 1000000000 from rfl] at h47
        have er := rst_eq (apF ix an) hn f hS
        rw [show acc0 1000000000 _ = _ from if_neg hz, ← er] at h47
        rw [F_X12_findPlan_L24]
        simp (disch := omega) only [e_cl, e_jn, e_lt, e_cxl, e_cxr, e_rzn, ↓l_m1, ↓l_m2, ↓l_m8, l_0, l_1, l_2, l_3, l_4, l_5, l_6, l_7, l_8, l_9, l_10, l_12, l_16, l_20, l_24, l_31, l_32, l_35, l_36, l_40, l_44, l_48, l_59, l_63, l_64, l_90, l_95, l_96, l_100, l_120, l_127, l_200, l_216, l_255, l_999, l_1000, l_10000, l_1000000, l_1048575, l_1000000000, nI_add, pk_mul, pk_sub, nI_leI, nI_ltI, nI_eq, nI_dec, nI_o0, mx_n, mn_n, ab_1, ab_n, e_u2e, e_u2k, e_u2a, if_pos, if_neg, if_true, if_false, not_true, not_false_eq_true, ne_eq, Nat.add_zero, Nat.zero_add, rP hs, rI hs, rT hs, rR_43 hs, rA_228 hs, rS_228 hs] at h47 i1 ⊢
        rw [h47, i1]
    · by_cases e : g = f
      · subst e; rw [i3 _ (by omega), e_u2s]
      · exact i4 g (by omega) h2
theorem R_L16 (hs : RS u) {s n : Nat} {ix an : Nat → Nat} (k : PM → Option (Int32 × PM)) : ∀ (S fu : Nat) (m : IM), FI m s n ix an → TB m S n (apF ix an) → S < 2 ^ n → S < fu →
    ∃ m', F_X12_findPlan_L16 200 (nI s) (nI n) (nI (2 ^ n - 1)) k fu (nI S) (pm m j u) = k (pm m' j u) ∧ (∀ b, b ≠ 228 → m' b = m b) ∧ TB m' 0 n (apF ix an) := by
  intro S
  induction S with
  | zero =>
    intro fu m hF hT hS hfu
    obtain ⟨fu, rfl⟩ : ∃ g, fu = g + 1 := ⟨fu - 1, by omega⟩
    refine ⟨m, ?_, fun _ _ => rfl, hT⟩
    simp (disch := omega) only [F_X12_findPlan_L16, e_cl, e_jn, e_lt, e_cxl, e_cxr, e_rzn, ↓l_m1, ↓l_m2, ↓l_m8, l_0, l_1, l_2, l_3, l_4, l_5, l_6, l_7, l_8, l_9, l_10, l_12, l_16, l_20, l_24, l_31, l_32, l_35, l_36, l_40, l_44, l_48, l_59, l_63, l_64, l_90, l_95, l_96, l_100, l_120, l_127, l_200, l_216, l_255, l_999, l_1000, l_10000, l_1000000, l_1048575, l_1000000000, nI_add, pk_mul, pk_sub, nI_leI, nI_ltI, nI_eq, nI_dec, nI_o0, mx_n, mn_n, ab_1, ab_n, e_u2e, e_u2k, e_u2a, if_pos, if_neg, if_true, if_false, not_true, not_false_eq_true, ne_eq, Nat.add_zero, Nat.zero_add]
  | succ S ih =>
    intro fu m hF hT hS hfu
    have hn := hF.1
    have h8 := p2_256 hn
    obtain ⟨fu, rfl⟩ : ∃ g, fu = g + 1 := ⟨fu - 1, by omega⟩
    obtain ⟨m1, a1, a2, a3, a4⟩ := R_L24 (j := j) hs hS (fun h47 => F_X12_findPlan_L16 200 (nI s) (nI n) (nI (2 ^ n - 1)) k fu (nI (S + 1) + (-1)) h47) n 0 LF m hF hT (by omega) (by unfold LF; omega)
    obtain ⟨m', b1, b2, b3⟩ := ih fu m1 (FI_fr hF (a2 _ (by decide)) (a2 _ (by decide))) (fun S' h1 h2 f hf => by
      by_cases e : S' = S + 1
      · subst e; exact a4 f (by omega) hf
      · rw [a3 _ (by omega)]; exact hT S' (by omega) h2 f hf) (by omega) (by omega)
    refine ⟨m', ?_, fun b hb => by rw [b2 b hb, a2 b hb], b3⟩
    rw [F_X12_findPlan_L16]
    simp (disch := omega) only [e_cl, e_jn, e_lt, e_cxl, e_cxr, e_rzn, ↓l_m1, ↓l_m2, ↓l_m8, l_0, l_1, l_2, l_3, l_4, l_5, l_6, l_7, l_8, l_9, l_10, l_12, l_16, l_20, l_24, l_31, l_32, l_35, l_36, l_40, l_44, l_48, l_59, l_63, l_64, l_90, l_95, l_96, l_100, l_120, l_127, l_200, l_216, l_255, l_999, l_1000, l_10000, l_1000000, l_1048575, l_1000000000, nI_add, pk_mul, pk_sub, nI_leI, nI_ltI, nI_eq, nI_dec, nI_o0, mx_n, mn_n, ab_1, ab_n, e_u2e, e_u2k, e_u2a, if_pos, if_neg, if_true, if_false, not_true, not_false_eq_true, ne_eq, Nat.add_zero, Nat.zero_add] at a1 b1 ⊢
    rw [a1, b1]
theorem R_L187 (hs : RS u) {s n : Nat} {ix an : Nat → Nat} {p : Nat × Nat} {c6 c7 : Int32} (hF : FI m s n ix an) (hT : TB m 0 n (apF ix an)) (hp1 : p.1 < 2 ^ n) (hp2 : p.2 ≤ n) (k : Int32 → Int32 → PM → Option (Int32 × PM)) : ∀ (d g fu : Nat), g + d = n → d < fu →
    F_X12_findPlan_L187 200 (nI s) (nI n) (nI p.1) (oI p.2) c6 c7 k fu (oI (if mnv (fun g => !p.1.testBit g) (vv n (apF ix an) (stF ix an) p) g = 0 then 0 else amn (fun g => !p.1.testBit g) (vv n (apF ix an) (stF ix an) p) g + 1)) (nI (acc0 1000000000 (mnv (fun g => !p.1.testBit g) (vv n (apF ix an) (stF ix an) p) g))) (nI g) (pm m j u) =
      k (oI (if mnv (fun g => !p.1.testBit g) (vv n (apF ix an) (stF ix an) p) n = 0 then 0 else amn (fun g => !p.1.testBit g) (vv n (apF ix an) (stF ix an) p) n + 1)) (nI (acc0 1000000000 (mnv (fun g => !p.1.testBit g) (vv n (apF ix an) (stF ix an) p) n))) (pm m j u) := by
  have hn := hF.1
  have h8 := p2_256 hn
  intro d
  induction d with
  | zero =>
    intro g fu hg hfu
    obtain ⟨fu, rfl⟩ : ∃ g, fu = g + 1 := ⟨fu - 1, by omega⟩
    have e : g = n := by omega
    subst e
    simp (disch := omega) only [F_X12_findPlan_L187, e_cl, e_jn, e_lt, e_cxl, e_cxr, e_rzn, ↓l_m1, ↓l_m2, ↓l_m8, l_0, l_1, l_2, l_3, l_4, l_5, l_6, l_7, l_8, l_9, l_10, l_12, l_16, l_20, l_24, l_31, l_32, l_35, l_36, l_40, l_44, l_48, l_59, l_63, l_64, l_90, l_95, l_96, l_100, l_120, l_127, l_200, l_216, l_255, l_999, l_1000, l_10000, l_1000000, l_1048575, l_1000000000, nI_add, pk_mul, pk_sub, nI_leI, nI_ltI, nI_eq, nI_dec, nI_o0, mx_n, mn_n, ab_1, ab_n, e_u2e, e_u2k, e_u2a, if_pos, if_neg, if_true, if_false, not_true, not_false_eq_true, ne_eq, Nat.add_zero, Nat.zero_add]
  | succ d ih =>
    intro g fu hg hfu
    obtain ⟨fu, rfl⟩ : ∃ g, fu = g + 1 := ⟨fu - 1, by omega⟩
    have hi := ih (g + 1) fu (by omega) (by omega)
    have hgn : g < n := by omega
    obtain ⟨P, eP⟩ : ∃ P : Nat → Bool, P = fun g => !p.1.testBit g := ⟨_, rfl⟩
    rw [← eP] at hi ⊢
    by_cases c : p.1.testBit g = true
    · have t := tb0 c
      have st := mnv_n (P := P) (v := vv n (apF ix an) (stF ix an) p) (g := g) (fun z => by rw [eP] at z; simp [c] at z)
      rw [st.1, st.2] at hi
      rw [F_X12_findPlan_L187]
      simp (disch := omega) only [e_cl, e_jn, e_lt, e_cxl, e_cxr, e_rzn, ↓l_m1, ↓l_m2, ↓l_m8, l_0, l_1, l_2, l_3, l_4, l_5, l_6, l_7, l_8, l_9, l_10, l_12, l_16, l_20, l_24, l_31, l_32, l_35, l_36, l_40, l_44, l_48, l_59, l_63, l_64, l_90, l_95, l_96, l_100, l_120, l_127, l_200, l_216, l_255, l_999, l_1000, l_10000, l_1000000, l_1048575, l_1000000000, nI_add, pk_mul, pk_sub, nI_leI, nI_ltI, nI_eq, nI_dec, nI_o0, mx_n, mn_n, ab_1, ab_n, e_u2e, e_u2k, e_u2a, if_pos, if_neg, if_true, if_false, not_true, not_false_eq_true, ne_eq, Nat.add_zero, Nat.zero_add, n_sbit]
      exact hi
    · have c := ts_nt c
      have t := tb1 c
      obtain ⟨q1, q2⟩ := or_gt hp1 hgn c
      have hp := hT _ (by omega) q2 g hgn
      have hvb : ∀ g, g < n → vv n (apF ix an) (stF ix an) p g < 1000000 := fun g hg => by
        have h2 := rst_bound (ap_b hF) (S := p.1 ||| 2 ^ g) hg
        unfold vv
        split
        · have := st_b hF g hg; omega
        · have := ap_b hF (p.2 - 1) g (by omega) hg; omega
      have hv := hvb g hgn
      have hP : P g = true := by rw [eP]; simp [c]
      have hmb : mnv P (vv n (apF ix an) (stF ix an) p) g ≤ 1000000 + 1 := mnv_bound (fun g' hg' _ => by have := hvb g' (by omega); omega)
      have hvv : vv n (apF ix an) (stF ix an) p g = (if p.2 = 0 then stF ix an g else apF ix an (p.2 - 1) g) + rst n (apF ix an) (p.1 ||| 2 ^ g) g := rfl
      have sy := mnv_y (P := P) (v := vv n (apF ix an) (stF ix an) p) (g := g)
      have sn := mnv_n (P := P) (v := vv n (apF ix an) (stF ix an) p) (g := g)
      generalize hM : mnv P (vv n (apF ix an) (stF ix an) p) g = M at hmb sy sn ⊢
      have step : F_X12_findPlan_L187 200 (nI s) (nI n) (nI p.1) (oI p.2) c6 c7 k (fu + 1) (oI (if M = 0 then 0 else amn P (vv n (apF ix an) (stF ix an) p) g + 1)) (nI (acc0 1000000000 M)) (nI g) (pm m j u) = if vv n (apF ix an) (stF ix an) p g < acc0 1000000000 M then F_X12_findPlan_L187 200 (nI s) (nI n) (nI p.1) (oI p.2) c6 c7 k fu (nI g) (nI (vv n (apF ix an) (stF ix an) p g)) (nI (g + 1)) (pm m j u) else F_X12_findPlan_L187 200 (nI s) (nI n) (nI p.1) (oI p.2) c6 c7 k fu (oI (if M = 0 then 0 else amn P (vv n (apF ix an) (stF ix an) p) g + 1)) (nI (acc0 1000000000 M)) (nI (g + 1)) (pm m j u) := by
        have hx : acc0 1000000000 M ≤ 1000000000 := by unfold acc0; split <;> omega
        rw [F_X12_findPlan_L187]
        by_cases z : p.2 = 0
        · rw [if_pos z] at hvv
          simp (disch := omega) only [e_cl, e_jn, e_lt, e_cxl, e_cxr, e_rzn, ↓l_m1, ↓l_m2, ↓l_m8, l_0, l_1, l_2, l_3, l_4, l_5, l_6, l_7, l_8, l_9, l_10, l_12, l_16, l_20, l_24, l_31, l_32, l_35, l_36, l_40, l_44, l_48, l_59, l_63, l_64, l_90, l_95, l_96, l_100, l_120, l_127, l_200, l_216, l_255, l_999, l_1000, l_10000, l_1000000, l_1048575, l_1000000000, nI_add, pk_mul, pk_sub, nI_leI, nI_ltI, nI_eq, nI_dec, nI_o0, mx_n, mn_n, ab_1, ab_n, e_u2e, e_u2k, e_u2a, if_pos, if_neg, if_true, if_false, not_true, not_false_eq_true, ne_eq, Nat.add_zero, Nat.zero_add, rP hs, rI hs, rT hs, rR_43 hs, rA_228 hs, rS_228 hs, z, n_sbit, n_shl', n_or, R_first hs hF hgn, hp, hvv]
        · rw [if_neg z] at hvv
          simp (disch := omega) only [e_cl, e_jn, e_lt, e_cxl, e_cxr, e_rzn, ↓l_m1, ↓l_m2, ↓l_m8, l_0, l_1, l_2, l_3, l_4, l_5, l_6, l_7, l_8, l_9, l_10, l_12, l_16, l_20, l_24, l_31, l_32, l_35, l_36, l_40, l_44, l_48, l_59, l_63, l_64, l_90, l_95, l_96, l_100, l_120, l_127, l_200, l_216, l_255, l_999, l_1000, l_10000, l_1000000, l_1048575, l_1000000000, nI_add, pk_mul, pk_sub, nI_leI, nI_ltI, nI_eq, nI_dec, nI_o0, mx_n, mn_n, ab_1, ab_n, e_u2e, e_u2k, e_u2a, if_pos, if_neg, if_true, if_false, not_true, not_false_eq_true, ne_eq, Nat.add_zero, Nat.zero_add, rP hs, rI hs, rT hs, rR_43 hs, rA_228 hs, rS_228 hs, oI_p z, n_sbit, n_shl', n_or, R_between hs hF (show p.2 - 1 < n by omega) hgn, hp, hvv]
      rw [step]
      by_cases c2 : M = 0 ∨ vv n (apF ix an) (stF ix an) p g + 1 < M
      · rw [(sy ⟨hP, c2⟩).1, (sy ⟨hP, c2⟩).2, if_neg (show ¬ vv n (apF ix an) (stF ix an) p g + 1 = 0 by omega), oI_s, show acc0 1000000000 (vv n (apF ix an) (stF ix an) p g + 1) = vv n (apF ix an) (stF ix an) p g from by unfold acc0; rw [if_neg (by omega)]; omega] at hi
        have : vv n (apF ix an) (stF ix an) p g < acc0 1000000000 M := by unfold acc0; split <;> omega
        rw [if_pos this]
        exact hi
      · rw [(sn (fun z => c2 z.2)).1, (sn (fun z => c2 z.2)).2] at hi
        have : ¬ vv n (apF ix an) (stF ix an) p g < acc0 1000000000 M := by unfold acc0; split <;> omega
        rw [if_neg this]
        exact hi
end RPLAN
