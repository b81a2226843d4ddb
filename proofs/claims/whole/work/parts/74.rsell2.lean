/-! ===== the reference: sell, the rest ===== -/
section RSELL2
variable {m : IM} {j : JM} {u : SU}
theorem R_L9 (hs : RS u) {L : Nat} (hL : L ≤ 6) (h1 : m 200 51 = nI L) (K : Int32 → PM → Option (Int32 × PM)) : ∀ (d n fu : Nat), n + d = L → d < fu → F_X12_sell_L9 200 K fu (nI (5 ^ n)) (nI n) (pm m j u) = K (nI (5 ^ L)) (pm m j u) := by
  intro d
  induction d with
  | zero =>
    intro n fu hn hfu
    obtain ⟨fu, rfl⟩ : ∃ g, fu = g + 1 := ⟨fu - 1, by omega⟩
    have e : n = L := by omega
    subst e
    simp (disch := omega) only [F_X12_sell_L9, e_cl, e_jn, e_lt, e_cxl, e_cxr, e_rzn, ↓l_m1, ↓l_m2, ↓l_m8, l_0, l_1, l_2, l_3, l_4, l_5, l_6, l_7, l_8, l_9, l_10, l_12, l_16, l_20, l_24, l_31, l_32, l_35, l_36, l_40, l_44, l_48, l_59, l_63, l_64, l_90, l_95, l_96, l_100, l_120, l_127, l_200, l_216, l_255, l_999, l_1000, l_10000, l_1000000, l_1048575, l_1000000000, nI_add, pk_mul, pk_sub, nI_leI, nI_ltI, nI_eq, nI_dec, nI_o0, mx_n, mn_n, ab_1, ab_n, e_u2e, e_u2k, e_u2a, if_pos, if_neg, if_true, if_false, not_true, not_false_eq_true, ne_eq, Nat.add_zero, Nat.zero_add, rP hs, rI hs, rT hs, h1]
  | succ d ih =>
    intro n fu hn hfu
    obtain ⟨fu, rfl⟩ : ∃ g, fu = g + 1 := ⟨fu - 1, by omega⟩
    have hi := ih (n + 1) fu (by omega) (by omega)
    rw [Nat.pow_succ] at hi
    rw [F_X12_sell_L9]
    simp (disch := omega) only [e_cl, e_jn, e_lt, e_cxl, e_cxr, e_rzn, ↓l_m1, ↓l_m2, ↓l_m8, l_0, l_1, l_2, l_3, l_4, l_5, l_6, l_7, l_8, l_9, l_10, l_12, l_16, l_20, l_24, l_31, l_32, l_35, l_36, l_40, l_44, l_48, l_59, l_63, l_64, l_90, l_95, l_96, l_100, l_120, l_127, l_200, l_216, l_255, l_999, l_1000, l_10000, l_1000000, l_1048575, l_1000000000, nI_add, pk_mul, pk_sub, nI_leI, nI_ltI, nI_eq, nI_dec, nI_o0, mx_n, mn_n, ab_1, ab_n, e_u2e, e_u2k, e_u2a, if_pos, if_neg, if_true, if_false, not_true, not_false_eq_true, ne_eq, Nat.add_zero, Nat.zero_add, rP hs, rI hs, rT hs, h1] at hi ⊢
    exact hi
def wc (d : Nat) : Nat := if d < 4 then d + 1 else 0
def selB (sg : Nat → Nat → Nat) (dg : Nat → Nat) (s : Nat) : Nat := if sg s 6 = 0 then sg s 7 else wc (dg (sg s 6 - 1))
def selS (sg : Nat → Nat → Nat) (dg : Nat → Nat) (s k : Nat) : Nat := if k = 6 then 0 else if k = 7 then selB sg dg s else sg s k
theorem R_L273 (hs : RS u) {nS L : Nat} {sg ix an : Nat → Nat → Nat} {dg : Nat → Nat} {c2 : Int32} (hD : SD nS L sg ix an) (hL : L ≤ 6) (hdg : ∀ i, dg i < 5) : ∀ (d n fu : Nat) (m : IM), m 200 32 = nI nS → (∀ s, n ≤ s → s < nS → m 225 s = oI (sg s 6) ∧ m 226 s = oI (sg s 7)) → (∀ i, i < L → m 236 i = nI (dg i)) → n + d = nS → d < fu →
    ∃ m', (∀ K, F_X12_sell_L273 200 c2 K fu (nI n) (pm m j u) = K (pm m' j u)) ∧ (∀ b, b ≠ 225 → b ≠ 226 → m' b = m b) ∧ (∀ i, i < n → m' 225 i = m 225 i ∧ m' 226 i = m 226 i) ∧ ∀ s, n ≤ s → s < nS → m' 225 s = oI 0 ∧ m' 226 s = oI (selB sg dg s) := by
  have hS := hD.1
  intro d
  induction d with
  | zero =>
    intro n fu m h1 h2 h3 hn hfu
    obtain ⟨fu, rfl⟩ : ∃ g, fu = g + 1 := ⟨fu - 1, by omega⟩
    have e : n = nS := by omega
    subst e
    refine ⟨m, fun K => ?_, fun _ _ _ => rfl, fun _ _ => ⟨rfl, rfl⟩, fun s g1 g2 => by omega⟩
    simp (disch := omega) only [F_X12_sell_L273, e_cl, e_jn, e_lt, e_cxl, e_cxr, e_rzn, ↓l_m1, ↓l_m2, ↓l_m8, l_0, l_1, l_2, l_3, l_4, l_5, l_6, l_7, l_8, l_9, l_10, l_12, l_16, l_20, l_24, l_31, l_32, l_35, l_36, l_40, l_44, l_48, l_59, l_63, l_64, l_90, l_95, l_96, l_100, l_120, l_127, l_200, l_216, l_255, l_999, l_1000, l_10000, l_1000000, l_1048575, l_1000000000, nI_add, pk_mul, pk_sub, nI_leI, nI_ltI, nI_eq, nI_dec, nI_o0, mx_n, mn_n, ab_1, ab_n, e_u2e, e_u2k, e_u2a, if_pos, if_neg, if_true, if_false, not_true, not_false_eq_true, ne_eq, Nat.add_zero, Nat.zero_add, rP hs, rI hs, rT hs, h1]
  | succ d ih =>
    intro n fu m h1 h2 h3 hn hfu
    obtain ⟨fu, rfl⟩ : ∃ g, fu = g + 1 := ⟨fu - 1, by omega⟩
    obtain ⟨q1, q2⟩ := h2 n (Nat.le_refl _) (by omega)
    obtain ⟨d1, d2, d3, d4, d5, d6, d7, -⟩ := hD.2 n (by omega)
    by_cases c : sg n 6 = 0
    · obtain ⟨m', i1, i2, i3, i4⟩ := ih (n + 1) fu m h1 (fun s g1 g2 => h2 s (by omega) g2) h3 (by omega) (by omega)
      refine ⟨m', fun K => ?_, i2, fun i hi => i3 i (by omega), fun s g1 g2 => ?_⟩
      · rw [← i1 K, F_X12_sell_L273]
        simp (disch := omega) only [e_cl, e_jn, e_lt, e_cxl, e_cxr, e_rzn, ↓l_m1, ↓l_m2, ↓l_m8, l_0, l_1, l_2, l_3, l_4, l_5, l_6, l_7, l_8, l_9, l_10, l_12, l_16, l_20, l_24, l_31, l_32, l_35, l_36, l_40, l_44, l_48, l_59, l_63, l_64, l_90, l_95, l_96, l_100, l_120, l_127, l_200, l_216, l_255, l_999, l_1000, l_10000, l_1000000, l_1048575, l_1000000000, nI_add, pk_mul, pk_sub, nI_leI, nI_ltI, nI_eq, nI_dec, nI_o0, mx_n, mn_n, ab_1, ab_n, e_u2e, e_u2k, e_u2a, if_pos, if_neg, if_true, if_false, not_true, not_false_eq_true, ne_eq, Nat.add_zero, Nat.zero_add, rP hs, rI hs, rT hs, rR_40 hs, rA_225 hs, rS_225 hs, h1, q1, c]
      · by_cases e : s = n
        · subst e
          rw [(i3 _ (by omega)).1, (i3 _ (by omega)).2, q1, q2, selB, if_pos c, c]; exact ⟨rfl, rfl⟩
        · exact i4 s (by omega) g2
    · have hv := h3 (sg n 6 - 1) (by omega)
      have hd := hdg (sg n 6 - 1)
      by_cases c4 : dg (sg n 6 - 1) < 4
      · obtain ⟨m', i1, i2, i3, i4⟩ := ih (n + 1) fu (u2 (u2 m 226 n (nI (dg (sg n 6 - 1)))) 225 n (oI 0)) (by rw [e_u2a (by decide), e_u2a (by decide)]; exact h1) (fun s g1 g2 => by rw [e_u2k (by omega), e_u2a (by decide), e_u2a (by decide), e_u2k (by omega)]; exact h2 s (by omega) g2) (fun i hi => by rw [e_u2a (by decide), e_u2a (by decide)]; exact h3 i hi) (by omega) (by omega)
        refine ⟨m', fun K => ?_, fun b g1 g2 => by rw [i2 b g1 g2, e_u2r g1, e_u2r g2], fun i hi => by rw [(i3 i (by omega)).1, (i3 i (by omega)).2, e_u2k (by omega), e_u2a (by decide), e_u2a (by decide), e_u2k (by omega)]; exact ⟨rfl, rfl⟩, fun s g1 g2 => ?_⟩
        · rw [← i1 K, F_X12_sell_L273]
          simp (disch := omega) only [e_cl, e_jn, e_lt, e_cxl, e_cxr, e_rzn, ↓l_m1, ↓l_m2, ↓l_m8, l_0, l_1, l_2, l_3, l_4, l_5, l_6, l_7, l_8, l_9, l_10, l_12, l_16, l_20, l_24, l_31, l_32, l_35, l_36, l_40, l_44, l_48, l_59, l_63, l_64, l_90, l_95, l_96, l_100, l_120, l_127, l_200, l_216, l_255, l_999, l_1000, l_10000, l_1000000, l_1048575, l_1000000000, nI_add, pk_mul, pk_sub, nI_leI, nI_ltI, nI_eq, nI_dec, nI_o0, mx_n, mn_n, ab_1, ab_n, e_u2e, e_u2k, e_u2a, if_pos, if_neg, if_true, if_false, not_true, not_false_eq_true, ne_eq, Nat.add_zero, Nat.zero_add, rP hs, rI hs, rT hs, rR_40 hs, rA_225 hs, rS_225 hs, rR_41 hs, rA_226 hs, rS_226 hs, rR_56 hs, rA_236 hs, rS_236 hs, h1, q1, oI_p c, hv]
        · by_cases e : s = n
          · subst e
            rw [(i3 _ (by omega)).1, (i3 _ (by omega)).2, e_u2s, e_u2a (by decide), e_u2s, selB, if_neg c, wc, if_pos c4, oI_s]; exact ⟨rfl, rfl⟩
          · exact i4 s (by omega) g2
      · obtain ⟨m', i1, i2, i3, i4⟩ := ih (n + 1) fu (u2 m 225 n (oI 0)) (by rw [e_u2a (by decide)]; exact h1) (fun s g1 g2 => by rw [e_u2k (by omega), e_u2a (by decide)]; exact h2 s (by omega) g2) (fun i hi => by rw [e_u2a (by decide)]; exact h3 i hi) (by omega) (by omega)
        refine ⟨m', fun K => ?_, fun b g1 g2 => by rw [i2 b g1 g2, e_u2r g1], fun i hi => by rw [(i3 i (by omega)).1, (i3 i (by omega)).2, e_u2k (by omega), e_u2a (by decide)]; exact ⟨rfl, rfl⟩, fun s g1 g2 => ?_⟩
        · rw [← i1 K, F_X12_sell_L273]
          simp (disch := omega) only [e_cl, e_jn, e_lt, e_cxl, e_cxr, e_rzn, ↓l_m1, ↓l_m2, ↓l_m8, l_0, l_1, l_2, l_3, l_4, l_5, l_6, l_7, l_8, l_9, l_10, l_12, l_16, l_20, l_24, l_31, l_32, l_35, l_36, l_40, l_44, l_48, l_59, l_63, l_64, l_90, l_95, l_96, l_100, l_120, l_127, l_200, l_216, l_255, l_999, l_1000, l_10000, l_1000000, l_1048575, l_1000000000, nI_add, pk_mul, pk_sub, nI_leI, nI_ltI, nI_eq, nI_dec, nI_o0, mx_n, mn_n, ab_1, ab_n, e_u2e, e_u2k, e_u2a, if_pos, if_neg, if_true, if_false, not_true, not_false_eq_true, ne_eq, Nat.add_zero, Nat.zero_add, rP hs, rI hs, rT hs, rR_40 hs, rA_225 hs, rS_225 hs, rR_41 hs, rA_226 hs, rS_226 hs, rR_56 hs, rA_236 hs, rS_236 hs, h1, q1, oI_p c, hv]
        · by_cases e : s = n
          · subst e
            rw [(i3 _ (by omega)).1, (i3 _ (by omega)).2, e_u2s, e_u2a (by decide), q2, selB, if_neg c, wc, if_neg c4, d7 c]; exact ⟨rfl, rfl⟩
          · exact i4 s (by omega) g2
def sellR (bd lm : Nat → Nat) (L : Nat) : Nat × Nat := sp bd lm L L 0 (0, 0)
theorem sp_pos (bd lm : Nat → Nat) (L : Nat) : ∀ (r P : Nat) (st : Nat × Nat), 1 ≤ (sp bd lm L r P st).1
  | 0, P, st => by
    rw [sp]
    split
    · show 1 ≤ sumD bd L P + 1; omega
    · omega
  | r + 1, P, st => by rw [sp]; exact sp_pos bd lm L r _ _
theorem R_sell (hs : RS u) {nS L : Nat} {sg ix an : Nat → Nat → Nat} {br : Int32} {bd lm : Nat → Nat} (hD : SD nS L sg ix an) (hLD : LD L bd lm) (hA : RAs m nS sg ix an) (hL : RAl m L br bd lm) : ∃ m', F_X12_sell 200 (pm m j u) = some (oI (sellR bd lm L).1, pm m' j u) ∧ m' 200 0 = 0 ∧ Fr [225, 226, 235, 236, 237] [0, 51, 52] m m' ∧ RAs m' nS (selS sg (dgD L (sellR bd lm L).2)) ix an ∧ RAl m' 0 (br + oI (sellR bd lm L).1) (fun _ => 0) lm := by
  obtain ⟨hL6, hbd, -, hlm⟩ := hLD
  have hS := hD.1
  have h5 := pw6 hL6
  have hR : RLs (u2 m 200 0 0) L bd lm := ⟨by rw [e_u2k (by decide)]; exact hL.1, fun i hi => by rw [e_u2a (by decide)]; exact hL.2.2.1 i hi, fun b hb => by rw [e_u2a (by decide)]; exact hL.2.2.2 b hb⟩
  have e9 := fun K => R_L9 (j := j) hs hL6 hR.1 K L 0 LF (by omega) (by unfold LF; omega)
  obtain ⟨m1, a1, a2, a3⟩ := R_L31 (j := j) hs hL6 hbd hlm (5 ^ L) 0 LF (u2 m 200 0 0) (0, 0) (by omega) (by unfold LF; omega) hR (by show 0 ≤ _; omega) (fun z => absurd rfl z)
  have efz : fz bd lm L (5 ^ L) 0 (0, 0) = sellR bd lm L := by
    have := (fz_block bd lm L L 0 (0, 0) (Nat.le_refl _)).1 ⟨by rw [Nat.sub_self]; rfl, fun b _ => by rw [Nat.sub_self]; exact Nat.zero_le _⟩
    rw [Nat.zero_mul] at this
    exact this
  rw [efz] at a1 a3
  have hT := sp_pos bd lm L L 0 (0, 0)
  have hT : 1 ≤ (sellR bd lm L).1 := hT
  have hA1 : ∀ b, b ≠ 235 → b ≠ 236 → b ≠ 237 → b ≠ 200 → m1 b = m b := fun b h1 h2 h3 h4 => by rw [a2 b h1 h2 h3, e_u2r h4]
  obtain ⟨m2, b1, b2, -, b4⟩ := R_L273 (j := j) (dg := dgD L (sellR bd lm L).2) (c2 := oI (sellR bd lm L).1) hs hD hL6 (dgD_lt L _) nS 0 LF m1 (by rw [a2 200 (by decide) (by decide) (by decide), e_u2k (by decide)]; exact hA.1) (fun s _ hs' => by rw [hA1 225 (by decide) (by decide) (by decide) (by decide), hA1 226 (by decide) (by decide) (by decide) (by decide)]; exact ⟨(hA.2 s hs').2.2.2.2.2.2.1, (hA.2 s hs').2.2.2.2.2.2.2.1⟩) (a3 (by omega)) (by omega) (by unfold LF; omega)
  have h52 : m2 200 52 = br := by rw [b2 200 (by decide) (by decide), a2 200 (by decide) (by decide) (by decide), e_u2k (by decide)]; exact hL.2.1
  refine ⟨u2 (u2 m2 200 51 0) 200 52 (br + oI (sellR bd lm L).1), ?_, ?_, ⟨fun x h1 h2 => ?_, fun k hk => ?_⟩, ⟨?_, fun s hs' => ?_⟩, ⟨?_, e_u2s, fun i hi => by omega, fun b hb => ?_⟩⟩
  · unfold F_X12_sell
    rw [rP hs, e_jn, show (-1 : Int32) = oI ((0, 0) : Nat × Nat).1 from by decide, show (0 : Int32) = nI 0 from rfl, show (1 : Int32) = nI (5 ^ 0) from rfl]
    rw [show (0 : Int32) = nI 0 from rfl] at e9 a1
    rw [e9]
    try dsimp only
    rw [e_jn, a1]
    try dsimp only
    rw [e_jn, b1]
    try dsimp only
    rw [rP hs, rI hs, e_u2k (by decide), h52, rP hs]
  · rw [e_u2k (by decide), e_u2k (by decide), b2 200 (by decide) (by decide), a2 200 (by decide) (by decide) (by decide)]; exact th0
  · simp only [List.mem_cons, List.not_mem_nil, or_false, not_or] at h1
    rw [e_u2r h2, e_u2r h2, b2 x h1.1 h1.2.1, hA1 x h1.2.2.1 h1.2.2.2.1 h1.2.2.2.2 h2]
  · simp only [List.mem_cons, List.not_mem_nil, or_false, not_or] at hk
    rw [e_u2k hk.2.2, e_u2k hk.2.1, b2 200 (by decide) (by decide), a2 200 (by decide) (by decide) (by decide), e_u2k hk.1]
  · rw [e_u2k (by decide), e_u2k (by decide), b2 200 (by decide) (by decide), a2 200 (by decide) (by decide) (by decide), e_u2k (by decide)]; exact hA.1
  · obtain ⟨e1, e2, e3, e4, e5, e6, e7, e8, e9⟩ := hA.2 s hs'
    have keep : ∀ x, x ≠ 200 → x ≠ 225 → x ≠ 226 → x ≠ 235 → x ≠ 236 → x ≠ 237 → u2 (u2 m2 200 51 0) 200 52 (br + oI (sellR bd lm L).1) x = m x := fun x h1 h2 h3 h4 h5 h6 => by rw [e_u2r h1, e_u2r h1, b2 x h2 h3, hA1 x h4 h5 h6 h1]
    have w : ∀ k, k ≠ 6 → k ≠ 7 → selS sg (dgD L (sellR bd lm L).2) s k = sg s k := fun k h1 h2 => by unfold selS; rw [if_neg h1, if_neg h2]
    rw [keep 218 (by decide) (by decide) (by decide) (by decide) (by decide) (by decide), keep 219 (by decide) (by decide) (by decide) (by decide) (by decide) (by decide), keep 220 (by decide) (by decide) (by decide) (by decide) (by decide) (by decide), keep 221 (by decide) (by decide) (by decide) (by decide) (by decide) (by decide), keep 222 (by decide) (by decide) (by decide) (by decide) (by decide) (by decide), keep 223 (by decide) (by decide) (by decide) (by decide) (by decide) (by decide), keep 224 (by decide) (by decide) (by decide) (by decide) (by decide) (by decide), keep 227 (by decide) (by decide) (by decide) (by decide) (by decide) (by decide)]
    rw [w 0 (by decide) (by decide), w 1 (by decide) (by decide), w 2 (by decide) (by decide), w 3 (by decide) (by decide), w 4 (by decide) (by decide), w 5 (by decide) (by decide)]
    refine ⟨e1, e2, e3, e4, e5, e6, ?_, ?_, e9⟩
    · rw [e_u2a (by decide), e_u2a (by decide), (b4 s (by omega) hs').1]; rfl
    · rw [e_u2a (by decide), e_u2a (by decide), (b4 s (by omega) hs').2]; rfl
  · rw [e_u2k (by decide), e_u2s]; rfl
  · rw [e_u2a (by decide), e_u2a (by decide), b2 234 (by decide) (by decide), hA1 234 (by decide) (by decide) (by decide) (by decide)]; exact hL.2.2.2 b hb
end RSELL2
