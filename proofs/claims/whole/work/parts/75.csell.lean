/-! ===== the class: sell ===== -/
def gbn (bd : Nat → Nat) (l : Nat) : Nat → Nat
  | 0 => 0
  | n + 1 => max (gbn bd l n) (bd (4 * l + n))
theorem gbn_b {bd : Nat → Nat} {l : Nat} (h : ∀ i, i < 24 → bd i ≤ 1000000) (hl : l < 6) : ∀ n, n ≤ 4 → gbn bd l n ≤ 1000000
  | 0, _ => Nat.zero_le _
  | n + 1, hn => by
    have := gbn_b h hl n (by omega)
    have := h (4 * l + n) (by omega)
    rw [gbn]; omega
theorem oI_lt {T S : Nat} (hT : T < 2 ^ 31) (hS : S < 2 ^ 31) : oI T < nI S ↔ T < S + 1 := by
  by_cases z : T = 0
  · subst z
    exact ⟨fun _ => by omega, fun _ => o0_lt hS⟩
  · rw [oI_p z, nI_ltI (by omega) hS]; omega
theorem fo_b {f : Nat → Nat × Nat → Nat × Nat} {M : Nat} (h : ∀ b s, s.1 ≤ M → (f b s).1 ≤ M) {st : Nat × Nat} (hst : st.1 ≤ M) : ∀ n, (fo f n st).1 ≤ M
  | 0 => hst
  | n + 1 => by rw [fo]; exact h _ _ (fo_b h hst n)
section CSELL
variable {m : IM} {j : JM} {u : SU}
theorem e_cpI {β : Type} {a0 a n N0 N : Nat} {f : PM → Option β} (h0 : u.2.1 a0 = 20) (h1 : u.2.1 a = 20) (hN0 : u.2.2 a0 = N0) (hN : u.2.2 a = N) (hn : n ≤ N0) (hn2 : n ≤ N) (hb : N < 2 ^ 31) : cpI (pm m j u) a0 (nI 0) a (nI 0) (nI n) f = f (pm (u1 m a (va_cpy (m a0) (m a) 0 0 n)) j u) := by
  subst hN0 hN
  unfold cpI
  have e0 : (nI 0).toNatClampNeg = 0 := nI_clamp (by decide)
  have en : (nI n).toNatClampNeg = n := nI_clamp (by omega)
  rw [e0, en, if_pos ⟨⟨h0, h1⟩, by decide, by decide, nI_pos (by omega), by rw [Nat.zero_add]; exact hn, by rw [Nat.zero_add]; exact hn2⟩]
  rfl
theorem C_gbL (hc : CS u) {l : Nat} {bd : Nat → Nat} (hl : l < 6) (hbd : ∀ i, i < 24 → bd i ≤ 1000000) (h101 : ∀ i, i < 24 → m 101 i = nI (bd i)) (K : Int32 → PM → Option (Int32 × PM)) : ∀ (d n fu : Nat), n + d = 4 → d < fu → F_X0_greatestBid_L4 100 (nI l) K fu (nI (gbn bd l n)) (nI n) (pm m j u) = K (nI (gb bd l)) (pm m j u) := by
  intro d
  induction d with
  | zero =>
    intro n fu hn hfu
    obtain ⟨fu, rfl⟩ : ∃ g, fu = g + 1 := ⟨fu - 1, by omega⟩
    have e : n = 4 := by omega
    subst e
    simp (disch := omega) only [F_X0_greatestBid_L4, e_cl, e_jn, e_lt, e_cxl, e_cxr, e_rzn, ↓l_m1, ↓l_m2, ↓l_m8, l_0, l_1, l_2, l_3, l_4, l_5, l_6, l_7, l_8, l_9, l_10, l_12, l_16, l_20, l_24, l_31, l_32, l_35, l_36, l_40, l_44, l_48, l_59, l_63, l_64, l_90, l_95, l_96, l_100, l_120, l_127, l_200, l_216, l_255, l_999, l_1000, l_10000, l_1000000, l_1048575, l_1000000000, nI_add, pk_mul, pk_sub, nI_leI, nI_ltI, nI_eq, nI_dec, nI_o0, mx_n, mn_n, ab_1, ab_n, e_u2e, e_u2k, e_u2a, if_pos, if_neg, if_true, if_false, not_true, not_false_eq_true, ne_eq, Nat.add_zero, Nat.zero_add]
    rfl
  | succ d ih =>
    intro n fu hn hfu
    obtain ⟨fu, rfl⟩ : ∃ g, fu = g + 1 := ⟨fu - 1, by omega⟩
    have hi := ih (n + 1) fu (by omega) (by omega)
    have h1 := h101 (4 * l + n) (by omega)
    have h2 := gbn_b hbd hl n (by omega)
    have h3 := hbd (4 * l + n) (by omega)
    rw [gbn] at hi
    rw [F_X0_greatestBid_L4]
    simp (disch := omega) only [e_cl, e_jn, e_lt, e_cxl, e_cxr, e_rzn, ↓l_m1, ↓l_m2, ↓l_m8, l_0, l_1, l_2, l_3, l_4, l_5, l_6, l_7, l_8, l_9, l_10, l_12, l_16, l_20, l_24, l_31, l_32, l_35, l_36, l_40, l_44, l_48, l_59, l_63, l_64, l_90, l_95, l_96, l_100, l_120, l_127, l_200, l_216, l_255, l_999, l_1000, l_10000, l_1000000, l_1048575, l_1000000000, nI_add, pk_mul, pk_sub, nI_leI, nI_ltI, nI_eq, nI_dec, nI_o0, mx_n, mn_n, ab_1, ab_n, e_u2e, e_u2k, e_u2a, if_pos, if_neg, if_true, if_false, not_true, not_false_eq_true, ne_eq, Nat.add_zero, Nat.zero_add, cG_100 hc, cP_100 hc, cT_100 hc, cR_100_0 hc, cA_101 hc, cS_101 hc, cR_100_1 hc, cA_102 hc, cS_102 hc, cR_100_2 hc, cA_103 hc, cS_103 hc, cR_100_3 hc, cA_104 hc, cS_104 hc, cR_100_4 hc, cA_105 hc, cS_105 hc, cR_100_5 hc, cA_106 hc, cS_106 hc, Nat.mul_comm l 4, h1] at hi ⊢
    exact hi
theorem C_gb (hc : CS u) {l : Nat} {bd : Nat → Nat} (hl : l < 6) (hbd : ∀ i, i < 24 → bd i ≤ 1000000) (h101 : ∀ i, i < 24 → m 101 i = nI (bd i)) : F_X0_greatestBid 100 (nI l) (pm m j u) = some (nI (gb bd l), pm m j u) := by
  unfold F_X0_greatestBid
  rw [e_jn]
  exact C_gbL hc hl hbd h101 _ 4 0 LF (by omega) (by unfold LF; omega)
theorem C_hopeL (hc : CS u) {L : Nat} {bd : Nat → Nat} (hL : L ≤ 6) (hbd : ∀ i, i < 24 → bd i ≤ 1000000) : ∀ (q fu : Nat) (m : IM), q ≤ L → q < fu → (∀ i, i < 24 → m 101 i = nI (bd i)) → (∀ i, q ≤ i → i ≤ L → m 106 i = nI (hp bd L (L - i))) →
    ∃ m', (∀ K, F_X0_giveAll_L22 100 K fu (oI q) (pm m j u) = K (pm m' j u)) ∧ (∀ b, b ≠ 106 → m' b = m b) ∧ ∀ i, i ≤ L → m' 106 i = nI (hp bd L (L - i)) := by
  intro q
  induction q with
  | zero =>
    intro fu m hq hfu h1 h2
    obtain ⟨fu, rfl⟩ : ∃ g, fu = g + 1 := ⟨fu - 1, by omega⟩
    refine ⟨m, fun K => ?_, fun _ _ => rfl, fun i hi => h2 i (by omega) hi⟩
    have e0 : oI 0 < 0 := by decide
    rw [F_X0_giveAll_L22, if_pos e0]
  | succ q ih =>
    intro fu m hq hfu h1 h2
    obtain ⟨fu, rfl⟩ : ∃ g, fu = g + 1 := ⟨fu - 1, by omega⟩
    have h3 := h2 (q + 1) (by omega) (by omega)
    have eh : hp bd L (L - q) = hp bd L (L - (q + 1)) + gb bd q := by
      rw [show L - q = (L - (q + 1)) + 1 by omega, hp, show L - (L - (q + 1) + 1) = q by omega]
    obtain ⟨m', i1, i2, i3⟩ := ih fu (u2 m 106 q (nI (hp bd L (L - (q + 1)) + gb bd q))) (by omega) (by omega) (fun i hi => by rw [e_u2a (by decide)]; exact h1 i hi) (fun i g1 g2 => by
      by_cases e : i = q
      · rw [e, e_u2s, eh]
      · rw [e_u2k e]; exact h2 i (by omega) g2)
    refine ⟨m', fun K => ?_, fun b hb => by rw [i2 b hb, e_u2r hb], i3⟩
    rw [← i1 K, F_X0_giveAll_L22]
    simp (disch := omega) only [e_cl, e_jn, e_lt, e_cxl, e_cxr, e_rzn, ↓l_m1, ↓l_m2, ↓l_m8, l_0, l_1, l_2, l_3, l_4, l_5, l_6, l_7, l_8, l_9, l_10, l_12, l_16, l_20, l_24, l_31, l_32, l_35, l_36, l_40, l_44, l_48, l_59, l_63, l_64, l_90, l_95, l_96, l_100, l_120, l_127, l_200, l_216, l_255, l_999, l_1000, l_10000, l_1000000, l_1048575, l_1000000000, nI_add, pk_mul, pk_sub, nI_leI, nI_ltI, nI_eq, nI_dec, nI_o0, mx_n, mn_n, ab_1, ab_n, e_u2e, e_u2k, e_u2a, if_pos, if_neg, if_true, if_false, not_true, not_false_eq_true, ne_eq, Nat.add_zero, Nat.zero_add, cG_100 hc, cP_100 hc, cT_100 hc, cR_100_0 hc, cA_101 hc, cS_101 hc, cR_100_1 hc, cA_102 hc, cS_102 hc, cR_100_2 hc, cA_103 hc, cS_103 hc, cR_100_3 hc, cA_104 hc, cS_104 hc, cR_100_4 hc, cA_105 hc, cS_105 hc, cR_100_5 hc, cA_106 hc, cS_106 hc, oI_s, h3, C_gb hc (show q < 6 by omega) hbd h1, nI_o]
/-- the memory of the search below a prefix of the ways -/
def GI (m : IM) (L : Nat) (bd lm : Nat → Nat) (l P : Nat) (st : Nat × Nat) : Prop := (m 100 6 = nI L ∧ (∀ i, i < 24 → m 101 i = nI (bd i)) ∧ (∀ b, b < 4 → m 102 b = nI (lm b)) ∧ ∀ i, i ≤ L → m 106 i = nI (hp bd L (L - i))) ∧ m 100 7 = oI st.1 ∧ (∀ b, b < 4 → m 103 b = nI (usD l P b)) ∧ (∀ i, i < l → m 104 i = oI (wc (dgD l P i))) ∧ (st.1 ≠ 0 → ∀ i, i < L → m 105 i = oI (wc (dgD L st.2 i)))
theorem GI_1 {L l P b : Nat} {bd lm : Nat → Nat} {st : Nat × Nat} (h : GI m L bd lm l P st) (hb : b < 4) : GI (u2 (u2 m 103 b (nI (usD l P b + 1))) 104 l (nI b)) L bd lm (l + 1) (5 * P + b) st := by
  obtain ⟨⟨h1, h2, h3, h4⟩, h5, h6, h7, h8⟩ := h
  refine ⟨⟨?_, fun i hi => ?_, fun c hc => ?_, fun i hi => ?_⟩, ?_, fun c hc => ?_, fun i hi => ?_, fun z i hi => ?_⟩
  · rw [e_u2a (by decide), e_u2a (by decide)]; exact h1
  · rw [e_u2a (by decide), e_u2a (by decide)]; exact h2 i hi
  · rw [e_u2a (by decide), e_u2a (by decide)]; exact h3 c hc
  · rw [e_u2a (by decide), e_u2a (by decide)]; exact h4 i hi
  · rw [e_u2a (by decide), e_u2a (by decide)]; exact h5
  · rw [e_u2a (by decide), usD_5 l P b c (by omega)]
    by_cases e : b = c
    · rw [e, e_u2s, if_pos rfl]
    · rw [e_u2k (fun z => e z.symm), if_neg e]; exact h6 c hc
  · rw [dgD_5 l P b i (by omega)]
    by_cases e : i = l
    · rw [e, e_u2s, if_pos rfl, wc, if_pos hb, oI_s]
    · rw [e_u2k e, e_u2a (by decide), if_neg e]; exact h7 i (by omega)
  · rw [e_u2a (by decide), e_u2a (by decide)]; exact h8 z i hi
theorem GI_2 {L l P b : Nat} {bd lm : Nat → Nat} {st : Nat × Nat} (h : GI m L bd lm (l + 1) (5 * P + b) st) (hb : b < 4) : GI (u2 m 103 b (nI (usD l P b))) L bd lm l P st := by
  obtain ⟨⟨h1, h2, h3, h4⟩, h5, h6, h7, h8⟩ := h
  refine ⟨⟨?_, fun i hi => ?_, fun c hc => ?_, fun i hi => ?_⟩, ?_, fun c hc => ?_, fun i hi => ?_, fun z i hi => ?_⟩
  · rw [e_u2a (by decide)]; exact h1
  · rw [e_u2a (by decide)]; exact h2 i hi
  · rw [e_u2a (by decide)]; exact h3 c hc
  · rw [e_u2a (by decide)]; exact h4 i hi
  · rw [e_u2a (by decide)]; exact h5
  · by_cases e : c = b
    · rw [e, e_u2s]
    · have := h6 c hc
      rw [usD_5 l P b c (by omega), if_neg (fun z => e z.symm)] at this
      rw [e_u2k e]; exact this
  · have := h7 i (by omega)
    rw [dgD_5 l P b i (by omega), if_neg (by omega)] at this
    rw [e_u2a (by decide)]; exact this
  · rw [e_u2a (by decide)]; exact h8 z i hi
theorem GI_3 {L l P : Nat} {bd lm : Nat → Nat} {st : Nat × Nat} (h : GI m L bd lm l P st) : GI (u2 m 104 l (oI 0)) L bd lm (l + 1) (5 * P + 4) st := by
  obtain ⟨⟨h1, h2, h3, h4⟩, h5, h6, h7, h8⟩ := h
  refine ⟨⟨?_, fun i hi => ?_, fun c hc => ?_, fun i hi => ?_⟩, ?_, fun c hc => ?_, fun i hi => ?_, fun z i hi => ?_⟩
  · rw [e_u2a (by decide)]; exact h1
  · rw [e_u2a (by decide)]; exact h2 i hi
  · rw [e_u2a (by decide)]; exact h3 c hc
  · rw [e_u2a (by decide)]; exact h4 i hi
  · rw [e_u2a (by decide)]; exact h5
  · rw [e_u2a (by decide), usD_5 l P 4 c (by omega), if_neg (by omega)]; exact h6 c hc
  · rw [dgD_5 l P 4 i (by omega)]
    by_cases e : i = l
    · rw [e, e_u2s, if_pos rfl, wc, if_neg (by omega)]
    · rw [e_u2k e, if_neg e]; exact h7 i (by omega)
  · rw [e_u2a (by decide)]; exact h8 z i hi
theorem GI_4 {L l P : Nat} {bd lm : Nat → Nat} {st : Nat × Nat} (h : GI m L bd lm (l + 1) (5 * P + 4) st) : GI m L bd lm l P st := by
  obtain ⟨h1, h5, h6, h7, h8⟩ := h
  refine ⟨h1, h5, fun c hc => ?_, fun i hi => ?_, h8⟩
  · have := h6 c hc
    rw [usD_5 l P 4 c (by omega), if_neg (by omega)] at this
    exact this
  · have := h7 i (by omega)
    rw [dgD_5 l P 4 i (by omega), if_neg (by omega)] at this
    exact this
def GF (m m' : IM) : Prop := (∀ b, b ≠ 100 → b ≠ 103 → b ≠ 104 → b ≠ 105 → m' b = m b) ∧ ∀ k, k ≠ 7 → m' 100 k = m 100 k
theorem GF_rf : GF m m := ⟨fun _ _ _ _ _ => rfl, fun _ _ => rfl⟩
theorem GF_tr {m1 m2 m3 : IM} (h : GF m1 m2) (g : GF m2 m3) : GF m1 m3 := ⟨fun b h1 h2 h3 h4 => (g.1 b h1 h2 h3 h4).trans (h.1 b h1 h2 h3 h4), fun k hk => (g.2 k hk).trans (h.2 k hk)⟩
theorem GF_3 {k : Nat} {v : Int32} : GF m (u2 m 103 k v) := ⟨fun _ _ h _ _ => e_u2r h, fun _ _ => e_u2a (by decide)⟩
theorem GF_4 {k : Nat} {v : Int32} : GF m (u2 m 104 k v) := ⟨fun _ _ _ h _ => e_u2r h, fun _ _ => e_u2a (by decide)⟩
theorem C_giveL (hc : CS u) {L l P r : Nat} {bd lm : Nat → Nat} {st : Nat × Nat} {rc : Nat → Int32 → Int32 → PM → Option (Unit × PM)} (hL : L ≤ 6) (hl : l < L) (hbd : ∀ i, i < 24 → bd i ≤ 1000000) (hlm : ∀ b, b < 4 → lm b ≤ 6) (hst : st.1 ≤ 6000001)
    (H : ∀ b, b < 4 → ∀ (m : IM) (st : Nat × Nat), st.1 ≤ 6000001 → GI m L bd lm (l + 1) (5 * P + b) st → ∃ m', rc 100 (nI (l + 1)) (nI (sumD bd (l + 1) (5 * P + b))) (pm m j u) = some ((), pm m' j u) ∧ GI m' L bd lm (l + 1) (5 * P + b) (sp bd lm L r (5 * P + b) st) ∧ GF m m') :
    ∀ (d b fu : Nat) (m : IM), b + d = 4 → d < fu → GI m L bd lm l P (fo (fun b s => if 0 < bd (4 * l + b) ∧ usD l P b < lm b then sp bd lm L r (5 * P + b) s else s) b st) →
    ∃ m', (∀ K, F_X0_give_L63 rc 100 (nI l) (nI (sumD bd l P)) K fu (nI b) (pm m j u) = K (pm m' j u)) ∧ GI m' L bd lm l P (fo (fun b s => if 0 < bd (4 * l + b) ∧ usD l P b < lm b then sp bd lm L r (5 * P + b) s else s) 4 st) ∧ GF m m' := by
  have hfo : ∀ n, (fo (fun b s => if 0 < bd (4 * l + b) ∧ usD l P b < lm b then sp bd lm L r (5 * P + b) s else s) n st).1 ≤ 6000001 := fo_b (fun b s hs => by
    show (if 0 < bd (4 * l + b) ∧ usD l P b < lm b then sp bd lm L r (5 * P + b) s else s).1 ≤ _
    split
    · exact sp_b hbd hL _ _ _ hs
    · exact hs) hst
  intro d
  induction d with
  | zero =>
    intro b fu m hb hfu hG
    obtain ⟨fu, rfl⟩ : ∃ g, fu = g + 1 := ⟨fu - 1, by omega⟩
    have e : b = 4 := by omega
    subst e
    refine ⟨m, fun K => ?_, hG, GF_rf⟩
    simp (disch := omega) only [F_X0_give_L63, e_cl, e_jn, e_lt, e_cxl, e_cxr, e_rzn, ↓l_m1, ↓l_m2, ↓l_m8, l_0, l_1, l_2, l_3, l_4, l_5, l_6, l_7, l_8, l_9, l_10, l_12, l_16, l_20, l_24, l_31, l_32, l_35, l_36, l_40, l_44, l_48, l_59, l_63, l_64, l_90, l_95, l_96, l_100, l_120, l_127, l_200, l_216, l_255, l_999, l_1000, l_10000, l_1000000, l_1048575, l_1000000000, nI_add, pk_mul, pk_sub, nI_leI, nI_ltI, nI_eq, nI_dec, nI_o0, mx_n, mn_n, ab_1, ab_n, e_u2e, e_u2k, e_u2a, if_pos, if_neg, if_true, if_false, not_true, not_false_eq_true, ne_eq, Nat.add_zero, Nat.zero_add]
  | succ d ih =>
    intro b fu m hb hfu hG
    obtain ⟨fu, rfl⟩ : ∃ g, fu = g + 1 := ⟨fu - 1, by omega⟩
    have hb4 : b < 4 := by omega
    have g1 := hG.1.2.1 (4 * l + b) (by omega)
    have g2 := hG.1.2.2.1 b hb4
    have g3 := hG.2.2.1 b hb4
    have b1 := hbd (4 * l + b) (by omega)
    have b2 := hlm b hb4
    have b3 := usD_le l P b
    by_cases c : 0 < bd (4 * l + b) ∧ usD l P b < lm b
    · obtain ⟨m1, a1, a2, a3⟩ := H b hb4 _ _ (hfo b) (GI_1 hG hb4)
      have g4 := a2.2.2.1 b hb4
      rw [usD_5 l P b b (by omega), if_pos rfl] at g4
      rw [sumD_5 bd l P b (by omega), if_pos hb4] at a1
      obtain ⟨m', i1, i2, i3⟩ := ih (b + 1) fu (u2 m1 103 b (nI (usD l P b))) (by omega) (by omega) (by
        rw [fo]
        show GI _ L bd lm l P (if 0 < bd (4 * l + b) ∧ usD l P b < lm b then _ else _)
        rw [if_pos c]
        exact GI_2 a2 hb4)
      refine ⟨m', fun K => ?_, i2, GF_tr (GF_tr (GF_tr (GF_tr GF_3 GF_4) a3) GF_3) i3⟩
      rw [← i1 K, F_X0_give_L63]
      obtain ⟨c1, c2⟩ := c
      simp (disch := omega) only [e_cl, e_jn, e_lt, e_cxl, e_cxr, e_rzn, ↓l_m1, ↓l_m2, ↓l_m8, l_0, l_1, l_2, l_3, l_4, l_5, l_6, l_7, l_8, l_9, l_10, l_12, l_16, l_20, l_24, l_31, l_32, l_35, l_36, l_40, l_44, l_48, l_59, l_63, l_64, l_90, l_95, l_96, l_100, l_120, l_127, l_200, l_216, l_255, l_999, l_1000, l_10000, l_1000000, l_1048575, l_1000000000, nI_add, pk_mul, pk_sub, nI_leI, nI_ltI, nI_eq, nI_dec, nI_o0, mx_n, mn_n, ab_1, ab_n, e_u2e, e_u2k, e_u2a, if_pos, if_neg, if_true, if_false, not_true, not_false_eq_true, ne_eq, Nat.add_zero, Nat.zero_add, cG_100 hc, cP_100 hc, cT_100 hc, cR_100_0 hc, cA_101 hc, cS_101 hc, cR_100_1 hc, cA_102 hc, cS_102 hc, cR_100_2 hc, cA_103 hc, cS_103 hc, cR_100_3 hc, cA_104 hc, cS_104 hc, cR_100_4 hc, cA_105 hc, cS_105 hc, cR_100_5 hc, cA_106 hc, cS_106 hc, Nat.mul_comm l 4, g1, g2, g3, a1, g4]
      simp only [Nat.add_sub_cancel]
    · obtain ⟨m', i1, i2, i3⟩ := ih (b + 1) fu m (by omega) (by omega) (by
        rw [fo]
        show GI _ L bd lm l P (if 0 < bd (4 * l + b) ∧ usD l P b < lm b then _ else _)
        rw [if_neg c]
        exact hG)
      refine ⟨m', fun K => ?_, i2, i3⟩
      rw [← i1 K, F_X0_give_L63]
      by_cases c1 : bd (4 * l + b) = 0
      · simp (disch := omega) only [e_cl, e_jn, e_lt, e_cxl, e_cxr, e_rzn, ↓l_m1, ↓l_m2, ↓l_m8, l_0, l_1, l_2, l_3, l_4, l_5, l_6, l_7, l_8, l_9, l_10, l_12, l_16, l_20, l_24, l_31, l_32, l_35, l_36, l_40, l_44, l_48, l_59, l_63, l_64, l_90, l_95, l_96, l_100, l_120, l_127, l_200, l_216, l_255, l_999, l_1000, l_10000, l_1000000, l_1048575, l_1000000000, nI_add, pk_mul, pk_sub, nI_leI, nI_ltI, nI_eq, nI_dec, nI_o0, mx_n, mn_n, ab_1, ab_n, e_u2e, e_u2k, e_u2a, if_pos, if_neg, if_true, if_false, not_true, not_false_eq_true, ne_eq, Nat.add_zero, Nat.zero_add, cG_100 hc, cP_100 hc, cT_100 hc, cR_100_0 hc, cA_101 hc, cS_101 hc, cR_100_1 hc, cA_102 hc, cS_102 hc, cR_100_2 hc, cA_103 hc, cS_103 hc, cR_100_3 hc, cA_104 hc, cS_104 hc, cR_100_4 hc, cA_105 hc, cS_105 hc, cR_100_5 hc, cA_106 hc, cS_106 hc, Nat.mul_comm l 4, g1]
      · have c2 : ¬ usD l P b < lm b := fun z => c ⟨by omega, z⟩
        simp (disch := omega) only [e_cl, e_jn, e_lt, e_cxl, e_cxr, e_rzn, ↓l_m1, ↓l_m2, ↓l_m8, l_0, l_1, l_2, l_3, l_4, l_5, l_6, l_7, l_8, l_9, l_10, l_12, l_16, l_20, l_24, l_31, l_32, l_35, l_36, l_40, l_44, l_48, l_59, l_63, l_64, l_90, l_95, l_96, l_100, l_120, l_127, l_200, l_216, l_255, l_999, l_1000, l_10000, l_1000000, l_1048575, l_1000000000, nI_add, pk_mul, pk_sub, nI_leI, nI_ltI, nI_eq, nI_dec, nI_o0, mx_n, mn_n, ab_1, ab_n, e_u2e, e_u2k, e_u2a, if_pos, if_neg, if_true, if_false, not_true, not_false_eq_true, ne_eq, Nat.add_zero, Nat.zero_add, cG_100 hc, cP_100 hc, cT_100 hc, cR_100_0 hc, cA_101 hc, cS_101 hc, cR_100_1 hc, cA_102 hc, cS_102 hc, cR_100_2 hc, cA_103 hc, cS_103 hc, cR_100_3 hc, cA_104 hc, cS_104 hc, cR_100_4 hc, cA_105 hc, cS_105 hc, cR_100_5 hc, cA_106 hc, cS_106 hc, Nat.mul_comm l 4, g1, g2, g3]
theorem C_give (hc : CS u) {L : Nat} {bd lm : Nat → Nat} (hL : L ≤ 6) (hbd : ∀ i, i < 24 → bd i ≤ 1000000) (hlm : ∀ b, b < 4 → lm b ≤ 6) : ∀ (r dd l P : Nat) (m : IM) (st : Nat × Nat), l + r = L → r < dd → st.1 ≤ 6000001 → GI m L bd lm l P st →
    ∃ m', F_X0_give dd 100 (nI l) (nI (sumD bd l P)) (pm m j u) = some ((), pm m' j u) ∧ GI m' L bd lm l P (sp bd lm L r P st) ∧ GF m m' := by
  intro r
  induction r with
  | zero =>
    intro dd l P m st hl hdd hst hG
    obtain ⟨dd, rfl⟩ : ∃ g, dd = g + 1 := ⟨dd - 1, by omega⟩
    have e : l = L := by omega
    subst e
    have s1 := sumD_le hbd l P (by omega)
    have g1 := hG.1.1
    have g2 := hG.1.2.2.2 l (by omega)
    have g3 := hG.2.1
    have e0 : hp bd l (l - l) = 0 := by rw [Nat.sub_self]; rfl
    rw [e0] at g2
    have q := oI_lt (T := st.1) (S := sumD bd l P) (by omega) (by omega)
    by_cases c : st.1 < sumD bd l P + 1
    · have q : (oI st.1 < nI (sumD bd l P)) = True := eq_true (q.mpr c)
      have t4 := (hc.2.1 (104, 20, 6) (by decide))
      have t5 := (hc.2.1 (105, 20, 6) (by decide))
      refine ⟨u1 (u2 m 100 7 (nI (sumD bd l P))) 105 (va_cpy (m 104) (m 105) 0 0 l), ?_, ?_, ?_⟩
      · rw [F_X0_give]
        have cp := fun (f : PM → Option (Unit × PM)) => e_cpI (m := u2 m 100 7 (nI (sumD bd l P))) (j := j) (n := l) (f := f) t4.1 t5.1 t4.2 t5.2 (by omega) (by omega) (by decide)
        rw [e_u2r (b := 104) (by decide), e_u2r (b := 105) (by decide)] at cp
        simp (disch := omega) only [e_cl, e_jn, e_lt, e_cxl, e_cxr, e_rzn, ↓l_m1, ↓l_m2, ↓l_m8, l_0, l_1, l_2, l_3, l_4, l_5, l_6, l_7, l_8, l_9, l_10, l_12, l_16, l_20, l_24, l_31, l_32, l_35, l_36, l_40, l_44, l_48, l_59, l_63, l_64, l_90, l_95, l_96, l_100, l_120, l_127, l_200, l_216, l_255, l_999, l_1000, l_10000, l_1000000, l_1048575, l_1000000000, nI_add, pk_mul, pk_sub, nI_leI, nI_ltI, nI_eq, nI_dec, nI_o0, mx_n, mn_n, ab_1, ab_n, e_u2e, e_u2k, e_u2a, if_pos, if_neg, if_true, if_false, not_true, not_false_eq_true, ne_eq, Nat.add_zero, Nat.zero_add, cG_100 hc, cP_100 hc, cT_100 hc, cR_100_0 hc, cA_101 hc, cS_101 hc, cR_100_1 hc, cA_102 hc, cS_102 hc, cR_100_2 hc, cA_103 hc, cS_103 hc, cR_100_3 hc, cA_104 hc, cS_104 hc, cR_100_4 hc, cA_105 hc, cS_105 hc, cR_100_5 hc, cA_106 hc, cS_106 hc, g1, g2, g3, q, cp]
      · rw [sp, if_pos c]
        obtain ⟨⟨h1, h2, h3, h4⟩, h5, h6, h7, h8⟩ := hG
        have k5 : ∀ b, b ≠ 105 → b ≠ 100 → u1 (u2 m 100 7 (nI (sumD bd l P))) 105 (va_cpy (m 104) (m 105) 0 0 l) b = m b := fun b g1 g2 => by rw [u1, if_neg g1, e_u2r g2]
        have k0 : u1 (u2 m 100 7 (nI (sumD bd l P))) 105 (va_cpy (m 104) (m 105) 0 0 l) 100 = u2 m 100 7 (nI (sumD bd l P)) 100 := by rw [u1, if_neg (by decide)]
        refine ⟨⟨?_, fun i hi => ?_, fun c hc => ?_, fun i hi => ?_⟩, ?_, fun c hc => ?_, fun i hi => ?_, fun z i hi => ?_⟩
        · rw [k0, e_u2k (by decide)]; exact h1
        · rw [k5 _ (by decide) (by decide)]; exact h2 i hi
        · rw [k5 _ (by decide) (by decide)]; exact h3 c hc
        · rw [k5 _ (by decide) (by decide)]; exact h4 i hi
        · rw [k0, e_u2s]; exact (oI_s _).symm
        · rw [k5 _ (by decide) (by decide)]; exact h6 c hc
        · rw [k5 _ (by decide) (by decide)]; exact h7 i hi
        · rw [u1, if_pos rfl, pk_cpy_in (Nat.zero_le _) (by omega), show 0 + (i - 0) = i by omega]; exact h7 i hi
      · refine ⟨fun b h1 _ _ h4 => by rw [u1, if_neg h4, e_u2r h1], fun k hk => by rw [u1, if_neg (by decide), e_u2k hk]⟩
    · have q : (oI st.1 < nI (sumD bd l P)) = False := eq_false (fun z => c (q.mp z))
      refine ⟨m, ?_, by rw [sp, if_neg c]; exact hG, GF_rf⟩
      rw [F_X0_give]
      simp (disch := omega) only [e_cl, e_jn, e_lt, e_cxl, e_cxr, e_rzn, ↓l_m1, ↓l_m2, ↓l_m8, l_0, l_1, l_2, l_3, l_4, l_5, l_6, l_7, l_8, l_9, l_10, l_12, l_16, l_20, l_24, l_31, l_32, l_35, l_36, l_40, l_44, l_48, l_59, l_63, l_64, l_90, l_95, l_96, l_100, l_120, l_127, l_200, l_216, l_255, l_999, l_1000, l_10000, l_1000000, l_1048575, l_1000000000, nI_add, pk_mul, pk_sub, nI_leI, nI_ltI, nI_eq, nI_dec, nI_o0, mx_n, mn_n, ab_1, ab_n, e_u2e, e_u2k, e_u2a, if_pos, if_neg, if_true, if_false, not_true, not_false_eq_true, ne_eq, Nat.add_zero, Nat.zero_add, cG_100 hc, cP_100 hc, cT_100 hc, cR_100_0 hc, cA_101 hc, cS_101 hc, cR_100_1 hc, cA_102 hc, cS_102 hc, cR_100_2 hc, cA_103 hc, cS_103 hc, cR_100_3 hc, cA_104 hc, cS_104 hc, cR_100_4 hc, cA_105 hc, cS_105 hc, cR_100_5 hc, cA_106 hc, cS_106 hc, g1, g2, g3, q]
  | succ r ih =>
    intro dd l P m st hl hdd hst hG
    obtain ⟨dd, rfl⟩ : ∃ g, dd = g + 1 := ⟨dd - 1, by omega⟩
    have s1 := sumD_le hbd l P (by omega)
    have s2 := hp_le hbd hL (r + 1) (by omega)
    have g1 := hG.1.1
    have g2 := hG.1.2.2.2 l (by omega)
    have g3 := hG.2.1
    rw [show L - l = r + 1 by omega] at g2
    have q := oI_lt (T := st.1) (S := sumD bd l P + hp bd L (r + 1)) (by omega) (by omega)
    by_cases c : st.1 < sumD bd l P + hp bd L (r + 1) + 1
    · have q : (oI st.1 < nI (sumD bd l P + hp bd L (r + 1))) = True := eq_true (q.mpr c)
      obtain ⟨m1, a1, a2, a3⟩ := C_giveL (j := j) (r := r) (rc := F_X0_give dd) (st := st) hc hL (show l < L by omega) hbd hlm hst (fun b hb m st hst hG => ih dd (l + 1) (5 * P + b) m st (by omega) (by omega) hst hG) 4 0 LF m (by omega) (by unfold LF; omega) hG
      obtain ⟨m2, b1, b2, b3⟩ := ih dd (l + 1) (5 * P + 4) _ _ (by omega) (by omega) (fo_b (M := 6000001) (fun b s hs => by
        show (if 0 < bd (4 * l + b) ∧ usD l P b < lm b then sp bd lm L r (5 * P + b) s else s).1 ≤ _
        split
        · exact sp_b hbd hL _ _ _ hs
        · exact hs) hst 4) (GI_3 a2)
      rw [sumD_5 bd l P 4 (by omega), if_neg (by omega), show sumD bd l P + 0 = sumD bd l P from rfl] at b1
      refine ⟨m2, ?_, ?_, GF_tr (GF_tr a3 GF_4) b3⟩
      · rw [F_X0_give]
        simp (disch := omega) only [e_cl, e_jn, e_lt, e_cxl, e_cxr, e_rzn, ↓l_m1, ↓l_m2, ↓l_m8, l_0, l_1, l_2, l_3, l_4, l_5, l_6, l_7, l_8, l_9, l_10, l_12, l_16, l_20, l_24, l_31, l_32, l_35, l_36, l_40, l_44, l_48, l_59, l_63, l_64, l_90, l_95, l_96, l_100, l_120, l_127, l_200, l_216, l_255, l_999, l_1000, l_10000, l_1000000, l_1048575, l_1000000000, nI_add, pk_mul, pk_sub, nI_leI, nI_ltI, nI_eq, nI_dec, nI_o0, mx_n, mn_n, ab_1, ab_n, e_u2e, e_u2k, e_u2a, if_pos, if_neg, if_true, if_false, not_true, not_false_eq_true, ne_eq, Nat.add_zero, Nat.zero_add, cG_100 hc, cP_100 hc, cT_100 hc, cR_100_0 hc, cA_101 hc, cS_101 hc, cR_100_1 hc, cA_102 hc, cS_102 hc, cR_100_2 hc, cA_103 hc, cS_103 hc, cR_100_3 hc, cA_104 hc, cS_104 hc, cR_100_4 hc, cA_105 hc, cS_105 hc, cR_100_5 hc, cA_106 hc, cS_106 hc, g1, g2, g3, q, a1, b1]
      · rw [sp, show L - (r + 1) = l by omega]; exact GI_4 b2
    · have q : (oI st.1 < nI (sumD bd l P + hp bd L (r + 1))) = False := eq_false (fun z => c (q.mp z))
      refine ⟨m, ?_, ?_, GF_rf⟩
      · rw [F_X0_give]
        simp (disch := omega) only [e_cl, e_jn, e_lt, e_cxl, e_cxr, e_rzn, ↓l_m1, ↓l_m2, ↓l_m8, l_0, l_1, l_2, l_3, l_4, l_5, l_6, l_7, l_8, l_9, l_10, l_12, l_16, l_20, l_24, l_31, l_32, l_35, l_36, l_40, l_44, l_48, l_59, l_63, l_64, l_90, l_95, l_96, l_100, l_120, l_127, l_200, l_216, l_255, l_999, l_1000, l_10000, l_1000000, l_1048575, l_1000000000, nI_add, pk_mul, pk_sub, nI_leI, nI_ltI, nI_eq, nI_dec, nI_o0, mx_n, mn_n, ab_1, ab_n, e_u2e, e_u2k, e_u2a, if_pos, if_neg, if_true, if_false, not_true, not_false_eq_true, ne_eq, Nat.add_zero, Nat.zero_add, cG_100 hc, cP_100 hc, cT_100 hc, cR_100_0 hc, cA_101 hc, cS_101 hc, cR_100_1 hc, cA_102 hc, cS_102 hc, cR_100_2 hc, cA_103 hc, cS_103 hc, cR_100_3 hc, cA_104 hc, cS_104 hc, cR_100_4 hc, cA_105 hc, cS_105 hc, cR_100_5 hc, cA_106 hc, cS_106 hc, g1, g2, g3, q]
      · have e : sp bd lm L (r + 1) P st = st := by
          obtain ⟨T, W⟩ := st
          exact sp_prune bd lm (r + 1) P T W (by omega) (by rw [show L - (r + 1) = l by omega]; show _ ≤ T; have : ¬ T < sumD bd l P + hp bd L (r + 1) + 1 := c; omega)
        rw [e]; exact hG
end CSELL
