/-! ===== the class: stones; plan, polish, facet, told ===== -/
section CST
variable {m : IM} {j : JM} {u : SU}
theorem C_fos (hc : CS u) {n lo : Nat} {ix an : Nat → Nat} {p : Nat × Nat} (hA : AP m n ix an) (hT : TC m lo n (apF ix an)) (hlo : lo ≤ p.1) (hp1 : p.1 < 2 ^ n) (hp2 : p.2 ≤ n) (hM : mnv (fun g => !p.1.testBit g) (vv n (apF ix an) (stF ix an) p) n ≠ 0) : F_X10_firstOfShortest 80 (nI p.1) (oI p.2) (nI n) (pm m j u) = some (nI (nxt n (apF ix an) (stF ix an) p), pm m j u) := by
  have hn := hA.1
  have hq : nxt n (apF ix an) (stF ix an) p < n := (amn_ok _ _ n hM).1
  have h := fun K => C_fosL (j := j) hc hA hT hlo hp1 hp2 hM K (nxt n (apF ix an) (stF ix an) p) 0 LF (by omega) (by unfold LF; omega)
  unfold F_X10_firstOfShortest
  rw [cT_80 hc, C_shortest hc hA hT hlo hp1 hp2, e_cl, e_jn]
  exact h _
theorem C_follow (hc : CS u) {a n : Nat} {ix an : Nat → Nat} (ha : 4000 ≤ a) (hO : StO u a) (K : PM → Option (Unit × PM)) : ∀ (d k fu : Nat) (m : IM), AP m n ix an → TC m 0 n (apF ix an) → k + d = n → d < fu →
    ∃ m', F_X10_follow_L8 80 a (nI n) K fu (nI (stp n (apF ix an) (stF ix an) k).1) (oI (stp n (apF ix an) (stF ix an) k).2) (nI k) (pm m j u) = K (pm m' j u) ∧ (∀ b, b ≠ a + 3 → m' b = m b) ∧ (∀ i, i < k → m' (a + 3) i = m (a + 3) i) ∧ ∀ i, k ≤ i → i < n → m' (a + 3) i = nI (plO ix an n i) := by
  intro d
  induction d with
  | zero =>
    intro k fu m hA hT hd hfu
    have hn := hA.1
    obtain ⟨fu, rfl⟩ : ∃ g, fu = g + 1 := ⟨fu - 1, by omega⟩
    have e : k = n := by omega
    subst e
    refine ⟨m, ?_, fun _ _ => rfl, fun _ _ => rfl, fun i h1 h2 => by omega⟩
    simp (disch := omega) only [F_X10_follow_L8, e_cl, e_jn, e_lt, e_cxl, e_cxr, e_rzn, ↓l_m1, ↓l_m2, ↓l_m8, l_0, l_1, l_2, l_3, l_4, l_5, l_6, l_7, l_8, l_9, l_10, l_12, l_16, l_20, l_24, l_31, l_32, l_35, l_36, l_40, l_44, l_48, l_59, l_63, l_64, l_90, l_95, l_96, l_100, l_120, l_127, l_200, l_216, l_255, l_999, l_1000, l_10000, l_1000000, l_1048575, l_1000000000, nI_add, pk_mul, pk_sub, nI_leI, nI_ltI, nI_eq, nI_dec, nI_o0, mx_n, mn_n, ab_1, ab_n, e_u2e, e_u2k, e_u2a, if_pos, if_neg, if_true, if_false, not_true, not_false_eq_true, ne_eq, Nat.add_zero, Nat.zero_add]
  | succ d ih =>
    intro k fu m hA hT hd hfu
    have hn := hA.1
    have h8 := p2_256 hn
    have hk : k < n := by omega
    obtain ⟨fu, rfl⟩ : ∃ g, fu = g + 1 := ⟨fu - 1, by omega⟩
    obtain ⟨s1, s2, s3, s4⟩ := stp_ok (n := n) (ap := apF ix an) (st := stF ix an) k (by omega)
    obtain ⟨n1, n2⟩ := nxt_ok (n := n) (ap := apF ix an) (st := stF ix an) hk
    have e1 : (stp n (apF ix an) (stF ix an) (k + 1)).1 = (stp n (apF ix an) (stF ix an) k).1 ||| 2 ^ plO ix an n k := rfl
    have e2 : (stp n (apF ix an) (stF ix an) (k + 1)).2 = plO ix an n k + 1 := rfl
    have fo := C_fos (j := j) hc hA hT (Nat.zero_le _) s1 s3 n1
    rw [show nxt n (apF ix an) (stF ix an) (stp n (apF ix an) (stF ix an) k) = plO ix an n k from rfl] at fo
    have n2 : plO ix an n k < n := n2
    obtain ⟨m', i1, i2, i3, i4⟩ := ih (k + 1) fu (u2 m (a + 3) k (nI (plO ix an n k))) (AP_fr hA (e_u2r (by omega)) (e_u2r (by omega))) (fun S' h1 h2 g hg hb => by rw [e_u2a (by omega)]; exact hT S' h1 h2 g hg hb) (by omega) (by omega)
    rw [e1, e2, oI_s] at i1
    refine ⟨m', ?_, fun b hb => by rw [i2 b hb, e_u2r hb], fun i hi => by rw [i3 i (by omega), e_u2k (by omega)], fun i h1 h2 => ?_⟩
    · rw [F_X10_follow_L8]
      simp (disch := omega) only [e_cl, e_jn, e_lt, e_cxl, e_cxr, e_rzn, ↓l_m1, ↓l_m2, ↓l_m8, l_0, l_1, l_2, l_3, l_4, l_5, l_6, l_7, l_8, l_9, l_10, l_12, l_16, l_20, l_24, l_31, l_32, l_35, l_36, l_40, l_44, l_48, l_59, l_63, l_64, l_90, l_95, l_96, l_100, l_120, l_127, l_200, l_216, l_255, l_999, l_1000, l_10000, l_1000000, l_1048575, l_1000000000, nI_add, pk_mul, pk_sub, nI_leI, nI_ltI, nI_eq, nI_dec, nI_o0, mx_n, mn_n, ab_1, ab_n, e_u2e, e_u2k, e_u2a, if_pos, if_neg, if_true, if_false, not_true, not_false_eq_true, ne_eq, Nat.add_zero, Nat.zero_add, cG_80 hc, cP_80 hc, cT_80 hc, cR_80_0 hc, cA_81 hc, cS_81 hc, cR_80_1 hc, cA_82 hc, cS_82 hc, cR_80_2 hc, cA_83 hc, cS_83 hc, sG hO, sP hO, sZ_ hO, sT hO, sR8 hO, sR9 hO, sR12 hO, sA1 hO, sA2 hO, sA3 hO, sS1 hO, sS2 hO, sS3 hO, fo, n_shl', n_or] at i1 ⊢
      exact i1
    · by_cases e : i = k
      · subst e; rw [i3 _ (by omega), e_u2s]
      · exact i4 i (by omega) h2
theorem C_layPlan (hc : CS u) {a n : Nat} {ix an : Nat → Nat} (ha : 4000 ≤ a) (hO : StO u a) (hF : FC m a n ix an) : ∃ m', F_X10_layPlan 80 a (pm m j u) = some ((), pm m' j u) ∧ (∀ b, b ≠ 81 → b ≠ 82 → b ≠ 83 → b ≠ a → b ≠ a + 3 → m' b = m b) ∧ (∀ k, k ≠ 11 → m' a k = m a k) ∧ m' a 11 = nI (plN ix an n) ∧ ∀ k, k < n → m' (a + 3) k = nI (plO ix an n k) := by
  have hn := hF.1
  have h8 := p2_256 hn
  have hp := Nat.two_pow_pos n
  obtain ⟨m1, a1, a2, -, -, a5⟩ := C_meas (j := j) hc ha hO (fun h1 => some ((), h1)) n 0 LF m hF (by omega) (by unfold LF; omega)
  have hAP : AP m1 n ix an := ⟨hn, fun f hf => ⟨(hF.2.2 f hf).2.2.1, (hF.2.2 f hf).2.2.2⟩, fun g hg => a5 g (by omega) hg⟩
  obtain ⟨m2, b1, b2, b3⟩ := C_L25 (j := j) (a := a) (n := n) (ix := ix) (an := an) hc (fun h7 => tst h7 80 11 (cl (F_X10_shortest 80 0 (-1) (nI n) h7) fun r8 h9 => pI h9 a 9 11 r8 fun h11 => tst h11 80 11 (cl (F_X10_follow 80 a (nI n) h11) fun r12 h13 => some ((), h13)))) (2 ^ n - 1) LF m1 hAP (fun S h1 h2 => by omega) (by omega) (by unfold LF; omega)
  have hAP2 : AP m2 n ix an := AP_fr hAP (b2 _ (by decide)) (b2 _ (by decide))
  have sh := C_shortest (j := j) (p := (0, 0)) hc hAP2 b3 (Nat.zero_le _) hp (Nat.zero_le _)
  rw [show mnv (fun g => !((0 : Nat), (0 : Nat)).1.testBit g) (vv n (apF ix an) (stF ix an) (0, 0)) n - 1 = plN ix an n from rfl, show ((0 : Nat), (0 : Nat)).1 = 0 from rfl, show ((0 : Nat), (0 : Nat)).2 = 0 from rfl] at sh
  obtain ⟨m3, c1, c2, -, c4⟩ := C_follow (j := j) (a := a) (n := n) (ix := ix) (an := an) hc ha hO (fun h1 => some ((), h1)) n 0 LF (u2 m2 a 11 (nI (plN ix an n))) (AP_fr hAP2 (e_u2r (by omega)) (e_u2r (by omega))) (fun S' h1 h2 g hg hb => by rw [e_u2a (by omega)]; exact b3 S' h1 h2 g hg hb) (by omega) (by unfold LF; omega)
  rw [show (stp n (apF ix an) (stF ix an) 0).1 = 0 from rfl, show (stp n (apF ix an) (stF ix an) 0).2 = 0 from rfl] at c1
  refine ⟨m3, ?_, fun b h1 h2 h3 h4 h5 => by rw [c2 b h5, e_u2r h4, b2 b h1, a2 b h2 h3], fun k hk => by rw [c2 a (by omega), e_u2k hk, b2 a (by omega), a2 a (by omega) (by omega)], by rw [c2 a (by omega), e_u2s], fun k hk => c4 k (by omega) hk⟩
  simp (disch := omega) only [F_X10_layPlan, F_X10_measure, e_cl, e_jn, e_lt, e_cxl, e_cxr, e_rzn, ↓l_m1, ↓l_m2, ↓l_m8, l_0, l_1, l_2, l_3, l_4, l_5, l_6, l_7, l_8, l_9, l_10, l_12, l_16, l_20, l_24, l_31, l_32, l_35, l_36, l_40, l_44, l_48, l_59, l_63, l_64, l_90, l_95, l_96, l_100, l_120, l_127, l_200, l_216, l_255, l_999, l_1000, l_10000, l_1000000, l_1048575, l_1000000000, nI_add, pk_mul, pk_sub, nI_leI, nI_ltI, nI_eq, nI_dec, nI_o0, mx_n, mn_n, ab_1, ab_n, e_u2e, e_u2k, e_u2a, if_pos, if_neg, if_true, if_false, not_true, not_false_eq_true, ne_eq, Nat.add_zero, Nat.zero_add, cG_80 hc, cP_80 hc, cT_80 hc, cR_80_0 hc, cA_81 hc, cS_81 hc, cR_80_1 hc, cA_82 hc, cS_82 hc, cR_80_2 hc, cA_83 hc, cS_83 hc, sG hO, sP hO, sZ_ hO, sT hO, sR8 hO, sR9 hO, sR12 hO, sA1 hO, sA2 hO, sA3 hO, sS1 hO, sS2 hO, sS3 hO, hF.2.1, n_shl', Nat.min_eq_left hn] at a1 b1 sh c1 ⊢
  rw [a1, e_cl, b1, sh, e_cl, sP hO, cT_80 hc]
  unfold F_X10_follow
  simp (disch := omega) only [e_cl, e_jn, e_lt, e_cxl, e_cxr, e_rzn, ↓l_m1, ↓l_m2, ↓l_m8, l_0, l_1, l_2, l_3, l_4, l_5, l_6, l_7, l_8, l_9, l_10, l_12, l_16, l_20, l_24, l_31, l_32, l_35, l_36, l_40, l_44, l_48, l_59, l_63, l_64, l_90, l_95, l_96, l_100, l_120, l_127, l_200, l_216, l_255, l_999, l_1000, l_10000, l_1000000, l_1048575, l_1000000000, nI_add, pk_mul, pk_sub, nI_leI, nI_ltI, nI_eq, nI_dec, nI_o0, mx_n, mn_n, ab_1, ab_n, e_u2e, e_u2k, e_u2a, if_pos, if_neg, if_true, if_false, not_true, not_false_eq_true, ne_eq, Nat.add_zero, Nat.zero_add]
  rw [c1, e_cl]
/-- a stone of the class -/
def ST (m : IM) (u : SU) (a : Nat) (g ix an : Nat → Nat) : Prop := StO u a ∧ (m a 0 = nI (g 1) ∧ m a 1 = nI (g 2) ∧ m a 2 = nI (g 0) ∧ m a 3 = nI (g 4) ∧ m a 4 = oI (g 5) ∧ m a 5 = oI (g 6) ∧ m a 6 = oI (g 7)) ∧ FC m a (g 3) ix an ∧ ∃ pl, m a 10 = nI pl ∧ pl ≤ g 3 ∧ (pl = g 3 → m a 11 = nI (plN ix an (g 3)) ∧ ∀ k, k < g 3 → m (a + 3) k = nI (plO ix an (g 3) k))
theorem ST_fr {m' : IM} {a : Nat} {g ix an : Nat → Nat} (h : ST m u a g ix an) (h0 : m' a = m a) (h1 : m' (a + 1) = m (a + 1)) (h2 : m' (a + 2) = m (a + 2)) (h3 : m' (a + 3) = m (a + 3)) : ST m' u a g ix an := by
  unfold ST FC
  rw [h0, h1, h2, h3]
  exact h
def nmS (k : Nat) : Nat := 4000 + 10 * k
def CAs (m : IM) (u : SU) (nS : Nat) (sg ix an : Nat → Nat → Nat) : Prop := LiS u 40 nS nmS ∧ m 40 2 = nI nS ∧ ∀ s, s < nS → ST m u (nmS s) (sg s) (ix s) (an s)
theorem CAs_fr {m' : IM} {nS : Nat} {sg ix an : Nat → Nat → Nat} (h : CAs m u nS sg ix an) (h40 : m' 40 = m 40) (hh : ∀ b, 4000 ≤ b → m' b = m b) : CAs m' u nS sg ix an :=
  ⟨h.1, by rw [h40]; exact h.2.1, fun s hs => ST_fr (h.2.2 s hs) (hh _ (by unfold nmS; omega)) (hh _ (by unfold nmS; omega)) (hh _ (by unfold nmS; omega)) (hh _ (by unfold nmS; omega))⟩
theorem CAs_up {m' : IM} {nS s : Nat} {sg ix an sg' ix' an' : Nat → Nat → Nat} (h : CAs m u nS sg ix an) (hs : s < nS) (h40 : m' 40 2 = m 40 2) (hST : ST m' u (nmS s) (sg' s) (ix' s) (an' s)) (hh : ∀ b, 4000 ≤ b → (b < nmS s ∨ nmS s + 3 < b) → m' b = m b) (he : ∀ t, t < nS → t ≠ s → sg' t = sg t ∧ ix' t = ix t ∧ an' t = an t) : CAs m' u nS sg' ix' an' :=
  ⟨h.1, by rw [h40]; exact h.2.1, fun t ht => by
    by_cases e : t = s
    · rw [e]; exact hST
    · obtain ⟨e1, e2, e3⟩ := he t ht e
      rw [e1, e2, e3]
      unfold nmS at hh
      exact ST_fr (h.2.2 t ht) (hh _ (by unfold nmS; omega) (by unfold nmS; omega)) (hh _ (by unfold nmS; omega) (by unfold nmS; omega)) (hh _ (by unfold nmS; omega) (by unfold nmS; omega)) (hh _ (by unfold nmS; omega) (by unfold nmS; omega))⟩
theorem C_stoneOf (hc : CS u) {nS s : Nat} {sg ix an : Nat → Nat → Nat} (hA : CAs m u nS sg ix an) (hn : nS ≤ 40) (hs : s < nS) : F_X11_stoneOf 10 (nI s) (pm m j u) = some (.inr (nmS s), pm m j u) := by
  have hO := (hA.2.2 s hs).1
  simp (disch := omega) only [F_X11_stoneOf, e_cl, e_jn, e_lt, e_cxl, e_cxr, e_rzn, ↓l_m1, ↓l_m2, ↓l_m8, l_0, l_1, l_2, l_3, l_4, l_5, l_6, l_7, l_8, l_9, l_10, l_12, l_16, l_20, l_24, l_31, l_32, l_35, l_36, l_40, l_44, l_48, l_59, l_63, l_64, l_90, l_95, l_96, l_100, l_120, l_127, l_200, l_216, l_255, l_999, l_1000, l_10000, l_1000000, l_1048575, l_1000000000, nI_add, pk_mul, pk_sub, nI_leI, nI_ltI, nI_eq, nI_dec, nI_o0, mx_n, mn_n, ab_1, ab_n, e_u2e, e_u2k, e_u2a, if_pos, if_neg, if_true, if_false, not_true, not_false_eq_true, ne_eq, Nat.add_zero, Nat.zero_add, cG_10 hc, cP_10 hc, cT_10 hc, cR_10_0 hc, cR_10_1 hc, cR_10_2 hc, cR_10_3 hc, cR_10_4 hc, cR_10_5 hc, cR_10_6 hc, cR_10_7 hc, cR_10_8 hc, cG_40 hc, cP_40 hc, cT_40 hc, sG hO, sP hO, sZ_ hO, sT hO, sR8 hO, sR9 hO, sR12 hO, sA1 hO, sA2 hO, sA3 hO, sS1 hO, sS2 hO, sS3 hO, C_size hA.1 hA.2.1, C_get hA.1 hA.2.1 hs]
theorem nI_ncase {x : Int32} {n : Nat} (hn : n < 2 ^ 31) (h : ¬ ∃ s, s < n ∧ x = nI s) : x < 0 ∨ ∃ l, n ≤ l ∧ l < 2 ^ 31 ∧ x = nI l := by
  by_cases c : x < 0
  · exact Or.inl c
  · obtain ⟨l, h1, h2⟩ := nI_of c
    exact Or.inr ⟨l, Classical.byContradiction fun z => h ⟨l, by omega, h2⟩, h1, h2⟩
theorem C_stoneNo (hc : CS u) {nS : Nat} {x : Int32} {sg ix an : Nat → Nat → Nat} (hA : CAs m u nS sg ix an) (hn : nS ≤ 40) (hx : ¬ ∃ s, s < nS ∧ x = nI s) : F_X11_stoneOf 10 x (pm m j u) = some (.inl 4, pm m j u) := by
  rcases nI_ncase (by omega) hx with c | ⟨l, h1, h2, rfl⟩
  · simp only [F_X11_stoneOf, e_jn, if_pos c]
  · simp (disch := omega) only [F_X11_stoneOf, e_cl, e_jn, e_lt, e_cxl, e_cxr, e_rzn, ↓l_m1, ↓l_m2, ↓l_m8, l_0, l_1, l_2, l_3, l_4, l_5, l_6, l_7, l_8, l_9, l_10, l_12, l_16, l_20, l_24, l_31, l_32, l_35, l_36, l_40, l_44, l_48, l_59, l_63, l_64, l_90, l_95, l_96, l_100, l_120, l_127, l_200, l_216, l_255, l_999, l_1000, l_10000, l_1000000, l_1048575, l_1000000000, nI_add, pk_mul, pk_sub, nI_leI, nI_ltI, nI_eq, nI_dec, nI_o0, mx_n, mn_n, ab_1, ab_n, e_u2e, e_u2k, e_u2a, if_pos, if_neg, if_true, if_false, not_true, not_false_eq_true, ne_eq, Nat.add_zero, Nat.zero_add, cG_10 hc, cP_10 hc, cT_10 hc, cR_10_0 hc, cR_10_1 hc, cR_10_2 hc, cR_10_3 hc, cR_10_4 hc, cR_10_5 hc, cR_10_6 hc, cR_10_7 hc, cR_10_8 hc, cG_40 hc, cP_40 hc, cT_40 hc, C_size hA.1 hA.2.1]
/-- below the stones all but these names stand -/
def Fz (lo hi : Nat) (m m' : IM) : Prop := ∀ b, b < 4000 → (b < lo ∨ hi < b) → m' b = m b
theorem C_planned (hc : CS u) {nS nL s : Nat} {sg ix an : Nat → Nat → Nat} (hD : SD nS nL sg ix an) (hA : CAs m u nS sg ix an) (hs : s < nS) : ∃ m', F_X11_plannedStone 10 (nI s) (pm m j u) = some (.inr (nmS s), pm m' j u) ∧ Fz 81 83 m m' ∧ CAs m' u nS sg ix an ∧ m' (nmS s) 11 = nI (plN (ix s) (an s) (sg s 3)) ∧ ∀ k, k < sg s 3 → m' (nmS s + 3) k = nI (plO (ix s) (an s) (sg s 3) k) := by
  have hn := hD.1
  obtain ⟨hO, h1, hF, pl, p1, p2, p3⟩ := hA.2.2 s hs
  have hf := hF.1
  have ha : 4000 ≤ nmS s := by unfold nmS; omega
  by_cases c : pl = sg s 3
  · obtain ⟨q1, q2⟩ := p3 c
    refine ⟨m, ?_, fun _ _ _ => rfl, hA, q1, q2⟩
    simp (disch := omega) only [F_X11_plannedStone, e_cl, e_jn, e_lt, e_cxl, e_cxr, e_rzn, ↓l_m1, ↓l_m2, ↓l_m8, l_0, l_1, l_2, l_3, l_4, l_5, l_6, l_7, l_8, l_9, l_10, l_12, l_16, l_20, l_24, l_31, l_32, l_35, l_36, l_40, l_44, l_48, l_59, l_63, l_64, l_90, l_95, l_96, l_100, l_120, l_127, l_200, l_216, l_255, l_999, l_1000, l_10000, l_1000000, l_1048575, l_1000000000, nI_add, pk_mul, pk_sub, nI_leI, nI_ltI, nI_eq, nI_dec, nI_o0, mx_n, mn_n, ab_1, ab_n, e_u2e, e_u2k, e_u2a, if_pos, if_neg, if_true, if_false, not_true, not_false_eq_true, ne_eq, Nat.add_zero, Nat.zero_add, cG_10 hc, cP_10 hc, cT_10 hc, cR_10_0 hc, cR_10_1 hc, cR_10_2 hc, cR_10_3 hc, cR_10_4 hc, cR_10_5 hc, cR_10_6 hc, cR_10_7 hc, cR_10_8 hc, sG hO, sP hO, sZ_ hO, sT hO, sR8 hO, sR9 hO, sR12 hO, sA1 hO, sA2 hO, sA3 hO, sS1 hO, sS2 hO, sS3 hO, C_stoneOf hc hA hn hs, p1, hF.2.1]
  · obtain ⟨m1, a1, a2, a3, a4, a5⟩ := C_layPlan (j := j) hc ha hO hF
    have k7 : m1 (nmS s) 7 = nI (sg s 3) := by rw [a3 7 (by decide)]; exact hF.2.1
    refine ⟨u2 m1 (nmS s) 10 (nI (sg s 3)), ?_, fun b h1 h2 => by rw [e_u2r (by omega), a2 b (by omega) (by omega) (by omega) (by omega) (by omega)], ?_, by rw [e_u2k (by decide)]; exact a4, fun k hk => by rw [e_u2a (by omega)]; exact a5 k hk⟩
    · simp (disch := omega) only [F_X11_plannedStone, e_cl, e_jn, e_lt, e_cxl, e_cxr, e_rzn, ↓l_m1, ↓l_m2, ↓l_m8, l_0, l_1, l_2, l_3, l_4, l_5, l_6, l_7, l_8, l_9, l_10, l_12, l_16, l_20, l_24, l_31, l_32, l_35, l_36, l_40, l_44, l_48, l_59, l_63, l_64, l_90, l_95, l_96, l_100, l_120, l_127, l_200, l_216, l_255, l_999, l_1000, l_10000, l_1000000, l_1048575, l_1000000000, nI_add, pk_mul, pk_sub, nI_leI, nI_ltI, nI_eq, nI_dec, nI_o0, mx_n, mn_n, ab_1, ab_n, e_u2e, e_u2k, e_u2a, if_pos, if_neg, if_true, if_false, not_true, not_false_eq_true, ne_eq, Nat.add_zero, Nat.zero_add, cG_10 hc, cP_10 hc, cT_10 hc, cR_10_0 hc, cR_10_1 hc, cR_10_2 hc, cR_10_3 hc, cR_10_4 hc, cR_10_5 hc, cR_10_6 hc, cR_10_7 hc, cR_10_8 hc, cG_80 hc, cP_80 hc, cT_80 hc, cR_80_0 hc, cA_81 hc, cS_81 hc, cR_80_1 hc, cA_82 hc, cS_82 hc, cR_80_2 hc, cA_83 hc, cS_83 hc, sG hO, sP hO, sZ_ hO, sT hO, sR8 hO, sR9 hO, sR12 hO, sA1 hO, sA2 hO, sA3 hO, sS1 hO, sS2 hO, sS3 hO, C_stoneOf hc hA hn hs, p1, hF.2.1, a1, k7]
    · refine CAs_up hA hs (by rw [e_u2a (by omega), a2 40 (by decide) (by decide) (by decide) (by omega) (by omega)]) ⟨hO, ?_, FC_fr hF (by rw [e_u2k (by decide), a3 7 (by decide)]) (by rw [e_u2r (by omega), a2 _ (by omega) (by omega) (by omega) (by omega) (by omega)]) (by rw [e_u2r (by omega), a2 _ (by omega) (by omega) (by omega) (by omega) (by omega)]), sg s 3, e_u2s, Nat.le_refl _, fun _ => ⟨by rw [e_u2k (by decide)]; exact a4, fun k hk => by rw [e_u2a (by omega)]; exact a5 k hk⟩⟩ (fun b h1 h2 => by rw [e_u2r (by omega), a2 b (by omega) (by omega) (by omega) (by omega) (by omega)]) (fun t _ _ => ⟨rfl, rfl, rfl⟩)
      simp (disch := omega) only [e_u2k, a3]
      exact h1
theorem C_round (hc : CS u) {nS nL s : Nat} {sg ix an : Nat → Nat → Nat} (hD : SD nS nL sg ix an) (hA : CAs m u nS sg ix an) (hs : s < nS) : ∃ m', F_X11_round 10 (nI s) (pm m j u) = some (.inr (nI (plN (ix s) (an s) (sg s 3))), pm m' j u) ∧ Fz 81 83 m m' ∧ CAs m' u nS sg ix an := by
  obtain ⟨m', a1, a2, a3, a4, a5⟩ := C_planned (j := j) hc hD hA hs
  have hO := (hA.2.2 s hs).1
  refine ⟨m', ?_, a2, a3⟩
  simp (disch := omega) only [F_X11_round, e_cl, e_jn, e_lt, e_cxl, e_cxr, e_rzn, ↓l_m1, ↓l_m2, ↓l_m8, l_0, l_1, l_2, l_3, l_4, l_5, l_6, l_7, l_8, l_9, l_10, l_12, l_16, l_20, l_24, l_31, l_32, l_35, l_36, l_40, l_44, l_48, l_59, l_63, l_64, l_90, l_95, l_96, l_100, l_120, l_127, l_200, l_216, l_255, l_999, l_1000, l_10000, l_1000000, l_1048575, l_1000000000, nI_add, pk_mul, pk_sub, nI_leI, nI_ltI, nI_eq, nI_dec, nI_o0, mx_n, mn_n, ab_1, ab_n, e_u2e, e_u2k, e_u2a, if_pos, if_neg, if_true, if_false, not_true, not_false_eq_true, ne_eq, Nat.add_zero, Nat.zero_add, cG_10 hc, cP_10 hc, cT_10 hc, cR_10_0 hc, cR_10_1 hc, cR_10_2 hc, cR_10_3 hc, cR_10_4 hc, cR_10_5 hc, cR_10_6 hc, cR_10_7 hc, cR_10_8 hc, sG hO, sP hO, sZ_ hO, sT hO, sR8 hO, sR9 hO, sR12 hO, sA1 hO, sA2 hO, sA3 hO, sS1 hO, sS2 hO, sS3 hO, a1, a4]
theorem C_plan (hc : CS u) {nS nL s : Nat} {y : Int32} {sg ix an : Nat → Nat → Nat} (hD : SD nS nL sg ix an) (hA : CAs m u nS sg ix an) (hs : s < nS) : ∃ m', F_X11_plan 10 (nI s) y (pm m j u) = some (.inr (if y < 0 ∨ nI (sg s 3) - 1 < y then -1 else nI (plO (ix s) (an s) (sg s 3) y.toInt.toNat)), pm m' j u) ∧ Fz 81 83 m m' ∧ CAs m' u nS sg ix an := by
  obtain ⟨m', a1, a2, a3, a4, a5⟩ := C_planned (j := j) hc hD hA hs
  have hO := (hA.2.2 s hs).1
  have hf := (a3.2.2 s hs).2.2.1
  have hf1 := hf.1
  refine ⟨m', ?_, a2, a3⟩
  by_cases c : y < 0 ∨ nI (sg s 3) - 1 < y
  · rw [if_pos c]
    rcases nI_ncase (x := y) (n := sg s 3) (by omega) (fun ⟨l, hl, e⟩ => by rw [e] at c; exact not_lt_of (by omega) hl c) with c | ⟨l, h1, h2, rfl⟩
    · simp (disch := omega) only [F_X11_plan, e_jn, cT_10 hc, a1, e_cxr, if_pos c]
    · simp (disch := omega) only [F_X11_plan, e_cl, e_jn, e_lt, e_cxl, e_cxr, e_rzn, ↓l_m1, ↓l_m2, ↓l_m8, l_0, l_1, l_2, l_3, l_4, l_5, l_6, l_7, l_8, l_9, l_10, l_12, l_16, l_20, l_24, l_31, l_32, l_35, l_36, l_40, l_44, l_48, l_59, l_63, l_64, l_90, l_95, l_96, l_100, l_120, l_127, l_200, l_216, l_255, l_999, l_1000, l_10000, l_1000000, l_1048575, l_1000000000, nI_add, pk_mul, pk_sub, nI_leI, nI_ltI, nI_eq, nI_dec, nI_o0, mx_n, mn_n, ab_1, ab_n, e_u2e, e_u2k, e_u2a, if_pos, if_neg, if_true, if_false, not_true, not_false_eq_true, ne_eq, Nat.add_zero, Nat.zero_add, cG_10 hc, cP_10 hc, cT_10 hc, cR_10_0 hc, cR_10_1 hc, cR_10_2 hc, cR_10_3 hc, cR_10_4 hc, cR_10_5 hc, cR_10_6 hc, cR_10_7 hc, cR_10_8 hc, sG hO, sP hO, sZ_ hO, sT hO, sR8 hO, sR9 hO, sR12 hO, sA1 hO, sA2 hO, sA3 hO, sS1 hO, sS2 hO, sS3 hO, a1, hf.2.1]
  · have hy : ∃ l, l < sg s 3 ∧ y = nI l := Classical.byContradiction fun z => c (lt_of_not (by omega) z)
    obtain ⟨l, hl, rfl⟩ := hy
    rw [if_neg c, nI_toInt (by omega), Int.toNat_natCast]
    simp (disch := omega) only [F_X11_plan, e_cl, e_jn, e_lt, e_cxl, e_cxr, e_rzn, ↓l_m1, ↓l_m2, ↓l_m8, l_0, l_1, l_2, l_3, l_4, l_5, l_6, l_7, l_8, l_9, l_10, l_12, l_16, l_20, l_24, l_31, l_32, l_35, l_36, l_40, l_44, l_48, l_59, l_63, l_64, l_90, l_95, l_96, l_100, l_120, l_127, l_200, l_216, l_255, l_999, l_1000, l_10000, l_1000000, l_1048575, l_1000000000, nI_add, pk_mul, pk_sub, nI_leI, nI_ltI, nI_eq, nI_dec, nI_o0, mx_n, mn_n, ab_1, ab_n, e_u2e, e_u2k, e_u2a, if_pos, if_neg, if_true, if_false, not_true, not_false_eq_true, ne_eq, Nat.add_zero, Nat.zero_add, cG_10 hc, cP_10 hc, cT_10 hc, cR_10_0 hc, cR_10_1 hc, cR_10_2 hc, cR_10_3 hc, cR_10_4 hc, cR_10_5 hc, cR_10_6 hc, cR_10_7 hc, cR_10_8 hc, sG hO, sP hO, sZ_ hO, sT hO, sR8 hO, sR9 hO, sR12 hO, sA1 hO, sA2 hO, sA3 hO, sS1 hO, sS2 hO, sS3 hO, a1, hf.2.1, a5 l hl]
theorem C_grindL {a n g : Nat} {t od : Nat → Nat} (hO : StO u a) (hn : n ≤ 8) (hg : g ≤ 216000) (K : PM → Option (Unit × PM)) : ∀ (d i fu : Nat) (m : IM), m a 7 = nI n → (∀ i, i < n → m (a + 3) i = nI (od i) ∧ od i < n ∧ m (a + 2) (od i) = nI (t i) ∧ t i ≤ 90) → m a 2 = nI (grd g t i) → i + d = n → d < fu →
    ∃ m', F_X8_grind_L2 a K fu (nI i) (pm m j u) = K (pm m' j u) ∧ (∀ b, b ≠ a → m' b = m b) ∧ (∀ k, k ≠ 2 → m' a k = m a k) ∧ m' a 2 = nI (grd g t n) := by
  intro d
  induction d with
  | zero =>
    intro i fu m h1 h2 h3 hd hfu
    obtain ⟨fu, rfl⟩ : ∃ g, fu = g + 1 := ⟨fu - 1, by omega⟩
    have e : i = n := by omega
    subst e
    refine ⟨m, ?_, fun _ _ => rfl, fun _ _ => rfl, h3⟩
    simp (disch := omega) only [F_X8_grind_L2, e_cl, e_jn, e_lt, e_cxl, e_cxr, e_rzn, ↓l_m1, ↓l_m2, ↓l_m8, l_0, l_1, l_2, l_3, l_4, l_5, l_6, l_7, l_8, l_9, l_10, l_12, l_16, l_20, l_24, l_31, l_32, l_35, l_36, l_40, l_44, l_48, l_59, l_63, l_64, l_90, l_95, l_96, l_100, l_120, l_127, l_200, l_216, l_255, l_999, l_1000, l_10000, l_1000000, l_1048575, l_1000000000, nI_add, pk_mul, pk_sub, nI_leI, nI_ltI, nI_eq, nI_dec, nI_o0, mx_n, mn_n, ab_1, ab_n, e_u2e, e_u2k, e_u2a, if_pos, if_neg, if_true, if_false, not_true, not_false_eq_true, ne_eq, Nat.add_zero, Nat.zero_add, sG hO, sP hO, sZ_ hO, sT hO, sR8 hO, sR9 hO, sR12 hO, sA1 hO, sA2 hO, sA3 hO, sS1 hO, sS2 hO, sS3 hO, h1]
  | succ d ih =>
    intro i fu m h1 h2 h3 hd hfu
    obtain ⟨fu, rfl⟩ : ∃ g, fu = g + 1 := ⟨fu - 1, by omega⟩
    obtain ⟨q1, q2, q3, q4⟩ := h2 i (by omega)
    have l1 := grd_le g t i
    have l2 := grd_st (x := grd g t i) q4
    have l3 := grd_mul (x := grd g t i) (by omega) q4
    obtain ⟨m', a1, a2, a3, a4⟩ := ih (i + 1) fu (u2 m a 2 (nI (grd g t (i + 1)))) (by rw [e_u2k (by decide)]; exact h1) (fun k hk => by rw [e_u2a (by omega), e_u2a (by omega)]; exact h2 k hk) (by rw [e_u2s]) (by omega) (by omega)
    refine ⟨m', ?_, fun b hb => by rw [a2 b hb, e_u2r hb], fun k hk => by rw [a3 k hk, e_u2k hk], a4⟩
    rw [grd] at a1
    rw [F_X8_grind_L2]
    simp (disch := omega) only [e_cl, e_jn, e_lt, e_cxl, e_cxr, e_rzn, ↓l_m1, ↓l_m2, ↓l_m8, l_0, l_1, l_2, l_3, l_4, l_5, l_6, l_7, l_8, l_9, l_10, l_12, l_16, l_20, l_24, l_31, l_32, l_35, l_36, l_40, l_44, l_48, l_59, l_63, l_64, l_90, l_95, l_96, l_100, l_120, l_127, l_200, l_216, l_255, l_999, l_1000, l_10000, l_1000000, l_1048575, l_1000000000, nI_add, pk_mul, pk_sub, nI_leI, nI_ltI, nI_eq, nI_dec, nI_o0, mx_n, mn_n, ab_1, ab_n, e_u2e, e_u2k, e_u2a, if_pos, if_neg, if_true, if_false, not_true, not_false_eq_true, ne_eq, Nat.add_zero, Nat.zero_add, sG hO, sP hO, sZ_ hO, sT hO, sR8 hO, sR9 hO, sR12 hO, sA1 hO, sA2 hO, sA3 hO, sS1 hO, sS2 hO, sS3 hO, h1, h3, q1, q3, pk_div, e_dv (show nI 1000 ≠ 0 by decide)] at a1 ⊢
    exact a1
theorem C_polish2 (hc : CS u) {nS nL s : Nat} {sg ix an : Nat → Nat → Nat} (hD : SD nS nL sg ix an) (hA : CAs m u nS sg ix an) (hs : s < nS) (h : sg s 4 = 1 ∨ sg s 4 = 0 ∧ sg s 3 = 0) : ∃ m', F_X11_polish 10 (nI s) (pm m j u) = some (.inr (if sg s 4 = 1 then -1 else -2), pm m' j u) ∧ Fz 81 83 m m' ∧ CAs m' u nS sg ix an := by
  obtain ⟨m', a1, a2, a3, a4, a5⟩ := C_planned (j := j) hc hD hA hs
  obtain ⟨hO, h1, hF, -⟩ := a3.2.2 s hs
  refine ⟨m', ?_, a2, a3⟩
  rcases h with h | ⟨h, h3⟩
  · simp (disch := omega) only [F_X11_polish, e_cl, e_jn, e_lt, e_cxl, e_cxr, e_rzn, ↓l_m1, ↓l_m2, ↓l_m8, l_0, l_1, l_2, l_3, l_4, l_5, l_6, l_7, l_8, l_9, l_10, l_12, l_16, l_20, l_24, l_31, l_32, l_35, l_36, l_40, l_44, l_48, l_59, l_63, l_64, l_90, l_95, l_96, l_100, l_120, l_127, l_200, l_216, l_255, l_999, l_1000, l_10000, l_1000000, l_1048575, l_1000000000, nI_add, pk_mul, pk_sub, nI_leI, nI_ltI, nI_eq, nI_dec, nI_o0, mx_n, mn_n, ab_1, ab_n, e_u2e, e_u2k, e_u2a, if_pos, if_neg, if_true, if_false, not_true, not_false_eq_true, ne_eq, Nat.add_zero, Nat.zero_add, cG_10 hc, cP_10 hc, cT_10 hc, cR_10_0 hc, cR_10_1 hc, cR_10_2 hc, cR_10_3 hc, cR_10_4 hc, cR_10_5 hc, cR_10_6 hc, cR_10_7 hc, cR_10_8 hc, sG hO, sP hO, sZ_ hO, sT hO, sR8 hO, sR9 hO, sR12 hO, sA1 hO, sA2 hO, sA3 hO, sS1 hO, sS2 hO, sS3 hO, a1, h1.2.2.2.1, h]
  · simp (disch := omega) only [F_X11_polish, e_cl, e_jn, e_lt, e_cxl, e_cxr, e_rzn, ↓l_m1, ↓l_m2, ↓l_m8, l_0, l_1, l_2, l_3, l_4, l_5, l_6, l_7, l_8, l_9, l_10, l_12, l_16, l_20, l_24, l_31, l_32, l_35, l_36, l_40, l_44, l_48, l_59, l_63, l_64, l_90, l_95, l_96, l_100, l_120, l_127, l_200, l_216, l_255, l_999, l_1000, l_10000, l_1000000, l_1048575, l_1000000000, nI_add, pk_mul, pk_sub, nI_leI, nI_ltI, nI_eq, nI_dec, nI_o0, mx_n, mn_n, ab_1, ab_n, e_u2e, e_u2k, e_u2a, if_pos, if_neg, if_true, if_false, not_true, not_false_eq_true, ne_eq, Nat.add_zero, Nat.zero_add, cG_10 hc, cP_10 hc, cT_10 hc, cR_10_0 hc, cR_10_1 hc, cR_10_2 hc, cR_10_3 hc, cR_10_4 hc, cR_10_5 hc, cR_10_6 hc, cR_10_7 hc, cR_10_8 hc, sG hO, sP hO, sZ_ hO, sT hO, sR8 hO, sR9 hO, sR12 hO, sA1 hO, sA2 hO, sA3 hO, sS1 hO, sS2 hO, sS3 hO, a1, h1.2.2.2.1, hF.2.1, h, h3]
theorem C_polish3 (hc : CS u) {nS nL s : Nat} {sg ix an : Nat → Nat → Nat} (hD : SD nS nL sg ix an) (hA : CAs m u nS sg ix an) (hs : s < nS) (h4 : sg s 4 = 0) (h3 : sg s 3 ≠ 0) : ∃ m', F_X11_polish 10 (nI s) (pm m j u) = some (.inr (nI (polG sg ix an s)), pm m' j u) ∧ Fz 81 83 m m' ∧ CAs m' u nS (polS sg ix an s) ix an := by
  obtain ⟨m1, a1, a2, a3, a4, a5⟩ := C_planned (j := j) hc hD hA hs
  obtain ⟨hO, ⟨h0, h1, h2, h5, h6, h7, h8⟩, hF, pl, p1, p2, p3⟩ := a3.2.2 s hs
  obtain ⟨d1, d2, -, -, -, -, -, -, -, d10⟩ := hD.2 s hs
  have ha : 4000 ≤ nmS s := by unfold nmS; omega
  obtain ⟨m2, c1, c2, c3, c4⟩ := C_grindL (j := j) (n := sg s 3) (g := sg s 0) (t := fun k => an s (plO (ix s) (an s) (sg s 3) k)) (od := plO (ix s) (an s) (sg s 3)) hO d2 d1 (fun h1 => pZ h1 (nmS s) 9 3 1 fun h2 => some ((), h2)) (sg s 3) 0 LF m1 hF.2.1 (fun i hi => by
      have hl := plO_lt (ix := ix s) (an := an s) hi
      exact ⟨a5 i hi, hl, (hF.2.2 _ hl).2.1, (d10 _ hl).2⟩) h2 (by omega) (by unfold LF; omega)
  refine ⟨u2 m2 (nmS s) 3 (nI 1), ?_, fun b h1 h2 => by rw [e_u2r (by omega), c2 b (by omega)]; exact a2 b h1 h2, ?_⟩
  · simp (disch := omega) only [F_X11_polish, F_X8_grind, e_cl, e_jn, e_lt, e_cxl, e_cxr, e_rzn, ↓l_m1, ↓l_m2, ↓l_m8, l_0, l_1, l_2, l_3, l_4, l_5, l_6, l_7, l_8, l_9, l_10, l_12, l_16, l_20, l_24, l_31, l_32, l_35, l_36, l_40, l_44, l_48, l_59, l_63, l_64, l_90, l_95, l_96, l_100, l_120, l_127, l_200, l_216, l_255, l_999, l_1000, l_10000, l_1000000, l_1048575, l_1000000000, nI_add, pk_mul, pk_sub, nI_leI, nI_ltI, nI_eq, nI_dec, nI_o0, mx_n, mn_n, ab_1, ab_n, e_u2e, e_u2k, e_u2a, if_pos, if_neg, if_true, if_false, not_true, not_false_eq_true, ne_eq, Nat.add_zero, Nat.zero_add, cG_10 hc, cP_10 hc, cT_10 hc, cR_10_0 hc, cR_10_1 hc, cR_10_2 hc, cR_10_3 hc, cR_10_4 hc, cR_10_5 hc, cR_10_6 hc, cR_10_7 hc, cR_10_8 hc, sG hO, sP hO, sZ_ hO, sT hO, sR8 hO, sR9 hO, sR12 hO, sA1 hO, sA2 hO, sA3 hO, sS1 hO, sS2 hO, sS3 hO, a1, h5, h4, hF.2.1] at c1 ⊢
    rw [c1]
    simp (disch := omega) only [e_cl, e_jn, e_lt, e_cxl, e_cxr, e_rzn, ↓l_m1, ↓l_m2, ↓l_m8, l_0, l_1, l_2, l_3, l_4, l_5, l_6, l_7, l_8, l_9, l_10, l_12, l_16, l_20, l_24, l_31, l_32, l_35, l_36, l_40, l_44, l_48, l_59, l_63, l_64, l_90, l_95, l_96, l_100, l_120, l_127, l_200, l_216, l_255, l_999, l_1000, l_10000, l_1000000, l_1048575, l_1000000000, nI_add, pk_mul, pk_sub, nI_leI, nI_ltI, nI_eq, nI_dec, nI_o0, mx_n, mn_n, ab_1, ab_n, e_u2e, e_u2k, e_u2a, if_pos, if_neg, if_true, if_false, not_true, not_false_eq_true, ne_eq, Nat.add_zero, Nat.zero_add, sG hO, sP hO, sZ_ hO, sT hO, sR8 hO, sR9 hO, sR12 hO, sA1 hO, sA2 hO, sA3 hO, sS1 hO, sS2 hO, sS3 hO, c4]
    rfl
  · refine CAs_up a3 hs (by rw [e_u2a (by omega), c2 40 (by omega)]) ⟨hO, ?_, FC_fr ?_ rfl rfl rfl, ?_⟩ (fun b h1 h2 => by rw [e_u2r (by omega), c2 b (by omega)]) (fun t _ ht => ⟨by funext k; simp [polS, u2, ht], rfl, rfl⟩)
    · have w : ∀ k, k ≠ 0 → k ≠ 4 → polS sg ix an s s k = sg s k := fun k h1 h2 => by simp [polS, u2, h1, h2]
      simp (disch := omega) only [w, e_u2k, e_u2s, c3, c4]
      exact ⟨h0, h1, by simp [polS, u2, polG], by simp [polS, u2], h6, h7, h8⟩
    · rw [show polS sg ix an s s 3 = sg s 3 by simp [polS, u2]]
      exact FC_fr hF (by rw [e_u2k (by decide), c3 7 (by decide)]) (by rw [e_u2r (by omega), c2 _ (by omega)]) (by rw [e_u2r (by omega), c2 _ (by omega)])
    · rw [show polS sg ix an s s 3 = sg s 3 by simp [polS, u2]]
      refine ⟨pl, by rw [e_u2k (by decide), c3 10 (by decide)]; exact p1, p2, fun z => ⟨by rw [e_u2k (by decide), c3 11 (by decide)]; exact a4, fun k hk => by rw [e_u2a (by omega), c2 _ (by omega)]; exact a5 k hk⟩⟩
end CST
