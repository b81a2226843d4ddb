/-! ===== the class: the best ===== -/
theorem dnT_gre {wv : Nat → Nat} {S : Nat → Bool} {q : Nat} {l : List Lay} (h : okM l) : ∀ (d : Nat) (ct : CT), gre l + d ≤ 6 → dnT wv S q l (gre l + d) ct = dnT wv S q l (gre l) ct
  | 0, _, _ => rfl
  | d + 1, ct, hd => by
    have e : stT wv S q l (gre l + d + 1) ct = ct := if_neg (fun z => by
      have h1 := (way_216 h z.2).1
      have := gre_iff.mpr ⟨(by omega : gre l + d + 1 ≤ 6), h1⟩
      omega)
    rw [show gre l + (d + 1) = (gre l + d) + 1 by omega, dnT, e]
    exact dnT_gre h d ct (by omega)
section CBE
variable {m : IM} {j : JM} {u : SU}
theorem CAp_FS {m' : IM} {ps : Nat} {pf pp : Nat → Nat} (h : CAp m ps pf pp) (hF : FS m m') : CAp m' ps pf pp := CAp_fr h (by rw [hF 60 (by decide) (by decide) (by omega)]) (hF 61 (by decide) (by decide) (by omega)) (hF 62 (by decide) (by decide) (by omega))
theorem PK_72 {k i : Nat} {v : Int32} {ct : CT} (hk : k < 25) (h : PK m k ct) : PK (u2 m 72 i v) k ct := by
  unfold PK; rw [e_u2r (by omega)]; exact h
theorem C_sizes (hc : CS u) {q a ra ps : Nat} {l : List Lay} {S : Nat → Bool} {pf pp : Nat → Nat} {c4 : Int32} (hM : okM l) (hPD : PD ps pf pp) (ha : 3000 ≤ a) (hra : 2000 ≤ ra) (hra2 : ra < 3000) (hR : RoO u ra) : ∀ (t fu : Nat) (m : IM) (j : JM) (P : Nat → CT), t ≤ gre l → t < fu → SB m → MO m j u a l → CAp m ps pf pp → (∀ z, z < 6 → j (ra + 1) z = lN (lay S z)) → m 72 1 = nI q → (∀ k, k < 25 → (P k).1 ≤ 2160000) → (∀ i, i < 25 → PK m i (P i)) →
    ∃ m' j', (∀ K, F_X7_findBest_L72 70 ra 30 60 c4 a K fu (nI t) (pm m j u) = K (pm m' j' u)) ∧ FS m m' ∧ (∀ b, b ≠ 73 → j' b = j b) ∧ ∀ i, i < 25 → PK m' i (dnT (wOf ps pf pp) (prt S i) q l t (P i)) ∧ (dnT (wOf ps pf pp) (prt S i) q l t (P i)).1 ≤ 2160000 := by
  intro t
  induction t with
  | zero =>
    intro fu m j P ht hfu hB hMO hA hS h1 hb hK
    obtain ⟨fu, rfl⟩ : ∃ g, fu = g + 1 := ⟨fu - 1, by omega⟩
    refine ⟨m, j, fun K => ?_, FS_rf, fun _ _ => rfl, fun i hi => ⟨hK i hi, hb i hi⟩⟩
    rw [F_X7_findBest_L72]
    simp (disch := omega) only [e_cl, e_jn, e_lt, e_cxl, e_cxr, e_rzn, ↓l_m1, ↓l_m2, ↓l_m8, l_0, l_1, l_2, l_3, l_4, l_5, l_6, l_7, l_8, l_9, l_10, l_12, l_16, l_20, l_24, l_31, l_32, l_35, l_36, l_40, l_44, l_48, l_59, l_63, l_64, l_90, l_95, l_96, l_100, l_120, l_127, l_200, l_216, l_255, l_999, l_1000, l_10000, l_1000000, l_1048575, l_1000000000, nI_add, pk_mul, pk_sub, nI_leI, nI_ltI, nI_eq, nI_dec, nI_o0, mx_n, mn_n, ab_1, ab_n, e_u2e, e_u2k, e_u2a, if_pos, if_neg, if_true, if_false, not_true, not_false_eq_true, ne_eq, Nat.add_zero, Nat.zero_add]
  | succ t ih =>
    intro fu m j P ht hfu hB hMO hA hS h1 hb hK
    obtain ⟨fu, rfl⟩ : ∃ g, fu = g + 1 := ⟨fu - 1, by omega⟩
    have hg := gre_iff.mp ht
    have h216 := mul3 (hg.2 0 (by decide)) (hg.2 1 (by decide)) (hg.2 2 (by decide)) (tot_sp hM)
    have hwb := wOf_le hPD h216
    obtain ⟨m1, em1⟩ : ∃ m1, m1 = u2 (u2 m 72 2 (nI (t + 1))) 72 7 (nI (tot l * (t + 1) * (t + 1) * (t + 1))) := ⟨_, rfl⟩
    have f1 : FS m m1 := by rw [em1]; exact FS_tr FS_72 FS_72
    have hw := C_worthOf (j := j) hc hPD (CAp_FS hA f1) (show tot l * (t + 1) * (t + 1) * (t + 1) < 2 ^ 31 by omega)
    obtain ⟨m2, em2⟩ : ∃ m2, m2 = u2 m1 72 0 (nI (wOf ps pf pp (tot l * (t + 1) * (t + 1) * (t + 1)))) := ⟨_, rfl⟩
    have f2 : FS m m2 := by rw [em2]; exact FS_tr f1 FS_72
    obtain ⟨m3, j3, a1, a2, a3, a4, a5⟩ := C_ways (wv := wOf ps pf pp (tot l * (t + 1) * (t + 1) * (t + 1))) (q := q) (P := P) hc hM (show 1 ≤ t + 1 by omega) ht (by omega) (fun k hk => by have := hb k hk; omega) ha hra hra2 hR 6 0 LF m2 j (by omega) (by unfold LF; omega) (SB_fr hB f2) (MO_FS hMO ha f2 (fun _ _ => rfl)) hS (by
      rw [em2, em1]
      refine ⟨e_u2s, ?_, ?_, ?_⟩
      · rw [e_u2k (by decide), e_u2k (by decide), e_u2k (by decide)]; exact h1
      · rw [e_u2k (by decide), e_u2k (by decide), e_u2s]
      · rw [e_u2k (by decide), e_u2s]) (fun i hi => by
      rw [stV_0, em2, em1]
      exact PK_72 hi (PK_72 hi (PK_72 hi (hK i hi))))
    have f3 := FS_tr f2 a2
    obtain ⟨m', j', i1, i2, i3, i4⟩ := ih fu m3 j3 (fun i => stT (wOf ps pf pp) (prt S i) q l (t + 1) (P i)) (by omega) (by omega) (SB_fr hB f3) (MO_FS hMO ha f3 a3) (CAp_FS hA f3) (fun z hz => by rw [a3 _ (by omega)]; exact hS z hz) a4 (fun k hk => by
      show (stT (wOf ps pf pp) (prt S k) q l (t + 1) (P k)).1 ≤ _
      rw [← stV_6]
      exact stV_b hwb (hb k hk)) (fun i hi => by
      have := a5 i hi
      rw [stV_6] at this
      exact this)
    refine ⟨m', j', fun K => ?_, FS_tr f3 i2, fun b hb => by rw [i3 b hb, a3 b hb], i4⟩
    have h3 := hMO.2.1
    have hMoO := hMO.1
    rw [em1] at hw
    rw [em2, em1] at a1
    rw [← i1 K, F_X7_findBest_L72]
    unfold F_X7_offerWays
    simp (disch := omega) only [e_cl, e_jn, e_lt, e_cxl, e_cxr, e_rzn, ↓l_m1, ↓l_m2, ↓l_m8, l_0, l_1, l_2, l_3, l_4, l_5, l_6, l_7, l_8, l_9, l_10, l_12, l_16, l_20, l_24, l_31, l_32, l_35, l_36, l_40, l_44, l_48, l_59, l_63, l_64, l_90, l_95, l_96, l_100, l_120, l_127, l_200, l_216, l_255, l_999, l_1000, l_10000, l_1000000, l_1048575, l_1000000000, nI_add, pk_mul, pk_sub, nI_leI, nI_ltI, nI_eq, nI_dec, nI_o0, mx_n, mn_n, ab_1, ab_n, e_u2e, e_u2k, e_u2a, if_pos, if_neg, if_true, if_false, not_true, not_false_eq_true, ne_eq, Nat.add_zero, Nat.zero_add, cG_70 hc, cP_70 hc, cT_70 hc, cR_70_0 hc, cR_70_1 hc, cR_70_2 hc, cA_73 hc, cS_73 hc, cR_70_3 hc, cA_74 hc, cS_74 hc, cG_72 hc, cP_72 hc, cT_72 hc, cG_60 hc, cP_60 hc, cT_60 hc, cR_60_0 hc, cA_61 hc, cS_61 hc, cR_60_1 hc, cA_62 hc, cS_62 hc, mG hMoO, mP hMoO, mT_ hMoO, mR0 hMoO, mR1 hMoO, mR2 hMoO, mA1 hMoO, mA2 hMoO, mS1 hMoO, mS2 hMoO, mA3 hMoO, mA4 hMoO, mS4 hMoO, h3, hw, a1]
theorem C_models (hc : CS u) {ra ps nM : Nat} {ly : Nat → List Lay} {S : Nat → Bool} {pf pp : Nat → Nat} (hD : MD nM ly) (hPD : PD ps pf pp) (hra : 2000 ≤ ra) (hra2 : ra < 3000) (hR : RoO u ra) : ∀ (d q fu : Nat) (m : IM) (j : JM), q + d = nM → d < fu → SB m → CAm m j u nM ly → CAp m ps pf pp → (∀ z, z < 6 → j (ra + 1) z = lN (lay S z)) → (∀ i, i < 25 → PK m i (cutC (wOf ps pf pp) (prt S i) q ly) ∧ (cutC (wOf ps pf pp) (prt S i) q ly).1 ≤ 2160000) →
    ∃ m' j', (∀ K, F_X7_findBest_L36 70 ra 30 60 K fu (nI q) (pm m j u) = K (pm m' j' u)) ∧ FS m m' ∧ (∀ b, b ≠ 73 → j' b = j b) ∧ ∀ i, i < 25 → PK m' i (cutC (wOf ps pf pp) (prt S i) nM ly) ∧ (cutC (wOf ps pf pp) (prt S i) nM ly).1 ≤ 2160000 := by
  have hn := hD.1
  intro d
  induction d with
  | zero =>
    intro q fu m j hq hfu hB hA hP hS hK
    obtain ⟨fu, rfl⟩ : ∃ g, fu = g + 1 := ⟨fu - 1, by omega⟩
    have e : q = nM := by omega
    subst e
    refine ⟨m, j, fun K => ?_, FS_rf, fun _ _ => rfl, hK⟩
    rw [F_X7_findBest_L36]
    simp (disch := omega) only [e_cl, e_jn, e_lt, e_cxl, e_cxr, e_rzn, ↓l_m1, ↓l_m2, ↓l_m8, l_0, l_1, l_2, l_3, l_4, l_5, l_6, l_7, l_8, l_9, l_10, l_12, l_16, l_20, l_24, l_31, l_32, l_35, l_36, l_40, l_44, l_48, l_59, l_63, l_64, l_90, l_95, l_96, l_100, l_120, l_127, l_200, l_216, l_255, l_999, l_1000, l_10000, l_1000000, l_1048575, l_1000000000, nI_add, pk_mul, pk_sub, nI_leI, nI_ltI, nI_eq, nI_dec, nI_o0, mx_n, mn_n, ab_1, ab_n, e_u2e, e_u2k, e_u2a, if_pos, if_neg, if_true, if_false, not_true, not_false_eq_true, ne_eq, Nat.add_zero, Nat.zero_add, cG_30 hc, cP_30 hc, cT_30 hc, C_size hA.1 hA.2.1]
  | succ d ih =>
    intro q fu m j hq hfu hB hA hP hS hK
    obtain ⟨fu, rfl⟩ : ∃ g, fu = g + 1 := ⟨fu - 1, by omega⟩
    have hqn : q < nM := by omega
    have hMO := hA.2.2 q hqn
    have hok := okM_of hD hqn
    have g6 := gre_le (l := ly q)
    have hnm : 3000 ≤ nmM q := by unfold nmM; omega
    have f1 : FS m (u2 m 72 1 (nI q)) := FS_72
    obtain ⟨m2, j2, a1, a2, a3, a4⟩ := C_sizes (c4 := nI q) (q := q) (S := S) hc hok hPD hnm hra hra2 hR (gre (ly q)) LF (u2 m 72 1 (nI q)) j (fun i => cutC (wOf ps pf pp) (prt S i) q ly) (Nat.le_refl _) (by unfold LF; omega) (SB_fr hB f1) (MO_FS hMO hnm f1 (fun _ _ => rfl)) (CAp_FS hP f1) hS e_u2s (fun k hk => (hK k hk).2) (fun i hi => PK_72 hi (hK i hi).1)
    have f2 := FS_tr f1 a2
    obtain ⟨m', j', i1, i2, i3, i4⟩ := ih (q + 1) fu m2 j2 (by omega) (by omega) (SB_fr hB f2) (CAm_fr hA hn (by rw [f2 30 (by decide) (by decide) (by omega)]) (fun b g1 g2 => f2 b (by omega) (by omega) (by omega)) (fun b g1 g2 => a3 b (by omega))) (CAp_FS hP f2) (fun z hz => by rw [a3 _ (by omega)]; exact hS z hz) (fun i hi => by
      have e : cutC (wOf ps pf pp) (prt S i) (q + 1) ly = dnT (wOf ps pf pp) (prt S i) q (ly q) (gre (ly q)) (cutC (wOf ps pf pp) (prt S i) q ly) := by
        have := dnT_gre (wv := wOf ps pf pp) (S := prt S i) (q := q) hok (6 - gre (ly q)) (cutC (wOf ps pf pp) (prt S i) q ly) (by omega)
        rw [show gre (ly q) + (6 - gre (ly q)) = 6 by omega] at this
        exact this
      rw [e]; exact a4 i hi)
    refine ⟨m', j', fun K => ?_, FS_tr f2 i2, fun b hb => by rw [i3 b hb, a3 b hb], i4⟩
    have hMoO := hMO.1
    have h4 := hMO.2.2.1
    rw [← i1 K, F_X7_findBest_L36]
    simp (disch := omega) only [e_cl, e_jn, e_lt, e_cxl, e_cxr, e_rzn, ↓l_m1, ↓l_m2, ↓l_m8, l_0, l_1, l_2, l_3, l_4, l_5, l_6, l_7, l_8, l_9, l_10, l_12, l_16, l_20, l_24, l_31, l_32, l_35, l_36, l_40, l_44, l_48, l_59, l_63, l_64, l_90, l_95, l_96, l_100, l_120, l_127, l_200, l_216, l_255, l_999, l_1000, l_10000, l_1000000, l_1048575, l_1000000000, nI_add, pk_mul, pk_sub, nI_leI, nI_ltI, nI_eq, nI_dec, nI_o0, mx_n, mn_n, ab_1, ab_n, e_u2e, e_u2k, e_u2a, if_pos, if_neg, if_true, if_false, not_true, not_false_eq_true, ne_eq, Nat.add_zero, Nat.zero_add, cG_30 hc, cP_30 hc, cT_30 hc, cG_70 hc, cP_70 hc, cT_70 hc, cR_70_0 hc, cR_70_1 hc, cR_70_2 hc, cA_73 hc, cS_73 hc, cR_70_3 hc, cA_74 hc, cS_74 hc, cG_72 hc, cP_72 hc, cT_72 hc, mG hMoO, mP hMoO, mT_ hMoO, mR0 hMoO, mR1 hMoO, mR2 hMoO, mA1 hMoO, mA2 hMoO, mS1 hMoO, mS2 hMoO, mA3 hMoO, mA4 hMoO, mS4 hMoO, C_size hA.1 hA.2.1, C_get hA.1 hA.2.1 hqn, e_u2r (show nmM q ≠ 72 by omega), h4, a1]
theorem C_resetL (hc : CS u) {c1 c2 c3 : Nat} : ∀ (d k fu : Nat) (m : IM), k + d = 25 → d < fu → (∀ i, i < k → m (1071 + 2 * i) 0 = nI 0) →
    ∃ m', (∀ K, F_X7_findBest_L3 70 c1 c2 c3 K fu (nI k) (pm m j u) = K (pm m' j u)) ∧ FS m m' ∧ ∀ i, i < 25 → m' (1071 + 2 * i) 0 = nI 0 := by
  intro d
  induction d with
  | zero =>
    intro k fu m hk hfu hA
    obtain ⟨fu, rfl⟩ : ∃ g, fu = g + 1 := ⟨fu - 1, by omega⟩
    have e : k = 25 := by omega
    subst e
    refine ⟨m, fun K => ?_, FS_rf, hA⟩
    rw [F_X7_findBest_L3]
    simp (disch := omega) only [e_cl, e_jn, e_lt, e_cxl, e_cxr, e_rzn, ↓l_m1, ↓l_m2, ↓l_m8, l_0, l_1, l_2, l_3, l_4, l_5, l_6, l_7, l_8, l_9, l_10, l_12, l_16, l_20, l_24, l_31, l_32, l_35, l_36, l_40, l_44, l_48, l_59, l_63, l_64, l_90, l_95, l_96, l_100, l_120, l_127, l_200, l_216, l_255, l_999, l_1000, l_10000, l_1000000, l_1048575, l_1000000000, nI_add, pk_mul, pk_sub, nI_leI, nI_ltI, nI_eq, nI_dec, nI_o0, mx_n, mn_n, ab_1, ab_n, e_u2e, e_u2k, e_u2a, if_pos, if_neg, if_true, if_false, not_true, not_false_eq_true, ne_eq, Nat.add_zero, Nat.zero_add, cG_70 hc, cP_70 hc, cT_70 hc, cR_70_0 hc, cR_70_1 hc, cR_70_2 hc, cA_73 hc, cS_73 hc, cR_70_3 hc, cA_74 hc, cS_74 hc, cL_71 hc]
  | succ d ih =>
    intro k fu m hk hfu hA
    obtain ⟨fu, rfl⟩ : ∃ g, fu = g + 1 := ⟨fu - 1, by omega⟩
    obtain ⟨m', i1, i2, i3⟩ := ih (k + 1) fu (u2 m (1071 + 2 * k) 0 (nI 0)) (by omega) (by omega) (fun i hi => by
      by_cases e : i = k
      · rw [e, e_u2s]
      · rw [e_u2a (by omega)]; exact hA i (by omega))
    refine ⟨m', fun K => ?_, FS_tr (fun b g1 g2 g3 => e_u2r (by omega)) i2, i3⟩
    rw [← i1 K, F_X7_findBest_L3]
    simp (disch := omega) only [e_cl, e_jn, e_lt, e_cxl, e_cxr, e_rzn, ↓l_m1, ↓l_m2, ↓l_m8, l_0, l_1, l_2, l_3, l_4, l_5, l_6, l_7, l_8, l_9, l_10, l_12, l_16, l_20, l_24, l_31, l_32, l_35, l_36, l_40, l_44, l_48, l_59, l_63, l_64, l_90, l_95, l_96, l_100, l_120, l_127, l_200, l_216, l_255, l_999, l_1000, l_10000, l_1000000, l_1048575, l_1000000000, nI_add, pk_mul, pk_sub, nI_leI, nI_ltI, nI_eq, nI_dec, nI_o0, mx_n, mn_n, ab_1, ab_n, e_u2e, e_u2k, e_u2a, if_pos, if_neg, if_true, if_false, not_true, not_false_eq_true, ne_eq, Nat.add_zero, Nat.zero_add, cG_70 hc, cP_70 hc, cT_70 hc, cR_70_0 hc, cR_70_1 hc, cR_70_2 hc, cA_73 hc, cS_73 hc, cR_70_3 hc, cA_74 hc, cS_74 hc, cL_71 hc, cA_71 hc, cG_pt hc, cR_pt hc, cG_pc hc, cP_pc hc, cT_pc hc]
/-! choosing -/
theorem C_takeR2 (hc : CS u) {k ra : Nat} (hk : k < 25) (hR : RoO u ra) (hra : 2000 ≤ ra) : ∃ m', F_X1_take (ra + 2) (1071 + 2 * k) (pm m j u) = some ((), pm m' j u) ∧ (∀ b, b ≠ ra + 2 → m' b = m b) ∧ ∀ i, i < 8 → m' (ra + 2) i = m (1071 + 2 * k) i := by
  refine ⟨u2 (u2 (u2 (u2 (u2 (u2 (u2 (u2 m (ra + 2) 0 (m (1071 + 2 * k) 0)) (ra + 2) 1 (m (1071 + 2 * k) 1)) (ra + 2) 2 (m (1071 + 2 * k) 2)) (ra + 2) 3 (m (1071 + 2 * k) 3)) (ra + 2) 4 (m (1071 + 2 * k) 4)) (ra + 2) 5 (m (1071 + 2 * k) 5)) (ra + 2) 6 (m (1071 + 2 * k) 6)) (ra + 2) 7 (m (1071 + 2 * k) 7), ?_, fun b hb => ?_, fun i hi => ?_⟩
  · unfold F_X1_take
    simp (disch := omega) only [cG_pc hc, oP2 hR, e_u2a]
  · rw [e_u2r hb, e_u2r hb, e_u2r hb, e_u2r hb, e_u2r hb, e_u2r hb, e_u2r hb, e_u2r hb]
  · rcases (show i = 0 ∨ i = 1 ∨ i = 2 ∨ i = 3 ∨ i = 4 ∨ i = 5 ∨ i = 6 ∨ i = 7 by omega) with rfl | rfl | rfl | rfl | rfl | rfl | rfl | rfl <;> simp (disch := omega) only [e_u2k, e_u2s]
theorem C_takeR3 (hc : CS u) {k ra : Nat} (hk : k < 25) (hR : RoO u ra) (hra : 2000 ≤ ra) : ∃ m', F_X1_take (ra + 3) (1071 + 2 * k) (pm m j u) = some ((), pm m' j u) ∧ (∀ b, b ≠ ra + 3 → m' b = m b) ∧ ∀ i, i < 8 → m' (ra + 3) i = m (1071 + 2 * k) i := by
  refine ⟨u2 (u2 (u2 (u2 (u2 (u2 (u2 (u2 m (ra + 3) 0 (m (1071 + 2 * k) 0)) (ra + 3) 1 (m (1071 + 2 * k) 1)) (ra + 3) 2 (m (1071 + 2 * k) 2)) (ra + 3) 3 (m (1071 + 2 * k) 3)) (ra + 3) 4 (m (1071 + 2 * k) 4)) (ra + 3) 5 (m (1071 + 2 * k) 5)) (ra + 3) 6 (m (1071 + 2 * k) 6)) (ra + 3) 7 (m (1071 + 2 * k) 7), ?_, fun b hb => ?_, fun i hi => ?_⟩
  · unfold F_X1_take
    simp (disch := omega) only [cG_pc hc, oP3 hR, e_u2a]
  · rw [e_u2r hb, e_u2r hb, e_u2r hb, e_u2r hb, e_u2r hb, e_u2r hb, e_u2r hb, e_u2r hb]
  · rcases (show i = 0 ∨ i = 1 ∨ i = 2 ∨ i = 3 ∨ i = 4 ∨ i = 5 ∨ i = 6 ∨ i = 7 by omega) with rfl | rfl | rfl | rfl | rfl | rfl | rfl | rfl <;> simp (disch := omega) only [e_u2k, e_u2s]
def FR (ra : Nat) (m m' : IM) : Prop := (∀ b, b ≠ ra → b ≠ ra + 2 → b ≠ ra + 3 → m' b = m b) ∧ ∀ k, k ≠ 2 → k ≠ 3 → k ≠ 4 → k ≠ 5 → m' ra k = m ra k
theorem C_chooseL (hc : CS u) {ra nM : Nat} {ly : Nat → List Lay} {S : Nat → Bool} {wv : Nat → Nat} (hMd : ∀ q, q < nM → okM (ly q)) (hra : 2000 ≤ ra) (hR : RoO u ra) (hb : ∀ k, k < 25 → (cutK wv S nM ly k).1 ≤ 2160000) : ∀ (d k fu : Nat) (m : IM), k + d = 12 → d < fu → SW m → (∀ i, i < 25 → PK m i (cutK wv S nM ly i)) → KNW m ra (bstI (bstF (cutK wv S nM ly) k)) → (bstF (cutK wv S nM ly) k).1 ≤ 4320000 →
    ∃ m', (∀ K, F_X7_choose_L12 70 ra K fu (nI k) (pm m j u) = K (pm m' j u)) ∧ FR ra m m' ∧ KNW m' ra (bstI (bestN wv S nM ly)) := by
  intro d
  induction d with
  | zero =>
    intro k fu m hk hfu hSW hK hB hb4
    obtain ⟨fu, rfl⟩ : ∃ g, fu = g + 1 := ⟨fu - 1, by omega⟩
    have e : k = 12 := by omega
    subst e
    refine ⟨m, fun K => ?_, ⟨fun _ _ _ _ => rfl, fun _ _ _ _ _ => rfl⟩, hB⟩
    rw [F_X7_choose_L12]
    simp (disch := omega) only [e_cl, e_jn, e_lt, e_cxl, e_cxr, e_rzn, ↓l_m1, ↓l_m2, ↓l_m8, l_0, l_1, l_2, l_3, l_4, l_5, l_6, l_7, l_8, l_9, l_10, l_12, l_16, l_20, l_24, l_31, l_32, l_35, l_36, l_40, l_44, l_48, l_59, l_63, l_64, l_90, l_95, l_96, l_100, l_120, l_127, l_200, l_216, l_255, l_999, l_1000, l_10000, l_1000000, l_1048575, l_1000000000, nI_add, pk_mul, pk_sub, nI_leI, nI_ltI, nI_eq, nI_dec, nI_o0, mx_n, mn_n, ab_1, ab_n, e_u2e, e_u2k, e_u2a, if_pos, if_neg, if_true, if_false, not_true, not_false_eq_true, ne_eq, Nat.add_zero, Nat.zero_add]
  | succ d ih =>
    intro k fu m hk hfu hSW hK hB hb4
    obtain ⟨fu, rfl⟩ : ∃ g, fu = g + 1 := ⟨fu - 1, by omega⟩
    have i1 : 2 * k + 1 < 25 := by omega
    have i2 : 2 * k + 2 < 25 := by omega
    have b1 := hb (2 * k + 1) i1
    have b2 := hb (2 * k + 2) i2
    obtain ⟨q1, q1'⟩ := hK (2 * k + 1) i1
    obtain ⟨q2, q2'⟩ := hK (2 * k + 2) i2
    have h4 : m ra 4 = nI (bstF (cutK wv S nM ly) k).1 := hB.1
    have ebs : bstF (cutK wv S nM ly) (k + 1) = if (bstF (cutK wv S nM ly) k).1 < (cutK wv S nM ly (2 * k + 1)).1 + (cutK wv S nM ly (2 * k + 2)).1 then ((cutK wv S nM ly (2 * k + 1)).1 + (cutK wv S nM ly (2 * k + 2)).1, k / 4 + 1, k % 4 + 2, 2, (cutK wv S nM ly (2 * k + 1)).2, (cutK wv S nM ly (2 * k + 2)).2) else bstF (cutK wv S nM ly) k := rfl
    by_cases c : (bstF (cutK wv S nM ly) k).1 < (cutK wv S nM ly (2 * k + 1)).1 + (cutK wv S nM ly (2 * k + 2)).1
    · obtain ⟨p1, p2⟩ := bst_two hMd c
      rw [if_pos c] at ebs
      have hA : m (1070 + 2 * (2 * k + 1)) 0 = nI (k / 4) := by
        rw [(hSW _ i1).1]; unfold ptA; rw [if_neg (by omega)]; congr 1; omega
      have hH : m (1070 + 2 * (2 * k + 1)) 2 = nI (k % 4 + 1) := by
        rw [(hSW _ i1).2.2]; unfold ptH; rw [if_neg (by omega), if_pos (by omega)]; congr 1; omega
      obtain ⟨m1, em1⟩ : ∃ m1, m1 = u2 (u2 (u2 (u2 m ra 2 (nI (k / 4))) ra 3 (nI (k % 4 + 1))) ra 4 (nI ((cutK wv S nM ly (2 * k + 1)).1 + (cutK wv S nM ly (2 * k + 2)).1))) ra 5 (nI 2) := ⟨_, rfl⟩
      have k1 : ∀ b, b ≠ ra → m1 b = m b := fun b hb => by rw [em1, e_u2r hb, e_u2r hb, e_u2r hb, e_u2r hb]
      obtain ⟨m2, c1, c2, c3⟩ := C_takeR2 (m := m1) (j := j) hc i1 hR hra
      obtain ⟨m3, d1, d2, d3⟩ := C_takeR3 (m := m2) (j := j) hc i2 hR hra
      have fr : FR ra m m3 := ⟨fun b g1 g2 g3 => by rw [d2 b g3, c2 b g2, k1 b g1], fun x g1 g2 g3 g4 => by rw [d2 ra (by omega), c2 ra (by omega), em1, e_u2k g4, e_u2k g3, e_u2k g2, e_u2k g1]⟩
      obtain ⟨m', n1, n2, n3⟩ := ih (k + 1) fu m3 (by omega) (by omega) (fun x hx => by rw [fr.1 _ (by omega) (by omega) (by omega)]; exact hSW x hx) (fun i hi => by
        have := hK i hi
        unfold PK at this ⊢
        rw [fr.1 _ (by omega) (by omega) (by omega)]; exact this) (by
        rw [ebs]
        refine ⟨?_, ?_, ?_, ?_, Nat.le_refl 2, fun _ x hx => ?_, fun _ x hx => ?_⟩
        · rw [d2 ra (by omega), c2 ra (by omega), em1, e_u2k (by decide), e_u2s]; rfl
        · rw [d2 ra (by omega), c2 ra (by omega), em1, e_u2k (by decide), e_u2k (by decide), e_u2k (by decide), e_u2s]; exact (oI_s _).symm
        · rw [d2 ra (by omega), c2 ra (by omega), em1, e_u2k (by decide), e_u2k (by decide), e_u2s]; exact (oI_s _).symm
        · rw [d2 ra (by omega), c2 ra (by omega), em1, e_u2s]; rfl
        · rw [d2 (ra + 2) (by omega), c3 (x + 1) (by omega), k1 _ (by omega)]
          exact q1' (by omega) x hx
        · rw [d3 (x + 1) (by omega), c2 _ (by omega), k1 _ (by omega)]
          exact q2' (by omega) x hx) (by rw [ebs]; show (cutK wv S nM ly (2 * k + 1)).1 + (cutK wv S nM ly (2 * k + 2)).1 ≤ _; omega)
      refine ⟨m', fun K => ?_, ⟨fun b g1 g2 g3 => by rw [n2.1 b g1 g2 g3, fr.1 b g1 g2 g3], fun x g1 g2 g3 g4 => by rw [n2.2 x g1 g2 g3 g4, fr.2 x g1 g2 g3 g4]⟩, n3⟩
      rw [em1] at c1
      rw [← n1 K, F_X7_choose_L12]
      unfold F_X6_takeSawn
      simp (disch := omega) only [e_cl, e_jn, e_lt, e_cxl, e_cxr, e_rzn, ↓l_m1, ↓l_m2, ↓l_m8, l_0, l_1, l_2, l_3, l_4, l_5, l_6, l_7, l_8, l_9, l_10, l_12, l_16, l_20, l_24, l_31, l_32, l_35, l_36, l_40, l_44, l_48, l_59, l_63, l_64, l_90, l_95, l_96, l_100, l_120, l_127, l_200, l_216, l_255, l_999, l_1000, l_10000, l_1000000, l_1048575, l_1000000000, nI_add, pk_mul, pk_sub, nI_leI, nI_ltI, nI_eq, nI_dec, nI_o0, mx_n, mn_n, ab_1, ab_n, e_u2e, e_u2k, e_u2a, if_pos, if_neg, if_true, if_false, not_true, not_false_eq_true, ne_eq, Nat.add_zero, Nat.zero_add, cG_70 hc, cP_70 hc, cT_70 hc, cR_70_0 hc, cR_70_1 hc, cR_70_2 hc, cA_73 hc, cS_73 hc, cR_70_3 hc, cA_74 hc, cS_74 hc, cL_71 hc, cA_71 hc, cG_pt hc, cR_pt hc, cG_pc hc, cP_pc hc, cT_pc hc, oG hR, oP hR, oZ hR, oT hR, oR0 hR, oR6 hR, oR7 hR, oA hR, oS hR, oG2 hR, oP2 hR, oT2 hR, oG3 hR, oP3 hR, oT3 hR, q1, q2, h4, hA, hH, c1, d1]
    · rw [if_neg c] at ebs
      obtain ⟨m', n1, n2, n3⟩ := ih (k + 1) fu m (by omega) (by omega) hSW hK (by rw [ebs]; exact hB) (by rw [ebs]; exact hb4)
      refine ⟨m', fun K => ?_, n2, n3⟩
      rw [← n1 K, F_X7_choose_L12]
      simp (disch := omega) only [e_cl, e_jn, e_lt, e_cxl, e_cxr, e_rzn, ↓l_m1, ↓l_m2, ↓l_m8, l_0, l_1, l_2, l_3, l_4, l_5, l_6, l_7, l_8, l_9, l_10, l_12, l_16, l_20, l_24, l_31, l_32, l_35, l_36, l_40, l_44, l_48, l_59, l_63, l_64, l_90, l_95, l_96, l_100, l_120, l_127, l_200, l_216, l_255, l_999, l_1000, l_10000, l_1000000, l_1048575, l_1000000000, nI_add, pk_mul, pk_sub, nI_leI, nI_ltI, nI_eq, nI_dec, nI_o0, mx_n, mn_n, ab_1, ab_n, e_u2e, e_u2k, e_u2a, if_pos, if_neg, if_true, if_false, not_true, not_false_eq_true, ne_eq, Nat.add_zero, Nat.zero_add, cG_70 hc, cP_70 hc, cT_70 hc, cR_70_0 hc, cR_70_1 hc, cR_70_2 hc, cA_73 hc, cS_73 hc, cR_70_3 hc, cA_74 hc, cS_74 hc, cL_71 hc, cA_71 hc, cG_pt hc, cR_pt hc, cG_pc hc, cP_pc hc, cT_pc hc, oG hR, oP hR, oZ hR, oT hR, oR0 hR, oR6 hR, oR7 hR, oA hR, oS hR, oG2 hR, oP2 hR, oT2 hR, oG3 hR, oP3 hR, oT3 hR, q1, q2, h4]
theorem C_choose (hc : CS u) {ra nM : Nat} {ly : Nat → List Lay} {S : Nat → Bool} {wv : Nat → Nat} (hMd : ∀ q, q < nM → okM (ly q)) (hra : 2000 ≤ ra) (hR : RoO u ra) (hb : ∀ k, k < 25 → (cutK wv S nM ly k).1 ≤ 2160000) (hSW : SW m) (hK : ∀ i, i < 25 → PK m i (cutK wv S nM ly i)) : ∃ m', F_X7_choose 70 ra (pm m j u) = some ((), pm m' j u) ∧ FR ra m m' ∧ KNW m' ra (bstI (bestN wv S nM ly)) := by
  have b0 := hb 0 (by decide)
  obtain ⟨q0, q0'⟩ := hK 0 (by decide)
  have e0 : bstF (cutK wv S nM ly) 0 = ((cutK wv S nM ly 0).1, 0, 0, if 0 < (cutK wv S nM ly 0).1 then 1 else 0, (cutK wv S nM ly 0).2, fun _ => 0) := rfl
  have step : ∀ c, c = (if 0 < (cutK wv S nM ly 0).1 then 1 else 0) → (∀ m2, F_X1_take (ra + 2) 1071 (pm (u2 (u2 (u2 (u2 m ra 2 (oI 0)) ra 3 (oI 0)) ra 4 (nI (cutK wv S nM ly 0).1)) ra 5 (nI c)) j u) = some ((), pm m2 j u) → F_X6_takeWhole ra 1070 (pm m j u) = some ((), pm m2 j u)) → ∃ m', F_X7_choose 70 ra (pm m j u) = some ((), pm m' j u) ∧ FR ra m m' ∧ KNW m' ra (bstI (bestN wv S nM ly)) := fun c hc' hF => by
    obtain ⟨m1, em1⟩ : ∃ m1, m1 = u2 (u2 (u2 (u2 m ra 2 (oI 0)) ra 3 (oI 0)) ra 4 (nI (cutK wv S nM ly 0).1)) ra 5 (nI c) := ⟨_, rfl⟩
    have k1 : ∀ b, b ≠ ra → m1 b = m b := fun b hb => by rw [em1, e_u2r hb, e_u2r hb, e_u2r hb, e_u2r hb]
    obtain ⟨m2, c1, c2, c3⟩ := C_takeR2 (m := m1) (j := j) hc (show 0 < 25 by decide) hR hra
    have hW := hF m2 (by rw [em1] at c1; exact c1)
    have fr : FR ra m m2 := ⟨fun b g1 g2 g3 => by rw [c2 b g2, k1 b g1], fun x g1 g2 g3 g4 => by rw [c2 ra (by omega), em1, e_u2k g4, e_u2k g3, e_u2k g2, e_u2k g1]⟩
    obtain ⟨m', n1, n2, n3⟩ := C_chooseL (j := j) hc hMd hra hR hb 12 0 LF m2 (by omega) (by unfold LF; omega) (fun x hx => by rw [fr.1 _ (by omega) (by omega) (by omega)]; exact hSW x hx) (fun i hi => by
      have := hK i hi
      unfold PK at this ⊢
      rw [fr.1 _ (by omega) (by omega) (by omega)]; exact this) (by
      rw [e0, ← hc']
      refine ⟨?_, ?_, ?_, ?_, ?_, fun z x hx => ?_, fun z => ?_⟩
      · rw [c2 ra (by omega), em1, e_u2k (by decide), e_u2s]; rfl
      · rw [c2 ra (by omega), em1, e_u2k (by decide), e_u2k (by decide), e_u2k (by decide), e_u2s]; rfl
      · rw [c2 ra (by omega), em1, e_u2k (by decide), e_u2k (by decide), e_u2s]; rfl
      · rw [c2 ra (by omega), em1, e_u2s]; rfl
      · show c ≤ 2; rw [hc']; split <;> omega
      · have z : 1 ≤ c := z
        rw [c3 (x + 1) (by omega), k1 _ (by omega)]
        exact q0' (by rw [hc'] at z; split at z <;> omega) x hx
      · have z : 2 ≤ c := z
        rw [hc'] at z; split at z <;> omega) (by rw [e0]; show (cutK wv S nM ly 0).1 ≤ _; omega)
    refine ⟨m', ?_, ⟨fun b g1 g2 g3 => by rw [n2.1 b g1 g2 g3, fr.1 b g1 g2 g3], fun x g1 g2 g3 g4 => by rw [n2.2 x g1 g2 g3 g4, fr.2 x g1 g2 g3 g4]⟩, n3⟩
    have a71 := fun (f : Nat → Option (Unit × PM)) => cA_71 (m := m) (j := j) hc (show 0 < 25 by decide) (f := f)
    unfold F_X7_choose
    rw [cR_70_0 hc, show (0 : Int32) = nI 0 from rfl, a71, oT hR, hW, e_cl, e_jn]
    exact n1 _
  have cr := fun (m : IM) (f : Nat → Option (Unit × PM)) => cR_pt (m := m) (j := j) hc (show 0 < 25 by decide) (f := f)
  have cg := fun (m : IM) (f : Int32 → Option (Unit × PM)) => cG_pc (m := m) (j := j) (k := 0) hc (show 0 < 25 by decide) (f := f)
  by_cases c : 0 < (cutK wv S nM ly 0).1
  · refine step 1 (by rw [if_pos c]) (fun m2 hm2 => ?_)
    unfold F_X6_takeWhole
    simp (disch := omega) only [e_cl, e_jn, e_lt, e_cxl, e_cxr, e_rzn, ↓l_m1, ↓l_m2, ↓l_m8, l_0, l_1, l_2, l_3, l_4, l_5, l_6, l_7, l_8, l_9, l_10, l_12, l_16, l_20, l_24, l_31, l_32, l_35, l_36, l_40, l_44, l_48, l_59, l_63, l_64, l_90, l_95, l_96, l_100, l_120, l_127, l_200, l_216, l_255, l_999, l_1000, l_10000, l_1000000, l_1048575, l_1000000000, nI_add, pk_mul, pk_sub, nI_leI, nI_ltI, nI_eq, nI_dec, nI_o0, mx_n, mn_n, ab_1, ab_n, e_u2e, e_u2k, e_u2a, if_pos, if_neg, if_true, if_false, not_true, not_false_eq_true, ne_eq, Nat.add_zero, Nat.zero_add, oG hR, oP hR, oZ hR, oT hR, oR0 hR, oR6 hR, oR7 hR, oA hR, oS hR, oG2 hR, oP2 hR, oT2 hR, oG3 hR, oP3 hR, oT3 hR, cr, cg, q0, e_u2a, hm2]
  · refine step 0 (by rw [if_neg c]) (fun m2 hm2 => ?_)
    unfold F_X6_takeWhole
    simp (disch := omega) only [e_cl, e_jn, e_lt, e_cxl, e_cxr, e_rzn, ↓l_m1, ↓l_m2, ↓l_m8, l_0, l_1, l_2, l_3, l_4, l_5, l_6, l_7, l_8, l_9, l_10, l_12, l_16, l_20, l_24, l_31, l_32, l_35, l_36, l_40, l_44, l_48, l_59, l_63, l_64, l_90, l_95, l_96, l_100, l_120, l_127, l_200, l_216, l_255, l_999, l_1000, l_10000, l_1000000, l_1048575, l_1000000000, nI_add, pk_mul, pk_sub, nI_leI, nI_ltI, nI_eq, nI_dec, nI_o0, mx_n, mn_n, ab_1, ab_n, e_u2e, e_u2k, e_u2a, if_pos, if_neg, if_true, if_false, not_true, not_false_eq_true, ne_eq, Nat.add_zero, Nat.zero_add, oG hR, oP hR, oZ hR, oT hR, oR0 hR, oR6 hR, oR7 hR, oA hR, oS hR, oG2 hR, oP2 hR, oT2 hR, oG3 hR, oP3 hR, oT3 hR, cr, cg, q0, e_u2a, hm2]
end CBE
