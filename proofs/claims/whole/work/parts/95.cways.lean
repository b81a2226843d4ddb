/-! ===== the class: ways, sizes, models ===== -/
def stV (wv : Nat) (S : Nat → Bool) (q : Nat) (l : List Lay) (t w : Nat) (ct : CT) : CT := if ct.1 < wv ∧ fa_first (fun w => decide (fitW S l t w < 216)) w < w then (wv, cfF q l t (fa_first (fun w => decide (fitW S l t w < 216)) w) (fitW S l t (fa_first (fun w => decide (fitW S l t w < 216)) w))) else ct
theorem ff_grow {p : Nat → Bool} {n : Nat} : (fa_first p n < n → fa_first p (n + 1) = fa_first p n) ∧ (¬ fa_first p n < n → (p n = true → fa_first p (n + 1) = n) ∧ (p n = false → fa_first p (n + 1) = n + 1)) := by
  have hle := fa_first_le p n
  refine ⟨fun h => ff_eq (by omega) (fa_first_yes p n h) (fun i hi => fa_first_no p n i hi), fun h => ⟨fun hp => ff_eq (by omega) hp (fun i hi => fa_first_no p n i (by omega)), fun hp => ff_none (fun i hi => ?_)⟩⟩
  by_cases e : i = n
  · rw [e]; exact hp
  · exact fa_first_no p n i (by omega)
theorem stV_0 {wv : Nat} {S : Nat → Bool} {q : Nat} {l : List Lay} {t : Nat} {ct : CT} : stV wv S q l t 0 ct = ct := if_neg (fun z => absurd z.2 (Nat.not_lt_zero _))
theorem stV_s {wv : Nat} {S : Nat → Bool} {q : Nat} {l : List Lay} {t w : Nat} {ct : CT} : stW wv S q l t w (stV wv S q l t w ct) = stV wv S q l t (w + 1) ct := by
  obtain ⟨g1, g2⟩ := ff_grow (p := fun w => decide (fitW S l t w < 216)) (n := w)
  unfold stV
  by_cases c1 : ct.1 < wv
  · by_cases c2 : fa_first (fun w => decide (fitW S l t w < 216)) w < w
    · rw [if_pos ⟨c1, c2⟩, g1 c2, if_pos ⟨c1, by omega⟩]
      exact if_neg (fun z => absurd z.1 (Nat.lt_irrefl _))
    · obtain ⟨g3, g4⟩ := g2 c2
      rw [if_neg (fun z => c2 z.2)]
      unfold stW
      by_cases c3 : fitW S l t w < 216
      · rw [g3 (decide_eq_true c3), if_pos ⟨c1, c3⟩, if_pos ⟨c1, by omega⟩]
      · rw [g4 (decide_eq_false c3), if_neg (fun z => c3 z.2), if_neg (fun z => by omega)]
  · rw [if_neg (fun z => c1 z.1), if_neg (fun z => c1 z.1)]
    exact if_neg (fun z => c1 z.1)
theorem stV_6 {wv : Nat → Nat} {S : Nat → Bool} {q : Nat} {l : List Lay} {t : Nat} {ct : CT} : stV (wv (tot l * t * t * t)) S q l t 6 ct = stT wv S q l t ct := rfl
theorem stV_end {wv : Nat} {S : Nat → Bool} {q : Nat} {l : List Lay} {t w : Nat} {ct : CT} (hw : w ≤ 6) (h : wv ≤ (stV wv S q l t w ct).1) : stV wv S q l t w ct = stV wv S q l t 6 ct := by
  by_cases c1 : ct.1 < wv
  · by_cases c2 : fa_first (fun w => decide (fitW S l t w < 216)) w < w
    · have e : fa_first (fun w => decide (fitW S l t w < 216)) 6 = fa_first (fun w => decide (fitW S l t w < 216)) w := ff_eq (by omega) (fa_first_yes (fun w => decide (fitW S l t w < 216)) w c2) (fun i hi => fa_first_no (fun w => decide (fitW S l t w < 216)) w i hi)
      unfold stV
      rw [e, if_pos ⟨c1, c2⟩, if_pos ⟨c1, by omega⟩]
    · unfold stV at h
      rw [if_neg (fun z => c2 z.2)] at h
      omega
  · unfold stV
    rw [if_neg (fun z => c1 z.1), if_neg (fun z => c1 z.1)]
theorem stV_b {wv : Nat} {S : Nat → Bool} {q : Nat} {l : List Lay} {t w M : Nat} {ct : CT} (h1 : wv ≤ M) (h2 : ct.1 ≤ M) : (stV wv S q l t w ct).1 ≤ M := by
  unfold stV
  split
  · exact h1
  · exact h2
section CWY
variable {m : IM} {j : JM} {u : SU}
/-- what the saw may write: what is offered, the spans, the parts' cuts -/
def FS (m m' : IM) : Prop := ∀ b, b ≠ 72 → b ≠ 74 → (b < 1071 ∨ 1119 < b ∨ b % 2 = 0) → m' b = m b
theorem FS_rf : FS m m := fun _ _ _ _ => rfl
theorem FS_tr {m1 m2 m3 : IM} (h : FS m1 m2) (g : FS m2 m3) : FS m1 m3 := fun b h1 h2 h3 => (g b h1 h2 h3).trans (h b h1 h2 h3)
theorem FS_72 {i : Nat} {v : Int32} : FS m (u2 m 72 i v) := fun _ h _ _ => e_u2r h
/-- the saw's standing part -/
def SB (m : IM) : Prop := TU m ∧ SW m
theorem SB_fr {m' : IM} (h : SB m) (hF : FS m m') : SB m' := by
  refine ⟨fun w hw a ha => by rw [hF 1 (by decide) (by decide) (by omega)]; exact h.1 w hw a ha, fun k hk => ?_⟩
  rw [hF (1070 + 2 * k) (by omega) (by omega) (by omega)]
  exact h.2 k hk
theorem MO_FS {m' : IM} {j' : JM} {a : Nat} {l : List Lay} (h : MO m j u a l) (ha : 3000 ≤ a) (hF : FS m m') (hj : ∀ b, b ≠ 73 → j' b = j b) : MO m' j' u a l := MO_fr h (fun b g1 g2 => hF b (by omega) (by omega) (by omega)) (fun b g1 g2 => hj b (by omega))
theorem C_wantL (hc : CS u) {wv : Nat} {P : Nat → CT} (hwv : wv < 2 ^ 30) (hP : ∀ k, k < 25 → (P k).1 < 2 ^ 30) (h72 : m 72 0 = nI wv) (hK : ∀ k, k < 25 → PK m k (P k)) (K1 K2 : PM → Option (Int32 × PM)) : ∀ (d k fu : Nat), k + d = 25 → d < fu → (∀ i, i < k → wv ≤ (P i).1) →
    (F_X7_isWanted_L2 70 K1 K2 fu (nI k) (pm m j u) = K1 (pm m j u) ∧ ∀ i, i < 25 → wv ≤ (P i).1) ∨ F_X7_isWanted_L2 70 K1 K2 fu (nI k) (pm m j u) = K2 (pm m j u) := by
  intro d
  induction d with
  | zero =>
    intro k fu hk hfu hA
    obtain ⟨fu, rfl⟩ : ∃ g, fu = g + 1 := ⟨fu - 1, by omega⟩
    have e : k = 25 := by omega
    subst e
    refine Or.inl ⟨?_, hA⟩
    rw [F_X7_isWanted_L2]
    simp (disch := omega) only [e_cl, e_jn, e_lt, e_cxl, e_cxr, e_rzn, ↓l_m1, ↓l_m2, ↓l_m8, l_0, l_1, l_2, l_3, l_4, l_5, l_6, l_7, l_8, l_9, l_10, l_12, l_16, l_20, l_24, l_31, l_32, l_35, l_36, l_40, l_44, l_48, l_59, l_63, l_64, l_90, l_95, l_96, l_100, l_120, l_127, l_200, l_216, l_255, l_999, l_1000, l_10000, l_1000000, l_1048575, l_1000000000, nI_add, pk_mul, pk_sub, nI_leI, nI_ltI, nI_eq, nI_dec, nI_o0, mx_n, mn_n, ab_1, ab_n, e_u2e, e_u2k, e_u2a, if_pos, if_neg, if_true, if_false, not_true, not_false_eq_true, ne_eq, Nat.add_zero, Nat.zero_add, cG_70 hc, cP_70 hc, cT_70 hc, cR_70_0 hc, cR_70_1 hc, cR_70_2 hc, cA_73 hc, cS_73 hc, cR_70_3 hc, cA_74 hc, cS_74 hc, cL_71 hc]
  | succ d ih =>
    intro k fu hk hfu hA
    obtain ⟨fu, rfl⟩ : ∃ g, fu = g + 1 := ⟨fu - 1, by omega⟩
    have hk25 : k < 25 := by omega
    have q1 := (hK k hk25).1
    have q2 := hP k hk25
    rw [F_X7_isWanted_L2]
    by_cases c : wv ≤ (P k).1
    · rcases ih (k + 1) fu (by omega) (by omega) (fun i hi => by
        by_cases e : i = k
        · rw [e]; exact c
        · exact hA i (by omega)) with ⟨i1, i2⟩ | i1
      · refine Or.inl ⟨?_, i2⟩
        rw [← i1]
        simp (disch := omega) only [e_cl, e_jn, e_lt, e_cxl, e_cxr, e_rzn, ↓l_m1, ↓l_m2, ↓l_m8, l_0, l_1, l_2, l_3, l_4, l_5, l_6, l_7, l_8, l_9, l_10, l_12, l_16, l_20, l_24, l_31, l_32, l_35, l_36, l_40, l_44, l_48, l_59, l_63, l_64, l_90, l_95, l_96, l_100, l_120, l_127, l_200, l_216, l_255, l_999, l_1000, l_10000, l_1000000, l_1048575, l_1000000000, nI_add, pk_mul, pk_sub, nI_leI, nI_ltI, nI_eq, nI_dec, nI_o0, mx_n, mn_n, ab_1, ab_n, e_u2e, e_u2k, e_u2a, if_pos, if_neg, if_true, if_false, not_true, not_false_eq_true, ne_eq, Nat.add_zero, Nat.zero_add, cG_70 hc, cP_70 hc, cT_70 hc, cR_70_0 hc, cR_70_1 hc, cR_70_2 hc, cA_73 hc, cS_73 hc, cR_70_3 hc, cA_74 hc, cS_74 hc, cG_72 hc, cP_72 hc, cT_72 hc, cL_71 hc, cA_71 hc, cG_pt hc, cR_pt hc, cG_pc hc, cP_pc hc, cT_pc hc, h72, q1]
      · refine Or.inr ?_
        rw [← i1]
        simp (disch := omega) only [e_cl, e_jn, e_lt, e_cxl, e_cxr, e_rzn, ↓l_m1, ↓l_m2, ↓l_m8, l_0, l_1, l_2, l_3, l_4, l_5, l_6, l_7, l_8, l_9, l_10, l_12, l_16, l_20, l_24, l_31, l_32, l_35, l_36, l_40, l_44, l_48, l_59, l_63, l_64, l_90, l_95, l_96, l_100, l_120, l_127, l_200, l_216, l_255, l_999, l_1000, l_10000, l_1000000, l_1048575, l_1000000000, nI_add, pk_mul, pk_sub, nI_leI, nI_ltI, nI_eq, nI_dec, nI_o0, mx_n, mn_n, ab_1, ab_n, e_u2e, e_u2k, e_u2a, if_pos, if_neg, if_true, if_false, not_true, not_false_eq_true, ne_eq, Nat.add_zero, Nat.zero_add, cG_70 hc, cP_70 hc, cT_70 hc, cR_70_0 hc, cR_70_1 hc, cR_70_2 hc, cA_73 hc, cS_73 hc, cR_70_3 hc, cA_74 hc, cS_74 hc, cG_72 hc, cP_72 hc, cT_72 hc, cL_71 hc, cA_71 hc, cG_pt hc, cR_pt hc, cG_pc hc, cP_pc hc, cT_pc hc, h72, q1]
    · refine Or.inr ?_
      simp (disch := omega) only [e_cl, e_jn, e_lt, e_cxl, e_cxr, e_rzn, ↓l_m1, ↓l_m2, ↓l_m8, l_0, l_1, l_2, l_3, l_4, l_5, l_6, l_7, l_8, l_9, l_10, l_12, l_16, l_20, l_24, l_31, l_32, l_35, l_36, l_40, l_44, l_48, l_59, l_63, l_64, l_90, l_95, l_96, l_100, l_120, l_127, l_200, l_216, l_255, l_999, l_1000, l_10000, l_1000000, l_1048575, l_1000000000, nI_add, pk_mul, pk_sub, nI_leI, nI_ltI, nI_eq, nI_dec, nI_o0, mx_n, mn_n, ab_1, ab_n, e_u2e, e_u2k, e_u2a, if_pos, if_neg, if_true, if_false, not_true, not_false_eq_true, ne_eq, Nat.add_zero, Nat.zero_add, cG_70 hc, cP_70 hc, cT_70 hc, cR_70_0 hc, cR_70_1 hc, cR_70_2 hc, cA_73 hc, cS_73 hc, cR_70_3 hc, cA_74 hc, cS_74 hc, cG_72 hc, cP_72 hc, cT_72 hc, cL_71 hc, cA_71 hc, cG_pt hc, cR_pt hc, cG_pc hc, cP_pc hc, cT_pc hc, h72, q1]
theorem C_want (hc : CS u) {wv : Nat} {P : Nat → CT} (hwv : wv < 2 ^ 30) (hP : ∀ k, k < 25 → (P k).1 < 2 ^ 30) (h72 : m 72 0 = nI wv) (hK : ∀ k, k < 25 → PK m k (P k)) : (F_X7_isWanted 70 (pm m j u) = some (nI 0, pm m j u) ∧ ∀ i, i < 25 → wv ≤ (P i).1) ∨ F_X7_isWanted 70 (pm m j u) = some (nI 1, pm m j u) := by
  have h := C_wantL (j := j) hc hwv hP h72 hK (fun h1 => rz 0 h1) (fun h2 => rz 1 h2) 25 0 LF (by omega) (by unfold LF; omega) (fun i hi => by omega)
  unfold F_X7_isWanted
  rw [e_jn, e_jn, show (0 : Int32) = nI 0 from rfl]
  rw [show (0 : Int32) = nI 0 from rfl] at h
  rcases h with ⟨h1, h2⟩ | h1
  · exact Or.inl ⟨h1.trans (e_rzn (by omega)), h2⟩
  · exact Or.inr (h1.trans e_rz1)
theorem C_L46 (hc : CS u) {t w q a b wv : Nat} {l : List Lay} {S : Nat → Bool} {P : Nat → CT} (hM : okM l) (h1 : 1 ≤ t) (h2 : t ≤ gre l) (hw : w < 6) (hwv : wv < 2 ^ 30) (hPb : ∀ k, k < 25 → (P k).1 < 2 ^ 30) (ha : 3000 ≤ a) (h73 : ∀ z, z < 6 → j 73 z = lN (lay (GdM S l t w) z)) : ∀ (d k fu : Nat) (m : IM), k + d = 25 → d < fu → SB m → MO m j u a l → OF m wv q l t w → (∀ b, b < 3 → m 74 b = nI (fx l t w b)) → (∀ i, i < 25 → PK m i (if i < k then stW wv (prt S i) q l t w (P i) else P i)) →
    ∃ m', (∀ K, F_X7_offerWays_L46 70 b a (nI w) K fu (nI k) (pm m j u) = K (pm m' j u)) ∧ FS m m' ∧ OF m' wv q l t w ∧ ∀ i, i < 25 → PK m' i (stW wv (prt S i) q l t w (P i)) := by
  intro d
  induction d with
  | zero =>
    intro k fu m hk hfu hB hMO hO h74 hK
    obtain ⟨fu, rfl⟩ : ∃ g, fu = g + 1 := ⟨fu - 1, by omega⟩
    have e : k = 25 := by omega
    subst e
    refine ⟨m, fun K => ?_, FS_rf, hO, fun i hi => by have := hK i hi; rw [if_pos hi] at this; exact this⟩
    rw [F_X7_offerWays_L46]
    simp (disch := omega) only [e_cl, e_jn, e_lt, e_cxl, e_cxr, e_rzn, ↓l_m1, ↓l_m2, ↓l_m8, l_0, l_1, l_2, l_3, l_4, l_5, l_6, l_7, l_8, l_9, l_10, l_12, l_16, l_20, l_24, l_31, l_32, l_35, l_36, l_40, l_44, l_48, l_59, l_63, l_64, l_90, l_95, l_96, l_100, l_120, l_127, l_200, l_216, l_255, l_999, l_1000, l_10000, l_1000000, l_1048575, l_1000000000, nI_add, pk_mul, pk_sub, nI_leI, nI_ltI, nI_eq, nI_dec, nI_o0, mx_n, mn_n, ab_1, ab_n, e_u2e, e_u2k, e_u2a, if_pos, if_neg, if_true, if_false, not_true, not_false_eq_true, ne_eq, Nat.add_zero, Nat.zero_add, cG_70 hc, cP_70 hc, cT_70 hc, cR_70_0 hc, cR_70_1 hc, cR_70_2 hc, cA_73 hc, cS_73 hc, cR_70_3 hc, cA_74 hc, cS_74 hc, cL_71 hc]
  | succ d ih =>
    intro k fu m hk hfu hB hMO hO h74 hK
    obtain ⟨fu, rfl⟩ : ∃ g, fu = g + 1 := ⟨fu - 1, by omega⟩
    have hk25 : k < 25 := by omega
    have hKk := hK k hk25
    rw [if_neg (Nat.lt_irrefl k)] at hKk
    obtain ⟨m1, a1, a2, a3, a4⟩ := C_offerTo (j := j) (q := q) hc hM h1 h2 hw hk25 hwv (hPb k hk25) hMO ha hB.1 (hB.2 k hk25) h73 h74 hO hKk
    have f1 : FS m m1 := fun b g1 g2 g3 => a2 b g1 (by omega)
    obtain ⟨o0, o1, o2, o3, o7⟩ := hO
    have hO1 : OF m1 wv q l t w := ⟨by rw [a3 0 (by decide) (by decide) (by decide)]; exact o0, by rw [a3 1 (by decide) (by decide) (by decide)]; exact o1, by rw [a3 2 (by decide) (by decide) (by decide)]; exact o2, by rw [a3 3 (by decide) (by decide) (by decide)]; exact o3, by rw [a3 7 (by decide) (by decide) (by decide)]; exact o7⟩
    obtain ⟨m', i1, i2, i3, i4⟩ := ih (k + 1) fu m1 (by omega) (by omega) (SB_fr hB f1) (MO_FS hMO ha f1 (fun _ _ => rfl)) hO1 (fun b hb => by rw [a2 74 (by decide) (by omega)]; exact h74 b hb) (fun i hi => by
      by_cases e : i = k
      · subst e
        rw [if_pos (by omega)]; exact a4
      · have := hK i hi
        unfold PK at this ⊢
        rw [a2 (1071 + 2 * i) (by omega) (by omega)]
        by_cases c : i < k
        · rw [if_pos c] at this
          rw [if_pos (by omega)]; exact this
        · rw [if_neg c] at this
          rw [if_neg (by omega)]; exact this)
    refine ⟨m', fun K => ?_, FS_tr f1 i2, i3, i4⟩
    rw [← i1 K, F_X7_offerWays_L46]
    simp (disch := omega) only [e_cl, e_jn, e_lt, e_cxl, e_cxr, e_rzn, ↓l_m1, ↓l_m2, ↓l_m8, l_0, l_1, l_2, l_3, l_4, l_5, l_6, l_7, l_8, l_9, l_10, l_12, l_16, l_20, l_24, l_31, l_32, l_35, l_36, l_40, l_44, l_48, l_59, l_63, l_64, l_90, l_95, l_96, l_100, l_120, l_127, l_200, l_216, l_255, l_999, l_1000, l_10000, l_1000000, l_1048575, l_1000000000, nI_add, pk_mul, pk_sub, nI_leI, nI_ltI, nI_eq, nI_dec, nI_o0, mx_n, mn_n, ab_1, ab_n, e_u2e, e_u2k, e_u2a, if_pos, if_neg, if_true, if_false, not_true, not_false_eq_true, ne_eq, Nat.add_zero, Nat.zero_add, cG_70 hc, cP_70 hc, cT_70 hc, cR_70_0 hc, cR_70_1 hc, cR_70_2 hc, cA_73 hc, cS_73 hc, cR_70_3 hc, cA_74 hc, cS_74 hc, cL_71 hc, cA_71 hc, a1]
theorem C_ways (hc : CS u) {t q a ra wv : Nat} {l : List Lay} {S : Nat → Bool} {P : Nat → CT} (hM : okM l) (h1 : 1 ≤ t) (h2 : t ≤ gre l) (hwv : wv < 2 ^ 30) (hPb : ∀ k, k < 25 → (P k).1 < 2 ^ 30) (ha : 3000 ≤ a) (hra : 2000 ≤ ra) (hra2 : ra < 3000) (hR : RoO u ra) : ∀ (d w fu : Nat) (m : IM) (j : JM), w + d = 6 → d < fu → SB m → MO m j u a l → (∀ z, z < 6 → j (ra + 1) z = lN (lay S z)) → (m 72 0 = nI wv ∧ m 72 1 = nI q ∧ m 72 2 = nI t ∧ m 72 7 = nI (tot l * t * t * t)) → (∀ i, i < 25 → PK m i (stV wv (prt S i) q l t w (P i))) →
    ∃ m' j', (∀ K, F_X7_offerWays_L2 70 ra a K fu (nI w) (pm m j u) = K (pm m' j' u)) ∧ FS m m' ∧ (∀ b, b ≠ 73 → j' b = j b) ∧ m' 72 1 = nI q ∧ ∀ i, i < 25 → PK m' i (stV wv (prt S i) q l t 6 (P i)) := by
  intro d
  induction d with
  | zero =>
    intro w fu m j hw hfu hB hMO hS hO hK
    obtain ⟨fu, rfl⟩ : ∃ g, fu = g + 1 := ⟨fu - 1, by omega⟩
    have e : w = 6 := by omega
    subst e
    refine ⟨m, j, fun K => ?_, FS_rf, fun _ _ => rfl, hO.2.1, hK⟩
    rw [F_X7_offerWays_L2]
    simp (disch := omega) only [e_cl, e_jn, e_lt, e_cxl, e_cxr, e_rzn, ↓l_m1, ↓l_m2, ↓l_m8, l_0, l_1, l_2, l_3, l_4, l_5, l_6, l_7, l_8, l_9, l_10, l_12, l_16, l_20, l_24, l_31, l_32, l_35, l_36, l_40, l_44, l_48, l_59, l_63, l_64, l_90, l_95, l_96, l_100, l_120, l_127, l_200, l_216, l_255, l_999, l_1000, l_10000, l_1000000, l_1048575, l_1000000000, nI_add, pk_mul, pk_sub, nI_leI, nI_ltI, nI_eq, nI_dec, nI_o0, mx_n, mn_n, ab_1, ab_n, e_u2e, e_u2k, e_u2a, if_pos, if_neg, if_true, if_false, not_true, not_false_eq_true, ne_eq, Nat.add_zero, Nat.zero_add]
  | succ d ih =>
    intro w fu m j hw hfu hB hMO hS hO hK
    obtain ⟨fu, rfl⟩ : ∃ g, fu = g + 1 := ⟨fu - 1, by omega⟩
    obtain ⟨o0, o1, o2, o7⟩ := hO
    have hw6 : w < 6 := by omega
    have g6 := gre_le (l := l)
    have hPw : ∀ k, k < 25 → (stV wv (prt S k) q l t w (P k)).1 < 2 ^ 30 := fun k hk => Nat.lt_of_le_of_lt (stV_b (M := 2 ^ 30 - 1) (by omega) (by have := hPb k hk; omega)) (by decide)
    rcases C_want (j := j) hc hwv hPw o0 hK with ⟨w1, w2⟩ | w1
    · refine ⟨m, j, fun K => ?_, FS_rf, fun _ _ => rfl, o1, fun i hi => ?_⟩
      · rw [F_X7_offerWays_L2]
        simp (disch := omega) only [e_cl, e_jn, e_lt, e_cxl, e_cxr, e_rzn, ↓l_m1, ↓l_m2, ↓l_m8, l_0, l_1, l_2, l_3, l_4, l_5, l_6, l_7, l_8, l_9, l_10, l_12, l_16, l_20, l_24, l_31, l_32, l_35, l_36, l_40, l_44, l_48, l_59, l_63, l_64, l_90, l_95, l_96, l_100, l_120, l_127, l_200, l_216, l_255, l_999, l_1000, l_10000, l_1000000, l_1048575, l_1000000000, nI_add, pk_mul, pk_sub, nI_leI, nI_ltI, nI_eq, nI_dec, nI_o0, mx_n, mn_n, ab_1, ab_n, e_u2e, e_u2k, e_u2a, if_pos, if_neg, if_true, if_false, not_true, not_false_eq_true, ne_eq, Nat.add_zero, Nat.zero_add, cG_70 hc, cP_70 hc, cT_70 hc, cR_70_0 hc, cR_70_1 hc, cR_70_2 hc, cA_73 hc, cS_73 hc, cR_70_3 hc, cA_74 hc, cS_74 hc, w1]
      · rw [← stV_end (by omega) (w2 i hi)]; exact hK i hi
    · obtain ⟨m1, em1⟩ : ∃ m1, m1 = u2 m 72 3 (nI w) := ⟨_, rfl⟩
      have f1 : FS m m1 := by rw [em1]; exact FS_72
      have hB1 := SB_fr hB f1
      have hMO1 := MO_FS (j' := j) hMO ha f1 (fun _ _ => rfl)
      obtain ⟨m2, j2, a1, a2, a3, a4, a5⟩ := C_search (m := m1) (j := j) hc hM hMO1.1 hR ha hra h1 h2 hw6 hB1.1 (fun b hb => (hMO1.2.2.2.1 b hb).2) (fun z hz => hMO1.2.2.2.2 t w z h1 h2 hw6 hz) hS
      have f2 : FS m m2 := FS_tr f1 (fun b _ g _ => a2 b g)
      have e72 : ∀ i, i ≠ 3 → m2 72 i = m 72 i := fun i hi => by rw [a2 72 (by decide), em1, e_u2k hi]
      have hO2 : OF m2 wv q l t w := ⟨by rw [e72 0 (by decide)]; exact o0, by rw [e72 1 (by decide)]; exact o1, by rw [e72 2 (by decide)]; exact o2, by rw [a2 72 (by decide), em1, e_u2s], by rw [e72 7 (by decide)]; exact o7⟩
      have hK2 : ∀ i, i < 25 → PK m2 i (stV wv (prt S i) q l t w (P i)) := fun i hi => by
        have := hK i hi
        unfold PK at this ⊢
        rw [a2 (1071 + 2 * i) (by omega), em1, e_u2r (by omega)]
        exact this
      have o2' : m1 72 2 = nI t := by rw [em1, e_u2k (by decide)]; exact o2
      by_cases c : fitW S l t w < 216
      · rw [decide_eq_true c] at a1
        obtain ⟨m3, b1, b2, b3, b4⟩ := C_L46 (j := j2) (b := ra) (q := q) hc hM h1 h2 hw6 hwv hPw ha a4 25 0 LF m2 (by omega) (by unfold LF; omega) (SB_fr hB f2) (MO_FS hMO ha f2 a3) hO2 a5 (fun i hi => by rw [if_neg (by omega)]; exact hK2 i hi)
        have f3 := FS_tr f2 b2
        obtain ⟨m', j', i1, i2, i3, i4, i5⟩ := ih (w + 1) fu m3 j2 (by omega) (by omega) (SB_fr hB f3) (MO_FS hMO ha f3 a3) (fun z hz => by rw [a3 _ (by omega)]; exact hS z hz) ⟨b3.1, b3.2.1, b3.2.2.1, b3.2.2.2.2⟩ (fun i hi => by rw [← stV_s]; exact b4 i hi)
        refine ⟨m', j', fun K => ?_, FS_tr f3 i2, fun b hb => by rw [i3 b hb, a3 b hb], i4, i5⟩
        rw [em1] at a1 o2'
        rw [← i1 K, F_X7_offerWays_L2]
        simp (disch := omega) only [e_cl, e_jn, e_lt, e_cxl, e_cxr, e_rzn, ↓l_m1, ↓l_m2, ↓l_m8, l_0, l_1, l_2, l_3, l_4, l_5, l_6, l_7, l_8, l_9, l_10, l_12, l_16, l_20, l_24, l_31, l_32, l_35, l_36, l_40, l_44, l_48, l_59, l_63, l_64, l_90, l_95, l_96, l_100, l_120, l_127, l_200, l_216, l_255, l_999, l_1000, l_10000, l_1000000, l_1048575, l_1000000000, nI_add, pk_mul, pk_sub, nI_leI, nI_ltI, nI_eq, nI_dec, nI_o0, mx_n, mn_n, ab_1, ab_n, e_u2e, e_u2k, e_u2a, if_pos, if_neg, if_true, if_false, not_true, not_false_eq_true, ne_eq, Nat.add_zero, Nat.zero_add, cG_70 hc, cP_70 hc, cT_70 hc, cR_70_0 hc, cR_70_1 hc, cR_70_2 hc, cA_73 hc, cS_73 hc, cR_70_3 hc, cA_74 hc, cS_74 hc, cG_72 hc, cP_72 hc, cT_72 hc, oG hR, oP hR, oZ hR, oT hR, oR0 hR, oR6 hR, oR7 hR, oA hR, oS hR, oG2 hR, oP2 hR, oT2 hR, oG3 hR, oP3 hR, oT3 hR, w1, o2', o2, a1, b1, Bool.toNat_true]
      · rw [decide_eq_false c] at a1
        obtain ⟨m', j', i1, i2, i3, i4, i5⟩ := ih (w + 1) fu m2 j2 (by omega) (by omega) (SB_fr hB f2) (MO_FS hMO ha f2 a3) (fun z hz => by rw [a3 _ (by omega)]; exact hS z hz) ⟨hO2.1, hO2.2.1, hO2.2.2.1, hO2.2.2.2.2⟩ (fun i hi => by
          have hno : ¬ fitW (prt S i) l t w < 216 := fun z => by
            obtain ⟨p, p1, p2⟩ := ff_lt.mp z
            exact c (ff_lt.mpr ⟨p, p1, GdM_mono prt_sub p2⟩)
          have e : stV wv (prt S i) q l t (w + 1) (P i) = stV wv (prt S i) q l t w (P i) := by
            rw [← stV_s]; exact if_neg (fun z => hno z.2)
          rw [e]; exact hK2 i hi)
        refine ⟨m', j', fun K => ?_, FS_tr f2 i2, fun b hb => by rw [i3 b hb, a3 b hb], i4, i5⟩
        rw [em1] at a1 o2'
        rw [← i1 K, F_X7_offerWays_L2]
        simp (disch := omega) only [e_cl, e_jn, e_lt, e_cxl, e_cxr, e_rzn, ↓l_m1, ↓l_m2, ↓l_m8, l_0, l_1, l_2, l_3, l_4, l_5, l_6, l_7, l_8, l_9, l_10, l_12, l_16, l_20, l_24, l_31, l_32, l_35, l_36, l_40, l_44, l_48, l_59, l_63, l_64, l_90, l_95, l_96, l_100, l_120, l_127, l_200, l_216, l_255, l_999, l_1000, l_10000, l_1000000, l_1048575, l_1000000000, nI_add, pk_mul, pk_sub, nI_leI, nI_ltI, nI_eq, nI_dec, nI_o0, mx_n, mn_n, ab_1, ab_n, e_u2e, e_u2k, e_u2a, if_pos, if_neg, if_true, if_false, not_true, not_false_eq_true, ne_eq, Nat.add_zero, Nat.zero_add, cG_70 hc, cP_70 hc, cT_70 hc, cR_70_0 hc, cR_70_1 hc, cR_70_2 hc, cA_73 hc, cS_73 hc, cR_70_3 hc, cA_74 hc, cS_74 hc, cG_72 hc, cP_72 hc, cT_72 hc, oG hR, oP hR, oZ hR, oT hR, oR0 hR, oR6 hR, oR7 hR, oA hR, oS hR, oG2 hR, oP2 hR, oT2 hR, oG3 hR, oP3 hR, oT3 hR, w1, o2', o2, a1, Bool.toNat_false]
end CWY
