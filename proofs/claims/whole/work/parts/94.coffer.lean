/-! ===== the class: offers to the parts ===== -/
section COF
variable {m : IM} {j : JM} {u : SU}
theorem zle {a c d : Nat} (ha : a < 2 ^ 30) (hc : c < 2 ^ 30) (hd : d < 2 ^ 30) : nI a ≤ nI c - nI d ↔ a + d ≤ c := by
  rw [fa_le, pk_sub_toInt hc hd, nI_toInt (by omega)]; omega
theorem full_w {p : Nat → Bool} (h : ∀ i, i < 36 → p i = true) : (68719476735 : Int64) = lN (bN p 36) := by
  have e : bN p 36 = 68719476735 := by
    rw [bN_cong (q := fun _ => true) h]; decide
  rw [e]; rfl
/-- the rows of a part's starts -/
theorem C_fwL (hc : CS u) {t w k wt : Nat} {l : List Lay} {S : Nat → Bool} (hM : okM l) (h1 : 1 ≤ t) (hw : w < 6) (hk : k < 25) (hL : ptL k + fx l t w (ptA k) ≤ ptH k) (hP : m (1070 + 2 * k) 0 = nI (ptA k) ∧ m (1070 + 2 * k) 1 = nI (ptL k) ∧ m (1070 + 2 * k) 2 = nI (ptH k)) (h73 : ∀ z, z < 6 → j 73 z = lN (lay (GdM S l t w) z)) (hwt : wt = bN (wtB (ptA k) (ptL k) (ptH k - fx l t w (ptA k))) 36) (K1 : PM → Option (Int32 × PM)) (K2 : Int32 → Int64 → PM → Option (Int32 × PM)) : ∀ (d z fu : Nat), z + d = 6 → d < fu → 36 * z ≤ fitW (prt S k) l t w →
    F_X7_firstWithin_L72 70 (1070 + 2 * k) (nI (ptH k - fx l t w (ptA k))) (lN wt) K1 K2 fu (nI z) (pm m j u) = if fitW (prt S k) l t w < 216 then K2 (nI (fitW (prt S k) l t w / 36)) (lN (lay (GdM (prt S k) l t w) (fitW (prt S k) l t w / 36))) (pm m j u) else K1 (pm m j u) := by
  obtain ⟨b1, b2, b3, b4⟩ := pt_b hk
  obtain ⟨p0, p1, p2⟩ := hP
  have hle : fitW (prt S k) l t w ≤ 216 := fa_first_le _ _
  intro d
  induction d with
  | zero =>
    intro z fu hz hfu hfp
    obtain ⟨fu, rfl⟩ : ∃ g, fu = g + 1 := ⟨fu - 1, by omega⟩
    have e : z = 6 := by omega
    subst e
    rw [if_neg (by omega), F_X7_firstWithin_L72]
    simp (disch := omega) only [e_cl, e_jn, e_lt, e_cxl, e_cxr, e_rzn, ↓l_m1, ↓l_m2, ↓l_m8, l_0, l_1, l_2, l_3, l_4, l_5, l_6, l_7, l_8, l_9, l_10, l_12, l_16, l_20, l_24, l_31, l_32, l_35, l_36, l_40, l_44, l_48, l_59, l_63, l_64, l_90, l_95, l_96, l_100, l_120, l_127, l_200, l_216, l_255, l_999, l_1000, l_10000, l_1000000, l_1048575, l_1000000000, nI_add, pk_mul, pk_sub, nI_leI, nI_ltI, nI_eq, nI_dec, nI_o0, mx_n, mn_n, ab_1, ab_n, e_u2e, e_u2k, e_u2a, if_pos, if_neg, if_true, if_false, not_true, not_false_eq_true, ne_eq, Nat.add_zero, Nat.zero_add]
  | succ d ih =>
    intro z fu hz hfu hfp
    obtain ⟨fu, rfl⟩ : ∃ g, fu = g + 1 := ⟨fu - 1, by omega⟩
    have hrow := prt_row (S := S) (z := z) hM h1 hw hk hL
    rw [← hwt] at hrow
    have h7 := h73 z (by omega)
    have hl := lay_lt (GdM (prt S k) l t w) z
    have l0 := lN0 hl
    have tail : ∀ hit : Int64, hit = lN (lay (GdM (prt S k) l t w) z) → (if (lg_cmp hit 0) = 0 then (F_X7_firstWithin_L72 70 (1070 + 2 * k) (nI (ptH k - fx l t w (ptA k))) (lN wt) K1 K2 fu (nI z + 1) (pm m j u)) else (K2 (nI z) hit (pm m j u))) = if fitW (prt S k) l t w < 216 then K2 (nI (fitW (prt S k) l t w / 36)) (lN (lay (GdM (prt S k) l t w) (fitW (prt S k) l t w / 36))) (pm m j u) else K1 (pm m j u) := fun hit e => by
      rw [e, show nI z + 1 = nI (z + 1) from nI_1 z]
      by_cases c : lay (GdM (prt S k) l t w) z = 0
      · rw [if_pos (l0.mpr c)]
        refine ih (z + 1) fu (by omega) (by omega) (Classical.byContradiction fun y => ?_)
        have hy := fa_first_yes (GdM (prt S k) l t w) 216 (show fitW (prt S k) l t w < 216 by omega)
        have hz := lay_z.mp c (fitW (prt S k) l t w - 36 * z) (by omega)
        rw [show 36 * z + (fitW (prt S k) l t w - 36 * z) = fitW (prt S k) l t w by omega] at hz
        rw [show GdM (prt S k) l t w (fitW (prt S k) l t w) = true from hy] at hz
        cases hz
      · rw [if_neg (fun y => c (l0.mp y))]
        have hlt : fitW (prt S k) l t w < 36 * z + 36 := Classical.byContradiction fun y => c (lay_z.mpr (fun i hi => fa_first_no (GdM (prt S k) l t w) 216 (36 * z + i) (show 36 * z + i < fitW (prt S k) l t w by omega)))
        rw [if_pos (by omega), show fitW (prt S k) l t w / 36 = z by omega]
    rw [F_X7_firstWithin_L72, if_neg (show ¬ (6 : Int32) ≤ nI z from nI_ge (b := 6) (by omega) (by decide)), cG_pt hc hk, p0, e_jn, e_jn]
    by_cases ca : ptA k = 2
    · rw [if_neg (show ¬ ¬ nI (ptA k) = 2 from fun y => y (by rw [ca]; rfl)), cG_pt hc hk, p1, e_jn]
      by_cases cl1 : z < ptL k
      · rw [if_pos (⟨ca, Or.inl cl1⟩ : ptA k = 2 ∧ (z < ptL k ∨ ptH k - fx l t w (ptA k) < z))] at hrow
        rw [if_pos (nI_lt cl1 (by omega))]
        dsimp only
        rw [e_jn, if_neg (show ¬ (1 : Int32) = 0 by decide)]
        exact tail _ (by rw [hrow]; rfl)
      · rw [if_neg (fun y => cl1 ((nI_ltI (by omega) (by omega)).mp y))]
        by_cases cl2 : z ≤ ptH k - fx l t w (ptA k)
        · rw [if_neg (show ¬ (ptA k = 2 ∧ (z < ptL k ∨ ptH k - fx l t w (ptA k) < z)) from fun y => by omega)] at hrow
          rw [if_pos (nI_le cl2 (by omega))]
          dsimp only
          rw [e_jn, if_pos rfl, cR_70_2 hc, cA_73 hc (by omega), h7, fb_andL]
          exact tail _ (by rw [hrow])
        · rw [if_pos (⟨ca, Or.inr (by omega)⟩ : ptA k = 2 ∧ (z < ptL k ∨ ptH k - fx l t w (ptA k) < z))] at hrow
          rw [if_neg (fun y => cl2 ((nI_leI (by omega) (by omega)).mp y))]
          dsimp only
          rw [e_jn, if_neg (show ¬ (1 : Int32) = 0 by decide)]
          exact tail _ (by rw [hrow]; rfl)
    · rw [if_neg (show ¬ (ptA k = 2 ∧ (z < ptL k ∨ ptH k - fx l t w (ptA k) < z)) from fun y => ca y.1)] at hrow
      rw [if_pos (show ¬ nI (ptA k) = 2 from fun y => ca ((nI_eq (b := 2) (by omega) (by decide)).mp y))]
      dsimp only
      rw [e_jn, if_pos rfl, cR_70_2 hc, cA_73 hc (by omega), h7, fb_andL]
      exact tail _ (by rw [hrow])
theorem C_first (hc : CS u) {t w k : Nat} {l : List Lay} {S : Nat → Bool} (hM : okM l) (h1 : 1 ≤ t) (h2 : t ≤ gre l) (hw : w < 6) (hk : k < 25) (hP : m (1070 + 2 * k) 0 = nI (ptA k) ∧ m (1070 + 2 * k) 1 = nI (ptL k) ∧ m (1070 + 2 * k) 2 = nI (ptH k)) (h73 : ∀ z, z < 6 → j 73 z = lN (lay (GdM S l t w) z)) (h74 : ∀ b, b < 3 → m 74 b = nI (fx l t w b)) : F_X7_firstWithin 70 (1070 + 2 * k) (pm m j u) = some (oI (if fitW (prt S k) l t w < 216 then fitW (prt S k) l t w + 1 else 0), pm m j u) := by
  obtain ⟨b1, b2, b3, b4⟩ := pt_b hk
  obtain ⟨p0, p1, p2⟩ := hP
  have hsp := (gre_iff.mp h2).2
  have hf := hsp _ (tu_lt w hw (ptA k) b1).1
  have hf : fx l t w (ptA k) ≤ 6 := hf
  have hpos : 1 ≤ fx l t w (ptA k) := Nat.mul_le_mul h1 (sp_b_ hM (tu w (ptA k))).1
  have e4 := h74 (ptA k) b1
  have zz := zle (a := ptL k) (c := ptH k) (d := fx l t w (ptA k)) (by omega) (by omega) (by omega)
  unfold F_X7_firstWithin
  rw [cG_pt hc hk, p2, cR_70_3 hc, cG_pt hc hk, p0, cA_74 hc b1, e4, e_lt, cG_pt hc hk, p1]
  by_cases cL : ptL k + fx l t w (ptA k) ≤ ptH k
  · rw [if_pos (zz.mpr cL), pk_sub (show fx l t w (ptA k) ≤ ptH k by omega), cG_pt hc hk, p0, e_jn]
    have fin : ∀ wt, wt = bN (wtB (ptA k) (ptL k) (ptH k - fx l t w (ptA k))) 36 → (jn (fun (h10 : PM) => some ((-1 : Int32), h10)) fun k154 => jn (fun (v11 : Int32) (v12 : Int64) (h13 : PM) => cl (F_X11_lowestBit v12 h13) fun r14 h15 => some ((36 * v11) + r14, h15)) fun k136 => F_X7_firstWithin_L72 70 (1070 + 2 * k) (nI (ptH k - fx l t w (ptA k))) (lN wt) k154 k136 LF 0 (pm m j u)) = some (oI (if fitW (prt S k) l t w < 216 then fitW (prt S k) l t w + 1 else 0), pm m j u) := fun wt hwt => by
      rw [e_jn, e_jn, show (0 : Int32) = nI 0 from rfl, C_fwL hc hM h1 hw hk cL ⟨p0, p1, p2⟩ h73 hwt _ _ 6 0 LF (by omega) (by unfold LF; omega) (by omega)]
      by_cases c : fitW (prt S k) l t w < 216
      · rw [if_pos c, if_pos c]
        have hy := fa_first_yes (GdM (prt S k) l t w) 216 c
        have hlb : LB (lay (GdM (prt S k) l t w) (fitW (prt S k) l t w / 36)) (fitW (prt S k) l t w % 36) := by
          refine ⟨?_, fun i hi => ?_⟩
          · rw [lay_tb _ (by omega), show 36 * (fitW (prt S k) l t w / 36) + fitW (prt S k) l t w % 36 = fitW (prt S k) l t w by omega]; exact hy
          · rw [lay_tb _ (by omega)]
            exact fa_first_no (GdM (prt S k) l t w) 216 _ (show 36 * (fitW (prt S k) l t w / 36) + i < fitW (prt S k) l t w by omega)
        have hl := lay_lt (GdM (prt S k) l t w) (fitW (prt S k) l t w / 36)
        rw [C_lowestBit hlb (by omega), e_cl, show (36 : Int32) = nI 36 from rfl, pk_mul, nI_add, show 36 * (fitW (prt S k) l t w / 36) + fitW (prt S k) l t w % 36 = fitW (prt S k) l t w by omega, oI_s]
      · rw [if_neg c, if_neg c, oI_0]
    rcases (show ptA k = 0 ∨ ptA k = 1 ∨ ptA k = 2 by omega) with e | e | e
    · rw [if_neg (show ¬ ¬ nI (ptA k) = 0 from fun y => y (by rw [e]; rfl)), cG_pt hc hk, p1, show (0 : Int32) = nI 0 from rfl, show (5 : Int32) = nI 5 from rfl, C_block (by omega) (by omega) (by omega) (by omega), e_cl]
      rw [show (0 : Int32) = nI 0 from rfl] at fin
      exact fin _ (by rw [e]; exact bN_cong (fun i _ => rfl))
    · rw [if_pos (show ¬ nI (ptA k) = 0 by rw [e]; decide), cG_pt hc hk, p0, if_neg (show ¬ ¬ nI (ptA k) = 1 from fun y => y (by rw [e]; rfl)), cG_pt hc hk, p1, show (0 : Int32) = nI 0 from rfl, show (5 : Int32) = nI 5 from rfl, C_block (by omega) (by omega) (by omega) (by omega), e_cl]
      rw [show (0 : Int32) = nI 0 from rfl] at fin
      exact fin _ (by rw [e]; exact bN_cong (fun i _ => rfl))
    · rw [if_pos (show ¬ nI (ptA k) = 0 by rw [e]; decide), cG_pt hc hk, p0, if_pos (show ¬ nI (ptA k) = 1 by rw [e]; decide), full_w (p := wtB (ptA k) (ptL k) (ptH k - fx l t w (ptA k))) (fun i _ => by unfold wtB; rw [e, if_neg (by decide), if_neg (by decide)])]
      exact fin _ rfl
  · rw [if_neg (fun y => cL (zz.mp y)), prt_none hM h1 hw hk cL, if_neg (by decide), oI_0]
/-! offers -/
def PK (m : IM) (k : Nat) (ct : CT) : Prop := m (1071 + 2 * k) 0 = nI ct.1 ∧ (ct.1 ≠ 0 → ∀ i, i < 7 → m (1071 + 2 * k) (i + 1) = ct.2 i)
def stW (wv : Nat) (S : Nat → Bool) (q : Nat) (l : List Lay) (t w : Nat) (ct : CT) : CT := if ct.1 < wv ∧ fitW S l t w < 216 then (wv, cfF q l t w (fitW S l t w)) else ct
/-- what is offered -/
def OF (m : IM) (wv q : Nat) (l : List Lay) (t w : Nat) : Prop := m 72 0 = nI wv ∧ m 72 1 = nI q ∧ m 72 2 = nI t ∧ m 72 3 = nI w ∧ m 72 7 = nI (tot l * t * t * t)
theorem C_take (hc : CS u) {k : Nat} (hk : k < 25) : ∃ m', F_X1_take (1071 + 2 * k) 72 (pm m j u) = some ((), pm m' j u) ∧ (∀ b, b ≠ 1071 + 2 * k → m' b = m b) ∧ ∀ i, i < 8 → m' (1071 + 2 * k) i = m 72 i := by
  refine ⟨u2 (u2 (u2 (u2 (u2 (u2 (u2 (u2 m (1071 + 2 * k) 0 (m 72 0)) (1071 + 2 * k) 1 (m 72 1)) (1071 + 2 * k) 2 (m 72 2)) (1071 + 2 * k) 3 (m 72 3)) (1071 + 2 * k) 4 (m 72 4)) (1071 + 2 * k) 5 (m 72 5)) (1071 + 2 * k) 6 (m 72 6)) (1071 + 2 * k) 7 (m 72 7), ?_, fun b hb => ?_, fun i hi => ?_⟩
  · unfold F_X1_take
    simp (disch := omega) only [cG_72 hc, cP_pc hc, e_u2a]
  · rw [e_u2r hb, e_u2r hb, e_u2r hb, e_u2r hb, e_u2r hb, e_u2r hb, e_u2r hb, e_u2r hb]
  · rcases (show i = 0 ∨ i = 1 ∨ i = 2 ∨ i = 3 ∨ i = 4 ∨ i = 5 ∨ i = 6 ∨ i = 7 by omega) with rfl | rfl | rfl | rfl | rfl | rfl | rfl | rfl <;> simp (disch := omega) only [e_u2k, e_u2s]
theorem C_offerTo (hc : CS u) {t w k q a wv : Nat} {l : List Lay} {S : Nat → Bool} {ct : CT} (hM : okM l) (h1 : 1 ≤ t) (h2 : t ≤ gre l) (hw : w < 6) (hk : k < 25) (hwv : wv < 2 ^ 30) (hct : ct.1 < 2 ^ 30) (hMO : MO m j u a l) (ha : 3000 ≤ a) (hT : TU m) (hP : m (1070 + 2 * k) 0 = nI (ptA k) ∧ m (1070 + 2 * k) 1 = nI (ptL k) ∧ m (1070 + 2 * k) 2 = nI (ptH k)) (h73 : ∀ z, z < 6 → j 73 z = lN (lay (GdM S l t w) z)) (h74 : ∀ b, b < 3 → m 74 b = nI (fx l t w b)) (hO : OF m wv q l t w) (hPK : PK m k ct) :
    ∃ m', F_X7_offerTo 70 (1070 + 2 * k) a (pm m j u) = some ((), pm m' j u) ∧ (∀ b, b ≠ 72 → b ≠ 1071 + 2 * k → m' b = m b) ∧ (∀ i, i ≠ 4 → i ≠ 5 → i ≠ 6 → m' 72 i = m 72 i) ∧ PK m' k (stW wv (prt S k) q l t w ct) := by
  have t6 := (gre_iff.mp h2).1
  have hfw := C_first (j := j) hc hM h1 h2 hw hk hP h73 h74
  obtain ⟨o0, o1, o2, o3, o7⟩ := hO
  obtain ⟨k0, k1⟩ := hPK
  have hle : fitW (prt S k) l t w ≤ 216 := fa_first_le _ _
  by_cases c1 : ct.1 < wv
  · by_cases c2 : fitW (prt S k) l t w < 216
    · rw [if_pos c2, oI_s] at hfw
      have est : stW wv (prt S k) q l t w ct = (wv, cfF q l t w (fitW (prt S k) l t w)) := if_pos ⟨c1, c2⟩
      rw [est]
      have t0 := hT w hw 0 (by decide)
      have t1 := hT w hw 1 (by decide)
      have t2 := hT w hw 2 (by decide)
      have g0 := (tu_lt w hw 0 (by decide)).1
      have g1 := (tu_lt w hw 1 (by decide)).1
      have g2 := (tu_lt w hw 2 (by decide)).1
      have l0 := (hMO.2.2.2.1 _ g0).1
      have l1 := (hMO.2.2.2.1 _ g1).1
      have l2 := (hMO.2.2.2.1 _ g2).1
      have hMoO := hMO.1
      generalize hfp : fitW (prt S k) l t w = p at *
      have x0 : p - p / 6 * 6 = p % 6 := by omega
      have x1 : p / 6 - p / 6 / 6 * 6 = p / 6 % 6 := by omega
      obtain ⟨m1, em1⟩ : ∃ m1, m1 = u2 (u2 (u2 m 72 4 (nI (p % 6) - nI (t * le_ l (tu w 0)))) 72 5 (nI (p / 6 % 6) - nI (t * le_ l (tu w 1)))) 72 6 (nI (p / 36) - nI (t * le_ l (tu w 2))) := ⟨_, rfl⟩
      obtain ⟨m2, a1, a2, a3⟩ := C_take (m := m1) (j := j) hc hk
      have k72 : ∀ i, i ≠ 4 → i ≠ 5 → i ≠ 6 → m1 72 i = m 72 i := fun i g1 g2 g3 => by rw [em1, e_u2k g3, e_u2k g2, e_u2k g1]
      refine ⟨m2, ?_, fun b g1 g2 => by rw [a2 b g2, em1, e_u2r g1, e_u2r g1, e_u2r g1], fun i g1 g2 g3 => by rw [a2 72 (by omega), k72 i g1 g2 g3], ?_, fun _ i hi => ?_⟩
      · rw [em1] at a1
        unfold F_X7_offerTo
        rw [cR_70_1 hc, cG_72 hc, o0, cR_pt hc hk, cG_pc hc hk, k0, e_jn, if_neg (nI_ge c1 (by omega)), cT_70 hc, hfw, e_cl]
        dsimp only
        rw [Nat.add_zero] at t0 l0
        simp (disch := omega) only [e_jn, ↓l_m1, l_3, l_6, l_36, l_1, l_2, nI_o0, if_false, cR_70_1 hc, cG_72 hc, cP_72 hc, e_lt, pk_mul, nI_add, pk_div, pk_sub, x0, x1, e_dv (show nI 6 ≠ 0 by decide), e_dv (show nI 36 ≠ 0 by decide), mR0 hMoO, mA1 hMoO, cA_1 hc, e_u2k, e_u2a, e_u2s, o2, o3, t0, t1, t2, l0, l1, l2, cR_pt hc, cT_pc hc, a1, e_cl]
      · rw [a3 0 (by decide), k72 0 (by decide) (by decide) (by decide)]; exact o0
      · rcases (show i = 0 ∨ i = 1 ∨ i = 2 ∨ i = 3 ∨ i = 4 ∨ i = 5 ∨ i = 6 by omega) with rfl | rfl | rfl | rfl | rfl | rfl | rfl
        · rw [a3 1 (by decide), k72 1 (by decide) (by decide) (by decide)]; exact o1
        · rw [a3 2 (by decide), k72 2 (by decide) (by decide) (by decide)]; exact o2
        · rw [a3 3 (by decide), k72 3 (by decide) (by decide) (by decide)]; exact o3
        · rw [a3 4 (by decide), em1, e_u2k (by decide), e_u2k (by decide), e_u2s]; rfl
        · rw [a3 5 (by decide), em1, e_u2k (by decide), e_u2s]; rfl
        · rw [a3 6 (by decide), em1, e_u2s]; rfl
        · rw [a3 7 (by decide), k72 7 (by decide) (by decide) (by decide)]; exact o7
    · rw [if_neg c2] at hfw
      have est : stW wv (prt S k) q l t w ct = ct := if_neg (fun z => c2 z.2)
      rw [est]
      refine ⟨m, ?_, fun _ _ _ => rfl, fun _ _ _ _ => rfl, k0, k1⟩
      unfold F_X7_offerTo
      rw [cR_70_1 hc, cG_72 hc, o0, cR_pt hc hk, cG_pc hc hk, k0, e_jn, if_neg (nI_ge c1 (by omega)), cT_70 hc, hfw, e_cl]
      dsimp only
      rw [e_jn, if_pos (show oI 0 = -1 from oI_0)]
  · have est : stW wv (prt S k) q l t w ct = ct := if_neg (fun z => c1 z.1)
    rw [est]
    refine ⟨m, ?_, fun _ _ _ => rfl, fun _ _ _ _ => rfl, k0, k1⟩
    unfold F_X7_offerTo
    rw [cR_70_1 hc, cG_72 hc, o0, cR_pt hc hk, cG_pc hc hk, k0, e_jn, if_pos (nI_le (by omega) (by omega))]
    dsimp only
    rw [e_jn, if_pos rfl]
end COF
