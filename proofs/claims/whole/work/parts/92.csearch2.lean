/-! ===== the class: search, fit ===== -/
def gre (l : List Lay) : Nat := 6 / max 1 (max (sp_ l 0) (max (sp_ l 1) (sp_ l 2)))
theorem gre_iff {l : List Lay} {t : Nat} : t ≤ gre l ↔ t ≤ 6 ∧ ∀ b, b < 3 → t * sp_ l b ≤ 6 := by
  unfold gre
  rw [Nat.le_div_iff_mul_le (by omega)]
  constructor
  · intro h
    have k : ∀ x, x ≤ max 1 (max (sp_ l 0) (max (sp_ l 1) (sp_ l 2))) → t * x ≤ 6 := fun x hx => Nat.le_trans (Nat.mul_le_mul_left t hx) h
    refine ⟨by have := k 1 (by omega); omega, fun b hb => ?_⟩
    rcases (show b = 0 ∨ b = 1 ∨ b = 2 by omega) with rfl | rfl | rfl
    · exact k _ (by omega)
    · exact k _ (by omega)
    · exact k _ (by omega)
  · intro ⟨h0, h⟩
    have a0 := h 0 (by decide)
    have a1 := h 1 (by decide)
    have a2 := h 2 (by decide)
    have key : ∀ X, (X = 1 ∨ X = sp_ l 0 ∨ X = sp_ l 1 ∨ X = sp_ l 2) → t * X ≤ 6 := fun X hX => by
      rcases hX with rfl | rfl | rfl | rfl
      · omega
      · exact a0
      · exact a1
      · exact a2
    exact key _ (by omega)
theorem gre_le {l : List Lay} : gre l ≤ 6 := (gre_iff.mp (Nat.le_refl (gre l))).1
def TU (m : IM) : Prop := ∀ w, w < 6 → ∀ a, a < 3 → m 1 (3 * w + a) = nI (tu w a)
def insd (f0 f1 : Nat) : Nat := bN (bkP 0 (6 - f0) 0 (6 - f1 + 1)) 36
theorem gd_row {l : List Lay} (h : okM l) {S : Nat → Bool} {t w z s : Nat} (h1 : 1 ≤ t) (hw : w < 6) (hs : s < 36) (hf : ∀ a, a < 3 → fx l t w a ≤ 6) : GdM S l t w (36 * z + s) = (decide (z + fx l t w 2 ≤ 6) && (sir (insd (fx l t w 0) (fx l t w 1)) S (mkB l t w) z (fx l t w 2)).testBit s) := by
  have f0 := hf 0 (by decide)
  have f1 := hf 1 (by decide)
  have f2 := hf 2 (by decide)
  have k1 : GdM S l t w (36 * z + s) = true ↔ (decide (z + fx l t w 2 ≤ 6) && (sir (insd (fx l t w 0) (fx l t w 1)) S (mkB l t w) z (fx l t w 2)).testBit s) = true := by
    unfold GdM
    rw [GdB_t, Bool.and_eq_true, decide_eq_true_eq]
    unfold sir insd
    rw [bN_tb, decide_eq_true hs, Bool.true_and, Bool.and_eq_true, alB_t, bN_tb, decide_eq_true hs, Bool.true_and]
    unfold bkP
    rw [Bool.and_eq_true, Bool.and_eq_true, Bool.and_eq_true, decide_eq_true_eq, decide_eq_true_eq, decide_eq_true_eq, decide_eq_true_eq]
    constructor
    · intro ⟨⟨b0, b1, b2⟩, hA⟩
      refine ⟨by omega, ⟨by omega, by omega, by omega, by omega⟩, fun i hi => ?_⟩
      cases hm : mkB l t w i
      · rfl
      · have m0 := mkB_b h (show 0 < t by omega) hw (show 0 < 3 by decide) hm
        have m1 := mkB_b h (show 0 < t by omega) hw (show 1 < 3 by decide) hm
        have m2 := mkB_b h (show 0 < t by omega) hw (show 2 < 3 by decide) hm
        rw [coo_0] at m0
        rw [coo_1] at m1
        rw [coo_2] at m2
        have := hA i (by omega) hm
        rw [decide_eq_true (by omega : s + i % 36 < 36), Bool.true_and, show 36 * (z + i / 36) + (s + i % 36) = 36 * z + s + i by omega, this]; rfl
    · intro ⟨c0, ⟨c1, c2, c3, c4⟩, hA⟩
      refine ⟨⟨by omega, by omega, by omega⟩, fun i hi hm => ?_⟩
      have m2 := mkB_b h (show 0 < t by omega) hw (show 2 < 3 by decide) hm
      rw [coo_2] at m2
      have := hA i (by omega)
      rw [hm] at this
      have this : (decide (s + i % 36 < 36) && S (36 * (z + i / 36) + (s + i % 36))) = true := this
      rw [Bool.and_eq_true, show 36 * (z + i / 36) + (s + i % 36) = 36 * z + s + i by omega] at this
      exact this.2
  cases c : (decide (z + fx l t w 2 ≤ 6) && (sir (insd (fx l t w 0) (fx l t w 1)) S (mkB l t w) z (fx l t w 2)).testBit s)
  · exact ts_nt (fun y => by rw [k1.mp y] at c; cases c)
  · exact k1.mpr c
theorem gd_lay {l : List Lay} (h : okM l) {S : Nat → Bool} {t w z : Nat} (h1 : 1 ≤ t) (hw : w < 6) (hf : ∀ a, a < 3 → fx l t w a ≤ 6) : lay (GdM S l t w) z = if z + fx l t w 2 ≤ 6 then sir (insd (fx l t w 0) (fx l t w 1)) S (mkB l t w) z (fx l t w 2) else 0 := by
  by_cases c : z + fx l t w 2 ≤ 6
  · rw [if_pos c]
    unfold lay
    refine (bN_eq sir_lt (fun i hi => ?_)).symm
    rw [gd_row h h1 hw hi hf, decide_eq_true c, Bool.true_and]
  · rw [if_neg c]
    unfold lay
    refine (bN_eq (by decide) (fun i hi => ?_)).symm
    rw [gd_row h h1 hw hi hf, decide_eq_false c, Bool.false_and, Nat.zero_testBit]
theorem lay_z {G : Nat → Bool} {z : Nat} : lay G z = 0 ↔ ∀ i, i < 36 → G (36 * z + i) = false := by
  constructor
  · intro h i hi
    have := lay_tb G (z := z) hi
    rw [h, Nat.zero_testBit] at this
    exact this.symm
  · intro h
    unfold lay
    exact (bN_eq (by decide) (fun i hi => by rw [Nat.zero_testBit, h i hi])).symm
theorem any_fit {S : Nat → Bool} {l : List Lay} {t w : Nat} : anyB (fun z => decide (lay (GdM S l t w) z ≠ 0)) 6 = decide (fitW S l t w < 216) := by
  cases c : decide (fitW S l t w < 216)
  · have c := of_decide_eq_false c
    refine anyB_non (fun z hz => decide_eq_false (fun y => y (lay_z.mpr (fun i hi => ?_))))
    exact fa_first_no (GdM S l t w) 216 (36 * z + i) (by unfold fitW at c; omega)
  · have c := of_decide_eq_true c
    have := fa_first_yes (GdM S l t w) 216 c
    refine anyB_of (k := fitW S l t w / 36) (by omega) (decide_eq_true (fun y => ?_))
    have z := lay_z.mp y (fitW S l t w % 36) (by omega)
    rw [show 36 * (fitW S l t w / 36) + fitW S l t w % 36 = fitW S l t w by omega] at z
    rw [show GdM S l t w (fitW S l t w) = true from this] at z
    cases z
section CS2
variable {m : IM} {j : JM} {u : SU}
theorem C_spanL (hc : CS u) {a b t w : Nat} {l : List Lay} (hO : MoO u a) (ha : a ≠ 74) (ht : t ≤ 6) (hw : w < 6) : ∀ (d x fu : Nat) (m : IM), x + d = 3 → d < fu → TU m → (∀ b, b < 3 → m (a + 2) b = nI (sp_ l b)) → a + 2 ≠ 74 → (∀ y, y < x → m 74 y = nI (fx l t w y)) →
    ∃ m', (∀ K, F_X7_search_L3 70 b a (nI t) (nI w) K fu (nI x) (pm m j u) = K (pm m' j u)) ∧ (∀ b, b ≠ 74 → m' b = m b) ∧ ∀ y, y < 3 → m' 74 y = nI (fx l t w y) := by
  intro d
  induction d with
  | zero =>
    intro x fu m hx hfu hT hS ha2 hA
    obtain ⟨fu, rfl⟩ : ∃ g, fu = g + 1 := ⟨fu - 1, by omega⟩
    have e : x = 3 := by omega
    subst e
    refine ⟨m, fun K => ?_, fun _ _ => rfl, hA⟩
    simp (disch := omega) only [F_X7_search_L3, e_cl, e_jn, e_lt, e_cxl, e_cxr, e_rzn, ↓l_m1, ↓l_m2, ↓l_m8, l_0, l_1, l_2, l_3, l_4, l_5, l_6, l_7, l_8, l_9, l_10, l_12, l_16, l_20, l_24, l_31, l_32, l_35, l_36, l_40, l_44, l_48, l_59, l_63, l_64, l_90, l_95, l_96, l_100, l_120, l_127, l_200, l_216, l_255, l_999, l_1000, l_10000, l_1000000, l_1048575, l_1000000000, nI_add, pk_mul, pk_sub, nI_leI, nI_ltI, nI_eq, nI_dec, nI_o0, mx_n, mn_n, ab_1, ab_n, e_u2e, e_u2k, e_u2a, if_pos, if_neg, if_true, if_false, not_true, not_false_eq_true, ne_eq, Nat.add_zero, Nat.zero_add]
  | succ d ih =>
    intro x fu m hx hfu hT hS ha2 hA
    obtain ⟨fu, rfl⟩ : ∃ g, fu = g + 1 := ⟨fu - 1, by omega⟩
    have hx3 : x < 3 := by omega
    have t1 := (tu_lt w hw x hx3).1
    have e1 := hT w hw x hx3
    have e2 := hS (tu w x) t1
    obtain ⟨m', i1, i2, i3⟩ := ih (x + 1) fu (u2 m 74 x (nI (fx l t w x))) (by omega) (by omega) (fun w hw a ha => by rw [e_u2a (by decide)]; exact hT w hw a ha) (fun b hb => by rw [e_u2a ha2]; exact hS b hb) ha2 (fun y hy => by
      by_cases e : y = x
      · rw [e, e_u2s]
      · rw [e_u2k e]; exact hA y (by omega))
    refine ⟨m', fun K => ?_, fun b hb => by rw [i2 b hb, e_u2r hb], i3⟩
    have ef : t * sp_ l (tu w x) = fx l t w x := rfl
    rw [← i1 K, F_X7_search_L3]
    simp (disch := omega) only [e_cl, e_jn, e_lt, e_cxl, e_cxr, e_rzn, ↓l_m1, ↓l_m2, ↓l_m8, l_0, l_1, l_2, l_3, l_4, l_5, l_6, l_7, l_8, l_9, l_10, l_12, l_16, l_20, l_24, l_31, l_32, l_35, l_36, l_40, l_44, l_48, l_59, l_63, l_64, l_90, l_95, l_96, l_100, l_120, l_127, l_200, l_216, l_255, l_999, l_1000, l_10000, l_1000000, l_1048575, l_1000000000, nI_add, pk_mul, pk_sub, nI_leI, nI_ltI, nI_eq, nI_dec, nI_o0, mx_n, mn_n, ab_1, ab_n, e_u2e, e_u2k, e_u2a, if_pos, if_neg, if_true, if_false, not_true, not_false_eq_true, ne_eq, Nat.add_zero, Nat.zero_add, cG_70 hc, cP_70 hc, cT_70 hc, cR_70_0 hc, cR_70_1 hc, cR_70_2 hc, cA_73 hc, cS_73 hc, cR_70_3 hc, cA_74 hc, cS_74 hc, mG hO, mP hO, mT_ hO, mR0 hO, mR1 hO, mR2 hO, mA1 hO, mA2 hO, mS1 hO, mS2 hO, mA3 hO, mA4 hO, mS4 hO, cA_1 hc, e1, e2, ef]
theorem C_sL84 (hc : CS u) {a b t w : Nat} {l : List Lay} {S : Nat → Bool} (hM : okM l) (h1 : 1 ≤ t) (hw : w < 6) (hf : ∀ a, a < 3 → fx l t w a ≤ 6) (h74 : m 74 2 = nI (fx l t w 2)) (ha73 : a ≠ 73) (hb73 : b ≠ 73) (hA : ∀ (j' : JM) (i : Nat), i < 6 → j' a = j a → ∀ f : Int64 → Option (Int64 × PM), aJ (pm m j' u) a (nI i) f = f (lN (lay S i))) (hB : ∀ (j' : JM) (i : Nat), i < 6 → j' b = j b → ∀ f : Int64 → Option (Int64 × PM), aJ (pm m j' u) b (nI i) f = f (lN (lay (mkB l t w) i))) : ∀ (d z fu : Nat) (j' : JM), z + d = 6 → d < fu → (∀ b, b ≠ 73 → j' b = j b) → (∀ y, y < z → j' 73 y = lN (lay (GdM S l t w) y)) →
    ∃ j2, (∀ K, F_X7_search_L84 70 a (lN (insd (fx l t w 0) (fx l t w 1))) b K fu (nI (anyB (fun z => decide (lay (GdM S l t w) z ≠ 0)) z).toNat) (nI z) (pm m j' u) = K (nI (anyB (fun z => decide (lay (GdM S l t w) z ≠ 0)) 6).toNat) (pm m j2 u)) ∧ (∀ b, b ≠ 73 → j2 b = j b) ∧ ∀ y, y < 6 → j2 73 y = lN (lay (GdM S l t w) y) := by
  have f2 := hf 2 (by decide)
  intro d
  induction d with
  | zero =>
    intro z fu j' hz hfu hj hA'
    obtain ⟨fu, rfl⟩ : ∃ g, fu = g + 1 := ⟨fu - 1, by omega⟩
    have e : z = 6 := by omega
    subst e
    refine ⟨j', fun K => ?_, hj, hA'⟩
    simp (disch := omega) only [F_X7_search_L84, e_cl, e_jn, e_lt, e_cxl, e_cxr, e_rzn, ↓l_m1, ↓l_m2, ↓l_m8, l_0, l_1, l_2, l_3, l_4, l_5, l_6, l_7, l_8, l_9, l_10, l_12, l_16, l_20, l_24, l_31, l_32, l_35, l_36, l_40, l_44, l_48, l_59, l_63, l_64, l_90, l_95, l_96, l_100, l_120, l_127, l_200, l_216, l_255, l_999, l_1000, l_10000, l_1000000, l_1048575, l_1000000000, nI_add, pk_mul, pk_sub, nI_leI, nI_ltI, nI_eq, nI_dec, nI_o0, mx_n, mn_n, ab_1, ab_n, e_u2e, e_u2k, e_u2a, if_pos, if_neg, if_true, if_false, not_true, not_false_eq_true, ne_eq, Nat.add_zero, Nat.zero_add]
  | succ d ih =>
    intro z fu j' hz hfu hj hA'
    obtain ⟨fu, rfl⟩ : ∃ g, fu = g + 1 := ⟨fu - 1, by omega⟩
    have gl := gd_lay hM (S := S) (z := z) h1 hw hf
    obtain ⟨j2, i1, i2, i3⟩ := ih (z + 1) fu (u2 j' 73 z (lN (lay (GdM S l t w) z))) (by omega) (by omega) (fun b hb => by rw [e_v2r hb]; exact hj b hb) (fun y hy => by
      by_cases e : y = z
      · rw [e, e_v2e rfl]
      · rw [e_v2k e]; exact hA' y (by omega))
    refine ⟨j2, fun K => ?_, i2, i3⟩
    have e73 : u2 j' 73 z (lN (lay (GdM S l t w) z)) 73 z = lN (lay (GdM S l t w) z) := e_v2e rfl
    have tail : ∀ (g : Bool), (jn (fun (s27 : Int32) (h28 : PM) => F_X7_search_L84 70 a (lN (insd (fx l t w 0) (fx l t w 1))) b K fu s27 (nI z + 1) h28) fun k149 => jn (fun (h30 : PM) => k149 1 h30) fun k144 => if ¬ nI g.toNat = 0 then (k144 (pm m (u2 j' 73 z (lN (lay (GdM S l t w) z))) u)) else (gR (pm m (u2 j' 73 z (lN (lay (GdM S l t w) z))) u) 70 8 2 fun x31 => aJ (pm m (u2 j' 73 z (lN (lay (GdM S l t w) z))) u) x31 (nI z) fun x32 => if (lg_cmp x32 0) = 0 then (k149 0 (pm m (u2 j' 73 z (lN (lay (GdM S l t w) z))) u)) else (k144 (pm m (u2 j' 73 z (lN (lay (GdM S l t w) z))) u)))) = F_X7_search_L84 70 a (lN (insd (fx l t w 0) (fx l t w 1))) b K fu (nI (g || decide (lay (GdM S l t w) z ≠ 0)).toNat) (nI (z + 1)) (pm m (u2 j' 73 z (lN (lay (GdM S l t w) z))) u) := fun g => by
      rw [e_jn, e_jn, show nI z + 1 = nI (z + 1) from nI_1 z]
      cases g
      · rw [if_neg (show ¬ ¬ nI false.toNat = 0 from fun y => y rfl), cR_70_2 hc, cA_73 hc (by omega), e73, Bool.false_or]
        by_cases c : lay (GdM S l t w) z = 0
        · rw [if_pos ((lN0 (lay_lt _ _)).mpr c), decide_eq_false (fun y => y c)]; rfl
        · rw [if_neg (fun y => c ((lN0 (lay_lt _ _)).mp y)), decide_eq_true c]; rfl
      · rw [if_pos (show ¬ nI true.toNat = 0 by decide), Bool.true_or]; rfl
    rw [anyB] at i1
    rw [← i1 K, F_X7_search_L84, if_neg (show ¬ (6 : Int32) ≤ nI z from nI_ge (b := 6) (by omega) (by decide)), cR_70_2 hc, cR_70_3 hc, show (2 : Int32) = nI 2 from rfl, cA_74 hc (by decide), h74, nI_add, e_jn]
    by_cases c : z + fx l t w 2 ≤ 6
    · rw [if_pos c] at gl
      have hr := C_rowL (m := m) (j := j') hc (L := insd (fx l t w 0) (fx l t w 1)) (bN_lt _ _) h74 c (fun i hi => hA j' i hi (hj a ha73)) (fun i hi => hB j' i hi (hj b hb73)) (fun v1 h2 => some (v1, h2)) (fx l t w 2) 0 LF (by omega) (by unfold LF; omega)
      rw [sir_0 (L := insd (fx l t w 0) (fx l t w 1)) (bN_lt _ _), ← gl] at hr
      rw [if_neg (show ¬ (6 : Int32) < nI (z + fx l t w 2) from nI_nlt (a := 6) c (by decide)), cT_70 hc]
      unfold F_X7_startsInRow
      rw [e_jn, show (0 : Int32) = nI 0 from rfl, hr, e_cl]
      dsimp only
      rw [cS_73 hc (by omega)]
      exact tail _
    · rw [if_neg c] at gl
      have e0 : u2 j' 73 z (0 : Int64) = u2 j' 73 z (lN (lay (GdM S l t w) z)) := by rw [gl]; rfl
      rw [if_pos (show (6 : Int32) < nI (z + fx l t w 2) from nI_lt (a := 6) (by omega) (by omega))]
      dsimp only
      rw [cS_73 hc (by omega), e0]
      exact tail _
theorem C_search (hc : CS u) {t w a ra : Nat} {l : List Lay} {S : Nat → Bool} (hM : okM l) (hO : MoO u a) (hR : RoO u ra) (ha : 3000 ≤ a) (hra : 2000 ≤ ra) (h1 : 1 ≤ t) (htg : t ≤ gre l) (hw : w < 6) (hT : TU m) (hsp : ∀ b, b < 3 → m (a + 2) b = nI (sp_ l b)) (hmk : ∀ z, z < 6 → j (a + 4 + (6 * (t - 1) + w)) z = lN (lay (mkB l t w) z)) (hsd : ∀ z, z < 6 → j (ra + 1) z = lN (lay S z)) :
    ∃ m' j', F_X7_search 70 (ra + 1) a (nI t) (nI w) (pm m j u) = some (nI (decide (fitW S l t w < 216)).toNat, pm m' j' u) ∧ (∀ b, b ≠ 74 → m' b = m b) ∧ (∀ b, b ≠ 73 → j' b = j b) ∧ (∀ z, z < 6 → j' 73 z = lN (lay (GdM S l t w) z)) ∧ ∀ b, b < 3 → m' 74 b = nI (fx l t w b) := by
  obtain ⟨ht6, hsp6⟩ := gre_iff.mp htg
  have hf : ∀ a, a < 3 → fx l t w a ≤ 6 := fun a ha => hsp6 _ (tu_lt w hw a ha).1
  have hpos : ∀ a, 1 ≤ fx l t w a := fun a => Nat.mul_le_mul h1 (sp_b_ hM (tu w a)).1
  have f0 := hf 0 (by decide)
  have f1 := hf 1 (by decide)
  have p0 := hpos 0
  have p1 := hpos 1
  obtain ⟨m1, a1, a2, a3⟩ := C_spanL (j := j) (b := ra + 1) hc hO (show a ≠ 74 by omega) ht6 hw 3 0 LF m (by omega) (by unfold LF; omega) hT hsp (by omega) (fun y hy => by omega)
  have hbl := C_block (x := 0) (X := 6 - fx l t w 0) (y := 0) (Y := 6 - fx l t w 1) (by omega) (by omega) (by omega) (by omega) (pm m1 j u)
  obtain ⟨j2, b1, b2, b3⟩ := C_sL84 (m := m1) (j := j) (a := ra + 1) (b := a + 4 + (6 * (t - 1) + w)) (S := S) hc hM h1 hw hf (a3 2 (by decide)) (by omega) (by omega) (fun j' i hi hj f => by rw [oA hR hi, hj, hsd i hi]) (fun j' i hi hj f => by rw [mA4 hO (by omega) hi, hj, hmk i hi]) 6 0 LF j (by omega) (by unfold LF; omega) (fun _ _ => rfl) (fun y hy => by omega)
  refine ⟨m1, j2, ?_, a2, b2, b3, a3⟩
  have q0 := a3 0 (by decide)
  have q1 := a3 1 (by decide)
  have hm : (t - 1) * 6 + w < 36 := by omega
  unfold F_X7_search
  rw [any_fit] at b1
  have hd : (decide (fitW S l t w < 216)).toNat ≤ 1 := fa_bb
  rw [show (t - 1) * 6 + w = 6 * (t - 1) + w by omega] at hm
  have em : nI (t - 1) * nI 6 + nI w = nI (6 * (t - 1) + w) := by rw [pk_mul, nI_add, Nat.mul_comm]
  rw [e_jn, show (0 : Int32) = nI 0 from rfl, a1]
  try dsimp only
  rw [cR_70_3 hc, cA_74 hc (by decide), q0, cR_70_3 hc, show (1 : Int32) = nI 1 from rfl, cA_74 hc (by decide), q1, show (6 : Int32) = nI 6 from rfl, pk_sub f0, pk_sub f1, hbl, e_cl, mR2 hO]
  unfold F_X3_maskOf
  rw [show (1 : Int32) = nI 1 from rfl, show (6 : Int32) = nI 6 from rfl, pk_sub h1, em, e_cl, mA3 hO hm, e_jn]
  refine (b1 _).trans ?_
  exact e_rzn hd
end CS2
