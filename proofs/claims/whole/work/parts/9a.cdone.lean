/-! ===== the class: rough, done ===== -/
/-- the names that are free -/
def UF (u : SU) (nR nM nS : Nat) : Prop := ∀ x, ((2000 + 10 * nR ≤ x ∧ x < 3000) ∨ (3000 + 50 * nM ≤ x ∧ x < 4000) ∨ (4000 + 10 * nS ≤ x ∧ x < 4500)) → u.2.1 x = 0
section CDN
variable {m : IM} {j : JM} {u : SU}
theorem c27 (hc : CS u) : u.2.1 2 = 27 ∧ u.2.2 2 = 0 := hc.2.1 (2, 27, 0) (by decide)
theorem cLN (hc : CS u) : ∀ L, L = 20 ∨ L = 30 ∨ L = 40 → u.2.1 L = 1 ∧ u.2.2 L = 0 := fun L hL => by
  rcases hL with rfl | rfl | rfl
  · exact hc.2.1 (20, 1, 0) (by decide)
  · exact hc.2.1 (30, 1, 0) (by decide)
  · exact hc.2.1 (40, 1, 0) (by decide)
theorem CS_ue {m' : IM} {j' : JM} {u' : SU} (hc : CS u) (hU : UE (fun b => fxB b = true) m m' j j' u u') (hl : ∀ L, L = 20 ∨ L = 30 ∨ L = 40 → u'.2.1 L = 1 ∧ u'.2.2 L = 0) : CS u' := CS_fr hc (fun b hb => (hU b hb).2.2) hl
theorem fx_no {b : Nat} (h : fxB b = true) : (b ≤ 19 ∨ (50 ≤ b ∧ b ≤ 110) ∨ (1070 ≤ b ∧ b ≤ 1119)) := by
  unfold fxB at h
  simp only [Bool.or_eq_true, Bool.and_eq_true, decide_eq_true_eq] at h
  exact h
theorem C_rough1 (hc : CS u) {nR : Nat} {sd : Nat → Bool} {bb : Nat → BST} (hA : CAr m j u nR sd bb) (h10 : nR = 10) : F_X11_rough 10 (pm m j u) = some (-1, pm m j u) := by
  subst h10
  unfold F_X11_rough
  rw [cR_10_0 hc, cT_20 hc, C_size hA.1 hA.2.1, e_cl, if_neg (show ¬ nI 10 < 10 by decide)]
theorem C_rough2 (hc : CS u) {nR nM nS : Nat} {sd : Nat → Bool} {bb : Nat → BST} (hA : CAr m j u nR sd bb) (h10 : nR < 10) (hF : UF u nR nM nS) (hsd : ∀ i, 216 * nR ≤ i → i < 216 * nR + 216 → sd i = false) : ∃ m' j' u', F_X11_rough 10 (pm m j u) = some (nI nR, pm m' j' u') ∧ UE (fun b => b < 20 ∨ (30 ≤ b ∧ b < 2000 + 10 * nR) ∨ 2000 + 10 * nR + 3 < b) m m' j j' u u' ∧ CS u' ∧ CAr m' j' u' (nR + 1) sd bb := by
  obtain ⟨c1, c2⟩ := c27 hc
  obtain ⟨m1, j1, u1, a1, a2, a3, a4, a5⟩ := C_newR (m := m) (j := j) (u := u) (a := 2000 + 10 * nR) (by omega) (hF _ (by omega)) (hF _ (by omega)) (hF _ (by omega)) (hF _ (by omega))
  have hA1 : CAr m1 j1 u1 nR sd bb := CAr_ue hA (a2.sub (fun b hb => by omega))
  have hc1 : CS u1 := CS_ue hc (a2.sub (fun b hb => by have := fx_no hb; omega)) (fun L hL => by rw [(a2 L (by omega)).2.2.2.1, (a2 L (by omega)).2.2.2.2]; exact cLN hc L hL)
  obtain ⟨d1, d2⟩ := c27 hc1
  obtain ⟨m2, j2, u2', b1, b2, b3, b4, b5⟩ := C_add (m := m1) (j := j1) hA1.1 (by decide) d1 d2 hA1.2.1 (by omega) (fun k hk => by unfold nmR; omega) (by unfold nmR; omega) (Or.inr (Or.inl a3.2.1))
  have hN20 := (cLN hc1 20 (by omega)).2
  have b1 : F_Jx4a65c_add_9ea2d 20 (2000 + 10 * nR) (pm m1 j1 u1) = some (nI 1, pm m2 j2 u2') := b1
  refine ⟨m2, j2, u2', ?_, (a2.sub (fun b hb => by omega)).tr (b2.sub (fun b hb => by omega)), ?_, b5, b3, fun r hr => ?_⟩
  · have hcl : (mI (pm m j u) 20 2).toNatClampNeg = nR := by rw [e_mI, hA.2.1, nI_clamp (by omega)]
    have a1' := a1 (fun h8 => tst h8 20 0 (cl (F_Jx4a65c_add_9ea2d 20 (2000 + 10 * nR) h8) fun r10 h11 => some (nI nR, h11)))
    unfold F_X11_rough
    rw [cR_10_0 hc, cT_20 hc, C_size hA.1 hA.2.1, e_cl, if_pos (show nI nR < 10 from nI_lt (b := 10) h10 (by decide)), cR_10_0 hc, hcl]
    refine a1'.trans ?_
    rw [e_tst hA1.1.1, b1, e_cl]
  · exact CS_ue hc1 (b2.sub (fun b hb => by have := fx_no hb; omega)) (fun L hL => by
      rcases (show L = 20 ∨ L = 30 ∨ L = 40 from hL) with rfl | rfl | rfl
      · exact ⟨b5.1, by rw [b4]; exact hN20⟩
      · rw [(b2 30 (by omega)).2.2.2.1, (b2 30 (by omega)).2.2.2.2]; exact cLN hc1 30 (by omega)
      · rw [(b2 40 (by omega)).2.2.2.1, (b2 40 (by omega)).2.2.2.2]; exact cLN hc1 40 (by omega))
  · by_cases e : r = nR
    · subst e
      have k : ∀ d, d ≤ 3 → m2 (nmR r + d) = m1 (nmR r + d) ∧ j2 (nmR r + d) = j1 (nmR r + d) ∧ u2'.1 (nmR r + d) = u1.1 (nmR r + d) ∧ u2'.2.1 (nmR r + d) = u1.2.1 (nmR r + d) ∧ u2'.2.2 (nmR r + d) = u1.2.2 (nmR r + d) := fun d hd => b2 _ (by unfold nmR; omega)
      refine ⟨RoO_fr (a := nmR r) a3 (fun b g1 g2 => ?_), fun z hz => ?_, Or.inl ?_⟩
      · obtain ⟨d, rfl⟩ : ∃ d, b = nmR r + d := ⟨b - nmR r, by omega⟩
        exact (k d (by omega)).2.2
      · rw [(k 1 (by omega)).2.1]
        have : j1 (nmR r + 1) z = 0 := a5 z
        rw [this, show lay (rgh sd r) z = 0 from lay_z.mpr (fun i hi => hsd _ (by omega) (by omega))]; rfl
      · rw [show m2 (nmR r) = m1 (nmR r) from (k 0 (by omega)).1]; exact a4
    · have q := hA1.2.2 r (by omega)
      have k : ∀ d, d ≤ 3 → m2 (nmR r + d) = m1 (nmR r + d) ∧ j2 (nmR r + d) = j1 (nmR r + d) ∧ u2'.1 (nmR r + d) = u1.1 (nmR r + d) ∧ u2'.2.1 (nmR r + d) = u1.2.1 (nmR r + d) ∧ u2'.2.2 (nmR r + d) = u1.2.2 (nmR r + d) := fun d hd => b2 _ (by unfold nmR; omega)
      have q2 := RO_fr (m' := m2) (j' := j2) q (k 1 (by omega)).2.1 (k 0 (by omega)).1 (k 2 (by omega)).1 (k 3 (by omega)).1
      refine ⟨RoO_fr q2.1 (fun b g1 g2 => ?_), q2.2⟩
      obtain ⟨d, rfl⟩ : ∃ d, b = nmR r + d := ⟨b - nmR r, by omega⟩
      exact (k d (by omega)).2.2
/-- one stone more -/
theorem C_addS (hc : CS u) {nR nM nS c W q r : Nat} {sg ix an : Nat → Nat → Nat} {β : Type} (hS : nS < 40) (hA : CAs m u nS sg ix an) (hF : UF u nR nM nS) (hcut : 2000 ≤ c) (hcut2 : c < 3000) (hc3 : u.2.1 c = 3) (c1 : m c 1 = nI q) (c7 : m c 7 = nI W) : ∃ m' j' u', (∀ (K : PM → Option β), (nO (pm m j u) (4000 + 10 * nS) 9 fun h22 => cl (F_X8_init (4000 + 10 * nS) (nI r) c h22) fun _ h25 => tst h25 40 0 (cl (F_Jx4a65c_add_9ea2d 40 (4000 + 10 * nS) h25) fun _ h28 => K h28)) = K (pm m' j' u')) ∧ UE (fun b => b < 40 ∨ (50 ≤ b ∧ b < 4000 + 10 * nS) ∨ 4000 + 10 * nS + 3 < b) m m' j j' u u' ∧ CS u' ∧ CAs m' u' (nS + 1) (adS sg nS W q r) ix an := by
  obtain ⟨m1, j1, u1, a1, a2, a3, a4⟩ := C_newS (m := m) (j := j) (u := u) (a := 4000 + 10 * nS) (c := c) (W := W) (q := q) (r := r) (β := β) (by omega) (hF _ (by omega)) (hF _ (by omega)) (hF _ (by omega)) (hF _ (by omega)) (by omega) hc3 c1 c7 (ix := ix nS) (an := an nS) (sg := sg) (n := nS)
  have hA1 : CAs m1 u1 nS sg ix an := CAs_ue hA (a2.sub (fun b hb => by omega))
  have hc1 : CS u1 := CS_ue hc (a2.sub (fun b hb => by have := fx_no hb; omega)) (fun L hL => by rw [(a2 L (by omega)).2.2.2.1, (a2 L (by omega)).2.2.2.2]; exact cLN hc L hL)
  obtain ⟨d1, d2⟩ := c27 hc1
  obtain ⟨m2, j2, u2', b1, b2, b3, b4, b5⟩ := C_add (m := m1) (j := j1) hA1.1 (by decide) d1 d2 hA1.2.1 (by omega) (fun k hk => by unfold nmS; omega) (by unfold nmS; omega) (Or.inr (Or.inr a3))
  have hN40 := (cLN hc1 40 (by omega)).2
  have b1 : F_Jx4a65c_add_9ea2d 40 (4000 + 10 * nS) (pm m1 j1 u1) = some (nI 1, pm m2 j2 u2') := b1
  refine ⟨m2, j2, u2', fun K => ?_, (a2.sub (fun b hb => by omega)).tr (b2.sub (fun b hb => by omega)), ?_, b5, b3, fun s hs => ?_⟩
  · rw [e_nO (by omega) (hF _ (by omega))]
    refine (a1 (fun h25 => tst h25 40 0 (cl (F_Jx4a65c_add_9ea2d 40 (4000 + 10 * nS) h25) fun _ h28 => K h28))).trans ?_
    rw [e_tst hA1.1.1, b1, e_cl]
  · exact CS_ue hc1 (b2.sub (fun b hb => by have := fx_no hb; omega)) (fun L hL => by
      rcases (show L = 20 ∨ L = 30 ∨ L = 40 from hL) with rfl | rfl | rfl
      · rw [(b2 20 (by omega)).2.2.2.1, (b2 20 (by omega)).2.2.2.2]; exact cLN hc1 20 (by omega)
      · rw [(b2 30 (by omega)).2.2.2.1, (b2 30 (by omega)).2.2.2.2]; exact cLN hc1 30 (by omega)
      · exact ⟨b5.1, by rw [b4]; exact hN40⟩)
  · have k : ∀ d, d ≤ 3 → m2 (nmS s + d) = m1 (nmS s + d) ∧ j2 (nmS s + d) = j1 (nmS s + d) ∧ u2'.1 (nmS s + d) = u1.1 (nmS s + d) ∧ u2'.2.1 (nmS s + d) = u1.2.1 (nmS s + d) ∧ u2'.2.2 (nmS s + d) = u1.2.2 (nmS s + d) := fun d hd => b2 _ (by unfold nmS; omega)
    have hST : ST m1 u1 (nmS s) (adS sg nS W q r s) (ix s) (an s) := by
      by_cases e : s = nS
      · subst e; exact a4
      · have : adS sg nS W q r s = sg s := by funext x; unfold adS; rw [if_neg e]
        rw [this]; exact hA1.2.2 s (by omega)
    have q := ST_fr hST (k 0 (by omega)).1 (k 1 (by omega)).1 (k 2 (by omega)).1 (k 3 (by omega)).1
    refine ⟨StO_fr q.1 (fun b g1 g2 => ?_), q.2⟩
    obtain ⟨d, rfl⟩ : ∃ d, b = nmS s + d := ⟨b - nmS s, by omega⟩
    exact (k d (by omega)).2.2
theorem C_clearL79 {ra : Nat} {x7 : Int32} (hR : RoO u ra) : ∀ (d z fu : Nat) (j : JM), z + d = 6 → d < fu → (∀ y, y < z → j (ra + 1) y = lN 0) →
    ∃ j', (∀ K, F_X11_done_L79 ra x7 K fu (nI z) (pm m j u) = K (pm m j' u)) ∧ (∀ b, b ≠ ra + 1 → j' b = j b) ∧ ∀ y, y < 6 → j' (ra + 1) y = lN 0 := by
  intro d
  induction d with
  | zero =>
    intro z fu j hz hfu hA
    obtain ⟨fu, rfl⟩ : ∃ g, fu = g + 1 := ⟨fu - 1, by omega⟩
    have e : z = 6 := by omega
    subst e
    refine ⟨j, fun K => ?_, fun _ _ => rfl, hA⟩
    simp (disch := omega) only [F_X11_done_L79, e_cl, e_jn, e_lt, e_cxl, e_cxr, e_rzn, ↓l_m1, ↓l_m2, ↓l_m8, l_0, l_1, l_2, l_3, l_4, l_5, l_6, l_7, l_8, l_9, l_10, l_12, l_16, l_20, l_24, l_31, l_32, l_35, l_36, l_40, l_44, l_48, l_59, l_63, l_64, l_90, l_95, l_96, l_100, l_120, l_127, l_200, l_216, l_255, l_999, l_1000, l_10000, l_1000000, l_1048575, l_1000000000, nI_add, pk_mul, pk_sub, nI_leI, nI_ltI, nI_eq, nI_dec, nI_o0, mx_n, mn_n, ab_1, ab_n, e_u2e, e_u2k, e_u2a, if_pos, if_neg, if_true, if_false, not_true, not_false_eq_true, ne_eq, Nat.add_zero, Nat.zero_add]
  | succ d ih =>
    intro z fu j hz hfu hA
    obtain ⟨fu, rfl⟩ : ∃ g, fu = g + 1 := ⟨fu - 1, by omega⟩
    obtain ⟨j', i1, i2, i3⟩ := ih (z + 1) fu (u2 j (ra + 1) z 0) (by omega) (by omega) (fun y hy => by
      by_cases e : y = z
      · rw [e, e_v2e rfl]; rfl
      · rw [e_v2k e]; exact hA y (by omega))
    refine ⟨j', fun K => ?_, fun b hb => by rw [i2 b hb, e_v2r hb], i3⟩
    rw [← i1 K, F_X11_done_L79]
    simp (disch := omega) only [e_cl, e_jn, e_lt, e_cxl, e_cxr, e_rzn, ↓l_m1, ↓l_m2, ↓l_m8, l_0, l_1, l_2, l_3, l_4, l_5, l_6, l_7, l_8, l_9, l_10, l_12, l_16, l_20, l_24, l_31, l_32, l_35, l_36, l_40, l_44, l_48, l_59, l_63, l_64, l_90, l_95, l_96, l_100, l_120, l_127, l_200, l_216, l_255, l_999, l_1000, l_10000, l_1000000, l_1048575, l_1000000000, nI_add, pk_mul, pk_sub, nI_leI, nI_ltI, nI_eq, nI_dec, nI_o0, mx_n, mn_n, ab_1, ab_n, e_u2e, e_u2k, e_u2a, if_pos, if_neg, if_true, if_false, not_true, not_false_eq_true, ne_eq, Nat.add_zero, Nat.zero_add, oG hR, oP hR, oZ hR, oT hR, oR0 hR, oR6 hR, oR7 hR, oA hR, oS hR, oG2 hR, oP2 hR, oT2 hR, oG3 hR, oP3 hR, oT3 hR, e_v2e, e_v2k, e_v2a]
end CDN
