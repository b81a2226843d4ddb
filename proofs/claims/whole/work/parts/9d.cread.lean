/-! ===== the class: a model's text, layer by layer ===== -/
def ptx (tb : Nat → Int32) (n f p : Nat) : Nat ⊕ List Lay := match player tb n p with
  | .inl q => .inl q
  | .inr (w, d, x, y, p2) => match ptr tb n f p2 with
    | .inl q => .inl q
    | .inr l => .inr ((w, d, x, y) :: l)
theorem ptext_x (tb : Nat → Int32) (n : Nat) : ptext tb n = ptx tb n 5 0 := rfl
theorem ptr_0 (tb : Nat → Int32) (n p : Nat) : ptr tb n 0 p = if n ≤ skip tb n p then .inr [] else .inl (skip tb n p) := rfl
theorem ptr_s (tb : Nat → Int32) (n f p : Nat) : ptr tb n (f + 1) p = if n ≤ skip tb n p then .inr [] else if tb (skip tb n p) = 59 then ptx tb n f (skip tb n p + 1) else .inl (skip tb n p) := rfl
def modOK (m' : IM) (z fl : Nat) : Nat ⊕ List Lay → Prop
  | .inl q => fl = 0 ∧ m' 50 2 = nI q ∧ q ≤ 100
  | .inr l => fl = 1 ∧ m' 50 4 = nI (z + l.length) ∧ ∀ i, i < l.length → m' 54 (z + i) = nI (ga l i).1 ∧ m' 55 (z + i) = nI (ga l i).2.1 ∧ m' 52 (z + i) = nI (ga l i).2.2.1 ∧ m' 53 (z + i) = nI (ga l i).2.2.2
def MFc (z : Nat) (m m' : IM) : Prop := (∀ b, b ≠ 50 → b ≠ 52 → b ≠ 53 → b ≠ 54 → b ≠ 55 → m' b = m b) ∧ (∀ k, k ≠ 2 → k ≠ 4 → m' 50 k = m 50 k) ∧ ∀ b i, b ≠ 50 → i < z → m' b i = m b i
theorem player_in {tb : Nat → Int32} {n p w d x y q : Nat} (hp : p ≤ n) (h : player tb n p = .inr (w, d, x, y, q)) : q ≤ n := by
  unfold player at h
  rcases h1 : pdig tb n 1 6 p with q1 | ⟨w, p1⟩
  · rw [h1] at h; cases h
  · rw [h1] at h
    have a1 := pdig_in hp (by decide) (by decide) h1
    dsimp only at h
    rcases h2 : psgn tb n 120 p1 with q1 | p2
    · rw [h2] at h; cases h
    · rw [h2] at h
      have a2 := psgn_in a1.2.2.2 h2
      dsimp only at h
      rcases h3 : pdig tb n 1 6 p2 with q1 | ⟨d, p3⟩
      · rw [h3] at h; cases h
      · rw [h3] at h
        have a3 := pdig_in a2.2 (by decide) (by decide) h3
        dsimp only at h
        rcases h4 : psgn tb n 64 p3 with q1 | p4
        · rw [h4] at h; cases h
        · rw [h4] at h
          have a4 := psgn_in a3.2.2.2 h4
          dsimp only at h
          rcases h5 : pdig tb n 0 (6 - w) p4 with q1 | ⟨x, p5⟩
          · rw [h5] at h; cases h
          · rw [h5] at h
            have a5 := pdig_in a4.2 (by decide) (by omega) h5
            dsimp only at h
            rcases h6 : psgn tb n 44 p5 with q1 | p6
            · rw [h6] at h; cases h
            · rw [h6] at h
              have a6 := psgn_in a5.2.2.2 h6
              dsimp only at h
              rcases h7 : pdig tb n 0 (6 - d) p6 with q1 | ⟨y, p7⟩
              · rw [h7] at h; cases h
              · rw [h7] at h
                have a7 := pdig_in a6.2 (by decide) (by omega) h7
                cases h
                exact a7.2.2.2
theorem player_no {tb : Nat → Int32} {n p q : Nat} (hp : p ≤ n) (h : player tb n p = .inl q) : q ≤ n := by
  unfold player at h
  rcases h1 : pdig tb n 1 6 p with q1 | ⟨w, p1⟩
  · rw [h1] at h; cases h; exact (pdig_no hp h1).2
  · rw [h1] at h
    have a1 := pdig_in hp (by decide) (by decide) h1
    dsimp only at h
    rcases h2 : psgn tb n 120 p1 with q1 | p2
    · rw [h2] at h; cases h; exact (psgn_no a1.2.2.2 h2).2
    · rw [h2] at h
      have a2 := psgn_in a1.2.2.2 h2
      dsimp only at h
      rcases h3 : pdig tb n 1 6 p2 with q1 | ⟨d, p3⟩
      · rw [h3] at h; cases h; exact (pdig_no a2.2 h3).2
      · rw [h3] at h
        have a3 := pdig_in a2.2 (by decide) (by decide) h3
        dsimp only at h
        rcases h4 : psgn tb n 64 p3 with q1 | p4
        · rw [h4] at h; cases h; exact (psgn_no a3.2.2.2 h4).2
        · rw [h4] at h
          have a4 := psgn_in a3.2.2.2 h4
          dsimp only at h
          rcases h5 : pdig tb n 0 (6 - w) p4 with q1 | ⟨x, p5⟩
          · rw [h5] at h; cases h; exact (pdig_no a4.2 h5).2
          · rw [h5] at h
            have a5 := pdig_in a4.2 (by decide) (by omega) h5
            dsimp only at h
            rcases h6 : psgn tb n 44 p5 with q1 | p6
            · rw [h6] at h; cases h; exact (psgn_no a5.2.2.2 h6).2
            · rw [h6] at h
              have a6 := psgn_in a5.2.2.2 h6
              dsimp only at h
              rcases h7 : pdig tb n 0 (6 - d) p6 with q1 | ⟨y, p7⟩
              · rw [h7] at h; cases h; exact (pdig_no a6.2 h7).2
              · rw [h7] at h; cases h
section CRD
variable {m : IM} {j : JM} {u : SU}
theorem MFc_L {z : Nat} {m' : IM} (h : LFr z m m') : MFc z m m' := ⟨h.1, fun k h1 _ => h.2.1 k h1, fun b i h1 h2 => h.2.2 b i h1 (by omega)⟩
theorem MFc_tr {z z2 : Nat} {m1 m2 m3 : IM} (h : MFc z m1 m2) (g : MFc z2 m2 m3) (hz : z ≤ z2) : MFc z m1 m3 := ⟨fun b h1 h2 h3 h4 h5 => (g.1 b h1 h2 h3 h4 h5).trans (h.1 b h1 h2 h3 h4 h5), fun k h1 h2 => (g.2.1 k h1 h2).trans (h.2.1 k h1 h2), fun b i h1 h2 => (g.2.2 b i h1 (by omega)).trans (h.2.2 b i h1 h2)⟩
theorem MFc_50 {z k : Nat} {v : Int32} (hk : k = 2 ∨ k = 4) : MFc z m (u2 m 50 k v) := ⟨fun b h _ _ _ _ => e_u2r h, fun i h1 h2 => e_u2k (by omega), fun b i h _ => e_u2a h⟩
theorem TXc_M {z n : Nat} {m' : IM} {tb : Nat → Int32} (h : TXc m n tb) (hF : MFc z m m') : TXc m' n tb := by
  refine ⟨h.1, by rw [hF.2.1 3 (by decide) (by decide)]; exact h.2.1, fun i hi => ?_⟩
  rw [hF.1 51 (by decide) (by decide) (by decide) (by decide) (by decide)]
  exact h.2.2 i hi
theorem C_rmL (hc : CS u) {n : Nat} {tb : Nat → Int32} : ∀ (f z fu : Nat) (m : IM) (p : Nat), z + f = 5 → f + 1 < fu → TXc m n tb → m 50 2 = nI p → p ≤ n →
    ∃ m' fl, F_X9_readModel_L12 50 (fun h3 => rz 0 h3) (fun h4 => rz 0 h4) (fun h5 => rz 1 h5) (fun h6 => rz 0 h6) fu (nI z) (pm m j u) = some (nI fl, pm m' j u) ∧ MFc z m m' ∧ modOK m' z fl (ptx tb n f p) := by
  intro f
  induction f with
  | zero =>
    intro z fu m p hz hfu hT h2 hp
    obtain ⟨fu, rfl⟩ : ∃ g, fu = g + 1 := ⟨fu - 1, by omega⟩
    obtain ⟨fu, rfl⟩ : ∃ g, fu = g + 1 := ⟨fu - 1, by omega⟩
    have hn := hT.1
    have e : z = 5 := by omega
    subst e
    obtain ⟨m1, fl, a1, a2, a3⟩ := C_layer (j := j) hc hT h2 hp (show 5 < 6 by decide)
    unfold ptx
    rcases hpl : player tb n p with q | ⟨w, d, x, y, p2⟩
    · rw [hpl] at a3
      obtain ⟨rfl, a3⟩ := a3
      refine ⟨m1, 0, ?_, MFc_L a2, rfl, a3, by have := player_no hp hpl; omega⟩
      rw [F_X9_readModel_L12, if_neg (show ¬ (6 : Int32) ≤ nI 5 by decide), cT_50 hc, a1, e_cl, if_neg (show ¬ ¬ nI 0 = 0 from fun z => z rfl), e_rz0]; rfl
    · rw [hpl] at a3
      obtain ⟨rfl, b2, b3, b4, b5, b6⟩ := a3
      have hp2 := player_in hp hpl
      dsimp only
      rw [ptr_0]
      have hT2 : TXc (u2 m1 50 4 (nI (5 + 1))) n tb := TXc_M (z := 5) (TXc_L hT a2) (MFc_50 (Or.inr rfl))
      have he := C_isEnd (j := j) hc hT2 (by rw [e_u2k (by decide)]; exact b2) hp2
      have hk := skip_le (tb := tb) hp2
      have fr : MFc 5 m (u2 (u2 m1 50 4 (nI (5 + 1))) 50 2 (nI (skip tb n p2))) := MFc_tr (MFc_L a2) (MFc_tr (MFc_50 (Or.inr rfl)) (MFc_50 (Or.inl rfl)) (Nat.le_refl 5)) (Nat.le_refl 5)
      by_cases c : n ≤ skip tb n p2
      · rw [decide_eq_true c] at he
        rw [if_pos c]
        refine ⟨_, 1, ?_, fr, rfl, ?_, fun i hi => ?_⟩
        · rw [F_X9_readModel_L12, if_neg (show ¬ (6 : Int32) ≤ nI 5 by decide), cT_50 hc, a1, e_cl, if_pos (show ¬ nI 1 = 0 by decide), cP_50 hc, cT_50 hc, show nI 5 + 1 = nI (5 + 1) from nI_1 5, he, e_cl, if_neg (show ¬ nI true.toNat = 0 by decide), e_rz1]; rfl
        · rw [e_u2k (by decide), e_u2s]; rfl
        · have e0 : i = 0 := by have : i < 1 := hi; omega
          subst e0
          rw [e_u2a (by decide), e_u2a (by decide), e_u2a (by decide), e_u2a (by decide), e_u2a (by decide), e_u2a (by decide), e_u2a (by decide), e_u2a (by decide)]
          exact ⟨b3, b4, b5, b6⟩
      · rw [decide_eq_false c] at he
        rw [if_neg c]
        refine ⟨_, 0, ?_, fr, rfl, e_u2s, by omega⟩
        rw [F_X9_readModel_L12, if_neg (show ¬ (6 : Int32) ≤ nI 5 by decide), cT_50 hc, a1, e_cl, if_pos (show ¬ nI 1 = 0 by decide), cP_50 hc, cT_50 hc, show nI 5 + 1 = nI (5 + 1) from nI_1 5, he, e_cl, if_pos (show nI false.toNat = 0 from rfl), cG_50 hc, e_u2k (by decide), e_u2s, e_jn, if_pos (show (6 : Int32) ≤ nI (5 + 1) by decide)]
        dsimp only
        rw [F_X9_readModel_L12, if_pos (show (6 : Int32) ≤ nI (5 + 1) by decide)]; rfl
  | succ f ih =>
    intro z fu m p hz hfu hT h2 hp
    obtain ⟨fu, rfl⟩ : ∃ g, fu = g + 1 := ⟨fu - 1, by omega⟩
    have hn := hT.1
    have z6 : ¬ (6 : Int32) ≤ nI z := nI_ge (b := 6) (by omega) (by decide)
    obtain ⟨m1, fl, a1, a2, a3⟩ := C_layer (j := j) hc hT h2 hp (show z < 6 by omega)
    unfold ptx
    rcases hpl : player tb n p with q | ⟨w, d, x, y, p2⟩
    · rw [hpl] at a3
      obtain ⟨rfl, a3⟩ := a3
      refine ⟨m1, 0, ?_, MFc_L a2, rfl, a3, by have := player_no hp hpl; omega⟩
      rw [F_X9_readModel_L12, if_neg z6, cT_50 hc, a1, e_cl, if_neg (show ¬ ¬ nI 0 = 0 from fun z => z rfl), e_rz0]; rfl
    · rw [hpl] at a3
      obtain ⟨rfl, b2, b3, b4, b5, b6⟩ := a3
      have hp2 := player_in hp hpl
      dsimp only
      rw [ptr_s]
      have hT2 : TXc (u2 m1 50 4 (nI (z + 1))) n tb := TXc_M (z := z) (TXc_L hT a2) (MFc_50 (Or.inr rfl))
      have he := C_isEnd (j := j) hc hT2 (by rw [e_u2k (by decide)]; exact b2) hp2
      have hk := skip_le (tb := tb) hp2
      obtain ⟨m2, em2⟩ : ∃ m2, m2 = u2 (u2 m1 50 4 (nI (z + 1))) 50 2 (nI (skip tb n p2)) := ⟨_, rfl⟩
      rw [← em2] at he
      have fr : MFc z m m2 := by rw [em2]; exact MFc_tr (MFc_L a2) (MFc_tr (MFc_50 (Or.inr rfl)) (MFc_50 (Or.inl rfl)) (Nat.le_refl z)) (Nat.le_refl z)
      have k4 : m2 50 4 = nI (z + 1) := by rw [em2, e_u2k (by decide), e_u2s]
      have k2 : m2 50 2 = nI (skip tb n p2) := by rw [em2, e_u2s]
      have lay4 : m2 54 z = nI w ∧ m2 55 z = nI d ∧ m2 52 z = nI x ∧ m2 53 z = nI y := by
        rw [em2, e_u2a (by decide), e_u2a (by decide), e_u2a (by decide), e_u2a (by decide), e_u2a (by decide), e_u2a (by decide), e_u2a (by decide), e_u2a (by decide)]
        exact ⟨b3, b4, b5, b6⟩
      clear em2
      by_cases c : n ≤ skip tb n p2
      · rw [decide_eq_true c] at he
        rw [if_pos c]
        refine ⟨m2, 1, ?_, fr, rfl, k4, fun i hi => ?_⟩
        · rw [F_X9_readModel_L12, if_neg z6, cT_50 hc, a1, e_cl, if_pos (show ¬ nI 1 = 0 by decide), cP_50 hc, cT_50 hc, show nI z + 1 = nI (z + 1) from nI_1 z, he, e_cl, if_neg (show ¬ nI true.toNat = 0 by decide), e_rz1]; rfl
        · have e0 : i = 0 := by have : i < 1 := hi; omega
          subst e0
          exact lay4
      · rw [decide_eq_false c] at he
        rw [if_neg c]
        have hT3 : TXc m2 n tb := TXc_M hT fr
        have hsg := C_sign (c := 59) (j := j) hc hT3 k2 hk.2
        have hpre : ∀ X, F_X9_readSign 50 59 (pm m2 j u) = some X → F_X9_readModel_L12 50 (fun h3 => rz 0 h3) (fun h4 => rz 0 h4) (fun h5 => rz 1 h5) (fun h6 => rz 0 h6) (fu + 1) (nI z) (pm m j u) = if ¬ X.1 = 0 then F_X9_readModel_L12 50 (fun h3 => rz 0 h3) (fun h4 => rz 0 h4) (fun h5 => rz 1 h5) (fun h6 => rz 0 h6) fu (nI (z + 1)) X.2 else rz 0 X.2 := fun X hX => by
          obtain ⟨x1, x2⟩ := X
          rw [F_X9_readModel_L12, if_neg z6, cT_50 hc, a1, e_cl, if_pos (show ¬ nI 1 = 0 by decide), cP_50 hc, cT_50 hc, show nI z + 1 = nI (z + 1) from nI_1 z, he, e_cl, if_pos (show nI false.toNat = 0 from rfl), cG_50 hc, k4, e_jn, if_neg (show ¬ (6 : Int32) ≤ nI (z + 1) from nI_ge (b := 6) (by omega) (by decide)), cT_50 hc, hX, e_cl]
        unfold psgn at hsg
        rw [skip_skip hp2] at hsg
        by_cases c2 : tb (skip tb n p2) = 59
        · rw [if_pos ⟨by omega, c2⟩] at hsg
          have h3 := hsg.2 _ rfl
          rw [if_pos c2]
          obtain ⟨m', fl, i1, i2, i3⟩ := ih (z + 1) fu (u2 m2 50 2 (nI (skip tb n p2 + 1))) (skip tb n p2 + 1) (by omega) (by omega) (TXc_M (z := z) hT3 (MFc_50 (Or.inl rfl))) e_u2s (by omega)
          have fr3 : MFc z m m' := MFc_tr fr (MFc_tr (MFc_50 (z := z) (Or.inl rfl)) i2 (by omega)) (Nat.le_refl z)
          have hrun := hpre _ h3
          rw [if_pos (show ¬ nI 1 = 0 by decide), i1] at hrun
          rcases hx : ptx tb n f (skip tb n p2 + 1) with q | l
          · rw [hx] at i3
            exact ⟨m', fl, hrun, fr3, i3⟩
          · rw [hx] at i3
            obtain ⟨i4, i5, i6⟩ := i3
            refine ⟨m', fl, hrun, fr3, i4, ?_, fun i hi => ?_⟩
            · rw [i5]
              show nI (z + 1 + l.length) = nI (z + (l.length + 1))
              congr 1; omega
            · cases i with
              | zero =>
                have k : ∀ b, b ≠ 50 → m' b z = m2 b z := fun b hb => by rw [i2.2.2 b z hb (by omega), e_u2a hb]
                show m' 54 z = nI w ∧ m' 55 z = nI d ∧ m' 52 z = nI x ∧ m' 53 z = nI y
                rw [k 54 (by decide), k 55 (by decide), k 52 (by decide), k 53 (by decide)]
                exact lay4
              | succ i =>
                have := i6 i (Nat.lt_of_succ_lt_succ hi)
                rw [show z + 1 + i = z + (i + 1) by omega] at this
                exact this
        · rw [if_neg (fun y => c2 y.2)] at hsg
          have h3 := hsg.1 _ rfl
          rw [if_neg c2]
          have hrun := hpre _ h3
          rw [if_neg (show ¬ ¬ nI 0 = 0 from fun y => y rfl), e_rz0] at hrun
          exact ⟨_, 0, hrun, MFc_tr fr (MFc_50 (Or.inl rfl)) (Nat.le_refl z), rfl, e_u2s, by omega⟩
theorem C_readModel (hc : CS u) {n tl : Nat} {tb : Nat → Int32} (hA : CAt m tl tb) (hn : n ≤ tl) (htl : tl ≤ 100) : ∃ m' fl, F_X9_readModel 50 (nI n) (pm m j u) = some (nI fl, pm m' j u) ∧ (∀ b, b ≠ 50 → b ≠ 52 → b ≠ 53 → b ≠ 54 → b ≠ 55 → m' b = m b) ∧ (∀ k, k ≠ 2 → k ≠ 3 → k ≠ 4 → m' 50 k = m 50 k) ∧ modOK m' 0 fl (ptext tb n) := by
  obtain ⟨m', fl, a1, a2, a3⟩ := C_rmL (j := j) (n := n) (tb := tb) hc 5 0 LF (u2 (u2 m 50 2 (nI 0)) 50 3 (nI n)) 0 (by omega) (by unfold LF; omega) ⟨by omega, e_u2s, fun i hi => by rw [e_u2a (by decide), e_u2a (by decide)]; exact hA.2 i (by omega)⟩ (by rw [e_u2k (by decide), e_u2s]) (by omega)
  refine ⟨m', fl, ?_, fun b h1 h2 h3 h4 h5 => by rw [a2.1 b h1 h2 h3 h4 h5, e_u2r h1, e_u2r h1], fun k h1 h2 h3 => by rw [a2.2.1 k h1 h3, e_u2k h2, e_u2k h1], a3⟩
  unfold F_X9_readModel
  rw [cP_50 hc, cP_50 hc, e_jn, e_jn, e_jn, e_jn, show F_X9_readModel_L12 50 (fun h3 => rz 0 h3) (fun h4 => rz 0 h4) (fun h5 => rz 1 h5) (fun h6 => rz 0 h6) LF 0 (pm (u2 (u2 m 50 2 0) 50 3 (nI n)) j u) = _ from a1]
end CRD
