/-! ===== the law: facet, round, plan, polish, told, match ===== -/
theorem ch_le {n d k S : Nat} {pr : Nat → Nat → Bool} {ap : Nat → Nat → Nat} : ch n pr ap d k S ≤ n := by
  unfold ch
  by_cases c : vl n pr ap d (clr S k) + 1 ≤ mxv (pP pr k S) (fun i => vl n pr ap d (clr (clr S k) i) + (1000000 - ap k i)) n
  · rw [if_pos c]
    have := (amx_ok (pP pr k S) (fun i => vl n pr ap d (clr (clr S k) i) + (1000000 - ap k i)) n (by omega)).1
    omega
  · rw [if_neg c]; exact Nat.zero_le _
theorem cw_le {n : Nat} {pr : Nat → Nat → Bool} {ap : Nat → Nat → Nat} : ∀ (d S : Nat) (W : Nat → Nat), d ≤ n → (∀ k, W k ≤ n) → ∀ k, cw n pr ap d S W k ≤ n := by
  intro d
  induction d with
  | zero => intro S W _ h k; exact h k
  | succ d ih =>
    intro S W hd h k
    rw [cw]
    by_cases c : S.testBit (n - (d + 1)) = true
    · rw [if_pos c]
      have hl := ch_le (n := n) (d := d) (k := n - (d + 1)) (S := S) (pr := pr) (ap := ap)
      by_cases e : ch n pr ap d (n - (d + 1)) S = 0
      · rw [if_pos e]; exact ih _ _ (by omega) h k
      · rw [if_neg e]
        refine ih _ _ (by omega) (fun x => ?_) k
        unfold w2
        by_cases e1 : x = n - (d + 1)
        · rw [if_pos e1]; omega
        · rw [if_neg e1]
          by_cases e2 : x = ch n pr ap d (n - (d + 1)) S - 1
          · rw [if_pos e2]; omega
          · rw [if_neg e2]; exact h x
    · rw [if_neg c]; exact ih _ _ (by omega) h k
theorem SD_mt {nS nL : Nat} {sg ix an : Nat → Nat → Nat} (h : SD nS nL sg ix an) : SD nS nL (mtS sg nS) ix an := by
  refine ⟨h.1, fun s hs => ?_⟩
  have w : ∀ k, k ≠ 5 → mtS sg nS s k = sg s k := fun k h1 => by unfold mtS matS; rw [if_neg (fun z => h1 z.1)]
  have w5 : mtS sg nS s 5 ≤ nS := by
    have hW : ∀ k, mtW sg nS k ≤ mtN sg nS := cw_le _ _ _ (Nat.le_refl _) (fun _ => Nat.zero_le _)
    have hT : ∀ k, k < mtN sg nS → mtT sg nS k < nS := fun k hk => ((col_ok sg nS).2.1 k hk).1
    unfold mtS matS
    by_cases c : 5 = 5 ∧ fa_first (fun p => decide (mtT sg nS p = s)) (mtN sg nS) < mtN sg nS ∧ mtW sg nS (fa_first (fun p => decide (mtT sg nS p = s)) (mtN sg nS)) ≠ 0
    · rw [if_pos c]
      have a := hW (fa_first (fun p => decide (mtT sg nS p = s)) (mtN sg nS))
      have b := hT (mtW sg nS (fa_first (fun p => decide (mtT sg nS p = s)) (mtN sg nS)) - 1) (by have := c.2.2; omega)
      omega
    · rw [if_neg c]; exact (h.2 s hs).2.2.2.1
  rw [w 0 (by decide), w 1 (by decide), w 2 (by decide), w 3 (by decide), w 4 (by decide), w 6 (by decide), w 7 (by decide)]
  obtain ⟨a1, a2, a3, a4, a5⟩ := h.2 s hs
  exact ⟨a1, a2, a3, w5, a5⟩
theorem SD_pol {nS nL s : Nat} {sg ix an : Nat → Nat → Nat} (h : SD nS nL sg ix an) (hs : s < nS) : SD nS nL (polS sg ix an s) ix an := by
  refine ⟨h.1, fun t ht => ?_⟩
  obtain ⟨a1, a2, a3, a4, a5⟩ := h.2 t ht
  by_cases e : t = s
  · subst e
    have w : ∀ k, k ≠ 0 → k ≠ 4 → polS sg ix an t t k = sg t k := fun k h1 h2 => by unfold polS u2; rw [if_pos rfl, if_neg h2, if_pos rfl, if_neg h1]
    have w0 : polS sg ix an t t 0 = polG sg ix an t := by unfold polS u2; rw [if_pos rfl, if_neg (by decide), if_pos rfl, if_pos rfl]
    have w4 : polS sg ix an t t 4 = 1 := by unfold polS u2; rw [if_pos rfl, if_pos rfl]
    rw [w 1 (by decide) (by decide), w 2 (by decide) (by decide), w 3 (by decide) (by decide), w 5 (by decide) (by decide), w 6 (by decide) (by decide), w 7 (by decide) (by decide), w0, w4]
    refine ⟨Nat.le_trans ?_ a1, a2, Nat.le_refl _, a4, a5⟩
    unfold polG
    exact grd_le _ _ _
  · have w : ∀ k, polS sg ix an s t k = sg t k := fun k => by unfold polS u2; rw [if_neg e, if_neg e]
    rw [w 0, w 1, w 2, w 3, w 4, w 5, w 6, w 7]
    exact ⟨a1, a2, a3, a4, a5⟩
theorem SD_fc {nS nL s p q : Nat} {sg ix an : Nat → Nat → Nat} (h : SD nS nL sg ix an) (hp : p ≤ 95) (hq : q ≤ 90) (h3 : sg s 3 < 8) : SD nS nL (u2 sg s 3 (sg s 3 + 1)) (u2 ix s (sg s 3) p) (u2 an s (sg s 3) q) := by
  refine ⟨h.1, fun t ht => ?_⟩
  obtain ⟨a1, a2, a3, a4, a5, a6, a7, a8, a9, a10⟩ := h.2 t ht
  by_cases e : t = s
  · subst e
    have w : ∀ k, k ≠ 3 → u2 sg t 3 (sg t 3 + 1) t k = sg t k := fun k h1 => by unfold u2; rw [if_pos rfl, if_neg h1]
    have w3 : u2 sg t 3 (sg t 3 + 1) t 3 = sg t 3 + 1 := by unfold u2; rw [if_pos rfl, if_pos rfl]
    rw [w 0 (by decide), w 1 (by decide), w 2 (by decide), w 4 (by decide), w 5 (by decide), w 6 (by decide), w 7 (by decide), w3]
    refine ⟨a1, by omega, a3, a4, a5, a6, a7, a8, a9, fun f hf => ?_⟩
    unfold u2
    rw [if_pos rfl, if_pos rfl]
    by_cases c : f = sg t 3
    · rw [if_pos c, if_pos c]; exact ⟨hp, hq⟩
    · rw [if_neg c, if_neg c]; exact a10 f (by omega)
  · have w : ∀ k, u2 sg s 3 (sg s 3 + 1) t k = sg t k := fun k => by unfold u2; rw [if_neg e]
    rw [w 0, w 1, w 2, w 3, w 4, w 5, w 6, w 7]
    refine ⟨a1, a2, a3, a4, a5, a6, a7, a8, a9, fun f hf => ?_⟩
    unfold u2
    rw [if_neg e, if_neg e]
    exact a10 f hf
section LAW5
variable {L : Nat} {xs : Nat → Int32} {m : IM} {j : JM} {u : SU}
theorem Fz_ue {m1 : IM} {lo hi : Nat} (h : Fz lo hi m m1) : UE (fun b => b < 4000 ∧ (b < lo ∨ hi < b)) m m1 j j u u := UE.int (fun b hb => h b hb.1 hb.2)
theorem L_facet (h : INV L xs m j u) (x y z : Int32) : STP L xs (F_L_facet 10 x y z 5) (F_X12_facet 200 x y z) m j u := by
  obtain ⟨nR, sd, tl, tb, nM, ly, ps, pf, pp, nS, sg, ix, an, nL, br, bd, lm, ri, ci, dd, ei⟩ := h
  have ci2 := ci
  have dd2 := dd
  obtain ⟨c0, c1, c2, c3, c4, c5, c6, c7, c8⟩ := ci2
  obtain ⟨d1, d2, d3, d4, d5, d6⟩ := dd2
  have hnR := ri.2.1.1
  have hnM := d3.1
  have hnS := d5.1
  have hnL := d6.1
  by_cases hx : ∃ s, s < nS ∧ x = nI s
  case neg => exact st_l (c := 1) ri ci dd ei (C_facet1 c0 c5 hnS hx) (fun _ => rfl) (by decide) KO.rf ci (fun hr => R_facet1 hr.1 hnS hr.2.2.2.2.2.1.1 hx)
  obtain ⟨s, hs, rfl⟩ := hx
  by_cases hy : (∃ p, p < 96 ∧ y = nI p) ∧ ∃ q, q < 91 ∧ z = nI q
  case neg => exact st_l (c := 2) ri ci dd ei (C_facet2 c0 c5 hnS hs hy) (fun _ => rfl) (by decide) KO.rf ci (fun hr => R_facet2 hr.1 hnS hr.2.2.2.2.2.1.1 hs (by
    by_cases k1 : ∃ p, p < 96 ∧ y = nI p
    · exact Or.inr (out_r (n := 90) (by decide) (fun k2 => hy ⟨k1, k2⟩))
    · exact Or.inl (out_r (n := 95) (by decide) k1)))
  obtain ⟨⟨p, hp, rfl⟩, q, hq, rfl⟩ := hy
  have hp : p ≤ 95 := by omega
  have hq : q ≤ 90 := by omega
  obtain ⟨s0, s3, s4, -⟩ := d5.2 s hs
  by_cases k4 : sg s 4 = 1
  · refine st_r ri ci ei (C_facet3 c0 d5 c5 hs hp hq (Or.inl k4)) KO.rf ci dd (fun j2 hr => ⟨_, ?_, e_u2s, ou0, RI_0 hr⟩)
    rw [if_pos k4]
    exact R_facet3 hr.1 d5 hr.2.2.2.2.2.1 hs hp hq k4
  have k4' : sg s 4 = 0 := by omega
  by_cases k3 : sg s 3 = 8
  · refine st_r ri ci ei (C_facet3 c0 d5 c5 hs hp hq (Or.inr ⟨k4', k3⟩)) KO.rf ci dd (fun j2 hr => ⟨_, ?_, e_u2s, ou0, RI_0 hr⟩)
    rw [if_neg k4]
    exact R_facet4 hr.1 d5 hr.2.2.2.2.2.1 hs hp hq k4' k3
  have k3' : sg s 3 < 8 := by omega
  obtain ⟨m1, a1, a2, a3⟩ := C_facet5 (j := j) c0 d5 c5 hs hp hq k4' k3'
  have U : UE (fun b => b < 4000) m m1 j j u u := UE.int a2
  refine st_r ri ci ei a1 (U.sub (fun b hb => by omega)) ⟨c0, CAr_ue c1 (U.sub (fun b hb => by omega)), CAt_fr c2 (by rw [(U 50 (by omega)).1]) (U 51 (by omega)).1, CAm_ue c3 (U.sub (fun b hb => by omega)), CAp_fr c4 (by rw [(U 60 (by omega)).1]) (U 61 (by omega)).1 (U 62 (by omega)).1, a3, CAl_fr c6 (U 100 (by omega)).1 (U 10 (by omega)).1 (U 101 (by omega)).1 (U 102 (by omega)).1 (U 103 (by omega)).1, SB_m c7 (U 1 (by omega)).1 (fun k hk => (U _ (by omega)).1), c8⟩ ⟨d1, d2, d3, d4, SD_fc d5 hp hq k3', d6⟩ (fun j2 hr => ?_)
  obtain ⟨h0, h1, h2, h3, h4, h5, h6⟩ := hr
  obtain ⟨m2, b1, b2, hF, b4⟩ := R_facet5 (j := j2) h0 d5 h5 hs hp hq k4' k3'
  exact ⟨m2, b1, b2, hF.ou (by decide), h0, RAr_fr h1 hF (by decide) (by decide), RAt_fr h2 hF (by decide) (by decide), RAm_fr h3 hF (by decide) (by decide), RAp_fr h4 hF (by decide) (by decide) (by decide), b4, RAl_fr h6 hF (by decide) (by decide) (by decide) (by decide)⟩
theorem L_round (h : INV L xs m j u) (x : Int32) : STP L xs (F_L_round 10 x 5) (F_X12_round 200 x) m j u := by
  obtain ⟨nR, sd, tl, tb, nM, ly, ps, pf, pp, nS, sg, ix, an, nL, br, bd, lm, ri, ci, dd, ei⟩ := h
  have ci2 := ci
  have dd2 := dd
  obtain ⟨c0, c1, c2, c3, c4, c5, c6, c7, c8⟩ := ci2
  obtain ⟨d1, d2, d3, d4, d5, d6⟩ := dd2
  have hnR := ri.2.1.1
  have hnM := d3.1
  have hnS := d5.1
  have hnL := d6.1
  by_cases hx : ∃ s, s < nS ∧ x = nI s
  case neg => exact st_l (c := 1) ri ci dd ei (C_round1 c0 c5 hnS hx) (fun _ => rfl) (by decide) KO.rf ci (fun hr => R_round1 hr.1 hnS hr.2.2.2.2.2.1.1 hx)
  obtain ⟨s, hs, rfl⟩ := hx
  obtain ⟨m1, a1, a2, a3⟩ := C_round (j := j) c0 d5 c5 hs
  have U := Fz_ue (j := j) (u := u) a2
  refine st_r ri ci ei a1 (U.sub (fun b hb => by omega)) ⟨c0, CAr_ue c1 (U.sub (fun b hb => by omega)), CAt_fr c2 (by rw [(U 50 (by omega)).1]) (U 51 (by omega)).1, CAm_ue c3 (U.sub (fun b hb => by omega)), CAp_fr c4 (by rw [(U 60 (by omega)).1]) (U 61 (by omega)).1 (U 62 (by omega)).1, a3, CAl_fr c6 (U 100 (by omega)).1 (U 10 (by omega)).1 (U 101 (by omega)).1 (U 102 (by omega)).1 (U 103 (by omega)).1, SB_m c7 (U 1 (by omega)).1 (fun k hk => (U _ (by omega)).1), c8⟩ dd (fun j2 hr => ?_)
  obtain ⟨h0, h1, h2, h3, h4, h5, h6⟩ := hr
  obtain ⟨m2, b1, b2, hF⟩ := R_round2 (j := j2) h0 d5 h5 hs
  exact ⟨m2, b1, b2, hF.ou (by decide), h0, RAr_fr h1 hF (by decide) (by decide), RAt_fr h2 hF (by decide) (by decide), RAm_fr h3 hF (by decide) (by decide), RAp_fr h4 hF (by decide) (by decide) (by decide), RAs_fr h5 hF (by decide) (by decide), RAl_fr h6 hF (by decide) (by decide) (by decide) (by decide)⟩
theorem L_plan (h : INV L xs m j u) (x y : Int32) : STP L xs (F_L_plan 10 x y 5) (F_X12_plan 200 x y) m j u := by
  obtain ⟨nR, sd, tl, tb, nM, ly, ps, pf, pp, nS, sg, ix, an, nL, br, bd, lm, ri, ci, dd, ei⟩ := h
  have ci2 := ci
  have dd2 := dd
  obtain ⟨c0, c1, c2, c3, c4, c5, c6, c7, c8⟩ := ci2
  obtain ⟨d1, d2, d3, d4, d5, d6⟩ := dd2
  have hnR := ri.2.1.1
  have hnM := d3.1
  have hnS := d5.1
  have hnL := d6.1
  by_cases hx : ∃ s, s < nS ∧ x = nI s
  case neg => exact st_l (c := 1) ri ci dd ei (C_plan1 c0 c5 hnS hx) (fun _ => rfl) (by decide) KO.rf ci (fun hr => R_plan1 hr.1 hnS hr.2.2.2.2.2.1.1 hx)
  obtain ⟨s, hs, rfl⟩ := hx
  obtain ⟨m1, a1, a2, a3⟩ := C_plan (j := j) (y := y) c0 d5 c5 hs
  have U := Fz_ue (j := j) (u := u) a2
  refine st_r ri ci ei a1 (U.sub (fun b hb => by omega)) ⟨c0, CAr_ue c1 (U.sub (fun b hb => by omega)), CAt_fr c2 (by rw [(U 50 (by omega)).1]) (U 51 (by omega)).1, CAm_ue c3 (U.sub (fun b hb => by omega)), CAp_fr c4 (by rw [(U 60 (by omega)).1]) (U 61 (by omega)).1 (U 62 (by omega)).1, a3, CAl_fr c6 (U 100 (by omega)).1 (U 10 (by omega)).1 (U 101 (by omega)).1 (U 102 (by omega)).1 (U 103 (by omega)).1, SB_m c7 (U 1 (by omega)).1 (fun k hk => (U _ (by omega)).1), c8⟩ dd (fun j2 hr => ?_)
  obtain ⟨h0, h1, h2, h3, h4, h5, h6⟩ := hr
  obtain ⟨m2, b1, b2, hF⟩ := R_plan2 (j := j2) (y := y) h0 d5 h5 hs
  exact ⟨m2, b1, b2, hF.ou (by decide), h0, RAr_fr h1 hF (by decide) (by decide), RAt_fr h2 hF (by decide) (by decide), RAm_fr h3 hF (by decide) (by decide), RAp_fr h4 hF (by decide) (by decide) (by decide), RAs_fr h5 hF (by decide) (by decide), RAl_fr h6 hF (by decide) (by decide) (by decide) (by decide)⟩
theorem L_polish (h : INV L xs m j u) (x : Int32) : STP L xs (F_L_polish 10 x 5) (F_X12_polish 200 x) m j u := by
  obtain ⟨nR, sd, tl, tb, nM, ly, ps, pf, pp, nS, sg, ix, an, nL, br, bd, lm, ri, ci, dd, ei⟩ := h
  have ci2 := ci
  have dd2 := dd
  obtain ⟨c0, c1, c2, c3, c4, c5, c6, c7, c8⟩ := ci2
  obtain ⟨d1, d2, d3, d4, d5, d6⟩ := dd2
  have hnR := ri.2.1.1
  have hnM := d3.1
  have hnS := d5.1
  have hnL := d6.1
  by_cases hx : ∃ s, s < nS ∧ x = nI s
  case neg => exact st_l (c := 1) ri ci dd ei (C_polish1 c0 c5 hnS hx) (fun _ => rfl) (by decide) KO.rf ci (fun hr => R_polish1 hr.1 hnS hr.2.2.2.2.2.1.1 hx)
  obtain ⟨s, hs, rfl⟩ := hx
  obtain ⟨s0, s3, s4, -⟩ := d5.2 s hs
  by_cases k : sg s 4 = 1 ∨ sg s 4 = 0 ∧ sg s 3 = 0
  · obtain ⟨m1, a1, a2, a3⟩ := C_polish2 (j := j) c0 d5 c5 hs k
    have U := Fz_ue (j := j) (u := u) a2
    refine st_r ri ci ei a1 (U.sub (fun b hb => by omega)) ⟨c0, CAr_ue c1 (U.sub (fun b hb => by omega)), CAt_fr c2 (by rw [(U 50 (by omega)).1]) (U 51 (by omega)).1, CAm_ue c3 (U.sub (fun b hb => by omega)), CAp_fr c4 (by rw [(U 60 (by omega)).1]) (U 61 (by omega)).1 (U 62 (by omega)).1, a3, CAl_fr c6 (U 100 (by omega)).1 (U 10 (by omega)).1 (U 101 (by omega)).1 (U 102 (by omega)).1 (U 103 (by omega)).1, SB_m c7 (U 1 (by omega)).1 (fun k hk => (U _ (by omega)).1), c8⟩ dd (fun j2 hr => ⟨_, R_polish2 hr.1 d5 hr.2.2.2.2.2.1 hs k, e_u2s, ou0, RI_0 hr⟩)
  have k4 : sg s 4 = 0 := by omega
  have k3 : sg s 3 ≠ 0 := by omega
  obtain ⟨m1, a1, a2, a3⟩ := C_polish3 (j := j) c0 d5 c5 hs k4 k3
  have U := Fz_ue (j := j) (u := u) a2
  refine st_r ri ci ei a1 (U.sub (fun b hb => by omega)) ⟨c0, CAr_ue c1 (U.sub (fun b hb => by omega)), CAt_fr c2 (by rw [(U 50 (by omega)).1]) (U 51 (by omega)).1, CAm_ue c3 (U.sub (fun b hb => by omega)), CAp_fr c4 (by rw [(U 60 (by omega)).1]) (U 61 (by omega)).1 (U 62 (by omega)).1, a3, CAl_fr c6 (U 100 (by omega)).1 (U 10 (by omega)).1 (U 101 (by omega)).1 (U 102 (by omega)).1 (U 103 (by omega)).1, SB_m c7 (U 1 (by omega)).1 (fun k hk => (U _ (by omega)).1), c8⟩ ⟨d1, d2, d3, d4, SD_pol d5 hs, d6⟩ (fun j2 hr => ?_)
  obtain ⟨h0, h1, h2, h3, h4, h5, h6⟩ := hr
  obtain ⟨m2, b1, b2, hF, b4⟩ := R_polish3 (j := j2) h0 d5 h5 hs k4 k3
  exact ⟨m2, b1, b2, hF.ou (by decide), h0, RAr_fr h1 hF (by decide) (by decide), RAt_fr h2 hF (by decide) (by decide), RAm_fr h3 hF (by decide) (by decide), RAp_fr h4 hF (by decide) (by decide) (by decide), b4, RAl_fr h6 hF (by decide) (by decide) (by decide) (by decide)⟩
theorem L_told (h : INV L xs m j u) (x y : Int32) : STP L xs (F_L_told 10 x y 5) (F_X12_told 200 x y) m j u := by
  obtain ⟨nR, sd, tl, tb, nM, ly, ps, pf, pp, nS, sg, ix, an, nL, br, bd, lm, ri, ci, dd, ei⟩ := h
  have ci2 := ci
  have dd2 := dd
  obtain ⟨c0, c1, c2, c3, c4, c5, c6, c7, c8⟩ := ci2
  obtain ⟨d1, d2, d3, d4, d5, d6⟩ := dd2
  have hnR := ri.2.1.1
  have hnM := d3.1
  have hnS := d5.1
  have hnL := d6.1
  by_cases hx : ∃ s, s < nS ∧ x = nI s
  case neg => exact st_l (c := 1) ri ci dd ei (C_told1 c0 c5 hnS hx) (fun _ => rfl) (by decide) KO.rf ci (fun hr => R_told1 hr.1 hnS hr.2.2.2.2.2.1.1 hx)
  obtain ⟨s, hs, rfl⟩ := hx
  by_cases hy : ∃ p, p < 7 ∧ y = nI p
  case neg => exact st_l (c := 2) ri ci dd ei (C_told2 c0 c5 hnS hs hy) (fun _ => rfl) (by decide) KO.rf ci (fun hr => R_told2 hr.1 hnS hr.2.2.2.2.2.1.1 hs (out_r (n := 6) (by decide) hy))
  obtain ⟨w, hw, rfl⟩ := hy
  exact st_r ri ci ei (C_told3 c0 d5 c5 hs (by omega)) KO.rf ci dd (fun j2 hr => ⟨_, R_told3 hr.1 d5 hr.2.2.2.2.2.1 hs (by omega), e_u2s, ou0, RI_0 hr⟩)
theorem L_match (h : INV L xs m j u) : STN L xs (F_X11_match 10) (F_X12_match 200) m j u := by
  obtain ⟨nR, sd, tl, tb, nM, ly, ps, pf, pp, nS, sg, ix, an, nL, br, bd, lm, ri, ci, dd, ei⟩ := h
  have ci2 := ci
  have dd2 := dd
  obtain ⟨c0, c1, c2, c3, c4, c5, c6, c7, c8⟩ := ci2
  obtain ⟨d1, d2, d3, d4, d5, d6⟩ := dd2
  have hnR := ri.2.1.1
  have hnM := d3.1
  have hnS := d5.1
  have hnL := d6.1
  obtain ⟨m1, a1, a2, a3⟩ := C_match (j := j) c0 d5 c5
  have U := Fz_ue (j := j) (u := u) a2
  refine st_n ri ei a1 (U.sub (fun b hb => by omega)) ⟨c0, CAr_ue c1 (U.sub (fun b hb => by omega)), CAt_fr c2 (by rw [(U 50 (by omega)).1]) (U 51 (by omega)).1, CAm_ue c3 (U.sub (fun b hb => by omega)), CAp_fr c4 (by rw [(U 60 (by omega)).1]) (U 61 (by omega)).1 (U 62 (by omega)).1, a3, CAl_fr c6 (U 100 (by omega)).1 (U 10 (by omega)).1 (U 101 (by omega)).1 (U 102 (by omega)).1 (U 103 (by omega)).1, SB_m c7 (U 1 (by omega)).1 (fun k hk => (U _ (by omega)).1), c8⟩ ⟨d1, d2, d3, d4, SD_mt d5, d6⟩ (fun hr => ?_)
  obtain ⟨h0, h1, h2, h3, h4, h5, h6⟩ := hr
  obtain ⟨m2, b1, b2, hF, b4⟩ := R_match (j := j) h0 d5 h5
  exact ⟨m2, b1, hF.ou (by decide), h0, RAr_fr h1 hF (by decide) (by decide), RAt_fr h2 hF (by decide) (by decide), RAm_fr h3 hF (by decide) (by decide), RAp_fr h4 hF (by decide) (by decide) (by decide), b4, RAl_fr h6 hF (by decide) (by decide) (by decide) (by decide)⟩
end LAW5
