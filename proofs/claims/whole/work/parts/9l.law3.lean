/-! ===== the law: best, sawn, cut, done ===== -/
theorem SD_add {n nL W q r : Nat} {sg ix an : Nat → Nat → Nat} (h : SD n nL sg ix an) (hn : n < 40) (hW : W ≤ 216) (hq : q < 6) (hr : r < 10) : SD (n + 1) nL (adS sg n W q r) ix an := by
  refine ⟨by omega, fun s hs => ?_⟩
  by_cases e : s = n
  · have k : ∀ k, adS sg n W q r s k = if k = 0 then 1000 * W else if k = 1 then r else if k = 2 then q else 0 := fun k => if_pos e
    rw [k 0, k 1, k 2, k 3, k 4, k 5, k 6, k 7]
    refine ⟨by show 1000 * W ≤ 216000; omega, Nat.zero_le 8, Nat.zero_le 1, Nat.zero_le _, Nat.zero_le _, Nat.zero_le 4, fun z => absurd rfl z, hr, hq, fun f hf => absurd hf (Nat.not_lt_zero _)⟩
  · have k : ∀ k, adS sg n W q r s k = sg s k := fun k => if_neg e
    rw [k 0, k 1, k 2, k 3, k 4, k 5, k 6, k 7]
    obtain ⟨a1, a2, a3, a4, a5⟩ := h.2 s (by omega)
    exact ⟨a1, a2, a3, by omega, a5⟩
theorem SD_dn {nS nL r nM ps : Nat} {sg ix an : Nat → Nat → Nat} {sd : Nat → Bool} {ly : Nat → List Lay} {pf pp : Nat → Nat} (h : SD nS nL sg ix an) (hD : MD nM ly) (hr : r < 10) (hc : nS + (bestN (wOf ps pf pp) (rgh sd r) nM ly).2.2.2.1 ≤ 40) : SD (nS + (bestN (wOf ps pf pp) (rgh sd r) nM ly).2.2.2.1) nL (dnS sg nS r (bestN (wOf ps pf pp) (rgh sd r) nM ly)) ix an := by
  obtain ⟨o1, o2, o3⟩ := best_ok (wv := wOf ps pf pp) (S := rgh sd r) hD.1 (fun q hq => okM_of hD hq) 12
  have hbn : bstF (cutK (wOf ps pf pp) (rgh sd r) nM ly) 12 = bestN (wOf ps pf pp) (rgh sd r) nM ly := rfl
  rw [hbn] at o1 o2 o3
  generalize bestN (wOf ps pf pp) (rgh sd r) nM ly = b at *
  have hM := hD.1
  unfold dnS
  rcases (show b.2.2.2.1 = 0 ∨ b.2.2.2.1 = 1 ∨ b.2.2.2.1 = 2 by omega) with e | e | e
  · rw [e, if_pos rfl]; exact h
  · rw [e] at o2 hc ⊢
    rw [if_neg (by decide), if_pos rfl]
    obtain ⟨-, p1, -, p2⟩ := o2 (by omega)
    exact SD_add h (by omega) p2 (by omega) hr
  · rw [e] at o2 o3 hc ⊢
    rw [if_neg (by decide), if_neg (by decide)]
    obtain ⟨-, p1, -, p2⟩ := o2 (by omega)
    obtain ⟨-, q1, -, q2⟩ := o3 (by omega)
    exact SD_add (SD_add h (by omega) p2 (by omega) hr) (by omega) q2 (by omega) hr
section LAW4
variable {L : Nat} {xs : Nat → Int32} {m : IM} {j : JM} {u : SU}
theorem CQ_ue {m1 : IM} {j1 : JM} {nR nM ps : Nat} {sd : Nat → Bool} {ly : Nat → List Lay} {pf pp : Nat → Nat} (h : CQ m m1 j j1 u nR sd nM ly ps pf pp) : UE (fun b => b ≠ 72 ∧ b ≠ 73 ∧ b ≠ 74 ∧ (b < 1071 ∨ 1119 < b ∨ b % 2 = 0) ∧ (b < 2000 ∨ 3000 ≤ b)) m m1 j j1 u u := UE.mj (fun b hb => ⟨h.1 b hb.1 hb.2.2.1 hb.2.2.2.1 hb.2.2.2.2, h.2.1 b hb.2.1⟩)
theorem L_best (h : INV L xs m j u) (x : Int32) : STP L xs (F_L_best 10 x 5) (F_X12_best 200 x) m j u := by
  obtain ⟨nR, sd, tl, tb, nM, ly, ps, pf, pp, nS, sg, ix, an, nL, br, bd, lm, ri, ci, dd, ei⟩ := h
  have ci2 := ci
  have dd2 := dd
  obtain ⟨c0, c1, c2, c3, c4, c5, c6, c7, c8⟩ := ci2
  obtain ⟨d1, d2, d3, d4, d5, d6⟩ := dd2
  have hnR := ri.2.1.1
  have hnM := d3.1
  have hnS := d5.1
  have hnL := d6.1
  by_cases hx : ∃ r, r < nR ∧ x = nI r
  case neg => exact st_l (c := 1) ri ci dd ei (C_best1 c0 c1 hnR hx) (fun _ => rfl) (by decide) KO.rf ci (fun hr => R_best1 hr.1 hr.2.1 hx)
  obtain ⟨r, hr, rfl⟩ := hx
  obtain ⟨m1, j1, a1, a2⟩ := C_best2 c0 hr hnR d3 d4 c1 c3 c4 c7
  have U := CQ_ue a2
  refine st_r ri ci ei a1 (U.sub (fun b hb => by omega)) ⟨c0, a2.2.2, CAt_fr c2 (by rw [(U 50 (by omega)).1]) (U 51 (by omega)).1, CAm_ue c3 (U.sub (fun b hb => by omega)), CAp_fr c4 (by rw [(U 60 (by omega)).1]) (U 61 (by omega)).1 (U 62 (by omega)).1, CAs_ue c5 (U.sub (fun b hb => by omega)), CAl_fr c6 (U 100 (by omega)).1 (U 10 (by omega)).1 (U 101 (by omega)).1 (U 102 (by omega)).1 (U 103 (by omega)).1, SB_m c7 (U 1 (by omega)).1 (fun k hk => (U _ (by omega)).1), c8⟩ dd (fun j2 hr2 => ?_)
  obtain ⟨h0, h1, h2, h3, h4, h5, h6⟩ := hr2
  obtain ⟨m2, b1, b2, hF⟩ := R_best2 (j := j2) h0 hr d3 d4 ⟨h1, h3, h4⟩
  exact ⟨m2, b1, b2, hF.ou (by decide), h0, RAr_fr h1 hF (by decide) (by decide), RAt_fr h2 hF (by decide) (by decide), RAm_fr h3 hF (by decide) (by decide), RAp_fr h4 hF (by decide) (by decide) (by decide), RAs_fr h5 hF (by decide) (by decide), RAl_fr h6 hF (by decide) (by decide) (by decide) (by decide)⟩
theorem L_sawn (h : INV L xs m j u) (x y : Int32) : STP L xs (F_L_sawn 10 x y 5) (F_X12_sawn 200 x y) m j u := by
  obtain ⟨nR, sd, tl, tb, nM, ly, ps, pf, pp, nS, sg, ix, an, nL, br, bd, lm, ri, ci, dd, ei⟩ := h
  have ci2 := ci
  have dd2 := dd
  obtain ⟨c0, c1, c2, c3, c4, c5, c6, c7, c8⟩ := ci2
  obtain ⟨d1, d2, d3, d4, d5, d6⟩ := dd2
  have hnR := ri.2.1.1
  have hnM := d3.1
  have hnS := d5.1
  have hnL := d6.1
  by_cases hx : ∃ r, r < nR ∧ x = nI r
  case neg => exact st_l (c := 1) ri ci dd ei (C_sawn1 c0 c1 hnR hx) (fun _ => rfl) (by decide) KO.rf ci (fun hr => R_sawn1 hr.1 hr.2.1 hx)
  obtain ⟨r, hr, rfl⟩ := hx
  by_cases hy : ∃ s, s < 3 ∧ y = nI s
  case neg =>
    obtain ⟨m1, j1, a1, a2⟩ := C_sawn2 c0 hr hnR d3 d4 c1 c3 c4 c7 hy
    have U := CQ_ue a2
    exact st_l (c := 2) ri ci dd ei a1 (fun _ => rfl) (by decide) (U.sub (fun b hb => by omega)) ⟨c0, a2.2.2, CAt_fr c2 (by rw [(U 50 (by omega)).1]) (U 51 (by omega)).1, CAm_ue c3 (U.sub (fun b hb => by omega)), CAp_fr c4 (by rw [(U 60 (by omega)).1]) (U 61 (by omega)).1 (U 62 (by omega)).1, CAs_ue c5 (U.sub (fun b hb => by omega)), CAl_fr c6 (U 100 (by omega)).1 (U 10 (by omega)).1 (U 101 (by omega)).1 (U 102 (by omega)).1 (U 103 (by omega)).1, SB_m c7 (U 1 (by omega)).1 (fun k hk => (U _ (by omega)).1), c8⟩ (fun hq => R_sawn2 hq.1 hq.2.1 hr (out_r (n := 2) (by decide) hy))
  obtain ⟨w, hw, rfl⟩ := hy
  obtain ⟨m1, j1, a1, a2⟩ := C_sawn3 c0 hr hnR d3 d4 c1 c3 c4 c7 (show w ≤ 2 by omega)
  have U := CQ_ue a2
  refine st_r ri ci ei a1 (U.sub (fun b hb => by omega)) ⟨c0, a2.2.2, CAt_fr c2 (by rw [(U 50 (by omega)).1]) (U 51 (by omega)).1, CAm_ue c3 (U.sub (fun b hb => by omega)), CAp_fr c4 (by rw [(U 60 (by omega)).1]) (U 61 (by omega)).1 (U 62 (by omega)).1, CAs_ue c5 (U.sub (fun b hb => by omega)), CAl_fr c6 (U 100 (by omega)).1 (U 10 (by omega)).1 (U 101 (by omega)).1 (U 102 (by omega)).1 (U 103 (by omega)).1, SB_m c7 (U 1 (by omega)).1 (fun k hk => (U _ (by omega)).1), c8⟩ dd (fun j2 hr2 => ?_)
  obtain ⟨h0, h1, h2, h3, h4, h5, h6⟩ := hr2
  obtain ⟨m2, b1, b2, hF⟩ := R_sawn3 (j := j2) h0 hr (show w ≤ 2 by omega) d3 d4 ⟨h1, h3, h4⟩
  exact ⟨m2, b1, b2, hF.ou (by decide), h0, RAr_fr h1 hF (by decide) (by decide), RAt_fr h2 hF (by decide) (by decide), RAm_fr h3 hF (by decide) (by decide), RAp_fr h4 hF (by decide) (by decide) (by decide), RAs_fr h5 hF (by decide) (by decide), RAl_fr h6 hF (by decide) (by decide) (by decide) (by decide)⟩
theorem L_cut (h : INV L xs m j u) (x y z : Int32) : STP L xs (F_L_cut 10 x y z 5) (F_X12_cut 200 x y z) m j u := by
  obtain ⟨nR, sd, tl, tb, nM, ly, ps, pf, pp, nS, sg, ix, an, nL, br, bd, lm, ri, ci, dd, ei⟩ := h
  have ci2 := ci
  have dd2 := dd
  obtain ⟨c0, c1, c2, c3, c4, c5, c6, c7, c8⟩ := ci2
  obtain ⟨d1, d2, d3, d4, d5, d6⟩ := dd2
  have hnR := ri.2.1.1
  have hnM := d3.1
  have hnS := d5.1
  have hnL := d6.1
  by_cases hx : ∃ r, r < nR ∧ x = nI r
  case neg => exact st_l (c := 1) ri ci dd ei (C_cut1 c0 c1 hnR hx) (fun _ => rfl) (by decide) KO.rf ci (fun hr => R_cut1 hr.1 hr.2.1 hx)
  obtain ⟨r, hr, rfl⟩ := hx
  by_cases hz : ∃ s, s < 7 ∧ z = nI s
  case neg =>
    obtain ⟨m1, j1, a1, a2⟩ := C_cut2 c0 (y := y) hr hnR d3 d4 c1 c3 c4 c7 hz
    have U := CQ_ue a2
    exact st_l (c := 2) ri ci dd ei a1 (fun _ => rfl) (by decide) (U.sub (fun b hb => by omega)) ⟨c0, a2.2.2, CAt_fr c2 (by rw [(U 50 (by omega)).1]) (U 51 (by omega)).1, CAm_ue c3 (U.sub (fun b hb => by omega)), CAp_fr c4 (by rw [(U 60 (by omega)).1]) (U 61 (by omega)).1 (U 62 (by omega)).1, CAs_ue c5 (U.sub (fun b hb => by omega)), CAl_fr c6 (U 100 (by omega)).1 (U 10 (by omega)).1 (U 101 (by omega)).1 (U 102 (by omega)).1 (U 103 (by omega)).1, SB_m c7 (U 1 (by omega)).1 (fun k hk => (U _ (by omega)).1), c8⟩ (fun hq => R_cut2 hq.1 hq.2.1 hr (out_r (n := 6) (by decide) hz))
  obtain ⟨w, hw, rfl⟩ := hz
  obtain ⟨m1, j1, a1, a2⟩ := C_cut3 c0 (x := y) hr hnR d3 d4 c1 c3 c4 c7 (show w ≤ 6 by omega)
  have U := CQ_ue a2
  refine st_r ri ci ei a1 (U.sub (fun b hb => by omega)) ⟨c0, a2.2.2, CAt_fr c2 (by rw [(U 50 (by omega)).1]) (U 51 (by omega)).1, CAm_ue c3 (U.sub (fun b hb => by omega)), CAp_fr c4 (by rw [(U 60 (by omega)).1]) (U 61 (by omega)).1 (U 62 (by omega)).1, CAs_ue c5 (U.sub (fun b hb => by omega)), CAl_fr c6 (U 100 (by omega)).1 (U 10 (by omega)).1 (U 101 (by omega)).1 (U 102 (by omega)).1 (U 103 (by omega)).1, SB_m c7 (U 1 (by omega)).1 (fun k hk => (U _ (by omega)).1), c8⟩ dd (fun j2 hr2 => ?_)
  obtain ⟨h0, h1, h2, h3, h4, h5, h6⟩ := hr2
  obtain ⟨m2, b1, b2, hF⟩ := R_cut3 (j := j2) h0 (x := y) hr (show w ≤ 6 by omega) d3 d4 ⟨h1, h3, h4⟩
  exact ⟨m2, b1, b2, hF.ou (by decide), h0, RAr_fr h1 hF (by decide) (by decide), RAt_fr h2 hF (by decide) (by decide), RAm_fr h3 hF (by decide) (by decide), RAp_fr h4 hF (by decide) (by decide) (by decide), RAs_fr h5 hF (by decide) (by decide), RAl_fr h6 hF (by decide) (by decide) (by decide) (by decide)⟩
theorem L_done (h : INV L xs m j u) (x : Int32) : STP L xs (F_L_done 10 x 5) (F_X12_done 200 x) m j u := by
  obtain ⟨nR, sd, tl, tb, nM, ly, ps, pf, pp, nS, sg, ix, an, nL, br, bd, lm, ri, ci, dd, ei⟩ := h
  have ci2 := ci
  have dd2 := dd
  obtain ⟨c0, c1, c2, c3, c4, c5, c6, c7, c8⟩ := ci2
  obtain ⟨d1, d2, d3, d4, d5, d6⟩ := dd2
  have hnR := ri.2.1.1
  have hnM := d3.1
  have hnS := d5.1
  have hnL := d6.1
  by_cases hx : ∃ r, r < nR ∧ x = nI r
  case neg => exact st_l (c := 1) ri ci dd ei (C_done1 c0 c1 hnR hx) (fun _ => rfl) (by decide) KO.rf ci (fun hr => R_done1 hr.1 hr.2.1 hx)
  obtain ⟨r, hr, rfl⟩ := hx
  by_cases hc : nS + (bestN (wOf ps pf pp) (rgh sd r) nM ly).2.2.2.1 ≤ 40
  case neg =>
    obtain ⟨m1, j1, a1, a2⟩ := C_done2 c0 hr hnR d3 d4 c1 c3 c4 c7 c5 hnS (Nat.lt_of_not_le hc)
    have U := CQ_ue a2
    refine st_r ri ci ei a1 (U.sub (fun b hb => by omega)) ⟨c0, a2.2.2, CAt_fr c2 (by rw [(U 50 (by omega)).1]) (U 51 (by omega)).1, CAm_ue c3 (U.sub (fun b hb => by omega)), CAp_fr c4 (by rw [(U 60 (by omega)).1]) (U 61 (by omega)).1 (U 62 (by omega)).1, CAs_ue c5 (U.sub (fun b hb => by omega)), CAl_fr c6 (U 100 (by omega)).1 (U 10 (by omega)).1 (U 101 (by omega)).1 (U 102 (by omega)).1 (U 103 (by omega)).1, SB_m c7 (U 1 (by omega)).1 (fun k hk => (U _ (by omega)).1), c8⟩ dd (fun j2 hr2 => ?_)
    obtain ⟨h0, h1, h2, h3, h4, h5, h6⟩ := hr2
    obtain ⟨m2, b1, b2, hF⟩ := R_done2 (j := j2) h0 hr d3 d4 ⟨h1, h3, h4⟩ h5.1 hnS (Nat.lt_of_not_le hc)
    exact ⟨m2, b1, b2, hF.ou (by decide), h0, RAr_fr h1 hF (by decide) (by decide), RAt_fr h2 hF (by decide) (by decide), RAm_fr h3 hF (by decide) (by decide), RAp_fr h4 hF (by decide) (by decide) (by decide), RAs_fr h5 hF (by decide) (by decide), RAl_fr h6 hF (by decide) (by decide) (by decide) (by decide)⟩
  obtain ⟨m1, j1, u1, a1, a2, a3, a4, a5, a6⟩ := C_done3 c0 hr hnR d3 d4 c1 c3 c4 c7 c5 c8 hc
  have U : UE (fun b => (b < 40 ∨ 50 ≤ b) ∧ b ≠ 72 ∧ b ≠ 73 ∧ b ≠ 74 ∧ (b < 1071 ∨ 1119 < b ∨ b % 2 = 0) ∧ (b < 2000 ∨ 3000 ≤ b) ∧ b < 4000) m m1 j j1 u u1 := a2
  refine st_r ri ci ei a1 (U.sub (fun b hb => by omega)) ⟨a3, a6, CAt_fr c2 (by rw [(U 50 (by omega)).1]) (U 51 (by omega)).1, CAm_ue c3 (U.sub (fun b hb => by omega)), CAp_fr c4 (by rw [(U 60 (by omega)).1]) (U 61 (by omega)).1 (U 62 (by omega)).1, a4, CAl_fr c6 (U 100 (by omega)).1 (U 10 (by omega)).1 (U 101 (by omega)).1 (U 102 (by omega)).1 (U 103 (by omega)).1, SB_m c7 (U 1 (by omega)).1 (fun k hk => (U _ (by omega)).1), a5⟩ ⟨fun i hi => ?_, d2, d3, d4, SD_dn d5 d3 (by omega) hc, d6⟩ (fun j2 hr2 => ?_)
  · unfold clrS
    by_cases c : 216 * r ≤ i ∧ i < 216 * r + 216
    · rw [if_pos c]
    · rw [if_neg c]; exact d1 i hi
  · obtain ⟨h0, h1, h2, h3, h4, h5, h6⟩ := hr2
    obtain ⟨m2, b1, b2, hF, b4, b5⟩ := R_done3 (j := j2) h0 hr d3 d4 ⟨h1, h3, h4⟩ h5 hc
    exact ⟨m2, b1, b2, hF.ou (by decide), h0, b4, RAt_fr h2 hF (by decide) (by decide), RAm_fr h3 hF (by decide) (by decide), RAp_fr h4 hF (by decide) (by decide) (by decide), b5, RAl_fr h6 hF (by decide) (by decide) (by decide) (by decide)⟩
end LAW4
