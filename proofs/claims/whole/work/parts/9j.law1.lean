/-! ===== the law: rough, scan, stuff, feed ===== -/
section LAW2
variable {L : Nat} {xs : Nat → Int32} {m : IM} {j : JM} {u : SU}
theorem UE.mj {P : Nat → Prop} {m1 m2 : IM} {j1 j2 : JM} {u : SU} (h : ∀ b, P b → m2 b = m1 b ∧ j2 b = j1 b) : UE P m1 m2 j1 j2 u u := fun b hb => ⟨(h b hb).1, (h b hb).2, rfl, rfl, rfl⟩
theorem L_rough (h : INV L xs m j u) : STN L xs (F_X11_rough 10) (F_X12_rough 200) m j u := by
  obtain ⟨nR, sd, tl, tb, nM, ly, ps, pf, pp, nS, sg, ix, an, nL, br, bd, lm, ri, ci, dd, ei⟩ := h
  have ci2 := ci
  have dd2 := dd
  obtain ⟨c0, c1, c2, c3, c4, c5, c6, c7, c8⟩ := ci2
  obtain ⟨d1, d2, d3, d4, d5, d6⟩ := dd2
  have hnR := ri.2.1.1
  have hnM := d3.1
  have hnS := d5.1
  have hnL := d6.1
  by_cases c : nR = 10
  · exact st_n ri ei (C_rough1 c0 c1 c) KO.rf ci dd (fun hr => ⟨_, by rw [R_rough hr.1 hr.2.1, if_pos c], ou0, RI_0 hr⟩)
  · obtain ⟨m1, j1, u1, a1, U, a3, a4⟩ := C_rough2 c0 c1 (by omega) c8 (fun i g1 g2 => d1 i g1)
    refine st_n ri ei a1 (U.sub (fun b hb => by omega)) ⟨a3, a4, CAt_fr c2 (by rw [(U 50 (by omega)).1]) (U 51 (by omega)).1, CAm_ue c3 (U.sub (fun b hb => by omega)), CAp_fr c4 (by rw [(U 60 (by omega)).1]) (U 61 (by omega)).1 (U 62 (by omega)).1, CAs_ue c5 (U.sub (fun b hb => by omega)), CAl_fr c6 (U 100 (by omega)).1 (U 10 (by omega)).1 (U 101 (by omega)).1 (U 102 (by omega)).1 (U 103 (by omega)).1, SB_m c7 (U 1 (by omega)).1 (fun k hk => (U _ (by omega)).1), fun x hx => ?_⟩ ⟨fun i hi => d1 i (by omega), d2, d3, d4, d5, d6⟩ (fun hr => ?_)
    · rw [(U x (by omega)).2.2.2.1]; exact c8 x (by omega)
    · obtain ⟨h0, h1, h2, h3, h4, h5, h6⟩ := hr
      have hF : Fr [] [0, 1] m1 (u2 (u2 m1 200 0 0) 200 1 (nI (nR + 1))) := (Fr.fld (by decide)).tr (Fr.fld (by decide))
      refine ⟨_, by rw [R_rough h0 h1, if_neg c], hF.ou (by decide), h0, ⟨by omega, e_u2s, fun i hi => ?_⟩, RAt_fr h2 hF (by decide) (by decide), RAm_fr h3 hF (by decide) (by decide), RAp_fr h4 hF (by decide) (by decide) (by decide), RAs_fr h5 hF (by decide) (by decide), RAl_fr h6 hF (by decide) (by decide) (by decide) (by decide)⟩
      rw [hF.1 201 (by decide) (by decide)]; exact h1.2.2 i hi
theorem L_scan (h : INV L xs m j u) (x z : Int32) (b f : Int64) : STP L xs (F_L_scan 10 x z b f 5) (F_X12_scan 200 x z b f) m j u := by
  obtain ⟨nR, sd, tl, tb, nM, ly, ps, pf, pp, nS, sg, ix, an, nL, br, bd, lm, ri, ci, dd, ei⟩ := h
  have ci2 := ci
  have dd2 := dd
  obtain ⟨c0, c1, c2, c3, c4, c5, c6, c7, c8⟩ := ci2
  obtain ⟨d1, d2, d3, d4, d5, d6⟩ := dd2
  have hnR := ri.2.1.1
  have hnM := d3.1
  have hnS := d5.1
  have hnL := d6.1
  by_cases hx : ∃ r, r < nR ∧ x = nI r
  case neg => exact st_l (c := 1) ri ci dd ei (C_scan1 c0 c1 hnR hx) (fun _ => rfl) (by decide) KO.rf ci (fun hr => R_scan1 hr.1 hr.2.1 hx)
  obtain ⟨r, hr, rfl⟩ := hx
  by_cases hz : ∃ s, s < 6 ∧ z = nI s
  case neg => exact st_l (c := 1) ri ci dd ei (C_scan2 c0 c1 hnR hr hz) (fun _ => rfl) (by decide) KO.rf ci (fun hq => R_scan2 hq.1 hq.2.1 hr (out_r (n := 5) (by decide) hz))
  obtain ⟨z, hz, rfl⟩ := hz
  by_cases hb : isLay b ∧ isLay f
  case neg => exact st_l (c := 2) ri ci dd ei (C_scan3 c0 c1 hnR hr hz hb) (fun _ => rfl) (by decide) KO.rf ci (fun hq => R_scan3 hq.1 hq.2.1 hr hz hb)
  obtain ⟨B, hB, rfl⟩ := isLay_of hb.1
  obtain ⟨Fl, hFl, rfl⟩ := isLay_of hb.2
  obtain ⟨m1, j1, a1, a2, a3⟩ := C_scan4 (j := j) c0 c1 hnR hr hz hB hFl
  have U : UE (fun b => b < 2000 ∨ 3000 ≤ b) m m1 j j1 u u := UE.mj a2
  refine st_r ri ci ei a1 (U.sub (fun b hb => by omega)) (sd' := putS sd r z (fun i => B.testBit i && !Fl.testBit i)) ⟨c0, a3 _ (fun t ht => bb_cong d3 (fun i hi => ?_)), CAt_fr c2 (by rw [(U 50 (by omega)).1]) (U 51 (by omega)).1, CAm_ue c3 (U.sub (fun b hb => by omega)), CAp_fr c4 (by rw [(U 60 (by omega)).1]) (U 61 (by omega)).1 (U 62 (by omega)).1, CAs_ue c5 (U.sub (fun b hb => by omega)), CAl_fr c6 (U 100 (by omega)).1 (U 10 (by omega)).1 (U 101 (by omega)).1 (U 102 (by omega)).1 (U 103 (by omega)).1, SB_m c7 (U 1 (by omega)).1 (fun k hk => (U _ (by omega)).1), c8⟩ ⟨fun i hi => ?_, d2, d3, d4, d5, d6⟩ (fun j2 hr2 => ?_)
  · unfold putS; rw [if_neg (by omega)]
  · unfold putS; rw [if_neg (by omega)]; exact d1 i hi
  · have hr := hr
    obtain ⟨h0, h1, h2, h3, h4, h5, h6⟩ := hr2
    obtain ⟨m2, b1, b2, hF, b4⟩ := R_scan4 (j := j2) h0 h1 hr hz hB hFl
    exact ⟨m2, b1, b2, hF.ou (by decide), h0, b4, RAt_fr h2 hF (by decide) (by decide), RAm_fr h3 hF (by decide) (by decide), RAp_fr h4 hF (by decide) (by decide) (by decide), RAs_fr h5 hF (by decide) (by decide), RAl_fr h6 hF (by decide) (by decide) (by decide) (by decide)⟩
theorem L_stuff (h : INV L xs m j u) (x : Int32) : STP L xs (F_L_stuff 10 x 5) (F_X12_stuff 200 x) m j u := by
  obtain ⟨nR, sd, tl, tb, nM, ly, ps, pf, pp, nS, sg, ix, an, nL, br, bd, lm, ri, ci, dd, ei⟩ := h
  have ci2 := ci
  have dd2 := dd
  obtain ⟨c0, c1, c2, c3, c4, c5, c6, c7, c8⟩ := ci2
  obtain ⟨d1, d2, d3, d4, d5, d6⟩ := dd2
  have hnR := ri.2.1.1
  have hnM := d3.1
  have hnS := d5.1
  have hnL := d6.1
  by_cases hx : ∃ r, r < nR ∧ x = nI r
  case neg => exact st_l (c := 1) ri ci dd ei (C_stuff1 c0 c1 hnR hx) (fun _ => rfl) (by decide) KO.rf ci (fun hr => R_stuff1 hr.1 hr.2.1 hx)
  obtain ⟨r, hr, rfl⟩ := hx
  exact st_r ri ci ei (C_stuff2 c0 c1 hnR hr) KO.rf ci dd (fun j2 hr2 => ⟨_, R_stuff2 hr2.1 hr2.2.1 hr, e_u2s, ou0, RI_0 hr2⟩)
theorem L_feed (h : INV L xs m j u) (x1 x2 x3 x4 x5 : Int32) : STN L xs (F_X11_feed 10 x1 x2 x3 x4 x5) (F_X12_feed 200 x1 x2 x3 x4 x5) m j u := by
  obtain ⟨nR, sd, tl, tb, nM, ly, ps, pf, pp, nS, sg, ix, an, nL, br, bd, lm, ri, ci, dd, ei⟩ := h
  have ci2 := ci
  have dd2 := dd
  obtain ⟨c0, c1, c2, c3, c4, c5, c6, c7, c8⟩ := ci2
  obtain ⟨d1, d2, d3, d4, d5, d6⟩ := dd2
  have hnR := ri.2.1.1
  have hnM := d3.1
  have hnS := d5.1
  have hnL := d6.1
  by_cases c : 80 < tl
  · exact st_n ri ei (C_feed1 c0 c2.1 d2 c) KO.rf ci dd (fun hr => ⟨_, R_feed1 hr.1 d2 hr.2.2.1.1 c, ou0, RI_0 hr⟩)
  · obtain ⟨m1, a1, a2, a3⟩ := C_feed2 (j := j) c0 (a := x1) (b := x2) (c := x3) (d := x4) (e := x5) c2 (by omega)
    have U : UE (fun b => b ≠ 50 ∧ b ≠ 51) m m1 j j u u := UE.int (fun b hb => a2 b hb.1 hb.2)
    refine st_n ri ei a1 (U.sub (fun b hb => by omega)) ⟨c0, CAr_ue c1 (U.sub (fun b hb => by omega)), a3, CAm_ue c3 (U.sub (fun b hb => by omega)), CAp_fr c4 (by rw [(U 60 (by omega)).1]) (U 61 (by omega)).1 (U 62 (by omega)).1, CAs_ue c5 (U.sub (fun b hb => by omega)), CAl_fr c6 (U 100 (by omega)).1 (U 10 (by omega)).1 (U 101 (by omega)).1 (U 102 (by omega)).1 (U 103 (by omega)).1, SB_m c7 (U 1 (by omega)).1 (fun k hk => (U _ (by omega)).1), c8⟩ ⟨d1, by omega, d3, d4, d5, d6⟩ (fun hr => ?_)
    obtain ⟨h0, h1, h2, h3, h4, h5, h6⟩ := hr
    obtain ⟨m2, b1, b2, hF, b4⟩ := R_feed2 (j := j) h0 (a := x1) (b := x2) (c := x3) (d := x4) (e := x5) h2 (by omega)
    exact ⟨m2, b1, hF.ou (by decide), h0, RAr_fr h1 hF (by decide) (by decide), b4, RAm_fr h3 hF (by decide) (by decide), RAp_fr h4 hF (by decide) (by decide) (by decide), RAs_fr h5 hF (by decide) (by decide), RAl_fr h6 hF (by decide) (by decide) (by decide) (by decide)⟩
end LAW2
