/-! ===== the law: lot, bid, most, sell, count ===== -/
theorem SD_lot {nS nL B : Nat} {sg ix an : Nat → Nat → Nat} (h : SD nS nL sg ix an) (g : lotGood sg nS nL B) : SD nS (nL + 1) (lotS sg B nL) ix an := by
  refine ⟨h.1, fun s hs => ?_⟩
  have w : ∀ k, k ≠ 6 → lotS sg B nL s k = sg s k := fun k h1 => by unfold lotS; rw [if_neg (fun z => h1 z.1)]
  rw [w 0 (by decide), w 1 (by decide), w 2 (by decide), w 3 (by decide), w 4 (by decide), w 5 (by decide), w 7 (by decide)]
  obtain ⟨a1, a2, a3, a4, a5, a6, a7, a8⟩ := h.2 s hs
  have t := anyB_no (eq_false_of_ne_true g.2.1) s hs
  by_cases c : B.testBit s = true
  · have w6 : lotS sg B nL s 6 = nL + 1 := if_pos ⟨rfl, c⟩
    unfold tkB at t
    rw [c, Bool.true_and, Bool.or_eq_false_iff] at t
    have t7 : sg s 7 = 0 := Decidable.of_not_not (of_decide_eq_false t.2)
    rw [w6]
    exact ⟨a1, a2, a3, a4, Nat.le_refl _, a6, fun _ => t7, a8⟩
  · have w6 : lotS sg B nL s 6 = sg s 6 := if_neg (fun z => c z.2)
    rw [w6]
    exact ⟨a1, a2, a3, a4, by omega, a6, a7, a8⟩
theorem SD_sel {nS nL : Nat} {sg ix an : Nat → Nat → Nat} {dg : Nat → Nat} (h : SD nS nL sg ix an) : SD nS 0 (selS sg dg) ix an := by
  refine ⟨h.1, fun s hs => ?_⟩
  have w : ∀ k, k ≠ 6 → k ≠ 7 → selS sg dg s k = sg s k := fun k h1 h2 => by unfold selS; rw [if_neg h1, if_neg h2]
  have w6 : selS sg dg s 6 = 0 := by unfold selS; rw [if_pos rfl]
  have w7 : selS sg dg s 7 = selB sg dg s := by unfold selS; rw [if_neg (by decide), if_pos rfl]
  rw [w 0 (by decide) (by decide), w 1 (by decide) (by decide), w 2 (by decide) (by decide), w 3 (by decide) (by decide), w 4 (by decide) (by decide), w 5 (by decide) (by decide), w6, w7]
  obtain ⟨a1, a2, a3, a4, a5, a6, a7, a8⟩ := h.2 s hs
  refine ⟨a1, a2, a3, a4, Nat.le_refl _, ?_, fun z => absurd rfl z, a8⟩
  unfold selB
  by_cases c : sg s 6 = 0
  · rw [if_pos c]; exact a6
  · rw [if_neg c]
    unfold wc
    by_cases e : dg (sg s 6 - 1) < 4
    · rw [if_pos e]; omega
    · rw [if_neg e]; exact Nat.zero_le _
section LAW6
variable {L : Nat} {xs : Nat → Int32} {m : IM} {j : JM} {u : SU}
theorem L_lot (h : INV L xs m j u) (x y : Int32) : STP L xs (F_L_lot 10 x y 5) (F_X12_lot 200 x y) m j u := by
  obtain ⟨nR, sd, tl, tb, nM, ly, ps, pf, pp, nS, sg, ix, an, nL, br, bd, lm, ri, ci, dd, ei⟩ := h
  have ci2 := ci
  have dd2 := dd
  obtain ⟨c0, c1, c2, c3, c4, c5, c6, c7, c8⟩ := ci2
  obtain ⟨d1, d2, d3, d4, d5, d6⟩ := dd2
  have hnR := ri.2.1.1
  have hnM := d3.1
  have hnS := d5.1
  have hnL := d6.1
  by_cases hx : lotOk nS x y
  case neg => exact st_l (c := 1) ri ci dd ei (C_lot1 c0 c5 hnS hx) (fun _ => rfl) (by decide) KO.rf ci (fun hr => R_lot1 hr.1 hr.2.2.2.2.2.1.1 hnS hx)
  obtain ⟨a, b, ha, hb, rfl, rfl, hB⟩ := hx
  obtain ⟨m1, a1, a2, a3, a4⟩ := C_lot2 (j := j) c0 d5 d6 c5 c6 ha hb hB
  have U : UE (fun b => b < 4000 ∧ b ≠ 100) m m1 j j u u := UE.int (fun b hb => a2 b hb.1 hb.2)
  by_cases g : lotGood sg nS nL (lotB a b)
  · obtain ⟨a5, a6⟩ := a4 g
    have h6n := g.2.2.2
    obtain ⟨l1, l2, l3, l4⟩ := d6
    refine st_r ri ci ei a1 (U.sub (fun b hb => by omega)) ⟨c0, CAr_ue c1 (U.sub (fun b hb => by omega)), CAt_fr c2 (by rw [(U 50 (by omega)).1]) (U 51 (by omega)).1, CAm_ue c3 (U.sub (fun b hb => by omega)), CAp_fr c4 (by rw [(U 60 (by omega)).1]) (U 61 (by omega)).1 (U 62 (by omega)).1, a5, a6, SB_m c7 (U 1 (by omega)).1 (fun k hk => (U _ (by omega)).1), c8⟩ ⟨d1, d2, d3, d4, SD_lot d5 g, by omega, l2, fun i hi => l3 i (by omega), l4⟩ (fun j2 hr => ?_)
    obtain ⟨h0, h1, h2, h3, h4, h5, h6⟩ := hr
    obtain ⟨m2, b1, b2, hF, b4, b5⟩ := R_lot2 (j := j2) h0 d5 ⟨l1, l2, l3, l4⟩ h5 h6 ha hb hB
    obtain ⟨b6, b7⟩ := b5 g
    exact ⟨m2, b1, b2, hF.ou (by decide), h0, RAr_fr h1 hF (by decide) (by decide), RAt_fr h2 hF (by decide) (by decide), RAm_fr h3 hF (by decide) (by decide), RAp_fr h4 hF (by decide) (by decide) (by decide), b6, b7⟩
  · obtain ⟨a5, a6⟩ := a3 g
    refine st_r ri ci ei a1 (U.sub (fun b hb => by omega)) ⟨c0, CAr_ue c1 (U.sub (fun b hb => by omega)), CAt_fr c2 (by rw [(U 50 (by omega)).1]) (U 51 (by omega)).1, CAm_ue c3 (U.sub (fun b hb => by omega)), CAp_fr c4 (by rw [(U 60 (by omega)).1]) (U 61 (by omega)).1 (U 62 (by omega)).1, a5, a6, SB_m c7 (U 1 (by omega)).1 (fun k hk => (U _ (by omega)).1), c8⟩ dd (fun j2 hr => ?_)
    obtain ⟨h0, h1, h2, h3, h4, h5, h6⟩ := hr
    obtain ⟨m2, b1, b2, hF, b4, b5⟩ := R_lot2 (j := j2) h0 d5 d6 h5 h6 ha hb hB
    obtain ⟨b6, b7⟩ := b4 g
    exact ⟨m2, b1, b2, hF.ou (by decide), h0, RAr_fr h1 hF (by decide) (by decide), RAt_fr h2 hF (by decide) (by decide), RAm_fr h3 hF (by decide) (by decide), RAp_fr h4 hF (by decide) (by decide) (by decide), b6, b7⟩
theorem L_bid (h : INV L xs m j u) (x y z : Int32) : STP L xs (F_L_bid 10 x y z 5) (F_X12_bid 200 x y z) m j u := by
  obtain ⟨nR, sd, tl, tb, nM, ly, ps, pf, pp, nS, sg, ix, an, nL, br, bd, lm, ri, ci, dd, ei⟩ := h
  have ci2 := ci
  have dd2 := dd
  obtain ⟨c0, c1, c2, c3, c4, c5, c6, c7, c8⟩ := ci2
  obtain ⟨d1, d2, d3, d4, d5, d6⟩ := dd2
  have hnR := ri.2.1.1
  have hnM := d3.1
  have hnS := d5.1
  have hnL := d6.1
  by_cases hx : ∃ b, b < 4 ∧ x = nI b
  case neg => exact st_l (c := 1) ri ci dd ei (C_bid1 hx) (fun _ => rfl) (by decide) KO.rf ci (fun hr => R_bid1 hr.1 (out_r (n := 3) (by decide) hx))
  obtain ⟨b, hb, rfl⟩ := hx
  by_cases hy : (∃ l, l < nL ∧ y = nI l) ∧ ∃ q, 1 ≤ q ∧ q ≤ 1000000 ∧ z = nI q
  case neg => exact st_l (c := 2) ri ci dd ei (C_bid2 c0 hb c6.1 hnL hy) (fun _ => rfl) (by decide) KO.rf ci (fun hr => R_bid2 hr.1 hb hr.2.2.2.2.2.2.1 hnL (fun ⟨k1, k2⟩ => hy ⟨k1, w_of (lo := 1) (hi := 1000000) k2 (by decide) (by decide)⟩))
  obtain ⟨⟨l, hl, rfl⟩, n, n1, n2, rfl⟩ := hy
  obtain ⟨m1, a1, a2, a3⟩ := C_bid3 (j := j) c0 d6 c6 hb hl n1 n2
  have U : UE (fun b => b ≠ 101) m m1 j j u u := UE.int a2
  have hd : LD nL (fun i => if i = 4 * l + b ∧ bd i = 0 then n else bd i) lm := by
    obtain ⟨l1, l2, l3, l4⟩ := d6
    refine ⟨l1, fun i hi => ?_, fun i hi => ?_, l4⟩
    · dsimp only
      by_cases c : i = 4 * l + b ∧ bd i = 0
      · rw [if_pos c]; exact n2
      · rw [if_neg c]; exact l2 i hi
    · dsimp only
      rw [if_neg (by omega)]; exact l3 i hi
  refine st_r ri ci ei a1 (U.sub (fun b hb => by omega)) ⟨c0, CAr_ue c1 (U.sub (fun b hb => by omega)), CAt_fr c2 (by rw [(U 50 (by omega)).1]) (U 51 (by omega)).1, CAm_ue c3 (U.sub (fun b hb => by omega)), CAp_fr c4 (by rw [(U 60 (by omega)).1]) (U 61 (by omega)).1 (U 62 (by omega)).1, CAs_ue c5 (U.sub (fun b hb => by omega)), a3, SB_m c7 (U 1 (by omega)).1 (fun k hk => (U _ (by omega)).1), c8⟩ ⟨d1, d2, d3, d4, d5, hd⟩ (fun j2 hr => ?_)
  obtain ⟨h0, h1, h2, h3, h4, h5, h6⟩ := hr
  obtain ⟨m2, b1, b2, hF, b4⟩ := R_bid3 (j := j2) h0 d6 h6 hb hl n1 n2
  exact ⟨m2, b1, b2, hF.ou (by decide), h0, RAr_fr h1 hF (by decide) (by decide), RAt_fr h2 hF (by decide) (by decide), RAm_fr h3 hF (by decide) (by decide), RAp_fr h4 hF (by decide) (by decide) (by decide), RAs_fr h5 hF (by decide) (by decide), b4⟩
theorem L_most (h : INV L xs m j u) (x y : Int32) : STP L xs (F_L_most 10 x y 5) (F_X12_most 200 x y) m j u := by
  obtain ⟨nR, sd, tl, tb, nM, ly, ps, pf, pp, nS, sg, ix, an, nL, br, bd, lm, ri, ci, dd, ei⟩ := h
  have ci2 := ci
  have dd2 := dd
  obtain ⟨c0, c1, c2, c3, c4, c5, c6, c7, c8⟩ := ci2
  obtain ⟨d1, d2, d3, d4, d5, d6⟩ := dd2
  have hnR := ri.2.1.1
  have hnM := d3.1
  have hnS := d5.1
  have hnL := d6.1
  by_cases hx : ∃ b, b < 4 ∧ x = nI b
  case neg => exact st_l (c := 1) ri ci dd ei (C_most1 hx) (fun _ => rfl) (by decide) KO.rf ci (fun hr => R_most1 hr.1 (out_r (n := 3) (by decide) hx))
  obtain ⟨b, hb, rfl⟩ := hx
  by_cases hy : ∃ q, q < 7 ∧ y = nI q
  case neg => exact st_l (c := 2) ri ci dd ei (C_most2 hb hy) (fun _ => rfl) (by decide) KO.rf ci (fun hr => R_most2 hr.1 hb (out_r (n := 6) (by decide) hy))
  obtain ⟨n, hn, rfl⟩ := hy
  have hn : n ≤ 6 := by omega
  obtain ⟨a1, a2⟩ := C_most3 (j := j) c0 c6 hb hn
  have U : UE (fun b => b ≠ 102) m (u2 m 102 b (nI n)) j j u u := UE.int (fun b hb => e_u2r hb)
  have hd : LD nL bd (fun i => if i = b then n else lm i) := by
    obtain ⟨l1, l2, l3, l4⟩ := d6
    refine ⟨l1, l2, l3, fun i hi => ?_⟩
    dsimp only
    by_cases c : i = b
    · rw [if_pos c]; exact hn
    · rw [if_neg c]; exact l4 i hi
  refine st_r ri ci ei a1 (U.sub (fun b hb => by omega)) ⟨c0, CAr_ue c1 (U.sub (fun b hb => by omega)), CAt_fr c2 (by rw [(U 50 (by omega)).1]) (U 51 (by omega)).1, CAm_ue c3 (U.sub (fun b hb => by omega)), CAp_fr c4 (by rw [(U 60 (by omega)).1]) (U 61 (by omega)).1 (U 62 (by omega)).1, CAs_ue c5 (U.sub (fun b hb => by omega)), a2, SB_m c7 (U 1 (by omega)).1 (fun k hk => (U _ (by omega)).1), c8⟩ ⟨d1, d2, d3, d4, d5, hd⟩ (fun j2 hr => ?_)
  obtain ⟨h0, h1, h2, h3, h4, h5, h6⟩ := hr
  obtain ⟨m2, b1, b2, hF, b4⟩ := R_most3 (j := j2) h0 h6 hb hn
  exact ⟨m2, b1, b2, hF.ou (by decide), h0, RAr_fr h1 hF (by decide) (by decide), RAt_fr h2 hF (by decide) (by decide), RAm_fr h3 hF (by decide) (by decide), RAp_fr h4 hF (by decide) (by decide) (by decide), RAs_fr h5 hF (by decide) (by decide), b4⟩
theorem L_sell (h : INV L xs m j u) : STN L xs (F_X11_sell 10) (F_X12_sell 200) m j u := by
  obtain ⟨nR, sd, tl, tb, nM, ly, ps, pf, pp, nS, sg, ix, an, nL, br, bd, lm, ri, ci, dd, ei⟩ := h
  have ci2 := ci
  have dd2 := dd
  obtain ⟨c0, c1, c2, c3, c4, c5, c6, c7, c8⟩ := ci2
  obtain ⟨d1, d2, d3, d4, d5, d6⟩ := dd2
  have hnR := ri.2.1.1
  have hnM := d3.1
  have hnS := d5.1
  have hnL := d6.1
  obtain ⟨m1, a1, a2, a3, a4⟩ := C_sell (j := j) c0 d5 d6 c5 c6
  have U : UE (fun b => b < 4000 ∧ b ≠ 10 ∧ (b < 100 ∨ 106 < b)) m m1 j j u u := UE.int (fun b hb => a2 b hb.1 hb.2.1 hb.2.2)
  refine st_n ri ei a1 (U.sub (fun b hb => by omega)) ⟨c0, CAr_ue c1 (U.sub (fun b hb => by omega)), CAt_fr c2 (by rw [(U 50 (by omega)).1]) (U 51 (by omega)).1, CAm_ue c3 (U.sub (fun b hb => by omega)), CAp_fr c4 (by rw [(U 60 (by omega)).1]) (U 61 (by omega)).1 (U 62 (by omega)).1, a3, a4, SB_m c7 (U 1 (by omega)).1 (fun k hk => (U _ (by omega)).1), c8⟩ ⟨d1, d2, d3, d4, SD_sel d5, Nat.zero_le _, fun _ _ => Nat.zero_le _, fun _ _ => rfl, d6.2.2.2⟩ (fun hr => ?_)
  obtain ⟨h0, h1, h2, h3, h4, h5, h6⟩ := hr
  obtain ⟨m2, b1, b2, hF, b4, b5⟩ := R_sell (j := j) h0 d5 d6 h5 h6
  exact ⟨m2, b1, hF.ou (by decide), h0, RAr_fr h1 hF (by decide) (by decide), RAt_fr h2 hF (by decide) (by decide), RAm_fr h3 hF (by decide) (by decide), RAp_fr h4 hF (by decide) (by decide) (by decide), b4, b5⟩
theorem L_count (h : INV L xs m j u) (x : Int32) : STN L xs (F_X11_count 10 x) (F_X12_count 200 x) m j u := by
  obtain ⟨nR, sd, tl, tb, nM, ly, ps, pf, pp, nS, sg, ix, an, nL, br, bd, lm, ri, ci, dd, ei⟩ := h
  have ci2 := ci
  have dd2 := dd
  obtain ⟨c0, c1, c2, c3, c4, c5, c6, c7, c8⟩ := ci2
  obtain ⟨d1, d2, d3, d4, d5, d6⟩ := dd2
  have hnR := ri.2.1.1
  have hnM := d3.1
  have hnS := d5.1
  have hnL := d6.1
  have a1 := C_count (j := j) (c := x) c0 c1 c3 c5 (C_sold c0 d5 c5)
  refine st_n ri ei a1 KO.rf ci dd (fun hr => ⟨u2 m 200 0 0, ?_, ou0, RI_0 hr⟩)
  obtain ⟨h0, h1, h2, h3, h4, h5, h6⟩ := hr
  have b1 := R_count (j := j) (c := x) h0 d5 h5
  rw [c6.1, c6.2.1, c4.1, c2.1]
  rw [h1.2.1, h3.1, h5.1, h6.1, h6.2.1, h4.1, h2.1] at b1
  exact b1
end LAW6
