/-! ===== the law: model, price, worth, fit ===== -/
theorem PD_up {ps w q : Nat} {pf pp : Nat → Nat} (h : PD ps pf pp) (h1 : 1 ≤ w) (h2 : w ≤ 216) (h3 : q ≤ 10000) (hk : stepAt pf ps w ≠ 10) : PD (if stepAt pf ps w = ps then ps + 1 else ps) (upd1 pf (stepAt pf ps w) w) (upd1 pp (stepAt pf ps w) q) := by
  obtain ⟨a1, a2, a3⟩ := h
  have hle := stepAt_le pf ps w
  have hno : ∀ i, i < stepAt pf ps w → pf i ≠ w := fun i hi => stepAt_no hi
  have hyes : stepAt pf ps w < ps → pf (stepAt pf ps w) = w := fun h => stepAt_yes h
  generalize stepAt pf ps w = k at *
  by_cases c : k = ps
  · rw [if_pos c]
    subst c
    refine ⟨by omega, fun i hi => ?_, fun a b ha hb hab => ?_⟩
    · by_cases e : i = k
      · subst e; rw [upd1_s, upd1_s]; exact ⟨h1, h2, h3⟩
      · rw [upd1_n e, upd1_n e]; exact a2 i (by omega)
    · by_cases ea : a = k
      · by_cases eb : b = k
        · omega
        · rw [ea, upd1_s, upd1_n eb] at hab
          exact absurd hab.symm (hno b (by omega))
      · by_cases eb : b = k
        · rw [eb, upd1_s, upd1_n ea] at hab
          exact absurd hab (hno a (by omega))
        · rw [upd1_n ea, upd1_n eb] at hab
          exact a3 a b (by omega) (by omega) hab
  · rw [if_neg c]
    have hy := hyes (by omega)
    have e1 : ∀ i, upd1 pf k w i = pf i := fun i => by
      by_cases e : i = k
      · subst e; rw [upd1_s, hy]
      · exact upd1_n e
    refine ⟨a1, fun i hi => ?_, fun a b ha hb hab => ?_⟩
    · rw [e1]
      obtain ⟨b1, b2, b3⟩ := a2 i hi
      refine ⟨b1, b2, ?_⟩
      by_cases e : i = k
      · subst e; rw [upd1_s]; exact h3
      · rw [upd1_n e]; exact b3
    · rw [e1, e1] at hab
      exact a3 a b ha hb hab
section LAW3
variable {L : Nat} {xs : Nat → Int32} {m : IM} {j : JM} {u : SU}
theorem L_model (h : INV L xs m j u) (x : Int32) : STP L xs (F_L_model 10 x 5) (F_X12_model 200 x) m j u := by
  obtain ⟨nR, sd, tl, tb, nM, ly, ps, pf, pp, nS, sg, ix, an, nL, br, bd, lm, ri, ci, dd, ei⟩ := h
  have ci2 := ci
  have dd2 := dd
  obtain ⟨c0, c1, c2, c3, c4, c5, c6, c7, c8⟩ := ci2
  obtain ⟨d1, d2, d3, d4, d5, d6⟩ := dd2
  have hnR := ri.2.1.1
  have hnM := d3.1
  have hnS := d5.1
  have hnL := d6.1
  by_cases hx : ∃ n, n ≤ tl ∧ x = nI n
  case neg => exact st_l (c := 1) ri ci dd ei (C_model1 c0 d2 c2 hx) (fun _ => rfl) (by decide) KO.rf ci (fun hr => R_model1 hr.1 d2 hr.2.2.1 hx)
  obtain ⟨n, hn, rfl⟩ := hx
  by_cases h6 : nM = 6
  · subst h6
    exact st_l (c := 2) ri ci dd ei (C_model2 c0 d2 c2 hn c3) (fun _ => rfl) (by decide) KO.rf ci (fun hr => R_model2 hr.1 d2 hr.2.2.1 hn hr.2.2.2.1.1)
  have g6 : nM < 6 := by omega
  have hq : ∀ l, ptext tb n = .inr l → MD (nM + 1) (upd1 ly nM l) := fun l hp => by
    obtain ⟨_, _, _, _, _, q⟩ := R_model3 (j := j) ri.1 d2 ri.2.2.1 ri.2.2.2.1 d3 hn g6
    rw [hp] at q
    exact q.2
  obtain ⟨m1, j1, u1, a1, U, aU, a3, a4, a5⟩ := C_model3 c0 d2 c2 hn c3 g6 hnR c1 c8 c7.1 (fun l hp => by
    have := okM_of (hq l hp) (show nM < nM + 1 by omega)
    rw [upd1_s] at this
    exact this)
  have a4' : CAt m1 0 tb := ⟨a4, fun i hi => by omega⟩
  rcases hp : ptext tb n with pl | l
  · rw [hp] at a1 a5
    refine st_r ri ci ei a1 (U.sub (fun b hb => by omega)) ⟨a3, a5.2.1, a4', a5.1, CAp_fr c4 (by rw [(U 60 (by omega)).1]) (U 61 (by omega)).1 (U 62 (by omega)).1, CAs_ue c5 (U.sub (fun b hb => by omega)), CAl_fr c6 (U 100 (by omega)).1 (U 10 (by omega)).1 (U 101 (by omega)).1 (U 102 (by omega)).1 (U 103 (by omega)).1, SB_m c7 (U 1 (by omega)).1 (fun k hk => (U _ (by omega)).1), a5.2.2⟩ ⟨d1, by omega, d3, d4, d5, d6⟩ (fun j2 hr => ?_)
    obtain ⟨h0, h1, h2, h3, h4, h5, h6⟩ := hr
    obtain ⟨m2, b1, b2, hF, b4, b5⟩ := R_model3 (j := j2) h0 d2 h2 h3 d3 hn g6
    rw [hp] at b1 b5
    exact ⟨m2, b1, b2, hF.ou (by decide), h0, RAr_fr h1 hF (by decide) (by decide), b4, b5, RAp_fr h4 hF (by decide) (by decide) (by decide), RAs_fr h5 hF (by decide) (by decide), RAl_fr h6 hF (by decide) (by decide) (by decide) (by decide)⟩
  · rw [hp] at a1 a5
    refine st_r ri ci ei a1 (U.sub (fun b hb => by omega)) ⟨a3, a5.2.1 _, a4', a5.1, CAp_fr c4 (by rw [(U 60 (by omega)).1]) (U 61 (by omega)).1 (U 62 (by omega)).1, CAs_ue c5 (U.sub (fun b hb => by omega)), CAl_fr c6 (U 100 (by omega)).1 (U 10 (by omega)).1 (U 101 (by omega)).1 (U 102 (by omega)).1 (U 103 (by omega)).1, SB_m c7 (U 1 (by omega)).1 (fun k hk => (U _ (by omega)).1), a5.2.2⟩ ⟨d1, by omega, hq l hp, d4, d5, d6⟩ (fun j2 hr => ?_)
    obtain ⟨h0, h1, h2, h3, h4, h5, h6⟩ := hr
    obtain ⟨m2, b1, b2, hF, b4, b5⟩ := R_model3 (j := j2) h0 d2 h2 h3 d3 hn g6
    rw [hp] at b1 b5
    exact ⟨m2, b1, b2, hF.ou (by decide), h0, RAr_fr h1 hF (by decide) (by decide), b4, b5.1, RAp_fr h4 hF (by decide) (by decide) (by decide), RAs_fr h5 hF (by decide) (by decide), RAl_fr h6 hF (by decide) (by decide) (by decide) (by decide)⟩
theorem L_price (h : INV L xs m j u) (x y : Int32) : STP L xs (F_L_price 10 x y 5) (F_X12_price 200 x y) m j u := by
  obtain ⟨nR, sd, tl, tb, nM, ly, ps, pf, pp, nS, sg, ix, an, nL, br, bd, lm, ri, ci, dd, ei⟩ := h
  have ci2 := ci
  have dd2 := dd
  obtain ⟨c0, c1, c2, c3, c4, c5, c6, c7, c8⟩ := ci2
  obtain ⟨d1, d2, d3, d4, d5, d6⟩ := dd2
  have hnR := ri.2.1.1
  have hnM := d3.1
  have hnS := d5.1
  have hnL := d6.1
  by_cases hx : x < 1 ∨ 216 < x
  · exact st_l (c := 1) ri ci dd ei (C_price1 c0 (fun ⟨⟨w, w1, w2, we⟩, _⟩ => nx_in (n := w) (lo := 1) (hi := 216) w1 w2 (by decide) (we ▸ hx))) (fun _ => rfl) (by decide) KO.rf ci (fun hr => R_price1 hr.1 (Or.inl hx))
  by_cases hy : y < 0 ∨ 10000 < y
  · exact st_l (c := 1) ri ci dd ei (C_price1 c0 (fun ⟨_, ⟨w, w1, we⟩⟩ => nx_in (n := w) (lo := 0) (hi := 10000) (Nat.zero_le _) (by omega) (by decide) (we ▸ hy))) (fun _ => rfl) (by decide) KO.rf ci (fun hr => R_price1 hr.1 (Or.inr hy))
  obtain ⟨w, w1, w2, rfl⟩ := w_of (lo := 1) (hi := 216) hx (by decide) (by decide)
  obtain ⟨q, _, q2, rfl⟩ := w_of (lo := 0) (hi := 10000) hy (by decide) (by decide)
  obtain ⟨m1, a1, a2, a3⟩ := C_price2 (j := j) c0 d4 c4 c1 hnR w1 w2 q2
  by_cases k : stepAt pf ps w = 10
  · rw [if_pos k] at a1 a3
    subst a3
    refine st_r ri ci ei a1 KO.rf ci dd (fun j2 hr => ?_)
    obtain ⟨h0, h1, h2, h3, h4, h5, h6⟩ := hr
    obtain ⟨m2, b1, b2, hF, b4⟩ := R_price2 (j := j2) h0 d4 h4 w1 w2 q2
    rw [if_pos k] at b1 b4
    exact ⟨m2, b1, b2, hF.ou (by decide), h0, RAr_fr h1 hF (by decide) (by decide), RAt_fr h2 hF (by decide) (by decide), RAm_fr h3 hF (by decide) (by decide), b4, RAs_fr h5 hF (by decide) (by decide), RAl_fr h6 hF (by decide) (by decide) (by decide) (by decide)⟩
  · rw [if_neg k] at a1 a3
    have U : UE (fun b => b < 60 ∨ 62 < b ∧ b < 2000 ∨ 3000 ≤ b) m m1 j j u u := UE.int a2
    refine st_r ri ci ei a1 (U.sub (fun b hb => by omega)) ⟨c0, a3.2 _, CAt_fr c2 (by rw [(U 50 (by omega)).1]) (U 51 (by omega)).1, CAm_ue c3 (U.sub (fun b hb => by omega)), a3.1, CAs_ue c5 (U.sub (fun b hb => by omega)), CAl_fr c6 (U 100 (by omega)).1 (U 10 (by omega)).1 (U 101 (by omega)).1 (U 102 (by omega)).1 (U 103 (by omega)).1, SB_m c7 (U 1 (by omega)).1 (fun k hk => (U _ (by omega)).1), c8⟩ ⟨d1, d2, d3, PD_up d4 w1 w2 q2 k, d5, d6⟩ (fun j2 hr => ?_)
    obtain ⟨h0, h1, h2, h3, h4, h5, h6⟩ := hr
    obtain ⟨m2, b1, b2, hF, b4⟩ := R_price2 (j := j2) h0 d4 h4 w1 w2 q2
    rw [if_neg k] at b1 b4
    exact ⟨m2, b1, b2, hF.ou (by decide), h0, RAr_fr h1 hF (by decide) (by decide), RAt_fr h2 hF (by decide) (by decide), RAm_fr h3 hF (by decide) (by decide), b4, RAs_fr h5 hF (by decide) (by decide), RAl_fr h6 hF (by decide) (by decide) (by decide) (by decide)⟩
theorem L_worth (h : INV L xs m j u) (x : Int32) : STP L xs (F_L_worth 10 x 5) (F_X12_worth 200 x) m j u := by
  obtain ⟨nR, sd, tl, tb, nM, ly, ps, pf, pp, nS, sg, ix, an, nL, br, bd, lm, ri, ci, dd, ei⟩ := h
  have ci2 := ci
  have dd2 := dd
  obtain ⟨c0, c1, c2, c3, c4, c5, c6, c7, c8⟩ := ci2
  obtain ⟨d1, d2, d3, d4, d5, d6⟩ := dd2
  have hnR := ri.2.1.1
  have hnM := d3.1
  have hnS := d5.1
  have hnL := d6.1
  by_cases hx : ∃ w, w < 217 ∧ x = nI w
  case neg => exact st_l (c := 1) ri ci dd ei (C_worth1 c0 hx) (fun _ => rfl) (by decide) KO.rf ci (fun hr => R_worth1 hr.1 (out_r (n := 216) (by decide) hx))
  obtain ⟨w, hw, rfl⟩ := hx
  exact st_r ri ci ei (C_worth2 c0 d4 c4 (by omega)) KO.rf ci dd (fun j2 hr => ⟨_, R_worth2 hr.1 d4 hr.2.2.2.2.1 (by omega), e_u2s, ou0, RI_0 hr⟩)
theorem L_fit (h : INV L xs m j u) (x y z : Int32) : STP L xs (F_L_fit 10 x y z 5) (F_X12_fit 200 x y z) m j u := by
  obtain ⟨nR, sd, tl, tb, nM, ly, ps, pf, pp, nS, sg, ix, an, nL, br, bd, lm, ri, ci, dd, ei⟩ := h
  have ci2 := ci
  have dd2 := dd
  obtain ⟨c0, c1, c2, c3, c4, c5, c6, c7, c8⟩ := ci2
  obtain ⟨d1, d2, d3, d4, d5, d6⟩ := dd2
  have hnR := ri.2.1.1
  have hnM := d3.1
  have hnS := d5.1
  have hnL := d6.1
  by_cases hx : ∃ r, r < nR ∧ x = nI r
  case neg => exact st_l (c := 1) ri ci dd ei (C_fit1 c0 c1 hnR hx) (fun _ => rfl) (by decide) KO.rf ci (fun hr => R_fit1 hr.1 hr.2.1 hx)
  obtain ⟨r, hr, rfl⟩ := hx
  by_cases hy : ∃ q, q < nM ∧ y = nI q
  case neg => exact st_l (c := 2) ri ci dd ei (C_fit2 c0 c1 hnR hr c3 hnM hy) (fun _ => rfl) (by decide) KO.rf ci (fun hq => R_fit2 hq.1 hq.2.1 hr hq.2.2.2.1.1 hnM hy)
  obtain ⟨q, hq, rfl⟩ := hy
  by_cases hz : ∃ s, s < 6 ∧ z = nI s
  case neg => exact st_l (c := 3) ri ci dd ei (C_fit3 c0 c1 hnR hr c3 hnM hq hz) (fun _ => rfl) (by decide) KO.rf ci (fun hp => R_fit3 hp.1 hp.2.1 hr hp.2.2.2.1.1 hnM hq (out_r (n := 5) (by decide) hz))
  obtain ⟨w, hw, rfl⟩ := hz
  obtain ⟨m1, j1, a1, a2, a3⟩ := C_fit4 c0 c1 hnR hr c3 d3 hq hw c7.1
  have U : UE (fun b => b ≠ 73 ∧ b ≠ 74) m m1 j j1 u u := UE.mj (fun b hb => ⟨a2 b hb.2, a3 b hb.1⟩)
  refine st_r ri ci ei a1 (U.sub (fun b hb => by omega)) ⟨c0, CAr_ue c1 (U.sub (fun b hb => by omega)), CAt_fr c2 (by rw [(U 50 (by omega)).1]) (U 51 (by omega)).1, CAm_ue c3 (U.sub (fun b hb => by omega)), CAp_fr c4 (by rw [(U 60 (by omega)).1]) (U 61 (by omega)).1 (U 62 (by omega)).1, CAs_ue c5 (U.sub (fun b hb => by omega)), CAl_fr c6 (U 100 (by omega)).1 (U 10 (by omega)).1 (U 101 (by omega)).1 (U 102 (by omega)).1 (U 103 (by omega)).1, SB_m c7 (U 1 (by omega)).1 (fun k hk => (U _ (by omega)).1), c8⟩ dd (fun j2 hr2 => ?_)
  obtain ⟨h0, h1, h2, h3, h4, h5, h6⟩ := hr2
  obtain ⟨m2, b1, b2, hF⟩ := R_fit4 (j := j2) h0 h1 hr d3 h3 hq hw
  exact ⟨m2, b1, b2, hF.ou (by decide), h0, RAr_fr h1 hF (by decide) (by decide), RAt_fr h2 hF (by decide) (by decide), RAm_fr h3 hF (by decide) (by decide), RAp_fr h4 hF (by decide) (by decide) (by decide), RAs_fr h5 hF (by decide) (by decide), RAl_fr h6 hF (by decide) (by decide) (by decide) (by decide)⟩
end LAW3
