/-! ===== the law: the loop ===== -/
section LAW7
variable {L p : Nat} {xs : Nat → Int32} {m : IM} {j : JM} {u : SU} {β : Type}
theorem rd_0 (e : EI L xs m u) (hL : L ≤ 3584) (hp : p + 6 < L) {f : Int32 → Option β} : aS (pm m j u) 4 (nI p) f = f (xs p) := by
  rw [e_aS e.2.1 e.2.2.1 (by omega) (by omega), e.1]
theorem rd_1 (e : EI L xs m u) (hL : L ≤ 3584) (hp : p + 6 < L) {f : Int32 → Option β} : aS (pm m j u) 4 (nI p + 1) f = f (xs (p + 1)) := by
  rw [show nI p + 1 = nI (p + 1) from nI_add p 1, e_aS e.2.1 e.2.2.1 (by omega) (by omega), e.1]
theorem rd_2 (e : EI L xs m u) (hL : L ≤ 3584) (hp : p + 6 < L) {f : Int32 → Option β} : aS (pm m j u) 4 (nI p + 2) f = f (xs (p + 2)) := by
  rw [show nI p + 2 = nI (p + 2) from nI_add p 2, e_aS e.2.1 e.2.2.1 (by omega) (by omega), e.1]
theorem rd_3 (e : EI L xs m u) (hL : L ≤ 3584) (hp : p + 6 < L) {f : Int32 → Option β} : aS (pm m j u) 4 (nI p + 3) f = f (xs (p + 3)) := by
  rw [show nI p + 3 = nI (p + 3) from nI_add p 3, e_aS e.2.1 e.2.2.1 (by omega) (by omega), e.1]
theorem rd_4 (e : EI L xs m u) (hL : L ≤ 3584) (hp : p + 6 < L) {f : Int32 → Option β} : aS (pm m j u) 4 (nI p + 4) f = f (xs (p + 4)) := by
  rw [show nI p + 4 = nI (p + 4) from nI_add p 4, e_aS e.2.1 e.2.2.1 (by omega) (by omega), e.1]
theorem rd_5 (e : EI L xs m u) (hL : L ≤ 3584) (hp : p + 6 < L) {f : Int32 → Option β} : aS (pm m j u) 4 (nI p + 5) f = f (xs (p + 5)) := by
  rw [show nI p + 5 = nI (p + 5) from nI_add p 5, e_aS e.2.1 e.2.2.1 (by omega) (by omega), e.1]
theorem rd_6 (e : EI L xs m u) (hL : L ≤ 3584) (hp : p + 6 < L) {f : Int32 → Option β} : aS (pm m j u) 4 (nI p + 6) f = f (xs (p + 6)) := by
  rw [show nI p + 6 = nI (p + 6) from nI_add p 6, e_aS e.2.1 e.2.2.1 (by omega) (by omega), e.1]
theorem e_lnS (e : EI L xs m u) {f : Int32 → Option β} : lnS (pm m j u) 4 f = f (nI L) := by
  unfold lnS
  rw [if_pos (show mT (pm m j u) 4 = 23 from e.2.1), show mN (pm m j u) 4 = L from e.2.2.1]
  rfl
theorem nI_sub7 : ∀ L, L < 7 → nI L - 7 < 0 := by decide
theorem lp_out (hL : L ≤ 3584) (hp : p ≤ 3584) : (nI L - 7 < nI p) ↔ L < p + 7 := by
  by_cases c : L < 7
  · refine ⟨fun _ => by omega, fun _ => ?_⟩
    have a := nI_sub7 L c
    have b := nI_pos (show p < 2 ^ 31 by omega)
    exact Int32.lt_of_lt_of_le a (Int32.not_lt.mp b)
  · rw [show nI L - 7 = nI (L - 7) from pk_sub (b := 7) (by omega), nI_ltI (by omega) (by omega)]
    omega
theorem INV_b (h : INV L xs m j u) : RS u ∧ CS u ∧ EI L xs m u := by
  obtain ⟨nR, sd, tl, tb, nM, ly, ps, pf, pp, nS, sg, ix, an, nL, br, bd, lm, ri, ci, dd, ei⟩ := h
  have ci2 := ci
  have dd2 := dd
  obtain ⟨c0, c1, c2, c3, c4, c5, c6, c7, c8⟩ := ci2
  obtain ⟨d1, d2, d3, d4, d5, d6⟩ := dd2
  have hnR := ri.2.1.1
  have hnM := d3.1
  have hnS := d5.1
  have hnL := d6.1
  exact ⟨ri.1, c0, ei⟩
theorem tl_eq {K k1 k2 : PM → Option (Int32 × PM)} {c r : Int32} (h : INV L xs m j u) (hc : m 200 0 = c) (hj : c = 0 → j 5 0 = Int32.toInt64 r) : (tst (pm m j u) 200 13 (cl (F_X12_thrown 200 (pm m j u)) fun r83 h84 => if r83 = c then (jn (fun (h86 : PM) => K h86) fun k316 => if ¬ c = 0 then (k316 h84) else (aJ h84 5 0 fun x87 => if (lg_cmp x87 (Int32.toInt64 r)) = 0 then (k316 h84) else (k1 h84))) else (k2 h84))) = K (pm m j u) := by
  obtain ⟨nR, sd, tl, tb, nM, ly, ps, pf, pp, nS, sg, ix, an, nL, br, bd, lm, ri, ci, dd, ei⟩ := h
  have ci2 := ci
  have dd2 := dd
  obtain ⟨c0, c1, c2, c3, c4, c5, c6, c7, c8⟩ := ci2
  obtain ⟨d1, d2, d3, d4, d5, d6⟩ := dd2
  have hnR := ri.2.1.1
  have hnM := d3.1
  have hnS := d5.1
  have hnL := d6.1
  rw [rT ri.1, F_X12_thrown, rI ri.1, e_cl, hc, if_pos rfl, e_jn]
  by_cases z : c = 0
  · rw [if_neg (fun y => y z), show (0 : Int32) = nI 0 from rfl, e_aJ ei.2.2.2.1 ei.2.2.2.2 (by decide) (by decide), hj z, if_pos ((lgn_eq _ _).mpr rfl)]
  · rw [if_pos z]
variable {k1569 k1561 k1536 k1520 k1503 k1452 k1435 k1372 k1355 k1307 k1291 k1274 k1223 k1206 k1167 k1150 k1099 k1082 k1043 k1026 k963 k946 k907 k890 k827 k810 k759 k742 k703 k686 k623 k606 k567 k550 k499 k482 k446 k370 k353 k314 k297 k159 : PM → Option (Int32 × PM)}
set_option maxRecDepth 100000 in
set_option maxHeartbeats 4000000 in
theorem L_step (h : INV L xs m j u) (hL : L ≤ 3584) (hp : p + 6 < L) (fu : Nat) : ∃ m2 j2 u2, INV L xs m2 j2 u2 ∧ F_L_law_L23 4 10 200 5 k1569 k1561 k1536 k1520 k1503 k1452 k1435 k1372 k1355 k1307 k1291 k1274 k1223 k1206 k1167 k1150 k1099 k1082 k1043 k1026 k963 k946 k907 k890 k827 k810 k759 k742 k703 k686 k623 k606 k567 k550 k499 k482 k446 k370 k353 k314 k297 k159 (fu + 1) (nI p) (pm m j u) = F_L_law_L23 4 10 200 5 k1569 k1561 k1536 k1520 k1503 k1452 k1435 k1372 k1355 k1307 k1291 k1274 k1223 k1206 k1167 k1150 k1099 k1082 k1043 k1026 k963 k946 k907 k890 k827 k810 k759 k742 k703 k686 k623 k606 k567 k550 k499 k482 k446 k370 k353 k314 k297 k159 fu (nI (p + 7)) (pm m2 j2 u2) := by
  have hI := h
  obtain ⟨hs, hc, e⟩ := INV_b hI
  rw [F_L_law_L23, e_lnS e, if_neg (fun z => by have := (lp_out hL (by omega)).mp z; omega), rd_0 e hL hp, e_lt, e_jn, show nI p + 7 = nI (p + 7) from nI_add p 7]
  generalize xs p &&& 31 = x56
  by_cases q0 : x56 = 0
  · obtain ⟨m1, j1, u1, m2, r, a1, e1, s1, a2, a5⟩ := L_rough hI
    refine ⟨m2, j1, u1, a5, ?_⟩
    rw [if_pos q0, cT_10 hc, a1, e_cl, rT s1, a2, e_cl, if_pos rfl]
  rw [if_neg q0]
  by_cases q1 : x56 = 1
  · obtain ⟨m1, j1, u1, m2, c, r, a1, e1, s1, a2, a3, a4, a5⟩ := L_scan hI (xs (p + 1)) (xs (p + 2)) (((Int32.toInt64 (xs (p + 3))) <<< ((Int32.toInt64 32) &&& 63)) ||| ((Int32.toInt64 (xs (p + 4))) &&& 4294967295)) (((Int32.toInt64 (xs (p + 5))) <<< ((Int32.toInt64 32) &&& 63)) ||| ((Int32.toInt64 (xs (p + 6))) &&& 4294967295))
    refine ⟨m2, j1, u1, a5, ?_⟩
    rw [if_pos q1, rd_1 e hL hp, rd_2 e hL hp, rd_3 e hL hp, rd_4 e hL hp, rd_5 e hL hp, rd_6 e hL hp, a1, e_cl, rd_1 e1 hL hp, rd_2 e1 hL hp, rd_3 e1 hL hp, rd_4 e1 hL hp, rd_5 e1 hL hp, rd_6 e1 hL hp, rT s1, a2, e_cl]
    exact tl_eq a5 a3 a4
  rw [if_neg q1]
  by_cases q2 : x56 = 2
  · obtain ⟨m1, j1, u1, m2, c, r, a1, e1, s1, a2, a3, a4, a5⟩ := L_stuff hI (xs (p + 1))
    refine ⟨m2, j1, u1, a5, ?_⟩
    rw [if_pos q2, rd_1 e hL hp, a1, e_cl, rd_1 e1 hL hp, rT s1, a2, e_cl]
    exact tl_eq a5 a3 a4
  rw [if_neg q2]
  by_cases q3 : x56 = 3
  · obtain ⟨m1, j1, u1, m2, r, a1, e1, s1, a2, a5⟩ := L_feed hI (xs (p + 1)) (xs (p + 2)) (xs (p + 3)) (xs (p + 4)) (xs (p + 5))
    refine ⟨m2, j1, u1, a5, ?_⟩
    rw [if_pos q3, rd_1 e hL hp, rd_2 e hL hp, rd_3 e hL hp, rd_4 e hL hp, rd_5 e hL hp, cT_10 hc, a1, e_cl, rd_1 e1 hL hp, rd_2 e1 hL hp, rd_3 e1 hL hp, rd_4 e1 hL hp, rd_5 e1 hL hp, rT s1, a2, e_cl, if_pos rfl]
  rw [if_neg q3]
  by_cases q4 : x56 = 4
  · obtain ⟨m1, j1, u1, m2, c, r, a1, e1, s1, a2, a3, a4, a5⟩ := L_model hI (xs (p + 1))
    refine ⟨m2, j1, u1, a5, ?_⟩
    rw [if_pos q4, rd_1 e hL hp, a1, e_cl, rd_1 e1 hL hp, rT s1, a2, e_cl]
    exact tl_eq a5 a3 a4
  rw [if_neg q4]
  by_cases q5 : x56 = 5
  · obtain ⟨m1, j1, u1, m2, c, r, a1, e1, s1, a2, a3, a4, a5⟩ := L_price hI (xs (p + 1)) (xs (p + 2))
    refine ⟨m2, j1, u1, a5, ?_⟩
    rw [if_pos q5, rd_1 e hL hp, rd_2 e hL hp, a1, e_cl, rd_1 e1 hL hp, rd_2 e1 hL hp, rT s1, a2, e_cl]
    exact tl_eq a5 a3 a4
  rw [if_neg q5]
  by_cases q6 : x56 = 6
  · obtain ⟨m1, j1, u1, m2, c, r, a1, e1, s1, a2, a3, a4, a5⟩ := L_worth hI (xs (p + 1))
    refine ⟨m2, j1, u1, a5, ?_⟩
    rw [if_pos q6, rd_1 e hL hp, a1, e_cl, rd_1 e1 hL hp, rT s1, a2, e_cl]
    exact tl_eq a5 a3 a4
  rw [if_neg q6]
  by_cases q7 : x56 = 7
  · obtain ⟨m1, j1, u1, m2, c, r, a1, e1, s1, a2, a3, a4, a5⟩ := L_fit hI (xs (p + 1)) (xs (p + 2)) (xs (p + 3))
    refine ⟨m2, j1, u1, a5, ?_⟩
    rw [if_pos q7, rd_1 e hL hp, rd_2 e hL hp, rd_3 e hL hp, a1, e_cl, rd_1 e1 hL hp, rd_2 e1 hL hp, rd_3 e1 hL hp, rT s1, a2, e_cl]
    exact tl_eq a5 a3 a4
  rw [if_neg q7]
  by_cases q8 : x56 = 8
  · obtain ⟨m1, j1, u1, m2, c, r, a1, e1, s1, a2, a3, a4, a5⟩ := L_best hI (xs (p + 1))
    refine ⟨m2, j1, u1, a5, ?_⟩
    rw [if_pos q8, rd_1 e hL hp, a1, e_cl, rd_1 e1 hL hp, rT s1, a2, e_cl]
    exact tl_eq a5 a3 a4
  rw [if_neg q8]
  by_cases q9 : x56 = 9
  · obtain ⟨m1, j1, u1, m2, c, r, a1, e1, s1, a2, a3, a4, a5⟩ := L_sawn hI (xs (p + 1)) (xs (p + 2))
    refine ⟨m2, j1, u1, a5, ?_⟩
    rw [if_pos q9, rd_1 e hL hp, rd_2 e hL hp, a1, e_cl, rd_1 e1 hL hp, rd_2 e1 hL hp, rT s1, a2, e_cl]
    exact tl_eq a5 a3 a4
  rw [if_neg q9]
  by_cases q10 : x56 = 10
  · obtain ⟨m1, j1, u1, m2, c, r, a1, e1, s1, a2, a3, a4, a5⟩ := L_cut hI (xs (p + 1)) (xs (p + 2)) (xs (p + 3))
    refine ⟨m2, j1, u1, a5, ?_⟩
    rw [if_pos q10, rd_1 e hL hp, rd_2 e hL hp, rd_3 e hL hp, a1, e_cl, rd_1 e1 hL hp, rd_2 e1 hL hp, rd_3 e1 hL hp, rT s1, a2, e_cl]
    exact tl_eq a5 a3 a4
  rw [if_neg q10]
  by_cases q11 : x56 = 11
  · obtain ⟨m1, j1, u1, m2, c, r, a1, e1, s1, a2, a3, a4, a5⟩ := L_done hI (xs (p + 1))
    refine ⟨m2, j1, u1, a5, ?_⟩
    rw [if_pos q11, rd_1 e hL hp, a1, e_cl, rd_1 e1 hL hp, rT s1, a2, e_cl]
    exact tl_eq a5 a3 a4
  rw [if_neg q11]
  by_cases q12 : x56 = 12
  · obtain ⟨m1, j1, u1, m2, c, r, a1, e1, s1, a2, a3, a4, a5⟩ := L_facet hI (xs (p + 1)) (xs (p + 2)) (xs (p + 3))
    refine ⟨m2, j1, u1, a5, ?_⟩
    rw [if_pos q12, rd_1 e hL hp, rd_2 e hL hp, rd_3 e hL hp, a1, e_cl, rd_1 e1 hL hp, rd_2 e1 hL hp, rd_3 e1 hL hp, rT s1, a2, e_cl]
    exact tl_eq a5 a3 a4
  rw [if_neg q12]
  by_cases q13 : x56 = 13
  · obtain ⟨m1, j1, u1, m2, c, r, a1, e1, s1, a2, a3, a4, a5⟩ := L_round hI (xs (p + 1))
    refine ⟨m2, j1, u1, a5, ?_⟩
    rw [if_pos q13, rd_1 e hL hp, a1, e_cl, rd_1 e1 hL hp, rT s1, a2, e_cl]
    exact tl_eq a5 a3 a4
  rw [if_neg q13]
  by_cases q14 : x56 = 14
  · obtain ⟨m1, j1, u1, m2, c, r, a1, e1, s1, a2, a3, a4, a5⟩ := L_plan hI (xs (p + 1)) (xs (p + 2))
    refine ⟨m2, j1, u1, a5, ?_⟩
    rw [if_pos q14, rd_1 e hL hp, rd_2 e hL hp, a1, e_cl, rd_1 e1 hL hp, rd_2 e1 hL hp, rT s1, a2, e_cl]
    exact tl_eq a5 a3 a4
  rw [if_neg q14]
  by_cases q15 : x56 = 15
  · obtain ⟨m1, j1, u1, m2, c, r, a1, e1, s1, a2, a3, a4, a5⟩ := L_polish hI (xs (p + 1))
    refine ⟨m2, j1, u1, a5, ?_⟩
    rw [if_pos q15, rd_1 e hL hp, a1, e_cl, rd_1 e1 hL hp, rT s1, a2, e_cl]
    exact tl_eq a5 a3 a4
  rw [if_neg q15]
  by_cases q16 : x56 = 16
  · obtain ⟨m1, j1, u1, m2, c, r, a1, e1, s1, a2, a3, a4, a5⟩ := L_told hI (xs (p + 1)) (xs (p + 2))
    refine ⟨m2, j1, u1, a5, ?_⟩
    rw [if_pos q16, rd_1 e hL hp, rd_2 e hL hp, a1, e_cl, rd_1 e1 hL hp, rd_2 e1 hL hp, rT s1, a2, e_cl]
    exact tl_eq a5 a3 a4
  rw [if_neg q16]
  by_cases q17 : x56 = 17
  · obtain ⟨m1, j1, u1, m2, r, a1, e1, s1, a2, a5⟩ := L_match hI
    refine ⟨m2, j1, u1, a5, ?_⟩
    rw [if_pos q17, cT_10 hc, a1, e_cl, rT s1, a2, e_cl, if_pos rfl]
  rw [if_neg q17]
  by_cases q18 : x56 = 18
  · obtain ⟨m1, j1, u1, m2, c, r, a1, e1, s1, a2, a3, a4, a5⟩ := L_lot hI (xs (p + 1)) (xs (p + 2))
    refine ⟨m2, j1, u1, a5, ?_⟩
    rw [if_pos q18, rd_1 e hL hp, rd_2 e hL hp, a1, e_cl, rd_1 e1 hL hp, rd_2 e1 hL hp, rT s1, a2, e_cl]
    exact tl_eq a5 a3 a4
  rw [if_neg q18]
  by_cases q19 : x56 = 19
  · obtain ⟨m1, j1, u1, m2, c, r, a1, e1, s1, a2, a3, a4, a5⟩ := L_bid hI (xs (p + 1)) (xs (p + 2)) (xs (p + 3))
    refine ⟨m2, j1, u1, a5, ?_⟩
    rw [if_pos q19, rd_1 e hL hp, rd_2 e hL hp, rd_3 e hL hp, a1, e_cl, rd_1 e1 hL hp, rd_2 e1 hL hp, rd_3 e1 hL hp, rT s1, a2, e_cl]
    exact tl_eq a5 a3 a4
  rw [if_neg q19]
  by_cases q20 : x56 = 20
  · obtain ⟨m1, j1, u1, m2, c, r, a1, e1, s1, a2, a3, a4, a5⟩ := L_most hI (xs (p + 1)) (xs (p + 2))
    refine ⟨m2, j1, u1, a5, ?_⟩
    rw [if_pos q20, rd_1 e hL hp, rd_2 e hL hp, a1, e_cl, rd_1 e1 hL hp, rd_2 e1 hL hp, rT s1, a2, e_cl]
    exact tl_eq a5 a3 a4
  rw [if_neg q20]
  by_cases q21 : x56 = 21
  · obtain ⟨m1, j1, u1, m2, r, a1, e1, s1, a2, a5⟩ := L_sell hI
    refine ⟨m2, j1, u1, a5, ?_⟩
    rw [if_pos q21, cT_10 hc, a1, e_cl, rT s1, a2, e_cl, if_pos rfl]
  rw [if_neg q21]
  by_cases q22 : x56 = 22
  · obtain ⟨m1, j1, u1, m2, r, a1, e1, s1, a2, a5⟩ := L_count hI (xs (p + 1))
    refine ⟨m2, j1, u1, a5, ?_⟩
    rw [if_pos q22, rd_1 e hL hp, cT_10 hc, a1, e_cl, rd_1 e1 hL hp, rT s1, a2, e_cl, if_pos rfl]
  rw [if_neg q22]
  exact ⟨m, j, u, hI, rfl⟩
theorem L_loop (hL : L ≤ 3584) : ∀ (fu p : Nat) (m : IM) (j : JM) (u : SU), INV L xs m j u → p ≤ L → L < p + 7 * fu → ∃ h, F_L_law_L23 4 10 200 5 k1569 k1561 k1536 k1520 k1503 k1452 k1435 k1372 k1355 k1307 k1291 k1274 k1223 k1206 k1167 k1150 k1099 k1082 k1043 k1026 k963 k946 k907 k890 k827 k810 k759 k742 k703 k686 k623 k606 k567 k550 k499 k482 k446 k370 k353 k314 k297 k159 fu (nI p) (pm m j u) = k1569 h := by
  intro fu
  induction fu with
  | zero => intro p m j u _ h1 h2; omega
  | succ fu ih =>
    intro p m j u h h1 h2
    by_cases c : p + 6 < L
    · obtain ⟨m2, j2, u2, a1, a2⟩ := L_step h hL c fu
      rw [a2]
      exact ih (p + 7) m2 j2 u2 a1 (by omega) (by omega)
    · obtain ⟨_, _, _, _, _, _, _, _, _, _, _, _, _, _, _, _, _, _, _, _, e⟩ := h
      refine ⟨pm m j u, ?_⟩
      rw [F_L_law_L23, e_lnS e, if_pos ((lp_out hL (by omega)).mpr (by omega))]
end LAW7
