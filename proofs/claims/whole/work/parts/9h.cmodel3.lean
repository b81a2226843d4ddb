/-! ===== the class: model, the call ===== -/
section CM3
variable {m : IM} {j : JM} {u : SU}
theorem C_model1 (hc : CS u) {tl : Nat} {tb : Nat → Int32} (htl : tl ≤ 100) (hA : CAt m tl tb) {x : Int32} (hx : ¬ ∃ n, n ≤ tl ∧ x = nI n) : F_X11_model 10 x (pm m j u) = some (.inl 2, pm m j u) := by
  by_cases c : x < 0
  · rw [F_X11_model, e_jn, if_pos c]
  · obtain ⟨n, hn, rfl⟩ := nI_of c
    rw [F_X11_model, e_jn, if_neg c, cR_10_3 hc, cG_50 hc, hA.1, if_neg (show ¬ nI n ≤ nI tl from nI_ge (Nat.lt_of_not_le fun z => hx ⟨n, z, rfl⟩) hn)]
theorem C_model2 (hc : CS u) {tl n : Nat} {tb : Nat → Int32} {ly : Nat → List Lay} (htl : tl ≤ 100) (hA : CAt m tl tb) (hn : n ≤ tl) (hM : CAm m j u 6 ly) : F_X11_model 10 (nI n) (pm m j u) = some (.inl 3, pm m j u) := by
  rw [F_X11_model, e_jn, if_neg (nI_pos (show n < 2 ^ 31 by omega)), cR_10_3 hc, cG_50 hc, hA.1, if_pos (nI_le hn (show tl < 2 ^ 31 by omega)), cR_10_1 hc, cT_30 hc, C_size hM.1 hM.2.1, e_cl, if_neg (show ¬ nI 6 < 6 by decide)]
theorem C_model3 (hc : CS u) {tl n nR nM nS : Nat} {tb : Nat → Int32} {ly : Nat → List Lay} {sd : Nat → Bool} {bb : Nat → BST} (htl : tl ≤ 100) (hA : CAt m tl tb) (hn : n ≤ tl) (hM : CAm m j u nM ly) (h6 : nM < 6) (hr : nR ≤ 10) (hR : CAr m j u nR sd bb) (hF : UF u nR nM nS) (hT : TU m) (hl : ∀ l, ptext tb n = .inr l → okM l) :
    ∃ m' j' u', F_X11_model 10 (nI n) (pm m j u) = some (.inr (match ptext tb n with | .inl pl => -2 - nI pl | .inr _ => nI nM), pm m' j' u') ∧ UE (fun b => b < 20 ∨ (40 ≤ b ∧ b < 2000 ∧ b ≠ 50 ∧ b ≠ 52 ∧ b ≠ 53 ∧ b ≠ 54 ∧ b ≠ 55) ∨ 4000 ≤ b) m m' j j' u u' ∧ (∀ b, b < 20 ∨ (40 ≤ b ∧ b < 2000) → u'.1 b = u.1 b ∧ u'.2.1 b = u.2.1 b ∧ u'.2.2 b = u.2.2 b) ∧ CS u' ∧ m' 50 1 = nI 0 ∧
    (match ptext tb n with | .inl _ => CAm m' j' u' nM ly ∧ CAr m' j' u' nR sd bb ∧ UF u' nR nM nS | .inr l => CAm m' j' u' (nM + 1) (upd1 ly nM l) ∧ (∀ bb', CAr m' j' u' nR sd bb') ∧ UF u' nR (nM + 1) nS) := by
  obtain ⟨m1, fl, a1, a2, a3, a4⟩ := C_readModel (j := j) hc hA hn htl
  obtain ⟨m2, e2⟩ : ∃ m2, m2 = u2 m1 50 1 0 := ⟨_, rfl⟩
  have k2 : ∀ b, b ≠ 50 → b ≠ 52 → b ≠ 53 → b ≠ 54 → b ≠ 55 → m2 b = m b := fun b h0 h1 h2 h3 h4 => by rw [e2, e_u2r h0, a2 b h0 h1 h2 h3 h4]
  have U2 : UE (fun b => b ≠ 50 ∧ b ≠ 52 ∧ b ≠ 53 ∧ b ≠ 54 ∧ b ≠ 55) m m2 j j u u := UE.int (fun b hb => k2 b hb.1 hb.2.1 hb.2.2.1 hb.2.2.2.1 hb.2.2.2.2)
  have hM2 : CAm m2 j u nM ly := CAm_ue hM (U2.sub (fun b hb => by omega))
  have hR2 : CAr m2 j u nR sd bb := CAr_ue hR (U2.sub (fun b hb => by omega))
  have z2 : m2 50 1 = nI 0 := by rw [e2, e_u2s]; rfl
  have G : F_X11_model 10 (nI n) (pm m j u) = if ¬ nI fl = 0 then (gR (pm m2 j u) 10 12 1 fun x14 => nO (pm m2 j u) ((3000 + 50 * Int32.toNatClampNeg (mI (pm m2 j u) x14 2))) 4 fun h15 => gR h15 10 12 3 fun x16 => cl (F_X3_init ((3000 + 50 * Int32.toNatClampNeg (mI (pm m2 j u) x14 2))) x16 h15) fun r17 h18 => tst h18 x14 0 (cl (F_Jx4a65c_add_9ea2d x14 ((3000 + 50 * Int32.toNatClampNeg (mI (pm m2 j u) x14 2))) h18) fun r20 h21 => tst h21 10 12 (cl (F_X11_forgetCuts 10 h21) fun r23 h24 => some (.inr (nI nM), h24)))) else (gR (pm m2 j u) 10 12 3 fun x26 => gI (pm m2 j u) x26 10 2 fun x27 => some (.inr ((-2) - x27), (pm m2 j u))) := by
    rw [F_X11_model, e_jn, if_neg (nI_pos (show n < 2 ^ 31 by omega)), cR_10_3 hc, cG_50 hc, hA.1, if_pos (nI_le hn (show tl < 2 ^ 31 by omega)), cR_10_1 hc, cT_30 hc, C_size hM.1 hM.2.1, e_cl, if_pos (show nI nM < 6 from nI_lt (b := 6) h6 (by decide)), cR_10_3 hc, cT_50 hc, a1, e_cl, cR_10_3 hc, cP_50 hc, ← e2]
  rcases hp : ptext tb n with pl | l
  · rw [hp] at a4
    obtain ⟨b1, b2, b3⟩ := a4
    refine ⟨m2, j, u, ?_, U2.sub (fun b hb => by omega), fun _ _ => ⟨rfl, rfl, rfl⟩, hc, z2, hM2, hR2, hF⟩
    rw [G, b1, if_neg (show ¬ ¬ nI 0 = 0 from fun h => h rfl), cR_10_3 hc, cG_50 hc, e2, e_u2k (by decide), b2]
  · rw [hp] at a4
    obtain ⟨b1, b2, b3⟩ := a4
    have ok := hl l hp
    have hL2 : TL m2 l := by
      refine ⟨by rw [e2, e_u2k (by decide), b2, Nat.zero_add], fun i hi => ?_⟩
      have q := b3 i hi
      rw [Nat.zero_add] at q
      rw [e2, e_u2r (by decide), e_u2r (by decide), e_u2r (by decide), e_u2r (by decide)]
      exact q
    have hT2 : TU m2 := fun w hw x hx => by rw [k2 1 (by decide) (by decide) (by decide) (by decide) (by decide)]; exact hT w hw x hx
    obtain ⟨m3, j3, u3, c1, c2, c3, c4⟩ := C_newM (m := m2) (j := j) (β := (Nat ⊕ Int32) × PM) (a := 3000 + 50 * nM) hc ok (by omega) (fun i hi => hF _ (by omega)) hT2 hL2
    have hM3 : CAm m3 j3 u3 nM ly := CAm_ue hM2 (c2.sub (fun b hb => by omega))
    have hR3 : CAr m3 j3 u3 nR sd bb := CAr_ue hR2 (c2.sub (fun b hb => by omega))
    obtain ⟨d1, d2⟩ := c27 c3
    obtain ⟨m4, j4, u4, f1, f2, f3, f4, f5⟩ := C_add (m := m3) (j := j3) hM3.1 (by decide) d1 d2 hM3.2.1 (by omega) (fun k hk => by unfold nmM; omega) (by unfold nmM; omega) (Or.inl c4.1.2.1)
    have hN30 := (cLN c3 30 (by omega)).2
    have f1 : F_Jx4a65c_add_9ea2d 30 (3000 + 50 * nM) (pm m3 j3 u3) = some (nI 1, pm m4 j4 u4) := f1
    have hc4 : CS u4 := CS_ue c3 (f2.sub (fun b hb => by have := fx_no hb; omega)) (fun L hL => by
      rcases (show L = 20 ∨ L = 30 ∨ L = 40 from hL) with rfl | rfl | rfl
      · rw [(f2 20 (by omega)).2.2.2.1, (f2 20 (by omega)).2.2.2.2]; exact cLN c3 20 (by omega)
      · exact ⟨f5.1, by rw [f4]; exact hN30⟩
      · rw [(f2 40 (by omega)).2.2.2.1, (f2 40 (by omega)).2.2.2.2]; exact cLN c3 40 (by omega))
    have hR4 : CAr m4 j4 u4 nR sd bb := CAr_ue hR3 (f2.sub (fun b hb => by omega))
    obtain ⟨m5, g1, g2, g3⟩ := C_forget hc4 hr hR4
    have U3 : UE (fun b => b < 30 ∨ (40 ≤ b ∧ b < 3000 + 50 * nM) ∨ 3000 + 50 * nM + 39 < b) m2 m4 j j4 u u4 := (c2.sub (fun b hb => by omega)).tr (f2.sub (fun b hb => by omega))
    have U5 : UE (fun b => b < 2000 ∨ 3000 ≤ b) m4 m5 j4 j4 u4 u4 := UE.int (fun b hb => g2 b hb)
    refine ⟨m5, j4, u4, ?_, ((U2.sub (fun b hb => by omega)).tr (U3.sub (fun b hb => by omega))).tr (U5.sub (fun b hb => by omega)), fun b hb => (U3 b (by omega)).2.2, hc4, ?_, ⟨f5, ?_, fun q hq => ?_⟩, g3, fun x hx => ?_⟩
    · have hcl : (mI (pm m2 j u) 30 2).toNatClampNeg = nM := by rw [e_mI, hM2.2.1, nI_clamp (by omega)]
      have c1' := c1 (fun h18 => tst h18 30 0 (cl (F_Jx4a65c_add_9ea2d 30 (3000 + 50 * nM) h18) fun r20 h21 => tst h21 10 12 (cl (F_X11_forgetCuts 10 h21) fun r23 h24 => some (.inr (nI nM), h24))))
      have t10 : (nu u (3000 + 50 * nM) 5 0).2.1 10 = 13 := by rw [nu_2 (by omega)]; exact (hc.2.1 _ (List.mem_of_getElem? (i := 0) rfl)).1
      have r10 : (nu u (3000 + 50 * nM) 5 0).1 10 3 = 50 := by rw [nu_1 (by omega)]; exact hc.1 _ (List.mem_of_getElem? (i := 3) rfl)
      rw [G, b1, if_pos (show ¬ nI 1 = 0 by decide), cR_10_1 hc, hcl, e_nO (by omega) (hF _ (by omega)), e_gR t10 r10 (by decide)]
      refine c1'.trans ?_
      rw [e_tst hM3.1.1, f1, e_cl, cT_10 hc4, g1, e_cl]
    · rw [g2 50 (by omega), (U3 50 (by omega)).1]; exact z2
    · rw [g2 30 (by omega)]; exact f3
    · have kk : ∀ b, 40 ≤ b → m5 b = m4 b ∨ (2000 ≤ b ∧ b < 3000) := fun b hb => by
        by_cases c : 2000 ≤ b ∧ b < 3000
        · exact Or.inr c
        · exact Or.inl (g2 b (by omega))
      have fr : ∀ {l : List Lay}, MO m3 j3 u3 (nmM q) l → MO m5 j4 u4 (nmM q) l := fun {l} h => by
        obtain ⟨h1, h2⟩ := MO_fr (m' := m5) (j' := j4) h (fun b y1 y2 => by unfold nmM at y1 y2; rw [g2 b (by omega), (f2 b (by omega)).1]) (fun b y1 y2 => by unfold nmM at y1 y2; rw [(f2 b (by omega)).2.1])
        exact ⟨MoO_fr h1 (fun b y1 y2 => (f2 b (by unfold nmM at y1 y2; omega)).2.2), h2⟩
      by_cases e : q = nM
      · subst e
        rw [upd1_s]
        exact fr c4
      · rw [upd1_n e]
        exact fr (hM3.2.2 q (by omega))
    · by_cases c : 3000 ≤ x ∧ x < 4000
      · rw [(U3 x (by omega)).2.2.2.1]; exact hF x (by omega)
      · rw [(U3 x (by omega)).2.2.2.1]; exact hF x (by omega)
theorem C_count (hc : CS u) {nR nM nS : Nat} {sd : Nat → Bool} {bb : Nat → BST} {ly : Nat → List Lay} {sg ix an : Nat → Nat → Nat} (hR : CAr m j u nR sd bb) (hM : CAm m j u nM ly) (hS : CAs m u nS sg ix an) {c r : Int32} (hr : F_X11_soldStones 10 (pm m j u) = some (r, pm m j u)) : F_X11_count 10 c (pm m j u) = some (if c = 0 then nI nR else if c = 1 then nI nM else if c = 2 then nI nS else if c = 3 then m 100 6 else if c = 4 then m 10 9 else if c = 5 then m 60 2 else if c = 6 then m 50 1 else if c = 7 then r else -1, pm m j u) := by
  unfold F_X11_count
  by_cases c0 : c = 0
  · rw [if_pos c0, if_pos c0, cR_10_0 hc, cT_20 hc, C_size hR.1 hR.2.1, e_cl]
  rw [if_neg c0, if_neg c0]
  by_cases c1 : c = 1
  · rw [if_pos c1, if_pos c1, cR_10_1 hc, cT_30 hc, C_size hM.1 hM.2.1, e_cl]
  rw [if_neg c1, if_neg c1]
  by_cases c2 : c = 2
  · rw [if_pos c2, if_pos c2, cR_10_2 hc, cT_40 hc, C_size hS.1 hS.2.1, e_cl]
  rw [if_neg c2, if_neg c2]
  by_cases c3 : c = 3
  · rw [if_pos c3, if_pos c3, cR_10_8 hc, cG_100 hc]
  rw [if_neg c3, if_neg c3]
  by_cases c4 : c = 4
  · rw [if_pos c4, if_pos c4, cG_10 hc]
  rw [if_neg c4, if_neg c4]
  by_cases c5 : c = 5
  · rw [if_pos c5, if_pos c5, cR_10_4 hc, cG_60 hc]
  rw [if_neg c5, if_neg c5]
  by_cases c6 : c = 6
  · rw [if_pos c6, if_pos c6, cR_10_3 hc, cG_50 hc]
  rw [if_neg c6, if_neg c6]
  by_cases c7 : c = 7
  · rw [if_pos c7, if_pos c7, cT_10 hc, hr, e_cl]
  rw [if_neg c7, if_neg c7]
theorem R_count (hs : RS u) {nS nL : Nat} {sg ix an : Nat → Nat → Nat} (hD : SD nS nL sg ix an) (hA : RAs m nS sg ix an) {c : Int32} : F_X12_count 200 c (pm m j u) = some (if c = 0 then m 200 1 else if c = 1 then m 200 7 else if c = 2 then m 200 32 else if c = 3 then m 200 51 else if c = 4 then m 200 52 else if c = 5 then m 200 14 else if c = 6 then m 200 3 else if c = 7 then nI (fb_ct (soldP sg) nS) else -1, pm (u2 m 200 0 0) j u) := by
  have hL := fun k => R_cntL (j := j) (m := u2 m 200 0 0) hs hD (RAs_fr (A := []) (K := [0]) hA (Fr.fld (by decide)) (by decide) (by decide)) k nS 0 LF (by omega) (by have := hD.1; unfold LF; omega)
  have b : ∀ k, k ≠ 0 → u2 m 200 0 0 200 k = m 200 k := fun k hk => e_u2k hk
  unfold F_X12_count
  rw [rP hs]
  by_cases c0 : c = 0
  · rw [if_pos c0, if_pos c0, rI hs, b _ (by decide)]
  rw [if_neg c0, if_neg c0]
  by_cases c1 : c = 1
  · rw [if_pos c1, if_pos c1, rI hs, b _ (by decide)]
  rw [if_neg c1, if_neg c1]
  by_cases c2 : c = 2
  · rw [if_pos c2, if_pos c2, rI hs, b _ (by decide)]
  rw [if_neg c2, if_neg c2]
  by_cases c3 : c = 3
  · rw [if_pos c3, if_pos c3, rI hs, b _ (by decide)]
  rw [if_neg c3, if_neg c3]
  by_cases c4 : c = 4
  · rw [if_pos c4, if_pos c4, rI hs, b _ (by decide)]
  rw [if_neg c4, if_neg c4]
  by_cases c5 : c = 5
  · rw [if_pos c5, if_pos c5, rI hs, b _ (by decide)]
  rw [if_neg c5, if_neg c5]
  by_cases c6 : c = 6
  · rw [if_pos c6, if_pos c6, rI hs, b _ (by decide)]
  rw [if_neg c6, if_neg c6]
  by_cases c7 : c = 7
  · rw [if_pos c7, if_pos c7, e_jn]; exact hL _
  rw [if_neg c7, if_neg c7]
end CM3
