/-! ===== the class: done, the rest ===== -/
theorem cut_cong {wv : Nat → Nat} {S S' : Nat → Bool} {ly : Nat → List Lay} (hS : ∀ i, i < 216 → S' i = S i) : ∀ nM, (∀ q, q < nM → okM (ly q)) → cutC wv S' nM ly = cutC wv S nM ly := by
  have dn : ∀ (q : Nat) (l : List Lay), okM l → ∀ (T : Nat) (ct : CT), dnT wv S' q l T ct = dnT wv S q l T ct := by
    intro q l hl T
    induction T with
    | zero => intro ct; rfl
    | succ T ih =>
      intro ct
      have hw : way1 S' l (T + 1) = way1 S l (T + 1) := ff_cong (fun w hw => by rw [fitW_cong hS (by omega) hw hl])
      have est : stT wv S' q l (T + 1) ct = stT wv S q l (T + 1) ct := by
        unfold stT
        rw [hw]
        by_cases c : way1 S l (T + 1) < 6
        · rw [fitW_cong hS (by omega) c hl]
        · rw [if_neg (fun z => c z.2), if_neg (fun z => c z.2)]
      rw [dnT, dnT, ih, est]
  intro nM
  induction nM with
  | zero => intro _; unfold cutC; rw [fo, fo]
  | succ nM ih =>
    intro hM
    show dnT wv S' nM (ly nM) 6 (cutC wv S' nM ly) = dnT wv S nM (ly nM) 6 (cutC wv S nM ly)
    rw [ih (fun q hq => hM q (by omega)), dn nM (ly nM) (hM nM (by omega))]
theorem best_cong {wv : Nat → Nat} {S S' : Nat → Bool} {nM : Nat} {ly : Nat → List Lay} (hM : ∀ q, q < nM → okM (ly q)) (hS : ∀ i, i < 216 → S' i = S i) : bestN wv S' nM ly = bestN wv S nM ly := by
  have e : cutK wv S' nM ly = cutK wv S nM ly := by
    funext k
    exact cut_cong (fun i hi => by unfold prt inP; rw [hS i hi]) nM hM
  unfold bestN
  rw [e]
def bbF (ps : Nat) (pf pp : Nat → Nat) (nM : Nat) (ly : Nat → List Lay) (sd : Nat → Bool) : Nat → BST := fun r => bstI (bestN (wOf ps pf pp) (rgh sd r) nM ly)
theorem bb_cong {ps : Nat} {pf pp : Nat → Nat} {nM : Nat} {ly : Nat → List Lay} {sd sd' : Nat → Bool} {r : Nat} (hD : MD nM ly) (hS : ∀ i, i < 216 → sd' (216 * r + i) = sd (216 * r + i)) : bbF ps pf pp nM ly sd' r = bbF ps pf pp nM ly sd r := by
  unfold bbF
  rw [best_cong (S := rgh sd r) (S' := rgh sd' r) (fun q hq => okM_of hD hq) (fun i hi => hS i hi)]
section CD2
variable {m : IM} {j : JM} {u : SU}
theorem FW_SB {m' : IM} (h : SB m) (hF : FW m m') : SB m' := by
  refine ⟨fun w hw a ha => by rw [hF 1 (by decide) (by decide) (by omega) (by omega)]; exact h.1 w hw a ha, fun k hk => ?_⟩
  rw [hF (1070 + 2 * k) (by omega) (by omega) (by omega) (by omega)]
  exact h.2 k hk
theorem FW_CAs {m' : IM} {nS : Nat} {sg ix an : Nat → Nat → Nat} (h : CAs m u nS sg ix an) (hF : FW m m') : CAs m' u nS sg ix an := CAs_fr h (hF 40 (by decide) (by decide) (by omega) (by omega)) (fun b hb => hF b (by omega) (by omega) (by omega) (by omega))
theorem C_done2 (hc : CS u) {r nR nM ps nS : Nat} {sd : Nat → Bool} {ly : Nat → List Lay} {pf pp : Nat → Nat} {sg ix an : Nat → Nat → Nat} (hr : r < nR) (hn : nR ≤ 10) (hD : MD nM ly) (hPD : PD ps pf pp) (hA : CAr m j u nR sd (bbF ps pf pp nM ly sd)) (hM : CAm m j u nM ly) (hP : CAp m ps pf pp) (hB : SB m) (hS : CAs m u nS sg ix an) (hnS : nS ≤ 40) (hcut : 40 < nS + (bestN (wOf ps pf pp) (rgh sd r) nM ly).2.2.2.1) : ∃ m' j', F_X11_done 10 (nI r) (pm m j u) = some (.inr (-1), pm m' j' u) ∧ CQ m m' j j' u nR sd nM ly ps pf pp := by
  obtain ⟨m', j', a1, a2, a3, a4, a5⟩ := C_sawnR hc hr hn hD hPD hA hM hP hB
  have hO := (hA.2.2 r hr).1
  obtain ⟨-, -, -, k5, kc, -, -⟩ := a5
  have k5 : m' (nmR r) 5 = nI (bestN (wOf ps pf pp) (rgh sd r) nM ly).2.2.2.1 := k5
  have kc : (bestN (wOf ps pf pp) (rgh sd r) nM ly).2.2.2.1 ≤ 2 := kc
  have hS1 := FW_CAs hS a2
  refine ⟨m', j', ?_, a2, a3, a4⟩
  unfold F_X11_done
  rw [cT_10 hc, a1, e_cxr, oG hO, k5, cR_10_2 hc, cT_40 hc, C_size hS1.1 hS1.2.1, e_cl, nI_add, if_neg (show ¬ nI (nS + (bestN (wOf ps pf pp) (rgh sd r) nM ly).2.2.2.1) ≤ 40 from nI_ge (a := 40) hcut (by omega))]
theorem C_addS2 (hc : CS u) {nR nM nS c W q r : Nat} {sg ix an : Nat → Nat → Nat} {β : Type} (hS : nS < 40) (hA : CAs m u nS sg ix an) (hF : UF u nR nM nS) (hcut : 2000 ≤ c) (hcut2 : c < 3000) (hc3 : u.2.1 c = 3) (c1 : m c 1 = nI q) (c7 : m c 7 = nI W) {x : Nat} {g : Nat → PM → Option β → Prop} (hx : x = 4000 + 10 * nS) : ∃ m' j' u', (∀ (K : PM → Option β), cl (F_X8_init x (nI r) c (pm (z1 m x 0) (z1 j x 0) (nu u x 10 0))) (fun _ h25 => tst h25 40 0 (cl (F_Jx4a65c_add_9ea2d 40 x h25) fun _ h28 => K h28)) = K (pm m' j' u')) ∧ UE (fun b => b < 40 ∨ (50 ≤ b ∧ b < 4000 + 10 * nS) ∨ 4000 + 10 * nS + 3 < b) m m' j j' u u' ∧ CS u' ∧ CAs m' u' (nS + 1) (adS sg nS W q r) ix an ∧ UF u' nR nM (nS + 1) := by
  subst hx
  obtain ⟨m', j', u', a1, a2, a3, a4⟩ := C_addS (j := j) (r := r) (β := β) hc hS hA hF hcut hcut2 hc3 c1 c7
  refine ⟨m', j', u', fun K => ?_, a2, a3, a4, fun x hx => ?_⟩
  · exact (e_nO (m := m) (j := j) (u := u) (c := 9) (f := fun h22 => cl (F_X8_init (4000 + 10 * nS) (nI r) c h22) fun _ h25 => tst h25 40 0 (cl (F_Jx4a65c_add_9ea2d 40 (4000 + 10 * nS) h25) fun _ h28 => K h28)) (by omega) (hF _ (by omega))).symm.trans (a1 K)
  · by_cases c : 4000 ≤ x
    · rw [(a2 x (by omega)).2.2.2.1]; exact hF x (by omega)
    · rw [(a2 x (by omega)).2.2.2.1]; exact hF x (by omega)
/-- what done leaves as it was -/
def dnP (nS b : Nat) : Prop := (b < 40 ∨ 50 ≤ b) ∧ b ≠ 72 ∧ b ≠ 73 ∧ b ≠ 74 ∧ (b < 1071 ∨ 1119 < b ∨ b % 2 = 0) ∧ (b < 2000 ∨ 3000 ≤ b) ∧ b < 4000
theorem C_done3 (hc : CS u) {r nR nM ps nS : Nat} {sd : Nat → Bool} {ly : Nat → List Lay} {pf pp : Nat → Nat} {sg ix an : Nat → Nat → Nat} (hr : r < nR) (hn : nR ≤ 10) (hD : MD nM ly) (hPD : PD ps pf pp) (hA : CAr m j u nR sd (bbF ps pf pp nM ly sd)) (hM : CAm m j u nM ly) (hP : CAp m ps pf pp) (hB : SB m) (hS : CAs m u nS sg ix an) (hF : UF u nR nM nS) (hcut : nS + (bestN (wOf ps pf pp) (rgh sd r) nM ly).2.2.2.1 ≤ 40) : ∃ m' j' u', F_X11_done 10 (nI r) (pm m j u) = some (.inr (nI (bestN (wOf ps pf pp) (rgh sd r) nM ly).2.2.2.1), pm m' j' u') ∧ UE (dnP nS) m m' j j' u u' ∧ CS u' ∧ CAs m' u' (nS + (bestN (wOf ps pf pp) (rgh sd r) nM ly).2.2.2.1) (dnS sg nS r (bestN (wOf ps pf pp) (rgh sd r) nM ly)) ix an ∧ UF u' nR nM (nS + (bestN (wOf ps pf pp) (rgh sd r) nM ly).2.2.2.1) ∧ CAr m' j' u' nR (clrS sd r) (bbF ps pf pp nM ly (clrS sd r)) := by
  obtain ⟨m1, j1, a1, a2, a3, a4, a5⟩ := C_sawnR hc hr hn hD hPD hA hM hP hB
  obtain ⟨o1, o2, o3⟩ := best_ok (wv := wOf ps pf pp) (S := rgh sd r) hD.1 (fun q hq => okM_of hD hq) 12
  have hbn : bstF (cutK (wOf ps pf pp) (rgh sd r) nM ly) 12 = bestN (wOf ps pf pp) (rgh sd r) nM ly := rfl
  rw [hbn] at o1 o2 o3
  have hA1 : CAr m1 j1 u nR sd (bbF ps pf pp nM ly sd) := a4
  have hO := (hA.2.2 r hr).1
  have hS1 := FW_CAs hS a2
  obtain ⟨-, -, -, k5, kc, kf, kg⟩ := a5
  have k5 : m1 (nmR r) 5 = nI (bestN (wOf ps pf pp) (rgh sd r) nM ly).2.2.2.1 := k5
  have kf : 1 ≤ (bestN (wOf ps pf pp) (rgh sd r) nM ly).2.2.2.1 → ∀ k, k < 7 → m1 (nmR r + 2) (k + 1) = (bestN (wOf ps pf pp) (rgh sd r) nM ly).2.2.2.2.1 k := kf
  have kg : 2 ≤ (bestN (wOf ps pf pp) (rgh sd r) nM ly).2.2.2.1 → ∀ k, k < 7 → m1 (nmR r + 3) (k + 1) = (bestN (wOf ps pf pp) (rgh sd r) nM ly).2.2.2.2.2 k := kg
  have u1 : UE (dnP nS) m m1 j j1 u u := fun b hb => ⟨a2 b hb.2.1 hb.2.2.2.1 hb.2.2.2.2.1 hb.2.2.2.2.2.1, a3 b hb.2.2.1, rfl, rfl, rfl⟩
  have hra : 2000 ≤ nmR r ∧ nmR r + 3 < 3000 := by unfold nmR; omega
  have head : F_X11_done 10 (nI r) (pm m j u) = (jn (fun (h12 : PM) => jn (fun (h13 : PM) => jn (fun (h14 : PM) => pZ h14 (nmR r) 7 1 0 fun h15 => some ((Sum.inr (nI (bestN (wOf ps pf pp) (rgh sd r) nM ly).2.2.2.1) : Nat ⊕ Int32), h15)) fun k100 => F_X11_done_L79 (nmR r) (nI (bestN (wOf ps pf pp) (rgh sd r) nM ly).2.2.2.1) k100 LF 0 h13) fun k76 => if nI (bestN (wOf ps pf pp) (rgh sd r) nM ly).2.2.2.1 ≤ 1 then (k76 h12) else (gR h12 10 12 2 fun x21 => nO h12 ((4000 + 10 * Int32.toNatClampNeg (mI h12 x21 2))) 9 fun h22 => gR h22 (nmR r) 7 7 fun x23 => cl (F_X8_init ((4000 + 10 * Int32.toNatClampNeg (mI h12 x21 2))) (nI r) x23 h22) fun r24 h25 => tst h25 x21 0 (cl (F_Jx4a65c_add_9ea2d x21 ((4000 + 10 * Int32.toNatClampNeg (mI h12 x21 2))) h25) fun r27 h28 => k76 h28))) fun k51 => if nI (bestN (wOf ps pf pp) (rgh sd r) nM ly).2.2.2.1 ≤ 0 then (k51 (pm m1 j1 u)) else (gR (pm m1 j1 u) 10 12 2 fun x30 => nO (pm m1 j1 u) ((4000 + 10 * Int32.toNatClampNeg (mI (pm m1 j1 u) x30 2))) 9 fun h31 => gR h31 (nmR r) 7 6 fun x32 => cl (F_X8_init ((4000 + 10 * Int32.toNatClampNeg (mI (pm m1 j1 u) x30 2))) (nI r) x32 h31) fun r33 h34 => tst h34 x30 0 (cl (F_Jx4a65c_add_9ea2d x30 ((4000 + 10 * Int32.toNatClampNeg (mI (pm m1 j1 u) x30 2))) h34) fun r36 h37 => k51 h37))) := by
    unfold F_X11_done
    rw [cT_10 hc, a1, e_cxr, oG hO, k5, cR_10_2 hc, cT_40 hc, C_size hS1.1 hS1.2.1, e_cl, nI_add, if_pos (show nI (nS + (bestN (wOf ps pf pp) (rgh sd r) nM ly).2.2.2.1) ≤ 40 from nI_le (b := 40) hcut (by decide))]
  generalize hb : bestN (wOf ps pf pp) (rgh sd r) nM ly = b at *
  -- the stones
  have st : ∃ m2 j2 uu, F_X11_done 10 (nI r) (pm m j u) = (jn (fun (h14 : PM) => pZ h14 (nmR r) 7 1 0 fun h15 => some ((Sum.inr (nI b.2.2.2.1) : Nat ⊕ Int32), h15)) fun k100 => F_X11_done_L79 (nmR r) (nI b.2.2.2.1) k100 LF 0 (pm m2 j2 uu)) ∧ UE (fun b => b < 40 ∨ (50 ≤ b ∧ b < 4000 + 10 * nS)) m1 m2 j1 j2 u uu ∧ CS uu ∧ CAs m2 uu (nS + b.2.2.2.1) (dnS sg nS r b) ix an ∧ UF uu nR nM (nS + b.2.2.2.1) := by
    have hcl : (mI (pm m1 j1 u) 40 2).toNatClampNeg = nS := by rw [e_mI, hS1.2.1, nI_clamp (by omega)]
    rcases (show b.2.2.2.1 = 0 ∨ b.2.2.2.1 = 1 ∨ b.2.2.2.1 = 2 by omega) with z | z | z
    · refine ⟨m1, j1, u, ?_, fun _ _ => ⟨rfl, rfl, rfl, rfl, rfl⟩, hc, ?_, by rw [z]; exact hF⟩
      · rw [head, e_jn, z, if_pos (show nI 0 ≤ 0 by decide)]
        exact e_jn.trans (if_pos (show nI 0 ≤ 1 by decide))
      · unfold dnS; rw [if_pos z, z]; exact hS1
    · obtain ⟨q1, q2, q3, q4⟩ := o2 (by omega)
      obtain ⟨m2, j2, uu, b1, b2, b3, b4, b5⟩ := C_addS2 (m := m1) (j := j1) (x := 4000 + 10 * nS) (r := r) (q := tnI (b.2.2.2.2.1 0)) (W := tnI (b.2.2.2.2.1 6)) (c := nmR r + 2) (β := (Nat ⊕ Int32) × PM) (g := fun _ _ _ => True) hc (by omega) hS1 hF (by omega) (by omega) hO.2.2.2.2.1 (by rw [kf (by omega) 0 (by decide)]; exact q1) (by rw [kf (by omega) 6 (by decide)]; exact q3) rfl
      have hO2 : RoO (nu u (4000 + 10 * nS) 10 0) (nmR r) := RoO_fr hO (fun x g1 g2 => ⟨nu_1 (by omega), nu_2 (by omega), nu_3 (by omega)⟩)
      refine ⟨m2, j2, uu, ?_, b2.sub (fun x hx => by omega), b3, ?_, by rw [z]; exact b5⟩
      · rw [head, e_jn, z, if_neg (show ¬ nI 1 ≤ 0 by decide), cR_10_2 hc, hcl, e_nO (by omega) (hF _ (by omega)), oR6 hO2]
        refine (b1 _).trans ?_
        rw [e_jn, if_pos (show nI 1 ≤ 1 by decide)]
      · unfold dnS; rw [if_neg (by omega), if_pos z, z]; exact b4
    · obtain ⟨q1, q2, q3, q4⟩ := o2 (by omega)
      obtain ⟨p1, p2, p3, p4⟩ := o3 (by omega)
      obtain ⟨m2, j2, uu, b1, b2, b3, b4, b5⟩ := C_addS2 (m := m1) (j := j1) (x := 4000 + 10 * nS) (r := r) (q := tnI (b.2.2.2.2.1 0)) (W := tnI (b.2.2.2.2.1 6)) (c := nmR r + 2) (β := (Nat ⊕ Int32) × PM) (g := fun _ _ _ => True) hc (by omega) hS1 hF (by omega) (by omega) hO.2.2.2.2.1 (by rw [kf (by omega) 0 (by decide)]; exact q1) (by rw [kf (by omega) 6 (by decide)]; exact q3) rfl
      have hO2 : RoO (nu u (4000 + 10 * nS) 10 0) (nmR r) := RoO_fr hO (fun x g1 g2 => ⟨nu_1 (by omega), nu_2 (by omega), nu_3 (by omega)⟩)
      have e3 := b2 (nmR r + 3) (by omega)
      have hO3 : RoO uu (nmR r) := RoO_fr hO (fun x g1 g2 => (b2 x (by omega)).2.2)
      obtain ⟨m3, j3, u3, c1, c2, c3, c4, c5⟩ := C_addS2 (m := m2) (j := j2) (u := uu) (x := 4000 + 10 * (nS + 1)) (r := r) (q := tnI (b.2.2.2.2.2 0)) (W := tnI (b.2.2.2.2.2 6)) (c := nmR r + 3) (β := (Nat ⊕ Int32) × PM) (g := fun _ _ _ => True) b3 (by omega) b4 b5 (by omega) (by omega) hO3.2.2.2.2.2 (by rw [e3.1, kg (by omega) 0 (by decide)]; exact p1) (by rw [e3.1, kg (by omega) 6 (by decide)]; exact p3) rfl
      have hcl2 : (mI (pm m2 j2 uu) 40 2).toNatClampNeg = nS + 1 := by rw [e_mI, b4.2.1, nI_clamp (by omega)]
      have hO4 : RoO (nu uu (4000 + 10 * (nS + 1)) 10 0) (nmR r) := RoO_fr hO3 (fun x g1 g2 => ⟨nu_1 (by omega), nu_2 (by omega), nu_3 (by omega)⟩)
      refine ⟨m3, j3, u3, ?_, (b2.sub (fun x hx => by omega)).tr (c2.sub (fun x hx => by omega)), c3, ?_, by rw [z]; exact c5⟩
      · rw [head, e_jn, z, if_neg (show ¬ nI 2 ≤ 0 by decide), cR_10_2 hc, hcl, e_nO (by omega) (hF _ (by omega)), oR6 hO2]
        refine (b1 _).trans ?_
        rw [e_jn, if_neg (show ¬ nI 2 ≤ 1 by decide), cR_10_2 b3, hcl2, e_nO (by omega) (b5 _ (by omega)), oR7 hO4]
        exact c1 _
      · unfold dnS; rw [if_neg (by omega), if_neg (by omega), z]; exact c4
  obtain ⟨m2, j2, uu, e1, b2, b3, b4, b5⟩ := st
  have hA2 : CAr m2 j2 uu nR sd (bbF ps pf pp nM ly sd) := CAr_ue hA1 (b2.sub (fun x hx => by omega))
  have hO2 := (hA2.2.2 r hr).1
  obtain ⟨j3, c1, c2, c3⟩ := C_clearL79 (m := m2) (x7 := nI b.2.2.2.1) hO2 6 0 LF j2 (by omega) (by unfold LF; omega) (fun y hy => by omega)
  refine ⟨u2 m2 (nmR r) 1 (nI 0), j3, uu, ?_, ?_, b3, ?_, b5, ?_⟩
  · rw [e1, e_jn, show (0 : Int32) = nI 0 from rfl, c1]
    try dsimp only
    rw [oZ hO2 (by omega)]
  · refine u1.tr (fun x hx => ?_)
    obtain ⟨h1, h2, h3, h4, h5, h6, h7⟩ := hx
    obtain ⟨q1, q2, q3, q4, q5⟩ := b2 x (by omega)
    refine ⟨?_, ?_, q3, q4, q5⟩
    · rw [e_u2r (by omega), q1]
    · rw [c2 x (by omega), q2]
  · refine CAs_fr b4 ?_ (fun x hx => ?_)
    · exact e_u2r (by omega)
    · exact e_u2r (by omega)
  · refine ⟨hA2.1, ?_, fun t ht => ?_⟩
    · rw [e_u2a (by omega)]; exact hA2.2.1
    · by_cases e : t = r
      · subst e
        refine ⟨hO2, fun z hz => ?_, Or.inl ?_⟩
        · rw [c3 z hz, show lay (rgh (clrS sd t) t) z = 0 from lay_z.mpr (fun i hi => by unfold rgh clrS; rw [if_pos (by omega)])]
        · exact e_u2s
      · have q := hA2.2.2 t ht
        have km : ∀ d, d ≤ 3 → (u2 m2 (nmR r) 1 (nI 0)) (nmR t + d) = m2 (nmR t + d) := fun d hd => by
          exact e_u2r (by unfold nmR; omega)
        have q2 := RO_fr (m' := (u2 m2 (nmR r) 1 (nI 0))) (j' := j3) q (c2 _ (by unfold nmR; omega)) (km 0 (by omega)) (km 2 (by omega)) (km 3 (by omega))
        have ebb : bbF ps pf pp nM ly (clrS sd r) t = bbF ps pf pp nM ly sd t := bb_cong hD (fun i hi => by unfold clrS; rw [if_neg (by omega)])
        rw [ebb]
        refine ⟨q2.1, fun z hz => ?_, q2.2.2⟩
        rw [q2.2.1 z hz]
        refine congrArg lN ?_
        unfold lay
        apply bN_cong
        intro i hi
        show sd (216 * t + (36 * z + i)) = clrS sd r (216 * t + (36 * z + i))
        unfold clrS
        rw [if_neg (by omega)]
end CD2
