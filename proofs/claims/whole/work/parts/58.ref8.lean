/-! ===== the reference: model, feed, count ===== -/
section REF8
variable {m : IM} {j : JM} {u : SU}
def MD (nM : Nat) (ly : Nat → List Lay) : Prop := nM ≤ 6 ∧ ∀ q, q < nM → ly q ≠ [] ∧ (ly q).length ≤ 6 ∧ ∀ a ∈ ly q, okLay a
def RAm (m : IM) (nM : Nat) (ly : Nat → List Lay) : Prop := m 200 7 = nI nM ∧ ∀ q, q < nM → m 203 q = nI (tot (ly q)) ∧ Cells m q 0 0 (ly q)
def RAt (m : IM) (tl : Nat) (tb : Nat → Int32) : Prop := m 200 3 = nI tl ∧ ∀ i, i < tl → m 202 i = tb i
theorem RAm_fr {m' : IM} {nM : Nat} {ly : Nat → List Lay} {A K : List Nat} (hA : RAm m nM ly) (hF : Fr A K m m') (h1 : 7 ∉ K) (h2 : ∀ a ∈ [203, 205, 206, 207], a ∉ A) : RAm m' nM ly := by
  refine ⟨by rw [hF.2 7 h1]; exact hA.1, fun q hq => ⟨by rw [hF.1 203 (h2 _ (by decide)) (by decide)]; exact (hA.2 q hq).1, Cells_cg _ _ _ (fun b i hb _ _ => ?_) (hA.2 q hq).2⟩⟩
  rcases hb with rfl | rfl | rfl
  · rw [hF.1 205 (h2 _ (by decide)) (by decide)]
  · rw [hF.1 206 (h2 _ (by decide)) (by decide)]
  · rw [hF.1 207 (h2 _ (by decide)) (by decide)]
theorem RAt_fr {m' : IM} {tl : Nat} {tb : Nat → Int32} {A K : List Nat} (hA : RAt m tl tb) (hF : Fr A K m m') (h1 : 3 ∉ K) (h2 : 202 ∉ A) : RAt m' tl tb :=
  ⟨by rw [hF.2 3 h1]; exact hA.1, fun i hi => by rw [hF.1 202 h2 (by decide)]; exact hA.2 i hi⟩
theorem tot_216 {nM q : Nat} {ly : Nat → List Lay} (hD : MD nM ly) (hq : q < nM) : tot (ly q) ≤ 216 := by
  have := tot_le (ly q) (hD.2 q hq).2.2
  have := (hD.2 q hq).2.1
  omega
theorem R_model1 (hs : RS u) {tl : Nat} {tb : Nat → Int32} (htl : tl ≤ 100) (hA : RAt m tl tb) {x : Int32} (hx : ¬ ∃ n, n ≤ tl ∧ x = nI n) : F_X12_model 200 x (pm m j u) = some (0, pm (u2 (u2 m 200 0 0) 200 0 1) j u) := by
  have e2 := R_may0 (j := j) hs (m := u2 m 200 0 0) th0 (show (1 : Int32) ≠ 0 by decide)
  by_cases c : x < 0
  · simp (disch := omega) only [F_X12_model, rP hs, rI hs, rT hs, e_cl, e_jn, e_lt, e_rz0, e_rz1, e_u2s, e_u2k, e_u2a, R_within, i10, i00, i01, if_true, if_false, not_true, not_false_eq_true, ne_eq, if_pos c, e2]
  · obtain ⟨n, hn, rfl⟩ := nI_of c
    have c2 : nI tl < nI n := nI_lt (Nat.lt_of_not_le fun z => hx ⟨n, z, rfl⟩) hn
    simp (disch := omega) only [F_X12_model, rP hs, rI hs, rT hs, e_cl, e_jn, e_lt, e_rz0, e_rz1, e_u2s, e_u2k, e_u2a, R_within, i10, i00, i01, if_true, if_false, not_true, not_false_eq_true, ne_eq, if_neg c, hA.1, if_pos c2, e2]
theorem R_model2 (hs : RS u) {tl n : Nat} {tb : Nat → Int32} (htl : tl ≤ 100) (hA : RAt m tl tb) (hn : n ≤ tl) (h6 : m 200 7 = nI 6) : F_X12_model 200 (nI n) (pm m j u) = some (0, pm (u2 (u2 m 200 0 0) 200 0 2) j u) := by
  have e2 := R_may0 (j := j) hs (m := u2 m 200 0 0) th0 (show (2 : Int32) ≠ 0 by decide)
  simp (disch := omega) only [F_X12_model, rP hs, rI hs, rT hs, e_cl, e_jn, e_lt, e_rz0, e_rz1, e_u2s, e_u2k, e_u2a, R_within, i10, i00, i01, if_true, if_false, not_true, not_false_eq_true, ne_eq, if_neg (nI_pos (show n < 2 ^ 31 by omega)), hA.1, if_neg (nI_nlt hn (show tl < 2 ^ 31 by omega)), R_may1 hs th0, h6, show (6 : Int32) ≤ nI 6 by decide, e2]
theorem MFr_RAm {m m' : IM} {nM : Nat} {ly : Nat → List Lay} (hD : MD nM ly) (h : ∀ q, q < nM → m 203 q = nI (tot (ly q)) ∧ Cells m q 0 0 (ly q)) (hF : MFr m m' nM 0) : ∀ q, q < nM → m' 203 q = nI (tot (ly q)) ∧ Cells m' q 0 0 (ly q) := fun q hq => by
  have ht := tot_216 hD hq
  refine ⟨by rw [(hF.2.2.1 q (by omega)).1]; exact (h q hq).1, Cells_cg _ _ _ (fun b i hb h1 h2 => hF.2.2.2 b i hb (by omega)) (h q hq).2⟩
theorem R_model3 (hs : RS u) {tl n nM : Nat} {tb : Nat → Int32} {ly : Nat → List Lay} (htl : tl ≤ 100) (hA : RAt m tl tb) (hM : RAm m nM ly) (hD : MD nM ly) (hn : n ≤ tl) (h6 : nM < 6) : ∃ m', F_X12_model 200 (nI n) (pm m j u) = some (match ptext tb n with | .inl pl => -2 - nI pl | .inr _ => nI nM, pm m' j u) ∧ m' 200 0 = 0 ∧ Fr [203, 204, 205, 206, 207] [0, 3, 4, 5, 6, 7] m m' ∧ RAt m' 0 tb ∧
    (match ptext tb n with | .inl _ => RAm m' nM ly | .inr l => RAm m' (nM + 1) (upd1 ly nM l) ∧ MD (nM + 1) (upd1 ly nM l)) := by
  obtain ⟨mm, emm⟩ : ∃ mm, mm = u2 (u2 (u2 (u2 (u2 (u2 (u2 m 200 0 0) 200 3 0) 200 4 (nI n)) 200 5 0) 200 6 (-1)) 203 nM 0) 204 nM 0 := ⟨_, rfl⟩
  have F1 : F_X12_model 200 (nI n) (pm m j u) = cl (F_X12_layer 200 (pm mm j u)) fun r26 h27 => F_X12_model_L98 200 (fun h29 => tst h29 200 13 (cl (F_X12_fine 200 h29) fun r30 h31 => if ¬ r30 = 0 then (gI h31 200 13 7 fun x33 => pI h31 200 13 7 (x33 + 1) fun h34 => gI h34 200 13 7 fun x35 => some (x35 - 1, h34)) else (gI h31 200 13 6 fun x36 => some ((-2) - x36, h31)))) LF h27 := by
    subst emm
    simp (disch := omega) only [F_X12_model, rP hs, rI hs, rT hs, e_cl, e_jn, e_lt, e_rz0, e_rz1, e_u2s, e_u2k, e_u2a, R_within, i10, i00, i01, if_true, if_false, not_true, not_false_eq_true, ne_eq, rR_9 hs, rA_203 hs, rS_203 hs, rR_10 hs, rA_204 hs, rS_204 hs, if_neg (nI_pos (show n < 2 ^ 31 by omega)), hA.1, if_neg (nI_nlt hn (show tl < 2 ^ 31 by omega)), R_may1 hs th0, hM.1, show ¬ (6 : Int32) ≤ nI nM from nI_ge (b := 6) h6 (by decide)]
  have fr0 : Fr [203, 204, 205, 206, 207] [0, 3, 4, 5, 6, 7] m mm := by
    subst emm
    exact (((((Fr.fld (by decide)).tr (Fr.fld (by decide))).tr (Fr.fld (by decide))).tr (Fr.fld (by decide))).tr (Fr.fld (by decide))).tr ((Fr.row (by decide) (by decide)).tr (Fr.row (by decide) (by decide)))
  have hT : TX mm n tb := by
    subst emm
    exact ⟨by omega, by simp (disch := omega) only [e_u2a, e_u2k, e_u2s], by simp (disch := omega) only [e_u2a, e_u2s], fun i hi => by simp (disch := omega) only [e_u2a]; exact hA.2 i (by omega)⟩
  have k0 : mm 200 0 = 0 := by subst emm; simp (disch := omega) only [e_u2a, e_u2k, e_u2s]
  have k3 : mm 200 3 = 0 := by subst emm; simp (disch := omega) only [e_u2a, e_u2k, e_u2s]
  have k5 : mm 200 5 = nI 0 := by subst emm; simp (disch := omega) only [e_u2a, e_u2k, e_u2s]; rfl
  have k7 : mm 200 7 = nI nM := by subst emm; simp (disch := omega) only [e_u2a, e_u2k]; exact hM.1
  have c3 : mm 203 nM = nI 0 := by subst emm; simp (disch := omega) only [e_u2a, e_u2s]; rfl
  have c4 : mm 204 nM = nI 0 := by subst emm; exact e_u2s
  have hmc : ∀ q, q < nM → mm 203 q = nI (tot (ly q)) ∧ Cells mm q 0 0 (ly q) := fun q hq => by
    subst emm
    refine ⟨by simp (disch := omega) only [e_u2a, e_u2k]; exact (hM.2 q hq).1, Cells_cg _ _ _ (fun b i hb _ _ => ?_) (hM.2 q hq).2⟩
    rcases hb with rfl | rfl | rfl <;> simp (disch := omega) only [e_u2a]
  have eat : mm = atM mm 0 := (u2_id k5).symm
  clear emm
  have fr1 : ∀ {m' : IM} {o : Nat}, MFr mm m' nM o → Fr [203, 204, 205, 206, 207] [0, 3, 4, 5, 6, 7] mm m' := fun h => ⟨h.1, fun k hk => h.2.1 k (fun z => hk (by rw [z]; decide)) (fun z => hk (by rw [z]; decide))⟩
  have fat : ∀ {m' : IM} (p : Nat), Fr [203, 204, 205, 206, 207] [0, 3, 4, 5, 6, 7] m' (atM m' p) := fun p => Fr.fld (by decide)
  have fbd : ∀ {m' : IM} (p : Nat), Fr [203, 204, 205, 206, 207] [0, 3, 4, 5, 6, 7] m' (badM m' p) := fun p => (Fr.fld (by decide)).tr (Fr.fld (by decide))
  rw [F1]
  -- what a text that is wrong leaves
  have bad : ∀ (m' : IM) (pl o : Nat), MFr mm m' nM o → pl ≤ n → RAm (badM m' pl) nM ly ∧ badM m' pl 200 0 = 0 ∧ Fr [203, 204, 205, 206, 207] [0, 3, 4, 5, 6, 7] m (badM m' pl) ∧ RAt (badM m' pl) 0 tb ∧ ¬ badM m' pl 200 6 = -1 ∧ badM m' pl 200 6 = nI pl := by
    intro m' pl o hF hpl
    have hF0 : MFr mm m' nM 0 := ⟨hF.1, hF.2.1, hF.2.2.1, fun b i hb hi => hF.2.2.2 b i hb (by omega)⟩
    have hc := MFr_RAm hD hmc hF0
    have b6 : badM m' pl 200 6 = nI pl := e_u2s
    refine ⟨⟨?_, fun q hq => ⟨?_, Cells_cg _ _ _ (fun b i hb _ _ => ?_) (hc q hq).2⟩⟩, ?_, (fr0.tr (fr1 hF)).tr (fbd pl), ⟨?_, fun i hi => by omega⟩, bad_ne (by omega), b6⟩
    · unfold badM; rw [e_u2k (by decide), e_u2k (by decide), hF.2.1 7 (by decide) (by decide)]; exact k7
    · unfold badM; rw [e_u2a (by decide), e_u2a (by decide)]; exact (hc q hq).1
    · unfold badM; rw [e_u2a (by omega), e_u2a (by omega)]
    · unfold badM; rw [e_u2k (by decide), e_u2k (by decide), hF.2.1 0 (by decide) (by decide)]; exact k0
    · unfold badM; rw [e_u2k (by decide), e_u2k (by decide), hF.2.1 3 (by decide) (by decide)]; exact k3
  unfold ptext
  rcases hpl : player tb n 0 with q1 | ⟨w, d, x, y, p2⟩
  · dsimp only
    obtain ⟨g1, -, g3⟩ := R_layer0 (j := j) hs hT (Nat.zero_le n) hpl
    obtain ⟨b1, b2, b3, b4, b5, b6⟩ := bad mm q1 0 (MFr.rf _ _ _) g3
    refine ⟨badM mm q1, ?_, b2, b3, b4, b1⟩
    rw [← eat] at g1
    rw [g1, e_cl, show LF = 19999 + 1 from rfl, F_X12_model_L98]
    simp (disch := omega) only [rP hs, rI hs, rT hs, e_cl, e_jn, e_lt, e_rz0, e_rz1, e_u2s, e_u2k, e_u2a, R_within, i10, i00, i01, if_true, if_false, not_true, not_false_eq_true, ne_eq, R_fine0 hs b5, b6]
  · dsimp only
    obtain ⟨⟨m1, g1, g2⟩, gw, gd, gx, gy, gp, gn⟩ := R_layer1 (j := j) hs hT (Nat.zero_le n) (by omega) k7 c3 c4 (by omega) hpl
    have fr2 := CWr_MFr (v := nI (0 + 1)) g2
    have hdw : d * w ≤ 36 := Nat.mul_le_mul gd.2 gw.2
    have eT : TX (u2 m1 204 nM (nI (0 + 1))) n tb := by
      refine ⟨hT.1, ?_, ?_, fun i hi => ?_⟩
      · rw [fr2.2.1 4 (by decide) (by decide)]; exact hT.2.1
      · rw [e_u2a (by decide), g2.2.2.1 200 (by decide) (by decide) (by decide) (by decide)]; exact hT.2.2.1
      · rw [fr2.1 202 (by decide) (by decide)]; exact hT.2.2.2 i hi
    have hL := R_modL (j := j) hs (show nM ≤ 6 by omega) (fun h29 => tst h29 200 13 (cl (F_X12_fine 200 h29) fun r30 h31 => if ¬ r30 = 0 then (gI h31 200 13 7 fun x33 => pI h31 200 13 7 (x33 + 1) fun h34 => gI h34 200 13 7 fun x35 => some (x35 - 1, h34)) else (gI h31 200 13 6 fun x36 => some ((-2) - x36, h31)))) 5 p2 LF (d * w) _ eT gn (by decide) (by decide) (by rw [fr2.2.1 7 (by decide) (by decide)]; exact k7) (by rw [e_u2a (by decide), g2.1, Nat.zero_add]) (by rw [e_u2s]) (by omega)
    rw [← eat] at g1
    rw [g1, e_cl]
    rcases hr : ptr tb n 5 p2 with q1 | l
    · dsimp only
      obtain ⟨m', f1, f2, f3⟩ := hL.1 _ hr
      obtain ⟨b1, b2, b3, b4, b5, b6⟩ := bad m' q1 0 (fr2.tr f2 (by omega)) f3
      refine ⟨badM m' q1, ?_, b2, b3, b4, b1⟩
      rw [f1]
      simp (disch := omega) only [rP hs, rI hs, rT hs, e_cl, e_jn, e_lt, e_rz0, e_rz1, e_u2s, e_u2k, e_u2a, R_within, i10, i00, i01, if_true, if_false, not_true, not_false_eq_true, ne_eq, R_fine0 hs b5, b6]
    · dsimp only
      obtain ⟨m', p3, f1, f2, f3, f4, f5, f6, f7, f8⟩ := hL.2 _ hr
      have ff : MFr mm m' nM 0 := fr2.tr f2 (by omega)
      have hc := MFr_RAm hD hmc ff
      have a6 : atM m' p3 200 6 = -1 := by unfold atM; rw [e_u2k (by decide)]; exact f8
      have a7 : atM m' p3 200 7 = nI nM := by unfold atM; rw [e_u2k (by decide), ff.2.1 7 (by decide) (by decide)]; exact k7
      refine ⟨u2 (atM m' p3) 200 7 (nI (nM + 1)), ?_, ?_, ((fr0.tr (fr1 ff)).tr (fat p3)).tr (Fr.fld (by decide)), ⟨?_, fun i hi => by omega⟩, ⟨e_u2s, fun q hq => ?_⟩, ⟨by omega, fun q hq => ?_⟩⟩
      · rw [f1]
        simp (disch := omega) only [rP hs, rI hs, rT hs, e_cl, e_jn, e_lt, e_rz0, e_rz1, e_u2s, e_u2k, e_u2a, R_within, i10, i00, i01, if_true, if_false, not_true, not_false_eq_true, ne_eq, R_fine1 hs a6, a7, nI_1]
        rw [show nI (nM + 1) - 1 = nI nM from nI_pred nM]
      · rw [e_u2k (by decide)]; unfold atM; rw [e_u2k (by decide), ff.2.1 0 (by decide) (by decide)]; exact k0
      · rw [e_u2k (by decide)]; unfold atM; rw [e_u2k (by decide), ff.2.1 3 (by decide) (by decide)]; exact k3
      · have hx : ∀ b, b ≠ 200 → u2 (atM m' p3) 200 7 (nI (nM + 1)) b = m' b := fun b hb => by rw [e_u2r hb]; exact e_u2r hb
        rw [hx 203 (by decide)]
        by_cases e : q = nM
        · subst e
          rw [upd1_s]
          refine ⟨by rw [f4]; rfl, Cells_cg _ _ _ (fun b i hb _ _ => by rw [hx b (by omega)]) ⟨fun t ht => ?_, ?_⟩⟩
          · have ht : t < d * w := ht
            rw [f2.2.2.2 205 _ (by omega) (by omega), f2.2.2.2 206 _ (by omega) (by omega), f2.2.2.2 207 _ (by omega) (by omega), e_u2a (by decide), e_u2a (by decide), e_u2a (by decide)]
            exact g2.2.1 t ht
          · show Cells m' q (0 + 1) (0 + d * w) l
            rw [Nat.zero_add, Nat.zero_add]; exact f3
        · rw [upd1_n e]
          exact ⟨(hc q (by omega)).1, Cells_cg _ _ _ (fun b i hb _ _ => by rw [hx b (by omega)]) (hc q (by omega)).2⟩
      · by_cases e : q = nM
        · subst e
          rw [upd1_s]
          refine ⟨fun z => (by cases z), by show l.length + 1 ≤ 6; omega, fun a ha => ?_⟩
          rcases List.mem_cons.mp ha with e | e
          · rw [e]; exact ⟨gw, gd, gx, gy⟩
          · exact f7 a e
        · rw [upd1_n e]
          exact hD.2 q (by omega)
/-- a byte of a word -/
def byt (v : Int32) (q : Nat) : Int32 := (v.toUInt32 >>> ((nI (24 - 8 * q)).toUInt32 &&& Int32.toUInt32 31)).toInt32 &&& 255
theorem byt_s {v : Int32} {q : Nat} (hq : q < 4) : (v >>> (nI (24 - 8 * q) &&& 31)) &&& 255 = byt v q := by
  unfold byt
  apply b_ext
  intro i hi
  rw [b_and, b_and, b_255, b_sshr _ (by omega) _ hi, b_ushr _ (by omega)]
  by_cases c : i < 8
  · rw [if_pos (by omega)]
  · rw [decide_eq_false c, Bool.and_false, Bool.and_false]
def wrd (a b c d e : Int32) (k : Nat) : Int32 := if k < 4 then a else if k < 8 then b else if k < 12 then c else if k < 16 then d else e
theorem R_feedL (hs : RS u) {a b c d e : Int32} {tl : Nat} (htl : tl + 20 ≤ 100) (k : PM → Option (Int32 × PM)) : ∀ (r n fu : Nat) (m : IM), n + r = 20 → r < fu → m 200 3 = nI (tl + n) →
    ∃ m', F_X12_feed_L22 200 a b c d e k fu (nI n) (pm m j u) = k (pm m' j u) ∧ m' 200 3 = nI (tl + 20) ∧ Fr [202] [3] m m' ∧ (∀ i, i < tl + n → m' 202 i = m 202 i) ∧ ∀ i, n ≤ i → i < 20 → m' 202 (tl + i) = byt (wrd a b c d e i) (i % 4) := by
  intro r
  induction r with
  | zero =>
    intro n fu m hn hfu h3
    obtain ⟨fu, rfl⟩ : ∃ g, fu = g + 1 := ⟨fu - 1, by omega⟩
    have hn : n = 20 := by omega
    subst hn
    refine ⟨m, ?_, h3, Fr.rf m, fun _ _ => rfl, fun i h1 h2 => by omega⟩
    rw [F_X12_feed_L22, if_pos (show (20 : Int32) ≤ nI 20 by decide)]
  | succ r ih =>
    intro n fu m hn hfu h3
    obtain ⟨fu, rfl⟩ : ∃ g, fu = g + 1 := ⟨fu - 1, by omega⟩
    have n1 : ¬ (20 : Int32) ≤ nI n := nI_ge (b := 20) (by omega) (by omega)
    have e4 : nI n - nI n / 4 * 4 = nI (n % 4) := pk_rem (d := 4) (by omega) (by decide) (by decide)
    have em : (24 : Int32) - 8 * nI (n % 4) = nI (24 - 8 * (n % 4)) := by
      rw [show (24 : Int32) = nI 24 from rfl, show (8 : Int32) = nI 8 from rfl, pk_mul, pk_sub (by omega)]
    have hw : ∀ kk : Int32 → PM → Option (Int32 × PM), jn kk (fun kk => if 4 ≤ nI n then (if 8 ≤ nI n then (if 12 ≤ nI n then (if 16 ≤ nI n then (kk e (pm m j u)) else (kk d (pm m j u))) else (kk c (pm m j u))) else (kk b (pm m j u))) else (kk a (pm m j u))) = kk (wrd a b c d e n) (pm m j u) := by
      intro kk
      rw [e_jn]
      have lt : ∀ q : Nat, q < 2 ^ 31 → (nI q ≤ nI n ↔ q ≤ n) := fun q hq => nI_leI hq (by omega)
      have l4 : (4 : Int32) ≤ nI n ↔ 4 ≤ n := lt 4 (by decide)
      have l8 : (8 : Int32) ≤ nI n ↔ 8 ≤ n := lt 8 (by decide)
      have l12 : (12 : Int32) ≤ nI n ↔ 12 ≤ n := lt 12 (by decide)
      have l16 : (16 : Int32) ≤ nI n ↔ 16 ≤ n := lt 16 (by decide)
      unfold wrd
      by_cases c1 : n < 4
      · rw [if_neg (fun z => by have := l4.mp z; omega), if_pos c1]
      · rw [if_pos (l4.mpr (by omega)), if_neg c1]
        by_cases c2 : n < 8
        · rw [if_neg (fun z => by have := l8.mp z; omega), if_pos c2]
        · rw [if_pos (l8.mpr (by omega)), if_neg c2]
          by_cases c3 : n < 12
          · rw [if_neg (fun z => by have := l12.mp z; omega), if_pos c3]
          · rw [if_pos (l12.mpr (by omega)), if_neg c3]
            by_cases c4 : n < 16
            · rw [if_neg (fun z => by have := l16.mp z; omega), if_pos c4]
            · rw [if_pos (l16.mpr (by omega)), if_neg c4]
    obtain ⟨m', f1, f2, f3, f4, f5⟩ := ih (n + 1) fu (u2 (u2 m 202 (tl + n) (byt (wrd a b c d e n) (n % 4))) 200 3 (nI (tl + n + 1))) (by omega) (by omega) e_u2s
    refine ⟨m', ?_, f2, ((Fr.row (by decide) (by decide)).tr (Fr.fld (by decide))).tr f3, fun i hi => ?_, fun i h1 h2 => ?_⟩
    · rw [F_X12_feed_L22, if_neg n1, hw]
      simp (disch := omega) only [rP hs, rI hs, rT hs, e_cl, e_jn, e_lt, e_rz0, e_rz1, e_u2s, e_u2k, e_u2a, R_within, i10, i00, i01, if_true, if_false, not_true, not_false_eq_true, ne_eq, rR_8 hs, rA_202 hs, rS_202 hs, h3, e4, em, byt_s (show n % 4 < 4 by omega), nI_1, e_dv (show (4 : Int32) ≠ 0 by decide)]
      exact f1
    · rw [f4 i (by omega), e_u2a (by decide), e_u2k (by omega)]
    · by_cases c : i = n
      · subst c; rw [f4 _ (by omega), e_u2a (by decide), e_u2s]
      · exact f5 i (by omega) h2
theorem R_feed1 (hs : RS u) {a b c d e : Int32} {tl : Nat} (htl : tl ≤ 100) (h : m 200 3 = nI tl) (h2 : 80 < tl) : F_X12_feed 200 a b c d e (pm m j u) = some (-1, pm (u2 m 200 0 0) j u) := by
  have e1 : nI tl + 20 = nI (tl + 20) := nI_add tl 20
  simp (disch := omega) only [F_X12_feed, rP hs, rI hs, rT hs, e_cl, e_jn, e_lt, e_rz0, e_rz1, e_u2s, e_u2k, e_u2a, R_within, i10, i00, i01, if_true, if_false, not_true, not_false_eq_true, ne_eq, h, e1, if_neg (show ¬ nI (tl + 20) ≤ 100 from nI_ge (a := 100) (by omega) (by omega))]
theorem R_feed2 (hs : RS u) {a b c d e : Int32} {tl : Nat} {tb : Nat → Int32} (hA : RAt m tl tb) (h2 : tl ≤ 80) : ∃ m', F_X12_feed 200 a b c d e (pm m j u) = some (nI (tl + 20), pm m' j u) ∧ m' 200 0 = 0 ∧ Fr [202] [0, 3] m m' ∧ RAt m' (tl + 20) (fun i => if i < tl then tb i else byt (wrd a b c d e (i - tl)) ((i - tl) % 4)) := by
  have e1 : nI tl + 20 = nI (tl + 20) := nI_add tl 20
  obtain ⟨m', f1, f2, f3, f4, f5⟩ := R_feedL (j := j) (a := a) (b := b) (c := c) (d := d) (e := e) hs (show tl + 20 ≤ 100 by omega) (fun h3 => gI h3 200 13 3 fun x4 => some (x4, h3)) 20 0 LF (u2 m 200 0 0) rfl (by decide) (by rw [e_u2k (by decide)]; exact hA.1)
  refine ⟨m', ?_, ?_, (Fr.fld (by decide)).tr (f3.sub (fun _ h => h) (fun _ h => List.mem_cons_of_mem _ h)), f2, fun i hi => ?_⟩
  · simp (disch := omega) only [F_X12_feed, rP hs, rI hs, rT hs, e_cl, e_jn, e_lt, e_rz0, e_rz1, e_u2s, e_u2k, e_u2a, R_within, i10, i00, i01, if_true, if_false, not_true, not_false_eq_true, ne_eq, hA.1, e1, if_pos (show nI (tl + 20) ≤ 100 from nI_le (b := 100) (by omega) (by decide))]
    rw [show nI 0 = 0 from rfl] at f1
    rw [f1, rI hs, f2]
  · rw [f3.2 0 (by decide)]; exact th0
  · by_cases c' : i < tl
    · rw [f4 i (by omega), e_u2a (by decide), hA.2 i c']; exact (if_pos c').symm
    · obtain ⟨t, rfl⟩ : ∃ t, i = tl + t := ⟨i - tl, by omega⟩
      rw [f5 t (by omega) (by omega)]
      have : (if tl + t < tl then tb (tl + t) else byt (wrd a b c d e (tl + t - tl)) ((tl + t - tl) % 4)) = byt (wrd a b c d e t) (t % 4) := by rw [if_neg c', Nat.add_sub_cancel_left]
      exact this.symm
end REF8
