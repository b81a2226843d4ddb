/-! ===== the reference: price, stones' trail, counts, stuff, feed ===== -/
section REF3
variable {m : IM} {j : JM} {u : SU}
theorem R_prL (hs : RS u) {ps w : Nat} {pf pp : Nat → Nat} {c2 : Int32} (hps : ps ≤ 10) (hA : RAp m ps pf pp) (hpf : ∀ i, i < ps → pf i ≤ 216) (hw : w < 2 ^ 31) (k : Int32 → PM → Option (Int32 × PM)) (q : Nat) (hq : q ≤ ps) (hno : ∀ i, i < q → pf i ≠ w) (hyes : q < ps → pf q = w) : ∀ (d n fu : Nat), n + d = q → d < fu →
    F_X12_price_L44 200 (nI w) c2 k fu (nI n) (pm m j u) = k (nI q) (pm m j u) := by
  intro d
  induction d with
  | zero =>
    intro n fu hn hfu
    obtain ⟨fu, rfl⟩ : ∃ g, fu = g + 1 := ⟨fu - 1, by omega⟩
    have hn : n = q := by omega
    subst hn
    rw [F_X12_price_L44, rI hs, hA.1]
    by_cases c : n < ps
    · simp (disch := omega) only [if_neg (nI_ge c (by omega)), rP hs, rI hs, rT hs, e_cl, e_jn, e_lt, e_rz0, e_rz1, e_u2s, e_u2k, e_u2a, R_within, i10, i00, i01, if_true, if_false, not_true, not_false_eq_true, ne_eq, rR_15 hs, rA_208 hs, rS_208 hs, (hA.2 n c).1, hyes c]
    · have : ps = n := by omega
      rw [if_pos (nI_le (by omega) (by omega))]
  | succ d ih =>
    intro n fu hn hfu
    obtain ⟨fu, rfl⟩ : ∃ g, fu = g + 1 := ⟨fu - 1, by omega⟩
    have hlt : n < ps := by omega
    have := hpf n hlt
    rw [F_X12_price_L44, rI hs, hA.1]
    simp (disch := omega) only [if_neg (nI_ge hlt (by omega)), rP hs, rI hs, rT hs, e_cl, e_jn, e_lt, e_rz0, e_rz1, e_u2s, e_u2k, e_u2a, R_within, i10, i00, i01, if_true, if_false, not_true, not_false_eq_true, ne_eq, rR_15 hs, rA_208 hs, rS_208 hs, (hA.2 n hlt).1, if_neg (fun z => hno n (by omega) ((nI_eq (by omega) hw).mp z)), nI_1]
    exact ih (n + 1) fu (by omega) (by omega)
/-- where a step of this weight stands, or the end -/
def stepAt (pf : Nat → Nat) (ps w : Nat) : Nat := fa_first (fun k => decide (pf k = w)) ps
theorem stepAt_le (pf : Nat → Nat) (ps w : Nat) : stepAt pf ps w ≤ ps := fa_first_le _ _
theorem stepAt_no {pf : Nat → Nat} {ps w k : Nat} (h : k < stepAt pf ps w) : pf k ≠ w := of_decide_eq_false (fa_first_no _ _ _ h)
theorem stepAt_yes {pf : Nat → Nat} {ps w : Nat} (h : stepAt pf ps w < ps) : pf (stepAt pf ps w) = w := of_decide_eq_true (fa_first_yes _ _ h)
theorem R_price1 (hs : RS u) {x y : Int32} (hx : (x < 1 ∨ 216 < x) ∨ (y < 0 ∨ 10000 < y)) : F_X12_price 200 x y (pm m j u) = some (0, pm (u2 (u2 m 200 0 0) 200 0 1) j u) := by
  have e2 := R_may0 (j := j) hs (m := u2 m 200 0 0) th0 (show (1 : Int32) ≠ 0 by decide)
  by_cases c : x < 1 ∨ 216 < x
  · simp only [F_X12_price, rP hs, rI hs, rT hs, e_cl, e_jn, e_lt, e_rz0, e_rz1, e_u2s, e_u2k, e_u2a, R_within, i10, i00, i01, if_true, if_false, not_true, not_false_eq_true, ne_eq, if_pos c, e2]
  · simp only [F_X12_price, rP hs, rI hs, rT hs, e_cl, e_jn, e_lt, e_rz0, e_rz1, e_u2s, e_u2k, e_u2a, R_within, i10, i00, i01, if_true, if_false, not_true, not_false_eq_true, ne_eq, if_neg c, if_pos (hx.resolve_left c), e2]
def upd1 {α : Type} (f : Nat → α) (k : Nat) (v : α) : Nat → α := fun i => if i = k then v else f i
theorem upd1_s {α : Type} {f : Nat → α} {k : Nat} {v : α} : upd1 f k v k = v := if_pos rfl
theorem upd1_n {α : Type} {f : Nat → α} {k i : Nat} {v : α} (h : i ≠ k) : upd1 f k v i = f i := if_neg h
set_option maxRecDepth 100000 in
theorem R_price2 (hs : RS u) {ps w q : Nat} {pf pp : Nat → Nat} (hD : PD ps pf pp) (hA : RAp m ps pf pp) (h1 : 1 ≤ w) (h2 : w ≤ 216) (h3 : q ≤ 10000) : ∃ m', F_X12_price 200 (nI w) (nI q) (pm m j u) = some (if stepAt pf ps w = 10 then -1 else nI (if stepAt pf ps w = ps then ps + 1 else ps), pm m' j u) ∧ m' 200 0 = 0 ∧ Fr [208, 209] [0, 14] m m' ∧
    (if stepAt pf ps w = 10 then RAp m' ps pf pp else RAp m' (if stepAt pf ps w = ps then ps + 1 else ps) (upd1 pf (stepAt pf ps w) w) (upd1 pp (stepAt pf ps w) q)) := by
  have hps := hD.1
  have hle := stepAt_le pf ps w
  generalize hk : stepAt pf ps w = k0 at hle
  have hno : ∀ i, i < k0 → pf i ≠ w := fun i hi => stepAt_no (by rw [hk]; exact hi)
  have hyes : k0 < ps → pf k0 = w := fun h => by have := stepAt_yes (pf := pf) (ps := ps) (w := w) (by rw [hk]; exact h); rw [hk] at this; exact this
  have g1 : ¬ (nI w < 1 ∨ 216 < nI w) := nx_in (n := w) (lo := 1) (hi := 216) h1 h2 (by decide)
  have g2 : ¬ (nI q < 0 ∨ 10000 < nI q) := nx_in (n := q) (lo := 0) (hi := 10000) (by omega) h3 (by decide)
  have hA' : RAp (u2 m 200 0 0) ps pf pp := RAp_fr hA (Fr.fld (A := []) (K := [0]) List.mem_cons_self) (by decide) (by decide) (by decide)
  have hL := fun k => R_prL (j := j) (c2 := nI q) hs hps hA' (fun i hi => (hD.2.1 i hi).2.1) (show w < 2 ^ 31 by omega) k k0 hle hno hyes k0 0 LF (by omega) (by unfold LF; omega)
  rw [show nI 0 = 0 from rfl] at hL
  unfold F_X12_price
  generalize LF = fuel at hL ⊢
  by_cases c : k0 = 10
  · refine ⟨u2 m 200 0 0, ?_, th0, Fr.fld (by decide), ?_⟩
    · simp (disch := omega) only [rP hs, rI hs, rT hs, e_cl, e_jn, e_lt, e_rz0, e_rz1, e_u2s, e_u2k, e_u2a, R_within, i10, i00, i01, if_true, if_false, not_true, not_false_eq_true, ne_eq, if_neg g1, if_neg g2, R_may1 hs th0, hL, c, show nI 10 = 10 from rfl]
    · rw [if_pos c]; exact hA'
  · have n10 : ¬ nI k0 = 10 := fun z => c ((nI_eq (b := 10) (by omega) (by decide)).mp z)
    simp only [if_neg c]
    by_cases c2 : k0 = ps
    · refine ⟨u2 (u2 (u2 (u2 m 200 0 0) 200 14 (nI (ps + 1))) 208 k0 (nI w)) 209 k0 (nI q), ?_, ?_, (((Fr.fld (by decide)).tr (Fr.fld (by decide))).tr (Fr.row (by decide) (by decide))).tr (Fr.row (by decide) (by decide)), ?_⟩
      · have n11 : ¬ nI ps = 10 := by rw [← c2]; exact n10
        rw [if_pos c2]
        simp (disch := omega) only [rP hs, rI hs, rT hs, e_cl, e_jn, e_lt, e_rz0, e_rz1, e_u2s, e_u2k, e_u2a, R_within, i10, i00, i01, if_true, if_false, not_true, not_false_eq_true, ne_eq, rR_15 hs, rA_208 hs, rS_208 hs, rR_16 hs, rA_209 hs, rS_209 hs, if_neg g1, if_neg g2, R_may1 hs th0, hL, n11, hA.1, c2, nI_1]
      · rw [e_u2a (by decide), e_u2a (by decide), e_u2k (by decide)]; exact th0
      · rw [if_pos c2]
        refine ⟨by rw [e_u2a (by decide), e_u2a (by decide), e_u2s], fun i hi => ?_⟩
        by_cases e : i = k0
        · rw [e, upd1_s, upd1_s, e_u2s, e_u2a (by decide), e_u2s]; exact ⟨rfl, rfl⟩
        · rw [upd1_n e, upd1_n e, e_u2a (by decide), e_u2k e, e_u2k e, e_u2a (by decide), e_u2a (by decide), e_u2a (by decide), e_u2a (by decide), e_u2a (by decide)]; exact hA.2 i (by omega)
    · have ne : ¬ nI k0 = nI ps := fun z => c2 ((nI_eq (by omega) (by omega)).mp z)
      refine ⟨u2 (u2 (u2 m 200 0 0) 208 k0 (nI w)) 209 k0 (nI q), ?_, ?_, ((Fr.fld (by decide)).tr (Fr.row (by decide) (by decide))).tr (Fr.row (by decide) (by decide)), ?_⟩
      · rw [if_neg c2]
        simp (disch := omega) only [rP hs, rI hs, rT hs, e_cl, e_jn, e_lt, e_rz0, e_rz1, e_u2s, e_u2k, e_u2a, R_within, i10, i00, i01, if_true, if_false, not_true, not_false_eq_true, ne_eq, rR_15 hs, rA_208 hs, rS_208 hs, rR_16 hs, rA_209 hs, rS_209 hs, if_neg g1, if_neg g2, R_may1 hs th0, hL, n10, hA.1, ne]
      · rw [e_u2a (by decide), e_u2a (by decide)]; exact th0
      · rw [if_neg c2]
        refine ⟨by rw [e_u2a (by decide), e_u2a (by decide), e_u2k (by decide)]; exact hA.1, fun i hi => ?_⟩
        by_cases e : i = k0
        · rw [e, upd1_s, upd1_s, e_u2s, e_u2a (by decide), e_u2s]; exact ⟨rfl, rfl⟩
        · rw [upd1_n e, upd1_n e, e_u2a (by decide), e_u2k e, e_u2k e, e_u2a (by decide), e_u2a (by decide), e_u2a (by decide)]; exact hA.2 i (by omega)
/-- stones: sg s gives grains, rough, model, facets, polished, mate, lot, buyer (the last three with 0 for none) -/
def SD (nS nL : Nat) (sg ix an : Nat → Nat → Nat) : Prop := nS ≤ 40 ∧ ∀ s, s < nS → sg s 0 ≤ 216000 ∧ sg s 3 ≤ 8 ∧ sg s 4 ≤ 1 ∧ sg s 5 ≤ nS ∧ sg s 6 ≤ nL ∧ sg s 7 ≤ 4 ∧ (sg s 6 ≠ 0 → sg s 7 = 0) ∧ sg s 1 < 10 ∧ sg s 2 < 6 ∧ ∀ f, f < sg s 3 → ix s f ≤ 95 ∧ an s f ≤ 90
def RAs (m : IM) (nS : Nat) (sg ix an : Nat → Nat → Nat) : Prop := m 200 32 = nI nS ∧ ∀ s, s < nS → m 218 s = nI (sg s 0) ∧ m 219 s = nI (sg s 1) ∧ m 220 s = nI (sg s 2) ∧ m 221 s = nI (sg s 3) ∧ m 227 s = nI (sg s 4) ∧ m 224 s = oI (sg s 5) ∧ m 225 s = oI (sg s 6) ∧ m 226 s = oI (sg s 7) ∧ ∀ f, f < sg s 3 → m 222 (8 * s + f) = nI (ix s f) ∧ m 223 (8 * s + f) = nI (an s f)
theorem RAs_fr {m' : IM} {nS : Nat} {sg ix an : Nat → Nat → Nat} {A K : List Nat} (hA : RAs m nS sg ix an) (hF : Fr A K m m') (h1 : 32 ∉ K) (h2 : ∀ a ∈ [218, 219, 220, 221, 222, 223, 224, 225, 226, 227], a ∉ A) : RAs m' nS sg ix an := by
  refine ⟨by rw [hF.2 32 h1]; exact hA.1, fun s hs => ?_⟩
  rw [hF.1 218 (h2 _ (by decide)) (by decide), hF.1 219 (h2 _ (by decide)) (by decide), hF.1 220 (h2 _ (by decide)) (by decide), hF.1 221 (h2 _ (by decide)) (by decide), hF.1 222 (h2 _ (by decide)) (by decide), hF.1 223 (h2 _ (by decide)) (by decide), hF.1 224 (h2 _ (by decide)) (by decide), hF.1 225 (h2 _ (by decide)) (by decide), hF.1 226 (h2 _ (by decide)) (by decide), hF.1 227 (h2 _ (by decide)) (by decide)]
  exact hA.2 s hs
theorem R_isS_ok (hs : RS u) {nS s : Nat} (h0 : m 200 0 = 0) (hn : m 200 32 = nI nS) (hnS : nS ≤ 40) (hr : s < nS) : F_X12_isStone 200 (nI s) (pm m j u) = some (1, pm m j u) := by
  simp only [F_X12_isStone, rP hs, rI hs, rT hs, e_cl, e_jn, e_lt, e_rz0, e_rz1, e_u2s, e_u2k, e_u2a, R_within, i10, i00, i01, if_true, if_false, not_true, not_false_eq_true, ne_eq, hn, if_neg (not_lt_of (n := nS) (by omega) hr), R_may1 hs h0]
theorem R_isS_no (hs : RS u) {nS : Nat} {x : Int32} (h0 : m 200 0 = 0) (hn : m 200 32 = nI nS) (hnS : nS ≤ 40) (hr : ¬ ∃ s, s < nS ∧ x = nI s) : F_X12_isStone 200 x (pm m j u) = some (0, pm (u2 m 200 0 1) j u) := by
  simp only [F_X12_isStone, rP hs, rI hs, rT hs, e_cl, e_jn, e_lt, e_rz0, e_rz1, e_u2s, e_u2k, e_u2a, R_within, i10, i00, i01, if_true, if_false, not_true, not_false_eq_true, ne_eq, hn, if_pos (lt_of_not (n := nS) (by omega) hr), R_may0 hs h0 (show (1 : Int32) ≠ 0 by decide)]
def tellV (sg : Nat → Nat → Nat) (s w : Nat) : Int32 := if w = 0 then nI (sg s 0) else if w = 1 then nI (sg s 1) else if w = 2 then nI (sg s 2) else if w = 3 then nI (sg s 4) else if w = 4 then oI (sg s 5) else if w = 5 then oI (sg s 6) else oI (sg s 7)
theorem R_told1 (hs : RS u) {nS : Nat} {x y : Int32} (hnS : nS ≤ 40) (hn : m 200 32 = nI nS) (hx : ¬ ∃ s, s < nS ∧ x = nI s) : F_X12_told 200 x y (pm m j u) = some (0, pm (u2 (u2 m 200 0 0) 200 0 1) j u) := by
  simp only [F_X12_told, rP hs, rI hs, rT hs, e_cl, e_jn, e_lt, e_rz0, e_rz1, e_u2s, e_u2k, e_u2a, R_within, i10, i00, i01, if_true, if_false, not_true, not_false_eq_true, ne_eq, R_isS_no (j := j) hs (m := u2 m 200 0 0) th0 (by rw [e_u2k (by decide)]; exact hn) hnS hx]
theorem R_told2 (hs : RS u) {nS s : Nat} {y : Int32} (hnS : nS ≤ 40) (hn : m 200 32 = nI nS) (hx : s < nS) (hy : y < 0 ∨ 6 < y) : F_X12_told 200 (nI s) y (pm m j u) = some (0, pm (u2 (u2 m 200 0 0) 200 0 2) j u) := by
  simp only [F_X12_told, rP hs, rI hs, rT hs, e_cl, e_jn, e_lt, e_rz0, e_rz1, e_u2s, e_u2k, e_u2a, R_within, i10, i00, i01, if_true, if_false, not_true, not_false_eq_true, ne_eq, R_isS_ok (j := j) hs (m := u2 m 200 0 0) th0 (by rw [e_u2k (by decide)]; exact hn) hnS hx, if_pos hy, R_may0 hs th0 (show (2 : Int32) ≠ 0 by decide)]
theorem R_told3 (hs : RS u) {nS nL s w : Nat} {sg ix an : Nat → Nat → Nat} (hD : SD nS nL sg ix an) (hA : RAs m nS sg ix an) (hx : s < nS) (hw : w ≤ 6) : F_X12_told 200 (nI s) (nI w) (pm m j u) = some (tellV sg s w, pm (u2 m 200 0 0) j u) := by
  have hnS := hD.1
  obtain ⟨a1, a2, a3, a4, a5, a6, a7, a8, a9⟩ := hA.2 s hx
  have b4 := (hD.2 s hx).2.2.1
  have g2 : ¬ (nI w < 0 ∨ 6 < nI w) := nx_in (n := w) (lo := 0) (hi := 6) (by omega) hw (by decide)
  simp only [F_X12_told, rP hs, rI hs, rT hs, e_cl, e_jn, e_lt, e_rz0, e_rz1, e_u2s, e_u2k, e_u2a, R_within, i10, i00, i01, if_true, if_false, not_true, not_false_eq_true, ne_eq, R_isS_ok (j := j) hs (m := u2 m 200 0 0) th0 (by rw [e_u2k (by decide)]; exact hA.1) hnS hx, if_neg g2, R_may1 hs th0]
  rcases (show w = 0 ∨ w = 1 ∨ w = 2 ∨ w = 3 ∨ w = 4 ∨ w = 5 ∨ w = 6 by omega) with rfl | rfl | rfl | rfl | rfl | rfl | rfl
  · simp (disch := omega) only [show (nI 0 = 0) from rfl, rP hs, rI hs, rT hs, e_cl, e_jn, e_lt, e_rz0, e_rz1, e_u2s, e_u2k, e_u2a, R_within, i10, i00, i01, if_true, if_false, not_true, not_false_eq_true, ne_eq, rR_33 hs, rA_218 hs, rS_218 hs, a1]; rfl
  · simp (disch := omega) only [show (nI 1 = 1) from rfl, rP hs, rI hs, rT hs, e_cl, e_jn, e_lt, e_rz0, e_rz1, e_u2s, e_u2k, e_u2a, R_within, i10, i00, i01, if_true, if_false, not_true, not_false_eq_true, ne_eq, rR_34 hs, rA_219 hs, rS_219 hs, a2]; rfl
  · simp (disch := omega) only [show ¬ (nI 2 = 0) by decide, show ¬ (nI 2 = 1) by decide, show (nI 2 = 2) from rfl, rP hs, rI hs, rT hs, e_cl, e_jn, e_lt, e_rz0, e_rz1, e_u2s, e_u2k, e_u2a, R_within, i10, i00, i01, if_true, if_false, not_true, not_false_eq_true, ne_eq, rR_35 hs, rA_220 hs, rS_220 hs, a3]; rfl
  · simp (disch := omega) only [show ¬ (nI 3 = 0) by decide, show ¬ (nI 3 = 1) by decide, show ¬ (nI 3 = 2) by decide, show (nI 3 = 3) from rfl, rP hs, rI hs, rT hs, e_cl, e_jn, e_lt, e_rz0, e_rz1, e_u2s, e_u2k, e_u2a, R_within, i10, i00, i01, if_true, if_false, not_true, not_false_eq_true, ne_eq, rR_42 hs, rA_227 hs, rS_227 hs, a5]
    rcases (show sg s 4 = 0 ∨ sg s 4 = 1 by omega) with e | e
    · rw [e, if_pos (show nI 0 = 0 from rfl)]; exact congrArg (fun z => some (z, pm (u2 m 200 0 0) j u)) (show 0 = tellV sg s 3 by show (0 : Int32) = nI (sg s 4); rw [e]; rfl)
    · rw [e, if_neg (show ¬ nI 1 = 0 by decide)]; exact congrArg (fun z => some (z, pm (u2 m 200 0 0) j u)) (show 1 = tellV sg s 3 by show (1 : Int32) = nI (sg s 4); rw [e]; rfl)
  · simp (disch := omega) only [show ¬ (nI 4 = 0) by decide, show ¬ (nI 4 = 1) by decide, show ¬ (nI 4 = 2) by decide, show ¬ (nI 4 = 3) by decide, show (nI 4 = 4) from rfl, rP hs, rI hs, rT hs, e_cl, e_jn, e_lt, e_rz0, e_rz1, e_u2s, e_u2k, e_u2a, R_within, i10, i00, i01, if_true, if_false, not_true, not_false_eq_true, ne_eq, rR_39 hs, rA_224 hs, rS_224 hs, a6]; rfl
  · simp (disch := omega) only [show ¬ (nI 5 = 0) by decide, show ¬ (nI 5 = 1) by decide, show ¬ (nI 5 = 2) by decide, show ¬ (nI 5 = 3) by decide, show ¬ (nI 5 = 4) by decide, show (nI 5 = 5) from rfl, rP hs, rI hs, rT hs, e_cl, e_jn, e_lt, e_rz0, e_rz1, e_u2s, e_u2k, e_u2a, R_within, i10, i00, i01, if_true, if_false, not_true, not_false_eq_true, ne_eq, rR_40 hs, rA_225 hs, rS_225 hs, a7]; rfl
  · simp (disch := omega) only [show ¬ (nI 6 = 0) by decide, show ¬ (nI 6 = 1) by decide, show ¬ (nI 6 = 2) by decide, show ¬ (nI 6 = 3) by decide, show ¬ (nI 6 = 4) by decide, show ¬ (nI 6 = 5) by decide, rP hs, rI hs, rT hs, e_cl, e_jn, e_lt, e_rz0, e_rz1, e_u2s, e_u2k, e_u2a, R_within, i10, i00, i01, if_true, if_false, not_true, not_false_eq_true, ne_eq, rR_41 hs, rA_226 hs, rS_226 hs, a8]; rfl
end REF3
