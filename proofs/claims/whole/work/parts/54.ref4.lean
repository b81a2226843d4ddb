/-! ===== the reference: facet, count, stuff, feed ===== -/
section REF4
variable {m : IM} {j : JM} {u : SU}
theorem R_facet1 (hs : RS u) {nS : Nat} {x y z : Int32} (hnS : nS ≤ 40) (hn : m 200 32 = nI nS) (hx : ¬ ∃ s, s < nS ∧ x = nI s) : F_X12_facet 200 x y z (pm m j u) = some (0, pm (u2 (u2 m 200 0 0) 200 0 1) j u) := by
  simp only [F_X12_facet, rP hs, rI hs, rT hs, e_cl, e_jn, e_lt, e_rz0, e_rz1, e_u2s, e_u2k, e_u2a, R_within, i10, i00, i01, if_true, if_false, not_true, not_false_eq_true, ne_eq, R_isS_no (j := j) hs (m := u2 m 200 0 0) th0 (by rw [e_u2k (by decide)]; exact hn) hnS hx]
theorem R_facet2 (hs : RS u) {nS s : Nat} {y z : Int32} (hnS : nS ≤ 40) (hn : m 200 32 = nI nS) (hx : s < nS) (hy : (y < 0 ∨ 95 < y) ∨ (z < 0 ∨ 90 < z)) : F_X12_facet 200 (nI s) y z (pm m j u) = some (0, pm (u2 (u2 m 200 0 0) 200 0 2) j u) := by
  have e2 := R_may0 (j := j) hs (m := u2 m 200 0 0) th0 (show (2 : Int32) ≠ 0 by decide)
  by_cases c : y < 0 ∨ 95 < y
  · simp only [F_X12_facet, rP hs, rI hs, rT hs, e_cl, e_jn, e_lt, e_rz0, e_rz1, e_u2s, e_u2k, e_u2a, R_within, i10, i00, i01, if_true, if_false, not_true, not_false_eq_true, ne_eq, R_isS_ok (j := j) hs (m := u2 m 200 0 0) th0 (by rw [e_u2k (by decide)]; exact hn) hnS hx, if_pos c, e2]
  · simp only [F_X12_facet, rP hs, rI hs, rT hs, e_cl, e_jn, e_lt, e_rz0, e_rz1, e_u2s, e_u2k, e_u2a, R_within, i10, i00, i01, if_true, if_false, not_true, not_false_eq_true, ne_eq, R_isS_ok (j := j) hs (m := u2 m 200 0 0) th0 (by rw [e_u2k (by decide)]; exact hn) hnS hx, if_neg c, if_pos (hy.resolve_left c), e2]
theorem R_facet3 (hs : RS u) {nS nL s p q : Nat} {sg ix an : Nat → Nat → Nat} (hD : SD nS nL sg ix an) (hA : RAs m nS sg ix an) (hx : s < nS) (hp : p ≤ 95) (hq : q ≤ 90) (h4 : sg s 4 = 1) : F_X12_facet 200 (nI s) (nI p) (nI q) (pm m j u) = some (-1, pm (u2 m 200 0 0) j u) := by
  have hnS := hD.1
  have a5 := (hA.2 s hx).2.2.2.2.1
  have g1 : ¬ (nI p < 0 ∨ 95 < nI p) := nx_in (n := p) (lo := 0) (hi := 95) (by omega) hp (by decide)
  have g2 : ¬ (nI q < 0 ∨ 90 < nI q) := nx_in (n := q) (lo := 0) (hi := 90) (by omega) hq (by decide)
  simp (disch := omega) only [F_X12_facet, rP hs, rI hs, rT hs, e_cl, e_jn, e_lt, e_rz0, e_rz1, e_u2s, e_u2k, e_u2a, R_within, i10, i00, i01, if_true, if_false, not_true, not_false_eq_true, ne_eq, rR_42 hs, rA_227 hs, rS_227 hs, R_isS_ok (j := j) hs (m := u2 m 200 0 0) th0 (by rw [e_u2k (by decide)]; exact hA.1) hnS hx, if_neg g1, if_neg g2, R_may1 hs th0, a5, h4, show ¬ nI 1 = 0 by decide]
theorem R_facet4 (hs : RS u) {nS nL s p q : Nat} {sg ix an : Nat → Nat → Nat} (hD : SD nS nL sg ix an) (hA : RAs m nS sg ix an) (hx : s < nS) (hp : p ≤ 95) (hq : q ≤ 90) (h4 : sg s 4 = 0) (h3 : sg s 3 = 8) : F_X12_facet 200 (nI s) (nI p) (nI q) (pm m j u) = some (-2, pm (u2 m 200 0 0) j u) := by
  have hnS := hD.1
  have a5 := (hA.2 s hx).2.2.2.2.1
  have a4 := (hA.2 s hx).2.2.2.1
  have g1 : ¬ (nI p < 0 ∨ 95 < nI p) := nx_in (n := p) (lo := 0) (hi := 95) (by omega) hp (by decide)
  have g2 : ¬ (nI q < 0 ∨ 90 < nI q) := nx_in (n := q) (lo := 0) (hi := 90) (by omega) hq (by decide)
  simp (disch := omega) only [F_X12_facet, rP hs, rI hs, rT hs, e_cl, e_jn, e_lt, e_rz0, e_rz1, e_u2s, e_u2k, e_u2a, R_within, i10, i00, i01, if_true, if_false, not_true, not_false_eq_true, ne_eq, rR_42 hs, rA_227 hs, rS_227 hs, rR_36 hs, rA_221 hs, rS_221 hs, R_isS_ok (j := j) hs (m := u2 m 200 0 0) th0 (by rw [e_u2k (by decide)]; exact hA.1) hnS hx, if_neg g1, if_neg g2, R_may1 hs th0, a5, h4, a4, h3, show nI 0 = 0 from rfl, show nI 8 = 8 from rfl]
theorem R_facet5 (hs : RS u) {nS nL s p q : Nat} {sg ix an : Nat → Nat → Nat} (hD : SD nS nL sg ix an) (hA : RAs m nS sg ix an) (hx : s < nS) (hp : p ≤ 95) (hq : q ≤ 90) (h4 : sg s 4 = 0) (h3 : sg s 3 < 8) : ∃ m', F_X12_facet 200 (nI s) (nI p) (nI q) (pm m j u) = some (nI (sg s 3 + 1), pm m' j u) ∧ m' 200 0 = 0 ∧ Fr [221, 222, 223] [0] m m' ∧
    RAs m' nS (u2 sg s 3 (sg s 3 + 1)) (u2 ix s (sg s 3) p) (u2 an s (sg s 3) q) := by
  have hnS := hD.1
  obtain ⟨a1, a2, a3, a4, a5, a6, a7, a8, a9⟩ := hA.2 s hx
  have g1 : ¬ (nI p < 0 ∨ 95 < nI p) := nx_in (n := p) (lo := 0) (hi := 95) (by omega) hp (by decide)
  have g2 : ¬ (nI q < 0 ∨ 90 < nI q) := nx_in (n := q) (lo := 0) (hi := 90) (by omega) hq (by decide)
  have n8 : ¬ nI (sg s 3) = 8 := fun z => by have := (nI_eq (b := 8) (by omega) (by decide)).mp z; omega
  have e8 : 8 * nI s + nI (sg s 3) = nI (8 * s + sg s 3) := by rw [show (8 : Int32) = nI 8 from rfl, pk_mul, nI_add]
  refine ⟨u2 (u2 (u2 (u2 m 200 0 0) 222 (8 * s + sg s 3) (nI p)) 223 (8 * s + sg s 3) (nI q)) 221 s (nI (sg s 3 + 1)), ?_, ?_, (((Fr.fld (by decide)).tr (Fr.row (by decide) (by decide))).tr (Fr.row (by decide) (by decide))).tr (Fr.row (by decide) (by decide)), ?_⟩
  · simp (disch := omega) only [F_X12_facet, rP hs, rI hs, rT hs, e_cl, e_jn, e_lt, e_rz0, e_rz1, e_u2s, e_u2k, e_u2a, R_within, i10, i00, i01, if_true, if_false, not_true, not_false_eq_true, ne_eq, rR_42 hs, rA_227 hs, rS_227 hs, rR_36 hs, rA_221 hs, rS_221 hs, rR_37 hs, rA_222 hs, rS_222 hs, rR_38 hs, rA_223 hs, rS_223 hs, R_isS_ok (j := j) hs (m := u2 m 200 0 0) th0 (by rw [e_u2k (by decide)]; exact hA.1) hnS hx, if_neg g1, if_neg g2, R_may1 hs th0, a5, h4, a4, show nI 0 = 0 from rfl, n8, e8, nI_1]
  · rw [e_u2a (by decide), e_u2a (by decide), e_u2a (by decide)]; exact th0
  · refine ⟨by rw [e_u2a (by decide), e_u2a (by decide), e_u2a (by decide), e_u2k (by decide)]; exact hA.1, fun t ht => ?_⟩
    obtain ⟨b1, b2, b3, b4, b5, b6, b7, b8, b9⟩ := hA.2 t ht
    by_cases e : t = s
    · subst e
      have w : ∀ k, k ≠ 3 → u2 sg t 3 (sg t 3 + 1) t k = sg t k := fun k hk => by simp [u2, hk]
      have w3 : u2 sg t 3 (sg t 3 + 1) t 3 = sg t 3 + 1 := by simp [u2]
      simp (disch := omega) only [w, w3, e_u2a, e_u2s, b1, b2, b3, b5, b6, b7, b8]
      refine ⟨trivial, trivial, trivial, trivial, trivial, trivial, trivial, trivial, fun f hf => ?_⟩
      by_cases ef : f = sg t 3
      · subst ef
        have w4 : u2 ix t (sg t 3) p t (sg t 3) = p := by simp [u2]
        have w5 : u2 an t (sg t 3) q t (sg t 3) = q := by simp [u2]
        simp (disch := omega) only [e_u2s, e_u2a, w4, w5]
        exact ⟨trivial, trivial⟩
      · have w4 : u2 ix t (sg t 3) p t f = ix t f := by simp [u2, ef]
        have w5 : u2 an t (sg t 3) q t f = an t f := by simp [u2, ef]
        simp (disch := omega) only [e_u2k, e_u2a, w4, w5]
        exact b9 f (by omega)
    · have w : ∀ k, u2 sg s 3 (sg s 3 + 1) t k = sg t k := fun k => by simp [u2, e]
      have w4 : ∀ f, u2 ix s (sg s 3) p t f = ix t f := fun f => by simp [u2, e]
      have w5 : ∀ f, u2 an s (sg s 3) q t f = an t f := fun f => by simp [u2, e]
      simp (disch := omega) only [w, w4, w5, e_u2a, e_u2k, b1, b2, b3, b4, b5, b6, b7, b8]
      refine ⟨trivial, trivial, trivial, trivial, trivial, trivial, trivial, trivial, fun f hf => ?_⟩
      rw [e_u2k (show 8 * t + f ≠ 8 * s + sg s 3 by have := (hD.2 t ht).2.1; omega), e_u2k (show 8 * t + f ≠ 8 * s + sg s 3 by have := (hD.2 t ht).2.1; omega)]
      exact b9 f hf
/-- the sold ones -/
def soldP (sg : Nat → Nat → Nat) (s : Nat) : Bool := decide (sg s 7 ≠ 0)
theorem R_cntL (hs : RS u) {nS nL : Nat} {sg ix an : Nat → Nat → Nat} (hD : SD nS nL sg ix an) (hA : RAs m nS sg ix an) (k : Int32 → PM → Option (Int32 × PM)) : ∀ (d n fu : Nat), n + d = nS → d < fu →
    F_X12_count_L91 200 k fu (nI (fb_ct (soldP sg) n)) (nI n) (pm m j u) = k (nI (fb_ct (soldP sg) nS)) (pm m j u) := by
  have hnS := hD.1
  intro d
  induction d with
  | zero =>
    intro n fu hn hfu
    obtain ⟨fu, rfl⟩ : ∃ g, fu = g + 1 := ⟨fu - 1, by omega⟩
    have hn : n = nS := by omega
    subst hn
    rw [F_X12_count_L91, rI hs, hA.1, if_pos (nI_le (Nat.le_refl _) (by omega))]
  | succ d ih =>
    intro n fu hn hfu
    obtain ⟨fu, rfl⟩ : ∃ g, fu = g + 1 := ⟨fu - 1, by omega⟩
    have hlt : n < nS := by omega
    have a8 := (hA.2 n hlt).2.2.2.2.2.2.2.1
    have hb := (hD.2 n hlt).2.2.2.2.2.1
    have hi := ih (n + 1) fu (by omega) (by omega)
    rw [fb_ct_succ] at hi
    rw [F_X12_count_L91, rI hs, hA.1, if_neg (nI_ge hlt (by omega))]
    simp (disch := omega) only [rP hs, rI hs, rT hs, e_cl, e_jn, e_lt, e_rz0, e_rz1, e_u2s, e_u2k, e_u2a, R_within, i10, i00, i01, if_true, if_false, not_true, not_false_eq_true, ne_eq, rR_41 hs, rA_226 hs, rS_226 hs, a8]
    by_cases c : sg n 7 = 0
    · rw [if_pos ((oI_n (by omega)).mpr c), show nI (fb_ct (soldP sg) n) + 0 = nI (fb_ct (soldP sg) n + 0) from nI_add _ 0, nI_1]
      rw [show (if soldP sg n = true then 1 else 0) = 0 from if_neg (by unfold soldP; simp [c])] at hi
      exact hi
    · rw [if_neg (fun z => c ((oI_n (by omega)).mp z)), nI_1, nI_1]
      rw [show (if soldP sg n = true then 1 else 0) = 1 from if_pos (by unfold soldP; simp [c])] at hi
      exact hi
theorem R_stuffL (hs : RS u) {r nR : Nat} {sd : Nat → Bool} (hA : RAr m nR sd) (hr : r < 10) (k : Int32 → PM → Option (Int32 × PM)) : ∀ (d n fu : Nat), n + d = 216 → d < fu →
    F_X12_stuff_L19 200 (nI r) k fu (nI (fb_ct (fun i => sd (216 * r + i)) n)) (nI n) (pm m j u) = k (nI (fb_ct (fun i => sd (216 * r + i)) 216)) (pm m j u) := by
  intro d
  induction d with
  | zero =>
    intro n fu hn hfu
    obtain ⟨fu, rfl⟩ : ∃ g, fu = g + 1 := ⟨fu - 1, by omega⟩
    have hn : n = 216 := by omega
    subst hn
    rw [F_X12_stuff_L19, if_pos (show (216 : Int32) ≤ nI 216 by decide)]
  | succ d ih =>
    intro n fu hn hfu
    obtain ⟨fu, rfl⟩ : ∃ g, fu = g + 1 := ⟨fu - 1, by omega⟩
    have hi := ih (n + 1) fu (by omega) (by omega)
    rw [fb_ct_succ] at hi
    have ei : (216 : Int32) * nI r + nI n = nI (216 * r + n) := by rw [show (216 : Int32) = nI 216 from rfl, pk_mul, nI_add]
    rw [F_X12_stuff_L19, if_neg (show ¬ (216 : Int32) ≤ nI n from nI_ge (b := 216) (by omega) (by omega))]
    simp (disch := omega) only [rP hs, rI hs, rT hs, e_cl, e_jn, e_lt, e_rz0, e_rz1, e_u2s, e_u2k, e_u2a, R_within, i10, i00, i01, if_true, if_false, not_true, not_false_eq_true, ne_eq, rR_2 hs, rA_201 hs, rS_201 hs, ei, hA.2.2 (216 * r + n) (by omega)]
    cases c : sd (216 * r + n)
    · rw [show nI (fb_ct (fun i => sd (216 * r + i)) n) + (if false = true then 1 else 0) = nI (fb_ct (fun i => sd (216 * r + i)) n + 0) from nI_add _ 0, nI_1]
      simp only [c] at hi
      exact hi
    · rw [show nI (fb_ct (fun i => sd (216 * r + i)) n) + (if true = true then 1 else 0) = nI (fb_ct (fun i => sd (216 * r + i)) n + 1) from nI_add _ 1, nI_1]
      simp only [c] at hi
      exact hi
theorem RAr_fr {m' : IM} {nR : Nat} {sd : Nat → Bool} {A K : List Nat} (hA : RAr m nR sd) (hF : Fr A K m m') (h1 : 1 ∉ K) (h2 : 201 ∉ A) : RAr m' nR sd := by
  refine ⟨hA.1, by rw [hF.2 1 h1]; exact hA.2.1, fun i hi => ?_⟩
  rw [hF.1 201 h2 (by decide)]; exact hA.2.2 i hi
theorem R_stuff1 (hs : RS u) {nR : Nat} {sd : Nat → Bool} (hA : RAr m nR sd) {x : Int32} (hx : ¬ ∃ r, r < nR ∧ x = nI r) : F_X12_stuff 200 x (pm m j u) = some (0, pm (u2 (u2 m 200 0 0) 200 0 1) j u) := by
  simp only [F_X12_stuff, rP hs, rI hs, rT hs, e_cl, e_jn, e_lt, e_rz0, e_rz1, e_u2s, e_u2k, e_u2a, R_within, i10, i00, i01, if_true, if_false, not_true, not_false_eq_true, ne_eq, R_isR_no (j := j) hs (m := u2 m 200 0 0) th0 (by rw [e_u2k (by decide)]; exact hA.2.1) hA.1 hx]
theorem R_stuff2 (hs : RS u) {nR r : Nat} {sd : Nat → Bool} (hA : RAr m nR sd) (hr : r < nR) : F_X12_stuff 200 (nI r) (pm m j u) = some (nI (fb_ct (fun i => sd (216 * r + i)) 216), pm (u2 m 200 0 0) j u) := by
  have hnR := hA.1
  have hA' : RAr (u2 m 200 0 0) nR sd := RAr_fr hA (Fr.fld (A := []) (K := [0]) List.mem_cons_self) (by decide) (by decide)
  have hL := fun k => R_stuffL (j := j) hs hA' (show r < 10 by omega) k 216 0 LF rfl (by decide)
  rw [show fb_ct (fun i => sd (216 * r + i)) 0 = 0 from rfl, show nI 0 = 0 from rfl] at hL
  simp only [F_X12_stuff, rP hs, rI hs, rT hs, e_cl, e_jn, e_lt, e_rz0, e_rz1, e_u2s, e_u2k, e_u2a, R_within, i10, i00, i01, if_true, if_false, not_true, not_false_eq_true, ne_eq, R_isR_ok (j := j) hs (m := u2 m 200 0 0) th0 (by rw [e_u2k (by decide)]; exact hA.2.1) hA.1 hr, hL]
end REF4
