/-! ===== the reference: refusals, roughs, scan, stuff ===== -/
section REF1
variable {m : IM} {j : JM} {u : SU}
theorem R_may1 (hs : RS u) {c : Int32} (h0 : m 200 0 = 0) : F_X12_may 200 1 c (pm m j u) = some (1, pm m j u) := by
  simp [F_X12_may, e_jn, rI hs, h0, e_rz1]
theorem R_may0 (hs : RS u) {c : Int32} (h0 : m 200 0 = 0) (hc : c ≠ 0) : F_X12_may 200 0 c (pm m j u) = some (0, pm (u2 m 200 0 c) j u) := by
  simp [F_X12_may, e_jn, rI hs, rP hs, h0, e_rz0, e_u2s, hc]
theorem R_within {a lo hi : Int32} {h : PM} : F_X12_within a lo hi h = some (if a < lo ∨ hi < a then 0 else 1, h) := by
  simp only [F_X12_within, e_jn, e_rz0, e_rz1]
  by_cases h1 : a < lo
  · rw [if_pos h1, if_pos (Or.inl h1)]
  · rw [if_neg h1]
    by_cases h2 : hi < a
    · rw [if_pos h2, if_pos (Or.inr h2)]
    · rw [if_neg h2, if_neg (fun z => z.elim h1 h2)]
/-- roughs: how many, which cells are sound -/
def RAr (m : IM) (nR : Nat) (sd : Nat → Bool) : Prop := nR ≤ 10 ∧ m 200 1 = nI nR ∧ ∀ i, i < 2160 → m 201 i = if sd i then 1 else 0
theorem R_isR_ok (hs : RS u) {nR r : Nat} (h0 : m 200 0 = 0) (hn : m 200 1 = nI nR) (hnR : nR ≤ 10) (hr : r < nR) : F_X12_isRough 200 (nI r) (pm m j u) = some (1, pm m j u) := by
  have e1 : nI nR - 1 = nI (nR - 1) := pk_sub (b := 1) (by omega)
  have n1 : ¬ (nI r < 0 ∨ nI (nR - 1) < nI r) := fun z => z.elim (fun z => nI_pos (by omega) z) (fun z => by have := (nI_ltI (by omega) (by omega)).mp z; omega)
  simp only [F_X12_isRough, rI hs, R_within, e_cl, rT hs, hn, e1, if_neg n1, R_may1 hs h0, e_rz1]
theorem R_isR_no (hs : RS u) {nR : Nat} {x : Int32} (h0 : m 200 0 = 0) (hn : m 200 1 = nI nR) (hnR : nR ≤ 10) (hr : ¬ ∃ r, r < nR ∧ x = nI r) : F_X12_isRough 200 x (pm m j u) = some (0, pm (u2 m 200 0 1) j u) := by
  have n1 : x < 0 ∨ nI nR - 1 < x := by
    refine Classical.byContradiction fun z => hr ?_
    obtain ⟨z1, z2⟩ := not_or.mp z
    obtain ⟨r, hr1, rfl⟩ := nI_of z1
    refine ⟨r, ?_, rfl⟩
    rcases Nat.eq_zero_or_pos nR with e | e
    · subst e
      exact absurd (show nI 0 - 1 < nI r by rw [fa_lt, nI_toInt hr1]; show (-1 : Int) < _; omega) z2
    · rw [show nI nR - 1 = nI (nR - 1) from pk_sub (a := nR) (b := 1) (by omega)] at z2
      have : ¬ nR - 1 < r := fun w => z2 ((nI_ltI (a := nR - 1) (b := r) (by omega) hr1).mpr w)
      omega
  simp only [F_X12_isRough, rI hs, R_within, e_cl, rT hs, hn, if_pos n1, R_may0 hs h0 (by decide : (1 : Int32) ≠ 0), e_rz0]
theorem R_rough (hs : RS u) {nR : Nat} {sd : Nat → Bool} (hA : RAr m nR sd) : F_X12_rough 200 (pm m j u) = if nR = 10 then some (-1, pm (u2 m 200 0 0) j u) else some (nI nR, pm (u2 (u2 m 200 0 0) 200 1 (nI (nR + 1))) j u) := by
  obtain ⟨h1, h2, h3⟩ := hA
  have e1 : nI (nR + 1) - 1 = nI nR := pk_sub (b := 1) (by omega)
  by_cases e : nR = 10
  · subst e
    have t : nI 10 = 10 := rfl
    simp [F_X12_rough, rP hs, rI hs, e_u2k, h2, t]
  · rw [if_neg e]
    have : ¬ nI nR = 10 := fun z => e ((nI_eq (b := 10) (by omega) (by decide)).mp z)
    simp [F_X12_rough, rP hs, rI hs, e_u2k, e_u2s, h2, this, nI_1, e1]
theorem n_add (a b : Nat) : nI a + nI b = nI (a + b) := nI_add a b
theorem bitS {B n : Nat} (hB : B < 2 ^ 62) (hn : n < 64) : (lN B >>> ((nI n).toInt64 &&& 63)) &&& 1 = if B.testBit n then 1 else 0 := by
  have e1 : lN B >>> ((nI n).toInt64 &&& 63) = lN (B / 2 ^ n) := pf_shr (d := n) (by rw [wb_c n hn, wb_tb, wb_sm n hn, BitVec.toNat_ofNat, Nat.mod_eq_of_lt (by omega)]) hB
  have e2 : B / 2 ^ n < 2 ^ 64 := Nat.lt_of_le_of_lt (Nat.div_le_self _ _) (by omega)
  rw [e1, wb_a1 e2, Nat.testBit_eq_decide_div_mod_eq]
  rcases Nat.mod_two_eq_zero_or_one (B / 2 ^ n) with e | e
  · rw [e]; rfl
  · rw [e]; rfl
theorem bitS1 {B n : Nat} (hB : B < 2 ^ 62) (hn : n < 64) : (lg_cmp ((lN B >>> ((nI n).toInt64 &&& 63)) &&& 1) 1 = 0) ↔ B.testBit n = true := by
  rw [lg_cmp_eq, bitS hB hn]
  cases B.testBit n <;> decide
theorem bitS0 {B n : Nat} (hB : B < 2 ^ 62) (hn : n < 64) : (lg_cmp ((lN B >>> ((nI n).toInt64 &&& 63)) &&& 1) 0 = 0) ↔ B.testBit n = false := by
  rw [lg_cmp_eq, bitS hB hn]
  cases B.testBit n <;> decide
/-- the cells of a layer are written anew -/
def putL (m : IM) (a o : Nat) (n e : Nat) (p : Nat → Bool) : IM := fun b i => if b = a ∧ o + n ≤ i ∧ i < o + e then (if p (i - o) then 1 else 0) else m b i
theorem putL_end {m : IM} {a o e : Nat} {p : Nat → Bool} : putL m a o e e p = m := by
  funext b i; unfold putL; rw [if_neg (by omega)]
theorem putL_step {m : IM} {a o n e : Nat} {p : Nat → Bool} (h : n < e) : putL (u2 m a (o + n) (if p n then 1 else 0)) a o (n + 1) e p = putL m a o n e p := by
  funext b i
  unfold putL u2
  by_cases hb : b = a
  · by_cases hi : i = o + n
    · subst hi
      rw [if_neg (show ¬ (b = a ∧ o + (n + 1) ≤ o + n ∧ o + n < o + e) by omega), if_pos hb, if_pos (rfl : o + n = o + n), if_pos (show b = a ∧ o + n ≤ o + n ∧ o + n < o + e from ⟨hb, by omega, by omega⟩), Nat.add_sub_cancel_left]
    · rw [if_pos hb, if_neg hi]
      by_cases hc : o + n ≤ i ∧ i < o + e
      · rw [if_pos (show b = a ∧ o + (n + 1) ≤ i ∧ i < o + e from ⟨hb, by omega, hc.2⟩), if_pos (show b = a ∧ o + n ≤ i ∧ i < o + e from ⟨hb, hc⟩)]
      · rw [if_neg (show ¬ (b = a ∧ o + (n + 1) ≤ i ∧ i < o + e) by omega), if_neg (show ¬ (b = a ∧ o + n ≤ i ∧ i < o + e) by omega)]
  · rw [if_neg (fun z => hb z.1), if_neg hb, if_neg (fun z => hb z.1)]
theorem R_scanL (hs : RS u) {r z B Fl : Nat} (hr : r < 10) (hz : z < 6) (hB : B < 2 ^ 62) (hF : Fl < 2 ^ 62) (k : Int32 → PM → Option (Int32 × PM)) (p : Nat → Bool) (hp : ∀ i, p i = (B.testBit i && !Fl.testBit i)) : ∀ (d n c : Nat) (m : IM) (fu : Nat), n + d = 36 → d < fu → 
    F_X12_scan_L78 200 (nI r) (nI z) (lN B) (lN Fl) k fu (nI c) (nI n) (pm m j u) = k (nI (c + (fb_ct p 36 - fb_ct p n))) (pm (putL m 201 (216 * r + 36 * z) n 36 p) j u) := by
  intro d
  induction d with
  | zero =>
    intro n c m fu hn hfu
    obtain ⟨fu, rfl⟩ : ∃ g, fu = g + 1 := ⟨fu - 1, by omega⟩
    have hn : n = 36 := by omega
    subst hn
    rw [F_X12_scan_L78, if_pos (show (36 : Int32) ≤ nI 36 by decide), putL_end, Nat.sub_self]
    rfl
  | succ d ih =>
    intro n c m fu hn hfu
    obtain ⟨fu, rfl⟩ : ∃ g, fu = g + 1 := ⟨fu - 1, by omega⟩
    have h1 : ¬ (36 : Int32) ≤ nI n := nI_ge (b := 36) (by omega) (by omega)
    have hst : ∀ (v : Int32) (q : Nat), v = nI q → v = (if p n then 1 else 0) → q = (if p n then 1 else 0) → (gR (pm m j u) 200 13 2 fun x25 => sI (pm m j u) x25 (((216 * nI r) + (36 * nI z)) + nI n) v fun h26 => lt_ (nI c + v) fun x27 => F_X12_scan_L78 200 (nI r) (nI z) (lN B) (lN Fl) k fu x27 (nI n + 1) h26) = k (nI (c + (fb_ct p 36 - fb_ct p n))) (pm (putL m 201 (216 * r + 36 * z) n 36 p) j u) := by
      intro v q hv hv2 hq
      have ei : ((216 : Int32) * nI r + 36 * nI z) + nI n = nI (216 * r + 36 * z + n) := by
        rw [show (216 : Int32) = nI 216 from rfl, show (36 : Int32) = nI 36 from rfl, pk_mul, pk_mul, nI_add, nI_add]
      have hc := fb_ct_mono p (show n + 1 ≤ 36 by omega)
      have hc1 := fb_ct_succ p n
      rw [rR_2 hs, ei, rS_201 hs (by omega), e_lt, hv, nI_add, nI_1, ih (n + 1) (c + q) _ fu (by omega) (by omega), ← hv, hv2, putL_step (by omega)]
      rw [← hq] at hc1
      rw [show c + q + (fb_ct p 36 - fb_ct p (n + 1)) = c + (fb_ct p 36 - fb_ct p n) by omega]
    rw [F_X12_scan_L78, if_neg h1]
    simp only [e_jn]
    by_cases q1 : B.testBit n = true
    · rw [if_neg (fun z => z ((bitS1 hB (by omega)).mpr q1))]
      by_cases q2 : Fl.testBit n = false
      · rw [if_neg (fun z => z ((bitS0 hF (by omega)).mpr q2))]
        have e : p n = true := by rw [hp, q1, q2]; rfl
        exact hst 1 1 rfl (by rw [e]; rfl) (by rw [e]; rfl)
      · rw [if_pos (fun z => q2 ((bitS0 hF (by omega)).mp z))]
        have e : p n = false := by rw [hp, q1, ts_nf q2]; rfl
        exact hst 0 0 rfl (by rw [e]; rfl) (by rw [e]; rfl)
    · rw [if_pos (fun z => q1 ((bitS1 hB (by omega)).mp z))]
      have e : p n = false := by rw [hp, ts_nt q1]; rfl
      exact hst 0 0 rfl (by rw [e]; rfl) (by rw [e]; rfl)
/-- what else of the memory stands: of the reference's rows all but A, of its fields all but K -/
def Fr (A K : List Nat) (m m' : IM) : Prop := (∀ a, a ∉ A → a ≠ 200 → m' a = m a) ∧ (∀ k, k ∉ K → m' 200 k = m 200 k)
theorem Fr.rf {A K : List Nat} (m : IM) : Fr A K m m := ⟨fun _ _ _ => rfl, fun _ _ => rfl⟩
theorem Fr.tr {A K : List Nat} {m1 m2 m3 : IM} (h : Fr A K m1 m2) (g : Fr A K m2 m3) : Fr A K m1 m3 := ⟨fun a ha hb => (g.1 a ha hb).trans (h.1 a ha hb), fun k hk => (g.2 k hk).trans (h.2 k hk)⟩
theorem Fr.sub {A K A' K' : List Nat} {m1 m2 : IM} (h : Fr A K m1 m2) (hA : ∀ a ∈ A, a ∈ A') (hK : ∀ a ∈ K, a ∈ K') : Fr A' K' m1 m2 := ⟨fun a ha hb => h.1 a (fun z => ha (hA a z)) hb, fun k hk => h.2 k (fun z => hk (hK k z))⟩
theorem Fr.fld {A K : List Nat} {m : IM} {k : Nat} {v : Int32} (hk : k ∈ K) : Fr A K m (u2 m 200 k v) := ⟨fun a _ hb => e_u2r hb, fun i hi => e_u2k (fun z => hi (z ▸ hk))⟩
theorem Fr.row {A K : List Nat} {m : IM} {a k : Nat} {v : Int32} (ha : a ∈ A) (h2 : a ≠ 200) : Fr A K m (u2 m a k v) := ⟨fun b hb _ => e_u2r (fun z => hb (z ▸ ha)), fun i _ => e_u2a (fun z => h2 z.symm)⟩
theorem th0 {m : IM} : u2 m 200 0 0 200 0 = 0 := e_u2s
theorem lN_of {x : Int64} (h0 : ¬ x < 0) : ∃ B, B < 2 ^ 63 ∧ x = lN B := by
  refine ⟨x.toInt.toNat, ?_, ?_⟩
  · have := Int64.toInt_lt x
    have h : (0 : Int) ≤ x.toInt := by rw [fa_lt64] at h0; exact Int.not_lt.mp h0
    omega
  · have h : (0 : Int) ≤ x.toInt := by rw [fa_lt64] at h0; exact Int.not_lt.mp h0
    have := Int64.toInt_lt x
    apply Int64.toInt_inj.mp
    rw [pf_lI (by omega)]
    omega
/-- a long that tells a layer -/
def isLay (x : Int64) : Prop := ¬ x < 0 ∧ x < 68719476736
theorem isLay_of {x : Int64} (h : isLay x) : ∃ B, B < 2 ^ 36 ∧ x = lN B := by
  obtain ⟨B, hB, rfl⟩ := lN_of h.1
  refine ⟨B, ?_, rfl⟩
  have := h.2
  rw [fa_lt64, pf_lI hB] at this
  have e : (68719476736 : Int64).toInt = 68719476736 := by decide
  omega
theorem R_scan1 (hs : RS u) {nR : Nat} {sd : Nat → Bool} (hA : RAr m nR sd) {x z : Int32} {b f : Int64} (hx : ¬ ∃ r, r < nR ∧ x = nI r) : F_X12_scan 200 x z b f (pm m j u) = some (0, pm (u2 (u2 m 200 0 0) 200 0 1) j u) := by
  have e := R_isR_no (j := j) hs (m := u2 m 200 0 0) th0 (by rw [e_u2k (by decide)]; exact hA.2.1) hA.1 hx
  simp only [F_X12_scan, rP hs, rT hs, e, e_cl, e_jn, if_true]
theorem R_scan2 (hs : RS u) {nR r : Nat} {sd : Nat → Bool} (hA : RAr m nR sd) {z : Int32} {b f : Int64} (hr : r < nR) (hz : z < 0 ∨ 5 < z) : F_X12_scan 200 (nI r) z b f (pm m j u) = some (0, pm (u2 (u2 m 200 0 0) 200 0 1) j u) := by
  have e := R_isR_ok (j := j) hs (m := u2 m 200 0 0) th0 (by rw [e_u2k (by decide)]; exact hA.2.1) hA.1 hr
  simp only [F_X12_scan, rP hs, rT hs, e, e_cl, e_jn, if_true, if_neg (show ¬ (1 : Int32) = 0 by decide), R_within, if_pos hz, R_may0 hs th0 (show (1 : Int32) ≠ 0 by decide)]
theorem R_scan3 (hs : RS u) {nR r z : Nat} {sd : Nat → Bool} (hA : RAr m nR sd) {b f : Int64} (hr : r < nR) (hz : z < 6) (hb : ¬ (isLay b ∧ isLay f)) : F_X12_scan 200 (nI r) (nI z) b f (pm m j u) = some (0, pm (u2 (u2 m 200 0 0) 200 0 2) j u) := by
  have e := R_isR_ok (j := j) hs (m := u2 m 200 0 0) th0 (by rw [e_u2k (by decide)]; exact hA.2.1) hA.1 hr
  have nz : ¬ (nI z < 0 ∨ 5 < nI z) := fun q => q.elim (nI_pos (by omega)) (fun q => by have := (nI_ltI (a := 5) (by omega) (by omega)).mp q; omega)
  have e2 := R_may0 (j := j) hs (m := u2 m 200 0 0) th0 (show (2 : Int32) ≠ 0 by decide)
  simp only [F_X12_scan, rP hs, rT hs, e, e_cl, e_jn, if_neg (show ¬ (1 : Int32) = 0 by decide), R_within, if_neg nz, R_may1 hs th0, lg_cmp_lt, lg_cmp_ge]
  by_cases q1 : b < 0
  · simp only [if_pos q1, rT hs, e2, e_cl, not_true, if_false]
  · rw [if_neg q1]
    by_cases q2 : 68719476736 ≤ b
    · simp only [if_pos q2, rT hs, e2, e_cl, not_true, if_false]
    · rw [if_neg q2]
      by_cases q3 : f < 0
      · simp only [if_pos q3, rT hs, e2, e_cl, not_true, if_false]
      · rw [if_neg q3]
        by_cases q4 : 68719476736 ≤ f
        · simp only [if_pos q4, rT hs, e2, e_cl, not_true, if_false]
        · exact absurd ⟨⟨q1, by rw [fa_le64] at q2; rw [fa_lt64]; omega⟩, ⟨q3, by rw [fa_le64] at q4; rw [fa_lt64]; omega⟩⟩ hb
theorem R_scan4 (hs : RS u) {nR r z B Fl : Nat} {sd : Nat → Bool} (hA : RAr m nR sd) (hr : r < nR) (hz : z < 6) (hB : B < 2 ^ 36) (hF : Fl < 2 ^ 36) :
    ∃ m', F_X12_scan 200 (nI r) (nI z) (lN B) (lN Fl) (pm m j u) = some (nI (fb_ct (fun i => B.testBit i && !Fl.testBit i) 36), pm m' j u) ∧ m' 200 0 = 0 ∧ Fr [201] [0] m m' ∧
      RAr m' nR (fun i => if 216 * r + 36 * z ≤ i ∧ i < 216 * r + 36 * z + 36 then B.testBit (i - (216 * r + 36 * z)) && !Fl.testBit (i - (216 * r + 36 * z)) else sd i) := by
  have e := R_isR_ok (j := j) hs (m := u2 m 200 0 0) th0 (by rw [e_u2k (by decide)]; exact hA.2.1) hA.1 hr
  have nz : ¬ (nI z < 0 ∨ 5 < nI z) := fun q => q.elim (nI_pos (by omega)) (fun q => by have := (nI_ltI (a := 5) (by omega) (by omega)).mp q; omega)
  have hnR := hA.1
  have q1 : ∀ X, X < 2 ^ 36 → ¬ lN X < 0 := fun X hX => by rw [fa_lt64, pf_lI (by omega)]; show ¬ (X : Int) < 0; omega
  have q2 : ∀ X, X < 2 ^ 36 → ¬ 68719476736 ≤ lN X := fun X hX => by rw [fa_le64, pf_lI (by omega)]; show ¬ (68719476736 : Int) ≤ X; omega
  refine ⟨putL (u2 m 200 0 0) 201 (216 * r + 36 * z) 0 36 (fun i => B.testBit i && !Fl.testBit i), ?_, ?_, ?_, hnR, ?_, ?_⟩
  · simp only [F_X12_scan, rP hs, rT hs, e, e_cl, e_jn, if_neg (show ¬ (1 : Int32) = 0 by decide), R_within, if_neg nz, R_may1 hs th0, lg_cmp_lt, lg_cmp_ge, if_neg (q1 B hB), if_neg (q1 Fl hF), if_neg (q2 B hB), if_neg (q2 Fl hF), if_pos (show ¬ (1 : Int32) = 0 by decide)]
    rw [show (0 : Int32) = nI 0 from rfl, R_scanL hs (by omega) hz (by omega) (by omega) _ (fun i => B.testBit i && !Fl.testBit i) (fun i => rfl) 36 0 0 _ LF rfl (by decide), Nat.zero_add, show fb_ct (fun i => B.testBit i && !Fl.testBit i) 0 = 0 from rfl, Nat.sub_zero]
  · unfold putL; rw [if_neg (by omega)]; exact th0
  · refine ⟨fun a ha hb => ?_, fun k hk => ?_⟩
    · funext i; unfold putL; rw [if_neg (fun q => ha (by rw [q.1]; exact List.mem_cons_self))]; exact e_u2a hb
    · unfold putL; rw [if_neg (by omega)]; exact e_u2k (fun q => hk (by rw [q]; exact List.mem_cons_self))
  · unfold putL; rw [if_neg (by omega), e_u2k (by decide)]; exact hA.2.1
  · intro i hi
    unfold putL
    by_cases hc : 216 * r + 36 * z ≤ i ∧ i < 216 * r + 36 * z + 36
    · rw [if_pos (show 201 = 201 ∧ 216 * r + 36 * z + 0 ≤ i ∧ i < 216 * r + 36 * z + 36 from ⟨rfl, hc⟩)]
      simp only [if_pos hc]
    · rw [if_neg (show ¬ (201 = 201 ∧ 216 * r + 36 * z + 0 ≤ i ∧ i < 216 * r + 36 * z + 36) from fun q => hc q.2), e_u2a (by decide), hA.2.2 i hi]
      simp only [if_neg hc]
end REF1
