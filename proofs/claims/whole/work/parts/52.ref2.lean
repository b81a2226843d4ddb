/-! ===== the reference: prices, worth, bids, counts ===== -/
theorem i10 : ((1 : Int32) = 0) = False := eq_false (by decide)
theorem i01 : ((0 : Int32) = 1) = False := eq_false (by decide)
theorem i00 : ((0 : Int32) = 0) = True := eq_true rfl
/-- a number or none: 0 is none -/
def oI (q : Nat) : Int32 := nI q - 1
theorem oI_0 : oI 0 = -1 := by decide
theorem oI_s (q : Nat) : oI (q + 1) = nI q := nI_pred q
theorem oI_p {q : Nat} (h : q ≠ 0) : oI q = nI (q - 1) := by
  obtain ⟨p, rfl⟩ : ∃ p, q = p + 1 := ⟨q - 1, by omega⟩
  exact oI_s p
theorem oI_n {q : Nat} (hq : q < 2 ^ 31) : oI q = -1 ↔ q = 0 := by
  constructor
  · intro h
    refine Classical.byContradiction fun z => ?_
    rw [oI_p z, fa_eq, nI_toInt (by omega)] at h
    have : ((-1 : Int32)).toInt = -1 := by decide
    omega
  · intro h; rw [h]; exact oI_0
theorem oI_inj {q p : Nat} (hq : q < 2 ^ 31) (hp : p < 2 ^ 31) : oI q = oI p ↔ q = p := by
  constructor
  · intro h
    by_cases e1 : q = 0
    · rw [e1, oI_0] at h; exact e1.trans ((oI_n hp).mp h.symm).symm
    · by_cases e2 : p = 0
      · rw [e2, oI_0] at h; exact ((oI_n hq).mp h).trans e2.symm
      · rw [oI_p e1, oI_p e2] at h
        have := (nI_eq (by omega) (by omega)).mp h
        omega
  · intro h; rw [h]
section REF2
variable {m : IM} {j : JM} {u : SU}
/-- prices: steps, from which weight, how much -/
def PD (ps : Nat) (pf pp : Nat → Nat) : Prop := ps ≤ 10 ∧ (∀ i, i < ps → 1 ≤ pf i ∧ pf i ≤ 216 ∧ pp i ≤ 10000) ∧ ∀ a b, a < ps → b < ps → pf a = pf b → a = b
def RAp (m : IM) (ps : Nat) (pf pp : Nat → Nat) : Prop := m 200 14 = nI ps ∧ ∀ i, i < ps → m 208 i = nI (pf i) ∧ m 209 i = nI (pp i)
/-- the best step among the first n, plus one; 0 if there is none -/
def bk (pf : Nat → Nat) (w : Nat) : Nat → Nat
  | 0 => 0
  | n + 1 => if pf n ≤ w ∧ (bk pf w n = 0 ∨ pf (bk pf w n - 1) < pf n) then n + 1 else bk pf w n
theorem bk_le (pf : Nat → Nat) (w : Nat) : ∀ n, bk pf w n ≤ n
  | 0 => Nat.le_refl 0
  | n + 1 => by
    unfold bk
    split
    · exact Nat.le_refl _
    · exact Nat.le_succ_of_le (bk_le pf w n)
def wOf (ps : Nat) (pf pp : Nat → Nat) (w : Nat) : Nat := if bk pf w ps = 0 then 0 else w * pp (bk pf w ps - 1)
theorem R_wL (hs : RS u) {ps w : Nat} {pf pp : Nat → Nat} (hD : PD ps pf pp) (hA : RAp m ps pf pp) (hw : w < 2 ^ 31) (k : Int32 → PM → Option (Int32 × PM)) : ∀ (d n fu : Nat), n + d = ps → d < fu →
    F_X12_worthOf_L4 200 (nI w) k fu (oI (bk pf w n)) (nI n) (pm m j u) = k (oI (bk pf w ps)) (pm m j u) := by
  obtain ⟨d1, d2, d3⟩ := hD
  intro d
  induction d with
  | zero =>
    intro n fu hn hfu
    obtain ⟨fu, rfl⟩ : ∃ g, fu = g + 1 := ⟨fu - 1, by omega⟩
    have hn : n = ps := by omega
    subst hn
    rw [F_X12_worthOf_L4, rI hs, hA.1, if_pos (nI_le (Nat.le_refl _) (by omega))]
  | succ d ih =>
    intro n fu hn hfu
    obtain ⟨fu, rfl⟩ : ∃ g, fu = g + 1 := ⟨fu - 1, by omega⟩
    have hlt : n < ps := by omega
    have hb := bk_le pf w n
    have hp := d2 n hlt
    have hi := ih (n + 1) fu (by omega) (by omega)
    have hv := (hA.2 n hlt).1
    rw [F_X12_worthOf_L4, rI hs, hA.1, if_neg (nI_ge hlt (by omega))]
    simp (disch := omega) only [rP hs, rI hs, rT hs, e_cl, e_jn, e_lt, e_rz0, e_rz1, e_u2s, e_u2k, e_u2a, R_within, i10, i00, i01, if_true, if_false, not_true, not_false_eq_true, ne_eq, rR_15 hs, rA_208 hs, rS_208 hs, hv, nI_1]
    by_cases c1 : w < pf n
    · rw [if_pos (nI_lt c1 (by omega))]
      have e : bk pf w (n + 1) = bk pf w n := by rw [bk, if_neg (by omega)]
      rw [e] at hi; exact hi
    · rw [if_neg (nI_nlt (by omega) hw)]
      by_cases c2 : bk pf w n = 0
      · rw [if_pos ((oI_n (by omega)).mpr c2)]
        have e : bk pf w (n + 1) = n + 1 := by rw [bk, if_pos ⟨by omega, Or.inl c2⟩]
        rw [e, oI_s] at hi; exact hi
      · rw [if_neg (fun z => c2 ((oI_n (by omega)).mp z)), oI_p c2, rA_208 hs (by omega), (hA.2 _ (show bk pf w n - 1 < ps by omega)).1]
        by_cases c3 : pf n ≤ pf (bk pf w n - 1)
        · have := (d2 (bk pf w n - 1) (by omega)).2.1
          rw [if_pos (nI_le c3 (by omega))]
          have e : bk pf w (n + 1) = bk pf w n := by rw [bk, if_neg (by omega)]
          rw [e, oI_p c2] at hi; exact hi
        · rw [if_neg (nI_ge (by omega) (by omega))]
          have e : bk pf w (n + 1) = n + 1 := by rw [bk, if_pos ⟨by omega, Or.inr (by omega)⟩]
          rw [e, oI_s] at hi; exact hi
theorem R_worthOf (hs : RS u) {ps w : Nat} {pf pp : Nat → Nat} (hD : PD ps pf pp) (hA : RAp m ps pf pp) (hw : w < 2 ^ 31) : F_X12_worthOf 200 (nI w) (pm m j u) = some (nI (wOf ps pf pp w), pm m j u) := by
  have hps := hD.1
  have h := R_wL (j := j) hs hD hA hw (fun v1 h2 => jn (fun (s3 : Int32) (h4 : PM) => some (s3, h4)) fun k67 => if ¬ v1 = (-1) then (gR h2 200 13 16 fun x5 => aI h2 x5 v1 fun x6 => k67 (nI w * x6) h2) else (k67 0 h2)) ps 0 LF (by omega) (by unfold LF; omega)
  rw [show oI (bk pf w 0) = -1 from oI_0, show nI 0 = 0 from rfl] at h
  unfold F_X12_worthOf
  rw [e_jn, h]
  have hb := bk_le pf w ps
  unfold wOf
  by_cases c : bk pf w ps = 0
  · rw [if_pos c, c, e_jn, if_neg (show ¬ ¬ oI 0 = -1 by decide)]; rfl
  · have hm : ¬ oI (bk pf w ps) = -1 := fun z => c ((oI_n (by omega)).mp z)
    rw [if_neg c, e_jn, if_pos hm, oI_p c, rR_16 hs, rA_209 hs (by omega), (hA.2 _ (show bk pf w ps - 1 < ps by omega)).2, pk_mul]
theorem R_worth1 (hs : RS u) {x : Int32} (hx : x < 0 ∨ 216 < x) : F_X12_worth 200 x (pm m j u) = some (0, pm (u2 (u2 m 200 0 0) 200 0 1) j u) := by
  simp only [F_X12_worth, rP hs, rI hs, rT hs, e_cl, e_jn, e_lt, e_rz0, e_rz1, e_u2s, e_u2k, e_u2a, R_within, i10, i00, i01, if_true, if_false, not_true, not_false_eq_true, ne_eq, if_pos hx, R_may0 hs th0 (show (1 : Int32) ≠ 0 by decide)]
theorem RAp_fr {m' : IM} {ps : Nat} {pf pp : Nat → Nat} {A K : List Nat} (hA : RAp m ps pf pp) (hF : Fr A K m m') (h1 : 14 ∉ K) (h2 : 208 ∉ A) (h3 : 209 ∉ A) : RAp m' ps pf pp := by
  refine ⟨by rw [hF.2 14 h1]; exact hA.1, fun i hi => ?_⟩
  rw [hF.1 208 h2 (by decide), hF.1 209 h3 (by decide)]; exact hA.2 i hi
theorem R_worth2 (hs : RS u) {ps w : Nat} {pf pp : Nat → Nat} (hD : PD ps pf pp) (hA : RAp m ps pf pp) (hw : w ≤ 216) : F_X12_worth 200 (nI w) (pm m j u) = some (nI (wOf ps pf pp w), pm (u2 m 200 0 0) j u) := by
  have nx : ¬ (nI w < 0 ∨ 216 < nI w) := fun q => q.elim (nI_pos (by omega)) (fun q => by have := (nI_ltI (a := 216) (by omega) (by omega)).mp q; omega)
  have hA' : RAp (u2 m 200 0 0) ps pf pp := RAp_fr hA (Fr.fld (A := []) (K := [0]) List.mem_cons_self) (by decide) (by decide) (by decide)
  simp only [F_X12_worth, rP hs, rI hs, rT hs, e_cl, e_jn, e_lt, e_rz0, e_rz1, e_u2s, e_u2k, e_u2a, R_within, i10, i00, i01, if_true, if_false, not_true, not_false_eq_true, ne_eq, if_neg nx, R_may1 hs th0, R_worthOf hs hD hA' (show w < 2 ^ 31 by omega)]
theorem nx_in {n : Nat} {lo hi : Nat} (h1 : lo ≤ n) (h2 : n ≤ hi) (h3 : hi < 2 ^ 31) : ¬ (nI n < nI lo ∨ nI hi < nI n) := fun q => q.elim (nI_nlt h1 (by omega)) (nI_nlt h2 h3)
theorem w_of {x : Int32} {lo hi : Nat} (h : ¬ (x < nI lo ∨ nI hi < x)) (hl : lo < 2 ^ 31) (hh : hi < 2 ^ 31) : ∃ n, lo ≤ n ∧ n ≤ hi ∧ x = nI n := by
  obtain ⟨h1, h2⟩ := not_or.mp h
  rw [fa_lt, nI_toInt hl] at h1
  rw [fa_lt, nI_toInt hh] at h2
  refine ⟨x.toInt.toNat, by omega, by omega, ?_⟩
  apply Int32.toInt_inj.mp
  rw [nI_toInt (by omega)]
  omega
/-- lots -/
def LD (nL : Nat) (bd lm : Nat → Nat) : Prop := nL ≤ 6 ∧ (∀ i, i < 24 → bd i ≤ 1000000) ∧ (∀ i, 4 * nL ≤ i → bd i = 0) ∧ ∀ b, b < 4 → lm b ≤ 6
def RAl (m : IM) (nL : Nat) (br : Int32) (bd lm : Nat → Nat) : Prop := m 200 51 = nI nL ∧ m 200 52 = br ∧ (∀ i, i < 4 * nL → m 233 i = nI (bd i)) ∧ ∀ b, b < 4 → m 234 b = nI (lm b)
theorem RAl_fr {m' : IM} {nL : Nat} {br : Int32} {bd lm : Nat → Nat} {A K : List Nat} (hA : RAl m nL br bd lm) (hF : Fr A K m m') (h1 : 51 ∉ K) (h2 : 52 ∉ K) (h3 : 233 ∉ A) (h4 : 234 ∉ A) : RAl m' nL br bd lm := by
  refine ⟨by rw [hF.2 51 h1]; exact hA.1, by rw [hF.2 52 h2]; exact hA.2.1, fun i hi => ?_, fun i hi => ?_⟩
  · rw [hF.1 233 h3 (by decide)]; exact hA.2.2.1 i hi
  · rw [hF.1 234 h4 (by decide)]; exact hA.2.2.2 i hi
theorem R_most1 (hs : RS u) {x y : Int32} (hx : x < 0 ∨ 3 < x) : F_X12_most 200 x y (pm m j u) = some (0, pm (u2 (u2 m 200 0 0) 200 0 1) j u) := by
  simp only [F_X12_most, rP hs, rI hs, rT hs, e_cl, e_jn, e_lt, e_rz0, e_rz1, e_u2s, e_u2k, e_u2a, R_within, i10, i00, i01, if_true, if_false, not_true, not_false_eq_true, ne_eq, if_pos hx, R_may0 hs th0 (show (1 : Int32) ≠ 0 by decide)]
theorem R_most2 (hs : RS u) {b : Nat} {y : Int32} (hb : b < 4) (hy : y < 0 ∨ 6 < y) : F_X12_most 200 (nI b) y (pm m j u) = some (0, pm (u2 (u2 m 200 0 0) 200 0 2) j u) := by
  simp only [F_X12_most, rP hs, rI hs, rT hs, e_cl, e_jn, e_lt, e_rz0, e_rz1, e_u2s, e_u2k, e_u2a, R_within, i10, i00, i01, if_true, if_false, not_true, not_false_eq_true, ne_eq, if_neg (show ¬ (nI b < 0 ∨ 3 < nI b) from nx_in (n := b) (lo := 0) (hi := 3) (by omega) (by omega) (by decide)), if_pos hy, R_may1 hs th0, R_may0 hs th0 (show (2 : Int32) ≠ 0 by decide)]
theorem R_most3 (hs : RS u) {nL b n : Nat} {br : Int32} {bd lm : Nat → Nat} (hA : RAl m nL br bd lm) (hb : b < 4) (hn : n ≤ 6) : ∃ m', F_X12_most 200 (nI b) (nI n) (pm m j u) = some (nI (lm b), pm m' j u) ∧ m' 200 0 = 0 ∧ Fr [234] [0] m m' ∧ RAl m' nL br bd (fun i => if i = b then n else lm i) := by
  refine ⟨u2 (u2 m 200 0 0) 234 b (nI n), ?_, ?_, (Fr.fld (by decide)).tr (Fr.row (by decide) (by decide)), ?_⟩
  · simp (disch := omega) only [F_X12_most, rP hs, rI hs, rT hs, e_cl, e_jn, e_lt, e_rz0, e_rz1, e_u2s, e_u2k, e_u2a, R_within, i10, i00, i01, if_true, if_false, not_true, not_false_eq_true, ne_eq, rR_54 hs, rA_234 hs, rS_234 hs, if_neg (show ¬ (nI b < 0 ∨ 3 < nI b) from nx_in (n := b) (lo := 0) (hi := 3) (by omega) (by omega) (by decide)), if_neg (show ¬ (nI n < 0 ∨ 6 < nI n) from nx_in (n := n) (lo := 0) (hi := 6) (by omega) (by omega) (by decide)), R_may1 hs th0, hA.2.2.2 b hb]
  · rw [e_u2a (by decide)]; exact th0
  · refine ⟨by rw [e_u2a (by decide), e_u2k (by decide)]; exact hA.1, by rw [e_u2a (by decide), e_u2k (by decide)]; exact hA.2.1, fun i hi => ?_, fun i hi => ?_⟩
    · rw [e_u2a (by decide), e_u2a (by decide)]; exact hA.2.2.1 i hi
    · by_cases e : i = b
      · rw [e, e_u2s]; exact congrArg nI (if_pos rfl).symm
      · rw [e_u2k e, e_u2a (by decide), hA.2.2.2 i hi]; exact congrArg nI (if_neg e).symm
theorem R_bid1 (hs : RS u) {x y z : Int32} (hx : x < 0 ∨ 3 < x) : F_X12_bid 200 x y z (pm m j u) = some (0, pm (u2 (u2 m 200 0 0) 200 0 1) j u) := by
  simp only [F_X12_bid, rP hs, rI hs, rT hs, e_cl, e_jn, e_lt, e_rz0, e_rz1, e_u2s, e_u2k, e_u2a, R_within, i10, i00, i01, if_true, if_false, not_true, not_false_eq_true, ne_eq, if_pos hx, R_may0 hs th0 (show (1 : Int32) ≠ 0 by decide)]
theorem lt_of_not {x : Int32} {n : Nat} (hn : n < 2 ^ 31) (h : ¬ ∃ l, l < n ∧ x = nI l) : x < 0 ∨ nI n - 1 < x := by
  refine Classical.byContradiction fun z => h ?_
  obtain ⟨z1, z2⟩ := not_or.mp z
  obtain ⟨r, hr1, rfl⟩ := nI_of z1
  refine ⟨r, ?_, rfl⟩
  rcases Nat.eq_zero_or_pos n with e | e
  · subst e
    exact absurd (show nI 0 - 1 < nI r by rw [fa_lt, nI_toInt hr1]; show (-1 : Int) < _; omega) z2
  · rw [show nI n - 1 = nI (n - 1) from pk_sub (a := n) (b := 1) (by omega)] at z2
    have : ¬ n - 1 < r := fun w => z2 ((nI_ltI (a := n - 1) (b := r) (by omega) hr1).mpr w)
    omega
theorem not_lt_of {l n : Nat} (hn : n < 2 ^ 31) (h : l < n) : ¬ (nI l < 0 ∨ nI n - 1 < nI l) := by
  rw [show nI n - 1 = nI (n - 1) from pk_sub (a := n) (b := 1) (by omega)]
  exact nx_in (lo := 0) (by omega) (by omega) (by omega)
theorem R_bid2 (hs : RS u) {b nL : Nat} {y z : Int32} (hb : b < 4) (hL : m 200 51 = nI nL) (hn : nL ≤ 6) (hy : ¬ ((∃ l, l < nL ∧ y = nI l) ∧ ¬ (z < 1 ∨ 1000000 < z))) : F_X12_bid 200 (nI b) y z (pm m j u) = some (0, pm (u2 (u2 m 200 0 0) 200 0 2) j u) := by
  have e2 := R_may0 (j := j) hs (m := u2 m 200 0 0) th0 (show (2 : Int32) ≠ 0 by decide)
  simp (disch := omega) only [F_X12_bid, rP hs, rI hs, rT hs, e_cl, e_jn, e_lt, e_rz0, e_rz1, e_u2s, e_u2k, e_u2a, R_within, i10, i00, i01, if_true, if_false, not_true, not_false_eq_true, ne_eq, if_neg (show ¬ (nI b < 0 ∨ 3 < nI b) from nx_in (n := b) (lo := 0) (hi := 3) (by omega) (by omega) (by decide)), R_may1 hs th0, hL]
  by_cases q : ∃ l, l < nL ∧ y = nI l
  · have hz : z < 1 ∨ 1000000 < z := Classical.byContradiction fun w => hy ⟨q, w⟩
    obtain ⟨l, hl, rfl⟩ := q
    simp (disch := omega) only [if_neg (not_lt_of (n := nL) (by omega) hl), if_pos hz, rP hs, rI hs, rT hs, e_cl, e_jn, e_lt, e_rz0, e_rz1, e_u2s, e_u2k, e_u2a, R_within, i10, i00, i01, if_true, if_false, not_true, not_false_eq_true, ne_eq, e2]
  · simp (disch := omega) only [if_pos (lt_of_not (by omega) q), rP hs, rI hs, rT hs, e_cl, e_jn, e_lt, e_rz0, e_rz1, e_u2s, e_u2k, e_u2a, R_within, i10, i00, i01, if_true, if_false, not_true, not_false_eq_true, ne_eq, e2]
theorem R_bid3 (hs : RS u) {nL b l n : Nat} {br : Int32} {bd lm : Nat → Nat} (hD : LD nL bd lm) (hA : RAl m nL br bd lm) (hb : b < 4) (hl : l < nL) (h1 : 1 ≤ n) (h2 : n ≤ 1000000) : ∃ m', F_X12_bid 200 (nI b) (nI l) (nI n) (pm m j u) = some (if bd (4 * l + b) = 0 then 1 else -1, pm m' j u) ∧ m' 200 0 = 0 ∧ Fr [233] [0] m m' ∧ RAl m' nL br (fun i => if i = 4 * l + b ∧ bd i = 0 then n else bd i) lm := by
  have hn6 := hD.1
  have hbd := hD.2.1 (4 * l + b) (by omega)
  have e4 : 4 * nI l + nI b = nI (4 * l + b) := by rw [show (4 : Int32) = nI 4 from rfl, pk_mul, nI_add]
  have g1 : ¬ (nI b < 0 ∨ 3 < nI b) := nx_in (n := b) (lo := 0) (hi := 3) (by omega) (by omega) (by decide)
  have g2 : ¬ (nI n < 1 ∨ 1000000 < nI n) := nx_in (n := n) (lo := 1) (hi := 1000000) (by omega) (by omega) (by decide)
  by_cases c : bd (4 * l + b) = 0
  · refine ⟨u2 (u2 m 200 0 0) 233 (4 * l + b) (nI n), ?_, ?_, (Fr.fld (by decide)).tr (Fr.row (by decide) (by decide)), ?_⟩
    · simp (disch := omega) only [F_X12_bid, rP hs, rI hs, rT hs, e_cl, e_jn, e_lt, e_rz0, e_rz1, e_u2s, e_u2k, e_u2a, R_within, i10, i00, i01, if_true, if_false, not_true, not_false_eq_true, ne_eq, rR_53 hs, rA_233 hs, rS_233 hs, if_neg g1, if_neg g2, if_neg (not_lt_of (n := nL) (by omega) hl), R_may1 hs th0, hA.1, e4, hA.2.2.1 (4 * l + b) (by omega), c, show nI 0 ≤ 0 from by decide]
    · rw [e_u2a (by decide)]; exact th0
    · refine ⟨by rw [e_u2a (by decide), e_u2k (by decide)]; exact hA.1, by rw [e_u2a (by decide), e_u2k (by decide)]; exact hA.2.1, fun i hi => ?_, fun i hi => ?_⟩
      · by_cases e : i = 4 * l + b
        · rw [e, e_u2s]; exact congrArg nI (if_pos ⟨rfl, c⟩).symm
        · rw [e_u2k e, e_u2a (by decide), hA.2.2.1 i hi]; exact congrArg nI (if_neg (fun z => e z.1)).symm
      · rw [e_u2a (by decide), e_u2a (by decide)]; exact hA.2.2.2 i hi
  · refine ⟨u2 m 200 0 0, ?_, th0, Fr.fld (by decide), ?_⟩
    · simp (disch := omega) only [F_X12_bid, rP hs, rI hs, rT hs, e_cl, e_jn, e_lt, e_rz0, e_rz1, e_u2s, e_u2k, e_u2a, R_within, i10, i00, i01, if_true, if_false, not_true, not_false_eq_true, ne_eq, rR_53 hs, rA_233 hs, rS_233 hs, if_neg g1, if_neg g2, if_neg (not_lt_of (n := nL) (by omega) hl), R_may1 hs th0, hA.1, e4, hA.2.2.1 (4 * l + b) (by omega), if_neg c, if_neg (show ¬ nI (bd (4 * l + b)) ≤ 0 from nI_ge (a := 0) (by omega) (by omega))]
    · refine ⟨by rw [e_u2k (by decide)]; exact hA.1, by rw [e_u2k (by decide)]; exact hA.2.1, fun i hi => ?_, fun i hi => ?_⟩
      · rw [e_u2a (by decide), hA.2.2.1 i hi]; exact congrArg nI (if_neg (fun z => c (by rw [← z.1]; exact z.2))).symm
      · rw [e_u2a (by decide)]; exact hA.2.2.2 i hi
end REF2
