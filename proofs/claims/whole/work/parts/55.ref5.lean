/-! ===== the reference: the tape and the text of a model ===== -/
theorem u2_id {m : IM} {a k : Nat} {v : Int32} (h : m a k = v) : u2 m a k v = m := by
  funext b i
  unfold u2
  by_cases hb : b = a
  · by_cases hi : i = k
    · rw [if_pos hb, if_pos hi, hb, hi, h]
    · rw [if_pos hb, if_neg hi]
  · rw [if_neg hb]
theorem u2_u2 {m : IM} {a k : Nat} {v w : Int32} : u2 (u2 m a k v) a k w = u2 m a k w := by
  funext b i
  by_cases hb : b = a
  · by_cases hi : i = k <;> simp [u2, hb, hi]
  · simp [u2, hb]
/-- past blanks -/
def skp (tb : Nat → Int32) : Nat → Nat → Nat
  | 0, p => p
  | d + 1, p => if tb p = 32 then skp tb d (p + 1) else p
theorem skp_le (tb : Nat → Int32) : ∀ d p, p ≤ skp tb d p ∧ skp tb d p ≤ p + d
  | 0, p => ⟨Nat.le_refl _, Nat.le_refl _⟩
  | d + 1, p => by
    unfold skp
    have := skp_le tb d (p + 1)
    split <;> omega
def skip (tb : Nat → Int32) (n p : Nat) : Nat := skp tb (n - p) p
theorem skip_le {tb : Nat → Int32} {n p : Nat} (h : p ≤ n) : p ≤ skip tb n p ∧ skip tb n p ≤ n := by
  have := skp_le tb (n - p) p
  unfold skip
  omega
theorem skip_end {tb : Nat → Int32} {n p : Nat} (h : n ≤ p) : skip tb n p = p := by
  unfold skip
  rw [show n - p = 0 by omega]; rfl
/-- a digit: where it is wrong (.inl), or the digit and the place behind it -/
def pdig (tb : Nat → Int32) (n lo hi p : Nat) : Nat ⊕ (Nat × Nat) := if skip tb n p < n ∧ ¬ (tb (skip tb n p) - 48 < nI lo ∨ nI hi < tb (skip tb n p) - 48) then .inr ((tb (skip tb n p) - 48).toInt.toNat, skip tb n p + 1) else .inl (skip tb n p)
def psgn (tb : Nat → Int32) (n : Nat) (c : Int32) (p : Nat) : Nat ⊕ Nat := if skip tb n p < n ∧ tb (skip tb n p) = c then .inr (skip tb n p + 1) else .inl (skip tb n p)
section REF5
variable {m : IM} {j : JM} {u : SU}
def atM (m : IM) (p : Nat) : IM := u2 m 200 5 (nI p)
def badM (m : IM) (p : Nat) : IM := u2 (u2 m 200 5 (nI p)) 200 6 (nI p)
/-- the text that is read: n bytes; nothing wrong yet -/
def TX (m : IM) (n : Nat) (tb : Nat → Int32) : Prop := n ≤ 100 ∧ m 200 4 = nI n ∧ m 200 6 = -1 ∧ ∀ i, i < n → m 202 i = tb i
theorem R_hereL (hs : RS u) {n : Nat} {tb : Nat → Int32} (hT : TX m n tb) (k : PM → Option (Int32 × PM)) : ∀ (d p fu : Nat), n - p = d → p ≤ n → d < fu → F_X12_here_L0 200 k fu (pm (atM m p) j u) = k (pm (atM m (skp tb d p)) j u) := by
  obtain ⟨t1, t2, t3, t4⟩ := hT
  intro d
  induction d with
  | zero =>
    intro p fu hd hp hfu
    obtain ⟨fu, rfl⟩ : ∃ g, fu = g + 1 := ⟨fu - 1, by omega⟩
    have e : p = n := by omega
    subst e
    unfold atM
    simp (disch := omega) only [F_X12_here_L0, rP hs, rI hs, rT hs, e_cl, e_jn, e_lt, e_rz0, e_rz1, e_u2s, e_u2k, e_u2a, R_within, i10, i00, i01, if_true, if_false, not_true, not_false_eq_true, ne_eq, t2, if_pos (nI_le (Nat.le_refl p) (by omega))]
    rfl
  | succ d ih =>
    intro p fu hd hp hfu
    obtain ⟨fu, rfl⟩ : ∃ g, fu = g + 1 := ⟨fu - 1, by omega⟩
    have hi := ih (p + 1) fu (by omega) (by omega) (by omega)
    have n1 : ¬ nI n ≤ nI p := nI_ge (by omega) (by omega)
    have hv := t4 p (by omega)
    unfold atM at hi ⊢
    unfold skp
    simp (disch := omega) only [F_X12_here_L0, rP hs, rI hs, rT hs, e_cl, e_jn, e_lt, e_rz0, e_rz1, e_u2s, e_u2k, e_u2a, R_within, i10, i00, i01, if_true, if_false, not_true, not_false_eq_true, ne_eq, rR_8 hs, rA_202 hs, rS_202 hs, t2, if_neg n1, hv]
    by_cases c : tb p = 32
    · rw [if_neg (fun z => z c), if_pos c, nI_1, u2_u2]; exact hi
    · rw [if_pos c, if_neg c]
theorem R_here (hs : RS u) {n p : Nat} {tb : Nat → Int32} (hT : TX m n tb) (hp : p ≤ n) : F_X12_here 200 (pm (atM m p) j u) = some (if skip tb n p < n then tb (skip tb n p) else 0, pm (atM m (skip tb n p)) j u) := by
  have hT' := hT
  obtain ⟨t1, t2, t3, t4⟩ := hT'
  have hk := skip_le (tb := tb) hp
  unfold F_X12_here
  rw [e_jn, R_hereL hs hT _ (n - p) p LF rfl hp (by unfold LF; omega)]
  rw [show skp tb (n - p) p = skip tb n p from rfl]
  generalize skip tb n p = q at hk ⊢
  unfold atM
  by_cases c : q < n
  · simp (disch := omega) only [rP hs, rI hs, rT hs, e_cl, e_jn, e_lt, e_rz0, e_rz1, e_u2s, e_u2k, e_u2a, R_within, i10, i00, i01, if_true, if_false, not_true, not_false_eq_true, ne_eq, rR_8 hs, rA_202 hs, rS_202 hs, t2, if_neg (nI_ge c (show n < 2 ^ 31 by omega)), if_pos c, t4 q c]
  · simp (disch := omega) only [rP hs, rI hs, rT hs, e_cl, e_jn, e_lt, e_rz0, e_rz1, e_u2s, e_u2k, e_u2a, R_within, i10, i00, i01, if_true, if_false, not_true, not_false_eq_true, ne_eq, rR_8 hs, rA_202 hs, rS_202 hs, t2, if_pos (show nI n ≤ nI q from nI_le (by omega) (by omega)), if_neg c]
theorem TX_at {n p : Nat} {tb : Nat → Int32} (hT : TX m n tb) : TX (atM m p) n tb := by
  obtain ⟨t1, t2, t3, t4⟩ := hT
  unfold atM
  exact ⟨t1, by rw [e_u2k (by decide)]; exact t2, by rw [e_u2k (by decide)]; exact t3, fun i hi => by rw [e_u2a (by decide)]; exact t4 i hi⟩
theorem atM_at {p q : Nat} : atM (atM m p) q = atM m q := u2_u2
theorem R_fine1 (hs : RS u) (h : m 200 6 = -1) : F_X12_fine 200 (pm m j u) = some (1, pm m j u) := by
  simp (disch := omega) only [F_X12_fine, rP hs, rI hs, rT hs, e_cl, e_jn, e_lt, e_rz0, e_rz1, e_u2s, e_u2k, e_u2a, R_within, i10, i00, i01, if_true, if_false, not_true, not_false_eq_true, ne_eq, h]
theorem R_fine0 (hs : RS u) (h : ¬ m 200 6 = -1) : F_X12_fine 200 (pm m j u) = some (0, pm m j u) := by
  simp (disch := omega) only [F_X12_fine, rP hs, rI hs, rT hs, e_cl, e_jn, e_lt, e_rz0, e_rz1, e_u2s, e_u2k, e_u2a, R_within, i10, i00, i01, if_true, if_false, not_true, not_false_eq_true, ne_eq, h]
theorem bad_ne {p : Nat} (hp : p < 2 ^ 31) : ¬ badM m p 200 6 = -1 := by
  unfold badM
  rw [e_u2s]
  intro h
  rw [fa_eq, nI_toInt hp] at h
  have : ((-1 : Int32)).toInt = -1 := by decide
  omega
theorem R_wrong (hs : RS u) (h : m 200 6 = -1) {v : Int32} : F_X12_wrong 200 v (pm m j u) = some ((), pm (u2 m 200 6 v) j u) := by
  simp (disch := omega) only [F_X12_wrong, rP hs, rI hs, rT hs, e_cl, e_jn, e_lt, e_rz0, e_rz1, e_u2s, e_u2k, e_u2a, R_within, i10, i00, i01, if_true, if_false, not_true, not_false_eq_true, ne_eq, h]
theorem at_f {n p : Nat} {tb : Nat → Int32} (hT : TX m n tb) : atM m p 200 6 = -1 := (TX_at hT).2.2.1
theorem at_5 {p : Nat} : atM m p 200 5 = nI p := e_u2s
theorem R_digit0 (hs : RS u) (h : ¬ m 200 6 = -1) {lo hi : Int32} : F_X12_digit 200 lo hi (pm m j u) = some (0, pm m j u) := by
  simp (disch := omega) only [F_X12_digit, rP hs, rI hs, rT hs, e_cl, e_jn, e_lt, e_rz0, e_rz1, e_u2s, e_u2k, e_u2a, R_within, i10, i00, i01, if_true, if_false, not_true, not_false_eq_true, ne_eq, R_fine0 hs h]
theorem R_need0 (hs : RS u) (h : ¬ m 200 6 = -1) {c : Int32} : F_X12_need 200 c (pm m j u) = some ((), pm m j u) := by
  simp (disch := omega) only [F_X12_need, rP hs, rI hs, rT hs, e_cl, e_jn, e_lt, e_rz0, e_rz1, e_u2s, e_u2k, e_u2a, R_within, i10, i00, i01, if_true, if_false, not_true, not_false_eq_true, ne_eq, R_fine0 hs h]
theorem R_digit (hs : RS u) {n p lo hi : Nat} {tb : Nat → Int32} (hT : TX m n tb) (hp : p ≤ n) (hlo : lo < 2 ^ 31) (hhi : hi < 2 ^ 31) :
    (∀ q, pdig tb n lo hi p = .inl q → ∃ v, F_X12_digit 200 (nI lo) (nI hi) (pm (atM m p) j u) = some (v, pm (badM m q) j u)) ∧
    (∀ d q, pdig tb n lo hi p = .inr (d, q) → F_X12_digit 200 (nI lo) (nI hi) (pm (atM m p) j u) = some (nI d, pm (atM m q) j u)) := by
  have hk := skip_le (tb := tb) hp
  have hn := hT.1
  have hf := at_f (p := p) hT
  have hf2 := at_f (p := skip tb n p) hT
  unfold pdig
  by_cases c : skip tb n p < n
  · by_cases c2 : tb (skip tb n p) - 48 < nI lo ∨ nI hi < tb (skip tb n p) - 48
    · rw [if_neg (fun z => z.2 c2)]
      refine ⟨fun q hq => ?_, fun d q hq => by cases hq⟩
      cases hq
      refine ⟨tb (skip tb n p) - 48, ?_⟩
      simp (disch := omega) only [F_X12_digit, rP hs, rI hs, rT hs, e_cl, e_jn, e_lt, e_rz0, e_rz1, e_u2s, e_u2k, e_u2a, R_within, i10, i00, i01, if_true, if_false, not_true, not_false_eq_true, ne_eq, R_fine1 hs hf, R_here hs hT hp, if_pos c, if_pos c2, at_5, R_wrong hs hf2]
      rfl
    · rw [if_pos ⟨c, c2⟩]
      refine ⟨fun q hq => (by cases hq), fun d q hq => ?_⟩
      cases hq
      obtain ⟨d, -, hd2, hd3⟩ := w_of c2 hlo hhi
      have c3 : ¬ (nI d < nI lo ∨ nI hi < nI d) := by rw [← hd3]; exact c2
      have e : (tb (skip tb n p) - 48).toInt.toNat = d := by rw [hd3, nI_toInt (by omega)]; omega
      rw [e]
      simp (disch := omega) only [F_X12_digit, rP hs, rI hs, rT hs, e_cl, e_jn, e_lt, e_rz0, e_rz1, e_u2s, e_u2k, e_u2a, R_within, i10, i00, i01, if_true, if_false, not_true, not_false_eq_true, ne_eq, R_fine1 hs hf, R_here hs hT hp, if_pos c, hd3, if_neg c3, at_5, nI_1]
      unfold atM
      rw [u2_u2]
  · rw [if_neg (fun z => c z.1)]
    refine ⟨fun q hq => ?_, fun d q hq => by cases hq⟩
    cases hq
    have c2 : (0 : Int32) - 48 < nI lo ∨ nI hi < 0 - 48 := Or.inl (by rw [fa_lt, nI_toInt hlo, show ((0 : Int32) - 48).toInt = -48 by decide]; omega)
    refine ⟨0 - 48, ?_⟩
    simp (disch := omega) only [F_X12_digit, rP hs, rI hs, rT hs, e_cl, e_jn, e_lt, e_rz0, e_rz1, e_u2s, e_u2k, e_u2a, R_within, i10, i00, i01, if_true, if_false, not_true, not_false_eq_true, ne_eq, R_fine1 hs hf, R_here hs hT hp, if_neg c, if_pos c2, at_5, R_wrong hs hf2]
    rfl
theorem R_need (hs : RS u) {n p : Nat} {c : Int32} {tb : Nat → Int32} (hT : TX m n tb) (hp : p ≤ n) (hc : c ≠ 0) :
    (∀ q, psgn tb n c p = .inl q → F_X12_need 200 c (pm (atM m p) j u) = some ((), pm (badM m q) j u)) ∧
    (∀ q, psgn tb n c p = .inr q → F_X12_need 200 c (pm (atM m p) j u) = some ((), pm (atM m q) j u)) := by
  have hk := skip_le (tb := tb) hp
  have hn := hT.1
  have hf := at_f (p := p) hT
  have hf2 := at_f (p := skip tb n p) hT
  have hb : ¬ u2 (atM m (skip tb n p)) 200 6 (nI (skip tb n p)) 200 6 = -1 := bad_ne (m := m) (p := skip tb n p) (by omega)
  unfold psgn
  by_cases g : skip tb n p < n
  · by_cases g2 : tb (skip tb n p) = c
    · rw [if_pos ⟨g, g2⟩]
      refine ⟨fun q hq => (by cases hq), fun q hq => ?_⟩
      cases hq
      simp (disch := omega) only [F_X12_need, rP hs, rI hs, rT hs, e_cl, e_jn, e_lt, e_rz0, e_rz1, e_u2s, e_u2k, e_u2a, R_within, i10, i00, i01, if_true, if_false, not_true, not_false_eq_true, ne_eq, R_fine1 hs hf, R_here hs hT hp, if_pos g, if_pos g2, R_fine1 hs hf2, at_5, nI_1]
      unfold atM
      rw [u2_u2]
    · rw [if_neg (fun z => g2 z.2)]
      refine ⟨fun q hq => ?_, fun q hq => (by cases hq)⟩
      cases hq
      simp (disch := omega) only [F_X12_need, rP hs, rI hs, rT hs, e_cl, e_jn, e_lt, e_rz0, e_rz1, e_u2s, e_u2k, e_u2a, R_within, i10, i00, i01, if_true, if_false, not_true, not_false_eq_true, ne_eq, R_fine1 hs hf, R_here hs hT hp, if_pos g, if_neg g2, at_5, R_wrong hs hf2, R_fine0 hs hb]
      rfl
  · rw [if_neg (fun z => g z.1)]
    refine ⟨fun q hq => ?_, fun q hq => (by cases hq)⟩
    cases hq
    simp (disch := omega) only [F_X12_need, rP hs, rI hs, rT hs, e_cl, e_jn, e_lt, e_rz0, e_rz1, e_u2s, e_u2k, e_u2a, R_within, i10, i00, i01, if_true, if_false, not_true, not_false_eq_true, ne_eq, R_fine1 hs hf, R_here hs hT hp, if_neg g, if_neg (Ne.symm hc), at_5, R_wrong hs hf2, R_fine0 hs hb]
    rfl
/-- a layer of the text: where it is wrong, or wide, deep, left, front, and the place behind -/
def player (tb : Nat → Int32) (n p : Nat) : Nat ⊕ (Nat × Nat × Nat × Nat × Nat) := match pdig tb n 1 6 p with
  | .inl q => .inl q
  | .inr (w, p1) => match psgn tb n 120 p1 with
    | .inl q => .inl q
    | .inr p2 => match pdig tb n 1 6 p2 with
      | .inl q => .inl q
      | .inr (d, p3) => match psgn tb n 64 p3 with
        | .inl q => .inl q
        | .inr p4 => match pdig tb n 0 (6 - w) p4 with
          | .inl q => .inl q
          | .inr (x, p5) => match psgn tb n 44 p5 with
            | .inl q => .inl q
            | .inr p6 => match pdig tb n 0 (6 - d) p6 with
              | .inl q => .inl q
              | .inr (y, p7) => .inr (w, d, x, y, p7)
theorem pdig_in {tb : Nat → Int32} {n lo hi p d q : Nat} (hp : p ≤ n) (hlo : lo < 2 ^ 31) (hhi : hi < 2 ^ 31) (h : pdig tb n lo hi p = .inr (d, q)) : lo ≤ d ∧ d ≤ hi ∧ p < q ∧ q ≤ n := by
  have hk := skip_le (tb := tb) hp
  unfold pdig at h
  by_cases c : skip tb n p < n ∧ ¬ (tb (skip tb n p) - 48 < nI lo ∨ nI hi < tb (skip tb n p) - 48)
  · rw [if_pos c] at h
    cases h
    obtain ⟨d, h1, h2, h3⟩ := w_of c.2 hlo hhi
    rw [h3, nI_toInt (by omega)]
    omega
  · rw [if_neg c] at h; cases h
theorem psgn_in {tb : Nat → Int32} {n p q : Nat} {c : Int32} (hp : p ≤ n) (h : psgn tb n c p = .inr q) : p < q ∧ q ≤ n := by
  have hk := skip_le (tb := tb) hp
  unfold psgn at h
  by_cases g : skip tb n p < n ∧ tb (skip tb n p) = c
  · rw [if_pos g] at h; cases h; omega
  · rw [if_neg g] at h; cases h
theorem pdig_no {tb : Nat → Int32} {n lo hi p q : Nat} (hp : p ≤ n) (h : pdig tb n lo hi p = .inl q) : p ≤ q ∧ q ≤ n := by
  have hk := skip_le (tb := tb) hp
  unfold pdig at h
  split at h
  · cases h
  · cases h; exact hk
theorem psgn_no {tb : Nat → Int32} {n p q : Nat} {c : Int32} (hp : p ≤ n) (h : psgn tb n c p = .inl q) : p ≤ q ∧ q ≤ n := by
  have hk := skip_le (tb := tb) hp
  unfold psgn at h
  split at h
  · cases h
  · cases h; exact hk
end REF5
