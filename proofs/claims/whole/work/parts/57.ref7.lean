/-! ===== the reference: model ===== -/
abbrev Lay : Type := Nat × Nat × Nat × Nat
def ptr (tb : Nat → Int32) (n : Nat) : Nat → Nat → Nat ⊕ List Lay
  | 0, p => if n ≤ skip tb n p then .inr [] else .inl (skip tb n p)
  | f + 1, p => if n ≤ skip tb n p then .inr [] else if tb (skip tb n p) = 59 then (match player tb n (skip tb n p + 1) with
      | .inl q => .inl q
      | .inr (w, d, x, y, p2) => match ptr tb n f p2 with
        | .inl q => .inl q
        | .inr l => .inr ((w, d, x, y) :: l)) else .inl (skip tb n p)
def ptext (tb : Nat → Int32) (n : Nat) : Nat ⊕ List Lay := match player tb n 0 with
  | .inl q => .inl q
  | .inr (w, d, x, y, p2) => match ptr tb n 5 p2 with
    | .inl q => .inl q
    | .inr l => .inr ((w, d, x, y) :: l)
def okLay (a : Lay) : Prop := (1 ≤ a.1 ∧ a.1 ≤ 6) ∧ (1 ≤ a.2.1 ∧ a.2.1 ≤ 6) ∧ a.2.2.1 + a.1 ≤ 6 ∧ a.2.2.2 + a.2.1 ≤ 6
def tot : List Lay → Nat
  | [] => 0
  | a :: l => a.2.1 * a.1 + tot l
theorem tot_le : ∀ (l : List Lay), (∀ a ∈ l, okLay a) → tot l ≤ 36 * l.length
  | [], _ => Nat.le_refl 0
  | a :: l, h => by
    have h1 := h a List.mem_cons_self
    have h2 := tot_le l (fun b hb => h b (List.mem_cons_of_mem _ hb))
    have h3 : a.2.1 * a.1 ≤ 6 * 6 := Nat.mul_le_mul h1.2.1.2 h1.1.2
    show a.2.1 * a.1 + tot l ≤ 36 * (l.length + 1)
    omega
def Cells (m : IM) (q : Nat) : Nat → Nat → List Lay → Prop
  | _, _, [] => True
  | z, o, a :: l => (∀ t, t < a.2.1 * a.1 → m 205 (216 * q + o + t) = nI (a.2.2.1 + t % a.1) ∧ m 206 (216 * q + o + t) = nI (a.2.2.2 + t / a.1) ∧ m 207 (216 * q + o + t) = nI z) ∧ Cells m q (z + 1) (o + a.2.1 * a.1) l
theorem Cells_cg {m m' : IM} {q : Nat} : ∀ (l : List Lay) (z o : Nat), (∀ b i, (b = 205 ∨ b = 206 ∨ b = 207) → 216 * q + o ≤ i → i < 216 * q + o + tot l → m' b i = m b i) → Cells m q z o l → Cells m' q z o l
  | [], _, _, _, _ => trivial
  | a :: l, z, o, h, hc => by
    refine ⟨fun t ht => ?_, Cells_cg l (z + 1) (o + a.2.1 * a.1) (fun b i hb h1 h2 => h b i hb (by omega) (by show i < 216 * q + o + (a.2.1 * a.1 + tot l); omega)) hc.2⟩
    have hb : 216 * q + o + t < 216 * q + o + tot (a :: l) := by show _ < 216 * q + o + (a.2.1 * a.1 + tot l); omega
    rw [h 205 _ (by omega) (by omega) hb, h 206 _ (by omega) (by omega) hb, h 207 _ (by omega) (by omega) hb]
    exact hc.1 t ht
/-- all else of the memory stands as the text of the model q is read -/
def MFr (m m' : IM) (q o : Nat) : Prop := (∀ b, b ∉ [203, 204, 205, 206, 207] → b ≠ 200 → m' b = m b) ∧ (∀ k, k ≠ 5 → k ≠ 6 → m' 200 k = m 200 k) ∧ (∀ i, i ≠ q → m' 203 i = m 203 i ∧ m' 204 i = m 204 i) ∧ ∀ b i, (b = 205 ∨ b = 206 ∨ b = 207) → i < 216 * q + o → m' b i = m b i
theorem MFr.rf (m : IM) (q o : Nat) : MFr m m q o := ⟨fun _ _ _ => rfl, fun _ _ _ => rfl, fun _ _ => ⟨rfl, rfl⟩, fun _ _ _ _ => rfl⟩
theorem MFr.tr {m1 m2 m3 : IM} {q o o2 : Nat} (h : MFr m1 m2 q o) (g : MFr m2 m3 q o2) (ho : o ≤ o2) : MFr m1 m3 q o :=
  ⟨fun b h1 h2 => (g.1 b h1 h2).trans (h.1 b h1 h2), fun k h1 h2 => (g.2.1 k h1 h2).trans (h.2.1 k h1 h2), fun i hi => ⟨(g.2.2.1 i hi).1.trans (h.2.2.1 i hi).1, (g.2.2.1 i hi).2.trans (h.2.2.1 i hi).2⟩, fun b i hb hi => (g.2.2.2 b i hb (by omega)).trans (h.2.2.2 b i hb hi)⟩
theorem MFr_at {m : IM} {q o p : Nat} : MFr m (atM m p) q o := ⟨fun b _ h2 => e_u2r h2, fun k h1 _ => e_u2k h1, fun i _ => ⟨e_u2a (by decide), e_u2a (by decide)⟩, fun b i hb _ => e_u2a (by omega)⟩
theorem CWr_MFr {m m1 : IM} {q o c z : Nat} {v : Int32} {f g : Nat → Nat} (h : CWr m m1 q o c f g z) : MFr m (u2 m1 204 q v) q o := by
  obtain ⟨a1, a2, a3, a4, a5⟩ := h
  have h200 := a3 200 (by decide) (by decide) (by decide) (by decide)
  refine ⟨fun b h1 h2 => ?_, fun k _ _ => ?_, fun i hi => ⟨?_, ?_⟩, fun b i hb hi => ?_⟩
  · simp only [List.mem_cons, List.not_mem_nil, or_false, not_or] at h1
    rw [e_u2r h1.2.1, a3 b h1.1 h1.2.2.1 h1.2.2.2.1 h1.2.2.2.2]
  · rw [e_u2a (by decide), h200]
  · rw [e_u2a (by decide), a4 i hi]
  · rw [e_u2k hi, a3 204 (by decide) (by decide) (by decide) (by decide)]
  · rw [e_u2a (by omega), a5 b i hb (Or.inl hi)]
section REF7
variable {m : IM} {j : JM} {u : SU}
theorem R_isMore (hs : RS u) {n p : Nat} {tb : Nat → Int32} (hT : TX m n tb) (hp : p ≤ n) : F_X12_isMore 200 (pm (atM m p) j u) = some (if skip tb n p < n then 1 else 0, pm (atM m (skip tb n p)) j u) := by
  have hk := skip_le (tb := tb) hp
  have hn := hT.1
  have h4 : atM m (skip tb n p) 200 4 = nI n := (TX_at hT).2.1
  by_cases c : skip tb n p < n
  · simp (disch := omega) only [F_X12_isMore, rP hs, rI hs, rT hs, e_cl, e_jn, e_lt, e_rz0, e_rz1, e_u2s, e_u2k, e_u2a, R_within, i10, i00, i01, if_true, if_false, not_true, not_false_eq_true, ne_eq, R_here hs hT hp, at_5, h4, if_neg (nI_ge c (show n < 2 ^ 31 by omega)), if_pos c]
  · simp (disch := omega) only [F_X12_isMore, rP hs, rI hs, rT hs, e_cl, e_jn, e_lt, e_rz0, e_rz1, e_u2s, e_u2k, e_u2a, R_within, i10, i00, i01, if_true, if_false, not_true, not_false_eq_true, ne_eq, R_here hs hT hp, at_5, h4, if_pos (show nI n ≤ nI (skip tb n p) from nI_le (by omega) (by omega)), if_neg c]
theorem skp_stop (tb : Nat → Int32) : ∀ d p, skp tb d p = p + d ∨ tb (skp tb d p) ≠ 32
  | 0, p => Or.inl rfl
  | d + 1, p => by
    by_cases c : tb p = 32
    · have e : skp tb (d + 1) p = skp tb d (p + 1) := by rw [skp, if_pos c]
      rw [e]
      rcases skp_stop tb d (p + 1) with h | h
      · left; omega
      · exact Or.inr h
    · have e : skp tb (d + 1) p = p := by rw [skp, if_neg c]
      rw [e]
      exact Or.inr c
theorem skip_skip {tb : Nat → Int32} {n p : Nat} (hp : p ≤ n) : skip tb n (skip tb n p) = skip tb n p := by
  have hk := skip_le (tb := tb) hp
  rcases skp_stop tb (n - p) p with h | h
  · exact skip_end (by show n ≤ skp tb (n - p) p; omega)
  · have h : tb (skip tb n p) ≠ 32 := h
    generalize skip tb n p = q at hk h
    unfold skip
    rcases hd : n - q with _ | d
    · rfl
    · rw [skp, if_neg h]
theorem R_modL (hs : RS u) {n q : Nat} {tb : Nat → Int32} (hq : q ≤ 6) (k : PM → Option (Int32 × PM)) : ∀ (f p fu o : Nat) (m : IM), TX m n tb → p ≤ n → f + 2 < fu → f ≤ 5 → m 200 7 = nI q → m 203 q = nI o → m 204 q = nI (6 - f) → o ≤ 36 * (6 - f) →
    (∀ pl, ptr tb n f p = .inl pl → ∃ m', F_X12_model_L98 200 k fu (pm (atM m p) j u) = k (pm (badM m' pl) j u) ∧ MFr m m' q o ∧ pl ≤ n) ∧
    (∀ l, ptr tb n f p = .inr l → ∃ m' p2, F_X12_model_L98 200 k fu (pm (atM m p) j u) = k (pm (atM m' p2) j u) ∧ MFr m m' q o ∧ Cells m' q (6 - f) o l ∧ m' 203 q = nI (o + tot l) ∧ m' 204 q = nI (6 - f + l.length) ∧ l.length ≤ f ∧ (∀ a ∈ l, okLay a) ∧ m' 200 6 = -1) := by
  intro f
  induction f with
  | zero =>
    intro p fu o m hT hp hfu hf h7 h3 h4 ho
    obtain ⟨fu, rfl⟩ : ∃ g, fu = g + 1 := ⟨fu - 1, by omega⟩
    obtain ⟨fu, rfl⟩ : ∃ g, fu = g + 1 := ⟨fu - 1, by omega⟩
    have hn := hT.1
    have hk := skip_le (tb := tb) hp
    have hfi := at_f (p := p) hT
    have hfi2 := at_f (p := skip tb n p) hT
    unfold ptr
    by_cases c : n ≤ skip tb n p
    · rw [if_pos c]
      refine ⟨fun pl h => (by cases h), fun l h => ?_⟩
      cases h
      refine ⟨m, skip tb n p, ?_, MFr.rf _ _ _, trivial, h3, h4, Nat.le_refl _, fun a ha => (by cases ha), hT.2.2.1⟩
      rw [F_X12_model_L98]
      simp (disch := omega) only [rP hs, rI hs, rT hs, e_cl, e_jn, e_lt, e_rz0, e_rz1, e_u2s, e_u2k, e_u2a, R_within, i10, i00, i01, if_true, if_false, not_true, not_false_eq_true, ne_eq, R_fine1 hs hfi, R_isMore hs hT hp, if_neg (Nat.not_lt.mpr c)]
    · rw [if_neg c]
      refine ⟨fun pl h => ?_, fun l h => (by cases h)⟩
      cases h
      have h4' : atM m (skip tb n p) 204 q = nI 6 := by unfold atM; rw [e_u2a (by decide)]; exact h4
      have h7' : atM m (skip tb n p) 200 7 = nI q := by unfold atM; rw [e_u2k (by decide)]; exact h7
      have hb : ¬ u2 (atM m (skip tb n p)) 200 6 (nI (skip tb n p)) 200 6 = -1 := bad_ne (m := m) (p := skip tb n p) (by omega)
      refine ⟨m, ?_, MFr.rf _ _ _, hk.2⟩
      rw [F_X12_model_L98]
      simp (disch := omega) only [rP hs, rI hs, rT hs, e_cl, e_jn, e_lt, e_rz0, e_rz1, e_u2s, e_u2k, e_u2a, R_within, i10, i00, i01, if_true, if_false, not_true, not_false_eq_true, ne_eq, R_fine1 hs hfi, R_isMore hs hT hp, if_pos (Nat.not_le.mp c), R_here hs hT hk.2, skip_skip hp]
      by_cases c2 : tb (skip tb n p) = 59
      · rw [if_neg (fun z => z c2)]
        simp (disch := omega) only [rP hs, rI hs, rT hs, e_cl, e_jn, e_lt, e_rz0, e_rz1, e_u2s, e_u2k, e_u2a, R_within, i10, i00, i01, if_true, if_false, not_true, not_false_eq_true, ne_eq, rR_10 hs, rA_204 hs, rS_204 hs, h7', h4', show nI 6 = 6 from rfl, at_5, R_wrong hs hfi2]
        rw [F_X12_model_L98]
        simp (disch := omega) only [rP hs, rI hs, rT hs, e_cl, e_jn, e_lt, e_rz0, e_rz1, e_u2s, e_u2k, e_u2a, R_within, i10, i00, i01, if_true, if_false, not_true, not_false_eq_true, ne_eq, R_fine0 hs hb]
        rfl
      · rw [if_pos c2]
        simp (disch := omega) only [rP hs, rI hs, rT hs, e_cl, e_jn, e_lt, e_rz0, e_rz1, e_u2s, e_u2k, e_u2a, R_within, i10, i00, i01, if_true, if_false, not_true, not_false_eq_true, ne_eq, rR_10 hs, rA_204 hs, rS_204 hs, at_5, R_wrong hs hfi2]
        rw [F_X12_model_L98]
        simp (disch := omega) only [rP hs, rI hs, rT hs, e_cl, e_jn, e_lt, e_rz0, e_rz1, e_u2s, e_u2k, e_u2a, R_within, i10, i00, i01, if_true, if_false, not_true, not_false_eq_true, ne_eq, R_fine0 hs hb]
        rfl
  | succ f ih =>
    intro p fu o m hT hp hfu hf h7 h3 h4 ho
    obtain ⟨fu, rfl⟩ : ∃ g, fu = g + 1 := ⟨fu - 1, by omega⟩
    have hn := hT.1
    have hk := skip_le (tb := tb) hp
    have hfi := at_f (p := p) hT
    have hfi2 := at_f (p := skip tb n p) hT
    unfold ptr
    by_cases c : n ≤ skip tb n p
    · rw [if_pos c]
      refine ⟨fun pl h => (by cases h), fun l h => ?_⟩
      cases h
      refine ⟨m, skip tb n p, ?_, MFr.rf _ _ _, trivial, h3, h4, Nat.zero_le _, fun a ha => (by cases ha), hT.2.2.1⟩
      rw [F_X12_model_L98]
      simp (disch := omega) only [rP hs, rI hs, rT hs, e_cl, e_jn, e_lt, e_rz0, e_rz1, e_u2s, e_u2k, e_u2a, R_within, i10, i00, i01, if_true, if_false, not_true, not_false_eq_true, ne_eq, R_fine1 hs hfi, R_isMore hs hT hp, if_neg (Nat.not_lt.mpr c)]
    · rw [if_neg c]
      have h4' : atM m (skip tb n p) 204 q = nI (6 - (f + 1)) := by unfold atM; rw [e_u2a (by decide)]; exact h4
      have h7' : atM m (skip tb n p) 200 7 = nI q := by unfold atM; rw [e_u2k (by decide)]; exact h7
      have hb : ¬ u2 (atM m (skip tb n p)) 200 6 (nI (skip tb n p)) 200 6 = -1 := bad_ne (m := m) (p := skip tb n p) (by omega)
      have n6 : ¬ nI (6 - (f + 1)) = 6 := fun z => by have := (nI_eq (b := 6) (by omega) (by decide)).mp z; omega
      have l1 : F_X12_model_L98 200 k (fu + 1) (pm (atM m p) j u) = (if tb (skip tb n p) = 59 then cl (F_X12_layer 200 (pm (atM m (skip tb n p + 1)) j u)) fun r57 h58 => F_X12_model_L98 200 k fu h58 else F_X12_model_L98 200 k fu (pm (badM m (skip tb n p)) j u)) := by
        rw [F_X12_model_L98]
        simp (disch := omega) only [rP hs, rI hs, rT hs, e_cl, e_jn, e_lt, e_rz0, e_rz1, e_u2s, e_u2k, e_u2a, R_within, i10, i00, i01, if_true, if_false, not_true, not_false_eq_true, ne_eq, R_fine1 hs hfi, R_isMore hs hT hp, if_pos (Nat.not_le.mp c), R_here hs hT hk.2, skip_skip hp]
        by_cases c2 : tb (skip tb n p) = 59
        · rw [if_neg (fun z => z c2), if_pos c2]
          simp (disch := omega) only [rP hs, rI hs, rT hs, e_cl, e_jn, e_lt, e_rz0, e_rz1, e_u2s, e_u2k, e_u2a, R_within, i10, i00, i01, if_true, if_false, not_true, not_false_eq_true, ne_eq, rR_10 hs, rA_204 hs, rS_204 hs, h7', h4', n6, at_5, nI_1]
          unfold atM
          rw [u2_u2]
        · rw [if_pos c2, if_neg c2]
          simp (disch := omega) only [rP hs, rI hs, rT hs, e_cl, e_jn, e_lt, e_rz0, e_rz1, e_u2s, e_u2k, e_u2a, R_within, i10, i00, i01, if_true, if_false, not_true, not_false_eq_true, ne_eq, rR_10 hs, rA_204 hs, rS_204 hs, at_5, R_wrong hs hfi2]
          rfl
      rw [l1]
      by_cases c2 : tb (skip tb n p) = 59
      · rw [if_pos c2]
        simp only [if_pos c2]
        rcases hpl : player tb n (skip tb n p + 1) with q1 | ⟨w, d, x, y, p2⟩
        · dsimp only
          refine ⟨fun pl h => ?_, fun l h => (by cases h)⟩
          cases h
          obtain ⟨g1, g2, g3⟩ := R_layer0 (j := j) hs hT (by omega) hpl
          obtain ⟨fu, rfl⟩ : ∃ g, fu = g + 1 := ⟨fu - 1, by omega⟩
          have hb2 := bad_ne (m := m) (p := q1) (by omega)
          refine ⟨m, ?_, MFr.rf _ _ _, g3⟩
          rw [g1, e_cl, F_X12_model_L98]
          simp (disch := omega) only [rP hs, rI hs, rT hs, e_cl, e_jn, e_lt, e_rz0, e_rz1, e_u2s, e_u2k, e_u2a, R_within, i10, i00, i01, if_true, if_false, not_true, not_false_eq_true, ne_eq, R_fine0 hs hb2]
        · dsimp only
          obtain ⟨⟨m1, g1, g2⟩, gw, gd, gx, gy, gp, gn⟩ := R_layer1 (j := j) hs hT (show skip tb n p + 1 ≤ n by omega) hq h7 h3 h4 (by omega) hpl
          have hdw : d * w ≤ 36 := Nat.mul_le_mul gd.2 gw.2
          have fr1 := CWr_MFr (v := nI (6 - (f + 1) + 1)) g2
          have eT : TX (u2 m1 204 q (nI (6 - (f + 1) + 1))) n tb := by
            refine ⟨hT.1, ?_, ?_, fun i hi => ?_⟩
            · rw [fr1.2.1 4 (by decide) (by decide)]; exact hT.2.1
            · rw [e_u2a (by decide), g2.2.2.1 200 (by decide) (by decide) (by decide) (by decide)]; exact hT.2.2.1
            · rw [fr1.1 202 (by decide) (by decide)]; exact hT.2.2.2 i hi
          have ih' := ih p2 fu (o + d * w) _ eT gn (by omega) (by omega) (by rw [fr1.2.1 7 (by decide) (by decide)]; exact h7) (by rw [e_u2a (by decide)]; exact g2.1) (by rw [e_u2s]; congr 1; omega) (by omega)
          rw [g1, e_cl]
          rcases hr : ptr tb n f p2 with q1 | l
          · dsimp only
            refine ⟨fun pl h => ?_, fun l h => (by cases h)⟩
            cases h
            obtain ⟨m', f1, f2, f3⟩ := ih'.1 _ hr
            exact ⟨m', f1, fr1.tr f2 (by omega), f3⟩
          · dsimp only
            refine ⟨fun pl h => (by cases h), fun l' h => ?_⟩
            cases h
            obtain ⟨m', p3, f1, f2, f3, f4, f5, f6, f7, f8⟩ := ih'.2 _ hr
            refine ⟨m', p3, f1, fr1.tr f2 (by omega), ⟨fun t ht => ?_, ?_⟩, ?_, ?_, ?_, ?_, f8⟩
            · have ht : t < d * w := ht
              rw [f2.2.2.2 205 _ (by omega) (by omega), f2.2.2.2 206 _ (by omega) (by omega), f2.2.2.2 207 _ (by omega) (by omega), e_u2a (by decide), e_u2a (by decide), e_u2a (by decide)]
              exact g2.2.1 t ht
            · rw [show 6 - (f + 1) + 1 = 6 - f by omega]; exact f3
            · rw [f4]; congr 1; show o + d * w + tot l = o + (d * w + tot l); omega
            · rw [f5]; congr 1; show 6 - f + l.length = 6 - (f + 1) + (l.length + 1); omega
            · show l.length + 1 ≤ f + 1; omega
            · intro a ha
              rcases List.mem_cons.mp ha with e | e
              · rw [e]; exact ⟨gw, gd, gx, gy⟩
              · exact f7 a e
      · rw [if_neg c2]
        simp only [if_neg c2]
        refine ⟨fun pl h => ?_, fun l h => (by cases h)⟩
        cases h
        obtain ⟨fu, rfl⟩ : ∃ g, fu = g + 1 := ⟨fu - 1, by omega⟩
        refine ⟨m, ?_, MFr.rf _ _ _, hk.2⟩
        rw [F_X12_model_L98]
        simp (disch := omega) only [rP hs, rI hs, rT hs, e_cl, e_jn, e_lt, e_rz0, e_rz1, e_u2s, e_u2k, e_u2a, R_within, i10, i00, i01, if_true, if_false, not_true, not_false_eq_true, ne_eq, R_fine0 hs (bad_ne (m := m) (p := skip tb n p) (show skip tb n p < 2 ^ 31 by omega))]
end REF7
