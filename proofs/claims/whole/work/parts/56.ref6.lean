/-! ===== the reference: a layer, a model ===== -/
section REF6
variable {m : IM} {j : JM} {u : SU}
/-- cells o .. o+n of the model q are written -/
def CWr (m m' : IM) (q o n : Nat) (fX fY : Nat → Nat) (z : Nat) : Prop :=
  m' 203 q = nI (o + n) ∧ (∀ t, t < n → m' 205 (216 * q + o + t) = nI (fX t) ∧ m' 206 (216 * q + o + t) = nI (fY t) ∧ m' 207 (216 * q + o + t) = nI z) ∧ (∀ b, b ≠ 203 → b ≠ 205 → b ≠ 206 → b ≠ 207 → m' b = m b) ∧ (∀ i, i ≠ q → m' 203 i = m 203 i) ∧
  (∀ b i, (b = 205 ∨ b = 206 ∨ b = 207) → (i < 216 * q + o ∨ 216 * q + o + n ≤ i) → m' b i = m b i)
theorem CWr.cg {m m' : IM} {q o n n2 : Nat} {fX fY gX gY : Nat → Nat} {z : Nat} (h : CWr m m' q o n fX fY z) (hn : n = n2) (h1 : ∀ t, t < n → fX t = gX t) (h2 : ∀ t, t < n → fY t = gY t) : CWr m m' q o n2 gX gY z := by
  subst hn
  exact ⟨h.1, fun t ht => by rw [← h1 t ht, ← h2 t ht]; exact h.2.1 t ht, h.2.2⟩
theorem CWr.app {m m1 m2 : IM} {q o n1 n2 : Nat} {f1 g1 f2 g2 f g : Nat → Nat} {z : Nat} (h : CWr m m1 q o n1 f1 g1 z) (h' : CWr m1 m2 q (o + n1) n2 f2 g2 z) (e1 : ∀ t, t < n1 → f t = f1 t) (e2 : ∀ t, t < n1 → g t = g1 t) (e3 : ∀ t, t < n2 → f (n1 + t) = f2 t) (e4 : ∀ t, t < n2 → g (n1 + t) = g2 t) : CWr m m2 q o (n1 + n2) f g z := by
  obtain ⟨a1, a2, a3, a4, a5⟩ := h
  obtain ⟨b1, b2, b3, b4, b5⟩ := h'
  refine ⟨by rw [b1, Nat.add_assoc], fun t ht => ?_, fun b h1 h2 h3 h4 => by rw [b3 b h1 h2 h3 h4, a3 b h1 h2 h3 h4], fun i hi => by rw [b4 i hi, a4 i hi], fun b i hb hi => by rw [b5 b i hb (by omega), a5 b i hb (by omega)]⟩
  by_cases c : t < n1
  · rw [b5 205 _ (by omega) (by omega), b5 206 _ (by omega) (by omega), b5 207 _ (by omega) (by omega), e1 t c, e2 t c]
    exact a2 t c
  · obtain ⟨s, rfl⟩ : ∃ s, t = n1 + s := ⟨t - n1, by omega⟩
    have := b2 s (by omega)
    rw [show 216 * q + (o + n1) + s = 216 * q + o + (n1 + s) by omega] at this
    rw [e3 s (by omega), e4 s (by omega)]
    exact this
theorem CWr.nil {m : IM} {q o : Nat} {f g : Nat → Nat} {z : Nat} (h : m 203 q = nI o) : CWr m m q o 0 f g z := ⟨h, fun t ht => by omega, fun _ _ _ _ _ => rfl, fun _ _ => rfl, fun _ _ _ _ => rfl⟩
theorem CWr.one {m : IM} {q o a b z : Nat} : CWr m (u2 (u2 (u2 (u2 m 205 (216 * q + o) (nI a)) 206 (216 * q + o) (nI b)) 207 (216 * q + o) (nI z)) 203 q (nI (o + 1))) q o 1 (fun _ => a) (fun _ => b) z := by
  refine ⟨e_u2s, fun t ht => ?_, fun c h1 h2 h3 h4 => ?_, fun i hi => ?_, fun c i hc hi => ?_⟩
  · have : t = 0 := by omega
    subst this
    simp (disch := omega) only [Nat.add_zero, e_u2a, e_u2s]
    exact ⟨trivial, trivial, trivial⟩
  · rw [e_u2r h1, e_u2r h4, e_u2r h3, e_u2r h2]
  · simp (disch := omega) only [e_u2k, e_u2a]
  · rcases hc with rfl | rfl | rfl <;> simp (disch := omega) only [e_u2a, e_u2k]
theorem R_layIn (hs : RS u) {q w d x y b z : Nat} (hq : q ≤ 6) (hw : w ≤ 6) (hx : x ≤ 6) (k : PM → Option (Unit × PM)) : ∀ (e a o fu : Nat) (m : IM), a + e = w → e < fu → m 200 7 = nI q → m 203 q = nI o → m 204 q = nI z → o + e ≤ 216 →
    ∃ m', F_X12_layer_L103 200 (nI w) (nI d) (nI x) (nI y) (nI b) k fu (nI (x + a)) (pm m j u) = k (pm m' j u) ∧ CWr m m' q o e (fun t => x + a + t) (fun _ => b) z := by
  intro e
  induction e with
  | zero =>
    intro a o fu m ha hfu h7 h3 h4 ho
    obtain ⟨fu, rfl⟩ : ∃ g, fu = g + 1 := ⟨fu - 1, by omega⟩
    refine ⟨m, ?_, CWr.nil h3⟩
    rw [F_X12_layer_L103, nI_add, if_pos (nI_le (by omega) (by omega))]
  | succ e ih =>
    intro a o fu m ha hfu h7 h3 h4 ho
    obtain ⟨fu, rfl⟩ : ∃ g, fu = g + 1 := ⟨fu - 1, by omega⟩
    have n1 : ¬ nI (x + w) ≤ nI (x + a) := nI_ge (by omega) (by omega)
    have ek : 216 * nI q + nI o = nI (216 * q + o) := by rw [show (216 : Int32) = nI 216 from rfl, pk_mul, nI_add]
    have w1 := CWr.one (m := m) (q := q) (o := o) (a := x + a) (b := b) (z := z)
    obtain ⟨m', f1, f2⟩ := ih (a + 1) (o + 1) fu _ (by omega) (by omega) (by rw [w1.2.2.1 200 (by decide) (by decide) (by decide) (by decide)]; exact h7) e_u2s (by rw [w1.2.2.1 204 (by decide) (by decide) (by decide) (by decide)]; exact h4) (by omega)
    refine ⟨m', ?_, (w1.app f2 (f := fun t => x + a + t) (g := fun _ => b) (fun t ht => ?_) (fun t ht => rfl) (fun t ht => ?_) (fun t ht => rfl)).cg (by omega) (fun _ _ => rfl) (fun _ _ => rfl)⟩
    · rw [← f1, F_X12_layer_L103, nI_add, if_neg n1]
      simp (disch := omega) only [rP hs, rI hs, rT hs, e_cl, e_jn, e_lt, e_rz0, e_rz1, e_u2s, e_u2k, e_u2a, R_within, i10, i00, i01, if_true, if_false, not_true, not_false_eq_true, ne_eq, rR_9 hs, rA_203 hs, rS_203 hs, rR_10 hs, rA_204 hs, rS_204 hs, rR_11 hs, rA_205 hs, rS_205 hs, rR_12 hs, rA_206 hs, rS_206 hs, rR_13 hs, rA_207 hs, rS_207 hs, h7, h3, h4, ek, nI_1, Nat.add_assoc]
    · show x + a + t = x + a; omega
    · show x + a + (1 + t) = x + (a + 1) + t; omega
theorem R_layOut (hs : RS u) {q w d x y z : Nat} (hq : q ≤ 6) (hw : w ≤ 6) (hd : d ≤ 6) (hx : x ≤ 6) (hy : y ≤ 6) (h1 : 1 ≤ w) (k : PM → Option (Unit × PM)) : ∀ (e b o fu : Nat) (m : IM), b + e = d → e < fu → m 200 7 = nI q → m 203 q = nI o → m 204 q = nI z → o + e * w ≤ 216 →
    ∃ m', F_X12_layer_L91 200 (nI w) (nI d) (nI x) (nI y) k fu (nI (y + b)) (pm m j u) = k (pm m' j u) ∧ CWr m m' q o (e * w) (fun t => x + t % w) (fun t => y + b + t / w) z := by
  intro e
  induction e with
  | zero =>
    intro b o fu m ha hfu h7 h3 h4 ho
    obtain ⟨fu, rfl⟩ : ∃ g, fu = g + 1 := ⟨fu - 1, by omega⟩
    refine ⟨m, ?_, (CWr.nil (f := fun _ => 0) (g := fun _ => 0) h3).cg (by omega) (fun _ ht => by omega) (fun _ ht => by omega)⟩
    rw [F_X12_layer_L91, nI_add, if_pos (nI_le (by omega) (by omega))]
  | succ e ih =>
    intro b o fu m ha hfu h7 h3 h4 ho
    obtain ⟨fu, rfl⟩ : ∃ g, fu = g + 1 := ⟨fu - 1, by omega⟩
    have n1 : ¬ nI (y + d) ≤ nI (y + b) := nI_ge (by omega) (by omega)
    have hm : (e + 1) * w = w + e * w := by rw [Nat.succ_mul, Nat.add_comm]
    obtain ⟨m1, g1, g2⟩ := R_layIn (j := j) (d := d) (y := y) (b := y + b) hs hq hw hx (fun h40 => F_X12_layer_L91 200 (nI w) (nI d) (nI x) (nI y) k fu (nI (y + b) + 1) h40) w 0 o LF m (by omega) (by unfold LF; omega) h7 h3 h4 (by omega)
    obtain ⟨m', f1, f2⟩ := ih (b + 1) (o + w) fu m1 (by omega) (by omega) (by rw [g2.2.2.1 200 (by decide) (by decide) (by decide) (by decide)]; exact h7) g2.1 (by rw [g2.2.2.1 204 (by decide) (by decide) (by decide) (by decide)]; exact h4) (by omega)
    refine ⟨m', ?_, (g2.app f2 (f := fun t => x + t % w) (g := fun t => y + b + t / w) (fun t ht => ?_) (fun t ht => ?_) (fun t ht => ?_) (fun t ht => ?_)).cg (by omega) (fun _ _ => rfl) (fun _ _ => rfl)⟩
    · rw [F_X12_layer_L91, nI_add, if_neg n1, e_jn]
      rw [Nat.add_zero] at g1
      rw [g1, nI_1]
      exact f1
    · show x + t % w = x + 0 + t; rw [Nat.mod_eq_of_lt ht, Nat.add_zero]
    · show y + b + t / w = y + b; rw [Nat.div_eq_of_lt ht, Nat.add_zero]
    · show x + (w + t) % w = x + t % w; rw [Nat.add_mod_left]
    · show y + b + (w + t) / w = y + (b + 1) + t / w; rw [Nat.add_div_left _ (by omega)]; omega
theorem lim6 {β : Type} (f : Int32 → β) {w : Nat} (h1 : 1 ≤ w) (h2 : w ≤ 6) : (if (5 : Int32) ≤ 6 - nI w then f 5 else f (6 - nI w)) = f (nI (6 - w)) := by
  rcases (show w = 1 ∨ w = 2 ∨ w = 3 ∨ w = 4 ∨ w = 5 ∨ w = 6 by omega) with rfl | rfl | rfl | rfl | rfl | rfl
  · rw [if_pos (by decide)]; rfl
  · rw [if_neg (by decide)]; rfl
  · rw [if_neg (by decide)]; rfl
  · rw [if_neg (by decide)]; rfl
  · rw [if_neg (by decide)]; rfl
  · rw [if_neg (by decide)]; rfl
theorem R_layer0 (hs : RS u) {n p p' : Nat} {tb : Nat → Int32} (hT : TX m n tb) (hp : p ≤ n) (h : player tb n p = .inl p') : F_X12_layer 200 (pm (atM m p) j u) = some ((), pm (badM m p') j u) ∧ p ≤ p' ∧ p' ≤ n := by
  have hn := hT.1
  have bd : ∀ q, q ≤ n → (∀ lo hi, F_X12_digit 200 lo hi (pm (badM m q) j u) = some (0, pm (badM m q) j u)) ∧ (∀ c, F_X12_need 200 c (pm (badM m q) j u) = some ((), pm (badM m q) j u)) ∧ F_X12_fine 200 (pm (badM m q) j u) = some (0, pm (badM m q) j u) := fun q hq => by
    have hb := bad_ne (m := m) (p := q) (by omega)
    exact ⟨fun _ _ => R_digit0 hs hb, fun _ => R_need0 hs hb, R_fine0 hs hb⟩
  have D16 : ∀ p, p ≤ n → (∀ q, pdig tb n 1 6 p = .inl q → ∃ v, F_X12_digit 200 1 6 (pm (atM m p) j u) = some (v, pm (badM m q) j u)) ∧ (∀ d q, pdig tb n 1 6 p = .inr (d, q) → F_X12_digit 200 1 6 (pm (atM m p) j u) = some (nI d, pm (atM m q) j u)) := fun p hp => R_digit (lo := 1) (hi := 6) hs hT hp (by decide) (by decide)
  unfold player at h
  rcases h1 : pdig tb n 1 6 p with q | ⟨w, p1⟩
  · rw [h1] at h
    cases h
    obtain ⟨v, hv⟩ := (D16 p hp).1 _ h1
    have hq := pdig_no hp h1
    obtain ⟨b1, b2, b3⟩ := bd p' hq.2
    exact ⟨by simp (disch := omega) only [F_X12_layer, rP hs, rI hs, rT hs, e_cl, e_jn, e_lt, e_rz0, e_rz1, e_u2s, e_u2k, e_u2a, R_within, i10, i00, i01, if_true, if_false, not_true, not_false_eq_true, ne_eq, hv, b1, b2, b3, ite_self], hq⟩
  · rw [h1] at h
    have a1 := pdig_in hp (by decide) (by decide) h1
    have e1 := (D16 p hp).2 _ _ h1
    rcases h2 : psgn tb n 120 p1 with q | p2
    · simp only [h2] at h
      cases h
      have hq := psgn_no a1.2.2.2 h2
      obtain ⟨b1, b2, b3⟩ := bd p' hq.2
      exact ⟨by simp (disch := omega) only [F_X12_layer, rP hs, rI hs, rT hs, e_cl, e_jn, e_lt, e_rz0, e_rz1, e_u2s, e_u2k, e_u2a, R_within, i10, i00, i01, if_true, if_false, not_true, not_false_eq_true, ne_eq, e1, (R_need hs hT a1.2.2.2 (show (120 : Int32) ≠ 0 by decide)).1 _ h2, b1, b2, b3, ite_self], by omega, hq.2⟩
    · simp only [h2] at h
      have a2 := psgn_in a1.2.2.2 h2
      have e2 := (R_need (j := j) hs hT a1.2.2.2 (show (120 : Int32) ≠ 0 by decide)).2 _ h2
      rcases h3 : pdig tb n 1 6 p2 with q | ⟨d, p3⟩
      · simp only [h3] at h
        cases h
        obtain ⟨v, hv⟩ := (D16 p2 a2.2).1 _ h3
        have hq := pdig_no a2.2 h3
        obtain ⟨b1, b2, b3⟩ := bd p' hq.2
        exact ⟨by simp (disch := omega) only [F_X12_layer, rP hs, rI hs, rT hs, e_cl, e_jn, e_lt, e_rz0, e_rz1, e_u2s, e_u2k, e_u2a, R_within, i10, i00, i01, if_true, if_false, not_true, not_false_eq_true, ne_eq, e1, e2, hv, b1, b2, b3, ite_self], by omega, hq.2⟩
      · simp only [h3] at h
        have a3 := pdig_in a2.2 (by decide) (by decide) h3
        have e3 := (D16 p2 a2.2).2 _ _ h3
        rcases h4 : psgn tb n 64 p3 with q | p4
        · simp only [h4] at h
          cases h
          have hq := psgn_no a3.2.2.2 h4
          obtain ⟨b1, b2, b3⟩ := bd p' hq.2
          exact ⟨by simp (disch := omega) only [F_X12_layer, rP hs, rI hs, rT hs, e_cl, e_jn, e_lt, e_rz0, e_rz1, e_u2s, e_u2k, e_u2a, R_within, i10, i00, i01, if_true, if_false, not_true, not_false_eq_true, ne_eq, e1, e2, e3, (R_need hs hT a3.2.2.2 (show (64 : Int32) ≠ 0 by decide)).1 _ h4, b1, b2, b3, ite_self], by omega, hq.2⟩
        · simp only [h4] at h
          have a4 := psgn_in a3.2.2.2 h4
          have e4 := (R_need (j := j) hs hT a3.2.2.2 (show (64 : Int32) ≠ 0 by decide)).2 _ h4
          have D5 := R_digit (j := j) (lo := 0) (hi := 6 - w) hs hT a4.2 (by decide) (by omega)
          rcases h5 : pdig tb n 0 (6 - w) p4 with q | ⟨x, p5⟩
          · simp only [h5] at h
            cases h
            obtain ⟨v, hv⟩ := D5.1 _ h5
            rw [show nI 0 = 0 from rfl] at hv
            have hq := pdig_no a4.2 h5
            obtain ⟨b1, b2, b3⟩ := bd p' hq.2
            refine ⟨?_, by omega, hq.2⟩
            simp (disch := omega) only [F_X12_layer, rP hs, rI hs, rT hs, e_cl, e_jn, e_lt, e_rz0, e_rz1, e_u2s, e_u2k, e_u2a, R_within, i10, i00, i01, if_true, if_false, not_true, not_false_eq_true, ne_eq, e1, e2, e3, e4, b1, b2, b3, ite_self]
            rw [lim6 (fun z => cl (F_X12_digit 200 0 z (pm (atM m p4) j u)) _) a1.1 a1.2.1, hv]
            simp (disch := omega) only [rP hs, rI hs, rT hs, e_cl, e_jn, e_lt, e_rz0, e_rz1, e_u2s, e_u2k, e_u2a, R_within, i10, i00, i01, if_true, if_false, not_true, not_false_eq_true, ne_eq, b1, b2, b3, ite_self]
          · simp only [h5] at h
            have a5 := pdig_in a4.2 (by decide) (by omega) h5
            have e5 := D5.2 _ _ h5
            rw [show nI 0 = 0 from rfl] at e5
            have k5 := fun (β : Type) (f : Int32 → PM → Option β) => lim6 (fun z => cl (F_X12_digit 200 0 z (pm (atM m p4) j u)) f) a1.1 a1.2.1
            rcases h6 : psgn tb n 44 p5 with q | p6
            · simp only [h6] at h
              cases h
              have hq := psgn_no a5.2.2.2 h6
              obtain ⟨b1, b2, b3⟩ := bd p' hq.2
              refine ⟨?_, by omega, hq.2⟩
              simp (disch := omega) only [F_X12_layer, rP hs, rI hs, rT hs, e_cl, e_jn, e_lt, e_rz0, e_rz1, e_u2s, e_u2k, e_u2a, R_within, i10, i00, i01, if_true, if_false, not_true, not_false_eq_true, ne_eq, e1, e2, e3, e4]
              rw [k5, e5]
              simp (disch := omega) only [rP hs, rI hs, rT hs, e_cl, e_jn, e_lt, e_rz0, e_rz1, e_u2s, e_u2k, e_u2a, R_within, i10, i00, i01, if_true, if_false, not_true, not_false_eq_true, ne_eq, (R_need hs hT a5.2.2.2 (show (44 : Int32) ≠ 0 by decide)).1 _ h6, b1, b2, b3, ite_self]
            · simp only [h6] at h
              have a6 := psgn_in a5.2.2.2 h6
              have e6 := (R_need (j := j) hs hT a5.2.2.2 (show (44 : Int32) ≠ 0 by decide)).2 _ h6
              have D7 := R_digit (j := j) (lo := 0) (hi := 6 - d) hs hT a6.2 (by decide) (by omega)
              rcases h7 : pdig tb n 0 (6 - d) p6 with q | ⟨y, p7⟩
              · simp only [h7] at h
                cases h
                obtain ⟨v, hv⟩ := D7.1 _ h7
                rw [show nI 0 = 0 from rfl] at hv
                have hq := pdig_no a6.2 h7
                obtain ⟨b1, b2, b3⟩ := bd p' hq.2
                refine ⟨?_, by omega, hq.2⟩
                simp (disch := omega) only [F_X12_layer, rP hs, rI hs, rT hs, e_cl, e_jn, e_lt, e_rz0, e_rz1, e_u2s, e_u2k, e_u2a, R_within, i10, i00, i01, if_true, if_false, not_true, not_false_eq_true, ne_eq, e1, e2, e3, e4]
                rw [k5, e5]
                simp (disch := omega) only [rP hs, rI hs, rT hs, e_cl, e_jn, e_lt, e_rz0, e_rz1, e_u2s, e_u2k, e_u2a, R_within, i10, i00, i01, if_true, if_false, not_true, not_false_eq_true, ne_eq, e6]
                rw [lim6 (fun z => cl (F_X12_digit 200 0 z (pm (atM m p6) j u)) _) a3.1 a3.2.1, hv]
                simp (disch := omega) only [rP hs, rI hs, rT hs, e_cl, e_jn, e_lt, e_rz0, e_rz1, e_u2s, e_u2k, e_u2a, R_within, i10, i00, i01, if_true, if_false, not_true, not_false_eq_true, ne_eq, b1, b2, b3, ite_self]
              · simp only [h7] at h
                cases h
theorem CWr_TX {m m' : IM} {q o c z n : Nat} {f g : Nat → Nat} {tb : Nat → Int32} (h : CWr m m' q o c f g z) (hT : TX m n tb) : TX m' n tb := by
  rw [TX, h.2.2.1 200 (by decide) (by decide) (by decide) (by decide), h.2.2.1 202 (by decide) (by decide) (by decide) (by decide)]
  exact hT
theorem CWr_at {m m' : IM} {q o c z p : Nat} {f g : Nat → Nat} (h : CWr (atM m p) m' q o c f g z) : ∃ m1, m' = atM m1 p ∧ CWr m m1 q o c f g z := by
  obtain ⟨a1, a2, a3, a4, a5⟩ := h
  have h200 := a3 200 (by decide) (by decide) (by decide) (by decide)
  refine ⟨fun b i => if b = 200 then m 200 i else m' b i, ?_, ?_⟩
  · funext b i
    by_cases hb : b = 200
    · subst hb
      by_cases hi : i = 5
      · subst hi; rw [h200]; unfold atM; rw [e_u2s, e_u2s]
      · rw [h200]; unfold atM; rw [e_u2k hi, e_u2k hi]; rfl
    · unfold atM; rw [e_u2a hb]; exact (if_neg hb).symm
  · refine ⟨a1, a2, fun b h1 h2 h3 h4 => ?_, fun i hi => ?_, fun b i hb hi => ?_⟩
    · funext i
      by_cases hb : b = 200
      · subst hb; rfl
      · show (if b = 200 then m 200 i else m' b i) = m b i
        rw [if_neg hb, a3 b h1 h2 h3 h4]; exact e_u2a hb
    · show m' 203 i = m 203 i
      rw [a4 i hi]; exact e_u2a (by decide)
    · have hb2 : b ≠ 200 := by omega
      show (if b = 200 then m 200 i else m' b i) = m b i
      rw [if_neg hb2, a5 b i hb hi]; exact e_u2a hb2
theorem R_layer1 (hs : RS u) {n p p' q o z w d x y : Nat} {tb : Nat → Int32} (hT : TX m n tb) (hp : p ≤ n) (hq : q ≤ 6) (h7 : m 200 7 = nI q) (h3 : m 203 q = nI o) (h4 : m 204 q = nI z) (ho : o ≤ 180) (h : player tb n p = .inr (w, d, x, y, p')) :
    (∃ m1, F_X12_layer 200 (pm (atM m p) j u) = some ((), pm (atM (u2 m1 204 q (nI (z + 1))) p') j u) ∧ CWr m m1 q o (d * w) (fun t => x + t % w) (fun t => y + t / w) z) ∧ (1 ≤ w ∧ w ≤ 6) ∧ (1 ≤ d ∧ d ≤ 6) ∧ x + w ≤ 6 ∧ y + d ≤ 6 ∧ p < p' ∧ p' ≤ n := by
  have hn := hT.1
  have D16 : ∀ p, p ≤ n → (∀ d q, pdig tb n 1 6 p = .inr (d, q) → F_X12_digit 200 1 6 (pm (atM m p) j u) = some (nI d, pm (atM m q) j u)) := fun p hp => (R_digit (lo := 1) (hi := 6) hs hT hp (by decide) (by decide)).2
  unfold player at h
  rcases h1 : pdig tb n 1 6 p with r | ⟨w', p1⟩ <;> rw [h1] at h
  · cases h
  have a1 := pdig_in hp (by decide) (by decide) h1
  have e1 := D16 p hp _ _ h1
  rcases h2 : psgn tb n 120 p1 with r | p2 <;> simp only [h2] at h
  · cases h
  have a2 := psgn_in a1.2.2.2 h2
  have e2 := (R_need (j := j) hs hT a1.2.2.2 (show (120 : Int32) ≠ 0 by decide)).2 _ h2
  rcases h3' : pdig tb n 1 6 p2 with r | ⟨d', p3⟩ <;> simp only [h3'] at h
  · cases h
  have a3 := pdig_in a2.2 (by decide) (by decide) h3'
  have e3 := D16 p2 a2.2 _ _ h3'
  rcases h4' : psgn tb n 64 p3 with r | p4 <;> simp only [h4'] at h
  · cases h
  have a4 := psgn_in a3.2.2.2 h4'
  have e4 := (R_need (j := j) hs hT a3.2.2.2 (show (64 : Int32) ≠ 0 by decide)).2 _ h4'
  have D5 := R_digit (j := j) (lo := 0) (hi := 6 - w') hs hT a4.2 (by decide) (by omega)
  rcases h5 : pdig tb n 0 (6 - w') p4 with r | ⟨x', p5⟩ <;> simp only [h5] at h
  · cases h
  have a5 := pdig_in a4.2 (by decide) (by omega) h5
  have e5 := D5.2 _ _ h5
  rw [show nI 0 = 0 from rfl] at e5
  rcases h6 : psgn tb n 44 p5 with r | p6 <;> simp only [h6] at h
  · cases h
  have a6 := psgn_in a5.2.2.2 h6
  have e6 := (R_need (j := j) hs hT a5.2.2.2 (show (44 : Int32) ≠ 0 by decide)).2 _ h6
  have D7 := R_digit (j := j) (lo := 0) (hi := 6 - d') hs hT a6.2 (by decide) (by omega)
  rcases h8 : pdig tb n 0 (6 - d') p6 with r | ⟨y', p7⟩ <;> simp only [h8] at h
  · cases h
  have a7 := pdig_in a6.2 (by decide) (by omega) h8
  have e7 := D7.2 _ _ h8
  rw [show nI 0 = 0 from rfl] at e7
  cases h
  have hf := at_f (p := p') hT
  refine ⟨?_, ⟨a1.1, a1.2.1⟩, ⟨a3.1, a3.2.1⟩, by omega, by omega, by omega, a7.2.2.2⟩
  have hdw : d * w ≤ 36 := Nat.mul_le_mul a3.2.1 a1.2.1
  obtain ⟨m', f1, f2⟩ := R_layOut (j := j) (z := z) hs hq a1.2.1 a3.2.1 (show x ≤ 6 by omega) (show y ≤ 6 by omega) a1.1 (fun h33 => gR h33 200 13 10 fun x34 => gI h33 200 13 7 fun x35 => aI h33 x34 x35 fun x36 => sI h33 x34 x35 (x36 + 1) fun h37 => some ((), h37)) d 0 o LF (atM m p') (by omega) (by unfold LF; omega) (by unfold atM; rw [e_u2k (by decide)]; exact h7) (by unfold atM; rw [e_u2a (by decide)]; exact h3) (by unfold atM; rw [e_u2a (by decide)]; exact h4) (by omega)
  obtain ⟨m1, em, g1⟩ := CWr_at f2
  subst em
  refine ⟨m1, ?_, g1.cg rfl (fun _ _ => rfl) (fun _ _ => by show y + 0 + _ = _; rw [Nat.add_zero])⟩
  have k7 : atM m1 p' 200 7 = nI q := by rw [f2.2.2.1 200 (by decide) (by decide) (by decide) (by decide)]; unfold atM; rw [e_u2k (by decide)]; exact h7
  have k4 : atM m1 p' 204 q = nI z := by rw [f2.2.2.1 204 (by decide) (by decide) (by decide) (by decide)]; unfold atM; rw [e_u2a (by decide)]; exact h4
  simp (disch := omega) only [F_X12_layer, rP hs, rI hs, rT hs, e_cl, e_jn, e_lt, e_rz0, e_rz1, e_u2s, e_u2k, e_u2a, R_within, i10, i00, i01, if_true, if_false, not_true, not_false_eq_true, ne_eq, e1, e2, e3, e4]
  rw [lim6 (fun z => cl (F_X12_digit 200 0 z (pm (atM m p4) j u)) _) a1.1 a1.2.1, e5]
  simp (disch := omega) only [rP hs, rI hs, rT hs, e_cl, e_jn, e_lt, e_rz0, e_rz1, e_u2s, e_u2k, e_u2a, R_within, i10, i00, i01, if_true, if_false, not_true, not_false_eq_true, ne_eq, e6]
  rw [lim6 (fun z => cl (F_X12_digit 200 0 z (pm (atM m p6) j u)) _) a3.1 a3.2.1, e7]
  simp (disch := omega) only [rP hs, rI hs, rT hs, e_cl, e_jn, e_lt, e_rz0, e_rz1, e_u2s, e_u2k, e_u2a, R_within, i10, i00, i01, if_true, if_false, not_true, not_false_eq_true, ne_eq, R_fine1 hs hf]
  rw [Nat.add_zero] at f1
  rw [f1]
  simp (disch := omega) only [rP hs, rI hs, rT hs, e_cl, e_jn, e_lt, e_rz0, e_rz1, e_u2s, e_u2k, e_u2a, R_within, i10, i00, i01, if_true, if_false, not_true, not_false_eq_true, ne_eq, rR_10 hs, rA_204 hs, rS_204 hs, k7, k4, nI_1]
  unfold atM
  congr 3
  funext b i
  by_cases hb : b = 200
  · subst hb; by_cases hi : i = 5 <;> simp [u2, hi]
  · simp [u2, hb]
end REF6
