/-! ===== the reference: match, the rest ===== -/
theorem Bf_mono {k : Nat} {W : Nat → Nat} {st : Nat × (Nat → Nat)} (h : Bf k W st) : Bf (k + 1) W st := by
  rcases h with z | ⟨q, h1, h2⟩
  · exact Or.inl z
  · exact Or.inr ⟨q, by omega, h2⟩
section RMB
variable {m : IM} {j : JM} {u : SU}
theorem R_tpL (hs : RS u) {n k d p s v : Nat} {tn g W : Nat → Nat} {st : Nat × (Nat → Nat)} {rc : Nat → Int32 → Int32 → Int32 → PM → Option (Unit × PM)} (hk : k + d + 1 = n) (hWk : W k = 0) (hf : Bf k W st)
    (H : ∀ i, k < i → i < n → W i = 0 → prG g k i = true → ∀ (m : IM) (st : Nat × (Nat → Nat)), TM m n tn g → WM m n (w2 W k i) → BM m n st → Bf (k + 1) (w2 W k i) st → ∃ m', rc 200 (nI (k + 1)) (nI (p + 1)) (nI (s + apG g k i)) (pm m j u) = some ((), pm m' j u) ∧ WM m' n (w2 W k i) ∧ BM m' n (tp n (prG g) (apG g) d (w2 W k i) (v + (1000000 - apG g k i)) st) ∧ TF m m') :
    ∀ (e i fu : Nat) (m : IM), i + e = n → e < fu → k < i → TM m n tn g → WM m n W → BM m n (fo (tpF n (prG g) (apG g) d k W v) i st) →
    ∃ m', (∀ K, F_X12_tryPairs_L128 rc 200 (nI k) (nI p) (nI s) K fu (nI i) (pm m j u) = K (pm m' j u)) ∧ WM m' n W ∧ BM m' n (fo (tpF n (prG g) (apG g) d k W v) n st) ∧ TF m m' := by
  intro e
  induction e with
  | zero =>
    intro i fu m hi hfu hki hT hW hB
    obtain ⟨fu, rfl⟩ : ∃ g, fu = g + 1 := ⟨fu - 1, by omega⟩
    have e : i = n := by omega
    subst e
    have h10 := hT.2.1
    refine ⟨m, fun K => ?_, hW, hB, TF_rf⟩
    simp (disch := omega) only [F_X12_tryPairs_L128, e_cl, e_jn, e_lt, e_cxl, e_cxr, e_rzn, ↓l_m1, ↓l_m2, ↓l_m8, l_0, l_1, l_2, l_3, l_4, l_5, l_6, l_7, l_8, l_9, l_10, l_12, l_16, l_20, l_24, l_31, l_32, l_35, l_36, l_40, l_44, l_48, l_59, l_63, l_64, l_90, l_95, l_96, l_100, l_120, l_127, l_200, l_216, l_255, l_999, l_1000, l_10000, l_1000000, l_1048575, l_1000000000, nI_add, pk_mul, pk_sub, nI_leI, nI_ltI, nI_eq, nI_dec, nI_o0, mx_n, mn_n, ab_1, ab_n, e_u2e, e_u2k, e_u2a, if_pos, if_neg, if_true, if_false, not_true, not_false_eq_true, ne_eq, Nat.add_zero, Nat.zero_add, rP hs, rI hs, rT hs, hT.1]
  | succ e ih =>
    intro i fu m hi hfu hki hT hW hB
    obtain ⟨fu, rfl⟩ : ∃ g, fu = g + 1 := ⟨fu - 1, by omega⟩
    have h10 := hT.2.1
    have h45 := hT.1
    obtain ⟨t1, t2, t3, t4⟩ := hT.2.2 k (by omega)
    obtain ⟨t5, t6, t7, t8⟩ := hT.2.2 i (by omega)
    obtain ⟨w1, w2'⟩ := hW i (by omega)
    have skip : ¬ (k < i ∧ W i = 0 ∧ prG g k i = true) → fo (tpF n (prG g) (apG g) d k W v) (i + 1) st = fo (tpF n (prG g) (apG g) d k W v) i st := fun c => if_neg c
    by_cases c1 : W i = 0
    · have ip := R_isPair (j := j) hs t2 t6 t3 t7 t4 t8
      rw [c1] at w1
      cases c2 : prG g k i
      · have c2' : decide (10 * adiff (g k) (g i) ≤ max (g k) (g i)) = false := c2
        rw [c2'] at ip
        obtain ⟨m', i1, i2, i3, i4⟩ := ih (i + 1) fu m (by omega) (by omega) (by omega) hT hW (by rw [skip (fun z => by rw [c2] at z; cases z.2.2)]; exact hB)
        refine ⟨m', fun K => ?_, i2, i3, i4⟩
        rw [← i1 K, F_X12_tryPairs_L128]
        simp (disch := omega) only [e_cl, e_jn, e_lt, e_cxl, e_cxr, e_rzn, ↓l_m1, ↓l_m2, ↓l_m8, l_0, l_1, l_2, l_3, l_4, l_5, l_6, l_7, l_8, l_9, l_10, l_12, l_16, l_20, l_24, l_31, l_32, l_35, l_36, l_40, l_44, l_48, l_59, l_63, l_64, l_90, l_95, l_96, l_100, l_120, l_127, l_200, l_216, l_255, l_999, l_1000, l_10000, l_1000000, l_1048575, l_1000000000, nI_add, pk_mul, pk_sub, nI_leI, nI_ltI, nI_eq, nI_dec, nI_o0, mx_n, mn_n, ab_1, ab_n, e_u2e, e_u2k, e_u2a, if_pos, if_neg, if_true, if_false, not_true, not_false_eq_true, ne_eq, Nat.add_zero, Nat.zero_add, rP hs, rI hs, rT hs, rR_49 hs, rA_231 hs, rS_231 hs, rR_48 hs, rA_230 hs, rS_230 hs, h45, w1, t1, t5, ip, Bool.toNat_false]
      · have c2' : decide (10 * adiff (g k) (g i) ≤ max (g k) (g i)) = true := c2
        rw [c2'] at ip
        have hF1 : TF m (u2 (u2 m 231 k (nI i)) 231 i (nI k)) := TF_tr TF_w TF_w
        obtain ⟨m1, a1, a2, a3, a4⟩ := H i hki (by omega) c1 c2 (u2 (u2 m 231 k (nI i)) 231 i (nI k)) _ (TM_fr hT hF1) (fun x hx => by
          unfold w2
          by_cases e1 : x = i
          · rw [e1, e_u2s, if_neg (by omega), if_pos rfl, oI_s]; exact ⟨rfl, by omega⟩
          · rw [e_u2k e1, if_neg e1]
            by_cases e2 : x = k
            · rw [e2, e_u2s, if_pos rfl, oI_s]; exact ⟨rfl, by omega⟩
            · rw [e_u2k e2, if_neg e2]; exact hW x hx) (BM_w (BM_w hB)) (by
          rcases tpF_ag (n := n) (pr := prG g) (ap := apG g) (d := d) (k := k) (W := W) (v := v) (st := st) hk i with z | ⟨z1, z2, z3⟩
          · rw [z]
            rcases hf with y | ⟨q, y1, y2, y3, y4⟩
            · exact Or.inl y
            · refine Or.inr ⟨q, by omega, fun x hx => ?_, y3, ?_⟩
              · rw [y2 x hx, w2, if_neg (by omega), if_neg (by omega)]
              · rw [w2, if_neg (by omega), if_neg (by omega)]; exact y4
          · refine Or.inr ⟨k, by omega, fun x hx => ?_, z2, Or.inr ?_⟩
            · rw [z1 x hx, w2, if_neg (by omega), if_neg (by omega)]
            · rw [w2, if_pos rfl]; omega)
        have a1 : rc 200 (nI (k + 1)) (nI (p + 1)) (nI (s + adiff (g k) (g i))) (pm (u2 (u2 m 231 k (nI i)) 231 i (nI k)) j u) = some ((), pm m1 j u) := a1
        have ho := fun h => R_off (a := g k) (b := g i) (by omega) (by omega) h
        obtain ⟨m', i1, i2, i3, i4⟩ := ih (i + 1) fu (u2 (u2 m1 231 k (oI 0)) 231 i (oI 0)) (by omega) (by omega) (by omega) (TM_fr hT (TF_tr (TF_tr hF1 a4) (TF_tr TF_w TF_w))) (fun x hx => by
          by_cases e1 : x = i
          · rw [e1, e_u2s, c1]; exact ⟨rfl, by omega⟩
          · rw [e_u2k e1]
            by_cases e2 : x = k
            · rw [e2, e_u2s, hWk]; exact ⟨rfl, by omega⟩
            · have := a2 x hx
              rw [w2, if_neg e2, if_neg e1] at this
              rw [e_u2k e2]; exact this) (by
          have e0 : fo (tpF n (prG g) (apG g) d k W v) (i + 1) st = tp n (prG g) (apG g) d (w2 W k i) (v + (1000000 - apG g k i)) (fo (tpF n (prG g) (apG g) d k W v) i st) := if_pos ⟨hki, c1, c2⟩
          rw [e0]
          exact BM_w (BM_w a3))
        refine ⟨m', fun K => ?_, i2, i3, TF_tr (TF_tr (TF_tr hF1 a4) (TF_tr TF_w TF_w)) i4⟩
        rw [← i1 K, F_X12_tryPairs_L128]
        simp (disch := omega) only [e_cl, e_jn, e_lt, e_cxl, e_cxr, e_rzn, ↓l_m1, ↓l_m2, ↓l_m8, l_0, l_1, l_2, l_3, l_4, l_5, l_6, l_7, l_8, l_9, l_10, l_12, l_16, l_20, l_24, l_31, l_32, l_35, l_36, l_40, l_44, l_48, l_59, l_63, l_64, l_90, l_95, l_96, l_100, l_120, l_127, l_200, l_216, l_255, l_999, l_1000, l_10000, l_1000000, l_1048575, l_1000000000, nI_add, pk_mul, pk_sub, nI_leI, nI_ltI, nI_eq, nI_dec, nI_o0, mx_n, mn_n, ab_1, ab_n, e_u2e, e_u2k, e_u2a, if_pos, if_neg, if_true, if_false, not_true, not_false_eq_true, ne_eq, Nat.add_zero, Nat.zero_add, rP hs, rI hs, rT hs, rR_49 hs, rA_231 hs, rS_231 hs, rR_48 hs, rA_230 hs, rS_230 hs, rR_33 hs, rA_218 hs, rS_218 hs, h45, w1, t1, t5, t3, t7, ip, Bool.toNat_true, ho, a1]
    · obtain ⟨m', i1, i2, i3, i4⟩ := ih (i + 1) fu m (by omega) (by omega) (by omega) hT hW (by rw [skip (fun z => c1 z.2.1)]; exact hB)
      refine ⟨m', fun K => ?_, i2, i3, i4⟩
      rw [← i1 K, F_X12_tryPairs_L128]
      simp (disch := omega) only [e_cl, e_jn, e_lt, e_cxl, e_cxr, e_rzn, ↓l_m1, ↓l_m2, ↓l_m8, l_0, l_1, l_2, l_3, l_4, l_5, l_6, l_7, l_8, l_9, l_10, l_12, l_16, l_20, l_24, l_31, l_32, l_35, l_36, l_40, l_44, l_48, l_59, l_63, l_64, l_90, l_95, l_96, l_100, l_120, l_127, l_200, l_216, l_255, l_999, l_1000, l_10000, l_1000000, l_1048575, l_1000000000, nI_add, pk_mul, pk_sub, nI_leI, nI_ltI, nI_eq, nI_dec, nI_o0, mx_n, mn_n, ab_1, ab_n, e_u2e, e_u2k, e_u2a, if_pos, if_neg, if_true, if_false, not_true, not_false_eq_true, ne_eq, Nat.add_zero, Nat.zero_add, rP hs, rI hs, rT hs, rR_49 hs, rA_231 hs, rS_231 hs, h45, w1, oI_ne c1 (show W i < 2 ^ 31 by omega)]
theorem R_tp (hs : RS u) {n : Nat} {tn g : Nat → Nat} : ∀ (d dd k p s v : Nat) (W : Nat → Nat) (m : IM) (st : Nat × (Nat → Nat)), k + d = n → d < dd → TM m n tn g → WM m n W → BM m n st → v + s = 1000000 * p → s ≤ 21600 * p → p ≤ k → Bf k W st →
    ∃ m', F_X12_tryPairs dd 200 (nI k) (nI p) (nI s) (pm m j u) = some ((), pm m' j u) ∧ WM m' n W ∧ BM m' n (tp n (prG g) (apG g) d W v st) ∧ TF m m' := by
  intro d
  induction d with
  | zero =>
    intro dd k p s v W m st hk hdd hT hW hB hv hsp hp hf
    obtain ⟨dd, rfl⟩ : ∃ g, dd = g + 1 := ⟨dd - 1, by omega⟩
    have e : k = n := by omega
    subst e
    exact R_tp0 hs hT hW hB hv hsp (Nat.le_trans hp hT.2.1) hf
  | succ d ih =>
    intro dd k p s v W m st hk hdd hT hW hB hv hsp hp hf
    obtain ⟨dd, rfl⟩ : ∃ g, dd = g + 1 := ⟨dd - 1, by omega⟩
    have h10 := hT.2.1
    have h45 := hT.1
    have ek : n - (d + 1) = k := by omega
    obtain ⟨w1, w2'⟩ := hW k (by omega)
    rw [tp, ek]
    by_cases c : W k = 0
    · rw [if_pos c]
      rw [c] at w1
      have e0 : fo (tpF n (prG g) (apG g) d k W v) (k + 1) st = st := fo_id (k + 1) (fun b hb => if_neg (fun z => by omega))
      obtain ⟨m1, a1, a2, a3, a4⟩ := R_tpL (j := j) (p := p) (s := s) (v := v) (rc := F_X12_tryPairs dd) hs (show k + d + 1 = n by omega) c hf (fun i hi1 hi2 hi3 hi4 m st q1 q2 q3 q4 => by
        have hb := apG_b (hT.2.2 k (by omega)).2.2.2 (hT.2.2 i hi2).2.2.2 hi4
        exact ih dd (k + 1) (p + 1) (s + apG g k i) (v + (1000000 - apG g k i)) (w2 W k i) m st (by omega) (by omega) q1 q2 q3 (by omega) (by omega) (by omega) q4) (n - (k + 1)) (k + 1) LF m (by omega) (by unfold LF; omega) (by omega) hT hW (by rw [e0]; exact hB)
      obtain ⟨m2, b1, b2, b3, b4⟩ := ih dd (k + 1) p s v W m1 (fo (tpF n (prG g) (apG g) d k W v) n st) (by omega) (by omega) (TM_fr hT a4) a2 a3 hv hsp (by omega) (by
        rcases tpF_ag (n := n) (pr := prG g) (ap := apG g) (d := d) (k := k) (W := W) (v := v) (st := st) (show k + d + 1 = n by omega) n with z | ⟨z1, z2, z3⟩
        · rw [z]; exact Bf_mono hf
        · exact Or.inr ⟨k, by omega, z1, z2, Or.inl c⟩)
      refine ⟨m2, ?_, b2, b3, TF_tr a4 b4⟩
      rw [F_X12_tryPairs]
      simp (disch := omega) only [e_cl, e_jn, e_lt, e_cxl, e_cxr, e_rzn, ↓l_m1, ↓l_m2, ↓l_m8, l_0, l_1, l_2, l_3, l_4, l_5, l_6, l_7, l_8, l_9, l_10, l_12, l_16, l_20, l_24, l_31, l_32, l_35, l_36, l_40, l_44, l_48, l_59, l_63, l_64, l_90, l_95, l_96, l_100, l_120, l_127, l_200, l_216, l_255, l_999, l_1000, l_10000, l_1000000, l_1048575, l_1000000000, nI_add, pk_mul, pk_sub, nI_leI, nI_ltI, nI_eq, nI_dec, nI_o0, mx_n, mn_n, ab_1, ab_n, e_u2e, e_u2k, e_u2a, if_pos, if_neg, if_true, if_false, not_true, not_false_eq_true, ne_eq, Nat.add_zero, Nat.zero_add, rP hs, rI hs, rT hs, rR_49 hs, rA_231 hs, rS_231 hs, h45, w1, a1, b1]
    · rw [if_neg c]
      obtain ⟨m2, b1, b2, b3, b4⟩ := ih dd (k + 1) p s v W m st (by omega) (by omega) hT hW hB hv hsp (by omega) (Bf_mono hf)
      refine ⟨m2, ?_, b2, b3, b4⟩
      rw [F_X12_tryPairs]
      simp (disch := omega) only [e_cl, e_jn, e_lt, e_cxl, e_cxr, e_rzn, ↓l_m1, ↓l_m2, ↓l_m8, l_0, l_1, l_2, l_3, l_4, l_5, l_6, l_7, l_8, l_9, l_10, l_12, l_16, l_20, l_24, l_31, l_32, l_35, l_36, l_40, l_44, l_48, l_59, l_63, l_64, l_90, l_95, l_96, l_100, l_120, l_127, l_200, l_216, l_255, l_999, l_1000, l_10000, l_1000000, l_1048575, l_1000000000, nI_add, pk_mul, pk_sub, nI_leI, nI_ltI, nI_eq, nI_dec, nI_o0, mx_n, mn_n, ab_1, ab_n, e_u2e, e_u2k, e_u2a, if_pos, if_neg, if_true, if_false, not_true, not_false_eq_true, ne_eq, Nat.add_zero, Nat.zero_add, rP hs, rI hs, rT hs, rR_49 hs, rA_231 hs, rS_231 hs, h45, w1, oI_ne c (show W k < 2 ^ 31 by omega), b1]
end RMB
/-! the stones that are looked at -/
def elB (sg : Nat → Nat → Nat) (s : Nat) : Bool := decide (sg s 4 = 1) && (decide (sg s 5 = 0) && decide (sg s 7 = 0))
theorem elB_t {sg : Nat → Nat → Nat} {s : Nat} : elB sg s = true ↔ sg s 4 = 1 ∧ sg s 5 = 0 ∧ sg s 7 = 0 := by
  unfold elB
  rw [Bool.and_eq_true, Bool.and_eq_true, decide_eq_true_eq, decide_eq_true_eq, decide_eq_true_eq]
def col (sg : Nat → Nat → Nat) : Nat → Nat × (Nat → Nat)
  | 0 => (0, fun _ => 0)
  | s + 1 => if (col sg s).1 < 10 ∧ elB sg s = true then ((col sg s).1 + 1, fun i => if i = (col sg s).1 then s else (col sg s).2 i) else col sg s
theorem col_y {sg : Nat → Nat → Nat} {s : Nat} (h : (col sg s).1 < 10 ∧ elB sg s = true) : col sg (s + 1) = ((col sg s).1 + 1, fun i => if i = (col sg s).1 then s else (col sg s).2 i) := if_pos h
theorem col_n {sg : Nat → Nat → Nat} {s : Nat} (h : ¬ ((col sg s).1 < 10 ∧ elB sg s = true)) : col sg (s + 1) = col sg s := if_neg h
theorem col_full {sg : Nat → Nat → Nat} {s : Nat} (h : (col sg s).1 = 10) : ∀ d, col sg (s + d) = col sg s
  | 0 => rfl
  | d + 1 => by
    have ih := col_full h d
    rw [show s + (d + 1) = (s + d) + 1 by omega, col_n (fun z => by rw [ih] at z; omega), ih]
theorem col_ok (sg : Nat → Nat → Nat) : ∀ s, (col sg s).1 ≤ 10 ∧ (∀ k, k < (col sg s).1 → (col sg s).2 k < s ∧ elB sg ((col sg s).2 k) = true) ∧ ∀ a b, a < b → b < (col sg s).1 → (col sg s).2 a < (col sg s).2 b
  | 0 => ⟨Nat.zero_le _, fun k hk => absurd hk (Nat.not_lt_zero _), fun a b _ hb => absurd hb (Nat.not_lt_zero _)⟩
  | s + 1 => by
    obtain ⟨i1, i2, i3⟩ := col_ok sg s
    by_cases c : (col sg s).1 < 10 ∧ elB sg s = true
    · rw [col_y c]
      refine ⟨by show (col sg s).1 + 1 ≤ 10; omega, fun k hk => ?_, fun a b hab hb => ?_⟩
      · have hk : k < (col sg s).1 + 1 := hk
        show (if k = (col sg s).1 then s else (col sg s).2 k) < s + 1 ∧ elB sg (if k = (col sg s).1 then s else (col sg s).2 k) = true
        by_cases e : k = (col sg s).1
        · rw [if_pos e]; exact ⟨by omega, c.2⟩
        · rw [if_neg e]
          have := i2 k (by omega)
          exact ⟨by omega, this.2⟩
      · have hb : b < (col sg s).1 + 1 := hb
        show (if a = (col sg s).1 then s else (col sg s).2 a) < (if b = (col sg s).1 then s else (col sg s).2 b)
        rw [if_neg (by omega)]
        by_cases e : b = (col sg s).1
        · rw [if_pos e]; exact (i2 a (by omega)).1
        · rw [if_neg e]; exact i3 a b hab (by omega)
    · rw [col_n c]
      exact ⟨i1, fun k hk => ⟨by have := (i2 k hk).1; omega, (i2 k hk).2⟩, i3⟩
theorem col_inj {sg : Nat → Nat → Nat} {s a b : Nat} (ha : a < (col sg s).1) (hb : b < (col sg s).1) (h : (col sg s).2 a = (col sg s).2 b) : a = b := by
  obtain ⟨-, -, h3⟩ := col_ok sg s
  rcases Nat.lt_trichotomy a b with z | z | z
  · have := h3 a b z hb; omega
  · exact z
  · have := h3 b a z ha; omega
def matS (sg : Nat → Nat → Nat) (n : Nat) (tn W : Nat → Nat) : Nat → Nat → Nat := fun s k => if k = 5 ∧ fa_first (fun p => decide (tn p = s)) n < n ∧ W (fa_first (fun p => decide (tn p = s)) n) ≠ 0 then tn (W (fa_first (fun p => decide (tn p = s)) n) - 1) + 1 else sg s k
theorem ff_inj {n p : Nat} {tn : Nat → Nat} (hi : ∀ a b, a < n → b < n → tn a = tn b → a = b) (hp : p < n) : fa_first (fun x => decide (tn x = tn p)) n = p := by
  by_cases c : fa_first (fun x => decide (tn x = tn p)) n < n
  · have := of_decide_eq_true (fa_first_yes _ _ c)
    exact hi _ _ c hp this
  · have := fa_first_no (fun x => decide (tn x = tn p)) n p (by omega)
    exact absurd rfl (of_decide_eq_false this)
theorem matS_cong {sg : Nat → Nat → Nat} {n : Nat} {tn W V : Nat → Nat} (h : ∀ p, p < n → W p = V p) : matS sg n tn W = matS sg n tn V := by
  funext s k
  unfold matS
  by_cases c : fa_first (fun p => decide (tn p = s)) n < n
  · rw [h _ c]
  · rw [if_neg (fun z => c z.2.1), if_neg (fun z => c z.2.1)]
theorem matS_0 {sg : Nat → Nat → Nat} {n : Nat} {tn : Nat → Nat} : matS sg n tn (fun _ => 0) = sg := by
  funext s k
  unfold matS
  rw [if_neg (fun z => z.2.2 rfl)]
theorem matS_1 {sg : Nat → Nat → Nat} {n p c : Nat} {tn W : Nat → Nat} (hi : ∀ a b, a < n → b < n → tn a = tn b → a = b) (hp : p < n) (hc : c ≠ 0) : matS sg n tn (upd1 W p c) = u2 (matS sg n tn W) (tn p) 5 (tn (c - 1) + 1) := by
  funext s k
  by_cases e : s = tn p
  · subst e
    by_cases e2 : k = 5
    · subst e2
      unfold matS
      rw [ff_inj hi hp, upd1_s, if_pos ⟨rfl, hp, hc⟩]
      simp [u2]
    · unfold u2
      rw [if_pos rfl, if_neg e2]
      unfold matS
      rw [if_neg (fun z => e2 z.1), if_neg (fun z => e2 z.1)]
  · unfold u2
    rw [if_neg e]
    unfold matS
    by_cases c : fa_first (fun p => decide (tn p = s)) n < n
    · have h1 := of_decide_eq_true (fa_first_yes _ _ c)
      have h2 : fa_first (fun p => decide (tn p = s)) n ≠ p := fun z => e (by rw [← z, h1])
      rw [upd1_n h2]
    · rw [if_neg (fun z => c z.2.1), if_neg (fun z => c z.2.1)]
