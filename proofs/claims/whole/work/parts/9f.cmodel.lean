/-! ===== the class: a new model ===== -/
def anyC (l : List Lay) (t w i n : Nat) : Bool := anyB (fun z => anyB (fun e2 => anyB (fun e => blkB t w ((ga l z).2.2.1 - le_ l 0 + e) ((ga l z).2.2.2 - le_ l 1 + e2) z i) (ga l z).1) (ga l z).2.1) n
theorem anyB_t {p : Nat → Bool} {n : Nat} : anyB p n = true ↔ ∃ k, k < n ∧ p k = true := by
  constructor
  · intro h
    obtain ⟨k, h1, h2, -⟩ := anyB_yes h
    exact ⟨k, h1, h2⟩
  · intro ⟨k, h1, h2⟩
    exact anyB_of h1 h2
theorem blkB_t {t w X Y Z i : Nat} : blkB t w X Y Z i = true ↔ ∀ a, a < 3 → coo a i / t = cmp (X, Y, Z) (tu w a) := by
  unfold blkB
  rw [Bool.and_eq_true, Bool.and_eq_true, decide_eq_true_eq, decide_eq_true_eq, decide_eq_true_eq]
  constructor
  · intro ⟨h0, h1, h2⟩ a ha
    rcases (show a = 0 ∨ a = 1 ∨ a = 2 by omega) with rfl | rfl | rfl
    · exact h0
    · exact h1
    · exact h2
  · intro h
    exact ⟨h 0 (by decide), h 1 (by decide), h 2 (by decide)⟩
theorem cmp_n {l : List Lay} (h : okM l) {z e e2 b : Nat} (hz : z < l.length) (hb : b < 3) : cmp ((ga l z).2.2.1 + e, (ga l z).2.2.2 + e2, z) b = cmp ((ga l z).2.2.1 - le_ l 0 + e, (ga l z).2.2.2 - le_ l 1 + e2, z) b + le_ l b := by
  have h0 := (le_0 h).1 z hz
  have h1 := (le_1 h).1 z hz
  have h2 := (le_2 h).1
  rcases (show b = 0 ∨ b = 1 ∨ b = 2 by omega) with rfl | rfl | rfl
  · show (ga l z).2.2.1 + e = (ga l z).2.2.1 - le_ l 0 + e + le_ l 0; omega
  · show (ga l z).2.2.2 + e2 = (ga l z).2.2.2 - le_ l 1 + e2 + le_ l 1; omega
  · show z = z + le_ l 2; omega
theorem anyC_mk {l : List Lay} (h : okM l) {t w i : Nat} (hw : w < 6) : anyC l t w i l.length = mkB l t w i := by
  have k : anyC l t w i l.length = true ↔ mkB l t w i = true := by
    unfold anyC
    rw [mkB_iff h hw, anyB_t]
    constructor
    · intro ⟨z, hz, h1⟩
      obtain ⟨e2, he2, h2⟩ := anyB_t.mp h1
      obtain ⟨e, he, h3⟩ := anyB_t.mp h2
      have h3 := blkB_t.mp h3
      obtain ⟨k, k1, k2⟩ := cell_k (x := (ga l z).2.2.1 + e) (y := (ga l z).2.2.2 + e2) hz ⟨by omega, by omega, by omega, by omega⟩
      refine ⟨k, k1, fun a ha => ?_⟩
      rw [k2, cmp_n h hz (tu_lt w hw a ha).1, h3 a ha]
    · intro ⟨k, k1, k2⟩
      obtain ⟨z, hz, c2, c3⟩ := cel_cell h k1
      obtain ⟨r1, r2, r3, r4⟩ := c3
      have ec : cel l 0 k = ((ga l z).2.2.1 + ((cel l 0 k).1 - (ga l z).2.2.1), (ga l z).2.2.2 + ((cel l 0 k).2.1 - (ga l z).2.2.2), z) := by
        rw [show (ga l z).2.2.1 + ((cel l 0 k).1 - (ga l z).2.2.1) = (cel l 0 k).1 by omega, show (ga l z).2.2.2 + ((cel l 0 k).2.1 - (ga l z).2.2.2) = (cel l 0 k).2.1 by omega, ← c2]
      refine ⟨z, hz, anyB_t.mpr ⟨(cel l 0 k).2.1 - (ga l z).2.2.2, by omega, anyB_t.mpr ⟨(cel l 0 k).1 - (ga l z).2.2.1, by omega, blkB_t.mpr (fun a ha => ?_)⟩⟩⟩
      have := k2 a ha
      rw [ec, cmp_n h hz (tu_lt w hw a ha).1] at this
      omega
  cases c : mkB l t w i
  · exact ts_nt (fun y => by rw [k.mp y] at c; cases c)
  · exact k.mpr c
theorem nrm_b {l : List Lay} (h : okM l) {t z e e2 b : Nat} (ht : t ≤ gre l) (hz : z < l.length) (he : e < (ga l z).1) (he2 : e2 < (ga l z).2.1) (hb : b < 3) : t * cmp ((ga l z).2.2.1 - le_ l 0 + e, (ga l z).2.2.2 - le_ l 1 + e2, z) b + t ≤ 6 := by
  have h0 := (le_0 h).1 z hz
  have h1 := (le_1 h).1 z hz
  have h2 := le_2 h
  have s0 := sp_b_ h 0
  have s1 := sp_b_ h 1
  have g := (gre_iff.mp ht).2 b hb
  have key : cmp ((ga l z).2.2.1 - le_ l 0 + e, (ga l z).2.2.2 - le_ l 1 + e2, z) b + 1 ≤ sp_ l b := by
    rcases (show b = 0 ∨ b = 1 ∨ b = 2 by omega) with rfl | rfl | rfl
    · show (ga l z).2.2.1 - le_ l 0 + e + 1 ≤ sp_ l 0; omega
    · show (ga l z).2.2.2 - le_ l 1 + e2 + 1 ≤ sp_ l 1; omega
    · show z + 1 ≤ sp_ l 2; omega
  have := Nat.mul_le_mul_left t key
  rw [Nat.mul_add, Nat.mul_one] at this
  omega
/-- the text that was read, for a model at a -/
def TL (m : IM) (l : List Lay) : Prop := m 50 4 = nI l.length ∧ ∀ i, i < l.length → m 54 i = nI (ga l i).1 ∧ m 55 i = nI (ga l i).2.1 ∧ m 52 i = nI (ga l i).2.2.1 ∧ m 53 i = nI (ga l i).2.2.2
section CMD
variable {m : IM} {u : SU}
theorem C_L60 (hc : CS u) {a g x y z k i : Nat} {G : Nat → Nat → Nat → Bool} (hO : MoO u a) (hg : g ≤ 6) (h4 : m a 4 = nI g) (hT : TU m) (hb : ∀ t, t ≤ g → ∀ b, b < 3 → t * cmp (x + i, y + k, z) b + t ≤ 6) : ∀ (d w fu : Nat) (j : JM), w + d = 6 → d < fu → GM j a g (fun t' w' i' => G t' w' i' || (decide (w' < w) && blkB t' w' (x + i) (y + k) z i')) →
    ∃ j', (∀ K, F_X3_layLayer_L60 a 50 (nI z) (nI x) (nI y) (nI k) (nI i) K fu (nI w) (pm m j u) = K (pm m j' u)) ∧ (∀ c, (c < a + 4 ∨ a + 40 ≤ c) → j' c = j c) ∧ GM j' a g (fun t' w' i' => G t' w' i' || blkB t' w' (x + i) (y + k) z i') := by
  intro d
  induction d with
  | zero =>
    intro w fu j hw hfu hG
    obtain ⟨fu, rfl⟩ : ∃ g, fu = g + 1 := ⟨fu - 1, by omega⟩
    have e : w = 6 := by omega
    subst e
    refine ⟨j, fun K => ?_, fun _ _ => rfl, GM_cg hG (fun t w i h1 h2 => ?_)⟩
    · rw [F_X3_layLayer_L60, if_pos (show (6 : Int32) ≤ nI 6 by decide)]
    · show _ = (G t w i || (decide (w < 6) && _))
      rw [decide_eq_true h1, Bool.true_and]
  | succ d ih =>
    intro w fu j hw hfu hG
    obtain ⟨fu, rfl⟩ : ∃ g, fu = g + 1 := ⟨fu - 1, by omega⟩
    obtain ⟨j1, a1, a2, a3⟩ := C_layCell (j := j) (w := w) hc hO hg h4 hT (show w < 6 by omega) hb hG
    obtain ⟨j', i1, i2, i3⟩ := ih (w + 1) fu j1 (by omega) (by omega) (GM_cg a3 (fun t w' i' h1 h2 => by
      show (G t w' i' || (decide (w' < w + 1) && _)) = (G t w' i' || (decide (w' < w) && _) || (decide (w' = w) && _))
      by_cases c : w' = w
      · rw [decide_eq_true (by omega : w' < w + 1), decide_eq_false (by omega : ¬ w' < w), decide_eq_true c, Bool.false_and, Bool.or_false, Bool.true_and]
      · by_cases c2 : w' < w
        · rw [decide_eq_true (by omega : w' < w + 1), decide_eq_true c2, decide_eq_false c, Bool.false_and, Bool.or_false]
        · rw [decide_eq_false (by omega : ¬ w' < w + 1), decide_eq_false c2, decide_eq_false c, Bool.false_and, Bool.or_false, Bool.or_false]))
    refine ⟨j', fun K => ?_, fun c hc' => by rw [i2 c hc', a2 c hc'], i3⟩
    rw [← i1 K, F_X3_layLayer_L60, if_neg (show ¬ (6 : Int32) ≤ nI w from nI_ge (b := 6) (by omega) (by decide)), mT_ hO, nI_add, nI_add, a1, e_cl, show nI w + 1 = nI (w + 1) from nI_1 w]
theorem C_L46m (hc : CS u) {a g x y z k wd : Nat} {G : Nat → Nat → Nat → Bool} (hO : MoO u a) (hg : g ≤ 6) (h4 : m a 4 = nI g) (hT : TU m) (hz : z < 6) (h54 : m 54 z = nI wd) (hwd : wd ≤ 6) (hb : ∀ i, i < wd → ∀ t, t ≤ g → ∀ b, b < 3 → t * cmp (x + i, y + k, z) b + t ≤ 6) : ∀ (d i fu : Nat) (j : JM), i + d = wd → d < fu → GM j a g (fun t' w' i' => G t' w' i' || anyB (fun e => blkB t' w' (x + e) (y + k) z i') i) →
    ∃ j', (∀ K, F_X3_layLayer_L46 a 50 (nI z) (nI x) (nI y) (nI k) K fu (nI i) (pm m j u) = K (pm m j' u)) ∧ (∀ c, (c < a + 4 ∨ a + 40 ≤ c) → j' c = j c) ∧ GM j' a g (fun t' w' i' => G t' w' i' || anyB (fun e => blkB t' w' (x + e) (y + k) z i') wd) := by
  intro d
  induction d with
  | zero =>
    intro i fu j hi hfu hG
    obtain ⟨fu, rfl⟩ : ∃ g, fu = g + 1 := ⟨fu - 1, by omega⟩
    have e : i = wd := by omega
    subst e
    refine ⟨j, fun K => ?_, fun _ _ => rfl, hG⟩
    rw [F_X3_layLayer_L46, cR_50_7 hc, cA_54 hc hz, h54, if_pos (nI_le (Nat.le_refl _) (by omega))]
  | succ d ih =>
    intro i fu j hi hfu hG
    obtain ⟨fu, rfl⟩ : ∃ g, fu = g + 1 := ⟨fu - 1, by omega⟩
    obtain ⟨j1, a1, a2, a3⟩ := C_L60 (i := i) (G := fun t' w' i' => G t' w' i' || anyB (fun e => blkB t' w' (x + e) (y + k) z i') i) hc hO hg h4 hT (hb i (by omega)) 6 0 LF j (by omega) (by unfold LF; omega) (GM_cg hG (fun t w i' h1 h2 => by
      show (G t w i' || _ || (decide (w < 0) && _)) = _
      rw [decide_eq_false (by omega), Bool.false_and, Bool.or_false]))
    obtain ⟨j', i1, i2, i3⟩ := ih (i + 1) fu j1 (by omega) (by omega) (GM_cg a3 (fun t w i' h1 h2 => by
      show (G t w i' || (anyB _ i || _)) = (G t w i' || anyB _ i || _)
      rw [Bool.or_assoc]))
    refine ⟨j', fun K => ?_, fun c hc' => by rw [i2 c hc', a2 c hc'], i3⟩
    rw [← i1 K, F_X3_layLayer_L46, cR_50_7 hc, cA_54 hc hz, h54, if_neg (nI_ge (by omega) (by omega)), e_jn, show (0 : Int32) = nI 0 from rfl, a1]
    show F_X3_layLayer_L46 a 50 (nI z) (nI x) (nI y) (nI k) K fu (nI i + 1) (pm m j1 u) = _
    rw [show nI i + 1 = nI (i + 1) from nI_1 i]
theorem C_L32m (hc : CS u) {a g x y z wd dp : Nat} {G : Nat → Nat → Nat → Bool} (hO : MoO u a) (hg : g ≤ 6) (h4 : m a 4 = nI g) (hT : TU m) (hz : z < 6) (h54 : m 54 z = nI wd) (hwd : wd ≤ 6) (h55 : m 55 z = nI dp) (hdp : dp ≤ 6) (hb : ∀ k, k < dp → ∀ i, i < wd → ∀ t, t ≤ g → ∀ b, b < 3 → t * cmp (x + i, y + k, z) b + t ≤ 6) : ∀ (d k fu : Nat) (j : JM), k + d = dp → d < fu → GM j a g (fun t' w' i' => G t' w' i' || anyB (fun e2 => anyB (fun e => blkB t' w' (x + e) (y + e2) z i') wd) k) →
    ∃ j', (∀ K, F_X3_layLayer_L32 a 50 (nI z) (nI x) (nI y) K fu (nI k) (pm m j u) = K (pm m j' u)) ∧ (∀ c, (c < a + 4 ∨ a + 40 ≤ c) → j' c = j c) ∧ GM j' a g (fun t' w' i' => G t' w' i' || anyB (fun e2 => anyB (fun e => blkB t' w' (x + e) (y + e2) z i') wd) dp) := by
  intro d
  induction d with
  | zero =>
    intro k fu j hk hfu hG
    obtain ⟨fu, rfl⟩ : ∃ g, fu = g + 1 := ⟨fu - 1, by omega⟩
    have e : k = dp := by omega
    subst e
    refine ⟨j, fun K => ?_, fun _ _ => rfl, hG⟩
    rw [F_X3_layLayer_L32, cR_50_8 hc, cA_55 hc hz, h55, if_pos (nI_le (Nat.le_refl _) (by omega))]
  | succ d ih =>
    intro k fu j hk hfu hG
    obtain ⟨fu, rfl⟩ : ∃ g, fu = g + 1 := ⟨fu - 1, by omega⟩
    obtain ⟨j1, a1, a2, a3⟩ := C_L46m (k := k) (G := fun t' w' i' => G t' w' i' || anyB (fun e2 => anyB (fun e => blkB t' w' (x + e) (y + e2) z i') wd) k) hc hO hg h4 hT hz h54 hwd (hb k (by omega)) wd 0 LF j (by omega) (by unfold LF; omega) (GM_cg hG (fun t w i' h1 h2 => by
      show (G t w i' || _ || anyB _ 0) = _
      rw [anyB, Bool.or_false]))
    obtain ⟨j', i1, i2, i3⟩ := ih (k + 1) fu j1 (by omega) (by omega) (GM_cg a3 (fun t w i' h1 h2 => by
      show (G t w i' || (anyB _ k || _)) = (G t w i' || anyB _ k || _)
      rw [Bool.or_assoc]))
    refine ⟨j', fun K => ?_, fun c hc' => by rw [i2 c hc', a2 c hc'], i3⟩
    rw [← i1 K, F_X3_layLayer_L32, cR_50_8 hc, cA_55 hc hz, h55, if_neg (nI_ge (by omega) (by omega)), e_jn, show (0 : Int32) = nI 0 from rfl, a1]
    show F_X3_layLayer_L32 a 50 (nI z) (nI x) (nI y) K fu (nI k + 1) (pm m j1 u) = _
    rw [show nI k + 1 = nI (k + 1) from nI_1 k]
theorem C_layers (hc : CS u) {a : Nat} {l : List Lay} (hM : okM l) (hO : MoO u a) (h4 : m a 4 = nI (gre l)) (hT : TU m) (hL : TL m l) (hl0 : m (a + 1) 0 = nI (le_ l 0)) (hl1 : m (a + 1) 1 = nI (le_ l 1)) : ∀ (d z fu : Nat) (j : JM), z + d = l.length → d < fu → GM j a (gre l) (fun t w i => anyC l t w i z) →
    ∃ j', (∀ K, F_X3_init_L268 a 50 K fu (nI z) (pm m j u) = K (pm m j' u)) ∧ (∀ c, (c < a + 4 ∨ a + 40 ≤ c) → j' c = j c) ∧ GM j' a (gre l) (fun t w i => anyC l t w i l.length) := by
  have hlen := hM.2.1
  have g6 := gre_le (l := l)
  intro d
  induction d with
  | zero =>
    intro z fu j hz hfu hG
    obtain ⟨fu, rfl⟩ : ∃ g, fu = g + 1 := ⟨fu - 1, by omega⟩
    have e : z = l.length := by omega
    subst e
    refine ⟨j, fun K => ?_, fun _ _ => rfl, hG⟩
    rw [F_X3_init_L268, cG_50 hc, hL.1, if_pos (nI_le (Nat.le_refl _) (by omega))]
  | succ d ih =>
    intro z fu j hz hfu hG
    obtain ⟨fu, rfl⟩ : ∃ g, fu = g + 1 := ⟨fu - 1, by omega⟩
    have hzl : z < l.length := by omega
    obtain ⟨t1, t2, t3, t4⟩ := hL.2 z hzl
    obtain ⟨⟨b1, b2⟩, ⟨b3, b4⟩, b5, b6⟩ := ga_ok hM hzl
    have h0 := (le_0 hM).1 z hzl
    have h1 := (le_1 hM).1 z hzl
    obtain ⟨j1, a1, a2, a3⟩ := C_L32m (z := z) (x := (ga l z).2.2.1 - le_ l 0) (y := (ga l z).2.2.2 - le_ l 1) (G := fun t w i => anyC l t w i z) hc hO g6 h4 hT (by omega) t1 b2 t2 b4 (fun k hk i hi t ht b hb => nrm_b hM ht hzl hi hk hb) (ga l z).2.1 0 LF j (by omega) (by unfold LF; omega) (GM_cg hG (fun t w i' h1 h2 => by
      show (anyC l t w i' z || anyB _ 0) = _
      rw [anyB, Bool.or_false]))
    obtain ⟨j', i1, i2, i3⟩ := ih (z + 1) fu j1 (by omega) (by omega) (GM_cg a3 (fun t w i' h1 h2 => rfl))
    refine ⟨j', fun K => ?_, fun c hc' => by rw [i2 c hc', a2 c hc'], i3⟩
    rw [← i1 K, F_X3_init_L268, cG_50 hc, hL.1, if_neg (nI_ge (by omega) (by omega)), if_neg (show ¬ (6 : Int32) ≤ nI z from nI_ge (b := 6) (by omega) (by decide)), mT_ hO]
    unfold F_X3_layLayer
    rw [cR_50_5 hc, cA_52 hc (by omega), t3, mR0 hO, show (0 : Int32) = nI 0 from rfl, mA1 hO (by decide), hl0, pk_sub h0.1, e_lt, cR_50_6 hc, cA_53 hc (by omega), t4, mR0 hO, show (1 : Int32) = nI 1 from rfl, mA1 hO (by decide), hl1, pk_sub h1.1, e_lt, e_jn, a1, e_cl, nI_add]
end CMD
