/-! ===== the class: a model's masks ===== -/
def blkB (t w X Y Z i : Nat) : Bool := decide (coo 0 i / t = cmp (X, Y, Z) (tu w 0)) && (decide (coo 1 i / t = cmp (X, Y, Z) (tu w 1)) && decide (coo 2 i / t = cmp (X, Y, Z) (tu w 2)))
theorem div_iff {c t P : Nat} (ht : 0 < t) : c / t = P ↔ t * P ≤ c ∧ c < t * P + t := by
  constructor
  · intro h
    subst h
    have h1 := Nat.div_mul_le_self c t
    have h2 := Nat.lt_mul_div_succ c ht
    rw [Nat.mul_comm] at h1
    rw [Nat.mul_add, Nat.mul_one] at h2
    exact ⟨h1, h2⟩
  · intro ⟨h1, h2⟩
    obtain ⟨r, hr⟩ : ∃ r, c = t * P + r := ⟨c - t * P, by omega⟩
    rw [hr]
    exact div_blk (by omega)
/-- the rows of a model's masks -/
def GM (j : JM) (a g : Nat) (G : Nat → Nat → Nat → Bool) : Prop := ∀ t w z, 1 ≤ t → t ≤ g → w < 6 → z < 6 → j (a + 4 + (6 * (t - 1) + w)) z = lN (lay (G t w) z)
theorem GM_cg {j : JM} {a g : Nat} {G G' : Nat → Nat → Nat → Bool} (h : GM j a g G) (he : ∀ t w i, w < 6 → i < 216 → G' t w i = G t w i) : GM j a g G' := fun t w z h1 h2 h3 h4 => by
  rw [h t w z h1 h2 h3 h4]
  refine congrArg lN ?_
  unfold lay
  exact bN_cong (fun i hi => (he t w _ h3 (by omega)).symm)
section CMK
variable {m : IM} {u : SU}
theorem C_blockL {b x y z t : Nat} {G : Nat → Bool} {sq : Nat} (hsq : sq = bN (bkP x (x + t - 1) y (y + t)) 36) (ht : 1 ≤ t) (hx : x + t ≤ 6) (hy : y + t ≤ 6) (hz : z + t ≤ 6) (hA : ∀ (j : JM) (n : Nat) (f : Int64 → Option (Unit × PM)), n < 6 → aJ (pm m j u) b (nI n) f = f (j b n)) (hS : ∀ (j : JM) (n : Nat) (v : Int64) (f : PM → Option (Unit × PM)), n < 6 → sJ (pm m j u) b (nI n) v f = f (pm m (u2 j b n v) u)) : ∀ (d k fu : Nat) (j : JM), k + d = t → d < fu → (∀ zz, zz < 6 → j b zz = lN (lay (fun i => G i || (decide (z ≤ i / 36 ∧ i / 36 < z + k) && bkP x (x + t - 1) y (y + t) (i % 36))) zz)) →
    ∃ j', (∀ K, F_X3_layBlock_L22 b (nI z) (nI t) (lN sq) K fu (nI k) (pm m j u) = K (pm m j' u)) ∧ (∀ c, c ≠ b → j' c = j c) ∧ ∀ zz, zz < 6 → j' b zz = lN (lay (fun i => G i || (decide (z ≤ i / 36 ∧ i / 36 < z + t) && bkP x (x + t - 1) y (y + t) (i % 36))) zz) := by
  intro d
  induction d with
  | zero =>
    intro k fu j hk hfu hJ
    obtain ⟨fu, rfl⟩ : ∃ g, fu = g + 1 := ⟨fu - 1, by omega⟩
    have e : k = t := by omega
    subst e
    refine ⟨j, fun K => ?_, fun _ _ => rfl, hJ⟩
    rw [F_X3_layBlock_L22, if_pos (nI_le (Nat.le_refl _) (by omega))]
  | succ d ih =>
    intro k fu j hk hfu hJ
    obtain ⟨fu, rfl⟩ : ∃ g, fu = g + 1 := ⟨fu - 1, by omega⟩
    have h0 := hJ (z + k) (by omega)
    have key : ∀ zz, zz < 6 → u2 j b (z + k) (lN (lay (fun i => G i || (decide (z ≤ i / 36 ∧ i / 36 < z + k) && bkP x (x + t - 1) y (y + t) (i % 36))) (z + k) ||| sq)) b zz = lN (lay (fun i => G i || (decide (z ≤ i / 36 ∧ i / 36 < z + (k + 1)) && bkP x (x + t - 1) y (y + t) (i % 36))) zz) := fun zz hzz => by
      by_cases e : zz = z + k
      · subst e
        rw [e_v2e rfl]
        refine congrArg lN ?_
        have hl := lay_lt (fun i => G i || (decide (z ≤ i / 36 ∧ i / 36 < z + k) && bkP x (x + t - 1) y (y + t) (i % 36))) (z + k)
        have hq : sq < 2 ^ 36 := by rw [hsq]; exact bN_lt _ _
        rw [show lay (fun i => G i || (decide (z ≤ i / 36 ∧ i / 36 < z + (k + 1)) && bkP x (x + t - 1) y (y + t) (i % 36))) (z + k) = bN (fun i => G (36 * (z + k) + i) || (decide (z ≤ (36 * (z + k) + i) / 36 ∧ (36 * (z + k) + i) / 36 < z + (k + 1)) && bkP x (x + t - 1) y (y + t) ((36 * (z + k) + i) % 36))) 36 from rfl]
        refine bN_eq (Nat.or_lt_two_pow hl hq) (fun i hi => ?_)
        rw [Nat.testBit_or, lay_tb _ hi, hsq, bN_tb, decide_eq_true hi, Bool.true_and, show (36 * (z + k) + i) / 36 = z + k by omega, show (36 * (z + k) + i) % 36 = i by omega, decide_eq_false (by omega : ¬ (z ≤ z + k ∧ z + k < z + k)), decide_eq_true (by omega : z ≤ z + k ∧ z + k < z + (k + 1)), Bool.false_and, Bool.or_false, Bool.true_and]
      · rw [e_v2k e, hJ zz hzz]
        refine congrArg lN ?_
        unfold lay
        refine bN_cong (fun i hi => ?_)
        have : decide (z ≤ (36 * zz + i) / 36 ∧ (36 * zz + i) / 36 < z + k) = decide (z ≤ (36 * zz + i) / 36 ∧ (36 * zz + i) / 36 < z + (k + 1)) := by
          rw [show (36 * zz + i) / 36 = zz by omega]
          by_cases c : z ≤ zz ∧ zz < z + k
          · rw [decide_eq_true c, decide_eq_true (by omega)]
          · rw [decide_eq_false c, decide_eq_false (by omega)]
        show (G (36 * zz + i) || (decide (z ≤ (36 * zz + i) / 36 ∧ (36 * zz + i) / 36 < z + k) && _)) = (G (36 * zz + i) || (decide (z ≤ (36 * zz + i) / 36 ∧ (36 * zz + i) / 36 < z + (k + 1)) && _))
        rw [this]
    obtain ⟨j', i1, i2, i3⟩ := ih (k + 1) fu _ (by omega) (by omega) key
    refine ⟨j', fun K => ?_, fun c hc => by rw [i2 c hc, e_v2r hc], i3⟩
    rw [← i1 K, F_X3_layBlock_L22, if_neg (nI_ge (by omega) (by omega)), nI_add, if_neg (show ¬ (6 : Int32) ≤ nI (z + k) from nI_ge (b := 6) (by omega) (by decide)), hA _ _ _ (by omega), h0, fb_orL, hS _ _ _ _ (by omega), show nI k + 1 = nI (k + 1) from nI_1 k]
theorem blk_pos {t w X Y Z i : Nat} (ht : 0 < t) (hi : i < 216) (h0 : t * cmp (X, Y, Z) (tu w 0) + t ≤ 6) : blkB t w X Y Z i = (decide (t * cmp (X, Y, Z) (tu w 2) ≤ i / 36 ∧ i / 36 < t * cmp (X, Y, Z) (tu w 2) + t) && bkP (t * cmp (X, Y, Z) (tu w 0)) (t * cmp (X, Y, Z) (tu w 0) + t - 1) (t * cmp (X, Y, Z) (tu w 1)) (t * cmp (X, Y, Z) (tu w 1) + t) (i % 36)) := by
  have k : blkB t w X Y Z i = true ↔ (decide (t * cmp (X, Y, Z) (tu w 2) ≤ i / 36 ∧ i / 36 < t * cmp (X, Y, Z) (tu w 2) + t) && bkP (t * cmp (X, Y, Z) (tu w 0)) (t * cmp (X, Y, Z) (tu w 0) + t - 1) (t * cmp (X, Y, Z) (tu w 1)) (t * cmp (X, Y, Z) (tu w 1) + t) (i % 36)) = true := by
    unfold blkB bkP
    rw [Bool.and_eq_true, Bool.and_eq_true, Bool.and_eq_true, Bool.and_eq_true, Bool.and_eq_true, Bool.and_eq_true, decide_eq_true_eq, decide_eq_true_eq, decide_eq_true_eq, decide_eq_true_eq, decide_eq_true_eq, decide_eq_true_eq, decide_eq_true_eq, decide_eq_true_eq, div_iff ht, div_iff ht, div_iff ht, coo_0, coo_1, coo_2]
    generalize t * cmp (X, Y, Z) (tu w 0) = A
    generalize t * cmp (X, Y, Z) (tu w 1) = B
    generalize t * cmp (X, Y, Z) (tu w 2) = C
    constructor
    · intro h; refine ⟨?_, ?_, ?_, ?_, ?_⟩ <;> omega
    · intro h; refine ⟨⟨?_, ?_⟩, ⟨?_, ?_⟩, ?_, ?_⟩ <;> omega
  cases c : (decide (t * cmp (X, Y, Z) (tu w 2) ≤ i / 36 ∧ i / 36 < t * cmp (X, Y, Z) (tu w 2) + t) && bkP (t * cmp (X, Y, Z) (tu w 0)) (t * cmp (X, Y, Z) (tu w 0) + t - 1) (t * cmp (X, Y, Z) (tu w 1)) (t * cmp (X, Y, Z) (tu w 1) + t) (i % 36))
  · exact ts_nt (fun y => by rw [k.mp y] at c; cases c)
  · exact k.mpr c
theorem C_layBlock {j : JM} {b x y z t : Nat} {G : Nat → Bool} (ht : 1 ≤ t) (hx : x + t ≤ 6) (hy : y + t ≤ 6) (hz : z + t ≤ 6) (hA : ∀ (j : JM) (n : Nat) (f : Int64 → Option (Unit × PM)), n < 6 → aJ (pm m j u) b (nI n) f = f (j b n)) (hS : ∀ (j : JM) (n : Nat) (v : Int64) (f : PM → Option (Unit × PM)), n < 6 → sJ (pm m j u) b (nI n) v f = f (pm m (u2 j b n v) u)) (hJ : ∀ zz, zz < 6 → j b zz = lN (lay G zz)) : ∃ j', F_X3_layBlock b (nI x) (nI y) (nI z) (nI t) (pm m j u) = some ((), pm m j' u) ∧ (∀ c, c ≠ b → j' c = j c) ∧ ∀ zz, zz < 6 → j' b zz = lN (lay (fun i => G i || (decide (z ≤ i / 36 ∧ i / 36 < z + t) && bkP x (x + t - 1) y (y + t) (i % 36))) zz) := by
  obtain ⟨j', a1, a2, a3⟩ := C_blockL (G := G) rfl ht hx hy hz hA hS t 0 LF j (by omega) (by unfold LF; omega) (fun zz hzz => by
    rw [hJ zz hzz]
    refine congrArg lN ?_
    unfold lay
    refine bN_cong (fun i hi => ?_)
    show _ = (G (36 * zz + i) || (decide (z ≤ (36 * zz + i) / 36 ∧ (36 * zz + i) / 36 < z + 0) && _))
    rw [decide_eq_false (by omega), Bool.false_and, Bool.or_false])
  refine ⟨j', ?_, a2, a3⟩
  have e1 : nI x + nI t - 1 = nI (x + t - 1) := by rw [nI_add, show (1 : Int32) = nI 1 from rfl, pk_sub (by omega)]
  have e2 : nI y + nI t - 1 = nI (y + t - 1) := by rw [nI_add, show (1 : Int32) = nI 1 from rfl, pk_sub (by omega)]
  have hb := C_block (x := x) (X := x + t - 1) (y := y) (Y := y + t - 1) (by omega) (by omega) (by omega) (by omega) (pm m j u)
  rw [show y + t - 1 + 1 = y + t by omega] at hb
  unfold F_X3_layBlock
  rw [e1, e2, hb, e_cl, e_jn]
  exact a1 _
theorem C_turned {X Y Z b : Nat} (hb : b < 3) (h : PM) : F_X3_turned (nI X) (nI Y) (nI Z) (nI b) h = some (nI (cmp (X, Y, Z) b), h) := by
  unfold F_X3_turned
  rw [e_jn]
  rcases (show b = 0 ∨ b = 1 ∨ b = 2 by omega) with rfl | rfl | rfl
  · rw [if_neg (show ¬ ¬ nI 0 = 0 from fun z => z rfl)]; rfl
  · rw [if_pos (show ¬ nI 1 = 0 by decide), if_neg (show ¬ ¬ nI 1 = 1 from fun z => z rfl)]; rfl
  · rw [if_pos (show ¬ nI 2 = 0 by decide), if_pos (show ¬ nI 2 = 1 by decide)]; rfl
/-- the sizes of a cell, laid in one way -/
theorem C_cellL {a g w X Y Z : Nat} {G : Nat → Nat → Nat → Bool} (hO : MoO u a) (hg : g ≤ 6) (h4 : m a 4 = nI g) (hw : w < 6) (hb : ∀ t, t ≤ g → ∀ b, b < 3 → t * cmp (X, Y, Z) b + t ≤ 6) : ∀ (d t fu : Nat) (j : JM), t + d = g + 1 → d < fu → 1 ≤ t → GM j a g (fun t' w' i => G t' w' i || (decide (t' < t ∧ w' = w) && blkB t' w' X Y Z i)) →
    ∃ j', (∀ K, F_X3_layCell_L55 a (nI w) (nI (cmp (X, Y, Z) (tu w 0))) (nI (cmp (X, Y, Z) (tu w 1))) (nI (cmp (X, Y, Z) (tu w 2))) K fu (nI t) (pm m j u) = K (pm m j' u)) ∧ (∀ c, (c < a + 4 ∨ a + 40 ≤ c) → j' c = j c) ∧ GM j' a g (fun t' w' i => G t' w' i || (decide (t' < g + 1 ∧ w' = w) && blkB t' w' X Y Z i)) := by
  intro d
  induction d with
  | zero =>
    intro t fu j ht hfu h1 hG
    obtain ⟨fu, rfl⟩ : ∃ g, fu = g + 1 := ⟨fu - 1, by omega⟩
    have e : t = g + 1 := by omega
    subst e
    refine ⟨j, fun K => ?_, fun _ _ => rfl, hG⟩
    rw [F_X3_layCell_L55, mG hO, h4, if_pos (nI_lt (by omega) (by omega))]
  | succ d ih =>
    intro t fu j ht hfu h1 hG
    obtain ⟨fu, rfl⟩ : ∃ g, fu = g + 1 := ⟨fu - 1, by omega⟩
    have ht6 : t ≤ g := by omega
    have b0 := hb t ht6 _ (tu_lt w hw 0 (by decide)).1
    have b1 := hb t ht6 _ (tu_lt w hw 1 (by decide)).1
    have b2 := hb t ht6 _ (tu_lt w hw 2 (by decide)).1
    have hrow : 6 * (t - 1) + w < 36 := by omega
    have hJ : ∀ zz, zz < 6 → j (a + 4 + (6 * (t - 1) + w)) zz = lN (lay (fun i => G t w i) zz) := fun zz hzz => by
      rw [hG t w zz h1 ht6 hw hzz]
      refine congrArg lN ?_
      unfold lay
      refine bN_cong (fun i hi => ?_)
      show (G t w (36 * zz + i) || (decide (t < t ∧ w = w) && _)) = G t w (36 * zz + i)
      rw [decide_eq_false (by omega), Bool.false_and, Bool.or_false]
    obtain ⟨j1, a1, a2, a3⟩ := C_layBlock (m := m) (u := u) (j := j) (b := a + 4 + (6 * (t - 1) + w)) (G := fun i => G t w i) h1 b0 b1 b2 (fun j n f hn => mA4 hO hrow hn) (fun j n v f hn => mS4 hO hrow hn) hJ
    obtain ⟨j', i1, i2, i3⟩ := ih (t + 1) fu j1 (by omega) (by omega) (by omega) (fun t' w' z q1 q2 q3 q4 => by
      by_cases e : t' = t ∧ w' = w
      · obtain ⟨rfl, rfl⟩ := e
        rw [a3 z q4]
        refine congrArg lN ?_
        unfold lay
        refine bN_cong (fun i hi => ?_)
        show (G t' w' (36 * z + i) || _) = (G t' w' (36 * z + i) || (decide (t' < t' + 1 ∧ w' = w') && blkB t' w' X Y Z (36 * z + i)))
        rw [decide_eq_true (show t' < t' + 1 ∧ w' = w' from ⟨by omega, rfl⟩), Bool.true_and, blk_pos (by omega) (by omega) b0]
      · have hne : a + 4 + (6 * (t' - 1) + w') ≠ a + 4 + (6 * (t - 1) + w) := fun y => e (by omega)
        rw [a2 _ hne, hG t' w' z q1 q2 q3 q4]
        refine congrArg lN ?_
        unfold lay
        refine bN_cong (fun i hi => ?_)
        show (G t' w' (36 * z + i) || (decide (t' < t ∧ w' = w) && blkB t' w' X Y Z (36 * z + i))) = (G t' w' (36 * z + i) || (decide (t' < t + 1 ∧ w' = w) && blkB t' w' X Y Z (36 * z + i)))
        by_cases c : t' < t ∧ w' = w
        · rw [decide_eq_true c, decide_eq_true ⟨by omega, c.2⟩]
        · rw [decide_eq_false c, decide_eq_false (fun y => by
            have : t' ≠ t := fun z => e ⟨z, y.2⟩
            exact c ⟨by omega, y.2⟩)])
    refine ⟨j', fun K => ?_, fun c hc => by rw [i2 c hc, a2 c (by omega)], i3⟩
    have em : nI (t - 1) * nI 6 + nI w = nI (6 * (t - 1) + w) := by rw [pk_mul, nI_add, Nat.mul_comm]
    rw [← i1 K, F_X3_layCell_L55, mG hO, h4, if_neg (nI_nlt (by omega) (by omega)), if_neg (show ¬ (6 : Int32) < nI t from nI_nlt (a := 6) (by omega) (by decide)), mR2 hO]
    unfold F_X3_maskOf
    rw [show nI t - 1 = nI (t - 1) from by rw [show (1 : Int32) = nI 1 from rfl, pk_sub h1], show (6 : Int32) = nI 6 from rfl, em, e_cl, mA3 hO hrow, pk_mul, pk_mul, pk_mul, a1, e_cl, show nI t + 1 = nI (t + 1) from nI_1 t]
theorem C_layCell (hc : CS u) {j : JM} {a g w X Y Z : Nat} {G : Nat → Nat → Nat → Bool} (hO : MoO u a) (hg : g ≤ 6) (h4 : m a 4 = nI g) (hT : TU m) (hw : w < 6) (hb : ∀ t, t ≤ g → ∀ b, b < 3 → t * cmp (X, Y, Z) b + t ≤ 6) (hG : GM j a g G) : ∃ j', F_X3_layCell a (nI X) (nI Y) (nI Z) (nI w) (pm m j u) = some ((), pm m j' u) ∧ (∀ c, (c < a + 4 ∨ a + 40 ≤ c) → j' c = j c) ∧ GM j' a g (fun t' w' i => G t' w' i || (decide (w' = w) && blkB t' w' X Y Z i)) := by
  obtain ⟨j', a1, a2, a3⟩ := C_cellL (m := m) (G := G) hO hg h4 hw hb g 1 LF j (by omega) (by unfold LF; omega) (by omega) (fun t' w' z q1 q2 q3 q4 => by
    rw [hG t' w' z q1 q2 q3 q4]
    refine congrArg lN ?_
    unfold lay
    refine bN_cong (fun i hi => ?_)
    show G t' w' (36 * z + i) = (G t' w' (36 * z + i) || (decide (t' < 1 ∧ w' = w) && _))
    rw [decide_eq_false (by omega), Bool.false_and, Bool.or_false])
  refine ⟨j', ?_, a2, fun t' w' z q1 q2 q3 q4 => ?_⟩
  · have t0 := hT w hw 0 (by decide)
    have t1 := hT w hw 1 (by decide)
    have t2 := hT w hw 2 (by decide)
    rw [Nat.add_zero] at t0
    unfold F_X3_layCell
    rw [show (3 : Int32) * nI w = nI (3 * w) from pk_mul 3 w, cA_1 hc (by omega), t0, C_turned (tu_lt w hw 0 (by decide)).1, e_cl, show nI (3 * w) + 1 = nI (3 * w + 1) from nI_1 _, cA_1 hc (by omega), t1, C_turned (tu_lt w hw 1 (by decide)).1, e_cl, show nI (3 * w) + 2 = nI (3 * w + 2) from nI_add _ 2, cA_1 hc (by omega), t2, C_turned (tu_lt w hw 2 (by decide)).1, e_cl, e_jn]
    exact a1 _
  · rw [a3 t' w' z q1 q2 q3 q4]
    refine congrArg lN ?_
    unfold lay
    refine bN_cong (fun i hi => ?_)
    show (G t' w' (36 * z + i) || (decide (t' < g + 1 ∧ w' = w) && _)) = (G t' w' (36 * z + i) || (decide (w' = w) && _))
    by_cases c : w' = w
    · rw [decide_eq_true c, decide_eq_true (show t' < g + 1 ∧ w' = w from ⟨by omega, c⟩)]
    · rw [decide_eq_false c, decide_eq_false (fun y => c y.2)]
end CMK
