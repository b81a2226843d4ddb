/-! ===== the class: where a laid model may begin ===== -/
def bkP (x X y k i : Nat) : Bool := decide (x ≤ i % 6) && (decide (i % 6 ≤ X) && (decide (y ≤ i / 6) && decide (i / 6 < k)))
theorem row_eq : ∀ X, X < 6 → ∀ x, x ≤ X → (1 : Int64) <<< ((nI (X + 1)).toInt64 &&& 63) - (1 : Int64) <<< ((nI x).toInt64 &&& 63) = lN (2 ^ (X + 1) - 2 ^ x) := by decide +kernel
theorem row_tb6 : ∀ X, X < 6 → ∀ x, x ≤ X → ∀ j, j < 6 → (2 ^ (X + 1) - 2 ^ x).testBit j = (decide (x ≤ j) && decide (j ≤ X)) := by decide +kernel
theorem row_tb {X x : Nat} (hX : X < 6) (hx : x ≤ X) (j : Nat) : (2 ^ (X + 1) - 2 ^ x).testBit j = (decide (x ≤ j) && decide (j ≤ X)) := by
  by_cases c : j < 6
  · exact row_tb6 X hX x hx j c
  · have h : 2 ^ (X + 1) ≤ 2 ^ 6 := Nat.pow_le_pow_right (by decide) (by omega)
    have h2 : 2 ^ 6 ≤ 2 ^ j := Nat.pow_le_pow_right (by decide) (by omega)
    have h3 := Nat.two_pow_pos x
    rw [Nat.testBit_lt_two_pow (by omega), decide_eq_false (by omega : ¬ j ≤ X), Bool.and_false]
theorem C_blkL {X x y Y : Nat} (hX : X < 6) (hx : x ≤ X) (hY : Y < 6) (K : Int64 → PM → Option (Int64 × PM)) (h : PM) : ∀ (d k fu : Nat), k + d = Y + 1 → d < fu → y ≤ k →
    F_X3_block_L17 (nI Y) (lN (2 ^ (X + 1) - 2 ^ x)) K fu (lN (bN (bkP x X y k) 36)) (nI k) h = K (lN (bN (bkP x X y (Y + 1)) 36)) h := by
  intro d
  induction d with
  | zero =>
    intro k fu hk hfu hy
    obtain ⟨fu, rfl⟩ : ∃ g, fu = g + 1 := ⟨fu - 1, by omega⟩
    have e : k = Y + 1 := by omega
    subst e
    rw [F_X3_block_L17, if_pos (nI_lt (by omega) (by omega))]
  | succ d ih =>
    intro k fu hk hfu hy
    obtain ⟨fu, rfl⟩ : ∃ g, fu = g + 1 := ⟨fu - 1, by omega⟩
    have hi := ih (k + 1) fu (by omega) (by omega) (by omega)
    have e6 : (6 : Int32) * nI k = nI (6 * k) := pk_mul 6 k
    have eo : (bN (bkP x X y k) 36 ||| (2 ^ (X + 1) - 2 ^ x) * 2 ^ (6 * k)) = bN (bkP x X y (k + 1)) 36 := ?_
    · rw [F_X3_block_L17, if_neg (nI_nlt (by omega) (by omega)), e_lt, e6, wb_shl _ (show 6 * k < 64 by omega), fb_orL, show nI k + 1 = nI (k + 1) from nI_1 k, eo]
      exact hi
    refine bN_eq ?_ (fun i hi => ?_)
    · have h1 := bN_lt (bkP x X y k) 36
      have h2 : 2 ^ (X + 1) - 2 ^ x < 2 ^ 6 := by
        have : 2 ^ (X + 1) ≤ 2 ^ 6 := Nat.pow_le_pow_right (by decide) (by omega)
        have := Nat.two_pow_pos x
        omega
      refine Nat.or_lt_two_pow h1 ?_
      have : 2 ^ (6 * k) ≤ 2 ^ 30 := Nat.pow_le_pow_right (by decide) (by omega)
      have := Nat.mul_le_mul (show 2 ^ (X + 1) - 2 ^ x ≤ 2 ^ 6 - 1 by omega) this
      omega
    · rw [Nat.testBit_or, bN_tb, decide_eq_true hi, Bool.true_and, Nat.testBit_mul_two_pow, row_tb hX hx]
      unfold bkP
      by_cases c : i / 6 = k
      · rw [decide_eq_false (by omega : ¬ i / 6 < k), decide_eq_true (by omega : i / 6 < k + 1), decide_eq_true (by omega : y ≤ i / 6), decide_eq_true (by omega : 6 * k ≤ i), Bool.and_false, Bool.and_false, Bool.and_false, Bool.false_or, Bool.true_and, show i - 6 * k = i % 6 by omega, Bool.and_true, Bool.and_true]
      · by_cases c2 : i / 6 < k
        · rw [decide_eq_true c2, decide_eq_true (by omega : i / 6 < k + 1), decide_eq_false (by omega : ¬ 6 * k ≤ i), Bool.false_and, Bool.or_false]
        · rw [decide_eq_false c2, decide_eq_false (by omega : ¬ i / 6 < k + 1), Bool.and_false, Bool.and_false, Bool.and_false, Bool.false_or, decide_eq_false (by omega : ¬ i - 6 * k ≤ X), Bool.and_false, Bool.and_false]
theorem C_block {X x y Y : Nat} (hX : X < 6) (hx : x ≤ X) (hY : Y < 6) (hy : y ≤ Y + 1) (h : PM) : F_X3_block (nI x) (nI X) (nI y) (nI Y) h = some (lN (bN (bkP x X y (Y + 1)) 36), h) := by
  have z : lN (bN (bkP x X y y) 36) = 0 := by
    have : bN (bkP x X y y) 36 = bN (fun _ => false) 36 := bN_cong (fun i _ => by
      unfold bkP
      by_cases c : y ≤ i / 6
      · rw [decide_eq_false (by omega : ¬ i / 6 < y), Bool.and_false, Bool.and_false, Bool.and_false]
      · rw [decide_eq_false c, Bool.false_and, Bool.and_false, Bool.and_false])
    rw [this]; decide
  have hL := C_blkL hX hx hY (fun (v2 : Int64) (h3 : PM) => some (v2, h3)) h (Y + 1 - y) y LF (by omega) (by unfold LF; omega) (Nat.le_refl _)
  unfold F_X3_block
  rw [show nI X + 1 = nI (X + 1) from nI_1 X, e_lt, e_jn, row_eq X hX x hx]
  rw [z] at hL
  exact hL
/-- starts on a layer, by its bits and the mask's -/
def sos (L So R : Nat) : Nat := bN (fun s => L.testBit s && alB (fun b => !R.testBit b || So.testBit (s + b)) 36) 36
theorem sos_0 {L So : Nat} (hL : L < 2 ^ 36) : sos L So 0 = L := by
  unfold sos
  refine (bN_eq hL (fun i hi => ?_)).symm
  rw [alB_t.mpr (fun b _ => by rw [Nat.zero_testBit]; rfl), Bool.and_true]
theorem sos_L0 {So R : Nat} : sos 0 So R = 0 := by
  unfold sos
  refine (bN_eq (by decide) (fun i hi => ?_)).symm
  rw [Nat.zero_testBit, Bool.false_and]
theorem sos_s {L So R b : Nat} (hL : L < 2 ^ 36) (hR : R < 2 ^ 36) (hb : LB R b) : sos L So R = sos (L &&& (So / 2 ^ b)) So (R &&& (R - 1)) := by
  have hb36 := LB_lt hb hR
  unfold sos
  refine bN_cong (fun s hs => ?_)
  rw [Nat.testBit_and, Nat.testBit_div_two_pow, Bool.and_assoc]
  congr 1
  have k1 : (alB (fun b => !R.testBit b || So.testBit (s + b)) 36 = true) ↔ ((So.testBit (s + b) && alB (fun b => !(R &&& (R - 1)).testBit b || So.testBit (s + b)) 36) = true) := by
    rw [Bool.and_eq_true, alB_t, alB_t]
    constructor
    · intro h
      refine ⟨?_, fun c hc => ?_⟩
      · have := h b hb36
        rw [hb.1] at this
        exact this
      · have := h c hc
        rw [LB_rest hb]
        cases z : R.testBit c
        · rfl
        · rw [z] at this
          have this : So.testBit (s + c) = true := this
          rw [this, Bool.or_true]
    · intro ⟨h1, h2⟩ c hc
      by_cases e : c = b
      · rw [e, h1, Bool.or_true]
      · have := h2 c hc
        rw [LB_rest hb, decide_eq_true e, Bool.and_true] at this
        exact this
  cases c : (So.testBit (s + b) && alB (fun b => !(R &&& (R - 1)).testBit b || So.testBit (s + b)) 36)
  · exact ts_nt (fun z => by rw [k1.mp z] at c; cases c)
  · exact k1.mpr c
theorem lN0 {L : Nat} (h : L < 2 ^ 36) : (lg_cmp (lN L) 0 = 0) ↔ L = 0 := by
  rw [lg_cmp_eq, show (0 : Int64) = lN 0 from rfl, fb_lN_inj (by omega) (by decide)]
theorem C_sosL {So : Nat} (hSo : So < 2 ^ 36) (K : Int64 → PM → Option (Int64 × PM)) (h : PM) : ∀ (d k fu L R : Nat), k + d = 36 → d < fu → L < 2 ^ 36 → R < 2 ^ 36 → fb_ct R.testBit 36 + k ≤ 36 →
    F_X7_startsOnSound_L10 (lN So) K fu (lN L) (lN R) (nI k) h = K (lN (sos L So R)) h := by
  intro d
  induction d with
  | zero =>
    intro k fu L R hk hfu hL hR hct
    obtain ⟨fu, rfl⟩ : ∃ g, fu = g + 1 := ⟨fu - 1, by omega⟩
    have e : k = 36 := by omega
    subst e
    have z := zero_of hR (by omega)
    subst z
    rw [sos_0 hL, F_X7_startsOnSound_L10, if_pos (show (36 : Int32) ≤ nI 36 by decide)]
  | succ d ih =>
    intro k fu L R hk hfu hL hR hct
    obtain ⟨fu, rfl⟩ : ∃ g, fu = g + 1 := ⟨fu - 1, by omega⟩
    rw [F_X7_startsOnSound_L10, if_neg (show ¬ (36 : Int32) ≤ nI k from nI_ge (b := 36) (by omega) (by decide))]
    by_cases z : R = 0
    · subst z
      rw [sos_0 hL, if_pos ((lN0 hR).mpr rfl)]
    · rw [if_neg (fun y => z ((lN0 hR).mp y))]
      by_cases z2 : L = 0
      · subst z2
        rw [sos_L0, if_pos ((lN0 hL).mpr rfl)]
      · obtain ⟨b, hb⟩ := LB_ex z
        have hb36 := LB_lt hb hR
        rw [if_neg (fun y => z2 ((lN0 hL).mp y)), C_low hb (by omega), e_cl, e_lt, e_lt, wb_shr (show So < 2 ^ 64 by omega) (show b < 64 by omega), fb_andL, show lN R - 1 = lN (R - 1) from lN_sub (b := 1) (by omega), fb_andL, show nI k + 1 = nI (k + 1) from nI_1 k]
        have ct : fb_ct (R &&& (R - 1)).testBit 36 + 1 = fb_ct R.testBit 36 := by
          have := fb_ct_upd R.testBit false hb36
          rw [hb.1] at this
          have e : fb_ct (R &&& (R - 1)).testBit 36 = fb_ct (fun x => if x = b then false else R.testBit x) 36 := fb_ct_cong (fun x _ => by
            rw [LB_rest hb]
            show _ = if x = b then false else R.testBit x
            by_cases e : x = b
            · rw [if_pos e, decide_eq_false (fun z => z e), Bool.and_false]
            · rw [if_neg e, decide_eq_true e, Bool.and_true])
          rw [e]; exact this
        rw [ih (k + 1) fu (L &&& So / 2 ^ b) (R &&& (R - 1)) (by omega) (by omega) (Nat.lt_of_le_of_lt Nat.and_le_left hL) (Nat.lt_of_le_of_lt Nat.and_le_left hR) (by omega), ← sos_s hL hR hb]
theorem C_sos {So L R : Nat} (hSo : So < 2 ^ 36) (hL : L < 2 ^ 36) (hR : R < 2 ^ 36) (h : PM) : F_X7_startsOnSound (lN L) (lN So) (lN R) h = some (lN (sos L So R), h) := by
  unfold F_X7_startsOnSound
  rw [e_jn]
  exact C_sosL hSo _ h 36 0 LF L R (by omega) (by unfold LF; omega) hL hR (fb_ct_le _ _)
/-- starts in a row, after k layers of the mask -/
def sir (L : Nat) (S M : Nat → Bool) (z k : Nat) : Nat := bN (fun s => L.testBit s && alB (fun i => !M i || (decide (s + i % 36 < 36) && S (36 * (z + i / 36) + (s + i % 36)))) (36 * k)) 36
theorem sir_lt {L : Nat} {S M : Nat → Bool} {z k : Nat} : sir L S M z k < 2 ^ 36 := bN_lt _ _
theorem sir_s {L : Nat} {S M : Nat → Bool} {z k : Nat} : sos (sir L S M z k) (lay S (z + k)) (lay M k) = sir L S M z (k + 1) := by
  unfold sos sir
  refine bN_cong (fun s hs => ?_)
  rw [bN_tb, decide_eq_true hs, Bool.true_and, Bool.and_assoc]
  congr 1
  have k1 : ((alB (fun i => !M i || (decide (s + i % 36 < 36) && S (36 * (z + i / 36) + (s + i % 36)))) (36 * k) && alB (fun b => !(lay M k).testBit b || (lay S (z + k)).testBit (s + b)) 36) = true) ↔ (alB (fun i => !M i || (decide (s + i % 36 < 36) && S (36 * (z + i / 36) + (s + i % 36)))) (36 * (k + 1)) = true) := by
    rw [Bool.and_eq_true, alB_t, alB_t, alB_t]
    have cell : ∀ b, b < 36 → ((!(lay M k).testBit b || (lay S (z + k)).testBit (s + b)) = (!M (36 * k + b) || (decide (s + (36 * k + b) % 36 < 36) && S (36 * (z + (36 * k + b) / 36) + (s + (36 * k + b) % 36))))) := fun b hb => by
      rw [lay_tb M hb, show (36 * k + b) % 36 = b by omega, show (36 * k + b) / 36 = k by omega]
      congr 1
      by_cases c : s + b < 36
      · rw [lay_tb S c, decide_eq_true c, Bool.true_and]
      · rw [decide_eq_false c, Bool.false_and]
        exact Nat.testBit_lt_two_pow (Nat.lt_of_lt_of_le (lay_lt S (z + k)) (Nat.pow_le_pow_right (by decide) (by omega)))
    constructor
    · intro ⟨h1, h2⟩ i hi
      by_cases c : i < 36 * k
      · exact h1 i c
      · have := h2 (i - 36 * k) (by omega)
        rw [cell _ (by omega), show 36 * k + (i - 36 * k) = i by omega] at this
        exact this
    · intro h1
      exact ⟨fun i hi => h1 i (by omega), fun b hb => by rw [cell b hb]; exact h1 (36 * k + b) (by omega)⟩
  cases c : alB (fun i => !M i || (decide (s + i % 36 < 36) && S (36 * (z + i / 36) + (s + i % 36)))) (36 * (k + 1))
  · exact ts_nt (fun y => by rw [k1.mp y] at c; cases c)
  · exact k1.mpr c
theorem sir_0 {L : Nat} {S M : Nat → Bool} {z : Nat} (hL : L < 2 ^ 36) : sir L S M z 0 = L := by
  unfold sir
  refine (bN_eq hL (fun i hi => ?_)).symm
  rw [Nat.mul_zero, show alB (fun i' => !M i' || (decide (i + i' % 36 < 36) && S (36 * (z + i' / 36) + (i + i' % 36)))) 0 = true from rfl, Bool.and_true]
theorem sir_z {L : Nat} {S M : Nat → Bool} {z k : Nat} (h : sir L S M z k = 0) : ∀ k', k ≤ k' → sir L S M z k' = 0 := by
  intro k' hk
  induction hk with
  | refl => exact h
  | step _ ih => rw [← sir_s, ih, sos_L0]
section CSEARCH
variable {m : IM} {j : JM} {u : SU}
theorem C_rowL (hc : CS u) {a b z f2 L : Nat} {S M : Nat → Bool} (hL : L < 2 ^ 36) (h74 : m 74 2 = nI f2) (hz : z + f2 ≤ 6) (hA : ∀ i, i < 6 → ∀ f : Int64 → Option (Int64 × PM), aJ (pm m j u) a (nI i) f = f (lN (lay S i))) (hB : ∀ i, i < 6 → ∀ f : Int64 → Option (Int64 × PM), aJ (pm m j u) b (nI i) f = f (lN (lay M i))) (K : Int64 → PM → Option (Int64 × PM)) : ∀ (d k fu : Nat), k + d = f2 → d < fu →
    F_X7_startsInRow_L7 70 a b (nI z) K fu (lN (sir L S M z k)) (nI k) (pm m j u) = K (lN (sir L S M z f2)) (pm m j u) := by
  intro d
  induction d with
  | zero =>
    intro k fu hk hfu
    obtain ⟨fu, rfl⟩ : ∃ g, fu = g + 1 := ⟨fu - 1, by omega⟩
    have e : k = f2 := by omega
    subst e
    rw [F_X7_startsInRow_L7]
    simp (disch := omega) only [e_cl, e_jn, e_lt, e_cxl, e_cxr, e_rzn, ↓l_m1, ↓l_m2, ↓l_m8, l_0, l_1, l_2, l_3, l_4, l_5, l_6, l_7, l_8, l_9, l_10, l_12, l_16, l_20, l_24, l_31, l_32, l_35, l_36, l_40, l_44, l_48, l_59, l_63, l_64, l_90, l_95, l_96, l_100, l_120, l_127, l_200, l_216, l_255, l_999, l_1000, l_10000, l_1000000, l_1048575, l_1000000000, nI_add, pk_mul, pk_sub, nI_leI, nI_ltI, nI_eq, nI_dec, nI_o0, mx_n, mn_n, ab_1, ab_n, e_u2e, e_u2k, e_u2a, if_pos, if_neg, if_true, if_false, not_true, not_false_eq_true, ne_eq, Nat.add_zero, Nat.zero_add, cG_70 hc, cP_70 hc, cT_70 hc, cR_70_0 hc, cR_70_1 hc, cR_70_2 hc, cA_73 hc, cS_73 hc, cR_70_3 hc, cA_74 hc, cS_74 hc, h74]
  | succ d ih =>
    intro k fu hk hfu
    obtain ⟨fu, rfl⟩ : ∃ g, fu = g + 1 := ⟨fu - 1, by omega⟩
    have hi := ih (k + 1) fu (by omega) (by omega)
    have cs := C_sos (So := lay S (z + k)) (L := sir L S M z k) (R := lay M k) (lay_lt _ _) sir_lt (lay_lt _ _) (pm m j u)
    rw [sir_s] at cs
    have ea := hA (z + k) (by omega)
    have eb := hB k (by omega)
    have l0 := lN0 (L := sir L S M z k) sir_lt
    rw [F_X7_startsInRow_L7]
    by_cases c : sir L S M z k = 0
    · have e0 : (lg_cmp (lN (sir L S M z k)) 0 = 0) = True := eq_true (l0.mpr c)
      rw [cR_70_3 hc, show (2 : Int32) = nI 2 from rfl, cA_74 hc (by decide), h74, if_neg (nI_ge (by omega) (by omega)), nI_add, if_neg (show ¬ (6 : Int32) ≤ nI (z + k) from nI_ge (b := 6) (by omega) (by decide)), if_pos (l0.mpr c), c, sir_z c f2 (by omega)]
    · rw [cR_70_3 hc, show (2 : Int32) = nI 2 from rfl, cA_74 hc (by decide), h74, if_neg (nI_ge (by omega) (by omega)), nI_add, if_neg (show ¬ (6 : Int32) ≤ nI (z + k) from nI_ge (b := 6) (by omega) (by decide)), if_neg (fun z => c (l0.mp z)), ea, eb, cs, e_cl, show nI k + 1 = nI (k + 1) from nI_1 k]
      exact hi
end CSEARCH
