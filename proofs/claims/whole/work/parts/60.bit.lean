/-! ===== bits: bitCount, lowest bit, holds ===== -/
def nb4 (n : Nat) : Nat := n % 2 + n / 2 % 2 + n / 4 % 2 + n / 8 % 2
/-- the bits of each nibble counted, nibble by nibble -/
def nbs : Nat → Nat → Nat
  | 0, _ => 0
  | k + 1, B => nb4 (B % 16) + 16 * nbs k (B / 16)
def M5 : Nat → Nat
  | 0 => 0
  | k + 1 => 5 + 16 * M5 k
def M3 : Nat → Nat
  | 0 => 0
  | k + 1 => 3 + 16 * M3 k
theorem and16 {a b c d : Nat} (ha : a < 16) (hc : c < 16) : (a + 16 * b) &&& (c + 16 * d) = (a &&& c) + 16 * (b &&& d) := by
  have h1 : (a &&& c) < 16 := Nat.lt_of_le_of_lt Nat.and_le_left ha
  rw [Nat.add_comm a, Nat.add_comm c, Nat.add_comm (a &&& c), show (16 : Nat) = 2 ^ 4 from rfl]
  apply Nat.eq_of_testBit_eq
  intro i
  rw [Nat.testBit_and, Nat.testBit_two_pow_mul_add _ ha, Nat.testBit_two_pow_mul_add _ hc, Nat.testBit_two_pow_mul_add _ h1]
  by_cases c : i < 4
  · rw [if_pos c, if_pos c, if_pos c, Nat.testBit_and]
  · rw [if_neg c, if_neg c, if_neg c, Nat.testBit_and]
theorem nib_a : ∀ b, b < 16 → ∀ e, e < 2 → ((b / 2 + 8 * e) &&& 5) = (b / 2 &&& 5) ∧ (b / 2 &&& 5) ≤ b ∧ b - (b / 2 &&& 5) < 16 := by decide +kernel
theorem nib_b : ∀ b, b < 16 → ∀ e, e < 4 → (((b - (b / 2 &&& 5)) &&& 3) + (((b - (b / 2 &&& 5)) / 4 + 4 * e) &&& 3)) = nb4 b := by decide +kernel
def sw1 (k B : Nat) : Nat := B - (B / 2 &&& M5 k)
theorem sw1_s (k B : Nat) : sw1 (k + 1) B = (B % 16 - (B % 16 / 2 &&& 5)) + 16 * sw1 k (B / 16) ∧ sw1 k (B / 16) ≤ B / 16 := by
  have h1 : B / 2 = (B % 16 / 2 + 8 * (B / 16 % 2)) + 16 * (B / 16 / 2) := by omega
  obtain ⟨n1, n2, n3⟩ := nib_a (B % 16) (by omega) (B / 16 % 2) (by omega)
  have h2 : (B / 16 / 2 &&& M5 k) ≤ B / 16 := Nat.le_trans Nat.and_le_left (by omega)
  unfold sw1
  rw [show M5 (k + 1) = 5 + 16 * M5 k from rfl, h1, and16 (by omega) (by decide), n1]
  omega
theorem sw2 : ∀ (k B : Nat), (sw1 k B &&& M3 k) + (sw1 k B / 4 &&& M3 k) = nbs k B
  | 0, B => by show (_ &&& 0) + (_ &&& 0) = 0; rw [Nat.and_zero, Nat.and_zero]
  | k + 1, B => by
    obtain ⟨e, -⟩ := sw1_s k B
    have ih := sw2 k (B / 16)
    obtain ⟨n1, n2, n3⟩ := nib_a (B % 16) (by omega) 0 (by omega)
    have n4 := nib_b (B % 16) (by omega) (sw1 k (B / 16) % 4) (by omega)
    generalize B % 16 - (B % 16 / 2 &&& 5) = b at *
    generalize sw1 k (B / 16) = q at *
    have h1 : (b + 16 * q) / 4 = (b / 4 + 4 * (q % 4)) + 16 * (q / 4) := by omega
    rw [e, show M3 (k + 1) = 3 + 16 * M3 k from rfl, h1, and16 (by omega) (by decide), and16 (by omega) (by decide), nbs]
    omega
theorem nb4_le : ∀ b, b < 16 → nb4 b ≤ 4 := by decide +kernel
theorem nbs_low (k B : Nat) : nbs k B % 16 ≤ 4 := by
  cases k with
  | zero => show 0 % 16 ≤ 4; decide
  | succ k => rw [nbs]; have := nb4_le (B % 16) (by omega); omega
def MF : Nat → Nat
  | 0 => 0
  | k + 1 => 15 + 256 * MF k
def nby : Nat → Nat → Nat
  | 0, _ => 0
  | k + 1, B => (nb4 (B % 16) + nb4 (B / 16 % 16)) + 256 * nby k (B / 256)
theorem and256 {a b c d : Nat} (ha : a < 16) (he : c < 16) : (a + 16 * c + 256 * b) &&& (15 + 256 * d) = a + 256 * (b &&& d) := by
  rw [show a + 16 * c + 256 * b = a + 16 * (c + 16 * b) by omega, show 15 + 256 * d = 15 + 16 * (0 + 16 * d) by omega, and16 ha (by decide), and16 he (by decide)]
  rw [show a &&& 15 = a from by rw [Nat.and_two_pow_sub_one_eq_mod a 4]; omega, Nat.and_zero]
  omega
theorem sw3 : ∀ (k B : Nat), (nbs (2 * k) B + nbs (2 * k) B / 16) &&& MF k = nby k B
  | 0, B => by show _ &&& 0 = 0; rw [Nat.and_zero]
  | k + 1, B => by
    have ih := sw3 k (B / 256)
    have e : nbs (2 * (k + 1)) B = nb4 (B % 16) + 16 * (nb4 (B / 16 % 16) + 16 * nbs (2 * k) (B / 256)) := by
      rw [show 2 * (k + 1) = 2 * k + 1 + 1 from rfl, nbs, nbs, show B / 16 / 16 = B / 256 by omega]
    have l0 := nbs_low (2 * k) (B / 256)
    have l1 := nb4_le (B % 16) (by omega)
    have l2 := nb4_le (B / 16 % 16) (by omega)
    rw [e, nby, ← ih, show MF (k + 1) = 15 + 256 * MF k from rfl]
    generalize nbs (2 * k) (B / 256) = q at *
    generalize nb4 (B % 16) = a at *
    generalize nb4 (B / 16 % 16) = b at *
    rw [show a + 16 * (b + 16 * q) + (a + 16 * (b + 16 * q)) / 16 = (a + b) + 16 * (b + q % 16) + 256 * (q + q / 16) by omega, and256 (by omega) (by omega)]
theorem nb4_ct : ∀ b, b < 16 → fb_ct b.testBit 4 = nb4 b := by decide +kernel
theorem tb_mod16 (B i : Nat) (h : i < 4) : B.testBit i = (B % 16).testBit i := by
  rw [show (16 : Nat) = 2 ^ 4 from rfl, Nat.testBit_mod_two_pow, decide_eq_true h, Bool.true_and]
theorem ct_nib (B n : Nat) : fb_ct B.testBit (4 + n) = nb4 (B % 16) + fb_ct (B / 16).testBit n := by
  rw [fb_ct_split, ← nb4_ct _ (Nat.mod_lt _ (by decide)), fb_ct_cong (fun k hk => tb_mod16 B k hk)]
  congr 1
  apply fb_ct_cong
  intro k hk
  rw [show (16 : Nat) = 2 ^ 4 from rfl, Nat.testBit_div_two_pow, Nat.add_comm]
theorem nby_sum (B : Nat) : ∃ c0 c1 c2 c3 c4 c5 c6 c7, nby 8 B = c0 + 256 * (c1 + 256 * (c2 + 256 * (c3 + 256 * (c4 + 256 * (c5 + 256 * (c6 + 256 * c7)))))) ∧ (c0 ≤ 8 ∧ c1 ≤ 8 ∧ c2 ≤ 8 ∧ c3 ≤ 8 ∧ c4 ≤ 8 ∧ c5 ≤ 8 ∧ c6 ≤ 8 ∧ c7 ≤ 8) ∧ fb_ct B.testBit 64 = c0 + c1 + c2 + c3 + c4 + c5 + c6 + c7 := by
  have st : ∀ (B n : Nat), fb_ct B.testBit (8 + n) = (nb4 (B % 16) + nb4 (B / 16 % 16)) + fb_ct (B / 256).testBit n := fun B n => by
    rw [show 8 + n = 4 + (4 + n) by omega, ct_nib, ct_nib, show B / 16 / 16 = B / 256 by omega, Nat.add_assoc]
  have le : ∀ B, nb4 (B % 16) + nb4 (B / 16 % 16) ≤ 8 := fun B => by
    have := nb4_le (B % 16) (by omega)
    have := nb4_le (B / 16 % 16) (by omega)
    omega
  refine ⟨_, _, _, _, _, _, _, _, ?_, ⟨le B, le (B / 256), le (B / 256 / 256), le (B / 256 / 256 / 256), le (B / 256 / 256 / 256 / 256), le (B / 256 / 256 / 256 / 256 / 256), le (B / 256 / 256 / 256 / 256 / 256 / 256), le (B / 256 / 256 / 256 / 256 / 256 / 256 / 256)⟩, ?_⟩
  · simp only [nby, Nat.mul_zero, Nat.add_zero]
  · rw [show (64 : Nat) = 8 + (8 + (8 + (8 + (8 + (8 + (8 + (8 + 0))))))) from rfl]
    simp only [st]
    rw [show fb_ct _ 0 = 0 from rfl]
    omega
theorem M5_16 : M5 16 = 6148914691236517205 := by decide +kernel
theorem M3_16 : M3 16 = 3689348814741910323 := by decide +kernel
theorem MF_8 : MF 8 = 1085102592571150095 := by decide +kernel
theorem nbs_lt : ∀ k B, nbs k B < 16 ^ k
  | 0, _ => Nat.one_pos
  | k + 1, B => by
    have := nbs_lt k (B / 16)
    have := nb4_le (B % 16) (by omega)
    rw [nbs, Nat.pow_succ]
    omega
theorem lN_to32 (n : Nat) : Int64.toInt32 (lN n) = nI n := by
  apply Int32.toBitVec_inj.mp
  show (BitVec.ofNat 64 n).signExtend 32 = BitVec.ofNat 32 n
  apply BitVec.eq_of_toNat_eq
  rw [BitVec.signExtend_eq_setWidth_of_le _ (by decide), BitVec.toNat_setWidth, BitVec.toNat_ofNat, BitVec.toNat_ofNat]
  omega
theorem dv_of {z r q d : Nat} (h : z = r + d * q) (hr : r < d) : z / d = q := by
  rw [h, Nat.add_mul_div_left _ _ (by omega), Nat.div_eq_of_lt hr, Nat.zero_add]
theorem fold8 {c0 c1 c2 c3 c4 c5 c6 c7 z : Nat} (l0 : c0 ≤ 8) (l1 : c1 ≤ 8) (l2 : c2 ≤ 8) (l3 : c3 ≤ 8) (l4 : c4 ≤ 8) (l5 : c5 ≤ 8) (l6 : c6 ≤ 8) (l7 : c7 ≤ 8) (hz : z = c0 + 256 * (c1 + 256 * (c2 + 256 * (c3 + 256 * (c4 + 256 * (c5 + 256 * (c6 + 256 * c7))))))) :
    ∃ y1 y2 y3, z + z / 256 = y1 ∧ y1 + y1 / 65536 = y2 ∧ y2 + y2 / 4294967296 = y3 ∧ z < 2 ^ 64 ∧ y1 < 2 ^ 64 ∧ y2 < 2 ^ 64 ∧ y3 % 2 ^ 7 = c0 + c1 + c2 + c3 + c4 + c5 + c6 + c7 := by
  refine ⟨(c0 + c1) + 256 * (c1 + c2) + 65536 * (c2 + c3) + 16777216 * (c3 + c4) + 4294967296 * (c4 + c5) + 1099511627776 * (c5 + c6) + 281474976710656 * (c6 + c7) + 72057594037927936 * c7,
    (c0 + c1 + c2 + c3) + 256 * (c1 + c2 + c3 + c4) + 65536 * (c2 + c3 + c4 + c5) + 16777216 * (c3 + c4 + c5 + c6) + 4294967296 * (c4 + c5 + c6 + c7) + 1099511627776 * (c5 + c6 + c7) + 281474976710656 * (c6 + c7) + 72057594037927936 * c7, _, ?_, ?_, rfl, ?_, ?_, ?_, ?_⟩
  · rw [dv_of (q := c1 + 256 * (c2 + 256 * (c3 + 256 * (c4 + 256 * (c5 + 256 * (c6 + 256 * c7)))))) hz (by omega)]
    omega
  · rw [dv_of (d := 65536) (r := (c0 + c1) + 256 * (c1 + c2)) (q := (c2 + c3) + 256 * (c3 + c4) + 65536 * (c4 + c5) + 16777216 * (c5 + c6) + 4294967296 * (c6 + c7) + 1099511627776 * c7) (by omega) (by omega)]
    omega
  · omega
  · omega
  · omega
  · rw [dv_of (d := 4294967296) (r := (c0 + c1 + c2 + c3) + 256 * (c1 + c2 + c3 + c4) + 65536 * (c2 + c3 + c4 + c5) + 16777216 * (c3 + c4 + c5 + c6)) (q := (c4 + c5 + c6 + c7) + 256 * (c5 + c6 + c7) + 65536 * (c6 + c7) + 16777216 * c7) (by omega) (by omega)]
    rw [show ∀ Y, Y = (c0 + c1 + c2 + c3 + c4 + c5 + c6 + c7) + 2 ^ 7 * (2 * (c1 + c2 + c3 + c4) + 512 * (c2 + c3 + c4 + c5) + 131072 * (c3 + c4 + c5 + c6) + 33554432 * (c4 + c5 + c6 + c7) + 8589934592 * (c5 + c6 + c7) + 2199023255552 * (c6 + c7) + 562949953421312 * c7 + 2 * (c5 + c6 + c7) + 512 * (c6 + c7) + 131072 * c7) → Y % 2 ^ 7 = c0 + c1 + c2 + c3 + c4 + c5 + c6 + c7 from fun Y hY => by rw [hY, Nat.add_mul_mod_self_left]; exact Nat.mod_eq_of_lt (by omega)]
    omega
theorem C_bitCount {B : Nat} (hB : B < 2 ^ 64) (h : PM) : F_J13_bitCount_95d88 (lN B) h = some (nI (fb_ct B.testBit 64), h) := by
  obtain ⟨c0, c1, c2, c3, c4, c5, c6, c7, e1, ⟨l0, l1, l2, l3, l4, l5, l6, l7⟩, e2⟩ := nby_sum B
  have s1 := sw2 16 B
  have s2 := sw3 8 B
  have s3 := nbs_lt 16 B
  unfold sw1 at s1
  rw [M5_16, M3_16] at s1
  rw [MF_8, show 2 * 8 = 16 from rfl, e1] at s2
  have q1 : B / 2 &&& 6148914691236517205 ≤ B := Nat.le_trans Nat.and_le_left (by omega)
  have sh : ∀ {n k : Nat}, n < 2 ^ 64 → k < 64 → ((lN n).toUInt64 >>> ((Int32.toInt64 (nI k)).toUInt64 &&& Int64.toUInt64 63)).toInt64 = lN (n / 2 ^ k) := fun hn hk => wb_shr hn hk
  unfold F_J13_bitCount_95d88
  simp only [e_lt]
  rw [show (1 : Int32) = nI 1 from rfl, show (2 : Int32) = nI 2 from rfl, show (4 : Int32) = nI 4 from rfl, show (8 : Int32) = nI 8 from rfl, show (16 : Int32) = nI 16 from rfl, show (32 : Int32) = nI 32 from rfl, show (127 : Int32) = nI 127 from rfl, show (6148914691236517205 : Int64) = lN 6148914691236517205 from rfl, show (3689348814741910323 : Int64) = lN 3689348814741910323 from rfl, show (1085102592571150095 : Int64) = lN 1085102592571150095 from rfl]
  rw [sh hB (by decide), fb_andL, show 2 ^ 1 = 2 from rfl, lN_sub q1]
  generalize hx : B - (B / 2 &&& 6148914691236517205) = x at s1
  have hx2 : x < 2 ^ 64 := by omega
  rw [fb_andL, sh hx2 (by decide), fb_andL, lN_add, show 2 ^ 2 = 4 from rfl, s1]
  generalize nbs 16 B = y at s2 s3
  have hy : y < 2 ^ 64 := Nat.lt_of_lt_of_le s3 (by decide)
  rw [sh hy (by decide), lN_add, fb_andL, show 2 ^ 4 = 16 from rfl, s2]
  generalize hz : c0 + 256 * (c1 + 256 * (c2 + 256 * (c3 + 256 * (c4 + 256 * (c5 + 256 * (c6 + 256 * c7)))))) = z
  obtain ⟨y1, y2, y3, k1, k2, k3, b1, b2, b3, k4⟩ := fold8 l0 l1 l2 l3 l4 l5 l6 l7 hz.symm
  rw [sh b1 (by decide), lN_add, show 2 ^ 8 = 256 from rfl, k1]
  rw [sh b2 (by decide), lN_add, show 2 ^ 16 = 65536 from rfl, k2]
  rw [sh b3 (by decide), lN_add, show 2 ^ 32 = 4294967296 from rfl, k3]
  rw [lN_to32, fa_mask _ 7, e2, k4]
/-- k is the lowest bit of B -/
def LB (B k : Nat) : Prop := B.testBit k = true ∧ ∀ i, i < k → B.testBit i = false
theorem LB_form {B k : Nat} (h : LB B k) : ∃ c, B = 2 ^ (k + 1) * c + 2 ^ k := by
  refine ⟨B / 2 ^ (k + 1), ?_⟩
  have e : B % 2 ^ (k + 1) = 2 ^ k := by
    apply Nat.eq_of_testBit_eq
    intro i
    rw [Nat.testBit_mod_two_pow, Nat.testBit_two_pow]
    by_cases c : i < k
    · rw [h.2 i c, decide_eq_false (by omega : ¬ k = i), Bool.and_false]
    · by_cases c2 : i = k
      · subst c2; rw [h.1, decide_eq_true (by omega : i < i + 1), decide_eq_true rfl]; rfl
      · rw [decide_eq_false (by omega : ¬ i < k + 1), decide_eq_false (by omega : ¬ k = i)]; rfl
  have := Nat.div_add_mod B (2 ^ (k + 1))
  omega
theorem LB_pred {B k : Nat} (h : LB B k) (i : Nat) : (B - 1).testBit i = if i < k then true else if i = k then false else B.testBit i := by
  obtain ⟨c, hc⟩ := LB_form h
  have p := Nat.two_pow_pos k
  have l1 : 2 ^ k - 1 < 2 ^ (k + 1) := by rw [Nat.pow_succ]; omega
  have l2 : 2 ^ k < 2 ^ (k + 1) := by rw [Nat.pow_succ]; omega
  have e : B - 1 = 2 ^ (k + 1) * c + (2 ^ k - 1) := by omega
  rw [e, Nat.testBit_two_pow_mul_add _ l1]
  by_cases c1 : i < k
  · rw [if_pos (by omega), if_pos c1, Nat.testBit_two_pow_sub_one, decide_eq_true c1]
  · rw [if_neg c1]
    by_cases c2 : i = k
    · rw [if_pos (by omega), if_pos c2, Nat.testBit_two_pow_sub_one, decide_eq_false c1]
    · rw [if_neg (by omega), if_neg c2, hc, Nat.testBit_two_pow_mul_add _ l2, if_neg (by omega)]
theorem LB_pos {B k : Nat} (h : LB B k) : 0 < B := by
  obtain ⟨c, hc⟩ := LB_form h
  have := Nat.two_pow_pos k
  omega
theorem LB_lt {B k n : Nat} (h : LB B k) (hB : B < 2 ^ n) : k < n := Classical.byContradiction fun z => by
  have := Nat.testBit_lt_two_pow (Nat.lt_of_lt_of_le hB (Nat.pow_le_pow_right (by decide) (Nat.not_lt.mp z)))
  rw [h.1] at this
  cases this
theorem LB_rest {B k : Nat} (h : LB B k) (i : Nat) : (B &&& (B - 1)).testBit i = (B.testBit i && decide (i ≠ k)) := by
  rw [Nat.testBit_and, LB_pred h]
  by_cases c1 : i < k
  · rw [if_pos c1, h.2 i c1]; rfl
  · rw [if_neg c1]
    by_cases c2 : i = k
    · rw [if_pos c2, decide_eq_false (fun z => z c2)]
    · rw [if_neg c2, decide_eq_true c2, Bool.and_true, Bool.and_self]
theorem LB_neg {B k : Nat} (h : LB B k) (hB : B < 2 ^ 63) : lN B &&& -(lN B) = lN (2 ^ k) := by
  have h0 := LB_pos h
  have e : -(lN B) = lN (2 ^ 64 - B) := by
    apply wb_inj
    rw [Int64.toBitVec_neg, wb_tb, wb_tb]
    apply BitVec.eq_of_toNat_eq
    rw [BitVec.toNat_neg, BitVec.toNat_ofNat, BitVec.toNat_ofNat, Nat.mod_eq_of_lt (show B < 2 ^ 64 by omega)]
  rw [e, fb_andL]
  congr 1
  apply Nat.eq_of_testBit_eq
  intro i
  have e2 : (2 ^ 64 - B) = 2 ^ 64 - ((B - 1) + 1) := by omega
  rw [Nat.testBit_and, Nat.testBit_two_pow, e2, Nat.testBit_two_pow_sub_succ (by omega), LB_pred h]
  by_cases c1 : i < k
  · rw [h.2 i c1, decide_eq_false (by omega : ¬ k = i)]; rfl
  · rw [if_neg c1]
    by_cases c2 : i = k
    · have := LB_lt h hB
      subst c2; rw [h.1, if_pos rfl, decide_eq_true (by omega : i < 64), decide_eq_true rfl]; rfl
    · rw [if_neg c2, decide_eq_false (by omega : ¬ k = i)]
      cases B.testBit i <;> cases decide (i < 64) <;> rfl
theorem ct_low : ∀ k, k < 64 → fb_ct (2 ^ k - 1).testBit 64 = k := by decide +kernel
theorem C_low {B k : Nat} (h : LB B k) (hB : B < 2 ^ 63) (hh : PM) : F_J13_bitCount_95d88 ((lN B &&& -(lN B)) - 1) hh = some (nI k, hh) := by
  have hk := LB_lt h hB
  have p := Nat.two_pow_pos k
  have l := wb_lt2 hk
  rw [LB_neg h hB, show (1 : Int64) = lN 1 from rfl, lN_sub (show 1 ≤ 2 ^ k from p), C_bitCount (by omega), ct_low k (by omega)]
theorem C_lowestBit {B k : Nat} (h : LB B k) (hB : B < 2 ^ 63) (hh : PM) : F_X11_lowestBit (lN B) hh = some (nI k, hh) := by
  unfold F_X11_lowestBit
  rw [C_low h hB, e_cl]
theorem LB_ex {B : Nat} (h : B ≠ 0) : ∃ k, LB B k := by
  obtain ⟨i, hi⟩ := Nat.exists_testBit_of_ne_zero h
  obtain ⟨k, -, h1, h2⟩ := fb_first (p := fun k => B.testBit k = true) (n := i + 1) ⟨i, by omega, hi⟩
  exact ⟨k, h1, fun j hj => ts_nt (h2 j hj)⟩
theorem C_holds {B k : Nat} (hB : B < 2 ^ 64) (hk : k < 64) (h : PM) : F_X11_holds (lN B) (nI k) h = some (if B.testBit k then 1 else 0, h) := by
  unfold F_X11_holds
  have e : (Int64.toUInt64 (lN B) >>> ((Int32.toInt64 (nI k)).toUInt64 &&& Int64.toUInt64 63)).toInt64 &&& 1 = lN (B / 2 ^ k % 2) := wb_bit hB hk
  rw [e_jn, e, Nat.testBit_eq_decide_div_mod_eq]
  simp only [lg_cmp_eq]
  rcases Nat.mod_two_eq_zero_or_one (B / 2 ^ k) with e | e
  · rw [e, if_pos (show lN 0 = 0 from rfl)]; rfl
  · rw [e, if_neg (show ¬ lN 1 = 0 by decide)]; rfl
