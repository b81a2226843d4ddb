/-! ===== the plan: what it is, by sets and last facets ===== -/
def mnv (P : Nat → Bool) (v : Nat → Nat) : Nat → Nat
  | 0 => 0
  | g + 1 => if P g = true ∧ (mnv P v g = 0 ∨ v g + 1 < mnv P v g) then v g + 1 else mnv P v g
def amn (P : Nat → Bool) (v : Nat → Nat) : Nat → Nat
  | 0 => 0
  | g + 1 => if P g = true ∧ (mnv P v g = 0 ∨ v g + 1 < mnv P v g) then g else amn P v g
theorem mnv_n {P : Nat → Bool} {v : Nat → Nat} {g : Nat} (h : ¬ (P g = true ∧ (mnv P v g = 0 ∨ v g + 1 < mnv P v g))) : mnv P v (g + 1) = mnv P v g ∧ amn P v (g + 1) = amn P v g := ⟨if_neg h, if_neg h⟩
theorem mnv_y {P : Nat → Bool} {v : Nat → Nat} {g : Nat} (h : P g = true ∧ (mnv P v g = 0 ∨ v g + 1 < mnv P v g)) : mnv P v (g + 1) = v g + 1 ∧ amn P v (g + 1) = g := ⟨if_pos h, if_pos h⟩
theorem mnv_zero (P : Nat → Bool) (v : Nat → Nat) : ∀ n, mnv P v n = 0 ↔ ∀ g, g < n → P g = false
  | 0 => ⟨fun _ g hg => by omega, fun _ => rfl⟩
  | n + 1 => by
    have ih := mnv_zero P v n
    unfold mnv
    constructor
    · intro h g hg
      by_cases c : P n = true ∧ (mnv P v n = 0 ∨ v n + 1 < mnv P v n)
      · rw [if_pos c] at h; omega
      · rw [if_neg c] at h
        by_cases e : g = n
        · subst e; exact ts_nt (fun z => c ⟨z, Or.inl h⟩)
        · exact ih.mp h g (by omega)
    · intro h
      rw [if_neg (fun z => by rw [h n (by omega)] at z; cases z.1)]
      exact ih.mpr (fun g hg => h g (by omega))
theorem amn_ok (P : Nat → Bool) (v : Nat → Nat) : ∀ n, mnv P v n ≠ 0 → amn P v n < n ∧ P (amn P v n) = true ∧ v (amn P v n) + 1 = mnv P v n ∧ (∀ g, g < amn P v n → P g = true → mnv P v n < v g + 1) ∧ ∀ g, g < n → P g = true → mnv P v n ≤ v g + 1
  | 0, h => absurd rfl h
  | n + 1, h => by
    have ih := amn_ok P v n
    unfold mnv at h ⊢
    unfold amn
    by_cases c : P n = true ∧ (mnv P v n = 0 ∨ v n + 1 < mnv P v n)
    · simp only [if_pos c]
      by_cases z : mnv P v n = 0
      · have hz := (mnv_zero P v n).mp z
        refine ⟨by omega, c.1, trivial, fun g hg hp => ?_, fun g hg hp => ?_⟩
        · rw [hz g hg] at hp; cases hp
        · by_cases e : g = n
          · subst e; exact Nat.le_refl _
          · rw [hz g (by omega)] at hp; cases hp
      · obtain ⟨a1, a2, a3, a4, a5⟩ := ih z
        refine ⟨by omega, c.1, trivial, fun g hg hp => ?_, fun g hg hp => ?_⟩
        · have := a5 g hg hp; omega
        · by_cases e : g = n
          · subst e; exact Nat.le_refl _
          · have := a5 g (by omega) hp; omega
    · simp only [if_neg c] at h ⊢
      obtain ⟨a1, a2, a3, a4, a5⟩ := ih h
      refine ⟨by omega, a2, a3, a4, fun g hg hp => ?_⟩
      by_cases e : g = n
      · subst e
        exact Classical.byContradiction fun z => c ⟨hp, Or.inr (by omega)⟩
      · exact a5 g (by omega) hp
theorem mnv_cong {P Q : Nat → Bool} {v w : Nat → Nat} : ∀ {n : Nat}, (∀ g, g < n → P g = Q g ∧ (P g = true → v g = w g)) → mnv P v n = mnv Q w n ∧ amn P v n = amn Q w n
  | 0, _ => ⟨rfl, rfl⟩
  | n + 1, h => by
    have ih := mnv_cong (n := n) (fun g hg => h g (by omega))
    obtain ⟨h1, h2⟩ := h n (by omega)
    unfold mnv amn
    rw [← ih.1, ← ih.2, ← h1]
    by_cases c : P n = true
    · rw [← h2 c]; exact ⟨rfl, rfl⟩
    · rw [if_neg (fun z => c z.1), if_neg (fun z => c z.1), if_neg (fun z => c z.1), if_neg (fun z => c z.1)]; exact ⟨rfl, rfl⟩
def rsT (n : Nat) (ap : Nat → Nat → Nat) : Nat → Nat → Nat → Nat
  | 0, _, _ => 0
  | d + 1, S, f => mnv (fun g => !S.testBit g) (fun g => ap f g + rsT n ap d (S ||| 2 ^ g) g) n - 1
def rst (n : Nat) (ap : Nat → Nat → Nat) (S f : Nat) : Nat := rsT n ap (256 - S) S f
theorem or_gt {S g n : Nat} (hS : S < 2 ^ n) (hg : g < n) (h : S.testBit g = false) : S < S ||| 2 ^ g ∧ S ||| 2 ^ g < 2 ^ n := by
  refine ⟨?_, Nat.or_lt_two_pow hS (wb_lt2 hg)⟩
  have h1 : S ≤ S ||| 2 ^ g := Nat.left_le_or
  have h2 : S ≠ S ||| 2 ^ g := fun z => by
    have e : (S ||| 2 ^ g).testBit g = true := by rw [fb_bit_set, decide_eq_true rfl, Bool.or_true]
    rw [← z, h] at e
    cases e
  omega
theorem p2_256 {n : Nat} (h : n ≤ 8) : 2 ^ n ≤ 256 := Nat.pow_le_pow_right (n := 2) (j := 8) (by decide) h
theorem rsT_fuel {n : Nat} (ap : Nat → Nat → Nat) (hn : n ≤ 8) : ∀ (d d' S f : Nat), S < 2 ^ n → 256 - S ≤ d → 256 - S ≤ d' → rsT n ap d S f = rsT n ap d' S f := by
  have h8 := p2_256 hn
  intro d
  induction d with
  | zero => intro d' S f hS h1 h2; omega
  | succ d ih =>
    intro d' S f hS h1 h2
    obtain ⟨d', rfl⟩ : ∃ e, d' = e + 1 := ⟨d' - 1, by omega⟩
    unfold rsT
    rw [(mnv_cong (fun g hg => ⟨rfl, fun hp => ?_⟩)).1]
    have hp : S.testBit g = false := by simpa using hp
    obtain ⟨q1, q2⟩ := or_gt hS hg hp
    rw [ih d' _ g q2 (by omega) (by omega)]
theorem rst_eq {n : Nat} (ap : Nat → Nat → Nat) (hn : n ≤ 8) {S : Nat} (f : Nat) (hS : S < 2 ^ n) : rst n ap S f = mnv (fun g => !S.testBit g) (fun g => ap f g + rst n ap (S ||| 2 ^ g) g) n - 1 := by
  have h8 := p2_256 hn
  unfold rst
  obtain ⟨d, hd⟩ : ∃ d, 256 - S = d + 1 := ⟨256 - S - 1, by omega⟩
  rw [hd, rsT, (mnv_cong (fun g hg => ⟨rfl, fun hp => ?_⟩)).1]
  have hp : S.testBit g = false := by simpa using hp
  obtain ⟨q1, q2⟩ := or_gt hS hg hp
  rw [rsT_fuel ap hn d (256 - (S ||| 2 ^ g)) _ g q2 (by omega) (by omega)]
theorem mnv_bound {P : Nat → Bool} {v : Nat → Nat} {B : Nat} : ∀ {n : Nat}, (∀ g, g < n → P g = true → v g ≤ B) → mnv P v n ≤ B + 1 := fun {n} h => by
  by_cases z : mnv P v n = 0
  · omega
  · obtain ⟨a1, a2, a3, -, -⟩ := amn_ok P v n z
    have := h _ a1 a2
    omega
theorem rsT_bound {n : Nat} {ap : Nat → Nat → Nat} (ha : ∀ f g, f < n → g < n → ap f g ≤ 228) : ∀ (d S f : Nat), f < n → rsT n ap d S f ≤ 228 * d
  | 0, _, _, _ => Nat.le_refl 0
  | d + 1, S, f, hf => by
    have := mnv_bound (P := fun g => !S.testBit g) (v := fun g => ap f g + rsT n ap d (S ||| 2 ^ g) g) (B := 228 * (d + 1)) (n := n) (fun g hg _ => by
      have h1 := ha f g hf hg
      have h2 := rsT_bound ha d (S ||| 2 ^ g) g hg
      show ap f g + rsT n ap d (S ||| 2 ^ g) g ≤ _
      omega)
    unfold rsT
    omega
theorem rst_bound {n : Nat} {ap : Nat → Nat → Nat} (ha : ∀ f g, f < n → g < n → ap f g ≤ 228) {S f : Nat} (hf : f < n) : rst n ap S f ≤ 58368 := by
  have := rsT_bound ha (256 - S) S f hf
  unfold rst
  omega
/-- how far on from what was gone through, and the last one (plus one) -/
def vv (n : Nat) (ap : Nat → Nat → Nat) (st : Nat → Nat) (p : Nat × Nat) (g : Nat) : Nat := (if p.2 = 0 then st g else ap (p.2 - 1) g) + rst n ap (p.1 ||| 2 ^ g) g
def nxt (n : Nat) (ap : Nat → Nat → Nat) (st : Nat → Nat) (p : Nat × Nat) : Nat := amn (fun g => !p.1.testBit g) (vv n ap st p) n
def stp (n : Nat) (ap : Nat → Nat → Nat) (st : Nat → Nat) : Nat → Nat × Nat
  | 0 => (0, 0)
  | k + 1 => ((stp n ap st k).1 ||| 2 ^ nxt n ap st (stp n ap st k), nxt n ap st (stp n ap st k) + 1)
def lenv (n : Nat) (ap : Nat → Nat → Nat) (st : Nat → Nat) : Nat := mnv (fun g => !Nat.testBit 0 g) (vv n ap st (0, 0)) n - 1
theorem stp_ok {n : Nat} {ap : Nat → Nat → Nat} {st : Nat → Nat} : ∀ k, k ≤ n → (stp n ap st k).1 < 2 ^ n ∧ fb_ct (stp n ap st k).1.testBit n = k ∧ (stp n ap st k).2 ≤ n ∧ ((stp n ap st k).2 = 0 → k = 0)
  | 0, _ => ⟨Nat.two_pow_pos n, by
      show fb_ct (Nat.testBit 0) n = 0
      exact fb_ct_zero.mpr (fun k _ => Nat.zero_testBit k), Nat.zero_le _, fun _ => rfl⟩
  | k + 1, hk => by
    obtain ⟨i1, i2, i3, i4⟩ := stp_ok (n := n) (ap := ap) (st := st) k (by omega)
    have hz : mnv (fun g => !(stp n ap st k).1.testBit g) (vv n ap st (stp n ap st k)) n ≠ 0 := fun z => by
      have := (mnv_zero _ _ n).mp z
      have e : fb_ct (stp n ap st k).1.testBit n = n := fb_ct_all.mpr (fun g hg => by have := this g hg; simpa using this)
      omega
    obtain ⟨a1, a2, a3, a4, a5⟩ := amn_ok _ _ n hz
    have a1 : nxt n ap st (stp n ap st k) < n := a1
    have a2 : (stp n ap st k).1.testBit (nxt n ap st (stp n ap st k)) = false := by unfold nxt; simpa using a2
    show ((stp n ap st k).1 ||| 2 ^ nxt n ap st (stp n ap st k)) < 2 ^ n ∧ fb_ct ((stp n ap st k).1 ||| 2 ^ nxt n ap st (stp n ap st k)).testBit n = k + 1 ∧ nxt n ap st (stp n ap st k) + 1 ≤ n ∧ (nxt n ap st (stp n ap st k) + 1 = 0 → k + 1 = 0)
    refine ⟨(or_gt i1 a1 a2).2, ?_, by omega, by omega⟩
    have := fb_ct_upd (stp n ap st k).1.testBit true a1
    rw [a2, i2] at this
    rw [fb_ct_cong (q := fun j => if j = nxt n ap st (stp n ap st k) then true else (stp n ap st k).1.testBit j) (fun j hj => ?_)]
    · simpa using this
    · rw [fb_bit_set]
      by_cases e : j = nxt n ap st (stp n ap st k)
      · rw [if_pos e, decide_eq_true e, Bool.or_true]
      · rw [if_neg e, decide_eq_false e, Bool.or_false]
theorem nxt_ok {n : Nat} {ap : Nat → Nat → Nat} {st : Nat → Nat} {k : Nat} (hk : k < n) : mnv (fun g => !(stp n ap st k).1.testBit g) (vv n ap st (stp n ap st k)) n ≠ 0 ∧ nxt n ap st (stp n ap st k) < n := by
  obtain ⟨i1, i2, i3, i4⟩ := stp_ok (n := n) (ap := ap) (st := st) k (by omega)
  have hz : mnv (fun g => !(stp n ap st k).1.testBit g) (vv n ap st (stp n ap st k)) n ≠ 0 := fun z => by
    have := (mnv_zero _ _ n).mp z
    have e : fb_ct (stp n ap st k).1.testBit n = n := fb_ct_all.mpr (fun g hg => by have := this g hg; simpa using this)
    omega
  exact ⟨hz, (amn_ok _ _ n hz).1⟩
def wayN (i a i2 a2 : Nat) : Nat := min (adiff i i2) (96 - adiff i i2) + 2 * adiff a a2
theorem wayN_le {i a i2 a2 : Nat} (h1 : i ≤ 95) (h2 : a ≤ 90) (h3 : i2 ≤ 95) (h4 : a2 ≤ 90) : wayN i a i2 a2 ≤ 228 := by
  unfold wayN adiff; omega
section INTB
variable {S g n : Nat}
theorem n_shl : ∀ g, g < 31 → nI 1 <<< (nI g &&& nI 31) = nI (2 ^ g) := by decide +kernel
theorem n_shl' {g : Nat} (h : g < 31) : nI 1 <<< (nI g &&& nI 31) = nI (2 ^ g) := n_shl g h
theorem n_or (a b : Nat) : nI a ||| nI b = nI (a ||| b) := fa_or a b
theorem tb_one (i : Nat) : Nat.testBit 1 i = decide (i = 0) := by
  rw [show (1 : Nat) = 2 ^ 0 from rfl, Nat.testBit_two_pow]
  exact decide_eq_decide.mpr eq_comm
theorem n_sbit (hS : S < 2 ^ 31) (hg : g < 31) : ((nI S >>> (nI g &&& nI 31)) &&& nI 1) = nI (S.testBit g).toNat := by
  apply b_ext
  intro i hi
  have e0 : ∀ x i, bt (nI x) i = (decide (i < 32) && x.testBit i) := fun x i => by
    show (BitVec.ofNat 32 x).getLsbD i = _
    rw [BitVec.getLsbD_ofNat]
  rw [b_and, show nI 31 = 31 from rfl, b_sshr g (by omega) _ hi, e0, e0, e0, e0, decide_eq_true hi, Bool.true_and, Bool.true_and, tb_one]
  by_cases c : i = 0
  · subst c
    rw [if_pos (by omega), decide_eq_true (by omega : g + 0 < 32), Bool.true_and, decide_eq_true rfl, Bool.and_true]
    cases S.testBit g <;> rfl
  · rw [decide_eq_false c, Bool.and_false]
    cases S.testBit g
    · exact (Nat.zero_testBit i).symm
    · show false = Nat.testBit 1 i
      rw [tb_one, decide_eq_false c]
theorem tb0 {b : Bool} (h : b = true) : b.toNat = 1 := by rw [h]; rfl
theorem tb1 {b : Bool} (h : b = false) : b.toNat = 0 := by rw [h]; rfl
end INTB
