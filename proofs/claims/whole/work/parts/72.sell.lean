/-! ===== the sale: what it is; the reference's ===== -/
section SP1
variable (bd lm : Nat → Nat)
def sumD : Nat → Nat → Nat
  | 0, _ => 0
  | l + 1, P => sumD l (P / 5) + (if P % 5 < 4 then bd (4 * l + P % 5) else 0)
def usD : Nat → Nat → Nat → Nat
  | 0, _, _ => 0
  | l + 1, P, b => usD l (P / 5) b + (if P % 5 = b then 1 else 0)
def bkD : Nat → Nat → Bool
  | 0, _ => true
  | l + 1, P => bkD l (P / 5) && (decide (4 ≤ P % 5) || decide (0 < bd (4 * l + P % 5)))
def dgD : Nat → Nat → Nat → Nat
  | 0, _, _ => 0
  | l + 1, P, i => if i = l then P % 5 else dgD l (P / 5) i
def okD (l P : Nat) : Prop := bkD bd l P = true ∧ ∀ b, b < 4 → usD l P b ≤ lm b
def fo {α : Type} (f : Nat → α → α) : Nat → α → α
  | 0, st => st
  | n + 1, st => f n (fo f n st)
def feas (l P b : Nat) : Prop := 0 < bd (4 * l + b) ∧ usD l P b < lm b
def sp (L : Nat) : Nat → Nat → Nat × Nat → Nat × Nat
  | 0, P, st => if st.1 < sumD bd L P + 1 then (sumD bd L P + 1, P) else st
  | r + 1, P, st => sp L r (5 * P + 4) (fo (fun b s => if 0 < bd (4 * (L - (r + 1)) + b) ∧ usD (L - (r + 1)) P b < lm b then sp L r (5 * P + b) s else s) 4 st)
def lf (L w : Nat) (st : Nat × Nat) : Nat × Nat := if (bkD bd L w && ((List.range 4).all fun b => decide (usD L w b ≤ lm b))) = true ∧ st.1 < sumD bd L w + 1 then (sumD bd L w + 1, w) else st
def fz (L : Nat) : Nat → Nat → Nat × Nat → Nat × Nat
  | 0, _, st => st
  | n + 1, w, st => fz L n (w + 1) (lf bd lm L w st)
def gb (l : Nat) : Nat := max (max (max (max 0 (bd (4 * l + 0))) (bd (4 * l + 1))) (bd (4 * l + 2))) (bd (4 * l + 3))
def hp (L : Nat) : Nat → Nat
  | 0 => 0
  | r + 1 => hp L r + gb bd (L - (r + 1))
end SP1
theorem sumD_5 (bd : Nat → Nat) (l P b : Nat) (hb : b < 5) : sumD bd (l + 1) (5 * P + b) = sumD bd l P + (if b < 4 then bd (4 * l + b) else 0) := by
  rw [sumD, show (5 * P + b) / 5 = P by omega, show (5 * P + b) % 5 = b by omega]
theorem usD_5 (l P b c : Nat) (hb : b < 5) : usD (l + 1) (5 * P + b) c = usD l P c + (if b = c then 1 else 0) := by
  rw [usD, show (5 * P + b) / 5 = P by omega, show (5 * P + b) % 5 = b by omega]
theorem bkD_5 (bd : Nat → Nat) (l P b : Nat) (hb : b < 5) : bkD bd (l + 1) (5 * P + b) = (bkD bd l P && (decide (4 ≤ b) || decide (0 < bd (4 * l + b)))) := by
  rw [bkD, show (5 * P + b) / 5 = P by omega, show (5 * P + b) % 5 = b by omega]
theorem dgD_5 (l P b i : Nat) (hb : b < 5) : dgD (l + 1) (5 * P + b) i = if i = l then b else dgD l P i := by
  rw [dgD, show (5 * P + b) / 5 = P by omega, show (5 * P + b) % 5 = b by omega]
theorem dgD_lt : ∀ l P i, dgD l P i < 5
  | 0, _, _ => by show 0 < 5; decide
  | l + 1, P, i => by
    rw [dgD]
    split
    · omega
    · exact dgD_lt l (P / 5) i
theorem okD_5 (bd lm : Nat → Nat) {l P b : Nat} (hb : b < 4) : okD bd lm (l + 1) (5 * P + b) ↔ okD bd lm l P ∧ 0 < bd (4 * l + b) ∧ usD l P b < lm b := by
  unfold okD
  rw [bkD_5 bd l P b (by omega), decide_eq_false (by omega : ¬ 4 ≤ b), Bool.false_or, Bool.and_eq_true, decide_eq_true_eq]
  constructor
  · intro ⟨⟨h1, h2⟩, h3⟩
    refine ⟨⟨h1, fun c hc => ?_⟩, h2, ?_⟩
    · have := h3 c hc; rw [usD_5 l P b c (by omega)] at this; omega
    · have := h3 b hb; rw [usD_5 l P b b (by omega), if_pos rfl] at this; omega
  · intro ⟨⟨h1, h2⟩, h3, h4⟩
    refine ⟨⟨h1, h3⟩, fun c hc => ?_⟩
    rw [usD_5 l P b c (by omega)]
    by_cases e : b = c
    · rw [if_pos e, ← e]; omega
    · rw [if_neg e]; exact h2 c hc
theorem okD_54 (bd lm : Nat → Nat) {l P : Nat} : okD bd lm (l + 1) (5 * P + 4) ↔ okD bd lm l P := by
  unfold okD
  rw [bkD_5 bd l P 4 (by omega), decide_eq_true (by omega : 4 ≤ 4), Bool.true_or, Bool.and_true]
  have : ∀ c, c < 4 → usD (l + 1) (5 * P + 4) c = usD l P c := fun c hc => by rw [usD_5 l P 4 c (by omega), if_neg (by omega), Nat.add_zero]
  constructor
  · intro ⟨h1, h2⟩; exact ⟨h1, fun c hc => by rw [← this c hc]; exact h2 c hc⟩
  · intro ⟨h1, h2⟩; exact ⟨h1, fun c hc => by rw [this c hc]; exact h2 c hc⟩
theorem fz_add (bd lm : Nat → Nat) (L : Nat) : ∀ (a b w : Nat) (st : Nat × Nat), fz bd lm L (a + b) w st = fz bd lm L b (w + a) (fz bd lm L a w st)
  | 0, b, w, st => by rw [Nat.zero_add]; rfl
  | a + 1, b, w, st => by
    rw [show a + 1 + b = (a + b) + 1 by omega, fz, fz, fz_add bd lm L a b (w + 1), show w + 1 + a = w + (a + 1) by omega]
theorem all4 {p : Nat → Bool} : (List.range 4).all p = true ↔ ∀ b, b < 4 → p b = true := by
  rw [List.all_eq_true]
  exact ⟨fun h b hb => h b (List.mem_range.mpr hb), fun h b hb => h b (List.mem_range.mp hb)⟩
theorem lf_ok (bd lm : Nat → Nat) {L w : Nat} {st : Nat × Nat} (h : okD bd lm L w) : lf bd lm L w st = if st.1 < sumD bd L w + 1 then (sumD bd L w + 1, w) else st := by
  unfold lf
  have e : (bkD bd L w && ((List.range 4).all fun b => decide (usD L w b ≤ lm b))) = true := by
    rw [Bool.and_eq_true]; exact ⟨h.1, all4.mpr (fun b hb => decide_eq_true (h.2 b hb))⟩
  by_cases c : st.1 < sumD bd L w + 1
  · rw [if_pos ⟨e, c⟩, if_pos c]
  · rw [if_neg (fun z => c z.2), if_neg c]
theorem lf_no (bd lm : Nat → Nat) {L w : Nat} {st : Nat × Nat} (h : ¬ okD bd lm L w) : lf bd lm L w st = st := by
  unfold lf
  rw [if_neg (fun z => h ?_)]
  have := z.1
  rw [Bool.and_eq_true] at this
  exact ⟨this.1, fun b hb => of_decide_eq_true (all4.mp this.2 b hb)⟩
/-- counting through a block of ways is the search below its first lots -/
theorem fz_block (bd lm : Nat → Nat) (L : Nat) : ∀ (r P : Nat) (st : Nat × Nat), r ≤ L → (okD bd lm (L - r) P → fz bd lm L (5 ^ r) (P * 5 ^ r) st = sp bd lm L r P st) ∧ (¬ okD bd lm (L - r) P → fz bd lm L (5 ^ r) (P * 5 ^ r) st = st) := by
  intro r
  induction r with
  | zero =>
    intro P st hr
    rw [show L - 0 = L from rfl, Nat.pow_zero, Nat.mul_one]
    refine ⟨fun h => ?_, fun h => ?_⟩
    · show lf bd lm L P st = _
      rw [lf_ok bd lm h]; rfl
    · show lf bd lm L P st = _
      exact lf_no bd lm h
  | succ r ih =>
    intro P st hr
    have e5 : 5 ^ (r + 1) = 5 ^ r + (5 ^ r + (5 ^ r + (5 ^ r + 5 ^ r))) := by rw [Nat.pow_succ]; omega
    have el : L - r = L - (r + 1) + 1 := by omega
    have bs : ∀ b, P * 5 ^ (r + 1) + b * 5 ^ r = (5 * P + b) * 5 ^ r := fun b => by rw [Nat.pow_succ, Nat.add_mul, Nat.mul_comm 5 P, Nat.mul_assoc, Nat.mul_comm 5 (5 ^ r)]
    have b0 := bs 0
    have b1 := bs 1
    have b2 := bs 2
    have b3 := bs 3
    have b4 := bs 4
    have sq : fz bd lm L (5 ^ (r + 1)) (P * 5 ^ (r + 1)) st = fz bd lm L (5 ^ r) ((5 * P + 4) * 5 ^ r) (fz bd lm L (5 ^ r) ((5 * P + 3) * 5 ^ r) (fz bd lm L (5 ^ r) ((5 * P + 2) * 5 ^ r) (fz bd lm L (5 ^ r) ((5 * P + 1) * 5 ^ r) (fz bd lm L (5 ^ r) ((5 * P + 0) * 5 ^ r) st)))) := by
      rw [← b0, ← b1, ← b2, ← b3, ← b4]
      generalize P * 5 ^ (r + 1) = w
      rw [e5, fz_add, fz_add, fz_add, fz_add]
      congr 1
      · omega
      · congr 1
        · omega
        · congr 1
          · omega
          · congr 1
            · omega
            · congr 1
              omega
    rw [sq]
    have ch : ∀ b, b < 4 → ∀ st, okD bd lm (L - (r + 1)) P → fz bd lm L (5 ^ r) ((5 * P + b) * 5 ^ r) st = if 0 < bd (4 * (L - (r + 1)) + b) ∧ usD (L - (r + 1)) P b < lm b then sp bd lm L r (5 * P + b) st else st := fun b hb st hok => by
      have hi := ih (5 * P + b) st (by omega)
      rw [el, okD_5 bd lm hb] at hi
      by_cases c : 0 < bd (4 * (L - (r + 1)) + b) ∧ usD (L - (r + 1)) P b < lm b
      · rw [if_pos c, hi.1 ⟨hok, c⟩]
      · rw [if_neg c, hi.2 (fun z => c z.2)]
    have cn : ∀ b, b < 4 → ∀ st, ¬ okD bd lm (L - (r + 1)) P → fz bd lm L (5 ^ r) ((5 * P + b) * 5 ^ r) st = st := fun b hb st hok => by
      have hi := ih (5 * P + b) st (by omega)
      rw [el, okD_5 bd lm hb] at hi
      exact hi.2 (fun z => hok z.1)
    refine ⟨fun hok => ?_, fun hok => ?_⟩
    · rw [ch 0 (by omega) _ hok, ch 1 (by omega) _ hok, ch 2 (by omega) _ hok, ch 3 (by omega) _ hok]
      have hi := fun st => (ih (5 * P + 4) st (by omega)).1
      rw [el, okD_54] at hi
      rw [hi _ hok]
      rfl
    · rw [cn 0 (by omega) _ hok, cn 1 (by omega) _ hok, cn 2 (by omega) _ hok, cn 3 (by omega) _ hok]
      have hi := fun st => (ih (5 * P + 4) st (by omega)).2
      rw [el, okD_54] at hi
      exact hi _ hok
theorem gb_le {bd : Nat → Nat} {l b : Nat} (hb : b < 4) : bd (4 * l + b) ≤ gb bd l := by
  unfold gb
  rcases (show b = 0 ∨ b = 1 ∨ b = 2 ∨ b = 3 by omega) with rfl | rfl | rfl | rfl <;> omega
theorem gb_b {bd : Nat → Nat} {l : Nat} (h : ∀ i, i < 24 → bd i ≤ 1000000) (hl : l < 6) : gb bd l ≤ 1000000 := by
  unfold gb
  have := h (4 * l + 0) (by omega)
  have := h (4 * l + 1) (by omega)
  have := h (4 * l + 2) (by omega)
  have := h (4 * l + 3) (by omega)
  omega
theorem fo_id {α : Type} {f : Nat → α → α} {st : α} : ∀ n, (∀ b, b < n → f b st = st) → fo f n st = st
  | 0, _ => rfl
  | n + 1, h => by rw [fo, fo_id n (fun b hb => h b (by omega)), h n (by omega)]
theorem sp_prune (bd lm : Nat → Nat) {L : Nat} : ∀ (r P T W : Nat), r ≤ L → sumD bd (L - r) P + hp bd L r + 1 ≤ T → sp bd lm L r P (T, W) = (T, W) := by
  intro r
  induction r with
  | zero =>
    intro P T W hr h
    rw [sp, if_neg]
    have : hp bd L 0 = 0 := rfl
    rw [show L - 0 = L from rfl] at h
    show ¬ T < _
    omega
  | succ r ih =>
    intro P T W hr h
    have el : L - r = L - (r + 1) + 1 := by omega
    rw [hp] at h
    have kid : ∀ b, b < 5 → sp bd lm L r (5 * P + b) (T, W) = (T, W) := fun b hb => ih _ T W (by omega) (by
      rw [el, sumD_5 bd _ P b hb]
      split
      · next hb4 => have := gb_le (bd := bd) (l := L - (r + 1)) hb4; omega
      · omega)
    rw [sp, fo_id, kid 4 (by omega)]
    intro b hb
    show (if _ then _ else _) = _
    rw [kid b (by omega), ite_self]
theorem sumD_le {bd : Nat → Nat} (h : ∀ i, i < 24 → bd i ≤ 1000000) : ∀ (l P : Nat), l ≤ 6 → sumD bd l P ≤ 1000000 * l
  | 0, _, _ => Nat.le_refl 0
  | l + 1, P, hl => by
    have := sumD_le h l (P / 5) (by omega)
    rw [sumD]
    split
    · have := h (4 * l + P % 5) (by omega); omega
    · omega
theorem hp_le {bd : Nat → Nat} (h : ∀ i, i < 24 → bd i ≤ 1000000) {L : Nat} (hL : L ≤ 6) : ∀ r, r ≤ L → hp bd L r ≤ 1000000 * r
  | 0, _ => Nat.le_refl 0
  | r + 1, hr => by
    have := hp_le h hL r (by omega)
    have := gb_b (bd := bd) (l := L - (r + 1)) h (by omega)
    rw [hp]
    omega
theorem usD_le : ∀ (l P b : Nat), usD l P b ≤ l
  | 0, _, _ => Nat.le_refl 0
  | l + 1, P, b => by
    have := usD_le l (P / 5) b
    rw [usD]
    split <;> omega
theorem sp_b {bd lm : Nat → Nat} {L : Nat} (h : ∀ i, i < 24 → bd i ≤ 1000000) (hL : L ≤ 6) : ∀ (r P : Nat) (st : Nat × Nat), st.1 ≤ 6000001 → (sp bd lm L r P st).1 ≤ 6000001 := by
  intro r
  induction r with
  | zero =>
    intro P st hst
    rw [sp]
    split
    · have := sumD_le h L P hL; show sumD bd L P + 1 ≤ _; omega
    · exact hst
  | succ r ih =>
    intro P st hst
    rw [sp]
    apply ih
    have : ∀ n, n ≤ 4 → (fo (fun b s => if 0 < bd (4 * (L - (r + 1)) + b) ∧ usD (L - (r + 1)) P b < lm b then sp bd lm L r (5 * P + b) s else s) n st).1 ≤ 6000001 := by
      intro n
      induction n with
      | zero => intro _; exact hst
      | succ n ihn =>
        intro hn
        rw [fo]
        split
        · exact ih _ _ (ihn (by omega))
        · exact ihn (by omega)
    exact this 4 (by omega)
