/-! ===== models by layers ===== -/
def ga (l : List Lay) (i : Nat) : Lay := l.getD i (0, 0, 0, 0)
theorem ga_0 (a : Lay) (l : List Lay) : ga (a :: l) 0 = a := rfl
theorem ga_s (a : Lay) (l : List Lay) (i : Nat) : ga (a :: l) (i + 1) = ga l i := rfl
theorem ga_mem : ∀ {l : List Lay} {i : Nat}, i < l.length → ga l i ∈ l
  | [], i, h => absurd h (Nat.not_lt_zero _)
  | a :: l, 0, _ => List.mem_cons_self
  | a :: l, i + 1, h => List.mem_cons_of_mem _ (ga_mem (l := l) (i := i) (Nat.lt_of_succ_lt_succ h))
def inR (a : Lay) (x y : Nat) : Prop := a.2.2.1 ≤ x ∧ x < a.2.2.1 + a.1 ∧ a.2.2.2 ≤ y ∧ y < a.2.2.2 + a.2.1
theorem inB_ga : ∀ {l : List Lay} {z0 x y z : Nat}, inB l z0 x y z = true ↔ ∃ i, i < l.length ∧ z = z0 + i ∧ inR (ga l i) x y
  | [], z0, x, y, z => ⟨fun h => (by cases h), fun ⟨i, h, _⟩ => absurd h (Nat.not_lt_zero _)⟩
  | a :: l, z0, x, y, z => by
    rw [inB, Bool.or_eq_true, Bool.and_eq_true, Bool.and_eq_true, Bool.and_eq_true, Bool.and_eq_true, decide_eq_true_eq, decide_eq_true_eq, decide_eq_true_eq, decide_eq_true_eq, decide_eq_true_eq, inB_ga (l := l)]
    constructor
    · intro h
      rcases h with ⟨h1, h2⟩ | ⟨i, h1, h2, h3⟩
      · exact ⟨0, Nat.succ_pos _, by omega, h2⟩
      · exact ⟨i + 1, Nat.succ_lt_succ h1, by omega, h3⟩
    · intro ⟨i, h1, h2, h3⟩
      cases i with
      | zero => exact Or.inl ⟨h2, h3⟩
      | succ i => exact Or.inr ⟨i, Nat.lt_of_succ_lt_succ h1, by omega, h3⟩
theorem ga_ok {l : List Lay} (h : okM l) {i : Nat} (hi : i < l.length) : okLay (ga l i) := h.2.2 _ (ga_mem hi)
theorem len_pos {l : List Lay} (h : okM l) : 0 < l.length := by
  cases l with
  | nil => exact absurd rfl h.1
  | cons a l => exact Nat.succ_pos _
theorem cel_cell {l : List Lay} (h : okM l) {k : Nat} (hk : k < tot l) : ∃ i, i < l.length ∧ (cel l 0 k).2.2 = i ∧ inR (ga l i) (cel l 0 k).1 (cel l 0 k).2.1 := by
  obtain ⟨i, h1, h2, h3⟩ := inB_ga.mp (cel_in l 0 k h.2.2 hk)
  exact ⟨i, h1, by omega, h3⟩
theorem cell_k {l : List Lay} {i x y : Nat} (hi : i < l.length) (h : inR (ga l i) x y) : ∃ k, k < tot l ∧ cel l 0 k = (x, y, i) := cel_all l 0 x y i (inB_ga.mpr ⟨i, hi, by omega, h⟩)
/-- the ends on each axis, by layers -/
theorem le_0 {l : List Lay} (h : okM l) : (∀ i, i < l.length → le_ l 0 ≤ (ga l i).2.2.1 ∧ (ga l i).2.2.1 + (ga l i).1 ≤ hi_ l 0 + 1) ∧ (∃ i, i < l.length ∧ (ga l i).2.2.1 = le_ l 0) ∧ ∃ i, i < l.length ∧ (ga l i).2.2.1 + (ga l i).1 = hi_ l 0 + 1 := by
  obtain ⟨g1, g2, ⟨k1, g3, g4⟩, ⟨k2, g5, g6⟩, g7⟩ := geo h 0
  have key : ∀ i, i < l.length → le_ l 0 ≤ (ga l i).2.2.1 ∧ (ga l i).2.2.1 + (ga l i).1 ≤ hi_ l 0 + 1 := fun i hi => by
    obtain ⟨⟨b1, b2⟩, ⟨b3, b4⟩, b5, b6⟩ := ga_ok h hi
    obtain ⟨k, q1, q2⟩ := cell_k (x := (ga l i).2.2.1) (y := (ga l i).2.2.2) hi ⟨Nat.le_refl _, by omega, Nat.le_refl _, by omega⟩
    obtain ⟨k', q3, q4⟩ := cell_k (x := (ga l i).2.2.1 + (ga l i).1 - 1) (y := (ga l i).2.2.2) hi ⟨by omega, by omega, Nat.le_refl _, by omega⟩
    have e1 := (g7 k q1).1
    have e2 := (g7 k' q3).2
    rw [(cel_cmp q2).1] at e1
    rw [(cel_cmp q4).1] at e2
    omega
  refine ⟨key, ?_, ?_⟩
  · obtain ⟨i, i1, i2, i3⟩ := cel_cell h g3
    have e : (cel l 0 k1).1 = le_ l 0 := g4
    obtain ⟨r1, r2, r3, r4⟩ := i3
    have := (key i i1).1
    exact ⟨i, i1, by omega⟩
  · obtain ⟨i, i1, i2, i3⟩ := cel_cell h g5
    have e : (cel l 0 k2).1 = hi_ l 0 := g6
    obtain ⟨r1, r2, r3, r4⟩ := i3
    have := (key i i1).2
    exact ⟨i, i1, by omega⟩
theorem le_1 {l : List Lay} (h : okM l) : (∀ i, i < l.length → le_ l 1 ≤ (ga l i).2.2.2 ∧ (ga l i).2.2.2 + (ga l i).2.1 ≤ hi_ l 1 + 1) ∧ (∃ i, i < l.length ∧ (ga l i).2.2.2 = le_ l 1) ∧ ∃ i, i < l.length ∧ (ga l i).2.2.2 + (ga l i).2.1 = hi_ l 1 + 1 := by
  obtain ⟨g1, g2, ⟨k1, g3, g4⟩, ⟨k2, g5, g6⟩, g7⟩ := geo h 1
  have key : ∀ i, i < l.length → le_ l 1 ≤ (ga l i).2.2.2 ∧ (ga l i).2.2.2 + (ga l i).2.1 ≤ hi_ l 1 + 1 := fun i hi => by
    obtain ⟨⟨b1, b2⟩, ⟨b3, b4⟩, b5, b6⟩ := ga_ok h hi
    obtain ⟨k, q1, q2⟩ := cell_k (x := (ga l i).2.2.1) (y := (ga l i).2.2.2) hi ⟨Nat.le_refl _, by omega, Nat.le_refl _, by omega⟩
    obtain ⟨k', q3, q4⟩ := cell_k (x := (ga l i).2.2.1) (y := (ga l i).2.2.2 + (ga l i).2.1 - 1) hi ⟨Nat.le_refl _, by omega, by omega, by omega⟩
    have e1 := (g7 k q1).1
    have e2 := (g7 k' q3).2
    rw [(cel_cmp q2).2.1] at e1
    rw [(cel_cmp q4).2.1] at e2
    omega
  refine ⟨key, ?_, ?_⟩
  · obtain ⟨i, i1, i2, i3⟩ := cel_cell h g3
    have e : (cel l 0 k1).2.1 = le_ l 1 := g4
    obtain ⟨r1, r2, r3, r4⟩ := i3
    have := (key i i1).1
    exact ⟨i, i1, by omega⟩
  · obtain ⟨i, i1, i2, i3⟩ := cel_cell h g5
    have e : (cel l 0 k2).2.1 = hi_ l 1 := g6
    obtain ⟨r1, r2, r3, r4⟩ := i3
    have := (key i i1).2
    exact ⟨i, i1, by omega⟩
theorem le_2 {l : List Lay} (h : okM l) : le_ l 2 = 0 ∧ sp_ l 2 = l.length := by
  obtain ⟨g1, g2, ⟨k1, g3, g4⟩, ⟨k2, g5, g6⟩, g7⟩ := geo h 2
  have hl := len_pos h
  have top : ∀ i, i < l.length → le_ l 2 ≤ i ∧ i ≤ hi_ l 2 := fun i hi => by
    obtain ⟨⟨b1, b2⟩, ⟨b3, b4⟩, b5, b6⟩ := ga_ok h hi
    obtain ⟨k, q1, q2⟩ := cell_k (x := (ga l i).2.2.1) (y := (ga l i).2.2.2) hi ⟨Nat.le_refl _, by omega, Nat.le_refl _, by omega⟩
    have e1 := g7 k q1
    rw [(cel_cmp q2).2.2] at e1
    exact e1
  obtain ⟨i, i1, i2, -⟩ := cel_cell h g5
  have e : (cel l 0 k2).2.2 = hi_ l 2 := g6
  have a1 := top 0 hl
  have a2 := top (l.length - 1) (by omega)
  unfold sp_
  omega
theorem tot_box {A B : Nat} : ∀ (l : List Lay), (∀ a ∈ l, a.1 ≤ A ∧ a.2.1 ≤ B) → tot l ≤ l.length * (B * A)
  | [], _ => Nat.zero_le _
  | a :: l, h => by
    have h1 := h a List.mem_cons_self
    have h2 := tot_box l (fun b hb => h b (List.mem_cons_of_mem _ hb))
    have h3 := Nat.mul_le_mul h1.2 h1.1
    show a.2.1 * a.1 + tot l ≤ (l.length + 1) * (B * A)
    rw [Nat.add_mul, Nat.one_mul]
    omega
theorem mem_ga : ∀ {l : List Lay} {a : Lay}, a ∈ l → ∃ i, i < l.length ∧ ga l i = a
  | [], a, h => absurd h List.not_mem_nil
  | b :: l, a, h => by
    rcases List.mem_cons.mp h with e | e
    · exact ⟨0, Nat.succ_pos _, e.symm⟩
    · obtain ⟨i, h1, h2⟩ := mem_ga e
      exact ⟨i + 1, Nat.succ_lt_succ h1, h2⟩
theorem tot_sp {l : List Lay} (h : okM l) : tot l ≤ sp_ l 2 * (sp_ l 1 * sp_ l 0) := by
  rw [(le_2 h).2]
  refine tot_box l (fun a ha => ?_)
  obtain ⟨i, h1, rfl⟩ := mem_ga ha
  have e0 := (le_0 h).1 i h1
  have e1 := (le_1 h).1 i h1
  have s0 := sp_b_ h 0
  have s1 := sp_b_ h 1
  omega
theorem fx_all {l : List Lay} {t w : Nat} (hw : w < 6) (hf : ∀ a, a < 3 → fx l t w a ≤ 6) : ∀ b, b < 3 → t * sp_ l b ≤ 6 := fun b hb => by
  obtain ⟨t1, t2, t3, t4⟩ := tu_lt w hw b hb
  have := hf (iv w b) t2
  unfold fx at this
  rw [t3] at this
  exact this
theorem mul3 {t a b c n : Nat} (ha : t * a ≤ 6) (hb : t * b ≤ 6) (hc : t * c ≤ 6) (hn : n ≤ c * (b * a)) : n * t * t * t ≤ 216 := by
  have h1 : n * t * t * t ≤ c * (b * a) * t * t * t := Nat.mul_le_mul_right _ (Nat.mul_le_mul_right _ (Nat.mul_le_mul_right _ hn))
  have h2 : c * (b * a) * t * t * t = (t * c) * ((t * b) * (t * a)) := by
    rw [Nat.mul_comm t c, Nat.mul_comm t b, Nat.mul_comm t a]
    simp only [Nat.mul_assoc, Nat.mul_left_comm]
  have h3 : (t * c) * ((t * b) * (t * a)) ≤ 6 * (6 * 6) := Nat.mul_le_mul hc (Nat.mul_le_mul hb ha)
  omega
theorem fit_216 {S : Nat → Bool} {l : List Lay} {t w : Nat} (h : okM l) (hw : w < 6) (hf : fitW S l t w < 216) : (∀ b, b < 3 → t * sp_ l b ≤ 6) ∧ tot l * t * t * t ≤ 216 := by
  obtain ⟨b0, b1, b2⟩ := fp_b hf
  have := fx_all hw (fx3 (l := l) (t := t) (w := w) (by omega) (by omega) (by omega))
  exact ⟨this, mul3 (this 0 (by decide)) (this 1 (by decide)) (this 2 (by decide)) (tot_sp h)⟩
theorem way_216 {S : Nat → Bool} {l : List Lay} {t : Nat} (h : okM l) (hf : way1 S l t < 6) : (∀ b, b < 3 → t * sp_ l b ≤ 6) ∧ tot l * t * t * t ≤ 216 := by
  obtain ⟨w, h1, h2⟩ := ff_lt.mp hf
  have h2 : fitW S l t w < 216 := of_decide_eq_true h2
  exact fit_216 h h1 h2
