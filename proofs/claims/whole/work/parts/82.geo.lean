/-! ===== models as cells; how they are laid ===== -/
def cel : List Lay → Nat → Nat → Nat × Nat × Nat
  | [], _, _ => (0, 0, 0)
  | a :: l, z, k => if k < a.2.1 * a.1 then (a.2.2.1 + k % a.1, a.2.2.2 + k / a.1, z) else cel l (z + 1) (k - a.2.1 * a.1)
def inB : List Lay → Nat → Nat → Nat → Nat → Bool
  | [], _, _, _, _ => false
  | a :: l, z0, x, y, z => (decide (z = z0) && (decide (a.2.2.1 ≤ x) && (decide (x < a.2.2.1 + a.1) && (decide (a.2.2.2 ≤ y) && decide (y < a.2.2.2 + a.2.1))))) || inB l (z0 + 1) x y z
theorem Cells_cel {m : IM} {q : Nat} : ∀ (l : List Lay) (z o : Nat), Cells m q z o l → ∀ k, k < tot l → m 205 (216 * q + o + k) = nI (cel l z k).1 ∧ m 206 (216 * q + o + k) = nI (cel l z k).2.1 ∧ m 207 (216 * q + o + k) = nI (cel l z k).2.2
  | [], _, _, _, k, hk => absurd hk (Nat.not_lt_zero _)
  | a :: l, z, o, h, k, hk => by
    rw [cel]
    by_cases c : k < a.2.1 * a.1
    · rw [if_pos c]; exact h.1 k c
    · rw [if_neg c]
      have hk : k < a.2.1 * a.1 + tot l := hk
      have := Cells_cel l (z + 1) (o + a.2.1 * a.1) h.2 (k - a.2.1 * a.1) (by omega)
      rw [show 216 * q + (o + a.2.1 * a.1) + (k - a.2.1 * a.1) = 216 * q + o + k by omega] at this
      exact this
theorem inB_low : ∀ (l : List Lay) (z0 x y z : Nat), z < z0 → inB l z0 x y z = false
  | [], _, _, _, _, _ => rfl
  | a :: l, z0, x, y, z, h => by rw [inB, decide_eq_false (by omega : ¬ z = z0), Bool.false_and, Bool.false_or, inB_low l (z0 + 1) x y z (by omega)]
theorem cel_in : ∀ (l : List Lay) (z k : Nat), (∀ a ∈ l, okLay a) → k < tot l → inB l z (cel l z k).1 (cel l z k).2.1 (cel l z k).2.2 = true
  | [], _, k, _, hk => absurd hk (Nat.not_lt_zero _)
  | a :: l, z, k, h, hk => by
    have ha := h a List.mem_cons_self
    rw [cel]
    by_cases c : k < a.2.1 * a.1
    · rw [if_pos c, inB]
      have h1 : k % a.1 < a.1 := Nat.mod_lt _ (by have := ha.1.1; omega)
      have h2 : k / a.1 < a.2.1 := Nat.div_lt_of_lt_mul (by rw [Nat.mul_comm]; exact c)
      show (decide (z = z) && (decide (a.2.2.1 ≤ a.2.2.1 + k % a.1) && (decide (a.2.2.1 + k % a.1 < a.2.2.1 + a.1) && (decide (a.2.2.2 ≤ a.2.2.2 + k / a.1) && decide (a.2.2.2 + k / a.1 < a.2.2.2 + a.2.1)))) || _) = true
      generalize k % a.1 = r at h1 ⊢
      generalize k / a.1 = s at h2 ⊢
      rw [decide_eq_true rfl, decide_eq_true (by omega), decide_eq_true (by omega), decide_eq_true (by omega), decide_eq_true (by omega)]; rfl
    · rw [if_neg c, inB]
      have hk : k < a.2.1 * a.1 + tot l := hk
      rw [cel_in l (z + 1) (k - a.2.1 * a.1) (fun b hb => h b (List.mem_cons_of_mem _ hb)) (by omega), Bool.or_true]
theorem cel_all : ∀ (l : List Lay) (z0 x y z : Nat), inB l z0 x y z = true → ∃ k, k < tot l ∧ cel l z0 k = (x, y, z)
  | [], _, _, _, _, h => by cases h
  | a :: l, z0, x, y, z, h => by
    rw [inB, Bool.or_eq_true] at h
    rcases h with h | h
    · rw [Bool.and_eq_true, Bool.and_eq_true, Bool.and_eq_true, Bool.and_eq_true] at h
      obtain ⟨e1, e2, e3, e4, e5⟩ := h
      have e1 := of_decide_eq_true e1
      have e2 := of_decide_eq_true e2
      have e3 := of_decide_eq_true e3
      have e4 := of_decide_eq_true e4
      have e5 := of_decide_eq_true e5
      have hlt : (y - a.2.2.2) * a.1 + (x - a.2.2.1) < a.2.1 * a.1 := by
        have : (y - a.2.2.2 + 1) * a.1 ≤ a.2.1 * a.1 := Nat.mul_le_mul_right _ (by omega)
        rw [Nat.add_mul] at this
        omega
      refine ⟨(y - a.2.2.2) * a.1 + (x - a.2.2.1), ?_, ?_⟩
      · show _ < a.2.1 * a.1 + tot l; omega
      · rw [cel, if_pos hlt]
        have hw : 0 < a.1 := by omega
        rw [Nat.mul_comm, Nat.mul_add_mod, Nat.mul_add_div hw, Nat.mod_eq_of_lt (by omega), Nat.div_eq_of_lt (by omega)]
        rw [show a.2.2.1 + (x - a.2.2.1) = x by omega, show a.2.2.2 + (y - a.2.2.2 + 0) = y by omega, e1]
    · obtain ⟨k, h1, h2⟩ := cel_all l (z0 + 1) x y z h
      refine ⟨a.2.1 * a.1 + k, ?_, ?_⟩
      · show _ < a.2.1 * a.1 + tot l; omega
      · rw [cel, if_neg (by omega), show a.2.1 * a.1 + k - a.2.1 * a.1 = k by omega, h2]
theorem cel_b : ∀ (l : List Lay) (z k : Nat), (∀ a ∈ l, okLay a) → k < tot l → (cel l z k).1 ≤ 5 ∧ (cel l z k).2.1 ≤ 5 ∧ (cel l z k).2.2 < z + l.length
  | [], _, k, _, hk => absurd hk (Nat.not_lt_zero _)
  | a :: l, z, k, h, hk => by
    have ha := h a List.mem_cons_self
    obtain ⟨⟨b1, b2⟩, ⟨b3, b4⟩, b5, b6⟩ := ha
    rw [cel]
    by_cases c : k < a.2.1 * a.1
    · rw [if_pos c]
      have h1 : k % a.1 < a.1 := Nat.mod_lt _ (by omega)
      have h2 : k / a.1 < a.2.1 := Nat.div_lt_of_lt_mul (by rw [Nat.mul_comm]; exact c)
      show a.2.2.1 + k % a.1 ≤ 5 ∧ a.2.2.2 + k / a.1 ≤ 5 ∧ z < z + (l.length + 1)
      generalize k % a.1 = r at h1 ⊢
      generalize k / a.1 = s at h2 ⊢
      omega
    · rw [if_neg c]
      have hk : k < a.2.1 * a.1 + tot l := hk
      have := cel_b l (z + 1) (k - a.2.1 * a.1) (fun b hb => h b (List.mem_cons_of_mem _ hb)) (by omega)
      refine ⟨this.1, this.2.1, ?_⟩
      have h3 := this.2.2
      show _ < z + (l.length + 1)
      omega
/-- a coordinate of a cell -/
def cmp (c : Nat × Nat × Nat) (b : Nat) : Nat := if b = 0 then c.1 else if b = 1 then c.2.1 else c.2.2
def tu (w a : Nat) : Nat := ([0, 1, 2, 0, 2, 1, 1, 0, 2, 1, 2, 0, 2, 0, 1, 2, 1, 0] : List Nat).getD (3 * w + a) 0
def ivw (w : Nat) : Nat := if w = 3 then 4 else if w = 4 then 3 else w
def iv (w b : Nat) : Nat := tu (ivw w) b
theorem tu_lt : ∀ w, w < 6 → ∀ a, a < 3 → tu w a < 3 ∧ iv w a < 3 ∧ tu w (iv w a) = a ∧ iv w (tu w a) = a := by decide +kernel
theorem tuV_tu : ∀ w, w < 6 → ∀ a, a < 3 → tuV (3 * w + a) = nI (tu w a) := by decide +kernel
/-- the least and the greatest -/
def lst (f : Nat → Nat) : Nat → Nat
  | 0 => 9
  | n + 1 => min (lst f n) (f n)
def gst (f : Nat → Nat) : Nat → Nat
  | 0 => 0
  | n + 1 => max (gst f n) (f n)
theorem lst_le (f : Nat → Nat) : ∀ n, lst f n ≤ 9 ∧ ∀ k, k < n → lst f n ≤ f k
  | 0 => ⟨Nat.le_refl _, fun k hk => by omega⟩
  | n + 1 => by
    have ih := lst_le f n
    rw [lst]
    refine ⟨by omega, fun k hk => ?_⟩
    by_cases e : k = n
    · rw [e]; omega
    · have := ih.2 k (by omega); omega
theorem lst_at (f : Nat → Nat) : ∀ n, lst f n = 9 ∨ ∃ k, k < n ∧ f k = lst f n
  | 0 => Or.inl rfl
  | n + 1 => by
    rw [lst]
    by_cases c : f n < lst f n
    · exact Or.inr ⟨n, by omega, by omega⟩
    · rw [show min (lst f n) (f n) = lst f n by omega]
      rcases lst_at f n with h | ⟨k, h1, h2⟩
      · exact Or.inl h
      · exact Or.inr ⟨k, by omega, h2⟩
theorem gst_ge (f : Nat → Nat) : ∀ n k, k < n → f k ≤ gst f n
  | 0, k, hk => by omega
  | n + 1, k, hk => by
    have ih := gst_ge f n
    rw [gst]
    by_cases e : k = n
    · rw [e]; omega
    · have := ih k (by omega); omega
theorem gst_at (f : Nat → Nat) : ∀ n, gst f n = 0 ∨ ∃ k, k < n ∧ f k = gst f n
  | 0 => Or.inl rfl
  | n + 1 => by
    rw [gst]
    by_cases c : gst f n < f n
    · exact Or.inr ⟨n, by omega, by omega⟩
    · rw [show max (gst f n) (f n) = gst f n by omega]
      rcases gst_at f n with h | ⟨k, h1, h2⟩
      · exact Or.inl h
      · exact Or.inr ⟨k, by omega, h2⟩
def le_ (l : List Lay) (b : Nat) : Nat := lst (fun k => cmp (cel l 0 k) b) (tot l)
def hi_ (l : List Lay) (b : Nat) : Nat := gst (fun k => cmp (cel l 0 k) b) (tot l)
def sp_ (l : List Lay) (b : Nat) : Nat := hi_ l b + 1 - le_ l b
def okM (l : List Lay) : Prop := l ≠ [] ∧ l.length ≤ 6 ∧ ∀ a ∈ l, okLay a
theorem tot_pos {l : List Lay} (h : okM l) : 0 < tot l := by
  obtain ⟨h1, -, h3⟩ := h
  cases l with
  | nil => exact absurd rfl h1
  | cons a l =>
    have ha := h3 a List.mem_cons_self
    have := Nat.mul_le_mul ha.2.1.1 ha.1.1
    show 0 < a.2.1 * a.1 + tot l
    omega
theorem cmp_b {l : List Lay} (h : okM l) {k : Nat} (hk : k < tot l) (b : Nat) : cmp (cel l 0 k) b ≤ 5 := by
  obtain ⟨h1, h2, h3⟩ := cel_b l 0 k h.2.2 hk
  have := h.2.1
  unfold cmp
  split
  · omega
  · split <;> omega
theorem geo {l : List Lay} (h : okM l) (b : Nat) : le_ l b ≤ hi_ l b ∧ hi_ l b ≤ 5 ∧ (∃ k, k < tot l ∧ cmp (cel l 0 k) b = le_ l b) ∧ (∃ k, k < tot l ∧ cmp (cel l 0 k) b = hi_ l b) ∧ ∀ k, k < tot l → le_ l b ≤ cmp (cel l 0 k) b ∧ cmp (cel l 0 k) b ≤ hi_ l b := by
  have ht := tot_pos h
  have h1 := lst_le (fun k => cmp (cel l 0 k) b) (tot l)
  have h2 := lst_at (fun k => cmp (cel l 0 k) b) (tot l)
  have h3 := gst_ge (fun k => cmp (cel l 0 k) b) (tot l)
  have h4 := gst_at (fun k => cmp (cel l 0 k) b) (tot l)
  have b0 := cmp_b h ht b
  have e1 : le_ l b ≤ cmp (cel l 0 0) b := h1.2 0 ht
  have e2 : cmp (cel l 0 0) b ≤ hi_ l b := h3 0 ht
  have e3 : ∃ k, k < tot l ∧ cmp (cel l 0 k) b = le_ l b := by
    rcases h2 with z | z
    · have z : le_ l b = 9 := z; omega
    · exact z
  have e4 : ∃ k, k < tot l ∧ cmp (cel l 0 k) b = hi_ l b := by
    rcases h4 with z | z
    · have z : hi_ l b = 0 := z
      exact ⟨0, ht, by omega⟩
    · exact z
  refine ⟨by omega, ?_, e3, e4, fun k hk => ⟨h1.2 k hk, h3 k hk⟩⟩
  obtain ⟨k, k1, k2⟩ := e4
  have := cmp_b h k1 b
  omega
theorem sp_b_ {l : List Lay} (h : okM l) (b : Nat) : 1 ≤ sp_ l b ∧ sp_ l b ≤ 6 ∧ le_ l b + sp_ l b = hi_ l b + 1 := by
  obtain ⟨h1, h2, -⟩ := geo h b
  unfold sp_; omega
/-- the coordinates of a place, and in blocks of t -/
def coo (a i : Nat) : Nat := if a = 0 then i % 6 else if a = 1 then i / 6 % 6 else i / 36
theorem coo_0 (i : Nat) : coo 0 i = i % 6 := rfl
theorem coo_1 (i : Nat) : coo 1 i = i / 6 % 6 := rfl
theorem coo_2 (i : Nat) : coo 2 i = i / 36 := rfl
def mkB (l : List Lay) (t w i : Nat) : Bool := inB l 0 (coo (iv w 0) i / t + le_ l 0) (coo (iv w 1) i / t + le_ l 1) (coo (iv w 2) i / t + le_ l 2)
theorem cel_cmp {l : List Lay} {k x y z : Nat} (h : cel l 0 k = (x, y, z)) : cmp (cel l 0 k) 0 = x ∧ cmp (cel l 0 k) 1 = y ∧ cmp (cel l 0 k) 2 = z := by rw [h]; exact ⟨rfl, rfl, rfl⟩
/-- a place of the mask is a cell's -/
theorem mkB_iff {l : List Lay} (h : okM l) {t w i : Nat} (hw : w < 6) : mkB l t w i = true ↔ ∃ k, k < tot l ∧ ∀ a, a < 3 → cmp (cel l 0 k) (tu w a) = coo a i / t + le_ l (tu w a) := by
  constructor
  · intro hb
    obtain ⟨k, h1, h2⟩ := cel_all l 0 _ _ _ hb
    obtain ⟨c0, c1, c2⟩ := cel_cmp h2
    refine ⟨k, h1, fun a ha => ?_⟩
    obtain ⟨t1, t2, t3, t4⟩ := tu_lt w hw a ha
    have : ∀ b, b < 3 → cmp (cel l 0 k) b = coo (iv w b) i / t + le_ l b := fun b hb => by
      rcases (show b = 0 ∨ b = 1 ∨ b = 2 by omega) with rfl | rfl | rfl
      · exact c0
      · exact c1
      · exact c2
    rw [this _ t1, t4]
  · intro ⟨k, h1, h2⟩
    have hin := cel_in l 0 k h.2.2 h1
    have : ∀ b, b < 3 → coo (iv w b) i / t + le_ l b = cmp (cel l 0 k) b := fun b hb => by
      obtain ⟨t1, t2, t3, t4⟩ := tu_lt w hw b hb
      have := h2 (iv w b) t2
      rw [t3] at this
      exact this.symm
    unfold mkB
    rw [this 0 (by decide), this 1 (by decide), this 2 (by decide)]
    exact hin
/-- how far a laid model reaches -/
def fx (l : List Lay) (t w a : Nat) : Nat := t * sp_ l (tu w a)
theorem mkB_b {l : List Lay} (h : okM l) {t w i a : Nat} (ht : 0 < t) (hw : w < 6) (ha : a < 3) (hb : mkB l t w i = true) : coo a i < fx l t w a := by
  obtain ⟨k, h1, h2⟩ := (mkB_iff h hw).mp hb
  have h3 := h2 a ha
  obtain ⟨-, -, -, -, g⟩ := geo h (tu w a)
  have g := g k h1
  have s := sp_b_ h (tu w a)
  have : coo a i / t < sp_ l (tu w a) := by omega
  rw [Nat.div_lt_iff_lt_mul ht] at this
  unfold fx
  rw [Nat.mul_comm]; exact this
def mkI (x y z : Nat) : Nat := x + 6 * y + 36 * z
theorem coo_mk {x y z : Nat} (hx : x < 6) (hy : y < 6) : coo 0 (mkI x y z) = x ∧ coo 1 (mkI x y z) = y ∧ coo 2 (mkI x y z) = z := by
  unfold mkI
  rw [coo_0, coo_1, coo_2]
  omega
theorem div_blk {t q r : Nat} (hr : r < t) : (t * q + r) / t = q := by
  rw [Nat.mul_add_div (by omega), Nat.div_eq_of_lt hr, Nat.add_zero]
/-- a cell's block lies in the mask -/
theorem mkB_blk {l : List Lay} (h : okM l) {t w k r0 r1 r2 : Nat} (ht : 0 < t) (hw : w < 6) (hk : k < tot l) (hf : ∀ a, a < 3 → fx l t w a ≤ 6) (h0 : r0 < t) (h1 : r1 < t) (h2 : r2 < t) : (∀ a, a < 3 → t * (cmp (cel l 0 k) (tu w a) - le_ l (tu w a)) + t ≤ 6) ∧ mkB l t w (mkI (t * (cmp (cel l 0 k) (tu w 0) - le_ l (tu w 0)) + r0) (t * (cmp (cel l 0 k) (tu w 1) - le_ l (tu w 1)) + r1) (t * (cmp (cel l 0 k) (tu w 2) - le_ l (tu w 2)) + r2)) = true := by
  have bd : ∀ a, a < 3 → t * (cmp (cel l 0 k) (tu w a) - le_ l (tu w a)) + t ≤ 6 := fun a ha => by
    obtain ⟨-, -, -, -, g⟩ := geo h (tu w a)
    have g := g k hk
    have s := sp_b_ h (tu w a)
    have f := hf a ha
    unfold fx at f
    have : t * (cmp (cel l 0 k) (tu w a) - le_ l (tu w a) + 1) ≤ t * sp_ l (tu w a) := Nat.mul_le_mul_left _ (by omega)
    rw [Nat.mul_add, Nat.mul_one] at this
    omega
  refine ⟨bd, ?_⟩
  have b0 := bd 0 (by decide)
  have b1 := bd 1 (by decide)
  have b2 := bd 2 (by decide)
  rw [mkB_iff h hw]
  refine ⟨k, hk, fun a ha => ?_⟩
  obtain ⟨c0, c1, c2⟩ := coo_mk (x := t * (cmp (cel l 0 k) (tu w 0) - le_ l (tu w 0)) + r0) (y := t * (cmp (cel l 0 k) (tu w 1) - le_ l (tu w 1)) + r1) (z := t * (cmp (cel l 0 k) (tu w 2) - le_ l (tu w 2)) + r2) (by omega) (by omega)
  obtain ⟨-, -, -, -, g⟩ := geo h (tu w a)
  have g := g k hk
  rcases (show a = 0 ∨ a = 1 ∨ a = 2 by omega) with rfl | rfl | rfl
  · rw [c0, div_blk h0]; omega
  · rw [c1, div_blk h1]; omega
  · rw [c2, div_blk h2]; omega
