/-! ===== where a laid model fits; cuts; the best ===== -/
theorem alB_t {p : Nat → Bool} : ∀ {n : Nat}, alB p n = true ↔ ∀ k, k < n → p k = true
  | 0 => ⟨fun _ k hk => by omega, fun _ => rfl⟩
  | n + 1 => by
    rw [alB, Bool.and_eq_true, alB_t (n := n)]
    constructor
    · intro ⟨h1, h2⟩ k hk
      by_cases e : k = n
      · rw [e]; exact h2
      · exact h1 k (by omega)
    · intro h
      exact ⟨fun k hk => h k (by omega), h n (by omega)⟩
def GdB (S M : Nat → Bool) (f0 f1 f2 p : Nat) : Bool := decide (p % 6 + f0 ≤ 6) && (decide (p / 6 % 6 + f1 ≤ 6) && (decide (p / 36 + f2 ≤ 6) && alB (fun i => !M i || S (p + i)) 216))
theorem GdB_t {S M : Nat → Bool} {f0 f1 f2 p : Nat} : GdB S M f0 f1 f2 p = true ↔ (p % 6 + f0 ≤ 6 ∧ p / 6 % 6 + f1 ≤ 6 ∧ p / 36 + f2 ≤ 6) ∧ ∀ i, i < 216 → M i = true → S (p + i) = true := by
  unfold GdB
  rw [Bool.and_eq_true, Bool.and_eq_true, Bool.and_eq_true, decide_eq_true_eq, decide_eq_true_eq, decide_eq_true_eq, alB_t]
  constructor
  · intro ⟨h1, h2, h3, h4⟩
    refine ⟨⟨h1, h2, h3⟩, fun i hi hM => ?_⟩
    have := h4 i hi
    rw [hM] at this
    exact this
  · intro ⟨⟨h1, h2, h3⟩, h4⟩
    refine ⟨h1, h2, h3, fun i hi => ?_⟩
    cases hM : M i
    · rfl
    · show (!true || S (p + i)) = true
      rw [h4 i hi hM]; rfl
def inP (ax lo hi : Nat) (S : Nat → Bool) : Nat → Bool := fun i => S i && (decide (lo ≤ coo ax i) && decide (coo ax i ≤ hi))
theorem inP_t {ax lo hi i : Nat} {S : Nat → Bool} : inP ax lo hi S i = true ↔ S i = true ∧ lo ≤ coo ax i ∧ coo ax i ≤ hi := by
  unfold inP
  rw [Bool.and_eq_true, Bool.and_eq_true, decide_eq_true_eq, decide_eq_true_eq]
theorem coo_add {ax p i : Nat} (hax : ax < 3) (h0 : p % 6 + i % 6 < 6) (h1 : p / 6 % 6 + i / 6 % 6 < 6) : coo ax (p + i) = coo ax p + coo ax i := by
  rcases (show ax = 0 ∨ ax = 1 ∨ ax = 2 by omega) with rfl | rfl | rfl
  · rw [coo_0, coo_0, coo_0]; omega
  · rw [coo_1, coo_1, coo_1]; omega
  · rw [coo_2, coo_2, coo_2]; omega
def GdM (S : Nat → Bool) (l : List Lay) (t w p : Nat) : Bool := GdB S (mkB l t w) (fx l t w 0) (fx l t w 1) (fx l t w 2) p
theorem fx3 {l : List Lay} {t w : Nat} (h0 : fx l t w 0 ≤ 6) (h1 : fx l t w 1 ≤ 6) (h2 : fx l t w 2 ≤ 6) : ∀ a, a < 3 → fx l t w a ≤ 6 := fun a ha => by
  rcases (show a = 0 ∨ a = 1 ∨ a = 2 by omega) with rfl | rfl | rfl
  · exact h0
  · exact h1
  · exact h2
/-- the mask begins and ends on each axis -/
theorem mk_ends {l : List Lay} (h : okM l) {t w ax : Nat} (ht : 0 < t) (hw : w < 6) (hax : ax < 3) (hf : ∀ a, a < 3 → fx l t w a ≤ 6) : (∃ i, i < 216 ∧ mkB l t w i = true ∧ coo ax i = 0) ∧ ∃ i, i < 216 ∧ mkB l t w i = true ∧ coo ax i + 1 = fx l t w ax := by
  have key : ∀ k r, k < tot l → r < t → ∃ i, i < 216 ∧ mkB l t w i = true ∧ coo ax i = t * (cmp (cel l 0 k) (tu w ax) - le_ l (tu w ax)) + r := fun k r hk hr => by
    obtain ⟨b, hm⟩ := mkB_blk h ht hw hk hf hr hr hr
    have b0 := b 0 (by decide)
    have b1 := b 1 (by decide)
    have b2 := b 2 (by decide)
    obtain ⟨c0, c1, c2⟩ := coo_mk (x := t * (cmp (cel l 0 k) (tu w 0) - le_ l (tu w 0)) + r) (y := t * (cmp (cel l 0 k) (tu w 1) - le_ l (tu w 1)) + r) (z := t * (cmp (cel l 0 k) (tu w 2) - le_ l (tu w 2)) + r) (by omega) (by omega)
    refine ⟨_, ?_, hm, ?_⟩
    · unfold mkI; omega
    · rcases (show ax = 0 ∨ ax = 1 ∨ ax = 2 by omega) with rfl | rfl | rfl
      · exact c0
      · exact c1
      · exact c2
  obtain ⟨-, -, ⟨k1, g1, g2⟩, ⟨k2, g3, g4⟩, -⟩ := geo h (tu w ax)
  have s := sp_b_ h (tu w ax)
  constructor
  · obtain ⟨i, i1, i2, i3⟩ := key k1 0 g1 ht
    refine ⟨i, i1, i2, ?_⟩
    rw [i3, g2, Nat.sub_self]; rfl
  · obtain ⟨i, i1, i2, i3⟩ := key k2 (t - 1) g3 (by omega)
    refine ⟨i, i1, i2, ?_⟩
    rw [i3, g4]
    unfold fx
    rw [show sp_ l (tu w ax) = hi_ l (tu w ax) - le_ l (tu w ax) + 1 by omega, Nat.mul_add, Nat.mul_one]
    omega
theorem GdM_part {l : List Lay} (h : okM l) {S : Nat → Bool} {t w ax lo hi p : Nat} (ht : 0 < t) (hw : w < 6) (hax : ax < 3) : GdM (inP ax lo hi S) l t w p = true ↔ GdM S l t w p = true ∧ lo ≤ coo ax p ∧ coo ax p + fx l t w ax ≤ hi + 1 := by
  unfold GdM
  rw [GdB_t, GdB_t]
  constructor
  · intro ⟨⟨b0, b1, b2⟩, hA⟩
    have hf := fx3 (l := l) (t := t) (w := w) (by omega) (by omega) (by omega)
    have add : ∀ i, mkB l t w i = true → coo ax (p + i) = coo ax p + coo ax i := fun i hm => by
      have m0 := mkB_b h ht hw (show 0 < 3 by decide) hm
      have m1 := mkB_b h ht hw (show 1 < 3 by decide) hm
      rw [coo_0] at m0
      rw [coo_1] at m1
      exact coo_add hax (by omega) (by omega)
    obtain ⟨⟨i, i1, i2, i3⟩, ⟨k, k1, k2, k3⟩⟩ := mk_ends h ht hw hax hf
    refine ⟨⟨⟨b0, b1, b2⟩, fun i hi hm => (inP_t.mp (hA i hi hm)).1⟩, ?_, ?_⟩
    · have := (inP_t.mp (hA i i1 i2)).2.1
      rw [add i i2] at this; omega
    · have := (inP_t.mp (hA k k1 k2)).2.2
      rw [add k k2] at this; omega
  · intro ⟨⟨⟨b0, b1, b2⟩, hA⟩, h1, h2⟩
    refine ⟨⟨b0, b1, b2⟩, fun i hi hm => inP_t.mpr ⟨hA i hi hm, ?_⟩⟩
    have m0 := mkB_b h ht hw (show 0 < 3 by decide) hm
    have m1 := mkB_b h ht hw (show 1 < 3 by decide) hm
    have mx := mkB_b h ht hw hax hm
    rw [coo_0] at m0
    rw [coo_1] at m1
    rw [coo_add hax (by omega) (by omega)]
    omega
theorem blk_ix {t r0 r1 r2 : Nat} (h1 : 1 ≤ t) (h2 : t ≤ 6) (a0 : r0 < t) (a1 : r1 < t) (a2 : r2 < t) : ∃ i, i < t * t * t ∧ i % t = r0 ∧ i / t % t = r1 ∧ i / t / t = r2 := by
  refine ⟨r0 + t * (r1 + t * r2), ?_⟩
  rcases (show t = 1 ∨ t = 2 ∨ t = 3 ∨ t = 4 ∨ t = 5 ∨ t = 6 by omega) with rfl | rfl | rfl | rfl | rfl | rfl <;> omega
theorem ix_blk {t i : Nat} (h1 : 1 ≤ t) (h2 : t ≤ 6) (hi : i < t * t * t) : i % t < t ∧ i / t % t < t ∧ i / t / t < t := by
  rcases (show t = 1 ∨ t = 2 ∨ t = 3 ∨ t = 4 ∨ t = 5 ∨ t = 6 by omega) with rfl | rfl | rfl | rfl | rfl | rfl <;> omega
theorem mk_coo {i : Nat} : mkI (coo 0 i) (coo 1 i) (coo 2 i) = i := by
  unfold mkI
  rw [coo_0, coo_1, coo_2]; omega
/-- where a block of a cell lies -/
def bps (l : List Lay) (t w p k i : Nat) : Nat := p + mkI (t * (cmp (cel l 0 k) (tu w 0) - le_ l (tu w 0)) + i % t) (t * (cmp (cel l 0 k) (tu w 1) - le_ l (tu w 1)) + i / t % t) (t * (cmp (cel l 0 k) (tu w 2) - le_ l (tu w 2)) + i / t / t)
theorem th_iff {l : List Lay} (h : okM l) {S : Nat → Bool} {t w p : Nat} (h1 : 1 ≤ t) (h2 : t ≤ 6) (hw : w < 6) (hf : ∀ a, a < 3 → fx l t w a ≤ 6) : (∀ k, k < tot l → ∀ i, i < t * t * t → S (bps l t w p k i) = true) ↔ ∀ i, i < 216 → mkB l t w i = true → S (p + i) = true := by
  constructor
  · intro hA i hi hm
    obtain ⟨k, k1, k2⟩ := (mkB_iff h hw).mp hm
    obtain ⟨i', q0, q1, q2, q3⟩ := blk_ix h1 h2 (Nat.mod_lt (coo 0 i) (by omega : t > 0)) (Nat.mod_lt (coo 1 i) (by omega : t > 0)) (Nat.mod_lt (coo 2 i) (by omega : t > 0))
    have := hA k k1 i' q0
    unfold bps at this
    have e : ∀ a, a < 3 → t * (cmp (cel l 0 k) (tu w a) - le_ l (tu w a)) + coo a i % t = coo a i := fun a ha => by
      rw [k2 a ha, Nat.add_sub_cancel, Nat.div_add_mod]
    rw [q1, q2, q3, e 0 (by decide), e 1 (by decide), e 2 (by decide), mk_coo] at this
    exact this
  · intro hA k hk i hi
    obtain ⟨r0, r1, r2⟩ := ix_blk h1 h2 hi
    obtain ⟨b, hm⟩ := mkB_blk h (by omega) hw hk hf r0 r1 r2
    have b0 := b 0 (by decide)
    have b1 := b 1 (by decide)
    have b2 := b 2 (by decide)
    exact hA _ (by unfold mkI; generalize i % t = x0 at *; generalize i / t % t = x1 at *; generalize i / t / t = x2 at *; omega) hm
/-! cuts -/
abbrev CT : Type := Nat × (Nat → Int32)
def fitW (S : Nat → Bool) (l : List Lay) (t w : Nat) : Nat := fa_first (GdM S l t w) 216
def way1 (S : Nat → Bool) (l : List Lay) (t : Nat) : Nat := fa_first (fun w => decide (fitW S l t w < 216)) 6
def cfF (q : Nat) (l : List Lay) (t w p : Nat) : Nat → Int32 := fun k => if k = 0 then nI q else if k = 1 then nI t else if k = 2 then nI w else if k = 3 then nI (p % 6) - nI (t * le_ l (tu w 0)) else if k = 4 then nI (p / 6 % 6) - nI (t * le_ l (tu w 1)) else if k = 5 then nI (p / 36) - nI (t * le_ l (tu w 2)) else nI (tot l * t * t * t)
def stT (wv : Nat → Nat) (S : Nat → Bool) (q : Nat) (l : List Lay) (t : Nat) (ct : CT) : CT := if ct.1 < wv (tot l * t * t * t) ∧ way1 S l t < 6 then (wv (tot l * t * t * t), cfF q l t (way1 S l t) (fitW S l t (way1 S l t))) else ct
def dnT (wv : Nat → Nat) (S : Nat → Bool) (q : Nat) (l : List Lay) : Nat → CT → CT
  | 0, ct => ct
  | t + 1, ct => dnT wv S q l t (stT wv S q l (t + 1) ct)
def cutC (wv : Nat → Nat) (S : Nat → Bool) (nM : Nat) (ly : Nat → List Lay) : CT := fo (fun q ct => dnT wv S q (ly q) 6 ct) nM (0, fun _ => 0)
section CUT
variable {wv : Nat → Nat} {S S' : Nat → Bool} {q : Nat} {l : List Lay}
theorem stT_ge {t : Nat} {ct : CT} : ct.1 ≤ (stT wv S q l t ct).1 := by
  unfold stT
  split
  · next h => exact Nat.le_of_lt h.1
  · exact Nat.le_refl _
theorem dnT_ge : ∀ (t : Nat) (ct : CT), ct.1 ≤ (dnT wv S q l t ct).1
  | 0, _ => Nat.le_refl _
  | t + 1, ct => Nat.le_trans stT_ge (dnT_ge t _)
theorem dnT_ub {t : Nat} (h1 : 1 ≤ t) (h3 : way1 S l t < 6) : ∀ (T : Nat) (ct : CT), t ≤ T → wv (tot l * t * t * t) ≤ (dnT wv S q l T ct).1 := by
  intro T
  induction T with
  | zero => intro ct h2; exact absurd (Nat.le_trans h1 h2) (by decide)
  | succ T ih =>
    intro ct h2
    rw [dnT]
    by_cases e : t = T + 1
    · subst e
      refine Nat.le_trans ?_ (dnT_ge T _)
      unfold stT
      split
      · exact Nat.le_refl _
      · next h => exact Nat.not_lt.mp (fun z => h ⟨z, h3⟩)
    · exact ih _ (by omega)
theorem dnT_at : ∀ (T : Nat) (ct : CT), (dnT wv S q l T ct).1 = ct.1 ∨ ∃ t, 1 ≤ t ∧ t ≤ T ∧ way1 S l t < 6 ∧ wv (tot l * t * t * t) = (dnT wv S q l T ct).1
  | 0, _ => Or.inl rfl
  | T + 1, ct => by
    rw [dnT]
    rcases dnT_at T (stT wv S q l (T + 1) ct) with h | ⟨t, h1, h2, h3⟩
    · rw [h]
      unfold stT
      split
      · next hc => exact Or.inr ⟨T + 1, by omega, Nat.le_refl _, hc.2, rfl⟩
      · exact Or.inl rfl
    · exact Or.inr ⟨t, h1, by omega, h3⟩
variable {ly : Nat → List Lay}
theorem fo_ge {f : Nat → CT → CT} (h : ∀ q ct, ct.1 ≤ (f q ct).1) : ∀ n (ct : CT), ct.1 ≤ (fo f n ct).1
  | 0, _ => Nat.le_refl _
  | n + 1, ct => Nat.le_trans (fo_ge h n ct) (h n _)
theorem cut_ub {q t : Nat} (h1 : 1 ≤ t) (h2 : t ≤ 6) (h3 : way1 S (ly q) t < 6) : ∀ nM, q < nM → wv (tot (ly q) * t * t * t) ≤ (cutC wv S nM ly).1 := by
  intro nM
  induction nM with
  | zero => intro h; exact absurd h (Nat.not_lt_zero _)
  | succ nM ih =>
    intro h
    by_cases e : q = nM
    · subst e
      exact dnT_ub h1 h3 6 _ h2
    · exact Nat.le_trans (ih (by omega)) (dnT_ge 6 _)
theorem cut_at : ∀ nM, (cutC wv S nM ly).1 = 0 ∨ ∃ q t, q < nM ∧ 1 ≤ t ∧ t ≤ 6 ∧ way1 S (ly q) t < 6 ∧ wv (tot (ly q) * t * t * t) = (cutC wv S nM ly).1
  | 0 => Or.inl rfl
  | nM + 1 => by
    have e : cutC wv S (nM + 1) ly = dnT wv S nM (ly nM) 6 (cutC wv S nM ly) := rfl
    rw [e]
    rcases dnT_at (wv := wv) (S := S) (q := nM) (l := ly nM) 6 (cutC wv S nM ly) with h | ⟨t, h1, h2, h3⟩
    · rw [h]
      rcases cut_at nM with z | ⟨q, t, z1, z2⟩
      · exact Or.inl z
      · exact Or.inr ⟨q, t, by omega, z2⟩
    · exact Or.inr ⟨nM, t, by omega, h1, h2, h3⟩
theorem ff_lt {p : Nat → Bool} {n : Nat} : fa_first p n < n ↔ ∃ k, k < n ∧ p k = true := by
  constructor
  · intro h; exact ⟨_, h, fa_first_yes _ _ h⟩
  · intro ⟨k, h1, h2⟩
    refine Classical.byContradiction fun z => ?_
    have := fa_first_no p n k (by omega)
    rw [h2] at this
    cases this
theorem ff_eq {p : Nat → Bool} {n k : Nat} (hk : k < n) (h : p k = true) (hl : ∀ i, i < k → p i = false) : fa_first p n = k := by
  have h1 : fa_first p n < n := ff_lt.mpr ⟨k, hk, h⟩
  have h2 := fa_first_yes p n h1
  rcases Nat.lt_trichotomy (fa_first p n) k with z | z | z
  · rw [hl _ z] at h2; cases h2
  · exact z
  · have := fa_first_no p n k z
    rw [h] at this; cases this
theorem ff_none {p : Nat → Bool} {n : Nat} (h : ∀ i, i < n → p i = false) : fa_first p n = n := by
  have := fa_first_le p n
  by_cases c : fa_first p n < n
  · have h2 := fa_first_yes p n c
    rw [h _ c] at h2; cases h2
  · omega
theorem ff_cong {p p' : Nat → Bool} {n : Nat} (h : ∀ i, i < n → p i = p' i) : fa_first p n = fa_first p' n := by
  by_cases c : fa_first p' n < n
  · exact ff_eq c (by rw [h _ c]; exact fa_first_yes _ _ c) (fun i hi => by rw [h i (by omega)]; exact fa_first_no _ _ _ hi)
  · have e : fa_first p' n = n := by have := fa_first_le p' n; omega
    rw [e]
    exact ff_none (fun i hi => by rw [h i hi]; exact fa_first_no p' n i (by omega))
theorem GdM_mono (hS : ∀ i, S' i = true → S i = true) {t w p : Nat} (h : GdM S' l t w p = true) : GdM S l t w p = true := by
  have h := GdB_t.mp h
  exact GdB_t.mpr ⟨h.1, fun i hi hm => hS _ (h.2 i hi hm)⟩
theorem way1_mono (hS : ∀ i, S' i = true → S i = true) {t : Nat} (h : way1 S' l t < 6) : way1 S l t < 6 := by
  obtain ⟨w, h1, h2⟩ := ff_lt.mp h
  have h2 : fitW S' l t w < 216 := of_decide_eq_true h2
  obtain ⟨p, p1, p2⟩ := ff_lt.mp h2
  exact ff_lt.mpr ⟨w, h1, decide_eq_true (ff_lt.mpr ⟨p, p1, GdM_mono hS p2⟩)⟩
theorem cut_mono {nM : Nat} (hS : ∀ i, S' i = true → S i = true) : (cutC wv S' nM ly).1 ≤ (cutC wv S nM ly).1 := by
  rcases cut_at (wv := wv) (S := S') (ly := ly) nM with h | ⟨q, t, h1, h2, h3, h4, h5⟩
  · rw [h]; exact Nat.zero_le _
  · rw [← h5]; exact cut_ub h2 h3 (way1_mono hS h4) nM h1
theorem fitW_cong {t w : Nat} (hS : ∀ i, i < 216 → S' i = S i) (h1 : 1 ≤ t) (hw : w < 6) (h : okM l) : fitW S' l t w = fitW S l t w := by
  refine ff_cong (fun p hp => ?_)
  have : GdM S' l t w p = true ↔ GdM S l t w p = true := by
    unfold GdM
    rw [GdB_t, GdB_t]
    have key : ∀ i, (p % 6 + fx l t w 0 ≤ 6 ∧ p / 6 % 6 + fx l t w 1 ≤ 6 ∧ p / 36 + fx l t w 2 ≤ 6) → mkB l t w i = true → p + i < 216 := fun i hb hm => by
      have m0 := mkB_b h (show 0 < t by omega) hw (show 0 < 3 by decide) hm
      have m1 := mkB_b h (show 0 < t by omega) hw (show 1 < 3 by decide) hm
      have m2 := mkB_b h (show 0 < t by omega) hw (show 2 < 3 by decide) hm
      rw [coo_0] at m0
      rw [coo_1] at m1
      rw [coo_2] at m2
      omega
    exact ⟨fun z => ⟨z.1, fun i hi hm => by rw [← hS _ (key i z.1 hm)]; exact z.2 i hi hm⟩, fun z => ⟨z.1, fun i hi hm => by rw [hS _ (key i z.1 hm)]; exact z.2 i hi hm⟩⟩
  cases c : GdM S l t w p
  · exact ts_nt (fun z => by rw [this.mp z] at c; cases c)
  · exact this.mpr c
end CUT
/-! the parts of a rough; the best -/
def ptA (k : Nat) : Nat := if k = 0 then 2 else (k - 1) / 2 / 4
def ptL (k : Nat) : Nat := if k = 0 then 0 else if (k - 1) % 2 = 0 then 0 else (k - 1) / 2 % 4 + 2
def ptH (k : Nat) : Nat := if k = 0 then 6 else if (k - 1) % 2 = 0 then (k - 1) / 2 % 4 + 1 else 6
def prt (S : Nat → Bool) (k : Nat) : Nat → Bool := inP (ptA k) (ptL k) (ptH k - 1) S
def cutK (wv : Nat → Nat) (S : Nat → Bool) (nM : Nat) (ly : Nat → List Lay) (k : Nat) : CT := cutC wv (prt S k) nM ly
abbrev BN : Type := Nat × Nat × Nat × Nat × (Nat → Int32) × (Nat → Int32)
def bstF (c : Nat → CT) : Nat → BN
  | 0 => ((c 0).1, 0, 0, if 0 < (c 0).1 then 1 else 0, (c 0).2, fun _ => 0)
  | k + 1 => if (bstF c k).1 < (c (2 * k + 1)).1 + (c (2 * k + 2)).1 then ((c (2 * k + 1)).1 + (c (2 * k + 2)).1, k / 4 + 1, k % 4 + 2, 2, (c (2 * k + 1)).2, (c (2 * k + 2)).2) else bstF c k
theorem bstF_ge (c : Nat → CT) : ∀ k, (c 0).1 ≤ (bstF c k).1
  | 0 => Nat.le_refl _
  | k + 1 => by
    have ih := bstF_ge c k
    rw [bstF]
    split
    · next h => exact Nat.le_trans ih (Nat.le_of_lt h)
    · exact ih
def bestN (wv : Nat → Nat) (S : Nat → Bool) (nM : Nat) (ly : Nat → List Lay) : BN := bstF (cutK wv S nM ly) 12
def bstI (b : BN) : BST := (nI b.1, oI b.2.1, oI b.2.2.1, b.2.2.2.1, b.2.2.2.2.1, b.2.2.2.2.2)
theorem prt_sub {S : Nat → Bool} {k : Nat} : ∀ i, prt S k i = true → S i = true := fun i h => (inP_t.mp h).1
theorem cutK_le {wv : Nat → Nat} {S : Nat → Bool} {nM : Nat} {ly : Nat → List Lay} (hM : ∀ q, q < nM → okM (ly q)) (k : Nat) : (cutK wv S nM ly k).1 ≤ (cutK wv S nM ly 0).1 := by
  unfold cutK
  rcases cut_at (wv := wv) (S := prt S k) (ly := ly) nM with h | ⟨q, t, h1, h2, h3, h4, h5⟩
  · rw [h]; exact Nat.zero_le _
  · rw [← h5]
    refine cut_ub h2 h3 ?_ nM h1
    obtain ⟨w, w1, w2⟩ := ff_lt.mp h4
    have w2 : fitW (prt S k) (ly q) t w < 216 := of_decide_eq_true w2
    obtain ⟨p, p1, p2⟩ := ff_lt.mp w2
    have g1 := GdM_mono prt_sub p2
    refine ff_lt.mpr ⟨w, w1, decide_eq_true (ff_lt.mpr ⟨p, p1, ?_⟩)⟩
    refine (GdM_part (hM q h1) (by omega) w1 (by decide)).mpr ⟨g1, Nat.zero_le _, ?_⟩
    have := (GdB_t.mp g1).1.2.2
    show coo 2 p + fx (ly q) t w 2 ≤ ptH 0 - 1 + 1
    rw [coo_2]
    exact this
/-- two cuts only where both are some -/
theorem bst_two {wv : Nat → Nat} {S : Nat → Bool} {nM : Nat} {ly : Nat → List Lay} (hM : ∀ q, q < nM → okM (ly q)) {k a b : Nat} (h : (bstF (cutK wv S nM ly) k).1 < (cutK wv S nM ly a).1 + (cutK wv S nM ly b).1) : 0 < (cutK wv S nM ly a).1 ∧ 0 < (cutK wv S nM ly b).1 := by
  have h1 := bstF_ge (cutK wv S nM ly) k
  have h2 := cutK_le (wv := wv) (S := S) hM a
  have h3 := cutK_le (wv := wv) (S := S) hM b
  omega
