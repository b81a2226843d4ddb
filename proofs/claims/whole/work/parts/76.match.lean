/-! ===== matches: what they are ===== -/
def mxv (P : Nat → Bool) (v : Nat → Nat) : Nat → Nat
  | 0 => 0
  | g + 1 => if P g = true ∧ mxv P v g < v g + 1 then v g + 1 else mxv P v g
def amx (P : Nat → Bool) (v : Nat → Nat) : Nat → Nat
  | 0 => 0
  | g + 1 => if P g = true ∧ mxv P v g < v g + 1 then g else amx P v g
theorem mxv_n {P : Nat → Bool} {v : Nat → Nat} {g : Nat} (h : ¬ (P g = true ∧ mxv P v g < v g + 1)) : mxv P v (g + 1) = mxv P v g ∧ amx P v (g + 1) = amx P v g := ⟨if_neg h, if_neg h⟩
theorem mxv_y {P : Nat → Bool} {v : Nat → Nat} {g : Nat} (h : P g = true ∧ mxv P v g < v g + 1) : mxv P v (g + 1) = v g + 1 ∧ amx P v (g + 1) = g := ⟨if_pos h, if_pos h⟩
theorem mxv_ge (P : Nat → Bool) (v : Nat → Nat) : ∀ n g, g < n → P g = true → v g + 1 ≤ mxv P v n
  | 0, g, h, _ => by omega
  | n + 1, g, h, hp => by
    have ih := mxv_ge P v n g
    by_cases c : P n = true ∧ mxv P v n < v n + 1
    · rw [(mxv_y c).1]
      by_cases e : g = n
      · rw [e]; exact Nat.le_refl _
      · have := ih (by omega) hp; omega
    · rw [(mxv_n c).1]
      by_cases e : g = n
      · subst e; exact Classical.byContradiction fun z => c ⟨hp, by omega⟩
      · exact ih (by omega) hp
theorem amx_ok (P : Nat → Bool) (v : Nat → Nat) : ∀ n, mxv P v n ≠ 0 → amx P v n < n ∧ P (amx P v n) = true ∧ v (amx P v n) + 1 = mxv P v n ∧ ∀ g, g < amx P v n → P g = true → v g + 1 < mxv P v n
  | 0, h => absurd rfl h
  | n + 1, h => by
    have ih := amx_ok P v n
    by_cases c : P n = true ∧ mxv P v n < v n + 1
    · rw [(mxv_y c).1, (mxv_y c).2]
      refine ⟨by omega, c.1, rfl, fun g hg hp => ?_⟩
      have := mxv_ge P v n g hg hp
      omega
    · rw [(mxv_n c).1] at h
      rw [(mxv_n c).1, (mxv_n c).2]
      obtain ⟨a1, a2, a3, a4⟩ := ih h
      exact ⟨by omega, a2, a3, a4⟩
theorem mxv_cong {P : Nat → Bool} {v w : Nat → Nat} : ∀ {n : Nat}, (∀ g, g < n → P g = true → v g = w g) → mxv P v n = mxv P w n ∧ amx P v n = amx P w n
  | 0, _ => ⟨rfl, rfl⟩
  | n + 1, h => by
    have ih := mxv_cong (n := n) (fun g hg => h g (by omega))
    unfold mxv amx
    rw [← ih.1, ← ih.2]
    by_cases c : P n = true
    · rw [← h n (by omega) c]; exact ⟨rfl, rfl⟩
    · rw [if_neg (fun z => c z.1), if_neg (fun z => c z.1), if_neg (fun z => c z.1), if_neg (fun z => c z.1)]; exact ⟨rfl, rfl⟩
theorem mxv_le {P : Nat → Bool} {v : Nat → Nat} {B : Nat} : ∀ {n : Nat}, (∀ g, g < n → P g = true → v g + 1 ≤ B) → mxv P v n ≤ B
  | 0, _ => Nat.zero_le _
  | n + 1, h => by
    have ih := mxv_le (n := n) (fun g hg => h g (by omega))
    by_cases c : P n = true ∧ mxv P v n < v n + 1
    · rw [(mxv_y c).1]; exact h n (by omega) c.1
    · rw [(mxv_n c).1]; exact ih
def clr (S i : Nat) : Nat := S ^^^ 2 ^ i
theorem clr_tb {S i : Nat} (h : S.testBit i = true) (x : Nat) : (clr S i).testBit x = (S.testBit x && decide (x ≠ i)) := by
  unfold clr
  rw [fb_bit_flip]
  by_cases e : x = i
  · rw [e, h, decide_eq_true rfl, decide_eq_false (fun z => z rfl)]; rfl
  · rw [decide_eq_false e, decide_eq_true e, Bool.xor_false, Bool.and_true]
def pP (pr : Nat → Nat → Bool) (k S i : Nat) : Bool := decide (k < i) && (S.testBit i && pr k i)
theorem pP_t {pr : Nat → Nat → Bool} {k S i : Nat} : pP pr k S i = true ↔ k < i ∧ S.testBit i = true ∧ pr k i = true := by
  unfold pP
  rw [Bool.and_eq_true, Bool.and_eq_true, decide_eq_true_eq]
section MT
variable (n : Nat) (pr : Nat → Nat → Bool) (ap : Nat → Nat → Nat)
def vl : Nat → Nat → Nat
  | 0, _ => 0
  | d + 1, S => if S.testBit (n - (d + 1)) = true then max (mxv (pP pr (n - (d + 1)) S) (fun i => vl d (clr (clr S (n - (d + 1))) i) + (1000000 - ap (n - (d + 1)) i)) n) (vl d (clr S (n - (d + 1))) + 1) - 1 else vl d S
def ch (d k S : Nat) : Nat := if vl n pr ap d (clr S k) + 1 ≤ mxv (pP pr k S) (fun i => vl n pr ap d (clr (clr S k) i) + (1000000 - ap k i)) n then amx (pP pr k S) (fun i => vl n pr ap d (clr (clr S k) i) + (1000000 - ap k i)) n + 1 else 0
def w2 (W : Nat → Nat) (k i : Nat) : Nat → Nat := fun x => if x = k then i + 1 else if x = i then k + 1 else W x
def cw : Nat → Nat → (Nat → Nat) → (Nat → Nat)
  | 0, _, W => W
  | d + 1, S, W => if S.testBit (n - (d + 1)) = true then (if ch n pr ap d (n - (d + 1)) S = 0 then cw d (clr S (n - (d + 1))) W else cw d (clr (clr S (n - (d + 1))) (ch n pr ap d (n - (d + 1)) S - 1)) (w2 W (n - (d + 1)) (ch n pr ap d (n - (d + 1)) S - 1))) else cw d S W
def tp : Nat → (Nat → Nat) → Nat → Nat × (Nat → Nat) → Nat × (Nat → Nat)
  | 0, W, v, st => if st.1 < v + 1 then (v + 1, W) else st
  | d + 1, W, v, st => if W (n - (d + 1)) = 0 then tp d W v (fo (fun i s => if n - (d + 1) < i ∧ W i = 0 ∧ pr (n - (d + 1)) i = true then tp d (w2 W (n - (d + 1)) i) (v + (1000000 - ap (n - (d + 1)) i)) s else s) n st) else tp d W v st
end MT
section MT2
variable {n : Nat} {pr : Nat → Nat → Bool} {ap : Nat → Nat → Nat}
theorem tp_eq : ∀ (d S : Nat) (W : Nat → Nat) (v : Nat) (st : Nat × (Nat → Nat)), d ≤ n → (∀ i, n - d ≤ i → i < n → (S.testBit i = true ↔ W i = 0)) → tp n pr ap d W v st = if st.1 < v + vl n pr ap d S + 1 then (v + vl n pr ap d S + 1, cw n pr ap d S W) else st := by
  intro d
  induction d with
  | zero => intro S W v st _ _; rfl
  | succ d ih =>
    intro S W v st hd hS
    have hk : ∃ k, n - (d + 1) = k ∧ n - d = k + 1 ∧ k < n := ⟨n - (d + 1), rfl, by omega, by omega⟩
    obtain ⟨k, hk, hk1, hkn⟩ := hk
    have hSk := hS k (by omega) hkn
    unfold tp vl cw
    rw [hk]
    by_cases c : W k = 0
    · have cb : S.testBit k = true := hSk.mpr c
      rw [if_pos c, if_pos cb, if_pos cb]
      have kid : ∀ q, q < n → pP pr k S q = true → ∀ s, tp n pr ap d (w2 W k q) (v + (1000000 - ap k q)) s = if s.1 < v + (vl n pr ap d (clr (clr S k) q) + (1000000 - ap k q) + 1) then (v + (vl n pr ap d (clr (clr S k) q) + (1000000 - ap k q) + 1), cw n pr ap d (clr (clr S k) q) (w2 W k q)) else s := fun q hq hp s => by
        obtain ⟨p1, p2, p3⟩ := pP_t.mp hp
        have hb2 : (clr S k).testBit q = true := by rw [clr_tb cb, p2, decide_eq_true (by omega)]; rfl
        rw [ih (clr (clr S k) q) (w2 W k q) _ s (by omega) (fun i g1 g2 => by
          rw [clr_tb hb2, clr_tb cb, decide_eq_true (show i ≠ k by omega), Bool.and_true]
          unfold w2
          rw [if_neg (show ¬ i = k by omega)]
          by_cases e : i = q
          · rw [if_pos e, decide_eq_false (fun z => z e), Bool.and_false]
            exact ⟨fun z => (by cases z), fun z => by omega⟩
          · rw [if_neg e, decide_eq_true e, Bool.and_true]; exact hS i (by omega) g2)]
        rw [show v + (1000000 - ap k q) + vl n pr ap d (clr (clr S k) q) + 1 = v + (vl n pr ap d (clr (clr S k) q) + (1000000 - ap k q) + 1) by omega]
      have fol : ∀ q, q ≤ n → fo (fun i s => if k < i ∧ W i = 0 ∧ pr k i = true then tp n pr ap d (w2 W k i) (v + (1000000 - ap k i)) s else s) q st = if mxv (pP pr k S) (fun i => vl n pr ap d (clr (clr S k) i) + (1000000 - ap k i)) q ≠ 0 ∧ st.1 < v + mxv (pP pr k S) (fun i => vl n pr ap d (clr (clr S k) i) + (1000000 - ap k i)) q then (v + mxv (pP pr k S) (fun i => vl n pr ap d (clr (clr S k) i) + (1000000 - ap k i)) q, cw n pr ap d (clr (clr S k) (amx (pP pr k S) (fun i => vl n pr ap d (clr (clr S k) i) + (1000000 - ap k i)) q)) (w2 W k (amx (pP pr k S) (fun i => vl n pr ap d (clr (clr S k) i) + (1000000 - ap k i)) q))) else st := by
        intro q
        induction q with
        | zero => intro _; rw [if_neg (fun z => z.1 rfl)]; rfl
        | succ q ihq =>
          intro hq
          have iq := ihq (by omega)
          rw [fo, iq]
          show (if k < q ∧ W q = 0 ∧ pr k q = true then _ else _) = _
          by_cases cp : pP pr k S q = true
          · have cq := pP_t.mp cp
            rw [if_pos ⟨cq.1, (hS q (by omega) (by omega)).mp cq.2.1, cq.2.2⟩, kid q (by omega) cp]
            generalize hX : mxv (pP pr k S) (fun i => vl n pr ap d (clr (clr S k) i) + (1000000 - ap k i)) q = X
            by_cases c2 : X < vl n pr ap d (clr (clr S k) q) + (1000000 - ap k q) + 1
            · have cy := mxv_y (P := pP pr k S) (v := fun i => vl n pr ap d (clr (clr S k) i) + (1000000 - ap k i)) (g := q) ⟨cp, by rw [hX]; exact c2⟩
              rw [cy.1, cy.2]
              by_cases c3 : X ≠ 0 ∧ st.1 < v + X
              · rw [if_pos c3, if_pos (show (v + X, _).1 < _ by show v + X < _; omega), if_pos ⟨by omega, by omega⟩]
              · rw [if_neg c3]
                by_cases c4 : st.1 < v + (vl n pr ap d (clr (clr S k) q) + (1000000 - ap k q) + 1)
                · rw [if_pos c4, if_pos ⟨by omega, c4⟩]
                · rw [if_neg c4, if_neg (fun z => c4 z.2)]
            · have cn := mxv_n (P := pP pr k S) (v := fun i => vl n pr ap d (clr (clr S k) i) + (1000000 - ap k i)) (g := q) (fun z => by rw [hX] at z; exact c2 z.2)
              rw [cn.1, cn.2, hX]
              by_cases c3 : X ≠ 0 ∧ st.1 < v + X
              · rw [if_pos c3, if_neg (show ¬ (v + X, _).1 < _ by show ¬ v + X < _; omega)]
              · rw [if_neg c3, if_neg (fun z => c3 ⟨by omega, by omega⟩)]
          · have cn := mxv_n (P := pP pr k S) (v := fun i => vl n pr ap d (clr (clr S k) i) + (1000000 - ap k i)) (g := q) (fun z => cp z.1)
            rw [cn.1, cn.2, if_neg (fun z => cp (pP_t.mpr ⟨z.1, (hS q (by omega) (by omega)).mpr z.2.1, z.2.2⟩))]
      rw [fol n (Nat.le_refl _)]
      rw [ih (clr S k) W v _ (by omega) (fun i g1 g2 => by rw [clr_tb cb, decide_eq_true (show i ≠ k by omega), Bool.and_true]; exact hS i (by omega) g2)]
      unfold ch
      generalize mxv (pP pr k S) (fun i => vl n pr ap d (clr (clr S k) i) + (1000000 - ap k i)) n = X
      generalize amx (pP pr k S) (fun i => vl n pr ap d (clr (clr S k) i) + (1000000 - ap k i)) n = A
      generalize vl n pr ap d (clr S k) = a
      by_cases c2 : a + 1 ≤ X
      · rw [if_pos c2, if_neg (by omega : ¬ A + 1 = 0), show A + 1 - 1 = A by omega, show max X (a + 1) = X by omega]
        by_cases c3 : st.1 < v + X
        · rw [if_pos (show X ≠ 0 ∧ st.1 < v + X from ⟨by omega, c3⟩), if_neg (show ¬ (v + X, _).1 < _ by show ¬ v + X < _; omega), if_pos (by omega : st.1 < v + (X - 1) + 1), show v + (X - 1) + 1 = v + X by omega]
        · rw [if_neg (show ¬ (X ≠ 0 ∧ st.1 < v + X) from fun z => c3 z.2), if_neg (by omega), if_neg (by omega)]
      · rw [if_neg c2, if_pos rfl, show max X (a + 1) - 1 = a by omega]
        by_cases c3 : X ≠ 0 ∧ st.1 < v + X
        · rw [if_pos c3, if_pos (show (v + X, _).1 < _ by show v + X < _; omega), if_pos (by omega)]
        · rw [if_neg c3]
    · have cb : ¬ S.testBit k = true := fun z => c (hSk.mp z)
      rw [if_neg c, if_neg cb, if_neg cb]
      exact ih S W v st (by omega) (fun i g1 g2 => hS i (by omega) g2)
theorem vl_skip {S : Nat} : ∀ k, k ≤ n → (∀ i, i < k → S.testBit i = false) → vl n pr ap n S = vl n pr ap (n - k) S ∧ ∀ W, cw n pr ap n S W = cw n pr ap (n - k) S W
  | 0, _, _ => ⟨rfl, fun _ => rfl⟩
  | k + 1, hk, h => by
    have ih := vl_skip k (by omega) (fun i hi => h i (by omega))
    have e1 : n - k = (n - (k + 1)) + 1 := by omega
    have e2 : n - (n - (k + 1) + 1) = k := by omega
    refine ⟨?_, fun W => ?_⟩
    · rw [ih.1, e1, vl, e2, if_neg (by rw [h k (by omega)]; decide)]
    · rw [ih.2, e1, cw, e2, if_neg (by rw [h k (by omega)]; decide)]
theorem vl_LB {S k : Nat} (h : LB S k) (hk : k < n) : vl n pr ap n S = max (mxv (pP pr k S) (fun i => vl n pr ap n (clr (clr S k) i) + (1000000 - ap k i)) n) (vl n pr ap n (clr S k) + 1) - 1 ∧ ∀ W, cw n pr ap n S W = if ch n pr ap n k S = 0 then cw n pr ap n (clr S k) W else cw n pr ap n (clr (clr S k) (ch n pr ap n k S - 1)) (w2 W k (ch n pr ap n k S - 1)) := by
  have ih := vl_skip (n := n) (pr := pr) (ap := ap) (S := S) k (by omega) h.2
  have e1 : n - k = (n - (k + 1)) + 1 := by omega
  have e2 : n - (n - (k + 1) + 1) = k := by omega
  have z1 := vl_skip (n := n) (pr := pr) (ap := ap) (S := clr S k) (k + 1) (by omega) (fun i hi => by
    rw [clr_tb h.1]
    by_cases e : i = k
    · rw [decide_eq_false (fun z => z e), Bool.and_false]
    · rw [h.2 i (by omega), Bool.false_and])
  have z2 : ∀ q, pP pr k S q = true → vl n pr ap n (clr (clr S k) q) = vl n pr ap (n - (k + 1)) (clr (clr S k) q) ∧ ∀ W, cw n pr ap n (clr (clr S k) q) W = cw n pr ap (n - (k + 1)) (clr (clr S k) q) W := fun q hq => by
    obtain ⟨p1, p2, p3⟩ := pP_t.mp hq
    refine vl_skip (pr := pr) (ap := ap) (S := clr (clr S k) q) (k + 1) (by omega) (fun i hi => ?_)
    rw [clr_tb (by rw [clr_tb h.1, p2, decide_eq_true (by omega)]; rfl), clr_tb h.1]
    by_cases e : i = k
    · rw [decide_eq_false (p := i ≠ k) (fun z => z e), Bool.and_false, Bool.false_and]
    · rw [h.2 i (by omega), Bool.false_and, Bool.false_and]
  have mc := mxv_cong (P := pP pr k S) (v := fun i => vl n pr ap n (clr (clr S k) i) + (1000000 - ap k i)) (w := fun i => vl n pr ap (n - (k + 1)) (clr (clr S k) i) + (1000000 - ap k i)) (n := n) (fun g _ hp => by show vl n pr ap n (clr (clr S k) g) + _ = vl n pr ap (n - (k + 1)) (clr (clr S k) g) + _; rw [(z2 g hp).1])
  have ech : ch n pr ap n k S = ch n pr ap (n - (k + 1)) k S := by unfold ch; rw [z1.1, mc.1, mc.2]
  refine ⟨?_, fun W => ?_⟩
  · rw [ih.1, e1, vl, e2, if_pos h.1, mc.1, z1.1]
  · rw [ih.2, e1, cw, e2, if_pos h.1, ech]
    by_cases c : ch n pr ap (n - (k + 1)) k S = 0
    · rw [if_pos c, if_pos c, z1.2]
    · rw [if_neg c, if_neg c]
      have hp : pP pr k S (ch n pr ap (n - (k + 1)) k S - 1) = true := by
        unfold ch at c ⊢
        split at c
        · next hle =>
          rw [if_pos hle]
          exact (amx_ok _ _ n (by omega)).2.1
        · exact absurd rfl c
      rw [(z2 _ hp).2]
theorem vl_zero : vl n pr ap n 0 = 0 ∧ ∀ W, cw n pr ap n 0 W = W := by
  have := vl_skip (n := n) (pr := pr) (ap := ap) (S := 0) n (Nat.le_refl _) (fun i _ => Nat.zero_testBit i)
  rw [Nat.sub_self] at this
  exact this
theorem vl_le : ∀ (d S : Nat), vl n pr ap d S ≤ 1000000 * d
  | 0, _ => Nat.le_refl 0
  | d + 1, S => by
    rw [vl]
    split
    · have h1 := vl_le d (clr S (n - (d + 1)))
      have h2 : mxv (pP pr (n - (d + 1)) S) (fun i => vl n pr ap d (clr (clr S (n - (d + 1))) i) + (1000000 - ap (n - (d + 1)) i)) n ≤ 1000000 * (d + 1) + 1 := mxv_le (fun g _ _ => by
        have := vl_le d (clr (clr S (n - (d + 1))) g)
        show vl n pr ap d (clr (clr S (n - (d + 1))) g) + _ + 1 ≤ _
        omega)
      omega
    · have := vl_le d S; omega
/-- what a choice brings -/
theorem ch_val {S k : Nat} (h : LB S k) (hk : k < n) : (ch n pr ap n k S = 0 → vl n pr ap n S = vl n pr ap n (clr S k)) ∧ (ch n pr ap n k S ≠ 0 → (ch n pr ap n k S - 1 < n ∧ pP pr k S (ch n pr ap n k S - 1) = true ∧ vl n pr ap n S = vl n pr ap n (clr (clr S k) (ch n pr ap n k S - 1)) + (1000000 - ap k (ch n pr ap n k S - 1)) ∧ ∀ g, g < ch n pr ap n k S - 1 → pP pr k S g = true → vl n pr ap n (clr (clr S k) g) + (1000000 - ap k g) < vl n pr ap n S)) ∧ (ch n pr ap n k S = 0 → ∀ g, g < n → pP pr k S g = true → vl n pr ap n (clr (clr S k) g) + (1000000 - ap k g) < vl n pr ap n S) := by
  have hv := (vl_LB (pr := pr) (ap := ap) h hk).1
  have ho := amx_ok (pP pr k S) (fun i => vl n pr ap n (clr (clr S k) i) + (1000000 - ap k i)) n
  have hg := mxv_ge (pP pr k S) (fun i => vl n pr ap n (clr (clr S k) i) + (1000000 - ap k i)) n
  unfold ch
  by_cases c : vl n pr ap n (clr S k) + 1 ≤ mxv (pP pr k S) (fun i => vl n pr ap n (clr (clr S k) i) + (1000000 - ap k i)) n
  · rw [if_pos c]
    obtain ⟨a1, a2, a3, a4⟩ := ho (by omega)
    refine ⟨fun z => by omega, fun _ => ?_, fun z => by omega⟩
    rw [Nat.add_sub_cancel]
    refine ⟨a1, a2, ?_, fun g h1 h2 => ?_⟩
    · rw [hv, ← a3]
      show max (vl n pr ap n _ + (1000000 - ap k _) + 1) _ - 1 = _
      have a3' : vl n pr ap n (clr (clr S k) (amx (pP pr k S) (fun i => vl n pr ap n (clr (clr S k) i) + (1000000 - ap k i)) n)) + (1000000 - ap k (amx (pP pr k S) (fun i => vl n pr ap n (clr (clr S k) i) + (1000000 - ap k i)) n)) + 1 = mxv (pP pr k S) (fun i => vl n pr ap n (clr (clr S k) i) + (1000000 - ap k i)) n := a3
      omega
    · have a4' : vl n pr ap n (clr (clr S k) g) + (1000000 - ap k g) + 1 < _ := a4 g h1 h2
      omega
  · rw [if_neg c]
    refine ⟨fun _ => by omega, fun z => absurd rfl z, fun _ g h1 h2 => ?_⟩
    have hg' : vl n pr ap n (clr (clr S k) g) + (1000000 - ap k g) + 1 ≤ _ := hg g h1 h2
    omega
end MT2
