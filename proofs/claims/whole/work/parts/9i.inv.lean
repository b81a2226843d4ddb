/-! ===== the law: what holds of both between two calls ===== -/
def RI (m : IM) (u : SU) (nR : Nat) (sd : Nat → Bool) (tl : Nat) (tb : Nat → Int32) (nM : Nat) (ly : Nat → List Lay) (ps : Nat) (pf pp : Nat → Nat) (nS : Nat) (sg ix an : Nat → Nat → Nat) (nL : Nat) (br : Int32) (bd lm : Nat → Nat) : Prop := RS u ∧ RAr m nR sd ∧ RAt m tl tb ∧ RAm m nM ly ∧ RAp m ps pf pp ∧ RAs m nS sg ix an ∧ RAl m nL br bd lm
def CI (m : IM) (j : JM) (u : SU) (nR : Nat) (sd : Nat → Bool) (tl : Nat) (tb : Nat → Int32) (nM : Nat) (ly : Nat → List Lay) (ps : Nat) (pf pp : Nat → Nat) (nS : Nat) (sg ix an : Nat → Nat → Nat) (nL : Nat) (br : Int32) (bd lm : Nat → Nat) : Prop := CS u ∧ CAr m j u nR sd (bbF ps pf pp nM ly sd) ∧ CAt m tl tb ∧ CAm m j u nM ly ∧ CAp m ps pf pp ∧ CAs m u nS sg ix an ∧ CAl m nL br bd lm ∧ SB m ∧ UF u nR nM nS
def DD (nR : Nat) (sd : Nat → Bool) (tl : Nat) (tb : Nat → Int32) (nM : Nat) (ly : Nat → List Lay) (ps : Nat) (pf pp : Nat → Nat) (nS : Nat) (sg ix an : Nat → Nat → Nat) (nL : Nat) (br : Int32) (bd lm : Nat → Nat) : Prop := (∀ i, 216 * nR ≤ i → sd i = false) ∧ tl ≤ 100 ∧ MD nM ly ∧ PD ps pf pp ∧ SD nS nL sg ix an ∧ LD nL bd lm
def EI (L : Nat) (xs : Nat → Int32) (m : IM) (u : SU) : Prop := m 4 = xs ∧ u.2.1 4 = 23 ∧ u.2.2 4 = L ∧ u.2.1 5 = 21 ∧ u.2.2 5 = 1
def INV (L : Nat) (xs : Nat → Int32) (m : IM) (j : JM) (u : SU) : Prop := ∃ nR sd tl tb nM ly ps pf pp nS sg ix an nL br bd lm, RI m u nR sd tl tb nM ly ps pf pp nS sg ix an nL br bd lm ∧ CI m j u nR sd tl tb nM ly ps pf pp nS sg ix an nL br bd lm ∧ DD nR sd tl tb nM ly ps pf pp nS sg ix an nL br bd lm ∧ EI L xs m u
def KO (m m1 : IM) (j j1 : JM) (u u1 : SU) : Prop := UE (fun b => b = 4 ∨ b = 5 ∨ (200 ≤ b ∧ b < 240)) m m1 j j1 u u1
def OU (m m2 : IM) : Prop := ∀ b, (b < 200 ∨ 240 ≤ b) → m2 b = m b
/-- one step of both: the wrapped call of the class, then the reference's -/
def STP (L : Nat) (xs : Nat → Int32) (W X : PM → Option (Int32 × PM)) (m : IM) (j : JM) (u : SU) : Prop := ∃ m1 j1 u1 m2 c r, W (pm m j u) = some (c, pm m1 j1 u1) ∧ EI L xs m1 u1 ∧ RS u1 ∧ X (pm m1 j1 u1) = some (r, pm m2 j1 u1) ∧ m2 200 0 = c ∧ (c = 0 → j1 5 0 = Int32.toInt64 r) ∧ INV L xs m2 j1 u1
/-- one step of both that never throws -/
def STN (L : Nat) (xs : Nat → Int32) (W X : PM → Option (Int32 × PM)) (m : IM) (j : JM) (u : SU) : Prop := ∃ m1 j1 u1 m2 r, W (pm m j u) = some (r, pm m1 j1 u1) ∧ EI L xs m1 u1 ∧ RS u1 ∧ X (pm m1 j1 u1) = some (r, pm m2 j1 u1) ∧ INV L xs m2 j1 u1
theorem rfL_in : ∀ q ∈ rfL, 200 ≤ q.2.1 ∧ q.2.1 < 240 := by decide
section LAW1
variable {L : Nat} {xs : Nat → Int32} {m m1 m2 : IM} {j j1 : JM} {u u1 : SU} {nR : Nat} {sd : Nat → Bool} {tl : Nat} {tb : Nat → Int32} {nM : Nat} {ly : Nat → List Lay} {ps : Nat} {pf pp : Nat → Nat} {nS : Nat} {sg ix an : Nat → Nat → Nat} {nL : Nat} {br : Int32} {bd lm : Nat → Nat}
theorem KO.rf : KO m m j j u u := fun _ _ => ⟨rfl, rfl, rfl, rfl, rfl⟩
theorem KO.int (h : ∀ b, (b = 4 ∨ b = 5 ∨ (200 ≤ b ∧ b < 240)) → m1 b = m b ∧ j1 b = j b) : KO m m1 j j1 u u := fun b hb => ⟨(h b hb).1, (h b hb).2, rfl, rfl, rfl⟩
theorem OU.rf : OU m m := fun _ _ => rfl
theorem Fr.ou {A K : List Nat} (h : Fr A K m m2) (hA : ∀ a ∈ A, 200 ≤ a ∧ a < 240) : OU m m2 := fun b hb => h.1 b (fun z => by have := hA b z; omega) (by omega)
theorem RS_ue (h : RS u) (hU : KO m m1 j j1 u u1) : RS u1 := by
  refine ⟨by rw [(hU 200 (by omega)).2.2.2.1]; exact h.1, fun q hq => ?_⟩
  have := rfL_in q hq
  rw [(hU 200 (by omega)).2.2.1, (hU q.2.1 (by omega)).2.2.2.1, (hU q.2.1 (by omega)).2.2.2.2]
  exact h.2 q hq
theorem EI_ue (h : EI L xs m u) (hU : KO m m1 j j1 u u1) : EI L xs m1 u1 := by
  obtain ⟨h1, h2, h3, h4, h5⟩ := h
  obtain ⟨a1, a2, a3, a4, a5⟩ := hU 4 (by omega)
  obtain ⟨b1, b2, b3, b4, b5⟩ := hU 5 (by omega)
  exact ⟨by rw [a1]; exact h1, by rw [a4]; exact h2, by rw [a5]; exact h3, by rw [b4]; exact h4, by rw [b5]; exact h5⟩
theorem RI_ue (h : RI m u nR sd tl tb nM ly ps pf pp nS sg ix an nL br bd lm) (hU : KO m m1 j j1 u u1) : RI m1 u1 nR sd tl tb nM ly ps pf pp nS sg ix an nL br bd lm := by
  obtain ⟨h0, h1, h2, h3, h4, h5, h6⟩ := h
  have e : ∀ b, 200 ≤ b → b < 240 → m1 b = m b := fun b g1 g2 => (hU b (by omega)).1
  have e200 := e 200 (by omega) (by omega)
  refine ⟨RS_ue h0 hU, ?_, ?_, ?_, ?_, ?_, ?_⟩
  · unfold RAr; rw [e200, e 201 (by omega) (by omega)]; exact h1
  · unfold RAt; rw [e200, e 202 (by omega) (by omega)]; exact h2
  · refine ⟨by rw [e200]; exact h3.1, fun q hq => ⟨by rw [e 203 (by omega) (by omega)]; exact (h3.2 q hq).1, Cells_cg _ _ _ (fun b i hb _ _ => by rw [e b (by omega) (by omega)]) (h3.2 q hq).2⟩⟩
  · unfold RAp; rw [e200, e 208 (by omega) (by omega), e 209 (by omega) (by omega)]; exact h4
  · unfold RAs; rw [e200, e 218 (by omega) (by omega), e 219 (by omega) (by omega), e 220 (by omega) (by omega), e 221 (by omega) (by omega), e 222 (by omega) (by omega), e 223 (by omega) (by omega), e 224 (by omega) (by omega), e 225 (by omega) (by omega), e 226 (by omega) (by omega), e 227 (by omega) (by omega)]; exact h5
  · unfold RAl; rw [e200, e 233 (by omega) (by omega), e 234 (by omega) (by omega)]; exact h6
theorem SB_m (h : SB m) (h1 : m1 1 = m 1) (h2 : ∀ k, k < 25 → m1 (1070 + 2 * k) = m (1070 + 2 * k)) : SB m1 :=
  ⟨fun w hw a ha => by rw [h1]; exact h.1 w hw a ha, fun k hk => by rw [h2 k hk]; exact h.2 k hk⟩
theorem CAt_fr (h : CAt m tl tb) (h1 : m1 50 1 = m 50 1) (h2 : m1 51 = m 51) : CAt m1 tl tb := by unfold CAt; rw [h1, h2]; exact h
theorem CI_r (h : CI m j u nR sd tl tb nM ly ps pf pp nS sg ix an nL br bd lm) (hR : nR ≤ 10) (hM : nM ≤ 6) (hm : OU m m1) (hj : ∀ b, b ≠ 5 → j1 b = j b) : CI m1 j1 u nR sd tl tb nM ly ps pf pp nS sg ix an nL br bd lm := by
  obtain ⟨h0, h1, h2, h3, h4, h5, h6, h7, h8⟩ := h
  refine ⟨h0, CAr_fr h1 (by rw [hm 20 (by omega)]) (fun b g1 g2 => hm b (by omega)) (fun b g1 g2 => hj b (by omega)) hR, CAt_fr h2 (by rw [hm 50 (by omega)]) (hm 51 (by omega)), CAm_fr h3 hM (by rw [hm 30 (by omega)]) (fun b g1 g2 => hm b (by omega)) (fun b g1 g2 => hj b (by omega)), CAp_fr h4 (by rw [hm 60 (by omega)]) (hm 61 (by omega)) (hm 62 (by omega)), CAs_fr h5 (hm 40 (by omega)) (fun b g => hm b (by omega)), CAl_fr h6 (hm 100 (by omega)) (hm 10 (by omega)) (hm 101 (by omega)) (hm 102 (by omega)) (hm 103 (by omega)), SB_m h7 (hm 1 (by omega)) (fun k hk => hm _ (by omega)), h8⟩
theorem RI_0 (h : RI m u nR sd tl tb nM ly ps pf pp nS sg ix an nL br bd lm) {v : Int32} : RI (u2 m 200 0 v) u nR sd tl tb nM ly ps pf pp nS sg ix an nL br bd lm := by
  obtain ⟨h0, h1, h2, h3, h4, h5, h6⟩ := h
  have hF : Fr [] [0] m (u2 m 200 0 v) := Fr.fld (by decide)
  exact ⟨h0, RAr_fr h1 hF (by decide) (by decide), RAt_fr h2 hF (by decide) (by decide), RAm_fr h3 hF (by decide) (by decide), RAp_fr h4 hF (by decide) (by decide) (by decide), RAs_fr h5 hF (by decide) (by decide), RAl_fr h6 hF (by decide) (by decide) (by decide) (by decide)⟩
theorem ou0 {v : Int32} : OU m (u2 m 200 0 v) := fun b hb => e_u2r (by omega)
theorem e_wxr {g : Nat → PM → Option (Int32 × PM)} {f : Int32 → PM → Option (Int32 × PM)} {r : Int32} {h : PM} : wx (some (.inr r, h)) g f = f r h := rfl
theorem e_wxl {g : Nat → PM → Option (Int32 × PM)} {f : Int32 → PM → Option (Int32 × PM)} {k : Nat} {h : PM} : wx (some (.inl k, h)) g f = g k h := rfl
theorem inv_of {nR' tl' nM' ps' nS' nL' : Nat} {sd' : Nat → Bool} {tb' : Nat → Int32} {ly' : Nat → List Lay} {pf' pp' : Nat → Nat} {sg' ix' an' : Nat → Nat → Nat} {br' : Int32} {bd' lm' : Nat → Nat} (e : EI L xs m1 u1) (c1 : CI m1 j u1 nR' sd' tl' tb' nM' ly' ps' pf' pp' nS' sg' ix' an' nL' br' bd' lm') (dd : DD nR' sd' tl' tb' nM' ly' ps' pf' pp' nS' sg' ix' an' nL' br' bd' lm') (ho : OU m1 m2) (hj : ∀ b, b ≠ 5 → j1 b = j b) (r2 : RI m2 u1 nR' sd' tl' tb' nM' ly' ps' pf' pp' nS' sg' ix' an' nL' br' bd' lm') : INV L xs m2 j1 u1 :=
  ⟨nR', sd', tl', tb', nM', ly', ps', pf', pp', nS', sg', ix', an', nL', br', bd', lm', r2, CI_r c1 r2.2.1.1 dd.2.2.1.1 ho hj, dd, by obtain ⟨e1, e2⟩ := e; exact ⟨by rw [ho 4 (by omega)]; exact e1, e2⟩⟩
/-- both answer -/
theorem st_r {nR' tl' nM' ps' nS' nL' : Nat} {sd' : Nat → Bool} {tb' : Nat → Int32} {ly' : Nat → List Lay} {pf' pp' : Nat → Nat} {sg' ix' an' : Nat → Nat → Nat} {br' : Int32} {bd' lm' : Nat → Nat} {o : PM → Option ((Nat ⊕ Int32) × PM)} {g : Nat → PM → Option (Int32 × PM)} {X : PM → Option (Int32 × PM)} {r : Int32} (ri : RI m u nR sd tl tb nM ly ps pf pp nS sg ix an nL br bd lm) (ci : CI m j u nR sd tl tb nM ly ps pf pp nS sg ix an nL br bd lm) (e : EI L xs m u) (ho : o (pm m j u) = some (.inr r, pm m1 j1 u1)) (U : KO m m1 j j1 u u1) (c1 : CI m1 j1 u1 nR' sd' tl' tb' nM' ly' ps' pf' pp' nS' sg' ix' an' nL' br' bd' lm') (dd : DD nR' sd' tl' tb' nM' ly' ps' pf' pp' nS' sg' ix' an' nL' br' bd' lm')
    (hX : ∀ j, RI m1 u1 nR sd tl tb nM ly ps pf pp nS sg ix an nL br bd lm → ∃ m2, X (pm m1 j u1) = some (r, pm m2 j u1) ∧ m2 200 0 = 0 ∧ OU m1 m2 ∧ RI m2 u1 nR' sd' tl' tb' nM' ly' ps' pf' pp' nS' sg' ix' an' nL' br' bd' lm') : STP L xs (fun h => tst h 10 12 (wx (o h) g fun r h2 => sJ h2 5 0 (Int32.toInt64 r) fun h3 => some (0, h3))) X m j u := by
  have e1 := EI_ue e U
  have r1 := RI_ue ri U
  obtain ⟨m2, x1, x2, x3, x4⟩ := hX (u2 j1 5 0 (Int32.toInt64 r)) r1
  refine ⟨m1, u2 j1 5 0 (Int32.toInt64 r), u1, m2, 0, r, ?_, e1, r1.1, x1, x2, fun _ => e_v2e rfl, inv_of e1 c1 dd x3 (fun b hb => e_v2r hb) x4⟩
  show tst (pm m j u) 10 12 (wx (o (pm m j u)) g fun r h2 => sJ h2 5 0 (Int32.toInt64 r) fun h3 => some (0, h3)) = _
  rw [cT_10 ci.1, ho, e_wxr, show (0 : Int32) = nI 0 from rfl, e_sJ e1.2.2.2.1 e1.2.2.2.2 (by decide) (by decide)]
/-- both throw -/
theorem st_l {o : PM → Option ((Nat ⊕ Int32) × PM)} {g : Nat → PM → Option (Int32 × PM)} {X : PM → Option (Int32 × PM)} {k : Nat} {c : Int32} (ri : RI m u nR sd tl tb nM ly ps pf pp nS sg ix an nL br bd lm) (ci : CI m j u nR sd tl tb nM ly ps pf pp nS sg ix an nL br bd lm) (dd : DD nR sd tl tb nM ly ps pf pp nS sg ix an nL br bd lm) (e : EI L xs m u) (ho : o (pm m j u) = some (.inl k, pm m1 j1 u1)) (hg : ∀ h, g k h = some (c, h)) (hc : c ≠ 0) (U : KO m m1 j j1 u u1) (c1 : CI m1 j1 u1 nR sd tl tb nM ly ps pf pp nS sg ix an nL br bd lm) (hX : RI m1 u1 nR sd tl tb nM ly ps pf pp nS sg ix an nL br bd lm → X (pm m1 j1 u1) = some (0, pm (u2 (u2 m1 200 0 0) 200 0 c) j1 u1)) : STP L xs (fun h => tst h 10 12 (wx (o h) g fun r h2 => sJ h2 5 0 (Int32.toInt64 r) fun h3 => some (0, h3))) X m j u := by
  have e1 := EI_ue e U
  have r1 := RI_ue ri U
  refine ⟨m1, j1, u1, u2 (u2 m1 200 0 0) 200 0 c, c, 0, ?_, e1, r1.1, hX r1, e_u2s, fun z => absurd z hc, inv_of e1 c1 dd (fun b hb => by rw [ou0 b hb, ou0 b hb]) (fun _ _ => rfl) (RI_0 (RI_0 r1))⟩
  show tst (pm m j u) 10 12 (wx (o (pm m j u)) g fun r h2 => sJ h2 5 0 (Int32.toInt64 r) fun h3 => some (0, h3)) = _
  rw [cT_10 ci.1, ho, e_wxl, hg]
/-- both answer, and never throw -/
theorem st_n {nR' tl' nM' ps' nS' nL' : Nat} {sd' : Nat → Bool} {tb' : Nat → Int32} {ly' : Nat → List Lay} {pf' pp' : Nat → Nat} {sg' ix' an' : Nat → Nat → Nat} {br' : Int32} {bd' lm' : Nat → Nat} {o X : PM → Option (Int32 × PM)} {r : Int32} (ri : RI m u nR sd tl tb nM ly ps pf pp nS sg ix an nL br bd lm) (e : EI L xs m u) (ho : o (pm m j u) = some (r, pm m1 j1 u1)) (U : KO m m1 j j1 u u1) (c1 : CI m1 j1 u1 nR' sd' tl' tb' nM' ly' ps' pf' pp' nS' sg' ix' an' nL' br' bd' lm') (dd : DD nR' sd' tl' tb' nM' ly' ps' pf' pp' nS' sg' ix' an' nL' br' bd' lm')
    (hX : RI m1 u1 nR sd tl tb nM ly ps pf pp nS sg ix an nL br bd lm → ∃ m2, X (pm m1 j1 u1) = some (r, pm m2 j1 u1) ∧ OU m1 m2 ∧ RI m2 u1 nR' sd' tl' tb' nM' ly' ps' pf' pp' nS' sg' ix' an' nL' br' bd' lm') : STN L xs o X m j u := by
  have e1 := EI_ue e U
  have r1 := RI_ue ri U
  obtain ⟨m2, x1, x3, x4⟩ := hX r1
  exact ⟨m1, j1, u1, m2, r, ho, e1, r1.1, x1, inv_of e1 c1 dd x3 (fun _ _ => rfl) x4⟩
theorem out_r {x : Int32} {n : Nat} (hn : n < 2 ^ 30) (h : ¬ ∃ s, s < n + 1 ∧ x = nI s) : x < 0 ∨ nI n < x := by
  rcases nI_ncase (n := n + 1) (by omega) h with c | ⟨l, h1, h2, rfl⟩
  · exact Or.inl c
  · exact Or.inr (nI_lt (by omega) h2)
end LAW1
