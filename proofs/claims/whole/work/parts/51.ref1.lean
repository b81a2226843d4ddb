/-! ===== the reference: refusals, roughs, scan, stuff ===== -/
section REF1
variable {m : IM} {j : JM} {u : SU}
theorem R_may1 (hs : RS u) {c : Int32} (h0 : m 200 0 = 0) : F_X12_may 200 1 c (pm m j u) = some (1, pm m j u) := by
  simp [F_X12_may, e_jn, rI hs, h0, e_rz1]
theorem R_may0 (hs : RS u) {c : Int32} (h0 : m 200 0 = 0) (hc : c ≠ 0) : F_X12_may 200 0 c (pm m j u) = some (0, pm (u2 m 200 0 c) j u) := by
  simp [F_X12_may, e_jn, rI hs, rP hs, h0, e_rz0, e_u2s, hc]
theorem R_within {a lo hi : Int32} {h : PM} : F_X12_within a lo hi h = some (if a < lo ∨ hi < a then 0 else 1, h) := by
  simp only [F_X12_within, e_jn, e_rz0, e_rz1]
  by_cases h1 : a < lo
  · rw [if_pos h1, if_pos (Or.inl h1)]
  · rw [if_neg h1]
    by_cases h2 : hi < a
    · rw [if_pos h2, if_pos (Or.inr h2)]
    · rw [if_neg h2, if_neg (fun z => z.elim h1 h2)]
/-- roughs: how many, which cells are sound -/
def RAr (m : IM) (nR : Nat) (sd : Nat → Bool) : Prop := nR ≤ 10 ∧ m 200 1 = nI nR ∧ ∀ i, i < 2160 → m 201 i = if sd i then 1 else 0
theorem R_isR_ok (hs : RS u) {nR r : Nat} (h0 : m 200 0 = 0) (hn : m 200 1 = nI nR) (hnR : nR ≤ 10) (hr : r < nR) : F_X12_isRough 200 (nI r) (pm m j u) = some (1, pm m j u) := by
  have e1 : nI nR - 1 = nI (nR - 1) := pk_sub (b := 1) (by omega)
  have n1 : ¬ (nI r < 0 ∨ nI (nR - 1) < nI r) := fun z => z.elim (fun z => nI_pos (by omega) z) (fun z => by have := (nI_ltI (by omega) (by omega)).mp z; omega)
  simp only [F_X12_isRough, rI hs, R_within, e_cl, rT hs, hn, e1, if_neg n1, R_may1 hs h0, e_rz1]
theorem R_isR_no (hs : RS u) {nR : Nat} {x : Int32} (h0 : m 200 0 = 0) (hn : m 200 1 = nI nR) (hnR : nR ≤ 10) (hr : ¬ ∃ r, r < nR ∧ x = nI r) : F_X12_isRough 200 x (pm m j u) = some (0, pm (u2 m 200 0 1) j u) := by
  have n1 : x < 0 ∨ nI nR - 1 < x := by
    refine Classical.byContradiction fun z => hr ?_
    obtain ⟨z1, z2⟩ := not_or.mp z
    obtain ⟨r, hr1, rfl⟩ := nI_of z1
    refine ⟨r, ?_, rfl⟩
    rcases Nat.eq_zero_or_pos nR with e | e
    · subst e
      exact absurd (show nI 0 - 1 < nI r by rw [fa_lt, nI_toInt hr1]; show (-1 : Int) < _; omega) z2
    · rw [pk_sub (a := nR) (b := 1) (by omega)] at z2
      have := fun w => z2 ((nI_ltI (a := nR - 1) (b := r) (by omega) hr1).mpr w)
      omega
  simp only [F_X12_isRough, rI hs, R_within, e_cl, rT hs, hn, if_pos n1, R_may0 hs h0 (by decide : (1 : Int32) ≠ 0), e_rz0]
theorem R_rough (hs : RS u) {nR : Nat} {sd : Nat → Bool} (hA : RAr m nR sd) : F_X12_rough 200 (pm m j u) = if nR = 10 then some (-1, pm (u2 m 200 0 0) j u) else some (nI nR, pm (u2 (u2 m 200 0 0) 200 1 (nI (nR + 1))) j u) := by
  obtain ⟨h1, h2, h3⟩ := hA
  have e1 : nI (nR + 1) - 1 = nI nR := pk_sub (b := 1) (by omega)
  by_cases e : nR = 10
  · subst e
    simp [F_X12_rough, rP hs, rI hs, e_u2k, h2]
    rfl
  · rw [if_neg e]
    have : ¬ nI nR = 10 := fun z => e ((nI_eq (b := 10) (by omega) (by decide)).mp z)
    simp [F_X12_rough, rP hs, rI hs, e_u2k, e_u2s, h2, this, nI_1, e1]
end REF1
