/-! ===== the class: shapes stand; a new rough, a new stone ===== -/
def fxB (b : Nat) : Bool := decide (b ≤ 19) || ((decide (50 ≤ b) && decide (b ≤ 110)) || (decide (1070 ≤ b) && decide (b ≤ 1119)))
theorem fx_cf : ∀ q ∈ cfL, fxB q.1 = true := by decide
theorem fx_ck : ∀ q ∈ ckL, fxB q.1 = true ∨ (q.2.1 = 1 ∧ q.2.2 = 0 ∧ (q.1 = 20 ∨ q.1 = 30 ∨ q.1 = 40)) := by decide
theorem CS_fr {u u' : SU} (h : CS u) (hb : ∀ b, fxB b = true → u'.1 b = u.1 b ∧ u'.2.1 b = u.2.1 b ∧ u'.2.2 b = u.2.2 b) (hl : ∀ L, L = 20 ∨ L = 30 ∨ L = 40 → u'.2.1 L = 1 ∧ u'.2.2 L = 0) : CS u' := by
  obtain ⟨h1, h2, h3⟩ := h
  refine ⟨fun q hq => by rw [(hb q.1 (fx_cf q hq)).1]; exact h1 q hq, fun q hq => ?_, fun i hi => ?_⟩
  · rcases fx_ck q hq with z | ⟨z1, z2, z3⟩
    · rw [(hb q.1 z).2.1, (hb q.1 z).2.2]; exact h2 q hq
    · obtain ⟨y1, y2⟩ := hl q.1 z3
      rw [y1, y2, z1, z2]; exact ⟨rfl, rfl⟩
  · have f1 : fxB 71 = true := by decide
    have f2 : fxB (1070 + 2 * i) = true := by unfold fxB; rw [decide_eq_true (by omega : 1070 ≤ 1070 + 2 * i), decide_eq_true (by omega : 1070 + 2 * i ≤ 1119)]; simp
    have f3 : fxB (1071 + 2 * i) = true := by unfold fxB; rw [decide_eq_true (by omega : 1070 ≤ 1071 + 2 * i), decide_eq_true (by omega : 1071 + 2 * i ≤ 1119)]; simp
    rw [(hb 71 f1).1, (hb _ f2).1, (hb _ f2).2.1, (hb _ f3).2.1]
    exact h3 i hi
theorem LiS_fr {u u' : SU} {L n : Nat} {nm : Nat → Nat} (h : LiS u L n nm) (hL : ∀ b, L ≤ b → b < L + 10 → u'.1 b = u.1 b ∧ u'.2.1 b = u.2.1 b ∧ u'.2.2 b = u.2.2 b) (hn : ∀ k, k < n → u'.2.1 (nm k) = u.2.1 (nm k)) : LiS u' L n nm := by
  obtain ⟨h1, E, h2, h3, h4, h5, h6, h7, h8⟩ := h
  refine ⟨by rw [(hL L (by omega) (by omega)).2.1]; exact h1, E, by rw [(hL L (by omega) (by omega)).1]; exact h2, h3, fun a g1 g2 => by rw [(hL a (by omega) g2).2.1]; exact h4 a g1 g2, h5, h6, fun z => by rw [(hL (L + E) (by omega) (by omega)).2.1, (hL (L + E) (by omega) (by omega)).2.2]; exact h7 z, fun k hk => ?_⟩
  rw [(hL (L + E) (by omega) (by omega)).1, hn k hk]
  exact h8 k hk
theorem RoO_fr {u u' : SU} {a : Nat} (h : RoO u a) (hb : ∀ b, a ≤ b → b ≤ a + 3 → u'.1 b = u.1 b ∧ u'.2.1 b = u.2.1 b ∧ u'.2.2 b = u.2.2 b) : RoO u' a := by
  obtain ⟨h1, h2, h3, h4, h5, h6⟩ := h
  unfold RoO
  rw [(hb a (by omega) (by omega)).1, (hb a (by omega) (by omega)).2.1, (hb (a + 1) (by omega) (by omega)).2.1, (hb (a + 1) (by omega) (by omega)).2.2, (hb (a + 2) (by omega) (by omega)).2.1, (hb (a + 3) (by omega) (by omega)).2.1]
  exact ⟨h1, h2, h3, h4, h5, h6⟩
theorem StO_fr {u u' : SU} {a : Nat} (h : StO u a) (hb : ∀ b, a ≤ b → b ≤ a + 3 → u'.1 b = u.1 b ∧ u'.2.1 b = u.2.1 b ∧ u'.2.2 b = u.2.2 b) : StO u' a := by
  obtain ⟨h1, h2, h3, h4, h5, h6⟩ := h
  unfold StO
  rw [(hb a (by omega) (by omega)).1, (hb a (by omega) (by omega)).2.1, (hb (a + 1) (by omega) (by omega)).2.1, (hb (a + 1) (by omega) (by omega)).2.2, (hb (a + 2) (by omega) (by omega)).2.1, (hb (a + 2) (by omega) (by omega)).2.2, (hb (a + 3) (by omega) (by omega)).2.1, (hb (a + 3) (by omega) (by omega)).2.2]
  exact ⟨h1, h2, h3, h4, h5, h6⟩
theorem MoO_fr {u u' : SU} {a : Nat} (h : MoO u a) (hb : ∀ b, a ≤ b → b < a + 40 → u'.1 b = u.1 b ∧ u'.2.1 b = u.2.1 b ∧ u'.2.2 b = u.2.2 b) : MoO u' a := by
  obtain ⟨h1, h2, h3, h4, h5, h6, h7⟩ := h
  unfold MoO
  rw [(hb a (by omega) (by omega)).1, (hb a (by omega) (by omega)).2.1, (hb (a + 1) (by omega) (by omega)).2.1, (hb (a + 1) (by omega) (by omega)).2.2, (hb (a + 2) (by omega) (by omega)).2.1, (hb (a + 2) (by omega) (by omega)).2.2, (hb (a + 3) (by omega) (by omega)).1, (hb (a + 3) (by omega) (by omega)).2.1, (hb (a + 3) (by omega) (by omega)).2.2]
  refine ⟨h1, h2, h3, h4, h5, h6, fun i hi => ?_⟩
  rw [(hb (a + 4 + i) (by omega) (by omega)).2.1, (hb (a + 4 + i) (by omega) (by omega)).2.2]
  exact h7 i hi
section OBJ
variable {m m' : IM} {j j' : JM} {u u' : SU}
theorem CAr_ue {nR : Nat} {sd : Nat → Bool} {bb : Nat → BST} (h : CAr m j u nR sd bb) (hU : UE (fun b => (20 ≤ b ∧ b < 30) ∨ (2000 ≤ b ∧ b < 2000 + 10 * nR)) m m' j j' u u') : CAr m' j' u' nR sd bb := by
  have k : ∀ r, r < nR → ∀ d, d < 10 → (20 ≤ nmR r + d ∧ nmR r + d < 30) ∨ (2000 ≤ nmR r + d ∧ nmR r + d < 2000 + 10 * nR) := fun r hr d hd => by unfold nmR; omega
  refine ⟨LiS_fr h.1 (fun b g1 g2 => (hU b (Or.inl ⟨g1, g2⟩)).2.2) (fun r hr => (hU (nmR r) (k r hr 0 (by omega))).2.2.2.1), by rw [(hU 20 (by omega)).1]; exact h.2.1, fun r hr => ?_⟩
  obtain ⟨q1, q2, q3⟩ := h.2.2 r hr
  refine ⟨RoO_fr q1 (fun b g1 g2 => ?_), fun z hz => by rw [(hU _ (k r hr 1 (by omega))).2.1]; exact q2 z hz, ?_⟩
  · obtain ⟨d, rfl⟩ : ∃ d, b = nmR r + d := ⟨b - nmR r, by omega⟩
    exact (hU _ (k r hr d (by omega))).2.2
  · unfold KNW
    rw [show m' (nmR r) = m (nmR r) from (hU _ (k r hr 0 (by omega))).1, (hU _ (k r hr 2 (by omega))).1, (hU _ (k r hr 3 (by omega))).1]
    exact q3
theorem CAs_ue {nS : Nat} {sg ix an : Nat → Nat → Nat} (h : CAs m u nS sg ix an) (hU : UE (fun b => (40 ≤ b ∧ b < 50) ∨ (4000 ≤ b ∧ b < 4000 + 10 * nS)) m m' j j' u u') : CAs m' u' nS sg ix an := by
  have k : ∀ r, r < nS → ∀ d, d < 10 → (40 ≤ nmS r + d ∧ nmS r + d < 50) ∨ (4000 ≤ nmS r + d ∧ nmS r + d < 4000 + 10 * nS) := fun r hr d hd => by unfold nmS; omega
  refine ⟨LiS_fr h.1 (fun b g1 g2 => (hU b (Or.inl ⟨g1, g2⟩)).2.2) (fun r hr => (hU (nmS r) (k r hr 0 (by omega))).2.2.2.1), by rw [(hU 40 (by omega)).1]; exact h.2.1, fun r hr => ?_⟩
  have q := ST_fr (h.2.2 r hr) (hU _ (k r hr 0 (by omega))).1 (hU _ (k r hr 1 (by omega))).1 (hU _ (k r hr 2 (by omega))).1 (hU _ (k r hr 3 (by omega))).1
  refine ⟨StO_fr q.1 (fun b g1 g2 => ?_), q.2⟩
  obtain ⟨d, rfl⟩ : ∃ d, b = nmS r + d := ⟨b - nmS r, by omega⟩
  exact (hU _ (k r hr d (by omega))).2.2
theorem CAm_ue {nM : Nat} {ly : Nat → List Lay} (h : CAm m j u nM ly) (hU : UE (fun b => (30 ≤ b ∧ b < 40) ∨ (3000 ≤ b ∧ b < 3000 + 50 * nM)) m m' j j' u u') : CAm m' j' u' nM ly := by
  have k : ∀ r, r < nM → ∀ d, d < 50 → (30 ≤ nmM r + d ∧ nmM r + d < 40) ∨ (3000 ≤ nmM r + d ∧ nmM r + d < 3000 + 50 * nM) := fun r hr d hd => by unfold nmM; omega
  refine ⟨LiS_fr h.1 (fun b g1 g2 => (hU b (Or.inl ⟨g1, g2⟩)).2.2) (fun r hr => (hU (nmM r) (k r hr 0 (by omega))).2.2.2.1), by rw [(hU 30 (by omega)).1]; exact h.2.1, fun r hr => ?_⟩
  have q := h.2.2 r hr
  have kk : ∀ b, nmM r ≤ b → b < nmM r + 40 → m' b = m b ∧ j' b = j b ∧ u'.1 b = u.1 b ∧ u'.2.1 b = u.2.1 b ∧ u'.2.2 b = u.2.2 b := fun b g1 g2 => by
    obtain ⟨d, rfl⟩ : ∃ d, b = nmM r + d := ⟨b - nmM r, by omega⟩
    exact hU _ (k r hr d (by omega))
  have q2 := MO_fr (m' := m') (j' := j') q (fun b g1 g2 => (kk b g1 (by omega)).1) (fun b g1 g2 => (kk b (by omega) g2).2.1)
  exact ⟨MoO_fr q2.1 (fun b g1 g2 => (kk b g1 g2).2.2), q2.2⟩
theorem C_init1 {a : Nat} (hT : u.2.1 a = 3) : ∃ m', F_X1_init a (pm m j u) = some ((), pm m' j u) ∧ ∀ b, b ≠ a → m' b = m b := by
  refine ⟨u2 (u2 (u2 (u2 (u2 (u2 (u2 (u2 m a 0 0) a 1 (-1)) a 2 0) a 3 0) a 4 0) a 5 0) a 6 0) a 7 0, ?_, fun b hb => by rw [e_u2r hb, e_u2r hb, e_u2r hb, e_u2r hb, e_u2r hb, e_u2r hb, e_u2r hb, e_u2r hb]⟩
  unfold F_X1_init
  rw [e_pI hT, e_pI hT, e_pI hT, e_pI hT, e_pI hT, e_pI hT, e_pI hT, e_pI hT]
/-- a new rough -/
theorem C_newR {a : Nat} (ha : a ≠ 0) (f0 : u.2.1 a = 0) (f1 : u.2.1 (a + 1) = 0) (f2 : u.2.1 (a + 2) = 0) (f3 : u.2.1 (a + 3) = 0) : ∃ m' j' u', (∀ (K : PM → Option (Int32 × PM)), (nO (pm m j u) a 7 fun h6 => cl (F_X6_init a h6) fun _ h8 => K h8) = K (pm m' j' u')) ∧ UE (fun b => b < a ∨ a + 3 < b) m m' j j' u u' ∧ RoO u' a ∧ m' a 1 = nI 0 ∧ ∀ z, j' (a + 1) z = 0 := by
  obtain ⟨u1', e1⟩ : ∃ u1', u1' = pu (nu (nu u a 8 0) (a + 1) 21 6) a 0 (a + 1) := ⟨_, rfl⟩
  obtain ⟨u2', e2⟩ : ∃ u2', u2' = pu (nu u1' (a + 2) 3 0) a 6 (a + 2) := ⟨_, rfl⟩
  obtain ⟨u3', e3⟩ : ∃ u3', u3' = pu (nu u2' (a + 3) 3 0) a 7 (a + 3) := ⟨_, rfl⟩
  have t1 : u1'.2.1 a = 8 := by rw [e1, pu_2, nu_2 (by omega), nu_2s]
  have t1b : u1'.2.1 (a + 2) = 0 := by rw [e1, pu_2, nu_2 (by omega), nu_2 (by omega)]; exact f2
  have t2 : u2'.2.1 a = 8 := by rw [e2, pu_2, nu_2 (by omega)]; exact t1
  have t2b : u2'.2.1 (a + 3) = 0 := by rw [e2, pu_2, nu_2 (by omega), e1, pu_2, nu_2 (by omega), nu_2 (by omega)]; exact f3
  obtain ⟨m1, em1⟩ : ∃ m1, m1 = u2 (u2 (u2 (u2 (u2 (z1 (z1 m a 0) (a + 1) 0) a 1 0) a 2 (-1)) a 3 (-1)) a 4 0) a 5 0 := ⟨_, rfl⟩
  obtain ⟨m2, a1, a2⟩ := C_init1 (m := z1 m1 (a + 2) 0) (j := z1 (z1 (z1 j a 0) (a + 1) 0) (a + 2) 0) (u := nu u1' (a + 2) 3 0) (a := a + 2) nu_2s
  obtain ⟨m3, b1, b2⟩ := C_init1 (m := z1 m2 (a + 3) 0) (j := z1 (z1 (z1 (z1 j a 0) (a + 1) 0) (a + 2) 0) (a + 3) 0) (u := nu u2' (a + 3) 3 0) (a := a + 3) nu_2s
  have em : ∀ b, b ≠ a + 1 → b ≠ a + 2 → b ≠ a + 3 → m3 b = m1 b := fun b g1 g2 g3 => by rw [b2 b g3, z1n g3, a2 b g2, z1n g2]
  refine ⟨m3, z1 (z1 (z1 (z1 j a 0) (a + 1) 0) (a + 2) 0) (a + 3) 0, u3', fun K => ?_, fun b hb => ⟨?_, ?_, ?_, ?_, ?_⟩, ⟨ha, ?_, ⟨?_, ?_, ?_⟩, ⟨?_, ?_⟩, ?_, ?_⟩, ?_, fun z => ?_⟩
  · unfold F_X6_init
    rw [e_nO ha f0, show (6 : Int32) = nI 6 from rfl, e_nA (by omega) (by rw [nu_2 (by omega)]; exact f1) (by decide), e_pR (by rw [nu_2 (by omega)]; exact nu_2s) (by rw [nu_2s]; decide) (by omega), ← e1, e_pZ t1 (Or.inl rfl), e_pI t1, e_pI t1, e_pI t1, e_pI t1, ← em1, e_nO (by omega) t1b, a1, e_cl, e_pR (by rw [nu_2 (by omega)]; exact t1) (by rw [nu_2s]; decide) (by omega), ← e2, e_nO (by omega) t2b, b1, e_cl, e_pR (by rw [nu_2 (by omega)]; exact t2) (by rw [nu_2s]; decide) (by omega), ← e3, e_cl]
  · rw [em b (by omega) (by omega) (by omega), em1, e_u2r (by omega), e_u2r (by omega), e_u2r (by omega), e_u2r (by omega), e_u2r (by omega), z1n (by omega), z1n (by omega)]
  · rw [z1n (by omega), z1n (by omega), z1n (by omega), z1n (by omega)]
  · rw [e3, pu_1 (by omega), nu_1 (by omega), e2, pu_1 (by omega), nu_1 (by omega), e1, pu_1 (by omega), nu_1 (by omega), nu_1 (by omega)]
  · rw [e3, pu_2, nu_2 (by omega), e2, pu_2, nu_2 (by omega), e1, pu_2, nu_2 (by omega), nu_2 (by omega)]
  · rw [e3, pu_3, nu_3 (by omega), e2, pu_3, nu_3 (by omega), e1, pu_3, nu_3 (by omega), nu_3 (by omega)]
  · rw [e3, pu_2, nu_2 (by omega)]; exact t2
  · rw [e3, pu_1k (by decide), nu_1 (by omega), e2, pu_1k (by decide), nu_1 (by omega), e1, pu_1s]
  · rw [e3, pu_1k (by decide), nu_1 (by omega), e2, pu_1s]
  · rw [e3, pu_1s]
  · rw [e3, pu_2, nu_2 (by omega), e2, pu_2, nu_2 (by omega), e1, pu_2, nu_2s]
  · rw [e3, pu_3, nu_3 (by omega), e2, pu_3, nu_3 (by omega), e1, pu_3, nu_3s]
  · rw [e3, pu_2, nu_2 (by omega), e2, pu_2, nu_2s]
  · rw [e3, pu_2, nu_2s]
  · rw [em a (by omega) (by omega) (by omega), em1, e_u2k (by decide), e_u2k (by decide), e_u2k (by decide), e_u2k (by decide), e_u2s]; rfl
  · rw [z1n (by omega), z1n (by omega), z1s]
/-- a new stone -/
theorem C_newS {a c W q r : Nat} {β : Type} (ha : a ≠ 0) (f0 : u.2.1 a = 0) (f1 : u.2.1 (a + 1) = 0) (f2 : u.2.1 (a + 2) = 0) (f3 : u.2.1 (a + 3) = 0) (hc : c < a) (hc3 : u.2.1 c = 3) (c1 : m c 1 = nI q) (c7 : m c 7 = nI W) {ix an : Nat → Nat} {sg : Nat → Nat → Nat} {n : Nat} : ∃ m' j' u', (∀ (K : PM → Option β), cl (F_X8_init a (nI r) c (pm (z1 m a 0) (z1 j a 0) (nu u a 10 0))) (fun _ h8 => K h8) = K (pm m' j' u')) ∧ UE (fun b => b < a ∨ a + 3 < b) m m' j j' u u' ∧ u'.2.1 a = 10 ∧ ST m' u' a (adS sg n W q r n) ix an := by
  obtain ⟨u1', e1⟩ : ∃ u1', u1' = pu (nu (nu u a 10 0) (a + 1) 20 8) a 8 (a + 1) := ⟨_, rfl⟩
  obtain ⟨u2', e2⟩ : ∃ u2', u2' = pu (nu u1' (a + 2) 20 8) a 9 (a + 2) := ⟨_, rfl⟩
  obtain ⟨u3', e3⟩ : ∃ u3', u3' = pu (nu u2' (a + 3) 20 8) a 12 (a + 3) := ⟨_, rfl⟩
  have t0 : (nu u a 10 0).2.1 a = 10 := nu_2s
  have t1 : u1'.2.1 a = 10 := by rw [e1, pu_2, nu_2 (by omega), nu_2s]
  have t1b : u1'.2.1 (a + 2) = 0 := by rw [e1, pu_2, nu_2 (by omega), nu_2 (by omega)]; exact f2
  have t2 : u2'.2.1 a = 10 := by rw [e2, pu_2, nu_2 (by omega)]; exact t1
  have t2b : u2'.2.1 (a + 3) = 0 := by rw [e2, pu_2, nu_2 (by omega), e1, pu_2, nu_2 (by omega), nu_2 (by omega)]; exact f3
  have t3 : u3'.2.1 a = 10 := by rw [e3, pu_2, nu_2 (by omega)]; exact t2
  have t3c : u3'.2.1 c = 3 := by rw [e3, pu_2, nu_2 (by omega), e2, pu_2, nu_2 (by omega), e1, pu_2, nu_2 (by omega), nu_2 (by omega)]; exact hc3
  obtain ⟨m1, em1⟩ : ∃ m1, m1 = u2 (u2 (u2 (u2 (u2 (z1 m a 0) a 3 0) a 4 (-1)) a 5 (-1)) a 6 (-1)) a 7 0 := ⟨_, rfl⟩
  obtain ⟨m2, em2⟩ : ∃ m2, m2 = u2 (u2 (z1 (z1 m1 (a + 1) 0) (a + 2) 0) a 10 0) a 11 0 := ⟨_, rfl⟩
  obtain ⟨m3, em3⟩ : ∃ m3, m3 = u2 (u2 (u2 (z1 m2 (a + 3) 0) a 0 (nI r)) a 1 (nI q)) a 2 (nI (1000 * W)) := ⟨_, rfl⟩
  have kc : ∀ v : Int32, u2 (z1 m2 (a + 3) 0) a 0 v c = m c := fun v => by rw [e_u2r (by omega), z1n (by omega), em2, e_u2r (by omega), e_u2r (by omega), z1n (by omega), z1n (by omega), em1, e_u2r (by omega), e_u2r (by omega), e_u2r (by omega), e_u2r (by omega), e_u2r (by omega), z1n (by omega)]
  refine ⟨m3, z1 (z1 (z1 (z1 j a 0) (a + 1) 0) (a + 2) 0) (a + 3) 0, u3', fun K => ?_, fun b hb => ⟨?_, ?_, ?_, ?_, ?_⟩, t3, ⟨ha, t3, ⟨?_, ?_, ?_⟩, ⟨?_, ?_⟩, ⟨?_, ?_⟩, ?_, ?_⟩, ⟨?_, ?_, ?_, ?_, ?_, ?_, ?_⟩, ⟨?_, ?_, ?_⟩, 0, ?_, ?_, ?_⟩
  · unfold F_X8_init
    rw [e_pZ t0 (Or.inl rfl), e_pI t0, e_pI t0, e_pI t0, e_pI t0, ← em1, show (8 : Int32) = nI 8 from rfl, e_nA (by omega) (by rw [nu_2 (by omega)]; exact f1) (by decide), e_pR (by rw [nu_2 (by omega)]; exact nu_2s) (by rw [nu_2s]; decide) (by omega), ← e1, e_nA (by omega) t1b (by decide), e_pR (by rw [nu_2 (by omega)]; exact t1) (by rw [nu_2s]; decide) (by omega), ← e2, e_pI t2, e_pI t2, ← em2, e_nA (by omega) t2b (by decide), e_pR (by rw [nu_2 (by omega)]; exact t2) (by rw [nu_2s]; decide) (by omega), ← e3, e_pI t3, e_gI t3c, kc, c1, e_pI t3, e_gI t3c, e_u2r (show c ≠ a by omega), kc, c7, show (1000 : Int32) = nI 1000 from rfl, pk_mul, e_pI t3, ← em3, e_cl]
  · rw [em3, e_u2r (by omega), e_u2r (by omega), e_u2r (by omega), z1n (by omega), em2, e_u2r (by omega), e_u2r (by omega), z1n (by omega), z1n (by omega), em1, e_u2r (by omega), e_u2r (by omega), e_u2r (by omega), e_u2r (by omega), e_u2r (by omega), z1n (by omega)]
  · rw [z1n (by omega), z1n (by omega), z1n (by omega), z1n (by omega)]
  · rw [e3, pu_1 (by omega), nu_1 (by omega), e2, pu_1 (by omega), nu_1 (by omega), e1, pu_1 (by omega), nu_1 (by omega), nu_1 (by omega)]
  · rw [e3, pu_2, nu_2 (by omega), e2, pu_2, nu_2 (by omega), e1, pu_2, nu_2 (by omega), nu_2 (by omega)]
  · rw [e3, pu_3, nu_3 (by omega), e2, pu_3, nu_3 (by omega), e1, pu_3, nu_3 (by omega), nu_3 (by omega)]
  · rw [e3, pu_1k (by decide), nu_1 (by omega), e2, pu_1k (by decide), nu_1 (by omega), e1, pu_1s]
  · rw [e3, pu_1k (by decide), nu_1 (by omega), e2, pu_1s]
  · rw [e3, pu_1s]
  · rw [e3, pu_2, nu_2 (by omega), e2, pu_2, nu_2 (by omega), e1, pu_2, nu_2s]
  · rw [e3, pu_3, nu_3 (by omega), e2, pu_3, nu_3 (by omega), e1, pu_3, nu_3s]
  · rw [e3, pu_2, nu_2 (by omega), e2, pu_2, nu_2s]
  · rw [e3, pu_3, nu_3 (by omega), e2, pu_3, nu_3s]
  · rw [e3, pu_2, nu_2s]
  · rw [e3, pu_3, nu_3s]
  · unfold adS; rw [if_pos rfl, em3, e_u2k (by decide), e_u2k (by decide), e_u2s]; rfl
  · unfold adS; rw [if_pos rfl, em3, e_u2k (by decide), e_u2s]; rfl
  · unfold adS; rw [if_pos rfl, em3, e_u2s]; rfl
  · unfold adS; rw [if_pos rfl, em3, e_u2k (by decide), e_u2k (by decide), e_u2k (by decide), z1n (by omega), em2, e_u2k (by decide), e_u2k (by decide), z1n (by omega), z1n (by omega), em1, e_u2k (by decide), e_u2k (by decide), e_u2k (by decide), e_u2k (by decide), e_u2s]; rfl
  · unfold adS; rw [if_pos rfl, em3, e_u2k (by decide), e_u2k (by decide), e_u2k (by decide), z1n (by omega), em2, e_u2k (by decide), e_u2k (by decide), z1n (by omega), z1n (by omega), em1, e_u2k (by decide), e_u2k (by decide), e_u2k (by decide), e_u2s]; exact oI_0.symm
  · unfold adS; rw [if_pos rfl, em3, e_u2k (by decide), e_u2k (by decide), e_u2k (by decide), z1n (by omega), em2, e_u2k (by decide), e_u2k (by decide), z1n (by omega), z1n (by omega), em1, e_u2k (by decide), e_u2k (by decide), e_u2s]; exact oI_0.symm
  · unfold adS; rw [if_pos rfl, em3, e_u2k (by decide), e_u2k (by decide), e_u2k (by decide), z1n (by omega), em2, e_u2k (by decide), e_u2k (by decide), z1n (by omega), z1n (by omega), em1, e_u2k (by decide), e_u2s]; exact oI_0.symm
  · unfold adS; rw [if_pos rfl]; exact Nat.zero_le _
  · unfold adS; rw [if_pos rfl, em3, e_u2k (by decide), e_u2k (by decide), e_u2k (by decide), z1n (by omega), em2, e_u2k (by decide), e_u2k (by decide), z1n (by omega), z1n (by omega), em1, e_u2s]; rfl
  · unfold adS; rw [if_pos rfl]; intro f hf; exact absurd hf (Nat.not_lt_zero _)
  · rw [em3, e_u2k (by decide), e_u2k (by decide), e_u2k (by decide), z1n (by omega), em2, e_u2k (by decide), e_u2s]; rfl
  · exact Nat.zero_le _
  · unfold adS
    rw [if_pos rfl]
    intro _
    refine ⟨?_, fun k hk => absurd hk (Nat.not_lt_zero _)⟩
    rw [em3, e_u2k (by decide), e_u2k (by decide), e_u2k (by decide), z1n (by omega), em2, e_u2s]; rfl
end OBJ
