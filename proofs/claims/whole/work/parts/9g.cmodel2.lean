/-! ===== the class: model ===== -/
def ml6 (f : Nat → Nat) : Nat → Nat
  | 0 => 6
  | n + 1 => min (ml6 f n) (f n)
theorem ml6_le (f : Nat → Nat) : ∀ n, ml6 f n ≤ 6 ∧ ∀ k, k < n → ml6 f n ≤ f k
  | 0 => ⟨Nat.le_refl _, fun k hk => by omega⟩
  | n + 1 => by
    have ih := ml6_le f n
    rw [ml6]
    refine ⟨by omega, fun k hk => ?_⟩
    by_cases e : k = n
    · rw [e]; omega
    · have := ih.2 k (by omega); omega
theorem ml6_at (f : Nat → Nat) : ∀ n, ml6 f n = 6 ∨ ∃ k, k < n ∧ f k = ml6 f n
  | 0 => Or.inl rfl
  | n + 1 => by
    rw [ml6]
    by_cases c : f n < ml6 f n
    · exact Or.inr ⟨n, by omega, by omega⟩
    · rw [show min (ml6 f n) (f n) = ml6 f n by omega]
      rcases ml6_at f n with h | ⟨k, h1, h2⟩
      · exact Or.inl h
      · exact Or.inr ⟨k, by omega, h2⟩
theorem ml6_eq {f : Nat → Nat} {n v : Nat} (h1 : ∀ i, i < n → v ≤ f i) (h2 : ∃ i, i < n ∧ f i = v) (h3 : v ≤ 6) : ml6 f n = v := by
  obtain ⟨i, i1, i2⟩ := h2
  have a := (ml6_le f n).2 i i1
  rcases ml6_at f n with z | ⟨k, k1, k2⟩
  · omega
  · have := h1 k k1; omega
theorem gst_eq {f : Nat → Nat} {n v : Nat} (h1 : ∀ i, i < n → f i ≤ v) (h2 : ∃ i, i < n ∧ f i = v) : gst f n = v := by
  obtain ⟨i, i1, i2⟩ := h2
  have a := gst_ge f n i i1
  rcases gst_at f n with z | ⟨k, k1, k2⟩
  · omega
  · have := h1 k k1; omega
theorem tot_sm : ∀ (l : List Lay), fb_sm (fun i => (ga l i).1 * (ga l i).2.1) l.length = tot l
  | [] => rfl
  | a :: l => by
    have h := fb_sm_split (fun i => (ga (a :: l) i).1 * (ga (a :: l) i).2.1) 1 l.length
    have e : (a :: l).length = 1 + l.length := by rw [List.length_cons]; omega
    rw [e, h]
    have e2 : fb_sm (fun k => (ga (a :: l) (1 + k)).1 * (ga (a :: l) (1 + k)).2.1) l.length = fb_sm (fun i => (ga l i).1 * (ga l i).2.1) l.length := fb_sm_cong (fun k _ => by rw [show 1 + k = k + 1 by omega]; rfl)
    rw [e2, tot_sm l]
    show 0 + a.1 * a.2.1 + tot l = a.2.1 * a.1 + tot l
    rw [Nat.mul_comm]; omega
def zM {α : Type} (f : Nat → Nat → α) (a : Nat) (v : α) : Nat → Nat → α := fun b => if a ≤ b ∧ b ≤ a + 36 then (fun _ => v) else f b
def nuM (u : SU) (a : Nat) : SU := (fun b => if b = a then (fun i => if i < 36 then a + 1 + i else 0) else if a < b ∧ b ≤ a + 36 then (fun _ => 0) else u.1 b, fun b => if b = a then 26 else if a < b ∧ b ≤ a + 36 then 21 else u.2.1 b, fun b => if b = a then 36 else if a < b ∧ b ≤ a + 36 then 6 else u.2.2 b)
theorem e_nM {β : Type} {m : IM} {j : JM} {u : SU} {a : Nat} {f : PM → Option β} (ha : a ≠ 0) (hT : ∀ i, i < 37 → u.2.1 (a + i) = 0) : nM (pm m j u) a 36 6 f = f (pm (zM m a 0) (zM j a 0) (nuM u a)) := by
  unfold nM
  rw [if_pos ⟨⟨ha, List.all_eq_true.mpr (fun i hi => by
    have := hT i (List.mem_range.mp hi)
    rw [e_mT, this]; rfl)⟩, rfl, rfl⟩]
  rfl
theorem zMn {α : Type} {f : Nat → Nat → α} {a b : Nat} {v : α} (h : b < a ∨ a + 36 < b) : zM f a v b = f b := if_neg (by omega)
theorem nuM_o {u : SU} {a b : Nat} (h : b < a ∨ a + 36 < b) : (nuM u a).1 b = u.1 b ∧ (nuM u a).2.1 b = u.2.1 b ∧ (nuM u a).2.2 b = u.2.2 b := by
  unfold nuM
  dsimp only
  rw [if_neg (by omega), if_neg (by omega), if_neg (by omega), if_neg (by omega), if_neg (by omega), if_neg (by omega)]
  exact ⟨rfl, rfl, rfl⟩
section CM2
variable {m : IM} {j : JM} {u : SU}
theorem C_L56 (hc : CS u) {a : Nat} {l : List Lay} (hM : okM l) (hO : MoO u a) (ha : 3000 ≤ a) : ∀ (d z fu : Nat) (m : IM), z + d = l.length → d < fu → TL m l → m (a + 1) 0 = nI (ml6 (fun i => (ga l i).2.2.1) z) → m (a + 1) 1 = nI (ml6 (fun i => (ga l i).2.2.2) z) →
    ∃ m', (∀ K, F_X3_init_L56 a 50 K fu (nI (gst (fun i => (ga l i).2.2.1 + (ga l i).1) z)) (nI (gst (fun i => (ga l i).2.2.2 + (ga l i).2.1) z)) (nI (fb_sm (fun i => (ga l i).1 * (ga l i).2.1) z)) (nI z) (pm m j u) = K (nI (gst (fun i => (ga l i).2.2.1 + (ga l i).1) l.length)) (nI (gst (fun i => (ga l i).2.2.2 + (ga l i).2.1) l.length)) (nI (fb_sm (fun i => (ga l i).1 * (ga l i).2.1) l.length)) (pm m' j u)) ∧ (∀ b, b ≠ a + 1 → m' b = m b) ∧ m' (a + 1) 0 = nI (ml6 (fun i => (ga l i).2.2.1) l.length) ∧ m' (a + 1) 1 = nI (ml6 (fun i => (ga l i).2.2.2) l.length) ∧ m' (a + 1) 2 = m (a + 1) 2 := by
  have hlen := hM.2.1
  intro d
  induction d with
  | zero =>
    intro z fu m hz hfu hL h0 h1
    obtain ⟨fu, rfl⟩ : ∃ g, fu = g + 1 := ⟨fu - 1, by omega⟩
    have e : z = l.length := by omega
    subst e
    refine ⟨m, fun K => ?_, fun _ _ => rfl, h0, h1, rfl⟩
    rw [F_X3_init_L56, cG_50 hc, hL.1, if_pos (nI_le (Nat.le_refl _) (by omega))]
  | succ d ih =>
    intro z fu m hz hfu hL h0 h1
    obtain ⟨fu, rfl⟩ : ∃ g, fu = g + 1 := ⟨fu - 1, by omega⟩
    have hzl : z < l.length := by omega
    have hL1 := hL.1
    obtain ⟨t1, t2, t3, t4⟩ := hL.2 z hzl
    obtain ⟨⟨b1, b2⟩, ⟨b3, b4⟩, b5, b6⟩ := ga_ok hM hzl
    have l0 := (ml6_le (fun i => (ga l i).2.2.1) z).1
    have l1 := (ml6_le (fun i => (ga l i).2.2.2) z).1
    have r0 : gst (fun i => (ga l i).2.2.1 + (ga l i).1) z ≤ 6 := by
      rcases gst_at (fun i => (ga l i).2.2.1 + (ga l i).1) z with y | ⟨k, k1, k2⟩
      · rw [y]; omega
      · have := ga_ok hM (show k < l.length by omega); have q := this.2.2.1; omega
    have r1 : gst (fun i => (ga l i).2.2.2 + (ga l i).2.1) z ≤ 6 := by
      rcases gst_at (fun i => (ga l i).2.2.2 + (ga l i).2.1) z with y | ⟨k, k1, k2⟩
      · rw [y]; omega
      · have := ga_ok hM (show k < l.length by omega); have q := this.2.2.2; omega
    obtain ⟨m', i1, i2, i3, i4, i5⟩ := ih (z + 1) fu (u2 (u2 m (a + 1) 0 (nI (min (ml6 (fun i => (ga l i).2.2.1) z) (ga l z).2.2.1))) (a + 1) 1 (nI (min (ml6 (fun i => (ga l i).2.2.2) z) (ga l z).2.2.2))) (by omega) (by omega) (by
      unfold TL
      rw [e_u2r (b := 50) (by omega), e_u2r (b := 50) (by omega), e_u2r (b := 54) (by omega), e_u2r (b := 54) (by omega), e_u2r (b := 55) (by omega), e_u2r (b := 55) (by omega), e_u2r (b := 52) (by omega), e_u2r (b := 52) (by omega), e_u2r (b := 53) (by omega), e_u2r (b := 53) (by omega)]
      exact hL) (by rw [e_u2k (by decide), e_u2s]; rfl) (by rw [e_u2s]; rfl)
    refine ⟨m', fun K => ?_, fun b hb => by rw [i2 b hb, e_u2r hb, e_u2r hb], i3, i4, by rw [i5, e_u2k (by decide), e_u2k (by decide)]⟩
    rw [gst, gst, fb_sm_succ] at i1
    rw [← i1 K, F_X3_init_L56]
    simp (disch := omega) only [e_cl, e_jn, e_lt, e_cxl, e_cxr, e_rzn, ↓l_m1, ↓l_m2, ↓l_m8, l_0, l_1, l_2, l_3, l_4, l_5, l_6, l_7, l_8, l_9, l_10, l_12, l_16, l_20, l_24, l_31, l_32, l_35, l_36, l_40, l_44, l_48, l_59, l_63, l_64, l_90, l_95, l_96, l_100, l_120, l_127, l_200, l_216, l_255, l_999, l_1000, l_10000, l_1000000, l_1048575, l_1000000000, nI_add, pk_mul, pk_sub, nI_leI, nI_ltI, nI_eq, nI_dec, nI_o0, mx_n, mn_n, ab_1, ab_n, e_u2e, e_u2k, e_u2a, if_pos, if_neg, if_true, if_false, not_true, not_false_eq_true, ne_eq, Nat.add_zero, Nat.zero_add, cG_50 hc, cP_50 hc, cT_50 hc, cR_50_0 hc, cA_51 hc, cS_51 hc, cR_50_5 hc, cA_52 hc, cS_52 hc, cR_50_6 hc, cA_53 hc, cS_53 hc, cR_50_7 hc, cA_54 hc, cS_54 hc, cR_50_8 hc, cA_55 hc, cS_55 hc, mG hO, mP hO, mT_ hO, mR0 hO, mR1 hO, mR2 hO, mA1 hO, mA2 hO, mS1 hO, mS2 hO, mA3 hO, mA4 hO, mS4 hO, hL1, h0, h1, t1, t2, t3, t4]
/-- a new model out of the text -/
theorem C_newM (hc : CS u) {a : Nat} {l : List Lay} {β : Type} (hM : okM l) (ha : 3000 ≤ a) (hf : ∀ i, i < 40 → u.2.1 (a + i) = 0) (hT : TU m) (hL : TL m l) : ∃ m' j' u', (∀ (K : PM → Option β), cl (F_X3_init a 50 (pm (z1 m a 0) (z1 j a 0) (nu u a 5 0))) (fun _ h => K h) = K (pm m' j' u')) ∧ UE (fun b => b < a ∨ a + 39 < b) m m' j j' u u' ∧ CS u' ∧ MO m' j' u' a l := by
  have hlen := hM.2.1
  obtain ⟨u1', e1⟩ : ∃ u1', u1' = pu (nu (nu u a 5 0) (a + 1) 20 3) a 0 (a + 1) := ⟨_, rfl⟩
  obtain ⟨u2', e2⟩ : ∃ u2', u2' = pu (nu u1' (a + 2) 20 3) a 1 (a + 2) := ⟨_, rfl⟩
  obtain ⟨u3', e3⟩ : ∃ u3', u3' = pu (nuM u2' (a + 3)) a 2 (a + 3) := ⟨_, rfl⟩
  have f1 := hf 1 (by decide)
  have f2 := hf 2 (by decide)
  have t1 : u1'.2.1 a = 5 := by rw [e1, pu_2, nu_2 (by omega), nu_2s]
  have t1b : ∀ b, a + 1 < b → u1'.2.1 b = u.2.1 b := fun b hb => by rw [e1, pu_2, nu_2 (by omega), nu_2 (by omega)]
  have t2 : u2'.2.1 a = 5 := by rw [e2, pu_2, nu_2 (by omega)]; exact t1
  have t2b : ∀ i, i < 37 → u2'.2.1 (a + 3 + i) = 0 := fun i hi => by rw [e2, pu_2, nu_2 (by omega), t1b _ (by omega), show a + 3 + i = a + (3 + i) by omega]; exact hf (3 + i) (by omega)
  have n1 : ∀ b, (b < a ∨ a + 39 < b) → u3'.1 b = u.1 b ∧ u3'.2.1 b = u.2.1 b ∧ u3'.2.2 b = u.2.2 b := fun b hb => by
    obtain ⟨q1, q2, q3⟩ := nuM_o (u := u2') (a := a + 3) (b := b) (by omega)
    refine ⟨?_, ?_, ?_⟩
    · rw [e3, pu_1 (by omega), q1, e2, pu_1 (by omega), nu_1 (by omega), e1, pu_1 (by omega), nu_1 (by omega), nu_1 (by omega)]
    · rw [e3, pu_2, q2, e2, pu_2, nu_2 (by omega), e1, pu_2, nu_2 (by omega), nu_2 (by omega)]
    · rw [e3, pu_3, q3, e2, pu_3, nu_3 (by omega), e1, pu_3, nu_3 (by omega), nu_3 (by omega)]
  have low : ∀ b, b < a + 3 → (nuM u2' (a + 3)).1 b = u2'.1 b ∧ (nuM u2' (a + 3)).2.1 b = u2'.2.1 b ∧ (nuM u2' (a + 3)).2.2 b = u2'.2.2 b := fun b hb => nuM_o (Or.inl hb)
  have t3 : u3'.2.1 a = 5 := by rw [e3, pu_2, (low a (by omega)).2.1]; exact t2
  have hO : MoO u3' a := by
    refine ⟨by omega, t3, ⟨?_, ?_, ?_⟩, ⟨?_, ?_⟩, ⟨?_, ?_⟩, ⟨?_, ?_⟩, fun i hi => ⟨?_, ?_, ?_⟩⟩
    · rw [e3, pu_1k (by decide), (low a (by omega)).1, e2, pu_1k (by decide), nu_1 (by omega), e1, pu_1s]
    · rw [e3, pu_1k (by decide), (low a (by omega)).1, e2, pu_1s]
    · rw [e3, pu_1s]
    · rw [e3, pu_2, (low _ (by omega)).2.1, e2, pu_2, nu_2 (by omega), e1, pu_2, nu_2s]
    · rw [e3, pu_3, (low _ (by omega)).2.2, e2, pu_3, nu_3 (by omega), e1, pu_3, nu_3s]
    · rw [e3, pu_2, (low _ (by omega)).2.1, e2, pu_2, nu_2s]
    · rw [e3, pu_3, (low _ (by omega)).2.2, e2, pu_3, nu_3s]
    · rw [e3, pu_2]; show (if a + 3 = a + 3 then 26 else _) = 26; rw [if_pos rfl]
    · rw [e3, pu_3]; show (if a + 3 = a + 3 then 36 else _) = 36; rw [if_pos rfl]
    · rw [e3, pu_1 (by omega)]
      show (if a + 3 = a + 3 then (fun i => if i < 36 then a + 3 + 1 + i else 0) else _) i = a + 4 + i
      rw [if_pos rfl, if_pos hi]
    · rw [e3, pu_2]; show (if a + 4 + i = a + 3 then 26 else if a + 3 < a + 4 + i ∧ a + 4 + i ≤ a + 3 + 36 then 21 else _) = 21; rw [if_neg (by omega), if_pos (by omega)]
    · rw [e3, pu_3]; show (if a + 4 + i = a + 3 then 36 else if a + 3 < a + 4 + i ∧ a + 4 + i ≤ a + 3 + 36 then 6 else _) = 6; rw [if_neg (by omega), if_pos (by omega)]
  have hc3 : CS u3' := CS_fr hc (fun b hb => n1 b (by have := fx_no hb; omega)) (fun L hL => by rw [(n1 L (by omega)).2.1, (n1 L (by omega)).2.2]; exact cLN hc L hL)
  obtain ⟨m1, em1⟩ : ∃ m1, m1 = zM (z1 (z1 (z1 m a 0) (a + 1) 0) (a + 2) 0) (a + 3) 0 := ⟨_, rfl⟩
  obtain ⟨j1, ej1⟩ : ∃ j1, j1 = zM (z1 (z1 (z1 j a 0) (a + 1) 0) (a + 2) 0) (a + 3) 0 := ⟨_, rfl⟩
  have km1 : ∀ b, (b < a ∨ a + 39 < b) → m1 b = m b := fun b hb => by rw [em1, zMn (by omega), z1n (by omega), z1n (by omega), z1n (by omega)]
  have kj1 : ∀ b, (b < a ∨ a + 39 < b) → j1 b = j b := fun b hb => by rw [ej1, zMn (by omega), z1n (by omega), z1n (by omega), z1n (by omega)]
  have lz : m1 (a + 1) 2 = 0 := by rw [em1, zMn (by omega), z1n (by omega), z1s]
  obtain ⟨m2, em2⟩ : ∃ m2, m2 = u2 (u2 m1 (a + 1) 0 (nI 6)) (a + 1) 1 (nI 6) := ⟨_, rfl⟩
  have km2 : ∀ b, (b < a ∨ a + 39 < b) → m2 b = m b := fun b hb => by rw [em2, e_u2r (by omega), e_u2r (by omega), km1 b hb]
  have hL2 : TL m2 l := by
    unfold TL
    rw [km2 50 (by omega), km2 54 (by omega), km2 55 (by omega), km2 52 (by omega), km2 53 (by omega)]
    exact hL
  obtain ⟨m3, a1, a2, a3, a4, a5⟩ := C_L56 (j := j1) hc3 hM hO ha l.length 0 LF m2 (by omega) (by unfold LF; omega) hL2 (by rw [em2, e_u2k (by decide), e_u2s]; rfl) (by rw [em2, e_u2s]; rfl)
  have v0 : ml6 (fun i => (ga l i).2.2.1) l.length = le_ l 0 := ml6_eq (fun i hi => ((le_0 hM).1 i hi).1) (le_0 hM).2.1 (by have := geo hM 0; omega)
  have v1 : ml6 (fun i => (ga l i).2.2.2) l.length = le_ l 1 := ml6_eq (fun i hi => ((le_1 hM).1 i hi).1) (le_1 hM).2.1 (by have := geo hM 1; omega)
  have v2 : gst (fun i => (ga l i).2.2.1 + (ga l i).1) l.length = hi_ l 0 + 1 := gst_eq (fun i hi => ((le_0 hM).1 i hi).2) (le_0 hM).2.2
  have v3 : gst (fun i => (ga l i).2.2.2 + (ga l i).2.1) l.length = hi_ l 1 + 1 := gst_eq (fun i hi => ((le_1 hM).1 i hi).2) (le_1 hM).2.2
  rw [v2, v3, tot_sm] at a1
  rw [v0] at a3
  rw [v1] at a4
  have s0 := sp_b_ hM 0
  have s1 := sp_b_ hM 1
  have s2 := sp_b_ hM 2
  have q2 := le_2 hM
  have w0 : nI (hi_ l 0 + 1) - nI (le_ l 0) = nI (sp_ l 0) := by rw [pk_sub (by omega)]; rfl
  have w1 : nI (hi_ l 1 + 1) - nI (le_ l 1) = nI (sp_ l 1) := by rw [pk_sub (by omega)]; rfl
  obtain ⟨m4, em4⟩ : ∃ m4, m4 = u2 (u2 (u2 (u2 (u2 m3 (a + 2) 0 (nI (sp_ l 0))) (a + 2) 1 (nI (sp_ l 1))) (a + 2) 2 (nI (sp_ l 2))) a 3 (nI (tot l))) a 4 (nI (gre l)) := ⟨_, rfl⟩
  have km4 : ∀ b, (b < a ∨ a + 39 < b) → m4 b = m b := fun b hb => by rw [em4, e_u2r (by omega), e_u2r (by omega), e_u2r (by omega), e_u2r (by omega), e_u2r (by omega), a2 b (by omega), km2 b hb]
  have k41 : m4 (a + 1) = m3 (a + 1) := by rw [em4, e_u2r (by omega), e_u2r (by omega), e_u2r (by omega), e_u2r (by omega), e_u2r (by omega)]
  have hT4 : TU m4 := fun w hw x hx => by rw [km4 1 (by omega)]; exact hT w hw x hx
  have hL4 : TL m4 l := by
    unfold TL
    rw [km4 50 (by omega), km4 54 (by omega), km4 55 (by omega), km4 52 (by omega), km4 53 (by omega)]
    exact hL
  have m44 : m4 a 4 = nI (gre l) := by rw [em4, e_u2s]
  obtain ⟨j5, b1, b2, b3⟩ := C_layers (m := m4) hc3 hM hO m44 hT4 hL4 (by rw [k41]; exact a3) (by rw [k41]; exact a4) l.length 0 LF j1 (by omega) (by unfold LF; omega) (fun t w z g1 g2 g3 g4 => by
    have z0 : j1 (a + 4 + (6 * (t - 1) + w)) z = 0 := by
      have := (gre_iff.mp g2).1
      rw [ej1]
      show (if a + 3 ≤ a + 4 + (6 * (t - 1) + w) ∧ a + 4 + (6 * (t - 1) + w) ≤ a + 3 + 36 then (fun _ => (0 : Int64)) else _) z = 0
      rw [if_pos (by omega)]
    rw [z0, show lay (fun i => anyC l t w i 0) z = 0 from lay_z.mpr (fun i hi => rfl)]
    rfl)
  refine ⟨m4, j5, u3', fun K => ?_, fun b hb => ⟨km4 b hb, by rw [b2 b (by omega), kj1 b hb], n1 b hb⟩, hc3, hO, ?_, m44, fun b hb => ⟨?_, ?_⟩, fun t w z g1 g2 g3 g4 => ?_⟩
  · have l50 : m3 50 4 = nI (sp_ l 2) := by rw [a2 50 (by omega), km2 50 (by omega), q2.2]; exact hL.1
    have fin := b1 (fun h35 => some ((), h35))
    rw [em4] at fin
    have k0 : a + 1 ≠ a + 2 := by omega
    unfold F_X3_init
    rw [show (3 : Int32) = nI 3 from rfl, e_nA (by omega) (by rw [nu_2 (by omega)]; exact f1) (by decide), e_pR (by rw [nu_2 (by omega)]; exact nu_2s) (by rw [nu_2s]; decide) (by omega), ← e1, e_nA (by omega) (by rw [t1b _ (by omega)]; exact f2) (by decide), e_pR (by rw [nu_2 (by omega)]; exact t1) (by rw [nu_2s]; decide) (by omega), ← e2, e_nM (by omega) t2b, e_pR (by rw [(low a (by omega)).2.1]; exact t2) (by show (if a + 3 = a + 3 then 26 else _) ≠ 0; rw [if_pos rfl]; decide) (by omega), ← e3, ← em1, ← ej1, mR0 hO, show (0 : Int32) = nI 0 from rfl, mS1 hO (by decide), mR0 hO, show (1 : Int32) = nI 1 from rfl, mS1 hO (by decide), show (6 : Int32) = nI 6 from rfl, ← em2, e_jn]
    rw [show F_X3_init_L56 a 50 _ LF (nI 0) (nI 0) (nI 0) (nI 0) (pm m2 j1 u3') = _ from a1 _]
    try dsimp only
    rw [show (2 : Int32) = nI 2 from rfl]
    have d3 : nI (max 1 (max (sp_ l 0) (max (sp_ l 1) (sp_ l 2)))) ≠ 0 := nI_ne0 (by omega) (by omega)
    rw [mR1 hO, mR0 hO, mA1 hO (by decide), a3, w0, mS2 hO (by decide), mR1 hO, mR0 hO, mA1 hO (by decide), e_u2r (show a + 1 ≠ a + 2 by omega), a4, w1, mS2 hO (by decide), mR1 hO, cG_50 hc3, e_u2r (show 50 ≠ a + 2 by omega), e_u2r (show 50 ≠ a + 2 by omega), l50, mS2 hO (by decide), mP hO, mR1 hO, mA2 hO (by decide), mR1 hO, mA2 hO (by decide), mR1 hO, mA2 hO (by decide), e_u2r (show a + 2 ≠ a by omega), e_u2k (show 0 ≠ 2 by decide), e_u2k (show 0 ≠ 1 by decide), e_u2s, e_u2k (show 1 ≠ 2 by decide), e_u2s, e_u2s, mx_n (by omega) (by omega), mx_n (by omega) (by omega), mx_n (by omega) (by omega), e_lt, e_dv d3, pk_div (by omega) (by omega) (by omega), mP hO, e_jn]
    rw [show nI (6 / max 1 (max (sp_ l 0) (max (sp_ l 1) (sp_ l 2)))) = nI (gre l) from rfl, fin, e_cl, ← em4]
  · rw [em4, e_u2k (by decide), e_u2s]
  · rw [k41]
    rcases (show b = 0 ∨ b = 1 ∨ b = 2 by omega) with rfl | rfl | rfl
    · exact a3
    · exact a4
    · rw [a5, em2, e_u2k (by decide), e_u2k (by decide), lz, q2.1]; rfl
  · rw [em4, e_u2r (by omega), e_u2r (by omega)]
    rcases (show b = 0 ∨ b = 1 ∨ b = 2 by omega) with rfl | rfl | rfl
    · rw [e_u2k (by decide), e_u2k (by decide), e_u2s]
    · rw [e_u2k (by decide), e_u2s]
    · rw [e_u2s]
  · rw [b3 t w z g1 g2 g3 g4]
    refine congrArg lN ?_
    unfold lay
    exact bN_cong (fun i hi => anyC_mk hM g3)
end CM2
