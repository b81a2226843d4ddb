/-! ===== new objects and rows; lists grow ===== -/
def z1 {α : Type} (f : Nat → Nat → α) (a : Nat) (v : α) : Nat → Nat → α := u1 f a (fun _ => v)
def nu (u : SU) (a t n : Nat) : SU := (u1 u.1 a (fun _ => 0), u1 u.2.1 a t, u1 u.2.2 a n)
def pu (u : SU) (a k r : Nat) : SU := (u2 u.1 a k r, u.2)
def cu (u : SU) (a : Nat) (f : Nat → Nat) : SU := (u1 u.1 a f, u.2)
section GEN
variable {α : Type} {a b k i : Nat} {v : α} {f : Nat → α} {g : Nat → Nat → α}
theorem h1s : u1 f a v a = v := if_pos rfl
theorem h1n (h : b ≠ a) : u1 f a v b = f b := if_neg h
theorem z1n (h : b ≠ a) : z1 g a v b = g b := if_neg h
theorem z1s : z1 g a v a k = v := by unfold z1; rw [h1s]
theorem h2s : u2 g a k v a k = v := by simp [u2]
theorem h2k (h : i ≠ k) : u2 g a k v a i = g a i := by simp [u2, h]
theorem h2n (h : b ≠ a) : u2 g a k v b = g b := by funext i; simp [u2, h]
end GEN
section NEW
variable {β : Type} {m : IM} {j : JM} {u : SU} {a b c k n t r i N : Nat}
theorem nu_1 (h : b ≠ a) : (nu u a t n).1 b = u.1 b := h1n h
theorem nu_2 (h : b ≠ a) : (nu u a t n).2.1 b = u.2.1 b := h1n h
theorem nu_3 (h : b ≠ a) : (nu u a t n).2.2 b = u.2.2 b := h1n h
theorem nu_2s : (nu u a t n).2.1 a = t := h1s
theorem nu_3s : (nu u a t n).2.2 a = n := h1s
theorem pu_1s : (pu u a k r).1 a k = r := h2s
theorem pu_1k (h : i ≠ k) : (pu u a k r).1 a i = u.1 a i := h2k h
theorem pu_1 (h : b ≠ a) : (pu u a k r).1 b = u.1 b := h2n h
theorem pu_2 : (pu u a k r).2.1 b = u.2.1 b := rfl
theorem pu_3 : (pu u a k r).2.2 b = u.2.2 b := rfl
theorem e_nA {f : PM → Option β} (ha : a ≠ 0) (hT : u.2.1 a = 0) (hn : n ≤ 65536) : nA (pm m j u) a t (nI n) f = f (pm (z1 m a 0) (z1 j a 0) (nu u a t n)) := by
  unfold nA
  rw [if_pos ⟨⟨ha, hT⟩, nI_pos (by omega), by rw [nI_clamp (by omega)]; exact hn⟩, nI_clamp (by omega)]
  rfl
theorem e_nO {f : PM → Option β} (ha : a ≠ 0) (hT : u.2.1 a = 0) : nO (pm m j u) a c f = f (pm (z1 m a 0) (z1 j a 0) (nu u a (c + 1) 0)) := by
  unfold nO
  rw [if_pos ⟨ha, hT⟩]
  rfl
theorem e_pR {f : PM → Option β} (hT : u.2.1 a = c + 1) (h1 : u.2.1 r ≠ 0) (h2 : r ≠ 0) : pR (pm m j u) a c k r f = f (pm m j (pu u a k r)) := if_pos ⟨hT, h1, h2⟩
theorem e_sR {f : PM → Option β} (hT : (u.2.1 a = 24 ∧ u.2.1 r = 6) ∨ (u.2.1 a = 25 ∧ (u.2.1 r = 5 ∨ u.2.1 r = 8 ∨ u.2.1 r = 10))) (hN : u.2.2 a = N) (hb : N < 2 ^ 31) (hi : i < N) (hr : r ≠ 0) : sR (pm m j u) a (nI i) r f = f (pm m j (pu u a i r)) := by
  subst hN
  unfold sR
  rw [if_pos ⟨hT, nI_in hi hb, hr⟩, nI_clamp (by omega)]
  rfl
end NEW
def UE (P : Nat → Prop) (m m' : IM) (j j' : JM) (u u' : SU) : Prop := ∀ b, P b → m' b = m b ∧ j' b = j b ∧ u'.1 b = u.1 b ∧ u'.2.1 b = u.2.1 b ∧ u'.2.2 b = u.2.2 b
theorem UE.tr {P : Nat → Prop} {m1 m2 m3 : IM} {j1 j2 j3 : JM} {u1 u2 u3 : SU} (h : UE P m1 m2 j1 j2 u1 u2) (g : UE P m2 m3 j2 j3 u2 u3) : UE P m1 m3 j1 j3 u1 u3 := fun b hb => by
  obtain ⟨a1, a2, a3, a4, a5⟩ := h b hb
  obtain ⟨b1, b2, b3, b4, b5⟩ := g b hb
  exact ⟨b1.trans a1, b2.trans a2, b3.trans a3, b4.trans a4, b5.trans a5⟩
theorem UE.sub {P Q : Nat → Prop} {m1 m2 : IM} {j1 j2 : JM} {u1 u2 : SU} (h : UE P m1 m2 j1 j2 u1 u2) (hQ : ∀ b, Q b → P b) : UE Q m1 m2 j1 j2 u1 u2 := fun b hb => h b (hQ b hb)
theorem UE.int {P : Nat → Prop} {m1 m2 : IM} {j : JM} {u : SU} (h : ∀ b, P b → m2 b = m1 b) : UE P m1 m2 j j u u := fun b hb => ⟨h b hb, rfl, rfl, rfl, rfl⟩
theorem capf_s (E : Nat) (h1 : 1 ≤ E) (h2 : E ≤ 4) : capf E + max 1 (capf E / 2) = capf (E + 1) := by
  rcases (show E = 1 ∨ E = 2 ∨ E = 3 ∨ E = 4 by omega) with rfl | rfl | rfl | rfl <;> rfl
theorem capf_77 (E : Nat) (h : E ≤ 5) : capf E ≠ 77 := by
  rcases (show E = 0 ∨ E = 1 ∨ E = 2 ∨ E = 3 ∨ E = 4 ∨ E = 5 by omega) with rfl | rfl | rfl | rfl | rfl | rfl <;> decide
theorem capf_64 (E : Nat) (h : E ≤ 5) : capf E ≤ 64 := by
  rcases (show E = 0 ∨ E = 1 ∨ E = 2 ∨ E = 3 ∨ E = 4 ∨ E = 5 by omega) with rfl | rfl | rfl | rfl | rfl | rfl <;> decide
theorem capf_pos {E : Nat} (h : 1 ≤ E) : 10 ≤ capf E := by
  unfold capf
  rw [if_neg (by omega)]
  split <;> first | omega | (split <;> first | omega | (split <;> first | omega | (split <;> omega)))
theorem sh1 : ∀ n, n < 100 → nI n >>> ((1 : Int32) &&& 31) = nI (n / 2) := by decide +kernel
section ADD
variable {m : IM} {j : JM} {u : SU} {L n x : Nat} {nm : Nat → Nat}
/-- the row of a list is grown, where it is full -/
theorem C_grow (h : LiS u L n nm) (h2L : 2 < L) (h27 : u.2.1 2 = 27) (hN2 : u.2.2 2 = 0) (hm : m L 2 = nI n) (hfull : ∀ E, u.1 L 1 = (if E = 0 then 2 else L + E) → E ≤ 5 → u.2.2 (if E = 0 then 2 else L + E) = n → E ≤ 4) (E : Nat) (hE1 : u.1 L 1 = (if E = 0 then 2 else L + E)) (hE5 : E ≤ 4) (hfr : ∀ a, L + E < a → a < L + 10 → u.2.1 a = 0) (hE0 : E = 0 → n = 0) (hEn : n = capf E) (hEt : 0 < E → u.2.1 (L + E) = 25 ∧ u.2.2 (L + E) = capf E) (hEk : ∀ k, k < n → u.1 (L + E) k = nm k ∧ nm k ≠ 0 ∧ (u.2.1 (nm k) = 5 ∨ u.2.1 (nm k) = 8 ∨ u.2.1 (nm k) = 10)) (hnm : ∀ k, k < n → nm k < L ∨ L + 10 ≤ nm k) :
    ∃ m' j' u', F_Jx4a65c_grow_d5877 L (pm m j u) = some (L + (E + 1), pm m' j' u') ∧ UE (fun b => b ≠ L ∧ b ≠ L + (E + 1)) m m' j j' u u' ∧ m' L = m L ∧ j' L = j L ∧ u'.2.1 L = 1 ∧ u'.2.2 L = u.2.2 L ∧ u'.1 L 1 = L + (E + 1) ∧ (∀ k, k ≠ 1 → u'.1 L k = u.1 L k) ∧ u'.2.1 (L + (E + 1)) = 25 ∧ u'.2.2 (L + (E + 1)) = capf (E + 1) ∧ ∀ k, k < n → u'.1 (L + (E + 1)) k = nm k := by
  obtain ⟨hL1, -⟩ := h
  have hcap := capf_lt E
  have hfr1 := hfr (L + (E + 1)) (by omega) (by omega)
  by_cases e0 : E = 0
  · subst e0
    have hn := hE0 rfl
    subst hn
    rw [if_pos rfl] at hE1
    have hac : ∀ f : Option (Nat × PM), acg (pm m j u) 2 2 f = f := fun f => if_pos (Or.inl rfl)
    have hbd : ∀ f : Option (Nat × PM), bnd (nI 10) 10 f = f := fun f => if_pos (by decide)
    refine ⟨z1 m (L + 1) 0, z1 j (L + 1) 0, pu (nu u (L + 1) 25 10) L 1 (L + 1), ?_, fun b hb => ?_, z1n (by omega), z1n (by omega), ?_, ?_, pu_1s, fun k hk => ?_, ?_, ?_, fun k hk => absurd hk (Nat.not_lt_zero _)⟩
    · unfold F_Jx4a65c_grow_d5877 F_Jx4a65c_grow_92f84
      rw [e_gI hL1, hm, e_tst hL1, show nI 0 + 1 = nI 1 from rfl, e_gR hL1 hE1 (by decide), e_ln (by rw [h27]; decide) (by rw [h27]; decide) hN2 (by decide), e_jn, if_neg (show ¬ (0 : Int32) < nI 0 by decide), e_gR hL1 hE1 (by decide), hac, if_pos rfl, show mx 10 (nI 1) = nI 10 from by decide, hbd, e_nA (by omega) hfr1 (by decide), e_pR (by rw [nu_2 (by omega)]; exact hL1) (by rw [nu_2s]; decide) (by omega), e_cl]
    · exact ⟨z1n hb.2, z1n hb.2, by rw [pu_1 hb.1, nu_1 hb.2], by rw [pu_2, nu_2 hb.2], by rw [pu_3, nu_3 hb.2]⟩
    · rw [pu_2, nu_2 (by omega)]; exact hL1
    · rw [pu_3, nu_3 (by omega)]
    · rw [pu_1k hk, nu_1 (by omega)]
    · rw [pu_2]; exact nu_2s
    · rw [pu_3]; exact nu_3s
  · rw [if_neg e0] at hE1
    obtain ⟨t1, t2⟩ := hEt (by omega)
    have hcs := capf_s E (by omega) hE5
    have hcp := capf_pos (E := E) (by omega)
    have hcl := capf_lt (E + 1)
    have hnl : ∀ h : PM, F_J8_newLength_cabcc (nI (capf E)) (nI 1) (nI (capf E / 2)) h = some (nI (capf (E + 1)), h) := fun h => by
      unfold F_J8_newLength_cabcc
      rw [mx_n (by omega) (by omega), e_lt, e_jn, nI_add, hcs, if_neg (nI_nle (by omega) (by omega)), if_neg (show ¬ (2147483639 : Int32) < nI (capf (E + 1)) from nI_nlt (a := 2147483639) (by omega) (by decide))]
    have hac : ∀ (m : IM) (j : JM) (u : SU) (f : Option (Nat × PM)), acg (pm m j u) 3 3 f = f := fun _ _ _ f => if_pos (Or.inl rfl)
    have hbd : ∀ f : Option (Nat × PM), bnd (nI (capf (E + 1))) 64 f = f := fun f => if_pos (by
      rw [nI_clamp (by omega)]
      exact capf_64 (E + 1) (by omega))
    have hcpR : ∀ f : PM → Option (Nat × PM), cpR (pm (z1 m (L + E + 1) 0) (z1 j (L + E + 1) 0) (nu u (L + E + 1) 25 (capf (E + 1)))) (L + E) 0 (L + E + 1) 0 (nI (capf E)) f = f (pm (z1 m (L + E + 1) 0) (z1 j (L + E + 1) 0) (cu (nu u (L + E + 1) 25 (capf (E + 1))) (L + E + 1) (va_cpy (u.1 (L + E)) (fun _ => 0) 0 0 (capf E)))) := fun f => by
      unfold cpR
      have k0 : (0 : Int32).toNatClampNeg = 0 := rfl
      have kn : (nI (capf E)).toNatClampNeg = capf E := nI_clamp (by omega)
      have x1 : mT (pm (z1 m (L + E + 1) 0) (z1 j (L + E + 1) 0) (nu u (L + E + 1) 25 (capf (E + 1)))) (L + E) = 25 := by rw [e_mT, nu_2 (by omega)]; exact t1
      have x2 : mT (pm (z1 m (L + E + 1) 0) (z1 j (L + E + 1) 0) (nu u (L + E + 1) 25 (capf (E + 1)))) (L + E + 1) = 25 := by rw [e_mT]; exact nu_2s
      have x3 : mN (pm (z1 m (L + E + 1) 0) (z1 j (L + E + 1) 0) (nu u (L + E + 1) 25 (capf (E + 1)))) (L + E) = capf E := by rw [e_mN, nu_3 (by omega)]; exact t2
      have x4 : mN (pm (z1 m (L + E + 1) 0) (z1 j (L + E + 1) 0) (nu u (L + E + 1) 25 (capf (E + 1)))) (L + E + 1) = capf (E + 1) := by rw [e_mN]; exact nu_3s
      rw [k0, kn, if_pos ⟨⟨⟨x1, x2⟩, by omega⟩, by decide, by decide, nI_pos (by omega), by rw [x3]; omega, by rw [x4]; omega⟩, if_pos ?_]
      · have e1 : mR (pm (z1 m (L + E + 1) 0) (z1 j (L + E + 1) 0) (nu u (L + E + 1) 25 (capf (E + 1)))) (L + E) = u.1 (L + E) := by rw [e_mR, nu_1 (by omega)]
        have e2 : mR (pm (z1 m (L + E + 1) 0) (z1 j (L + E + 1) 0) (nu u (L + E + 1) 25 (capf (E + 1)))) (L + E + 1) = fun _ => 0 := by rw [e_mR]; exact h1s
        rw [e1, e2]; rfl
      · rw [List.all_eq_true]
        intro k hk
        have hk := List.mem_range.mp hk
        obtain ⟨y1, y2, y3⟩ := hEk k (by omega)
        have yn := hnm k (by omega)
        have e1 : mR (pm (z1 m (L + E + 1) 0) (z1 j (L + E + 1) 0) (nu u (L + E + 1) 25 (capf (E + 1)))) (L + E) (0 + k) = nm k := by rw [e_mR, nu_1 (by omega), Nat.zero_add]; exact y1
        have e2 : mT (pm (z1 m (L + E + 1) 0) (z1 j (L + E + 1) 0) (nu u (L + E + 1) 25 (capf (E + 1)))) (nm k) = u.2.1 (nm k) := by rw [e_mT, nu_2 (by omega)]
        rw [e1, e2]
        rcases y3 with y | y | y <;> rw [y] <;> simp
    refine ⟨z1 m (L + E + 1) 0, z1 j (L + E + 1) 0, pu (cu (nu u (L + E + 1) 25 (capf (E + 1))) (L + E + 1) (va_cpy (u.1 (L + E)) (fun _ => 0) 0 0 (capf E))) L 1 (L + E + 1), ?_, fun b hb => ?_, z1n (by omega), z1n (by omega), ?_, ?_, pu_1s, fun k hk => ?_, ?_, ?_, fun k hk => ?_⟩
    · have hgC : ∀ f : Option (Nat × PM), gC (pm m j u) (L + E) f = f := fun f => if_pos t1
      unfold F_Jx4a65c_grow_d5877 F_Jx4a65c_grow_92f84 F_J7_copyOf_1904c F_J7_copyOf_6403c
      rw [e_gI hL1, hm, e_tst hL1, show nI n + 1 = nI (n + 1) from nI_1 n, e_gR hL1 hE1 (by omega), e_ln (by rw [t1]; decide) (by rw [t1]; decide) t2 (capf_77 E (by omega)), e_jn, if_pos (show (0 : Int32) < nI (capf E) from nI_lt (a := 0) (by omega) (by omega)), sh1 _ hcap, pk_sub (show capf E ≤ n + 1 by omega), show n + 1 - capf E = 1 by omega]
      dsimp only
      rw [hnl, e_cl, e_gR hL1 hE1 (by omega), hgC, hac, if_neg (fun z => z rfl), hbd, e_nA (by omega) (by rw [show L + E + 1 = L + (E + 1) by omega]; exact hfr1) (by omega), e_lt, e_ln (N := capf E) (by rw [nu_2 (by omega), t1]; decide) (by rw [nu_2 (by omega), t1]; decide) (by rw [nu_3 (by omega)]; exact t2) (capf_77 E (by omega)), mn_n (by omega) (by omega), show min (capf E) (capf (E + 1)) = capf E by omega, hcpR, e_cl, e_cl, e_pR (by show (nu u (L + E + 1) 25 (capf (E + 1))).2.1 L = 1; rw [nu_2 (by omega)]; exact hL1) (by show (nu u (L + E + 1) 25 (capf (E + 1))).2.1 (L + E + 1) ≠ 0; rw [nu_2s]; decide) (by omega), e_cl]
      rfl
    · have h1 := hb.1
      have h2 : b ≠ L + E + 1 := fun z => hb.2 (by omega)
      refine ⟨z1n h2, z1n h2, ?_, ?_, ?_⟩
      · rw [pu_1 h1]
        show u1 (nu u (L + E + 1) 25 (capf (E + 1))).1 (L + E + 1) _ b = _
        rw [h1n h2, nu_1 h2]
      · show (nu u (L + E + 1) 25 (capf (E + 1))).2.1 b = _
        rw [nu_2 h2]
      · show (nu u (L + E + 1) 25 (capf (E + 1))).2.2 b = _
        rw [nu_3 h2]
    · show (nu u (L + E + 1) 25 (capf (E + 1))).2.1 L = 1
      rw [nu_2 (by omega)]; exact hL1
    · show (nu u (L + E + 1) 25 (capf (E + 1))).2.2 L = _
      rw [nu_3 (by omega)]
    · rw [pu_1k hk]
      show u1 (nu u (L + E + 1) 25 (capf (E + 1))).1 (L + E + 1) _ L k = _
      rw [h1n (by omega), nu_1 (by omega)]
    · exact nu_2s
    · exact nu_3s
    · show (pu _ L 1 _).1 (L + E + 1) k = nm k
      rw [pu_1 (by omega)]
      show u1 (nu u (L + E + 1) 25 (capf (E + 1))).1 (L + E + 1) _ (L + E + 1) k = _
      rw [h1s, pk_cpy_in (by omega) (by omega), show 0 + (k - 0) = k by omega]
      exact (hEk k hk).1
theorem C_add (h : LiS u L n nm) (h2L : 3 < L) (h27 : u.2.1 2 = 27) (hN2 : u.2.2 2 = 0) (hm : m L 2 = nI n) (hn : n < 49) (hnm : ∀ k, k ≤ n → nm k < L ∨ L + 10 ≤ nm k) (hx : nm n ≠ 0) (hxt : u.2.1 (nm n) = 5 ∨ u.2.1 (nm n) = 8 ∨ u.2.1 (nm n) = 10) :
    ∃ m' j' u', F_Jx4a65c_add_9ea2d L (nm n) (pm m j u) = some (nI 1, pm m' j' u') ∧ UE (fun b => b < L ∨ L + 10 ≤ b) m m' j j' u u' ∧ m' L 2 = nI (n + 1) ∧ u'.2.2 L = u.2.2 L ∧ LiS u' L (n + 1) nm := by
  have hLi := h
  obtain ⟨hL1, E, hE1, hE5, hfr, hE0, hEn, hEt, hEk⟩ := h
  have hcap := capf_lt E
  have hm1 : u2 m L 0 (m L 0 + 1) L 2 = nI n := by rw [e_u2k (by decide)]; exact hm
  by_cases c : n = capf E
  · have hE4 : E ≤ 4 := by
      rcases (show E ≤ 4 ∨ E = 5 by omega) with z | z
      · exact z
      · subst z
        have : capf 5 = 49 := rfl
        omega
    obtain ⟨m', j', u', a1, a2, a3, a4, a5, a6, a7, a8, a9, a10, a11⟩ := C_grow (m := u2 m L 0 (m L 0 + 1)) (j := j) hLi (by omega) h27 hN2 hm1 (fun E' _ _ _ => by
      rename_i q1 q2 q3
      exact (Classical.byContradiction fun z => by
        have e5 : E' = 5 := by omega
        subst e5
        rw [if_neg (by decide)] at q1 q3
        rw [hE1] at q1
        by_cases e0 : E = 0
        · rw [if_pos e0] at q1; omega
        · rw [if_neg e0] at q1; omega)) E hE1 hE4 hfr hE0 c hEt hEk (fun k hk => hnm k (by omega))
    have hcs : n < capf (E + 1) := by
      by_cases e0 : E = 0
      · subst e0
        have : capf (0 + 1) = 10 := rfl
        have : capf 0 = 0 := rfl
        omega
      · have := capf_s E (by omega) hE4
        omega
    have hcl := capf_lt (E + 1)
    have xn := hnm n (Nat.le_refl _)
    obtain ⟨-, -, -, x4, -⟩ := a2 (nm n) ⟨by omega, by omega⟩
    refine ⟨u2 m' L 2 (nI (n + 1)), j', pu u' (L + (E + 1)) n (nm n), ?_, fun b hb => ?_, e_u2s, a6, ?_, E + 1, ?_, by omega, fun a g1 g2 => ?_, fun z => by omega, by omega, fun _ => ⟨a9, a10⟩, fun k hk => ?_⟩
    · unfold F_Jx4a65c_add_9ea2d F_Jx4a65c_add_72be8
      rw [e_gI hL1, e_pI hL1]
      by_cases e0 : E = 0
      · rw [if_pos e0] at hE1
        have en : n = 0 := hE0 e0
        rw [e_gR hL1 hE1 (by decide), e_gI hL1, hm1, e_tst hL1, e_ln (by rw [h27]; decide) (by rw [h27]; decide) hN2 (by decide), e_jn, if_neg (show ¬ ¬ nI n = nI 0 from fun z => z (by rw [en])), e_tst hL1, a1, e_cl]
        dsimp only
        rw [e_sR (Or.inr ⟨a9, by rw [x4]; exact hxt⟩) a10 (by omega) hcs hx, e_pI (show (pu u' (L + (E + 1)) n (nm n)).2.1 L = 1 from a5), e_cl, show nI n + 1 = nI (n + 1) from nI_1 n, e_rz1]
        rfl
      · rw [if_neg e0] at hE1
        obtain ⟨t1, t2⟩ := hEt (by omega)
        rw [e_gR hL1 hE1 (by omega), e_gI hL1, hm1, e_tst hL1, e_ln (by rw [t1]; decide) (by rw [t1]; decide) t2 (capf_77 E hE5), e_jn, if_neg (show ¬ ¬ nI n = nI (capf E) from fun z => z (by rw [c])), e_tst hL1, a1, e_cl]
        dsimp only
        rw [e_sR (Or.inr ⟨a9, by rw [x4]; exact hxt⟩) a10 (by omega) hcs hx, e_pI (show (pu u' (L + (E + 1)) n (nm n)).2.1 L = 1 from a5), e_cl, show nI n + 1 = nI (n + 1) from nI_1 n, e_rz1]
        rfl
    · obtain ⟨y1, y2, y3, y4, y5⟩ := a2 b ⟨by omega, by omega⟩
      refine ⟨by rw [e_u2r (by omega), y1, e_u2r (by omega)], y2, ?_, y4, y5⟩
      rw [pu_1 (by omega)]; exact y3
    · exact a5
    · rw [if_neg (by omega), pu_1 (by omega)]; exact a7
    · obtain ⟨-, -, -, y4, -⟩ := a2 a ⟨by omega, by omega⟩
      show u'.2.1 a = 0
      rw [y4]; exact hfr a (by omega) g2
    · by_cases e : k = n
      · subst e
        refine ⟨pu_1s, hx, ?_⟩
        show u'.2.1 (nm k) = 5 ∨ u'.2.1 (nm k) = 8 ∨ u'.2.1 (nm k) = 10
        rw [x4]; exact hxt
      · obtain ⟨y1, y2, y3⟩ := hEk k (by omega)
        have kn := hnm k (by omega)
        obtain ⟨-, -, -, y4, -⟩ := a2 (nm k) ⟨by omega, by omega⟩
        refine ⟨by rw [pu_1k e]; exact a11 k (by omega), y2, ?_⟩
        show u'.2.1 (nm k) = 5 ∨ u'.2.1 (nm k) = 8 ∨ u'.2.1 (nm k) = 10
        rw [y4]; exact y3
  · have e0 : E ≠ 0 := fun z => by
      have := hE0 z
      subst z
      have : capf 0 = 0 := rfl
      omega
    have hE1' := hE1
    rw [if_neg e0] at hE1'
    obtain ⟨t1, t2⟩ := hEt (by omega)
    have xn := hnm n (Nat.le_refl _)
    refine ⟨u2 (u2 m L 0 (m L 0 + 1)) L 2 (nI (n + 1)), j, pu u (L + E) n (nm n), ?_, fun b hb => ?_, e_u2s, rfl, hL1, E, ?_, hE5, hfr, fun z => absurd z e0, by omega, fun _ => ⟨t1, t2⟩, fun k hk => ?_⟩
    · unfold F_Jx4a65c_add_9ea2d F_Jx4a65c_add_72be8
      rw [e_gI hL1, e_pI hL1, e_gR hL1 hE1' (by omega), e_gI hL1, hm1, e_tst hL1, e_ln (by rw [t1]; decide) (by rw [t1]; decide) t2 (capf_77 E hE5), e_jn, if_pos (fun z => c ((nI_eq (by omega) (by omega)).mp z))]
      dsimp only
      rw [e_sR (Or.inr ⟨t1, hxt⟩) t2 (by omega) (by omega) hx, e_pI (show (pu u (L + E) n (nm n)).2.1 L = 1 from hL1), e_cl, show nI n + 1 = nI (n + 1) from nI_1 n, e_rz1]
      rfl
    · exact ⟨by rw [e_u2r (by omega), e_u2r (by omega)], rfl, by rw [pu_1 (by omega)], rfl, rfl⟩
    · rw [pu_1 (by omega)]; exact hE1
    · by_cases e : k = n
      · subst e
        exact ⟨pu_1s, hx, hxt⟩
      · obtain ⟨y1, y2, y3⟩ := hEk k (by omega)
        exact ⟨by rw [pu_1k e]; exact y1, y2, y3⟩
end ADD
