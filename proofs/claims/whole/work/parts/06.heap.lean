/-! ===== the memory is changed at one name; a name comes ===== -/
theorem en_congr {cy : Nat → ClassId} {ρ : Nat → Nat} {h h' : PM} {a : Nat} (hT : mT h' a = mT h a) (hN : mN h' a = mN h a) (hI : mI h' a = mI h a) (hJ : mJ h' a = mJ h a) (hR : mR h' a = mR h a) : en cy ρ h' a = en cy ρ h a := by
  have e2 : ∀ c, fv ρ h' c a = fv ρ h c a := fun c => funext fun k => by simp only [fv, hI, hR]
  simp only [en, co, e2, hT, hN, hI, hJ, hR]
theorem Rep.set {D : va_G} {cy : Nat → ClassId} {base : Nat} {ρ : Nat → Nat} {h h' : PM} {U : State} {H H1 : Heap} {a : Nat} (hr : Rep D cy base ρ h U H) (ha : own1 (mT h a)) (hT : mT h' = mT h) (hN : mN h' = mN h)
    (hI : ∀ b, b ≠ a → mI h' b = mI h b) (hJ : ∀ b, b ≠ a → mJ h' b = mJ h b) (hR : ∀ b, b ≠ a → mR h' b = mR h b) (hat : va_at D vwCl (ρ a, en cy ρ h' a) H1) (oq : ∀ q : Nat, q ≠ ρ a → H1[q]? = H[q]?)
    (hv : ∀ k, mR h' a k = 0 ∨ mT h (mR h' a k) ≠ 0) : Rep D cy base ρ h' U H1 := by
  obtain ⟨r1, r2, r3, r4, r5⟩ := hr
  have hlt := (r1 a ha).1
  refine ⟨fun b hb => ?_, fun b hb => ?_, fun b hb => ?_, ?_, fun b k hb => ?_⟩
  · rw [hT] at hb
    by_cases e : b = a
    · subst e; exact ⟨hlt, hat⟩
    · refine ⟨(r1 b hb).1, ?_⟩
      rw [en_congr (by rw [hT]) (by rw [hN]) (hI b e) (hJ b e) (hR b e)]
      exact (r1 b hb).2.kept (oq _ (fun z => e (r4 b a hb ha z)))
  · rw [hT] at hb
    have e : b ≠ a := fun z => by subst z; exact ha.2.1 hb
    rw [hN, hI b e]
    exact ⟨(r2 b hb).1, (r2 b hb).2.kept (oq _ (fun z => by have := (r2 b hb).1; rw [z] at this; omega))⟩
  · rw [hT] at hb
    have e : b ≠ a := fun z => by subst z; exact ha.2.2 hb
    rw [hN]
    refine (r3 b hb).imp id fun hx => ?_
    obtain ⟨hl, scr, q1, q2⟩ := hx
    exact ⟨hl, scr, by rw [oq _ (fun z => by rw [z] at hl; omega)]; exact q1, q2⟩
  · rw [hT]; exact r4
  · rw [hT] at hb ⊢
    by_cases e : b = a
    · subst e; exact hv k
    · rw [hR b e]; exact r5 b k hb
theorem rn_up {ρ : Nat → Nat} {n q r : Nat} (h : r = 0 ∨ r ≠ n) : rn (va_up ρ n q) r = rn ρ r := by
  unfold rn va_up
  rcases h with h | h
  · simp [h]
  · simp [h]
theorem en_up {cy : Nat → ClassId} {ρ : Nat → Nat} {h : PM} {a n q : Nat} (hr : ∀ k, mR h a k = 0 ∨ mR h a k ≠ n) : en cy (va_up ρ n q) h a = en cy ρ h a := by
  have e : (fun j => rn (va_up ρ n q) (mR h a j)) = fun j => rn ρ (mR h a j) := funext fun j => rn_up (hr j)
  have e2 : ∀ c, fv (va_up ρ n q) h c a = fv ρ h c a := fun c => funext fun k => by simp only [fv, rn_up (hr k)]
  simp only [en, co, e, e2]
/-- a name n comes, at the cell q that is new -/
theorem Rep.new {D : va_G} {cy : Nat → ClassId} {base : Nat} {ρ : Nat → Nat} {h h' : PM} {U : State} {H H1 : Heap} {n : Nat} (hr : Rep D cy base ρ h U H) (hn : mT h n = 0) (hn0 : own1 (mT h' n)) (hT : ∀ b, b ≠ n → mT h' b = mT h b) (hN : ∀ b, b ≠ n → mN h' b = mN h b)
    (hI : ∀ b, b ≠ n → mI h' b = mI h b) (hJ : ∀ b, b ≠ n → mJ h' b = mJ h b) (hR : ∀ b, b ≠ n → mR h' b = mR h b) (hR0 : ∀ k, mR h' n k = 0) (hbs : base ≤ H.size) (oq : ∀ q : Nat, q < H.size → H1[q]? = H[q]?)
    (hat : va_at D vwCl (H.size, en cy (va_up ρ n H.size) h' n) H1) : Rep D cy base (va_up ρ n H.size) h' U H1 := by
  obtain ⟨r1, r2, r3, r4, r5⟩ := hr
  have up : ∀ b, b ≠ n → va_up ρ n H.size b = ρ b := fun b e => by simp [va_up, e]
  have us : va_up ρ n H.size n = H.size := by simp [va_up]
  have nn : ∀ b k, mT h b ≠ 0 → mR h b k = 0 ∨ mR h b k ≠ n := fun b k hb => (r5 b k hb).imp id (fun z e => z (by rw [e]; exact hn))
  have lt : ∀ b, own1 (mT h b) → ρ b < H.size := fun b hb => (r1 b hb).2.lt
  refine ⟨fun b hb => ?_, fun b hb => ?_, fun b hb => ?_, fun a b ha hb hab => ?_, fun b k hb => ?_⟩
  · by_cases e : b = n
    · subst e; rw [us]; exact ⟨hbs, hat⟩
    · rw [hT b e] at hb
      rw [up b e]
      refine ⟨(r1 b hb).1, ?_⟩
      rw [en_congr (hT b e) (hN b e) (hI b e) (hJ b e) (hR b e), en_up (fun k => nn b k hb.1)]
      exact (r1 b hb).2.kept (oq _ (lt b hb))
  · have e : b ≠ n := fun z => by subst z; exact hn0.2.1 hb
    rw [hT b e] at hb
    rw [up b e, hN b e, hI b e]
    exact ⟨(r2 b hb).1, (r2 b hb).2.kept (oq _ (by have := (r2 b hb).1; omega))⟩
  · have e : b ≠ n := fun z => by subst z; exact hn0.2.2 hb
    rw [hT b e] at hb
    rw [up b e, hN b e]
    refine (r3 b hb).imp id fun hx => ?_
    obtain ⟨hl, scr, q1, q2⟩ := hx
    exact ⟨hl, scr, by rw [oq _ (by omega)]; exact q1, q2⟩
  · by_cases e1 : a = n
    · by_cases e2 : b = n
      · rw [e1, e2]
      · rw [hT b e2] at hb
        rw [e1, us, up b e2] at hab
        have := lt b hb; omega
    · rw [hT a e1] at ha
      by_cases e2 : b = n
      · rw [e2, us, up a e1] at hab
        have := lt a ha; omega
      · rw [hT b e2] at hb
        rw [up a e1, up b e2] at hab
        exact r4 a b ha hb hab
  · by_cases e : b = n
    · subst e; exact Or.inl (hR0 k)
    · rw [hT b e] at hb
      rw [hR b e]
      rcases r5 b k hb with z | z
      · exact Or.inl z
      · have : mR h b k ≠ n := fun y => z (by rw [y]; exact hn)
        exact Or.inr (by rw [hT _ this]; exact z)
theorem rv_up {h : PM} {ρ : Nat → Nat} {n q : Nat} (hn : mT h n = 0) {v : Value} (hv : okv h v) : rv (va_up ρ n q) v = rv ρ v := by
  cases v with
  | ref a =>
    have : a ≠ n := fun e => hv (by rw [e]; exact hn)
    simp [rv, va_up, this]
  | _ => rfl
theorem rvS_up {h : PM} {ρ : Nat → Nat} {n q : Nat} (hn : mT h n = 0) {st : List Value} (hv : okS h st) : st.map (rv (va_up ρ n q)) = st.map (rv ρ) := by
  induction st with
  | nil => rfl
  | cons v t ih => rw [List.map_cons, List.map_cons, rv_up hn hv.1, ih hv.2]
theorem mp_up {h : PM} {ρ : Nat → Nat} {n q : Nat} (hn : mT h n = 0) {ls : List (Nat × Value)} (hv : okL h ls) : mp (va_up ρ n q) ls = mp ρ ls := by
  induction ls with
  | nil => rfl
  | cons v t ih =>
    have := ih hv.2
    simp only [mp, List.map_cons] at this ⊢
    rw [rv_up hn hv.1, this]
theorem okv_mono {h h' : PM} (hm : ∀ a, mT h a ≠ 0 → mT h' a ≠ 0) {v : Value} (hv : okv h v) : okv h' v := by
  cases v with
  | ref a => exact hm a hv
  | _ => trivial
theorem okS_mono {h h' : PM} (hm : ∀ a, mT h a ≠ 0 → mT h' a ≠ 0) {st : List Value} (hv : okS h st) : okS h' st := by
  induction st with
  | nil => trivial
  | cons v t ih => exact ⟨okv_mono hm hv.1, ih hv.2⟩
theorem okL_mono {h h' : PM} (hm : ∀ a, mT h a ≠ 0 → mT h' a ≠ 0) {ls : List (Nat × Value)} (hv : okL h ls) : okL h' ls := by
  induction ls with
  | nil => trivial
  | cons v t ih => exact ⟨okv_mono hm hv.1, ih hv.2⟩
/-! ===== the classes ===== -/
def rty (t : FieldType) : Bool := match t with
  | .object _ => true
  | .array _ => true
  | _ => false
theorem rty_ok {t : FieldType} (h : rty t = true) (a : Nat) : narrow t (.ref a) = .ref a ∧ fits t (.ref a) = true ∧ defaultValue t = .null := by
  cases t <;> first | exact ⟨rfl, rfl, rfl⟩ | cases h
def Cls (ci : Nat) (Cn : String) (T : u_T) (N : Nat) : Prop :=
  vwCl[ci]? = some (Cn, T, N) ∧ (∀ w ∈ u_ws Cn T N, w ∈ gw) ∧ (∃ ty : Nat → FieldType, (∀ k, k < N → parseFieldDescriptor (T k).2.2.1 = some (ty k)) ∧ ∀ k, k < N → (fk ci k = 0 → ty k = .int) ∧ (fk ci k = 1 → ty k = .boolean) ∧ (fk ci k = 2 → rty (ty k) = true)) ∧ (∀ a, a < N → ∀ b, b < N → a ≠ b → (T a).2.1 ≠ (T b).2.1) ∧ nF ci = N ∧ ci < 14 ∧ (∀ k, fk ci k ≤ 2)
theorem cls_0 : Cls 0 RJx4a65c TJx4a65c 3 := ⟨rfl, g_inJx4a65c, ⟨tyJx4a65c, tyJx4a65c_ok, fun k hk => by revert k; decide +kernel⟩, nmJx4a65c, by decide +kernel, by decide, fun k => by
  by_cases hk : k < 3
  · revert k; decide +kernel
  · have : fk 0 k = 0 := by
      unfold fk fkL
      simp [List.getD]
      rw [List.getElem?_eq_none (by simp; omega)]
      rfl
    omega⟩
theorem cls_1 : Cls 1 RX0 TX0 8 := ⟨rfl, g_inX0, ⟨tyX0, tyX0_ok, fun k hk => by revert k; decide +kernel⟩, nmX0, by decide +kernel, by decide, fun k => by
  by_cases hk : k < 8
  · revert k; decide +kernel
  · have : fk 1 k = 0 := by
      unfold fk fkL
      simp [List.getD]
      rw [List.getElem?_eq_none (by simp; omega)]
      rfl
    omega⟩
theorem cls_2 : Cls 2 RX1 TX1 8 := ⟨rfl, g_inX1, ⟨tyX1, tyX1_ok, fun k hk => by revert k; decide +kernel⟩, nmX1, by decide +kernel, by decide, fun k => by
  by_cases hk : k < 8
  · revert k; decide +kernel
  · have : fk 2 k = 0 := by
      unfold fk fkL
      simp [List.getD]
      rw [List.getElem?_eq_none (by simp; omega)]
      rfl
    omega⟩
theorem cls_3 : Cls 3 RX2 TX2 4 := ⟨rfl, g_inX2, ⟨tyX2, tyX2_ok, fun k hk => by revert k; decide +kernel⟩, nmX2, by decide +kernel, by decide, fun k => by
  by_cases hk : k < 4
  · revert k; decide +kernel
  · have : fk 3 k = 0 := by
      unfold fk fkL
      simp [List.getD]
      rw [List.getElem?_eq_none (by simp; omega)]
      rfl
    omega⟩
theorem cls_4 : Cls 4 RX3 TX3 5 := ⟨rfl, g_inX3, ⟨tyX3, tyX3_ok, fun k hk => by revert k; decide +kernel⟩, nmX3, by decide +kernel, by decide, fun k => by
  by_cases hk : k < 5
  · revert k; decide +kernel
  · have : fk 4 k = 0 := by
      unfold fk fkL
      simp [List.getD]
      rw [List.getElem?_eq_none (by simp; omega)]
      rfl
    omega⟩
theorem cls_5 : Cls 5 RX4 TX4 4 := ⟨rfl, g_inX4, ⟨tyX4, tyX4_ok, fun k hk => by revert k; decide +kernel⟩, nmX4, by decide +kernel, by decide, fun k => by
  by_cases hk : k < 4
  · revert k; decide +kernel
  · have : fk 5 k = 0 := by
      unfold fk fkL
      simp [List.getD]
      rw [List.getElem?_eq_none (by simp; omega)]
      rfl
    omega⟩
theorem cls_6 : Cls 6 RX5 TX5 3 := ⟨rfl, g_inX5, ⟨tyX5, tyX5_ok, fun k hk => by revert k; decide +kernel⟩, nmX5, by decide +kernel, by decide, fun k => by
  by_cases hk : k < 3
  · revert k; decide +kernel
  · have : fk 6 k = 0 := by
      unfold fk fkL
      simp [List.getD]
      rw [List.getElem?_eq_none (by simp; omega)]
      rfl
    omega⟩
theorem cls_7 : Cls 7 RX6 TX6 8 := ⟨rfl, g_inX6, ⟨tyX6, tyX6_ok, fun k hk => by revert k; decide +kernel⟩, nmX6, by decide +kernel, by decide, fun k => by
  by_cases hk : k < 8
  · revert k; decide +kernel
  · have : fk 7 k = 0 := by
      unfold fk fkL
      simp [List.getD]
      rw [List.getElem?_eq_none (by simp; omega)]
      rfl
    omega⟩
theorem cls_8 : Cls 8 RX7 TX7 4 := ⟨rfl, g_inX7, ⟨tyX7, tyX7_ok, fun k hk => by revert k; decide +kernel⟩, nmX7, by decide +kernel, by decide, fun k => by
  by_cases hk : k < 4
  · revert k; decide +kernel
  · have : fk 8 k = 0 := by
      unfold fk fkL
      simp [List.getD]
      rw [List.getElem?_eq_none (by simp; omega)]
      rfl
    omega⟩
theorem cls_9 : Cls 9 RX8 TX8 13 := ⟨rfl, g_inX8, ⟨tyX8, tyX8_ok, fun k hk => by revert k; decide +kernel⟩, nmX8, by decide +kernel, by decide, fun k => by
  by_cases hk : k < 13
  · revert k; decide +kernel
  · have : fk 9 k = 0 := by
      unfold fk fkL
      simp [List.getD]
      rw [List.getElem?_eq_none (by simp; omega)]
      rfl
    omega⟩
theorem cls_10 : Cls 10 RX9 TX9 9 := ⟨rfl, g_inX9, ⟨tyX9, tyX9_ok, fun k hk => by revert k; decide +kernel⟩, nmX9, by decide +kernel, by decide, fun k => by
  by_cases hk : k < 9
  · revert k; decide +kernel
  · have : fk 10 k = 0 := by
      unfold fk fkL
      simp [List.getD]
      rw [List.getElem?_eq_none (by simp; omega)]
      rfl
    omega⟩
theorem cls_11 : Cls 11 RX10 TX10 3 := ⟨rfl, g_inX10, ⟨tyX10, tyX10_ok, fun k hk => by revert k; decide +kernel⟩, nmX10, by decide +kernel, by decide, fun k => by
  by_cases hk : k < 3
  · revert k; decide +kernel
  · have : fk 11 k = 0 := by
      unfold fk fkL
      simp [List.getD]
      rw [List.getElem?_eq_none (by simp; omega)]
      rfl
    omega⟩
theorem cls_12 : Cls 12 RX11 TX11 10 := ⟨rfl, g_inX11, ⟨tyX11, tyX11_ok, fun k hk => by revert k; decide +kernel⟩, nmX11, by decide +kernel, by decide, fun k => by
  by_cases hk : k < 10
  · revert k; decide +kernel
  · have : fk 12 k = 0 := by
      unfold fk fkL
      simp [List.getD]
      rw [List.getElem?_eq_none (by simp; omega)]
      rfl
    omega⟩
theorem cls_13 : Cls 13 RX12 TX12 58 := ⟨rfl, g_inX12, ⟨tyX12, tyX12_ok, fun k hk => by revert k; decide +kernel⟩, nmX12, by decide +kernel, by decide, fun k => by
  by_cases hk : k < 58
  · revert k; decide +kernel
  · have : fk 13 k = 0 := by
      unfold fk fkL
      simp [List.getD]
      rw [List.getElem?_eq_none (by simp; omega)]
      rfl
    omega⟩
