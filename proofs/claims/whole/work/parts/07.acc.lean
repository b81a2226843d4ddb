/-! ===== reading and writing: the combinators of the pure programs, and a rule for each ===== -/
section CMB
variable {β : Type}
def gI (h : PM) (a c k : Nat) (f : Int32 → Option β) : Option β := if mT h a = c + 1 then f (mI h a k) else none
def gR (h : PM) (a c k : Nat) (f : Nat → Option β) : Option β := if mT h a = c + 1 ∧ mR h a k ≠ 0 then f (mR h a k) else none
def pI (h : PM) (a c k : Nat) (v : Int32) (f : PM → Option β) : Option β := if mT h a = c + 1 then f (setI h a k v) else none
def pZ (h : PM) (a c k : Nat) (v : Int32) (f : PM → Option β) : Option β := if mT h a = c + 1 ∧ (v = 0 ∨ v = 1) then f (setI h a k v) else none
def pR (h : PM) (a c k r : Nat) (f : PM → Option β) : Option β := if mT h a = c + 1 ∧ mT h r ≠ 0 ∧ r ≠ 0 then f (setR h a k r) else none
def aI (h : PM) (a : Nat) (i : Int32) (f : Int32 → Option β) : Option β := if mT h a = 20 ∧ ¬ (i < 0 ∨ mN h a ≤ i.toNatClampNeg) then f (mI h a i.toNatClampNeg) else none
def aS (h : PM) (a : Nat) (i : Int32) (f : Int32 → Option β) : Option β := if mT h a = 23 ∧ ¬ (i < 0 ∨ mN h a ≤ i.toNatClampNeg) then f (mI h a i.toNatClampNeg) else none
def aZ (h : PM) (a : Nat) (i : Int32) (f : Int32 → Option β) : Option β := if mT h a = 22 ∧ ¬ (i < 0 ∨ mN h a ≤ i.toNatClampNeg) then f (mI h a i.toNatClampNeg) else none
def aJ (h : PM) (a : Nat) (i : Int32) (f : Int64 → Option β) : Option β := if mT h a = 21 ∧ ¬ (i < 0 ∨ mN h a ≤ i.toNatClampNeg) then f (mJ h a i.toNatClampNeg) else none
def aR (h : PM) (a : Nat) (i : Int32) (f : Nat → Option β) : Option β := if (mT h a = 24 ∨ mT h a = 25 ∨ mT h a = 26) ∧ ¬ (i < 0 ∨ mN h a ≤ i.toNatClampNeg) ∧ mR h a i.toNatClampNeg ≠ 0 then f (mR h a i.toNatClampNeg) else none
def sI (h : PM) (a : Nat) (i v : Int32) (f : PM → Option β) : Option β := if mT h a = 20 ∧ ¬ (i < 0 ∨ mN h a ≤ i.toNatClampNeg) then f (setI h a i.toNatClampNeg v) else none
def sZ (h : PM) (a : Nat) (i v : Int32) (f : PM → Option β) : Option β := if (mT h a = 22 ∧ ¬ (i < 0 ∨ mN h a ≤ i.toNatClampNeg)) ∧ (v = 0 ∨ v = 1) then f (setI h a i.toNatClampNeg v) else none
def sJ (h : PM) (a : Nat) (i : Int32) (v : Int64) (f : PM → Option β) : Option β := if mT h a = 21 ∧ ¬ (i < 0 ∨ mN h a ≤ i.toNatClampNeg) then f (setJ h a i.toNatClampNeg v) else none
def ln (h : PM) (a : Nat) (f : Int32 → Option β) : Option β := if 20 ≤ mT h a ∧ mT h a ≤ 27 ∧ mN h a ≠ 77 then f (Int32.ofNat (mN h a)) else none
end CMB
theorem okL_T {h h' : PM} {ls : List (Nat × Value)} (hT : mT h' = mT h) (ho : okL h ls) : okL h' ls := okL_mono (fun a z => by rw [hT]; exact z) ho
theorem okS_T {h h' : PM} {st : List Value} (hT : mT h' = mT h) (ho : okS h st) : okS h' st := okS_mono (fun a z => by rw [hT]; exact z) ho
theorem ite_some {β : Type} {c : Prop} [Decidable c] {f : Option β} {X : β} (h : (if c then f else none) = some X) : c ∧ f = some X := by
  by_cases q : c
  · rw [if_pos q] at h; exact ⟨q, h⟩
  · rw [if_neg q] at h; cases h
theorem en_obj {cy : Nat → ClassId} {ρ : Nat → Nat} {h : PM} {a ci N : Nat} (ht : mT h a = ci + 1) (hc : ci < 14) (hN : nF ci = N) : en cy ρ h a = .inr (ci, (List.range N).map (fv ρ h ci a)) := by
  subst hN
  simp only [en, ht, Nat.add_sub_cancel]
  rw [if_pos (by omega)]
theorem en_arr {cy : Nat → ClassId} {ρ : Nat → Nat} {h : PM} {a t : Nat} (ht : mT h a = t) (hc : 20 ≤ t) : en cy ρ h a = .inl (cy t, mN h a, co ρ h t a) := by
  simp only [en, ht]
  rw [if_neg (by omega)]
theorem fs_at {ρ : Nat → Nat} {h : PM} {c a N k : Nat} (hk : k < N) : ((List.range N).map (fv ρ h c a))[k]? = some (fv ρ h c a k) := by simp [hk]
theorem fs_len {ρ : Nat → Nat} {h : PM} {c a N : Nat} : ((List.range N).map (fv ρ h c a)).length = N := by simp
theorem fs_set {ρ : Nat → Nat} {h h' : PM} {c a N k : Nat} {v : Value} (hv : fv ρ h' c a k = v) (ho : ∀ j, j ≠ k → fv ρ h' c a j = fv ρ h c a j) : ((List.range N).map (fv ρ h c a)).set k v = (List.range N).map (fv ρ h' c a) := by
  apply List.ext_getElem?
  intro j
  by_cases hj : j < N
  · by_cases e : j = k
    · subst e
      rw [List.getElem?_set_self (by simp [hj])]
      simp [hj, hv]
    · rw [List.getElem?_set_ne (Ne.symm e)]
      simp [hj, ho j e]
  · rw [List.getElem?_eq_none (by simp; omega), List.getElem?_eq_none (by simp; omega)]
section ACC
variable {p : Program} {l : Launch} {e : Env} {R : Room} {s : State} {m : MethodId} {args : Array Value} {below : List Frame} {meth : Method} {c : Code}
variable {D : va_G} {cy : Nat → ClassId} {base : Nat} {ρ0 : Nat → Nat} {h0 : PM} {cs ss MC MS DP nL : Nat} {Q : State → Prop}
variable {cc : ByteArray} {own ref : String} {pc : Nat} {ls ls' : List (Nat × Value)} {st : List Value} {h : PM} {β : Type} {X : β}
variable {ci ix k a N : Nat} {Cn : String} {T : u_T}
theorem own_obj (hc : ci < 14) (ht : mT h a = ci + 1) : own1 (mT h a) := ⟨by omega, by omega, by omega⟩
theorem SH.put {ρ : Nat → Nat} {H H1 : Heap} {locs : List Loc} {cells slots : Nat} {h' : PM} {j : Nat} (h1 : SH D cy base s ρ0 h0 cs ss ρ H locs cells slots h) (ha : own1 (mT h a)) (hz : H1.size = H.size) (oq : ∀ q : Nat, q ≠ ρ a → H1[q]? = H[q]?) (hr : Rep D cy base ρ h' s H1) (hT : mT h' = mT h) : SH D cy base s ρ0 h0 cs ss ρ H1 (locs ++ [⟨ρ a, j⟩]) cells slots h' :=
  ⟨hr, h1.2.1.put hz oq (h1.1.1 a ha).1, h1.2.2.1, by rw [hT]; exact h1.2.2.2.1, h1.2.2.2.2⟩
theorem r_getI {f : Int32 → Option β} (C : Cx p R s m args meth c D cy MC MS DP cc nL own) (d : decode cc pc = .ok (.getfield ix, 3)) (K : Cls ci Cn T N) (hk : k < N) (hf : fk ci k ≠ 2) (hl : Cond.fieldLink own ix ref (T k).2.1 (T k).2.2.1 ∈ gw) (hsame : ∀ x, s.fieldFound? (T k).1 (T k).2.1 (T k).2.2.1 = some x → s.fieldFound? ref (T k).2.1 (T k).2.2.1 = some x)
    (hF : gI h a ci k f = some X) (kk : f (mI h a k) = some X → WP p l e R s m args below meth c D cy base ρ0 h0 cs ss nL Q (pc + 3) ls (.int (mI h a k) :: st) h) : WP p l e R s m args below meth c D cy base ρ0 h0 cs ss nL Q pc ls (.ref a :: st) h := by
  intro ρ H locs cells slots la h1 h2 h3 h4
  obtain ⟨ht, hF⟩ := ite_some hF
  have hat := (h1.1.1 a (own_obj K.2.2.2.2.2.1 ht)).2
  rw [en_obj ht K.2.2.2.2.2.1 K.2.2.2.2.1] at hat
  refine va_get (D := D) (cl := vwCl) (ws := [(ρ a, .inr (ci, (List.range N).map (fv ρ h ci a)))]) C.1.1 C.1.2.1 C.1.2.2.2.2 K.2.1 C.1.2.2.2.1 C.2.1 (fun q z hz => ?_) 0 rfl K.1 k hk (C.1.2.2.2.2 _ hl) hsame (v := .int (mI h a k)) ?_ d (kk hF ρ H locs cells slots la h1 h2 h3 ⟨trivial, h4.2⟩)
  · have hq : q < 1 := (List.getElem?_eq_some_iff.mp hz).1
    rw [show q = 0 by omega] at hz
    cases hz
    exact hat
  · rw [fs_at hk]
    simp [fv, hf]
theorem r_getR {f : Nat → Option β} (C : Cx p R s m args meth c D cy MC MS DP cc nL own) (d : decode cc pc = .ok (.getfield ix, 3)) (K : Cls ci Cn T N) (hk : k < N) (hf : fk ci k = 2) (hl : Cond.fieldLink own ix ref (T k).2.1 (T k).2.2.1 ∈ gw) (hsame : ∀ x, s.fieldFound? (T k).1 (T k).2.1 (T k).2.2.1 = some x → s.fieldFound? ref (T k).2.1 (T k).2.2.1 = some x)
    (hF : gR h a ci k f = some X) (kk : f (mR h a k) = some X → WP p l e R s m args below meth c D cy base ρ0 h0 cs ss nL Q (pc + 3) ls (.ref (mR h a k) :: st) h) : WP p l e R s m args below meth c D cy base ρ0 h0 cs ss nL Q pc ls (.ref a :: st) h := by
  intro ρ H locs cells slots la h1 h2 h3 h4
  obtain ⟨⟨ht, hr0⟩, hF⟩ := ite_some hF
  have hat := (h1.1.1 a (own_obj K.2.2.2.2.2.1 ht)).2
  rw [en_obj ht K.2.2.2.2.2.1 K.2.2.2.2.1] at hat
  refine va_get (D := D) (cl := vwCl) (ws := [(ρ a, .inr (ci, (List.range N).map (fv ρ h ci a)))]) C.1.1 C.1.2.1 C.1.2.2.2.2 K.2.1 C.1.2.2.2.1 C.2.1 (fun q z hz => ?_) 0 rfl K.1 k hk (C.1.2.2.2.2 _ hl) hsame (v := .ref (ρ (mR h a k))) ?_ d (kk hF ρ H locs cells slots la h1 h2 h3 ⟨(h1.1.2.2.2.2 a k (by omega)).resolve_left hr0, h4.2⟩)
  · have hq : q < 1 := (List.getElem?_eq_some_iff.mp hz).1
    rw [show q = 0 by omega] at hz
    cases hz
    exact hat
  · rw [fs_at hk]
    simp [fv, hf, rn, hr0, va_rf]
/-- a field is written: what the machine does with it -/
theorem put_gen {H : Heap} {locs : List Loc} {cells slots : Nat} {la : Array Slot} {rest : List Value} {A : Nat} {fs : List Value} {v : Value} {ty : FieldType} (C : Cx p R s m args meth c D cy MC MS DP cc nL own) (d : decode cc pc = .ok (.putfield ix, 3)) (K : Cls ci Cn T N) (hk : k < N) (hl : Cond.fieldLink own ix ref (T k).2.1 (T k).2.2.1 ∈ gw) (hsame : ∀ x, s.fieldFound? (T k).1 (T k).2.1 (T k).2.2.1 = some x → s.fieldFound? ref (T k).2.1 (T k).2.2.1 = some x)
    (hfin : (T k).2.2.2 = false ∨ ((T k).2.2.2 = true ∧ meth.name = "<init>" ∧ (T k).1 = own)) (hd : parseFieldDescriptor (T k).2.2.1 = some ty) (hn : narrow ty v = v) (hfit : fits ty v = true) (hat : va_at D vwCl (A, .inr (ci, fs)) H) (hlen : k < fs.length)
    (kk : ∀ (H1 : Heap) (j : Nat), va_at D vwCl (A, .inr (ci, fs.set k v)) H1 → H1.size = H.size → (∀ q : Nat, q ≠ A → H1[q]? = H[q]?) → W p l e R s m args below meth c H1 (locs ++ [⟨A, j⟩]) cells slots Q (F0 m (pc + 3) la rest)) :
    W p l e R s m args below meth c H locs cells slots Q (F0 m pc la (v :: .ref A :: rest)) := by
  obtain ⟨hc, hin, ⟨ty0, hty, -⟩, hnm, -, -, -⟩ := K
  have hts := C.1.2.2.2.2
  have hown := C.1.2.2.2.1
  have hlink := hts _ hl
  have hK := C.2.1
  have hap := va_apart (own := own) hts hin ty0 hty hnm hK hc
  obtain ⟨r, h1, cell, q1, q2, q3, q4⟩ := hat
  have hr : r = (Cn, T, N) := Option.some.inj (h1.symm.trans hc)
  subst hr
  obtain ⟨hS, hfc, kC, hkC, hkind⟩ := hK.1 ci _ hc
  obtain ⟨cf, kf, fi, f, hi, hsl⟩ := hS k hk
  have hlay := hts _ (hin _ (u_in_lay hk))
  have hst := (u_facts hfc hkC (u_lays hts hin hk) hi).1
  unfold u_lay at hlay
  have fin : ∀ H' : Heap, H'[A]? = some (cell.setSlot f.slot v) → H'.size = H.size → (∀ q, q ≠ A → H'[q]? = H[q]?) → W p l e R s m args below meth c H' (locs ++ [⟨A, f.slot⟩]) cells slots Q (F0 m (pc + 3) la rest) := by
    intro H' e1 e2 e3
    refine kk H' f.slot ⟨_, hc, t_OB.to (V := updV (vp_V fs) k v) ⟨_, e1, q2, q3, ?_⟩ (fun j _ => vp_updV_set hlen v j)⟩ e2 e3
    rw [hsl]
    exact t_set q4 hap hk v
  rcases hfin with hfin | ⟨hfin, hin2, hdecl⟩
  · rw [if_neg (by rw [hfin]; decide)] at hlay
    have h6 := u_store hfc hkC hkind hlay hi hd hn hfit
    exact W.putK C.1.1 C.1.2.1 (f := f) ⟨hown, hlink, ⟨_, _, _, hsame _ hi⟩, hst⟩ (by rw [q2]; exact h6) q1 q3 (by rw [hsl]; exact k2_hasslot (q4 k hk)) rfl rfl d fin
  · rw [if_pos hfin] at hlay
    have hcf : m.cls = cf := by
      obtain ⟨_, _, c', _, _, _, -, -, hf', -, -, -, hown2, -⟩ := Cond.laysFinal_spec hlay
      have e1 : c' = cf := by have := hi.symm.trans hf'; simp at this; exact this.1.symm
      rw [hdecl] at hown2
      rw [← e1]; exact Option.some.inj (hown.symm.trans hown2)
    have h6 := u_fits hfc hkC hkind (Or.inr hlay) hi hd hn hfit
    exact W.putFinK C.1.1 C.1.2.1 hown hlink (hsame _ hi) hst hcf hin2 (by rw [q2]; exact h6) q1 q3 (by rw [hsl]; exact k2_hasslot (q4 k hk)) rfl rfl d fin
theorem rep_setI {ρ : Nat → Nat} {U : State} {H H1 : Heap} {v : Int32} (hr : Rep D cy base ρ h U H) (ha : own1 (mT h a)) (oq : ∀ q : Nat, q ≠ ρ a → H1[q]? = H[q]?) (hat : va_at D vwCl (ρ a, en cy ρ (setI h a k v) a) H1) : Rep D cy base ρ (setI h a k v) U H1 :=
  hr.set (h' := setI h a k v) ha rfl rfl (fun b hb => u2_ne hb) (fun _ _ => rfl) (fun _ _ => rfl) hat oq (fun j => hr.2.2.2.2 a j ha.1)
theorem rep_setJ {ρ : Nat → Nat} {U : State} {H H1 : Heap} {v : Int64} (hr : Rep D cy base ρ h U H) (ha : own1 (mT h a)) (oq : ∀ q : Nat, q ≠ ρ a → H1[q]? = H[q]?) (hat : va_at D vwCl (ρ a, en cy ρ (setJ h a k v) a) H1) : Rep D cy base ρ (setJ h a k v) U H1 :=
  hr.set (h' := setJ h a k v) ha rfl rfl (fun _ _ => rfl) (fun b hb => u2_ne hb) (fun _ _ => rfl) hat oq (fun j => hr.2.2.2.2 a j ha.1)
theorem rep_setR {ρ : Nat → Nat} {U : State} {H H1 : Heap} {v : Nat} (hr : Rep D cy base ρ h U H) (ha : own1 (mT h a)) (hv : mT h v ≠ 0) (oq : ∀ q : Nat, q ≠ ρ a → H1[q]? = H[q]?) (hat : va_at D vwCl (ρ a, en cy ρ (setR h a k v) a) H1) : Rep D cy base ρ (setR h a k v) U H1 :=
  hr.set (h' := setR h a k v) ha rfl rfl (fun _ _ => rfl) (fun _ _ => rfl) (fun b hb => u2_ne hb) hat oq (fun j => by
    have e0 : mR (setR h a k v) a j = if j = k then v else mR h a j := congrFun (u2_self (f := mR h)) j
    rw [e0]
    show (if j = k then v else mR h a j) = 0 ∨ mT h (if j = k then v else mR h a j) ≠ 0
    by_cases e : j = k
    · rw [if_pos e]; exact Or.inr hv
    · rw [if_neg e]; exact hr.2.2.2.2 a j ha.1)
theorem r_putI {f : PM → Option β} {v : Int32} (C : Cx p R s m args meth c D cy MC MS DP cc nL own) (d : decode cc pc = .ok (.putfield ix, 3)) (K : Cls ci Cn T N) (hk : k < N) (hf : fk ci k = 0) (hl : Cond.fieldLink own ix ref (T k).2.1 (T k).2.2.1 ∈ gw) (hsame : ∀ x, s.fieldFound? (T k).1 (T k).2.1 (T k).2.2.1 = some x → s.fieldFound? ref (T k).2.1 (T k).2.2.1 = some x)
    (hfin : (T k).2.2.2 = false ∨ ((T k).2.2.2 = true ∧ meth.name = "<init>" ∧ (T k).1 = own))
    (hF : pI h a ci k v f = some X) (kk : f (setI h a k v) = some X → WP p l e R s m args below meth c D cy base ρ0 h0 cs ss nL Q (pc + 3) ls st (setI h a k v)) : WP p l e R s m args below meth c D cy base ρ0 h0 cs ss nL Q pc ls (.int v :: .ref a :: st) h := by
  intro ρ H locs cells slots la h1 h2 h3 h4
  obtain ⟨ht, hF⟩ := ite_some hF
  have ha : own1 (mT h a) := own_obj K.2.2.2.2.2.1 ht
  have hat := (h1.1.1 a ha).2
  rw [en_obj ht K.2.2.2.2.2.1 K.2.2.2.2.1] at hat
  obtain ⟨ty0, hty, hkd⟩ := K.2.2.1
  refine put_gen (v := .int v) C d K hk hl hsame hfin (hty k hk) (by rw [(hkd k hk).1 hf]; rfl) (by rw [(hkd k hk).1 hf]; rfl) hat (by rw [fs_len]; exact hk) (fun H1 j e1 e2 e3 => ?_)
  rw [fs_set (h' := setI h a k v) (by simp [fv, hf, setI, mI, u2]) (fun j hj => by simp [fv, setI, mI, mR, u2, hj]), ← en_obj (h := setI h a k v) (cy := cy) ht K.2.2.2.2.2.1 K.2.2.2.2.1] at e1
  exact kk hF ρ H1 _ cells slots la (h1.put ha e2 e3 (rep_setI h1.1 ha e3 e1) rfl) h2 (okL_T (h := h) rfl h3) (okS_T (h := h) rfl h4.2.2)
theorem r_putZ {f : PM → Option β} {v : Int32} (C : Cx p R s m args meth c D cy MC MS DP cc nL own) (d : decode cc pc = .ok (.putfield ix, 3)) (K : Cls ci Cn T N) (hk : k < N) (hf : fk ci k = 1) (hl : Cond.fieldLink own ix ref (T k).2.1 (T k).2.2.1 ∈ gw) (hsame : ∀ x, s.fieldFound? (T k).1 (T k).2.1 (T k).2.2.1 = some x → s.fieldFound? ref (T k).2.1 (T k).2.2.1 = some x)
    (hfin : (T k).2.2.2 = false ∨ ((T k).2.2.2 = true ∧ meth.name = "<init>" ∧ (T k).1 = own))
    (hF : pZ h a ci k v f = some X) (kk : f (setI h a k v) = some X → WP p l e R s m args below meth c D cy base ρ0 h0 cs ss nL Q (pc + 3) ls st (setI h a k v)) : WP p l e R s m args below meth c D cy base ρ0 h0 cs ss nL Q pc ls (.int v :: .ref a :: st) h := by
  intro ρ H locs cells slots la h1 h2 h3 h4
  obtain ⟨⟨ht, hv⟩, hF⟩ := ite_some hF
  have ha : own1 (mT h a) := own_obj K.2.2.2.2.2.1 ht
  have hat := (h1.1.1 a ha).2
  rw [en_obj ht K.2.2.2.2.2.1 K.2.2.2.2.1] at hat
  obtain ⟨ty0, hty, hkd⟩ := K.2.2.1
  refine put_gen (v := .int v) C d K hk hl hsame hfin (hty k hk) (by rw [(hkd k hk).2.1 hf]; rcases hv with e | e <;> subst e <;> decide) (by rw [(hkd k hk).2.1 hf]; rcases hv with e | e <;> subst e <;> decide) hat (by rw [fs_len]; exact hk) (fun H1 j e1 e2 e3 => ?_)
  rw [fs_set (h' := setI h a k v) (by simp [fv, hf, setI, mI, u2]) (fun j hj => by simp [fv, setI, mI, mR, u2, hj]), ← en_obj (h := setI h a k v) (cy := cy) ht K.2.2.2.2.2.1 K.2.2.2.2.1] at e1
  exact kk hF ρ H1 _ cells slots la (h1.put ha e2 e3 (rep_setI h1.1 ha e3 e1) rfl) h2 (okL_T (h := h) rfl h3) (okS_T (h := h) rfl h4.2.2)
theorem r_putR {f : PM → Option β} {v : Nat} (C : Cx p R s m args meth c D cy MC MS DP cc nL own) (d : decode cc pc = .ok (.putfield ix, 3)) (K : Cls ci Cn T N) (hk : k < N) (hf : fk ci k = 2) (hl : Cond.fieldLink own ix ref (T k).2.1 (T k).2.2.1 ∈ gw) (hsame : ∀ x, s.fieldFound? (T k).1 (T k).2.1 (T k).2.2.1 = some x → s.fieldFound? ref (T k).2.1 (T k).2.2.1 = some x)
    (hfin : (T k).2.2.2 = false ∨ ((T k).2.2.2 = true ∧ meth.name = "<init>" ∧ (T k).1 = own))
    (hF : pR h a ci k v f = some X) (kk : f (setR h a k v) = some X → WP p l e R s m args below meth c D cy base ρ0 h0 cs ss nL Q (pc + 3) ls st (setR h a k v)) : WP p l e R s m args below meth c D cy base ρ0 h0 cs ss nL Q pc ls (.ref v :: .ref a :: st) h := by
  intro ρ H locs cells slots la h1 h2 h3 h4
  obtain ⟨⟨ht, hv, hv0⟩, hF⟩ := ite_some hF
  have ha : own1 (mT h a) := own_obj K.2.2.2.2.2.1 ht
  have hat := (h1.1.1 a ha).2
  rw [en_obj ht K.2.2.2.2.2.1 K.2.2.2.2.1] at hat
  obtain ⟨ty0, hty, hkd⟩ := K.2.2.1
  have hrt := rty_ok ((hkd k hk).2.2 hf) (ρ v)
  refine put_gen (v := .ref (ρ v)) C d K hk hl hsame hfin (hty k hk) hrt.1 hrt.2.1 hat (by rw [fs_len]; exact hk) (fun H1 j e1 e2 e3 => ?_)
  rw [fs_set (h' := setR h a k v) (by simp [fv, hf, setR, mR, u2, rn, hv0, va_rf]) (fun j hj => by simp [fv, setR, mI, mR, u2, hj]), ← en_obj (h := setR h a k v) (cy := cy) ht K.2.2.2.2.2.1 K.2.2.2.2.1] at e1
  exact kk hF ρ H1 _ cells slots la (h1.put ha e2 e3 (rep_setR h1.1 ha hv e3 e1) rfl) h2 (okL_T (h := h) rfl h3) (okS_T (h := h) rfl h4.2.2)
end ACC
