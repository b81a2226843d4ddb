/-! ===== still more rules ===== -/
theorem rX_inl {α : Type} {v : α → Option Value} {x : Nat ⊕ α} {k : Nat} (h : rX v x = .inl k) : x = .inl k := by
  cases x with
  | inl y => exact congrArg Sum.inl (Sum.inl.inj h)
  | inr y => cases h
theorem rX_inr {α : Type} {v : α → Option Value} {x : Nat ⊕ α} {w : Option Value} (h : rX v x = .inr w) : ∃ a, x = .inr a ∧ w = v a := by
  cases x with
  | inl y => cases h
  | inr y => exact ⟨y, rfl, (Sum.inr.inj h).symm⟩
def bnd {β : Type} (n : Int32) (N : Nat) (f : Option β) : Option β := if n.toNatClampNeg ≤ N then f else none
theorem bnd_some {β : Type} {n : Int32} {N : Nat} {f : Option β} {X : β} (h : bnd n N f = some X) : n.toNatClampNeg ≤ N ∧ f = some X := ite_some h
def FDs (own : String) (ix ci k : Nat) (ref : String) : Prop := ∃ (Cn : String) (T : u_T) (N : Nat), Cls ci Cn T N ∧ k < N ∧ Cond.fieldLink own ix ref (T k).2.1 (T k).2.2.1 ∈ gw ∧ (T k).2.2.2 = false ∧ Cond.sameField ref (T k).1 (T k).2.1 (T k).2.2.1 ∈ gw
def mx (x y : Int32) : Int32 := if x < y then y else x
def mn (x y : Int32) : Int32 := if y < x then y else x
def ab (x : Int32) : Int32 := if 0 ≤ x then x else 0 - x
def acg {β : Type} (h : PM) (x y : Nat) (f : Option β) : Option β := if x = y ∨ ((mT h x ≠ 0 ∧ mT h x ≠ 23 ∧ mT h x ≠ 27) ∧ ((mT h y ≠ 0 ∧ mT h y ≠ 23 ∧ mT h y ≠ 27) ∨ (mT h y = 27 ∧ mN h y ≠ 77))) then f else none
section CMB4
variable {β : Type}
def cpR (h : PM) (a0 : Nat) (sp : Int32) (a : Nat) (dp n : Int32) (f : PM → Option β) : Option β :=
  if ((mT h a0 = 25 ∧ mT h a = 25) ∧ a ≠ a0) ∧ ¬ sp < 0 ∧ ¬ dp < 0 ∧ ¬ n < 0 ∧ sp.toNatClampNeg + n.toNatClampNeg ≤ mN h a0 ∧ dp.toNatClampNeg + n.toNatClampNeg ≤ mN h a then
    (if (List.range n.toNatClampNeg).all (fun i => mR h a0 (sp.toNatClampNeg + i) == 0 || mT h (mR h a0 (sp.toNatClampNeg + i)) == 5 || mT h (mR h a0 (sp.toNatClampNeg + i)) == 8 || mT h (mR h a0 (sp.toNatClampNeg + i)) == 10) then f (setRowR h a (va_cpy (mR h a0) (mR h a) sp.toNatClampNeg dp.toNatClampNeg n.toNatClampNeg)) else none) else none
end CMB4
section RL3
variable {p : Program} {l : Launch} {e : Env} {R : Room} {s : State} {m : MethodId} {args : Array Value} {below : List Frame} {meth : Method} {c : Code}
variable {D : va_G} {cy : Nat → ClassId} {base : Nat} {ρ0 : Nat → Nat} {h0 : PM} {cs ss MC MS DP nL : Nat} {Q : State → Prop}
variable {cc : ByteArray} {own ref : String} {pc : Nat} {ls : List (Nat × Value)} {st : List Value} {h : PM} {β : Type} {X : β} {ci ix k a N : Nat} {Cn : String} {T : u_T}
theorem r_null (C : Cx p R s m args meth c D cy MC MS DP cc nL own) (d : decode cc pc = .ok (.aconst_null, 1)) (k : WP p l e R s m args below meth c D cy base ρ0 h0 cs ss nL Q (pc + 1) ls (.null :: st) h) : WP p l e R s m args below meth c D cy base ρ0 h0 cs ss nL Q pc ls st h := fun ρ H locs cells slots la h1 h2 h3 h4 => lv_null C.1.1 C.1.2.1 d (k ρ H locs cells slots la h1 h2 h3 ⟨trivial, h4⟩)
theorem acg_inj {ρ : Nat → Nat} {U : State} {H : Heap} {x y : Nat} (hr : Rep D cy base ρ h U H) (hg : x = y ∨ ((mT h x ≠ 0 ∧ mT h x ≠ 23 ∧ mT h x ≠ 27) ∧ ((mT h y ≠ 0 ∧ mT h y ≠ 23 ∧ mT h y ≠ 27) ∨ (mT h y = 27 ∧ mN h y ≠ 77)))) (q : ρ x = ρ y) : x = y := by
  obtain ⟨r1, r2, r3, r4, r5⟩ := hr
  rcases hg with e | ⟨hx, hy | hy⟩
  · exact e
  · exact r4 x y hx hy q
  · have a1 := (r1 x hx).1
    have a2 := ((r3 y hy.1).resolve_left hy.2).1
    omega
theorem r_acmp_eq {x y : Nat} {off : Int} {tgt : Nat} {f1 f2 : Option β} (C : Cx p R s m args meth c D cy MC MS DP cc nL own) (d : decode cc pc = .ok (.if_acmp .eq off, 3)) (ht : (pc : Int) + off = (tgt : Int)) (hF : acg h x y (if x = y then f1 else f2) = some X) (kt : f1 = some X → WP p l e R s m args below meth c D cy base ρ0 h0 cs ss nL Q tgt ls st h) (kf : f2 = some X → WP p l e R s m args below meth c D cy base ρ0 h0 cs ss nL Q (pc + 3) ls st h) : WP p l e R s m args below meth c D cy base ρ0 h0 cs ss nL Q pc ls (.ref y :: .ref x :: st) h := by
  intro ρ H locs cells slots la h1 h2 h3 h4
  obtain ⟨hg, hF⟩ := ite_some hF
  exact lv_acmp_eq (rx := some (ρ x)) (ry := some (ρ y)) C.1.1 C.1.2.1 d ht
    (fun q => kt (by rw [if_pos (acg_inj h1.1 hg (Option.some.inj q))] at hF; exact hF) ρ H locs cells slots la h1 h2 h3 h4.2.2)
    (fun q => kf (by rw [if_neg (fun z => q (by rw [z]))] at hF; exact hF) ρ H locs cells slots la h1 h2 h3 h4.2.2)
theorem r_acmp_ne {x y : Nat} {off : Int} {tgt : Nat} {f1 f2 : Option β} (C : Cx p R s m args meth c D cy MC MS DP cc nL own) (d : decode cc pc = .ok (.if_acmp .ne off, 3)) (ht : (pc : Int) + off = (tgt : Int)) (hF : acg h x y (if ¬ x = y then f1 else f2) = some X) (kt : f1 = some X → WP p l e R s m args below meth c D cy base ρ0 h0 cs ss nL Q tgt ls st h) (kf : f2 = some X → WP p l e R s m args below meth c D cy base ρ0 h0 cs ss nL Q (pc + 3) ls st h) : WP p l e R s m args below meth c D cy base ρ0 h0 cs ss nL Q pc ls (.ref y :: .ref x :: st) h := by
  intro ρ H locs cells slots la h1 h2 h3 h4
  obtain ⟨hg, hF⟩ := ite_some hF
  exact lv_acmp_ne (rx := some (ρ x)) (ry := some (ρ y)) C.1.1 C.1.2.1 d ht
    (fun q => kt (by rw [if_pos (fun z => q (by rw [z]))] at hF; exact hF) ρ H locs cells slots la h1 h2 h3 h4.2.2)
    (fun q => kf (by rw [if_neg (fun z => z (acg_inj h1.1 hg (Option.some.inj q)))] at hF; exact hF) ρ H locs cells slots la h1 h2 h3 h4.2.2)
theorem k_gIs {f : Int32 → Option β} (C : Cx p R s m args meth c D cy MC MS DP cc nL own) (d : decode cc pc = .ok (.getfield ix, 3)) (F : FDs own ix ci k ref) (hf : fk ci k ≠ 2) (hF : gI h a ci k f = some X) (kk : ∀ x, f x = some X → WP p l e R s m args below meth c D cy base ρ0 h0 cs ss nL Q (pc + 3) ls (.int x :: st) h) : WP p l e R s m args below meth c D cy base ρ0 h0 cs ss nL Q pc ls (.ref a :: st) h := by
  obtain ⟨Cn, T, N, K, hk, hl, -, hs⟩ := F
  exact r_getI C d K hk hf hl (fun x z => u_same (C.1.2.2.2.2 _ hs) x z) hF (kk _)
theorem k_pIs {f : PM → Option β} {v : Int32} (C : Cx p R s m args meth c D cy MC MS DP cc nL own) (d : decode cc pc = .ok (.putfield ix, 3)) (F : FDs own ix ci k ref) (hf : fk ci k = 0) (hF : pI h a ci k v f = some X) (kk : ∀ h', f h' = some X → WP p l e R s m args below meth c D cy base ρ0 h0 cs ss nL Q (pc + 3) ls st h') : WP p l e R s m args below meth c D cy base ρ0 h0 cs ss nL Q pc ls (.int v :: .ref a :: st) h := by
  obtain ⟨Cn, T, N, K, hk, hl, h1, hs⟩ := F
  exact r_putI C d K hk hf hl (fun x z => u_same (C.1.2.2.2.2 _ hs) x z) (Or.inl h1) hF (kk _)
theorem r_ldcM (C : Cx p R s m args meth c D cy MC MS DP cc nL own) (V : EV base ρ0 h0 s s.heap) (d : decode cc pc = .ok (.ldc ix, 2)) (hl : Cond.classLink own ix "[Ljava/lang/Object;" ∈ gw) (kk : WP p l e R s m args below meth c D cy base ρ0 h0 cs ss nL Q (pc + 2) ls (.ref 3 :: st) h) : WP p l e R s m args below meth c D cy base ρ0 h0 cs ss nL Q pc ls st h := by
  intro ρ H locs cells slots la h1 h2 h3 h4
  obtain ⟨q1, q2⟩ := h1.2.2.2.1 3 V.2.2.2.2.2.2.1.1
  have := kk ρ H locs cells slots la h1 h2 h3 ⟨q1, h4⟩
  have e0 : rv ρ (.ref 3) = .ref (ρ0 3) := by simp [rv, q2]
  rw [List.map_cons, e0] at this
  exact va_ldcM C.1.1 C.1.2.1 C.1.2.2.2.1 (C.1.2.2.2.2 _ hl) V.2.2.2.2.2.2.1.2 d this
def gcN : MethodName := ⟨"java/lang/Object", "getClass", "()Ljava/lang/Class;"⟩
def gC (h : PM) (a : Nat) (f : Option β) : Option β := if mT h a = 25 then f else none
theorem k_getC {f : Option β} (C : Cx p R s m args meth c D cy MC MS DP cc nL own) (V : EV base ρ0 h0 s s.heap) (d : decode cc pc = .ok (.invokevirtual ix, 3)) (hl : Cond.methodLink own ix gcN ∈ gw) (hse : Cond.selects "[Ljava/lang/Object;" gcN gcN ∈ gw) (hin : Cond.instanceMethod gcN ∈ gw) (hnt : Cond.native gcN ∈ gw) (hdp : 1 ≤ DP) (h8 : (st.map fun v => v.category).sum ≤ 8) (hF : gC h a f = some X) (kk : f = some X → WP p l e R s m args below meth c D cy base ρ0 h0 cs ss nL Q (pc + 3) ls (.ref 3 :: st) h) : WP p l e R s m args below meth c D cy base ρ0 h0 cs ss nL Q pc ls (.ref a :: st) h := by
  intro ρ H locs cells slots la h1 h2 h3 h4
  obtain ⟨ht, hF⟩ := ite_some hF
  obtain ⟨q1, q2⟩ := h1.2.2.2.1 3 V.2.2.2.2.2.2.1.1
  have := kk hF ρ H locs cells slots la h1 h2 h3 ⟨q1, h4.2⟩
  have e0 : rv ρ (.ref 3) = .ref (ρ0 3) := by simp [rv, q2]
  rw [List.map_cons, e0] at this
  have hts := C.1.2.2.2.2
  have hR := C.2.2.2
  have hat := at_arr h1.1 ht (by decide)
  have hfc : s.vm.findClass "[Ljava/lang/Object;" = some (cy 25) := va_nmO (C.2.1.2 4 _ rfl).2 (by decide)
  exact va_getC C.1.1 C.1.2.1 (by rw [C.1.2.2.1]; exact h2.1.symm) C.1.2.2.2.1 (hts _ hl) (va_Dc.use V.2.2.2.2.2.2.2) (hts _ hse) (hts _ hin) (hts _ hnt) V.2.2.2.2.2.2.1.2 ⟨_, hat, rfl, hfc⟩ (by omega) (by rw [cat_map]; omega) d this
theorem k_cpR {f : PM → Option β} {a0 : Nat} {sp dp n : Int32} (C : Cx p R s m args meth c D cy MC MS DP cc nL own) (V : EV base ρ0 h0 s s.heap) (hw5 : Cond.castable RX3 "java/lang/Object" ∈ nw) (hw8 : Cond.castable RX6 "java/lang/Object" ∈ nw) (hw10 : Cond.castable RX8 "java/lang/Object" ∈ nw) (d : decode cc pc = .ok (.invokestatic ix, 3)) (hl : Cond.methodLink own ix arraycopyName ∈ gw) (hnt : Cond.native arraycopyName ∈ gw) (hst : Cond.static arraycopyName ∈ gw) (hini : Cond.initialized "java/lang/System" ∈ gw) (hdp : 1 ≤ DP) (h8 : (st.map fun v => v.category).sum ≤ 8) (hF : cpR h a0 sp a dp n f = some X) (kk : ∀ h', f h' = some X → WP p l e R s m args below meth c D cy base ρ0 h0 cs ss nL Q (pc + 3) ls st h') : WP p l e R s m args below meth c D cy base ρ0 h0 cs ss nL Q pc ls (.int n :: .int dp :: .ref a :: .int sp :: .ref a0 :: st) h := by
  intro ρ H locs cells slots la h1 h2 h3 h4
  obtain ⟨⟨⟨⟨ht0, ht1⟩, hne⟩, q1, q2, q3, q4, q5⟩, hF⟩ := ite_some hF
  obtain ⟨hall, hF⟩ := ite_some hF
  have hts := C.1.2.2.2.2
  have hR := C.2.2.2
  obtain ⟨L, hin, hone, hP, hD⟩ := h1.1.world
  have o0 := own_arr ht0 (by decide)
  have o1 := own_arr ht1 (by decide)
  obtain ⟨k0, hk0⟩ := List.getElem?_of_mem ((hin a0).mp o0)
  obtain ⟨k1, hk1⟩ := List.getElem?_of_mem ((hin a).mp o1)
  have w0 := w_at (ρ := ρ) (cy := cy) (h := h) hk0
  have w1 := w_at (ρ := ρ) (cy := cy) (h := h) hk1
  rw [en_arr ht0 (by decide)] at w0
  rw [en_arr ht1 (by decide)] at w1
  have hco : ∀ (h9 : PM) (b : Nat), co ρ h9 25 b = .inr (.inr (.inr (.inr (fun j => rn ρ (mR h9 b j))))) := fun h9 b => rfl
  rw [hco] at w0 w1
  refine va_copyM (E0 := "java/lang/Object") (E1 := "java/lang/Object") C.1.1 C.1.2.1 (by rw [C.1.2.2.1]; exact h2.1.symm) C.1.2.2.2.1 (hts _ hl) (hts _ hnt) (hts _ hst) (hts _ hini) C.2.1 hP hD h1.2.1 k0 k1 4 4 w0 w1 rfl rfl q1 q2 q3 q4 q5 (fun i hi y hy => ?_) (by omega) (by
    rw [cat_map]
    have : nativeFrameWords "java/lang/System" "arraycopy" 5 ≤ 40 := by decide +kernel
    omega) d fun H1 locs1 hP1 _ hS1 => ?_
  · have hz := List.all_eq_true.mp hall i (List.mem_range.mpr hi)
    simp only [Bool.or_eq_true, beq_iff_eq] at hz
    by_cases e0 : mR h a0 (sp.toNatClampNeg + i) = 0
    · simp [rn, e0] at hy
    · have hy2 : ρ (mR h a0 (sp.toNatClampNeg + i)) = y := by simpa [rn, e0] using hy
      rw [← hy2]
      rcases hz with ((hz | hz) | hz) | hz
      · exact absurd hz e0
      · exact asg_obj (ci := 4) C cls_4 h1 hz (vb_asgC (V.1 _ hw5))
      · exact asg_obj (ci := 7) C cls_7 h1 hz (vb_asgC (V.1 _ hw8))
      · exact asg_obj (ci := 9) C cls_9 h1 hz (vb_asgC (V.1 _ hw10))
  have fr : ∀ q : Nat, q < base → H1[q]? = H[q]? := fun q hq => by
    have hb := h1.2.2.2.2
    rw [hS1.2.1 q (by omega) (by omega), h1.2.1.2.1 q (by omega) (by omega)]
  have hrep : Rep D cy base ρ (setRowR h a (va_cpy (mR h a0) (mR h a) sp.toNatClampNeg dp.toNatClampNeg n.toNatClampNeg)) s H1 := by
    have eR : mR (setRowR h a (va_cpy (mR h a0) (mR h a) sp.toNatClampNeg dp.toNatClampNeg n.toNatClampNeg)) a = va_cpy (mR h a0) (mR h a) sp.toNatClampNeg dp.toNatClampNeg n.toNatClampNeg := u1_self
    refine h1.1.back (h' := setRowR h a (va_cpy (mR h a0) (mR h a) sp.toNatClampNeg dp.toNatClampNeg n.toNatClampNeg)) hin hone hk1 ?_ fr rfl rfl (fun _ _ => rfl) (fun _ _ => rfl) (fun b hb => u1_ne hb) (fun j => ?_)
    · rw [en_arr (h := setRowR h a _) ht1 (by decide), hco, eR]
      have e0 : (fun j => rn ρ (va_cpy (mR h a0) (mR h a) sp.toNatClampNeg dp.toNatClampNeg n.toNatClampNeg j)) = va_cpy (fun j => rn ρ (mR h a0 j)) (fun j => rn ρ (mR h a j)) sp.toNatClampNeg dp.toNatClampNeg n.toNatClampNeg := by
        funext j
        unfold va_cpy
        by_cases e1 : dp.toNatClampNeg ≤ j ∧ j < dp.toNatClampNeg + n.toNatClampNeg
        · rw [if_pos e1, if_pos e1]
        · rw [if_neg e1, if_neg e1]
      rw [e0]
      exact hP1
    · rw [eR]
      unfold va_cpy
      by_cases e1 : dp.toNatClampNeg ≤ j ∧ j < dp.toNatClampNeg + n.toNatClampNeg
      · rw [if_pos e1]; exact h1.1.2.2.2.2 a0 _ o0.1
      · rw [if_neg e1]; exact h1.1.2.2.2.2 a _ o1.1
  exact kk _ hF ρ H1 locs1 cells slots la ⟨hrep, hS1, h1.2.2.1, h1.2.2.2.1, h1.2.2.2.2⟩ h2 (okL_T (h := h) rfl h3) (okS_T (h := h) rfl h4.2.2.2.2.2)
theorem k_lta {x : Nat} {f : Nat → Option β} (hF : lt_ x f = some X) (kk : ∀ x, f x = some X → WP p l e R s m args below meth c D cy base ρ0 h0 cs ss nL Q pc ls (.ref x :: st) h) : WP p l e R s m args below meth c D cy base ρ0 h0 cs ss nL Q pc ls (.ref x :: st) h := kk x hF
theorem r_mmax {x y : Int32} (C : Cx p R s m args meth c D cy MC MS DP cc nL own) (d : decode cc pc = .ok (.invokestatic ix, 3)) (hl : Cond.methodLink own ix Lib.Math.max.name ∈ gw) (hs : Cond.static Lib.Math.max.name ∈ gw) (hi : Cond.initialized "java/lang/Math" ∈ gw) (hc : Cond.code Lib.Math.max.name Lib.Math.max.code 2 (some .int) ∈ gw) (hdp : 1 ≤ DP) (h8 : (st.map fun v => v.category).sum ≤ 8) (hcs : cs ≤ MC) (hss : ss ≤ MS) (kk : WP p l e R s m args below meth c D cy base ρ0 h0 cs ss nL Q (pc + 3) ls (.int (mx x y) :: st) h) : WP p l e R s m args below meth c D cy base ρ0 h0 cs ss nL Q pc ls (.int y :: .int x :: st) h := by
  intro ρ H locs cells slots la h1 h2 h3 h4
  have hts := C.1.2.2.2.2
  have hR := C.2.2.2
  have hb := h1.2.2.1
  exact va_mmax C.1.1 C.1.2.1 (by rw [C.1.2.2.1]; exact h2.1.symm) C.1.2.2.2.1 (hts _ hl) (hts _ hs) (hts _ hi) (hts _ hc) (by omega) (by rw [cat_map]; omega) (by omega) (by omega) d (kk ρ H locs cells slots la h1 h2 h3 ⟨trivial, h4.2.2⟩)
theorem r_mmin {x y : Int32} (C : Cx p R s m args meth c D cy MC MS DP cc nL own) (d : decode cc pc = .ok (.invokestatic ix, 3)) (hl : Cond.methodLink own ix Lib.Math.min.name ∈ gw) (hs : Cond.static Lib.Math.min.name ∈ gw) (hi : Cond.initialized "java/lang/Math" ∈ gw) (hc : Cond.code Lib.Math.min.name Lib.Math.min.code 2 (some .int) ∈ gw) (hdp : 1 ≤ DP) (h8 : (st.map fun v => v.category).sum ≤ 8) (hcs : cs ≤ MC) (hss : ss ≤ MS) (kk : WP p l e R s m args below meth c D cy base ρ0 h0 cs ss nL Q (pc + 3) ls (.int (mn x y) :: st) h) : WP p l e R s m args below meth c D cy base ρ0 h0 cs ss nL Q pc ls (.int y :: .int x :: st) h := by
  intro ρ H locs cells slots la h1 h2 h3 h4
  have hts := C.1.2.2.2.2
  have hR := C.2.2.2
  have hb := h1.2.2.1
  exact va_mmin C.1.1 C.1.2.1 (by rw [C.1.2.2.1]; exact h2.1.symm) C.1.2.2.2.1 (hts _ hl) (hts _ hs) (hts _ hi) (hts _ hc) (by omega) (by rw [cat_map]; omega) (by omega) (by omega) d (kk ρ H locs cells slots la h1 h2 h3 ⟨trivial, h4.2.2⟩)
theorem r_mabs {x : Int32} (C : Cx p R s m args meth c D cy MC MS DP cc nL own) (d : decode cc pc = .ok (.invokestatic ix, 3)) (hl : Cond.methodLink own ix Lib.Math.abs.name ∈ gw) (hs : Cond.static Lib.Math.abs.name ∈ gw) (hi : Cond.initialized "java/lang/Math" ∈ gw) (hc : Cond.code Lib.Math.abs.name Lib.Math.abs.code 1 (some .int) ∈ gw) (hdp : 1 ≤ DP) (h8 : (st.map fun v => v.category).sum ≤ 8) (hcs : cs ≤ MC) (hss : ss ≤ MS) (kk : WP p l e R s m args below meth c D cy base ρ0 h0 cs ss nL Q (pc + 3) ls (.int (ab x) :: st) h) : WP p l e R s m args below meth c D cy base ρ0 h0 cs ss nL Q pc ls (.int x :: st) h := by
  intro ρ H locs cells slots la h1 h2 h3 h4
  have hts := C.1.2.2.2.2
  have hR := C.2.2.2
  have hb := h1.2.2.1
  exact va_mabs C.1.1 C.1.2.1 (by rw [C.1.2.2.1]; exact h2.1.symm) C.1.2.2.2.1 (hts _ hl) (hts _ hs) (hts _ hi) (hts _ hc) (by omega) (by rw [cat_map]; omega) (by omega) (by omega) d (kk ρ H locs cells slots la h1 h2 h3 ⟨trivial, h4.2⟩)
end RL3
