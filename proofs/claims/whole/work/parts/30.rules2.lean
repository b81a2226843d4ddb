/-! ===== more rules: statics, casts, arrays of references, copies ===== -/
theorem Rep.world {D : va_G} {cy : Nat → ClassId} {base : Nat} {ρ : Nat → Nat} {h : PM} {U : State} {H : Heap} (hr : Rep D cy base ρ h U H) :
    ∃ L : List Nat, (∀ a, own1 (mT h a) ↔ a ∈ L) ∧ (∀ i j : Nat, ∀ a, L[i]? = some a → L[j]? = some a → i = j) ∧ va_P D vwCl (L.map fun a => (ρ a, en cy ρ h a)) H ∧ va_D (fun q => base ≤ q) (L.map fun a => (ρ a, en cy ρ h a)) := by
  obtain ⟨r1, r2, r3, r4, r5⟩ := hr
  have key : ∀ n : Nat, ∃ L : List Nat, (∀ a, (own1 (mT h a) ∧ ρ a < n) ↔ a ∈ L) ∧ L.Nodup := by
    intro n
    induction n with
    | zero => exact ⟨[], fun a => ⟨fun z => by omega, fun z => by cases z⟩, List.nodup_nil⟩
    | succ n ih =>
      obtain ⟨L, h1, h2⟩ := ih
      by_cases hx : ∃ a, own1 (mT h a) ∧ ρ a = n
      · obtain ⟨a, ha, he⟩ := hx
        refine ⟨a :: L, fun b => ⟨fun z => ?_, fun z => ?_⟩, List.nodup_cons.mpr ⟨fun z => ?_, h2⟩⟩
        · by_cases e : b = a
          · rw [e]; exact List.mem_cons_self
          · refine List.mem_cons_of_mem _ ((h1 b).mp ⟨z.1, ?_⟩)
            have : ρ b ≠ ρ a := fun y => e (r4 b a z.1 ha y)
            omega
        · rcases List.mem_cons.mp z with e | e
          · rw [e]; exact ⟨ha, by omega⟩
          · have := (h1 b).mpr e; exact ⟨this.1, by omega⟩
        · have := ((h1 a).mpr z).2; omega
      · refine ⟨L, fun b => ⟨fun z => (h1 b).mp ⟨z.1, ?_⟩, fun z => ?_⟩, h2⟩
        · have : ρ b ≠ n := fun y => hx ⟨b, z.1, y⟩
          omega
        · have := (h1 b).mpr z; exact ⟨this.1, by omega⟩
  obtain ⟨L, h1, h2⟩ := key H.size
  have hin : ∀ a, own1 (mT h a) ↔ a ∈ L := fun a => ⟨fun z => (h1 a).mp ⟨z, (r1 a z).2.lt⟩, fun z => ((h1 a).mpr z).1⟩
  have hone : ∀ i j : Nat, ∀ a, L[i]? = some a → L[j]? = some a → i = j := fun i j a hi hj => by
    obtain ⟨li, ei⟩ := List.getElem?_eq_some_iff.mp hi
    obtain ⟨lj, ej⟩ := List.getElem?_eq_some_iff.mp hj
    have hp := List.pairwise_iff_getElem.mp h2
    rcases Nat.lt_trichotomy i j with z | z | z
    · exact absurd (ei.trans ej.symm) (hp i j li lj z)
    · exact z
    · exact absurd (ej.trans ei.symm) (hp j i lj li z)
  have get : ∀ (k : Nat) (q : Nat × va_E), (L.map fun a => (ρ a, en cy ρ h a))[k]? = some q → ∃ a, L[k]? = some a ∧ q = (ρ a, en cy ρ h a) ∧ own1 (mT h a) := fun k q hq => by
    rw [List.getElem?_map] at hq
    obtain ⟨a, e1, e2⟩ := Option.map_eq_some_iff.mp hq
    exact ⟨a, e1, e2.symm, (hin a).mpr (List.mem_of_getElem? e1)⟩
  refine ⟨L, hin, hone, fun k q hq => ?_, fun i j x y hi hj hxy => ?_, fun k q hq => ?_⟩
  · obtain ⟨a, -, rfl, ha⟩ := get k q hq
    exact (r1 a ha).2
  · obtain ⟨a, e1, rfl, ha⟩ := get i x hi
    obtain ⟨b, e2, rfl, hb⟩ := get j y hj
    have e : a = b := r4 a b ha hb hxy
    subst e
    exact hone i j a e1 e2
  · obtain ⟨a, -, rfl, ha⟩ := get k q hq
    exact (r1 a ha).1
theorem w_at {ρ : Nat → Nat} {cy : Nat → ClassId} {h : PM} {L : List Nat} {k a : Nat} (hk : L[k]? = some a) : (L.map fun a => (ρ a, en cy ρ h a))[k]? = some (ρ a, en cy ρ h a) := by
  rw [List.getElem?_map, hk]; rfl
/-- the world is set at one name: the memory too -/
theorem Rep.back {D : va_G} {cy : Nat → ClassId} {base : Nat} {ρ : Nat → Nat} {h h' : PM} {U : State} {H H1 : Heap} {L : List Nat} {k a : Nat} (hr : Rep D cy base ρ h U H) (hin : ∀ a, own1 (mT h a) ↔ a ∈ L) (hone : ∀ i j : Nat, ∀ a, L[i]? = some a → L[j]? = some a → i = j) (hk : L[k]? = some a)
    (hP : va_P D vwCl ((L.map fun a => (ρ a, en cy ρ h a)).set k (ρ a, en cy ρ h' a)) H1) (oq : ∀ q : Nat, q < base → H1[q]? = H[q]?) (hT : mT h' = mT h) (hN : mN h' = mN h)
    (hI : ∀ b, b ≠ a → mI h' b = mI h b) (hJ : ∀ b, b ≠ a → mJ h' b = mJ h b) (hR : ∀ b, b ≠ a → mR h' b = mR h b) (hv : ∀ k, mR h' a k = 0 ∨ mT h (mR h' a k) ≠ 0) : Rep D cy base ρ h' U H1 := by
  obtain ⟨r1, r2, r3, r4, r5⟩ := hr
  have ha : own1 (mT h a) := (hin a).mpr (List.mem_of_getElem? hk)
  have hlk : k < L.length := (List.getElem?_eq_some_iff.mp hk).1
  refine ⟨fun b hb => ?_, fun b hb => ?_, fun b hb => ?_, ?_, fun b k hb => ?_⟩
  · rw [hT] at hb
    refine ⟨(r1 b hb).1, ?_⟩
    by_cases e : b = a
    · subst e
      exact hP k _ (List.getElem?_set_self (by simpa using hlk))
    · obtain ⟨j, hj⟩ := List.getElem?_of_mem ((hin b).mp hb)
      have hjk : k ≠ j := fun z => by subst z; exact e (Option.some.inj (hj.symm.trans hk))
      rw [en_congr (by rw [hT]) (by rw [hN]) (hI b e) (hJ b e) (hR b e)]
      exact hP j _ (by rw [List.getElem?_set_ne hjk]; exact w_at hj)
  · rw [hT] at hb
    have e : b ≠ a := fun z => by subst z; exact ha.2.1 hb
    rw [hN, hI b e]
    exact ⟨(r2 b hb).1, (r2 b hb).2.kept (oq _ (r2 b hb).1)⟩
  · rw [hT] at hb
    rw [hN]
    refine (r3 b hb).imp id fun hx => ?_
    obtain ⟨hl, scr, q1, q2⟩ := hx
    exact ⟨hl, scr, by rw [oq _ hl]; exact q1, q2⟩
  · rw [hT]; exact r4
  · rw [hT] at hb ⊢
    by_cases e : b = a
    · subst e; exact hv k
    · rw [hR b e]; exact r5 b k hb
section CMB3
variable {β : Type}
def setRow (h : PM) (a : Nat) (f : Nat → Int32) : PM := (u1 (mI h) a f, h.2)
def setRowR (h : PM) (a : Nat) (f : Nat → Nat) : PM := (h.1, h.2.1, u1 (mR h) a f, h.2.2.2)
/-- System.arraycopy of ints -/
def cpI (h : PM) (a0 : Nat) (sp : Int32) (a : Nat) (dp n : Int32) (f : PM → Option β) : Option β :=
  if (mT h a0 = 20 ∧ mT h a = 20) ∧ ¬ sp < 0 ∧ ¬ dp < 0 ∧ ¬ n < 0 ∧ sp.toNatClampNeg + n.toNatClampNeg ≤ mN h a0 ∧ dp.toNatClampNeg + n.toNatClampNeg ≤ mN h a then f (setRow h a (va_cpy (mI h a0) (mI h a) sp.toNatClampNeg dp.toNatClampNeg n.toNatClampNeg)) else none
end CMB3
section RL2
variable {p : Program} {l : Launch} {e : Env} {R : Room} {s : State} {m : MethodId} {args : Array Value} {below : List Frame} {meth : Method} {c : Code}
variable {D : va_G} {cy : Nat → ClassId} {base : Nat} {ρ0 : Nat → Nat} {h0 : PM} {cs ss MC MS DP nL : Nat} {Q : State → Prop}
variable {cc : ByteArray} {own : String} {pc : Nat} {ls : List (Nat × Value)} {st : List Value} {h : PM} {β : Type} {X : β} {ci ix k a N : Nat} {Cn : String} {T : u_T}
theorem r_gsN {host : String} (C : Cx p R s m args meth c D cy MC MS DP cc nL own) (V : EV base ρ0 h0 s s.heap) (d : decode cc pc = .ok (.getstatic ix, 3)) (hl : Cond.fieldLinkNest own ix "RoughStones" "TURNED" "[I" host ∈ nw) (kk : WP p l e R s m args below meth c D cy base ρ0 h0 cs ss nL Q (pc + 3) ls (.ref 1 :: st) h) : WP p l e R s m args below meth c D cy base ρ0 h0 cs ss nL Q pc ls st h := by
  intro ρ H locs cells slots la h1 h2 h3 h4
  obtain ⟨q1, q2⟩ := h1.2.2.2.1 1 V.2.2.2.2.1.1
  have := kk ρ H locs cells slots la h1 h2 h3 ⟨q1, h4⟩
  have e0 : rv ρ (.ref 1) = .ref (ρ0 1) := by simp [rv, q2]
  rw [List.map_cons, e0] at this
  exact va_getsN C.1.1 C.1.2.1 V.2.2.2.2.1.2 h1.2.1 C.1.2.2.2.1 (va_Nw.use rfl (V.1 _ hl)) (fun _ z => z) d this
theorem r_gsD (C : Cx p R s m args meth c D cy MC MS DP cc nL own) (V : EV base ρ0 h0 s s.heap) (d : decode cc pc = .ok (.getstatic ix, 3)) (hl : Cond.fieldLink own ix alN "DEFAULTCAPACITY_EMPTY_ELEMENTDATA" "[Ljava/lang/Object;" ∈ gw) (kk : WP p l e R s m args below meth c D cy base ρ0 h0 cs ss nL Q (pc + 3) ls (.ref 2 :: st) h) : WP p l e R s m args below meth c D cy base ρ0 h0 cs ss nL Q pc ls st h := by
  intro ρ H locs cells slots la h1 h2 h3 h4
  obtain ⟨q1, q2⟩ := h1.2.2.2.1 2 V.2.2.2.2.2.1.1
  have := kk ρ H locs cells slots la h1 h2 h3 ⟨q1, h4⟩
  have e0 : rv ρ (.ref 2) = .ref (ρ0 2) := by simp [rv, q2]
  rw [List.map_cons, e0] at this
  exact va_gets C.1.1 C.1.2.1 V.2.2.2.2.2.1.2 h1.2.1 C.1.2.2.2.1 (C.1.2.2.2.2 _ hl) (fun _ z => z) d this
theorem k_cast {f : Option β} (C : Cx p R s m args meth c D cy MC MS DP cc nL own) (d : decode cc pc = .ok (.checkcast ix, 3)) (K : Cls ci Cn T N) (hl : Cond.classLink own ix Cn ∈ gw) (hF : tst h a ci f = some X) (kk : f = some X → WP p l e R s m args below meth c D cy base ρ0 h0 cs ss nL Q (pc + 3) ls (.ref a :: st) h) : WP p l e R s m args below meth c D cy base ρ0 h0 cs ss nL Q pc ls (.ref a :: st) h := by
  intro ρ H locs cells slots la h1 h2 h3 h4
  obtain ⟨ht, hF⟩ := tst_some hF
  obtain ⟨cell, q1, q2, q3⟩ := rcv_of C K h1 ht
  have hcls := (C.2.1.1 ci _ K.1).2
  have hc : cell.cls = D.1 ci := Option.some.inj (q3.symm.trans hcls.1)
  intro T' hT Xs
  obtain ⟨vm', X', go⟩ := Xs.checkcastYes C.1.1 C.1.2.2.2.1 (C.1.2.2.2.2 _ hl) (by rw [hT]; exact q1) q2 q3 (by rw [hc]; exact va_assign hcls) (g := F0 m pc la (.ref (ρ a) :: st.map (rv ρ))) rfl rfl (by rw [C.1.2.1]; exact d)
  obtain ⟨t, a1, b1⟩ := kk hF ρ H locs cells slots la h1 h2 h3 h4 (T'.setVm vm') hT X'
  exact ⟨t, go t a1, b1⟩
theorem asg_obj {r : Nat} {ρ : Nat → Nat} {H : Heap} {locs : List Loc} {cells slots : Nat} {E : String} (C : Cx p R s m args meth c D cy MC MS DP cc nL own) (K : Cls ci Cn T N) (h1 : SH D cy base s ρ0 h0 cs ss ρ H locs cells slots h) (hr : mT h r = ci + 1) (hasg : ∀ comp c0 : ClassId, s.vm.findClass E = some comp → s.vm.findClass Cn = some c0 → s.vm.assignable c0 comp = true) : va_Any E s H (ρ r) := by
  have hat := (h1.1.1 r (own_obj K.2.2.2.2.2.1 hr)).2
  rw [en_obj hr K.2.2.2.2.2.1 K.2.2.2.2.1] at hat
  exact va_rAny (r := (Cn, T, N)) C.2.1 (one_P hat) (q0 := 0) rfl K.1 hasg
theorem k_sR {f : PM → Option β} {r : Nat} {i : Int32} (C : Cx p R s m args meth c D cy MC MS DP cc nL own) (V : EV base ρ0 h0 s s.heap) (hw5 : Cond.castable RX3 "java/lang/Object" ∈ nw) (hw8 : Cond.castable RX6 "java/lang/Object" ∈ nw) (hw10 : Cond.castable RX8 "java/lang/Object" ∈ nw) (d : decode cc pc = .ok (.aastore, 1)) (hF : sR h a i r f = some X) (kk : ∀ h', f h' = some X → WP p l e R s m args below meth c D cy base ρ0 h0 cs ss nL Q (pc + 1) ls st h') : WP p l e R s m args below meth c D cy base ρ0 h0 cs ss nL Q pc ls (.ref r :: .int i :: .ref a :: st) h := by
  intro ρ H locs cells slots la h1 h2 h3 h4
  obtain ⟨⟨ht, hin, hr0⟩, hF⟩ := ite_some hF
  have hlt : i.toNatClampNeg < mN h a := Nat.not_le.mp fun q => hin (Or.inr q)
  have hi0 : ¬ i < 0 := fun q => hin (Or.inl q)
  have go : ∀ (t t0 : Nat) (E : String), mT h a = t → (t = 24 ∨ t = 25) → (tyL cy)[t0]? = some (cy t, .object E) → va_Any E s H (ρ r) → W p l e R s m args below meth c H locs cells slots Q (F0 m pc la (.ref (ρ r) :: .int i :: .ref (ρ a) :: st.map (rv ρ))) := by
    intro t t0 E e1 e2 e4 hany
    have e3 : t = 20 ∨ t = 21 ∨ t = 22 ∨ t = 24 ∨ t = 25 ∨ t = 26 := by omega
    have hat := at_arr h1.1 e1 e3
    have hco : ∀ h9 : PM, co ρ h9 t a = .inr (.inr (.inr (.inr (fun j => rn ρ (mR h9 a j))))) := fun h9 => by
      unfold co
      rw [if_neg (by omega), if_pos (by omega)]
    rw [hco] at hat
    obtain ⟨cellV, g1, g3, ⟨kC, hkC⟩, hasg⟩ := hany
    obtain ⟨kA, comp, k1, k2, k3, -⟩ := (C.2.1.2 t0 _ e4).2
    obtain ⟨kE, hkE, -⟩ := Vm.findClass_spec k3
    have ha := own_arr e1 e3
    refine W.aast C.1.1 C.1.2.1 hat (fun q hq => by cases hq) (fun hq => by cases hq) k1 k2 rfl hkE ⟨hi0, by show _ < (arrV _ _ _).slots.size; rw [arrV_size]; exact hlt⟩ g1 (fun q hq => by rw [hq] at g3; cases g3) hkC (hasg _ k3) rfl rfl d fun H1 e5 z oq => ?_
    refine kk _ hF ρ H1 _ cells slots la (h1.put ha z oq (rep_setR h1.1 ha h4.1 oq ?_) rfl) h2 (okL_T (h := h) rfl h3) (okS_T (h := h) rfl h4.2.2.2)
    rw [en_arr (h := setR h a i.toNatClampNeg r) e1 (by omega), hco]
    show H1[ρ a]? = some (arrV (cy t) (mN h a) (fun j => va_rf (rn ρ (mR (setR h a i.toNatClampNeg r) a j))))
    rw [e5]
    show some ((arrV (cy t) (mN h a) (fun j => va_rf (rn ρ (mR h a j)))).setSlot _ _) = _
    rw [arrV_store]
    congr 2
    funext j
    have e0 : mR (setR h a i.toNatClampNeg r) a j = if j = i.toNatClampNeg then r else mR h a j := congrFun (u2_self (f := mR h)) j
    rw [e0]
    by_cases hj : j = i.toNatClampNeg
    · rw [if_pos hj, hj]; simp [updV, rn, hr0, va_rf]
    · rw [if_neg hj]; simp [updV, hj]
  rcases ht with ⟨h24, h6⟩ | ⟨h25, hr⟩
  · refine go 24 3 _ h24 (Or.inl rfl) rfl (asg_obj (ci := 5) C cls_5 h1 h6 (fun comp c0 z1 z2 => ?_))
    cases Option.some.inj (z1.symm.trans z2)
    exact va_assign ⟨z2, (C.2.1.1 5 _ cls_5.1).2.2 |> fun z => by
      have := (C.2.1.1 5 _ cls_5.1).2.1
      cases Option.some.inj (this.symm.trans z2)
      exact z⟩
  · rcases hr with hr | hr | hr
    · exact go 25 4 _ h25 (Or.inr rfl) rfl (asg_obj (ci := 4) C cls_4 h1 hr (vb_asgC (V.1 _ hw5)))
    · exact go 25 4 _ h25 (Or.inr rfl) rfl (asg_obj (ci := 7) C cls_7 h1 hr (vb_asgC (V.1 _ hw8)))
    · exact go 25 4 _ h25 (Or.inr rfl) rfl (asg_obj (ci := 9) C cls_9 h1 hr (vb_asgC (V.1 _ hw10)))
theorem k_anew {t t0 : Nat} {E : String} {n : Int32} {f : PM → Option β} (C : Cx p R s m args meth c D cy MC MS DP cc nL own) (d : decode cc pc = .ok (.anewarray ix, 3)) (hl : Cond.classLink own ix E ∈ gw) (ho : va_AO E s) (ht : t = 24 ∨ t = 25) (htl : (tyL cy)[t0]? = some (cy t, .object E)) (hn : n.toNatClampNeg ≤ N) (hcs : cs + 1 ≤ MC) (hss : ss + N ≤ MS) (hF : nA h a t n f = some X) (kk : ∀ h', f h' = some X → WP p l e R s m args below meth c D cy base ρ0 h0 (cs + 1) (ss + N) nL Q (pc + 3) ls (.ref a :: st) h') : WP p l e R s m args below meth c D cy base ρ0 h0 cs ss nL Q pc ls (.int n :: st) h := by
  intro ρ H locs cells slots la h1 h2 h3 h4
  obtain ⟨⟨⟨ha0, ha⟩, hn0, hn2⟩, hF⟩ := ite_some hF
  have hb := h1.2.2.1
  have hot : own1 t := by unfold own1; omega
  refine W.anew C.1.1 C.1.2.1 C.1.2.2.2.1 (C.1.2.2.2.2 _ hl) (va_AO.use ho) rfl d rfl hn0 (by omega) (by have := C.2.2.2.1; omega) (by have := C.2.2.2.2.1; omega) fun cA kA comp f1 f2 f3 f4 => ?_
  obtain ⟨_, _, -, -, -, q4⟩ := (C.2.1.2 t0 _ htl).2
  have hcA : cA = cy t := Option.some.inj (f1.symm.trans q4)
  subst hcA
  refine go_new (n := n.toNatClampNeg) h1 h2 h3 h4.2 ha hot (by simp) (fun q hq => by rw [Array.getElem?_push, if_neg (Nat.ne_of_lt hq)]) ?_ (WP.cnt (Nat.le_refl _) (by omega) (kk _ hF))
  rw [en_arr new_T (by omega)]
  show (H.push _)[H.size]? = some (vp_cell _ _)
  have hco : co (va_up ρ a H.size) (newM h a t n.toNatClampNeg) t a = .inr (.inr (.inr (.inr (fun _ => none)))) := by
    unfold co
    rw [if_neg (by omega), if_pos (by omega), new_R]
    rfl
  rw [new_N, hco, vp_cell_q]
  have := arrV_new (cy t) n.toNatClampNeg (.null)
  simp only [va_rf]
  rw [← this]
  simp
theorem k_cpI {f : PM → Option β} {a0 : Nat} {sp dp n : Int32} (C : Cx p R s m args meth c D cy MC MS DP cc nL own) (d : decode cc pc = .ok (.invokestatic ix, 3)) (hl : Cond.methodLink own ix arraycopyName ∈ gw) (hnt : Cond.native arraycopyName ∈ gw) (hst : Cond.static arraycopyName ∈ gw) (hini : Cond.initialized "java/lang/System" ∈ gw) (hdp : 1 ≤ DP) (h8 : (st.map fun v => v.category).sum ≤ 8) (hF : cpI h a0 sp a dp n f = some X) (kk : ∀ h', f h' = some X → WP p l e R s m args below meth c D cy base ρ0 h0 cs ss nL Q (pc + 3) ls st h') : WP p l e R s m args below meth c D cy base ρ0 h0 cs ss nL Q pc ls (.int n :: .int dp :: .ref a :: .int sp :: .ref a0 :: st) h := by
  intro ρ H locs cells slots la h1 h2 h3 h4
  obtain ⟨⟨⟨ht0, ht1⟩, q1, q2, q3, q4, q5⟩, hF⟩ := ite_some hF
  have hts := C.1.2.2.2.2
  have hR := C.2.2.2
  obtain ⟨L, hin, hone, hP, hD⟩ := h1.1.world
  have o0 := own_arr ht0 (by decide)
  have o1 := own_arr ht1 (by decide)
  obtain ⟨k0, hk0⟩ := List.getElem?_of_mem ((hin a0).mp o0)
  obtain ⟨k1, hk1⟩ := List.getElem?_of_mem ((hin a).mp o1)
  have w0 := w_at (ρ := ρ) (cy := cy) (h := h) hk0
  have w1 := w_at (ρ := ρ) (cy := cy) (h := h) hk1
  rw [en_arr ht0 (by decide)] at w0
  rw [en_arr ht1 (by decide)] at w1
  refine va_copyi (ty := .int) C.1.1 C.1.2.1 (by rw [C.1.2.2.1]; exact h2.1.symm) C.1.2.2.2.1 (hts _ hl) (hts _ hnt) (hts _ hst) (hts _ hini) C.2.1 hP hD h1.2.1 k0 k1 0 0 w0 w1 rfl rfl rfl q1 q2 q3 q4 q5 (fun _ _ => rfl) (by omega) (by
    rw [cat_map]
    have : nativeFrameWords "java/lang/System" "arraycopy" 5 ≤ 40 := by decide +kernel
    omega) d fun H1 locs1 hP1 _ hS1 => ?_
  have fr : ∀ q : Nat, q < base → H1[q]? = H[q]? := fun q hq => by
    have hb := h1.2.2.2.2
    rw [hS1.2.1 q (by omega) (by omega), h1.2.1.2.1 q (by omega) (by omega)]
  have hrep : Rep D cy base ρ (setRow h a (va_cpy (mI h a0) (mI h a) sp.toNatClampNeg dp.toNatClampNeg n.toNatClampNeg)) s H1 := by
    refine h1.1.back (h' := setRow h a (va_cpy (mI h a0) (mI h a) sp.toNatClampNeg dp.toNatClampNeg n.toNatClampNeg)) hin hone hk1 ?_ fr rfl rfl (fun b hb => u1_ne hb) (fun _ _ => rfl) (fun _ _ => rfl) (fun j => h1.1.2.2.2.2 a j o1.1)
    rw [en_arr (h := setRow h a _) ht1 (by decide)]
    have e0 : co ρ (setRow h a (va_cpy (mI h a0) (mI h a) sp.toNatClampNeg dp.toNatClampNeg n.toNatClampNeg)) 20 a = .inl (va_cpy (mI h a0) (mI h a) sp.toNatClampNeg dp.toNatClampNeg n.toNatClampNeg) := by
      show Sum.inl (u1 (mI h) a _ a) = _
      rw [u1_self]
    rw [e0]
    exact hP1
  exact kk _ hF ρ H1 locs1 cells slots la ⟨hrep, hS1, h1.2.2.1, h1.2.2.2.1, h1.2.2.2.2⟩ h2 (okL_T (h := h) rfl h3) (okS_T (h := h) rfl h4.2.2.2.2.2)
end RL2
