section ARR
variable {p : Program} {l : Launch} {e : Env} {R : Room} {s : State} {m : MethodId} {args : Array Value} {below : List Frame} {meth : Method} {c : Code}
variable {D : va_G} {cy : Nat → ClassId} {base : Nat} {ρ0 : Nat → Nat} {h0 : PM} {cs ss MC MS DP nL : Nat} {Q : State → Prop}
variable {cc : ByteArray} {own ref : String} {pc : Nat} {ls ls' : List (Nat × Value)} {st : List Value} {h : PM} {β : Type} {X : β}
variable {a : Nat} {i : Int32}
theorem one_P {q : Nat × va_E} {H : Heap} (hat : va_at D vwCl q H) : va_P D vwCl [q] H := fun k z hz => by
  have hq : k < 1 := (List.getElem?_eq_some_iff.mp hz).1
  rw [show k = 0 by omega] at hz
  cases hz
  exact hat
theorem own_arr {t : Nat} (ht : mT h a = t) (hc : t = 20 ∨ t = 21 ∨ t = 22 ∨ t = 24 ∨ t = 25 ∨ t = 26) : own1 (mT h a) := by unfold own1; omega
theorem at_arr {ρ : Nat → Nat} {H : Heap} {t : Nat} (hr : Rep D cy base ρ h s H) (ht : mT h a = t) (hc : t = 20 ∨ t = 21 ∨ t = 22 ∨ t = 24 ∨ t = 25 ∨ t = 26) : va_at D vwCl (ρ a, .inl (cy t, mN h a, co ρ h t a)) H := by
  have := (hr.1 a (own_arr ht hc)).2
  rw [en_arr ht (by omega)] at this
  exact this
theorem r_aI {f : Int32 → Option β} (C : Cx p R s m args meth c D cy MC MS DP cc nL own) (d : decode cc pc = .ok (.iaload, 1)) (hF : aI h a i f = some X) (kk : f (mI h a i.toNatClampNeg) = some X → WP p l e R s m args below meth c D cy base ρ0 h0 cs ss nL Q (pc + 1) ls (.int (mI h a i.toNatClampNeg) :: st) h) : WP p l e R s m args below meth c D cy base ρ0 h0 cs ss nL Q pc ls (.int i :: .ref a :: st) h := by
  intro ρ H locs cells slots la h1 h2 h3 h4
  obtain ⟨⟨ht, hin⟩, hF⟩ := ite_some hF
  exact va_iald (D := D) (cl := vwCl) C.1.1 C.1.2.1 C.2.1 (one_P (at_arr h1.1 ht (by decide))) 0 0 rfl rfl hin d (kk hF ρ H locs cells slots la h1 h2 h3 ⟨trivial, h4.2.2⟩)
theorem r_aZ {f : Int32 → Option β} (C : Cx p R s m args meth c D cy MC MS DP cc nL own) (d : decode cc pc = .ok (.baload, 1)) (hF : aZ h a i f = some X) (kk : f (mI h a i.toNatClampNeg) = some X → WP p l e R s m args below meth c D cy base ρ0 h0 cs ss nL Q (pc + 1) ls (.int (mI h a i.toNatClampNeg) :: st) h) : WP p l e R s m args below meth c D cy base ρ0 h0 cs ss nL Q pc ls (.int i :: .ref a :: st) h := by
  intro ρ H locs cells slots la h1 h2 h3 h4
  obtain ⟨⟨ht, hin⟩, hF⟩ := ite_some hF
  exact va_zald (D := D) (cl := vwCl) C.1.1 C.1.2.1 C.2.1 (one_P (at_arr h1.1 ht (by decide))) 0 2 rfl rfl hin d (kk hF ρ H locs cells slots la h1 h2 h3 ⟨trivial, h4.2.2⟩)
theorem r_aJ {f : Int64 → Option β} (C : Cx p R s m args meth c D cy MC MS DP cc nL own) (d : decode cc pc = .ok (.laload, 1)) (hF : aJ h a i f = some X) (kk : f (mJ h a i.toNatClampNeg) = some X → WP p l e R s m args below meth c D cy base ρ0 h0 cs ss nL Q (pc + 1) ls (.long (mJ h a i.toNatClampNeg) :: st) h) : WP p l e R s m args below meth c D cy base ρ0 h0 cs ss nL Q pc ls (.int i :: .ref a :: st) h := by
  intro ρ H locs cells slots la h1 h2 h3 h4
  obtain ⟨⟨ht, hin⟩, hF⟩ := ite_some hF
  exact va_lald (D := D) (cl := vwCl) C.1.1 C.1.2.1 C.2.1 (one_P (at_arr h1.1 ht (by decide))) 0 1 rfl rfl hin d (kk hF ρ H locs cells slots la h1 h2 h3 ⟨trivial, h4.2.2⟩)
theorem r_aS {f : Int32 → Option β} (C : Cx p R s m args meth c D cy MC MS DP cc nL own) (d : decode cc pc = .ok (.iaload, 1)) (hF : aS h a i f = some X) (kk : f (mI h a i.toNatClampNeg) = some X → WP p l e R s m args below meth c D cy base ρ0 h0 cs ss nL Q (pc + 1) ls (.int (mI h a i.toNatClampNeg) :: st) h) : WP p l e R s m args below meth c D cy base ρ0 h0 cs ss nL Q pc ls (.int i :: .ref a :: st) h := by
  intro ρ H locs cells slots la h1 h2 h3 h4
  obtain ⟨⟨ht, hin⟩, hF⟩ := ite_some hF
  obtain ⟨-, scr, q1, q2, q3, q4, q5⟩ := h1.1.2.1 a ht
  have hlt : i.toNatClampNeg < mN h a := Nat.not_le.mp fun q => hin (Or.inr q)
  exact W.iald (v := .int (mI h a i.toNatClampNeg)) C.1.1 C.1.2.1 q1 q2 q3 (fun z => z.elim (fun w => hin (Or.inl w)) (fun w => hin (Or.inr (Nat.le_trans q4.1 w)))) (q5 _ hlt) rfl rfl d (kk hF ρ H locs cells slots la h1 h2 h3 ⟨trivial, h4.2.2⟩)
theorem r_aR {f : Nat → Option β} (C : Cx p R s m args meth c D cy MC MS DP cc nL own) (d : decode cc pc = .ok (.aaload, 1)) (hF : aR h a i f = some X) (kk : f (mR h a i.toNatClampNeg) = some X → WP p l e R s m args below meth c D cy base ρ0 h0 cs ss nL Q (pc + 1) ls (.ref (mR h a i.toNatClampNeg) :: st) h) : WP p l e R s m args below meth c D cy base ρ0 h0 cs ss nL Q pc ls (.int i :: .ref a :: st) h := by
  intro ρ H locs cells slots la h1 h2 h3 h4
  obtain ⟨⟨ht, hin, hr0⟩, hF⟩ := ite_some hF
  have hk := kk hF ρ H locs cells slots la h1 h2 h3 ⟨(h1.1.2.2.2.2 a _ (by omega)).resolve_left hr0, h4.2.2⟩
  have hlt : i.toNatClampNeg < mN h a := Nat.not_le.mp fun q => hin (Or.inr q)
  have rd : ∀ (t t0 : Nat) (ty : FieldType), mT h a = t → (t = 20 ∨ t = 21 ∨ t = 22 ∨ t = 24 ∨ t = 25 ∨ t = 26) → 24 ≤ t → (tyL cy)[t0]? = some (cy t, ty) → ty.isReference = true → W p l e R s m args below meth c H locs cells slots Q (F0 m pc la (.int i :: .ref (ρ a) :: st.map (rv ρ))) := by
    intro t t0 ty e1 e2 e3 e4 e5
    have hat := at_arr h1.1 e1 e2
    have hco : co ρ h t a = .inr (.inr (.inr (.inr (fun j => rn ρ (mR h a j))))) := by
      unfold co
      rw [if_neg (by omega), if_pos e3]
    rw [hco] at hat
    refine W.aald (v := .ref (ρ (mR h a i.toNatClampNeg))) (ty := ty) C.1.1 C.1.2.1 hat ((C.2.1.2 t0 _ e4).1 _ (fun j => va_rf (rn ρ (mR h a j)))) e5 (fun q => by cases q) (by show ¬ (i < 0 ∨ (arrV _ _ _).slots.size ≤ _); rw [arrV_size]; exact hin) (by show (arrV _ _ _).slots[_]? = _; rw [arrV_read _ _ hlt]; simp [rn, hr0, va_rf]) rfl rfl d hk
  rcases ht with ht | ht | ht
  · exact rd 24 3 _ ht (by decide) (by decide) rfl rfl
  · exact rd 25 4 _ ht (by decide) (by decide) rfl rfl
  · exact rd 26 5 _ ht (by decide) (by decide) rfl rfl
theorem r_sI {f : PM → Option β} {v : Int32} (C : Cx p R s m args meth c D cy MC MS DP cc nL own) (d : decode cc pc = .ok (.iastore, 1)) (hF : sI h a i v f = some X) (kk : f (setI h a i.toNatClampNeg v) = some X → WP p l e R s m args below meth c D cy base ρ0 h0 cs ss nL Q (pc + 1) ls st (setI h a i.toNatClampNeg v)) : WP p l e R s m args below meth c D cy base ρ0 h0 cs ss nL Q pc ls (.int v :: .int i :: .ref a :: st) h := by
  intro ρ H locs cells slots la h1 h2 h3 h4
  obtain ⟨⟨ht, hin⟩, hF⟩ := ite_some hF
  have hat := at_arr h1.1 ht (by decide)
  refine W.iast C.1.1 C.1.2.1 hat ((C.2.1.2 0 _ rfl).1 _ (fun j => .int (mI h a j))) (fun q => by cases q) (by show ¬ (i < 0 ∨ (arrV _ _ _).slots.size ≤ _); rw [arrV_size]; exact hin) rfl rfl d fun H1 e1 z oq => ?_
  have ha := own_arr ht (by decide)
  refine kk hF ρ H1 _ cells slots la (h1.put ha z oq (rep_setI h1.1 ha oq ?_) rfl) h2 (okL_T (h := h) rfl h3) (okS_T (h := h) rfl h4.2.2.2)
  rw [en_arr (h := setI h a i.toNatClampNeg v) ht (by decide)]
  show H1[ρ a]? = some (arrV (cy 20) (mN h a) (fun j => .int (mI (setI h a i.toNatClampNeg v) a j)))
  rw [e1]
  show some ((arrV (cy 20) (mN h a) (fun j => .int (mI h a j))).setSlot _ _) = _
  rw [arrV_store]
  congr 2
  funext j
  have e0 : mI (setI h a i.toNatClampNeg v) a j = if j = i.toNatClampNeg then v else mI h a j := congrFun (u2_self (f := mI h)) j
  rw [e0]
  by_cases hj : j = i.toNatClampNeg
  · rw [hj]; simp [updV]
  · simp [updV, hj]
theorem r_sZ {f : PM → Option β} {v : Int32} (C : Cx p R s m args meth c D cy MC MS DP cc nL own) (d : decode cc pc = .ok (.bastore, 1)) (hF : sZ h a i v f = some X) (kk : f (setI h a i.toNatClampNeg v) = some X → WP p l e R s m args below meth c D cy base ρ0 h0 cs ss nL Q (pc + 1) ls st (setI h a i.toNatClampNeg v)) : WP p l e R s m args below meth c D cy base ρ0 h0 cs ss nL Q pc ls (.int v :: .int i :: .ref a :: st) h := by
  intro ρ H locs cells slots la h1 h2 h3 h4
  obtain ⟨⟨⟨ht, hin⟩, hv⟩, hF⟩ := ite_some hF
  have hat := at_arr h1.1 ht (by decide)
  refine W.zast C.1.1 C.1.2.1 hat ((C.2.1.2 2 _ rfl).1 _ (fun j => .int (mI h a j))) (fun q => by cases q) (by show ¬ (i < 0 ∨ (arrV _ _ _).slots.size ≤ _); rw [arrV_size]; exact hin) rfl rfl d fun H1 e1 z oq => ?_
  have ha := own_arr ht (by decide)
  refine kk hF ρ H1 _ cells slots la (h1.put ha z oq (rep_setI h1.1 ha oq ?_) rfl) h2 (okL_T (h := h) rfl h3) (okS_T (h := h) rfl h4.2.2.2)
  rw [en_arr (h := setI h a i.toNatClampNeg v) ht (by decide)]
  show H1[ρ a]? = some (arrV (cy 22) (mN h a) (fun j => .int (mI (setI h a i.toNatClampNeg v) a j)))
  rw [e1]
  show some ((arrV (cy 22) (mN h a) (fun j => .int (mI h a j))).setSlot _ _) = _
  rw [arrV_store]
  congr 2
  funext j
  have e0 : mI (setI h a i.toNatClampNeg v) a j = if j = i.toNatClampNeg then v else mI h a j := congrFun (u2_self (f := mI h)) j
  rw [e0]
  by_cases hj : j = i.toNatClampNeg
  · rw [hj]; rcases hv with q | q <;> subst q <;> simp [updV] <;> rfl
  · simp [updV, hj]
theorem r_sJ {f : PM → Option β} {v : Int64} (C : Cx p R s m args meth c D cy MC MS DP cc nL own) (d : decode cc pc = .ok (.lastore, 1)) (hF : sJ h a i v f = some X) (kk : f (setJ h a i.toNatClampNeg v) = some X → WP p l e R s m args below meth c D cy base ρ0 h0 cs ss nL Q (pc + 1) ls st (setJ h a i.toNatClampNeg v)) : WP p l e R s m args below meth c D cy base ρ0 h0 cs ss nL Q pc ls (.long v :: .int i :: .ref a :: st) h := by
  intro ρ H locs cells slots la h1 h2 h3 h4
  obtain ⟨⟨ht, hin⟩, hF⟩ := ite_some hF
  have hat := at_arr h1.1 ht (by decide)
  refine W.last C.1.1 C.1.2.1 hat ((C.2.1.2 1 _ rfl).1 _ (fun j => .long (mJ h a j))) (fun q => by cases q) (by show ¬ (i < 0 ∨ (arrV _ _ _).slots.size ≤ _); rw [arrV_size]; exact hin) rfl rfl d fun H1 e1 z oq => ?_
  have ha := own_arr ht (by decide)
  refine kk hF ρ H1 _ cells slots la (h1.put ha z oq (rep_setJ h1.1 ha oq ?_) rfl) h2 (okL_T (h := h) rfl h3) (okS_T (h := h) rfl h4.2.2.2)
  rw [en_arr (h := setJ h a i.toNatClampNeg v) ht (by decide)]
  show H1[ρ a]? = some (arrV (cy 21) (mN h a) (fun j => .long (mJ (setJ h a i.toNatClampNeg v) a j)))
  rw [e1]
  show some ((arrV (cy 21) (mN h a) (fun j => .long (mJ h a j))).setSlot _ _) = _
  rw [arrV_store]
  congr 2
  funext j
  have e0 : mJ (setJ h a i.toNatClampNeg v) a j = if j = i.toNatClampNeg then v else mJ h a j := congrFun (u2_self (f := mJ h)) j
  rw [e0]
  by_cases hj : j = i.toNatClampNeg
  · rw [hj]; simp [updV]
  · simp [updV, hj]
theorem r_ln {f : Int32 → Option β} (C : Cx p R s m args meth c D cy MC MS DP cc nL own) (d : decode cc pc = .ok (.arraylength, 1)) (hF : ln h a f = some X) (kk : f (Int32.ofNat (mN h a)) = some X → WP p l e R s m args below meth c D cy base ρ0 h0 cs ss nL Q (pc + 1) ls (.int (Int32.ofNat (mN h a)) :: st) h) : WP p l e R s m args below meth c D cy base ρ0 h0 cs ss nL Q pc ls (.ref a :: st) h := by
  intro ρ H locs cells slots la h1 h2 h3 h4
  obtain ⟨hb, hF⟩ := ite_some hF
  have hne : mT h a = 20 ∨ mT h a = 21 ∨ mT h a = 22 ∨ mT h a = 23 ∨ mT h a = 24 ∨ mT h a = 25 ∨ mT h a = 26 ∨ mT h a = 27 := by omega
  have hk := kk hF ρ H locs cells slots la h1 h2 h3 ⟨trivial, h4.2⟩
  have rd : ∀ (t t0 : Nat) (ty : FieldType), mT h a = t → (t = 20 ∨ t = 21 ∨ t = 22 ∨ t = 24 ∨ t = 25 ∨ t = 26) → (tyL cy)[t0]? = some (cy t, ty) → W p l e R s m args below meth c H locs cells slots Q (F0 m pc la (.ref (ρ a) :: st.map (rv ρ))) := fun t t0 ty e1 e2 e4 =>
    va_alen (D := D) (cl := vwCl) C.1.1 C.1.2.1 C.2.1 (one_P (at_arr h1.1 e1 e2)) 0 t0 rfl e4 rfl d hk
  rcases hne with q | q | q | q | q | q | q | q
  · exact rd 20 0 _ q (by decide) rfl
  · exact rd 21 1 _ q (by decide) rfl
  · exact rd 22 2 _ q (by decide) rfl
  · obtain ⟨-, scr, q1, q2, q3, q4, -⟩ := h1.1.2.1 a q
    exact W.alen (n := Int32.ofNat (mN h a)) C.1.1 C.1.2.1 q1 q2 q4.2 rfl rfl d hk
  · exact rd 24 3 _ q (by decide) rfl
  · exact rd 25 4 _ q (by decide) rfl
  · exact rd 26 5 _ q (by decide) rfl
  · obtain ⟨-, scr, q1, q2, q3, q4⟩ := (h1.1.2.2.1 a q).resolve_left hb.2.2
    exact W.alen (n := Int32.ofNat (mN h a)) C.1.1 C.1.2.1 q1 q2 q4 rfl rfl d hk
end ARR
