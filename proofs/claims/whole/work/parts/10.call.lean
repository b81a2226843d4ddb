/-! ===== contracts over the pure memory; calls, returns ===== -/
theorem Rep.move {D : va_G} {cy : Nat → ClassId} {base : Nat} {ρ : Nat → Nat} {h : PM} {u U : State} {H : Heap} (hvm : u.vm.Alike U.vm) (hr : Rep D cy base ρ h u H) : Rep D cy base ρ h U H := by
  obtain ⟨r1, r2, r3, r4, r5⟩ := hr
  refine ⟨r1, fun a ha => ⟨(r2 a ha).1, va_XI.moved hvm (r2 a ha).2⟩, fun a ha => (r3 a ha).imp id fun hx => ?_, r4, r5⟩
  obtain ⟨hl, scr, q1, q2, q3⟩ := hx
  exact ⟨hl, scr, q1, State.isArrayOf_alike hvm q2, q3⟩
def PR (D : va_G) (cy : Nat → ClassId) (base : Nat) (ρ : Nat → Nat) (h : PM) (As : List Value) : Array Value → State → Prop := fun v U =>
  v = (As.map (rv ρ)).toArray ∧ Rep D cy base ρ h U U.heap ∧ va_K D vwCl (tyL cy) U ∧ EV base ρ h U U.heap ∧ base ≤ U.heap.size ∧ okS h As
def QR (D : va_G) (cy : Nat → ClassId) (base : Nat) (ρ : Nat → Nat) (h : PM) (r : Option Value) (h' : PM) : Array Value → State → Outcome → State → Prop := fun _ st oc t =>
  ∃ ρ' : Nat → Nat, oc = .returned (r.map (rv ρ')) ∧ (∀ a, mT h a ≠ 0 → mT h' a ≠ 0 ∧ ρ' a = ρ a) ∧ Rep D cy base ρ' h' t t.heap ∧ (∀ v, r = some v → okv h' v) ∧ va_F (fun q => base ≤ q) st t
/-- the names of the exceptions by their numbers -/
def exN (k : Nat) : String := if k = 1 then "java/lang/IndexOutOfBoundsException" else if k = 2 then "java/lang/IllegalArgumentException" else if k = 3 then "java/lang/IllegalStateException" else "java/util/NoSuchElementException"
def XR (D : va_G) (cy : Nat → ClassId) (base : Nat) (ρ : Nat → Nat) (h : PM) (x : Nat) (h' : PM) : String → State → State → Prop := fun E st t =>
  E = exN x ∧ ∃ ρ' : Nat → Nat, (∀ a, mT h a ≠ 0 → mT h' a ≠ 0 ∧ ρ' a = ρ a) ∧ Rep D cy base ρ' h' t t.heap ∧ va_F (fun q => base ≤ q) st t
def rmN (MC MS DP : Nat) : Room := { frames := DP, cells := MC, slots := MS, locals := 64 * DP }
/-- a method that returns: r, over the memory h' -/
def CN (y : MethodName) (cc : ByteArray) (nL : Nat) (ret : Option FieldType) (MC MS DP : Nat) (As : List Value) (h : PM) (r : Option Value) (h' : PM) : Prop :=
  ∀ (l : Launch) (D : va_G) (cy : Nat → ClassId) (base : Nat) (ρ : Nat → Nat), l.stackTraces = false → Met l y (Cond.code y cc nL ret :: gw) (rmN MC MS DP) (PR D cy base ρ h As) (QR D cy base ρ h r h') MC MS (fun q => base ≤ q)
/-- a method that returns r (.inr) or throws the exception of a number (.inl), over the memory h' -/
def CX (y : MethodName) (cc : ByteArray) (nL : Nat) (ret : Option FieldType) (MC MS DP : Nat) (As : List Value) (h : PM) (r : Nat ⊕ Option Value) (h' : PM) : Prop :=
  ∀ (l : Launch) (D : va_G) (cy : Nat → ClassId) (base : Nat) (ρ : Nat → Nat), l.stackTraces = false → vx_Met l y (Cond.code y cc nL ret :: gw) (rmN MC MS DP) (PR D cy base ρ h As)
    (fun a st o t => ∃ v, r = .inr v ∧ QR D cy base ρ h v h' a st o t) (fun E st t => ∃ x, r = .inl x ∧ XR D cy base ρ h x h' E st t) MC MS (fun q => base ≤ q)
theorem PR_blind {D : va_G} {cy : Nat → ClassId} {base : Nat} {ρ : Nat → Nat} {h : PM} {As : List Value} : FrameBlind (PR D cy base ρ h As) := fun a U g mk q => by
  obtain ⟨q0, q1, q2, q3, q4, q5⟩ := q
  exact ⟨q0, Rep.move (u := U) (U := U.calling g mk a) (Vm.Alike.refl U.vm) q1, va_K.moved (u := U) (U := U.calling g mk a) (Vm.Alike.refl U.vm) q2, EV.move (s := U) (U := U.calling g mk a) q3 (State.WarmedH.refl U) (fun _ _ _ => rfl) (fun _ z => ⟨z, rfl⟩), q4, q5⟩
theorem gw_good : ∀ w ∈ gw, (w.onTables && w.keeps) = true ∨ ∃ ty, w = .arrayClass ty := fun w hw => good_of_word (List.mem_filter.mp hw).2
theorem gw_in {w : Cond} (h : w ∈ gw) : GoodIn gw (w :: gw) := fun z hz => by
  rcases List.mem_cons.mp hz with e | e
  · subst e; exact ⟨h, gw_good _ h⟩
  · exact ⟨e, gw_good _ e⟩
theorem lv_args_mp {ρ : Nat → Nat} : ∀ (As : List Value) (k : Nat), lv_args k (As.map (rv ρ)) = mp ρ (lv_args k As)
  | [], _ => rfl
  | v :: t, k => by
    show lv_args k (rv ρ v :: t.map (rv ρ)) = mp ρ (lv_args k (v :: t))
    unfold lv_args
    rw [rv_cat, lv_args_mp t]
    rfl
theorem okL_args {h : PM} : ∀ (As : List Value) (k : Nat), okS h As → okL h (lv_args k As)
  | [], _, _ => trivial
  | v :: t, k, ho => by
    unfold lv_args
    exact ⟨ho.1, okL_args t _ ho.2⟩
section CALL
variable {p : Program} {l : Launch} {e : Env} {R : Room} {s : State} {m : MethodId} {args : Array Value} {below : List Frame} {meth : Method} {c : Code}
variable {D : va_G} {cy : Nat → ClassId} {base : Nat} {ρ0 : Nat → Nat} {h0 : PM} {cs ss MC MS DP nL : Nat} {Q Q' : State → Prop}
variable {cc : ByteArray} {own : String} {pc : Nat} {ls ls' : List (Nat × Value)} {st stk : List Value} {h h' : PM} {β : Type} {X : β}
theorem rv_ext {ρ ρ' : Nat → Nat} (hx : ∀ a, mT h a ≠ 0 → mT h' a ≠ 0 ∧ ρ' a = ρ a) {v : Value} (hv : okv h v) : rv ρ' v = rv ρ v := by
  cases v with
  | ref a => simp [rv, (hx a hv).2]
  | _ => rfl
theorem rvS_ext {ρ ρ' : Nat → Nat} (hx : ∀ a, mT h a ≠ 0 → mT h' a ≠ 0 ∧ ρ' a = ρ a) {st : List Value} (hv : okS h st) : st.map (rv ρ') = st.map (rv ρ) := by
  induction st with
  | nil => rfl
  | cons v t ih => rw [List.map_cons, List.map_cons, rv_ext hx hv.1, ih hv.2]
theorem mp_ext {ρ ρ' : Nat → Nat} (hx : ∀ a, mT h a ≠ 0 → mT h' a ≠ 0 ∧ ρ' a = ρ a) {ls : List (Nat × Value)} (hv : okL h ls) : mp ρ' ls = mp ρ ls := by
  induction ls with
  | nil => rfl
  | cons v t ih =>
    have := ih hv.2
    simp only [mp, List.map_cons] at this ⊢
    rw [rv_ext hx hv.1, this]
theorem WP.mono (hq : ∀ t, Q t → Q' t) (k : WP p l e R s m args below meth c D cy base ρ0 h0 cs ss nL Q pc ls st h) : WP p l e R s m args below meth c D cy base ρ0 h0 cs ss nL Q' pc ls st h := fun ρ H locs cells slots la h1 h2 h3 h4 T hT Xs => by
  obtain ⟨t, a1, b1⟩ := k ρ H locs cells slots la h1 h2 h3 h4 T hT Xs
  exact ⟨t, a1, hq t b1⟩
theorem WP.cnt {cs' ss' : Nat} (hc : cs ≤ cs') (hs : ss ≤ ss') (k : WP p l e R s m args below meth c D cy base ρ0 h0 cs' ss' nL Q pc ls st h) : WP p l e R s m args below meth c D cy base ρ0 h0 cs ss nL Q pc ls st h := fun ρ H locs cells slots la h1 h2 h3 h4 =>
  k ρ H locs cells slots la ⟨h1.1, h1.2.1, ⟨Nat.le_trans h1.2.2.1.1 hc, Nat.le_trans h1.2.2.1.2 hs⟩, h1.2.2.2⟩ h2 h3 h4
/-- the state behind a call or a return, over s again -/
theorem SH.after {ρ ρ' : Nat → Nat} {H H1 : Heap} {locs L : List Loc} {cells slots mc ms : Nat} {st₀ t : State} (h1 : SH D cy base s ρ0 h0 cs ss ρ H locs cells slots h) (e0 : st₀.heap = H) (e1 : H1 = t.heap) (hvm : s.vm.Alike t.vm) (hext : ∀ a, mT h a ≠ 0 → mT h' a ≠ 0 ∧ ρ' a = ρ a) (hrep : Rep D cy base ρ' h' t t.heap) (hF : va_F (fun q => base ≤ q) st₀ t) (hL : ∀ q ∈ L, base ≤ q.base) : SH D cy base s ρ0 h0 (cs + mc) (ss + ms) ρ' H1 (locs ++ L) (cells + mc) (slots + ms) h' := by
  obtain ⟨r1, r2, r3, r4, r5⟩ := h1
  obtain ⟨hz, hk⟩ := hF
  rw [e0] at hz hk
  subst e1
  refine ⟨Rep.move hvm.symm hrep, ⟨Nat.le_trans r2.1 hz, fun q q1 q2 => (hk q (Nat.lt_of_lt_of_le q1 r2.1) q2).trans (r2.2.1 q q1 q2), fun q hq => ?_⟩, ⟨by have := r3.1; omega, by have := r3.2; omega⟩, fun a ha => ⟨(hext a (r4 a ha).1).1, ((hext a (r4 a ha).1).2).trans (r4 a ha).2⟩, r5⟩
  rcases List.mem_append.mp hq with z | z
  · exact r2.2.2 q z
  · exact hL q z
theorem go_call {ρ : Nat → Nat} {H : Heap} {locs : List Loc} {cells slots mc ms : Nat} {la : Array Slot} {st0 : List Value} {r : Option Value} {aa : Array Value} (h1 : SH D cy base s ρ0 h0 cs ss ρ H locs cells slots h) (h2 : lv_has la nL (mp ρ ls)) (h3 : okL h ls) (h4 : okS h st)
    (hr : va_Run p l e R s m args below meth c H locs cells slots mc ms (F0 m pc la st0) (st.map (rv ρ)) (QR D cy base ρ h r h' aa) (fun q => base ≤ q)) (kk : WP p l e R s m args below meth c D cy base ρ0 h0 (cs + mc) (ss + ms) nL Q (pc + 3) ls (r.toList ++ st) h') : W p l e R s m args below meth c H locs cells slots Q (F0 m pc la st0) := by
  intro T hT Xs
  obtain ⟨v, st₀, t, T', L, e0, X', hL, e1, e2, ⟨ρ', hv, hext, hrep, hok, hF⟩, go⟩ := hr T hT Xs
  have hv : v = r.map (rv ρ') := Outcome.returned.inj hv
  have hvm : s.vm.Alike t.vm := by rw [← e2]; exact X'.warmed.alike
  have mono : ∀ b, mT h b ≠ 0 → mT h' b ≠ 0 := fun b hb => (hext b hb).1
  have hst : (r.toList ++ st).map (rv ρ') = v.toList ++ st.map (rv ρ) := by
    rw [List.map_append, rvS_ext hext h4, hv]
    cases r <;> rfl
  have hok2 : okS h' (r.toList ++ st) := by
    cases r with
    | none => exact okS_mono mono h4
    | some z => exact ⟨hok z rfl, okS_mono mono h4⟩
  have := kk ρ' T'.heap (locs ++ L) (cells + mc) (slots + ms) la (h1.after e0 e1 hvm hext hrep hF hL) (by rw [mp_ext hext h3]; exact h2) (okL_mono mono h3) hok2
  rw [hst] at this
  obtain ⟨t2, a1, b1⟩ := this T' rfl X'
  exact ⟨t2, go t2 a1, b1⟩
theorem PR_of {ρ : Nat → Nat} {H : Heap} {locs : List Loc} {cells slots : Nat} {As : List Value} (C : Cx p R s m args meth c D cy MC MS DP cc nL own) (V : EV base ρ0 h0 s s.heap) (h1 : SH D cy base s ρ0 h0 cs ss ρ H locs cells slots h) (hA : okS h As) (U : State) (hU : U.heap = H) (hW : s.WarmedH U.vm) : PR D cy base ρ h As (As.map (rv ρ)).toArray U :=
  ⟨rfl, by rw [hU]; exact Rep.move hW.alike h1.1, va_K.moved hW.alike C.2.1, by rw [hU]; exact EV.move V hW h1.2.1.2.1 h1.2.2.2.1, by rw [hU]; exact Nat.le_trans h1.2.2.2.2 h1.2.1.1, hA⟩
theorem okS_app {a b : List Value} (ho : okS h (a ++ b)) : okS h a ∧ okS h b := by
  induction a with
  | nil => exact ⟨trivial, ho⟩
  | cons v t ih => exact ⟨⟨ho.1, (ih ho.2).1⟩, (ih ho.2).2⟩
theorem okS_mem (ho : okS h st) {v : Value} (hv : v ∈ st) : okv h v := by
  induction st with
  | nil => cases hv
  | cons w t ih =>
    rcases List.mem_cons.mp hv with e | e
    · rw [e]; exact ho.1
    · exact ih ho.2 e
theorem okS_of (hh : ∀ v ∈ st, okv h v) : okS h st := by
  induction st with
  | nil => trivial
  | cons w t ih => exact ⟨hh w List.mem_cons_self, ih (fun x hx => hh x (List.mem_cons_of_mem _ hx))⟩
theorem okS_rev {As : List Value} (ho : okS h (As.reverse ++ st)) : okS h As := okS_of fun v hv => okS_mem (okS_app ho).1 (List.mem_reverse.mpr hv)
theorem cat_map {ρ : Nat → Nat} : ((st.map (rv ρ)).map fun v => v.category) = st.map fun v => v.category := by
  rw [List.map_map]
  exact List.map_congr_left fun v _ => rv_cat ρ v
theorem stk_map {ρ : Nat → Nat} {As : List Value} (hstk : stk = As.reverse ++ st) : stk.map (rv ρ) = (As.map (rv ρ)).reverse ++ st.map (rv ρ) := by
  rw [hstk, List.map_append, List.map_reverse]
variable {y : MethodName} {cc' : ByteArray} {nL' : Nat} {ret' : Option FieldType} {MC' MS' DP' n ix : Nat} {As : List Value} {r : Option Value}
/-- a callee's words in gw, its depth, its room -/
def Cal (y : MethodName) (cc' : ByteArray) (nL' : Nat) (ret' : Option FieldType) (n : Nat) : Prop :=
  Cond.code y cc' nL' ret' ∈ gw ∧ Cond.initialized y.cls ∈ gw ∧ (y.cls ≠ "java/lang/invoke/MethodHandle" ∧ y.cls ≠ "java/lang/invoke/VarHandle" ∧ (parseMethodDescriptor y.desc).map (fun d => d.parameters.length) = some n) ∧ nL' ≤ 40
theorem calB (C : Cx p R s m args meth c D cy MC MS DP cc nL own) (K : Cal y cc' nL' ret' n) (hl : Cond.methodLink own ix y ∈ gw) (hdp : DP' + 1 ≤ DP) : CallB R s args own ix y cc' nL' ret' (Cond.code y cc' nL' ret' :: gw) (rmN MC' MS' DP') MC' MS' n := by
  have hts := C.1.2.2.2.2
  have hR := C.2.2.2
  refine callB_of n hts (gw_in K.1) rfl rfl rfl (hts _ K.2.1) (hts _ hl) K.2.2.1 ⟨by show DP' + 1 ≤ _; omega, ?_⟩
  show 8 + (nL' + 11) + 64 * DP' ≤ _
  have := K.2.2.2
  omega
theorem r_callS (C : Cx p R s m args meth c D cy MC MS DP cc nL own) (d : decode cc pc = .ok (.invokestatic ix, 3)) (V : EV base ρ0 h0 s s.heap) (hT : l.stackTraces = false) (K : Cal y cc' nL' ret' n) (hl : Cond.methodLink own ix y ∈ gw) (hs : Cond.static y ∈ gw) (hdp : DP' + 1 ≤ DP) (hAs : As.length = n) (hstk : stk = As.reverse ++ st) (h8 : (st.map fun v => v.category).sum ≤ 8) (hcs : cs + MC' ≤ MC) (hss : ss + MS' ≤ MS)
    (hM : CN y cc' nL' ret' MC' MS' DP' As h r h') (kk : WP p l e R s m args below meth c D cy base ρ0 h0 (cs + MC') (ss + MS') nL Q (pc + 3) ls (r.toList ++ st) h') : WP p l e R s m args below meth c D cy base ρ0 h0 cs ss nL Q pc ls stk h := by
  intro ρ H locs cells slots la h1 h2 h3 h4
  rw [hstk] at h4
  have hR := C.2.2.2
  have hb := h1.2.2.1
  refine go_call h1 h2 h3 (okS_app h4).2 (va_runS (As := As.map (rv ρ)) C.1 (hM l D cy base ρ hT) ⟨calB C K hl hdp, C.1.2.2.2.2 _ hs⟩ ⟨PR_blind, fun U hU hW => PR_of C V h1 (okS_rev h4) U hU hW⟩ rfl (by rw [List.length_map]; exact hAs) h2.1 (stk_map hstk) (by rw [cat_map]; exact (by show 2 * 0 + _ ≤ 8; omega)) d ⟨by omega, by omega⟩) kk
theorem r_callI {b : Nat} (C : Cx p R s m args meth c D cy MC MS DP cc nL own) (d : decode cc pc = .ok (.invokespecial ix, 3)) (V : EV base ρ0 h0 s s.heap) (hT : l.stackTraces = false) (K : Cal y cc' nL' none n) (hl : Cond.methodLink own ix y ∈ gw) (hs : Cond.instanceMethod y ∈ gw) (hy : y.name = "<init>") (hdp : DP' + 1 ≤ DP) (hAs : As.length = n) (hstk : stk = As.reverse ++ .ref b :: st) (h8 : (st.map fun v => v.category).sum ≤ 8) (hcs : cs + MC' ≤ MC) (hss : ss + MS' ≤ MS)
    (hM : CN y cc' nL' none MC' MS' DP' (.ref b :: As) h none h') (kk : WP p l e R s m args below meth c D cy base ρ0 h0 (cs + MC') (ss + MS') nL Q (pc + 3) ls st h') : WP p l e R s m args below meth c D cy base ρ0 h0 cs ss nL Q pc ls stk h := by
  intro ρ H locs cells slots la h1 h2 h3 h4
  rw [hstk] at h4
  have hR := C.2.2.2
  have hb := h1.2.2.1
  have hst : stk.map (rv ρ) = (As.map (rv ρ)).reverse ++ .ref (ρ b) :: st.map (rv ρ) := by rw [hstk, List.map_append, List.map_reverse]; rfl
  refine go_call (r := none) h1 h2 h3 (okS_app h4).2.2 (va_runI (As := As.map (rv ρ)) (b := ρ b) C.1 (hM l D cy base ρ hT) ⟨calB C K hl hdp, hy, C.1.2.2.2.2 _ hs⟩ ⟨PR_blind, fun U hU hW => PR_of (As := .ref b :: As) C V h1 ⟨(okS_app h4).2.1, okS_rev h4⟩ U hU hW⟩ rfl (by rw [List.length_map]; exact hAs) h2.1 hst (by rw [cat_map]; exact (by show 2 * 0 + _ ≤ 8; omega)) d ⟨by omega, by omega⟩) kk
theorem rcv_of {b ci N : Nat} {Cn : String} {T : u_T} {ρ : Nat → Nat} {H : Heap} {locs : List Loc} {cells slots : Nat} (C : Cx p R s m args meth c D cy MC MS DP cc nL own) (K : Cls ci Cn T N) (h1 : SH D cy base s ρ0 h0 cs ss ρ H locs cells slots h) (hb : mT h b = ci + 1) : ∃ cell : Cell, H[ρ b]? = some cell ∧ cell.vm.isStatics = false ∧ s.vm.findClass Cn = some cell.cls := by
  have hat := (h1.1.1 b (own_obj K.2.2.2.2.2.1 hb)).2
  rw [en_obj hb K.2.2.2.2.2.1 K.2.2.2.2.1] at hat
  exact va_recv (D := D) (q := (Cn, T, N)) C.2.1 (one_P hat) K.1 (q0 := 0) rfl
theorem r_callV {b ci N : Nat} {Cn : String} {T : u_T} (C : Cx p R s m args meth c D cy MC MS DP cc nL own) (d : decode cc pc = .ok (.invokevirtual ix, 3)) (V : EV base ρ0 h0 s s.heap) (hT : l.stackTraces = false) (K : Cal y cc' nL' ret' n) (Kc : Cls ci Cn T N) (hl : Cond.methodLink own ix y ∈ gw) (hs : Cond.instanceMethod y ∈ gw) (hse : Cond.selects Cn y y ∈ gw) (hb : mT h b = ci + 1) (hdp : DP' + 1 ≤ DP) (hAs : As.length = n) (hstk : stk = As.reverse ++ .ref b :: st) (h8 : (st.map fun v => v.category).sum ≤ 8) (hcs : cs + MC' ≤ MC) (hss : ss + MS' ≤ MS)
    (hM : CN y cc' nL' ret' MC' MS' DP' (.ref b :: As) h r h') (kk : WP p l e R s m args below meth c D cy base ρ0 h0 (cs + MC') (ss + MS') nL Q (pc + 3) ls (r.toList ++ st) h') : WP p l e R s m args below meth c D cy base ρ0 h0 cs ss nL Q pc ls stk h := by
  intro ρ H locs cells slots la h1 h2 h3 h4
  rw [hstk] at h4
  have hR := C.2.2.2
  have hb2 := h1.2.2.1
  have hst : stk.map (rv ρ) = (As.map (rv ρ)).reverse ++ .ref (ρ b) :: st.map (rv ρ) := by rw [hstk, List.map_append, List.map_reverse]; rfl
  refine go_call h1 h2 h3 (okS_app h4).2.2 (va_runV (As := As.map (rv ρ)) (b := ρ b) C.1 (hM l D cy base ρ hT) ⟨calB C K hl hdp, C.1.2.2.2.2 _ hs, C.1.2.2.2.2 _ hse⟩ ⟨PR_blind, rcv_of C Kc h1 hb, fun U hU hW => PR_of (As := .ref b :: As) C V h1 ⟨(okS_app h4).2.1, okS_rev h4⟩ U hU hW⟩ rfl (by rw [List.length_map]; exact hAs) h2.1 hst (by rw [cat_map]; exact (by show 2 * 0 + _ ≤ 8; omega)) d ⟨by omega, by omega⟩) kk
theorem calN {host : String} (C : Cx p R s m args meth c D cy MC MS DP cc nL own) (V : EV base ρ0 h0 s s.heap) (K : Cal y cc' nL' ret' n) (hl : Cond.methodLinkNest own ix y host ∈ nw) (hdp : DP' + 1 ≤ DP) : va_CN R s args own ix y host cc' nL' ret' (Cond.code y cc' nL' ret' :: gw) (rmN MC' MS' DP') MC' MS' n := by
  have hts := C.1.2.2.2.2
  have hR := C.2.2.2
  refine va_cnB n hts (gw_in K.1) rfl rfl rfl (V.1 _ hl) (hts _ K.2.1) K.2.2.1 ⟨by show DP' + 1 ≤ _; omega, ?_⟩
  show 8 + (nL' + 11) + 64 * DP' ≤ _
  have := K.2.2.2
  omega
theorem r_callSN {host : String} (C : Cx p R s m args meth c D cy MC MS DP cc nL own) (d : decode cc pc = .ok (.invokestatic ix, 3)) (V : EV base ρ0 h0 s s.heap) (hT : l.stackTraces = false) (K : Cal y cc' nL' ret' n) (hl : Cond.methodLinkNest own ix y host ∈ nw) (hs : Cond.static y ∈ gw) (hdp : DP' + 1 ≤ DP) (hAs : As.length = n) (hstk : stk = As.reverse ++ st) (h8 : (st.map fun v => v.category).sum ≤ 8) (hcs : cs + MC' ≤ MC) (hss : ss + MS' ≤ MS)
    (hM : CN y cc' nL' ret' MC' MS' DP' As h r h') (kk : WP p l e R s m args below meth c D cy base ρ0 h0 (cs + MC') (ss + MS') nL Q (pc + 3) ls (r.toList ++ st) h') : WP p l e R s m args below meth c D cy base ρ0 h0 cs ss nL Q pc ls stk h := by
  intro ρ H locs cells slots la h1 h2 h3 h4
  rw [hstk] at h4
  have hR := C.2.2.2
  have hb := h1.2.2.1
  refine go_call h1 h2 h3 (okS_app h4).2 (va_runSN (As := As.map (rv ρ)) C.1 (hM l D cy base ρ hT) ⟨calN C V K hl hdp, C.1.2.2.2.2 _ hs, trivial⟩ ⟨PR_blind, fun U hU hW => PR_of C V h1 (okS_rev h4) U hU hW⟩ rfl (by rw [List.length_map]; exact hAs) h2.1 (stk_map hstk) (by rw [cat_map]; exact (by show 2 * 0 + _ ≤ 8; omega)) d ⟨by omega, by omega⟩) kk
theorem r_callIN {b : Nat} {host : String} (C : Cx p R s m args meth c D cy MC MS DP cc nL own) (d : decode cc pc = .ok (.invokespecial ix, 3)) (V : EV base ρ0 h0 s s.heap) (hT : l.stackTraces = false) (K : Cal y cc' nL' none n) (hl : Cond.methodLinkNest own ix y host ∈ nw) (hs : Cond.instanceMethod y ∈ gw) (hy : y.name = "<init>") (hdp : DP' + 1 ≤ DP) (hAs : As.length = n) (hstk : stk = As.reverse ++ .ref b :: st) (h8 : (st.map fun v => v.category).sum ≤ 8) (hcs : cs + MC' ≤ MC) (hss : ss + MS' ≤ MS)
    (hM : CN y cc' nL' none MC' MS' DP' (.ref b :: As) h none h') (kk : WP p l e R s m args below meth c D cy base ρ0 h0 (cs + MC') (ss + MS') nL Q (pc + 3) ls st h') : WP p l e R s m args below meth c D cy base ρ0 h0 cs ss nL Q pc ls stk h := by
  intro ρ H locs cells slots la h1 h2 h3 h4
  rw [hstk] at h4
  have hR := C.2.2.2
  have hb := h1.2.2.1
  have hst : stk.map (rv ρ) = (As.map (rv ρ)).reverse ++ .ref (ρ b) :: st.map (rv ρ) := by rw [hstk, List.map_append, List.map_reverse]; rfl
  refine go_call (r := none) h1 h2 h3 (okS_app h4).2.2 (va_runIN (As := As.map (rv ρ)) (b := ρ b) C.1 (hM l D cy base ρ hT) ⟨calN C V K hl hdp, hy, C.1.2.2.2.2 _ hs⟩ ⟨PR_blind, fun U hU hW => PR_of (As := .ref b :: As) C V h1 ⟨(okS_app h4).2.1, okS_rev h4⟩ U hU hW⟩ rfl (by rw [List.length_map]; exact hAs) h2.1 hst (by rw [cat_map]; exact (by show 2 * 0 + _ ≤ 8; omega)) d ⟨by omega, by omega⟩) kk
theorem r_objInit {b : Nat} (C : Cx p R s m args meth c D cy MC MS DP cc nL own) (d : decode cc pc = .ok (.invokespecial ix, 3)) (hl : Cond.methodLink own ix objectInit ∈ gw) (hs : Cond.instanceMethod objectInit ∈ gw) (hc : Cond.code objectInit ⟨#[0xb1]⟩ 1 none ∈ gw) (hdp : 1 ≤ DP) (h8 : (st.map fun v => v.category).sum ≤ 8)
    (kk : WP p l e R s m args below meth c D cy base ρ0 h0 cs ss nL Q (pc + 3) ls st h) : WP p l e R s m args below meth c D cy base ρ0 h0 cs ss nL Q pc ls (.ref b :: st) h := by
  intro ρ H locs cells slots la h1 h2 h3 h4
  have hts := C.1.2.2.2.2
  have hR := C.2.2.2
  exact W.objInit C.1.1 C.1.2.1 C.1.2.2.2.1 (hts _ hl) (hts _ hs) (hts _ hc) rfl (by rw [C.1.2.2.1]; exact h2.1) rfl d (by omega) (by rw [cat_map]; show 2 * 0 + _ + 12 ≤ _; omega) (kk ρ H locs cells slots la h1 h2 h3 h4.2)
/-! returns -/
theorem QR_of {ρ : Nat → Nat} {H : Heap} {locs : List Loc} {cells slots : Nat} {aa : Array Value} (h1 : SH D cy base s ρ0 h0 cs ss ρ H locs cells slots h) (hr : ∀ v, r = some v → okv h v) (t : State) (ht : t.heap = H) (hW : s.WarmedH t.vm) : QR D cy base ρ0 h0 r h aa s (.returned (r.map (rv ρ))) t :=
  ⟨ρ, rfl, h1.2.2.2.1, by rw [ht]; exact Rep.move hW.alike h1.1, hr, h1.2.1.F ht⟩
theorem r_iret {v : Int32} (C : Cx p R s m args meth c D cy MC MS DP cc nL own) (d : decode cc pc = .ok (.ireturn, 1)) (hr : meth.sig.returnType = some .int) (hc : cs ≤ MC) (hs : ss ≤ MS) : WP p l e R s m args below meth c D cy base ρ0 h0 cs ss nL (MQ below (QR D cy base ρ0 h0 (some (.int v)) h) args s MC MS (fun q => base ≤ q)) pc ls [.int v] h := by
  intro ρ H locs cells slots la h1 h2 h3 h4
  have hb := h1.2.2.1
  refine W.widen (k := MC) (n := MS) (by omega) (by omega) ?_
  exact W.iret C.1.1 C.1.2.1 hr (fun t ht hW => QR_of h1 (fun v hv => by cases hv; trivial) t ht hW) h1.2.1.2.2 d C.2.2.1
theorem r_zret {v : Int32} (C : Cx p R s m args meth c D cy MC MS DP cc nL own) (d : decode cc pc = .ok (.ireturn, 1)) (hr : meth.sig.returnType = some .boolean) (hv : v = 0 ∨ v = 1) (hc : cs ≤ MC) (hs : ss ≤ MS) : WP p l e R s m args below meth c D cy base ρ0 h0 cs ss nL (MQ below (QR D cy base ρ0 h0 (some (.int v)) h) args s MC MS (fun q => base ≤ q)) pc ls [.int v] h := by
  intro ρ H locs cells slots la h1 h2 h3 h4
  have hb := h1.2.2.1
  refine W.widen (k := MC) (n := MS) (by omega) (by omega) ?_
  exact W.zret C.1.1 C.1.2.1 hr (by rcases hv with q | q <;> subst q <;> decide) (fun t ht hW => QR_of h1 (fun v hv => by cases hv; trivial) t ht hW) h1.2.1.2.2 d C.2.2.1
theorem r_lret {v : Int64} (C : Cx p R s m args meth c D cy MC MS DP cc nL own) (d : decode cc pc = .ok (.lreturn, 1)) (hr : meth.sig.returnType = some .long) (hc : cs ≤ MC) (hs : ss ≤ MS) : WP p l e R s m args below meth c D cy base ρ0 h0 cs ss nL (MQ below (QR D cy base ρ0 h0 (some (.long v)) h) args s MC MS (fun q => base ≤ q)) pc ls [.long v] h := by
  intro ρ H locs cells slots la h1 h2 h3 h4
  have hb := h1.2.2.1
  refine W.widen (k := MC) (n := MS) (by omega) (by omega) ?_
  exact W.lret C.1.1 C.1.2.1 hr (fun t ht hW => QR_of h1 (fun v hv => by cases hv; trivial) t ht hW) h1.2.1.2.2 d C.2.2.1
theorem r_aret {v : Nat} {rt : FieldType} (C : Cx p R s m args meth c D cy MC MS DP cc nL own) (d : decode cc pc = .ok (.areturn, 1)) (hr : meth.sig.returnType = some rt) (hrt : (∃ n, rt = .object n) ∨ ∃ t, rt = .array t) (hc : cs ≤ MC) (hs : ss ≤ MS) : WP p l e R s m args below meth c D cy base ρ0 h0 cs ss nL (MQ below (QR D cy base ρ0 h0 (some (.ref v)) h) args s MC MS (fun q => base ≤ q)) pc ls [.ref v] h := by
  intro ρ H locs cells slots la h1 h2 h3 h4
  have hb := h1.2.2.1
  refine W.widen (k := MC) (n := MS) (by omega) (by omega) ?_
  exact W.aret C.1.1 C.1.2.1 hr hrt (Or.inr ⟨_, rfl⟩) (fun t ht hW => QR_of (r := some (.ref v)) h1 (fun z hz => by cases hz; exact h4.1) t ht hW) h1.2.1.2.2 d C.2.2.1
theorem r_vret (C : Cx p R s m args meth c D cy MC MS DP cc nL own) (d : decode cc pc = .ok (.return_, 1)) (hr : meth.sig.returnType = none) (hc : cs ≤ MC) (hs : ss ≤ MS) : WP p l e R s m args below meth c D cy base ρ0 h0 cs ss nL (MQ below (QR D cy base ρ0 h0 none h) args s MC MS (fun q => base ≤ q)) pc ls [] h := by
  intro ρ H locs cells slots la h1 h2 h3 h4
  have hb := h1.2.2.1
  refine W.widen (k := MC) (n := MS) (by omega) (by omega) ?_
  exact W.vret C.1.1 C.1.2.1 hr (fun t ht hW => QR_of (r := none) h1 (fun v hv => by cases hv) t ht hW) h1.2.1.2.2 d C.2.2.1
end CALL
/-- a method's contract out of the walk of its body -/
theorem CN_of {y : MethodName} {cc : ByteArray} {nL : Nat} {ret : Option FieldType} {MC MS DP : Nat} {As : List Value} {h : PM} {r : Option Value} {h' : PM} {ls : List (Nat × Value)} (hy : plainName y.cls = true) (hn : ∀ ρ : Nat → Nat, (lg_sl (As.map (rv ρ))).length ≤ nL) (hls : lv_args 0 As = ls)
    (body : ∀ (p : Program) (l : Launch) (e : Env) (s : State) (m : MethodId) (args : Array Value) (below : List Frame) (meth : Method) (c : Code) (D : va_G) (cy : Nat → ClassId) (base : Nat) (ρ : Nat → Nat), l.stackTraces = false → Cx p (rmN MC MS DP) s m args meth c D cy MC MS DP cc nL y.cls → EV base ρ h s s.heap → meth.sig.returnType = ret → meth.name = y.name →
      WP p l e (rmN MC MS DP) s m args below meth c D cy base ρ h 0 0 nL (MQ below (QR D cy base ρ h r h') args s MC MS (fun q => base ≤ q)) 0 ls [] h) : CN y cc nL ret MC MS DP As h r h' := by
  intro l D cy base ρ hT
  refine Met.ofW (cc := cc) (maxL := nL) (ret := ret) hy rfl ?_
  intro p e s m args below meth c s₁ B hml hv
  obtain ⟨rfl, hR, hK, hE, hb, hA⟩ := hv
  have hts := atoms_spec (ws := Cond.code y cc nL ret :: gw) B.pre
  have hown : s.vm.findClass y.cls = some m.cls := findClass_of_methodNamed B.named
  have hl := lv_entry (As.map (rv ρ)) (n := nL) (hn ρ)
  rw [lg_entry_eq]
  generalize (lg_sl (As.map (rv ρ)) ++ List.replicate (nL - (lg_sl (As.map (rv ρ))).length) Slot.unset).toArray = la at hl ⊢
  rw [lv_args_mp, hls] at hl
  exact body p l e s m _ below meth c D cy base ρ hT ⟨⟨B.exec, B.bytes, hml, hown, fun w hw => hts w (List.mem_cons_of_mem _ hw)⟩, hK, B.notSynchronized, ⟨Nat.le_refl _, Nat.le_refl _, Nat.le_refl _, Nat.le_refl _⟩⟩ hE B.returns (name_of_methodNamed B.named B.method).1 ρ s.heap [] 0 0 la
    ⟨hR, va_S.rf, ⟨Nat.le_refl _, Nat.le_refl _⟩, fun a z => ⟨z, rfl⟩, hb⟩ hl (by rw [← hls]; exact okL_args As 0 hA) trivial
