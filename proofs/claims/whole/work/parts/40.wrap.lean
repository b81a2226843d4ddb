/-! ===== methods with a table of their own that catch all that comes: the law's wrappers ===== -/
def NC4 (U : State) : Prop := ∀ i j, (1 ≤ i ∧ i ≤ 4) → (1 ≤ j ∧ j ≤ 4) → i ≠ j → va_Nc (exN i) (exN j) U
theorem NC4.moved {u U : State} (hvm : u.vm.Alike U.vm) (h : NC4 u) : NC4 U := fun i j hi hj hn => va_Nc.moved hvm (h i j hi hj hn)
def CW (y : MethodName) (cc : ByteArray) (nL : Nat) (ret : Option FieldType) (hh : List (Nat × Nat × Nat × Nat)) (MC MS DP : Nat) (As : List Value) (h : PM) (r : Option Value) (h' : PM) : Prop :=
  ∀ (l : Launch) (D : va_G) (cy : Nat → ClassId) (base : Nat) (ρ : Nat → Nat), l.stackTraces = false → Met l y (Cond.codeWith y cc nL ret hh :: gw) (rmN MC MS DP) (fun v U => PR D cy base ρ h As v U ∧ NC4 U) (QR D cy base ρ h r h') MC MS (fun q => base ≤ q)
theorem CW_of {y : MethodName} {cc : ByteArray} {nL : Nat} {ret : Option FieldType} {hh : List (Nat × Nat × Nat × Nat)} {MC MS DP : Nat} {As : List Value} {h : PM} {r : Option Value} {h' : PM} {ls : List (Nat × Value)} (hy : plainName y.cls = true) (hn : ∀ ρ : Nat → Nat, (lg_sl (As.map (rv ρ))).length ≤ nL) (hls : lv_args 0 As = ls)
    (body : ∀ (p : Program) (l : Launch) (e : Env) (s : State) (m : MethodId) (args : Array Value) (below : List Frame) (meth : Method) (c : Code) (D : va_G) (cy : Nat → ClassId) (base : Nat) (ρ : Nat → Nat), l.stackTraces = false → Cx p (rmN MC MS DP) s m args meth c D cy MC MS DP cc nL y.cls → EV base ρ h s s.heap → NC4 s → c.exceptionTable.toList = tableOf hh → meth.sig.returnType = ret →
      WP p l e (rmN MC MS DP) s m args below meth c D cy base ρ h 0 0 nL (MQ below (QR D cy base ρ h r h') args s MC MS (fun q => base ≤ q)) 0 ls [] h) : CW y cc nL ret hh MC MS DP As h r h' := by
  intro l D cy base ρ hT
  refine va_MetW (cc := cc) (maxL := nL) (ret := ret) (hh := hh) hy rfl ?_
  intro p e s m args below meth c s₁ B hml hv
  obtain ⟨⟨rfl, hR, hK, hE, hb, hA⟩, hN⟩ := hv
  have hts := atoms_spec (ws := Cond.codeWith y cc nL ret hh :: gw) B.pre
  have hown : s.vm.findClass y.cls = some m.cls := findClass_of_methodNamed B.named
  have htb : c.exceptionTable.toList = tableOf hh := vx_table (x := y) B (hts _ List.mem_cons_self)
  have hl := lv_entry (As.map (rv ρ)) (n := nL) (hn ρ)
  rw [lg_entry_eq]
  generalize (lg_sl (As.map (rv ρ)) ++ List.replicate (nL - (lg_sl (As.map (rv ρ))).length) Slot.unset).toArray = la at hl ⊢
  rw [lv_args_mp, hls] at hl
  exact body p l e s m _ below meth c D cy base ρ hT ⟨⟨B.exec, B.bytes, hml, hown, fun w hw => hts w (List.mem_cons_of_mem _ hw)⟩, hK, B.notSynchronized, ⟨Nat.le_refl _, Nat.le_refl _, Nat.le_refl _, Nat.le_refl _⟩⟩ hE hN htb B.returns ρ s.heap [] 0 0 la
    ⟨hR, va_S.rf, ⟨Nat.le_refl _, Nat.le_refl _⟩, fun a z => ⟨z, rfl⟩, hb⟩ hl (by rw [← hls]; exact okL_args As 0 hA) trivial
/-- the row of a table that takes the exception x thrown at pc; behind its astore stands hp -/
def Catch (tab : List ExceptionTableEntry) (cc : ByteArray) (own : String) (nL pc x hp : Nat) : Prop :=
  ∃ (pre : List ExceptionTableEntry) (z : ExceptionTableEntry) (suf : List ExceptionTableEntry), tab = pre ++ z :: suf ∧ (∀ y ∈ pre, y.catchType ≠ 0 ∧ ∃ j, (1 ≤ j ∧ j ≤ 4) ∧ x ≠ j ∧ Cond.classLink own y.catchType (exN j) ∈ gw) ∧ covers z pc = true ∧ z.catchType ≠ 0 ∧ Cond.classLink own z.catchType (exN x) ∈ gw ∧ (1 ≤ x ∧ x ≤ 4) ∧
    ((∃ i, decode cc z.handlerPc = .ok (.astore i, 2) ∧ i < nL ∧ hp = z.handlerPc + 2) ∨ (∃ i : Fin 4, decode cc z.handlerPc = .ok (.astore_n i, 1) ∧ (i : Nat) < nL ∧ hp = z.handlerPc + 1))
theorem cx_self : ∀ x : Nat, (1 ≤ x ∧ x ≤ 4) → Cond.castable (exN x) (exN x) ∈ nw := by
  intro x hx
  rcases (show x = 1 ∨ x = 2 ∨ x = 3 ∨ x = 4 by omega) with rfl | rfl | rfl | rfl <;> decide +kernel
def wx (o : Option ((Nat ⊕ Int32) × PM)) (g : Nat → PM → Option (Int32 × PM)) (f : Int32 → PM → Option (Int32 × PM)) : Option (Int32 × PM) := match o with
  | none => none
  | some (.inl x, h) => g x h
  | some (.inr r, h) => f r h
theorem wx_some {o : Option ((Nat ⊕ Int32) × PM)} {g : Nat → PM → Option (Int32 × PM)} {f : Int32 → PM → Option (Int32 × PM)} {X : Int32 × PM} (hF : wx o g f = some X) : ∃ (rx : Nat ⊕ Int32) (h2 : PM), o = some (rx, h2) ∧ (∀ x, rx = .inl x → g x h2 = some X) ∧ (∀ r, rx = .inr r → f r h2 = some X) := by
  match o with
  | none => cases hF
  | some (.inl x, h) => exact ⟨.inl x, h, rfl, fun y hy => (by cases hy; exact hF), fun r hr => (by cases hr)⟩
  | some (.inr x, h) => exact ⟨.inr x, h, rfl, fun y hy => (by cases hy), fun r hr => (by cases hr; exact hF)⟩
section WR
variable {p : Program} {l : Launch} {e : Env} {R : Room} {s : State} {m : MethodId} {args : Array Value} {below : List Frame} {meth : Method} {c : Code}
variable {D : va_G} {cy : Nat → ClassId} {base : Nat} {ρ0 : Nat → Nat} {h0 : PM} {cs ss MC MS DP nL : Nat} {Q : State → Prop}
variable {cc : ByteArray} {own : String} {pc : Nat} {ls : List (Nat × Value)} {st stk : List Value} {h h' : PM}
variable {y : MethodName} {cc' : ByteArray} {nL' : Nat} {ret' : Option FieldType} {MC' MS' DP' n ix : Nat} {As : List Value} {r : Nat ⊕ Option Value}
theorem go_catch {x hp : Nat} {ρ : Nat → Nat} {H : Heap} {locs : List Loc} {cells slots : Nat} {la : Array Slot} {rest : List Value} {q9 : Addr} {ce : Cell} (C : Cx p R s m args meth c D cy MC MS DP cc nL own) (V : EV base ρ0 h0 s s.heap) (N : NC4 s) (K : Catch c.exceptionTable.toList cc own nL pc x hp)
    (h1 : SH D cy base s ρ0 h0 cs ss ρ H locs cells slots h) (hl : lv_has la nL (mp ρ ls)) (hq : H[q9]? = some ce) (hv : ce.vm = .none) (hcl : s.vm.findClass (exN x) = some ce.cls) (kk : WP p l e R s m args below meth c D cy base ρ0 h0 cs ss nL Q hp [] [] h) : vx_W p l e R s m args below meth c H locs cells slots Q (F0 m pc la rest) q9 := by
  obtain ⟨pre, z, suf, e1, e2, e3, e4, e5, e6, e7⟩ := K
  refine vx_catch C.1.2.2.2.1 pre z suf e1 (fun y hy => ?_) e3 e4 (C.1.2.2.2.2 _ e5) (va_Nw.use rfl (V.1 _ (cx_self x e6))) hq hv hcl ?_
  · obtain ⟨q1, j, q2, q3, q4⟩ := e2 y hy
    exact Or.inr ⟨q1, _, C.1.2.2.2.2 _ q4, N x j e6 q2 q3⟩
  · rcases e7 with ⟨i, d, hi, rfl⟩ | ⟨i, d, hi, rfl⟩
    · exact lv_astore (x := q9) C.1.1 C.1.2.1 d hl hi rfl (fun la2 hl2 => kk ρ H locs cells slots la2 h1 ⟨hl2.1, hl2.2.1, fun q hq => nomatch hq⟩ trivial trivial)
    · exact lv_astore_n (x := q9) C.1.1 C.1.2.1 d rfl hl hi rfl (fun la2 hl2 => kk ρ H locs cells slots la2 h1 ⟨hl2.1, hl2.2.1, fun q hq => nomatch hq⟩ trivial trivial)
theorem r_callVC {b ci N : Nat} {Cn : String} {T : u_T} (C : Cx p R s m args meth c D cy MC MS DP cc nL own) (d : decode cc pc = .ok (.invokevirtual ix, 3)) (V : EV base ρ0 h0 s s.heap) (hT : l.stackTraces = false) (NC : NC4 s) (K : Cal y cc' nL' ret' n) (Kc : Cls ci Cn T N) (hl : Cond.methodLink own ix y ∈ gw) (hs : Cond.instanceMethod y ∈ gw) (hse : Cond.selects Cn y y ∈ gw) (hb : mT h b = ci + 1) (hdp : DP' + 1 ≤ DP) (hAs : As.length = n) (hstk : stk = As.reverse ++ .ref b :: st) (h8 : (st.map fun v => v.category).sum ≤ 8) (hcs : cs + MC' ≤ MC) (hss : ss + MS' ≤ MS)
    (hM : CX y cc' nL' ret' MC' MS' DP' (.ref b :: As) h r h') (kx : ∀ x, r = .inl x → ∃ hp, Catch c.exceptionTable.toList cc own nL pc x hp ∧ WP p l e R s m args below meth c D cy base ρ0 h0 (cs + MC') (ss + MS') nL Q hp [] [] h') (kk : ∀ v, r = .inr v → WP p l e R s m args below meth c D cy base ρ0 h0 (cs + MC') (ss + MS') nL Q (pc + 3) ls (v.toList ++ st) h') : WP p l e R s m args below meth c D cy base ρ0 h0 cs ss nL Q pc ls stk h := by
  intro ρ H locs cells slots la h1 h2 h3 h4
  rw [hstk] at h4
  have hR := C.2.2.2
  have hb2 := h1.2.2.1
  have hst : stk.map (rv ρ) = (As.map (rv ρ)).reverse ++ .ref (ρ b) :: st.map (rv ρ) := by rw [hstk, List.map_append, List.map_reverse]; rfl
  refine go_callX h1 h2 h3 (okS_app h4).2.2 (vx_runV (As := As.map (rv ρ)) (b := ρ b) C.1 (hM l D cy base ρ hT) ⟨calB C K hl hdp, C.1.2.2.2.2 _ hs, C.1.2.2.2.2 _ hse⟩ ⟨PR_blind, rcv_of C Kc h1 hb, fun U hU hW => PR_of (As := .ref b :: As) C V h1 ⟨(okS_app h4).2.1, okS_rev h4⟩ U hU hW⟩ rfl (by rw [List.length_map]; exact hAs) h2.1 hst (by rw [cat_map]; exact (by show 2 * 0 + _ ≤ 8; omega)) d ⟨by omega, by omega⟩) (fun x hrx ρ' H1 locs1 q9 ce g1 g2 g3 g4 g5 _ => ?_) kk
  obtain ⟨hp, hc, hk⟩ := kx x hrx
  exact go_catch C V NC hc g1 g5 g2 g3 g4 hk
def CalW (y : MethodName) (cc' : ByteArray) (nL' : Nat) (ret' : Option FieldType) (hh : List (Nat × Nat × Nat × Nat)) (n : Nat) : Prop :=
  Cond.codeWith y cc' nL' ret' hh ∈ gw ∧ Cond.initialized y.cls ∈ gw ∧ (y.cls ≠ "java/lang/invoke/MethodHandle" ∧ y.cls ≠ "java/lang/invoke/VarHandle" ∧ (parseMethodDescriptor y.desc).map (fun d => d.parameters.length) = some n) ∧ nL' ≤ 40
theorem r_callSW {hh : List (Nat × Nat × Nat × Nat)} {r : Option Value} (C : Cx p R s m args meth c D cy MC MS DP cc nL own) (d : decode cc pc = .ok (.invokestatic ix, 3)) (V : EV base ρ0 h0 s s.heap) (hT : l.stackTraces = false) (NC : NC4 s) (K : CalW y cc' nL' ret' hh n) (hl : Cond.methodLink own ix y ∈ gw) (hs : Cond.static y ∈ gw) (hdp : DP' + 1 ≤ DP) (hAs : As.length = n) (hstk : stk = As.reverse ++ st) (h8 : (st.map fun v => v.category).sum ≤ 8) (hcs : cs + MC' ≤ MC) (hss : ss + MS' ≤ MS)
    (hM : CW y cc' nL' ret' hh MC' MS' DP' As h r h') (kk : WP p l e R s m args below meth c D cy base ρ0 h0 (cs + MC') (ss + MS') nL Q (pc + 3) ls (r.toList ++ st) h') : WP p l e R s m args below meth c D cy base ρ0 h0 cs ss nL Q pc ls stk h := by
  intro ρ H locs cells slots la h1 h2 h3 h4
  rw [hstk] at h4
  have hR := C.2.2.2
  have hb := h1.2.2.1
  have hG : GoodIn gw (va_wsS own ix y (Cond.codeWith y cc' nL' ret' hh :: gw)) := fun w hw => by
    have hm : w ∈ gw := by
      unfold va_wsS at hw
      simp only [List.cons_append, List.nil_append, List.mem_cons] at hw
      rcases hw with e | e | e | e | e
      · rw [e]; exact hl
      · rw [e]; exact hs
      · rw [e]; exact K.2.1
      · rw [e]; exact K.1
      · exact e
    exact ⟨hm, gw_good _ hm⟩
  refine go_call h1 h2 h3 (okS_app h4).2 (vx_runSW (As := As.map (rv ρ)) C.1 (hM l D cy base ρ hT) (vx_cwSW n C.1.2.2.2.2 hG rfl rfl rfl K.2.2.1 ⟨by show DP' + 1 ≤ _; omega, by show 8 + (nL' + 11) + 64 * DP' ≤ _; have := K.2.2.2; omega⟩) ⟨fun a U g mk q => ⟨PR_blind a U g mk q.1, NC4.moved (u := U) (U := U.calling g mk a) (Vm.Alike.refl U.vm) q.2⟩, fun U hU hW => ⟨PR_of C V h1 (okS_rev h4) U hU hW, NC4.moved hW.alike NC⟩⟩ rfl (by rw [List.length_map]; exact hAs) h2.1 (stk_map hstk) (by rw [cat_map]; exact (by show 2 * 0 + _ ≤ 8; omega)) d ⟨by omega, by omega⟩) kk
end WR
