/-! ===== methods that may throw ===== -/
theorem Rep.keep {D : va_G} {cy : Nat → ClassId} {base : Nat} {ρ : Nat → Nat} {h : PM} {U : State} {H H1 : Heap} (hr : Rep D cy base ρ h U H) (hk : ∀ q : Nat, q < H.size → H1[q]? = H[q]?) : Rep D cy base ρ h U H1 := by
  obtain ⟨r1, r2, r3, r4, r5⟩ := hr
  refine ⟨fun a ha => ⟨(r1 a ha).1, (r1 a ha).2.kept (hk _ (r1 a ha).2.lt)⟩, fun a ha => ⟨(r2 a ha).1, ?_⟩, fun a ha => (r3 a ha).imp id fun hx => ?_, r4, r5⟩
  · have hx := (r2 a ha).2
    obtain ⟨scr, q, -⟩ := id hx
    exact hx.kept (hk _ (Array.getElem?_eq_some_iff.mp q).1)
  · obtain ⟨hl, scr, q, q2⟩ := hx
    exact ⟨hl, scr, by rw [hk _ (Array.getElem?_eq_some_iff.mp q).1]; exact q, q2⟩
def rX {α : Type} (v : α → Option Value) (x : Nat ⊕ α) : Nat ⊕ Option Value := match x with
  | .inl x => .inl x
  | .inr a => .inr (v a)
def QX (D : va_G) (cy : Nat → ClassId) (base : Nat) (ρ : Nat → Nat) (h : PM) (r : Nat ⊕ Option Value) (h' : PM) (below : List Frame) (args : Array Value) (s : State) (MC MS : Nat) : State → Prop :=
  vx_MQ below (fun a st o t => ∃ v, r = .inr v ∧ QR D cy base ρ h v h' a st o t) (fun E st t => ∃ x, r = .inl x ∧ XR D cy base ρ h x h' E st t) args s MC MS (fun q => base ≤ q)
def cx {α γ : Type} (o : Option ((Nat ⊕ α) × PM)) (f : α → PM → Option ((Nat ⊕ γ) × PM)) : Option ((Nat ⊕ γ) × PM) := match o with
  | none => none
  | some (.inl x, h) => some (.inl x, h)
  | some (.inr r, h) => f r h
theorem cx_some {α γ : Type} {o : Option ((Nat ⊕ α) × PM)} {f : α → PM → Option ((Nat ⊕ γ) × PM)} {X : (Nat ⊕ γ) × PM} (h : cx o f = some X) : ∃ (x : Nat ⊕ α) (h' : PM), o = some (x, h') ∧ (∀ k, x = .inl k → X = (.inl k, h')) ∧ ∀ r, x = .inr r → f r h' = some X := by
  match o, h with
  | some (.inl x, h'), h => exact ⟨.inl x, h', rfl, (fun k hk => by cases hk; exact (Option.some.inj h).symm), (fun r hr => by cases hr)⟩
  | some (.inr r, h'), h => exact ⟨.inr r, h', rfl, (fun k hk => by cases hk), (fun r hr => by cases hr; exact h)⟩
def rzX (v : Int32) (h : PM) : Option ((Nat ⊕ Int32) × PM) := if v = 0 ∨ v = 1 then some (.inr v, h) else none
section THR
variable {p : Program} {l : Launch} {e : Env} {R : Room} {s : State} {m : MethodId} {args : Array Value} {below : List Frame} {meth : Method} {c : Code}
variable {D : va_G} {cy : Nat → ClassId} {base : Nat} {ρ0 : Nat → Nat} {h0 : PM} {cs ss MC MS DP nL : Nat} {Q : State → Prop}
variable {cc : ByteArray} {own : String} {pc : Nat} {ls : List (Nat × Value)} {st stk : List Value} {h h' : PM} {α : Type}
theorem toX {v : Option Value} (k : WP p l e R s m args below meth c D cy base ρ0 h0 cs ss nL (MQ below (QR D cy base ρ0 h0 v h') args s MC MS (fun q => base ≤ q)) pc ls st h) : WP p l e R s m args below meth c D cy base ρ0 h0 cs ss nL (QX D cy base ρ0 h0 (.inr v) h' below args s MC MS) pc ls st h :=
  WP.mono (fun t ⟨o, b1, b2, b3, b4⟩ => ⟨o, b1, b2, Or.inl ⟨⟨v, rfl, b3⟩, b4⟩⟩) k
theorem k_iretX {v : Int32} {X : (Nat ⊕ Int32) × PM} (C : Cx p R s m args meth c D cy MC MS DP cc nL own) (d : decode cc pc = .ok (.ireturn, 1)) (hr : meth.sig.returnType = some .int) (hc : cs ≤ MC) (hs : ss ≤ MS) (hF : some (.inr v, h) = some X) : WP p l e R s m args below meth c D cy base ρ0 h0 cs ss nL (QX D cy base ρ0 h0 (rX (fun v => some (.int v)) X.1) X.2 below args s MC MS) pc ls [.int v] h := by
  cases hF
  exact toX (r_iret C d hr hc hs)
theorem k_zretX {v : Int32} {X : (Nat ⊕ Int32) × PM} (C : Cx p R s m args meth c D cy MC MS DP cc nL own) (d : decode cc pc = .ok (.ireturn, 1)) (hr : meth.sig.returnType = some .boolean) (hc : cs ≤ MC) (hs : ss ≤ MS) (hF : rzX v h = some X) : WP p l e R s m args below meth c D cy base ρ0 h0 cs ss nL (QX D cy base ρ0 h0 (rX (fun v => some (.int v)) X.1) X.2 below args s MC MS) pc ls [.int v] h := by
  obtain ⟨hv, hF⟩ := ite_some hF
  cases hF
  exact toX (r_zret C d hr hv hc hs)
theorem k_lretX {v : Int64} {X : (Nat ⊕ Int64) × PM} (C : Cx p R s m args meth c D cy MC MS DP cc nL own) (d : decode cc pc = .ok (.lreturn, 1)) (hr : meth.sig.returnType = some .long) (hc : cs ≤ MC) (hs : ss ≤ MS) (hF : some (.inr v, h) = some X) : WP p l e R s m args below meth c D cy base ρ0 h0 cs ss nL (QX D cy base ρ0 h0 (rX (fun v => some (.long v)) X.1) X.2 below args s MC MS) pc ls [.long v] h := by
  cases hF
  exact toX (r_lret C d hr hc hs)
theorem k_aretX {v : Nat} {rt : FieldType} {X : (Nat ⊕ Nat) × PM} (C : Cx p R s m args meth c D cy MC MS DP cc nL own) (d : decode cc pc = .ok (.areturn, 1)) (hr : meth.sig.returnType = some rt) (hrt : (∃ n, rt = .object n) ∨ ∃ t, rt = .array t) (hc : cs ≤ MC) (hs : ss ≤ MS) (hF : some (.inr v, h) = some X) : WP p l e R s m args below meth c D cy base ρ0 h0 cs ss nL (QX D cy base ρ0 h0 (rX (fun v => some (.ref v)) X.1) X.2 below args s MC MS) pc ls [.ref v] h := by
  cases hF
  exact toX (r_aret C d hr hrt hc hs)
theorem k_vretX {X : (Nat ⊕ Unit) × PM} (C : Cx p R s m args meth c D cy MC MS DP cc nL own) (d : decode cc pc = .ok (.return_, 1)) (hr : meth.sig.returnType = none) (hc : cs ≤ MC) (hs : ss ≤ MS) (hF : some (.inr (), h) = some X) : WP p l e R s m args below meth c D cy base ρ0 h0 cs ss nL (QX D cy base ρ0 h0 (rX (fun _ => none) X.1) X.2 below args s MC MS) pc ls [] h := by
  cases hF
  exact toX (r_vret C d hr hc hs)
theorem XR_of {ρ : Nat → Nat} {H : Heap} {locs : List Loc} {cells slots x : Nat} (h1 : SH D cy base s ρ0 h0 cs ss ρ H locs cells slots h) (t : State) (hvm : s.vm.Alike t.vm) (hz : H.size ≤ t.heap.size) (hk : ∀ q : Nat, q < H.size → t.heap[q]? = H[q]?) : XR D cy base ρ0 h0 x h (exN x) s t :=
  ⟨rfl, ρ, h1.2.2.2.1, Rep.move hvm (h1.1.keep hk), Nat.le_trans h1.2.1.1 hz, fun q q1 q2 => (hk q (Nat.lt_of_lt_of_le q1 h1.2.1.1)).trans (h1.2.1.2.1 q q1 q2)⟩
/-- what a throw of E needs of the tables -/
def ThK (own : String) (ik ic x : Nat) (names : List String) : Prop :=
  Bundle.fit (exN x) = true ∧ (∀ n ∈ names, Bundle.fit n = true) ∧ Cond.classLink own ik (exN x) ∈ gw ∧ Cond.initialized (exN x) ∈ gw ∧ (∀ w ∈ (vx_atS own ic (exN x) names).filter goodWord, w ∈ gw) ∧ (∀ w ∈ (vx_atS own ic (exN x) names).filter (fun w => !goodWord w), w ∈ nw) ∧ (∀ w ∈ Cond.classLink own ik (exN x) :: Cond.initialized (exN x) :: vx_atS own ic (exN x) names, vx_ot w = true) ∧ names.length ≤ 2
theorem thk_at {ik ic x : Nat} {names : List String} (C : Cx p R s m args meth c D cy MC MS DP cc nL own) (V : EV base ρ0 h0 s s.heap) (K : ThK own ik ic x names) : ∀ w ∈ vx_atS own ic (exN x) names, w.before args s = true := fun w hw => by
  by_cases g : goodWord w = true
  · exact C.1.2.2.2.2 _ (K.2.2.2.2.1 w (List.mem_filter.mpr ⟨hw, g⟩))
  · have hn : w ∈ nw := K.2.2.2.2.2.1 w (List.mem_filter.mpr ⟨hw, by simp [g]⟩)
    have := V.1 w hn
    exact va_Nw.use (by
      have := (List.mem_filter.mp hn).2
      cases w <;> first | rfl | cases this) this
theorem k_thr {x ik is ic : Nat} {text : String} {names : List String} {X : (Nat ⊕ α) × PM} {v : α → Option Value} (C : Cx p R s m args meth c D cy MC MS DP cc nL own) (V : EV base ρ0 h0 s s.heap) (hT : l.stackTraces = false) (hE : ∀ x ∈ c.exceptionTable.toList, False) (K : ThK own ik ic x names) (hs : (own, is, text) ∈ strL)
    (d0 : decode cc pc = .ok (.new ik, 3)) (d3 : decode cc (pc + 3) = .ok (.dup, 1)) (d4 : decode cc (pc + 4) = .ok (.ldc is, 2)) (d6 : decode cc (pc + 6) = .ok (.invokespecial ic, 3)) (d9 : decode cc (pc + 9) = .ok (.athrow, 1)) (hdp : 6 ≤ DP) (h8 : (st.map fun v => v.category).sum ≤ 8) (hcs : cs + 1 ≤ MC) (hss : ss + 6 ≤ MS)
    (hF : some (.inl x, h) = some X) : WP p l e R s m args below meth c D cy base ρ0 h0 cs ss nL (QX D cy base ρ0 h0 (rX v X.1) X.2 below args s MC MS) pc ls st h := by
  cases hF
  intro ρ H locs cells slots la h1 h2 h3 h4
  obtain ⟨sa, hsa⟩ := V.2.2.1 _ hs
  have hR := C.2.2.2
  have hb := h1.2.2.1
  have hl := K.2.2.2.2.2.2.2
  exact vx_throwS C.1.1 C.1.2.1 hT C.1.2.2.2.1 K.1 K.2.1 (C.1.2.2.2.2 _ K.2.2.1) (C.1.2.2.2.2 _ K.2.2.2.1) hsa (thk_at C V K) K.2.2.2.2.2.2.1 V.2.2.2.1.1 V.2.2.2.1.2 h1.2.1 (by rw [C.1.2.2.1]; exact h2.1) d0 d3 d4 d6 d9 (fun z hz => (hE z hz).elim) (by omega) (by rw [cat_map]; omega) (by omega) (by omega) C.2.2.1 (fun t q1 q2 q3 => ⟨x, rfl, XR_of h1 t q1 q2 q3⟩) h1.2.1.2.2 (by omega) (by omega)
theorem k_thrW {x ik is ic : Nat} {text : String} {names : List String} {X : (Nat ⊕ α) × PM} {v : α → Option Value} (C : Cx p R s m args meth c D cy MC MS DP cc nL own) (V : EV base ρ0 h0 s s.heap) (hT : l.stackTraces = false) (hE : ∀ x ∈ c.exceptionTable.toList, False) (K : ThK own ik ic x names) (hs : (own, is, text) ∈ strL)
    (d0 : decode cc pc = .ok (.new ik, 3)) (d3 : decode cc (pc + 3) = .ok (.dup, 1)) (d4 : decode cc (pc + 4) = .ok (.ldc_w is, 3)) (d6 : decode cc (pc + 7) = .ok (.invokespecial ic, 3)) (d9 : decode cc (pc + 10) = .ok (.athrow, 1)) (hdp : 6 ≤ DP) (h8 : (st.map fun v => v.category).sum ≤ 8) (hcs : cs + 1 ≤ MC) (hss : ss + 6 ≤ MS)
    (hF : some (.inl x, h) = some X) : WP p l e R s m args below meth c D cy base ρ0 h0 cs ss nL (QX D cy base ρ0 h0 (rX v X.1) X.2 below args s MC MS) pc ls st h := by
  cases hF
  intro ρ H locs cells slots la h1 h2 h3 h4
  obtain ⟨sa, hsa⟩ := V.2.2.1 _ hs
  have hR := C.2.2.2
  have hb := h1.2.2.1
  have hl := K.2.2.2.2.2.2.2
  exact vx_throwSW C.1.1 C.1.2.1 hT C.1.2.2.2.1 K.1 K.2.1 (C.1.2.2.2.2 _ K.2.2.1) (C.1.2.2.2.2 _ K.2.2.2.1) hsa (thk_at C V K) K.2.2.2.2.2.2.1 V.2.2.2.1.1 V.2.2.2.1.2 h1.2.1 (by rw [C.1.2.2.1]; exact h2.1) d0 d3 d4 d6 d9 (fun z hz => (hE z hz).elim) (by omega) (by rw [cat_map]; omega) (by omega) (by omega) C.2.2.1 (fun t q1 q2 q3 => ⟨x, rfl, XR_of h1 t q1 q2 q3⟩) h1.2.1.2.2 (by omega) (by omega)
variable {y : MethodName} {cc' : ByteArray} {nL' : Nat} {ret' : Option FieldType} {MC' MS' DP' n ix : Nat} {As : List Value} {r : Nat ⊕ Option Value}
theorem go_callX {ρ : Nat → Nat} {H : Heap} {locs : List Loc} {cells slots mc ms : Nat} {la : Array Slot} {st0 : List Value} {aa : Array Value} (h1 : SH D cy base s ρ0 h0 cs ss ρ H locs cells slots h) (h2 : lv_has la nL (mp ρ ls)) (h3 : okL h ls) (h4 : okS h st)
    (hr : vx_Run p l e R s m args below meth c H locs cells slots mc ms (F0 m pc la st0) (st.map (rv ρ)) ((fun a st o t => ∃ v, r = .inr v ∧ QR D cy base ρ h v h' a st o t) aa) (fun E st t => ∃ x, r = .inl x ∧ XR D cy base ρ h x h' E st t) (fun q => base ≤ q))
    (kx : ∀ x, r = .inl x → ∀ (ρ' : Nat → Nat) (H1 : Heap) (locs1 : List Loc) (q9 : Addr) (ce : Cell), SH D cy base s ρ0 h0 (cs + mc) (ss + ms) ρ' H1 locs1 (cells + mc) (slots + ms) h' → H1[q9]? = some ce → ce.vm = .none → s.vm.findClass (exN x) = some ce.cls → lv_has la nL (mp ρ' ls) → okL h' ls → vx_W p l e R s m args below meth c H1 locs1 (cells + mc) (slots + ms) Q (F0 m pc la (st.map (rv ρ))) q9)
    (kk : ∀ v, r = .inr v → WP p l e R s m args below meth c D cy base ρ0 h0 (cs + mc) (ss + ms) nL Q (pc + 3) ls (v.toList ++ st) h') : W p l e R s m args below meth c H locs cells slots Q (F0 m pc la st0) := by
  intro T hT Xs
  rcases hr T hT Xs with ⟨v, st₀, t, T', L, e0, X', hL, e1, e2, ⟨vv, hrv, ρ', hv, hext, hrep, hok, hF⟩, go⟩ | ⟨q, st₀, t, T', L, E, ce, e0, X', hL, e1, e2, ⟨x, hrx, hE, ρ', hext, hrep, hF⟩, hce, hcv, hcl, st9⟩
  · have hv : v = vv.map (rv ρ') := Outcome.returned.inj hv
    have hvm : s.vm.Alike t.vm := by rw [← e2]; exact X'.warmed.alike
    have mono : ∀ b, mT h b ≠ 0 → mT h' b ≠ 0 := fun b hb => (hext b hb).1
    have hst : (vv.toList ++ st).map (rv ρ') = v.toList ++ st.map (rv ρ) := by
      rw [List.map_append, rvS_ext hext h4, hv]
      cases vv <;> rfl
    have hok2 : okS h' (vv.toList ++ st) := by
      cases vv with
      | none => exact okS_mono mono h4
      | some z => exact ⟨hok z rfl, okS_mono mono h4⟩
    have := kk vv hrv ρ' T'.heap (locs ++ L) (cells + mc) (slots + ms) la (h1.after e0 e1 hvm hext hrep hF hL) (by rw [mp_ext hext h3]; exact h2) (okL_mono mono h3) hok2
    rw [hst] at this
    obtain ⟨t2, a1, b1⟩ := this T' rfl X'
    exact ⟨t2, go t2 a1, b1⟩
  · have hvm : s.vm.Alike t.vm := by rw [← e2]; exact X'.warmed.alike
    have mono : ∀ b, mT h b ≠ 0 → mT h' b ≠ 0 := fun b hb => (hext b hb).1
    subst hE
    obtain ⟨t2, a1, b1⟩ := kx x hrx ρ' T'.heap (locs ++ L) q ce (h1.after e0 e1 hvm hext hrep hF hL) (by rw [e1]; exact hce) hcv hcl (by rw [mp_ext hext h3]; exact h2) (okL_mono mono h3) T' rfl X'
    exact ⟨t2, st9.trans a1, b1⟩
/-- the exception goes on to the caller -/
theorem go_out {x : Nat} {ρ : Nat → Nat} {H : Heap} {locs : List Loc} {cells slots : Nat} {la : Array Slot} {rest : List Value} {q9 : Addr} {ce : Cell} (C : Cx p R s m args meth c D cy MC MS DP cc nL own) (hE : ∀ x ∈ c.exceptionTable.toList, False) (h1 : SH D cy base s ρ0 h0 cs ss ρ H locs cells slots h) (hq : H[q9]? = some ce) (hv : ce.vm = .none) (hcl : s.vm.findClass (exN x) = some ce.cls) (hcs : cs ≤ MC) (hss : ss ≤ MS) : vx_W p l e R s m args below meth c H locs cells slots (QX D cy base ρ0 h0 (.inl x) h below args s MC MS) (F0 m pc la rest) q9 := by
  have hb := h1.2.2.1
  exact vx_out (fun z hz => (hE z hz).elim) C.2.2.1 hq hv hcl (fun t ht hvm => ⟨x, rfl, XR_of h1 t hvm (by rw [ht]; exact Nat.le_refl _) (fun q _ => by rw [ht])⟩) h1.2.1.2.2 (by omega) (by omega)
theorem r_callVX {γ : Type} {X : (Nat ⊕ γ) × PM} {w : γ → Option Value} {b ci N : Nat} {Cn : String} {T : u_T} (C : Cx p R s m args meth c D cy MC MS DP cc nL own) (d : decode cc pc = .ok (.invokevirtual ix, 3)) (V : EV base ρ0 h0 s s.heap) (hT : l.stackTraces = false) (hE : ∀ x ∈ c.exceptionTable.toList, False) (K : Cal y cc' nL' ret' n) (Kc : Cls ci Cn T N) (hl : Cond.methodLink own ix y ∈ gw) (hs : Cond.instanceMethod y ∈ gw) (hse : Cond.selects Cn y y ∈ gw) (hb : mT h b = ci + 1) (hdp : DP' + 1 ≤ DP) (hAs : As.length = n) (hstk : stk = As.reverse ++ .ref b :: st) (h8 : (st.map fun v => v.category).sum ≤ 8) (hcs : cs + MC' ≤ MC) (hss : ss + MS' ≤ MS)
    (hM : CX y cc' nL' ret' MC' MS' DP' (.ref b :: As) h r h') (hx : ∀ x, r = .inl x → X = (.inl x, h')) (kk : ∀ v, r = .inr v → WP p l e R s m args below meth c D cy base ρ0 h0 (cs + MC') (ss + MS') nL (QX D cy base ρ0 h0 (rX w X.1) X.2 below args s MC MS) (pc + 3) ls (v.toList ++ st) h') : WP p l e R s m args below meth c D cy base ρ0 h0 cs ss nL (QX D cy base ρ0 h0 (rX w X.1) X.2 below args s MC MS) pc ls stk h := by
  intro ρ H locs cells slots la h1 h2 h3 h4
  rw [hstk] at h4
  have hR := C.2.2.2
  have hb2 := h1.2.2.1
  have hst : stk.map (rv ρ) = (As.map (rv ρ)).reverse ++ .ref (ρ b) :: st.map (rv ρ) := by rw [hstk, List.map_append, List.map_reverse]; rfl
  refine go_callX h1 h2 h3 (okS_app h4).2.2 (vx_runV (As := As.map (rv ρ)) (b := ρ b) C.1 (hM l D cy base ρ hT) ⟨calB C K hl hdp, C.1.2.2.2.2 _ hs, C.1.2.2.2.2 _ hse⟩ ⟨PR_blind, rcv_of C Kc h1 hb, fun U hU hW => PR_of (As := .ref b :: As) C V h1 ⟨(okS_app h4).2.1, okS_rev h4⟩ U hU hW⟩ rfl (by rw [List.length_map]; exact hAs) h2.1 hst (by rw [cat_map]; exact (by show 2 * 0 + _ ≤ 8; omega)) d ⟨by omega, by omega⟩) (fun x hrx ρ' H1 locs1 q9 ce g1 g2 g3 g4 _ _ => ?_) kk
  rw [hx x hrx]
  exact go_out C hE g1 g2 g3 g4 hcs hss
theorem r_callSX {γ : Type} {X : (Nat ⊕ γ) × PM} {w : γ → Option Value} (C : Cx p R s m args meth c D cy MC MS DP cc nL own) (d : decode cc pc = .ok (.invokestatic ix, 3)) (V : EV base ρ0 h0 s s.heap) (hT : l.stackTraces = false) (hE : ∀ x ∈ c.exceptionTable.toList, False) (K : Cal y cc' nL' ret' n) (hl : Cond.methodLink own ix y ∈ gw) (hs : Cond.static y ∈ gw) (hdp : DP' + 1 ≤ DP) (hAs : As.length = n) (hstk : stk = As.reverse ++ st) (h8 : (st.map fun v => v.category).sum ≤ 8) (hcs : cs + MC' ≤ MC) (hss : ss + MS' ≤ MS)
    (hM : CX y cc' nL' ret' MC' MS' DP' As h r h') (hx : ∀ x, r = .inl x → X = (.inl x, h')) (kk : ∀ v, r = .inr v → WP p l e R s m args below meth c D cy base ρ0 h0 (cs + MC') (ss + MS') nL (QX D cy base ρ0 h0 (rX w X.1) X.2 below args s MC MS) (pc + 3) ls (v.toList ++ st) h') : WP p l e R s m args below meth c D cy base ρ0 h0 cs ss nL (QX D cy base ρ0 h0 (rX w X.1) X.2 below args s MC MS) pc ls stk h := by
  intro ρ H locs cells slots la h1 h2 h3 h4
  rw [hstk] at h4
  have hR := C.2.2.2
  have hb2 := h1.2.2.1
  refine go_callX h1 h2 h3 (okS_app h4).2 (vx_runS (As := As.map (rv ρ)) C.1 (hM l D cy base ρ hT) ⟨calB C K hl hdp, C.1.2.2.2.2 _ hs⟩ ⟨PR_blind, fun U hU hW => PR_of C V h1 (okS_rev h4) U hU hW⟩ rfl (by rw [List.length_map]; exact hAs) h2.1 (stk_map hstk) (by rw [cat_map]; exact (by show 2 * 0 + _ ≤ 8; omega)) d ⟨by omega, by omega⟩) (fun x hrx ρ' H1 locs1 q9 ce g1 g2 g3 g4 _ _ => ?_) kk
  rw [hx x hrx]
  exact go_out C hE g1 g2 g3 g4 hcs hss
end THR
theorem CX_of {y : MethodName} {cc : ByteArray} {nL : Nat} {ret : Option FieldType} {MC MS DP : Nat} {As : List Value} {h : PM} {r : Nat ⊕ Option Value} {h' : PM} {ls : List (Nat × Value)} (hy : plainName y.cls = true) (hn : ∀ ρ : Nat → Nat, (lg_sl (As.map (rv ρ))).length ≤ nL) (hls : lv_args 0 As = ls)
    (body : ∀ (p : Program) (l : Launch) (e : Env) (s : State) (m : MethodId) (args : Array Value) (below : List Frame) (meth : Method) (c : Code) (D : va_G) (cy : Nat → ClassId) (base : Nat) (ρ : Nat → Nat), l.stackTraces = false → Cx p (rmN MC MS DP) s m args meth c D cy MC MS DP cc nL y.cls → EV base ρ h s s.heap → (∀ x ∈ c.exceptionTable.toList, False) → meth.sig.returnType = ret → meth.name = y.name →
      WP p l e (rmN MC MS DP) s m args below meth c D cy base ρ h 0 0 nL (QX D cy base ρ h r h' below args s MC MS) 0 ls [] h) : CX y cc nL ret MC MS DP As h r h' := by
  intro l D cy base ρ hT
  refine vx_ofW (cc := cc) (maxL := nL) (ret := ret) hy rfl ?_
  intro p e s m args below meth c s₁ B hml hE hv
  obtain ⟨rfl, hR, hK, hEv, hb, hA⟩ := hv
  have hts := atoms_spec (ws := Cond.code y cc nL ret :: gw) B.pre
  have hown : s.vm.findClass y.cls = some m.cls := findClass_of_methodNamed B.named
  have hl := lv_entry (As.map (rv ρ)) (n := nL) (hn ρ)
  rw [lg_entry_eq]
  generalize (lg_sl (As.map (rv ρ)) ++ List.replicate (nL - (lg_sl (As.map (rv ρ))).length) Slot.unset).toArray = la at hl ⊢
  rw [lv_args_mp, hls] at hl
  exact body p l e s m _ below meth c D cy base ρ hT ⟨⟨B.exec, B.bytes, hml, hown, fun w hw => hts w (List.mem_cons_of_mem _ hw)⟩, hK, B.notSynchronized, ⟨Nat.le_refl _, Nat.le_refl _, Nat.le_refl _, Nat.le_refl _⟩⟩ hEv hE B.returns (name_of_methodNamed B.named B.method).1 ρ s.heap [] 0 0 la
    ⟨hR, va_S.rf, ⟨Nat.le_refl _, Nat.le_refl _⟩, fun a z => ⟨z, rfl⟩, hb⟩ hl (by rw [← hls]; exact okL_args As 0 hA) trivial
