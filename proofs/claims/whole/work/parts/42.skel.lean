def R_law : String := "RoughStonesLaw"
def lw_P (b : Addr) (xs : List Int32) (args : Array Value) (s : State) : Prop := args = #[.ref b] ∧ s.IntsAt b xs ∧ xs.length ≤ 3584 ∧ (Jvm.Cond.and given_1 narrow_1).before args s = true
def lw_Q (_ : Array Value) (s : State) (o : Outcome) (t : State) : Prop := o = .returned (some (.int 1)) ∧ Framed s o t [] 601024 7293034
def lw_Z (below : List Frame) (a : Array Value) (s : State) : State → Prop := fun t => ∃ o, t.status = .running ∧ Ended t below o ∧ lw_Q a s o t
/-- the law's own end, with 1 on the stack, nothing written that was there before, its room as the claim has it -/
theorem lw_ret {p : Program} {l : Launch} {e : Env} {s : State} {m : MethodId} {below : List Frame} {meth : Method} {c : Code} {b : Nat} (hx : p.tables.exec = Jvm.exec) (hb : c.code = code) (hr : meth.sig.returnType = ret) (hlocks : meth.locks = false) {pc : Nat} {H : Heap} {ls : Array Slot} (hdg : decode code pc = .ok (.ireturn, 1)) : W p l e room_1 s m #[Value.ref b] below meth c H [] 601024 7293034 (lw_Z below #[Value.ref b] s) (F0 m pc ls [.int 1]) := by
  intro T hT X
  obtain ⟨fs, hret, hrun, hended, hW, hframe⟩ := X.leave (v := some (.int 1)) (hlocks := hlocks) (fun h => by rw [hr] at h; cases h)
  have hmeth' : T.vm.method? m = some meth := X.method'
  refine ⟨T.setFrames fs, ?_, .returned (some (.int 1)), hrun, hended, rfl, ⟨_, rfl⟩, hW, hframe⟩
  jvm_step X.here [X.here.top, hx, hb, hdg, hmeth', hr, ret, narrow_b1]
  (try refine ⟨rfl, ?_⟩); (try refine ⟨rfl, ?_⟩)
  first | (intro acts; rw [hret _ acts rfl rfl rfl]) | rw [hret _ _ rfl rfl rfl]
  exact Steps.refl _
/-- what holds at the law's entry: the machine, the code, the tables' words (any of lw_tbl by 'hts w (by decide +kernel)'), the script of L ints xs at the cell b, what the Statement gives of the start (any of its parts by flat_of_before) -/
def lw_At (p : Program) (s : State) (m : MethodId) (meth : Method) (c : Code) (b L : Nat) (xs : Nat → Int32) : Prop :=
  p.tables.exec = Jvm.exec ∧ c.code = code ∧ meth.sig.returnType = ret ∧ c.maxLocals = 7 ∧ s.vm.findClass R_law = some m.cls ∧ (∀ w ∈ lw_tbl, w.before #[Value.ref b] s = true) ∧ va_X b L xs s s.heap ∧ b < s.heap.size ∧ meth.locks = false ∧ (Jvm.Cond.and given_1 narrow_1).before #[Value.ref b] s = true
section LR
variable {p : Program} {l : Launch} {e : Env} {s : State} {m : MethodId} {args : Array Value} {below : List Frame} {meth : Method} {c : Code}
variable {D : va_G} {cy : Nat → ClassId} {base : Nat} {ρ0 : Nat → Nat} {h0 : PM} {cs ss MC MS DP nL : Nat}
variable {pc : Nat} {ls : List (Nat × Value)} {h : PM} {b : Nat}
theorem k_lawret {X : Int32 × PM} {v : Int32} (C : Cx p room_1 s m args meth c D cy MC MS DP code nL RL) (d : decode code pc = .ok (.ireturn, 1)) (hr : meth.sig.returnType = ret) (hB : base = s.heap.size) (hG : args = #[Value.ref b]) (hX : X.1 = 1) (hc : cs ≤ 601024) (hs : ss ≤ 7293034) (hF : rz v h = some X) : WP p l e room_1 s m args below meth c D cy base ρ0 h0 cs ss nL (lw_Z below args s) pc ls [.int v] h := by
  subst hG
  intro ρ H locs cells slots la h1 h2 h3 h4
  obtain ⟨-, hF⟩ := ite_some hF
  cases hF
  have hX : v = 1 := hX
  subst hX
  have hb2 := h1.2.2.1
  refine va_forget (fun q hq => ?_) (W.widen (k := 601024) (n := 7293034) (by omega) (by omega) (lw_ret C.1.1 C.1.2.1 hr C.2.2.1 d))
  have := h1.2.1.2.2 q hq
  rw [hB] at this
  exact this
end LR
def lnS {β : Type} (h : PM) (a : Nat) (f : Int32 → Option β) : Option β := if mT h a = 23 then f (Int32.ofNat (mN h a)) else none
section LS
variable {p : Program} {l : Launch} {e : Env} {R : Room} {s : State} {m : MethodId} {args : Array Value} {below : List Frame} {meth : Method} {c : Code}
variable {D : va_G} {cy : Nat → ClassId} {base : Nat} {ρ0 : Nat → Nat} {h0 : PM} {cs ss MC MS DP nL : Nat} {Q : State → Prop}
variable {cc : ByteArray} {own : String} {pc : Nat} {ls : List (Nat × Value)} {st : List Value} {h : PM} {β : Type} {X : β} {a : Nat}
theorem k_lnS {f : Int32 → Option β} (C : Cx p R s m args meth c D cy MC MS DP cc nL own) (d : decode cc pc = .ok (.arraylength, 1)) (hF : lnS h a f = some X) (kk : ∀ x, f x = some X → WP p l e R s m args below meth c D cy base ρ0 h0 cs ss nL Q (pc + 1) ls (.int x :: st) h) : WP p l e R s m args below meth c D cy base ρ0 h0 cs ss nL Q pc ls (.ref a :: st) h := by
  intro ρ H locs cells slots la h1 h2 h3 h4
  obtain ⟨q, hF⟩ := ite_some hF
  have hk := kk _ hF ρ H locs cells slots la h1 h2 h3 ⟨trivial, h4.2⟩
  obtain ⟨-, scr, q1, q2, q3, q4, -⟩ := h1.1.2.1 a q
  exact W.alen (n := Int32.ofNat (mN h a)) C.1.1 C.1.2.1 q1 q2 q4.2 rfl rfl d hk
end LS
