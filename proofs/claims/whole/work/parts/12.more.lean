section MORE
variable {p : Program} {l : Launch} {e : Env} {R : Room} {s : State} {m : MethodId} {args : Array Value} {below : List Frame} {meth : Method} {c : Code}
variable {D : va_G} {cy : Nat → ClassId} {base : Nat} {ρ0 : Nat → Nat} {h0 : PM} {cs ss MC MS DP nL : Nat} {Q : State → Prop}
variable {cc : ByteArray} {own : String} {pc : Nat} {ls : List (Nat × Value)} {st : List Value} {h : PM} {β : Type} {X : β} {ci ix k a : Nat}
theorem r_ldcw {v : Int32} (C : Cx p R s m args meth c D cy MC MS DP cc nL own) (d : decode cc pc = .ok (.ldc_w ix, 3)) (hw : Cond.constant own ix v ∈ gw) (k : WP p l e R s m args below meth c D cy base ρ0 h0 cs ss nL Q (pc + 3) ls (.int v :: st) h) : WP p l e R s m args below meth c D cy base ρ0 h0 cs ss nL Q pc ls st h := fun ρ H locs cells slots la h1 h2 h3 h4 => lv_ldcw C.1.1 C.1.2.1 C.1.2.2.2.1 (C.1.2.2.2.2 _ hw) d (k ρ H locs cells slots la h1 h2 h3 ⟨trivial, h4⟩)
end MORE
