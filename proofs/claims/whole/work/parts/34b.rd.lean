def FDr (own : String) (ix ci k : Nat) : Prop := ∃ (Cn : String) (T : u_T) (N : Nat), Cls ci Cn T N ∧ k < N ∧ Cond.fieldLink own ix (T k).1 (T k).2.1 (T k).2.2.1 ∈ gw
section RD
variable {p : Program} {l : Launch} {e : Env} {R : Room} {s : State} {m : MethodId} {args : Array Value} {below : List Frame} {meth : Method} {c : Code}
variable {D : va_G} {cy : Nat → ClassId} {base : Nat} {ρ0 : Nat → Nat} {h0 : PM} {cs ss MC MS DP nL : Nat} {Q : State → Prop}
variable {cc : ByteArray} {own : String} {pc : Nat} {ls : List (Nat × Value)} {st : List Value} {h : PM} {β : Type} {X : β} {ci ix k a : Nat}
theorem k_gIr {f : Int32 → Option β} (C : Cx p R s m args meth c D cy MC MS DP cc nL own) (d : decode cc pc = .ok (.getfield ix, 3)) (F : FDr own ix ci k) (hf : fk ci k ≠ 2) (hF : gI h a ci k f = some X) (kk : ∀ x, f x = some X → WP p l e R s m args below meth c D cy base ρ0 h0 cs ss nL Q (pc + 3) ls (.int x :: st) h) : WP p l e R s m args below meth c D cy base ρ0 h0 cs ss nL Q pc ls (.ref a :: st) h := by
  obtain ⟨Cn, T, N, K, hk, hl⟩ := F
  exact r_getI C d K hk hf hl (fun _ z => z) hF (kk _)
theorem k_gRr {f : Nat → Option β} (C : Cx p R s m args meth c D cy MC MS DP cc nL own) (d : decode cc pc = .ok (.getfield ix, 3)) (F : FDr own ix ci k) (hf : fk ci k = 2) (hF : gR h a ci k f = some X) (kk : ∀ x, f x = some X → WP p l e R s m args below meth c D cy base ρ0 h0 cs ss nL Q (pc + 3) ls (.ref x :: st) h) : WP p l e R s m args below meth c D cy base ρ0 h0 cs ss nL Q pc ls (.ref a :: st) h := by
  obtain ⟨Cn, T, N, K, hk, hl⟩ := F
  exact r_getR C d K hk hf hl (fun _ z => z) hF (kk _)
end RD
