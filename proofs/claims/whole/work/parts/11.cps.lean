/-! ===== the rules as the programs' rows use them ===== -/
def FD (own : String) (ix ci k : Nat) (fin : Bool) : Prop := ∃ (Cn : String) (T : u_T) (N : Nat), Cls ci Cn T N ∧ k < N ∧ Cond.fieldLink own ix (T k).1 (T k).2.1 (T k).2.2.1 ∈ gw ∧ (T k).2.2.2 = fin ∧ (fin = true → (T k).1 = own)
theorem gwm (i : Nat) {w : Cond} (h : lw_tbl[i]? = some w) (g : goodWord w = true) : w ∈ gw := List.mem_filter.mpr ⟨List.mem_of_getElem? h, g⟩
theorem nwm (i : Nat) {w : Cond} (h : lw_tbl[i]? = some w) (g : isN w = true) : w ∈ nw := List.mem_filter.mpr ⟨List.mem_of_getElem? h, g⟩
section CPS
variable {α β γ : Type}
def cl (o : Option (α × PM)) (f : α → PM → Option β) : Option β := match o with
  | none => none
  | some x => f x.1 x.2
theorem cl_some {o : Option (α × PM)} {f : α → PM → Option β} {X : β} (h : cl o f = some X) : ∃ (r : α) (h' : PM), o = some (r, h') ∧ f r h' = some X := by
  cases o with
  | none => cases h
  | some x => exact ⟨x.1, x.2, rfl, h⟩
def jn (k : γ) (b : γ → Option β) : Option β := b k
theorem jn_some {k : γ} {b : γ → Option β} {X : β} (h : jn k b = some X) : ∃ k', k' = k ∧ b k' = some X := ⟨k, rfl, h⟩
def lt_ (x : α) (f : α → Option β) : Option β := f x
theorem tst_some {h : PM} {r c : Nat} {f : Option β} {X : β} (hF : tst h r c f = some X) : mT h r = c + 1 ∧ f = some X := ite_some hF
def dv (y : Int32) (f : Option β) : Option β := if ¬ y = 0 then f else none
def rz (v : Int32) (h : PM) : Option (Int32 × PM) := if v = 0 ∨ v = 1 then some (v, h) else none
def LF : Nat := 20000
end CPS
section KR
variable {p : Program} {l : Launch} {e : Env} {R : Room} {s : State} {m : MethodId} {args : Array Value} {below : List Frame} {meth : Method} {c : Code}
variable {D : va_G} {cy : Nat → ClassId} {base : Nat} {ρ0 : Nat → Nat} {h0 : PM} {cs ss MC MS DP nL : Nat} {Q : State → Prop}
variable {cc : ByteArray} {own : String} {pc : Nat} {ls : List (Nat × Value)} {st : List Value} {h : PM} {β : Type} {X : β} {ci ix k a : Nat} {fin : Bool}
theorem k_gI {f : Int32 → Option β} (C : Cx p R s m args meth c D cy MC MS DP cc nL own) (d : decode cc pc = .ok (.getfield ix, 3)) (F : FD own ix ci k fin) (hf : fk ci k ≠ 2) (hF : gI h a ci k f = some X) (kk : ∀ x, f x = some X → WP p l e R s m args below meth c D cy base ρ0 h0 cs ss nL Q (pc + 3) ls (.int x :: st) h) : WP p l e R s m args below meth c D cy base ρ0 h0 cs ss nL Q pc ls (.ref a :: st) h := by
  obtain ⟨Cn, T, N, K, hk, hl, -, -⟩ := F
  exact r_getI C d K hk hf hl (fun _ z => z) hF (kk _)
theorem k_gR {f : Nat → Option β} (C : Cx p R s m args meth c D cy MC MS DP cc nL own) (d : decode cc pc = .ok (.getfield ix, 3)) (F : FD own ix ci k fin) (hf : fk ci k = 2) (hF : gR h a ci k f = some X) (kk : ∀ x, f x = some X → WP p l e R s m args below meth c D cy base ρ0 h0 cs ss nL Q (pc + 3) ls (.ref x :: st) h) : WP p l e R s m args below meth c D cy base ρ0 h0 cs ss nL Q pc ls (.ref a :: st) h := by
  obtain ⟨Cn, T, N, K, hk, hl, -, -⟩ := F
  exact r_getR C d K hk hf hl (fun _ z => z) hF (kk _)
theorem fin_of {T : u_T} (hi : fin = true → meth.name = "<init>") (h1 : (T k).2.2.2 = fin) (h2 : fin = true → (T k).1 = own) : (T k).2.2.2 = false ∨ ((T k).2.2.2 = true ∧ meth.name = "<init>" ∧ (T k).1 = own) := by
  cases fin with
  | false => exact Or.inl h1
  | true => exact Or.inr ⟨h1, hi rfl, h2 rfl⟩
theorem k_pI {f : PM → Option β} {v : Int32} (C : Cx p R s m args meth c D cy MC MS DP cc nL own) (d : decode cc pc = .ok (.putfield ix, 3)) (F : FD own ix ci k fin) (hi : fin = true → meth.name = "<init>") (hf : fk ci k = 0) (hF : pI h a ci k v f = some X) (kk : ∀ h', f h' = some X → WP p l e R s m args below meth c D cy base ρ0 h0 cs ss nL Q (pc + 3) ls st h') : WP p l e R s m args below meth c D cy base ρ0 h0 cs ss nL Q pc ls (.int v :: .ref a :: st) h := by
  obtain ⟨Cn, T, N, K, hk, hl, h1, h2⟩ := F
  exact r_putI C d K hk hf hl (fun _ z => z) (fin_of hi h1 h2) hF (kk _)
theorem k_pZ {f : PM → Option β} {v : Int32} (C : Cx p R s m args meth c D cy MC MS DP cc nL own) (d : decode cc pc = .ok (.putfield ix, 3)) (F : FD own ix ci k fin) (hi : fin = true → meth.name = "<init>") (hf : fk ci k = 1) (hF : pZ h a ci k v f = some X) (kk : ∀ h', f h' = some X → WP p l e R s m args below meth c D cy base ρ0 h0 cs ss nL Q (pc + 3) ls st h') : WP p l e R s m args below meth c D cy base ρ0 h0 cs ss nL Q pc ls (.int v :: .ref a :: st) h := by
  obtain ⟨Cn, T, N, K, hk, hl, h1, h2⟩ := F
  exact r_putZ C d K hk hf hl (fun _ z => z) (fin_of hi h1 h2) hF (kk _)
theorem k_pR {f : PM → Option β} {v : Nat} (C : Cx p R s m args meth c D cy MC MS DP cc nL own) (d : decode cc pc = .ok (.putfield ix, 3)) (F : FD own ix ci k fin) (hi : fin = true → meth.name = "<init>") (hf : fk ci k = 2) (hF : pR h a ci k v f = some X) (kk : ∀ h', f h' = some X → WP p l e R s m args below meth c D cy base ρ0 h0 cs ss nL Q (pc + 3) ls st h') : WP p l e R s m args below meth c D cy base ρ0 h0 cs ss nL Q pc ls (.ref v :: .ref a :: st) h := by
  obtain ⟨Cn, T, N, K, hk, hl, h1, h2⟩ := F
  exact r_putR C d K hk hf hl (fun _ z => z) (fin_of hi h1 h2) hF (kk _)
theorem k_lti {x : Int32} {f : Int32 → Option β} (hF : lt_ x f = some X) (kk : ∀ x, f x = some X → WP p l e R s m args below meth c D cy base ρ0 h0 cs ss nL Q pc ls (.int x :: st) h) : WP p l e R s m args below meth c D cy base ρ0 h0 cs ss nL Q pc ls (.int x :: st) h := kk x hF
theorem k_ltl {x : Int64} {f : Int64 → Option β} (hF : lt_ x f = some X) (kk : ∀ x, f x = some X → WP p l e R s m args below meth c D cy base ρ0 h0 cs ss nL Q pc ls (.long x :: st) h) : WP p l e R s m args below meth c D cy base ρ0 h0 cs ss nL Q pc ls (.long x :: st) h := kk x hF
theorem k_idiv {x y : Int32} {f : Option β} (C : Cx p R s m args meth c D cy MC MS DP cc nL own) (d : decode cc pc = .ok (.idiv, 1)) (hF : dv y f = some X) (kk : f = some X → WP p l e R s m args below meth c D cy base ρ0 h0 cs ss nL Q (pc + 1) ls (.int (x / y) :: st) h) : WP p l e R s m args below meth c D cy base ρ0 h0 cs ss nL Q pc ls (.int y :: .int x :: st) h := by
  obtain ⟨hy, hF⟩ := ite_some hF
  exact r_idiv C d hy (kk hF)
theorem k_irem {x y : Int32} {f : Option β} (C : Cx p R s m args meth c D cy MC MS DP cc nL own) (d : decode cc pc = .ok (.irem, 1)) (hF : dv y f = some X) (kk : f = some X → WP p l e R s m args below meth c D cy base ρ0 h0 cs ss nL Q (pc + 1) ls (.int (x - x / y * y) :: st) h) : WP p l e R s m args below meth c D cy base ρ0 h0 cs ss nL Q pc ls (.int y :: .int x :: st) h := by
  obtain ⟨hy, hF⟩ := ite_some hF
  exact r_irem C d hy (kk hF)
theorem k_iret {v : Int32} {X : Int32 × PM} (C : Cx p R s m args meth c D cy MC MS DP cc nL own) (d : decode cc pc = .ok (.ireturn, 1)) (hr : meth.sig.returnType = some .int) (hc : cs ≤ MC) (hs : ss ≤ MS) (hF : some (v, h) = some X) : WP p l e R s m args below meth c D cy base ρ0 h0 cs ss nL (MQ below (QR D cy base ρ0 h0 (some (.int X.1)) X.2) args s MC MS (fun q => base ≤ q)) pc ls [.int v] h := by
  cases hF
  exact r_iret C d hr hc hs
theorem k_zret {v : Int32} {X : Int32 × PM} (C : Cx p R s m args meth c D cy MC MS DP cc nL own) (d : decode cc pc = .ok (.ireturn, 1)) (hr : meth.sig.returnType = some .boolean) (hc : cs ≤ MC) (hs : ss ≤ MS) (hF : rz v h = some X) : WP p l e R s m args below meth c D cy base ρ0 h0 cs ss nL (MQ below (QR D cy base ρ0 h0 (some (.int X.1)) X.2) args s MC MS (fun q => base ≤ q)) pc ls [.int v] h := by
  obtain ⟨hv, hF⟩ := ite_some hF
  cases hF
  exact r_zret C d hr hv hc hs
theorem k_lret {v : Int64} {X : Int64 × PM} (C : Cx p R s m args meth c D cy MC MS DP cc nL own) (d : decode cc pc = .ok (.lreturn, 1)) (hr : meth.sig.returnType = some .long) (hc : cs ≤ MC) (hs : ss ≤ MS) (hF : some (v, h) = some X) : WP p l e R s m args below meth c D cy base ρ0 h0 cs ss nL (MQ below (QR D cy base ρ0 h0 (some (.long X.1)) X.2) args s MC MS (fun q => base ≤ q)) pc ls [.long v] h := by
  cases hF
  exact r_lret C d hr hc hs
theorem k_aret {v : Nat} {rt : FieldType} {X : Nat × PM} (C : Cx p R s m args meth c D cy MC MS DP cc nL own) (d : decode cc pc = .ok (.areturn, 1)) (hr : meth.sig.returnType = some rt) (hrt : (∃ n, rt = .object n) ∨ ∃ t, rt = .array t) (hc : cs ≤ MC) (hs : ss ≤ MS) (hF : some (v, h) = some X) : WP p l e R s m args below meth c D cy base ρ0 h0 cs ss nL (MQ below (QR D cy base ρ0 h0 (some (.ref X.1)) X.2) args s MC MS (fun q => base ≤ q)) pc ls [.ref v] h := by
  cases hF
  exact r_aret C d hr hrt hc hs
theorem k_vret {X : Unit × PM} (C : Cx p R s m args meth c D cy MC MS DP cc nL own) (d : decode cc pc = .ok (.return_, 1)) (hr : meth.sig.returnType = none) (hc : cs ≤ MC) (hs : ss ≤ MS) (hF : some ((), h) = some X) : WP p l e R s m args below meth c D cy base ρ0 h0 cs ss nL (MQ below (QR D cy base ρ0 h0 none X.2) args s MC MS (fun q => base ≤ q)) pc ls [] h := by
  cases hF
  exact r_vret C d hr hc hs
theorem k_aI {f : Int32 → Option β} {i : Int32} (C : Cx p R s m args meth c D cy MC MS DP cc nL own) (d : decode cc pc = .ok (.iaload, 1)) (hF : aI h a i f = some X) (kk : ∀ x, f x = some X → WP p l e R s m args below meth c D cy base ρ0 h0 cs ss nL Q (pc + 1) ls (.int x :: st) h) : WP p l e R s m args below meth c D cy base ρ0 h0 cs ss nL Q pc ls (.int i :: .ref a :: st) h := r_aI C d hF (kk _)
theorem k_aS {f : Int32 → Option β} {i : Int32} (C : Cx p R s m args meth c D cy MC MS DP cc nL own) (d : decode cc pc = .ok (.iaload, 1)) (hF : aS h a i f = some X) (kk : ∀ x, f x = some X → WP p l e R s m args below meth c D cy base ρ0 h0 cs ss nL Q (pc + 1) ls (.int x :: st) h) : WP p l e R s m args below meth c D cy base ρ0 h0 cs ss nL Q pc ls (.int i :: .ref a :: st) h := r_aS C d hF (kk _)
theorem k_aZ {f : Int32 → Option β} {i : Int32} (C : Cx p R s m args meth c D cy MC MS DP cc nL own) (d : decode cc pc = .ok (.baload, 1)) (hF : aZ h a i f = some X) (kk : ∀ x, f x = some X → WP p l e R s m args below meth c D cy base ρ0 h0 cs ss nL Q (pc + 1) ls (.int x :: st) h) : WP p l e R s m args below meth c D cy base ρ0 h0 cs ss nL Q pc ls (.int i :: .ref a :: st) h := r_aZ C d hF (kk _)
theorem k_aJ {f : Int64 → Option β} {i : Int32} (C : Cx p R s m args meth c D cy MC MS DP cc nL own) (d : decode cc pc = .ok (.laload, 1)) (hF : aJ h a i f = some X) (kk : ∀ x, f x = some X → WP p l e R s m args below meth c D cy base ρ0 h0 cs ss nL Q (pc + 1) ls (.long x :: st) h) : WP p l e R s m args below meth c D cy base ρ0 h0 cs ss nL Q pc ls (.int i :: .ref a :: st) h := r_aJ C d hF (kk _)
theorem k_aR {f : Nat → Option β} {i : Int32} (C : Cx p R s m args meth c D cy MC MS DP cc nL own) (d : decode cc pc = .ok (.aaload, 1)) (hF : aR h a i f = some X) (kk : ∀ x, f x = some X → WP p l e R s m args below meth c D cy base ρ0 h0 cs ss nL Q (pc + 1) ls (.ref x :: st) h) : WP p l e R s m args below meth c D cy base ρ0 h0 cs ss nL Q pc ls (.int i :: .ref a :: st) h := r_aR C d hF (kk _)
theorem k_sI {f : PM → Option β} {i : Int32} {v : Int32} (C : Cx p R s m args meth c D cy MC MS DP cc nL own) (d : decode cc pc = .ok (.iastore, 1)) (hF : sI h a i v f = some X) (kk : ∀ h', f h' = some X → WP p l e R s m args below meth c D cy base ρ0 h0 cs ss nL Q (pc + 1) ls st h') : WP p l e R s m args below meth c D cy base ρ0 h0 cs ss nL Q pc ls (.int v :: .int i :: .ref a :: st) h := r_sI C d hF (kk _)
theorem k_sZ {f : PM → Option β} {i : Int32} {v : Int32} (C : Cx p R s m args meth c D cy MC MS DP cc nL own) (d : decode cc pc = .ok (.bastore, 1)) (hF : sZ h a i v f = some X) (kk : ∀ h', f h' = some X → WP p l e R s m args below meth c D cy base ρ0 h0 cs ss nL Q (pc + 1) ls st h') : WP p l e R s m args below meth c D cy base ρ0 h0 cs ss nL Q pc ls (.int v :: .int i :: .ref a :: st) h := r_sZ C d hF (kk _)
theorem k_sJ {f : PM → Option β} {i : Int32} {v : Int64} (C : Cx p R s m args meth c D cy MC MS DP cc nL own) (d : decode cc pc = .ok (.lastore, 1)) (hF : sJ h a i v f = some X) (kk : ∀ h', f h' = some X → WP p l e R s m args below meth c D cy base ρ0 h0 cs ss nL Q (pc + 1) ls st h') : WP p l e R s m args below meth c D cy base ρ0 h0 cs ss nL Q pc ls (.long v :: .int i :: .ref a :: st) h := r_sJ C d hF (kk _)
theorem k_ln {f : Int32 → Option β} (C : Cx p R s m args meth c D cy MC MS DP cc nL own) (d : decode cc pc = .ok (.arraylength, 1)) (hF : ln h a f = some X) (kk : ∀ x, f x = some X → WP p l e R s m args below meth c D cy base ρ0 h0 cs ss nL Q (pc + 1) ls (.int x :: st) h) : WP p l e R s m args below meth c D cy base ρ0 h0 cs ss nL Q pc ls (.ref a :: st) h := r_ln C d hF (kk _)
theorem k_new {N : Nat} {Cn : String} {T : u_T} {f : PM → Option β} (C : Cx p R s m args meth c D cy MC MS DP cc nL own) (d : decode cc pc = .ok (.new ix, 3)) (K : Cls ci Cn T N) (hl : Cond.classLink own ix Cn ∈ gw) (hi : Cond.instantiable Cn N ∈ gw) (hin : Cond.initialized Cn ∈ gw) (hcs : cs + 1 ≤ MC) (hss : ss + N ≤ MS) (hF : nO h a ci f = some X) (kk : ∀ h', f h' = some X → WP p l e R s m args below meth c D cy base ρ0 h0 (cs + 1) (ss + N) nL Q (pc + 3) ls (.ref a :: st) h') : WP p l e R s m args below meth c D cy base ρ0 h0 cs ss nL Q pc ls st h := r_new C d K hl hi hin hcs hss a hF (kk _)
theorem k_newi {n : Int32} {N : Nat} {f : PM → Option β} (C : Cx p R s m args meth c D cy MC MS DP cc nL own) (d : decode cc pc = .ok (.newarray .int, 2)) (hw : Cond.arrayClass .int ∈ gw) (hn : n.toNatClampNeg = N) (hcs : cs + 1 ≤ MC) (hss : ss + N ≤ MS) (hF : nA h a 20 n f = some X) (kk : ∀ h', f h' = some X → WP p l e R s m args below meth c D cy base ρ0 h0 (cs + 1) (ss + N) nL Q (pc + 2) ls (.ref a :: st) h') : WP p l e R s m args below meth c D cy base ρ0 h0 cs ss nL Q pc ls (.int n :: st) h := by
  subst hn
  exact r_newi C d hw hcs hss a hF (kk _)
theorem k_newj {n : Int32} {N : Nat} {f : PM → Option β} (C : Cx p R s m args meth c D cy MC MS DP cc nL own) (d : decode cc pc = .ok (.newarray .long, 2)) (hw : Cond.arrayClass .long ∈ gw) (hn : n.toNatClampNeg = N) (hcs : cs + 1 ≤ MC) (hss : ss + N ≤ MS) (hF : nA h a 21 n f = some X) (kk : ∀ h', f h' = some X → WP p l e R s m args below meth c D cy base ρ0 h0 (cs + 1) (ss + N) nL Q (pc + 2) ls (.ref a :: st) h') : WP p l e R s m args below meth c D cy base ρ0 h0 cs ss nL Q pc ls (.int n :: st) h := by
  subst hn
  exact r_newj C d hw hcs hss a hF (kk _)
theorem k_newz {n : Int32} {N : Nat} {f : PM → Option β} (C : Cx p R s m args meth c D cy MC MS DP cc nL own) (d : decode cc pc = .ok (.newarray .boolean, 2)) (hw : Cond.arrayClass .boolean ∈ gw) (hn : n.toNatClampNeg = N) (hcs : cs + 1 ≤ MC) (hss : ss + N ≤ MS) (hF : nA h a 22 n f = some X) (kk : ∀ h', f h' = some X → WP p l e R s m args below meth c D cy base ρ0 h0 (cs + 1) (ss + N) nL Q (pc + 2) ls (.ref a :: st) h') : WP p l e R s m args below meth c D cy base ρ0 h0 cs ss nL Q pc ls (.int n :: st) h := by
  subst hn
  exact r_newz C d hw hcs hss a hF (kk _)
theorem sw_ne {x y : Int32} (h : ¬ x = y) : x.toInt ≠ y.toInt := fun z => h (Int32.toInt_inj.mp z)
end KR
