/-! ===== what holds of the start of every method beside its words: nest words, casts, texts, statics ===== -/
def isN (w : Cond) : Bool := match w with
  | .methodLinkNest .. => true
  | .fieldLinkNest .. => true
  | .castable .. => true
  | .declares .. => true
  | _ => false
def nw : List Cond := lw_tbl.filter isN
def strL : List (String × Nat × String) := lw_tbl.filterMap (fun w => match w with
  | .stringRef a b c => some (a, b, c)
  | _ => none)
def alN : String := "java/util/ArrayList"
def EV (base : Nat) (ρ : Nat → Nat) (h : PM) (U : State) (H : Heap) : Prop :=
  (∀ w ∈ nw, va_Nw w U) ∧ (va_AO "java/lang/Object" U ∧ va_AO "RoughStones$Part" U ∧ va_AOA .long U) ∧ (∀ q ∈ strL, ∃ sa, vk_R q.1 q.2.1 q.2.2 sa U) ∧
  (vx_Zq Bundle.tN "UNASSIGNED_STACK" Bundle.steD (fun q => base ≤ q) U H ∧ vx_Zq Bundle.tN "SUPPRESSED_SENTINEL" Bundle.listD (fun q => base ≤ q) U H) ∧
  (mT h 1 ≠ 0 ∧ va_Z "RoughStones" "TURNED" "[I" (.ref (ρ 1)) (fun q => base ≤ q) U H) ∧ (mT h 2 ≠ 0 ∧ va_Z alN "DEFAULTCAPACITY_EMPTY_ELEMENTDATA" "[Ljava/lang/Object;" (.ref (ρ 2)) (fun q => base ≤ q) U H) ∧
  (mT h 3 ≠ 0 ∧ va_Mi "[Ljava/lang/Object;" (ρ 3) U) ∧ va_Dc U
theorem aoa_spec {ty : FieldType} {s : State} (h : va_AOA ty s) : ∃ comp c k, s.vm.findClass (FieldType.array ty).toString = some comp ∧ (s.vm.classes.findIdx? fun (x : Class) => match x.kind with | .array component _ => component == comp | _ => false) = some c ∧ s.vm.classes[c]? = some k ∧ k.kind = .array comp (.array ty) ∧ s.vm.findClass ("[" ++ (FieldType.array ty).toString) = some c := by
  have h : (Cond.arrayOver (.array ty)).holds #[] s none s [] = true := h
  simp only [Cond.holds, Cond.value, beq_iff_eq] at h
  cases hc : s.vm.findClass (FieldType.array ty).toString with
  | none => simp [hc] at h
  | some comp =>
    simp only [hc, Option.bind_some, Option.bind_eq_some_iff, Option.map_eq_some_iff] at h
    obtain ⟨c, hi, k, hk, hb⟩ := h
    obtain ⟨hlt, hp, -⟩ := Array.findIdx?_eq_some_iff_getElem.mp hi
    have hkk : s.vm.classes[c] = k := (Array.getElem?_eq_some_iff.mp hk).2
    rw [hkk] at hp
    cases hkind : k.kind with
    | array component ty =>
      rw [hkind] at hb hp
      simp at hb hp
      exact ⟨comp, c, k, rfl, hi, hk, by rw [hkind, hp, hb.1], hb.2⟩
    | _ => rw [hkind] at hb; simp at hb
theorem va_AOA.moved {ty : FieldType} {u U : State} (hvm : u.vm.Alike U.vm) (h : va_AOA ty u) : va_AOA ty U := by
  obtain ⟨comp, c, k, h1, h2, h3, h4, h5⟩ := aoa_spec h
  obtain ⟨k', hk', he⟩ := hvm.2.2 _ _ h3
  have hi : (U.vm.classes.findIdx? fun (x : Class) => match x.kind with | .array component _ => component == comp | _ => false) = some c := by
    have eb : U.vm.bare = u.vm.bare := by first | exact hvm.bare_eq | exact hvm.bare_eq.symm
    have e1 := va_idx_bare U.vm comp
    rw [eb] at e1
    exact e1.symm.trans ((va_idx_bare u.vm comp).trans h2)
  have hkind : k'.kind = .array comp (.array ty) := by rw [he]; exact h4
  have f1 : U.vm.findClass (FieldType.array ty).toString = some comp := by rw [hvm.findClass]; exact h1
  have f2 : U.vm.findClass ("[" ++ (FieldType.array ty).toString) = some c := by rw [hvm.findClass]; exact h5
  unfold va_AOA Cond.before Cond.holds
  simp only [Cond.value]
  rw [f1, Option.bind_some]
  refine (congrArg (fun o : Option Nat => (o.bind (fun c => (U.vm.classes[c]?).map fun (k : Class) => match k.kind with | .array _ t9 => decide (t9 = FieldType.array ty) && decide (U.vm.findClass ("[" ++ (FieldType.array ty).toString) = some c) | _ => false) == some true)) hi).trans ?_
  simp [hk', hkind, f2]
theorem Nw_warm {w : Cond} (hw : isN w = true) {s U : State} (hW : s.WarmedH U.vm) (h : va_Nw w s) : va_Nw w U := by
  cases w <;> first | exact va_Nw.warmF hW h | exact va_Nw.warmM hW h | exact va_Nw.warmC hW h | exact va_Nw.warmD hW h | cases hw
theorem EV.move {base : Nat} {ρ ρ' : Nat → Nat} {h h' : PM} {s U : State} {H H1 : Heap} (E : EV base ρ h s H) (hW : s.WarmedH U.vm) (hk : ∀ a : Nat, a < H.size → ¬ base ≤ a → H1[a]? = H[a]?) (hx : ∀ a, mT h a ≠ 0 → mT h' a ≠ 0 ∧ ρ' a = ρ a) : EV base ρ' h' U H1 := by
  obtain ⟨e1, ⟨e2, e3, e4⟩, e5, ⟨e6, e7⟩, ⟨e8, e9⟩, ⟨e10, e11⟩, ⟨e13, e12⟩, e14⟩ := E
  refine ⟨fun w hw => Nw_warm (List.mem_filter.mp hw).2 hW (e1 w hw), ⟨va_AO.moved hW.alike e2, va_AO.moved hW.alike e3, va_AOA.moved hW.alike e4⟩, fun q hq => ?_, ⟨vx_Zq.moved hW.alike (e6.kept hk), vx_Zq.moved hW.alike (e7.kept hk)⟩, ⟨(hx 1 e8).1, ?_⟩, ⟨(hx 2 e10).1, ?_⟩, ⟨(hx 3 e13).1, by rw [(hx 3 e13).2]; exact va_Mi.moved hW.alike e12⟩, va_Dc.moved hW.alike e14⟩
  · obtain ⟨sa, hsa⟩ := e5 q hq
    exact ⟨sa, vk_R.warm hW hsa⟩
  · rw [(hx 1 e8).2]; exact va_Z.moved hW.alike (e9.kept hk)
  · rw [(hx 2 e10).2]; exact va_Z.moved hW.alike (e11.kept hk)
section CMB2
variable {β : Type}
def nO (h : PM) (a c : Nat) (f : PM → Option β) : Option β := if a ≠ 0 ∧ mT h a = 0 then f (newM h a (c + 1) 0) else none
def nA (h : PM) (a t : Nat) (n : Int32) (f : PM → Option β) : Option β := if (a ≠ 0 ∧ mT h a = 0) ∧ (¬ n < 0 ∧ n.toNatClampNeg ≤ 65536) then f (newM h a t n.toNatClampNeg) else none
def sR (h : PM) (a : Nat) (i : Int32) (r : Nat) (f : PM → Option β) : Option β := if ((mT h a = 24 ∧ mT h r = 6) ∨ (mT h a = 25 ∧ (mT h r = 5 ∨ mT h r = 8 ∨ mT h r = 10))) ∧ ¬ (i < 0 ∨ mN h a ≤ i.toNatClampNeg) ∧ r ≠ 0 then f (setR h a i.toNatClampNeg r) else none
def tst (h : PM) (r c : Nat) (f : Option β) : Option β := if mT h r = c + 1 then f else none
end CMB2
section NEW
variable {p : Program} {l : Launch} {e : Env} {R : Room} {s : State} {m : MethodId} {args : Array Value} {below : List Frame} {meth : Method} {c : Code}
variable {D : va_G} {cy : Nat → ClassId} {base : Nat} {ρ0 : Nat → Nat} {h0 : PM} {cs ss MC MS DP nL : Nat} {Q : State → Prop}
variable {cc : ByteArray} {own ref : String} {pc : Nat} {ls ls' : List (Nat × Value)} {st : List Value} {h : PM} {β : Type} {X : β}
variable {ci ix k a N : Nat} {i : Int32} {Cn : String} {T : u_T}
/-- a cell comes at H.size: the frame goes on with the name a for it -/
theorem go_new {t n sl : Nat} {ρ : Nat → Nat} {H H1 : Heap} {locs : List Loc} {cells slots : Nat} {la : Array Slot} {pc' : Nat} (h1 : SH D cy base s ρ0 h0 cs ss ρ H locs cells slots h) (h2 : lv_has la nL (mp ρ ls)) (h3 : okL h ls) (h4 : okS h st)
    (ha : mT h a = 0) (ht : own1 t) (hsz : H1.size = H.size + 1) (oq : ∀ q : Nat, q < H.size → H1[q]? = H[q]?) (hat : va_at D vwCl (H.size, en cy (va_up ρ a H.size) (newM h a t n) a) H1)
    (kk : WP p l e R s m args below meth c D cy base ρ0 h0 (cs + 1) (ss + sl) nL Q pc' ls (.ref a :: st) (newM h a t n)) : W p l e R s m args below meth c H1 locs (cells + 1) (slots + sl) Q (F0 m pc' la (.ref H.size :: st.map (rv ρ))) := by
  obtain ⟨r1, r2, r3, r4, r5⟩ := h1
  have mono : ∀ b, mT h b ≠ 0 → mT (newM h a t n) b ≠ 0 := fun b hb => by
    have : b ≠ a := fun z => hb (by rw [z]; exact ha)
    show u1 (mT h) a t b ≠ 0
    rw [u1_ne this]; exact hb
  have hself : mT (newM h a t n) a = t := u1_self
  have hrep : Rep D cy base (va_up ρ a H.size) (newM h a t n) s H1 := r1.new ha (by rw [hself]; exact ht) (fun b hb => u1_ne hb) (fun b hb => u1_ne hb) (fun b hb => u1_ne hb) (fun b hb => u1_ne hb) (fun b hb => u1_ne hb) (fun k => by show u1 (mR h) a (fun _ => 0) a k = 0; rw [u1_self]) (Nat.le_trans r5 r2.1) oq hat
  have := kk (va_up ρ a H.size) H1 locs (cells + 1) (slots + sl) la ⟨hrep, ⟨Nat.le_trans r2.1 (by omega), fun q q1 q2 => (oq q (Nat.lt_of_lt_of_le q1 r2.1)).trans (r2.2.1 q q1 q2), r2.2.2⟩, ⟨by have := r3.1; omega, by have := r3.2; omega⟩, fun b hb => ⟨mono b (r4 b hb).1, by
      have : b ≠ a := fun z => (r4 b hb).1 (by rw [z]; exact ha)
      rw [← (r4 b hb).2]; simp [va_up, this]⟩, r5⟩ (by rw [mp_up ha h3]; exact h2) (okL_mono mono h3) ⟨by show mT (newM h a t n) a ≠ 0; rw [hself]; exact ht.1, okS_mono mono h4⟩
  rw [List.map_cons, rvS_up ha h4] at this
  have e0 : rv (va_up ρ a H.size) (.ref a) = .ref H.size := by simp [rv, va_up]
  rw [e0] at this
  exact this
theorem new_I : mI (newM h a k N) a = fun _ => 0 := u1_self
theorem new_J : mJ (newM h a k N) a = fun _ => 0 := u1_self
theorem new_R : mR (newM h a k N) a = fun _ => 0 := u1_self
theorem new_T : mT (newM h a k N) a = k := u1_self
theorem new_N : mN (newM h a k N) a = N := u1_self
theorem r_new {f : PM → Option β} (C : Cx p R s m args meth c D cy MC MS DP cc nL own) (d : decode cc pc = .ok (.new ix, 3)) (K : Cls ci Cn T N) (hl : Cond.classLink own ix Cn ∈ gw) (hi : Cond.instantiable Cn N ∈ gw) (hin : Cond.initialized Cn ∈ gw) (hcs : cs + 1 ≤ MC) (hss : ss + N ≤ MS) (a : Nat)
    (hF : nO h a ci f = some X) (kk : f (newM h a (ci + 1) 0) = some X → WP p l e R s m args below meth c D cy base ρ0 h0 (cs + 1) (ss + N) nL Q (pc + 3) ls (.ref a :: st) (newM h a (ci + 1) 0)) : WP p l e R s m args below meth c D cy base ρ0 h0 cs ss nL Q pc ls st h := by
  intro ρ H locs cells slots la h1 h2 h3 h4
  obtain ⟨⟨ha0, ha⟩, hF⟩ := ite_some hF
  have hts := C.1.2.2.2.2
  have hKn := C.2.1.1 ci _ K.1
  have hN := K.2.2.2.2.1
  have hb := h1.2.2.1
  obtain ⟨ty0, hty, hkd⟩ := K.2.2.1
  refine W.newcK C.1.1 C.1.2.1 C.1.2.2.2.1 (hts _ hl) (hts _ hi) (hts _ hin) rfl d (by have := C.2.2.2.1; omega) (by have := C.2.2.2.2.1; omega) hKn.2.1 rfl fun H1 kC hkC e1 z1 o1 => ?_
  refine go_new h1 h2 h3 h4 ha (own_obj (h := newM h a (ci + 1) 0) K.2.2.2.2.2.1 new_T |> fun z => by rw [new_T] at z; exact z) z1 o1 ?_ (kk hF)
  rw [en_obj new_T K.2.2.2.2.2.1 hN]
  refine ⟨_, K.1, (u_born ty0 hts K.2.1 hKn hkC e1 hty).to (fun j hj => ?_)⟩
  have hv : vp_V ((List.range N).map (fv (va_up ρ a H.size) (newM h a (ci + 1) 0) ci a)) j = fv (va_up ρ a H.size) (newM h a (ci + 1) 0) ci a j := by simp [vp_V, hj]
  rw [hv]
  have h2' := K.2.2.2.2.2.2 j
  obtain ⟨k1, k2, k3⟩ := hkd j hj
  unfold fv
  rw [new_I, new_R]
  by_cases e2 : fk ci j = 2
  · rw [if_pos e2, (rty_ok (k3 e2) 0).2.2]; rfl
  · rw [if_neg e2]
    by_cases e0 : fk ci j = 0
    · rw [k1 e0]; rfl
    · rw [k2 (by omega)]; rfl
theorem r_newa {f : PM → Option β} {n : Int32} {at' : ArrayType} {ty : FieldType} {t t0 : Nat} (C : Cx p R s m args meth c D cy MC MS DP cc nL own) (d : decode cc pc = .ok (.newarray at', 2)) (hty : newarray.typeOf at' = ty) (hw : Cond.arrayClass ty ∈ gw) (hcm : componentBytes ty ≤ 8) (ht : own1 t) (ht1 : 20 ≤ t) (ht2 : t < 24) (htl : (tyL cy)[t0]? = some (cy t, ty)) (hra : ∀ cA, va_RA s cA ty → s.vm.findClass ("[" ++ ty.toString) = some cA)
    (hdef : ∀ (ρ : Nat → Nat) (h9 : PM) (cA : ClassId) (n : Nat), mI h9 a = (fun _ => 0) → mJ h9 a = (fun _ => 0) → arrV cA n (fun _ => defaultValue ty) = vp_cell cA (n, co ρ h9 t a)) (hcs : cs + 1 ≤ MC) (hss : ss + n.toNatClampNeg ≤ MS)
    (hF : nA h a t n f = some X) (kk : f (newM h a t n.toNatClampNeg) = some X → WP p l e R s m args below meth c D cy base ρ0 h0 (cs + 1) (ss + n.toNatClampNeg) nL Q (pc + 2) ls (.ref a :: st) (newM h a t n.toNatClampNeg)) : WP p l e R s m args below meth c D cy base ρ0 h0 cs ss nL Q pc ls (.int n :: st) h := by
  intro ρ H locs cells slots la h1 h2 h3 h4
  obtain ⟨⟨⟨ha0, ha⟩, hn, hn2⟩, hF⟩ := ite_some hF
  have hb := h1.2.2.1
  subst hty
  refine va_newaK C.1.1 C.1.2.1 (C.1.2.2.2.2 _ hw) rfl d rfl hn rfl (Nat.le_trans (Nat.mul_le_mul hn2 hcm) (by decide)) (by have := C.2.2.2.1; omega) (by have := C.2.2.2.2.1; omega) rfl fun H1 cA e1 z1 o1 _ hNm => ?_
  have hcA : cA = cy t := Option.some.inj (hNm.symm.trans (hra _ (C.2.1.2 t0 _ htl).2))
  subst hcA
  refine go_new h1 h2 h3 h4.2 ha ht z1 o1 ?_ (kk hF)
  rw [en_arr new_T ht1]
  show H1[H.size]? = some (vp_cell _ _)
  rw [e1, new_N, hdef (va_up ρ a H.size) _ _ _ new_I new_J]
theorem r_newi {f : PM → Option β} {n : Int32} (C : Cx p R s m args meth c D cy MC MS DP cc nL own) (d : decode cc pc = .ok (.newarray .int, 2)) (hw : Cond.arrayClass .int ∈ gw) (hcs : cs + 1 ≤ MC) (hss : ss + n.toNatClampNeg ≤ MS) (a : Nat) (hF : nA h a 20 n f = some X) (kk : f (newM h a 20 n.toNatClampNeg) = some X → WP p l e R s m args below meth c D cy base ρ0 h0 (cs + 1) (ss + n.toNatClampNeg) nL Q (pc + 2) ls (.ref a :: st) (newM h a 20 n.toNatClampNeg)) : WP p l e R s m args below meth c D cy base ρ0 h0 cs ss nL Q pc ls (.int n :: st) h :=
  r_newa (ty := .int) (t := 20) (t0 := 0) C d rfl hw (by decide) (by unfold own1; decide) (by decide) (by decide) rfl (fun _ z => z) (fun ρ h9 cA n e1 e2 => by simp [co, e1, vp_cell]; rfl) hcs hss hF kk
theorem r_newj {f : PM → Option β} {n : Int32} (C : Cx p R s m args meth c D cy MC MS DP cc nL own) (d : decode cc pc = .ok (.newarray .long, 2)) (hw : Cond.arrayClass .long ∈ gw) (hcs : cs + 1 ≤ MC) (hss : ss + n.toNatClampNeg ≤ MS) (a : Nat) (hF : nA h a 21 n f = some X) (kk : f (newM h a 21 n.toNatClampNeg) = some X → WP p l e R s m args below meth c D cy base ρ0 h0 (cs + 1) (ss + n.toNatClampNeg) nL Q (pc + 2) ls (.ref a :: st) (newM h a 21 n.toNatClampNeg)) : WP p l e R s m args below meth c D cy base ρ0 h0 cs ss nL Q pc ls (.int n :: st) h :=
  r_newa (ty := .long) (t := 21) (t0 := 1) C d rfl hw (by decide) (by unfold own1; decide) (by decide) (by decide) rfl (fun _ z => z) (fun ρ h9 cA n e1 e2 => by simp [co, e2, vp_cell]; rfl) hcs hss hF kk
theorem r_newz {f : PM → Option β} {n : Int32} (C : Cx p R s m args meth c D cy MC MS DP cc nL own) (d : decode cc pc = .ok (.newarray .boolean, 2)) (hw : Cond.arrayClass .boolean ∈ gw) (hcs : cs + 1 ≤ MC) (hss : ss + n.toNatClampNeg ≤ MS) (a : Nat) (hF : nA h a 22 n f = some X) (kk : f (newM h a 22 n.toNatClampNeg) = some X → WP p l e R s m args below meth c D cy base ρ0 h0 (cs + 1) (ss + n.toNatClampNeg) nL Q (pc + 2) ls (.ref a :: st) (newM h a 22 n.toNatClampNeg)) : WP p l e R s m args below meth c D cy base ρ0 h0 cs ss nL Q pc ls (.int n :: st) h :=
  r_newa (ty := .boolean) (t := 22) (t0 := 2) C d rfl hw (by decide) (by unfold own1; decide) (by decide) (by decide) rfl (fun _ z => z) (fun ρ h9 cA n e1 e2 => by simp [co, e1, vp_cell]; rfl) hcs hss hF kk
end NEW
