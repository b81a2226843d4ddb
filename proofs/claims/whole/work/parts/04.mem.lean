/-! ===== the pure memory: names for cells; ints, longs, names by (name, place); kind and length of a name ===== -/
abbrev PM : Type := (Nat → Nat → Int32) × (Nat → Nat → Int64) × (Nat → Nat → Nat) × (Nat → Nat) × (Nat → Nat)
def mI (h : PM) : Nat → Nat → Int32 := h.1
def mJ (h : PM) : Nat → Nat → Int64 := h.2.1
def mR (h : PM) : Nat → Nat → Nat := h.2.2.1
def mT (h : PM) : Nat → Nat := h.2.2.2.1
def mN (h : PM) : Nat → Nat := h.2.2.2.2
def u2 {α : Type} (f : Nat → Nat → α) (a k : Nat) (v : α) : Nat → Nat → α := fun b j => if b = a then (if j = k then v else f b j) else f b j
def u1 {α : Type} (f : Nat → α) (a : Nat) (v : α) : Nat → α := fun b => if b = a then v else f b
def setI (h : PM) (a k : Nat) (v : Int32) : PM := (u2 (mI h) a k v, h.2)
def setJ (h : PM) (a k : Nat) (v : Int64) : PM := (h.1, u2 (mJ h) a k v, h.2.2)
def setR (h : PM) (a k : Nat) (v : Nat) : PM := (h.1, h.2.1, u2 (mR h) a k v, h.2.2.2)
/-- a new name: kind t, length n, all its places at their default -/
def newM (h : PM) (a t n : Nat) : PM := (u1 (mI h) a (fun _ => 0), u1 (mJ h) a (fun _ => 0), u1 (mR h) a (fun _ => 0), u1 (mT h) a t, u1 (mN h) a n)
theorem u2_ne {α : Type} {f : Nat → Nat → α} {a k : Nat} {v : α} {b : Nat} (h : b ≠ a) : u2 f a k v b = f b := by funext j; simp [u2, h]
theorem u2_self {α : Type} {f : Nat → Nat → α} {a k : Nat} {v : α} : u2 f a k v a = fun j => if j = k then v else f a j := by funext j; simp [u2]
theorem u1_ne {α : Type} {f : Nat → α} {a : Nat} {v : α} {b : Nat} (h : b ≠ a) : u1 f a v b = f b := by simp [u1, h]
theorem u1_self {α : Type} {f : Nat → α} {a : Nat} {v : α} : u1 f a v a = v := by simp [u1]
/-- fields of the classes: 0 int, 1 boolean, 2 reference -/
def fkL : List (List Nat) := [[0, 2, 0], [2, 2, 2, 2, 2, 2, 0, 0], [0, 0, 0, 0, 0, 0, 0, 0], [2, 2, 2, 0], [2, 2, 2, 0, 0], [0, 0, 0, 2], [2, 2, 0], [2, 1, 0, 0, 0, 0, 2, 2], [2, 2, 2, 2], [0, 0, 0, 1, 0, 0, 0, 0, 2, 2, 0, 0, 2], [2, 0, 0, 0, 0, 2, 2, 2, 2], [2, 2, 2], [2, 2, 2, 2, 2, 2, 2, 2, 2, 0], [0, 0, 2, 0, 0, 0, 0, 0, 2, 2, 2, 2, 2, 2, 0, 2, 2, 2, 2, 2, 2, 2, 0, 0, 0, 2, 2, 2, 0, 0, 0, 0, 0, 2, 2, 2, 2, 2, 2, 2, 2, 2, 2, 2, 2, 0, 0, 0, 2, 2, 2, 0, 0, 2, 2, 2, 2, 2]]
def fk (c k : Nat) : Nat := (fkL.getD c []).getD k 0
def nF (c : Nat) : Nat := (fkL.getD c []).length
def rn (ρ : Nat → Nat) (r : Nat) : Option Nat := if r = 0 then none else some (ρ r)
def fv (ρ : Nat → Nat) (h : PM) (c a k : Nat) : Value := if fk c k = 2 then va_rf (rn ρ (mR h a k)) else .int (mI h a k)
def co (ρ : Nat → Nat) (h : PM) (t a : Nat) : (Nat → Int32) ⊕ (Nat → Int64) ⊕ (Nat → UInt32) ⊕ (Nat → UInt64) ⊕ (Nat → Option Nat) :=
  if t = 21 then .inr (.inl (mJ h a)) else if 24 ≤ t then .inr (.inr (.inr (.inr (fun j => rn ρ (mR h a j))))) else .inl (mI h a)
/-- what the cell of a name holds. kinds: below 20 an object of the class t - 1; 20 int[], 21 long[], 22 boolean[], 24 Part[], 25 Object[], 26 long[][]; 23 and 27: int[], Object[] of others, read only; 27 with the length 77: an object of others -/
def en (cy : Nat → ClassId) (ρ : Nat → Nat) (h : PM) (a : Nat) : va_E :=
  if mT h a < 20 then .inr (mT h a - 1, (List.range (nF (mT h a - 1))).map (fv ρ h (mT h a - 1) a)) else .inl (cy (mT h a), mN h a, co ρ h (mT h a) a)
def tyL (cy : Nat → ClassId) : List (ClassId × FieldType) := [(cy 20, .int), (cy 21, .long), (cy 22, .boolean), (cy 24, .object "RoughStones$Part"), (cy 25, .object "java/lang/Object"), (cy 26, .array .long)]
def own1 (t : Nat) : Prop := t ≠ 0 ∧ t ≠ 23 ∧ t ≠ 27
/-- an array of references of others' making, of which the length is known -/
def va_XO (b L : Nat) (U : State) (H : Heap) : Prop := ∃ scr : Cell, H[b]? = some scr ∧ U.isArrayOf scr (.object "java/lang/Object") ∧ scr.vm ≠ .unknown ∧ scr.slots.size.toInt32 = Int32.ofNat L
/-- an int[] of others, of which the first L are known, L its length as arraylength tells it -/
def va_XI (b L : Nat) (xs : Nat → Int32) (U : State) (H : Heap) : Prop := ∃ scr : Cell, H[b]? = some scr ∧ U.isArrayOf scr .int ∧ scr.vm ≠ .unknown ∧ (L ≤ scr.slots.size ∧ scr.slots.size.toInt32 = Int32.ofNat L) ∧ ∀ j : Nat, j < L → scr.slots[j]? = some (.int (xs j))
theorem va_XI.kept {b L : Nat} {xs : Nat → Int32} {U : State} {H H1 : Heap} (h : va_XI b L xs U H) (hq : H1[b]? = H[b]?) : va_XI b L xs U H1 := by
  obtain ⟨scr, h1, h2⟩ := h
  exact ⟨scr, by rw [hq]; exact h1, h2⟩
theorem va_XI.moved {b L : Nat} {xs : Nat → Int32} {u U : State} {H : Heap} (hvm : u.vm.Alike U.vm) (h : va_XI b L xs u H) : va_XI b L xs U H := by
  obtain ⟨scr, h1, h2, h3⟩ := h
  exact ⟨scr, h1, State.isArrayOf_alike hvm h2, h3⟩
def Rep (D : va_G) (cy : Nat → ClassId) (base : Nat) (ρ : Nat → Nat) (h : PM) (U : State) (H : Heap) : Prop :=
  (∀ a, own1 (mT h a) → base ≤ ρ a ∧ va_at D vwCl (ρ a, en cy ρ h a) H) ∧
  (∀ a, mT h a = 23 → ρ a < base ∧ va_XI (ρ a) (mN h a) (mI h a) U H) ∧
  (∀ a, mT h a = 27 → mN h a = 77 ∨ (ρ a < base ∧ va_XO (ρ a) (mN h a) U H)) ∧
  (∀ a b, own1 (mT h a) → own1 (mT h b) → ρ a = ρ b → a = b) ∧
  (∀ a k, mT h a ≠ 0 → mR h a k = 0 ∨ mT h (mR h a k) ≠ 0)
def rv (ρ : Nat → Nat) (v : Value) : Value := match v with
  | .ref a => .ref (ρ a)
  | v => v
def okv (h : PM) (v : Value) : Prop := match v with
  | .ref a => mT h a ≠ 0
  | _ => True
def okS (h : PM) : List Value → Prop
  | [] => True
  | v :: t => okv h v ∧ okS h t
def okL (h : PM) : List (Nat × Value) → Prop
  | [] => True
  | q :: t => okv h q.2 ∧ okL h t
def mp (ρ : Nat → Nat) (ls : List (Nat × Value)) : List (Nat × Value) := ls.map (fun q => (q.1, rv ρ q.2))
theorem rv_cat (ρ : Nat → Nat) (v : Value) : (rv ρ v).category = v.category := by cases v <;> rfl
/-- the heap, what was written, the room: all but the frame -/
def SH (D : va_G) (cy : Nat → ClassId) (base : Nat) (s : State) (ρ0 : Nat → Nat) (h0 : PM) (cs ss : Nat) (ρ : Nat → Nat) (H : Heap) (locs : List Loc) (cells slots : Nat) (h : PM) : Prop :=
  Rep D cy base ρ h s H ∧ va_S (fun q => base ≤ q) s.heap H locs ∧ (cells ≤ cs ∧ slots ≤ ss) ∧ (∀ a, mT h0 a ≠ 0 → mT h a ≠ 0 ∧ ρ a = ρ0 a) ∧ base ≤ s.heap.size
section PW
variable (p : Program) (l : Launch) (e : Env) (R : Room) (s : State) (m : MethodId) (args : Array Value) (below : List Frame) (meth : Method) (c : Code)
variable (D : va_G) (cy : Nat → ClassId) (base : Nat) (ρ0 : Nat → Nat) (h0 : PM) (cs ss nL : Nat) (Q : State → Prop)
/-- the machine at pc with these locals and stack over the memory h comes to a state with Q -/
def WP (pc : Nat) (ls : List (Nat × Value)) (st : List Value) (h : PM) : Prop :=
  ∀ (ρ : Nat → Nat) (H : Heap) (locs : List Loc) (cells slots : Nat) (la : Array Slot), SH D cy base s ρ0 h0 cs ss ρ H locs cells slots h → lv_has la nL (mp ρ ls) → okL h ls → okS h st →
    W p l e R s m args below meth c H locs cells slots Q (F0 m pc la (st.map (rv ρ)))
end PW
/-- what holds all along a method -/
def Cx (p : Program) (R : Room) (s : State) (m : MethodId) (args : Array Value) (meth : Method) (c : Code) (D : va_G) (cy : Nat → ClassId) (MC MS DP : Nat) (cc : ByteArray) (nL : Nat) (own : String) : Prop :=
  CallFix p m c cc nL s args gw own ∧ va_K D vwCl (tyL cy) s ∧ meth.locks = false ∧ (MC ≤ R.cells ∧ MS ≤ R.slots ∧ DP ≤ R.frames ∧ 64 * DP ≤ R.locals)
section PR
variable {p : Program} {l : Launch} {e : Env} {R : Room} {s : State} {m : MethodId} {args : Array Value} {below : List Frame} {meth : Method} {c : Code}
variable {D : va_G} {cy : Nat → ClassId} {base : Nat} {ρ0 : Nat → Nat} {h0 : PM} {cs ss MC MS DP nL : Nat} {Q : State → Prop}
variable {cc : ByteArray} {own : String} {pc : Nat} {ls : List (Nat × Value)} {st : List Value} {h : PM}
theorem r_at {ρ : Nat → Nat} {la : Array Slot} (hl : lv_has la nL (mp ρ ls)) (k : Nat) {i : Nat} {v : Value} (hk : ls[k]? = some (i, v)) : la[i]? = some (.val (rv ρ v)) :=
  lv_at hl k (by simp [mp, hk])
theorem okL_at (ho : okL h ls) {k i : Nat} {v : Value} (hk : ls[k]? = some (i, v)) : okv h v := by
  induction ls generalizing k with
  | nil => simp at hk
  | cons q t ih =>
    cases k with
    | zero => simp at hk; subst hk; exact ho.1
    | succ k => exact ih ho.2 (by simpa using hk)
theorem okL_mem (ho : okL h ls) {q : Nat × Value} (hq : q ∈ ls) : okv h q.2 := by
  obtain ⟨k, hk⟩ := List.getElem?_of_mem hq
  exact okL_at ho (k := k) (i := q.1) (v := q.2) hk
theorem okL_of (hh : ∀ q ∈ ls, okv h q.2) : okL h ls := by
  induction ls with
  | nil => trivial
  | cons q t ih => exact ⟨hh q List.mem_cons_self, ih (fun x hx => hh x (List.mem_cons_of_mem _ hx))⟩
theorem r_iconst {n : Int} {v : Int32} (C : Cx p R s m args meth c D cy MC MS DP cc nL own) (d : decode cc pc = .ok (.iconst n, 1)) (hv : Int32.ofInt n = v) (k : WP p l e R s m args below meth c D cy base ρ0 h0 cs ss nL Q (pc + 1) ls (.int v :: st) h) : WP p l e R s m args below meth c D cy base ρ0 h0 cs ss nL Q pc ls st h := fun ρ H locs cells slots la h1 h2 h3 h4 => lv_iconst C.1.1 C.1.2.1 d hv (k ρ H locs cells slots la h1 h2 h3 ⟨trivial, h4⟩)
theorem r_bipush {n : Int} {v : Int32} (C : Cx p R s m args meth c D cy MC MS DP cc nL own) (d : decode cc pc = .ok (.bipush n, 2)) (hv : (Int8.ofInt n).toInt32 = v) (k : WP p l e R s m args below meth c D cy base ρ0 h0 cs ss nL Q (pc + 2) ls (.int v :: st) h) : WP p l e R s m args below meth c D cy base ρ0 h0 cs ss nL Q pc ls st h := fun ρ H locs cells slots la h1 h2 h3 h4 => lv_bipush C.1.1 C.1.2.1 d hv (k ρ H locs cells slots la h1 h2 h3 ⟨trivial, h4⟩)
theorem r_sipush {n : Int} {v : Int32} (C : Cx p R s m args meth c D cy MC MS DP cc nL own) (d : decode cc pc = .ok (.sipush n, 3)) (hv : (Int16.ofInt n).toInt32 = v) (k : WP p l e R s m args below meth c D cy base ρ0 h0 cs ss nL Q (pc + 3) ls (.int v :: st) h) : WP p l e R s m args below meth c D cy base ρ0 h0 cs ss nL Q pc ls st h := fun ρ H locs cells slots la h1 h2 h3 h4 => lv_sipush C.1.1 C.1.2.1 d hv (k ρ H locs cells slots la h1 h2 h3 ⟨trivial, h4⟩)
theorem r_lconst {n : Fin 2} {v : Int64} (C : Cx p R s m args meth c D cy MC MS DP cc nL own) (d : decode cc pc = .ok (.lconst n, 1)) (hv : Int64.ofNat (n : Nat) = v) (k : WP p l e R s m args below meth c D cy base ρ0 h0 cs ss nL Q (pc + 1) ls (.long v :: st) h) : WP p l e R s m args below meth c D cy base ρ0 h0 cs ss nL Q pc ls st h := fun ρ H locs cells slots la h1 h2 h3 h4 => lv_lconst C.1.1 C.1.2.1 d hv (k ρ H locs cells slots la h1 h2 h3 ⟨trivial, h4⟩)
theorem r_iadd {x y : Int32} (C : Cx p R s m args meth c D cy MC MS DP cc nL own) (d : decode cc pc = .ok (.iadd, 1))  (k : WP p l e R s m args below meth c D cy base ρ0 h0 cs ss nL Q (pc + 1) ls (.int (x + y) :: st) h) : WP p l e R s m args below meth c D cy base ρ0 h0 cs ss nL Q pc ls (.int y :: .int x :: st) h := fun ρ H locs cells slots la h1 h2 h3 h4 => lv_iadd C.1.1 C.1.2.1 d (k ρ H locs cells slots la h1 h2 h3 ⟨trivial, h4.2.2⟩)
theorem r_isub {x y : Int32} (C : Cx p R s m args meth c D cy MC MS DP cc nL own) (d : decode cc pc = .ok (.isub, 1))  (k : WP p l e R s m args below meth c D cy base ρ0 h0 cs ss nL Q (pc + 1) ls (.int (x - y) :: st) h) : WP p l e R s m args below meth c D cy base ρ0 h0 cs ss nL Q pc ls (.int y :: .int x :: st) h := fun ρ H locs cells slots la h1 h2 h3 h4 => lv_isub C.1.1 C.1.2.1 d (k ρ H locs cells slots la h1 h2 h3 ⟨trivial, h4.2.2⟩)
theorem r_imul {x y : Int32} (C : Cx p R s m args meth c D cy MC MS DP cc nL own) (d : decode cc pc = .ok (.imul, 1))  (k : WP p l e R s m args below meth c D cy base ρ0 h0 cs ss nL Q (pc + 1) ls (.int (x * y) :: st) h) : WP p l e R s m args below meth c D cy base ρ0 h0 cs ss nL Q pc ls (.int y :: .int x :: st) h := fun ρ H locs cells slots la h1 h2 h3 h4 => lv_imul C.1.1 C.1.2.1 d (k ρ H locs cells slots la h1 h2 h3 ⟨trivial, h4.2.2⟩)
theorem r_iand {x y : Int32} (C : Cx p R s m args meth c D cy MC MS DP cc nL own) (d : decode cc pc = .ok (.iand, 1))  (k : WP p l e R s m args below meth c D cy base ρ0 h0 cs ss nL Q (pc + 1) ls (.int (x &&& y) :: st) h) : WP p l e R s m args below meth c D cy base ρ0 h0 cs ss nL Q pc ls (.int y :: .int x :: st) h := fun ρ H locs cells slots la h1 h2 h3 h4 => lv_iand C.1.1 C.1.2.1 d (k ρ H locs cells slots la h1 h2 h3 ⟨trivial, h4.2.2⟩)
theorem r_ior {x y : Int32} (C : Cx p R s m args meth c D cy MC MS DP cc nL own) (d : decode cc pc = .ok (.ior, 1))  (k : WP p l e R s m args below meth c D cy base ρ0 h0 cs ss nL Q (pc + 1) ls (.int (x ||| y) :: st) h) : WP p l e R s m args below meth c D cy base ρ0 h0 cs ss nL Q pc ls (.int y :: .int x :: st) h := fun ρ H locs cells slots la h1 h2 h3 h4 => lv_ior C.1.1 C.1.2.1 d (k ρ H locs cells slots la h1 h2 h3 ⟨trivial, h4.2.2⟩)
theorem r_ixor {x y : Int32} (C : Cx p R s m args meth c D cy MC MS DP cc nL own) (d : decode cc pc = .ok (.ixor, 1))  (k : WP p l e R s m args below meth c D cy base ρ0 h0 cs ss nL Q (pc + 1) ls (.int (x ^^^ y) :: st) h) : WP p l e R s m args below meth c D cy base ρ0 h0 cs ss nL Q pc ls (.int y :: .int x :: st) h := fun ρ H locs cells slots la h1 h2 h3 h4 => lv_ixor C.1.1 C.1.2.1 d (k ρ H locs cells slots la h1 h2 h3 ⟨trivial, h4.2.2⟩)
theorem r_ishl {x y : Int32} (C : Cx p R s m args meth c D cy MC MS DP cc nL own) (d : decode cc pc = .ok (.ishl, 1))  (k : WP p l e R s m args below meth c D cy base ρ0 h0 cs ss nL Q (pc + 1) ls (.int (x <<< (y &&& 31)) :: st) h) : WP p l e R s m args below meth c D cy base ρ0 h0 cs ss nL Q pc ls (.int y :: .int x :: st) h := fun ρ H locs cells slots la h1 h2 h3 h4 => lv_ishl C.1.1 C.1.2.1 d (k ρ H locs cells slots la h1 h2 h3 ⟨trivial, h4.2.2⟩)
theorem r_ishr {x y : Int32} (C : Cx p R s m args meth c D cy MC MS DP cc nL own) (d : decode cc pc = .ok (.ishr, 1))  (k : WP p l e R s m args below meth c D cy base ρ0 h0 cs ss nL Q (pc + 1) ls (.int (x >>> (y &&& 31)) :: st) h) : WP p l e R s m args below meth c D cy base ρ0 h0 cs ss nL Q pc ls (.int y :: .int x :: st) h := fun ρ H locs cells slots la h1 h2 h3 h4 => lv_ishr C.1.1 C.1.2.1 d (k ρ H locs cells slots la h1 h2 h3 ⟨trivial, h4.2.2⟩)
theorem r_iushr {x y : Int32} (C : Cx p R s m args meth c D cy MC MS DP cc nL own) (d : decode cc pc = .ok (.iushr, 1))  (k : WP p l e R s m args below meth c D cy base ρ0 h0 cs ss nL Q (pc + 1) ls (.int ((x.toUInt32 >>> (y.toUInt32 &&& Int32.toUInt32 31)).toInt32) :: st) h) : WP p l e R s m args below meth c D cy base ρ0 h0 cs ss nL Q pc ls (.int y :: .int x :: st) h := fun ρ H locs cells slots la h1 h2 h3 h4 => lv_iushr C.1.1 C.1.2.1 d rfl (k ρ H locs cells slots la h1 h2 h3 ⟨trivial, h4.2.2⟩)
theorem r_idiv {x y : Int32} (C : Cx p R s m args meth c D cy MC MS DP cc nL own) (d : decode cc pc = .ok (.idiv, 1)) (hne : ¬ y = 0) (k : WP p l e R s m args below meth c D cy base ρ0 h0 cs ss nL Q (pc + 1) ls (.int (x / y) :: st) h) : WP p l e R s m args below meth c D cy base ρ0 h0 cs ss nL Q pc ls (.int y :: .int x :: st) h := fun ρ H locs cells slots la h1 h2 h3 h4 => lv_idiv C.1.1 C.1.2.1 d hne (k ρ H locs cells slots la h1 h2 h3 ⟨trivial, h4.2.2⟩)
theorem r_irem {x y : Int32} (C : Cx p R s m args meth c D cy MC MS DP cc nL own) (d : decode cc pc = .ok (.irem, 1)) (hne : ¬ y = 0) (k : WP p l e R s m args below meth c D cy base ρ0 h0 cs ss nL Q (pc + 1) ls (.int (x - x / y * y) :: st) h) : WP p l e R s m args below meth c D cy base ρ0 h0 cs ss nL Q pc ls (.int y :: .int x :: st) h := fun ρ H locs cells slots la h1 h2 h3 h4 => lv_irem C.1.1 C.1.2.1 d hne (k ρ H locs cells slots la h1 h2 h3 ⟨trivial, h4.2.2⟩)
theorem r_ineg {x : Int32} (C : Cx p R s m args meth c D cy MC MS DP cc nL own) (d : decode cc pc = .ok (.ineg, 1))  (k : WP p l e R s m args below meth c D cy base ρ0 h0 cs ss nL Q (pc + 1) ls (.int (-x) :: st) h) : WP p l e R s m args below meth c D cy base ρ0 h0 cs ss nL Q pc ls (.int x :: st) h := fun ρ H locs cells slots la h1 h2 h3 h4 => lv_ineg C.1.1 C.1.2.1 d (k ρ H locs cells slots la h1 h2 h3 ⟨trivial, h4.2⟩)
theorem r_ladd {x y : Int64} (C : Cx p R s m args meth c D cy MC MS DP cc nL own) (d : decode cc pc = .ok (.ladd, 1))  (k : WP p l e R s m args below meth c D cy base ρ0 h0 cs ss nL Q (pc + 1) ls (.long (x + y) :: st) h) : WP p l e R s m args below meth c D cy base ρ0 h0 cs ss nL Q pc ls (.long y :: .long x :: st) h := fun ρ H locs cells slots la h1 h2 h3 h4 => lv_ladd C.1.1 C.1.2.1 d (k ρ H locs cells slots la h1 h2 h3 ⟨trivial, h4.2.2⟩)
theorem r_lsub {x y : Int64} (C : Cx p R s m args meth c D cy MC MS DP cc nL own) (d : decode cc pc = .ok (.lsub, 1))  (k : WP p l e R s m args below meth c D cy base ρ0 h0 cs ss nL Q (pc + 1) ls (.long (x - y) :: st) h) : WP p l e R s m args below meth c D cy base ρ0 h0 cs ss nL Q pc ls (.long y :: .long x :: st) h := fun ρ H locs cells slots la h1 h2 h3 h4 => lv_lsub C.1.1 C.1.2.1 d (k ρ H locs cells slots la h1 h2 h3 ⟨trivial, h4.2.2⟩)
theorem r_land {x y : Int64} (C : Cx p R s m args meth c D cy MC MS DP cc nL own) (d : decode cc pc = .ok (.land, 1))  (k : WP p l e R s m args below meth c D cy base ρ0 h0 cs ss nL Q (pc + 1) ls (.long (x &&& y) :: st) h) : WP p l e R s m args below meth c D cy base ρ0 h0 cs ss nL Q pc ls (.long y :: .long x :: st) h := fun ρ H locs cells slots la h1 h2 h3 h4 => lv_land C.1.1 C.1.2.1 d (k ρ H locs cells slots la h1 h2 h3 ⟨trivial, h4.2.2⟩)
theorem r_lor {x y : Int64} (C : Cx p R s m args meth c D cy MC MS DP cc nL own) (d : decode cc pc = .ok (.lor, 1))  (k : WP p l e R s m args below meth c D cy base ρ0 h0 cs ss nL Q (pc + 1) ls (.long (x ||| y) :: st) h) : WP p l e R s m args below meth c D cy base ρ0 h0 cs ss nL Q pc ls (.long y :: .long x :: st) h := fun ρ H locs cells slots la h1 h2 h3 h4 => lv_lor C.1.1 C.1.2.1 d (k ρ H locs cells slots la h1 h2 h3 ⟨trivial, h4.2.2⟩)
theorem r_lxor {x y : Int64} (C : Cx p R s m args meth c D cy MC MS DP cc nL own) (d : decode cc pc = .ok (.lxor, 1))  (k : WP p l e R s m args below meth c D cy base ρ0 h0 cs ss nL Q (pc + 1) ls (.long (x ^^^ y) :: st) h) : WP p l e R s m args below meth c D cy base ρ0 h0 cs ss nL Q pc ls (.long y :: .long x :: st) h := fun ρ H locs cells slots la h1 h2 h3 h4 => lv_lxor C.1.1 C.1.2.1 d (k ρ H locs cells slots la h1 h2 h3 ⟨trivial, h4.2.2⟩)
theorem r_lneg {x : Int64} (C : Cx p R s m args meth c D cy MC MS DP cc nL own) (d : decode cc pc = .ok (.lneg, 1))  (k : WP p l e R s m args below meth c D cy base ρ0 h0 cs ss nL Q (pc + 1) ls (.long (-x) :: st) h) : WP p l e R s m args below meth c D cy base ρ0 h0 cs ss nL Q pc ls (.long x :: st) h := fun ρ H locs cells slots la h1 h2 h3 h4 => lv_lneg C.1.1 C.1.2.1 d (k ρ H locs cells slots la h1 h2 h3 ⟨trivial, h4.2⟩)
theorem r_lushr {x : Int64} {y : Int32} (C : Cx p R s m args meth c D cy MC MS DP cc nL own) (d : decode cc pc = .ok (.lushr, 1))  (k : WP p l e R s m args below meth c D cy base ρ0 h0 cs ss nL Q (pc + 1) ls (.long ((x.toUInt64 >>> (y.toInt64.toUInt64 &&& Int64.toUInt64 63)).toInt64) :: st) h) : WP p l e R s m args below meth c D cy base ρ0 h0 cs ss nL Q pc ls (.int y :: .long x :: st) h := fun ρ H locs cells slots la h1 h2 h3 h4 => lv_lushr C.1.1 C.1.2.1 d rfl (k ρ H locs cells slots la h1 h2 h3 ⟨trivial, h4.2.2⟩)
theorem r_lshl {x : Int64} {y : Int32} (C : Cx p R s m args meth c D cy MC MS DP cc nL own) (d : decode cc pc = .ok (.lshl, 1))  (k : WP p l e R s m args below meth c D cy base ρ0 h0 cs ss nL Q (pc + 1) ls (.long (x <<< (y.toInt64 &&& 63)) :: st) h) : WP p l e R s m args below meth c D cy base ρ0 h0 cs ss nL Q pc ls (.int y :: .long x :: st) h := fun ρ H locs cells slots la h1 h2 h3 h4 => lv_lshl C.1.1 C.1.2.1 d rfl (k ρ H locs cells slots la h1 h2 h3 ⟨trivial, h4.2.2⟩)
theorem r_lshr {x : Int64} {y : Int32} (C : Cx p R s m args meth c D cy MC MS DP cc nL own) (d : decode cc pc = .ok (.lshr, 1))  (k : WP p l e R s m args below meth c D cy base ρ0 h0 cs ss nL Q (pc + 1) ls (.long (x >>> (y.toInt64 &&& 63)) :: st) h) : WP p l e R s m args below meth c D cy base ρ0 h0 cs ss nL Q pc ls (.int y :: .long x :: st) h := fun ρ H locs cells slots la h1 h2 h3 h4 => lv_lshr C.1.1 C.1.2.1 d rfl (k ρ H locs cells slots la h1 h2 h3 ⟨trivial, h4.2.2⟩)
theorem r_i2l {x : Int32} (C : Cx p R s m args meth c D cy MC MS DP cc nL own) (d : decode cc pc = .ok (.i2l, 1))  (k : WP p l e R s m args below meth c D cy base ρ0 h0 cs ss nL Q (pc + 1) ls (.long x.toInt64 :: st) h) : WP p l e R s m args below meth c D cy base ρ0 h0 cs ss nL Q pc ls (.int x :: st) h := fun ρ H locs cells slots la h1 h2 h3 h4 => lv_i2l C.1.1 C.1.2.1 d rfl (k ρ H locs cells slots la h1 h2 h3 ⟨trivial, h4.2⟩)
theorem r_l2i {x : Int64} (C : Cx p R s m args meth c D cy MC MS DP cc nL own) (d : decode cc pc = .ok (.l2i, 1))  (k : WP p l e R s m args below meth c D cy base ρ0 h0 cs ss nL Q (pc + 1) ls (.int x.toInt32 :: st) h) : WP p l e R s m args below meth c D cy base ρ0 h0 cs ss nL Q pc ls (.long x :: st) h := fun ρ H locs cells slots la h1 h2 h3 h4 => lv_l2i C.1.1 C.1.2.1 d rfl (k ρ H locs cells slots la h1 h2 h3 ⟨trivial, h4.2⟩)
theorem r_dup {v : Value} (C : Cx p R s m args meth c D cy MC MS DP cc nL own) (d : decode cc pc = .ok (.dup, 1)) (hc : v.category = 1) (k : WP p l e R s m args below meth c D cy base ρ0 h0 cs ss nL Q (pc + 1) ls (v :: v :: st) h) : WP p l e R s m args below meth c D cy base ρ0 h0 cs ss nL Q pc ls (v :: st) h := fun ρ H locs cells slots la h1 h2 h3 h4 => lv_dup C.1.1 C.1.2.1 d (by rw [rv_cat]; exact hc) (k ρ H locs cells slots la h1 h2 h3 ⟨h4.1, h4⟩)
theorem r_dup_x1 {v w : Value} (C : Cx p R s m args meth c D cy MC MS DP cc nL own) (d : decode cc pc = .ok (.dup_x1, 1)) (hc : v.category = 1) (hc2 : w.category = 1) (k : WP p l e R s m args below meth c D cy base ρ0 h0 cs ss nL Q (pc + 1) ls (v :: w :: v :: st) h) : WP p l e R s m args below meth c D cy base ρ0 h0 cs ss nL Q pc ls (v :: w :: st) h := fun ρ H locs cells slots la h1 h2 h3 h4 => lv_dup_x1 C.1.1 C.1.2.1 d (by rw [rv_cat]; exact hc) (by rw [rv_cat]; exact hc2) (k ρ H locs cells slots la h1 h2 h3 ⟨h4.1, h4.2.1, h4.1, h4.2.2⟩)
theorem r_dup2 {v w : Value} (C : Cx p R s m args meth c D cy MC MS DP cc nL own) (d : decode cc pc = .ok (.dup2, 1)) (hc : v.category = 1) (hc2 : w.category = 1) (k : WP p l e R s m args below meth c D cy base ρ0 h0 cs ss nL Q (pc + 1) ls (v :: w :: v :: w :: st) h) : WP p l e R s m args below meth c D cy base ρ0 h0 cs ss nL Q pc ls (v :: w :: st) h := fun ρ H locs cells slots la h1 h2 h3 h4 => lv_dup2_11 C.1.1 C.1.2.1 d (by rw [rv_cat]; exact hc) (by rw [rv_cat]; exact hc2) (k ρ H locs cells slots la h1 h2 h3 ⟨h4.1, h4.2.1, h4⟩)
theorem r_pop {v : Value} (C : Cx p R s m args meth c D cy MC MS DP cc nL own) (d : decode cc pc = .ok (.pop, 1)) (hc : v.category = 1) (k : WP p l e R s m args below meth c D cy base ρ0 h0 cs ss nL Q (pc + 1) ls st h) : WP p l e R s m args below meth c D cy base ρ0 h0 cs ss nL Q pc ls (v :: st) h := fun ρ H locs cells slots la h1 h2 h3 h4 => lv_pop C.1.1 C.1.2.1 d (by rw [rv_cat]; exact hc) (k ρ H locs cells slots la h1 h2 h3 h4.2)
theorem r_iload {i : Nat} {x : Int32} (C : Cx p R s m args meth c D cy MC MS DP cc nL own) (d : decode cc pc = .ok (.iload i, 2)) (q : Nat) (hq : ls[q]? = some (i, .int x)) (k : WP p l e R s m args below meth c D cy base ρ0 h0 cs ss nL Q (pc + 2) ls (.int x :: st) h) : WP p l e R s m args below meth c D cy base ρ0 h0 cs ss nL Q pc ls st h := fun ρ H locs cells slots la h1 h2 h3 h4 => lv_iload C.1.1 C.1.2.1 d (r_at h2 q hq) (k ρ H locs cells slots la h1 h2 h3 ⟨okL_at h3 hq, h4⟩)
theorem r_iload_n {kk : Fin 4} {i : Nat} {x : Int32} (C : Cx p R s m args meth c D cy MC MS DP cc nL own) (d : decode cc pc = .ok (.iload_n kk, 1)) (hi : (kk : Nat) = i) (q : Nat) (hq : ls[q]? = some (i, .int x)) (k : WP p l e R s m args below meth c D cy base ρ0 h0 cs ss nL Q (pc + 1) ls (.int x :: st) h) : WP p l e R s m args below meth c D cy base ρ0 h0 cs ss nL Q pc ls st h := fun ρ H locs cells slots la h1 h2 h3 h4 => lv_iload_n C.1.1 C.1.2.1 d hi (r_at h2 q hq) (k ρ H locs cells slots la h1 h2 h3 ⟨okL_at h3 hq, h4⟩)
theorem r_lload {i : Nat} {x : Int64} (C : Cx p R s m args meth c D cy MC MS DP cc nL own) (d : decode cc pc = .ok (.lload i, 2)) (q : Nat) (hq : ls[q]? = some (i, .long x)) (k : WP p l e R s m args below meth c D cy base ρ0 h0 cs ss nL Q (pc + 2) ls (.long x :: st) h) : WP p l e R s m args below meth c D cy base ρ0 h0 cs ss nL Q pc ls st h := fun ρ H locs cells slots la h1 h2 h3 h4 => lv_lload C.1.1 C.1.2.1 d (r_at h2 q hq) (k ρ H locs cells slots la h1 h2 h3 ⟨okL_at h3 hq, h4⟩)
theorem r_lload_n {kk : Fin 4} {i : Nat} {x : Int64} (C : Cx p R s m args meth c D cy MC MS DP cc nL own) (d : decode cc pc = .ok (.lload_n kk, 1)) (hi : (kk : Nat) = i) (q : Nat) (hq : ls[q]? = some (i, .long x)) (k : WP p l e R s m args below meth c D cy base ρ0 h0 cs ss nL Q (pc + 1) ls (.long x :: st) h) : WP p l e R s m args below meth c D cy base ρ0 h0 cs ss nL Q pc ls st h := fun ρ H locs cells slots la h1 h2 h3 h4 => lv_lload_n C.1.1 C.1.2.1 d hi (r_at h2 q hq) (k ρ H locs cells slots la h1 h2 h3 ⟨okL_at h3 hq, h4⟩)
theorem r_aload {i : Nat} {x : Nat} (C : Cx p R s m args meth c D cy MC MS DP cc nL own) (d : decode cc pc = .ok (.aload i, 2)) (q : Nat) (hq : ls[q]? = some (i, .ref x)) (k : WP p l e R s m args below meth c D cy base ρ0 h0 cs ss nL Q (pc + 2) ls (.ref x :: st) h) : WP p l e R s m args below meth c D cy base ρ0 h0 cs ss nL Q pc ls st h := fun ρ H locs cells slots la h1 h2 h3 h4 => lv_aload C.1.1 C.1.2.1 d (r_at h2 q hq) (k ρ H locs cells slots la h1 h2 h3 ⟨okL_at h3 hq, h4⟩)
theorem r_aload_n {kk : Fin 4} {i : Nat} {x : Nat} (C : Cx p R s m args meth c D cy MC MS DP cc nL own) (d : decode cc pc = .ok (.aload_n kk, 1)) (hi : (kk : Nat) = i) (q : Nat) (hq : ls[q]? = some (i, .ref x)) (k : WP p l e R s m args below meth c D cy base ρ0 h0 cs ss nL Q (pc + 1) ls (.ref x :: st) h) : WP p l e R s m args below meth c D cy base ρ0 h0 cs ss nL Q pc ls st h := fun ρ H locs cells slots la h1 h2 h3 h4 => lv_aload_n C.1.1 C.1.2.1 d hi (r_at h2 q hq) (k ρ H locs cells slots la h1 h2 h3 ⟨okL_at h3 hq, h4⟩)
end PR
