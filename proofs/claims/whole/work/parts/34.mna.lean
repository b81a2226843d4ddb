/-! ===== new long[36][6] ===== -/
def newMM (h : PM) (a n k : Nat) : PM :=
  (fun b => if a ≤ b ∧ b ≤ a + n then (fun _ => 0) else mI h b, fun b => if a ≤ b ∧ b ≤ a + n then (fun _ => 0) else mJ h b,
   fun b => if b = a then (fun i => if i < n then a + 1 + i else 0) else if a < b ∧ b ≤ a + n then (fun _ => 0) else mR h b,
   fun b => if b = a then 26 else if a < b ∧ b ≤ a + n then 21 else mT h b, fun b => if b = a then n else if a < b ∧ b ≤ a + n then k else mN h b)
def nM {β : Type} (h : PM) (a : Nat) (n k : Int32) (f : PM → Option β) : Option β :=
  if (a ≠ 0 ∧ (List.range 37).all (fun i => mT h (a + i) == 0)) ∧ n = 36 ∧ k = 6 then f (newMM h a 36 6) else none
section MNA
variable {p : Program} {l : Launch} {e : Env} {R : Room} {s : State} {m : MethodId} {args : Array Value} {below : List Frame} {meth : Method} {c : Code}
variable {D : va_G} {cy : Nat → ClassId} {base : Nat} {ρ0 : Nat → Nat} {h0 : PM} {cs ss MC MS DP nL : Nat} {Q : State → Prop}
variable {cc : ByteArray} {own : String} {pc : Nat} {ls : List (Nat × Value)} {st : List Value} {h : PM} {β : Type} {X : β} {ix a : Nat}
theorem k_mna {n k : Int32} {f : PM → Option β} (C : Cx p R s m args meth c D cy MC MS DP cc nL own) (V : EV base ρ0 h0 s s.heap) (d : decode cc pc = .ok (.multianewarray ix 2, 4)) (hl : Cond.classLink own ix "[[J" ∈ gw) (hac : Cond.arrayClass .long ∈ gw) (hcs : cs + 37 ≤ MC) (hss : ss + 252 ≤ MS)
    (hF : nM h a n k f = some X) (kk : ∀ h', f h' = some X → WP p l e R s m args below meth c D cy base ρ0 h0 (cs + 37) (ss + 252) nL Q (pc + 4) ls (.ref a :: st) h') : WP p l e R s m args below meth c D cy base ρ0 h0 cs ss nL Q pc ls (.int k :: .int n :: st) h := by
  intro ρ H locs cells slots la h1 h2 h3 h4
  obtain ⟨⟨⟨ha0, hall⟩, en, ek⟩, hF2⟩ := ite_some hF
  subst en
  subst ek
  have hfree : ∀ b, a ≤ b → b ≤ a + 36 → mT h b = 0 := fun b q1 q2 => by
    have := List.all_eq_true.mp hall (b - a) (List.mem_range.mpr (by omega))
    rw [show a + (b - a) = b by omega] at this
    exact beq_iff_eq.mp this
  have hR := C.2.2.2
  have hb := h1.2.2.1
  have hts := C.1.2.2.2.2
  obtain ⟨r1, r2, r3, r4, r5⟩ := h1.1
  intro T hT Xs
  have n36 : (36 : Int32).toNatClampNeg = 36 := by decide
  have n6 : (6 : Int32).toNatClampNeg = 6 := by decide
  obtain ⟨vm₁, cA, comp, -, fA, fC, hO, -, X', step⟩ := Xs.multianewarray2F C.1.1 C.1.2.2.2.1 (index := ix) (ty := .long) (hts _ hl) (va_AOA.use V.2.1.2.2) (hts _ hac) (g := F0 m pc la (.int 6 :: .int 36 :: st.map (rv ρ))) rfl (by rw [C.1.2.1]; exact d) rfl (by decide) (by decide) (by decide) (by decide) (by decide) (by decide) (by decide) (by rw [n36]; omega) (by rw [n36, n6]; omega)
  have ec : comp = cy 21 := by
    have q : s.vm.findClass ("[" ++ FieldType.long.toString) = some (cy 21) := (C.2.1.2 1 _ rfl).2
    exact Option.some.inj (fC.symm.trans q)
  have eA : cA = cy 26 := by
    have q : s.vm.findClass ("[" ++ (FieldType.array .long).toString) = some (cy 26) := (C.2.1.2 5 _ rfl).2
    exact Option.some.inj (fA.symm.trans q)
  subst ec
  subst eA
  rw [n36, n6] at X' step
  generalize hFF : Jvm.Free.Multi.fill (T.setVm vm₁) (cy 26) (cy 21) 36 6 (defaultValue .long) 36 = FF at X' step
  have hTh : (T.setVm vm₁).heap = H := hT
  obtain ⟨f1, f2, -, -⟩ := Jvm.Free.Multi.fill_facts (T.setVm vm₁) (cy 26) (cy 21) 36 6 (defaultValue .long) 36
  rw [hFF, hTh] at f1 f2
  have hold : ∀ x : Nat, x < H.size → FF.heap[x]? = H[x]? := fun x hx => by
    have := Jvm.Free.Multi.fill_old (T.setVm vm₁) (cy 26) (cy 21) 36 6 (defaultValue .long) (a := x) (by rw [hTh]; exact hx) 36
    rw [hFF, hTh] at this
    exact this
  have hrow : ∀ j : Nat, j < 36 → FF.heap[H.size + 1 + j]? = some (vp_cell (cy 21) (6, .inr (.inl (fun _ => 0)))) := fun j hj => by
    have := Jvm.Free.Multi.fill_inner (T.setVm vm₁) (cy 26) (cy 21) 36 6 (defaultValue .long) 36 j hj
    rw [hFF, hTh] at this
    rw [this]
    exact congrArg some (arrV_new (cy 21) 6 (.long 0))
  have hout : Jvm.Free.Multi.outerC (cy 26) 36 H.size 36 = vp_cell (cy 26) (36, .inr (.inr (.inr (.inr (fun i => if i < 36 then some (H.size + 1 + i) else none))))) := by
    rw [vp_cell_q]
    exact vr_outer (cy 26) 36 H.size 36
  rw [hout] at f2
  have lt : ∀ b, own1 (mT h b) → ρ b < H.size := fun b hb => (r1 b hb).2.lt
  have hsz := Nat.le_trans h1.2.2.2.2 h1.2.1.1
  let ρ' : Nat → Nat := fun b => if a ≤ b ∧ b ≤ a + 36 then H.size + (b - a) else ρ b
  have p1 : ∀ b, mT h b ≠ 0 → ρ' b = ρ b := fun b hb => if_neg (fun z => hb (hfree b z.1 z.2))
  have p2 : ∀ b, a ≤ b → b ≤ a + 36 → ρ' b = H.size + (b - a) := fun b q1 q2 => if_pos ⟨q1, q2⟩
  have tO : ∀ b, ¬ (a ≤ b ∧ b ≤ a + 36) → mT (newMM h a 36 6) b = mT h b := fun b z => by
    show (if b = a then 26 else if a < b ∧ b ≤ a + 36 then 21 else mT h b) = _
    rw [if_neg (by omega), if_neg (by omega)]
  have mono : ∀ b, mT h b ≠ 0 → mT (newMM h a 36 6) b ≠ 0 := fun b hb => by
    rw [tO b (fun z => hb (hfree b z.1 z.2))]; exact hb
  have tA : mT (newMM h a 36 6) a = 26 := if_pos rfl
  have tR : ∀ b, a < b → b ≤ a + 36 → mT (newMM h a 36 6) b = 21 := fun b q1 q2 => by
    show (if b = a then 26 else if a < b ∧ b ≤ a + 36 then 21 else mT h b) = _
    rw [if_neg (by omega), if_pos ⟨q1, q2⟩]
  have hrep : Rep D cy base ρ' (newMM h a 36 6) s FF.heap := by
    refine ⟨fun b hb => ?_, fun b hb => ?_, fun b hb => ?_, fun x y hx hy hxy => ?_, fun b j hb => ?_⟩
    · by_cases e0 : b = a
      · subst e0
        rw [p2 b (Nat.le_refl _) (by omega), Nat.sub_self, Nat.add_zero]
        refine ⟨hsz, ?_⟩
        rw [en_arr tA (by decide)]
        show FF.heap[H.size]? = some (vp_cell _ _)
        rw [f2]
        have eN : mN (newMM h b 36 6) b = 36 := if_pos rfl
        have eR : (fun j => rn ρ' (mR (newMM h b 36 6) b j)) = fun i => if i < 36 then some (H.size + 1 + i) else none := by
          funext j
          have e1 : mR (newMM h b 36 6) b j = if j < 36 then b + 1 + j else 0 := by
            show (if b = b then (fun i => if i < 36 then b + 1 + i else 0) else _) j = _
            rw [if_pos rfl]
          rw [e1]
          by_cases hj : j < 36
          · rw [if_pos hj, if_pos hj]
            unfold rn
            rw [if_neg (by omega), p2 (b + 1 + j) (by omega) (by omega)]
            congr 1
            omega
          · rw [if_neg hj, if_neg hj]
            rfl
        rw [eN]
        show _ = some (vp_cell (cy 26) (36, .inr (.inr (.inr (.inr (fun j => rn ρ' (mR (newMM h b 36 6) b j)))))))
        rw [eR]
      · by_cases e1 : a < b ∧ b ≤ a + 36
        · rw [p2 b (by omega) e1.2]
          refine ⟨by omega, ?_⟩
          rw [en_arr (tR b e1.1 e1.2) (by decide)]
          have eN : mN (newMM h a 36 6) b = 6 := by
            show (if b = a then 36 else if a < b ∧ b ≤ a + 36 then 6 else mN h b) = _
            rw [if_neg e0, if_pos e1]
          have eJ : mJ (newMM h a 36 6) b = fun _ => 0 := by
            show (if a ≤ b ∧ b ≤ a + 36 then (fun _ => 0) else mJ h b) = _
            rw [if_pos ⟨by omega, e1.2⟩]
          show FF.heap[H.size + (b - a)]? = some (vp_cell (cy 21) (mN (newMM h a 36 6) b, .inr (.inl (mJ (newMM h a 36 6) b))))
          rw [eN, eJ, show H.size + (b - a) = H.size + 1 + (b - a - 1) by omega]
          exact hrow _ (by omega)
        · have e2 : ¬ (a ≤ b ∧ b ≤ a + 36) := by omega
          rw [tO b e2] at hb
          rw [p1 b hb.1]
          refine ⟨(r1 b hb).1, ?_⟩
          have eI : mI (newMM h a 36 6) b = mI h b := if_neg e2
          have eJ : mJ (newMM h a 36 6) b = mJ h b := if_neg e2
          have eR : mR (newMM h a 36 6) b = mR h b := by
            show (if b = a then _ else if a < b ∧ b ≤ a + 36 then _ else mR h b) = _
            rw [if_neg e0, if_neg e1]
          have eN : mN (newMM h a 36 6) b = mN h b := by
            show (if b = a then _ else if a < b ∧ b ≤ a + 36 then _ else mN h b) = _
            rw [if_neg e0, if_neg e1]
          rw [en_congr (tO b e2) eN eI eJ eR]
          have hrn : ∀ j, rn ρ' (mR h b j) = rn ρ (mR h b j) := fun j => by
            unfold rn
            rcases r5 b j hb.1 with z | z
            · rw [if_pos z, if_pos z]
            · by_cases z0 : mR h b j = 0
              · rw [if_pos z0, if_pos z0]
              · rw [if_neg z0, if_neg z0, p1 _ z]
          have een : en cy ρ' h b = en cy ρ h b := by
            have e3 : (fun j => rn ρ' (mR h b j)) = fun j => rn ρ (mR h b j) := funext hrn
            have e4 : ∀ c, fv ρ' h c b = fv ρ h c b := fun c => funext fun k => by simp only [fv, hrn k]
            simp only [en, co, e3, e4]
          rw [een]
          exact (r1 b hb).2.kept (hold _ (lt b hb))
    · have e2 : ¬ (a ≤ b ∧ b ≤ a + 36) := fun z => by
        rcases Nat.lt_or_ge a b with q | q
        · rw [tR b q z.2] at hb; omega
        · rw [show b = a by omega, tA] at hb; omega
      rw [tO b e2] at hb
      have eN : mN (newMM h a 36 6) b = mN h b := by
        show (if b = a then _ else if a < b ∧ b ≤ a + 36 then _ else mN h b) = _
        rw [if_neg (by omega), if_neg (by omega)]
      rw [p1 b (by omega), eN, show mI (newMM h a 36 6) b = mI h b from if_neg e2]
      exact ⟨(r2 b hb).1, (r2 b hb).2.kept (hold _ (by have := (r2 b hb).1; omega))⟩
    · have e2 : ¬ (a ≤ b ∧ b ≤ a + 36) := fun z => by
        rcases Nat.lt_or_ge a b with q | q
        · rw [tR b q z.2] at hb; omega
        · rw [show b = a by omega, tA] at hb; omega
      rw [tO b e2] at hb
      have eN : mN (newMM h a 36 6) b = mN h b := by
        show (if b = a then _ else if a < b ∧ b ≤ a + 36 then _ else mN h b) = _
        rw [if_neg (by omega), if_neg (by omega)]
      rw [p1 b (by omega), eN]
      refine (r3 b hb).imp id fun hx => ?_
      obtain ⟨hl, scr, q1, q2⟩ := hx
      exact ⟨hl, scr, by rw [hold _ (by omega)]; exact q1, q2⟩
    · by_cases ex : a ≤ x ∧ x ≤ a + 36
      · by_cases ey : a ≤ y ∧ y ≤ a + 36
        · rw [p2 x ex.1 ex.2, p2 y ey.1 ey.2] at hxy; omega
        · rw [tO y ey] at hy
          rw [p2 x ex.1 ex.2, p1 y hy.1] at hxy
          have := lt y hy; omega
      · rw [tO x ex] at hx
        by_cases ey : a ≤ y ∧ y ≤ a + 36
        · rw [p2 y ey.1 ey.2, p1 x hx.1] at hxy
          have := lt x hx; omega
        · rw [tO y ey] at hy
          rw [p1 x hx.1, p1 y hy.1] at hxy
          exact r4 x y hx hy hxy
    · show (if b = a then (fun i => if i < 36 then a + 1 + i else 0) else if a < b ∧ b ≤ a + 36 then (fun _ => 0) else mR h b) j = 0 ∨ mT (newMM h a 36 6) ((if b = a then (fun i => if i < 36 then a + 1 + i else 0) else if a < b ∧ b ≤ a + 36 then (fun _ => 0) else mR h b) j) ≠ 0
      by_cases e0 : b = a
      · rw [if_pos e0]
        by_cases hj : j < 36
        · right
          show mT _ (if j < 36 then a + 1 + j else 0) ≠ 0
          rw [if_pos hj, tR _ (by omega) (by omega)]
          decide
        · left
          show (if j < 36 then a + 1 + j else 0) = 0
          rw [if_neg hj]
      · rw [if_neg e0]
        by_cases e1 : a < b ∧ b ≤ a + 36
        · rw [if_pos e1]; exact Or.inl rfl
        · rw [if_neg e1]
          rw [tO b (by omega)] at hb
          exact (r5 b j hb).imp id (fun z => mono _ z)
  have hS' : va_S (fun q => base ≤ q) s.heap FF.heap locs := ⟨by have := h1.2.1.1; omega, fun q q1 q2 => (hold q (Nat.lt_of_lt_of_le q1 h1.2.1.1)).trans (h1.2.1.2.1 q q1 q2), h1.2.1.2.2⟩
  have hext : ∀ b, mT h b ≠ 0 → mT (newMM h a 36 6) b ≠ 0 ∧ ρ' b = ρ b := fun b hb => ⟨mono b hb, p1 b hb⟩
  have := kk _ hF2 ρ' FF.heap locs (cells + 37) (slots + 252) la ⟨hrep, hS', ⟨by omega, by omega⟩, fun b hb => ⟨mono b (h1.2.2.2.1 b hb).1, (p1 b (h1.2.2.2.1 b hb).1).trans (h1.2.2.2.1 b hb).2⟩, h1.2.2.2.2⟩ (by rw [mp_ext hext h3]; exact h2) (okL_mono mono h3) ⟨by show mT _ a ≠ 0; rw [tA]; decide, okS_mono mono h4.2.2⟩
  rw [List.map_cons, rvS_ext hext h4.2.2] at this
  have e0 : rv ρ' (.ref a) = .ref H.size := by
    show Value.ref (ρ' a) = _
    rw [p2 a (Nat.le_refl _) (by omega), Nat.sub_self, Nat.add_zero]
  rw [e0] at this
  obtain ⟨t, a1, b1⟩ := this FF rfl X'
  refine ⟨t, step t ?_, b1⟩
  have e : T.heap.size = H.size := by rw [hT]
  rw [e]
  exact a1
end MNA
