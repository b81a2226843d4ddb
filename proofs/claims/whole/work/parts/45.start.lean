/-! ===== the law's start: what the Statement gives, and the memory that stands for it ===== -/
def tuV (j : Nat) : Int32 := ([0, 1, 2, 0, 2, 1, 1, 0, 2, 1, 2, 0, 2, 0, 1, 2, 1, 0] : List Int32).getD j 0
def tuT : Term := .static "RoughStones" "TURNED" "[I"
def dcT : Term := .static "java/util/ArrayList" "DEFAULTCAPACITY_EMPTY_ELEMENTDATA" "[Ljava/lang/Object;"
abbrev giv : Cond := Cond.and given_1 narrow_1
theorem st_tu : ∀ j, j < 18 → Cond.eq (.elem tuT (.int (Int32.ofNat j))) (.int (tuV j)) ∈ flatC giv := by decide +kernel
theorem st_tua : Cond.arrayOf tuT .int ∈ flatC giv := by decide +kernel
theorem st_tul : Cond.eq (.length tuT) (.int 18) ∈ flatC giv := by decide +kernel
theorem st_dca : Cond.arrayOf dcT (.object "java/lang/Object") ∈ flatC giv := by decide +kernel
theorem st_dcl : Cond.eq (.length dcT) (.int 0) ∈ flatC giv := by decide +kernel
theorem st_mi : Cond.isRef (.mirror "[Ljava/lang/Object;") ∈ flatC giv := by decide +kernel
theorem st_us : Cond.isRef (.static Bundle.tN "UNASSIGNED_STACK" Bundle.steD) ∈ flatC giv := by decide +kernel
theorem st_ss : Cond.isRef (.static Bundle.tN "SUPPRESSED_SENTINEL" Bundle.listD) ∈ flatC giv := by decide +kernel
theorem st_nc : ∀ i ∈ [1, 2, 3, 4], ∀ j ∈ [1, 2, 3, 4], i ≠ j → Cond.not (.castable (exN i) (exN j)) ∈ flatC giv := by decide +kernel
theorem st_str : ∀ q ∈ strL, Cond.exactly (.string q.1 q.2.1) "java/lang/String" ∈ flatC giv := by decide +kernel
theorem st_strw : ∀ q ∈ strL, Cond.stringRef q.1 q.2.1 q.2.2 ∈ lw_tbl := by
  intro q hq
  unfold strL at hq
  obtain ⟨w, hw, e⟩ := List.mem_filterMap.mp hq
  cases w <;> first | (cases e; exact hw) | cases e
def stL : List Cond := [.laysStatic "RoughStones" "TURNED" "[I", .initialized "RoughStones", .laysStatic "java/util/ArrayList" "DEFAULTCAPACITY_EMPTY_ELEMENTDATA" "[Ljava/lang/Object;", .initialized "java/util/ArrayList", .laysStatic Bundle.tN "UNASSIGNED_STACK" Bundle.steD, .laysStatic Bundle.tN "SUPPRESSED_SENTINEL" Bundle.listD, .initialized Bundle.tN, .declares ⟨"java/lang/Object", "getClass", "()Ljava/lang/Class;"⟩, .arrayOver (.object "java/lang/Object"), .arrayOver (.object "RoughStones$Part"), .arrayOver (.array .long)]
theorem st_wl : ∀ w ∈ stL, w ∈ lw_tbl := by decide +kernel
theorem nw_tab : ∀ w : Cond, isN w = true → w.onTables = true := by
  intro w hw
  cases w <;> first | rfl | cases hw
def hinit (L : Nat) (xs : Nat → Int32) : PM := (fun a k => if a = 1 then tuV k else if a = 4 then xs k else 0, fun _ _ => 0, fun _ _ => 0, fun a => if a = 1 then 23 else if a = 2 then 27 else if a = 3 then 27 else if a = 4 then 23 else 0, fun a => if a = 1 then 18 else if a = 3 then 77 else if a = 4 then L else 0)
theorem st_arr {s : State} {cA comp : ClassId} {k : Class} {ty : FieldType} (hk : s.vm.classes[cA]? = some k) (hd : k.kind = .array comp ty) : ArrOfT s cA ty := fun n z => ⟨fun q => by simp [arrV], k, hk, comp, hd⟩
theorem st_K {s : State} {args : Array Value} (hts : ∀ w ∈ lw_tbl, w.before args s = true) : ∃ (D : va_G) (cy : Nat → ClassId), va_K D vwCl (tyL cy) s := by
  have hgw : ∀ w ∈ gw, w.before args s = true := fun w hw => hts w (List.mem_filter.mp hw).1
  obtain ⟨c0, i0, k0⟩ := u_known hgw cls_0.2.1 (hgw _ in_Jx4a65c)
  obtain ⟨c1, i1, k1⟩ := u_known hgw cls_1.2.1 (hgw _ in_X0)
  obtain ⟨c2, i2, k2⟩ := u_known hgw cls_2.2.1 (hgw _ in_X1)
  obtain ⟨c3, i3, k3⟩ := u_known hgw cls_3.2.1 (hgw _ in_X2)
  obtain ⟨c4, i4, k4⟩ := u_known hgw cls_4.2.1 (hgw _ in_X3)
  obtain ⟨c5, i5, k5⟩ := u_known hgw cls_5.2.1 (hgw _ in_X4)
  obtain ⟨c6, i6, k6⟩ := u_known hgw cls_6.2.1 (hgw _ in_X5)
  obtain ⟨c7, i7, k7⟩ := u_known hgw cls_7.2.1 (hgw _ in_X6)
  obtain ⟨c8, i8, k8⟩ := u_known hgw cls_8.2.1 (hgw _ in_X7)
  obtain ⟨c9, i9, k9⟩ := u_known hgw cls_9.2.1 (hgw _ in_X8)
  obtain ⟨c10, i10, k10⟩ := u_known hgw cls_10.2.1 (hgw _ in_X9)
  obtain ⟨c11, i11, k11⟩ := u_known hgw cls_11.2.1 (hgw _ in_X10)
  obtain ⟨c12, i12, k12⟩ := u_known hgw cls_12.2.1 (hgw _ in_X11)
  obtain ⟨c13, i13, k13⟩ := u_known hgw cls_13.2.1 (hgw _ in_X12)
  refine ⟨(fun k => if k = 0 then c0 else if k = 1 then c1 else if k = 2 then c2 else if k = 3 then c3 else if k = 4 then c4 else if k = 5 then c5 else if k = 6 then c6 else if k = 7 then c7 else if k = 8 then c8 else if k = 9 then c9 else if k = 10 then c10 else if k = 11 then c11 else if k = 12 then c12 else c13, fun k => if k = 0 then i0 else if k = 1 then i1 else if k = 2 then i2 else if k = 3 then i3 else if k = 4 then i4 else if k = 5 then i5 else if k = 6 then i6 else if k = 7 then i7 else if k = 8 then i8 else if k = 9 then i9 else if k = 10 then i10 else if k = 11 then i11 else if k = 12 then i12 else i13), ?_⟩
  obtain ⟨a20, q20, y20, f20, g20, h20⟩ := Cond.arrayClass_spec (hgw _ ac_int)
  obtain ⟨a21, q21, y21, f21, g21, h21⟩ := Cond.arrayClass_spec (hgw _ ac_long)
  obtain ⟨a22, q22, y22, f22, g22, h22⟩ := Cond.arrayClass_spec (hgw _ ac_boolean)
  obtain ⟨p24, a24, q24, f24, -, g24, h24, e24⟩ := Cond.arrayOver_spec (hts (.arrayOver (.object "RoughStones$Part")) (st_wl _ (by decide +kernel)))
  obtain ⟨p25, a25, q25, f25, -, g25, h25, e25⟩ := Cond.arrayOver_spec (hts (.arrayOver (.object "java/lang/Object")) (st_wl _ (by decide +kernel)))
  obtain ⟨p26, a26, q26, f26, -, g26, h26, e26⟩ := aoa_spec (ty := .long) (s := s) (hts (.arrayOver (.array .long)) (st_wl _ (by decide +kernel)))
  refine ⟨fun t => if t = 20 then a20 else if t = 21 then a21 else if t = 22 then a22 else if t = 24 then a24 else if t = 25 then a25 else a26, ?_, ?_⟩
  · intro c q hq
    match c, hq with
    | 0, hq => cases hq; exact k0
    | 1, hq => cases hq; exact k1
    | 2, hq => cases hq; exact k2
    | 3, hq => cases hq; exact k3
    | 4, hq => cases hq; exact k4
    | 5, hq => cases hq; exact k5
    | 6, hq => cases hq; exact k6
    | 7, hq => cases hq; exact k7
    | 8, hq => cases hq; exact k8
    | 9, hq => cases hq; exact k9
    | 10, hq => cases hq; exact k10
    | 11, hq => cases hq; exact k11
    | 12, hq => cases hq; exact k12
    | 13, hq => cases hq; exact k13
    | c + 14, hq => simp [vwCl] at hq
  · intro k q hq
    match k, hq with
    | 0, hq => cases hq; exact ⟨st_arr g20 h20, f20⟩
    | 1, hq => cases hq; exact ⟨st_arr g21 h21, f21⟩
    | 2, hq => cases hq; exact ⟨st_arr g22 h22, f22⟩
    | 3, hq => cases hq; exact ⟨st_arr g24 h24, q24, p24, g24, h24, f24, e24⟩
    | 4, hq => cases hq; exact ⟨st_arr g25 h25, q25, p25, g25, h25, f25, e25⟩
    | 5, hq => cases hq; exact ⟨st_arr g26 h26, e26⟩
    | k + 6, hq => simp [tyL] at hq
set_option maxHeartbeats 4000000 in
theorem whole_from {p : Program} {e : Env} {s : State} {m : MethodId} {below : List Frame} {meth : Method} {c : Code} (l : Launch) (hT : l.stackTraces = false) {b L : Nat} {xs : Nat → Int32} (C0 : lw_At p s m meth c b L xs) (X : Int32 × PM) (hX : X.1 = 1) (hF : F_L_law 4 (hinit L xs) = some X) :
    W p l e room_1 s m #[Value.ref b] below meth c s.heap [] 0 0 (lw_Z below #[Value.ref b] s) (entryFrame m ([Value.ref b] : List Value).toArray 7) := by
  obtain ⟨hx, hb, hr, hml, hown, hts, hXs, hbl, hlocks, hgv⟩ := C0
  have hs := flat_of_before _ hgv
  have hA : ∀ a : Nat, a < s.heap.size → ¬ (fun q : Nat => s.heap.size ≤ q) a := fun a ha => Nat.not_le.mpr ha
  obtain ⟨tT, eT, cT, t1, t2, t3, t4, t5, t6, t7⟩ := va_Tof (tm := tuT) (ty := .int) (N := 18) (f := fun j => .int (tuV j)) (A := fun q : Nat => s.heap.size ≤ q) (by decide) (hs _ st_tua) (va_eqt (hs _ st_tul)) (fun j hj => va_eqt (hs _ (st_tu j hj))) hA
  obtain ⟨tD, eD, cD, d1, d2, d3, d4, d5, d6, d7⟩ := va_Tof (tm := dcT) (ty := .object "java/lang/Object") (N := 0) (f := fun _ => .null) (A := fun q : Nat => s.heap.size ≤ q) (by decide) (hs _ st_dca) (va_eqt (hs _ st_dcl)) (fun j hj => by omega) hA
  obtain ⟨mi, hMi⟩ := va_Mi.of (hs _ st_mi)
  have lw : ∀ w ∈ stL, w.before #[Value.ref b] s = true := fun w hw => hts w (st_wl w hw)
  obtain ⟨D, cy, hK⟩ := st_K hts
  have hgw : ∀ w ∈ gw, w.before #[Value.ref b] s = true := fun w hw => hts w (List.mem_filter.mp hw).1
  obtain ⟨ρ, eρ⟩ : ∃ ρ : Nat → Nat, ρ = fun a => if a = 1 then tT else if a = 2 then tD else if a = 3 then mi else b := ⟨_, rfl⟩
  have r1 : ρ 1 = tT := by rw [eρ]; rfl
  have r2 : ρ 2 = tD := by rw [eρ]; rfl
  have r3 : ρ 3 = mi := by rw [eρ]; rfl
  have r4 : ρ 4 = b := by rw [eρ]; rfl
  have kn : ∀ a, mT (hinit L xs) a ≠ 0 → a = 1 ∨ a = 2 ∨ a = 3 ∨ a = 4 := fun a ha => by
    refine Classical.byContradiction fun z => ha ?_
    show (if a = 1 then 23 else if a = 2 then 27 else if a = 3 then 27 else if a = 4 then 23 else 0) = 0
    rw [if_neg (fun y => z (Or.inl y)), if_neg (fun y => z (Or.inr (Or.inl y))), if_neg (fun y => z (Or.inr (Or.inr (Or.inl y)))), if_neg (fun y => z (Or.inr (Or.inr (Or.inr y))))]
  have k1 : mT (hinit L xs) 1 = 23 := rfl
  have k2 : mT (hinit L xs) 2 = 27 := rfl
  have k3 : mT (hinit L xs) 3 = 27 := rfl
  have k4 : mT (hinit L xs) 4 = 23 := rfl
  have hnone : ∀ a, ¬ own1 (mT (hinit L xs) a) := fun a ha => by
    rcases kn a ha.1 with rfl | rfl | rfl | rfl
    · exact ha.2.1 k1
    · exact ha.2.2 k2
    · exact ha.2.2 k3
    · exact ha.2.1 k4
  have hRep : Rep D cy s.heap.size ρ (hinit L xs) s s.heap := by
    refine ⟨fun a ha => (hnone a ha).elim, fun a ha => ?_, fun a ha => ?_, fun a b ha => (hnone a ha).elim, fun a k ha => Or.inl rfl⟩
    · rcases kn a (by omega) with rfl | rfl | rfl | rfl
      · rw [r1]; exact ⟨(Array.getElem?_eq_some_iff.mp t1).1, cT, t1, t2, t3, ⟨t4, t5⟩, t6⟩
      · rw [k2] at ha; omega
      · rw [k3] at ha; omega
      · rw [r4]
        obtain ⟨scr, q1, q2, q3, q4, q5⟩ := hXs
        exact ⟨hbl, scr, q1, q2, q3, ⟨by rw [q4]; exact Nat.le_refl _, by rw [q4]; rfl⟩, q5⟩
    · rcases kn a (by omega) with rfl | rfl | rfl | rfl
      · rw [k1] at ha; omega
      · rw [r2]; exact Or.inr ⟨(Array.getElem?_eq_some_iff.mp d1).1, cD, d1, d2, d3, d5⟩
      · exact Or.inl rfl
      · rw [k4] at ha; omega
  have hEV : EV s.heap.size ρ (hinit L xs) s s.heap := by
    refine ⟨fun w hw => ?_, ⟨lw (.arrayOver (.object "java/lang/Object")) (by decide +kernel), lw (.arrayOver (.object "RoughStones$Part")) (by decide +kernel), lw (.arrayOver (.array .long)) (by decide +kernel)⟩, fun q hq => ?_, ⟨?_, ?_⟩, ⟨by rw [k1]; decide, ?_⟩, ⟨by rw [k2]; decide, ?_⟩, ⟨by rw [k3]; decide, by rw [r3]; exact hMi⟩, va_Dc.of (lw (.declares ⟨"java/lang/Object", "getClass", "()Ljava/lang/Class;"⟩) (by decide +kernel))⟩
    · have hw2 := List.mem_filter.mp hw
      exact va_tabs (nw_tab w hw2.2) rfl (hts w hw2.1)
    · obtain ⟨sa, cs, cell, ks, q1, -⟩ := Cond.exactly_spec (hs _ (st_str q hq))
      exact ⟨sa, vk_R.of (hts _ (st_strw q hq)) q1⟩
    · exact vx_Zqof (lw (.laysStatic Bundle.tN "UNASSIGNED_STACK" Bundle.steD) (by decide +kernel)) (lw (.initialized Bundle.tN) (by decide +kernel)) (hs _ st_us) hA
    · exact vx_Zqof (lw (.laysStatic Bundle.tN "SUPPRESSED_SENTINEL" Bundle.listD) (by decide +kernel)) (lw (.initialized Bundle.tN) (by decide +kernel)) (hs _ st_ss) hA
    · rw [r1]; exact va_Zref (lw (.laysStatic "RoughStones" "TURNED" "[I") (by decide +kernel)) (lw (.initialized "RoughStones") (by decide +kernel)) eT hA
    · rw [r2]; exact va_Zref (lw (.laysStatic "java/util/ArrayList" "DEFAULTCAPACITY_EMPTY_ELEMENTDATA" "[Ljava/lang/Object;") (by decide +kernel)) (lw (.initialized "java/util/ArrayList") (by decide +kernel)) eD hA
  have hNC : NC4 s := fun i j hi hj hn => va_Nc.of (hs _ (st_nc i (by simp; omega) j (by simp; omega) hn))
  have hl := lv_entry ([.ref b]) (n := 7) (Nat.le_of_ble_eq_true rfl)
  rw [lg_entry_eq]
  generalize (lg_sl ([.ref b]) ++ List.replicate (7 - (lg_sl ([.ref b])).length) Slot.unset).toArray = ls at hl ⊢
  exact S_L_law (p := p) (l := l) (e := e) (s := s) (m := m) (args := #[Value.ref b]) (below := below) (meth := meth) (c := c) (D := D) (cy := cy) (base := s.heap.size) (b := b) (ρ := ρ) (a0 := 4) hT
    ⟨⟨hx, hb, hml, hown, hgw⟩, hK, hlocks, ⟨Nat.le_refl _, Nat.le_refl _, by decide, by decide⟩⟩ hEV hNC hr rfl rfl X hX hF ρ s.heap [] 0 0 ls ⟨hRep, va_S.rf, ⟨Nat.le_refl _, Nat.le_refl _⟩, fun a z => ⟨z, rfl⟩, Nat.le_refl _⟩ (by rw [← r4] at hl; exact hl) ⟨by show mT (hinit L xs) 4 ≠ 0; rw [k4]; decide, trivial⟩ trivial
