/-! ===== the law's start: the class's constructor ===== -/
section FLAT
variable {α β : Type} {h : PM} {a t c k r : Nat} {n v i : Int32} {g : α → PM → Option β}
theorem cl_nA {f : PM → Option (α × PM)} : cl (nA h a t n f) g = nA h a t n (fun h => cl (f h) g) := by unfold nA; split <;> rfl
theorem cl_nO {f : PM → Option (α × PM)} : cl (nO h a c f) g = nO h a c (fun h => cl (f h) g) := by unfold nO; split <;> rfl
theorem cl_pR {f : PM → Option (α × PM)} : cl (pR h a c k r f) g = pR h a c k r (fun h => cl (f h) g) := by unfold pR; split <;> rfl
theorem cl_pI {f : PM → Option (α × PM)} : cl (pI h a c k v f) g = pI h a c k v (fun h => cl (f h) g) := by unfold pI; split <;> rfl
theorem cl_sI {f : PM → Option (α × PM)} : cl (sI h a i v f) g = sI h a i v (fun h => cl (f h) g) := by unfold sI; split <;> rfl
end FLAT
set_option maxRecDepth 100000 in
set_option maxHeartbeats 4000000 in
theorem X11_flat (h : PM) : F_X11_init 10 h = irs S1 (fun h26 => cl (F_X7_init 70 h26) fun _ h28 => irs S3 (fun h46 => some ((), h46)) h28) h := by
  unfold F_X11_init F_Jx4a65c_init_da8c8 F_Jxc12de_init_da8c8 F_Jxa1e45_init_da8c8 F_X9_init F_X5_init F_X10_init F_X2_init F_X0_init
  simp only [cl_nA, cl_nO, cl_pR, cl_pI, cl_sI, e_cl]
  rfl
set_option maxRecDepth 100000 in
set_option maxHeartbeats 4000000 in
theorem X7_flat (h : PM) : F_X7_init 70 h = irs S2 (fun h11 => gR h11 70 8 0 fun x12 => nO h11 (70 + 1000) 5 fun h13 => cl (F_X4_init (70 + 1000) 2 0 6 h13) fun _ h15 => sR h15 x12 0 (70 + 1000) fun h17 => jn (fun (h18 : PM) => some ((), h18)) fun k123 => F_X7_init_L58 70 k123 13 0 h17) h := by
  unfold F_X7_init F_X1_init
  simp only [cl_nA, cl_nO, cl_pR, cl_pI, cl_sI, e_cl]
  rfl
theorem sg_eq {β : Type} {h : PM} {a k : Nat} {x l hv i : Int32} {K : PM → Option β} (ha : a = 1070 + 2 * k) (hx : x = nI (ptA k)) (hl : l = nI (ptL k)) (hh : hv = nI (ptH k)) (hi : i = nI k) : (nO h a 5 fun h13 => cl (F_X4_init a x l hv h13) fun _ h15 => sR h15 71 i a K) = irs (sg k) K h := by
  subst ha hx hl hh hi
  unfold F_X4_init F_X1_init
  simp only [cl_nA, cl_nO, cl_pR, cl_pI, cl_sI, e_cl]
  rfl
def mh (xs : Nat → Int32) : IM := fun a k => if a = 1 then tuV k else if a = 4 then xs k else 0
def uh (L : Nat) : SU := (fun _ _ => 0, fun a => if a = 1 then 23 else if a = 2 then 27 else if a = 3 then 27 else if a = 4 then 23 else 0, fun a => if a = 1 then 18 else if a = 3 then 77 else if a = 4 then L else 0)
theorem hinit_eq (L : Nat) (xs : Nat → Int32) : hinit L xs = pm (mh xs) (fun _ _ => 0) (uh L) := rfl
theorem AG_uh (L : Nat) : AG (uh L) (uh 0) := ⟨rfl, rfl, fun a ha => by unfold uh; dsimp only; rw [if_neg ha, if_neg ha]⟩
theorem AM_mh (xs : Nat → Int32) : AM (mh xs) (mh fun _ => 0) := fun a ha => by funext k; unfold mh; rw [if_neg ha, if_neg ha]
theorem ok_S0 : okZ S0 (uh 0) = true := by decide +kernel
theorem ok_S1 : okZ S1 (pxus S0 (uh 0)) = true := by decide +kernel
theorem ok_S2 : okZ S2 (pxus S1 (pxus S0 (uh 0))) = true := by decide +kernel
theorem ok_sg : ∀ k, k < 25 → okZ (sg k) (pxus (pre k) (uh 0)) = true := by decide +kernel
theorem ok_70 : ∀ k, k < 25 → (pxus (pre k) (uh 0)).2.1 70 = 9 ∧ (pxus (pre k) (uh 0)).1 70 0 = 71 := by decide +kernel
section XC
variable {L : Nat} {xs : Nat → Int32}
def Sk (L : Nat) (xs : Nat → Int32) (l : List II) : PM := pm (pxms l (mh xs)) (pxjs l (fun _ _ => 0)) (pxus l (uh L))
theorem Sk_run {β : Type} {K : PM → Option β} (l s : List II) (ok : okZ s (pxus l (uh 0)) = true) : irs s K (Sk L xs l) = K (Sk L xs (l ++ s)) := by
  unfold Sk
  rw [irs_run s _ _ _ (okZ_ag s (AG_pxs l (AG_uh L)) ok), pxms_app, pxjs_app, pxus_app]
theorem gr_run {β : Type} {f : Nat → Option β} {k : Nat} (hk : k < 25) : gR (Sk L xs (pre k)) 70 8 0 f = f 71 := by
  have g := AG_pxs (pre k) (AG_uh L)
  have h := ok_70 k hk
  unfold Sk
  exact e_gR (b := 71) (by rw [g.2.1]; exact h.1) (by rw [g.1]; exact h.2) (by decide)
theorem sg_run {β : Type} {K : PM → Option β} {k : Nat} (hk : k < 25) : irs (sg k) K (Sk L xs (pre k)) = K (Sk L xs (pre (k + 1))) := Sk_run (pre k) (sg k) (ok_sg k hk)
theorem it_n : ∀ v, v < 12 → ¬ 12 ≤ nI v ∧ nI v / 4 = nI (ptA (2 * v + 1)) ∧ (0 : Int32) = nI (ptL (2 * v + 1)) ∧ nI v - nI v / 4 * 4 + 1 = nI (ptH (2 * v + 1)) ∧ 2 * nI v + 1 = nI (2 * v + 1) ∧ nI v / 4 = nI (ptA (2 * v + 2)) ∧ nI v - nI v / 4 * 4 + 1 + 1 = nI (ptL (2 * v + 2)) ∧ (6 : Int32) = nI (ptH (2 * v + 2)) ∧ 2 * nI v + 2 = nI (2 * v + 2) ∧ nI v + 1 = nI (v + 1) := by decide +kernel
theorem X7_loop {K : PM → Option (Unit × PM)} : ∀ (d v fu : Nat), v + d = 12 → d < fu → F_X7_init_L58 70 K fu (nI v) (Sk L xs (pre (2 * v + 1))) = K (Sk L xs (pre 25)) := by
  intro d
  induction d with
  | zero =>
    intro v fu hv hf
    obtain ⟨fu, rfl⟩ : ∃ g, fu = g + 1 := ⟨fu - 1, by omega⟩
    obtain rfl : v = 12 := by omega
    rw [F_X7_init_L58, if_pos (show (12 : Int32) ≤ nI 12 by decide)]
  | succ d ih =>
    intro v fu hv hf
    obtain ⟨fu, rfl⟩ : ∃ g, fu = g + 1 := ⟨fu - 1, by omega⟩
    obtain ⟨n1, n2, n3, n4, n5, n6, n7, n8, n9, n10⟩ := it_n v (by omega)
    have nc : (nI v).toNatClampNeg = v := nI_clamp (by omega)
    rw [F_X7_init_L58, if_neg n1, e_dv (by decide), e_lt, e_dv (by decide), e_lt, gr_run (by omega)]
    refine (sg_eq (k := 2 * v + 1) (by rw [nc]) n2 n3 n4 n5).trans ?_
    rw [sg_run (by omega), gr_run (by omega)]
    refine (sg_eq (k := 2 * v + 2) (by rw [nc]) n6 n7 n8 n9).trans ?_
    rw [sg_run (by omega), n10]
    exact ih (v + 1) fu (by omega) (by omega)
theorem X7_run : F_X7_init 70 (Sk L xs (S0 ++ S1)) = some ((), Sk L xs (pre 25)) := by
  rw [X7_flat, Sk_run (S0 ++ S1) S2 (by rw [pxus_app]; exact ok_S2), show S0 ++ S1 ++ S2 = pre 0 from List.append_assoc _ _ _, gr_run (by omega)]
  refine (sg_eq (k := 0) rfl rfl rfl rfl rfl).trans ?_
  rw [sg_run (by omega), e_jn]
  exact X7_loop 12 0 13 (by omega) (by omega)
theorem ok_S3 : okZ S3 (pxus (pre 25) (uh 0)) = true := by decide +kernel
theorem ok_S4 : okZ S4 (pxus (pre 25 ++ S3) (uh 0)) = true := by decide +kernel
theorem X11_run : F_X11_init 10 (Sk L xs S0) = some ((), Sk L xs (pre 25 ++ S3)) := by
  rw [X11_flat, Sk_run S0 S1 ok_S1, X7_run, e_cl, Sk_run (pre 25) S3 ok_S3]
end XC
