/-! ===== the law's start: the reference's constructor, and what holds then ===== -/
set_option maxRecDepth 100000 in
set_option maxHeartbeats 4000000 in
theorem X12_flat (h : PM) : F_X12_init 200 h = irs S5 (fun h74 => jn (fun (h75 : PM) => some ((), h75)) fun k323 => F_X12_init_L304 200 k323 LF 0 h74) h := by
  unfold F_X12_init
  rfl
def PRE : List II := (pre 25 ++ S3) ++ S4 ++ S5
def S7 : List II := [(4, 234, 0, 0, 0, 6), (4, 234, 0, 1, 0, 6), (4, 234, 0, 2, 0, 6), (4, 234, 0, 3, 0, 6)]
theorem ok_S5 : okZ S5 (pxus (pre 25 ++ S3 ++ S4) (uh 0)) = true := by decide +kernel
theorem ok_S7 : okZ S7 (pxus PRE (uh 0)) = true := by decide +kernel
theorem ok_S6 : okZ S6 (pxus (PRE ++ S7) (uh 0)) = true := by decide +kernel
def AL : List II := PRE ++ S7 ++ S6
theorem ok_234 : (pxus PRE (uh 0)).2.1 200 = 14 ∧ (pxus PRE (uh 0)).1 200 54 = 234 := by decide +kernel
theorem ok_234b : (pxus PRE (uh 0)).2.1 234 = 20 ∧ (pxus PRE (uh 0)).2.2 234 = 4 := by decide +kernel
section XR
variable {L : Nat} {xs : Nat → Int32}
theorem X12_lp {m : IM} {j : JM} {u : SU} {K : PM → Option (Unit × PM)} (h1 : u.2.1 200 = 14) (h2 : u.1 200 54 = 234) (t1 : u.2.1 234 = 20) (t2 : u.2.2 234 = 4) : F_X12_init_L304 200 K LF 0 (pm m j u) = irs S7 K (pm m j u) := by
  obtain ⟨F, hF⟩ : ∃ F, LF = F + 5 := ⟨19995, rfl⟩
  have g : ∀ (m : IM) (f : Nat → Option (Unit × PM)), gR (pm m j u) 200 13 54 f = f 234 := fun m f => e_gR (b := 234) h1 h2 (by decide)
  have e : irs S7 K (pm m j u) = sI (pm m j u) 234 (nI 0) 6 fun h => sI h 234 (nI 1) 6 fun h => sI h 234 (nI 2) 6 fun h => sI h 234 (nI 3) 6 K := rfl
  rw [e, hF, e_sI t1 t2 (by decide) (by decide), e_sI t1 t2 (by decide) (by decide), e_sI t1 t2 (by decide) (by decide), e_sI t1 t2 (by decide) (by decide)]
  rw [F_X12_init_L304, if_neg (by decide), g, show (0 : Int32) = nI 0 from rfl, e_sI t1 t2 (by decide) (by decide)]
  rw [F_X12_init_L304, if_neg (by decide), g, show nI 0 + 1 = nI 1 from rfl, e_sI t1 t2 (by decide) (by decide)]
  rw [F_X12_init_L304, if_neg (by decide), g, show nI 1 + 1 = nI 2 from rfl, e_sI t1 t2 (by decide) (by decide)]
  rw [F_X12_init_L304, if_neg (by decide), g, show nI 2 + 1 = nI 3 from rfl, e_sI t1 t2 (by decide) (by decide)]
  rw [F_X12_init_L304, if_pos (by decide)]
theorem X12_loop {K : PM → Option (Unit × PM)} : F_X12_init_L304 200 K LF 0 (Sk L xs PRE) = K (Sk L xs (PRE ++ S7)) := by
  rw [← Sk_run (K := K) (L := L) (xs := xs) PRE S7 ok_S7]
  have ag := AG_pxs PRE (AG_uh L)
  have t1 : (pxus PRE (uh L)).2.1 234 = 20 := by rw [ag.2.1]; exact ok_234b.1
  have t2 : (pxus PRE (uh L)).2.2 234 = 4 := by rw [ag.2.2 234 (by decide)]; exact ok_234b.2
  have t3 : (pxus PRE (uh L)).2.1 200 = 14 := by rw [ag.2.1]; exact ok_234.1
  have t4 : (pxus PRE (uh L)).1 200 54 = 234 := by rw [ag.1]; exact ok_234.2
  exact X12_lp t3 t4 t1 t2
theorem X12_run : F_X12_init 200 (Sk L xs (pre 25 ++ S3 ++ S4)) = some ((), Sk L xs (PRE ++ S7)) := by
  rw [X12_flat, Sk_run (pre 25 ++ S3 ++ S4) S5 ok_S5, e_jn]
  exact X12_loop
def ua : SU := pxus AL (uh 0)
def ma : IM := pxms AL (mh fun _ => 0)
theorem f_cf : ∀ q ∈ cfL, ua.1 q.1 q.2.1 = q.2.2 := by decide +kernel
theorem f_ck : ∀ q ∈ ckL, ua.2.1 q.1 = q.2.1 ∧ ua.2.2 q.1 = q.2.2 := by decide +kernel
theorem f_ps : ∀ i, i < 25 → ua.1 71 i = 1070 + 2 * i ∧ ua.2.1 (1070 + 2 * i) = 6 ∧ ua.1 (1070 + 2 * i) 3 = 1071 + 2 * i ∧ ua.2.1 (1071 + 2 * i) = 3 := by decide +kernel
theorem f_n4 : ∀ q ∈ ckL, q.1 ≠ 4 := by decide +kernel
theorem f_rs : ua.2.1 200 = 14 ∧ ∀ q ∈ rfL, ua.1 200 q.1 = q.2.1 ∧ ua.2.1 q.2.1 = q.2.2.1 ∧ ua.2.2 q.2.1 = q.2.2.2 := by decide +kernel
theorem f_li : ∀ L, L = 20 ∨ L = 30 ∨ L = 40 → ua.2.1 L = 1 ∧ ua.1 L 1 = 2 ∧ ∀ a, a < L + 10 → L < a → ua.2.1 a = 0 := by
  rintro L (rfl | rfl | rfl) <;> decide +kernel
theorem f_no4 : AL.all (fun i => decide (i.2.1 ≠ 4)) = true := by decide +kernel
theorem f_hi : AL.all (fun i => decide (i.2.1 < 2000)) = true := by decide +kernel
theorem f_no1 : AL.all (fun i => decide (i.2.1 ≠ 1)) = true := by decide +kernel
theorem f_5 : ua.2.1 5 = 21 ∧ ua.2.2 5 = 1 := by decide +kernel
theorem f_m : ma 20 2 = nI 0 ∧ ma 30 2 = nI 0 ∧ ma 40 2 = nI 0 ∧ ma 50 1 = nI 0 ∧ ma 60 2 = nI 0 ∧ ma 100 6 = nI 0 ∧ ma 10 9 = 0 := by decide +kernel
theorem f_l : ∀ i, i < 24 → ma 101 i = nI 0 := by decide +kernel
theorem f_b : ∀ b, b < 4 → ma 102 b = nI 6 ∧ ma 103 b = nI 0 ∧ ma 234 b = nI 6 := by decide +kernel
theorem f_r : ma 200 1 = nI 0 ∧ ma 200 3 = nI 0 ∧ ma 200 7 = nI 0 ∧ ma 200 14 = nI 0 ∧ ma 200 32 = nI 0 ∧ ma 200 51 = nI 0 ∧ ma 200 52 = 0 := by decide +kernel
theorem al_201 : AL = (pre 25 ++ S3 ++ S4) ++ (0, 201, 20, 2160, 0, 0) :: (S5.tail ++ (S7 ++ S6)) := by
  unfold AL PRE
  rw [List.append_assoc, List.append_assoc]
  rfl
theorem f_201 (i : Nat) : ma 201 i = 0 := by
  unfold ma
  rw [al_201, pxms_app, pxms, pxms_no (b := 201) _ (by decide +kernel)]
  exact z1s
theorem f_sw : ∀ k, k < 25 → ma (1070 + 2 * k) 0 = nI (ptA k) ∧ ma (1070 + 2 * k) 1 = nI (ptL k) ∧ ma (1070 + 2 * k) 2 = nI (ptH k) := by decide +kernel
theorem f_tu : ∀ w, w < 6 → ∀ a, a < 3 → tuV (3 * w + a) = nI (tu w a) := by decide +kernel
end XR
