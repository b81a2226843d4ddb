theorem fd_X12_1 : FD RX12 1 13 0 false := ⟨_, _, _, cls_13, by decide, gwm 1172 (by decide +kernel) rfl, rfl, fun _ => by first | rfl | contradiction⟩
theorem fd_X12_126 : FD RX12 126 13 1 false := ⟨_, _, _, cls_13, by decide, gwm 1173 (by decide +kernel) rfl, rfl, fun _ => by first | rfl | contradiction⟩
theorem ml_X12_129 : Cond.methodLink RX12 129 yX12_within ∈ gw := gwm 1360 (by decide +kernel) rfl
theorem cal_X12_within : Cal yX12_within cX12_within 3 (some .boolean) 3 := ⟨gwm 1362 (by decide +kernel) rfl, gwm 76 (by decide +kernel) rfl, ⟨by decide, by decide, by decide +kernel⟩, by decide⟩
theorem sm_X12_within : Cond.static yX12_within ∈ gw := gwm 1361 (by decide +kernel) rfl
theorem ml_X12_133 : Cond.methodLink RX12 133 yX12_may ∈ gw := gwm 1363 (by decide +kernel) rfl
theorem cal_X12_may : Cal yX12_may cX12_may 3 (some .boolean) 2 := ⟨gwm 1366 (by decide +kernel) rfl, gwm 76 (by decide +kernel) rfl, ⟨by decide, by decide, by decide +kernel⟩, by decide⟩
theorem im_X12_may : Cond.instanceMethod yX12_may ∈ gw := gwm 1365 (by decide +kernel) rfl
theorem se_X12_may : Cond.selects RX12 yX12_may yX12_may ∈ gw := gwm 39 (by decide +kernel) rfl
theorem ml_X12_137 : Cond.methodLink RX12 137 yX12_isRough ∈ gw := gwm 1356 (by decide +kernel) rfl
theorem cal_X12_isRough : Cal yX12_isRough cX12_isRough 2 (some .boolean) 1 := ⟨gwm 1359 (by decide +kernel) rfl, gwm 76 (by decide +kernel) rfl, ⟨by decide, by decide, by decide +kernel⟩, by decide⟩
theorem im_X12_isRough : Cond.instanceMethod yX12_isRough ∈ gw := gwm 1358 (by decide +kernel) rfl
theorem se_X12_isRough : Cond.selects RX12 yX12_isRough yX12_isRough ∈ gw := gwm 38 (by decide +kernel) rfl
theorem fd_X12_13 : FD RX12 13 13 2 true := ⟨_, _, _, cls_13, by decide, gwm 1174 (by decide +kernel) rfl, rfl, fun _ => by first | rfl | contradiction⟩
theorem dX12_thrown_0 : decode cX12_thrown 0 = .ok (.aload_n 0, 1) := by decide +kernel
theorem dX12_thrown_1 : decode cX12_thrown 1 = .ok (.getfield 1, 3) := by decide +kernel
theorem dX12_thrown_4 : decode cX12_thrown 4 = .ok (.ireturn, 1) := by decide +kernel
theorem dX12_may_0 : decode cX12_may 0 = .ok (.iload_n 1, 1) := by decide +kernel
theorem dX12_may_1 : decode cX12_may 1 = .ok (.ifCond .ne 15, 3) := by decide +kernel
theorem dX12_may_4 : decode cX12_may 4 = .ok (.aload_n 0, 1) := by decide +kernel
theorem dX12_may_5 : decode cX12_may 5 = .ok (.getfield 1, 3) := by decide +kernel
theorem dX12_may_8 : decode cX12_may 8 = .ok (.ifCond .ne 8, 3) := by decide +kernel
theorem dX12_may_11 : decode cX12_may 11 = .ok (.aload_n 0, 1) := by decide +kernel
theorem dX12_may_12 : decode cX12_may 12 = .ok (.iload_n 2, 1) := by decide +kernel
theorem dX12_may_13 : decode cX12_may 13 = .ok (.putfield 1, 3) := by decide +kernel
theorem dX12_may_16 : decode cX12_may 16 = .ok (.aload_n 0, 1) := by decide +kernel
theorem dX12_may_17 : decode cX12_may 17 = .ok (.getfield 1, 3) := by decide +kernel
theorem dX12_may_20 : decode cX12_may 20 = .ok (.ifCond .ne 7, 3) := by decide +kernel
theorem dX12_may_23 : decode cX12_may 23 = .ok (.iconst 1, 1) := by decide +kernel
theorem dX12_may_24 : decode cX12_may 24 = .ok (.goto 4, 3) := by decide +kernel
theorem dX12_may_27 : decode cX12_may 27 = .ok (.iconst 0, 1) := by decide +kernel
theorem dX12_may_28 : decode cX12_may 28 = .ok (.ireturn, 1) := by decide +kernel
theorem dX12_within_0 : decode cX12_within 0 = .ok (.iload_n 0, 1) := by decide +kernel
theorem dX12_within_1 : decode cX12_within 1 = .ok (.iload_n 1, 1) := by decide +kernel
theorem dX12_within_2 : decode cX12_within 2 = .ok (.if_icmp .lt 12, 3) := by decide +kernel
theorem dX12_within_5 : decode cX12_within 5 = .ok (.iload_n 0, 1) := by decide +kernel
theorem dX12_within_6 : decode cX12_within 6 = .ok (.iload_n 2, 1) := by decide +kernel
theorem dX12_within_7 : decode cX12_within 7 = .ok (.if_icmp .gt 7, 3) := by decide +kernel
theorem dX12_within_10 : decode cX12_within 10 = .ok (.iconst 1, 1) := by decide +kernel
theorem dX12_within_11 : decode cX12_within 11 = .ok (.goto 4, 3) := by decide +kernel
theorem dX12_within_14 : decode cX12_within 14 = .ok (.iconst 0, 1) := by decide +kernel
theorem dX12_within_15 : decode cX12_within 15 = .ok (.ireturn, 1) := by decide +kernel
theorem dX12_rough_0 : decode cX12_rough 0 = .ok (.aload_n 0, 1) := by decide +kernel
theorem dX12_rough_1 : decode cX12_rough 1 = .ok (.iconst 0, 1) := by decide +kernel
theorem dX12_rough_2 : decode cX12_rough 2 = .ok (.putfield 1, 3) := by decide +kernel
theorem dX12_rough_5 : decode cX12_rough 5 = .ok (.aload_n 0, 1) := by decide +kernel
theorem dX12_rough_6 : decode cX12_rough 6 = .ok (.getfield 126, 3) := by decide +kernel
theorem dX12_rough_9 : decode cX12_rough 9 = .ok (.bipush 10, 2) := by decide +kernel
theorem dX12_rough_11 : decode cX12_rough 11 = .ok (.if_icmp .ne 5, 3) := by decide +kernel
theorem dX12_rough_14 : decode cX12_rough 14 = .ok (.iconst (-1), 1) := by decide +kernel
theorem dX12_rough_15 : decode cX12_rough 15 = .ok (.ireturn, 1) := by decide +kernel
theorem dX12_rough_16 : decode cX12_rough 16 = .ok (.aload_n 0, 1) := by decide +kernel
theorem dX12_rough_17 : decode cX12_rough 17 = .ok (.dup, 1) := by decide +kernel
theorem dX12_rough_18 : decode cX12_rough 18 = .ok (.getfield 126, 3) := by decide +kernel
theorem dX12_rough_21 : decode cX12_rough 21 = .ok (.iconst 1, 1) := by decide +kernel
theorem dX12_rough_22 : decode cX12_rough 22 = .ok (.iadd, 1) := by decide +kernel
theorem dX12_rough_23 : decode cX12_rough 23 = .ok (.putfield 126, 3) := by decide +kernel
theorem dX12_rough_26 : decode cX12_rough 26 = .ok (.aload_n 0, 1) := by decide +kernel
theorem dX12_rough_27 : decode cX12_rough 27 = .ok (.getfield 126, 3) := by decide +kernel
theorem dX12_rough_30 : decode cX12_rough 30 = .ok (.iconst 1, 1) := by decide +kernel
theorem dX12_rough_31 : decode cX12_rough 31 = .ok (.isub, 1) := by decide +kernel
theorem dX12_rough_32 : decode cX12_rough 32 = .ok (.ireturn, 1) := by decide +kernel
theorem dX12_isRough_0 : decode cX12_isRough 0 = .ok (.aload_n 0, 1) := by decide +kernel
theorem dX12_isRough_1 : decode cX12_isRough 1 = .ok (.iload_n 1, 1) := by decide +kernel
theorem dX12_isRough_2 : decode cX12_isRough 2 = .ok (.iconst 0, 1) := by decide +kernel
theorem dX12_isRough_3 : decode cX12_isRough 3 = .ok (.aload_n 0, 1) := by decide +kernel
theorem dX12_isRough_4 : decode cX12_isRough 4 = .ok (.getfield 126, 3) := by decide +kernel
theorem dX12_isRough_7 : decode cX12_isRough 7 = .ok (.iconst 1, 1) := by decide +kernel
theorem dX12_isRough_8 : decode cX12_isRough 8 = .ok (.isub, 1) := by decide +kernel
theorem dX12_isRough_9 : decode cX12_isRough 9 = .ok (.invokestatic 129, 3) := by decide +kernel
theorem dX12_isRough_12 : decode cX12_isRough 12 = .ok (.iconst 1, 1) := by decide +kernel
theorem dX12_isRough_13 : decode cX12_isRough 13 = .ok (.invokevirtual 133, 3) := by decide +kernel
theorem dX12_isRough_16 : decode cX12_isRough 16 = .ok (.ireturn, 1) := by decide +kernel
theorem dX12_stuff_0 : decode cX12_stuff 0 = .ok (.aload_n 0, 1) := by decide +kernel
theorem dX12_stuff_1 : decode cX12_stuff 1 = .ok (.iconst 0, 1) := by decide +kernel
theorem dX12_stuff_2 : decode cX12_stuff 2 = .ok (.putfield 1, 3) := by decide +kernel
theorem dX12_stuff_5 : decode cX12_stuff 5 = .ok (.aload_n 0, 1) := by decide +kernel
theorem dX12_stuff_6 : decode cX12_stuff 6 = .ok (.iload_n 1, 1) := by decide +kernel
theorem dX12_stuff_7 : decode cX12_stuff 7 = .ok (.invokevirtual 137, 3) := by decide +kernel
theorem dX12_stuff_10 : decode cX12_stuff 10 = .ok (.ifCond .ne 5, 3) := by decide +kernel
theorem dX12_stuff_13 : decode cX12_stuff 13 = .ok (.iconst 0, 1) := by decide +kernel
theorem dX12_stuff_14 : decode cX12_stuff 14 = .ok (.ireturn, 1) := by decide +kernel
theorem dX12_stuff_15 : decode cX12_stuff 15 = .ok (.iconst 0, 1) := by decide +kernel
theorem dX12_stuff_16 : decode cX12_stuff 16 = .ok (.istore_n 2, 1) := by decide +kernel
theorem dX12_stuff_17 : decode cX12_stuff 17 = .ok (.iconst 0, 1) := by decide +kernel
theorem dX12_stuff_18 : decode cX12_stuff 18 = .ok (.istore_n 3, 1) := by decide +kernel
theorem dX12_stuff_19 : decode cX12_stuff 19 = .ok (.iload_n 3, 1) := by decide +kernel
theorem dX12_stuff_20 : decode cX12_stuff 20 = .ok (.sipush 216, 3) := by decide +kernel
theorem dX12_stuff_23 : decode cX12_stuff 23 = .ok (.if_icmp .ge 24, 3) := by decide +kernel
theorem dX12_stuff_26 : decode cX12_stuff 26 = .ok (.iload_n 2, 1) := by decide +kernel
theorem dX12_stuff_27 : decode cX12_stuff 27 = .ok (.aload_n 0, 1) := by decide +kernel
theorem dX12_stuff_28 : decode cX12_stuff 28 = .ok (.getfield 13, 3) := by decide +kernel
theorem dX12_stuff_31 : decode cX12_stuff 31 = .ok (.sipush 216, 3) := by decide +kernel
theorem dX12_stuff_34 : decode cX12_stuff 34 = .ok (.iload_n 1, 1) := by decide +kernel
theorem dX12_stuff_35 : decode cX12_stuff 35 = .ok (.imul, 1) := by decide +kernel
theorem dX12_stuff_36 : decode cX12_stuff 36 = .ok (.iload_n 3, 1) := by decide +kernel
theorem dX12_stuff_37 : decode cX12_stuff 37 = .ok (.iadd, 1) := by decide +kernel
theorem dX12_stuff_38 : decode cX12_stuff 38 = .ok (.iaload, 1) := by decide +kernel
theorem dX12_stuff_39 : decode cX12_stuff 39 = .ok (.iadd, 1) := by decide +kernel
theorem dX12_stuff_40 : decode cX12_stuff 40 = .ok (.istore_n 2, 1) := by decide +kernel
theorem dX12_stuff_41 : decode cX12_stuff 41 = .ok (.iinc 3 1, 3) := by decide +kernel
theorem dX12_stuff_44 : decode cX12_stuff 44 = .ok (.goto (-25), 3) := by decide +kernel
theorem dX12_stuff_47 : decode cX12_stuff 47 = .ok (.iload_n 2, 1) := by decide +kernel
theorem dX12_stuff_48 : decode cX12_stuff 48 = .ok (.ireturn, 1) := by decide +kernel
def F_X12_thrown (a0 : Nat) (h0 : PM) : Option (Int32 × PM) := gI h0 a0 13 0 fun x1 => some (x1, h0)
set_option maxRecDepth 100000 in
set_option maxHeartbeats 4000000 in
theorem S_X12_thrown {a0 : Nat} {h0 : PM} (r : Int32) (h' : PM) (hF : F_X12_thrown a0 h0 = some (r, h')) : CN yX12_thrown cX12_thrown 1 (some .int) 0 0 0 [.ref a0] h0 (some (.int r)) h' := by
  obtain ⟨X, eX⟩ : ∃ X, X = (r, h') := ⟨_, rfl⟩
  rw [← eX] at hF
  have e1 : r = X.1 := by rw [eX]
  have e2 : h' = X.2 := by rw [eX]
  rw [e1, e2]
  clear eX e1 e2
  unfold F_X12_thrown at hF
  refine CN_of (by decide) (fun ρ => Nat.le_of_ble_eq_true rfl) rfl ?_
  intro p l e s m args below meth c D cy base ρ hT C V hr hnm
  refine r_aload_n C dX12_thrown_0 rfl 0 rfl ?_
  refine k_gI C dX12_thrown_1 fd_X12_1 (by decide) hF (fun x1 hF => ?_)
  exact k_iret C dX12_thrown_4 hr (by decide) (by decide) hF
def F_X12_may (a0 : Nat) (a1 : Int32) (a2 : Int32) (h0 : PM) : Option (Int32 × PM) := jn (fun  (h1 : PM) => gI h1 a0 13 0 fun x2 => jn (fun (s3 : Int32) (h4 : PM) => rz s3 h4) fun k28 => if ¬ x2 = 0 then (k28 0 h1) else (k28 1 h1)) fun k16 => if ¬ a1 = 0 then (k16 h0) else (gI h0 a0 13 0 fun x5 => if ¬ x5 = 0 then (k16 h0) else (pI h0 a0 13 0 a2 fun h6 => k16 h6))
set_option maxRecDepth 100000 in
set_option maxHeartbeats 4000000 in
theorem S_X12_may {a0 : Nat} {a1 : Int32} {a2 : Int32} {h0 : PM} (r : Int32) (h' : PM) (hF : F_X12_may a0 a1 a2 h0 = some (r, h')) : CN yX12_may cX12_may 3 (some .boolean) 0 0 0 [.ref a0, .int a1, .int a2] h0 (some (.int r)) h' := by
  obtain ⟨X, eX⟩ : ∃ X, X = (r, h') := ⟨_, rfl⟩
  rw [← eX] at hF
  have e1 : r = X.1 := by rw [eX]
  have e2 : h' = X.2 := by rw [eX]
  rw [e1, e2]
  clear eX e1 e2
  unfold F_X12_may at hF
  refine CN_of (by decide) (fun ρ => Nat.le_of_ble_eq_true rfl) rfl ?_
  intro p l e s m args below meth c D cy base ρ hT C V hr hnm
  refine r_iload_n C dX12_may_0 rfl 1 rfl ?_
  obtain ⟨k16, ek16, hF⟩ := jn_some hF
  have Jk16 : ∀  (h1 : PM), k16 h1 = some X → WP p l e (rmN 0 0 0) s m args below meth c D cy base ρ h0 0 0 3 (MQ below (QR D cy base ρ h0 (some (.int X.1)) X.2) args s 0 0 (fun q => base ≤ q)) 16 [(0, .ref a0)] [] h1 := by
    intro h1 hF
    rw [ek16] at hF
    refine r_aload_n C dX12_may_16 rfl 0 rfl ?_
    refine k_gI C dX12_may_17 fd_X12_1 (by decide) hF (fun x2 hF => ?_)
    obtain ⟨k28, ek28, hF⟩ := jn_some hF
    have Jk28 : ∀ (s3 : Int32) (h4 : PM), k28 s3 h4 = some X → WP p l e (rmN 0 0 0) s m args below meth c D cy base ρ h0 0 0 3 (MQ below (QR D cy base ρ h0 (some (.int X.1)) X.2) args s 0 0 (fun q => base ≤ q)) 28 [] [.int s3] h4 := by
      intro s3 h4 hF
      rw [ek28] at hF
      exact k_zret C dX12_may_28 hr (by decide) (by decide) hF
    refine r_if_ne (tgt := 27) C dX12_may_20 (by decide) hF (fun hF => ?_) (fun hF => ?_)
    · refine r_iconst (v := 0) C dX12_may_27 (by decide) ?_
      exact r_sub [] rfl (Jk28 _ _ hF)
    · refine r_iconst (v := 1) C dX12_may_23 (by decide) ?_
      refine r_goto (tgt := 28) C dX12_may_24 (by decide) ?_
      exact r_sub [] rfl (Jk28 _ _ hF)
  refine r_if_ne (tgt := 16) C dX12_may_1 (by decide) hF (fun hF => ?_) (fun hF => ?_)
  · exact r_sub [0] rfl (Jk16  _ hF)
  · refine r_aload_n C dX12_may_4 rfl 0 rfl ?_
    refine k_gI C dX12_may_5 fd_X12_1 (by decide) hF (fun x5 hF => ?_)
    refine r_if_ne (tgt := 16) C dX12_may_8 (by decide) hF (fun hF => ?_) (fun hF => ?_)
    · exact r_sub [0] rfl (Jk16  _ hF)
    · refine r_aload_n C dX12_may_11 rfl 0 rfl ?_
      refine r_iload_n C dX12_may_12 rfl 2 rfl ?_
      refine k_pI C dX12_may_13 fd_X12_1 (fun z => by cases z) (by decide) hF (fun h6 hF => ?_)
      exact r_sub [0] rfl (Jk16  _ hF)
def F_X12_within (a0 : Int32) (a1 : Int32) (a2 : Int32) (h0 : PM) : Option (Int32 × PM) := jn (fun (s1 : Int32) (h2 : PM) => rz s1 h2) fun k15 => jn (fun  (h3 : PM) => k15 0 h3) fun k14 => if a0 < a1 then (k14 h0) else (if a2 < a0 then (k14 h0) else (k15 1 h0))
set_option maxRecDepth 100000 in
set_option maxHeartbeats 4000000 in
theorem S_X12_within {a0 : Int32} {a1 : Int32} {a2 : Int32} {h0 : PM} (r : Int32) (h' : PM) (hF : F_X12_within a0 a1 a2 h0 = some (r, h')) : CN yX12_within cX12_within 3 (some .boolean) 0 0 0 [.int a0, .int a1, .int a2] h0 (some (.int r)) h' := by
  obtain ⟨X, eX⟩ : ∃ X, X = (r, h') := ⟨_, rfl⟩
  rw [← eX] at hF
  have e1 : r = X.1 := by rw [eX]
  have e2 : h' = X.2 := by rw [eX]
  rw [e1, e2]
  clear eX e1 e2
  unfold F_X12_within at hF
  refine CN_of (by decide) (fun ρ => Nat.le_of_ble_eq_true rfl) rfl ?_
  intro p l e s m args below meth c D cy base ρ hT C V hr hnm
  refine r_iload_n C dX12_within_0 rfl 0 rfl ?_
  refine r_iload_n C dX12_within_1 rfl 1 rfl ?_
  obtain ⟨k15, ek15, hF⟩ := jn_some hF
  have Jk15 : ∀ (s1 : Int32) (h2 : PM), k15 s1 h2 = some X → WP p l e (rmN 0 0 0) s m args below meth c D cy base ρ h0 0 0 3 (MQ below (QR D cy base ρ h0 (some (.int X.1)) X.2) args s 0 0 (fun q => base ≤ q)) 15 [] [.int s1] h2 := by
    intro s1 h2 hF
    rw [ek15] at hF
    exact k_zret C dX12_within_15 hr (by decide) (by decide) hF
  obtain ⟨k14, ek14, hF⟩ := jn_some hF
  have Jk14 : ∀  (h3 : PM), k14 h3 = some X → WP p l e (rmN 0 0 0) s m args below meth c D cy base ρ h0 0 0 3 (MQ below (QR D cy base ρ h0 (some (.int X.1)) X.2) args s 0 0 (fun q => base ≤ q)) 14 [] [] h3 := by
    intro h3 hF
    rw [ek14] at hF
    refine r_iconst (v := 0) C dX12_within_14 (by decide) ?_
    exact Jk15 _ _ hF
  refine r_icmp_lt (tgt := 14) C dX12_within_2 (by decide) hF (fun hF => ?_) (fun hF => ?_)
  · exact r_sub [] rfl (Jk14  _ hF)
  · refine r_iload_n C dX12_within_5 rfl 0 rfl ?_
    refine r_iload_n C dX12_within_6 rfl 2 rfl ?_
    refine r_icmp_gt (tgt := 14) C dX12_within_7 (by decide) hF (fun hF => ?_) (fun hF => ?_)
    · exact r_sub [] rfl (Jk14  _ hF)
    · refine r_iconst (v := 1) C dX12_within_10 (by decide) ?_
      refine r_goto (tgt := 15) C dX12_within_11 (by decide) ?_
      exact r_sub [] rfl (Jk15 _ _ hF)
def F_X12_rough (a0 : Nat) (h0 : PM) : Option (Int32 × PM) := pI h0 a0 13 0 0 fun h1 => gI h1 a0 13 1 fun x2 => if ¬ x2 = 10 then (gI h1 a0 13 1 fun x3 => pI h1 a0 13 1 (x3 + 1) fun h4 => gI h4 a0 13 1 fun x5 => some (x5 - 1, h4)) else (some ((-1), h1))
set_option maxRecDepth 100000 in
set_option maxHeartbeats 4000000 in
theorem S_X12_rough {a0 : Nat} {h0 : PM} (r : Int32) (h' : PM) (hF : F_X12_rough a0 h0 = some (r, h')) : CN yX12_rough cX12_rough 1 (some .int) 0 0 0 [.ref a0] h0 (some (.int r)) h' := by
  obtain ⟨X, eX⟩ : ∃ X, X = (r, h') := ⟨_, rfl⟩
  rw [← eX] at hF
  have e1 : r = X.1 := by rw [eX]
  have e2 : h' = X.2 := by rw [eX]
  rw [e1, e2]
  clear eX e1 e2
  unfold F_X12_rough at hF
  refine CN_of (by decide) (fun ρ => Nat.le_of_ble_eq_true rfl) rfl ?_
  intro p l e s m args below meth c D cy base ρ hT C V hr hnm
  refine r_aload_n C dX12_rough_0 rfl 0 rfl ?_
  refine r_iconst (v := 0) C dX12_rough_1 (by decide) ?_
  refine k_pI C dX12_rough_2 fd_X12_1 (fun z => by cases z) (by decide) hF (fun h1 hF => ?_)
  refine r_aload_n C dX12_rough_5 rfl 0 rfl ?_
  refine k_gI C dX12_rough_6 fd_X12_126 (by decide) hF (fun x2 hF => ?_)
  refine r_bipush (v := 10) C dX12_rough_9 (by decide) ?_
  refine r_icmp_ne (tgt := 16) C dX12_rough_11 (by decide) hF (fun hF => ?_) (fun hF => ?_)
  · refine r_aload_n C dX12_rough_16 rfl 0 rfl ?_
    refine r_dup C dX12_rough_17 rfl ?_
    refine k_gI C dX12_rough_18 fd_X12_126 (by decide) hF (fun x3 hF => ?_)
    refine r_iconst (v := 1) C dX12_rough_21 (by decide) ?_
    refine r_iadd C dX12_rough_22 ?_
    refine k_pI C dX12_rough_23 fd_X12_126 (fun z => by cases z) (by decide) hF (fun h4 hF => ?_)
    refine r_aload_n C dX12_rough_26 rfl 0 rfl ?_
    refine k_gI C dX12_rough_27 fd_X12_126 (by decide) hF (fun x5 hF => ?_)
    refine r_iconst (v := 1) C dX12_rough_30 (by decide) ?_
    refine r_isub C dX12_rough_31 ?_
    exact k_iret C dX12_rough_32 hr (by decide) (by decide) hF
  · refine r_iconst (v := (-1)) C dX12_rough_14 (by decide) ?_
    exact k_iret C dX12_rough_15 hr (by decide) (by decide) hF
def F_X12_isRough (a0 : Nat) (a1 : Int32) (h0 : PM) : Option (Int32 × PM) := gI h0 a0 13 1 fun x1 => cl (F_X12_within a1 0 (x1 - 1) h0) fun r2 h3 => tst h3 a0 13 (cl (F_X12_may a0 r2 1 h3) fun r5 h6 => rz r5 h6)
set_option maxRecDepth 100000 in
set_option maxHeartbeats 4000000 in
theorem S_X12_isRough {a0 : Nat} {a1 : Int32} {h0 : PM} (r : Int32) (h' : PM) (hF : F_X12_isRough a0 a1 h0 = some (r, h')) : CN yX12_isRough cX12_isRough 2 (some .boolean) 0 0 1 [.ref a0, .int a1] h0 (some (.int r)) h' := by
  obtain ⟨X, eX⟩ : ∃ X, X = (r, h') := ⟨_, rfl⟩
  rw [← eX] at hF
  have e1 : r = X.1 := by rw [eX]
  have e2 : h' = X.2 := by rw [eX]
  rw [e1, e2]
  clear eX e1 e2
  unfold F_X12_isRough at hF
  refine CN_of (by decide) (fun ρ => Nat.le_of_ble_eq_true rfl) rfl ?_
  intro p l e s m args below meth c D cy base ρ hT C V hr hnm
  refine r_aload_n C dX12_isRough_0 rfl 0 rfl ?_
  refine r_iload_n C dX12_isRough_1 rfl 1 rfl ?_
  refine r_iconst (v := 0) C dX12_isRough_2 (by decide) ?_
  refine r_aload_n C dX12_isRough_3 rfl 0 rfl ?_
  refine k_gI C dX12_isRough_4 fd_X12_126 (by decide) hF (fun x1 hF => ?_)
  refine r_iconst (v := 1) C dX12_isRough_7 (by decide) ?_
  refine r_isub C dX12_isRough_8 ?_
  obtain ⟨r2, h3, hc4, hF⟩ := cl_some hF
  refine r_callS (As := [.int a1, .int 0, .int (x1 - 1)]) C dX12_isRough_9 V hT cal_X12_within ml_X12_129 sm_X12_within (by decide) rfl rfl (Nat.le_of_ble_eq_true rfl) (by decide) (by decide) (S_X12_within _ _ hc4) ?_
  refine r_iconst (v := 1) C dX12_isRough_12 (by decide) ?_
  obtain ⟨ht, hF⟩ := tst_some hF
  obtain ⟨r5, h6, hc7, hF⟩ := cl_some hF
  refine r_callV (As := [.int r2, .int 1]) C dX12_isRough_13 V hT cal_X12_may cls_13 ml_X12_133 im_X12_may se_X12_may ht (by decide) rfl rfl (Nat.le_of_ble_eq_true rfl) (by decide) (by decide) (S_X12_may _ _ hc7) ?_
  exact k_zret C dX12_isRough_16 hr (by decide) (by decide) hF
def F_X12_stuff_L19 (c0 : Nat) (c1 : Int32) (k47 : Int32 → PM → Option (Int32 × PM)) : Nat → Int32 → Int32 → PM → Option (Int32 × PM)
  | 0, _, _, _ => none
  | fu + 1, v7, v8, h9 => if 216 ≤ v8 then (k47 v7 h9) else (gR h9 c0 13 2 fun x10 => aI h9 x10 ((216 * c1) + v8) fun x11 => lt_ (v7 + x11) fun x12 => F_X12_stuff_L19 c0 c1 k47 fu x12 (v8 + 1) h9)
def F_X12_stuff (a0 : Nat) (a1 : Int32) (h0 : PM) : Option (Int32 × PM) := pI h0 a0 13 0 0 fun h1 => tst h1 a0 13 (cl (F_X12_isRough a0 a1 h1) fun r2 h3 => if ¬ r2 = 0 then (jn (fun (v5 : Int32) (h6 : PM) => some (v5, h6)) fun k47 => F_X12_stuff_L19 a0 a1 k47 LF 0 0 h3) else (some (0, h3)))
set_option maxRecDepth 100000 in
set_option maxHeartbeats 4000000 in
theorem S_X12_stuff {a0 : Nat} {a1 : Int32} {h0 : PM} (r : Int32) (h' : PM) (hF : F_X12_stuff a0 a1 h0 = some (r, h')) : CN yX12_stuff cX12_stuff 4 (some .int) 0 0 2 [.ref a0, .int a1] h0 (some (.int r)) h' := by
  obtain ⟨X, eX⟩ : ∃ X, X = (r, h') := ⟨_, rfl⟩
  rw [← eX] at hF
  have e1 : r = X.1 := by rw [eX]
  have e2 : h' = X.2 := by rw [eX]
  rw [e1, e2]
  clear eX e1 e2
  unfold F_X12_stuff at hF
  refine CN_of (by decide) (fun ρ => Nat.le_of_ble_eq_true rfl) rfl ?_
  intro p l e s m args below meth c D cy base ρ hT C V hr hnm
  refine r_aload_n C dX12_stuff_0 rfl 0 rfl ?_
  refine r_iconst (v := 0) C dX12_stuff_1 (by decide) ?_
  refine k_pI C dX12_stuff_2 fd_X12_1 (fun z => by cases z) (by decide) hF (fun h1 hF => ?_)
  refine r_aload_n C dX12_stuff_5 rfl 0 rfl ?_
  refine r_iload_n C dX12_stuff_6 rfl 1 rfl ?_
  obtain ⟨ht, hF⟩ := tst_some hF
  obtain ⟨r2, h3, hc4, hF⟩ := cl_some hF
  refine r_callV (As := [.int a1]) C dX12_stuff_7 V hT cal_X12_isRough cls_13 ml_X12_137 im_X12_isRough se_X12_isRough ht (by decide) rfl rfl (Nat.le_of_ble_eq_true rfl) (by decide) (by decide) (S_X12_isRough _ _ hc4) ?_
  refine r_if_ne (tgt := 15) C dX12_stuff_10 (by decide) hF (fun hF => ?_) (fun hF => ?_)
  · refine r_iconst (v := 0) C dX12_stuff_15 (by decide) ?_
    refine r_istore_n C dX12_stuff_16 rfl (by decide) rfl ?_
    refine r_iconst (v := 0) C dX12_stuff_17 (by decide) ?_
    refine r_istore_n C dX12_stuff_18 rfl (by decide) rfl ?_
    obtain ⟨k47, ek47, hF⟩ := jn_some hF
    have Jk47 : ∀ (v5 : Int32) (h6 : PM), k47 v5 h6 = some X → WP p l e (rmN 0 0 2) s m args below meth c D cy base ρ h0 0 0 4 (MQ below (QR D cy base ρ h0 (some (.int X.1)) X.2) args s 0 0 (fun q => base ≤ q)) 47 [(2, .int v5)] [] h6 := by
      intro v5 h6 hF
      rw [ek47] at hF
      refine r_iload_n C dX12_stuff_47 rfl 0 rfl ?_
      exact k_iret C dX12_stuff_48 hr (by decide) (by decide) hF
    have L19 : ∀ (fu : Nat) (v7 : Int32) (v8 : Int32) (h9 : PM), F_X12_stuff_L19 a0 a1 k47 fu v7 v8 h9 = some X → WP p l e (rmN 0 0 2) s m args below meth c D cy base ρ h0 0 0 4 (MQ below (QR D cy base ρ h0 (some (.int X.1)) X.2) args s 0 0 (fun q => base ≤ q)) 19 [(0, .ref a0), (1, .int a1), (2, .int v7), (3, .int v8)] [] h9 := by
      intro fu
      induction fu with
      | zero => intro v7 v8 h9 hF; rw [F_X12_stuff_L19.eq_1] at hF; cases hF
      | succ fu ih =>
        intro v7 v8 h9 hF
        rw [F_X12_stuff_L19.eq_2] at hF
        refine r_iload_n C dX12_stuff_19 rfl 3 rfl ?_
        refine r_sipush (v := 216) C dX12_stuff_20 (by decide) ?_
        refine r_icmp_ge (tgt := 47) C dX12_stuff_23 (by decide) hF (fun hF => ?_) (fun hF => ?_)
        · exact r_sub [2] rfl (Jk47 _ _ hF)
        · refine r_iload_n C dX12_stuff_26 rfl 2 rfl ?_
          refine r_aload_n C dX12_stuff_27 rfl 0 rfl ?_
          refine k_gR C dX12_stuff_28 fd_X12_13 (by decide) hF (fun x10 hF => ?_)
          refine r_sipush (v := 216) C dX12_stuff_31 (by decide) ?_
          refine r_iload_n C dX12_stuff_34 rfl 1 rfl ?_
          refine r_imul C dX12_stuff_35 ?_
          refine r_iload_n C dX12_stuff_36 rfl 3 rfl ?_
          refine r_iadd C dX12_stuff_37 ?_
          refine k_aI C dX12_stuff_38 hF (fun x11 hF => ?_)
          refine r_iadd C dX12_stuff_39 ?_
          refine k_lti hF (fun x12 hF => ?_)
          refine r_istore_n C dX12_stuff_40 rfl (by decide) rfl ?_
          refine r_iinc (v := v8 + 1) C dX12_stuff_41 3 rfl (congrArg (fun z => v8 + z) (by decide)) (by decide) rfl ?_
          refine r_goto (tgt := 19) C dX12_stuff_44 (by decide) ?_
          exact r_sub [2, 3, 1, 0] rfl (ih _ _ _ hF)
    exact r_sub [2, 3, 1, 0] rfl (L19 _ _ _ _ hF)
  · refine r_iconst (v := 0) C dX12_stuff_13 (by decide) ?_
    exact k_iret C dX12_stuff_14 hr (by decide) (by decide) hF
