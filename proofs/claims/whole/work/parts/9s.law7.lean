/-! ===== the law ===== -/
section FIN
variable {L : Nat} {xs : Nat → Int32}
theorem LiS0 {u : SU} {nm : Nat → Nat} {B : Nat} (hB : B = 20 ∨ B = 30 ∨ B = 40) (hu : AG u ua) : LiS u B 0 nm := by
  obtain ⟨a1, a2, a3⟩ := f_li B hB
  refine ⟨by rw [hu.2.1]; exact a1, 0, by rw [hu.1, if_pos rfl]; exact a2, by decide, fun a h1 h2 => by rw [hu.2.1]; exact a3 a h2 (by omega), fun _ => rfl, Nat.zero_le _, fun z => absurd z (Nat.lt_irrefl _), fun k hk => absurd hk (Nat.not_lt_zero _)⟩
theorem INV0 {m : IM} {j : JM} {u : SU} (hu : AG u ua) (hm : AM m ma) (h4 : m 4 = xs) (h41 : u.2.1 4 = 23) (h42 : u.2.2 4 = L) (hh : ∀ b, 2000 ≤ b → u.2.1 b = 0) (h1 : m 1 = tuV) : INV L xs m j u := by
  obtain ⟨m20, m30, m40, m50, m60, m100, m10⟩ := f_m
  obtain ⟨r1, r3, r7, r14, r32, r51, r52⟩ := f_r
  have e : ∀ a k, a ≠ 4 → m a k = ma a k := fun a k ha => by rw [hm a ha]
  have v : ∀ {P : Nat → Prop} (k : Nat), k < 0 → P k := fun k hk => absurd hk (Nat.not_lt_zero _)
  refine ⟨0, fun _ => false, 0, fun _ => 0, 0, fun _ => [], 0, fun _ => 0, fun _ => 0, 0, fun _ _ => 0, fun _ _ => 0, fun _ _ => 0, 0, 0, fun _ => 0, fun _ => 6, ⟨?_, ?_, ?_, ?_, ?_, ?_, ?_⟩, ⟨?_, ?_, ?_, ?_, ?_, ?_, ?_, ?_, ?_⟩, ⟨?_, ?_, ?_, ?_, ?_, ?_⟩, ?_⟩
  · refine ⟨by rw [hu.2.1]; exact f_rs.1, fun q hq => ?_⟩
    have := rfL_in q hq
    rw [hu.1, hu.2.1, hu.2.2 q.2.1 (by omega)]
    exact f_rs.2 q hq
  · exact ⟨by decide, by rw [e 200 1 (by decide)]; exact r1, fun i _ => by rw [e 201 i (by decide)]; exact f_201 i⟩
  · exact ⟨by rw [e 200 3 (by decide)]; exact r3, fun i hi => absurd hi (Nat.not_lt_zero _)⟩
  · exact ⟨by rw [e 200 7 (by decide)]; exact r7, fun i hi => absurd hi (Nat.not_lt_zero _)⟩
  · exact ⟨by rw [e 200 14 (by decide)]; exact r14, fun i hi => absurd hi (Nat.not_lt_zero _)⟩
  · exact ⟨by rw [e 200 32 (by decide)]; exact r32, fun i hi => absurd hi (Nat.not_lt_zero _)⟩
  · exact ⟨by rw [e 200 51 (by decide)]; exact r51, by rw [e 200 52 (by decide)]; exact r52, fun i hi => absurd hi (Nat.not_lt_zero _), fun b hb => by rw [e 234 b (by decide)]; exact (f_b b hb).2.2⟩
  · refine ⟨fun q hq => by rw [hu.1]; exact f_cf q hq, fun q hq => by rw [hu.2.1, hu.2.2 q.1 (f_n4 q hq)]; exact f_ck q hq, fun i hi => ?_⟩
    rw [hu.1, hu.2.1]
    exact f_ps i hi
  · exact ⟨LiS0 (by decide) hu, by rw [e 20 2 (by decide)]; exact m20, fun i hi => absurd hi (Nat.not_lt_zero _)⟩
  · exact ⟨by rw [e 50 1 (by decide)]; exact m50, fun i hi => absurd hi (Nat.not_lt_zero _)⟩
  · exact ⟨LiS0 (by decide) hu, by rw [e 30 2 (by decide)]; exact m30, fun i hi => absurd hi (Nat.not_lt_zero _)⟩
  · exact ⟨by rw [e 60 2 (by decide)]; exact m60, fun i hi => absurd hi (Nat.not_lt_zero _)⟩
  · exact ⟨LiS0 (by decide) hu, by rw [e 40 2 (by decide)]; exact m40, fun i hi => absurd hi (Nat.not_lt_zero _)⟩
  · exact ⟨by rw [e 100 6 (by decide)]; exact m100, by rw [e 10 9 (by decide)]; exact m10, fun i hi => by rw [e 101 i (by decide)]; exact f_l i hi, fun b hb => by rw [e 102 b (by decide), e 103 b (by decide)]; exact ⟨(f_b b hb).1, (f_b b hb).2.1⟩⟩
  · refine ⟨fun w hw a ha => by rw [h1]; exact f_tu w hw a ha, fun k hk => ?_⟩
    rw [e _ 0 (by omega), e _ 1 (by omega), e _ 2 (by omega)]
    exact f_sw k hk
  · exact fun x hx => hh x (by omega)
  · exact fun _ _ => rfl
  · exact Nat.zero_le _
  · exact ⟨Nat.zero_le _, fun i hi => absurd hi (Nat.not_lt_zero _)⟩
  · exact ⟨Nat.zero_le _, fun i hi => absurd hi (Nat.not_lt_zero _), fun a b hi => absurd hi (Nat.not_lt_zero _)⟩
  · exact ⟨Nat.zero_le _, fun i hi => absurd hi (Nat.not_lt_zero _)⟩
  · exact ⟨Nat.zero_le _, fun _ _ => Nat.zero_le _, fun _ _ => rfl, fun _ _ => Nat.le_refl _⟩
  · exact ⟨h4, h41, h42, by rw [hu.2.1]; exact f_5.1, by rw [hu.2.2 5 (by decide)]; exact f_5.2⟩
theorem INV1 : INV L xs (pxms AL (mh xs)) (pxjs AL (fun _ _ => 0)) (pxus AL (uh L)) := by
  refine INV0 (AG_pxs AL (AG_uh L)) (AM_pxs AL (AM_mh xs)) ?_ ?_ ?_ (fun b hb => ?_) ?_
  · rw [pxms_no AL f_no4]; rfl
  · rw [(pxus_no AL f_no4).1]; rfl
  · rw [(pxus_no AL f_no4).2]; rfl
  · rw [pxus_hi hb AL f_hi]
    unfold uh
    dsimp only
    rw [if_neg (by omega), if_neg (by omega), if_neg (by omega), if_neg (by omega)]
  · rw [pxms_no AL f_no1]; rfl
theorem n_0 {β : Type} {f : PM → Option β} : nO (hinit L xs) 10 12 f = f (Sk L xs S0) := Sk_run [] S0 ok_S0
theorem n_4 {β : Type} {f : PM → Option β} : nO (Sk L xs (pre 25 ++ S3)) 200 13 f = f (Sk L xs (pre 25 ++ S3 ++ S4)) := Sk_run (pre 25 ++ S3) S4 ok_S4
theorem n_6g {β : Type} {f : PM → Option β} (h : PM) : nA h 5 21 1 f = irs S6 f h := rfl
theorem n_6 {β : Type} {f : PM → Option β} : nA (Sk L xs (PRE ++ S7)) 5 21 1 f = f (Sk L xs AL) := by
  unfold AL
  rw [n_6g, Sk_run (PRE ++ S7) S6 ok_S6]
set_option maxRecDepth 100000 in
set_option maxHeartbeats 4000000 in
theorem law_ok (hL : L ≤ 3584) : ∃ X, F_L_law 4 (hinit L xs) = some X ∧ X.1 = 1 := by
  unfold F_L_law
  rw [n_0, X11_run, e_cl, n_4, X12_run, e_cl, n_6]
  simp only [e_jn]
  obtain ⟨h, e⟩ := L_loop hL 513 0 _ _ _ (INV1 (L := L) (xs := xs)) (Nat.zero_le _) (by omega)
  exact ⟨(1, h), e, rfl⟩
end FIN
