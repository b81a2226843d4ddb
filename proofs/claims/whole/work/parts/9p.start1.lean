/-! ===== the law's start: the two constructors as lists of plain steps ===== -/
abbrev II : Type := Nat × Nat × Nat × Nat × Nat × Int32
def ir {β : Type} : II → (PM → Option β) → PM → Option β
  | (0, a, c, k, _, _), K, h => nA h a c (nI k) K
  | (1, a, c, _, _, _), K, h => nO h a c K
  | (2, a, c, k, r, _), K, h => pR h a c k r K
  | (3, a, c, k, _, v), K, h => pI h a c k v K
  | (4, a, _, k, _, v), K, h => sI h a (nI k) v K
  | (_, a, _, k, r, _), K, h => sR h a (nI k) r K
def irs {β : Type} : List II → (PM → Option β) → PM → Option β
  | [], K, h => K h
  | i :: l, K, h => ir i (fun h => irs l K h) h
def pxm : II → IM → IM
  | (0, a, _, _, _, _), m => z1 m a 0
  | (1, a, _, _, _, _), m => z1 m a 0
  | (2, _, _, _, _, _), m => m
  | (3, a, _, k, _, v), m => u2 m a k v
  | (4, a, _, k, _, v), m => u2 m a k v
  | (_, _, _, _, _, _), m => m
def pxj : II → JM → JM
  | (0, a, _, _, _, _), j => z1 j a 0
  | (1, a, _, _, _, _), j => z1 j a 0
  | (_, _, _, _, _, _), j => j
def pxu : II → SU → SU
  | (0, a, c, k, _, _), u => nu u a c k
  | (1, a, c, _, _, _), u => nu u a (c + 1) 0
  | (2, a, _, k, r, _), u => pu u a k r
  | (3, _, _, _, _, _), u => u
  | (4, _, _, _, _, _), u => u
  | (_, a, _, k, r, _), u => pu u a k r
def okI (u : SU) : II → Bool
  | (0, a, _, k, _, _) => decide (a ≠ 0 ∧ u.2.1 a = 0 ∧ k ≤ 65536)
  | (1, a, _, _, _, _) => decide (a ≠ 0 ∧ u.2.1 a = 0)
  | (2, a, c, _, r, _) => decide (u.2.1 a = c + 1 ∧ u.2.1 r ≠ 0 ∧ r ≠ 0)
  | (3, a, c, _, _, _) => decide (u.2.1 a = c + 1)
  | (4, a, _, k, _, _) => decide (a ≠ 4 ∧ u.2.1 a = 20 ∧ k < u.2.2 a ∧ u.2.2 a < 2 ^ 31)
  | (_, a, _, k, r, _) => decide (a ≠ 4 ∧ u.2.1 a = 24 ∧ u.2.1 r = 6 ∧ k < u.2.2 a ∧ u.2.2 a < 2 ^ 31 ∧ r ≠ 0)
def pxms : List II → IM → IM
  | [], m => m
  | i :: l, m => pxms l (pxm i m)
def pxjs : List II → JM → JM
  | [], j => j
  | i :: l, j => pxjs l (pxj i j)
def pxus : List II → SU → SU
  | [], u => u
  | i :: l, u => pxus l (pxu i u)
def okZ : List II → SU → Bool
  | [], _ => true
  | i :: l, u => okI u i && okZ l (pxu i u)
theorem ir_run {β : Type} {m : IM} {j : JM} {u : SU} {K : PM → Option β} (i : II) (h : okI u i = true) : ir i K (pm m j u) = K (pm (pxm i m) (pxj i j) (pxu i u)) := by
  obtain ⟨op, a, c, k, r, v⟩ := i
  match op, h with
  | 0, h => obtain ⟨h1, h2, h3⟩ := of_decide_eq_true h; exact e_nA h1 h2 h3
  | 1, h => obtain ⟨h1, h2⟩ := of_decide_eq_true h; exact e_nO h1 h2
  | 2, h => obtain ⟨h1, h2, h3⟩ := of_decide_eq_true h; exact e_pR h1 h2 h3
  | 3, h => exact e_pI (of_decide_eq_true h)
  | 4, h => obtain ⟨h1, h2, h3, h4⟩ := of_decide_eq_true h; exact e_sI h2 rfl h4 h3
  | n + 5, h => obtain ⟨h1, h2, h3, h4, h5, h6⟩ := of_decide_eq_true h; exact e_sR (Or.inl ⟨h2, h3⟩) rfl h5 h4 h6
theorem irs_run {β : Type} {K : PM → Option β} : ∀ (l : List II) (m : IM) (j : JM) (u : SU), okZ l u = true → irs l K (pm m j u) = K (pm (pxms l m) (pxjs l j) (pxus l u))
  | [], _, _, _, _ => rfl
  | i :: l, m, j, u, h => by
    have h := (Bool.and_eq_true _ _).mp h
    rw [irs, ir_run i h.1, irs_run l _ _ _ h.2]
    rfl
theorem pxms_app : ∀ (l k : List II) (m : IM), pxms (l ++ k) m = pxms k (pxms l m)
  | [], _, _ => rfl
  | i :: l, k, m => pxms_app l k (pxm i m)
theorem pxjs_app : ∀ (l k : List II) (m : JM), pxjs (l ++ k) m = pxjs k (pxjs l m)
  | [], _, _ => rfl
  | i :: l, k, m => pxjs_app l k (pxj i m)
theorem pxus_app : ∀ (l k : List II) (m : SU), pxus (l ++ k) m = pxus k (pxus l m)
  | [], _, _ => rfl
  | i :: l, k, m => pxus_app l k (pxu i m)
/-- alike but for the script -/
def AG (u v : SU) : Prop := u.1 = v.1 ∧ u.2.1 = v.2.1 ∧ ∀ a, a ≠ 4 → u.2.2 a = v.2.2 a
def AM (m n : IM) : Prop := ∀ a, a ≠ 4 → m a = n a
theorem AG_nu {u v : SU} {a t n : Nat} (h : AG u v) : AG (nu u a t n) (nu v a t n) := by
  refine ⟨by unfold nu; dsimp only; rw [h.1], by unfold nu; dsimp only; rw [h.2.1], fun b hb => ?_⟩
  by_cases e : b = a
  · rw [e, nu_3s, nu_3s]
  · rw [nu_3 e, nu_3 e]; exact h.2.2 b hb
theorem AG_pu {u v : SU} {a k r : Nat} (h : AG u v) : AG (pu u a k r) (pu v a k r) := ⟨by unfold pu; dsimp only; rw [h.1], h.2.1, h.2.2⟩
theorem AG_px {u v : SU} (h : AG u v) (i : II) : AG (pxu i u) (pxu i v) := by
  obtain ⟨op, a, c, k, r, x⟩ := i
  match op with
  | 0 => exact AG_nu h
  | 1 => exact AG_nu h
  | 2 => exact AG_pu h
  | 3 => exact h
  | 4 => exact h
  | n + 5 => exact AG_pu h
theorem AG_pxs : ∀ (l : List II) {u v : SU}, AG u v → AG (pxus l u) (pxus l v)
  | [], _, _, h => h
  | i :: l, _, _, h => AG_pxs l (AG_px h i)
theorem okI_ag {u v : SU} (h : AG u v) (i : II) : okI v i = true → okI u i = true := by
  obtain ⟨op, a, c, k, r, x⟩ := i
  obtain ⟨h1, h2, h3⟩ := h
  intro z
  match op, z with
  | 0, z => have := of_decide_eq_true z; exact decide_eq_true (by rw [h2]; exact this)
  | 1, z => have := of_decide_eq_true z; exact decide_eq_true (by rw [h2]; exact this)
  | 2, z => have := of_decide_eq_true z; exact decide_eq_true (by rw [h2]; exact this)
  | 3, z => have := of_decide_eq_true z; exact decide_eq_true (by rw [h2]; exact this)
  | 4, z => have := of_decide_eq_true z; exact decide_eq_true (by rw [h2, h3 a this.1]; exact this)
  | n + 5, z => have := of_decide_eq_true z; exact decide_eq_true (by rw [h2, h3 a this.1]; exact this)
theorem okZ_ag : ∀ (l : List II) {u v : SU}, AG u v → okZ l v = true → okZ l u = true
  | [], _, _, _, _ => rfl
  | i :: l, u, v, h, z => by
    have z := (Bool.and_eq_true _ _).mp z
    exact (Bool.and_eq_true _ _).mpr ⟨okI_ag h i z.1, okZ_ag l (AG_px h i) z.2⟩
theorem AM_z1 {m n : IM} {a : Nat} {v : Int32} (h : AM m n) : AM (z1 m a v) (z1 n a v) := fun b hb => by
  by_cases e : b = a
  · subst e; funext k; rw [z1s, z1s]
  · rw [z1n e, z1n e]; exact h b hb
theorem AM_u2 {m n : IM} {a k : Nat} {v : Int32} (h : AM m n) : AM (u2 m a k v) (u2 n a k v) := fun b hb => by
  funext i
  unfold u2
  rw [h b hb]
theorem AM_px {m n : IM} (h : AM m n) (i : II) : AM (pxm i m) (pxm i n) := by
  obtain ⟨op, a, c, k, r, x⟩ := i
  match op with
  | 0 => exact AM_z1 h
  | 1 => exact AM_z1 h
  | 2 => exact h
  | 3 => exact AM_u2 h
  | 4 => exact AM_u2 h
  | n + 5 => exact h
theorem AM_pxs : ∀ (l : List II) {m n : IM}, AM m n → AM (pxms l m) (pxms l n)
  | [], _, _, h => h
  | i :: l, _, _, h => AM_pxs l (AM_px h i)
theorem pxm_no {m : IM} {b : Nat} (i : II) (h : i.2.1 ≠ b) : pxm i m b = m b := by
  obtain ⟨op, a, c, k, r, x⟩ := i
  have hb : b ≠ a := fun z => h z.symm
  match op with
  | 0 => exact z1n hb
  | 1 => exact z1n hb
  | 2 => rfl
  | 3 => exact e_u2r hb
  | 4 => exact e_u2r hb
  | n + 5 => rfl
theorem pxms_no {b : Nat} : ∀ (l : List II) {m : IM}, l.all (fun i => decide (i.2.1 ≠ b)) = true → pxms l m b = m b
  | [], _, _ => rfl
  | i :: l, m, h => by
    rw [List.all_cons] at h
    have h := (Bool.and_eq_true _ _).mp h
    rw [pxms, pxms_no l h.2, pxm_no i (of_decide_eq_true h.1)]
theorem pxu_no {u : SU} {b : Nat} (i : II) (h : i.2.1 ≠ b) : (pxu i u).2.1 b = u.2.1 b ∧ (pxu i u).2.2 b = u.2.2 b := by
  obtain ⟨op, a, c, k, r, x⟩ := i
  have hb : b ≠ a := fun z => h z.symm
  match op with
  | 0 => exact ⟨nu_2 hb, nu_3 hb⟩
  | 1 => exact ⟨nu_2 hb, nu_3 hb⟩
  | 2 => exact ⟨rfl, rfl⟩
  | 3 => exact ⟨rfl, rfl⟩
  | 4 => exact ⟨rfl, rfl⟩
  | n + 5 => exact ⟨rfl, rfl⟩
theorem pxus_no {b : Nat} : ∀ (l : List II) {u : SU}, l.all (fun i => decide (i.2.1 ≠ b)) = true → (pxus l u).2.1 b = u.2.1 b ∧ (pxus l u).2.2 b = u.2.2 b
  | [], _, _ => ⟨rfl, rfl⟩
  | i :: l, u, h => by
    rw [List.all_cons] at h
    have h := (Bool.and_eq_true _ _).mp h
    obtain ⟨a1, a2⟩ := pxus_no l (u := pxu i u) h.2
    obtain ⟨b1, b2⟩ := pxu_no (u := u) i (of_decide_eq_true h.1)
    exact ⟨a1.trans b1, a2.trans b2⟩
/-- no step names anything from 2000 on -/
theorem pxus_hi {b : Nat} (hb : 2000 ≤ b) : ∀ (l : List II) {u : SU}, l.all (fun i => decide (i.2.1 < 2000)) = true → (pxus l u).2.1 b = u.2.1 b
  | [], _, _ => rfl
  | i :: l, u, h => by
    rw [List.all_cons] at h
    have h := (Bool.and_eq_true _ _).mp h
    have := of_decide_eq_true h.1
    exact (pxus_hi hb l (u := pxu i u) h.2).trans (pxu_no (u := u) i (by omega)).1
def S0 : List II := [(1, 10, 12, 0, 0, 0)]
def S1 : List II := [(1, 20, 0, 0, 0, 0), (3, 20, 0, 0, 0, 0), (2, 20, 0, 1, 2, 0), (2, 10, 12, 0, 20, 0), (1, 30, 0, 0, 0, 0), (3, 30, 0, 0, 0, 0), (2, 30, 0, 1, 2, 0), (2, 10, 12, 1, 30, 0), (1, 40, 0, 0, 0, 0), (3, 40, 0, 0, 0, 0), (2, 40, 0, 1, 2, 0), (2, 10, 12, 2, 40, 0), (1, 50, 10, 0, 0, 0), (0, 51, 20, 100, 0, 0), (2, 50, 10, 0, 51, 0), (3, 50, 10, 1, 0, 0), (3, 50, 10, 2, 0, 0), (3, 50, 10, 3, 0, 0), (3, 50, 10, 4, 0, 0), (0, 52, 20, 6, 0, 0), (2, 50, 10, 5, 52, 0), (0, 53, 20, 6, 0, 0), (2, 50, 10, 6, 53, 0), (0, 54, 20, 6, 0, 0), (2, 50, 10, 7, 54, 0), (0, 55, 20, 6, 0, 0), (2, 50, 10, 8, 55, 0), (2, 10, 12, 3, 50, 0), (1, 60, 6, 0, 0, 0), (0, 61, 20, 10, 0, 0), (2, 60, 6, 0, 61, 0), (0, 62, 20, 10, 0, 0), (2, 60, 6, 1, 62, 0), (3, 60, 6, 2, 0, 0), (2, 10, 12, 4, 60, 0), (1, 70, 8, 0, 0, 0)]
def S2 : List II := [(0, 71, 24, 25, 0, 0), (2, 70, 8, 0, 71, 0), (1, 72, 2, 0, 0, 0), (3, 72, 2, 0, 0, 0), (3, 72, 2, 1, 0, -1), (3, 72, 2, 2, 0, 0), (3, 72, 2, 3, 0, 0), (3, 72, 2, 4, 0, 0), (3, 72, 2, 5, 0, 0), (3, 72, 2, 6, 0, 0), (3, 72, 2, 7, 0, 0), (2, 70, 8, 1, 72, 0), (0, 73, 21, 6, 0, 0), (2, 70, 8, 2, 73, 0), (0, 74, 20, 3, 0, 0), (2, 70, 8, 3, 74, 0)]
def sg (k : Nat) : List II := [(1, 1070 + 2 * k, 5, 0, 0, 0), (1, 1070 + 2 * k + 1, 2, 0, 0, 0), (3, 1070 + 2 * k + 1, 2, 0, 0, 0), (3, 1070 + 2 * k + 1, 2, 1, 0, -1), (3, 1070 + 2 * k + 1, 2, 2, 0, 0), (3, 1070 + 2 * k + 1, 2, 3, 0, 0), (3, 1070 + 2 * k + 1, 2, 4, 0, 0), (3, 1070 + 2 * k + 1, 2, 5, 0, 0), (3, 1070 + 2 * k + 1, 2, 6, 0, 0), (3, 1070 + 2 * k + 1, 2, 7, 0, 0), (2, 1070 + 2 * k, 5, 3, 1070 + 2 * k + 1, 0), (3, 1070 + 2 * k, 5, 0, 0, nI (ptA k)), (3, 1070 + 2 * k, 5, 1, 0, nI (ptL k)), (3, 1070 + 2 * k, 5, 2, 0, nI (ptH k)), (5, 71, 0, k, 1070 + 2 * k, 0)]
def pre : Nat → List II
  | 0 => S0 ++ (S1 ++ S2)
  | k + 1 => pre k ++ sg k
def S3 : List II := [(2, 10, 12, 5, 70, 0), (1, 80, 11, 0, 0, 0), (0, 81, 20, 2048, 0, 0), (2, 80, 11, 0, 81, 0), (0, 82, 20, 64, 0, 0), (2, 80, 11, 1, 82, 0), (0, 83, 20, 8, 0, 0), (2, 80, 11, 2, 83, 0), (2, 10, 12, 6, 80, 0), (1, 90, 3, 0, 0, 0), (0, 91, 20, 10, 0, 0), (2, 90, 3, 0, 91, 0), (0, 92, 20, 10, 0, 0), (2, 90, 3, 1, 92, 0), (0, 93, 20, 1024, 0, 0), (2, 90, 3, 2, 93, 0), (3, 90, 3, 3, 0, 0), (2, 10, 12, 7, 90, 0), (1, 100, 1, 0, 0, 0), (0, 101, 20, 24, 0, 0), (2, 100, 1, 0, 101, 0), (0, 102, 20, 4, 0, 0), (4, 102, 0, 0, 0, 6), (4, 102, 0, 1, 0, 6), (4, 102, 0, 2, 0, 6), (4, 102, 0, 3, 0, 6), (2, 100, 1, 1, 102, 0), (0, 103, 20, 4, 0, 0), (2, 100, 1, 2, 103, 0), (0, 104, 20, 6, 0, 0), (2, 100, 1, 3, 104, 0), (0, 105, 20, 6, 0, 0), (2, 100, 1, 4, 105, 0), (0, 106, 20, 7, 0, 0), (2, 100, 1, 5, 106, 0), (3, 100, 1, 6, 0, 0), (3, 100, 1, 7, 0, 0), (2, 10, 12, 8, 100, 0), (3, 10, 12, 9, 0, 0)]
def S4 : List II := [(1, 200, 13, 0, 0, 0)]
def S5 : List II := [(0, 201, 20, 2160, 0, 0), (2, 200, 13, 2, 201, 0), (0, 202, 20, 100, 0, 0), (2, 200, 13, 8, 202, 0), (0, 203, 20, 7, 0, 0), (2, 200, 13, 9, 203, 0), (0, 204, 20, 7, 0, 0), (2, 200, 13, 10, 204, 0), (0, 205, 20, 1512, 0, 0), (2, 200, 13, 11, 205, 0), (0, 206, 20, 1512, 0, 0), (2, 200, 13, 12, 206, 0), (0, 207, 20, 1512, 0, 0), (2, 200, 13, 13, 207, 0), (0, 208, 20, 10, 0, 0), (2, 200, 13, 15, 208, 0), (0, 209, 20, 10, 0, 0), (2, 200, 13, 16, 209, 0), (0, 210, 20, 3, 0, 0), (2, 200, 13, 17, 210, 0), (0, 211, 20, 3, 0, 0), (2, 200, 13, 18, 211, 0), (0, 212, 20, 216, 0, 0), (2, 200, 13, 19, 212, 0), (0, 213, 20, 3, 0, 0), (2, 200, 13, 20, 213, 0), (0, 214, 20, 3, 0, 0), (2, 200, 13, 21, 214, 0), (0, 215, 20, 8, 0, 0), (2, 200, 13, 25, 215, 0), (0, 216, 20, 8, 0, 0), (2, 200, 13, 26, 216, 0), (0, 217, 20, 16, 0, 0), (2, 200, 13, 27, 217, 0), (0, 218, 20, 40, 0, 0), (2, 200, 13, 33, 218, 0), (0, 219, 20, 40, 0, 0), (2, 200, 13, 34, 219, 0), (0, 220, 20, 40, 0, 0), (2, 200, 13, 35, 220, 0), (0, 221, 20, 40, 0, 0), (2, 200, 13, 36, 221, 0), (0, 222, 20, 320, 0, 0), (2, 200, 13, 37, 222, 0), (0, 223, 20, 320, 0, 0), (2, 200, 13, 38, 223, 0), (0, 224, 20, 40, 0, 0), (2, 200, 13, 39, 224, 0), (0, 225, 20, 40, 0, 0), (2, 200, 13, 40, 225, 0), (0, 226, 20, 40, 0, 0), (2, 200, 13, 41, 226, 0), (0, 227, 22, 40, 0, 0), (2, 200, 13, 42, 227, 0), (0, 228, 20, 2048, 0, 0), (2, 200, 13, 43, 228, 0), (0, 229, 20, 8, 0, 0), (2, 200, 13, 44, 229, 0), (0, 230, 20, 10, 0, 0), (2, 200, 13, 48, 230, 0), (0, 231, 20, 10, 0, 0), (2, 200, 13, 49, 231, 0), (0, 232, 20, 10, 0, 0), (2, 200, 13, 50, 232, 0), (0, 233, 20, 24, 0, 0), (2, 200, 13, 53, 233, 0), (0, 234, 20, 4, 0, 0), (2, 200, 13, 54, 234, 0), (0, 235, 20, 6, 0, 0), (2, 200, 13, 55, 235, 0), (0, 236, 20, 6, 0, 0), (2, 200, 13, 56, 236, 0), (0, 237, 20, 4, 0, 0), (2, 200, 13, 57, 237, 0)]
def S6 : List II := [(0, 5, 21, 1, 0, 0)]
