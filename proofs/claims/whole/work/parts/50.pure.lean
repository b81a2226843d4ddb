/-! ===== the pure part: a memory as ints m, longs j, shape u (names by places, kinds, lengths) ===== -/
abbrev SU : Type := (Nat → Nat → Nat) × (Nat → Nat) × (Nat → Nat)
abbrev IM : Type := Nat → Nat → Int32
abbrev JM : Type := Nat → Nat → Int64
def pm (m : IM) (j : JM) (u : SU) : PM := (m, j, u)
theorem pm_all (h : PM) : ∃ m j u, h = pm m j u := ⟨h.1, h.2.1, h.2.2, rfl⟩
section EV1
variable {β : Type} {m : IM} {j : JM} {u : SU} {a b c k n N : Nat}
theorem e_mI : mI (pm m j u) = m := rfl
theorem e_mJ : mJ (pm m j u) = j := rfl
theorem e_mR : mR (pm m j u) = u.1 := rfl
theorem e_mT : mT (pm m j u) = u.2.1 := rfl
theorem e_mN : mN (pm m j u) = u.2.2 := rfl
theorem e_setI {v : Int32} : setI (pm m j u) a k v = pm (u2 m a k v) j u := rfl
theorem e_setJ {v : Int64} : setJ (pm m j u) a k v = pm m (u2 j a k v) u := rfl
theorem e_setR {v : Nat} : setR (pm m j u) a k v = pm m j (u2 u.1 a k v, u.2) := rfl
theorem e_gI {f : Int32 → Option β} (hT : u.2.1 a = c + 1) : gI (pm m j u) a c k f = f (m a k) := if_pos hT
theorem e_pI {f : PM → Option β} {v : Int32} (hT : u.2.1 a = c + 1) : pI (pm m j u) a c k v f = f (pm (u2 m a k v) j u) := if_pos hT
theorem e_pZ {f : PM → Option β} {v : Int32} (hT : u.2.1 a = c + 1) (hv : v = 0 ∨ v = 1) : pZ (pm m j u) a c k v f = f (pm (u2 m a k v) j u) := if_pos ⟨hT, hv⟩
theorem e_gR {f : Nat → Option β} (hT : u.2.1 a = c + 1) (hr : u.1 a k = b) (hb : b ≠ 0) : gR (pm m j u) a c k f = f b := by
  subst hr
  exact if_pos ⟨hT, hb⟩
theorem e_tst {f : Option β} (hT : u.2.1 a = c + 1) : tst (pm m j u) a c f = f := if_pos hT
theorem e_in (hn : n < N) (hN : N < 2 ^ 31) : ¬ (nI n < 0 ∨ N ≤ (nI n).toNatClampNeg) := nI_in hn hN
theorem e_aI {f : Int32 → Option β} (hT : u.2.1 a = 20) (hN : u.2.2 a = N) (hb : N < 2 ^ 31) (hn : n < N) : aI (pm m j u) a (nI n) f = f (m a n) := by
  subst hN
  unfold aI
  rw [if_pos ⟨hT, nI_in hn hb⟩, nI_clamp (by omega)]; rfl
theorem e_aS {f : Int32 → Option β} (hT : u.2.1 a = 23) (hN : u.2.2 a = N) (hb : N < 2 ^ 31) (hn : n < N) : aS (pm m j u) a (nI n) f = f (m a n) := by
  subst hN
  unfold aS
  rw [if_pos ⟨hT, nI_in hn hb⟩, nI_clamp (by omega)]; rfl
theorem e_aZ {f : Int32 → Option β} (hT : u.2.1 a = 22) (hN : u.2.2 a = N) (hb : N < 2 ^ 31) (hn : n < N) : aZ (pm m j u) a (nI n) f = f (m a n) := by
  subst hN
  unfold aZ
  rw [if_pos ⟨hT, nI_in hn hb⟩, nI_clamp (by omega)]; rfl
theorem e_aJ {f : Int64 → Option β} (hT : u.2.1 a = 21) (hN : u.2.2 a = N) (hb : N < 2 ^ 31) (hn : n < N) : aJ (pm m j u) a (nI n) f = f (j a n) := by
  subst hN
  unfold aJ
  rw [if_pos ⟨hT, nI_in hn hb⟩, nI_clamp (by omega)]; rfl
theorem e_sI {f : PM → Option β} {v : Int32} (hT : u.2.1 a = 20) (hN : u.2.2 a = N) (hb : N < 2 ^ 31) (hn : n < N) : sI (pm m j u) a (nI n) v f = f (pm (u2 m a n v) j u) := by
  subst hN
  unfold sI
  rw [if_pos ⟨hT, nI_in hn hb⟩, nI_clamp (by omega)]; rfl
theorem e_sZ {f : PM → Option β} {v : Int32} (hT : u.2.1 a = 22) (hN : u.2.2 a = N) (hb : N < 2 ^ 31) (hn : n < N) (hv : v = 0 ∨ v = 1) : sZ (pm m j u) a (nI n) v f = f (pm (u2 m a n v) j u) := by
  subst hN
  unfold sZ
  rw [if_pos ⟨⟨hT, nI_in hn hb⟩, hv⟩, nI_clamp (by omega)]; rfl
theorem e_sJ {f : PM → Option β} {v : Int64} (hT : u.2.1 a = 21) (hN : u.2.2 a = N) (hb : N < 2 ^ 31) (hn : n < N) : sJ (pm m j u) a (nI n) v f = f (pm m (u2 j a n v) u) := by
  subst hN
  unfold sJ
  rw [if_pos ⟨hT, nI_in hn hb⟩, nI_clamp (by omega)]; rfl
theorem e_ln {f : Int32 → Option β} (h1 : 20 ≤ u.2.1 a) (h2 : u.2.1 a ≤ 27) (hN : u.2.2 a = N) (h77 : N ≠ 77) : ln (pm m j u) a f = f (nI N) := by
  subst hN
  exact if_pos ⟨h1, h2, h77⟩
theorem e_cl {α : Type} {r : α} {h : PM} {f : α → PM → Option β} : cl (some (r, h)) f = f r h := (fun h => h) (Eq.refl _)
theorem e_jn {γ : Type} {x : γ} {f : γ → Option β} : jn x f = f x := (fun h => h) (Eq.refl _)
theorem e_lt {γ : Type} {x : γ} {f : γ → Option β} : lt_ x f = f x := (fun h => h) (Eq.refl _)
theorem e_dv {y : Int32} {f : Option β} (h : y ≠ 0) : dv y f = f := if_pos h
theorem e_rz0 {h : PM} : rz 0 h = some (0, h) := (fun h => h) (Eq.refl _)
theorem e_rz1 {h : PM} : rz 1 h = some (1, h) := (fun h => h) (Eq.refl _)
theorem e_u2s {v : Int32} : u2 m a k v a k = v := by simp [u2]
theorem e_u2k {v : Int32} {i : Nat} (h : i ≠ k) : u2 m a k v a i = m a i := by simp [u2, h]
theorem e_u2a {v : Int32} {i : Nat} (h : b ≠ a) : u2 m a k v b i = m b i := by simp [u2, h]
theorem e_u2r {v : Int32} (h : b ≠ a) : u2 m a k v b = m b := by funext i; simp [u2, h]
end EV1
/-- the reference's shape -/
def rfL : List (Nat × Nat × Nat × Nat) := [(2, 201, 20, 2160), (8, 202, 20, 100), (9, 203, 20, 7), (10, 204, 20, 7), (11, 205, 20, 1512), (12, 206, 20, 1512), (13, 207, 20, 1512), (15, 208, 20, 10), (16, 209, 20, 10), (17, 210, 20, 3), (18, 211, 20, 3), (19, 212, 20, 216), (20, 213, 20, 3), (21, 214, 20, 3), (25, 215, 20, 8), (26, 216, 20, 8), (27, 217, 20, 16), (33, 218, 20, 40), (34, 219, 20, 40), (35, 220, 20, 40), (36, 221, 20, 40), (37, 222, 20, 320), (38, 223, 20, 320), (39, 224, 20, 40), (40, 225, 20, 40), (41, 226, 20, 40), (42, 227, 22, 40), (43, 228, 20, 2048), (44, 229, 20, 8), (48, 230, 20, 10), (49, 231, 20, 10), (50, 232, 20, 10), (53, 233, 20, 24), (54, 234, 20, 4), (55, 235, 20, 6), (56, 236, 20, 6), (57, 237, 20, 4)]
def RS (u : SU) : Prop := u.2.1 200 = 14 ∧ ∀ q ∈ rfL, u.1 200 q.1 = q.2.1 ∧ u.2.1 q.2.1 = q.2.2.1 ∧ u.2.2 q.2.1 = q.2.2.2
section RSR
variable {β : Type} {m : IM} {j : JM} {u : SU} {k n : Nat}
theorem rI (hs : RS u) {f : Int32 → Option β} : gI (pm m j u) 200 13 k f = f (m 200 k) := e_gI hs.1
theorem rP (hs : RS u) {f : PM → Option β} {v : Int32} : pI (pm m j u) 200 13 k v f = f (pm (u2 m 200 k v) j u) := e_pI hs.1
theorem rT (hs : RS u) {f : Option β} : tst (pm m j u) 200 13 f = f := e_tst hs.1
theorem rR_2 (hs : RS u) {f : Nat → Option β} : gR (pm m j u) 200 13 2 f = f 201 := e_gR hs.1 (hs.2 (2, 201, 20, 2160) (List.mem_of_getElem? (i := 0) rfl)).1 (by decide)
theorem rA_201 (hs : RS u) (hn : n < 2160) {f : Int32 → Option β} : aI (pm m j u) 201 (nI n) f = f (m 201 n) := e_aI (hs.2 (2, 201, 20, 2160) (List.mem_of_getElem? (i := 0) rfl)).2.1 (hs.2 (2, 201, 20, 2160) (List.mem_of_getElem? (i := 0) rfl)).2.2 (by decide) hn
theorem rS_201 (hs : RS u) (hn : n < 2160) {f : PM → Option β} {v : Int32} : sI (pm m j u) 201 (nI n) v f = f (pm (u2 m 201 n v) j u) := e_sI (hs.2 (2, 201, 20, 2160) (List.mem_of_getElem? (i := 0) rfl)).2.1 (hs.2 (2, 201, 20, 2160) (List.mem_of_getElem? (i := 0) rfl)).2.2 (by decide) hn
theorem rR_8 (hs : RS u) {f : Nat → Option β} : gR (pm m j u) 200 13 8 f = f 202 := e_gR hs.1 (hs.2 (8, 202, 20, 100) (List.mem_of_getElem? (i := 1) rfl)).1 (by decide)
theorem rA_202 (hs : RS u) (hn : n < 100) {f : Int32 → Option β} : aI (pm m j u) 202 (nI n) f = f (m 202 n) := e_aI (hs.2 (8, 202, 20, 100) (List.mem_of_getElem? (i := 1) rfl)).2.1 (hs.2 (8, 202, 20, 100) (List.mem_of_getElem? (i := 1) rfl)).2.2 (by decide) hn
theorem rS_202 (hs : RS u) (hn : n < 100) {f : PM → Option β} {v : Int32} : sI (pm m j u) 202 (nI n) v f = f (pm (u2 m 202 n v) j u) := e_sI (hs.2 (8, 202, 20, 100) (List.mem_of_getElem? (i := 1) rfl)).2.1 (hs.2 (8, 202, 20, 100) (List.mem_of_getElem? (i := 1) rfl)).2.2 (by decide) hn
theorem rR_9 (hs : RS u) {f : Nat → Option β} : gR (pm m j u) 200 13 9 f = f 203 := e_gR hs.1 (hs.2 (9, 203, 20, 7) (List.mem_of_getElem? (i := 2) rfl)).1 (by decide)
theorem rA_203 (hs : RS u) (hn : n < 7) {f : Int32 → Option β} : aI (pm m j u) 203 (nI n) f = f (m 203 n) := e_aI (hs.2 (9, 203, 20, 7) (List.mem_of_getElem? (i := 2) rfl)).2.1 (hs.2 (9, 203, 20, 7) (List.mem_of_getElem? (i := 2) rfl)).2.2 (by decide) hn
theorem rS_203 (hs : RS u) (hn : n < 7) {f : PM → Option β} {v : Int32} : sI (pm m j u) 203 (nI n) v f = f (pm (u2 m 203 n v) j u) := e_sI (hs.2 (9, 203, 20, 7) (List.mem_of_getElem? (i := 2) rfl)).2.1 (hs.2 (9, 203, 20, 7) (List.mem_of_getElem? (i := 2) rfl)).2.2 (by decide) hn
theorem rR_10 (hs : RS u) {f : Nat → Option β} : gR (pm m j u) 200 13 10 f = f 204 := e_gR hs.1 (hs.2 (10, 204, 20, 7) (List.mem_of_getElem? (i := 3) rfl)).1 (by decide)
theorem rA_204 (hs : RS u) (hn : n < 7) {f : Int32 → Option β} : aI (pm m j u) 204 (nI n) f = f (m 204 n) := e_aI (hs.2 (10, 204, 20, 7) (List.mem_of_getElem? (i := 3) rfl)).2.1 (hs.2 (10, 204, 20, 7) (List.mem_of_getElem? (i := 3) rfl)).2.2 (by decide) hn
theorem rS_204 (hs : RS u) (hn : n < 7) {f : PM → Option β} {v : Int32} : sI (pm m j u) 204 (nI n) v f = f (pm (u2 m 204 n v) j u) := e_sI (hs.2 (10, 204, 20, 7) (List.mem_of_getElem? (i := 3) rfl)).2.1 (hs.2 (10, 204, 20, 7) (List.mem_of_getElem? (i := 3) rfl)).2.2 (by decide) hn
theorem rR_11 (hs : RS u) {f : Nat → Option β} : gR (pm m j u) 200 13 11 f = f 205 := e_gR hs.1 (hs.2 (11, 205, 20, 1512) (List.mem_of_getElem? (i := 4) rfl)).1 (by decide)
theorem rA_205 (hs : RS u) (hn : n < 1512) {f : Int32 → Option β} : aI (pm m j u) 205 (nI n) f = f (m 205 n) := e_aI (hs.2 (11, 205, 20, 1512) (List.mem_of_getElem? (i := 4) rfl)).2.1 (hs.2 (11, 205, 20, 1512) (List.mem_of_getElem? (i := 4) rfl)).2.2 (by decide) hn
theorem rS_205 (hs : RS u) (hn : n < 1512) {f : PM → Option β} {v : Int32} : sI (pm m j u) 205 (nI n) v f = f (pm (u2 m 205 n v) j u) := e_sI (hs.2 (11, 205, 20, 1512) (List.mem_of_getElem? (i := 4) rfl)).2.1 (hs.2 (11, 205, 20, 1512) (List.mem_of_getElem? (i := 4) rfl)).2.2 (by decide) hn
theorem rR_12 (hs : RS u) {f : Nat → Option β} : gR (pm m j u) 200 13 12 f = f 206 := e_gR hs.1 (hs.2 (12, 206, 20, 1512) (List.mem_of_getElem? (i := 5) rfl)).1 (by decide)
theorem rA_206 (hs : RS u) (hn : n < 1512) {f : Int32 → Option β} : aI (pm m j u) 206 (nI n) f = f (m 206 n) := e_aI (hs.2 (12, 206, 20, 1512) (List.mem_of_getElem? (i := 5) rfl)).2.1 (hs.2 (12, 206, 20, 1512) (List.mem_of_getElem? (i := 5) rfl)).2.2 (by decide) hn
theorem rS_206 (hs : RS u) (hn : n < 1512) {f : PM → Option β} {v : Int32} : sI (pm m j u) 206 (nI n) v f = f (pm (u2 m 206 n v) j u) := e_sI (hs.2 (12, 206, 20, 1512) (List.mem_of_getElem? (i := 5) rfl)).2.1 (hs.2 (12, 206, 20, 1512) (List.mem_of_getElem? (i := 5) rfl)).2.2 (by decide) hn
theorem rR_13 (hs : RS u) {f : Nat → Option β} : gR (pm m j u) 200 13 13 f = f 207 := e_gR hs.1 (hs.2 (13, 207, 20, 1512) (List.mem_of_getElem? (i := 6) rfl)).1 (by decide)
theorem rA_207 (hs : RS u) (hn : n < 1512) {f : Int32 → Option β} : aI (pm m j u) 207 (nI n) f = f (m 207 n) := e_aI (hs.2 (13, 207, 20, 1512) (List.mem_of_getElem? (i := 6) rfl)).2.1 (hs.2 (13, 207, 20, 1512) (List.mem_of_getElem? (i := 6) rfl)).2.2 (by decide) hn
theorem rS_207 (hs : RS u) (hn : n < 1512) {f : PM → Option β} {v : Int32} : sI (pm m j u) 207 (nI n) v f = f (pm (u2 m 207 n v) j u) := e_sI (hs.2 (13, 207, 20, 1512) (List.mem_of_getElem? (i := 6) rfl)).2.1 (hs.2 (13, 207, 20, 1512) (List.mem_of_getElem? (i := 6) rfl)).2.2 (by decide) hn
theorem rR_15 (hs : RS u) {f : Nat → Option β} : gR (pm m j u) 200 13 15 f = f 208 := e_gR hs.1 (hs.2 (15, 208, 20, 10) (List.mem_of_getElem? (i := 7) rfl)).1 (by decide)
theorem rA_208 (hs : RS u) (hn : n < 10) {f : Int32 → Option β} : aI (pm m j u) 208 (nI n) f = f (m 208 n) := e_aI (hs.2 (15, 208, 20, 10) (List.mem_of_getElem? (i := 7) rfl)).2.1 (hs.2 (15, 208, 20, 10) (List.mem_of_getElem? (i := 7) rfl)).2.2 (by decide) hn
theorem rS_208 (hs : RS u) (hn : n < 10) {f : PM → Option β} {v : Int32} : sI (pm m j u) 208 (nI n) v f = f (pm (u2 m 208 n v) j u) := e_sI (hs.2 (15, 208, 20, 10) (List.mem_of_getElem? (i := 7) rfl)).2.1 (hs.2 (15, 208, 20, 10) (List.mem_of_getElem? (i := 7) rfl)).2.2 (by decide) hn
theorem rR_16 (hs : RS u) {f : Nat → Option β} : gR (pm m j u) 200 13 16 f = f 209 := e_gR hs.1 (hs.2 (16, 209, 20, 10) (List.mem_of_getElem? (i := 8) rfl)).1 (by decide)
theorem rA_209 (hs : RS u) (hn : n < 10) {f : Int32 → Option β} : aI (pm m j u) 209 (nI n) f = f (m 209 n) := e_aI (hs.2 (16, 209, 20, 10) (List.mem_of_getElem? (i := 8) rfl)).2.1 (hs.2 (16, 209, 20, 10) (List.mem_of_getElem? (i := 8) rfl)).2.2 (by decide) hn
theorem rS_209 (hs : RS u) (hn : n < 10) {f : PM → Option β} {v : Int32} : sI (pm m j u) 209 (nI n) v f = f (pm (u2 m 209 n v) j u) := e_sI (hs.2 (16, 209, 20, 10) (List.mem_of_getElem? (i := 8) rfl)).2.1 (hs.2 (16, 209, 20, 10) (List.mem_of_getElem? (i := 8) rfl)).2.2 (by decide) hn
theorem rR_17 (hs : RS u) {f : Nat → Option β} : gR (pm m j u) 200 13 17 f = f 210 := e_gR hs.1 (hs.2 (17, 210, 20, 3) (List.mem_of_getElem? (i := 9) rfl)).1 (by decide)
theorem rA_210 (hs : RS u) (hn : n < 3) {f : Int32 → Option β} : aI (pm m j u) 210 (nI n) f = f (m 210 n) := e_aI (hs.2 (17, 210, 20, 3) (List.mem_of_getElem? (i := 9) rfl)).2.1 (hs.2 (17, 210, 20, 3) (List.mem_of_getElem? (i := 9) rfl)).2.2 (by decide) hn
theorem rS_210 (hs : RS u) (hn : n < 3) {f : PM → Option β} {v : Int32} : sI (pm m j u) 210 (nI n) v f = f (pm (u2 m 210 n v) j u) := e_sI (hs.2 (17, 210, 20, 3) (List.mem_of_getElem? (i := 9) rfl)).2.1 (hs.2 (17, 210, 20, 3) (List.mem_of_getElem? (i := 9) rfl)).2.2 (by decide) hn
theorem rR_18 (hs : RS u) {f : Nat → Option β} : gR (pm m j u) 200 13 18 f = f 211 := e_gR hs.1 (hs.2 (18, 211, 20, 3) (List.mem_of_getElem? (i := 10) rfl)).1 (by decide)
theorem rA_211 (hs : RS u) (hn : n < 3) {f : Int32 → Option β} : aI (pm m j u) 211 (nI n) f = f (m 211 n) := e_aI (hs.2 (18, 211, 20, 3) (List.mem_of_getElem? (i := 10) rfl)).2.1 (hs.2 (18, 211, 20, 3) (List.mem_of_getElem? (i := 10) rfl)).2.2 (by decide) hn
theorem rS_211 (hs : RS u) (hn : n < 3) {f : PM → Option β} {v : Int32} : sI (pm m j u) 211 (nI n) v f = f (pm (u2 m 211 n v) j u) := e_sI (hs.2 (18, 211, 20, 3) (List.mem_of_getElem? (i := 10) rfl)).2.1 (hs.2 (18, 211, 20, 3) (List.mem_of_getElem? (i := 10) rfl)).2.2 (by decide) hn
theorem rR_19 (hs : RS u) {f : Nat → Option β} : gR (pm m j u) 200 13 19 f = f 212 := e_gR hs.1 (hs.2 (19, 212, 20, 216) (List.mem_of_getElem? (i := 11) rfl)).1 (by decide)
theorem rA_212 (hs : RS u) (hn : n < 216) {f : Int32 → Option β} : aI (pm m j u) 212 (nI n) f = f (m 212 n) := e_aI (hs.2 (19, 212, 20, 216) (List.mem_of_getElem? (i := 11) rfl)).2.1 (hs.2 (19, 212, 20, 216) (List.mem_of_getElem? (i := 11) rfl)).2.2 (by decide) hn
theorem rS_212 (hs : RS u) (hn : n < 216) {f : PM → Option β} {v : Int32} : sI (pm m j u) 212 (nI n) v f = f (pm (u2 m 212 n v) j u) := e_sI (hs.2 (19, 212, 20, 216) (List.mem_of_getElem? (i := 11) rfl)).2.1 (hs.2 (19, 212, 20, 216) (List.mem_of_getElem? (i := 11) rfl)).2.2 (by decide) hn
theorem rR_20 (hs : RS u) {f : Nat → Option β} : gR (pm m j u) 200 13 20 f = f 213 := e_gR hs.1 (hs.2 (20, 213, 20, 3) (List.mem_of_getElem? (i := 12) rfl)).1 (by decide)
theorem rA_213 (hs : RS u) (hn : n < 3) {f : Int32 → Option β} : aI (pm m j u) 213 (nI n) f = f (m 213 n) := e_aI (hs.2 (20, 213, 20, 3) (List.mem_of_getElem? (i := 12) rfl)).2.1 (hs.2 (20, 213, 20, 3) (List.mem_of_getElem? (i := 12) rfl)).2.2 (by decide) hn
theorem rS_213 (hs : RS u) (hn : n < 3) {f : PM → Option β} {v : Int32} : sI (pm m j u) 213 (nI n) v f = f (pm (u2 m 213 n v) j u) := e_sI (hs.2 (20, 213, 20, 3) (List.mem_of_getElem? (i := 12) rfl)).2.1 (hs.2 (20, 213, 20, 3) (List.mem_of_getElem? (i := 12) rfl)).2.2 (by decide) hn
theorem rR_21 (hs : RS u) {f : Nat → Option β} : gR (pm m j u) 200 13 21 f = f 214 := e_gR hs.1 (hs.2 (21, 214, 20, 3) (List.mem_of_getElem? (i := 13) rfl)).1 (by decide)
theorem rA_214 (hs : RS u) (hn : n < 3) {f : Int32 → Option β} : aI (pm m j u) 214 (nI n) f = f (m 214 n) := e_aI (hs.2 (21, 214, 20, 3) (List.mem_of_getElem? (i := 13) rfl)).2.1 (hs.2 (21, 214, 20, 3) (List.mem_of_getElem? (i := 13) rfl)).2.2 (by decide) hn
theorem rS_214 (hs : RS u) (hn : n < 3) {f : PM → Option β} {v : Int32} : sI (pm m j u) 214 (nI n) v f = f (pm (u2 m 214 n v) j u) := e_sI (hs.2 (21, 214, 20, 3) (List.mem_of_getElem? (i := 13) rfl)).2.1 (hs.2 (21, 214, 20, 3) (List.mem_of_getElem? (i := 13) rfl)).2.2 (by decide) hn
theorem rR_25 (hs : RS u) {f : Nat → Option β} : gR (pm m j u) 200 13 25 f = f 215 := e_gR hs.1 (hs.2 (25, 215, 20, 8) (List.mem_of_getElem? (i := 14) rfl)).1 (by decide)
theorem rA_215 (hs : RS u) (hn : n < 8) {f : Int32 → Option β} : aI (pm m j u) 215 (nI n) f = f (m 215 n) := e_aI (hs.2 (25, 215, 20, 8) (List.mem_of_getElem? (i := 14) rfl)).2.1 (hs.2 (25, 215, 20, 8) (List.mem_of_getElem? (i := 14) rfl)).2.2 (by decide) hn
theorem rS_215 (hs : RS u) (hn : n < 8) {f : PM → Option β} {v : Int32} : sI (pm m j u) 215 (nI n) v f = f (pm (u2 m 215 n v) j u) := e_sI (hs.2 (25, 215, 20, 8) (List.mem_of_getElem? (i := 14) rfl)).2.1 (hs.2 (25, 215, 20, 8) (List.mem_of_getElem? (i := 14) rfl)).2.2 (by decide) hn
theorem rR_26 (hs : RS u) {f : Nat → Option β} : gR (pm m j u) 200 13 26 f = f 216 := e_gR hs.1 (hs.2 (26, 216, 20, 8) (List.mem_of_getElem? (i := 15) rfl)).1 (by decide)
theorem rA_216 (hs : RS u) (hn : n < 8) {f : Int32 → Option β} : aI (pm m j u) 216 (nI n) f = f (m 216 n) := e_aI (hs.2 (26, 216, 20, 8) (List.mem_of_getElem? (i := 15) rfl)).2.1 (hs.2 (26, 216, 20, 8) (List.mem_of_getElem? (i := 15) rfl)).2.2 (by decide) hn
theorem rS_216 (hs : RS u) (hn : n < 8) {f : PM → Option β} {v : Int32} : sI (pm m j u) 216 (nI n) v f = f (pm (u2 m 216 n v) j u) := e_sI (hs.2 (26, 216, 20, 8) (List.mem_of_getElem? (i := 15) rfl)).2.1 (hs.2 (26, 216, 20, 8) (List.mem_of_getElem? (i := 15) rfl)).2.2 (by decide) hn
theorem rR_27 (hs : RS u) {f : Nat → Option β} : gR (pm m j u) 200 13 27 f = f 217 := e_gR hs.1 (hs.2 (27, 217, 20, 16) (List.mem_of_getElem? (i := 16) rfl)).1 (by decide)
theorem rA_217 (hs : RS u) (hn : n < 16) {f : Int32 → Option β} : aI (pm m j u) 217 (nI n) f = f (m 217 n) := e_aI (hs.2 (27, 217, 20, 16) (List.mem_of_getElem? (i := 16) rfl)).2.1 (hs.2 (27, 217, 20, 16) (List.mem_of_getElem? (i := 16) rfl)).2.2 (by decide) hn
theorem rS_217 (hs : RS u) (hn : n < 16) {f : PM → Option β} {v : Int32} : sI (pm m j u) 217 (nI n) v f = f (pm (u2 m 217 n v) j u) := e_sI (hs.2 (27, 217, 20, 16) (List.mem_of_getElem? (i := 16) rfl)).2.1 (hs.2 (27, 217, 20, 16) (List.mem_of_getElem? (i := 16) rfl)).2.2 (by decide) hn
theorem rR_33 (hs : RS u) {f : Nat → Option β} : gR (pm m j u) 200 13 33 f = f 218 := e_gR hs.1 (hs.2 (33, 218, 20, 40) (List.mem_of_getElem? (i := 17) rfl)).1 (by decide)
theorem rA_218 (hs : RS u) (hn : n < 40) {f : Int32 → Option β} : aI (pm m j u) 218 (nI n) f = f (m 218 n) := e_aI (hs.2 (33, 218, 20, 40) (List.mem_of_getElem? (i := 17) rfl)).2.1 (hs.2 (33, 218, 20, 40) (List.mem_of_getElem? (i := 17) rfl)).2.2 (by decide) hn
theorem rS_218 (hs : RS u) (hn : n < 40) {f : PM → Option β} {v : Int32} : sI (pm m j u) 218 (nI n) v f = f (pm (u2 m 218 n v) j u) := e_sI (hs.2 (33, 218, 20, 40) (List.mem_of_getElem? (i := 17) rfl)).2.1 (hs.2 (33, 218, 20, 40) (List.mem_of_getElem? (i := 17) rfl)).2.2 (by decide) hn
theorem rR_34 (hs : RS u) {f : Nat → Option β} : gR (pm m j u) 200 13 34 f = f 219 := e_gR hs.1 (hs.2 (34, 219, 20, 40) (List.mem_of_getElem? (i := 18) rfl)).1 (by decide)
theorem rA_219 (hs : RS u) (hn : n < 40) {f : Int32 → Option β} : aI (pm m j u) 219 (nI n) f = f (m 219 n) := e_aI (hs.2 (34, 219, 20, 40) (List.mem_of_getElem? (i := 18) rfl)).2.1 (hs.2 (34, 219, 20, 40) (List.mem_of_getElem? (i := 18) rfl)).2.2 (by decide) hn
theorem rS_219 (hs : RS u) (hn : n < 40) {f : PM → Option β} {v : Int32} : sI (pm m j u) 219 (nI n) v f = f (pm (u2 m 219 n v) j u) := e_sI (hs.2 (34, 219, 20, 40) (List.mem_of_getElem? (i := 18) rfl)).2.1 (hs.2 (34, 219, 20, 40) (List.mem_of_getElem? (i := 18) rfl)).2.2 (by decide) hn
theorem rR_35 (hs : RS u) {f : Nat → Option β} : gR (pm m j u) 200 13 35 f = f 220 := e_gR hs.1 (hs.2 (35, 220, 20, 40) (List.mem_of_getElem? (i := 19) rfl)).1 (by decide)
theorem rA_220 (hs : RS u) (hn : n < 40) {f : Int32 → Option β} : aI (pm m j u) 220 (nI n) f = f (m 220 n) := e_aI (hs.2 (35, 220, 20, 40) (List.mem_of_getElem? (i := 19) rfl)).2.1 (hs.2 (35, 220, 20, 40) (List.mem_of_getElem? (i := 19) rfl)).2.2 (by decide) hn
theorem rS_220 (hs : RS u) (hn : n < 40) {f : PM → Option β} {v : Int32} : sI (pm m j u) 220 (nI n) v f = f (pm (u2 m 220 n v) j u) := e_sI (hs.2 (35, 220, 20, 40) (List.mem_of_getElem? (i := 19) rfl)).2.1 (hs.2 (35, 220, 20, 40) (List.mem_of_getElem? (i := 19) rfl)).2.2 (by decide) hn
theorem rR_36 (hs : RS u) {f : Nat → Option β} : gR (pm m j u) 200 13 36 f = f 221 := e_gR hs.1 (hs.2 (36, 221, 20, 40) (List.mem_of_getElem? (i := 20) rfl)).1 (by decide)
theorem rA_221 (hs : RS u) (hn : n < 40) {f : Int32 → Option β} : aI (pm m j u) 221 (nI n) f = f (m 221 n) := e_aI (hs.2 (36, 221, 20, 40) (List.mem_of_getElem? (i := 20) rfl)).2.1 (hs.2 (36, 221, 20, 40) (List.mem_of_getElem? (i := 20) rfl)).2.2 (by decide) hn
theorem rS_221 (hs : RS u) (hn : n < 40) {f : PM → Option β} {v : Int32} : sI (pm m j u) 221 (nI n) v f = f (pm (u2 m 221 n v) j u) := e_sI (hs.2 (36, 221, 20, 40) (List.mem_of_getElem? (i := 20) rfl)).2.1 (hs.2 (36, 221, 20, 40) (List.mem_of_getElem? (i := 20) rfl)).2.2 (by decide) hn
theorem rR_37 (hs : RS u) {f : Nat → Option β} : gR (pm m j u) 200 13 37 f = f 222 := e_gR hs.1 (hs.2 (37, 222, 20, 320) (List.mem_of_getElem? (i := 21) rfl)).1 (by decide)
theorem rA_222 (hs : RS u) (hn : n < 320) {f : Int32 → Option β} : aI (pm m j u) 222 (nI n) f = f (m 222 n) := e_aI (hs.2 (37, 222, 20, 320) (List.mem_of_getElem? (i := 21) rfl)).2.1 (hs.2 (37, 222, 20, 320) (List.mem_of_getElem? (i := 21) rfl)).2.2 (by decide) hn
theorem rS_222 (hs : RS u) (hn : n < 320) {f : PM → Option β} {v : Int32} : sI (pm m j u) 222 (nI n) v f = f (pm (u2 m 222 n v) j u) := e_sI (hs.2 (37, 222, 20, 320) (List.mem_of_getElem? (i := 21) rfl)).2.1 (hs.2 (37, 222, 20, 320) (List.mem_of_getElem? (i := 21) rfl)).2.2 (by decide) hn
theorem rR_38 (hs : RS u) {f : Nat → Option β} : gR (pm m j u) 200 13 38 f = f 223 := e_gR hs.1 (hs.2 (38, 223, 20, 320) (List.mem_of_getElem? (i := 22) rfl)).1 (by decide)
theorem rA_223 (hs : RS u) (hn : n < 320) {f : Int32 → Option β} : aI (pm m j u) 223 (nI n) f = f (m 223 n) := e_aI (hs.2 (38, 223, 20, 320) (List.mem_of_getElem? (i := 22) rfl)).2.1 (hs.2 (38, 223, 20, 320) (List.mem_of_getElem? (i := 22) rfl)).2.2 (by decide) hn
theorem rS_223 (hs : RS u) (hn : n < 320) {f : PM → Option β} {v : Int32} : sI (pm m j u) 223 (nI n) v f = f (pm (u2 m 223 n v) j u) := e_sI (hs.2 (38, 223, 20, 320) (List.mem_of_getElem? (i := 22) rfl)).2.1 (hs.2 (38, 223, 20, 320) (List.mem_of_getElem? (i := 22) rfl)).2.2 (by decide) hn
theorem rR_39 (hs : RS u) {f : Nat → Option β} : gR (pm m j u) 200 13 39 f = f 224 := e_gR hs.1 (hs.2 (39, 224, 20, 40) (List.mem_of_getElem? (i := 23) rfl)).1 (by decide)
theorem rA_224 (hs : RS u) (hn : n < 40) {f : Int32 → Option β} : aI (pm m j u) 224 (nI n) f = f (m 224 n) := e_aI (hs.2 (39, 224, 20, 40) (List.mem_of_getElem? (i := 23) rfl)).2.1 (hs.2 (39, 224, 20, 40) (List.mem_of_getElem? (i := 23) rfl)).2.2 (by decide) hn
theorem rS_224 (hs : RS u) (hn : n < 40) {f : PM → Option β} {v : Int32} : sI (pm m j u) 224 (nI n) v f = f (pm (u2 m 224 n v) j u) := e_sI (hs.2 (39, 224, 20, 40) (List.mem_of_getElem? (i := 23) rfl)).2.1 (hs.2 (39, 224, 20, 40) (List.mem_of_getElem? (i := 23) rfl)).2.2 (by decide) hn
theorem rR_40 (hs : RS u) {f : Nat → Option β} : gR (pm m j u) 200 13 40 f = f 225 := e_gR hs.1 (hs.2 (40, 225, 20, 40) (List.mem_of_getElem? (i := 24) rfl)).1 (by decide)
theorem rA_225 (hs : RS u) (hn : n < 40) {f : Int32 → Option β} : aI (pm m j u) 225 (nI n) f = f (m 225 n) := e_aI (hs.2 (40, 225, 20, 40) (List.mem_of_getElem? (i := 24) rfl)).2.1 (hs.2 (40, 225, 20, 40) (List.mem_of_getElem? (i := 24) rfl)).2.2 (by decide) hn
theorem rS_225 (hs : RS u) (hn : n < 40) {f : PM → Option β} {v : Int32} : sI (pm m j u) 225 (nI n) v f = f (pm (u2 m 225 n v) j u) := e_sI (hs.2 (40, 225, 20, 40) (List.mem_of_getElem? (i := 24) rfl)).2.1 (hs.2 (40, 225, 20, 40) (List.mem_of_getElem? (i := 24) rfl)).2.2 (by decide) hn
theorem rR_41 (hs : RS u) {f : Nat → Option β} : gR (pm m j u) 200 13 41 f = f 226 := e_gR hs.1 (hs.2 (41, 226, 20, 40) (List.mem_of_getElem? (i := 25) rfl)).1 (by decide)
theorem rA_226 (hs : RS u) (hn : n < 40) {f : Int32 → Option β} : aI (pm m j u) 226 (nI n) f = f (m 226 n) := e_aI (hs.2 (41, 226, 20, 40) (List.mem_of_getElem? (i := 25) rfl)).2.1 (hs.2 (41, 226, 20, 40) (List.mem_of_getElem? (i := 25) rfl)).2.2 (by decide) hn
theorem rS_226 (hs : RS u) (hn : n < 40) {f : PM → Option β} {v : Int32} : sI (pm m j u) 226 (nI n) v f = f (pm (u2 m 226 n v) j u) := e_sI (hs.2 (41, 226, 20, 40) (List.mem_of_getElem? (i := 25) rfl)).2.1 (hs.2 (41, 226, 20, 40) (List.mem_of_getElem? (i := 25) rfl)).2.2 (by decide) hn
theorem rR_42 (hs : RS u) {f : Nat → Option β} : gR (pm m j u) 200 13 42 f = f 227 := e_gR hs.1 (hs.2 (42, 227, 22, 40) (List.mem_of_getElem? (i := 26) rfl)).1 (by decide)
theorem rA_227 (hs : RS u) (hn : n < 40) {f : Int32 → Option β} : aZ (pm m j u) 227 (nI n) f = f (m 227 n) := e_aZ (hs.2 (42, 227, 22, 40) (List.mem_of_getElem? (i := 26) rfl)).2.1 (hs.2 (42, 227, 22, 40) (List.mem_of_getElem? (i := 26) rfl)).2.2 (by decide) hn
theorem rS_227 (hs : RS u) (hn : n < 40) {f : PM → Option β} {v : Int32} (hv : v = 0 ∨ v = 1) : sZ (pm m j u) 227 (nI n) v f = f (pm (u2 m 227 n v) j u) := e_sZ (hs.2 (42, 227, 22, 40) (List.mem_of_getElem? (i := 26) rfl)).2.1 (hs.2 (42, 227, 22, 40) (List.mem_of_getElem? (i := 26) rfl)).2.2 (by decide) hn hv
theorem rR_43 (hs : RS u) {f : Nat → Option β} : gR (pm m j u) 200 13 43 f = f 228 := e_gR hs.1 (hs.2 (43, 228, 20, 2048) (List.mem_of_getElem? (i := 27) rfl)).1 (by decide)
theorem rA_228 (hs : RS u) (hn : n < 2048) {f : Int32 → Option β} : aI (pm m j u) 228 (nI n) f = f (m 228 n) := e_aI (hs.2 (43, 228, 20, 2048) (List.mem_of_getElem? (i := 27) rfl)).2.1 (hs.2 (43, 228, 20, 2048) (List.mem_of_getElem? (i := 27) rfl)).2.2 (by decide) hn
theorem rS_228 (hs : RS u) (hn : n < 2048) {f : PM → Option β} {v : Int32} : sI (pm m j u) 228 (nI n) v f = f (pm (u2 m 228 n v) j u) := e_sI (hs.2 (43, 228, 20, 2048) (List.mem_of_getElem? (i := 27) rfl)).2.1 (hs.2 (43, 228, 20, 2048) (List.mem_of_getElem? (i := 27) rfl)).2.2 (by decide) hn
theorem rR_44 (hs : RS u) {f : Nat → Option β} : gR (pm m j u) 200 13 44 f = f 229 := e_gR hs.1 (hs.2 (44, 229, 20, 8) (List.mem_of_getElem? (i := 28) rfl)).1 (by decide)
theorem rA_229 (hs : RS u) (hn : n < 8) {f : Int32 → Option β} : aI (pm m j u) 229 (nI n) f = f (m 229 n) := e_aI (hs.2 (44, 229, 20, 8) (List.mem_of_getElem? (i := 28) rfl)).2.1 (hs.2 (44, 229, 20, 8) (List.mem_of_getElem? (i := 28) rfl)).2.2 (by decide) hn
theorem rS_229 (hs : RS u) (hn : n < 8) {f : PM → Option β} {v : Int32} : sI (pm m j u) 229 (nI n) v f = f (pm (u2 m 229 n v) j u) := e_sI (hs.2 (44, 229, 20, 8) (List.mem_of_getElem? (i := 28) rfl)).2.1 (hs.2 (44, 229, 20, 8) (List.mem_of_getElem? (i := 28) rfl)).2.2 (by decide) hn
theorem rR_48 (hs : RS u) {f : Nat → Option β} : gR (pm m j u) 200 13 48 f = f 230 := e_gR hs.1 (hs.2 (48, 230, 20, 10) (List.mem_of_getElem? (i := 29) rfl)).1 (by decide)
theorem rA_230 (hs : RS u) (hn : n < 10) {f : Int32 → Option β} : aI (pm m j u) 230 (nI n) f = f (m 230 n) := e_aI (hs.2 (48, 230, 20, 10) (List.mem_of_getElem? (i := 29) rfl)).2.1 (hs.2 (48, 230, 20, 10) (List.mem_of_getElem? (i := 29) rfl)).2.2 (by decide) hn
theorem rS_230 (hs : RS u) (hn : n < 10) {f : PM → Option β} {v : Int32} : sI (pm m j u) 230 (nI n) v f = f (pm (u2 m 230 n v) j u) := e_sI (hs.2 (48, 230, 20, 10) (List.mem_of_getElem? (i := 29) rfl)).2.1 (hs.2 (48, 230, 20, 10) (List.mem_of_getElem? (i := 29) rfl)).2.2 (by decide) hn
theorem rR_49 (hs : RS u) {f : Nat → Option β} : gR (pm m j u) 200 13 49 f = f 231 := e_gR hs.1 (hs.2 (49, 231, 20, 10) (List.mem_of_getElem? (i := 30) rfl)).1 (by decide)
theorem rA_231 (hs : RS u) (hn : n < 10) {f : Int32 → Option β} : aI (pm m j u) 231 (nI n) f = f (m 231 n) := e_aI (hs.2 (49, 231, 20, 10) (List.mem_of_getElem? (i := 30) rfl)).2.1 (hs.2 (49, 231, 20, 10) (List.mem_of_getElem? (i := 30) rfl)).2.2 (by decide) hn
theorem rS_231 (hs : RS u) (hn : n < 10) {f : PM → Option β} {v : Int32} : sI (pm m j u) 231 (nI n) v f = f (pm (u2 m 231 n v) j u) := e_sI (hs.2 (49, 231, 20, 10) (List.mem_of_getElem? (i := 30) rfl)).2.1 (hs.2 (49, 231, 20, 10) (List.mem_of_getElem? (i := 30) rfl)).2.2 (by decide) hn
theorem rR_50 (hs : RS u) {f : Nat → Option β} : gR (pm m j u) 200 13 50 f = f 232 := e_gR hs.1 (hs.2 (50, 232, 20, 10) (List.mem_of_getElem? (i := 31) rfl)).1 (by decide)
theorem rA_232 (hs : RS u) (hn : n < 10) {f : Int32 → Option β} : aI (pm m j u) 232 (nI n) f = f (m 232 n) := e_aI (hs.2 (50, 232, 20, 10) (List.mem_of_getElem? (i := 31) rfl)).2.1 (hs.2 (50, 232, 20, 10) (List.mem_of_getElem? (i := 31) rfl)).2.2 (by decide) hn
theorem rS_232 (hs : RS u) (hn : n < 10) {f : PM → Option β} {v : Int32} : sI (pm m j u) 232 (nI n) v f = f (pm (u2 m 232 n v) j u) := e_sI (hs.2 (50, 232, 20, 10) (List.mem_of_getElem? (i := 31) rfl)).2.1 (hs.2 (50, 232, 20, 10) (List.mem_of_getElem? (i := 31) rfl)).2.2 (by decide) hn
theorem rR_53 (hs : RS u) {f : Nat → Option β} : gR (pm m j u) 200 13 53 f = f 233 := e_gR hs.1 (hs.2 (53, 233, 20, 24) (List.mem_of_getElem? (i := 32) rfl)).1 (by decide)
theorem rA_233 (hs : RS u) (hn : n < 24) {f : Int32 → Option β} : aI (pm m j u) 233 (nI n) f = f (m 233 n) := e_aI (hs.2 (53, 233, 20, 24) (List.mem_of_getElem? (i := 32) rfl)).2.1 (hs.2 (53, 233, 20, 24) (List.mem_of_getElem? (i := 32) rfl)).2.2 (by decide) hn
theorem rS_233 (hs : RS u) (hn : n < 24) {f : PM → Option β} {v : Int32} : sI (pm m j u) 233 (nI n) v f = f (pm (u2 m 233 n v) j u) := e_sI (hs.2 (53, 233, 20, 24) (List.mem_of_getElem? (i := 32) rfl)).2.1 (hs.2 (53, 233, 20, 24) (List.mem_of_getElem? (i := 32) rfl)).2.2 (by decide) hn
theorem rR_54 (hs : RS u) {f : Nat → Option β} : gR (pm m j u) 200 13 54 f = f 234 := e_gR hs.1 (hs.2 (54, 234, 20, 4) (List.mem_of_getElem? (i := 33) rfl)).1 (by decide)
theorem rA_234 (hs : RS u) (hn : n < 4) {f : Int32 → Option β} : aI (pm m j u) 234 (nI n) f = f (m 234 n) := e_aI (hs.2 (54, 234, 20, 4) (List.mem_of_getElem? (i := 33) rfl)).2.1 (hs.2 (54, 234, 20, 4) (List.mem_of_getElem? (i := 33) rfl)).2.2 (by decide) hn
theorem rS_234 (hs : RS u) (hn : n < 4) {f : PM → Option β} {v : Int32} : sI (pm m j u) 234 (nI n) v f = f (pm (u2 m 234 n v) j u) := e_sI (hs.2 (54, 234, 20, 4) (List.mem_of_getElem? (i := 33) rfl)).2.1 (hs.2 (54, 234, 20, 4) (List.mem_of_getElem? (i := 33) rfl)).2.2 (by decide) hn
theorem rR_55 (hs : RS u) {f : Nat → Option β} : gR (pm m j u) 200 13 55 f = f 235 := e_gR hs.1 (hs.2 (55, 235, 20, 6) (List.mem_of_getElem? (i := 34) rfl)).1 (by decide)
theorem rA_235 (hs : RS u) (hn : n < 6) {f : Int32 → Option β} : aI (pm m j u) 235 (nI n) f = f (m 235 n) := e_aI (hs.2 (55, 235, 20, 6) (List.mem_of_getElem? (i := 34) rfl)).2.1 (hs.2 (55, 235, 20, 6) (List.mem_of_getElem? (i := 34) rfl)).2.2 (by decide) hn
theorem rS_235 (hs : RS u) (hn : n < 6) {f : PM → Option β} {v : Int32} : sI (pm m j u) 235 (nI n) v f = f (pm (u2 m 235 n v) j u) := e_sI (hs.2 (55, 235, 20, 6) (List.mem_of_getElem? (i := 34) rfl)).2.1 (hs.2 (55, 235, 20, 6) (List.mem_of_getElem? (i := 34) rfl)).2.2 (by decide) hn
theorem rR_56 (hs : RS u) {f : Nat → Option β} : gR (pm m j u) 200 13 56 f = f 236 := e_gR hs.1 (hs.2 (56, 236, 20, 6) (List.mem_of_getElem? (i := 35) rfl)).1 (by decide)
theorem rA_236 (hs : RS u) (hn : n < 6) {f : Int32 → Option β} : aI (pm m j u) 236 (nI n) f = f (m 236 n) := e_aI (hs.2 (56, 236, 20, 6) (List.mem_of_getElem? (i := 35) rfl)).2.1 (hs.2 (56, 236, 20, 6) (List.mem_of_getElem? (i := 35) rfl)).2.2 (by decide) hn
theorem rS_236 (hs : RS u) (hn : n < 6) {f : PM → Option β} {v : Int32} : sI (pm m j u) 236 (nI n) v f = f (pm (u2 m 236 n v) j u) := e_sI (hs.2 (56, 236, 20, 6) (List.mem_of_getElem? (i := 35) rfl)).2.1 (hs.2 (56, 236, 20, 6) (List.mem_of_getElem? (i := 35) rfl)).2.2 (by decide) hn
theorem rR_57 (hs : RS u) {f : Nat → Option β} : gR (pm m j u) 200 13 57 f = f 237 := e_gR hs.1 (hs.2 (57, 237, 20, 4) (List.mem_of_getElem? (i := 36) rfl)).1 (by decide)
theorem rA_237 (hs : RS u) (hn : n < 4) {f : Int32 → Option β} : aI (pm m j u) 237 (nI n) f = f (m 237 n) := e_aI (hs.2 (57, 237, 20, 4) (List.mem_of_getElem? (i := 36) rfl)).2.1 (hs.2 (57, 237, 20, 4) (List.mem_of_getElem? (i := 36) rfl)).2.2 (by decide) hn
theorem rS_237 (hs : RS u) (hn : n < 4) {f : PM → Option β} {v : Int32} : sI (pm m j u) 237 (nI n) v f = f (pm (u2 m 237 n v) j u) := e_sI (hs.2 (57, 237, 20, 4) (List.mem_of_getElem? (i := 36) rfl)).2.1 (hs.2 (57, 237, 20, 4) (List.mem_of_getElem? (i := 36) rfl)).2.2 (by decide) hn
end RSR
