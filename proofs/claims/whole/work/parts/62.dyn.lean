/-! ===== the class: stones, roughs, models, lists ===== -/
def StO (u : SU) (a : Nat) : Prop := a ≠ 0 ∧ u.2.1 a = 10 ∧ (u.1 a 8 = a + 1 ∧ u.1 a 9 = a + 2 ∧ u.1 a 12 = a + 3) ∧ (u.2.1 (a + 1) = 20 ∧ u.2.2 (a + 1) = 8) ∧ (u.2.1 (a + 2) = 20 ∧ u.2.2 (a + 2) = 8) ∧ u.2.1 (a + 3) = 20 ∧ u.2.2 (a + 3) = 8
def RoO (u : SU) (a : Nat) : Prop := a ≠ 0 ∧ u.2.1 a = 8 ∧ (u.1 a 0 = a + 1 ∧ u.1 a 6 = a + 2 ∧ u.1 a 7 = a + 3) ∧ (u.2.1 (a + 1) = 21 ∧ u.2.2 (a + 1) = 6) ∧ u.2.1 (a + 2) = 3 ∧ u.2.1 (a + 3) = 3
def MoO (u : SU) (a : Nat) : Prop := a ≠ 0 ∧ u.2.1 a = 5 ∧ (u.1 a 0 = a + 1 ∧ u.1 a 1 = a + 2 ∧ u.1 a 2 = a + 3) ∧ (u.2.1 (a + 1) = 20 ∧ u.2.2 (a + 1) = 3) ∧ (u.2.1 (a + 2) = 20 ∧ u.2.2 (a + 2) = 3) ∧ (u.2.1 (a + 3) = 26 ∧ u.2.2 (a + 3) = 36) ∧ ∀ i, i < 36 → u.1 (a + 3) i = a + 4 + i ∧ u.2.1 (a + 4 + i) = 21 ∧ u.2.2 (a + 4 + i) = 6
section DYN
variable {β : Type} {m : IM} {j : JM} {u : SU} {a k n : Nat}
theorem sG (h : StO u a) {f : Int32 → Option β} : gI (pm m j u) a 9 k f = f (m a k) := e_gI h.2.1
theorem sP (h : StO u a) {f : PM → Option β} {v : Int32} : pI (pm m j u) a 9 k v f = f (pm (u2 m a k v) j u) := e_pI h.2.1
theorem n01 {n : Nat} (hn : n ≤ 1) : nI n = 0 ∨ nI n = 1 := by
  rcases (show n = 0 ∨ n = 1 by omega) with rfl | rfl
  · exact Or.inl rfl
  · exact Or.inr rfl
theorem sZ_ (h : StO u a) (hn : n ≤ 1) {f : PM → Option β} : pZ (pm m j u) a 9 k (nI n) f = f (pm (u2 m a k (nI n)) j u) := e_pZ h.2.1 (n01 hn)
theorem sT (h : StO u a) {f : Option β} : tst (pm m j u) a 9 f = f := e_tst h.2.1
theorem sR8 (h : StO u a) {f : Nat → Option β} : gR (pm m j u) a 9 8 f = f (a + 1) := e_gR h.2.1 h.2.2.1.1 (by omega)
theorem sR9 (h : StO u a) {f : Nat → Option β} : gR (pm m j u) a 9 9 f = f (a + 2) := e_gR h.2.1 h.2.2.1.2.1 (by omega)
theorem sR12 (h : StO u a) {f : Nat → Option β} : gR (pm m j u) a 9 12 f = f (a + 3) := e_gR h.2.1 h.2.2.1.2.2 (by omega)
theorem sA1 (h : StO u a) (hn : n < 8) {f : Int32 → Option β} : aI (pm m j u) (a + 1) (nI n) f = f (m (a + 1) n) := e_aI h.2.2.2.1.1 h.2.2.2.1.2 (by decide) hn
theorem sS1 (h : StO u a) (hn : n < 8) {f : PM → Option β} {v : Int32} : sI (pm m j u) (a + 1) (nI n) v f = f (pm (u2 m (a + 1) n v) j u) := e_sI h.2.2.2.1.1 h.2.2.2.1.2 (by decide) hn
theorem sA2 (h : StO u a) (hn : n < 8) {f : Int32 → Option β} : aI (pm m j u) (a + 2) (nI n) f = f (m (a + 2) n) := e_aI h.2.2.2.2.1.1 h.2.2.2.2.1.2 (by decide) hn
theorem sS2 (h : StO u a) (hn : n < 8) {f : PM → Option β} {v : Int32} : sI (pm m j u) (a + 2) (nI n) v f = f (pm (u2 m (a + 2) n v) j u) := e_sI h.2.2.2.2.1.1 h.2.2.2.2.1.2 (by decide) hn
theorem sA3 (h : StO u a) (hn : n < 8) {f : Int32 → Option β} : aI (pm m j u) (a + 3) (nI n) f = f (m (a + 3) n) := e_aI h.2.2.2.2.2.1 h.2.2.2.2.2.2 (by decide) hn
theorem sS3 (h : StO u a) (hn : n < 8) {f : PM → Option β} {v : Int32} : sI (pm m j u) (a + 3) (nI n) v f = f (pm (u2 m (a + 3) n v) j u) := e_sI h.2.2.2.2.2.1 h.2.2.2.2.2.2 (by decide) hn
theorem oG (h : RoO u a) {f : Int32 → Option β} : gI (pm m j u) a 7 k f = f (m a k) := e_gI h.2.1
theorem oP (h : RoO u a) {f : PM → Option β} {v : Int32} : pI (pm m j u) a 7 k v f = f (pm (u2 m a k v) j u) := e_pI h.2.1
theorem oZ (h : RoO u a) (hn : n ≤ 1) {f : PM → Option β} : pZ (pm m j u) a 7 k (nI n) f = f (pm (u2 m a k (nI n)) j u) := e_pZ h.2.1 (n01 hn)
theorem oT (h : RoO u a) {f : Option β} : tst (pm m j u) a 7 f = f := e_tst h.2.1
theorem oR0 (h : RoO u a) {f : Nat → Option β} : gR (pm m j u) a 7 0 f = f (a + 1) := e_gR h.2.1 h.2.2.1.1 (by omega)
theorem oR6 (h : RoO u a) {f : Nat → Option β} : gR (pm m j u) a 7 6 f = f (a + 2) := e_gR h.2.1 h.2.2.1.2.1 (by omega)
theorem oR7 (h : RoO u a) {f : Nat → Option β} : gR (pm m j u) a 7 7 f = f (a + 3) := e_gR h.2.1 h.2.2.1.2.2 (by omega)
theorem oA (h : RoO u a) (hn : n < 6) {f : Int64 → Option β} : aJ (pm m j u) (a + 1) (nI n) f = f (j (a + 1) n) := e_aJ h.2.2.2.1.1 h.2.2.2.1.2 (by decide) hn
theorem oS (h : RoO u a) (hn : n < 6) {f : PM → Option β} {v : Int64} : sJ (pm m j u) (a + 1) (nI n) v f = f (pm m (u2 j (a + 1) n v) u) := e_sJ h.2.2.2.1.1 h.2.2.2.1.2 (by decide) hn
theorem oG2 (h : RoO u a) {f : Int32 → Option β} : gI (pm m j u) (a + 2) 2 k f = f (m (a + 2) k) := e_gI h.2.2.2.2.1
theorem oP2 (h : RoO u a) {f : PM → Option β} {v : Int32} : pI (pm m j u) (a + 2) 2 k v f = f (pm (u2 m (a + 2) k v) j u) := e_pI h.2.2.2.2.1
theorem oT2 (h : RoO u a) {f : Option β} : tst (pm m j u) (a + 2) 2 f = f := e_tst h.2.2.2.2.1
theorem oG3 (h : RoO u a) {f : Int32 → Option β} : gI (pm m j u) (a + 3) 2 k f = f (m (a + 3) k) := e_gI h.2.2.2.2.2
theorem oP3 (h : RoO u a) {f : PM → Option β} {v : Int32} : pI (pm m j u) (a + 3) 2 k v f = f (pm (u2 m (a + 3) k v) j u) := e_pI h.2.2.2.2.2
theorem oT3 (h : RoO u a) {f : Option β} : tst (pm m j u) (a + 3) 2 f = f := e_tst h.2.2.2.2.2
theorem mG (h : MoO u a) {f : Int32 → Option β} : gI (pm m j u) a 4 k f = f (m a k) := e_gI h.2.1
theorem mP (h : MoO u a) {f : PM → Option β} {v : Int32} : pI (pm m j u) a 4 k v f = f (pm (u2 m a k v) j u) := e_pI h.2.1
theorem mT_ (h : MoO u a) {f : Option β} : tst (pm m j u) a 4 f = f := e_tst h.2.1
theorem mR0 (h : MoO u a) {f : Nat → Option β} : gR (pm m j u) a 4 0 f = f (a + 1) := e_gR h.2.1 h.2.2.1.1 (by omega)
theorem mR1 (h : MoO u a) {f : Nat → Option β} : gR (pm m j u) a 4 1 f = f (a + 2) := e_gR h.2.1 h.2.2.1.2.1 (by omega)
theorem mR2 (h : MoO u a) {f : Nat → Option β} : gR (pm m j u) a 4 2 f = f (a + 3) := e_gR h.2.1 h.2.2.1.2.2 (by omega)
theorem mA1 (h : MoO u a) (hn : n < 3) {f : Int32 → Option β} : aI (pm m j u) (a + 1) (nI n) f = f (m (a + 1) n) := e_aI h.2.2.2.1.1 h.2.2.2.1.2 (by decide) hn
theorem mS1 (h : MoO u a) (hn : n < 3) {f : PM → Option β} {v : Int32} : sI (pm m j u) (a + 1) (nI n) v f = f (pm (u2 m (a + 1) n v) j u) := e_sI h.2.2.2.1.1 h.2.2.2.1.2 (by decide) hn
theorem mA2 (h : MoO u a) (hn : n < 3) {f : Int32 → Option β} : aI (pm m j u) (a + 2) (nI n) f = f (m (a + 2) n) := e_aI h.2.2.2.2.1.1 h.2.2.2.2.1.2 (by decide) hn
theorem mS2 (h : MoO u a) (hn : n < 3) {f : PM → Option β} {v : Int32} : sI (pm m j u) (a + 2) (nI n) v f = f (pm (u2 m (a + 2) n v) j u) := e_sI h.2.2.2.2.1.1 h.2.2.2.2.1.2 (by decide) hn
theorem mA3 (h : MoO u a) (hn : n < 36) {f : Nat → Option β} : aR (pm m j u) (a + 3) (nI n) f = f (a + 4 + n) := e_aR (Or.inr (Or.inr h.2.2.2.2.2.1.1)) h.2.2.2.2.2.1.2 (by decide) hn (h.2.2.2.2.2.2 n hn).1 (by omega)
theorem mA4 (h : MoO u a) {i : Nat} (hi : i < 36) (hn : n < 6) {f : Int64 → Option β} : aJ (pm m j u) (a + 4 + i) (nI n) f = f (j (a + 4 + i) n) := e_aJ (h.2.2.2.2.2.2 i hi).2.1 (h.2.2.2.2.2.2 i hi).2.2 (by decide) hn
theorem mS4 (h : MoO u a) {i : Nat} (hi : i < 36) (hn : n < 6) {f : PM → Option β} {v : Int64} : sJ (pm m j u) (a + 4 + i) (nI n) v f = f (pm m (u2 j (a + 4 + i) n v) u) := e_sJ (h.2.2.2.2.2.2 i hi).2.1 (h.2.2.2.2.2.2 i hi).2.2 (by decide) hn
end DYN
/-- how large a list's array is, by how often it grew -/
def capf (E : Nat) : Nat := if E = 0 then 0 else if E = 1 then 10 else if E = 2 then 15 else if E = 3 then 22 else if E = 4 then 33 else 49
def LiS (u : SU) (L n : Nat) (nm : Nat → Nat) : Prop := u.2.1 L = 1 ∧ ∃ E : Nat, u.1 L 1 = (if E = 0 then 2 else L + E) ∧ E ≤ 5 ∧ (∀ a, L + E < a → a < L + 10 → u.2.1 a = 0) ∧ (E = 0 → n = 0) ∧ n ≤ capf E ∧ (0 < E → u.2.1 (L + E) = 25 ∧ u.2.2 (L + E) = capf E) ∧ ∀ k, k < n → u.1 (L + E) k = nm k ∧ nm k ≠ 0 ∧ (u.2.1 (nm k) = 5 ∨ u.2.1 (nm k) = 8 ∨ u.2.1 (nm k) = 10)
section LST
variable {β : Type} {m : IM} {j : JM} {u : SU} {L n k : Nat} {nm : Nat → Nat}
theorem C_size (h : LiS u L n nm) (hm : m L 2 = nI n) : F_Jx4a65c_size_8abf5 L (pm m j u) = some (nI n, pm m j u) := by
  unfold F_Jx4a65c_size_8abf5
  rw [e_gI h.1, hm]
theorem capf_lt (E : Nat) : capf E < 100 := by
  unfold capf
  split <;> first | omega | (split <;> first | omega | (split <;> first | omega | (split <;> first | omega | (split <;> omega))))
theorem C_get (h : LiS u L n nm) (hm : m L 2 = nI n) (hk : k < n) : F_Jx4a65c_get_915e3 L (nI k) (pm m j u) = some (nm k, pm m j u) := by
  obtain ⟨h1, E, h2, h3, h4, h5, h6, h7, h8⟩ := h
  have hc := capf_lt E
  have hE : E ≠ 0 := fun z => by have := h5 z; omega
  obtain ⟨q1, q2⟩ := h7 (by omega)
  rw [if_neg hE] at h2
  obtain ⟨g1, g2, g3⟩ := h8 k hk
  unfold F_Jx4a65c_get_915e3 F_J15_checkIndex_7cf53 F_J3_checkIndex_8e157 F_Jx4a65c_elementData_915e3
  rw [e_gI h1, hm]
  simp (disch := omega) only [e_cl, e_jn, e_lt, e_cxl, e_cxr, e_rzn, ↓l_m1, ↓l_m2, ↓l_m8, l_0, l_1, l_2, l_3, l_4, l_5, l_6, l_7, l_8, l_9, l_10, l_12, l_16, l_20, l_24, l_31, l_32, l_35, l_36, l_40, l_44, l_48, l_59, l_63, l_64, l_90, l_95, l_96, l_100, l_120, l_127, l_200, l_216, l_255, l_999, l_1000, l_10000, l_1000000, l_1048575, l_1000000000, nI_add, pk_mul, pk_sub, nI_leI, nI_ltI, nI_eq, nI_dec, nI_o0, mx_n, mn_n, ab_1, ab_n, e_u2e, e_u2k, e_u2a, if_pos, if_neg, if_true, if_false, not_true, not_false_eq_true, ne_eq, Nat.add_zero, Nat.zero_add]
  rw [e_tst h1, e_gR h1 h2 (by omega), e_aR (Or.inr (Or.inl q1)) q2 (by omega) (by omega) g1 g2]
  rfl
end LST
