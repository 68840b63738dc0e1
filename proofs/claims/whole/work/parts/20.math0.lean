/-! Numbers and the log -/
theorem w32_s {i : Nat} (h : i < 1000000) : w32 ((i : Int) + 1) = ((i + 1 : Nat) : Int) := by unfold w32; omega
theorem xor_nn {a b : Int} (ha : 0 ≤ a ∧ a ≤ 2147483647) (hb : 0 ≤ b ∧ b ≤ 2147483647) : 0 ≤ xorI a b := by
  have h1 : (Int32.ofInt a).toBitVec.msb = false := by
    rw [BitVec.msb_eq_toInt]
    have := i_toInt (x := a) ⟨by omega, by omega⟩
    have h2 : (Int32.ofInt a).toBitVec.toInt = a := this
    rw [h2]
    simp
    omega
  have h2 : (Int32.ofInt b).toBitVec.msb = false := by
    rw [BitVec.msb_eq_toInt]
    have := i_toInt (x := b) ⟨by omega, by omega⟩
    have h2 : (Int32.ofInt b).toBitVec.toInt = b := this
    rw [h2]
    simp
    omega
  have h3 : (Int32.ofInt a ^^^ Int32.ofInt b).toBitVec.msb = false := by
    rw [Int32.toBitVec_xor, BitVec.msb_xor, h1, h2]
    rfl
  rw [BitVec.msb_eq_toInt] at h3
  have h4 : (Int32.ofInt a ^^^ Int32.ofInt b).toBitVec.toInt = xorI a b := rfl
  rw [h4] at h3
  simp at h3
  exact h3
theorem tmod_nn {a : Int} (h : 0 ≤ a) : Int.tmod a 150 = a % 150 := Int.tmod_eq_emod_of_nonneg h
def lgp (e : Int) : Nat := (e % 150 * 4).toNat
def lgX (k t c s : Int) (S : St) : St := stU (stU (stU (stU (stU (stU S 11 (lgp (S 10 2)) k) 11 (lgp (S 10 2) + 1) t) 11 (lgp (S 10 2) + 2) c) 11 (lgp (S 10 2) + 3) s) 12 k.toNat (w32 (S 12 k.toNat + 1))) 10 2 (S 10 2 + 1)
def lgM (k c s : Int) (T : St) : St := stU (stU (stU (stU (stU T 21 (lgp (T 0 24)) k) 21 (lgp (T 0 24) + 1) (T 0 4)) 21 (lgp (T 0 24) + 2) c) 21 (lgp (T 0 24) + 3) s) 0 24 (T 0 24 + 1)
theorem X_fm {a : Int} {S : St} (h : 0 ≤ a ∧ a ≤ 2147483000) : dn_J9_floorMod_7cf53 a 150 S = some (S, a % 150) := by
  unfold dn_J9_floorMod_7cf53
  rw [if_pos (by decide)]
  simp only [nmV]
  rw [if_pos (xor_nn ⟨h.1, by omega⟩ (by decide)), tmod_nn h.1, w32_id ⟨by omega, by omega⟩]
theorem X_add {k t c s : Int} {S : St} (h : 0 ≤ S 10 2 ∧ S 10 2 ≤ 2147483000) (hk : 0 ≤ k ∧ k < 9) : dn_X4_add k t c s S = some (lgX k t c s S, 0) := by
  unfold dn_X4_add
  rw [X_fm h]
  have e0 : w32 (S 10 2 % 150 * 4) = S 10 2 % 150 * 4 := w32_id ⟨by omega, by omega⟩
  have e1 : w32 (S 10 2 % 150 * 4 + 1) = S 10 2 % 150 * 4 + 1 := w32_id ⟨by omega, by omega⟩
  have e2 : w32 (S 10 2 % 150 * 4 + 2) = S 10 2 % 150 * 4 + 2 := w32_id ⟨by omega, by omega⟩
  have e3 : w32 (S 10 2 % 150 * 4 + 3) = S 10 2 % 150 * 4 + 3 := w32_id ⟨by omega, by omega⟩
  have e4 : w32 (S 10 2 + 1) = S 10 2 + 1 := w32_id ⟨by omega, by omega⟩
  simp only [cal, Option.bind, nmV, nmS, e0, e1, e2, e3]
  rw [if_pos (by omega), if_pos (by omega), if_pos (by omega), if_pos (by omega), if_pos hk]
  have t1 : (S 10 2 % 150 * 4 + 1).toNat = lgp (S 10 2) + 1 := by unfold lgp; omega
  have t2 : (S 10 2 % 150 * 4 + 2).toNat = lgp (S 10 2) + 2 := by unfold lgp; omega
  have t3 : (S 10 2 % 150 * 4 + 3).toNat = lgp (S 10 2) + 3 := by unfold lgp; omega
  rw [t1, t2, t3]
  simp [lgX, lgp, stU, e4]
theorem M_say {k c s : Int} {T : St} (h : 0 ≤ T 0 24 ∧ T 0 24 ≤ 2147483000) : dn_X9_say k c s T = some (lgM k c s T, 0) := by
  unfold dn_X9_say
  rw [tmod_nn h.1]
  have e : w32 (T 0 24 % 150) = T 0 24 % 150 := w32_id ⟨by omega, by omega⟩
  have e0 : w32 (4 * (T 0 24 % 150)) = T 0 24 % 150 * 4 := by rw [w32_id ⟨by omega, by omega⟩]; omega
  have e1 : w32 (T 0 24 % 150 * 4 + 1) = T 0 24 % 150 * 4 + 1 := w32_id ⟨by omega, by omega⟩
  have e2 : w32 (T 0 24 % 150 * 4 + 2) = T 0 24 % 150 * 4 + 2 := w32_id ⟨by omega, by omega⟩
  have e3 : w32 (T 0 24 % 150 * 4 + 3) = T 0 24 % 150 * 4 + 3 := w32_id ⟨by omega, by omega⟩
  have e4 : w32 (T 0 24 + 1) = T 0 24 + 1 := w32_id ⟨by omega, by omega⟩
  simp only [nmV, nmS, e, e0, e1, e2, e3]
  rw [if_pos (by omega), if_pos (by omega), if_pos (by omega), if_pos (by omega)]
  have t1 : (T 0 24 % 150 * 4 + 1).toNat = lgp (T 0 24) + 1 := by unfold lgp; omega
  have t2 : (T 0 24 % 150 * 4 + 2).toNat = lgp (T 0 24) + 2 := by unfold lgp; omega
  have t3 : (T 0 24 % 150 * 4 + 3).toNat = lgp (T 0 24) + 3 := by unfold lgp; omega
  rw [t1, t2, t3]
  simp [lgM, lgp, stU, e4]
