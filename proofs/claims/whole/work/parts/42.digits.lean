/-! numbers and their digits: radix q i at digit i -/
def dg : Nat → (Nat → Nat) → Nat → Nat
  | 0, q, s => s % q 0
  | i + 1, q, s => dg i (fun j => q (j + 1)) (s / q 0)
def wt : Nat → (Nat → Nat) → Nat
  | 0, _ => 1
  | i + 1, q => q 0 * wt i (fun j => q (j + 1))
theorem wt_s : ∀ (i : Nat) (q : Nat → Nat), wt (i + 1) q = wt i q * q i
  | 0, q => by simp [wt]
  | i + 1, q => by
    have := wt_s i (fun j => q (j + 1))
    rw [wt, this, wt, Nat.mul_assoc]
theorem wt_pos : ∀ (i : Nat) (q : Nat → Nat), (∀ j, j < i → 0 < q j) → 0 < wt i q
  | 0, _, _ => by simp [wt]
  | i + 1, q, h => by
    have := wt_pos i (fun j => q (j + 1)) (fun j hj => h (j + 1) (by omega))
    rw [wt]
    exact Nat.mul_pos (h 0 (by omega)) this
theorem dg_zero : ∀ (i : Nat) (q : Nat → Nat), dg i q 0 = 0
  | 0, q => by simp [dg]
  | i + 1, q => by rw [dg, Nat.zero_div]; exact dg_zero i _
theorem dg_lt : ∀ (i : Nat) (q : Nat → Nat) (s : Nat), 0 < q i → dg i q s < q i
  | 0, q, s, h => Nat.mod_lt _ h
  | i + 1, q, s, h => dg_lt i (fun j => q (j + 1)) (s / q 0) h
/-- one more at digit i -/
theorem dg_add : ∀ (i : Nat) (q : Nat → Nat) (s j : Nat), (∀ k, 0 < q k) → dg i q s + 1 < q i → dg j q (s + wt i q) = if j = i then dg i q s + 1 else dg j q s
  | 0, q, s, j, hq, h => by
    have h : s % q 0 + 1 < q 0 := h
    have e1 : (s + 1) % q 0 = s % q 0 + 1 := by
      rw [Nat.add_mod, Nat.mod_eq_of_lt (show 1 < q 0 by omega), Nat.mod_eq_of_lt h]
    have e2 : (s + 1) / q 0 = s / q 0 := by
      have a1 := Nat.div_add_mod s (q 0)
      have a2 := Nat.div_add_mod (s + 1) (q 0)
      rw [e1] at a2
      have : q 0 * ((s + 1) / q 0) = q 0 * (s / q 0) := by omega
      exact Nat.eq_of_mul_eq_mul_left (hq 0) this
    cases j with
    | zero => simp [dg, wt, e1]
    | succ j => simp [dg, wt, e2]
  | i + 1, q, s, j, hq, h => by
    have h : dg i (fun j => q (j + 1)) (s / q 0) + 1 < q (i + 1) := h
    have e1 : (s + q 0 * wt i (fun j => q (j + 1))) % q 0 = s % q 0 := Nat.add_mul_mod_self_left _ _ _
    have e2 : (s + q 0 * wt i (fun j => q (j + 1))) / q 0 = s / q 0 + wt i (fun j => q (j + 1)) := Nat.add_mul_div_left _ _ (hq 0)
    cases j with
    | zero => simp [dg, wt, e1]
    | succ j =>
      have ih := dg_add i (fun j => q (j + 1)) (s / q 0) j (fun k => hq (k + 1)) h
      simp only [dg, wt, e2, ih]
      by_cases z : j = i
      · simp [z]
      · simp [z]
/-- one less at digit i -/
theorem dg_sub : ∀ (i : Nat) (q : Nat → Nat) (s j : Nat), (∀ k, 0 < q k) → 0 < dg i q s → wt i q ≤ s ∧ dg j q (s - wt i q) = if j = i then dg i q s - 1 else dg j q s
  | 0, q, s, j, hq, h => by
    have h : 0 < s % q 0 := h
    have hs : s % q 0 ≤ s := Nat.mod_le _ _
    have hl := Nat.mod_lt s (hq 0)
    have a1 := Nat.div_add_mod s (q 0)
    have e1 : (s - 1) % q 0 = s % q 0 - 1 := by
      have : s - 1 = (s % q 0 - 1) + q 0 * (s / q 0) := by omega
      rw [this, Nat.add_mul_mod_self_left, Nat.mod_eq_of_lt (by omega)]
    have e2 : (s - 1) / q 0 = s / q 0 := by
      have a2 := Nat.div_add_mod (s - 1) (q 0)
      rw [e1] at a2
      have : q 0 * ((s - 1) / q 0) = q 0 * (s / q 0) := by omega
      exact Nat.eq_of_mul_eq_mul_left (hq 0) this
    refine ⟨by simp [wt]; omega, ?_⟩
    cases j with
    | zero => simp [dg, wt, e1]
    | succ j => simp [dg, wt, e2]
  | i + 1, q, s, j, hq, h => by
    have h : 0 < dg i (fun j => q (j + 1)) (s / q 0) := h
    have ih := fun j => dg_sub i (fun j => q (j + 1)) (s / q 0) j (fun k => hq (k + 1)) h
    have a1 := Nat.div_add_mod s (q 0)
    have hle : q 0 * wt i (fun j => q (j + 1)) ≤ q 0 * (s / q 0) := Nat.mul_le_mul_left _ (ih 0).1
    have hsub : q 0 * (s / q 0 - wt i (fun j => q (j + 1))) = q 0 * (s / q 0) - q 0 * wt i (fun j => q (j + 1)) := Nat.mul_sub _ _ _
    have hl := Nat.mod_lt s (hq 0)
    have hw : wt (i + 1) q ≤ s := by rw [wt]; omega
    have es : s - q 0 * wt i (fun j => q (j + 1)) = s % q 0 + q 0 * (s / q 0 - wt i (fun j => q (j + 1))) := by omega
    have e1 : (s - q 0 * wt i (fun j => q (j + 1))) % q 0 = s % q 0 := by rw [es, Nat.add_mul_mod_self_left, Nat.mod_mod]
    have e2 : (s - q 0 * wt i (fun j => q (j + 1))) / q 0 = s / q 0 - wt i (fun j => q (j + 1)) := by rw [es, Nat.add_mul_div_left _ _ (hq 0), Nat.div_eq_of_lt hl, Nat.zero_add]
    refine ⟨hw, ?_⟩
    cases j with
    | zero => simp [dg, wt, e1]
    | succ j =>
      simp only [dg, wt, e2, (ih j).2]
      by_cases z : j = i
      · simp [z]
      · simp [z]
theorem lt_wt : ∀ (m i : Nat) (q : Nat → Nat) (s : Nat), (∀ k, 0 < q k) → i < m → s < wt m q → dg i q s + 1 < q i → s + wt i q < wt m q
  | 0, i, q, s, hq, hi, hs, h => absurd hi (by omega)
  | m + 1, 0, q, s, hq, hi, hs, h => by
    have h : s % q 0 + 1 < q 0 := h
    have a1 := Nat.div_add_mod s (q 0)
    rw [wt] at hs
    have a2 : s / q 0 < wt m (fun j => q (j + 1)) := Nat.div_lt_of_lt_mul hs
    have a3 : q 0 * (s / q 0 + 1) ≤ q 0 * wt m (fun j => q (j + 1)) := Nat.mul_le_mul_left _ a2
    rw [Nat.mul_add, Nat.mul_one] at a3
    show s + 1 < q 0 * wt m (fun j => q (j + 1))
    omega
  | m + 1, i + 1, q, s, hq, hi, hs, h => by
    have h : dg i (fun j => q (j + 1)) (s / q 0) + 1 < q (i + 1) := h
    have a1 := Nat.div_add_mod s (q 0)
    have hl := Nat.mod_lt s (hq 0)
    rw [wt] at hs
    have a2 : s / q 0 < wt m (fun j => q (j + 1)) := Nat.div_lt_of_lt_mul hs
    have ih := lt_wt m i (fun j => q (j + 1)) (s / q 0) (fun k => hq (k + 1)) (by omega) a2 h
    have a3 : q 0 * (s / q 0 + wt i (fun j => q (j + 1)) + 1) ≤ q 0 * wt m (fun j => q (j + 1)) := Nat.mul_le_mul_left _ ih
    rw [Nat.mul_add, Nat.mul_add, Nat.mul_one] at a3
    show s + q 0 * wt i (fun j => q (j + 1)) < q 0 * wt m (fun j => q (j + 1))
    omega
/-- the next number: the first k digits are full, digit k is not -/
theorem dg_next : ∀ (k : Nat) (q : Nat → Nat) (s j : Nat), (∀ k, 0 < q k) → (∀ i, i < k → dg i q s + 1 = q i) → dg k q s + 1 < q k → dg j q (s + 1) = if j < k then 0 else if j = k then dg k q s + 1 else dg j q s
  | 0, q, s, j, hq, h1, h2 => by
    have := dg_add 0 q s j hq h2
    rw [if_neg (by omega)]
    exact this
  | k + 1, q, s, j, hq, h1, h2 => by
    have h0 : s % q 0 + 1 = q 0 := h1 0 (by omega)
    have a1 := Nat.div_add_mod s (q 0)
    have es : s + 1 = q 0 * (s / q 0 + 1) := by rw [Nat.mul_add, Nat.mul_one]; omega
    have e1 : (s + 1) % q 0 = 0 := by rw [es, Nat.mul_mod_right]
    have e2 : (s + 1) / q 0 = s / q 0 + 1 := by rw [es, Nat.mul_div_cancel_left _ (hq 0)]
    cases j with
    | zero => simp [dg, e1]
    | succ j =>
      have ih := dg_next k (fun j => q (j + 1)) (s / q 0) j (fun k => hq (k + 1)) (fun i hi => h1 (i + 1) (by omega)) h2
      simp only [dg, e2, ih]
      by_cases z : j < k
      · rw [if_pos z, if_pos (show j + 1 < k + 1 by omega)]
      · rw [if_neg z, if_neg (show ¬ j + 1 < k + 1 by omega)]
        by_cases z2 : j = k
        · rw [if_pos z2, if_pos (show j + 1 = k + 1 by omega)]
        · rw [if_neg z2, if_neg (show ¬ j + 1 = k + 1 by omega)]
theorem dg_last : ∀ (m : Nat) (q : Nat → Nat) (s : Nat), (∀ k, 0 < q k) → s < wt m q → (∀ i, i < m → dg i q s + 1 = q i) → s + 1 = wt m q
  | 0, q, s, hq, hs, h => by simp [wt] at hs ⊢; exact hs
  | m + 1, q, s, hq, hs, h => by
    have h0 : s % q 0 + 1 = q 0 := h 0 (by omega)
    have a1 := Nat.div_add_mod s (q 0)
    rw [wt] at hs
    have ih := dg_last m (fun j => q (j + 1)) (s / q 0) (fun k => hq (k + 1)) (Nat.div_lt_of_lt_mul hs) (fun i hi => h (i + 1) (by omega))
    rw [wt, ← ih, Nat.mul_add, Nat.mul_one]
    omega
theorem dg_high : ∀ (m : Nat) (q : Nat → Nat) (s i : Nat), (∀ k, 0 < q k) → s < wt m q → m ≤ i → dg i q s = 0
  | 0, q, s, i, hq, hs, hi => by
    simp [wt] at hs
    rw [hs]; exact dg_zero i q
  | m + 1, q, s, i, hq, hs, hi => by
    rw [wt] at hs
    obtain ⟨i, rfl⟩ : ∃ x, i = x + 1 := ⟨i - 1, by omega⟩
    exact dg_high m (fun j => q (j + 1)) (s / q 0) i (fun k => hq (k + 1)) (Nat.div_lt_of_lt_mul hs) (by omega)
theorem dg_5 : ∀ (i s : Nat), dg i (fun _ => 5) s = s / 5 ^ i % 5
  | 0, s => by simp [dg]
  | i + 1, s => by
    have := dg_5 i (s / 5)
    rw [dg, this, Nat.div_div_eq_div_mul, Nat.pow_succ, Nat.mul_comm 5]
theorem wt_5 : ∀ i : Nat, wt i (fun _ => 5) = 5 ^ i
  | 0 => rfl
  | i + 1 => by rw [wt, wt_5 i, Nat.pow_succ, Nat.mul_comm]
theorem dg_nz : ∀ (m : Nat) (q : Nat → Nat) (s : Nat), (∀ k, 0 < q k) → s < wt m q → (∀ i, i < m → dg i q s = 0) → s = 0
  | 0, q, s, hq, hs, h => by simp [wt] at hs; exact hs
  | m + 1, q, s, hq, hs, h => by
    rw [wt] at hs
    have h0 : s % q 0 = 0 := h 0 (by omega)
    have ih := dg_nz m (fun j => q (j + 1)) (s / q 0) (fun k => hq (k + 1)) (Nat.div_lt_of_lt_mul hs) (fun i hi => h (i + 1) (by omega))
    have a1 := Nat.div_add_mod s (q 0)
    rw [ih, h0] at a1
    omega
