/-! clear, told, set -/
def vnX (i : Nat) (S : St) : St := fun k f => if i + 18 ≤ k ∧ k < 30 then (if f = 3 then -1 else if f = 1 ∨ f = 2 ∨ f = 4 ∨ f = 5 then 0 else S k f) else S k f
def vnM (i : Nat) (T : St) : St := fun k f => if (k = 5 ∨ k = 6) ∧ i ≤ f ∧ f < 12 then 0 else T k f
theorem vnX_s {i : Nat} {S : St} (hi : i < 12) : vnX (i + 1) (stU (becX i 0 (-1) 0 0 S) (i + 18) 2 0) = vnX i S := by
  funext k f
  unfold vnX
  by_cases q : k = i + 18
  · subst q
    rw [if_neg (by omega), if_pos (by omega)]
    simp only [becX, stU, if_true]
    by_cases q1 : f = 1
    · simp [q1]
    · by_cases q2 : f = 2
      · simp [q2]
      · by_cases q3 : f = 3
        · simp [q3]
        · by_cases q4 : f = 4
          · simp [q4]
          · by_cases q5 : f = 5
            · simp [q5]
            · simp [q1, q2, q3, q4, q5]
  · have e : stU (becX i 0 (-1) 0 0 S) (i + 18) 2 0 k f = S k f := by rw [stU_cell _ _ _ _ q, becX_off q]
    rw [e]
    by_cases z : i + 18 ≤ k ∧ k < 30
    · rw [if_pos z, if_pos (by omega)]
    · rw [if_neg z, if_neg (by omega)]
theorem vnM_s {i : Nat} {T : St} (hi : i < 12) : vnM (i + 1) (stU (stU T 5 i 0) 6 i 0) = vnM i T := by
  funext k f
  unfold vnM
  by_cases z : (k = 5 ∨ k = 6) ∧ i ≤ f ∧ f < 12
  · rw [if_pos z]
    by_cases q : f = i
    · subst q
      rw [if_neg (by omega)]
      rcases z.1 with rfl | rfl <;> simp [stU]
    · rw [if_pos (by omega)]
  · rw [if_neg z, if_neg (by omega)]
    simp only [stU]
    by_cases q5 : k = 5
    · have : f ≠ i := by omega
      simp [q5, this]
    · by_cases q6 : k = 6
      · have : f ≠ i := by omega
        simp [q6, this]
      · simp [q5, q6]
def fgX (i : Nat) (S : St) : St := fun k f => if k = 12 ∧ i ≤ f ∧ f < 9 then 0 else S k f
theorem fgX_s {i : Nat} {S : St} (hi : i < 9) : fgX (i + 1) (stU S 12 i 0) = fgX i S := by
  funext k f
  unfold fgX
  by_cases z : k = 12 ∧ i ≤ f ∧ f < 9
  · rw [if_pos z]
    by_cases q : f = i
    · subst q
      rw [if_neg (by omega), z.1, stU_same]
    · rw [if_pos (by omega)]
  · rw [if_neg z, if_neg (by omega)]
    simp only [stU]
    by_cases q5 : k = 12
    · have : f ≠ i := by omega
      simp [q5, this]
    · simp [q5]
theorem X_fg : ∀ (d i : Nat) (S : St) (n : Nat), i + d = 9 → d < n → dn_X4_forget_7 n (i : Int) S = some (fgX i S, 0) := by
  intro d
  induction d with
  | zero =>
    intro i S n hd hn
    obtain ⟨n, rfl⟩ : ∃ q, n = q + 1 := ⟨n - 1, by omega⟩
    rw [dn_X4_forget_7, if_pos (by omega)]
    have : fgX i S = S := by funext k f; unfold fgX; rw [if_neg (by omega)]
    rw [this]
  | succ d ih =>
    intro i S n hd hn
    obtain ⟨n, rfl⟩ : ∃ q, n = q + 1 := ⟨n - 1, by omega⟩
    rw [dn_X4_forget_7, if_neg (by omega), if_pos (by omega)]
    simp only [nmS, nmV, Int.toNat_natCast, w32_s (show i < 1000000 by omega)]
    rw [ih (i + 1) _ n (by omega) (by omega), fgX_s (by omega)]
theorem X_forget {S : St} : dn_X4_forget S = some (fgX 0 (stU S 10 2 0), 0) := by
  unfold dn_X4_forget
  rw [nmS_s]
  exact X_fg 9 0 _ FU (by omega) (FU_lt (by omega))
def clX (S : St) : St := stU (stU (stU (stU (stU (stU (fgX 0 (stU (stU S 7 2 0) 10 2 0)) 4 5 0) 4 6 0) 4 7 0) 4 100008 0) 4 9 0) 4 10 0
theorem X_rst : ∀ (d i : Nat) (S : St) (n : Nat), i + d = 12 → d < n → dn_X6_reset_2 n (i : Int) S = some (clX (vnX i S), 0) := by
  intro d
  induction d with
  | zero =>
    intro i S n hd hn
    obtain ⟨n, rfl⟩ : ∃ q, n = q + 1 := ⟨n - 1, by omega⟩
    rw [dn_X6_reset_2, if_pos (by omega)]
    have : vnX i S = S := by funext k f; unfold vnX; rw [if_neg (by omega)]
    rw [this]
    unfold dn_X0_forget
    rw [nmS_s, cal_s, X_forget, cal_s]
    rfl
  | succ d ih =>
    intro i S n hd hn
    obtain ⟨n, rfl⟩ : ∃ q, n = q + 1 := ⟨n - 1, by omega⟩
    rw [dn_X6_reset_2, if_neg (by omega), if_pos (by omega), X_vanish, cal_s]
    simp only [nmV, w32_s (show i < 1000000 by omega)]
    rw [ih (i + 1) _ n (by omega) (by omega), vnX_s (by omega)]
def clM (T : St) : St := stU (stU (stU (stU (stU (stU (stU (stU (stU (stU T 0 19 0) 0 22 0) 0 24 0) 0 25 0) 0 26 0) 0 27 0) 0 100028 0) 0 29 0) 0 30 0) 0 32 0
theorem M_rst : ∀ (d i : Nat) (T : St) (n : Nat), i + d = 12 → d < n → dn_X9_clear_12 n (i : Int) T = some (clM (vnM i T), 0) := by
  intro d
  induction d with
  | zero =>
    intro i T n hd hn
    obtain ⟨n, rfl⟩ : ∃ q, n = q + 1 := ⟨n - 1, by omega⟩
    rw [dn_X9_clear_12, if_pos (by omega)]
    have : vnM i T = T := by funext k f; unfold vnM; rw [if_neg (by omega)]
    rw [this]
    rfl
  | succ d ih =>
    intro i T n hd hn
    obtain ⟨n, rfl⟩ : ∃ q, n = q + 1 := ⟨n - 1, by omega⟩
    rw [dn_X9_clear_12, if_neg (by omega), if_pos (by omega)]
    simp only [nmS, nmV, Int.toNat_natCast, w32_s (show i < 1000000 by omega)]
    rw [ih (i + 1) _ n (by omega) (by omega), vnM_s (by omega)]
section CL
variable {Wk : (Nat → Int) → Int → Int → Int × Int} {S T S' T' : St} {e e2 b b2 : Int}
theorem call_clear (h : RE Wk (-1) b S T) (hb : 0 ≤ b) : ∃ S' T' r, dn_X8_clear S = some (S', 0) ∧ dn_X9_clear T = some (T', r) ∧ RE Wk (-1) b S' T' := by
  have hX : dn_X6_reset S = some (clX (vnX 0 S), 0) := X_rst 12 0 S FU (by omega) (FU_lt (by omega))
  have hM : dn_X9_clear T = some (clM (vnM 0 (stU (stU T 0 33 0) 0 4 0)), 0) := by
    unfold dn_X9_clear
    rw [nmS_s, nmS_s]
    exact M_rst 12 0 _ FU (by omega) (FU_lt (by omega))
  unfold dn_X8_clear dn_X2_dismiss
  rw [hX, cal_s, hM]
  simp only [nmV, nmS, cal_s]
  refine ⟨_, _, _, rfl, rfl, ?_⟩
  have sOff : ∀ k f, (k < 4 ∨ 30 ≤ k ∨ k = 8 ∨ k = 9 ∨ k = 11 ∨ k = 13 ∨ k = 15 ∨ k = 16 ∨ k = 17) → stU (stU (clX (vnX 0 S)) 14 3 0) 14 4 0 k f = S k f := fun k f hk => by
    have a14 : k ≠ 14 := by omega
    have a4 : k ≠ 4 := by omega
    have a7 : k ≠ 7 := by omega
    have a10 : k ≠ 10 := by omega
    have a12 : ¬ (k = 12 ∧ 0 ≤ f ∧ f < 9) := by omega
    have av : ¬ (0 + 18 ≤ k ∧ k < 30) := by omega
    simp only [clX, fgX, vnX, stU, if_neg a14, if_neg a4, if_neg a12, if_neg a7, if_neg a10, if_neg av]
  have sLine : ∀ j f, j < 12 → stU (stU (clX (vnX 0 S)) 14 3 0) 14 4 0 (j + 18) f = (if f = 3 then -1 else if f = 1 ∨ f = 2 ∨ f = 4 ∨ f = 5 then 0 else S (j + 18) f) := fun j f hj => by
    have a14 : j + 18 ≠ 14 := by omega
    have a4 : j + 18 ≠ 4 := by omega
    have a7 : j + 18 ≠ 7 := by omega
    have a10 : j + 18 ≠ 10 := by omega
    have a12 : ¬ (j + 18 = 12 ∧ 0 ≤ f ∧ f < 9) := by omega
    have av : 0 + 18 ≤ j + 18 ∧ j + 18 < 30 := by omega
    simp only [clX, fgX, vnX, stU, if_neg a14, if_neg a4, if_neg a12, if_neg a7, if_neg a10, if_pos av]
  have tOff : ∀ k f, k ≠ 0 → (k < 5 ∨ 6 < k) → clM (vnM 0 (stU (stU T 0 33 0) 0 4 0)) k f = T k f := fun k f hk hk2 => by
    have av : ¬ ((k = 5 ∨ k = 6) ∧ 0 ≤ f ∧ f < 12) := by omega
    simp only [clM, vnM, stU, if_neg hk, if_neg av]
  have tLine : ∀ k j, (k = 5 ∨ k = 6) → j < 12 → clM (vnM 0 (stU (stU T 0 33 0) 0 4 0)) k j = 0 := fun k j hk hj => by
    have a0 : k ≠ 0 := by omega
    have av : (k = 5 ∨ k = 6) ∧ 0 ≤ j ∧ j < 12 := by omega
    simp only [clM, vnM, stU, if_neg a0, if_pos av]
  have tz : ∀ f, f = 19 ∨ f = 22 ∨ f = 24 ∨ f = 25 ∨ f = 26 ∨ f = 27 ∨ f = 100028 ∨ f = 29 ∨ f = 30 ∨ f = 32 ∨ f = 4 → clM (vnM 0 (stU (stU T 0 33 0) 0 4 0)) 0 f = 0 := fun f hf => by
    rcases hf with rfl | rfl | rfl | rfl | rfl | rfl | rfl | rfl | rfl | rfl | rfl <;> simp [clM, vnM, stU]
  have s4 : ∀ f, f = 5 ∨ f = 6 ∨ f = 7 ∨ f = 100008 ∨ f = 9 ∨ f = 10 → stU (stU (clX (vnX 0 S)) 14 3 0) 14 4 0 4 f = 0 := fun f hf => by
    rcases hf with rfl | rfl | rfl | rfl | rfl | rfl <;> simp [clX, stU]
  have s7 : stU (stU (clX (vnX 0 S)) 14 3 0) 14 4 0 7 2 = 0 := by simp [clX, fgX, stU]
  have s10 : stU (stU (clX (vnX 0 S)) 14 3 0) 14 4 0 10 2 = 0 := by simp [clX, fgX, stU]
  have s12 : ∀ f, f < 9 → stU (stU (clX (vnX 0 S)) 14 3 0) 14 4 0 12 f = 0 := fun f hf => by simp [clX, fgX, stU, hf]
  have s143 : stU (stU (clX (vnX 0 S)) 14 3 0) 14 4 0 14 3 = 0 := by simp [stU]
  have s144 : stU (stU (clX (vnX 0 S)) 14 3 0) 14 4 0 14 4 = 0 := stU_same _ _ _ _
  generalize stU (stU (clX (vnX 0 S)) 14 3 0) 14 4 0 = S9 at sOff sLine s4 s7 s10 s12 s143 s144 ⊢
  generalize clM (vnM 0 (stU (stU T 0 33 0) 0 4 0)) = T9 at tOff tLine tz ⊢
  obtain ⟨⟨r1, r2, r3, r4, r5⟩, rt, v1, v2, v3, v4⟩ := h
  refine ⟨⟨fun j hj => ?_, ?_, ?_, ?_, ?_⟩, ?_, fun j hj => ?_, ?_, ?_, ?_⟩
  · unfold LR
    rw [sLine j 1 hj, sLine j 2 hj, sLine j 3 hj, sLine j 4 hj, sLine j 5 hj, tLine 5 j (by decide) hj, tLine 6 j (by decide) hj]
    simp
  · intro c hc f hf1 hf2
    rw [sOff _ _ (by omega), tOff _ _ (by omega) (by omega)]
    exact r2 c hc f hf1 hf2
  · unfold Rg
    rw [s4 5 (by decide), s4 6 (by decide), s4 7 (by decide), s4 100008 (by decide), s4 9 (by decide), s4 10 (by decide), s7, s10, tz 19 (by decide), tz 4 (by decide), tz 25 (by decide), tz 100028 (by decide), tz 29 (by decide), tz 30 (by decide), tz 22 (by decide), tz 24 (by decide)]
    decide
  · unfold Ra at r4 ⊢
    simp only [sOff 2 _ (by decide), sOff 3 _ (by decide), sOff 8 _ (by decide), sOff 9 _ (by decide), sOff 11 _ (by decide), tOff 1 _ (by decide) (by decide), tOff 4 _ (by decide) (by decide), tOff 19 _ (by decide) (by decide), tOff 20 _ (by decide) (by decide), tOff 21 _ (by decide) (by decide)]
    exact r4
  · exact Rk_0 r5 (fun k f z => sOff k f (by omega)) s143 s144 (fun f => tOff 22 f (by decide) (by decide)) (tz 32 (by decide))
  · unfold Rt
    rw [s12 6 (by decide), s12 7 (by decide), s12 2 (by decide), s12 3 (by decide), s12 4 (by decide), s12 5 (by decide), tz 26 (by decide), tz 27 (by decide), tz 19 (by decide)]
    simp [cn]
  · unfold LI
    rw [tLine 5 j (by decide) hj, tLine 6 j (by decide) hj]
    simp
  · intro x y hx hy q
    rw [tLine 5 x (by decide) hx] at q
    exact absurd q (by decide)
  · unfold IN at v3 ⊢
    rw [tz 19 (by decide), tz 22 (by decide)]
    simp only [tOff 20 _ (by decide) (by decide), tOff 16 _ (by decide) (by decide), tOff 13 _ (by decide) (by decide), tOff 1 _ (by decide) (by decide), tOff 2 _ (by decide) (by decide), tOff 3 _ (by decide) (by decide), tOff 4 _ (by decide) (by decide)]
    exact ⟨by decide, by decide, v3.2.2⟩
  · rw [tz 24 (by decide)]
    exact ⟨by decide, hb⟩
theorem sim_lo {c : Nat} (h : RE Wk e b S T) : ∀ (d i n m : Nat) (a : Int), i + d = 12 → 0 ≤ a → a ≤ i → d < n → d < m → ∃ v, dn_X6_linesLentTo_4 n (c : Int) a (i : Int) S = some (S, v) ∧ dn_X9_linesOf_4 m (c : Int) a (i : Int) T = some (T, v) := by
  intro d
  induction d with
  | zero =>
    intro i n m a hd ha ha2 hn hm
    obtain ⟨n, rfl⟩ : ∃ q, n = q + 1 := ⟨n - 1, by omega⟩
    obtain ⟨m, rfl⟩ : ∃ q, m = q + 1 := ⟨m - 1, by omega⟩
    refine ⟨a, ?_, ?_⟩
    · rw [dn_X6_linesLentTo_4, if_pos (by omega)]
    · rw [dn_X9_linesOf_4, if_pos (by omega)]
  | succ d ih =>
    intro i n m a hd ha ha2 hn hm
    obtain ⟨n, rfl⟩ : ∃ q, n = q + 1 := ⟨n - 1, by omega⟩
    obtain ⟨m, rfl⟩ : ∃ q, m = q + 1 := ⟨m - 1, by omega⟩
    have hi : i < 12 := by omega
    have c1 : ¬ (12 : Int) ≤ (i : Int) := by omega
    have c2 : (0 : Int) ≤ (i : Int) ∧ (i : Int) < 12 := by omega
    have hr := hold_rng h hi
    have he := hold_eq h hi
    have hst := st_eq h hi
    have nx0 := ih (i + 1) n m a (by omega) ha (by omega) (by omega) (by omega)
    have nx1 := ih (i + 1) n m (a + 1) (by omega) (by omega) (by omega) (by omega) (by omega)
    have w : w32 (a + 1) = a + 1 := w32_id ⟨by omega, by omega⟩
    have z1 : ¬ (1 : Int) = 0 := by decide
    by_cases q4 : T 5 i = 4
    · by_cases qc : T 7 i = c
      · have q5 : S (i + 18) 3 = c := by rw [he, if_pos (by omega), qc]
        have hlt : dn_X3_isLentTo (i : Int) (c : Int) S = some (S, 1) := by
          unfold dn_X3_isLentTo
          rw [Int.toNat_natCast, hst, if_pos q4, if_pos hr, if_pos q5]
        simp only [dn_X6_linesLentTo_4, dn_X9_linesOf_4, c1, c2, if_true, if_false, and_self, hlt, cal_s, z1, Int.toNat_natCast, q4, qc, nmV, w, w32_s (show i < 1000000 by omega)]
        exact nx1
      · have q5 : ¬ S (i + 18) 3 = c := by rw [he, if_pos (by omega)]; exact qc
        have hlt : dn_X3_isLentTo (i : Int) (c : Int) S = some (S, 0) := by
          unfold dn_X3_isLentTo
          rw [Int.toNat_natCast, hst, if_pos q4, if_pos hr, if_neg q5]
        simp only [dn_X6_linesLentTo_4, dn_X9_linesOf_4, c1, c2, if_true, if_false, and_self, hlt, cal_s, Int.toNat_natCast, q4, qc, nmV, w32_s (show i < 1000000 by omega)]
        exact nx0
    · have hlt : dn_X3_isLentTo (i : Int) (c : Int) S = some (S, 0) := by
        unfold dn_X3_isLentTo
        rw [Int.toNat_natCast, hst, if_neg q4]
      simp only [dn_X6_linesLentTo_4, dn_X9_linesOf_4, c1, c2, if_true, if_false, and_self, hlt, cal_s, Int.toNat_natCast, q4, nmV, w32_s (show i < 1000000 by omega)]
      exact nx0
/-- told: what the class would answer, and whether it throws -/
theorem call_told {a0 a1 : Int} (h : RE Wk (-1) b S T) : ∃ T' r, dn_X9_told a0 a1 T = some (T', r) ∧ RE Wk (-1) b S T' ∧
    ((0 ≤ a0 ∧ a0 < T 0 19 ∧ 0 ≤ a1 ∧ a1 ≤ 5 ∧ T' 0 33 = 0 ∧ dn_X6_callerFigure a0 a1 S = some (S, r)) ∨ (¬ (0 ≤ a0 ∧ a0 < T 0 19 ∧ 0 ≤ a1 ∧ a1 ≤ 5) ∧ T' 0 33 = 1)) := by
  have h1 := RE_thr (x := 0) h
  have e19 : stU T 0 33 0 0 19 = T 0 19 := stU_slot _ _ _ _ (by decide)
  have e33 : stU T 0 33 0 0 33 = 0 := stU_same _ _ _ _
  unfold dn_X9_told dn_X9_told_26
  simp only [nmS]
  generalize stU T 0 33 0 = T1 at h1 e19 e33 ⊢
  have hr := RE_thr (x := 1) h1
  have hm := many_rng h1
  by_cases q0 : a0 < 0
  · rw [if_pos q0]; exact ⟨_, _, rfl, hr, Or.inr ⟨by omega, stU_same _ _ _ _⟩⟩
  rw [if_neg q0]
  by_cases q1 : T1 0 19 ≤ a0
  · rw [if_pos q1]; exact ⟨_, _, rfl, hr, Or.inr ⟨by omega, stU_same _ _ _ _⟩⟩
  rw [if_neg q1]
  by_cases q2 : a1 < 0
  · rw [if_pos q2]; exact ⟨_, _, rfl, hr, Or.inr ⟨by omega, stU_same _ _ _ _⟩⟩
  rw [if_neg q2]
  by_cases q3 : a1 ≤ 5
  · rw [if_pos q3]
    obtain ⟨c, rfl⟩ : ∃ c : Nat, a0 = c := ⟨a0.toNat, by omega⟩
    have hc60 : c < 60 := by omega
    have c2 : (0 : Int) ≤ (c : Int) ∧ (c : Int) < 60 := by omega
    have ce : ∀ f, 1 ≤ f → f ≤ 9 → S (c + 30) f = T1 (f + 9) c := fun f a b => call_eq h1 hc60 a b
    obtain ⟨v, l1, l2⟩ := sim_lo (c := c) h1 12 0 FU FU 0 (by omega) (by omega) (by omega) (FU_lt (by omega)) (FU_lt (by omega))
    have l1 : dn_X6_linesLentTo (c : Int) S = some (S, v) := l1
    have l2 : dn_X9_linesOf (c : Int) T1 = some (T1, v) := l2
    unfold dn_X6_callerFigure
    have c3 : ((0 : Int) ≤ (c : Int) ∧ (c : Int) < 60) = True := eq_true c2
    simp only [c3, if_true, l1, l2, cal_s, Int.toNat_natCast, ce 6 (by decide) (by decide), ce 7 (by decide) (by decide), ce 8 (by decide) (by decide), ce 1 (by decide) (by decide), ce 2 (by decide) (by decide)]
    have fin : ∀ x y : Int, x = y → ∃ T' r, some (T1, x) = some (T', r) ∧ RE Wk (-1) b S T' ∧ ((0 ≤ (c : Int) ∧ (c : Int) < T 0 19 ∧ 0 ≤ a1 ∧ a1 ≤ 5 ∧ T' 0 33 = 0 ∧ some (S, y) = some (S, r)) ∨ (¬ (0 ≤ (c : Int) ∧ (c : Int) < T 0 19 ∧ 0 ≤ a1 ∧ a1 ≤ 5) ∧ T' 0 33 = 1)) := fun x y hxy =>
      ⟨T1, x, rfl, h1, Or.inl ⟨by omega, by omega, by omega, q3, e33, by rw [hxy]⟩⟩
    by_cases z0 : a1 = 0
    · rw [if_pos z0, if_pos z0]; exact fin _ _ rfl
    rw [if_neg z0, if_neg z0]
    by_cases z1 : a1 = 1
    · rw [if_pos z1, if_pos z1]; exact fin _ _ rfl
    rw [if_neg z1, if_neg z1]
    by_cases z2 : a1 = 2
    · rw [if_pos z2, if_pos z2]; exact fin _ _ rfl
    rw [if_neg z2, if_neg z2]
    by_cases z3 : a1 = 3
    · rw [if_pos z3, if_pos z3]; exact fin _ _ rfl
    rw [if_neg z3, if_neg z3]
    by_cases z4 : a1 = 4
    · rw [if_pos z4, if_pos z4]; exact fin _ _ rfl
    rw [if_neg z4, if_neg z4, if_pos (show a1 = 5 by omega)]
    exact fin _ _ rfl
  · rw [if_neg q3]; exact ⟨_, _, rfl, hr, Or.inr ⟨by omega, stU_same _ _ _ _⟩⟩
end CL
