/-! Those who come, those who give up; who is first, which line is fresh -/
section CO
variable {Wk : (Nat → Int) → Int → Int → Int × Int} {S T S' T' : St} {e e2 b b2 : Int}
/-- a line of the log that no total tells -/
theorem RE_log {k t c s : Int} (h : RE Wk e b S T) (hk : k = 0 ∨ k = 1 ∨ k = 8) (ht : t = T 0 4) : RE Wk e (b + 1) (lgX k t c s S) (lgM k c s T) := ⟨R0_log ht h.1, Rt_log hk h.2.1, IV_log h.2.2⟩
theorem no_line {c : Nat} (h : RE Wk (-1) b S T) (h0 : T 15 c = 0) : ∀ j, j < 12 → 3 ≤ T 5 j → T 7 j ≠ c := fun j hj q1 q2 => by
  have hl := line_i h hj
  have := (hl.2.2.2 q1).2 (by omega)
  rw [q2, Int.toNat_natCast] at this
  have h5 := hl.1
  rcases (show T 5 j = 3 ∨ T 5 j = 4 by omega) with z | z
  · have := this.1 z; omega
  · have := this.2 z; omega
theorem sim_come : ∀ (d i : Nat) (b : Int) (S T : St) (n m : Nat), i + d = 60 → b + d ≤ 2147483000 → RE Wk (-1) b S T → d < n → d < m →
    ∃ S' T', dn_X6_letCome_2 n (i : Int) S = some (S', 0) ∧ dn_X9_come_2 m (i : Int) T = dn_X9_come_67 FU 0 T' ∧ RE Wk (-1) (b + d) S' T' := by
  intro d
  induction d with
  | zero =>
    intro i b S T n m hd hb h hn hm
    obtain ⟨n, rfl⟩ : ∃ q, n = q + 1 := ⟨n - 1, by omega⟩
    obtain ⟨m, rfl⟩ : ∃ q, m = q + 1 := ⟨m - 1, by omega⟩
    have hmr := many_rng h
    have hme := many_eq h
    refine ⟨S, T, ?_, ?_, by simpa using h⟩
    · rw [dn_X6_letCome_2, if_pos (by omega)]
    · rw [dn_X9_come_2, if_pos (by omega)]
  | succ d ih =>
    intro i b S T n m hd hb h hn hm
    obtain ⟨n, rfl⟩ : ∃ q, n = q + 1 := ⟨n - 1, by omega⟩
    obtain ⟨m, rfl⟩ : ∃ q, m = q + 1 := ⟨m - 1, by omega⟩
    have hmr := many_rng h
    have hme := many_eq h
    by_cases q0 : T 0 19 ≤ (i : Int)
    · refine ⟨S, T, ?_, ?_, RE_b h (by omega)⟩
      · rw [dn_X6_letCome_2, if_pos (by omega)]
      · rw [dn_X9_come_2, if_pos (by omega)]
    · have c1 : ¬ S 4 5 ≤ (i : Int) := by omega
      have c2 : (0 : Int) ≤ (i : Int) ∧ (i : Int) < 60 := by omega
      have hi60 : i < 60 := by omega
      have hs : S (i + 30) 6 = T 15 i := call_eq h hi60 (by decide) (by decide)
      have h5 : S (i + 30) 5 = T 14 i := call_eq h hi60 (by decide) (by decide)
      have hnw := now_eq h
      have go_on : ∀ S1 T1, RE Wk (-1) (b + 1) S1 T1 → ∃ S' T', dn_X6_letCome_2 n ((i + 1 : Nat) : Int) S1 = some (S', 0) ∧ dn_X9_come_2 m ((i + 1 : Nat) : Int) T1 = dn_X9_come_67 FU 0 T' ∧ RE Wk (-1) (b + ((d + 1 : Nat) : Int)) S' T' := fun S1 T1 h1 => by
        obtain ⟨S', T', a1, a2, a3⟩ := ih (i + 1) (b + 1) S1 T1 n m (by omega) (by omega) h1 (by omega) (by omega)
        exact ⟨S', T', a1, a2, RE_b a3 (by omega)⟩
      simp only [dn_X6_letCome_2, dn_X9_come_2, c1, q0, c2, hs, h5, hnw, if_true, if_false, and_self, Int.toNat_natCast, nmV, nmS, w32_s (show i < 1000000 by omega)]
      by_cases q1 : T 15 i = 0
      · rw [if_pos q1, if_pos q1]
        by_cases q2 : T 14 i = T 0 4
        · rw [if_pos q2, if_pos q2]
          have r1 := op_st (c := i) (x := 1) h (by omega) (by omega) (by omega) (fun j hj z1 z2 => absurd z2 (no_line h q1 j hj z1))
          have r2 := RE_call (c := i) (f := 8) (x := T 0 4) r1 hi60 (by decide)
          have r2 : RE Wk (-1) b (stU (stU S (i + 30) 6 1) (i + 30) 8 (T 0 4)) (stU (stU T 15 i 1) 17 i (T 0 4)) := r2
          have e04 : stU T 15 i 1 0 4 = T 0 4 := by simp [stU]
          have hw : dn_X1_waitFrom (i : Int) (T 0 4) S = some (stU (stU S (i + 30) 6 1) (i + 30) 8 (T 0 4), 0) := by
            unfold dn_X1_waitFrom
            simp only [Int.toNat_natCast, nmS]
          have hv := ev_of r2 (by omega)
          have e46 : stU (stU S (i + 30) 6 1) (i + 30) 8 (T 0 4) 4 6 = T 0 4 := by rw [stU_cell _ _ _ _ (by omega), stU_cell _ _ _ _ (by omega)]; exact hnw
          have e04' : stU (stU T 15 i 1) 17 i (T 0 4) 0 4 = T 0 4 := by simp [stU]
          rw [hw, cal_s, e46, X_add hv.2 (by decide), cal_s, e04, M_say hv.1, cal_s]
          exact go_on _ _ (RE_log r2 (Or.inl rfl) e04'.symm)
        · rw [if_neg q2, if_neg q2]
          exact go_on S T (RE_b h (by omega))
      · rw [if_neg q1, if_neg q1]
        exact go_on S T (RE_b h (by omega))
theorem sim_up : ∀ (d i : Nat) (b : Int) (S T : St) (n m : Nat), i + d = 60 → b + d ≤ 2147483000 → RE Wk (-1) b S T → d < n → d < m →
    ∃ S' T', dn_X6_giveUp_2 n (i : Int) S = some (S', 0) ∧ dn_X9_come_67 m (i : Int) T = some (T', 0) ∧ RE Wk (-1) (b + d) S' T' := by
  intro d
  induction d with
  | zero =>
    intro i b S T n m hd hb h hn hm
    obtain ⟨n, rfl⟩ : ∃ q, n = q + 1 := ⟨n - 1, by omega⟩
    obtain ⟨m, rfl⟩ : ∃ q, m = q + 1 := ⟨m - 1, by omega⟩
    have hmr := many_rng h
    have hme := many_eq h
    refine ⟨S, T, ?_, ?_, by simpa using h⟩
    · rw [dn_X6_giveUp_2, if_pos (by omega)]
    · rw [dn_X9_come_67, if_pos (by omega)]
  | succ d ih =>
    intro i b S T n m hd hb h hn hm
    obtain ⟨n, rfl⟩ : ∃ q, n = q + 1 := ⟨n - 1, by omega⟩
    obtain ⟨m, rfl⟩ : ∃ q, m = q + 1 := ⟨m - 1, by omega⟩
    have hmr := many_rng h
    have hme := many_eq h
    by_cases q0 : T 0 19 ≤ (i : Int)
    · refine ⟨S, T, ?_, ?_, RE_b h (by omega)⟩
      · rw [dn_X6_giveUp_2, if_pos (by omega)]
      · rw [dn_X9_come_67, if_pos (by omega)]
    · have c1 : ¬ S 4 5 ≤ (i : Int) := by omega
      have c2 : (0 : Int) ≤ (i : Int) ∧ (i : Int) < 60 := by omega
      have hi60 : i < 60 := by omega
      have hs : S (i + 30) 6 = T 15 i := call_eq h hi60 (by decide) (by decide)
      have h8 : S (i + 30) 8 = T 17 i := call_eq h hi60 (by decide) (by decide)
      have h3 : S (i + 30) 3 = T 12 i := call_eq h hi60 (by decide) (by decide)
      have hnw := now_eq h
      have go_on : ∀ S1 T1, RE Wk (-1) (b + 1) S1 T1 → ∃ S' T', dn_X6_giveUp_2 n ((i + 1 : Nat) : Int) S1 = some (S', 0) ∧ dn_X9_come_67 m ((i + 1 : Nat) : Int) T1 = some (T', 0) ∧ RE Wk (-1) (b + ((d + 1 : Nat) : Int)) S' T' := fun S1 T1 h1 => by
        obtain ⟨S', T', a1, a2, a3⟩ := ih (i + 1) (b + 1) S1 T1 n m (by omega) (by omega) h1 (by omega) (by omega)
        exact ⟨S', T', a1, a2, RE_b a3 (by omega)⟩
      simp only [dn_X6_giveUp_2, dn_X9_come_67, c1, q0, c2, hs, h8, h3, hnw, if_true, if_false, and_self, Int.toNat_natCast, nmV, nmS, w32_s (show i < 1000000 by omega)]
      by_cases q1 : T 15 i = 1
      · rw [if_pos q1, if_pos q1]
        by_cases q2 : w32 (T 0 4 - T 17 i) ≤ T 12 i
        · rw [if_pos q2, if_neg (by omega)]
          exact go_on S T (RE_b h (by omega))
        · rw [if_neg q2, if_pos (by omega)]
          obtain ⟨S1, S2, T2, b1, b2, b3, b4, b5⟩ := op_end (c := i) (k := 5) h (by omega) (by omega) (by omega) (by omega)
          have b1 : dn_X6_leave (i : Int) 8 5 S = some (S1, 0) := b1
          have b3 : dn_X9_say 5 (i : Int) (-1) (stU T 15 i 8) = some (lgM 5 (i : Int) (-1) (stU T 15 i 8), 0) := b3
          have b4 : dn_X9_free (i : Int) 0 (lgM 5 (i : Int) (-1) (stU T 15 i 8)) = some (T2, 0) := b4
          rw [b1, cal_s, b2, cal_s, b3, cal_s, b4, cal_s]
          exact go_on S2 T2 b5
      · rw [if_neg q1, if_neg q1]
        exact go_on S T (RE_b h (by omega))
theorem ph_come (h : RE Wk (-1) b S T) (hb : b + 120 ≤ 2147483000) : ∃ S1 S' T', dn_X6_letCome S = some (S1, 0) ∧ dn_X6_giveUp S1 = some (S', 0) ∧ dn_X9_come T = some (T', 0) ∧ RE Wk (-1) (b + 120) S' T' := by
  obtain ⟨S1, T1, a1, a2, a3⟩ := sim_come 60 0 b S T FU FU (by omega) (by omega) h (FU_lt (by omega)) (FU_lt (by omega))
  obtain ⟨S', T', b1, b2, b3⟩ := sim_up 60 0 _ S1 T1 FU FU (by omega) (by omega) a3 (FU_lt (by omega)) (FU_lt (by omega))
  refine ⟨S1, S', T', a1, b1, ?_, RE_b b3 (by omega)⟩
  have a2 : dn_X9_come T = _ := a2
  rw [a2]
  exact b2
/-- who is first: the same on both sides -/
theorem sim_fw (h : RE Wk (-1) b S T) : ∀ (d i n m : Nat) (f : Int), i + d = 60 → (f = -1 ∨ (0 ≤ f ∧ f < T 0 19 ∧ T 15 f.toNat = 1)) → d < n → d < m →
    ∃ v, dn_X6_firstWaiting_4 n f (i : Int) S = some (S, v) ∧ dn_X9_firstWaiting_4 m f (i : Int) T = some (T, v) ∧ (v = -1 ∨ (0 ≤ v ∧ v < T 0 19 ∧ T 15 v.toNat = 1)) := by
  intro d
  induction d with
  | zero =>
    intro i n m f hd hf hn hm
    obtain ⟨n, rfl⟩ : ∃ q, n = q + 1 := ⟨n - 1, by omega⟩
    obtain ⟨m, rfl⟩ : ∃ q, m = q + 1 := ⟨m - 1, by omega⟩
    have hmr := many_rng h
    have hme := many_eq h
    refine ⟨f, ?_, ?_, hf⟩
    · rw [dn_X6_firstWaiting_4, if_pos (by omega)]
    · rw [dn_X9_firstWaiting_4, if_pos (by omega)]
  | succ d ih =>
    intro i n m f hd hf hn hm
    obtain ⟨n, rfl⟩ : ∃ q, n = q + 1 := ⟨n - 1, by omega⟩
    obtain ⟨m, rfl⟩ : ∃ q, m = q + 1 := ⟨m - 1, by omega⟩
    have hmr := many_rng h
    have hme := many_eq h
    by_cases q0 : T 0 19 ≤ (i : Int)
    · refine ⟨f, ?_, ?_, hf⟩
      · rw [dn_X6_firstWaiting_4, if_pos (by omega)]
      · rw [dn_X9_firstWaiting_4, if_pos (by omega)]
    · have c1 : ¬ S 4 5 ≤ (i : Int) := by omega
      have c2 : (0 : Int) ≤ (i : Int) ∧ (i : Int) < 60 := by omega
      have hi60 : i < 60 := by omega
      have hs : S (i + 30) 6 = T 15 i := call_eq h hi60 (by decide) (by decide)
      have h2 : S (i + 30) 2 = T 11 i := call_eq h hi60 (by decide) (by decide)
      have nxf := fun q => ih (i + 1) n m f (by omega) q (by omega) (by omega)
      have nxi := fun q => ih (i + 1) n m (i : Int) (by omega) q (by omega) (by omega)
      simp only [dn_X6_firstWaiting_4, dn_X9_firstWaiting_4, c1, q0, c2, hs, h2, if_true, if_false, and_self, Int.toNat_natCast, nmV, w32_s (show i < 1000000 by omega)]
      by_cases q1 : T 15 i = 1
      · have ok : (i : Int) = -1 ∨ (0 ≤ (i : Int) ∧ (i : Int) < T 0 19 ∧ T 15 (i : Int).toNat = 1) := Or.inr ⟨by omega, by omega, by rw [Int.toNat_natCast]; exact q1⟩
        rw [if_pos q1, if_pos q1]
        rcases hf with z | z
        · subst z
          simp only [show (-1 : Int) < 0 from by decide, if_true]
          exact nxi ok
        · have c3 : ¬ f < 0 := by omega
          have c4 : ¬ f = -1 := by omega
          have c5 : 0 ≤ f ∧ f < 60 := by omega
          have hf2 : S (f.toNat + 30) 2 = T 11 f.toNat := call_eq h (by omega) (by decide) (by decide)
          simp only [c3, c4, c5, hf2, if_true, if_false, and_self]
          by_cases q2 : T 11 f.toNat ≤ T 11 i
          · rw [if_pos q2, if_pos q2]; exact nxf (Or.inr z)
          · rw [if_neg q2, if_neg q2]; exact nxi ok
      · rw [if_neg q1, if_neg q1]
        exact nxf hf
theorem first_w (h : RE Wk (-1) b S T) : ∃ v, dn_X6_firstWaiting S = some (S, v) ∧ dn_X9_firstWaiting T = some (T, v) ∧ (v = -1 ∨ (0 ≤ v ∧ v < T 0 19 ∧ T 15 v.toNat = 1)) := sim_fw h 60 0 FU FU (-1) (by omega) (Or.inl rfl) (FU_lt (by omega)) (FU_lt (by omega))
theorem sim_fi (h : RE Wk (-1) b S T) : ∀ (d i n m : Nat) (f : Int), i + d = 12 → ((f = -1 ∧ ∀ j, j < i → T 5 j ≠ 2) ∨ (0 ≤ f ∧ f < 12 ∧ T 5 f.toNat = 2)) → d < n → d < m →
    ∃ v, dn_X6_freshestIdle_4 n f (i : Int) S = some (S, v) ∧ dn_X9_latestIdle_4 m f (i : Int) T = some (T, v) ∧ ((v = -1 ∧ ∀ j, j < 12 → T 5 j ≠ 2) ∨ (0 ≤ v ∧ v < 12 ∧ T 5 v.toNat = 2)) := by
  intro d
  induction d with
  | zero =>
    intro i n m f hd hf hn hm
    obtain ⟨n, rfl⟩ : ∃ q, n = q + 1 := ⟨n - 1, by omega⟩
    obtain ⟨m, rfl⟩ : ∃ q, m = q + 1 := ⟨m - 1, by omega⟩
    have : i = 12 := by omega
    subst this
    refine ⟨f, ?_, ?_, hf⟩
    · rw [dn_X6_freshestIdle_4, if_pos (by omega)]
    · rw [dn_X9_latestIdle_4, if_pos (by omega)]
  | succ d ih =>
    intro i n m f hd hf hn hm
    obtain ⟨n, rfl⟩ : ∃ q, n = q + 1 := ⟨n - 1, by omega⟩
    obtain ⟨m, rfl⟩ : ∃ q, m = q + 1 := ⟨m - 1, by omega⟩
    have hi : i < 12 := by omega
    have c1 : ¬ (12 : Int) ≤ (i : Int) := by omega
    have c2 : (0 : Int) ≤ (i : Int) ∧ (i : Int) < 12 := by omega
    have hst := st_eq h hi
    have nxf := fun q => ih (i + 1) n m f (by omega) q (by omega) (by omega)
    have nxi := fun q => ih (i + 1) n m (i : Int) (by omega) q (by omega) (by omega)
    simp only [dn_X6_freshestIdle_4, dn_X9_latestIdle_4, c1, c2, hst, if_true, if_false, and_self, Int.toNat_natCast, nmV, w32_s (show i < 1000000 by omega)]
    by_cases q1 : T 5 i = 2
    · have ok : ((i : Int) = -1 ∧ ∀ j, j < i + 1 → T 5 j ≠ 2) ∨ (0 ≤ (i : Int) ∧ (i : Int) < 12 ∧ T 5 (i : Int).toNat = 2) := Or.inr ⟨by omega, by omega, by rw [Int.toNat_natCast]; exact q1⟩
      have h5 : S (i + 18) 5 = T 9 i := by
        have := (h.1.1 i hi).2.2.2.2
        rw [if_pos (Or.inl q1)] at this
        exact this
      rw [if_pos q1, if_pos q1]
      rcases hf with z | z
      · obtain ⟨z, -⟩ := z
        subst z
        simp only [show (-1 : Int) < 0 from by decide, if_true]
        exact nxi ok
      · have c3 : ¬ f < 0 := by omega
        have c4 : ¬ f = -1 := by omega
        have c5 : 0 ≤ f ∧ f < 12 := by omega
        have hf2 : S (f.toNat + 18) 5 = T 9 f.toNat := by
          have := (h.1.1 f.toNat (by omega)).2.2.2.2
          rw [if_pos (Or.inl z.2.2)] at this
          exact this
        simp only [c3, c4, c5, h5, hf2, if_true, if_false, and_self]
        by_cases q2 : T 9 i ≤ T 9 f.toNat
        · rw [if_pos q2, if_pos q2]; exact nxf (Or.inr z)
        · rw [if_neg q2, if_neg q2]; exact nxi ok
    · rw [if_neg q1, if_neg q1]
      refine nxf ?_
      rcases hf with z | z
      · refine Or.inl ⟨z.1, fun j hj => ?_⟩
        by_cases qj : j = i
        · subst qj; exact q1
        · exact z.2 j (by omega)
      · exact Or.inr z
theorem fresh_i (h : RE Wk (-1) b S T) : ∃ v, dn_X6_freshestIdle S = some (S, v) ∧ dn_X9_latestIdle T = some (T, v) ∧ ((v = -1 ∧ ∀ j, j < 12 → T 5 j ≠ 2) ∨ (0 ≤ v ∧ v < 12 ∧ T 5 v.toNat = 2)) := sim_fi h 12 0 FU FU (-1) (by omega) (Or.inl ⟨rfl, fun j hj => by omega⟩) (FU_lt (by omega)) (FU_lt (by omega))
end CO
