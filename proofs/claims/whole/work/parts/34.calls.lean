/-! The calls, one by one -/
section CA
variable {Wk : (Nat → Int) → Int → Int → Int × Int} {S T S' T' : St} {e e2 b b2 : Int}
theorem RE_thr {x : Int} (h : RE Wk e b S T) : RE Wk e b S (stU T 0 33 x) := by
  refine RE_glob h (fun _ _ _ => rfl) (fun k f hk => stU_cell _ _ _ _ hk) (fun f hf => stU_slot _ _ _ _ (by omega)) ?_
  have g := h.1.2.2.1
  unfold Rg at g ⊢
  simpa [stU] using g
theorem X_in {a lo hi : Int} : dn_X8_within a lo hi S = some (S, if lo ≤ a ∧ a ≤ hi then 1 else 0) := by
  unfold dn_X8_within
  by_cases q1 : a < lo
  · rw [if_pos q1, if_neg (by omega)]
  · rw [if_neg q1]
    by_cases q2 : hi < a
    · rw [if_pos q2, if_neg (by omega)]
    · rw [if_neg q2, if_pos (by omega)]
theorem M_in {a lo hi : Int} : dn_X9_in a lo hi T = some (T, if lo ≤ a ∧ a ≤ hi then 1 else 0) := by
  unfold dn_X9_in
  by_cases q1 : a < lo
  · rw [if_pos q1, if_neg (by omega)]
  · rw [if_neg q1]
    by_cases q2 : hi < a
    · rw [if_pos q2, if_neg (by omega)]
    · rw [if_neg q2, if_pos (by omega)]
theorem RE_speed {k : Nat} {v : Int} (hk : k < 12) (hv : 1 ≤ v ∧ v ≤ 100) (h : RE Wk e b S T) : RE Wk e b (stU S 3 k v) (stU T 4 (k + 1) v) := by
  have hS : ∀ q f, q ≠ 3 → stU S 3 k v q f = S q f := fun q f hq => stU_cell _ _ _ _ hq
  have hT : ∀ q f, q ≠ 4 → stU T 4 (k + 1) v q f = T q f := fun q f hq => stU_cell _ _ _ _ hq
  obtain ⟨⟨h1, h2, h3, h4, h5⟩, ht, hv1, hv2, hv3, hv4⟩ := h
  refine ⟨⟨fun j hj => LR_off (h1 j hj) (fun f => hS _ f (by omega)) (fun q _ _ => hT q j (by omega)), ?_, ?_, ?_, ?_⟩, ?_, fun j hj => ?_, ?_, ?_, ?_⟩
  · intro c hc f hf1 hf2
    rw [hS _ _ (by omega), hT _ _ (by omega)]
    exact h2 c hc f hf1 hf2
  · unfold Rg at h3 ⊢
    simp only [hS 4 _ (by decide), hS 7 _ (by decide), hS 10 _ (by decide), hT 0 _ (by decide)]
    exact h3
  · unfold Ra at h4 ⊢
    simp only [hS 2 _ (by decide), hS 8 _ (by decide), hS 9 _ (by decide), hS 11 _ (by decide), hT 1 _ (by decide), hT 19 _ (by decide), hT 20 _ (by decide), hT 21 _ (by decide)]
    refine ⟨h4.1, fun i hi => ?_, h4.2.2⟩
    by_cases q : i = k
    · subst q; rw [stU_same, stU_same]
    · rw [stU_slot _ _ _ _ q, stU_slot _ _ _ _ (by omega)]; exact h4.2.1 i hi
  · exact Rk_of h5 (fun q f _ _ => hS q f (by omega)) (fun f => hT 22 f (by decide)) (hT 0 32 (by decide))
  · exact Rt_same ht (fun f => hS 12 f (by decide)) (hT 0 _ (by decide)) (hT 0 _ (by decide)) (hT 0 _ (by decide)) (fun c => hT 15 c (by decide))
  · have a := hv1 j hj
    unfold LI at a ⊢
    rw [hT 5 j (by decide), hT 6 j (by decide), hT 7 j (by decide), hT 15 _ (by decide), hT 0 19 (by decide)]
    exact a
  · unfold UQ at hv2 ⊢
    simp only [hT 5 _ (by decide), hT 7 _ (by decide)]
    exact hv2
  · unfold IN at hv3 ⊢
    simp only [hT 0 _ (by decide), hT 20 _ (by decide), hT 16 _ (by decide), hT 13 _ (by decide), hT 1 _ (by decide), hT 2 _ (by decide), hT 3 _ (by decide)]
    refine ⟨hv3.1, hv3.2.1, hv3.2.2.1, hv3.2.2.2.1, hv3.2.2.2.2.1, hv3.2.2.2.2.2.1, hv3.2.2.2.2.2.2.1, hv3.2.2.2.2.2.2.2.1, hv3.2.2.2.2.2.2.2.2.1, hv3.2.2.2.2.2.2.2.2.2.1, fun i hi => ?_, hv3.2.2.2.2.2.2.2.2.2.2.2⟩
    by_cases q : i = k + 1
    · subst q; rw [stU_same]; exact hv
    · rw [stU_slot _ _ _ _ q]; exact hv3.2.2.2.2.2.2.2.2.2.2.1 i hi
  · rw [hT 0 24 (by decide)]; exact hv4
theorem call_speed {a0 a1 : Int} (h : RE Wk (-1) b S T) : ∃ S' T' r, dn_X8_speed a0 a1 S = some (S', r) ∧ dn_X9_speed a0 a1 T = some (T', r) ∧ RE Wk (-1) b S' T' := by
  have h1 := RE_thr (x := 0) h
  unfold dn_X8_speed dn_X7_changeSpeed dn_X9_speed
  simp only [nmS, X_in, cal_s]
  by_cases q0 : 1 ≤ a0 ∧ a0 ≤ 12
  · rw [if_pos q0, if_neg (show ¬ (1 : Int) = 0 by decide), if_neg (show ¬ a0 < 1 by omega), if_neg (show ¬ 12 < a0 by omega)]
    by_cases q1 : 1 ≤ a1 ∧ a1 ≤ 100
    · rw [if_pos q1, if_neg (show ¬ (1 : Int) = 0 by decide), if_neg (show ¬ a1 < 1 by omega), if_pos (show a1 ≤ 100 by omega), w32_id (show r32 (a0 - 1) from ⟨by omega, by omega⟩), if_pos (by omega), if_pos (by omega), cal_s]
      refine ⟨_, _, _, rfl, rfl, ?_⟩
      have := RE_speed (k := (a0 - 1).toNat) (v := a1) (by omega) q1 h1
      rw [show (a0 - 1).toNat + 1 = a0.toNat by omega] at this
      exact this
    · rw [if_neg q1, if_pos rfl, cal_s]
      by_cases q2 : a1 < 1
      · rw [if_pos q2]; exact ⟨_, _, _, rfl, rfl, h1⟩
      · rw [if_neg q2, if_neg (show ¬ a1 ≤ 100 by omega)]; exact ⟨_, _, _, rfl, rfl, h1⟩
  · rw [if_neg q0, if_pos rfl, cal_s]
    by_cases q2 : a0 < 1
    · rw [if_pos q2]; exact ⟨_, _, _, rfl, rfl, h1⟩
    · rw [if_neg q2, if_pos (show 12 < a0 by omega)]; exact ⟨_, _, _, rfl, rfl, h1⟩
theorem call_run {a0 : Int} (h : RE Wk (-1) b S T) (hb : b + 540000 ≤ 2147483000) : ∃ S' T' r, dn_X8_run a0 S = some (S', r) ∧ dn_X9_run a0 T = some (T', r) ∧ RE Wk (-1) (b + 540000) S' T' := by
  have h1 := RE_thr (x := 0) h
  unfold dn_X8_run dn_X9_run
  rw [X_in, cal_s]
  simp only [nmS]
  by_cases q : 0 ≤ a0 ∧ a0 ≤ 500
  · rw [if_pos q, if_neg (show ¬ (1 : Int) = 0 by decide), if_neg (show ¬ a0 < 0 by omega), if_pos (show a0 ≤ 500 by omega), M_many (many_rng h1), cal_s]
    have ht : dn_X4_total 2 S = some (S, S 12 2) := X_total (k := 2) (by decide)
    obtain ⟨S', T', r, a1, a2, a3⟩ := sim_run (x1 := a0) (x2 := cn (stU T 0 33 0 15) 5 (stU T 0 33 0 0 19).toNat) q a0.toNat 0 b S (stU T 0 33 0) FU FU (by omega) (by omega) h1 (FU_lt (by omega)) (FU_lt (by omega))
    refine ⟨S', T', r, ?_, a2, RE_b a3 (by omega)⟩
    unfold dn_X6_passTicks
    rw [ht, cal_s, h1.2.1.2.2.1]
    have a1 : dn_X6_passTicks_11 FU a0 (cn (stU T 0 33 0 15) 5 (stU T 0 33 0 0 19).toNat) 0 S = some (S', r) := a1
    rw [a1, cal_s]
  · rw [if_neg q, if_pos rfl]
    by_cases q2 : a0 < 0
    · rw [if_pos q2]; exact ⟨_, _, _, rfl, rfl, RE_b h1 (by omega)⟩
    · rw [if_neg q2, if_neg (show ¬ a0 ≤ 500 by omega)]; exact ⟨_, _, _, rfl, rfl, RE_b h1 (by omega)⟩
theorem M_sl {v : Int} : ∀ (d i n : Nat), i + d = 12 → d < n → dn_X9_slots_4 n v (cn (T 5) v i) (i : Int) T = some (T, cn (T 5) v 12) := by
  intro d
  induction d with
  | zero =>
    intro i n hd hn
    obtain ⟨n, rfl⟩ : ∃ q, n = q + 1 := ⟨n - 1, by omega⟩
    rw [dn_X9_slots_4, if_pos (by omega), show i = 12 by omega]
  | succ d ih =>
    intro i n hd hn
    obtain ⟨n, rfl⟩ : ∃ q, n = q + 1 := ⟨n - 1, by omega⟩
    have c1 : ¬ (12 : Int) ≤ (i : Int) := by omega
    have c2 : (0 : Int) ≤ (i : Int) ∧ (i : Int) < 12 := by omega
    have nx := ih (i + 1) n (by omega) (by omega)
    have r := cn_rng (T 5) v i
    have w : w32 (cn (T 5) v i + 1) = cn (T 5) v i + 1 := w32_id ⟨by omega, by omega⟩
    simp only [dn_X9_slots_4, c1, c2, if_true, if_false, and_self, Int.toNat_natCast, nmV, w32_s (show i < 1000000 by omega), w]
    simp only [cn] at nx
    by_cases q : T 5 i = v
    · rw [if_pos q] at nx ⊢
      exact nx
    · rw [if_neg q] at nx ⊢
      rw [Int.add_zero] at nx
      exact nx
theorem M_slots {v : Int} : dn_X9_slots v T = some (T, cn (T 5) v 12) := M_sl 12 0 FU (by omega) (FU_lt (by omega))
theorem call_count {a0 : Int} (h : RE Wk (-1) b S T) : ∃ S' T' r, dn_X8_count a0 S = some (S', r) ∧ dn_X9_count a0 T = some (T', r) ∧ RE Wk (-1) b S' T' := by
  have h1 := RE_thr (x := 0) h
  have g := h1.1.2.2.1
  have t := h1.2.1
  unfold Rg at g
  unfold Rt at t
  have x : ∀ k : Nat, k < 9 → dn_X4_total (k : Int) S = some (S, S 12 k) := fun k hk => X_total hk
  have x2 : dn_X4_total 2 S = some (S, S 12 2) := x 2 (by decide)
  have x3 : dn_X4_total 3 S = some (S, S 12 3) := x 3 (by decide)
  have x4 : dn_X4_total 4 S = some (S, S 12 4) := x 4 (by decide)
  have x5 : dn_X4_total 5 S = some (S, S 12 5) := x 5 (by decide)
  have x6 : dn_X4_total 6 S = some (S, S 12 6) := x 6 (by decide)
  have x7 : dn_X4_total 7 S = some (S, S 12 7) := x 7 (by decide)
  unfold dn_X8_count dn_X6_figure dn_X9_count
  simp only [nmS]
  generalize stU T 0 33 0 = T1 at h1 g t ⊢
  rw [X_callersIn h1, X_callersIn h1, X_there h1, X_linesIn h1, X_linesIn h1, x2, x3, x4, x5, x6, x7, M_many (many_rng h1), M_many (many_rng h1), M_lines (l_nn h1), M_slots, M_slots]
  simp only [cal_s]
  by_cases q0 : a0 = 0
  · rw [if_pos q0, if_pos q0, cal_s]; exact ⟨_, _, _, rfl, by rw [g.2.1], h1⟩
  rw [if_neg q0, if_neg q0]
  by_cases q1 : a0 = 1
  · rw [if_pos q1, if_pos q1, cal_s]; exact ⟨_, _, _, rfl, by rw [g.1], h1⟩
  rw [if_neg q1, if_neg q1]
  by_cases q2 : a0 = 2
  · rw [if_pos q2, if_pos q2, cal_s]; exact ⟨_, _, _, rfl, rfl, h1⟩
  rw [if_neg q2, if_neg q2]
  by_cases q3 : a0 = 3
  · rw [if_pos q3, if_pos q3, cal_s]; exact ⟨_, _, _, rfl, rfl, h1⟩
  rw [if_neg q3, if_neg q3]
  by_cases q4 : a0 = 4
  · rw [if_pos q4, if_pos q4, cal_s]; exact ⟨_, _, _, rfl, rfl, h1⟩
  rw [if_neg q4, if_neg q4]
  by_cases q5 : a0 = 5
  · rw [if_pos q5, if_pos q5, cal_s]; exact ⟨_, _, _, rfl, rfl, h1⟩
  rw [if_neg q5, if_neg q5]
  by_cases q6 : a0 = 6
  · rw [if_pos q6, if_pos q6, cal_s]; exact ⟨_, _, _, rfl, rfl, h1⟩
  rw [if_neg q6, if_neg q6]
  by_cases q7 : a0 = 7
  · rw [if_pos q7, if_pos q7, cal_s]; subst q7
    rw [show w32 (7 - 2) = 5 from by decide, M_many (many_rng h1), cal_s, t.2.2.1]; exact ⟨_, _, _, rfl, rfl, h1⟩
  rw [if_neg q7, if_neg q7]
  by_cases q8 : a0 = 8
  · rw [if_pos q8, if_pos q8, cal_s]; subst q8
    rw [show w32 (8 - 2) = 6 from by decide, M_many (many_rng h1), cal_s, t.2.2.2.1]; exact ⟨_, _, _, rfl, rfl, h1⟩
  rw [if_neg q8, if_neg q8]
  by_cases q9 : a0 = 9
  · rw [if_pos q9, if_pos q9, cal_s]; subst q9
    rw [show w32 (9 - 2) = 7 from by decide, M_many (many_rng h1), cal_s, t.2.2.2.2.1]; exact ⟨_, _, _, rfl, rfl, h1⟩
  rw [if_neg q9, if_neg q9]
  by_cases q10 : a0 = 10
  · rw [if_pos q10, if_pos q10, cal_s]; subst q10
    rw [show w32 (10 - 2) = 8 from by decide, M_many (many_rng h1), cal_s, t.2.2.2.2.2]; exact ⟨_, _, _, rfl, rfl, h1⟩
  rw [if_neg q10, if_neg q10]
  by_cases q11 : a0 = 11
  · rw [if_pos q11, if_pos q11, cal_s]; exact ⟨_, _, _, rfl, by rw [g.2.2.1], h1⟩
  rw [if_neg q11, if_neg q11]
  by_cases q12 : a0 = 12
  · rw [if_pos q12, if_pos q12, cal_s]; exact ⟨_, _, _, rfl, by rw [t.1], h1⟩
  rw [if_neg q12, if_neg q12]
  by_cases q13 : a0 = 13
  · rw [if_pos q13, if_pos q13, cal_s]; exact ⟨_, _, _, rfl, by rw [t.2.1], h1⟩
  rw [if_neg q13, if_neg q13]
  by_cases q14 : a0 = 14
  · rw [if_pos q14, if_pos q14, cal_s]; exact ⟨_, _, _, rfl, by rw [g.2.2.2.1], h1⟩
  rw [if_neg q14, if_neg q14]
  by_cases q15 : a0 = 15
  · rw [if_pos q15, if_pos q15, cal_s]; exact ⟨_, _, _, rfl, by rw [g.2.2.2.2.1], h1⟩
  rw [if_neg q15, if_neg q15]
  by_cases q16 : a0 = 16
  · rw [if_pos q16, if_pos q16, cal_s]; exact ⟨_, _, _, rfl, by rw [g.2.2.2.2.2.1], h1⟩
  rw [if_neg q16, if_neg q16]
  by_cases q17 : a0 = 17
  · rw [if_pos q17, if_pos q17, cal_s]; exact ⟨_, _, _, rfl, by rw [g.2.2.2.2.2.2.2], h1⟩
  rw [if_neg q17, if_neg q17, cal_s]
  exact ⟨_, _, _, rfl, rfl, h1⟩
theorem call_slot {a0 a1 : Int} (h : RE Wk (-1) b S T) : ∃ S' T' r, dn_X8_slot a0 a1 S = some (S', r) ∧ dn_X9_slot a0 a1 T = some (T', r) ∧ RE Wk (-1) b S' T' := by
  have h1 := RE_thr (x := 0) h
  unfold dn_X8_slot dn_X6_lineFigure dn_X9_slot
  simp only [nmS]
  generalize stU T 0 33 0 = T1 at h1 ⊢
  rw [X_in, cal_s]
  by_cases q : 0 ≤ a0 ∧ a0 ≤ 11
  · obtain ⟨i, rfl⟩ : ∃ i : Nat, a0 = i := ⟨a0.toNat, by omega⟩
    have hi : i < 12 := by omega
    have c2 : (0 : Int) ≤ (i : Int) ∧ (i : Int) < 12 := by omega
    have hm := many_rng h1
    have hl := line_i h1 hi
    have hL := h1.1.1 i hi
    unfold LR at hL
    unfold LI at hl
    rw [if_pos q, if_neg (show ¬ (1 : Int) = 0 by decide), if_pos c2, if_neg (show ¬ (i : Int) < 0 by omega), if_pos (show (i : Int) < 12 by omega)]
    unfold dn_X3_figure
    simp only [Int.toNat_natCast, c2, if_true, and_self, hL.1, hL.2.1, hL.2.2.1, hL.2.2.2.1, hL.2.2.2.2]
    by_cases q0 : a1 = 0
    · rw [if_pos q0, if_pos q0, cal_s, cal_s]; exact ⟨_, _, _, rfl, rfl, h1⟩
    rw [if_neg q0, if_neg q0]
    by_cases q1 : a1 = 1
    · rw [if_pos q1, if_pos q1]
      by_cases z : T1 5 i ≤ 0
      · rw [if_pos z, if_pos (hl.2.2.1 (by omega)), cal_s, cal_s]; exact ⟨_, _, _, rfl, rfl, h1⟩
      · rw [if_neg z]
        by_cases z6 : T1 6 i = 0
        · rw [if_pos z6, if_pos z6, cal_s, cal_s]; exact ⟨_, _, _, rfl, rfl, h1⟩
        · rw [if_neg z6, if_neg z6, cal_s, cal_s]; exact ⟨_, _, _, rfl, rfl, h1⟩
    rw [if_neg q1, if_neg q1]
    by_cases q2 : a1 = 2
    · rw [if_pos q2, if_pos q2]
      by_cases z : 3 ≤ T1 5 i
      · have := (hl.2.2.2 z).1
        simp only [if_pos z]
        rw [if_neg (show ¬ T1 7 i < 0 by omega), if_pos (by omega), if_neg (show ¬ T1 5 i < 3 by omega), cal_s, cal_s, show ((T1 7 i).toNat : Int) = T1 7 i by omega]
        exact ⟨_, _, _, rfl, rfl, h1⟩
      · simp only [if_neg z]
        rw [if_pos (show (-1 : Int) < 0 by decide), if_pos (show T1 5 i < 3 by omega), cal_s, cal_s]
        exact ⟨_, _, _, rfl, rfl, h1⟩
    rw [if_neg q2, if_neg q2]
    by_cases q3 : a1 = 3
    · rw [if_pos q3, if_pos q3, cal_s, cal_s]
      by_cases z1 : T1 5 i = 1
      · rw [if_pos z1, if_pos (Or.inl z1)]; exact ⟨_, _, _, rfl, rfl, h1⟩
      · rw [if_neg z1]
        by_cases z3 : T1 5 i = 3
        · rw [if_pos z3, if_pos (Or.inr z3)]; exact ⟨_, _, _, rfl, rfl, h1⟩
        · rw [if_neg z3, if_neg (by omega)]; exact ⟨_, _, _, rfl, rfl, h1⟩
    rw [if_neg q3, if_neg q3]
    by_cases q4 : a1 = 4
    · rw [if_pos q4, if_pos q4, cal_s, cal_s]
      by_cases z1 : T1 5 i = 2
      · rw [if_pos z1, if_pos (Or.inl z1)]; exact ⟨_, _, _, rfl, rfl, h1⟩
      · rw [if_neg z1]
        by_cases z3 : T1 5 i = 4
        · rw [if_pos z3, if_pos (Or.inr z3)]; exact ⟨_, _, _, rfl, rfl, h1⟩
        · rw [if_neg z3, if_neg (by omega)]; exact ⟨_, _, _, rfl, rfl, h1⟩
    rw [if_neg q4, if_neg q4, cal_s, cal_s]
    exact ⟨_, _, _, rfl, rfl, h1⟩
  · rw [if_neg q, if_pos rfl, cal_s]
    by_cases q2 : a0 < 0
    · rw [if_pos q2]; exact ⟨_, _, _, rfl, rfl, h1⟩
    · rw [if_neg q2, if_neg (show ¬ a0 < 12 by omega)]; exact ⟨_, _, _, rfl, rfl, h1⟩
theorem call_event {a0 a1 : Int} (h : RE Wk (-1) b S T) (hb : b ≤ 2147483000) : ∃ S' T' r, dn_X8_event a0 a1 S = some (S', r) ∧ dn_X9_event a0 a1 T = some (T', r) ∧ RE Wk (-1) b S' T' := by
  have h1 := RE_thr (x := 0) h
  have hv := ev_of h1 hb
  unfold dn_X8_event dn_X6_eventFigure dn_X4_figure dn_X9_event
  simp only [nmS]
  generalize stU T 0 33 0 = T1 at h1 hv ⊢
  have he : S 10 2 = T1 0 24 := h1.1.2.2.1.2.2.2.2.2.2.2
  rw [X_in, cal_s]
  have hmn : w32 (mnI (S 10 2) 150 - 1) = mnI (S 10 2) 150 - 1 := w32_id (by unfold mnI; split <;> constructor <;> omega)
  rw [hmn]
  by_cases q : 0 ≤ a0 ∧ a0 ≤ mnI (S 10 2) 150 - 1
  · have q' : 0 ≤ a0 ∧ a0 < 150 ∧ a0 < T1 0 24 := by
      unfold mnI at q
      split at q <;> omega
    rw [if_pos q, if_neg (show ¬ (1 : Int) = 0 by decide), X_in, cal_s, if_neg (show ¬ a0 < 0 by omega), if_neg (show ¬ 150 ≤ a0 by omega), if_neg (show ¬ T1 0 24 ≤ a0 by omega)]
    by_cases q1 : 0 ≤ a1 ∧ a1 ≤ 3
    · rw [if_pos q1, if_neg (show ¬ (1 : Int) = 0 by decide), if_neg (show ¬ a1 < 0 by omega), if_pos (show a1 ≤ 3 by omega), he]
      have w1 : w32 (T1 0 24 - 1) = T1 0 24 - 1 := w32_id ⟨by omega, by omega⟩
      have w2 : w32 (T1 0 24 - 1 - a0) = T1 0 24 - 1 - a0 := w32_id ⟨by omega, by omega⟩
      rw [w1, w2, X_fm (by omega), cal_s, tmod_nn (by omega)]
      generalize hz : (T1 0 24 - 1 - a0) % 150 = z
      have hzr : 0 ≤ z ∧ z < 150 := by omega
      have w3 : w32 z = z := w32_id ⟨by omega, by omega⟩
      have w4 : w32 (z * 4) = z * 4 := w32_id ⟨by omega, by omega⟩
      have w5 : w32 (4 * z) = z * 4 := by rw [w32_id ⟨by omega, by omega⟩]; omega
      have w6 : w32 (z * 4 + a1) = z * 4 + a1 := w32_id ⟨by omega, by omega⟩
      rw [w3, w4, w5, w6, if_pos (by omega), if_pos (by omega), cal_s, cal_s, h1.1.2.2.2.1.2.2.2.2 _ (by omega)]
      exact ⟨_, _, _, rfl, rfl, h1⟩
    · rw [if_neg q1, if_pos rfl, cal_s, cal_s]
      by_cases z : a1 < 0
      · rw [if_pos z]; exact ⟨_, _, _, rfl, rfl, h1⟩
      · rw [if_neg z, if_neg (show ¬ a1 ≤ 3 by omega)]; exact ⟨_, _, _, rfl, rfl, h1⟩
  · rw [if_neg q, if_pos rfl, cal_s, cal_s]
    by_cases z : a0 < 0
    · rw [if_pos z]; exact ⟨_, _, _, rfl, rfl, h1⟩
    · rw [if_neg z]
      by_cases z2 : 150 ≤ a0
      · rw [if_pos z2]; exact ⟨_, _, _, rfl, rfl, h1⟩
      · rw [if_neg z2, if_pos]
        · exact ⟨_, _, _, rfl, rfl, h1⟩
        · unfold mnI at q
          split at q <;> omega
end CA
