/-! Lines closed and opened -/
section TE
variable {Wk : (Nat → Int) → Int → Int → Int × Int} {S T S' T' : St} {e e2 b b2 : Int}
theorem X_lin {v : Int} (h : RE Wk e b S T) : ∀ (d i n : Nat), i + d = 12 → d < n → dn_X6_linesIn_4 n v (cn (T 5) v i) (i : Int) S = some (S, cn (T 5) v 12) := by
  intro d
  induction d with
  | zero =>
    intro i n hd hn
    obtain ⟨n, rfl⟩ : ∃ q, n = q + 1 := ⟨n - 1, by omega⟩
    rw [dn_X6_linesIn_4, if_pos (by omega), show i = 12 by omega]
  | succ d ih =>
    intro i n hd hn
    obtain ⟨n, rfl⟩ : ∃ q, n = q + 1 := ⟨n - 1, by omega⟩
    have hi : i < 12 := by omega
    have c1 : ¬ (12 : Int) ≤ (i : Int) := by omega
    have c2 : (0 : Int) ≤ (i : Int) ∧ (i : Int) < 12 := by omega
    have hs := st_eq h hi
    have nx := ih (i + 1) n (by omega) (by omega)
    have r := cn_rng (T 5) v i
    have w : w32 (cn (T 5) v i + 1) = cn (T 5) v i + 1 := w32_id ⟨by omega, by omega⟩
    simp only [dn_X6_linesIn_4, c1, c2, hs, if_true, if_false, and_self, Int.toNat_natCast, nmV, w32_s (show i < 1000000 by omega), w]
    simp only [cn] at nx
    by_cases q : T 5 i = v
    · rw [if_pos q] at nx ⊢
      exact nx
    · rw [if_neg q] at nx ⊢
      rw [Int.add_zero] at nx
      exact nx
theorem X_linesIn {v : Int} (h : RE Wk e b S T) : dn_X6_linesIn v S = some (S, cn (T 5) v 12) := X_lin h 12 0 FU (by omega) (FU_lt (by omega))
/-- how many lines there are -/
def nl (T : St) : Int := 12 - cn (T 5) 0 12
theorem nl_rng (T : St) : 0 ≤ nl T ∧ nl T ≤ 12 := by
  have := cn_rng (T 5) 0 12
  unfold nl
  omega
theorem X_there (h : RE Wk e b S T) : dn_X6_linesThere S = some (S, nl T) := by
  have r := cn_rng (T 5) 0 12
  unfold dn_X6_linesThere
  rw [X_linesIn h, cal_s, w32_id ⟨by omega, by omega⟩]
  rfl
theorem M_ln (hr : ∀ j, j < 12 → 0 ≤ T 5 j) : ∀ (d i n : Nat), i + d = 12 → d < n → dn_X9_lines_4 n ((i : Int) - cn (T 5) 0 i) (i : Int) T = some (T, nl T) := by
  intro d
  induction d with
  | zero =>
    intro i n hd hn
    obtain ⟨n, rfl⟩ : ∃ q, n = q + 1 := ⟨n - 1, by omega⟩
    have : i = 12 := by omega
    subst this
    rw [dn_X9_lines_4, if_pos (by omega)]
    rfl
  | succ d ih =>
    intro i n hd hn
    obtain ⟨n, rfl⟩ : ∃ q, n = q + 1 := ⟨n - 1, by omega⟩
    have hi : i < 12 := by omega
    have c1 : ¬ (12 : Int) ≤ (i : Int) := by omega
    have c2 : (0 : Int) ≤ (i : Int) ∧ (i : Int) < 12 := by omega
    have nx := ih (i + 1) n (by omega) (by omega)
    have r := cn_rng (T 5) 0 i
    have h5 := hr i hi
    have w : w32 ((i : Int) - cn (T 5) 0 i + 1) = (i : Int) - cn (T 5) 0 i + 1 := w32_id ⟨by omega, by omega⟩
    simp only [dn_X9_lines_4, c1, c2, if_true, if_false, and_self, Int.toNat_natCast, nmV, w32_s (show i < 1000000 by omega), w]
    simp only [cn] at nx
    by_cases q : T 5 i ≤ 0
    · rw [if_pos (show T 5 i = 0 by omega), show ((i + 1 : Nat) : Int) - (cn (T 5) 0 i + 1) = (i : Int) - cn (T 5) 0 i by omega] at nx
      rw [if_pos q]
      exact nx
    · rw [if_neg (show ¬ T 5 i = 0 by omega), show ((i + 1 : Nat) : Int) - (cn (T 5) 0 i + 0) = (i : Int) - cn (T 5) 0 i + 1 by omega] at nx
      rw [if_neg q]
      exact nx
theorem M_lines (hr : ∀ j, j < 12 → 0 ≤ T 5 j) : dn_X9_lines T = some (T, nl T) := M_ln hr 12 0 FU (by omega) (FU_lt (by omega))
theorem l_nn (h : RE Wk e b S T) : ∀ j, j < 12 → 0 ≤ T 5 j := fun j hj => (line_i h hj).1.1
theorem nl_go {i : Nat} (hi : i < 12) (h : T 5 i ≠ 0) : nl (goM i T) = nl T - 1 := by
  have := cn_new (f := T 5) (g := goM i T 5) (v := 0) (c := i) (n := 12) hi h (by simp [goM, lgM, stU]) (fun j hj => go_off (by decide) (by decide) (Or.inr (Or.inr hj)))
  unfold nl
  omega
theorem go_1 {i k : Nat} : goM i T 1 k = T 1 k := go_off (by decide) (by decide) (by omega)
theorem go_04 {i : Nat} : goM i T 0 4 = T 0 4 := by simp [goM, lgM, stU]
/-- the reference closes no more -/
theorem M_rest0 (hr : ∀ j, j < 12 → 0 ≤ T 5 j) (hn : nl T ≤ T 1 5) : ∀ (d i m : Nat), i + d = 12 → d < m → dn_X9_tend_2 m (i : Int) T = dn_X9_tend_65 FU 11 T := by
  intro d
  induction d with
  | zero =>
    intro i m hd hm
    obtain ⟨m, rfl⟩ : ∃ q, m = q + 1 := ⟨m - 1, by omega⟩
    rw [dn_X9_tend_2, if_pos (by omega)]
  | succ d ih =>
    intro i m hd hm
    obtain ⟨m, rfl⟩ : ∃ q, m = q + 1 := ⟨m - 1, by omega⟩
    have c1 : ¬ (12 : Int) ≤ (i : Int) := by omega
    have c2 : (0 : Int) ≤ (i : Int) ∧ (i : Int) < 12 := by omega
    have nx := ih (i + 1) m (by omega) (by omega)
    rw [dn_X9_tend_2, if_neg c1, if_pos c2, M_lines hr, cal_s, if_pos hn]
    simp only [nmV, w32_s (show i < 1000000 by omega), nx]
    by_cases q : T 5 (i : Int).toNat = 2
    · rw [if_pos q]
      by_cases q2 : w32 (T 0 4 - T 9 (i : Int).toNat) < T 1 4
      · rw [if_pos q2]
      · rw [if_neg q2]
    · rw [if_neg q]
theorem sim_rested : ∀ (d i : Nat) (b : Int) (S T : St) (n m : Nat), i + d = 12 → b + d ≤ 2147483000 → RE Wk (-1) b S T → d < n → d < m →
    ∃ S' T', dn_X6_closeRested_16 n (nl T - T 1 5) (i : Int) S = some (S', 0) ∧ dn_X9_tend_2 m (i : Int) T = dn_X9_tend_65 FU 11 T' ∧ RE Wk (-1) (b + d) S' T' := by
  intro d
  induction d with
  | zero =>
    intro i b S T n m hd hb h hn hm
    obtain ⟨n, rfl⟩ : ∃ q, n = q + 1 := ⟨n - 1, by omega⟩
    obtain ⟨m, rfl⟩ : ∃ q, m = q + 1 := ⟨m - 1, by omega⟩
    refine ⟨S, T, ?_, ?_, by simpa using h⟩
    · rw [dn_X6_closeRested_16, if_pos (by omega)]
    · rw [dn_X9_tend_2, if_pos (by omega)]
  | succ d ih =>
    intro i b S T n m hd hb h hn hm
    have hd12 : i < 12 := by omega
    by_cases q0 : nl T - T 1 5 ≤ 0
    · refine ⟨S, T, ?_, M_rest0 (l_nn h) (by omega) (d + 1) i m (by omega) (by omega), RE_b h (by omega)⟩
      obtain ⟨n, rfl⟩ : ∃ q, n = q + 1 := ⟨n - 1, by omega⟩
      rw [dn_X6_closeRested_16, if_neg (by omega), if_pos q0]
    · obtain ⟨n, rfl⟩ : ∃ q, n = q + 1 := ⟨n - 1, by omega⟩
      obtain ⟨m, rfl⟩ : ∃ q, m = q + 1 := ⟨m - 1, by omega⟩
      have c1 : ¬ (12 : Int) ≤ (i : Int) := by omega
      have c2 : (0 : Int) ≤ (i : Int) ∧ (i : Int) < 12 := by omega
      have hs := st_eq h hd12
      have hnw := now_eq h
      have hnr := nl_rng T
      have h15 := h.2.2.2.2.1.2.2.2.2.2.2.2.2.2.1
      have go_on : ∃ S' T', dn_X6_closeRested_16 n (nl T - T 1 5) ((i + 1 : Nat) : Int) S = some (S', 0) ∧ dn_X9_tend_2 m ((i + 1 : Nat) : Int) T = dn_X9_tend_65 FU 11 T' ∧ RE Wk (-1) (b + ((d + 1 : Nat) : Int)) S' T' := by
        obtain ⟨S', T', a1, a2, a3⟩ := ih (i + 1) b S T n m (by omega) (by omega) h (by omega) (by omega)
        exact ⟨S', T', a1, a2, RE_b a3 (by omega)⟩
      rw [dn_X6_closeRested_16, dn_X9_tend_2, if_neg c1, if_neg q0, if_neg c1]
      simp only [c2, if_true, and_self, Int.toNat_natCast, hs, hnw, nmV, w32_s (show i < 1000000 by omega)]
      by_cases q : T 5 i = 2
      · rw [if_pos q, if_pos q]
        have hn4 : dn_X7_number 4 S = some (S, T 1 4) := X_num h (k := 4) (by decide)
        have h5 : S (i + 18) 5 = T 9 i := by
          have := (h.1.1 i hd12).2.2.2.2
          rw [if_pos (Or.inl q)] at this
          exact this
        rw [hn4, cal_s, h5]
        by_cases q2 : w32 (T 0 4 - T 9 i) < T 1 4
        · rw [if_pos q2, if_pos q2]
          exact go_on
        · rw [if_neg q2, if_neg q2, M_lines (l_nn h), cal_s, if_neg (show ¬ nl T ≤ T 1 5 by omega)]
          obtain ⟨g1, g2, g3⟩ := op_go hd12 h (by omega)
          rw [g1, cal_s, g2, cal_s, w32_id (show r32 (nl T - T 1 5 + -1) from ⟨by omega, by omega⟩)]
          have e1 : nl T - T 1 5 + -1 = nl (goM i T) - goM i T 1 5 := by rw [nl_go hd12 (by omega), go_1]; omega
          rw [e1]
          obtain ⟨S', T', a1, a2, a3⟩ := ih (i + 1) (b + 1) _ _ n m (by omega) (by omega) g3 (by omega) (by omega)
          exact ⟨S', T', a1, a2, RE_b a3 (by omega)⟩
      · rw [if_neg q, if_neg q]
        exact go_on
theorem M_surp0 (hr : ∀ j, j < 12 → 0 ≤ T 5 j) (hn : nl T ≤ T 1 0) : ∀ (d m : Nat), d ≤ 12 → d < m → dn_X9_tend_65 m ((d : Int) - 1) T = dn_X9_tend_103 FU (-1) T := by
  intro d
  induction d with
  | zero =>
    intro m hd hm
    obtain ⟨m, rfl⟩ : ∃ q, m = q + 1 := ⟨m - 1, by omega⟩
    rw [dn_X9_tend_65, if_pos (by omega)]
    rfl
  | succ d ih =>
    intro m hd hm
    obtain ⟨m, rfl⟩ : ∃ q, m = q + 1 := ⟨m - 1, by omega⟩
    have e : ((d + 1 : Nat) : Int) - 1 = (d : Int) := by omega
    have c1 : ¬ (d : Int) < 0 := by omega
    have c2 : (0 : Int) ≤ (d : Int) ∧ (d : Int) < 12 := by omega
    have nx := ih m (by omega) (by omega)
    have w : w32 ((d : Int) + -1) = (d : Int) - 1 := by rw [w32_id ⟨by omega, by omega⟩]; omega
    rw [e, dn_X9_tend_65, if_neg c1, if_pos c2, M_lines hr, cal_s, if_pos hn]
    simp only [nmV, w, nx]
    by_cases q : T 5 (d : Int).toNat = 2
    · rw [if_pos q]
    · rw [if_neg q]
theorem sim_surp : ∀ (d : Nat) (b : Int) (S T : St) (n m : Nat), d ≤ 12 → b + d ≤ 2147483000 → RE Wk (-1) b S T → d < n → d < m →
    ∃ S' T', dn_X6_closeSurplus_17 n (nl T - T 1 0) ((d : Int) - 1) S = some (S', 0) ∧ dn_X9_tend_65 m ((d : Int) - 1) T = dn_X9_tend_103 FU (-1) T' ∧ RE Wk (-1) (b + d) S' T' := by
  intro d
  induction d with
  | zero =>
    intro b S T n m hd hb h hn hm
    obtain ⟨n, rfl⟩ : ∃ q, n = q + 1 := ⟨n - 1, by omega⟩
    obtain ⟨m, rfl⟩ : ∃ q, m = q + 1 := ⟨m - 1, by omega⟩
    refine ⟨S, T, ?_, ?_, by simpa using h⟩
    · rw [dn_X6_closeSurplus_17, if_pos (by omega)]
    · rw [dn_X9_tend_65, if_pos (by omega)]; rfl
  | succ d ih =>
    intro b S T n m hd hb h hn hm
    have e : ((d + 1 : Nat) : Int) - 1 = (d : Int) := by omega
    have hd12 : d < 12 := by omega
    by_cases q0 : nl T - T 1 0 ≤ 0
    · refine ⟨S, T, ?_, M_surp0 (l_nn h) (by omega) (d + 1) m (by omega) (by omega), RE_b h (by omega)⟩
      obtain ⟨n, rfl⟩ : ∃ q, n = q + 1 := ⟨n - 1, by omega⟩
      rw [dn_X6_closeSurplus_17, if_neg (by omega), if_pos q0]
    · obtain ⟨n, rfl⟩ : ∃ q, n = q + 1 := ⟨n - 1, by omega⟩
      obtain ⟨m, rfl⟩ : ∃ q, m = q + 1 := ⟨m - 1, by omega⟩
      rw [e]
      have c1 : ¬ (d : Int) < 0 := by omega
      have c2 : (0 : Int) ≤ (d : Int) ∧ (d : Int) < 12 := by omega
      have hs := st_eq h hd12
      have hnr := nl_rng T
      have h10 := h.2.2.2.2.1.2.2.2.2.1
      have w : w32 ((d : Int) + -1) = (d : Int) - 1 := by rw [w32_id ⟨by omega, by omega⟩]; omega
      have go_on : ∃ S' T', dn_X6_closeSurplus_17 n (nl T - T 1 0) ((d : Int) - 1) S = some (S', 0) ∧ dn_X9_tend_65 m ((d : Int) - 1) T = dn_X9_tend_103 FU (-1) T' ∧ RE Wk (-1) (b + ((d + 1 : Nat) : Int)) S' T' := by
        obtain ⟨S', T', a1, a2, a3⟩ := ih b S T n m (by omega) (by omega) h (by omega) (by omega)
        exact ⟨S', T', a1, a2, RE_b a3 (by omega)⟩
      rw [dn_X6_closeSurplus_17, dn_X9_tend_65, if_neg c1, if_neg q0, if_neg c1]
      simp only [c2, if_true, and_self, Int.toNat_natCast, hs, nmV, w]
      by_cases q : T 5 d = 2
      · rw [if_pos q, if_pos q, M_lines (l_nn h), cal_s, if_neg (show ¬ nl T ≤ T 1 0 by omega)]
        obtain ⟨g1, g2, g3⟩ := op_go hd12 h (by omega)
        rw [g1, cal_s, g2, cal_s, w32_id (show r32 (nl T - T 1 0 + -1) from ⟨by omega, by omega⟩)]
        have e1 : nl T - T 1 0 + -1 = nl (goM d T) - goM d T 1 0 := by rw [nl_go hd12 (by omega), go_1]; omega
        rw [e1]
        obtain ⟨S', T', a1, a2, a3⟩ := ih (b + 1) _ _ n m (by omega) (by omega) g3 (by omega) (by omega)
        exact ⟨S', T', a1, a2, RE_b a3 (by omega)⟩
      · rw [if_neg q, if_neg q]
        exact go_on
/-- how many lines are wanted -/
def nw (T : St) : Int := cn (T 5) 3 12 + cn (T 5) 4 12 + cn (T 15) 1 (T 0 19).toNat
theorem M_wt2 (h : 0 ≤ T 0 19 ∧ T 0 19 ≤ 60) {a : Int} (ha : 0 ≤ a ∧ a ≤ 100) : ∀ (d i n : Nat), i + d = 60 → d < n → (i : Int) ≤ T 0 19 → dn_X9_wanted_31 n (a + cn (T 15) 1 i) (i : Int) T = some (T, a + cn (T 15) 1 (T 0 19).toNat) := by
  intro d
  induction d with
  | zero =>
    intro i n hd hn hi
    obtain ⟨n, rfl⟩ : ∃ q, n = q + 1 := ⟨n - 1, by omega⟩
    rw [dn_X9_wanted_31, if_pos (by omega), show (T 0 19).toNat = i by omega]
  | succ d ih =>
    intro i n hd hn hi
    obtain ⟨n, rfl⟩ : ∃ q, n = q + 1 := ⟨n - 1, by omega⟩
    by_cases q0 : T 0 19 ≤ (i : Int)
    · rw [dn_X9_wanted_31, if_pos (by omega), show (T 0 19).toNat = i by omega]
    · have c2 : (0 : Int) ≤ (i : Int) ∧ (i : Int) < 60 := by omega
      have nx := ih (i + 1) n (by omega) (by omega) (by omega)
      have r := cn_rng (T 15) 1 i
      have w : w32 (a + cn (T 15) 1 i + 1) = a + (cn (T 15) 1 i + 1) := by rw [w32_id ⟨by omega, by omega⟩]; omega
      simp only [dn_X9_wanted_31, q0, c2, if_true, if_false, and_self, Int.toNat_natCast, nmV, w32_s (show i < 1000000 by omega), w]
      simp only [cn] at nx
      by_cases q : T 15 i = 1
      · rw [if_pos q] at nx ⊢
        exact nx
      · rw [if_neg q] at nx ⊢
        rw [Int.add_zero] at nx
        exact nx
theorem M_wt (hr : ∀ j, j < 12 → 0 ≤ T 5 j ∧ T 5 j ≤ 4) (h : 0 ≤ T 0 19 ∧ T 0 19 ≤ 60) : ∀ (d i n : Nat), i + d = 12 → d < n → dn_X9_wanted_4 n (cn (T 5) 3 i + cn (T 5) 4 i) (i : Int) T = some (T, nw T) := by
  intro d
  induction d with
  | zero =>
    intro i n hd hn
    obtain ⟨n, rfl⟩ : ∃ q, n = q + 1 := ⟨n - 1, by omega⟩
    have : i = 12 := by omega
    subst this
    rw [dn_X9_wanted_4, if_pos (by omega)]
    have r3 := cn_rng (T 5) 3 12
    have r4 := cn_rng (T 5) 4 12
    have := M_wt2 (T := T) h (a := cn (T 5) 3 12 + cn (T 5) 4 12) (by omega) 60 0 FU (by omega) (FU_lt (by omega)) (by omega)
    simp only [cn, Int.add_zero] at this
    exact this
  | succ d ih =>
    intro i n hd hn
    obtain ⟨n, rfl⟩ : ∃ q, n = q + 1 := ⟨n - 1, by omega⟩
    have hi : i < 12 := by omega
    have c1 : ¬ (12 : Int) ≤ (i : Int) := by omega
    have c2 : (0 : Int) ≤ (i : Int) ∧ (i : Int) < 12 := by omega
    have nx := ih (i + 1) n (by omega) (by omega)
    have r3 := cn_rng (T 5) 3 i
    have r4 := cn_rng (T 5) 4 i
    have h5 := hr i hi
    have w : w32 (cn (T 5) 3 i + cn (T 5) 4 i + 1) = cn (T 5) 3 i + cn (T 5) 4 i + 1 := w32_id ⟨by omega, by omega⟩
    simp only [dn_X9_wanted_4, c1, c2, if_true, if_false, and_self, Int.toNat_natCast, nmV, w32_s (show i < 1000000 by omega), w]
    simp only [cn] at nx
    by_cases q : T 5 i < 3
    · rw [if_neg (show ¬ T 5 i = 3 by omega), if_neg (show ¬ T 5 i = 4 by omega), Int.add_zero, Int.add_zero] at nx
      rw [if_pos q]
      exact nx
    · rw [if_neg q]
      by_cases q3 : T 5 i = 3
      · rw [if_pos q3, if_neg (show ¬ T 5 i = 4 by omega), show cn (T 5) 3 i + 1 + (cn (T 5) 4 i + 0) = cn (T 5) 3 i + cn (T 5) 4 i + 1 by omega] at nx
        exact nx
      · rw [if_neg q3, if_pos (show T 5 i = 4 by omega), show cn (T 5) 3 i + 0 + (cn (T 5) 4 i + 1) = cn (T 5) 3 i + cn (T 5) 4 i + 1 by omega] at nx
        exact nx
theorem M_wanted (h : RE Wk e b S T) : dn_X9_wanted T = some (T, nw T) := by
  have := M_wt (T := T) (fun j hj => (line_i h hj).1) (many_rng h) 12 0 FU (by omega) (FU_lt (by omega))
  simp only [cn, Int.add_zero] at this
  exact this
end TE
