/-! Breaks, a tick, a run -/
section RU
variable {Wk : (Nat → Int) → Int → Int → Int × Int} {S T S' T' : St} {e e2 b b2 : Int}
/-- a break of this tick, told at place j or later, strikes slot i -/
def hit (T : St) (j i : Nat) : Prop := ∃ k : Nat, j ≤ k ∧ (k : Int) < T 0 22 ∧ T 19 k = T 0 4 ∧ T 20 k = i
/-- the class's breaks: T is the reference's memory ahead of them, T' behind them -/
theorem X_brk (hT : ∀ k f, k ≠ 6 → T' k f = T k f) (h6 : ∀ i, i < 12 → (T 5 i ≠ 0 ∧ hit T 0 i → T' 6 i = 1) ∧ (¬ (T 5 i ≠ 0 ∧ hit T 0 i) → T' 6 i = T 6 i)) : ∀ (d i : Nat) (S : St) (n : Nat), i + d = 12 → d < n → (∃ S0, RE Wk (-1) b S0 T ∧ (∀ k f, (k < 18 ∨ 30 ≤ k ∨ f ≠ 2) → S k f = S0 k f) ∧ (∀ j, j < 12 → i ≤ j → S (j + 18) 2 = T 6 j) ∧ (∀ j, j < i → S (j + 18) 2 = T' 6 j)) →
    ∃ S', dn_X6_breakLines_2 n (i : Int) S = some (S', 0) ∧ RE Wk (-1) b S' T' := by
  intro d
  induction d with
  | zero =>
    intro i S n hd hn ⟨S0, h0, hS, _, hb⟩
    obtain ⟨n, rfl⟩ : ∃ q, n = q + 1 := ⟨n - 1, by omega⟩
    refine ⟨S, by rw [dn_X6_breakLines_2, if_pos (by omega)], ⟨fun j hj => ?_, ?_, ?_, ?_, ?_⟩, ?_, fun j hj => ?_, ?_, ?_, ?_⟩
    · have a := h0.1.1 j hj
      have a2 := hb j (by omega)
      unfold LR at a ⊢
      rw [hS _ 1 (by omega), hS _ 3 (by omega), hS _ 4 (by omega), hS _ 5 (by omega), hT 5 j (by decide), hT 7 j (by decide), hT 8 j (by decide), hT 9 j (by decide)]
      exact ⟨a.1, a2, a.2.2⟩
    · intro c hc f hf1 hf2
      rw [hS _ _ (by omega), hT _ _ (by omega)]
      exact h0.1.2.1 c hc f hf1 hf2
    · have := h0.1.2.2.1
      unfold Rg at this ⊢
      simp only [hS 4 _ (Or.inl (by decide)), hS 7 _ (Or.inl (by decide)), hS 10 _ (Or.inl (by decide)), hT 0 _ (by decide)]
      exact this
    · have := h0.1.2.2.2.1
      unfold Ra at this ⊢
      simp only [hS 2 _ (Or.inl (by decide)), hS 3 _ (Or.inl (by decide)), hS 8 _ (Or.inl (by decide)), hS 9 _ (Or.inl (by decide)), hS 11 _ (Or.inl (by decide)), hT 1 _ (by decide), hT 2 _ (by decide), hT 3 _ (by decide), hT 4 _ (by decide), hT 19 _ (by decide), hT 20 _ (by decide), hT 21 _ (by decide)]
      exact this
    · exact Rk_of h0.1.2.2.2.2 (fun k f _ _ => hS k f (by omega)) (fun f => hT 22 f (by decide)) (hT 0 32 (by decide))
    · exact Rt_same h0.2.1 (fun f => hS 12 f (by omega)) (hT 0 _ (by decide)) (hT 0 _ (by decide)) (hT 0 _ (by decide)) (fun c => hT 15 c (by decide))
    · have a := h0.2.2.1 j hj
      have a6 := h6 j hj
      unfold LI at a ⊢
      rw [hT 5 j (by decide), hT 7 j (by decide), hT 15 _ (by decide), hT 0 19 (by decide)]
      refine ⟨a.1, ?_, fun z => ?_, a.2.2.2⟩
      · by_cases q : T 5 j ≠ 0 ∧ hit T 0 j
        · rw [a6.1 q]; exact Or.inr rfl
        · rw [a6.2 q]; exact a.2.1
      · rw [a6.2 (fun q => q.1 z)]; exact a.2.2.1 z
    · have := h0.2.2.2.1
      unfold UQ at this ⊢
      simp only [hT 5 _ (by decide), hT 7 _ (by decide)]
      exact this
    · have := h0.2.2.2.2.1
      unfold IN at this ⊢
      simp only [hT 0 _ (by decide), hT 20 _ (by decide), hT 16 _ (by decide), hT 13 _ (by decide), hT 1 _ (by decide), hT 2 _ (by decide), hT 3 _ (by decide), hT 4 _ (by decide)]
      exact this
    · rw [hT 0 24 (by decide)]; exact h0.2.2.2.2.2
  | succ d ih =>
    intro i S n hd hn ⟨S0, h0, hS, ha, hb⟩
    obtain ⟨n, rfl⟩ : ∃ q, n = q + 1 := ⟨n - 1, by omega⟩
    have hi : i < 12 := by omega
    have c1 : ¬ (12 : Int) ≤ (i : Int) := by omega
    have c2 : (0 : Int) ≤ (i : Int) ∧ (i : Int) < 12 := by omega
    have hst : S (i + 18) 1 = T 5 i := by rw [hS _ 1 (by omega)]; exact st_eq h0 hi
    have hnow : S 4 6 = T 0 4 := by rw [hS 4 6 (by omega)]; exact now_eq h0
    have a6 := h6 i hi
    -- the strike is asked of S; it reads what S0 holds
    have hstr : ∀ (d j n : Nat), j + d = 60 → d < n → (hit T j i → dn_X0_strike_2 n (T 0 4) (i : Int) (j : Int) S = some (S, 1)) ∧ (¬ hit T j i → dn_X0_strike_2 n (T 0 4) (i : Int) (j : Int) S = some (S, 0)) := by
      have hbr := h0.2.2.2.2.1.2.1
      have hbe : S 7 2 = T 0 22 := by rw [hS 7 2 (by omega)]; exact h0.1.2.2.1.2.2.2.2.2.2.1
      intro d
      induction d with
      | zero =>
        intro j n hd hn
        obtain ⟨n, rfl⟩ : ∃ q, n = q + 1 := ⟨n - 1, by omega⟩
        refine ⟨fun ⟨k, h1, h2, _⟩ => by omega, fun _ => ?_⟩
        rw [dn_X0_strike_2, if_pos (by omega)]
      | succ d ih =>
        intro j n hd hn
        obtain ⟨n, rfl⟩ : ∃ q, n = q + 1 := ⟨n - 1, by omega⟩
        by_cases q0 : T 0 22 ≤ (j : Int)
        · refine ⟨fun ⟨k, h1, h2, _⟩ => by omega, fun _ => ?_⟩
          rw [dn_X0_strike_2, if_pos (by omega)]
        · have nx := ih (j + 1) n (by omega) (by omega)
          have c1 : ¬ S 7 2 ≤ (j : Int) := by omega
          have c2 : (0 : Int) ≤ (j : Int) ∧ (j : Int) < 60 := by omega
          have e8 : S 8 j = T 19 j := by rw [hS 8 j (by omega)]; exact h0.1.2.2.2.1.2.2.1 j (by omega)
          have e9 : S 9 j = T 20 j := by rw [hS 9 j (by omega)]; exact h0.1.2.2.2.1.2.2.2.1 j (by omega)
          have skip : ¬ (T 19 j = T 0 4 ∧ T 20 j = i) → (hit T j i ↔ hit T (j + 1) i) := fun q => by
            constructor
            · intro ⟨k, h1, h2, h3, h4⟩
              refine ⟨k, ?_, h2, h3, h4⟩
              have : k ≠ j := fun z => by subst z; exact q ⟨h3, h4⟩
              omega
            · intro ⟨k, h1, h2⟩
              exact ⟨k, by omega, h2⟩
          rw [dn_X0_strike_2, if_neg c1, if_pos c2]
          simp only [Int.toNat_natCast, e8, e9, nmV, w32_s (show j < 1000000 by omega)]
          by_cases q1 : T 19 j = T 0 4
          · rw [if_pos q1]
            by_cases q2 : T 20 j = i
            · rw [if_pos q2]
              exact ⟨fun _ => rfl, fun z => absurd ⟨j, Nat.le_refl _, by omega, q1, q2⟩ z⟩
            · rw [if_neg q2, skip (fun z => q2 z.2)]
              exact nx
          · rw [if_neg q1, skip (fun z => q1 z.1)]
            exact nx
    have hs2 : (hit T 0 i → dn_X0_strike (T 0 4) (i : Int) S = some (S, 1)) ∧ (¬ hit T 0 i → dn_X0_strike (T 0 4) (i : Int) S = some (S, 0)) := hstr 60 0 FU (by omega) (FU_lt (by omega))
    have same : ¬ (T 5 i ≠ 0 ∧ hit T 0 i) → ∃ S0, RE Wk (-1) b S0 T ∧ (∀ k f, (k < 18 ∨ 30 ≤ k ∨ f ≠ 2) → S k f = S0 k f) ∧ (∀ j, j < 12 → i + 1 ≤ j → S (j + 18) 2 = T 6 j) ∧ (∀ j, j < i + 1 → S (j + 18) 2 = T' 6 j) := fun q =>
      ⟨S0, h0, hS, fun j hj hj2 => ha j hj (by omega), fun j hj => by
        by_cases qj : j = i
        · subst qj; rw [ha j hi (Nat.le_refl _), a6.2 q]
        · exact hb j (by omega)⟩
    rw [dn_X6_breakLines_2, if_neg c1, if_pos c2]
    simp only [Int.toNat_natCast, hst, hnow, nmV, nmS, w32_s (show i < 1000000 by omega)]
    by_cases q5 : T 5 i = 0
    · rw [if_pos q5]
      exact ih (i + 1) S n (by omega) (by omega) (same (fun z => z.1 q5))
    · rw [if_neg q5]
      by_cases qh : hit T 0 i
      · rw [hs2.1 qh, cal_s, if_neg (by decide)]
        refine ih (i + 1) _ n (by omega) (by omega) ⟨S0, h0, fun k f hk => ?_, fun j hj hj2 => ?_, fun j hj => ?_⟩
        · by_cases z : k = i + 18
          · subst z; rw [stU_slot _ _ _ _ (by omega)]; exact hS _ f hk
          · rw [stU_cell _ _ _ _ z]; exact hS k f hk
        · rw [stU_cell _ _ _ _ (by omega)]; exact ha j hj (by omega)
        · by_cases qj : j = i
          · subst qj; rw [stU_same, a6.1 ⟨q5, qh⟩]
          · rw [stU_cell _ _ _ _ (by omega)]; exact hb j (by omega)
      · rw [hs2.2 qh, cal_s, if_pos rfl]
        exact ih (i + 1) S n (by omega) (by omega) (same (fun z => qh z.2))
/-- what the reference does in a tick behind the breaks -/
def TK (k : Int → Int → Int → St → Option (St × Int)) (x1 x2 x3 : Int) (T : St) : Option (St × Int) := cal (dn_X9_turnSlots T) fun S13 _ => cal (dn_X9_doWork S13) fun S16 _ => cal (dn_X9_finish S16) fun S19 _ => cal (dn_X9_come S19) fun S22 _ => cal (dn_X9_share S22) fun S25 _ => cal (dn_X9_tend S25) fun S28 _ => nmV (w32 (x3 + 1)) fun v31 => k x1 x2 v31 S28
theorem M_brk {k : Int → Int → Int → St → Option (St × Int)} {x1 x2 x3 : Int} : ∀ (d j : Nat) (T : St) (m : Nat), j + d = 60 → d < m → (0 ≤ T 0 22 ∧ T 0 22 ≤ 60) → (∀ i, i < 60 → 0 ≤ T 20 i ∧ T 20 i < 12) → (∀ i, i < 12 → 0 ≤ T 5 i) →
    ∃ T', dn_X9_run_44 k m x1 x2 x3 (j : Int) T = TK k x1 x2 x3 T' ∧ (∀ q f, q ≠ 6 → T' q f = T q f) ∧ (∀ i, i < 12 → (T 5 i ≠ 0 ∧ hit T j i → T' 6 i = 1) ∧ (¬ (T 5 i ≠ 0 ∧ hit T j i) → T' 6 i = T 6 i)) := by
  intro d
  induction d with
  | zero =>
    intro j T m hd hm hb hs h5
    obtain ⟨m, rfl⟩ : ∃ q, m = q + 1 := ⟨m - 1, by omega⟩
    refine ⟨T, ?_, fun _ _ _ => rfl, fun i hi => ⟨fun ⟨_, q, h1, h2, _⟩ => by omega, fun _ => rfl⟩⟩
    rw [dn_X9_run_44, if_pos (by omega)]
    rfl
  | succ d ih =>
    intro j T m hd hm hb hs h5
    obtain ⟨m, rfl⟩ : ∃ q, m = q + 1 := ⟨m - 1, by omega⟩
    by_cases q0 : T 0 22 ≤ (j : Int)
    · refine ⟨T, ?_, fun _ _ _ => rfl, fun i hi => ⟨fun ⟨_, q, h1, h2, _⟩ => by omega, fun _ => rfl⟩⟩
      rw [dn_X9_run_44, if_pos (by omega)]
      rfl
    · have c2 : (0 : Int) ≤ (j : Int) ∧ (j : Int) < 60 := by omega
      have hsj := hs j (by omega)
      have hsj' : 0 ≤ T 20 j ∧ T 20 j < 12 := hsj
      have skip : ∀ i : Nat, ¬ (T 19 j = T 0 4 ∧ T 20 j = i) → (hit T j i ↔ hit T (j + 1) i) := fun i q => by
        constructor
        · intro ⟨k, h1, h2, h3, h4⟩
          refine ⟨k, ?_, h2, h3, h4⟩
          have : k ≠ j := fun z => by subst z; exact q ⟨h3, h4⟩
          omega
        · intro ⟨k, h1, h2⟩
          exact ⟨k, by omega, h2⟩
      rw [dn_X9_run_44, if_neg q0, if_pos c2]
      simp only [Int.toNat_natCast, nmV, nmS, w32_s (show j < 1000000 by omega)]
      by_cases q1 : T 19 j = T 0 4
      · rw [if_pos q1, if_pos hsj']
        obtain ⟨s, hse⟩ : ∃ s : Nat, T 20 j = s := ⟨(T 20 j).toNat, by omega⟩
        have hs12 : s < 12 := by omega
        rw [hse, Int.toNat_natCast]
        by_cases q2 : T 5 s ≤ 0
        · rw [if_pos q2]
          have q3 : T 5 s = 0 := by have := h5 s hs12; omega
          obtain ⟨T', a1, a2, a3⟩ := ih (j + 1) T m (by omega) (by omega) hb hs h5
          refine ⟨T', a1, a2, fun i hi => ?_⟩
          by_cases qi : i = s
          · subst qi
            have := a3 i hi
            exact ⟨fun z => absurd q3 z.1, fun z => this.2 (fun y => y.1 q3)⟩
          · rw [skip i (fun z => qi (by omega))]
            exact a3 i hi
        · rw [if_neg q2]
          have o : ∀ q f, q ≠ 6 → stU T 6 s 1 q f = T q f := fun q f hq => stU_cell _ _ _ _ hq
          obtain ⟨T', a1, a2, a3⟩ := ih (j + 1) (stU T 6 s 1) m (by omega) (by omega) (by rw [o 0 22 (by decide)]; exact hb) (fun i hi => by rw [o 20 i (by decide)]; exact hs i hi) (fun i hi => by rw [o 5 i (by decide)]; exact h5 i hi)
          refine ⟨T', a1, fun q f hq => by rw [a2 q f hq, o q f hq], fun i hi => ?_⟩
          have hh : ∀ i, hit (stU T 6 s 1) (j + 1) i ↔ hit T (j + 1) i := fun i => by
            unfold hit
            simp only [o 0 _ (by decide), o 19 _ (by decide), o 20 _ (by decide)]
          have a := a3 i hi
          rw [o 5 i (by decide), hh] at a
          by_cases qi : i = s
          · subst qi
            refine ⟨fun _ => ?_, fun z => absurd ⟨by omega, j, Nat.le_refl _, by omega, q1, hse⟩ z⟩
            by_cases y : T 5 i ≠ 0 ∧ hit T (j + 1) i
            · exact a.1 y
            · rw [a.2 y, stU_same]
          · rw [skip i (fun z => qi (by omega))]
            refine ⟨a.1, fun z => ?_⟩
            rw [a.2 z, stU_slot _ _ _ _ qi]
      · rw [if_neg q1]
        obtain ⟨T', a1, a2, a3⟩ := ih (j + 1) T m (by omega) (by omega) hb hs h5
        refine ⟨T', a1, a2, fun i hi => ?_⟩
        rw [skip i (fun z => q1 z.1)]
        exact a3 i hi
theorem op_now (h : RE Wk e b S T) : RE Wk e b (stU S 4 6 (w32 (S 4 6 + 1))) (stU T 0 4 (w32 (T 0 4 + 1))) := by
  refine RE_glob h (fun k f hk => stU_cell _ _ _ _ hk) (fun k f hk => stU_cell _ _ _ _ hk) (fun f hf => stU_slot _ _ _ _ (by omega)) ?_
  have g := h.1.2.2.1
  unfold Rg at g ⊢
  simp [stU, g.2.1]
  exact ⟨g.1, g.2.2.1, g.2.2.2.1, g.2.2.2.2.1, g.2.2.2.2.2.1, g.2.2.2.2.2.2.1, g.2.2.2.2.2.2.2⟩
theorem X_total {k : Nat} (hk : k < 9) : dn_X4_total (k : Int) S = some (S, S 12 k) := by
  unfold dn_X4_total
  rw [if_pos (by omega), Int.toNat_natCast]
/-- n ticks -/
theorem sim_run {x1 x2 : Int} (hx : 0 ≤ x1 ∧ x1 ≤ 500) : ∀ (d i : Nat) (b : Int) (S T : St) (n m : Nat), (i : Int) + d = x1 → b + 1080 * d ≤ 2147483000 → RE Wk (-1) b S T → d < n → d < m →
    ∃ S' T' r, dn_X6_passTicks_11 n x1 x2 (i : Int) S = some (S', r) ∧ dn_X9_run_26 m x1 x2 (i : Int) T = some (T', r) ∧ RE Wk (-1) (b + 1080 * d) S' T' := by
  intro d
  induction d with
  | zero =>
    intro i b S T n m hd hb h hn hm
    obtain ⟨n, rfl⟩ : ∃ q, n = q + 1 := ⟨n - 1, by omega⟩
    obtain ⟨m, rfl⟩ : ∃ q, m = q + 1 := ⟨m - 1, by omega⟩
    have ht : dn_X4_total 2 S = some (S, S 12 2) := X_total (k := 2) (by decide)
    refine ⟨S, T, w32 (cn (T 15) 5 (T 0 19).toNat - x2), ?_, ?_, by simpa using h⟩
    · rw [dn_X6_passTicks_11, if_pos (by omega), ht, cal_s, h.2.1.2.2.1]
    · rw [dn_X9_run_26, if_pos (by omega), M_many (many_rng h), cal_s]
  | succ d ih =>
    intro i b S T n m hd hb h hn hm
    obtain ⟨n, rfl⟩ : ∃ q, n = q + 1 := ⟨n - 1, by omega⟩
    obtain ⟨m, rfl⟩ : ∃ q, m = q + 1 := ⟨m - 1, by omega⟩
    have h1 := op_now h
    rw [dn_X6_passTicks_11, dn_X9_run_26, if_neg (by omega), if_neg (by omega)]
    simp only [nmS]
    generalize stU S 4 6 (w32 (S 4 6 + 1)) = S1 at h1 ⊢
    generalize stU T 0 4 (w32 (T 0 4 + 1)) = T1 at h1 ⊢
    obtain ⟨T2, m1, m2, m3⟩ := M_brk (k := fun x1_ x2_ x3_ S_ => dn_X9_run_26 m x1_ x2_ x3_ S_) (x1 := x1) (x2 := x2) (x3 := (i : Int)) 60 0 T1 FU (by omega) (FU_lt (by omega)) h1.2.2.2.2.1.2.1 h1.2.2.2.2.1.2.2.1 (l_nn h1)
    have m1 : dn_X9_run_44 (fun x1_ x2_ x3_ S_ => dn_X9_run_26 m x1_ x2_ x3_ S_) FU x1 x2 (i : Int) 0 T1 = _ := m1
    rw [m1]
    obtain ⟨S2, b1, b2⟩ := X_brk (b := b) m2 m3 12 0 S1 FU (by omega) (FU_lt (by omega)) ⟨S1, h1, fun _ _ _ => rfl, fun j hj _ => br_eq h1 hj, fun j hj => by omega⟩
    have b1 : dn_X6_breakLines S1 = some (S2, 0) := b1
    obtain ⟨S3, T3, c1, c2, c3⟩ := ph_turn b2 (by omega)
    obtain ⟨S4, S5, T5, d1, d2, d3, d4⟩ := ph_work c3 (by omega)
    obtain ⟨S6, S7, T7, e1, e2, e3, e4⟩ := ph_finish d4 (by omega)
    obtain ⟨S8, S9, T9, f1, f2, f3, f4⟩ := ph_come e4 (by omega)
    obtain ⟨S10, T10, g1, g2, g3⟩ := ph_share f4 (by omega)
    obtain ⟨S11, S12, S13, T13, i1, i2, i3, i4, i5⟩ := ph_tend g3 (by omega)
    rw [b1, cal_s, c1, cal_s, d1, cal_s, d2, cal_s, e1, cal_s, e2, cal_s, f1, cal_s, f2, cal_s, g1, cal_s, i1, cal_s, i2, cal_s, i3, cal_s]
    unfold TK
    rw [c2, cal_s, d3, cal_s, e3, cal_s, f3, cal_s, g2, cal_s, i4, cal_s]
    simp only [nmV, w32_s (show i < 1000000 by omega)]
    obtain ⟨S', T', r, j1, j2, j3⟩ := ih (i + 1) (b + 1080) S13 T13 n m (by omega) (by omega) (RE_b i5 (by omega)) (by omega) (by omega)
    exact ⟨S', T', r, j1, j2, RE_b j3 (by omega)⟩
end RU
