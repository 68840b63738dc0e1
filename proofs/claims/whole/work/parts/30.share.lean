/-! Lines handed out -/
section SH
variable {Wk : (Nat → Int) → Int → Int → Int × Int} {S T S' T' : St} {e e2 b b2 : Int}
theorem op_try {i c : Nat} {x : Int} (hi : i < 12) (h : RE Wk (-1) b S T) (hb : b ≤ 2147483000) (hc : (c : Int) < T 0 19) (h3 : T 5 i = 2) (hs : T 15 c = 1) :
    RE Wk (-1) (b + 1) (lgX 8 (T 0 4) c i (stU (becX i 3 c x 0 S) (c + 30) 6 2)) (lgM 8 c i (stU (stU (stU (stU T 5 i 3) 7 i c) 8 i x) 15 c 2)) ∧ (∀ j, lgM 8 c i (stU (stU (stU (stU T 5 i 3) 7 i c) 8 i x) 15 c 2) 5 j = if j = i then 3 else T 5 j) := by
  have hm := many_rng h
  have hc60 : c < 60 := by omega
  have hT1 : ∀ k f, (k < 5 ∨ 9 < k ∨ f ≠ i) → stU (stU (stU T 5 i 3) 7 i c) 8 i x k f = T k f := fun k f hk => by
    unfold stU
    by_cases q5 : k = 5 <;> by_cases q7 : k = 7 <;> by_cases q8 : k = 8 <;> by_cases qf : f = i <;> simp [q5, q7, q8, qf] <;> omega
  have hL := line_i h hi
  have a : IV (c : Int) b (stU (stU (stU T 5 i 3) 7 i c) 8 i x) := by
    refine IV_line (e := (c : Int)) (b := b) hi ?_ (fun k f _ _ hk => hT1 k f hk) (hT1 0 19 (by omega)) (hT1 0 22 (by omega)) (by rw [hT1 0 24 (by omega)]; exact h.2.2.2.2.2) ?_ ?_
    · refine ⟨fun j hj => ?_, h.2.2.2⟩
      have a := h.2.2.1 j hj
      unfold LI at a ⊢
      exact ⟨a.1, a.2.1, a.2.2.1, fun q => ⟨(a.2.2.2 q).1, fun _ => (a.2.2.2 q).2 (by have := (a.2.2.2 q).1; omega)⟩⟩
    · unfold LI at hL ⊢
      simp [stU]
      exact ⟨hL.2.1, by omega⟩
    · intro _ j hj hji q2 q3
      have e7 : stU (stU (stU T 5 i 3) 7 i (c : Int)) 8 i x 7 i = c := by simp [stU]
      rw [e7] at q3
      exact no_try h (c := c) (by omega) j hj (by omega) q3 q2
  have b1 : IV (-1) b (stU (stU (stU (stU T 5 i 3) 7 i c) 8 i x) 15 c 2) :=
    IV_st (e := (c : Int)) a (fun j hj q1 q2 _ => ⟨fun _ => rfl, fun _ => by omega⟩) (fun j hj q1 q2 _ => q2)
  have r0 : R0 Wk (stU (becX i 3 c x 0 S) (c + 30) 6 2) (stU (stU (stU (stU T 5 i 3) 7 i c) 8 i x) 15 c 2) := by
    refine R0_call (f := 6) hc60 (by decide) (R0_line hi h.1 (fun k f hk => becX_off hk) hT1 ?_)
    have := h.1.1 i hi
    unfold LR at this ⊢
    simp [becX, stU, this]
  have rt : Rt (stU (becX i 3 c x 0 S) (c + 30) 6 2) (stU (stU (stU (stU T 5 i 3) 7 i c) 8 i x) 15 c 2) := by
    have ht := h.2.1
    have o : ∀ v, 5 ≤ v → cn (stU (stU (stU (stU T 5 i 3) 7 i c) 8 i x) 15 c 2 15) v (T 0 19).toNat = cn (T 15) v (T 0 19).toNat := fun v hv5 => by
      apply cn_congr
      intro y _
      by_cases q : y = c
      · subst q; rw [stU_same]; omega
      · rw [stU_slot _ _ _ _ q, hT1 15 y (by omega)]
    have e0 : ∀ f, stU (stU (stU (stU T 5 i 3) 7 i c) 8 i x) 15 c 2 0 f = T 0 f := fun f => by rw [stU_cell _ _ _ _ (by decide), hT1 0 f (by omega)]
    have eS : ∀ f, stU (becX i 3 c x 0 S) (c + 30) 6 2 12 f = S 12 f := fun f => by rw [stU_cell _ _ _ _ (by omega), becX_off (by omega)]
    unfold Rt at ht ⊢
    simp only [e0, eS, o 5 (by decide), o 6 (by decide), o 7 (by decide), o 8 (by decide)]
    exact ht
  refine ⟨RE_log ⟨r0, rt, b1⟩ (by decide) (by rw [stU_cell _ _ _ _ (by decide), hT1 0 4 (by omega)]), fun j => ?_⟩
  simp [lgM, stU]
theorem op_tries (h : RE Wk e b S T) : RE Wk e b (stU S 4 7 (w32 (S 4 7 + 1))) (stU T 0 25 (w32 (T 0 25 + 1))) := by
  refine RE_glob h (fun k f hk => stU_cell _ _ _ _ hk) (fun k f hk => stU_cell _ _ _ _ hk) (fun f hf => stU_slot _ _ _ _ (by omega)) ?_
  have g := h.1.2.2.1
  unfold Rg at g ⊢
  simp [stU, g.2.2.1]
  exact ⟨g.1, g.2.1, g.2.2.2.1, g.2.2.2.2.1, g.2.2.2.2.2.1, g.2.2.2.2.2.2.1, g.2.2.2.2.2.2.2⟩
theorem X_num (h : RE Wk e b S T) {k : Nat} (hk : k < 6) : dn_X7_number (k : Int) S = some (S, T 1 k) := by
  unfold dn_X7_number
  rw [if_pos (by omega), Int.toNat_natCast, h.1.2.2.2.1.1 k hk]
theorem cn_less {f g : Nat → Int} {v : Int} {c n : Nat} (hc : c < n) (h1 : f c = v) (h2 : g c ≠ v) (h3 : ∀ i, i ≠ c → g i = f i) : cn g v n + 1 = cn f v n :=
  (cn_new (f := g) (g := f) hc h2 h1 (fun i hi => (h3 i hi).symm)).symm
theorem cn_pos {f : Nat → Int} {v : Int} {c n : Nat} (hc : c < n) (h1 : f c = v) : 1 ≤ cn f v n := by
  have r := cn_rng f v n
  rcases (show cn f v n = 0 ∨ 1 ≤ cn f v n by omega) with z | z
  · exact absurd h1 (cn_zero z c hc)
  · exact z
/-- one hand-out -/
theorem op_hand {i c : Nat} (hi : i < 12) (h : RE Wk (-1) b S T) (hb : b ≤ 2147483000) (hc : (c : Int) < T 0 19) (h3 : T 5 i = 2) (hs : T 15 c = 1) (k : Int → Int → St → Option (St × Int)) :
    ∃ S1 T1, dn_X6_handTo (c : Int) (i : Int) S = some (S1, 0) ∧ RE Wk (-1) (b + 1) S1 T1 ∧ cn (T1 5) 2 12 + 1 = cn (T 5) 2 12 ∧
      (nmV (T 1 2) fun v9 => if v9 < 0 then dn_X9_share_41 k (c : Int) (i : Int) v9 T else nmS (stU T 0 25 (w32 (T 0 25 + 1))) fun S57 => dn_X9_share_41 k (c : Int) (i : Int) v9 S57) = cal (dn_X9_firstWaiting T1) fun S16 v17 => cal (dn_X9_latestIdle S16) fun S19 v20 => k v17 v20 S19 := by
  have hm := many_rng h
  have hxr := h.2.2.2.2.1.2.2.2.2.2.2.1
  have c1 : (0 : Int) ≤ (i : Int) ∧ (i : Int) < 12 := by omega
  have c2 : (0 : Int) ≤ (c : Int) ∧ (c : Int) < 60 := by omega
  -- from a world on, with tries told or not
  have core : ∀ S0 T0, RE Wk (-1) b S0 T0 → (∀ f, T0 5 f = T 5 f) → T0 0 19 = T 0 19 → T0 15 c = 1 → ∃ S1 T1, dn_X6_handTo_23 (c : Int) (i : Int) (T 1 2) S0 = some (S1, 0) ∧ RE Wk (-1) (b + 1) S1 T1 ∧ cn (T1 5) 2 12 + 1 = cn (T 5) 2 12 ∧ dn_X9_share_41 k (c : Int) (i : Int) (T 1 2) T0 = cal (dn_X9_firstWaiting T1) fun S16 v17 => cal (dn_X9_latestIdle S16) fun S19 v20 => k v17 v20 S19 := by
    intro S0 T0 h0 e5 e19 e15
    have hbr := br_eq h0 hi
    have hnw := now_eq h0
    have len : ∃ S1 T1, dn_X6_lend (i : Int) (c : Int) S0 = some (S1, 0) ∧ dn_X9_lend (i : Int) (c : Int) T0 = some (T1, 0) ∧ RE Wk (-1) (b + 1) S1 T1 ∧ cn (T1 5) 2 12 + 1 = cn (T 5) 2 12 := by
      obtain ⟨S1, T1, l1, l2, l3, l4⟩ := op_lend (c := c) hi h0 hb (by omega) (Or.inl (by rw [e5]; exact h3)) (Or.inl e15) (fun j hj hji q9 q8 => no_try h0 (c := c) (by omega) j hj (by omega) q8 q9)
      refine ⟨S1, T1, l1, l2, l3, cn_less (c := i) hi h3 ?_ (fun j hj => ?_)⟩
      · rw [l4, if_pos rfl]; decide
      · rw [l4, if_neg hj, e5]
    by_cases q1 : T 1 2 ≤ 0
    · by_cases q2 : T 1 2 = 0
      · by_cases q6 : T0 6 i = 0
        · obtain ⟨S1, T1, l1, l2, l3, l4⟩ := len
          refine ⟨S1, T1, ?_, l3, l4, ?_⟩
          · unfold dn_X6_handTo_23
            rw [if_pos q1, if_pos q2, if_pos c1, Int.toNat_natCast, hbr, if_pos q6, l1, cal_s]
          · unfold dn_X9_share_41
            rw [if_pos q1, if_pos q2, if_pos c1, Int.toNat_natCast, if_pos q6, l2, cal_s]
        · obtain ⟨g1, g2, g3⟩ := op_go hi h0 hb
          refine ⟨drX i S0, goM i T0, ?_, g3, cn_less (c := i) hi h3 ?_ (fun j hj => ?_), ?_⟩
          · unfold dn_X6_handTo_23
            rw [if_pos q1, if_pos q2, if_pos c1, Int.toNat_natCast, hbr, if_neg q6, g1, cal_s]
          · have : goM i T0 5 i = 0 := by simp [goM, lgM, stU]
            rw [this]; decide
          · rw [go_off (by decide) (by decide) (Or.inr (Or.inr hj)), e5]
          · unfold dn_X9_share_41
            rw [if_pos q1, if_pos q2, if_pos c1, Int.toNat_natCast, if_neg q6, g2, cal_s]
      · obtain ⟨S1, T1, l1, l2, l3, l4⟩ := len
        refine ⟨S1, T1, ?_, l3, l4, ?_⟩
        · unfold dn_X6_handTo_23
          rw [if_pos q1, if_neg q2, l1, cal_s]
        · unfold dn_X9_share_41
          rw [if_pos q1, if_neg q2, l2, cal_s]
    · have ev := ev_of h0 hb
      obtain ⟨t1, t2⟩ := op_try (c := c) (x := T 1 2) hi h0 hb (by omega) (by rw [e5]; exact h3) e15
      refine ⟨_, _, ?_, t1, cn_less (c := i) hi h3 ?_ (fun j hj => ?_), ?_⟩
      · unfold dn_X6_handTo_23
        rw [if_neg q1, if_pos c1, X_try, cal_s, if_pos c2]
        simp only [nmS, Int.toNat_natCast]
        have e46 : stU (becX i 3 c (T 1 2) 0 S0) (c + 30) 6 2 4 6 = T0 0 4 := by rw [stU_cell _ _ _ _ (by omega), becX_off (by omega)]; exact hnw
        have e10 : stU (becX i 3 c (T 1 2) 0 S0) (c + 30) 6 2 10 2 = S0 10 2 := by rw [stU_cell _ _ _ _ (by omega), becX_off (by omega)]
        rw [e46, X_add (by rw [e10]; exact ev.2) (by decide), cal_s]
      · rw [t2, if_pos rfl]; decide
      · rw [t2, if_neg hj, e5]
      · unfold dn_X9_share_41
        rw [if_neg q1, if_pos c1]
        simp only [nmS, Int.toNat_natCast]
        rw [if_pos c2, M_say (by simpa [stU] using ev.1), cal_s]
  have hn2 := X_num h (k := 2) (by decide)
  have hn2 : dn_X7_number 2 S = some (S, T 1 2) := hn2
  unfold dn_X6_handTo
  rw [hn2, cal_s]
  simp only [nmV, nmS]
  by_cases q : T 1 2 < 0
  · rw [if_pos q, if_pos q]
    exact core S T h (fun _ => rfl) rfl hs
  · rw [if_neg q, if_neg q]
    exact core _ _ (op_tries h) (fun f => stU_cell _ _ _ _ (by decide)) (stU_slot _ _ _ _ (by decide)) (by rw [stU_cell _ _ _ _ (by decide)]; exact hs)
theorem sim_share : ∀ (d t : Nat) (b : Int) (S T : St) (n m : Nat) (v w : Int), t + d = 12 → b + d ≤ 2147483000 → RE Wk (-1) b S T → cn (T 5) 2 12 ≤ d → dn_X6_firstWaiting S = some (S, v) → dn_X6_freshestIdle S = some (S, w) → (v = -1 ∨ (0 ≤ v ∧ v < T 0 19 ∧ T 15 v.toNat = 1)) → (w = -1 ∨ (0 ≤ w ∧ w < 12 ∧ T 5 w.toNat = 2)) → d < n → d < m →
    ∃ S' T', dn_X6_handOut_2 n (t : Int) S = some (S', 0) ∧ dn_X9_share_10 m v w T = some (T', 0) ∧ RE Wk (-1) (b + d) S' T' := by
  intro d
  induction d with
  | zero =>
    intro t b S T n m v w hd hb h hcn hv hw hv2 hw2 hn hm
    obtain ⟨n, rfl⟩ : ∃ q, n = q + 1 := ⟨n - 1, by omega⟩
    obtain ⟨m, rfl⟩ : ∃ q, m = q + 1 := ⟨m - 1, by omega⟩
    have hw1 : w = -1 := by
      rcases hw2 with z | z
      · exact z
      · have := cn_pos (f := T 5) (c := w.toNat) (n := 12) (by omega) z.2.2
        omega
    refine ⟨S, T, ?_, ?_, by simpa using h⟩
    · rw [dn_X6_handOut_2, if_pos (by omega)]
    · rw [dn_X9_share_10]
      by_cases q : v = -1
      · rw [if_pos q]
      · rw [if_neg q, if_pos hw1]
  | succ d ih =>
    intro t b S T n m v w hd hb h hcn hv hw hv2 hw2 hn hm
    obtain ⟨n, rfl⟩ : ∃ q, n = q + 1 := ⟨n - 1, by omega⟩
    obtain ⟨m, rfl⟩ : ∃ q, m = q + 1 := ⟨m - 1, by omega⟩
    have hmr := many_rng h
    rw [dn_X6_handOut_2, dn_X9_share_10, if_neg (show ¬ (12 : Int) ≤ (t : Int) by omega), hv, cal_s, hw, cal_s]
    rcases hv2 with z | z
    · rw [if_pos (show v < 0 by omega), if_pos z]
      exact ⟨S, T, rfl, rfl, RE_b h (by omega)⟩
    · rw [if_neg (show ¬ v < 0 by omega), if_neg (show ¬ v = -1 by omega)]
      rcases hw2 with y | y
      · rw [if_pos (show w < 0 by omega), if_pos y]
        exact ⟨S, T, rfl, rfl, RE_b h (by omega)⟩
      · rw [if_neg (show ¬ w < 0 by omega), if_neg (show ¬ w = -1 by omega)]
        obtain ⟨c, rfl⟩ : ∃ c : Nat, v = c := ⟨v.toNat, by omega⟩
        obtain ⟨i, rfl⟩ : ∃ i : Nat, w = i := ⟨w.toNat, by omega⟩
        simp only [Int.toNat_natCast] at z y
        obtain ⟨S1, T1, a1, a2, a3, a4⟩ := op_hand (c := c) (i := i) (by omega) h (by omega) z.2.1 y.2.2 z.2.2 (fun x1_ x2_ S_ => dn_X9_share_10 m x1_ x2_ S_)
        rw [a1, cal_s, a4]
        obtain ⟨v1, f1, f2, f3⟩ := first_w a2
        obtain ⟨w1, g1, g2, g3⟩ := fresh_i a2
        rw [f2, cal_s, g2, cal_s]
        simp only [nmV, w32_s (show t < 1000000 by omega)]
        obtain ⟨S', T', r1, r2, r3⟩ := ih (t + 1) (b + 1) S1 T1 n m v1 w1 (by omega) (by omega) a2 (by omega) f1 g1 f3 (by
          rcases g3 with q | q
          · exact Or.inl q.1
          · exact Or.inr q) (by omega) (by omega)
        exact ⟨S', T', r1, r2, RE_b r3 (by omega)⟩
theorem ph_share (h : RE Wk (-1) b S T) (hb : b + 12 ≤ 2147483000) : ∃ S' T', dn_X6_handOut S = some (S', 0) ∧ dn_X9_share T = some (T', 0) ∧ RE Wk (-1) (b + 12) S' T' := by
  obtain ⟨v1, f1, f2, f3⟩ := first_w h
  obtain ⟨w1, g1, g2, g3⟩ := fresh_i h
  have r := cn_rng (T 5) 2 12
  obtain ⟨S', T', a1, a2, a3⟩ := sim_share 12 0 b S T FU FU v1 w1 (by omega) (by omega) h (by omega) f1 g1 f3 (by
    rcases g3 with q | q
    · exact Or.inl q.1
    · exact Or.inr q) (FU_lt (by omega)) (FU_lt (by omega))
  refine ⟨S', T', a1, ?_, a3⟩
  unfold dn_X9_share
  rw [f2, cal_s, g2, cal_s]
  exact a2
end SH
