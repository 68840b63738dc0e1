/-! The slots' turn -/
section TS
variable {Wk : (Nat → Int) → Int → Int → Int × Int} {S T S' T' : St} {e e2 b b2 : Int}
theorem op_dec {i : Nat} {x : Int} (hi : i < 12) (h : RE Wk e b S T) (h3 : T 5 i = 1 ∨ T 5 i = 3) : RE Wk e b (stU S (i + 18) 4 x) (stU T 8 i x) := by
  have hT : ∀ k f, (k < 5 ∨ 9 < k ∨ f ≠ i) → stU T 8 i x k f = T k f := fun k f hk => by
    unfold stU
    by_cases q8 : k = 8 <;> by_cases qf : f = i <;> simp [q8, qf] <;> omega
  have hT8 : ∀ k f, k ≠ 8 → stU T 8 i x k f = T k f := fun k f hk => stU_cell _ _ _ _ hk
  refine ⟨R0_line hi h.1 (fun k f hk => stU_cell _ _ _ _ hk) hT ?_, Rt_same h.2.1 (fun f => stU_cell _ _ _ _ (by omega)) (hT8 0 _ (by decide)) (hT8 0 _ (by decide)) (hT8 0 _ (by decide)) (fun c => hT8 15 _ (by decide)), ?_⟩
  · have := h.1.1 i hi
    unfold LR at this ⊢
    simp [stU, this, h3]
  · refine IV_line hi h.2.2 (fun k f _ _ hk => hT k f hk) (hT8 0 _ (by decide)) (hT8 0 _ (by decide)) (by rw [hT8 0 _ (by decide)]; exact h.2.2.2.2.2) ?_ ?_
    · have a := h.2.2.1 i hi
      unfold LI at a ⊢
      rw [hT8 5 _ (by decide), hT8 6 _ (by decide), hT8 7 _ (by decide), hT8 15 _ (by decide), hT8 0 _ (by decide)]
      exact a
    · intro q j hj hji q2
      rw [hT8 5 _ (by decide)] at q
      rw [hT8 7 _ (by decide)]
      exact fun q3 => hji (h.2.2.2.1 j i hj hi q2 q q3)
theorem go_15 {i c : Nat} {x : Int} : stU (goM i T) 15 c x = goM i (stU T 15 c x) := by
  funext k f
  by_cases h15 : k = 15
  · subst h15; simp [goM, lgM, stU]
  · by_cases h0 : k = 0
    · subst h0; simp [goM, lgM, stU]
    · by_cases h21 : k = 21
      · subst h21; simp [goM, lgM, stU]
      · simp [goM, lgM, stU, h15, h0, h21]
/-- a try of a broken line ends -/
theorem op_brk {i c : Nat} (hi : i < 12) (h : RE Wk (-1) b S T) (hb : b ≤ 2147483000) (hc : T 7 i = c) (h3 : T 5 i = 3) : RE Wk (-1) (b + 1) (stU (drX i S) (c + 30) 6 1) (goM i (stU T 15 c 1)) := by
  have hm := many_rng h
  have hl := (line_i h hi).2.2.2 (by omega)
  have hc60 : c < 60 := by omega
  obtain ⟨-, -, hg⟩ := op_go hi h hb
  rw [← go_15]
  have g5 : ∀ j, goM i T 5 j = if j = i then 0 else T 5 j := fun j => by simp [goM, lgM, stU]
  have g7 : ∀ j, goM i T 7 j = T 7 j := fun j => by simp [goM, lgM, stU]
  refine ⟨R0_call (f := 6) hc60 (by decide) hg.1, ?_, ?_⟩
  · have ht := hg.2.1
    have o : ∀ v, 5 ≤ v → cn (stU (goM i T) 15 c 1 15) v (goM i T 0 19).toNat = cn (goM i T 15) v (goM i T 0 19).toNat := fun v hv5 => by
      apply cn_congr
      intro x _
      by_cases q : x = c
      · subst q
        rw [stU_same]
        have e1 : goM i T 15 x = T 15 x := by simp [goM, lgM, stU]
        have e2 := hl.2 (by omega)
        have e3 := e2.1 h3
        rw [hc, Int.toNat_natCast] at e3
        rw [e1, e3]
        omega
      · rw [stU_slot _ _ _ _ q]
    have e0 : ∀ f, stU (goM i T) 15 c 1 0 f = goM i T 0 f := fun f => stU_cell _ _ _ _ (by decide)
    have eS : ∀ f, stU (drX i S) (c + 30) 6 1 12 f = drX i S 12 f := fun f => stU_cell _ _ _ _ (by omega)
    unfold Rt at ht ⊢
    simp only [e0, eS, o 5 (by decide), o 6 (by decide), o 7 (by decide), o 8 (by decide)]
    exact ht
  · refine IV_st hg.2.2 (fun j hj q1 q2 _ => ?_) (fun j hj q1 _ _ => ?_)
    · rw [g5] at q1
      rw [g7] at q2
      by_cases qj : j = i
      · rw [if_pos qj] at q1; omega
      · rw [if_neg qj] at q1
        refine ⟨fun q3 => ?_, fun _ => by omega⟩
        rw [g5, if_neg qj] at q3
        exact absurd (h.2.2.2.1 j i hj hi q3 h3 (by rw [q2, hc])) qj
    · have := ((hg.2.2.1 j hj).2.2.2 q1).1
      omega
theorem sim_turn : ∀ (d i : Nat) (b : Int) (S T : St) (n m : Nat), i + d = 12 → b + d ≤ 2147483000 → RE Wk (-1) b S T → d < n → d < m →
    ∃ S' T', dn_X6_advanceLines_2 n (i : Int) S = some (S', 0) ∧ dn_X9_turnSlots_2 m (i : Int) T = some (T', 0) ∧ RE Wk (-1) (b + d) S' T' := by
  intro d
  induction d with
  | zero =>
    intro i b S T n m hd hb h hn hm
    obtain ⟨n, rfl⟩ : ∃ q, n = q + 1 := ⟨n - 1, by omega⟩
    obtain ⟨m, rfl⟩ : ∃ q, m = q + 1 := ⟨m - 1, by omega⟩
    refine ⟨S, T, ?_, ?_, by simpa using h⟩
    · rw [dn_X6_advanceLines_2, if_pos (by omega)]
    · rw [dn_X9_turnSlots_2, if_pos (by omega)]
  | succ d ih =>
    intro i b S T n m hd hb h hn hm
    obtain ⟨n, rfl⟩ : ∃ q, n = q + 1 := ⟨n - 1, by omega⟩
    obtain ⟨m, rfl⟩ : ∃ q, m = q + 1 := ⟨m - 1, by omega⟩
    have hi : i < 12 := by omega
    have hmr := many_rng h
    have c1 : ¬ (12 : Int) ≤ (i : Int) := by omega
    have c2 : (0 : Int) ≤ (i : Int) ∧ (i : Int) < 12 := by omega
    have hst := st_eq h hi
    have go_on : ∀ S1 T1, RE Wk (-1) (b + 1) S1 T1 → ∃ S' T', dn_X6_advanceLines_2 n ((i + 1 : Nat) : Int) S1 = some (S', 0) ∧ dn_X9_turnSlots_2 m ((i + 1 : Nat) : Int) T1 = some (T', 0) ∧ RE Wk (-1) (b + ((d + 1 : Nat) : Int)) S' T' := fun S1 T1 h1 => by
      obtain ⟨S', T', a1, a2, a3⟩ := ih (i + 1) (b + 1) S1 T1 n m (by omega) (by omega) h1 (by omega) (by omega)
      exact ⟨S', T', a1, a2, RE_b a3 (by omega)⟩
    simp only [dn_X6_advanceLines_2, dn_X9_turnSlots_2, c1, c2, if_true, if_false, and_self, Int.toNat_natCast, nmV, w32_s (show i < 1000000 by omega), hst]
    by_cases q : T 5 i = 1 ∨ T 5 i = 3
    · -- one tick less
      have hx : S (i + 18) 4 = T 8 i := by
        have := (h.1.1 i hi).2.2.2.1
        rw [if_pos q] at this
        exact this
      have h1 := op_dec (x := w32 (T 8 i - 1)) hi h q
      have hX : dn_X6_advanceLines_31 (fun x1_ S_ => dn_X6_advanceLines_2 n x1_ S_) (i : Int) (i : Int) S = (if 0 < w32 (T 8 i - 1) then dn_X6_advanceLines_2 n ((i + 1 : Nat) : Int) (stU S (i + 18) 4 (w32 (T 8 i - 1))) else cal (dn_X6_endStep (i : Int) (stU S (i + 18) 4 (w32 (T 8 i - 1)))) (fun S8 _ => dn_X6_advanceLines_2 n ((i + 1 : Nat) : Int) S8)) := by
        unfold dn_X6_advanceLines_31
        simp only [c2, if_true, and_self, Int.toNat_natCast, nmV, nmS, w32_s (show i < 1000000 by omega), stU_same, hx]
      have hM : dn_X9_turnSlots_31 (fun x1_ S_ => dn_X9_turnSlots_2 m x1_ S_) (i : Int) T = (if w32 (T 8 i - 1) ≤ 0 then (if T 5 i = 1 then cal (dn_X9_rest (i : Int) (stU T 8 i (w32 (T 8 i - 1)))) (fun S19 _ => dn_X9_turnSlots_2 m ((i + 1 : Nat) : Int) S19) else if T 6 i = 0 then cal (dn_X9_lend (i : Int) (T 7 i) (stU T 8 i (w32 (T 8 i - 1)))) (fun S9 _ => dn_X9_turnSlots_2 m ((i + 1 : Nat) : Int) S9) else if 0 ≤ T 7 i ∧ T 7 i < 60 then cal (dn_X9_go (i : Int) (stU (stU T 8 i (w32 (T 8 i - 1))) 15 (T 7 i).toNat 1)) (fun S15 _ => dn_X9_turnSlots_2 m ((i + 1 : Nat) : Int) S15) else none) else dn_X9_turnSlots_2 m ((i + 1 : Nat) : Int) (stU T 8 i (w32 (T 8 i - 1)))) := by
        unfold dn_X9_turnSlots_31
        have e5 : ∀ x, stU T 8 i x 5 i = T 5 i := fun x => stU_cell _ _ _ _ (by decide)
        have e6 : ∀ x, stU T 8 i x 6 i = T 6 i := fun x => stU_cell _ _ _ _ (by decide)
        have e7 : ∀ x, stU T 8 i x 7 i = T 7 i := fun x => stU_cell _ _ _ _ (by decide)
        simp only [c2, if_true, and_self, Int.toNat_natCast, nmV, nmS, w32_s (show i < 1000000 by omega), stU_same, e5, e6, e7]
      have both : ∃ S' T', dn_X6_advanceLines_31 (fun x1_ S_ => dn_X6_advanceLines_2 n x1_ S_) (i : Int) (i : Int) S = some (S', 0) ∧ dn_X9_turnSlots_31 (fun x1_ S_ => dn_X9_turnSlots_2 m x1_ S_) (i : Int) T = some (T', 0) ∧ RE Wk (-1) (b + ((d + 1 : Nat) : Int)) S' T' := by
        rw [hX, hM]
        generalize w32 (T 8 i - 1) = z at h1 ⊢
        generalize hSz : stU S (i + 18) 4 z = Sz at h1 ⊢
        generalize hTz : stU T 8 i z = Tz at h1 ⊢
        have e5 : Tz 5 i = T 5 i := by rw [← hTz]; exact stU_cell _ _ _ _ (by decide)
        have e6 : Tz 6 i = T 6 i := by rw [← hTz]; exact stU_cell _ _ _ _ (by decide)
        have e7 : Tz 7 i = T 7 i := by rw [← hTz]; exact stU_cell _ _ _ _ (by decide)
        have e19 : Tz 0 19 = T 0 19 := by rw [← hTz]; exact stU_cell _ _ _ _ (by decide)
        by_cases qz : 0 < z
        · rw [if_pos qz, if_neg (by omega)]
          exact go_on _ _ (RE_b h1 (by omega))
        · rw [if_neg qz, if_pos (by omega)]
          have hh := hold_eq h1 hi
          have hl := (line_i h1 hi).2.2.2
          have hbr := br_eq h1 hi
          have hnow := now_eq h1
          by_cases q1 : T 5 i = 1
          · rw [if_pos q1, M_rest hi]
            have hhn : Sz (i + 18) 3 < 0 := by rw [hh, if_neg (by omega)]; omega
            have hE : dn_X6_endStep (i : Int) Sz = some (becX i 2 (-1) 0 (Sz 4 6) Sz, 0) := by
              unfold dn_X6_endStep
              simp only [c2, hhn, if_true, and_self, Int.toNat_natCast, X_idle, cal, Option.bind]
            rw [hE]
            simp only [cal, Option.bind]
            exact go_on _ _ (RE_b (op_rest hi h1 (by omega)) (by omega))
          · have q3 : T 5 i = 3 := by omega
            rw [if_neg q1]
            have hl3 := hl (by omega)
            obtain ⟨c, hcv⟩ : ∃ c : Nat, Tz 7 i = c := ⟨(Tz 7 i).toNat, by omega⟩
            have hhc : Sz (i + 18) 3 = c := by rw [hh, if_pos (by omega), hcv]
            have c3 : ¬ (c : Int) < 0 := by omega
            have c4 : (-1 : Int) ≤ (c : Int) ∧ (c : Int) < 60 := by omega
            have c5 : (0 : Int) ≤ (c : Int) ∧ (c : Int) < 60 := by omega
            have hs2 := (hl3.2 (by omega)).1 (by omega)
            rw [hcv, Int.toNat_natCast] at hs2
            by_cases q6 : T 6 i = 0
            · have q6' : Sz (i + 18) 2 = 0 := by rw [hbr, e6]; exact q6
              rw [if_pos q6, ← e7, hcv]
              obtain ⟨S1, T1, l1, l2, l3, -⟩ := op_lend (c := c) hi h1 (by omega) (by omega) (Or.inr (by omega)) (Or.inr hs2) (fun j hj hji q9 q8 => hji (h1.2.2.2.1 j i hj hi q9 (by omega) (by omega)))
              have hE : dn_X6_endStep (i : Int) Sz = some (S1, 0) := by
                unfold dn_X6_endStep
                simp only [c2, hhc, c3, c4, q6', if_true, if_false, and_self, Int.toNat_natCast, l1, cal, Option.bind]
              rw [hE, l2]
              simp only [cal, Option.bind]
              exact go_on _ _ l3
            · have q6' : ¬ Sz (i + 18) 2 = 0 := by rw [hbr, e6]; exact q6
              rw [if_neg q6, ← e7, hcv, if_pos c5]
              have hv := ev_of h1 (by omega)
              have hE : dn_X6_endStep (i : Int) Sz = some (stU (drX i Sz) (c + 30) 6 1, 0) := by
                unfold dn_X6_endStep
                simp only [c2, hhc, c3, c5, q6', if_true, if_false, and_self, Int.toNat_natCast, X_drop hi hv.2, cal, Option.bind, nmS]
              rw [hE, Int.toNat_natCast, M_go hi (by rw [stU_cell _ _ _ _ (by decide)]; exact hv.1)]
              simp only [cal, Option.bind]
              exact go_on _ _ (op_brk hi h1 (by omega) hcv (by omega))
      rcases q with q | q
      · simp only [q, if_true]; exact both
      · have q1 : ¬ (3 : Int) = 1 := by decide
        simp only [q, q1, if_true, if_false]; exact both
    · have q1 : ¬ T 5 i = 1 := fun z => q (Or.inl z)
      have q3 : ¬ T 5 i = 3 := fun z => q (Or.inr z)
      simp only [q1, q3, if_false]
      exact go_on _ _ (RE_b h (by omega))
theorem ph_turn (h : RE Wk (-1) b S T) (hb : b + 12 ≤ 2147483000) : ∃ S' T', dn_X6_advanceLines S = some (S', 0) ∧ dn_X9_turnSlots T = some (T', 0) ∧ RE Wk (-1) (b + 12) S' T' :=
  sim_turn 12 0 b S T FU FU (by omega) (by omega) h (FU_lt (by omega)) (FU_lt (by omega))
end TS
