/-! Those who are done, those who leak, those who come, those who give up -/
theorem cal_s {α : Type} {S : St} {v : Int} {f : St → Int → Option α} : cal (some (S, v)) f = f S v := by
  cases h : f S v <;> simp [cal, h]
section FI
variable {Wk : (Nat → Int) → Int → Int → Int × Int} {S T S' T' : St} {e e2 b b2 : Int}
/-- a caller's state is another one, none of those that end it -/
theorem op_st {c : Nat} {x : Int} (h : RE Wk (-1) b S T) (hc : (c : Int) < T 0 19) (hx : x < 5) (hx0 : T 15 c < 5) (hl : ∀ j, j < 12 → 3 ≤ T 5 j → T 7 j = c → (T 5 j = 3 → x = 2) ∧ (T 5 j = 4 → 1 ≤ x ∧ x ≤ 4)) : RE Wk (-1) b (stU S (c + 30) 6 x) (stU T 15 c x) := by
  have hm := many_rng h
  refine ⟨R0_call (f := 6) (by omega) (by decide) h.1, ?_, IV_st h.2.2 (fun j hj q1 q2 _ => hl j hj q1 q2) (fun j hj q1 _ _ => ?_)⟩
  · have ht := h.2.1
    have o : ∀ v, 5 ≤ v → cn (stU T 15 c x 15) v (T 0 19).toNat = cn (T 15) v (T 0 19).toNat := fun v hv5 => by
      apply cn_congr
      intro y _
      by_cases q : y = c
      · subst q; rw [stU_same]; omega
      · rw [stU_slot _ _ _ _ q]
    have e0 : ∀ f, stU T 15 c x 0 f = T 0 f := fun f => stU_cell _ _ _ _ (by decide)
    have eS : ∀ f, stU S (c + 30) 6 x 12 f = S 12 f := fun f => stU_cell _ _ _ _ (by omega)
    unfold Rt at ht ⊢
    simp only [e0, eS, o 5 (by decide), o 6 (by decide), o 7 (by decide), o 8 (by decide)]
    exact ht
  · have := ((h.2.2.1 j hj).2.2.2 q1).1
    omega
theorem IV_off {k c : Nat} {x : Int} (h : IV e b T) (hk : k = 17 ∨ k = 18) : IV e b (stU T k c x) := by
  have hT : ∀ q f, q ≠ k → stU T k c x q f = T q f := fun q f hq => stU_cell _ _ _ _ hq
  refine ⟨fun j hj => ?_, ?_, ?_, ?_⟩
  · have a := h.1 j hj
    unfold LI at a ⊢
    rw [hT 5 j (by omega), hT 6 j (by omega), hT 7 j (by omega), hT 15 _ (by omega), hT 0 _ (by omega)]
    exact a
  · have := h.2.1
    unfold UQ at this ⊢
    simp only [hT 5 _ (by omega), hT 7 _ (by omega)]
    exact this
  · have := h.2.2.1
    unfold IN at this ⊢
    simp only [hT 0 _ (by omega), hT 20 _ (by omega), hT 16 _ (by omega), hT 13 _ (by omega), hT 1 _ (by omega), hT 2 _ (by omega), hT 3 _ (by omega), hT 4 _ (by omega)]
    exact this
  · rw [hT 0 24 (by omega)]; exact h.2.2.2
theorem RE_call {c f : Nat} {x : Int} (h : RE Wk e b S T) (hc : c < 60) (hf : f = 8 ∨ f = 9) : RE Wk e b (stU S (c + 30) f x) (stU T (f + 9) c x) :=
  ⟨R0_call hc (by omega) h.1, Rt_call h.2.1 (by omega), IV_off h.2.2 (by omega)⟩
theorem RE_left {c : Nat} {x : Int} (h : RE Wk e b S T) (hc : c < 60) (hx : 0 ≤ x ∧ x ≤ 1000) : RE Wk e b (stU S (c + 30) 7 x) (stU T 16 c x) :=
  ⟨R0_call (f := 7) hc (by decide) h.1, Rt_call (f := 7) h.2.1 (by decide), IV_16 h.2.2 hx⟩
/-- a caller at work has no line that is tried -/
theorem no_try {c : Nat} (h : RE Wk (-1) b S T) (h3 : T 15 c ≠ 2) : ∀ j, j < 12 → 3 ≤ T 5 j → T 7 j = c → T 5 j ≠ 3 := fun j hj q1 q2 q3 => by
  have := ((line_i h hj).2.2.2 q1).2 (by omega)
  have := this.1 q3
  rw [q2, Int.toNat_natCast] at this
  exact h3 this
theorem sim_finish : ∀ (d i : Nat) (b : Int) (S T : St) (n m : Nat), i + d = 60 → b + d ≤ 2147483000 → RE Wk (-1) b S T → d < n → d < m →
    ∃ S' T', dn_X6_finishWork_2 n (i : Int) S = some (S', 0) ∧ dn_X9_finish_2 m (i : Int) T = dn_X9_finish_138 FU 0 T' ∧ RE Wk (-1) (b + d) S' T' := by
  intro d
  induction d with
  | zero =>
    intro i b S T n m hd hb h hn hm
    obtain ⟨n, rfl⟩ : ∃ q, n = q + 1 := ⟨n - 1, by omega⟩
    obtain ⟨m, rfl⟩ : ∃ q, m = q + 1 := ⟨m - 1, by omega⟩
    have hmr := many_rng h
    have hme := many_eq h
    refine ⟨S, T, ?_, ?_, by simpa using h⟩
    · rw [dn_X6_finishWork_2, if_pos (by omega)]
    · rw [dn_X9_finish_2, if_pos (by omega)]
  | succ d ih =>
    intro i b S T n m hd hb h hn hm
    obtain ⟨n, rfl⟩ : ∃ q, n = q + 1 := ⟨n - 1, by omega⟩
    obtain ⟨m, rfl⟩ : ∃ q, m = q + 1 := ⟨m - 1, by omega⟩
    have hmr := many_rng h
    have hme := many_eq h
    by_cases q0 : T 0 19 ≤ (i : Int)
    · refine ⟨S, T, ?_, ?_, RE_b h (by omega)⟩
      · rw [dn_X6_finishWork_2, if_pos (by omega)]
      · rw [dn_X9_finish_2, if_pos (by omega)]
    · have c1 : ¬ S 4 5 ≤ (i : Int) := by omega
      have c2 : (0 : Int) ≤ (i : Int) ∧ (i : Int) < 60 := by omega
      have hi60 : i < 60 := by omega
      have hs : S (i + 30) 6 = T 15 i := call_eq h hi60 (by decide) (by decide)
      have hl : S (i + 30) 7 = T 16 i := call_eq h hi60 (by decide) (by decide)
      have hk : S (i + 30) 1 = T 10 i := call_eq h hi60 (by decide) (by decide)
      have h9 : S (i + 30) 9 = T 18 i := call_eq h hi60 (by decide) (by decide)
      have h4 : S (i + 30) 4 = T 13 i := call_eq h hi60 (by decide) (by decide)
      have hnw := now_eq h
      have hlr := (h.2.2.2.2.1.2.2.2.1 i hi60)
      have go_on : ∀ S1 T1, RE Wk (-1) (b + 1) S1 T1 → ∃ S' T', dn_X6_finishWork_2 n ((i + 1 : Nat) : Int) S1 = some (S', 0) ∧ dn_X9_finish_2 m ((i + 1 : Nat) : Int) T1 = dn_X9_finish_138 FU 0 T' ∧ RE Wk (-1) (b + ((d + 1 : Nat) : Int)) S' T' := fun S1 T1 h1 => by
        obtain ⟨S', T', a1, a2, a3⟩ := ih (i + 1) (b + 1) S1 T1 n m (by omega) (by omega) h1 (by omega) (by omega)
        exact ⟨S', T', a1, a2, RE_b a3 (by omega)⟩
      simp only [dn_X6_finishWork_2, dn_X9_finish_2, c1, q0, c2, hs, hl, if_true, if_false, and_self, Int.toNat_natCast, nmV, nmS, w32_s (show i < 1000000 by omega)]
      by_cases q3 : T 15 i = 3
      · simp only [q3, if_true]
        by_cases q7 : T 16 i = 0
        · have q7' : T 16 i ≤ 0 := by omega
          simp only [q7, if_true, Int.le_refl]
          have fin : ∃ S' T', cal (cal (dn_X6_leave (i : Int) 5 2 S) fun S4 _ => cal (dn_X6_giveBack (i : Int) S4) fun S7 _ => some (S7, 0)) (fun S7 _ => dn_X6_finishWork_2 n ((i + 1 : Nat) : Int) S7) = some (S', 0) ∧ dn_X9_finish_110 (fun x1_ S_ => dn_X9_finish_2 m x1_ S_) (i : Int) T = dn_X9_finish_138 FU 0 T' ∧ RE Wk (-1) (b + ((d + 1 : Nat) : Int)) S' T' := by
            obtain ⟨S1, S2, T2, b1, b2, b3, b4, b5⟩ := op_end (c := i) (k := 2) h (by omega) (by omega) (by omega) (by omega)
            have b1 : dn_X6_leave (i : Int) 5 2 S = some (S1, 0) := b1
            have b3 : dn_X9_say 2 (i : Int) (-1) (stU T 15 i 5) = some (lgM 2 (i : Int) (-1) (stU T 15 i 5), 0) := b3
            have b4 : dn_X9_free (i : Int) 0 (lgM 2 (i : Int) (-1) (stU T 15 i 5)) = some (T2, 0) := b4
            rw [b1]
            simp only [cal, Option.bind]
            rw [b2]
            simp only [Option.bind]
            unfold dn_X9_finish_110
            simp only [c2, if_true, and_self, Int.toNat_natCast, nmS]
            rw [b3]
            simp only [cal, Option.bind]
            rw [b4]
            simp only [Option.bind, nmV, w32_s (show i < 1000000 by omega)]
            exact go_on S2 T2 b5
          have hF : dn_X6_finish (i : Int) S = (if T 10 i = 1 then some (stU S (i + 30) 6 4, 0) else if T 10 i = 2 then (if T 18 i = 0 then cal (dn_X1_wantSecond (i : Int) (S 4 6) S) fun S17 _ => some (S17, 0) else cal (dn_X6_leave (i : Int) 5 2 S) fun S4 _ => cal (dn_X6_giveBack (i : Int) S4) fun S7 _ => some (S7, 0)) else cal (dn_X6_leave (i : Int) 5 2 S) fun S4 _ => cal (dn_X6_giveBack (i : Int) S4) fun S7 _ => some (S7, 0)) := by
            unfold dn_X6_finish
            simp only [c2, if_true, and_self, Int.toNat_natCast, hk, h9, nmS]
          rw [hF]
          by_cases k1 : T 10 i = 1
          · rw [if_pos k1, if_pos k1]
            simp only [cal, Option.bind]
            refine go_on _ _ (RE_b (op_st (c := i) h (by omega) (by omega) (by omega) (fun j hj z1 z2 => ⟨fun z3 => absurd z3 (no_try h (by omega) j hj z1 z2), fun _ => by omega⟩)) (by omega))
          · rw [if_neg k1, if_neg k1]
            by_cases k2 : T 10 i = 2
            · rw [if_pos k2, if_pos k2]
              by_cases k9 : T 18 i = 0
              · rw [if_pos k9, if_pos k9]
                have hw : dn_X1_wantSecond (i : Int) (S 4 6) S = some (stU (stU (stU (stU S (i + 30) 9 1) (i + 30) 7 (T 13 i)) (i + 30) 6 1) (i + 30) 8 (T 0 4), 0) := by
                  unfold dn_X1_wantSecond dn_X1_waitFrom
                  have e4 : stU S (i + 30) 9 1 (i + 30) 4 = T 13 i := by rw [stU_slot _ _ _ _ (by decide)]; exact h4
                  simp only [Int.toNat_natCast, nmS, cal, Option.bind, e4, hnw]
                rw [hw]
                simp only [cal, Option.bind]
                have r1 := RE_call (c := i) (f := 9) (x := 1) h hi60 (by decide)
                have r1 : RE Wk (-1) b (stU S (i + 30) 9 1) (stU T 18 i 1) := r1
                have r2 := RE_left (c := i) (x := T 13 i) r1 hi60 (by omega)
                have e15 : stU (stU T 18 i 1) 16 i (T 13 i) 15 i = T 15 i := by simp [stU]
                have e5 : ∀ j, stU (stU T 18 i 1) 16 i (T 13 i) 5 j = T 5 j := fun j => by simp [stU]
                have e7 : ∀ j, stU (stU T 18 i 1) 16 i (T 13 i) 7 j = T 7 j := fun j => by simp [stU]
                have e19 : stU (stU T 18 i 1) 16 i (T 13 i) 0 19 = T 0 19 := by simp [stU]
                have r3 := op_st (c := i) (x := 1) r2 (by rw [e19]; omega) (by omega) (by rw [e15]; omega) (fun j hj z1 z2 => by
                  rw [e5] at z1 ⊢
                  rw [e7] at z2
                  exact ⟨fun z3 => absurd z3 (no_try h (by omega) j hj z1 z2), fun _ => by omega⟩)
                have r4 := RE_call (c := i) (f := 8) (x := T 0 4) r3 hi60 (by decide)
                have eM : stU (stU (stU (stU T 18 i 1) 15 i 1) 17 i (stU (stU T 18 i 1) 15 i 1 0 4)) 16 i (stU (stU (stU T 18 i 1) 15 i 1) 17 i (stU (stU T 18 i 1) 15 i 1 0 4) 13 i) = stU (stU (stU (stU T 18 i 1) 16 i (T 13 i)) 15 i 1) 17 i (T 0 4) := by
                  funext k f
                  have p1 : stU (stU T 18 i 1) 15 i 1 0 4 = T 0 4 := by simp [stU]
                  have p2 : stU (stU (stU T 18 i 1) 15 i 1) 17 i (T 0 4) 13 i = T 13 i := by simp [stU]
                  rw [p1, p2]
                  simp only [stU]
                  by_cases y16 : k = 16
                  · subst y16; simp
                  · by_cases y17 : k = 17
                    · subst y17; simp
                    · simp [y16, y17]
                rw [eM]
                exact go_on _ _ (RE_b r4 (by omega))
              · rw [if_neg k9, if_neg k9]
                exact fin
            · rw [if_neg k2, if_neg k2]
              exact fin
        · have q7' : ¬ T 16 i ≤ 0 := by omega
          simp only [q7, q7', if_false]
          exact go_on S T (RE_b h (by omega))
      · simp only [q3, if_false]
        exact go_on S T (RE_b h (by omega))
/-- whether c has a line for too long -/
theorem X_long {c : Nat} {v : Int} (h : RE Wk (-1) b S T) : ∀ (d i n : Nat), i + d = 12 → d < n →
    ((∃ j, i ≤ j ∧ j < 12 ∧ T 5 j = 4 ∧ T 7 j = c ∧ v ≤ w32 (T 0 4 - T 9 j)) → dn_X6_holdsTooLong_11 n (c : Int) v (i : Int) S = some (S, 1)) ∧ ((¬ ∃ j, i ≤ j ∧ j < 12 ∧ T 5 j = 4 ∧ T 7 j = c ∧ v ≤ w32 (T 0 4 - T 9 j)) → dn_X6_holdsTooLong_11 n (c : Int) v (i : Int) S = some (S, 0)) := by
  intro d
  induction d with
  | zero =>
    intro i n hd hn
    obtain ⟨n, rfl⟩ : ∃ q, n = q + 1 := ⟨n - 1, by omega⟩
    refine ⟨fun ⟨j, h1, h2, _⟩ => by omega, fun _ => ?_⟩
    rw [dn_X6_holdsTooLong_11, if_pos (by omega)]
  | succ d ih =>
    intro i n hd hn
    obtain ⟨n, rfl⟩ : ∃ q, n = q + 1 := ⟨n - 1, by omega⟩
    have hi : i < 12 := by omega
    have nx := ih (i + 1) n (by omega) (by omega)
    have c1 : ¬ (12 : Int) ≤ (i : Int) := by omega
    have c2 : (0 : Int) ≤ (i : Int) ∧ (i : Int) < 12 := by omega
    have hr := hold_rng h hi
    have he := hold_eq h hi
    have hst := st_eq h hi
    have hnw := now_eq h
    have h5 := (h.1.1 i hi).2.2.2.2
    by_cases q : T 5 i = 4 ∧ T 7 i = c
    · have q5 : S (i + 18) 3 = c := by rw [he, if_pos (by omega), q.2]
      have hsi : S (i + 18) 5 = T 9 i := by rw [h5, if_pos (Or.inr q.1)]
      have hlt : dn_X3_isLentTo (i : Int) (c : Int) S = some (S, 1) := by
        unfold dn_X3_isLentTo
        simp only [Int.toNat_natCast, hst, q.1, hr, q5, if_true, and_self]
        rw [q5] at hr
        rw [if_pos hr]
      have z1 : ¬ (1 : Int) = 0 := by decide
      have stp : dn_X6_holdsTooLong_11 (n + 1) (c : Int) v (i : Int) S = (if w32 (T 0 4 - T 9 i) < v then dn_X6_holdsTooLong_11 n (c : Int) v ((i + 1 : Nat) : Int) S else some (S, 1)) := by
        simp only [dn_X6_holdsTooLong_11, c1, c2, if_true, if_false, and_self, hlt, cal, Option.bind, z1, Int.toNat_natCast, hnw, hsi, nmV, w32_s (show i < 1000000 by omega)]
      rw [stp]
      by_cases z : w32 (T 0 4 - T 9 i) < v
      · rw [if_pos z]
        refine ⟨fun ⟨j, a1, a2, a3⟩ => nx.1 ⟨j, ?_, a2, a3⟩, fun a => nx.2 (fun ⟨j, a1, a2, a3⟩ => a ⟨j, by omega, a2, a3⟩)⟩
        have : j ≠ i := fun y => by subst y; omega
        omega
      · rw [if_neg z]
        exact ⟨fun _ => rfl, fun a => absurd ⟨i, Nat.le_refl _, hi, q.1, q.2, by omega⟩ a⟩
    · have hlt : dn_X3_isLentTo (i : Int) (c : Int) S = some (S, 0) := by
        unfold dn_X3_isLentTo
        simp only [Int.toNat_natCast, hst, hr, if_true, and_self]
        by_cases z4 : T 5 i = 4
        · have : ¬ S (i + 18) 3 = c := by rw [he, if_pos (by omega)]; exact fun y => q ⟨z4, y⟩
          rw [if_pos z4, if_neg this]
        · rw [if_neg z4]
      have stp : dn_X6_holdsTooLong_11 (n + 1) (c : Int) v (i : Int) S = dn_X6_holdsTooLong_11 n (c : Int) v ((i + 1 : Nat) : Int) S := by
        simp only [dn_X6_holdsTooLong_11, c1, c2, if_true, if_false, and_self, hlt, cal, Option.bind, nmV, w32_s (show i < 1000000 by omega)]
      rw [stp]
      refine ⟨fun ⟨j, a1, a2, a3⟩ => nx.1 ⟨j, ?_, a2, a3⟩, fun a => nx.2 (fun ⟨j, a1, a2, a3⟩ => a ⟨j, by omega, a2, a3⟩)⟩
      have : j ≠ i := fun y => by subst y; exact q ⟨a3.1, a3.2.1⟩
      omega
theorem M_lk1 {k : Int → St → Option (St × Int)} {c : Nat} : ∀ (d i m : Nat), i + d = 12 → d < m → dn_X9_finish_150 k m (c : Int) 1 (i : Int) T = dn_X9_finish_150 k 1 (c : Int) 1 12 T := by
  intro d
  induction d with
  | zero =>
    intro i m hd hm
    obtain ⟨m, rfl⟩ : ∃ q, m = q + 1 := ⟨m - 1, by omega⟩
    have : i = 12 := by omega
    subst this
    simp only [dn_X9_finish_150]
    rfl
  | succ d ih =>
    intro i m hd hm
    obtain ⟨m, rfl⟩ : ∃ q, m = q + 1 := ⟨m - 1, by omega⟩
    have nx := ih (i + 1) m (by omega) (by omega)
    have c1 : ¬ (12 : Int) ≤ (i : Int) := by omega
    have z1 : ¬ (1 : Int) = 0 := by decide
    rw [dn_X9_finish_150, if_neg c1, if_neg z1]
    simp only [nmV, w32_s (show i < 1000000 by omega)]
    exact nx
theorem M_long {k : Int → St → Option (St × Int)} {c : Nat} : ∀ (d i m : Nat), i + d = 12 → d < m →
    ((∃ j, i ≤ j ∧ j < 12 ∧ T 5 j = 4 ∧ T 7 j = c ∧ T 1 3 ≤ w32 (T 0 4 - T 9 j)) → dn_X9_finish_150 k m (c : Int) 0 (i : Int) T = dn_X9_finish_150 k 1 (c : Int) 1 12 T) ∧ ((¬ ∃ j, i ≤ j ∧ j < 12 ∧ T 5 j = 4 ∧ T 7 j = c ∧ T 1 3 ≤ w32 (T 0 4 - T 9 j)) → dn_X9_finish_150 k m (c : Int) 0 (i : Int) T = dn_X9_finish_150 k 1 (c : Int) 0 12 T) := by
  intro d
  induction d with
  | zero =>
    intro i m hd hm
    obtain ⟨m, rfl⟩ : ∃ q, m = q + 1 := ⟨m - 1, by omega⟩
    have : i = 12 := by omega
    subst this
    refine ⟨fun ⟨j, h1, h2, _⟩ => by omega, fun _ => ?_⟩
    simp only [dn_X9_finish_150]
    rfl
  | succ d ih =>
    intro i m hd hm
    obtain ⟨m, rfl⟩ : ∃ q, m = q + 1 := ⟨m - 1, by omega⟩
    have hi : i < 12 := by omega
    have nx := ih (i + 1) m (by omega) (by omega)
    have l1 := M_lk1 (T := T) (k := k) (c := c) d (i + 1) m (by omega) (by omega)
    have c1 : ¬ (12 : Int) ≤ (i : Int) := by omega
    have c2 : (0 : Int) ≤ (i : Int) ∧ (i : Int) < 12 := by omega
    have stp : dn_X9_finish_150 k (m + 1) (c : Int) 0 (i : Int) T = (if T 5 i = 4 then (if T 7 i = c then (if w32 (T 0 4 - T 9 i) < T 1 3 then dn_X9_finish_150 k m (c : Int) 0 ((i + 1 : Nat) : Int) T else dn_X9_finish_150 k m (c : Int) 1 ((i + 1 : Nat) : Int) T) else dn_X9_finish_150 k m (c : Int) 0 ((i + 1 : Nat) : Int) T) else dn_X9_finish_150 k m (c : Int) 0 ((i + 1 : Nat) : Int) T) := by
      rw [dn_X9_finish_150, if_neg c1, if_pos rfl, if_pos c2]
      simp only [nmV, w32_s (show i < 1000000 by omega), Int.toNat_natCast]
    have skip : ¬ (T 5 i = 4 ∧ T 7 i = c ∧ T 1 3 ≤ w32 (T 0 4 - T 9 i)) → ((∃ j, i ≤ j ∧ j < 12 ∧ T 5 j = 4 ∧ T 7 j = c ∧ T 1 3 ≤ w32 (T 0 4 - T 9 j)) → dn_X9_finish_150 k m (c : Int) 0 ((i + 1 : Nat) : Int) T = dn_X9_finish_150 k 1 (c : Int) 1 12 T) ∧ ((¬ ∃ j, i ≤ j ∧ j < 12 ∧ T 5 j = 4 ∧ T 7 j = c ∧ T 1 3 ≤ w32 (T 0 4 - T 9 j)) → dn_X9_finish_150 k m (c : Int) 0 ((i + 1 : Nat) : Int) T = dn_X9_finish_150 k 1 (c : Int) 0 12 T) := fun q => by
      refine ⟨fun ⟨j, a1, a2, a3⟩ => nx.1 ⟨j, ?_, a2, a3⟩, fun a => nx.2 (fun ⟨j, a1, a2, a3⟩ => a ⟨j, by omega, a2, a3⟩)⟩
      have : j ≠ i := fun y => by subst y; exact q a3
      omega
    rw [stp]
    by_cases q4 : T 5 i = 4
    · rw [if_pos q4]
      by_cases q7 : T 7 i = c
      · rw [if_pos q7]
        by_cases z : w32 (T 0 4 - T 9 i) < T 1 3
        · rw [if_pos z]
          exact skip (fun y => by omega)
        · rw [if_neg z]
          exact ⟨fun _ => l1, fun a => absurd ⟨i, Nat.le_refl _, hi, q4, q7, by omega⟩ a⟩
      · rw [if_neg q7]
        exact skip (fun y => q7 y.2.1)
    · rw [if_neg q4]
      exact skip (fun y => q4 y.1)
theorem X_tl {c : Nat} (h : RE Wk (-1) b S T) : ((∃ j, 0 ≤ j ∧ j < 12 ∧ T 5 j = 4 ∧ T 7 j = c ∧ T 1 3 ≤ w32 (T 0 4 - T 9 j)) → dn_X6_holdsTooLong (c : Int) S = some (S, 1)) ∧ ((¬ ∃ j, 0 ≤ j ∧ j < 12 ∧ T 5 j = 4 ∧ T 7 j = c ∧ T 1 3 ≤ w32 (T 0 4 - T 9 j)) → dn_X6_holdsTooLong (c : Int) S = some (S, 0)) := by
  have hnum : dn_X7_number 3 S = some (S, T 1 3) := by
    unfold dn_X7_number
    rw [if_pos (by decide), show (3 : Int).toNat = 3 from rfl, h.1.2.2.2.1.1 3 (by decide)]
  have xl := X_long (c := c) (v := T 1 3) h 12 0 FU (by omega) (FU_lt (by omega))
  unfold dn_X6_holdsTooLong
  rw [hnum, cal_s]
  exact xl
theorem M_tl {k : Int → St → Option (St × Int)} {c : Nat} : ((∃ j, 0 ≤ j ∧ j < 12 ∧ T 5 j = 4 ∧ T 7 j = c ∧ T 1 3 ≤ w32 (T 0 4 - T 9 j)) → dn_X9_finish_150 k FU (c : Int) 0 0 T = dn_X9_finish_150 k 1 (c : Int) 1 12 T) ∧ ((¬ ∃ j, 0 ≤ j ∧ j < 12 ∧ T 5 j = 4 ∧ T 7 j = c ∧ T 1 3 ≤ w32 (T 0 4 - T 9 j)) → dn_X9_finish_150 k FU (c : Int) 0 0 T = dn_X9_finish_150 k 1 (c : Int) 0 12 T) :=
  M_long 12 0 FU (by omega) (FU_lt (by omega))
theorem sim_leak : ∀ (d i : Nat) (b : Int) (S T : St) (n m : Nat), i + d = 60 → b + d ≤ 2147483000 → RE Wk (-1) b S T → d < n → d < m →
    ∃ S' T', dn_X6_endLeaks_2 n (i : Int) S = some (S', 0) ∧ dn_X9_finish_138 m (i : Int) T = some (T', 0) ∧ RE Wk (-1) (b + d) S' T' := by
  intro d
  induction d with
  | zero =>
    intro i b S T n m hd hb h hn hm
    obtain ⟨n, rfl⟩ : ∃ q, n = q + 1 := ⟨n - 1, by omega⟩
    obtain ⟨m, rfl⟩ : ∃ q, m = q + 1 := ⟨m - 1, by omega⟩
    have hmr := many_rng h
    have hme := many_eq h
    refine ⟨S, T, ?_, ?_, by simpa using h⟩
    · rw [dn_X6_endLeaks_2, if_pos (by omega)]
    · rw [dn_X9_finish_138, if_pos (by omega)]
  | succ d ih =>
    intro i b S T n m hd hb h hn hm
    obtain ⟨n, rfl⟩ : ∃ q, n = q + 1 := ⟨n - 1, by omega⟩
    obtain ⟨m, rfl⟩ : ∃ q, m = q + 1 := ⟨m - 1, by omega⟩
    have hmr := many_rng h
    have hme := many_eq h
    by_cases q0 : T 0 19 ≤ (i : Int)
    · refine ⟨S, T, ?_, ?_, RE_b h (by omega)⟩
      · rw [dn_X6_endLeaks_2, if_pos (by omega)]
      · rw [dn_X9_finish_138, if_pos (by omega)]
    · have c1 : ¬ S 4 5 ≤ (i : Int) := by omega
      have c2 : (0 : Int) ≤ (i : Int) ∧ (i : Int) < 60 := by omega
      have go_on : ∀ S1 T1, RE Wk (-1) (b + 1) S1 T1 → ∃ S' T', dn_X6_endLeaks_2 n ((i + 1 : Nat) : Int) S1 = some (S', 0) ∧ dn_X9_finish_138 m ((i + 1 : Nat) : Int) T1 = some (T', 0) ∧ RE Wk (-1) (b + ((d + 1 : Nat) : Int)) S' T' := fun S1 T1 h1 => by
        obtain ⟨S', T', a1, a2, a3⟩ := ih (i + 1) (b + 1) S1 T1 n m (by omega) (by omega) h1 (by omega) (by omega)
        exact ⟨S', T', a1, a2, RE_b a3 (by omega)⟩
      have xl := X_tl (c := i) h
      have ml := M_tl (T := T) (k := fun x1_ S_ => dn_X9_finish_138 m x1_ S_) (c := i)
      simp only [dn_X6_endLeaks_2, dn_X9_finish_138, c1, q0, c2, if_true, if_false, and_self, nmV, w32_s (show i < 1000000 by omega)]
      by_cases q : ∃ j, 0 ≤ j ∧ j < 12 ∧ T 5 j = 4 ∧ T 7 j = i ∧ T 1 3 ≤ w32 (T 0 4 - T 9 j)
      · rw [xl.1 q, ml.1 q]
        have z1 : ¬ (1 : Int) = 0 := by decide
        obtain ⟨j, j1, j2, j3, j4, j5⟩ := q
        have hst := (((line_i h j2).2.2.2 (by omega)).2 (by omega)).2 j3
        rw [j4, Int.toNat_natCast] at hst
        obtain ⟨S1, S2, T2, b1, b2, b3, b4, b5⟩ := op_end (c := i) (k := 4) h (by omega) (by omega) (by omega) (by omega)
        have b1 : dn_X6_leave (i : Int) 7 4 S = some (S1, 0) := b1
        have b3 : dn_X9_say 4 (i : Int) (-1) (stU T 15 i 7) = some (lgM 4 (i : Int) (-1) (stU T 15 i 7), 0) := b3
        have b4 : dn_X9_free (i : Int) 0 (lgM 4 (i : Int) (-1) (stU T 15 i 7)) = some (T2, 0) := b4
        simp only [cal, Option.bind, z1, if_false]
        rw [b1]
        simp only [Option.bind]
        rw [b2]
        simp only [Option.bind]
        have hM : dn_X9_finish_150 (fun x1_ S_ => dn_X9_finish_138 m x1_ S_) 1 (i : Int) 1 12 T = dn_X9_finish_138 m ((i + 1 : Nat) : Int) T2 := by
          rw [dn_X9_finish_150, if_pos (by decide), if_neg z1, if_pos c2]
          simp only [Int.toNat_natCast, nmS]
          rw [b3]
          simp only [cal, Option.bind]
          rw [b4]
          simp only [Option.bind, nmV, w32_s (show i < 1000000 by omega)]
        rw [hM]
        exact go_on S2 T2 b5
      · rw [xl.2 q, ml.2 q]
        simp only [cal, Option.bind, if_true]
        have hM : dn_X9_finish_150 (fun x1_ S_ => dn_X9_finish_138 m x1_ S_) 1 (i : Int) 0 12 T = dn_X9_finish_138 m ((i + 1 : Nat) : Int) T := by
          rw [dn_X9_finish_150, if_pos (by decide), if_pos rfl]
          simp only [nmV, w32_s (show i < 1000000 by omega)]
        rw [hM]
        exact go_on S T (RE_b h (by omega))
theorem ph_finish (h : RE Wk (-1) b S T) (hb : b + 120 ≤ 2147483000) : ∃ S1 S' T', dn_X6_finishWork S = some (S1, 0) ∧ dn_X6_endLeaks S1 = some (S', 0) ∧ dn_X9_finish T = some (T', 0) ∧ RE Wk (-1) (b + 120) S' T' := by
  obtain ⟨S1, T1, a1, a2, a3⟩ := sim_finish 60 0 b S T FU FU (by omega) (by omega) h (FU_lt (by omega)) (FU_lt (by omega))
  obtain ⟨S', T', b1, b2, b3⟩ := sim_leak 60 0 _ S1 T1 FU FU (by omega) (by omega) a3 (FU_lt (by omega)) (FU_lt (by omega))
  refine ⟨S1, S', T', a1, b1, ?_, RE_b b3 (by omega)⟩
  have a2 : dn_X9_finish T = _ := a2
  rw [a2]
  exact b2
end FI
