/-! More calls -/
section CB
variable {Wk : (Nat → Int) → Int → Int → Int × Int} {S T S' T' : St} {e e2 b b2 : Int}
/-- what is beside the pool may change -/
theorem RE_k (h : RE Wk e b S T) (hS : ∀ k f, k < 13 ∨ 18 ≤ k → S' k f = S k f) (hT : ∀ k f, k ≠ 0 → k < 22 → T' k f = T k f) (h0 : ∀ f, f ≤ 30 ∨ f = 100028 → T' 0 f = T 0 f) (hk : Rk Wk S' T') : RE Wk e b S' T' := by
  obtain ⟨⟨h1, h2, h3, h4, h5⟩, ht, hv1, hv2, hv3, hv4⟩ := h
  refine ⟨⟨fun j hj => LR_off (h1 j hj) (fun f => hS _ f (by omega)) (fun q _ _ => hT q j (by omega) (by omega)), ?_, ?_, ?_, hk⟩, ?_, fun j hj => ?_, ?_, ?_, ?_⟩
  · intro c hc f hf1 hf2
    rw [hS _ _ (by omega), hT _ _ (by omega) (by omega)]
    exact h2 c hc f hf1 hf2
  · unfold Rg at h3 ⊢
    simp only [hS 4 _ (Or.inl (by decide)), hS 7 _ (Or.inl (by decide)), hS 10 _ (Or.inl (by decide)), h0 19 (by decide), h0 4 (by decide), h0 25 (by decide), h0 100028 (by decide), h0 29 (by decide), h0 30 (by decide), h0 22 (by decide), h0 24 (by decide)]
    exact h3
  · unfold Ra at h4 ⊢
    simp only [hS 2 _ (Or.inl (by decide)), hS 3 _ (Or.inl (by decide)), hS 8 _ (Or.inl (by decide)), hS 9 _ (Or.inl (by decide)), hS 11 _ (Or.inl (by decide)), hT 1 _ (by decide) (by decide), hT 4 _ (by decide) (by decide), hT 19 _ (by decide) (by decide), hT 20 _ (by decide) (by decide), hT 21 _ (by decide) (by decide)]
    exact h4
  · exact Rt_same ht (fun f => hS 12 f (Or.inl (by decide))) (h0 _ (by decide)) (h0 _ (by decide)) (h0 _ (by decide)) (fun c => hT 15 c (by decide) (by decide))
  · have a := hv1 j hj
    unfold LI at a ⊢
    rw [hT 5 j (by decide) (by decide), hT 6 j (by decide) (by decide), hT 7 j (by decide) (by decide), hT 15 _ (by decide) (by decide), h0 19 (by decide)]
    exact a
  · unfold UQ at hv2 ⊢
    simp only [hT 5 _ (by decide) (by decide), hT 7 _ (by decide) (by decide)]
    exact hv2
  · unfold IN at hv3 ⊢
    simp only [h0 19 (by decide), h0 22 (by decide), hT 20 _ (by decide) (by decide), hT 16 _ (by decide) (by decide), hT 13 _ (by decide) (by decide), hT 1 _ (by decide) (by decide), hT 2 _ (by decide) (by decide), hT 3 _ (by decide) (by decide), hT 4 _ (by decide) (by decide)]
    exact hv3
  · rw [h0 24 (by decide)]; exact hv4
theorem call_crowd {a0 : Int} (h : RE Wk (-1) b S T) : ∃ S' T' r, dn_X8_crowd a0 S = some (S', r) ∧ dn_X9_crowd a0 T = some (T', r) ∧ RE Wk (-1) b S' T' := by
  have h1 := RE_thr (x := 0) h
  unfold dn_X8_crowd dn_X2_join dn_X9_crowd
  simp only [nmS]
  generalize stU T 0 33 0 = T1 at h1 ⊢
  rw [X_in, cal_s, M_in, cal_s]
  by_cases q : 1 ≤ a0 ∧ a0 ≤ 4
  · rw [if_pos q, if_neg (show ¬ (1 : Int) = 0 by decide), if_neg (show ¬ (1 : Int) = 0 by decide)]
    have hk := h1.1.2.2.2.2
    have hme := hk.1
    have hmr := hk.2.1
    by_cases q6 : T1 0 32 = 6
    · rw [if_neg (show ¬ S 14 3 < 6 by omega), if_pos q6, cal_s]
      exact ⟨_, _, _, rfl, rfl, h1⟩
    · rw [if_pos (show S 14 3 < 6 by omega), if_pos (show 0 ≤ S 14 3 ∧ S 14 3 < 6 by omega), if_neg q6, if_pos (show 0 ≤ T1 0 32 ∧ T1 0 32 < 6 by omega)]
      obtain ⟨m, hm⟩ : ∃ m : Nat, T1 0 32 = m := ⟨(T1 0 32).toNat, by omega⟩
      have hS3 : S 14 3 = m := by omega
      have e1 : stU S 15 (S 14 3).toNat a0 14 3 = m := by rw [stU_cell _ _ _ _ (by decide)]; exact hS3
      have e2 : stU T1 22 (T1 0 32).toNat a0 0 32 = m := by rw [stU_cell _ _ _ _ (by decide)]; exact hm
      have w : w32 ((m : Int) + 1) = m + 1 := w32_id ⟨by omega, by omega⟩
      rw [e1, e2, w, hS3, hm, Int.toNat_natCast]
      have e3 : stU (stU (stU S 15 m a0) 14 3 ((m : Int) + 1)) 14 4 0 14 3 = m + 1 := by simp [stU]
      have e4 : stU (stU T1 22 m a0) 0 32 ((m : Int) + 1) 0 32 = m + 1 := stU_same _ _ _ _
      rw [e3, e4, cal_s]
      refine ⟨_, _, _, rfl, rfl, RE_k h1 (fun k f hk => ?_) (fun k f hk hk2 => ?_) (fun f hf => ?_) ?_⟩
      · rw [stU_cell _ _ _ _ (by omega), stU_cell _ _ _ _ (by omega), stU_cell _ _ _ _ (by omega)]
      · rw [stU_cell _ _ _ _ (by omega), stU_cell _ _ _ _ (by omega)]
      · rw [stU_slot _ _ _ _ (by omega), stU_cell _ _ _ _ (by decide)]
      · refine ⟨by rw [e3, e4], by rw [e4]; omega, fun i hi => ?_, fun i hi => ?_, fun z => ?_⟩
        · have := hk.2.2.1 i hi
          simp only [stU]
          by_cases z : i = m <;> simp [z]
          exact this
        · rw [e4] at hi
          have := hk.2.2.2.1 i
          rw [stU_cell _ _ _ _ (by decide)]
          by_cases z : i = m
          · subst z; rw [stU_same]; exact q
          · rw [stU_slot _ _ _ _ z]; exact this (by omega)
        · exact absurd (stU_same _ _ _ _) z
  · rw [if_neg q, if_pos rfl, if_pos rfl, cal_s]
    exact ⟨_, _, _, rfl, rfl, h1⟩
theorem Rk_0 (h : Rk Wk S T) (hS : ∀ k f, k = 15 → S' k f = S k f) (h3 : S' 14 3 = 0) (h4 : S' 14 4 = 0) (hT : ∀ f, T' 22 f = T 22 f) (h32 : T' 0 32 = 0) : Rk Wk S' T' :=
  ⟨by rw [h3, h32], by rw [h32]; decide, fun i hi => by rw [hS 15 i rfl, hT]; exact h.2.2.1 i hi, fun i hi => by rw [h32] at hi; omega, fun z => absurd h4 z⟩
theorem call_scatter (h : RE Wk (-1) b S T) : ∃ S' T' r, dn_X8_scatter S = some (S', r) ∧ dn_X9_scatter T = some (T', r) ∧ RE Wk (-1) b S' T' := by
  have h1 := RE_thr (x := 0) h
  unfold dn_X8_scatter dn_X2_dismiss dn_X9_scatter
  simp only [nmS, nmV, cal_s]
  generalize stU T 0 33 0 = T1 at h1 ⊢
  have hk := h1.1.2.2.2.2
  refine ⟨_, _, _, rfl, by rw [hk.1], RE_k h1 (fun k f hk => ?_) (fun k f hk hk2 => ?_) (fun f hf => ?_) (Rk_0 hk (fun k f z => ?_) (by simp [stU]) (by simp [stU]) (fun f => ?_) (by simp [stU]))⟩
  · rw [stU_cell _ _ _ _ (by omega), stU_cell _ _ _ _ (by omega)]
  · rw [stU_cell _ _ _ _ (by omega)]
  · rw [stU_slot _ _ _ _ (by omega)]
  · rw [stU_cell _ _ _ _ (by omega), stU_cell _ _ _ _ (by omega)]
  · rw [stU_cell _ _ _ _ (by omega)]
theorem call_broken {a0 a1 : Int} (h : RE Wk (-1) b S T) : ∃ S' T' r, dn_X8_broken a0 a1 S = some (S', r) ∧ dn_X9_broken a0 a1 T = some (T', r) ∧ RE Wk (-1) b S' T' := by
  have h1 := RE_thr (x := 0) h
  unfold dn_X8_broken dn_X6_isAhead dn_X6_addBreak dn_X0_add dn_X9_broken
  simp only [nmS]
  generalize stU T 0 33 0 = T1 at h1 ⊢
  rw [now_eq h1]
  by_cases q1 : a0 ≤ T1 0 4
  · rw [if_pos q1, cal_s, if_pos rfl, if_pos q1]; exact ⟨_, _, _, rfl, rfl, h1⟩
  rw [if_neg q1, if_neg q1]
  by_cases q2 : 5000 < a0
  · rw [if_pos q2, cal_s, if_pos rfl, if_pos q2]; exact ⟨_, _, _, rfl, rfl, h1⟩
  rw [if_neg q2, cal_s, if_neg (show ¬ (1 : Int) = 0 by decide), if_neg q2, X_in, cal_s]
  by_cases q3 : 0 ≤ a1 ∧ a1 ≤ 11
  · rw [if_pos q3, if_neg (show ¬ (1 : Int) = 0 by decide), if_neg (show ¬ a1 < 0 by omega), if_neg (show ¬ 12 ≤ a1 by omega)]
    have hbr := h1.2.2.2.2.1.2.1
    have hbe : S 7 2 = T1 0 22 := h1.1.2.2.1.2.2.2.2.2.2.1
    by_cases q6 : T1 0 22 = 60
    · rw [if_neg (show ¬ S 7 2 < 60 by omega), cal_s, if_pos rfl, cal_s, if_pos rfl, if_pos q6]
      exact ⟨_, _, _, rfl, rfl, h1⟩
    · obtain ⟨m, hm⟩ : ∃ m : Nat, T1 0 22 = m := ⟨(T1 0 22).toNat, by omega⟩
      have hS2 : S 7 2 = m := by omega
      have c : (0 : Int) ≤ (m : Int) ∧ (m : Int) < 60 := by omega
      have c60 : 0 ≤ (m : Int) + 1 ∧ (m : Int) + 1 ≤ 60 := by omega
      have w : w32 ((m : Int) + 1) = m + 1 := w32_id ⟨by omega, by omega⟩
      have e1 : stU S 8 m a0 7 2 = m := by rw [stU_cell _ _ _ _ (by decide)]; exact hS2
      have e2 : stU (stU S 8 m a0) 9 m a1 7 2 = m := by rw [stU_cell _ _ _ _ (by decide)]; exact e1
      have f1 : stU T1 19 m a0 0 22 = m := by rw [stU_cell _ _ _ _ (by decide)]; exact hm
      have f2 : stU (stU T1 19 m a0) 20 m a1 0 22 = m := by rw [stU_cell _ _ _ _ (by decide)]; exact f1
      rw [if_neg q6]
      simp only [hS2, hm, Int.toNat_natCast, e1, e2, f1, f2, w, c, if_true, and_self]
      rw [cal_s, if_neg (show ¬ (1 : Int) = 0 by decide), cal_s, if_neg (show ¬ (1 : Int) = 0 by decide)]
      clear w
      refine ⟨_, _, _, rfl, rfl, ?_⟩
      have hS : ∀ k f, k ≠ 7 → k ≠ 8 → k ≠ 9 → stU (stU (stU S 8 m a0) 9 m a1) 7 2 ((m : Int) + 1) k f = S k f := fun k f z1 z2 z3 => by rw [stU_cell _ _ _ _ z1, stU_cell _ _ _ _ z3, stU_cell _ _ _ _ z2]
      have hT : ∀ k f, k ≠ 0 → k ≠ 19 → k ≠ 20 → stU (stU (stU T1 19 m a0) 20 m a1) 0 22 ((m : Int) + 1) k f = T1 k f := fun k f z1 z2 z3 => by rw [stU_cell _ _ _ _ z1, stU_cell _ _ _ _ z3, stU_cell _ _ _ _ z2]
      have hT0 : ∀ f, f ≠ 22 → stU (stU (stU T1 19 m a0) 20 m a1) 0 22 ((m : Int) + 1) 0 f = T1 0 f := fun f z => by rw [stU_slot _ _ _ _ z, stU_cell _ _ _ _ (by decide), stU_cell _ _ _ _ (by decide)]
      obtain ⟨⟨r1, r2, r3, r4, r5⟩, rt, v1, v2, v3, v4⟩ := h1
      refine ⟨⟨fun j hj => LR_off (r1 j hj) (fun f => hS _ f (by omega) (by omega) (by omega)) (fun q _ _ => hT q j (by omega) (by omega) (by omega)), ?_, ?_, ?_, ?_⟩, ?_, fun j hj => ?_, ?_, ?_, ?_⟩
      · intro c hc f hf1 hf2
        rw [hS _ _ (by omega) (by omega) (by omega), hT _ _ (by omega) (by omega) (by omega)]
        exact r2 c hc f hf1 hf2
      · unfold Rg at r3 ⊢
        rw [hS 4 5 (by decide) (by decide) (by decide), hS 4 6 (by decide) (by decide) (by decide), hS 4 7 (by decide) (by decide) (by decide), hS 4 100008 (by decide) (by decide) (by decide), hS 4 9 (by decide) (by decide) (by decide), hS 4 10 (by decide) (by decide) (by decide), hS 10 2 (by decide) (by decide) (by decide), hT0 19 (by decide), hT0 4 (by decide), hT0 25 (by decide), hT0 100028 (by decide), hT0 29 (by decide), hT0 30 (by decide), hT0 24 (by decide), stU_same, stU_same]
        exact ⟨r3.1, r3.2.1, r3.2.2.1, r3.2.2.2.1, r3.2.2.2.2.1, r3.2.2.2.2.2.1, rfl, r3.2.2.2.2.2.2.2⟩
      · unfold Ra at r4 ⊢
        simp only [hS 2 _ (by decide) (by decide) (by decide), hS 3 _ (by decide) (by decide) (by decide), hS 11 _ (by decide) (by decide) (by decide), hT 1 _ (by decide) (by decide) (by decide), hT 4 _ (by decide) (by decide) (by decide), hT 21 _ (by decide) (by decide) (by decide)]
        refine ⟨r4.1, r4.2.1, fun i hi => ?_, fun i hi => ?_, r4.2.2.2.2⟩
        · have := r4.2.2.1 i hi
          simp only [stU]
          by_cases z : i = m <;> simp [z]
          exact this
        · have := r4.2.2.2.1 i hi
          simp only [stU]
          by_cases z : i = m <;> simp [z]
          exact this
      · exact Rk_of r5 (fun k f _ _ => hS k f (by omega) (by omega) (by omega)) (fun f => hT 22 f (by decide) (by decide) (by decide)) (hT0 32 (by decide))
      · exact Rt_same rt (fun f => hS 12 f (by decide) (by decide) (by decide)) (hT0 _ (by decide)) (hT0 _ (by decide)) (hT0 _ (by decide)) (fun c => hT 15 c (by decide) (by decide) (by decide))
      · have a := v1 j hj
        unfold LI at a ⊢
        rw [hT 5 j (by decide) (by decide) (by decide), hT 6 j (by decide) (by decide) (by decide), hT 7 j (by decide) (by decide) (by decide), hT 15 _ (by decide) (by decide) (by decide), hT0 19 (by decide)]
        exact a
      · unfold UQ at v2 ⊢
        simp only [hT 5 _ (by decide) (by decide) (by decide), hT 7 _ (by decide) (by decide) (by decide)]
        exact v2
      · unfold IN at v3 ⊢
        simp only [hT0 19 (by decide), stU_same, hT 16 _ (by decide) (by decide) (by decide), hT 13 _ (by decide) (by decide) (by decide), hT 1 _ (by decide) (by decide) (by decide), hT 2 _ (by decide) (by decide) (by decide), hT 3 _ (by decide) (by decide) (by decide), hT 4 _ (by decide) (by decide) (by decide)]
        refine ⟨v3.1, c60, fun i hi => ?_, v3.2.2.2⟩
        have := v3.2.2.1 i hi
        rw [stU_cell _ _ _ _ (by decide)]
        by_cases z : i = m
        · subst z; rw [stU_same]; omega
        · rw [stU_slot _ _ _ _ z, stU_cell _ _ _ _ (by decide)]; exact this
      · rw [hT0 24 (by decide)]; exact v4
  · rw [if_neg q3, if_pos rfl, cal_s, if_pos rfl]
    by_cases z : a1 < 0
    · rw [if_pos z]; exact ⟨_, _, _, rfl, rfl, h1⟩
    · rw [if_neg z, if_pos (show 12 ≤ a1 by omega)]; exact ⟨_, _, _, rfl, rfl, h1⟩
/-- one more caller -/
theorem op_caller {m : Nat} {a0 a1 a2 a3 a4 : Int} (h : RE Wk (-1) b S T) (hm : T 0 19 = m) (hm60 : m < 60) (h3 : 1 ≤ a3 ∧ a3 ≤ 1000) :
    RE Wk (-1) b (stU (stU (stU (stU (stU (stU (stU (stU (stU (stU S (m + 30) 1 a0) (m + 30) 2 a1) (m + 30) 3 a2) (m + 30) 4 a3) (m + 30) 5 a4) (m + 30) 6 0) (m + 30) 7 a3) (m + 30) 8 0) (m + 30) 9 0) 4 5 ((m : Int) + 1)) (stU (stU (stU (stU (stU (stU (stU (stU (stU (stU T 10 m a0) 11 m a1) 12 m a2) 13 m a3) 14 m a4) 15 m 0) 16 m a3) 17 m 0) 18 m 0) 0 19 ((m : Int) + 1)) := by
  have r9 : R0 Wk (stU (stU (stU (stU (stU (stU (stU (stU (stU S (m + 30) 1 a0) (m + 30) 2 a1) (m + 30) 3 a2) (m + 30) 4 a3) (m + 30) 5 a4) (m + 30) 6 0) (m + 30) 7 a3) (m + 30) 8 0) (m + 30) 9 0) (stU (stU (stU (stU (stU (stU (stU (stU (stU T 10 m a0) 11 m a1) 12 m a2) 13 m a3) 14 m a4) 15 m 0) 16 m a3) 17 m 0) 18 m 0) :=
    R0_call (f := 9) hm60 (by decide) (R0_call (f := 8) hm60 (by decide) (R0_call (f := 7) hm60 (by decide) (R0_call (f := 6) hm60 (by decide) (R0_call (f := 5) hm60 (by decide) (R0_call (f := 4) hm60 (by decide) (R0_call (f := 3) hm60 (by decide) (R0_call (f := 2) hm60 (by decide) (R0_call (f := 1) hm60 (by decide) h.1))))))))
  have oT : ∀ k f, (k < 10 ∨ 18 < k ∨ f ≠ m) → stU (stU (stU (stU (stU (stU (stU (stU (stU T 10 m a0) 11 m a1) 12 m a2) 13 m a3) 14 m a4) 15 m 0) 16 m a3) 17 m 0) 18 m 0 k f = T k f := fun k f hk => by
    simp only [stU]
    by_cases z : f = m
    · have : k ≠ 10 ∧ k ≠ 11 ∧ k ≠ 12 ∧ k ≠ 13 ∧ k ≠ 14 ∧ k ≠ 15 ∧ k ≠ 16 ∧ k ≠ 17 ∧ k ≠ 18 := by omega
      simp [this]
    · simp [z]
  have o13 : stU (stU (stU (stU (stU (stU (stU (stU (stU T 10 m a0) 11 m a1) 12 m a2) 13 m a3) 14 m a4) 15 m 0) 16 m a3) 17 m 0) 18 m 0 13 m = a3 := by simp [stU]
  have o16 : stU (stU (stU (stU (stU (stU (stU (stU (stU T 10 m a0) 11 m a1) 12 m a2) 13 m a3) 14 m a4) 15 m 0) 16 m a3) 17 m 0) 18 m 0 16 m = a3 := by simp [stU]
  have o15 : stU (stU (stU (stU (stU (stU (stU (stU (stU T 10 m a0) 11 m a1) 12 m a2) 13 m a3) 14 m a4) 15 m 0) 16 m a3) 17 m 0) 18 m 0 15 m = 0 := by simp [stU]
  have oS : ∀ k f, k ≠ m + 30 → stU (stU (stU (stU (stU (stU (stU (stU (stU S (m + 30) 1 a0) (m + 30) 2 a1) (m + 30) 3 a2) (m + 30) 4 a3) (m + 30) 5 a4) (m + 30) 6 0) (m + 30) 7 a3) (m + 30) 8 0) (m + 30) 9 0 k f = S k f := fun k f hk => by simp [stU, hk]
  generalize stU (stU (stU (stU (stU (stU (stU (stU (stU T 10 m a0) 11 m a1) 12 m a2) 13 m a3) 14 m a4) 15 m 0) 16 m a3) 17 m 0) 18 m 0 = T9 at r9 oT o13 o16 o15 ⊢
  generalize stU (stU (stU (stU (stU (stU (stU (stU (stU S (m + 30) 1 a0) (m + 30) 2 a1) (m + 30) 3 a2) (m + 30) 4 a3) (m + 30) 5 a4) (m + 30) 6 0) (m + 30) 7 a3) (m + 30) 8 0) (m + 30) 9 0 = S9 at r9 oS ⊢
  have hT : ∀ k f, k ≠ 0 → stU T9 0 19 ((m : Int) + 1) k f = T9 k f := fun k f hk => stU_cell _ _ _ _ hk
  have hT0 : ∀ f, f ≠ 19 → stU T9 0 19 ((m : Int) + 1) 0 f = T 0 f := fun f hf => by rw [stU_slot _ _ _ _ hf]; exact oT 0 f (by omega)
  refine ⟨?_, ?_, fun j hj => ?_, ?_, ?_, ?_⟩
  · refine R0_glob r9 (fun k f hk => stU_cell _ _ _ _ hk) hT (stU_slot _ _ _ _ (by decide)) ?_
    have g := r9.2.2.1
    unfold Rg at g ⊢
    simp [stU]
    exact ⟨g.2.1, g.2.2.1, g.2.2.2.1, g.2.2.2.2.1, g.2.2.2.2.2.1, g.2.2.2.2.2.2.1, g.2.2.2.2.2.2.2⟩
  · have ht := h.2.1
    have o : ∀ v, 5 ≤ v → cn (stU T9 0 19 ((m : Int) + 1) 15) v (stU T9 0 19 ((m : Int) + 1) 0 19).toNat = cn (T 15) v (T 0 19).toNat := fun v hv => by
      rw [stU_same, hm, Int.toNat_natCast, show ((m : Int) + 1).toNat = m + 1 by omega]
      simp only [cn]
      rw [hT 15 m (by decide), o15, if_neg (by omega), Int.add_zero]
      exact cn_congr (fun i hi => by rw [hT 15 i (by decide), oT 15 i (by omega)])
    have eS : ∀ f, stU S9 4 5 ((m : Int) + 1) 12 f = S 12 f := fun f => by rw [stU_cell _ _ _ _ (by decide)]; exact oS 12 f (by omega)
    unfold Rt at ht ⊢
    rw [o 5 (by decide), o 6 (by decide), o 7 (by decide), o 8 (by decide), hT0 26 (by decide), hT0 27 (by decide)]
    simp only [eS]
    exact ht
  · have a := h.2.2.1 j hj
    unfold LI at a ⊢
    rw [hT 5 j (by decide), hT 6 j (by decide), hT 7 j (by decide), oT 5 j (by omega), oT 6 j (by omega), oT 7 j (by omega), stU_same]
    refine ⟨a.1, a.2.1, a.2.2.1, fun q => ⟨by have := (a.2.2.2 q).1; omega, fun q2 => ?_⟩⟩
    have a2 := (a.2.2.2 q).1
    rw [hT 15 _ (by decide), oT 15 _ (by omega)]
    exact (a.2.2.2 q).2 q2
  · have := h.2.2.2.1
    unfold UQ at this ⊢
    simp only [hT 5 _ (by decide), hT 7 _ (by decide), oT 5 _ (Or.inl (by decide)), oT 7 _ (Or.inl (by decide))]
    exact this
  · have v3 := h.2.2.2.2.1
    unfold IN at v3 ⊢
    simp only [stU_same, hT0 22 (by decide), hT 20 _ (by decide), hT 16 _ (by decide), hT 13 _ (by decide), hT 1 _ (by decide), hT 2 _ (by decide), hT 3 _ (by decide), hT 4 _ (by decide), oT 20 _ (Or.inr (Or.inl (by decide))), oT 1 _ (Or.inl (by decide)), oT 2 _ (Or.inl (by decide)), oT 3 _ (Or.inl (by decide)), oT 4 _ (Or.inl (by decide))]
    refine ⟨by omega, v3.2.1, v3.2.2.1, fun c hc => ?_, v3.2.2.2.2⟩
    by_cases z : c = m
    · subst z; rw [o13, o16]; omega
    · rw [oT 16 c (by omega), oT 13 c (by omega)]; exact v3.2.2.2.1 c hc
  · rw [hT0 24 (by decide)]; exact h.2.2.2.2.2
end CB
