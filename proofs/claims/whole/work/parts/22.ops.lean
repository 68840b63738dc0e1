/-! The small steps, side by side -/
def becX (i : Nat) (a b c d : Int) (S : St) : St := stU (stU (stU (stU S (i + 18) 1 a) (i + 18) 3 b) (i + 18) 4 c) (i + 18) 5 d
theorem X_become {i : Nat} {a b c d : Int} {S : St} : dn_X3_become (i : Int) a b c d S = some (becX i a b c d S, 0) := by simp [dn_X3_become, nmS, becX]
theorem X_vanish {i : Nat} {S : St} : dn_X3_vanish (i : Int) S = some (stU (becX i 0 (-1) 0 0 S) (i + 18) 2 0, 0) := by simp [dn_X3_vanish, X_become, cal, nmS]
theorem X_open {i : Nat} {a : Int} {S : St} : dn_X3_openFor (i : Int) a S = some (becX i 1 (-1) a 0 S, 0) := by simp [dn_X3_openFor, X_become, cal]
theorem X_idle {i : Nat} {a : Int} {S : St} : dn_X3_idleFrom (i : Int) a S = some (becX i 2 (-1) 0 a S, 0) := by simp [dn_X3_idleFrom, X_become, cal]
theorem X_try {i : Nat} {a b : Int} {S : St} : dn_X3_tryFor (i : Int) a b S = some (becX i 3 a b 0 S, 0) := by simp [dn_X3_tryFor, X_become, cal]
theorem X_lendTo {i : Nat} {a b : Int} {S : St} : dn_X3_lendTo (i : Int) a b S = some (becX i 4 a 0 b S, 0) := by simp [dn_X3_lendTo, X_become, cal]
theorem becX_off {i k f : Nat} {a b c d : Int} {S : St} (h : k ≠ i + 18) : becX i a b c d S k f = S k f := by simp [becX, stU, h]
def drX (i : Nat) (S : St) : St := lgX 7 (S 4 6) (-1) i (stU (becX i 0 (-1) 0 0 S) (i + 18) 2 0)
theorem X_drop {i : Nat} {S : St} (hi : i < 12) (h : 0 ≤ S 10 2 ∧ S 10 2 ≤ 2147483000) : dn_X6_drop (i : Int) S = some (drX i S, 0) := by
  unfold dn_X6_drop
  rw [if_pos (by omega), X_vanish]
  simp only [cal, Option.bind]
  have h1 : stU (becX i 0 (-1) 0 0 S) (i + 18) 2 0 10 2 = S 10 2 := by rw [stU_cell _ _ _ _ (by omega), becX_off (by omega)]
  have h2 : stU (becX i 0 (-1) 0 0 S) (i + 18) 2 0 4 6 = S 4 6 := by rw [stU_cell _ _ _ _ (by omega), becX_off (by omega)]
  rw [h2, X_add (by rw [h1]; exact h) (by decide)]
  simp [drX]
def goM (i : Nat) (T : St) : St := lgM 7 (-1) i (stU (stU (stU T 5 i 0) 6 i 0) 0 27 (w32 (T 0 27 + 1)))
theorem M_go {i : Nat} {T : St} (hi : i < 12) (h : 0 ≤ T 0 24 ∧ T 0 24 ≤ 2147483000) : dn_X9_go (i : Int) T = some (goM i T, 0) := by
  unfold dn_X9_go
  rw [if_pos (by omega)]
  simp only [nmS, Int.toNat_natCast]
  have e : stU (stU T 5 i 0) 6 i 0 0 27 = T 0 27 := by simp [stU]
  rw [e, M_say (by simpa [stU] using h)]
  simp [cal, goM]
def reM (i : Nat) (T : St) : St := stU (stU T 5 i 2) 9 i (T 0 4)
theorem M_rest {i : Nat} {T : St} (hi : i < 12) : dn_X9_rest (i : Int) T = some (reM i T, 0) := by
  unfold dn_X9_rest
  rw [if_pos (by omega)]
  simp [nmS, reM, stU]
section OP
variable {Wk : (Nat → Int) → Int → Int → Int × Int} {S T S' T' : St} {e e2 b b2 : Int}
theorem LR_off {j : Nat} (h : LR S T j) (hS : ∀ f, S' (j + 18) f = S (j + 18) f) (hT : ∀ k, 5 ≤ k → k ≤ 9 → T' k j = T k j) : LR S' T' j := by
  unfold LR at h ⊢
  simp only [hS, hT 5 (by omega) (by omega), hT 6 (by omega) (by omega), hT 7 (by omega) (by omega), hT 8 (by omega) (by omega), hT 9 (by omega) (by omega)]
  exact h
theorem IV_line {i : Nat} (hi : i < 12) (h : IV e b T) (hT : ∀ k f, k ≠ 0 → k ≠ 21 → (k < 5 ∨ 9 < k ∨ f ≠ i) → T' k f = T k f) (h19 : T' 0 19 = T 0 19) (h22 : T' 0 22 = T 0 22) (hev : 0 ≤ T' 0 24 ∧ T' 0 24 ≤ b2) (hL : LI e T' i) (hU : T' 5 i = 3 → ∀ j, j < 12 → j ≠ i → T 5 j = 3 → T 7 j ≠ T' 7 i) : IV e b2 T' := by
  obtain ⟨h1, h2, h3, h4⟩ := h
  refine ⟨?_, ?_, ?_, hev⟩
  · intro j hj
    by_cases q : j = i
    · subst q; exact hL
    · have := h1 j hj
      unfold LI at this ⊢
      rw [hT 5 j (by omega) (by omega) (Or.inr (Or.inr q)), hT 6 j (by omega) (by omega) (Or.inr (Or.inr q)), hT 7 j (by omega) (by omega) (Or.inr (Or.inr q)), hT 15 _ (by omega) (by omega) (Or.inr (Or.inl (by decide))), h19]
      exact this
  · intro x y hx hy h5 h6 h7
    by_cases q : x = i
    · by_cases r : y = i
      · omega
      · subst q
        rw [hT 5 y (by omega) (by omega) (Or.inr (Or.inr r))] at h6
        rw [hT 7 y (by omega) (by omega) (Or.inr (Or.inr r))] at h7
        exact absurd h7.symm (hU h5 y hy r h6)
    · rw [hT 5 x (by omega) (by omega) (Or.inr (Or.inr q))] at h5
      rw [hT 7 x (by omega) (by omega) (Or.inr (Or.inr q))] at h7
      by_cases r : y = i
      · subst r
        exact absurd h7 (hU h6 x hx q h5)
      · rw [hT 5 y (by omega) (by omega) (Or.inr (Or.inr r))] at h6
        rw [hT 7 y (by omega) (by omega) (Or.inr (Or.inr r))] at h7
        exact h2 x y hx hy h5 h6 h7
  · unfold IN at h3 ⊢
    simp only [h19, h22, hT 20 _ (by omega) (by omega) (Or.inr (Or.inl (by decide))), hT 16 _ (by omega) (by omega) (Or.inr (Or.inl (by decide))), hT 13 _ (by omega) (by omega) (Or.inr (Or.inl (by decide))), hT 1 _ (by omega) (by omega) (Or.inl (by decide)), hT 2 _ (by omega) (by omega) (Or.inl (by decide)), hT 3 _ (by omega) (by omega) (Or.inl (by decide)), hT 4 _ (by omega) (by omega) (Or.inl (by decide))]
    exact h3
theorem Rt_same (h : Rt S T) (hS : ∀ f, S' 12 f = S 12 f) (h26 : T' 0 26 = T 0 26) (h27 : T' 0 27 = T 0 27) (h19 : T' 0 19 = T 0 19) (h15 : ∀ c, T' 15 c = T 15 c) : Rt S' T' := by
  have e15 : T' 15 = T 15 := funext h15
  unfold Rt at h ⊢
  simp only [hS, h26, h27, h19, e15]
  exact h
theorem ev_of (h : RE Wk e b S T) (hb : b ≤ 2147483000) : (0 ≤ T 0 24 ∧ T 0 24 ≤ 2147483000) ∧ (0 ≤ S 10 2 ∧ S 10 2 ≤ 2147483000) := by
  have h1 := h.2.2.2.2.2
  have h2 : S 10 2 = T 0 24 := h.1.2.2.1.2.2.2.2.2.2.2
  omega
/-- a line is gone -/
theorem op_go {i : Nat} (hi : i < 12) (h : RE Wk e b S T) (hb : b ≤ 2147483000) : dn_X6_drop (i : Int) S = some (drX i S, 0) ∧ dn_X9_go (i : Int) T = some (goM i T, 0) ∧ RE Wk e (b + 1) (drX i S) (goM i T) := by
  have hv := ev_of h hb
  obtain ⟨h0, ht, hi0⟩ := h
  refine ⟨X_drop hi hv.2, M_go hi hv.1, ?_, ?_, ?_⟩
  · unfold drX goM
    have hR : R0 Wk (stU (becX i 0 (-1) 0 0 S) (i + 18) 2 0) (stU (stU T 5 i 0) 6 i 0) := by
      refine R0_line hi h0 (fun k f hk => by rw [stU_cell _ _ _ _ hk, becX_off hk]) (fun k f hk => ?_) ?_
      · unfold stU
        by_cases q5 : k = 5 <;> by_cases q6 : k = 6 <;> by_cases qf : f = i <;> simp [q5, q6, qf] <;> omega
      · simp [LR, becX, stU]
    have hR2 : R0 Wk (stU (becX i 0 (-1) 0 0 S) (i + 18) 2 0) (stU (stU (stU T 5 i 0) 6 i 0) 0 27 (w32 (T 0 27 + 1))) := by
      refine R0_glob hR (fun _ _ _ => rfl) (fun k f hk => stU_cell _ _ _ _ hk) (by simp [stU]) ?_
      have := hR.2.2.1
      unfold Rg at this ⊢
      simpa [stU] using this
    have h46 : S 4 6 = T 0 4 := h0.2.2.1.2.1
    exact R0_log (by simp [stU, h46]) hR2
  · unfold Rt at ht ⊢
    have e15 : goM i T 15 = T 15 := by funext c; simp [goM, lgM, stU]
    have e19 : goM i T 0 19 = T 0 19 := by simp [goM, lgM, stU]
    have e26 : goM i T 0 26 = T 0 26 := by simp [goM, lgM, stU]
    have e27 : goM i T 0 27 = w32 (T 0 27 + 1) := by simp [goM, lgM, stU]
    rw [e15, e19, e26, e27]
    have a : ∀ q, q ≠ 7 → drX i S 12 q = S 12 q := fun q hq => by
      simp [drX, lgX, stU, becX, hq]
    have a7 : drX i S 12 7 = w32 (S 12 7 + 1) := by
      simp [drX, lgX, stU, becX]
    rw [a 6 (by decide), a 2 (by decide), a 3 (by decide), a 4 (by decide), a 5 (by decide), a7, ht.2.1]
    exact ⟨ht.1, rfl, ht.2.2.1, ht.2.2.2.1, ht.2.2.2.2.1, ht.2.2.2.2.2⟩
  · refine IV_line hi hi0 (fun k f hk h21 hk2 => ?_) (by simp [goM, lgM, stU]) (by simp [goM, lgM, stU]) ?_ ?_ ?_
    · simp only [goM, lgM, stU, if_neg hk]
      by_cases q5 : k = 5 <;> by_cases q6 : k = 6 <;> by_cases qf : f = i <;> simp [q5, q6, h21, qf] <;> omega
    · have := hi0.2.2.2
      simp [goM, lgM, stU]
      omega
    · simp [LI, goM, lgM, stU]
    · intro q
      simp [goM, lgM, stU] at q
/-- a line is idle -/
theorem op_rest {i : Nat} (hi : i < 12) (h : RE Wk e b S T) (h3 : T 5 i ≠ 0) : RE Wk e b (becX i 2 (-1) 0 (S 4 6) S) (reM i T) := by
  obtain ⟨h0, ht, hi0⟩ := h
  have h46 : S 4 6 = T 0 4 := h0.2.2.1.2.1
  have hoff : ∀ k f, (k < 5 ∨ 9 < k ∨ f ≠ i) → reM i T k f = T k f := fun k f hk => by
    unfold reM stU
    by_cases q5 : k = 5 <;> by_cases q9 : k = 9 <;> by_cases qf : f = i <;> simp [q5, q9, qf] <;> omega
  refine ⟨?_, ?_, ?_⟩
  · refine R0_line hi h0 (fun k f hk => becX_off hk) hoff ?_
    have := h0.1 i hi
    unfold LR at this ⊢
    simp [becX, stU, reM, h46, this]
  · exact Rt_same ht (fun f => becX_off (by omega)) (hoff 0 _ (by omega)) (hoff 0 _ (by omega)) (hoff 0 _ (by omega)) (fun c => hoff 15 _ (by omega))
  · refine IV_line hi hi0 (fun k f _ _ hk => hoff k f hk) (hoff 0 _ (by omega)) (hoff 0 _ (by omega)) ?_ ?_ ?_
    · rw [hoff 0 _ (by omega)]; exact hi0.2.2.2
    · have := hi0.1 i hi
      unfold LI at this ⊢
      simp [reM, stU]
      exact this.2.1
    · intro q
      simp [reM, stU] at q
end OP
