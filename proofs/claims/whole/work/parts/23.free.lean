/-! Lines given back, callers that leave -/
section FR
variable {Wk : (Nat → Int) → Int → Int → Int × Int} {S T S' T' : St} {e e2 b b2 : Int}
theorem many_rng (h : RE Wk e b S T) : 0 ≤ T 0 19 ∧ T 0 19 ≤ 60 := h.2.2.2.2.1.1
theorem hold_eq (h : RE Wk e b S T) {i : Nat} (hi : i < 12) : S (i + 18) 3 = (if 3 ≤ T 5 i then T 7 i else -1) := (h.1.1 i hi).2.2.1
theorem st_eq (h : RE Wk e b S T) {i : Nat} (hi : i < 12) : S (i + 18) 1 = T 5 i := (h.1.1 i hi).1
theorem br_eq (h : RE Wk e b S T) {i : Nat} (hi : i < 12) : S (i + 18) 2 = T 6 i := (h.1.1 i hi).2.1
theorem call_eq (h : RE Wk e b S T) {c f : Nat} (hc : c < 60) (h1 : 1 ≤ f) (h2 : f ≤ 9) : S (c + 30) f = T (f + 9) c := h.1.2.1 c hc f h1 h2
theorem now_eq (h : RE Wk e b S T) : S 4 6 = T 0 4 := h.1.2.2.1.2.1
theorem many_eq (h : RE Wk e b S T) : S 4 5 = T 0 19 := h.1.2.2.1.1
theorem line_i (h : RE Wk e b S T) {i : Nat} (hi : i < 12) : LI e T i := h.2.2.1 i hi
theorem hold_rng (h : RE Wk e b S T) {i : Nat} (hi : i < 12) : -1 ≤ S (i + 18) 3 ∧ S (i + 18) 3 < 60 := by
  have h1 := hold_eq h hi
  have h2 := line_i h hi
  have h3 := many_rng h
  unfold LI at h2
  rw [h1]
  by_cases q : 3 ≤ T 5 i
  · rw [if_pos q]
    have := (h2.2.2.2 q).1
    omega
  · rw [if_neg q]
    omega
theorem sim_gb {c : Nat} : ∀ (d i : Nat) (S T : St) (n m : Nat), i + d = 12 → RE Wk (c : Int) b S T → (∀ j, j < i → ¬ (3 ≤ T 5 j ∧ T 7 j = c)) → d < n → d < m →
    ∃ S' T', dn_X6_giveBack_2 n (c : Int) (i : Int) S = some (S', 0) ∧ dn_X9_free_2 m (c : Int) 0 (i : Int) T = some (T', 0) ∧ RE Wk (c : Int) b S' T' ∧ (∀ j, j < 12 → ¬ (3 ≤ T' 5 j ∧ T' 7 j = c)) := by
  intro d
  induction d with
  | zero =>
    intro i S T n m hd h hj hn hm
    obtain ⟨n, rfl⟩ : ∃ q, n = q + 1 := ⟨n - 1, by omega⟩
    obtain ⟨m, rfl⟩ : ∃ q, m = q + 1 := ⟨m - 1, by omega⟩
    refine ⟨S, T, ?_, ?_, h, fun j q => hj j (by omega)⟩
    · rw [dn_X6_giveBack_2, if_pos (by omega)]
    · rw [dn_X9_free_2, if_pos (by omega)]
  | succ d ih =>
    intro i S T n m hd h hj hn hm
    obtain ⟨n, rfl⟩ : ∃ q, n = q + 1 := ⟨n - 1, by omega⟩
    obtain ⟨m, rfl⟩ : ∃ q, m = q + 1 := ⟨m - 1, by omega⟩
    have hi : i < 12 := by omega
    have hr := hold_rng h hi
    have he := hold_eq h hi
    have c1 : ¬ (12 : Int) ≤ (i : Int) := by omega
    have c2 : (0 : Int) ≤ (i : Int) ∧ (i : Int) < 12 := by omega
    simp only [dn_X6_giveBack_2, dn_X9_free_2, c1, c2, hr, if_true, if_false, and_self, Int.toNat_natCast, nmV, w32_s (show i < 1000000 by omega), X_idle, M_rest hi, cal, Option.bind]
    by_cases q3 : 3 ≤ T 5 i
    · have q4 : ¬ T 5 i < 3 := by omega
      by_cases qc : T 7 i = c
      · have q5 : S (i + 18) 3 = c := by rw [he, if_pos q3, qc]
        simp only [q4, qc, q5, if_true, if_false]
        refine ih (i + 1) _ _ n m (by omega) (op_rest hi h (by omega)) (fun j hj2 => ?_) (by omega) (by omega)
        by_cases qj : j = i
        · subst qj; simp [reM, stU]
        · have := hj j (by omega)
          simp only [reM, stU]
          simpa [qj] using this
      · have q5 : ¬ S (i + 18) 3 = c := by rw [he, if_pos q3]; exact qc
        simp only [q4, qc, q5, if_false]
        refine ih (i + 1) _ _ n m (by omega) h (fun j hj2 => ?_) (by omega) (by omega)
        by_cases qj : j = i
        · subst qj; exact fun q => qc q.2
        · exact hj j (by omega)
    · have q4 : T 5 i < 3 := by omega
      have q5 : ¬ S (i + 18) 3 = c := by rw [he, if_neg q3]; omega
      simp only [q4, q5, if_true, if_false]
      refine ih (i + 1) _ _ n m (by omega) h (fun j hj2 => ?_) (by omega) (by omega)
      by_cases qj : j = i
      · subst qj; exact fun q => q3 q.1
      · exact hj j (by omega)
theorem IV_none {c : Int} (h : IV c b T) (hn : ∀ j, j < 12 → ¬ (3 ≤ T 5 j ∧ T 7 j = c)) : IV e b T := by
  refine ⟨fun j hj => ?_, h.2⟩
  have h1 := h.1 j hj
  have h2 := hn j hj
  unfold LI at h1 ⊢
  refine ⟨h1.1, h1.2.1, h1.2.2.1, fun q => ⟨(h1.2.2.2 q).1, fun _ => (h1.2.2.2 q).2 (fun q2 => h2 ⟨q, q2⟩)⟩⟩
theorem FU_lt {d : Nat} (h : d < 20000) : d < FU := h
theorem op_free {c : Nat} (h : RE Wk (c : Int) b S T) : ∃ S' T', dn_X6_giveBack (c : Int) S = some (S', 0) ∧ dn_X9_free (c : Int) 0 T = some (T', 0) ∧ RE Wk (-1) b S' T' := by
  obtain ⟨S', T', h1, h2, h3, h4⟩ := sim_gb (c := c) 12 0 S T FU FU (by omega) h (fun j hj => by omega) (FU_lt (by omega)) (FU_lt (by omega))
  exact ⟨S', T', h1, h2, h3.1, h3.2.1, IV_none h3.2.2 h4⟩
/-- a caller's state is another: the lines that it has must bear it -/
theorem IV_st {c : Nat} {x : Int} (h : IV e b T) (h1 : ∀ j, j < 12 → 3 ≤ T 5 j → T 7 j = c → (c : Int) ≠ e2 → (T 5 j = 3 → x = 2) ∧ (T 5 j = 4 → 1 ≤ x ∧ x ≤ 4)) (h2 : ∀ j, j < 12 → 3 ≤ T 5 j → T 7 j ≠ c → T 7 j ≠ e2 → T 7 j ≠ e) : IV e2 b (stU T 15 c x) := by
  have hT : ∀ k f, k ≠ 15 → stU T 15 c x k f = T k f := fun k f hk => stU_cell T c f x hk
  refine ⟨fun j hj => ?_, ?_, ?_, ?_⟩
  · have a := h.1 j hj
    unfold LI at a ⊢
    rw [hT 5 j (by decide), hT 6 j (by decide), hT 7 j (by decide), hT 0 19 (by decide)]
    refine ⟨a.1, a.2.1, a.2.2.1, fun q => ⟨(a.2.2.2 q).1, fun q2 => ?_⟩⟩
    have a2 := (a.2.2.2 q).1
    by_cases qc : T 7 j = c
    · have := h1 j hj q qc (by rw [← qc]; exact q2)
      rw [qc, Int.toNat_natCast, stU_same]
      exact this
    · have := (a.2.2.2 q).2 (h2 j hj q qc q2)
      rw [stU_slot T 15 15 x (by omega)]
      exact this
  · have := h.2.1
    unfold UQ at this ⊢
    simp only [hT 5 _ (by decide), hT 7 _ (by decide)]
    exact this
  · have := h.2.2.1
    unfold IN at this ⊢
    simp only [hT 0 _ (by decide), hT 20 _ (by decide), hT 16 _ (by decide), hT 13 _ (by decide), hT 1 _ (by decide), hT 2 _ (by decide), hT 3 _ (by decide), hT 4 _ (by decide)]
    exact this
  · rw [hT 0 24 (by decide)]; exact h.2.2.2
theorem IV_log {k c s : Int} (h : IV e b T) : IV e (b + 1) (lgM k c s T) := by
  have hT : ∀ k2 f, k2 ≠ 0 → k2 ≠ 21 → lgM k c s T k2 f = T k2 f := fun k2 f a b => by simp [lgM, stU, a, b]
  have hT0 : ∀ f, f ≠ 24 → lgM k c s T 0 f = T 0 f := fun f a => by simp [lgM, stU, a]
  refine ⟨fun j hj => ?_, ?_, ?_, ?_⟩
  · have a := h.1 j hj
    unfold LI at a ⊢
    simp only [hT 5 _ (by decide) (by decide), hT 6 _ (by decide) (by decide), hT 7 _ (by decide) (by decide), hT 15 _ (by decide) (by decide), hT0 19 (by decide)]
    exact a
  · have := h.2.1
    unfold UQ at this ⊢
    simp only [hT 5 _ (by decide) (by decide), hT 7 _ (by decide) (by decide)]
    exact this
  · have := h.2.2.1
    unfold IN at this ⊢
    simp only [hT0 19 (by decide), hT0 22 (by decide), hT 20 _ (by decide) (by decide), hT 16 _ (by decide) (by decide), hT 13 _ (by decide) (by decide), hT 1 _ (by decide) (by decide), hT 2 _ (by decide) (by decide), hT 3 _ (by decide) (by decide), hT 4 _ (by decide) (by decide)]
    exact this
  · have := h.2.2.2
    simp [lgM, stU]
    omega
def lvX (c : Nat) (x k : Int) (S : St) : St := lgX k (S 4 6) c (-1) (stU S (c + 30) 6 x)
theorem X_leave {c : Nat} {x k : Int} (hc : c < 60) (hk : 0 ≤ k ∧ k < 9) (h : 0 ≤ S 10 2 ∧ S 10 2 ≤ 2147483000) : dn_X6_leave (c : Int) x k S = some (lvX c x k S, 0) := by
  unfold dn_X6_leave
  rw [if_pos (by omega)]
  simp only [nmS, Int.toNat_natCast]
  have e1 : stU S (c + 30) 6 x 4 6 = S 4 6 := stU_cell _ _ _ _ (by omega)
  have e2 : stU S (c + 30) 6 x 10 2 = S 10 2 := stU_cell _ _ _ _ (by omega)
  rw [e1, X_add (by rw [e2]; exact h) hk]
  simp [cal, lvX]
/-- a caller ends: its state, and the log -/
theorem op_leave {c : Nat} {k : Int} (h : RE Wk (-1) b S T) (hb : b ≤ 2147483000) (hc : (c : Int) < T 0 19) (hk : k = 2 ∨ k = 3 ∨ k = 4 ∨ k = 5) (hx : T 15 c < 5) :
    dn_X6_leave (c : Int) (k + 3) k S = some (lvX c (k + 3) k S, 0) ∧ dn_X9_say k (c : Int) (-1) (stU T 15 c (k + 3)) = some (lgM k (c : Int) (-1) (stU T 15 c (k + 3)), 0) ∧ RE Wk (c : Int) (b + 1) (lvX c (k + 3) k S) (lgM k (c : Int) (-1) (stU T 15 c (k + 3))) := by
  have hm := many_rng h
  have hv := ev_of h hb
  have hn := now_eq h
  have hc60 : c < 60 := by omega
  refine ⟨X_leave hc60 (by omega) hv.2, M_say (by rw [stU_cell _ _ _ _ (by decide)]; exact hv.1), ?_, ?_, ?_⟩
  · exact R0_log (by rw [stU_cell _ _ _ _ (by decide)]; exact hn) (R0_call (f := 6) hc60 (by decide) h.1)
  · have ht := h.2.1
    have e15 : ∀ i, lgM k (c : Int) (-1) (stU T 15 c (k + 3)) 15 i = stU T 15 c (k + 3) 15 i := fun i => by simp [lgM, stU]
    have e0 : ∀ f, f ≠ 24 → lgM k (c : Int) (-1) (stU T 15 c (k + 3)) 0 f = T 0 f := fun f hf => by simp [lgM, stU, hf]
    have eS : ∀ f, f ≠ k.toNat → lvX c (k + 3) k S 12 f = S 12 f := fun f hf => by simp [lvX, lgX, stU, hf]
    have eK : lvX c (k + 3) k S 12 k.toNat = w32 (S 12 k.toNat + 1) := by simp [lvX, lgX, stU]
    have old : ∀ v, v ≠ k + 3 → 5 ≤ v → cn (stU T 15 c (k + 3) 15) v (T 0 19).toNat = cn (T 15) v (T 0 19).toNat := fun v hv hv5 => by
      apply cn_congr
      intro i _
      by_cases q : i = c
      · subst q; rw [stU_same]; omega
      · rw [stU_slot _ _ _ _ q]
    have new : cn (stU T 15 c (k + 3) 15) (k + 3) (T 0 19).toNat = cn (T 15) (k + 3) (T 0 19).toNat + 1 :=
      cn_new (c := c) (by omega) (by omega) (stU_same _ _ _ _) (fun i q => stU_slot _ _ _ _ q)
    have rng := fun v => cn_rng (T 15) v (T 0 19).toNat
    unfold Rt at ht ⊢
    simp only [e0 26 (by decide), e0 27 (by decide), e0 19 (by decide), funext e15]
    have w1 : ∀ x : Int, 0 ≤ x → x ≤ 60 → w32 (x + 1) = x + 1 := fun x a b => w32_id ⟨by omega, by omega⟩
    rcases hk with rfl | rfl | rfl | rfl
    · have r := rng 5
      refine ⟨by rw [eS 6 (by decide)]; exact ht.1, by rw [eS 7 (by decide)]; exact ht.2.1, ?_, by rw [eS 3 (by decide), old 6 (by decide) (by decide)]; exact ht.2.2.2.1, by rw [eS 4 (by decide), old 7 (by decide) (by decide)]; exact ht.2.2.2.2.1, by rw [eS 5 (by decide), old 8 (by decide) (by decide)]; exact ht.2.2.2.2.2⟩
      have e9 : lvX c (2 + 3) 2 S 12 2 = w32 (S 12 2 + 1) := eK
      have n9 : cn (stU T 15 c (2 + 3) 15) 5 (T 0 19).toNat = cn (T 15) 5 (T 0 19).toNat + 1 := new
      rw [e9, n9, ht.2.2.1, w1 _ (by omega) (by omega)]
    · have r := rng 6
      refine ⟨by rw [eS 6 (by decide)]; exact ht.1, by rw [eS 7 (by decide)]; exact ht.2.1, by rw [eS 2 (by decide), old 5 (by decide) (by decide)]; exact ht.2.2.1, ?_, by rw [eS 4 (by decide), old 7 (by decide) (by decide)]; exact ht.2.2.2.2.1, by rw [eS 5 (by decide), old 8 (by decide) (by decide)]; exact ht.2.2.2.2.2⟩
      have e9 : lvX c (3 + 3) 3 S 12 3 = w32 (S 12 3 + 1) := eK
      have n9 : cn (stU T 15 c (3 + 3) 15) 6 (T 0 19).toNat = cn (T 15) 6 (T 0 19).toNat + 1 := new
      rw [e9, n9, ht.2.2.2.1, w1 _ (by omega) (by omega)]
    · have r := rng 7
      refine ⟨by rw [eS 6 (by decide)]; exact ht.1, by rw [eS 7 (by decide)]; exact ht.2.1, by rw [eS 2 (by decide), old 5 (by decide) (by decide)]; exact ht.2.2.1, by rw [eS 3 (by decide), old 6 (by decide) (by decide)]; exact ht.2.2.2.1, ?_, by rw [eS 5 (by decide), old 8 (by decide) (by decide)]; exact ht.2.2.2.2.2⟩
      have e9 : lvX c (4 + 3) 4 S 12 4 = w32 (S 12 4 + 1) := eK
      have n9 : cn (stU T 15 c (4 + 3) 15) 7 (T 0 19).toNat = cn (T 15) 7 (T 0 19).toNat + 1 := new
      rw [e9, n9, ht.2.2.2.2.1, w1 _ (by omega) (by omega)]
    · have r := rng 8
      refine ⟨by rw [eS 6 (by decide)]; exact ht.1, by rw [eS 7 (by decide)]; exact ht.2.1, by rw [eS 2 (by decide), old 5 (by decide) (by decide)]; exact ht.2.2.1, by rw [eS 3 (by decide), old 6 (by decide) (by decide)]; exact ht.2.2.2.1, by rw [eS 4 (by decide), old 7 (by decide) (by decide)]; exact ht.2.2.2.2.1, ?_⟩
      have e9 : lvX c (5 + 3) 5 S 12 5 = w32 (S 12 5 + 1) := eK
      have n9 : cn (stU T 15 c (5 + 3) 15) 8 (T 0 19).toNat = cn (T 15) 8 (T 0 19).toNat + 1 := new
      rw [e9, n9, ht.2.2.2.2.2, w1 _ (by omega) (by omega)]
  · exact IV_log (IV_st h.2.2 (fun j _ _ q q2 => absurd rfl q2) (fun j hj q _ _ => by
      have := ((h.2.2.1 j hj).2.2.2 q).1
      omega))
/-- a caller ends and gives its lines back -/
theorem op_end {c : Nat} {k : Int} (h : RE Wk (-1) b S T) (hb : b ≤ 2147483000) (hc : (c : Int) < T 0 19) (hk : k = 2 ∨ k = 3 ∨ k = 4 ∨ k = 5) (hx : T 15 c < 5) :
    ∃ S1 S' T', dn_X6_leave (c : Int) (k + 3) k S = some (S1, 0) ∧ dn_X6_giveBack (c : Int) S1 = some (S', 0) ∧ dn_X9_say k (c : Int) (-1) (stU T 15 c (k + 3)) = some (lgM k (c : Int) (-1) (stU T 15 c (k + 3)), 0) ∧ dn_X9_free (c : Int) 0 (lgM k (c : Int) (-1) (stU T 15 c (k + 3))) = some (T', 0) ∧ RE Wk (-1) (b + 1) S' T' := by
  obtain ⟨h1, h2, h3⟩ := op_leave h hb hc hk hx
  obtain ⟨S', T', h4, h5, h6⟩ := op_free h3
  exact ⟨_, S', T', h1, h4, h2, h5, h6⟩
end FR
