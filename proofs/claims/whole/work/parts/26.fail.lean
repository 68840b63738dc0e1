/-! Those who fail, those who work -/
def R1 (Wk : (Nat → Int) → Int → Int → Int × Int) (S T : St) : Prop := Rc S T ∧ Rg S T ∧ Ra S T ∧ Rk Wk S T
section FA
variable {Wk : (Nat → Int) → Int → Int → Int × Int} {S T S' T' : St} {e e2 b b2 : Int}
theorem R1_line {i : Nat} (hi : i < 12) (h : R1 Wk S T) (hS : ∀ k f, k ≠ i + 18 → S' k f = S k f) (hT : ∀ k f, (k < 5 ∨ 9 < k ∨ f ≠ i) → T' k f = T k f) : R1 Wk S' T' := by
  obtain ⟨h2, h3, h4, h5⟩ := h
  refine ⟨?_, ?_, ?_, ?_⟩
  · intro c hc f hf1 hf2
    rw [hS _ _ (by omega), hT _ _ (by omega)]
    exact h2 c hc f hf1 hf2
  · unfold Rg at h3 ⊢
    simp only [hS 4 _ (by omega), hS 7 _ (by omega), hS 10 _ (by omega), hT 0 _ (Or.inl (by decide))]
    exact h3
  · unfold Ra at h4 ⊢
    simp only [hS 2 _ (by omega), hS 3 _ (by omega), hS 8 _ (by omega), hS 9 _ (by omega), hS 11 _ (by omega), hT 1 _ (Or.inl (by decide)), hT 2 _ (Or.inl (by decide)), hT 3 _ (Or.inl (by decide)), hT 4 _ (Or.inl (by decide)), hT 19 _ (Or.inr (Or.inl (by decide))), hT 20 _ (Or.inr (Or.inl (by decide))), hT 21 _ (Or.inr (Or.inl (by decide)))]
    exact h4
  · exact Rk_of h5 (fun k f _ _ => hS k f (by omega)) (fun f => hT 22 f (Or.inr (Or.inl (by decide)))) (hT 0 32 (Or.inl (by decide)))
theorem R1_log {k t c s : Int} (ht : t = T 0 4) (h : R1 Wk S T) : R1 Wk (lgX k t c s S) (lgM k c s T) := by
  obtain ⟨h2, h3, h4, h5⟩ := h
  have hS : ∀ q g, q ≠ 10 → q ≠ 11 → q ≠ 12 → lgX k t c s S q g = S q g := fun q g a b c => by simp [lgX, stU, a, b, c]
  have hT : ∀ q g, q ≠ 0 → q ≠ 21 → lgM k c s T q g = T q g := fun q g a b => by simp [lgM, stU, a, b]
  have hT0 : ∀ g, g ≠ 24 → lgM k c s T 0 g = T 0 g := fun g a => by simp [lgM, stU, a]
  have he : S 10 2 = T 0 24 := h3.2.2.2.2.2.2.2
  refine ⟨?_, ?_, ?_, ?_⟩
  · intro c2 hc2 f2 hf1 hf2
    rw [hS _ _ (by omega) (by omega) (by omega), hT _ _ (by omega) (by omega)]
    exact h2 c2 hc2 f2 hf1 hf2
  · unfold Rg at h3 ⊢
    simp only [hS 4 _ (by omega) (by omega) (by omega), hS 7 _ (by omega) (by omega) (by omega), hT0 19 (by omega), hT0 4 (by omega), hT0 25 (by omega), hT0 100028 (by omega), hT0 29 (by omega), hT0 30 (by omega), hT0 22 (by omega)]
    refine ⟨h3.1, h3.2.1, h3.2.2.1, h3.2.2.2.1, h3.2.2.2.2.1, h3.2.2.2.2.2.1, h3.2.2.2.2.2.2.1, ?_⟩
    simp [lgX, lgM, stU, he]
  · unfold Ra at h4 ⊢
    simp only [hS 2 _ (by omega) (by omega) (by omega), hS 3 _ (by omega) (by omega) (by omega), hS 8 _ (by omega) (by omega) (by omega), hS 9 _ (by omega) (by omega) (by omega), hT 1 _ (by omega) (by omega), hT 2 _ (by omega) (by omega), hT 3 _ (by omega) (by omega), hT 4 _ (by omega) (by omega), hT 19 _ (by omega) (by omega), hT 20 _ (by omega) (by omega)]
    refine ⟨h4.1, h4.2.1, h4.2.2.1, h4.2.2.2.1, ?_⟩
    intro i hi
    have := h4.2.2.2.2 i hi
    simp [lgX, lgM, stU, he, ht, this]
  · exact Rk_of h5 (fun k g _ _ => hS k g (by omega) (by omega) (by omega)) (fun g => hT 22 g (by omega) (by omega)) (hT0 32 (by omega))
theorem R1_27 {x : Int} (h : R1 Wk S T) : R1 Wk S (stU T 0 27 x) := by
  obtain ⟨h2, h3, h4, h5⟩ := h
  have hT : ∀ k f, k ≠ 0 → stU T 0 27 x k f = T k f := fun k f hk => stU_cell _ _ _ _ hk
  refine ⟨?_, ?_, ?_, ?_⟩
  · intro c hc f hf1 hf2
    rw [hT _ _ (by omega)]
    exact h2 c hc f hf1 hf2
  · unfold Rg at h3 ⊢
    simpa [stU] using h3
  · unfold Ra at h4 ⊢
    simp only [hT 1 _ (by omega), hT 2 _ (by omega), hT 3 _ (by omega), hT 4 _ (by omega), hT 19 _ (by omega), hT 20 _ (by omega), hT 21 _ (by omega)]
    exact h4
  · exact Rk_of h5 (fun k f _ _ => rfl) (fun f => hT 22 f (by omega)) (by simp [stU])
theorem go_off {i k f : Nat} (hk : k ≠ 0) (h21 : k ≠ 21) (hk2 : k < 5 ∨ 6 < k ∨ f ≠ i) : goM i T k f = T k f := by
  simp only [goM, lgM, stU, if_neg hk]
  by_cases q5 : k = 5 <;> by_cases q6 : k = 6 <;> by_cases qf : f = i <;> simp [q5, q6, h21, qf] <;> omega
theorem re_off {i k f : Nat} (hk : k < 5 ∨ 9 < k ∨ f ≠ i ∨ k = 6 ∨ k = 7 ∨ k = 8) : reM i T k f = T k f := by
  unfold reM stU
  by_cases q5 : k = 5 <;> by_cases q9 : k = 9 <;> by_cases qf : f = i <;> simp [q5, q9, qf] <;> omega
theorem IV_go {i : Nat} (hi : i < 12) (h : IV e b T) : IV e (b + 1) (goM i T) := by
  refine IV_line hi h (fun k f hk h21 hk2 => go_off hk h21 (by omega)) (by simp [goM, lgM, stU]) (by simp [goM, lgM, stU]) ?_ ?_ ?_
  · have := h.2.2.2
    simp [goM, lgM, stU]
    omega
  · simp [LI, goM, lgM, stU]
  · intro q
    simp [goM, lgM, stU] at q
theorem IV_rest {i : Nat} (hi : i < 12) (h : IV e b T) : IV e b (reM i T) := by
  refine IV_line hi h (fun k f _ _ hk => re_off (by omega)) (re_off (by omega)) (re_off (by omega)) ?_ ?_ ?_
  · rw [re_off (by omega)]; exact h.2.2.2
  · have := h.1 i hi
    unfold LI at this ⊢
    simp [reM, stU]
    exact this.2.1
  · intro q
    simp [reM, stU] at q
theorem Rt_go {i : Nat} (ht : Rt S T) : Rt (drX i S) (goM i T) := by
  unfold Rt at ht ⊢
  have e15 : goM i T 15 = T 15 := by funext c; simp [goM, lgM, stU]
  have e19 : goM i T 0 19 = T 0 19 := by simp [goM, lgM, stU]
  have e26 : goM i T 0 26 = T 0 26 := by simp [goM, lgM, stU]
  have e27 : goM i T 0 27 = w32 (T 0 27 + 1) := by simp [goM, lgM, stU]
  rw [e15, e19, e26, e27]
  have a : ∀ q, q ≠ 7 → drX i S 12 q = S 12 q := fun q hq => by simp [drX, lgX, stU, becX, hq]
  have a7 : drX i S 12 7 = w32 (S 12 7 + 1) := by simp [drX, lgX, stU, becX]
  rw [a 6 (by decide), a 2 (by decide), a 3 (by decide), a 4 (by decide), a 5 (by decide), a7, ht.2.1]
  exact ⟨ht.1, rfl, ht.2.2.1, ht.2.2.2.1, ht.2.2.2.2.1, ht.2.2.2.2.2⟩
theorem R1_go {i : Nat} (hi : i < 12) (h : R1 Wk S T) : R1 Wk (drX i S) (goM i T) := by
  have h46 : S 4 6 = T 0 4 := h.2.1.2.1
  have a : R1 Wk (stU (becX i 0 (-1) 0 0 S) (i + 18) 2 0) (stU (stU T 5 i 0) 6 i 0) := by
    refine R1_line hi h (fun k f hk => by rw [stU_cell _ _ _ _ hk, becX_off hk]) (fun k f hk => ?_)
    unfold stU
    by_cases q5 : k = 5 <;> by_cases q6 : k = 6 <;> by_cases qf : f = i <;> simp [q5, q6, qf] <;> omega
  exact R1_log (by simp [stU, h46]) (R1_27 a)
/-- a line of c that isn't broken: the reference has it idle already -/
def LD (c : Int) (i : Nat) (S T : St) (j : Nat) : Prop := (j < i ∧ S (j + 18) 3 = c ∧ T 5 j = 2 ∧ T 6 j = S (j + 18) 2 ∧ T 9 j = T 0 4) ∨ (LR S T j ∧ (j < i → S (j + 18) 3 ≠ c))
theorem drX_line {i j f : Nat} (h : j ≠ i) (_ : i < 12) : drX i S (j + 18) f = S (j + 18) f := by
  simp [drX, lgX, stU, becX, h]
theorem dr_LR {i : Nat} : LR (drX i S) (goM i T) i := by
  simp [LR, drX, goM, lgX, lgM, becX, stU]
theorem sim_db {c : Nat} : ∀ (d i : Nat) (b : Int) (S T : St) (n m : Nat), i + d = 12 → b + d ≤ 2147483000 → R1 Wk S T → Rt S T → IV (c : Int) b T → (∀ j, j < 12 → LD (c : Int) i S T j) → d < n → d < m →
    ∃ S' T', dn_X6_dropBroken_2 n (c : Int) (i : Int) S = some (S', 0) ∧ dn_X9_free_2 m (c : Int) 1 (i : Int) T = some (T', 0) ∧ R1 Wk S' T' ∧ Rt S' T' ∧ IV (c : Int) (b + d) T' ∧ (∀ j, j < 12 → LD (c : Int) 12 S' T' j) ∧ (∀ j, j < 12 → ¬ (3 ≤ T' 5 j ∧ T' 7 j = c)) := by
  intro d
  induction d with
  | zero =>
    intro i b S T n m hd hb h1 ht hv hL hn hm
    obtain ⟨n, rfl⟩ : ∃ q, n = q + 1 := ⟨n - 1, by omega⟩
    obtain ⟨m, rfl⟩ : ∃ q, m = q + 1 := ⟨m - 1, by omega⟩
    have hi : i = 12 := by omega
    subst hi
    refine ⟨S, T, ?_, ?_, h1, ht, by simpa using hv, hL, fun j hj q => ?_⟩
    · rw [dn_X6_dropBroken_2, if_pos (by omega)]
    · rw [dn_X9_free_2, if_pos (by omega)]
    · rcases hL j hj with ⟨_, _, q5, _⟩ | ⟨q1, q2⟩
      · omega
      · have := q1.2.2.1
        rw [if_pos q.1, q.2] at this
        exact q2 hj this
  | succ d ih =>
    intro i b S T n m hd hb h1 ht hv hL hn hm
    obtain ⟨n, rfl⟩ : ∃ q, n = q + 1 := ⟨n - 1, by omega⟩
    obtain ⟨m, rfl⟩ : ∃ q, m = q + 1 := ⟨m - 1, by omega⟩
    have hi : i < 12 := by omega
    have hLi : LR S T i := by
      rcases hL i hi with ⟨q, _⟩ | ⟨q, _⟩
      · omega
      · exact q
    have hli := hv.1 i hi
    have hmr := hv.2.2.1.1
    have he := hLi.2.2.1
    have hbr := hLi.2.1
    have hr : -1 ≤ S (i + 18) 3 ∧ S (i + 18) 3 < 60 := by
      rw [he]
      by_cases q : 3 ≤ T 5 i
      · rw [if_pos q]
        have := (hli.2.2.2 q).1
        omega
      · rw [if_neg q]; omega
    have hev : 0 ≤ T 0 24 ∧ T 0 24 ≤ 2147483000 := by have := hv.2.2.2; omega
    have hevS : 0 ≤ S 10 2 ∧ S 10 2 ≤ 2147483000 := by
      have : S 10 2 = T 0 24 := h1.2.1.2.2.2.2.2.2.2
      omega
    have c1 : ¬ (12 : Int) ≤ (i : Int) := by omega
    have c2 : (0 : Int) ≤ (i : Int) ∧ (i : Int) < 12 := by omega
    have c3 : ¬ (1 : Int) = 0 := by decide
    simp only [dn_X6_dropBroken_2, dn_X9_free_2, c1, c2, c3, hr, if_true, if_false, and_self, Int.toNat_natCast, nmV, w32_s (show i < 1000000 by omega), X_drop hi hevS, M_rest hi, M_go hi hev, cal, Option.bind]
    by_cases q3 : 3 ≤ T 5 i
    · have q4 : ¬ T 5 i < 3 := by omega
      rw [if_pos q3] at he
      by_cases qc : T 7 i = c
      · have q5 : S (i + 18) 3 = c := by rw [he, qc]
        by_cases q6 : T 6 i = 0
        · have q7 : S (i + 18) 2 = 0 := by rw [hbr]; exact q6
          simp only [q4, qc, q5, q6, q7, if_true, if_false]
          obtain ⟨S', T', a⟩ := ih (i + 1) b S (reM i T) n m (by omega) (by omega) (R1_line hi h1 (fun _ _ _ => rfl) (fun k f hk => re_off (by omega))) (Rt_same ht (fun _ => rfl) (re_off (by omega)) (re_off (by omega)) (re_off (by omega)) (fun c => re_off (by omega))) (IV_rest hi hv) (fun j hj => by
            by_cases qj : j = i
            · subst qj
              left
              exact ⟨by omega, q5, by simp [reM, stU], by rw [re_off (by omega)]; exact hbr.symm, by simp [reM, stU]⟩
            · rcases hL j hj with ⟨a1, a2, a3, a4, a5⟩ | ⟨a1, a2⟩
              · left
                exact ⟨by omega, a2, by rw [re_off (by omega)]; exact a3, by rw [re_off (by omega)]; exact a4, by rw [re_off (by omega), re_off (by omega)]; exact a5⟩
              · right
                exact ⟨LR_off a1 (fun _ => rfl) (fun k _ _ => re_off (by omega)), fun z => a2 (by omega)⟩) (by omega) (by omega)
          exact ⟨S', T', a.1, a.2.1, a.2.2.1, a.2.2.2.1, IV_b a.2.2.2.2.1 (by omega), a.2.2.2.2.2⟩
        · have q7 : ¬ S (i + 18) 2 = 0 := by rw [hbr]; exact q6
          simp only [q4, qc, q5, q6, q7, if_true, if_false]
          obtain ⟨S', T', a⟩ := ih (i + 1) (b + 1) (drX i S) (goM i T) n m (by omega) (by omega) (R1_go hi h1) (Rt_go ht) (IV_go hi hv) (fun j hj => by
            by_cases qj : j = i
            · subst qj
              right
              exact ⟨dr_LR, fun _ => by simp [drX, lgX, becX, stU]⟩
            · rcases hL j hj with ⟨a1, a2, a3, a4, a5⟩ | ⟨a1, a2⟩
              · left
                exact ⟨by omega, by rw [drX_line qj hi]; exact a2, by rw [go_off (by omega) (by omega) (by omega)]; exact a3, by rw [go_off (by omega) (by omega) (by omega), drX_line qj hi]; exact a4, by rw [go_off (by omega) (by omega) (by omega)]; rw [a5]; simp [goM, lgM, stU]⟩
              · right
                exact ⟨LR_off a1 (fun f => drX_line qj hi) (fun k _ _ => go_off (by omega) (by omega) (by omega)), fun z => by rw [drX_line qj hi]; exact a2 (by omega)⟩) (by omega) (by omega)
          exact ⟨S', T', a.1, a.2.1, a.2.2.1, a.2.2.2.1, IV_b a.2.2.2.2.1 (by omega), a.2.2.2.2.2⟩
      · have q5 : ¬ S (i + 18) 3 = c := by rw [he]; exact qc
        simp only [q4, qc, q5, if_false]
        obtain ⟨S', T', a⟩ := ih (i + 1) b S T n m (by omega) (by omega) h1 ht hv (fun j hj => by
          by_cases qj : j = i
          · subst qj; right; exact ⟨hLi, fun _ => q5⟩
          · rcases hL j hj with a1 | ⟨a1, a2⟩
            · left; exact ⟨by omega, a1.2⟩
            · right; exact ⟨a1, fun z => a2 (by omega)⟩) (by omega) (by omega)
        exact ⟨S', T', a.1, a.2.1, a.2.2.1, a.2.2.2.1, IV_b a.2.2.2.2.1 (by omega), a.2.2.2.2.2⟩
    · have q4 : T 5 i < 3 := by omega
      have q5 : ¬ S (i + 18) 3 = c := by rw [he, if_neg q3]; omega
      simp only [q4, q5, if_true, if_false]
      obtain ⟨S', T', a⟩ := ih (i + 1) b S T n m (by omega) (by omega) h1 ht hv (fun j hj => by
        by_cases qj : j = i
        · subst qj; right; exact ⟨hLi, fun _ => q5⟩
        · rcases hL j hj with a1 | ⟨a1, a2⟩
          · left; exact ⟨by omega, a1.2⟩
          · right; exact ⟨a1, fun z => a2 (by omega)⟩) (by omega) (by omega)
      exact ⟨S', T', a.1, a.2.1, a.2.2.1, a.2.2.2.1, IV_b a.2.2.2.2.1 (by omega), a.2.2.2.2.2⟩
/-- the class gives back what the reference has idle -/
theorem sim_gb2 {c : Nat} (hc : c < 60) : ∀ (d i : Nat) (S : St) (n : Nat), i + d = 12 → R1 Wk S T → Rt S T → IV (-1) b T → (∀ j, j < 12 → (i ≤ j ∧ S (j + 18) 3 = c ∧ T 5 j = 2 ∧ T 6 j = S (j + 18) 2 ∧ T 9 j = T 0 4) ∨ (LR S T j ∧ S (j + 18) 3 ≠ c)) → d < n →
    ∃ S', dn_X6_giveBack_2 n (c : Int) (i : Int) S = some (S', 0) ∧ RE Wk (-1) b S' T := by
  intro d
  induction d with
  | zero =>
    intro i S n hd h1 ht hv hL hn
    obtain ⟨n, rfl⟩ : ∃ q, n = q + 1 := ⟨n - 1, by omega⟩
    refine ⟨S, ?_, ⟨fun j hj => ?_, h1⟩, ht, hv⟩
    · rw [dn_X6_giveBack_2, if_pos (by omega)]
    · rcases hL j hj with a | a
      · omega
      · exact a.1
  | succ d ih =>
    intro i S n hd h1 ht hv hL hn
    obtain ⟨n, rfl⟩ : ∃ q, n = q + 1 := ⟨n - 1, by omega⟩
    have hi : i < 12 := by omega
    have hmr := hv.2.2.1.1
    have c1 : ¬ (12 : Int) ≤ (i : Int) := by omega
    have c2 : (0 : Int) ≤ (i : Int) ∧ (i : Int) < 12 := by omega
    have hn46 : S 4 6 = T 0 4 := h1.2.1.2.1
    have hr : -1 ≤ S (i + 18) 3 ∧ S (i + 18) 3 < 60 := by
      rcases hL i hi with a | a
      · omega
      · have he := a.1.2.2.1
        rw [he]
        by_cases q : 3 ≤ T 5 i
        · rw [if_pos q]
          have := ((hv.1 i hi).2.2.2 q).1
          omega
        · rw [if_neg q]; omega
    simp only [dn_X6_giveBack_2, c1, c2, hr, if_true, if_false, and_self, Int.toNat_natCast, nmV, w32_s (show i < 1000000 by omega), X_idle, cal, Option.bind]
    by_cases q : S (i + 18) 3 = c
    · rcases hL i hi with a | a
      · simp only [q, if_true]
        refine ih (i + 1) _ n (by omega) (R1_line hi h1 (fun k f hk => becX_off hk) (fun _ _ _ => rfl)) (Rt_same ht (fun f => becX_off (by omega)) rfl rfl rfl (fun _ => rfl)) hv (fun j hj => ?_) (by omega)
        by_cases qj : j = i
        · subst qj
          right
          refine ⟨?_, by simp [becX, stU]⟩
          unfold LR
          simp [becX, stU, a.2.2.1, a.2.2.2.1, a.2.2.2.2, hn46]
        · have o : ∀ f, becX i 2 (-1) 0 (S 4 6) S (j + 18) f = S (j + 18) f := fun f => becX_off (by omega)
          rcases hL j hj with z | z
          · left
            rw [o 3, o 2]
            exact ⟨by omega, z.2⟩
          · right
            rw [o 3]
            exact ⟨LR_off z.1 o (fun _ _ _ => rfl), z.2⟩
      · exact absurd q a.2
    · simp only [q, if_false]
      refine ih (i + 1) S n (by omega) h1 ht hv (fun j hj => ?_) (by omega)
      rcases hL j hj with z | z
      · left
        refine ⟨?_, z.2⟩
        have : j ≠ i := fun y => by subst y; exact q z.2.1
        omega
      · right; exact z
/-- a caller fails -/
theorem op_fail {c : Nat} (h : RE Wk (-1) b S T) (hb : b + 13 ≤ 2147483000) (hc : (c : Int) < T 0 19) (hx : T 15 c < 5) :
    ∃ S1 S2 S' T', dn_X6_leave (c : Int) 6 3 S = some (S1, 0) ∧ dn_X6_dropBroken (c : Int) S1 = some (S2, 0) ∧ dn_X6_giveBack (c : Int) S2 = some (S', 0) ∧ dn_X9_say 3 (c : Int) (-1) (stU T 15 c 6) = some (lgM 3 (c : Int) (-1) (stU T 15 c 6), 0) ∧ dn_X9_free (c : Int) 1 (lgM 3 (c : Int) (-1) (stU T 15 c 6)) = some (T', 0) ∧ RE Wk (-1) (b + 13) S' T' := by
  have hm := many_rng h
  obtain ⟨h1, h2, h3⟩ := op_leave (k := 3) h (by omega) hc (by omega) hx
  have h1 : dn_X6_leave (c : Int) 6 3 S = some (lvX c 6 3 S, 0) := h1
  have h2 : dn_X9_say 3 (c : Int) (-1) (stU T 15 c 6) = some (lgM 3 (c : Int) (-1) (stU T 15 c 6), 0) := h2
  have h3 : RE Wk (c : Int) (b + 1) (lvX c 6 3 S) (lgM 3 (c : Int) (-1) (stU T 15 c 6)) := h3
  obtain ⟨S2, T', a1, a2, a3, a4, a5, a6, a7⟩ := sim_db (c := c) 12 0 (b + 1) _ _ FU FU (by omega) (by omega) h3.1.2 h3.2.1 h3.2.2 (fun j hj => Or.inr ⟨h3.1.1 j hj, fun z => by omega⟩) (FU_lt (by omega)) (FU_lt (by omega))
  have a8 : IV (-1) (b + 1 + 12) T' := IV_none a5 a7
  obtain ⟨S', b1, b2⟩ := sim_gb2 (c := c) (by omega) 12 0 S2 FU (by omega) a3 a4 a8 (fun j hj => by
    rcases a6 j hj with z | z
    · exact Or.inl ⟨by omega, z.2⟩
    · exact Or.inr ⟨z.1, z.2 hj⟩) (FU_lt (by omega))
  exact ⟨_, S2, S', T', h1, a1, b1, h2, a2, RE_b b2 (by omega)⟩
theorem sim_hb {c : Nat} (h : RE Wk (-1) b S T) (h3 : T 15 c = 3) : ∀ (d i n m : Nat), i + d = 12 → d < n → d < m →
    ∃ v, (v = 0 ∨ v = 1) ∧ dn_X6_hasBroken_2 n (c : Int) (i : Int) S = some (S, v) ∧ dn_X9_hasBroken_2 m (c : Int) (i : Int) T = some (T, v) := by
  intro d
  induction d with
  | zero =>
    intro i n m hd hn hm
    obtain ⟨n, rfl⟩ : ∃ q, n = q + 1 := ⟨n - 1, by omega⟩
    obtain ⟨m, rfl⟩ : ∃ q, m = q + 1 := ⟨m - 1, by omega⟩
    refine ⟨0, Or.inl rfl, ?_, ?_⟩
    · rw [dn_X6_hasBroken_2, if_pos (by omega)]
    · rw [dn_X9_hasBroken_2, if_pos (by omega)]
  | succ d ih =>
    intro i n m hd hn hm
    obtain ⟨n, rfl⟩ : ∃ q, n = q + 1 := ⟨n - 1, by omega⟩
    obtain ⟨m, rfl⟩ : ∃ q, m = q + 1 := ⟨m - 1, by omega⟩
    have hi : i < 12 := by omega
    have hr := hold_rng h hi
    have he := hold_eq h hi
    have hbr := br_eq h hi
    have hl := line_i h hi
    have c1 : ¬ (12 : Int) ≤ (i : Int) := by omega
    have c2 : (0 : Int) ≤ (i : Int) ∧ (i : Int) < 12 := by omega
    have nx := ih (i + 1) n m (by omega) (by omega) (by omega)
    simp only [dn_X6_hasBroken_2, dn_X9_hasBroken_2, c1, c2, hr, if_true, if_false, and_self, Int.toNat_natCast, nmV, w32_s (show i < 1000000 by omega)]
    by_cases q3 : 3 ≤ T 5 i
    · rw [if_pos q3] at he
      have hl3 := hl.2.2.2 q3
      by_cases qc : T 7 i = c
      · have q5 : S (i + 18) 3 = c := by rw [he, qc]
        have q4 : T 5 i = 4 := by
          have h5 := hl.1
          rcases (show T 5 i = 3 ∨ T 5 i = 4 by omega) with z | z
          · have := (hl3.2 (by omega)).1 z
            rw [qc, Int.toNat_natCast] at this
            omega
          · exact z
        by_cases q6 : T 6 i = 0
        · have q7 : S (i + 18) 2 = 0 := by rw [hbr]; exact q6
          simp only [q4, qc, q5, q6, q7, if_true]
          exact nx
        · have q7 : ¬ S (i + 18) 2 = 0 := by rw [hbr]; exact q6
          simp only [q4, qc, q5, q6, q7, if_true, if_false]
          exact ⟨1, Or.inr rfl, rfl, rfl⟩
      · have q5 : ¬ S (i + 18) 3 = c := by rw [he]; exact qc
        simp only [qc, q5, if_false]
        by_cases q4 : T 5 i = 4
        · simp only [q4, if_true]; exact nx
        · simp only [q4, if_false]; exact nx
    · have q5 : ¬ S (i + 18) 3 = c := by rw [he, if_neg q3]; omega
      have q4 : ¬ T 5 i = 4 := by omega
      simp only [q4, q5, if_false]
      exact nx
theorem sim_fail : ∀ (d i : Nat) (b : Int) (S T : St) (n m : Nat), i + d = 60 → b + 13 * d ≤ 2147483000 → RE Wk (-1) b S T → d < n → d < m →
    ∃ S' T', dn_X6_failBroken_2 n (i : Int) S = some (S', 0) ∧ dn_X9_doWork_2 m (i : Int) T = dn_X9_doWork_62 FU 0 0 T' ∧ RE Wk (-1) (b + 13 * d) S' T' := by
  intro d
  induction d with
  | zero =>
    intro i b S T n m hd hb h hn hm
    obtain ⟨n, rfl⟩ : ∃ q, n = q + 1 := ⟨n - 1, by omega⟩
    obtain ⟨m, rfl⟩ : ∃ q, m = q + 1 := ⟨m - 1, by omega⟩
    have hmr := many_rng h
    have hme := many_eq h
    refine ⟨S, T, ?_, ?_, by simpa using h⟩
    · rw [dn_X6_failBroken_2, if_pos (by omega)]
    · rw [dn_X9_doWork_2, if_pos (by omega)]
  | succ d ih =>
    intro i b S T n m hd hb h hn hm
    obtain ⟨n, rfl⟩ : ∃ q, n = q + 1 := ⟨n - 1, by omega⟩
    obtain ⟨m, rfl⟩ : ∃ q, m = q + 1 := ⟨m - 1, by omega⟩
    have hmr := many_rng h
    have hme := many_eq h
    by_cases q0 : T 0 19 ≤ (i : Int)
    · refine ⟨S, T, ?_, ?_, RE_b h (by omega)⟩
      · rw [dn_X6_failBroken_2, if_pos (by omega)]
      · rw [dn_X9_doWork_2, if_pos (by omega)]
    · have c1 : ¬ S 4 5 ≤ (i : Int) := by omega
      have c2 : (0 : Int) ≤ (i : Int) ∧ (i : Int) < 60 := by omega
      have hs : S (i + 30) 6 = T 15 i := call_eq h (by omega) (by decide) (by decide)
      have go_on : ∀ S1 T1, RE Wk (-1) (b + 13) S1 T1 → ∃ S' T', dn_X6_failBroken_2 n ((i + 1 : Nat) : Int) S1 = some (S', 0) ∧ dn_X9_doWork_2 m ((i + 1 : Nat) : Int) T1 = dn_X9_doWork_62 FU 0 0 T' ∧ RE Wk (-1) (b + 13 * ((d + 1 : Nat) : Int)) S' T' := fun S1 T1 h1 => by
        obtain ⟨S', T', a1, a2, a3⟩ := ih (i + 1) (b + 13) S1 T1 n m (by omega) (by omega) h1 (by omega) (by omega)
        exact ⟨S', T', a1, a2, RE_b a3 (by omega)⟩
      simp only [dn_X6_failBroken_2, dn_X9_doWork_2, c1, q0, c2, hs, if_true, if_false, and_self, Int.toNat_natCast, nmV, nmS, w32_s (show i < 1000000 by omega)]
      by_cases q3 : T 15 i = 3
      · simp only [q3, if_true]
        obtain ⟨v, hv, a1, a2⟩ := sim_hb (c := i) h q3 12 0 FU FU (by omega) (FU_lt (by omega)) (FU_lt (by omega))
        have a1 : dn_X6_hasBroken (i : Int) S = some (S, v) := a1
        have a2 : dn_X9_hasBroken (i : Int) T = some (T, v) := a2
        rw [a1, a2]
        simp only [cal, Option.bind]
        rcases hv with rfl | rfl
        · simp only [if_true]
          exact go_on S T (RE_b h (by omega))
        · have z : ¬ (1 : Int) = 0 := by decide
          simp only [z, if_false]
          obtain ⟨S1, S2, S', T', b1, b2, b3, b4, b5, b6⟩ := op_fail (c := i) h (by omega) (by omega) (by omega)
          rw [b1, b4]
          simp only [cal, Option.bind]
          rw [b2, b5]
          simp only [cal, Option.bind]
          rw [b3]
          exact go_on S' T' b6
      · simp only [q3, if_false]
        exact go_on S T (RE_b h (by omega))
end FA
