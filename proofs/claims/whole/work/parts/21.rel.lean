/-! What ties the class's memory S to the reference's memory T -/
def LR (S T : St) (j : Nat) : Prop := S (j + 18) 1 = T 5 j ∧ S (j + 18) 2 = T 6 j ∧ S (j + 18) 3 = (if 3 ≤ T 5 j then T 7 j else -1) ∧ S (j + 18) 4 = (if T 5 j = 1 ∨ T 5 j = 3 then T 8 j else 0) ∧ S (j + 18) 5 = (if T 5 j = 2 ∨ T 5 j = 4 then T 9 j else 0)
def Rl (S T : St) : Prop := ∀ j, j < 12 → LR S T j
def Rc (S T : St) : Prop := ∀ c, c < 60 → ∀ f, 1 ≤ f → f ≤ 9 → S (c + 30) f = T (f + 9) c
def Rg (S T : St) : Prop := S 4 5 = T 0 19 ∧ S 4 6 = T 0 4 ∧ S 4 7 = T 0 25 ∧ S 4 100008 = T 0 100028 ∧ S 4 9 = T 0 29 ∧ S 4 10 = T 0 30 ∧ S 7 2 = T 0 22 ∧ S 10 2 = T 0 24
def Ra (S T : St) : Prop := (∀ i, i < 6 → S 2 i = T 1 i) ∧ (∀ i, i < 12 → S 3 i = T 4 (i + 1)) ∧ (∀ i, i < 60 → S 8 i = T 19 i) ∧ (∀ i, i < 60 → S 9 i = T 20 i) ∧ (∀ i, i < 600 → S 11 i = T 21 i)
/-- the crowd, and what is kept of the last walk (Wk: what a walk finds, of the takes, how many, the lines) -/
def Rk (Wk : (Nat → Int) → Int → Int → Int × Int) (S T : St) : Prop := S 14 3 = T 0 32 ∧ (0 ≤ T 0 32 ∧ T 0 32 ≤ 6) ∧ (∀ i : Nat, i < 6 → S 15 i = T 22 i) ∧ (∀ i : Nat, (i : Int) < T 0 32 → 1 ≤ T 22 i ∧ T 22 i ≤ 4) ∧ (S 14 4 ≠ 0 → (1 ≤ S 14 4 ∧ S 14 4 ≤ 24) ∧ (S 14 5, S 14 6) = Wk (fun i => if i < 6 then T 22 i else 0) (T 0 32) (S 14 4))
def R0 (Wk : (Nat → Int) → Int → Int → Int × Int) (S T : St) : Prop := Rl S T ∧ Rc S T ∧ Rg S T ∧ Ra S T ∧ Rk Wk S T
section RR
variable {Wk : (Nat → Int) → Int → Int → Int × Int} {S T S' T' : St}
theorem Rk_of (h : Rk Wk S T) (hS : ∀ k f, 14 ≤ k → k ≤ 15 → S' k f = S k f) (hT : ∀ f, T' 22 f = T 22 f) (h32 : T' 0 32 = T 0 32) : Rk Wk S' T' := by
  unfold Rk at h ⊢
  simp only [hS 14 _ (by omega) (by omega), hS 15 _ (by omega) (by omega), hT, h32]
  exact h
theorem R0_line {i : Nat} (hi : i < 12) (h : R0 Wk S T) (hS : ∀ k f, k ≠ i + 18 → S' k f = S k f) (hT : ∀ k f, (k < 5 ∨ 9 < k ∨ f ≠ i) → T' k f = T k f) (hL : LR S' T' i) : R0 Wk S' T' := by
  obtain ⟨h1, h2, h3, h4, h5⟩ := h
  refine ⟨?_, ?_, ?_, ?_, ?_⟩
  · intro j hj
    by_cases e : j = i
    · subst e; exact hL
    · have := h1 j hj
      unfold LR at this ⊢
      simp only [hS (j + 18) _ (by omega), hT _ j (Or.inr (Or.inr e))]
      exact this
  · intro c hc f hf1 hf2
    rw [hS _ _ (by omega), hT _ _ (by omega)]
    exact h2 c hc f hf1 hf2
  · unfold Rg at h3 ⊢
    simp only [hS 4 _ (by omega), hS 7 _ (by omega), hS 10 _ (by omega), hT 0 _ (Or.inl (by decide))]
    exact h3
  · unfold Ra at h4 ⊢
    simp only [hS 2 _ (by omega), hS 3 _ (by omega), hS 8 _ (by omega), hS 9 _ (by omega), hS 11 _ (by omega), hT 1 _ (Or.inl (by decide)), hT 2 _ (Or.inl (by decide)), hT 3 _ (Or.inl (by decide)), hT 4 _ (Or.inl (by decide)), hT 19 _ (Or.inr (Or.inl (by decide))), hT 20 _ (Or.inr (Or.inl (by decide))), hT 21 _ (Or.inr (Or.inl (by decide)))]
    exact h4
  · exact Rk_of h5 (fun k f _ _ => hS k f (by omega)) (fun f => hT 22 f (Or.inr (Or.inl (by decide)))) (hT 0 32 (Or.inl (by decide)))
theorem R0_call {c f : Nat} {x : Int} (hc : c < 60) (hf : 1 ≤ f ∧ f ≤ 9) (h : R0 Wk S T) : R0 Wk (stU S (c + 30) f x) (stU T (f + 9) c x) := by
  obtain ⟨h1, h2, h3, h4, h5⟩ := h
  have hS : ∀ k g, k ≠ c + 30 → stU S (c + 30) f x k g = S k g := fun k g hk => stU_cell S f g x hk
  have hT : ∀ k g, k ≠ f + 9 → stU T (f + 9) c x k g = T k g := fun k g hk => stU_cell T c g x hk
  refine ⟨?_, ?_, ?_, ?_, ?_⟩
  · intro j hj
    have := h1 j hj
    unfold LR at this ⊢
    simp only [hS (j + 18) _ (by omega), hT 5 _ (by omega), hT 6 _ (by omega), hT 7 _ (by omega), hT 8 _ (by omega), hT 9 _ (by omega)]
    exact this
  · intro c2 hc2 f2 hf1 hf2
    have := h2 c2 hc2 f2 hf1 hf2
    unfold stU
    by_cases e1 : c2 = c <;> by_cases e2 : f2 = f <;> simp [e1, e2] <;> simp_all
  · unfold Rg at h3 ⊢
    simp only [hS 4 _ (by omega), hS 7 _ (by omega), hS 10 _ (by omega), hT 0 _ (by omega)]
    exact h3
  · unfold Ra at h4 ⊢
    simp only [hS 2 _ (by omega), hS 3 _ (by omega), hS 8 _ (by omega), hS 9 _ (by omega), hS 11 _ (by omega), hT 1 _ (by omega), hT 2 _ (by omega), hT 3 _ (by omega), hT 4 _ (by omega), hT 19 _ (by omega), hT 20 _ (by omega), hT 21 _ (by omega)]
    exact h4
  · exact Rk_of h5 (fun k g _ _ => hS k g (by omega)) (fun g => hT 22 g (by omega)) (hT 0 32 (by omega))
theorem R0_log {k t c s : Int} (ht : t = T 0 4) (h : R0 Wk S T) : R0 Wk (lgX k t c s S) (lgM k c s T) := by
  obtain ⟨h1, h2, h3, h4, h5⟩ := h
  have hS : ∀ q g, q ≠ 10 → q ≠ 11 → q ≠ 12 → lgX k t c s S q g = S q g := fun q g a b c => by simp [lgX, stU, a, b, c]
  have hT : ∀ q g, q ≠ 0 → q ≠ 21 → lgM k c s T q g = T q g := fun q g a b => by simp [lgM, stU, a, b]
  have hT0 : ∀ g, g ≠ 24 → lgM k c s T 0 g = T 0 g := fun g a => by simp [lgM, stU, a]
  have he : S 10 2 = T 0 24 := h3.2.2.2.2.2.2.2
  refine ⟨?_, ?_, ?_, ?_, ?_⟩
  · intro j hj
    have := h1 j hj
    unfold LR at this ⊢
    simp only [hS (j + 18) _ (by omega) (by omega) (by omega), hT 5 _ (by omega) (by omega), hT 6 _ (by omega) (by omega), hT 7 _ (by omega) (by omega), hT 8 _ (by omega) (by omega), hT 9 _ (by omega) (by omega)]
    exact this
  · intro c2 hc2 f2 hf1 hf2
    rw [hS _ _ (by omega) (by omega) (by omega), hT _ _ (by omega) (by omega)]
    exact h2 c2 hc2 f2 hf1 hf2
  · unfold Rg at h3 ⊢
    simp only [hS 4 _ (by omega) (by omega) (by omega), hS 7 _ (by omega) (by omega) (by omega), hT0 19 (by omega), hT0 4 (by omega), hT0 25 (by omega), hT0 100028 (by omega), hT0 29 (by omega), hT0 30 (by omega), hT0 22 (by omega)]
    refine ⟨h3.1, h3.2.1, h3.2.2.1, h3.2.2.2.1, h3.2.2.2.2.1, h3.2.2.2.2.2.1, h3.2.2.2.2.2.2.1, ?_⟩
    simp [lgX, lgM, stU, he]
  · unfold Ra at h4 ⊢
    simp only [hS 2 _ (by omega) (by omega) (by omega), hS 3 _ (by omega) (by omega) (by omega), hS 8 _ (by omega) (by omega) (by omega), hS 9 _ (by omega) (by omega) (by omega), hT 1 _ (by omega) (by omega), hT 2 _ (by omega) (by omega), hT 3 _ (by omega) (by omega), hT 4 _ (by omega) (by omega), hT 19 _ (by omega) (by omega), hT 20 _ (by omega) (by omega)]
    refine ⟨h4.1, h4.2.1, h4.2.2.1, h4.2.2.2.1, ?_⟩
    intro i hi
    have := h4.2.2.2.2 i hi
    simp [lgX, lgM, stU, he, ht, this]
  · exact Rk_of h5 (fun k g _ _ => hS k g (by omega) (by omega) (by omega)) (fun g => hT 22 g (by omega) (by omega)) (hT0 32 (by omega))
theorem R0_glob (h : R0 Wk S T) (hS : ∀ k f, k ≠ 4 → S' k f = S k f) (hT : ∀ k f, k ≠ 0 → T' k f = T k f) (h32 : T' 0 32 = T 0 32) (hG : Rg S' T') : R0 Wk S' T' := by
  obtain ⟨h1, h2, h3, h4, h5⟩ := h
  refine ⟨?_, ?_, hG, ?_, ?_⟩
  · intro j hj
    have := h1 j hj
    unfold LR at this ⊢
    simp only [hS (j + 18) _ (by omega), hT 5 _ (by omega), hT 6 _ (by omega), hT 7 _ (by omega), hT 8 _ (by omega), hT 9 _ (by omega)]
    exact this
  · intro c hc f hf1 hf2
    rw [hS _ _ (by omega), hT _ _ (by omega)]
    exact h2 c hc f hf1 hf2
  · unfold Ra at h4 ⊢
    simp only [hS 2 _ (by omega), hS 3 _ (by omega), hS 8 _ (by omega), hS 9 _ (by omega), hS 11 _ (by omega), hT 1 _ (by omega), hT 2 _ (by omega), hT 3 _ (by omega), hT 4 _ (by omega), hT 19 _ (by omega), hT 20 _ (by omega), hT 21 _ (by omega)]
    exact h4
  · exact Rk_of h5 (fun k f _ _ => hS k f (by omega)) (fun f => hT 22 f (by omega)) h32
end RR
/-! counting -/
def cn (f : Nat → Int) (v : Int) : Nat → Int
  | 0 => 0
  | n + 1 => cn f v n + (if f n = v then 1 else 0)
theorem cn_rng (f : Nat → Int) (v : Int) : ∀ n : Nat, 0 ≤ cn f v n ∧ cn f v n ≤ n
  | 0 => by simp [cn]
  | n + 1 => by
    have := cn_rng f v n
    simp only [cn]
    split <;> omega
theorem cn_congr {f g : Nat → Int} {v : Int} : ∀ {n : Nat}, (∀ i, i < n → (f i = v ↔ g i = v)) → cn f v n = cn g v n
  | 0, _ => rfl
  | n + 1, h => by
    simp only [cn]
    rw [cn_congr (fun i hi => h i (by omega))]
    have := h n (by omega)
    by_cases e : f n = v
    · rw [if_pos e, if_pos (this.mp e)]
    · rw [if_neg e, if_neg (fun q => e (this.mpr q))]
theorem cn_new {f g : Nat → Int} {v : Int} {c : Nat} : ∀ {n : Nat}, c < n → f c ≠ v → g c = v → (∀ i, i ≠ c → g i = f i) → cn g v n = cn f v n + 1
  | 0, h, _, _, _ => absurd h (by omega)
  | n + 1, h, h1, h2, h3 => by
    simp only [cn]
    by_cases e : c = n
    · subst e
      rw [if_pos h2, if_neg h1, cn_congr (f := g) (g := f) (fun i hi => by rw [h3 i (by omega)])]
      omega
    · rw [cn_new (by omega) h1 h2 h3, h3 n (by omega)]
      omega
def Rt (S T : St) : Prop := S 12 6 = T 0 26 ∧ S 12 7 = T 0 27 ∧ S 12 2 = cn (T 15) 5 (T 0 19).toNat ∧ S 12 3 = cn (T 15) 6 (T 0 19).toNat ∧ S 12 4 = cn (T 15) 7 (T 0 19).toNat ∧ S 12 5 = cn (T 15) 8 (T 0 19).toNat
/-! what holds of the reference's memory -/
def LI (e : Int) (T : St) (j : Nat) : Prop := (0 ≤ T 5 j ∧ T 5 j ≤ 4) ∧ (T 6 j = 0 ∨ T 6 j = 1) ∧ (T 5 j = 0 → T 6 j = 0) ∧ (3 ≤ T 5 j → (0 ≤ T 7 j ∧ T 7 j < T 0 19) ∧ (T 7 j ≠ e → (T 5 j = 3 → T 15 (T 7 j).toNat = 2) ∧ (T 5 j = 4 → 1 ≤ T 15 (T 7 j).toNat ∧ T 15 (T 7 j).toNat ≤ 4)))
def UQ (T : St) : Prop := ∀ i j, i < 12 → j < 12 → T 5 i = 3 → T 5 j = 3 → T 7 i = T 7 j → i = j
/-- the least and the greatest of each NUMBER -/
def loN : Nat → Int
  | 0 => 1
  | 1 => 0
  | 2 => -1
  | 3 => 1
  | 4 => 1
  | _ => 0
def hiN : Nat → Int
  | 0 => 12
  | 1 => 20
  | 2 => 20
  | 3 => 1000
  | 4 => 1000
  | _ => 12
def IN (T : St) : Prop := (0 ≤ T 0 19 ∧ T 0 19 ≤ 60) ∧ (0 ≤ T 0 22 ∧ T 0 22 ≤ 60) ∧ (∀ i, i < 60 → 0 ≤ T 20 i ∧ T 20 i < 12) ∧ (∀ c, c < 60 → (0 ≤ T 16 c ∧ T 16 c ≤ 1000) ∧ (0 ≤ T 13 c ∧ T 13 c ≤ 1000)) ∧ (1 ≤ T 1 0 ∧ T 1 0 ≤ 12) ∧ (0 ≤ T 1 1 ∧ T 1 1 ≤ 20) ∧ (-1 ≤ T 1 2 ∧ T 1 2 ≤ 20) ∧ (1 ≤ T 1 3 ∧ T 1 3 ≤ 1000) ∧ (1 ≤ T 1 4 ∧ T 1 4 ≤ 1000) ∧ (0 ≤ T 1 5 ∧ T 1 5 ≤ 12) ∧ (∀ i, i < 13 → 1 ≤ T 4 i ∧ T 4 i ≤ 100) ∧ (∀ i, i < 6 → T 2 i = loN i ∧ T 3 i = hiN i)
def IV (e b : Int) (T : St) : Prop := (∀ j, j < 12 → LI e T j) ∧ UQ T ∧ IN T ∧ (0 ≤ T 0 24 ∧ T 0 24 ≤ b)
def RE (Wk : (Nat → Int) → Int → Int → Int × Int) (e b : Int) (S T : St) : Prop := R0 Wk S T ∧ Rt S T ∧ IV e b T
theorem IV_b {e b b2 : Int} {T : St} (h : IV e b T) (hb : b ≤ b2) : IV e b2 T := ⟨h.1, h.2.1, h.2.2.1, h.2.2.2.1, by have := h.2.2.2.2; omega⟩
theorem RE_b {Wk : (Nat → Int) → Int → Int → Int × Int} {e b b2 : Int} {S T : St} (h : RE Wk e b S T) (hb : b ≤ b2) : RE Wk e b2 S T := ⟨h.1, h.2.1, IV_b h.2.2 hb⟩
