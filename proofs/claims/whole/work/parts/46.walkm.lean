/-! the reference's walk -/
def q5 : Nat → Nat := fun _ => 5
theorem q5_p : ∀ k, 0 < q5 k := fun _ => show 0 < 5 by decide
theorem nmV_s {α : Type} {x : Int} {f : Int → α} : nmV x f = f x := rfl
theorem dq {i s : Nat} : dg i q5 s = s / 5 ^ i % 5 := dg_5 i s
theorem wq {i : Nat} : wt i q5 = 5 ^ i := wt_5 i
def CM (m : Nat) (t : Nat → Nat) (T : St) : Prop := T 0 32 = (m : Int) ∧ ∀ i, i < m → T 22 i = (t i : Int)
theorem CM_o {m : Nat} {t : Nat → Nat} {T T' : St} (h : CM m t T) (h3 : T' 0 32 = T 0 32) (h15 : ∀ f, T' 22 f = T 22 f) : CM m t T' := ⟨by rw [h3]; exact h.1, fun i hi => by rw [h15]; exact h.2 i hi⟩
/-- what the walk keeps: the marks, the row -/
def BI (L m c : Nat) (t : Nat → Nat) (T : St) (many : Nat) : Prop := (∀ x, x < 15625 → T 23 x = 0 ∨ T 23 x = 1) ∧ (∀ x, x < 15625 → T 23 x = 1 → (x < 5 ^ m ∧ RR q5 m c t x) ∧ ∃ k, k < many ∧ T 24 k = (x : Int)) ∧ (∀ k, k < many → ∃ x : Nat, x < 15625 ∧ T 24 k = (x : Int) ∧ T 23 x = 1) ∧ (many : Int) = cn (T 23) 1 L ∧ (∀ i j, i < many → j < many → T 24 i = T 24 j → i = j)
section WM
variable {m c : Nat} {t : Nat → Nat} {T : St}
theorem td5 {x k : Nat} (hx : x < 15625) : w32 (Int.tdiv ((x / 5 ^ k : Nat) : Int) 5) = ((x / 5 ^ (k + 1) : Nat) : Int) := by
  have e : x / 5 ^ (k + 1) = x / 5 ^ k / 5 := by rw [Nat.pow_succ, ← Nat.div_div_eq_div_mul]
  have h : x / 5 ^ k ≤ x := Nat.div_le_self _ _
  rw [e]
  generalize x / 5 ^ k = y at h ⊢
  rw [Int.tdiv_eq_ediv_of_nonneg (by omega), w32_id ⟨by omega, by omega⟩]; omega
theorem tm5 {x k : Nat} (hx : x < 15625) : w32 (Int.tmod ((x / 5 ^ k : Nat) : Int) 5) = ((dg k q5 x : Nat) : Int) := by
  rw [dq]
  have h : x / 5 ^ k ≤ x := Nat.div_le_self _ _
  generalize x / 5 ^ k = y at h ⊢
  rw [Int.tmod_eq_emod_of_nonneg (by omega), w32_id ⟨by omega, by omega⟩]; omega
theorem p5_s {k : Nat} (hk : k < 6) : w32 (((5 ^ k : Nat) : Int) * 5) = ((5 ^ (k + 1) : Nat) : Int) := by
  have := p5_le (m := k + 1) (by omega)
  rw [Nat.pow_succ] at this ⊢
  generalize 5 ^ k = y at this ⊢
  rw [w32_id ⟨by omega, by omega⟩]; omega
theorem wadd {x p : Nat} (h : x + p < 15625) : w32 ((x : Int) + (p : Int)) = ((x + p : Nat) : Int) := by
  rw [w32_id ⟨by omega, by omega⟩]; omega
theorem rng5 {y : Nat} (h : y < 15625) : 0 ≤ (y : Int) ∧ (y : Int) < 15625 := by omega
theorem M_74 {k45 : Int → Int → Int → St → Option (St × Int)} {done many : Int} {x : Nat} (hm : m ≤ 6) (hc : 1 ≤ c) (ht : ∀ i, i < m → 1 ≤ t i ∧ t i ≤ 4) (hx : x < 15625) (hV : ∀ i, i < m → dg i q5 x ≤ t i) (h : CM m t T) : ∀ (d k n : Nat) (a : Int), k + d = m → (a = 1 → tkn k t (fun i => dg i q5 x) = 0) → (a = 0 ∨ a = 1) → d < n →
    ∃ a', dn_X9_walk_74 k45 n (c : Int) done many (x : Int) ((tkn k t (fun i => dg i q5 x) : Nat) : Int) a ((x / 5 ^ k : Nat) : Int) (k : Int) T = dn_X9_walk_157 k45 FU (c : Int) done many (x : Int) ((tq q5 m t x : Nat) : Int) a' (x : Int) 1 0 (if tq q5 m t x = c then stU T 0 38 (w32 (T 0 38 + 1)) else T) := by
  intro d
  induction d with
  | zero =>
    intro k n a hd ha ha2 hn
    obtain ⟨n, rfl⟩ : ∃ q, n = q + 1 := ⟨n - 1, by omega⟩
    have : k = m := by omega
    subst this
    refine ⟨a, ?_⟩
    rw [dn_X9_walk_74, h.1, if_pos (by omega)]
    unfold tq
    rcases ha2 with z | z
    · rw [if_pos z]
      by_cases y : tkn k t (fun i => dg i q5 x) = c
      · rw [if_pos (show ((tkn k t (fun i => dg i q5 x) : Nat) : Int) = (c : Int) by omega), nmS_s, if_pos y]
      · rw [if_neg (show ¬ ((tkn k t (fun i => dg i q5 x) : Nat) : Int) = (c : Int) by omega), if_neg y]
    · rw [if_neg (by omega), if_neg (by have := ha z; omega)]
  | succ d ih =>
    intro k n a hd ha ha2 hn
    obtain ⟨n, rfl⟩ : ∃ q, n = q + 1 := ⟨n - 1, by omega⟩
    have hk : k < m := by omega
    have e22 := h.2 k hk
    have hv := hV k hk
    have hl := tkn_le (t := t) (h := fun i => dg i q5 x) (m := k + 1) (fun i hi => (ht i (by omega)).2)
    rw [dn_X9_walk_74, h.1, if_neg (by omega)]
    simp only [nmV]
    rw [td5 hx, tm5 hx, if_pos (by omega), Int.toNat_natCast, e22]
    by_cases z : dg k q5 x = t k
    · have e : tkn (k + 1) t (fun i => dg i q5 x) = tkn k t (fun i => dg i q5 x) := by
        rw [tkn, con, if_neg (by show ¬ dg k q5 x < t k; omega), Nat.add_zero]
      rw [if_pos (by omega), w32_s (by omega), ← e]
      exact ih (k + 1) n a (by omega) (fun y => by rw [e]; exact ha y) ha2 (by omega)
    · have e : tkn (k + 1) t (fun i => dg i q5 x) = tkn k t (fun i => dg i q5 x) + dg k q5 x := by
        rw [tkn, con, if_pos (by show dg k q5 x < t k; omega)]
      rw [e] at hl
      have w : w32 (((tkn k t (fun i => dg i q5 x) : Nat) : Int) + ((dg k q5 x : Nat) : Int)) = ((tkn k t (fun i => dg i q5 x) + dg k q5 x : Nat) : Int) := by
        rw [w32_id ⟨by omega, by omega⟩]; omega
      rw [if_neg (by clear w; omega), w, w32_s (by clear w; omega), ← e]
      exact ih (k + 1) n 0 (by clear w; omega) (fun y => absurd y (by decide)) (Or.inl rfl) (by clear w; omega)
/-- no move where all lines are taken -/
theorem M_157c {k45 : Int → Int → Int → St → Option (St × Int)} {done many a : Int} {x : Nat} (hm : m ≤ 6) (hx : x < 5 ^ m) (h : CM m t T) : ∀ (d k n : Nat), k + d = m → d < n → dn_X9_walk_157 k45 n (c : Int) done many (x : Int) (c : Int) a ((x / 5 ^ k : Nat) : Int) ((5 ^ k : Nat) : Int) (k : Int) T = k45 (c : Int) done many T := by
  have hx2 : x < 15625 := Nat.lt_of_lt_of_le hx (p5_le hm)
  intro d
  induction d with
  | zero =>
    intro k n hd hn
    obtain ⟨n, rfl⟩ : ∃ q, n = q + 1 := ⟨n - 1, by omega⟩
    rw [dn_X9_walk_157, h.1, if_pos (by omega)]
  | succ d ih =>
    intro k n hd hn
    obtain ⟨n, rfl⟩ : ∃ q, n = q + 1 := ⟨n - 1, by omega⟩
    have nx := ih (k + 1) n (by omega) (by omega)
    rw [dn_X9_walk_157, h.1, if_neg (by omega)]
    simp only [nmV]
    rw [td5 hx2, tm5 hx2, p5_s (by omega), if_pos (by omega), if_pos trivial, w32_s (by omega), ite_self]
    exact nx
theorem M_157 {L : Nat} {k45 : Int → Int → Int → St → Option (St × Int)} {done a tk : Int} {x : Nat} (hL : L = 15625) (hm : m ≤ 6) (hc : 1 ≤ c) (ht : ∀ i, i < m → 1 ≤ t i ∧ t i ≤ 4) (hx : x < 5 ^ m) (hR : RR q5 m c t x) (htk : tq q5 m t x < c) (hne : ¬ tk = (c : Int)) : ∀ (d k n many : Nat) (T : St), k + d = m → CM m t T → BI L m c t T many → d < n →
    ∃ T' many', dn_X9_walk_157 k45 n (c : Int) done (many : Int) (x : Int) tk a ((x / 5 ^ k : Nat) : Int) ((5 ^ k : Nat) : Int) (k : Int) T = k45 (c : Int) done ((many' : Nat) : Int) T' ∧ BI L m c t T' many' ∧ many ≤ many' ∧ (∀ j, j < many → T' 24 j = T 24 j) ∧ (∀ y, y < 15625 → T 23 y = 1 → T' 23 y = 1) ∧ (∀ i, k ≤ i → i < m → dg i q5 x < t i → T' 23 (x + 5 ^ i) = 1) ∧ (∀ q f, q ≠ 23 → q ≠ 24 → T' q f = T q f) := by
  have hx2 : x < 15625 := Nat.lt_of_lt_of_le hx (p5_le hm)
  intro d
  induction d with
  | zero =>
    intro k n many T hd h hB hn
    obtain ⟨n, rfl⟩ : ∃ q, n = q + 1 := ⟨n - 1, by omega⟩
    rw [dn_X9_walk_157, h.1, if_pos (by omega)]
    exact ⟨T, many, rfl, hB, Nat.le_refl _, fun _ _ => rfl, fun _ _ z => z, fun i h1 h2 => by omega, fun _ _ _ _ => rfl⟩
  | succ d ih =>
    intro k n many T hd h hB hn
    obtain ⟨n, rfl⟩ : ∃ q, n = q + 1 := ⟨n - 1, by omega⟩
    have hk : k < m := by omega
    have e22 := h.2 k hk
    have hv := hR.1 k hk
    have htb := ht k hk
    rw [dn_X9_walk_157, h.1, if_neg (by omega)]
    rw [nmV_s, nmV_s, nmV_s, nmV_s]
    rw [td5 hx2, tm5 hx2, p5_s (by omega), if_pos (by omega), Int.toNat_natCast, e22]
    by_cases z : dg k q5 x = t k
    · rw [if_pos (by omega), w32_s (by omega)]
      obtain ⟨T', many', a1, a2, a3, a4, a5, a6, a7⟩ := ih (k + 1) n many T (by omega) h hB (by omega)
      exact ⟨T', many', a1, a2, a3, a4, a5, fun i h1 h2 h3 => a6 i (by
        by_cases y : i = k
        · subst y; omega
        · omega) h2 h3, a7⟩
    · have hlt : x + 5 ^ k < 5 ^ m := by
        have := lt_wt m k q5 x q5_p hk (by rw [wq]; exact hx) (by show dg k q5 x + 1 < 5; omega)
        rw [wq, wq] at this
        exact this
      have hRn : RR q5 m c t (x + 5 ^ k) := by
        have := RR_in (i := k) q5_p (fun i hi => by show t i < 5; have := ht i hi; omega) hR htk hk (by omega)
        rw [wq] at this
        exact this
      have hto : x + 5 ^ k < 15625 := Nat.lt_of_lt_of_le hlt (p5_le hm)
      rw [if_neg (by omega), if_neg hne, wadd hto, if_pos (rng5 hto), Int.toNat_natCast]
      by_cases y : T 23 (x + 5 ^ k) = 0
      · have hnew : cn (stU (stU T 23 (x + 5 ^ k) 1) 24 many ((x + 5 ^ k : Nat) : Int) 23) 1 L = cn (T 23) 1 L + 1 := cn_new (c := x + 5 ^ k) (by rw [hL]; exact hto) (by rw [y]; decide) (by rw [stU_cell _ _ _ _ (by decide), stU_same]) (fun i hi => by rw [stU_cell _ _ _ _ (by decide), stU_slot _ _ _ _ hi])
        have hr := (cn_rng (stU (stU T 23 (x + 5 ^ k) 1) 24 many ((x + 5 ^ k : Nat) : Int) 23) 1 L).2
        have hmany := hB.2.2.2.1
        have hml : many < 15625 := by omega
        rw [if_pos y, nmS_s, if_pos (by omega), Int.toNat_natCast, nmS_s, w32_s (by omega), w32_s (by omega)]
        generalize hT1 : stU (stU T 23 (x + 5 ^ k) 1) 24 many ((x + 5 ^ k : Nat) : Int) = T1 at hnew hr
        have o23 : ∀ f, f ≠ x + 5 ^ k → T1 23 f = T 23 f := fun f hf => by rw [← hT1, stU_cell _ _ _ _ (by decide), stU_slot _ _ _ _ hf]
        have o23n : T1 23 (x + 5 ^ k) = 1 := by rw [← hT1, stU_cell _ _ _ _ (by decide), stU_same]
        have o24 : ∀ f, f ≠ many → T1 24 f = T 24 f := fun f hf => by rw [← hT1, stU_slot _ _ _ _ hf, stU_cell _ _ _ _ (by decide)]
        have o24n : T1 24 many = ((x + 5 ^ k : Nat) : Int) := by rw [← hT1, stU_same]
        have oF : ∀ q f, q ≠ 23 → q ≠ 24 → T1 q f = T q f := fun q f h1 h2 => by rw [← hT1, stU_cell _ _ _ _ h2, stU_cell _ _ _ _ h1]
        clear hT1
        obtain ⟨b1, b2, b3, b4, b5⟩ := hB
        have hB1 : BI L m c t T1 (many + 1) := by
          refine ⟨fun f hf => ?_, fun f hf h1 => ?_, fun j hj => ?_, by omega, fun i j hi hj e => ?_⟩
          · by_cases e : f = x + 5 ^ k
            · rw [e]; exact Or.inr o23n
            · rw [o23 f e]; exact b1 f hf
          · by_cases e : f = x + 5 ^ k
            · rw [e]; exact ⟨⟨hlt, hRn⟩, many, by omega, o24n⟩
            · rw [o23 f e] at h1
              obtain ⟨c1, j, c2, c3⟩ := b2 f hf h1
              exact ⟨c1, j, by omega, by rw [o24 j (by omega)]; exact c3⟩
          · by_cases e : j = many
            · rw [e]; exact ⟨x + 5 ^ k, hto, o24n, o23n⟩
            · obtain ⟨f, c1, c2, c3⟩ := b3 j (by omega)
              refine ⟨f, c1, by rw [o24 j e]; exact c2, ?_⟩
              by_cases e2 : f = x + 5 ^ k
              · rw [e2]; exact o23n
              · rw [o23 f e2]; exact c3
          · by_cases ei : i = many
            · by_cases ej : j = many
              · omega
              · rw [ei, o24n, o24 j ej] at e
                obtain ⟨f, c1, c2, c3⟩ := b3 j (by omega)
                have : f = x + 5 ^ k := (Int.ofNat.inj (e.trans c2)).symm
                rw [this, y] at c3
                exact absurd c3 (by decide)
            · by_cases ej : j = many
              · rw [ej, o24n, o24 i ei] at e
                obtain ⟨f, c1, c2, c3⟩ := b3 i (by omega)
                have : f = x + 5 ^ k := (Int.ofNat.inj (e.symm.trans c2)).symm
                rw [this, y] at c3
                exact absurd c3 (by decide)
              · rw [o24 i ei, o24 j ej] at e
                exact b5 i j (by omega) (by omega) e
        obtain ⟨T', many', a1, a2, a3, a4, a5, a6, a7⟩ := ih (k + 1) n (many + 1) T1 (by omega) (CM_o h (oF _ _ (by decide) (by decide)) (fun f => oF _ _ (by decide) (by decide))) hB1 (by omega)
        refine ⟨T', many', a1, a2, by omega, fun j hj => by rw [a4 j (by omega), o24 j (by omega)], fun f hf h1 => a5 f hf ?_, fun i h1 h2 h3 => ?_, fun q f h1 h2 => by rw [a7 q f h1 h2, oF q f h1 h2]⟩
        · by_cases e : f = x + 5 ^ k
          · rw [e]; exact o23n
          · rw [o23 f e]; exact h1
        · by_cases e : i = k
          · rw [e]; exact a5 _ hto o23n
          · exact a6 i (by omega) h2 h3
      · have y1 : T 23 (x + 5 ^ k) = 1 := by
          rcases hB.1 _ hto with e | e
          · exact absurd e y
          · exact e
        rw [if_neg y, w32_s (by omega)]
        obtain ⟨T', many', a1, a2, a3, a4, a5, a6, a7⟩ := ih (k + 1) n many T (by omega) h hB (by omega)
        refine ⟨T', many', a1, a2, a3, a4, a5, fun i h1 h2 h3 => ?_, a7⟩
        by_cases e : i = k
        · rw [e]; exact a5 _ hto y1
        · exact a6 i (by omega) h2 h3
end WM
