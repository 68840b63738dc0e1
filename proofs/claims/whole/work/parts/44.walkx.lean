/-! the class's walk -/
theorem wt_le : ∀ (m : Nat) (q : Nat → Nat), (∀ i, i < m → q i ≤ 5) → wt m q ≤ 5 ^ m
  | 0, q, _ => by simp [wt]
  | m + 1, q, h => by
    have ih := wt_le m (fun j => q (j + 1)) (fun i hi => h (i + 1) (by omega))
    rw [wt, Nat.pow_succ, Nat.mul_comm]
    exact Nat.mul_le_mul ih (h 0 (by omega))
theorem p5_le {m : Nat} (h : m ≤ 6) : 5 ^ m ≤ 15625 := by
  have : m = 0 ∨ m = 1 ∨ m = 2 ∨ m = 3 ∨ m = 4 ∨ m = 5 ∨ m = 6 := by omega
  rcases this with rfl | rfl | rfl | rfl | rfl | rfl | rfl <;> decide
def CW (m : Nat) (t : Nat → Nat) (S : St) : Prop := S 14 3 = (m : Int) ∧ ∀ i, i < m → S 15 i = (t i : Int)
theorem CW_o {m : Nat} {t : Nat → Nat} {S S' : St} (h : CW m t S) (h3 : S' 14 3 = S 14 3) (h15 : ∀ f, S' 15 f = S 15 f) : CW m t S' := ⟨by rw [h3]; exact h.1, fun i hi => by rw [h15]; exact h.2 i hi⟩
section WX
variable {m c : Nat} {t : Nat → Nat} {S : St}
theorem wq_le (hm : m ≤ 6) (ht : ∀ i, i < m → 1 ≤ t i ∧ t i ≤ 4) {k : Nat} (hk : k ≤ m) : wt k (fun i => t i + 1) ≤ 15625 := by
  have a1 := wt_le k (fun i => t i + 1) (fun i hi => by have := ht i (by omega); show t i + 1 ≤ 5; omega)
  have a2 := p5_le (m := k) (by omega)
  omega
theorem wq_s {k : Nat} {v : Int} (hm : m ≤ 6) (ht : ∀ i, i < m → 1 ≤ t i ∧ t i ≤ 4) (hk : k < m) (hv : v = (t k : Int)) : w32 ((wt k (fun i => t i + 1) : Int) * (w32 (v + 1))) = ((wt (k + 1) (fun i => t i + 1) : Nat) : Int) := by
  have a1 := ht k hk
  have a2 := wq_le (k := k + 1) hm ht (by omega)
  have a3 := wt_s k (fun i => t i + 1)
  rw [hv, w32_id (x := (t k : Int) + 1) ⟨by omega, by omega⟩]
  have a4 : (wt k (fun i => t i + 1) : Int) * ((t k : Int) + 1) = ((wt (k + 1) (fun i => t i + 1) : Nat) : Int) := by
    rw [a3]; simp
  rw [a4, w32_id ⟨by omega, by omega⟩]
theorem X_g26 : ∀ (d i n : Nat) (S : St), i + d = 6 → (∀ j, j < i → S 16 j = 0) → d < n → ∃ S', dn_X2_goToFirstRow_26 n (i : Int) S = some (S', 0) ∧ (∀ k f, k ≠ 16 → S' k f = S k f) ∧ ∀ j, j < 6 → S' 16 j = 0 := by
  intro d
  induction d with
  | zero =>
    intro i n S hd h hn
    obtain ⟨n, rfl⟩ : ∃ q, n = q + 1 := ⟨n - 1, by omega⟩
    rw [dn_X2_goToFirstRow_26, if_pos (by omega)]
    exact ⟨S, rfl, fun _ _ _ => rfl, fun j hj => h j (by omega)⟩
  | succ d ih =>
    intro i n S hd h hn
    obtain ⟨n, rfl⟩ : ∃ q, n = q + 1 := ⟨n - 1, by omega⟩
    rw [dn_X2_goToFirstRow_26, if_neg (by omega), if_pos (by omega), nmS_s, Int.toNat_natCast, w32_s (by omega)]
    obtain ⟨S', a1, a2, a3⟩ := ih (i + 1) n (stU S 16 i 0) (by omega) (fun j hj => by
      by_cases z : j = i
      · rw [z, stU_same]
      · rw [stU_slot _ _ _ _ z]; exact h j (by omega)) (by omega)
    exact ⟨S', a1, fun k f hk => by rw [a2 k f hk, stU_cell _ _ _ _ hk], a3⟩
theorem X_g2 : ∀ (d i n : Nat) (S : St), i + d = 245 → (∀ j, j < i → S 17 (100000 + j) = 0) → d < n → ∃ S', dn_X2_goToFirstRow_2 n (i : Int) S = dn_X2_goToFirstRow_26 FU 0 S' ∧ (∀ k f, k ≠ 17 → S' k f = S k f) ∧ ∀ j, j < 245 → S' 17 (100000 + j) = 0 := by
  intro d
  induction d with
  | zero =>
    intro i n S hd h hn
    obtain ⟨n, rfl⟩ : ∃ q, n = q + 1 := ⟨n - 1, by omega⟩
    rw [dn_X2_goToFirstRow_2, if_pos (by omega)]
    exact ⟨S, rfl, fun _ _ _ => rfl, fun j hj => h j (by omega)⟩
  | succ d ih =>
    intro i n S hd h hn
    obtain ⟨n, rfl⟩ : ∃ q, n = q + 1 := ⟨n - 1, by omega⟩
    rw [dn_X2_goToFirstRow_2, if_neg (by omega), if_pos (by omega), nmS_s, Int.toNat_natCast, w32_s (by omega)]
    obtain ⟨S', a1, a2, a3⟩ := ih (i + 1) n (stU S 17 (100000 + i) 0) (by omega) (fun j hj => by
      by_cases z : j = i
      · rw [z, stU_same]
      · rw [stU_slot _ _ _ _ (by omega)]; exact h j (by omega)) (by omega)
    exact ⟨S', a1, fun k f hk => by rw [a2 k f hk, stU_cell _ _ _ _ hk], a3⟩
theorem X_first (S : St) : ∃ S', dn_X2_goToFirstRow S = some (S', 0) ∧ (∀ k f, k ≠ 16 → k ≠ 17 → S' k f = S k f) ∧ (∀ j, j < 6 → S' 16 j = 0) ∧ ∀ x, x < 15625 → ¬ bt S' x := by
  obtain ⟨S1, a1, a2, a3⟩ := X_g2 245 0 FU S (by omega) (fun j hj => by omega) (FU_lt (by omega))
  obtain ⟨S2, b1, b2, b3⟩ := X_g26 6 0 FU S1 (by omega) (fun j hj => by omega) (FU_lt (by omega))
  refine ⟨S2, ?_, fun k f h1 h2 => by rw [b2 k f h1, a2 k f h2], b3, fun x hx z => ?_⟩
  · unfold dn_X2_goToFirstRow; exact a1.trans b1
  · unfold bt at z
    rw [b2 17 _ (by decide), a3 (x / 64) (by omega), bto_0] at z
    exact absurd z (by decide)
theorem X_sn (hm : m ≤ 6) (ht : ∀ i, i < m → 1 ≤ t i ∧ t i ≤ 4) (h : CW m t S) : ∀ (d k n : Nat), k + d = m → d < n → dn_X2_stateNumbers_4 n ((wt k (fun i => t i + 1) : Nat) : Int) (k : Int) S = some (S, ((wt m (fun i => t i + 1) : Nat) : Int)) := by
  intro d
  induction d with
  | zero =>
    intro k n hd hn
    obtain ⟨n, rfl⟩ : ∃ q, n = q + 1 := ⟨n - 1, by omega⟩
    have : k = m := by omega
    rw [dn_X2_stateNumbers_4, h.1, if_pos (by omega), this]
  | succ d ih =>
    intro k n hd hn
    obtain ⟨n, rfl⟩ : ∃ q, n = q + 1 := ⟨n - 1, by omega⟩
    rw [dn_X2_stateNumbers_4, h.1, if_neg (by omega), if_pos (by omega), Int.toNat_natCast, wq_s hm ht (by omega) (h.2 k (by omega)), w32_s (by omega)]
    exact ih (k + 1) n (by omega) (by omega)
theorem X_mm (hm : m ≤ 6) (ht : ∀ i, i < m → 1 ≤ t i ∧ t i ≤ 4) {s : Nat} (hs : s < wt m (fun i => t i + 1)) : ∀ (d k n : Nat) (S : St), k + d = m → CW m t S → (∀ i, i < m → S 16 i = (dg i (fun i => t i + 1) s : Int)) → d < n →
    ∃ S', dn_X2_markMoves_4 n (s : Int) ((wt k (fun i => t i + 1) : Nat) : Int) (k : Int) S = some (S', 0) ∧ (∀ q f, q ≠ 17 → S' q f = S q f) ∧ ∀ x, bt S' x ↔ (bt S x ∨ ∃ i, k ≤ i ∧ i < m ∧ dg i (fun i => t i + 1) s < t i ∧ x = s + wt i (fun i => t i + 1)) := by
  intro d
  induction d with
  | zero =>
    intro k n S hd h hh hn
    obtain ⟨n, rfl⟩ : ∃ q, n = q + 1 := ⟨n - 1, by omega⟩
    rw [dn_X2_markMoves_4, h.1, if_pos (by omega)]
    refine ⟨S, rfl, fun _ _ _ => rfl, fun x => ⟨Or.inl, ?_⟩⟩
    rintro (z | ⟨i, h1, h2, _⟩)
    · exact z
    · omega
  | succ d ih =>
    intro k n S hd h hh hn
    obtain ⟨n, rfl⟩ : ∃ q, n = q + 1 := ⟨n - 1, by omega⟩
    have hk : k < m := by omega
    have e15 := h.2 k hk
    have e16 := hh k hk
    rw [dn_X2_markMoves_4, h.1, if_neg (by omega), if_pos (by omega), Int.toNat_natCast, e15, e16]
    by_cases z : t k ≤ dg k (fun i => t i + 1) s
    · rw [if_pos (by omega), wq_s hm ht hk rfl, w32_s (by omega)]
      obtain ⟨S', a1, a2, a3⟩ := ih (k + 1) n S (by omega) h hh (by omega)
      refine ⟨S', a1, a2, fun x => ?_⟩
      rw [a3 x]
      constructor
      · rintro (y | ⟨i, h1, h2, h3, h4⟩)
        · exact Or.inl y
        · exact Or.inr ⟨i, by omega, h2, h3, h4⟩
      · rintro (y | ⟨i, h1, h2, h3, h4⟩)
        · exact Or.inl y
        · refine Or.inr ⟨i, ?_, h2, h3, h4⟩
          by_cases y : i = k
          · subst y; omega
          · omega
    · have hlt := lt_wt m k (fun i => t i + 1) s (fun k => by show 0 < t k + 1; omega) hk hs (by show dg k _ s + 1 < t k + 1; omega)
      have hE := wq_le (k := m) hm ht (by omega)
      have w : w32 ((s : Int) + ((wt k (fun i => t i + 1) : Nat) : Int)) = ((s + wt k (fun i => t i + 1) : Nat) : Int) := by
        rw [w32_id ⟨by omega, by omega⟩]; omega
      rw [if_neg (by clear w; omega), w, X_mark (by clear w; omega), cal_s]
      have f15 : mkX (s + wt k (fun i => t i + 1)) S 15 k = (t k : Int) := by rw [mk_off (by decide)]; exact e15
      rw [f15, wq_s hm ht hk rfl, w32_s (by clear w; omega)]
      obtain ⟨S', a1, a2, a3⟩ := ih (k + 1) n (mkX (s + wt k (fun i => t i + 1)) S) (by clear w; omega) (CW_o h (mk_off (by decide)) (fun f => mk_off (by decide))) (fun i hi => by rw [mk_off (by decide)]; exact hh i hi) (by clear w; omega)
      clear w
      refine ⟨S', a1, fun q f hq => by rw [a2 q f hq, mk_off hq], fun x => ?_⟩
      rw [a3 x, bt_mk]
      constructor
      · rintro ((y | y) | ⟨i, h1, h2, h3, h4⟩)
        · exact Or.inl y
        · exact Or.inr ⟨k, by omega, hk, by omega, y⟩
        · exact Or.inr ⟨i, by omega, h2, h3, h4⟩
      · rintro (y | ⟨i, h1, h2, h3, h4⟩)
        · exact Or.inl (Or.inl y)
        · by_cases y : i = k
          · subst y; exact Or.inl (Or.inr h4)
          · exact Or.inr ⟨i, by omega, h2, h3, h4⟩
theorem tkn_le {t h : Nat → Nat} : ∀ {m : Nat}, (∀ i, i < m → t i ≤ 4) → tkn m t h ≤ 4 * m
  | 0, _ => by simp [tkn]
  | m + 1, hh => by
    have := tkn_le (h := h) (m := m) (fun i hi => hh i (by omega))
    have h4 := hh m (by omega)
    have : con t h m ≤ 4 := by unfold con; split <;> omega
    rw [tkn]; omega
theorem X_vis (hm : m ≤ 6) (ht : ∀ i, i < m → 1 ≤ t i ∧ t i ≤ 4) {s : Nat} (hs : s < wt m (fun i => t i + 1)) (h : CW m t S) (hh : ∀ i, i < m → S 16 i = (dg i (fun i => t i + 1) s : Int)) : ∀ (d k n : Nat), k + d = m → d < n →
    ∃ S', dn_X2_visit_5 n (s : Int) (c : Int) ((tkn k t (fun i => dg i (fun i => t i + 1) s) : Nat) : Int) (k : Int) S = some (S', 0) ∧ ((c ≤ tq (fun i => t i + 1) m t s ∧ S' = stU S 14 6 (w32 (S 14 6 + 1))) ∨ (tq (fun i => t i + 1) m t s < c ∧ (∀ q f, q ≠ 17 → S' q f = S q f) ∧ ∀ x, bt S' x ↔ (bt S x ∨ ∃ i, i < m ∧ dg i (fun i => t i + 1) s < t i ∧ x = s + wt i (fun i => t i + 1)))) := by
  intro d
  induction d with
  | zero =>
    intro k n hd hn
    obtain ⟨n, rfl⟩ : ∃ q, n = q + 1 := ⟨n - 1, by omega⟩
    have : k = m := by omega
    subst this
    rw [dn_X2_visit_5, h.1, if_pos (by omega)]
    unfold tq
    by_cases z : c ≤ tkn k t (fun i => dg i (fun i => t i + 1) s)
    · rw [if_pos (by omega), nmS_s]
      exact ⟨_, rfl, Or.inl ⟨z, rfl⟩⟩
    · rw [if_neg (by omega)]
      obtain ⟨S', a1, a2, a3⟩ := X_mm hm ht hs k 0 FU S (by omega) h hh (FU_lt (by omega))
      have a1 : dn_X2_markMoves (s : Int) S = some (S', 0) := a1
      rw [a1, cal_s]
      refine ⟨S', rfl, Or.inr ⟨by omega, a2, fun x => ?_⟩⟩
      rw [a3 x]
      constructor
      · rintro (y | ⟨i, h1, h2, h3, h4⟩)
        · exact Or.inl y
        · exact Or.inr ⟨i, h2, h3, h4⟩
      · rintro (y | ⟨i, h2, h3, h4⟩)
        · exact Or.inl y
        · exact Or.inr ⟨i, by omega, h2, h3, h4⟩
  | succ d ih =>
    intro k n hd hn
    obtain ⟨n, rfl⟩ : ∃ q, n = q + 1 := ⟨n - 1, by omega⟩
    have hk : k < m := by omega
    have e15 := h.2 k hk
    have e16 := hh k hk
    have nx := ih (k + 1) n (by omega) (by omega)
    have hl := tkn_le (t := t) (h := fun i => dg i (fun i => t i + 1) s) (m := k + 1) (fun i hi => (ht i (by omega)).2)
    rw [dn_X2_visit_5, h.1, if_neg (by omega), if_pos (by omega), Int.toNat_natCast, e15, e16]
    by_cases z : t k ≤ dg k (fun i => t i + 1) s
    · have e : tkn (k + 1) t (fun i => dg i (fun i => t i + 1) s) = tkn k t (fun i => dg i (fun i => t i + 1) s) := by
        rw [tkn, con, if_neg (by show ¬ dg k (fun i => t i + 1) s < t k; omega), Nat.add_zero]
      rw [e] at nx
      rw [if_pos (by omega), w32_s (by omega)]
      exact nx
    · have e : tkn (k + 1) t (fun i => dg i (fun i => t i + 1) s) = tkn k t (fun i => dg i (fun i => t i + 1) s) + dg k (fun i => t i + 1) s := by
        rw [tkn, con, if_pos (by show dg k (fun i => t i + 1) s < t k; omega)]
      rw [e] at hl
      have w : w32 (((tkn k t (fun i => dg i (fun i => t i + 1) s) : Nat) : Int) + ((dg k (fun i => t i + 1) s : Nat) : Int)) = ((tkn k t (fun i => dg i (fun i => t i + 1) s) + dg k (fun i => t i + 1) s : Nat) : Int) := by
        rw [w32_id ⟨by omega, by omega⟩]; omega
      rw [if_neg (by clear w; omega), w, w32_s (by clear w; omega), ← e]
      exact nx
theorem X_nx (hm : m ≤ 6) (ht : ∀ i, i < m → 1 ≤ t i ∧ t i ≤ 4) {s : Nat} (hs : s < wt m (fun i => t i + 1)) : ∀ (d k n : Nat) (S : St), k + d = m → CW m t S → (∀ j, j < k → dg j (fun i => t i + 1) s + 1 = t j + 1 ∧ S 16 j = 0) → (∀ i, k ≤ i → i < m → S 16 i = (dg i (fun i => t i + 1) s : Int)) → d < n →
    ∃ S', dn_X2_nextRow_2 n (k : Int) S = some (S', 0) ∧ (∀ q f, q ≠ 16 → S' q f = S q f) ∧ (s + 1 < wt m (fun i => t i + 1) → ∀ i, i < m → S' 16 i = (dg i (fun i => t i + 1) (s + 1) : Int)) := by
  intro d
  induction d with
  | zero =>
    intro k n S hd h h1 h2 hn
    obtain ⟨n, rfl⟩ : ∃ q, n = q + 1 := ⟨n - 1, by omega⟩
    rw [dn_X2_nextRow_2, h.1, if_pos (by omega)]
    have := dg_last m (fun i => t i + 1) s (fun k => by show 0 < t k + 1; omega) hs (fun i hi => (h1 i (by omega)).1)
    exact ⟨S, rfl, fun _ _ _ => rfl, fun z => by omega⟩
  | succ d ih =>
    intro k n S hd h h1 h2 hn
    obtain ⟨n, rfl⟩ : ∃ q, n = q + 1 := ⟨n - 1, by omega⟩
    have hk : k < m := by omega
    have e15 := h.2 k hk
    have e16 := h2 k (by omega) hk
    have hdl := dg_lt k (fun i => t i + 1) s (by show 0 < t k + 1; omega)
    have hdl : dg k (fun i => t i + 1) s < t k + 1 := hdl
    rw [dn_X2_nextRow_2, h.1, if_neg (by omega), if_pos (by omega), Int.toNat_natCast, e15, e16]
    by_cases z : t k ≤ dg k (fun i => t i + 1) s
    · rw [if_pos (by omega), nmS_s, w32_s (by omega)]
      obtain ⟨S', a1, a2, a3⟩ := ih (k + 1) n (stU S 16 k 0) (by omega) (CW_o h (stU_cell _ _ _ _ (by decide)) (fun f => stU_cell _ _ _ _ (by decide))) (fun j hj => by
        by_cases y : j = k
        · subst y; exact ⟨by omega, stU_same _ _ _ _⟩
        · rw [stU_slot _ _ _ _ y]; exact h1 j (by omega)) (fun i a b => by rw [stU_slot _ _ _ _ (by omega)]; exact h2 i (by omega) b) (by omega)
      exact ⟨S', a1, fun q f hq => by rw [a2 q f hq, stU_cell _ _ _ _ hq], a3⟩
    · have hr := ht k hk
      have w : w32 ((dg k (fun i => t i + 1) s : Int) + 1) = ((dg k (fun i => t i + 1) s + 1 : Nat) : Int) := w32_s (by omega)
      rw [if_neg (by clear w; omega), w, nmS_s]
      clear w
      refine ⟨_, rfl, fun q f hq => stU_cell _ _ _ _ hq, fun _ i hi => ?_⟩
      have hnx := dg_next k (fun i => t i + 1) s i (fun k => by show 0 < t k + 1; omega) (fun j hj => (h1 j hj).1) (by show dg k _ s + 1 < t k + 1; omega)
      rw [hnx]
      by_cases y : i < k
      · rw [stU_slot _ _ _ _ (by omega), (h1 i y).2, if_pos y]; rfl
      · rw [if_neg y]
        by_cases y2 : i = k
        · rw [y2, stU_same, if_pos rfl]
        · rw [stU_slot _ _ _ _ y2, if_neg y2]; exact h2 i (by omega) hi
end WX
