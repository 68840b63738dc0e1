/-! the class's walk, whole -/
/-- how many are found among the first s numbers, and how many of them are stuck -/
noncomputable def fnd (q : Nat → Nat) (m c : Nat) (t : Nat → Nat) (s : Nat) : Int := cn (fun x => ind (RR q m c t x)) 1 s
noncomputable def stk (q : Nat → Nat) (m c : Nat) (t : Nat → Nat) (s : Nat) : Int := cn (fun x => ind (RR q m c t x ∧ c ≤ tq q m t x)) 1 s
def WB (m c : Nat) (t : Nat → Nat) (s : Nat) (S : St) : Prop := ∀ x, x < wt m (fun i => t i + 1) → (bt S x ↔ (x = 0 ∨ ∃ y i, y < s ∧ i < m ∧ RR (fun i => t i + 1) m c t y ∧ tq (fun i => t i + 1) m t y < c ∧ dg i (fun i => t i + 1) y < t i ∧ x = y + wt i (fun i => t i + 1)))
section WY
variable {m c : Nat} {t : Nat → Nat} {S : St}
theorem WB_s (hc : 1 ≤ c) (ht : ∀ i, i < m → 1 ≤ t i ∧ t i ≤ 4) {s : Nat} (hs : s < wt m (fun i => t i + 1)) (h : WB m c t s S) : bt S s ↔ RR (fun i => t i + 1) m c t s := by
  rw [h s hs]
  constructor
  · rintro (z | ⟨y, i, h1, h2, h3, h4, h5, h6⟩)
    · rw [z]; exact RR_0 (fun i hi => (ht i hi).1)
    · rw [h6]; exact RR_in (fun k => by show 0 < t k + 1; omega) (fun k _ => by show t k < t k + 1; omega) h3 h4 h2 h5
  · intro z
    by_cases y : s = 0
    · exact Or.inl y
    · obtain ⟨y, i, h1, h2, h3, h4, h5, h6⟩ := RR_pre hc (fun k => by show 0 < t k + 1; omega) hs y z
      exact Or.inr ⟨y, i, h2, h1, h4, h5, h6, h3⟩
theorem WB_no {s : Nat} {S' : St} (hn : ¬ (RR (fun i => t i + 1) m c t s ∧ tq (fun i => t i + 1) m t s < c)) (h : WB m c t s S) (hS : ∀ f, S' 17 f = S 17 f) : WB m c t (s + 1) S' := by
  intro x hx
  have : bt S' x ↔ bt S x := by unfold bt; rw [hS]
  rw [this, h x hx]
  constructor
  · rintro (z | ⟨y, i, h1, h2⟩)
    · exact Or.inl z
    · exact Or.inr ⟨y, i, by omega, h2⟩
  · rintro (z | ⟨y, i, h1, h2, h3, h4, h5⟩)
    · exact Or.inl z
    · refine Or.inr ⟨y, i, ?_, h2, h3, h4, h5⟩
      by_cases e : y = s
      · subst e; exact absurd ⟨h3, h4⟩ hn
      · omega
theorem WB_yes {s : Nat} {S' S2 : St} (hr : RR (fun i => t i + 1) m c t s) (hc : tq (fun i => t i + 1) m t s < c) (h : WB m c t s S) (hS : ∀ x, bt S' x ↔ (bt S x ∨ ∃ i, i < m ∧ dg i (fun i => t i + 1) s < t i ∧ x = s + wt i (fun i => t i + 1))) (h2 : ∀ f, S2 17 f = S' 17 f) : WB m c t (s + 1) S2 := by
  intro x hx
  have : bt S2 x ↔ bt S' x := by unfold bt; rw [h2]
  rw [this, hS x, h x hx]
  constructor
  · rintro ((z | ⟨y, i, h1, h2⟩) | ⟨i, h1, h2, h3⟩)
    · exact Or.inl z
    · exact Or.inr ⟨y, i, by omega, h2⟩
    · exact Or.inr ⟨s, i, by omega, h1, hr, hc, h2, h3⟩
  · rintro (z | ⟨y, i, h1, h2, h3, h4, h5, h6⟩)
    · exact Or.inl (Or.inl z)
    · by_cases e : y = s
      · subst e; exact Or.inr ⟨i, h2, h5, h6⟩
      · exact Or.inl (Or.inr ⟨y, i, by omega, h2, h3, h4, h5, h6⟩)
/-- the frame of a walk -/
def WF (S S' : St) : Prop := ∀ k f, k ≠ 16 → k ≠ 17 → (k = 14 → f ≠ 5 ∧ f ≠ 6) → S' k f = S k f
theorem X_wl (hm : m ≤ 6) (hc : 1 ≤ c) (ht : ∀ i, i < m → 1 ≤ t i ∧ t i ≤ 4) : ∀ (d s n : Nat) (S : St), s + d = wt m (fun i => t i + 1) → CW m t S → (s < wt m (fun i => t i + 1) → ∀ i, i < m → S 16 i = (dg i (fun i => t i + 1) s : Int)) → S 14 5 = fnd (fun i => t i + 1) m c t s → S 14 6 = stk (fun i => t i + 1) m c t s → WB m c t s S → d < n →
    ∃ S', dn_X2_walk_26 n (c : Int) ((wt m (fun i => t i + 1) : Nat) : Int) (s : Int) S = some (S', 0) ∧ WF S S' ∧ S' 14 5 = fnd (fun i => t i + 1) m c t (wt m (fun i => t i + 1)) ∧ S' 14 6 = stk (fun i => t i + 1) m c t (wt m (fun i => t i + 1)) := by
  intro d
  induction d with
  | zero =>
    intro s n S hd h h16 h5 h6 hb hn
    obtain ⟨n, rfl⟩ : ∃ q, n = q + 1 := ⟨n - 1, by omega⟩
    have : s = wt m (fun i => t i + 1) := by omega
    rw [dn_X2_walk_26, if_pos (by omega)]
    exact ⟨S, rfl, fun _ _ _ _ _ => rfl, by rw [h5, this], by rw [h6, this]⟩
  | succ d ih =>
    intro s n S hd h h16 h5 h6 hb hn
    obtain ⟨n, rfl⟩ : ∃ q, n = q + 1 := ⟨n - 1, by omega⟩
    have hs : s < wt m (fun i => t i + 1) := by omega
    have hE := wq_le (k := m) hm ht (by omega)
    have hbs := WB_s hc ht hs hb
    obtain ⟨v, v1, v2⟩ := X_isR (S := S) (s := s) (by omega)
    have f5 : fnd (fun i => t i + 1) m c t (s + 1) = fnd (fun i => t i + 1) m c t s + (if ind (RR (fun i => t i + 1) m c t s) = 1 then 1 else 0) := rfl
    have f6 : stk (fun i => t i + 1) m c t (s + 1) = stk (fun i => t i + 1) m c t s + (if ind (RR (fun i => t i + 1) m c t s ∧ c ≤ tq (fun i => t i + 1) m t s) = 1 then 1 else 0) := rfl
    have r5 := cn_rng (fun x => ind (RR (fun i => t i + 1) m c t x)) 1 s
    have r6 := cn_rng (fun x => ind (RR (fun i => t i + 1) m c t x ∧ c ≤ tq (fun i => t i + 1) m t x)) 1 s
    rw [dn_X2_walk_26, if_neg (by omega), v1, cal_s]
    by_cases z : RR (fun i => t i + 1) m c t s
    · rw [if_neg (fun y => (v2.mp y) (hbs.mpr z)), nmS_s]
      rw [if_pos (ind_1.mpr z)] at f5
      have w5 : w32 (S 14 5 + 1) = fnd (fun i => t i + 1) m c t (s + 1) := by
        rw [f5, h5]
        refine w32_id ?_
        unfold fnd
        exact ⟨by omega, by omega⟩
      rw [w5]
      generalize hS1 : stU S 14 5 (fnd (fun i => t i + 1) m c t (s + 1)) = S1
      have o1 : ∀ k f, (k = 14 → f ≠ 5) → S1 k f = S k f := fun k f y => by
        rw [← hS1]
        by_cases y2 : k = 14
        · rw [y2, stU_slot _ _ _ _ (y y2)]
        · rw [stU_cell _ _ _ _ y2]
      have o5 : S1 14 5 = fnd (fun i => t i + 1) m c t (s + 1) := by rw [← hS1, stU_same]
      clear hS1 w5
      have h1 : CW m t S1 := CW_o h (o1 _ _ (by decide)) (fun f => o1 _ _ (fun y => absurd y (by decide)))
      obtain ⟨S2, a1, a2⟩ := X_vis (c := c) hm ht hs h1 (fun i hi => by rw [o1 _ _ (fun y => absurd y (by decide))]; exact h16 hs i hi) m 0 FU (by omega) (FU_lt (by omega))
      have a1 : dn_X2_visit (s : Int) (c : Int) S1 = some (S2, 0) := a1
      rw [a1, cal_s]
      have key : CW m t S2 ∧ (∀ i, i < m → S2 16 i = (dg i (fun i => t i + 1) s : Int)) ∧ S2 14 5 = fnd (fun i => t i + 1) m c t (s + 1) ∧ S2 14 6 = stk (fun i => t i + 1) m c t (s + 1) ∧ (∀ S3 : St, (∀ f, S3 17 f = S2 17 f) → WB m c t (s + 1) S3) ∧ WF S S2 := by
        rcases a2 with ⟨b1, b2⟩ | ⟨b1, b2, b3⟩
        · rw [if_pos (ind_1.mpr ⟨z, b1⟩)] at f6
          have w6 : w32 (S1 14 6 + 1) = stk (fun i => t i + 1) m c t (s + 1) := by
            rw [f6, o1 14 6 (by decide), h6]
            refine w32_id ?_
            unfold stk
            exact ⟨by omega, by omega⟩
          rw [w6] at b2
          clear w6
          have o2 : ∀ k f, (k = 14 → f ≠ 6) → S2 k f = S1 k f := fun k f y => by
            rw [b2]
            by_cases y2 : k = 14
            · rw [y2, stU_slot _ _ _ _ (y y2)]
            · rw [stU_cell _ _ _ _ y2]
          refine ⟨CW_o h1 (o2 _ _ (by decide)) (fun f => o2 _ _ (fun y => absurd y (by decide))), fun i hi => ?_, ?_, ?_, fun S3 h3 => WB_no (fun y => by omega) hb (fun f => ?_), fun k f y1 y2 y3 => ?_⟩
          · rw [o2 _ _ (fun y => absurd y (by decide)), o1 _ _ (fun y => absurd y (by decide))]; exact h16 hs i hi
          · rw [o2 _ _ (by decide), o5]
          · rw [b2, stU_same]
          · rw [h3, o2 _ _ (fun y => absurd y (by decide)), o1 _ _ (fun y => absurd y (by decide))]
          · rw [o2 k f (fun e => (y3 e).2), o1 k f (fun e => (y3 e).1)]
        · rw [if_neg (fun y => by have := (ind_1.mp y).2; omega)] at f6
          refine ⟨CW_o h1 (b2 _ _ (by decide)) (fun f => b2 _ _ (by decide)), fun i hi => ?_, ?_, ?_, fun S3 h3 => WB_yes z b1 (S' := S2) (S := S) hb (fun x => ?_) h3, fun k f y1 y2 y3 => ?_⟩
          · rw [b2 _ _ (by decide), o1 _ _ (fun y => absurd y (by decide))]; exact h16 hs i hi
          · rw [b2 _ _ (by decide), o5]
          · rw [b2 _ _ (by decide), o1 _ _ (by decide), h6, f6]; omega
          · rw [b3 x]
            have : bt S1 x ↔ bt S x := by unfold bt; rw [o1 _ _ (fun y => absurd y (by decide))]
            rw [this]
          · rw [b2 k f y2, o1 k f (fun e => (y3 e).1)]
      obtain ⟨k1, k2, k3, k4, k5, k6⟩ := key
      obtain ⟨S3, c1, c2, c3⟩ := X_nx hm ht hs m 0 FU S2 (by omega) k1 (fun j hj => by omega) (fun i _ hi => k2 i hi) (FU_lt (by omega))
      have c1 : dn_X2_nextRow S2 = some (S3, 0) := c1
      rw [c1, cal_s, w32_s (by omega)]
      obtain ⟨S4, d1, d2, d3, d4⟩ := ih (s + 1) n S3 (by omega) (CW_o k1 (c2 _ _ (by decide)) (fun f => c2 _ _ (by decide))) c3 (by rw [c2 _ _ (by decide), k3]) (by rw [c2 _ _ (by decide), k4]) (k5 S3 (fun f => c2 _ _ (by decide))) (by omega)
      exact ⟨S4, d1, fun k f y1 y2 y3 => by rw [d2 k f y1 y2 y3, c2 k f y1, k6 k f y1 y2 y3], d3, d4⟩
    · have hnb : ¬ bt S s := fun y => z (hbs.mp y)
      rw [if_pos (v2.mpr hnb)]
      rw [if_neg (fun y => z (ind_1.mp y))] at f5
      rw [if_neg (fun y => z (ind_1.mp y).1)] at f6
      obtain ⟨S3, c1, c2, c3⟩ := X_nx hm ht hs m 0 FU S (by omega) h (fun j hj => by omega) (fun i _ hi => h16 hs i hi) (FU_lt (by omega))
      have c1 : dn_X2_nextRow S = some (S3, 0) := c1
      rw [c1, cal_s, w32_s (by omega)]
      obtain ⟨S4, d1, d2, d3, d4⟩ := ih (s + 1) n S3 (by omega) (CW_o h (c2 _ _ (by decide)) (fun f => c2 _ _ (by decide))) c3 (by rw [c2 _ _ (by decide), h5, f5]; omega) (by rw [c2 _ _ (by decide), h6, f6]; omega) (WB_no (fun y => z y.1) hb (fun f => c2 _ _ (by decide))) (by omega)
      exact ⟨S4, d1, fun k f y1 y2 y3 => by rw [d2 k f y1 y2 y3, c2 k f y1], d3, d4⟩
theorem X_walk (hm : m ≤ 6) (hc : 1 ≤ c) (ht : ∀ i, i < m → 1 ≤ t i ∧ t i ≤ 4) (h : CW m t S) : ∃ S', dn_X2_walk (c : Int) S = some (S', 0) ∧ WF S S' ∧ S' 14 5 = fnd (fun i => t i + 1) m c t (wt m (fun i => t i + 1)) ∧ S' 14 6 = stk (fun i => t i + 1) m c t (wt m (fun i => t i + 1)) := by
  unfold dn_X2_walk
  rw [nmS_s, nmS_s]
  generalize hS1 : stU (stU S 14 5 0) 14 6 0 = S1
  have o1 : ∀ k f, (k = 14 → f ≠ 5 ∧ f ≠ 6) → S1 k f = S k f := fun k f y => by
    rw [← hS1]
    by_cases y2 : k = 14
    · rw [y2, stU_slot _ _ _ _ (y y2).2, stU_slot _ _ _ _ (y y2).1]
    · rw [stU_cell _ _ _ _ y2, stU_cell _ _ _ _ y2]
  have o5 : S1 14 5 = 0 := by rw [← hS1, stU_slot _ _ _ _ (by decide), stU_same]
  have o6 : S1 14 6 = 0 := by rw [← hS1, stU_same]
  clear hS1
  obtain ⟨S2, a1, a2, a3, a4⟩ := X_first S1
  have hmk : dn_X2_markReached 0 S2 = some (mkX 0 S2, 0) := X_mark (s := 0) (by decide)
  rw [a1, cal_s, hmk, cal_s]
  have h2 : CW m t (mkX 0 S2) := CW_o h (by rw [mk_off (by decide), a2 _ _ (by decide) (by decide), o1 _ _ (by decide)]) (fun f => by rw [mk_off (by decide), a2 _ _ (by decide) (by decide), o1 _ _ (fun y => absurd y (by decide))])
  have sn : dn_X2_stateNumbers (mkX 0 S2) = some (mkX 0 S2, ((wt m (fun i => t i + 1) : Nat) : Int)) := X_sn hm ht h2 m 0 FU (by omega) (FU_lt (by omega))
  rw [sn, cal_s]
  have hE := wq_le (k := m) hm ht (by omega)
  obtain ⟨S4, d1, d2, d3, d4⟩ := X_wl (c := c) hm hc ht (wt m (fun i => t i + 1)) 0 FU (mkX 0 S2) (by omega) h2 (fun _ i hi => by rw [mk_off (by decide), a3 i (by omega), dg_zero]; rfl) (by rw [mk_off (by decide), a2 _ _ (by decide) (by decide), o5]; rfl) (by rw [mk_off (by decide), a2 _ _ (by decide) (by decide), o6]; rfl) (fun x hx => by
    rw [bt_mk]
    constructor
    · rintro (y | y)
      · exact absurd y (a4 x (by omega))
      · exact Or.inl y
    · rintro (y | ⟨y, i, h1, _⟩)
      · exact Or.inr y
      · omega) (FU_lt (by omega))
  exact ⟨S4, d1, fun k f y1 y2 y3 => by rw [d2 k f y1 y2 y3, mk_off y2, a2 k f y1 y2, o1 k f y3], d3, d4⟩
end WY
