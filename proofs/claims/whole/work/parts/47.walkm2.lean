/-! the reference's walk, whole -/
section WN
variable {L m c : Nat} {t : Nat → Nat} {T : St}
/-- of the first done of the row, the stuck ones -/
noncomputable def SQ (L m c : Nat) (t : Nat → Nat) (T : St) (done : Nat) : Int := cn (fun x => ind ((∃ k, k < done ∧ T 24 k = (x : Int)) ∧ tq q5 m t x = c)) 1 L
def CL (m c : Nat) (t : Nat → Nat) (T : St) (done : Nat) : Prop := ∀ k, k < done → ∀ x : Nat, T 24 k = (x : Int) → tq q5 m t x < c → ∀ i, i < m → dg i q5 x < t i → T 23 (x + 5 ^ i) = 1
theorem SQ_s {T' : St} {done x : Nat} (hL : x < L) (h24 : ∀ k, k ≤ done → T' 24 k = T 24 k) (hx : T 24 done = (x : Int)) (hn : ∀ k, k < done → T 24 k ≠ (x : Int)) : SQ L m c t T' (done + 1) = SQ L m c t T done + (if tq q5 m t x = c then 1 else 0) := by
  unfold SQ
  by_cases z : tq q5 m t x = c
  · rw [if_pos z]
    refine cn_new hL ?_ ?_ (fun i hi => ?_)
    · intro y
      obtain ⟨⟨k, h1, h2⟩, _⟩ := ind_1.mp y
      exact hn k h1 h2
    · exact ind_1.mpr ⟨⟨done, by omega, by rw [h24 done (by omega)]; exact hx⟩, z⟩
    · refine ind_c ⟨?_, ?_⟩
      · rintro ⟨⟨k, h1, h2⟩, h3⟩
        refine ⟨⟨k, ?_, by rw [← h24 k (by omega)]; exact h2⟩, h3⟩
        by_cases e : k = done
        · rw [e, h24 done (by omega), hx] at h2
          exact absurd (Int.ofNat.inj h2).symm hi
        · omega
      · rintro ⟨⟨k, h1, h2⟩, h3⟩
        exact ⟨⟨k, by omega, by rw [h24 k (by omega)]; exact h2⟩, h3⟩
  · rw [if_neg z]
    rw [Int.add_zero]
    refine cn_congr (fun i hi => ?_)
    rw [ind_1, ind_1]
    constructor
    · rintro ⟨⟨k, h1, h2⟩, h3⟩
      refine ⟨⟨k, ?_, by rw [← h24 k (by omega)]; exact h2⟩, h3⟩
      by_cases e : k = done
      · rw [e, h24 done (by omega), hx] at h2
        have e2 : x = i := Int.ofNat.inj h2
        rw [← e2] at h3
        exact absurd h3 z
      · omega
    · rintro ⟨⟨k, h1, h2⟩, h3⟩
      exact ⟨⟨k, by omega, by rw [h24 k (by omega)]; exact h2⟩, h3⟩
theorem BI_38 {v : Int} {many : Nat} (h : BI L m c t T many) : BI L m c t (stU T 0 38 v) many := by
  unfold BI at h ⊢
  simp only [stU_cell T 38 _ v (show 23 ≠ 0 by decide), stU_cell T 38 _ v (show 24 ≠ 0 by decide)]
  have e : stU T 0 38 v 23 = T 23 := funext (fun f => stU_cell T 38 f v (by decide))
  rw [e]
  exact h
theorem M_45 (hL : L = 15625) (hm : m ≤ 6) (hc : 1 ≤ c) (ht : ∀ i, i < m → 1 ≤ t i ∧ t i ≤ 4) : ∀ (d n done many : Nat) (T : St), done + d = 15625 → done ≤ many → CM m t T → BI L m c t T many → CL m c t T done → T 0 38 = SQ L m c t T done → d < n →
    ∃ T' many', dn_X9_walk_45 n (c : Int) (done : Int) (many : Int) T = some (T', ((many' : Nat) : Int)) ∧ BI L m c t T' many' ∧ CL m c t T' many' ∧ T' 0 38 = SQ L m c t T' many' ∧ (∀ y, y < 15625 → T 23 y = 1 → T' 23 y = 1) ∧ (∀ q f, q ≠ 23 → q ≠ 24 → (q = 0 → f ≠ 38) → T' q f = T q f) := by
  intro d
  induction d with
  | zero =>
    intro n done many T hd hdm h hB hC h38 hn
    obtain ⟨n, rfl⟩ : ∃ q, n = q + 1 := ⟨n - 1, by omega⟩
    have hr := (cn_rng (T 23) 1 L).2
    have hm4 := hB.2.2.2.1
    have e : done = many := by omega
    rw [dn_X9_walk_45, if_pos (by omega)]
    exact ⟨T, many, rfl, hB, by rw [← e]; exact hC, by rw [← e]; exact h38, fun _ _ z => z, fun _ _ _ _ _ => rfl⟩
  | succ d ih =>
    intro n done many T hd hdm h hB hC h38 hn
    obtain ⟨n, rfl⟩ : ∃ q, n = q + 1 := ⟨n - 1, by omega⟩
    by_cases z : done = many
    · rw [dn_X9_walk_45, if_pos (by omega)]
      exact ⟨T, many, rfl, hB, by rw [← z]; exact hC, by rw [← z]; exact h38, fun _ _ z => z, fun _ _ _ _ _ => rfl⟩
    · obtain ⟨x, x1, x2, x3⟩ := hB.2.2.1 done (by omega)
      obtain ⟨⟨x4, x5⟩, _⟩ := hB.2.1 x x1 x3
      have hnew : ∀ k, k < done → T 24 k ≠ (x : Int) := fun k hk e => by
        have := hB.2.2.2.2 k done (by omega) (by omega) (e.trans x2.symm)
        omega
      obtain ⟨a', b1⟩ := M_74 (k45 := fun x1_ x2_ x3_ S_ => dn_X9_walk_45 n x1_ x2_ x3_ S_) (done := ((done + 1 : Nat) : Int)) (many := (many : Int)) hm hc ht x1 x5.1 h m 0 FU 1 (by omega) (fun _ => rfl) (Or.inr rfl) (FU_lt (by omega))
      have b1 : dn_X9_walk_74 (fun x1_ x2_ x3_ S_ => dn_X9_walk_45 n x1_ x2_ x3_ S_) FU (c : Int) ((done + 1 : Nat) : Int) (many : Int) (x : Int) 0 1 (x : Int) 0 T = dn_X9_walk_157 (fun x1_ x2_ x3_ S_ => dn_X9_walk_45 n x1_ x2_ x3_ S_) FU (c : Int) ((done + 1 : Nat) : Int) (many : Int) (x : Int) ((tq q5 m t x : Nat) : Int) a' (x : Int) 1 0 (if tq q5 m t x = c then stU T 0 38 (w32 (T 0 38 + 1)) else T) := by
        rw [← b1, Nat.pow_zero, Nat.div_one]; rfl
      rw [dn_X9_walk_45, if_neg (by omega), if_pos (by omega), nmV_s, Int.toNat_natCast, nmV_s, x2, w32_s (by omega), b1]
      have hr38 := cn_rng (fun x => ind ((∃ k, k < done ∧ T 24 k = (x : Int)) ∧ tq q5 m t x = c)) 1 L
      by_cases y : tq q5 m t x = c
      · rw [if_pos y]
        have w : w32 (T 0 38 + 1) = SQ L m c t T done + 1 := by
          rw [h38]
          refine w32_id ?_
          unfold SQ
          exact ⟨by omega, by omega⟩
        rw [w]
        clear w
        generalize hT1 : stU T 0 38 (SQ L m c t T done + 1) = T1
        have hB1 : BI L m c t T1 many := by rw [← hT1]; exact BI_38 hB
        have o1 : ∀ q f, (q = 0 → f ≠ 38) → T1 q f = T q f := fun q f e => by
          rw [← hT1]
          by_cases e2 : q = 0
          · rw [e2, stU_slot _ _ _ _ (e e2)]
          · rw [stU_cell _ _ _ _ e2]
        have o38 : T1 0 38 = SQ L m c t T done + 1 := by rw [← hT1, stU_same]
        clear hT1
        have h1 : CM m t T1 := CM_o h (o1 _ _ (by decide)) (fun f => o1 _ _ (fun e => absurd e (by decide)))
        have c1 := M_157c (c := c) (k45 := fun x1_ x2_ x3_ S_ => dn_X9_walk_45 n x1_ x2_ x3_ S_) (done := ((done + 1 : Nat) : Int)) (many := (many : Int)) (a := a') hm x4 h1 m 0 FU (by omega) (FU_lt (by omega))
        rw [Nat.pow_zero, Nat.div_one] at c1
        have c1 : dn_X9_walk_157 (fun x1_ x2_ x3_ S_ => dn_X9_walk_45 n x1_ x2_ x3_ S_) FU (c : Int) ((done + 1 : Nat) : Int) (many : Int) (x : Int) (c : Int) a' (x : Int) 1 0 T1 = dn_X9_walk_45 n (c : Int) ((done + 1 : Nat) : Int) (many : Int) T1 := c1
        have ey : ((tq q5 m t x : Nat) : Int) = (c : Int) := by rw [y]
        rw [ey, c1]
        have sq := SQ_s (L := L) (m := m) (c := c) (t := t) (T := T) (T' := T1) (done := done) (x := x) (by omega) (fun k _ => o1 _ _ (fun e => absurd e (by decide))) x2 hnew
        rw [if_pos y] at sq
        obtain ⟨T', many', d1, d2, d3, d4, d5, d6⟩ := ih n (done + 1) many T1 (by omega) (by omega) h1 hB1 (fun k hk x' e1 e2 i hi e3 => by
          rw [o1 24 k (fun e => absurd e (by decide))] at e1
          rw [o1 23 _ (fun e => absurd e (by decide))]
          by_cases e : k = done
          · rw [e, x2] at e1
            have e4 : x = x' := Int.ofNat.inj e1
            rw [← e4] at e2
            omega
          · exact hC k (by omega) x' e1 e2 i hi e3) (by rw [o38, sq]) (by omega)
        exact ⟨T', many', d1, d2, d3, d4, fun f hf e => d5 f hf (by rw [o1 _ _ (fun e => absurd e (by decide))]; exact e), fun q f e1 e2 e3 => by rw [d6 q f e1 e2 e3, o1 q f e3]⟩
      · rw [if_neg y]
        have hle := x5.2.1
        have hlt : tq q5 m t x < c := by
          have : tq q5 m t x ≤ c := hle
          omega
        obtain ⟨T1, many1, c1, c2, c3, c4, c5, c6, c7⟩ := M_157 (k45 := fun x1_ x2_ x3_ S_ => dn_X9_walk_45 n x1_ x2_ x3_ S_) (done := ((done + 1 : Nat) : Int)) (a := a') (tk := ((tq q5 m t x : Nat) : Int)) hL hm hc ht x4 x5 hlt (by omega) m 0 FU many T (by omega) h hB (FU_lt (by omega))
        rw [Nat.pow_zero, Nat.div_one] at c1
        have c1 : dn_X9_walk_157 (fun x1_ x2_ x3_ S_ => dn_X9_walk_45 n x1_ x2_ x3_ S_) FU (c : Int) ((done + 1 : Nat) : Int) (many : Int) (x : Int) ((tq q5 m t x : Nat) : Int) a' (x : Int) 1 0 T = dn_X9_walk_45 n (c : Int) ((done + 1 : Nat) : Int) ((many1 : Nat) : Int) T1 := c1
        rw [c1]
        have sq := SQ_s (L := L) (m := m) (c := c) (t := t) (T := T) (T' := T1) (done := done) (x := x) (by omega) (fun k hk => c4 k (by omega)) x2 hnew
        rw [if_neg y, Int.add_zero] at sq
        obtain ⟨T', many', d1, d2, d3, d4, d5, d6⟩ := ih n (done + 1) many1 T1 (by omega) (by omega) (CM_o h (c7 _ _ (by decide) (by decide)) (fun f => c7 _ _ (by decide) (by decide))) c2 (fun k hk x' e1 e2 i hi e3 => by
          rw [c4 k (by omega)] at e1
          by_cases e : k = done
          · rw [e, x2] at e1
            have e4 : x = x' := Int.ofNat.inj e1
            rw [← e4] at e3 ⊢
            exact c6 i (by omega) hi e3
          · have hin := hC k (by omega) x' e1 e2 i hi e3
            refine c5 _ ?_ hin
            obtain ⟨f, f1, f2, f3⟩ := hB.2.2.1 k (by omega)
            have e5 : x' = f := Int.ofNat.inj (e1.symm.trans f2)
            obtain ⟨⟨g1, g2⟩, _⟩ := hB.2.1 f f1 f3
            have := lt_wt m i q5 x' q5_p hi (by rw [wq, e5]; exact g1) (by have := ht i hi; show dg i q5 x' + 1 < 5; omega)
            rw [wq, wq] at this
            exact Nat.lt_of_lt_of_le this (p5_le hm)) (by rw [c7 _ _ (by decide) (by decide), h38, sq]) (by omega)
        exact ⟨T', many', d1, d2, d3, d4, fun f hf e => d5 f hf (c5 f hf e), fun q f e1 e2 e3 => by rw [d6 q f e1 e2 e3, c7 q f e1 e2]⟩
theorem M_2 {c : Int} : ∀ (d k n : Nat) (T : St), k + d = 15625 → (∀ x, x < k → T 23 x = 0) → d < n →
    ∃ T', dn_X9_walk_2 n c (k : Int) T = dn_X9_walk_45 FU c 0 1 (stU (stU (stU T' 23 0 1) 24 0 0) 0 38 0) ∧ (∀ x, x < 15625 → T' 23 x = 0) ∧ (∀ q f, q ≠ 23 → T' q f = T q f) := by
  intro d
  induction d with
  | zero =>
    intro k n T hd h hn
    obtain ⟨n, rfl⟩ : ∃ q, n = q + 1 := ⟨n - 1, by omega⟩
    rw [dn_X9_walk_2, if_pos (by omega), nmS_s, nmS_s, nmS_s]
    exact ⟨T, rfl, fun x hx => h x (by omega), fun _ _ _ => rfl⟩
  | succ d ih =>
    intro k n T hd h hn
    obtain ⟨n, rfl⟩ : ∃ q, n = q + 1 := ⟨n - 1, by omega⟩
    rw [dn_X9_walk_2, if_neg (by omega), if_pos (by omega), nmS_s, Int.toNat_natCast, nmV_s, w32_s (by omega)]
    obtain ⟨T', a1, a2, a3⟩ := ih (k + 1) n (stU T 23 k 0) (by omega) (fun x hx => by
      by_cases e : x = k
      · rw [e, stU_same]
      · rw [stU_slot _ _ _ _ e]; exact h x (by omega)) (by omega)
    exact ⟨T', a1, a2, fun q f hq => by rw [a3 q f hq, stU_cell _ _ _ _ hq]⟩
theorem M_walk (hm : m ≤ 6) (hc : 1 ≤ c) (ht : ∀ i, i < m → 1 ≤ t i ∧ t i ≤ 4) (h : CM m t T) : ∃ T' v, dn_X9_walk (c : Int) T = some (T', v) ∧ v = fnd q5 m c t (5 ^ m) ∧ T' 0 38 = stk q5 m c t (5 ^ m) ∧ (∀ q f, q ≠ 23 → q ≠ 24 → (q = 0 → f ≠ 38) → T' q f = T q f) := by
  obtain ⟨T0, a1, a2, a3⟩ := M_2 (c := (c : Int)) 15625 0 FU T (by omega) (fun x hx => by omega) (FU_lt (by omega))
  have a1 : dn_X9_walk (c : Int) T = dn_X9_walk_45 FU (c : Int) 0 1 (stU (stU (stU T0 23 0 1) 24 0 0) 0 38 0) := a1
  obtain ⟨L, hL⟩ : ∃ L : Nat, L = 15625 := ⟨_, rfl⟩
  rw [a1]
  generalize hT1 : stU (stU (stU T0 23 0 1) 24 0 0) 0 38 0 = T1
  have o23 : ∀ f, f ≠ 0 → f < 15625 → T1 23 f = 0 := fun f e hf => by rw [← hT1, stU_cell _ _ _ _ (by decide), stU_cell _ _ _ _ (by decide), stU_slot _ _ _ _ e]; exact a2 f hf
  have o230 : T1 23 0 = 1 := by rw [← hT1, stU_cell _ _ _ _ (by decide), stU_cell _ _ _ _ (by decide), stU_same]
  have o24 : T1 24 0 = 0 := by rw [← hT1, stU_cell _ _ _ _ (by decide), stU_same]
  have o38 : T1 0 38 = 0 := by rw [← hT1, stU_same]
  have oF : ∀ q f, q ≠ 23 → q ≠ 24 → (q = 0 → f ≠ 38) → T1 q f = T q f := fun q f e1 e2 e3 => by
    rw [← hT1]
    by_cases e : q = 0
    · rw [e, stU_slot _ _ _ _ (e3 e), stU_cell _ _ _ _ (by decide), stU_cell _ _ _ _ (by decide), a3 _ _ (by decide)]
    · rw [stU_cell _ _ _ _ e, stU_cell _ _ _ _ e2, stU_cell _ _ _ _ e1, a3 _ _ e1]
  clear hT1 a1 a3
  have h1 : CM m t T1 := CM_o h (oF _ _ (by decide) (by decide) (by decide)) (fun f => oF _ _ (by decide) (by decide) (fun e => absurd e (by decide)))
  have hB1 : BI L m c t T1 1 := by
    refine ⟨fun x hx => ?_, fun x hx e => ?_, fun k hk => ?_, ?_, fun i j hi hj _ => by omega⟩
    · by_cases e : x = 0
      · rw [e]; exact Or.inr o230
      · exact Or.inl (o23 x e hx)
    · by_cases e2 : x = 0
      · subst e2
        exact ⟨⟨Nat.pow_pos (by decide), RR_0 (fun i hi => (ht i hi).1)⟩, 0, by decide, by rw [o24]; rfl⟩
      · rw [o23 x e2 hx] at e; exact absurd e (by decide)
    · have : k = 0 := by omega
      subst this
      exact ⟨0, by decide, by rw [o24]; rfl, o230⟩
    · have := cn_new (f := fun _ => (0 : Int)) (g := fun x => if x = 0 then 1 else 0) (v := 1) (c := 0) (n := L) (by omega) (by decide) rfl (fun i hi => if_neg hi)
      rw [cn_nil (f := fun _ => (0 : Int)) (fun i _ => by decide)] at this
      rw [cn_congr (f := T1 23) (g := fun x => if x = 0 then 1 else 0) (fun i hi => ?_), this]
      · rfl
      · by_cases e : i = 0
        · subst e; rw [o230]; simp
        · rw [o23 i e (by omega)]; simp [e]
  obtain ⟨T', many', d1, d2, d3, d4, d5, d6⟩ := M_45 hL hm hc ht 15625 FU 0 1 T1 (by omega) (by omega) h1 hB1 (fun k hk => by omega) (by
    rw [o38]
    unfold SQ
    rw [cn_nil (fun i _ e => by obtain ⟨⟨k, h1, _⟩, _⟩ := ind_1.mp e; omega)]) (FU_lt (by omega))
  have d1 : dn_X9_walk_45 FU (c : Int) 0 1 T1 = some (T', ((many' : Nat) : Int)) := d1
  have hall : ∀ x : Nat, x < 5 ^ m → RR q5 m c t x → T' 23 x = 1 := by
    intro x
    induction x using Nat.strongRecOn with
    | ind x ih =>
      intro hx hR
      by_cases e : x = 0
      · rw [e]; exact d5 0 (by decide) o230
      · obtain ⟨y, i, h1, h2, h3, h4, h5, h6⟩ := RR_pre hc q5_p (by rw [wq]; exact hx) e hR
        have hy := ih y h2 (by omega) h4
        obtain ⟨_, k, k1, k2⟩ := d2.2.1 y (by have := p5_le hm; omega) hy
        have := d3 k k1 y k2 h5 i h1 h6
        rw [h3, wq]; exact this
  have hch : ∀ x, x < L → (T' 23 x = 1 ↔ (x < 5 ^ m ∧ RR q5 m c t x)) := fun x hx => ⟨fun e => (d2.2.1 x (by omega) e).1, fun e => hall x e.1 e.2⟩
  have hp := p5_le hm
  have cut : ∀ P : Nat → Prop, cn (fun x => ind (x < 5 ^ m ∧ P x)) 1 L = cn (fun x => ind (P x)) 1 (5 ^ m) := fun P => by
    obtain ⟨k, hk⟩ : ∃ k, L = 5 ^ m + k := ⟨L - 5 ^ m, by omega⟩
    rw [hk, cn_app, cn_nil (f := fun i => ind (5 ^ m + i < 5 ^ m ∧ P (5 ^ m + i))) (fun i _ e => by have := (ind_1.mp e).1; omega), Int.add_zero]
    refine cn_congr (fun i hi => ?_)
    rw [ind_1, ind_1]
    exact ⟨fun e => e.2, fun e => ⟨hi, e⟩⟩
  refine ⟨T', _, d1, ?_, ?_, fun q f e1 e2 e3 => by rw [d6 q f e1 e2 e3, oF q f e1 e2 e3]⟩
  · rw [d2.2.2.2.1]
    unfold fnd
    rw [← cut (RR q5 m c t)]
    exact cn_congr (fun i hi => by rw [ind_1]; exact hch i hi)
  · rw [d4]
    unfold SQ stk
    rw [← cut (fun x => RR q5 m c t x ∧ c ≤ tq q5 m t x)]
    refine cn_congr (fun i hi => ?_)
    rw [ind_1, ind_1]
    constructor
    · rintro ⟨⟨k, k1, k2⟩, k3⟩
      obtain ⟨f, f1, f2, f3⟩ := d2.2.2.1 k k1
      have e : f = i := Int.ofNat.inj (f2.symm.trans k2)
      rw [e] at f3
      have := (hch i hi).mp f3
      exact ⟨this.1, this.2, by omega⟩
    · rintro ⟨k1, k2, k3⟩
      obtain ⟨_, k, e1, e2⟩ := d2.2.1 i (by omega) ((hch i hi).mpr ⟨k1, k2⟩)
      have : tq q5 m t i ≤ c := k2.2.1
      exact ⟨⟨k, e1, e2⟩, by omega⟩
end WN
