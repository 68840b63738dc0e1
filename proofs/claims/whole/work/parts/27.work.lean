/-! Those who work -/
section WK
variable {Wk : (Nat → Int) → Int → Int → Int × Int} {S T S' T' : St} {e e2 b b2 : Int}
theorem X_cin {v : Int} (h : RE Wk e b S T) : ∀ (d i n : Nat), i + d = 60 → d < n → (i : Int) ≤ T 0 19 → dn_X6_callersIn_4 n v (cn (T 15) v i) (i : Int) S = some (S, cn (T 15) v (T 0 19).toNat) := by
  intro d
  induction d with
  | zero =>
    intro i n hd hn hi
    obtain ⟨n, rfl⟩ : ∃ q, n = q + 1 := ⟨n - 1, by omega⟩
    have hmr := many_rng h
    have hme := many_eq h
    rw [dn_X6_callersIn_4, if_pos (by omega), show (T 0 19).toNat = i by omega]
  | succ d ih =>
    intro i n hd hn hi
    obtain ⟨n, rfl⟩ : ∃ q, n = q + 1 := ⟨n - 1, by omega⟩
    have hmr := many_rng h
    have hme := many_eq h
    by_cases q0 : T 0 19 ≤ (i : Int)
    · rw [dn_X6_callersIn_4, if_pos (by omega), show (T 0 19).toNat = i by omega]
    · have c1 : ¬ S 4 5 ≤ (i : Int) := by omega
      have c2 : (0 : Int) ≤ (i : Int) ∧ (i : Int) < 60 := by omega
      have hs : S (i + 30) 6 = T 15 i := call_eq h (by omega) (by decide) (by decide)
      have nx := ih (i + 1) n (by omega) (by omega) (by omega)
      have r := cn_rng (T 15) v i
      have w : w32 (cn (T 15) v i + 1) = cn (T 15) v i + 1 := w32_id ⟨by omega, by omega⟩
      simp only [dn_X6_callersIn_4, c1, c2, hs, if_true, if_false, and_self, Int.toNat_natCast, nmV, w32_s (show i < 1000000 by omega), w]
      simp only [cn] at nx
      by_cases q : T 15 i = v
      · rw [if_pos q] at nx ⊢
        exact nx
      · rw [if_neg q] at nx ⊢
        rw [Int.add_zero] at nx
        exact nx
theorem X_callersIn {v : Int} (h : RE Wk e b S T) : dn_X6_callersIn v S = some (S, cn (T 15) v (T 0 19).toNat) := by
  have hmr := many_rng h
  exact X_cin h 60 0 FU (by omega) (FU_lt (by omega)) (by omega)
theorem M_mn {v : Int} (h : 0 ≤ T 0 19 ∧ T 0 19 ≤ 60) : ∀ (d i n : Nat), i + d = 60 → d < n → (i : Int) ≤ T 0 19 → dn_X9_many_4 n v (cn (T 15) v i) (i : Int) T = some (T, cn (T 15) v (T 0 19).toNat) := by
  intro d
  induction d with
  | zero =>
    intro i n hd hn hi
    obtain ⟨n, rfl⟩ : ∃ q, n = q + 1 := ⟨n - 1, by omega⟩
    rw [dn_X9_many_4, if_pos (by omega), show (T 0 19).toNat = i by omega]
  | succ d ih =>
    intro i n hd hn hi
    obtain ⟨n, rfl⟩ : ∃ q, n = q + 1 := ⟨n - 1, by omega⟩
    by_cases q0 : T 0 19 ≤ (i : Int)
    · rw [dn_X9_many_4, if_pos (by omega), show (T 0 19).toNat = i by omega]
    · have c2 : (0 : Int) ≤ (i : Int) ∧ (i : Int) < 60 := by omega
      have nx := ih (i + 1) n (by omega) (by omega) (by omega)
      have r := cn_rng (T 15) v i
      have w : w32 (cn (T 15) v i + 1) = cn (T 15) v i + 1 := w32_id ⟨by omega, by omega⟩
      simp only [dn_X9_many_4, q0, c2, if_true, if_false, and_self, Int.toNat_natCast, nmV, w32_s (show i < 1000000 by omega), w]
      simp only [cn] at nx
      by_cases q : T 15 i = v
      · rw [if_pos q] at nx ⊢
        exact nx
      · rw [if_neg q] at nx ⊢
        rw [Int.add_zero] at nx
        exact nx
theorem M_many {v : Int} (h : 0 ≤ T 0 19 ∧ T 0 19 ≤ 60) : dn_X9_many v T = some (T, cn (T 15) v (T 0 19).toNat) := M_mn h 60 0 FU (by omega) (FU_lt (by omega)) (by omega)
theorem cn_zero {f : Nat → Int} {v : Int} : ∀ {n : Nat}, cn f v n = 0 → ∀ i, i < n → f i ≠ v
  | 0, _, i, hi => by omega
  | n + 1, h, i, hi => by
    simp only [cn] at h
    have r := cn_rng f v n
    by_cases q : f n = v
    · rw [if_pos q] at h; omega
    · rw [if_neg q] at h
      by_cases z : i = n
      · subst z; exact q
      · exact cn_zero (n := n) (by omega) i (by omega)
theorem IV_16 {c : Nat} {x : Int} (h : IV e b T) (hx : 0 ≤ x ∧ x ≤ 1000) : IV e b (stU T 16 c x) := by
  have hT : ∀ k f, k ≠ 16 → stU T 16 c x k f = T k f := fun k f hk => stU_cell _ _ _ _ hk
  refine ⟨fun j hj => ?_, ?_, ?_, ?_⟩
  · have a := h.1 j hj
    unfold LI at a ⊢
    rw [hT 5 j (by decide), hT 6 j (by decide), hT 7 j (by decide), hT 15 _ (by decide), hT 0 _ (by decide)]
    exact a
  · have := h.2.1
    unfold UQ at this ⊢
    simp only [hT 5 _ (by decide), hT 7 _ (by decide)]
    exact this
  · have := h.2.2.1
    unfold IN at this ⊢
    simp only [hT 0 _ (by decide), hT 20 _ (by decide), hT 13 _ (by decide), hT 1 _ (by decide), hT 2 _ (by decide), hT 3 _ (by decide), hT 4 _ (by decide)]
    refine ⟨this.1, this.2.1, this.2.2.1, fun c2 hc2 => ⟨?_, (this.2.2.2.1 c2 hc2).2⟩, this.2.2.2.2⟩
    by_cases q : c2 = c
    · subst q; rw [stU_same]; exact hx
    · rw [stU_slot _ _ _ _ q]; exact (this.2.2.2.1 c2 hc2).1
  · rw [hT 0 24 (by decide)]; exact h.2.2.2
theorem Rt_call {c f : Nat} {x : Int} (h : Rt S T) (hf : f ≠ 6) : Rt (stU S (c + 30) f x) (stU T (f + 9) c x) :=
  Rt_same h (fun _ => stU_cell _ _ _ _ (by omega)) (stU_cell _ _ _ _ (by omega)) (stU_cell _ _ _ _ (by omega)) (stU_cell _ _ _ _ (by omega)) (fun _ => stU_cell _ _ _ _ (by omega))
theorem sim_work {x y z : Int} (hx : 1 ≤ x ∧ x ≤ 100) (hy : 1 ≤ y ∧ y ≤ 100) : ∀ (d i : Nat) (S T : St) (n m : Nat), i + d = 60 → RE Wk (-1) b S T → (x = y ∨ ∀ c : Nat, (c : Int) < T 0 19 → T 15 c ≠ 3) → d < n → d < m →
    ∃ S' T', dn_X6_doWork_15 n x (i : Int) S = some (S', 0) ∧ dn_X9_doWork_109 m z y (i : Int) T = some (T', 0) ∧ RE Wk (-1) b S' T' := by
  intro d
  induction d with
  | zero =>
    intro i S T n m hd h hxy hn hm
    obtain ⟨n, rfl⟩ : ∃ q, n = q + 1 := ⟨n - 1, by omega⟩
    obtain ⟨m, rfl⟩ : ∃ q, m = q + 1 := ⟨m - 1, by omega⟩
    have hmr := many_rng h
    have hme := many_eq h
    refine ⟨S, T, ?_, ?_, h⟩
    · rw [dn_X6_doWork_15, if_pos (by omega)]
    · rw [dn_X9_doWork_109, if_pos (by omega)]
  | succ d ih =>
    intro i S T n m hd h hxy hn hm
    obtain ⟨n, rfl⟩ : ∃ q, n = q + 1 := ⟨n - 1, by omega⟩
    obtain ⟨m, rfl⟩ : ∃ q, m = q + 1 := ⟨m - 1, by omega⟩
    have hmr := many_rng h
    have hme := many_eq h
    by_cases q0 : T 0 19 ≤ (i : Int)
    · refine ⟨S, T, ?_, ?_, h⟩
      · rw [dn_X6_doWork_15, if_pos (by omega)]
      · rw [dn_X9_doWork_109, if_pos (by omega)]
    · have c1 : ¬ S 4 5 ≤ (i : Int) := by omega
      have c2 : (0 : Int) ≤ (i : Int) ∧ (i : Int) < 60 := by omega
      have hi60 : i < 60 := by omega
      have hs : S (i + 30) 6 = T 15 i := call_eq h hi60 (by decide) (by decide)
      have hl : S (i + 30) 7 = T 16 i := call_eq h hi60 (by decide) (by decide)
      have hlr := (h.2.2.2.2.1.2.2.2.1 i hi60).1
      simp only [dn_X6_doWork_15, dn_X9_doWork_109, c1, q0, c2, hs, hl, if_true, if_false, and_self, Int.toNat_natCast, nmV, nmS, w32_s (show i < 1000000 by omega)]
      by_cases q3 : T 15 i = 3
      · simp only [q3, if_true]
        have hxe : x = y := by
          rcases hxy with z | z
          · exact z
          · exact absurd q3 (z i (by omega))
        subst hxe
        have w : w32 (T 16 i - x) = T 16 i - x := w32_id ⟨by omega, by omega⟩
        have key : ∀ v, 0 ≤ v ∧ v ≤ 1000 → ∃ S' T', dn_X6_doWork_15 n x ((i + 1 : Nat) : Int) (stU S (i + 30) 7 v) = some (S', 0) ∧ dn_X9_doWork_109 m z x ((i + 1 : Nat) : Int) (stU T 16 i v) = some (T', 0) ∧ RE Wk (-1) b S' T' := fun v hv =>
          ih (i + 1) _ _ n m (by omega) ⟨R0_call (f := 7) hi60 (by decide) h.1, Rt_call (f := 7) h.2.1 (by decide), IV_16 h.2.2 hv⟩ (Or.inl rfl) (by omega) (by omega)
        by_cases q : T 16 i ≤ x
        · have e : mxI 0 (w32 (T 16 i - x)) = 0 := by rw [w]; unfold mxI; rw [if_neg (by omega)]
          rw [e, if_pos q]
          exact key 0 (by omega)
        · have e : mxI 0 (w32 (T 16 i - x)) = T 16 i - x := by rw [w]; unfold mxI; rw [if_pos (by omega)]
          rw [e, if_neg q, w]
          exact key _ (by omega)
      · simp only [q3, if_false]
        exact ih (i + 1) S T n m (by omega) h hxy (by omega) (by omega)
theorem M_cnt : ∀ (d i n : Nat), i + d = 60 → d < n → 0 ≤ T 0 19 ∧ T 0 19 ≤ 60 → (i : Int) ≤ T 0 19 → dn_X9_doWork_62 n (cn (T 15) 3 i) (i : Int) T = (if cn (T 15) 3 (T 0 19).toNat ≤ 12 then dn_X9_doWork_109 FU (cn (T 15) 3 (T 0 19).toNat) (T 4 (cn (T 15) 3 (T 0 19).toNat).toNat) 0 T else dn_X9_doWork_109 FU (cn (T 15) 3 (T 0 19).toNat) (T 4 12) 0 T) := by
  intro d
  induction d with
  | zero =>
    intro i n hd hn hmr hi
    obtain ⟨n, rfl⟩ : ∃ q, n = q + 1 := ⟨n - 1, by omega⟩
    have r := cn_rng (T 15) 3 i
    rw [dn_X9_doWork_62, if_pos (by omega), show (T 0 19).toNat = i by omega]
    by_cases q : cn (T 15) 3 i ≤ 12
    · rw [if_pos q, if_pos q, if_pos (by omega)]; rfl
    · rw [if_neg q, if_neg q]; rfl
  | succ d ih =>
    intro i n hd hn hmr hi
    obtain ⟨n, rfl⟩ : ∃ q, n = q + 1 := ⟨n - 1, by omega⟩
    have r := cn_rng (T 15) 3 i
    by_cases q0 : T 0 19 ≤ (i : Int)
    · rw [dn_X9_doWork_62, if_pos (by omega), show (T 0 19).toNat = i by omega]
      by_cases q : cn (T 15) 3 i ≤ 12
      · rw [if_pos q, if_pos q, if_pos (by omega)]; rfl
      · rw [if_neg q, if_neg q]; rfl
    · have c2 : (0 : Int) ≤ (i : Int) ∧ (i : Int) < 60 := by omega
      have nx := ih (i + 1) n (by omega) (by omega) hmr (by omega)
      have w : w32 (cn (T 15) 3 i + 1) = cn (T 15) 3 i + 1 := w32_id ⟨by omega, by omega⟩
      rw [dn_X9_doWork_62, if_neg q0, if_pos c2]
      simp only [Int.toNat_natCast, nmV, w32_s (show i < 1000000 by omega), w]
      rw [← nx]
      simp only [cn]
      by_cases q : T 15 i = 3
      · rw [if_pos q, if_pos q]
      · rw [if_neg q, if_neg q, Int.add_zero]
theorem ph_work (h : RE Wk (-1) b S T) (hb : b + 780 ≤ 2147483000) : ∃ S1 S' T', dn_X6_failBroken S = some (S1, 0) ∧ dn_X6_doWork S1 = some (S', 0) ∧ dn_X9_doWork T = some (T', 0) ∧ RE Wk (-1) (b + 780) S' T' := by
  obtain ⟨S1, T1, a1, a2, a3⟩ := sim_fail 60 0 b S T FU FU (by omega) (by omega) h (FU_lt (by omega)) (FU_lt (by omega))
  have hmr := many_rng a3
  have r := cn_rng (T1 15) 3 (T1 0 19).toNat
  have hc := M_cnt (T := T1) 60 0 FU (by omega) (FU_lt (by omega)) hmr (by omega)
  have hc : dn_X9_doWork_62 FU 0 0 T1 = _ := hc
  have hX := X_callersIn (v := 3) a3
  have hsp := a3.1.2.2.2.1.2.1
  have hspr := a3.2.2.2.2.1.2.2.2.2.2.2.2.2.2.2.1
  generalize hk : cn (T1 15) 3 (T1 0 19).toNat = k at r hc hX
  -- the class's speed
  have hS : ∃ x, dn_X7_speedOf k S1 = some (S1, x) ∧ (1 ≤ x ∧ x ≤ 100) ∧ ((1 ≤ k → k ≤ 12 → x = T1 4 k.toNat) ∧ (12 < k → x = T1 4 12)) := by
    unfold dn_X7_speedOf
    have hq : ∃ q : Nat, q < 12 ∧ w32 (mxI 1 (mnI k 12) - 1) = q ∧ (1 ≤ k → k ≤ 12 → q + 1 = k.toNat) ∧ (12 < k → q = 11) := by
      unfold mxI mnI
      by_cases z1 : 12 < k
      · refine ⟨11, by omega, ?_, by omega, fun _ => rfl⟩
        rw [if_pos z1, if_pos (by decide)]; decide
      · by_cases z2 : 1 < k
        · refine ⟨(k - 1).toNat, by omega, ?_, by omega, by omega⟩
          rw [if_neg z1, if_pos z2, w32_id ⟨by omega, by omega⟩]; omega
        · refine ⟨0, by omega, ?_, by omega, by omega⟩
          rw [if_neg z1, if_neg z2]; decide
    obtain ⟨q, q1, q2, q3, q4⟩ := hq
    rw [q2, if_pos (by omega), Int.toNat_natCast]
    refine ⟨_, rfl, ?_, ?_, ?_⟩
    · rw [hsp q q1]; exact hspr (q + 1) (by omega)
    · intro z1 z2; rw [hsp q q1, q3 z1 z2]
    · intro z1; rw [hsp q q1, q4 z1]
  obtain ⟨x, x1, x2, x3, x4⟩ := hS
  have hM : ∃ y, dn_X9_doWork_62 FU 0 0 T1 = dn_X9_doWork_109 FU k y 0 T1 ∧ (1 ≤ y ∧ y ≤ 100) ∧ (x = y ∨ k = 0) := by
    by_cases q : k ≤ 12
    · rw [if_pos q] at hc
      refine ⟨_, hc, hspr k.toNat (by omega), ?_⟩
      by_cases z : 1 ≤ k
      · exact Or.inl (x3 z q)
      · exact Or.inr (by omega)
    · rw [if_neg q] at hc
      exact ⟨_, hc, hspr 12 (by omega), Or.inl (x4 (by omega))⟩
  obtain ⟨y, y1, y2, y3⟩ := hM
  obtain ⟨S', T', b1, b2, b3⟩ := sim_work (z := k) x2 y2 60 0 S1 T1 FU FU (by omega) a3 (by
    rcases y3 with z | z
    · exact Or.inl z
    · refine Or.inr (fun c hc2 => cn_zero (n := (T1 0 19).toNat) (by rw [hk]; exact z) c (by omega))) (FU_lt (by omega)) (FU_lt (by omega))
  refine ⟨S1, S', T', a1, ?_, ?_, b3⟩
  · unfold dn_X6_doWork
    rw [hX]
    simp only [cal, Option.bind]
    rw [x1]
    exact b1
  · show dn_X9_doWork_2 FU 0 T = _
    have a2 : dn_X9_doWork_2 FU 0 T = _ := a2
    rw [a2, y1]
    exact b2
end WK
