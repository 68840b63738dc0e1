/-! Lines opened -/
section OPN
variable {Wk : (Nat → Int) → Int → Int → Int × Int} {S T S' T' : St} {e e2 b b2 : Int}
theorem op_new {i : Nat} (hi : i < 12) (h : RE Wk (-1) b S T) (hb : b ≤ 2147483000) (h0 : T 5 i = 0) (k : Int → St → Option (St × Int)) :
    ∃ S1 T1, dn_X6_openLine (i : Int) S = some (S1, 0) ∧ RE Wk (-1) (b + 1) S1 T1 ∧ nl T1 = nl T + 1 ∧ nw T1 = nw T ∧ (∀ q, T1 1 q = T 1 q) ∧ (∀ j, j ≠ i → T1 5 j = T 5 j) ∧ T1 5 i ≠ 0 ∧ (∀ m, dn_X9_tend_142 k (m + 1) (i : Int) T = k (i : Int) T1) := by
  have hv := ev_of h hb
  have hnw := now_eq h
  have h6 := (line_i h hi).2.2.1 h0
  have c1 : (0 : Int) ≤ (i : Int) ∧ (i : Int) < 12 := by omega
  have hx := h.2.2.2.2.1.2.2.2.2.2.1
  have eT : stU T 6 i 0 = T := by
    funext k f
    unfold stU
    by_cases q1 : k = 6 <;> by_cases q2 : f = i <;> simp [q1, q2]
    exact h6.symm
  have ev1 : 0 ≤ stU T 0 26 (w32 (T 0 26 + 1)) 0 24 ∧ stU T 0 26 (w32 (T 0 26 + 1)) 0 24 ≤ 2147483000 := by rw [stU_slot _ _ _ _ (by decide)]; exact hv.1
  -- behind the log
  let S2 := lgX 6 (T 0 4) (-1) i S
  let T2 := lgM 6 (-1) i (stU T 0 26 (w32 (T 0 26 + 1)))
  have t0 : ∀ f, f ≠ 24 → f ≠ 26 → T2 0 f = T 0 f := fun f a b => by simp [T2, lgM, stU, a, b]
  have tk : ∀ q f, q ≠ 0 → q ≠ 21 → T2 q f = T q f := fun q f a b => by simp [T2, lgM, stU, a, b]
  have sk : ∀ q f, q ≠ 10 → q ≠ 11 → q ≠ 12 → S2 q f = S q f := fun q f a b c => by simp [S2, lgX, stU, a, b, c]
  have r2 : R0 Wk S2 T2 := by
    refine R0_log (by rw [stU_slot _ _ _ _ (by decide)]) ?_
    refine R0_glob h.1 (fun _ _ _ => rfl) (fun q f hq => stU_cell _ _ _ _ hq) (stU_slot _ _ _ _ (by decide)) ?_
    have g := h.1.2.2.1
    unfold Rg at g ⊢
    simpa [stU] using g
  have ht2 : Rt S2 T2 := by
    have ht := h.2.1
    have e15 : T2 15 = T 15 := funext (fun c => tk 15 c (by decide) (by decide))
    have e26 : T2 0 26 = w32 (T 0 26 + 1) := by simp [T2, lgM, stU]
    have s6 : S2 12 6 = w32 (S 12 6 + 1) := by simp [S2, lgX, stU]
    have s : ∀ f, f ≠ 6 → S2 12 f = S 12 f := fun f hf => by simp [S2, lgX, stU, hf]
    unfold Rt at ht ⊢
    rw [e15, e26, s6, s 7 (by decide), s 2 (by decide), s 3 (by decide), s 4 (by decide), s 5 (by decide), t0 27 (by decide) (by decide), t0 19 (by decide) (by decide), ht.1]
    exact ⟨rfl, ht.2⟩
  have iv2 : IV (-1) (b + 1) T2 := by
    refine IV_log ?_
    have hT : ∀ k f, k ≠ 0 → stU T 0 26 (w32 (T 0 26 + 1)) k f = T k f := fun k f hk => stU_cell _ _ _ _ hk
    have h0' : ∀ f, f ≠ 26 → stU T 0 26 (w32 (T 0 26 + 1)) 0 f = T 0 f := fun f hf => stU_slot _ _ _ _ hf
    refine ⟨fun j hj => ?_, ?_, ?_, ?_⟩
    · have a := h.2.2.1 j hj
      unfold LI at a ⊢
      rw [hT 5 j (by decide), hT 6 j (by decide), hT 7 j (by decide), hT 15 _ (by decide), h0' 19 (by decide)]
      exact a
    · have := h.2.2.2.1
      unfold UQ at this ⊢
      simp only [hT 5 _ (by decide), hT 7 _ (by decide)]
      exact this
    · have := h.2.2.2.2.1
      unfold IN at this ⊢
      simp only [h0' 19 (by decide), h0' 22 (by decide), hT 20 _ (by decide), hT 16 _ (by decide), hT 13 _ (by decide), hT 1 _ (by decide), hT 2 _ (by decide), hT 3 _ (by decide), hT 4 _ (by decide)]
      exact this
    · rw [h0' 24 (by decide)]; exact h.2.2.2.2.2
  have hRE2 : RE Wk (-1) (b + 1) S2 T2 := ⟨r2, ht2, iv2⟩
  have n46 : S2 4 6 = T 0 4 := by rw [sk 4 6 (by decide) (by decide) (by decide)]; exact hnw
  have hn1 : dn_X7_number 1 S = some (S, T 1 1) := X_num h (k := 1) (by decide)
  have hX : dn_X6_openLine (i : Int) S = (if T 1 1 ≤ 0 then some (becX i 2 (-1) 0 (T 0 4) S2, 0) else some (becX i 1 (-1) (T 1 1) 0 S2, 0)) := by
    unfold dn_X6_openLine
    rw [hn1, cal_s, if_pos c1, hnw, Int.toNat_natCast, X_add hv.2 (by decide), cal_s]
    show (if T 1 1 ≤ 0 then cal (dn_X3_idleFrom (i : Int) (S2 4 6) S2) _ else cal (dn_X3_openFor (i : Int) (T 1 1) S2) _) = _
    rw [n46, X_idle, X_open, cal_s, cal_s]
  have hM : ∀ m, dn_X9_tend_142 k (m + 1) (i : Int) T = (if T 1 1 = 0 then k (i : Int) (reM i T2) else k (i : Int) (stU (stU T2 5 i 1) 8 i (T 1 1))) := fun m => by
    rw [dn_X9_tend_142, if_pos c1, Int.toNat_natCast, if_pos (by omega)]
    simp only [nmS, eT]
    rw [M_say ev1, cal_s]
    show (if T2 1 1 = 0 then cal (dn_X9_rest (i : Int) T2) _ else k (i : Int) (stU (stU T2 5 i 1) 8 i (stU T2 5 i 1 1 1))) = _
    have e1 : stU T2 5 i 1 1 1 = T 1 1 := by rw [stU_cell _ _ _ _ (by decide)]; exact tk 1 1 (by decide) (by decide)
    rw [M_rest hi, cal_s, e1, tk 1 1 (by decide) (by decide)]
  have t5 : ∀ j, T2 5 j = T 5 j := fun j => tk 5 j (by decide) (by decide)
  -- what follows of where the line is
  have fin : ∀ T1 : St, (∀ q f, q ≠ 5 → q ≠ 8 → q ≠ 9 → T1 q f = T2 q f) → (∀ j, j ≠ i → T1 5 j = T 5 j) → (T1 5 i = 1 ∨ T1 5 i = 2) → nl T1 = nl T + 1 ∧ nw T1 = nw T ∧ (∀ q, T1 1 q = T 1 q) ∧ T1 5 i ≠ 0 := fun T1 o o5 oi => by
    refine ⟨?_, ?_, fun q => by rw [o 1 q (by decide) (by decide) (by decide)]; exact tk 1 q (by decide) (by decide), by omega⟩
    · have := cn_less (f := T 5) (g := T1 5) (v := 0) (c := i) (n := 12) hi h0 (by omega) o5
      unfold nl
      omega
    · have a : ∀ v, v = 3 ∨ v = 4 → cn (T1 5) v 12 = cn (T 5) v 12 := fun v hv => cn_congr (fun j _ => by
        by_cases q : j = i
        · subst q; omega
        · rw [o5 j q])
      have b15 : T1 15 = T 15 := funext (fun c => by rw [o 15 c (by decide) (by decide) (by decide)]; exact tk 15 c (by decide) (by decide))
      have b19 : T1 0 19 = T 0 19 := by rw [o 0 19 (by decide) (by decide) (by decide)]; exact t0 19 (by decide) (by decide)
      unfold nw
      rw [a 3 (by decide), a 4 (by decide), b15, b19]
  by_cases q : T 1 1 = 0
  · have f := fin (reM i T2) (fun q f a b c => by unfold reM; rw [stU_cell _ _ _ _ c, stU_cell _ _ _ _ a]) (fun j hj => by rw [re_off (by omega)]; exact t5 j) (Or.inr (by simp [reM, stU]))
    refine ⟨becX i 2 (-1) 0 (T 0 4) S2, reM i T2, by rw [hX, if_pos (by omega)], ?_, f.1, f.2.1, f.2.2.1, fun j hj => by rw [re_off (by omega)]; exact t5 j, f.2.2.2, fun m => by rw [hM m, if_pos q]⟩
    have hoff : ∀ k f, (k < 5 ∨ 9 < k ∨ f ≠ i) → reM i T2 k f = T2 k f := fun k f hk => re_off (by omega)
    refine ⟨R0_line hi r2 (fun k f hk => becX_off hk) hoff ?_, Rt_same ht2 (fun f => becX_off (by omega)) (hoff 0 _ (by omega)) (hoff 0 _ (by omega)) (hoff 0 _ (by omega)) (fun c => hoff 15 _ (by omega)), IV_rest hi iv2⟩
    have := r2.1 i hi
    have e04 : T2 0 4 = T 0 4 := t0 4 (by decide) (by decide)
    unfold LR at this ⊢
    simp [becX, stU, reM, e04, this]
  · have hoff : ∀ k f, (k < 5 ∨ 9 < k ∨ f ≠ i) → stU (stU T2 5 i 1) 8 i (T 1 1) k f = T2 k f := fun k f hk => by
      unfold stU
      by_cases q5 : k = 5 <;> by_cases q8 : k = 8 <;> by_cases qf : f = i <;> simp [q5, q8, qf] <;> omega
    have f := fin (stU (stU T2 5 i 1) 8 i (T 1 1)) (fun q f a b c => by rw [stU_cell _ _ _ _ b, stU_cell _ _ _ _ a]) (fun j hj => by rw [hoff 5 j (by omega)]; exact t5 j) (Or.inl (by simp [stU]))
    refine ⟨becX i 1 (-1) (T 1 1) 0 S2, _, by rw [hX, if_neg (by omega)], ?_, f.1, f.2.1, f.2.2.1, fun j hj => by rw [hoff 5 j (by omega)]; exact t5 j, f.2.2.2, fun m => by rw [hM m, if_neg q]⟩
    refine ⟨R0_line hi r2 (fun k f hk => becX_off hk) hoff ?_, Rt_same ht2 (fun f => becX_off (by omega)) (hoff 0 _ (by omega)) (hoff 0 _ (by omega)) (hoff 0 _ (by omega)) (fun c => hoff 15 _ (by omega)), ?_⟩
    · have := r2.1 i hi
      unfold LR at this ⊢
      simp [becX, stU, this]
    · refine IV_line hi iv2 (fun k f _ _ hk => hoff k f hk) (hoff 0 _ (by omega)) (hoff 0 _ (by omega)) (by rw [hoff 0 _ (by omega)]; exact iv2.2.2.2) ?_ ?_
      · have := iv2.1 i hi
        unfold LI at this ⊢
        simp [stU]
        exact this.2.1
      · intro q9
        simp [stU] at q9
theorem M_find {k : Int → St → Option (St × Int)} {i : Nat} (hi : i < 12) (hp : ∀ j, j < i → 0 < T 5 j) : ∀ (d j m : Nat), j + d = i → dn_X9_tend_142 k (m + 1 + d) (j : Int) T = dn_X9_tend_142 k (m + 1) (i : Int) T := by
  intro d
  induction d with
  | zero =>
    intro j m hd
    rw [show j = i by omega]
  | succ d ih =>
    intro j m hd
    have nx := ih (j + 1) m (by omega)
    have hj := hp j (by omega)
    have c2 : (0 : Int) ≤ (j : Int) ∧ (j : Int) < 12 := by omega
    rw [show m + 1 + (d + 1) = (m + 1 + d) + 1 by omega, dn_X9_tend_142, if_pos c2, Int.toNat_natCast, if_neg (by omega)]
    simp only [nmV, w32_s (show j < 1000000 by omega)]
    exact nx
theorem FU_add {i : Nat} (h : i < 12) : ∃ m, FU = m + 1 + i := ⟨19999 - i, by unfold FU; omega⟩
/-- what the reference aims at -/
def am (T : St) : Int := mnI (T 1 0) (mxI (T 1 5) (nw T))
theorem M_103 (h : RE Wk (-1) b S T) {x : Int} {m : Nat} : dn_X9_tend_103 (m + 1) x T = (if nl T < am T then dn_X9_tend_142 (fun x1_ S_ => dn_X9_tend_103 m x1_ S_) FU 0 T else some (T, 0)) := by
  rw [dn_X9_tend_103, M_lines (l_nn h), cal_s, M_lines (l_nn h), cal_s, M_lines (l_nn h), cal_s, M_wanted h, cal_s]
  have key : nl T < am T ↔ (nl T < T 1 0 ∧ (nl T < T 1 5 ∨ nl T < nw T)) := by
    unfold am mnI mxI
    by_cases z : T 1 5 < nw T
    · rw [if_pos z]; split <;> omega
    · rw [if_neg z]; split <;> omega
  by_cases q1 : T 1 0 ≤ nl T
  · rw [if_pos q1, if_neg (fun z => by have := key.mp z; omega)]
  · rw [if_neg q1]
    by_cases q2 : nl T < T 1 5
    · rw [if_pos q2, if_pos (key.mpr ⟨by omega, Or.inl q2⟩)]
    · rw [if_neg q2]
      by_cases q3 : nw T ≤ nl T
      · rw [if_pos q3, if_neg (fun z => by have := key.mp z; omega)]
      · rw [if_neg q3, if_pos (key.mpr ⟨by omega, Or.inr (by omega)⟩)]
theorem sim_open {y1 y2 : Int} : ∀ (d i : Nat) (b : Int) (S T : St) (n m : Nat) (x : Int), i + d = 12 → b + d ≤ 2147483000 → RE Wk (-1) b S T → (∀ j, j < i → 0 < T 5 j) → d < n → d < m →
    ∃ S' T', dn_X6_openWanted_52 n y1 y2 (am T - nl T) (i : Int) S = some (S', 0) ∧ dn_X9_tend_103 m x T = some (T', 0) ∧ RE Wk (-1) (b + d) S' T' := by
  intro d
  induction d with
  | zero =>
    intro i b S T n m x hd hb h hp hn hm
    obtain ⟨n, rfl⟩ : ∃ q, n = q + 1 := ⟨n - 1, by omega⟩
    obtain ⟨m, rfl⟩ : ∃ q, m = q + 1 := ⟨m - 1, by omega⟩
    refine ⟨S, T, ?_, ?_, by simpa using h⟩
    · rw [dn_X6_openWanted_52, if_pos (by omega)]
    · rw [M_103 h, if_neg]
      have h10 := h.2.2.2.2.1.2.2.2.2.1
      have : cn (T 5) 0 12 = 0 := by
        have r := cn_rng (T 5) 0 12
        rcases (show cn (T 5) 0 12 = 0 ∨ 1 ≤ cn (T 5) 0 12 by omega) with z | z
        · exact z
        · exfalso
          have : cn (T 5) 0 12 = cn (fun _ => 1) 0 12 := cn_congr (fun j hj => by have := hp j (by omega); constructor <;> intro y <;> omega)
          rw [this] at z
          simp [cn] at z
      unfold am mnI nl
      split <;> omega
  | succ d ih =>
    intro i b S T n m x hd hb h hp hn hm
    obtain ⟨n, rfl⟩ : ∃ q, n = q + 1 := ⟨n - 1, by omega⟩
    obtain ⟨m, rfl⟩ : ∃ q, m = q + 1 := ⟨m - 1, by omega⟩
    have hi : i < 12 := by omega
    by_cases q0 : am T - nl T ≤ 0
    · refine ⟨S, T, ?_, ?_, RE_b h (by omega)⟩
      · rw [dn_X6_openWanted_52, if_neg (by omega), if_pos q0]
      · rw [M_103 h, if_neg (by omega)]
    · have c1 : ¬ (12 : Int) ≤ (i : Int) := by omega
      have c2 : (0 : Int) ≤ (i : Int) ∧ (i : Int) < 12 := by omega
      have hs := st_eq h hi
      have hnr := nl_rng T
      have h10 := h.2.2.2.2.1.2.2.2.2.1
      have har : am T ≤ 12 := by unfold am mnI; split <;> omega
      have h5 := l_nn h i hi
      rw [dn_X6_openWanted_52, if_neg c1, if_neg q0, if_pos c2]
      simp only [Int.toNat_natCast, hs, nmV, w32_s (show i < 1000000 by omega)]
      by_cases q : T 5 i = 0
      · rw [if_pos q]
        obtain ⟨S1, T1, a1, a2, a3, a4, a5, a6, a7, a8⟩ := op_new hi h (by omega) q (fun x1_ S_ => dn_X9_tend_103 m x1_ S_)
        rw [a1, cal_s, w32_id (show r32 (am T - nl T + -1) from ⟨by omega, by omega⟩)]
        have eam : am T1 = am T := by unfold am; rw [a5 0, a5 5, a4]
        have e1 : am T - nl T + -1 = am T1 - nl T1 := by rw [eam, a3]; omega
        rw [e1, M_103 h, if_pos (by omega)]
        obtain ⟨m2, hm2⟩ := FU_add hi
        have hf := M_find (T := T) (k := fun x1_ S_ => dn_X9_tend_103 m x1_ S_) hi hp i 0 m2 (by omega)
        rw [← hm2] at hf
        have hf : dn_X9_tend_142 (fun x1_ S_ => dn_X9_tend_103 m x1_ S_) FU 0 T = _ := hf
        rw [hf, a8]
        obtain ⟨S', T', r1, r2, r3⟩ := ih (i + 1) (b + 1) S1 T1 n m (i : Int) (by omega) (by omega) a2 (fun j hj => by
          by_cases qj : j = i
          · subst qj
            have := l_nn a2 j hi
            omega
          · rw [a6 j qj]; exact hp j (by omega)) (by omega) (by omega)
        exact ⟨S', T', r1, r2, RE_b r3 (by omega)⟩
      · rw [if_neg q]
        obtain ⟨S', T', r1, r2, r3⟩ := ih (i + 1) b S T n (m + 1) x (by omega) (by omega) h (fun j hj => by
          by_cases qj : j = i
          · subst qj; omega
          · exact hp j (by omega)) (by omega) (by omega)
        exact ⟨S', T', r1, r2, RE_b r3 (by omega)⟩
theorem ph_tend (h : RE Wk (-1) b S T) (hb : b + 36 ≤ 2147483000) : ∃ S1 S2 S' T', dn_X6_closeRested S = some (S1, 0) ∧ dn_X6_closeSurplus S1 = some (S2, 0) ∧ dn_X6_openWanted S2 = some (S', 0) ∧ dn_X9_tend T = some (T', 0) ∧ RE Wk (-1) (b + 36) S' T' := by
  have w : ∀ {T : St} {x : Int}, 0 ≤ x → x ≤ 1000 → w32 (nl T - x) = nl T - x := fun {T} {x} a c => by
    have := nl_rng T
    exact w32_id ⟨by omega, by omega⟩
  obtain ⟨S1, T1, a1, a2, a3⟩ := sim_rested 12 0 b S T FU FU (by omega) (by omega) h (FU_lt (by omega)) (FU_lt (by omega))
  obtain ⟨S2, T2, b1, b2, b3⟩ := sim_surp 12 (b + 12) S1 T1 FU FU (by omega) (by omega) a3 (FU_lt (by omega)) (FU_lt (by omega))
  obtain ⟨S', T', c1, c2, c3⟩ := sim_open (y1 := nw T2) (y2 := am T2) 12 0 (b + 12 + 12) S2 T2 FU FU (-1) (by omega) (by omega) b3 (fun j hj => by omega) (FU_lt (by omega)) (FU_lt (by omega))
  refine ⟨S1, S2, S', T', ?_, ?_, ?_, ?_, RE_b c3 (by omega)⟩
  · have n5 : dn_X7_number 5 S = some (S, T 1 5) := X_num h (k := 5) (by decide)
    have r5 := h.2.2.2.2.1.2.2.2.2.2.2.2.2.2.1
    unfold dn_X6_closeRested
    rw [X_there h, cal_s, n5, cal_s, w (by omega) (by omega)]
    exact a1
  · have n0 : dn_X7_number 0 S1 = some (S1, T1 1 0) := X_num a3 (k := 0) (by decide)
    have r0 := a3.2.2.2.2.1.2.2.2.2.1
    unfold dn_X6_closeSurplus
    rw [X_there a3, cal_s, n0, cal_s, w (by omega) (by omega)]
    exact b1
  · have n0 : dn_X7_number 0 S2 = some (S2, T2 1 0) := X_num b3 (k := 0) (by decide)
    have n5 : dn_X7_number 5 S2 = some (S2, T2 1 5) := X_num b3 (k := 5) (by decide)
    have r3 := cn_rng (T2 5) 3 12
    have r4 := cn_rng (T2 5) 4 12
    have r1 := cn_rng (T2 15) 1 (T2 0 19).toNat
    have hm := many_rng b3
    have q0 := b3.2.2.2.2.1.2.2.2.2.1
    have q5 := b3.2.2.2.2.1.2.2.2.2.2.2.2.2.2.1
    have hnl := nl_rng T2
    have hW : w32 (w32 (cn (T2 5) 4 12 + cn (T2 5) 3 12) + cn (T2 15) 1 (T2 0 19).toNat) = nw T2 := by
      rw [w32_id (x := cn (T2 5) 4 12 + cn (T2 5) 3 12) ⟨by omega, by omega⟩, w32_id ⟨by omega, by omega⟩]
      unfold nw; omega
    have hnwr : 0 ≤ nw T2 := by unfold nw; omega
    have har : 0 ≤ am T2 ∧ am T2 ≤ 12 := by unfold am mnI mxI; constructor <;> (split <;> (try split) <;> omega)
    unfold dn_X6_openWanted
    rw [X_linesIn b3, cal_s, X_linesIn b3, cal_s, X_callersIn b3, cal_s]
    simp only [nmV]
    rw [hW, n0, cal_s, n5, cal_s, X_there b3, cal_s]
    show dn_X6_openWanted_52 FU (nw T2) (am T2) (w32 (am T2 - nl T2)) 0 S2 = _
    rw [w32_id (show r32 (am T2 - nl T2) from ⟨by omega, by omega⟩)]
    exact c1
  · have a2 : dn_X9_tend T = _ := a2
    have b2 : dn_X9_tend_65 FU 11 T1 = _ := b2
    rw [a2, b2]
    exact c2
end OPN
