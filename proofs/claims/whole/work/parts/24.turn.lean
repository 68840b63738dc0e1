/-! Lending, and the slots' turn -/
theorem lgX_4 {k t c s x : Int} {S : St} {q : Nat} : lgX k t c s (stU S 4 q x) = stU (lgX k t c s S) 4 q x := by
  funext a f
  simp only [lgX, stU]
  by_cases h4 : a = 4
  · subst h4; simp
  · simp [h4]
section TU
variable {Wk : (Nat → Int) → Int → Int → Int × Int} {S T S' T' : St} {e e2 b b2 : Int}
theorem Rt_same' (h : Rt S T) (hS : ∀ f, 2 ≤ f ∧ f ≤ 7 → S' 12 f = S 12 f) (h26 : T' 0 26 = T 0 26) (h27 : T' 0 27 = T 0 27) (h19 : T' 0 19 = T 0 19) (h15 : ∀ c, T' 15 c = T 15 c) : Rt S' T' := by
  have e15 : T' 15 = T 15 := funext h15
  unfold Rt at h ⊢
  simp only [hS 2 (by decide), hS 3 (by decide), hS 4 (by decide), hS 5 (by decide), hS 6 (by decide), hS 7 (by decide), h26, h27, h19, e15]
  exact h
theorem RE_glob (h : RE Wk e b S T) (hS : ∀ k f, k ≠ 4 → S' k f = S k f) (hT : ∀ k f, k ≠ 0 → T' k f = T k f) (h0 : ∀ f, f = 19 ∨ f = 22 ∨ f = 24 ∨ f = 26 ∨ f = 27 ∨ f = 32 → T' 0 f = T 0 f) (hG : Rg S' T') : RE Wk e b S' T' := by
  obtain ⟨h1, h2, h3⟩ := h
  refine ⟨R0_glob h1 hS hT (h0 32 (by omega)) hG, Rt_same h2 (fun f => hS 12 f (by omega)) (h0 26 (by omega)) (h0 27 (by omega)) (h0 19 (by omega)) (fun c => hT 15 c (by omega)), fun j hj => ?_, ?_, ?_, ?_⟩
  · have a := h3.1 j hj
    unfold LI at a ⊢
    rw [hT 5 j (by omega), hT 6 j (by omega), hT 7 j (by omega), hT 15 _ (by omega), h0 19 (by omega)]
    exact a
  · have := h3.2.1
    unfold UQ at this ⊢
    simp only [hT 5 _ (by decide), hT 7 _ (by decide)]
    exact this
  · have := h3.2.2.1
    unfold IN at this ⊢
    simp only [h0 19 (by omega), h0 22 (by omega), hT 20 _ (by decide), hT 16 _ (by decide), hT 13 _ (by decide), hT 1 _ (by decide), hT 2 _ (by decide), hT 3 _ (by decide), hT 4 _ (by decide)]
    exact this
  · rw [h0 24 (by omega)]; exact h3.2.2.2
theorem Rt_log {k t c s : Int} (hk : k = 0 ∨ k = 1 ∨ k = 8) (h : Rt S T) : Rt (lgX k t c s S) (lgM k c s T) := by
  refine Rt_same' h (fun f hf => ?_) (by simp [lgM, stU]) (by simp [lgM, stU]) (by simp [lgM, stU]) (fun c2 => by simp [lgM, stU])
  have : f ≠ k.toNat := by omega
  simp [lgX, stU, this]
theorem op_lend {i c : Nat} (hi : i < 12) (h : RE Wk (-1) b S T) (hb : b ≤ 2147483000) (hc : (c : Int) < T 0 19) (h3 : T 5 i = 2 ∨ T 5 i = 3) (hs : T 15 c = 1 ∨ T 15 c = 2) (hO : ∀ j, j < 12 → j ≠ i → T 5 j = 3 → T 7 j ≠ c) :
    ∃ S' T', dn_X6_lend (i : Int) (c : Int) S = some (S', 0) ∧ dn_X9_lend (i : Int) (c : Int) T = some (T', 0) ∧ RE Wk (-1) (b + 1) S' T' ∧ (∀ j, T' 5 j = if j = i then 4 else T 5 j) := by
  have hm := many_rng h
  have hv := ev_of h hb
  have hn := now_eq h
  have hc60 : c < 60 := by omega
  -- the line and the caller
  let S1 := stU (becX i 4 c 0 (S 4 6) S) (c + 30) 6 3
  let T1 := stU (stU (stU (stU T 5 i 4) 7 i c) 9 i (T 0 4)) 15 c 3
  have hT1 : ∀ k f, (k < 5 ∨ 9 < k ∨ f ≠ i) → stU (stU (stU T 5 i 4) 7 i c) 9 i (T 0 4) k f = T k f := fun k f hk => by
    unfold stU
    by_cases q5 : k = 5 <;> by_cases q7 : k = 7 <;> by_cases q9 : k = 9 <;> by_cases qf : f = i <;> simp [q5, q7, q9, qf] <;> omega
  have hR1 : R0 Wk S1 T1 := by
    refine R0_call (f := 6) hc60 (by decide) (R0_line hi h.1 (fun k f hk => becX_off hk) hT1 ?_)
    have := h.1.1 i hi
    unfold LR at this ⊢
    simp [becX, stU, hn, this]
  have hIV : IV (-1) b T1 := by
    have a : IV (c : Int) b (stU (stU (stU T 5 i 4) 7 i c) 9 i (T 0 4)) := by
      refine IV_line (e := (c : Int)) (b := b) hi ?_ (fun k f _ _ hk => hT1 k f hk) (hT1 0 19 (by omega)) (hT1 0 22 (by omega)) (by rw [hT1 0 24 (by omega)]; exact h.2.2.2.2.2) ?_ ?_
      · refine ⟨fun j hj => ?_, h.2.2.2⟩
        have a := h.2.2.1 j hj
        unfold LI at a ⊢
        exact ⟨a.1, a.2.1, a.2.2.1, fun q => ⟨(a.2.2.2 q).1, fun _ => (a.2.2.2 q).2 (by have := (a.2.2.2 q).1; omega)⟩⟩
      · have a := h.2.2.1 i hi
        unfold LI at a ⊢
        simp [stU]
        refine ⟨a.2.1, ?_⟩
        omega
      · intro q; simp [stU] at q
    refine IV_st (e := (c : Int)) a (fun j hj q1 q2 _ => ⟨fun q3 => ?_, fun _ => by omega⟩) (fun j hj q1 q2 _ => q2)
    by_cases qj : j = i
    · subst qj; simp [stU] at q3
    · rw [hT1 5 j (by omega)] at q3
      rw [hT1 7 j (by omega)] at q2
      exact absurd q2 (hO j hj qj q3)
  have hRt : Rt S1 T1 := by
    have ht := h.2.1
    have o : ∀ v, 5 ≤ v → cn (T1 15) v (T 0 19).toNat = cn (T 15) v (T 0 19).toNat := fun v hv5 => by
      apply cn_congr
      intro x _
      by_cases q : x = c
      · subst q
        show stU _ 15 x 3 15 x = v ↔ _
        rw [stU_same]
        omega
      · show stU _ 15 c 3 15 x = v ↔ _
        rw [stU_slot _ _ _ _ q, hT1 15 x (by omega)]
    have e0 : ∀ f, T1 0 f = T 0 f := fun f => by
      show stU _ 15 c 3 0 f = T 0 f
      rw [stU_cell _ _ _ _ (by decide), hT1 0 f (by omega)]
    have eS : ∀ f, S1 12 f = S 12 f := fun f => by
      show stU _ (c + 30) 6 3 12 f = S 12 f
      rw [stU_cell _ _ _ _ (by omega), becX_off (by omega)]
    unfold Rt at ht ⊢
    simp only [e0, eS, o 5 (by decide), o 6 (by decide), o 7 (by decide), o 8 (by decide)]
    exact ht
  -- the log
  have hn1 : S1 4 6 = S 4 6 := by
    show stU _ (c + 30) 6 3 4 6 = _
    rw [stU_cell _ _ _ _ (by omega), becX_off (by omega)]
  have hS10 : S1 10 2 = S 10 2 := by
    show stU _ (c + 30) 6 3 10 2 = _
    rw [stU_cell _ _ _ _ (by omega), becX_off (by omega)]
  have hT0 : ∀ f, T1 0 f = T 0 f := fun f => by
    show stU _ 15 c 3 0 f = T 0 f
    rw [stU_cell _ _ _ _ (by decide), hT1 0 f (by omega)]
  have hRE2 : RE Wk (-1) (b + 1) (lgX 1 (S 4 6) c i S1) (lgM 1 c i T1) := by
    refine ⟨R0_log (by rw [hT0]; exact hn) hR1, ?_, IV_log hIV⟩
    exact Rt_log (by decide) hRt
  have hcom : S1 (c + 30) 5 = T 14 c := by
    show stU _ (c + 30) 6 3 (c + 30) 5 = _
    rw [stU_slot _ _ _ _ (by decide), becX_off (by omega)]
    exact call_eq h hc60 (by decide) (by decide)
  have hsec : S1 (c + 30) 9 = T 18 c := by
    show stU _ (c + 30) 6 3 (c + 30) 9 = _
    rw [stU_slot _ _ _ _ (by decide), becX_off (by omega)]
    exact call_eq h hc60 (by decide) (by decide)
  have m18 : lgM 1 c i T1 18 c = T 18 c := by
    simp only [lgM]
    simp only [stU]
    simp [T1, stU]
  have m14 : lgM 1 c i T1 14 c = T 14 c := by
    simp only [lgM]
    simp only [stU]
    simp [T1, stU]
  have m5 : ∀ j, lgM 1 c i T1 5 j = if j = i then 4 else T 5 j := fun j => by
    simp only [lgM]
    simp only [stU]
    simp [T1, stU]
  have m0 : ∀ f, f ≠ 24 → lgM 1 c i T1 0 f = T 0 f := fun f hf => by
    simp only [lgM]
    simp only [stU]
    simp [T1, stU, hf]
  have c1 : (0 : Int) ≤ (i : Int) ∧ (i : Int) < 12 := by omega
  have c2 : (0 : Int) ≤ (c : Int) ∧ (c : Int) < 60 := by omega
  have hX : dn_X6_lend (i : Int) (c : Int) S = (if S1 (c + 30) 9 = 0 then cal (dn_X6_noteWait (w32 (S1 4 6 - S1 (c + 30) 5)) S1) (fun S11 _ => cal (dn_X4_add 1 (S11 4 6) c i S11) (fun S14 _ => some (S14, 0))) else cal (dn_X4_add 1 (S1 4 6) c i S1) (fun S8 _ => some (S8, 0))) := by
    unfold dn_X6_lend
    simp only [c1, c2, if_true, and_self, Int.toNat_natCast, X_lendTo, nmS]
    rfl
  have hM : dn_X9_lend (i : Int) (c : Int) T = (if lgM 1 c i T1 18 c = 0 then nmV (w32 (lgM 1 c i T1 0 4 - lgM 1 c i T1 14 c)) (fun v11 => nmS (stU (lgM 1 c i T1) 0 100028 (w64 (lgM 1 c i T1 0 100028 + v11))) (fun S12 => nmS (stU S12 0 29 (w32 (S12 0 29 + 1))) (fun S13 => if v11 ≤ S13 0 30 then nmS (stU S13 0 30 (S13 0 30)) (fun S15 => some (S15, 0)) else nmS (stU S13 0 30 v11) (fun S16 => some (S16, 0))))) else some (lgM 1 c i T1, 0)) := by
    unfold dn_X9_lend
    have e4 : (stU (stU T 5 i 4) 7 i (c : Int)) 0 4 = T 0 4 := by simp [stU]
    simp only [c1, c2, if_true, and_self, Int.toNat_natCast, nmS, e4]
    have := M_say (k := 1) (c := (c : Int)) (s := (i : Int)) (T := T1) (by rw [hT0]; exact hv.1)
    show cal (dn_X9_say 1 (c : Int) (i : Int) T1) _ = _
    rw [this]
    rfl
  by_cases q : T 18 c = 0
  · have hX2 : dn_X6_lend (i : Int) (c : Int) S = some (stU (stU (stU (lgX 1 (S 4 6) c i S1) 4 100008 (w64 (S1 4 100008 + w32 (S 4 6 - T 14 c)))) 4 9 (w32 (S1 4 9 + 1))) 4 10 (mxI (S1 4 10) (w32 (S 4 6 - T 14 c))), 0) := by
      rw [hX, hsec, if_pos q, hn1, hcom]
      unfold dn_X6_noteWait
      simp only [nmS, cal, Option.bind]
      have a9 : stU S1 4 100008 (w64 (S1 4 100008 + w32 (S 4 6 - T 14 c))) 4 9 = S1 4 9 := by simp [stU]
      have a10 : stU (stU S1 4 100008 (w64 (S1 4 100008 + w32 (S 4 6 - T 14 c)))) 4 9 (w32 (S1 4 9 + 1)) 4 10 = S1 4 10 := by simp [stU]
      rw [a9, a10]
      have a6 : stU (stU (stU S1 4 100008 (w64 (S1 4 100008 + w32 (S 4 6 - T 14 c)))) 4 9 (w32 (S1 4 9 + 1))) 4 10 (mxI (S1 4 10) (w32 (S 4 6 - T 14 c))) 4 6 = S 4 6 := by simp [stU]; exact hn1
      rw [a6, X_add (by simp [stU]; rw [hS10]; exact hv.2) (by decide)]
      simp only [lgX_4]
    have g1 := hRE2.1.2.2.1
    have s4 : ∀ f, lgX 1 (S 4 6) c i S1 4 f = S1 4 f := fun f => by simp [lgX, stU]
    unfold Rg at g1
    simp only [s4] at g1
    have hM2 : dn_X9_lend (i : Int) (c : Int) T = some (stU (stU (stU (lgM 1 c i T1) 0 100028 (w64 (S1 4 100008 + w32 (S 4 6 - T 14 c)))) 0 29 (w32 (S1 4 9 + 1))) 0 30 (mxI (S1 4 10) (w32 (S 4 6 - T 14 c))), 0) := by
      rw [hM, m18, if_pos q, m14]
      simp only [nmV, nmS]
      have a29 : ∀ x, stU (lgM 1 c i T1) 0 100028 x 0 29 = S1 4 9 := fun x => by rw [stU_slot _ _ _ _ (by decide)]; exact g1.2.2.2.2.1.symm
      have a30 : ∀ x y, stU (stU (lgM 1 c i T1) 0 100028 x) 0 29 y 0 30 = S1 4 10 := fun x y => by rw [stU_slot _ _ _ _ (by decide), stU_slot _ _ _ _ (by decide)]; exact g1.2.2.2.2.2.1.symm
      simp only [a29, a30, ← g1.2.2.2.1, ← g1.2.1, hn1]
      unfold mxI
      by_cases z : w32 (S 4 6 - T 14 c) ≤ S1 4 10
      · rw [if_pos z, if_neg (by omega)]
      · rw [if_neg z, if_pos (by omega)]
    refine ⟨_, _, hX2, hM2, ?_, fun j => by simp [stU]; simpa [stU] using m5 j⟩
    refine RE_glob hRE2 (fun k f hk => by simp [stU, hk]) (fun k f hk => by simp [stU, hk]) (fun f hf => by
      have : f ≠ 100028 ∧ f ≠ 29 ∧ f ≠ 30 := by omega
      simp [stU, this.1, this.2.1, this.2.2]) ?_
    have g2 := hRE2.1.2.2.1
    unfold Rg at g2 ⊢
    simp [stU]
    exact ⟨g2.1, g2.2.1, g2.2.2.1, g2.2.2.2.2.2.2.1, g2.2.2.2.2.2.2.2⟩
  · refine ⟨lgX 1 (S 4 6) c i S1, lgM 1 c i T1, ?_, ?_, hRE2, m5⟩
    · rw [hX, hsec, if_neg q, hn1, X_add (by rw [hS10]; exact hv.2) (by decide)]
      rfl
    · rw [hM, m18, if_neg q]
end TU
