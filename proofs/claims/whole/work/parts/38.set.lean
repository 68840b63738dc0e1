/-! set -/
def dn_X8_set (a0 a1 : Int) (S : St) : Option (St × Int) := if 0 ≤ a0 ∧ a0 ≤ 5 then (if loN a0.toNat ≤ a1 ∧ a1 ≤ hiN a0.toNat then some (stU S 2 a0.toNat a1, S 2 a0.toNat) else some (S, -2)) else some (S, -2)
section SE
variable {Wk : (Nat → Int) → Int → Int → Int × Int} {S T S' T' : St} {e e2 b b2 : Int}
theorem RE_set {k : Nat} {v : Int} (hk : k < 6) (hv : loN k ≤ v ∧ v ≤ hiN k) (h : RE Wk e b S T) : RE Wk e b (stU S 2 k v) (stU T 1 k v) := by
  have hS : ∀ q f, q ≠ 2 → stU S 2 k v q f = S q f := fun q f hq => stU_cell _ _ _ _ hq
  have hT : ∀ q f, q ≠ 1 → stU T 1 k v q f = T q f := fun q f hq => stU_cell _ _ _ _ hq
  obtain ⟨⟨h1, h2, h3, h4, h5⟩, ht, hv1, hv2, hv3, hv4⟩ := h
  refine ⟨⟨fun j hj => LR_off (h1 j hj) (fun f => hS _ f (by omega)) (fun q _ _ => hT q j (by omega)), ?_, ?_, ?_, ?_⟩, ?_, fun j hj => ?_, ?_, ?_, ?_⟩
  · intro c hc f hf1 hf2
    rw [hS _ _ (by omega), hT _ _ (by omega)]
    exact h2 c hc f hf1 hf2
  · unfold Rg at h3 ⊢
    simp only [hS 4 _ (by decide), hS 7 _ (by decide), hS 10 _ (by decide), hT 0 _ (by decide)]
    exact h3
  · unfold Ra at h4 ⊢
    simp only [hS 3 _ (by decide), hS 8 _ (by decide), hS 9 _ (by decide), hS 11 _ (by decide), hT 4 _ (by decide), hT 19 _ (by decide), hT 20 _ (by decide), hT 21 _ (by decide)]
    refine ⟨fun i hi => ?_, h4.2⟩
    by_cases q : i = k
    · subst q; rw [stU_same, stU_same]
    · rw [stU_slot _ _ _ _ q, stU_slot _ _ _ _ q]; exact h4.1 i hi
  · exact Rk_of h5 (fun q f _ _ => hS q f (by omega)) (fun f => hT 22 f (by decide)) (hT 0 32 (by decide))
  · exact Rt_same ht (fun f => hS 12 f (by decide)) (hT 0 _ (by decide)) (hT 0 _ (by decide)) (hT 0 _ (by decide)) (fun c => hT 15 c (by decide))
  · have a := hv1 j hj
    unfold LI at a ⊢
    rw [hT 5 j (by decide), hT 6 j (by decide), hT 7 j (by decide), hT 15 _ (by decide), hT 0 19 (by decide)]
    exact a
  · unfold UQ at hv2 ⊢
    simp only [hT 5 _ (by decide), hT 7 _ (by decide)]
    exact hv2
  · unfold IN at hv3 ⊢
    simp only [hT 0 _ (by decide), hT 20 _ (by decide), hT 16 _ (by decide), hT 13 _ (by decide), hT 2 _ (by decide), hT 3 _ (by decide), hT 4 _ (by decide)]
    obtain ⟨a1, a2, a3, a4, b0, b1, b2, b3, b4, b5, a5, a6⟩ := hv3
    have st : ∀ (i : Nat) (lo hi : Int), lo ≤ T 1 i ∧ T 1 i ≤ hi → (i = k → lo ≤ v ∧ v ≤ hi) → lo ≤ stU T 1 k v 1 i ∧ stU T 1 k v 1 i ≤ hi := fun i lo hi x y => by
      by_cases q : i = k
      · rw [q, stU_same]; exact y q
      · rw [stU_slot _ _ _ _ q]; exact x
    exact ⟨a1, a2, a3, a4, st 0 _ _ b0 (fun q => by subst q; exact hv), st 1 _ _ b1 (fun q => by subst q; exact hv), st 2 _ _ b2 (fun q => by subst q; exact hv), st 3 _ _ b3 (fun q => by subst q; exact hv), st 4 _ _ b4 (fun q => by subst q; exact hv), st 5 _ _ b5 (fun q => by subst q; exact hv), a5, a6⟩
  · rw [hT 0 24 (by decide)]; exact hv4
theorem call_set {a0 a1 : Int} (h : RE Wk (-1) b S T) : ∃ S' T' r, dn_X8_set a0 a1 S = some (S', r) ∧ dn_X9_set a0 a1 T = some (T', r) ∧ RE Wk (-1) b S' T' := by
  have h1 := RE_thr (x := 0) h
  unfold dn_X8_set dn_X9_set
  rw [nmS_s]
  generalize stU T 0 33 0 = T1 at h1 ⊢
  by_cases q0 : 0 ≤ a0 ∧ a0 ≤ 5
  · rw [if_pos q0, if_neg (show ¬ a0 < 0 by omega), if_neg (show ¬ 5 < a0 by omega), if_pos (show 0 ≤ a0 ∧ a0 < 6 by omega)]
    obtain ⟨k, rfl⟩ : ∃ k : Nat, a0 = k := ⟨a0.toNat, by omega⟩
    have hk : k < 6 := by omega
    have hN := h1.2.2.2.2.1.2.2.2.2.2.2.2.2.2.2.2 k hk
    have he := h1.1.2.2.2.1.1 k hk
    rw [Int.toNat_natCast, hN.1, hN.2]
    by_cases q1 : loN k ≤ a1 ∧ a1 ≤ hiN k
    · rw [if_pos q1, if_neg (by omega), if_pos q1.2, he]
      exact ⟨_, _, _, rfl, rfl, RE_set hk q1 h1⟩
    · rw [if_neg q1]
      by_cases q2 : a1 < loN k
      · rw [if_pos q2]; exact ⟨_, _, _, rfl, rfl, h1⟩
      · rw [if_neg q2, if_neg (by omega)]; exact ⟨_, _, _, rfl, rfl, h1⟩
  · rw [if_neg q0]
    by_cases q2 : a0 < 0
    · rw [if_pos q2]; exact ⟨_, _, _, rfl, rfl, h1⟩
    · rw [if_neg q2, if_pos (by omega)]; exact ⟨_, _, _, rfl, rfl, h1⟩
end SE
