/-! caller -/
theorem nmS_s {α : Type} {x : St} {f : St → α} : nmS x f = f x := rfl
def M_cal (a0 a1 a2 a3 a4 : Int) (S1 : St) : Option (St × Int) := (if a0 < 0 then some (S1, (-1)) else (if 2 < a0 then some (S1, (-1)) else (if a1 < 0 then some (S1, (-1)) else (if 9 < a1 then some (S1, (-1)) else (if a2 < 0 then some (S1, (-1)) else (if 1000 < a2 then some (S1, (-1)) else (if a3 < 1 then some (S1, (-1)) else (if 1000 < a3 then some (S1, (-1)) else (if a4 ≤ S1 0 4 then some (S1, (-1)) else (if 5000 < a4 then some (S1, (-1)) else (if S1 0 19 = 60 then some (S1, (-1)) else (if 0 ≤ S1 0 19 ∧ S1 0 19 < 60 then (nmS (stU S1 10 (S1 0 19).toNat a0) fun S14 => (if 0 ≤ S14 0 19 ∧ S14 0 19 < 60 then (nmS (stU S14 11 (S14 0 19).toNat a1) fun S16 => (if 0 ≤ S16 0 19 ∧ S16 0 19 < 60 then (nmS (stU S16 12 (S16 0 19).toNat a2) fun S18 => (if 0 ≤ S18 0 19 ∧ S18 0 19 < 60 then (nmS (stU S18 13 (S18 0 19).toNat a3) fun S20 => (if 0 ≤ S20 0 19 ∧ S20 0 19 < 60 then (nmS (stU S20 14 (S20 0 19).toNat a4) fun S22 => (if 0 ≤ S22 0 19 ∧ S22 0 19 < 60 then (nmS (stU S22 15 (S22 0 19).toNat 0) fun S24 => (if 0 ≤ S24 0 19 ∧ S24 0 19 < 60 then (nmS (stU S24 16 (S24 0 19).toNat a3) fun S26 => (if 0 ≤ S26 0 19 ∧ S26 0 19 < 60 then (nmS (stU S26 17 (S26 0 19).toNat 0) fun S28 => (if 0 ≤ S28 0 19 ∧ S28 0 19 < 60 then (nmS (stU S28 18 (S28 0 19).toNat 0) fun S30 => (nmS (stU S30 0 19 (w32 ((S30 0 19) + 1))) fun S31 => some (S31, w32 ((S31 0 19) - 1)))) else none)) else none)) else none)) else none)) else none)) else none)) else none)) else none)) else none))))))))))))
section CC
variable {Wk : (Nat → Int) → Int → Int → Int × Int} {S T S' T' : St} {e e2 b b2 : Int}
theorem call_caller {a0 a1 a2 a3 a4 : Int} (h : RE Wk (-1) b S T) : ∃ S' T' r, dn_X8_caller a0 a1 a2 a3 a4 S = some (S', r) ∧ dn_X9_caller a0 a1 a2 a3 a4 T = some (T', r) ∧ RE Wk (-1) b S' T' := by
  have h1 := RE_thr (x := 0) h
  have hM : dn_X9_caller a0 a1 a2 a3 a4 T = M_cal a0 a1 a2 a3 a4 (stU T 0 33 0) := by
    unfold dn_X9_caller dn_X9_caller_75 M_cal
    rw [nmS_s]
  rw [hM]
  generalize stU T 0 33 0 = T1 at h1 ⊢
  unfold dn_X8_caller dn_X1_allows dn_X6_isAhead dn_X6_addCaller M_cal
  simp only [X_in, cal_s]
  have z10 : ¬ (1 : Int) = 0 := by decide
  by_cases k0 : 0 ≤ a0 ∧ a0 ≤ 2
  · rw [if_pos k0, if_neg z10, if_neg (show ¬ a0 < 0 by omega), if_neg (show ¬ 2 < a0 by omega)]
    by_cases k1 : 0 ≤ a1 ∧ a1 ≤ 9
    · rw [if_pos k1, if_neg z10, if_neg (show ¬ a1 < 0 by omega), if_neg (show ¬ 9 < a1 by omega)]
      by_cases k2 : 0 ≤ a2 ∧ a2 ≤ 1000
      · rw [if_pos k2, if_neg z10, if_neg (show ¬ a2 < 0 by omega), if_neg (show ¬ 1000 < a2 by omega)]
        by_cases k3 : 1 ≤ a3 ∧ a3 ≤ 1000
        · rw [if_pos k3, if_neg z10, cal_s, if_neg z10, now_eq h1, if_neg (show ¬ a3 < 1 by omega), if_neg (show ¬ 1000 < a3 by omega)]
          by_cases k4 : a4 ≤ T1 0 4
          · rw [if_pos k4, cal_s, if_pos rfl, if_pos k4]; exact ⟨_, _, _, rfl, rfl, h1⟩
          rw [if_neg k4, if_neg k4]
          by_cases k5 : 5000 < a4
          · rw [if_pos k5, cal_s, if_pos rfl, if_pos k5]; exact ⟨_, _, _, rfl, rfl, h1⟩
          rw [if_neg k5, cal_s, if_neg z10, if_neg k5]
          have hmr := many_rng h1
          have hme := many_eq h1
          by_cases k6 : T1 0 19 = 60
          · rw [if_neg (show ¬ S 4 5 < 60 by omega), cal_s, if_pos k6]; exact ⟨_, _, _, rfl, rfl, h1⟩
          · obtain ⟨m, hm⟩ : ∃ m : Nat, T1 0 19 = m := ⟨(T1 0 19).toNat, by omega⟩
            have hS5 : S 4 5 = m := by omega
            have hm60 : m < 60 := by omega
            rw [if_neg k6, if_pos (show S 4 5 < 60 by omega), if_pos (show 0 ≤ S 4 5 ∧ S 4 5 < 60 by omega), hS5]
            have ht : dn_X1_tell (m : Int) a0 a1 a2 a3 a4 S = some (stU (stU (stU (stU (stU (stU (stU (stU (stU S (m + 30) 1 a0) (m + 30) 2 a1) (m + 30) 3 a2) (m + 30) 4 a3) (m + 30) 5 a4) (m + 30) 6 0) (m + 30) 7 a3) (m + 30) 8 0) (m + 30) 9 0, 0) := by
              unfold dn_X1_tell
              simp only [nmS, Int.toNat_natCast]
            have e45 : stU (stU (stU (stU (stU (stU (stU (stU (stU S (m + 30) 1 a0) (m + 30) 2 a1) (m + 30) 3 a2) (m + 30) 4 a3) (m + 30) 5 a4) (m + 30) 6 0) (m + 30) 7 a3) (m + 30) 8 0) (m + 30) 9 0 4 5 = m := by
              have : (4 : Nat) ≠ m + 30 := by omega
              rw [stU_cell _ _ _ _ this, stU_cell _ _ _ _ this, stU_cell _ _ _ _ this, stU_cell _ _ _ _ this, stU_cell _ _ _ _ this, stU_cell _ _ _ _ this, stU_cell _ _ _ _ this, stU_cell _ _ _ _ this, stU_cell _ _ _ _ this]
              exact hS5
            have c : (0 : Int) ≤ (m : Int) ∧ (m : Int) < 60 := by omega
            have w : w32 ((m : Int) + 1) = m + 1 := w32_id ⟨by omega, by omega⟩
            have w2 : w32 ((m : Int) + 1 - 1) = m := by
              have : r32 ((m : Int) + 1 - 1) := ⟨by clear w; omega, by clear w; omega⟩
              rw [w32_id this, Int.add_sub_cancel]
            rw [ht, cal_s, nmS_s, e45, w, stU_same, w2, cal_s]
            have t0 : ∀ (A : St) (k : Nat) (x : Int), k ≠ 0 → A 0 19 = m → stU A k m x 0 19 = m := fun A k x hk hA => by rw [stU_cell _ _ _ _ (by omega)]; exact hA
            have s1 := t0 T1 10 a0 (by decide) hm
            have s2 := t0 _ 11 a1 (by decide) s1
            have s3 := t0 _ 12 a2 (by decide) s2
            have s4 := t0 _ 13 a3 (by decide) s3
            have s5 := t0 _ 14 a4 (by decide) s4
            have s6 := t0 _ 15 0 (by decide) s5
            have s7 := t0 _ 16 a3 (by decide) s6
            have s8 := t0 _ 17 0 (by decide) s7
            have s9 := t0 _ 18 0 (by decide) s8
            rw [hm, if_pos c, Int.toNat_natCast, nmS_s, s1, if_pos c, Int.toNat_natCast, nmS_s, s2, if_pos c, Int.toNat_natCast, nmS_s, s3, if_pos c, Int.toNat_natCast, nmS_s, s4, if_pos c, Int.toNat_natCast, nmS_s, s5, if_pos c, Int.toNat_natCast, nmS_s, s6, if_pos c, Int.toNat_natCast, nmS_s, s7, if_pos c, Int.toNat_natCast, nmS_s, s8, if_pos c, Int.toNat_natCast, nmS_s, s9, nmS_s, w, stU_same, w2]
            exact ⟨_, _, _, rfl, rfl, op_caller h1 hm hm60 k3⟩
        · rw [if_neg k3, if_pos rfl, cal_s, if_pos rfl]
          by_cases z : a3 < 1
          · rw [if_pos z]; exact ⟨_, _, _, rfl, rfl, h1⟩
          · rw [if_neg z, if_pos (show 1000 < a3 by omega)]; exact ⟨_, _, _, rfl, rfl, h1⟩
      · rw [if_neg k2, if_pos rfl, cal_s, if_pos rfl]
        by_cases z : a2 < 0
        · rw [if_pos z]; exact ⟨_, _, _, rfl, rfl, h1⟩
        · rw [if_neg z, if_pos (show 1000 < a2 by omega)]; exact ⟨_, _, _, rfl, rfl, h1⟩
    · rw [if_neg k1, if_pos rfl, cal_s, if_pos rfl]
      by_cases z : a1 < 0
      · rw [if_pos z]; exact ⟨_, _, _, rfl, rfl, h1⟩
      · rw [if_neg z, if_pos (show 9 < a1 by omega)]; exact ⟨_, _, _, rfl, rfl, h1⟩
  · rw [if_neg k0, if_pos rfl, cal_s, if_pos rfl]
    by_cases z : a0 < 0
    · rw [if_pos z]; exact ⟨_, _, _, rfl, rfl, h1⟩
    · rw [if_neg z, if_pos (show 2 < a0 by omega)]; exact ⟨_, _, _, rfl, rfl, h1⟩
end CC
