/-! Euclid's way and the comparison of fractions -/
theorem cmpJ_z (x y : Int) : cmpJ x y = 0 ↔ x = y := by
  unfold cmpJ
  by_cases q : x < y
  · rw [if_pos q]; constructor <;> intro z <;> omega
  · rw [if_neg q]
    by_cases q2 : x = y
    · rw [if_pos q2]; constructor <;> intro z <;> omega
    · rw [if_neg q2]; constructor <;> intro z <;> omega
theorem cmpJ_g (x y : Int) : 0 ≤ cmpJ x y ↔ y ≤ x := by
  unfold cmpJ
  by_cases q : x < y
  · rw [if_pos q]; constructor <;> intro z <;> omega
  · rw [if_neg q]
    by_cases q2 : x = y
    · rw [if_pos q2]; constructor <;> intro z <;> omega
    · rw [if_neg q2]; constructor <;> intro z <;> omega
theorem cmpJ_l (x y : Int) : cmpJ x y ≤ 0 ↔ x ≤ y := by
  unfold cmpJ
  by_cases q : x < y
  · rw [if_pos q]; constructor <;> intro z <;> omega
  · rw [if_neg q]
    by_cases q2 : x = y
    · rw [if_pos q2]; constructor <;> intro z <;> omega
    · rw [if_neg q2]; constructor <;> intro z <;> omega
theorem md_rng {a b : Int} (hb : 0 < b) : 0 ≤ a % b ∧ a % b < b := ⟨Int.emod_nonneg _ (by omega), Int.emod_lt_of_pos _ hb⟩
theorem md_le {a b : Int} (ha : 0 ≤ a) (hb : 0 < b) : a % b ≤ a := by
  have h2 : b * (a / b) + a % b = a := Int.mul_ediv_add_emod a b
  have h3 : 0 ≤ b * (a / b) := Int.mul_nonneg (by omega) (Int.ediv_nonneg ha (by omega))
  omega
theorem md_half {a b : Int} (hb : 0 < b) (hab : b < a) : 2 * (a % b) < a := by
  have h1 := md_rng (a := a) hb
  have h2 : b * (a / b) + a % b = a := Int.mul_ediv_add_emod a b
  have h3 : 1 ≤ a / b := (Int.le_ediv_iff_mul_le hb).mpr (by omega)
  have h4 : b * 1 ≤ b * (a / b) := Int.mul_le_mul_of_nonneg_left h3 (by omega)
  omega
theorem dv_rng {a b : Int} (ha : 0 ≤ a) (hb : 0 < b) : 0 ≤ a / b ∧ a / b ≤ a := ⟨Int.ediv_nonneg ha (by omega), Int.ediv_le_self _ ha⟩
/-- how many steps are left at most: j -/
def eu (j : Nat) (a b d : Int) : Prop := (∃ k : Nat, j = 2 * k ∧ d < 2 ^ k) ∨ (∃ k : Nat, j = 2 * k + 1 ∧ b < a ∧ a < 2 ^ (k + 1))
theorem eu_0 {a b d : Int} (h : eu 0 a b d) : d < 1 := by
  rcases h with ⟨k, hk, hd⟩ | ⟨k, hk, _⟩
  · have : k = 0 := by omega
    subst this; simpa using hd
  · omega
theorem eu_s {j : Nat} {a b c d x : Int} (h : eu (j + 1) a b d) (hb : 0 < b) (hd : 0 < d) (hx : x = c % d) : eu j d x (a % b) := by
  rcases h with ⟨k, hk, hd2⟩ | ⟨k, hk, h1, h2⟩
  · obtain ⟨k, rfl⟩ : ∃ q, k = q + 1 := ⟨k - 1, by omega⟩
    refine Or.inr ⟨k, by omega, ?_, hd2⟩
    rw [hx]; exact (md_rng hd).2
  · refine Or.inl ⟨k, by omega, ?_⟩
    have := md_half hb h1
    rw [Int.pow_succ] at h2
    omega
section FR
variable {S T : St}
theorem X_g0 {n i : Nat} {a : Int} (hi : i < 190) : dn_X5_commonDivisor_3 (n + 1) a 0 (i : Int) S = some (S, a) := by
  rw [dn_X5_commonDivisor_3, if_neg (by omega), if_pos ((cmpJ_z _ _).mpr rfl)]
theorem X_gs {n i : Nat} {a b : Int} (hi : i < 190) (ha : 0 ≤ a) (hb : 0 < b) (hr : b < 9223372036854775808) : dn_X5_commonDivisor_3 (n + 1) a b (i : Int) S = dn_X5_commonDivisor_3 n b (a % b) ((i + 1 : Nat) : Int) S := by
  have h1 := md_rng (a := a) hb
  have hb0 : b ≠ 0 := by omega
  have w : w64 (a % b) = a % b := w64_id ⟨by omega, by omega⟩
  rw [dn_X5_commonDivisor_3, if_neg (by clear w; omega), if_neg (fun z => hb0 ((cmpJ_z _ _).mp z)), if_pos hb0, Int.tmod_eq_emod_of_nonneg ha, w, w32_s (by clear w; omega)]
  rfl
theorem M_g0 {n : Nat} {a x0 x2 : Int} : dn_X9_gcd_6 (n + 1) x0 x2 a 0 T = some (T, a) := by
  rw [dn_X9_gcd_6, if_pos ((cmpJ_z _ _).mpr rfl)]
theorem M_gs {n : Nat} {a b x0 x2 : Int} (ha : 0 ≤ a) (hb : 0 < b) (hr : b < 9223372036854775808) : dn_X9_gcd_6 (n + 1) x0 x2 a b T = dn_X9_gcd_6 n x0 x2 b (a % b) T := by
  have h1 := md_rng (a := a) hb
  have hb0 : b ≠ 0 := by omega
  have w : w64 (a % b) = a % b := w64_id ⟨by omega, by omega⟩
  rw [dn_X9_gcd_6, if_neg (fun z => hb0 ((cmpJ_z _ _).mp z)), if_pos hb0, Int.tmod_eq_emod_of_nonneg ha, w]
  rfl
theorem sim_gcd : ∀ (j n m : Nat) (a b : Int) (i : Nat) {x0 x2 : Int}, eu j a b b → 0 ≤ a → 0 ≤ b → 0 < a + b → b < 9223372036854775808 → j + i < 190 → j < n → j < m → ∃ g, 1 ≤ g ∧ (0 < b → g ≤ b) ∧ (b = 0 → g = a) ∧ dn_X5_commonDivisor_3 n a b (i : Int) S = some (S, g) ∧ dn_X9_gcd_6 m x0 x2 a b T = some (T, g) := by
  intro j
  induction j with
  | zero =>
    intro n m a b i x0 x2 he ha hb hab hr hi hn hm
    obtain ⟨n, rfl⟩ : ∃ q, n = q + 1 := ⟨n - 1, by omega⟩
    obtain ⟨m, rfl⟩ : ∃ q, m = q + 1 := ⟨m - 1, by omega⟩
    have := eu_0 he
    have hb0 : b = 0 := by omega
    subst hb0
    exact ⟨a, by omega, fun z => absurd z (by omega), fun _ => rfl, X_g0 (by omega), M_g0⟩
  | succ j ih =>
    intro n m a b i x0 x2 he ha hb hab hr hi hn hm
    obtain ⟨n, rfl⟩ : ∃ q, n = q + 1 := ⟨n - 1, by omega⟩
    obtain ⟨m, rfl⟩ : ∃ q, m = q + 1 := ⟨m - 1, by omega⟩
    by_cases hb0 : b = 0
    · subst hb0
      exact ⟨a, by omega, fun z => absurd z (by omega), fun _ => rfl, X_g0 (by omega), M_g0⟩
    · have hbp : 0 < b := by omega
      have hm1 := md_rng (a := a) hbp
      obtain ⟨g, g1, g2, g3, g4, g5⟩ := ih n m b (a % b) (i + 1) (x0 := x0) (x2 := x2) (eu_s (c := a) he hbp hbp rfl) (by omega) hm1.1 (by omega) (by omega) (by omega) (by omega) (by omega)
      have hg : g ≤ b := by
        by_cases z : a % b = 0
        · rw [g3 z]; omega
        · have := g2 (by omega); omega
      exact ⟨g, g1, fun _ => hg, fun z => absurd z hb0, by rw [X_gs (by omega) ha hbp hr]; exact g4, by rw [M_gs ha hbp hr]; exact g5⟩
theorem wd_eq {a b : Int} (ha : 0 ≤ a) (hb : 0 < b) (hr : a < 9223372036854775808) : w64 (Int.tdiv a b) = a / b := by
  have h3 := dv_rng ha hb
  rw [Int.tdiv_eq_ediv_of_nonneg ha, w64_id (x := a / b) ⟨by omega, by omega⟩]
theorem rest_eq {a b : Int} (ha : 0 ≤ a) (hb : 0 < b) (hr : a < 9223372036854775808) : w64 (a - w64 (a / b * b)) = a % b := by
  have h1 := md_rng (a := a) hb
  have h2 : b * (a / b) + a % b = a := Int.mul_ediv_add_emod a b
  have h5 := md_le ha hb
  have h4 : a / b * b = a - a % b := by rw [Int.mul_comm]; omega
  rw [h4, w64_id (x := a - a % b) ⟨by omega, by omega⟩, show a - (a - a % b) = a % b by omega, w64_id ⟨by omega, by omega⟩]
theorem X_l0 {n i : Nat} {a b c d : Int} (hi : i < 190) (h : b = 0 ∨ d = 0) : dn_X5_isLess_3 (n + 1) a b c d (i : Int) S = some (S, if b = 0 then 0 else 1) := by
  rw [dn_X5_isLess_3, if_neg (by omega)]
  by_cases q : b = 0
  · rw [if_pos ((cmpJ_z _ _).mpr q), if_pos q, if_pos ((cmpJ_z _ _).mpr q)]
  · have q2 : d = 0 := by omega
    have nq : ¬ cmpJ b 0 = 0 := fun z => q ((cmpJ_z _ _).mp z)
    rw [if_neg nq, if_pos ((cmpJ_z _ _).mpr q2), if_neg nq, if_neg q]
theorem X_ls {n i : Nat} {a b c d : Int} (hi : i < 190) (ha : 0 ≤ a) (hb : 0 < b) (hc : 0 ≤ c) (hd : 0 < d) (ra : a < 9223372036854775808) (rc : c < 9223372036854775808) : dn_X5_isLess_3 (n + 1) a b c d (i : Int) S = if a / b = c / d then dn_X5_isLess_3 n d (c % d) b (a % b) ((i + 1 : Nat) : Int) S else if c / d ≤ a / b then some (S, 0) else some (S, 1) := by
  have hb0 : b ≠ 0 := by omega
  have hd0 : d ≠ 0 := by omega
  rw [dn_X5_isLess_3, if_neg (by omega), if_neg (fun z => hb0 ((cmpJ_z _ _).mp z)), if_neg (fun z => hd0 ((cmpJ_z _ _).mp z)), if_pos hb0, wd_eq ha hb ra]
  simp only [nmV]
  rw [if_pos hd0, wd_eq hc hd rc]
  by_cases q : a / b = c / d
  · rw [if_pos q, if_pos ((cmpJ_z _ _).mpr q), rest_eq ha hb ra, rest_eq hc hd rc, w32_s (by omega)]
  · rw [if_neg q, if_neg (fun z => q ((cmpJ_z _ _).mp z))]
    by_cases q2 : c / d ≤ a / b
    · rw [if_pos q2, if_pos ((cmpJ_g _ _).mpr q2)]
    · rw [if_neg q2, if_neg (fun z => q2 ((cmpJ_g _ _).mp z))]
theorem M_l0 {n : Nat} {a b c d x0 x2 x4 x6 : Int} (ha : 0 ≤ a) (hb : 0 < b) (hc : 0 ≤ c) (hd : 0 < d) (ra : a < 9223372036854775808) (rc : c < 9223372036854775808) : dn_X9_isLess_17 (n + 1) x0 x2 x4 x6 a b c d 0 T = if a / b = c / d then (if a % b = 0 then some (T, if c % d = 0 then 0 else 1) else if c % d = 0 then some (T, 0) else dn_X9_isLess_17 n x0 x2 x4 x6 b (a % b) d (c % d) 1 T) else if c / d ≤ a / b then some (T, 0) else some (T, 1) := by
  have hb0 : b ≠ 0 := by omega
  have hd0 : d ≠ 0 := by omega
  have n10 : ¬ (1 : Int) = 0 := by decide
  rw [dn_X9_isLess_17, if_pos hb0, wd_eq ha hb ra]
  simp only [nmV]
  rw [if_pos hd0, wd_eq hc hd rc]
  by_cases q : a / b = c / d
  · rw [if_pos q, if_pos ((cmpJ_z _ _).mpr q), rest_eq ha hb ra, rest_eq hc hd rc]
    by_cases z1 : a % b = 0 <;> by_cases z2 : c % d = 0 <;> simp only [dn_X9_isLess_97, dn_X9_isLess_115, cmpJ_z, z1, z2, if_true, if_false, n10]
  · rw [if_neg q, if_neg (fun z => q ((cmpJ_z _ _).mp z))]
    by_cases q2 : c / d ≤ a / b
    · rw [if_pos q2, if_pos ((cmpJ_g _ _).mpr q2), if_pos trivial]
    · rw [if_neg q2, if_neg (fun z => q2 ((cmpJ_g _ _).mp z)), if_neg n10]
theorem M_l1 {n : Nat} {a b c d x0 x2 x4 x6 : Int} (ha : 0 ≤ a) (hb : 0 < b) (hc : 0 ≤ c) (hd : 0 < d) (ra : a < 9223372036854775808) (rc : c < 9223372036854775808) : dn_X9_isLess_17 (n + 1) x0 x2 x4 x6 a b c d 1 T = if a / b = c / d then (if a % b = 0 then some (T, 0) else if c % d = 0 then some (T, 1) else dn_X9_isLess_17 n x0 x2 x4 x6 b (a % b) d (c % d) 0 T) else if c / d ≤ a / b then some (T, 1) else some (T, 0) := by
  have hb0 : b ≠ 0 := by omega
  have hd0 : d ≠ 0 := by omega
  have n10 : ¬ (1 : Int) = 0 := by decide
  have n01 : ¬ (0 : Int) = 1 := by decide
  rw [dn_X9_isLess_17, if_pos hb0, wd_eq ha hb ra]
  simp only [nmV]
  rw [if_pos hd0, wd_eq hc hd rc]
  by_cases q : a / b = c / d
  · rw [if_pos q, if_pos ((cmpJ_z _ _).mpr q), rest_eq ha hb ra, rest_eq hc hd rc]
    by_cases z1 : a % b = 0 <;> by_cases z2 : c % d = 0 <;> simp only [dn_X9_isLess_97, dn_X9_isLess_115, cmpJ_z, z1, z2, if_true, if_false, n10, n01]
  · rw [if_neg q, if_neg (fun z => q ((cmpJ_z _ _).mp z))]
    by_cases q2 : c / d ≤ a / b
    · rw [if_pos q2, if_pos ((cmpJ_g _ _).mpr q2), if_neg n01]
    · rw [if_neg q2, if_neg (fun z => q2 ((cmpJ_g _ _).mp z)), if_pos trivial]
theorem sim_less : ∀ (j n m : Nat) (a b c d : Int) (i : Nat) {x0 x2 x4 x6 : Int}, eu j a b d → 0 ≤ a → 0 < b → 0 ≤ c → 0 < d → a < 9223372036854775808 → b < 9223372036854775808 → c < 9223372036854775808 → d < 9223372036854775808 → j + i < 188 → j < n → j < m →
    ∃ r, dn_X5_isLess_3 n a b c d (i : Int) S = some (S, r) ∧ dn_X9_isLess_17 m x0 x2 x4 x6 a b c d 0 T = some (T, r) ∧ dn_X9_isLess_17 m x0 x2 x4 x6 c d a b 1 T = some (T, r) := by
  intro j
  induction j with
  | zero =>
    intro n m a b c d i x0 x2 x4 x6 he ha hb hc hd
    have := eu_0 he
    omega
  | succ j ih =>
    intro n m a b c d i x0 x2 x4 x6 he ha hb hc hd ra rb rc rd hi hn hm
    obtain ⟨n, rfl⟩ : ∃ q, n = q + 1 := ⟨n - 1, by omega⟩
    obtain ⟨m, rfl⟩ : ∃ q, m = q + 1 := ⟨m - 1, by omega⟩
    have hx := md_rng (a := a) hb
    have hy := md_rng (a := c) hd
    rw [X_ls (by omega) ha hb hc hd ra rc, M_l0 ha hb hc hd ra rc, M_l1 hc hd ha hb rc ra]
    by_cases q : a / b = c / d
    · rw [if_pos q, if_pos q, if_pos q.symm]
      by_cases zA : a % b = 0
      · obtain ⟨n, rfl⟩ : ∃ q, n = q + 1 := ⟨n - 1, by omega⟩
        rw [X_l0 (by omega) (Or.inr zA), if_pos zA]
        by_cases zC : c % d = 0
        · simp only [zC, if_true]; exact ⟨_, rfl, rfl, rfl⟩
        · simp only [zC, zA, if_true, if_false]; exact ⟨_, rfl, rfl, rfl⟩
      · rw [if_neg zA, if_neg zA]
        by_cases zC : c % d = 0
        · obtain ⟨n, rfl⟩ : ∃ q, n = q + 1 := ⟨n - 1, by omega⟩
          rw [X_l0 (by omega) (Or.inl zC), if_pos zC, if_pos zC, if_pos zC]
          exact ⟨_, rfl, rfl, rfl⟩
        · rw [if_neg zC, if_neg zC]
          obtain ⟨r, r1, r2, r3⟩ := ih n m d (c % d) b (a % b) (i + 1) (x0 := x0) (x2 := x2) (x4 := x4) (x6 := x6) (eu_s he hb hd rfl) (by omega) (by omega) (by omega) (by omega) (by omega) (by omega) (by omega) (by omega) (by omega) (by omega) (by omega)
          exact ⟨r, r1, r3, r2⟩
    · have q' : ¬ c / d = a / b := fun z => q z.symm
      rw [if_neg q, if_neg q, if_neg q']
      by_cases q2 : c / d ≤ a / b
      · rw [if_pos q2, if_pos q2, if_neg (show ¬ a / b ≤ c / d by omega)]; exact ⟨_, rfl, rfl, rfl⟩
      · rw [if_neg q2, if_neg q2, if_pos (show a / b ≤ c / d by omega)]; exact ⟨_, rfl, rfl, rfl⟩
end FR
