/-! mean and best -/
def p72 : Nat → Int
  | 0 => 1
  | n + 1 => p72 n * 72
theorem p72_8 {n : Nat} (h : n ≤ 8) : p72 n ≤ 722204136308736 := by
  have : n = 0 ∨ n = 1 ∨ n = 2 ∨ n = 3 ∨ n = 4 ∨ n = 5 ∨ n = 6 ∨ n = 7 ∨ n = 8 := by omega
  rcases this with rfl | rfl | rfl | rfl | rfl | rfl | rfl | rfl | rfl <;> decide
theorem mul_b {x y X Y : Int} (h1 : 0 ≤ x) (h2 : x ≤ X) (h3 : 0 ≤ y) (h4 : y ≤ Y) : 0 ≤ x * y ∧ x * y ≤ X * Y := ⟨Int.mul_nonneg h1 h3, Int.mul_le_mul h2 h4 h3 (by omega)⟩
theorem mul_p {x y : Int} (h1 : 1 ≤ x) (h3 : 1 ≤ y) : 1 ≤ x * y := by
  have := Int.mul_pos (show 0 < x by omega) (show 0 < y by omega)
  omega
def er (T : St) (c i : Nat) : Int := ((min i c : Nat) : Int) * (if 9 ≤ T 4 (min i c) then 9 else T 4 (min i c))
def SP (S T : St) : Prop := (∀ i, i < 12 → S 3 i = T 4 (i + 1)) ∧ (∀ i, i < 13 → 1 ≤ T 4 i ∧ T 4 i ≤ 100)
def mX (S : St) (A B : Int) : St := stU (stU S 13 100001 A) 13 100002 B
def mM (T : St) (A B : Int) : St := stU (stU T 0 100034 A) 0 100035 B
theorem p63 {b : Int} (h : b < 9223372036854775808) : b < (2 : Int) ^ 63 := by
  have e : (2 : Int) ^ 63 = 9223372036854775808 := by decide
  omega
section MN
variable {S T : St}
theorem er_rng (h : SP S T) {c i : Nat} (hc : c ≤ 8) : 0 ≤ er T c i ∧ er T c i ≤ 72 ∧ (1 ≤ i → 1 ≤ c → 1 ≤ er T c i) := by
  unfold er
  have := h.2 (min i c) (by omega)
  generalize T 4 (min i c) = v at this ⊢
  have hk : min i c ≤ 8 := by omega
  have hk2 : 1 ≤ i → 1 ≤ c → 1 ≤ min i c := by omega
  generalize min i c = k at hk hk2 ⊢
  have hv : ∃ x, (if 9 ≤ v then 9 else v) = x ∧ 1 ≤ x ∧ x ≤ 9 := by
    by_cases q : 9 ≤ v
    · exact ⟨9, if_pos q, by decide, by decide⟩
    · exact ⟨v, if_neg q, by omega, by omega⟩
  obtain ⟨x, e, x1, x2⟩ := hv
  rw [e]
  have := mul_b (x := (k : Int)) (y := x) (X := 8) (Y := 9) (by omega) (by omega) (by omega) x2
  exact ⟨this.1, by omega, fun a b => mul_p (by have := hk2 a b; omega) x1⟩
theorem X_er (h : SP S T) {c i : Nat} (hc : c ≤ 8) : dn_X5_endRate (c : Int) (i : Int) S = some (S, er T c i) := by
  have hr := er_rng h (i := i) hc
  have hb := h.2 (min i c) (by omega)
  unfold er at hr ⊢
  have hk : min i c ≤ 8 := by omega
  have hm : mnI (c : Int) (i : Int) = ((min i c : Nat) : Int) := by unfold mnI; split <;> omega
  unfold dn_X5_endRate
  rw [hm]
  generalize min i c = k at hk hr hb ⊢
  simp only [nmV]
  have hx : w32 ((mxI 1 (mnI (k : Int) 12)) - 1) = ((k - 1 : Nat) : Int) := by
    have e1 : mnI (k : Int) 12 = k := by unfold mnI; rw [if_neg (by omega)]
    rw [e1]
    by_cases z : k = 0
    · subst z; decide
    · have e2 : mxI 1 (k : Int) = k := by unfold mxI; split <;> omega
      rw [e2, w32_id ⟨by omega, by omega⟩]; omega
  unfold dn_X7_speedOf
  rw [hx, if_pos (by clear hx; omega), cal_s, Int.toNat_natCast]
  clear hx
  by_cases z : k = 0
  · subst z
    simp [w32]
  · have e3 := h.1 (k - 1) (by omega)
    rw [e3, show k - 1 + 1 = k by omega]
    have e4 : mnI (T 4 k) 9 = if 9 ≤ T 4 k then 9 else T 4 k := by
      unfold mnI
      by_cases q : 9 < T 4 k
      · rw [if_pos q, if_pos (by omega)]
      · rw [if_neg q]
        by_cases q2 : 9 ≤ T 4 k
        · rw [if_pos q2]; omega
        · rw [if_neg q2]
    rw [e4, w32_id ⟨by omega, by omega⟩]
theorem M_er (h : SP S T) {c i : Nat} (hc : c ≤ 8) : dn_X9_rate (i : Int) (c : Int) T = some (T, er T c i) := by
  have hr := er_rng h (i := i) hc
  unfold er at hr ⊢
  unfold dn_X9_rate
  by_cases q : (c : Int) ≤ (i : Int)
  · have e : min i c = c := by omega
    rw [e] at hr ⊢
    rw [if_pos q, if_pos (by omega), Int.toNat_natCast]
    by_cases z : 9 ≤ T 4 c
    · rw [if_pos z] at hr ⊢; rw [if_pos z, w64_id ⟨by omega, by omega⟩]
    · rw [if_neg z] at hr ⊢; rw [if_neg z, w64_id ⟨by omega, by omega⟩]
  · have e : min i c = i := by omega
    rw [e] at hr ⊢
    rw [if_neg q, if_pos (by omega), Int.toNat_natCast]
    by_cases z : 9 ≤ T 4 i
    · rw [if_pos z] at hr ⊢; rw [if_pos z, w64_id ⟨by omega, by omega⟩]
    · rw [if_neg z] at hr ⊢; rw [if_neg z, w64_id ⟨by omega, by omega⟩]
theorem sim_l1 {N m : Nat} {r c : Int} {k13 : Int → Int → Int → Int → St → Option (St × Int)} (hN : N ≤ 8) (hm : m ≤ N) (hr : 1 ≤ r ∧ r ≤ 9) : ∀ (d i n k : Nat) (p : Int), i + d = m → 1 ≤ p → p ≤ p72 i → d < n → d < k →
    ∃ p', 1 ≤ p' ∧ p' ≤ p72 m ∧ dn_X5_share_6 n (N : Int) r c (m : Int) p (i : Int) S = dn_X5_share_37 FU (N : Int) r c (m : Int) p' ((m + 1 : Nat) : Int) S ∧ dn_X9_reckon_25 k13 k (N : Int) r c (m : Int) p (i : Int) T = dn_X9_reckon_57 k13 FU (N : Int) r c (m : Int) p' ((m + 1 : Nat) : Int) T := by
  intro d
  induction d with
  | zero =>
    intro i n k p hd h1 h2 hn hk
    obtain ⟨n, rfl⟩ : ∃ q, n = q + 1 := ⟨n - 1, by omega⟩
    obtain ⟨k, rfl⟩ : ∃ q, k = q + 1 := ⟨k - 1, by omega⟩
    have : i = m := by omega
    subst this
    refine ⟨p, h1, h2, ?_, ?_⟩
    · rw [dn_X5_share_6, if_pos (by omega), w32_s (by omega)]; rfl
    · rw [dn_X9_reckon_25, if_pos (by omega), w32_s (by omega)]; rfl
  | succ d ih =>
    intro i n k p hd h1 h2 hn hk
    obtain ⟨n, rfl⟩ : ∃ q, n = q + 1 := ⟨n - 1, by omega⟩
    obtain ⟨k, rfl⟩ : ∃ q, k = q + 1 := ⟨k - 1, by omega⟩
    have hP := p72_8 (show i + 1 ≤ 8 by omega)
    have f1 := mul_b (x := (N : Int) - i) (y := r) (X := 8) (Y := 9) (by omega) (by omega) (by omega) hr.2
    have f2 := mul_p (x := (N : Int) - i) (y := r) (by omega) hr.1
    have g1 := mul_b (x := p) (y := ((N : Int) - i) * r) (X := p72 i) (Y := 72) (by omega) h2 f1.1 (by omega)
    have g2 := mul_p h1 f2
    have w1 : w32 ((N : Int) - i) = (N : Int) - i := w32_id ⟨by omega, by omega⟩
    have w2 : w32 (((N : Int) - i) * r) = ((N : Int) - i) * r := w32_id ⟨by clear w1; omega, by clear w1; omega⟩
    have w3 : w64 (((N : Int) - i) * r) = ((N : Int) - i) * r := w64_id ⟨by clear w1 w2; omega, by clear w1 w2; omega⟩
    have hP2 : p72 (i + 1) = p72 i * 72 := rfl
    have w4 : w64 (p * (((N : Int) - i) * r)) = p * (((N : Int) - i) * r) := w64_id ⟨by clear w1 w2 w3; omega, by clear w1 w2 w3; omega⟩
    obtain ⟨p', a1, a2, a3, a4⟩ := ih (i + 1) n k (p * (((N : Int) - i) * r)) (by clear w1 w2 w3 w4; omega) g2 (by clear w1 w2 w3 w4; omega) (by clear w1 w2 w3 w4; omega) (by clear w1 w2 w3 w4; omega)
    refine ⟨p', a1, a2, ?_, ?_⟩
    · rw [← a3, dn_X5_share_6, if_neg (by clear w1 w2 w3 w4; omega), w1, w2, w4, w32_s (by clear w1 w2 w3 w4; omega)]; rfl
    · rw [← a4, dn_X9_reckon_25, if_neg (by clear w1 w2 w3 w4; omega), w1, w3, w4, w32_s (by clear w1 w2 w3 w4; omega)]; rfl
/-- what the reference does behind its second loop -/
def aft (k13 : Int → Int → Int → Int → St → Option (St × Int)) (N r c m w x : Int) (T : St) : Option (St × Int) := (if m ≤ c then dn_X9_reckon_104 k13 N r c m w x T else (nmS (stU T 0 100034 (w64 ((T 0 100034) + (w64 (w * (w32 (m - c))))))) fun S21 => dn_X9_reckon_104 k13 N r c m w x S21))
theorem sim_l2 (h : SP S T) {N c : Nat} {r m : Int} {k13 : Int → Int → Int → Int → St → Option (St × Int)} (hN : N ≤ 8) (hc : 1 ≤ c ∧ c ≤ 8) : ∀ (d i n k : Nat) (p : Int), i + d = N → 1 ≤ p → p ≤ p72 i → d < n → d < k →
    ∃ p', 1 ≤ p' ∧ p' ≤ p72 N ∧ dn_X5_share_37 n (N : Int) r (c : Int) m p ((i + 1 : Nat) : Int) S = some (S, p') ∧ dn_X9_reckon_57 k13 k (N : Int) r (c : Int) m p ((i + 1 : Nat) : Int) T = aft k13 N r c m p' ((N + 1 : Nat) : Int) T := by
  intro d
  induction d with
  | zero =>
    intro i n k p hd h1 h2 hn hk
    obtain ⟨n, rfl⟩ : ∃ q, n = q + 1 := ⟨n - 1, by omega⟩
    obtain ⟨k, rfl⟩ : ∃ q, k = q + 1 := ⟨k - 1, by omega⟩
    have : i = N := by omega
    subst this
    refine ⟨p, h1, h2, ?_, ?_⟩
    · rw [dn_X5_share_37, if_pos (by omega)]
    · rw [dn_X9_reckon_57, if_pos (by omega)]; rfl
  | succ d ih =>
    intro i n k p hd h1 h2 hn hk
    obtain ⟨n, rfl⟩ : ∃ q, n = q + 1 := ⟨n - 1, by omega⟩
    obtain ⟨k, rfl⟩ : ∃ q, k = q + 1 := ⟨k - 1, by omega⟩
    have hP := p72_8 (show i + 1 ≤ 8 by omega)
    have f1 := er_rng h (c := c) (i := i + 1) hc.2
    have g1 := mul_b (x := p) (y := er T c (i + 1)) (X := p72 i) (Y := 72) (by omega) h2 f1.1 f1.2.1
    have g2 := mul_p h1 (f1.2.2 (by omega) hc.1)
    have hP2 : p72 (i + 1) = p72 i * 72 := rfl
    have w4 : w64 (p * er T c (i + 1)) = p * er T c (i + 1) := w64_id ⟨by omega, by omega⟩
    obtain ⟨p', a1, a2, a3, a4⟩ := ih (i + 1) n k (p * er T c (i + 1)) (by omega) g2 (by clear w4; omega) (by omega) (by omega)
    refine ⟨p', a1, a2, ?_, ?_⟩
    · rw [← a3, dn_X5_share_37, if_neg (by clear w4; omega), X_er h hc.2, cal_s, w4, w32_s (by clear w4; omega)]; rfl
    · rw [← a4, dn_X9_reckon_57, if_neg (by clear w4; omega), M_er h hc.2, cal_s, w4, w32_s (by clear w4; omega)]; rfl
theorem sim_w (h : SP S T) {N c m : Nat} {r : Int} {k13 : Int → Int → Int → Int → St → Option (St × Int)} (hN : N ≤ 8) (hc : 1 ≤ c ∧ c ≤ 8) (hm : m ≤ N) (hr : 1 ≤ r ∧ r ≤ 9) :
    ∃ w, 1 ≤ w ∧ w ≤ 722204136308736 ∧ dn_X5_share (N : Int) r (c : Int) (m : Int) S = some (S, w) ∧ dn_X9_reckon_25 k13 FU (N : Int) r (c : Int) (m : Int) 1 0 T = aft k13 N r c m w ((N + 1 : Nat) : Int) T := by
  obtain ⟨p, a1, a2, a3, a4⟩ := sim_l1 (S := S) (T := T) (c := (c : Int)) (k13 := k13) hN hm hr m 0 FU FU 1 (by omega) (by decide) (by decide) (FU_lt (by omega)) (FU_lt (by omega))
  obtain ⟨w, b1, b2, b3, b4⟩ := sim_l2 (r := r) (m := (m : Int)) (k13 := k13) h hN hc (N - m) m FU FU p (by omega) a1 a2 (FU_lt (by omega)) (FU_lt (by omega))
  have := p72_8 hN
  exact ⟨w, b1, by omega, by unfold dn_X5_share; exact a3.trans b3, a4.trans b4⟩
theorem SP_m {A B : Int} (h : SP S T) : SP (mX S A B) (mM T A B) := by
  unfold SP mX mM at *
  refine ⟨fun i hi => ?_, fun i hi => ?_⟩
  · rw [stU_cell _ _ _ _ (by decide), stU_cell _ _ _ _ (by decide), stU_cell _ _ _ _ (by decide), stU_cell _ _ _ _ (by decide)]; exact h.1 i hi
  · rw [stU_cell _ _ _ _ (by decide), stU_cell _ _ _ _ (by decide)]; exact h.2 i hi
theorem er_m {A B : Int} {c i : Nat} : er (mM T A B) c i = er T c i := by
  unfold er mM
  rw [stU_cell _ _ _ _ (by decide), stU_cell _ _ _ _ (by decide)]
theorem mX_1 {A B A' : Int} : stU (mX S A B) 13 100001 A' = mX S A' B := by
  funext k f
  simp only [mX, stU]
  by_cases q : k = 13 <;> by_cases q1 : f = 100001 <;> by_cases q2 : f = 100002 <;> simp [q, q1, q2]
theorem mX_2 {A B B' : Int} : stU (mX S A B) 13 100002 B' = mX S A B' := by
  funext k f
  simp only [mX, stU]
  by_cases q : k = 13 <;> by_cases q1 : f = 100001 <;> by_cases q2 : f = 100002 <;> simp [q, q1, q2]
theorem mM_1 {A B A' : Int} : stU (mM T A B) 0 100034 A' = mM T A' B := by
  funext k f
  simp only [mM, stU]
  by_cases q : k = 0 <;> by_cases q1 : f = 100034 <;> by_cases q2 : f = 100035 <;> simp [q, q1, q2]
theorem mM_2 {A B B' : Int} : stU (mM T A B) 0 100035 B' = mM T A B' := by
  funext k f
  simp only [mM, stU]
  by_cases q : k = 0 <;> by_cases q1 : f = 100034 <;> by_cases q2 : f = 100035 <;> simp [q, q1, q2]
theorem mX_a {A B : Int} : mX S A B 13 100001 = A := by unfold mX; rw [stU_slot _ _ _ _ (by decide), stU_same]
theorem mX_b {A B : Int} : mX S A B 13 100002 = B := by unfold mX; rw [stU_same]
theorem mM_a {A B : Int} : mM T A B 0 100034 = A := by unfold mM; rw [stU_slot _ _ _ _ (by decide), stU_same]
theorem mM_b {A B : Int} : mM T A B 0 100035 = B := by unfold mM; rw [stU_same]
/-- one more in the pool: both add the same -/
theorem sim_fs (h : SP S T) {N c m : Nat} {r A B : Int} (hN : N ≤ 8) (hc : 1 ≤ c ∧ c ≤ 8) (hm : m ≤ N) (hr : 1 ≤ r ∧ r ≤ 9) (n k : Nat) (hA : 0 ≤ A ∧ A ≤ m * 5777633090469888) (hB : 0 ≤ B ∧ B ≤ m * 51998697814228992) :
    ∃ A' B', (0 ≤ A' ∧ A' ≤ ((m + 1 : Nat) : Int) * 5777633090469888) ∧ (0 ≤ B' ∧ B' ≤ ((m + 1 : Nat) : Int) * 51998697814228992) ∧ (1 ≤ B ∨ 1 ≤ m → 1 ≤ B') ∧ dn_X5_find_13 (n + 1) (N : Int) r (c : Int) (m : Int) (mX S A B) = dn_X5_find_13 n (N : Int) r (c : Int) ((m + 1 : Nat) : Int) (mX S A' B') ∧ dn_X9_reckon_13 (k + 1) (N : Int) r (c : Int) (m : Int) (mM T A B) = dn_X9_reckon_13 k (N : Int) r (c : Int) ((m + 1 : Nat) : Int) (mM T A' B') := by
  obtain ⟨w, w1, w2, w3, w4⟩ := sim_w (SP_m (A := A) (B := B) h) (k13 := fun x1_ x2_ x3_ x4_ S_ => dn_X9_reckon_13 k x1_ x2_ x3_ x4_ S_) hN hc hm hr
  have er1 := er_rng h (c := c) (i := m) hc.2
  have x1 := X_er (SP_m (A := A + w * (if m ≤ c then 0 else (m : Int) - c)) (B := B) h) (c := c) (i := m) hc.2
  have y1 := M_er (SP_m (A := A + w * (if m ≤ c then 0 else (m : Int) - c)) (B := B) h) (c := c) (i := m) hc.2
  rw [er_m] at x1 y1
  have q0 : 0 ≤ (if m ≤ c then 0 else (m : Int) - c) ∧ (if m ≤ c then 0 else (m : Int) - c) ≤ 8 := by
    by_cases z : m ≤ c
    · rw [if_pos z]; decide
    · rw [if_neg z]; omega
  have qm : mxI 0 (w32 ((m : Int) - c)) = (if m ≤ c then 0 else (m : Int) - c) := by
    rw [w32_id ⟨by omega, by omega⟩]
    unfold mxI
    by_cases z : m ≤ c
    · rw [if_pos z, if_neg (by omega)]
    · rw [if_neg z, if_pos (by omega)]
  have g1 := mul_b (x := w) (X := 722204136308736) (Y := 8) (by omega) w2 q0.1 q0.2
  have g2 := mul_b (x := w) (X := 722204136308736) (Y := 72) (by omega) w2 er1.1 er1.2.1
  have g3 : 1 ≤ m → 1 ≤ w * er T c m := fun z => mul_p w1 (er1.2.2 z hc.1)
  generalize hQ : (if m ≤ c then 0 else (m : Int) - c) = Q at x1 y1 q0 qm g1
  have v1 : w64 (w * Q) = w * Q := w64_id ⟨by clear qm; omega, by clear qm; omega⟩
  have v2 : w64 (A + w * Q) = A + w * Q := w64_id ⟨by clear qm v1; omega, by clear qm v1; omega⟩
  have v3 : w64 (w * er T c m) = w * er T c m := w64_id ⟨by clear qm v1 v2; omega, by clear qm v1 v2; omega⟩
  have v4 : w64 (B + w * er T c m) = B + w * er T c m := w64_id ⟨by clear qm v1 v2 v3; omega, by clear qm v1 v2 v3; omega⟩
  refine ⟨A + w * Q, B + w * er T c m, by clear qm v1 v2 v3 v4; omega, by clear qm v1 v2 v3 v4; omega, fun z => ?_, ?_, ?_⟩
  · clear qm v1 v2 v3 v4
    rcases z with z | z
    · omega
    · have := g3 z; omega
  · rw [dn_X5_find_13, if_neg (by clear qm v1 v2 v3 v4; omega), w3, cal_s, nmS_s, mX_a, qm, v1, v2, mX_1, x1, cal_s, nmS_s, mX_b, v3, v4, mX_2, w32_s (by clear qm v1 v2 v3 v4; omega)]
    rfl
  · rw [dn_X9_reckon_13, if_neg (by clear qm v1 v2 v3 v4; omega), w4]
    unfold aft
    have hz : ¬ (1 ≤ m) → er T c m = 0 := fun z => by
      have : m = 0 := by omega
      subst this
      unfold er
      simp
    have s1 : ∀ X : St, X = mM T (A + w * Q) B → dn_X9_reckon_104 (fun x1_ x2_ x3_ x4_ S_ => dn_X9_reckon_13 k x1_ x2_ x3_ x4_ S_) (N : Int) r (c : Int) (m : Int) w ((N + 1 : Nat) : Int) X = dn_X9_reckon_13 k (N : Int) r (c : Int) ((m + 1 : Nat) : Int) (mM T (A + w * Q) (B + w * er T c m)) := fun X hX => by
      subst hX
      unfold dn_X9_reckon_104
      by_cases z : 1 ≤ m
      · rw [if_neg (by clear qm v1 v2 v3 v4; omega), y1, cal_s, nmS_s, mM_b, v3, v4, mM_2, w32_s (by clear qm v1 v2 v3 v4; omega)]
        rfl
      · rw [if_pos (by clear qm v1 v2 v3 v4; omega), hz z, Int.mul_zero, Int.add_zero, w32_s (by clear qm v1 v2 v3 v4; omega)]
        rfl
    by_cases z : m ≤ c
    · rw [if_pos (by clear qm v1 v2 v3 v4; omega)]
      rw [if_pos z] at hQ
      exact s1 _ (by rw [← hQ, Int.mul_zero, Int.add_zero])
    · rw [if_neg (by clear qm v1 v2 v3 v4; omega), nmS_s]
      rw [if_neg z] at hQ
      refine s1 _ ?_
      have : w32 ((m : Int) - c) = Q := by rw [w32_id ⟨by clear qm v1 v2 v3 v4; omega, by clear qm v1 v2 v3 v4; omega⟩]; exact hQ
      rw [mM_a, this, v1, v2, mM_1]
theorem sim_fl (h : SP S T) {N c : Nat} {r : Int} (hN : 1 ≤ N ∧ N ≤ 8) (hc : 1 ≤ c ∧ c ≤ 8) (hr : 1 ≤ r ∧ r ≤ 9) : ∀ (d m n k : Nat) (A B : Int), m + d = N + 1 → (0 ≤ A ∧ A ≤ m * 5777633090469888) → (0 ≤ B ∧ B ≤ m * 51998697814228992) → (2 ≤ m → 1 ≤ B) → d < n → d < k →
    ∃ A' B', (0 ≤ A' ∧ A' < 9223372036854775808) ∧ (1 ≤ B' ∧ B' < 9223372036854775808) ∧ dn_X5_find_13 n (N : Int) r (c : Int) (m : Int) (mX S A B) = some (mX S A' B', 0) ∧ dn_X9_reckon_13 k (N : Int) r (c : Int) (m : Int) (mM T A B) = some (mM T A' B', 0) := by
  intro d
  induction d with
  | zero =>
    intro m n k A B hd hA hB h2 hn hk
    obtain ⟨n, rfl⟩ : ∃ q, n = q + 1 := ⟨n - 1, by omega⟩
    obtain ⟨k, rfl⟩ : ∃ q, k = q + 1 := ⟨k - 1, by omega⟩
    have hB1 : 1 ≤ B := h2 (by omega)
    have hA9 : A < 9223372036854775808 := by omega
    have hB9 : B < 9223372036854775808 := by omega
    obtain ⟨g, g1, g2, g3, g4, g5⟩ := sim_gcd (S := mX S A B) (T := mM T A B) 126 FU FU A B 0 (x0 := A) (x2 := B) (Or.inl ⟨63, rfl, p63 (by omega)⟩) hA.1 hB.1 (by omega) hB9 (by omega) (FU_lt (by omega)) (FU_lt (by omega))
    have g4 : dn_X5_commonDivisor A B (mX S A B) = some (mX S A B, g) := g4
    have g5 : dn_X9_gcd A B (mM T A B) = some (mM T A B, g) := g5
    have gB := g2 (by omega)
    have d1 := dv_rng (a := A) (b := g) hA.1 (by omega)
    have d2 := dv_rng (a := B) (b := g) hB.1 (by omega)
    have d3 : 1 ≤ B / g := (Int.le_ediv_iff_mul_le (by omega)).mpr (by omega)
    have e1 := wd_eq (a := A) (b := g) hA.1 (by omega) hA9
    have e2 := wd_eq (a := B) (b := g) hB.1 (by omega) hB9
    refine ⟨A / g, B / g, by clear e1 e2; omega, by clear e1 e2; omega, ?_, ?_⟩
    · rw [dn_X5_find_13, if_pos (by clear e1 e2; omega), mX_a, mX_b, g4, cal_s]
      by_cases z : g ≤ 1
      · have : g = 1 := by clear e1 e2; omega
        subst this
        rw [if_pos ((cmpJ_l _ _).mpr z), Int.ediv_one, Int.ediv_one]
      · rw [if_neg (fun y => z ((cmpJ_l _ _).mp y)), if_pos (by clear e1 e2; omega), nmS_s, mX_a, e1, mX_1, nmS_s, mX_b, e2, mX_2]
    · rw [dn_X9_reckon_13, if_pos (by clear e1 e2; omega), mM_a, mM_b, g5, cal_s, if_pos (by clear e1 e2; omega), nmS_s, mM_a, e1, mM_1, nmS_s, mM_b, e2, mM_2]
  | succ d ih =>
    intro m n k A B hd hA hB h2 hn hk
    obtain ⟨n, rfl⟩ : ∃ q, n = q + 1 := ⟨n - 1, by omega⟩
    obtain ⟨k, rfl⟩ : ∃ q, k = q + 1 := ⟨k - 1, by omega⟩
    obtain ⟨A', B', a1, a2, a3, a4, a5⟩ := sim_fs h hN.2 hc (show m ≤ N by omega) hr n k hA hB
    rw [a4, a5]
    exact ih (m + 1) n k A' B' (by omega) a1 a2 (fun z => a3 (Or.inr (by omega))) (by omega) (by omega)
theorem mX_n : stU (stU S 13 100001 0) 13 100002 0 = mX S 0 0 := rfl
theorem mX_mX {A B A' B' : Int} : mX (mX S A B) A' B' = mX S A' B' := by
  show stU (stU (mX S A B) 13 100001 A') 13 100002 B' = _
  rw [mX_1, mX_2]
theorem mM_mM {A B A' B' : Int} : mM (mM T A B) A' B' = mM T A' B' := by
  show stU (stU (mM T A B) 0 100034 A') 0 100035 B' = _
  rw [mM_1, mM_2]
theorem sim_find (h : SP S T) {N c : Nat} {r : Int} (hN : 1 ≤ N ∧ N ≤ 8) (hc : 1 ≤ c ∧ c ≤ 8) (hr : 1 ≤ r ∧ r ≤ 9) :
    ∃ A B, (0 ≤ A ∧ A < 9223372036854775808) ∧ (1 ≤ B ∧ B < 9223372036854775808) ∧ dn_X5_find (N : Int) r (c : Int) S = some (mX S A B, 0) ∧ dn_X9_reckon (N : Int) r (c : Int) T = some (mM T A B, 0) := by
  unfold dn_X5_find dn_X9_reckon
  rw [nmS_s, nmS_s, nmS_s, nmS_s]
  exact sim_fl h hN hc hr (N + 1) 0 FU FU 0 0 (by omega) (by omega) (by omega) (fun z => absurd z (by decide)) (FU_lt (by omega)) (FU_lt (by omega))
theorem sim_bs (h : SP S T) {N most : Nat} {r : Int} (hN : 1 ≤ N ∧ N ≤ 8) (hm : most ≤ 8) (hr : 1 ≤ r ∧ r ≤ 9) : ∀ (d c n k : Nat) (A B a b v : Int), c + d = 9 → 1 ≤ c → (0 ≤ a ∧ a < 9223372036854775808) → (1 ≤ b ∧ b < 9223372036854775808) → d < n → d < k →
    ∃ A' B' v', dn_X5_bestSize_25 n (N : Int) r (most : Int) v a b (c : Int) (mX S A B) = some (mX S A' B', v') ∧ dn_X9_best_62 k (N : Int) r (most : Int) v a b (c : Int) (mM T A B) = some (mM T A' B', v') := by
  intro d
  induction d with
  | zero =>
    intro c n k A B a b v hd h1 ha hb hn hk
    obtain ⟨n, rfl⟩ : ∃ q, n = q + 1 := ⟨n - 1, by omega⟩
    obtain ⟨k, rfl⟩ : ∃ q, k = q + 1 := ⟨k - 1, by omega⟩
    refine ⟨A, B, v, ?_, ?_⟩
    · rw [dn_X5_bestSize_25, if_pos (by omega)]
    · rw [dn_X9_best_62, if_pos (by omega)]
  | succ d ih =>
    intro c n k A B a b v hd h1 ha hb hn hk
    obtain ⟨n, rfl⟩ : ∃ q, n = q + 1 := ⟨n - 1, by omega⟩
    obtain ⟨k, rfl⟩ : ∃ q, k = q + 1 := ⟨k - 1, by omega⟩
    by_cases z : most < c
    · refine ⟨A, B, v, ?_, ?_⟩
      · rw [dn_X5_bestSize_25, if_pos (by omega)]
      · rw [dn_X9_best_62, if_pos (by omega)]
    · obtain ⟨A1, B1, a1, a2, a3, a4⟩ := sim_find (SP_m (A := A) (B := B) h) hN (show 1 ≤ c ∧ c ≤ 8 by omega) hr
      rw [mX_mX] at a3
      rw [mM_mM] at a4
      obtain ⟨r0, r1, r2, _⟩ := sim_less (S := mX S A1 B1) (T := mM T A1 B1) 126 FU FU A1 B1 a b 0 (x0 := A1) (x2 := B1) (x4 := a) (x6 := b) (Or.inl ⟨63, rfl, p63 (by omega)⟩) (by omega) (by omega) (by omega) (by omega) (by omega) (by omega) (by omega) (by omega) (by omega) (FU_lt (by omega)) (FU_lt (by omega))
      have r1 : dn_X5_isLess A1 B1 a b (mX S A1 B1) = some (mX S A1 B1, r0) := r1
      have r2 : dn_X9_isLess A1 B1 a b (mM T A1 B1) = some (mM T A1 B1, r0) := r2
      have c1 : ¬ (most : Int) < (c : Int) := by omega
      rw [dn_X5_bestSize_25, dn_X9_best_62, if_neg c1, if_neg c1, a3, a4, cal_s, cal_s, mX_a, mX_b, mM_a, mM_b, r1, r2, cal_s, cal_s]
      by_cases q : r0 = 0
      · rw [if_pos q, if_pos q, w32_s (by omega)]
        exact ih (c + 1) n k A1 B1 a b v (by omega) (by omega) ha hb (by omega) (by omega)
      · rw [if_neg q, if_neg q, mX_a, mX_b, mM_a, mM_b, w32_s (by omega)]
        exact ih (c + 1) n k A1 B1 A1 B1 (c : Int) (by omega) (by omega) a1 a2 (by omega) (by omega)
end MN
section MC
variable {Wk : (Nat → Int) → Int → Int → Int × Int} {S T S' T' : St} {e e2 b b2 : Int}
theorem RE_m {A B : Int} (h : RE Wk e b S T) : RE Wk e b (mX S A B) (mM T A B) := by
  refine RE_k h (fun k f hk => ?_) (fun k f hk hk2 => ?_) (fun f hf => ?_) (Rk_of h.1.2.2.2.2 (fun k f a1 a2 => ?_) (fun f => ?_) ?_)
  · unfold mX; rw [stU_cell _ _ _ _ (by omega), stU_cell _ _ _ _ (by omega)]
  · unfold mM; rw [stU_cell _ _ _ _ (by omega), stU_cell _ _ _ _ (by omega)]
  · unfold mM; rw [stU_slot _ _ _ _ (by omega), stU_slot _ _ _ _ (by omega)]
  · unfold mX; rw [stU_cell _ _ _ _ (by omega), stU_cell _ _ _ _ (by omega)]
  · unfold mM; rw [stU_cell _ _ _ _ (by omega), stU_cell _ _ _ _ (by omega)]
  · unfold mM; rw [stU_slot _ _ _ _ (by omega), stU_slot _ _ _ _ (by omega)]
theorem RE_SP (h : RE Wk e b S T) : SP S T := ⟨h.1.2.2.2.1.2.1, h.2.2.2.2.1.2.2.2.2.2.2.2.2.2.2.1⟩
theorem X_cb {a0 a1 a2 : Int} : dn_X8_countable a0 a1 a2 S = some (S, if (1 ≤ a0 ∧ a0 ≤ 8) ∧ (1 ≤ a1 ∧ a1 ≤ 9) ∧ (1 ≤ a2 ∧ a2 ≤ 8) then 1 else 0) := by
  have n10 : ¬ (1 : Int) = 0 := by decide
  unfold dn_X8_countable
  rw [X_in, cal_s]
  by_cases q0 : 1 ≤ a0 ∧ a0 ≤ 8
  · rw [if_pos q0, if_neg n10, X_in, cal_s]
    by_cases q1 : 1 ≤ a1 ∧ a1 ≤ 9
    · rw [if_pos q1, if_neg n10, X_in, cal_s]
      by_cases q2 : 1 ≤ a2 ∧ a2 ≤ 8
      · rw [if_pos q2, if_neg n10, if_pos ⟨q0, q1, q2⟩]
      · rw [if_neg q2, if_pos rfl, if_neg (show ¬ ((1 ≤ a0 ∧ a0 ≤ 8) ∧ (1 ≤ a1 ∧ a1 ≤ 9) ∧ (1 ≤ a2 ∧ a2 ≤ 8)) from fun z => q2 z.2.2)]
    · rw [if_neg q1, if_pos rfl, if_neg (show ¬ ((1 ≤ a0 ∧ a0 ≤ 8) ∧ (1 ≤ a1 ∧ a1 ≤ 9) ∧ (1 ≤ a2 ∧ a2 ≤ 8)) from fun z => q1 z.2.1)]
  · rw [if_neg q0, if_pos rfl, if_neg (show ¬ ((1 ≤ a0 ∧ a0 ≤ 8) ∧ (1 ≤ a1 ∧ a1 ≤ 9) ∧ (1 ≤ a2 ∧ a2 ≤ 8)) from fun z => q0 z.1)]
theorem call_mean {a0 a1 a2 a3 : Int} (h : RE Wk (-1) b S T) : ∃ S' T' r, dn_X8_mean a0 a1 a2 a3 S = some (S', r) ∧ dn_X9_mean a0 a1 a2 a3 T = some (T', r) ∧ RE Wk (-1) b S' T' := by
  have h1 := RE_thr (x := 0) h
  have n10 : ¬ (1 : Int) = 0 := by decide
  unfold dn_X8_mean dn_X9_mean
  rw [nmS_s, X_cb, cal_s]
  generalize stU T 0 33 0 = T1 at h1 ⊢
  rw [M_in, cal_s]
  by_cases q0 : 1 ≤ a0 ∧ a0 ≤ 8
  · rw [if_pos q0, if_neg n10, M_in, cal_s]
    by_cases q1 : 1 ≤ a1 ∧ a1 ≤ 9
    · rw [if_pos q1, if_neg n10, M_in, cal_s]
      by_cases q2 : 1 ≤ a2 ∧ a2 ≤ 8
      · rw [if_pos q2, if_neg n10, if_pos (show (1 ≤ a0 ∧ a0 ≤ 8) ∧ (1 ≤ a1 ∧ a1 ≤ 9) ∧ (1 ≤ a2 ∧ a2 ≤ 8) from ⟨q0, q1, q2⟩), if_neg n10, X_in, cal_s, M_in, cal_s]
        by_cases q3 : 0 ≤ a3 ∧ a3 ≤ 1
        · rw [if_pos q3, if_neg n10, if_neg n10]
          obtain ⟨N, rfl⟩ : ∃ N : Nat, a0 = N := ⟨a0.toNat, by omega⟩
          obtain ⟨c, rfl⟩ : ∃ c : Nat, a2 = c := ⟨a2.toNat, by omega⟩
          obtain ⟨A, B, _, _, f1, f2⟩ := sim_find (RE_SP h1) (show 1 ≤ N ∧ N ≤ 8 by omega) (show 1 ≤ c ∧ c ≤ 8 by omega) q1
          rw [f1, f2, cal_s, cal_s, mX_a, mX_b, mM_a, mM_b]
          by_cases z : a3 = 0
          · rw [if_pos z, if_pos z]; exact ⟨_, _, _, rfl, rfl, RE_m h1⟩
          · rw [if_neg z, if_neg z]; exact ⟨_, _, _, rfl, rfl, RE_m h1⟩
        · rw [if_neg q3, if_pos rfl, if_pos rfl]; exact ⟨_, _, _, rfl, rfl, h1⟩
      · rw [if_neg q2, if_pos rfl, if_neg (show ¬ ((1 ≤ a0 ∧ a0 ≤ 8) ∧ (1 ≤ a1 ∧ a1 ≤ 9) ∧ (1 ≤ a2 ∧ a2 ≤ 8)) from fun z => q2 z.2.2), if_pos rfl]; exact ⟨_, _, _, rfl, rfl, h1⟩
    · rw [if_neg q1, if_pos rfl, if_neg (show ¬ ((1 ≤ a0 ∧ a0 ≤ 8) ∧ (1 ≤ a1 ∧ a1 ≤ 9) ∧ (1 ≤ a2 ∧ a2 ≤ 8)) from fun z => q1 z.2.1), if_pos rfl]; exact ⟨_, _, _, rfl, rfl, h1⟩
  · rw [if_neg q0, if_pos rfl, if_neg (show ¬ ((1 ≤ a0 ∧ a0 ≤ 8) ∧ (1 ≤ a1 ∧ a1 ≤ 9) ∧ (1 ≤ a2 ∧ a2 ≤ 8)) from fun z => q0 z.1), if_pos rfl]; exact ⟨_, _, _, rfl, rfl, h1⟩
theorem call_best {a0 a1 a2 : Int} (h : RE Wk (-1) b S T) : ∃ S' T' r, dn_X8_best a0 a1 a2 S = some (S', r) ∧ dn_X9_best a0 a1 a2 T = some (T', r) ∧ RE Wk (-1) b S' T' := by
  have h1 := RE_thr (x := 0) h
  have n10 : ¬ (1 : Int) = 0 := by decide
  unfold dn_X8_best dn_X5_bestSize dn_X9_best
  rw [nmS_s, X_cb, cal_s]
  generalize stU T 0 33 0 = T1 at h1 ⊢
  rw [M_in, cal_s]
  by_cases q0 : 1 ≤ a0 ∧ a0 ≤ 8
  · rw [if_pos q0, if_neg n10, M_in, cal_s]
    by_cases q1 : 1 ≤ a1 ∧ a1 ≤ 9
    · rw [if_pos q1, if_neg n10, M_in, cal_s]
      by_cases q2 : 1 ≤ a2 ∧ a2 ≤ 8
      · rw [if_pos q2, if_neg n10, if_pos (show (1 ≤ a0 ∧ a0 ≤ 8) ∧ (1 ≤ a1 ∧ a1 ≤ 9) ∧ (1 ≤ a2 ∧ a2 ≤ 8) from ⟨q0, q1, q2⟩), if_neg n10]
        obtain ⟨N, rfl⟩ : ∃ N : Nat, a0 = N := ⟨a0.toNat, by omega⟩
        obtain ⟨c, rfl⟩ : ∃ c : Nat, a2 = c := ⟨a2.toNat, by omega⟩
        obtain ⟨A, B, b1, b2, f1, f2⟩ := sim_find (RE_SP h1) (show 1 ≤ N ∧ N ≤ 8 by omega) (show 1 ≤ 1 ∧ 1 ≤ 8 by omega) q1
        have f1 : dn_X5_find (N : Int) a1 1 S = some (mX S A B, 0) := f1
        have f2 : dn_X9_reckon (N : Int) a1 1 T1 = some (mM T1 A B, 0) := f2
        rw [f1, f2, cal_s, cal_s]
        simp only [nmV]
        rw [mX_a, mX_b, mM_a, mM_b]
        obtain ⟨A', B', v', g1, g2⟩ := sim_bs (RE_SP h1) (show 1 ≤ N ∧ N ≤ 8 by omega) (show c ≤ 8 by omega) q1 7 2 FU FU A B A B 1 (by omega) (by omega) b1 b2 (FU_lt (by omega)) (FU_lt (by omega))
        have g1 : dn_X5_bestSize_25 FU (N : Int) a1 (c : Int) 1 A B 2 (mX S A B) = some (mX S A' B', v') := g1
        have g2 : dn_X9_best_62 FU (N : Int) a1 (c : Int) 1 A B 2 (mM T1 A B) = some (mM T1 A' B', v') := g2
        rw [g1, g2, cal_s]
        exact ⟨_, _, _, rfl, rfl, RE_m h1⟩
      · rw [if_neg q2, if_pos rfl, if_neg (show ¬ ((1 ≤ a0 ∧ a0 ≤ 8) ∧ (1 ≤ a1 ∧ a1 ≤ 9) ∧ (1 ≤ a2 ∧ a2 ≤ 8)) from fun z => q2 z.2.2), if_pos rfl]; exact ⟨_, _, _, rfl, rfl, h1⟩
    · rw [if_neg q1, if_pos rfl, if_neg (show ¬ ((1 ≤ a0 ∧ a0 ≤ 8) ∧ (1 ≤ a1 ∧ a1 ≤ 9) ∧ (1 ≤ a2 ∧ a2 ≤ 8)) from fun z => q1 z.2.1), if_pos rfl]; exact ⟨_, _, _, rfl, rfl, h1⟩
  · rw [if_neg q0, if_pos rfl, if_neg (show ¬ ((1 ≤ a0 ∧ a0 ≤ 8) ∧ (1 ≤ a1 ∧ a1 ≤ 9) ∧ (1 ≤ a2 ∧ a2 ≤ 8)) from fun z => q0 z.1), if_pos rfl]; exact ⟨_, _, _, rfl, rfl, h1⟩
end MC
