/-! states and sure: what a walk finds, in one word for both -/
def tkf (f : Nat → Int) : Nat → Nat := fun i => (f i).toNat
noncomputable def WK (f : Nat → Int) (m c : Int) : Int × Int := (CC m.toNat (tkf f) (GG m.toNat c.toNat (tkf f)), CC m.toNat (tkf f) (fun h => GG m.toNat c.toNat (tkf f) h ∧ c.toNat ≤ tkn m.toNat (tkf f) h))
theorem fnd_CC {q t : Nat → Nat} {m c : Nat} (hq : ∀ k, 0 < q k) (ht : ∀ i, i < m → t i < q i) : fnd q m c t (wt m q) = CC m t (GG m c t) := cn_CC m q t (GG m c t) hq ht
theorem stk_CC {q t : Nat → Nat} {m c : Nat} (hq : ∀ k, 0 < q k) (ht : ∀ i, i < m → t i < q i) : stk q m c t (wt m q) = CC m t (fun h => GG m c t h ∧ c ≤ tkn m t h) := by
  rw [← cn_CC m q t (fun h => GG m c t h ∧ c ≤ tkn m t h) hq ht]
  unfold stk
  refine cn_congr (fun i hi => ?_)
  rw [ind_1, ind_1]
  exact and_assoc
section SU
variable {S T S' T' : St} {b : Int}
/-- the takes as numbers -/
def tkT (T : St) : Nat → Int := fun i => if i < 6 then T 22 i else 0
theorem tk_r (hk : Rk WK S T) {m : Nat} (hm : T 0 32 = (m : Int)) : m ≤ 6 ∧ (∀ i, i < m → 1 ≤ tkf (tkT T) i ∧ tkf (tkT T) i ≤ 4) ∧ CW m (tkf (tkT T)) S ∧ CM m (tkf (tkT T)) T := by
  have h6 := hk.2.1
  have hm6 : m ≤ 6 := by omega
  have e : ∀ i, i < m → (tkf (tkT T) i : Int) = T 22 i ∧ 1 ≤ T 22 i ∧ T 22 i ≤ 4 := fun i hi => by
    have := hk.2.2.2.1 i (by omega)
    unfold tkf tkT
    rw [if_pos (show i < 6 by omega)]
    omega
  refine ⟨hm6, fun i hi => ?_, ⟨by rw [hk.1, hm], fun i hi => ?_⟩, hm, fun i hi => (e i hi).1.symm⟩
  · have := e i hi; omega
  · rw [hk.2.2.1 i (by omega)]; exact (e i hi).1.symm
theorem X_wk (hk : Rk WK S T) {c : Nat} (hc : 1 ≤ c) : ∃ S', dn_X2_walk (c : Int) S = some (S', 0) ∧ WF S S' ∧ (S' 14 5, S' 14 6) = WK (tkT T) (T 0 32) (c : Int) := by
  obtain ⟨m, hm⟩ : ∃ m : Nat, T 0 32 = (m : Int) := ⟨(T 0 32).toNat, by have := hk.2.1; omega⟩
  obtain ⟨h1, h2, h3, h4⟩ := tk_r hk hm
  obtain ⟨S', a1, a2, a3, a4⟩ := X_walk (c := c) h1 hc h2 h3
  refine ⟨S', a1, a2, ?_⟩
  rw [a3, a4, fnd_CC (fun k => Nat.succ_pos _) (fun i _ => Nat.lt_succ_self _), stk_CC (fun k => Nat.succ_pos _) (fun i _ => Nat.lt_succ_self _)]
  unfold WK
  rw [hm, Int.toNat_natCast, Int.toNat_natCast]
theorem M_wk (hk : Rk WK S T) {c : Nat} (hc : 1 ≤ c) : ∃ T' v, dn_X9_walk (c : Int) T = some (T', v) ∧ (v, T' 0 38) = WK (tkT T) (T 0 32) (c : Int) ∧ (∀ q f, q ≠ 23 → q ≠ 24 → (q = 0 → f ≠ 38) → T' q f = T q f) := by
  obtain ⟨m, hm⟩ : ∃ m : Nat, T 0 32 = (m : Int) := ⟨(T 0 32).toNat, by have := hk.2.1; omega⟩
  obtain ⟨h1, h2, h3, h4⟩ := tk_r hk hm
  obtain ⟨T', v, a1, a2, a3, a4⟩ := M_walk (c := c) h1 hc h2 h4
  refine ⟨T', v, a1, ?_, a4⟩
  have hq : ∀ i, i < m → tkf (tkT T) i < q5 i := fun i hi => by have := h2 i hi; show _ < 5; omega
  rw [a2, a3, ← wq, fnd_CC q5_p hq, stk_CC q5_p hq]
  unfold WK
  rw [hm, Int.toNat_natCast, Int.toNat_natCast]
theorem tkT_o (h : ∀ q f, q ≠ 23 → q ≠ 24 → (q = 0 → f ≠ 38) → T' q f = T q f) : tkT T' = tkT T := by
  funext i
  unfold tkT
  rw [h 22 i (by decide) (by decide) (fun z => absurd z (by decide))]
theorem RE_w (h : RE WK (-1) b S T) (hS : ∀ k f, k < 13 ∨ 18 ≤ k → S' k f = S k f) (hT : ∀ q f, q ≠ 23 → q ≠ 24 → (q = 0 → f ≠ 38) → T' q f = T q f) (h3 : S' 14 3 = S 14 3) (h15 : ∀ f, S' 15 f = S 15 f) (hk : S' 14 4 ≠ 0 → (1 ≤ S' 14 4 ∧ S' 14 4 ≤ 24) ∧ (S' 14 5, S' 14 6) = WK (tkT T) (T 0 32) (S' 14 4)) : RE WK (-1) b S' T' := by
  have k0 := h.1.2.2.2.2
  refine RE_k h hS (fun k f h1 h2 => hT k f (by omega) (by omega) (fun z => absurd z h1)) (fun f hf => hT 0 f (by decide) (by decide) (fun _ => by omega)) ⟨?_, ?_, fun i hi => ?_, fun i hi => ?_, fun z => ?_⟩
  · rw [h3, hT 0 32 (by decide) (by decide) (by decide)]; exact k0.1
  · rw [hT 0 32 (by decide) (by decide) (by decide)]; exact k0.2.1
  · rw [h15, hT 22 i (by decide) (by decide) (fun z => absurd z (by decide))]; exact k0.2.2.1 i hi
  · rw [hT 0 32 (by decide) (by decide) (by decide)] at hi
    rw [hT 22 i (by decide) (by decide) (fun z => absurd z (by decide))]; exact k0.2.2.2.1 i hi
  · have := hk z
    have e := tkT_o hT
    refine ⟨this.1, ?_⟩
    rw [this.2, hT 0 32 (by decide) (by decide) (by decide), ← e]
    rfl
theorem call_states {a0 a1 : Int} (h : RE WK (-1) b S T) : ∃ S' T' r, dn_X8_states a0 a1 S = some (S', r) ∧ dn_X9_states a0 a1 T = some (T', r) ∧ RE WK (-1) b S' T' := by
  have h1 := RE_thr (x := 0) h
  unfold dn_X8_states dn_X2_figure dn_X9_states
  rw [nmS_s]
  generalize stU T 0 33 0 = T1 at h1 ⊢
  rw [X_in, cal_s, M_in, cal_s]
  by_cases q : 1 ≤ a0 ∧ a0 ≤ 24
  · rw [if_pos q, if_neg (show ¬ (1 : Int) = 0 by decide), if_neg (show ¬ (1 : Int) = 0 by decide), X_in, cal_s, M_in, cal_s]
    by_cases q1 : 0 ≤ a1 ∧ a1 ≤ 1
    · rw [if_pos q1, if_neg (show ¬ (1 : Int) = 0 by decide), if_neg (show ¬ (1 : Int) = 0 by decide)]
      obtain ⟨c, rfl⟩ : ∃ c : Nat, a0 = (c : Int) := ⟨a0.toNat, by omega⟩
      have hk := h1.1.2.2.2.2
      obtain ⟨T', v, m1, m2, m3⟩ := M_wk hk (c := c) (by omega)
      rw [m1, cal_s]
      by_cases q4 : S 14 4 = (c : Int)
      · rw [if_pos q4]
        have kk := hk.2.2.2.2 (by omega)
        have e : (S 14 5, S 14 6) = (v, T' 0 38) := by rw [m2, ← q4]; exact kk.2
        have e5 : S 14 5 = v := congrArg Prod.fst e
        have e6 : S 14 6 = T' 0 38 := congrArg Prod.snd e
        have hr : RE WK (-1) b S T' := RE_w h1 (fun _ _ _ => rfl) m3 rfl (fun _ => rfl) (fun _ => kk)
        by_cases q0 : a1 = 0
        · rw [if_pos q0, if_pos q0, cal_s, e5]; exact ⟨_, _, _, rfl, rfl, hr⟩
        · rw [if_neg q0, if_neg q0, cal_s, e6]; exact ⟨_, _, _, rfl, rfl, hr⟩
      · rw [if_neg q4]
        obtain ⟨S', x1, x2, x3⟩ := X_wk hk (c := c) (by omega)
        rw [x1, cal_s, nmS_s]
        have e : (S' 14 5, S' 14 6) = (v, T' 0 38) := by rw [m2, x3]
        have e5 : stU S' 14 4 (c : Int) 14 5 = v := (stU_slot _ _ _ _ (by decide)).trans (congrArg Prod.fst e)
        have e6 : stU S' 14 4 (c : Int) 14 6 = T' 0 38 := (stU_slot _ _ _ _ (by decide)).trans (congrArg Prod.snd e)
        have hr : RE WK (-1) b (stU S' 14 4 (c : Int)) T' := RE_w h1 (fun k f hk => by rw [stU_cell _ _ _ _ (by omega), x2 k f (by omega) (by omega) (by omega)]) m3 (by rw [stU_slot _ _ _ _ (by decide), x2 14 3 (by decide) (by decide) (by decide)]) (fun f => by rw [stU_cell _ _ _ _ (by decide), x2 15 f (by decide) (by decide) (fun z => absurd z (by decide))]) (fun _ => by
          rw [stU_same, e5, e6, m2]
          exact ⟨by omega, rfl⟩)
        by_cases q0 : a1 = 0
        · rw [if_pos q0, if_pos q0, cal_s, e5]; exact ⟨_, _, _, rfl, rfl, hr⟩
        · rw [if_neg q0, if_neg q0, cal_s, e6]; exact ⟨_, _, _, rfl, rfl, hr⟩
    · rw [if_neg q1, if_pos rfl, if_pos rfl, cal_s]
      exact ⟨_, _, _, rfl, rfl, h1⟩
  · rw [if_neg q, if_pos rfl, if_pos rfl, cal_s]
    exact ⟨_, _, _, rfl, rfl, h1⟩
/-! sure -/
def su : Nat → (Nat → Nat) → Nat
  | 0, _ => 0
  | m + 1, t => su m t + (t m - 1)
theorem su_le {t : Nat → Nat} : ∀ {m : Nat}, (∀ i, i < m → t i ≤ 4) → su m t ≤ 3 * m
  | 0, _ => by simp [su]
  | m + 1, h => by
    have := su_le (m := m) (fun i hi => h i (by omega))
    have h4 := h m (by omega)
    rw [su]; omega
theorem tkn_su {t h : Nat → Nat} : ∀ {m : Nat}, tkn m t h ≤ su m t
  | 0 => by simp [su, tkn]
  | m + 1 => by
    have := tkn_su (t := t) (h := h) (m := m)
    have : con t h m ≤ t m - 1 := by unfold con; split <;> omega
    rw [su, tkn]; omega
theorem su_ex {t : Nat → Nat} : ∀ {m c : Nat}, (∀ i, i < m → 1 ≤ t i) → c ≤ su m t → ∃ h : Nat → Nat, (∀ i, i < m → h i < t i) ∧ (∀ i, m ≤ i → h i = 0) ∧ tkn m t h = c
  | 0, c, ht, hc => ⟨fun _ => 0, fun i hi => by omega, fun _ _ => rfl, by simp [su] at hc; simp [tkn, hc]⟩
  | m + 1, c, ht, hc => by
    rw [su] at hc
    have h1 := ht m (by omega)
    by_cases z : c ≤ su m t
    · obtain ⟨h, a1, a2, a3⟩ := su_ex (fun i hi => ht i (by omega)) z
      have e := a2 m (by omega)
      refine ⟨h, fun i hi => ?_, fun i hi => a2 i (by omega), ?_⟩
      · by_cases y : i = m
        · rw [y, e]; omega
        · exact a1 i (by omega)
      · rw [tkn, con, e, ite_self, a3, Nat.add_zero]
    · obtain ⟨h, a1, a2, a3⟩ := su_ex (fun i hi => ht i (by omega)) (Nat.le_refl (su m t))
      refine ⟨fun i => if i = m then c - su m t else h i, fun i hi => ?_, fun i hi => ?_, ?_⟩
      · by_cases y : i = m
        · simp only [y, if_true]; omega
        · simp only [y, if_false]; exact a1 i (by omega)
      · have y : i ≠ m := by omega
        simp only [y, if_false]; exact a2 i (by omega)
      · have e9 : tkn m t (fun i => if i = m then c - su m t else h i) = tkn m t h := tkn_eq (fun i hi => if_neg (by omega))
        rw [tkn, con, e9, a3]
        simp only [if_true]
        rw [if_pos (by omega)]; omega
theorem stuck_iff {t : Nat → Nat} {m c : Nat} (ht : ∀ i, i < m → 1 ≤ t i) : (c ≤ su m t → 1 ≤ CC m t (fun h => GG m c t h ∧ c ≤ tkn m t h)) ∧ (su m t < c → CC m t (fun h => GG m c t h ∧ c ≤ tkn m t h) = 0) := by
  constructor
  · intro hc
    obtain ⟨h, a1, a2, a3⟩ := su_ex ht hc
    refine CC_pos m t _ h (fun i hi => Nat.le_of_lt (a1 i hi)) a2 ⟨⟨by omega, fun i hi z => ?_⟩, by omega⟩
    have := a1 i hi
    omega
  · intro hc
    refine CC_nil m t _ (fun h _ z => ?_)
    have := tkn_su (t := t) (h := h) (m := m)
    have := z.2
    omega
theorem X_su {m : Nat} {t : Nat → Nat} (hm : m ≤ 6) (ht : ∀ i, i < m → 1 ≤ t i ∧ t i ≤ 4) (h : CW m t S) : ∀ (d k n : Nat), k + d = m → d < n → dn_X2_sureLines_4 n ((1 + su k t : Nat) : Int) (k : Int) S = some (S, ((1 + su m t : Nat) : Int)) := by
  intro d
  induction d with
  | zero =>
    intro k n hd hn
    obtain ⟨n, rfl⟩ : ∃ q, n = q + 1 := ⟨n - 1, by omega⟩
    have : k = m := by omega
    rw [dn_X2_sureLines_4, h.1, if_pos (by omega), this]
  | succ d ih =>
    intro k n hd hn
    obtain ⟨n, rfl⟩ : ∃ q, n = q + 1 := ⟨n - 1, by omega⟩
    have hk : k < m := by omega
    have a1 := ht k hk
    have a2 := su_le (t := t) (m := k) (fun i hi => (ht i (by omega)).2)
    rw [dn_X2_sureLines_4, h.1, if_neg (by omega), if_pos (by omega), Int.toNat_natCast, h.2 k hk, nmV_s, nmV_s, w32_s (by omega)]
    have w1 : w32 ((t k : Int) - 1) = (t k : Int) - 1 := w32_id ⟨by omega, by omega⟩
    have w2 : w32 (((1 + su k t : Nat) : Int) + ((t k : Int) - 1)) = ((1 + su (k + 1) t : Nat) : Int) := by
      rw [su, w32_id ⟨by omega, by omega⟩]; omega
    rw [w1, w2]
    exact ih (k + 1) n (by omega) (by omega)
theorem M_su {m : Nat} {t : Nat → Nat} : ∀ (d c n : Nat) (T : St), c + d = 25 → 1 ≤ c → d < n → RE WK (-1) b S T → T 0 32 = (m : Int) → t = tkf (tkT T) → su m t ≤ 24 →
    ∃ T', dn_X9_sure_9 n ((1 + (if su m t < c then su m t else c - 1) : Nat) : Int) (c : Int) T = some (T', ((1 + su m t : Nat) : Int)) ∧ RE WK (-1) b S T' := by
  intro d
  induction d with
  | zero =>
    intro c n T hd hc hn h hm e hs
    obtain ⟨n, rfl⟩ : ∃ q, n = q + 1 := ⟨n - 1, by omega⟩
    rw [dn_X9_sure_9, if_pos (by omega), if_pos (by omega)]
    exact ⟨T, rfl, h⟩
  | succ d ih =>
    intro c n T hd hc hn h hm e hs
    obtain ⟨n, rfl⟩ : ∃ q, n = q + 1 := ⟨n - 1, by omega⟩
    have hk := h.1.2.2.2.2
    obtain ⟨T', v, m1, m2, m3⟩ := M_wk hk hc
    obtain ⟨k1, k2, k3, k4⟩ := tk_r hk hm
    have hr : RE WK (-1) b S T' := RE_w h (fun _ _ _ => rfl) m3 rfl (fun _ => rfl) hk.2.2.2.2
    have e38 : T' 0 38 = CC m t (fun h => GG m c t h ∧ c ≤ tkn m t h) := by
      have := congrArg Prod.snd m2
      rw [hm] at this
      unfold WK at this
      rw [Int.toNat_natCast, Int.toNat_natCast, ← e] at this
      exact this
    have st := stuck_iff (t := t) (m := m) (c := c) (fun i hi => by rw [e]; exact (k2 i hi).1)
    obtain ⟨T2, n1, n2⟩ := ih (c + 1) n T' (by omega) (by omega) (by omega) hr (by rw [m3 0 32 (by decide) (by decide) (by decide)]; exact hm) (by rw [tkT_o m3]; exact e) hs
    rw [dn_X9_sure_9, if_neg (by omega), m1, cal_s, nmV_s, nmV_s, nmV_s, w32_s (by omega)]
    by_cases z : c ≤ su m t
    · have := st.1 z
      rw [if_neg (by omega)]
      have ev : ((1 + (if su m t < c + 1 then su m t else c + 1 - 1) : Nat) : Int) = ((c + 1 : Nat) : Int) := by split <;> omega
      rw [ev] at n1
      exact ⟨T2, n1, n2⟩
    · have := st.2 (by omega)
      rw [if_pos (by omega), if_pos (by omega)]
      rw [if_pos (by omega)] at n1
      exact ⟨T2, n1, n2⟩
theorem call_sure (h : RE WK (-1) b S T) : ∃ S' T' r, dn_X8_sure S = some (S', r) ∧ dn_X9_sure T = some (T', r) ∧ RE WK (-1) b S' T' := by
  have h1 := RE_thr (x := 0) h
  unfold dn_X8_sure dn_X2_sureLines dn_X9_sure
  rw [nmS_s]
  generalize stU T 0 33 0 = T1 at h1 ⊢
  have hk := h1.1.2.2.2.2
  obtain ⟨m, hm⟩ : ∃ m : Nat, T1 0 32 = (m : Int) := ⟨(T1 0 32).toNat, by have := hk.2.1; omega⟩
  obtain ⟨k1, k2, k3, k4⟩ := tk_r hk hm
  have hs := su_le (t := tkf (tkT T1)) (m := m) (fun i hi => (k2 i hi).2)
  have x := X_su k1 k2 k3 m 0 FU (by omega) (FU_lt (by omega))
  have x : dn_X2_sureLines_4 FU 1 0 S = some (S, ((1 + su m (tkf (tkT T1)) : Nat) : Int)) := x
  obtain ⟨T', a1, a2⟩ := M_su (m := m) (t := tkf (tkT T1)) (S := S) (b := b) 24 1 FU T1 (by omega) (by omega) (FU_lt (by omega)) h1 hm rfl (by omega)
  have e : ((1 + (if su m (tkf (tkT T1)) < 1 then su m (tkf (tkT T1)) else 1 - 1) : Nat) : Int) = 1 := by split <;> omega
  rw [e] at a1
  have a1 : dn_X9_sure_9 FU 1 1 T1 = some (T', ((1 + su m (tkf (tkT T1)) : Nat) : Int)) := a1
  rw [x, cal_s, a1]
  exact ⟨_, _, _, rfl, rfl, a2⟩
end SU
