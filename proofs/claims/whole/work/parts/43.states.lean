/-! which states are reached, and how many -/
noncomputable def ind (P : Prop) : Int := @ite Int P (Classical.propDecidable P) 1 0
theorem ind_p {P : Prop} (h : P) : ind P = 1 := by unfold ind; exact if_pos h
theorem ind_n {P : Prop} (h : ¬ P) : ind P = 0 := by unfold ind; exact if_neg h
theorem ind_1 {P : Prop} : ind P = 1 ↔ P := by
  by_cases q : P
  · rw [ind_p q]; simp [q]
  · rw [ind_n q]; simp [q]
theorem ind_c {P Q : Prop} (h : P ↔ Q) : ind P = ind Q := by rw [propext h]
def con (t h : Nat → Nat) (i : Nat) : Nat := if h i < t i then h i else 0
def tkn : Nat → (Nat → Nat) → (Nat → Nat) → Nat
  | 0, _, _ => 0
  | m + 1, t, h => tkn m t h + con t h m
theorem tkn_eq {t h h' : Nat → Nat} : ∀ {m : Nat}, (∀ i, i < m → h' i = h i) → tkn m t h' = tkn m t h
  | 0, _ => rfl
  | m + 1, hh => by
    rw [tkn, tkn, tkn_eq (fun i hi => hh i (by omega)), con, con, hh m (by omega)]
theorem tkn_upd {t h h' : Nat → Nat} {i : Nat} : ∀ {m : Nat}, i < m → (∀ j, j ≠ i → h' j = h j) → tkn m t h' + con t h i = tkn m t h + con t h' i
  | 0, hi, _ => absurd hi (by omega)
  | m + 1, hi, hh => by
    rw [tkn, tkn]
    by_cases z : i = m
    · subst z
      rw [tkn_eq (h := h) (fun j hj => hh j (by omega))]
      omega
    · have := tkn_upd (t := t) (m := m) (show i < m by omega) hh
      have e : con t h' m = con t h m := by unfold con; rw [hh m (by omega)]
      omega
theorem tkn_ge {t h : Nat → Nat} {i : Nat} : ∀ {m : Nat}, i < m → con t h i ≤ tkn m t h
  | 0, hi => absurd hi (by omega)
  | m + 1, hi => by
    rw [tkn]
    by_cases z : i = m
    · subst z; omega
    · have := tkn_ge (t := t) (h := h) (m := m) (show i < m by omega)
      omega
theorem tkn_0 {t h : Nat → Nat} : ∀ {m : Nat}, (∀ i, i < m → con t h i = 0) → tkn m t h = 0
  | 0, _ => rfl
  | m + 1, hh => by rw [tkn, tkn_0 (fun i hi => hh i (by omega)), hh m (by omega)]
def GG (m c : Nat) (t h : Nat → Nat) : Prop := tkn m t h ≤ c ∧ ∀ i, i < m → h i = t i → t i ≤ c
theorem G_in {m c i : Nat} {t h h' : Nat → Nat} (hG : GG m c t h) (hc : tkn m t h < c) (hi : i < m) (h1 : h i < t i) (h2 : h' i = h i + 1) (h3 : ∀ j, j ≠ i → h' j = h j) : GG m c t h' := by
  have hu := tkn_upd (t := t) (m := m) hi h3
  have c1 : con t h i = h i := by unfold con; rw [if_pos h1]
  have hge := tkn_ge (t := t) (h := h) (m := m) hi
  have c2 : con t h' i ≤ h i + 1 := by unfold con; split <;> omega
  refine ⟨by omega, fun j hj e => ?_⟩
  by_cases z : j = i
  · subst z; omega
  · rw [h3 j z] at e; exact hG.2 j hj e
theorem G_pre {m c : Nat} {t h : Nat → Nat} (hc : 1 ≤ c) (hG : GG m c t h) (hV : ∀ i, i < m → h i ≤ t i) (hn : ∃ i, i < m ∧ h i ≠ 0) : ∃ i, i < m ∧ 0 < h i ∧ ∀ h' : Nat → Nat, h' i = h i - 1 → (∀ j, j ≠ i → h' j = h j) → GG m c t h' ∧ tkn m t h' < c := by
  by_cases qA : ∃ i, i < m ∧ 0 < h i ∧ h i < t i
  · obtain ⟨i, hi, h0, h1⟩ := qA
    refine ⟨i, hi, h0, fun h' e1 e2 => ?_⟩
    have hu := tkn_upd (t := t) (m := m) hi e2
    have c1 : con t h i = h i := by unfold con; rw [if_pos h1]
    have c2 : con t h' i = h i - 1 := by unfold con; rw [if_pos (by omega), e1]
    have g1 := hG.1
    refine ⟨⟨by omega, fun j hj e => ?_⟩, by omega⟩
    by_cases z : j = i
    · subst z; omega
    · rw [e2 j z] at e; exact hG.2 j hj e
  · obtain ⟨i, hi, h0⟩ := hn
    have hfull : ∀ j, j < m → h j = 0 ∨ h j = t j := fun j hj => by
      have a1 := hV j hj
      by_cases z : h j = 0
      · exact Or.inl z
      · by_cases z2 : h j = t j
        · exact Or.inr z2
        · exact absurd ⟨j, hj, by omega, by omega⟩ qA
    have hti : h i = t i := by
      rcases hfull i hi with z | z
      · exact absurd z h0
      · exact z
    have htc := hG.2 i hi hti
    have h00 : tkn m t h = 0 := tkn_0 (fun j hj => by
      unfold con
      rcases hfull j hj with z | z
      · rw [z]; split <;> rfl
      · rw [if_neg (by omega)])
    refine ⟨i, hi, by omega, fun h' e1 e2 => ?_⟩
    have hu := tkn_upd (t := t) (m := m) hi e2
    have c2 : con t h' i = h i - 1 := by unfold con; rw [if_pos (by omega), e1]
    refine ⟨⟨by omega, fun j hj e => ?_⟩, by omega⟩
    by_cases z : j = i
    · subst z; omega
    · rw [e2 j z] at e; exact hG.2 j hj e
/-- the state with number s is reached -/
def RR (q : Nat → Nat) (m c : Nat) (t : Nat → Nat) (s : Nat) : Prop := (∀ i, i < m → dg i q s ≤ t i) ∧ GG m c t (fun i => dg i q s)
/-- what is taken in the state with number s -/
def tq (q : Nat → Nat) (m : Nat) (t : Nat → Nat) (s : Nat) : Nat := tkn m t (fun i => dg i q s)
theorem RR_0 {q t : Nat → Nat} {m c : Nat} (ht : ∀ i, i < m → 1 ≤ t i) : RR q m c t 0 := by
  have e : (fun i => dg i q 0) = fun _ => 0 := funext (fun i => dg_zero i q)
  refine ⟨fun i hi => by rw [dg_zero]; omega, ?_⟩
  rw [e]
  refine ⟨by rw [tkn_0 (fun i hi => by unfold con; split <;> rfl)]; omega, fun i hi z => ?_⟩
  have := ht i hi
  simp at z
  omega
theorem RR_in {q t : Nat → Nat} {m c i s : Nat} (hq : ∀ k, 0 < q k) (htq : ∀ k, k < m → t k < q k) (h : RR q m c t s) (hc : tq q m t s < c) (hi : i < m) (h1 : dg i q s < t i) : RR q m c t (s + wt i q) := by
  have hd := fun j => dg_add i q s j hq (by have := htq i hi; omega)
  refine ⟨fun j hj => ?_, G_in h.2 hc hi h1 (by show dg i q _ = _; rw [hd i, if_pos rfl]) (fun j z => by show dg j q _ = _; rw [hd j, if_neg z])⟩
  rw [hd j]
  by_cases z : j = i
  · rw [if_pos z, z]; omega
  · rw [if_neg z]; exact h.1 j hj
theorem RR_pre {q t : Nat → Nat} {m c s : Nat} (hc : 1 ≤ c) (hq : ∀ k, 0 < q k) (hs : s < wt m q) (h0 : s ≠ 0) (h : RR q m c t s) : ∃ y i, i < m ∧ y < s ∧ s = y + wt i q ∧ RR q m c t y ∧ tq q m t y < c ∧ dg i q y < t i := by
  obtain ⟨i, hi, h1, h2⟩ := G_pre hc h.2 h.1 (by
    by_cases z : ∃ i, i < m ∧ dg i q s ≠ 0
    · exact z
    · exact absurd (dg_nz m q s hq hs (fun i hi => by
        by_cases z2 : dg i q s = 0
        · exact z2
        · exact absurd ⟨i, hi, z2⟩ z)) h0)
  have hd := fun j => dg_sub i q s j hq h1
  have hw := wt_pos i q (fun j _ => hq j)
  have hle := (hd 0).1
  have g := h2 (fun j => dg j q (s - wt i q)) (by show dg i q _ = _; rw [(hd i).2, if_pos rfl]) (fun j z => by show dg j q _ = _; rw [(hd j).2, if_neg z])
  refine ⟨s - wt i q, i, hi, by omega, by omega, ⟨fun j hj => ?_, g.1⟩, g.2, ?_⟩
  · have := h.1 j hj
    rw [(hd j).2]
    by_cases z : j = i
    · rw [if_pos z, z]; have := h.1 i hi; omega
    · rw [if_neg z]; exact this
  · have := h.1 i hi
    have h1' : 0 < dg i q s := h1
    rw [(hd i).2, if_pos rfl]; omega
/-! counting them by their digits -/
def sm : Nat → (Nat → Int) → Int
  | 0, _ => 0
  | n + 1, f => sm n f + f n
def cns (d : Nat) (h : Nat → Nat) : Nat → Nat
  | 0 => d
  | i + 1 => h i
noncomputable def CC : Nat → (Nat → Nat) → ((Nat → Nat) → Prop) → Int
  | 0, _, P => ind (P (fun _ => 0))
  | m + 1, t, P => sm (t 0 + 1) (fun d => CC m (fun j => t (j + 1)) (fun h => P (cns d h)))
theorem sm_c {f g : Nat → Int} : ∀ {n : Nat}, (∀ i, i < n → f i = g i) → sm n f = sm n g
  | 0, _ => rfl
  | n + 1, h => by rw [sm, sm, sm_c (fun i hi => h i (by omega)), h n (by omega)]
theorem sm_add {f g : Nat → Int} : ∀ {n : Nat}, sm n (fun d => f d + g d) = sm n f + sm n g
  | 0 => rfl
  | n + 1 => by rw [sm, sm, sm, sm_add]; omega
theorem sm_cut {f : Nat → Int} {n : Nat} : ∀ {k : Nat}, (∀ i, n ≤ i → i < n + k → f i = 0) → sm (n + k) f = sm n f
  | 0, _ => rfl
  | k + 1, h => by
    rw [← Nat.add_assoc, sm, sm_cut (fun i a b => h i a (by omega)), h (n + k) (by omega) (by omega)]
    omega
theorem cn_sm {f : Nat → Int} : ∀ {n : Nat}, cn f 1 n = sm n (fun d => if f d = 1 then 1 else 0)
  | 0 => rfl
  | n + 1 => by rw [cn, sm, cn_sm]
theorem cn_app {f : Nat → Int} {v : Int} {n : Nat} : ∀ {k : Nat}, cn f v (n + k) = cn f v n + cn (fun i => f (n + i)) v k
  | 0 => by simp [cn]
  | k + 1 => by rw [← Nat.add_assoc, cn, cn, cn_app]; omega
theorem cn_nil {f : Nat → Int} {v : Int} : ∀ {n : Nat}, (∀ i, i < n → f i ≠ v) → cn f v n = 0
  | 0, _ => rfl
  | n + 1, h => by rw [cn, cn_nil (fun i hi => h i (by omega)), if_neg (h n (by omega))]; rfl
theorem cn_blk {F : Nat → Nat → Int} {q : Nat} (hq : 0 < q) : ∀ (W : Nat), cn (fun s => F (s % q) (s / q)) 1 (q * W) = sm q (fun d => cn (F d) 1 W)
  | 0 => by
    rw [Nat.mul_zero]
    have := sm_cut (f := fun d => cn (F d) 1 0) (n := 0) (k := q) (fun i _ _ => rfl)
    rw [Nat.zero_add] at this
    rw [this]; rfl
  | W + 1 => by
    rw [Nat.mul_add, Nat.mul_one, cn_app, cn_blk hq W]
    have e1 : cn (fun i => F ((q * W + i) % q) ((q * W + i) / q)) 1 q = sm q (fun d => if F d W = 1 then 1 else 0) := by
      rw [cn_sm]
      refine sm_c (fun i hi => ?_)
      rw [Nat.mul_add_mod, Nat.mod_eq_of_lt hi, Nat.mul_add_div hq, Nat.div_eq_of_lt hi, Nat.add_zero]
    rw [e1, ← sm_add]
    rfl
theorem cn_CC : ∀ (m : Nat) (q t : Nat → Nat) (P : (Nat → Nat) → Prop), (∀ k, 0 < q k) → (∀ i, i < m → t i < q i) → cn (fun s => ind ((∀ i, i < m → dg i q s ≤ t i) ∧ P (fun i => dg i q s))) 1 (wt m q) = CC m t P
  | 0, q, t, P, hq, ht => by
    have e : (fun i => dg i q 0) = fun _ => 0 := funext (fun i => dg_zero i q)
    show cn _ 1 (0 + 1) = _
    rw [cn, cn, CC, e]
    by_cases z : P (fun _ => 0)
    · rw [ind_p z, if_pos (ind_1.mpr ⟨fun i hi => by omega, z⟩)]; rfl
    · rw [ind_n z, if_neg (fun y => z (ind_1.mp y).2)]; rfl
  | m + 1, q, t, P, hq, ht => by
    rw [wt, CC]
    have e : (fun s => ind ((∀ i, i < m + 1 → dg i q s ≤ t i) ∧ P (fun i => dg i q s))) = (fun s => (fun d s' => ind ((d ≤ t 0 ∧ ∀ i, i < m → dg i (fun j => q (j + 1)) s' ≤ t (i + 1)) ∧ P (cns d (fun i => dg i (fun j => q (j + 1)) s')))) (s % q 0) (s / q 0)) := by
      funext s
      have e2 : (fun i => dg i q s) = cns (s % q 0) (fun i => dg i (fun j => q (j + 1)) (s / q 0)) := by
        funext i
        cases i with
        | zero => rfl
        | succ i => rfl
      refine ind_c ?_
      rw [e2]
      constructor
      · rintro ⟨a1, a2⟩
        exact ⟨⟨a1 0 (by omega), fun i hi => a1 (i + 1) (by omega)⟩, a2⟩
      · rintro ⟨⟨a0, a1⟩, a2⟩
        refine ⟨fun i hi => ?_, a2⟩
        cases i with
        | zero => exact a0
        | succ i => exact a1 i (by omega)
    rw [e]
    refine (cn_blk (F := fun d s' => ind ((d ≤ t 0 ∧ ∀ i, i < m → dg i (fun j => q (j + 1)) s' ≤ t (i + 1)) ∧ P (cns d (fun i => dg i (fun j => q (j + 1)) s')))) (hq 0) _).trans ?_
    have h0 := ht 0 (by omega)
    rw [show q 0 = (t 0 + 1) + (q 0 - (t 0 + 1)) by omega, sm_cut (fun i a b => cn_nil (fun j hj z => by have := (ind_1.mp z).1.1; omega))]
    refine sm_c (fun d hd => ?_)
    rw [← cn_CC m (fun j => q (j + 1)) (fun j => t (j + 1)) (fun h => P (cns d h)) (fun k => hq (k + 1)) (fun i hi => ht (i + 1) (by omega))]
    refine cn_congr (fun i hi => ?_)
    rw [ind_1, ind_1]
    constructor
    · rintro ⟨⟨_, a1⟩, a2⟩; exact ⟨a1, a2⟩
    · rintro ⟨a1, a2⟩; exact ⟨⟨by omega, a1⟩, a2⟩
theorem CC_c {m : Nat} {t : Nat → Nat} {P Q : (Nat → Nat) → Prop} (h : ∀ x, P x ↔ Q x) : CC m t P = CC m t Q := by rw [funext (fun x => propext (h x))]
theorem sm_nn {f : Nat → Int} : ∀ {n : Nat}, (∀ i, i < n → 0 ≤ f i) → 0 ≤ sm n f
  | 0, _ => by simp [sm]
  | n + 1, h => by rw [sm]; have := sm_nn (n := n) (fun i hi => h i (by omega)); have := h n (by omega); omega
theorem sm_ge {f : Nat → Int} {k : Nat} : ∀ {n : Nat}, k < n → (∀ i, i < n → 0 ≤ f i) → f k ≤ sm n f
  | 0, h, _ => absurd h (by omega)
  | n + 1, h, h2 => by
    rw [sm]
    have a1 := sm_nn (n := n) (fun i hi => h2 i (by omega))
    have a2 := h2 n (by omega)
    by_cases z : k = n
    · subst z; omega
    · have := sm_ge (n := n) (show k < n by omega) (fun i hi => h2 i (by omega)); omega
theorem CC_nn : ∀ (m : Nat) (t : Nat → Nat) (P : (Nat → Nat) → Prop), 0 ≤ CC m t P
  | 0, t, P => by
    rw [CC]
    by_cases z : P (fun _ => 0)
    · rw [ind_p z]; decide
    · rw [ind_n z]; decide
  | m + 1, t, P => by rw [CC]; exact sm_nn (fun i _ => CC_nn m _ _)
theorem CC_pos : ∀ (m : Nat) (t : Nat → Nat) (P : (Nat → Nat) → Prop) (h : Nat → Nat), (∀ i, i < m → h i ≤ t i) → (∀ i, m ≤ i → h i = 0) → P h → 1 ≤ CC m t P
  | 0, t, P, h, h1, h2, h3 => by
    have e : h = fun _ => 0 := funext (fun i => h2 i (by omega))
    rw [CC, ind_p (by rw [← e]; exact h3)]
    decide
  | m + 1, t, P, h, h1, h2, h3 => by
    rw [CC]
    have e : cns (h 0) (fun i => h (i + 1)) = h := by
      funext i
      cases i with
      | zero => rfl
      | succ i => rfl
    have ih := CC_pos m (fun j => t (j + 1)) (fun g => P (cns (h 0) g)) (fun i => h (i + 1)) (fun i hi => h1 (i + 1) (by omega)) (fun i hi => h2 (i + 1) (by omega)) (by rw [e]; exact h3)
    have := sm_ge (f := fun d => CC m (fun j => t (j + 1)) (fun g => P (cns d g))) (k := h 0) (n := t 0 + 1) (by have := h1 0 (by omega); omega) (fun i _ => CC_nn m _ _)
    exact Int.le_trans ih this
theorem CC_nil : ∀ (m : Nat) (t : Nat → Nat) (P : (Nat → Nat) → Prop), (∀ h : Nat → Nat, (∀ i, i < m → h i ≤ t i) → ¬ P h) → CC m t P = 0
  | 0, t, P, h => by rw [CC, ind_n (h _ (fun i hi => by omega))]
  | m + 1, t, P, h => by
    rw [CC]
    have := sm_cut (f := fun d => CC m (fun j => t (j + 1)) (fun g => P (cns d g))) (n := 0) (k := t 0 + 1) (fun d _ hd => CC_nil m _ _ (fun g hg => h _ (fun i hi => by
      cases i with
      | zero => show d ≤ t 0; omega
      | succ i => exact hg i (by omega))))
    rw [Nat.zero_add] at this
    rw [this]; rfl
