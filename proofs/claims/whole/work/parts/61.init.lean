/-! the start: memories of a new class and a new reference, and the relation between them -/
def S00 : St := fun k f => if k = 2 then (if f < 6 then num f else 0) else if k = 3 then 10 else if 18 ≤ k ∧ k < 30 ∧ f = 3 then -1 else 0
def T00 : St := fun k f => if k = 1 then (if f < 6 then num f else 0) else if k = 2 then loN f else if k = 3 then hiN f else if k = 4 then 10 else 0
theorem num_r (k : Nat) : r32 (num k) := by unfold num; split <;> decide
theorem S00_r (k f : Nat) : r32 (S00 k f) := by
  unfold S00
  split
  · split
    · exact num_r f
    · decide
  · split
    · decide
    · split <;> decide
theorem T00_r (k f : Nat) : r32 (T00 k f) := by
  unfold T00
  split
  · split
    · exact num_r f
    · decide
  · split
    · exact loN_r f
    · split
      · exact hiN_r f
      · split <;> decide
theorem S00_RS : RS S00 := fun k f => ⟨r32_64 (S00_r k f), fun _ => S00_r k f⟩
theorem T00_RS : RS T00 := fun k f => ⟨r32_64 (T00_r k f), fun _ => T00_r k f⟩
theorem S00_0 {k f : Nat} (h2 : k ≠ 2) (h3 : k ≠ 3) (h : ¬ (18 ≤ k ∧ k < 30 ∧ f = 3)) : S00 k f = 0 := by unfold S00; rw [if_neg h2, if_neg h3, if_neg h]
theorem T00_0 {k f : Nat} (h1 : k ≠ 1) (h2 : k ≠ 2) (h3 : k ≠ 3) (h4 : k ≠ 4) : T00 k f = 0 := by unfold T00; rw [if_neg h1, if_neg h2, if_neg h3, if_neg h4]
theorem RE_00 : RE WK (-1) 0 S00 T00 := by
  have hT : ∀ k f, 5 ≤ k → T00 k f = 0 := fun k f h => T00_0 (by omega) (by omega) (by omega) (by omega)
  have hT0 : ∀ f, T00 0 f = 0 := fun f => T00_0 (by decide) (by decide) (by decide) (by decide)
  have hS : ∀ k f, 4 ≤ k → k < 18 → S00 k f = 0 := fun k f h1 h2 => S00_0 (by omega) (by omega) (by omega)
  refine ⟨⟨?_, ?_, ?_, ?_, ?_⟩, ?_, ?_, ?_, ?_, ?_⟩
  · intro j hj
    have s3 : S00 (j + 18) 3 = -1 := by unfold S00; rw [if_neg (by omega), if_neg (by omega), if_pos ⟨by omega, by omega, rfl⟩]
    have s : ∀ f, f ≠ 3 → S00 (j + 18) f = 0 := fun f hf => S00_0 (by omega) (by omega) (by omega)
    unfold LR
    rw [s3, s 1 (by decide), s 2 (by decide), s 4 (by decide), s 5 (by decide), hT 5 j (by decide), hT 6 j (by decide)]
    refine ⟨rfl, rfl, by rw [if_neg (by decide)], by rw [if_neg (by decide)], by rw [if_neg (by decide)]⟩
  · intro c hc f h1 h2
    rw [S00_0 (by omega) (by omega) (by omega), hT (f + 9) c (by omega)]
  · unfold Rg
    refine ⟨?_, ?_, ?_, ?_, ?_, ?_, ?_, ?_⟩ <;> rw [hS _ _ (by decide) (by decide), hT0]
  · refine ⟨fun i hi => ?_, fun i hi => ?_, fun i hi => ?_, fun i hi => ?_, fun i hi => ?_⟩
    · unfold S00 T00; rw [if_pos rfl, if_pos rfl]
    · rfl
    · rw [hS 8 _ (by decide) (by decide), hT 19 _ (by decide)]
    · rw [hS 9 _ (by decide) (by decide), hT 20 _ (by decide)]
    · rw [hS 11 _ (by decide) (by decide), hT 21 _ (by decide)]
  · refine ⟨by rw [hS 14 _ (by decide) (by decide), hT0], by rw [hT0]; decide, fun i hi => by rw [hS 15 _ (by decide) (by decide), hT 22 _ (by decide)], fun i hi => ?_, fun z => absurd (hS 14 4 (by decide) (by decide)) z⟩
    rw [hT0] at hi
    omega
  · unfold Rt
    refine ⟨by rw [hS _ _ (by decide) (by decide), hT0], by rw [hS _ _ (by decide) (by decide), hT0], ?_, ?_, ?_, ?_⟩ <;> (rw [hS _ _ (by decide) (by decide), hT0]; rfl)
  · intro j hj
    unfold LI
    rw [hT 5 j (by decide), hT 6 j (by decide)]
    exact ⟨by decide, Or.inl rfl, fun _ => rfl, fun h => absurd h (by decide)⟩
  · intro i j _ _ h
    rw [hT 5 i (by decide)] at h
    exact absurd h (by decide)
  · unfold IN
    simp only [hT0]
    refine ⟨by decide, by decide, fun i _ => by rw [hT 20 i (by decide)]; decide, fun c _ => by rw [hT 16 c (by decide), hT 13 c (by decide)]; decide, by decide, by decide, by decide, by decide, by decide, by decide, fun i _ => ?_, fun i _ => ⟨rfl, rfl⟩⟩
    show 1 ≤ (10 : Int) ∧ (10 : Int) ≤ 100
    decide
  · rw [hT0]; decide
/-! cells by what they hold -/
theorem arrV_c {cA : ClassId} {n : Nat} {f g : Nat → Value} (h : ∀ j, j < n → f j = g j) : arrV cA n f = arrV cA n g := by
  unfold arrV
  congr 2
  funext j
  exact h j.val j.isLt
theorem at_i {D : va_G} {cl : List vw_C} {a n : Nat} {cA : ClassId} {f g : Nat → Int32} {H : Heap} (h : va_at D cl (a, .inl (cA, n, .inl f)) H) (he : ∀ j, j < n → f j = g j) : va_at D cl (a, .inl (cA, n, .inl g)) H := by
  have h : H[a]? = some (vp_cell cA (n, .inl f)) := h
  show H[a]? = some (vp_cell cA (n, .inl g))
  rw [h, vp_cell_i, vp_cell_i, arrV_c (fun j hj => by rw [he j hj])]
theorem at_l {D : va_G} {cl : List vw_C} {a n : Nat} {cA : ClassId} {f g : Nat → Int64} {H : Heap} (h : va_at D cl (a, .inl (cA, n, .inr (.inl f))) H) (he : ∀ j, j < n → f j = g j) : va_at D cl (a, .inl (cA, n, .inr (.inl g))) H := by
  have h : H[a]? = some (vp_cell cA (n, .inr (.inl f))) := h
  show H[a]? = some (vp_cell cA (n, .inr (.inl g)))
  rw [h, vp_cell_l, vp_cell_l, arrV_c (fun j hj => by rw [he j hj])]
theorem at_q {D : va_G} {cl : List vw_C} {a n : Nat} {cA : ClassId} {f g : Nat → Option Nat} {H : Heap} (h : va_at D cl (a, .inl (cA, n, .inr (.inr (.inr (.inr f))))) H) (he : ∀ j, j < n → f j = g j) : va_at D cl (a, .inl (cA, n, .inr (.inr (.inr (.inr g))))) H := by
  have h : H[a]? = some (vp_cell cA (n, .inr (.inr (.inr (.inr f))))) := h
  show H[a]? = some (vp_cell cA (n, .inr (.inr (.inr (.inr g)))))
  rw [h, vp_cell_q, vp_cell_q, arrV_c (fun j hj => by rw [he j hj])]
theorem at_o {D : va_G} {cl : List vw_C} {q q' : Nat × va_E} {H : Heap} (h : va_at D cl q H) (he : q = q') : va_at D cl q' H := by rw [← he]; exact h
/-- a system's world out of a world that has its cells at some places -/
theorem WD_fin {D : va_G} {A : Nat → Prop} {y : Sys} {S : St} {ws L : va_W} {H : Heap} (hP : va_P D vwCl (ws ++ L) H) (hD : va_D A (ws ++ L)) (pos : Nat → Nat) (hi : ∀ i j, i < y.2.2.2.1 → j < y.2.2.2.1 → pos i = pos j → i = j)
    (h : ∀ k, k < y.2.2.2.1 → ∃ e, L[pos k]? = some (y.2.2.1 k, e) ∧ (va_at D vwCl (y.2.2.1 k, e) H → va_at D vwCl (y.2.2.1 k, cel y S k) H)) : va_P D vwCl (WD y S) H ∧ va_D A (WD y S) := by
  refine ⟨fun k q hk => ?_, fun i j p q hi9 hj9 he => ?_, fun k q hk => ?_⟩
  · obtain ⟨h1, rfl⟩ := wd_in hk
    obtain ⟨e, h2, h3⟩ := h k h1
    exact h3 (hP _ _ (wsl h2))
  · obtain ⟨h1, rfl⟩ := wd_in hi9
    obtain ⟨h2, rfl⟩ := wd_in hj9
    obtain ⟨e1, g1, _⟩ := h i h1
    obtain ⟨e2, g2, _⟩ := h j h2
    have := hD.1 _ _ _ _ (wsl (ws := ws) g1) (wsl (ws := ws) g2) he
    exact hi i j h1 h2 (by omega)
  · obtain ⟨h1, rfl⟩ := wd_in hk
    obtain ⟨e, h2, _⟩ := h k h1
    exact hD.2 _ (y.2.2.1 k, e) (wsl (ws := ws) h2)
theorem fam_at {c : Nat → va_E} : ∀ (as : List Nat) (i k : Nat), k < as.length → (fam c i as)[k]? = some (as.getD k 0, c (i + k))
  | [], i, k, h => absurd h (by simp)
  | a :: r, i, 0, h => rfl
  | a :: r, i, k + 1, h => by
    show (fam c (i + 1) r)[k]? = _
    rw [fam_at r (i + 1) k (by simpa using h), show i + 1 + k = i + (k + 1) by omega]
    rfl
def adX (v : (Nat → Nat) × List Nat × List Nat) : Nat → Nat := fun k => if k < 18 then v.1 k else if k < 30 then v.2.1.getD (k - 18) 0 else v.2.2.getD (k - 30) 0
def posX (k : Nat) : Nat := if k < 6 then k else if k = 6 then 18 else if k < 18 then 72 + k else if k < 30 then k - 12 else k - 11
theorem posX_i (i j : Nat) (hi : i < 90) (hj : j < 90) (h : posX i = posX j) : i = j := by
  unfold posX at h
  repeat' split at h
  all_goals omega
theorem N8_eq {t : T5} {v : (Nat → Nat) × List Nat × List Nat} : N8 t v = [(v.1 0, .inr (8, [.ref (v.1 1), .ref (v.1 4), .ref (v.1 13), .ref (v.1 14)])), (v.1 1, .inr (7, [.ref (v.1 2), .ref (v.1 3)])), (v.1 2, .inl (t.1, anum)), (v.1 3, .inl (t.1, 12, .inl (fill 12))), (v.1 4, .inr (6, poolF (.ref (v.1 1)) (.ref (v.1 5)) (.ref (v.1 6)) (.ref (v.1 7)) (.ref (v.1 10)))), (v.1 5, .inl (t.2.2.2.2, 12, refs v.2.1))] ++ (fam lineC 0 v.2.1 ++ ((v.1 6, .inl (t.2.2.2.1, 60, refs v.2.2)) :: (fam callC 0 v.2.2 ++ [(v.1 7, .inr (0, [.ref (v.1 8), .ref (v.1 9), vI 0])), (v.1 8, .inl (t.1, az 60)), (v.1 9, .inl (t.1, az 60)), (v.1 10, .inr (4, [.ref (v.1 11), .ref (v.1 12), vI 0])), (v.1 11, .inl (t.1, az 600)), (v.1 12, .inl (t.1, az 9)), (v.1 13, .inr (5, [.ref (v.1 1), vJ 0, vJ 0])), (v.1 14, .inr (2, [.ref (v.1 15), .ref (v.1 16), .ref (v.1 17), vI 0, vI 0, vI 0, vI 0])), (v.1 15, .inl (t.1, az 6)), (v.1 16, .inl (t.1, az 6)), (v.1 17, .inl (t.2.1, azJ 245))]))) := by
  simp only [N8, N7, N6, List.cons_append, List.nil_append, List.append_assoc]
section FX
variable {D : va_G} {t : T5} {v : (Nat → Nat) × List Nat × List Nat} {H : Heap}
theorem N8_6 (h1 : v.2.1.length = 12) {n : Nat} : (N8 t v)[18 + n]? = ((v.1 6, .inl (t.2.2.2.1, 60, refs v.2.2)) :: (fam callC 0 v.2.2 ++ [(v.1 7, .inr (0, [.ref (v.1 8), .ref (v.1 9), vI 0])), (v.1 8, .inl (t.1, az 60)), (v.1 9, .inl (t.1, az 60)), (v.1 10, .inr (4, [.ref (v.1 11), .ref (v.1 12), vI 0])), (v.1 11, .inl (t.1, az 600)), (v.1 12, .inl (t.1, az 9)), (v.1 13, .inr (5, [.ref (v.1 1), vJ 0, vJ 0])), (v.1 14, .inr (2, [.ref (v.1 15), .ref (v.1 16), .ref (v.1 17), vI 0, vI 0, vI 0, vI 0])), (v.1 15, .inl (t.1, az 6)), (v.1 16, .inl (t.1, az 6)), (v.1 17, .inl (t.2.1, azJ 245))]) : va_W)[n]? := by
  rw [N8_eq, List.getElem?_append_right (by simp; omega)]
  rw [List.getElem?_append_right (by rw [fam_len, h1]; simp; omega), fam_len, h1]
  congr 1
  simp
  omega
theorem N8_7 (h1 : v.2.1.length = 12) (h2 : v.2.2.length = 60) {n : Nat} : (N8 t v)[79 + n]? = ([(v.1 7, .inr (0, [.ref (v.1 8), .ref (v.1 9), vI 0])), (v.1 8, .inl (t.1, az 60)), (v.1 9, .inl (t.1, az 60)), (v.1 10, .inr (4, [.ref (v.1 11), .ref (v.1 12), vI 0])), (v.1 11, .inl (t.1, az 600)), (v.1 12, .inl (t.1, az 9)), (v.1 13, .inr (5, [.ref (v.1 1), vJ 0, vJ 0])), (v.1 14, .inr (2, [.ref (v.1 15), .ref (v.1 16), .ref (v.1 17), vI 0, vI 0, vI 0, vI 0])), (v.1 15, .inl (t.1, az 6)), (v.1 16, .inl (t.1, az 6)), (v.1 17, .inl (t.2.1, azJ 245))] : va_W)[n]? := by
  rw [show 79 + n = 18 + (61 + n) by omega, N8_6 h1, show 61 + n = (60 + n) + 1 by omega, List.getElem?_cons_succ, List.getElem?_append_right (by rw [fam_len, h2]; omega), fam_len, h2]
  congr 1
  omega
set_option maxRecDepth 20000 in
set_option maxHeartbeats 8000000 in
theorem fin_X (h1 : v.2.1.length = 12) (h2 : v.2.2.length = 60) : ∀ k, k < 90 → ∃ e, (N8 t v)[posX k]? = some (adX v k, e) ∧ (va_at D vwCl (adX v k, e) H → va_at D vwCl (adX v k, cel (sX D t (adX v)) S00 k) H) := by
  intro k hk
  by_cases k1 : k < 18
  · have e7 : ∀ n, (N8 t v)[79 + n]? = _ := fun n => N8_7 (t := t) h1 h2 (n := n)
    have e6 : (N8 t v)[18]? = _ := N8_6 (t := t) h1 (n := 0)
    have hz : k = 0 ∨ k = 1 ∨ k = 2 ∨ k = 3 ∨ k = 4 ∨ k = 5 ∨ k = 6 ∨ k = 7 ∨ k = 8 ∨ k = 9 ∨ k = 10 ∨ k = 11 ∨ k = 12 ∨ k = 13 ∨ k = 14 ∨ k = 15 ∨ k = 16 ∨ k = 17 := by omega
    rcases hz with rfl | rfl | rfl | rfl | rfl | rfl | rfl | rfl | rfl | rfl | rfl | rfl | rfl | rfl | rfl | rfl | rfl | rfl
    · exact ⟨_, rfl, fun h => at_o h rfl⟩
    · exact ⟨_, rfl, fun h => at_o h rfl⟩
    · exact ⟨_, rfl, fun h => at_i h (fun j hj => by show _ = Int32.ofInt (S00 2 j); unfold S00; rw [if_pos rfl, if_pos hj])⟩
    · exact ⟨_, rfl, fun h => at_i h (fun j hj => by unfold fill; rw [if_pos hj]; rfl)⟩
    · exact ⟨_, rfl, fun h => at_o h rfl⟩
    · exact ⟨_, rfl, fun h => at_q h (fun j hj => by have hj : j < 12 := hj; show v.2.1[j]? = some (adX v (j + 18)); unfold adX; rw [if_neg (by omega), if_pos (by omega), show j + 18 - 18 = j by omega, List.getElem?_eq_getElem (by omega)]; simp [List.getD, List.getElem?_eq_getElem (show j < v.2.1.length by omega)])⟩
    · exact ⟨_, e6, fun h => at_q h (fun j hj => by have hj : j < 60 := hj; show v.2.2[j]? = some (adX v (j + 30)); unfold adX; rw [if_neg (by omega), if_neg (by omega), show j + 30 - 30 = j by omega, List.getElem?_eq_getElem (by omega)]; simp [List.getD, List.getElem?_eq_getElem (show j < v.2.2.length by omega)])⟩
    · exact ⟨_, e7 0, fun h => at_o h rfl⟩
    · exact ⟨_, e7 1, fun h => at_i h (fun j _ => rfl)⟩
    · exact ⟨_, e7 2, fun h => at_i h (fun j _ => rfl)⟩
    · exact ⟨_, e7 3, fun h => at_o h rfl⟩
    · exact ⟨_, e7 4, fun h => at_i h (fun j _ => rfl)⟩
    · exact ⟨_, e7 5, fun h => at_i h (fun j _ => rfl)⟩
    · exact ⟨_, e7 6, fun h => at_o h rfl⟩
    · exact ⟨_, e7 7, fun h => at_o h rfl⟩
    · exact ⟨_, e7 8, fun h => at_i h (fun j _ => rfl)⟩
    · exact ⟨_, e7 9, fun h => at_i h (fun j _ => rfl)⟩
    · exact ⟨_, e7 10, fun h => at_l h (fun j _ => rfl)⟩
  · by_cases k2 : k < 30
    · obtain ⟨j, rfl⟩ : ∃ j, k = j + 18 := ⟨k - 18, by omega⟩
      have hj : j < 12 := by omega
      have ep : posX (j + 18) = 6 + j := by unfold posX; rw [if_neg (by omega), if_neg (by omega), if_neg (by omega), if_pos (by omega)]; omega
      have ea : adX v (j + 18) = v.2.1.getD j 0 := by unfold adX; rw [if_neg (by omega), if_pos (by omega), show j + 18 - 18 = j by omega]
      have s3 : S00 (j + 18) 3 = -1 := by unfold S00; rw [if_neg (by omega), if_neg (by omega), if_pos ⟨by omega, by omega, rfl⟩]
      have s : ∀ f, f ≠ 3 → S00 (j + 18) f = 0 := fun f hf => S00_0 (by omega) (by omega) (by omega)
      refine ⟨lineC j, ?_, fun h => at_o h ?_⟩
      · rw [ep, ea, N8_eq, List.getElem?_append_right (by simp), List.getElem?_append_left (by rw [fam_len, h1]; simp; omega)]
        have := fam_at (c := lineC) v.2.1 0 j (by omega)
        rw [Nat.zero_add] at this
        rw [← this]
        congr 1
        simp
      · have ec : cel (sX D t (adX v)) S00 (j + 18) = .inr (3, flds (adX v) S00 (j + 18) 0 (lineF j)) := by unfold cel; rw [show (sX D t (adX v)).2.2.2.2.1 (j + 18) = .inr (3, lineF j) from dX_line hj]
        rw [ec]
        have ef : flds (adX v) S00 (j + 18) 0 (lineF j) = [vI (j : Int), vI (S00 (j + 18) 1), vI (S00 (j + 18) 2), vR (adX v) 30 (S00 (j + 18) 3), vI (S00 (j + 18) 4), vI (S00 (j + 18) 5)] := rfl
        rw [ef, s3, s 1 (by decide), s 2 (by decide), s 4 (by decide), s 5 (by decide), vR_neg (by decide)]
        rfl
    · obtain ⟨j, rfl⟩ : ∃ j, k = j + 30 := ⟨k - 30, by omega⟩
      have hj : j < 60 := by omega
      have ep : posX (j + 30) = 18 + (j + 1) := by unfold posX; rw [if_neg (by omega), if_neg (by omega), if_neg (by omega), if_neg (by omega)]; omega
      have ea : adX v (j + 30) = v.2.2.getD j 0 := by unfold adX; rw [if_neg (by omega), if_neg (by omega), show j + 30 - 30 = j by omega]
      have s : ∀ f, S00 (j + 30) f = 0 := fun f => S00_0 (by omega) (by omega) (by omega)
      refine ⟨callC j, ?_, fun h => at_o h ?_⟩
      · rw [ep, ea, N8_6 h1, List.getElem?_cons_succ, List.getElem?_append_left (by rw [fam_len, h2]; omega)]
        have := fam_at (c := callC) v.2.2 0 j (by omega)
        rw [Nat.zero_add] at this
        exact this
      · have ec : cel (sX D t (adX v)) S00 (j + 30) = .inr (1, flds (adX v) S00 (j + 30) 0 (callF j)) := by unfold cel; rw [show (sX D t (adX v)).2.2.2.2.1 (j + 30) = .inr (1, callF j) from dX_call hj]
        rw [ec]
        have ef : flds (adX v) S00 (j + 30) 0 (callF j) = [vI (j : Int), vI (S00 (j + 30) 1), vI (S00 (j + 30) 2), vI (S00 (j + 30) 3), vI (S00 (j + 30) 4), vI (S00 (j + 30) 5), vI (S00 (j + 30) 6), vI (S00 (j + 30) 7), vI (S00 (j + 30) 8), vI (S00 (j + 30) 9)] := rfl
        rw [ef, s 1, s 2, s 3, s 4, s 5, s 6, s 7, s 8, s 9]
        rfl
end FX
section FM
variable {D : va_G} {t : T5} {v : Nat → Nat} {H : Heap}
theorem l6 {a b c d e f : Int} {g : Nat → Int} (h0 : g 0 = a) (h1 : g 1 = b) (h2 : g 2 = c) (h3 : g 3 = d) (h4 : g 4 = e) (h5 : g 5 = f) (j : Nat) (hj : j < 6) : lit6 a b c d e f j = Int32.ofInt (g j) := by
  have : j = 0 ∨ j = 1 ∨ j = 2 ∨ j = 3 ∨ j = 4 ∨ j = 5 := by omega
  rcases this with rfl | rfl | rfl | rfl | rfl | rfl
  · rw [h0]; rfl
  · rw [h1]; rfl
  · rw [h2]; rfl
  · rw [h3]; rfl
  · rw [h4]; rfl
  · rw [h5]; rfl
set_option maxRecDepth 20000 in
set_option maxHeartbeats 8000000 in
theorem fin_M : ∀ k, k < 25 → ∃ e, (N9 t (v 0) v)[k]? = some (v k, e) ∧ (va_at D vwCl (v k, e) H → va_at D vwCl (v k, cel (sM D t v) T00 k) H) := by
  intro k hk
  have hz : k = 0 ∨ k = 1 ∨ k = 2 ∨ k = 3 ∨ k = 4 ∨ k = 5 ∨ k = 6 ∨ k = 7 ∨ k = 8 ∨ k = 9 ∨ k = 10 ∨ k = 11 ∨ k = 12 ∨ k = 13 ∨ k = 14 ∨ k = 15 ∨ k = 16 ∨ k = 17 ∨ k = 18 ∨ k = 19 ∨ k = 20 ∨ k = 21 ∨ k = 22 ∨ k = 23 ∨ k = 24 := by omega
  rcases hz with rfl | rfl | rfl | rfl | rfl | rfl | rfl | rfl | rfl | rfl | rfl | rfl | rfl | rfl | rfl | rfl | rfl | rfl | rfl | rfl | rfl | rfl | rfl | rfl | rfl
  · exact ⟨_, rfl, fun h => at_o h rfl⟩
  · exact ⟨_, rfl, fun h => at_i h (l6 rfl rfl rfl rfl rfl rfl)⟩
  · exact ⟨_, rfl, fun h => at_i h (l6 rfl rfl rfl rfl rfl rfl)⟩
  · exact ⟨_, rfl, fun h => at_i h (l6 rfl rfl rfl rfl rfl rfl)⟩
  · exact ⟨_, rfl, fun h => at_i h (fun j hj => by unfold fill; rw [if_pos hj]; rfl)⟩
  · exact ⟨_, rfl, fun h => at_i h (fun j _ => rfl)⟩
  · exact ⟨_, rfl, fun h => at_i h (fun j _ => rfl)⟩
  · exact ⟨_, rfl, fun h => at_i h (fun j _ => rfl)⟩
  · exact ⟨_, rfl, fun h => at_i h (fun j _ => rfl)⟩
  · exact ⟨_, rfl, fun h => at_i h (fun j _ => rfl)⟩
  · exact ⟨_, rfl, fun h => at_i h (fun j _ => rfl)⟩
  · exact ⟨_, rfl, fun h => at_i h (fun j _ => rfl)⟩
  · exact ⟨_, rfl, fun h => at_i h (fun j _ => rfl)⟩
  · exact ⟨_, rfl, fun h => at_i h (fun j _ => rfl)⟩
  · exact ⟨_, rfl, fun h => at_i h (fun j _ => rfl)⟩
  · exact ⟨_, rfl, fun h => at_i h (fun j _ => rfl)⟩
  · exact ⟨_, rfl, fun h => at_i h (fun j _ => rfl)⟩
  · exact ⟨_, rfl, fun h => at_i h (fun j _ => rfl)⟩
  · exact ⟨_, rfl, fun h => at_i h (fun j _ => rfl)⟩
  · exact ⟨_, rfl, fun h => at_i h (fun j _ => rfl)⟩
  · exact ⟨_, rfl, fun h => at_i h (fun j _ => rfl)⟩
  · exact ⟨_, rfl, fun h => at_i h (fun j _ => rfl)⟩
  · exact ⟨_, rfl, fun h => at_i h (fun j _ => rfl)⟩
  · exact ⟨_, rfl, fun h => at_i h (fun j _ => rfl)⟩
  · exact ⟨_, rfl, fun h => at_i h (fun j _ => rfl)⟩
end FM
