set_option maxRecDepth 20000 in
set_option maxHeartbeats 600000 in
/-- THE LAW, from its entry, where FIRST's array is of the class [I itself -/
theorem start_if {p : Program} {e : Env} {s : State} {m : MethodId} {below : List Frame} {meth : Method} {c : Code} (l : Launch) (hl : l.stackTraces = false) {b L : Nat} {xs : Nat → Int32} (hL : L ≤ 3072) (C0 : lw_At p s m meth c b L xs) (hEx : (Cond.exactly (.static RX7 "FIRST" "[I") "[I").before #[Value.ref b] s = true) : W p l e room_1 s m #[Value.ref b] below meth c s.heap [] 0 0 (lw_Z below #[Value.ref b] s) (entryFrame m ([Value.ref b] : List Value).toArray 7) := by
  obtain ⟨hx, hb, hr, hml, hown, hts, hX, hbl, hlocks, hgv⟩ := id C0
  have hA : ∀ q : Nat, s.heap.size ≤ q → (fun q : Nat => s.heap.size ≤ q) q := fun _ h => h
  have mt : ∀ (w : Cond) (i : Nat), lw_tbl[i]? = some w → w.before #[Value.ref b] s = true := fun w i h => hts w (List.mem_of_getElem? h)
  obtain ⟨D, t, hK, hI⟩ := st_K C0
  have hN := st_N C0
  have hZs := (st_Zs C0).1
  have hXS := st_XS C0 hI hEx
  have hZt := st_Zt C0
  have htsL : ∀ w ∈ wsL_law, w.before #[Value.ref b] s = true := fun w hw => hts w (wsL_law_in w hw)
  have F : CallFix p m c cL_law 7 s #[Value.ref b] wsL_law RL := ⟨hx, hb, hml, hown, htsL⟩
  have hS : va_S (fun q : Nat => s.heap.size ≤ q) s.heap s.heap [] := va_S.rf
  have hP : va_P D vwCl [] s.heap := fun k q h => by simp at h
  have hD : va_D (fun q : Nat => s.heap.size ≤ q) [] := ⟨fun i j p q h => by simp at h, fun k q h => by simp at h⟩
  have hl0 := lv_entry ([.ref b]) (n := 7) (Nat.le_of_ble_eq_true rfl)
  rw [lg_entry_eq]
  generalize (lg_sl ([.ref b]) ++ List.replicate (7 - (lg_sl ([.ref b])).length) Slot.unset).toArray = ls at hl0 ⊢
  have hl0 : lv_has ls 7 [(0, .ref b)] := hl0
  refine va_new (ci := 8) (fs := [.null, .null, .null, .null]) (C := RX8) (T := TX8) (N := 4) hx hb hts lwin_wsX80 tyX8 tyX8_ok hown (mt (.classLink RL 8 RX8) 80 (by decide +kernel)) (mt (.instantiable RX8 4) 81 (by decide +kernel)) (mt (.initialized RX8) 65 (by decide +kernel)) hK hP hD hS hA rfl (fun j hj => by rcases (show j = 0 ∨ j = 1 ∨ j = 2 ∨ j = 3 by omega) with rfl | rfl | rfl | rfl <;> rfl) (Nat.le_of_ble_eq_true rfl) (Nat.le_of_ble_eq_true rfl) dL_law_0 (fun q0 H hP hD hS => ?_)
  refine lv_dup hx hb dL_law_3 rfl ?_
  refine w_callK (ws := []) (As := []) (rest := [.ref q0]) 0 F hA hK hXS hP hD hS c_X8_init gL_law_X8_init rfl ⟨rfl, rfl⟩ (by decide +kernel) (by decide +kernel) (by decide +kernel) rfl (by decide +kernel) ⟨Nat.le_of_ble_eq_true rfl, Nat.le_of_ble_eq_true rfl⟩ rfl rfl (Nat.le_of_ble_eq_true rfl) ⟨Nat.le_of_ble_eq_true rfl, Nat.le_of_ble_eq_true rfl⟩ hl0.1 dL_law_4 (fun v H locs ov hP hD hS => ?_)
  have hP : va_P D vwCl (N8 t v) H := hP
  have hD : va_D (fun q : Nat => s.heap.size ≤ q) (N8 t v) := hD
  refine W.widen (k := 90) (n := 1781) (Nat.le_of_ble_eq_true rfl) (Nat.le_of_ble_eq_true rfl) ?_
  refine lv_astore_n (lv' := [(1, .ref q0), (0, .ref b)]) hx hb dL_law_7 rfl hl0 (by decide) rfl (fun ls hl1 => ?_)
  refine va_new (ci := 9) (fs := [.null, .null, .null, .null, vI 0, .null, .null, .null, .null, .null, .null, .null, .null, .null, .null, .null, .null, .null, .null, vI 0, .null, .null, vI 0, .null, vI 0, vI 0, vI 0, vI 0, vJ 0, vI 0, vI 0, .null, vI 0, vI 0, vJ 0, vJ 0, .null, .null, vI 0]) (C := RX9) (T := TX9) (N := 39) hx hb hts lwin_wsX90 tyX9 tyX9_ok hown (mt (.classLink RL 16 RX9) 808 (by decide +kernel)) (mt (.instantiable RX9 39) 809 (by decide +kernel)) (mt (.initialized RX9) 74 (by decide +kernel)) hK hP hD hS hA rfl (fun j hj => by rcases (show j = 0 ∨ j = 1 ∨ j = 2 ∨ j = 3 ∨ j = 4 ∨ j = 5 ∨ j = 6 ∨ j = 7 ∨ j = 8 ∨ j = 9 ∨ j = 10 ∨ j = 11 ∨ j = 12 ∨ j = 13 ∨ j = 14 ∨ j = 15 ∨ j = 16 ∨ j = 17 ∨ j = 18 ∨ j = 19 ∨ j = 20 ∨ j = 21 ∨ j = 22 ∨ j = 23 ∨ j = 24 ∨ j = 25 ∨ j = 26 ∨ j = 27 ∨ j = 28 ∨ j = 29 ∨ j = 30 ∨ j = 31 ∨ j = 32 ∨ j = 33 ∨ j = 34 ∨ j = 35 ∨ j = 36 ∨ j = 37 ∨ j = 38 by omega) with rfl | rfl | rfl | rfl | rfl | rfl | rfl | rfl | rfl | rfl | rfl | rfl | rfl | rfl | rfl | rfl | rfl | rfl | rfl | rfl | rfl | rfl | rfl | rfl | rfl | rfl | rfl | rfl | rfl | rfl | rfl | rfl | rfl | rfl | rfl | rfl | rfl | rfl | rfl <;> rfl) (Nat.le_of_ble_eq_true rfl) (Nat.le_of_ble_eq_true rfl) dL_law_8 (fun q1 H hP hD hS => ?_)
  refine lv_dup hx hb dL_law_11 rfl ?_
  refine w_callK (ws := N8 t v) (As := []) (rest := [.ref q1]) 0 F hA hK hXS hP hD hS c_X9_init gL_law_X9_init rfl ⟨rfl, rfl⟩ (by decide +kernel) (by decide +kernel) (by decide +kernel) rfl (by decide +kernel) ⟨Nat.le_of_ble_eq_true rfl, Nat.le_of_ble_eq_true rfl⟩ rfl rfl (Nat.le_of_ble_eq_true rfl) ⟨Nat.le_of_ble_eq_true rfl, Nat.le_of_ble_eq_true rfl⟩ hl1.1 dL_law_12 (fun v9 H locs o9 hP hD hS => ?_)
  refine W.widen (k := 115) (n := 34427) (Nat.le_of_ble_eq_true rfl) (Nat.le_of_ble_eq_true rfl) ?_
  refine lv_astore_n (lv' := [(2, .ref q1), (1, .ref q0), (0, .ref b)]) hx hb dL_law_15 rfl hl1 (by decide) rfl (fun ls hl2 => ?_)
  refine lv_iconst (v := Int32.ofInt 1) hx hb dL_law_16 rfl ?_
  refine va_newa (atype := .long) (a0 := azJ 1) (ty := .long) (N' := 1) hx hb (mt (.arrayClass .long) 310 (by decide +kernel)) rfl hK hP hD hS hA (fun _ => rfl) (by decide) (by decide) (by decide) (Nat.le_of_ble_eq_true rfl) (Nat.le_of_ble_eq_true rfl) dL_law_17 (fun qo cB H hK1 hP hD hS => ?_)
  have ecB : cB = t.2.1 := cA_one (hK1.2 5 (cB, .long) rfl).2 (hK.2 1 _ rfl).2
  subst ecB
  refine lv_astore_n (lv' := [(3, .ref qo), (2, .ref q1), (1, .ref q0), (0, .ref b)]) hx hb dL_law_19 rfl hl2 (by decide) rfl (fun ls hl3 => ?_)
  refine lv_iconst (v := Int32.ofInt 0) hx hb dL_law_20 rfl ?_
  refine lv_istore (lv' := [(4, .int (Int32.ofInt 0)), (3, .ref qo), (2, .ref q1), (1, .ref q0), (0, .ref b)]) hx hb dL_law_21 hl3 (by decide) rfl (fun ls hl4 => ?_)
  -- the worlds
  have e9 : N9 t q1 v9 = N9 t (v9 0) v9 := by rw [o9]
  rw [e9] at hP hD
  have hX0 : va_P D vwCl (WD (sX D t (adX v)) S00) H ∧ va_D (fun q : Nat => s.heap.size ≤ q) (WD (sX D t (adX v)) S00) := WD_fin (ws := []) (L := N8 t v) (vp_l (vp_l hP)) (vd_l (vd_l hD)) posX posX_i (fin_X ov.2.1 ov.2.2)
  have hM0 : va_P D vwCl (WD (sM D t v9) T00) H ∧ va_D (fun q : Nat => s.heap.size ≤ q) (WD (sM D t v9) T00) := WD_fin (ws := []) (L := N9 t (v9 0) v9) (vp_r (vp_l hP)) (vd_r (vd_l hD)) (fun k => k) (fun _ _ _ _ h => h) fin_M
  have hO0 : va_P D vwCl [(qo, ocl t 0)] H := vp_r hP
  have ex0 : adX v 0 = q0 := ov.1
  have dXM : ∀ k j, k < 90 → j < 25 → adX v k ≠ v9 j := fun k j hk hj => by
    obtain ⟨x1, y1, _⟩ := fin_X (D := D) (t := t) (H := H) ov.2.1 ov.2.2 k hk
    obtain ⟨x2, y2, _⟩ := fin_M (D := D) (t := t) (v := v9) (H := H) j hj
    exact vd_x (vd_l hD) y1 y2
  have dXo : ∀ k, k < 90 → adX v k ≠ qo := fun k hk => by
    obtain ⟨x1, y1, _⟩ := fin_X (D := D) (t := t) (H := H) ov.2.1 ov.2.2 k hk
    have hl9 := (List.getElem?_eq_some_iff.mp y1).1
    exact vd_x (i := posX k) (j := 0) (q := (qo, .inl (t.2.1, azJ 1))) hD (by rw [List.getElem?_append_left hl9]; exact y1) rfl
  have dMo : ∀ j, j < 25 → v9 j ≠ qo := fun j hj => by
    obtain ⟨x2, y2, _⟩ := fin_M (D := D) (t := t) (v := v9) (H := H) j hj
    exact vd_x (i := (N8 t v).length + j) (j := 0) (q := (qo, .inl (t.2.1, azJ 1))) hD (wsl y2) rfl
  have C : LC (p, l, e, s, m, #[Value.ref b], below, meth, c) (D, t, adX v, v9, qo) b L xs := ⟨C0, rfl, hl, hL, hK, hN, hZs, hZt, dXM, dXo, dMo⟩
  have hqo : s.heap.size ≤ qo := hD.2 ((N8 t v ++ N9 t (v9 0) v9).length + 0) (qo, .inl (t.2.1, azJ 1)) (wsl rfl)
  have hJ := law_loop C (L + 1) 0 S00 T00 0 (by omega) (by omega) RE_00 S00_RS T00_RS H locs ls ⟨⟨hX0.1, hX0.2⟩, ⟨hM0.1, hM0.2⟩, hO0, hqo⟩ hS
  refine W.widen (k := 300) (n := 40000) (Nat.le_of_ble_eq_true rfl) (Nat.le_of_ble_eq_true rfl) ?_
  refine hJ ?_
  show lv_has ls 7 [(0, .ref b), (1, .ref (adX v 0)), (2, .ref (v9 0)), (3, .ref qo), (4, vI (6 * ((0 : Nat) : Int)))]
  rw [ex0, o9]
  exact lv_sub hl4 [4, 3, 2, 1, 0] rfl
