-- RX2 sureLines
abbrev rm_X2_sureLines : Room := ({ frames := 0, cells := 0, slots := 0, locals := 0 } : Room)
abbrev mi_X2_sureLines : Mi := (cX2_sureLines, 3, RX2, wsX2_sureLines, rm_X2_sureLines, (some .int))
set_option maxRecDepth 20000 in
theorem in_X2_sureLines_X2 : ∀ w ∈ u_ws RX2 TX2 7, w ∈ wsX2_sureLines := by decide +kernel
def dn_X2_sureLines_4 : Nat → Int → Int → St → Option (St × Int)
  | 0, _, _, _ => none
  | n + 1, x1, x2, S => (if S 14 3 ≤ x2 then some (S, x1) else (if 0 ≤ x2 ∧ x2 < 6 then (nmV (w32 (x1 + (w32 ((S 15 x2.toNat) - 1)))) fun v3 => (nmV (w32 (x2 + 1)) fun v4 => dn_X2_sureLines_4 n v3 v4 S)) else none))
set_option maxRecDepth 100000 in
set_option maxHeartbeats 4000000 in
theorem u_X2_sureLines_4 {D : va_G} {t : T5} {ad : Nat → Nat} {S0 : St} {r0 : Int} {x : Mx} (C : CX (sX D t ad) mi_X2_sureLines x) : ∀ (n : Nat) (x1 : Int) (x2 : Int) (S : St), RS S → (r32 x1) → (r32 x2) → dn_X2_sureLines_4 n x1 x2 S = some (S0, r0) → GW (sX D t ad) mi_X2_sureLines (acI, S0, r0) x S 4 [(0, .ref (ad 14)), (1, vI x1), (2, vI x2)] [] := by
  intro n
  induction n with
  | zero =>
    intro x1 x2 S hS hx1 hx2 h
    cases h
  | succ n ih =>
    intro x1 x2 S hS hx1 hx2 h
    rw [dn_X2_sureLines_4] at h
    refine g_iload_n (n := 5) C 2 dX2_sureLines_4 rfl rfl ?_
    refine g_aload_n (n := 6) C 0 dX2_sureLines_5 rfl rfl ?_
    refine g_getI (n := 9) C 14 3 rfl (Nat.le_of_ble_eq_true rfl) rfl rfl rfl (Nat.le_of_ble_eq_true rfl) in_X2_sureLines_X2 (by decide +kernel) dX2_sureLines_6 rfl ?_
    refine g_icmp_ge (n := 12) C 29 hx2 ((hS 14 3).2 (by decide)) dX2_sureLines_9 (by decide) rfl (fun (hc1 : S 14 3 ≤ x2) => ?_) (fun (hc1 : ¬ (S 14 3 ≤ x2)) => ?_)
    · rw [if_pos hc1] at h
      refine g_iload_n (n := 30) C 1 dX2_sureLines_29 rfl rfl ?_
      exact g_iret C rfl h rfl hx1 hS dX2_sureLines_30
    · rw [if_neg hc1] at h
      refine g_iload_n (n := 13) C 1 dX2_sureLines_12 rfl rfl ?_
      refine g_aload_n (n := 14) C 0 dX2_sureLines_13 rfl rfl ?_
      refine g_getC (n := 17) C 14 0 rfl (Nat.le_of_ble_eq_true rfl) rfl rfl rfl (Nat.le_of_ble_eq_true rfl) in_X2_sureLines_X2 (by decide +kernel) dX2_sureLines_14 rfl ?_
      refine g_iload_n (n := 18) C 2 dX2_sureLines_17 rfl rfl ?_
      obtain ⟨hg2, h⟩ := gd_e h
      refine g_iald (n := 19) C 15 rfl (Nat.le_of_ble_eq_true rfl) rfl rfl hg2 hx2 dX2_sureLines_18 rfl ?_
      refine g_iconst (n := 20) C dX2_sureLines_19 rfl ?_
      refine g_isub (n := 21) C dX2_sureLines_20 rfl ?_
      refine g_iadd (n := 22) C dX2_sureLines_21 rfl ?_
      obtain ⟨v3, ev3, h⟩ := nmV_e h
      have hv3 : r32 v3 := by rw [ev3]; exact (w32_r _)
      refine g_istore_n (n := 23) (lv' := [(1, vI v3), (0, .ref (ad 14)), (2, vI x2)]) C dX2_sureLines_22 (Nat.le_of_ble_eq_true rfl) ev3 rfl rfl ?_
      obtain ⟨v4, ev4, h⟩ := nmV_e h
      have hv4 : r32 v4 := by rw [ev4]; exact w32_r _
      refine g_iinc (n := 26) (lv' := [(2, vI v4), (1, vI v3), (0, .ref (ad 14))]) C 2 dX2_sureLines_23 rfl (Nat.le_of_ble_eq_true rfl) ev4 rfl rfl ?_
      refine g_goto C 4 dX2_sureLines_26 (by decide) ?_
      refine g_lv [2, 1, 0] rfl ?_
      exact ih v3 v4 S hS hv3 hv4 h
def dn_X2_sureLines (S : St) : Option (St × Int) := dn_X2_sureLines_4 FU 1 0 S
set_option maxRecDepth 100000 in
set_option maxHeartbeats 4000000 in
theorem c_X2_sureLines {l : Launch} {D : va_G} {t : T5} {ad : Nat → Nat} {S S0 : St} {r0 : Int} (hS : RS S) (h : dn_X2_sureLines S = some (S0, r0)) : Mc l (sX D t ad) yX2_sureLines wsX2_sureLines rm_X2_sureLines [.ref (ad 14)] acI S S0 r0 := by
  refine Mc_of (cc := cX2_sureLines) (nL := 3) (ret := (some .int)) (by decide +kernel) rfl (Nat.le_of_ble_eq_true rfl) (lv := [(0, .ref (ad 14))]) rfl (fun x C _ => ?_)
  unfold dn_X2_sureLines at h
  show GW (sX D t ad) mi_X2_sureLines (acI, S0, r0) x S 0 [(0, .ref (ad 14))] []
  refine g_iconst (n := 1) C dX2_sureLines_0 rfl ?_
  refine g_istore_n (n := 2) (lv' := [(1, vI 1), (0, .ref (ad 14))]) C dX2_sureLines_1 (Nat.le_of_ble_eq_true rfl) rfl rfl rfl ?_
  refine g_iconst (n := 3) C dX2_sureLines_2 rfl ?_
  refine g_istore_n (n := 4) (lv' := [(2, vI 0), (1, vI 1), (0, .ref (ad 14))]) C dX2_sureLines_3 (Nat.le_of_ble_eq_true rfl) rfl rfl rfl ?_
  refine g_lv [2, 1, 0] rfl ?_
  exact u_X2_sureLines_4 C FU 1 0 S hS (by decide : r32 1) (by decide : r32 0) h
-- RX3 become
abbrev rm_X3_become : Room := ({ frames := 0, cells := 0, slots := 0, locals := 0 } : Room)
abbrev mi_X3_become : Mi := (cX3_become, 5, RX3, wsX3_become, rm_X3_become, none)
set_option maxRecDepth 20000 in
theorem in_X3_become_X3 : ∀ w ∈ u_ws RX3 TX3 6, w ∈ wsX3_become := by decide +kernel
def dn_X3_become (o : Int) (a0 : Int) (a1 : Int) (a2 : Int) (a3 : Int) (S : St) : Option (St × Int) := (nmS (stU S (o.toNat + 18) 1 a0) fun S1 => (nmS (stU S1 (o.toNat + 18) 3 a1) fun S2 => (nmS (stU S2 (o.toNat + 18) 4 a2) fun S3 => (nmS (stU S3 (o.toNat + 18) 5 a3) fun S4 => some (S4, 0)))))
set_option maxRecDepth 100000 in
set_option maxHeartbeats 4000000 in
theorem c_X3_become {l : Launch} {D : va_G} {t : T5} {ad : Nat → Nat} {S S0 : St} {r0 : Int} {o a0 a1 a2 a3 : Int} (hS : RS S) (ho : 0 ≤ o ∧ o < (12 : Nat)) (ha0 : r32 a0) (ha1 : -1 ≤ a1 ∧ a1 < (60 : Nat)) (ha2 : r32 a2) (ha3 : r32 a3) (h : dn_X3_become o a0 a1 a2 a3 S = some (S0, r0)) : Mc l (sX D t ad) yX3_become wsX3_become rm_X3_become [.ref (ad (o.toNat + 18)), vI a0, vR ad 30 a1, vI a2, vI a3] acV S S0 r0 := by
  refine Mc_of (cc := cX3_become) (nL := 5) (ret := none) (by decide +kernel) rfl (by simp [lg_sl, vR_cat, vI_cat, vJ_cat, rf_cat]) (lv := [(0, .ref (ad (o.toNat + 18))), (1, vI a0), (2, vR ad 30 a1), (3, vI a2), (4, vI a3)]) (by simp [lv_args, vR_cat, vI_cat, vJ_cat, rf_cat]) (fun x C _ => ?_)
  unfold dn_X3_become at h
  show GW (sX D t ad) mi_X3_become (acV, S0, r0) x S 0 [(0, .ref (ad (o.toNat + 18))), (1, vI a0), (2, vR ad 30 a1), (3, vI a2), (4, vI a3)] []
  refine g_aload_n (n := 1) C 0 dX3_become_0 rfl rfl ?_
  refine g_iload_n (n := 2) C 1 dX3_become_1 rfl rfl ?_
  obtain ⟨S1, eS1, h⟩ := nmS_e h
  have hS1 : RS S1 := by rw [eS1]; exact RS_i hS ha0
  refine g_putI (n := 5) C (o.toNat + 18) 1 rfl (tn_add ho (Nat.le_of_ble_eq_true rfl)) (dX_line (tn_lt ho (Nat.le_refl _))) rfl rfl (Nat.le_of_ble_eq_true rfl) in_X3_become_X3 tyX3_ok nmX3 (by decide +kernel) rfl (by decide +kernel) (Nat.le_of_ble_eq_true rfl) eS1 dX3_become_2 rfl ?_
  refine g_aload_n (n := 6) C 0 dX3_become_5 rfl rfl ?_
  refine g_rload_n (n := 7) C 2 dX3_become_6 rfl rfl ?_
  obtain ⟨S2, eS2, h⟩ := nmS_e h
  have hS2 : RS S2 := by rw [eS2]; exact RS_i hS1 (rg_r32 ha1 (by decide))
  refine g_putF (n := 10) (On := "LinePool$Caller") C (o.toNat + 18) 3 rfl (tn_add ho (Nat.le_of_ble_eq_true rfl)) (dX_line (tn_lt ho (Nat.le_refl _))) rfl rfl (Nat.le_of_ble_eq_true rfl) in_X3_become_X3 tyX3_ok nmX3 (by decide +kernel) rfl (by decide +kernel) (Nat.le_of_ble_eq_true rfl) eS2 dX3_become_7 rfl ?_
  refine g_aload_n (n := 11) C 0 dX3_become_10 rfl rfl ?_
  refine g_iload_n (n := 12) C 3 dX3_become_11 rfl rfl ?_
  obtain ⟨S3, eS3, h⟩ := nmS_e h
  have hS3 : RS S3 := by rw [eS3]; exact RS_i hS2 ha2
  refine g_putI (n := 15) C (o.toNat + 18) 4 rfl (tn_add ho (Nat.le_of_ble_eq_true rfl)) (dX_line (tn_lt ho (Nat.le_refl _))) rfl rfl (Nat.le_of_ble_eq_true rfl) in_X3_become_X3 tyX3_ok nmX3 (by decide +kernel) rfl (by decide +kernel) (Nat.le_of_ble_eq_true rfl) eS3 dX3_become_12 rfl ?_
  refine g_aload_n (n := 16) C 0 dX3_become_15 rfl rfl ?_
  refine g_iload (n := 18) C 4 dX3_become_16 rfl rfl ?_
  obtain ⟨S4, eS4, h⟩ := nmS_e h
  have hS4 : RS S4 := by rw [eS4]; exact RS_i hS3 ha3
  refine g_putI (n := 21) C (o.toNat + 18) 5 rfl (tn_add ho (Nat.le_of_ble_eq_true rfl)) (dX_line (tn_lt ho (Nat.le_refl _))) rfl rfl (Nat.le_of_ble_eq_true rfl) in_X3_become_X3 tyX3_ok nmX3 (by decide +kernel) rfl (by decide +kernel) (Nat.le_of_ble_eq_true rfl) eS4 dX3_become_18 rfl ?_
  exact g_vret C rfl h rfl trivial hS4 dX3_become_21
-- RX3 vanish
abbrev rm_X3_vanish : Room := ({ frames := 1, cells := 0, slots := 0, locals := 24 } : Room)
abbrev mi_X3_vanish : Mi := (cX3_vanish, 1, RX3, wsX3_vanish, rm_X3_vanish, none)
set_option maxRecDepth 20000 in
theorem in_X3_vanish_X3 : ∀ w ∈ u_ws RX3 TX3 6, w ∈ wsX3_vanish := by decide +kernel
def dn_X3_vanish (o : Int) (S : St) : Option (St × Int) := (cal (dn_X3_become o 0 (-1) 0 0 S) fun S1 v2 => (nmS (stU S1 (o.toNat + 18) 2 0) fun S4 => some (S4, 0)))
set_option maxRecDepth 100000 in
set_option maxHeartbeats 4000000 in
theorem c_X3_vanish {l : Launch} {D : va_G} {t : T5} {ad : Nat → Nat} {S S0 : St} {r0 : Int} {o : Int} (hS : RS S) (ho : 0 ≤ o ∧ o < (12 : Nat)) (h : dn_X3_vanish o S = some (S0, r0)) : Mc l (sX D t ad) yX3_vanish wsX3_vanish rm_X3_vanish [.ref (ad (o.toNat + 18))] acV S S0 r0 := by
  refine Mc_of (cc := cX3_vanish) (nL := 1) (ret := none) (by decide +kernel) rfl (Nat.le_of_ble_eq_true rfl) (lv := [(0, .ref (ad (o.toNat + 18)))]) rfl (fun x C _ => ?_)
  unfold dn_X3_vanish at h
  show GW (sX D t ad) mi_X3_vanish (acV, S0, r0) x S 0 [(0, .ref (ad (o.toNat + 18)))] []
  refine g_aload_n (n := 1) C 0 dX3_vanish_0 rfl rfl ?_
  refine g_iconst (n := 2) C dX3_vanish_1 rfl ?_
  refine g_null (n := 3) C 30 dX3_vanish_2 rfl ?_
  refine g_iconst (n := 4) C dX3_vanish_3 rfl ?_
  refine g_iconst (n := 5) C dX3_vanish_4 rfl ?_
  obtain ⟨S1, v2, hq3, h⟩ := cal_e h
  refine g_callV (n := 8) (As := [vI 0, vR ad 30 (-1), vI 0, vI 0]) (rest := []) C (o.toNat + 18) 4 (tn_add ho (Nat.le_of_ble_eq_true rfl)) (dX_line (tn_lt ho (Nat.le_refl _))) rfl (c_X3_become hS ho (by decide : r32 0) (by decide : -1 ≤ (-1 : Int) ∧ (-1 : Int) < (60 : Nat)) (by decide : r32 0) (by decide : r32 0) hq3) gX3_vanish_X3_become rfl ⟨rfl, rfl⟩ (by decide +kernel) ⟨Nat.le_of_ble_eq_true rfl, Nat.le_of_ble_eq_true rfl⟩ rfl rfl rfl (Nat.le_of_ble_eq_true rfl) dX3_vanish_5 rfl (fun hS1 hv2 => ?_)
  show GW (sX D t ad) mi_X3_vanish (acV, S0, r0) x S1 8 _ []
  refine g_aload_n (n := 9) C 0 dX3_vanish_8 rfl rfl ?_
  refine g_iconst (n := 10) C dX3_vanish_9 rfl ?_
  obtain ⟨S4, eS4, h⟩ := nmS_e h
  have hS4 : RS S4 := by rw [eS4]; exact RS_i hS1 (by decide : r32 0)
  refine g_putZ (n := 13) C (o.toNat + 18) 2 rfl (tn_add ho (Nat.le_of_ble_eq_true rfl)) (dX_line (tn_lt ho (Nat.le_refl _))) rfl rfl (Nat.le_of_ble_eq_true rfl) in_X3_vanish_X3 tyX3_ok nmX3 (by decide +kernel) rfl (by decide +kernel) (Nat.le_of_ble_eq_true rfl) (Or.inl rfl) eS4 dX3_vanish_10 rfl ?_
  exact g_vret C rfl h rfl trivial hS4 dX3_vanish_13
-- RX3 openFor
abbrev rm_X3_openFor : Room := ({ frames := 1, cells := 0, slots := 0, locals := 24 } : Room)
abbrev mi_X3_openFor : Mi := (cX3_openFor, 2, RX3, wsX3_openFor, rm_X3_openFor, none)
def dn_X3_openFor (o : Int) (a0 : Int) (S : St) : Option (St × Int) := (cal (dn_X3_become o 1 (-1) a0 0 S) fun S1 v2 => some (S1, 0))
set_option maxRecDepth 100000 in
set_option maxHeartbeats 4000000 in
theorem c_X3_openFor {l : Launch} {D : va_G} {t : T5} {ad : Nat → Nat} {S S0 : St} {r0 : Int} {o a0 : Int} (hS : RS S) (ho : 0 ≤ o ∧ o < (12 : Nat)) (ha0 : r32 a0) (h : dn_X3_openFor o a0 S = some (S0, r0)) : Mc l (sX D t ad) yX3_openFor wsX3_openFor rm_X3_openFor [.ref (ad (o.toNat + 18)), vI a0] acV S S0 r0 := by
  refine Mc_of (cc := cX3_openFor) (nL := 2) (ret := none) (by decide +kernel) rfl (Nat.le_of_ble_eq_true rfl) (lv := [(0, .ref (ad (o.toNat + 18))), (1, vI a0)]) rfl (fun x C _ => ?_)
  unfold dn_X3_openFor at h
  show GW (sX D t ad) mi_X3_openFor (acV, S0, r0) x S 0 [(0, .ref (ad (o.toNat + 18))), (1, vI a0)] []
  refine g_aload_n (n := 1) C 0 dX3_openFor_0 rfl rfl ?_
  refine g_iconst (n := 2) C dX3_openFor_1 rfl ?_
  refine g_null (n := 3) C 30 dX3_openFor_2 rfl ?_
  refine g_iload_n (n := 4) C 1 dX3_openFor_3 rfl rfl ?_
  refine g_iconst (n := 5) C dX3_openFor_4 rfl ?_
  obtain ⟨S1, v2, hq3, h⟩ := cal_e h
  refine g_callV (n := 8) (As := [vI 1, vR ad 30 (-1), vI a0, vI 0]) (rest := []) C (o.toNat + 18) 4 (tn_add ho (Nat.le_of_ble_eq_true rfl)) (dX_line (tn_lt ho (Nat.le_refl _))) rfl (c_X3_become hS ho (by decide : r32 1) (by decide : -1 ≤ (-1 : Int) ∧ (-1 : Int) < (60 : Nat)) ha0 (by decide : r32 0) hq3) gX3_openFor_X3_become rfl ⟨rfl, rfl⟩ (by decide +kernel) ⟨Nat.le_of_ble_eq_true rfl, Nat.le_of_ble_eq_true rfl⟩ rfl rfl rfl (Nat.le_of_ble_eq_true rfl) dX3_openFor_5 rfl (fun hS1 hv2 => ?_)
  show GW (sX D t ad) mi_X3_openFor (acV, S0, r0) x S1 8 _ []
  exact g_vret C rfl h rfl trivial hS1 dX3_openFor_8
-- RX3 idleFrom
abbrev rm_X3_idleFrom : Room := ({ frames := 1, cells := 0, slots := 0, locals := 24 } : Room)
abbrev mi_X3_idleFrom : Mi := (cX3_idleFrom, 2, RX3, wsX3_idleFrom, rm_X3_idleFrom, none)
def dn_X3_idleFrom (o : Int) (a0 : Int) (S : St) : Option (St × Int) := (cal (dn_X3_become o 2 (-1) 0 a0 S) fun S1 v2 => some (S1, 0))
set_option maxRecDepth 100000 in
set_option maxHeartbeats 4000000 in
theorem c_X3_idleFrom {l : Launch} {D : va_G} {t : T5} {ad : Nat → Nat} {S S0 : St} {r0 : Int} {o a0 : Int} (hS : RS S) (ho : 0 ≤ o ∧ o < (12 : Nat)) (ha0 : r32 a0) (h : dn_X3_idleFrom o a0 S = some (S0, r0)) : Mc l (sX D t ad) yX3_idleFrom wsX3_idleFrom rm_X3_idleFrom [.ref (ad (o.toNat + 18)), vI a0] acV S S0 r0 := by
  refine Mc_of (cc := cX3_idleFrom) (nL := 2) (ret := none) (by decide +kernel) rfl (Nat.le_of_ble_eq_true rfl) (lv := [(0, .ref (ad (o.toNat + 18))), (1, vI a0)]) rfl (fun x C _ => ?_)
  unfold dn_X3_idleFrom at h
  show GW (sX D t ad) mi_X3_idleFrom (acV, S0, r0) x S 0 [(0, .ref (ad (o.toNat + 18))), (1, vI a0)] []
  refine g_aload_n (n := 1) C 0 dX3_idleFrom_0 rfl rfl ?_
  refine g_iconst (n := 2) C dX3_idleFrom_1 rfl ?_
  refine g_null (n := 3) C 30 dX3_idleFrom_2 rfl ?_
  refine g_iconst (n := 4) C dX3_idleFrom_3 rfl ?_
  refine g_iload_n (n := 5) C 1 dX3_idleFrom_4 rfl rfl ?_
  obtain ⟨S1, v2, hq3, h⟩ := cal_e h
  refine g_callV (n := 8) (As := [vI 2, vR ad 30 (-1), vI 0, vI a0]) (rest := []) C (o.toNat + 18) 4 (tn_add ho (Nat.le_of_ble_eq_true rfl)) (dX_line (tn_lt ho (Nat.le_refl _))) rfl (c_X3_become hS ho (by decide : r32 2) (by decide : -1 ≤ (-1 : Int) ∧ (-1 : Int) < (60 : Nat)) (by decide : r32 0) ha0 hq3) gX3_idleFrom_X3_become rfl ⟨rfl, rfl⟩ (by decide +kernel) ⟨Nat.le_of_ble_eq_true rfl, Nat.le_of_ble_eq_true rfl⟩ rfl rfl rfl (Nat.le_of_ble_eq_true rfl) dX3_idleFrom_5 rfl (fun hS1 hv2 => ?_)
  show GW (sX D t ad) mi_X3_idleFrom (acV, S0, r0) x S1 8 _ []
  exact g_vret C rfl h rfl trivial hS1 dX3_idleFrom_8
-- RX3 tryFor
abbrev rm_X3_tryFor : Room := ({ frames := 1, cells := 0, slots := 0, locals := 24 } : Room)
abbrev mi_X3_tryFor : Mi := (cX3_tryFor, 3, RX3, wsX3_tryFor, rm_X3_tryFor, none)
def dn_X3_tryFor (o : Int) (a0 : Int) (a1 : Int) (S : St) : Option (St × Int) := (cal (dn_X3_become o 3 a0 a1 0 S) fun S1 v2 => some (S1, 0))
set_option maxRecDepth 100000 in
set_option maxHeartbeats 4000000 in
theorem c_X3_tryFor {l : Launch} {D : va_G} {t : T5} {ad : Nat → Nat} {S S0 : St} {r0 : Int} {o a0 a1 : Int} (hS : RS S) (ho : 0 ≤ o ∧ o < (12 : Nat)) (ha0 : -1 ≤ a0 ∧ a0 < (60 : Nat)) (ha1 : r32 a1) (h : dn_X3_tryFor o a0 a1 S = some (S0, r0)) : Mc l (sX D t ad) yX3_tryFor wsX3_tryFor rm_X3_tryFor [.ref (ad (o.toNat + 18)), vR ad 30 a0, vI a1] acV S S0 r0 := by
  refine Mc_of (cc := cX3_tryFor) (nL := 3) (ret := none) (by decide +kernel) rfl (by simp [lg_sl, vR_cat, vI_cat, vJ_cat, rf_cat]) (lv := [(0, .ref (ad (o.toNat + 18))), (1, vR ad 30 a0), (2, vI a1)]) (by simp [lv_args, vR_cat, vI_cat, vJ_cat, rf_cat]) (fun x C _ => ?_)
  unfold dn_X3_tryFor at h
  show GW (sX D t ad) mi_X3_tryFor (acV, S0, r0) x S 0 [(0, .ref (ad (o.toNat + 18))), (1, vR ad 30 a0), (2, vI a1)] []
  refine g_aload_n (n := 1) C 0 dX3_tryFor_0 rfl rfl ?_
  refine g_iconst (n := 2) C dX3_tryFor_1 rfl ?_
  refine g_rload_n (n := 3) C 1 dX3_tryFor_2 rfl rfl ?_
  refine g_iload_n (n := 4) C 2 dX3_tryFor_3 rfl rfl ?_
  refine g_iconst (n := 5) C dX3_tryFor_4 rfl ?_
  obtain ⟨S1, v2, hq3, h⟩ := cal_e h
  refine g_callV (n := 8) (As := [vI 3, vR ad 30 a0, vI a1, vI 0]) (rest := []) C (o.toNat + 18) 4 (tn_add ho (Nat.le_of_ble_eq_true rfl)) (dX_line (tn_lt ho (Nat.le_refl _))) rfl (c_X3_become hS ho (by decide : r32 3) ha0 ha1 (by decide : r32 0) hq3) gX3_tryFor_X3_become rfl ⟨rfl, rfl⟩ (by decide +kernel) ⟨Nat.le_of_ble_eq_true rfl, Nat.le_of_ble_eq_true rfl⟩ rfl rfl rfl (Nat.le_of_ble_eq_true rfl) dX3_tryFor_5 rfl (fun hS1 hv2 => ?_)
  show GW (sX D t ad) mi_X3_tryFor (acV, S0, r0) x S1 8 _ []
  exact g_vret C rfl h rfl trivial hS1 dX3_tryFor_8
-- RX3 lendTo
abbrev rm_X3_lendTo : Room := ({ frames := 1, cells := 0, slots := 0, locals := 24 } : Room)
abbrev mi_X3_lendTo : Mi := (cX3_lendTo, 3, RX3, wsX3_lendTo, rm_X3_lendTo, none)
def dn_X3_lendTo (o : Int) (a0 : Int) (a1 : Int) (S : St) : Option (St × Int) := (cal (dn_X3_become o 4 a0 0 a1 S) fun S1 v2 => some (S1, 0))
set_option maxRecDepth 100000 in
set_option maxHeartbeats 4000000 in
theorem c_X3_lendTo {l : Launch} {D : va_G} {t : T5} {ad : Nat → Nat} {S S0 : St} {r0 : Int} {o a0 a1 : Int} (hS : RS S) (ho : 0 ≤ o ∧ o < (12 : Nat)) (ha0 : -1 ≤ a0 ∧ a0 < (60 : Nat)) (ha1 : r32 a1) (h : dn_X3_lendTo o a0 a1 S = some (S0, r0)) : Mc l (sX D t ad) yX3_lendTo wsX3_lendTo rm_X3_lendTo [.ref (ad (o.toNat + 18)), vR ad 30 a0, vI a1] acV S S0 r0 := by
  refine Mc_of (cc := cX3_lendTo) (nL := 3) (ret := none) (by decide +kernel) rfl (by simp [lg_sl, vR_cat, vI_cat, vJ_cat, rf_cat]) (lv := [(0, .ref (ad (o.toNat + 18))), (1, vR ad 30 a0), (2, vI a1)]) (by simp [lv_args, vR_cat, vI_cat, vJ_cat, rf_cat]) (fun x C _ => ?_)
  unfold dn_X3_lendTo at h
  show GW (sX D t ad) mi_X3_lendTo (acV, S0, r0) x S 0 [(0, .ref (ad (o.toNat + 18))), (1, vR ad 30 a0), (2, vI a1)] []
  refine g_aload_n (n := 1) C 0 dX3_lendTo_0 rfl rfl ?_
  refine g_iconst (n := 2) C dX3_lendTo_1 rfl ?_
  refine g_rload_n (n := 3) C 1 dX3_lendTo_2 rfl rfl ?_
  refine g_iconst (n := 4) C dX3_lendTo_3 rfl ?_
  refine g_iload_n (n := 5) C 2 dX3_lendTo_4 rfl rfl ?_
  obtain ⟨S1, v2, hq3, h⟩ := cal_e h
  refine g_callV (n := 8) (As := [vI 4, vR ad 30 a0, vI 0, vI a1]) (rest := []) C (o.toNat + 18) 4 (tn_add ho (Nat.le_of_ble_eq_true rfl)) (dX_line (tn_lt ho (Nat.le_refl _))) rfl (c_X3_become hS ho (by decide : r32 4) ha0 (by decide : r32 0) ha1 hq3) gX3_lendTo_X3_become rfl ⟨rfl, rfl⟩ (by decide +kernel) ⟨Nat.le_of_ble_eq_true rfl, Nat.le_of_ble_eq_true rfl⟩ rfl rfl rfl (Nat.le_of_ble_eq_true rfl) dX3_lendTo_5 rfl (fun hS1 hv2 => ?_)
  show GW (sX D t ad) mi_X3_lendTo (acV, S0, r0) x S1 8 _ []
  exact g_vret C rfl h rfl trivial hS1 dX3_lendTo_8
-- RX3 isLentTo
abbrev rm_X3_isLentTo : Room := ({ frames := 0, cells := 0, slots := 0, locals := 0 } : Room)
abbrev mi_X3_isLentTo : Mi := (cX3_isLentTo, 2, RX3, wsX3_isLentTo, rm_X3_isLentTo, (some .boolean))
set_option maxRecDepth 20000 in
theorem in_X3_isLentTo_X3 : ∀ w ∈ u_ws RX3 TX3 6, w ∈ wsX3_isLentTo := by decide +kernel
def dn_X3_isLentTo (o : Int) (a0 : Int) (S : St) : Option (St × Int) := (if S (o.toNat + 18) 1 = 4 then (if -1 ≤ S (o.toNat + 18) 3 ∧ S (o.toNat + 18) 3 < 60 then (if S (o.toNat + 18) 3 = a0 then some (S, 1) else some (S, 0)) else none) else some (S, 0))
set_option maxRecDepth 100000 in
set_option maxHeartbeats 4000000 in
theorem c_X3_isLentTo {l : Launch} {D : va_G} {t : T5} {ad : Nat → Nat} {S S0 : St} {r0 : Int} {o a0 : Int} (hS : RS S) (ho : 0 ≤ o ∧ o < (12 : Nat)) (ha0 : -1 ≤ a0 ∧ a0 < (60 : Nat)) (h : dn_X3_isLentTo o a0 S = some (S0, r0)) : Mc l (sX D t ad) yX3_isLentTo wsX3_isLentTo rm_X3_isLentTo [.ref (ad (o.toNat + 18)), vR ad 30 a0] acZ S S0 r0 := by
  refine Mc_of (cc := cX3_isLentTo) (nL := 2) (ret := (some .boolean)) (by decide +kernel) rfl (by simp [lg_sl, vR_cat, vI_cat, vJ_cat, rf_cat]) (lv := [(0, .ref (ad (o.toNat + 18))), (1, vR ad 30 a0)]) (by simp [lv_args, vR_cat, vI_cat, vJ_cat, rf_cat]) (fun x C _ => ?_)
  unfold dn_X3_isLentTo at h
  show GW (sX D t ad) mi_X3_isLentTo (acZ, S0, r0) x S 0 [(0, .ref (ad (o.toNat + 18))), (1, vR ad 30 a0)] []
  refine g_aload_n (n := 1) C 0 dX3_isLentTo_0 rfl rfl ?_
  refine g_getI (n := 4) C (o.toNat + 18) 1 rfl (tn_add ho (Nat.le_of_ble_eq_true rfl)) (dX_line (tn_lt ho (Nat.le_refl _))) rfl rfl (Nat.le_of_ble_eq_true rfl) in_X3_isLentTo_X3 (by decide +kernel) dX3_isLentTo_1 rfl ?_
  refine g_iconst (n := 5) C dX3_isLentTo_4 rfl ?_
  refine g_icmp_ne (n := 8) C 20 ((hS (o.toNat + 18) 1).2 (by decide)) (by decide : r32 4) dX3_isLentTo_5 (by decide) rfl (fun (hc1 : ¬ (S (o.toNat + 18) 1 = 4)) => ?_) (fun (hc1 : S (o.toNat + 18) 1 = 4) => ?_)
  · rw [if_neg hc1] at h
    refine g_iconst (n := 21) C dX3_isLentTo_20 rfl ?_
    exact g_zret C rfl (Or.inl rfl) h rfl (Or.inl rfl) hS dX3_isLentTo_21
  · rw [if_pos hc1] at h
    refine g_aload_n (n := 9) C 0 dX3_isLentTo_8 rfl rfl ?_
    refine g_getF (n := 12) C (o.toNat + 18) 3 rfl (tn_add ho (Nat.le_of_ble_eq_true rfl)) (dX_line (tn_lt ho (Nat.le_refl _))) rfl rfl (Nat.le_of_ble_eq_true rfl) in_X3_isLentTo_X3 (by decide +kernel) dX3_isLentTo_9 rfl ?_
    refine g_rload_n (n := 13) C 1 dX3_isLentTo_12 rfl rfl ?_
    obtain ⟨hg2, h⟩ := gd_e h
    refine g_acmp_ne (n := 16) C 20 60 (Nat.le_of_ble_eq_true rfl) hg2 ha0 dX3_isLentTo_13 (by decide) rfl (fun (hc3 : ¬ (S (o.toNat + 18) 3 = a0)) => ?_) (fun (hc3 : S (o.toNat + 18) 3 = a0) => ?_)
    · rw [if_neg hc3] at h
      refine g_iconst (n := 21) C dX3_isLentTo_20 rfl ?_
      exact g_zret C rfl (Or.inl rfl) h rfl (Or.inl rfl) hS dX3_isLentTo_21
    · rw [if_pos hc3] at h
      refine g_iconst (n := 17) C dX3_isLentTo_16 rfl ?_
      refine g_goto C 21 dX3_isLentTo_17 (by decide) ?_
      exact g_zret C rfl (Or.inr rfl) h rfl (Or.inr rfl) hS dX3_isLentTo_21
-- RX3 figure
abbrev rm_X3_figure : Room := ({ frames := 0, cells := 0, slots := 0, locals := 0 } : Room)
abbrev mi_X3_figure : Mi := (cX3_figure, 2, RX3, wsX3_figure, rm_X3_figure, (some .int))
set_option maxRecDepth 20000 in
theorem in_X3_figure_X1 : ∀ w ∈ u_ws RX1 TX1 10, w ∈ wsX3_figure := by decide +kernel
set_option maxRecDepth 20000 in
theorem in_X3_figure_X3 : ∀ w ∈ u_ws RX3 TX3 6, w ∈ wsX3_figure := by decide +kernel
def dn_X3_figure (o : Int) (a0 : Int) (S : St) : Option (St × Int) := (if a0 = 0 then some (S, S (o.toNat + 18) 1) else (if a0 = 1 then (if S (o.toNat + 18) 2 = 0 then some (S, 0) else some (S, 1)) else (if a0 = 2 then (if S (o.toNat + 18) 3 < 0 then some (S, (-1)) else (if 0 ≤ S (o.toNat + 18) 3 ∧ S (o.toNat + 18) 3 < 60 then some (S, ((S (o.toNat + 18) 3).toNat : Int)) else none)) else (if a0 = 3 then some (S, S (o.toNat + 18) 4) else (if a0 = 4 then some (S, S (o.toNat + 18) 5) else some (S, (-1)))))))
set_option maxRecDepth 100000 in
set_option maxHeartbeats 4000000 in
theorem c_X3_figure {l : Launch} {D : va_G} {t : T5} {ad : Nat → Nat} {S S0 : St} {r0 : Int} {o a0 : Int} (hS : RS S) (ho : 0 ≤ o ∧ o < (12 : Nat)) (ha0 : r32 a0) (h : dn_X3_figure o a0 S = some (S0, r0)) : Mc l (sX D t ad) yX3_figure wsX3_figure rm_X3_figure [.ref (ad (o.toNat + 18)), vI a0] acI S S0 r0 := by
  refine Mc_of (cc := cX3_figure) (nL := 2) (ret := (some .int)) (by decide +kernel) rfl (Nat.le_of_ble_eq_true rfl) (lv := [(0, .ref (ad (o.toNat + 18))), (1, vI a0)]) rfl (fun x C _ => ?_)
  unfold dn_X3_figure at h
  show GW (sX D t ad) mi_X3_figure (acI, S0, r0) x S 0 [(0, .ref (ad (o.toNat + 18))), (1, vI a0)] []
  refine g_iload_n (n := 1) C 1 dX3_figure_0 rfl rfl ?_
  by_cases hc1 : a0 = 0
  · rw [if_pos hc1] at h
    refine g_tabIn C 0 36 ha0 dX3_figure_1 hc1 (by decide) rfl (by decide) ?_
    refine g_aload_n (n := 37) C 0 dX3_figure_36 rfl rfl ?_
    refine g_getI (n := 40) C (o.toNat + 18) 1 rfl (tn_add ho (Nat.le_of_ble_eq_true rfl)) (dX_line (tn_lt ho (Nat.le_refl _))) rfl rfl (Nat.le_of_ble_eq_true rfl) in_X3_figure_X3 (by decide +kernel) dX3_figure_37 rfl ?_
    exact g_iret C rfl h rfl ((hS (o.toNat + 18) 1).2 (by decide)) hS dX3_figure_40
  · rw [if_neg hc1] at h
    by_cases hc2 : a0 = 1
    · rw [if_pos hc2] at h
      refine g_tabIn C 1 41 ha0 dX3_figure_1 hc2 (by decide) rfl (by decide) ?_
      refine g_aload_n (n := 42) C 0 dX3_figure_41 rfl rfl ?_
      refine g_getI (n := 45) C (o.toNat + 18) 2 rfl (tn_add ho (Nat.le_of_ble_eq_true rfl)) (dX_line (tn_lt ho (Nat.le_refl _))) rfl rfl (Nat.le_of_ble_eq_true rfl) in_X3_figure_X3 (by decide +kernel) dX3_figure_42 rfl ?_
      refine g_if_eq (n := 48) C 52 ((hS (o.toNat + 18) 2).2 (by decide)) dX3_figure_45 (by decide) rfl (fun (hc3 : S (o.toNat + 18) 2 = 0) => ?_) (fun (hc3 : ¬ (S (o.toNat + 18) 2 = 0)) => ?_)
      · rw [if_pos hc3] at h
        refine g_iconst (n := 53) C dX3_figure_52 rfl ?_
        exact g_iret C rfl h rfl (by decide : r32 0) hS dX3_figure_53
      · rw [if_neg hc3] at h
        refine g_iconst (n := 49) C dX3_figure_48 rfl ?_
        refine g_goto C 53 dX3_figure_49 (by decide) ?_
        exact g_iret C rfl h rfl (by decide : r32 1) hS dX3_figure_53
    · rw [if_neg hc2] at h
      by_cases hc4 : a0 = 2
      · rw [if_pos hc4] at h
        refine g_tabIn C 2 54 ha0 dX3_figure_1 hc4 (by decide) rfl (by decide) ?_
        refine g_aload_n (n := 55) C 0 dX3_figure_54 rfl rfl ?_
        refine g_getF (n := 58) C (o.toNat + 18) 3 rfl (tn_add ho (Nat.le_of_ble_eq_true rfl)) (dX_line (tn_lt ho (Nat.le_refl _))) rfl rfl (Nat.le_of_ble_eq_true rfl) in_X3_figure_X3 (by decide +kernel) dX3_figure_55 rfl ?_
        refine g_ifnonnull (n := 61) C 65 dX3_figure_58 (by decide) rfl (fun (hc5 : ¬ (S (o.toNat + 18) 3 < 0)) => ?_) (fun (hc5 : S (o.toNat + 18) 3 < 0) => ?_)
        · rw [if_neg hc5] at h
          refine g_aload_n (n := 66) C 0 dX3_figure_65 rfl rfl ?_
          refine g_getF (n := 69) C (o.toNat + 18) 3 rfl (tn_add ho (Nat.le_of_ble_eq_true rfl)) (dX_line (tn_lt ho (Nat.le_refl _))) rfl rfl (Nat.le_of_ble_eq_true rfl) in_X3_figure_X3 (by decide +kernel) dX3_figure_66 rfl ?_
          obtain ⟨hg6, h⟩ := gd_e h
          refine g_getN (n := 72) C ((S (o.toNat + 18) 3).toNat + 30) 0 (vR_pos hg6.1) (tn_add hg6 (Nat.le_of_ble_eq_true rfl)) (dX_call (tn_lt hg6 (Nat.le_refl _))) rfl rfl (Nat.le_of_ble_eq_true rfl) in_X3_figure_X1 (by decide +kernel) dX3_figure_69 rfl ?_
          exact g_iret C rfl h rfl (tn_r32 hg6 (by decide)) hS dX3_figure_72
        · rw [if_pos hc5] at h
          refine g_iconst (n := 62) C dX3_figure_61 rfl ?_
          refine g_goto C 72 dX3_figure_62 (by decide) ?_
          exact g_iret C rfl h rfl (by decide : r32 (-1)) hS dX3_figure_72
      · rw [if_neg hc4] at h
        by_cases hc7 : a0 = 3
        · rw [if_pos hc7] at h
          refine g_tabIn C 3 73 ha0 dX3_figure_1 hc7 (by decide) rfl (by decide) ?_
          refine g_aload_n (n := 74) C 0 dX3_figure_73 rfl rfl ?_
          refine g_getI (n := 77) C (o.toNat + 18) 4 rfl (tn_add ho (Nat.le_of_ble_eq_true rfl)) (dX_line (tn_lt ho (Nat.le_refl _))) rfl rfl (Nat.le_of_ble_eq_true rfl) in_X3_figure_X3 (by decide +kernel) dX3_figure_74 rfl ?_
          exact g_iret C rfl h rfl ((hS (o.toNat + 18) 4).2 (by decide)) hS dX3_figure_77
        · rw [if_neg hc7] at h
          by_cases hc8 : a0 = 4
          · rw [if_pos hc8] at h
            refine g_tabIn C 4 78 ha0 dX3_figure_1 hc8 (by decide) rfl (by decide) ?_
            refine g_aload_n (n := 79) C 0 dX3_figure_78 rfl rfl ?_
            refine g_getI (n := 82) C (o.toNat + 18) 5 rfl (tn_add ho (Nat.le_of_ble_eq_true rfl)) (dX_line (tn_lt ho (Nat.le_refl _))) rfl rfl (Nat.le_of_ble_eq_true rfl) in_X3_figure_X3 (by decide +kernel) dX3_figure_79 rfl ?_
            exact g_iret C rfl h rfl ((hS (o.toNat + 18) 5).2 (by decide)) hS dX3_figure_82
          · rw [if_neg hc8] at h
            refine g_tabOut C 83 ha0 dX3_figure_1 (by omega) (by decide) ?_
            refine g_iconst (n := 84) C dX3_figure_83 rfl ?_
            exact g_iret C rfl h rfl (by decide : r32 (-1)) hS dX3_figure_84
-- RJ9 floorMod
abbrev rm_J9_floorMod_7cf53 : Room := ({ frames := 0, cells := 0, slots := 0, locals := 0 } : Room)
abbrev mi_J9_floorMod_7cf53 : Mi := (cJ9_floorMod_7cf53, 3, RJ9, wsJ9_floorMod_7cf53, rm_J9_floorMod_7cf53, (some .int))
def dn_J9_floorMod_7cf53 (a0 : Int) (a1 : Int) (S : St) : Option (St × Int) := (if a1 ≠ 0 then (nmV (w32 (Int.tmod a0 a1)) fun v2 => (if 0 ≤ xorI a0 a1 then some (S, v2) else (if v2 = 0 then some (S, v2) else some (S, w32 (v2 + a1))))) else none)
set_option maxRecDepth 100000 in
set_option maxHeartbeats 4000000 in
theorem c_J9_floorMod_7cf53 {l : Launch} {D : va_G} {t : T5} {ad : Nat → Nat} {S S0 : St} {r0 : Int} {a0 a1 : Int} (hS : RS S) (ha0 : r32 a0) (ha1 : r32 a1) (h : dn_J9_floorMod_7cf53 a0 a1 S = some (S0, r0)) : Mc l (sX D t ad) yJ9_floorMod_7cf53 wsJ9_floorMod_7cf53 rm_J9_floorMod_7cf53 [vI a0, vI a1] acI S S0 r0 := by
  refine Mc_of (cc := cJ9_floorMod_7cf53) (nL := 3) (ret := (some .int)) (by decide +kernel) rfl (Nat.le_of_ble_eq_true rfl) (lv := [(0, vI a0), (1, vI a1)]) rfl (fun x C _ => ?_)
  unfold dn_J9_floorMod_7cf53 at h
  show GW (sX D t ad) mi_J9_floorMod_7cf53 (acI, S0, r0) x S 0 [(0, vI a0), (1, vI a1)] []
  refine g_iload_n (n := 1) C 0 dJ9_floorMod_7cf53_0 rfl rfl ?_
  refine g_iload_n (n := 2) C 1 dJ9_floorMod_7cf53_1 rfl rfl ?_
  obtain ⟨hg1, h⟩ := gd_e h
  refine g_irem (n := 3) C ha0 ha1 hg1 dJ9_floorMod_7cf53_2 rfl ?_
  obtain ⟨v2, ev2, h⟩ := nmV_e h
  have hv2 : r32 v2 := by rw [ev2]; exact (w32_r _)
  refine g_istore_n (n := 4) (lv' := [(2, vI v2), (0, vI a0), (1, vI a1)]) C dJ9_floorMod_7cf53_3 (Nat.le_of_ble_eq_true rfl) ev2 rfl rfl ?_
  refine g_iload_n (n := 5) C 1 dJ9_floorMod_7cf53_4 rfl rfl ?_
  refine g_iload_n (n := 6) C 2 dJ9_floorMod_7cf53_5 rfl rfl ?_
  refine g_ixor (n := 7) C dJ9_floorMod_7cf53_6 rfl ?_
  refine g_if_ge (n := 10) C 18 (i_rng _) dJ9_floorMod_7cf53_7 (by decide) rfl (fun (hc3 : 0 ≤ xorI a0 a1) => ?_) (fun (hc3 : ¬ (0 ≤ xorI a0 a1)) => ?_)
  · rw [if_pos hc3] at h
    refine g_iload_n (n := 19) C 0 dJ9_floorMod_7cf53_18 rfl rfl ?_
    exact g_iret C rfl h rfl hv2 hS dJ9_floorMod_7cf53_19
  · rw [if_neg hc3] at h
    refine g_iload_n (n := 11) C 0 dJ9_floorMod_7cf53_10 rfl rfl ?_
    refine g_if_eq (n := 14) C 18 hv2 dJ9_floorMod_7cf53_11 (by decide) rfl (fun (hc4 : v2 = 0) => ?_) (fun (hc4 : ¬ (v2 = 0)) => ?_)
    · rw [if_pos hc4] at h
      refine g_iload_n (n := 19) C 0 dJ9_floorMod_7cf53_18 rfl rfl ?_
      exact g_iret C rfl h rfl hv2 hS dJ9_floorMod_7cf53_19
    · rw [if_neg hc4] at h
      refine g_iload_n (n := 15) C 0 dJ9_floorMod_7cf53_14 rfl rfl ?_
      refine g_iload_n (n := 16) C 2 dJ9_floorMod_7cf53_15 rfl rfl ?_
      refine g_iadd (n := 17) C dJ9_floorMod_7cf53_16 rfl ?_
      exact g_iret C rfl h rfl (w32_r _) hS dJ9_floorMod_7cf53_17
-- RX4 add
abbrev rm_X4_add : Room := ({ frames := 1, cells := 0, slots := 0, locals := 22 } : Room)
abbrev mi_X4_add : Mi := (cX4_add, 6, RX4, wsX4_add, rm_X4_add, none)
set_option maxRecDepth 20000 in
theorem in_X4_add_X4 : ∀ w ∈ u_ws RX4 TX4 3, w ∈ wsX4_add := by decide +kernel
def dn_X4_add (a0 : Int) (a1 : Int) (a2 : Int) (a3 : Int) (S : St) : Option (St × Int) := (cal (dn_J9_floorMod_7cf53 (S 10 2) 150 S) fun S1 v2 => (nmV (w32 (v2 * 4)) fun v4 => (if 0 ≤ v4 ∧ v4 < 600 then (nmS (stU S1 11 v4.toNat a0) fun S6 => (if 0 ≤ w32 (v4 + 1) ∧ w32 (v4 + 1) < 600 then (nmS (stU S6 11 (w32 (v4 + 1)).toNat a1) fun S8 => (if 0 ≤ w32 (v4 + 2) ∧ w32 (v4 + 2) < 600 then (nmS (stU S8 11 (w32 (v4 + 2)).toNat a2) fun S10 => (if 0 ≤ w32 (v4 + 3) ∧ w32 (v4 + 3) < 600 then (nmS (stU S10 11 (w32 (v4 + 3)).toNat a3) fun S12 => (if 0 ≤ a0 ∧ a0 < 9 then (nmS (stU S12 12 a0.toNat (w32 ((S12 12 a0.toNat) + 1))) fun S14 => (nmS (stU S14 10 2 (w32 ((S14 10 2) + 1))) fun S15 => some (S15, 0))) else none)) else none)) else none)) else none)) else none)))
set_option maxRecDepth 100000 in
set_option maxHeartbeats 4000000 in
theorem c_X4_add {l : Launch} {D : va_G} {t : T5} {ad : Nat → Nat} {S S0 : St} {r0 : Int} {a0 a1 a2 a3 : Int} (hS : RS S) (ha0 : r32 a0) (ha1 : r32 a1) (ha2 : r32 a2) (ha3 : r32 a3) (h : dn_X4_add a0 a1 a2 a3 S = some (S0, r0)) : Mc l (sX D t ad) yX4_add wsX4_add rm_X4_add [.ref (ad 10), vI a0, vI a1, vI a2, vI a3] acV S S0 r0 := by
  refine Mc_of (cc := cX4_add) (nL := 6) (ret := none) (by decide +kernel) rfl (Nat.le_of_ble_eq_true rfl) (lv := [(0, .ref (ad 10)), (1, vI a0), (2, vI a1), (3, vI a2), (4, vI a3)]) rfl (fun x C _ => ?_)
  unfold dn_X4_add at h
  show GW (sX D t ad) mi_X4_add (acV, S0, r0) x S 0 [(0, .ref (ad 10)), (1, vI a0), (2, vI a1), (3, vI a2), (4, vI a3)] []
  refine g_aload_n (n := 1) C 0 dX4_add_0 rfl rfl ?_
  refine g_getI (n := 4) C 10 2 rfl (Nat.le_of_ble_eq_true rfl) rfl rfl rfl (Nat.le_of_ble_eq_true rfl) in_X4_add_X4 (by decide +kernel) dX4_add_1 rfl ?_
  refine g_sipush (n := 7) C dX4_add_4 (by decide +kernel) rfl ?_
  obtain ⟨S1, v2, hq3, h⟩ := cal_e h
  refine g_callT (n := 10) (As := [vI (S 10 2), vI 150]) (rest := []) C 2 (c_J9_floorMod_7cf53 hS ((hS 10 2).2 (by decide)) (by decide : r32 150) hq3) gX4_add_J9_floorMod_7cf53 rfl ⟨rfl, rfl⟩ (by decide +kernel) ⟨Nat.le_of_ble_eq_true rfl, Nat.le_of_ble_eq_true rfl⟩ rfl rfl (Nat.le_of_ble_eq_true rfl) dX4_add_7 rfl (fun hS1 hv2 => ?_)
  show GW (sX D t ad) mi_X4_add (acV, S0, r0) x S1 10 _ [vI v2]
  refine g_iconst (n := 11) C dX4_add_10 rfl ?_
  refine g_imul (n := 12) C dX4_add_11 rfl ?_
  obtain ⟨v4, ev4, h⟩ := nmV_e h
  have hv4 : r32 v4 := by rw [ev4]; exact (w32_r _)
  refine g_istore (n := 14) (lv' := [(5, vI v4), (0, .ref (ad 10)), (1, vI a0), (2, vI a1), (3, vI a2), (4, vI a3)]) C dX4_add_12 (Nat.le_of_ble_eq_true rfl) ev4 rfl rfl ?_
  refine g_aload_n (n := 15) C 1 dX4_add_14 rfl rfl ?_
  refine g_getC (n := 18) C 10 0 rfl (Nat.le_of_ble_eq_true rfl) rfl rfl rfl (Nat.le_of_ble_eq_true rfl) in_X4_add_X4 (by decide +kernel) dX4_add_15 rfl ?_
  refine g_iload (n := 20) C 0 dX4_add_18 rfl rfl ?_
  refine g_iload_n (n := 21) C 2 dX4_add_20 rfl rfl ?_
  obtain ⟨hg5, h⟩ := gd_e h
  obtain ⟨S6, eS6, h⟩ := nmS_e h
  have hS6 : RS S6 := by rw [eS6]; exact RS_i hS1 ha0
  refine g_iast (n := 22) C 11 rfl (Nat.le_of_ble_eq_true rfl) rfl rfl hg5 hv4 eS6 dX4_add_21 rfl ?_
  refine g_aload_n (n := 23) C 1 dX4_add_22 rfl rfl ?_
  refine g_getC (n := 26) C 10 0 rfl (Nat.le_of_ble_eq_true rfl) rfl rfl rfl (Nat.le_of_ble_eq_true rfl) in_X4_add_X4 (by decide +kernel) dX4_add_23 rfl ?_
  refine g_iload (n := 28) C 0 dX4_add_26 rfl rfl ?_
  refine g_iconst (n := 29) C dX4_add_28 rfl ?_
  refine g_iadd (n := 30) C dX4_add_29 rfl ?_
  refine g_iload_n (n := 31) C 3 dX4_add_30 rfl rfl ?_
  obtain ⟨hg7, h⟩ := gd_e h
  obtain ⟨S8, eS8, h⟩ := nmS_e h
  have hS8 : RS S8 := by rw [eS8]; exact RS_i hS6 ha1
  refine g_iast (n := 32) C 11 rfl (Nat.le_of_ble_eq_true rfl) rfl rfl hg7 (w32_r _) eS8 dX4_add_31 rfl ?_
  refine g_aload_n (n := 33) C 1 dX4_add_32 rfl rfl ?_
  refine g_getC (n := 36) C 10 0 rfl (Nat.le_of_ble_eq_true rfl) rfl rfl rfl (Nat.le_of_ble_eq_true rfl) in_X4_add_X4 (by decide +kernel) dX4_add_33 rfl ?_
  refine g_iload (n := 38) C 0 dX4_add_36 rfl rfl ?_
  refine g_iconst (n := 39) C dX4_add_38 rfl ?_
  refine g_iadd (n := 40) C dX4_add_39 rfl ?_
  refine g_iload_n (n := 41) C 4 dX4_add_40 rfl rfl ?_
  obtain ⟨hg9, h⟩ := gd_e h
  obtain ⟨S10, eS10, h⟩ := nmS_e h
  have hS10 : RS S10 := by rw [eS10]; exact RS_i hS8 ha2
  refine g_iast (n := 42) C 11 rfl (Nat.le_of_ble_eq_true rfl) rfl rfl hg9 (w32_r _) eS10 dX4_add_41 rfl ?_
  refine g_aload_n (n := 43) C 1 dX4_add_42 rfl rfl ?_
  refine g_getC (n := 46) C 10 0 rfl (Nat.le_of_ble_eq_true rfl) rfl rfl rfl (Nat.le_of_ble_eq_true rfl) in_X4_add_X4 (by decide +kernel) dX4_add_43 rfl ?_
  refine g_iload (n := 48) C 0 dX4_add_46 rfl rfl ?_
  refine g_iconst (n := 49) C dX4_add_48 rfl ?_
  refine g_iadd (n := 50) C dX4_add_49 rfl ?_
  refine g_iload (n := 52) C 5 dX4_add_50 rfl rfl ?_
  obtain ⟨hg11, h⟩ := gd_e h
  obtain ⟨S12, eS12, h⟩ := nmS_e h
  have hS12 : RS S12 := by rw [eS12]; exact RS_i hS10 ha3
  refine g_iast (n := 53) C 11 rfl (Nat.le_of_ble_eq_true rfl) rfl rfl hg11 (w32_r _) eS12 dX4_add_52 rfl ?_
  refine g_aload_n (n := 54) C 1 dX4_add_53 rfl rfl ?_
  refine g_getC (n := 57) C 10 1 rfl (Nat.le_of_ble_eq_true rfl) rfl rfl rfl (Nat.le_of_ble_eq_true rfl) in_X4_add_X4 (by decide +kernel) dX4_add_54 rfl ?_
  refine g_iload_n (n := 58) C 2 dX4_add_57 rfl rfl ?_
  refine g_dup2 (n := 59) C rfl rfl dX4_add_58 rfl ?_
  obtain ⟨hg13, h⟩ := gd_e h
  refine g_iald (n := 60) C 12 rfl (Nat.le_of_ble_eq_true rfl) rfl rfl hg13 ha0 dX4_add_59 rfl ?_
  refine g_iconst (n := 61) C dX4_add_60 rfl ?_
  refine g_iadd (n := 62) C dX4_add_61 rfl ?_
  obtain ⟨S14, eS14, h⟩ := nmS_e h
  have hS14 : RS S14 := by rw [eS14]; exact RS_i hS12 (w32_r _)
  refine g_iast (n := 63) C 12 rfl (Nat.le_of_ble_eq_true rfl) rfl rfl hg13 ha0 eS14 dX4_add_62 rfl ?_
  refine g_aload_n (n := 64) C 1 dX4_add_63 rfl rfl ?_
  refine g_dup (n := 65) C rfl dX4_add_64 rfl ?_
  refine g_getI (n := 68) C 10 2 rfl (Nat.le_of_ble_eq_true rfl) rfl rfl rfl (Nat.le_of_ble_eq_true rfl) in_X4_add_X4 (by decide +kernel) dX4_add_65 rfl ?_
  refine g_iconst (n := 69) C dX4_add_68 rfl ?_
  refine g_iadd (n := 70) C dX4_add_69 rfl ?_
  obtain ⟨S15, eS15, h⟩ := nmS_e h
  have hS15 : RS S15 := by rw [eS15]; exact RS_i hS14 (w32_r _)
  refine g_putI (n := 73) C 10 2 rfl (Nat.le_of_ble_eq_true rfl) rfl rfl rfl (Nat.le_of_ble_eq_true rfl) in_X4_add_X4 tyX4_ok nmX4 (by decide +kernel) rfl (by decide +kernel) (Nat.le_of_ble_eq_true rfl) eS15 dX4_add_70 rfl ?_
  exact g_vret C rfl h rfl trivial hS15 dX4_add_73
-- RX4 forget
abbrev rm_X4_forget : Room := ({ frames := 0, cells := 0, slots := 0, locals := 0 } : Room)
abbrev mi_X4_forget : Mi := (cX4_forget, 2, RX4, wsX4_forget, rm_X4_forget, none)
set_option maxRecDepth 20000 in
theorem in_X4_forget_X4 : ∀ w ∈ u_ws RX4 TX4 3, w ∈ wsX4_forget := by decide +kernel
def dn_X4_forget_7 : Nat → Int → St → Option (St × Int)
  | 0, _, _ => none
  | n + 1, x1, S => (if 9 ≤ x1 then some (S, 0) else (if 0 ≤ x1 ∧ x1 < 9 then (nmS (stU S 12 x1.toNat 0) fun S4 => (nmV (w32 (x1 + 1)) fun v5 => dn_X4_forget_7 n v5 S4)) else none))
set_option maxRecDepth 100000 in
set_option maxHeartbeats 4000000 in
theorem u_X4_forget_7 {D : va_G} {t : T5} {ad : Nat → Nat} {S0 : St} {r0 : Int} {x : Mx} (C : CX (sX D t ad) mi_X4_forget x) : ∀ (n : Nat) (x1 : Int) (S : St), RS S → (r32 x1) → dn_X4_forget_7 n x1 S = some (S0, r0) → GW (sX D t ad) mi_X4_forget (acV, S0, r0) x S 7 [(0, .ref (ad 10)), (1, vI x1)] [] := by
  intro n
  induction n with
  | zero =>
    intro x1 S hS hx1 h
    cases h
  | succ n ih =>
    intro x1 S hS hx1 h
    rw [dn_X4_forget_7] at h
    refine g_iload_n (n := 8) C 1 dX4_forget_7 rfl rfl ?_
    refine g_bipush (n := 10) C dX4_forget_8 (by decide +kernel) rfl ?_
    refine g_icmp_ge (n := 13) C 26 hx1 (by decide : r32 9) dX4_forget_10 (by decide) rfl (fun (hc2 : 9 ≤ x1) => ?_) (fun (hc2 : ¬ (9 ≤ x1)) => ?_)
    · rw [if_pos hc2] at h
      exact g_vret C rfl h rfl trivial hS dX4_forget_26
    · rw [if_neg hc2] at h
      refine g_aload_n (n := 14) C 0 dX4_forget_13 rfl rfl ?_
      refine g_getC (n := 17) C 10 1 rfl (Nat.le_of_ble_eq_true rfl) rfl rfl rfl (Nat.le_of_ble_eq_true rfl) in_X4_forget_X4 (by decide +kernel) dX4_forget_14 rfl ?_
      refine g_iload_n (n := 18) C 1 dX4_forget_17 rfl rfl ?_
      refine g_iconst (n := 19) C dX4_forget_18 rfl ?_
      obtain ⟨hg3, h⟩ := gd_e h
      obtain ⟨S4, eS4, h⟩ := nmS_e h
      have hS4 : RS S4 := by rw [eS4]; exact RS_i hS (by decide : r32 0)
      refine g_iast (n := 20) C 12 rfl (Nat.le_of_ble_eq_true rfl) rfl rfl hg3 hx1 eS4 dX4_forget_19 rfl ?_
      obtain ⟨v5, ev5, h⟩ := nmV_e h
      have hv5 : r32 v5 := by rw [ev5]; exact w32_r _
      refine g_iinc (n := 23) (lv' := [(1, vI v5), (0, .ref (ad 10))]) C 1 dX4_forget_20 rfl (Nat.le_of_ble_eq_true rfl) ev5 rfl rfl ?_
      refine g_goto C 7 dX4_forget_23 (by decide) ?_
      refine g_lv [1, 0] rfl ?_
      exact ih v5 S4 hS4 hv5 h
def dn_X4_forget (S : St) : Option (St × Int) := (nmS (stU S 10 2 0) fun S1 => dn_X4_forget_7 FU 0 S1)
set_option maxRecDepth 100000 in
set_option maxHeartbeats 4000000 in
theorem c_X4_forget {l : Launch} {D : va_G} {t : T5} {ad : Nat → Nat} {S S0 : St} {r0 : Int} (hS : RS S) (h : dn_X4_forget S = some (S0, r0)) : Mc l (sX D t ad) yX4_forget wsX4_forget rm_X4_forget [.ref (ad 10)] acV S S0 r0 := by
  refine Mc_of (cc := cX4_forget) (nL := 2) (ret := none) (by decide +kernel) rfl (Nat.le_of_ble_eq_true rfl) (lv := [(0, .ref (ad 10))]) rfl (fun x C _ => ?_)
  unfold dn_X4_forget at h
  show GW (sX D t ad) mi_X4_forget (acV, S0, r0) x S 0 [(0, .ref (ad 10))] []
  refine g_aload_n (n := 1) C 0 dX4_forget_0 rfl rfl ?_
  refine g_iconst (n := 2) C dX4_forget_1 rfl ?_
  obtain ⟨S1, eS1, h⟩ := nmS_e h
  have hS1 : RS S1 := by rw [eS1]; exact RS_i hS (by decide : r32 0)
  refine g_putI (n := 5) C 10 2 rfl (Nat.le_of_ble_eq_true rfl) rfl rfl rfl (Nat.le_of_ble_eq_true rfl) in_X4_forget_X4 tyX4_ok nmX4 (by decide +kernel) rfl (by decide +kernel) (Nat.le_of_ble_eq_true rfl) eS1 dX4_forget_2 rfl ?_
  refine g_iconst (n := 6) C dX4_forget_5 rfl ?_
  refine g_istore_n (n := 7) (lv' := [(1, vI 0), (0, .ref (ad 10))]) C dX4_forget_6 (Nat.le_of_ble_eq_true rfl) rfl rfl rfl ?_
  refine g_lv [1, 0] rfl ?_
  exact u_X4_forget_7 C FU 0 S1 hS1 (by decide : r32 0) h
-- RX4 total
abbrev rm_X4_total : Room := ({ frames := 0, cells := 0, slots := 0, locals := 0 } : Room)
abbrev mi_X4_total : Mi := (cX4_total, 2, RX4, wsX4_total, rm_X4_total, (some .int))
set_option maxRecDepth 20000 in
theorem in_X4_total_X4 : ∀ w ∈ u_ws RX4 TX4 3, w ∈ wsX4_total := by decide +kernel
def dn_X4_total (a0 : Int) (S : St) : Option (St × Int) := (if 0 ≤ a0 ∧ a0 < 9 then some (S, S 12 a0.toNat) else none)
set_option maxRecDepth 100000 in
set_option maxHeartbeats 4000000 in
theorem c_X4_total {l : Launch} {D : va_G} {t : T5} {ad : Nat → Nat} {S S0 : St} {r0 : Int} {a0 : Int} (hS : RS S) (ha0 : r32 a0) (h : dn_X4_total a0 S = some (S0, r0)) : Mc l (sX D t ad) yX4_total wsX4_total rm_X4_total [.ref (ad 10), vI a0] acI S S0 r0 := by
  refine Mc_of (cc := cX4_total) (nL := 2) (ret := (some .int)) (by decide +kernel) rfl (Nat.le_of_ble_eq_true rfl) (lv := [(0, .ref (ad 10)), (1, vI a0)]) rfl (fun x C _ => ?_)
  unfold dn_X4_total at h
  show GW (sX D t ad) mi_X4_total (acI, S0, r0) x S 0 [(0, .ref (ad 10)), (1, vI a0)] []
  refine g_aload_n (n := 1) C 0 dX4_total_0 rfl rfl ?_
  refine g_getC (n := 4) C 10 1 rfl (Nat.le_of_ble_eq_true rfl) rfl rfl rfl (Nat.le_of_ble_eq_true rfl) in_X4_total_X4 (by decide +kernel) dX4_total_1 rfl ?_
  refine g_iload_n (n := 5) C 1 dX4_total_4 rfl rfl ?_
  obtain ⟨hg1, h⟩ := gd_e h
  refine g_iald (n := 6) C 12 rfl (Nat.le_of_ble_eq_true rfl) rfl rfl hg1 ha0 dX4_total_5 rfl ?_
  exact g_iret C rfl h rfl ((hS 12 _).2 (tn_lt hg1 (by decide))) hS dX4_total_6
-- RX4 figure
abbrev rm_X4_figure : Room := ({ frames := 1, cells := 0, slots := 0, locals := 22 } : Room)
abbrev mi_X4_figure : Mi := (cX4_figure, 3, RX4, wsX4_figure, rm_X4_figure, (some .int))
set_option maxRecDepth 20000 in
theorem in_X4_figure_X4 : ∀ w ∈ u_ws RX4 TX4 3, w ∈ wsX4_figure := by decide +kernel
def dn_X4_figure (a0 : Int) (a1 : Int) (S : St) : Option (St × Int) := (cal (dn_X8_within a0 0 (w32 ((mnI (S 10 2) 150) - 1)) S) fun S1 v2 => (if v2 = 0 then some (S1, (-1)) else (cal (dn_X8_within a1 0 3 S1) fun S5 v6 => (if v6 = 0 then some (S5, (-1)) else (cal (dn_J9_floorMod_7cf53 (w32 ((w32 ((S5 10 2) - 1)) - a0)) 150 S5) fun S9 v10 => (if 0 ≤ w32 ((w32 (v10 * 4)) + a1) ∧ w32 ((w32 (v10 * 4)) + a1) < 600 then some (S9, S9 11 (w32 ((w32 (v10 * 4)) + a1)).toNat) else none))))))
set_option maxRecDepth 100000 in
set_option maxHeartbeats 4000000 in
theorem c_X4_figure {l : Launch} {D : va_G} {t : T5} {ad : Nat → Nat} {S S0 : St} {r0 : Int} {a0 a1 : Int} (hS : RS S) (ha0 : r32 a0) (ha1 : r32 a1) (h : dn_X4_figure a0 a1 S = some (S0, r0)) : Mc l (sX D t ad) yX4_figure wsX4_figure rm_X4_figure [.ref (ad 10), vI a0, vI a1] acI S S0 r0 := by
  refine Mc_of (cc := cX4_figure) (nL := 3) (ret := (some .int)) (by decide +kernel) rfl (Nat.le_of_ble_eq_true rfl) (lv := [(0, .ref (ad 10)), (1, vI a0), (2, vI a1)]) rfl (fun x C _ => ?_)
  unfold dn_X4_figure at h
  show GW (sX D t ad) mi_X4_figure (acI, S0, r0) x S 0 [(0, .ref (ad 10)), (1, vI a0), (2, vI a1)] []
  refine g_iload_n (n := 1) C 1 dX4_figure_0 rfl rfl ?_
  refine g_iconst (n := 2) C dX4_figure_1 rfl ?_
  refine g_aload_n (n := 3) C 0 dX4_figure_2 rfl rfl ?_
  refine g_getI (n := 6) C 10 2 rfl (Nat.le_of_ble_eq_true rfl) rfl rfl rfl (Nat.le_of_ble_eq_true rfl) in_X4_figure_X4 (by decide +kernel) dX4_figure_3 rfl ?_
  refine g_sipush (n := 9) C dX4_figure_6 (by decide +kernel) rfl ?_
  refine g_min (n := 12) C ((hS 10 2).2 (by decide)) (by decide : r32 150) (by decide +kernel) (by decide +kernel) (by decide +kernel) (by decide +kernel) ⟨(Nat.le_of_ble_eq_true rfl), (Nat.le_of_ble_eq_true rfl)⟩ dX4_figure_9 rfl ?_
  refine g_iconst (n := 13) C dX4_figure_12 rfl ?_
  refine g_isub (n := 14) C dX4_figure_13 rfl ?_
  obtain ⟨S1, v2, hq3, h⟩ := cal_e h
  refine g_callSN (n := 17) (As := [vI a0, vI 0, vI (w32 ((mnI (S 10 2) 150) - 1))]) (rest := []) C 3 (c_X8_within hS ha0 (by decide : r32 0) (w32_r _) hq3) gX4_figure_X8_within_n31 (C.2.2.2.2.2.2.1 rfl).2.2.2.1 (by decide +kernel) (by decide +kernel) rfl ⟨rfl, rfl⟩ (by decide +kernel) ⟨Nat.le_of_ble_eq_true rfl, Nat.le_of_ble_eq_true rfl⟩ rfl rfl (Nat.le_of_ble_eq_true rfl) dX4_figure_14 rfl (fun hS1 hv2 => ?_)
  show GW (sX D t ad) mi_X4_figure (acI, S0, r0) x S1 17 _ [vI v2]
  refine g_if_eq (n := 20) C 29 (z_r32 hv2) dX4_figure_17 (by decide) rfl (fun (hc4 : v2 = 0) => ?_) (fun (hc4 : ¬ (v2 = 0)) => ?_)
  · rw [if_pos hc4] at h
    refine g_iconst (n := 30) C dX4_figure_29 rfl ?_
    exact g_iret C rfl h rfl (by decide : r32 (-1)) hS1 dX4_figure_30
  · rw [if_neg hc4] at h
    refine g_iload_n (n := 21) C 2 dX4_figure_20 rfl rfl ?_
    refine g_iconst (n := 22) C dX4_figure_21 rfl ?_
    refine g_iconst (n := 23) C dX4_figure_22 rfl ?_
    obtain ⟨S5, v6, hq7, h⟩ := cal_e h
    refine g_callSN (n := 26) (As := [vI a1, vI 0, vI 3]) (rest := []) C 3 (c_X8_within hS1 ha1 (by decide : r32 0) (by decide : r32 3) hq7) gX4_figure_X8_within_n31 (C.2.2.2.2.2.2.1 rfl).2.2.2.1 (by decide +kernel) (by decide +kernel) rfl ⟨rfl, rfl⟩ (by decide +kernel) ⟨Nat.le_of_ble_eq_true rfl, Nat.le_of_ble_eq_true rfl⟩ rfl rfl (Nat.le_of_ble_eq_true rfl) dX4_figure_23 rfl (fun hS5 hv6 => ?_)
    show GW (sX D t ad) mi_X4_figure (acI, S0, r0) x S5 26 _ [vI v6]
    refine g_if_ne (n := 29) C 31 (z_r32 hv6) dX4_figure_26 (by decide) rfl (fun (hc8 : ¬ (v6 = 0)) => ?_) (fun (hc8 : v6 = 0) => ?_)
    · rw [if_neg hc8] at h
      refine g_aload_n (n := 32) C 0 dX4_figure_31 rfl rfl ?_
      refine g_getC (n := 35) C 10 0 rfl (Nat.le_of_ble_eq_true rfl) rfl rfl rfl (Nat.le_of_ble_eq_true rfl) in_X4_figure_X4 (by decide +kernel) dX4_figure_32 rfl ?_
      refine g_aload_n (n := 36) C 0 dX4_figure_35 rfl rfl ?_
      refine g_getI (n := 39) C 10 2 rfl (Nat.le_of_ble_eq_true rfl) rfl rfl rfl (Nat.le_of_ble_eq_true rfl) in_X4_figure_X4 (by decide +kernel) dX4_figure_36 rfl ?_
      refine g_iconst (n := 40) C dX4_figure_39 rfl ?_
      refine g_isub (n := 41) C dX4_figure_40 rfl ?_
      refine g_iload_n (n := 42) C 1 dX4_figure_41 rfl rfl ?_
      refine g_isub (n := 43) C dX4_figure_42 rfl ?_
      refine g_sipush (n := 46) C dX4_figure_43 (by decide +kernel) rfl ?_
      obtain ⟨S9, v10, hq11, h⟩ := cal_e h
      refine g_callT (n := 49) (As := [vI (w32 ((w32 ((S5 10 2) - 1)) - a0)), vI 150]) (rest := [.ref (ad 11)]) C 2 (c_J9_floorMod_7cf53 hS5 (w32_r _) (by decide : r32 150) hq11) gX4_figure_J9_floorMod_7cf53 rfl ⟨rfl, rfl⟩ (by decide +kernel) ⟨Nat.le_of_ble_eq_true rfl, Nat.le_of_ble_eq_true rfl⟩ rfl rfl (Nat.le_of_ble_eq_true rfl) dX4_figure_46 rfl (fun hS9 hv10 => ?_)
      show GW (sX D t ad) mi_X4_figure (acI, S0, r0) x S9 49 _ [vI v10, .ref (ad 11)]
      refine g_iconst (n := 50) C dX4_figure_49 rfl ?_
      refine g_imul (n := 51) C dX4_figure_50 rfl ?_
      refine g_iload_n (n := 52) C 2 dX4_figure_51 rfl rfl ?_
      refine g_iadd (n := 53) C dX4_figure_52 rfl ?_
      obtain ⟨hg12, h⟩ := gd_e h
      refine g_iald (n := 54) C 11 rfl (Nat.le_of_ble_eq_true rfl) rfl rfl hg12 (w32_r _) dX4_figure_53 rfl ?_
      exact g_iret C rfl h rfl ((hS9 11 _).2 (tn_lt hg12 (by decide))) hS9 dX4_figure_54
    · rw [if_pos hc8] at h
      refine g_iconst (n := 30) C dX4_figure_29 rfl ?_
      exact g_iret C rfl h rfl (by decide : r32 (-1)) hS5 dX4_figure_30
-- RX5 commonDivisor
abbrev rm_X5_commonDivisor : Room := ({ frames := 0, cells := 0, slots := 0, locals := 0 } : Room)
abbrev mi_X5_commonDivisor : Mi := (cX5_commonDivisor, 7, RX5, wsX5_commonDivisor, rm_X5_commonDivisor, (some .long))
def dn_X5_commonDivisor_3 : Nat → Int → Int → Int → St → Option (St × Int)
  | 0, _, _, _, _ => none
  | n + 1, x0, x2, x4, S => (if 200 ≤ x4 then some (S, x0) else (if cmpJ x2 0 = 0 then some (S, x0) else (if x2 ≠ 0 then (nmV (w64 (Int.tmod x0 x2)) fun v4 => (nmV (w32 (x4 + 1)) fun v5 => dn_X5_commonDivisor_3 n x2 v4 v5 S)) else none)))
set_option maxRecDepth 100000 in
set_option maxHeartbeats 4000000 in
theorem u_X5_commonDivisor_3 {D : va_G} {t : T5} {ad : Nat → Nat} {S0 : St} {r0 : Int} {x : Mx} (C : CX (sX D t ad) mi_X5_commonDivisor x) : ∀ (n : Nat) (x0 : Int) (x2 : Int) (x4 : Int) (S : St), RS S → (r64 x0) → (r64 x2) → (r32 x4) → dn_X5_commonDivisor_3 n x0 x2 x4 S = some (S0, r0) → GW (sX D t ad) mi_X5_commonDivisor (acJ, S0, r0) x S 3 [(0, vJ x0), (2, vJ x2), (4, vI x4)] [] := by
  intro n
  induction n with
  | zero =>
    intro x0 x2 x4 S hS hx0 hx2 hx4 h
    cases h
  | succ n ih =>
    intro x0 x2 x4 S hS hx0 hx2 hx4 h
    rw [dn_X5_commonDivisor_3] at h
    refine g_iload (n := 5) C 2 dX5_commonDivisor_3 rfl rfl ?_
    refine g_sipush (n := 8) C dX5_commonDivisor_5 (by decide +kernel) rfl ?_
    refine g_icmp_ge (n := 11) C 33 hx4 (by decide : r32 200) dX5_commonDivisor_8 (by decide) rfl (fun (hc1 : 200 ≤ x4) => ?_) (fun (hc1 : ¬ (200 ≤ x4)) => ?_)
    · rw [if_pos hc1] at h
      refine g_lload_n (n := 34) C 0 dX5_commonDivisor_33 rfl rfl ?_
      exact g_lret C rfl h rfl hx0 hS dX5_commonDivisor_34
    · rw [if_neg hc1] at h
      refine g_lload_n (n := 12) C 1 dX5_commonDivisor_11 rfl rfl ?_
      refine g_lconst (n := 13) (w := 0) C dX5_commonDivisor_12 (by decide +kernel) rfl ?_
      refine g_lcmp (n := 14) C hx2 (by decide : r64 0) dX5_commonDivisor_13 rfl ?_
      refine g_if_eq (n := 17) C 33 (cmpJ_r _ _) dX5_commonDivisor_14 (by decide) rfl (fun (hc2 : cmpJ x2 0 = 0) => ?_) (fun (hc2 : ¬ (cmpJ x2 0 = 0)) => ?_)
      · rw [if_pos hc2] at h
        refine g_lload_n (n := 34) C 0 dX5_commonDivisor_33 rfl rfl ?_
        exact g_lret C rfl h rfl hx0 hS dX5_commonDivisor_34
      · rw [if_neg hc2] at h
        refine g_lload_n (n := 18) C 0 dX5_commonDivisor_17 rfl rfl ?_
        refine g_lload_n (n := 19) C 1 dX5_commonDivisor_18 rfl rfl ?_
        obtain ⟨hg3, h⟩ := gd_e h
        refine g_lrem (n := 20) C hx0 hx2 hg3 dX5_commonDivisor_19 rfl ?_
        obtain ⟨v4, ev4, h⟩ := nmV_e h
        have hv4 : r64 v4 := by rw [ev4]; exact (w64_r _)
        refine g_lstore (n := 22) (lv' := [(5, vJ v4), (0, vJ x0), (2, vJ x2), (4, vI x4)]) C dX5_commonDivisor_20 (Nat.le_of_ble_eq_true rfl) ev4 rfl rfl ?_
        refine g_lload_n (n := 23) C 2 dX5_commonDivisor_22 rfl rfl ?_
        refine g_lstore_n (n := 24) (lv' := [(0, vJ x2), (5, vJ v4), (2, vJ x2), (4, vI x4)]) C dX5_commonDivisor_23 (Nat.le_of_ble_eq_true rfl) rfl rfl rfl ?_
        refine g_lload (n := 26) C 1 dX5_commonDivisor_24 rfl rfl ?_
        refine g_lstore_n (n := 27) (lv' := [(2, vJ v4), (0, vJ x2), (5, vJ v4), (4, vI x4)]) C dX5_commonDivisor_26 (Nat.le_of_ble_eq_true rfl) rfl rfl rfl ?_
        obtain ⟨v5, ev5, h⟩ := nmV_e h
        have hv5 : r32 v5 := by rw [ev5]; exact w32_r _
        refine g_iinc (n := 30) (lv' := [(4, vI v5), (2, vJ v4), (0, vJ x2), (5, vJ v4)]) C 3 dX5_commonDivisor_27 rfl (Nat.le_of_ble_eq_true rfl) ev5 rfl rfl ?_
        refine g_goto C 3 dX5_commonDivisor_30 (by decide) ?_
        refine g_lv [2, 1, 0] rfl ?_
        exact ih x2 v4 v5 S hS hx2 hv4 hv5 h
def dn_X5_commonDivisor (a0 : Int) (a1 : Int) (S : St) : Option (St × Int) := dn_X5_commonDivisor_3 FU a0 a1 0 S
set_option maxRecDepth 100000 in
set_option maxHeartbeats 4000000 in
theorem c_X5_commonDivisor {l : Launch} {D : va_G} {t : T5} {ad : Nat → Nat} {S S0 : St} {r0 : Int} {a0 a1 : Int} (hS : RS S) (ha0 : r64 a0) (ha1 : r64 a1) (h : dn_X5_commonDivisor a0 a1 S = some (S0, r0)) : Mc l (sX D t ad) yX5_commonDivisor wsX5_commonDivisor rm_X5_commonDivisor [vJ a0, vJ a1] acJ S S0 r0 := by
  refine Mc_of (cc := cX5_commonDivisor) (nL := 7) (ret := (some .long)) (by decide +kernel) rfl (Nat.le_of_ble_eq_true rfl) (lv := [(0, vJ a0), (2, vJ a1)]) rfl (fun x C _ => ?_)
  unfold dn_X5_commonDivisor at h
  show GW (sX D t ad) mi_X5_commonDivisor (acJ, S0, r0) x S 0 [(0, vJ a0), (2, vJ a1)] []
  refine g_iconst (n := 1) C dX5_commonDivisor_0 rfl ?_
  refine g_istore (n := 3) (lv' := [(4, vI 0), (0, vJ a0), (2, vJ a1)]) C dX5_commonDivisor_1 (Nat.le_of_ble_eq_true rfl) rfl rfl rfl ?_
  refine g_lv [1, 2, 0] rfl ?_
  exact u_X5_commonDivisor_3 C FU a0 a1 0 S hS ha0 ha1 (by decide : r32 0) h
-- RX7 speedOf
abbrev rm_X7_speedOf : Room := ({ frames := 1, cells := 0, slots := 0, locals := 21 } : Room)
abbrev mi_X7_speedOf : Mi := (cX7_speedOf, 2, RX7, wsX7_speedOf, rm_X7_speedOf, (some .int))
set_option maxRecDepth 20000 in
theorem in_X7_speedOf_X7 : ∀ w ∈ u_ws RX7 TX7 2, w ∈ wsX7_speedOf := by decide +kernel
def dn_X7_speedOf (a0 : Int) (S : St) : Option (St × Int) := (if 0 ≤ w32 ((mxI 1 (mnI a0 12)) - 1) ∧ w32 ((mxI 1 (mnI a0 12)) - 1) < 12 then some (S, S 3 (w32 ((mxI 1 (mnI a0 12)) - 1)).toNat) else none)
set_option maxRecDepth 100000 in
set_option maxHeartbeats 4000000 in
theorem c_X7_speedOf {l : Launch} {D : va_G} {t : T5} {ad : Nat → Nat} {S S0 : St} {r0 : Int} {a0 : Int} (hS : RS S) (ha0 : r32 a0) (h : dn_X7_speedOf a0 S = some (S0, r0)) : Mc l (sX D t ad) yX7_speedOf wsX7_speedOf rm_X7_speedOf [.ref (ad 1), vI a0] acI S S0 r0 := by
  refine Mc_of (cc := cX7_speedOf) (nL := 2) (ret := (some .int)) (by decide +kernel) rfl (Nat.le_of_ble_eq_true rfl) (lv := [(0, .ref (ad 1)), (1, vI a0)]) rfl (fun x C _ => ?_)
  unfold dn_X7_speedOf at h
  show GW (sX D t ad) mi_X7_speedOf (acI, S0, r0) x S 0 [(0, .ref (ad 1)), (1, vI a0)] []
  refine g_aload_n (n := 1) C 0 dX7_speedOf_0 rfl rfl ?_
  refine g_getC (n := 4) C 1 1 rfl (Nat.le_of_ble_eq_true rfl) rfl rfl rfl (Nat.le_of_ble_eq_true rfl) in_X7_speedOf_X7 (by decide +kernel) dX7_speedOf_1 rfl ?_
  refine g_iconst (n := 5) C dX7_speedOf_4 rfl ?_
  refine g_iload_n (n := 6) C 1 dX7_speedOf_5 rfl rfl ?_
  refine g_bipush (n := 8) C dX7_speedOf_6 (by decide +kernel) rfl ?_
  refine g_min (n := 11) C ha0 (by decide : r32 12) (by decide +kernel) (by decide +kernel) (by decide +kernel) (by decide +kernel) ⟨(Nat.le_of_ble_eq_true rfl), (Nat.le_of_ble_eq_true rfl)⟩ dX7_speedOf_8 rfl ?_
  refine g_max (n := 14) C (by decide : r32 1) (mnI_r ha0 (by decide : r32 12)) (by decide +kernel) (by decide +kernel) (by decide +kernel) (by decide +kernel) ⟨(Nat.le_of_ble_eq_true rfl), (Nat.le_of_ble_eq_true rfl)⟩ dX7_speedOf_11 rfl ?_
  refine g_iconst (n := 15) C dX7_speedOf_14 rfl ?_
  refine g_isub (n := 16) C dX7_speedOf_15 rfl ?_
  obtain ⟨hg1, h⟩ := gd_e h
  refine g_iald (n := 17) C 3 rfl (Nat.le_of_ble_eq_true rfl) rfl rfl hg1 (w32_r _) dX7_speedOf_16 rfl ?_
  exact g_iret C rfl h rfl ((hS 3 _).2 (tn_lt hg1 (by decide))) hS dX7_speedOf_17
-- RX5 endRate
abbrev rm_X5_endRate : Room := ({ frames := 2, cells := 0, slots := 0, locals := 42 } : Room)
abbrev mi_X5_endRate : Mi := (cX5_endRate, 4, RX5, wsX5_endRate, rm_X5_endRate, (some .int))
set_option maxRecDepth 20000 in
theorem in_X5_endRate_X5 : ∀ w ∈ u_ws RX5 TX5 3, w ∈ wsX5_endRate := by decide +kernel
def dn_X5_endRate (a0 : Int) (a1 : Int) (S : St) : Option (St × Int) := (nmV (mnI a0 a1) fun v1 => (cal (dn_X7_speedOf v1 S) fun S2 v3 => some (S2, w32 (v1 * (mnI v3 9)))))
set_option maxRecDepth 100000 in
set_option maxHeartbeats 4000000 in
theorem c_X5_endRate {l : Launch} {D : va_G} {t : T5} {ad : Nat → Nat} {S S0 : St} {r0 : Int} {a0 a1 : Int} (hS : RS S) (ha0 : r32 a0) (ha1 : r32 a1) (h : dn_X5_endRate a0 a1 S = some (S0, r0)) : Mc l (sX D t ad) yX5_endRate wsX5_endRate rm_X5_endRate [.ref (ad 13), vI a0, vI a1] acI S S0 r0 := by
  refine Mc_of (cc := cX5_endRate) (nL := 4) (ret := (some .int)) (by decide +kernel) rfl (Nat.le_of_ble_eq_true rfl) (lv := [(0, .ref (ad 13)), (1, vI a0), (2, vI a1)]) rfl (fun x C _ => ?_)
  unfold dn_X5_endRate at h
  show GW (sX D t ad) mi_X5_endRate (acI, S0, r0) x S 0 [(0, .ref (ad 13)), (1, vI a0), (2, vI a1)] []
  refine g_iload_n (n := 1) C 1 dX5_endRate_0 rfl rfl ?_
  refine g_iload_n (n := 2) C 2 dX5_endRate_1 rfl rfl ?_
  refine g_min (n := 5) C ha0 ha1 (by decide +kernel) (by decide +kernel) (by decide +kernel) (by decide +kernel) ⟨(Nat.le_of_ble_eq_true rfl), (Nat.le_of_ble_eq_true rfl)⟩ dX5_endRate_2 rfl ?_
  obtain ⟨v1, ev1, h⟩ := nmV_e h
  have hv1 : r32 v1 := by rw [ev1]; exact (mnI_r ha0 ha1)
  refine g_istore_n (n := 6) (lv' := [(3, vI v1), (0, .ref (ad 13)), (1, vI a0), (2, vI a1)]) C dX5_endRate_5 (Nat.le_of_ble_eq_true rfl) ev1 rfl rfl ?_
  refine g_iload_n (n := 7) C 0 dX5_endRate_6 rfl rfl ?_
  refine g_aload_n (n := 8) C 1 dX5_endRate_7 rfl rfl ?_
  refine g_getC (n := 11) C 13 0 rfl (Nat.le_of_ble_eq_true rfl) rfl rfl rfl (Nat.le_of_ble_eq_true rfl) in_X5_endRate_X5 (by decide +kernel) dX5_endRate_8 rfl ?_
  refine g_iload_n (n := 12) C 0 dX5_endRate_11 rfl rfl ?_
  obtain ⟨S2, v3, hq4, h⟩ := cal_e h
  refine g_callV (n := 15) (As := [vI v1]) (rest := [vI v1]) C 1 1 (Nat.le_of_ble_eq_true rfl) rfl rfl (c_X7_speedOf hS hv1 hq4) gX5_endRate_X7_speedOf rfl ⟨rfl, rfl⟩ (by decide +kernel) ⟨Nat.le_of_ble_eq_true rfl, Nat.le_of_ble_eq_true rfl⟩ rfl rfl rfl (Nat.le_of_ble_eq_true rfl) dX5_endRate_12 rfl (fun hS2 hv3 => ?_)
  show GW (sX D t ad) mi_X5_endRate (acI, S0, r0) x S2 15 _ [vI v3, vI v1]
  refine g_bipush (n := 17) C dX5_endRate_15 (by decide +kernel) rfl ?_
  refine g_min (n := 20) C hv3 (by decide : r32 9) (by decide +kernel) (by decide +kernel) (by decide +kernel) (by decide +kernel) ⟨(Nat.le_of_ble_eq_true rfl), (Nat.le_of_ble_eq_true rfl)⟩ dX5_endRate_17 rfl ?_
  refine g_imul (n := 21) C dX5_endRate_20 rfl ?_
  exact g_iret C rfl h rfl (w32_r _) hS2 dX5_endRate_21
-- RX5 share
abbrev rm_X5_share : Room := ({ frames := 3, cells := 0, slots := 0, locals := 65 } : Room)
abbrev mi_X5_share : Mi := (cX5_share, 8, RX5, wsX5_share, rm_X5_share, (some .long))
def dn_X5_share_37 : Nat → Int → Int → Int → Int → Int → Int → St → Option (St × Int)
  | 0, _, _, _, _, _, _, _ => none
  | n + 1, x1, x2, x3, x4, x5, x7, S => (if x1 < x7 then some (S, x5) else (cal (dn_X5_endRate x3 x7 S) fun S4 v5 => (nmV (w64 (x5 * v5)) fun v7 => (nmV (w32 (x7 + 1)) fun v8 => dn_X5_share_37 n x1 x2 x3 x4 v7 v8 S4))))
set_option maxRecDepth 100000 in
set_option maxHeartbeats 4000000 in
theorem u_X5_share_37 {D : va_G} {t : T5} {ad : Nat → Nat} {S0 : St} {r0 : Int} {x : Mx} (C : CX (sX D t ad) mi_X5_share x) : ∀ (n : Nat) (x1 : Int) (x2 : Int) (x3 : Int) (x4 : Int) (x5 : Int) (x7 : Int) (S : St), RS S → (r32 x1) → (r32 x2) → (r32 x3) → (r32 x4) → (r64 x5) → (r32 x7) → dn_X5_share_37 n x1 x2 x3 x4 x5 x7 S = some (S0, r0) → GW (sX D t ad) mi_X5_share (acJ, S0, r0) x S 37 [(0, .ref (ad 13)), (1, vI x1), (2, vI x2), (3, vI x3), (4, vI x4), (5, vJ x5), (7, vI x7)] [] := by
  intro n
  induction n with
  | zero =>
    intro x1 x2 x3 x4 x5 x7 S hS hx1 hx2 hx3 hx4 hx5 hx7 h
    cases h
  | succ n ih =>
    intro x1 x2 x3 x4 x5 x7 S hS hx1 hx2 hx3 hx4 hx5 hx7 h
    rw [dn_X5_share_37] at h
    refine g_iload (n := 39) C 6 dX5_share_37 rfl rfl ?_
    refine g_iload_n (n := 40) C 1 dX5_share_39 rfl rfl ?_
    refine g_icmp_gt (n := 43) C 62 hx7 hx1 dX5_share_40 (by decide) rfl (fun (hc3 : x1 < x7) => ?_) (fun (hc3 : ¬ (x1 < x7)) => ?_)
    · rw [if_pos hc3] at h
      refine g_lload (n := 64) C 5 dX5_share_62 rfl rfl ?_
      exact g_lret C rfl h rfl hx5 hS dX5_share_64
    · rw [if_neg hc3] at h
      refine g_lload (n := 45) C 5 dX5_share_43 rfl rfl ?_
      refine g_aload_n (n := 46) C 0 dX5_share_45 rfl rfl ?_
      refine g_iload_n (n := 47) C 3 dX5_share_46 rfl rfl ?_
      refine g_iload (n := 49) C 6 dX5_share_47 rfl rfl ?_
      obtain ⟨S4, v5, hq6, h⟩ := cal_e h
      refine g_callV (n := 52) (As := [vI x3, vI x7]) (rest := [vJ x5]) C 13 2 (Nat.le_of_ble_eq_true rfl) rfl rfl (c_X5_endRate hS hx3 hx7 hq6) gX5_share_X5_endRate rfl ⟨rfl, rfl⟩ (by decide +kernel) ⟨Nat.le_of_ble_eq_true rfl, Nat.le_of_ble_eq_true rfl⟩ rfl rfl rfl (Nat.le_of_ble_eq_true rfl) dX5_share_49 rfl (fun hS4 hv5 => ?_)
      show GW (sX D t ad) mi_X5_share (acJ, S0, r0) x S4 52 _ [vI v5, vJ x5]
      refine g_i2l (n := 53) C hv5 dX5_share_52 rfl ?_
      refine g_lmul (n := 54) C dX5_share_53 rfl ?_
      obtain ⟨v7, ev7, h⟩ := nmV_e h
      have hv7 : r64 v7 := by rw [ev7]; exact (w64_r _)
      refine g_lstore (n := 56) (lv' := [(5, vJ v7), (0, .ref (ad 13)), (1, vI x1), (2, vI x2), (3, vI x3), (4, vI x4), (7, vI x7)]) C dX5_share_54 (Nat.le_of_ble_eq_true rfl) ev7 rfl rfl ?_
      obtain ⟨v8, ev8, h⟩ := nmV_e h
      have hv8 : r32 v8 := by rw [ev8]; exact w32_r _
      refine g_iinc (n := 59) (lv' := [(7, vI v8), (5, vJ v7), (0, .ref (ad 13)), (1, vI x1), (2, vI x2), (3, vI x3), (4, vI x4)]) C 6 dX5_share_56 rfl (Nat.le_of_ble_eq_true rfl) ev8 rfl rfl ?_
      refine g_goto C 37 dX5_share_59 (by decide) ?_
      refine g_lv [2, 3, 4, 5, 6, 1, 0] rfl ?_
      exact ih x1 x2 x3 x4 v7 v8 S4 hS4 hx1 hx2 hx3 hx4 hv7 hv8 h
def dn_X5_share_6 : Nat → Int → Int → Int → Int → Int → Int → St → Option (St × Int)
  | 0, _, _, _, _, _, _, _ => none
  | n + 1, x1, x2, x3, x4, x5, x7, S => (if x4 ≤ x7 then (nmV (w32 (x4 + 1)) fun v2 => dn_X5_share_37 FU x1 x2 x3 x4 x5 v2 S) else (nmV (w64 (x5 * (w32 ((w32 (x1 - x7)) * x2)))) fun v9 => (nmV (w32 (x7 + 1)) fun v10 => dn_X5_share_6 n x1 x2 x3 x4 v9 v10 S)))
set_option maxRecDepth 100000 in
set_option maxHeartbeats 4000000 in
theorem u_X5_share_6 {D : va_G} {t : T5} {ad : Nat → Nat} {S0 : St} {r0 : Int} {x : Mx} (C : CX (sX D t ad) mi_X5_share x) : ∀ (n : Nat) (x1 : Int) (x2 : Int) (x3 : Int) (x4 : Int) (x5 : Int) (x7 : Int) (S : St), RS S → (r32 x1) → (r32 x2) → (r32 x3) → (r32 x4) → (r64 x5) → (r32 x7) → dn_X5_share_6 n x1 x2 x3 x4 x5 x7 S = some (S0, r0) → GW (sX D t ad) mi_X5_share (acJ, S0, r0) x S 6 [(0, .ref (ad 13)), (1, vI x1), (2, vI x2), (3, vI x3), (4, vI x4), (5, vJ x5), (7, vI x7)] [] := by
  intro n
  induction n with
  | zero =>
    intro x1 x2 x3 x4 x5 x7 S hS hx1 hx2 hx3 hx4 hx5 hx7 h
    cases h
  | succ n ih =>
    intro x1 x2 x3 x4 x5 x7 S hS hx1 hx2 hx3 hx4 hx5 hx7 h
    rw [dn_X5_share_6] at h
    refine g_iload (n := 8) C 6 dX5_share_6 rfl rfl ?_
    refine g_iload (n := 10) C 4 dX5_share_8 rfl rfl ?_
    refine g_icmp_ge (n := 13) C 31 hx7 hx4 dX5_share_10 (by decide) rfl (fun (hc1 : x4 ≤ x7) => ?_) (fun (hc1 : ¬ (x4 ≤ x7)) => ?_)
    · rw [if_pos hc1] at h
      refine g_iload (n := 33) C 4 dX5_share_31 rfl rfl ?_
      refine g_iconst (n := 34) C dX5_share_33 rfl ?_
      refine g_iadd (n := 35) C dX5_share_34 rfl ?_
      obtain ⟨v2, ev2, h⟩ := nmV_e h
      have hv2 : r32 v2 := by rw [ev2]; exact (w32_r _)
      refine g_istore (n := 37) (lv' := [(7, vI v2), (0, .ref (ad 13)), (1, vI x1), (2, vI x2), (3, vI x3), (4, vI x4), (5, vJ x5)]) C dX5_share_35 (Nat.le_of_ble_eq_true rfl) ev2 rfl rfl ?_
      refine g_lv [1, 2, 3, 4, 5, 6, 0] rfl ?_
      exact u_X5_share_37 C FU x1 x2 x3 x4 x5 v2 S hS hx1 hx2 hx3 hx4 hx5 hv2 h
    · rw [if_neg hc1] at h
      refine g_lload (n := 15) C 5 dX5_share_13 rfl rfl ?_
      refine g_iload_n (n := 16) C 1 dX5_share_15 rfl rfl ?_
      refine g_iload (n := 18) C 6 dX5_share_16 rfl rfl ?_
      refine g_isub (n := 19) C dX5_share_18 rfl ?_
      refine g_iload_n (n := 20) C 2 dX5_share_19 rfl rfl ?_
      refine g_imul (n := 21) C dX5_share_20 rfl ?_
      refine g_i2l (n := 22) C (w32_r _) dX5_share_21 rfl ?_
      refine g_lmul (n := 23) C dX5_share_22 rfl ?_
      obtain ⟨v9, ev9, h⟩ := nmV_e h
      have hv9 : r64 v9 := by rw [ev9]; exact (w64_r _)
      refine g_lstore (n := 25) (lv' := [(5, vJ v9), (0, .ref (ad 13)), (1, vI x1), (2, vI x2), (3, vI x3), (4, vI x4), (7, vI x7)]) C dX5_share_23 (Nat.le_of_ble_eq_true rfl) ev9 rfl rfl ?_
      obtain ⟨v10, ev10, h⟩ := nmV_e h
      have hv10 : r32 v10 := by rw [ev10]; exact w32_r _
      refine g_iinc (n := 28) (lv' := [(7, vI v10), (5, vJ v9), (0, .ref (ad 13)), (1, vI x1), (2, vI x2), (3, vI x3), (4, vI x4)]) C 6 dX5_share_25 rfl (Nat.le_of_ble_eq_true rfl) ev10 rfl rfl ?_
      refine g_goto C 6 dX5_share_28 (by decide) ?_
      refine g_lv [2, 3, 4, 5, 6, 1, 0] rfl ?_
      exact ih x1 x2 x3 x4 v9 v10 S hS hx1 hx2 hx3 hx4 hv9 hv10 h
def dn_X5_share (a0 : Int) (a1 : Int) (a2 : Int) (a3 : Int) (S : St) : Option (St × Int) := dn_X5_share_6 FU a0 a1 a2 a3 1 0 S
set_option maxRecDepth 100000 in
set_option maxHeartbeats 4000000 in
theorem c_X5_share {l : Launch} {D : va_G} {t : T5} {ad : Nat → Nat} {S S0 : St} {r0 : Int} {a0 a1 a2 a3 : Int} (hS : RS S) (ha0 : r32 a0) (ha1 : r32 a1) (ha2 : r32 a2) (ha3 : r32 a3) (h : dn_X5_share a0 a1 a2 a3 S = some (S0, r0)) : Mc l (sX D t ad) yX5_share wsX5_share rm_X5_share [.ref (ad 13), vI a0, vI a1, vI a2, vI a3] acJ S S0 r0 := by
  refine Mc_of (cc := cX5_share) (nL := 8) (ret := (some .long)) (by decide +kernel) rfl (Nat.le_of_ble_eq_true rfl) (lv := [(0, .ref (ad 13)), (1, vI a0), (2, vI a1), (3, vI a2), (4, vI a3)]) rfl (fun x C _ => ?_)
  unfold dn_X5_share at h
  show GW (sX D t ad) mi_X5_share (acJ, S0, r0) x S 0 [(0, .ref (ad 13)), (1, vI a0), (2, vI a1), (3, vI a2), (4, vI a3)] []
  refine g_lconst (n := 1) (w := 1) C dX5_share_0 (by decide +kernel) rfl ?_
  refine g_lstore (n := 3) (lv' := [(5, vJ 1), (0, .ref (ad 13)), (1, vI a0), (2, vI a1), (3, vI a2), (4, vI a3)]) C dX5_share_1 (Nat.le_of_ble_eq_true rfl) rfl rfl rfl ?_
  refine g_iconst (n := 4) C dX5_share_3 rfl ?_
  refine g_istore (n := 6) (lv' := [(7, vI 0), (5, vJ 1), (0, .ref (ad 13)), (1, vI a0), (2, vI a1), (3, vI a2), (4, vI a3)]) C dX5_share_4 (Nat.le_of_ble_eq_true rfl) rfl rfl rfl ?_
  refine g_lv [2, 3, 4, 5, 6, 1, 0] rfl ?_
  exact u_X5_share_6 C FU a0 a1 a2 a3 1 0 S hS ha0 ha1 ha2 ha3 (by decide : r64 1) (by decide : r32 0) h
-- RX5 find
abbrev rm_X5_find : Room := ({ frames := 4, cells := 0, slots := 0, locals := 92 } : Room)
abbrev mi_X5_find : Mi := (cX5_find, 7, RX5, wsX5_find, rm_X5_find, none)
set_option maxRecDepth 20000 in
theorem in_X5_find_X5 : ∀ w ∈ u_ws RX5 TX5 3, w ∈ wsX5_find := by decide +kernel
def dn_X5_find_13 : Nat → Int → Int → Int → Int → St → Option (St × Int)
  | 0, _, _, _, _, _ => none
  | n + 1, x1, x2, x3, x4, S => (if x1 < x4 then (cal (dn_X5_commonDivisor (S 13 100001) (S 13 100002) S) fun S4 v5 => (if cmpJ v5 1 ≤ 0 then some (S4, 0) else (if v5 ≠ 0 then (nmS (stU S4 13 100001 (w64 (Int.tdiv (S4 13 100001) v5))) fun S9 => (nmS (stU S9 13 100002 (w64 (Int.tdiv (S9 13 100002) v5))) fun S10 => some (S10, 0))) else none))) else (cal (dn_X5_share x1 x2 x3 x4 S) fun S11 v12 => (nmS (stU S11 13 100001 (w64 ((S11 13 100001) + (w64 (v12 * (mxI 0 (w32 (x4 - x3)))))))) fun S14 => (cal (dn_X5_endRate x3 x4 S14) fun S15 v16 => (nmS (stU S15 13 100002 (w64 ((S14 13 100002) + (w64 (v12 * v16))))) fun S18 => (nmV (w32 (x4 + 1)) fun v19 => dn_X5_find_13 n x1 x2 x3 v19 S18))))))
set_option maxRecDepth 100000 in
set_option maxHeartbeats 4000000 in
theorem u_X5_find_13 {D : va_G} {t : T5} {ad : Nat → Nat} {S0 : St} {r0 : Int} {x : Mx} (C : CX (sX D t ad) mi_X5_find x) : ∀ (n : Nat) (x1 : Int) (x2 : Int) (x3 : Int) (x4 : Int) (S : St), RS S → (r32 x1) → (r32 x2) → (r32 x3) → (r32 x4) → dn_X5_find_13 n x1 x2 x3 x4 S = some (S0, r0) → GW (sX D t ad) mi_X5_find (acV, S0, r0) x S 13 [(0, .ref (ad 13)), (1, vI x1), (2, vI x2), (3, vI x3), (4, vI x4)] [] := by
  intro n
  induction n with
  | zero =>
    intro x1 x2 x3 x4 S hS hx1 hx2 hx3 hx4 h
    cases h
  | succ n ih =>
    intro x1 x2 x3 x4 S hS hx1 hx2 hx3 hx4 h
    rw [dn_X5_find_13] at h
    refine g_iload (n := 15) C 4 dX5_find_13 rfl rfl ?_
    refine g_iload_n (n := 16) C 1 dX5_find_15 rfl rfl ?_
    refine g_icmp_gt (n := 19) C 77 hx4 hx1 dX5_find_16 (by decide) rfl (fun (hc3 : x1 < x4) => ?_) (fun (hc3 : ¬ (x1 < x4)) => ?_)
    · rw [if_pos hc3] at h
      refine g_aload_n (n := 78) C 0 dX5_find_77 rfl rfl ?_
      refine g_getJ (n := 81) C 13 1 rfl (Nat.le_of_ble_eq_true rfl) rfl rfl rfl (Nat.le_of_ble_eq_true rfl) in_X5_find_X5 (by decide +kernel) dX5_find_78 rfl ?_
      refine g_aload_n (n := 82) C 0 dX5_find_81 rfl rfl ?_
      refine g_getJ (n := 85) C 13 2 rfl (Nat.le_of_ble_eq_true rfl) rfl rfl rfl (Nat.le_of_ble_eq_true rfl) in_X5_find_X5 (by decide +kernel) dX5_find_82 rfl ?_
      obtain ⟨S4, v5, hq6, h⟩ := cal_e h
      refine g_callT (n := 88) (As := [vJ (S 13 100001), vJ (S 13 100002)]) (rest := []) C 2 (c_X5_commonDivisor hS ((hS 13 100001).1) ((hS 13 100002).1) hq6) gX5_find_X5_commonDivisor rfl ⟨rfl, rfl⟩ (by decide +kernel) ⟨Nat.le_of_ble_eq_true rfl, Nat.le_of_ble_eq_true rfl⟩ rfl rfl (Nat.le_of_ble_eq_true rfl) dX5_find_85 rfl (fun hS4 hv5 => ?_)
      show GW (sX D t ad) mi_X5_find (acV, S0, r0) x S4 88 _ [vJ v5]
      refine g_lstore (n := 90) (lv' := [(4, vJ v5), (0, .ref (ad 13)), (1, vI x1), (2, vI x2), (3, vI x3)]) C dX5_find_88 (Nat.le_of_ble_eq_true rfl) rfl rfl rfl ?_
      refine g_lload (n := 92) C 0 dX5_find_90 rfl rfl ?_
      refine g_lconst (n := 93) (w := 1) C dX5_find_92 (by decide +kernel) rfl ?_
      refine g_lcmp (n := 94) C hv5 (by decide : r64 1) dX5_find_93 rfl ?_
      refine g_if_le (n := 97) C 119 (cmpJ_r _ _) dX5_find_94 (by decide) rfl (fun (hc7 : cmpJ v5 1 ≤ 0) => ?_) (fun (hc7 : ¬ (cmpJ v5 1 ≤ 0)) => ?_)
      · rw [if_pos hc7] at h
        exact g_vret C rfl h rfl trivial hS4 dX5_find_119
      · rw [if_neg hc7] at h
        refine g_aload_n (n := 98) C 1 dX5_find_97 rfl rfl ?_
        refine g_dup (n := 99) C rfl dX5_find_98 rfl ?_
        refine g_getJ (n := 102) C 13 1 rfl (Nat.le_of_ble_eq_true rfl) rfl rfl rfl (Nat.le_of_ble_eq_true rfl) in_X5_find_X5 (by decide +kernel) dX5_find_99 rfl ?_
        refine g_lload (n := 104) C 0 dX5_find_102 rfl rfl ?_
        obtain ⟨hg8, h⟩ := gd_e h
        refine g_ldiv (n := 105) C ((hS4 13 100001).1) hv5 hg8 dX5_find_104 rfl ?_
        obtain ⟨S9, eS9, h⟩ := nmS_e h
        have hS9 : RS S9 := by rw [eS9]; exact RS_l hS4 (w64_r _) (by decide)
        refine g_putJ (n := 108) C 13 1 rfl (Nat.le_of_ble_eq_true rfl) rfl rfl rfl (Nat.le_of_ble_eq_true rfl) in_X5_find_X5 tyX5_ok nmX5 (by decide +kernel) rfl (by decide +kernel) (Nat.le_of_ble_eq_true rfl) eS9 dX5_find_105 rfl ?_
        refine g_aload_n (n := 109) C 1 dX5_find_108 rfl rfl ?_
        refine g_dup (n := 110) C rfl dX5_find_109 rfl ?_
        refine g_getJ (n := 113) C 13 2 rfl (Nat.le_of_ble_eq_true rfl) rfl rfl rfl (Nat.le_of_ble_eq_true rfl) in_X5_find_X5 (by decide +kernel) dX5_find_110 rfl ?_
        refine g_lload (n := 115) C 0 dX5_find_113 rfl rfl ?_
        refine g_ldiv (n := 116) C ((hS9 13 100002).1) hv5 hg8 dX5_find_115 rfl ?_
        obtain ⟨S10, eS10, h⟩ := nmS_e h
        have hS10 : RS S10 := by rw [eS10]; exact RS_l hS9 (w64_r _) (by decide)
        refine g_putJ (n := 119) C 13 2 rfl (Nat.le_of_ble_eq_true rfl) rfl rfl rfl (Nat.le_of_ble_eq_true rfl) in_X5_find_X5 tyX5_ok nmX5 (by decide +kernel) rfl (by decide +kernel) (Nat.le_of_ble_eq_true rfl) eS10 dX5_find_116 rfl ?_
        exact g_vret C rfl h rfl trivial hS10 dX5_find_119
    · rw [if_neg hc3] at h
      refine g_aload_n (n := 20) C 0 dX5_find_19 rfl rfl ?_
      refine g_iload_n (n := 21) C 1 dX5_find_20 rfl rfl ?_
      refine g_iload_n (n := 22) C 2 dX5_find_21 rfl rfl ?_
      refine g_iload_n (n := 23) C 3 dX5_find_22 rfl rfl ?_
      refine g_iload (n := 25) C 4 dX5_find_23 rfl rfl ?_
      obtain ⟨S11, v12, hq13, h⟩ := cal_e h
      refine g_callV (n := 28) (As := [vI x1, vI x2, vI x3, vI x4]) (rest := []) C 13 4 (Nat.le_of_ble_eq_true rfl) rfl rfl (c_X5_share hS hx1 hx2 hx3 hx4 hq13) gX5_find_X5_share rfl ⟨rfl, rfl⟩ (by decide +kernel) ⟨Nat.le_of_ble_eq_true rfl, Nat.le_of_ble_eq_true rfl⟩ rfl rfl rfl (Nat.le_of_ble_eq_true rfl) dX5_find_25 rfl (fun hS11 hv12 => ?_)
      show GW (sX D t ad) mi_X5_find (acV, S0, r0) x S11 28 _ [vJ v12]
      refine g_lstore (n := 30) (lv' := [(5, vJ v12), (0, .ref (ad 13)), (1, vI x1), (2, vI x2), (3, vI x3), (4, vI x4)]) C dX5_find_28 (Nat.le_of_ble_eq_true rfl) rfl rfl rfl ?_
      refine g_aload_n (n := 31) C 1 dX5_find_30 rfl rfl ?_
      refine g_dup (n := 32) C rfl dX5_find_31 rfl ?_
      refine g_getJ (n := 35) C 13 1 rfl (Nat.le_of_ble_eq_true rfl) rfl rfl rfl (Nat.le_of_ble_eq_true rfl) in_X5_find_X5 (by decide +kernel) dX5_find_32 rfl ?_
      refine g_lload (n := 37) C 0 dX5_find_35 rfl rfl ?_
      refine g_iconst (n := 38) C dX5_find_37 rfl ?_
      refine g_iload (n := 40) C 5 dX5_find_38 rfl rfl ?_
      refine g_iload_n (n := 41) C 4 dX5_find_40 rfl rfl ?_
      refine g_isub (n := 42) C dX5_find_41 rfl ?_
      refine g_max (n := 45) C (by decide : r32 0) (w32_r _) (by decide +kernel) (by decide +kernel) (by decide +kernel) (by decide +kernel) ⟨(Nat.le_of_ble_eq_true rfl), (Nat.le_of_ble_eq_true rfl)⟩ dX5_find_42 rfl ?_
      refine g_i2l (n := 46) C (mxI_r (by decide : r32 0) (w32_r _)) dX5_find_45 rfl ?_
      refine g_lmul (n := 47) C dX5_find_46 rfl ?_
      refine g_ladd (n := 48) C dX5_find_47 rfl ?_
      obtain ⟨S14, eS14, h⟩ := nmS_e h
      have hS14 : RS S14 := by rw [eS14]; exact RS_l hS11 (w64_r _) (by decide)
      refine g_putJ (n := 51) C 13 1 rfl (Nat.le_of_ble_eq_true rfl) rfl rfl rfl (Nat.le_of_ble_eq_true rfl) in_X5_find_X5 tyX5_ok nmX5 (by decide +kernel) rfl (by decide +kernel) (Nat.le_of_ble_eq_true rfl) eS14 dX5_find_48 rfl ?_
      refine g_aload_n (n := 52) C 1 dX5_find_51 rfl rfl ?_
      refine g_dup (n := 53) C rfl dX5_find_52 rfl ?_
      refine g_getJ (n := 56) C 13 2 rfl (Nat.le_of_ble_eq_true rfl) rfl rfl rfl (Nat.le_of_ble_eq_true rfl) in_X5_find_X5 (by decide +kernel) dX5_find_53 rfl ?_
      refine g_lload (n := 58) C 0 dX5_find_56 rfl rfl ?_
      refine g_aload_n (n := 59) C 1 dX5_find_58 rfl rfl ?_
      refine g_iload_n (n := 60) C 4 dX5_find_59 rfl rfl ?_
      refine g_iload (n := 62) C 5 dX5_find_60 rfl rfl ?_
      obtain ⟨S15, v16, hq17, h⟩ := cal_e h
      refine g_callV (n := 65) (As := [vI x3, vI x4]) (rest := [vJ v12, vJ (S14 13 100002), .ref (ad 13)]) C 13 2 (Nat.le_of_ble_eq_true rfl) rfl rfl (c_X5_endRate hS14 hx3 hx4 hq17) gX5_find_X5_endRate rfl ⟨rfl, rfl⟩ (by decide +kernel) ⟨Nat.le_of_ble_eq_true rfl, Nat.le_of_ble_eq_true rfl⟩ rfl rfl rfl (Nat.le_of_ble_eq_true rfl) dX5_find_62 rfl (fun hS15 hv16 => ?_)
      show GW (sX D t ad) mi_X5_find (acV, S0, r0) x S15 65 _ [vI v16, vJ v12, vJ (S14 13 100002), .ref (ad 13)]
      refine g_i2l (n := 66) C hv16 dX5_find_65 rfl ?_
      refine g_lmul (n := 67) C dX5_find_66 rfl ?_
      refine g_ladd (n := 68) C dX5_find_67 rfl ?_
      obtain ⟨S18, eS18, h⟩ := nmS_e h
      have hS18 : RS S18 := by rw [eS18]; exact RS_l hS15 (w64_r _) (by decide)
      refine g_putJ (n := 71) C 13 2 rfl (Nat.le_of_ble_eq_true rfl) rfl rfl rfl (Nat.le_of_ble_eq_true rfl) in_X5_find_X5 tyX5_ok nmX5 (by decide +kernel) rfl (by decide +kernel) (Nat.le_of_ble_eq_true rfl) eS18 dX5_find_68 rfl ?_
      obtain ⟨v19, ev19, h⟩ := nmV_e h
      have hv19 : r32 v19 := by rw [ev19]; exact w32_r _
      refine g_iinc (n := 74) (lv' := [(4, vI v19), (5, vJ v12), (0, .ref (ad 13)), (1, vI x1), (2, vI x2), (3, vI x3)]) C 5 dX5_find_71 rfl (Nat.le_of_ble_eq_true rfl) ev19 rfl rfl ?_
      refine g_goto C 13 dX5_find_74 (by decide) ?_
      refine g_lv [2, 3, 4, 5, 0] rfl ?_
      exact ih x1 x2 x3 v19 S18 hS18 hx1 hx2 hx3 hv19 h
def dn_X5_find (a0 : Int) (a1 : Int) (a2 : Int) (S : St) : Option (St × Int) := (nmS (stU S 13 100001 0) fun S1 => (nmS (stU S1 13 100002 0) fun S2 => dn_X5_find_13 FU a0 a1 a2 0 S2))
set_option maxRecDepth 100000 in
set_option maxHeartbeats 4000000 in
theorem c_X5_find {l : Launch} {D : va_G} {t : T5} {ad : Nat → Nat} {S S0 : St} {r0 : Int} {a0 a1 a2 : Int} (hS : RS S) (ha0 : r32 a0) (ha1 : r32 a1) (ha2 : r32 a2) (h : dn_X5_find a0 a1 a2 S = some (S0, r0)) : Mc l (sX D t ad) yX5_find wsX5_find rm_X5_find [.ref (ad 13), vI a0, vI a1, vI a2] acV S S0 r0 := by
  refine Mc_of (cc := cX5_find) (nL := 7) (ret := none) (by decide +kernel) rfl (Nat.le_of_ble_eq_true rfl) (lv := [(0, .ref (ad 13)), (1, vI a0), (2, vI a1), (3, vI a2)]) rfl (fun x C _ => ?_)
  unfold dn_X5_find at h
  show GW (sX D t ad) mi_X5_find (acV, S0, r0) x S 0 [(0, .ref (ad 13)), (1, vI a0), (2, vI a1), (3, vI a2)] []
  refine g_aload_n (n := 1) C 0 dX5_find_0 rfl rfl ?_
  refine g_lconst (n := 2) (w := 0) C dX5_find_1 (by decide +kernel) rfl ?_
  obtain ⟨S1, eS1, h⟩ := nmS_e h
  have hS1 : RS S1 := by rw [eS1]; exact RS_l hS (by decide : r64 0) (by decide)
  refine g_putJ (n := 5) C 13 1 rfl (Nat.le_of_ble_eq_true rfl) rfl rfl rfl (Nat.le_of_ble_eq_true rfl) in_X5_find_X5 tyX5_ok nmX5 (by decide +kernel) rfl (by decide +kernel) (Nat.le_of_ble_eq_true rfl) eS1 dX5_find_2 rfl ?_
  refine g_aload_n (n := 6) C 0 dX5_find_5 rfl rfl ?_
  refine g_lconst (n := 7) (w := 0) C dX5_find_6 (by decide +kernel) rfl ?_
  obtain ⟨S2, eS2, h⟩ := nmS_e h
  have hS2 : RS S2 := by rw [eS2]; exact RS_l hS1 (by decide : r64 0) (by decide)
  refine g_putJ (n := 10) C 13 2 rfl (Nat.le_of_ble_eq_true rfl) rfl rfl rfl (Nat.le_of_ble_eq_true rfl) in_X5_find_X5 tyX5_ok nmX5 (by decide +kernel) rfl (by decide +kernel) (Nat.le_of_ble_eq_true rfl) eS2 dX5_find_7 rfl ?_
  refine g_iconst (n := 11) C dX5_find_10 rfl ?_
  refine g_istore (n := 13) (lv' := [(4, vI 0), (0, .ref (ad 13)), (1, vI a0), (2, vI a1), (3, vI a2)]) C dX5_find_11 (Nat.le_of_ble_eq_true rfl) rfl rfl rfl ?_
  refine g_lv [1, 2, 3, 4, 0] rfl ?_
  exact u_X5_find_13 C FU a0 a1 a2 0 S2 hS2 ha0 ha1 ha2 (by decide : r32 0) h
-- RX5 isLess
abbrev rm_X5_isLess : Room := ({ frames := 0, cells := 0, slots := 0, locals := 0 } : Room)
abbrev mi_X5_isLess : Mi := (cX5_isLess, 17, RX5, wsX5_isLess, rm_X5_isLess, (some .boolean))
def dn_X5_isLess_3 : Nat → Int → Int → Int → Int → Int → St → Option (St × Int)
  | 0, _, _, _, _, _, _ => none
  | n + 1, x0, x2, x4, x6, x8, S => (if 200 ≤ x8 then some (S, 0) else (if cmpJ x2 0 = 0 then (if cmpJ x2 0 = 0 then some (S, 0) else some (S, 1)) else (if cmpJ x6 0 = 0 then (if cmpJ x2 0 = 0 then some (S, 0) else some (S, 1)) else (if x2 ≠ 0 then (nmV (w64 (Int.tdiv x0 x2)) fun v6 => (if x6 ≠ 0 then (nmV (w64 (Int.tdiv x4 x6)) fun v8 => (if cmpJ v6 v8 = 0 then (nmV (w64 (x0 - (w64 (v6 * x2)))) fun v10 => (nmV (w64 (x4 - (w64 (v8 * x6)))) fun v11 => (nmV (w32 (x8 + 1)) fun v12 => dn_X5_isLess_3 n x6 v11 x2 v10 v12 S))) else (if 0 ≤ cmpJ v6 v8 then some (S, 0) else some (S, 1)))) else none)) else none))))
set_option maxRecDepth 100000 in
set_option maxHeartbeats 4000000 in
theorem u_X5_isLess_3 {D : va_G} {t : T5} {ad : Nat → Nat} {S0 : St} {r0 : Int} {x : Mx} (C : CX (sX D t ad) mi_X5_isLess x) : ∀ (n : Nat) (x0 : Int) (x2 : Int) (x4 : Int) (x6 : Int) (x8 : Int) (S : St), RS S → (r64 x0) → (r64 x2) → (r64 x4) → (r64 x6) → (r32 x8) → dn_X5_isLess_3 n x0 x2 x4 x6 x8 S = some (S0, r0) → GW (sX D t ad) mi_X5_isLess (acZ, S0, r0) x S 3 [(0, vJ x0), (2, vJ x2), (4, vJ x4), (6, vJ x6), (8, vI x8)] [] := by
  intro n
  induction n with
  | zero =>
    intro x0 x2 x4 x6 x8 S hS hx0 hx2 hx4 hx6 hx8 h
    cases h
  | succ n ih =>
    intro x0 x2 x4 x6 x8 S hS hx0 hx2 hx4 hx6 hx8 h
    rw [dn_X5_isLess_3] at h
    refine g_iload (n := 5) C 4 dX5_isLess_3 rfl rfl ?_
    refine g_sipush (n := 8) C dX5_isLess_5 (by decide +kernel) rfl ?_
    refine g_icmp_ge (n := 11) C 107 hx8 (by decide : r32 200) dX5_isLess_8 (by decide) rfl (fun (hc1 : 200 ≤ x8) => ?_) (fun (hc1 : ¬ (200 ≤ x8)) => ?_)
    · rw [if_pos hc1] at h
      refine g_iconst (n := 108) C dX5_isLess_107 rfl ?_
      exact g_zret C rfl (Or.inl rfl) h rfl (Or.inl rfl) hS dX5_isLess_108
    · rw [if_neg hc1] at h
      refine g_lload_n (n := 12) C 1 dX5_isLess_11 rfl rfl ?_
      refine g_lconst (n := 13) (w := 0) C dX5_isLess_12 (by decide +kernel) rfl ?_
      refine g_lcmp (n := 14) C hx2 (by decide : r64 0) dX5_isLess_13 rfl ?_
      refine g_if_eq (n := 17) C 24 (cmpJ_r _ _) dX5_isLess_14 (by decide) rfl (fun (hc2 : cmpJ x2 0 = 0) => ?_) (fun (hc2 : ¬ (cmpJ x2 0 = 0)) => ?_)
      · rw [if_pos hc2] at h
        refine g_lload_n (n := 25) C 1 dX5_isLess_24 rfl rfl ?_
        refine g_lconst (n := 26) (w := 0) C dX5_isLess_25 (by decide +kernel) rfl ?_
        refine g_lcmp (n := 27) C hx2 (by decide : r64 0) dX5_isLess_26 rfl ?_
        refine g_if_eq (n := 30) C 34 (cmpJ_r _ _) dX5_isLess_27 (by decide) rfl (fun (hc3 : cmpJ x2 0 = 0) => ?_) (fun (hc3 : ¬ (cmpJ x2 0 = 0)) => ?_)
        · rw [if_pos hc3] at h
          refine g_iconst (n := 35) C dX5_isLess_34 rfl ?_
          exact g_zret C rfl (Or.inl rfl) h rfl (Or.inl rfl) hS dX5_isLess_35
        · rw [if_neg hc3] at h
          refine g_iconst (n := 31) C dX5_isLess_30 rfl ?_
          refine g_goto C 35 dX5_isLess_31 (by decide) ?_
          exact g_zret C rfl (Or.inr rfl) h rfl (Or.inr rfl) hS dX5_isLess_35
      · rw [if_neg hc2] at h
        refine g_lload (n := 19) C 3 dX5_isLess_17 rfl rfl ?_
        refine g_lconst (n := 20) (w := 0) C dX5_isLess_19 (by decide +kernel) rfl ?_
        refine g_lcmp (n := 21) C hx6 (by decide : r64 0) dX5_isLess_20 rfl ?_
        refine g_if_ne (n := 24) C 36 (cmpJ_r _ _) dX5_isLess_21 (by decide) rfl (fun (hc4 : ¬ (cmpJ x6 0 = 0)) => ?_) (fun (hc4 : cmpJ x6 0 = 0) => ?_)
        · rw [if_neg hc4] at h
          refine g_lload_n (n := 37) C 0 dX5_isLess_36 rfl rfl ?_
          refine g_lload_n (n := 38) C 1 dX5_isLess_37 rfl rfl ?_
          obtain ⟨hg5, h⟩ := gd_e h
          refine g_ldiv (n := 39) C hx0 hx2 hg5 dX5_isLess_38 rfl ?_
          obtain ⟨v6, ev6, h⟩ := nmV_e h
          have hv6 : r64 v6 := by rw [ev6]; exact (w64_r _)
          refine g_lstore (n := 41) (lv' := [(9, vJ v6), (0, vJ x0), (2, vJ x2), (4, vJ x4), (6, vJ x6), (8, vI x8)]) C dX5_isLess_39 (Nat.le_of_ble_eq_true rfl) ev6 rfl rfl ?_
          refine g_lload (n := 43) C 3 dX5_isLess_41 rfl rfl ?_
          refine g_lload (n := 45) C 4 dX5_isLess_43 rfl rfl ?_
          obtain ⟨hg7, h⟩ := gd_e h
          refine g_ldiv (n := 46) C hx4 hx6 hg7 dX5_isLess_45 rfl ?_
          obtain ⟨v8, ev8, h⟩ := nmV_e h
          have hv8 : r64 v8 := by rw [ev8]; exact (w64_r _)
          refine g_lstore (n := 48) (lv' := [(11, vJ v8), (9, vJ v6), (0, vJ x0), (2, vJ x2), (4, vJ x4), (6, vJ x6), (8, vI x8)]) C dX5_isLess_46 (Nat.le_of_ble_eq_true rfl) ev8 rfl rfl ?_
          refine g_lload (n := 50) C 1 dX5_isLess_48 rfl rfl ?_
          refine g_lload (n := 52) C 0 dX5_isLess_50 rfl rfl ?_
          refine g_lcmp (n := 53) C hv6 hv8 dX5_isLess_52 rfl ?_
          refine g_if_eq (n := 56) C 70 (cmpJ_r _ _) dX5_isLess_53 (by decide) rfl (fun (hc9 : cmpJ v6 v8 = 0) => ?_) (fun (hc9 : ¬ (cmpJ v6 v8 = 0)) => ?_)
          · rw [if_pos hc9] at h
            refine g_lload_n (n := 71) C 2 dX5_isLess_70 rfl rfl ?_
            refine g_lload (n := 73) C 1 dX5_isLess_71 rfl rfl ?_
            refine g_lload_n (n := 74) C 3 dX5_isLess_73 rfl rfl ?_
            refine g_lmul (n := 75) C dX5_isLess_74 rfl ?_
            refine g_lsub (n := 76) C dX5_isLess_75 rfl ?_
            obtain ⟨v10, ev10, h⟩ := nmV_e h
            have hv10 : r64 v10 := by rw [ev10]; exact (w64_r _)
            refine g_lstore (n := 78) (lv' := [(13, vJ v10), (11, vJ v8), (9, vJ v6), (0, vJ x0), (2, vJ x2), (4, vJ x4), (6, vJ x6), (8, vI x8)]) C dX5_isLess_76 (Nat.le_of_ble_eq_true rfl) ev10 rfl rfl ?_
            refine g_lload (n := 80) C 5 dX5_isLess_78 rfl rfl ?_
            refine g_lload (n := 82) C 1 dX5_isLess_80 rfl rfl ?_
            refine g_lload (n := 84) C 6 dX5_isLess_82 rfl rfl ?_
            refine g_lmul (n := 85) C dX5_isLess_84 rfl ?_
            refine g_lsub (n := 86) C dX5_isLess_85 rfl ?_
            obtain ⟨v11, ev11, h⟩ := nmV_e h
            have hv11 : r64 v11 := by rw [ev11]; exact (w64_r _)
            refine g_lstore (n := 88) (lv' := [(15, vJ v11), (13, vJ v10), (11, vJ v8), (9, vJ v6), (0, vJ x0), (2, vJ x2), (4, vJ x4), (6, vJ x6), (8, vI x8)]) C dX5_isLess_86 (Nat.le_of_ble_eq_true rfl) ev11 rfl rfl ?_
            refine g_lload (n := 90) C 7 dX5_isLess_88 rfl rfl ?_
            refine g_lstore_n (n := 91) (lv' := [(0, vJ x6), (15, vJ v11), (13, vJ v10), (11, vJ v8), (9, vJ v6), (2, vJ x2), (4, vJ x4), (6, vJ x6), (8, vI x8)]) C dX5_isLess_90 (Nat.le_of_ble_eq_true rfl) rfl rfl rfl ?_
            refine g_lload_n (n := 92) C 5 dX5_isLess_91 rfl rfl ?_
            refine g_lstore (n := 94) (lv' := [(4, vJ x2), (0, vJ x6), (15, vJ v11), (13, vJ v10), (11, vJ v8), (9, vJ v6), (2, vJ x2), (6, vJ x6), (8, vI x8)]) C dX5_isLess_92 (Nat.le_of_ble_eq_true rfl) rfl rfl rfl ?_
            refine g_lload (n := 96) C 2 dX5_isLess_94 rfl rfl ?_
            refine g_lstore_n (n := 97) (lv' := [(2, vJ v11), (4, vJ x2), (0, vJ x6), (15, vJ v11), (13, vJ v10), (11, vJ v8), (9, vJ v6), (6, vJ x6), (8, vI x8)]) C dX5_isLess_96 (Nat.le_of_ble_eq_true rfl) rfl rfl rfl ?_
            refine g_lload (n := 99) C 4 dX5_isLess_97 rfl rfl ?_
            refine g_lstore (n := 101) (lv' := [(6, vJ v10), (2, vJ v11), (4, vJ x2), (0, vJ x6), (15, vJ v11), (13, vJ v10), (11, vJ v8), (9, vJ v6), (8, vI x8)]) C dX5_isLess_99 (Nat.le_of_ble_eq_true rfl) rfl rfl rfl ?_
            obtain ⟨v12, ev12, h⟩ := nmV_e h
            have hv12 : r32 v12 := by rw [ev12]; exact w32_r _
            refine g_iinc (n := 104) (lv' := [(8, vI v12), (6, vJ v10), (2, vJ v11), (4, vJ x2), (0, vJ x6), (15, vJ v11), (13, vJ v10), (11, vJ v8), (9, vJ v6)]) C 8 dX5_isLess_101 rfl (Nat.le_of_ble_eq_true rfl) ev12 rfl rfl ?_
            refine g_goto C 3 dX5_isLess_104 (by decide) ?_
            refine g_lv [4, 2, 3, 1, 0] rfl ?_
            exact ih x6 v11 x2 v10 v12 S hS hx6 hv11 hx2 hv10 hv12 h
          · rw [if_neg hc9] at h
            refine g_lload (n := 58) C 1 dX5_isLess_56 rfl rfl ?_
            refine g_lload (n := 60) C 0 dX5_isLess_58 rfl rfl ?_
            refine g_lcmp (n := 61) C hv6 hv8 dX5_isLess_60 rfl ?_
            refine g_if_ge (n := 64) C 68 (cmpJ_r _ _) dX5_isLess_61 (by decide) rfl (fun (hc13 : 0 ≤ cmpJ v6 v8) => ?_) (fun (hc13 : ¬ (0 ≤ cmpJ v6 v8)) => ?_)
            · rw [if_pos hc13] at h
              refine g_iconst (n := 69) C dX5_isLess_68 rfl ?_
              exact g_zret C rfl (Or.inl rfl) h rfl (Or.inl rfl) hS dX5_isLess_69
            · rw [if_neg hc13] at h
              refine g_iconst (n := 65) C dX5_isLess_64 rfl ?_
              refine g_goto C 69 dX5_isLess_65 (by decide) ?_
              exact g_zret C rfl (Or.inr rfl) h rfl (Or.inr rfl) hS dX5_isLess_69
        · rw [if_pos hc4] at h
          refine g_lload_n (n := 25) C 1 dX5_isLess_24 rfl rfl ?_
          refine g_lconst (n := 26) (w := 0) C dX5_isLess_25 (by decide +kernel) rfl ?_
          refine g_lcmp (n := 27) C hx2 (by decide : r64 0) dX5_isLess_26 rfl ?_
          refine g_if_eq (n := 30) C 34 (cmpJ_r _ _) dX5_isLess_27 (by decide) rfl (fun (hc14 : cmpJ x2 0 = 0) => ?_) (fun (hc14 : ¬ (cmpJ x2 0 = 0)) => ?_)
          · rw [if_pos hc14] at h
            refine g_iconst (n := 35) C dX5_isLess_34 rfl ?_
            exact g_zret C rfl (Or.inl rfl) h rfl (Or.inl rfl) hS dX5_isLess_35
          · rw [if_neg hc14] at h
            refine g_iconst (n := 31) C dX5_isLess_30 rfl ?_
            refine g_goto C 35 dX5_isLess_31 (by decide) ?_
            exact g_zret C rfl (Or.inr rfl) h rfl (Or.inr rfl) hS dX5_isLess_35
def dn_X5_isLess (a0 : Int) (a1 : Int) (a2 : Int) (a3 : Int) (S : St) : Option (St × Int) := dn_X5_isLess_3 FU a0 a1 a2 a3 0 S
set_option maxRecDepth 100000 in
set_option maxHeartbeats 4000000 in
theorem c_X5_isLess {l : Launch} {D : va_G} {t : T5} {ad : Nat → Nat} {S S0 : St} {r0 : Int} {a0 a1 a2 a3 : Int} (hS : RS S) (ha0 : r64 a0) (ha1 : r64 a1) (ha2 : r64 a2) (ha3 : r64 a3) (h : dn_X5_isLess a0 a1 a2 a3 S = some (S0, r0)) : Mc l (sX D t ad) yX5_isLess wsX5_isLess rm_X5_isLess [vJ a0, vJ a1, vJ a2, vJ a3] acZ S S0 r0 := by
  refine Mc_of (cc := cX5_isLess) (nL := 17) (ret := (some .boolean)) (by decide +kernel) rfl (Nat.le_of_ble_eq_true rfl) (lv := [(0, vJ a0), (2, vJ a1), (4, vJ a2), (6, vJ a3)]) rfl (fun x C _ => ?_)
  unfold dn_X5_isLess at h
  show GW (sX D t ad) mi_X5_isLess (acZ, S0, r0) x S 0 [(0, vJ a0), (2, vJ a1), (4, vJ a2), (6, vJ a3)] []
  refine g_iconst (n := 1) C dX5_isLess_0 rfl ?_
  refine g_istore (n := 3) (lv' := [(8, vI 0), (0, vJ a0), (2, vJ a1), (4, vJ a2), (6, vJ a3)]) C dX5_isLess_1 (Nat.le_of_ble_eq_true rfl) rfl rfl rfl ?_
  refine g_lv [1, 2, 3, 4, 0] rfl ?_
  exact u_X5_isLess_3 C FU a0 a1 a2 a3 0 S hS ha0 ha1 ha2 ha3 (by decide : r32 0) h
-- RX5 bestSize
abbrev rm_X5_bestSize : Room := ({ frames := 5, cells := 0, slots := 0, locals := 118 } : Room)
abbrev mi_X5_bestSize : Mi := (cX5_bestSize, 10, RX5, wsX5_bestSize, rm_X5_bestSize, (some .int))
set_option maxRecDepth 20000 in
theorem in_X5_bestSize_X5 : ∀ w ∈ u_ws RX5 TX5 3, w ∈ wsX5_bestSize := by decide +kernel
def dn_X5_bestSize_25 : Nat → Int → Int → Int → Int → Int → Int → Int → St → Option (St × Int)
  | 0, _, _, _, _, _, _, _, _ => none
  | n + 1, x1, x2, x3, x4, x5, x7, x9, S => (if x3 < x9 then some (S, x4) else (cal (dn_X5_find x1 x2 x9 S) fun S7 v8 => (cal (dn_X5_isLess (S7 13 100001) (S7 13 100002) x5 x7 S7) fun S10 v11 => (if v11 = 0 then (nmV (w32 (x9 + 1)) fun v14 => dn_X5_bestSize_25 n x1 x2 x3 x4 x5 x7 v14 S10) else (nmV (S10 13 100001) fun v15 => (nmV (S10 13 100002) fun v16 => (nmV (w32 (x9 + 1)) fun v17 => dn_X5_bestSize_25 n x1 x2 x3 x9 v15 v16 v17 S10)))))))
set_option maxRecDepth 100000 in
set_option maxHeartbeats 4000000 in
theorem u_X5_bestSize_25 {D : va_G} {t : T5} {ad : Nat → Nat} {S0 : St} {r0 : Int} {x : Mx} (C : CX (sX D t ad) mi_X5_bestSize x) : ∀ (n : Nat) (x1 : Int) (x2 : Int) (x3 : Int) (x4 : Int) (x5 : Int) (x7 : Int) (x9 : Int) (S : St), RS S → (r32 x1) → (r32 x2) → (r32 x3) → (r32 x4) → (r64 x5) → (r64 x7) → (r32 x9) → dn_X5_bestSize_25 n x1 x2 x3 x4 x5 x7 x9 S = some (S0, r0) → GW (sX D t ad) mi_X5_bestSize (acI, S0, r0) x S 25 [(0, .ref (ad 13)), (1, vI x1), (2, vI x2), (3, vI x3), (4, vI x4), (5, vJ x5), (7, vJ x7), (9, vI x9)] [] := by
  intro n
  induction n with
  | zero =>
    intro x1 x2 x3 x4 x5 x7 x9 S hS hx1 hx2 hx3 hx4 hx5 hx7 hx9 h
    cases h
  | succ n ih =>
    intro x1 x2 x3 x4 x5 x7 x9 S hS hx1 hx2 hx3 hx4 hx5 hx7 hx9 h
    rw [dn_X5_bestSize_25] at h
    refine g_iload (n := 27) C 7 dX5_bestSize_25 rfl rfl ?_
    refine g_iload_n (n := 28) C 3 dX5_bestSize_27 rfl rfl ?_
    refine g_icmp_gt (n := 31) C 79 hx9 hx3 dX5_bestSize_28 (by decide) rfl (fun (hc6 : x3 < x9) => ?_) (fun (hc6 : ¬ (x3 < x9)) => ?_)
    · rw [if_pos hc6] at h
      refine g_iload (n := 81) C 4 dX5_bestSize_79 rfl rfl ?_
      exact g_iret C rfl h rfl hx4 hS dX5_bestSize_81
    · rw [if_neg hc6] at h
      refine g_aload_n (n := 32) C 0 dX5_bestSize_31 rfl rfl ?_
      refine g_iload_n (n := 33) C 1 dX5_bestSize_32 rfl rfl ?_
      refine g_iload_n (n := 34) C 2 dX5_bestSize_33 rfl rfl ?_
      refine g_iload (n := 36) C 7 dX5_bestSize_34 rfl rfl ?_
      obtain ⟨S7, v8, hq9, h⟩ := cal_e h
      refine g_callV (n := 39) (As := [vI x1, vI x2, vI x9]) (rest := []) C 13 3 (Nat.le_of_ble_eq_true rfl) rfl rfl (c_X5_find hS hx1 hx2 hx9 hq9) gX5_bestSize_X5_find rfl ⟨rfl, rfl⟩ (by decide +kernel) ⟨Nat.le_of_ble_eq_true rfl, Nat.le_of_ble_eq_true rfl⟩ rfl rfl rfl (Nat.le_of_ble_eq_true rfl) dX5_bestSize_36 rfl (fun hS7 hv8 => ?_)
      show GW (sX D t ad) mi_X5_bestSize (acI, S0, r0) x S7 39 _ []
      refine g_aload_n (n := 40) C 0 dX5_bestSize_39 rfl rfl ?_
      refine g_getJ (n := 43) C 13 1 rfl (Nat.le_of_ble_eq_true rfl) rfl rfl rfl (Nat.le_of_ble_eq_true rfl) in_X5_bestSize_X5 (by decide +kernel) dX5_bestSize_40 rfl ?_
      refine g_aload_n (n := 44) C 0 dX5_bestSize_43 rfl rfl ?_
      refine g_getJ (n := 47) C 13 2 rfl (Nat.le_of_ble_eq_true rfl) rfl rfl rfl (Nat.le_of_ble_eq_true rfl) in_X5_bestSize_X5 (by decide +kernel) dX5_bestSize_44 rfl ?_
      refine g_lload (n := 49) C 5 dX5_bestSize_47 rfl rfl ?_
      refine g_lload (n := 51) C 6 dX5_bestSize_49 rfl rfl ?_
      obtain ⟨S10, v11, hq12, h⟩ := cal_e h
      refine g_callT (n := 54) (As := [vJ (S7 13 100001), vJ (S7 13 100002), vJ x5, vJ x7]) (rest := []) C 4 (c_X5_isLess hS7 ((hS7 13 100001).1) ((hS7 13 100002).1) hx5 hx7 hq12) gX5_bestSize_X5_isLess rfl ⟨rfl, rfl⟩ (by decide +kernel) ⟨Nat.le_of_ble_eq_true rfl, Nat.le_of_ble_eq_true rfl⟩ rfl rfl (Nat.le_of_ble_eq_true rfl) dX5_bestSize_51 rfl (fun hS10 hv11 => ?_)
      show GW (sX D t ad) mi_X5_bestSize (acI, S0, r0) x S10 54 _ [vI v11]
      refine g_if_eq (n := 57) C 73 (z_r32 hv11) dX5_bestSize_54 (by decide) rfl (fun (hc13 : v11 = 0) => ?_) (fun (hc13 : ¬ (v11 = 0)) => ?_)
      · rw [if_pos hc13] at h
        obtain ⟨v14, ev14, h⟩ := nmV_e h
        have hv14 : r32 v14 := by rw [ev14]; exact w32_r _
        refine g_iinc (n := 76) (lv' := [(9, vI v14), (0, .ref (ad 13)), (1, vI x1), (2, vI x2), (3, vI x3), (4, vI x4), (5, vJ x5), (7, vJ x7)]) C 7 dX5_bestSize_73 rfl (Nat.le_of_ble_eq_true rfl) ev14 rfl rfl ?_
        refine g_goto C 25 dX5_bestSize_76 (by decide) ?_
        refine g_lv [1, 2, 3, 4, 5, 6, 7, 0] rfl ?_
        exact ih x1 x2 x3 x4 x5 x7 v14 S10 hS10 hx1 hx2 hx3 hx4 hx5 hx7 hv14 h
      · rw [if_neg hc13] at h
        refine g_iload (n := 59) C 7 dX5_bestSize_57 rfl rfl ?_
        refine g_istore (n := 61) (lv' := [(4, vI x9), (0, .ref (ad 13)), (1, vI x1), (2, vI x2), (3, vI x3), (5, vJ x5), (7, vJ x7), (9, vI x9)]) C dX5_bestSize_59 (Nat.le_of_ble_eq_true rfl) rfl rfl rfl ?_
        refine g_aload_n (n := 62) C 1 dX5_bestSize_61 rfl rfl ?_
        refine g_getJ (n := 65) C 13 1 rfl (Nat.le_of_ble_eq_true rfl) rfl rfl rfl (Nat.le_of_ble_eq_true rfl) in_X5_bestSize_X5 (by decide +kernel) dX5_bestSize_62 rfl ?_
        obtain ⟨v15, ev15, h⟩ := nmV_e h
        have hv15 : r64 v15 := by rw [ev15]; exact (hS10 13 100001).1
        refine g_lstore (n := 67) (lv' := [(5, vJ v15), (4, vI x9), (0, .ref (ad 13)), (1, vI x1), (2, vI x2), (3, vI x3), (7, vJ x7), (9, vI x9)]) C dX5_bestSize_65 (Nat.le_of_ble_eq_true rfl) ev15 rfl rfl ?_
        refine g_aload_n (n := 68) C 2 dX5_bestSize_67 rfl rfl ?_
        refine g_getJ (n := 71) C 13 2 rfl (Nat.le_of_ble_eq_true rfl) rfl rfl rfl (Nat.le_of_ble_eq_true rfl) in_X5_bestSize_X5 (by decide +kernel) dX5_bestSize_68 rfl ?_
        obtain ⟨v16, ev16, h⟩ := nmV_e h
        have hv16 : r64 v16 := by rw [ev16]; exact (hS10 13 100002).1
        refine g_lstore (n := 73) (lv' := [(7, vJ v16), (5, vJ v15), (4, vI x9), (0, .ref (ad 13)), (1, vI x1), (2, vI x2), (3, vI x3), (9, vI x9)]) C dX5_bestSize_71 (Nat.le_of_ble_eq_true rfl) ev16 rfl rfl ?_
        obtain ⟨v17, ev17, h⟩ := nmV_e h
        have hv17 : r32 v17 := by rw [ev17]; exact w32_r _
        refine g_iinc (n := 76) (lv' := [(9, vI v17), (7, vJ v16), (5, vJ v15), (4, vI x9), (0, .ref (ad 13)), (1, vI x1), (2, vI x2), (3, vI x3)]) C 7 dX5_bestSize_73 rfl (Nat.le_of_ble_eq_true rfl) ev17 rfl rfl ?_
        refine g_goto C 25 dX5_bestSize_76 (by decide) ?_
        refine g_lv [4, 5, 6, 7, 3, 2, 1, 0] rfl ?_
        exact ih x1 x2 x3 x9 v15 v16 v17 S10 hS10 hx1 hx2 hx3 hx9 hv15 hv16 hv17 h
def dn_X5_bestSize (a0 : Int) (a1 : Int) (a2 : Int) (S : St) : Option (St × Int) := (cal (dn_X5_find a0 a1 1 S) fun S1 v2 => (nmV (S1 13 100001) fun v4 => (nmV (S1 13 100002) fun v5 => dn_X5_bestSize_25 FU a0 a1 a2 1 v4 v5 2 S1)))
set_option maxRecDepth 100000 in
set_option maxHeartbeats 4000000 in
theorem c_X5_bestSize {l : Launch} {D : va_G} {t : T5} {ad : Nat → Nat} {S S0 : St} {r0 : Int} {a0 a1 a2 : Int} (hS : RS S) (ha0 : r32 a0) (ha1 : r32 a1) (ha2 : r32 a2) (h : dn_X5_bestSize a0 a1 a2 S = some (S0, r0)) : Mc l (sX D t ad) yX5_bestSize wsX5_bestSize rm_X5_bestSize [.ref (ad 13), vI a0, vI a1, vI a2] acI S S0 r0 := by
  refine Mc_of (cc := cX5_bestSize) (nL := 10) (ret := (some .int)) (by decide +kernel) rfl (Nat.le_of_ble_eq_true rfl) (lv := [(0, .ref (ad 13)), (1, vI a0), (2, vI a1), (3, vI a2)]) rfl (fun x C _ => ?_)
  unfold dn_X5_bestSize at h
  show GW (sX D t ad) mi_X5_bestSize (acI, S0, r0) x S 0 [(0, .ref (ad 13)), (1, vI a0), (2, vI a1), (3, vI a2)] []
  refine g_aload_n (n := 1) C 0 dX5_bestSize_0 rfl rfl ?_
  refine g_iload_n (n := 2) C 1 dX5_bestSize_1 rfl rfl ?_
  refine g_iload_n (n := 3) C 2 dX5_bestSize_2 rfl rfl ?_
  refine g_iconst (n := 4) C dX5_bestSize_3 rfl ?_
  obtain ⟨S1, v2, hq3, h⟩ := cal_e h
  refine g_callV (n := 7) (As := [vI a0, vI a1, vI 1]) (rest := []) C 13 3 (Nat.le_of_ble_eq_true rfl) rfl rfl (c_X5_find hS ha0 ha1 (by decide : r32 1) hq3) gX5_bestSize_X5_find rfl ⟨rfl, rfl⟩ (by decide +kernel) ⟨Nat.le_of_ble_eq_true rfl, Nat.le_of_ble_eq_true rfl⟩ rfl rfl rfl (Nat.le_of_ble_eq_true rfl) dX5_bestSize_4 rfl (fun hS1 hv2 => ?_)
  show GW (sX D t ad) mi_X5_bestSize (acI, S0, r0) x S1 7 _ []
  refine g_iconst (n := 8) C dX5_bestSize_7 rfl ?_
  refine g_istore (n := 10) (lv' := [(4, vI 1), (0, .ref (ad 13)), (1, vI a0), (2, vI a1), (3, vI a2)]) C dX5_bestSize_8 (Nat.le_of_ble_eq_true rfl) rfl rfl rfl ?_
  refine g_aload_n (n := 11) C 1 dX5_bestSize_10 rfl rfl ?_
  refine g_getJ (n := 14) C 13 1 rfl (Nat.le_of_ble_eq_true rfl) rfl rfl rfl (Nat.le_of_ble_eq_true rfl) in_X5_bestSize_X5 (by decide +kernel) dX5_bestSize_11 rfl ?_
  obtain ⟨v4, ev4, h⟩ := nmV_e h
  have hv4 : r64 v4 := by rw [ev4]; exact (hS1 13 100001).1
  refine g_lstore (n := 16) (lv' := [(5, vJ v4), (4, vI 1), (0, .ref (ad 13)), (1, vI a0), (2, vI a1), (3, vI a2)]) C dX5_bestSize_14 (Nat.le_of_ble_eq_true rfl) ev4 rfl rfl ?_
  refine g_aload_n (n := 17) C 2 dX5_bestSize_16 rfl rfl ?_
  refine g_getJ (n := 20) C 13 2 rfl (Nat.le_of_ble_eq_true rfl) rfl rfl rfl (Nat.le_of_ble_eq_true rfl) in_X5_bestSize_X5 (by decide +kernel) dX5_bestSize_17 rfl ?_
  obtain ⟨v5, ev5, h⟩ := nmV_e h
  have hv5 : r64 v5 := by rw [ev5]; exact (hS1 13 100002).1
  refine g_lstore (n := 22) (lv' := [(7, vJ v5), (5, vJ v4), (4, vI 1), (0, .ref (ad 13)), (1, vI a0), (2, vI a1), (3, vI a2)]) C dX5_bestSize_20 (Nat.le_of_ble_eq_true rfl) ev5 rfl rfl ?_
  refine g_iconst (n := 23) C dX5_bestSize_22 rfl ?_
  refine g_istore (n := 25) (lv' := [(9, vI 2), (7, vJ v5), (5, vJ v4), (4, vI 1), (0, .ref (ad 13)), (1, vI a0), (2, vI a1), (3, vI a2)]) C dX5_bestSize_23 (Nat.le_of_ble_eq_true rfl) rfl rfl rfl ?_
  refine g_lv [4, 5, 6, 7, 3, 2, 1, 0] rfl ?_
  exact u_X5_bestSize_25 C FU a0 a1 a2 1 v4 v5 2 S1 hS1 ha0 ha1 ha2 (by decide : r32 1) hv4 hv5 (by decide : r32 2) h
