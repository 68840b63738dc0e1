-- RX6 doWork
abbrev rm_X6_doWork : Room := ({ frames := 2, cells := 0, slots := 0, locals := 42 } : Room)
abbrev mi_X6_doWork : Mi := (cX6_doWork, 4, RX6, wsX6_doWork, rm_X6_doWork, none)
set_option maxRecDepth 20000 in
theorem in_X6_doWork_X1 : ∀ w ∈ u_ws RX1 TX1 10, w ∈ wsX6_doWork := by decide +kernel
set_option maxRecDepth 20000 in
theorem in_X6_doWork_X6 : ∀ w ∈ u_ws RX6 TX6 11, w ∈ wsX6_doWork := by decide +kernel
def dn_X6_doWork_15 : Nat → Int → Int → St → Option (St × Int)
  | 0, _, _, _ => none
  | n + 1, x1, x2, S => (if S 4 5 ≤ x2 then some (S, 0) else (if 0 ≤ x2 ∧ x2 < 60 then (if S (x2.toNat + 30) 6 = 3 then (nmS (stU S (x2.toNat + 30) 7 (mxI 0 (w32 ((S (x2.toNat + 30) 7) - x1)))) fun S11 => (nmV (w32 (x2 + 1)) fun v12 => dn_X6_doWork_15 n x1 v12 S11)) else (nmV (w32 (x2 + 1)) fun v10 => dn_X6_doWork_15 n x1 v10 S)) else none))
set_option maxRecDepth 100000 in
set_option maxHeartbeats 4000000 in
theorem u_X6_doWork_15 {D : va_G} {t : T5} {ad : Nat → Nat} {S0 : St} {r0 : Int} {x : Mx} (C : CX (sX D t ad) mi_X6_doWork x) : ∀ (n : Nat) (x1 : Int) (x2 : Int) (S : St), RS S → (r32 x1) → (r32 x2) → dn_X6_doWork_15 n x1 x2 S = some (S0, r0) → GW (sX D t ad) mi_X6_doWork (acV, S0, r0) x S 15 [(0, .ref (ad 4)), (1, vI x1), (2, vI x2)] [] := by
  intro n
  induction n with
  | zero =>
    intro x1 x2 S hS hx1 hx2 h
    cases h
  | succ n ih =>
    intro x1 x2 S hS hx1 hx2 h
    rw [dn_X6_doWork_15] at h
    refine g_iload_n (n := 16) C 2 dX6_doWork_15 rfl rfl ?_
    refine g_aload_n (n := 17) C 0 dX6_doWork_16 rfl rfl ?_
    refine g_getI (n := 20) C 4 5 rfl (Nat.le_of_ble_eq_true rfl) rfl rfl rfl (Nat.le_of_ble_eq_true rfl) in_X6_doWork_X6 (by decide +kernel) dX6_doWork_17 rfl ?_
    refine g_icmp_ge (n := 23) C 58 hx2 ((hS 4 5).2 (by decide)) dX6_doWork_20 (by decide) rfl (fun (hc7 : S 4 5 ≤ x2) => ?_) (fun (hc7 : ¬ (S 4 5 ≤ x2)) => ?_)
    · rw [if_pos hc7] at h
      exact g_vret C rfl h rfl trivial hS dX6_doWork_58
    · rw [if_neg hc7] at h
      refine g_aload_n (n := 24) C 0 dX6_doWork_23 rfl rfl ?_
      refine g_getC (n := 27) C 4 2 rfl (Nat.le_of_ble_eq_true rfl) rfl rfl rfl (Nat.le_of_ble_eq_true rfl) in_X6_doWork_X6 (by decide +kernel) dX6_doWork_24 rfl ?_
      refine g_iload_n (n := 28) C 2 dX6_doWork_27 rfl rfl ?_
      obtain ⟨hg8, h⟩ := gd_e h
      refine g_rald (n := 29) C 6 rfl (Nat.le_of_ble_eq_true rfl) rfl (Or.inl rfl) rfl hg8 hx2 dX6_doWork_28 rfl ?_
      refine g_rstore_n (n := 30) (lv' := [(3, vR ad 30 x2), (0, .ref (ad 4)), (1, vI x1), (2, vI x2)]) C dX6_doWork_29 (Nat.le_of_ble_eq_true rfl) rfl rfl ?_
      refine g_rload_n (n := 31) C 0 dX6_doWork_30 rfl rfl ?_
      refine g_getI (n := 34) C (x2.toNat + 30) 6 (vR_pos hg8.1) (tn_add hg8 (Nat.le_of_ble_eq_true rfl)) (dX_call (tn_lt hg8 (Nat.le_refl _))) rfl rfl (Nat.le_of_ble_eq_true rfl) in_X6_doWork_X1 (by decide +kernel) dX6_doWork_31 rfl ?_
      refine g_iconst (n := 35) C dX6_doWork_34 rfl ?_
      refine g_icmp_ne (n := 38) C 52 ((hS (x2.toNat + 30) 6).2 (by decide)) (by decide : r32 3) dX6_doWork_35 (by decide) rfl (fun (hc9 : ¬ (S (x2.toNat + 30) 6 = 3)) => ?_) (fun (hc9 : S (x2.toNat + 30) 6 = 3) => ?_)
      · rw [if_neg hc9] at h
        obtain ⟨v10, ev10, h⟩ := nmV_e h
        have hv10 : r32 v10 := by rw [ev10]; exact w32_r _
        refine g_iinc (n := 55) (lv' := [(2, vI v10), (3, vR ad 30 x2), (0, .ref (ad 4)), (1, vI x1)]) C 3 dX6_doWork_52 rfl (Nat.le_of_ble_eq_true rfl) ev10 rfl rfl ?_
        refine g_goto C 15 dX6_doWork_55 (by decide) ?_
        refine g_lv [2, 3, 0] rfl ?_
        exact ih x1 v10 S hS hx1 hv10 h
      · rw [if_pos hc9] at h
        refine g_rload_n (n := 39) C 0 dX6_doWork_38 rfl rfl ?_
        refine g_iconst (n := 40) C dX6_doWork_39 rfl ?_
        refine g_rload_n (n := 41) C 0 dX6_doWork_40 rfl rfl ?_
        refine g_getI (n := 44) C (x2.toNat + 30) 7 (vR_pos hg8.1) (tn_add hg8 (Nat.le_of_ble_eq_true rfl)) (dX_call (tn_lt hg8 (Nat.le_refl _))) rfl rfl (Nat.le_of_ble_eq_true rfl) in_X6_doWork_X1 (by decide +kernel) dX6_doWork_41 rfl ?_
        refine g_iload_n (n := 45) C 2 dX6_doWork_44 rfl rfl ?_
        refine g_isub (n := 46) C dX6_doWork_45 rfl ?_
        refine g_max (n := 49) C (by decide : r32 0) (w32_r _) (by decide +kernel) (by decide +kernel) (by decide +kernel) (by decide +kernel) ⟨(Nat.le_of_ble_eq_true rfl), (by simp [vR_cat, vI_cat, vJ_cat, rf_cat])⟩ dX6_doWork_46 rfl ?_
        obtain ⟨S11, eS11, h⟩ := nmS_e h
        have hS11 : RS S11 := by rw [eS11]; exact RS_i hS (mxI_r (by decide : r32 0) (w32_r _))
        refine g_putI (n := 52) C (x2.toNat + 30) 7 (vR_pos hg8.1) (tn_add hg8 (Nat.le_of_ble_eq_true rfl)) (dX_call (tn_lt hg8 (Nat.le_refl _))) rfl rfl (Nat.le_of_ble_eq_true rfl) in_X6_doWork_X1 tyX1_ok nmX1 (by decide +kernel) rfl (by decide +kernel) (Nat.le_of_ble_eq_true rfl) eS11 dX6_doWork_49 rfl ?_
        obtain ⟨v12, ev12, h⟩ := nmV_e h
        have hv12 : r32 v12 := by rw [ev12]; exact w32_r _
        refine g_iinc (n := 55) (lv' := [(2, vI v12), (3, vR ad 30 x2), (0, .ref (ad 4)), (1, vI x1)]) C 3 dX6_doWork_52 rfl (Nat.le_of_ble_eq_true rfl) ev12 rfl rfl ?_
        refine g_goto C 15 dX6_doWork_55 (by decide) ?_
        refine g_lv [2, 3, 0] rfl ?_
        exact ih x1 v12 S11 hS11 hx1 hv12 h
def dn_X6_doWork (S : St) : Option (St × Int) := (cal (dn_X6_callersIn 3 S) fun S1 v2 => (cal (dn_X7_speedOf v2 S1) fun S4 v5 => dn_X6_doWork_15 FU v5 0 S4))
set_option maxRecDepth 100000 in
set_option maxHeartbeats 4000000 in
theorem c_X6_doWork {l : Launch} {D : va_G} {t : T5} {ad : Nat → Nat} {S S0 : St} {r0 : Int} (hS : RS S) (h : dn_X6_doWork S = some (S0, r0)) : Mc l (sX D t ad) yX6_doWork wsX6_doWork rm_X6_doWork [.ref (ad 4)] acV S S0 r0 := by
  refine Mc_of (cc := cX6_doWork) (nL := 4) (ret := none) (by decide +kernel) rfl (Nat.le_of_ble_eq_true rfl) (lv := [(0, .ref (ad 4))]) rfl (fun x C _ => ?_)
  unfold dn_X6_doWork at h
  show GW (sX D t ad) mi_X6_doWork (acV, S0, r0) x S 0 [(0, .ref (ad 4))] []
  refine g_aload_n (n := 1) C 0 dX6_doWork_0 rfl rfl ?_
  refine g_getC (n := 4) C 4 0 rfl (Nat.le_of_ble_eq_true rfl) rfl rfl rfl (Nat.le_of_ble_eq_true rfl) in_X6_doWork_X6 (by decide +kernel) dX6_doWork_1 rfl ?_
  refine g_aload_n (n := 5) C 0 dX6_doWork_4 rfl rfl ?_
  refine g_iconst (n := 6) C dX6_doWork_5 rfl ?_
  obtain ⟨S1, v2, hq3, h⟩ := cal_e h
  refine g_callV (n := 9) (As := [vI 3]) (rest := [.ref (ad 1)]) C 4 1 (Nat.le_of_ble_eq_true rfl) rfl rfl (c_X6_callersIn hS (by decide : r32 3) hq3) gX6_doWork_X6_callersIn rfl ⟨rfl, rfl⟩ (by decide +kernel) ⟨Nat.le_of_ble_eq_true rfl, Nat.le_of_ble_eq_true rfl⟩ rfl rfl rfl (Nat.le_of_ble_eq_true rfl) dX6_doWork_6 rfl (fun hS1 hv2 => ?_)
  show GW (sX D t ad) mi_X6_doWork (acV, S0, r0) x S1 9 _ [vI v2, .ref (ad 1)]
  obtain ⟨S4, v5, hq6, h⟩ := cal_e h
  refine g_callV (n := 12) (As := [vI v2]) (rest := []) C 1 1 (Nat.le_of_ble_eq_true rfl) rfl rfl (c_X7_speedOf hS1 hv2 hq6) gX6_doWork_X7_speedOf rfl ⟨rfl, rfl⟩ (by decide +kernel) ⟨Nat.le_of_ble_eq_true rfl, Nat.le_of_ble_eq_true rfl⟩ rfl rfl rfl (Nat.le_of_ble_eq_true rfl) dX6_doWork_9 rfl (fun hS4 hv5 => ?_)
  show GW (sX D t ad) mi_X6_doWork (acV, S0, r0) x S4 12 _ [vI v5]
  refine g_istore_n (n := 13) (lv' := [(1, vI v5), (0, .ref (ad 4))]) C dX6_doWork_12 (Nat.le_of_ble_eq_true rfl) rfl rfl rfl ?_
  refine g_iconst (n := 14) C dX6_doWork_13 rfl ?_
  refine g_istore_n (n := 15) (lv' := [(2, vI 0), (1, vI v5), (0, .ref (ad 4))]) C dX6_doWork_14 (Nat.le_of_ble_eq_true rfl) rfl rfl rfl ?_
  refine g_lv [2, 1, 0] rfl ?_
  exact u_X6_doWork_15 C FU v5 0 S4 hS4 hv5 (by decide : r32 0) h
-- RX6 finish
abbrev rm_X6_finish : Room := ({ frames := 3, cells := 0, slots := 0, locals := 70 } : Room)
abbrev mi_X6_finish : Mi := (cX6_finish, 2, RX6, wsX6_finish, rm_X6_finish, none)
set_option maxRecDepth 20000 in
theorem in_X6_finish_X1 : ∀ w ∈ u_ws RX1 TX1 10, w ∈ wsX6_finish := by decide +kernel
set_option maxRecDepth 20000 in
theorem in_X6_finish_X6 : ∀ w ∈ u_ws RX6 TX6 11, w ∈ wsX6_finish := by decide +kernel
def dn_X6_finish (a0 : Int) (S : St) : Option (St × Int) := (if 0 ≤ a0 ∧ a0 < 60 then (if S (a0.toNat + 30) 1 = 1 then (nmS (stU S (a0.toNat + 30) 6 4) fun S20 => some (S20, 0)) else (if S (a0.toNat + 30) 1 = 2 then (if S (a0.toNat + 30) 9 = 0 then (cal (dn_X1_wantSecond a0 (S 4 6) S) fun S17 v18 => some (S17, 0)) else (cal (dn_X6_leave a0 5 2 S) fun S11 v12 => (cal (dn_X6_giveBack a0 S11) fun S14 v15 => some (S14, 0)))) else (cal (dn_X6_leave a0 5 2 S) fun S4 v5 => (cal (dn_X6_giveBack a0 S4) fun S7 v8 => some (S7, 0))))) else none)
set_option maxRecDepth 100000 in
set_option maxHeartbeats 4000000 in
theorem c_X6_finish {l : Launch} {D : va_G} {t : T5} {ad : Nat → Nat} {S S0 : St} {r0 : Int} {a0 : Int} (hS : RS S) (ha0 : -1 ≤ a0 ∧ a0 < (60 : Nat)) (h : dn_X6_finish a0 S = some (S0, r0)) : Mc l (sX D t ad) yX6_finish wsX6_finish rm_X6_finish [.ref (ad 4), vR ad 30 a0] acV S S0 r0 := by
  refine Mc_of (cc := cX6_finish) (nL := 2) (ret := none) (by decide +kernel) rfl (by simp [lg_sl, vR_cat, vI_cat, vJ_cat, rf_cat]) (lv := [(0, .ref (ad 4)), (1, vR ad 30 a0)]) (by simp [lv_args, vR_cat, vI_cat, vJ_cat, rf_cat]) (fun x C _ => ?_)
  unfold dn_X6_finish at h
  show GW (sX D t ad) mi_X6_finish (acV, S0, r0) x S 0 [(0, .ref (ad 4)), (1, vR ad 30 a0)] []
  refine g_rload_n (n := 1) C 1 dX6_finish_0 rfl rfl ?_
  obtain ⟨hg1, h⟩ := gd_e h
  refine g_getI (n := 4) C (a0.toNat + 30) 1 (vR_pos hg1.1) (tn_add hg1 (Nat.le_of_ble_eq_true rfl)) (dX_call (tn_lt hg1 (Nat.le_refl _))) rfl rfl (Nat.le_of_ble_eq_true rfl) in_X6_finish_X1 (by decide +kernel) dX6_finish_1 rfl ?_
  refine g_iconst (n := 5) C dX6_finish_4 rfl ?_
  refine g_icmp_ne (n := 8) C 16 ((hS (a0.toNat + 30) 1).2 (by decide)) (by decide : r32 1) dX6_finish_5 (by decide) rfl (fun (hc2 : ¬ (S (a0.toNat + 30) 1 = 1)) => ?_) (fun (hc2 : S (a0.toNat + 30) 1 = 1) => ?_)
  · rw [if_neg hc2] at h
    refine g_rload_n (n := 17) C 1 dX6_finish_16 rfl rfl ?_
    refine g_getI (n := 20) C (a0.toNat + 30) 1 (vR_pos hg1.1) (tn_add hg1 (Nat.le_of_ble_eq_true rfl)) (dX_call (tn_lt hg1 (Nat.le_refl _))) rfl rfl (Nat.le_of_ble_eq_true rfl) in_X6_finish_X1 (by decide +kernel) dX6_finish_17 rfl ?_
    refine g_iconst (n := 21) C dX6_finish_20 rfl ?_
    refine g_icmp_ne (n := 24) C 42 ((hS (a0.toNat + 30) 1).2 (by decide)) (by decide : r32 2) dX6_finish_21 (by decide) rfl (fun (hc3 : ¬ (S (a0.toNat + 30) 1 = 2)) => ?_) (fun (hc3 : S (a0.toNat + 30) 1 = 2) => ?_)
    · rw [if_neg hc3] at h
      refine g_aload_n (n := 43) C 0 dX6_finish_42 rfl rfl ?_
      refine g_rload_n (n := 44) C 1 dX6_finish_43 rfl rfl ?_
      refine g_iconst (n := 45) C dX6_finish_44 rfl ?_
      refine g_iconst (n := 46) C dX6_finish_45 rfl ?_
      obtain ⟨S4, v5, hq6, h⟩ := cal_e h
      refine g_callV (n := 49) (As := [vR ad 30 a0, vI 5, vI 2]) (rest := []) C 4 3 (Nat.le_of_ble_eq_true rfl) rfl rfl (c_X6_leave hS ha0 (by decide : r32 5) (by decide : r32 2) hq6) gX6_finish_X6_leave rfl ⟨rfl, rfl⟩ (by decide +kernel) ⟨Nat.le_of_ble_eq_true rfl, Nat.le_of_ble_eq_true rfl⟩ rfl rfl rfl (Nat.le_of_ble_eq_true rfl) dX6_finish_46 rfl (fun hS4 hv5 => ?_)
      show GW (sX D t ad) mi_X6_finish (acV, S0, r0) x S4 49 _ []
      refine g_aload_n (n := 50) C 0 dX6_finish_49 rfl rfl ?_
      refine g_rload_n (n := 51) C 1 dX6_finish_50 rfl rfl ?_
      obtain ⟨S7, v8, hq9, h⟩ := cal_e h
      refine g_callV (n := 54) (As := [vR ad 30 a0]) (rest := []) C 4 1 (Nat.le_of_ble_eq_true rfl) rfl rfl (c_X6_giveBack hS4 ha0 hq9) gX6_finish_X6_giveBack rfl ⟨rfl, rfl⟩ (by decide +kernel) ⟨Nat.le_of_ble_eq_true rfl, Nat.le_of_ble_eq_true rfl⟩ rfl rfl rfl (Nat.le_of_ble_eq_true rfl) dX6_finish_51 rfl (fun hS7 hv8 => ?_)
      show GW (sX D t ad) mi_X6_finish (acV, S0, r0) x S7 54 _ []
      exact g_vret C rfl h rfl trivial hS7 dX6_finish_54
    · rw [if_pos hc3] at h
      refine g_rload_n (n := 25) C 1 dX6_finish_24 rfl rfl ?_
      refine g_getI (n := 28) C (a0.toNat + 30) 9 (vR_pos hg1.1) (tn_add hg1 (Nat.le_of_ble_eq_true rfl)) (dX_call (tn_lt hg1 (Nat.le_refl _))) rfl rfl (Nat.le_of_ble_eq_true rfl) in_X6_finish_X1 (by decide +kernel) dX6_finish_25 rfl ?_
      refine g_if_ne (n := 31) C 42 ((hS (a0.toNat + 30) 9).2 (by decide)) dX6_finish_28 (by decide) rfl (fun (hc10 : ¬ (S (a0.toNat + 30) 9 = 0)) => ?_) (fun (hc10 : S (a0.toNat + 30) 9 = 0) => ?_)
      · rw [if_neg hc10] at h
        refine g_aload_n (n := 43) C 0 dX6_finish_42 rfl rfl ?_
        refine g_rload_n (n := 44) C 1 dX6_finish_43 rfl rfl ?_
        refine g_iconst (n := 45) C dX6_finish_44 rfl ?_
        refine g_iconst (n := 46) C dX6_finish_45 rfl ?_
        obtain ⟨S11, v12, hq13, h⟩ := cal_e h
        refine g_callV (n := 49) (As := [vR ad 30 a0, vI 5, vI 2]) (rest := []) C 4 3 (Nat.le_of_ble_eq_true rfl) rfl rfl (c_X6_leave hS ha0 (by decide : r32 5) (by decide : r32 2) hq13) gX6_finish_X6_leave rfl ⟨rfl, rfl⟩ (by decide +kernel) ⟨Nat.le_of_ble_eq_true rfl, Nat.le_of_ble_eq_true rfl⟩ rfl rfl rfl (Nat.le_of_ble_eq_true rfl) dX6_finish_46 rfl (fun hS11 hv12 => ?_)
        show GW (sX D t ad) mi_X6_finish (acV, S0, r0) x S11 49 _ []
        refine g_aload_n (n := 50) C 0 dX6_finish_49 rfl rfl ?_
        refine g_rload_n (n := 51) C 1 dX6_finish_50 rfl rfl ?_
        obtain ⟨S14, v15, hq16, h⟩ := cal_e h
        refine g_callV (n := 54) (As := [vR ad 30 a0]) (rest := []) C 4 1 (Nat.le_of_ble_eq_true rfl) rfl rfl (c_X6_giveBack hS11 ha0 hq16) gX6_finish_X6_giveBack rfl ⟨rfl, rfl⟩ (by decide +kernel) ⟨Nat.le_of_ble_eq_true rfl, Nat.le_of_ble_eq_true rfl⟩ rfl rfl rfl (Nat.le_of_ble_eq_true rfl) dX6_finish_51 rfl (fun hS14 hv15 => ?_)
        show GW (sX D t ad) mi_X6_finish (acV, S0, r0) x S14 54 _ []
        exact g_vret C rfl h rfl trivial hS14 dX6_finish_54
      · rw [if_pos hc10] at h
        refine g_rload_n (n := 32) C 1 dX6_finish_31 rfl rfl ?_
        refine g_aload_n (n := 33) C 0 dX6_finish_32 rfl rfl ?_
        refine g_getI (n := 36) C 4 6 rfl (Nat.le_of_ble_eq_true rfl) rfl rfl rfl (Nat.le_of_ble_eq_true rfl) in_X6_finish_X6 (by decide +kernel) dX6_finish_33 rfl ?_
        obtain ⟨S17, v18, hq19, h⟩ := cal_e h
        refine g_callV (n := 39) (As := [vI (S 4 6)]) (rest := []) C (a0.toNat + 30) 1 (tn_add hg1 (Nat.le_of_ble_eq_true rfl)) (dX_call (tn_lt hg1 (Nat.le_refl _))) rfl (c_X1_wantSecond hS hg1 ((hS 4 6).2 (by decide)) hq19) gX6_finish_X1_wantSecond rfl ⟨rfl, rfl⟩ (by decide +kernel) ⟨Nat.le_of_ble_eq_true rfl, Nat.le_of_ble_eq_true rfl⟩ (vR_pos hg1.1) rfl rfl (Nat.le_of_ble_eq_true rfl) dX6_finish_36 rfl (fun hS17 hv18 => ?_)
        show GW (sX D t ad) mi_X6_finish (acV, S0, r0) x S17 39 _ []
        refine g_goto C 54 dX6_finish_39 (by decide) ?_
        exact g_vret C rfl h rfl trivial hS17 dX6_finish_54
  · rw [if_pos hc2] at h
    refine g_rload_n (n := 9) C 1 dX6_finish_8 rfl rfl ?_
    refine g_iconst (n := 10) C dX6_finish_9 rfl ?_
    obtain ⟨S20, eS20, h⟩ := nmS_e h
    have hS20 : RS S20 := by rw [eS20]; exact RS_i hS (by decide : r32 4)
    refine g_putI (n := 13) C (a0.toNat + 30) 6 (vR_pos hg1.1) (tn_add hg1 (Nat.le_of_ble_eq_true rfl)) (dX_call (tn_lt hg1 (Nat.le_refl _))) rfl rfl (Nat.le_of_ble_eq_true rfl) in_X6_finish_X1 tyX1_ok nmX1 (by decide +kernel) rfl (by decide +kernel) (Nat.le_of_ble_eq_true rfl) eS20 dX6_finish_10 rfl ?_
    refine g_goto C 54 dX6_finish_13 (by decide) ?_
    exact g_vret C rfl h rfl trivial hS20 dX6_finish_54
-- RX6 finishWork
abbrev rm_X6_finishWork : Room := ({ frames := 4, cells := 0, slots := 0, locals := 91 } : Room)
abbrev mi_X6_finishWork : Mi := (cX6_finishWork, 3, RX6, wsX6_finishWork, rm_X6_finishWork, none)
set_option maxRecDepth 20000 in
theorem in_X6_finishWork_X1 : ∀ w ∈ u_ws RX1 TX1 10, w ∈ wsX6_finishWork := by decide +kernel
set_option maxRecDepth 20000 in
theorem in_X6_finishWork_X6 : ∀ w ∈ u_ws RX6 TX6 11, w ∈ wsX6_finishWork := by decide +kernel
def dn_X6_finishWork_2 : Nat → Int → St → Option (St × Int)
  | 0, _, _ => none
  | n + 1, x1, S => (if S 4 5 ≤ x1 then some (S, 0) else (if 0 ≤ x1 ∧ x1 < 60 then (if S (x1.toNat + 30) 6 = 3 then (if S (x1.toNat + 30) 7 = 0 then (cal (dn_X6_finish x1 S) fun S7 v8 => (nmV (w32 (x1 + 1)) fun v10 => dn_X6_finishWork_2 n v10 S7)) else (nmV (w32 (x1 + 1)) fun v6 => dn_X6_finishWork_2 n v6 S)) else (nmV (w32 (x1 + 1)) fun v4 => dn_X6_finishWork_2 n v4 S)) else none))
set_option maxRecDepth 100000 in
set_option maxHeartbeats 4000000 in
theorem u_X6_finishWork_2 {D : va_G} {t : T5} {ad : Nat → Nat} {S0 : St} {r0 : Int} {x : Mx} (C : CX (sX D t ad) mi_X6_finishWork x) : ∀ (n : Nat) (x1 : Int) (S : St), RS S → (r32 x1) → dn_X6_finishWork_2 n x1 S = some (S0, r0) → GW (sX D t ad) mi_X6_finishWork (acV, S0, r0) x S 2 [(0, .ref (ad 4)), (1, vI x1)] [] := by
  intro n
  induction n with
  | zero =>
    intro x1 S hS hx1 h
    cases h
  | succ n ih =>
    intro x1 S hS hx1 h
    rw [dn_X6_finishWork_2] at h
    refine g_iload_n (n := 3) C 1 dX6_finishWork_2 rfl rfl ?_
    refine g_aload_n (n := 4) C 0 dX6_finishWork_3 rfl rfl ?_
    refine g_getI (n := 7) C 4 5 rfl (Nat.le_of_ble_eq_true rfl) rfl rfl rfl (Nat.le_of_ble_eq_true rfl) in_X6_finishWork_X6 (by decide +kernel) dX6_finishWork_4 rfl ?_
    refine g_icmp_ge (n := 10) C 43 hx1 ((hS 4 5).2 (by decide)) dX6_finishWork_7 (by decide) rfl (fun (hc1 : S 4 5 ≤ x1) => ?_) (fun (hc1 : ¬ (S 4 5 ≤ x1)) => ?_)
    · rw [if_pos hc1] at h
      exact g_vret C rfl h rfl trivial hS dX6_finishWork_43
    · rw [if_neg hc1] at h
      refine g_aload_n (n := 11) C 0 dX6_finishWork_10 rfl rfl ?_
      refine g_getC (n := 14) C 4 2 rfl (Nat.le_of_ble_eq_true rfl) rfl rfl rfl (Nat.le_of_ble_eq_true rfl) in_X6_finishWork_X6 (by decide +kernel) dX6_finishWork_11 rfl ?_
      refine g_iload_n (n := 15) C 1 dX6_finishWork_14 rfl rfl ?_
      obtain ⟨hg2, h⟩ := gd_e h
      refine g_rald (n := 16) C 6 rfl (Nat.le_of_ble_eq_true rfl) rfl (Or.inl rfl) rfl hg2 hx1 dX6_finishWork_15 rfl ?_
      refine g_rstore_n (n := 17) (lv' := [(2, vR ad 30 x1), (0, .ref (ad 4)), (1, vI x1)]) C dX6_finishWork_16 (Nat.le_of_ble_eq_true rfl) rfl rfl ?_
      refine g_rload_n (n := 18) C 0 dX6_finishWork_17 rfl rfl ?_
      refine g_getI (n := 21) C (x1.toNat + 30) 6 (vR_pos hg2.1) (tn_add hg2 (Nat.le_of_ble_eq_true rfl)) (dX_call (tn_lt hg2 (Nat.le_refl _))) rfl rfl (Nat.le_of_ble_eq_true rfl) in_X6_finishWork_X1 (by decide +kernel) dX6_finishWork_18 rfl ?_
      refine g_iconst (n := 22) C dX6_finishWork_21 rfl ?_
      refine g_icmp_ne (n := 25) C 37 ((hS (x1.toNat + 30) 6).2 (by decide)) (by decide : r32 3) dX6_finishWork_22 (by decide) rfl (fun (hc3 : ¬ (S (x1.toNat + 30) 6 = 3)) => ?_) (fun (hc3 : S (x1.toNat + 30) 6 = 3) => ?_)
      · rw [if_neg hc3] at h
        obtain ⟨v4, ev4, h⟩ := nmV_e h
        have hv4 : r32 v4 := by rw [ev4]; exact w32_r _
        refine g_iinc (n := 40) (lv' := [(1, vI v4), (2, vR ad 30 x1), (0, .ref (ad 4))]) C 2 dX6_finishWork_37 rfl (Nat.le_of_ble_eq_true rfl) ev4 rfl rfl ?_
        refine g_goto C 2 dX6_finishWork_40 (by decide) ?_
        refine g_lv [2, 0] rfl ?_
        exact ih v4 S hS hv4 h
      · rw [if_pos hc3] at h
        refine g_rload_n (n := 26) C 0 dX6_finishWork_25 rfl rfl ?_
        refine g_getI (n := 29) C (x1.toNat + 30) 7 (vR_pos hg2.1) (tn_add hg2 (Nat.le_of_ble_eq_true rfl)) (dX_call (tn_lt hg2 (Nat.le_refl _))) rfl rfl (Nat.le_of_ble_eq_true rfl) in_X6_finishWork_X1 (by decide +kernel) dX6_finishWork_26 rfl ?_
        refine g_if_ne (n := 32) C 37 ((hS (x1.toNat + 30) 7).2 (by decide)) dX6_finishWork_29 (by decide) rfl (fun (hc5 : ¬ (S (x1.toNat + 30) 7 = 0)) => ?_) (fun (hc5 : S (x1.toNat + 30) 7 = 0) => ?_)
        · rw [if_neg hc5] at h
          obtain ⟨v6, ev6, h⟩ := nmV_e h
          have hv6 : r32 v6 := by rw [ev6]; exact w32_r _
          refine g_iinc (n := 40) (lv' := [(1, vI v6), (2, vR ad 30 x1), (0, .ref (ad 4))]) C 2 dX6_finishWork_37 rfl (Nat.le_of_ble_eq_true rfl) ev6 rfl rfl ?_
          refine g_goto C 2 dX6_finishWork_40 (by decide) ?_
          refine g_lv [2, 0] rfl ?_
          exact ih v6 S hS hv6 h
        · rw [if_pos hc5] at h
          refine g_aload_n (n := 33) C 1 dX6_finishWork_32 rfl rfl ?_
          refine g_rload_n (n := 34) C 0 dX6_finishWork_33 rfl rfl ?_
          obtain ⟨S7, v8, hq9, h⟩ := cal_e h
          refine g_callV (n := 37) (As := [vR ad 30 x1]) (rest := []) C 4 1 (Nat.le_of_ble_eq_true rfl) rfl rfl (c_X6_finish hS (ix_rg hg2) hq9) gX6_finishWork_X6_finish rfl ⟨rfl, rfl⟩ (by decide +kernel) ⟨Nat.le_of_ble_eq_true rfl, Nat.le_of_ble_eq_true rfl⟩ rfl rfl rfl (Nat.le_of_ble_eq_true rfl) dX6_finishWork_34 rfl (fun hS7 hv8 => ?_)
          show GW (sX D t ad) mi_X6_finishWork (acV, S0, r0) x S7 37 _ []
          obtain ⟨v10, ev10, h⟩ := nmV_e h
          have hv10 : r32 v10 := by rw [ev10]; exact w32_r _
          refine g_iinc (n := 40) (lv' := [(1, vI v10), (2, vR ad 30 x1), (0, .ref (ad 4))]) C 2 dX6_finishWork_37 rfl (Nat.le_of_ble_eq_true rfl) ev10 rfl rfl ?_
          refine g_goto C 2 dX6_finishWork_40 (by decide) ?_
          refine g_lv [2, 0] rfl ?_
          exact ih v10 S7 hS7 hv10 h
def dn_X6_finishWork (S : St) : Option (St × Int) := dn_X6_finishWork_2 FU 0 S
set_option maxRecDepth 100000 in
set_option maxHeartbeats 4000000 in
theorem c_X6_finishWork {l : Launch} {D : va_G} {t : T5} {ad : Nat → Nat} {S S0 : St} {r0 : Int} (hS : RS S) (h : dn_X6_finishWork S = some (S0, r0)) : Mc l (sX D t ad) yX6_finishWork wsX6_finishWork rm_X6_finishWork [.ref (ad 4)] acV S S0 r0 := by
  refine Mc_of (cc := cX6_finishWork) (nL := 3) (ret := none) (by decide +kernel) rfl (Nat.le_of_ble_eq_true rfl) (lv := [(0, .ref (ad 4))]) rfl (fun x C _ => ?_)
  unfold dn_X6_finishWork at h
  show GW (sX D t ad) mi_X6_finishWork (acV, S0, r0) x S 0 [(0, .ref (ad 4))] []
  refine g_iconst (n := 1) C dX6_finishWork_0 rfl ?_
  refine g_istore_n (n := 2) (lv' := [(1, vI 0), (0, .ref (ad 4))]) C dX6_finishWork_1 (Nat.le_of_ble_eq_true rfl) rfl rfl rfl ?_
  refine g_lv [1, 0] rfl ?_
  exact u_X6_finishWork_2 C FU 0 S hS (by decide : r32 0) h
-- RX7 number
abbrev rm_X7_number : Room := ({ frames := 0, cells := 0, slots := 0, locals := 0 } : Room)
abbrev mi_X7_number : Mi := (cX7_number, 2, RX7, wsX7_number, rm_X7_number, (some .int))
set_option maxRecDepth 20000 in
theorem in_X7_number_X7 : ∀ w ∈ u_ws RX7 TX7 2, w ∈ wsX7_number := by decide +kernel
def dn_X7_number (a0 : Int) (S : St) : Option (St × Int) := (if 0 ≤ a0 ∧ a0 < 6 then some (S, S 2 a0.toNat) else none)
set_option maxRecDepth 100000 in
set_option maxHeartbeats 4000000 in
theorem c_X7_number {l : Launch} {D : va_G} {t : T5} {ad : Nat → Nat} {S S0 : St} {r0 : Int} {a0 : Int} (hS : RS S) (ha0 : r32 a0) (h : dn_X7_number a0 S = some (S0, r0)) : Mc l (sX D t ad) yX7_number wsX7_number rm_X7_number [.ref (ad 1), vI a0] acI S S0 r0 := by
  refine Mc_of (cc := cX7_number) (nL := 2) (ret := (some .int)) (by decide +kernel) rfl (Nat.le_of_ble_eq_true rfl) (lv := [(0, .ref (ad 1)), (1, vI a0)]) rfl (fun x C _ => ?_)
  unfold dn_X7_number at h
  show GW (sX D t ad) mi_X7_number (acI, S0, r0) x S 0 [(0, .ref (ad 1)), (1, vI a0)] []
  refine g_aload_n (n := 1) C 0 dX7_number_0 rfl rfl ?_
  refine g_getC (n := 4) C 1 0 rfl (Nat.le_of_ble_eq_true rfl) rfl rfl rfl (Nat.le_of_ble_eq_true rfl) in_X7_number_X7 (by decide +kernel) dX7_number_1 rfl ?_
  refine g_iload_n (n := 5) C 1 dX7_number_4 rfl rfl ?_
  obtain ⟨hg1, h⟩ := gd_e h
  refine g_iald (n := 6) C 2 rfl (Nat.le_of_ble_eq_true rfl) rfl rfl hg1 ha0 dX7_number_5 rfl ?_
  exact g_iret C rfl h rfl ((hS 2 _).2 (tn_lt hg1 (by decide))) hS dX7_number_6
-- RX6 holdsTooLong
abbrev rm_X6_holdsTooLong : Room := ({ frames := 1, cells := 0, slots := 0, locals := 21 } : Room)
abbrev mi_X6_holdsTooLong : Mi := (cX6_holdsTooLong, 4, RX6, wsX6_holdsTooLong, rm_X6_holdsTooLong, (some .boolean))
set_option maxRecDepth 20000 in
theorem in_X6_holdsTooLong_X3 : ∀ w ∈ u_ws RX3 TX3 6, w ∈ wsX6_holdsTooLong := by decide +kernel
set_option maxRecDepth 20000 in
theorem in_X6_holdsTooLong_X6 : ∀ w ∈ u_ws RX6 TX6 11, w ∈ wsX6_holdsTooLong := by decide +kernel
def dn_X6_holdsTooLong_11 : Nat → Int → Int → Int → St → Option (St × Int)
  | 0, _, _, _, _ => none
  | n + 1, x1, x2, x3, S => (if 12 ≤ x3 then some (S, 0) else (if 0 ≤ x3 ∧ x3 < 12 then (cal (dn_X3_isLentTo x3 x1 S) fun S6 v7 => (if v7 = 0 then (nmV (w32 (x3 + 1)) fun v10 => dn_X6_holdsTooLong_11 n x1 x2 v10 S6) else (if w32 ((S6 4 6) - (S6 (x3.toNat + 18) 5)) < x2 then (nmV (w32 (x3 + 1)) fun v12 => dn_X6_holdsTooLong_11 n x1 x2 v12 S6) else some (S6, 1)))) else none))
set_option maxRecDepth 100000 in
set_option maxHeartbeats 4000000 in
theorem u_X6_holdsTooLong_11 {D : va_G} {t : T5} {ad : Nat → Nat} {S0 : St} {r0 : Int} {x : Mx} (C : CX (sX D t ad) mi_X6_holdsTooLong x) : ∀ (n : Nat) (x1 : Int) (x2 : Int) (x3 : Int) (S : St), RS S → (-1 ≤ x1 ∧ x1 < (60 : Nat)) → (r32 x2) → (r32 x3) → dn_X6_holdsTooLong_11 n x1 x2 x3 S = some (S0, r0) → GW (sX D t ad) mi_X6_holdsTooLong (acZ, S0, r0) x S 11 [(0, .ref (ad 4)), (1, vR ad 30 x1), (2, vI x2), (3, vI x3)] [] := by
  intro n
  induction n with
  | zero =>
    intro x1 x2 x3 S hS hx1 hx2 hx3 h
    cases h
  | succ n ih =>
    intro x1 x2 x3 S hS hx1 hx2 hx3 h
    rw [dn_X6_holdsTooLong_11] at h
    refine g_iload_n (n := 12) C 3 dX6_holdsTooLong_11 rfl rfl ?_
    refine g_bipush (n := 14) C dX6_holdsTooLong_12 (by decide +kernel) rfl ?_
    refine g_icmp_ge (n := 17) C 56 hx3 (by decide : r32 12) dX6_holdsTooLong_14 (by decide) rfl (fun (hc4 : 12 ≤ x3) => ?_) (fun (hc4 : ¬ (12 ≤ x3)) => ?_)
    · rw [if_pos hc4] at h
      refine g_iconst (n := 57) C dX6_holdsTooLong_56 rfl ?_
      exact g_zret C rfl (Or.inl rfl) h rfl (Or.inl rfl) hS dX6_holdsTooLong_57
    · rw [if_neg hc4] at h
      refine g_aload_n (n := 18) C 0 dX6_holdsTooLong_17 rfl rfl ?_
      refine g_getC (n := 21) C 4 1 rfl (Nat.le_of_ble_eq_true rfl) rfl rfl rfl (Nat.le_of_ble_eq_true rfl) in_X6_holdsTooLong_X6 (by decide +kernel) dX6_holdsTooLong_18 rfl ?_
      refine g_iload_n (n := 22) C 3 dX6_holdsTooLong_21 rfl rfl ?_
      obtain ⟨hg5, h⟩ := gd_e h
      refine g_rald (n := 23) C 5 rfl (Nat.le_of_ble_eq_true rfl) rfl (Or.inr rfl) rfl hg5 hx3 dX6_holdsTooLong_22 rfl ?_
      refine g_rload_n (n := 24) C 1 dX6_holdsTooLong_23 rfl rfl ?_
      obtain ⟨S6, v7, hq8, h⟩ := cal_e h
      refine g_callV (n := 27) (As := [vR ad 30 x1]) (rest := []) C (x3.toNat + 18) 1 (tn_add hg5 (Nat.le_of_ble_eq_true rfl)) (dX_line (tn_lt hg5 (Nat.le_refl _))) rfl (c_X3_isLentTo hS hg5 hx1 hq8) gX6_holdsTooLong_X3_isLentTo rfl ⟨rfl, rfl⟩ (by decide +kernel) ⟨Nat.le_of_ble_eq_true rfl, Nat.le_of_ble_eq_true rfl⟩ (vR_pos hg5.1) rfl rfl (Nat.le_of_ble_eq_true rfl) dX6_holdsTooLong_24 rfl (fun hS6 hv7 => ?_)
      show GW (sX D t ad) mi_X6_holdsTooLong (acZ, S0, r0) x S6 27 _ [vI v7]
      refine g_if_eq (n := 30) C 50 (z_r32 hv7) dX6_holdsTooLong_27 (by decide) rfl (fun (hc9 : v7 = 0) => ?_) (fun (hc9 : ¬ (v7 = 0)) => ?_)
      · rw [if_pos hc9] at h
        obtain ⟨v10, ev10, h⟩ := nmV_e h
        have hv10 : r32 v10 := by rw [ev10]; exact w32_r _
        refine g_iinc (n := 53) (lv' := [(3, vI v10), (0, .ref (ad 4)), (1, vR ad 30 x1), (2, vI x2)]) C 3 dX6_holdsTooLong_50 rfl (Nat.le_of_ble_eq_true rfl) ev10 rfl rfl ?_
        refine g_goto C 11 dX6_holdsTooLong_53 (by decide) ?_
        refine g_lv [1, 2, 3, 0] rfl ?_
        exact ih x1 x2 v10 S6 hS6 hx1 hx2 hv10 h
      · rw [if_neg hc9] at h
        refine g_aload_n (n := 31) C 0 dX6_holdsTooLong_30 rfl rfl ?_
        refine g_getI (n := 34) C 4 6 rfl (Nat.le_of_ble_eq_true rfl) rfl rfl rfl (Nat.le_of_ble_eq_true rfl) in_X6_holdsTooLong_X6 (by decide +kernel) dX6_holdsTooLong_31 rfl ?_
        refine g_aload_n (n := 35) C 0 dX6_holdsTooLong_34 rfl rfl ?_
        refine g_getC (n := 38) C 4 1 rfl (Nat.le_of_ble_eq_true rfl) rfl rfl rfl (Nat.le_of_ble_eq_true rfl) in_X6_holdsTooLong_X6 (by decide +kernel) dX6_holdsTooLong_35 rfl ?_
        refine g_iload_n (n := 39) C 3 dX6_holdsTooLong_38 rfl rfl ?_
        refine g_rald (n := 40) C 5 rfl (Nat.le_of_ble_eq_true rfl) rfl (Or.inr rfl) rfl hg5 hx3 dX6_holdsTooLong_39 rfl ?_
        refine g_getI (n := 43) C (x3.toNat + 18) 5 (vR_pos hg5.1) (tn_add hg5 (Nat.le_of_ble_eq_true rfl)) (dX_line (tn_lt hg5 (Nat.le_refl _))) rfl rfl (Nat.le_of_ble_eq_true rfl) in_X6_holdsTooLong_X3 (by decide +kernel) dX6_holdsTooLong_40 rfl ?_
        refine g_isub (n := 44) C dX6_holdsTooLong_43 rfl ?_
        refine g_iload_n (n := 45) C 2 dX6_holdsTooLong_44 rfl rfl ?_
        refine g_icmp_lt (n := 48) C 50 (w32_r _) hx2 dX6_holdsTooLong_45 (by decide) rfl (fun (hc11 : w32 ((S6 4 6) - (S6 (x3.toNat + 18) 5)) < x2) => ?_) (fun (hc11 : ¬ (w32 ((S6 4 6) - (S6 (x3.toNat + 18) 5)) < x2)) => ?_)
        · rw [if_pos hc11] at h
          obtain ⟨v12, ev12, h⟩ := nmV_e h
          have hv12 : r32 v12 := by rw [ev12]; exact w32_r _
          refine g_iinc (n := 53) (lv' := [(3, vI v12), (0, .ref (ad 4)), (1, vR ad 30 x1), (2, vI x2)]) C 3 dX6_holdsTooLong_50 rfl (Nat.le_of_ble_eq_true rfl) ev12 rfl rfl ?_
          refine g_goto C 11 dX6_holdsTooLong_53 (by decide) ?_
          refine g_lv [1, 2, 3, 0] rfl ?_
          exact ih x1 x2 v12 S6 hS6 hx1 hx2 hv12 h
        · rw [if_neg hc11] at h
          refine g_iconst (n := 49) C dX6_holdsTooLong_48 rfl ?_
          exact g_zret C rfl (Or.inr rfl) h rfl (Or.inr rfl) hS6 dX6_holdsTooLong_49
def dn_X6_holdsTooLong (a0 : Int) (S : St) : Option (St × Int) := (cal (dn_X7_number 3 S) fun S1 v2 => dn_X6_holdsTooLong_11 FU a0 v2 0 S1)
set_option maxRecDepth 100000 in
set_option maxHeartbeats 4000000 in
theorem c_X6_holdsTooLong {l : Launch} {D : va_G} {t : T5} {ad : Nat → Nat} {S S0 : St} {r0 : Int} {a0 : Int} (hS : RS S) (ha0 : -1 ≤ a0 ∧ a0 < (60 : Nat)) (h : dn_X6_holdsTooLong a0 S = some (S0, r0)) : Mc l (sX D t ad) yX6_holdsTooLong wsX6_holdsTooLong rm_X6_holdsTooLong [.ref (ad 4), vR ad 30 a0] acZ S S0 r0 := by
  refine Mc_of (cc := cX6_holdsTooLong) (nL := 4) (ret := (some .boolean)) (by decide +kernel) rfl (by simp [lg_sl, vR_cat, vI_cat, vJ_cat, rf_cat]) (lv := [(0, .ref (ad 4)), (1, vR ad 30 a0)]) (by simp [lv_args, vR_cat, vI_cat, vJ_cat, rf_cat]) (fun x C _ => ?_)
  unfold dn_X6_holdsTooLong at h
  show GW (sX D t ad) mi_X6_holdsTooLong (acZ, S0, r0) x S 0 [(0, .ref (ad 4)), (1, vR ad 30 a0)] []
  refine g_aload_n (n := 1) C 0 dX6_holdsTooLong_0 rfl rfl ?_
  refine g_getC (n := 4) C 4 0 rfl (Nat.le_of_ble_eq_true rfl) rfl rfl rfl (Nat.le_of_ble_eq_true rfl) in_X6_holdsTooLong_X6 (by decide +kernel) dX6_holdsTooLong_1 rfl ?_
  refine g_iconst (n := 5) C dX6_holdsTooLong_4 rfl ?_
  obtain ⟨S1, v2, hq3, h⟩ := cal_e h
  refine g_callV (n := 8) (As := [vI 3]) (rest := []) C 1 1 (Nat.le_of_ble_eq_true rfl) rfl rfl (c_X7_number hS (by decide : r32 3) hq3) gX6_holdsTooLong_X7_number rfl ⟨rfl, rfl⟩ (by decide +kernel) ⟨Nat.le_of_ble_eq_true rfl, Nat.le_of_ble_eq_true rfl⟩ rfl rfl rfl (Nat.le_of_ble_eq_true rfl) dX6_holdsTooLong_5 rfl (fun hS1 hv2 => ?_)
  show GW (sX D t ad) mi_X6_holdsTooLong (acZ, S0, r0) x S1 8 _ [vI v2]
  refine g_istore_n (n := 9) (lv' := [(2, vI v2), (0, .ref (ad 4)), (1, vR ad 30 a0)]) C dX6_holdsTooLong_8 (Nat.le_of_ble_eq_true rfl) rfl (by simp [vR_cat, vI_cat, vJ_cat, rf_cat] <;> decide) rfl ?_
  refine g_iconst (n := 10) C dX6_holdsTooLong_9 rfl ?_
  refine g_istore_n (n := 11) (lv' := [(3, vI 0), (2, vI v2), (0, .ref (ad 4)), (1, vR ad 30 a0)]) C dX6_holdsTooLong_10 (Nat.le_of_ble_eq_true rfl) rfl rfl rfl ?_
  refine g_lv [2, 3, 1, 0] rfl ?_
  exact u_X6_holdsTooLong_11 C FU a0 v2 0 S1 hS1 ha0 hv2 (by decide : r32 0) h
-- RX6 endLeaks
abbrev rm_X6_endLeaks : Room := ({ frames := 3, cells := 0, slots := 0, locals := 70 } : Room)
abbrev mi_X6_endLeaks : Mi := (cX6_endLeaks, 3, RX6, wsX6_endLeaks, rm_X6_endLeaks, none)
set_option maxRecDepth 20000 in
theorem in_X6_endLeaks_X6 : ∀ w ∈ u_ws RX6 TX6 11, w ∈ wsX6_endLeaks := by decide +kernel
def dn_X6_endLeaks_2 : Nat → Int → St → Option (St × Int)
  | 0, _, _ => none
  | n + 1, x1, S => (if S 4 5 ≤ x1 then some (S, 0) else (if 0 ≤ x1 ∧ x1 < 60 then (cal (dn_X6_holdsTooLong x1 S) fun S3 v4 => (if v4 = 0 then (nmV (w32 (x1 + 1)) fun v7 => dn_X6_endLeaks_2 n v7 S3) else (cal (dn_X6_leave x1 7 4 S3) fun S8 v9 => (cal (dn_X6_giveBack x1 S8) fun S11 v12 => (nmV (w32 (x1 + 1)) fun v14 => dn_X6_endLeaks_2 n v14 S11))))) else none))
set_option maxRecDepth 100000 in
set_option maxHeartbeats 4000000 in
theorem u_X6_endLeaks_2 {D : va_G} {t : T5} {ad : Nat → Nat} {S0 : St} {r0 : Int} {x : Mx} (C : CX (sX D t ad) mi_X6_endLeaks x) : ∀ (n : Nat) (x1 : Int) (S : St), RS S → (r32 x1) → dn_X6_endLeaks_2 n x1 S = some (S0, r0) → GW (sX D t ad) mi_X6_endLeaks (acV, S0, r0) x S 2 [(0, .ref (ad 4)), (1, vI x1)] [] := by
  intro n
  induction n with
  | zero =>
    intro x1 S hS hx1 h
    cases h
  | succ n ih =>
    intro x1 S hS hx1 h
    rw [dn_X6_endLeaks_2] at h
    refine g_iload_n (n := 3) C 1 dX6_endLeaks_2 rfl rfl ?_
    refine g_aload_n (n := 4) C 0 dX6_endLeaks_3 rfl rfl ?_
    refine g_getI (n := 7) C 4 5 rfl (Nat.le_of_ble_eq_true rfl) rfl rfl rfl (Nat.le_of_ble_eq_true rfl) in_X6_endLeaks_X6 (by decide +kernel) dX6_endLeaks_4 rfl ?_
    refine g_icmp_ge (n := 10) C 44 hx1 ((hS 4 5).2 (by decide)) dX6_endLeaks_7 (by decide) rfl (fun (hc1 : S 4 5 ≤ x1) => ?_) (fun (hc1 : ¬ (S 4 5 ≤ x1)) => ?_)
    · rw [if_pos hc1] at h
      exact g_vret C rfl h rfl trivial hS dX6_endLeaks_44
    · rw [if_neg hc1] at h
      refine g_aload_n (n := 11) C 0 dX6_endLeaks_10 rfl rfl ?_
      refine g_getC (n := 14) C 4 2 rfl (Nat.le_of_ble_eq_true rfl) rfl rfl rfl (Nat.le_of_ble_eq_true rfl) in_X6_endLeaks_X6 (by decide +kernel) dX6_endLeaks_11 rfl ?_
      refine g_iload_n (n := 15) C 1 dX6_endLeaks_14 rfl rfl ?_
      obtain ⟨hg2, h⟩ := gd_e h
      refine g_rald (n := 16) C 6 rfl (Nat.le_of_ble_eq_true rfl) rfl (Or.inl rfl) rfl hg2 hx1 dX6_endLeaks_15 rfl ?_
      refine g_rstore_n (n := 17) (lv' := [(2, vR ad 30 x1), (0, .ref (ad 4)), (1, vI x1)]) C dX6_endLeaks_16 (Nat.le_of_ble_eq_true rfl) rfl rfl ?_
      refine g_aload_n (n := 18) C 1 dX6_endLeaks_17 rfl rfl ?_
      refine g_rload_n (n := 19) C 0 dX6_endLeaks_18 rfl rfl ?_
      obtain ⟨S3, v4, hq5, h⟩ := cal_e h
      refine g_callV (n := 22) (As := [vR ad 30 x1]) (rest := []) C 4 1 (Nat.le_of_ble_eq_true rfl) rfl rfl (c_X6_holdsTooLong hS (ix_rg hg2) hq5) gX6_endLeaks_X6_holdsTooLong rfl ⟨rfl, rfl⟩ (by decide +kernel) ⟨Nat.le_of_ble_eq_true rfl, Nat.le_of_ble_eq_true rfl⟩ rfl rfl rfl (Nat.le_of_ble_eq_true rfl) dX6_endLeaks_19 rfl (fun hS3 hv4 => ?_)
      show GW (sX D t ad) mi_X6_endLeaks (acV, S0, r0) x S3 22 _ [vI v4]
      refine g_if_eq (n := 25) C 38 (z_r32 hv4) dX6_endLeaks_22 (by decide) rfl (fun (hc6 : v4 = 0) => ?_) (fun (hc6 : ¬ (v4 = 0)) => ?_)
      · rw [if_pos hc6] at h
        obtain ⟨v7, ev7, h⟩ := nmV_e h
        have hv7 : r32 v7 := by rw [ev7]; exact w32_r _
        refine g_iinc (n := 41) (lv' := [(1, vI v7), (2, vR ad 30 x1), (0, .ref (ad 4))]) C 2 dX6_endLeaks_38 rfl (Nat.le_of_ble_eq_true rfl) ev7 rfl rfl ?_
        refine g_goto C 2 dX6_endLeaks_41 (by decide) ?_
        refine g_lv [2, 0] rfl ?_
        exact ih v7 S3 hS3 hv7 h
      · rw [if_neg hc6] at h
        refine g_aload_n (n := 26) C 1 dX6_endLeaks_25 rfl rfl ?_
        refine g_rload_n (n := 27) C 0 dX6_endLeaks_26 rfl rfl ?_
        refine g_bipush (n := 29) C dX6_endLeaks_27 (by decide +kernel) rfl ?_
        refine g_iconst (n := 30) C dX6_endLeaks_29 rfl ?_
        obtain ⟨S8, v9, hq10, h⟩ := cal_e h
        refine g_callV (n := 33) (As := [vR ad 30 x1, vI 7, vI 4]) (rest := []) C 4 3 (Nat.le_of_ble_eq_true rfl) rfl rfl (c_X6_leave hS3 (ix_rg hg2) (by decide : r32 7) (by decide : r32 4) hq10) gX6_endLeaks_X6_leave rfl ⟨rfl, rfl⟩ (by decide +kernel) ⟨Nat.le_of_ble_eq_true rfl, Nat.le_of_ble_eq_true rfl⟩ rfl rfl rfl (Nat.le_of_ble_eq_true rfl) dX6_endLeaks_30 rfl (fun hS8 hv9 => ?_)
        show GW (sX D t ad) mi_X6_endLeaks (acV, S0, r0) x S8 33 _ []
        refine g_aload_n (n := 34) C 1 dX6_endLeaks_33 rfl rfl ?_
        refine g_rload_n (n := 35) C 0 dX6_endLeaks_34 rfl rfl ?_
        obtain ⟨S11, v12, hq13, h⟩ := cal_e h
        refine g_callV (n := 38) (As := [vR ad 30 x1]) (rest := []) C 4 1 (Nat.le_of_ble_eq_true rfl) rfl rfl (c_X6_giveBack hS8 (ix_rg hg2) hq13) gX6_endLeaks_X6_giveBack rfl ⟨rfl, rfl⟩ (by decide +kernel) ⟨Nat.le_of_ble_eq_true rfl, Nat.le_of_ble_eq_true rfl⟩ rfl rfl rfl (Nat.le_of_ble_eq_true rfl) dX6_endLeaks_35 rfl (fun hS11 hv12 => ?_)
        show GW (sX D t ad) mi_X6_endLeaks (acV, S0, r0) x S11 38 _ []
        obtain ⟨v14, ev14, h⟩ := nmV_e h
        have hv14 : r32 v14 := by rw [ev14]; exact w32_r _
        refine g_iinc (n := 41) (lv' := [(1, vI v14), (2, vR ad 30 x1), (0, .ref (ad 4))]) C 2 dX6_endLeaks_38 rfl (Nat.le_of_ble_eq_true rfl) ev14 rfl rfl ?_
        refine g_goto C 2 dX6_endLeaks_41 (by decide) ?_
        refine g_lv [2, 0] rfl ?_
        exact ih v14 S11 hS11 hv14 h
def dn_X6_endLeaks (S : St) : Option (St × Int) := dn_X6_endLeaks_2 FU 0 S
set_option maxRecDepth 100000 in
set_option maxHeartbeats 4000000 in
theorem c_X6_endLeaks {l : Launch} {D : va_G} {t : T5} {ad : Nat → Nat} {S S0 : St} {r0 : Int} (hS : RS S) (h : dn_X6_endLeaks S = some (S0, r0)) : Mc l (sX D t ad) yX6_endLeaks wsX6_endLeaks rm_X6_endLeaks [.ref (ad 4)] acV S S0 r0 := by
  refine Mc_of (cc := cX6_endLeaks) (nL := 3) (ret := none) (by decide +kernel) rfl (Nat.le_of_ble_eq_true rfl) (lv := [(0, .ref (ad 4))]) rfl (fun x C _ => ?_)
  unfold dn_X6_endLeaks at h
  show GW (sX D t ad) mi_X6_endLeaks (acV, S0, r0) x S 0 [(0, .ref (ad 4))] []
  refine g_iconst (n := 1) C dX6_endLeaks_0 rfl ?_
  refine g_istore_n (n := 2) (lv' := [(1, vI 0), (0, .ref (ad 4))]) C dX6_endLeaks_1 (Nat.le_of_ble_eq_true rfl) rfl rfl rfl ?_
  refine g_lv [1, 0] rfl ?_
  exact u_X6_endLeaks_2 C FU 0 S hS (by decide : r32 0) h
-- RX6 letCome
abbrev rm_X6_letCome : Room := ({ frames := 2, cells := 0, slots := 0, locals := 47 } : Room)
abbrev mi_X6_letCome : Mi := (cX6_letCome, 3, RX6, wsX6_letCome, rm_X6_letCome, none)
set_option maxRecDepth 20000 in
theorem in_X6_letCome_X1 : ∀ w ∈ u_ws RX1 TX1 10, w ∈ wsX6_letCome := by decide +kernel
set_option maxRecDepth 20000 in
theorem in_X6_letCome_X6 : ∀ w ∈ u_ws RX6 TX6 11, w ∈ wsX6_letCome := by decide +kernel
def dn_X6_letCome_2 : Nat → Int → St → Option (St × Int)
  | 0, _, _ => none
  | n + 1, x1, S => (if S 4 5 ≤ x1 then some (S, 0) else (if 0 ≤ x1 ∧ x1 < 60 then (if S (x1.toNat + 30) 6 = 0 then (if S (x1.toNat + 30) 5 = S 4 6 then (cal (dn_X1_waitFrom x1 (S 4 6) S) fun S7 v8 => (cal (dn_X4_add 0 (S7 4 6) (x1.toNat : Int) (-1) S7) fun S10 v11 => (nmV (w32 (x1 + 1)) fun v13 => dn_X6_letCome_2 n v13 S10))) else (nmV (w32 (x1 + 1)) fun v6 => dn_X6_letCome_2 n v6 S)) else (nmV (w32 (x1 + 1)) fun v4 => dn_X6_letCome_2 n v4 S)) else none))
set_option maxRecDepth 100000 in
set_option maxHeartbeats 4000000 in
theorem u_X6_letCome_2 {D : va_G} {t : T5} {ad : Nat → Nat} {S0 : St} {r0 : Int} {x : Mx} (C : CX (sX D t ad) mi_X6_letCome x) : ∀ (n : Nat) (x1 : Int) (S : St), RS S → (r32 x1) → dn_X6_letCome_2 n x1 S = some (S0, r0) → GW (sX D t ad) mi_X6_letCome (acV, S0, r0) x S 2 [(0, .ref (ad 4)), (1, vI x1)] [] := by
  intro n
  induction n with
  | zero =>
    intro x1 S hS hx1 h
    cases h
  | succ n ih =>
    intro x1 S hS hx1 h
    rw [dn_X6_letCome_2] at h
    refine g_iload_n (n := 3) C 1 dX6_letCome_2 rfl rfl ?_
    refine g_aload_n (n := 4) C 0 dX6_letCome_3 rfl rfl ?_
    refine g_getI (n := 7) C 4 5 rfl (Nat.le_of_ble_eq_true rfl) rfl rfl rfl (Nat.le_of_ble_eq_true rfl) in_X6_letCome_X6 (by decide +kernel) dX6_letCome_4 rfl ?_
    refine g_icmp_ge (n := 10) C 66 hx1 ((hS 4 5).2 (by decide)) dX6_letCome_7 (by decide) rfl (fun (hc1 : S 4 5 ≤ x1) => ?_) (fun (hc1 : ¬ (S 4 5 ≤ x1)) => ?_)
    · rw [if_pos hc1] at h
      exact g_vret C rfl h rfl trivial hS dX6_letCome_66
    · rw [if_neg hc1] at h
      refine g_aload_n (n := 11) C 0 dX6_letCome_10 rfl rfl ?_
      refine g_getC (n := 14) C 4 2 rfl (Nat.le_of_ble_eq_true rfl) rfl rfl rfl (Nat.le_of_ble_eq_true rfl) in_X6_letCome_X6 (by decide +kernel) dX6_letCome_11 rfl ?_
      refine g_iload_n (n := 15) C 1 dX6_letCome_14 rfl rfl ?_
      obtain ⟨hg2, h⟩ := gd_e h
      refine g_rald (n := 16) C 6 rfl (Nat.le_of_ble_eq_true rfl) rfl (Or.inl rfl) rfl hg2 hx1 dX6_letCome_15 rfl ?_
      refine g_rstore_n (n := 17) (lv' := [(2, vR ad 30 x1), (0, .ref (ad 4)), (1, vI x1)]) C dX6_letCome_16 (Nat.le_of_ble_eq_true rfl) rfl rfl ?_
      refine g_rload_n (n := 18) C 0 dX6_letCome_17 rfl rfl ?_
      refine g_getI (n := 21) C (x1.toNat + 30) 6 (vR_pos hg2.1) (tn_add hg2 (Nat.le_of_ble_eq_true rfl)) (dX_call (tn_lt hg2 (Nat.le_refl _))) rfl rfl (Nat.le_of_ble_eq_true rfl) in_X6_letCome_X1 (by decide +kernel) dX6_letCome_18 rfl ?_
      refine g_if_ne (n := 24) C 60 ((hS (x1.toNat + 30) 6).2 (by decide)) dX6_letCome_21 (by decide) rfl (fun (hc3 : ¬ (S (x1.toNat + 30) 6 = 0)) => ?_) (fun (hc3 : S (x1.toNat + 30) 6 = 0) => ?_)
      · rw [if_neg hc3] at h
        obtain ⟨v4, ev4, h⟩ := nmV_e h
        have hv4 : r32 v4 := by rw [ev4]; exact w32_r _
        refine g_iinc (n := 63) (lv' := [(1, vI v4), (2, vR ad 30 x1), (0, .ref (ad 4))]) C 2 dX6_letCome_60 rfl (Nat.le_of_ble_eq_true rfl) ev4 rfl rfl ?_
        refine g_goto C 2 dX6_letCome_63 (by decide) ?_
        refine g_lv [2, 0] rfl ?_
        exact ih v4 S hS hv4 h
      · rw [if_pos hc3] at h
        refine g_rload_n (n := 25) C 0 dX6_letCome_24 rfl rfl ?_
        refine g_getI (n := 28) C (x1.toNat + 30) 5 (vR_pos hg2.1) (tn_add hg2 (Nat.le_of_ble_eq_true rfl)) (dX_call (tn_lt hg2 (Nat.le_refl _))) rfl rfl (Nat.le_of_ble_eq_true rfl) in_X6_letCome_X1 (by decide +kernel) dX6_letCome_25 rfl ?_
        refine g_aload_n (n := 29) C 1 dX6_letCome_28 rfl rfl ?_
        refine g_getI (n := 32) C 4 6 rfl (Nat.le_of_ble_eq_true rfl) rfl rfl rfl (Nat.le_of_ble_eq_true rfl) in_X6_letCome_X6 (by decide +kernel) dX6_letCome_29 rfl ?_
        refine g_icmp_ne (n := 35) C 60 ((hS (x1.toNat + 30) 5).2 (by decide)) ((hS 4 6).2 (by decide)) dX6_letCome_32 (by decide) rfl (fun (hc5 : ¬ (S (x1.toNat + 30) 5 = S 4 6)) => ?_) (fun (hc5 : S (x1.toNat + 30) 5 = S 4 6) => ?_)
        · rw [if_neg hc5] at h
          obtain ⟨v6, ev6, h⟩ := nmV_e h
          have hv6 : r32 v6 := by rw [ev6]; exact w32_r _
          refine g_iinc (n := 63) (lv' := [(1, vI v6), (2, vR ad 30 x1), (0, .ref (ad 4))]) C 2 dX6_letCome_60 rfl (Nat.le_of_ble_eq_true rfl) ev6 rfl rfl ?_
          refine g_goto C 2 dX6_letCome_63 (by decide) ?_
          refine g_lv [2, 0] rfl ?_
          exact ih v6 S hS hv6 h
        · rw [if_pos hc5] at h
          refine g_rload_n (n := 36) C 0 dX6_letCome_35 rfl rfl ?_
          refine g_aload_n (n := 37) C 1 dX6_letCome_36 rfl rfl ?_
          refine g_getI (n := 40) C 4 6 rfl (Nat.le_of_ble_eq_true rfl) rfl rfl rfl (Nat.le_of_ble_eq_true rfl) in_X6_letCome_X6 (by decide +kernel) dX6_letCome_37 rfl ?_
          obtain ⟨S7, v8, hq9, h⟩ := cal_e h
          refine g_callV (n := 43) (As := [vI (S 4 6)]) (rest := []) C (x1.toNat + 30) 1 (tn_add hg2 (Nat.le_of_ble_eq_true rfl)) (dX_call (tn_lt hg2 (Nat.le_refl _))) rfl (c_X1_waitFrom hS hg2 ((hS 4 6).2 (by decide)) hq9) gX6_letCome_X1_waitFrom rfl ⟨rfl, rfl⟩ (by decide +kernel) ⟨Nat.le_of_ble_eq_true rfl, Nat.le_of_ble_eq_true rfl⟩ (vR_pos hg2.1) rfl rfl (Nat.le_of_ble_eq_true rfl) dX6_letCome_40 rfl (fun hS7 hv8 => ?_)
          show GW (sX D t ad) mi_X6_letCome (acV, S0, r0) x S7 43 _ []
          refine g_aload_n (n := 44) C 1 dX6_letCome_43 rfl rfl ?_
          refine g_getC (n := 47) C 4 4 rfl (Nat.le_of_ble_eq_true rfl) rfl rfl rfl (Nat.le_of_ble_eq_true rfl) in_X6_letCome_X6 (by decide +kernel) dX6_letCome_44 rfl ?_
          refine g_iconst (n := 48) C dX6_letCome_47 rfl ?_
          refine g_aload_n (n := 49) C 1 dX6_letCome_48 rfl rfl ?_
          refine g_getI (n := 52) C 4 6 rfl (Nat.le_of_ble_eq_true rfl) rfl rfl rfl (Nat.le_of_ble_eq_true rfl) in_X6_letCome_X6 (by decide +kernel) dX6_letCome_49 rfl ?_
          refine g_rload_n (n := 53) C 0 dX6_letCome_52 rfl rfl ?_
          refine g_getN (n := 56) C (x1.toNat + 30) 0 (vR_pos hg2.1) (tn_add hg2 (Nat.le_of_ble_eq_true rfl)) (dX_call (tn_lt hg2 (Nat.le_refl _))) rfl rfl (Nat.le_of_ble_eq_true rfl) in_X6_letCome_X1 (by decide +kernel) dX6_letCome_53 rfl ?_
          refine g_iconst (n := 57) C dX6_letCome_56 rfl ?_
          obtain ⟨S10, v11, hq12, h⟩ := cal_e h
          refine g_callV (n := 60) (As := [vI 0, vI (S7 4 6), vI (x1.toNat : Int), vI (-1)]) (rest := []) C 10 4 (Nat.le_of_ble_eq_true rfl) rfl rfl (c_X4_add hS7 (by decide : r32 0) ((hS7 4 6).2 (by decide)) (tn_r32 hg2 (by decide)) (by decide : r32 (-1)) hq12) gX6_letCome_X4_add rfl ⟨rfl, rfl⟩ (by decide +kernel) ⟨Nat.le_of_ble_eq_true rfl, Nat.le_of_ble_eq_true rfl⟩ rfl rfl rfl (Nat.le_of_ble_eq_true rfl) dX6_letCome_57 rfl (fun hS10 hv11 => ?_)
          show GW (sX D t ad) mi_X6_letCome (acV, S0, r0) x S10 60 _ []
          obtain ⟨v13, ev13, h⟩ := nmV_e h
          have hv13 : r32 v13 := by rw [ev13]; exact w32_r _
          refine g_iinc (n := 63) (lv' := [(1, vI v13), (2, vR ad 30 x1), (0, .ref (ad 4))]) C 2 dX6_letCome_60 rfl (Nat.le_of_ble_eq_true rfl) ev13 rfl rfl ?_
          refine g_goto C 2 dX6_letCome_63 (by decide) ?_
          refine g_lv [2, 0] rfl ?_
          exact ih v13 S10 hS10 hv13 h
def dn_X6_letCome (S : St) : Option (St × Int) := dn_X6_letCome_2 FU 0 S
set_option maxRecDepth 100000 in
set_option maxHeartbeats 4000000 in
theorem c_X6_letCome {l : Launch} {D : va_G} {t : T5} {ad : Nat → Nat} {S S0 : St} {r0 : Int} (hS : RS S) (h : dn_X6_letCome S = some (S0, r0)) : Mc l (sX D t ad) yX6_letCome wsX6_letCome rm_X6_letCome [.ref (ad 4)] acV S S0 r0 := by
  refine Mc_of (cc := cX6_letCome) (nL := 3) (ret := none) (by decide +kernel) rfl (Nat.le_of_ble_eq_true rfl) (lv := [(0, .ref (ad 4))]) rfl (fun x C _ => ?_)
  unfold dn_X6_letCome at h
  show GW (sX D t ad) mi_X6_letCome (acV, S0, r0) x S 0 [(0, .ref (ad 4))] []
  refine g_iconst (n := 1) C dX6_letCome_0 rfl ?_
  refine g_istore_n (n := 2) (lv' := [(1, vI 0), (0, .ref (ad 4))]) C dX6_letCome_1 (Nat.le_of_ble_eq_true rfl) rfl rfl rfl ?_
  refine g_lv [1, 0] rfl ?_
  exact u_X6_letCome_2 C FU 0 S hS (by decide : r32 0) h
-- RX6 giveUp
abbrev rm_X6_giveUp : Room := ({ frames := 3, cells := 0, slots := 0, locals := 70 } : Room)
abbrev mi_X6_giveUp : Mi := (cX6_giveUp, 3, RX6, wsX6_giveUp, rm_X6_giveUp, none)
set_option maxRecDepth 20000 in
theorem in_X6_giveUp_X1 : ∀ w ∈ u_ws RX1 TX1 10, w ∈ wsX6_giveUp := by decide +kernel
set_option maxRecDepth 20000 in
theorem in_X6_giveUp_X6 : ∀ w ∈ u_ws RX6 TX6 11, w ∈ wsX6_giveUp := by decide +kernel
def dn_X6_giveUp_2 : Nat → Int → St → Option (St × Int)
  | 0, _, _ => none
  | n + 1, x1, S => (if S 4 5 ≤ x1 then some (S, 0) else (if 0 ≤ x1 ∧ x1 < 60 then (if S (x1.toNat + 30) 6 = 1 then (if w32 ((S 4 6) - (S (x1.toNat + 30) 8)) ≤ S (x1.toNat + 30) 3 then (nmV (w32 (x1 + 1)) fun v6 => dn_X6_giveUp_2 n v6 S) else (cal (dn_X6_leave x1 8 5 S) fun S7 v8 => (cal (dn_X6_giveBack x1 S7) fun S10 v11 => (nmV (w32 (x1 + 1)) fun v13 => dn_X6_giveUp_2 n v13 S10)))) else (nmV (w32 (x1 + 1)) fun v4 => dn_X6_giveUp_2 n v4 S)) else none))
set_option maxRecDepth 100000 in
set_option maxHeartbeats 4000000 in
theorem u_X6_giveUp_2 {D : va_G} {t : T5} {ad : Nat → Nat} {S0 : St} {r0 : Int} {x : Mx} (C : CX (sX D t ad) mi_X6_giveUp x) : ∀ (n : Nat) (x1 : Int) (S : St), RS S → (r32 x1) → dn_X6_giveUp_2 n x1 S = some (S0, r0) → GW (sX D t ad) mi_X6_giveUp (acV, S0, r0) x S 2 [(0, .ref (ad 4)), (1, vI x1)] [] := by
  intro n
  induction n with
  | zero =>
    intro x1 S hS hx1 h
    cases h
  | succ n ih =>
    intro x1 S hS hx1 h
    rw [dn_X6_giveUp_2] at h
    refine g_iload_n (n := 3) C 1 dX6_giveUp_2 rfl rfl ?_
    refine g_aload_n (n := 4) C 0 dX6_giveUp_3 rfl rfl ?_
    refine g_getI (n := 7) C 4 5 rfl (Nat.le_of_ble_eq_true rfl) rfl rfl rfl (Nat.le_of_ble_eq_true rfl) in_X6_giveUp_X6 (by decide +kernel) dX6_giveUp_4 rfl ?_
    refine g_icmp_ge (n := 10) C 60 hx1 ((hS 4 5).2 (by decide)) dX6_giveUp_7 (by decide) rfl (fun (hc1 : S 4 5 ≤ x1) => ?_) (fun (hc1 : ¬ (S 4 5 ≤ x1)) => ?_)
    · rw [if_pos hc1] at h
      exact g_vret C rfl h rfl trivial hS dX6_giveUp_60
    · rw [if_neg hc1] at h
      refine g_aload_n (n := 11) C 0 dX6_giveUp_10 rfl rfl ?_
      refine g_getC (n := 14) C 4 2 rfl (Nat.le_of_ble_eq_true rfl) rfl rfl rfl (Nat.le_of_ble_eq_true rfl) in_X6_giveUp_X6 (by decide +kernel) dX6_giveUp_11 rfl ?_
      refine g_iload_n (n := 15) C 1 dX6_giveUp_14 rfl rfl ?_
      obtain ⟨hg2, h⟩ := gd_e h
      refine g_rald (n := 16) C 6 rfl (Nat.le_of_ble_eq_true rfl) rfl (Or.inl rfl) rfl hg2 hx1 dX6_giveUp_15 rfl ?_
      refine g_rstore_n (n := 17) (lv' := [(2, vR ad 30 x1), (0, .ref (ad 4)), (1, vI x1)]) C dX6_giveUp_16 (Nat.le_of_ble_eq_true rfl) rfl rfl ?_
      refine g_rload_n (n := 18) C 0 dX6_giveUp_17 rfl rfl ?_
      refine g_getI (n := 21) C (x1.toNat + 30) 6 (vR_pos hg2.1) (tn_add hg2 (Nat.le_of_ble_eq_true rfl)) (dX_call (tn_lt hg2 (Nat.le_refl _))) rfl rfl (Nat.le_of_ble_eq_true rfl) in_X6_giveUp_X1 (by decide +kernel) dX6_giveUp_18 rfl ?_
      refine g_iconst (n := 22) C dX6_giveUp_21 rfl ?_
      refine g_icmp_ne (n := 25) C 54 ((hS (x1.toNat + 30) 6).2 (by decide)) (by decide : r32 1) dX6_giveUp_22 (by decide) rfl (fun (hc3 : ¬ (S (x1.toNat + 30) 6 = 1)) => ?_) (fun (hc3 : S (x1.toNat + 30) 6 = 1) => ?_)
      · rw [if_neg hc3] at h
        obtain ⟨v4, ev4, h⟩ := nmV_e h
        have hv4 : r32 v4 := by rw [ev4]; exact w32_r _
        refine g_iinc (n := 57) (lv' := [(1, vI v4), (2, vR ad 30 x1), (0, .ref (ad 4))]) C 2 dX6_giveUp_54 rfl (Nat.le_of_ble_eq_true rfl) ev4 rfl rfl ?_
        refine g_goto C 2 dX6_giveUp_57 (by decide) ?_
        refine g_lv [2, 0] rfl ?_
        exact ih v4 S hS hv4 h
      · rw [if_pos hc3] at h
        refine g_aload_n (n := 26) C 1 dX6_giveUp_25 rfl rfl ?_
        refine g_getI (n := 29) C 4 6 rfl (Nat.le_of_ble_eq_true rfl) rfl rfl rfl (Nat.le_of_ble_eq_true rfl) in_X6_giveUp_X6 (by decide +kernel) dX6_giveUp_26 rfl ?_
        refine g_rload_n (n := 30) C 0 dX6_giveUp_29 rfl rfl ?_
        refine g_getI (n := 33) C (x1.toNat + 30) 8 (vR_pos hg2.1) (tn_add hg2 (Nat.le_of_ble_eq_true rfl)) (dX_call (tn_lt hg2 (Nat.le_refl _))) rfl rfl (Nat.le_of_ble_eq_true rfl) in_X6_giveUp_X1 (by decide +kernel) dX6_giveUp_30 rfl ?_
        refine g_isub (n := 34) C dX6_giveUp_33 rfl ?_
        refine g_rload_n (n := 35) C 0 dX6_giveUp_34 rfl rfl ?_
        refine g_getI (n := 38) C (x1.toNat + 30) 3 (vR_pos hg2.1) (tn_add hg2 (Nat.le_of_ble_eq_true rfl)) (dX_call (tn_lt hg2 (Nat.le_refl _))) rfl rfl (Nat.le_of_ble_eq_true rfl) in_X6_giveUp_X1 (by decide +kernel) dX6_giveUp_35 rfl ?_
        refine g_icmp_le (n := 41) C 54 (w32_r _) ((hS (x1.toNat + 30) 3).2 (by decide)) dX6_giveUp_38 (by decide) rfl (fun (hc5 : w32 ((S 4 6) - (S (x1.toNat + 30) 8)) ≤ S (x1.toNat + 30) 3) => ?_) (fun (hc5 : ¬ (w32 ((S 4 6) - (S (x1.toNat + 30) 8)) ≤ S (x1.toNat + 30) 3)) => ?_)
        · rw [if_pos hc5] at h
          obtain ⟨v6, ev6, h⟩ := nmV_e h
          have hv6 : r32 v6 := by rw [ev6]; exact w32_r _
          refine g_iinc (n := 57) (lv' := [(1, vI v6), (2, vR ad 30 x1), (0, .ref (ad 4))]) C 2 dX6_giveUp_54 rfl (Nat.le_of_ble_eq_true rfl) ev6 rfl rfl ?_
          refine g_goto C 2 dX6_giveUp_57 (by decide) ?_
          refine g_lv [2, 0] rfl ?_
          exact ih v6 S hS hv6 h
        · rw [if_neg hc5] at h
          refine g_aload_n (n := 42) C 1 dX6_giveUp_41 rfl rfl ?_
          refine g_rload_n (n := 43) C 0 dX6_giveUp_42 rfl rfl ?_
          refine g_bipush (n := 45) C dX6_giveUp_43 (by decide +kernel) rfl ?_
          refine g_iconst (n := 46) C dX6_giveUp_45 rfl ?_
          obtain ⟨S7, v8, hq9, h⟩ := cal_e h
          refine g_callV (n := 49) (As := [vR ad 30 x1, vI 8, vI 5]) (rest := []) C 4 3 (Nat.le_of_ble_eq_true rfl) rfl rfl (c_X6_leave hS (ix_rg hg2) (by decide : r32 8) (by decide : r32 5) hq9) gX6_giveUp_X6_leave rfl ⟨rfl, rfl⟩ (by decide +kernel) ⟨Nat.le_of_ble_eq_true rfl, Nat.le_of_ble_eq_true rfl⟩ rfl rfl rfl (Nat.le_of_ble_eq_true rfl) dX6_giveUp_46 rfl (fun hS7 hv8 => ?_)
          show GW (sX D t ad) mi_X6_giveUp (acV, S0, r0) x S7 49 _ []
          refine g_aload_n (n := 50) C 1 dX6_giveUp_49 rfl rfl ?_
          refine g_rload_n (n := 51) C 0 dX6_giveUp_50 rfl rfl ?_
          obtain ⟨S10, v11, hq12, h⟩ := cal_e h
          refine g_callV (n := 54) (As := [vR ad 30 x1]) (rest := []) C 4 1 (Nat.le_of_ble_eq_true rfl) rfl rfl (c_X6_giveBack hS7 (ix_rg hg2) hq12) gX6_giveUp_X6_giveBack rfl ⟨rfl, rfl⟩ (by decide +kernel) ⟨Nat.le_of_ble_eq_true rfl, Nat.le_of_ble_eq_true rfl⟩ rfl rfl rfl (Nat.le_of_ble_eq_true rfl) dX6_giveUp_51 rfl (fun hS10 hv11 => ?_)
          show GW (sX D t ad) mi_X6_giveUp (acV, S0, r0) x S10 54 _ []
          obtain ⟨v13, ev13, h⟩ := nmV_e h
          have hv13 : r32 v13 := by rw [ev13]; exact w32_r _
          refine g_iinc (n := 57) (lv' := [(1, vI v13), (2, vR ad 30 x1), (0, .ref (ad 4))]) C 2 dX6_giveUp_54 rfl (Nat.le_of_ble_eq_true rfl) ev13 rfl rfl ?_
          refine g_goto C 2 dX6_giveUp_57 (by decide) ?_
          refine g_lv [2, 0] rfl ?_
          exact ih v13 S10 hS10 hv13 h
def dn_X6_giveUp (S : St) : Option (St × Int) := dn_X6_giveUp_2 FU 0 S
set_option maxRecDepth 100000 in
set_option maxHeartbeats 4000000 in
theorem c_X6_giveUp {l : Launch} {D : va_G} {t : T5} {ad : Nat → Nat} {S S0 : St} {r0 : Int} (hS : RS S) (h : dn_X6_giveUp S = some (S0, r0)) : Mc l (sX D t ad) yX6_giveUp wsX6_giveUp rm_X6_giveUp [.ref (ad 4)] acV S S0 r0 := by
  refine Mc_of (cc := cX6_giveUp) (nL := 3) (ret := none) (by decide +kernel) rfl (Nat.le_of_ble_eq_true rfl) (lv := [(0, .ref (ad 4))]) rfl (fun x C _ => ?_)
  unfold dn_X6_giveUp at h
  show GW (sX D t ad) mi_X6_giveUp (acV, S0, r0) x S 0 [(0, .ref (ad 4))] []
  refine g_iconst (n := 1) C dX6_giveUp_0 rfl ?_
  refine g_istore_n (n := 2) (lv' := [(1, vI 0), (0, .ref (ad 4))]) C dX6_giveUp_1 (Nat.le_of_ble_eq_true rfl) rfl rfl rfl ?_
  refine g_lv [1, 0] rfl ?_
  exact u_X6_giveUp_2 C FU 0 S hS (by decide : r32 0) h
-- RX6 firstWaiting
abbrev rm_X6_firstWaiting : Room := ({ frames := 0, cells := 0, slots := 0, locals := 0 } : Room)
abbrev mi_X6_firstWaiting : Mi := (cX6_firstWaiting, 4, RX6, wsX6_firstWaiting, rm_X6_firstWaiting, (some (.object "LinePool$Caller")))
set_option maxRecDepth 20000 in
theorem in_X6_firstWaiting_X1 : ∀ w ∈ u_ws RX1 TX1 10, w ∈ wsX6_firstWaiting := by decide +kernel
set_option maxRecDepth 20000 in
theorem in_X6_firstWaiting_X6 : ∀ w ∈ u_ws RX6 TX6 11, w ∈ wsX6_firstWaiting := by decide +kernel
def dn_X6_firstWaiting_4 : Nat → Int → Int → St → Option (St × Int)
  | 0, _, _, _ => none
  | n + 1, x1, x2, S => (if S 4 5 ≤ x2 then some (S, x1) else (if 0 ≤ x2 ∧ x2 < 60 then (if S (x2.toNat + 30) 6 = 1 then (if x1 < 0 then (nmV (w32 (x2 + 1)) fun v6 => dn_X6_firstWaiting_4 n x2 v6 S) else (if 0 ≤ x1 ∧ x1 < 60 then (if S (x1.toNat + 30) 2 ≤ S (x2.toNat + 30) 2 then (nmV (w32 (x2 + 1)) fun v9 => dn_X6_firstWaiting_4 n x1 v9 S) else (nmV (w32 (x2 + 1)) fun v10 => dn_X6_firstWaiting_4 n x2 v10 S)) else none)) else (nmV (w32 (x2 + 1)) fun v4 => dn_X6_firstWaiting_4 n x1 v4 S)) else none))
set_option maxRecDepth 100000 in
set_option maxHeartbeats 4000000 in
theorem u_X6_firstWaiting_4 {D : va_G} {t : T5} {ad : Nat → Nat} {S0 : St} {r0 : Int} {x : Mx} (C : CX (sX D t ad) mi_X6_firstWaiting x) : ∀ (n : Nat) (x1 : Int) (x2 : Int) (S : St), RS S → (-1 ≤ x1 ∧ x1 < (60 : Nat)) → (r32 x2) → dn_X6_firstWaiting_4 n x1 x2 S = some (S0, r0) → GW (sX D t ad) mi_X6_firstWaiting ((acR ad 30 60), S0, r0) x S 4 [(0, .ref (ad 4)), (1, vR ad 30 x1), (2, vI x2)] [] := by
  intro n
  induction n with
  | zero =>
    intro x1 x2 S hS hx1 hx2 h
    cases h
  | succ n ih =>
    intro x1 x2 S hS hx1 hx2 h
    rw [dn_X6_firstWaiting_4] at h
    refine g_iload_n (n := 5) C 2 dX6_firstWaiting_4 rfl rfl ?_
    refine g_aload_n (n := 6) C 0 dX6_firstWaiting_5 rfl rfl ?_
    refine g_getI (n := 9) C 4 5 rfl (Nat.le_of_ble_eq_true rfl) rfl rfl rfl (Nat.le_of_ble_eq_true rfl) in_X6_firstWaiting_X6 (by decide +kernel) dX6_firstWaiting_6 rfl ?_
    refine g_icmp_ge (n := 12) C 50 hx2 ((hS 4 5).2 (by decide)) dX6_firstWaiting_9 (by decide) rfl (fun (hc1 : S 4 5 ≤ x2) => ?_) (fun (hc1 : ¬ (S 4 5 ≤ x2)) => ?_)
    · rw [if_pos hc1] at h
      refine g_rload_n (n := 51) C 1 dX6_firstWaiting_50 rfl rfl ?_
      exact g_rret C rfl h rfl hx1 hS dX6_firstWaiting_51
    · rw [if_neg hc1] at h
      refine g_aload_n (n := 13) C 0 dX6_firstWaiting_12 rfl rfl ?_
      refine g_getC (n := 16) C 4 2 rfl (Nat.le_of_ble_eq_true rfl) rfl rfl rfl (Nat.le_of_ble_eq_true rfl) in_X6_firstWaiting_X6 (by decide +kernel) dX6_firstWaiting_13 rfl ?_
      refine g_iload_n (n := 17) C 2 dX6_firstWaiting_16 rfl rfl ?_
      obtain ⟨hg2, h⟩ := gd_e h
      refine g_rald (n := 18) C 6 rfl (Nat.le_of_ble_eq_true rfl) rfl (Or.inl rfl) rfl hg2 hx2 dX6_firstWaiting_17 rfl ?_
      refine g_rstore_n (n := 19) (lv' := [(3, vR ad 30 x2), (0, .ref (ad 4)), (1, vR ad 30 x1), (2, vI x2)]) C dX6_firstWaiting_18 (Nat.le_of_ble_eq_true rfl) rfl rfl ?_
      refine g_rload_n (n := 20) C 0 dX6_firstWaiting_19 rfl rfl ?_
      refine g_getI (n := 23) C (x2.toNat + 30) 6 (vR_pos hg2.1) (tn_add hg2 (Nat.le_of_ble_eq_true rfl)) (dX_call (tn_lt hg2 (Nat.le_refl _))) rfl rfl (Nat.le_of_ble_eq_true rfl) in_X6_firstWaiting_X1 (by decide +kernel) dX6_firstWaiting_20 rfl ?_
      refine g_iconst (n := 24) C dX6_firstWaiting_23 rfl ?_
      refine g_icmp_ne (n := 27) C 44 ((hS (x2.toNat + 30) 6).2 (by decide)) (by decide : r32 1) dX6_firstWaiting_24 (by decide) rfl (fun (hc3 : ¬ (S (x2.toNat + 30) 6 = 1)) => ?_) (fun (hc3 : S (x2.toNat + 30) 6 = 1) => ?_)
      · rw [if_neg hc3] at h
        obtain ⟨v4, ev4, h⟩ := nmV_e h
        have hv4 : r32 v4 := by rw [ev4]; exact w32_r _
        refine g_iinc (n := 47) (lv' := [(2, vI v4), (3, vR ad 30 x2), (0, .ref (ad 4)), (1, vR ad 30 x1)]) C 3 dX6_firstWaiting_44 rfl (Nat.le_of_ble_eq_true rfl) ev4 (by simp [vR_cat, vI_cat, vJ_cat, rf_cat] <;> decide) rfl ?_
        refine g_goto C 4 dX6_firstWaiting_47 (by decide) ?_
        refine g_lv [2, 3, 0] rfl ?_
        exact ih x1 v4 S hS hx1 hv4 h
      · rw [if_pos hc3] at h
        refine g_rload_n (n := 28) C 2 dX6_firstWaiting_27 rfl rfl ?_
        refine g_ifnull (n := 31) C 42 dX6_firstWaiting_28 (by decide) rfl (fun (hc5 : x1 < 0) => ?_) (fun (hc5 : ¬ (x1 < 0)) => ?_)
        · rw [if_pos hc5] at h
          refine g_rload_n (n := 43) C 0 dX6_firstWaiting_42 rfl rfl ?_
          refine g_rstore_n (n := 44) (lv' := [(1, vR ad 30 x2), (3, vR ad 30 x2), (0, .ref (ad 4)), (2, vI x2)]) C dX6_firstWaiting_43 (Nat.le_of_ble_eq_true rfl) rfl rfl ?_
          obtain ⟨v6, ev6, h⟩ := nmV_e h
          have hv6 : r32 v6 := by rw [ev6]; exact w32_r _
          refine g_iinc (n := 47) (lv' := [(2, vI v6), (1, vR ad 30 x2), (3, vR ad 30 x2), (0, .ref (ad 4))]) C 3 dX6_firstWaiting_44 rfl (Nat.le_of_ble_eq_true rfl) ev6 (by simp [vR_cat, vI_cat, vJ_cat, rf_cat] <;> decide) rfl ?_
          refine g_goto C 4 dX6_firstWaiting_47 (by decide) ?_
          refine g_lv [3, 1, 0] rfl ?_
          exact ih x2 v6 S hS (ix_rg hg2) hv6 h
        · rw [if_neg hc5] at h
          refine g_rload_n (n := 32) C 0 dX6_firstWaiting_31 rfl rfl ?_
          refine g_getI (n := 35) C (x2.toNat + 30) 2 (vR_pos hg2.1) (tn_add hg2 (Nat.le_of_ble_eq_true rfl)) (dX_call (tn_lt hg2 (Nat.le_refl _))) rfl rfl (Nat.le_of_ble_eq_true rfl) in_X6_firstWaiting_X1 (by decide +kernel) dX6_firstWaiting_32 rfl ?_
          refine g_rload_n (n := 36) C 2 dX6_firstWaiting_35 rfl rfl ?_
          obtain ⟨hg7, h⟩ := gd_e h
          refine g_getI (n := 39) C (x1.toNat + 30) 2 (vR_pos hg7.1) (tn_add hg7 (Nat.le_of_ble_eq_true rfl)) (dX_call (tn_lt hg7 (Nat.le_refl _))) rfl rfl (Nat.le_of_ble_eq_true rfl) in_X6_firstWaiting_X1 (by decide +kernel) dX6_firstWaiting_36 rfl ?_
          refine g_icmp_ge (n := 42) C 44 ((hS (x2.toNat + 30) 2).2 (by decide)) ((hS (x1.toNat + 30) 2).2 (by decide)) dX6_firstWaiting_39 (by decide) rfl (fun (hc8 : S (x1.toNat + 30) 2 ≤ S (x2.toNat + 30) 2) => ?_) (fun (hc8 : ¬ (S (x1.toNat + 30) 2 ≤ S (x2.toNat + 30) 2)) => ?_)
          · rw [if_pos hc8] at h
            obtain ⟨v9, ev9, h⟩ := nmV_e h
            have hv9 : r32 v9 := by rw [ev9]; exact w32_r _
            refine g_iinc (n := 47) (lv' := [(2, vI v9), (3, vR ad 30 x2), (0, .ref (ad 4)), (1, vR ad 30 x1)]) C 3 dX6_firstWaiting_44 rfl (Nat.le_of_ble_eq_true rfl) ev9 (by simp [vR_cat, vI_cat, vJ_cat, rf_cat] <;> decide) rfl ?_
            refine g_goto C 4 dX6_firstWaiting_47 (by decide) ?_
            refine g_lv [2, 3, 0] rfl ?_
            exact ih x1 v9 S hS hx1 hv9 h
          · rw [if_neg hc8] at h
            refine g_rload_n (n := 43) C 0 dX6_firstWaiting_42 rfl rfl ?_
            refine g_rstore_n (n := 44) (lv' := [(1, vR ad 30 x2), (3, vR ad 30 x2), (0, .ref (ad 4)), (2, vI x2)]) C dX6_firstWaiting_43 (Nat.le_of_ble_eq_true rfl) rfl rfl ?_
            obtain ⟨v10, ev10, h⟩ := nmV_e h
            have hv10 : r32 v10 := by rw [ev10]; exact w32_r _
            refine g_iinc (n := 47) (lv' := [(2, vI v10), (1, vR ad 30 x2), (3, vR ad 30 x2), (0, .ref (ad 4))]) C 3 dX6_firstWaiting_44 rfl (Nat.le_of_ble_eq_true rfl) ev10 (by simp [vR_cat, vI_cat, vJ_cat, rf_cat] <;> decide) rfl ?_
            refine g_goto C 4 dX6_firstWaiting_47 (by decide) ?_
            refine g_lv [3, 1, 0] rfl ?_
            exact ih x2 v10 S hS (ix_rg hg2) hv10 h
def dn_X6_firstWaiting (S : St) : Option (St × Int) := dn_X6_firstWaiting_4 FU (-1) 0 S
set_option maxRecDepth 100000 in
set_option maxHeartbeats 4000000 in
theorem c_X6_firstWaiting {l : Launch} {D : va_G} {t : T5} {ad : Nat → Nat} {S S0 : St} {r0 : Int} (hS : RS S) (h : dn_X6_firstWaiting S = some (S0, r0)) : Mc l (sX D t ad) yX6_firstWaiting wsX6_firstWaiting rm_X6_firstWaiting [.ref (ad 4)] (acR ad 30 60) S S0 r0 := by
  refine Mc_of (cc := cX6_firstWaiting) (nL := 4) (ret := (some (.object "LinePool$Caller"))) (by decide +kernel) rfl (Nat.le_of_ble_eq_true rfl) (lv := [(0, .ref (ad 4))]) rfl (fun x C _ => ?_)
  unfold dn_X6_firstWaiting at h
  show GW (sX D t ad) mi_X6_firstWaiting ((acR ad 30 60), S0, r0) x S 0 [(0, .ref (ad 4))] []
  refine g_null (n := 1) C 30 dX6_firstWaiting_0 rfl ?_
  refine g_rstore_n (n := 2) (lv' := [(1, vR ad 30 (-1)), (0, .ref (ad 4))]) C dX6_firstWaiting_1 (Nat.le_of_ble_eq_true rfl) rfl rfl ?_
  refine g_iconst (n := 3) C dX6_firstWaiting_2 rfl ?_
  refine g_istore_n (n := 4) (lv' := [(2, vI 0), (1, vR ad 30 (-1)), (0, .ref (ad 4))]) C dX6_firstWaiting_3 (Nat.le_of_ble_eq_true rfl) rfl (by simp [vR_cat, vI_cat, vJ_cat, rf_cat] <;> decide) rfl ?_
  refine g_lv [2, 1, 0] rfl ?_
  exact u_X6_firstWaiting_4 C FU (-1) 0 S hS (by decide : -1 ≤ (-1 : Int) ∧ (-1 : Int) < (60 : Nat)) (by decide : r32 0) h
-- RX6 freshestIdle
abbrev rm_X6_freshestIdle : Room := ({ frames := 0, cells := 0, slots := 0, locals := 0 } : Room)
abbrev mi_X6_freshestIdle : Mi := (cX6_freshestIdle, 4, RX6, wsX6_freshestIdle, rm_X6_freshestIdle, (some (.object "LinePool$Line")))
set_option maxRecDepth 20000 in
theorem in_X6_freshestIdle_X3 : ∀ w ∈ u_ws RX3 TX3 6, w ∈ wsX6_freshestIdle := by decide +kernel
set_option maxRecDepth 20000 in
theorem in_X6_freshestIdle_X6 : ∀ w ∈ u_ws RX6 TX6 11, w ∈ wsX6_freshestIdle := by decide +kernel
def dn_X6_freshestIdle_4 : Nat → Int → Int → St → Option (St × Int)
  | 0, _, _, _ => none
  | n + 1, x1, x2, S => (if 12 ≤ x2 then some (S, x1) else (if 0 ≤ x2 ∧ x2 < 12 then (if S (x2.toNat + 18) 1 = 2 then (if x1 < 0 then (nmV (w32 (x2 + 1)) fun v6 => dn_X6_freshestIdle_4 n x2 v6 S) else (if 0 ≤ x1 ∧ x1 < 12 then (if S (x2.toNat + 18) 5 ≤ S (x1.toNat + 18) 5 then (nmV (w32 (x2 + 1)) fun v9 => dn_X6_freshestIdle_4 n x1 v9 S) else (nmV (w32 (x2 + 1)) fun v10 => dn_X6_freshestIdle_4 n x2 v10 S)) else none)) else (nmV (w32 (x2 + 1)) fun v4 => dn_X6_freshestIdle_4 n x1 v4 S)) else none))
set_option maxRecDepth 100000 in
set_option maxHeartbeats 4000000 in
theorem u_X6_freshestIdle_4 {D : va_G} {t : T5} {ad : Nat → Nat} {S0 : St} {r0 : Int} {x : Mx} (C : CX (sX D t ad) mi_X6_freshestIdle x) : ∀ (n : Nat) (x1 : Int) (x2 : Int) (S : St), RS S → (-1 ≤ x1 ∧ x1 < (12 : Nat)) → (r32 x2) → dn_X6_freshestIdle_4 n x1 x2 S = some (S0, r0) → GW (sX D t ad) mi_X6_freshestIdle ((acR ad 18 12), S0, r0) x S 4 [(0, .ref (ad 4)), (1, vR ad 18 x1), (2, vI x2)] [] := by
  intro n
  induction n with
  | zero =>
    intro x1 x2 S hS hx1 hx2 h
    cases h
  | succ n ih =>
    intro x1 x2 S hS hx1 hx2 h
    rw [dn_X6_freshestIdle_4] at h
    refine g_iload_n (n := 5) C 2 dX6_freshestIdle_4 rfl rfl ?_
    refine g_bipush (n := 7) C dX6_freshestIdle_5 (by decide +kernel) rfl ?_
    refine g_icmp_ge (n := 10) C 48 hx2 (by decide : r32 12) dX6_freshestIdle_7 (by decide) rfl (fun (hc1 : 12 ≤ x2) => ?_) (fun (hc1 : ¬ (12 ≤ x2)) => ?_)
    · rw [if_pos hc1] at h
      refine g_rload_n (n := 49) C 1 dX6_freshestIdle_48 rfl rfl ?_
      exact g_rret C rfl h rfl hx1 hS dX6_freshestIdle_49
    · rw [if_neg hc1] at h
      refine g_aload_n (n := 11) C 0 dX6_freshestIdle_10 rfl rfl ?_
      refine g_getC (n := 14) C 4 1 rfl (Nat.le_of_ble_eq_true rfl) rfl rfl rfl (Nat.le_of_ble_eq_true rfl) in_X6_freshestIdle_X6 (by decide +kernel) dX6_freshestIdle_11 rfl ?_
      refine g_iload_n (n := 15) C 2 dX6_freshestIdle_14 rfl rfl ?_
      obtain ⟨hg2, h⟩ := gd_e h
      refine g_rald (n := 16) C 5 rfl (Nat.le_of_ble_eq_true rfl) rfl (Or.inr rfl) rfl hg2 hx2 dX6_freshestIdle_15 rfl ?_
      refine g_rstore_n (n := 17) (lv' := [(3, vR ad 18 x2), (0, .ref (ad 4)), (1, vR ad 18 x1), (2, vI x2)]) C dX6_freshestIdle_16 (Nat.le_of_ble_eq_true rfl) rfl rfl ?_
      refine g_rload_n (n := 18) C 0 dX6_freshestIdle_17 rfl rfl ?_
      refine g_getI (n := 21) C (x2.toNat + 18) 1 (vR_pos hg2.1) (tn_add hg2 (Nat.le_of_ble_eq_true rfl)) (dX_line (tn_lt hg2 (Nat.le_refl _))) rfl rfl (Nat.le_of_ble_eq_true rfl) in_X6_freshestIdle_X3 (by decide +kernel) dX6_freshestIdle_18 rfl ?_
      refine g_iconst (n := 22) C dX6_freshestIdle_21 rfl ?_
      refine g_icmp_ne (n := 25) C 42 ((hS (x2.toNat + 18) 1).2 (by decide)) (by decide : r32 2) dX6_freshestIdle_22 (by decide) rfl (fun (hc3 : ¬ (S (x2.toNat + 18) 1 = 2)) => ?_) (fun (hc3 : S (x2.toNat + 18) 1 = 2) => ?_)
      · rw [if_neg hc3] at h
        obtain ⟨v4, ev4, h⟩ := nmV_e h
        have hv4 : r32 v4 := by rw [ev4]; exact w32_r _
        refine g_iinc (n := 45) (lv' := [(2, vI v4), (3, vR ad 18 x2), (0, .ref (ad 4)), (1, vR ad 18 x1)]) C 3 dX6_freshestIdle_42 rfl (Nat.le_of_ble_eq_true rfl) ev4 (by simp [vR_cat, vI_cat, vJ_cat, rf_cat] <;> decide) rfl ?_
        refine g_goto C 4 dX6_freshestIdle_45 (by decide) ?_
        refine g_lv [2, 3, 0] rfl ?_
        exact ih x1 v4 S hS hx1 hv4 h
      · rw [if_pos hc3] at h
        refine g_rload_n (n := 26) C 2 dX6_freshestIdle_25 rfl rfl ?_
        refine g_ifnull (n := 29) C 40 dX6_freshestIdle_26 (by decide) rfl (fun (hc5 : x1 < 0) => ?_) (fun (hc5 : ¬ (x1 < 0)) => ?_)
        · rw [if_pos hc5] at h
          refine g_rload_n (n := 41) C 0 dX6_freshestIdle_40 rfl rfl ?_
          refine g_rstore_n (n := 42) (lv' := [(1, vR ad 18 x2), (3, vR ad 18 x2), (0, .ref (ad 4)), (2, vI x2)]) C dX6_freshestIdle_41 (Nat.le_of_ble_eq_true rfl) rfl rfl ?_
          obtain ⟨v6, ev6, h⟩ := nmV_e h
          have hv6 : r32 v6 := by rw [ev6]; exact w32_r _
          refine g_iinc (n := 45) (lv' := [(2, vI v6), (1, vR ad 18 x2), (3, vR ad 18 x2), (0, .ref (ad 4))]) C 3 dX6_freshestIdle_42 rfl (Nat.le_of_ble_eq_true rfl) ev6 (by simp [vR_cat, vI_cat, vJ_cat, rf_cat] <;> decide) rfl ?_
          refine g_goto C 4 dX6_freshestIdle_45 (by decide) ?_
          refine g_lv [3, 1, 0] rfl ?_
          exact ih x2 v6 S hS (ix_rg hg2) hv6 h
        · rw [if_neg hc5] at h
          refine g_rload_n (n := 30) C 0 dX6_freshestIdle_29 rfl rfl ?_
          refine g_getI (n := 33) C (x2.toNat + 18) 5 (vR_pos hg2.1) (tn_add hg2 (Nat.le_of_ble_eq_true rfl)) (dX_line (tn_lt hg2 (Nat.le_refl _))) rfl rfl (Nat.le_of_ble_eq_true rfl) in_X6_freshestIdle_X3 (by decide +kernel) dX6_freshestIdle_30 rfl ?_
          refine g_rload_n (n := 34) C 2 dX6_freshestIdle_33 rfl rfl ?_
          obtain ⟨hg7, h⟩ := gd_e h
          refine g_getI (n := 37) C (x1.toNat + 18) 5 (vR_pos hg7.1) (tn_add hg7 (Nat.le_of_ble_eq_true rfl)) (dX_line (tn_lt hg7 (Nat.le_refl _))) rfl rfl (Nat.le_of_ble_eq_true rfl) in_X6_freshestIdle_X3 (by decide +kernel) dX6_freshestIdle_34 rfl ?_
          refine g_icmp_le (n := 40) C 42 ((hS (x2.toNat + 18) 5).2 (by decide)) ((hS (x1.toNat + 18) 5).2 (by decide)) dX6_freshestIdle_37 (by decide) rfl (fun (hc8 : S (x2.toNat + 18) 5 ≤ S (x1.toNat + 18) 5) => ?_) (fun (hc8 : ¬ (S (x2.toNat + 18) 5 ≤ S (x1.toNat + 18) 5)) => ?_)
          · rw [if_pos hc8] at h
            obtain ⟨v9, ev9, h⟩ := nmV_e h
            have hv9 : r32 v9 := by rw [ev9]; exact w32_r _
            refine g_iinc (n := 45) (lv' := [(2, vI v9), (3, vR ad 18 x2), (0, .ref (ad 4)), (1, vR ad 18 x1)]) C 3 dX6_freshestIdle_42 rfl (Nat.le_of_ble_eq_true rfl) ev9 (by simp [vR_cat, vI_cat, vJ_cat, rf_cat] <;> decide) rfl ?_
            refine g_goto C 4 dX6_freshestIdle_45 (by decide) ?_
            refine g_lv [2, 3, 0] rfl ?_
            exact ih x1 v9 S hS hx1 hv9 h
          · rw [if_neg hc8] at h
            refine g_rload_n (n := 41) C 0 dX6_freshestIdle_40 rfl rfl ?_
            refine g_rstore_n (n := 42) (lv' := [(1, vR ad 18 x2), (3, vR ad 18 x2), (0, .ref (ad 4)), (2, vI x2)]) C dX6_freshestIdle_41 (Nat.le_of_ble_eq_true rfl) rfl rfl ?_
            obtain ⟨v10, ev10, h⟩ := nmV_e h
            have hv10 : r32 v10 := by rw [ev10]; exact w32_r _
            refine g_iinc (n := 45) (lv' := [(2, vI v10), (1, vR ad 18 x2), (3, vR ad 18 x2), (0, .ref (ad 4))]) C 3 dX6_freshestIdle_42 rfl (Nat.le_of_ble_eq_true rfl) ev10 (by simp [vR_cat, vI_cat, vJ_cat, rf_cat] <;> decide) rfl ?_
            refine g_goto C 4 dX6_freshestIdle_45 (by decide) ?_
            refine g_lv [3, 1, 0] rfl ?_
            exact ih x2 v10 S hS (ix_rg hg2) hv10 h
def dn_X6_freshestIdle (S : St) : Option (St × Int) := dn_X6_freshestIdle_4 FU (-1) 0 S
set_option maxRecDepth 100000 in
set_option maxHeartbeats 4000000 in
theorem c_X6_freshestIdle {l : Launch} {D : va_G} {t : T5} {ad : Nat → Nat} {S S0 : St} {r0 : Int} (hS : RS S) (h : dn_X6_freshestIdle S = some (S0, r0)) : Mc l (sX D t ad) yX6_freshestIdle wsX6_freshestIdle rm_X6_freshestIdle [.ref (ad 4)] (acR ad 18 12) S S0 r0 := by
  refine Mc_of (cc := cX6_freshestIdle) (nL := 4) (ret := (some (.object "LinePool$Line"))) (by decide +kernel) rfl (Nat.le_of_ble_eq_true rfl) (lv := [(0, .ref (ad 4))]) rfl (fun x C _ => ?_)
  unfold dn_X6_freshestIdle at h
  show GW (sX D t ad) mi_X6_freshestIdle ((acR ad 18 12), S0, r0) x S 0 [(0, .ref (ad 4))] []
  refine g_null (n := 1) C 18 dX6_freshestIdle_0 rfl ?_
  refine g_rstore_n (n := 2) (lv' := [(1, vR ad 18 (-1)), (0, .ref (ad 4))]) C dX6_freshestIdle_1 (Nat.le_of_ble_eq_true rfl) rfl rfl ?_
  refine g_iconst (n := 3) C dX6_freshestIdle_2 rfl ?_
  refine g_istore_n (n := 4) (lv' := [(2, vI 0), (1, vR ad 18 (-1)), (0, .ref (ad 4))]) C dX6_freshestIdle_3 (Nat.le_of_ble_eq_true rfl) rfl (by simp [vR_cat, vI_cat, vJ_cat, rf_cat] <;> decide) rfl ?_
  refine g_lv [2, 1, 0] rfl ?_
  exact u_X6_freshestIdle_4 C FU (-1) 0 S hS (by decide : -1 ≤ (-1 : Int) ∧ (-1 : Int) < (12 : Nat)) (by decide : r32 0) h
-- RX6 handTo
abbrev rm_X6_handTo : Room := ({ frames := 3, cells := 0, slots := 0, locals := 69 } : Room)
abbrev mi_X6_handTo : Mi := (cX6_handTo, 4, RX6, wsX6_handTo, rm_X6_handTo, none)
set_option maxRecDepth 20000 in
theorem in_X6_handTo_X1 : ∀ w ∈ u_ws RX1 TX1 10, w ∈ wsX6_handTo := by decide +kernel
set_option maxRecDepth 20000 in
theorem in_X6_handTo_X3 : ∀ w ∈ u_ws RX3 TX3 6, w ∈ wsX6_handTo := by decide +kernel
set_option maxRecDepth 20000 in
theorem in_X6_handTo_X6 : ∀ w ∈ u_ws RX6 TX6 11, w ∈ wsX6_handTo := by decide +kernel
def dn_X6_handTo_23 (x1 : Int) (x2 : Int) (x3 : Int) (S : St) : Option (St × Int) := (if x3 ≤ 0 then (if x3 = 0 then (if 0 ≤ x2 ∧ x2 < 12 then (if S (x2.toNat + 18) 2 = 0 then (cal (dn_X6_lend x2 x1 S) fun S12 v13 => some (S12, 0)) else (cal (dn_X6_drop x2 S) fun S15 v16 => some (S15, 0))) else none) else (cal (dn_X6_lend x2 x1 S) fun S7 v8 => some (S7, 0))) else (if 0 ≤ x2 ∧ x2 < 12 then (cal (dn_X3_tryFor x2 x1 x3 S) fun S19 v20 => (if 0 ≤ x1 ∧ x1 < 60 then (nmS (stU S19 (x1.toNat + 30) 6 2) fun S23 => (cal (dn_X4_add 8 (S23 4 6) (x1.toNat : Int) (x2.toNat : Int) S23) fun S24 v25 => some (S24, 0))) else none)) else none))
set_option maxRecDepth 100000 in
set_option maxHeartbeats 4000000 in
theorem u_X6_handTo_23 {D : va_G} {t : T5} {ad : Nat → Nat} {S0 : St} {r0 : Int} {x : Mx} (C : CX (sX D t ad) mi_X6_handTo x) : ∀ (x1 : Int) (x2 : Int) (x3 : Int) (S : St), RS S → (-1 ≤ x1 ∧ x1 < (60 : Nat)) → (-1 ≤ x2 ∧ x2 < (12 : Nat)) → (r32 x3) → dn_X6_handTo_23 x1 x2 x3 S = some (S0, r0) → GW (sX D t ad) mi_X6_handTo (acV, S0, r0) x S 23 [(0, .ref (ad 4)), (1, vR ad 30 x1), (2, vR ad 18 x2), (3, vI x3)] [] := by
  intro x1 x2 x3 S hS hx1 hx2 hx3 h
  unfold dn_X6_handTo_23 at h
  refine g_iload_n (n := 24) C 3 dX6_handTo_23 rfl rfl ?_
  refine g_if_le (n := 27) C 62 hx3 dX6_handTo_24 (by decide) rfl (fun (hc5 : x3 ≤ 0) => ?_) (fun (hc5 : ¬ (x3 ≤ 0)) => ?_)
  · rw [if_pos hc5] at h
    refine g_iload_n (n := 63) C 3 dX6_handTo_62 rfl rfl ?_
    refine g_if_ne (n := 66) C 81 hx3 dX6_handTo_63 (by decide) rfl (fun (hc6 : ¬ (x3 = 0)) => ?_) (fun (hc6 : x3 = 0) => ?_)
    · rw [if_neg hc6] at h
      refine g_aload_n (n := 82) C 0 dX6_handTo_81 rfl rfl ?_
      refine g_rload_n (n := 83) C 2 dX6_handTo_82 rfl rfl ?_
      refine g_rload_n (n := 84) C 1 dX6_handTo_83 rfl rfl ?_
      obtain ⟨S7, v8, hq9, h⟩ := cal_e h
      refine g_callV (n := 87) (As := [vR ad 18 x2, vR ad 30 x1]) (rest := []) C 4 2 (Nat.le_of_ble_eq_true rfl) rfl rfl (c_X6_lend hS hx2 hx1 hq9) gX6_handTo_X6_lend rfl ⟨rfl, rfl⟩ (by decide +kernel) ⟨Nat.le_of_ble_eq_true rfl, Nat.le_of_ble_eq_true rfl⟩ rfl rfl rfl (Nat.le_of_ble_eq_true rfl) dX6_handTo_84 rfl (fun hS7 hv8 => ?_)
      show GW (sX D t ad) mi_X6_handTo (acV, S0, r0) x S7 87 _ []
      exact g_vret C rfl h rfl trivial hS7 dX6_handTo_87
    · rw [if_pos hc6] at h
      refine g_rload_n (n := 67) C 2 dX6_handTo_66 rfl rfl ?_
      obtain ⟨hg10, h⟩ := gd_e h
      refine g_getI (n := 70) C (x2.toNat + 18) 2 (vR_pos hg10.1) (tn_add hg10 (Nat.le_of_ble_eq_true rfl)) (dX_line (tn_lt hg10 (Nat.le_refl _))) rfl rfl (Nat.le_of_ble_eq_true rfl) in_X6_handTo_X3 (by decide +kernel) dX6_handTo_67 rfl ?_
      refine g_if_eq (n := 73) C 81 ((hS (x2.toNat + 18) 2).2 (by decide)) dX6_handTo_70 (by decide) rfl (fun (hc11 : S (x2.toNat + 18) 2 = 0) => ?_) (fun (hc11 : ¬ (S (x2.toNat + 18) 2 = 0)) => ?_)
      · rw [if_pos hc11] at h
        refine g_aload_n (n := 82) C 0 dX6_handTo_81 rfl rfl ?_
        refine g_rload_n (n := 83) C 2 dX6_handTo_82 rfl rfl ?_
        refine g_rload_n (n := 84) C 1 dX6_handTo_83 rfl rfl ?_
        obtain ⟨S12, v13, hq14, h⟩ := cal_e h
        refine g_callV (n := 87) (As := [vR ad 18 x2, vR ad 30 x1]) (rest := []) C 4 2 (Nat.le_of_ble_eq_true rfl) rfl rfl (c_X6_lend hS hx2 hx1 hq14) gX6_handTo_X6_lend rfl ⟨rfl, rfl⟩ (by decide +kernel) ⟨Nat.le_of_ble_eq_true rfl, Nat.le_of_ble_eq_true rfl⟩ rfl rfl rfl (Nat.le_of_ble_eq_true rfl) dX6_handTo_84 rfl (fun hS12 hv13 => ?_)
        show GW (sX D t ad) mi_X6_handTo (acV, S0, r0) x S12 87 _ []
        exact g_vret C rfl h rfl trivial hS12 dX6_handTo_87
      · rw [if_neg hc11] at h
        refine g_aload_n (n := 74) C 0 dX6_handTo_73 rfl rfl ?_
        refine g_rload_n (n := 75) C 2 dX6_handTo_74 rfl rfl ?_
        obtain ⟨S15, v16, hq17, h⟩ := cal_e h
        refine g_callV (n := 78) (As := [vR ad 18 x2]) (rest := []) C 4 1 (Nat.le_of_ble_eq_true rfl) rfl rfl (c_X6_drop hS hx2 hq17) gX6_handTo_X6_drop rfl ⟨rfl, rfl⟩ (by decide +kernel) ⟨Nat.le_of_ble_eq_true rfl, Nat.le_of_ble_eq_true rfl⟩ rfl rfl rfl (Nat.le_of_ble_eq_true rfl) dX6_handTo_75 rfl (fun hS15 hv16 => ?_)
        show GW (sX D t ad) mi_X6_handTo (acV, S0, r0) x S15 78 _ []
        refine g_goto C 87 dX6_handTo_78 (by decide) ?_
        exact g_vret C rfl h rfl trivial hS15 dX6_handTo_87
  · rw [if_neg hc5] at h
    refine g_rload_n (n := 28) C 2 dX6_handTo_27 rfl rfl ?_
    refine g_rload_n (n := 29) C 1 dX6_handTo_28 rfl rfl ?_
    refine g_iload_n (n := 30) C 3 dX6_handTo_29 rfl rfl ?_
    obtain ⟨hg18, h⟩ := gd_e h
    obtain ⟨S19, v20, hq21, h⟩ := cal_e h
    refine g_callV (n := 33) (As := [vR ad 30 x1, vI x3]) (rest := []) C (x2.toNat + 18) 2 (tn_add hg18 (Nat.le_of_ble_eq_true rfl)) (dX_line (tn_lt hg18 (Nat.le_refl _))) rfl (c_X3_tryFor hS hg18 hx1 hx3 hq21) gX6_handTo_X3_tryFor rfl ⟨rfl, rfl⟩ (by decide +kernel) ⟨Nat.le_of_ble_eq_true rfl, Nat.le_of_ble_eq_true rfl⟩ (vR_pos hg18.1) rfl rfl (Nat.le_of_ble_eq_true rfl) dX6_handTo_30 rfl (fun hS19 hv20 => ?_)
    show GW (sX D t ad) mi_X6_handTo (acV, S0, r0) x S19 33 _ []
    refine g_rload_n (n := 34) C 1 dX6_handTo_33 rfl rfl ?_
    refine g_iconst (n := 35) C dX6_handTo_34 rfl ?_
    obtain ⟨hg22, h⟩ := gd_e h
    obtain ⟨S23, eS23, h⟩ := nmS_e h
    have hS23 : RS S23 := by rw [eS23]; exact RS_i hS19 (by decide : r32 2)
    refine g_putI (n := 38) C (x1.toNat + 30) 6 (vR_pos hg22.1) (tn_add hg22 (Nat.le_of_ble_eq_true rfl)) (dX_call (tn_lt hg22 (Nat.le_refl _))) rfl rfl (Nat.le_of_ble_eq_true rfl) in_X6_handTo_X1 tyX1_ok nmX1 (by decide +kernel) rfl (by decide +kernel) (Nat.le_of_ble_eq_true rfl) eS23 dX6_handTo_35 rfl ?_
    refine g_aload_n (n := 39) C 0 dX6_handTo_38 rfl rfl ?_
    refine g_getC (n := 42) C 4 4 rfl (Nat.le_of_ble_eq_true rfl) rfl rfl rfl (Nat.le_of_ble_eq_true rfl) in_X6_handTo_X6 (by decide +kernel) dX6_handTo_39 rfl ?_
    refine g_bipush (n := 44) C dX6_handTo_42 (by decide +kernel) rfl ?_
    refine g_aload_n (n := 45) C 0 dX6_handTo_44 rfl rfl ?_
    refine g_getI (n := 48) C 4 6 rfl (Nat.le_of_ble_eq_true rfl) rfl rfl rfl (Nat.le_of_ble_eq_true rfl) in_X6_handTo_X6 (by decide +kernel) dX6_handTo_45 rfl ?_
    refine g_rload_n (n := 49) C 1 dX6_handTo_48 rfl rfl ?_
    refine g_getN (n := 52) C (x1.toNat + 30) 0 (vR_pos hg22.1) (tn_add hg22 (Nat.le_of_ble_eq_true rfl)) (dX_call (tn_lt hg22 (Nat.le_refl _))) rfl rfl (Nat.le_of_ble_eq_true rfl) in_X6_handTo_X1 (by decide +kernel) dX6_handTo_49 rfl ?_
    refine g_rload_n (n := 53) C 2 dX6_handTo_52 rfl rfl ?_
    refine g_getN (n := 56) C (x2.toNat + 18) 0 (vR_pos hg18.1) (tn_add hg18 (Nat.le_of_ble_eq_true rfl)) (dX_line (tn_lt hg18 (Nat.le_refl _))) rfl rfl (Nat.le_of_ble_eq_true rfl) in_X6_handTo_X3 (by decide +kernel) dX6_handTo_53 rfl ?_
    obtain ⟨S24, v25, hq26, h⟩ := cal_e h
    refine g_callV (n := 59) (As := [vI 8, vI (S23 4 6), vI (x1.toNat : Int), vI (x2.toNat : Int)]) (rest := []) C 10 4 (Nat.le_of_ble_eq_true rfl) rfl rfl (c_X4_add hS23 (by decide : r32 8) ((hS23 4 6).2 (by decide)) (tn_r32 hg22 (by decide)) (tn_r32 hg18 (by decide)) hq26) gX6_handTo_X4_add rfl ⟨rfl, rfl⟩ (by decide +kernel) ⟨Nat.le_of_ble_eq_true rfl, Nat.le_of_ble_eq_true rfl⟩ rfl rfl rfl (Nat.le_of_ble_eq_true rfl) dX6_handTo_56 rfl (fun hS24 hv25 => ?_)
    show GW (sX D t ad) mi_X6_handTo (acV, S0, r0) x S24 59 _ []
    refine g_goto C 87 dX6_handTo_59 (by decide) ?_
    exact g_vret C rfl h rfl trivial hS24 dX6_handTo_87
def dn_X6_handTo (a0 : Int) (a1 : Int) (S : St) : Option (St × Int) := (cal (dn_X7_number 2 S) fun S1 v2 => (if v2 < 0 then dn_X6_handTo_23 a0 a1 v2 S1 else (nmS (stU S1 4 7 (w32 ((S1 4 7) + 1))) fun S27 => dn_X6_handTo_23 a0 a1 v2 S27)))
set_option maxRecDepth 100000 in
set_option maxHeartbeats 4000000 in
theorem c_X6_handTo {l : Launch} {D : va_G} {t : T5} {ad : Nat → Nat} {S S0 : St} {r0 : Int} {a0 a1 : Int} (hS : RS S) (ha0 : -1 ≤ a0 ∧ a0 < (60 : Nat)) (ha1 : -1 ≤ a1 ∧ a1 < (12 : Nat)) (h : dn_X6_handTo a0 a1 S = some (S0, r0)) : Mc l (sX D t ad) yX6_handTo wsX6_handTo rm_X6_handTo [.ref (ad 4), vR ad 30 a0, vR ad 18 a1] acV S S0 r0 := by
  refine Mc_of (cc := cX6_handTo) (nL := 4) (ret := none) (by decide +kernel) rfl (by simp [lg_sl, vR_cat, vI_cat, vJ_cat, rf_cat]) (lv := [(0, .ref (ad 4)), (1, vR ad 30 a0), (2, vR ad 18 a1)]) (by simp [lv_args, vR_cat, vI_cat, vJ_cat, rf_cat]) (fun x C _ => ?_)
  unfold dn_X6_handTo at h
  show GW (sX D t ad) mi_X6_handTo (acV, S0, r0) x S 0 [(0, .ref (ad 4)), (1, vR ad 30 a0), (2, vR ad 18 a1)] []
  refine g_aload_n (n := 1) C 0 dX6_handTo_0 rfl rfl ?_
  refine g_getC (n := 4) C 4 0 rfl (Nat.le_of_ble_eq_true rfl) rfl rfl rfl (Nat.le_of_ble_eq_true rfl) in_X6_handTo_X6 (by decide +kernel) dX6_handTo_1 rfl ?_
  refine g_iconst (n := 5) C dX6_handTo_4 rfl ?_
  obtain ⟨S1, v2, hq3, h⟩ := cal_e h
  refine g_callV (n := 8) (As := [vI 2]) (rest := []) C 1 1 (Nat.le_of_ble_eq_true rfl) rfl rfl (c_X7_number hS (by decide : r32 2) hq3) gX6_handTo_X7_number rfl ⟨rfl, rfl⟩ (by decide +kernel) ⟨Nat.le_of_ble_eq_true rfl, Nat.le_of_ble_eq_true rfl⟩ rfl rfl rfl (Nat.le_of_ble_eq_true rfl) dX6_handTo_5 rfl (fun hS1 hv2 => ?_)
  show GW (sX D t ad) mi_X6_handTo (acV, S0, r0) x S1 8 _ [vI v2]
  refine g_istore_n (n := 9) (lv' := [(3, vI v2), (0, .ref (ad 4)), (1, vR ad 30 a0), (2, vR ad 18 a1)]) C dX6_handTo_8 (Nat.le_of_ble_eq_true rfl) rfl (by simp [vR_cat, vI_cat, vJ_cat, rf_cat] <;> decide) rfl ?_
  refine g_iload_n (n := 10) C 0 dX6_handTo_9 rfl rfl ?_
  refine g_if_lt (n := 13) C 23 hv2 dX6_handTo_10 (by decide) rfl (fun (hc4 : v2 < 0) => ?_) (fun (hc4 : ¬ (v2 < 0)) => ?_)
  · rw [if_pos hc4] at h
    refine g_lv [1, 2, 3, 0] rfl ?_
    exact u_X6_handTo_23 C a0 a1 v2 S1 hS1 ha0 ha1 hv2 h
  · rw [if_neg hc4] at h
    refine g_aload_n (n := 14) C 1 dX6_handTo_13 rfl rfl ?_
    refine g_dup (n := 15) C rfl dX6_handTo_14 rfl ?_
    refine g_getI (n := 18) C 4 7 rfl (Nat.le_of_ble_eq_true rfl) rfl rfl rfl (Nat.le_of_ble_eq_true rfl) in_X6_handTo_X6 (by decide +kernel) dX6_handTo_15 rfl ?_
    refine g_iconst (n := 19) C dX6_handTo_18 rfl ?_
    refine g_iadd (n := 20) C dX6_handTo_19 rfl ?_
    obtain ⟨S27, eS27, h⟩ := nmS_e h
    have hS27 : RS S27 := by rw [eS27]; exact RS_i hS1 (w32_r _)
    refine g_putI (n := 23) C 4 7 rfl (Nat.le_of_ble_eq_true rfl) rfl rfl rfl (Nat.le_of_ble_eq_true rfl) in_X6_handTo_X6 tyX6_ok nmX6 (by decide +kernel) rfl (by decide +kernel) (Nat.le_of_ble_eq_true rfl) eS27 dX6_handTo_20 rfl ?_
    refine g_lv [1, 2, 3, 0] rfl ?_
    exact u_X6_handTo_23 C a0 a1 v2 S27 hS27 ha0 ha1 hv2 h
-- RX6 handOut
abbrev rm_X6_handOut : Room := ({ frames := 4, cells := 0, slots := 0, locals := 92 } : Room)
abbrev mi_X6_handOut : Mi := (cX6_handOut, 4, RX6, wsX6_handOut, rm_X6_handOut, none)
def dn_X6_handOut_2 : Nat → Int → St → Option (St × Int)
  | 0, _, _ => none
  | n + 1, x1, S => (if 12 ≤ x1 then some (S, 0) else (cal (dn_X6_firstWaiting S) fun S2 v3 => (cal (dn_X6_freshestIdle S2) fun S5 v6 => (if v3 < 0 then some (S5, 0) else (if v6 < 0 then some (S5, 0) else (cal (dn_X6_handTo v3 v6 S5) fun S10 v11 => (nmV (w32 (x1 + 1)) fun v13 => dn_X6_handOut_2 n v13 S10)))))))
set_option maxRecDepth 100000 in
set_option maxHeartbeats 4000000 in
theorem u_X6_handOut_2 {D : va_G} {t : T5} {ad : Nat → Nat} {S0 : St} {r0 : Int} {x : Mx} (C : CX (sX D t ad) mi_X6_handOut x) : ∀ (n : Nat) (x1 : Int) (S : St), RS S → (r32 x1) → dn_X6_handOut_2 n x1 S = some (S0, r0) → GW (sX D t ad) mi_X6_handOut (acV, S0, r0) x S 2 [(0, .ref (ad 4)), (1, vI x1)] [] := by
  intro n
  induction n with
  | zero =>
    intro x1 S hS hx1 h
    cases h
  | succ n ih =>
    intro x1 S hS hx1 h
    rw [dn_X6_handOut_2] at h
    refine g_iload_n (n := 3) C 1 dX6_handOut_2 rfl rfl ?_
    refine g_bipush (n := 5) C dX6_handOut_3 (by decide +kernel) rfl ?_
    refine g_icmp_ge (n := 8) C 39 hx1 (by decide : r32 12) dX6_handOut_5 (by decide) rfl (fun (hc1 : 12 ≤ x1) => ?_) (fun (hc1 : ¬ (12 ≤ x1)) => ?_)
    · rw [if_pos hc1] at h
      exact g_vret C rfl h rfl trivial hS dX6_handOut_39
    · rw [if_neg hc1] at h
      refine g_aload_n (n := 9) C 0 dX6_handOut_8 rfl rfl ?_
      obtain ⟨S2, v3, hq4, h⟩ := cal_e h
      refine g_callV (n := 12) (As := []) (rest := []) C 4 0 (Nat.le_of_ble_eq_true rfl) rfl rfl (c_X6_firstWaiting hS hq4) gX6_handOut_X6_firstWaiting rfl ⟨rfl, rfl⟩ (by decide +kernel) ⟨Nat.le_of_ble_eq_true rfl, Nat.le_of_ble_eq_true rfl⟩ rfl rfl rfl (Nat.le_of_ble_eq_true rfl) dX6_handOut_9 rfl (fun hS2 hv3 => ?_)
      show GW (sX D t ad) mi_X6_handOut (acV, S0, r0) x S2 12 _ [vR ad 30 v3]
      refine g_rstore_n (n := 13) (lv' := [(2, vR ad 30 v3), (0, .ref (ad 4)), (1, vI x1)]) C dX6_handOut_12 (Nat.le_of_ble_eq_true rfl) rfl rfl ?_
      refine g_aload_n (n := 14) C 1 dX6_handOut_13 rfl rfl ?_
      obtain ⟨S5, v6, hq7, h⟩ := cal_e h
      refine g_callV (n := 17) (As := []) (rest := []) C 4 0 (Nat.le_of_ble_eq_true rfl) rfl rfl (c_X6_freshestIdle hS2 hq7) gX6_handOut_X6_freshestIdle rfl ⟨rfl, rfl⟩ (by decide +kernel) ⟨Nat.le_of_ble_eq_true rfl, Nat.le_of_ble_eq_true rfl⟩ rfl rfl rfl (Nat.le_of_ble_eq_true rfl) dX6_handOut_14 rfl (fun hS5 hv6 => ?_)
      show GW (sX D t ad) mi_X6_handOut (acV, S0, r0) x S5 17 _ [vR ad 18 v6]
      refine g_rstore_n (n := 18) (lv' := [(3, vR ad 18 v6), (2, vR ad 30 v3), (0, .ref (ad 4)), (1, vI x1)]) C dX6_handOut_17 (Nat.le_of_ble_eq_true rfl) (by simp [vR_cat, vI_cat, vJ_cat, rf_cat] <;> decide) rfl ?_
      refine g_rload_n (n := 19) C 1 dX6_handOut_18 rfl rfl ?_
      refine g_ifnull (n := 22) C 26 dX6_handOut_19 (by decide) rfl (fun (hc8 : v3 < 0) => ?_) (fun (hc8 : ¬ (v3 < 0)) => ?_)
      · rw [if_pos hc8] at h
        exact g_vret C rfl h rfl trivial hS5 dX6_handOut_26
      · rw [if_neg hc8] at h
        refine g_rload_n (n := 23) C 0 dX6_handOut_22 rfl rfl ?_
        refine g_ifnonnull (n := 26) C 27 dX6_handOut_23 (by decide) rfl (fun (hc9 : ¬ (v6 < 0)) => ?_) (fun (hc9 : v6 < 0) => ?_)
        · rw [if_neg hc9] at h
          refine g_aload_n (n := 28) C 2 dX6_handOut_27 rfl rfl ?_
          refine g_rload_n (n := 29) C 1 dX6_handOut_28 rfl rfl ?_
          refine g_rload_n (n := 30) C 0 dX6_handOut_29 rfl rfl ?_
          obtain ⟨S10, v11, hq12, h⟩ := cal_e h
          refine g_callV (n := 33) (As := [vR ad 30 v3, vR ad 18 v6]) (rest := []) C 4 2 (Nat.le_of_ble_eq_true rfl) rfl rfl (c_X6_handTo hS5 hv3 hv6 hq12) gX6_handOut_X6_handTo rfl ⟨rfl, rfl⟩ (by decide +kernel) ⟨Nat.le_of_ble_eq_true rfl, Nat.le_of_ble_eq_true rfl⟩ rfl rfl rfl (Nat.le_of_ble_eq_true rfl) dX6_handOut_30 rfl (fun hS10 hv11 => ?_)
          show GW (sX D t ad) mi_X6_handOut (acV, S0, r0) x S10 33 _ []
          obtain ⟨v13, ev13, h⟩ := nmV_e h
          have hv13 : r32 v13 := by rw [ev13]; exact w32_r _
          refine g_iinc (n := 36) (lv' := [(1, vI v13), (3, vR ad 18 v6), (2, vR ad 30 v3), (0, .ref (ad 4))]) C 3 dX6_handOut_33 rfl (Nat.le_of_ble_eq_true rfl) ev13 rfl rfl ?_
          refine g_goto C 2 dX6_handOut_36 (by decide) ?_
          refine g_lv [3, 0] rfl ?_
          exact ih v13 S10 hS10 hv13 h
        · rw [if_pos hc9] at h
          exact g_vret C rfl h rfl trivial hS5 dX6_handOut_26
def dn_X6_handOut (S : St) : Option (St × Int) := dn_X6_handOut_2 FU 0 S
set_option maxRecDepth 100000 in
set_option maxHeartbeats 4000000 in
theorem c_X6_handOut {l : Launch} {D : va_G} {t : T5} {ad : Nat → Nat} {S S0 : St} {r0 : Int} (hS : RS S) (h : dn_X6_handOut S = some (S0, r0)) : Mc l (sX D t ad) yX6_handOut wsX6_handOut rm_X6_handOut [.ref (ad 4)] acV S S0 r0 := by
  refine Mc_of (cc := cX6_handOut) (nL := 4) (ret := none) (by decide +kernel) rfl (Nat.le_of_ble_eq_true rfl) (lv := [(0, .ref (ad 4))]) rfl (fun x C _ => ?_)
  unfold dn_X6_handOut at h
  show GW (sX D t ad) mi_X6_handOut (acV, S0, r0) x S 0 [(0, .ref (ad 4))] []
  refine g_iconst (n := 1) C dX6_handOut_0 rfl ?_
  refine g_istore_n (n := 2) (lv' := [(1, vI 0), (0, .ref (ad 4))]) C dX6_handOut_1 (Nat.le_of_ble_eq_true rfl) rfl rfl rfl ?_
  refine g_lv [1, 0] rfl ?_
  exact u_X6_handOut_2 C FU 0 S hS (by decide : r32 0) h
-- RX6 linesIn
abbrev rm_X6_linesIn : Room := ({ frames := 0, cells := 0, slots := 0, locals := 0 } : Room)
abbrev mi_X6_linesIn : Mi := (cX6_linesIn, 4, RX6, wsX6_linesIn, rm_X6_linesIn, (some .int))
set_option maxRecDepth 20000 in
theorem in_X6_linesIn_X3 : ∀ w ∈ u_ws RX3 TX3 6, w ∈ wsX6_linesIn := by decide +kernel
set_option maxRecDepth 20000 in
theorem in_X6_linesIn_X6 : ∀ w ∈ u_ws RX6 TX6 11, w ∈ wsX6_linesIn := by decide +kernel
def dn_X6_linesIn_4 : Nat → Int → Int → Int → St → Option (St × Int)
  | 0, _, _, _, _ => none
  | n + 1, x1, x2, x3, S => (if 12 ≤ x3 then some (S, x2) else (if 0 ≤ x3 ∧ x3 < 12 then (if S (x3.toNat + 18) 1 = x1 then (nmV (w32 (x2 + 1)) fun v5 => (nmV (w32 (x3 + 1)) fun v6 => dn_X6_linesIn_4 n x1 v5 v6 S)) else (nmV (w32 (x3 + 1)) fun v4 => dn_X6_linesIn_4 n x1 x2 v4 S)) else none))
set_option maxRecDepth 100000 in
set_option maxHeartbeats 4000000 in
theorem u_X6_linesIn_4 {D : va_G} {t : T5} {ad : Nat → Nat} {S0 : St} {r0 : Int} {x : Mx} (C : CX (sX D t ad) mi_X6_linesIn x) : ∀ (n : Nat) (x1 : Int) (x2 : Int) (x3 : Int) (S : St), RS S → (r32 x1) → (r32 x2) → (r32 x3) → dn_X6_linesIn_4 n x1 x2 x3 S = some (S0, r0) → GW (sX D t ad) mi_X6_linesIn (acI, S0, r0) x S 4 [(0, .ref (ad 4)), (1, vI x1), (2, vI x2), (3, vI x3)] [] := by
  intro n
  induction n with
  | zero =>
    intro x1 x2 x3 S hS hx1 hx2 hx3 h
    cases h
  | succ n ih =>
    intro x1 x2 x3 S hS hx1 hx2 hx3 h
    rw [dn_X6_linesIn_4] at h
    refine g_iload_n (n := 5) C 3 dX6_linesIn_4 rfl rfl ?_
    refine g_bipush (n := 7) C dX6_linesIn_5 (by decide +kernel) rfl ?_
    refine g_icmp_ge (n := 10) C 32 hx3 (by decide : r32 12) dX6_linesIn_7 (by decide) rfl (fun (hc1 : 12 ≤ x3) => ?_) (fun (hc1 : ¬ (12 ≤ x3)) => ?_)
    · rw [if_pos hc1] at h
      refine g_iload_n (n := 33) C 2 dX6_linesIn_32 rfl rfl ?_
      exact g_iret C rfl h rfl hx2 hS dX6_linesIn_33
    · rw [if_neg hc1] at h
      refine g_aload_n (n := 11) C 0 dX6_linesIn_10 rfl rfl ?_
      refine g_getC (n := 14) C 4 1 rfl (Nat.le_of_ble_eq_true rfl) rfl rfl rfl (Nat.le_of_ble_eq_true rfl) in_X6_linesIn_X6 (by decide +kernel) dX6_linesIn_11 rfl ?_
      refine g_iload_n (n := 15) C 3 dX6_linesIn_14 rfl rfl ?_
      obtain ⟨hg2, h⟩ := gd_e h
      refine g_rald (n := 16) C 5 rfl (Nat.le_of_ble_eq_true rfl) rfl (Or.inr rfl) rfl hg2 hx3 dX6_linesIn_15 rfl ?_
      refine g_getI (n := 19) C (x3.toNat + 18) 1 (vR_pos hg2.1) (tn_add hg2 (Nat.le_of_ble_eq_true rfl)) (dX_line (tn_lt hg2 (Nat.le_refl _))) rfl rfl (Nat.le_of_ble_eq_true rfl) in_X6_linesIn_X3 (by decide +kernel) dX6_linesIn_16 rfl ?_
      refine g_iload_n (n := 20) C 1 dX6_linesIn_19 rfl rfl ?_
      refine g_icmp_ne (n := 23) C 26 ((hS (x3.toNat + 18) 1).2 (by decide)) hx1 dX6_linesIn_20 (by decide) rfl (fun (hc3 : ¬ (S (x3.toNat + 18) 1 = x1)) => ?_) (fun (hc3 : S (x3.toNat + 18) 1 = x1) => ?_)
      · rw [if_neg hc3] at h
        obtain ⟨v4, ev4, h⟩ := nmV_e h
        have hv4 : r32 v4 := by rw [ev4]; exact w32_r _
        refine g_iinc (n := 29) (lv' := [(3, vI v4), (0, .ref (ad 4)), (1, vI x1), (2, vI x2)]) C 3 dX6_linesIn_26 rfl (Nat.le_of_ble_eq_true rfl) ev4 rfl rfl ?_
        refine g_goto C 4 dX6_linesIn_29 (by decide) ?_
        refine g_lv [1, 2, 3, 0] rfl ?_
        exact ih x1 x2 v4 S hS hx1 hx2 hv4 h
      · rw [if_pos hc3] at h
        obtain ⟨v5, ev5, h⟩ := nmV_e h
        have hv5 : r32 v5 := by rw [ev5]; exact w32_r _
        refine g_iinc (n := 26) (lv' := [(2, vI v5), (0, .ref (ad 4)), (1, vI x1), (3, vI x3)]) C 2 dX6_linesIn_23 rfl (Nat.le_of_ble_eq_true rfl) ev5 rfl rfl ?_
        obtain ⟨v6, ev6, h⟩ := nmV_e h
        have hv6 : r32 v6 := by rw [ev6]; exact w32_r _
        refine g_iinc (n := 29) (lv' := [(3, vI v6), (2, vI v5), (0, .ref (ad 4)), (1, vI x1)]) C 3 dX6_linesIn_26 rfl (Nat.le_of_ble_eq_true rfl) ev6 rfl rfl ?_
        refine g_goto C 4 dX6_linesIn_29 (by decide) ?_
        refine g_lv [2, 3, 1, 0] rfl ?_
        exact ih x1 v5 v6 S hS hx1 hv5 hv6 h
def dn_X6_linesIn (a0 : Int) (S : St) : Option (St × Int) := dn_X6_linesIn_4 FU a0 0 0 S
set_option maxRecDepth 100000 in
set_option maxHeartbeats 4000000 in
theorem c_X6_linesIn {l : Launch} {D : va_G} {t : T5} {ad : Nat → Nat} {S S0 : St} {r0 : Int} {a0 : Int} (hS : RS S) (ha0 : r32 a0) (h : dn_X6_linesIn a0 S = some (S0, r0)) : Mc l (sX D t ad) yX6_linesIn wsX6_linesIn rm_X6_linesIn [.ref (ad 4), vI a0] acI S S0 r0 := by
  refine Mc_of (cc := cX6_linesIn) (nL := 4) (ret := (some .int)) (by decide +kernel) rfl (Nat.le_of_ble_eq_true rfl) (lv := [(0, .ref (ad 4)), (1, vI a0)]) rfl (fun x C _ => ?_)
  unfold dn_X6_linesIn at h
  show GW (sX D t ad) mi_X6_linesIn (acI, S0, r0) x S 0 [(0, .ref (ad 4)), (1, vI a0)] []
  refine g_iconst (n := 1) C dX6_linesIn_0 rfl ?_
  refine g_istore_n (n := 2) (lv' := [(2, vI 0), (0, .ref (ad 4)), (1, vI a0)]) C dX6_linesIn_1 (Nat.le_of_ble_eq_true rfl) rfl rfl rfl ?_
  refine g_iconst (n := 3) C dX6_linesIn_2 rfl ?_
  refine g_istore_n (n := 4) (lv' := [(3, vI 0), (2, vI 0), (0, .ref (ad 4)), (1, vI a0)]) C dX6_linesIn_3 (Nat.le_of_ble_eq_true rfl) rfl rfl rfl ?_
  refine g_lv [2, 3, 1, 0] rfl ?_
  exact u_X6_linesIn_4 C FU a0 0 0 S hS ha0 (by decide : r32 0) (by decide : r32 0) h
