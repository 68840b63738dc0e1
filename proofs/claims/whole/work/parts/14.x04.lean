-- RX6 linesThere
abbrev rm_X6_linesThere : Room := ({ frames := 1, cells := 0, slots := 0, locals := 23 } : Room)
abbrev mi_X6_linesThere : Mi := (cX6_linesThere, 1, RX6, wsX6_linesThere, rm_X6_linesThere, (some .int))
def dn_X6_linesThere (S : St) : Option (St × Int) := (cal (dn_X6_linesIn 0 S) fun S1 v2 => some (S1, w32 (12 - v2)))
set_option maxRecDepth 100000 in
set_option maxHeartbeats 4000000 in
theorem c_X6_linesThere {l : Launch} {D : va_G} {t : T5} {ad : Nat → Nat} {S S0 : St} {r0 : Int} (hS : RS S) (h : dn_X6_linesThere S = some (S0, r0)) : Mc l (sX D t ad) yX6_linesThere wsX6_linesThere rm_X6_linesThere [.ref (ad 4)] acI S S0 r0 := by
  refine Mc_of (cc := cX6_linesThere) (nL := 1) (ret := (some .int)) (by decide +kernel) rfl (Nat.le_of_ble_eq_true rfl) (lv := [(0, .ref (ad 4))]) rfl (fun x C _ => ?_)
  unfold dn_X6_linesThere at h
  show GW (sX D t ad) mi_X6_linesThere (acI, S0, r0) x S 0 [(0, .ref (ad 4))] []
  refine g_bipush (n := 2) C dX6_linesThere_0 (by decide +kernel) rfl ?_
  refine g_aload_n (n := 3) C 0 dX6_linesThere_2 rfl rfl ?_
  refine g_iconst (n := 4) C dX6_linesThere_3 rfl ?_
  obtain ⟨S1, v2, hq3, h⟩ := cal_e h
  refine g_callV (n := 7) (As := [vI 0]) (rest := [vI 12]) C 4 1 (Nat.le_of_ble_eq_true rfl) rfl rfl (c_X6_linesIn hS (by decide : r32 0) hq3) gX6_linesThere_X6_linesIn rfl ⟨rfl, rfl⟩ (by decide +kernel) ⟨Nat.le_of_ble_eq_true rfl, Nat.le_of_ble_eq_true rfl⟩ rfl rfl rfl (Nat.le_of_ble_eq_true rfl) dX6_linesThere_4 rfl (fun hS1 hv2 => ?_)
  show GW (sX D t ad) mi_X6_linesThere (acI, S0, r0) x S1 7 _ [vI v2, vI 12]
  refine g_isub (n := 8) C dX6_linesThere_7 rfl ?_
  exact g_iret C rfl h rfl (w32_r _) hS1 dX6_linesThere_8
-- RX6 closeRested
abbrev rm_X6_closeRested : Room := ({ frames := 3, cells := 0, slots := 0, locals := 68 } : Room)
abbrev mi_X6_closeRested : Mi := (cX6_closeRested, 4, RX6, wsX6_closeRested, rm_X6_closeRested, none)
set_option maxRecDepth 20000 in
theorem in_X6_closeRested_X3 : ∀ w ∈ u_ws RX3 TX3 6, w ∈ wsX6_closeRested := by decide +kernel
set_option maxRecDepth 20000 in
theorem in_X6_closeRested_X6 : ∀ w ∈ u_ws RX6 TX6 11, w ∈ wsX6_closeRested := by decide +kernel
def dn_X6_closeRested_16 : Nat → Int → Int → St → Option (St × Int)
  | 0, _, _, _ => none
  | n + 1, x1, x2, S => (if 12 ≤ x2 then some (S, 0) else (if x1 ≤ 0 then some (S, 0) else (if 0 ≤ x2 ∧ x2 < 12 then (if S (x2.toNat + 18) 1 = 2 then (cal (dn_X7_number 4 S) fun S13 v14 => (if w32 ((S 4 6) - (S (x2.toNat + 18) 5)) < v14 then (nmV (w32 (x2 + 1)) fun v17 => dn_X6_closeRested_16 n x1 v17 S13) else (cal (dn_X6_drop x2 S13) fun S18 v19 => (nmV (w32 (x1 + (-1))) fun v21 => (nmV (w32 (x2 + 1)) fun v22 => dn_X6_closeRested_16 n v21 v22 S18))))) else (nmV (w32 (x2 + 1)) fun v12 => dn_X6_closeRested_16 n x1 v12 S)) else none)))
set_option maxRecDepth 100000 in
set_option maxHeartbeats 4000000 in
theorem u_X6_closeRested_16 {D : va_G} {t : T5} {ad : Nat → Nat} {S0 : St} {r0 : Int} {x : Mx} (C : CX (sX D t ad) mi_X6_closeRested x) : ∀ (n : Nat) (x1 : Int) (x2 : Int) (S : St), RS S → (r32 x1) → (r32 x2) → dn_X6_closeRested_16 n x1 x2 S = some (S0, r0) → GW (sX D t ad) mi_X6_closeRested (acV, S0, r0) x S 16 [(0, .ref (ad 4)), (1, vI x1), (2, vI x2)] [] := by
  intro n
  induction n with
  | zero =>
    intro x1 x2 S hS hx1 hx2 h
    cases h
  | succ n ih =>
    intro x1 x2 S hS hx1 hx2 h
    rw [dn_X6_closeRested_16] at h
    refine g_iload_n (n := 17) C 2 dX6_closeRested_16 rfl rfl ?_
    refine g_bipush (n := 19) C dX6_closeRested_17 (by decide +kernel) rfl ?_
    refine g_icmp_ge (n := 22) C 75 hx2 (by decide : r32 12) dX6_closeRested_19 (by decide) rfl (fun (hc8 : 12 ≤ x2) => ?_) (fun (hc8 : ¬ (12 ≤ x2)) => ?_)
    · rw [if_pos hc8] at h
      exact g_vret C rfl h rfl trivial hS dX6_closeRested_75
    · rw [if_neg hc8] at h
      refine g_iload_n (n := 23) C 1 dX6_closeRested_22 rfl rfl ?_
      refine g_if_le (n := 26) C 75 hx1 dX6_closeRested_23 (by decide) rfl (fun (hc9 : x1 ≤ 0) => ?_) (fun (hc9 : ¬ (x1 ≤ 0)) => ?_)
      · rw [if_pos hc9] at h
        exact g_vret C rfl h rfl trivial hS dX6_closeRested_75
      · rw [if_neg hc9] at h
        refine g_aload_n (n := 27) C 0 dX6_closeRested_26 rfl rfl ?_
        refine g_getC (n := 30) C 4 1 rfl (Nat.le_of_ble_eq_true rfl) rfl rfl rfl (Nat.le_of_ble_eq_true rfl) in_X6_closeRested_X6 (by decide +kernel) dX6_closeRested_27 rfl ?_
        refine g_iload_n (n := 31) C 2 dX6_closeRested_30 rfl rfl ?_
        obtain ⟨hg10, h⟩ := gd_e h
        refine g_rald (n := 32) C 5 rfl (Nat.le_of_ble_eq_true rfl) rfl (Or.inr rfl) rfl hg10 hx2 dX6_closeRested_31 rfl ?_
        refine g_rstore_n (n := 33) (lv' := [(3, vR ad 18 x2), (0, .ref (ad 4)), (1, vI x1), (2, vI x2)]) C dX6_closeRested_32 (Nat.le_of_ble_eq_true rfl) rfl rfl ?_
        refine g_rload_n (n := 34) C 0 dX6_closeRested_33 rfl rfl ?_
        refine g_getI (n := 37) C (x2.toNat + 18) 1 (vR_pos hg10.1) (tn_add hg10 (Nat.le_of_ble_eq_true rfl)) (dX_line (tn_lt hg10 (Nat.le_refl _))) rfl rfl (Nat.le_of_ble_eq_true rfl) in_X6_closeRested_X3 (by decide +kernel) dX6_closeRested_34 rfl ?_
        refine g_iconst (n := 38) C dX6_closeRested_37 rfl ?_
        refine g_icmp_ne (n := 41) C 69 ((hS (x2.toNat + 18) 1).2 (by decide)) (by decide : r32 2) dX6_closeRested_38 (by decide) rfl (fun (hc11 : ¬ (S (x2.toNat + 18) 1 = 2)) => ?_) (fun (hc11 : S (x2.toNat + 18) 1 = 2) => ?_)
        · rw [if_neg hc11] at h
          obtain ⟨v12, ev12, h⟩ := nmV_e h
          have hv12 : r32 v12 := by rw [ev12]; exact w32_r _
          refine g_iinc (n := 72) (lv' := [(2, vI v12), (3, vR ad 18 x2), (0, .ref (ad 4)), (1, vI x1)]) C 3 dX6_closeRested_69 rfl (Nat.le_of_ble_eq_true rfl) ev12 rfl rfl ?_
          refine g_goto C 16 dX6_closeRested_72 (by decide) ?_
          refine g_lv [2, 3, 0] rfl ?_
          exact ih x1 v12 S hS hx1 hv12 h
        · rw [if_pos hc11] at h
          refine g_aload_n (n := 42) C 1 dX6_closeRested_41 rfl rfl ?_
          refine g_getI (n := 45) C 4 6 rfl (Nat.le_of_ble_eq_true rfl) rfl rfl rfl (Nat.le_of_ble_eq_true rfl) in_X6_closeRested_X6 (by decide +kernel) dX6_closeRested_42 rfl ?_
          refine g_rload_n (n := 46) C 0 dX6_closeRested_45 rfl rfl ?_
          refine g_getI (n := 49) C (x2.toNat + 18) 5 (vR_pos hg10.1) (tn_add hg10 (Nat.le_of_ble_eq_true rfl)) (dX_line (tn_lt hg10 (Nat.le_refl _))) rfl rfl (Nat.le_of_ble_eq_true rfl) in_X6_closeRested_X3 (by decide +kernel) dX6_closeRested_46 rfl ?_
          refine g_isub (n := 50) C dX6_closeRested_49 rfl ?_
          refine g_aload_n (n := 51) C 1 dX6_closeRested_50 rfl rfl ?_
          refine g_getC (n := 54) C 4 0 rfl (Nat.le_of_ble_eq_true rfl) rfl rfl rfl (Nat.le_of_ble_eq_true rfl) in_X6_closeRested_X6 (by decide +kernel) dX6_closeRested_51 rfl ?_
          refine g_iconst (n := 55) C dX6_closeRested_54 rfl ?_
          obtain ⟨S13, v14, hq15, h⟩ := cal_e h
          refine g_callV (n := 58) (As := [vI 4]) (rest := [vI (w32 ((S 4 6) - (S (x2.toNat + 18) 5)))]) C 1 1 (Nat.le_of_ble_eq_true rfl) rfl rfl (c_X7_number hS (by decide : r32 4) hq15) gX6_closeRested_X7_number rfl ⟨rfl, rfl⟩ (by decide +kernel) ⟨Nat.le_of_ble_eq_true rfl, Nat.le_of_ble_eq_true rfl⟩ rfl rfl rfl (Nat.le_of_ble_eq_true rfl) dX6_closeRested_55 rfl (fun hS13 hv14 => ?_)
          show GW (sX D t ad) mi_X6_closeRested (acV, S0, r0) x S13 58 _ [vI v14, vI (w32 ((S 4 6) - (S (x2.toNat + 18) 5)))]
          refine g_icmp_lt (n := 61) C 69 (w32_r _) hv14 dX6_closeRested_58 (by decide) rfl (fun (hc16 : w32 ((S 4 6) - (S (x2.toNat + 18) 5)) < v14) => ?_) (fun (hc16 : ¬ (w32 ((S 4 6) - (S (x2.toNat + 18) 5)) < v14)) => ?_)
          · rw [if_pos hc16] at h
            obtain ⟨v17, ev17, h⟩ := nmV_e h
            have hv17 : r32 v17 := by rw [ev17]; exact w32_r _
            refine g_iinc (n := 72) (lv' := [(2, vI v17), (3, vR ad 18 x2), (0, .ref (ad 4)), (1, vI x1)]) C 3 dX6_closeRested_69 rfl (Nat.le_of_ble_eq_true rfl) ev17 rfl rfl ?_
            refine g_goto C 16 dX6_closeRested_72 (by decide) ?_
            refine g_lv [2, 3, 0] rfl ?_
            exact ih x1 v17 S13 hS13 hx1 hv17 h
          · rw [if_neg hc16] at h
            refine g_aload_n (n := 62) C 1 dX6_closeRested_61 rfl rfl ?_
            refine g_rload_n (n := 63) C 0 dX6_closeRested_62 rfl rfl ?_
            obtain ⟨S18, v19, hq20, h⟩ := cal_e h
            refine g_callV (n := 66) (As := [vR ad 18 x2]) (rest := []) C 4 1 (Nat.le_of_ble_eq_true rfl) rfl rfl (c_X6_drop hS13 (ix_rg hg10) hq20) gX6_closeRested_X6_drop rfl ⟨rfl, rfl⟩ (by decide +kernel) ⟨Nat.le_of_ble_eq_true rfl, Nat.le_of_ble_eq_true rfl⟩ rfl rfl rfl (Nat.le_of_ble_eq_true rfl) dX6_closeRested_63 rfl (fun hS18 hv19 => ?_)
            show GW (sX D t ad) mi_X6_closeRested (acV, S0, r0) x S18 66 _ []
            obtain ⟨v21, ev21, h⟩ := nmV_e h
            have hv21 : r32 v21 := by rw [ev21]; exact w32_r _
            refine g_iinc (n := 69) (lv' := [(1, vI v21), (3, vR ad 18 x2), (0, .ref (ad 4)), (2, vI x2)]) C 2 dX6_closeRested_66 rfl (Nat.le_of_ble_eq_true rfl) ev21 rfl rfl ?_
            obtain ⟨v22, ev22, h⟩ := nmV_e h
            have hv22 : r32 v22 := by rw [ev22]; exact w32_r _
            refine g_iinc (n := 72) (lv' := [(2, vI v22), (1, vI v21), (3, vR ad 18 x2), (0, .ref (ad 4))]) C 3 dX6_closeRested_69 rfl (Nat.le_of_ble_eq_true rfl) ev22 rfl rfl ?_
            refine g_goto C 16 dX6_closeRested_72 (by decide) ?_
            refine g_lv [3, 1, 0] rfl ?_
            exact ih v21 v22 S18 hS18 hv21 hv22 h
def dn_X6_closeRested (S : St) : Option (St × Int) := (cal (dn_X6_linesThere S) fun S1 v2 => (cal (dn_X7_number 5 S1) fun S4 v5 => (nmV (w32 (v2 - v5)) fun v7 => dn_X6_closeRested_16 FU v7 0 S4)))
set_option maxRecDepth 100000 in
set_option maxHeartbeats 4000000 in
theorem c_X6_closeRested {l : Launch} {D : va_G} {t : T5} {ad : Nat → Nat} {S S0 : St} {r0 : Int} (hS : RS S) (h : dn_X6_closeRested S = some (S0, r0)) : Mc l (sX D t ad) yX6_closeRested wsX6_closeRested rm_X6_closeRested [.ref (ad 4)] acV S S0 r0 := by
  refine Mc_of (cc := cX6_closeRested) (nL := 4) (ret := none) (by decide +kernel) rfl (Nat.le_of_ble_eq_true rfl) (lv := [(0, .ref (ad 4))]) rfl (fun x C _ => ?_)
  unfold dn_X6_closeRested at h
  show GW (sX D t ad) mi_X6_closeRested (acV, S0, r0) x S 0 [(0, .ref (ad 4))] []
  refine g_aload_n (n := 1) C 0 dX6_closeRested_0 rfl rfl ?_
  obtain ⟨S1, v2, hq3, h⟩ := cal_e h
  refine g_callV (n := 4) (As := []) (rest := []) C 4 0 (Nat.le_of_ble_eq_true rfl) rfl rfl (c_X6_linesThere hS hq3) gX6_closeRested_X6_linesThere rfl ⟨rfl, rfl⟩ (by decide +kernel) ⟨Nat.le_of_ble_eq_true rfl, Nat.le_of_ble_eq_true rfl⟩ rfl rfl rfl (Nat.le_of_ble_eq_true rfl) dX6_closeRested_1 rfl (fun hS1 hv2 => ?_)
  show GW (sX D t ad) mi_X6_closeRested (acV, S0, r0) x S1 4 _ [vI v2]
  refine g_aload_n (n := 5) C 0 dX6_closeRested_4 rfl rfl ?_
  refine g_getC (n := 8) C 4 0 rfl (Nat.le_of_ble_eq_true rfl) rfl rfl rfl (Nat.le_of_ble_eq_true rfl) in_X6_closeRested_X6 (by decide +kernel) dX6_closeRested_5 rfl ?_
  refine g_iconst (n := 9) C dX6_closeRested_8 rfl ?_
  obtain ⟨S4, v5, hq6, h⟩ := cal_e h
  refine g_callV (n := 12) (As := [vI 5]) (rest := [vI v2]) C 1 1 (Nat.le_of_ble_eq_true rfl) rfl rfl (c_X7_number hS1 (by decide : r32 5) hq6) gX6_closeRested_X7_number rfl ⟨rfl, rfl⟩ (by decide +kernel) ⟨Nat.le_of_ble_eq_true rfl, Nat.le_of_ble_eq_true rfl⟩ rfl rfl rfl (Nat.le_of_ble_eq_true rfl) dX6_closeRested_9 rfl (fun hS4 hv5 => ?_)
  show GW (sX D t ad) mi_X6_closeRested (acV, S0, r0) x S4 12 _ [vI v5, vI v2]
  refine g_isub (n := 13) C dX6_closeRested_12 rfl ?_
  obtain ⟨v7, ev7, h⟩ := nmV_e h
  have hv7 : r32 v7 := by rw [ev7]; exact (w32_r _)
  refine g_istore_n (n := 14) (lv' := [(1, vI v7), (0, .ref (ad 4))]) C dX6_closeRested_13 (Nat.le_of_ble_eq_true rfl) ev7 rfl rfl ?_
  refine g_iconst (n := 15) C dX6_closeRested_14 rfl ?_
  refine g_istore_n (n := 16) (lv' := [(2, vI 0), (1, vI v7), (0, .ref (ad 4))]) C dX6_closeRested_15 (Nat.le_of_ble_eq_true rfl) rfl rfl rfl ?_
  refine g_lv [2, 1, 0] rfl ?_
  exact u_X6_closeRested_16 C FU v7 0 S4 hS4 hv7 (by decide : r32 0) h
-- RX6 closeSurplus
abbrev rm_X6_closeSurplus : Room := ({ frames := 3, cells := 0, slots := 0, locals := 68 } : Room)
abbrev mi_X6_closeSurplus : Mi := (cX6_closeSurplus, 3, RX6, wsX6_closeSurplus, rm_X6_closeSurplus, none)
set_option maxRecDepth 20000 in
theorem in_X6_closeSurplus_X3 : ∀ w ∈ u_ws RX3 TX3 6, w ∈ wsX6_closeSurplus := by decide +kernel
set_option maxRecDepth 20000 in
theorem in_X6_closeSurplus_X6 : ∀ w ∈ u_ws RX6 TX6 11, w ∈ wsX6_closeSurplus := by decide +kernel
def dn_X6_closeSurplus_17 : Nat → Int → Int → St → Option (St × Int)
  | 0, _, _, _ => none
  | n + 1, x1, x2, S => (if x2 < 0 then some (S, 0) else (if x1 ≤ 0 then some (S, 0) else (if 0 ≤ x2 ∧ x2 < 12 then (if S (x2.toNat + 18) 1 = 2 then (cal (dn_X6_drop x2 S) fun S13 v14 => (nmV (w32 (x1 + (-1))) fun v16 => (nmV (w32 (x2 + (-1))) fun v17 => dn_X6_closeSurplus_17 n v16 v17 S13))) else (nmV (w32 (x2 + (-1))) fun v12 => dn_X6_closeSurplus_17 n x1 v12 S)) else none)))
set_option maxRecDepth 100000 in
set_option maxHeartbeats 4000000 in
theorem u_X6_closeSurplus_17 {D : va_G} {t : T5} {ad : Nat → Nat} {S0 : St} {r0 : Int} {x : Mx} (C : CX (sX D t ad) mi_X6_closeSurplus x) : ∀ (n : Nat) (x1 : Int) (x2 : Int) (S : St), RS S → (r32 x1) → (r32 x2) → dn_X6_closeSurplus_17 n x1 x2 S = some (S0, r0) → GW (sX D t ad) mi_X6_closeSurplus (acV, S0, r0) x S 17 [(0, .ref (ad 4)), (1, vI x1), (2, vI x2)] [] := by
  intro n
  induction n with
  | zero =>
    intro x1 x2 S hS hx1 hx2 h
    cases h
  | succ n ih =>
    intro x1 x2 S hS hx1 hx2 h
    rw [dn_X6_closeSurplus_17] at h
    refine g_iload_n (n := 18) C 2 dX6_closeSurplus_17 rfl rfl ?_
    refine g_if_lt (n := 21) C 57 hx2 dX6_closeSurplus_18 (by decide) rfl (fun (hc8 : x2 < 0) => ?_) (fun (hc8 : ¬ (x2 < 0)) => ?_)
    · rw [if_pos hc8] at h
      exact g_vret C rfl h rfl trivial hS dX6_closeSurplus_57
    · rw [if_neg hc8] at h
      refine g_iload_n (n := 22) C 1 dX6_closeSurplus_21 rfl rfl ?_
      refine g_if_le (n := 25) C 57 hx1 dX6_closeSurplus_22 (by decide) rfl (fun (hc9 : x1 ≤ 0) => ?_) (fun (hc9 : ¬ (x1 ≤ 0)) => ?_)
      · rw [if_pos hc9] at h
        exact g_vret C rfl h rfl trivial hS dX6_closeSurplus_57
      · rw [if_neg hc9] at h
        refine g_aload_n (n := 26) C 0 dX6_closeSurplus_25 rfl rfl ?_
        refine g_getC (n := 29) C 4 1 rfl (Nat.le_of_ble_eq_true rfl) rfl rfl rfl (Nat.le_of_ble_eq_true rfl) in_X6_closeSurplus_X6 (by decide +kernel) dX6_closeSurplus_26 rfl ?_
        refine g_iload_n (n := 30) C 2 dX6_closeSurplus_29 rfl rfl ?_
        obtain ⟨hg10, h⟩ := gd_e h
        refine g_rald (n := 31) C 5 rfl (Nat.le_of_ble_eq_true rfl) rfl (Or.inr rfl) rfl hg10 hx2 dX6_closeSurplus_30 rfl ?_
        refine g_getI (n := 34) C (x2.toNat + 18) 1 (vR_pos hg10.1) (tn_add hg10 (Nat.le_of_ble_eq_true rfl)) (dX_line (tn_lt hg10 (Nat.le_refl _))) rfl rfl (Nat.le_of_ble_eq_true rfl) in_X6_closeSurplus_X3 (by decide +kernel) dX6_closeSurplus_31 rfl ?_
        refine g_iconst (n := 35) C dX6_closeSurplus_34 rfl ?_
        refine g_icmp_ne (n := 38) C 51 ((hS (x2.toNat + 18) 1).2 (by decide)) (by decide : r32 2) dX6_closeSurplus_35 (by decide) rfl (fun (hc11 : ¬ (S (x2.toNat + 18) 1 = 2)) => ?_) (fun (hc11 : S (x2.toNat + 18) 1 = 2) => ?_)
        · rw [if_neg hc11] at h
          obtain ⟨v12, ev12, h⟩ := nmV_e h
          have hv12 : r32 v12 := by rw [ev12]; exact w32_r _
          refine g_iinc (n := 54) (lv' := [(2, vI v12), (0, .ref (ad 4)), (1, vI x1)]) C 2 dX6_closeSurplus_51 rfl (Nat.le_of_ble_eq_true rfl) ev12 rfl rfl ?_
          refine g_goto C 17 dX6_closeSurplus_54 (by decide) ?_
          refine g_lv [1, 2, 0] rfl ?_
          exact ih x1 v12 S hS hx1 hv12 h
        · rw [if_pos hc11] at h
          refine g_aload_n (n := 39) C 0 dX6_closeSurplus_38 rfl rfl ?_
          refine g_aload_n (n := 40) C 0 dX6_closeSurplus_39 rfl rfl ?_
          refine g_getC (n := 43) C 4 1 rfl (Nat.le_of_ble_eq_true rfl) rfl rfl rfl (Nat.le_of_ble_eq_true rfl) in_X6_closeSurplus_X6 (by decide +kernel) dX6_closeSurplus_40 rfl ?_
          refine g_iload_n (n := 44) C 2 dX6_closeSurplus_43 rfl rfl ?_
          refine g_rald (n := 45) C 5 rfl (Nat.le_of_ble_eq_true rfl) rfl (Or.inr rfl) rfl hg10 hx2 dX6_closeSurplus_44 rfl ?_
          obtain ⟨S13, v14, hq15, h⟩ := cal_e h
          refine g_callV (n := 48) (As := [vR ad 18 x2]) (rest := []) C 4 1 (Nat.le_of_ble_eq_true rfl) rfl rfl (c_X6_drop hS (ix_rg hg10) hq15) gX6_closeSurplus_X6_drop rfl ⟨rfl, rfl⟩ (by decide +kernel) ⟨Nat.le_of_ble_eq_true rfl, Nat.le_of_ble_eq_true rfl⟩ rfl rfl rfl (Nat.le_of_ble_eq_true rfl) dX6_closeSurplus_45 rfl (fun hS13 hv14 => ?_)
          show GW (sX D t ad) mi_X6_closeSurplus (acV, S0, r0) x S13 48 _ []
          obtain ⟨v16, ev16, h⟩ := nmV_e h
          have hv16 : r32 v16 := by rw [ev16]; exact w32_r _
          refine g_iinc (n := 51) (lv' := [(1, vI v16), (0, .ref (ad 4)), (2, vI x2)]) C 1 dX6_closeSurplus_48 rfl (Nat.le_of_ble_eq_true rfl) ev16 rfl rfl ?_
          obtain ⟨v17, ev17, h⟩ := nmV_e h
          have hv17 : r32 v17 := by rw [ev17]; exact w32_r _
          refine g_iinc (n := 54) (lv' := [(2, vI v17), (1, vI v16), (0, .ref (ad 4))]) C 2 dX6_closeSurplus_51 rfl (Nat.le_of_ble_eq_true rfl) ev17 rfl rfl ?_
          refine g_goto C 17 dX6_closeSurplus_54 (by decide) ?_
          refine g_lv [2, 1, 0] rfl ?_
          exact ih v16 v17 S13 hS13 hv16 hv17 h
def dn_X6_closeSurplus (S : St) : Option (St × Int) := (cal (dn_X6_linesThere S) fun S1 v2 => (cal (dn_X7_number 0 S1) fun S4 v5 => (nmV (w32 (v2 - v5)) fun v7 => dn_X6_closeSurplus_17 FU v7 11 S4)))
set_option maxRecDepth 100000 in
set_option maxHeartbeats 4000000 in
theorem c_X6_closeSurplus {l : Launch} {D : va_G} {t : T5} {ad : Nat → Nat} {S S0 : St} {r0 : Int} (hS : RS S) (h : dn_X6_closeSurplus S = some (S0, r0)) : Mc l (sX D t ad) yX6_closeSurplus wsX6_closeSurplus rm_X6_closeSurplus [.ref (ad 4)] acV S S0 r0 := by
  refine Mc_of (cc := cX6_closeSurplus) (nL := 3) (ret := none) (by decide +kernel) rfl (Nat.le_of_ble_eq_true rfl) (lv := [(0, .ref (ad 4))]) rfl (fun x C _ => ?_)
  unfold dn_X6_closeSurplus at h
  show GW (sX D t ad) mi_X6_closeSurplus (acV, S0, r0) x S 0 [(0, .ref (ad 4))] []
  refine g_aload_n (n := 1) C 0 dX6_closeSurplus_0 rfl rfl ?_
  obtain ⟨S1, v2, hq3, h⟩ := cal_e h
  refine g_callV (n := 4) (As := []) (rest := []) C 4 0 (Nat.le_of_ble_eq_true rfl) rfl rfl (c_X6_linesThere hS hq3) gX6_closeSurplus_X6_linesThere rfl ⟨rfl, rfl⟩ (by decide +kernel) ⟨Nat.le_of_ble_eq_true rfl, Nat.le_of_ble_eq_true rfl⟩ rfl rfl rfl (Nat.le_of_ble_eq_true rfl) dX6_closeSurplus_1 rfl (fun hS1 hv2 => ?_)
  show GW (sX D t ad) mi_X6_closeSurplus (acV, S0, r0) x S1 4 _ [vI v2]
  refine g_aload_n (n := 5) C 0 dX6_closeSurplus_4 rfl rfl ?_
  refine g_getC (n := 8) C 4 0 rfl (Nat.le_of_ble_eq_true rfl) rfl rfl rfl (Nat.le_of_ble_eq_true rfl) in_X6_closeSurplus_X6 (by decide +kernel) dX6_closeSurplus_5 rfl ?_
  refine g_iconst (n := 9) C dX6_closeSurplus_8 rfl ?_
  obtain ⟨S4, v5, hq6, h⟩ := cal_e h
  refine g_callV (n := 12) (As := [vI 0]) (rest := [vI v2]) C 1 1 (Nat.le_of_ble_eq_true rfl) rfl rfl (c_X7_number hS1 (by decide : r32 0) hq6) gX6_closeSurplus_X7_number rfl ⟨rfl, rfl⟩ (by decide +kernel) ⟨Nat.le_of_ble_eq_true rfl, Nat.le_of_ble_eq_true rfl⟩ rfl rfl rfl (Nat.le_of_ble_eq_true rfl) dX6_closeSurplus_9 rfl (fun hS4 hv5 => ?_)
  show GW (sX D t ad) mi_X6_closeSurplus (acV, S0, r0) x S4 12 _ [vI v5, vI v2]
  refine g_isub (n := 13) C dX6_closeSurplus_12 rfl ?_
  obtain ⟨v7, ev7, h⟩ := nmV_e h
  have hv7 : r32 v7 := by rw [ev7]; exact (w32_r _)
  refine g_istore_n (n := 14) (lv' := [(1, vI v7), (0, .ref (ad 4))]) C dX6_closeSurplus_13 (Nat.le_of_ble_eq_true rfl) ev7 rfl rfl ?_
  refine g_bipush (n := 16) C dX6_closeSurplus_14 (by decide +kernel) rfl ?_
  refine g_istore_n (n := 17) (lv' := [(2, vI 11), (1, vI v7), (0, .ref (ad 4))]) C dX6_closeSurplus_16 (Nat.le_of_ble_eq_true rfl) rfl rfl rfl ?_
  refine g_lv [2, 1, 0] rfl ?_
  exact u_X6_closeSurplus_17 C FU v7 11 S4 hS4 hv7 (by decide : r32 11) h
-- RX6 openLine
abbrev rm_X6_openLine : Room := ({ frames := 2, cells := 0, slots := 0, locals := 47 } : Room)
abbrev mi_X6_openLine : Mi := (cX6_openLine, 3, RX6, wsX6_openLine, rm_X6_openLine, none)
set_option maxRecDepth 20000 in
theorem in_X6_openLine_X3 : ∀ w ∈ u_ws RX3 TX3 6, w ∈ wsX6_openLine := by decide +kernel
set_option maxRecDepth 20000 in
theorem in_X6_openLine_X6 : ∀ w ∈ u_ws RX6 TX6 11, w ∈ wsX6_openLine := by decide +kernel
def dn_X6_openLine (a0 : Int) (S : St) : Option (St × Int) := (cal (dn_X7_number 1 S) fun S1 v2 => (if 0 ≤ a0 ∧ a0 < 12 then (cal (dn_X4_add 6 (S1 4 6) (-1) (a0.toNat : Int) S1) fun S5 v6 => (if v2 ≤ 0 then (cal (dn_X3_idleFrom a0 (S5 4 6) S5) fun S9 v10 => some (S9, 0)) else (cal (dn_X3_openFor a0 v2 S5) fun S12 v13 => some (S12, 0)))) else none))
set_option maxRecDepth 100000 in
set_option maxHeartbeats 4000000 in
theorem c_X6_openLine {l : Launch} {D : va_G} {t : T5} {ad : Nat → Nat} {S S0 : St} {r0 : Int} {a0 : Int} (hS : RS S) (ha0 : -1 ≤ a0 ∧ a0 < (12 : Nat)) (h : dn_X6_openLine a0 S = some (S0, r0)) : Mc l (sX D t ad) yX6_openLine wsX6_openLine rm_X6_openLine [.ref (ad 4), vR ad 18 a0] acV S S0 r0 := by
  refine Mc_of (cc := cX6_openLine) (nL := 3) (ret := none) (by decide +kernel) rfl (by simp [lg_sl, vR_cat, vI_cat, vJ_cat, rf_cat]) (lv := [(0, .ref (ad 4)), (1, vR ad 18 a0)]) (by simp [lv_args, vR_cat, vI_cat, vJ_cat, rf_cat]) (fun x C _ => ?_)
  unfold dn_X6_openLine at h
  show GW (sX D t ad) mi_X6_openLine (acV, S0, r0) x S 0 [(0, .ref (ad 4)), (1, vR ad 18 a0)] []
  refine g_aload_n (n := 1) C 0 dX6_openLine_0 rfl rfl ?_
  refine g_getC (n := 4) C 4 0 rfl (Nat.le_of_ble_eq_true rfl) rfl rfl rfl (Nat.le_of_ble_eq_true rfl) in_X6_openLine_X6 (by decide +kernel) dX6_openLine_1 rfl ?_
  refine g_iconst (n := 5) C dX6_openLine_4 rfl ?_
  obtain ⟨S1, v2, hq3, h⟩ := cal_e h
  refine g_callV (n := 8) (As := [vI 1]) (rest := []) C 1 1 (Nat.le_of_ble_eq_true rfl) rfl rfl (c_X7_number hS (by decide : r32 1) hq3) gX6_openLine_X7_number rfl ⟨rfl, rfl⟩ (by decide +kernel) ⟨Nat.le_of_ble_eq_true rfl, Nat.le_of_ble_eq_true rfl⟩ rfl rfl rfl (Nat.le_of_ble_eq_true rfl) dX6_openLine_5 rfl (fun hS1 hv2 => ?_)
  show GW (sX D t ad) mi_X6_openLine (acV, S0, r0) x S1 8 _ [vI v2]
  refine g_istore_n (n := 9) (lv' := [(2, vI v2), (0, .ref (ad 4)), (1, vR ad 18 a0)]) C dX6_openLine_8 (Nat.le_of_ble_eq_true rfl) rfl (by simp [vR_cat, vI_cat, vJ_cat, rf_cat] <;> decide) rfl ?_
  refine g_aload_n (n := 10) C 1 dX6_openLine_9 rfl rfl ?_
  refine g_getC (n := 13) C 4 4 rfl (Nat.le_of_ble_eq_true rfl) rfl rfl rfl (Nat.le_of_ble_eq_true rfl) in_X6_openLine_X6 (by decide +kernel) dX6_openLine_10 rfl ?_
  refine g_bipush (n := 15) C dX6_openLine_13 (by decide +kernel) rfl ?_
  refine g_aload_n (n := 16) C 1 dX6_openLine_15 rfl rfl ?_
  refine g_getI (n := 19) C 4 6 rfl (Nat.le_of_ble_eq_true rfl) rfl rfl rfl (Nat.le_of_ble_eq_true rfl) in_X6_openLine_X6 (by decide +kernel) dX6_openLine_16 rfl ?_
  refine g_iconst (n := 20) C dX6_openLine_19 rfl ?_
  refine g_rload_n (n := 21) C 2 dX6_openLine_20 rfl rfl ?_
  obtain ⟨hg4, h⟩ := gd_e h
  refine g_getN (n := 24) C (a0.toNat + 18) 0 (vR_pos hg4.1) (tn_add hg4 (Nat.le_of_ble_eq_true rfl)) (dX_line (tn_lt hg4 (Nat.le_refl _))) rfl rfl (Nat.le_of_ble_eq_true rfl) in_X6_openLine_X3 (by decide +kernel) dX6_openLine_21 rfl ?_
  obtain ⟨S5, v6, hq7, h⟩ := cal_e h
  refine g_callV (n := 27) (As := [vI 6, vI (S1 4 6), vI (-1), vI (a0.toNat : Int)]) (rest := []) C 10 4 (Nat.le_of_ble_eq_true rfl) rfl rfl (c_X4_add hS1 (by decide : r32 6) ((hS1 4 6).2 (by decide)) (by decide : r32 (-1)) (tn_r32 hg4 (by decide)) hq7) gX6_openLine_X4_add rfl ⟨rfl, rfl⟩ (by decide +kernel) ⟨Nat.le_of_ble_eq_true rfl, Nat.le_of_ble_eq_true rfl⟩ rfl rfl rfl (Nat.le_of_ble_eq_true rfl) dX6_openLine_24 rfl (fun hS5 hv6 => ?_)
  show GW (sX D t ad) mi_X6_openLine (acV, S0, r0) x S5 27 _ []
  refine g_iload_n (n := 28) C 0 dX6_openLine_27 rfl rfl ?_
  refine g_if_le (n := 31) C 39 hv2 dX6_openLine_28 (by decide) rfl (fun (hc8 : v2 ≤ 0) => ?_) (fun (hc8 : ¬ (v2 ≤ 0)) => ?_)
  · rw [if_pos hc8] at h
    refine g_rload_n (n := 40) C 2 dX6_openLine_39 rfl rfl ?_
    refine g_aload_n (n := 41) C 1 dX6_openLine_40 rfl rfl ?_
    refine g_getI (n := 44) C 4 6 rfl (Nat.le_of_ble_eq_true rfl) rfl rfl rfl (Nat.le_of_ble_eq_true rfl) in_X6_openLine_X6 (by decide +kernel) dX6_openLine_41 rfl ?_
    obtain ⟨S9, v10, hq11, h⟩ := cal_e h
    refine g_callV (n := 47) (As := [vI (S5 4 6)]) (rest := []) C (a0.toNat + 18) 1 (tn_add hg4 (Nat.le_of_ble_eq_true rfl)) (dX_line (tn_lt hg4 (Nat.le_refl _))) rfl (c_X3_idleFrom hS5 hg4 ((hS5 4 6).2 (by decide)) hq11) gX6_openLine_X3_idleFrom rfl ⟨rfl, rfl⟩ (by decide +kernel) ⟨Nat.le_of_ble_eq_true rfl, Nat.le_of_ble_eq_true rfl⟩ (vR_pos hg4.1) rfl rfl (Nat.le_of_ble_eq_true rfl) dX6_openLine_44 rfl (fun hS9 hv10 => ?_)
    show GW (sX D t ad) mi_X6_openLine (acV, S0, r0) x S9 47 _ []
    exact g_vret C rfl h rfl trivial hS9 dX6_openLine_47
  · rw [if_neg hc8] at h
    refine g_rload_n (n := 32) C 2 dX6_openLine_31 rfl rfl ?_
    refine g_iload_n (n := 33) C 0 dX6_openLine_32 rfl rfl ?_
    obtain ⟨S12, v13, hq14, h⟩ := cal_e h
    refine g_callV (n := 36) (As := [vI v2]) (rest := []) C (a0.toNat + 18) 1 (tn_add hg4 (Nat.le_of_ble_eq_true rfl)) (dX_line (tn_lt hg4 (Nat.le_refl _))) rfl (c_X3_openFor hS5 hg4 hv2 hq14) gX6_openLine_X3_openFor rfl ⟨rfl, rfl⟩ (by decide +kernel) ⟨Nat.le_of_ble_eq_true rfl, Nat.le_of_ble_eq_true rfl⟩ (vR_pos hg4.1) rfl rfl (Nat.le_of_ble_eq_true rfl) dX6_openLine_33 rfl (fun hS12 hv13 => ?_)
    show GW (sX D t ad) mi_X6_openLine (acV, S0, r0) x S12 36 _ []
    refine g_goto C 47 dX6_openLine_36 (by decide) ?_
    exact g_vret C rfl h rfl trivial hS12 dX6_openLine_47
-- RX6 openWanted
abbrev rm_X6_openWanted : Room := ({ frames := 3, cells := 0, slots := 0, locals := 69 } : Room)
abbrev mi_X6_openWanted : Mi := (cX6_openWanted, 5, RX6, wsX6_openWanted, rm_X6_openWanted, none)
set_option maxRecDepth 20000 in
theorem in_X6_openWanted_X3 : ∀ w ∈ u_ws RX3 TX3 6, w ∈ wsX6_openWanted := by decide +kernel
set_option maxRecDepth 20000 in
theorem in_X6_openWanted_X6 : ∀ w ∈ u_ws RX6 TX6 11, w ∈ wsX6_openWanted := by decide +kernel
def dn_X6_openWanted_52 : Nat → Int → Int → Int → Int → St → Option (St × Int)
  | 0, _, _, _, _, _ => none
  | n + 1, x1, x2, x3, x4, S => (if 12 ≤ x4 then some (S, 0) else (if x3 ≤ 0 then some (S, 0) else (if 0 ≤ x4 ∧ x4 < 12 then (if S (x4.toNat + 18) 1 = 0 then (cal (dn_X6_openLine x4 S) fun S27 v28 => (nmV (w32 (x3 + (-1))) fun v30 => (nmV (w32 (x4 + 1)) fun v31 => dn_X6_openWanted_52 n x1 x2 v30 v31 S27))) else (nmV (w32 (x4 + 1)) fun v26 => dn_X6_openWanted_52 n x1 x2 x3 v26 S)) else none)))
set_option maxRecDepth 100000 in
set_option maxHeartbeats 4000000 in
theorem u_X6_openWanted_52 {D : va_G} {t : T5} {ad : Nat → Nat} {S0 : St} {r0 : Int} {x : Mx} (C : CX (sX D t ad) mi_X6_openWanted x) : ∀ (n : Nat) (x1 : Int) (x2 : Int) (x3 : Int) (x4 : Int) (S : St), RS S → (r32 x1) → (r32 x2) → (r32 x3) → (r32 x4) → dn_X6_openWanted_52 n x1 x2 x3 x4 S = some (S0, r0) → GW (sX D t ad) mi_X6_openWanted (acV, S0, r0) x S 52 [(0, .ref (ad 4)), (1, vI x1), (2, vI x2), (3, vI x3), (4, vI x4)] [] := by
  intro n
  induction n with
  | zero =>
    intro x1 x2 x3 x4 S hS hx1 hx2 hx3 hx4 h
    cases h
  | succ n ih =>
    intro x1 x2 x3 x4 S hS hx1 hx2 hx3 hx4 h
    rw [dn_X6_openWanted_52] at h
    refine g_iload (n := 54) C 4 dX6_openWanted_52 rfl rfl ?_
    refine g_bipush (n := 56) C dX6_openWanted_54 (by decide +kernel) rfl ?_
    refine g_icmp_ge (n := 59) C 96 hx4 (by decide : r32 12) dX6_openWanted_56 (by decide) rfl (fun (hc22 : 12 ≤ x4) => ?_) (fun (hc22 : ¬ (12 ≤ x4)) => ?_)
    · rw [if_pos hc22] at h
      exact g_vret C rfl h rfl trivial hS dX6_openWanted_96
    · rw [if_neg hc22] at h
      refine g_iload_n (n := 60) C 3 dX6_openWanted_59 rfl rfl ?_
      refine g_if_le (n := 63) C 96 hx3 dX6_openWanted_60 (by decide) rfl (fun (hc23 : x3 ≤ 0) => ?_) (fun (hc23 : ¬ (x3 ≤ 0)) => ?_)
      · rw [if_pos hc23] at h
        exact g_vret C rfl h rfl trivial hS dX6_openWanted_96
      · rw [if_neg hc23] at h
        refine g_aload_n (n := 64) C 0 dX6_openWanted_63 rfl rfl ?_
        refine g_getC (n := 67) C 4 1 rfl (Nat.le_of_ble_eq_true rfl) rfl rfl rfl (Nat.le_of_ble_eq_true rfl) in_X6_openWanted_X6 (by decide +kernel) dX6_openWanted_64 rfl ?_
        refine g_iload (n := 69) C 4 dX6_openWanted_67 rfl rfl ?_
        obtain ⟨hg24, h⟩ := gd_e h
        refine g_rald (n := 70) C 5 rfl (Nat.le_of_ble_eq_true rfl) rfl (Or.inr rfl) rfl hg24 hx4 dX6_openWanted_69 rfl ?_
        refine g_getI (n := 73) C (x4.toNat + 18) 1 (vR_pos hg24.1) (tn_add hg24 (Nat.le_of_ble_eq_true rfl)) (dX_line (tn_lt hg24 (Nat.le_refl _))) rfl rfl (Nat.le_of_ble_eq_true rfl) in_X6_openWanted_X3 (by decide +kernel) dX6_openWanted_70 rfl ?_
        refine g_if_ne (n := 76) C 90 ((hS (x4.toNat + 18) 1).2 (by decide)) dX6_openWanted_73 (by decide) rfl (fun (hc25 : ¬ (S (x4.toNat + 18) 1 = 0)) => ?_) (fun (hc25 : S (x4.toNat + 18) 1 = 0) => ?_)
        · rw [if_neg hc25] at h
          obtain ⟨v26, ev26, h⟩ := nmV_e h
          have hv26 : r32 v26 := by rw [ev26]; exact w32_r _
          refine g_iinc (n := 93) (lv' := [(4, vI v26), (0, .ref (ad 4)), (1, vI x1), (2, vI x2), (3, vI x3)]) C 4 dX6_openWanted_90 rfl (Nat.le_of_ble_eq_true rfl) ev26 rfl rfl ?_
          refine g_goto C 52 dX6_openWanted_93 (by decide) ?_
          refine g_lv [1, 2, 3, 4, 0] rfl ?_
          exact ih x1 x2 x3 v26 S hS hx1 hx2 hx3 hv26 h
        · rw [if_pos hc25] at h
          refine g_aload_n (n := 77) C 0 dX6_openWanted_76 rfl rfl ?_
          refine g_aload_n (n := 78) C 0 dX6_openWanted_77 rfl rfl ?_
          refine g_getC (n := 81) C 4 1 rfl (Nat.le_of_ble_eq_true rfl) rfl rfl rfl (Nat.le_of_ble_eq_true rfl) in_X6_openWanted_X6 (by decide +kernel) dX6_openWanted_78 rfl ?_
          refine g_iload (n := 83) C 4 dX6_openWanted_81 rfl rfl ?_
          refine g_rald (n := 84) C 5 rfl (Nat.le_of_ble_eq_true rfl) rfl (Or.inr rfl) rfl hg24 hx4 dX6_openWanted_83 rfl ?_
          obtain ⟨S27, v28, hq29, h⟩ := cal_e h
          refine g_callV (n := 87) (As := [vR ad 18 x4]) (rest := []) C 4 1 (Nat.le_of_ble_eq_true rfl) rfl rfl (c_X6_openLine hS (ix_rg hg24) hq29) gX6_openWanted_X6_openLine rfl ⟨rfl, rfl⟩ (by decide +kernel) ⟨Nat.le_of_ble_eq_true rfl, Nat.le_of_ble_eq_true rfl⟩ rfl rfl rfl (Nat.le_of_ble_eq_true rfl) dX6_openWanted_84 rfl (fun hS27 hv28 => ?_)
          show GW (sX D t ad) mi_X6_openWanted (acV, S0, r0) x S27 87 _ []
          obtain ⟨v30, ev30, h⟩ := nmV_e h
          have hv30 : r32 v30 := by rw [ev30]; exact w32_r _
          refine g_iinc (n := 90) (lv' := [(3, vI v30), (0, .ref (ad 4)), (1, vI x1), (2, vI x2), (4, vI x4)]) C 3 dX6_openWanted_87 rfl (Nat.le_of_ble_eq_true rfl) ev30 rfl rfl ?_
          obtain ⟨v31, ev31, h⟩ := nmV_e h
          have hv31 : r32 v31 := by rw [ev31]; exact w32_r _
          refine g_iinc (n := 93) (lv' := [(4, vI v31), (3, vI v30), (0, .ref (ad 4)), (1, vI x1), (2, vI x2)]) C 4 dX6_openWanted_90 rfl (Nat.le_of_ble_eq_true rfl) ev31 rfl rfl ?_
          refine g_goto C 52 dX6_openWanted_93 (by decide) ?_
          refine g_lv [2, 3, 4, 1, 0] rfl ?_
          exact ih x1 x2 v30 v31 S27 hS27 hx1 hx2 hv30 hv31 h
def dn_X6_openWanted (S : St) : Option (St × Int) := (cal (dn_X6_linesIn 4 S) fun S1 v2 => (cal (dn_X6_linesIn 3 S1) fun S4 v5 => (cal (dn_X6_callersIn 1 S4) fun S7 v8 => (nmV (w32 ((w32 (v2 + v5)) + v8)) fun v10 => (cal (dn_X7_number 0 S7) fun S11 v12 => (cal (dn_X7_number 5 S11) fun S14 v15 => (nmV (mnI v12 (mxI v15 v10)) fun v17 => (cal (dn_X6_linesThere S14) fun S18 v19 => (nmV (w32 (v17 - v19)) fun v21 => dn_X6_openWanted_52 FU v10 v17 v21 0 S18)))))))))
set_option maxRecDepth 100000 in
set_option maxHeartbeats 4000000 in
theorem c_X6_openWanted {l : Launch} {D : va_G} {t : T5} {ad : Nat → Nat} {S S0 : St} {r0 : Int} (hS : RS S) (h : dn_X6_openWanted S = some (S0, r0)) : Mc l (sX D t ad) yX6_openWanted wsX6_openWanted rm_X6_openWanted [.ref (ad 4)] acV S S0 r0 := by
  refine Mc_of (cc := cX6_openWanted) (nL := 5) (ret := none) (by decide +kernel) rfl (Nat.le_of_ble_eq_true rfl) (lv := [(0, .ref (ad 4))]) rfl (fun x C _ => ?_)
  unfold dn_X6_openWanted at h
  show GW (sX D t ad) mi_X6_openWanted (acV, S0, r0) x S 0 [(0, .ref (ad 4))] []
  refine g_aload_n (n := 1) C 0 dX6_openWanted_0 rfl rfl ?_
  refine g_iconst (n := 2) C dX6_openWanted_1 rfl ?_
  obtain ⟨S1, v2, hq3, h⟩ := cal_e h
  refine g_callV (n := 5) (As := [vI 4]) (rest := []) C 4 1 (Nat.le_of_ble_eq_true rfl) rfl rfl (c_X6_linesIn hS (by decide : r32 4) hq3) gX6_openWanted_X6_linesIn rfl ⟨rfl, rfl⟩ (by decide +kernel) ⟨Nat.le_of_ble_eq_true rfl, Nat.le_of_ble_eq_true rfl⟩ rfl rfl rfl (Nat.le_of_ble_eq_true rfl) dX6_openWanted_2 rfl (fun hS1 hv2 => ?_)
  show GW (sX D t ad) mi_X6_openWanted (acV, S0, r0) x S1 5 _ [vI v2]
  refine g_aload_n (n := 6) C 0 dX6_openWanted_5 rfl rfl ?_
  refine g_iconst (n := 7) C dX6_openWanted_6 rfl ?_
  obtain ⟨S4, v5, hq6, h⟩ := cal_e h
  refine g_callV (n := 10) (As := [vI 3]) (rest := [vI v2]) C 4 1 (Nat.le_of_ble_eq_true rfl) rfl rfl (c_X6_linesIn hS1 (by decide : r32 3) hq6) gX6_openWanted_X6_linesIn rfl ⟨rfl, rfl⟩ (by decide +kernel) ⟨Nat.le_of_ble_eq_true rfl, Nat.le_of_ble_eq_true rfl⟩ rfl rfl rfl (Nat.le_of_ble_eq_true rfl) dX6_openWanted_7 rfl (fun hS4 hv5 => ?_)
  show GW (sX D t ad) mi_X6_openWanted (acV, S0, r0) x S4 10 _ [vI v5, vI v2]
  refine g_iadd (n := 11) C dX6_openWanted_10 rfl ?_
  refine g_aload_n (n := 12) C 0 dX6_openWanted_11 rfl rfl ?_
  refine g_iconst (n := 13) C dX6_openWanted_12 rfl ?_
  obtain ⟨S7, v8, hq9, h⟩ := cal_e h
  refine g_callV (n := 16) (As := [vI 1]) (rest := [vI (w32 (v2 + v5))]) C 4 1 (Nat.le_of_ble_eq_true rfl) rfl rfl (c_X6_callersIn hS4 (by decide : r32 1) hq9) gX6_openWanted_X6_callersIn rfl ⟨rfl, rfl⟩ (by decide +kernel) ⟨Nat.le_of_ble_eq_true rfl, Nat.le_of_ble_eq_true rfl⟩ rfl rfl rfl (Nat.le_of_ble_eq_true rfl) dX6_openWanted_13 rfl (fun hS7 hv8 => ?_)
  show GW (sX D t ad) mi_X6_openWanted (acV, S0, r0) x S7 16 _ [vI v8, vI (w32 (v2 + v5))]
  refine g_iadd (n := 17) C dX6_openWanted_16 rfl ?_
  obtain ⟨v10, ev10, h⟩ := nmV_e h
  have hv10 : r32 v10 := by rw [ev10]; exact (w32_r _)
  refine g_istore_n (n := 18) (lv' := [(1, vI v10), (0, .ref (ad 4))]) C dX6_openWanted_17 (Nat.le_of_ble_eq_true rfl) ev10 rfl rfl ?_
  refine g_aload_n (n := 19) C 1 dX6_openWanted_18 rfl rfl ?_
  refine g_getC (n := 22) C 4 0 rfl (Nat.le_of_ble_eq_true rfl) rfl rfl rfl (Nat.le_of_ble_eq_true rfl) in_X6_openWanted_X6 (by decide +kernel) dX6_openWanted_19 rfl ?_
  refine g_iconst (n := 23) C dX6_openWanted_22 rfl ?_
  obtain ⟨S11, v12, hq13, h⟩ := cal_e h
  refine g_callV (n := 26) (As := [vI 0]) (rest := []) C 1 1 (Nat.le_of_ble_eq_true rfl) rfl rfl (c_X7_number hS7 (by decide : r32 0) hq13) gX6_openWanted_X7_number rfl ⟨rfl, rfl⟩ (by decide +kernel) ⟨Nat.le_of_ble_eq_true rfl, Nat.le_of_ble_eq_true rfl⟩ rfl rfl rfl (Nat.le_of_ble_eq_true rfl) dX6_openWanted_23 rfl (fun hS11 hv12 => ?_)
  show GW (sX D t ad) mi_X6_openWanted (acV, S0, r0) x S11 26 _ [vI v12]
  refine g_aload_n (n := 27) C 1 dX6_openWanted_26 rfl rfl ?_
  refine g_getC (n := 30) C 4 0 rfl (Nat.le_of_ble_eq_true rfl) rfl rfl rfl (Nat.le_of_ble_eq_true rfl) in_X6_openWanted_X6 (by decide +kernel) dX6_openWanted_27 rfl ?_
  refine g_iconst (n := 31) C dX6_openWanted_30 rfl ?_
  obtain ⟨S14, v15, hq16, h⟩ := cal_e h
  refine g_callV (n := 34) (As := [vI 5]) (rest := [vI v12]) C 1 1 (Nat.le_of_ble_eq_true rfl) rfl rfl (c_X7_number hS11 (by decide : r32 5) hq16) gX6_openWanted_X7_number rfl ⟨rfl, rfl⟩ (by decide +kernel) ⟨Nat.le_of_ble_eq_true rfl, Nat.le_of_ble_eq_true rfl⟩ rfl rfl rfl (Nat.le_of_ble_eq_true rfl) dX6_openWanted_31 rfl (fun hS14 hv15 => ?_)
  show GW (sX D t ad) mi_X6_openWanted (acV, S0, r0) x S14 34 _ [vI v15, vI v12]
  refine g_iload_n (n := 35) C 0 dX6_openWanted_34 rfl rfl ?_
  refine g_max (n := 38) C hv15 hv10 (by decide +kernel) (by decide +kernel) (by decide +kernel) (by decide +kernel) ⟨(Nat.le_of_ble_eq_true rfl), (Nat.le_of_ble_eq_true rfl)⟩ dX6_openWanted_35 rfl ?_
  refine g_min (n := 41) C hv12 (mxI_r hv15 hv10) (by decide +kernel) (by decide +kernel) (by decide +kernel) (by decide +kernel) ⟨(Nat.le_of_ble_eq_true rfl), (Nat.le_of_ble_eq_true rfl)⟩ dX6_openWanted_38 rfl ?_
  obtain ⟨v17, ev17, h⟩ := nmV_e h
  have hv17 : r32 v17 := by rw [ev17]; exact (mnI_r hv12 (mxI_r hv15 hv10))
  refine g_istore_n (n := 42) (lv' := [(2, vI v17), (1, vI v10), (0, .ref (ad 4))]) C dX6_openWanted_41 (Nat.le_of_ble_eq_true rfl) ev17 rfl rfl ?_
  refine g_iload_n (n := 43) C 0 dX6_openWanted_42 rfl rfl ?_
  refine g_aload_n (n := 44) C 2 dX6_openWanted_43 rfl rfl ?_
  obtain ⟨S18, v19, hq20, h⟩ := cal_e h
  refine g_callV (n := 47) (As := []) (rest := [vI v17]) C 4 0 (Nat.le_of_ble_eq_true rfl) rfl rfl (c_X6_linesThere hS14 hq20) gX6_openWanted_X6_linesThere rfl ⟨rfl, rfl⟩ (by decide +kernel) ⟨Nat.le_of_ble_eq_true rfl, Nat.le_of_ble_eq_true rfl⟩ rfl rfl rfl (Nat.le_of_ble_eq_true rfl) dX6_openWanted_44 rfl (fun hS18 hv19 => ?_)
  show GW (sX D t ad) mi_X6_openWanted (acV, S0, r0) x S18 47 _ [vI v19, vI v17]
  refine g_isub (n := 48) C dX6_openWanted_47 rfl ?_
  obtain ⟨v21, ev21, h⟩ := nmV_e h
  have hv21 : r32 v21 := by rw [ev21]; exact (w32_r _)
  refine g_istore_n (n := 49) (lv' := [(3, vI v21), (2, vI v17), (1, vI v10), (0, .ref (ad 4))]) C dX6_openWanted_48 (Nat.le_of_ble_eq_true rfl) ev21 rfl rfl ?_
  refine g_iconst (n := 50) C dX6_openWanted_49 rfl ?_
  refine g_istore (n := 52) (lv' := [(4, vI 0), (3, vI v21), (2, vI v17), (1, vI v10), (0, .ref (ad 4))]) C dX6_openWanted_50 (Nat.le_of_ble_eq_true rfl) rfl rfl rfl ?_
  refine g_lv [4, 3, 2, 1, 0] rfl ?_
  exact u_X6_openWanted_52 C FU v10 v17 v21 0 S18 hS18 hv10 hv17 hv21 (by decide : r32 0) h
-- RX6 passTicks
abbrev rm_X6_passTicks : Room := ({ frames := 5, cells := 0, slots := 0, locals := 115 } : Room)
abbrev mi_X6_passTicks : Mi := (cX6_passTicks, 4, RX6, wsX6_passTicks, rm_X6_passTicks, (some .int))
set_option maxRecDepth 20000 in
theorem in_X6_passTicks_X6 : ∀ w ∈ u_ws RX6 TX6 11, w ∈ wsX6_passTicks := by decide +kernel
def dn_X6_passTicks_11 : Nat → Int → Int → Int → St → Option (St × Int)
  | 0, _, _, _, _ => none
  | n + 1, x1, x2, x3, S => (if x1 ≤ x3 then (cal (dn_X4_total 2 S) fun S5 v6 => some (S5, w32 (v6 - x2))) else (nmS (stU S 4 6 (w32 ((S 4 6) + 1))) fun S8 => (cal (dn_X6_breakLines S8) fun S9 v10 => (cal (dn_X6_advanceLines S9) fun S12 v13 => (cal (dn_X6_failBroken S12) fun S15 v16 => (cal (dn_X6_doWork S15) fun S18 v19 => (cal (dn_X6_finishWork S18) fun S21 v22 => (cal (dn_X6_endLeaks S21) fun S24 v25 => (cal (dn_X6_letCome S24) fun S27 v28 => (cal (dn_X6_giveUp S27) fun S30 v31 => (cal (dn_X6_handOut S30) fun S33 v34 => (cal (dn_X6_closeRested S33) fun S36 v37 => (cal (dn_X6_closeSurplus S36) fun S39 v40 => (cal (dn_X6_openWanted S39) fun S42 v43 => (nmV (w32 (x3 + 1)) fun v45 => dn_X6_passTicks_11 n x1 x2 v45 S42)))))))))))))))
set_option maxRecDepth 100000 in
set_option maxHeartbeats 4000000 in
theorem u_X6_passTicks_11 {D : va_G} {t : T5} {ad : Nat → Nat} {S0 : St} {r0 : Int} {x : Mx} (C : CX (sX D t ad) mi_X6_passTicks x) : ∀ (n : Nat) (x1 : Int) (x2 : Int) (x3 : Int) (S : St), RS S → (r32 x1) → (r32 x2) → (r32 x3) → dn_X6_passTicks_11 n x1 x2 x3 S = some (S0, r0) → GW (sX D t ad) mi_X6_passTicks (acI, S0, r0) x S 11 [(0, .ref (ad 4)), (1, vI x1), (2, vI x2), (3, vI x3)] [] := by
  intro n
  induction n with
  | zero =>
    intro x1 x2 x3 S hS hx1 hx2 hx3 h
    cases h
  | succ n ih =>
    intro x1 x2 x3 S hS hx1 hx2 hx3 h
    rw [dn_X6_passTicks_11] at h
    refine g_iload_n (n := 12) C 3 dX6_passTicks_11 rfl rfl ?_
    refine g_iload_n (n := 13) C 1 dX6_passTicks_12 rfl rfl ?_
    refine g_icmp_ge (n := 16) C 80 hx3 hx1 dX6_passTicks_13 (by decide) rfl (fun (hc4 : x1 ≤ x3) => ?_) (fun (hc4 : ¬ (x1 ≤ x3)) => ?_)
    · rw [if_pos hc4] at h
      refine g_aload_n (n := 81) C 0 dX6_passTicks_80 rfl rfl ?_
      refine g_getC (n := 84) C 4 4 rfl (Nat.le_of_ble_eq_true rfl) rfl rfl rfl (Nat.le_of_ble_eq_true rfl) in_X6_passTicks_X6 (by decide +kernel) dX6_passTicks_81 rfl ?_
      refine g_iconst (n := 85) C dX6_passTicks_84 rfl ?_
      obtain ⟨S5, v6, hq7, h⟩ := cal_e h
      refine g_callV (n := 88) (As := [vI 2]) (rest := []) C 10 1 (Nat.le_of_ble_eq_true rfl) rfl rfl (c_X4_total hS (by decide : r32 2) hq7) gX6_passTicks_X4_total rfl ⟨rfl, rfl⟩ (by decide +kernel) ⟨Nat.le_of_ble_eq_true rfl, Nat.le_of_ble_eq_true rfl⟩ rfl rfl rfl (Nat.le_of_ble_eq_true rfl) dX6_passTicks_85 rfl (fun hS5 hv6 => ?_)
      show GW (sX D t ad) mi_X6_passTicks (acI, S0, r0) x S5 88 _ [vI v6]
      refine g_iload_n (n := 89) C 2 dX6_passTicks_88 rfl rfl ?_
      refine g_isub (n := 90) C dX6_passTicks_89 rfl ?_
      exact g_iret C rfl h rfl (w32_r _) hS5 dX6_passTicks_90
    · rw [if_neg hc4] at h
      refine g_aload_n (n := 17) C 0 dX6_passTicks_16 rfl rfl ?_
      refine g_dup (n := 18) C rfl dX6_passTicks_17 rfl ?_
      refine g_getI (n := 21) C 4 6 rfl (Nat.le_of_ble_eq_true rfl) rfl rfl rfl (Nat.le_of_ble_eq_true rfl) in_X6_passTicks_X6 (by decide +kernel) dX6_passTicks_18 rfl ?_
      refine g_iconst (n := 22) C dX6_passTicks_21 rfl ?_
      refine g_iadd (n := 23) C dX6_passTicks_22 rfl ?_
      obtain ⟨S8, eS8, h⟩ := nmS_e h
      have hS8 : RS S8 := by rw [eS8]; exact RS_i hS (w32_r _)
      refine g_putI (n := 26) C 4 6 rfl (Nat.le_of_ble_eq_true rfl) rfl rfl rfl (Nat.le_of_ble_eq_true rfl) in_X6_passTicks_X6 tyX6_ok nmX6 (by decide +kernel) rfl (by decide +kernel) (Nat.le_of_ble_eq_true rfl) eS8 dX6_passTicks_23 rfl ?_
      refine g_aload_n (n := 27) C 0 dX6_passTicks_26 rfl rfl ?_
      obtain ⟨S9, v10, hq11, h⟩ := cal_e h
      refine g_callV (n := 30) (As := []) (rest := []) C 4 0 (Nat.le_of_ble_eq_true rfl) rfl rfl (c_X6_breakLines hS8 hq11) gX6_passTicks_X6_breakLines rfl ⟨rfl, rfl⟩ (by decide +kernel) ⟨Nat.le_of_ble_eq_true rfl, Nat.le_of_ble_eq_true rfl⟩ rfl rfl rfl (Nat.le_of_ble_eq_true rfl) dX6_passTicks_27 rfl (fun hS9 hv10 => ?_)
      show GW (sX D t ad) mi_X6_passTicks (acI, S0, r0) x S9 30 _ []
      refine g_aload_n (n := 31) C 0 dX6_passTicks_30 rfl rfl ?_
      obtain ⟨S12, v13, hq14, h⟩ := cal_e h
      refine g_callV (n := 34) (As := []) (rest := []) C 4 0 (Nat.le_of_ble_eq_true rfl) rfl rfl (c_X6_advanceLines hS9 hq14) gX6_passTicks_X6_advanceLines rfl ⟨rfl, rfl⟩ (by decide +kernel) ⟨Nat.le_of_ble_eq_true rfl, Nat.le_of_ble_eq_true rfl⟩ rfl rfl rfl (Nat.le_of_ble_eq_true rfl) dX6_passTicks_31 rfl (fun hS12 hv13 => ?_)
      show GW (sX D t ad) mi_X6_passTicks (acI, S0, r0) x S12 34 _ []
      refine g_aload_n (n := 35) C 0 dX6_passTicks_34 rfl rfl ?_
      obtain ⟨S15, v16, hq17, h⟩ := cal_e h
      refine g_callV (n := 38) (As := []) (rest := []) C 4 0 (Nat.le_of_ble_eq_true rfl) rfl rfl (c_X6_failBroken hS12 hq17) gX6_passTicks_X6_failBroken rfl ⟨rfl, rfl⟩ (by decide +kernel) ⟨Nat.le_of_ble_eq_true rfl, Nat.le_of_ble_eq_true rfl⟩ rfl rfl rfl (Nat.le_of_ble_eq_true rfl) dX6_passTicks_35 rfl (fun hS15 hv16 => ?_)
      show GW (sX D t ad) mi_X6_passTicks (acI, S0, r0) x S15 38 _ []
      refine g_aload_n (n := 39) C 0 dX6_passTicks_38 rfl rfl ?_
      obtain ⟨S18, v19, hq20, h⟩ := cal_e h
      refine g_callV (n := 42) (As := []) (rest := []) C 4 0 (Nat.le_of_ble_eq_true rfl) rfl rfl (c_X6_doWork hS15 hq20) gX6_passTicks_X6_doWork rfl ⟨rfl, rfl⟩ (by decide +kernel) ⟨Nat.le_of_ble_eq_true rfl, Nat.le_of_ble_eq_true rfl⟩ rfl rfl rfl (Nat.le_of_ble_eq_true rfl) dX6_passTicks_39 rfl (fun hS18 hv19 => ?_)
      show GW (sX D t ad) mi_X6_passTicks (acI, S0, r0) x S18 42 _ []
      refine g_aload_n (n := 43) C 0 dX6_passTicks_42 rfl rfl ?_
      obtain ⟨S21, v22, hq23, h⟩ := cal_e h
      refine g_callV (n := 46) (As := []) (rest := []) C 4 0 (Nat.le_of_ble_eq_true rfl) rfl rfl (c_X6_finishWork hS18 hq23) gX6_passTicks_X6_finishWork rfl ⟨rfl, rfl⟩ (by decide +kernel) ⟨Nat.le_of_ble_eq_true rfl, Nat.le_of_ble_eq_true rfl⟩ rfl rfl rfl (Nat.le_of_ble_eq_true rfl) dX6_passTicks_43 rfl (fun hS21 hv22 => ?_)
      show GW (sX D t ad) mi_X6_passTicks (acI, S0, r0) x S21 46 _ []
      refine g_aload_n (n := 47) C 0 dX6_passTicks_46 rfl rfl ?_
      obtain ⟨S24, v25, hq26, h⟩ := cal_e h
      refine g_callV (n := 50) (As := []) (rest := []) C 4 0 (Nat.le_of_ble_eq_true rfl) rfl rfl (c_X6_endLeaks hS21 hq26) gX6_passTicks_X6_endLeaks rfl ⟨rfl, rfl⟩ (by decide +kernel) ⟨Nat.le_of_ble_eq_true rfl, Nat.le_of_ble_eq_true rfl⟩ rfl rfl rfl (Nat.le_of_ble_eq_true rfl) dX6_passTicks_47 rfl (fun hS24 hv25 => ?_)
      show GW (sX D t ad) mi_X6_passTicks (acI, S0, r0) x S24 50 _ []
      refine g_aload_n (n := 51) C 0 dX6_passTicks_50 rfl rfl ?_
      obtain ⟨S27, v28, hq29, h⟩ := cal_e h
      refine g_callV (n := 54) (As := []) (rest := []) C 4 0 (Nat.le_of_ble_eq_true rfl) rfl rfl (c_X6_letCome hS24 hq29) gX6_passTicks_X6_letCome rfl ⟨rfl, rfl⟩ (by decide +kernel) ⟨Nat.le_of_ble_eq_true rfl, Nat.le_of_ble_eq_true rfl⟩ rfl rfl rfl (Nat.le_of_ble_eq_true rfl) dX6_passTicks_51 rfl (fun hS27 hv28 => ?_)
      show GW (sX D t ad) mi_X6_passTicks (acI, S0, r0) x S27 54 _ []
      refine g_aload_n (n := 55) C 0 dX6_passTicks_54 rfl rfl ?_
      obtain ⟨S30, v31, hq32, h⟩ := cal_e h
      refine g_callV (n := 58) (As := []) (rest := []) C 4 0 (Nat.le_of_ble_eq_true rfl) rfl rfl (c_X6_giveUp hS27 hq32) gX6_passTicks_X6_giveUp rfl ⟨rfl, rfl⟩ (by decide +kernel) ⟨Nat.le_of_ble_eq_true rfl, Nat.le_of_ble_eq_true rfl⟩ rfl rfl rfl (Nat.le_of_ble_eq_true rfl) dX6_passTicks_55 rfl (fun hS30 hv31 => ?_)
      show GW (sX D t ad) mi_X6_passTicks (acI, S0, r0) x S30 58 _ []
      refine g_aload_n (n := 59) C 0 dX6_passTicks_58 rfl rfl ?_
      obtain ⟨S33, v34, hq35, h⟩ := cal_e h
      refine g_callV (n := 62) (As := []) (rest := []) C 4 0 (Nat.le_of_ble_eq_true rfl) rfl rfl (c_X6_handOut hS30 hq35) gX6_passTicks_X6_handOut rfl ⟨rfl, rfl⟩ (by decide +kernel) ⟨Nat.le_of_ble_eq_true rfl, Nat.le_of_ble_eq_true rfl⟩ rfl rfl rfl (Nat.le_of_ble_eq_true rfl) dX6_passTicks_59 rfl (fun hS33 hv34 => ?_)
      show GW (sX D t ad) mi_X6_passTicks (acI, S0, r0) x S33 62 _ []
      refine g_aload_n (n := 63) C 0 dX6_passTicks_62 rfl rfl ?_
      obtain ⟨S36, v37, hq38, h⟩ := cal_e h
      refine g_callV (n := 66) (As := []) (rest := []) C 4 0 (Nat.le_of_ble_eq_true rfl) rfl rfl (c_X6_closeRested hS33 hq38) gX6_passTicks_X6_closeRested rfl ⟨rfl, rfl⟩ (by decide +kernel) ⟨Nat.le_of_ble_eq_true rfl, Nat.le_of_ble_eq_true rfl⟩ rfl rfl rfl (Nat.le_of_ble_eq_true rfl) dX6_passTicks_63 rfl (fun hS36 hv37 => ?_)
      show GW (sX D t ad) mi_X6_passTicks (acI, S0, r0) x S36 66 _ []
      refine g_aload_n (n := 67) C 0 dX6_passTicks_66 rfl rfl ?_
      obtain ⟨S39, v40, hq41, h⟩ := cal_e h
      refine g_callV (n := 70) (As := []) (rest := []) C 4 0 (Nat.le_of_ble_eq_true rfl) rfl rfl (c_X6_closeSurplus hS36 hq41) gX6_passTicks_X6_closeSurplus rfl ⟨rfl, rfl⟩ (by decide +kernel) ⟨Nat.le_of_ble_eq_true rfl, Nat.le_of_ble_eq_true rfl⟩ rfl rfl rfl (Nat.le_of_ble_eq_true rfl) dX6_passTicks_67 rfl (fun hS39 hv40 => ?_)
      show GW (sX D t ad) mi_X6_passTicks (acI, S0, r0) x S39 70 _ []
      refine g_aload_n (n := 71) C 0 dX6_passTicks_70 rfl rfl ?_
      obtain ⟨S42, v43, hq44, h⟩ := cal_e h
      refine g_callV (n := 74) (As := []) (rest := []) C 4 0 (Nat.le_of_ble_eq_true rfl) rfl rfl (c_X6_openWanted hS39 hq44) gX6_passTicks_X6_openWanted rfl ⟨rfl, rfl⟩ (by decide +kernel) ⟨Nat.le_of_ble_eq_true rfl, Nat.le_of_ble_eq_true rfl⟩ rfl rfl rfl (Nat.le_of_ble_eq_true rfl) dX6_passTicks_71 rfl (fun hS42 hv43 => ?_)
      show GW (sX D t ad) mi_X6_passTicks (acI, S0, r0) x S42 74 _ []
      obtain ⟨v45, ev45, h⟩ := nmV_e h
      have hv45 : r32 v45 := by rw [ev45]; exact w32_r _
      refine g_iinc (n := 77) (lv' := [(3, vI v45), (0, .ref (ad 4)), (1, vI x1), (2, vI x2)]) C 3 dX6_passTicks_74 rfl (Nat.le_of_ble_eq_true rfl) ev45 rfl rfl ?_
      refine g_goto C 11 dX6_passTicks_77 (by decide) ?_
      refine g_lv [1, 2, 3, 0] rfl ?_
      exact ih x1 x2 v45 S42 hS42 hx1 hx2 hv45 h
def dn_X6_passTicks (a0 : Int) (S : St) : Option (St × Int) := (cal (dn_X4_total 2 S) fun S1 v2 => dn_X6_passTicks_11 FU a0 v2 0 S1)
set_option maxRecDepth 100000 in
set_option maxHeartbeats 4000000 in
theorem c_X6_passTicks {l : Launch} {D : va_G} {t : T5} {ad : Nat → Nat} {S S0 : St} {r0 : Int} {a0 : Int} (hS : RS S) (ha0 : r32 a0) (h : dn_X6_passTicks a0 S = some (S0, r0)) : Mc l (sX D t ad) yX6_passTicks wsX6_passTicks rm_X6_passTicks [.ref (ad 4), vI a0] acI S S0 r0 := by
  refine Mc_of (cc := cX6_passTicks) (nL := 4) (ret := (some .int)) (by decide +kernel) rfl (Nat.le_of_ble_eq_true rfl) (lv := [(0, .ref (ad 4)), (1, vI a0)]) rfl (fun x C _ => ?_)
  unfold dn_X6_passTicks at h
  show GW (sX D t ad) mi_X6_passTicks (acI, S0, r0) x S 0 [(0, .ref (ad 4)), (1, vI a0)] []
  refine g_aload_n (n := 1) C 0 dX6_passTicks_0 rfl rfl ?_
  refine g_getC (n := 4) C 4 4 rfl (Nat.le_of_ble_eq_true rfl) rfl rfl rfl (Nat.le_of_ble_eq_true rfl) in_X6_passTicks_X6 (by decide +kernel) dX6_passTicks_1 rfl ?_
  refine g_iconst (n := 5) C dX6_passTicks_4 rfl ?_
  obtain ⟨S1, v2, hq3, h⟩ := cal_e h
  refine g_callV (n := 8) (As := [vI 2]) (rest := []) C 10 1 (Nat.le_of_ble_eq_true rfl) rfl rfl (c_X4_total hS (by decide : r32 2) hq3) gX6_passTicks_X4_total rfl ⟨rfl, rfl⟩ (by decide +kernel) ⟨Nat.le_of_ble_eq_true rfl, Nat.le_of_ble_eq_true rfl⟩ rfl rfl rfl (Nat.le_of_ble_eq_true rfl) dX6_passTicks_5 rfl (fun hS1 hv2 => ?_)
  show GW (sX D t ad) mi_X6_passTicks (acI, S0, r0) x S1 8 _ [vI v2]
  refine g_istore_n (n := 9) (lv' := [(2, vI v2), (0, .ref (ad 4)), (1, vI a0)]) C dX6_passTicks_8 (Nat.le_of_ble_eq_true rfl) rfl rfl rfl ?_
  refine g_iconst (n := 10) C dX6_passTicks_9 rfl ?_
  refine g_istore_n (n := 11) (lv' := [(3, vI 0), (2, vI v2), (0, .ref (ad 4)), (1, vI a0)]) C dX6_passTicks_10 (Nat.le_of_ble_eq_true rfl) rfl rfl rfl ?_
  refine g_lv [2, 3, 1, 0] rfl ?_
  exact u_X6_passTicks_11 C FU a0 v2 0 S1 hS1 ha0 hv2 (by decide : r32 0) h
-- RX6 linesLentTo
abbrev rm_X6_linesLentTo : Room := ({ frames := 1, cells := 0, slots := 0, locals := 21 } : Room)
abbrev mi_X6_linesLentTo : Mi := (cX6_linesLentTo, 4, RX6, wsX6_linesLentTo, rm_X6_linesLentTo, (some .int))
set_option maxRecDepth 20000 in
theorem in_X6_linesLentTo_X6 : ∀ w ∈ u_ws RX6 TX6 11, w ∈ wsX6_linesLentTo := by decide +kernel
def dn_X6_linesLentTo_4 : Nat → Int → Int → Int → St → Option (St × Int)
  | 0, _, _, _, _ => none
  | n + 1, x1, x2, x3, S => (if 12 ≤ x3 then some (S, x2) else (if 0 ≤ x3 ∧ x3 < 12 then (cal (dn_X3_isLentTo x3 x1 S) fun S3 v4 => (if v4 = 0 then (nmV (w32 (x3 + 1)) fun v7 => dn_X6_linesLentTo_4 n x1 x2 v7 S3) else (nmV (w32 (x2 + 1)) fun v8 => (nmV (w32 (x3 + 1)) fun v9 => dn_X6_linesLentTo_4 n x1 v8 v9 S3)))) else none))
set_option maxRecDepth 100000 in
set_option maxHeartbeats 4000000 in
theorem u_X6_linesLentTo_4 {D : va_G} {t : T5} {ad : Nat → Nat} {S0 : St} {r0 : Int} {x : Mx} (C : CX (sX D t ad) mi_X6_linesLentTo x) : ∀ (n : Nat) (x1 : Int) (x2 : Int) (x3 : Int) (S : St), RS S → (-1 ≤ x1 ∧ x1 < (60 : Nat)) → (r32 x2) → (r32 x3) → dn_X6_linesLentTo_4 n x1 x2 x3 S = some (S0, r0) → GW (sX D t ad) mi_X6_linesLentTo (acI, S0, r0) x S 4 [(0, .ref (ad 4)), (1, vR ad 30 x1), (2, vI x2), (3, vI x3)] [] := by
  intro n
  induction n with
  | zero =>
    intro x1 x2 x3 S hS hx1 hx2 hx3 h
    cases h
  | succ n ih =>
    intro x1 x2 x3 S hS hx1 hx2 hx3 h
    rw [dn_X6_linesLentTo_4] at h
    refine g_iload_n (n := 5) C 3 dX6_linesLentTo_4 rfl rfl ?_
    refine g_bipush (n := 7) C dX6_linesLentTo_5 (by decide +kernel) rfl ?_
    refine g_icmp_ge (n := 10) C 32 hx3 (by decide : r32 12) dX6_linesLentTo_7 (by decide) rfl (fun (hc1 : 12 ≤ x3) => ?_) (fun (hc1 : ¬ (12 ≤ x3)) => ?_)
    · rw [if_pos hc1] at h
      refine g_iload_n (n := 33) C 2 dX6_linesLentTo_32 rfl rfl ?_
      exact g_iret C rfl h rfl hx2 hS dX6_linesLentTo_33
    · rw [if_neg hc1] at h
      refine g_aload_n (n := 11) C 0 dX6_linesLentTo_10 rfl rfl ?_
      refine g_getC (n := 14) C 4 1 rfl (Nat.le_of_ble_eq_true rfl) rfl rfl rfl (Nat.le_of_ble_eq_true rfl) in_X6_linesLentTo_X6 (by decide +kernel) dX6_linesLentTo_11 rfl ?_
      refine g_iload_n (n := 15) C 3 dX6_linesLentTo_14 rfl rfl ?_
      obtain ⟨hg2, h⟩ := gd_e h
      refine g_rald (n := 16) C 5 rfl (Nat.le_of_ble_eq_true rfl) rfl (Or.inr rfl) rfl hg2 hx3 dX6_linesLentTo_15 rfl ?_
      refine g_rload_n (n := 17) C 1 dX6_linesLentTo_16 rfl rfl ?_
      obtain ⟨S3, v4, hq5, h⟩ := cal_e h
      refine g_callV (n := 20) (As := [vR ad 30 x1]) (rest := []) C (x3.toNat + 18) 1 (tn_add hg2 (Nat.le_of_ble_eq_true rfl)) (dX_line (tn_lt hg2 (Nat.le_refl _))) rfl (c_X3_isLentTo hS hg2 hx1 hq5) gX6_linesLentTo_X3_isLentTo rfl ⟨rfl, rfl⟩ (by decide +kernel) ⟨Nat.le_of_ble_eq_true rfl, Nat.le_of_ble_eq_true rfl⟩ (vR_pos hg2.1) rfl rfl (Nat.le_of_ble_eq_true rfl) dX6_linesLentTo_17 rfl (fun hS3 hv4 => ?_)
      show GW (sX D t ad) mi_X6_linesLentTo (acI, S0, r0) x S3 20 _ [vI v4]
      refine g_if_eq (n := 23) C 26 (z_r32 hv4) dX6_linesLentTo_20 (by decide) rfl (fun (hc6 : v4 = 0) => ?_) (fun (hc6 : ¬ (v4 = 0)) => ?_)
      · rw [if_pos hc6] at h
        obtain ⟨v7, ev7, h⟩ := nmV_e h
        have hv7 : r32 v7 := by rw [ev7]; exact w32_r _
        refine g_iinc (n := 29) (lv' := [(3, vI v7), (0, .ref (ad 4)), (1, vR ad 30 x1), (2, vI x2)]) C 3 dX6_linesLentTo_26 rfl (Nat.le_of_ble_eq_true rfl) ev7 rfl rfl ?_
        refine g_goto C 4 dX6_linesLentTo_29 (by decide) ?_
        refine g_lv [1, 2, 3, 0] rfl ?_
        exact ih x1 x2 v7 S3 hS3 hx1 hx2 hv7 h
      · rw [if_neg hc6] at h
        obtain ⟨v8, ev8, h⟩ := nmV_e h
        have hv8 : r32 v8 := by rw [ev8]; exact w32_r _
        refine g_iinc (n := 26) (lv' := [(2, vI v8), (0, .ref (ad 4)), (1, vR ad 30 x1), (3, vI x3)]) C 2 dX6_linesLentTo_23 rfl (Nat.le_of_ble_eq_true rfl) ev8 (by simp [vR_cat, vI_cat, vJ_cat, rf_cat] <;> decide) rfl ?_
        obtain ⟨v9, ev9, h⟩ := nmV_e h
        have hv9 : r32 v9 := by rw [ev9]; exact w32_r _
        refine g_iinc (n := 29) (lv' := [(3, vI v9), (2, vI v8), (0, .ref (ad 4)), (1, vR ad 30 x1)]) C 3 dX6_linesLentTo_26 rfl (Nat.le_of_ble_eq_true rfl) ev9 rfl rfl ?_
        refine g_goto C 4 dX6_linesLentTo_29 (by decide) ?_
        refine g_lv [2, 3, 1, 0] rfl ?_
        exact ih x1 v8 v9 S3 hS3 hx1 hv8 hv9 h
def dn_X6_linesLentTo (a0 : Int) (S : St) : Option (St × Int) := dn_X6_linesLentTo_4 FU a0 0 0 S
set_option maxRecDepth 100000 in
set_option maxHeartbeats 4000000 in
theorem c_X6_linesLentTo {l : Launch} {D : va_G} {t : T5} {ad : Nat → Nat} {S S0 : St} {r0 : Int} {a0 : Int} (hS : RS S) (ha0 : -1 ≤ a0 ∧ a0 < (60 : Nat)) (h : dn_X6_linesLentTo a0 S = some (S0, r0)) : Mc l (sX D t ad) yX6_linesLentTo wsX6_linesLentTo rm_X6_linesLentTo [.ref (ad 4), vR ad 30 a0] acI S S0 r0 := by
  refine Mc_of (cc := cX6_linesLentTo) (nL := 4) (ret := (some .int)) (by decide +kernel) rfl (by simp [lg_sl, vR_cat, vI_cat, vJ_cat, rf_cat]) (lv := [(0, .ref (ad 4)), (1, vR ad 30 a0)]) (by simp [lv_args, vR_cat, vI_cat, vJ_cat, rf_cat]) (fun x C _ => ?_)
  unfold dn_X6_linesLentTo at h
  show GW (sX D t ad) mi_X6_linesLentTo (acI, S0, r0) x S 0 [(0, .ref (ad 4)), (1, vR ad 30 a0)] []
  refine g_iconst (n := 1) C dX6_linesLentTo_0 rfl ?_
  refine g_istore_n (n := 2) (lv' := [(2, vI 0), (0, .ref (ad 4)), (1, vR ad 30 a0)]) C dX6_linesLentTo_1 (Nat.le_of_ble_eq_true rfl) rfl (by simp [vR_cat, vI_cat, vJ_cat, rf_cat] <;> decide) rfl ?_
  refine g_iconst (n := 3) C dX6_linesLentTo_2 rfl ?_
  refine g_istore_n (n := 4) (lv' := [(3, vI 0), (2, vI 0), (0, .ref (ad 4)), (1, vR ad 30 a0)]) C dX6_linesLentTo_3 (Nat.le_of_ble_eq_true rfl) rfl rfl rfl ?_
  refine g_lv [2, 3, 1, 0] rfl ?_
  exact u_X6_linesLentTo_4 C FU a0 0 0 S hS ha0 (by decide : r32 0) (by decide : r32 0) h
-- RX6 figure
abbrev rm_X6_figure : Room := ({ frames := 2, cells := 0, slots := 0, locals := 43 } : Room)
abbrev mi_X6_figure : Mi := (cX6_figure, 2, RX6, wsX6_figure, rm_X6_figure, (some .long))
set_option maxRecDepth 20000 in
theorem in_X6_figure_X4 : ∀ w ∈ u_ws RX4 TX4 3, w ∈ wsX6_figure := by decide +kernel
set_option maxRecDepth 20000 in
theorem in_X6_figure_X6 : ∀ w ∈ u_ws RX6 TX6 11, w ∈ wsX6_figure := by decide +kernel
def dn_X6_figure (a0 : Int) (S : St) : Option (St × Int) := (if a0 = 0 then some (S, S 4 6) else (if a0 = 1 then some (S, S 4 5) else (if a0 = 2 then (cal (dn_X6_callersIn 1 S) fun S4 v5 => some (S4, v5)) else (if a0 = 3 then (cal (dn_X6_callersIn 3 S) fun S8 v9 => some (S8, v9)) else (if a0 = 4 then (cal (dn_X6_linesThere S) fun S12 v13 => some (S12, v13)) else (if a0 = 5 then (cal (dn_X6_linesIn 2 S) fun S16 v17 => some (S16, v17)) else (if a0 = 6 then (cal (dn_X6_linesIn 4 S) fun S20 v21 => some (S20, v21)) else (if a0 = 7 then (cal (dn_X4_total 2 S) fun S24 v25 => some (S24, v25)) else (if a0 = 8 then (cal (dn_X4_total 3 S) fun S28 v29 => some (S28, v29)) else (if a0 = 9 then (cal (dn_X4_total 4 S) fun S32 v33 => some (S32, v33)) else (if a0 = 10 then (cal (dn_X4_total 5 S) fun S36 v37 => some (S36, v37)) else (if a0 = 11 then some (S, S 4 7) else (if a0 = 12 then (cal (dn_X4_total 6 S) fun S41 v42 => some (S41, v42)) else (if a0 = 13 then (cal (dn_X4_total 7 S) fun S45 v46 => some (S45, v46)) else (if a0 = 14 then some (S, S 4 100008) else (if a0 = 15 then some (S, S 4 9) else (if a0 = 16 then some (S, S 4 10) else (if a0 = 17 then some (S, S 10 2) else some (S, (-1))))))))))))))))))))
set_option maxRecDepth 100000 in
set_option maxHeartbeats 4000000 in
theorem c_X6_figure {l : Launch} {D : va_G} {t : T5} {ad : Nat → Nat} {S S0 : St} {r0 : Int} {a0 : Int} (hS : RS S) (ha0 : r32 a0) (h : dn_X6_figure a0 S = some (S0, r0)) : Mc l (sX D t ad) yX6_figure wsX6_figure rm_X6_figure [.ref (ad 4), vI a0] acJ S S0 r0 := by
  refine Mc_of (cc := cX6_figure) (nL := 2) (ret := (some .long)) (by decide +kernel) rfl (Nat.le_of_ble_eq_true rfl) (lv := [(0, .ref (ad 4)), (1, vI a0)]) rfl (fun x C _ => ?_)
  unfold dn_X6_figure at h
  show GW (sX D t ad) mi_X6_figure (acJ, S0, r0) x S 0 [(0, .ref (ad 4)), (1, vI a0)] []
  refine g_iload_n (n := 1) C 1 dX6_figure_0 rfl rfl ?_
  by_cases hc1 : a0 = 0
  · rw [if_pos hc1] at h
    refine g_tabIn C 0 88 ha0 dX6_figure_1 hc1 (by decide) rfl (by decide) ?_
    refine g_aload_n (n := 89) C 0 dX6_figure_88 rfl rfl ?_
    refine g_getI (n := 92) C 4 6 rfl (Nat.le_of_ble_eq_true rfl) rfl rfl rfl (Nat.le_of_ble_eq_true rfl) in_X6_figure_X6 (by decide +kernel) dX6_figure_89 rfl ?_
    refine g_i2l (n := 93) C ((hS 4 6).2 (by decide)) dX6_figure_92 rfl ?_
    exact g_lret C rfl h rfl (r32_64 ((hS 4 6).2 (by decide))) hS dX6_figure_93
  · rw [if_neg hc1] at h
    by_cases hc2 : a0 = 1
    · rw [if_pos hc2] at h
      refine g_tabIn C 1 94 ha0 dX6_figure_1 hc2 (by decide) rfl (by decide) ?_
      refine g_aload_n (n := 95) C 0 dX6_figure_94 rfl rfl ?_
      refine g_getI (n := 98) C 4 5 rfl (Nat.le_of_ble_eq_true rfl) rfl rfl rfl (Nat.le_of_ble_eq_true rfl) in_X6_figure_X6 (by decide +kernel) dX6_figure_95 rfl ?_
      refine g_i2l (n := 99) C ((hS 4 5).2 (by decide)) dX6_figure_98 rfl ?_
      exact g_lret C rfl h rfl (r32_64 ((hS 4 5).2 (by decide))) hS dX6_figure_99
    · rw [if_neg hc2] at h
      by_cases hc3 : a0 = 2
      · rw [if_pos hc3] at h
        refine g_tabIn C 2 100 ha0 dX6_figure_1 hc3 (by decide) rfl (by decide) ?_
        refine g_aload_n (n := 101) C 0 dX6_figure_100 rfl rfl ?_
        refine g_iconst (n := 102) C dX6_figure_101 rfl ?_
        obtain ⟨S4, v5, hq6, h⟩ := cal_e h
        refine g_callV (n := 105) (As := [vI 1]) (rest := []) C 4 1 (Nat.le_of_ble_eq_true rfl) rfl rfl (c_X6_callersIn hS (by decide : r32 1) hq6) gX6_figure_X6_callersIn rfl ⟨rfl, rfl⟩ (by decide +kernel) ⟨Nat.le_of_ble_eq_true rfl, Nat.le_of_ble_eq_true rfl⟩ rfl rfl rfl (Nat.le_of_ble_eq_true rfl) dX6_figure_102 rfl (fun hS4 hv5 => ?_)
        show GW (sX D t ad) mi_X6_figure (acJ, S0, r0) x S4 105 _ [vI v5]
        refine g_i2l (n := 106) C hv5 dX6_figure_105 rfl ?_
        exact g_lret C rfl h rfl (r32_64 hv5) hS4 dX6_figure_106
      · rw [if_neg hc3] at h
        by_cases hc7 : a0 = 3
        · rw [if_pos hc7] at h
          refine g_tabIn C 3 107 ha0 dX6_figure_1 hc7 (by decide) rfl (by decide) ?_
          refine g_aload_n (n := 108) C 0 dX6_figure_107 rfl rfl ?_
          refine g_iconst (n := 109) C dX6_figure_108 rfl ?_
          obtain ⟨S8, v9, hq10, h⟩ := cal_e h
          refine g_callV (n := 112) (As := [vI 3]) (rest := []) C 4 1 (Nat.le_of_ble_eq_true rfl) rfl rfl (c_X6_callersIn hS (by decide : r32 3) hq10) gX6_figure_X6_callersIn rfl ⟨rfl, rfl⟩ (by decide +kernel) ⟨Nat.le_of_ble_eq_true rfl, Nat.le_of_ble_eq_true rfl⟩ rfl rfl rfl (Nat.le_of_ble_eq_true rfl) dX6_figure_109 rfl (fun hS8 hv9 => ?_)
          show GW (sX D t ad) mi_X6_figure (acJ, S0, r0) x S8 112 _ [vI v9]
          refine g_i2l (n := 113) C hv9 dX6_figure_112 rfl ?_
          exact g_lret C rfl h rfl (r32_64 hv9) hS8 dX6_figure_113
        · rw [if_neg hc7] at h
          by_cases hc11 : a0 = 4
          · rw [if_pos hc11] at h
            refine g_tabIn C 4 114 ha0 dX6_figure_1 hc11 (by decide) rfl (by decide) ?_
            refine g_aload_n (n := 115) C 0 dX6_figure_114 rfl rfl ?_
            obtain ⟨S12, v13, hq14, h⟩ := cal_e h
            refine g_callV (n := 118) (As := []) (rest := []) C 4 0 (Nat.le_of_ble_eq_true rfl) rfl rfl (c_X6_linesThere hS hq14) gX6_figure_X6_linesThere rfl ⟨rfl, rfl⟩ (by decide +kernel) ⟨Nat.le_of_ble_eq_true rfl, Nat.le_of_ble_eq_true rfl⟩ rfl rfl rfl (Nat.le_of_ble_eq_true rfl) dX6_figure_115 rfl (fun hS12 hv13 => ?_)
            show GW (sX D t ad) mi_X6_figure (acJ, S0, r0) x S12 118 _ [vI v13]
            refine g_i2l (n := 119) C hv13 dX6_figure_118 rfl ?_
            exact g_lret C rfl h rfl (r32_64 hv13) hS12 dX6_figure_119
          · rw [if_neg hc11] at h
            by_cases hc15 : a0 = 5
            · rw [if_pos hc15] at h
              refine g_tabIn C 5 120 ha0 dX6_figure_1 hc15 (by decide) rfl (by decide) ?_
              refine g_aload_n (n := 121) C 0 dX6_figure_120 rfl rfl ?_
              refine g_iconst (n := 122) C dX6_figure_121 rfl ?_
              obtain ⟨S16, v17, hq18, h⟩ := cal_e h
              refine g_callV (n := 125) (As := [vI 2]) (rest := []) C 4 1 (Nat.le_of_ble_eq_true rfl) rfl rfl (c_X6_linesIn hS (by decide : r32 2) hq18) gX6_figure_X6_linesIn rfl ⟨rfl, rfl⟩ (by decide +kernel) ⟨Nat.le_of_ble_eq_true rfl, Nat.le_of_ble_eq_true rfl⟩ rfl rfl rfl (Nat.le_of_ble_eq_true rfl) dX6_figure_122 rfl (fun hS16 hv17 => ?_)
              show GW (sX D t ad) mi_X6_figure (acJ, S0, r0) x S16 125 _ [vI v17]
              refine g_i2l (n := 126) C hv17 dX6_figure_125 rfl ?_
              exact g_lret C rfl h rfl (r32_64 hv17) hS16 dX6_figure_126
            · rw [if_neg hc15] at h
              by_cases hc19 : a0 = 6
              · rw [if_pos hc19] at h
                refine g_tabIn C 6 127 ha0 dX6_figure_1 hc19 (by decide) rfl (by decide) ?_
                refine g_aload_n (n := 128) C 0 dX6_figure_127 rfl rfl ?_
                refine g_iconst (n := 129) C dX6_figure_128 rfl ?_
                obtain ⟨S20, v21, hq22, h⟩ := cal_e h
                refine g_callV (n := 132) (As := [vI 4]) (rest := []) C 4 1 (Nat.le_of_ble_eq_true rfl) rfl rfl (c_X6_linesIn hS (by decide : r32 4) hq22) gX6_figure_X6_linesIn rfl ⟨rfl, rfl⟩ (by decide +kernel) ⟨Nat.le_of_ble_eq_true rfl, Nat.le_of_ble_eq_true rfl⟩ rfl rfl rfl (Nat.le_of_ble_eq_true rfl) dX6_figure_129 rfl (fun hS20 hv21 => ?_)
                show GW (sX D t ad) mi_X6_figure (acJ, S0, r0) x S20 132 _ [vI v21]
                refine g_i2l (n := 133) C hv21 dX6_figure_132 rfl ?_
                exact g_lret C rfl h rfl (r32_64 hv21) hS20 dX6_figure_133
              · rw [if_neg hc19] at h
                by_cases hc23 : a0 = 7
                · rw [if_pos hc23] at h
                  refine g_tabIn C 7 134 ha0 dX6_figure_1 hc23 (by decide) rfl (by decide) ?_
                  refine g_aload_n (n := 135) C 0 dX6_figure_134 rfl rfl ?_
                  refine g_getC (n := 138) C 4 4 rfl (Nat.le_of_ble_eq_true rfl) rfl rfl rfl (Nat.le_of_ble_eq_true rfl) in_X6_figure_X6 (by decide +kernel) dX6_figure_135 rfl ?_
                  refine g_iconst (n := 139) C dX6_figure_138 rfl ?_
                  obtain ⟨S24, v25, hq26, h⟩ := cal_e h
                  refine g_callV (n := 142) (As := [vI 2]) (rest := []) C 10 1 (Nat.le_of_ble_eq_true rfl) rfl rfl (c_X4_total hS (by decide : r32 2) hq26) gX6_figure_X4_total rfl ⟨rfl, rfl⟩ (by decide +kernel) ⟨Nat.le_of_ble_eq_true rfl, Nat.le_of_ble_eq_true rfl⟩ rfl rfl rfl (Nat.le_of_ble_eq_true rfl) dX6_figure_139 rfl (fun hS24 hv25 => ?_)
                  show GW (sX D t ad) mi_X6_figure (acJ, S0, r0) x S24 142 _ [vI v25]
                  refine g_i2l (n := 143) C hv25 dX6_figure_142 rfl ?_
                  exact g_lret C rfl h rfl (r32_64 hv25) hS24 dX6_figure_143
                · rw [if_neg hc23] at h
                  by_cases hc27 : a0 = 8
                  · rw [if_pos hc27] at h
                    refine g_tabIn C 8 144 ha0 dX6_figure_1 hc27 (by decide) rfl (by decide) ?_
                    refine g_aload_n (n := 145) C 0 dX6_figure_144 rfl rfl ?_
                    refine g_getC (n := 148) C 4 4 rfl (Nat.le_of_ble_eq_true rfl) rfl rfl rfl (Nat.le_of_ble_eq_true rfl) in_X6_figure_X6 (by decide +kernel) dX6_figure_145 rfl ?_
                    refine g_iconst (n := 149) C dX6_figure_148 rfl ?_
                    obtain ⟨S28, v29, hq30, h⟩ := cal_e h
                    refine g_callV (n := 152) (As := [vI 3]) (rest := []) C 10 1 (Nat.le_of_ble_eq_true rfl) rfl rfl (c_X4_total hS (by decide : r32 3) hq30) gX6_figure_X4_total rfl ⟨rfl, rfl⟩ (by decide +kernel) ⟨Nat.le_of_ble_eq_true rfl, Nat.le_of_ble_eq_true rfl⟩ rfl rfl rfl (Nat.le_of_ble_eq_true rfl) dX6_figure_149 rfl (fun hS28 hv29 => ?_)
                    show GW (sX D t ad) mi_X6_figure (acJ, S0, r0) x S28 152 _ [vI v29]
                    refine g_i2l (n := 153) C hv29 dX6_figure_152 rfl ?_
                    exact g_lret C rfl h rfl (r32_64 hv29) hS28 dX6_figure_153
                  · rw [if_neg hc27] at h
                    by_cases hc31 : a0 = 9
                    · rw [if_pos hc31] at h
                      refine g_tabIn C 9 154 ha0 dX6_figure_1 hc31 (by decide) rfl (by decide) ?_
                      refine g_aload_n (n := 155) C 0 dX6_figure_154 rfl rfl ?_
                      refine g_getC (n := 158) C 4 4 rfl (Nat.le_of_ble_eq_true rfl) rfl rfl rfl (Nat.le_of_ble_eq_true rfl) in_X6_figure_X6 (by decide +kernel) dX6_figure_155 rfl ?_
                      refine g_iconst (n := 159) C dX6_figure_158 rfl ?_
                      obtain ⟨S32, v33, hq34, h⟩ := cal_e h
                      refine g_callV (n := 162) (As := [vI 4]) (rest := []) C 10 1 (Nat.le_of_ble_eq_true rfl) rfl rfl (c_X4_total hS (by decide : r32 4) hq34) gX6_figure_X4_total rfl ⟨rfl, rfl⟩ (by decide +kernel) ⟨Nat.le_of_ble_eq_true rfl, Nat.le_of_ble_eq_true rfl⟩ rfl rfl rfl (Nat.le_of_ble_eq_true rfl) dX6_figure_159 rfl (fun hS32 hv33 => ?_)
                      show GW (sX D t ad) mi_X6_figure (acJ, S0, r0) x S32 162 _ [vI v33]
                      refine g_i2l (n := 163) C hv33 dX6_figure_162 rfl ?_
                      exact g_lret C rfl h rfl (r32_64 hv33) hS32 dX6_figure_163
                    · rw [if_neg hc31] at h
                      by_cases hc35 : a0 = 10
                      · rw [if_pos hc35] at h
                        refine g_tabIn C 10 164 ha0 dX6_figure_1 hc35 (by decide) rfl (by decide) ?_
                        refine g_aload_n (n := 165) C 0 dX6_figure_164 rfl rfl ?_
                        refine g_getC (n := 168) C 4 4 rfl (Nat.le_of_ble_eq_true rfl) rfl rfl rfl (Nat.le_of_ble_eq_true rfl) in_X6_figure_X6 (by decide +kernel) dX6_figure_165 rfl ?_
                        refine g_iconst (n := 169) C dX6_figure_168 rfl ?_
                        obtain ⟨S36, v37, hq38, h⟩ := cal_e h
                        refine g_callV (n := 172) (As := [vI 5]) (rest := []) C 10 1 (Nat.le_of_ble_eq_true rfl) rfl rfl (c_X4_total hS (by decide : r32 5) hq38) gX6_figure_X4_total rfl ⟨rfl, rfl⟩ (by decide +kernel) ⟨Nat.le_of_ble_eq_true rfl, Nat.le_of_ble_eq_true rfl⟩ rfl rfl rfl (Nat.le_of_ble_eq_true rfl) dX6_figure_169 rfl (fun hS36 hv37 => ?_)
                        show GW (sX D t ad) mi_X6_figure (acJ, S0, r0) x S36 172 _ [vI v37]
                        refine g_i2l (n := 173) C hv37 dX6_figure_172 rfl ?_
                        exact g_lret C rfl h rfl (r32_64 hv37) hS36 dX6_figure_173
                      · rw [if_neg hc35] at h
                        by_cases hc39 : a0 = 11
                        · rw [if_pos hc39] at h
                          refine g_tabIn C 11 174 ha0 dX6_figure_1 hc39 (by decide) rfl (by decide) ?_
                          refine g_aload_n (n := 175) C 0 dX6_figure_174 rfl rfl ?_
                          refine g_getI (n := 178) C 4 7 rfl (Nat.le_of_ble_eq_true rfl) rfl rfl rfl (Nat.le_of_ble_eq_true rfl) in_X6_figure_X6 (by decide +kernel) dX6_figure_175 rfl ?_
                          refine g_i2l (n := 179) C ((hS 4 7).2 (by decide)) dX6_figure_178 rfl ?_
                          exact g_lret C rfl h rfl (r32_64 ((hS 4 7).2 (by decide))) hS dX6_figure_179
                        · rw [if_neg hc39] at h
                          by_cases hc40 : a0 = 12
                          · rw [if_pos hc40] at h
                            refine g_tabIn C 12 180 ha0 dX6_figure_1 hc40 (by decide) rfl (by decide) ?_
                            refine g_aload_n (n := 181) C 0 dX6_figure_180 rfl rfl ?_
                            refine g_getC (n := 184) C 4 4 rfl (Nat.le_of_ble_eq_true rfl) rfl rfl rfl (Nat.le_of_ble_eq_true rfl) in_X6_figure_X6 (by decide +kernel) dX6_figure_181 rfl ?_
                            refine g_bipush (n := 186) C dX6_figure_184 (by decide +kernel) rfl ?_
                            obtain ⟨S41, v42, hq43, h⟩ := cal_e h
                            refine g_callV (n := 189) (As := [vI 6]) (rest := []) C 10 1 (Nat.le_of_ble_eq_true rfl) rfl rfl (c_X4_total hS (by decide : r32 6) hq43) gX6_figure_X4_total rfl ⟨rfl, rfl⟩ (by decide +kernel) ⟨Nat.le_of_ble_eq_true rfl, Nat.le_of_ble_eq_true rfl⟩ rfl rfl rfl (Nat.le_of_ble_eq_true rfl) dX6_figure_186 rfl (fun hS41 hv42 => ?_)
                            show GW (sX D t ad) mi_X6_figure (acJ, S0, r0) x S41 189 _ [vI v42]
                            refine g_i2l (n := 190) C hv42 dX6_figure_189 rfl ?_
                            exact g_lret C rfl h rfl (r32_64 hv42) hS41 dX6_figure_190
                          · rw [if_neg hc40] at h
                            by_cases hc44 : a0 = 13
                            · rw [if_pos hc44] at h
                              refine g_tabIn C 13 191 ha0 dX6_figure_1 hc44 (by decide) rfl (by decide) ?_
                              refine g_aload_n (n := 192) C 0 dX6_figure_191 rfl rfl ?_
                              refine g_getC (n := 195) C 4 4 rfl (Nat.le_of_ble_eq_true rfl) rfl rfl rfl (Nat.le_of_ble_eq_true rfl) in_X6_figure_X6 (by decide +kernel) dX6_figure_192 rfl ?_
                              refine g_bipush (n := 197) C dX6_figure_195 (by decide +kernel) rfl ?_
                              obtain ⟨S45, v46, hq47, h⟩ := cal_e h
                              refine g_callV (n := 200) (As := [vI 7]) (rest := []) C 10 1 (Nat.le_of_ble_eq_true rfl) rfl rfl (c_X4_total hS (by decide : r32 7) hq47) gX6_figure_X4_total rfl ⟨rfl, rfl⟩ (by decide +kernel) ⟨Nat.le_of_ble_eq_true rfl, Nat.le_of_ble_eq_true rfl⟩ rfl rfl rfl (Nat.le_of_ble_eq_true rfl) dX6_figure_197 rfl (fun hS45 hv46 => ?_)
                              show GW (sX D t ad) mi_X6_figure (acJ, S0, r0) x S45 200 _ [vI v46]
                              refine g_i2l (n := 201) C hv46 dX6_figure_200 rfl ?_
                              exact g_lret C rfl h rfl (r32_64 hv46) hS45 dX6_figure_201
                            · rw [if_neg hc44] at h
                              by_cases hc48 : a0 = 14
                              · rw [if_pos hc48] at h
                                refine g_tabIn C 14 202 ha0 dX6_figure_1 hc48 (by decide) rfl (by decide) ?_
                                refine g_aload_n (n := 203) C 0 dX6_figure_202 rfl rfl ?_
                                refine g_getJ (n := 206) C 4 8 rfl (Nat.le_of_ble_eq_true rfl) rfl rfl rfl (Nat.le_of_ble_eq_true rfl) in_X6_figure_X6 (by decide +kernel) dX6_figure_203 rfl ?_
                                exact g_lret C rfl h rfl ((hS 4 100008).1) hS dX6_figure_206
                              · rw [if_neg hc48] at h
                                by_cases hc49 : a0 = 15
                                · rw [if_pos hc49] at h
                                  refine g_tabIn C 15 207 ha0 dX6_figure_1 hc49 (by decide) rfl (by decide) ?_
                                  refine g_aload_n (n := 208) C 0 dX6_figure_207 rfl rfl ?_
                                  refine g_getI (n := 211) C 4 9 rfl (Nat.le_of_ble_eq_true rfl) rfl rfl rfl (Nat.le_of_ble_eq_true rfl) in_X6_figure_X6 (by decide +kernel) dX6_figure_208 rfl ?_
                                  refine g_i2l (n := 212) C ((hS 4 9).2 (by decide)) dX6_figure_211 rfl ?_
                                  exact g_lret C rfl h rfl (r32_64 ((hS 4 9).2 (by decide))) hS dX6_figure_212
                                · rw [if_neg hc49] at h
                                  by_cases hc50 : a0 = 16
                                  · rw [if_pos hc50] at h
                                    refine g_tabIn C 16 213 ha0 dX6_figure_1 hc50 (by decide) rfl (by decide) ?_
                                    refine g_aload_n (n := 214) C 0 dX6_figure_213 rfl rfl ?_
                                    refine g_getI (n := 217) C 4 10 rfl (Nat.le_of_ble_eq_true rfl) rfl rfl rfl (Nat.le_of_ble_eq_true rfl) in_X6_figure_X6 (by decide +kernel) dX6_figure_214 rfl ?_
                                    refine g_i2l (n := 218) C ((hS 4 10).2 (by decide)) dX6_figure_217 rfl ?_
                                    exact g_lret C rfl h rfl (r32_64 ((hS 4 10).2 (by decide))) hS dX6_figure_218
                                  · rw [if_neg hc50] at h
                                    by_cases hc51 : a0 = 17
                                    · rw [if_pos hc51] at h
                                      refine g_tabIn C 17 219 ha0 dX6_figure_1 hc51 (by decide) rfl (by decide) ?_
                                      refine g_aload_n (n := 220) C 0 dX6_figure_219 rfl rfl ?_
                                      refine g_getC (n := 223) C 4 4 rfl (Nat.le_of_ble_eq_true rfl) rfl rfl rfl (Nat.le_of_ble_eq_true rfl) in_X6_figure_X6 (by decide +kernel) dX6_figure_220 rfl ?_
                                      refine g_getIn (n := 226) C 10 2 rfl (Nat.le_of_ble_eq_true rfl) rfl rfl rfl (Nat.le_of_ble_eq_true rfl) in_X6_figure_X4 (C.2.2.2.2.2.2.1 rfl).1 dX6_figure_223 rfl ?_
                                      refine g_i2l (n := 227) C ((hS 10 2).2 (by decide)) dX6_figure_226 rfl ?_
                                      exact g_lret C rfl h rfl (r32_64 ((hS 10 2).2 (by decide))) hS dX6_figure_227
                                    · rw [if_neg hc51] at h
                                      refine g_tabOut C 228 ha0 dX6_figure_1 (by omega) (by decide) ?_
                                      refine g_ldc2 (n := 231) (a := (-1)) (v := (-1)) C (by decide +kernel) (by decide +kernel) dX6_figure_228 rfl ?_
                                      exact g_lret C rfl h rfl (by decide : r64 (-1)) hS dX6_figure_231
-- RX6 lineFigure
abbrev rm_X6_lineFigure : Room := ({ frames := 1, cells := 0, slots := 0, locals := 22 } : Room)
abbrev mi_X6_lineFigure : Mi := (cX6_lineFigure, 3, RX6, wsX6_lineFigure, rm_X6_lineFigure, (some .int))
set_option maxRecDepth 20000 in
theorem in_X6_lineFigure_X6 : ∀ w ∈ u_ws RX6 TX6 11, w ∈ wsX6_lineFigure := by decide +kernel
def dn_X6_lineFigure (a0 : Int) (a1 : Int) (S : St) : Option (St × Int) := (cal (dn_X8_within a0 0 11 S) fun S1 v2 => (if v2 = 0 then some (S1, (-1)) else (if 0 ≤ a0 ∧ a0 < 12 then (cal (dn_X3_figure a0 a1 S1) fun S6 v7 => some (S6, v7)) else none)))
set_option maxRecDepth 100000 in
set_option maxHeartbeats 4000000 in
theorem c_X6_lineFigure {l : Launch} {D : va_G} {t : T5} {ad : Nat → Nat} {S S0 : St} {r0 : Int} {a0 a1 : Int} (hS : RS S) (ha0 : r32 a0) (ha1 : r32 a1) (h : dn_X6_lineFigure a0 a1 S = some (S0, r0)) : Mc l (sX D t ad) yX6_lineFigure wsX6_lineFigure rm_X6_lineFigure [.ref (ad 4), vI a0, vI a1] acI S S0 r0 := by
  refine Mc_of (cc := cX6_lineFigure) (nL := 3) (ret := (some .int)) (by decide +kernel) rfl (Nat.le_of_ble_eq_true rfl) (lv := [(0, .ref (ad 4)), (1, vI a0), (2, vI a1)]) rfl (fun x C _ => ?_)
  unfold dn_X6_lineFigure at h
  show GW (sX D t ad) mi_X6_lineFigure (acI, S0, r0) x S 0 [(0, .ref (ad 4)), (1, vI a0), (2, vI a1)] []
  refine g_iload_n (n := 1) C 1 dX6_lineFigure_0 rfl rfl ?_
  refine g_iconst (n := 2) C dX6_lineFigure_1 rfl ?_
  refine g_bipush (n := 4) C dX6_lineFigure_2 (by decide +kernel) rfl ?_
  obtain ⟨S1, v2, hq3, h⟩ := cal_e h
  refine g_callSN (n := 7) (As := [vI a0, vI 0, vI 11]) (rest := []) C 3 (c_X8_within hS ha0 (by decide : r32 0) (by decide : r32 11) hq3) gX6_lineFigure_X8_within_n76 (C.2.2.2.2.2.2.1 rfl).2.2.2.2.1 (by decide +kernel) (by decide +kernel) rfl ⟨rfl, rfl⟩ (by decide +kernel) ⟨Nat.le_of_ble_eq_true rfl, Nat.le_of_ble_eq_true rfl⟩ rfl rfl (Nat.le_of_ble_eq_true rfl) dX6_lineFigure_4 rfl (fun hS1 hv2 => ?_)
  show GW (sX D t ad) mi_X6_lineFigure (acI, S0, r0) x S1 7 _ [vI v2]
  refine g_if_eq (n := 10) C 23 (z_r32 hv2) dX6_lineFigure_7 (by decide) rfl (fun (hc4 : v2 = 0) => ?_) (fun (hc4 : ¬ (v2 = 0)) => ?_)
  · rw [if_pos hc4] at h
    refine g_iconst (n := 24) C dX6_lineFigure_23 rfl ?_
    exact g_iret C rfl h rfl (by decide : r32 (-1)) hS1 dX6_lineFigure_24
  · rw [if_neg hc4] at h
    refine g_aload_n (n := 11) C 0 dX6_lineFigure_10 rfl rfl ?_
    refine g_getC (n := 14) C 4 1 rfl (Nat.le_of_ble_eq_true rfl) rfl rfl rfl (Nat.le_of_ble_eq_true rfl) in_X6_lineFigure_X6 (by decide +kernel) dX6_lineFigure_11 rfl ?_
    refine g_iload_n (n := 15) C 1 dX6_lineFigure_14 rfl rfl ?_
    obtain ⟨hg5, h⟩ := gd_e h
    refine g_rald (n := 16) C 5 rfl (Nat.le_of_ble_eq_true rfl) rfl (Or.inr rfl) rfl hg5 ha0 dX6_lineFigure_15 rfl ?_
    refine g_iload_n (n := 17) C 2 dX6_lineFigure_16 rfl rfl ?_
    obtain ⟨S6, v7, hq8, h⟩ := cal_e h
    refine g_callV (n := 20) (As := [vI a1]) (rest := []) C (a0.toNat + 18) 1 (tn_add hg5 (Nat.le_of_ble_eq_true rfl)) (dX_line (tn_lt hg5 (Nat.le_refl _))) rfl (c_X3_figure hS1 hg5 ha1 hq8) gX6_lineFigure_X3_figure rfl ⟨rfl, rfl⟩ (by decide +kernel) ⟨Nat.le_of_ble_eq_true rfl, Nat.le_of_ble_eq_true rfl⟩ (vR_pos hg5.1) rfl rfl (Nat.le_of_ble_eq_true rfl) dX6_lineFigure_17 rfl (fun hS6 hv7 => ?_)
    show GW (sX D t ad) mi_X6_lineFigure (acI, S0, r0) x S6 20 _ [vI v7]
    refine g_goto C 24 dX6_lineFigure_20 (by decide) ?_
    exact g_iret C rfl h rfl hv7 hS6 dX6_lineFigure_24
-- RX6 eventFigure
abbrev rm_X6_eventFigure : Room := ({ frames := 2, cells := 0, slots := 0, locals := 44 } : Room)
abbrev mi_X6_eventFigure : Mi := (cX6_eventFigure, 3, RX6, wsX6_eventFigure, rm_X6_eventFigure, (some .int))
set_option maxRecDepth 20000 in
theorem in_X6_eventFigure_X6 : ∀ w ∈ u_ws RX6 TX6 11, w ∈ wsX6_eventFigure := by decide +kernel
def dn_X6_eventFigure (a0 : Int) (a1 : Int) (S : St) : Option (St × Int) := (cal (dn_X4_figure a0 a1 S) fun S1 v2 => some (S1, v2))
set_option maxRecDepth 100000 in
set_option maxHeartbeats 4000000 in
theorem c_X6_eventFigure {l : Launch} {D : va_G} {t : T5} {ad : Nat → Nat} {S S0 : St} {r0 : Int} {a0 a1 : Int} (hS : RS S) (ha0 : r32 a0) (ha1 : r32 a1) (h : dn_X6_eventFigure a0 a1 S = some (S0, r0)) : Mc l (sX D t ad) yX6_eventFigure wsX6_eventFigure rm_X6_eventFigure [.ref (ad 4), vI a0, vI a1] acI S S0 r0 := by
  refine Mc_of (cc := cX6_eventFigure) (nL := 3) (ret := (some .int)) (by decide +kernel) rfl (Nat.le_of_ble_eq_true rfl) (lv := [(0, .ref (ad 4)), (1, vI a0), (2, vI a1)]) rfl (fun x C _ => ?_)
  unfold dn_X6_eventFigure at h
  show GW (sX D t ad) mi_X6_eventFigure (acI, S0, r0) x S 0 [(0, .ref (ad 4)), (1, vI a0), (2, vI a1)] []
  refine g_aload_n (n := 1) C 0 dX6_eventFigure_0 rfl rfl ?_
  refine g_getC (n := 4) C 4 4 rfl (Nat.le_of_ble_eq_true rfl) rfl rfl rfl (Nat.le_of_ble_eq_true rfl) in_X6_eventFigure_X6 (by decide +kernel) dX6_eventFigure_1 rfl ?_
  refine g_iload_n (n := 5) C 1 dX6_eventFigure_4 rfl rfl ?_
  refine g_iload_n (n := 6) C 2 dX6_eventFigure_5 rfl rfl ?_
  obtain ⟨S1, v2, hq3, h⟩ := cal_e h
  refine g_callV (n := 9) (As := [vI a0, vI a1]) (rest := []) C 10 2 (Nat.le_of_ble_eq_true rfl) rfl rfl (c_X4_figure hS ha0 ha1 hq3) gX6_eventFigure_X4_figure rfl ⟨rfl, rfl⟩ (by decide +kernel) ⟨Nat.le_of_ble_eq_true rfl, Nat.le_of_ble_eq_true rfl⟩ rfl rfl rfl (Nat.le_of_ble_eq_true rfl) dX6_eventFigure_6 rfl (fun hS1 hv2 => ?_)
  show GW (sX D t ad) mi_X6_eventFigure (acI, S0, r0) x S1 9 _ [vI v2]
  exact g_iret C rfl h rfl hv2 hS1 dX6_eventFigure_9
-- RX6 hasCaller
abbrev rm_X6_hasCaller : Room := ({ frames := 1, cells := 0, slots := 0, locals := 22 } : Room)
abbrev mi_X6_hasCaller : Mi := (cX6_hasCaller, 2, RX6, wsX6_hasCaller, rm_X6_hasCaller, (some .boolean))
set_option maxRecDepth 20000 in
theorem in_X6_hasCaller_X6 : ∀ w ∈ u_ws RX6 TX6 11, w ∈ wsX6_hasCaller := by decide +kernel
def dn_X6_hasCaller (a0 : Int) (S : St) : Option (St × Int) := (cal (dn_X8_within a0 0 (w32 ((S 4 5) - 1)) S) fun S1 v2 => some (S1, v2))
set_option maxRecDepth 100000 in
set_option maxHeartbeats 4000000 in
theorem c_X6_hasCaller {l : Launch} {D : va_G} {t : T5} {ad : Nat → Nat} {S S0 : St} {r0 : Int} {a0 : Int} (hS : RS S) (ha0 : r32 a0) (h : dn_X6_hasCaller a0 S = some (S0, r0)) : Mc l (sX D t ad) yX6_hasCaller wsX6_hasCaller rm_X6_hasCaller [.ref (ad 4), vI a0] acZ S S0 r0 := by
  refine Mc_of (cc := cX6_hasCaller) (nL := 2) (ret := (some .boolean)) (by decide +kernel) rfl (Nat.le_of_ble_eq_true rfl) (lv := [(0, .ref (ad 4)), (1, vI a0)]) rfl (fun x C _ => ?_)
  unfold dn_X6_hasCaller at h
  show GW (sX D t ad) mi_X6_hasCaller (acZ, S0, r0) x S 0 [(0, .ref (ad 4)), (1, vI a0)] []
  refine g_iload_n (n := 1) C 1 dX6_hasCaller_0 rfl rfl ?_
  refine g_iconst (n := 2) C dX6_hasCaller_1 rfl ?_
  refine g_aload_n (n := 3) C 0 dX6_hasCaller_2 rfl rfl ?_
  refine g_getI (n := 6) C 4 5 rfl (Nat.le_of_ble_eq_true rfl) rfl rfl rfl (Nat.le_of_ble_eq_true rfl) in_X6_hasCaller_X6 (by decide +kernel) dX6_hasCaller_3 rfl ?_
  refine g_iconst (n := 7) C dX6_hasCaller_6 rfl ?_
  refine g_isub (n := 8) C dX6_hasCaller_7 rfl ?_
  obtain ⟨S1, v2, hq3, h⟩ := cal_e h
  refine g_callSN (n := 11) (As := [vI a0, vI 0, vI (w32 ((S 4 5) - 1))]) (rest := []) C 3 (c_X8_within hS ha0 (by decide : r32 0) (w32_r _) hq3) gX6_hasCaller_X8_within_n76 (C.2.2.2.2.2.2.1 rfl).2.2.2.2.1 (by decide +kernel) (by decide +kernel) rfl ⟨rfl, rfl⟩ (by decide +kernel) ⟨Nat.le_of_ble_eq_true rfl, Nat.le_of_ble_eq_true rfl⟩ rfl rfl (Nat.le_of_ble_eq_true rfl) dX6_hasCaller_8 rfl (fun hS1 hv2 => ?_)
  show GW (sX D t ad) mi_X6_hasCaller (acZ, S0, r0) x S1 11 _ [vI v2]
  exact g_zret C rfl hv2 h rfl hv2 hS1 dX6_hasCaller_11
-- RX6 callerFigure
abbrev rm_X6_callerFigure : Room := ({ frames := 2, cells := 0, slots := 0, locals := 44 } : Room)
abbrev mi_X6_callerFigure : Mi := (cX6_callerFigure, 4, RX6, wsX6_callerFigure, rm_X6_callerFigure, (some .int))
set_option maxRecDepth 20000 in
theorem in_X6_callerFigure_X1 : ∀ w ∈ u_ws RX1 TX1 10, w ∈ wsX6_callerFigure := by decide +kernel
set_option maxRecDepth 20000 in
theorem in_X6_callerFigure_X6 : ∀ w ∈ u_ws RX6 TX6 11, w ∈ wsX6_callerFigure := by decide +kernel
def dn_X6_callerFigure (a0 : Int) (a1 : Int) (S : St) : Option (St × Int) := (if 0 ≤ a0 ∧ a0 < 60 then (if a1 = 0 then some (S, S (a0.toNat + 30) 6) else (if a1 = 1 then some (S, S (a0.toNat + 30) 7) else (if a1 = 2 then (cal (dn_X6_linesLentTo a0 S) fun S5 v6 => some (S5, v6)) else (if a1 = 3 then some (S, S (a0.toNat + 30) 8) else (if a1 = 4 then some (S, S (a0.toNat + 30) 1) else (if a1 = 5 then some (S, S (a0.toNat + 30) 2) else some (S, (-1)))))))) else none)
set_option maxRecDepth 100000 in
set_option maxHeartbeats 4000000 in
theorem c_X6_callerFigure {l : Launch} {D : va_G} {t : T5} {ad : Nat → Nat} {S S0 : St} {r0 : Int} {a0 a1 : Int} (hS : RS S) (ha0 : r32 a0) (ha1 : r32 a1) (h : dn_X6_callerFigure a0 a1 S = some (S0, r0)) : Mc l (sX D t ad) yX6_callerFigure wsX6_callerFigure rm_X6_callerFigure [.ref (ad 4), vI a0, vI a1] acI S S0 r0 := by
  refine Mc_of (cc := cX6_callerFigure) (nL := 4) (ret := (some .int)) (by decide +kernel) rfl (Nat.le_of_ble_eq_true rfl) (lv := [(0, .ref (ad 4)), (1, vI a0), (2, vI a1)]) rfl (fun x C _ => ?_)
  unfold dn_X6_callerFigure at h
  show GW (sX D t ad) mi_X6_callerFigure (acI, S0, r0) x S 0 [(0, .ref (ad 4)), (1, vI a0), (2, vI a1)] []
  refine g_aload_n (n := 1) C 0 dX6_callerFigure_0 rfl rfl ?_
  refine g_getC (n := 4) C 4 2 rfl (Nat.le_of_ble_eq_true rfl) rfl rfl rfl (Nat.le_of_ble_eq_true rfl) in_X6_callerFigure_X6 (by decide +kernel) dX6_callerFigure_1 rfl ?_
  refine g_iload_n (n := 5) C 1 dX6_callerFigure_4 rfl rfl ?_
  obtain ⟨hg1, h⟩ := gd_e h
  refine g_rald (n := 6) C 6 rfl (Nat.le_of_ble_eq_true rfl) rfl (Or.inl rfl) rfl hg1 ha0 dX6_callerFigure_5 rfl ?_
  refine g_rstore_n (n := 7) (lv' := [(3, vR ad 30 a0), (0, .ref (ad 4)), (1, vI a0), (2, vI a1)]) C dX6_callerFigure_6 (Nat.le_of_ble_eq_true rfl) rfl rfl ?_
  refine g_iload_n (n := 8) C 3 dX6_callerFigure_7 rfl rfl ?_
  by_cases hc2 : a1 = 0
  · rw [if_pos hc2] at h
    refine g_tabIn C 0 48 ha1 dX6_callerFigure_8 hc2 (by decide) rfl (by decide) ?_
    refine g_rload_n (n := 49) C 0 dX6_callerFigure_48 rfl rfl ?_
    refine g_getI (n := 52) C (a0.toNat + 30) 6 (vR_pos hg1.1) (tn_add hg1 (Nat.le_of_ble_eq_true rfl)) (dX_call (tn_lt hg1 (Nat.le_refl _))) rfl rfl (Nat.le_of_ble_eq_true rfl) in_X6_callerFigure_X1 (by decide +kernel) dX6_callerFigure_49 rfl ?_
    exact g_iret C rfl h rfl ((hS (a0.toNat + 30) 6).2 (by decide)) hS dX6_callerFigure_52
  · rw [if_neg hc2] at h
    by_cases hc3 : a1 = 1
    · rw [if_pos hc3] at h
      refine g_tabIn C 1 53 ha1 dX6_callerFigure_8 hc3 (by decide) rfl (by decide) ?_
      refine g_rload_n (n := 54) C 0 dX6_callerFigure_53 rfl rfl ?_
      refine g_getI (n := 57) C (a0.toNat + 30) 7 (vR_pos hg1.1) (tn_add hg1 (Nat.le_of_ble_eq_true rfl)) (dX_call (tn_lt hg1 (Nat.le_refl _))) rfl rfl (Nat.le_of_ble_eq_true rfl) in_X6_callerFigure_X1 (by decide +kernel) dX6_callerFigure_54 rfl ?_
      exact g_iret C rfl h rfl ((hS (a0.toNat + 30) 7).2 (by decide)) hS dX6_callerFigure_57
    · rw [if_neg hc3] at h
      by_cases hc4 : a1 = 2
      · rw [if_pos hc4] at h
        refine g_tabIn C 2 58 ha1 dX6_callerFigure_8 hc4 (by decide) rfl (by decide) ?_
        refine g_aload_n (n := 59) C 1 dX6_callerFigure_58 rfl rfl ?_
        refine g_rload_n (n := 60) C 0 dX6_callerFigure_59 rfl rfl ?_
        obtain ⟨S5, v6, hq7, h⟩ := cal_e h
        refine g_callV (n := 63) (As := [vR ad 30 a0]) (rest := []) C 4 1 (Nat.le_of_ble_eq_true rfl) rfl rfl (c_X6_linesLentTo hS (ix_rg hg1) hq7) gX6_callerFigure_X6_linesLentTo rfl ⟨rfl, rfl⟩ (by decide +kernel) ⟨Nat.le_of_ble_eq_true rfl, Nat.le_of_ble_eq_true rfl⟩ rfl rfl rfl (Nat.le_of_ble_eq_true rfl) dX6_callerFigure_60 rfl (fun hS5 hv6 => ?_)
        show GW (sX D t ad) mi_X6_callerFigure (acI, S0, r0) x S5 63 _ [vI v6]
        exact g_iret C rfl h rfl hv6 hS5 dX6_callerFigure_63
      · rw [if_neg hc4] at h
        by_cases hc8 : a1 = 3
        · rw [if_pos hc8] at h
          refine g_tabIn C 3 64 ha1 dX6_callerFigure_8 hc8 (by decide) rfl (by decide) ?_
          refine g_rload_n (n := 65) C 0 dX6_callerFigure_64 rfl rfl ?_
          refine g_getI (n := 68) C (a0.toNat + 30) 8 (vR_pos hg1.1) (tn_add hg1 (Nat.le_of_ble_eq_true rfl)) (dX_call (tn_lt hg1 (Nat.le_refl _))) rfl rfl (Nat.le_of_ble_eq_true rfl) in_X6_callerFigure_X1 (by decide +kernel) dX6_callerFigure_65 rfl ?_
          exact g_iret C rfl h rfl ((hS (a0.toNat + 30) 8).2 (by decide)) hS dX6_callerFigure_68
        · rw [if_neg hc8] at h
          by_cases hc9 : a1 = 4
          · rw [if_pos hc9] at h
            refine g_tabIn C 4 69 ha1 dX6_callerFigure_8 hc9 (by decide) rfl (by decide) ?_
            refine g_rload_n (n := 70) C 0 dX6_callerFigure_69 rfl rfl ?_
            refine g_getI (n := 73) C (a0.toNat + 30) 1 (vR_pos hg1.1) (tn_add hg1 (Nat.le_of_ble_eq_true rfl)) (dX_call (tn_lt hg1 (Nat.le_refl _))) rfl rfl (Nat.le_of_ble_eq_true rfl) in_X6_callerFigure_X1 (by decide +kernel) dX6_callerFigure_70 rfl ?_
            exact g_iret C rfl h rfl ((hS (a0.toNat + 30) 1).2 (by decide)) hS dX6_callerFigure_73
          · rw [if_neg hc9] at h
            by_cases hc10 : a1 = 5
            · rw [if_pos hc10] at h
              refine g_tabIn C 5 74 ha1 dX6_callerFigure_8 hc10 (by decide) rfl (by decide) ?_
              refine g_rload_n (n := 75) C 0 dX6_callerFigure_74 rfl rfl ?_
              refine g_getI (n := 78) C (a0.toNat + 30) 2 (vR_pos hg1.1) (tn_add hg1 (Nat.le_of_ble_eq_true rfl)) (dX_call (tn_lt hg1 (Nat.le_refl _))) rfl rfl (Nat.le_of_ble_eq_true rfl) in_X6_callerFigure_X1 (by decide +kernel) dX6_callerFigure_75 rfl ?_
              exact g_iret C rfl h rfl ((hS (a0.toNat + 30) 2).2 (by decide)) hS dX6_callerFigure_78
            · rw [if_neg hc10] at h
              refine g_tabOut C 79 ha1 dX6_callerFigure_8 (by omega) (by decide) ?_
              refine g_iconst (n := 80) C dX6_callerFigure_79 rfl ?_
              exact g_iret C rfl h rfl (by decide : r32 (-1)) hS dX6_callerFigure_80
-- RX7 changeSpeed
abbrev rm_X7_changeSpeed : Room := ({ frames := 1, cells := 0, slots := 0, locals := 22 } : Room)
abbrev mi_X7_changeSpeed : Mi := (cX7_changeSpeed, 3, RX7, wsX7_changeSpeed, rm_X7_changeSpeed, (some .boolean))
set_option maxRecDepth 20000 in
theorem in_X7_changeSpeed_X7 : ∀ w ∈ u_ws RX7 TX7 2, w ∈ wsX7_changeSpeed := by decide +kernel
def dn_X7_changeSpeed (a0 : Int) (a1 : Int) (S : St) : Option (St × Int) := (cal (dn_X8_within a0 1 12 S) fun S1 v2 => (if v2 = 0 then some (S1, 0) else (cal (dn_X8_within a1 1 100 S1) fun S5 v6 => (if v6 = 0 then some (S5, 0) else (if 0 ≤ w32 (a0 - 1) ∧ w32 (a0 - 1) < 12 then (nmS (stU S5 3 (w32 (a0 - 1)).toNat a1) fun S10 => some (S10, 1)) else none)))))
set_option maxRecDepth 100000 in
set_option maxHeartbeats 4000000 in
theorem c_X7_changeSpeed {l : Launch} {D : va_G} {t : T5} {ad : Nat → Nat} {S S0 : St} {r0 : Int} {a0 a1 : Int} (hS : RS S) (ha0 : r32 a0) (ha1 : r32 a1) (h : dn_X7_changeSpeed a0 a1 S = some (S0, r0)) : Mc l (sX D t ad) yX7_changeSpeed wsX7_changeSpeed rm_X7_changeSpeed [.ref (ad 1), vI a0, vI a1] acZ S S0 r0 := by
  refine Mc_of (cc := cX7_changeSpeed) (nL := 3) (ret := (some .boolean)) (by decide +kernel) rfl (Nat.le_of_ble_eq_true rfl) (lv := [(0, .ref (ad 1)), (1, vI a0), (2, vI a1)]) rfl (fun x C _ => ?_)
  unfold dn_X7_changeSpeed at h
  show GW (sX D t ad) mi_X7_changeSpeed (acZ, S0, r0) x S 0 [(0, .ref (ad 1)), (1, vI a0), (2, vI a1)] []
  refine g_iload_n (n := 1) C 1 dX7_changeSpeed_0 rfl rfl ?_
  refine g_iconst (n := 2) C dX7_changeSpeed_1 rfl ?_
  refine g_bipush (n := 4) C dX7_changeSpeed_2 (by decide +kernel) rfl ?_
  obtain ⟨S1, v2, hq3, h⟩ := cal_e h
  refine g_callSN (n := 7) (As := [vI a0, vI 1, vI 12]) (rest := []) C 3 (c_X8_within hS ha0 (by decide : r32 1) (by decide : r32 12) hq3) gX7_changeSpeed_X8_within_n26 (C.2.2.2.2.2.2.1 rfl).2.2.2.2.2 (by decide +kernel) (by decide +kernel) rfl ⟨rfl, rfl⟩ (by decide +kernel) ⟨Nat.le_of_ble_eq_true rfl, Nat.le_of_ble_eq_true rfl⟩ rfl rfl (Nat.le_of_ble_eq_true rfl) dX7_changeSpeed_4 rfl (fun hS1 hv2 => ?_)
  show GW (sX D t ad) mi_X7_changeSpeed (acZ, S0, r0) x S1 7 _ [vI v2]
  refine g_if_eq (n := 10) C 20 (z_r32 hv2) dX7_changeSpeed_7 (by decide) rfl (fun (hc4 : v2 = 0) => ?_) (fun (hc4 : ¬ (v2 = 0)) => ?_)
  · rw [if_pos hc4] at h
    refine g_iconst (n := 21) C dX7_changeSpeed_20 rfl ?_
    exact g_zret C rfl (Or.inl rfl) h rfl (Or.inl rfl) hS1 dX7_changeSpeed_21
  · rw [if_neg hc4] at h
    refine g_iload_n (n := 11) C 2 dX7_changeSpeed_10 rfl rfl ?_
    refine g_iconst (n := 12) C dX7_changeSpeed_11 rfl ?_
    refine g_bipush (n := 14) C dX7_changeSpeed_12 (by decide +kernel) rfl ?_
    obtain ⟨S5, v6, hq7, h⟩ := cal_e h
    refine g_callSN (n := 17) (As := [vI a1, vI 1, vI 100]) (rest := []) C 3 (c_X8_within hS1 ha1 (by decide : r32 1) (by decide : r32 100) hq7) gX7_changeSpeed_X8_within_n26 (C.2.2.2.2.2.2.1 rfl).2.2.2.2.2 (by decide +kernel) (by decide +kernel) rfl ⟨rfl, rfl⟩ (by decide +kernel) ⟨Nat.le_of_ble_eq_true rfl, Nat.le_of_ble_eq_true rfl⟩ rfl rfl (Nat.le_of_ble_eq_true rfl) dX7_changeSpeed_14 rfl (fun hS5 hv6 => ?_)
    show GW (sX D t ad) mi_X7_changeSpeed (acZ, S0, r0) x S5 17 _ [vI v6]
    refine g_if_ne (n := 20) C 22 (z_r32 hv6) dX7_changeSpeed_17 (by decide) rfl (fun (hc8 : ¬ (v6 = 0)) => ?_) (fun (hc8 : v6 = 0) => ?_)
    · rw [if_neg hc8] at h
      refine g_aload_n (n := 23) C 0 dX7_changeSpeed_22 rfl rfl ?_
      refine g_getC (n := 26) C 1 1 rfl (Nat.le_of_ble_eq_true rfl) rfl rfl rfl (Nat.le_of_ble_eq_true rfl) in_X7_changeSpeed_X7 (by decide +kernel) dX7_changeSpeed_23 rfl ?_
      refine g_iload_n (n := 27) C 1 dX7_changeSpeed_26 rfl rfl ?_
      refine g_iconst (n := 28) C dX7_changeSpeed_27 rfl ?_
      refine g_isub (n := 29) C dX7_changeSpeed_28 rfl ?_
      refine g_iload_n (n := 30) C 2 dX7_changeSpeed_29 rfl rfl ?_
      obtain ⟨hg9, h⟩ := gd_e h
      obtain ⟨S10, eS10, h⟩ := nmS_e h
      have hS10 : RS S10 := by rw [eS10]; exact RS_i hS5 ha1
      refine g_iast (n := 31) C 3 rfl (Nat.le_of_ble_eq_true rfl) rfl rfl hg9 (w32_r _) eS10 dX7_changeSpeed_30 rfl ?_
      refine g_iconst (n := 32) C dX7_changeSpeed_31 rfl ?_
      exact g_zret C rfl (Or.inr rfl) h rfl (Or.inr rfl) hS10 dX7_changeSpeed_32
    · rw [if_pos hc8] at h
      refine g_iconst (n := 21) C dX7_changeSpeed_20 rfl ?_
      exact g_zret C rfl (Or.inl rfl) h rfl (Or.inl rfl) hS5 dX7_changeSpeed_21
