-- RX8 speed
abbrev rm_X8_speed : Room := ({ frames := 2, cells := 0, slots := 0, locals := 44 } : Room)
abbrev mi_X8_speed : Mi := (cX8_speed, 3, RX8, wsX8_speed, rm_X8_speed, (some .boolean))
set_option maxRecDepth 20000 in
theorem in_X8_speed_X8 : ∀ w ∈ u_ws RX8 TX8 4, w ∈ wsX8_speed := by decide +kernel
def dn_X8_speed (a0 : Int) (a1 : Int) (S : St) : Option (St × Int) := (cal (dn_X7_changeSpeed a0 a1 S) fun S1 v2 => some (S1, v2))
set_option maxRecDepth 100000 in
set_option maxHeartbeats 4000000 in
theorem c_X8_speed {l : Launch} {D : va_G} {t : T5} {ad : Nat → Nat} {S S0 : St} {r0 : Int} {a0 a1 : Int} (hS : RS S) (ha0 : r32 a0) (ha1 : r32 a1) (h : dn_X8_speed a0 a1 S = some (S0, r0)) : Mc l (sX D t ad) yX8_speed wsX8_speed rm_X8_speed [.ref (ad 0), vI a0, vI a1] acZ S S0 r0 := by
  refine Mc_of (cc := cX8_speed) (nL := 3) (ret := (some .boolean)) (by decide +kernel) rfl (Nat.le_of_ble_eq_true rfl) (lv := [(0, .ref (ad 0)), (1, vI a0), (2, vI a1)]) rfl (fun x C _ => ?_)
  unfold dn_X8_speed at h
  show GW (sX D t ad) mi_X8_speed (acZ, S0, r0) x S 0 [(0, .ref (ad 0)), (1, vI a0), (2, vI a1)] []
  refine g_aload_n (n := 1) C 0 dX8_speed_0 rfl rfl ?_
  refine g_getC (n := 4) C 0 0 rfl (Nat.le_of_ble_eq_true rfl) rfl rfl rfl (Nat.le_of_ble_eq_true rfl) in_X8_speed_X8 (by decide +kernel) dX8_speed_1 rfl ?_
  refine g_iload_n (n := 5) C 1 dX8_speed_4 rfl rfl ?_
  refine g_iload_n (n := 6) C 2 dX8_speed_5 rfl rfl ?_
  obtain ⟨S1, v2, hq3, h⟩ := cal_e h
  refine g_callV (n := 9) (As := [vI a0, vI a1]) (rest := []) C 1 2 (Nat.le_of_ble_eq_true rfl) rfl rfl (c_X7_changeSpeed hS ha0 ha1 hq3) gX8_speed_X7_changeSpeed rfl ⟨rfl, rfl⟩ (by decide +kernel) ⟨Nat.le_of_ble_eq_true rfl, Nat.le_of_ble_eq_true rfl⟩ rfl rfl rfl (Nat.le_of_ble_eq_true rfl) dX8_speed_6 rfl (fun hS1 hv2 => ?_)
  show GW (sX D t ad) mi_X8_speed (acZ, S0, r0) x S1 9 _ [vI v2]
  exact g_zret C rfl hv2 h rfl hv2 hS1 dX8_speed_9
-- RX8 caller
abbrev rm_X8_caller : Room := ({ frames := 2, cells := 0, slots := 0, locals := 50 } : Room)
abbrev mi_X8_caller : Mi := (cX8_caller, 6, RX8, wsX8_caller, rm_X8_caller, (some .int))
set_option maxRecDepth 20000 in
theorem in_X8_caller_X8 : ∀ w ∈ u_ws RX8 TX8 4, w ∈ wsX8_caller := by decide +kernel
def dn_X8_caller (a0 : Int) (a1 : Int) (a2 : Int) (a3 : Int) (a4 : Int) (S : St) : Option (St × Int) := (cal (dn_X1_allows a0 a1 a2 a3 S) fun S1 v2 => (if v2 = 0 then some (S1, (-1)) else (cal (dn_X6_isAhead a4 S1) fun S5 v6 => (if v6 = 0 then some (S5, (-1)) else (cal (dn_X6_addCaller a0 a1 a2 a3 a4 S5) fun S9 v10 => some (S9, v10))))))
set_option maxRecDepth 100000 in
set_option maxHeartbeats 4000000 in
theorem c_X8_caller {l : Launch} {D : va_G} {t : T5} {ad : Nat → Nat} {S S0 : St} {r0 : Int} {a0 a1 a2 a3 a4 : Int} (hS : RS S) (ha0 : r32 a0) (ha1 : r32 a1) (ha2 : r32 a2) (ha3 : r32 a3) (ha4 : r32 a4) (h : dn_X8_caller a0 a1 a2 a3 a4 S = some (S0, r0)) : Mc l (sX D t ad) yX8_caller wsX8_caller rm_X8_caller [.ref (ad 0), vI a0, vI a1, vI a2, vI a3, vI a4] acI S S0 r0 := by
  refine Mc_of (cc := cX8_caller) (nL := 6) (ret := (some .int)) (by decide +kernel) rfl (Nat.le_of_ble_eq_true rfl) (lv := [(0, .ref (ad 0)), (1, vI a0), (2, vI a1), (3, vI a2), (4, vI a3), (5, vI a4)]) rfl (fun x C _ => ?_)
  unfold dn_X8_caller at h
  show GW (sX D t ad) mi_X8_caller (acI, S0, r0) x S 0 [(0, .ref (ad 0)), (1, vI a0), (2, vI a1), (3, vI a2), (4, vI a3), (5, vI a4)] []
  refine g_iload_n (n := 1) C 1 dX8_caller_0 rfl rfl ?_
  refine g_iload_n (n := 2) C 2 dX8_caller_1 rfl rfl ?_
  refine g_iload_n (n := 3) C 3 dX8_caller_2 rfl rfl ?_
  refine g_iload (n := 5) C 4 dX8_caller_3 rfl rfl ?_
  obtain ⟨S1, v2, hq3, h⟩ := cal_e h
  refine g_callT (n := 8) (As := [vI a0, vI a1, vI a2, vI a3]) (rest := []) C 4 (c_X1_allows hS ha0 ha1 ha2 ha3 hq3) gX8_caller_X1_allows rfl ⟨rfl, rfl⟩ (by decide +kernel) ⟨Nat.le_of_ble_eq_true rfl, Nat.le_of_ble_eq_true rfl⟩ rfl rfl (Nat.le_of_ble_eq_true rfl) dX8_caller_5 rfl (fun hS1 hv2 => ?_)
  show GW (sX D t ad) mi_X8_caller (acI, S0, r0) x S1 8 _ [vI v2]
  refine g_if_eq (n := 11) C 23 (z_r32 hv2) dX8_caller_8 (by decide) rfl (fun (hc4 : v2 = 0) => ?_) (fun (hc4 : ¬ (v2 = 0)) => ?_)
  · rw [if_pos hc4] at h
    refine g_iconst (n := 24) C dX8_caller_23 rfl ?_
    exact g_iret C rfl h rfl (by decide : r32 (-1)) hS1 dX8_caller_24
  · rw [if_neg hc4] at h
    refine g_aload_n (n := 12) C 0 dX8_caller_11 rfl rfl ?_
    refine g_getC (n := 15) C 0 1 rfl (Nat.le_of_ble_eq_true rfl) rfl rfl rfl (Nat.le_of_ble_eq_true rfl) in_X8_caller_X8 (by decide +kernel) dX8_caller_12 rfl ?_
    refine g_iload (n := 17) C 5 dX8_caller_15 rfl rfl ?_
    obtain ⟨S5, v6, hq7, h⟩ := cal_e h
    refine g_callV (n := 20) (As := [vI a4]) (rest := []) C 4 1 (Nat.le_of_ble_eq_true rfl) rfl rfl (c_X6_isAhead hS1 ha4 hq7) gX8_caller_X6_isAhead rfl ⟨rfl, rfl⟩ (by decide +kernel) ⟨Nat.le_of_ble_eq_true rfl, Nat.le_of_ble_eq_true rfl⟩ rfl rfl rfl (Nat.le_of_ble_eq_true rfl) dX8_caller_17 rfl (fun hS5 hv6 => ?_)
    show GW (sX D t ad) mi_X8_caller (acI, S0, r0) x S5 20 _ [vI v6]
    refine g_if_ne (n := 23) C 25 (z_r32 hv6) dX8_caller_20 (by decide) rfl (fun (hc8 : ¬ (v6 = 0)) => ?_) (fun (hc8 : v6 = 0) => ?_)
    · rw [if_neg hc8] at h
      refine g_aload_n (n := 26) C 0 dX8_caller_25 rfl rfl ?_
      refine g_getC (n := 29) C 0 1 rfl (Nat.le_of_ble_eq_true rfl) rfl rfl rfl (Nat.le_of_ble_eq_true rfl) in_X8_caller_X8 (by decide +kernel) dX8_caller_26 rfl ?_
      refine g_iload_n (n := 30) C 1 dX8_caller_29 rfl rfl ?_
      refine g_iload_n (n := 31) C 2 dX8_caller_30 rfl rfl ?_
      refine g_iload_n (n := 32) C 3 dX8_caller_31 rfl rfl ?_
      refine g_iload (n := 34) C 4 dX8_caller_32 rfl rfl ?_
      refine g_iload (n := 36) C 5 dX8_caller_34 rfl rfl ?_
      obtain ⟨S9, v10, hq11, h⟩ := cal_e h
      refine g_callV (n := 39) (As := [vI a0, vI a1, vI a2, vI a3, vI a4]) (rest := []) C 4 5 (Nat.le_of_ble_eq_true rfl) rfl rfl (c_X6_addCaller hS5 ha0 ha1 ha2 ha3 ha4 hq11) gX8_caller_X6_addCaller rfl ⟨rfl, rfl⟩ (by decide +kernel) ⟨Nat.le_of_ble_eq_true rfl, Nat.le_of_ble_eq_true rfl⟩ rfl rfl rfl (Nat.le_of_ble_eq_true rfl) dX8_caller_36 rfl (fun hS9 hv10 => ?_)
      show GW (sX D t ad) mi_X8_caller (acI, S0, r0) x S9 39 _ [vI v10]
      exact g_iret C rfl h rfl hv10 hS9 dX8_caller_39
    · rw [if_pos hc8] at h
      refine g_iconst (n := 24) C dX8_caller_23 rfl ?_
      exact g_iret C rfl h rfl (by decide : r32 (-1)) hS5 dX8_caller_24
-- RX8 broken
abbrev rm_X8_broken : Room := ({ frames := 2, cells := 0, slots := 0, locals := 44 } : Room)
abbrev mi_X8_broken : Mi := (cX8_broken, 3, RX8, wsX8_broken, rm_X8_broken, (some .boolean))
set_option maxRecDepth 20000 in
theorem in_X8_broken_X8 : ∀ w ∈ u_ws RX8 TX8 4, w ∈ wsX8_broken := by decide +kernel
def dn_X8_broken (a0 : Int) (a1 : Int) (S : St) : Option (St × Int) := (cal (dn_X6_isAhead a0 S) fun S1 v2 => (if v2 = 0 then some (S1, 0) else (cal (dn_X6_addBreak a0 a1 S1) fun S5 v6 => (if v6 = 0 then some (S5, 0) else some (S5, 1)))))
set_option maxRecDepth 100000 in
set_option maxHeartbeats 4000000 in
theorem c_X8_broken {l : Launch} {D : va_G} {t : T5} {ad : Nat → Nat} {S S0 : St} {r0 : Int} {a0 a1 : Int} (hS : RS S) (ha0 : r32 a0) (ha1 : r32 a1) (h : dn_X8_broken a0 a1 S = some (S0, r0)) : Mc l (sX D t ad) yX8_broken wsX8_broken rm_X8_broken [.ref (ad 0), vI a0, vI a1] acZ S S0 r0 := by
  refine Mc_of (cc := cX8_broken) (nL := 3) (ret := (some .boolean)) (by decide +kernel) rfl (Nat.le_of_ble_eq_true rfl) (lv := [(0, .ref (ad 0)), (1, vI a0), (2, vI a1)]) rfl (fun x C _ => ?_)
  unfold dn_X8_broken at h
  show GW (sX D t ad) mi_X8_broken (acZ, S0, r0) x S 0 [(0, .ref (ad 0)), (1, vI a0), (2, vI a1)] []
  refine g_aload_n (n := 1) C 0 dX8_broken_0 rfl rfl ?_
  refine g_getC (n := 4) C 0 1 rfl (Nat.le_of_ble_eq_true rfl) rfl rfl rfl (Nat.le_of_ble_eq_true rfl) in_X8_broken_X8 (by decide +kernel) dX8_broken_1 rfl ?_
  refine g_iload_n (n := 5) C 1 dX8_broken_4 rfl rfl ?_
  obtain ⟨S1, v2, hq3, h⟩ := cal_e h
  refine g_callV (n := 8) (As := [vI a0]) (rest := []) C 4 1 (Nat.le_of_ble_eq_true rfl) rfl rfl (c_X6_isAhead hS ha0 hq3) gX8_broken_X6_isAhead rfl ⟨rfl, rfl⟩ (by decide +kernel) ⟨Nat.le_of_ble_eq_true rfl, Nat.le_of_ble_eq_true rfl⟩ rfl rfl rfl (Nat.le_of_ble_eq_true rfl) dX8_broken_5 rfl (fun hS1 hv2 => ?_)
  show GW (sX D t ad) mi_X8_broken (acZ, S0, r0) x S1 8 _ [vI v2]
  refine g_if_eq (n := 11) C 27 (z_r32 hv2) dX8_broken_8 (by decide) rfl (fun (hc4 : v2 = 0) => ?_) (fun (hc4 : ¬ (v2 = 0)) => ?_)
  · rw [if_pos hc4] at h
    refine g_iconst (n := 28) C dX8_broken_27 rfl ?_
    exact g_zret C rfl (Or.inl rfl) h rfl (Or.inl rfl) hS1 dX8_broken_28
  · rw [if_neg hc4] at h
    refine g_aload_n (n := 12) C 0 dX8_broken_11 rfl rfl ?_
    refine g_getC (n := 15) C 0 1 rfl (Nat.le_of_ble_eq_true rfl) rfl rfl rfl (Nat.le_of_ble_eq_true rfl) in_X8_broken_X8 (by decide +kernel) dX8_broken_12 rfl ?_
    refine g_iload_n (n := 16) C 1 dX8_broken_15 rfl rfl ?_
    refine g_iload_n (n := 17) C 2 dX8_broken_16 rfl rfl ?_
    obtain ⟨S5, v6, hq7, h⟩ := cal_e h
    refine g_callV (n := 20) (As := [vI a0, vI a1]) (rest := []) C 4 2 (Nat.le_of_ble_eq_true rfl) rfl rfl (c_X6_addBreak hS1 ha0 ha1 hq7) gX8_broken_X6_addBreak rfl ⟨rfl, rfl⟩ (by decide +kernel) ⟨Nat.le_of_ble_eq_true rfl, Nat.le_of_ble_eq_true rfl⟩ rfl rfl rfl (Nat.le_of_ble_eq_true rfl) dX8_broken_17 rfl (fun hS5 hv6 => ?_)
    show GW (sX D t ad) mi_X8_broken (acZ, S0, r0) x S5 20 _ [vI v6]
    refine g_if_eq (n := 23) C 27 (z_r32 hv6) dX8_broken_20 (by decide) rfl (fun (hc8 : v6 = 0) => ?_) (fun (hc8 : ¬ (v6 = 0)) => ?_)
    · rw [if_pos hc8] at h
      refine g_iconst (n := 28) C dX8_broken_27 rfl ?_
      exact g_zret C rfl (Or.inl rfl) h rfl (Or.inl rfl) hS5 dX8_broken_28
    · rw [if_neg hc8] at h
      refine g_iconst (n := 24) C dX8_broken_23 rfl ?_
      refine g_goto C 28 dX8_broken_24 (by decide) ?_
      exact g_zret C rfl (Or.inr rfl) h rfl (Or.inr rfl) hS5 dX8_broken_28
-- RX8 run
abbrev rm_X8_run : Room := ({ frames := 6, cells := 0, slots := 0, locals := 138 } : Room)
abbrev mi_X8_run : Mi := (cX8_run, 2, RX8, wsX8_run, rm_X8_run, (some .int))
set_option maxRecDepth 20000 in
theorem in_X8_run_X8 : ∀ w ∈ u_ws RX8 TX8 4, w ∈ wsX8_run := by decide +kernel
def dn_X8_run (a0 : Int) (S : St) : Option (St × Int) := (cal (dn_X8_within a0 0 500 S) fun S1 v2 => (if v2 = 0 then some (S1, (-1)) else (cal (dn_X6_passTicks a0 S1) fun S5 v6 => some (S5, v6))))
set_option maxRecDepth 100000 in
set_option maxHeartbeats 4000000 in
theorem c_X8_run {l : Launch} {D : va_G} {t : T5} {ad : Nat → Nat} {S S0 : St} {r0 : Int} {a0 : Int} (hS : RS S) (ha0 : r32 a0) (h : dn_X8_run a0 S = some (S0, r0)) : Mc l (sX D t ad) yX8_run wsX8_run rm_X8_run [.ref (ad 0), vI a0] acI S S0 r0 := by
  refine Mc_of (cc := cX8_run) (nL := 2) (ret := (some .int)) (by decide +kernel) rfl (Nat.le_of_ble_eq_true rfl) (lv := [(0, .ref (ad 0)), (1, vI a0)]) rfl (fun x C _ => ?_)
  unfold dn_X8_run at h
  show GW (sX D t ad) mi_X8_run (acI, S0, r0) x S 0 [(0, .ref (ad 0)), (1, vI a0)] []
  refine g_iload_n (n := 1) C 1 dX8_run_0 rfl rfl ?_
  refine g_iconst (n := 2) C dX8_run_1 rfl ?_
  refine g_sipush (n := 5) C dX8_run_2 (by decide +kernel) rfl ?_
  obtain ⟨S1, v2, hq3, h⟩ := cal_e h
  refine g_callT (n := 8) (As := [vI a0, vI 0, vI 500]) (rest := []) C 3 (c_X8_within hS ha0 (by decide : r32 0) (by decide : r32 500) hq3) gX8_run_X8_within rfl ⟨rfl, rfl⟩ (by decide +kernel) ⟨Nat.le_of_ble_eq_true rfl, Nat.le_of_ble_eq_true rfl⟩ rfl rfl (Nat.le_of_ble_eq_true rfl) dX8_run_5 rfl (fun hS1 hv2 => ?_)
  show GW (sX D t ad) mi_X8_run (acI, S0, r0) x S1 8 _ [vI v2]
  refine g_if_ne (n := 11) C 13 (z_r32 hv2) dX8_run_8 (by decide) rfl (fun (hc4 : ¬ (v2 = 0)) => ?_) (fun (hc4 : v2 = 0) => ?_)
  · rw [if_neg hc4] at h
    refine g_aload_n (n := 14) C 0 dX8_run_13 rfl rfl ?_
    refine g_getC (n := 17) C 0 1 rfl (Nat.le_of_ble_eq_true rfl) rfl rfl rfl (Nat.le_of_ble_eq_true rfl) in_X8_run_X8 (by decide +kernel) dX8_run_14 rfl ?_
    refine g_iload_n (n := 18) C 1 dX8_run_17 rfl rfl ?_
    obtain ⟨S5, v6, hq7, h⟩ := cal_e h
    refine g_callV (n := 21) (As := [vI a0]) (rest := []) C 4 1 (Nat.le_of_ble_eq_true rfl) rfl rfl (c_X6_passTicks hS1 ha0 hq7) gX8_run_X6_passTicks rfl ⟨rfl, rfl⟩ (by decide +kernel) ⟨Nat.le_of_ble_eq_true rfl, Nat.le_of_ble_eq_true rfl⟩ rfl rfl rfl (Nat.le_of_ble_eq_true rfl) dX8_run_18 rfl (fun hS5 hv6 => ?_)
    show GW (sX D t ad) mi_X8_run (acI, S0, r0) x S5 21 _ [vI v6]
    exact g_iret C rfl h rfl hv6 hS5 dX8_run_21
  · rw [if_pos hc4] at h
    refine g_iconst (n := 12) C dX8_run_11 rfl ?_
    exact g_iret C rfl h rfl (by decide : r32 (-1)) hS1 dX8_run_12
-- RX8 clear
abbrev rm_X8_clear : Room := ({ frames := 3, cells := 0, slots := 0, locals := 65 } : Room)
abbrev mi_X8_clear : Mi := (cX8_clear, 1, RX8, wsX8_clear, rm_X8_clear, none)
set_option maxRecDepth 20000 in
theorem in_X8_clear_X8 : ∀ w ∈ u_ws RX8 TX8 4, w ∈ wsX8_clear := by decide +kernel
def dn_X8_clear (S : St) : Option (St × Int) := (cal (dn_X6_reset S) fun S1 v2 => (cal (dn_X2_dismiss S1) fun S4 v5 => some (S4, 0)))
set_option maxRecDepth 100000 in
set_option maxHeartbeats 4000000 in
theorem c_X8_clear {l : Launch} {D : va_G} {t : T5} {ad : Nat → Nat} {S S0 : St} {r0 : Int} (hS : RS S) (h : dn_X8_clear S = some (S0, r0)) : Mc l (sX D t ad) yX8_clear wsX8_clear rm_X8_clear [.ref (ad 0)] acV S S0 r0 := by
  refine Mc_of (cc := cX8_clear) (nL := 1) (ret := none) (by decide +kernel) rfl (Nat.le_of_ble_eq_true rfl) (lv := [(0, .ref (ad 0))]) rfl (fun x C _ => ?_)
  unfold dn_X8_clear at h
  show GW (sX D t ad) mi_X8_clear (acV, S0, r0) x S 0 [(0, .ref (ad 0))] []
  refine g_aload_n (n := 1) C 0 dX8_clear_0 rfl rfl ?_
  refine g_getC (n := 4) C 0 1 rfl (Nat.le_of_ble_eq_true rfl) rfl rfl rfl (Nat.le_of_ble_eq_true rfl) in_X8_clear_X8 (by decide +kernel) dX8_clear_1 rfl ?_
  obtain ⟨S1, v2, hq3, h⟩ := cal_e h
  refine g_callV (n := 7) (As := []) (rest := []) C 4 0 (Nat.le_of_ble_eq_true rfl) rfl rfl (c_X6_reset hS hq3) gX8_clear_X6_reset rfl ⟨rfl, rfl⟩ (by decide +kernel) ⟨Nat.le_of_ble_eq_true rfl, Nat.le_of_ble_eq_true rfl⟩ rfl rfl rfl (Nat.le_of_ble_eq_true rfl) dX8_clear_4 rfl (fun hS1 hv2 => ?_)
  show GW (sX D t ad) mi_X8_clear (acV, S0, r0) x S1 7 _ []
  refine g_aload_n (n := 8) C 0 dX8_clear_7 rfl rfl ?_
  refine g_getC (n := 11) C 0 3 rfl (Nat.le_of_ble_eq_true rfl) rfl rfl rfl (Nat.le_of_ble_eq_true rfl) in_X8_clear_X8 (by decide +kernel) dX8_clear_8 rfl ?_
  obtain ⟨S4, v5, hq6, h⟩ := cal_e h
  refine g_callV (n := 14) (As := []) (rest := []) C 14 0 (Nat.le_of_ble_eq_true rfl) rfl rfl (c_X2_dismiss hS1 hq6) gX8_clear_X2_dismiss rfl ⟨rfl, rfl⟩ (by decide +kernel) ⟨Nat.le_of_ble_eq_true rfl, Nat.le_of_ble_eq_true rfl⟩ rfl rfl rfl (Nat.le_of_ble_eq_true rfl) dX8_clear_11 rfl (fun hS4 hv5 => ?_)
  show GW (sX D t ad) mi_X8_clear (acV, S0, r0) x S4 14 _ [vI v5]
  refine g_pop (n := 15) C rfl dX8_clear_14 rfl ?_
  exact g_vret C rfl h rfl trivial hS4 dX8_clear_15
-- RX8 count
abbrev rm_X8_count : Room := ({ frames := 3, cells := 0, slots := 0, locals := 64 } : Room)
abbrev mi_X8_count : Mi := (cX8_count, 2, RX8, wsX8_count, rm_X8_count, (some .long))
set_option maxRecDepth 20000 in
theorem in_X8_count_X8 : ∀ w ∈ u_ws RX8 TX8 4, w ∈ wsX8_count := by decide +kernel
def dn_X8_count (a0 : Int) (S : St) : Option (St × Int) := (cal (dn_X6_figure a0 S) fun S1 v2 => some (S1, v2))
set_option maxRecDepth 100000 in
set_option maxHeartbeats 4000000 in
theorem c_X8_count {l : Launch} {D : va_G} {t : T5} {ad : Nat → Nat} {S S0 : St} {r0 : Int} {a0 : Int} (hS : RS S) (ha0 : r32 a0) (h : dn_X8_count a0 S = some (S0, r0)) : Mc l (sX D t ad) yX8_count wsX8_count rm_X8_count [.ref (ad 0), vI a0] acJ S S0 r0 := by
  refine Mc_of (cc := cX8_count) (nL := 2) (ret := (some .long)) (by decide +kernel) rfl (Nat.le_of_ble_eq_true rfl) (lv := [(0, .ref (ad 0)), (1, vI a0)]) rfl (fun x C _ => ?_)
  unfold dn_X8_count at h
  show GW (sX D t ad) mi_X8_count (acJ, S0, r0) x S 0 [(0, .ref (ad 0)), (1, vI a0)] []
  refine g_aload_n (n := 1) C 0 dX8_count_0 rfl rfl ?_
  refine g_getC (n := 4) C 0 1 rfl (Nat.le_of_ble_eq_true rfl) rfl rfl rfl (Nat.le_of_ble_eq_true rfl) in_X8_count_X8 (by decide +kernel) dX8_count_1 rfl ?_
  refine g_iload_n (n := 5) C 1 dX8_count_4 rfl rfl ?_
  obtain ⟨S1, v2, hq3, h⟩ := cal_e h
  refine g_callV (n := 8) (As := [vI a0]) (rest := []) C 4 1 (Nat.le_of_ble_eq_true rfl) rfl rfl (c_X6_figure hS ha0 hq3) gX8_count_X6_figure rfl ⟨rfl, rfl⟩ (by decide +kernel) ⟨Nat.le_of_ble_eq_true rfl, Nat.le_of_ble_eq_true rfl⟩ rfl rfl rfl (Nat.le_of_ble_eq_true rfl) dX8_count_5 rfl (fun hS1 hv2 => ?_)
  show GW (sX D t ad) mi_X8_count (acJ, S0, r0) x S1 8 _ [vJ v2]
  exact g_lret C rfl h rfl hv2 hS1 dX8_count_8
-- RX8 slot
abbrev rm_X8_slot : Room := ({ frames := 2, cells := 0, slots := 0, locals := 44 } : Room)
abbrev mi_X8_slot : Mi := (cX8_slot, 3, RX8, wsX8_slot, rm_X8_slot, (some .int))
set_option maxRecDepth 20000 in
theorem in_X8_slot_X8 : ∀ w ∈ u_ws RX8 TX8 4, w ∈ wsX8_slot := by decide +kernel
def dn_X8_slot (a0 : Int) (a1 : Int) (S : St) : Option (St × Int) := (cal (dn_X6_lineFigure a0 a1 S) fun S1 v2 => some (S1, v2))
set_option maxRecDepth 100000 in
set_option maxHeartbeats 4000000 in
theorem c_X8_slot {l : Launch} {D : va_G} {t : T5} {ad : Nat → Nat} {S S0 : St} {r0 : Int} {a0 a1 : Int} (hS : RS S) (ha0 : r32 a0) (ha1 : r32 a1) (h : dn_X8_slot a0 a1 S = some (S0, r0)) : Mc l (sX D t ad) yX8_slot wsX8_slot rm_X8_slot [.ref (ad 0), vI a0, vI a1] acI S S0 r0 := by
  refine Mc_of (cc := cX8_slot) (nL := 3) (ret := (some .int)) (by decide +kernel) rfl (Nat.le_of_ble_eq_true rfl) (lv := [(0, .ref (ad 0)), (1, vI a0), (2, vI a1)]) rfl (fun x C _ => ?_)
  unfold dn_X8_slot at h
  show GW (sX D t ad) mi_X8_slot (acI, S0, r0) x S 0 [(0, .ref (ad 0)), (1, vI a0), (2, vI a1)] []
  refine g_aload_n (n := 1) C 0 dX8_slot_0 rfl rfl ?_
  refine g_getC (n := 4) C 0 1 rfl (Nat.le_of_ble_eq_true rfl) rfl rfl rfl (Nat.le_of_ble_eq_true rfl) in_X8_slot_X8 (by decide +kernel) dX8_slot_1 rfl ?_
  refine g_iload_n (n := 5) C 1 dX8_slot_4 rfl rfl ?_
  refine g_iload_n (n := 6) C 2 dX8_slot_5 rfl rfl ?_
  obtain ⟨S1, v2, hq3, h⟩ := cal_e h
  refine g_callV (n := 9) (As := [vI a0, vI a1]) (rest := []) C 4 2 (Nat.le_of_ble_eq_true rfl) rfl rfl (c_X6_lineFigure hS ha0 ha1 hq3) gX8_slot_X6_lineFigure rfl ⟨rfl, rfl⟩ (by decide +kernel) ⟨Nat.le_of_ble_eq_true rfl, Nat.le_of_ble_eq_true rfl⟩ rfl rfl rfl (Nat.le_of_ble_eq_true rfl) dX8_slot_6 rfl (fun hS1 hv2 => ?_)
  show GW (sX D t ad) mi_X8_slot (acI, S0, r0) x S1 9 _ [vI v2]
  exact g_iret C rfl h rfl hv2 hS1 dX8_slot_9
-- RX8 event
abbrev rm_X8_event : Room := ({ frames := 3, cells := 0, slots := 0, locals := 66 } : Room)
abbrev mi_X8_event : Mi := (cX8_event, 3, RX8, wsX8_event, rm_X8_event, (some .int))
set_option maxRecDepth 20000 in
theorem in_X8_event_X8 : ∀ w ∈ u_ws RX8 TX8 4, w ∈ wsX8_event := by decide +kernel
def dn_X8_event (a0 : Int) (a1 : Int) (S : St) : Option (St × Int) := (cal (dn_X6_eventFigure a0 a1 S) fun S1 v2 => some (S1, v2))
set_option maxRecDepth 100000 in
set_option maxHeartbeats 4000000 in
theorem c_X8_event {l : Launch} {D : va_G} {t : T5} {ad : Nat → Nat} {S S0 : St} {r0 : Int} {a0 a1 : Int} (hS : RS S) (ha0 : r32 a0) (ha1 : r32 a1) (h : dn_X8_event a0 a1 S = some (S0, r0)) : Mc l (sX D t ad) yX8_event wsX8_event rm_X8_event [.ref (ad 0), vI a0, vI a1] acI S S0 r0 := by
  refine Mc_of (cc := cX8_event) (nL := 3) (ret := (some .int)) (by decide +kernel) rfl (Nat.le_of_ble_eq_true rfl) (lv := [(0, .ref (ad 0)), (1, vI a0), (2, vI a1)]) rfl (fun x C _ => ?_)
  unfold dn_X8_event at h
  show GW (sX D t ad) mi_X8_event (acI, S0, r0) x S 0 [(0, .ref (ad 0)), (1, vI a0), (2, vI a1)] []
  refine g_aload_n (n := 1) C 0 dX8_event_0 rfl rfl ?_
  refine g_getC (n := 4) C 0 1 rfl (Nat.le_of_ble_eq_true rfl) rfl rfl rfl (Nat.le_of_ble_eq_true rfl) in_X8_event_X8 (by decide +kernel) dX8_event_1 rfl ?_
  refine g_iload_n (n := 5) C 1 dX8_event_4 rfl rfl ?_
  refine g_iload_n (n := 6) C 2 dX8_event_5 rfl rfl ?_
  obtain ⟨S1, v2, hq3, h⟩ := cal_e h
  refine g_callV (n := 9) (As := [vI a0, vI a1]) (rest := []) C 4 2 (Nat.le_of_ble_eq_true rfl) rfl rfl (c_X6_eventFigure hS ha0 ha1 hq3) gX8_event_X6_eventFigure rfl ⟨rfl, rfl⟩ (by decide +kernel) ⟨Nat.le_of_ble_eq_true rfl, Nat.le_of_ble_eq_true rfl⟩ rfl rfl rfl (Nat.le_of_ble_eq_true rfl) dX8_event_6 rfl (fun hS1 hv2 => ?_)
  show GW (sX D t ad) mi_X8_event (acI, S0, r0) x S1 9 _ [vI v2]
  exact g_iret C rfl h rfl hv2 hS1 dX8_event_9
-- RX8 countable
abbrev rm_X8_countable : Room := ({ frames := 1, cells := 0, slots := 0, locals := 22 } : Room)
abbrev mi_X8_countable : Mi := (cX8_countable, 3, RX8, wsX8_countable, rm_X8_countable, (some .boolean))
def dn_X8_countable (a0 : Int) (a1 : Int) (a2 : Int) (S : St) : Option (St × Int) := (cal (dn_X8_within a0 1 8 S) fun S1 v2 => (if v2 = 0 then some (S1, 0) else (cal (dn_X8_within a1 1 9 S1) fun S5 v6 => (if v6 = 0 then some (S5, 0) else (cal (dn_X8_within a2 1 8 S5) fun S9 v10 => (if v10 = 0 then some (S9, 0) else some (S9, 1)))))))
set_option maxRecDepth 100000 in
set_option maxHeartbeats 4000000 in
theorem c_X8_countable {l : Launch} {D : va_G} {t : T5} {ad : Nat → Nat} {S S0 : St} {r0 : Int} {a0 a1 a2 : Int} (hS : RS S) (ha0 : r32 a0) (ha1 : r32 a1) (ha2 : r32 a2) (h : dn_X8_countable a0 a1 a2 S = some (S0, r0)) : Mc l (sX D t ad) yX8_countable wsX8_countable rm_X8_countable [vI a0, vI a1, vI a2] acZ S S0 r0 := by
  refine Mc_of (cc := cX8_countable) (nL := 3) (ret := (some .boolean)) (by decide +kernel) rfl (Nat.le_of_ble_eq_true rfl) (lv := [(0, vI a0), (1, vI a1), (2, vI a2)]) rfl (fun x C _ => ?_)
  unfold dn_X8_countable at h
  show GW (sX D t ad) mi_X8_countable (acZ, S0, r0) x S 0 [(0, vI a0), (1, vI a1), (2, vI a2)] []
  refine g_iload_n (n := 1) C 0 dX8_countable_0 rfl rfl ?_
  refine g_iconst (n := 2) C dX8_countable_1 rfl ?_
  refine g_bipush (n := 4) C dX8_countable_2 (by decide +kernel) rfl ?_
  obtain ⟨S1, v2, hq3, h⟩ := cal_e h
  refine g_callT (n := 7) (As := [vI a0, vI 1, vI 8]) (rest := []) C 3 (c_X8_within hS ha0 (by decide : r32 1) (by decide : r32 8) hq3) gX8_countable_X8_within rfl ⟨rfl, rfl⟩ (by decide +kernel) ⟨Nat.le_of_ble_eq_true rfl, Nat.le_of_ble_eq_true rfl⟩ rfl rfl (Nat.le_of_ble_eq_true rfl) dX8_countable_4 rfl (fun hS1 hv2 => ?_)
  show GW (sX D t ad) mi_X8_countable (acZ, S0, r0) x S1 7 _ [vI v2]
  refine g_if_eq (n := 10) C 34 (z_r32 hv2) dX8_countable_7 (by decide) rfl (fun (hc4 : v2 = 0) => ?_) (fun (hc4 : ¬ (v2 = 0)) => ?_)
  · rw [if_pos hc4] at h
    refine g_iconst (n := 35) C dX8_countable_34 rfl ?_
    exact g_zret C rfl (Or.inl rfl) h rfl (Or.inl rfl) hS1 dX8_countable_35
  · rw [if_neg hc4] at h
    refine g_iload_n (n := 11) C 1 dX8_countable_10 rfl rfl ?_
    refine g_iconst (n := 12) C dX8_countable_11 rfl ?_
    refine g_bipush (n := 14) C dX8_countable_12 (by decide +kernel) rfl ?_
    obtain ⟨S5, v6, hq7, h⟩ := cal_e h
    refine g_callT (n := 17) (As := [vI a1, vI 1, vI 9]) (rest := []) C 3 (c_X8_within hS1 ha1 (by decide : r32 1) (by decide : r32 9) hq7) gX8_countable_X8_within rfl ⟨rfl, rfl⟩ (by decide +kernel) ⟨Nat.le_of_ble_eq_true rfl, Nat.le_of_ble_eq_true rfl⟩ rfl rfl (Nat.le_of_ble_eq_true rfl) dX8_countable_14 rfl (fun hS5 hv6 => ?_)
    show GW (sX D t ad) mi_X8_countable (acZ, S0, r0) x S5 17 _ [vI v6]
    refine g_if_eq (n := 20) C 34 (z_r32 hv6) dX8_countable_17 (by decide) rfl (fun (hc8 : v6 = 0) => ?_) (fun (hc8 : ¬ (v6 = 0)) => ?_)
    · rw [if_pos hc8] at h
      refine g_iconst (n := 35) C dX8_countable_34 rfl ?_
      exact g_zret C rfl (Or.inl rfl) h rfl (Or.inl rfl) hS5 dX8_countable_35
    · rw [if_neg hc8] at h
      refine g_iload_n (n := 21) C 2 dX8_countable_20 rfl rfl ?_
      refine g_iconst (n := 22) C dX8_countable_21 rfl ?_
      refine g_bipush (n := 24) C dX8_countable_22 (by decide +kernel) rfl ?_
      obtain ⟨S9, v10, hq11, h⟩ := cal_e h
      refine g_callT (n := 27) (As := [vI a2, vI 1, vI 8]) (rest := []) C 3 (c_X8_within hS5 ha2 (by decide : r32 1) (by decide : r32 8) hq11) gX8_countable_X8_within rfl ⟨rfl, rfl⟩ (by decide +kernel) ⟨Nat.le_of_ble_eq_true rfl, Nat.le_of_ble_eq_true rfl⟩ rfl rfl (Nat.le_of_ble_eq_true rfl) dX8_countable_24 rfl (fun hS9 hv10 => ?_)
      show GW (sX D t ad) mi_X8_countable (acZ, S0, r0) x S9 27 _ [vI v10]
      refine g_if_eq (n := 30) C 34 (z_r32 hv10) dX8_countable_27 (by decide) rfl (fun (hc12 : v10 = 0) => ?_) (fun (hc12 : ¬ (v10 = 0)) => ?_)
      · rw [if_pos hc12] at h
        refine g_iconst (n := 35) C dX8_countable_34 rfl ?_
        exact g_zret C rfl (Or.inl rfl) h rfl (Or.inl rfl) hS9 dX8_countable_35
      · rw [if_neg hc12] at h
        refine g_iconst (n := 31) C dX8_countable_30 rfl ?_
        refine g_goto C 35 dX8_countable_31 (by decide) ?_
        exact g_zret C rfl (Or.inr rfl) h rfl (Or.inr rfl) hS9 dX8_countable_35
-- RX8 mean
abbrev rm_X8_mean : Room := ({ frames := 5, cells := 0, slots := 0, locals := 118 } : Room)
abbrev mi_X8_mean : Mi := (cX8_mean, 5, RX8, wsX8_mean, rm_X8_mean, (some .long))
set_option maxRecDepth 20000 in
theorem in_X8_mean_X5 : ∀ w ∈ u_ws RX5 TX5 3, w ∈ wsX8_mean := by decide +kernel
set_option maxRecDepth 20000 in
theorem in_X8_mean_X8 : ∀ w ∈ u_ws RX8 TX8 4, w ∈ wsX8_mean := by decide +kernel
def dn_X8_mean (a0 : Int) (a1 : Int) (a2 : Int) (a3 : Int) (S : St) : Option (St × Int) := (cal (dn_X8_countable a0 a1 a2 S) fun S1 v2 => (if v2 = 0 then some (S1, (-1)) else (cal (dn_X8_within a3 0 1 S1) fun S5 v6 => (if v6 = 0 then some (S5, (-1)) else (cal (dn_X5_find a0 a1 a2 S5) fun S9 v10 => (if a3 = 0 then some (S9, S9 13 100001) else some (S9, S9 13 100002)))))))
set_option maxRecDepth 100000 in
set_option maxHeartbeats 4000000 in
theorem c_X8_mean {l : Launch} {D : va_G} {t : T5} {ad : Nat → Nat} {S S0 : St} {r0 : Int} {a0 a1 a2 a3 : Int} (hS : RS S) (ha0 : r32 a0) (ha1 : r32 a1) (ha2 : r32 a2) (ha3 : r32 a3) (h : dn_X8_mean a0 a1 a2 a3 S = some (S0, r0)) : Mc l (sX D t ad) yX8_mean wsX8_mean rm_X8_mean [.ref (ad 0), vI a0, vI a1, vI a2, vI a3] acJ S S0 r0 := by
  refine Mc_of (cc := cX8_mean) (nL := 5) (ret := (some .long)) (by decide +kernel) rfl (Nat.le_of_ble_eq_true rfl) (lv := [(0, .ref (ad 0)), (1, vI a0), (2, vI a1), (3, vI a2), (4, vI a3)]) rfl (fun x C _ => ?_)
  unfold dn_X8_mean at h
  show GW (sX D t ad) mi_X8_mean (acJ, S0, r0) x S 0 [(0, .ref (ad 0)), (1, vI a0), (2, vI a1), (3, vI a2), (4, vI a3)] []
  refine g_iload_n (n := 1) C 1 dX8_mean_0 rfl rfl ?_
  refine g_iload_n (n := 2) C 2 dX8_mean_1 rfl rfl ?_
  refine g_iload_n (n := 3) C 3 dX8_mean_2 rfl rfl ?_
  obtain ⟨S1, v2, hq3, h⟩ := cal_e h
  refine g_callT (n := 6) (As := [vI a0, vI a1, vI a2]) (rest := []) C 3 (c_X8_countable hS ha0 ha1 ha2 hq3) gX8_mean_X8_countable rfl ⟨rfl, rfl⟩ (by decide +kernel) ⟨Nat.le_of_ble_eq_true rfl, Nat.le_of_ble_eq_true rfl⟩ rfl rfl (Nat.le_of_ble_eq_true rfl) dX8_mean_3 rfl (fun hS1 hv2 => ?_)
  show GW (sX D t ad) mi_X8_mean (acJ, S0, r0) x S1 6 _ [vI v2]
  refine g_if_eq (n := 9) C 19 (z_r32 hv2) dX8_mean_6 (by decide) rfl (fun (hc4 : v2 = 0) => ?_) (fun (hc4 : ¬ (v2 = 0)) => ?_)
  · rw [if_pos hc4] at h
    refine g_ldc2 (n := 22) (a := (-1)) (v := (-1)) C (by decide +kernel) (by decide +kernel) dX8_mean_19 rfl ?_
    exact g_lret C rfl h rfl (by decide : r64 (-1)) hS1 dX8_mean_22
  · rw [if_neg hc4] at h
    refine g_iload (n := 11) C 4 dX8_mean_9 rfl rfl ?_
    refine g_iconst (n := 12) C dX8_mean_11 rfl ?_
    refine g_iconst (n := 13) C dX8_mean_12 rfl ?_
    obtain ⟨S5, v6, hq7, h⟩ := cal_e h
    refine g_callT (n := 16) (As := [vI a3, vI 0, vI 1]) (rest := []) C 3 (c_X8_within hS1 ha3 (by decide : r32 0) (by decide : r32 1) hq7) gX8_mean_X8_within rfl ⟨rfl, rfl⟩ (by decide +kernel) ⟨Nat.le_of_ble_eq_true rfl, Nat.le_of_ble_eq_true rfl⟩ rfl rfl (Nat.le_of_ble_eq_true rfl) dX8_mean_13 rfl (fun hS5 hv6 => ?_)
    show GW (sX D t ad) mi_X8_mean (acJ, S0, r0) x S5 16 _ [vI v6]
    refine g_if_ne (n := 19) C 23 (z_r32 hv6) dX8_mean_16 (by decide) rfl (fun (hc8 : ¬ (v6 = 0)) => ?_) (fun (hc8 : v6 = 0) => ?_)
    · rw [if_neg hc8] at h
      refine g_aload_n (n := 24) C 0 dX8_mean_23 rfl rfl ?_
      refine g_getC (n := 27) C 0 2 rfl (Nat.le_of_ble_eq_true rfl) rfl rfl rfl (Nat.le_of_ble_eq_true rfl) in_X8_mean_X8 (by decide +kernel) dX8_mean_24 rfl ?_
      refine g_iload_n (n := 28) C 1 dX8_mean_27 rfl rfl ?_
      refine g_iload_n (n := 29) C 2 dX8_mean_28 rfl rfl ?_
      refine g_iload_n (n := 30) C 3 dX8_mean_29 rfl rfl ?_
      obtain ⟨S9, v10, hq11, h⟩ := cal_e h
      refine g_callV (n := 33) (As := [vI a0, vI a1, vI a2]) (rest := []) C 13 3 (Nat.le_of_ble_eq_true rfl) rfl rfl (c_X5_find hS5 ha0 ha1 ha2 hq11) gX8_mean_X5_find rfl ⟨rfl, rfl⟩ (by decide +kernel) ⟨Nat.le_of_ble_eq_true rfl, Nat.le_of_ble_eq_true rfl⟩ rfl rfl rfl (Nat.le_of_ble_eq_true rfl) dX8_mean_30 rfl (fun hS9 hv10 => ?_)
      show GW (sX D t ad) mi_X8_mean (acJ, S0, r0) x S9 33 _ []
      refine g_iload (n := 35) C 4 dX8_mean_33 rfl rfl ?_
      refine g_if_ne (n := 38) C 48 ha3 dX8_mean_35 (by decide) rfl (fun (hc12 : ¬ (a3 = 0)) => ?_) (fun (hc12 : a3 = 0) => ?_)
      · rw [if_neg hc12] at h
        refine g_aload_n (n := 49) C 0 dX8_mean_48 rfl rfl ?_
        refine g_getC (n := 52) C 0 2 rfl (Nat.le_of_ble_eq_true rfl) rfl rfl rfl (Nat.le_of_ble_eq_true rfl) in_X8_mean_X8 (by decide +kernel) dX8_mean_49 rfl ?_
        refine g_getJ (n := 55) C 13 2 rfl (Nat.le_of_ble_eq_true rfl) rfl rfl rfl (Nat.le_of_ble_eq_true rfl) in_X8_mean_X5 (by decide +kernel) dX8_mean_52 rfl ?_
        exact g_lret C rfl h rfl ((hS9 13 100002).1) hS9 dX8_mean_55
      · rw [if_pos hc12] at h
        refine g_aload_n (n := 39) C 0 dX8_mean_38 rfl rfl ?_
        refine g_getC (n := 42) C 0 2 rfl (Nat.le_of_ble_eq_true rfl) rfl rfl rfl (Nat.le_of_ble_eq_true rfl) in_X8_mean_X8 (by decide +kernel) dX8_mean_39 rfl ?_
        refine g_getJ (n := 45) C 13 1 rfl (Nat.le_of_ble_eq_true rfl) rfl rfl rfl (Nat.le_of_ble_eq_true rfl) in_X8_mean_X5 (by decide +kernel) dX8_mean_42 rfl ?_
        refine g_goto C 55 dX8_mean_45 (by decide) ?_
        exact g_lret C rfl h rfl ((hS9 13 100001).1) hS9 dX8_mean_55
    · rw [if_pos hc8] at h
      refine g_ldc2 (n := 22) (a := (-1)) (v := (-1)) C (by decide +kernel) (by decide +kernel) dX8_mean_19 rfl ?_
      exact g_lret C rfl h rfl (by decide : r64 (-1)) hS5 dX8_mean_22
-- RX8 best
abbrev rm_X8_best : Room := ({ frames := 6, cells := 0, slots := 0, locals := 147 } : Room)
abbrev mi_X8_best : Mi := (cX8_best, 4, RX8, wsX8_best, rm_X8_best, (some .int))
set_option maxRecDepth 20000 in
theorem in_X8_best_X8 : ∀ w ∈ u_ws RX8 TX8 4, w ∈ wsX8_best := by decide +kernel
def dn_X8_best (a0 : Int) (a1 : Int) (a2 : Int) (S : St) : Option (St × Int) := (cal (dn_X8_countable a0 a1 a2 S) fun S1 v2 => (if v2 = 0 then some (S1, (-1)) else (cal (dn_X5_bestSize a0 a1 a2 S1) fun S5 v6 => some (S5, v6))))
set_option maxRecDepth 100000 in
set_option maxHeartbeats 4000000 in
theorem c_X8_best {l : Launch} {D : va_G} {t : T5} {ad : Nat → Nat} {S S0 : St} {r0 : Int} {a0 a1 a2 : Int} (hS : RS S) (ha0 : r32 a0) (ha1 : r32 a1) (ha2 : r32 a2) (h : dn_X8_best a0 a1 a2 S = some (S0, r0)) : Mc l (sX D t ad) yX8_best wsX8_best rm_X8_best [.ref (ad 0), vI a0, vI a1, vI a2] acI S S0 r0 := by
  refine Mc_of (cc := cX8_best) (nL := 4) (ret := (some .int)) (by decide +kernel) rfl (Nat.le_of_ble_eq_true rfl) (lv := [(0, .ref (ad 0)), (1, vI a0), (2, vI a1), (3, vI a2)]) rfl (fun x C _ => ?_)
  unfold dn_X8_best at h
  show GW (sX D t ad) mi_X8_best (acI, S0, r0) x S 0 [(0, .ref (ad 0)), (1, vI a0), (2, vI a1), (3, vI a2)] []
  refine g_iload_n (n := 1) C 1 dX8_best_0 rfl rfl ?_
  refine g_iload_n (n := 2) C 2 dX8_best_1 rfl rfl ?_
  refine g_iload_n (n := 3) C 3 dX8_best_2 rfl rfl ?_
  obtain ⟨S1, v2, hq3, h⟩ := cal_e h
  refine g_callT (n := 6) (As := [vI a0, vI a1, vI a2]) (rest := []) C 3 (c_X8_countable hS ha0 ha1 ha2 hq3) gX8_best_X8_countable rfl ⟨rfl, rfl⟩ (by decide +kernel) ⟨Nat.le_of_ble_eq_true rfl, Nat.le_of_ble_eq_true rfl⟩ rfl rfl (Nat.le_of_ble_eq_true rfl) dX8_best_3 rfl (fun hS1 hv2 => ?_)
  show GW (sX D t ad) mi_X8_best (acI, S0, r0) x S1 6 _ [vI v2]
  refine g_if_ne (n := 9) C 11 (z_r32 hv2) dX8_best_6 (by decide) rfl (fun (hc4 : ¬ (v2 = 0)) => ?_) (fun (hc4 : v2 = 0) => ?_)
  · rw [if_neg hc4] at h
    refine g_aload_n (n := 12) C 0 dX8_best_11 rfl rfl ?_
    refine g_getC (n := 15) C 0 2 rfl (Nat.le_of_ble_eq_true rfl) rfl rfl rfl (Nat.le_of_ble_eq_true rfl) in_X8_best_X8 (by decide +kernel) dX8_best_12 rfl ?_
    refine g_iload_n (n := 16) C 1 dX8_best_15 rfl rfl ?_
    refine g_iload_n (n := 17) C 2 dX8_best_16 rfl rfl ?_
    refine g_iload_n (n := 18) C 3 dX8_best_17 rfl rfl ?_
    obtain ⟨S5, v6, hq7, h⟩ := cal_e h
    refine g_callV (n := 21) (As := [vI a0, vI a1, vI a2]) (rest := []) C 13 3 (Nat.le_of_ble_eq_true rfl) rfl rfl (c_X5_bestSize hS1 ha0 ha1 ha2 hq7) gX8_best_X5_bestSize rfl ⟨rfl, rfl⟩ (by decide +kernel) ⟨Nat.le_of_ble_eq_true rfl, Nat.le_of_ble_eq_true rfl⟩ rfl rfl rfl (Nat.le_of_ble_eq_true rfl) dX8_best_18 rfl (fun hS5 hv6 => ?_)
    show GW (sX D t ad) mi_X8_best (acI, S0, r0) x S5 21 _ [vI v6]
    exact g_iret C rfl h rfl hv6 hS5 dX8_best_21
  · rw [if_pos hc4] at h
    refine g_iconst (n := 10) C dX8_best_9 rfl ?_
    exact g_iret C rfl h rfl (by decide : r32 (-1)) hS1 dX8_best_10
-- RX8 crowd
abbrev rm_X8_crowd : Room := ({ frames := 2, cells := 0, slots := 0, locals := 43 } : Room)
abbrev mi_X8_crowd : Mi := (cX8_crowd, 2, RX8, wsX8_crowd, rm_X8_crowd, (some .int))
set_option maxRecDepth 20000 in
theorem in_X8_crowd_X8 : ∀ w ∈ u_ws RX8 TX8 4, w ∈ wsX8_crowd := by decide +kernel
def dn_X8_crowd (a0 : Int) (S : St) : Option (St × Int) := (cal (dn_X2_join a0 S) fun S1 v2 => some (S1, v2))
set_option maxRecDepth 100000 in
set_option maxHeartbeats 4000000 in
theorem c_X8_crowd {l : Launch} {D : va_G} {t : T5} {ad : Nat → Nat} {S S0 : St} {r0 : Int} {a0 : Int} (hS : RS S) (ha0 : r32 a0) (h : dn_X8_crowd a0 S = some (S0, r0)) : Mc l (sX D t ad) yX8_crowd wsX8_crowd rm_X8_crowd [.ref (ad 0), vI a0] acI S S0 r0 := by
  refine Mc_of (cc := cX8_crowd) (nL := 2) (ret := (some .int)) (by decide +kernel) rfl (Nat.le_of_ble_eq_true rfl) (lv := [(0, .ref (ad 0)), (1, vI a0)]) rfl (fun x C _ => ?_)
  unfold dn_X8_crowd at h
  show GW (sX D t ad) mi_X8_crowd (acI, S0, r0) x S 0 [(0, .ref (ad 0)), (1, vI a0)] []
  refine g_aload_n (n := 1) C 0 dX8_crowd_0 rfl rfl ?_
  refine g_getC (n := 4) C 0 3 rfl (Nat.le_of_ble_eq_true rfl) rfl rfl rfl (Nat.le_of_ble_eq_true rfl) in_X8_crowd_X8 (by decide +kernel) dX8_crowd_1 rfl ?_
  refine g_iload_n (n := 5) C 1 dX8_crowd_4 rfl rfl ?_
  obtain ⟨S1, v2, hq3, h⟩ := cal_e h
  refine g_callV (n := 8) (As := [vI a0]) (rest := []) C 14 1 (Nat.le_of_ble_eq_true rfl) rfl rfl (c_X2_join hS ha0 hq3) gX8_crowd_X2_join rfl ⟨rfl, rfl⟩ (by decide +kernel) ⟨Nat.le_of_ble_eq_true rfl, Nat.le_of_ble_eq_true rfl⟩ rfl rfl rfl (Nat.le_of_ble_eq_true rfl) dX8_crowd_5 rfl (fun hS1 hv2 => ?_)
  show GW (sX D t ad) mi_X8_crowd (acI, S0, r0) x S1 8 _ [vI v2]
  exact g_iret C rfl h rfl hv2 hS1 dX8_crowd_8
-- RX8 scatter
abbrev rm_X8_scatter : Room := ({ frames := 1, cells := 0, slots := 0, locals := 21 } : Room)
abbrev mi_X8_scatter : Mi := (cX8_scatter, 1, RX8, wsX8_scatter, rm_X8_scatter, (some .int))
set_option maxRecDepth 20000 in
theorem in_X8_scatter_X8 : ∀ w ∈ u_ws RX8 TX8 4, w ∈ wsX8_scatter := by decide +kernel
def dn_X8_scatter (S : St) : Option (St × Int) := (cal (dn_X2_dismiss S) fun S1 v2 => some (S1, v2))
set_option maxRecDepth 100000 in
set_option maxHeartbeats 4000000 in
theorem c_X8_scatter {l : Launch} {D : va_G} {t : T5} {ad : Nat → Nat} {S S0 : St} {r0 : Int} (hS : RS S) (h : dn_X8_scatter S = some (S0, r0)) : Mc l (sX D t ad) yX8_scatter wsX8_scatter rm_X8_scatter [.ref (ad 0)] acI S S0 r0 := by
  refine Mc_of (cc := cX8_scatter) (nL := 1) (ret := (some .int)) (by decide +kernel) rfl (Nat.le_of_ble_eq_true rfl) (lv := [(0, .ref (ad 0))]) rfl (fun x C _ => ?_)
  unfold dn_X8_scatter at h
  show GW (sX D t ad) mi_X8_scatter (acI, S0, r0) x S 0 [(0, .ref (ad 0))] []
  refine g_aload_n (n := 1) C 0 dX8_scatter_0 rfl rfl ?_
  refine g_getC (n := 4) C 0 3 rfl (Nat.le_of_ble_eq_true rfl) rfl rfl rfl (Nat.le_of_ble_eq_true rfl) in_X8_scatter_X8 (by decide +kernel) dX8_scatter_1 rfl ?_
  obtain ⟨S1, v2, hq3, h⟩ := cal_e h
  refine g_callV (n := 7) (As := []) (rest := []) C 14 0 (Nat.le_of_ble_eq_true rfl) rfl rfl (c_X2_dismiss hS hq3) gX8_scatter_X2_dismiss rfl ⟨rfl, rfl⟩ (by decide +kernel) ⟨Nat.le_of_ble_eq_true rfl, Nat.le_of_ble_eq_true rfl⟩ rfl rfl rfl (Nat.le_of_ble_eq_true rfl) dX8_scatter_4 rfl (fun hS1 hv2 => ?_)
  show GW (sX D t ad) mi_X8_scatter (acI, S0, r0) x S1 7 _ [vI v2]
  exact g_iret C rfl h rfl hv2 hS1 dX8_scatter_7
-- RX8 states
abbrev rm_X8_states : Room := ({ frames := 6, cells := 0, slots := 0, locals := 135 } : Room)
abbrev mi_X8_states : Mi := (cX8_states, 3, RX8, wsX8_states, rm_X8_states, (some .int))
set_option maxRecDepth 20000 in
theorem in_X8_states_X8 : ∀ w ∈ u_ws RX8 TX8 4, w ∈ wsX8_states := by decide +kernel
def dn_X8_states (a0 : Int) (a1 : Int) (S : St) : Option (St × Int) := (cal (dn_X2_figure a0 a1 S) fun S1 v2 => some (S1, v2))
set_option maxRecDepth 100000 in
set_option maxHeartbeats 4000000 in
theorem c_X8_states {l : Launch} {D : va_G} {t : T5} {ad : Nat → Nat} {S S0 : St} {r0 : Int} {a0 a1 : Int} (hS : RS S) (ha0 : r32 a0) (ha1 : r32 a1) (h : dn_X8_states a0 a1 S = some (S0, r0)) : Mc l (sX D t ad) yX8_states wsX8_states rm_X8_states [.ref (ad 0), vI a0, vI a1] acI S S0 r0 := by
  refine Mc_of (cc := cX8_states) (nL := 3) (ret := (some .int)) (by decide +kernel) rfl (Nat.le_of_ble_eq_true rfl) (lv := [(0, .ref (ad 0)), (1, vI a0), (2, vI a1)]) rfl (fun x C _ => ?_)
  unfold dn_X8_states at h
  show GW (sX D t ad) mi_X8_states (acI, S0, r0) x S 0 [(0, .ref (ad 0)), (1, vI a0), (2, vI a1)] []
  refine g_aload_n (n := 1) C 0 dX8_states_0 rfl rfl ?_
  refine g_getC (n := 4) C 0 3 rfl (Nat.le_of_ble_eq_true rfl) rfl rfl rfl (Nat.le_of_ble_eq_true rfl) in_X8_states_X8 (by decide +kernel) dX8_states_1 rfl ?_
  refine g_iload_n (n := 5) C 1 dX8_states_4 rfl rfl ?_
  refine g_iload_n (n := 6) C 2 dX8_states_5 rfl rfl ?_
  obtain ⟨S1, v2, hq3, h⟩ := cal_e h
  refine g_callV (n := 9) (As := [vI a0, vI a1]) (rest := []) C 14 2 (Nat.le_of_ble_eq_true rfl) rfl rfl (c_X2_figure hS ha0 ha1 hq3) gX8_states_X2_figure rfl ⟨rfl, rfl⟩ (by decide +kernel) ⟨Nat.le_of_ble_eq_true rfl, Nat.le_of_ble_eq_true rfl⟩ rfl rfl rfl (Nat.le_of_ble_eq_true rfl) dX8_states_6 rfl (fun hS1 hv2 => ?_)
  show GW (sX D t ad) mi_X8_states (acI, S0, r0) x S1 9 _ [vI v2]
  exact g_iret C rfl h rfl hv2 hS1 dX8_states_9
-- RX8 sure
abbrev rm_X8_sure : Room := ({ frames := 1, cells := 0, slots := 0, locals := 22 } : Room)
abbrev mi_X8_sure : Mi := (cX8_sure, 1, RX8, wsX8_sure, rm_X8_sure, (some .int))
set_option maxRecDepth 20000 in
theorem in_X8_sure_X8 : ∀ w ∈ u_ws RX8 TX8 4, w ∈ wsX8_sure := by decide +kernel
def dn_X8_sure (S : St) : Option (St × Int) := (cal (dn_X2_sureLines S) fun S1 v2 => some (S1, v2))
set_option maxRecDepth 100000 in
set_option maxHeartbeats 4000000 in
theorem c_X8_sure {l : Launch} {D : va_G} {t : T5} {ad : Nat → Nat} {S S0 : St} {r0 : Int} (hS : RS S) (h : dn_X8_sure S = some (S0, r0)) : Mc l (sX D t ad) yX8_sure wsX8_sure rm_X8_sure [.ref (ad 0)] acI S S0 r0 := by
  refine Mc_of (cc := cX8_sure) (nL := 1) (ret := (some .int)) (by decide +kernel) rfl (Nat.le_of_ble_eq_true rfl) (lv := [(0, .ref (ad 0))]) rfl (fun x C _ => ?_)
  unfold dn_X8_sure at h
  show GW (sX D t ad) mi_X8_sure (acI, S0, r0) x S 0 [(0, .ref (ad 0))] []
  refine g_aload_n (n := 1) C 0 dX8_sure_0 rfl rfl ?_
  refine g_getC (n := 4) C 0 3 rfl (Nat.le_of_ble_eq_true rfl) rfl rfl rfl (Nat.le_of_ble_eq_true rfl) in_X8_sure_X8 (by decide +kernel) dX8_sure_1 rfl ?_
  obtain ⟨S1, v2, hq3, h⟩ := cal_e h
  refine g_callV (n := 7) (As := []) (rest := []) C 14 0 (Nat.le_of_ble_eq_true rfl) rfl rfl (c_X2_sureLines hS hq3) gX8_sure_X2_sureLines rfl ⟨rfl, rfl⟩ (by decide +kernel) ⟨Nat.le_of_ble_eq_true rfl, Nat.le_of_ble_eq_true rfl⟩ rfl rfl rfl (Nat.le_of_ble_eq_true rfl) dX8_sure_4 rfl (fun hS1 hv2 => ?_)
  show GW (sX D t ad) mi_X8_sure (acI, S0, r0) x S1 7 _ [vI v2]
  exact g_iret C rfl h rfl hv2 hS1 dX8_sure_7
