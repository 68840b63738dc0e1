-- RX9 thrown
abbrev rm_X9_thrown : Room := ({ frames := 0, cells := 0, slots := 0, locals := 0 } : Room)
abbrev mi_X9_thrown : Mi := (cX9_thrown, 1, RX9, wsX9_thrown, rm_X9_thrown, (some .int))
set_option maxRecDepth 20000 in
theorem in_X9_thrown_X9 : ∀ w ∈ u_ws RX9 TX9 39, w ∈ wsX9_thrown := by decide +kernel
def dn_X9_thrown (S : St) : Option (St × Int) := some (S, S 0 33)
set_option maxRecDepth 100000 in
set_option maxHeartbeats 4000000 in
theorem c_X9_thrown {l : Launch} {D : va_G} {t : T5} {ad : Nat → Nat} {S S0 : St} {r0 : Int} (hS : RS S) (h : dn_X9_thrown S = some (S0, r0)) : Mc l (sM D t ad) yX9_thrown wsX9_thrown rm_X9_thrown [.ref (ad 0)] acI S S0 r0 := by
  refine Mc_of (cc := cX9_thrown) (nL := 1) (ret := (some .int)) (by decide +kernel) rfl (Nat.le_of_ble_eq_true rfl) (lv := [(0, .ref (ad 0))]) rfl (fun x C _ => ?_)
  unfold dn_X9_thrown at h
  show GW (sM D t ad) mi_X9_thrown (acI, S0, r0) x S 0 [(0, .ref (ad 0))] []
  refine g_aload_n (n := 1) C 0 dX9_thrown_0 rfl rfl ?_
  refine g_getI (n := 4) C 0 33 rfl (Nat.le_of_ble_eq_true rfl) rfl rfl rfl (Nat.le_of_ble_eq_true rfl) in_X9_thrown_X9 (by decide +kernel) dX9_thrown_1 rfl ?_
  exact g_iret C rfl h rfl ((hS 0 33).2 (by decide)) hS dX9_thrown_4
-- RX9 set
abbrev rm_X9_set : Room := ({ frames := 0, cells := 0, slots := 0, locals := 0 } : Room)
abbrev mi_X9_set : Mi := (cX9_set, 4, RX9, wsX9_set, rm_X9_set, (some .int))
set_option maxRecDepth 20000 in
theorem in_X9_set_X9 : ∀ w ∈ u_ws RX9 TX9 39, w ∈ wsX9_set := by decide +kernel
def dn_X9_set (a0 : Int) (a1 : Int) (S : St) : Option (St × Int) := (nmS (stU S 0 33 0) fun S1 => (if a0 < 0 then some (S1, (-2)) else (if 5 < a0 then some (S1, (-2)) else (if 0 ≤ a0 ∧ a0 < 6 then (if a1 < S1 2 a0.toNat then some (S1, (-2)) else (if a1 ≤ S1 3 a0.toNat then (nmV (S1 1 a0.toNat) fun v7 => (nmS (stU S1 1 a0.toNat a1) fun S8 => some (S8, v7))) else some (S1, (-2)))) else none))))
set_option maxRecDepth 100000 in
set_option maxHeartbeats 4000000 in
theorem c_X9_set {l : Launch} {D : va_G} {t : T5} {ad : Nat → Nat} {S S0 : St} {r0 : Int} {a0 a1 : Int} (hS : RS S) (ha0 : r32 a0) (ha1 : r32 a1) (h : dn_X9_set a0 a1 S = some (S0, r0)) : Mc l (sM D t ad) yX9_set wsX9_set rm_X9_set [.ref (ad 0), vI a0, vI a1] acI S S0 r0 := by
  refine Mc_of (cc := cX9_set) (nL := 4) (ret := (some .int)) (by decide +kernel) rfl (Nat.le_of_ble_eq_true rfl) (lv := [(0, .ref (ad 0)), (1, vI a0), (2, vI a1)]) rfl (fun x C _ => ?_)
  unfold dn_X9_set at h
  show GW (sM D t ad) mi_X9_set (acI, S0, r0) x S 0 [(0, .ref (ad 0)), (1, vI a0), (2, vI a1)] []
  refine g_aload_n (n := 1) C 0 dX9_set_0 rfl rfl ?_
  refine g_iconst (n := 2) C dX9_set_1 rfl ?_
  obtain ⟨S1, eS1, h⟩ := nmS_e h
  have hS1 : RS S1 := by rw [eS1]; exact RS_i hS (by decide : r32 0)
  refine g_putI (n := 5) C 0 33 rfl (Nat.le_of_ble_eq_true rfl) rfl rfl rfl (Nat.le_of_ble_eq_true rfl) in_X9_set_X9 tyX9_ok nmX9 (by decide +kernel) rfl (by decide +kernel) (Nat.le_of_ble_eq_true rfl) eS1 dX9_set_2 rfl ?_
  refine g_iload_n (n := 6) C 1 dX9_set_5 rfl rfl ?_
  refine g_if_lt (n := 9) C 34 ha0 dX9_set_6 (by decide) rfl (fun (hc2 : a0 < 0) => ?_) (fun (hc2 : ¬ (a0 < 0)) => ?_)
  · rw [if_pos hc2] at h
    refine g_bipush (n := 36) C dX9_set_34 (by decide +kernel) rfl ?_
    exact g_iret C rfl h rfl (by decide : r32 (-2)) hS1 dX9_set_36
  · rw [if_neg hc2] at h
    refine g_iload_n (n := 10) C 1 dX9_set_9 rfl rfl ?_
    refine g_iconst (n := 11) C dX9_set_10 rfl ?_
    refine g_icmp_gt (n := 14) C 34 ha0 (by decide : r32 5) dX9_set_11 (by decide) rfl (fun (hc3 : 5 < a0) => ?_) (fun (hc3 : ¬ (5 < a0)) => ?_)
    · rw [if_pos hc3] at h
      refine g_bipush (n := 36) C dX9_set_34 (by decide +kernel) rfl ?_
      exact g_iret C rfl h rfl (by decide : r32 (-2)) hS1 dX9_set_36
    · rw [if_neg hc3] at h
      refine g_iload_n (n := 15) C 2 dX9_set_14 rfl rfl ?_
      refine g_aload_n (n := 16) C 0 dX9_set_15 rfl rfl ?_
      refine g_getC (n := 19) C 0 1 rfl (Nat.le_of_ble_eq_true rfl) rfl rfl rfl (Nat.le_of_ble_eq_true rfl) in_X9_set_X9 (by decide +kernel) dX9_set_16 rfl ?_
      refine g_iload_n (n := 20) C 1 dX9_set_19 rfl rfl ?_
      obtain ⟨hg4, h⟩ := gd_e h
      refine g_iald (n := 21) C 2 rfl (Nat.le_of_ble_eq_true rfl) rfl rfl hg4 ha0 dX9_set_20 rfl ?_
      refine g_icmp_lt (n := 24) C 34 ha1 ((hS1 2 _).2 (tn_lt hg4 (by decide))) dX9_set_21 (by decide) rfl (fun (hc5 : a1 < S1 2 a0.toNat) => ?_) (fun (hc5 : ¬ (a1 < S1 2 a0.toNat)) => ?_)
      · rw [if_pos hc5] at h
        refine g_bipush (n := 36) C dX9_set_34 (by decide +kernel) rfl ?_
        exact g_iret C rfl h rfl (by decide : r32 (-2)) hS1 dX9_set_36
      · rw [if_neg hc5] at h
        refine g_iload_n (n := 25) C 2 dX9_set_24 rfl rfl ?_
        refine g_aload_n (n := 26) C 0 dX9_set_25 rfl rfl ?_
        refine g_getC (n := 29) C 0 2 rfl (Nat.le_of_ble_eq_true rfl) rfl rfl rfl (Nat.le_of_ble_eq_true rfl) in_X9_set_X9 (by decide +kernel) dX9_set_26 rfl ?_
        refine g_iload_n (n := 30) C 1 dX9_set_29 rfl rfl ?_
        refine g_iald (n := 31) C 3 rfl (Nat.le_of_ble_eq_true rfl) rfl rfl hg4 ha0 dX9_set_30 rfl ?_
        refine g_icmp_le (n := 34) C 37 ha1 ((hS1 3 _).2 (tn_lt hg4 (by decide))) dX9_set_31 (by decide) rfl (fun (hc6 : a1 ≤ S1 3 a0.toNat) => ?_) (fun (hc6 : ¬ (a1 ≤ S1 3 a0.toNat)) => ?_)
        · rw [if_pos hc6] at h
          refine g_aload_n (n := 38) C 0 dX9_set_37 rfl rfl ?_
          refine g_getC (n := 41) C 0 0 rfl (Nat.le_of_ble_eq_true rfl) rfl rfl rfl (Nat.le_of_ble_eq_true rfl) in_X9_set_X9 (by decide +kernel) dX9_set_38 rfl ?_
          refine g_iload_n (n := 42) C 1 dX9_set_41 rfl rfl ?_
          refine g_iald (n := 43) C 1 rfl (Nat.le_of_ble_eq_true rfl) rfl rfl hg4 ha0 dX9_set_42 rfl ?_
          obtain ⟨v7, ev7, h⟩ := nmV_e h
          have hv7 : r32 v7 := by rw [ev7]; exact (hS1 1 _).2 (tn_lt hg4 (by decide))
          refine g_istore_n (n := 44) (lv' := [(3, vI v7), (0, .ref (ad 0)), (1, vI a0), (2, vI a1)]) C dX9_set_43 (Nat.le_of_ble_eq_true rfl) ev7 rfl rfl ?_
          refine g_aload_n (n := 45) C 1 dX9_set_44 rfl rfl ?_
          refine g_getC (n := 48) C 0 0 rfl (Nat.le_of_ble_eq_true rfl) rfl rfl rfl (Nat.le_of_ble_eq_true rfl) in_X9_set_X9 (by decide +kernel) dX9_set_45 rfl ?_
          refine g_iload_n (n := 49) C 2 dX9_set_48 rfl rfl ?_
          refine g_iload_n (n := 50) C 3 dX9_set_49 rfl rfl ?_
          obtain ⟨S8, eS8, h⟩ := nmS_e h
          have hS8 : RS S8 := by rw [eS8]; exact RS_i hS1 ha1
          refine g_iast (n := 51) C 1 rfl (Nat.le_of_ble_eq_true rfl) rfl rfl hg4 ha0 eS8 dX9_set_50 rfl ?_
          refine g_iload_n (n := 52) C 0 dX9_set_51 rfl rfl ?_
          exact g_iret C rfl h rfl hv7 hS8 dX9_set_52
        · rw [if_neg hc6] at h
          refine g_bipush (n := 36) C dX9_set_34 (by decide +kernel) rfl ?_
          exact g_iret C rfl h rfl (by decide : r32 (-2)) hS1 dX9_set_36
-- RX9 speed
abbrev rm_X9_speed : Room := ({ frames := 0, cells := 0, slots := 0, locals := 0 } : Room)
abbrev mi_X9_speed : Mi := (cX9_speed, 3, RX9, wsX9_speed, rm_X9_speed, (some .boolean))
set_option maxRecDepth 20000 in
theorem in_X9_speed_X9 : ∀ w ∈ u_ws RX9 TX9 39, w ∈ wsX9_speed := by decide +kernel
def dn_X9_speed (a0 : Int) (a1 : Int) (S : St) : Option (St × Int) := (nmS (stU S 0 33 0) fun S1 => (if a0 < 1 then some (S1, 0) else (if 12 < a0 then some (S1, 0) else (if a1 < 1 then some (S1, 0) else (if a1 ≤ 100 then (if 0 ≤ a0 ∧ a0 < 13 then (nmS (stU S1 4 a0.toNat a1) fun S7 => some (S7, 1)) else none) else some (S1, 0))))))
set_option maxRecDepth 100000 in
set_option maxHeartbeats 4000000 in
theorem c_X9_speed {l : Launch} {D : va_G} {t : T5} {ad : Nat → Nat} {S S0 : St} {r0 : Int} {a0 a1 : Int} (hS : RS S) (ha0 : r32 a0) (ha1 : r32 a1) (h : dn_X9_speed a0 a1 S = some (S0, r0)) : Mc l (sM D t ad) yX9_speed wsX9_speed rm_X9_speed [.ref (ad 0), vI a0, vI a1] acZ S S0 r0 := by
  refine Mc_of (cc := cX9_speed) (nL := 3) (ret := (some .boolean)) (by decide +kernel) rfl (Nat.le_of_ble_eq_true rfl) (lv := [(0, .ref (ad 0)), (1, vI a0), (2, vI a1)]) rfl (fun x C _ => ?_)
  unfold dn_X9_speed at h
  show GW (sM D t ad) mi_X9_speed (acZ, S0, r0) x S 0 [(0, .ref (ad 0)), (1, vI a0), (2, vI a1)] []
  refine g_aload_n (n := 1) C 0 dX9_speed_0 rfl rfl ?_
  refine g_iconst (n := 2) C dX9_speed_1 rfl ?_
  obtain ⟨S1, eS1, h⟩ := nmS_e h
  have hS1 : RS S1 := by rw [eS1]; exact RS_i hS (by decide : r32 0)
  refine g_putI (n := 5) C 0 33 rfl (Nat.le_of_ble_eq_true rfl) rfl rfl rfl (Nat.le_of_ble_eq_true rfl) in_X9_speed_X9 tyX9_ok nmX9 (by decide +kernel) rfl (by decide +kernel) (Nat.le_of_ble_eq_true rfl) eS1 dX9_speed_2 rfl ?_
  refine g_iload_n (n := 6) C 1 dX9_speed_5 rfl rfl ?_
  refine g_iconst (n := 7) C dX9_speed_6 rfl ?_
  refine g_icmp_lt (n := 10) C 27 ha0 (by decide : r32 1) dX9_speed_7 (by decide) rfl (fun (hc2 : a0 < 1) => ?_) (fun (hc2 : ¬ (a0 < 1)) => ?_)
  · rw [if_pos hc2] at h
    refine g_iconst (n := 28) C dX9_speed_27 rfl ?_
    exact g_zret C rfl (Or.inl rfl) h rfl (Or.inl rfl) hS1 dX9_speed_28
  · rw [if_neg hc2] at h
    refine g_iload_n (n := 11) C 1 dX9_speed_10 rfl rfl ?_
    refine g_bipush (n := 13) C dX9_speed_11 (by decide +kernel) rfl ?_
    refine g_icmp_gt (n := 16) C 27 ha0 (by decide : r32 12) dX9_speed_13 (by decide) rfl (fun (hc3 : 12 < a0) => ?_) (fun (hc3 : ¬ (12 < a0)) => ?_)
    · rw [if_pos hc3] at h
      refine g_iconst (n := 28) C dX9_speed_27 rfl ?_
      exact g_zret C rfl (Or.inl rfl) h rfl (Or.inl rfl) hS1 dX9_speed_28
    · rw [if_neg hc3] at h
      refine g_iload_n (n := 17) C 2 dX9_speed_16 rfl rfl ?_
      refine g_iconst (n := 18) C dX9_speed_17 rfl ?_
      refine g_icmp_lt (n := 21) C 27 ha1 (by decide : r32 1) dX9_speed_18 (by decide) rfl (fun (hc4 : a1 < 1) => ?_) (fun (hc4 : ¬ (a1 < 1)) => ?_)
      · rw [if_pos hc4] at h
        refine g_iconst (n := 28) C dX9_speed_27 rfl ?_
        exact g_zret C rfl (Or.inl rfl) h rfl (Or.inl rfl) hS1 dX9_speed_28
      · rw [if_neg hc4] at h
        refine g_iload_n (n := 22) C 2 dX9_speed_21 rfl rfl ?_
        refine g_bipush (n := 24) C dX9_speed_22 (by decide +kernel) rfl ?_
        refine g_icmp_le (n := 27) C 29 ha1 (by decide : r32 100) dX9_speed_24 (by decide) rfl (fun (hc5 : a1 ≤ 100) => ?_) (fun (hc5 : ¬ (a1 ≤ 100)) => ?_)
        · rw [if_pos hc5] at h
          refine g_aload_n (n := 30) C 0 dX9_speed_29 rfl rfl ?_
          refine g_getC (n := 33) C 0 3 rfl (Nat.le_of_ble_eq_true rfl) rfl rfl rfl (Nat.le_of_ble_eq_true rfl) in_X9_speed_X9 (by decide +kernel) dX9_speed_30 rfl ?_
          refine g_iload_n (n := 34) C 1 dX9_speed_33 rfl rfl ?_
          refine g_iload_n (n := 35) C 2 dX9_speed_34 rfl rfl ?_
          obtain ⟨hg6, h⟩ := gd_e h
          obtain ⟨S7, eS7, h⟩ := nmS_e h
          have hS7 : RS S7 := by rw [eS7]; exact RS_i hS1 ha1
          refine g_iast (n := 36) C 4 rfl (Nat.le_of_ble_eq_true rfl) rfl rfl hg6 ha0 eS7 dX9_speed_35 rfl ?_
          refine g_iconst (n := 37) C dX9_speed_36 rfl ?_
          exact g_zret C rfl (Or.inr rfl) h rfl (Or.inr rfl) hS7 dX9_speed_37
        · rw [if_neg hc5] at h
          refine g_iconst (n := 28) C dX9_speed_27 rfl ?_
          exact g_zret C rfl (Or.inl rfl) h rfl (Or.inl rfl) hS1 dX9_speed_28
-- RX9 caller
abbrev rm_X9_caller : Room := ({ frames := 0, cells := 0, slots := 0, locals := 0 } : Room)
abbrev mi_X9_caller : Mi := (cX9_caller, 6, RX9, wsX9_caller, rm_X9_caller, (some .int))
set_option maxRecDepth 20000 in
theorem in_X9_caller_X9 : ∀ w ∈ u_ws RX9 TX9 39, w ∈ wsX9_caller := by decide +kernel
def dn_X9_caller_75 (x1 : Int) (x2 : Int) (x3 : Int) (x4 : Int) (x5 : Int) (S : St) : Option (St × Int) := some (S, (-1))
set_option maxRecDepth 100000 in
set_option maxHeartbeats 4000000 in
theorem u_X9_caller_75 {D : va_G} {t : T5} {ad : Nat → Nat} {S0 : St} {r0 : Int} {x : Mx} (C : CX (sM D t ad) mi_X9_caller x) : ∀ (x1 : Int) (x2 : Int) (x3 : Int) (x4 : Int) (x5 : Int) (S : St), RS S → (r32 x1) → (r32 x2) → (r32 x3) → (r32 x4) → (r32 x5) → dn_X9_caller_75 x1 x2 x3 x4 x5 S = some (S0, r0) → GW (sM D t ad) mi_X9_caller (acI, S0, r0) x S 75 [(0, .ref (ad 0)), (1, vI x1), (2, vI x2), (3, vI x3), (4, vI x4), (5, vI x5)] [] := by
  intro x1 x2 x3 x4 x5 S hS hx1 hx2 hx3 hx4 hx5 h
  unfold dn_X9_caller_75 at h
  refine g_iconst (n := 76) C dX9_caller_75 rfl ?_
  exact g_iret C rfl h rfl (by decide : r32 (-1)) hS dX9_caller_76
def dn_X9_caller (a0 : Int) (a1 : Int) (a2 : Int) (a3 : Int) (a4 : Int) (S : St) : Option (St × Int) := (nmS (stU S 0 33 0) fun S1 => (if a0 < 0 then dn_X9_caller_75 a0 a1 a2 a3 a4 S1 else (if 2 < a0 then dn_X9_caller_75 a0 a1 a2 a3 a4 S1 else (if a1 < 0 then dn_X9_caller_75 a0 a1 a2 a3 a4 S1 else (if 9 < a1 then dn_X9_caller_75 a0 a1 a2 a3 a4 S1 else (if a2 < 0 then dn_X9_caller_75 a0 a1 a2 a3 a4 S1 else (if 1000 < a2 then dn_X9_caller_75 a0 a1 a2 a3 a4 S1 else (if a3 < 1 then dn_X9_caller_75 a0 a1 a2 a3 a4 S1 else (if 1000 < a3 then dn_X9_caller_75 a0 a1 a2 a3 a4 S1 else (if a4 ≤ S1 0 4 then dn_X9_caller_75 a0 a1 a2 a3 a4 S1 else (if 5000 < a4 then dn_X9_caller_75 a0 a1 a2 a3 a4 S1 else (if S1 0 19 = 60 then dn_X9_caller_75 a0 a1 a2 a3 a4 S1 else (if 0 ≤ S1 0 19 ∧ S1 0 19 < 60 then (nmS (stU S1 10 (S1 0 19).toNat a0) fun S14 => (if 0 ≤ S14 0 19 ∧ S14 0 19 < 60 then (nmS (stU S14 11 (S14 0 19).toNat a1) fun S16 => (if 0 ≤ S16 0 19 ∧ S16 0 19 < 60 then (nmS (stU S16 12 (S16 0 19).toNat a2) fun S18 => (if 0 ≤ S18 0 19 ∧ S18 0 19 < 60 then (nmS (stU S18 13 (S18 0 19).toNat a3) fun S20 => (if 0 ≤ S20 0 19 ∧ S20 0 19 < 60 then (nmS (stU S20 14 (S20 0 19).toNat a4) fun S22 => (if 0 ≤ S22 0 19 ∧ S22 0 19 < 60 then (nmS (stU S22 15 (S22 0 19).toNat 0) fun S24 => (if 0 ≤ S24 0 19 ∧ S24 0 19 < 60 then (nmS (stU S24 16 (S24 0 19).toNat a3) fun S26 => (if 0 ≤ S26 0 19 ∧ S26 0 19 < 60 then (nmS (stU S26 17 (S26 0 19).toNat 0) fun S28 => (if 0 ≤ S28 0 19 ∧ S28 0 19 < 60 then (nmS (stU S28 18 (S28 0 19).toNat 0) fun S30 => (nmS (stU S30 0 19 (w32 ((S30 0 19) + 1))) fun S31 => some (S31, w32 ((S31 0 19) - 1)))) else none)) else none)) else none)) else none)) else none)) else none)) else none)) else none)) else none)))))))))))))
set_option maxRecDepth 100000 in
set_option maxHeartbeats 4000000 in
theorem c_X9_caller {l : Launch} {D : va_G} {t : T5} {ad : Nat → Nat} {S S0 : St} {r0 : Int} {a0 a1 a2 a3 a4 : Int} (hS : RS S) (ha0 : r32 a0) (ha1 : r32 a1) (ha2 : r32 a2) (ha3 : r32 a3) (ha4 : r32 a4) (h : dn_X9_caller a0 a1 a2 a3 a4 S = some (S0, r0)) : Mc l (sM D t ad) yX9_caller wsX9_caller rm_X9_caller [.ref (ad 0), vI a0, vI a1, vI a2, vI a3, vI a4] acI S S0 r0 := by
  refine Mc_of (cc := cX9_caller) (nL := 6) (ret := (some .int)) (by decide +kernel) rfl (Nat.le_of_ble_eq_true rfl) (lv := [(0, .ref (ad 0)), (1, vI a0), (2, vI a1), (3, vI a2), (4, vI a3), (5, vI a4)]) rfl (fun x C _ => ?_)
  unfold dn_X9_caller at h
  show GW (sM D t ad) mi_X9_caller (acI, S0, r0) x S 0 [(0, .ref (ad 0)), (1, vI a0), (2, vI a1), (3, vI a2), (4, vI a3), (5, vI a4)] []
  refine g_aload_n (n := 1) C 0 dX9_caller_0 rfl rfl ?_
  refine g_iconst (n := 2) C dX9_caller_1 rfl ?_
  obtain ⟨S1, eS1, h⟩ := nmS_e h
  have hS1 : RS S1 := by rw [eS1]; exact RS_i hS (by decide : r32 0)
  refine g_putI (n := 5) C 0 33 rfl (Nat.le_of_ble_eq_true rfl) rfl rfl rfl (Nat.le_of_ble_eq_true rfl) in_X9_caller_X9 tyX9_ok nmX9 (by decide +kernel) rfl (by decide +kernel) (Nat.le_of_ble_eq_true rfl) eS1 dX9_caller_2 rfl ?_
  refine g_iload_n (n := 6) C 1 dX9_caller_5 rfl rfl ?_
  refine g_if_lt (n := 9) C 75 ha0 dX9_caller_6 (by decide) rfl (fun (hc2 : a0 < 0) => ?_) (fun (hc2 : ¬ (a0 < 0)) => ?_)
  · rw [if_pos hc2] at h
    refine g_lv [0, 1, 2, 3, 4, 5] rfl ?_
    exact u_X9_caller_75 C a0 a1 a2 a3 a4 S1 hS1 ha0 ha1 ha2 ha3 ha4 h
  · rw [if_neg hc2] at h
    refine g_iload_n (n := 10) C 1 dX9_caller_9 rfl rfl ?_
    refine g_iconst (n := 11) C dX9_caller_10 rfl ?_
    refine g_icmp_gt (n := 14) C 75 ha0 (by decide : r32 2) dX9_caller_11 (by decide) rfl (fun (hc3 : 2 < a0) => ?_) (fun (hc3 : ¬ (2 < a0)) => ?_)
    · rw [if_pos hc3] at h
      refine g_lv [0, 1, 2, 3, 4, 5] rfl ?_
      exact u_X9_caller_75 C a0 a1 a2 a3 a4 S1 hS1 ha0 ha1 ha2 ha3 ha4 h
    · rw [if_neg hc3] at h
      refine g_iload_n (n := 15) C 2 dX9_caller_14 rfl rfl ?_
      refine g_if_lt (n := 18) C 75 ha1 dX9_caller_15 (by decide) rfl (fun (hc4 : a1 < 0) => ?_) (fun (hc4 : ¬ (a1 < 0)) => ?_)
      · rw [if_pos hc4] at h
        refine g_lv [0, 1, 2, 3, 4, 5] rfl ?_
        exact u_X9_caller_75 C a0 a1 a2 a3 a4 S1 hS1 ha0 ha1 ha2 ha3 ha4 h
      · rw [if_neg hc4] at h
        refine g_iload_n (n := 19) C 2 dX9_caller_18 rfl rfl ?_
        refine g_bipush (n := 21) C dX9_caller_19 (by decide +kernel) rfl ?_
        refine g_icmp_gt (n := 24) C 75 ha1 (by decide : r32 9) dX9_caller_21 (by decide) rfl (fun (hc5 : 9 < a1) => ?_) (fun (hc5 : ¬ (9 < a1)) => ?_)
        · rw [if_pos hc5] at h
          refine g_lv [0, 1, 2, 3, 4, 5] rfl ?_
          exact u_X9_caller_75 C a0 a1 a2 a3 a4 S1 hS1 ha0 ha1 ha2 ha3 ha4 h
        · rw [if_neg hc5] at h
          refine g_iload_n (n := 25) C 3 dX9_caller_24 rfl rfl ?_
          refine g_if_lt (n := 28) C 75 ha2 dX9_caller_25 (by decide) rfl (fun (hc6 : a2 < 0) => ?_) (fun (hc6 : ¬ (a2 < 0)) => ?_)
          · rw [if_pos hc6] at h
            refine g_lv [0, 1, 2, 3, 4, 5] rfl ?_
            exact u_X9_caller_75 C a0 a1 a2 a3 a4 S1 hS1 ha0 ha1 ha2 ha3 ha4 h
          · rw [if_neg hc6] at h
            refine g_iload_n (n := 29) C 3 dX9_caller_28 rfl rfl ?_
            refine g_sipush (n := 32) C dX9_caller_29 (by decide +kernel) rfl ?_
            refine g_icmp_gt (n := 35) C 75 ha2 (by decide : r32 1000) dX9_caller_32 (by decide) rfl (fun (hc7 : 1000 < a2) => ?_) (fun (hc7 : ¬ (1000 < a2)) => ?_)
            · rw [if_pos hc7] at h
              refine g_lv [0, 1, 2, 3, 4, 5] rfl ?_
              exact u_X9_caller_75 C a0 a1 a2 a3 a4 S1 hS1 ha0 ha1 ha2 ha3 ha4 h
            · rw [if_neg hc7] at h
              refine g_iload (n := 37) C 4 dX9_caller_35 rfl rfl ?_
              refine g_iconst (n := 38) C dX9_caller_37 rfl ?_
              refine g_icmp_lt (n := 41) C 75 ha3 (by decide : r32 1) dX9_caller_38 (by decide) rfl (fun (hc8 : a3 < 1) => ?_) (fun (hc8 : ¬ (a3 < 1)) => ?_)
              · rw [if_pos hc8] at h
                refine g_lv [0, 1, 2, 3, 4, 5] rfl ?_
                exact u_X9_caller_75 C a0 a1 a2 a3 a4 S1 hS1 ha0 ha1 ha2 ha3 ha4 h
              · rw [if_neg hc8] at h
                refine g_iload (n := 43) C 4 dX9_caller_41 rfl rfl ?_
                refine g_sipush (n := 46) C dX9_caller_43 (by decide +kernel) rfl ?_
                refine g_icmp_gt (n := 49) C 75 ha3 (by decide : r32 1000) dX9_caller_46 (by decide) rfl (fun (hc9 : 1000 < a3) => ?_) (fun (hc9 : ¬ (1000 < a3)) => ?_)
                · rw [if_pos hc9] at h
                  refine g_lv [0, 1, 2, 3, 4, 5] rfl ?_
                  exact u_X9_caller_75 C a0 a1 a2 a3 a4 S1 hS1 ha0 ha1 ha2 ha3 ha4 h
                · rw [if_neg hc9] at h
                  refine g_iload (n := 51) C 5 dX9_caller_49 rfl rfl ?_
                  refine g_aload_n (n := 52) C 0 dX9_caller_51 rfl rfl ?_
                  refine g_getI (n := 55) C 0 4 rfl (Nat.le_of_ble_eq_true rfl) rfl rfl rfl (Nat.le_of_ble_eq_true rfl) in_X9_caller_X9 (by decide +kernel) dX9_caller_52 rfl ?_
                  refine g_icmp_le (n := 58) C 75 ha4 ((hS1 0 4).2 (by decide)) dX9_caller_55 (by decide) rfl (fun (hc10 : a4 ≤ S1 0 4) => ?_) (fun (hc10 : ¬ (a4 ≤ S1 0 4)) => ?_)
                  · rw [if_pos hc10] at h
                    refine g_lv [0, 1, 2, 3, 4, 5] rfl ?_
                    exact u_X9_caller_75 C a0 a1 a2 a3 a4 S1 hS1 ha0 ha1 ha2 ha3 ha4 h
                  · rw [if_neg hc10] at h
                    refine g_iload (n := 60) C 5 dX9_caller_58 rfl rfl ?_
                    refine g_sipush (n := 63) C dX9_caller_60 (by decide +kernel) rfl ?_
                    refine g_icmp_gt (n := 66) C 75 ha4 (by decide : r32 5000) dX9_caller_63 (by decide) rfl (fun (hc11 : 5000 < a4) => ?_) (fun (hc11 : ¬ (5000 < a4)) => ?_)
                    · rw [if_pos hc11] at h
                      refine g_lv [0, 1, 2, 3, 4, 5] rfl ?_
                      exact u_X9_caller_75 C a0 a1 a2 a3 a4 S1 hS1 ha0 ha1 ha2 ha3 ha4 h
                    · rw [if_neg hc11] at h
                      refine g_aload_n (n := 67) C 0 dX9_caller_66 rfl rfl ?_
                      refine g_getI (n := 70) C 0 19 rfl (Nat.le_of_ble_eq_true rfl) rfl rfl rfl (Nat.le_of_ble_eq_true rfl) in_X9_caller_X9 (by decide +kernel) dX9_caller_67 rfl ?_
                      refine g_bipush (n := 72) C dX9_caller_70 (by decide +kernel) rfl ?_
                      refine g_icmp_ne (n := 75) C 77 ((hS1 0 19).2 (by decide)) (by decide : r32 60) dX9_caller_72 (by decide) rfl (fun (hc12 : ¬ (S1 0 19 = 60)) => ?_) (fun (hc12 : S1 0 19 = 60) => ?_)
                      · rw [if_neg hc12] at h
                        refine g_aload_n (n := 78) C 0 dX9_caller_77 rfl rfl ?_
                        refine g_getC (n := 81) C 0 10 rfl (Nat.le_of_ble_eq_true rfl) rfl rfl rfl (Nat.le_of_ble_eq_true rfl) in_X9_caller_X9 (by decide +kernel) dX9_caller_78 rfl ?_
                        refine g_aload_n (n := 82) C 0 dX9_caller_81 rfl rfl ?_
                        refine g_getI (n := 85) C 0 19 rfl (Nat.le_of_ble_eq_true rfl) rfl rfl rfl (Nat.le_of_ble_eq_true rfl) in_X9_caller_X9 (by decide +kernel) dX9_caller_82 rfl ?_
                        refine g_iload_n (n := 86) C 1 dX9_caller_85 rfl rfl ?_
                        obtain ⟨hg13, h⟩ := gd_e h
                        obtain ⟨S14, eS14, h⟩ := nmS_e h
                        have hS14 : RS S14 := by rw [eS14]; exact RS_i hS1 ha0
                        refine g_iast (n := 87) C 10 rfl (Nat.le_of_ble_eq_true rfl) rfl rfl hg13 ((hS1 0 19).2 (by decide)) eS14 dX9_caller_86 rfl ?_
                        refine g_aload_n (n := 88) C 0 dX9_caller_87 rfl rfl ?_
                        refine g_getC (n := 91) C 0 11 rfl (Nat.le_of_ble_eq_true rfl) rfl rfl rfl (Nat.le_of_ble_eq_true rfl) in_X9_caller_X9 (by decide +kernel) dX9_caller_88 rfl ?_
                        refine g_aload_n (n := 92) C 0 dX9_caller_91 rfl rfl ?_
                        refine g_getI (n := 95) C 0 19 rfl (Nat.le_of_ble_eq_true rfl) rfl rfl rfl (Nat.le_of_ble_eq_true rfl) in_X9_caller_X9 (by decide +kernel) dX9_caller_92 rfl ?_
                        refine g_iload_n (n := 96) C 2 dX9_caller_95 rfl rfl ?_
                        obtain ⟨hg15, h⟩ := gd_e h
                        obtain ⟨S16, eS16, h⟩ := nmS_e h
                        have hS16 : RS S16 := by rw [eS16]; exact RS_i hS14 ha1
                        refine g_iast (n := 97) C 11 rfl (Nat.le_of_ble_eq_true rfl) rfl rfl hg15 ((hS14 0 19).2 (by decide)) eS16 dX9_caller_96 rfl ?_
                        refine g_aload_n (n := 98) C 0 dX9_caller_97 rfl rfl ?_
                        refine g_getC (n := 101) C 0 12 rfl (Nat.le_of_ble_eq_true rfl) rfl rfl rfl (Nat.le_of_ble_eq_true rfl) in_X9_caller_X9 (by decide +kernel) dX9_caller_98 rfl ?_
                        refine g_aload_n (n := 102) C 0 dX9_caller_101 rfl rfl ?_
                        refine g_getI (n := 105) C 0 19 rfl (Nat.le_of_ble_eq_true rfl) rfl rfl rfl (Nat.le_of_ble_eq_true rfl) in_X9_caller_X9 (by decide +kernel) dX9_caller_102 rfl ?_
                        refine g_iload_n (n := 106) C 3 dX9_caller_105 rfl rfl ?_
                        obtain ⟨hg17, h⟩ := gd_e h
                        obtain ⟨S18, eS18, h⟩ := nmS_e h
                        have hS18 : RS S18 := by rw [eS18]; exact RS_i hS16 ha2
                        refine g_iast (n := 107) C 12 rfl (Nat.le_of_ble_eq_true rfl) rfl rfl hg17 ((hS16 0 19).2 (by decide)) eS18 dX9_caller_106 rfl ?_
                        refine g_aload_n (n := 108) C 0 dX9_caller_107 rfl rfl ?_
                        refine g_getC (n := 111) C 0 13 rfl (Nat.le_of_ble_eq_true rfl) rfl rfl rfl (Nat.le_of_ble_eq_true rfl) in_X9_caller_X9 (by decide +kernel) dX9_caller_108 rfl ?_
                        refine g_aload_n (n := 112) C 0 dX9_caller_111 rfl rfl ?_
                        refine g_getI (n := 115) C 0 19 rfl (Nat.le_of_ble_eq_true rfl) rfl rfl rfl (Nat.le_of_ble_eq_true rfl) in_X9_caller_X9 (by decide +kernel) dX9_caller_112 rfl ?_
                        refine g_iload (n := 117) C 4 dX9_caller_115 rfl rfl ?_
                        obtain ⟨hg19, h⟩ := gd_e h
                        obtain ⟨S20, eS20, h⟩ := nmS_e h
                        have hS20 : RS S20 := by rw [eS20]; exact RS_i hS18 ha3
                        refine g_iast (n := 118) C 13 rfl (Nat.le_of_ble_eq_true rfl) rfl rfl hg19 ((hS18 0 19).2 (by decide)) eS20 dX9_caller_117 rfl ?_
                        refine g_aload_n (n := 119) C 0 dX9_caller_118 rfl rfl ?_
                        refine g_getC (n := 122) C 0 14 rfl (Nat.le_of_ble_eq_true rfl) rfl rfl rfl (Nat.le_of_ble_eq_true rfl) in_X9_caller_X9 (by decide +kernel) dX9_caller_119 rfl ?_
                        refine g_aload_n (n := 123) C 0 dX9_caller_122 rfl rfl ?_
                        refine g_getI (n := 126) C 0 19 rfl (Nat.le_of_ble_eq_true rfl) rfl rfl rfl (Nat.le_of_ble_eq_true rfl) in_X9_caller_X9 (by decide +kernel) dX9_caller_123 rfl ?_
                        refine g_iload (n := 128) C 5 dX9_caller_126 rfl rfl ?_
                        obtain ⟨hg21, h⟩ := gd_e h
                        obtain ⟨S22, eS22, h⟩ := nmS_e h
                        have hS22 : RS S22 := by rw [eS22]; exact RS_i hS20 ha4
                        refine g_iast (n := 129) C 14 rfl (Nat.le_of_ble_eq_true rfl) rfl rfl hg21 ((hS20 0 19).2 (by decide)) eS22 dX9_caller_128 rfl ?_
                        refine g_aload_n (n := 130) C 0 dX9_caller_129 rfl rfl ?_
                        refine g_getC (n := 133) C 0 15 rfl (Nat.le_of_ble_eq_true rfl) rfl rfl rfl (Nat.le_of_ble_eq_true rfl) in_X9_caller_X9 (by decide +kernel) dX9_caller_130 rfl ?_
                        refine g_aload_n (n := 134) C 0 dX9_caller_133 rfl rfl ?_
                        refine g_getI (n := 137) C 0 19 rfl (Nat.le_of_ble_eq_true rfl) rfl rfl rfl (Nat.le_of_ble_eq_true rfl) in_X9_caller_X9 (by decide +kernel) dX9_caller_134 rfl ?_
                        refine g_iconst (n := 138) C dX9_caller_137 rfl ?_
                        obtain ⟨hg23, h⟩ := gd_e h
                        obtain ⟨S24, eS24, h⟩ := nmS_e h
                        have hS24 : RS S24 := by rw [eS24]; exact RS_i hS22 (by decide : r32 0)
                        refine g_iast (n := 139) C 15 rfl (Nat.le_of_ble_eq_true rfl) rfl rfl hg23 ((hS22 0 19).2 (by decide)) eS24 dX9_caller_138 rfl ?_
                        refine g_aload_n (n := 140) C 0 dX9_caller_139 rfl rfl ?_
                        refine g_getC (n := 143) C 0 16 rfl (Nat.le_of_ble_eq_true rfl) rfl rfl rfl (Nat.le_of_ble_eq_true rfl) in_X9_caller_X9 (by decide +kernel) dX9_caller_140 rfl ?_
                        refine g_aload_n (n := 144) C 0 dX9_caller_143 rfl rfl ?_
                        refine g_getI (n := 147) C 0 19 rfl (Nat.le_of_ble_eq_true rfl) rfl rfl rfl (Nat.le_of_ble_eq_true rfl) in_X9_caller_X9 (by decide +kernel) dX9_caller_144 rfl ?_
                        refine g_iload (n := 149) C 4 dX9_caller_147 rfl rfl ?_
                        obtain ⟨hg25, h⟩ := gd_e h
                        obtain ⟨S26, eS26, h⟩ := nmS_e h
                        have hS26 : RS S26 := by rw [eS26]; exact RS_i hS24 ha3
                        refine g_iast (n := 150) C 16 rfl (Nat.le_of_ble_eq_true rfl) rfl rfl hg25 ((hS24 0 19).2 (by decide)) eS26 dX9_caller_149 rfl ?_
                        refine g_aload_n (n := 151) C 0 dX9_caller_150 rfl rfl ?_
                        refine g_getC (n := 154) C 0 17 rfl (Nat.le_of_ble_eq_true rfl) rfl rfl rfl (Nat.le_of_ble_eq_true rfl) in_X9_caller_X9 (by decide +kernel) dX9_caller_151 rfl ?_
                        refine g_aload_n (n := 155) C 0 dX9_caller_154 rfl rfl ?_
                        refine g_getI (n := 158) C 0 19 rfl (Nat.le_of_ble_eq_true rfl) rfl rfl rfl (Nat.le_of_ble_eq_true rfl) in_X9_caller_X9 (by decide +kernel) dX9_caller_155 rfl ?_
                        refine g_iconst (n := 159) C dX9_caller_158 rfl ?_
                        obtain ⟨hg27, h⟩ := gd_e h
                        obtain ⟨S28, eS28, h⟩ := nmS_e h
                        have hS28 : RS S28 := by rw [eS28]; exact RS_i hS26 (by decide : r32 0)
                        refine g_iast (n := 160) C 17 rfl (Nat.le_of_ble_eq_true rfl) rfl rfl hg27 ((hS26 0 19).2 (by decide)) eS28 dX9_caller_159 rfl ?_
                        refine g_aload_n (n := 161) C 0 dX9_caller_160 rfl rfl ?_
                        refine g_getC (n := 164) C 0 18 rfl (Nat.le_of_ble_eq_true rfl) rfl rfl rfl (Nat.le_of_ble_eq_true rfl) in_X9_caller_X9 (by decide +kernel) dX9_caller_161 rfl ?_
                        refine g_aload_n (n := 165) C 0 dX9_caller_164 rfl rfl ?_
                        refine g_getI (n := 168) C 0 19 rfl (Nat.le_of_ble_eq_true rfl) rfl rfl rfl (Nat.le_of_ble_eq_true rfl) in_X9_caller_X9 (by decide +kernel) dX9_caller_165 rfl ?_
                        refine g_iconst (n := 169) C dX9_caller_168 rfl ?_
                        obtain ⟨hg29, h⟩ := gd_e h
                        obtain ⟨S30, eS30, h⟩ := nmS_e h
                        have hS30 : RS S30 := by rw [eS30]; exact RS_i hS28 (by decide : r32 0)
                        refine g_zast (n := 170) C 18 rfl (Nat.le_of_ble_eq_true rfl) rfl rfl hg29 ((hS28 0 19).2 (by decide)) (by decide +kernel) eS30 dX9_caller_169 rfl ?_
                        refine g_aload_n (n := 171) C 0 dX9_caller_170 rfl rfl ?_
                        refine g_dup (n := 172) C rfl dX9_caller_171 rfl ?_
                        refine g_getI (n := 175) C 0 19 rfl (Nat.le_of_ble_eq_true rfl) rfl rfl rfl (Nat.le_of_ble_eq_true rfl) in_X9_caller_X9 (by decide +kernel) dX9_caller_172 rfl ?_
                        refine g_iconst (n := 176) C dX9_caller_175 rfl ?_
                        refine g_iadd (n := 177) C dX9_caller_176 rfl ?_
                        obtain ⟨S31, eS31, h⟩ := nmS_e h
                        have hS31 : RS S31 := by rw [eS31]; exact RS_i hS30 (w32_r _)
                        refine g_putI (n := 180) C 0 19 rfl (Nat.le_of_ble_eq_true rfl) rfl rfl rfl (Nat.le_of_ble_eq_true rfl) in_X9_caller_X9 tyX9_ok nmX9 (by decide +kernel) rfl (by decide +kernel) (Nat.le_of_ble_eq_true rfl) eS31 dX9_caller_177 rfl ?_
                        refine g_aload_n (n := 181) C 0 dX9_caller_180 rfl rfl ?_
                        refine g_getI (n := 184) C 0 19 rfl (Nat.le_of_ble_eq_true rfl) rfl rfl rfl (Nat.le_of_ble_eq_true rfl) in_X9_caller_X9 (by decide +kernel) dX9_caller_181 rfl ?_
                        refine g_iconst (n := 185) C dX9_caller_184 rfl ?_
                        refine g_isub (n := 186) C dX9_caller_185 rfl ?_
                        exact g_iret C rfl h rfl (w32_r _) hS31 dX9_caller_186
                      · rw [if_pos hc12] at h
                        refine g_lv [0, 1, 2, 3, 4, 5] rfl ?_
                        exact u_X9_caller_75 C a0 a1 a2 a3 a4 S1 hS1 ha0 ha1 ha2 ha3 ha4 h
-- RX9 broken
abbrev rm_X9_broken : Room := ({ frames := 0, cells := 0, slots := 0, locals := 0 } : Room)
abbrev mi_X9_broken : Mi := (cX9_broken, 3, RX9, wsX9_broken, rm_X9_broken, (some .boolean))
set_option maxRecDepth 20000 in
theorem in_X9_broken_X9 : ∀ w ∈ u_ws RX9 TX9 39, w ∈ wsX9_broken := by decide +kernel
def dn_X9_broken (a0 : Int) (a1 : Int) (S : St) : Option (St × Int) := (nmS (stU S 0 33 0) fun S1 => (if a0 ≤ S1 0 4 then some (S1, 0) else (if 5000 < a0 then some (S1, 0) else (if a1 < 0 then some (S1, 0) else (if 12 ≤ a1 then some (S1, 0) else (if S1 0 22 = 60 then some (S1, 0) else (if 0 ≤ S1 0 22 ∧ S1 0 22 < 60 then (nmS (stU S1 19 (S1 0 22).toNat a0) fun S8 => (if 0 ≤ S8 0 22 ∧ S8 0 22 < 60 then (nmS (stU S8 20 (S8 0 22).toNat a1) fun S10 => (nmS (stU S10 0 22 (w32 ((S10 0 22) + 1))) fun S11 => some (S11, 1))) else none)) else none)))))))
set_option maxRecDepth 100000 in
set_option maxHeartbeats 4000000 in
theorem c_X9_broken {l : Launch} {D : va_G} {t : T5} {ad : Nat → Nat} {S S0 : St} {r0 : Int} {a0 a1 : Int} (hS : RS S) (ha0 : r32 a0) (ha1 : r32 a1) (h : dn_X9_broken a0 a1 S = some (S0, r0)) : Mc l (sM D t ad) yX9_broken wsX9_broken rm_X9_broken [.ref (ad 0), vI a0, vI a1] acZ S S0 r0 := by
  refine Mc_of (cc := cX9_broken) (nL := 3) (ret := (some .boolean)) (by decide +kernel) rfl (Nat.le_of_ble_eq_true rfl) (lv := [(0, .ref (ad 0)), (1, vI a0), (2, vI a1)]) rfl (fun x C _ => ?_)
  unfold dn_X9_broken at h
  show GW (sM D t ad) mi_X9_broken (acZ, S0, r0) x S 0 [(0, .ref (ad 0)), (1, vI a0), (2, vI a1)] []
  refine g_aload_n (n := 1) C 0 dX9_broken_0 rfl rfl ?_
  refine g_iconst (n := 2) C dX9_broken_1 rfl ?_
  obtain ⟨S1, eS1, h⟩ := nmS_e h
  have hS1 : RS S1 := by rw [eS1]; exact RS_i hS (by decide : r32 0)
  refine g_putI (n := 5) C 0 33 rfl (Nat.le_of_ble_eq_true rfl) rfl rfl rfl (Nat.le_of_ble_eq_true rfl) in_X9_broken_X9 tyX9_ok nmX9 (by decide +kernel) rfl (by decide +kernel) (Nat.le_of_ble_eq_true rfl) eS1 dX9_broken_2 rfl ?_
  refine g_iload_n (n := 6) C 1 dX9_broken_5 rfl rfl ?_
  refine g_aload_n (n := 7) C 0 dX9_broken_6 rfl rfl ?_
  refine g_getI (n := 10) C 0 4 rfl (Nat.le_of_ble_eq_true rfl) rfl rfl rfl (Nat.le_of_ble_eq_true rfl) in_X9_broken_X9 (by decide +kernel) dX9_broken_7 rfl ?_
  refine g_icmp_le (n := 13) C 39 ha0 ((hS1 0 4).2 (by decide)) dX9_broken_10 (by decide) rfl (fun (hc2 : a0 ≤ S1 0 4) => ?_) (fun (hc2 : ¬ (a0 ≤ S1 0 4)) => ?_)
  · rw [if_pos hc2] at h
    refine g_iconst (n := 40) C dX9_broken_39 rfl ?_
    exact g_zret C rfl (Or.inl rfl) h rfl (Or.inl rfl) hS1 dX9_broken_40
  · rw [if_neg hc2] at h
    refine g_iload_n (n := 14) C 1 dX9_broken_13 rfl rfl ?_
    refine g_sipush (n := 17) C dX9_broken_14 (by decide +kernel) rfl ?_
    refine g_icmp_gt (n := 20) C 39 ha0 (by decide : r32 5000) dX9_broken_17 (by decide) rfl (fun (hc3 : 5000 < a0) => ?_) (fun (hc3 : ¬ (5000 < a0)) => ?_)
    · rw [if_pos hc3] at h
      refine g_iconst (n := 40) C dX9_broken_39 rfl ?_
      exact g_zret C rfl (Or.inl rfl) h rfl (Or.inl rfl) hS1 dX9_broken_40
    · rw [if_neg hc3] at h
      refine g_iload_n (n := 21) C 2 dX9_broken_20 rfl rfl ?_
      refine g_if_lt (n := 24) C 39 ha1 dX9_broken_21 (by decide) rfl (fun (hc4 : a1 < 0) => ?_) (fun (hc4 : ¬ (a1 < 0)) => ?_)
      · rw [if_pos hc4] at h
        refine g_iconst (n := 40) C dX9_broken_39 rfl ?_
        exact g_zret C rfl (Or.inl rfl) h rfl (Or.inl rfl) hS1 dX9_broken_40
      · rw [if_neg hc4] at h
        refine g_iload_n (n := 25) C 2 dX9_broken_24 rfl rfl ?_
        refine g_bipush (n := 27) C dX9_broken_25 (by decide +kernel) rfl ?_
        refine g_icmp_ge (n := 30) C 39 ha1 (by decide : r32 12) dX9_broken_27 (by decide) rfl (fun (hc5 : 12 ≤ a1) => ?_) (fun (hc5 : ¬ (12 ≤ a1)) => ?_)
        · rw [if_pos hc5] at h
          refine g_iconst (n := 40) C dX9_broken_39 rfl ?_
          exact g_zret C rfl (Or.inl rfl) h rfl (Or.inl rfl) hS1 dX9_broken_40
        · rw [if_neg hc5] at h
          refine g_aload_n (n := 31) C 0 dX9_broken_30 rfl rfl ?_
          refine g_getI (n := 34) C 0 22 rfl (Nat.le_of_ble_eq_true rfl) rfl rfl rfl (Nat.le_of_ble_eq_true rfl) in_X9_broken_X9 (by decide +kernel) dX9_broken_31 rfl ?_
          refine g_bipush (n := 36) C dX9_broken_34 (by decide +kernel) rfl ?_
          refine g_icmp_ne (n := 39) C 41 ((hS1 0 22).2 (by decide)) (by decide : r32 60) dX9_broken_36 (by decide) rfl (fun (hc6 : ¬ (S1 0 22 = 60)) => ?_) (fun (hc6 : S1 0 22 = 60) => ?_)
          · rw [if_neg hc6] at h
            refine g_aload_n (n := 42) C 0 dX9_broken_41 rfl rfl ?_
            refine g_getC (n := 45) C 0 20 rfl (Nat.le_of_ble_eq_true rfl) rfl rfl rfl (Nat.le_of_ble_eq_true rfl) in_X9_broken_X9 (by decide +kernel) dX9_broken_42 rfl ?_
            refine g_aload_n (n := 46) C 0 dX9_broken_45 rfl rfl ?_
            refine g_getI (n := 49) C 0 22 rfl (Nat.le_of_ble_eq_true rfl) rfl rfl rfl (Nat.le_of_ble_eq_true rfl) in_X9_broken_X9 (by decide +kernel) dX9_broken_46 rfl ?_
            refine g_iload_n (n := 50) C 1 dX9_broken_49 rfl rfl ?_
            obtain ⟨hg7, h⟩ := gd_e h
            obtain ⟨S8, eS8, h⟩ := nmS_e h
            have hS8 : RS S8 := by rw [eS8]; exact RS_i hS1 ha0
            refine g_iast (n := 51) C 19 rfl (Nat.le_of_ble_eq_true rfl) rfl rfl hg7 ((hS1 0 22).2 (by decide)) eS8 dX9_broken_50 rfl ?_
            refine g_aload_n (n := 52) C 0 dX9_broken_51 rfl rfl ?_
            refine g_getC (n := 55) C 0 21 rfl (Nat.le_of_ble_eq_true rfl) rfl rfl rfl (Nat.le_of_ble_eq_true rfl) in_X9_broken_X9 (by decide +kernel) dX9_broken_52 rfl ?_
            refine g_aload_n (n := 56) C 0 dX9_broken_55 rfl rfl ?_
            refine g_getI (n := 59) C 0 22 rfl (Nat.le_of_ble_eq_true rfl) rfl rfl rfl (Nat.le_of_ble_eq_true rfl) in_X9_broken_X9 (by decide +kernel) dX9_broken_56 rfl ?_
            refine g_iload_n (n := 60) C 2 dX9_broken_59 rfl rfl ?_
            obtain ⟨hg9, h⟩ := gd_e h
            obtain ⟨S10, eS10, h⟩ := nmS_e h
            have hS10 : RS S10 := by rw [eS10]; exact RS_i hS8 ha1
            refine g_iast (n := 61) C 20 rfl (Nat.le_of_ble_eq_true rfl) rfl rfl hg9 ((hS8 0 22).2 (by decide)) eS10 dX9_broken_60 rfl ?_
            refine g_aload_n (n := 62) C 0 dX9_broken_61 rfl rfl ?_
            refine g_dup (n := 63) C rfl dX9_broken_62 rfl ?_
            refine g_getI (n := 66) C 0 22 rfl (Nat.le_of_ble_eq_true rfl) rfl rfl rfl (Nat.le_of_ble_eq_true rfl) in_X9_broken_X9 (by decide +kernel) dX9_broken_63 rfl ?_
            refine g_iconst (n := 67) C dX9_broken_66 rfl ?_
            refine g_iadd (n := 68) C dX9_broken_67 rfl ?_
            obtain ⟨S11, eS11, h⟩ := nmS_e h
            have hS11 : RS S11 := by rw [eS11]; exact RS_i hS10 (w32_r _)
            refine g_putI (n := 71) C 0 22 rfl (Nat.le_of_ble_eq_true rfl) rfl rfl rfl (Nat.le_of_ble_eq_true rfl) in_X9_broken_X9 tyX9_ok nmX9 (by decide +kernel) rfl (by decide +kernel) (Nat.le_of_ble_eq_true rfl) eS11 dX9_broken_68 rfl ?_
            refine g_iconst (n := 72) C dX9_broken_71 rfl ?_
            exact g_zret C rfl (Or.inr rfl) h rfl (Or.inr rfl) hS11 dX9_broken_72
          · rw [if_pos hc6] at h
            refine g_iconst (n := 40) C dX9_broken_39 rfl ?_
            exact g_zret C rfl (Or.inl rfl) h rfl (Or.inl rfl) hS1 dX9_broken_40
-- RX9 clear
abbrev rm_X9_clear : Room := ({ frames := 0, cells := 0, slots := 0, locals := 0 } : Room)
abbrev mi_X9_clear : Mi := (cX9_clear, 2, RX9, wsX9_clear, rm_X9_clear, none)
set_option maxRecDepth 20000 in
theorem in_X9_clear_X9 : ∀ w ∈ u_ws RX9 TX9 39, w ∈ wsX9_clear := by decide +kernel
def dn_X9_clear_12 : Nat → Int → St → Option (St × Int)
  | 0, _, _ => none
  | n + 1, x1, S => (if 12 ≤ x1 then (nmS (stU S 0 19 0) fun S4 => (nmS (stU S4 0 22 0) fun S5 => (nmS (stU S5 0 24 0) fun S6 => (nmS (stU S6 0 25 0) fun S7 => (nmS (stU S7 0 26 0) fun S8 => (nmS (stU S8 0 27 0) fun S9 => (nmS (stU S9 0 100028 0) fun S10 => (nmS (stU S10 0 29 0) fun S11 => (nmS (stU S11 0 30 0) fun S12 => (nmS (stU S12 0 32 0) fun S13 => some (S13, 0))))))))))) else (if 0 ≤ x1 ∧ x1 < 12 then (nmS (stU S 5 x1.toNat 0) fun S15 => (nmS (stU S15 6 x1.toNat 0) fun S16 => (nmV (w32 (x1 + 1)) fun v17 => dn_X9_clear_12 n v17 S16))) else none))
set_option maxRecDepth 100000 in
set_option maxHeartbeats 4000000 in
theorem u_X9_clear_12 {D : va_G} {t : T5} {ad : Nat → Nat} {S0 : St} {r0 : Int} {x : Mx} (C : CX (sM D t ad) mi_X9_clear x) : ∀ (n : Nat) (x1 : Int) (S : St), RS S → (r32 x1) → dn_X9_clear_12 n x1 S = some (S0, r0) → GW (sM D t ad) mi_X9_clear (acV, S0, r0) x S 12 [(0, .ref (ad 0)), (1, vI x1)] [] := by
  intro n
  induction n with
  | zero =>
    intro x1 S hS hx1 h
    cases h
  | succ n ih =>
    intro x1 S hS hx1 h
    rw [dn_X9_clear_12] at h
    refine g_iload_n (n := 13) C 1 dX9_clear_12 rfl rfl ?_
    refine g_bipush (n := 15) C dX9_clear_13 (by decide +kernel) rfl ?_
    refine g_icmp_ge (n := 18) C 38 hx1 (by decide : r32 12) dX9_clear_15 (by decide) rfl (fun (hc3 : 12 ≤ x1) => ?_) (fun (hc3 : ¬ (12 ≤ x1)) => ?_)
    · rw [if_pos hc3] at h
      refine g_aload_n (n := 39) C 0 dX9_clear_38 rfl rfl ?_
      refine g_iconst (n := 40) C dX9_clear_39 rfl ?_
      obtain ⟨S4, eS4, h⟩ := nmS_e h
      have hS4 : RS S4 := by rw [eS4]; exact RS_i hS (by decide : r32 0)
      refine g_putI (n := 43) C 0 19 rfl (Nat.le_of_ble_eq_true rfl) rfl rfl rfl (Nat.le_of_ble_eq_true rfl) in_X9_clear_X9 tyX9_ok nmX9 (by decide +kernel) rfl (by decide +kernel) (Nat.le_of_ble_eq_true rfl) eS4 dX9_clear_40 rfl ?_
      refine g_aload_n (n := 44) C 0 dX9_clear_43 rfl rfl ?_
      refine g_iconst (n := 45) C dX9_clear_44 rfl ?_
      obtain ⟨S5, eS5, h⟩ := nmS_e h
      have hS5 : RS S5 := by rw [eS5]; exact RS_i hS4 (by decide : r32 0)
      refine g_putI (n := 48) C 0 22 rfl (Nat.le_of_ble_eq_true rfl) rfl rfl rfl (Nat.le_of_ble_eq_true rfl) in_X9_clear_X9 tyX9_ok nmX9 (by decide +kernel) rfl (by decide +kernel) (Nat.le_of_ble_eq_true rfl) eS5 dX9_clear_45 rfl ?_
      refine g_aload_n (n := 49) C 0 dX9_clear_48 rfl rfl ?_
      refine g_iconst (n := 50) C dX9_clear_49 rfl ?_
      obtain ⟨S6, eS6, h⟩ := nmS_e h
      have hS6 : RS S6 := by rw [eS6]; exact RS_i hS5 (by decide : r32 0)
      refine g_putI (n := 53) C 0 24 rfl (Nat.le_of_ble_eq_true rfl) rfl rfl rfl (Nat.le_of_ble_eq_true rfl) in_X9_clear_X9 tyX9_ok nmX9 (by decide +kernel) rfl (by decide +kernel) (Nat.le_of_ble_eq_true rfl) eS6 dX9_clear_50 rfl ?_
      refine g_aload_n (n := 54) C 0 dX9_clear_53 rfl rfl ?_
      refine g_iconst (n := 55) C dX9_clear_54 rfl ?_
      obtain ⟨S7, eS7, h⟩ := nmS_e h
      have hS7 : RS S7 := by rw [eS7]; exact RS_i hS6 (by decide : r32 0)
      refine g_putI (n := 58) C 0 25 rfl (Nat.le_of_ble_eq_true rfl) rfl rfl rfl (Nat.le_of_ble_eq_true rfl) in_X9_clear_X9 tyX9_ok nmX9 (by decide +kernel) rfl (by decide +kernel) (Nat.le_of_ble_eq_true rfl) eS7 dX9_clear_55 rfl ?_
      refine g_aload_n (n := 59) C 0 dX9_clear_58 rfl rfl ?_
      refine g_iconst (n := 60) C dX9_clear_59 rfl ?_
      obtain ⟨S8, eS8, h⟩ := nmS_e h
      have hS8 : RS S8 := by rw [eS8]; exact RS_i hS7 (by decide : r32 0)
      refine g_putI (n := 63) C 0 26 rfl (Nat.le_of_ble_eq_true rfl) rfl rfl rfl (Nat.le_of_ble_eq_true rfl) in_X9_clear_X9 tyX9_ok nmX9 (by decide +kernel) rfl (by decide +kernel) (Nat.le_of_ble_eq_true rfl) eS8 dX9_clear_60 rfl ?_
      refine g_aload_n (n := 64) C 0 dX9_clear_63 rfl rfl ?_
      refine g_iconst (n := 65) C dX9_clear_64 rfl ?_
      obtain ⟨S9, eS9, h⟩ := nmS_e h
      have hS9 : RS S9 := by rw [eS9]; exact RS_i hS8 (by decide : r32 0)
      refine g_putI (n := 68) C 0 27 rfl (Nat.le_of_ble_eq_true rfl) rfl rfl rfl (Nat.le_of_ble_eq_true rfl) in_X9_clear_X9 tyX9_ok nmX9 (by decide +kernel) rfl (by decide +kernel) (Nat.le_of_ble_eq_true rfl) eS9 dX9_clear_65 rfl ?_
      refine g_aload_n (n := 69) C 0 dX9_clear_68 rfl rfl ?_
      refine g_lconst (n := 70) (w := 0) C dX9_clear_69 (by decide +kernel) rfl ?_
      obtain ⟨S10, eS10, h⟩ := nmS_e h
      have hS10 : RS S10 := by rw [eS10]; exact RS_l hS9 (by decide : r64 0) (by decide)
      refine g_putJ (n := 73) C 0 28 rfl (Nat.le_of_ble_eq_true rfl) rfl rfl rfl (Nat.le_of_ble_eq_true rfl) in_X9_clear_X9 tyX9_ok nmX9 (by decide +kernel) rfl (by decide +kernel) (Nat.le_of_ble_eq_true rfl) eS10 dX9_clear_70 rfl ?_
      refine g_aload_n (n := 74) C 0 dX9_clear_73 rfl rfl ?_
      refine g_iconst (n := 75) C dX9_clear_74 rfl ?_
      obtain ⟨S11, eS11, h⟩ := nmS_e h
      have hS11 : RS S11 := by rw [eS11]; exact RS_i hS10 (by decide : r32 0)
      refine g_putI (n := 78) C 0 29 rfl (Nat.le_of_ble_eq_true rfl) rfl rfl rfl (Nat.le_of_ble_eq_true rfl) in_X9_clear_X9 tyX9_ok nmX9 (by decide +kernel) rfl (by decide +kernel) (Nat.le_of_ble_eq_true rfl) eS11 dX9_clear_75 rfl ?_
      refine g_aload_n (n := 79) C 0 dX9_clear_78 rfl rfl ?_
      refine g_iconst (n := 80) C dX9_clear_79 rfl ?_
      obtain ⟨S12, eS12, h⟩ := nmS_e h
      have hS12 : RS S12 := by rw [eS12]; exact RS_i hS11 (by decide : r32 0)
      refine g_putI (n := 83) C 0 30 rfl (Nat.le_of_ble_eq_true rfl) rfl rfl rfl (Nat.le_of_ble_eq_true rfl) in_X9_clear_X9 tyX9_ok nmX9 (by decide +kernel) rfl (by decide +kernel) (Nat.le_of_ble_eq_true rfl) eS12 dX9_clear_80 rfl ?_
      refine g_aload_n (n := 84) C 0 dX9_clear_83 rfl rfl ?_
      refine g_iconst (n := 85) C dX9_clear_84 rfl ?_
      obtain ⟨S13, eS13, h⟩ := nmS_e h
      have hS13 : RS S13 := by rw [eS13]; exact RS_i hS12 (by decide : r32 0)
      refine g_putI (n := 88) C 0 32 rfl (Nat.le_of_ble_eq_true rfl) rfl rfl rfl (Nat.le_of_ble_eq_true rfl) in_X9_clear_X9 tyX9_ok nmX9 (by decide +kernel) rfl (by decide +kernel) (Nat.le_of_ble_eq_true rfl) eS13 dX9_clear_85 rfl ?_
      exact g_vret C rfl h rfl trivial hS13 dX9_clear_88
    · rw [if_neg hc3] at h
      refine g_aload_n (n := 19) C 0 dX9_clear_18 rfl rfl ?_
      refine g_getC (n := 22) C 0 5 rfl (Nat.le_of_ble_eq_true rfl) rfl rfl rfl (Nat.le_of_ble_eq_true rfl) in_X9_clear_X9 (by decide +kernel) dX9_clear_19 rfl ?_
      refine g_iload_n (n := 23) C 1 dX9_clear_22 rfl rfl ?_
      refine g_iconst (n := 24) C dX9_clear_23 rfl ?_
      obtain ⟨hg14, h⟩ := gd_e h
      obtain ⟨S15, eS15, h⟩ := nmS_e h
      have hS15 : RS S15 := by rw [eS15]; exact RS_i hS (by decide : r32 0)
      refine g_iast (n := 25) C 5 rfl (Nat.le_of_ble_eq_true rfl) rfl rfl hg14 hx1 eS15 dX9_clear_24 rfl ?_
      refine g_aload_n (n := 26) C 0 dX9_clear_25 rfl rfl ?_
      refine g_getC (n := 29) C 0 6 rfl (Nat.le_of_ble_eq_true rfl) rfl rfl rfl (Nat.le_of_ble_eq_true rfl) in_X9_clear_X9 (by decide +kernel) dX9_clear_26 rfl ?_
      refine g_iload_n (n := 30) C 1 dX9_clear_29 rfl rfl ?_
      refine g_iconst (n := 31) C dX9_clear_30 rfl ?_
      obtain ⟨S16, eS16, h⟩ := nmS_e h
      have hS16 : RS S16 := by rw [eS16]; exact RS_i hS15 (by decide : r32 0)
      refine g_zast (n := 32) C 6 rfl (Nat.le_of_ble_eq_true rfl) rfl rfl hg14 hx1 (by decide +kernel) eS16 dX9_clear_31 rfl ?_
      obtain ⟨v17, ev17, h⟩ := nmV_e h
      have hv17 : r32 v17 := by rw [ev17]; exact w32_r _
      refine g_iinc (n := 35) (lv' := [(1, vI v17), (0, .ref (ad 0))]) C 1 dX9_clear_32 rfl (Nat.le_of_ble_eq_true rfl) ev17 rfl rfl ?_
      refine g_goto C 12 dX9_clear_35 (by decide) ?_
      refine g_lv [1, 0] rfl ?_
      exact ih v17 S16 hS16 hv17 h
def dn_X9_clear (S : St) : Option (St × Int) := (nmS (stU S 0 33 0) fun S1 => (nmS (stU S1 0 4 0) fun S2 => dn_X9_clear_12 FU 0 S2))
set_option maxRecDepth 100000 in
set_option maxHeartbeats 4000000 in
theorem c_X9_clear {l : Launch} {D : va_G} {t : T5} {ad : Nat → Nat} {S S0 : St} {r0 : Int} (hS : RS S) (h : dn_X9_clear S = some (S0, r0)) : Mc l (sM D t ad) yX9_clear wsX9_clear rm_X9_clear [.ref (ad 0)] acV S S0 r0 := by
  refine Mc_of (cc := cX9_clear) (nL := 2) (ret := none) (by decide +kernel) rfl (Nat.le_of_ble_eq_true rfl) (lv := [(0, .ref (ad 0))]) rfl (fun x C _ => ?_)
  unfold dn_X9_clear at h
  show GW (sM D t ad) mi_X9_clear (acV, S0, r0) x S 0 [(0, .ref (ad 0))] []
  refine g_aload_n (n := 1) C 0 dX9_clear_0 rfl rfl ?_
  refine g_iconst (n := 2) C dX9_clear_1 rfl ?_
  obtain ⟨S1, eS1, h⟩ := nmS_e h
  have hS1 : RS S1 := by rw [eS1]; exact RS_i hS (by decide : r32 0)
  refine g_putI (n := 5) C 0 33 rfl (Nat.le_of_ble_eq_true rfl) rfl rfl rfl (Nat.le_of_ble_eq_true rfl) in_X9_clear_X9 tyX9_ok nmX9 (by decide +kernel) rfl (by decide +kernel) (Nat.le_of_ble_eq_true rfl) eS1 dX9_clear_2 rfl ?_
  refine g_aload_n (n := 6) C 0 dX9_clear_5 rfl rfl ?_
  refine g_iconst (n := 7) C dX9_clear_6 rfl ?_
  obtain ⟨S2, eS2, h⟩ := nmS_e h
  have hS2 : RS S2 := by rw [eS2]; exact RS_i hS1 (by decide : r32 0)
  refine g_putI (n := 10) C 0 4 rfl (Nat.le_of_ble_eq_true rfl) rfl rfl rfl (Nat.le_of_ble_eq_true rfl) in_X9_clear_X9 tyX9_ok nmX9 (by decide +kernel) rfl (by decide +kernel) (Nat.le_of_ble_eq_true rfl) eS2 dX9_clear_7 rfl ?_
  refine g_iconst (n := 11) C dX9_clear_10 rfl ?_
  refine g_istore_n (n := 12) (lv' := [(1, vI 0), (0, .ref (ad 0))]) C dX9_clear_11 (Nat.le_of_ble_eq_true rfl) rfl rfl rfl ?_
  refine g_lv [1, 0] rfl ?_
  exact u_X9_clear_12 C FU 0 S2 hS2 (by decide : r32 0) h
-- RX9 say
abbrev rm_X9_say : Room := ({ frames := 0, cells := 0, slots := 0, locals := 0 } : Room)
abbrev mi_X9_say : Mi := (cX9_say, 5, RX9, wsX9_say, rm_X9_say, none)
set_option maxRecDepth 20000 in
theorem in_X9_say_X9 : ∀ w ∈ u_ws RX9 TX9 39, w ∈ wsX9_say := by decide +kernel
def dn_X9_say (a0 : Int) (a1 : Int) (a2 : Int) (S : St) : Option (St × Int) := (nmV (w32 (4 * (w32 (Int.tmod (S 0 24) 150)))) fun v1 => (if 0 ≤ v1 ∧ v1 < 600 then (nmS (stU S 21 v1.toNat a0) fun S3 => (if 0 ≤ w32 (v1 + 1) ∧ w32 (v1 + 1) < 600 then (nmS (stU S3 21 (w32 (v1 + 1)).toNat (S3 0 4)) fun S5 => (if 0 ≤ w32 (v1 + 2) ∧ w32 (v1 + 2) < 600 then (nmS (stU S5 21 (w32 (v1 + 2)).toNat a1) fun S7 => (if 0 ≤ w32 (v1 + 3) ∧ w32 (v1 + 3) < 600 then (nmS (stU S7 21 (w32 (v1 + 3)).toNat a2) fun S9 => (nmS (stU S9 0 24 (w32 ((S9 0 24) + 1))) fun S10 => some (S10, 0))) else none)) else none)) else none)) else none))
set_option maxRecDepth 100000 in
set_option maxHeartbeats 4000000 in
theorem c_X9_say {l : Launch} {D : va_G} {t : T5} {ad : Nat → Nat} {S S0 : St} {r0 : Int} {a0 a1 a2 : Int} (hS : RS S) (ha0 : r32 a0) (ha1 : r32 a1) (ha2 : r32 a2) (h : dn_X9_say a0 a1 a2 S = some (S0, r0)) : Mc l (sM D t ad) yX9_say wsX9_say rm_X9_say [.ref (ad 0), vI a0, vI a1, vI a2] acV S S0 r0 := by
  refine Mc_of (cc := cX9_say) (nL := 5) (ret := none) (by decide +kernel) rfl (Nat.le_of_ble_eq_true rfl) (lv := [(0, .ref (ad 0)), (1, vI a0), (2, vI a1), (3, vI a2)]) rfl (fun x C _ => ?_)
  unfold dn_X9_say at h
  show GW (sM D t ad) mi_X9_say (acV, S0, r0) x S 0 [(0, .ref (ad 0)), (1, vI a0), (2, vI a1), (3, vI a2)] []
  refine g_iconst (n := 1) C dX9_say_0 rfl ?_
  refine g_aload_n (n := 2) C 0 dX9_say_1 rfl rfl ?_
  refine g_getI (n := 5) C 0 24 rfl (Nat.le_of_ble_eq_true rfl) rfl rfl rfl (Nat.le_of_ble_eq_true rfl) in_X9_say_X9 (by decide +kernel) dX9_say_2 rfl ?_
  refine g_sipush (n := 8) C dX9_say_5 (by decide +kernel) rfl ?_
  refine g_irem (n := 9) C ((hS 0 24).2 (by decide)) (by decide : r32 150) (by decide) dX9_say_8 rfl ?_
  refine g_imul (n := 10) C dX9_say_9 rfl ?_
  obtain ⟨v1, ev1, h⟩ := nmV_e h
  have hv1 : r32 v1 := by rw [ev1]; exact (w32_r _)
  refine g_istore (n := 12) (lv' := [(4, vI v1), (0, .ref (ad 0)), (1, vI a0), (2, vI a1), (3, vI a2)]) C dX9_say_10 (Nat.le_of_ble_eq_true rfl) ev1 rfl rfl ?_
  refine g_aload_n (n := 13) C 1 dX9_say_12 rfl rfl ?_
  refine g_getC (n := 16) C 0 23 rfl (Nat.le_of_ble_eq_true rfl) rfl rfl rfl (Nat.le_of_ble_eq_true rfl) in_X9_say_X9 (by decide +kernel) dX9_say_13 rfl ?_
  refine g_iload (n := 18) C 0 dX9_say_16 rfl rfl ?_
  refine g_iload_n (n := 19) C 2 dX9_say_18 rfl rfl ?_
  obtain ⟨hg2, h⟩ := gd_e h
  obtain ⟨S3, eS3, h⟩ := nmS_e h
  have hS3 : RS S3 := by rw [eS3]; exact RS_i hS ha0
  refine g_iast (n := 20) C 21 rfl (Nat.le_of_ble_eq_true rfl) rfl rfl hg2 hv1 eS3 dX9_say_19 rfl ?_
  refine g_aload_n (n := 21) C 1 dX9_say_20 rfl rfl ?_
  refine g_getC (n := 24) C 0 23 rfl (Nat.le_of_ble_eq_true rfl) rfl rfl rfl (Nat.le_of_ble_eq_true rfl) in_X9_say_X9 (by decide +kernel) dX9_say_21 rfl ?_
  refine g_iload (n := 26) C 0 dX9_say_24 rfl rfl ?_
  refine g_iconst (n := 27) C dX9_say_26 rfl ?_
  refine g_iadd (n := 28) C dX9_say_27 rfl ?_
  refine g_aload_n (n := 29) C 1 dX9_say_28 rfl rfl ?_
  refine g_getI (n := 32) C 0 4 rfl (Nat.le_of_ble_eq_true rfl) rfl rfl rfl (Nat.le_of_ble_eq_true rfl) in_X9_say_X9 (by decide +kernel) dX9_say_29 rfl ?_
  obtain ⟨hg4, h⟩ := gd_e h
  obtain ⟨S5, eS5, h⟩ := nmS_e h
  have hS5 : RS S5 := by rw [eS5]; exact RS_i hS3 ((hS3 0 4).2 (by decide))
  refine g_iast (n := 33) C 21 rfl (Nat.le_of_ble_eq_true rfl) rfl rfl hg4 (w32_r _) eS5 dX9_say_32 rfl ?_
  refine g_aload_n (n := 34) C 1 dX9_say_33 rfl rfl ?_
  refine g_getC (n := 37) C 0 23 rfl (Nat.le_of_ble_eq_true rfl) rfl rfl rfl (Nat.le_of_ble_eq_true rfl) in_X9_say_X9 (by decide +kernel) dX9_say_34 rfl ?_
  refine g_iload (n := 39) C 0 dX9_say_37 rfl rfl ?_
  refine g_iconst (n := 40) C dX9_say_39 rfl ?_
  refine g_iadd (n := 41) C dX9_say_40 rfl ?_
  refine g_iload_n (n := 42) C 3 dX9_say_41 rfl rfl ?_
  obtain ⟨hg6, h⟩ := gd_e h
  obtain ⟨S7, eS7, h⟩ := nmS_e h
  have hS7 : RS S7 := by rw [eS7]; exact RS_i hS5 ha1
  refine g_iast (n := 43) C 21 rfl (Nat.le_of_ble_eq_true rfl) rfl rfl hg6 (w32_r _) eS7 dX9_say_42 rfl ?_
  refine g_aload_n (n := 44) C 1 dX9_say_43 rfl rfl ?_
  refine g_getC (n := 47) C 0 23 rfl (Nat.le_of_ble_eq_true rfl) rfl rfl rfl (Nat.le_of_ble_eq_true rfl) in_X9_say_X9 (by decide +kernel) dX9_say_44 rfl ?_
  refine g_iload (n := 49) C 0 dX9_say_47 rfl rfl ?_
  refine g_iconst (n := 50) C dX9_say_49 rfl ?_
  refine g_iadd (n := 51) C dX9_say_50 rfl ?_
  refine g_iload_n (n := 52) C 4 dX9_say_51 rfl rfl ?_
  obtain ⟨hg8, h⟩ := gd_e h
  obtain ⟨S9, eS9, h⟩ := nmS_e h
  have hS9 : RS S9 := by rw [eS9]; exact RS_i hS7 ha2
  refine g_iast (n := 53) C 21 rfl (Nat.le_of_ble_eq_true rfl) rfl rfl hg8 (w32_r _) eS9 dX9_say_52 rfl ?_
  refine g_aload_n (n := 54) C 1 dX9_say_53 rfl rfl ?_
  refine g_dup (n := 55) C rfl dX9_say_54 rfl ?_
  refine g_getI (n := 58) C 0 24 rfl (Nat.le_of_ble_eq_true rfl) rfl rfl rfl (Nat.le_of_ble_eq_true rfl) in_X9_say_X9 (by decide +kernel) dX9_say_55 rfl ?_
  refine g_iconst (n := 59) C dX9_say_58 rfl ?_
  refine g_iadd (n := 60) C dX9_say_59 rfl ?_
  obtain ⟨S10, eS10, h⟩ := nmS_e h
  have hS10 : RS S10 := by rw [eS10]; exact RS_i hS9 (w32_r _)
  refine g_putI (n := 63) C 0 24 rfl (Nat.le_of_ble_eq_true rfl) rfl rfl rfl (Nat.le_of_ble_eq_true rfl) in_X9_say_X9 tyX9_ok nmX9 (by decide +kernel) rfl (by decide +kernel) (Nat.le_of_ble_eq_true rfl) eS10 dX9_say_60 rfl ?_
  exact g_vret C rfl h rfl trivial hS10 dX9_say_63
-- RX9 go
abbrev rm_X9_go : Room := ({ frames := 1, cells := 0, slots := 0, locals := 24 } : Room)
abbrev mi_X9_go : Mi := (cX9_go, 2, RX9, wsX9_go, rm_X9_go, none)
set_option maxRecDepth 20000 in
theorem in_X9_go_X9 : ∀ w ∈ u_ws RX9 TX9 39, w ∈ wsX9_go := by decide +kernel
def dn_X9_go (a0 : Int) (S : St) : Option (St × Int) := (if 0 ≤ a0 ∧ a0 < 12 then (nmS (stU S 5 a0.toNat 0) fun S2 => (nmS (stU S2 6 a0.toNat 0) fun S3 => (nmS (stU S3 0 27 (w32 ((S3 0 27) + 1))) fun S4 => (cal (dn_X9_say 7 (-1) a0 S4) fun S5 v6 => some (S5, 0))))) else none)
set_option maxRecDepth 100000 in
set_option maxHeartbeats 4000000 in
theorem c_X9_go {l : Launch} {D : va_G} {t : T5} {ad : Nat → Nat} {S S0 : St} {r0 : Int} {a0 : Int} (hS : RS S) (ha0 : r32 a0) (h : dn_X9_go a0 S = some (S0, r0)) : Mc l (sM D t ad) yX9_go wsX9_go rm_X9_go [.ref (ad 0), vI a0] acV S S0 r0 := by
  refine Mc_of (cc := cX9_go) (nL := 2) (ret := none) (by decide +kernel) rfl (Nat.le_of_ble_eq_true rfl) (lv := [(0, .ref (ad 0)), (1, vI a0)]) rfl (fun x C _ => ?_)
  unfold dn_X9_go at h
  show GW (sM D t ad) mi_X9_go (acV, S0, r0) x S 0 [(0, .ref (ad 0)), (1, vI a0)] []
  refine g_aload_n (n := 1) C 0 dX9_go_0 rfl rfl ?_
  refine g_getC (n := 4) C 0 5 rfl (Nat.le_of_ble_eq_true rfl) rfl rfl rfl (Nat.le_of_ble_eq_true rfl) in_X9_go_X9 (by decide +kernel) dX9_go_1 rfl ?_
  refine g_iload_n (n := 5) C 1 dX9_go_4 rfl rfl ?_
  refine g_iconst (n := 6) C dX9_go_5 rfl ?_
  obtain ⟨hg1, h⟩ := gd_e h
  obtain ⟨S2, eS2, h⟩ := nmS_e h
  have hS2 : RS S2 := by rw [eS2]; exact RS_i hS (by decide : r32 0)
  refine g_iast (n := 7) C 5 rfl (Nat.le_of_ble_eq_true rfl) rfl rfl hg1 ha0 eS2 dX9_go_6 rfl ?_
  refine g_aload_n (n := 8) C 0 dX9_go_7 rfl rfl ?_
  refine g_getC (n := 11) C 0 6 rfl (Nat.le_of_ble_eq_true rfl) rfl rfl rfl (Nat.le_of_ble_eq_true rfl) in_X9_go_X9 (by decide +kernel) dX9_go_8 rfl ?_
  refine g_iload_n (n := 12) C 1 dX9_go_11 rfl rfl ?_
  refine g_iconst (n := 13) C dX9_go_12 rfl ?_
  obtain ⟨S3, eS3, h⟩ := nmS_e h
  have hS3 : RS S3 := by rw [eS3]; exact RS_i hS2 (by decide : r32 0)
  refine g_zast (n := 14) C 6 rfl (Nat.le_of_ble_eq_true rfl) rfl rfl hg1 ha0 (by decide +kernel) eS3 dX9_go_13 rfl ?_
  refine g_aload_n (n := 15) C 0 dX9_go_14 rfl rfl ?_
  refine g_dup (n := 16) C rfl dX9_go_15 rfl ?_
  refine g_getI (n := 19) C 0 27 rfl (Nat.le_of_ble_eq_true rfl) rfl rfl rfl (Nat.le_of_ble_eq_true rfl) in_X9_go_X9 (by decide +kernel) dX9_go_16 rfl ?_
  refine g_iconst (n := 20) C dX9_go_19 rfl ?_
  refine g_iadd (n := 21) C dX9_go_20 rfl ?_
  obtain ⟨S4, eS4, h⟩ := nmS_e h
  have hS4 : RS S4 := by rw [eS4]; exact RS_i hS3 (w32_r _)
  refine g_putI (n := 24) C 0 27 rfl (Nat.le_of_ble_eq_true rfl) rfl rfl rfl (Nat.le_of_ble_eq_true rfl) in_X9_go_X9 tyX9_ok nmX9 (by decide +kernel) rfl (by decide +kernel) (Nat.le_of_ble_eq_true rfl) eS4 dX9_go_21 rfl ?_
  refine g_aload_n (n := 25) C 0 dX9_go_24 rfl rfl ?_
  refine g_bipush (n := 27) C dX9_go_25 (by decide +kernel) rfl ?_
  refine g_iconst (n := 28) C dX9_go_27 rfl ?_
  refine g_iload_n (n := 29) C 1 dX9_go_28 rfl rfl ?_
  obtain ⟨S5, v6, hq7, h⟩ := cal_e h
  refine g_callV (n := 32) (As := [vI 7, vI (-1), vI a0]) (rest := []) C 0 3 (Nat.le_of_ble_eq_true rfl) rfl rfl (c_X9_say hS4 (by decide : r32 7) (by decide : r32 (-1)) ha0 hq7) gX9_go_X9_say rfl ⟨rfl, rfl⟩ (by decide +kernel) ⟨Nat.le_of_ble_eq_true rfl, Nat.le_of_ble_eq_true rfl⟩ rfl rfl rfl (Nat.le_of_ble_eq_true rfl) dX9_go_29 rfl (fun hS5 hv6 => ?_)
  show GW (sM D t ad) mi_X9_go (acV, S0, r0) x S5 32 _ []
  exact g_vret C rfl h rfl trivial hS5 dX9_go_32
-- RX9 rest
abbrev rm_X9_rest : Room := ({ frames := 0, cells := 0, slots := 0, locals := 0 } : Room)
abbrev mi_X9_rest : Mi := (cX9_rest, 2, RX9, wsX9_rest, rm_X9_rest, none)
set_option maxRecDepth 20000 in
theorem in_X9_rest_X9 : ∀ w ∈ u_ws RX9 TX9 39, w ∈ wsX9_rest := by decide +kernel
def dn_X9_rest (a0 : Int) (S : St) : Option (St × Int) := (if 0 ≤ a0 ∧ a0 < 12 then (nmS (stU S 5 a0.toNat 2) fun S2 => (nmS (stU S2 9 a0.toNat (S2 0 4)) fun S3 => some (S3, 0))) else none)
set_option maxRecDepth 100000 in
set_option maxHeartbeats 4000000 in
theorem c_X9_rest {l : Launch} {D : va_G} {t : T5} {ad : Nat → Nat} {S S0 : St} {r0 : Int} {a0 : Int} (hS : RS S) (ha0 : r32 a0) (h : dn_X9_rest a0 S = some (S0, r0)) : Mc l (sM D t ad) yX9_rest wsX9_rest rm_X9_rest [.ref (ad 0), vI a0] acV S S0 r0 := by
  refine Mc_of (cc := cX9_rest) (nL := 2) (ret := none) (by decide +kernel) rfl (Nat.le_of_ble_eq_true rfl) (lv := [(0, .ref (ad 0)), (1, vI a0)]) rfl (fun x C _ => ?_)
  unfold dn_X9_rest at h
  show GW (sM D t ad) mi_X9_rest (acV, S0, r0) x S 0 [(0, .ref (ad 0)), (1, vI a0)] []
  refine g_aload_n (n := 1) C 0 dX9_rest_0 rfl rfl ?_
  refine g_getC (n := 4) C 0 5 rfl (Nat.le_of_ble_eq_true rfl) rfl rfl rfl (Nat.le_of_ble_eq_true rfl) in_X9_rest_X9 (by decide +kernel) dX9_rest_1 rfl ?_
  refine g_iload_n (n := 5) C 1 dX9_rest_4 rfl rfl ?_
  refine g_iconst (n := 6) C dX9_rest_5 rfl ?_
  obtain ⟨hg1, h⟩ := gd_e h
  obtain ⟨S2, eS2, h⟩ := nmS_e h
  have hS2 : RS S2 := by rw [eS2]; exact RS_i hS (by decide : r32 2)
  refine g_iast (n := 7) C 5 rfl (Nat.le_of_ble_eq_true rfl) rfl rfl hg1 ha0 eS2 dX9_rest_6 rfl ?_
  refine g_aload_n (n := 8) C 0 dX9_rest_7 rfl rfl ?_
  refine g_getC (n := 11) C 0 9 rfl (Nat.le_of_ble_eq_true rfl) rfl rfl rfl (Nat.le_of_ble_eq_true rfl) in_X9_rest_X9 (by decide +kernel) dX9_rest_8 rfl ?_
  refine g_iload_n (n := 12) C 1 dX9_rest_11 rfl rfl ?_
  refine g_aload_n (n := 13) C 0 dX9_rest_12 rfl rfl ?_
  refine g_getI (n := 16) C 0 4 rfl (Nat.le_of_ble_eq_true rfl) rfl rfl rfl (Nat.le_of_ble_eq_true rfl) in_X9_rest_X9 (by decide +kernel) dX9_rest_13 rfl ?_
  obtain ⟨S3, eS3, h⟩ := nmS_e h
  have hS3 : RS S3 := by rw [eS3]; exact RS_i hS2 ((hS2 0 4).2 (by decide))
  refine g_iast (n := 17) C 9 rfl (Nat.le_of_ble_eq_true rfl) rfl rfl hg1 ha0 eS3 dX9_rest_16 rfl ?_
  exact g_vret C rfl h rfl trivial hS3 dX9_rest_17
-- RX9 free
abbrev rm_X9_free : Room := ({ frames := 2, cells := 0, slots := 0, locals := 45 } : Room)
abbrev mi_X9_free : Mi := (cX9_free, 4, RX9, wsX9_free, rm_X9_free, none)
set_option maxRecDepth 20000 in
theorem in_X9_free_X9 : ∀ w ∈ u_ws RX9 TX9 39, w ∈ wsX9_free := by decide +kernel
def dn_X9_free_2 : Nat → Int → Int → Int → St → Option (St × Int)
  | 0, _, _, _, _ => none
  | n + 1, x1, x2, x3, S => (if 12 ≤ x3 then some (S, 0) else (if 0 ≤ x3 ∧ x3 < 12 then (if S 5 x3.toNat < 3 then (nmV (w32 (x3 + 1)) fun v4 => dn_X9_free_2 n x1 x2 v4 S) else (if S 7 x3.toNat = x1 then (if x2 = 0 then (cal (dn_X9_rest x3 S) fun S7 v8 => (nmV (w32 (x3 + 1)) fun v10 => dn_X9_free_2 n x1 x2 v10 S7)) else (if S 6 x3.toNat = 0 then (cal (dn_X9_rest x3 S) fun S12 v13 => (nmV (w32 (x3 + 1)) fun v15 => dn_X9_free_2 n x1 x2 v15 S12)) else (cal (dn_X9_go x3 S) fun S16 v17 => (nmV (w32 (x3 + 1)) fun v19 => dn_X9_free_2 n x1 x2 v19 S16)))) else (nmV (w32 (x3 + 1)) fun v20 => dn_X9_free_2 n x1 x2 v20 S))) else none))
set_option maxRecDepth 100000 in
set_option maxHeartbeats 4000000 in
theorem u_X9_free_2 {D : va_G} {t : T5} {ad : Nat → Nat} {S0 : St} {r0 : Int} {x : Mx} (C : CX (sM D t ad) mi_X9_free x) : ∀ (n : Nat) (x1 : Int) (x2 : Int) (x3 : Int) (S : St), RS S → (r32 x1) → (r32 x2) → (r32 x3) → dn_X9_free_2 n x1 x2 x3 S = some (S0, r0) → GW (sM D t ad) mi_X9_free (acV, S0, r0) x S 2 [(0, .ref (ad 0)), (1, vI x1), (2, vI x2), (3, vI x3)] [] := by
  intro n
  induction n with
  | zero =>
    intro x1 x2 x3 S hS hx1 hx2 hx3 h
    cases h
  | succ n ih =>
    intro x1 x2 x3 S hS hx1 hx2 hx3 h
    rw [dn_X9_free_2] at h
    refine g_iload_n (n := 3) C 3 dX9_free_2 rfl rfl ?_
    refine g_bipush (n := 5) C dX9_free_3 (by decide +kernel) rfl ?_
    refine g_icmp_ge (n := 8) C 63 hx3 (by decide : r32 12) dX9_free_5 (by decide) rfl (fun (hc1 : 12 ≤ x3) => ?_) (fun (hc1 : ¬ (12 ≤ x3)) => ?_)
    · rw [if_pos hc1] at h
      exact g_vret C rfl h rfl trivial hS dX9_free_63
    · rw [if_neg hc1] at h
      refine g_aload_n (n := 9) C 0 dX9_free_8 rfl rfl ?_
      refine g_getC (n := 12) C 0 5 rfl (Nat.le_of_ble_eq_true rfl) rfl rfl rfl (Nat.le_of_ble_eq_true rfl) in_X9_free_X9 (by decide +kernel) dX9_free_9 rfl ?_
      refine g_iload_n (n := 13) C 3 dX9_free_12 rfl rfl ?_
      obtain ⟨hg2, h⟩ := gd_e h
      refine g_iald (n := 14) C 5 rfl (Nat.le_of_ble_eq_true rfl) rfl rfl hg2 hx3 dX9_free_13 rfl ?_
      refine g_iconst (n := 15) C dX9_free_14 rfl ?_
      refine g_icmp_lt (n := 18) C 57 ((hS 5 _).2 (tn_lt hg2 (by decide))) (by decide : r32 3) dX9_free_15 (by decide) rfl (fun (hc3 : S 5 x3.toNat < 3) => ?_) (fun (hc3 : ¬ (S 5 x3.toNat < 3)) => ?_)
      · rw [if_pos hc3] at h
        obtain ⟨v4, ev4, h⟩ := nmV_e h
        have hv4 : r32 v4 := by rw [ev4]; exact w32_r _
        refine g_iinc (n := 60) (lv' := [(3, vI v4), (0, .ref (ad 0)), (1, vI x1), (2, vI x2)]) C 3 dX9_free_57 rfl (Nat.le_of_ble_eq_true rfl) ev4 rfl rfl ?_
        refine g_goto C 2 dX9_free_60 (by decide) ?_
        refine g_lv [1, 2, 3, 0] rfl ?_
        exact ih x1 x2 v4 S hS hx1 hx2 hv4 h
      · rw [if_neg hc3] at h
        refine g_aload_n (n := 19) C 0 dX9_free_18 rfl rfl ?_
        refine g_getC (n := 22) C 0 7 rfl (Nat.le_of_ble_eq_true rfl) rfl rfl rfl (Nat.le_of_ble_eq_true rfl) in_X9_free_X9 (by decide +kernel) dX9_free_19 rfl ?_
        refine g_iload_n (n := 23) C 3 dX9_free_22 rfl rfl ?_
        refine g_iald (n := 24) C 7 rfl (Nat.le_of_ble_eq_true rfl) rfl rfl hg2 hx3 dX9_free_23 rfl ?_
        refine g_iload_n (n := 25) C 1 dX9_free_24 rfl rfl ?_
        refine g_icmp_eq (n := 28) C 31 ((hS 7 _).2 (tn_lt hg2 (by decide))) hx1 dX9_free_25 (by decide) rfl (fun (hc5 : S 7 x3.toNat = x1) => ?_) (fun (hc5 : ¬ (S 7 x3.toNat = x1)) => ?_)
        · rw [if_pos hc5] at h
          refine g_iload_n (n := 32) C 2 dX9_free_31 rfl rfl ?_
          refine g_if_eq (n := 35) C 52 hx2 dX9_free_32 (by decide) rfl (fun (hc6 : x2 = 0) => ?_) (fun (hc6 : ¬ (x2 = 0)) => ?_)
          · rw [if_pos hc6] at h
            refine g_aload_n (n := 53) C 0 dX9_free_52 rfl rfl ?_
            refine g_iload_n (n := 54) C 3 dX9_free_53 rfl rfl ?_
            obtain ⟨S7, v8, hq9, h⟩ := cal_e h
            refine g_callV (n := 57) (As := [vI x3]) (rest := []) C 0 1 (Nat.le_of_ble_eq_true rfl) rfl rfl (c_X9_rest hS hx3 hq9) gX9_free_X9_rest rfl ⟨rfl, rfl⟩ (by decide +kernel) ⟨Nat.le_of_ble_eq_true rfl, Nat.le_of_ble_eq_true rfl⟩ rfl rfl rfl (Nat.le_of_ble_eq_true rfl) dX9_free_54 rfl (fun hS7 hv8 => ?_)
            show GW (sM D t ad) mi_X9_free (acV, S0, r0) x S7 57 _ []
            obtain ⟨v10, ev10, h⟩ := nmV_e h
            have hv10 : r32 v10 := by rw [ev10]; exact w32_r _
            refine g_iinc (n := 60) (lv' := [(3, vI v10), (0, .ref (ad 0)), (1, vI x1), (2, vI x2)]) C 3 dX9_free_57 rfl (Nat.le_of_ble_eq_true rfl) ev10 rfl rfl ?_
            refine g_goto C 2 dX9_free_60 (by decide) ?_
            refine g_lv [1, 2, 3, 0] rfl ?_
            exact ih x1 x2 v10 S7 hS7 hx1 hx2 hv10 h
          · rw [if_neg hc6] at h
            refine g_aload_n (n := 36) C 0 dX9_free_35 rfl rfl ?_
            refine g_getC (n := 39) C 0 6 rfl (Nat.le_of_ble_eq_true rfl) rfl rfl rfl (Nat.le_of_ble_eq_true rfl) in_X9_free_X9 (by decide +kernel) dX9_free_36 rfl ?_
            refine g_iload_n (n := 40) C 3 dX9_free_39 rfl rfl ?_
            refine g_zald (n := 41) C 6 rfl (Nat.le_of_ble_eq_true rfl) rfl rfl hg2 hx3 dX9_free_40 rfl ?_
            refine g_if_eq (n := 44) C 52 ((hS 6 _).2 (tn_lt hg2 (by decide))) dX9_free_41 (by decide) rfl (fun (hc11 : S 6 x3.toNat = 0) => ?_) (fun (hc11 : ¬ (S 6 x3.toNat = 0)) => ?_)
            · rw [if_pos hc11] at h
              refine g_aload_n (n := 53) C 0 dX9_free_52 rfl rfl ?_
              refine g_iload_n (n := 54) C 3 dX9_free_53 rfl rfl ?_
              obtain ⟨S12, v13, hq14, h⟩ := cal_e h
              refine g_callV (n := 57) (As := [vI x3]) (rest := []) C 0 1 (Nat.le_of_ble_eq_true rfl) rfl rfl (c_X9_rest hS hx3 hq14) gX9_free_X9_rest rfl ⟨rfl, rfl⟩ (by decide +kernel) ⟨Nat.le_of_ble_eq_true rfl, Nat.le_of_ble_eq_true rfl⟩ rfl rfl rfl (Nat.le_of_ble_eq_true rfl) dX9_free_54 rfl (fun hS12 hv13 => ?_)
              show GW (sM D t ad) mi_X9_free (acV, S0, r0) x S12 57 _ []
              obtain ⟨v15, ev15, h⟩ := nmV_e h
              have hv15 : r32 v15 := by rw [ev15]; exact w32_r _
              refine g_iinc (n := 60) (lv' := [(3, vI v15), (0, .ref (ad 0)), (1, vI x1), (2, vI x2)]) C 3 dX9_free_57 rfl (Nat.le_of_ble_eq_true rfl) ev15 rfl rfl ?_
              refine g_goto C 2 dX9_free_60 (by decide) ?_
              refine g_lv [1, 2, 3, 0] rfl ?_
              exact ih x1 x2 v15 S12 hS12 hx1 hx2 hv15 h
            · rw [if_neg hc11] at h
              refine g_aload_n (n := 45) C 0 dX9_free_44 rfl rfl ?_
              refine g_iload_n (n := 46) C 3 dX9_free_45 rfl rfl ?_
              obtain ⟨S16, v17, hq18, h⟩ := cal_e h
              refine g_callV (n := 49) (As := [vI x3]) (rest := []) C 0 1 (Nat.le_of_ble_eq_true rfl) rfl rfl (c_X9_go hS hx3 hq18) gX9_free_X9_go rfl ⟨rfl, rfl⟩ (by decide +kernel) ⟨Nat.le_of_ble_eq_true rfl, Nat.le_of_ble_eq_true rfl⟩ rfl rfl rfl (Nat.le_of_ble_eq_true rfl) dX9_free_46 rfl (fun hS16 hv17 => ?_)
              show GW (sM D t ad) mi_X9_free (acV, S0, r0) x S16 49 _ []
              refine g_goto C 57 dX9_free_49 (by decide) ?_
              obtain ⟨v19, ev19, h⟩ := nmV_e h
              have hv19 : r32 v19 := by rw [ev19]; exact w32_r _
              refine g_iinc (n := 60) (lv' := [(3, vI v19), (0, .ref (ad 0)), (1, vI x1), (2, vI x2)]) C 3 dX9_free_57 rfl (Nat.le_of_ble_eq_true rfl) ev19 rfl rfl ?_
              refine g_goto C 2 dX9_free_60 (by decide) ?_
              refine g_lv [1, 2, 3, 0] rfl ?_
              exact ih x1 x2 v19 S16 hS16 hx1 hx2 hv19 h
        · rw [if_neg hc5] at h
          refine g_goto C 57 dX9_free_28 (by decide) ?_
          obtain ⟨v20, ev20, h⟩ := nmV_e h
          have hv20 : r32 v20 := by rw [ev20]; exact w32_r _
          refine g_iinc (n := 60) (lv' := [(3, vI v20), (0, .ref (ad 0)), (1, vI x1), (2, vI x2)]) C 3 dX9_free_57 rfl (Nat.le_of_ble_eq_true rfl) ev20 rfl rfl ?_
          refine g_goto C 2 dX9_free_60 (by decide) ?_
          refine g_lv [1, 2, 3, 0] rfl ?_
          exact ih x1 x2 v20 S hS hx1 hx2 hv20 h
def dn_X9_free (a0 : Int) (a1 : Int) (S : St) : Option (St × Int) := dn_X9_free_2 FU a0 a1 0 S
set_option maxRecDepth 100000 in
set_option maxHeartbeats 4000000 in
theorem c_X9_free {l : Launch} {D : va_G} {t : T5} {ad : Nat → Nat} {S S0 : St} {r0 : Int} {a0 a1 : Int} (hS : RS S) (ha0 : r32 a0) (ha1 : r32 a1) (h : dn_X9_free a0 a1 S = some (S0, r0)) : Mc l (sM D t ad) yX9_free wsX9_free rm_X9_free [.ref (ad 0), vI a0, vI a1] acV S S0 r0 := by
  refine Mc_of (cc := cX9_free) (nL := 4) (ret := none) (by decide +kernel) rfl (Nat.le_of_ble_eq_true rfl) (lv := [(0, .ref (ad 0)), (1, vI a0), (2, vI a1)]) rfl (fun x C _ => ?_)
  unfold dn_X9_free at h
  show GW (sM D t ad) mi_X9_free (acV, S0, r0) x S 0 [(0, .ref (ad 0)), (1, vI a0), (2, vI a1)] []
  refine g_iconst (n := 1) C dX9_free_0 rfl ?_
  refine g_istore_n (n := 2) (lv' := [(3, vI 0), (0, .ref (ad 0)), (1, vI a0), (2, vI a1)]) C dX9_free_1 (Nat.le_of_ble_eq_true rfl) rfl rfl rfl ?_
  refine g_lv [1, 2, 3, 0] rfl ?_
  exact u_X9_free_2 C FU a0 a1 0 S hS ha0 ha1 (by decide : r32 0) h
-- RX9 linesOf
abbrev rm_X9_linesOf : Room := ({ frames := 0, cells := 0, slots := 0, locals := 0 } : Room)
abbrev mi_X9_linesOf : Mi := (cX9_linesOf, 4, RX9, wsX9_linesOf, rm_X9_linesOf, (some .int))
set_option maxRecDepth 20000 in
theorem in_X9_linesOf_X9 : ∀ w ∈ u_ws RX9 TX9 39, w ∈ wsX9_linesOf := by decide +kernel
def dn_X9_linesOf_4 : Nat → Int → Int → Int → St → Option (St × Int)
  | 0, _, _, _, _ => none
  | n + 1, x1, x2, x3, S => (if 12 ≤ x3 then some (S, x2) else (if 0 ≤ x3 ∧ x3 < 12 then (if S 5 x3.toNat = 4 then (if S 7 x3.toNat = x1 then (nmV (w32 (x2 + 1)) fun v7 => (nmV (w32 (x3 + 1)) fun v8 => dn_X9_linesOf_4 n x1 v7 v8 S)) else (nmV (w32 (x3 + 1)) fun v6 => dn_X9_linesOf_4 n x1 x2 v6 S)) else (nmV (w32 (x3 + 1)) fun v4 => dn_X9_linesOf_4 n x1 x2 v4 S)) else none))
set_option maxRecDepth 100000 in
set_option maxHeartbeats 4000000 in
theorem u_X9_linesOf_4 {D : va_G} {t : T5} {ad : Nat → Nat} {S0 : St} {r0 : Int} {x : Mx} (C : CX (sM D t ad) mi_X9_linesOf x) : ∀ (n : Nat) (x1 : Int) (x2 : Int) (x3 : Int) (S : St), RS S → (r32 x1) → (r32 x2) → (r32 x3) → dn_X9_linesOf_4 n x1 x2 x3 S = some (S0, r0) → GW (sM D t ad) mi_X9_linesOf (acI, S0, r0) x S 4 [(0, .ref (ad 0)), (1, vI x1), (2, vI x2), (3, vI x3)] [] := by
  intro n
  induction n with
  | zero =>
    intro x1 x2 x3 S hS hx1 hx2 hx3 h
    cases h
  | succ n ih =>
    intro x1 x2 x3 S hS hx1 hx2 hx3 h
    rw [dn_X9_linesOf_4] at h
    refine g_iload_n (n := 5) C 3 dX9_linesOf_4 rfl rfl ?_
    refine g_bipush (n := 7) C dX9_linesOf_5 (by decide +kernel) rfl ?_
    refine g_icmp_ge (n := 10) C 39 hx3 (by decide : r32 12) dX9_linesOf_7 (by decide) rfl (fun (hc1 : 12 ≤ x3) => ?_) (fun (hc1 : ¬ (12 ≤ x3)) => ?_)
    · rw [if_pos hc1] at h
      refine g_iload_n (n := 40) C 2 dX9_linesOf_39 rfl rfl ?_
      exact g_iret C rfl h rfl hx2 hS dX9_linesOf_40
    · rw [if_neg hc1] at h
      refine g_aload_n (n := 11) C 0 dX9_linesOf_10 rfl rfl ?_
      refine g_getC (n := 14) C 0 5 rfl (Nat.le_of_ble_eq_true rfl) rfl rfl rfl (Nat.le_of_ble_eq_true rfl) in_X9_linesOf_X9 (by decide +kernel) dX9_linesOf_11 rfl ?_
      refine g_iload_n (n := 15) C 3 dX9_linesOf_14 rfl rfl ?_
      obtain ⟨hg2, h⟩ := gd_e h
      refine g_iald (n := 16) C 5 rfl (Nat.le_of_ble_eq_true rfl) rfl rfl hg2 hx3 dX9_linesOf_15 rfl ?_
      refine g_iconst (n := 17) C dX9_linesOf_16 rfl ?_
      refine g_icmp_ne (n := 20) C 33 ((hS 5 _).2 (tn_lt hg2 (by decide))) (by decide : r32 4) dX9_linesOf_17 (by decide) rfl (fun (hc3 : ¬ (S 5 x3.toNat = 4)) => ?_) (fun (hc3 : S 5 x3.toNat = 4) => ?_)
      · rw [if_neg hc3] at h
        obtain ⟨v4, ev4, h⟩ := nmV_e h
        have hv4 : r32 v4 := by rw [ev4]; exact w32_r _
        refine g_iinc (n := 36) (lv' := [(3, vI v4), (0, .ref (ad 0)), (1, vI x1), (2, vI x2)]) C 3 dX9_linesOf_33 rfl (Nat.le_of_ble_eq_true rfl) ev4 rfl rfl ?_
        refine g_goto C 4 dX9_linesOf_36 (by decide) ?_
        refine g_lv [1, 2, 3, 0] rfl ?_
        exact ih x1 x2 v4 S hS hx1 hx2 hv4 h
      · rw [if_pos hc3] at h
        refine g_aload_n (n := 21) C 0 dX9_linesOf_20 rfl rfl ?_
        refine g_getC (n := 24) C 0 7 rfl (Nat.le_of_ble_eq_true rfl) rfl rfl rfl (Nat.le_of_ble_eq_true rfl) in_X9_linesOf_X9 (by decide +kernel) dX9_linesOf_21 rfl ?_
        refine g_iload_n (n := 25) C 3 dX9_linesOf_24 rfl rfl ?_
        refine g_iald (n := 26) C 7 rfl (Nat.le_of_ble_eq_true rfl) rfl rfl hg2 hx3 dX9_linesOf_25 rfl ?_
        refine g_iload_n (n := 27) C 1 dX9_linesOf_26 rfl rfl ?_
        refine g_icmp_ne (n := 30) C 33 ((hS 7 _).2 (tn_lt hg2 (by decide))) hx1 dX9_linesOf_27 (by decide) rfl (fun (hc5 : ¬ (S 7 x3.toNat = x1)) => ?_) (fun (hc5 : S 7 x3.toNat = x1) => ?_)
        · rw [if_neg hc5] at h
          obtain ⟨v6, ev6, h⟩ := nmV_e h
          have hv6 : r32 v6 := by rw [ev6]; exact w32_r _
          refine g_iinc (n := 36) (lv' := [(3, vI v6), (0, .ref (ad 0)), (1, vI x1), (2, vI x2)]) C 3 dX9_linesOf_33 rfl (Nat.le_of_ble_eq_true rfl) ev6 rfl rfl ?_
          refine g_goto C 4 dX9_linesOf_36 (by decide) ?_
          refine g_lv [1, 2, 3, 0] rfl ?_
          exact ih x1 x2 v6 S hS hx1 hx2 hv6 h
        · rw [if_pos hc5] at h
          obtain ⟨v7, ev7, h⟩ := nmV_e h
          have hv7 : r32 v7 := by rw [ev7]; exact w32_r _
          refine g_iinc (n := 33) (lv' := [(2, vI v7), (0, .ref (ad 0)), (1, vI x1), (3, vI x3)]) C 2 dX9_linesOf_30 rfl (Nat.le_of_ble_eq_true rfl) ev7 rfl rfl ?_
          obtain ⟨v8, ev8, h⟩ := nmV_e h
          have hv8 : r32 v8 := by rw [ev8]; exact w32_r _
          refine g_iinc (n := 36) (lv' := [(3, vI v8), (2, vI v7), (0, .ref (ad 0)), (1, vI x1)]) C 3 dX9_linesOf_33 rfl (Nat.le_of_ble_eq_true rfl) ev8 rfl rfl ?_
          refine g_goto C 4 dX9_linesOf_36 (by decide) ?_
          refine g_lv [2, 3, 1, 0] rfl ?_
          exact ih x1 v7 v8 S hS hx1 hv7 hv8 h
def dn_X9_linesOf (a0 : Int) (S : St) : Option (St × Int) := dn_X9_linesOf_4 FU a0 0 0 S
set_option maxRecDepth 100000 in
set_option maxHeartbeats 4000000 in
theorem c_X9_linesOf {l : Launch} {D : va_G} {t : T5} {ad : Nat → Nat} {S S0 : St} {r0 : Int} {a0 : Int} (hS : RS S) (ha0 : r32 a0) (h : dn_X9_linesOf a0 S = some (S0, r0)) : Mc l (sM D t ad) yX9_linesOf wsX9_linesOf rm_X9_linesOf [.ref (ad 0), vI a0] acI S S0 r0 := by
  refine Mc_of (cc := cX9_linesOf) (nL := 4) (ret := (some .int)) (by decide +kernel) rfl (Nat.le_of_ble_eq_true rfl) (lv := [(0, .ref (ad 0)), (1, vI a0)]) rfl (fun x C _ => ?_)
  unfold dn_X9_linesOf at h
  show GW (sM D t ad) mi_X9_linesOf (acI, S0, r0) x S 0 [(0, .ref (ad 0)), (1, vI a0)] []
  refine g_iconst (n := 1) C dX9_linesOf_0 rfl ?_
  refine g_istore_n (n := 2) (lv' := [(2, vI 0), (0, .ref (ad 0)), (1, vI a0)]) C dX9_linesOf_1 (Nat.le_of_ble_eq_true rfl) rfl rfl rfl ?_
  refine g_iconst (n := 3) C dX9_linesOf_2 rfl ?_
  refine g_istore_n (n := 4) (lv' := [(3, vI 0), (2, vI 0), (0, .ref (ad 0)), (1, vI a0)]) C dX9_linesOf_3 (Nat.le_of_ble_eq_true rfl) rfl rfl rfl ?_
  refine g_lv [2, 3, 1, 0] rfl ?_
  exact u_X9_linesOf_4 C FU a0 0 0 S hS ha0 (by decide : r32 0) (by decide : r32 0) h
-- RX9 lend
abbrev rm_X9_lend : Room := ({ frames := 1, cells := 0, slots := 0, locals := 24 } : Room)
abbrev mi_X9_lend : Mi := (cX9_lend, 4, RX9, wsX9_lend, rm_X9_lend, none)
set_option maxRecDepth 20000 in
theorem in_X9_lend_X9 : ∀ w ∈ u_ws RX9 TX9 39, w ∈ wsX9_lend := by decide +kernel
def dn_X9_lend (a0 : Int) (a1 : Int) (S : St) : Option (St × Int) := (if 0 ≤ a0 ∧ a0 < 12 then (nmS (stU S 5 a0.toNat 4) fun S2 => (nmS (stU S2 7 a0.toNat a1) fun S3 => (nmS (stU S3 9 a0.toNat (S3 0 4)) fun S4 => (if 0 ≤ a1 ∧ a1 < 60 then (nmS (stU S4 15 a1.toNat 3) fun S6 => (cal (dn_X9_say 1 a1 a0 S6) fun S7 v8 => (if S7 18 a1.toNat = 0 then (nmV (w32 ((S7 0 4) - (S7 14 a1.toNat))) fun v11 => (nmS (stU S7 0 100028 (w64 ((S7 0 100028) + v11))) fun S12 => (nmS (stU S12 0 29 (w32 ((S12 0 29) + 1))) fun S13 => (if v11 ≤ S13 0 30 then (nmS (stU S13 0 30 (S13 0 30)) fun S15 => some (S15, 0)) else (nmS (stU S13 0 30 v11) fun S16 => some (S16, 0)))))) else some (S7, 0)))) else none)))) else none)
set_option maxRecDepth 100000 in
set_option maxHeartbeats 4000000 in
theorem c_X9_lend {l : Launch} {D : va_G} {t : T5} {ad : Nat → Nat} {S S0 : St} {r0 : Int} {a0 a1 : Int} (hS : RS S) (ha0 : r32 a0) (ha1 : r32 a1) (h : dn_X9_lend a0 a1 S = some (S0, r0)) : Mc l (sM D t ad) yX9_lend wsX9_lend rm_X9_lend [.ref (ad 0), vI a0, vI a1] acV S S0 r0 := by
  refine Mc_of (cc := cX9_lend) (nL := 4) (ret := none) (by decide +kernel) rfl (Nat.le_of_ble_eq_true rfl) (lv := [(0, .ref (ad 0)), (1, vI a0), (2, vI a1)]) rfl (fun x C _ => ?_)
  unfold dn_X9_lend at h
  show GW (sM D t ad) mi_X9_lend (acV, S0, r0) x S 0 [(0, .ref (ad 0)), (1, vI a0), (2, vI a1)] []
  refine g_aload_n (n := 1) C 0 dX9_lend_0 rfl rfl ?_
  refine g_getC (n := 4) C 0 5 rfl (Nat.le_of_ble_eq_true rfl) rfl rfl rfl (Nat.le_of_ble_eq_true rfl) in_X9_lend_X9 (by decide +kernel) dX9_lend_1 rfl ?_
  refine g_iload_n (n := 5) C 1 dX9_lend_4 rfl rfl ?_
  refine g_iconst (n := 6) C dX9_lend_5 rfl ?_
  obtain ⟨hg1, h⟩ := gd_e h
  obtain ⟨S2, eS2, h⟩ := nmS_e h
  have hS2 : RS S2 := by rw [eS2]; exact RS_i hS (by decide : r32 4)
  refine g_iast (n := 7) C 5 rfl (Nat.le_of_ble_eq_true rfl) rfl rfl hg1 ha0 eS2 dX9_lend_6 rfl ?_
  refine g_aload_n (n := 8) C 0 dX9_lend_7 rfl rfl ?_
  refine g_getC (n := 11) C 0 7 rfl (Nat.le_of_ble_eq_true rfl) rfl rfl rfl (Nat.le_of_ble_eq_true rfl) in_X9_lend_X9 (by decide +kernel) dX9_lend_8 rfl ?_
  refine g_iload_n (n := 12) C 1 dX9_lend_11 rfl rfl ?_
  refine g_iload_n (n := 13) C 2 dX9_lend_12 rfl rfl ?_
  obtain ⟨S3, eS3, h⟩ := nmS_e h
  have hS3 : RS S3 := by rw [eS3]; exact RS_i hS2 ha1
  refine g_iast (n := 14) C 7 rfl (Nat.le_of_ble_eq_true rfl) rfl rfl hg1 ha0 eS3 dX9_lend_13 rfl ?_
  refine g_aload_n (n := 15) C 0 dX9_lend_14 rfl rfl ?_
  refine g_getC (n := 18) C 0 9 rfl (Nat.le_of_ble_eq_true rfl) rfl rfl rfl (Nat.le_of_ble_eq_true rfl) in_X9_lend_X9 (by decide +kernel) dX9_lend_15 rfl ?_
  refine g_iload_n (n := 19) C 1 dX9_lend_18 rfl rfl ?_
  refine g_aload_n (n := 20) C 0 dX9_lend_19 rfl rfl ?_
  refine g_getI (n := 23) C 0 4 rfl (Nat.le_of_ble_eq_true rfl) rfl rfl rfl (Nat.le_of_ble_eq_true rfl) in_X9_lend_X9 (by decide +kernel) dX9_lend_20 rfl ?_
  obtain ⟨S4, eS4, h⟩ := nmS_e h
  have hS4 : RS S4 := by rw [eS4]; exact RS_i hS3 ((hS3 0 4).2 (by decide))
  refine g_iast (n := 24) C 9 rfl (Nat.le_of_ble_eq_true rfl) rfl rfl hg1 ha0 eS4 dX9_lend_23 rfl ?_
  refine g_aload_n (n := 25) C 0 dX9_lend_24 rfl rfl ?_
  refine g_getC (n := 28) C 0 15 rfl (Nat.le_of_ble_eq_true rfl) rfl rfl rfl (Nat.le_of_ble_eq_true rfl) in_X9_lend_X9 (by decide +kernel) dX9_lend_25 rfl ?_
  refine g_iload_n (n := 29) C 2 dX9_lend_28 rfl rfl ?_
  refine g_iconst (n := 30) C dX9_lend_29 rfl ?_
  obtain ⟨hg5, h⟩ := gd_e h
  obtain ⟨S6, eS6, h⟩ := nmS_e h
  have hS6 : RS S6 := by rw [eS6]; exact RS_i hS4 (by decide : r32 3)
  refine g_iast (n := 31) C 15 rfl (Nat.le_of_ble_eq_true rfl) rfl rfl hg5 ha1 eS6 dX9_lend_30 rfl ?_
  refine g_aload_n (n := 32) C 0 dX9_lend_31 rfl rfl ?_
  refine g_iconst (n := 33) C dX9_lend_32 rfl ?_
  refine g_iload_n (n := 34) C 2 dX9_lend_33 rfl rfl ?_
  refine g_iload_n (n := 35) C 1 dX9_lend_34 rfl rfl ?_
  obtain ⟨S7, v8, hq9, h⟩ := cal_e h
  refine g_callV (n := 38) (As := [vI 1, vI a1, vI a0]) (rest := []) C 0 3 (Nat.le_of_ble_eq_true rfl) rfl rfl (c_X9_say hS6 (by decide : r32 1) ha1 ha0 hq9) gX9_lend_X9_say rfl ⟨rfl, rfl⟩ (by decide +kernel) ⟨Nat.le_of_ble_eq_true rfl, Nat.le_of_ble_eq_true rfl⟩ rfl rfl rfl (Nat.le_of_ble_eq_true rfl) dX9_lend_35 rfl (fun hS7 hv8 => ?_)
  show GW (sM D t ad) mi_X9_lend (acV, S0, r0) x S7 38 _ []
  refine g_aload_n (n := 39) C 0 dX9_lend_38 rfl rfl ?_
  refine g_getC (n := 42) C 0 18 rfl (Nat.le_of_ble_eq_true rfl) rfl rfl rfl (Nat.le_of_ble_eq_true rfl) in_X9_lend_X9 (by decide +kernel) dX9_lend_39 rfl ?_
  refine g_iload_n (n := 43) C 2 dX9_lend_42 rfl rfl ?_
  refine g_zald (n := 44) C 18 rfl (Nat.le_of_ble_eq_true rfl) rfl rfl hg5 ha1 dX9_lend_43 rfl ?_
  refine g_if_eq (n := 47) C 48 ((hS7 18 _).2 (tn_lt hg5 (by decide))) dX9_lend_44 (by decide) rfl (fun (hc10 : S7 18 a1.toNat = 0) => ?_) (fun (hc10 : ¬ (S7 18 a1.toNat = 0)) => ?_)
  · rw [if_pos hc10] at h
    refine g_aload_n (n := 49) C 0 dX9_lend_48 rfl rfl ?_
    refine g_getI (n := 52) C 0 4 rfl (Nat.le_of_ble_eq_true rfl) rfl rfl rfl (Nat.le_of_ble_eq_true rfl) in_X9_lend_X9 (by decide +kernel) dX9_lend_49 rfl ?_
    refine g_aload_n (n := 53) C 0 dX9_lend_52 rfl rfl ?_
    refine g_getC (n := 56) C 0 14 rfl (Nat.le_of_ble_eq_true rfl) rfl rfl rfl (Nat.le_of_ble_eq_true rfl) in_X9_lend_X9 (by decide +kernel) dX9_lend_53 rfl ?_
    refine g_iload_n (n := 57) C 2 dX9_lend_56 rfl rfl ?_
    refine g_iald (n := 58) C 14 rfl (Nat.le_of_ble_eq_true rfl) rfl rfl hg5 ha1 dX9_lend_57 rfl ?_
    refine g_isub (n := 59) C dX9_lend_58 rfl ?_
    obtain ⟨v11, ev11, h⟩ := nmV_e h
    have hv11 : r32 v11 := by rw [ev11]; exact (w32_r _)
    refine g_istore_n (n := 60) (lv' := [(3, vI v11), (0, .ref (ad 0)), (1, vI a0), (2, vI a1)]) C dX9_lend_59 (Nat.le_of_ble_eq_true rfl) ev11 rfl rfl ?_
    refine g_aload_n (n := 61) C 1 dX9_lend_60 rfl rfl ?_
    refine g_dup (n := 62) C rfl dX9_lend_61 rfl ?_
    refine g_getJ (n := 65) C 0 28 rfl (Nat.le_of_ble_eq_true rfl) rfl rfl rfl (Nat.le_of_ble_eq_true rfl) in_X9_lend_X9 (by decide +kernel) dX9_lend_62 rfl ?_
    refine g_iload_n (n := 66) C 0 dX9_lend_65 rfl rfl ?_
    refine g_i2l (n := 67) C hv11 dX9_lend_66 rfl ?_
    refine g_ladd (n := 68) C dX9_lend_67 rfl ?_
    obtain ⟨S12, eS12, h⟩ := nmS_e h
    have hS12 : RS S12 := by rw [eS12]; exact RS_l hS7 (w64_r _) (by decide)
    refine g_putJ (n := 71) C 0 28 rfl (Nat.le_of_ble_eq_true rfl) rfl rfl rfl (Nat.le_of_ble_eq_true rfl) in_X9_lend_X9 tyX9_ok nmX9 (by decide +kernel) rfl (by decide +kernel) (Nat.le_of_ble_eq_true rfl) eS12 dX9_lend_68 rfl ?_
    refine g_aload_n (n := 72) C 1 dX9_lend_71 rfl rfl ?_
    refine g_dup (n := 73) C rfl dX9_lend_72 rfl ?_
    refine g_getI (n := 76) C 0 29 rfl (Nat.le_of_ble_eq_true rfl) rfl rfl rfl (Nat.le_of_ble_eq_true rfl) in_X9_lend_X9 (by decide +kernel) dX9_lend_73 rfl ?_
    refine g_iconst (n := 77) C dX9_lend_76 rfl ?_
    refine g_iadd (n := 78) C dX9_lend_77 rfl ?_
    obtain ⟨S13, eS13, h⟩ := nmS_e h
    have hS13 : RS S13 := by rw [eS13]; exact RS_i hS12 (w32_r _)
    refine g_putI (n := 81) C 0 29 rfl (Nat.le_of_ble_eq_true rfl) rfl rfl rfl (Nat.le_of_ble_eq_true rfl) in_X9_lend_X9 tyX9_ok nmX9 (by decide +kernel) rfl (by decide +kernel) (Nat.le_of_ble_eq_true rfl) eS13 dX9_lend_78 rfl ?_
    refine g_aload_n (n := 82) C 1 dX9_lend_81 rfl rfl ?_
    refine g_iload_n (n := 83) C 0 dX9_lend_82 rfl rfl ?_
    refine g_aload_n (n := 84) C 1 dX9_lend_83 rfl rfl ?_
    refine g_getI (n := 87) C 0 30 rfl (Nat.le_of_ble_eq_true rfl) rfl rfl rfl (Nat.le_of_ble_eq_true rfl) in_X9_lend_X9 (by decide +kernel) dX9_lend_84 rfl ?_
    refine g_icmp_le (n := 90) C 94 hv11 ((hS13 0 30).2 (by decide)) dX9_lend_87 (by decide) rfl (fun (hc14 : v11 ≤ S13 0 30) => ?_) (fun (hc14 : ¬ (v11 ≤ S13 0 30)) => ?_)
    · rw [if_pos hc14] at h
      refine g_aload_n (n := 95) C 1 dX9_lend_94 rfl rfl ?_
      refine g_getI (n := 98) C 0 30 rfl (Nat.le_of_ble_eq_true rfl) rfl rfl rfl (Nat.le_of_ble_eq_true rfl) in_X9_lend_X9 (by decide +kernel) dX9_lend_95 rfl ?_
      obtain ⟨S15, eS15, h⟩ := nmS_e h
      have hS15 : RS S15 := by rw [eS15]; exact RS_i hS13 ((hS13 0 30).2 (by decide))
      refine g_putI (n := 101) C 0 30 rfl (Nat.le_of_ble_eq_true rfl) rfl rfl rfl (Nat.le_of_ble_eq_true rfl) in_X9_lend_X9 tyX9_ok nmX9 (by decide +kernel) rfl (by decide +kernel) (Nat.le_of_ble_eq_true rfl) eS15 dX9_lend_98 rfl ?_
      exact g_vret C rfl h rfl trivial hS15 dX9_lend_101
    · rw [if_neg hc14] at h
      refine g_iload_n (n := 91) C 0 dX9_lend_90 rfl rfl ?_
      refine g_goto C 98 dX9_lend_91 (by decide) ?_
      obtain ⟨S16, eS16, h⟩ := nmS_e h
      have hS16 : RS S16 := by rw [eS16]; exact RS_i hS13 hv11
      refine g_putI (n := 101) C 0 30 rfl (Nat.le_of_ble_eq_true rfl) rfl rfl rfl (Nat.le_of_ble_eq_true rfl) in_X9_lend_X9 tyX9_ok nmX9 (by decide +kernel) rfl (by decide +kernel) (Nat.le_of_ble_eq_true rfl) eS16 dX9_lend_98 rfl ?_
      exact g_vret C rfl h rfl trivial hS16 dX9_lend_101
  · rw [if_neg hc10] at h
    exact g_vret C rfl h rfl trivial hS7 dX9_lend_47
-- RX9 turnSlots
abbrev rm_X9_turnSlots : Room := ({ frames := 2, cells := 0, slots := 0, locals := 47 } : Room)
abbrev mi_X9_turnSlots : Mi := (cX9_turnSlots, 2, RX9, wsX9_turnSlots, rm_X9_turnSlots, none)
set_option maxRecDepth 20000 in
theorem in_X9_turnSlots_X9 : ∀ w ∈ u_ws RX9 TX9 39, w ∈ wsX9_turnSlots := by decide +kernel
def dn_X9_turnSlots_31 (k2 : Int → St → Option (St × Int)) (x1 : Int) (S : St) : Option (St × Int) := (if 0 ≤ x1 ∧ x1 < 12 then (nmS (stU S 8 x1.toNat (w32 ((S 8 x1.toNat) - 1))) fun S5 => (if S5 8 x1.toNat ≤ 0 then (if S5 5 x1.toNat = 1 then (cal (dn_X9_rest x1 S5) fun S19 v20 => (nmV (w32 (x1 + 1)) fun v22 => k2 v22 S19)) else (if S5 6 x1.toNat = 0 then (cal (dn_X9_lend x1 (S5 7 x1.toNat) S5) fun S9 v10 => (nmV (w32 (x1 + 1)) fun v12 => k2 v12 S9)) else (if 0 ≤ S5 7 x1.toNat ∧ S5 7 x1.toNat < 60 then (nmS (stU S5 15 (S5 7 x1.toNat).toNat 1) fun S14 => (cal (dn_X9_go x1 S14) fun S15 v16 => (nmV (w32 (x1 + 1)) fun v18 => k2 v18 S15))) else none))) else (nmV (w32 (x1 + 1)) fun v23 => k2 v23 S5))) else none)
set_option maxRecDepth 100000 in
set_option maxHeartbeats 4000000 in
theorem u_X9_turnSlots_31 {D : va_G} {t : T5} {ad : Nat → Nat} {S0 : St} {r0 : Int} {x : Mx} (C : CX (sM D t ad) mi_X9_turnSlots x) {k2 : Int → St → Option (St × Int)} (hk2 : ∀ (x1 : Int) (S : St), RS S → (r32 x1) → k2 x1 S = some (S0, r0) → GW (sM D t ad) mi_X9_turnSlots (acV, S0, r0) x S 2 [(0, .ref (ad 0)), (1, vI x1)] []) : ∀ (x1 : Int) (S : St), RS S → (r32 x1) → dn_X9_turnSlots_31 k2 x1 S = some (S0, r0) → GW (sM D t ad) mi_X9_turnSlots (acV, S0, r0) x S 31 [(0, .ref (ad 0)), (1, vI x1)] [] := by
  intro x1 S hS hx1 h
  unfold dn_X9_turnSlots_31 at h
  refine g_aload_n (n := 32) C 0 dX9_turnSlots_31 rfl rfl ?_
  refine g_getC (n := 35) C 0 8 rfl (Nat.le_of_ble_eq_true rfl) rfl rfl rfl (Nat.le_of_ble_eq_true rfl) in_X9_turnSlots_X9 (by decide +kernel) dX9_turnSlots_32 rfl ?_
  refine g_iload_n (n := 36) C 1 dX9_turnSlots_35 rfl rfl ?_
  refine g_dup2 (n := 37) C rfl rfl dX9_turnSlots_36 rfl ?_
  obtain ⟨hg4, h⟩ := gd_e h
  refine g_iald (n := 38) C 8 rfl (Nat.le_of_ble_eq_true rfl) rfl rfl hg4 hx1 dX9_turnSlots_37 rfl ?_
  refine g_iconst (n := 39) C dX9_turnSlots_38 rfl ?_
  refine g_isub (n := 40) C dX9_turnSlots_39 rfl ?_
  obtain ⟨S5, eS5, h⟩ := nmS_e h
  have hS5 : RS S5 := by rw [eS5]; exact RS_i hS (w32_r _)
  refine g_iast (n := 41) C 8 rfl (Nat.le_of_ble_eq_true rfl) rfl rfl hg4 hx1 eS5 dX9_turnSlots_40 rfl ?_
  refine g_aload_n (n := 42) C 0 dX9_turnSlots_41 rfl rfl ?_
  refine g_getC (n := 45) C 0 8 rfl (Nat.le_of_ble_eq_true rfl) rfl rfl rfl (Nat.le_of_ble_eq_true rfl) in_X9_turnSlots_X9 (by decide +kernel) dX9_turnSlots_42 rfl ?_
  refine g_iload_n (n := 46) C 1 dX9_turnSlots_45 rfl rfl ?_
  refine g_iald (n := 47) C 8 rfl (Nat.le_of_ble_eq_true rfl) rfl rfl hg4 hx1 dX9_turnSlots_46 rfl ?_
  refine g_if_le (n := 50) C 53 ((hS5 8 _).2 (tn_lt hg4 (by decide))) dX9_turnSlots_47 (by decide) rfl (fun (hc6 : S5 8 x1.toNat ≤ 0) => ?_) (fun (hc6 : ¬ (S5 8 x1.toNat ≤ 0)) => ?_)
  · rw [if_pos hc6] at h
    refine g_aload_n (n := 54) C 0 dX9_turnSlots_53 rfl rfl ?_
    refine g_getC (n := 57) C 0 5 rfl (Nat.le_of_ble_eq_true rfl) rfl rfl rfl (Nat.le_of_ble_eq_true rfl) in_X9_turnSlots_X9 (by decide +kernel) dX9_turnSlots_54 rfl ?_
    refine g_iload_n (n := 58) C 1 dX9_turnSlots_57 rfl rfl ?_
    refine g_iald (n := 59) C 5 rfl (Nat.le_of_ble_eq_true rfl) rfl rfl hg4 hx1 dX9_turnSlots_58 rfl ?_
    refine g_iconst (n := 60) C dX9_turnSlots_59 rfl ?_
    refine g_icmp_ne (n := 63) C 71 ((hS5 5 _).2 (tn_lt hg4 (by decide))) (by decide : r32 1) dX9_turnSlots_60 (by decide) rfl (fun (hc7 : ¬ (S5 5 x1.toNat = 1)) => ?_) (fun (hc7 : S5 5 x1.toNat = 1) => ?_)
    · rw [if_neg hc7] at h
      refine g_aload_n (n := 72) C 0 dX9_turnSlots_71 rfl rfl ?_
      refine g_getC (n := 75) C 0 6 rfl (Nat.le_of_ble_eq_true rfl) rfl rfl rfl (Nat.le_of_ble_eq_true rfl) in_X9_turnSlots_X9 (by decide +kernel) dX9_turnSlots_72 rfl ?_
      refine g_iload_n (n := 76) C 1 dX9_turnSlots_75 rfl rfl ?_
      refine g_zald (n := 77) C 6 rfl (Nat.le_of_ble_eq_true rfl) rfl rfl hg4 hx1 dX9_turnSlots_76 rfl ?_
      refine g_if_eq (n := 80) C 100 ((hS5 6 _).2 (tn_lt hg4 (by decide))) dX9_turnSlots_77 (by decide) rfl (fun (hc8 : S5 6 x1.toNat = 0) => ?_) (fun (hc8 : ¬ (S5 6 x1.toNat = 0)) => ?_)
      · rw [if_pos hc8] at h
        refine g_aload_n (n := 101) C 0 dX9_turnSlots_100 rfl rfl ?_
        refine g_iload_n (n := 102) C 1 dX9_turnSlots_101 rfl rfl ?_
        refine g_aload_n (n := 103) C 0 dX9_turnSlots_102 rfl rfl ?_
        refine g_getC (n := 106) C 0 7 rfl (Nat.le_of_ble_eq_true rfl) rfl rfl rfl (Nat.le_of_ble_eq_true rfl) in_X9_turnSlots_X9 (by decide +kernel) dX9_turnSlots_103 rfl ?_
        refine g_iload_n (n := 107) C 1 dX9_turnSlots_106 rfl rfl ?_
        refine g_iald (n := 108) C 7 rfl (Nat.le_of_ble_eq_true rfl) rfl rfl hg4 hx1 dX9_turnSlots_107 rfl ?_
        obtain ⟨S9, v10, hq11, h⟩ := cal_e h
        refine g_callV (n := 111) (As := [vI x1, vI (S5 7 x1.toNat)]) (rest := []) C 0 2 (Nat.le_of_ble_eq_true rfl) rfl rfl (c_X9_lend hS5 hx1 ((hS5 7 _).2 (tn_lt hg4 (by decide))) hq11) gX9_turnSlots_X9_lend rfl ⟨rfl, rfl⟩ (by decide +kernel) ⟨Nat.le_of_ble_eq_true rfl, Nat.le_of_ble_eq_true rfl⟩ rfl rfl rfl (Nat.le_of_ble_eq_true rfl) dX9_turnSlots_108 rfl (fun hS9 hv10 => ?_)
        show GW (sM D t ad) mi_X9_turnSlots (acV, S0, r0) x S9 111 _ []
        obtain ⟨v12, ev12, h⟩ := nmV_e h
        have hv12 : r32 v12 := by rw [ev12]; exact w32_r _
        refine g_iinc (n := 114) (lv' := [(1, vI v12), (0, .ref (ad 0))]) C 1 dX9_turnSlots_111 rfl (Nat.le_of_ble_eq_true rfl) ev12 rfl rfl ?_
        refine g_goto C 2 dX9_turnSlots_114 (by decide) ?_
        refine g_lv [1, 0] rfl ?_
        exact hk2 v12 S9 hS9 hv12 h
      · rw [if_neg hc8] at h
        refine g_aload_n (n := 81) C 0 dX9_turnSlots_80 rfl rfl ?_
        refine g_getC (n := 84) C 0 15 rfl (Nat.le_of_ble_eq_true rfl) rfl rfl rfl (Nat.le_of_ble_eq_true rfl) in_X9_turnSlots_X9 (by decide +kernel) dX9_turnSlots_81 rfl ?_
        refine g_aload_n (n := 85) C 0 dX9_turnSlots_84 rfl rfl ?_
        refine g_getC (n := 88) C 0 7 rfl (Nat.le_of_ble_eq_true rfl) rfl rfl rfl (Nat.le_of_ble_eq_true rfl) in_X9_turnSlots_X9 (by decide +kernel) dX9_turnSlots_85 rfl ?_
        refine g_iload_n (n := 89) C 1 dX9_turnSlots_88 rfl rfl ?_
        refine g_iald (n := 90) C 7 rfl (Nat.le_of_ble_eq_true rfl) rfl rfl hg4 hx1 dX9_turnSlots_89 rfl ?_
        refine g_iconst (n := 91) C dX9_turnSlots_90 rfl ?_
        obtain ⟨hg13, h⟩ := gd_e h
        obtain ⟨S14, eS14, h⟩ := nmS_e h
        have hS14 : RS S14 := by rw [eS14]; exact RS_i hS5 (by decide : r32 1)
        refine g_iast (n := 92) C 15 rfl (Nat.le_of_ble_eq_true rfl) rfl rfl hg13 ((hS5 7 _).2 (tn_lt hg4 (by decide))) eS14 dX9_turnSlots_91 rfl ?_
        refine g_aload_n (n := 93) C 0 dX9_turnSlots_92 rfl rfl ?_
        refine g_iload_n (n := 94) C 1 dX9_turnSlots_93 rfl rfl ?_
        obtain ⟨S15, v16, hq17, h⟩ := cal_e h
        refine g_callV (n := 97) (As := [vI x1]) (rest := []) C 0 1 (Nat.le_of_ble_eq_true rfl) rfl rfl (c_X9_go hS14 hx1 hq17) gX9_turnSlots_X9_go rfl ⟨rfl, rfl⟩ (by decide +kernel) ⟨Nat.le_of_ble_eq_true rfl, Nat.le_of_ble_eq_true rfl⟩ rfl rfl rfl (Nat.le_of_ble_eq_true rfl) dX9_turnSlots_94 rfl (fun hS15 hv16 => ?_)
        show GW (sM D t ad) mi_X9_turnSlots (acV, S0, r0) x S15 97 _ []
        refine g_goto C 111 dX9_turnSlots_97 (by decide) ?_
        obtain ⟨v18, ev18, h⟩ := nmV_e h
        have hv18 : r32 v18 := by rw [ev18]; exact w32_r _
        refine g_iinc (n := 114) (lv' := [(1, vI v18), (0, .ref (ad 0))]) C 1 dX9_turnSlots_111 rfl (Nat.le_of_ble_eq_true rfl) ev18 rfl rfl ?_
        refine g_goto C 2 dX9_turnSlots_114 (by decide) ?_
        refine g_lv [1, 0] rfl ?_
        exact hk2 v18 S15 hS15 hv18 h
    · rw [if_pos hc7] at h
      refine g_aload_n (n := 64) C 0 dX9_turnSlots_63 rfl rfl ?_
      refine g_iload_n (n := 65) C 1 dX9_turnSlots_64 rfl rfl ?_
      obtain ⟨S19, v20, hq21, h⟩ := cal_e h
      refine g_callV (n := 68) (As := [vI x1]) (rest := []) C 0 1 (Nat.le_of_ble_eq_true rfl) rfl rfl (c_X9_rest hS5 hx1 hq21) gX9_turnSlots_X9_rest rfl ⟨rfl, rfl⟩ (by decide +kernel) ⟨Nat.le_of_ble_eq_true rfl, Nat.le_of_ble_eq_true rfl⟩ rfl rfl rfl (Nat.le_of_ble_eq_true rfl) dX9_turnSlots_65 rfl (fun hS19 hv20 => ?_)
      show GW (sM D t ad) mi_X9_turnSlots (acV, S0, r0) x S19 68 _ []
      refine g_goto C 111 dX9_turnSlots_68 (by decide) ?_
      obtain ⟨v22, ev22, h⟩ := nmV_e h
      have hv22 : r32 v22 := by rw [ev22]; exact w32_r _
      refine g_iinc (n := 114) (lv' := [(1, vI v22), (0, .ref (ad 0))]) C 1 dX9_turnSlots_111 rfl (Nat.le_of_ble_eq_true rfl) ev22 rfl rfl ?_
      refine g_goto C 2 dX9_turnSlots_114 (by decide) ?_
      refine g_lv [1, 0] rfl ?_
      exact hk2 v22 S19 hS19 hv22 h
  · rw [if_neg hc6] at h
    refine g_goto C 111 dX9_turnSlots_50 (by decide) ?_
    obtain ⟨v23, ev23, h⟩ := nmV_e h
    have hv23 : r32 v23 := by rw [ev23]; exact w32_r _
    refine g_iinc (n := 114) (lv' := [(1, vI v23), (0, .ref (ad 0))]) C 1 dX9_turnSlots_111 rfl (Nat.le_of_ble_eq_true rfl) ev23 rfl rfl ?_
    refine g_goto C 2 dX9_turnSlots_114 (by decide) ?_
    refine g_lv [1, 0] rfl ?_
    exact hk2 v23 S5 hS5 hv23 h
def dn_X9_turnSlots_2 : Nat → Int → St → Option (St × Int)
  | 0, _, _ => none
  | n + 1, x1, S => (if 12 ≤ x1 then some (S, 0) else (if 0 ≤ x1 ∧ x1 < 12 then (if S 5 x1.toNat = 1 then dn_X9_turnSlots_31 (fun x1_ S_ => dn_X9_turnSlots_2 n x1_ S_) x1 S else (if S 5 x1.toNat = 3 then dn_X9_turnSlots_31 (fun x1_ S_ => dn_X9_turnSlots_2 n x1_ S_) x1 S else (nmV (w32 (x1 + 1)) fun v25 => dn_X9_turnSlots_2 n v25 S))) else none))
set_option maxRecDepth 100000 in
set_option maxHeartbeats 4000000 in
theorem u_X9_turnSlots_2 {D : va_G} {t : T5} {ad : Nat → Nat} {S0 : St} {r0 : Int} {x : Mx} (C : CX (sM D t ad) mi_X9_turnSlots x) : ∀ (n : Nat) (x1 : Int) (S : St), RS S → (r32 x1) → dn_X9_turnSlots_2 n x1 S = some (S0, r0) → GW (sM D t ad) mi_X9_turnSlots (acV, S0, r0) x S 2 [(0, .ref (ad 0)), (1, vI x1)] [] := by
  intro n
  induction n with
  | zero =>
    intro x1 S hS hx1 h
    cases h
  | succ n ih =>
    intro x1 S hS hx1 h
    rw [dn_X9_turnSlots_2] at h
    refine g_iload_n (n := 3) C 1 dX9_turnSlots_2 rfl rfl ?_
    refine g_bipush (n := 5) C dX9_turnSlots_3 (by decide +kernel) rfl ?_
    refine g_icmp_ge (n := 8) C 117 hx1 (by decide : r32 12) dX9_turnSlots_5 (by decide) rfl (fun (hc1 : 12 ≤ x1) => ?_) (fun (hc1 : ¬ (12 ≤ x1)) => ?_)
    · rw [if_pos hc1] at h
      exact g_vret C rfl h rfl trivial hS dX9_turnSlots_117
    · rw [if_neg hc1] at h
      refine g_aload_n (n := 9) C 0 dX9_turnSlots_8 rfl rfl ?_
      refine g_getC (n := 12) C 0 5 rfl (Nat.le_of_ble_eq_true rfl) rfl rfl rfl (Nat.le_of_ble_eq_true rfl) in_X9_turnSlots_X9 (by decide +kernel) dX9_turnSlots_9 rfl ?_
      refine g_iload_n (n := 13) C 1 dX9_turnSlots_12 rfl rfl ?_
      obtain ⟨hg2, h⟩ := gd_e h
      refine g_iald (n := 14) C 5 rfl (Nat.le_of_ble_eq_true rfl) rfl rfl hg2 hx1 dX9_turnSlots_13 rfl ?_
      refine g_iconst (n := 15) C dX9_turnSlots_14 rfl ?_
      refine g_icmp_eq (n := 18) C 31 ((hS 5 _).2 (tn_lt hg2 (by decide))) (by decide : r32 1) dX9_turnSlots_15 (by decide) rfl (fun (hc3 : S 5 x1.toNat = 1) => ?_) (fun (hc3 : ¬ (S 5 x1.toNat = 1)) => ?_)
      · rw [if_pos hc3] at h
        refine g_lv [0, 1] rfl ?_
        exact u_X9_turnSlots_31 C ih x1 S hS hx1 h
      · rw [if_neg hc3] at h
        refine g_aload_n (n := 19) C 0 dX9_turnSlots_18 rfl rfl ?_
        refine g_getC (n := 22) C 0 5 rfl (Nat.le_of_ble_eq_true rfl) rfl rfl rfl (Nat.le_of_ble_eq_true rfl) in_X9_turnSlots_X9 (by decide +kernel) dX9_turnSlots_19 rfl ?_
        refine g_iload_n (n := 23) C 1 dX9_turnSlots_22 rfl rfl ?_
        refine g_iald (n := 24) C 5 rfl (Nat.le_of_ble_eq_true rfl) rfl rfl hg2 hx1 dX9_turnSlots_23 rfl ?_
        refine g_iconst (n := 25) C dX9_turnSlots_24 rfl ?_
        refine g_icmp_eq (n := 28) C 31 ((hS 5 _).2 (tn_lt hg2 (by decide))) (by decide : r32 3) dX9_turnSlots_25 (by decide) rfl (fun (hc24 : S 5 x1.toNat = 3) => ?_) (fun (hc24 : ¬ (S 5 x1.toNat = 3)) => ?_)
        · rw [if_pos hc24] at h
          refine g_lv [0, 1] rfl ?_
          exact u_X9_turnSlots_31 C ih x1 S hS hx1 h
        · rw [if_neg hc24] at h
          refine g_goto C 111 dX9_turnSlots_28 (by decide) ?_
          obtain ⟨v25, ev25, h⟩ := nmV_e h
          have hv25 : r32 v25 := by rw [ev25]; exact w32_r _
          refine g_iinc (n := 114) (lv' := [(1, vI v25), (0, .ref (ad 0))]) C 1 dX9_turnSlots_111 rfl (Nat.le_of_ble_eq_true rfl) ev25 rfl rfl ?_
          refine g_goto C 2 dX9_turnSlots_114 (by decide) ?_
          refine g_lv [1, 0] rfl ?_
          exact ih v25 S hS hv25 h
def dn_X9_turnSlots (S : St) : Option (St × Int) := dn_X9_turnSlots_2 FU 0 S
set_option maxRecDepth 100000 in
set_option maxHeartbeats 4000000 in
theorem c_X9_turnSlots {l : Launch} {D : va_G} {t : T5} {ad : Nat → Nat} {S S0 : St} {r0 : Int} (hS : RS S) (h : dn_X9_turnSlots S = some (S0, r0)) : Mc l (sM D t ad) yX9_turnSlots wsX9_turnSlots rm_X9_turnSlots [.ref (ad 0)] acV S S0 r0 := by
  refine Mc_of (cc := cX9_turnSlots) (nL := 2) (ret := none) (by decide +kernel) rfl (Nat.le_of_ble_eq_true rfl) (lv := [(0, .ref (ad 0))]) rfl (fun x C _ => ?_)
  unfold dn_X9_turnSlots at h
  show GW (sM D t ad) mi_X9_turnSlots (acV, S0, r0) x S 0 [(0, .ref (ad 0))] []
  refine g_iconst (n := 1) C dX9_turnSlots_0 rfl ?_
  refine g_istore_n (n := 2) (lv' := [(1, vI 0), (0, .ref (ad 0))]) C dX9_turnSlots_1 (Nat.le_of_ble_eq_true rfl) rfl rfl rfl ?_
  refine g_lv [1, 0] rfl ?_
  exact u_X9_turnSlots_2 C FU 0 S hS (by decide : r32 0) h
