-- RX6 reset
abbrev rm_X6_reset : Room := ({ frames := 2, cells := 0, slots := 0, locals := 44 } : Room)
abbrev mi_X6_reset : Mi := (cX6_reset, 2, RX6, wsX6_reset, rm_X6_reset, none)
set_option maxRecDepth 20000 in
theorem in_X6_reset_X6 : ∀ w ∈ u_ws RX6 TX6 11, w ∈ wsX6_reset := by decide +kernel
def dn_X6_reset_2 : Nat → Int → St → Option (St × Int)
  | 0, _, _ => none
  | n + 1, x1, S => (if 12 ≤ x1 then (cal (dn_X0_forget S) fun S2 v3 => (cal (dn_X4_forget S2) fun S5 v6 => (nmS (stU S5 4 5 0) fun S8 => (nmS (stU S8 4 6 0) fun S9 => (nmS (stU S9 4 7 0) fun S10 => (nmS (stU S10 4 100008 0) fun S11 => (nmS (stU S11 4 9 0) fun S12 => (nmS (stU S12 4 10 0) fun S13 => some (S13, 0))))))))) else (if 0 ≤ x1 ∧ x1 < 12 then (cal (dn_X3_vanish x1 S) fun S15 v16 => (nmV (w32 (x1 + 1)) fun v18 => dn_X6_reset_2 n v18 S15)) else none))
set_option maxRecDepth 100000 in
set_option maxHeartbeats 4000000 in
theorem u_X6_reset_2 {D : va_G} {t : T5} {ad : Nat → Nat} {S0 : St} {r0 : Int} {x : Mx} (C : CX (sX D t ad) mi_X6_reset x) : ∀ (n : Nat) (x1 : Int) (S : St), RS S → (r32 x1) → dn_X6_reset_2 n x1 S = some (S0, r0) → GW (sX D t ad) mi_X6_reset (acV, S0, r0) x S 2 [(0, .ref (ad 4)), (1, vI x1)] [] := by
  intro n
  induction n with
  | zero =>
    intro x1 S hS hx1 h
    cases h
  | succ n ih =>
    intro x1 S hS hx1 h
    rw [dn_X6_reset_2] at h
    refine g_iload_n (n := 3) C 1 dX6_reset_2 rfl rfl ?_
    refine g_bipush (n := 5) C dX6_reset_3 (by decide +kernel) rfl ?_
    refine g_icmp_ge (n := 8) C 23 hx1 (by decide : r32 12) dX6_reset_5 (by decide) rfl (fun (hc1 : 12 ≤ x1) => ?_) (fun (hc1 : ¬ (12 ≤ x1)) => ?_)
    · rw [if_pos hc1] at h
      refine g_aload_n (n := 24) C 0 dX6_reset_23 rfl rfl ?_
      refine g_getC (n := 27) C 4 3 rfl (Nat.le_of_ble_eq_true rfl) rfl rfl rfl (Nat.le_of_ble_eq_true rfl) in_X6_reset_X6 (by decide +kernel) dX6_reset_24 rfl ?_
      obtain ⟨S2, v3, hq4, h⟩ := cal_e h
      refine g_callV (n := 30) (As := []) (rest := []) C 7 0 (Nat.le_of_ble_eq_true rfl) rfl rfl (c_X0_forget hS hq4) gX6_reset_X0_forget rfl ⟨rfl, rfl⟩ (by decide +kernel) ⟨Nat.le_of_ble_eq_true rfl, Nat.le_of_ble_eq_true rfl⟩ rfl rfl rfl (Nat.le_of_ble_eq_true rfl) dX6_reset_27 rfl (fun hS2 hv3 => ?_)
      show GW (sX D t ad) mi_X6_reset (acV, S0, r0) x S2 30 _ []
      refine g_aload_n (n := 31) C 0 dX6_reset_30 rfl rfl ?_
      refine g_getC (n := 34) C 4 4 rfl (Nat.le_of_ble_eq_true rfl) rfl rfl rfl (Nat.le_of_ble_eq_true rfl) in_X6_reset_X6 (by decide +kernel) dX6_reset_31 rfl ?_
      obtain ⟨S5, v6, hq7, h⟩ := cal_e h
      refine g_callV (n := 37) (As := []) (rest := []) C 10 0 (Nat.le_of_ble_eq_true rfl) rfl rfl (c_X4_forget hS2 hq7) gX6_reset_X4_forget rfl ⟨rfl, rfl⟩ (by decide +kernel) ⟨Nat.le_of_ble_eq_true rfl, Nat.le_of_ble_eq_true rfl⟩ rfl rfl rfl (Nat.le_of_ble_eq_true rfl) dX6_reset_34 rfl (fun hS5 hv6 => ?_)
      show GW (sX D t ad) mi_X6_reset (acV, S0, r0) x S5 37 _ []
      refine g_aload_n (n := 38) C 0 dX6_reset_37 rfl rfl ?_
      refine g_iconst (n := 39) C dX6_reset_38 rfl ?_
      obtain ⟨S8, eS8, h⟩ := nmS_e h
      have hS8 : RS S8 := by rw [eS8]; exact RS_i hS5 (by decide : r32 0)
      refine g_putI (n := 42) C 4 5 rfl (Nat.le_of_ble_eq_true rfl) rfl rfl rfl (Nat.le_of_ble_eq_true rfl) in_X6_reset_X6 tyX6_ok nmX6 (by decide +kernel) rfl (by decide +kernel) (Nat.le_of_ble_eq_true rfl) eS8 dX6_reset_39 rfl ?_
      refine g_aload_n (n := 43) C 0 dX6_reset_42 rfl rfl ?_
      refine g_iconst (n := 44) C dX6_reset_43 rfl ?_
      obtain ⟨S9, eS9, h⟩ := nmS_e h
      have hS9 : RS S9 := by rw [eS9]; exact RS_i hS8 (by decide : r32 0)
      refine g_putI (n := 47) C 4 6 rfl (Nat.le_of_ble_eq_true rfl) rfl rfl rfl (Nat.le_of_ble_eq_true rfl) in_X6_reset_X6 tyX6_ok nmX6 (by decide +kernel) rfl (by decide +kernel) (Nat.le_of_ble_eq_true rfl) eS9 dX6_reset_44 rfl ?_
      refine g_aload_n (n := 48) C 0 dX6_reset_47 rfl rfl ?_
      refine g_iconst (n := 49) C dX6_reset_48 rfl ?_
      obtain ⟨S10, eS10, h⟩ := nmS_e h
      have hS10 : RS S10 := by rw [eS10]; exact RS_i hS9 (by decide : r32 0)
      refine g_putI (n := 52) C 4 7 rfl (Nat.le_of_ble_eq_true rfl) rfl rfl rfl (Nat.le_of_ble_eq_true rfl) in_X6_reset_X6 tyX6_ok nmX6 (by decide +kernel) rfl (by decide +kernel) (Nat.le_of_ble_eq_true rfl) eS10 dX6_reset_49 rfl ?_
      refine g_aload_n (n := 53) C 0 dX6_reset_52 rfl rfl ?_
      refine g_lconst (n := 54) (w := 0) C dX6_reset_53 (by decide +kernel) rfl ?_
      obtain ⟨S11, eS11, h⟩ := nmS_e h
      have hS11 : RS S11 := by rw [eS11]; exact RS_l hS10 (by decide : r64 0) (by decide)
      refine g_putJ (n := 57) C 4 8 rfl (Nat.le_of_ble_eq_true rfl) rfl rfl rfl (Nat.le_of_ble_eq_true rfl) in_X6_reset_X6 tyX6_ok nmX6 (by decide +kernel) rfl (by decide +kernel) (Nat.le_of_ble_eq_true rfl) eS11 dX6_reset_54 rfl ?_
      refine g_aload_n (n := 58) C 0 dX6_reset_57 rfl rfl ?_
      refine g_iconst (n := 59) C dX6_reset_58 rfl ?_
      obtain ⟨S12, eS12, h⟩ := nmS_e h
      have hS12 : RS S12 := by rw [eS12]; exact RS_i hS11 (by decide : r32 0)
      refine g_putI (n := 62) C 4 9 rfl (Nat.le_of_ble_eq_true rfl) rfl rfl rfl (Nat.le_of_ble_eq_true rfl) in_X6_reset_X6 tyX6_ok nmX6 (by decide +kernel) rfl (by decide +kernel) (Nat.le_of_ble_eq_true rfl) eS12 dX6_reset_59 rfl ?_
      refine g_aload_n (n := 63) C 0 dX6_reset_62 rfl rfl ?_
      refine g_iconst (n := 64) C dX6_reset_63 rfl ?_
      obtain ⟨S13, eS13, h⟩ := nmS_e h
      have hS13 : RS S13 := by rw [eS13]; exact RS_i hS12 (by decide : r32 0)
      refine g_putI (n := 67) C 4 10 rfl (Nat.le_of_ble_eq_true rfl) rfl rfl rfl (Nat.le_of_ble_eq_true rfl) in_X6_reset_X6 tyX6_ok nmX6 (by decide +kernel) rfl (by decide +kernel) (Nat.le_of_ble_eq_true rfl) eS13 dX6_reset_64 rfl ?_
      exact g_vret C rfl h rfl trivial hS13 dX6_reset_67
    · rw [if_neg hc1] at h
      refine g_aload_n (n := 9) C 0 dX6_reset_8 rfl rfl ?_
      refine g_getC (n := 12) C 4 1 rfl (Nat.le_of_ble_eq_true rfl) rfl rfl rfl (Nat.le_of_ble_eq_true rfl) in_X6_reset_X6 (by decide +kernel) dX6_reset_9 rfl ?_
      refine g_iload_n (n := 13) C 1 dX6_reset_12 rfl rfl ?_
      obtain ⟨hg14, h⟩ := gd_e h
      refine g_rald (n := 14) C 5 rfl (Nat.le_of_ble_eq_true rfl) rfl (Or.inr rfl) rfl hg14 hx1 dX6_reset_13 rfl ?_
      obtain ⟨S15, v16, hq17, h⟩ := cal_e h
      refine g_callV (n := 17) (As := []) (rest := []) C (x1.toNat + 18) 0 (tn_add hg14 (Nat.le_of_ble_eq_true rfl)) (dX_line (tn_lt hg14 (Nat.le_refl _))) rfl (c_X3_vanish hS hg14 hq17) gX6_reset_X3_vanish rfl ⟨rfl, rfl⟩ (by decide +kernel) ⟨Nat.le_of_ble_eq_true rfl, Nat.le_of_ble_eq_true rfl⟩ (vR_pos hg14.1) rfl rfl (Nat.le_of_ble_eq_true rfl) dX6_reset_14 rfl (fun hS15 hv16 => ?_)
      show GW (sX D t ad) mi_X6_reset (acV, S0, r0) x S15 17 _ []
      obtain ⟨v18, ev18, h⟩ := nmV_e h
      have hv18 : r32 v18 := by rw [ev18]; exact w32_r _
      refine g_iinc (n := 20) (lv' := [(1, vI v18), (0, .ref (ad 4))]) C 1 dX6_reset_17 rfl (Nat.le_of_ble_eq_true rfl) ev18 rfl rfl ?_
      refine g_goto C 2 dX6_reset_20 (by decide) ?_
      refine g_lv [1, 0] rfl ?_
      exact ih v18 S15 hS15 hv18 h
def dn_X6_reset (S : St) : Option (St × Int) := dn_X6_reset_2 FU 0 S
set_option maxRecDepth 100000 in
set_option maxHeartbeats 4000000 in
theorem c_X6_reset {l : Launch} {D : va_G} {t : T5} {ad : Nat → Nat} {S S0 : St} {r0 : Int} (hS : RS S) (h : dn_X6_reset S = some (S0, r0)) : Mc l (sX D t ad) yX6_reset wsX6_reset rm_X6_reset [.ref (ad 4)] acV S S0 r0 := by
  refine Mc_of (cc := cX6_reset) (nL := 2) (ret := none) (by decide +kernel) rfl (Nat.le_of_ble_eq_true rfl) (lv := [(0, .ref (ad 4))]) rfl (fun x C _ => ?_)
  unfold dn_X6_reset at h
  show GW (sX D t ad) mi_X6_reset (acV, S0, r0) x S 0 [(0, .ref (ad 4))] []
  refine g_iconst (n := 1) C dX6_reset_0 rfl ?_
  refine g_istore_n (n := 2) (lv' := [(1, vI 0), (0, .ref (ad 4))]) C dX6_reset_1 (Nat.le_of_ble_eq_true rfl) rfl rfl rfl ?_
  refine g_lv [1, 0] rfl ?_
  exact u_X6_reset_2 C FU 0 S hS (by decide : r32 0) h
-- RX6 isAhead
abbrev rm_X6_isAhead : Room := ({ frames := 0, cells := 0, slots := 0, locals := 0 } : Room)
abbrev mi_X6_isAhead : Mi := (cX6_isAhead, 2, RX6, wsX6_isAhead, rm_X6_isAhead, (some .boolean))
set_option maxRecDepth 20000 in
theorem in_X6_isAhead_X6 : ∀ w ∈ u_ws RX6 TX6 11, w ∈ wsX6_isAhead := by decide +kernel
def dn_X6_isAhead (a0 : Int) (S : St) : Option (St × Int) := (if a0 ≤ S 4 6 then some (S, 0) else (if 5000 < a0 then some (S, 0) else some (S, 1)))
set_option maxRecDepth 100000 in
set_option maxHeartbeats 4000000 in
theorem c_X6_isAhead {l : Launch} {D : va_G} {t : T5} {ad : Nat → Nat} {S S0 : St} {r0 : Int} {a0 : Int} (hS : RS S) (ha0 : r32 a0) (h : dn_X6_isAhead a0 S = some (S0, r0)) : Mc l (sX D t ad) yX6_isAhead wsX6_isAhead rm_X6_isAhead [.ref (ad 4), vI a0] acZ S S0 r0 := by
  refine Mc_of (cc := cX6_isAhead) (nL := 2) (ret := (some .boolean)) (by decide +kernel) rfl (Nat.le_of_ble_eq_true rfl) (lv := [(0, .ref (ad 4)), (1, vI a0)]) rfl (fun x C _ => ?_)
  unfold dn_X6_isAhead at h
  show GW (sX D t ad) mi_X6_isAhead (acZ, S0, r0) x S 0 [(0, .ref (ad 4)), (1, vI a0)] []
  refine g_iload_n (n := 1) C 1 dX6_isAhead_0 rfl rfl ?_
  refine g_aload_n (n := 2) C 0 dX6_isAhead_1 rfl rfl ?_
  refine g_getI (n := 5) C 4 6 rfl (Nat.le_of_ble_eq_true rfl) rfl rfl rfl (Nat.le_of_ble_eq_true rfl) in_X6_isAhead_X6 (by decide +kernel) dX6_isAhead_2 rfl ?_
  refine g_icmp_le (n := 8) C 19 ha0 ((hS 4 6).2 (by decide)) dX6_isAhead_5 (by decide) rfl (fun (hc1 : a0 ≤ S 4 6) => ?_) (fun (hc1 : ¬ (a0 ≤ S 4 6)) => ?_)
  · rw [if_pos hc1] at h
    refine g_iconst (n := 20) C dX6_isAhead_19 rfl ?_
    exact g_zret C rfl (Or.inl rfl) h rfl (Or.inl rfl) hS dX6_isAhead_20
  · rw [if_neg hc1] at h
    refine g_iload_n (n := 9) C 1 dX6_isAhead_8 rfl rfl ?_
    refine g_sipush (n := 12) C dX6_isAhead_9 (by decide +kernel) rfl ?_
    refine g_icmp_gt (n := 15) C 19 ha0 (by decide : r32 5000) dX6_isAhead_12 (by decide) rfl (fun (hc2 : 5000 < a0) => ?_) (fun (hc2 : ¬ (5000 < a0)) => ?_)
    · rw [if_pos hc2] at h
      refine g_iconst (n := 20) C dX6_isAhead_19 rfl ?_
      exact g_zret C rfl (Or.inl rfl) h rfl (Or.inl rfl) hS dX6_isAhead_20
    · rw [if_neg hc2] at h
      refine g_iconst (n := 16) C dX6_isAhead_15 rfl ?_
      refine g_goto C 20 dX6_isAhead_16 (by decide) ?_
      exact g_zret C rfl (Or.inr rfl) h rfl (Or.inr rfl) hS dX6_isAhead_20
-- RX6 addCaller
abbrev rm_X6_addCaller : Room := ({ frames := 1, cells := 0, slots := 0, locals := 25 } : Room)
abbrev mi_X6_addCaller : Mi := (cX6_addCaller, 6, RX6, wsX6_addCaller, rm_X6_addCaller, (some .int))
set_option maxRecDepth 20000 in
theorem in_X6_addCaller_X6 : ∀ w ∈ u_ws RX6 TX6 11, w ∈ wsX6_addCaller := by decide +kernel
def dn_X6_addCaller (a0 : Int) (a1 : Int) (a2 : Int) (a3 : Int) (a4 : Int) (S : St) : Option (St × Int) := (if S 4 5 < 60 then (if 0 ≤ S 4 5 ∧ S 4 5 < 60 then (cal (dn_X1_tell (S 4 5) a0 a1 a2 a3 a4 S) fun S3 v4 => (nmS (stU S3 4 5 (w32 ((S3 4 5) + 1))) fun S6 => some (S6, w32 ((S6 4 5) - 1)))) else none) else some (S, (-1)))
set_option maxRecDepth 100000 in
set_option maxHeartbeats 4000000 in
theorem c_X6_addCaller {l : Launch} {D : va_G} {t : T5} {ad : Nat → Nat} {S S0 : St} {r0 : Int} {a0 a1 a2 a3 a4 : Int} (hS : RS S) (ha0 : r32 a0) (ha1 : r32 a1) (ha2 : r32 a2) (ha3 : r32 a3) (ha4 : r32 a4) (h : dn_X6_addCaller a0 a1 a2 a3 a4 S = some (S0, r0)) : Mc l (sX D t ad) yX6_addCaller wsX6_addCaller rm_X6_addCaller [.ref (ad 4), vI a0, vI a1, vI a2, vI a3, vI a4] acI S S0 r0 := by
  refine Mc_of (cc := cX6_addCaller) (nL := 6) (ret := (some .int)) (by decide +kernel) rfl (Nat.le_of_ble_eq_true rfl) (lv := [(0, .ref (ad 4)), (1, vI a0), (2, vI a1), (3, vI a2), (4, vI a3), (5, vI a4)]) rfl (fun x C _ => ?_)
  unfold dn_X6_addCaller at h
  show GW (sX D t ad) mi_X6_addCaller (acI, S0, r0) x S 0 [(0, .ref (ad 4)), (1, vI a0), (2, vI a1), (3, vI a2), (4, vI a3), (5, vI a4)] []
  refine g_aload_n (n := 1) C 0 dX6_addCaller_0 rfl rfl ?_
  refine g_getI (n := 4) C 4 5 rfl (Nat.le_of_ble_eq_true rfl) rfl rfl rfl (Nat.le_of_ble_eq_true rfl) in_X6_addCaller_X6 (by decide +kernel) dX6_addCaller_1 rfl ?_
  refine g_bipush (n := 6) C dX6_addCaller_4 (by decide +kernel) rfl ?_
  refine g_icmp_lt (n := 9) C 11 ((hS 4 5).2 (by decide)) (by decide : r32 60) dX6_addCaller_6 (by decide) rfl (fun (hc1 : S 4 5 < 60) => ?_) (fun (hc1 : ¬ (S 4 5 < 60)) => ?_)
  · rw [if_pos hc1] at h
    refine g_aload_n (n := 12) C 0 dX6_addCaller_11 rfl rfl ?_
    refine g_getC (n := 15) C 4 2 rfl (Nat.le_of_ble_eq_true rfl) rfl rfl rfl (Nat.le_of_ble_eq_true rfl) in_X6_addCaller_X6 (by decide +kernel) dX6_addCaller_12 rfl ?_
    refine g_aload_n (n := 16) C 0 dX6_addCaller_15 rfl rfl ?_
    refine g_getI (n := 19) C 4 5 rfl (Nat.le_of_ble_eq_true rfl) rfl rfl rfl (Nat.le_of_ble_eq_true rfl) in_X6_addCaller_X6 (by decide +kernel) dX6_addCaller_16 rfl ?_
    obtain ⟨hg2, h⟩ := gd_e h
    refine g_rald (n := 20) C 6 rfl (Nat.le_of_ble_eq_true rfl) rfl (Or.inl rfl) rfl hg2 ((hS 4 5).2 (by decide)) dX6_addCaller_19 rfl ?_
    refine g_iload_n (n := 21) C 1 dX6_addCaller_20 rfl rfl ?_
    refine g_iload_n (n := 22) C 2 dX6_addCaller_21 rfl rfl ?_
    refine g_iload_n (n := 23) C 3 dX6_addCaller_22 rfl rfl ?_
    refine g_iload (n := 25) C 4 dX6_addCaller_23 rfl rfl ?_
    refine g_iload (n := 27) C 5 dX6_addCaller_25 rfl rfl ?_
    obtain ⟨S3, v4, hq5, h⟩ := cal_e h
    refine g_callV (n := 30) (As := [vI a0, vI a1, vI a2, vI a3, vI a4]) (rest := []) C ((S 4 5).toNat + 30) 5 (tn_add hg2 (Nat.le_of_ble_eq_true rfl)) (dX_call (tn_lt hg2 (Nat.le_refl _))) rfl (c_X1_tell hS hg2 ha0 ha1 ha2 ha3 ha4 hq5) gX6_addCaller_X1_tell rfl ⟨rfl, rfl⟩ (by decide +kernel) ⟨Nat.le_of_ble_eq_true rfl, Nat.le_of_ble_eq_true rfl⟩ (vR_pos hg2.1) rfl rfl (Nat.le_of_ble_eq_true rfl) dX6_addCaller_27 rfl (fun hS3 hv4 => ?_)
    show GW (sX D t ad) mi_X6_addCaller (acI, S0, r0) x S3 30 _ []
    refine g_aload_n (n := 31) C 0 dX6_addCaller_30 rfl rfl ?_
    refine g_dup (n := 32) C rfl dX6_addCaller_31 rfl ?_
    refine g_getI (n := 35) C 4 5 rfl (Nat.le_of_ble_eq_true rfl) rfl rfl rfl (Nat.le_of_ble_eq_true rfl) in_X6_addCaller_X6 (by decide +kernel) dX6_addCaller_32 rfl ?_
    refine g_iconst (n := 36) C dX6_addCaller_35 rfl ?_
    refine g_iadd (n := 37) C dX6_addCaller_36 rfl ?_
    obtain ⟨S6, eS6, h⟩ := nmS_e h
    have hS6 : RS S6 := by rw [eS6]; exact RS_i hS3 (w32_r _)
    refine g_putI (n := 40) C 4 5 rfl (Nat.le_of_ble_eq_true rfl) rfl rfl rfl (Nat.le_of_ble_eq_true rfl) in_X6_addCaller_X6 tyX6_ok nmX6 (by decide +kernel) rfl (by decide +kernel) (Nat.le_of_ble_eq_true rfl) eS6 dX6_addCaller_37 rfl ?_
    refine g_aload_n (n := 41) C 0 dX6_addCaller_40 rfl rfl ?_
    refine g_getI (n := 44) C 4 5 rfl (Nat.le_of_ble_eq_true rfl) rfl rfl rfl (Nat.le_of_ble_eq_true rfl) in_X6_addCaller_X6 (by decide +kernel) dX6_addCaller_41 rfl ?_
    refine g_iconst (n := 45) C dX6_addCaller_44 rfl ?_
    refine g_isub (n := 46) C dX6_addCaller_45 rfl ?_
    exact g_iret C rfl h rfl (w32_r _) hS6 dX6_addCaller_46
  · rw [if_neg hc1] at h
    refine g_iconst (n := 10) C dX6_addCaller_9 rfl ?_
    exact g_iret C rfl h rfl (by decide : r32 (-1)) hS dX6_addCaller_10
-- RX6 addBreak
abbrev rm_X6_addBreak : Room := ({ frames := 1, cells := 0, slots := 0, locals := 22 } : Room)
abbrev mi_X6_addBreak : Mi := (cX6_addBreak, 3, RX6, wsX6_addBreak, rm_X6_addBreak, (some .boolean))
set_option maxRecDepth 20000 in
theorem in_X6_addBreak_X6 : ∀ w ∈ u_ws RX6 TX6 11, w ∈ wsX6_addBreak := by decide +kernel
def dn_X6_addBreak (a0 : Int) (a1 : Int) (S : St) : Option (St × Int) := (cal (dn_X8_within a1 0 11 S) fun S1 v2 => (if v2 = 0 then some (S1, 0) else (cal (dn_X0_add a0 a1 S1) fun S5 v6 => (if v6 = 0 then some (S5, 0) else some (S5, 1)))))
set_option maxRecDepth 100000 in
set_option maxHeartbeats 4000000 in
theorem c_X6_addBreak {l : Launch} {D : va_G} {t : T5} {ad : Nat → Nat} {S S0 : St} {r0 : Int} {a0 a1 : Int} (hS : RS S) (ha0 : r32 a0) (ha1 : r32 a1) (h : dn_X6_addBreak a0 a1 S = some (S0, r0)) : Mc l (sX D t ad) yX6_addBreak wsX6_addBreak rm_X6_addBreak [.ref (ad 4), vI a0, vI a1] acZ S S0 r0 := by
  refine Mc_of (cc := cX6_addBreak) (nL := 3) (ret := (some .boolean)) (by decide +kernel) rfl (Nat.le_of_ble_eq_true rfl) (lv := [(0, .ref (ad 4)), (1, vI a0), (2, vI a1)]) rfl (fun x C _ => ?_)
  unfold dn_X6_addBreak at h
  show GW (sX D t ad) mi_X6_addBreak (acZ, S0, r0) x S 0 [(0, .ref (ad 4)), (1, vI a0), (2, vI a1)] []
  refine g_iload_n (n := 1) C 2 dX6_addBreak_0 rfl rfl ?_
  refine g_iconst (n := 2) C dX6_addBreak_1 rfl ?_
  refine g_bipush (n := 4) C dX6_addBreak_2 (by decide +kernel) rfl ?_
  obtain ⟨S1, v2, hq3, h⟩ := cal_e h
  refine g_callSN (n := 7) (As := [vI a1, vI 0, vI 11]) (rest := []) C 3 (c_X8_within hS ha1 (by decide : r32 0) (by decide : r32 11) hq3) gX6_addBreak_X8_within_n76 (C.2.2.2.2.2.2.1 rfl).2.2.2.2.1 (by decide +kernel) (by decide +kernel) rfl ⟨rfl, rfl⟩ (by decide +kernel) ⟨Nat.le_of_ble_eq_true rfl, Nat.le_of_ble_eq_true rfl⟩ rfl rfl (Nat.le_of_ble_eq_true rfl) dX6_addBreak_4 rfl (fun hS1 hv2 => ?_)
  show GW (sX D t ad) mi_X6_addBreak (acZ, S0, r0) x S1 7 _ [vI v2]
  refine g_if_eq (n := 10) C 26 (z_r32 hv2) dX6_addBreak_7 (by decide) rfl (fun (hc4 : v2 = 0) => ?_) (fun (hc4 : ¬ (v2 = 0)) => ?_)
  · rw [if_pos hc4] at h
    refine g_iconst (n := 27) C dX6_addBreak_26 rfl ?_
    exact g_zret C rfl (Or.inl rfl) h rfl (Or.inl rfl) hS1 dX6_addBreak_27
  · rw [if_neg hc4] at h
    refine g_aload_n (n := 11) C 0 dX6_addBreak_10 rfl rfl ?_
    refine g_getC (n := 14) C 4 3 rfl (Nat.le_of_ble_eq_true rfl) rfl rfl rfl (Nat.le_of_ble_eq_true rfl) in_X6_addBreak_X6 (by decide +kernel) dX6_addBreak_11 rfl ?_
    refine g_iload_n (n := 15) C 1 dX6_addBreak_14 rfl rfl ?_
    refine g_iload_n (n := 16) C 2 dX6_addBreak_15 rfl rfl ?_
    obtain ⟨S5, v6, hq7, h⟩ := cal_e h
    refine g_callV (n := 19) (As := [vI a0, vI a1]) (rest := []) C 7 2 (Nat.le_of_ble_eq_true rfl) rfl rfl (c_X0_add hS1 ha0 ha1 hq7) gX6_addBreak_X0_add rfl ⟨rfl, rfl⟩ (by decide +kernel) ⟨Nat.le_of_ble_eq_true rfl, Nat.le_of_ble_eq_true rfl⟩ rfl rfl rfl (Nat.le_of_ble_eq_true rfl) dX6_addBreak_16 rfl (fun hS5 hv6 => ?_)
    show GW (sX D t ad) mi_X6_addBreak (acZ, S0, r0) x S5 19 _ [vI v6]
    refine g_if_eq (n := 22) C 26 (z_r32 hv6) dX6_addBreak_19 (by decide) rfl (fun (hc8 : v6 = 0) => ?_) (fun (hc8 : ¬ (v6 = 0)) => ?_)
    · rw [if_pos hc8] at h
      refine g_iconst (n := 27) C dX6_addBreak_26 rfl ?_
      exact g_zret C rfl (Or.inl rfl) h rfl (Or.inl rfl) hS5 dX6_addBreak_27
    · rw [if_neg hc8] at h
      refine g_iconst (n := 23) C dX6_addBreak_22 rfl ?_
      refine g_goto C 27 dX6_addBreak_23 (by decide) ?_
      exact g_zret C rfl (Or.inr rfl) h rfl (Or.inr rfl) hS5 dX6_addBreak_27
-- RX6 breakLines
abbrev rm_X6_breakLines : Room := ({ frames := 1, cells := 0, slots := 0, locals := 23 } : Room)
abbrev mi_X6_breakLines : Mi := (cX6_breakLines, 3, RX6, wsX6_breakLines, rm_X6_breakLines, none)
set_option maxRecDepth 20000 in
theorem in_X6_breakLines_X3 : ∀ w ∈ u_ws RX3 TX3 6, w ∈ wsX6_breakLines := by decide +kernel
set_option maxRecDepth 20000 in
theorem in_X6_breakLines_X6 : ∀ w ∈ u_ws RX6 TX6 11, w ∈ wsX6_breakLines := by decide +kernel
def dn_X6_breakLines_2 : Nat → Int → St → Option (St × Int)
  | 0, _, _ => none
  | n + 1, x1, S => (if 12 ≤ x1 then some (S, 0) else (if 0 ≤ x1 ∧ x1 < 12 then (if S (x1.toNat + 18) 1 = 0 then (nmV (w32 (x1 + 1)) fun v4 => dn_X6_breakLines_2 n v4 S) else (cal (dn_X0_strike (S 4 6) x1 S) fun S5 v6 => (if v6 = 0 then (nmV (w32 (x1 + 1)) fun v9 => dn_X6_breakLines_2 n v9 S5) else (nmS (stU S5 (x1.toNat + 18) 2 1) fun S10 => (nmV (w32 (x1 + 1)) fun v11 => dn_X6_breakLines_2 n v11 S10))))) else none))
set_option maxRecDepth 100000 in
set_option maxHeartbeats 4000000 in
theorem u_X6_breakLines_2 {D : va_G} {t : T5} {ad : Nat → Nat} {S0 : St} {r0 : Int} {x : Mx} (C : CX (sX D t ad) mi_X6_breakLines x) : ∀ (n : Nat) (x1 : Int) (S : St), RS S → (r32 x1) → dn_X6_breakLines_2 n x1 S = some (S0, r0) → GW (sX D t ad) mi_X6_breakLines (acV, S0, r0) x S 2 [(0, .ref (ad 4)), (1, vI x1)] [] := by
  intro n
  induction n with
  | zero =>
    intro x1 S hS hx1 h
    cases h
  | succ n ih =>
    intro x1 S hS hx1 h
    rw [dn_X6_breakLines_2] at h
    refine g_iload_n (n := 3) C 1 dX6_breakLines_2 rfl rfl ?_
    refine g_bipush (n := 5) C dX6_breakLines_3 (by decide +kernel) rfl ?_
    refine g_icmp_ge (n := 8) C 48 hx1 (by decide : r32 12) dX6_breakLines_5 (by decide) rfl (fun (hc1 : 12 ≤ x1) => ?_) (fun (hc1 : ¬ (12 ≤ x1)) => ?_)
    · rw [if_pos hc1] at h
      exact g_vret C rfl h rfl trivial hS dX6_breakLines_48
    · rw [if_neg hc1] at h
      refine g_aload_n (n := 9) C 0 dX6_breakLines_8 rfl rfl ?_
      refine g_getC (n := 12) C 4 1 rfl (Nat.le_of_ble_eq_true rfl) rfl rfl rfl (Nat.le_of_ble_eq_true rfl) in_X6_breakLines_X6 (by decide +kernel) dX6_breakLines_9 rfl ?_
      refine g_iload_n (n := 13) C 1 dX6_breakLines_12 rfl rfl ?_
      obtain ⟨hg2, h⟩ := gd_e h
      refine g_rald (n := 14) C 5 rfl (Nat.le_of_ble_eq_true rfl) rfl (Or.inr rfl) rfl hg2 hx1 dX6_breakLines_13 rfl ?_
      refine g_rstore_n (n := 15) (lv' := [(2, vR ad 18 x1), (0, .ref (ad 4)), (1, vI x1)]) C dX6_breakLines_14 (Nat.le_of_ble_eq_true rfl) rfl rfl ?_
      refine g_rload_n (n := 16) C 0 dX6_breakLines_15 rfl rfl ?_
      refine g_getI (n := 19) C (x1.toNat + 18) 1 (vR_pos hg2.1) (tn_add hg2 (Nat.le_of_ble_eq_true rfl)) (dX_line (tn_lt hg2 (Nat.le_refl _))) rfl rfl (Nat.le_of_ble_eq_true rfl) in_X6_breakLines_X3 (by decide +kernel) dX6_breakLines_16 rfl ?_
      refine g_if_eq (n := 22) C 42 ((hS (x1.toNat + 18) 1).2 (by decide)) dX6_breakLines_19 (by decide) rfl (fun (hc3 : S (x1.toNat + 18) 1 = 0) => ?_) (fun (hc3 : ¬ (S (x1.toNat + 18) 1 = 0)) => ?_)
      · rw [if_pos hc3] at h
        obtain ⟨v4, ev4, h⟩ := nmV_e h
        have hv4 : r32 v4 := by rw [ev4]; exact w32_r _
        refine g_iinc (n := 45) (lv' := [(1, vI v4), (2, vR ad 18 x1), (0, .ref (ad 4))]) C 2 dX6_breakLines_42 rfl (Nat.le_of_ble_eq_true rfl) ev4 rfl rfl ?_
        refine g_goto C 2 dX6_breakLines_45 (by decide) ?_
        refine g_lv [2, 0] rfl ?_
        exact ih v4 S hS hv4 h
      · rw [if_neg hc3] at h
        refine g_aload_n (n := 23) C 1 dX6_breakLines_22 rfl rfl ?_
        refine g_getC (n := 26) C 4 3 rfl (Nat.le_of_ble_eq_true rfl) rfl rfl rfl (Nat.le_of_ble_eq_true rfl) in_X6_breakLines_X6 (by decide +kernel) dX6_breakLines_23 rfl ?_
        refine g_aload_n (n := 27) C 1 dX6_breakLines_26 rfl rfl ?_
        refine g_getI (n := 30) C 4 6 rfl (Nat.le_of_ble_eq_true rfl) rfl rfl rfl (Nat.le_of_ble_eq_true rfl) in_X6_breakLines_X6 (by decide +kernel) dX6_breakLines_27 rfl ?_
        refine g_iload_n (n := 31) C 2 dX6_breakLines_30 rfl rfl ?_
        obtain ⟨S5, v6, hq7, h⟩ := cal_e h
        refine g_callV (n := 34) (As := [vI (S 4 6), vI x1]) (rest := []) C 7 2 (Nat.le_of_ble_eq_true rfl) rfl rfl (c_X0_strike hS ((hS 4 6).2 (by decide)) hx1 hq7) gX6_breakLines_X0_strike rfl ⟨rfl, rfl⟩ (by decide +kernel) ⟨Nat.le_of_ble_eq_true rfl, Nat.le_of_ble_eq_true rfl⟩ rfl rfl rfl (Nat.le_of_ble_eq_true rfl) dX6_breakLines_31 rfl (fun hS5 hv6 => ?_)
        show GW (sX D t ad) mi_X6_breakLines (acV, S0, r0) x S5 34 _ [vI v6]
        refine g_if_eq (n := 37) C 42 (z_r32 hv6) dX6_breakLines_34 (by decide) rfl (fun (hc8 : v6 = 0) => ?_) (fun (hc8 : ¬ (v6 = 0)) => ?_)
        · rw [if_pos hc8] at h
          obtain ⟨v9, ev9, h⟩ := nmV_e h
          have hv9 : r32 v9 := by rw [ev9]; exact w32_r _
          refine g_iinc (n := 45) (lv' := [(1, vI v9), (2, vR ad 18 x1), (0, .ref (ad 4))]) C 2 dX6_breakLines_42 rfl (Nat.le_of_ble_eq_true rfl) ev9 rfl rfl ?_
          refine g_goto C 2 dX6_breakLines_45 (by decide) ?_
          refine g_lv [2, 0] rfl ?_
          exact ih v9 S5 hS5 hv9 h
        · rw [if_neg hc8] at h
          refine g_rload_n (n := 38) C 0 dX6_breakLines_37 rfl rfl ?_
          refine g_iconst (n := 39) C dX6_breakLines_38 rfl ?_
          obtain ⟨S10, eS10, h⟩ := nmS_e h
          have hS10 : RS S10 := by rw [eS10]; exact RS_i hS5 (by decide : r32 1)
          refine g_putZ (n := 42) C (x1.toNat + 18) 2 (vR_pos hg2.1) (tn_add hg2 (Nat.le_of_ble_eq_true rfl)) (dX_line (tn_lt hg2 (Nat.le_refl _))) rfl rfl (Nat.le_of_ble_eq_true rfl) in_X6_breakLines_X3 tyX3_ok nmX3 (by decide +kernel) rfl (by decide +kernel) (Nat.le_of_ble_eq_true rfl) (Or.inr rfl) eS10 dX6_breakLines_39 rfl ?_
          obtain ⟨v11, ev11, h⟩ := nmV_e h
          have hv11 : r32 v11 := by rw [ev11]; exact w32_r _
          refine g_iinc (n := 45) (lv' := [(1, vI v11), (2, vR ad 18 x1), (0, .ref (ad 4))]) C 2 dX6_breakLines_42 rfl (Nat.le_of_ble_eq_true rfl) ev11 rfl rfl ?_
          refine g_goto C 2 dX6_breakLines_45 (by decide) ?_
          refine g_lv [2, 0] rfl ?_
          exact ih v11 S10 hS10 hv11 h
def dn_X6_breakLines (S : St) : Option (St × Int) := dn_X6_breakLines_2 FU 0 S
set_option maxRecDepth 100000 in
set_option maxHeartbeats 4000000 in
theorem c_X6_breakLines {l : Launch} {D : va_G} {t : T5} {ad : Nat → Nat} {S S0 : St} {r0 : Int} (hS : RS S) (h : dn_X6_breakLines S = some (S0, r0)) : Mc l (sX D t ad) yX6_breakLines wsX6_breakLines rm_X6_breakLines [.ref (ad 4)] acV S S0 r0 := by
  refine Mc_of (cc := cX6_breakLines) (nL := 3) (ret := none) (by decide +kernel) rfl (Nat.le_of_ble_eq_true rfl) (lv := [(0, .ref (ad 4))]) rfl (fun x C _ => ?_)
  unfold dn_X6_breakLines at h
  show GW (sX D t ad) mi_X6_breakLines (acV, S0, r0) x S 0 [(0, .ref (ad 4))] []
  refine g_iconst (n := 1) C dX6_breakLines_0 rfl ?_
  refine g_istore_n (n := 2) (lv' := [(1, vI 0), (0, .ref (ad 4))]) C dX6_breakLines_1 (Nat.le_of_ble_eq_true rfl) rfl rfl rfl ?_
  refine g_lv [1, 0] rfl ?_
  exact u_X6_breakLines_2 C FU 0 S hS (by decide : r32 0) h
-- RX6 noteWait
abbrev rm_X6_noteWait : Room := ({ frames := 1, cells := 0, slots := 0, locals := 21 } : Room)
abbrev mi_X6_noteWait : Mi := (cX6_noteWait, 2, RX6, wsX6_noteWait, rm_X6_noteWait, none)
set_option maxRecDepth 20000 in
theorem in_X6_noteWait_X6 : ∀ w ∈ u_ws RX6 TX6 11, w ∈ wsX6_noteWait := by decide +kernel
def dn_X6_noteWait (a0 : Int) (S : St) : Option (St × Int) := (nmS (stU S 4 100008 (w64 ((S 4 100008) + a0))) fun S1 => (nmS (stU S1 4 9 (w32 ((S1 4 9) + 1))) fun S2 => (nmS (stU S2 4 10 (mxI (S2 4 10) a0)) fun S3 => some (S3, 0))))
set_option maxRecDepth 100000 in
set_option maxHeartbeats 4000000 in
theorem c_X6_noteWait {l : Launch} {D : va_G} {t : T5} {ad : Nat → Nat} {S S0 : St} {r0 : Int} {a0 : Int} (hS : RS S) (ha0 : r32 a0) (h : dn_X6_noteWait a0 S = some (S0, r0)) : Mc l (sX D t ad) yX6_noteWait wsX6_noteWait rm_X6_noteWait [.ref (ad 4), vI a0] acV S S0 r0 := by
  refine Mc_of (cc := cX6_noteWait) (nL := 2) (ret := none) (by decide +kernel) rfl (Nat.le_of_ble_eq_true rfl) (lv := [(0, .ref (ad 4)), (1, vI a0)]) rfl (fun x C _ => ?_)
  unfold dn_X6_noteWait at h
  show GW (sX D t ad) mi_X6_noteWait (acV, S0, r0) x S 0 [(0, .ref (ad 4)), (1, vI a0)] []
  refine g_aload_n (n := 1) C 0 dX6_noteWait_0 rfl rfl ?_
  refine g_dup (n := 2) C rfl dX6_noteWait_1 rfl ?_
  refine g_getJ (n := 5) C 4 8 rfl (Nat.le_of_ble_eq_true rfl) rfl rfl rfl (Nat.le_of_ble_eq_true rfl) in_X6_noteWait_X6 (by decide +kernel) dX6_noteWait_2 rfl ?_
  refine g_iload_n (n := 6) C 1 dX6_noteWait_5 rfl rfl ?_
  refine g_i2l (n := 7) C ha0 dX6_noteWait_6 rfl ?_
  refine g_ladd (n := 8) C dX6_noteWait_7 rfl ?_
  obtain ⟨S1, eS1, h⟩ := nmS_e h
  have hS1 : RS S1 := by rw [eS1]; exact RS_l hS (w64_r _) (by decide)
  refine g_putJ (n := 11) C 4 8 rfl (Nat.le_of_ble_eq_true rfl) rfl rfl rfl (Nat.le_of_ble_eq_true rfl) in_X6_noteWait_X6 tyX6_ok nmX6 (by decide +kernel) rfl (by decide +kernel) (Nat.le_of_ble_eq_true rfl) eS1 dX6_noteWait_8 rfl ?_
  refine g_aload_n (n := 12) C 0 dX6_noteWait_11 rfl rfl ?_
  refine g_dup (n := 13) C rfl dX6_noteWait_12 rfl ?_
  refine g_getI (n := 16) C 4 9 rfl (Nat.le_of_ble_eq_true rfl) rfl rfl rfl (Nat.le_of_ble_eq_true rfl) in_X6_noteWait_X6 (by decide +kernel) dX6_noteWait_13 rfl ?_
  refine g_iconst (n := 17) C dX6_noteWait_16 rfl ?_
  refine g_iadd (n := 18) C dX6_noteWait_17 rfl ?_
  obtain ⟨S2, eS2, h⟩ := nmS_e h
  have hS2 : RS S2 := by rw [eS2]; exact RS_i hS1 (w32_r _)
  refine g_putI (n := 21) C 4 9 rfl (Nat.le_of_ble_eq_true rfl) rfl rfl rfl (Nat.le_of_ble_eq_true rfl) in_X6_noteWait_X6 tyX6_ok nmX6 (by decide +kernel) rfl (by decide +kernel) (Nat.le_of_ble_eq_true rfl) eS2 dX6_noteWait_18 rfl ?_
  refine g_aload_n (n := 22) C 0 dX6_noteWait_21 rfl rfl ?_
  refine g_aload_n (n := 23) C 0 dX6_noteWait_22 rfl rfl ?_
  refine g_getI (n := 26) C 4 10 rfl (Nat.le_of_ble_eq_true rfl) rfl rfl rfl (Nat.le_of_ble_eq_true rfl) in_X6_noteWait_X6 (by decide +kernel) dX6_noteWait_23 rfl ?_
  refine g_iload_n (n := 27) C 1 dX6_noteWait_26 rfl rfl ?_
  refine g_max (n := 30) C ((hS2 4 10).2 (by decide)) ha0 (by decide +kernel) (by decide +kernel) (by decide +kernel) (by decide +kernel) ⟨(Nat.le_of_ble_eq_true rfl), (Nat.le_of_ble_eq_true rfl)⟩ dX6_noteWait_27 rfl ?_
  obtain ⟨S3, eS3, h⟩ := nmS_e h
  have hS3 : RS S3 := by rw [eS3]; exact RS_i hS2 (mxI_r ((hS2 4 10).2 (by decide)) ha0)
  refine g_putI (n := 33) C 4 10 rfl (Nat.le_of_ble_eq_true rfl) rfl rfl rfl (Nat.le_of_ble_eq_true rfl) in_X6_noteWait_X6 tyX6_ok nmX6 (by decide +kernel) rfl (by decide +kernel) (Nat.le_of_ble_eq_true rfl) eS3 dX6_noteWait_30 rfl ?_
  exact g_vret C rfl h rfl trivial hS3 dX6_noteWait_33
-- RX6 lend
abbrev rm_X6_lend : Room := ({ frames := 2, cells := 0, slots := 0, locals := 47 } : Room)
abbrev mi_X6_lend : Mi := (cX6_lend, 3, RX6, wsX6_lend, rm_X6_lend, none)
set_option maxRecDepth 20000 in
theorem in_X6_lend_X1 : ∀ w ∈ u_ws RX1 TX1 10, w ∈ wsX6_lend := by decide +kernel
set_option maxRecDepth 20000 in
theorem in_X6_lend_X3 : ∀ w ∈ u_ws RX3 TX3 6, w ∈ wsX6_lend := by decide +kernel
set_option maxRecDepth 20000 in
theorem in_X6_lend_X6 : ∀ w ∈ u_ws RX6 TX6 11, w ∈ wsX6_lend := by decide +kernel
def dn_X6_lend (a0 : Int) (a1 : Int) (S : St) : Option (St × Int) := (if 0 ≤ a0 ∧ a0 < 12 then (cal (dn_X3_lendTo a0 a1 (S 4 6) S) fun S2 v3 => (if 0 ≤ a1 ∧ a1 < 60 then (nmS (stU S2 (a1.toNat + 30) 6 3) fun S6 => (if S6 (a1.toNat + 30) 9 = 0 then (cal (dn_X6_noteWait (w32 ((S6 4 6) - (S6 (a1.toNat + 30) 5))) S6) fun S11 v12 => (cal (dn_X4_add 1 (S11 4 6) (a1.toNat : Int) (a0.toNat : Int) S11) fun S14 v15 => some (S14, 0))) else (cal (dn_X4_add 1 (S6 4 6) (a1.toNat : Int) (a0.toNat : Int) S6) fun S8 v9 => some (S8, 0)))) else none)) else none)
set_option maxRecDepth 100000 in
set_option maxHeartbeats 4000000 in
theorem c_X6_lend {l : Launch} {D : va_G} {t : T5} {ad : Nat → Nat} {S S0 : St} {r0 : Int} {a0 a1 : Int} (hS : RS S) (ha0 : -1 ≤ a0 ∧ a0 < (12 : Nat)) (ha1 : -1 ≤ a1 ∧ a1 < (60 : Nat)) (h : dn_X6_lend a0 a1 S = some (S0, r0)) : Mc l (sX D t ad) yX6_lend wsX6_lend rm_X6_lend [.ref (ad 4), vR ad 18 a0, vR ad 30 a1] acV S S0 r0 := by
  refine Mc_of (cc := cX6_lend) (nL := 3) (ret := none) (by decide +kernel) rfl (by simp [lg_sl, vR_cat, vI_cat, vJ_cat, rf_cat]) (lv := [(0, .ref (ad 4)), (1, vR ad 18 a0), (2, vR ad 30 a1)]) (by simp [lv_args, vR_cat, vI_cat, vJ_cat, rf_cat]) (fun x C _ => ?_)
  unfold dn_X6_lend at h
  show GW (sX D t ad) mi_X6_lend (acV, S0, r0) x S 0 [(0, .ref (ad 4)), (1, vR ad 18 a0), (2, vR ad 30 a1)] []
  refine g_rload_n (n := 1) C 1 dX6_lend_0 rfl rfl ?_
  refine g_rload_n (n := 2) C 2 dX6_lend_1 rfl rfl ?_
  refine g_aload_n (n := 3) C 0 dX6_lend_2 rfl rfl ?_
  refine g_getI (n := 6) C 4 6 rfl (Nat.le_of_ble_eq_true rfl) rfl rfl rfl (Nat.le_of_ble_eq_true rfl) in_X6_lend_X6 (by decide +kernel) dX6_lend_3 rfl ?_
  obtain ⟨hg1, h⟩ := gd_e h
  obtain ⟨S2, v3, hq4, h⟩ := cal_e h
  refine g_callV (n := 9) (As := [vR ad 30 a1, vI (S 4 6)]) (rest := []) C (a0.toNat + 18) 2 (tn_add hg1 (Nat.le_of_ble_eq_true rfl)) (dX_line (tn_lt hg1 (Nat.le_refl _))) rfl (c_X3_lendTo hS hg1 ha1 ((hS 4 6).2 (by decide)) hq4) gX6_lend_X3_lendTo rfl ⟨rfl, rfl⟩ (by decide +kernel) ⟨Nat.le_of_ble_eq_true rfl, Nat.le_of_ble_eq_true rfl⟩ (vR_pos hg1.1) rfl rfl (Nat.le_of_ble_eq_true rfl) dX6_lend_6 rfl (fun hS2 hv3 => ?_)
  show GW (sX D t ad) mi_X6_lend (acV, S0, r0) x S2 9 _ []
  refine g_rload_n (n := 10) C 2 dX6_lend_9 rfl rfl ?_
  refine g_iconst (n := 11) C dX6_lend_10 rfl ?_
  obtain ⟨hg5, h⟩ := gd_e h
  obtain ⟨S6, eS6, h⟩ := nmS_e h
  have hS6 : RS S6 := by rw [eS6]; exact RS_i hS2 (by decide : r32 3)
  refine g_putI (n := 14) C (a1.toNat + 30) 6 (vR_pos hg5.1) (tn_add hg5 (Nat.le_of_ble_eq_true rfl)) (dX_call (tn_lt hg5 (Nat.le_refl _))) rfl rfl (Nat.le_of_ble_eq_true rfl) in_X6_lend_X1 tyX1_ok nmX1 (by decide +kernel) rfl (by decide +kernel) (Nat.le_of_ble_eq_true rfl) eS6 dX6_lend_11 rfl ?_
  refine g_rload_n (n := 15) C 2 dX6_lend_14 rfl rfl ?_
  refine g_getI (n := 18) C (a1.toNat + 30) 9 (vR_pos hg5.1) (tn_add hg5 (Nat.le_of_ble_eq_true rfl)) (dX_call (tn_lt hg5 (Nat.le_refl _))) rfl rfl (Nat.le_of_ble_eq_true rfl) in_X6_lend_X1 (by decide +kernel) dX6_lend_15 rfl ?_
  refine g_if_ne (n := 21) C 34 ((hS6 (a1.toNat + 30) 9).2 (by decide)) dX6_lend_18 (by decide) rfl (fun (hc7 : ¬ (S6 (a1.toNat + 30) 9 = 0)) => ?_) (fun (hc7 : S6 (a1.toNat + 30) 9 = 0) => ?_)
  · rw [if_neg hc7] at h
    refine g_aload_n (n := 35) C 0 dX6_lend_34 rfl rfl ?_
    refine g_getC (n := 38) C 4 4 rfl (Nat.le_of_ble_eq_true rfl) rfl rfl rfl (Nat.le_of_ble_eq_true rfl) in_X6_lend_X6 (by decide +kernel) dX6_lend_35 rfl ?_
    refine g_iconst (n := 39) C dX6_lend_38 rfl ?_
    refine g_aload_n (n := 40) C 0 dX6_lend_39 rfl rfl ?_
    refine g_getI (n := 43) C 4 6 rfl (Nat.le_of_ble_eq_true rfl) rfl rfl rfl (Nat.le_of_ble_eq_true rfl) in_X6_lend_X6 (by decide +kernel) dX6_lend_40 rfl ?_
    refine g_rload_n (n := 44) C 2 dX6_lend_43 rfl rfl ?_
    refine g_getN (n := 47) C (a1.toNat + 30) 0 (vR_pos hg5.1) (tn_add hg5 (Nat.le_of_ble_eq_true rfl)) (dX_call (tn_lt hg5 (Nat.le_refl _))) rfl rfl (Nat.le_of_ble_eq_true rfl) in_X6_lend_X1 (by decide +kernel) dX6_lend_44 rfl ?_
    refine g_rload_n (n := 48) C 1 dX6_lend_47 rfl rfl ?_
    refine g_getN (n := 51) C (a0.toNat + 18) 0 (vR_pos hg1.1) (tn_add hg1 (Nat.le_of_ble_eq_true rfl)) (dX_line (tn_lt hg1 (Nat.le_refl _))) rfl rfl (Nat.le_of_ble_eq_true rfl) in_X6_lend_X3 (by decide +kernel) dX6_lend_48 rfl ?_
    obtain ⟨S8, v9, hq10, h⟩ := cal_e h
    refine g_callV (n := 54) (As := [vI 1, vI (S6 4 6), vI (a1.toNat : Int), vI (a0.toNat : Int)]) (rest := []) C 10 4 (Nat.le_of_ble_eq_true rfl) rfl rfl (c_X4_add hS6 (by decide : r32 1) ((hS6 4 6).2 (by decide)) (tn_r32 hg5 (by decide)) (tn_r32 hg1 (by decide)) hq10) gX6_lend_X4_add rfl ⟨rfl, rfl⟩ (by decide +kernel) ⟨Nat.le_of_ble_eq_true rfl, Nat.le_of_ble_eq_true rfl⟩ rfl rfl rfl (Nat.le_of_ble_eq_true rfl) dX6_lend_51 rfl (fun hS8 hv9 => ?_)
    show GW (sX D t ad) mi_X6_lend (acV, S0, r0) x S8 54 _ []
    exact g_vret C rfl h rfl trivial hS8 dX6_lend_54
  · rw [if_pos hc7] at h
    refine g_aload_n (n := 22) C 0 dX6_lend_21 rfl rfl ?_
    refine g_aload_n (n := 23) C 0 dX6_lend_22 rfl rfl ?_
    refine g_getI (n := 26) C 4 6 rfl (Nat.le_of_ble_eq_true rfl) rfl rfl rfl (Nat.le_of_ble_eq_true rfl) in_X6_lend_X6 (by decide +kernel) dX6_lend_23 rfl ?_
    refine g_rload_n (n := 27) C 2 dX6_lend_26 rfl rfl ?_
    refine g_getI (n := 30) C (a1.toNat + 30) 5 (vR_pos hg5.1) (tn_add hg5 (Nat.le_of_ble_eq_true rfl)) (dX_call (tn_lt hg5 (Nat.le_refl _))) rfl rfl (Nat.le_of_ble_eq_true rfl) in_X6_lend_X1 (by decide +kernel) dX6_lend_27 rfl ?_
    refine g_isub (n := 31) C dX6_lend_30 rfl ?_
    obtain ⟨S11, v12, hq13, h⟩ := cal_e h
    refine g_callV (n := 34) (As := [vI (w32 ((S6 4 6) - (S6 (a1.toNat + 30) 5)))]) (rest := []) C 4 1 (Nat.le_of_ble_eq_true rfl) rfl rfl (c_X6_noteWait hS6 (w32_r _) hq13) gX6_lend_X6_noteWait rfl ⟨rfl, rfl⟩ (by decide +kernel) ⟨Nat.le_of_ble_eq_true rfl, Nat.le_of_ble_eq_true rfl⟩ rfl rfl rfl (Nat.le_of_ble_eq_true rfl) dX6_lend_31 rfl (fun hS11 hv12 => ?_)
    show GW (sX D t ad) mi_X6_lend (acV, S0, r0) x S11 34 _ []
    refine g_aload_n (n := 35) C 0 dX6_lend_34 rfl rfl ?_
    refine g_getC (n := 38) C 4 4 rfl (Nat.le_of_ble_eq_true rfl) rfl rfl rfl (Nat.le_of_ble_eq_true rfl) in_X6_lend_X6 (by decide +kernel) dX6_lend_35 rfl ?_
    refine g_iconst (n := 39) C dX6_lend_38 rfl ?_
    refine g_aload_n (n := 40) C 0 dX6_lend_39 rfl rfl ?_
    refine g_getI (n := 43) C 4 6 rfl (Nat.le_of_ble_eq_true rfl) rfl rfl rfl (Nat.le_of_ble_eq_true rfl) in_X6_lend_X6 (by decide +kernel) dX6_lend_40 rfl ?_
    refine g_rload_n (n := 44) C 2 dX6_lend_43 rfl rfl ?_
    refine g_getN (n := 47) C (a1.toNat + 30) 0 (vR_pos hg5.1) (tn_add hg5 (Nat.le_of_ble_eq_true rfl)) (dX_call (tn_lt hg5 (Nat.le_refl _))) rfl rfl (Nat.le_of_ble_eq_true rfl) in_X6_lend_X1 (by decide +kernel) dX6_lend_44 rfl ?_
    refine g_rload_n (n := 48) C 1 dX6_lend_47 rfl rfl ?_
    refine g_getN (n := 51) C (a0.toNat + 18) 0 (vR_pos hg1.1) (tn_add hg1 (Nat.le_of_ble_eq_true rfl)) (dX_line (tn_lt hg1 (Nat.le_refl _))) rfl rfl (Nat.le_of_ble_eq_true rfl) in_X6_lend_X3 (by decide +kernel) dX6_lend_48 rfl ?_
    obtain ⟨S14, v15, hq16, h⟩ := cal_e h
    refine g_callV (n := 54) (As := [vI 1, vI (S11 4 6), vI (a1.toNat : Int), vI (a0.toNat : Int)]) (rest := []) C 10 4 (Nat.le_of_ble_eq_true rfl) rfl rfl (c_X4_add hS11 (by decide : r32 1) ((hS11 4 6).2 (by decide)) (tn_r32 hg5 (by decide)) (tn_r32 hg1 (by decide)) hq16) gX6_lend_X4_add rfl ⟨rfl, rfl⟩ (by decide +kernel) ⟨Nat.le_of_ble_eq_true rfl, Nat.le_of_ble_eq_true rfl⟩ rfl rfl rfl (Nat.le_of_ble_eq_true rfl) dX6_lend_51 rfl (fun hS14 hv15 => ?_)
    show GW (sX D t ad) mi_X6_lend (acV, S0, r0) x S14 54 _ []
    exact g_vret C rfl h rfl trivial hS14 dX6_lend_54
-- RX6 drop
abbrev rm_X6_drop : Room := ({ frames := 2, cells := 0, slots := 0, locals := 47 } : Room)
abbrev mi_X6_drop : Mi := (cX6_drop, 2, RX6, wsX6_drop, rm_X6_drop, none)
set_option maxRecDepth 20000 in
theorem in_X6_drop_X3 : ∀ w ∈ u_ws RX3 TX3 6, w ∈ wsX6_drop := by decide +kernel
set_option maxRecDepth 20000 in
theorem in_X6_drop_X6 : ∀ w ∈ u_ws RX6 TX6 11, w ∈ wsX6_drop := by decide +kernel
def dn_X6_drop (a0 : Int) (S : St) : Option (St × Int) := (if 0 ≤ a0 ∧ a0 < 12 then (cal (dn_X3_vanish a0 S) fun S2 v3 => (cal (dn_X4_add 7 (S2 4 6) (-1) (a0.toNat : Int) S2) fun S5 v6 => some (S5, 0))) else none)
set_option maxRecDepth 100000 in
set_option maxHeartbeats 4000000 in
theorem c_X6_drop {l : Launch} {D : va_G} {t : T5} {ad : Nat → Nat} {S S0 : St} {r0 : Int} {a0 : Int} (hS : RS S) (ha0 : -1 ≤ a0 ∧ a0 < (12 : Nat)) (h : dn_X6_drop a0 S = some (S0, r0)) : Mc l (sX D t ad) yX6_drop wsX6_drop rm_X6_drop [.ref (ad 4), vR ad 18 a0] acV S S0 r0 := by
  refine Mc_of (cc := cX6_drop) (nL := 2) (ret := none) (by decide +kernel) rfl (by simp [lg_sl, vR_cat, vI_cat, vJ_cat, rf_cat]) (lv := [(0, .ref (ad 4)), (1, vR ad 18 a0)]) (by simp [lv_args, vR_cat, vI_cat, vJ_cat, rf_cat]) (fun x C _ => ?_)
  unfold dn_X6_drop at h
  show GW (sX D t ad) mi_X6_drop (acV, S0, r0) x S 0 [(0, .ref (ad 4)), (1, vR ad 18 a0)] []
  refine g_rload_n (n := 1) C 1 dX6_drop_0 rfl rfl ?_
  obtain ⟨hg1, h⟩ := gd_e h
  obtain ⟨S2, v3, hq4, h⟩ := cal_e h
  refine g_callV (n := 4) (As := []) (rest := []) C (a0.toNat + 18) 0 (tn_add hg1 (Nat.le_of_ble_eq_true rfl)) (dX_line (tn_lt hg1 (Nat.le_refl _))) rfl (c_X3_vanish hS hg1 hq4) gX6_drop_X3_vanish rfl ⟨rfl, rfl⟩ (by decide +kernel) ⟨Nat.le_of_ble_eq_true rfl, Nat.le_of_ble_eq_true rfl⟩ (vR_pos hg1.1) rfl rfl (Nat.le_of_ble_eq_true rfl) dX6_drop_1 rfl (fun hS2 hv3 => ?_)
  show GW (sX D t ad) mi_X6_drop (acV, S0, r0) x S2 4 _ []
  refine g_aload_n (n := 5) C 0 dX6_drop_4 rfl rfl ?_
  refine g_getC (n := 8) C 4 4 rfl (Nat.le_of_ble_eq_true rfl) rfl rfl rfl (Nat.le_of_ble_eq_true rfl) in_X6_drop_X6 (by decide +kernel) dX6_drop_5 rfl ?_
  refine g_bipush (n := 10) C dX6_drop_8 (by decide +kernel) rfl ?_
  refine g_aload_n (n := 11) C 0 dX6_drop_10 rfl rfl ?_
  refine g_getI (n := 14) C 4 6 rfl (Nat.le_of_ble_eq_true rfl) rfl rfl rfl (Nat.le_of_ble_eq_true rfl) in_X6_drop_X6 (by decide +kernel) dX6_drop_11 rfl ?_
  refine g_iconst (n := 15) C dX6_drop_14 rfl ?_
  refine g_rload_n (n := 16) C 1 dX6_drop_15 rfl rfl ?_
  refine g_getN (n := 19) C (a0.toNat + 18) 0 (vR_pos hg1.1) (tn_add hg1 (Nat.le_of_ble_eq_true rfl)) (dX_line (tn_lt hg1 (Nat.le_refl _))) rfl rfl (Nat.le_of_ble_eq_true rfl) in_X6_drop_X3 (by decide +kernel) dX6_drop_16 rfl ?_
  obtain ⟨S5, v6, hq7, h⟩ := cal_e h
  refine g_callV (n := 22) (As := [vI 7, vI (S2 4 6), vI (-1), vI (a0.toNat : Int)]) (rest := []) C 10 4 (Nat.le_of_ble_eq_true rfl) rfl rfl (c_X4_add hS2 (by decide : r32 7) ((hS2 4 6).2 (by decide)) (by decide : r32 (-1)) (tn_r32 hg1 (by decide)) hq7) gX6_drop_X4_add rfl ⟨rfl, rfl⟩ (by decide +kernel) ⟨Nat.le_of_ble_eq_true rfl, Nat.le_of_ble_eq_true rfl⟩ rfl rfl rfl (Nat.le_of_ble_eq_true rfl) dX6_drop_19 rfl (fun hS5 hv6 => ?_)
  show GW (sX D t ad) mi_X6_drop (acV, S0, r0) x S5 22 _ []
  exact g_vret C rfl h rfl trivial hS5 dX6_drop_22
-- RX6 endStep
abbrev rm_X6_endStep : Room := ({ frames := 3, cells := 0, slots := 0, locals := 69 } : Room)
abbrev mi_X6_endStep : Mi := (cX6_endStep, 3, RX6, wsX6_endStep, rm_X6_endStep, none)
set_option maxRecDepth 20000 in
theorem in_X6_endStep_X1 : ∀ w ∈ u_ws RX1 TX1 10, w ∈ wsX6_endStep := by decide +kernel
set_option maxRecDepth 20000 in
theorem in_X6_endStep_X3 : ∀ w ∈ u_ws RX3 TX3 6, w ∈ wsX6_endStep := by decide +kernel
set_option maxRecDepth 20000 in
theorem in_X6_endStep_X6 : ∀ w ∈ u_ws RX6 TX6 11, w ∈ wsX6_endStep := by decide +kernel
def dn_X6_endStep (a0 : Int) (S : St) : Option (St × Int) := (if 0 ≤ a0 ∧ a0 < 12 then (if S (a0.toNat + 18) 3 < 0 then (cal (dn_X3_idleFrom a0 (S 4 6) S) fun S13 v14 => some (S13, 0)) else (if S (a0.toNat + 18) 2 = 0 then (if -1 ≤ S (a0.toNat + 18) 3 ∧ S (a0.toNat + 18) 3 < 60 then (cal (dn_X6_lend a0 (S (a0.toNat + 18) 3) S) fun S5 v6 => some (S5, 0)) else none) else (cal (dn_X6_drop a0 S) fun S8 v9 => (if 0 ≤ S (a0.toNat + 18) 3 ∧ S (a0.toNat + 18) 3 < 60 then (nmS (stU S8 ((S (a0.toNat + 18) 3).toNat + 30) 6 1) fun S12 => some (S12, 0)) else none)))) else none)
set_option maxRecDepth 100000 in
set_option maxHeartbeats 4000000 in
theorem c_X6_endStep {l : Launch} {D : va_G} {t : T5} {ad : Nat → Nat} {S S0 : St} {r0 : Int} {a0 : Int} (hS : RS S) (ha0 : -1 ≤ a0 ∧ a0 < (12 : Nat)) (h : dn_X6_endStep a0 S = some (S0, r0)) : Mc l (sX D t ad) yX6_endStep wsX6_endStep rm_X6_endStep [.ref (ad 4), vR ad 18 a0] acV S S0 r0 := by
  refine Mc_of (cc := cX6_endStep) (nL := 3) (ret := none) (by decide +kernel) rfl (by simp [lg_sl, vR_cat, vI_cat, vJ_cat, rf_cat]) (lv := [(0, .ref (ad 4)), (1, vR ad 18 a0)]) (by simp [lv_args, vR_cat, vI_cat, vJ_cat, rf_cat]) (fun x C _ => ?_)
  unfold dn_X6_endStep at h
  show GW (sX D t ad) mi_X6_endStep (acV, S0, r0) x S 0 [(0, .ref (ad 4)), (1, vR ad 18 a0)] []
  refine g_rload_n (n := 1) C 1 dX6_endStep_0 rfl rfl ?_
  obtain ⟨hg1, h⟩ := gd_e h
  refine g_getF (n := 4) C (a0.toNat + 18) 3 (vR_pos hg1.1) (tn_add hg1 (Nat.le_of_ble_eq_true rfl)) (dX_line (tn_lt hg1 (Nat.le_refl _))) rfl rfl (Nat.le_of_ble_eq_true rfl) in_X6_endStep_X3 (by decide +kernel) dX6_endStep_1 rfl ?_
  refine g_rstore_n (n := 5) (lv' := [(2, vR ad 30 (S (a0.toNat + 18) 3)), (0, .ref (ad 4)), (1, vR ad 18 a0)]) C dX6_endStep_4 (Nat.le_of_ble_eq_true rfl) (by simp [vR_cat, vI_cat, vJ_cat, rf_cat] <;> decide) rfl ?_
  refine g_rload_n (n := 6) C 0 dX6_endStep_5 rfl rfl ?_
  refine g_ifnonnull (n := 9) C 20 dX6_endStep_6 (by decide) rfl (fun (hc2 : ¬ (S (a0.toNat + 18) 3 < 0)) => ?_) (fun (hc2 : S (a0.toNat + 18) 3 < 0) => ?_)
  · rw [if_neg hc2] at h
    refine g_rload_n (n := 21) C 2 dX6_endStep_20 rfl rfl ?_
    refine g_getI (n := 24) C (a0.toNat + 18) 2 (vR_pos hg1.1) (tn_add hg1 (Nat.le_of_ble_eq_true rfl)) (dX_line (tn_lt hg1 (Nat.le_refl _))) rfl rfl (Nat.le_of_ble_eq_true rfl) in_X6_endStep_X3 (by decide +kernel) dX6_endStep_21 rfl ?_
    refine g_if_eq (n := 27) C 40 ((hS (a0.toNat + 18) 2).2 (by decide)) dX6_endStep_24 (by decide) rfl (fun (hc3 : S (a0.toNat + 18) 2 = 0) => ?_) (fun (hc3 : ¬ (S (a0.toNat + 18) 2 = 0)) => ?_)
    · rw [if_pos hc3] at h
      refine g_aload_n (n := 41) C 1 dX6_endStep_40 rfl rfl ?_
      refine g_rload_n (n := 42) C 2 dX6_endStep_41 rfl rfl ?_
      refine g_rload_n (n := 43) C 0 dX6_endStep_42 rfl rfl ?_
      obtain ⟨hg4, h⟩ := gd_e h
      obtain ⟨S5, v6, hq7, h⟩ := cal_e h
      refine g_callV (n := 46) (As := [vR ad 18 a0, vR ad 30 (S (a0.toNat + 18) 3)]) (rest := []) C 4 2 (Nat.le_of_ble_eq_true rfl) rfl rfl (c_X6_lend hS ha0 hg4 hq7) gX6_endStep_X6_lend rfl ⟨rfl, rfl⟩ (by decide +kernel) ⟨Nat.le_of_ble_eq_true rfl, Nat.le_of_ble_eq_true rfl⟩ rfl rfl rfl (Nat.le_of_ble_eq_true rfl) dX6_endStep_43 rfl (fun hS5 hv6 => ?_)
      show GW (sX D t ad) mi_X6_endStep (acV, S0, r0) x S5 46 _ []
      exact g_vret C rfl h rfl trivial hS5 dX6_endStep_46
    · rw [if_neg hc3] at h
      refine g_aload_n (n := 28) C 1 dX6_endStep_27 rfl rfl ?_
      refine g_rload_n (n := 29) C 2 dX6_endStep_28 rfl rfl ?_
      obtain ⟨S8, v9, hq10, h⟩ := cal_e h
      refine g_callV (n := 32) (As := [vR ad 18 a0]) (rest := []) C 4 1 (Nat.le_of_ble_eq_true rfl) rfl rfl (c_X6_drop hS ha0 hq10) gX6_endStep_X6_drop rfl ⟨rfl, rfl⟩ (by decide +kernel) ⟨Nat.le_of_ble_eq_true rfl, Nat.le_of_ble_eq_true rfl⟩ rfl rfl rfl (Nat.le_of_ble_eq_true rfl) dX6_endStep_29 rfl (fun hS8 hv9 => ?_)
      show GW (sX D t ad) mi_X6_endStep (acV, S0, r0) x S8 32 _ []
      refine g_rload_n (n := 33) C 0 dX6_endStep_32 rfl rfl ?_
      refine g_iconst (n := 34) C dX6_endStep_33 rfl ?_
      obtain ⟨hg11, h⟩ := gd_e h
      obtain ⟨S12, eS12, h⟩ := nmS_e h
      have hS12 : RS S12 := by rw [eS12]; exact RS_i hS8 (by decide : r32 1)
      refine g_putI (n := 37) C ((S (a0.toNat + 18) 3).toNat + 30) 6 (vR_pos hg11.1) (tn_add hg11 (Nat.le_of_ble_eq_true rfl)) (dX_call (tn_lt hg11 (Nat.le_refl _))) rfl rfl (Nat.le_of_ble_eq_true rfl) in_X6_endStep_X1 tyX1_ok nmX1 (by decide +kernel) rfl (by decide +kernel) (Nat.le_of_ble_eq_true rfl) eS12 dX6_endStep_34 rfl ?_
      refine g_goto C 46 dX6_endStep_37 (by decide) ?_
      exact g_vret C rfl h rfl trivial hS12 dX6_endStep_46
  · rw [if_pos hc2] at h
    refine g_rload_n (n := 10) C 2 dX6_endStep_9 rfl rfl ?_
    refine g_aload_n (n := 11) C 1 dX6_endStep_10 rfl rfl ?_
    refine g_getI (n := 14) C 4 6 rfl (Nat.le_of_ble_eq_true rfl) rfl rfl rfl (Nat.le_of_ble_eq_true rfl) in_X6_endStep_X6 (by decide +kernel) dX6_endStep_11 rfl ?_
    obtain ⟨S13, v14, hq15, h⟩ := cal_e h
    refine g_callV (n := 17) (As := [vI (S 4 6)]) (rest := []) C (a0.toNat + 18) 1 (tn_add hg1 (Nat.le_of_ble_eq_true rfl)) (dX_line (tn_lt hg1 (Nat.le_refl _))) rfl (c_X3_idleFrom hS hg1 ((hS 4 6).2 (by decide)) hq15) gX6_endStep_X3_idleFrom rfl ⟨rfl, rfl⟩ (by decide +kernel) ⟨Nat.le_of_ble_eq_true rfl, Nat.le_of_ble_eq_true rfl⟩ (vR_pos hg1.1) rfl rfl (Nat.le_of_ble_eq_true rfl) dX6_endStep_14 rfl (fun hS13 hv14 => ?_)
    show GW (sX D t ad) mi_X6_endStep (acV, S0, r0) x S13 17 _ []
    refine g_goto C 46 dX6_endStep_17 (by decide) ?_
    exact g_vret C rfl h rfl trivial hS13 dX6_endStep_46
-- RX6 advanceLines
abbrev rm_X6_advanceLines : Room := ({ frames := 4, cells := 0, slots := 0, locals := 91 } : Room)
abbrev mi_X6_advanceLines : Mi := (cX6_advanceLines, 3, RX6, wsX6_advanceLines, rm_X6_advanceLines, none)
set_option maxRecDepth 20000 in
theorem in_X6_advanceLines_X3 : ∀ w ∈ u_ws RX3 TX3 6, w ∈ wsX6_advanceLines := by decide +kernel
set_option maxRecDepth 20000 in
theorem in_X6_advanceLines_X6 : ∀ w ∈ u_ws RX6 TX6 11, w ∈ wsX6_advanceLines := by decide +kernel
def dn_X6_advanceLines_31 (k2 : Int → St → Option (St × Int)) (x1 : Int) (x2 : Int) (S : St) : Option (St × Int) := (if 0 ≤ x2 ∧ x2 < 12 then (nmS (stU S (x2.toNat + 18) 4 (w32 ((S (x2.toNat + 18) 4) - 1))) fun S5 => (if 0 < S5 (x2.toNat + 18) 4 then (nmV (w32 (x1 + 1)) fun v7 => k2 v7 S5) else (cal (dn_X6_endStep x2 S5) fun S8 v9 => (nmV (w32 (x1 + 1)) fun v11 => k2 v11 S8)))) else none)
set_option maxRecDepth 100000 in
set_option maxHeartbeats 4000000 in
theorem u_X6_advanceLines_31 {D : va_G} {t : T5} {ad : Nat → Nat} {S0 : St} {r0 : Int} {x : Mx} (C : CX (sX D t ad) mi_X6_advanceLines x) {k2 : Int → St → Option (St × Int)} (hk2 : ∀ (x1 : Int) (S : St), RS S → (r32 x1) → k2 x1 S = some (S0, r0) → GW (sX D t ad) mi_X6_advanceLines (acV, S0, r0) x S 2 [(0, .ref (ad 4)), (1, vI x1)] []) : ∀ (x1 : Int) (x2 : Int) (S : St), RS S → (r32 x1) → (-1 ≤ x2 ∧ x2 < (12 : Nat)) → dn_X6_advanceLines_31 k2 x1 x2 S = some (S0, r0) → GW (sX D t ad) mi_X6_advanceLines (acV, S0, r0) x S 31 [(0, .ref (ad 4)), (1, vI x1), (2, vR ad 18 x2)] [] := by
  intro x1 x2 S hS hx1 hx2 h
  unfold dn_X6_advanceLines_31 at h
  refine g_rload_n (n := 32) C 2 dX6_advanceLines_31 rfl rfl ?_
  refine g_dup (n := 33) C vR_cat dX6_advanceLines_32 rfl ?_
  obtain ⟨hg4, h⟩ := gd_e h
  refine g_getI (n := 36) C (x2.toNat + 18) 4 (vR_pos hg4.1) (tn_add hg4 (Nat.le_of_ble_eq_true rfl)) (dX_line (tn_lt hg4 (Nat.le_refl _))) rfl rfl (Nat.le_of_ble_eq_true rfl) in_X6_advanceLines_X3 (by decide +kernel) dX6_advanceLines_33 rfl ?_
  refine g_iconst (n := 37) C dX6_advanceLines_36 rfl ?_
  refine g_isub (n := 38) C dX6_advanceLines_37 rfl ?_
  obtain ⟨S5, eS5, h⟩ := nmS_e h
  have hS5 : RS S5 := by rw [eS5]; exact RS_i hS (w32_r _)
  refine g_putI (n := 41) C (x2.toNat + 18) 4 (vR_pos hg4.1) (tn_add hg4 (Nat.le_of_ble_eq_true rfl)) (dX_line (tn_lt hg4 (Nat.le_refl _))) rfl rfl (Nat.le_of_ble_eq_true rfl) in_X6_advanceLines_X3 tyX3_ok nmX3 (by decide +kernel) rfl (by decide +kernel) (Nat.le_of_ble_eq_true rfl) eS5 dX6_advanceLines_38 rfl ?_
  refine g_rload_n (n := 42) C 2 dX6_advanceLines_41 rfl rfl ?_
  refine g_getI (n := 45) C (x2.toNat + 18) 4 (vR_pos hg4.1) (tn_add hg4 (Nat.le_of_ble_eq_true rfl)) (dX_line (tn_lt hg4 (Nat.le_refl _))) rfl rfl (Nat.le_of_ble_eq_true rfl) in_X6_advanceLines_X3 (by decide +kernel) dX6_advanceLines_42 rfl ?_
  refine g_if_gt (n := 48) C 53 ((hS5 (x2.toNat + 18) 4).2 (by decide)) dX6_advanceLines_45 (by decide) rfl (fun (hc6 : 0 < S5 (x2.toNat + 18) 4) => ?_) (fun (hc6 : ¬ (0 < S5 (x2.toNat + 18) 4)) => ?_)
  · rw [if_pos hc6] at h
    obtain ⟨v7, ev7, h⟩ := nmV_e h
    have hv7 : r32 v7 := by rw [ev7]; exact w32_r _
    refine g_iinc (n := 56) (lv' := [(1, vI v7), (0, .ref (ad 4)), (2, vR ad 18 x2)]) C 1 dX6_advanceLines_53 rfl (Nat.le_of_ble_eq_true rfl) ev7 rfl rfl ?_
    refine g_goto C 2 dX6_advanceLines_56 (by decide) ?_
    refine g_lv [1, 0] rfl ?_
    exact hk2 v7 S5 hS5 hv7 h
  · rw [if_neg hc6] at h
    refine g_aload_n (n := 49) C 0 dX6_advanceLines_48 rfl rfl ?_
    refine g_rload_n (n := 50) C 2 dX6_advanceLines_49 rfl rfl ?_
    obtain ⟨S8, v9, hq10, h⟩ := cal_e h
    refine g_callV (n := 53) (As := [vR ad 18 x2]) (rest := []) C 4 1 (Nat.le_of_ble_eq_true rfl) rfl rfl (c_X6_endStep hS5 hx2 hq10) gX6_advanceLines_X6_endStep rfl ⟨rfl, rfl⟩ (by decide +kernel) ⟨Nat.le_of_ble_eq_true rfl, Nat.le_of_ble_eq_true rfl⟩ rfl rfl rfl (Nat.le_of_ble_eq_true rfl) dX6_advanceLines_50 rfl (fun hS8 hv9 => ?_)
    show GW (sX D t ad) mi_X6_advanceLines (acV, S0, r0) x S8 53 _ []
    obtain ⟨v11, ev11, h⟩ := nmV_e h
    have hv11 : r32 v11 := by rw [ev11]; exact w32_r _
    refine g_iinc (n := 56) (lv' := [(1, vI v11), (0, .ref (ad 4)), (2, vR ad 18 x2)]) C 1 dX6_advanceLines_53 rfl (Nat.le_of_ble_eq_true rfl) ev11 rfl rfl ?_
    refine g_goto C 2 dX6_advanceLines_56 (by decide) ?_
    refine g_lv [1, 0] rfl ?_
    exact hk2 v11 S8 hS8 hv11 h
def dn_X6_advanceLines_2 : Nat → Int → St → Option (St × Int)
  | 0, _, _ => none
  | n + 1, x1, S => (if 12 ≤ x1 then some (S, 0) else (if 0 ≤ x1 ∧ x1 < 12 then (if S (x1.toNat + 18) 1 = 1 then dn_X6_advanceLines_31 (fun x1_ S_ => dn_X6_advanceLines_2 n x1_ S_) x1 x1 S else (if S (x1.toNat + 18) 1 = 3 then dn_X6_advanceLines_31 (fun x1_ S_ => dn_X6_advanceLines_2 n x1_ S_) x1 x1 S else (nmV (w32 (x1 + 1)) fun v13 => dn_X6_advanceLines_2 n v13 S))) else none))
set_option maxRecDepth 100000 in
set_option maxHeartbeats 4000000 in
theorem u_X6_advanceLines_2 {D : va_G} {t : T5} {ad : Nat → Nat} {S0 : St} {r0 : Int} {x : Mx} (C : CX (sX D t ad) mi_X6_advanceLines x) : ∀ (n : Nat) (x1 : Int) (S : St), RS S → (r32 x1) → dn_X6_advanceLines_2 n x1 S = some (S0, r0) → GW (sX D t ad) mi_X6_advanceLines (acV, S0, r0) x S 2 [(0, .ref (ad 4)), (1, vI x1)] [] := by
  intro n
  induction n with
  | zero =>
    intro x1 S hS hx1 h
    cases h
  | succ n ih =>
    intro x1 S hS hx1 h
    rw [dn_X6_advanceLines_2] at h
    refine g_iload_n (n := 3) C 1 dX6_advanceLines_2 rfl rfl ?_
    refine g_bipush (n := 5) C dX6_advanceLines_3 (by decide +kernel) rfl ?_
    refine g_icmp_ge (n := 8) C 59 hx1 (by decide : r32 12) dX6_advanceLines_5 (by decide) rfl (fun (hc1 : 12 ≤ x1) => ?_) (fun (hc1 : ¬ (12 ≤ x1)) => ?_)
    · rw [if_pos hc1] at h
      exact g_vret C rfl h rfl trivial hS dX6_advanceLines_59
    · rw [if_neg hc1] at h
      refine g_aload_n (n := 9) C 0 dX6_advanceLines_8 rfl rfl ?_
      refine g_getC (n := 12) C 4 1 rfl (Nat.le_of_ble_eq_true rfl) rfl rfl rfl (Nat.le_of_ble_eq_true rfl) in_X6_advanceLines_X6 (by decide +kernel) dX6_advanceLines_9 rfl ?_
      refine g_iload_n (n := 13) C 1 dX6_advanceLines_12 rfl rfl ?_
      obtain ⟨hg2, h⟩ := gd_e h
      refine g_rald (n := 14) C 5 rfl (Nat.le_of_ble_eq_true rfl) rfl (Or.inr rfl) rfl hg2 hx1 dX6_advanceLines_13 rfl ?_
      refine g_rstore_n (n := 15) (lv' := [(2, vR ad 18 x1), (0, .ref (ad 4)), (1, vI x1)]) C dX6_advanceLines_14 (Nat.le_of_ble_eq_true rfl) rfl rfl ?_
      refine g_rload_n (n := 16) C 0 dX6_advanceLines_15 rfl rfl ?_
      refine g_getI (n := 19) C (x1.toNat + 18) 1 (vR_pos hg2.1) (tn_add hg2 (Nat.le_of_ble_eq_true rfl)) (dX_line (tn_lt hg2 (Nat.le_refl _))) rfl rfl (Nat.le_of_ble_eq_true rfl) in_X6_advanceLines_X3 (by decide +kernel) dX6_advanceLines_16 rfl ?_
      refine g_iconst (n := 20) C dX6_advanceLines_19 rfl ?_
      refine g_icmp_eq (n := 23) C 31 ((hS (x1.toNat + 18) 1).2 (by decide)) (by decide : r32 1) dX6_advanceLines_20 (by decide) rfl (fun (hc3 : S (x1.toNat + 18) 1 = 1) => ?_) (fun (hc3 : ¬ (S (x1.toNat + 18) 1 = 1)) => ?_)
      · rw [if_pos hc3] at h
        refine g_lv [1, 2, 0] rfl ?_
        exact u_X6_advanceLines_31 C ih x1 x1 S hS hx1 (ix_rg hg2) h
      · rw [if_neg hc3] at h
        refine g_rload_n (n := 24) C 0 dX6_advanceLines_23 rfl rfl ?_
        refine g_getI (n := 27) C (x1.toNat + 18) 1 (vR_pos hg2.1) (tn_add hg2 (Nat.le_of_ble_eq_true rfl)) (dX_line (tn_lt hg2 (Nat.le_refl _))) rfl rfl (Nat.le_of_ble_eq_true rfl) in_X6_advanceLines_X3 (by decide +kernel) dX6_advanceLines_24 rfl ?_
        refine g_iconst (n := 28) C dX6_advanceLines_27 rfl ?_
        refine g_icmp_ne (n := 31) C 53 ((hS (x1.toNat + 18) 1).2 (by decide)) (by decide : r32 3) dX6_advanceLines_28 (by decide) rfl (fun (hc12 : ¬ (S (x1.toNat + 18) 1 = 3)) => ?_) (fun (hc12 : S (x1.toNat + 18) 1 = 3) => ?_)
        · rw [if_neg hc12] at h
          obtain ⟨v13, ev13, h⟩ := nmV_e h
          have hv13 : r32 v13 := by rw [ev13]; exact w32_r _
          refine g_iinc (n := 56) (lv' := [(1, vI v13), (2, vR ad 18 x1), (0, .ref (ad 4))]) C 2 dX6_advanceLines_53 rfl (Nat.le_of_ble_eq_true rfl) ev13 rfl rfl ?_
          refine g_goto C 2 dX6_advanceLines_56 (by decide) ?_
          refine g_lv [2, 0] rfl ?_
          exact ih v13 S hS hv13 h
        · rw [if_pos hc12] at h
          refine g_lv [1, 2, 0] rfl ?_
          exact u_X6_advanceLines_31 C ih x1 x1 S hS hx1 (ix_rg hg2) h
def dn_X6_advanceLines (S : St) : Option (St × Int) := dn_X6_advanceLines_2 FU 0 S
set_option maxRecDepth 100000 in
set_option maxHeartbeats 4000000 in
theorem c_X6_advanceLines {l : Launch} {D : va_G} {t : T5} {ad : Nat → Nat} {S S0 : St} {r0 : Int} (hS : RS S) (h : dn_X6_advanceLines S = some (S0, r0)) : Mc l (sX D t ad) yX6_advanceLines wsX6_advanceLines rm_X6_advanceLines [.ref (ad 4)] acV S S0 r0 := by
  refine Mc_of (cc := cX6_advanceLines) (nL := 3) (ret := none) (by decide +kernel) rfl (Nat.le_of_ble_eq_true rfl) (lv := [(0, .ref (ad 4))]) rfl (fun x C _ => ?_)
  unfold dn_X6_advanceLines at h
  show GW (sX D t ad) mi_X6_advanceLines (acV, S0, r0) x S 0 [(0, .ref (ad 4))] []
  refine g_iconst (n := 1) C dX6_advanceLines_0 rfl ?_
  refine g_istore_n (n := 2) (lv' := [(1, vI 0), (0, .ref (ad 4))]) C dX6_advanceLines_1 (Nat.le_of_ble_eq_true rfl) rfl rfl rfl ?_
  refine g_lv [1, 0] rfl ?_
  exact u_X6_advanceLines_2 C FU 0 S hS (by decide : r32 0) h
-- RX6 hasBroken
abbrev rm_X6_hasBroken : Room := ({ frames := 0, cells := 0, slots := 0, locals := 0 } : Room)
abbrev mi_X6_hasBroken : Mi := (cX6_hasBroken, 3, RX6, wsX6_hasBroken, rm_X6_hasBroken, (some .boolean))
set_option maxRecDepth 20000 in
theorem in_X6_hasBroken_X3 : ∀ w ∈ u_ws RX3 TX3 6, w ∈ wsX6_hasBroken := by decide +kernel
set_option maxRecDepth 20000 in
theorem in_X6_hasBroken_X6 : ∀ w ∈ u_ws RX6 TX6 11, w ∈ wsX6_hasBroken := by decide +kernel
def dn_X6_hasBroken_2 : Nat → Int → Int → St → Option (St × Int)
  | 0, _, _, _ => none
  | n + 1, x1, x2, S => (if 12 ≤ x2 then some (S, 0) else (if 0 ≤ x2 ∧ x2 < 12 then (if -1 ≤ S (x2.toNat + 18) 3 ∧ S (x2.toNat + 18) 3 < 60 then (if S (x2.toNat + 18) 3 = x1 then (if S (x2.toNat + 18) 2 = 0 then (nmV (w32 (x2 + 1)) fun v7 => dn_X6_hasBroken_2 n x1 v7 S) else some (S, 1)) else (nmV (w32 (x2 + 1)) fun v5 => dn_X6_hasBroken_2 n x1 v5 S)) else none) else none))
set_option maxRecDepth 100000 in
set_option maxHeartbeats 4000000 in
theorem u_X6_hasBroken_2 {D : va_G} {t : T5} {ad : Nat → Nat} {S0 : St} {r0 : Int} {x : Mx} (C : CX (sX D t ad) mi_X6_hasBroken x) : ∀ (n : Nat) (x1 : Int) (x2 : Int) (S : St), RS S → (-1 ≤ x1 ∧ x1 < (60 : Nat)) → (r32 x2) → dn_X6_hasBroken_2 n x1 x2 S = some (S0, r0) → GW (sX D t ad) mi_X6_hasBroken (acZ, S0, r0) x S 2 [(0, .ref (ad 4)), (1, vR ad 30 x1), (2, vI x2)] [] := by
  intro n
  induction n with
  | zero =>
    intro x1 x2 S hS hx1 hx2 h
    cases h
  | succ n ih =>
    intro x1 x2 S hS hx1 hx2 h
    rw [dn_X6_hasBroken_2] at h
    refine g_iload_n (n := 3) C 2 dX6_hasBroken_2 rfl rfl ?_
    refine g_bipush (n := 5) C dX6_hasBroken_3 (by decide +kernel) rfl ?_
    refine g_icmp_ge (n := 8) C 41 hx2 (by decide : r32 12) dX6_hasBroken_5 (by decide) rfl (fun (hc1 : 12 ≤ x2) => ?_) (fun (hc1 : ¬ (12 ≤ x2)) => ?_)
    · rw [if_pos hc1] at h
      refine g_iconst (n := 42) C dX6_hasBroken_41 rfl ?_
      exact g_zret C rfl (Or.inl rfl) h rfl (Or.inl rfl) hS dX6_hasBroken_42
    · rw [if_neg hc1] at h
      refine g_aload_n (n := 9) C 0 dX6_hasBroken_8 rfl rfl ?_
      refine g_getC (n := 12) C 4 1 rfl (Nat.le_of_ble_eq_true rfl) rfl rfl rfl (Nat.le_of_ble_eq_true rfl) in_X6_hasBroken_X6 (by decide +kernel) dX6_hasBroken_9 rfl ?_
      refine g_iload_n (n := 13) C 2 dX6_hasBroken_12 rfl rfl ?_
      obtain ⟨hg2, h⟩ := gd_e h
      refine g_rald (n := 14) C 5 rfl (Nat.le_of_ble_eq_true rfl) rfl (Or.inr rfl) rfl hg2 hx2 dX6_hasBroken_13 rfl ?_
      refine g_getF (n := 17) C (x2.toNat + 18) 3 (vR_pos hg2.1) (tn_add hg2 (Nat.le_of_ble_eq_true rfl)) (dX_line (tn_lt hg2 (Nat.le_refl _))) rfl rfl (Nat.le_of_ble_eq_true rfl) in_X6_hasBroken_X3 (by decide +kernel) dX6_hasBroken_14 rfl ?_
      refine g_rload_n (n := 18) C 1 dX6_hasBroken_17 rfl rfl ?_
      obtain ⟨hg3, h⟩ := gd_e h
      refine g_acmp_ne (n := 21) C 35 60 (Nat.le_of_ble_eq_true rfl) hg3 hx1 dX6_hasBroken_18 (by decide) rfl (fun (hc4 : ¬ (S (x2.toNat + 18) 3 = x1)) => ?_) (fun (hc4 : S (x2.toNat + 18) 3 = x1) => ?_)
      · rw [if_neg hc4] at h
        obtain ⟨v5, ev5, h⟩ := nmV_e h
        have hv5 : r32 v5 := by rw [ev5]; exact w32_r _
        refine g_iinc (n := 38) (lv' := [(2, vI v5), (0, .ref (ad 4)), (1, vR ad 30 x1)]) C 2 dX6_hasBroken_35 rfl (Nat.le_of_ble_eq_true rfl) ev5 (by simp [vR_cat, vI_cat, vJ_cat, rf_cat] <;> decide) rfl ?_
        refine g_goto C 2 dX6_hasBroken_38 (by decide) ?_
        refine g_lv [1, 2, 0] rfl ?_
        exact ih x1 v5 S hS hx1 hv5 h
      · rw [if_pos hc4] at h
        refine g_aload_n (n := 22) C 0 dX6_hasBroken_21 rfl rfl ?_
        refine g_getC (n := 25) C 4 1 rfl (Nat.le_of_ble_eq_true rfl) rfl rfl rfl (Nat.le_of_ble_eq_true rfl) in_X6_hasBroken_X6 (by decide +kernel) dX6_hasBroken_22 rfl ?_
        refine g_iload_n (n := 26) C 2 dX6_hasBroken_25 rfl rfl ?_
        refine g_rald (n := 27) C 5 rfl (Nat.le_of_ble_eq_true rfl) rfl (Or.inr rfl) rfl hg2 hx2 dX6_hasBroken_26 rfl ?_
        refine g_getI (n := 30) C (x2.toNat + 18) 2 (vR_pos hg2.1) (tn_add hg2 (Nat.le_of_ble_eq_true rfl)) (dX_line (tn_lt hg2 (Nat.le_refl _))) rfl rfl (Nat.le_of_ble_eq_true rfl) in_X6_hasBroken_X3 (by decide +kernel) dX6_hasBroken_27 rfl ?_
        refine g_if_eq (n := 33) C 35 ((hS (x2.toNat + 18) 2).2 (by decide)) dX6_hasBroken_30 (by decide) rfl (fun (hc6 : S (x2.toNat + 18) 2 = 0) => ?_) (fun (hc6 : ¬ (S (x2.toNat + 18) 2 = 0)) => ?_)
        · rw [if_pos hc6] at h
          obtain ⟨v7, ev7, h⟩ := nmV_e h
          have hv7 : r32 v7 := by rw [ev7]; exact w32_r _
          refine g_iinc (n := 38) (lv' := [(2, vI v7), (0, .ref (ad 4)), (1, vR ad 30 x1)]) C 2 dX6_hasBroken_35 rfl (Nat.le_of_ble_eq_true rfl) ev7 (by simp [vR_cat, vI_cat, vJ_cat, rf_cat] <;> decide) rfl ?_
          refine g_goto C 2 dX6_hasBroken_38 (by decide) ?_
          refine g_lv [1, 2, 0] rfl ?_
          exact ih x1 v7 S hS hx1 hv7 h
        · rw [if_neg hc6] at h
          refine g_iconst (n := 34) C dX6_hasBroken_33 rfl ?_
          exact g_zret C rfl (Or.inr rfl) h rfl (Or.inr rfl) hS dX6_hasBroken_34
def dn_X6_hasBroken (a0 : Int) (S : St) : Option (St × Int) := dn_X6_hasBroken_2 FU a0 0 S
set_option maxRecDepth 100000 in
set_option maxHeartbeats 4000000 in
theorem c_X6_hasBroken {l : Launch} {D : va_G} {t : T5} {ad : Nat → Nat} {S S0 : St} {r0 : Int} {a0 : Int} (hS : RS S) (ha0 : -1 ≤ a0 ∧ a0 < (60 : Nat)) (h : dn_X6_hasBroken a0 S = some (S0, r0)) : Mc l (sX D t ad) yX6_hasBroken wsX6_hasBroken rm_X6_hasBroken [.ref (ad 4), vR ad 30 a0] acZ S S0 r0 := by
  refine Mc_of (cc := cX6_hasBroken) (nL := 3) (ret := (some .boolean)) (by decide +kernel) rfl (by simp [lg_sl, vR_cat, vI_cat, vJ_cat, rf_cat]) (lv := [(0, .ref (ad 4)), (1, vR ad 30 a0)]) (by simp [lv_args, vR_cat, vI_cat, vJ_cat, rf_cat]) (fun x C _ => ?_)
  unfold dn_X6_hasBroken at h
  show GW (sX D t ad) mi_X6_hasBroken (acZ, S0, r0) x S 0 [(0, .ref (ad 4)), (1, vR ad 30 a0)] []
  refine g_iconst (n := 1) C dX6_hasBroken_0 rfl ?_
  refine g_istore_n (n := 2) (lv' := [(2, vI 0), (0, .ref (ad 4)), (1, vR ad 30 a0)]) C dX6_hasBroken_1 (Nat.le_of_ble_eq_true rfl) rfl (by simp [vR_cat, vI_cat, vJ_cat, rf_cat] <;> decide) rfl ?_
  refine g_lv [1, 2, 0] rfl ?_
  exact u_X6_hasBroken_2 C FU a0 0 S hS ha0 (by decide : r32 0) h
-- RX6 leave
abbrev rm_X6_leave : Room := ({ frames := 2, cells := 0, slots := 0, locals := 47 } : Room)
abbrev mi_X6_leave : Mi := (cX6_leave, 4, RX6, wsX6_leave, rm_X6_leave, none)
set_option maxRecDepth 20000 in
theorem in_X6_leave_X1 : ∀ w ∈ u_ws RX1 TX1 10, w ∈ wsX6_leave := by decide +kernel
set_option maxRecDepth 20000 in
theorem in_X6_leave_X6 : ∀ w ∈ u_ws RX6 TX6 11, w ∈ wsX6_leave := by decide +kernel
def dn_X6_leave (a0 : Int) (a1 : Int) (a2 : Int) (S : St) : Option (St × Int) := (if 0 ≤ a0 ∧ a0 < 60 then (nmS (stU S (a0.toNat + 30) 6 a1) fun S2 => (cal (dn_X4_add a2 (S2 4 6) (a0.toNat : Int) (-1) S2) fun S3 v4 => some (S3, 0))) else none)
set_option maxRecDepth 100000 in
set_option maxHeartbeats 4000000 in
theorem c_X6_leave {l : Launch} {D : va_G} {t : T5} {ad : Nat → Nat} {S S0 : St} {r0 : Int} {a0 a1 a2 : Int} (hS : RS S) (ha0 : -1 ≤ a0 ∧ a0 < (60 : Nat)) (ha1 : r32 a1) (ha2 : r32 a2) (h : dn_X6_leave a0 a1 a2 S = some (S0, r0)) : Mc l (sX D t ad) yX6_leave wsX6_leave rm_X6_leave [.ref (ad 4), vR ad 30 a0, vI a1, vI a2] acV S S0 r0 := by
  refine Mc_of (cc := cX6_leave) (nL := 4) (ret := none) (by decide +kernel) rfl (by simp [lg_sl, vR_cat, vI_cat, vJ_cat, rf_cat]) (lv := [(0, .ref (ad 4)), (1, vR ad 30 a0), (2, vI a1), (3, vI a2)]) (by simp [lv_args, vR_cat, vI_cat, vJ_cat, rf_cat]) (fun x C _ => ?_)
  unfold dn_X6_leave at h
  show GW (sX D t ad) mi_X6_leave (acV, S0, r0) x S 0 [(0, .ref (ad 4)), (1, vR ad 30 a0), (2, vI a1), (3, vI a2)] []
  refine g_rload_n (n := 1) C 1 dX6_leave_0 rfl rfl ?_
  refine g_iload_n (n := 2) C 2 dX6_leave_1 rfl rfl ?_
  obtain ⟨hg1, h⟩ := gd_e h
  obtain ⟨S2, eS2, h⟩ := nmS_e h
  have hS2 : RS S2 := by rw [eS2]; exact RS_i hS ha1
  refine g_putI (n := 5) C (a0.toNat + 30) 6 (vR_pos hg1.1) (tn_add hg1 (Nat.le_of_ble_eq_true rfl)) (dX_call (tn_lt hg1 (Nat.le_refl _))) rfl rfl (Nat.le_of_ble_eq_true rfl) in_X6_leave_X1 tyX1_ok nmX1 (by decide +kernel) rfl (by decide +kernel) (Nat.le_of_ble_eq_true rfl) eS2 dX6_leave_2 rfl ?_
  refine g_aload_n (n := 6) C 0 dX6_leave_5 rfl rfl ?_
  refine g_getC (n := 9) C 4 4 rfl (Nat.le_of_ble_eq_true rfl) rfl rfl rfl (Nat.le_of_ble_eq_true rfl) in_X6_leave_X6 (by decide +kernel) dX6_leave_6 rfl ?_
  refine g_iload_n (n := 10) C 3 dX6_leave_9 rfl rfl ?_
  refine g_aload_n (n := 11) C 0 dX6_leave_10 rfl rfl ?_
  refine g_getI (n := 14) C 4 6 rfl (Nat.le_of_ble_eq_true rfl) rfl rfl rfl (Nat.le_of_ble_eq_true rfl) in_X6_leave_X6 (by decide +kernel) dX6_leave_11 rfl ?_
  refine g_rload_n (n := 15) C 1 dX6_leave_14 rfl rfl ?_
  refine g_getN (n := 18) C (a0.toNat + 30) 0 (vR_pos hg1.1) (tn_add hg1 (Nat.le_of_ble_eq_true rfl)) (dX_call (tn_lt hg1 (Nat.le_refl _))) rfl rfl (Nat.le_of_ble_eq_true rfl) in_X6_leave_X1 (by decide +kernel) dX6_leave_15 rfl ?_
  refine g_iconst (n := 19) C dX6_leave_18 rfl ?_
  obtain ⟨S3, v4, hq5, h⟩ := cal_e h
  refine g_callV (n := 22) (As := [vI a2, vI (S2 4 6), vI (a0.toNat : Int), vI (-1)]) (rest := []) C 10 4 (Nat.le_of_ble_eq_true rfl) rfl rfl (c_X4_add hS2 ha2 ((hS2 4 6).2 (by decide)) (tn_r32 hg1 (by decide)) (by decide : r32 (-1)) hq5) gX6_leave_X4_add rfl ⟨rfl, rfl⟩ (by decide +kernel) ⟨Nat.le_of_ble_eq_true rfl, Nat.le_of_ble_eq_true rfl⟩ rfl rfl rfl (Nat.le_of_ble_eq_true rfl) dX6_leave_19 rfl (fun hS3 hv4 => ?_)
  show GW (sX D t ad) mi_X6_leave (acV, S0, r0) x S3 22 _ []
  exact g_vret C rfl h rfl trivial hS3 dX6_leave_22
-- RX6 dropBroken
abbrev rm_X6_dropBroken : Room := ({ frames := 3, cells := 0, slots := 0, locals := 68 } : Room)
abbrev mi_X6_dropBroken : Mi := (cX6_dropBroken, 3, RX6, wsX6_dropBroken, rm_X6_dropBroken, none)
set_option maxRecDepth 20000 in
theorem in_X6_dropBroken_X3 : ∀ w ∈ u_ws RX3 TX3 6, w ∈ wsX6_dropBroken := by decide +kernel
set_option maxRecDepth 20000 in
theorem in_X6_dropBroken_X6 : ∀ w ∈ u_ws RX6 TX6 11, w ∈ wsX6_dropBroken := by decide +kernel
def dn_X6_dropBroken_2 : Nat → Int → Int → St → Option (St × Int)
  | 0, _, _, _ => none
  | n + 1, x1, x2, S => (if 12 ≤ x2 then some (S, 0) else (if 0 ≤ x2 ∧ x2 < 12 then (if -1 ≤ S (x2.toNat + 18) 3 ∧ S (x2.toNat + 18) 3 < 60 then (if S (x2.toNat + 18) 3 = x1 then (if S (x2.toNat + 18) 2 = 0 then (nmV (w32 (x2 + 1)) fun v7 => dn_X6_dropBroken_2 n x1 v7 S) else (cal (dn_X6_drop x2 S) fun S8 v9 => (nmV (w32 (x2 + 1)) fun v11 => dn_X6_dropBroken_2 n x1 v11 S8))) else (nmV (w32 (x2 + 1)) fun v5 => dn_X6_dropBroken_2 n x1 v5 S)) else none) else none))
set_option maxRecDepth 100000 in
set_option maxHeartbeats 4000000 in
theorem u_X6_dropBroken_2 {D : va_G} {t : T5} {ad : Nat → Nat} {S0 : St} {r0 : Int} {x : Mx} (C : CX (sX D t ad) mi_X6_dropBroken x) : ∀ (n : Nat) (x1 : Int) (x2 : Int) (S : St), RS S → (-1 ≤ x1 ∧ x1 < (60 : Nat)) → (r32 x2) → dn_X6_dropBroken_2 n x1 x2 S = some (S0, r0) → GW (sX D t ad) mi_X6_dropBroken (acV, S0, r0) x S 2 [(0, .ref (ad 4)), (1, vR ad 30 x1), (2, vI x2)] [] := by
  intro n
  induction n with
  | zero =>
    intro x1 x2 S hS hx1 hx2 h
    cases h
  | succ n ih =>
    intro x1 x2 S hS hx1 hx2 h
    rw [dn_X6_dropBroken_2] at h
    refine g_iload_n (n := 3) C 2 dX6_dropBroken_2 rfl rfl ?_
    refine g_bipush (n := 5) C dX6_dropBroken_3 (by decide +kernel) rfl ?_
    refine g_icmp_ge (n := 8) C 49 hx2 (by decide : r32 12) dX6_dropBroken_5 (by decide) rfl (fun (hc1 : 12 ≤ x2) => ?_) (fun (hc1 : ¬ (12 ≤ x2)) => ?_)
    · rw [if_pos hc1] at h
      exact g_vret C rfl h rfl trivial hS dX6_dropBroken_49
    · rw [if_neg hc1] at h
      refine g_aload_n (n := 9) C 0 dX6_dropBroken_8 rfl rfl ?_
      refine g_getC (n := 12) C 4 1 rfl (Nat.le_of_ble_eq_true rfl) rfl rfl rfl (Nat.le_of_ble_eq_true rfl) in_X6_dropBroken_X6 (by decide +kernel) dX6_dropBroken_9 rfl ?_
      refine g_iload_n (n := 13) C 2 dX6_dropBroken_12 rfl rfl ?_
      obtain ⟨hg2, h⟩ := gd_e h
      refine g_rald (n := 14) C 5 rfl (Nat.le_of_ble_eq_true rfl) rfl (Or.inr rfl) rfl hg2 hx2 dX6_dropBroken_13 rfl ?_
      refine g_getF (n := 17) C (x2.toNat + 18) 3 (vR_pos hg2.1) (tn_add hg2 (Nat.le_of_ble_eq_true rfl)) (dX_line (tn_lt hg2 (Nat.le_refl _))) rfl rfl (Nat.le_of_ble_eq_true rfl) in_X6_dropBroken_X3 (by decide +kernel) dX6_dropBroken_14 rfl ?_
      refine g_rload_n (n := 18) C 1 dX6_dropBroken_17 rfl rfl ?_
      obtain ⟨hg3, h⟩ := gd_e h
      refine g_acmp_ne (n := 21) C 43 60 (Nat.le_of_ble_eq_true rfl) hg3 hx1 dX6_dropBroken_18 (by decide) rfl (fun (hc4 : ¬ (S (x2.toNat + 18) 3 = x1)) => ?_) (fun (hc4 : S (x2.toNat + 18) 3 = x1) => ?_)
      · rw [if_neg hc4] at h
        obtain ⟨v5, ev5, h⟩ := nmV_e h
        have hv5 : r32 v5 := by rw [ev5]; exact w32_r _
        refine g_iinc (n := 46) (lv' := [(2, vI v5), (0, .ref (ad 4)), (1, vR ad 30 x1)]) C 2 dX6_dropBroken_43 rfl (Nat.le_of_ble_eq_true rfl) ev5 (by simp [vR_cat, vI_cat, vJ_cat, rf_cat] <;> decide) rfl ?_
        refine g_goto C 2 dX6_dropBroken_46 (by decide) ?_
        refine g_lv [1, 2, 0] rfl ?_
        exact ih x1 v5 S hS hx1 hv5 h
      · rw [if_pos hc4] at h
        refine g_aload_n (n := 22) C 0 dX6_dropBroken_21 rfl rfl ?_
        refine g_getC (n := 25) C 4 1 rfl (Nat.le_of_ble_eq_true rfl) rfl rfl rfl (Nat.le_of_ble_eq_true rfl) in_X6_dropBroken_X6 (by decide +kernel) dX6_dropBroken_22 rfl ?_
        refine g_iload_n (n := 26) C 2 dX6_dropBroken_25 rfl rfl ?_
        refine g_rald (n := 27) C 5 rfl (Nat.le_of_ble_eq_true rfl) rfl (Or.inr rfl) rfl hg2 hx2 dX6_dropBroken_26 rfl ?_
        refine g_getI (n := 30) C (x2.toNat + 18) 2 (vR_pos hg2.1) (tn_add hg2 (Nat.le_of_ble_eq_true rfl)) (dX_line (tn_lt hg2 (Nat.le_refl _))) rfl rfl (Nat.le_of_ble_eq_true rfl) in_X6_dropBroken_X3 (by decide +kernel) dX6_dropBroken_27 rfl ?_
        refine g_if_eq (n := 33) C 43 ((hS (x2.toNat + 18) 2).2 (by decide)) dX6_dropBroken_30 (by decide) rfl (fun (hc6 : S (x2.toNat + 18) 2 = 0) => ?_) (fun (hc6 : ¬ (S (x2.toNat + 18) 2 = 0)) => ?_)
        · rw [if_pos hc6] at h
          obtain ⟨v7, ev7, h⟩ := nmV_e h
          have hv7 : r32 v7 := by rw [ev7]; exact w32_r _
          refine g_iinc (n := 46) (lv' := [(2, vI v7), (0, .ref (ad 4)), (1, vR ad 30 x1)]) C 2 dX6_dropBroken_43 rfl (Nat.le_of_ble_eq_true rfl) ev7 (by simp [vR_cat, vI_cat, vJ_cat, rf_cat] <;> decide) rfl ?_
          refine g_goto C 2 dX6_dropBroken_46 (by decide) ?_
          refine g_lv [1, 2, 0] rfl ?_
          exact ih x1 v7 S hS hx1 hv7 h
        · rw [if_neg hc6] at h
          refine g_aload_n (n := 34) C 0 dX6_dropBroken_33 rfl rfl ?_
          refine g_aload_n (n := 35) C 0 dX6_dropBroken_34 rfl rfl ?_
          refine g_getC (n := 38) C 4 1 rfl (Nat.le_of_ble_eq_true rfl) rfl rfl rfl (Nat.le_of_ble_eq_true rfl) in_X6_dropBroken_X6 (by decide +kernel) dX6_dropBroken_35 rfl ?_
          refine g_iload_n (n := 39) C 2 dX6_dropBroken_38 rfl rfl ?_
          refine g_rald (n := 40) C 5 rfl (Nat.le_of_ble_eq_true rfl) rfl (Or.inr rfl) rfl hg2 hx2 dX6_dropBroken_39 rfl ?_
          obtain ⟨S8, v9, hq10, h⟩ := cal_e h
          refine g_callV (n := 43) (As := [vR ad 18 x2]) (rest := []) C 4 1 (Nat.le_of_ble_eq_true rfl) rfl rfl (c_X6_drop hS (ix_rg hg2) hq10) gX6_dropBroken_X6_drop rfl ⟨rfl, rfl⟩ (by decide +kernel) ⟨Nat.le_of_ble_eq_true rfl, Nat.le_of_ble_eq_true rfl⟩ rfl rfl rfl (Nat.le_of_ble_eq_true rfl) dX6_dropBroken_40 rfl (fun hS8 hv9 => ?_)
          show GW (sX D t ad) mi_X6_dropBroken (acV, S0, r0) x S8 43 _ []
          obtain ⟨v11, ev11, h⟩ := nmV_e h
          have hv11 : r32 v11 := by rw [ev11]; exact w32_r _
          refine g_iinc (n := 46) (lv' := [(2, vI v11), (0, .ref (ad 4)), (1, vR ad 30 x1)]) C 2 dX6_dropBroken_43 rfl (Nat.le_of_ble_eq_true rfl) ev11 (by simp [vR_cat, vI_cat, vJ_cat, rf_cat] <;> decide) rfl ?_
          refine g_goto C 2 dX6_dropBroken_46 (by decide) ?_
          refine g_lv [1, 2, 0] rfl ?_
          exact ih x1 v11 S8 hS8 hx1 hv11 h
def dn_X6_dropBroken (a0 : Int) (S : St) : Option (St × Int) := dn_X6_dropBroken_2 FU a0 0 S
set_option maxRecDepth 100000 in
set_option maxHeartbeats 4000000 in
theorem c_X6_dropBroken {l : Launch} {D : va_G} {t : T5} {ad : Nat → Nat} {S S0 : St} {r0 : Int} {a0 : Int} (hS : RS S) (ha0 : -1 ≤ a0 ∧ a0 < (60 : Nat)) (h : dn_X6_dropBroken a0 S = some (S0, r0)) : Mc l (sX D t ad) yX6_dropBroken wsX6_dropBroken rm_X6_dropBroken [.ref (ad 4), vR ad 30 a0] acV S S0 r0 := by
  refine Mc_of (cc := cX6_dropBroken) (nL := 3) (ret := none) (by decide +kernel) rfl (by simp [lg_sl, vR_cat, vI_cat, vJ_cat, rf_cat]) (lv := [(0, .ref (ad 4)), (1, vR ad 30 a0)]) (by simp [lv_args, vR_cat, vI_cat, vJ_cat, rf_cat]) (fun x C _ => ?_)
  unfold dn_X6_dropBroken at h
  show GW (sX D t ad) mi_X6_dropBroken (acV, S0, r0) x S 0 [(0, .ref (ad 4)), (1, vR ad 30 a0)] []
  refine g_iconst (n := 1) C dX6_dropBroken_0 rfl ?_
  refine g_istore_n (n := 2) (lv' := [(2, vI 0), (0, .ref (ad 4)), (1, vR ad 30 a0)]) C dX6_dropBroken_1 (Nat.le_of_ble_eq_true rfl) rfl (by simp [vR_cat, vI_cat, vJ_cat, rf_cat] <;> decide) rfl ?_
  refine g_lv [1, 2, 0] rfl ?_
  exact u_X6_dropBroken_2 C FU a0 0 S hS ha0 (by decide : r32 0) h
-- RX6 giveBack
abbrev rm_X6_giveBack : Room := ({ frames := 2, cells := 0, slots := 0, locals := 45 } : Room)
abbrev mi_X6_giveBack : Mi := (cX6_giveBack, 3, RX6, wsX6_giveBack, rm_X6_giveBack, none)
set_option maxRecDepth 20000 in
theorem in_X6_giveBack_X3 : ∀ w ∈ u_ws RX3 TX3 6, w ∈ wsX6_giveBack := by decide +kernel
set_option maxRecDepth 20000 in
theorem in_X6_giveBack_X6 : ∀ w ∈ u_ws RX6 TX6 11, w ∈ wsX6_giveBack := by decide +kernel
def dn_X6_giveBack_2 : Nat → Int → Int → St → Option (St × Int)
  | 0, _, _, _ => none
  | n + 1, x1, x2, S => (if 12 ≤ x2 then some (S, 0) else (if 0 ≤ x2 ∧ x2 < 12 then (if -1 ≤ S (x2.toNat + 18) 3 ∧ S (x2.toNat + 18) 3 < 60 then (if S (x2.toNat + 18) 3 = x1 then (cal (dn_X3_idleFrom x2 (S 4 6) S) fun S6 v7 => (nmV (w32 (x2 + 1)) fun v9 => dn_X6_giveBack_2 n x1 v9 S6)) else (nmV (w32 (x2 + 1)) fun v5 => dn_X6_giveBack_2 n x1 v5 S)) else none) else none))
set_option maxRecDepth 100000 in
set_option maxHeartbeats 4000000 in
theorem u_X6_giveBack_2 {D : va_G} {t : T5} {ad : Nat → Nat} {S0 : St} {r0 : Int} {x : Mx} (C : CX (sX D t ad) mi_X6_giveBack x) : ∀ (n : Nat) (x1 : Int) (x2 : Int) (S : St), RS S → (-1 ≤ x1 ∧ x1 < (60 : Nat)) → (r32 x2) → dn_X6_giveBack_2 n x1 x2 S = some (S0, r0) → GW (sX D t ad) mi_X6_giveBack (acV, S0, r0) x S 2 [(0, .ref (ad 4)), (1, vR ad 30 x1), (2, vI x2)] [] := by
  intro n
  induction n with
  | zero =>
    intro x1 x2 S hS hx1 hx2 h
    cases h
  | succ n ih =>
    intro x1 x2 S hS hx1 hx2 h
    rw [dn_X6_giveBack_2] at h
    refine g_iload_n (n := 3) C 2 dX6_giveBack_2 rfl rfl ?_
    refine g_bipush (n := 5) C dX6_giveBack_3 (by decide +kernel) rfl ?_
    refine g_icmp_ge (n := 8) C 40 hx2 (by decide : r32 12) dX6_giveBack_5 (by decide) rfl (fun (hc1 : 12 ≤ x2) => ?_) (fun (hc1 : ¬ (12 ≤ x2)) => ?_)
    · rw [if_pos hc1] at h
      exact g_vret C rfl h rfl trivial hS dX6_giveBack_40
    · rw [if_neg hc1] at h
      refine g_aload_n (n := 9) C 0 dX6_giveBack_8 rfl rfl ?_
      refine g_getC (n := 12) C 4 1 rfl (Nat.le_of_ble_eq_true rfl) rfl rfl rfl (Nat.le_of_ble_eq_true rfl) in_X6_giveBack_X6 (by decide +kernel) dX6_giveBack_9 rfl ?_
      refine g_iload_n (n := 13) C 2 dX6_giveBack_12 rfl rfl ?_
      obtain ⟨hg2, h⟩ := gd_e h
      refine g_rald (n := 14) C 5 rfl (Nat.le_of_ble_eq_true rfl) rfl (Or.inr rfl) rfl hg2 hx2 dX6_giveBack_13 rfl ?_
      refine g_getF (n := 17) C (x2.toNat + 18) 3 (vR_pos hg2.1) (tn_add hg2 (Nat.le_of_ble_eq_true rfl)) (dX_line (tn_lt hg2 (Nat.le_refl _))) rfl rfl (Nat.le_of_ble_eq_true rfl) in_X6_giveBack_X3 (by decide +kernel) dX6_giveBack_14 rfl ?_
      refine g_rload_n (n := 18) C 1 dX6_giveBack_17 rfl rfl ?_
      obtain ⟨hg3, h⟩ := gd_e h
      refine g_acmp_ne (n := 21) C 34 60 (Nat.le_of_ble_eq_true rfl) hg3 hx1 dX6_giveBack_18 (by decide) rfl (fun (hc4 : ¬ (S (x2.toNat + 18) 3 = x1)) => ?_) (fun (hc4 : S (x2.toNat + 18) 3 = x1) => ?_)
      · rw [if_neg hc4] at h
        obtain ⟨v5, ev5, h⟩ := nmV_e h
        have hv5 : r32 v5 := by rw [ev5]; exact w32_r _
        refine g_iinc (n := 37) (lv' := [(2, vI v5), (0, .ref (ad 4)), (1, vR ad 30 x1)]) C 2 dX6_giveBack_34 rfl (Nat.le_of_ble_eq_true rfl) ev5 (by simp [vR_cat, vI_cat, vJ_cat, rf_cat] <;> decide) rfl ?_
        refine g_goto C 2 dX6_giveBack_37 (by decide) ?_
        refine g_lv [1, 2, 0] rfl ?_
        exact ih x1 v5 S hS hx1 hv5 h
      · rw [if_pos hc4] at h
        refine g_aload_n (n := 22) C 0 dX6_giveBack_21 rfl rfl ?_
        refine g_getC (n := 25) C 4 1 rfl (Nat.le_of_ble_eq_true rfl) rfl rfl rfl (Nat.le_of_ble_eq_true rfl) in_X6_giveBack_X6 (by decide +kernel) dX6_giveBack_22 rfl ?_
        refine g_iload_n (n := 26) C 2 dX6_giveBack_25 rfl rfl ?_
        refine g_rald (n := 27) C 5 rfl (Nat.le_of_ble_eq_true rfl) rfl (Or.inr rfl) rfl hg2 hx2 dX6_giveBack_26 rfl ?_
        refine g_aload_n (n := 28) C 0 dX6_giveBack_27 rfl rfl ?_
        refine g_getI (n := 31) C 4 6 rfl (Nat.le_of_ble_eq_true rfl) rfl rfl rfl (Nat.le_of_ble_eq_true rfl) in_X6_giveBack_X6 (by decide +kernel) dX6_giveBack_28 rfl ?_
        obtain ⟨S6, v7, hq8, h⟩ := cal_e h
        refine g_callV (n := 34) (As := [vI (S 4 6)]) (rest := []) C (x2.toNat + 18) 1 (tn_add hg2 (Nat.le_of_ble_eq_true rfl)) (dX_line (tn_lt hg2 (Nat.le_refl _))) rfl (c_X3_idleFrom hS hg2 ((hS 4 6).2 (by decide)) hq8) gX6_giveBack_X3_idleFrom rfl ⟨rfl, rfl⟩ (by decide +kernel) ⟨Nat.le_of_ble_eq_true rfl, Nat.le_of_ble_eq_true rfl⟩ (vR_pos hg2.1) rfl rfl (Nat.le_of_ble_eq_true rfl) dX6_giveBack_31 rfl (fun hS6 hv7 => ?_)
        show GW (sX D t ad) mi_X6_giveBack (acV, S0, r0) x S6 34 _ []
        obtain ⟨v9, ev9, h⟩ := nmV_e h
        have hv9 : r32 v9 := by rw [ev9]; exact w32_r _
        refine g_iinc (n := 37) (lv' := [(2, vI v9), (0, .ref (ad 4)), (1, vR ad 30 x1)]) C 2 dX6_giveBack_34 rfl (Nat.le_of_ble_eq_true rfl) ev9 (by simp [vR_cat, vI_cat, vJ_cat, rf_cat] <;> decide) rfl ?_
        refine g_goto C 2 dX6_giveBack_37 (by decide) ?_
        refine g_lv [1, 2, 0] rfl ?_
        exact ih x1 v9 S6 hS6 hx1 hv9 h
def dn_X6_giveBack (a0 : Int) (S : St) : Option (St × Int) := dn_X6_giveBack_2 FU a0 0 S
set_option maxRecDepth 100000 in
set_option maxHeartbeats 4000000 in
theorem c_X6_giveBack {l : Launch} {D : va_G} {t : T5} {ad : Nat → Nat} {S S0 : St} {r0 : Int} {a0 : Int} (hS : RS S) (ha0 : -1 ≤ a0 ∧ a0 < (60 : Nat)) (h : dn_X6_giveBack a0 S = some (S0, r0)) : Mc l (sX D t ad) yX6_giveBack wsX6_giveBack rm_X6_giveBack [.ref (ad 4), vR ad 30 a0] acV S S0 r0 := by
  refine Mc_of (cc := cX6_giveBack) (nL := 3) (ret := none) (by decide +kernel) rfl (by simp [lg_sl, vR_cat, vI_cat, vJ_cat, rf_cat]) (lv := [(0, .ref (ad 4)), (1, vR ad 30 a0)]) (by simp [lv_args, vR_cat, vI_cat, vJ_cat, rf_cat]) (fun x C _ => ?_)
  unfold dn_X6_giveBack at h
  show GW (sX D t ad) mi_X6_giveBack (acV, S0, r0) x S 0 [(0, .ref (ad 4)), (1, vR ad 30 a0)] []
  refine g_iconst (n := 1) C dX6_giveBack_0 rfl ?_
  refine g_istore_n (n := 2) (lv' := [(2, vI 0), (0, .ref (ad 4)), (1, vR ad 30 a0)]) C dX6_giveBack_1 (Nat.le_of_ble_eq_true rfl) rfl (by simp [vR_cat, vI_cat, vJ_cat, rf_cat] <;> decide) rfl ?_
  refine g_lv [1, 2, 0] rfl ?_
  exact u_X6_giveBack_2 C FU a0 0 S hS ha0 (by decide : r32 0) h
-- RX6 failBroken
abbrev rm_X6_failBroken : Room := ({ frames := 4, cells := 0, slots := 0, locals := 90 } : Room)
abbrev mi_X6_failBroken : Mi := (cX6_failBroken, 3, RX6, wsX6_failBroken, rm_X6_failBroken, none)
set_option maxRecDepth 20000 in
theorem in_X6_failBroken_X1 : ∀ w ∈ u_ws RX1 TX1 10, w ∈ wsX6_failBroken := by decide +kernel
set_option maxRecDepth 20000 in
theorem in_X6_failBroken_X6 : ∀ w ∈ u_ws RX6 TX6 11, w ∈ wsX6_failBroken := by decide +kernel
def dn_X6_failBroken_2 : Nat → Int → St → Option (St × Int)
  | 0, _, _ => none
  | n + 1, x1, S => (if S 4 5 ≤ x1 then some (S, 0) else (if 0 ≤ x1 ∧ x1 < 60 then (if S (x1.toNat + 30) 6 = 3 then (cal (dn_X6_hasBroken x1 S) fun S5 v6 => (if v6 = 0 then (nmV (w32 (x1 + 1)) fun v9 => dn_X6_failBroken_2 n v9 S5) else (cal (dn_X6_leave x1 6 3 S5) fun S10 v11 => (cal (dn_X6_dropBroken x1 S10) fun S13 v14 => (cal (dn_X6_giveBack x1 S13) fun S16 v17 => (nmV (w32 (x1 + 1)) fun v19 => dn_X6_failBroken_2 n v19 S16)))))) else (nmV (w32 (x1 + 1)) fun v4 => dn_X6_failBroken_2 n v4 S)) else none))
set_option maxRecDepth 100000 in
set_option maxHeartbeats 4000000 in
theorem u_X6_failBroken_2 {D : va_G} {t : T5} {ad : Nat → Nat} {S0 : St} {r0 : Int} {x : Mx} (C : CX (sX D t ad) mi_X6_failBroken x) : ∀ (n : Nat) (x1 : Int) (S : St), RS S → (r32 x1) → dn_X6_failBroken_2 n x1 S = some (S0, r0) → GW (sX D t ad) mi_X6_failBroken (acV, S0, r0) x S 2 [(0, .ref (ad 4)), (1, vI x1)] [] := by
  intro n
  induction n with
  | zero =>
    intro x1 S hS hx1 h
    cases h
  | succ n ih =>
    intro x1 S hS hx1 h
    rw [dn_X6_failBroken_2] at h
    refine g_iload_n (n := 3) C 1 dX6_failBroken_2 rfl rfl ?_
    refine g_aload_n (n := 4) C 0 dX6_failBroken_3 rfl rfl ?_
    refine g_getI (n := 7) C 4 5 rfl (Nat.le_of_ble_eq_true rfl) rfl rfl rfl (Nat.le_of_ble_eq_true rfl) in_X6_failBroken_X6 (by decide +kernel) dX6_failBroken_4 rfl ?_
    refine g_icmp_ge (n := 10) C 57 hx1 ((hS 4 5).2 (by decide)) dX6_failBroken_7 (by decide) rfl (fun (hc1 : S 4 5 ≤ x1) => ?_) (fun (hc1 : ¬ (S 4 5 ≤ x1)) => ?_)
    · rw [if_pos hc1] at h
      exact g_vret C rfl h rfl trivial hS dX6_failBroken_57
    · rw [if_neg hc1] at h
      refine g_aload_n (n := 11) C 0 dX6_failBroken_10 rfl rfl ?_
      refine g_getC (n := 14) C 4 2 rfl (Nat.le_of_ble_eq_true rfl) rfl rfl rfl (Nat.le_of_ble_eq_true rfl) in_X6_failBroken_X6 (by decide +kernel) dX6_failBroken_11 rfl ?_
      refine g_iload_n (n := 15) C 1 dX6_failBroken_14 rfl rfl ?_
      obtain ⟨hg2, h⟩ := gd_e h
      refine g_rald (n := 16) C 6 rfl (Nat.le_of_ble_eq_true rfl) rfl (Or.inl rfl) rfl hg2 hx1 dX6_failBroken_15 rfl ?_
      refine g_rstore_n (n := 17) (lv' := [(2, vR ad 30 x1), (0, .ref (ad 4)), (1, vI x1)]) C dX6_failBroken_16 (Nat.le_of_ble_eq_true rfl) rfl rfl ?_
      refine g_rload_n (n := 18) C 0 dX6_failBroken_17 rfl rfl ?_
      refine g_getI (n := 21) C (x1.toNat + 30) 6 (vR_pos hg2.1) (tn_add hg2 (Nat.le_of_ble_eq_true rfl)) (dX_call (tn_lt hg2 (Nat.le_refl _))) rfl rfl (Nat.le_of_ble_eq_true rfl) in_X6_failBroken_X1 (by decide +kernel) dX6_failBroken_18 rfl ?_
      refine g_iconst (n := 22) C dX6_failBroken_21 rfl ?_
      refine g_icmp_ne (n := 25) C 51 ((hS (x1.toNat + 30) 6).2 (by decide)) (by decide : r32 3) dX6_failBroken_22 (by decide) rfl (fun (hc3 : ¬ (S (x1.toNat + 30) 6 = 3)) => ?_) (fun (hc3 : S (x1.toNat + 30) 6 = 3) => ?_)
      · rw [if_neg hc3] at h
        obtain ⟨v4, ev4, h⟩ := nmV_e h
        have hv4 : r32 v4 := by rw [ev4]; exact w32_r _
        refine g_iinc (n := 54) (lv' := [(1, vI v4), (2, vR ad 30 x1), (0, .ref (ad 4))]) C 2 dX6_failBroken_51 rfl (Nat.le_of_ble_eq_true rfl) ev4 rfl rfl ?_
        refine g_goto C 2 dX6_failBroken_54 (by decide) ?_
        refine g_lv [2, 0] rfl ?_
        exact ih v4 S hS hv4 h
      · rw [if_pos hc3] at h
        refine g_aload_n (n := 26) C 1 dX6_failBroken_25 rfl rfl ?_
        refine g_rload_n (n := 27) C 0 dX6_failBroken_26 rfl rfl ?_
        obtain ⟨S5, v6, hq7, h⟩ := cal_e h
        refine g_callV (n := 30) (As := [vR ad 30 x1]) (rest := []) C 4 1 (Nat.le_of_ble_eq_true rfl) rfl rfl (c_X6_hasBroken hS (ix_rg hg2) hq7) gX6_failBroken_X6_hasBroken rfl ⟨rfl, rfl⟩ (by decide +kernel) ⟨Nat.le_of_ble_eq_true rfl, Nat.le_of_ble_eq_true rfl⟩ rfl rfl rfl (Nat.le_of_ble_eq_true rfl) dX6_failBroken_27 rfl (fun hS5 hv6 => ?_)
        show GW (sX D t ad) mi_X6_failBroken (acV, S0, r0) x S5 30 _ [vI v6]
        refine g_if_eq (n := 33) C 51 (z_r32 hv6) dX6_failBroken_30 (by decide) rfl (fun (hc8 : v6 = 0) => ?_) (fun (hc8 : ¬ (v6 = 0)) => ?_)
        · rw [if_pos hc8] at h
          obtain ⟨v9, ev9, h⟩ := nmV_e h
          have hv9 : r32 v9 := by rw [ev9]; exact w32_r _
          refine g_iinc (n := 54) (lv' := [(1, vI v9), (2, vR ad 30 x1), (0, .ref (ad 4))]) C 2 dX6_failBroken_51 rfl (Nat.le_of_ble_eq_true rfl) ev9 rfl rfl ?_
          refine g_goto C 2 dX6_failBroken_54 (by decide) ?_
          refine g_lv [2, 0] rfl ?_
          exact ih v9 S5 hS5 hv9 h
        · rw [if_neg hc8] at h
          refine g_aload_n (n := 34) C 1 dX6_failBroken_33 rfl rfl ?_
          refine g_rload_n (n := 35) C 0 dX6_failBroken_34 rfl rfl ?_
          refine g_bipush (n := 37) C dX6_failBroken_35 (by decide +kernel) rfl ?_
          refine g_iconst (n := 38) C dX6_failBroken_37 rfl ?_
          obtain ⟨S10, v11, hq12, h⟩ := cal_e h
          refine g_callV (n := 41) (As := [vR ad 30 x1, vI 6, vI 3]) (rest := []) C 4 3 (Nat.le_of_ble_eq_true rfl) rfl rfl (c_X6_leave hS5 (ix_rg hg2) (by decide : r32 6) (by decide : r32 3) hq12) gX6_failBroken_X6_leave rfl ⟨rfl, rfl⟩ (by decide +kernel) ⟨Nat.le_of_ble_eq_true rfl, Nat.le_of_ble_eq_true rfl⟩ rfl rfl rfl (Nat.le_of_ble_eq_true rfl) dX6_failBroken_38 rfl (fun hS10 hv11 => ?_)
          show GW (sX D t ad) mi_X6_failBroken (acV, S0, r0) x S10 41 _ []
          refine g_aload_n (n := 42) C 1 dX6_failBroken_41 rfl rfl ?_
          refine g_rload_n (n := 43) C 0 dX6_failBroken_42 rfl rfl ?_
          obtain ⟨S13, v14, hq15, h⟩ := cal_e h
          refine g_callV (n := 46) (As := [vR ad 30 x1]) (rest := []) C 4 1 (Nat.le_of_ble_eq_true rfl) rfl rfl (c_X6_dropBroken hS10 (ix_rg hg2) hq15) gX6_failBroken_X6_dropBroken rfl ⟨rfl, rfl⟩ (by decide +kernel) ⟨Nat.le_of_ble_eq_true rfl, Nat.le_of_ble_eq_true rfl⟩ rfl rfl rfl (Nat.le_of_ble_eq_true rfl) dX6_failBroken_43 rfl (fun hS13 hv14 => ?_)
          show GW (sX D t ad) mi_X6_failBroken (acV, S0, r0) x S13 46 _ []
          refine g_aload_n (n := 47) C 1 dX6_failBroken_46 rfl rfl ?_
          refine g_rload_n (n := 48) C 0 dX6_failBroken_47 rfl rfl ?_
          obtain ⟨S16, v17, hq18, h⟩ := cal_e h
          refine g_callV (n := 51) (As := [vR ad 30 x1]) (rest := []) C 4 1 (Nat.le_of_ble_eq_true rfl) rfl rfl (c_X6_giveBack hS13 (ix_rg hg2) hq18) gX6_failBroken_X6_giveBack rfl ⟨rfl, rfl⟩ (by decide +kernel) ⟨Nat.le_of_ble_eq_true rfl, Nat.le_of_ble_eq_true rfl⟩ rfl rfl rfl (Nat.le_of_ble_eq_true rfl) dX6_failBroken_48 rfl (fun hS16 hv17 => ?_)
          show GW (sX D t ad) mi_X6_failBroken (acV, S0, r0) x S16 51 _ []
          obtain ⟨v19, ev19, h⟩ := nmV_e h
          have hv19 : r32 v19 := by rw [ev19]; exact w32_r _
          refine g_iinc (n := 54) (lv' := [(1, vI v19), (2, vR ad 30 x1), (0, .ref (ad 4))]) C 2 dX6_failBroken_51 rfl (Nat.le_of_ble_eq_true rfl) ev19 rfl rfl ?_
          refine g_goto C 2 dX6_failBroken_54 (by decide) ?_
          refine g_lv [2, 0] rfl ?_
          exact ih v19 S16 hS16 hv19 h
def dn_X6_failBroken (S : St) : Option (St × Int) := dn_X6_failBroken_2 FU 0 S
set_option maxRecDepth 100000 in
set_option maxHeartbeats 4000000 in
theorem c_X6_failBroken {l : Launch} {D : va_G} {t : T5} {ad : Nat → Nat} {S S0 : St} {r0 : Int} (hS : RS S) (h : dn_X6_failBroken S = some (S0, r0)) : Mc l (sX D t ad) yX6_failBroken wsX6_failBroken rm_X6_failBroken [.ref (ad 4)] acV S S0 r0 := by
  refine Mc_of (cc := cX6_failBroken) (nL := 3) (ret := none) (by decide +kernel) rfl (Nat.le_of_ble_eq_true rfl) (lv := [(0, .ref (ad 4))]) rfl (fun x C _ => ?_)
  unfold dn_X6_failBroken at h
  show GW (sX D t ad) mi_X6_failBroken (acV, S0, r0) x S 0 [(0, .ref (ad 4))] []
  refine g_iconst (n := 1) C dX6_failBroken_0 rfl ?_
  refine g_istore_n (n := 2) (lv' := [(1, vI 0), (0, .ref (ad 4))]) C dX6_failBroken_1 (Nat.le_of_ble_eq_true rfl) rfl rfl rfl ?_
  refine g_lv [1, 0] rfl ?_
  exact u_X6_failBroken_2 C FU 0 S hS (by decide : r32 0) h
-- RX6 callersIn
abbrev rm_X6_callersIn : Room := ({ frames := 0, cells := 0, slots := 0, locals := 0 } : Room)
abbrev mi_X6_callersIn : Mi := (cX6_callersIn, 4, RX6, wsX6_callersIn, rm_X6_callersIn, (some .int))
set_option maxRecDepth 20000 in
theorem in_X6_callersIn_X1 : ∀ w ∈ u_ws RX1 TX1 10, w ∈ wsX6_callersIn := by decide +kernel
set_option maxRecDepth 20000 in
theorem in_X6_callersIn_X6 : ∀ w ∈ u_ws RX6 TX6 11, w ∈ wsX6_callersIn := by decide +kernel
def dn_X6_callersIn_4 : Nat → Int → Int → Int → St → Option (St × Int)
  | 0, _, _, _, _ => none
  | n + 1, x1, x2, x3, S => (if S 4 5 ≤ x3 then some (S, x2) else (if 0 ≤ x3 ∧ x3 < 60 then (if S (x3.toNat + 30) 6 = x1 then (nmV (w32 (x2 + 1)) fun v5 => (nmV (w32 (x3 + 1)) fun v6 => dn_X6_callersIn_4 n x1 v5 v6 S)) else (nmV (w32 (x3 + 1)) fun v4 => dn_X6_callersIn_4 n x1 x2 v4 S)) else none))
set_option maxRecDepth 100000 in
set_option maxHeartbeats 4000000 in
theorem u_X6_callersIn_4 {D : va_G} {t : T5} {ad : Nat → Nat} {S0 : St} {r0 : Int} {x : Mx} (C : CX (sX D t ad) mi_X6_callersIn x) : ∀ (n : Nat) (x1 : Int) (x2 : Int) (x3 : Int) (S : St), RS S → (r32 x1) → (r32 x2) → (r32 x3) → dn_X6_callersIn_4 n x1 x2 x3 S = some (S0, r0) → GW (sX D t ad) mi_X6_callersIn (acI, S0, r0) x S 4 [(0, .ref (ad 4)), (1, vI x1), (2, vI x2), (3, vI x3)] [] := by
  intro n
  induction n with
  | zero =>
    intro x1 x2 x3 S hS hx1 hx2 hx3 h
    cases h
  | succ n ih =>
    intro x1 x2 x3 S hS hx1 hx2 hx3 h
    rw [dn_X6_callersIn_4] at h
    refine g_iload_n (n := 5) C 3 dX6_callersIn_4 rfl rfl ?_
    refine g_aload_n (n := 6) C 0 dX6_callersIn_5 rfl rfl ?_
    refine g_getI (n := 9) C 4 5 rfl (Nat.le_of_ble_eq_true rfl) rfl rfl rfl (Nat.le_of_ble_eq_true rfl) in_X6_callersIn_X6 (by decide +kernel) dX6_callersIn_6 rfl ?_
    refine g_icmp_ge (n := 12) C 34 hx3 ((hS 4 5).2 (by decide)) dX6_callersIn_9 (by decide) rfl (fun (hc1 : S 4 5 ≤ x3) => ?_) (fun (hc1 : ¬ (S 4 5 ≤ x3)) => ?_)
    · rw [if_pos hc1] at h
      refine g_iload_n (n := 35) C 2 dX6_callersIn_34 rfl rfl ?_
      exact g_iret C rfl h rfl hx2 hS dX6_callersIn_35
    · rw [if_neg hc1] at h
      refine g_aload_n (n := 13) C 0 dX6_callersIn_12 rfl rfl ?_
      refine g_getC (n := 16) C 4 2 rfl (Nat.le_of_ble_eq_true rfl) rfl rfl rfl (Nat.le_of_ble_eq_true rfl) in_X6_callersIn_X6 (by decide +kernel) dX6_callersIn_13 rfl ?_
      refine g_iload_n (n := 17) C 3 dX6_callersIn_16 rfl rfl ?_
      obtain ⟨hg2, h⟩ := gd_e h
      refine g_rald (n := 18) C 6 rfl (Nat.le_of_ble_eq_true rfl) rfl (Or.inl rfl) rfl hg2 hx3 dX6_callersIn_17 rfl ?_
      refine g_getI (n := 21) C (x3.toNat + 30) 6 (vR_pos hg2.1) (tn_add hg2 (Nat.le_of_ble_eq_true rfl)) (dX_call (tn_lt hg2 (Nat.le_refl _))) rfl rfl (Nat.le_of_ble_eq_true rfl) in_X6_callersIn_X1 (by decide +kernel) dX6_callersIn_18 rfl ?_
      refine g_iload_n (n := 22) C 1 dX6_callersIn_21 rfl rfl ?_
      refine g_icmp_ne (n := 25) C 28 ((hS (x3.toNat + 30) 6).2 (by decide)) hx1 dX6_callersIn_22 (by decide) rfl (fun (hc3 : ¬ (S (x3.toNat + 30) 6 = x1)) => ?_) (fun (hc3 : S (x3.toNat + 30) 6 = x1) => ?_)
      · rw [if_neg hc3] at h
        obtain ⟨v4, ev4, h⟩ := nmV_e h
        have hv4 : r32 v4 := by rw [ev4]; exact w32_r _
        refine g_iinc (n := 31) (lv' := [(3, vI v4), (0, .ref (ad 4)), (1, vI x1), (2, vI x2)]) C 3 dX6_callersIn_28 rfl (Nat.le_of_ble_eq_true rfl) ev4 rfl rfl ?_
        refine g_goto C 4 dX6_callersIn_31 (by decide) ?_
        refine g_lv [1, 2, 3, 0] rfl ?_
        exact ih x1 x2 v4 S hS hx1 hx2 hv4 h
      · rw [if_pos hc3] at h
        obtain ⟨v5, ev5, h⟩ := nmV_e h
        have hv5 : r32 v5 := by rw [ev5]; exact w32_r _
        refine g_iinc (n := 28) (lv' := [(2, vI v5), (0, .ref (ad 4)), (1, vI x1), (3, vI x3)]) C 2 dX6_callersIn_25 rfl (Nat.le_of_ble_eq_true rfl) ev5 rfl rfl ?_
        obtain ⟨v6, ev6, h⟩ := nmV_e h
        have hv6 : r32 v6 := by rw [ev6]; exact w32_r _
        refine g_iinc (n := 31) (lv' := [(3, vI v6), (2, vI v5), (0, .ref (ad 4)), (1, vI x1)]) C 3 dX6_callersIn_28 rfl (Nat.le_of_ble_eq_true rfl) ev6 rfl rfl ?_
        refine g_goto C 4 dX6_callersIn_31 (by decide) ?_
        refine g_lv [2, 3, 1, 0] rfl ?_
        exact ih x1 v5 v6 S hS hx1 hv5 hv6 h
def dn_X6_callersIn (a0 : Int) (S : St) : Option (St × Int) := dn_X6_callersIn_4 FU a0 0 0 S
set_option maxRecDepth 100000 in
set_option maxHeartbeats 4000000 in
theorem c_X6_callersIn {l : Launch} {D : va_G} {t : T5} {ad : Nat → Nat} {S S0 : St} {r0 : Int} {a0 : Int} (hS : RS S) (ha0 : r32 a0) (h : dn_X6_callersIn a0 S = some (S0, r0)) : Mc l (sX D t ad) yX6_callersIn wsX6_callersIn rm_X6_callersIn [.ref (ad 4), vI a0] acI S S0 r0 := by
  refine Mc_of (cc := cX6_callersIn) (nL := 4) (ret := (some .int)) (by decide +kernel) rfl (Nat.le_of_ble_eq_true rfl) (lv := [(0, .ref (ad 4)), (1, vI a0)]) rfl (fun x C _ => ?_)
  unfold dn_X6_callersIn at h
  show GW (sX D t ad) mi_X6_callersIn (acI, S0, r0) x S 0 [(0, .ref (ad 4)), (1, vI a0)] []
  refine g_iconst (n := 1) C dX6_callersIn_0 rfl ?_
  refine g_istore_n (n := 2) (lv' := [(2, vI 0), (0, .ref (ad 4)), (1, vI a0)]) C dX6_callersIn_1 (Nat.le_of_ble_eq_true rfl) rfl rfl rfl ?_
  refine g_iconst (n := 3) C dX6_callersIn_2 rfl ?_
  refine g_istore_n (n := 4) (lv' := [(3, vI 0), (2, vI 0), (0, .ref (ad 4)), (1, vI a0)]) C dX6_callersIn_3 (Nat.le_of_ble_eq_true rfl) rfl rfl rfl ?_
  refine g_lv [2, 3, 1, 0] rfl ?_
  exact u_X6_callersIn_4 C FU a0 0 0 S hS ha0 (by decide : r32 0) (by decide : r32 0) h
