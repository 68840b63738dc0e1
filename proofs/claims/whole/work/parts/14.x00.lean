-- RX0 add
abbrev rm_X0_add : Room := ({ frames := 0, cells := 0, slots := 0, locals := 0 } : Room)
abbrev mi_X0_add : Mi := (cX0_add, 3, RX0, wsX0_add, rm_X0_add, (some .boolean))
set_option maxRecDepth 20000 in
theorem in_X0_add_X0 : ∀ w ∈ u_ws RX0 TX0 3, w ∈ wsX0_add := by decide +kernel
def dn_X0_add (a0 : Int) (a1 : Int) (S : St) : Option (St × Int) := (if S 7 2 < 60 then (if 0 ≤ S 7 2 ∧ S 7 2 < 60 then (nmS (stU S 8 (S 7 2).toNat a0) fun S3 => (if 0 ≤ S3 7 2 ∧ S3 7 2 < 60 then (nmS (stU S3 9 (S3 7 2).toNat a1) fun S5 => (nmS (stU S5 7 2 (w32 ((S5 7 2) + 1))) fun S6 => some (S6, 1))) else none)) else none) else some (S, 0))
set_option maxRecDepth 100000 in
set_option maxHeartbeats 4000000 in
theorem c_X0_add {l : Launch} {D : va_G} {t : T5} {ad : Nat → Nat} {S S0 : St} {r0 : Int} {a0 a1 : Int} (hS : RS S) (ha0 : r32 a0) (ha1 : r32 a1) (h : dn_X0_add a0 a1 S = some (S0, r0)) : Mc l (sX D t ad) yX0_add wsX0_add rm_X0_add [.ref (ad 7), vI a0, vI a1] acZ S S0 r0 := by
  refine Mc_of (cc := cX0_add) (nL := 3) (ret := (some .boolean)) (by decide +kernel) rfl (Nat.le_of_ble_eq_true rfl) (lv := [(0, .ref (ad 7)), (1, vI a0), (2, vI a1)]) rfl (fun x C _ => ?_)
  unfold dn_X0_add at h
  show GW (sX D t ad) mi_X0_add (acZ, S0, r0) x S 0 [(0, .ref (ad 7)), (1, vI a0), (2, vI a1)] []
  refine g_aload_n (n := 1) C 0 dX0_add_0 rfl rfl ?_
  refine g_getI (n := 4) C 7 2 rfl (Nat.le_of_ble_eq_true rfl) rfl rfl rfl (Nat.le_of_ble_eq_true rfl) in_X0_add_X0 (by decide +kernel) dX0_add_1 rfl ?_
  refine g_bipush (n := 6) C dX0_add_4 (by decide +kernel) rfl ?_
  refine g_icmp_lt (n := 9) C 11 ((hS 7 2).2 (by decide)) (by decide : r32 60) dX0_add_6 (by decide) rfl (fun (hc1 : S 7 2 < 60) => ?_) (fun (hc1 : ¬ (S 7 2 < 60)) => ?_)
  · rw [if_pos hc1] at h
    refine g_aload_n (n := 12) C 0 dX0_add_11 rfl rfl ?_
    refine g_getC (n := 15) C 7 0 rfl (Nat.le_of_ble_eq_true rfl) rfl rfl rfl (Nat.le_of_ble_eq_true rfl) in_X0_add_X0 (by decide +kernel) dX0_add_12 rfl ?_
    refine g_aload_n (n := 16) C 0 dX0_add_15 rfl rfl ?_
    refine g_getI (n := 19) C 7 2 rfl (Nat.le_of_ble_eq_true rfl) rfl rfl rfl (Nat.le_of_ble_eq_true rfl) in_X0_add_X0 (by decide +kernel) dX0_add_16 rfl ?_
    refine g_iload_n (n := 20) C 1 dX0_add_19 rfl rfl ?_
    obtain ⟨hg2, h⟩ := gd_e h
    obtain ⟨S3, eS3, h⟩ := nmS_e h
    have hS3 : RS S3 := by rw [eS3]; exact RS_i hS ha0
    refine g_iast (n := 21) C 8 rfl (Nat.le_of_ble_eq_true rfl) rfl rfl hg2 ((hS 7 2).2 (by decide)) eS3 dX0_add_20 rfl ?_
    refine g_aload_n (n := 22) C 0 dX0_add_21 rfl rfl ?_
    refine g_getC (n := 25) C 7 1 rfl (Nat.le_of_ble_eq_true rfl) rfl rfl rfl (Nat.le_of_ble_eq_true rfl) in_X0_add_X0 (by decide +kernel) dX0_add_22 rfl ?_
    refine g_aload_n (n := 26) C 0 dX0_add_25 rfl rfl ?_
    refine g_getI (n := 29) C 7 2 rfl (Nat.le_of_ble_eq_true rfl) rfl rfl rfl (Nat.le_of_ble_eq_true rfl) in_X0_add_X0 (by decide +kernel) dX0_add_26 rfl ?_
    refine g_iload_n (n := 30) C 2 dX0_add_29 rfl rfl ?_
    obtain ⟨hg4, h⟩ := gd_e h
    obtain ⟨S5, eS5, h⟩ := nmS_e h
    have hS5 : RS S5 := by rw [eS5]; exact RS_i hS3 ha1
    refine g_iast (n := 31) C 9 rfl (Nat.le_of_ble_eq_true rfl) rfl rfl hg4 ((hS3 7 2).2 (by decide)) eS5 dX0_add_30 rfl ?_
    refine g_aload_n (n := 32) C 0 dX0_add_31 rfl rfl ?_
    refine g_dup (n := 33) C rfl dX0_add_32 rfl ?_
    refine g_getI (n := 36) C 7 2 rfl (Nat.le_of_ble_eq_true rfl) rfl rfl rfl (Nat.le_of_ble_eq_true rfl) in_X0_add_X0 (by decide +kernel) dX0_add_33 rfl ?_
    refine g_iconst (n := 37) C dX0_add_36 rfl ?_
    refine g_iadd (n := 38) C dX0_add_37 rfl ?_
    obtain ⟨S6, eS6, h⟩ := nmS_e h
    have hS6 : RS S6 := by rw [eS6]; exact RS_i hS5 (w32_r _)
    refine g_putI (n := 41) C 7 2 rfl (Nat.le_of_ble_eq_true rfl) rfl rfl rfl (Nat.le_of_ble_eq_true rfl) in_X0_add_X0 tyX0_ok nmX0 (by decide +kernel) rfl (by decide +kernel) (Nat.le_of_ble_eq_true rfl) eS6 dX0_add_38 rfl ?_
    refine g_iconst (n := 42) C dX0_add_41 rfl ?_
    exact g_zret C rfl (Or.inr rfl) h rfl (Or.inr rfl) hS6 dX0_add_42
  · rw [if_neg hc1] at h
    refine g_iconst (n := 10) C dX0_add_9 rfl ?_
    exact g_zret C rfl (Or.inl rfl) h rfl (Or.inl rfl) hS dX0_add_10
-- RX0 forget
abbrev rm_X0_forget : Room := ({ frames := 0, cells := 0, slots := 0, locals := 0 } : Room)
abbrev mi_X0_forget : Mi := (cX0_forget, 1, RX0, wsX0_forget, rm_X0_forget, none)
set_option maxRecDepth 20000 in
theorem in_X0_forget_X0 : ∀ w ∈ u_ws RX0 TX0 3, w ∈ wsX0_forget := by decide +kernel
def dn_X0_forget (S : St) : Option (St × Int) := (nmS (stU S 7 2 0) fun S1 => some (S1, 0))
set_option maxRecDepth 100000 in
set_option maxHeartbeats 4000000 in
theorem c_X0_forget {l : Launch} {D : va_G} {t : T5} {ad : Nat → Nat} {S S0 : St} {r0 : Int} (hS : RS S) (h : dn_X0_forget S = some (S0, r0)) : Mc l (sX D t ad) yX0_forget wsX0_forget rm_X0_forget [.ref (ad 7)] acV S S0 r0 := by
  refine Mc_of (cc := cX0_forget) (nL := 1) (ret := none) (by decide +kernel) rfl (Nat.le_of_ble_eq_true rfl) (lv := [(0, .ref (ad 7))]) rfl (fun x C _ => ?_)
  unfold dn_X0_forget at h
  show GW (sX D t ad) mi_X0_forget (acV, S0, r0) x S 0 [(0, .ref (ad 7))] []
  refine g_aload_n (n := 1) C 0 dX0_forget_0 rfl rfl ?_
  refine g_iconst (n := 2) C dX0_forget_1 rfl ?_
  obtain ⟨S1, eS1, h⟩ := nmS_e h
  have hS1 : RS S1 := by rw [eS1]; exact RS_i hS (by decide : r32 0)
  refine g_putI (n := 5) C 7 2 rfl (Nat.le_of_ble_eq_true rfl) rfl rfl rfl (Nat.le_of_ble_eq_true rfl) in_X0_forget_X0 tyX0_ok nmX0 (by decide +kernel) rfl (by decide +kernel) (Nat.le_of_ble_eq_true rfl) eS1 dX0_forget_2 rfl ?_
  exact g_vret C rfl h rfl trivial hS1 dX0_forget_5
-- RX0 strike
abbrev rm_X0_strike : Room := ({ frames := 0, cells := 0, slots := 0, locals := 0 } : Room)
abbrev mi_X0_strike : Mi := (cX0_strike, 4, RX0, wsX0_strike, rm_X0_strike, (some .boolean))
set_option maxRecDepth 20000 in
theorem in_X0_strike_X0 : ∀ w ∈ u_ws RX0 TX0 3, w ∈ wsX0_strike := by decide +kernel
def dn_X0_strike_2 : Nat → Int → Int → Int → St → Option (St × Int)
  | 0, _, _, _, _ => none
  | n + 1, x1, x2, x3, S => (if S 7 2 ≤ x3 then some (S, 0) else (if 0 ≤ x3 ∧ x3 < 60 then (if S 8 x3.toNat = x1 then (if S 9 x3.toNat = x2 then some (S, 1) else (nmV (w32 (x3 + 1)) fun v6 => dn_X0_strike_2 n x1 x2 v6 S)) else (nmV (w32 (x3 + 1)) fun v4 => dn_X0_strike_2 n x1 x2 v4 S)) else none))
set_option maxRecDepth 100000 in
set_option maxHeartbeats 4000000 in
theorem u_X0_strike_2 {D : va_G} {t : T5} {ad : Nat → Nat} {S0 : St} {r0 : Int} {x : Mx} (C : CX (sX D t ad) mi_X0_strike x) : ∀ (n : Nat) (x1 : Int) (x2 : Int) (x3 : Int) (S : St), RS S → (r32 x1) → (r32 x2) → (r32 x3) → dn_X0_strike_2 n x1 x2 x3 S = some (S0, r0) → GW (sX D t ad) mi_X0_strike (acZ, S0, r0) x S 2 [(0, .ref (ad 7)), (1, vI x1), (2, vI x2), (3, vI x3)] [] := by
  intro n
  induction n with
  | zero =>
    intro x1 x2 x3 S hS hx1 hx2 hx3 h
    cases h
  | succ n ih =>
    intro x1 x2 x3 S hS hx1 hx2 hx3 h
    rw [dn_X0_strike_2] at h
    refine g_iload_n (n := 3) C 3 dX0_strike_2 rfl rfl ?_
    refine g_aload_n (n := 4) C 0 dX0_strike_3 rfl rfl ?_
    refine g_getI (n := 7) C 7 2 rfl (Nat.le_of_ble_eq_true rfl) rfl rfl rfl (Nat.le_of_ble_eq_true rfl) in_X0_strike_X0 (by decide +kernel) dX0_strike_4 rfl ?_
    refine g_icmp_ge (n := 10) C 38 hx3 ((hS 7 2).2 (by decide)) dX0_strike_7 (by decide) rfl (fun (hc1 : S 7 2 ≤ x3) => ?_) (fun (hc1 : ¬ (S 7 2 ≤ x3)) => ?_)
    · rw [if_pos hc1] at h
      refine g_iconst (n := 39) C dX0_strike_38 rfl ?_
      exact g_zret C rfl (Or.inl rfl) h rfl (Or.inl rfl) hS dX0_strike_39
    · rw [if_neg hc1] at h
      refine g_aload_n (n := 11) C 0 dX0_strike_10 rfl rfl ?_
      refine g_getC (n := 14) C 7 0 rfl (Nat.le_of_ble_eq_true rfl) rfl rfl rfl (Nat.le_of_ble_eq_true rfl) in_X0_strike_X0 (by decide +kernel) dX0_strike_11 rfl ?_
      refine g_iload_n (n := 15) C 3 dX0_strike_14 rfl rfl ?_
      obtain ⟨hg2, h⟩ := gd_e h
      refine g_iald (n := 16) C 8 rfl (Nat.le_of_ble_eq_true rfl) rfl rfl hg2 hx3 dX0_strike_15 rfl ?_
      refine g_iload_n (n := 17) C 1 dX0_strike_16 rfl rfl ?_
      refine g_icmp_ne (n := 20) C 32 ((hS 8 _).2 (tn_lt hg2 (by decide))) hx1 dX0_strike_17 (by decide) rfl (fun (hc3 : ¬ (S 8 x3.toNat = x1)) => ?_) (fun (hc3 : S 8 x3.toNat = x1) => ?_)
      · rw [if_neg hc3] at h
        obtain ⟨v4, ev4, h⟩ := nmV_e h
        have hv4 : r32 v4 := by rw [ev4]; exact w32_r _
        refine g_iinc (n := 35) (lv' := [(3, vI v4), (0, .ref (ad 7)), (1, vI x1), (2, vI x2)]) C 3 dX0_strike_32 rfl (Nat.le_of_ble_eq_true rfl) ev4 rfl rfl ?_
        refine g_goto C 2 dX0_strike_35 (by decide) ?_
        refine g_lv [1, 2, 3, 0] rfl ?_
        exact ih x1 x2 v4 S hS hx1 hx2 hv4 h
      · rw [if_pos hc3] at h
        refine g_aload_n (n := 21) C 0 dX0_strike_20 rfl rfl ?_
        refine g_getC (n := 24) C 7 1 rfl (Nat.le_of_ble_eq_true rfl) rfl rfl rfl (Nat.le_of_ble_eq_true rfl) in_X0_strike_X0 (by decide +kernel) dX0_strike_21 rfl ?_
        refine g_iload_n (n := 25) C 3 dX0_strike_24 rfl rfl ?_
        refine g_iald (n := 26) C 9 rfl (Nat.le_of_ble_eq_true rfl) rfl rfl hg2 hx3 dX0_strike_25 rfl ?_
        refine g_iload_n (n := 27) C 2 dX0_strike_26 rfl rfl ?_
        refine g_icmp_ne (n := 30) C 32 ((hS 9 _).2 (tn_lt hg2 (by decide))) hx2 dX0_strike_27 (by decide) rfl (fun (hc5 : ¬ (S 9 x3.toNat = x2)) => ?_) (fun (hc5 : S 9 x3.toNat = x2) => ?_)
        · rw [if_neg hc5] at h
          obtain ⟨v6, ev6, h⟩ := nmV_e h
          have hv6 : r32 v6 := by rw [ev6]; exact w32_r _
          refine g_iinc (n := 35) (lv' := [(3, vI v6), (0, .ref (ad 7)), (1, vI x1), (2, vI x2)]) C 3 dX0_strike_32 rfl (Nat.le_of_ble_eq_true rfl) ev6 rfl rfl ?_
          refine g_goto C 2 dX0_strike_35 (by decide) ?_
          refine g_lv [1, 2, 3, 0] rfl ?_
          exact ih x1 x2 v6 S hS hx1 hx2 hv6 h
        · rw [if_pos hc5] at h
          refine g_iconst (n := 31) C dX0_strike_30 rfl ?_
          exact g_zret C rfl (Or.inr rfl) h rfl (Or.inr rfl) hS dX0_strike_31
def dn_X0_strike (a0 : Int) (a1 : Int) (S : St) : Option (St × Int) := dn_X0_strike_2 FU a0 a1 0 S
set_option maxRecDepth 100000 in
set_option maxHeartbeats 4000000 in
theorem c_X0_strike {l : Launch} {D : va_G} {t : T5} {ad : Nat → Nat} {S S0 : St} {r0 : Int} {a0 a1 : Int} (hS : RS S) (ha0 : r32 a0) (ha1 : r32 a1) (h : dn_X0_strike a0 a1 S = some (S0, r0)) : Mc l (sX D t ad) yX0_strike wsX0_strike rm_X0_strike [.ref (ad 7), vI a0, vI a1] acZ S S0 r0 := by
  refine Mc_of (cc := cX0_strike) (nL := 4) (ret := (some .boolean)) (by decide +kernel) rfl (Nat.le_of_ble_eq_true rfl) (lv := [(0, .ref (ad 7)), (1, vI a0), (2, vI a1)]) rfl (fun x C _ => ?_)
  unfold dn_X0_strike at h
  show GW (sX D t ad) mi_X0_strike (acZ, S0, r0) x S 0 [(0, .ref (ad 7)), (1, vI a0), (2, vI a1)] []
  refine g_iconst (n := 1) C dX0_strike_0 rfl ?_
  refine g_istore_n (n := 2) (lv' := [(3, vI 0), (0, .ref (ad 7)), (1, vI a0), (2, vI a1)]) C dX0_strike_1 (Nat.le_of_ble_eq_true rfl) rfl rfl rfl ?_
  refine g_lv [1, 2, 3, 0] rfl ?_
  exact u_X0_strike_2 C FU a0 a1 0 S hS ha0 ha1 (by decide : r32 0) h
-- RX8 within
abbrev rm_X8_within : Room := ({ frames := 0, cells := 0, slots := 0, locals := 0 } : Room)
abbrev mi_X8_within : Mi := (cX8_within, 3, RX8, wsX8_within, rm_X8_within, (some .boolean))
def dn_X8_within (a0 : Int) (a1 : Int) (a2 : Int) (S : St) : Option (St × Int) := (if a0 < a1 then some (S, 0) else (if a2 < a0 then some (S, 0) else some (S, 1)))
set_option maxRecDepth 100000 in
set_option maxHeartbeats 4000000 in
theorem c_X8_within {l : Launch} {D : va_G} {t : T5} {ad : Nat → Nat} {S S0 : St} {r0 : Int} {a0 a1 a2 : Int} (hS : RS S) (ha0 : r32 a0) (ha1 : r32 a1) (ha2 : r32 a2) (h : dn_X8_within a0 a1 a2 S = some (S0, r0)) : Mc l (sX D t ad) yX8_within wsX8_within rm_X8_within [vI a0, vI a1, vI a2] acZ S S0 r0 := by
  refine Mc_of (cc := cX8_within) (nL := 3) (ret := (some .boolean)) (by decide +kernel) rfl (Nat.le_of_ble_eq_true rfl) (lv := [(0, vI a0), (1, vI a1), (2, vI a2)]) rfl (fun x C _ => ?_)
  unfold dn_X8_within at h
  show GW (sX D t ad) mi_X8_within (acZ, S0, r0) x S 0 [(0, vI a0), (1, vI a1), (2, vI a2)] []
  refine g_iload_n (n := 1) C 0 dX8_within_0 rfl rfl ?_
  refine g_iload_n (n := 2) C 1 dX8_within_1 rfl rfl ?_
  refine g_icmp_lt (n := 5) C 14 ha0 ha1 dX8_within_2 (by decide) rfl (fun (hc1 : a0 < a1) => ?_) (fun (hc1 : ¬ (a0 < a1)) => ?_)
  · rw [if_pos hc1] at h
    refine g_iconst (n := 15) C dX8_within_14 rfl ?_
    exact g_zret C rfl (Or.inl rfl) h rfl (Or.inl rfl) hS dX8_within_15
  · rw [if_neg hc1] at h
    refine g_iload_n (n := 6) C 0 dX8_within_5 rfl rfl ?_
    refine g_iload_n (n := 7) C 2 dX8_within_6 rfl rfl ?_
    refine g_icmp_gt (n := 10) C 14 ha0 ha2 dX8_within_7 (by decide) rfl (fun (hc2 : a2 < a0) => ?_) (fun (hc2 : ¬ (a2 < a0)) => ?_)
    · rw [if_pos hc2] at h
      refine g_iconst (n := 15) C dX8_within_14 rfl ?_
      exact g_zret C rfl (Or.inl rfl) h rfl (Or.inl rfl) hS dX8_within_15
    · rw [if_neg hc2] at h
      refine g_iconst (n := 11) C dX8_within_10 rfl ?_
      refine g_goto C 15 dX8_within_11 (by decide) ?_
      exact g_zret C rfl (Or.inr rfl) h rfl (Or.inr rfl) hS dX8_within_15
-- RX1 allows
abbrev rm_X1_allows : Room := ({ frames := 1, cells := 0, slots := 0, locals := 22 } : Room)
abbrev mi_X1_allows : Mi := (cX1_allows, 4, RX1, wsX1_allows, rm_X1_allows, (some .boolean))
def dn_X1_allows (a0 : Int) (a1 : Int) (a2 : Int) (a3 : Int) (S : St) : Option (St × Int) := (cal (dn_X8_within a0 0 2 S) fun S1 v2 => (if v2 = 0 then some (S1, 0) else (cal (dn_X8_within a1 0 9 S1) fun S5 v6 => (if v6 = 0 then some (S5, 0) else (cal (dn_X8_within a2 0 1000 S5) fun S9 v10 => (if v10 = 0 then some (S9, 0) else (cal (dn_X8_within a3 1 1000 S9) fun S13 v14 => (if v14 = 0 then some (S13, 0) else some (S13, 1)))))))))
set_option maxRecDepth 100000 in
set_option maxHeartbeats 4000000 in
theorem c_X1_allows {l : Launch} {D : va_G} {t : T5} {ad : Nat → Nat} {S S0 : St} {r0 : Int} {a0 a1 a2 a3 : Int} (hS : RS S) (ha0 : r32 a0) (ha1 : r32 a1) (ha2 : r32 a2) (ha3 : r32 a3) (h : dn_X1_allows a0 a1 a2 a3 S = some (S0, r0)) : Mc l (sX D t ad) yX1_allows wsX1_allows rm_X1_allows [vI a0, vI a1, vI a2, vI a3] acZ S S0 r0 := by
  refine Mc_of (cc := cX1_allows) (nL := 4) (ret := (some .boolean)) (by decide +kernel) rfl (Nat.le_of_ble_eq_true rfl) (lv := [(0, vI a0), (1, vI a1), (2, vI a2), (3, vI a3)]) rfl (fun x C _ => ?_)
  unfold dn_X1_allows at h
  show GW (sX D t ad) mi_X1_allows (acZ, S0, r0) x S 0 [(0, vI a0), (1, vI a1), (2, vI a2), (3, vI a3)] []
  refine g_iload_n (n := 1) C 0 dX1_allows_0 rfl rfl ?_
  refine g_iconst (n := 2) C dX1_allows_1 rfl ?_
  refine g_iconst (n := 3) C dX1_allows_2 rfl ?_
  obtain ⟨S1, v2, hq3, h⟩ := cal_e h
  refine g_callSN (n := 6) (As := [vI a0, vI 0, vI 2]) (rest := []) C 3 (c_X8_within hS ha0 (by decide : r32 0) (by decide : r32 2) hq3) gX1_allows_X8_within_n13 (C.2.2.2.2.2.2.1 rfl).2.1 (by decide +kernel) (by decide +kernel) rfl ⟨rfl, rfl⟩ (by decide +kernel) ⟨Nat.le_of_ble_eq_true rfl, Nat.le_of_ble_eq_true rfl⟩ rfl rfl (Nat.le_of_ble_eq_true rfl) dX1_allows_3 rfl (fun hS1 hv2 => ?_)
  show GW (sX D t ad) mi_X1_allows (acZ, S0, r0) x S1 6 _ [vI v2]
  refine g_if_eq (n := 9) C 45 (z_r32 hv2) dX1_allows_6 (by decide) rfl (fun (hc4 : v2 = 0) => ?_) (fun (hc4 : ¬ (v2 = 0)) => ?_)
  · rw [if_pos hc4] at h
    refine g_iconst (n := 46) C dX1_allows_45 rfl ?_
    exact g_zret C rfl (Or.inl rfl) h rfl (Or.inl rfl) hS1 dX1_allows_46
  · rw [if_neg hc4] at h
    refine g_iload_n (n := 10) C 1 dX1_allows_9 rfl rfl ?_
    refine g_iconst (n := 11) C dX1_allows_10 rfl ?_
    refine g_bipush (n := 13) C dX1_allows_11 (by decide +kernel) rfl ?_
    obtain ⟨S5, v6, hq7, h⟩ := cal_e h
    refine g_callSN (n := 16) (As := [vI a1, vI 0, vI 9]) (rest := []) C 3 (c_X8_within hS1 ha1 (by decide : r32 0) (by decide : r32 9) hq7) gX1_allows_X8_within_n13 (C.2.2.2.2.2.2.1 rfl).2.1 (by decide +kernel) (by decide +kernel) rfl ⟨rfl, rfl⟩ (by decide +kernel) ⟨Nat.le_of_ble_eq_true rfl, Nat.le_of_ble_eq_true rfl⟩ rfl rfl (Nat.le_of_ble_eq_true rfl) dX1_allows_13 rfl (fun hS5 hv6 => ?_)
    show GW (sX D t ad) mi_X1_allows (acZ, S0, r0) x S5 16 _ [vI v6]
    refine g_if_eq (n := 19) C 45 (z_r32 hv6) dX1_allows_16 (by decide) rfl (fun (hc8 : v6 = 0) => ?_) (fun (hc8 : ¬ (v6 = 0)) => ?_)
    · rw [if_pos hc8] at h
      refine g_iconst (n := 46) C dX1_allows_45 rfl ?_
      exact g_zret C rfl (Or.inl rfl) h rfl (Or.inl rfl) hS5 dX1_allows_46
    · rw [if_neg hc8] at h
      refine g_iload_n (n := 20) C 2 dX1_allows_19 rfl rfl ?_
      refine g_iconst (n := 21) C dX1_allows_20 rfl ?_
      refine g_sipush (n := 24) C dX1_allows_21 (by decide +kernel) rfl ?_
      obtain ⟨S9, v10, hq11, h⟩ := cal_e h
      refine g_callSN (n := 27) (As := [vI a2, vI 0, vI 1000]) (rest := []) C 3 (c_X8_within hS5 ha2 (by decide : r32 0) (by decide : r32 1000) hq11) gX1_allows_X8_within_n13 (C.2.2.2.2.2.2.1 rfl).2.1 (by decide +kernel) (by decide +kernel) rfl ⟨rfl, rfl⟩ (by decide +kernel) ⟨Nat.le_of_ble_eq_true rfl, Nat.le_of_ble_eq_true rfl⟩ rfl rfl (Nat.le_of_ble_eq_true rfl) dX1_allows_24 rfl (fun hS9 hv10 => ?_)
      show GW (sX D t ad) mi_X1_allows (acZ, S0, r0) x S9 27 _ [vI v10]
      refine g_if_eq (n := 30) C 45 (z_r32 hv10) dX1_allows_27 (by decide) rfl (fun (hc12 : v10 = 0) => ?_) (fun (hc12 : ¬ (v10 = 0)) => ?_)
      · rw [if_pos hc12] at h
        refine g_iconst (n := 46) C dX1_allows_45 rfl ?_
        exact g_zret C rfl (Or.inl rfl) h rfl (Or.inl rfl) hS9 dX1_allows_46
      · rw [if_neg hc12] at h
        refine g_iload_n (n := 31) C 3 dX1_allows_30 rfl rfl ?_
        refine g_iconst (n := 32) C dX1_allows_31 rfl ?_
        refine g_sipush (n := 35) C dX1_allows_32 (by decide +kernel) rfl ?_
        obtain ⟨S13, v14, hq15, h⟩ := cal_e h
        refine g_callSN (n := 38) (As := [vI a3, vI 1, vI 1000]) (rest := []) C 3 (c_X8_within hS9 ha3 (by decide : r32 1) (by decide : r32 1000) hq15) gX1_allows_X8_within_n13 (C.2.2.2.2.2.2.1 rfl).2.1 (by decide +kernel) (by decide +kernel) rfl ⟨rfl, rfl⟩ (by decide +kernel) ⟨Nat.le_of_ble_eq_true rfl, Nat.le_of_ble_eq_true rfl⟩ rfl rfl (Nat.le_of_ble_eq_true rfl) dX1_allows_35 rfl (fun hS13 hv14 => ?_)
        show GW (sX D t ad) mi_X1_allows (acZ, S0, r0) x S13 38 _ [vI v14]
        refine g_if_eq (n := 41) C 45 (z_r32 hv14) dX1_allows_38 (by decide) rfl (fun (hc16 : v14 = 0) => ?_) (fun (hc16 : ¬ (v14 = 0)) => ?_)
        · rw [if_pos hc16] at h
          refine g_iconst (n := 46) C dX1_allows_45 rfl ?_
          exact g_zret C rfl (Or.inl rfl) h rfl (Or.inl rfl) hS13 dX1_allows_46
        · rw [if_neg hc16] at h
          refine g_iconst (n := 42) C dX1_allows_41 rfl ?_
          refine g_goto C 46 dX1_allows_42 (by decide) ?_
          exact g_zret C rfl (Or.inr rfl) h rfl (Or.inr rfl) hS13 dX1_allows_46
-- RX1 tell
abbrev rm_X1_tell : Room := ({ frames := 0, cells := 0, slots := 0, locals := 0 } : Room)
abbrev mi_X1_tell : Mi := (cX1_tell, 6, RX1, wsX1_tell, rm_X1_tell, none)
set_option maxRecDepth 20000 in
theorem in_X1_tell_X1 : ∀ w ∈ u_ws RX1 TX1 10, w ∈ wsX1_tell := by decide +kernel
def dn_X1_tell (o : Int) (a0 : Int) (a1 : Int) (a2 : Int) (a3 : Int) (a4 : Int) (S : St) : Option (St × Int) := (nmS (stU S (o.toNat + 30) 1 a0) fun S1 => (nmS (stU S1 (o.toNat + 30) 2 a1) fun S2 => (nmS (stU S2 (o.toNat + 30) 3 a2) fun S3 => (nmS (stU S3 (o.toNat + 30) 4 a3) fun S4 => (nmS (stU S4 (o.toNat + 30) 5 a4) fun S5 => (nmS (stU S5 (o.toNat + 30) 6 0) fun S6 => (nmS (stU S6 (o.toNat + 30) 7 a3) fun S7 => (nmS (stU S7 (o.toNat + 30) 8 0) fun S8 => (nmS (stU S8 (o.toNat + 30) 9 0) fun S9 => some (S9, 0))))))))))
set_option maxRecDepth 100000 in
set_option maxHeartbeats 4000000 in
theorem c_X1_tell {l : Launch} {D : va_G} {t : T5} {ad : Nat → Nat} {S S0 : St} {r0 : Int} {o a0 a1 a2 a3 a4 : Int} (hS : RS S) (ho : 0 ≤ o ∧ o < (60 : Nat)) (ha0 : r32 a0) (ha1 : r32 a1) (ha2 : r32 a2) (ha3 : r32 a3) (ha4 : r32 a4) (h : dn_X1_tell o a0 a1 a2 a3 a4 S = some (S0, r0)) : Mc l (sX D t ad) yX1_tell wsX1_tell rm_X1_tell [.ref (ad (o.toNat + 30)), vI a0, vI a1, vI a2, vI a3, vI a4] acV S S0 r0 := by
  refine Mc_of (cc := cX1_tell) (nL := 6) (ret := none) (by decide +kernel) rfl (Nat.le_of_ble_eq_true rfl) (lv := [(0, .ref (ad (o.toNat + 30))), (1, vI a0), (2, vI a1), (3, vI a2), (4, vI a3), (5, vI a4)]) rfl (fun x C _ => ?_)
  unfold dn_X1_tell at h
  show GW (sX D t ad) mi_X1_tell (acV, S0, r0) x S 0 [(0, .ref (ad (o.toNat + 30))), (1, vI a0), (2, vI a1), (3, vI a2), (4, vI a3), (5, vI a4)] []
  refine g_aload_n (n := 1) C 0 dX1_tell_0 rfl rfl ?_
  refine g_iload_n (n := 2) C 1 dX1_tell_1 rfl rfl ?_
  obtain ⟨S1, eS1, h⟩ := nmS_e h
  have hS1 : RS S1 := by rw [eS1]; exact RS_i hS ha0
  refine g_putI (n := 5) C (o.toNat + 30) 1 rfl (tn_add ho (Nat.le_of_ble_eq_true rfl)) (dX_call (tn_lt ho (Nat.le_refl _))) rfl rfl (Nat.le_of_ble_eq_true rfl) in_X1_tell_X1 tyX1_ok nmX1 (by decide +kernel) rfl (by decide +kernel) (Nat.le_of_ble_eq_true rfl) eS1 dX1_tell_2 rfl ?_
  refine g_aload_n (n := 6) C 0 dX1_tell_5 rfl rfl ?_
  refine g_iload_n (n := 7) C 2 dX1_tell_6 rfl rfl ?_
  obtain ⟨S2, eS2, h⟩ := nmS_e h
  have hS2 : RS S2 := by rw [eS2]; exact RS_i hS1 ha1
  refine g_putI (n := 10) C (o.toNat + 30) 2 rfl (tn_add ho (Nat.le_of_ble_eq_true rfl)) (dX_call (tn_lt ho (Nat.le_refl _))) rfl rfl (Nat.le_of_ble_eq_true rfl) in_X1_tell_X1 tyX1_ok nmX1 (by decide +kernel) rfl (by decide +kernel) (Nat.le_of_ble_eq_true rfl) eS2 dX1_tell_7 rfl ?_
  refine g_aload_n (n := 11) C 0 dX1_tell_10 rfl rfl ?_
  refine g_iload_n (n := 12) C 3 dX1_tell_11 rfl rfl ?_
  obtain ⟨S3, eS3, h⟩ := nmS_e h
  have hS3 : RS S3 := by rw [eS3]; exact RS_i hS2 ha2
  refine g_putI (n := 15) C (o.toNat + 30) 3 rfl (tn_add ho (Nat.le_of_ble_eq_true rfl)) (dX_call (tn_lt ho (Nat.le_refl _))) rfl rfl (Nat.le_of_ble_eq_true rfl) in_X1_tell_X1 tyX1_ok nmX1 (by decide +kernel) rfl (by decide +kernel) (Nat.le_of_ble_eq_true rfl) eS3 dX1_tell_12 rfl ?_
  refine g_aload_n (n := 16) C 0 dX1_tell_15 rfl rfl ?_
  refine g_iload (n := 18) C 4 dX1_tell_16 rfl rfl ?_
  obtain ⟨S4, eS4, h⟩ := nmS_e h
  have hS4 : RS S4 := by rw [eS4]; exact RS_i hS3 ha3
  refine g_putI (n := 21) C (o.toNat + 30) 4 rfl (tn_add ho (Nat.le_of_ble_eq_true rfl)) (dX_call (tn_lt ho (Nat.le_refl _))) rfl rfl (Nat.le_of_ble_eq_true rfl) in_X1_tell_X1 tyX1_ok nmX1 (by decide +kernel) rfl (by decide +kernel) (Nat.le_of_ble_eq_true rfl) eS4 dX1_tell_18 rfl ?_
  refine g_aload_n (n := 22) C 0 dX1_tell_21 rfl rfl ?_
  refine g_iload (n := 24) C 5 dX1_tell_22 rfl rfl ?_
  obtain ⟨S5, eS5, h⟩ := nmS_e h
  have hS5 : RS S5 := by rw [eS5]; exact RS_i hS4 ha4
  refine g_putI (n := 27) C (o.toNat + 30) 5 rfl (tn_add ho (Nat.le_of_ble_eq_true rfl)) (dX_call (tn_lt ho (Nat.le_refl _))) rfl rfl (Nat.le_of_ble_eq_true rfl) in_X1_tell_X1 tyX1_ok nmX1 (by decide +kernel) rfl (by decide +kernel) (Nat.le_of_ble_eq_true rfl) eS5 dX1_tell_24 rfl ?_
  refine g_aload_n (n := 28) C 0 dX1_tell_27 rfl rfl ?_
  refine g_iconst (n := 29) C dX1_tell_28 rfl ?_
  obtain ⟨S6, eS6, h⟩ := nmS_e h
  have hS6 : RS S6 := by rw [eS6]; exact RS_i hS5 (by decide : r32 0)
  refine g_putI (n := 32) C (o.toNat + 30) 6 rfl (tn_add ho (Nat.le_of_ble_eq_true rfl)) (dX_call (tn_lt ho (Nat.le_refl _))) rfl rfl (Nat.le_of_ble_eq_true rfl) in_X1_tell_X1 tyX1_ok nmX1 (by decide +kernel) rfl (by decide +kernel) (Nat.le_of_ble_eq_true rfl) eS6 dX1_tell_29 rfl ?_
  refine g_aload_n (n := 33) C 0 dX1_tell_32 rfl rfl ?_
  refine g_iload (n := 35) C 4 dX1_tell_33 rfl rfl ?_
  obtain ⟨S7, eS7, h⟩ := nmS_e h
  have hS7 : RS S7 := by rw [eS7]; exact RS_i hS6 ha3
  refine g_putI (n := 38) C (o.toNat + 30) 7 rfl (tn_add ho (Nat.le_of_ble_eq_true rfl)) (dX_call (tn_lt ho (Nat.le_refl _))) rfl rfl (Nat.le_of_ble_eq_true rfl) in_X1_tell_X1 tyX1_ok nmX1 (by decide +kernel) rfl (by decide +kernel) (Nat.le_of_ble_eq_true rfl) eS7 dX1_tell_35 rfl ?_
  refine g_aload_n (n := 39) C 0 dX1_tell_38 rfl rfl ?_
  refine g_iconst (n := 40) C dX1_tell_39 rfl ?_
  obtain ⟨S8, eS8, h⟩ := nmS_e h
  have hS8 : RS S8 := by rw [eS8]; exact RS_i hS7 (by decide : r32 0)
  refine g_putI (n := 43) C (o.toNat + 30) 8 rfl (tn_add ho (Nat.le_of_ble_eq_true rfl)) (dX_call (tn_lt ho (Nat.le_refl _))) rfl rfl (Nat.le_of_ble_eq_true rfl) in_X1_tell_X1 tyX1_ok nmX1 (by decide +kernel) rfl (by decide +kernel) (Nat.le_of_ble_eq_true rfl) eS8 dX1_tell_40 rfl ?_
  refine g_aload_n (n := 44) C 0 dX1_tell_43 rfl rfl ?_
  refine g_iconst (n := 45) C dX1_tell_44 rfl ?_
  obtain ⟨S9, eS9, h⟩ := nmS_e h
  have hS9 : RS S9 := by rw [eS9]; exact RS_i hS8 (by decide : r32 0)
  refine g_putZ (n := 48) C (o.toNat + 30) 9 rfl (tn_add ho (Nat.le_of_ble_eq_true rfl)) (dX_call (tn_lt ho (Nat.le_refl _))) rfl rfl (Nat.le_of_ble_eq_true rfl) in_X1_tell_X1 tyX1_ok nmX1 (by decide +kernel) rfl (by decide +kernel) (Nat.le_of_ble_eq_true rfl) (Or.inl rfl) eS9 dX1_tell_45 rfl ?_
  exact g_vret C rfl h rfl trivial hS9 dX1_tell_48
-- RX1 waitFrom
abbrev rm_X1_waitFrom : Room := ({ frames := 0, cells := 0, slots := 0, locals := 0 } : Room)
abbrev mi_X1_waitFrom : Mi := (cX1_waitFrom, 2, RX1, wsX1_waitFrom, rm_X1_waitFrom, none)
set_option maxRecDepth 20000 in
theorem in_X1_waitFrom_X1 : ∀ w ∈ u_ws RX1 TX1 10, w ∈ wsX1_waitFrom := by decide +kernel
def dn_X1_waitFrom (o : Int) (a0 : Int) (S : St) : Option (St × Int) := (nmS (stU S (o.toNat + 30) 6 1) fun S1 => (nmS (stU S1 (o.toNat + 30) 8 a0) fun S2 => some (S2, 0)))
set_option maxRecDepth 100000 in
set_option maxHeartbeats 4000000 in
theorem c_X1_waitFrom {l : Launch} {D : va_G} {t : T5} {ad : Nat → Nat} {S S0 : St} {r0 : Int} {o a0 : Int} (hS : RS S) (ho : 0 ≤ o ∧ o < (60 : Nat)) (ha0 : r32 a0) (h : dn_X1_waitFrom o a0 S = some (S0, r0)) : Mc l (sX D t ad) yX1_waitFrom wsX1_waitFrom rm_X1_waitFrom [.ref (ad (o.toNat + 30)), vI a0] acV S S0 r0 := by
  refine Mc_of (cc := cX1_waitFrom) (nL := 2) (ret := none) (by decide +kernel) rfl (Nat.le_of_ble_eq_true rfl) (lv := [(0, .ref (ad (o.toNat + 30))), (1, vI a0)]) rfl (fun x C _ => ?_)
  unfold dn_X1_waitFrom at h
  show GW (sX D t ad) mi_X1_waitFrom (acV, S0, r0) x S 0 [(0, .ref (ad (o.toNat + 30))), (1, vI a0)] []
  refine g_aload_n (n := 1) C 0 dX1_waitFrom_0 rfl rfl ?_
  refine g_iconst (n := 2) C dX1_waitFrom_1 rfl ?_
  obtain ⟨S1, eS1, h⟩ := nmS_e h
  have hS1 : RS S1 := by rw [eS1]; exact RS_i hS (by decide : r32 1)
  refine g_putI (n := 5) C (o.toNat + 30) 6 rfl (tn_add ho (Nat.le_of_ble_eq_true rfl)) (dX_call (tn_lt ho (Nat.le_refl _))) rfl rfl (Nat.le_of_ble_eq_true rfl) in_X1_waitFrom_X1 tyX1_ok nmX1 (by decide +kernel) rfl (by decide +kernel) (Nat.le_of_ble_eq_true rfl) eS1 dX1_waitFrom_2 rfl ?_
  refine g_aload_n (n := 6) C 0 dX1_waitFrom_5 rfl rfl ?_
  refine g_iload_n (n := 7) C 1 dX1_waitFrom_6 rfl rfl ?_
  obtain ⟨S2, eS2, h⟩ := nmS_e h
  have hS2 : RS S2 := by rw [eS2]; exact RS_i hS1 ha0
  refine g_putI (n := 10) C (o.toNat + 30) 8 rfl (tn_add ho (Nat.le_of_ble_eq_true rfl)) (dX_call (tn_lt ho (Nat.le_refl _))) rfl rfl (Nat.le_of_ble_eq_true rfl) in_X1_waitFrom_X1 tyX1_ok nmX1 (by decide +kernel) rfl (by decide +kernel) (Nat.le_of_ble_eq_true rfl) eS2 dX1_waitFrom_7 rfl ?_
  exact g_vret C rfl h rfl trivial hS2 dX1_waitFrom_10
-- RX1 wantSecond
abbrev rm_X1_wantSecond : Room := ({ frames := 1, cells := 0, slots := 0, locals := 21 } : Room)
abbrev mi_X1_wantSecond : Mi := (cX1_wantSecond, 2, RX1, wsX1_wantSecond, rm_X1_wantSecond, none)
set_option maxRecDepth 20000 in
theorem in_X1_wantSecond_X1 : ∀ w ∈ u_ws RX1 TX1 10, w ∈ wsX1_wantSecond := by decide +kernel
def dn_X1_wantSecond (o : Int) (a0 : Int) (S : St) : Option (St × Int) := (nmS (stU S (o.toNat + 30) 9 1) fun S1 => (nmS (stU S1 (o.toNat + 30) 7 (S1 (o.toNat + 30) 4)) fun S2 => (cal (dn_X1_waitFrom o a0 S2) fun S3 v4 => some (S3, 0))))
set_option maxRecDepth 100000 in
set_option maxHeartbeats 4000000 in
theorem c_X1_wantSecond {l : Launch} {D : va_G} {t : T5} {ad : Nat → Nat} {S S0 : St} {r0 : Int} {o a0 : Int} (hS : RS S) (ho : 0 ≤ o ∧ o < (60 : Nat)) (ha0 : r32 a0) (h : dn_X1_wantSecond o a0 S = some (S0, r0)) : Mc l (sX D t ad) yX1_wantSecond wsX1_wantSecond rm_X1_wantSecond [.ref (ad (o.toNat + 30)), vI a0] acV S S0 r0 := by
  refine Mc_of (cc := cX1_wantSecond) (nL := 2) (ret := none) (by decide +kernel) rfl (Nat.le_of_ble_eq_true rfl) (lv := [(0, .ref (ad (o.toNat + 30))), (1, vI a0)]) rfl (fun x C _ => ?_)
  unfold dn_X1_wantSecond at h
  show GW (sX D t ad) mi_X1_wantSecond (acV, S0, r0) x S 0 [(0, .ref (ad (o.toNat + 30))), (1, vI a0)] []
  refine g_aload_n (n := 1) C 0 dX1_wantSecond_0 rfl rfl ?_
  refine g_iconst (n := 2) C dX1_wantSecond_1 rfl ?_
  obtain ⟨S1, eS1, h⟩ := nmS_e h
  have hS1 : RS S1 := by rw [eS1]; exact RS_i hS (by decide : r32 1)
  refine g_putZ (n := 5) C (o.toNat + 30) 9 rfl (tn_add ho (Nat.le_of_ble_eq_true rfl)) (dX_call (tn_lt ho (Nat.le_refl _))) rfl rfl (Nat.le_of_ble_eq_true rfl) in_X1_wantSecond_X1 tyX1_ok nmX1 (by decide +kernel) rfl (by decide +kernel) (Nat.le_of_ble_eq_true rfl) (Or.inr rfl) eS1 dX1_wantSecond_2 rfl ?_
  refine g_aload_n (n := 6) C 0 dX1_wantSecond_5 rfl rfl ?_
  refine g_aload_n (n := 7) C 0 dX1_wantSecond_6 rfl rfl ?_
  refine g_getI (n := 10) C (o.toNat + 30) 4 rfl (tn_add ho (Nat.le_of_ble_eq_true rfl)) (dX_call (tn_lt ho (Nat.le_refl _))) rfl rfl (Nat.le_of_ble_eq_true rfl) in_X1_wantSecond_X1 (by decide +kernel) dX1_wantSecond_7 rfl ?_
  obtain ⟨S2, eS2, h⟩ := nmS_e h
  have hS2 : RS S2 := by rw [eS2]; exact RS_i hS1 ((hS1 (o.toNat + 30) 4).2 (by decide))
  refine g_putI (n := 13) C (o.toNat + 30) 7 rfl (tn_add ho (Nat.le_of_ble_eq_true rfl)) (dX_call (tn_lt ho (Nat.le_refl _))) rfl rfl (Nat.le_of_ble_eq_true rfl) in_X1_wantSecond_X1 tyX1_ok nmX1 (by decide +kernel) rfl (by decide +kernel) (Nat.le_of_ble_eq_true rfl) eS2 dX1_wantSecond_10 rfl ?_
  refine g_aload_n (n := 14) C 0 dX1_wantSecond_13 rfl rfl ?_
  refine g_iload_n (n := 15) C 1 dX1_wantSecond_14 rfl rfl ?_
  obtain ⟨S3, v4, hq5, h⟩ := cal_e h
  refine g_callV (n := 18) (As := [vI a0]) (rest := []) C (o.toNat + 30) 1 (tn_add ho (Nat.le_of_ble_eq_true rfl)) (dX_call (tn_lt ho (Nat.le_refl _))) rfl (c_X1_waitFrom hS2 ho ha0 hq5) gX1_wantSecond_X1_waitFrom rfl ⟨rfl, rfl⟩ (by decide +kernel) ⟨Nat.le_of_ble_eq_true rfl, Nat.le_of_ble_eq_true rfl⟩ rfl rfl rfl (Nat.le_of_ble_eq_true rfl) dX1_wantSecond_15 rfl (fun hS3 hv4 => ?_)
  show GW (sX D t ad) mi_X1_wantSecond (acV, S0, r0) x S3 18 _ []
  exact g_vret C rfl h rfl trivial hS3 dX1_wantSecond_18
-- RX2 join
abbrev rm_X2_join : Room := ({ frames := 1, cells := 0, slots := 0, locals := 22 } : Room)
abbrev mi_X2_join : Mi := (cX2_join, 2, RX2, wsX2_join, rm_X2_join, (some .int))
set_option maxRecDepth 20000 in
theorem in_X2_join_X2 : ∀ w ∈ u_ws RX2 TX2 7, w ∈ wsX2_join := by decide +kernel
def dn_X2_join (a0 : Int) (S : St) : Option (St × Int) := (cal (dn_X8_within a0 1 4 S) fun S1 v2 => (if v2 = 0 then some (S1, (-1)) else (if S1 14 3 < 6 then (if 0 ≤ S1 14 3 ∧ S1 14 3 < 6 then (nmS (stU S1 15 (S1 14 3).toNat a0) fun S7 => (nmS (stU S7 14 3 (w32 ((S7 14 3) + 1))) fun S8 => (nmS (stU S8 14 4 0) fun S9 => some (S9, S9 14 3)))) else none) else some (S1, (-1)))))
set_option maxRecDepth 100000 in
set_option maxHeartbeats 4000000 in
theorem c_X2_join {l : Launch} {D : va_G} {t : T5} {ad : Nat → Nat} {S S0 : St} {r0 : Int} {a0 : Int} (hS : RS S) (ha0 : r32 a0) (h : dn_X2_join a0 S = some (S0, r0)) : Mc l (sX D t ad) yX2_join wsX2_join rm_X2_join [.ref (ad 14), vI a0] acI S S0 r0 := by
  refine Mc_of (cc := cX2_join) (nL := 2) (ret := (some .int)) (by decide +kernel) rfl (Nat.le_of_ble_eq_true rfl) (lv := [(0, .ref (ad 14)), (1, vI a0)]) rfl (fun x C _ => ?_)
  unfold dn_X2_join at h
  show GW (sX D t ad) mi_X2_join (acI, S0, r0) x S 0 [(0, .ref (ad 14)), (1, vI a0)] []
  refine g_iload_n (n := 1) C 1 dX2_join_0 rfl rfl ?_
  refine g_iconst (n := 2) C dX2_join_1 rfl ?_
  refine g_iconst (n := 3) C dX2_join_2 rfl ?_
  obtain ⟨S1, v2, hq3, h⟩ := cal_e h
  refine g_callSN (n := 6) (As := [vI a0, vI 1, vI 4]) (rest := []) C 3 (c_X8_within hS ha0 (by decide : r32 1) (by decide : r32 4) hq3) gX2_join_X8_within_n22 (C.2.2.2.2.2.2.1 rfl).2.2.1 (by decide +kernel) (by decide +kernel) rfl ⟨rfl, rfl⟩ (by decide +kernel) ⟨Nat.le_of_ble_eq_true rfl, Nat.le_of_ble_eq_true rfl⟩ rfl rfl (Nat.le_of_ble_eq_true rfl) dX2_join_3 rfl (fun hS1 hv2 => ?_)
  show GW (sX D t ad) mi_X2_join (acI, S0, r0) x S1 6 _ [vI v2]
  refine g_if_eq (n := 9) C 18 (z_r32 hv2) dX2_join_6 (by decide) rfl (fun (hc4 : v2 = 0) => ?_) (fun (hc4 : ¬ (v2 = 0)) => ?_)
  · rw [if_pos hc4] at h
    refine g_iconst (n := 19) C dX2_join_18 rfl ?_
    exact g_iret C rfl h rfl (by decide : r32 (-1)) hS1 dX2_join_19
  · rw [if_neg hc4] at h
    refine g_aload_n (n := 10) C 0 dX2_join_9 rfl rfl ?_
    refine g_getI (n := 13) C 14 3 rfl (Nat.le_of_ble_eq_true rfl) rfl rfl rfl (Nat.le_of_ble_eq_true rfl) in_X2_join_X2 (by decide +kernel) dX2_join_10 rfl ?_
    refine g_bipush (n := 15) C dX2_join_13 (by decide +kernel) rfl ?_
    refine g_icmp_lt (n := 18) C 20 ((hS1 14 3).2 (by decide)) (by decide : r32 6) dX2_join_15 (by decide) rfl (fun (hc5 : S1 14 3 < 6) => ?_) (fun (hc5 : ¬ (S1 14 3 < 6)) => ?_)
    · rw [if_pos hc5] at h
      refine g_aload_n (n := 21) C 0 dX2_join_20 rfl rfl ?_
      refine g_getC (n := 24) C 14 0 rfl (Nat.le_of_ble_eq_true rfl) rfl rfl rfl (Nat.le_of_ble_eq_true rfl) in_X2_join_X2 (by decide +kernel) dX2_join_21 rfl ?_
      refine g_aload_n (n := 25) C 0 dX2_join_24 rfl rfl ?_
      refine g_getI (n := 28) C 14 3 rfl (Nat.le_of_ble_eq_true rfl) rfl rfl rfl (Nat.le_of_ble_eq_true rfl) in_X2_join_X2 (by decide +kernel) dX2_join_25 rfl ?_
      refine g_iload_n (n := 29) C 1 dX2_join_28 rfl rfl ?_
      obtain ⟨hg6, h⟩ := gd_e h
      obtain ⟨S7, eS7, h⟩ := nmS_e h
      have hS7 : RS S7 := by rw [eS7]; exact RS_i hS1 ha0
      refine g_iast (n := 30) C 15 rfl (Nat.le_of_ble_eq_true rfl) rfl rfl hg6 ((hS1 14 3).2 (by decide)) eS7 dX2_join_29 rfl ?_
      refine g_aload_n (n := 31) C 0 dX2_join_30 rfl rfl ?_
      refine g_dup (n := 32) C rfl dX2_join_31 rfl ?_
      refine g_getI (n := 35) C 14 3 rfl (Nat.le_of_ble_eq_true rfl) rfl rfl rfl (Nat.le_of_ble_eq_true rfl) in_X2_join_X2 (by decide +kernel) dX2_join_32 rfl ?_
      refine g_iconst (n := 36) C dX2_join_35 rfl ?_
      refine g_iadd (n := 37) C dX2_join_36 rfl ?_
      obtain ⟨S8, eS8, h⟩ := nmS_e h
      have hS8 : RS S8 := by rw [eS8]; exact RS_i hS7 (w32_r _)
      refine g_putI (n := 40) C 14 3 rfl (Nat.le_of_ble_eq_true rfl) rfl rfl rfl (Nat.le_of_ble_eq_true rfl) in_X2_join_X2 tyX2_ok nmX2 (by decide +kernel) rfl (by decide +kernel) (Nat.le_of_ble_eq_true rfl) eS8 dX2_join_37 rfl ?_
      refine g_aload_n (n := 41) C 0 dX2_join_40 rfl rfl ?_
      refine g_iconst (n := 42) C dX2_join_41 rfl ?_
      obtain ⟨S9, eS9, h⟩ := nmS_e h
      have hS9 : RS S9 := by rw [eS9]; exact RS_i hS8 (by decide : r32 0)
      refine g_putI (n := 45) C 14 4 rfl (Nat.le_of_ble_eq_true rfl) rfl rfl rfl (Nat.le_of_ble_eq_true rfl) in_X2_join_X2 tyX2_ok nmX2 (by decide +kernel) rfl (by decide +kernel) (Nat.le_of_ble_eq_true rfl) eS9 dX2_join_42 rfl ?_
      refine g_aload_n (n := 46) C 0 dX2_join_45 rfl rfl ?_
      refine g_getI (n := 49) C 14 3 rfl (Nat.le_of_ble_eq_true rfl) rfl rfl rfl (Nat.le_of_ble_eq_true rfl) in_X2_join_X2 (by decide +kernel) dX2_join_46 rfl ?_
      exact g_iret C rfl h rfl ((hS9 14 3).2 (by decide)) hS9 dX2_join_49
    · rw [if_neg hc5] at h
      refine g_iconst (n := 19) C dX2_join_18 rfl ?_
      exact g_iret C rfl h rfl (by decide : r32 (-1)) hS1 dX2_join_19
-- RX2 dismiss
abbrev rm_X2_dismiss : Room := ({ frames := 0, cells := 0, slots := 0, locals := 0 } : Room)
abbrev mi_X2_dismiss : Mi := (cX2_dismiss, 2, RX2, wsX2_dismiss, rm_X2_dismiss, (some .int))
set_option maxRecDepth 20000 in
theorem in_X2_dismiss_X2 : ∀ w ∈ u_ws RX2 TX2 7, w ∈ wsX2_dismiss := by decide +kernel
def dn_X2_dismiss (S : St) : Option (St × Int) := (nmV (S 14 3) fun v1 => (nmS (stU S 14 3 0) fun S2 => (nmS (stU S2 14 4 0) fun S3 => some (S3, v1))))
set_option maxRecDepth 100000 in
set_option maxHeartbeats 4000000 in
theorem c_X2_dismiss {l : Launch} {D : va_G} {t : T5} {ad : Nat → Nat} {S S0 : St} {r0 : Int} (hS : RS S) (h : dn_X2_dismiss S = some (S0, r0)) : Mc l (sX D t ad) yX2_dismiss wsX2_dismiss rm_X2_dismiss [.ref (ad 14)] acI S S0 r0 := by
  refine Mc_of (cc := cX2_dismiss) (nL := 2) (ret := (some .int)) (by decide +kernel) rfl (Nat.le_of_ble_eq_true rfl) (lv := [(0, .ref (ad 14))]) rfl (fun x C _ => ?_)
  unfold dn_X2_dismiss at h
  show GW (sX D t ad) mi_X2_dismiss (acI, S0, r0) x S 0 [(0, .ref (ad 14))] []
  refine g_aload_n (n := 1) C 0 dX2_dismiss_0 rfl rfl ?_
  refine g_getI (n := 4) C 14 3 rfl (Nat.le_of_ble_eq_true rfl) rfl rfl rfl (Nat.le_of_ble_eq_true rfl) in_X2_dismiss_X2 (by decide +kernel) dX2_dismiss_1 rfl ?_
  obtain ⟨v1, ev1, h⟩ := nmV_e h
  have hv1 : r32 v1 := by rw [ev1]; exact (hS 14 3).2 (by decide)
  refine g_istore_n (n := 5) (lv' := [(1, vI v1), (0, .ref (ad 14))]) C dX2_dismiss_4 (Nat.le_of_ble_eq_true rfl) ev1 rfl rfl ?_
  refine g_aload_n (n := 6) C 1 dX2_dismiss_5 rfl rfl ?_
  refine g_iconst (n := 7) C dX2_dismiss_6 rfl ?_
  obtain ⟨S2, eS2, h⟩ := nmS_e h
  have hS2 : RS S2 := by rw [eS2]; exact RS_i hS (by decide : r32 0)
  refine g_putI (n := 10) C 14 3 rfl (Nat.le_of_ble_eq_true rfl) rfl rfl rfl (Nat.le_of_ble_eq_true rfl) in_X2_dismiss_X2 tyX2_ok nmX2 (by decide +kernel) rfl (by decide +kernel) (Nat.le_of_ble_eq_true rfl) eS2 dX2_dismiss_7 rfl ?_
  refine g_aload_n (n := 11) C 1 dX2_dismiss_10 rfl rfl ?_
  refine g_iconst (n := 12) C dX2_dismiss_11 rfl ?_
  obtain ⟨S3, eS3, h⟩ := nmS_e h
  have hS3 : RS S3 := by rw [eS3]; exact RS_i hS2 (by decide : r32 0)
  refine g_putI (n := 15) C 14 4 rfl (Nat.le_of_ble_eq_true rfl) rfl rfl rfl (Nat.le_of_ble_eq_true rfl) in_X2_dismiss_X2 tyX2_ok nmX2 (by decide +kernel) rfl (by decide +kernel) (Nat.le_of_ble_eq_true rfl) eS3 dX2_dismiss_12 rfl ?_
  refine g_iload_n (n := 16) C 0 dX2_dismiss_15 rfl rfl ?_
  exact g_iret C rfl h rfl hv1 hS3 dX2_dismiss_16
-- RX2 goToFirstRow
abbrev rm_X2_goToFirstRow : Room := ({ frames := 0, cells := 0, slots := 0, locals := 0 } : Room)
abbrev mi_X2_goToFirstRow : Mi := (cX2_goToFirstRow, 2, RX2, wsX2_goToFirstRow, rm_X2_goToFirstRow, none)
set_option maxRecDepth 20000 in
theorem in_X2_goToFirstRow_X2 : ∀ w ∈ u_ws RX2 TX2 7, w ∈ wsX2_goToFirstRow := by decide +kernel
def dn_X2_goToFirstRow_26 : Nat → Int → St → Option (St × Int)
  | 0, _, _ => none
  | n + 1, x1, S => (if 6 ≤ x1 then some (S, 0) else (if 0 ≤ x1 ∧ x1 < 6 then (nmS (stU S 16 x1.toNat 0) fun S4 => (nmV (w32 (x1 + 1)) fun v5 => dn_X2_goToFirstRow_26 n v5 S4)) else none))
set_option maxRecDepth 100000 in
set_option maxHeartbeats 4000000 in
theorem u_X2_goToFirstRow_26 {D : va_G} {t : T5} {ad : Nat → Nat} {S0 : St} {r0 : Int} {x : Mx} (C : CX (sX D t ad) mi_X2_goToFirstRow x) : ∀ (n : Nat) (x1 : Int) (S : St), RS S → (r32 x1) → dn_X2_goToFirstRow_26 n x1 S = some (S0, r0) → GW (sX D t ad) mi_X2_goToFirstRow (acV, S0, r0) x S 26 [(0, .ref (ad 14)), (1, vI x1)] [] := by
  intro n
  induction n with
  | zero =>
    intro x1 S hS hx1 h
    cases h
  | succ n ih =>
    intro x1 S hS hx1 h
    rw [dn_X2_goToFirstRow_26] at h
    refine g_iload_n (n := 27) C 1 dX2_goToFirstRow_26 rfl rfl ?_
    refine g_bipush (n := 29) C dX2_goToFirstRow_27 (by decide +kernel) rfl ?_
    refine g_icmp_ge (n := 32) C 45 hx1 (by decide : r32 6) dX2_goToFirstRow_29 (by decide) rfl (fun (hc2 : 6 ≤ x1) => ?_) (fun (hc2 : ¬ (6 ≤ x1)) => ?_)
    · rw [if_pos hc2] at h
      exact g_vret C rfl h rfl trivial hS dX2_goToFirstRow_45
    · rw [if_neg hc2] at h
      refine g_aload_n (n := 33) C 0 dX2_goToFirstRow_32 rfl rfl ?_
      refine g_getC (n := 36) C 14 1 rfl (Nat.le_of_ble_eq_true rfl) rfl rfl rfl (Nat.le_of_ble_eq_true rfl) in_X2_goToFirstRow_X2 (by decide +kernel) dX2_goToFirstRow_33 rfl ?_
      refine g_iload_n (n := 37) C 1 dX2_goToFirstRow_36 rfl rfl ?_
      refine g_iconst (n := 38) C dX2_goToFirstRow_37 rfl ?_
      obtain ⟨hg3, h⟩ := gd_e h
      obtain ⟨S4, eS4, h⟩ := nmS_e h
      have hS4 : RS S4 := by rw [eS4]; exact RS_i hS (by decide : r32 0)
      refine g_iast (n := 39) C 16 rfl (Nat.le_of_ble_eq_true rfl) rfl rfl hg3 hx1 eS4 dX2_goToFirstRow_38 rfl ?_
      obtain ⟨v5, ev5, h⟩ := nmV_e h
      have hv5 : r32 v5 := by rw [ev5]; exact w32_r _
      refine g_iinc (n := 42) (lv' := [(1, vI v5), (0, .ref (ad 14))]) C 1 dX2_goToFirstRow_39 rfl (Nat.le_of_ble_eq_true rfl) ev5 rfl rfl ?_
      refine g_goto C 26 dX2_goToFirstRow_42 (by decide) ?_
      refine g_lv [1, 0] rfl ?_
      exact ih v5 S4 hS4 hv5 h
def dn_X2_goToFirstRow_2 : Nat → Int → St → Option (St × Int)
  | 0, _, _ => none
  | n + 1, x1, S => (if 245 ≤ x1 then dn_X2_goToFirstRow_26 FU 0 S else (if 0 ≤ x1 ∧ x1 < 245 then (nmS (stU S 17 (100000 + x1.toNat) 0) fun S7 => (nmV (w32 (x1 + 1)) fun v8 => dn_X2_goToFirstRow_2 n v8 S7)) else none))
set_option maxRecDepth 100000 in
set_option maxHeartbeats 4000000 in
theorem u_X2_goToFirstRow_2 {D : va_G} {t : T5} {ad : Nat → Nat} {S0 : St} {r0 : Int} {x : Mx} (C : CX (sX D t ad) mi_X2_goToFirstRow x) : ∀ (n : Nat) (x1 : Int) (S : St), RS S → (r32 x1) → dn_X2_goToFirstRow_2 n x1 S = some (S0, r0) → GW (sX D t ad) mi_X2_goToFirstRow (acV, S0, r0) x S 2 [(0, .ref (ad 14)), (1, vI x1)] [] := by
  intro n
  induction n with
  | zero =>
    intro x1 S hS hx1 h
    cases h
  | succ n ih =>
    intro x1 S hS hx1 h
    rw [dn_X2_goToFirstRow_2] at h
    refine g_iload_n (n := 3) C 1 dX2_goToFirstRow_2 rfl rfl ?_
    refine g_aload_n (n := 4) C 0 dX2_goToFirstRow_3 rfl rfl ?_
    refine g_getC (n := 7) C 14 2 rfl (Nat.le_of_ble_eq_true rfl) rfl rfl rfl (Nat.le_of_ble_eq_true rfl) in_X2_goToFirstRow_X2 (by decide +kernel) dX2_goToFirstRow_4 rfl ?_
    refine g_alen (n := 8) (a := 245) C 17 rfl (Nat.le_of_ble_eq_true rfl) rfl rfl (by decide +kernel) dX2_goToFirstRow_7 rfl ?_
    refine g_icmp_ge (n := 11) C 24 hx1 (by decide : r32 245) dX2_goToFirstRow_8 (by decide) rfl (fun (hc1 : 245 ≤ x1) => ?_) (fun (hc1 : ¬ (245 ≤ x1)) => ?_)
    · rw [if_pos hc1] at h
      refine g_iconst (n := 25) C dX2_goToFirstRow_24 rfl ?_
      refine g_istore_n (n := 26) (lv' := [(1, vI 0), (0, .ref (ad 14))]) C dX2_goToFirstRow_25 (Nat.le_of_ble_eq_true rfl) rfl rfl rfl ?_
      refine g_lv [1, 0] rfl ?_
      exact u_X2_goToFirstRow_26 C FU 0 S hS (by decide : r32 0) h
    · rw [if_neg hc1] at h
      refine g_aload_n (n := 12) C 0 dX2_goToFirstRow_11 rfl rfl ?_
      refine g_getC (n := 15) C 14 2 rfl (Nat.le_of_ble_eq_true rfl) rfl rfl rfl (Nat.le_of_ble_eq_true rfl) in_X2_goToFirstRow_X2 (by decide +kernel) dX2_goToFirstRow_12 rfl ?_
      refine g_iload_n (n := 16) C 1 dX2_goToFirstRow_15 rfl rfl ?_
      refine g_lconst (n := 17) (w := 0) C dX2_goToFirstRow_16 (by decide +kernel) rfl ?_
      obtain ⟨hg6, h⟩ := gd_e h
      obtain ⟨S7, eS7, h⟩ := nmS_e h
      have hS7 : RS S7 := by rw [eS7]; exact RS_l hS (by decide : r64 0) (Nat.le_add_right _ _)
      refine g_last (n := 18) C 17 rfl (Nat.le_of_ble_eq_true rfl) rfl rfl hg6 hx1 eS7 dX2_goToFirstRow_17 rfl ?_
      obtain ⟨v8, ev8, h⟩ := nmV_e h
      have hv8 : r32 v8 := by rw [ev8]; exact w32_r _
      refine g_iinc (n := 21) (lv' := [(1, vI v8), (0, .ref (ad 14))]) C 1 dX2_goToFirstRow_18 rfl (Nat.le_of_ble_eq_true rfl) ev8 rfl rfl ?_
      refine g_goto C 2 dX2_goToFirstRow_21 (by decide) ?_
      refine g_lv [1, 0] rfl ?_
      exact ih v8 S7 hS7 hv8 h
def dn_X2_goToFirstRow (S : St) : Option (St × Int) := dn_X2_goToFirstRow_2 FU 0 S
set_option maxRecDepth 100000 in
set_option maxHeartbeats 4000000 in
theorem c_X2_goToFirstRow {l : Launch} {D : va_G} {t : T5} {ad : Nat → Nat} {S S0 : St} {r0 : Int} (hS : RS S) (h : dn_X2_goToFirstRow S = some (S0, r0)) : Mc l (sX D t ad) yX2_goToFirstRow wsX2_goToFirstRow rm_X2_goToFirstRow [.ref (ad 14)] acV S S0 r0 := by
  refine Mc_of (cc := cX2_goToFirstRow) (nL := 2) (ret := none) (by decide +kernel) rfl (Nat.le_of_ble_eq_true rfl) (lv := [(0, .ref (ad 14))]) rfl (fun x C _ => ?_)
  unfold dn_X2_goToFirstRow at h
  show GW (sX D t ad) mi_X2_goToFirstRow (acV, S0, r0) x S 0 [(0, .ref (ad 14))] []
  refine g_iconst (n := 1) C dX2_goToFirstRow_0 rfl ?_
  refine g_istore_n (n := 2) (lv' := [(1, vI 0), (0, .ref (ad 14))]) C dX2_goToFirstRow_1 (Nat.le_of_ble_eq_true rfl) rfl rfl rfl ?_
  refine g_lv [1, 0] rfl ?_
  exact u_X2_goToFirstRow_2 C FU 0 S hS (by decide : r32 0) h
-- RX2 markReached
abbrev rm_X2_markReached : Room := ({ frames := 1, cells := 0, slots := 0, locals := 22 } : Room)
abbrev mi_X2_markReached : Mi := (cX2_markReached, 2, RX2, wsX2_markReached, rm_X2_markReached, none)
set_option maxRecDepth 20000 in
theorem in_X2_markReached_X2 : ∀ w ∈ u_ws RX2 TX2 7, w ∈ wsX2_markReached := by decide +kernel
def dn_X2_markReached (a0 : Int) (S : St) : Option (St × Int) := (cal (dn_X8_within a0 0 15624 S) fun S1 v2 => (if v2 = 0 then some (S1, 0) else (if 0 ≤ w32 (Int.tdiv a0 64) ∧ w32 (Int.tdiv a0 64) < 245 then (nmS (stU S1 17 (100000 + (w32 (Int.tdiv a0 64)).toNat) (orJ (S1 17 (100000 + (w32 (Int.tdiv a0 64)).toNat)) (shlJ 1 (w32 (Int.tmod a0 64))))) fun S6 => some (S6, 0)) else none)))
set_option maxRecDepth 100000 in
set_option maxHeartbeats 4000000 in
theorem c_X2_markReached {l : Launch} {D : va_G} {t : T5} {ad : Nat → Nat} {S S0 : St} {r0 : Int} {a0 : Int} (hS : RS S) (ha0 : r32 a0) (h : dn_X2_markReached a0 S = some (S0, r0)) : Mc l (sX D t ad) yX2_markReached wsX2_markReached rm_X2_markReached [.ref (ad 14), vI a0] acV S S0 r0 := by
  refine Mc_of (cc := cX2_markReached) (nL := 2) (ret := none) (by decide +kernel) rfl (Nat.le_of_ble_eq_true rfl) (lv := [(0, .ref (ad 14)), (1, vI a0)]) rfl (fun x C _ => ?_)
  unfold dn_X2_markReached at h
  show GW (sX D t ad) mi_X2_markReached (acV, S0, r0) x S 0 [(0, .ref (ad 14)), (1, vI a0)] []
  refine g_iload_n (n := 1) C 1 dX2_markReached_0 rfl rfl ?_
  refine g_iconst (n := 2) C dX2_markReached_1 rfl ?_
  refine g_sipush (n := 5) C dX2_markReached_2 (by decide +kernel) rfl ?_
  obtain ⟨S1, v2, hq3, h⟩ := cal_e h
  refine g_callSN (n := 8) (As := [vI a0, vI 0, vI 15624]) (rest := []) C 3 (c_X8_within hS ha0 (by decide : r32 0) (by decide : r32 15624) hq3) gX2_markReached_X8_within_n22 (C.2.2.2.2.2.2.1 rfl).2.2.1 (by decide +kernel) (by decide +kernel) rfl ⟨rfl, rfl⟩ (by decide +kernel) ⟨Nat.le_of_ble_eq_true rfl, Nat.le_of_ble_eq_true rfl⟩ rfl rfl (Nat.le_of_ble_eq_true rfl) dX2_markReached_5 rfl (fun hS1 hv2 => ?_)
  show GW (sX D t ad) mi_X2_markReached (acV, S0, r0) x S1 8 _ [vI v2]
  refine g_if_eq (n := 11) C 29 (z_r32 hv2) dX2_markReached_8 (by decide) rfl (fun (hc4 : v2 = 0) => ?_) (fun (hc4 : ¬ (v2 = 0)) => ?_)
  · rw [if_pos hc4] at h
    exact g_vret C rfl h rfl trivial hS1 dX2_markReached_29
  · rw [if_neg hc4] at h
    refine g_aload_n (n := 12) C 0 dX2_markReached_11 rfl rfl ?_
    refine g_getC (n := 15) C 14 2 rfl (Nat.le_of_ble_eq_true rfl) rfl rfl rfl (Nat.le_of_ble_eq_true rfl) in_X2_markReached_X2 (by decide +kernel) dX2_markReached_12 rfl ?_
    refine g_iload_n (n := 16) C 1 dX2_markReached_15 rfl rfl ?_
    refine g_bipush (n := 18) C dX2_markReached_16 (by decide +kernel) rfl ?_
    refine g_idiv (n := 19) C ha0 (by decide : r32 64) (by decide) dX2_markReached_18 rfl ?_
    refine g_dup2 (n := 20) C rfl rfl dX2_markReached_19 rfl ?_
    obtain ⟨hg5, h⟩ := gd_e h
    refine g_lald (n := 21) C 17 rfl (Nat.le_of_ble_eq_true rfl) rfl rfl hg5 (w32_r _) dX2_markReached_20 rfl ?_
    refine g_lconst (n := 22) (w := 1) C dX2_markReached_21 (by decide +kernel) rfl ?_
    refine g_iload_n (n := 23) C 1 dX2_markReached_22 rfl rfl ?_
    refine g_bipush (n := 25) C dX2_markReached_23 (by decide +kernel) rfl ?_
    refine g_irem (n := 26) C ha0 (by decide : r32 64) (by decide) dX2_markReached_25 rfl ?_
    refine g_lshl (n := 27) C dX2_markReached_26 rfl ?_
    refine g_lor (n := 28) C dX2_markReached_27 rfl ?_
    obtain ⟨S6, eS6, h⟩ := nmS_e h
    have hS6 : RS S6 := by rw [eS6]; exact RS_l hS1 (j_rng _) (Nat.le_add_right _ _)
    refine g_last (n := 29) C 17 rfl (Nat.le_of_ble_eq_true rfl) rfl rfl hg5 (w32_r _) eS6 dX2_markReached_28 rfl ?_
    exact g_vret C rfl h rfl trivial hS6 dX2_markReached_29
-- RX2 stateNumbers
abbrev rm_X2_stateNumbers : Room := ({ frames := 0, cells := 0, slots := 0, locals := 0 } : Room)
abbrev mi_X2_stateNumbers : Mi := (cX2_stateNumbers, 3, RX2, wsX2_stateNumbers, rm_X2_stateNumbers, (some .int))
set_option maxRecDepth 20000 in
theorem in_X2_stateNumbers_X2 : ∀ w ∈ u_ws RX2 TX2 7, w ∈ wsX2_stateNumbers := by decide +kernel
def dn_X2_stateNumbers_4 : Nat → Int → Int → St → Option (St × Int)
  | 0, _, _, _ => none
  | n + 1, x1, x2, S => (if S 14 3 ≤ x2 then some (S, x1) else (if 0 ≤ x2 ∧ x2 < 6 then (nmV (w32 (x1 * (w32 ((S 15 x2.toNat) + 1)))) fun v3 => (nmV (w32 (x2 + 1)) fun v4 => dn_X2_stateNumbers_4 n v3 v4 S)) else none))
set_option maxRecDepth 100000 in
set_option maxHeartbeats 4000000 in
theorem u_X2_stateNumbers_4 {D : va_G} {t : T5} {ad : Nat → Nat} {S0 : St} {r0 : Int} {x : Mx} (C : CX (sX D t ad) mi_X2_stateNumbers x) : ∀ (n : Nat) (x1 : Int) (x2 : Int) (S : St), RS S → (r32 x1) → (r32 x2) → dn_X2_stateNumbers_4 n x1 x2 S = some (S0, r0) → GW (sX D t ad) mi_X2_stateNumbers (acI, S0, r0) x S 4 [(0, .ref (ad 14)), (1, vI x1), (2, vI x2)] [] := by
  intro n
  induction n with
  | zero =>
    intro x1 x2 S hS hx1 hx2 h
    cases h
  | succ n ih =>
    intro x1 x2 S hS hx1 hx2 h
    rw [dn_X2_stateNumbers_4] at h
    refine g_iload_n (n := 5) C 2 dX2_stateNumbers_4 rfl rfl ?_
    refine g_aload_n (n := 6) C 0 dX2_stateNumbers_5 rfl rfl ?_
    refine g_getI (n := 9) C 14 3 rfl (Nat.le_of_ble_eq_true rfl) rfl rfl rfl (Nat.le_of_ble_eq_true rfl) in_X2_stateNumbers_X2 (by decide +kernel) dX2_stateNumbers_6 rfl ?_
    refine g_icmp_ge (n := 12) C 29 hx2 ((hS 14 3).2 (by decide)) dX2_stateNumbers_9 (by decide) rfl (fun (hc1 : S 14 3 ≤ x2) => ?_) (fun (hc1 : ¬ (S 14 3 ≤ x2)) => ?_)
    · rw [if_pos hc1] at h
      refine g_iload_n (n := 30) C 1 dX2_stateNumbers_29 rfl rfl ?_
      exact g_iret C rfl h rfl hx1 hS dX2_stateNumbers_30
    · rw [if_neg hc1] at h
      refine g_iload_n (n := 13) C 1 dX2_stateNumbers_12 rfl rfl ?_
      refine g_aload_n (n := 14) C 0 dX2_stateNumbers_13 rfl rfl ?_
      refine g_getC (n := 17) C 14 0 rfl (Nat.le_of_ble_eq_true rfl) rfl rfl rfl (Nat.le_of_ble_eq_true rfl) in_X2_stateNumbers_X2 (by decide +kernel) dX2_stateNumbers_14 rfl ?_
      refine g_iload_n (n := 18) C 2 dX2_stateNumbers_17 rfl rfl ?_
      obtain ⟨hg2, h⟩ := gd_e h
      refine g_iald (n := 19) C 15 rfl (Nat.le_of_ble_eq_true rfl) rfl rfl hg2 hx2 dX2_stateNumbers_18 rfl ?_
      refine g_iconst (n := 20) C dX2_stateNumbers_19 rfl ?_
      refine g_iadd (n := 21) C dX2_stateNumbers_20 rfl ?_
      refine g_imul (n := 22) C dX2_stateNumbers_21 rfl ?_
      obtain ⟨v3, ev3, h⟩ := nmV_e h
      have hv3 : r32 v3 := by rw [ev3]; exact (w32_r _)
      refine g_istore_n (n := 23) (lv' := [(1, vI v3), (0, .ref (ad 14)), (2, vI x2)]) C dX2_stateNumbers_22 (Nat.le_of_ble_eq_true rfl) ev3 rfl rfl ?_
      obtain ⟨v4, ev4, h⟩ := nmV_e h
      have hv4 : r32 v4 := by rw [ev4]; exact w32_r _
      refine g_iinc (n := 26) (lv' := [(2, vI v4), (1, vI v3), (0, .ref (ad 14))]) C 2 dX2_stateNumbers_23 rfl (Nat.le_of_ble_eq_true rfl) ev4 rfl rfl ?_
      refine g_goto C 4 dX2_stateNumbers_26 (by decide) ?_
      refine g_lv [2, 1, 0] rfl ?_
      exact ih v3 v4 S hS hv3 hv4 h
def dn_X2_stateNumbers (S : St) : Option (St × Int) := dn_X2_stateNumbers_4 FU 1 0 S
set_option maxRecDepth 100000 in
set_option maxHeartbeats 4000000 in
theorem c_X2_stateNumbers {l : Launch} {D : va_G} {t : T5} {ad : Nat → Nat} {S S0 : St} {r0 : Int} (hS : RS S) (h : dn_X2_stateNumbers S = some (S0, r0)) : Mc l (sX D t ad) yX2_stateNumbers wsX2_stateNumbers rm_X2_stateNumbers [.ref (ad 14)] acI S S0 r0 := by
  refine Mc_of (cc := cX2_stateNumbers) (nL := 3) (ret := (some .int)) (by decide +kernel) rfl (Nat.le_of_ble_eq_true rfl) (lv := [(0, .ref (ad 14))]) rfl (fun x C _ => ?_)
  unfold dn_X2_stateNumbers at h
  show GW (sX D t ad) mi_X2_stateNumbers (acI, S0, r0) x S 0 [(0, .ref (ad 14))] []
  refine g_iconst (n := 1) C dX2_stateNumbers_0 rfl ?_
  refine g_istore_n (n := 2) (lv' := [(1, vI 1), (0, .ref (ad 14))]) C dX2_stateNumbers_1 (Nat.le_of_ble_eq_true rfl) rfl rfl rfl ?_
  refine g_iconst (n := 3) C dX2_stateNumbers_2 rfl ?_
  refine g_istore_n (n := 4) (lv' := [(2, vI 0), (1, vI 1), (0, .ref (ad 14))]) C dX2_stateNumbers_3 (Nat.le_of_ble_eq_true rfl) rfl rfl rfl ?_
  refine g_lv [2, 1, 0] rfl ?_
  exact u_X2_stateNumbers_4 C FU 1 0 S hS (by decide : r32 1) (by decide : r32 0) h
-- RX2 isReached
abbrev rm_X2_isReached : Room := ({ frames := 1, cells := 0, slots := 0, locals := 22 } : Room)
abbrev mi_X2_isReached : Mi := (cX2_isReached, 2, RX2, wsX2_isReached, rm_X2_isReached, (some .boolean))
set_option maxRecDepth 20000 in
theorem in_X2_isReached_X2 : ∀ w ∈ u_ws RX2 TX2 7, w ∈ wsX2_isReached := by decide +kernel
def dn_X2_isReached (a0 : Int) (S : St) : Option (St × Int) := (cal (dn_X8_within a0 0 15624 S) fun S1 v2 => (if v2 = 0 then some (S1, 0) else (if 0 ≤ w32 (Int.tdiv a0 64) ∧ w32 (Int.tdiv a0 64) < 245 then (if cmpJ (andJ (S1 17 (100000 + (w32 (Int.tdiv a0 64)).toNat)) (shlJ 1 (w32 (Int.tmod a0 64)))) 0 = 0 then some (S1, 0) else some (S1, 1)) else none)))
set_option maxRecDepth 100000 in
set_option maxHeartbeats 4000000 in
theorem c_X2_isReached {l : Launch} {D : va_G} {t : T5} {ad : Nat → Nat} {S S0 : St} {r0 : Int} {a0 : Int} (hS : RS S) (ha0 : r32 a0) (h : dn_X2_isReached a0 S = some (S0, r0)) : Mc l (sX D t ad) yX2_isReached wsX2_isReached rm_X2_isReached [.ref (ad 14), vI a0] acZ S S0 r0 := by
  refine Mc_of (cc := cX2_isReached) (nL := 2) (ret := (some .boolean)) (by decide +kernel) rfl (Nat.le_of_ble_eq_true rfl) (lv := [(0, .ref (ad 14)), (1, vI a0)]) rfl (fun x C _ => ?_)
  unfold dn_X2_isReached at h
  show GW (sX D t ad) mi_X2_isReached (acZ, S0, r0) x S 0 [(0, .ref (ad 14)), (1, vI a0)] []
  refine g_iload_n (n := 1) C 1 dX2_isReached_0 rfl rfl ?_
  refine g_iconst (n := 2) C dX2_isReached_1 rfl ?_
  refine g_sipush (n := 5) C dX2_isReached_2 (by decide +kernel) rfl ?_
  obtain ⟨S1, v2, hq3, h⟩ := cal_e h
  refine g_callSN (n := 8) (As := [vI a0, vI 0, vI 15624]) (rest := []) C 3 (c_X8_within hS ha0 (by decide : r32 0) (by decide : r32 15624) hq3) gX2_isReached_X8_within_n22 (C.2.2.2.2.2.2.1 rfl).2.2.1 (by decide +kernel) (by decide +kernel) rfl ⟨rfl, rfl⟩ (by decide +kernel) ⟨Nat.le_of_ble_eq_true rfl, Nat.le_of_ble_eq_true rfl⟩ rfl rfl (Nat.le_of_ble_eq_true rfl) dX2_isReached_5 rfl (fun hS1 hv2 => ?_)
  show GW (sX D t ad) mi_X2_isReached (acZ, S0, r0) x S1 8 _ [vI v2]
  refine g_if_eq (n := 11) C 36 (z_r32 hv2) dX2_isReached_8 (by decide) rfl (fun (hc4 : v2 = 0) => ?_) (fun (hc4 : ¬ (v2 = 0)) => ?_)
  · rw [if_pos hc4] at h
    refine g_iconst (n := 37) C dX2_isReached_36 rfl ?_
    exact g_zret C rfl (Or.inl rfl) h rfl (Or.inl rfl) hS1 dX2_isReached_37
  · rw [if_neg hc4] at h
    refine g_aload_n (n := 12) C 0 dX2_isReached_11 rfl rfl ?_
    refine g_getC (n := 15) C 14 2 rfl (Nat.le_of_ble_eq_true rfl) rfl rfl rfl (Nat.le_of_ble_eq_true rfl) in_X2_isReached_X2 (by decide +kernel) dX2_isReached_12 rfl ?_
    refine g_iload_n (n := 16) C 1 dX2_isReached_15 rfl rfl ?_
    refine g_bipush (n := 18) C dX2_isReached_16 (by decide +kernel) rfl ?_
    refine g_idiv (n := 19) C ha0 (by decide : r32 64) (by decide) dX2_isReached_18 rfl ?_
    obtain ⟨hg5, h⟩ := gd_e h
    refine g_lald (n := 20) C 17 rfl (Nat.le_of_ble_eq_true rfl) rfl rfl hg5 (w32_r _) dX2_isReached_19 rfl ?_
    refine g_lconst (n := 21) (w := 1) C dX2_isReached_20 (by decide +kernel) rfl ?_
    refine g_iload_n (n := 22) C 1 dX2_isReached_21 rfl rfl ?_
    refine g_bipush (n := 24) C dX2_isReached_22 (by decide +kernel) rfl ?_
    refine g_irem (n := 25) C ha0 (by decide : r32 64) (by decide) dX2_isReached_24 rfl ?_
    refine g_lshl (n := 26) C dX2_isReached_25 rfl ?_
    refine g_land (n := 27) C dX2_isReached_26 rfl ?_
    refine g_lconst (n := 28) (w := 0) C dX2_isReached_27 (by decide +kernel) rfl ?_
    refine g_lcmp (n := 29) C (j_rng _) (by decide : r64 0) dX2_isReached_28 rfl ?_
    refine g_if_eq (n := 32) C 36 (cmpJ_r _ _) dX2_isReached_29 (by decide) rfl (fun (hc6 : cmpJ (andJ (S1 17 (100000 + (w32 (Int.tdiv a0 64)).toNat)) (shlJ 1 (w32 (Int.tmod a0 64)))) 0 = 0) => ?_) (fun (hc6 : ¬ (cmpJ (andJ (S1 17 (100000 + (w32 (Int.tdiv a0 64)).toNat)) (shlJ 1 (w32 (Int.tmod a0 64)))) 0 = 0)) => ?_)
    · rw [if_pos hc6] at h
      refine g_iconst (n := 37) C dX2_isReached_36 rfl ?_
      exact g_zret C rfl (Or.inl rfl) h rfl (Or.inl rfl) hS1 dX2_isReached_37
    · rw [if_neg hc6] at h
      refine g_iconst (n := 33) C dX2_isReached_32 rfl ?_
      refine g_goto C 37 dX2_isReached_33 (by decide) ?_
      exact g_zret C rfl (Or.inr rfl) h rfl (Or.inr rfl) hS1 dX2_isReached_37
-- RX2 nextRow
abbrev rm_X2_nextRow : Room := ({ frames := 0, cells := 0, slots := 0, locals := 0 } : Room)
abbrev mi_X2_nextRow : Mi := (cX2_nextRow, 2, RX2, wsX2_nextRow, rm_X2_nextRow, none)
set_option maxRecDepth 20000 in
theorem in_X2_nextRow_X2 : ∀ w ∈ u_ws RX2 TX2 7, w ∈ wsX2_nextRow := by decide +kernel
def dn_X2_nextRow_2 : Nat → Int → St → Option (St × Int)
  | 0, _, _ => none
  | n + 1, x1, S => (if S 14 3 ≤ x1 then some (S, 0) else (if 0 ≤ x1 ∧ x1 < 6 then (if S 15 x1.toNat ≤ S 16 x1.toNat then (nmS (stU S 16 x1.toNat 0) fun S4 => (nmV (w32 (x1 + 1)) fun v5 => dn_X2_nextRow_2 n v5 S4)) else (nmS (stU S 16 x1.toNat (w32 ((S 16 x1.toNat) + 1))) fun S6 => some (S6, 0))) else none))
set_option maxRecDepth 100000 in
set_option maxHeartbeats 4000000 in
theorem u_X2_nextRow_2 {D : va_G} {t : T5} {ad : Nat → Nat} {S0 : St} {r0 : Int} {x : Mx} (C : CX (sX D t ad) mi_X2_nextRow x) : ∀ (n : Nat) (x1 : Int) (S : St), RS S → (r32 x1) → dn_X2_nextRow_2 n x1 S = some (S0, r0) → GW (sX D t ad) mi_X2_nextRow (acV, S0, r0) x S 2 [(0, .ref (ad 14)), (1, vI x1)] [] := by
  intro n
  induction n with
  | zero =>
    intro x1 S hS hx1 h
    cases h
  | succ n ih =>
    intro x1 S hS hx1 h
    rw [dn_X2_nextRow_2] at h
    refine g_iload_n (n := 3) C 1 dX2_nextRow_2 rfl rfl ?_
    refine g_aload_n (n := 4) C 0 dX2_nextRow_3 rfl rfl ?_
    refine g_getI (n := 7) C 14 3 rfl (Nat.le_of_ble_eq_true rfl) rfl rfl rfl (Nat.le_of_ble_eq_true rfl) in_X2_nextRow_X2 (by decide +kernel) dX2_nextRow_4 rfl ?_
    refine g_icmp_ge (n := 10) C 49 hx1 ((hS 14 3).2 (by decide)) dX2_nextRow_7 (by decide) rfl (fun (hc1 : S 14 3 ≤ x1) => ?_) (fun (hc1 : ¬ (S 14 3 ≤ x1)) => ?_)
    · rw [if_pos hc1] at h
      exact g_vret C rfl h rfl trivial hS dX2_nextRow_49
    · rw [if_neg hc1] at h
      refine g_aload_n (n := 11) C 0 dX2_nextRow_10 rfl rfl ?_
      refine g_getC (n := 14) C 14 1 rfl (Nat.le_of_ble_eq_true rfl) rfl rfl rfl (Nat.le_of_ble_eq_true rfl) in_X2_nextRow_X2 (by decide +kernel) dX2_nextRow_11 rfl ?_
      refine g_iload_n (n := 15) C 1 dX2_nextRow_14 rfl rfl ?_
      obtain ⟨hg2, h⟩ := gd_e h
      refine g_iald (n := 16) C 16 rfl (Nat.le_of_ble_eq_true rfl) rfl rfl hg2 hx1 dX2_nextRow_15 rfl ?_
      refine g_aload_n (n := 17) C 0 dX2_nextRow_16 rfl rfl ?_
      refine g_getC (n := 20) C 14 0 rfl (Nat.le_of_ble_eq_true rfl) rfl rfl rfl (Nat.le_of_ble_eq_true rfl) in_X2_nextRow_X2 (by decide +kernel) dX2_nextRow_17 rfl ?_
      refine g_iload_n (n := 21) C 1 dX2_nextRow_20 rfl rfl ?_
      refine g_iald (n := 22) C 15 rfl (Nat.le_of_ble_eq_true rfl) rfl rfl hg2 hx1 dX2_nextRow_21 rfl ?_
      refine g_icmp_ge (n := 25) C 36 ((hS 16 _).2 (tn_lt hg2 (by decide))) ((hS 15 _).2 (tn_lt hg2 (by decide))) dX2_nextRow_22 (by decide) rfl (fun (hc3 : S 15 x1.toNat ≤ S 16 x1.toNat) => ?_) (fun (hc3 : ¬ (S 15 x1.toNat ≤ S 16 x1.toNat)) => ?_)
      · rw [if_pos hc3] at h
        refine g_aload_n (n := 37) C 0 dX2_nextRow_36 rfl rfl ?_
        refine g_getC (n := 40) C 14 1 rfl (Nat.le_of_ble_eq_true rfl) rfl rfl rfl (Nat.le_of_ble_eq_true rfl) in_X2_nextRow_X2 (by decide +kernel) dX2_nextRow_37 rfl ?_
        refine g_iload_n (n := 41) C 1 dX2_nextRow_40 rfl rfl ?_
        refine g_iconst (n := 42) C dX2_nextRow_41 rfl ?_
        obtain ⟨S4, eS4, h⟩ := nmS_e h
        have hS4 : RS S4 := by rw [eS4]; exact RS_i hS (by decide : r32 0)
        refine g_iast (n := 43) C 16 rfl (Nat.le_of_ble_eq_true rfl) rfl rfl hg2 hx1 eS4 dX2_nextRow_42 rfl ?_
        obtain ⟨v5, ev5, h⟩ := nmV_e h
        have hv5 : r32 v5 := by rw [ev5]; exact w32_r _
        refine g_iinc (n := 46) (lv' := [(1, vI v5), (0, .ref (ad 14))]) C 1 dX2_nextRow_43 rfl (Nat.le_of_ble_eq_true rfl) ev5 rfl rfl ?_
        refine g_goto C 2 dX2_nextRow_46 (by decide) ?_
        refine g_lv [1, 0] rfl ?_
        exact ih v5 S4 hS4 hv5 h
      · rw [if_neg hc3] at h
        refine g_aload_n (n := 26) C 0 dX2_nextRow_25 rfl rfl ?_
        refine g_getC (n := 29) C 14 1 rfl (Nat.le_of_ble_eq_true rfl) rfl rfl rfl (Nat.le_of_ble_eq_true rfl) in_X2_nextRow_X2 (by decide +kernel) dX2_nextRow_26 rfl ?_
        refine g_iload_n (n := 30) C 1 dX2_nextRow_29 rfl rfl ?_
        refine g_dup2 (n := 31) C rfl rfl dX2_nextRow_30 rfl ?_
        refine g_iald (n := 32) C 16 rfl (Nat.le_of_ble_eq_true rfl) rfl rfl hg2 hx1 dX2_nextRow_31 rfl ?_
        refine g_iconst (n := 33) C dX2_nextRow_32 rfl ?_
        refine g_iadd (n := 34) C dX2_nextRow_33 rfl ?_
        obtain ⟨S6, eS6, h⟩ := nmS_e h
        have hS6 : RS S6 := by rw [eS6]; exact RS_i hS (w32_r _)
        refine g_iast (n := 35) C 16 rfl (Nat.le_of_ble_eq_true rfl) rfl rfl hg2 hx1 eS6 dX2_nextRow_34 rfl ?_
        exact g_vret C rfl h rfl trivial hS6 dX2_nextRow_35
def dn_X2_nextRow (S : St) : Option (St × Int) := dn_X2_nextRow_2 FU 0 S
set_option maxRecDepth 100000 in
set_option maxHeartbeats 4000000 in
theorem c_X2_nextRow {l : Launch} {D : va_G} {t : T5} {ad : Nat → Nat} {S S0 : St} {r0 : Int} (hS : RS S) (h : dn_X2_nextRow S = some (S0, r0)) : Mc l (sX D t ad) yX2_nextRow wsX2_nextRow rm_X2_nextRow [.ref (ad 14)] acV S S0 r0 := by
  refine Mc_of (cc := cX2_nextRow) (nL := 2) (ret := none) (by decide +kernel) rfl (Nat.le_of_ble_eq_true rfl) (lv := [(0, .ref (ad 14))]) rfl (fun x C _ => ?_)
  unfold dn_X2_nextRow at h
  show GW (sX D t ad) mi_X2_nextRow (acV, S0, r0) x S 0 [(0, .ref (ad 14))] []
  refine g_iconst (n := 1) C dX2_nextRow_0 rfl ?_
  refine g_istore_n (n := 2) (lv' := [(1, vI 0), (0, .ref (ad 14))]) C dX2_nextRow_1 (Nat.le_of_ble_eq_true rfl) rfl rfl rfl ?_
  refine g_lv [1, 0] rfl ?_
  exact u_X2_nextRow_2 C FU 0 S hS (by decide : r32 0) h
-- RX2 markMoves
abbrev rm_X2_markMoves : Room := ({ frames := 2, cells := 0, slots := 0, locals := 43 } : Room)
abbrev mi_X2_markMoves : Mi := (cX2_markMoves, 4, RX2, wsX2_markMoves, rm_X2_markMoves, none)
set_option maxRecDepth 20000 in
theorem in_X2_markMoves_X2 : ∀ w ∈ u_ws RX2 TX2 7, w ∈ wsX2_markMoves := by decide +kernel
def dn_X2_markMoves_4 : Nat → Int → Int → Int → St → Option (St × Int)
  | 0, _, _, _, _ => none
  | n + 1, x1, x2, x3, S => (if S 14 3 ≤ x3 then some (S, 0) else (if 0 ≤ x3 ∧ x3 < 6 then (if S 15 x3.toNat ≤ S 16 x3.toNat then (nmV (w32 (x2 * (w32 ((S 15 x3.toNat) + 1)))) fun v4 => (nmV (w32 (x3 + 1)) fun v5 => dn_X2_markMoves_4 n x1 v4 v5 S)) else (cal (dn_X2_markReached (w32 (x1 + x2)) S) fun S6 v7 => (nmV (w32 (x2 * (w32 ((S6 15 x3.toNat) + 1)))) fun v9 => (nmV (w32 (x3 + 1)) fun v10 => dn_X2_markMoves_4 n x1 v9 v10 S6)))) else none))
set_option maxRecDepth 100000 in
set_option maxHeartbeats 4000000 in
theorem u_X2_markMoves_4 {D : va_G} {t : T5} {ad : Nat → Nat} {S0 : St} {r0 : Int} {x : Mx} (C : CX (sX D t ad) mi_X2_markMoves x) : ∀ (n : Nat) (x1 : Int) (x2 : Int) (x3 : Int) (S : St), RS S → (r32 x1) → (r32 x2) → (r32 x3) → dn_X2_markMoves_4 n x1 x2 x3 S = some (S0, r0) → GW (sX D t ad) mi_X2_markMoves (acV, S0, r0) x S 4 [(0, .ref (ad 14)), (1, vI x1), (2, vI x2), (3, vI x3)] [] := by
  intro n
  induction n with
  | zero =>
    intro x1 x2 x3 S hS hx1 hx2 hx3 h
    cases h
  | succ n ih =>
    intro x1 x2 x3 S hS hx1 hx2 hx3 h
    rw [dn_X2_markMoves_4] at h
    refine g_iload_n (n := 5) C 3 dX2_markMoves_4 rfl rfl ?_
    refine g_aload_n (n := 6) C 0 dX2_markMoves_5 rfl rfl ?_
    refine g_getI (n := 9) C 14 3 rfl (Nat.le_of_ble_eq_true rfl) rfl rfl rfl (Nat.le_of_ble_eq_true rfl) in_X2_markMoves_X2 (by decide +kernel) dX2_markMoves_6 rfl ?_
    refine g_icmp_ge (n := 12) C 51 hx3 ((hS 14 3).2 (by decide)) dX2_markMoves_9 (by decide) rfl (fun (hc1 : S 14 3 ≤ x3) => ?_) (fun (hc1 : ¬ (S 14 3 ≤ x3)) => ?_)
    · rw [if_pos hc1] at h
      exact g_vret C rfl h rfl trivial hS dX2_markMoves_51
    · rw [if_neg hc1] at h
      refine g_aload_n (n := 13) C 0 dX2_markMoves_12 rfl rfl ?_
      refine g_getC (n := 16) C 14 1 rfl (Nat.le_of_ble_eq_true rfl) rfl rfl rfl (Nat.le_of_ble_eq_true rfl) in_X2_markMoves_X2 (by decide +kernel) dX2_markMoves_13 rfl ?_
      refine g_iload_n (n := 17) C 3 dX2_markMoves_16 rfl rfl ?_
      obtain ⟨hg2, h⟩ := gd_e h
      refine g_iald (n := 18) C 16 rfl (Nat.le_of_ble_eq_true rfl) rfl rfl hg2 hx3 dX2_markMoves_17 rfl ?_
      refine g_aload_n (n := 19) C 0 dX2_markMoves_18 rfl rfl ?_
      refine g_getC (n := 22) C 14 0 rfl (Nat.le_of_ble_eq_true rfl) rfl rfl rfl (Nat.le_of_ble_eq_true rfl) in_X2_markMoves_X2 (by decide +kernel) dX2_markMoves_19 rfl ?_
      refine g_iload_n (n := 23) C 3 dX2_markMoves_22 rfl rfl ?_
      refine g_iald (n := 24) C 15 rfl (Nat.le_of_ble_eq_true rfl) rfl rfl hg2 hx3 dX2_markMoves_23 rfl ?_
      refine g_icmp_ge (n := 27) C 34 ((hS 16 _).2 (tn_lt hg2 (by decide))) ((hS 15 _).2 (tn_lt hg2 (by decide))) dX2_markMoves_24 (by decide) rfl (fun (hc3 : S 15 x3.toNat ≤ S 16 x3.toNat) => ?_) (fun (hc3 : ¬ (S 15 x3.toNat ≤ S 16 x3.toNat)) => ?_)
      · rw [if_pos hc3] at h
        refine g_iload_n (n := 35) C 2 dX2_markMoves_34 rfl rfl ?_
        refine g_aload_n (n := 36) C 0 dX2_markMoves_35 rfl rfl ?_
        refine g_getC (n := 39) C 14 0 rfl (Nat.le_of_ble_eq_true rfl) rfl rfl rfl (Nat.le_of_ble_eq_true rfl) in_X2_markMoves_X2 (by decide +kernel) dX2_markMoves_36 rfl ?_
        refine g_iload_n (n := 40) C 3 dX2_markMoves_39 rfl rfl ?_
        refine g_iald (n := 41) C 15 rfl (Nat.le_of_ble_eq_true rfl) rfl rfl hg2 hx3 dX2_markMoves_40 rfl ?_
        refine g_iconst (n := 42) C dX2_markMoves_41 rfl ?_
        refine g_iadd (n := 43) C dX2_markMoves_42 rfl ?_
        refine g_imul (n := 44) C dX2_markMoves_43 rfl ?_
        obtain ⟨v4, ev4, h⟩ := nmV_e h
        have hv4 : r32 v4 := by rw [ev4]; exact (w32_r _)
        refine g_istore_n (n := 45) (lv' := [(2, vI v4), (0, .ref (ad 14)), (1, vI x1), (3, vI x3)]) C dX2_markMoves_44 (Nat.le_of_ble_eq_true rfl) ev4 rfl rfl ?_
        obtain ⟨v5, ev5, h⟩ := nmV_e h
        have hv5 : r32 v5 := by rw [ev5]; exact w32_r _
        refine g_iinc (n := 48) (lv' := [(3, vI v5), (2, vI v4), (0, .ref (ad 14)), (1, vI x1)]) C 3 dX2_markMoves_45 rfl (Nat.le_of_ble_eq_true rfl) ev5 rfl rfl ?_
        refine g_goto C 4 dX2_markMoves_48 (by decide) ?_
        refine g_lv [2, 3, 1, 0] rfl ?_
        exact ih x1 v4 v5 S hS hx1 hv4 hv5 h
      · rw [if_neg hc3] at h
        refine g_aload_n (n := 28) C 0 dX2_markMoves_27 rfl rfl ?_
        refine g_iload_n (n := 29) C 1 dX2_markMoves_28 rfl rfl ?_
        refine g_iload_n (n := 30) C 2 dX2_markMoves_29 rfl rfl ?_
        refine g_iadd (n := 31) C dX2_markMoves_30 rfl ?_
        obtain ⟨S6, v7, hq8, h⟩ := cal_e h
        refine g_callV (n := 34) (As := [vI (w32 (x1 + x2))]) (rest := []) C 14 1 (Nat.le_of_ble_eq_true rfl) rfl rfl (c_X2_markReached hS (w32_r _) hq8) gX2_markMoves_X2_markReached rfl ⟨rfl, rfl⟩ (by decide +kernel) ⟨Nat.le_of_ble_eq_true rfl, Nat.le_of_ble_eq_true rfl⟩ rfl rfl rfl (Nat.le_of_ble_eq_true rfl) dX2_markMoves_31 rfl (fun hS6 hv7 => ?_)
        show GW (sX D t ad) mi_X2_markMoves (acV, S0, r0) x S6 34 _ []
        refine g_iload_n (n := 35) C 2 dX2_markMoves_34 rfl rfl ?_
        refine g_aload_n (n := 36) C 0 dX2_markMoves_35 rfl rfl ?_
        refine g_getC (n := 39) C 14 0 rfl (Nat.le_of_ble_eq_true rfl) rfl rfl rfl (Nat.le_of_ble_eq_true rfl) in_X2_markMoves_X2 (by decide +kernel) dX2_markMoves_36 rfl ?_
        refine g_iload_n (n := 40) C 3 dX2_markMoves_39 rfl rfl ?_
        refine g_iald (n := 41) C 15 rfl (Nat.le_of_ble_eq_true rfl) rfl rfl hg2 hx3 dX2_markMoves_40 rfl ?_
        refine g_iconst (n := 42) C dX2_markMoves_41 rfl ?_
        refine g_iadd (n := 43) C dX2_markMoves_42 rfl ?_
        refine g_imul (n := 44) C dX2_markMoves_43 rfl ?_
        obtain ⟨v9, ev9, h⟩ := nmV_e h
        have hv9 : r32 v9 := by rw [ev9]; exact (w32_r _)
        refine g_istore_n (n := 45) (lv' := [(2, vI v9), (0, .ref (ad 14)), (1, vI x1), (3, vI x3)]) C dX2_markMoves_44 (Nat.le_of_ble_eq_true rfl) ev9 rfl rfl ?_
        obtain ⟨v10, ev10, h⟩ := nmV_e h
        have hv10 : r32 v10 := by rw [ev10]; exact w32_r _
        refine g_iinc (n := 48) (lv' := [(3, vI v10), (2, vI v9), (0, .ref (ad 14)), (1, vI x1)]) C 3 dX2_markMoves_45 rfl (Nat.le_of_ble_eq_true rfl) ev10 rfl rfl ?_
        refine g_goto C 4 dX2_markMoves_48 (by decide) ?_
        refine g_lv [2, 3, 1, 0] rfl ?_
        exact ih x1 v9 v10 S6 hS6 hx1 hv9 hv10 h
def dn_X2_markMoves (a0 : Int) (S : St) : Option (St × Int) := dn_X2_markMoves_4 FU a0 1 0 S
set_option maxRecDepth 100000 in
set_option maxHeartbeats 4000000 in
theorem c_X2_markMoves {l : Launch} {D : va_G} {t : T5} {ad : Nat → Nat} {S S0 : St} {r0 : Int} {a0 : Int} (hS : RS S) (ha0 : r32 a0) (h : dn_X2_markMoves a0 S = some (S0, r0)) : Mc l (sX D t ad) yX2_markMoves wsX2_markMoves rm_X2_markMoves [.ref (ad 14), vI a0] acV S S0 r0 := by
  refine Mc_of (cc := cX2_markMoves) (nL := 4) (ret := none) (by decide +kernel) rfl (Nat.le_of_ble_eq_true rfl) (lv := [(0, .ref (ad 14)), (1, vI a0)]) rfl (fun x C _ => ?_)
  unfold dn_X2_markMoves at h
  show GW (sX D t ad) mi_X2_markMoves (acV, S0, r0) x S 0 [(0, .ref (ad 14)), (1, vI a0)] []
  refine g_iconst (n := 1) C dX2_markMoves_0 rfl ?_
  refine g_istore_n (n := 2) (lv' := [(2, vI 1), (0, .ref (ad 14)), (1, vI a0)]) C dX2_markMoves_1 (Nat.le_of_ble_eq_true rfl) rfl rfl rfl ?_
  refine g_iconst (n := 3) C dX2_markMoves_2 rfl ?_
  refine g_istore_n (n := 4) (lv' := [(3, vI 0), (2, vI 1), (0, .ref (ad 14)), (1, vI a0)]) C dX2_markMoves_3 (Nat.le_of_ble_eq_true rfl) rfl rfl rfl ?_
  refine g_lv [2, 3, 1, 0] rfl ?_
  exact u_X2_markMoves_4 C FU a0 1 0 S hS ha0 (by decide : r32 1) (by decide : r32 0) h
-- RX2 visit
abbrev rm_X2_visit : Room := ({ frames := 3, cells := 0, slots := 0, locals := 66 } : Room)
abbrev mi_X2_visit : Mi := (cX2_visit, 5, RX2, wsX2_visit, rm_X2_visit, none)
set_option maxRecDepth 20000 in
theorem in_X2_visit_X2 : ∀ w ∈ u_ws RX2 TX2 7, w ∈ wsX2_visit := by decide +kernel
def dn_X2_visit_5 : Nat → Int → Int → Int → Int → St → Option (St × Int)
  | 0, _, _, _, _, _ => none
  | n + 1, x1, x2, x3, x4, S => (if S 14 3 ≤ x4 then (if x2 ≤ x3 then (nmS (stU S 14 6 (w32 ((S 14 6) + 1))) fun S3 => some (S3, 0)) else (cal (dn_X2_markMoves x1 S) fun S4 v5 => some (S4, 0))) else (if 0 ≤ x4 ∧ x4 < 6 then (if S 15 x4.toNat ≤ S 16 x4.toNat then (nmV (w32 (x4 + 1)) fun v9 => dn_X2_visit_5 n x1 x2 x3 v9 S) else (nmV (w32 (x3 + (S 16 x4.toNat))) fun v10 => (nmV (w32 (x4 + 1)) fun v11 => dn_X2_visit_5 n x1 x2 v10 v11 S))) else none))
set_option maxRecDepth 100000 in
set_option maxHeartbeats 4000000 in
theorem u_X2_visit_5 {D : va_G} {t : T5} {ad : Nat → Nat} {S0 : St} {r0 : Int} {x : Mx} (C : CX (sX D t ad) mi_X2_visit x) : ∀ (n : Nat) (x1 : Int) (x2 : Int) (x3 : Int) (x4 : Int) (S : St), RS S → (r32 x1) → (r32 x2) → (r32 x3) → (r32 x4) → dn_X2_visit_5 n x1 x2 x3 x4 S = some (S0, r0) → GW (sX D t ad) mi_X2_visit (acV, S0, r0) x S 5 [(0, .ref (ad 14)), (1, vI x1), (2, vI x2), (3, vI x3), (4, vI x4)] [] := by
  intro n
  induction n with
  | zero =>
    intro x1 x2 x3 x4 S hS hx1 hx2 hx3 hx4 h
    cases h
  | succ n ih =>
    intro x1 x2 x3 x4 S hS hx1 hx2 hx3 hx4 h
    rw [dn_X2_visit_5] at h
    refine g_iload (n := 7) C 4 dX2_visit_5 rfl rfl ?_
    refine g_aload_n (n := 8) C 0 dX2_visit_7 rfl rfl ?_
    refine g_getI (n := 11) C 14 3 rfl (Nat.le_of_ble_eq_true rfl) rfl rfl rfl (Nat.le_of_ble_eq_true rfl) in_X2_visit_X2 (by decide +kernel) dX2_visit_8 rfl ?_
    refine g_icmp_ge (n := 14) C 47 hx4 ((hS 14 3).2 (by decide)) dX2_visit_11 (by decide) rfl (fun (hc1 : S 14 3 ≤ x4) => ?_) (fun (hc1 : ¬ (S 14 3 ≤ x4)) => ?_)
    · rw [if_pos hc1] at h
      refine g_iload_n (n := 48) C 3 dX2_visit_47 rfl rfl ?_
      refine g_iload_n (n := 49) C 2 dX2_visit_48 rfl rfl ?_
      refine g_icmp_ge (n := 52) C 60 hx3 hx2 dX2_visit_49 (by decide) rfl (fun (hc2 : x2 ≤ x3) => ?_) (fun (hc2 : ¬ (x2 ≤ x3)) => ?_)
      · rw [if_pos hc2] at h
        refine g_aload_n (n := 61) C 0 dX2_visit_60 rfl rfl ?_
        refine g_dup (n := 62) C rfl dX2_visit_61 rfl ?_
        refine g_getI (n := 65) C 14 6 rfl (Nat.le_of_ble_eq_true rfl) rfl rfl rfl (Nat.le_of_ble_eq_true rfl) in_X2_visit_X2 (by decide +kernel) dX2_visit_62 rfl ?_
        refine g_iconst (n := 66) C dX2_visit_65 rfl ?_
        refine g_iadd (n := 67) C dX2_visit_66 rfl ?_
        obtain ⟨S3, eS3, h⟩ := nmS_e h
        have hS3 : RS S3 := by rw [eS3]; exact RS_i hS (w32_r _)
        refine g_putI (n := 70) C 14 6 rfl (Nat.le_of_ble_eq_true rfl) rfl rfl rfl (Nat.le_of_ble_eq_true rfl) in_X2_visit_X2 tyX2_ok nmX2 (by decide +kernel) rfl (by decide +kernel) (Nat.le_of_ble_eq_true rfl) eS3 dX2_visit_67 rfl ?_
        exact g_vret C rfl h rfl trivial hS3 dX2_visit_70
      · rw [if_neg hc2] at h
        refine g_aload_n (n := 53) C 0 dX2_visit_52 rfl rfl ?_
        refine g_iload_n (n := 54) C 1 dX2_visit_53 rfl rfl ?_
        obtain ⟨S4, v5, hq6, h⟩ := cal_e h
        refine g_callV (n := 57) (As := [vI x1]) (rest := []) C 14 1 (Nat.le_of_ble_eq_true rfl) rfl rfl (c_X2_markMoves hS hx1 hq6) gX2_visit_X2_markMoves rfl ⟨rfl, rfl⟩ (by decide +kernel) ⟨Nat.le_of_ble_eq_true rfl, Nat.le_of_ble_eq_true rfl⟩ rfl rfl rfl (Nat.le_of_ble_eq_true rfl) dX2_visit_54 rfl (fun hS4 hv5 => ?_)
        show GW (sX D t ad) mi_X2_visit (acV, S0, r0) x S4 57 _ []
        refine g_goto C 70 dX2_visit_57 (by decide) ?_
        exact g_vret C rfl h rfl trivial hS4 dX2_visit_70
    · rw [if_neg hc1] at h
      refine g_aload_n (n := 15) C 0 dX2_visit_14 rfl rfl ?_
      refine g_getC (n := 18) C 14 1 rfl (Nat.le_of_ble_eq_true rfl) rfl rfl rfl (Nat.le_of_ble_eq_true rfl) in_X2_visit_X2 (by decide +kernel) dX2_visit_15 rfl ?_
      refine g_iload (n := 20) C 4 dX2_visit_18 rfl rfl ?_
      obtain ⟨hg7, h⟩ := gd_e h
      refine g_iald (n := 21) C 16 rfl (Nat.le_of_ble_eq_true rfl) rfl rfl hg7 hx4 dX2_visit_20 rfl ?_
      refine g_aload_n (n := 22) C 0 dX2_visit_21 rfl rfl ?_
      refine g_getC (n := 25) C 14 0 rfl (Nat.le_of_ble_eq_true rfl) rfl rfl rfl (Nat.le_of_ble_eq_true rfl) in_X2_visit_X2 (by decide +kernel) dX2_visit_22 rfl ?_
      refine g_iload (n := 27) C 4 dX2_visit_25 rfl rfl ?_
      refine g_iald (n := 28) C 15 rfl (Nat.le_of_ble_eq_true rfl) rfl rfl hg7 hx4 dX2_visit_27 rfl ?_
      refine g_icmp_ge (n := 31) C 41 ((hS 16 _).2 (tn_lt hg7 (by decide))) ((hS 15 _).2 (tn_lt hg7 (by decide))) dX2_visit_28 (by decide) rfl (fun (hc8 : S 15 x4.toNat ≤ S 16 x4.toNat) => ?_) (fun (hc8 : ¬ (S 15 x4.toNat ≤ S 16 x4.toNat)) => ?_)
      · rw [if_pos hc8] at h
        obtain ⟨v9, ev9, h⟩ := nmV_e h
        have hv9 : r32 v9 := by rw [ev9]; exact w32_r _
        refine g_iinc (n := 44) (lv' := [(4, vI v9), (0, .ref (ad 14)), (1, vI x1), (2, vI x2), (3, vI x3)]) C 4 dX2_visit_41 rfl (Nat.le_of_ble_eq_true rfl) ev9 rfl rfl ?_
        refine g_goto C 5 dX2_visit_44 (by decide) ?_
        refine g_lv [1, 2, 3, 4, 0] rfl ?_
        exact ih x1 x2 x3 v9 S hS hx1 hx2 hx3 hv9 h
      · rw [if_neg hc8] at h
        refine g_iload_n (n := 32) C 3 dX2_visit_31 rfl rfl ?_
        refine g_aload_n (n := 33) C 0 dX2_visit_32 rfl rfl ?_
        refine g_getC (n := 36) C 14 1 rfl (Nat.le_of_ble_eq_true rfl) rfl rfl rfl (Nat.le_of_ble_eq_true rfl) in_X2_visit_X2 (by decide +kernel) dX2_visit_33 rfl ?_
        refine g_iload (n := 38) C 4 dX2_visit_36 rfl rfl ?_
        refine g_iald (n := 39) C 16 rfl (Nat.le_of_ble_eq_true rfl) rfl rfl hg7 hx4 dX2_visit_38 rfl ?_
        refine g_iadd (n := 40) C dX2_visit_39 rfl ?_
        obtain ⟨v10, ev10, h⟩ := nmV_e h
        have hv10 : r32 v10 := by rw [ev10]; exact (w32_r _)
        refine g_istore_n (n := 41) (lv' := [(3, vI v10), (0, .ref (ad 14)), (1, vI x1), (2, vI x2), (4, vI x4)]) C dX2_visit_40 (Nat.le_of_ble_eq_true rfl) ev10 rfl rfl ?_
        obtain ⟨v11, ev11, h⟩ := nmV_e h
        have hv11 : r32 v11 := by rw [ev11]; exact w32_r _
        refine g_iinc (n := 44) (lv' := [(4, vI v11), (3, vI v10), (0, .ref (ad 14)), (1, vI x1), (2, vI x2)]) C 4 dX2_visit_41 rfl (Nat.le_of_ble_eq_true rfl) ev11 rfl rfl ?_
        refine g_goto C 5 dX2_visit_44 (by decide) ?_
        refine g_lv [2, 3, 4, 1, 0] rfl ?_
        exact ih x1 x2 v10 v11 S hS hx1 hx2 hv10 hv11 h
def dn_X2_visit (a0 : Int) (a1 : Int) (S : St) : Option (St × Int) := dn_X2_visit_5 FU a0 a1 0 0 S
set_option maxRecDepth 100000 in
set_option maxHeartbeats 4000000 in
theorem c_X2_visit {l : Launch} {D : va_G} {t : T5} {ad : Nat → Nat} {S S0 : St} {r0 : Int} {a0 a1 : Int} (hS : RS S) (ha0 : r32 a0) (ha1 : r32 a1) (h : dn_X2_visit a0 a1 S = some (S0, r0)) : Mc l (sX D t ad) yX2_visit wsX2_visit rm_X2_visit [.ref (ad 14), vI a0, vI a1] acV S S0 r0 := by
  refine Mc_of (cc := cX2_visit) (nL := 5) (ret := none) (by decide +kernel) rfl (Nat.le_of_ble_eq_true rfl) (lv := [(0, .ref (ad 14)), (1, vI a0), (2, vI a1)]) rfl (fun x C _ => ?_)
  unfold dn_X2_visit at h
  show GW (sX D t ad) mi_X2_visit (acV, S0, r0) x S 0 [(0, .ref (ad 14)), (1, vI a0), (2, vI a1)] []
  refine g_iconst (n := 1) C dX2_visit_0 rfl ?_
  refine g_istore_n (n := 2) (lv' := [(3, vI 0), (0, .ref (ad 14)), (1, vI a0), (2, vI a1)]) C dX2_visit_1 (Nat.le_of_ble_eq_true rfl) rfl rfl rfl ?_
  refine g_iconst (n := 3) C dX2_visit_2 rfl ?_
  refine g_istore (n := 5) (lv' := [(4, vI 0), (3, vI 0), (0, .ref (ad 14)), (1, vI a0), (2, vI a1)]) C dX2_visit_3 (Nat.le_of_ble_eq_true rfl) rfl rfl rfl ?_
  refine g_lv [2, 3, 4, 1, 0] rfl ?_
  exact u_X2_visit_5 C FU a0 a1 0 0 S hS ha0 ha1 (by decide : r32 0) (by decide : r32 0) h
-- RX2 walk
abbrev rm_X2_walk : Room := ({ frames := 4, cells := 0, slots := 0, locals := 90 } : Room)
abbrev mi_X2_walk : Mi := (cX2_walk, 4, RX2, wsX2_walk, rm_X2_walk, none)
set_option maxRecDepth 20000 in
theorem in_X2_walk_X2 : ∀ w ∈ u_ws RX2 TX2 7, w ∈ wsX2_walk := by decide +kernel
def dn_X2_walk_26 : Nat → Int → Int → Int → St → Option (St × Int)
  | 0, _, _, _, _ => none
  | n + 1, x1, x2, x3, S => (if x2 ≤ x3 then some (S, 0) else (cal (dn_X2_isReached x3 S) fun S13 v14 => (if v14 = 0 then (cal (dn_X2_nextRow S13) fun S17 v18 => (nmV (w32 (x3 + 1)) fun v20 => dn_X2_walk_26 n x1 x2 v20 S17)) else (nmS (stU S13 14 5 (w32 ((S13 14 5) + 1))) fun S21 => (cal (dn_X2_visit x3 x1 S21) fun S22 v23 => (cal (dn_X2_nextRow S22) fun S25 v26 => (nmV (w32 (x3 + 1)) fun v28 => dn_X2_walk_26 n x1 x2 v28 S25)))))))
set_option maxRecDepth 100000 in
set_option maxHeartbeats 4000000 in
theorem u_X2_walk_26 {D : va_G} {t : T5} {ad : Nat → Nat} {S0 : St} {r0 : Int} {x : Mx} (C : CX (sX D t ad) mi_X2_walk x) : ∀ (n : Nat) (x1 : Int) (x2 : Int) (x3 : Int) (S : St), RS S → (r32 x1) → (r32 x2) → (r32 x3) → dn_X2_walk_26 n x1 x2 x3 S = some (S0, r0) → GW (sX D t ad) mi_X2_walk (acV, S0, r0) x S 26 [(0, .ref (ad 14)), (1, vI x1), (2, vI x2), (3, vI x3)] [] := by
  intro n
  induction n with
  | zero =>
    intro x1 x2 x3 S hS hx1 hx2 hx3 h
    cases h
  | succ n ih =>
    intro x1 x2 x3 S hS hx1 hx2 hx3 h
    rw [dn_X2_walk_26] at h
    refine g_iload_n (n := 27) C 3 dX2_walk_26 rfl rfl ?_
    refine g_iload_n (n := 28) C 2 dX2_walk_27 rfl rfl ?_
    refine g_icmp_ge (n := 31) C 65 hx3 hx2 dX2_walk_28 (by decide) rfl (fun (hc12 : x2 ≤ x3) => ?_) (fun (hc12 : ¬ (x2 ≤ x3)) => ?_)
    · rw [if_pos hc12] at h
      exact g_vret C rfl h rfl trivial hS dX2_walk_65
    · rw [if_neg hc12] at h
      refine g_aload_n (n := 32) C 0 dX2_walk_31 rfl rfl ?_
      refine g_iload_n (n := 33) C 3 dX2_walk_32 rfl rfl ?_
      obtain ⟨S13, v14, hq15, h⟩ := cal_e h
      refine g_callV (n := 36) (As := [vI x3]) (rest := []) C 14 1 (Nat.le_of_ble_eq_true rfl) rfl rfl (c_X2_isReached hS hx3 hq15) gX2_walk_X2_isReached rfl ⟨rfl, rfl⟩ (by decide +kernel) ⟨Nat.le_of_ble_eq_true rfl, Nat.le_of_ble_eq_true rfl⟩ rfl rfl rfl (Nat.le_of_ble_eq_true rfl) dX2_walk_33 rfl (fun hS13 hv14 => ?_)
      show GW (sX D t ad) mi_X2_walk (acV, S0, r0) x S13 36 _ [vI v14]
      refine g_if_eq (n := 39) C 55 (z_r32 hv14) dX2_walk_36 (by decide) rfl (fun (hc16 : v14 = 0) => ?_) (fun (hc16 : ¬ (v14 = 0)) => ?_)
      · rw [if_pos hc16] at h
        refine g_aload_n (n := 56) C 0 dX2_walk_55 rfl rfl ?_
        obtain ⟨S17, v18, hq19, h⟩ := cal_e h
        refine g_callV (n := 59) (As := []) (rest := []) C 14 0 (Nat.le_of_ble_eq_true rfl) rfl rfl (c_X2_nextRow hS13 hq19) gX2_walk_X2_nextRow rfl ⟨rfl, rfl⟩ (by decide +kernel) ⟨Nat.le_of_ble_eq_true rfl, Nat.le_of_ble_eq_true rfl⟩ rfl rfl rfl (Nat.le_of_ble_eq_true rfl) dX2_walk_56 rfl (fun hS17 hv18 => ?_)
        show GW (sX D t ad) mi_X2_walk (acV, S0, r0) x S17 59 _ []
        obtain ⟨v20, ev20, h⟩ := nmV_e h
        have hv20 : r32 v20 := by rw [ev20]; exact w32_r _
        refine g_iinc (n := 62) (lv' := [(3, vI v20), (0, .ref (ad 14)), (1, vI x1), (2, vI x2)]) C 3 dX2_walk_59 rfl (Nat.le_of_ble_eq_true rfl) ev20 rfl rfl ?_
        refine g_goto C 26 dX2_walk_62 (by decide) ?_
        refine g_lv [1, 2, 3, 0] rfl ?_
        exact ih x1 x2 v20 S17 hS17 hx1 hx2 hv20 h
      · rw [if_neg hc16] at h
        refine g_aload_n (n := 40) C 0 dX2_walk_39 rfl rfl ?_
        refine g_dup (n := 41) C rfl dX2_walk_40 rfl ?_
        refine g_getI (n := 44) C 14 5 rfl (Nat.le_of_ble_eq_true rfl) rfl rfl rfl (Nat.le_of_ble_eq_true rfl) in_X2_walk_X2 (by decide +kernel) dX2_walk_41 rfl ?_
        refine g_iconst (n := 45) C dX2_walk_44 rfl ?_
        refine g_iadd (n := 46) C dX2_walk_45 rfl ?_
        obtain ⟨S21, eS21, h⟩ := nmS_e h
        have hS21 : RS S21 := by rw [eS21]; exact RS_i hS13 (w32_r _)
        refine g_putI (n := 49) C 14 5 rfl (Nat.le_of_ble_eq_true rfl) rfl rfl rfl (Nat.le_of_ble_eq_true rfl) in_X2_walk_X2 tyX2_ok nmX2 (by decide +kernel) rfl (by decide +kernel) (Nat.le_of_ble_eq_true rfl) eS21 dX2_walk_46 rfl ?_
        refine g_aload_n (n := 50) C 0 dX2_walk_49 rfl rfl ?_
        refine g_iload_n (n := 51) C 3 dX2_walk_50 rfl rfl ?_
        refine g_iload_n (n := 52) C 1 dX2_walk_51 rfl rfl ?_
        obtain ⟨S22, v23, hq24, h⟩ := cal_e h
        refine g_callV (n := 55) (As := [vI x3, vI x1]) (rest := []) C 14 2 (Nat.le_of_ble_eq_true rfl) rfl rfl (c_X2_visit hS21 hx3 hx1 hq24) gX2_walk_X2_visit rfl ⟨rfl, rfl⟩ (by decide +kernel) ⟨Nat.le_of_ble_eq_true rfl, Nat.le_of_ble_eq_true rfl⟩ rfl rfl rfl (Nat.le_of_ble_eq_true rfl) dX2_walk_52 rfl (fun hS22 hv23 => ?_)
        show GW (sX D t ad) mi_X2_walk (acV, S0, r0) x S22 55 _ []
        refine g_aload_n (n := 56) C 0 dX2_walk_55 rfl rfl ?_
        obtain ⟨S25, v26, hq27, h⟩ := cal_e h
        refine g_callV (n := 59) (As := []) (rest := []) C 14 0 (Nat.le_of_ble_eq_true rfl) rfl rfl (c_X2_nextRow hS22 hq27) gX2_walk_X2_nextRow rfl ⟨rfl, rfl⟩ (by decide +kernel) ⟨Nat.le_of_ble_eq_true rfl, Nat.le_of_ble_eq_true rfl⟩ rfl rfl rfl (Nat.le_of_ble_eq_true rfl) dX2_walk_56 rfl (fun hS25 hv26 => ?_)
        show GW (sX D t ad) mi_X2_walk (acV, S0, r0) x S25 59 _ []
        obtain ⟨v28, ev28, h⟩ := nmV_e h
        have hv28 : r32 v28 := by rw [ev28]; exact w32_r _
        refine g_iinc (n := 62) (lv' := [(3, vI v28), (0, .ref (ad 14)), (1, vI x1), (2, vI x2)]) C 3 dX2_walk_59 rfl (Nat.le_of_ble_eq_true rfl) ev28 rfl rfl ?_
        refine g_goto C 26 dX2_walk_62 (by decide) ?_
        refine g_lv [1, 2, 3, 0] rfl ?_
        exact ih x1 x2 v28 S25 hS25 hx1 hx2 hv28 h
def dn_X2_walk (a0 : Int) (S : St) : Option (St × Int) := (nmS (stU S 14 5 0) fun S1 => (nmS (stU S1 14 6 0) fun S2 => (cal (dn_X2_goToFirstRow S2) fun S3 v4 => (cal (dn_X2_markReached 0 S3) fun S6 v7 => (cal (dn_X2_stateNumbers S6) fun S9 v10 => dn_X2_walk_26 FU a0 v10 0 S9)))))
set_option maxRecDepth 100000 in
set_option maxHeartbeats 4000000 in
theorem c_X2_walk {l : Launch} {D : va_G} {t : T5} {ad : Nat → Nat} {S S0 : St} {r0 : Int} {a0 : Int} (hS : RS S) (ha0 : r32 a0) (h : dn_X2_walk a0 S = some (S0, r0)) : Mc l (sX D t ad) yX2_walk wsX2_walk rm_X2_walk [.ref (ad 14), vI a0] acV S S0 r0 := by
  refine Mc_of (cc := cX2_walk) (nL := 4) (ret := none) (by decide +kernel) rfl (Nat.le_of_ble_eq_true rfl) (lv := [(0, .ref (ad 14)), (1, vI a0)]) rfl (fun x C _ => ?_)
  unfold dn_X2_walk at h
  show GW (sX D t ad) mi_X2_walk (acV, S0, r0) x S 0 [(0, .ref (ad 14)), (1, vI a0)] []
  refine g_aload_n (n := 1) C 0 dX2_walk_0 rfl rfl ?_
  refine g_iconst (n := 2) C dX2_walk_1 rfl ?_
  obtain ⟨S1, eS1, h⟩ := nmS_e h
  have hS1 : RS S1 := by rw [eS1]; exact RS_i hS (by decide : r32 0)
  refine g_putI (n := 5) C 14 5 rfl (Nat.le_of_ble_eq_true rfl) rfl rfl rfl (Nat.le_of_ble_eq_true rfl) in_X2_walk_X2 tyX2_ok nmX2 (by decide +kernel) rfl (by decide +kernel) (Nat.le_of_ble_eq_true rfl) eS1 dX2_walk_2 rfl ?_
  refine g_aload_n (n := 6) C 0 dX2_walk_5 rfl rfl ?_
  refine g_iconst (n := 7) C dX2_walk_6 rfl ?_
  obtain ⟨S2, eS2, h⟩ := nmS_e h
  have hS2 : RS S2 := by rw [eS2]; exact RS_i hS1 (by decide : r32 0)
  refine g_putI (n := 10) C 14 6 rfl (Nat.le_of_ble_eq_true rfl) rfl rfl rfl (Nat.le_of_ble_eq_true rfl) in_X2_walk_X2 tyX2_ok nmX2 (by decide +kernel) rfl (by decide +kernel) (Nat.le_of_ble_eq_true rfl) eS2 dX2_walk_7 rfl ?_
  refine g_aload_n (n := 11) C 0 dX2_walk_10 rfl rfl ?_
  obtain ⟨S3, v4, hq5, h⟩ := cal_e h
  refine g_callV (n := 14) (As := []) (rest := []) C 14 0 (Nat.le_of_ble_eq_true rfl) rfl rfl (c_X2_goToFirstRow hS2 hq5) gX2_walk_X2_goToFirstRow rfl ⟨rfl, rfl⟩ (by decide +kernel) ⟨Nat.le_of_ble_eq_true rfl, Nat.le_of_ble_eq_true rfl⟩ rfl rfl rfl (Nat.le_of_ble_eq_true rfl) dX2_walk_11 rfl (fun hS3 hv4 => ?_)
  show GW (sX D t ad) mi_X2_walk (acV, S0, r0) x S3 14 _ []
  refine g_aload_n (n := 15) C 0 dX2_walk_14 rfl rfl ?_
  refine g_iconst (n := 16) C dX2_walk_15 rfl ?_
  obtain ⟨S6, v7, hq8, h⟩ := cal_e h
  refine g_callV (n := 19) (As := [vI 0]) (rest := []) C 14 1 (Nat.le_of_ble_eq_true rfl) rfl rfl (c_X2_markReached hS3 (by decide : r32 0) hq8) gX2_walk_X2_markReached rfl ⟨rfl, rfl⟩ (by decide +kernel) ⟨Nat.le_of_ble_eq_true rfl, Nat.le_of_ble_eq_true rfl⟩ rfl rfl rfl (Nat.le_of_ble_eq_true rfl) dX2_walk_16 rfl (fun hS6 hv7 => ?_)
  show GW (sX D t ad) mi_X2_walk (acV, S0, r0) x S6 19 _ []
  refine g_aload_n (n := 20) C 0 dX2_walk_19 rfl rfl ?_
  obtain ⟨S9, v10, hq11, h⟩ := cal_e h
  refine g_callV (n := 23) (As := []) (rest := []) C 14 0 (Nat.le_of_ble_eq_true rfl) rfl rfl (c_X2_stateNumbers hS6 hq11) gX2_walk_X2_stateNumbers rfl ⟨rfl, rfl⟩ (by decide +kernel) ⟨Nat.le_of_ble_eq_true rfl, Nat.le_of_ble_eq_true rfl⟩ rfl rfl rfl (Nat.le_of_ble_eq_true rfl) dX2_walk_20 rfl (fun hS9 hv10 => ?_)
  show GW (sX D t ad) mi_X2_walk (acV, S0, r0) x S9 23 _ [vI v10]
  refine g_istore_n (n := 24) (lv' := [(2, vI v10), (0, .ref (ad 14)), (1, vI a0)]) C dX2_walk_23 (Nat.le_of_ble_eq_true rfl) rfl rfl rfl ?_
  refine g_iconst (n := 25) C dX2_walk_24 rfl ?_
  refine g_istore_n (n := 26) (lv' := [(3, vI 0), (2, vI v10), (0, .ref (ad 14)), (1, vI a0)]) C dX2_walk_25 (Nat.le_of_ble_eq_true rfl) rfl rfl rfl ?_
  refine g_lv [2, 3, 1, 0] rfl ?_
  exact u_X2_walk_26 C FU a0 v10 0 S9 hS9 ha0 hv10 (by decide : r32 0) h
-- RX2 figure
abbrev rm_X2_figure : Room := ({ frames := 5, cells := 0, slots := 0, locals := 113 } : Room)
abbrev mi_X2_figure : Mi := (cX2_figure, 3, RX2, wsX2_figure, rm_X2_figure, (some .int))
set_option maxRecDepth 20000 in
theorem in_X2_figure_X2 : ∀ w ∈ u_ws RX2 TX2 7, w ∈ wsX2_figure := by decide +kernel
def dn_X2_figure (a0 : Int) (a1 : Int) (S : St) : Option (St × Int) := (cal (dn_X8_within a0 1 24 S) fun S1 v2 => (if v2 = 0 then some (S1, (-1)) else (cal (dn_X8_within a1 0 1 S1) fun S5 v6 => (if v6 = 0 then some (S5, (-1)) else (if S5 14 4 = a0 then (if a1 = 0 then some (S5, S5 14 5) else some (S5, S5 14 6)) else (cal (dn_X2_walk a0 S5) fun S11 v12 => (nmS (stU S11 14 4 a0) fun S14 => (if a1 = 0 then some (S14, S14 14 5) else some (S14, S14 14 6)))))))))
set_option maxRecDepth 100000 in
set_option maxHeartbeats 4000000 in
theorem c_X2_figure {l : Launch} {D : va_G} {t : T5} {ad : Nat → Nat} {S S0 : St} {r0 : Int} {a0 a1 : Int} (hS : RS S) (ha0 : r32 a0) (ha1 : r32 a1) (h : dn_X2_figure a0 a1 S = some (S0, r0)) : Mc l (sX D t ad) yX2_figure wsX2_figure rm_X2_figure [.ref (ad 14), vI a0, vI a1] acI S S0 r0 := by
  refine Mc_of (cc := cX2_figure) (nL := 3) (ret := (some .int)) (by decide +kernel) rfl (Nat.le_of_ble_eq_true rfl) (lv := [(0, .ref (ad 14)), (1, vI a0), (2, vI a1)]) rfl (fun x C _ => ?_)
  unfold dn_X2_figure at h
  show GW (sX D t ad) mi_X2_figure (acI, S0, r0) x S 0 [(0, .ref (ad 14)), (1, vI a0), (2, vI a1)] []
  refine g_iload_n (n := 1) C 1 dX2_figure_0 rfl rfl ?_
  refine g_iconst (n := 2) C dX2_figure_1 rfl ?_
  refine g_bipush (n := 4) C dX2_figure_2 (by decide +kernel) rfl ?_
  obtain ⟨S1, v2, hq3, h⟩ := cal_e h
  refine g_callSN (n := 7) (As := [vI a0, vI 1, vI 24]) (rest := []) C 3 (c_X8_within hS ha0 (by decide : r32 1) (by decide : r32 24) hq3) gX2_figure_X8_within_n22 (C.2.2.2.2.2.2.1 rfl).2.2.1 (by decide +kernel) (by decide +kernel) rfl ⟨rfl, rfl⟩ (by decide +kernel) ⟨Nat.le_of_ble_eq_true rfl, Nat.le_of_ble_eq_true rfl⟩ rfl rfl (Nat.le_of_ble_eq_true rfl) dX2_figure_4 rfl (fun hS1 hv2 => ?_)
  show GW (sX D t ad) mi_X2_figure (acI, S0, r0) x S1 7 _ [vI v2]
  refine g_if_eq (n := 10) C 19 (z_r32 hv2) dX2_figure_7 (by decide) rfl (fun (hc4 : v2 = 0) => ?_) (fun (hc4 : ¬ (v2 = 0)) => ?_)
  · rw [if_pos hc4] at h
    refine g_iconst (n := 20) C dX2_figure_19 rfl ?_
    exact g_iret C rfl h rfl (by decide : r32 (-1)) hS1 dX2_figure_20
  · rw [if_neg hc4] at h
    refine g_iload_n (n := 11) C 2 dX2_figure_10 rfl rfl ?_
    refine g_iconst (n := 12) C dX2_figure_11 rfl ?_
    refine g_iconst (n := 13) C dX2_figure_12 rfl ?_
    obtain ⟨S5, v6, hq7, h⟩ := cal_e h
    refine g_callSN (n := 16) (As := [vI a1, vI 0, vI 1]) (rest := []) C 3 (c_X8_within hS1 ha1 (by decide : r32 0) (by decide : r32 1) hq7) gX2_figure_X8_within_n22 (C.2.2.2.2.2.2.1 rfl).2.2.1 (by decide +kernel) (by decide +kernel) rfl ⟨rfl, rfl⟩ (by decide +kernel) ⟨Nat.le_of_ble_eq_true rfl, Nat.le_of_ble_eq_true rfl⟩ rfl rfl (Nat.le_of_ble_eq_true rfl) dX2_figure_13 rfl (fun hS5 hv6 => ?_)
    show GW (sX D t ad) mi_X2_figure (acI, S0, r0) x S5 16 _ [vI v6]
    refine g_if_ne (n := 19) C 21 (z_r32 hv6) dX2_figure_16 (by decide) rfl (fun (hc8 : ¬ (v6 = 0)) => ?_) (fun (hc8 : v6 = 0) => ?_)
    · rw [if_neg hc8] at h
      refine g_aload_n (n := 22) C 0 dX2_figure_21 rfl rfl ?_
      refine g_getI (n := 25) C 14 4 rfl (Nat.le_of_ble_eq_true rfl) rfl rfl rfl (Nat.le_of_ble_eq_true rfl) in_X2_figure_X2 (by decide +kernel) dX2_figure_22 rfl ?_
      refine g_iload_n (n := 26) C 1 dX2_figure_25 rfl rfl ?_
      refine g_icmp_eq (n := 29) C 39 ((hS5 14 4).2 (by decide)) ha0 dX2_figure_26 (by decide) rfl (fun (hc9 : S5 14 4 = a0) => ?_) (fun (hc9 : ¬ (S5 14 4 = a0)) => ?_)
      · rw [if_pos hc9] at h
        refine g_iload_n (n := 40) C 2 dX2_figure_39 rfl rfl ?_
        refine g_if_ne (n := 43) C 50 ha1 dX2_figure_40 (by decide) rfl (fun (hc10 : ¬ (a1 = 0)) => ?_) (fun (hc10 : a1 = 0) => ?_)
        · rw [if_neg hc10] at h
          refine g_aload_n (n := 51) C 0 dX2_figure_50 rfl rfl ?_
          refine g_getI (n := 54) C 14 6 rfl (Nat.le_of_ble_eq_true rfl) rfl rfl rfl (Nat.le_of_ble_eq_true rfl) in_X2_figure_X2 (by decide +kernel) dX2_figure_51 rfl ?_
          exact g_iret C rfl h rfl ((hS5 14 6).2 (by decide)) hS5 dX2_figure_54
        · rw [if_pos hc10] at h
          refine g_aload_n (n := 44) C 0 dX2_figure_43 rfl rfl ?_
          refine g_getI (n := 47) C 14 5 rfl (Nat.le_of_ble_eq_true rfl) rfl rfl rfl (Nat.le_of_ble_eq_true rfl) in_X2_figure_X2 (by decide +kernel) dX2_figure_44 rfl ?_
          refine g_goto C 54 dX2_figure_47 (by decide) ?_
          exact g_iret C rfl h rfl ((hS5 14 5).2 (by decide)) hS5 dX2_figure_54
      · rw [if_neg hc9] at h
        refine g_aload_n (n := 30) C 0 dX2_figure_29 rfl rfl ?_
        refine g_iload_n (n := 31) C 1 dX2_figure_30 rfl rfl ?_
        obtain ⟨S11, v12, hq13, h⟩ := cal_e h
        refine g_callV (n := 34) (As := [vI a0]) (rest := []) C 14 1 (Nat.le_of_ble_eq_true rfl) rfl rfl (c_X2_walk hS5 ha0 hq13) gX2_figure_X2_walk rfl ⟨rfl, rfl⟩ (by decide +kernel) ⟨Nat.le_of_ble_eq_true rfl, Nat.le_of_ble_eq_true rfl⟩ rfl rfl rfl (Nat.le_of_ble_eq_true rfl) dX2_figure_31 rfl (fun hS11 hv12 => ?_)
        show GW (sX D t ad) mi_X2_figure (acI, S0, r0) x S11 34 _ []
        refine g_aload_n (n := 35) C 0 dX2_figure_34 rfl rfl ?_
        refine g_iload_n (n := 36) C 1 dX2_figure_35 rfl rfl ?_
        obtain ⟨S14, eS14, h⟩ := nmS_e h
        have hS14 : RS S14 := by rw [eS14]; exact RS_i hS11 ha0
        refine g_putI (n := 39) C 14 4 rfl (Nat.le_of_ble_eq_true rfl) rfl rfl rfl (Nat.le_of_ble_eq_true rfl) in_X2_figure_X2 tyX2_ok nmX2 (by decide +kernel) rfl (by decide +kernel) (Nat.le_of_ble_eq_true rfl) eS14 dX2_figure_36 rfl ?_
        refine g_iload_n (n := 40) C 2 dX2_figure_39 rfl rfl ?_
        refine g_if_ne (n := 43) C 50 ha1 dX2_figure_40 (by decide) rfl (fun (hc15 : ¬ (a1 = 0)) => ?_) (fun (hc15 : a1 = 0) => ?_)
        · rw [if_neg hc15] at h
          refine g_aload_n (n := 51) C 0 dX2_figure_50 rfl rfl ?_
          refine g_getI (n := 54) C 14 6 rfl (Nat.le_of_ble_eq_true rfl) rfl rfl rfl (Nat.le_of_ble_eq_true rfl) in_X2_figure_X2 (by decide +kernel) dX2_figure_51 rfl ?_
          exact g_iret C rfl h rfl ((hS14 14 6).2 (by decide)) hS14 dX2_figure_54
        · rw [if_pos hc15] at h
          refine g_aload_n (n := 44) C 0 dX2_figure_43 rfl rfl ?_
          refine g_getI (n := 47) C 14 5 rfl (Nat.le_of_ble_eq_true rfl) rfl rfl rfl (Nat.le_of_ble_eq_true rfl) in_X2_figure_X2 (by decide +kernel) dX2_figure_44 rfl ?_
          refine g_goto C 54 dX2_figure_47 (by decide) ?_
          exact g_iret C rfl h rfl ((hS14 14 5).2 (by decide)) hS14 dX2_figure_54
    · rw [if_pos hc8] at h
      refine g_iconst (n := 20) C dX2_figure_19 rfl ?_
      exact g_iret C rfl h rfl (by decide : r32 (-1)) hS5 dX2_figure_20
