-- RX9 lines
abbrev rm_X9_lines : Room := ({ frames := 0, cells := 0, slots := 0, locals := 0 } : Room)
abbrev mi_X9_lines : Mi := (cX9_lines, 3, RX9, wsX9_lines, rm_X9_lines, (some .int))
set_option maxRecDepth 20000 in
theorem in_X9_lines_X9 : ∀ w ∈ u_ws RX9 TX9 39, w ∈ wsX9_lines := by decide +kernel
def dn_X9_lines_4 : Nat → Int → Int → St → Option (St × Int)
  | 0, _, _, _ => none
  | n + 1, x1, x2, S => (if 12 ≤ x2 then some (S, x1) else (if 0 ≤ x2 ∧ x2 < 12 then (if S 5 x2.toNat ≤ 0 then (nmV (w32 (x2 + 1)) fun v4 => dn_X9_lines_4 n x1 v4 S) else (nmV (w32 (x1 + 1)) fun v5 => (nmV (w32 (x2 + 1)) fun v6 => dn_X9_lines_4 n v5 v6 S))) else none))
set_option maxRecDepth 100000 in
set_option maxHeartbeats 4000000 in
theorem u_X9_lines_4 {D : va_G} {t : T5} {ad : Nat → Nat} {S0 : St} {r0 : Int} {x : Mx} (C : CX (sM D t ad) mi_X9_lines x) : ∀ (n : Nat) (x1 : Int) (x2 : Int) (S : St), RS S → (r32 x1) → (r32 x2) → dn_X9_lines_4 n x1 x2 S = some (S0, r0) → GW (sM D t ad) mi_X9_lines (acI, S0, r0) x S 4 [(0, .ref (ad 0)), (1, vI x1), (2, vI x2)] [] := by
  intro n
  induction n with
  | zero =>
    intro x1 x2 S hS hx1 hx2 h
    cases h
  | succ n ih =>
    intro x1 x2 S hS hx1 hx2 h
    rw [dn_X9_lines_4] at h
    refine g_iload_n (n := 5) C 2 dX9_lines_4 rfl rfl ?_
    refine g_bipush (n := 7) C dX9_lines_5 (by decide +kernel) rfl ?_
    refine g_icmp_ge (n := 10) C 28 hx2 (by decide : r32 12) dX9_lines_7 (by decide) rfl (fun (hc1 : 12 ≤ x2) => ?_) (fun (hc1 : ¬ (12 ≤ x2)) => ?_)
    · rw [if_pos hc1] at h
      refine g_iload_n (n := 29) C 1 dX9_lines_28 rfl rfl ?_
      exact g_iret C rfl h rfl hx1 hS dX9_lines_29
    · rw [if_neg hc1] at h
      refine g_aload_n (n := 11) C 0 dX9_lines_10 rfl rfl ?_
      refine g_getC (n := 14) C 0 5 rfl (Nat.le_of_ble_eq_true rfl) rfl rfl rfl (Nat.le_of_ble_eq_true rfl) in_X9_lines_X9 (by decide +kernel) dX9_lines_11 rfl ?_
      refine g_iload_n (n := 15) C 2 dX9_lines_14 rfl rfl ?_
      obtain ⟨hg2, h⟩ := gd_e h
      refine g_iald (n := 16) C 5 rfl (Nat.le_of_ble_eq_true rfl) rfl rfl hg2 hx2 dX9_lines_15 rfl ?_
      refine g_if_le (n := 19) C 22 ((hS 5 _).2 (tn_lt hg2 (by decide))) dX9_lines_16 (by decide) rfl (fun (hc3 : S 5 x2.toNat ≤ 0) => ?_) (fun (hc3 : ¬ (S 5 x2.toNat ≤ 0)) => ?_)
      · rw [if_pos hc3] at h
        obtain ⟨v4, ev4, h⟩ := nmV_e h
        have hv4 : r32 v4 := by rw [ev4]; exact w32_r _
        refine g_iinc (n := 25) (lv' := [(2, vI v4), (0, .ref (ad 0)), (1, vI x1)]) C 2 dX9_lines_22 rfl (Nat.le_of_ble_eq_true rfl) ev4 rfl rfl ?_
        refine g_goto C 4 dX9_lines_25 (by decide) ?_
        refine g_lv [1, 2, 0] rfl ?_
        exact ih x1 v4 S hS hx1 hv4 h
      · rw [if_neg hc3] at h
        obtain ⟨v5, ev5, h⟩ := nmV_e h
        have hv5 : r32 v5 := by rw [ev5]; exact w32_r _
        refine g_iinc (n := 22) (lv' := [(1, vI v5), (0, .ref (ad 0)), (2, vI x2)]) C 1 dX9_lines_19 rfl (Nat.le_of_ble_eq_true rfl) ev5 rfl rfl ?_
        obtain ⟨v6, ev6, h⟩ := nmV_e h
        have hv6 : r32 v6 := by rw [ev6]; exact w32_r _
        refine g_iinc (n := 25) (lv' := [(2, vI v6), (1, vI v5), (0, .ref (ad 0))]) C 2 dX9_lines_22 rfl (Nat.le_of_ble_eq_true rfl) ev6 rfl rfl ?_
        refine g_goto C 4 dX9_lines_25 (by decide) ?_
        refine g_lv [2, 1, 0] rfl ?_
        exact ih v5 v6 S hS hv5 hv6 h
def dn_X9_lines (S : St) : Option (St × Int) := dn_X9_lines_4 FU 0 0 S
set_option maxRecDepth 100000 in
set_option maxHeartbeats 4000000 in
theorem c_X9_lines {l : Launch} {D : va_G} {t : T5} {ad : Nat → Nat} {S S0 : St} {r0 : Int} (hS : RS S) (h : dn_X9_lines S = some (S0, r0)) : Mc l (sM D t ad) yX9_lines wsX9_lines rm_X9_lines [.ref (ad 0)] acI S S0 r0 := by
  refine Mc_of (cc := cX9_lines) (nL := 3) (ret := (some .int)) (by decide +kernel) rfl (Nat.le_of_ble_eq_true rfl) (lv := [(0, .ref (ad 0))]) rfl (fun x C _ => ?_)
  unfold dn_X9_lines at h
  show GW (sM D t ad) mi_X9_lines (acI, S0, r0) x S 0 [(0, .ref (ad 0))] []
  refine g_iconst (n := 1) C dX9_lines_0 rfl ?_
  refine g_istore_n (n := 2) (lv' := [(1, vI 0), (0, .ref (ad 0))]) C dX9_lines_1 (Nat.le_of_ble_eq_true rfl) rfl rfl rfl ?_
  refine g_iconst (n := 3) C dX9_lines_2 rfl ?_
  refine g_istore_n (n := 4) (lv' := [(2, vI 0), (1, vI 0), (0, .ref (ad 0))]) C dX9_lines_3 (Nat.le_of_ble_eq_true rfl) rfl rfl rfl ?_
  refine g_lv [2, 1, 0] rfl ?_
  exact u_X9_lines_4 C FU 0 0 S hS (by decide : r32 0) (by decide : r32 0) h
-- RX9 wanted
abbrev rm_X9_wanted : Room := ({ frames := 0, cells := 0, slots := 0, locals := 0 } : Room)
abbrev mi_X9_wanted : Mi := (cX9_wanted, 3, RX9, wsX9_wanted, rm_X9_wanted, (some .int))
set_option maxRecDepth 20000 in
theorem in_X9_wanted_X9 : ∀ w ∈ u_ws RX9 TX9 39, w ∈ wsX9_wanted := by decide +kernel
def dn_X9_wanted_31 : Nat → Int → Int → St → Option (St × Int)
  | 0, _, _, _ => none
  | n + 1, x1, x2, S => (if S 0 19 ≤ x2 then some (S, x1) else (if 0 ≤ x2 ∧ x2 < 60 then (if S 15 x2.toNat = 1 then (nmV (w32 (x1 + 1)) fun v6 => (nmV (w32 (x2 + 1)) fun v7 => dn_X9_wanted_31 n v6 v7 S)) else (nmV (w32 (x2 + 1)) fun v5 => dn_X9_wanted_31 n x1 v5 S)) else none))
set_option maxRecDepth 100000 in
set_option maxHeartbeats 4000000 in
theorem u_X9_wanted_31 {D : va_G} {t : T5} {ad : Nat → Nat} {S0 : St} {r0 : Int} {x : Mx} (C : CX (sM D t ad) mi_X9_wanted x) : ∀ (n : Nat) (x1 : Int) (x2 : Int) (S : St), RS S → (r32 x1) → (r32 x2) → dn_X9_wanted_31 n x1 x2 S = some (S0, r0) → GW (sM D t ad) mi_X9_wanted (acI, S0, r0) x S 31 [(0, .ref (ad 0)), (1, vI x1), (2, vI x2)] [] := by
  intro n
  induction n with
  | zero =>
    intro x1 x2 S hS hx1 hx2 h
    cases h
  | succ n ih =>
    intro x1 x2 S hS hx1 hx2 h
    rw [dn_X9_wanted_31] at h
    refine g_iload_n (n := 32) C 2 dX9_wanted_31 rfl rfl ?_
    refine g_aload_n (n := 33) C 0 dX9_wanted_32 rfl rfl ?_
    refine g_getI (n := 36) C 0 19 rfl (Nat.le_of_ble_eq_true rfl) rfl rfl rfl (Nat.le_of_ble_eq_true rfl) in_X9_wanted_X9 (by decide +kernel) dX9_wanted_33 rfl ?_
    refine g_icmp_ge (n := 39) C 58 hx2 ((hS 0 19).2 (by decide)) dX9_wanted_36 (by decide) rfl (fun (hc2 : S 0 19 ≤ x2) => ?_) (fun (hc2 : ¬ (S 0 19 ≤ x2)) => ?_)
    · rw [if_pos hc2] at h
      refine g_iload_n (n := 59) C 1 dX9_wanted_58 rfl rfl ?_
      exact g_iret C rfl h rfl hx1 hS dX9_wanted_59
    · rw [if_neg hc2] at h
      refine g_aload_n (n := 40) C 0 dX9_wanted_39 rfl rfl ?_
      refine g_getC (n := 43) C 0 15 rfl (Nat.le_of_ble_eq_true rfl) rfl rfl rfl (Nat.le_of_ble_eq_true rfl) in_X9_wanted_X9 (by decide +kernel) dX9_wanted_40 rfl ?_
      refine g_iload_n (n := 44) C 2 dX9_wanted_43 rfl rfl ?_
      obtain ⟨hg3, h⟩ := gd_e h
      refine g_iald (n := 45) C 15 rfl (Nat.le_of_ble_eq_true rfl) rfl rfl hg3 hx2 dX9_wanted_44 rfl ?_
      refine g_iconst (n := 46) C dX9_wanted_45 rfl ?_
      refine g_icmp_ne (n := 49) C 52 ((hS 15 _).2 (tn_lt hg3 (by decide))) (by decide : r32 1) dX9_wanted_46 (by decide) rfl (fun (hc4 : ¬ (S 15 x2.toNat = 1)) => ?_) (fun (hc4 : S 15 x2.toNat = 1) => ?_)
      · rw [if_neg hc4] at h
        obtain ⟨v5, ev5, h⟩ := nmV_e h
        have hv5 : r32 v5 := by rw [ev5]; exact w32_r _
        refine g_iinc (n := 55) (lv' := [(2, vI v5), (0, .ref (ad 0)), (1, vI x1)]) C 2 dX9_wanted_52 rfl (Nat.le_of_ble_eq_true rfl) ev5 rfl rfl ?_
        refine g_goto C 31 dX9_wanted_55 (by decide) ?_
        refine g_lv [1, 2, 0] rfl ?_
        exact ih x1 v5 S hS hx1 hv5 h
      · rw [if_pos hc4] at h
        obtain ⟨v6, ev6, h⟩ := nmV_e h
        have hv6 : r32 v6 := by rw [ev6]; exact w32_r _
        refine g_iinc (n := 52) (lv' := [(1, vI v6), (0, .ref (ad 0)), (2, vI x2)]) C 1 dX9_wanted_49 rfl (Nat.le_of_ble_eq_true rfl) ev6 rfl rfl ?_
        obtain ⟨v7, ev7, h⟩ := nmV_e h
        have hv7 : r32 v7 := by rw [ev7]; exact w32_r _
        refine g_iinc (n := 55) (lv' := [(2, vI v7), (1, vI v6), (0, .ref (ad 0))]) C 2 dX9_wanted_52 rfl (Nat.le_of_ble_eq_true rfl) ev7 rfl rfl ?_
        refine g_goto C 31 dX9_wanted_55 (by decide) ?_
        refine g_lv [2, 1, 0] rfl ?_
        exact ih v6 v7 S hS hv6 hv7 h
def dn_X9_wanted_4 : Nat → Int → Int → St → Option (St × Int)
  | 0, _, _, _ => none
  | n + 1, x1, x2, S => (if 12 ≤ x2 then dn_X9_wanted_31 FU x1 0 S else (if 0 ≤ x2 ∧ x2 < 12 then (if S 5 x2.toNat < 3 then (nmV (w32 (x2 + 1)) fun v10 => dn_X9_wanted_4 n x1 v10 S) else (nmV (w32 (x1 + 1)) fun v11 => (nmV (w32 (x2 + 1)) fun v12 => dn_X9_wanted_4 n v11 v12 S))) else none))
set_option maxRecDepth 100000 in
set_option maxHeartbeats 4000000 in
theorem u_X9_wanted_4 {D : va_G} {t : T5} {ad : Nat → Nat} {S0 : St} {r0 : Int} {x : Mx} (C : CX (sM D t ad) mi_X9_wanted x) : ∀ (n : Nat) (x1 : Int) (x2 : Int) (S : St), RS S → (r32 x1) → (r32 x2) → dn_X9_wanted_4 n x1 x2 S = some (S0, r0) → GW (sM D t ad) mi_X9_wanted (acI, S0, r0) x S 4 [(0, .ref (ad 0)), (1, vI x1), (2, vI x2)] [] := by
  intro n
  induction n with
  | zero =>
    intro x1 x2 S hS hx1 hx2 h
    cases h
  | succ n ih =>
    intro x1 x2 S hS hx1 hx2 h
    rw [dn_X9_wanted_4] at h
    refine g_iload_n (n := 5) C 2 dX9_wanted_4 rfl rfl ?_
    refine g_bipush (n := 7) C dX9_wanted_5 (by decide +kernel) rfl ?_
    refine g_icmp_ge (n := 10) C 29 hx2 (by decide : r32 12) dX9_wanted_7 (by decide) rfl (fun (hc1 : 12 ≤ x2) => ?_) (fun (hc1 : ¬ (12 ≤ x2)) => ?_)
    · rw [if_pos hc1] at h
      refine g_iconst (n := 30) C dX9_wanted_29 rfl ?_
      refine g_istore_n (n := 31) (lv' := [(2, vI 0), (0, .ref (ad 0)), (1, vI x1)]) C dX9_wanted_30 (Nat.le_of_ble_eq_true rfl) rfl rfl rfl ?_
      refine g_lv [1, 2, 0] rfl ?_
      exact u_X9_wanted_31 C FU x1 0 S hS hx1 (by decide : r32 0) h
    · rw [if_neg hc1] at h
      refine g_aload_n (n := 11) C 0 dX9_wanted_10 rfl rfl ?_
      refine g_getC (n := 14) C 0 5 rfl (Nat.le_of_ble_eq_true rfl) rfl rfl rfl (Nat.le_of_ble_eq_true rfl) in_X9_wanted_X9 (by decide +kernel) dX9_wanted_11 rfl ?_
      refine g_iload_n (n := 15) C 2 dX9_wanted_14 rfl rfl ?_
      obtain ⟨hg8, h⟩ := gd_e h
      refine g_iald (n := 16) C 5 rfl (Nat.le_of_ble_eq_true rfl) rfl rfl hg8 hx2 dX9_wanted_15 rfl ?_
      refine g_iconst (n := 17) C dX9_wanted_16 rfl ?_
      refine g_icmp_lt (n := 20) C 23 ((hS 5 _).2 (tn_lt hg8 (by decide))) (by decide : r32 3) dX9_wanted_17 (by decide) rfl (fun (hc9 : S 5 x2.toNat < 3) => ?_) (fun (hc9 : ¬ (S 5 x2.toNat < 3)) => ?_)
      · rw [if_pos hc9] at h
        obtain ⟨v10, ev10, h⟩ := nmV_e h
        have hv10 : r32 v10 := by rw [ev10]; exact w32_r _
        refine g_iinc (n := 26) (lv' := [(2, vI v10), (0, .ref (ad 0)), (1, vI x1)]) C 2 dX9_wanted_23 rfl (Nat.le_of_ble_eq_true rfl) ev10 rfl rfl ?_
        refine g_goto C 4 dX9_wanted_26 (by decide) ?_
        refine g_lv [1, 2, 0] rfl ?_
        exact ih x1 v10 S hS hx1 hv10 h
      · rw [if_neg hc9] at h
        obtain ⟨v11, ev11, h⟩ := nmV_e h
        have hv11 : r32 v11 := by rw [ev11]; exact w32_r _
        refine g_iinc (n := 23) (lv' := [(1, vI v11), (0, .ref (ad 0)), (2, vI x2)]) C 1 dX9_wanted_20 rfl (Nat.le_of_ble_eq_true rfl) ev11 rfl rfl ?_
        obtain ⟨v12, ev12, h⟩ := nmV_e h
        have hv12 : r32 v12 := by rw [ev12]; exact w32_r _
        refine g_iinc (n := 26) (lv' := [(2, vI v12), (1, vI v11), (0, .ref (ad 0))]) C 2 dX9_wanted_23 rfl (Nat.le_of_ble_eq_true rfl) ev12 rfl rfl ?_
        refine g_goto C 4 dX9_wanted_26 (by decide) ?_
        refine g_lv [2, 1, 0] rfl ?_
        exact ih v11 v12 S hS hv11 hv12 h
def dn_X9_wanted (S : St) : Option (St × Int) := dn_X9_wanted_4 FU 0 0 S
set_option maxRecDepth 100000 in
set_option maxHeartbeats 4000000 in
theorem c_X9_wanted {l : Launch} {D : va_G} {t : T5} {ad : Nat → Nat} {S S0 : St} {r0 : Int} (hS : RS S) (h : dn_X9_wanted S = some (S0, r0)) : Mc l (sM D t ad) yX9_wanted wsX9_wanted rm_X9_wanted [.ref (ad 0)] acI S S0 r0 := by
  refine Mc_of (cc := cX9_wanted) (nL := 3) (ret := (some .int)) (by decide +kernel) rfl (Nat.le_of_ble_eq_true rfl) (lv := [(0, .ref (ad 0))]) rfl (fun x C _ => ?_)
  unfold dn_X9_wanted at h
  show GW (sM D t ad) mi_X9_wanted (acI, S0, r0) x S 0 [(0, .ref (ad 0))] []
  refine g_iconst (n := 1) C dX9_wanted_0 rfl ?_
  refine g_istore_n (n := 2) (lv' := [(1, vI 0), (0, .ref (ad 0))]) C dX9_wanted_1 (Nat.le_of_ble_eq_true rfl) rfl rfl rfl ?_
  refine g_iconst (n := 3) C dX9_wanted_2 rfl ?_
  refine g_istore_n (n := 4) (lv' := [(2, vI 0), (1, vI 0), (0, .ref (ad 0))]) C dX9_wanted_3 (Nat.le_of_ble_eq_true rfl) rfl rfl rfl ?_
  refine g_lv [2, 1, 0] rfl ?_
  exact u_X9_wanted_4 C FU 0 0 S hS (by decide : r32 0) (by decide : r32 0) h
-- RX9 tend
abbrev rm_X9_tend : Room := ({ frames := 2, cells := 0, slots := 0, locals := 45 } : Room)
abbrev mi_X9_tend : Mi := (cX9_tend, 2, RX9, wsX9_tend, rm_X9_tend, none)
set_option maxRecDepth 20000 in
theorem in_X9_tend_X9 : ∀ w ∈ u_ws RX9 TX9 39, w ∈ wsX9_tend := by decide +kernel
def dn_X9_tend_142 (k103 : Int → St → Option (St × Int)) : Nat → Int → St → Option (St × Int)
  | 0, _, _ => none
  | n + 1, x1, S => (if 0 ≤ x1 ∧ x1 < 12 then (if S 5 x1.toNat ≤ 0 then (nmS (stU S 6 x1.toNat 0) fun S13 => (nmS (stU S13 0 26 (w32 ((S13 0 26) + 1))) fun S14 => (cal (dn_X9_say 6 (-1) x1 S14) fun S15 v16 => (if S15 1 1 = 0 then (cal (dn_X9_rest x1 S15) fun S21 v22 => k103 x1 S21) else (nmS (stU S15 5 x1.toNat 1) fun S19 => (nmS (stU S19 8 x1.toNat (S19 1 1)) fun S20 => k103 x1 S20)))))) else (nmV (w32 (x1 + 1)) fun v24 => dn_X9_tend_142 k103 n v24 S)) else none)
set_option maxRecDepth 100000 in
set_option maxHeartbeats 4000000 in
theorem u_X9_tend_142 {D : va_G} {t : T5} {ad : Nat → Nat} {S0 : St} {r0 : Int} {x : Mx} (C : CX (sM D t ad) mi_X9_tend x) {k103 : Int → St → Option (St × Int)} (hk103 : ∀ (x1 : Int) (S : St), RS S → (r32 x1) → k103 x1 S = some (S0, r0) → GW (sM D t ad) mi_X9_tend (acV, S0, r0) x S 103 [(0, .ref (ad 0)), (1, vI x1)] []) : ∀ (n : Nat) (x1 : Int) (S : St), RS S → (r32 x1) → dn_X9_tend_142 k103 n x1 S = some (S0, r0) → GW (sM D t ad) mi_X9_tend (acV, S0, r0) x S 142 [(0, .ref (ad 0)), (1, vI x1)] [] := by
  intro n
  induction n with
  | zero =>
    intro x1 S hS hx1 h
    cases h
  | succ n ih =>
    intro x1 S hS hx1 h
    rw [dn_X9_tend_142] at h
    refine g_aload_n (n := 143) C 0 dX9_tend_142 rfl rfl ?_
    refine g_getC (n := 146) C 0 5 rfl (Nat.le_of_ble_eq_true rfl) rfl rfl rfl (Nat.le_of_ble_eq_true rfl) in_X9_tend_X9 (by decide +kernel) dX9_tend_143 rfl ?_
    refine g_iload_n (n := 147) C 1 dX9_tend_146 rfl rfl ?_
    obtain ⟨hg11, h⟩ := gd_e h
    refine g_iald (n := 148) C 5 rfl (Nat.le_of_ble_eq_true rfl) rfl rfl hg11 hx1 dX9_tend_147 rfl ?_
    refine g_if_le (n := 151) C 157 ((hS 5 _).2 (tn_lt hg11 (by decide))) dX9_tend_148 (by decide) rfl (fun (hc12 : S 5 x1.toNat ≤ 0) => ?_) (fun (hc12 : ¬ (S 5 x1.toNat ≤ 0)) => ?_)
    · rw [if_pos hc12] at h
      refine g_aload_n (n := 158) C 0 dX9_tend_157 rfl rfl ?_
      refine g_getC (n := 161) C 0 6 rfl (Nat.le_of_ble_eq_true rfl) rfl rfl rfl (Nat.le_of_ble_eq_true rfl) in_X9_tend_X9 (by decide +kernel) dX9_tend_158 rfl ?_
      refine g_iload_n (n := 162) C 1 dX9_tend_161 rfl rfl ?_
      refine g_iconst (n := 163) C dX9_tend_162 rfl ?_
      obtain ⟨S13, eS13, h⟩ := nmS_e h
      have hS13 : RS S13 := by rw [eS13]; exact RS_i hS (by decide : r32 0)
      refine g_zast (n := 164) C 6 rfl (Nat.le_of_ble_eq_true rfl) rfl rfl hg11 hx1 (by decide +kernel) eS13 dX9_tend_163 rfl ?_
      refine g_aload_n (n := 165) C 0 dX9_tend_164 rfl rfl ?_
      refine g_dup (n := 166) C rfl dX9_tend_165 rfl ?_
      refine g_getI (n := 169) C 0 26 rfl (Nat.le_of_ble_eq_true rfl) rfl rfl rfl (Nat.le_of_ble_eq_true rfl) in_X9_tend_X9 (by decide +kernel) dX9_tend_166 rfl ?_
      refine g_iconst (n := 170) C dX9_tend_169 rfl ?_
      refine g_iadd (n := 171) C dX9_tend_170 rfl ?_
      obtain ⟨S14, eS14, h⟩ := nmS_e h
      have hS14 : RS S14 := by rw [eS14]; exact RS_i hS13 (w32_r _)
      refine g_putI (n := 174) C 0 26 rfl (Nat.le_of_ble_eq_true rfl) rfl rfl rfl (Nat.le_of_ble_eq_true rfl) in_X9_tend_X9 tyX9_ok nmX9 (by decide +kernel) rfl (by decide +kernel) (Nat.le_of_ble_eq_true rfl) eS14 dX9_tend_171 rfl ?_
      refine g_aload_n (n := 175) C 0 dX9_tend_174 rfl rfl ?_
      refine g_bipush (n := 177) C dX9_tend_175 (by decide +kernel) rfl ?_
      refine g_iconst (n := 178) C dX9_tend_177 rfl ?_
      refine g_iload_n (n := 179) C 1 dX9_tend_178 rfl rfl ?_
      obtain ⟨S15, v16, hq17, h⟩ := cal_e h
      refine g_callV (n := 182) (As := [vI 6, vI (-1), vI x1]) (rest := []) C 0 3 (Nat.le_of_ble_eq_true rfl) rfl rfl (c_X9_say hS14 (by decide : r32 6) (by decide : r32 (-1)) hx1 hq17) gX9_tend_X9_say rfl ⟨rfl, rfl⟩ (by decide +kernel) ⟨Nat.le_of_ble_eq_true rfl, Nat.le_of_ble_eq_true rfl⟩ rfl rfl rfl (Nat.le_of_ble_eq_true rfl) dX9_tend_179 rfl (fun hS15 hv16 => ?_)
      show GW (sM D t ad) mi_X9_tend (acV, S0, r0) x S15 182 _ []
      refine g_aload_n (n := 183) C 0 dX9_tend_182 rfl rfl ?_
      refine g_getC (n := 186) C 0 0 rfl (Nat.le_of_ble_eq_true rfl) rfl rfl rfl (Nat.le_of_ble_eq_true rfl) in_X9_tend_X9 (by decide +kernel) dX9_tend_183 rfl ?_
      refine g_iconst (n := 187) C dX9_tend_186 rfl ?_
      refine g_iald (n := 188) C 1 rfl (Nat.le_of_ble_eq_true rfl) rfl rfl (by decide : 0 ≤ (1 : Int) ∧ (1 : Int) < 6) (by decide : r32 1) dX9_tend_187 rfl ?_
      refine g_if_ne (n := 191) C 199 ((hS15 1 _).2 (tn_lt (by decide : 0 ≤ (1 : Int) ∧ (1 : Int) < 6) (by decide))) dX9_tend_188 (by decide) rfl (fun (hc18 : ¬ (S15 1 1 = 0)) => ?_) (fun (hc18 : S15 1 1 = 0) => ?_)
      · rw [if_neg hc18] at h
        refine g_aload_n (n := 200) C 0 dX9_tend_199 rfl rfl ?_
        refine g_getC (n := 203) C 0 5 rfl (Nat.le_of_ble_eq_true rfl) rfl rfl rfl (Nat.le_of_ble_eq_true rfl) in_X9_tend_X9 (by decide +kernel) dX9_tend_200 rfl ?_
        refine g_iload_n (n := 204) C 1 dX9_tend_203 rfl rfl ?_
        refine g_iconst (n := 205) C dX9_tend_204 rfl ?_
        obtain ⟨S19, eS19, h⟩ := nmS_e h
        have hS19 : RS S19 := by rw [eS19]; exact RS_i hS15 (by decide : r32 1)
        refine g_iast (n := 206) C 5 rfl (Nat.le_of_ble_eq_true rfl) rfl rfl hg11 hx1 eS19 dX9_tend_205 rfl ?_
        refine g_aload_n (n := 207) C 0 dX9_tend_206 rfl rfl ?_
        refine g_getC (n := 210) C 0 8 rfl (Nat.le_of_ble_eq_true rfl) rfl rfl rfl (Nat.le_of_ble_eq_true rfl) in_X9_tend_X9 (by decide +kernel) dX9_tend_207 rfl ?_
        refine g_iload_n (n := 211) C 1 dX9_tend_210 rfl rfl ?_
        refine g_aload_n (n := 212) C 0 dX9_tend_211 rfl rfl ?_
        refine g_getC (n := 215) C 0 0 rfl (Nat.le_of_ble_eq_true rfl) rfl rfl rfl (Nat.le_of_ble_eq_true rfl) in_X9_tend_X9 (by decide +kernel) dX9_tend_212 rfl ?_
        refine g_iconst (n := 216) C dX9_tend_215 rfl ?_
        refine g_iald (n := 217) C 1 rfl (Nat.le_of_ble_eq_true rfl) rfl rfl (by decide : 0 ≤ (1 : Int) ∧ (1 : Int) < 6) (by decide : r32 1) dX9_tend_216 rfl ?_
        obtain ⟨S20, eS20, h⟩ := nmS_e h
        have hS20 : RS S20 := by rw [eS20]; exact RS_i hS19 ((hS19 1 _).2 (tn_lt (by decide : 0 ≤ (1 : Int) ∧ (1 : Int) < 6) (by decide)))
        refine g_iast (n := 218) C 8 rfl (Nat.le_of_ble_eq_true rfl) rfl rfl hg11 hx1 eS20 dX9_tend_217 rfl ?_
        refine g_goto C 103 dX9_tend_218 (by decide) ?_
        refine g_lv [0, 1] rfl ?_
        exact hk103 x1 S20 hS20 hx1 h
      · rw [if_pos hc18] at h
        refine g_aload_n (n := 192) C 0 dX9_tend_191 rfl rfl ?_
        refine g_iload_n (n := 193) C 1 dX9_tend_192 rfl rfl ?_
        obtain ⟨S21, v22, hq23, h⟩ := cal_e h
        refine g_callV (n := 196) (As := [vI x1]) (rest := []) C 0 1 (Nat.le_of_ble_eq_true rfl) rfl rfl (c_X9_rest hS15 hx1 hq23) gX9_tend_X9_rest rfl ⟨rfl, rfl⟩ (by decide +kernel) ⟨Nat.le_of_ble_eq_true rfl, Nat.le_of_ble_eq_true rfl⟩ rfl rfl rfl (Nat.le_of_ble_eq_true rfl) dX9_tend_193 rfl (fun hS21 hv22 => ?_)
        show GW (sM D t ad) mi_X9_tend (acV, S0, r0) x S21 196 _ []
        refine g_goto C 218 dX9_tend_196 (by decide) ?_
        refine g_goto C 103 dX9_tend_218 (by decide) ?_
        refine g_lv [0, 1] rfl ?_
        exact hk103 x1 S21 hS21 hx1 h
    · rw [if_neg hc12] at h
      obtain ⟨v24, ev24, h⟩ := nmV_e h
      have hv24 : r32 v24 := by rw [ev24]; exact w32_r _
      refine g_iinc (n := 154) (lv' := [(1, vI v24), (0, .ref (ad 0))]) C 1 dX9_tend_151 rfl (Nat.le_of_ble_eq_true rfl) ev24 rfl rfl ?_
      refine g_goto C 142 dX9_tend_154 (by decide) ?_
      refine g_lv [1, 0] rfl ?_
      exact ih v24 S hS hv24 h
def dn_X9_tend_103 : Nat → Int → St → Option (St × Int)
  | 0, _, _ => none
  | n + 1, x1, S => (cal (dn_X9_lines S) fun S3 v4 => (if S3 1 0 ≤ v4 then some (S3, 0) else (cal (dn_X9_lines S3) fun S7 v8 => (if v8 < S7 1 5 then dn_X9_tend_142 (fun x1_ S_ => dn_X9_tend_103 n x1_ S_) FU 0 S7 else (cal (dn_X9_lines S7) fun S25 v26 => (cal (dn_X9_wanted S25) fun S28 v29 => (if v29 ≤ v26 then some (S28, 0) else dn_X9_tend_142 (fun x1_ S_ => dn_X9_tend_103 n x1_ S_) FU 0 S28)))))))
set_option maxRecDepth 100000 in
set_option maxHeartbeats 4000000 in
theorem u_X9_tend_103 {D : va_G} {t : T5} {ad : Nat → Nat} {S0 : St} {r0 : Int} {x : Mx} (C : CX (sM D t ad) mi_X9_tend x) : ∀ (n : Nat) (x1 : Int) (S : St), RS S → (r32 x1) → dn_X9_tend_103 n x1 S = some (S0, r0) → GW (sM D t ad) mi_X9_tend (acV, S0, r0) x S 103 [(0, .ref (ad 0)), (1, vI x1)] [] := by
  intro n
  induction n with
  | zero =>
    intro x1 S hS hx1 h
    cases h
  | succ n ih =>
    intro x1 S hS hx1 h
    rw [dn_X9_tend_103] at h
    refine g_aload_n (n := 104) C 0 dX9_tend_103 rfl rfl ?_
    obtain ⟨S3, v4, hq5, h⟩ := cal_e h
    refine g_callV (n := 107) (As := []) (rest := []) C 0 0 (Nat.le_of_ble_eq_true rfl) rfl rfl (c_X9_lines hS hq5) gX9_tend_X9_lines rfl ⟨rfl, rfl⟩ (by decide +kernel) ⟨Nat.le_of_ble_eq_true rfl, Nat.le_of_ble_eq_true rfl⟩ rfl rfl rfl (Nat.le_of_ble_eq_true rfl) dX9_tend_104 rfl (fun hS3 hv4 => ?_)
    show GW (sM D t ad) mi_X9_tend (acV, S0, r0) x S3 107 _ [vI v4]
    refine g_aload_n (n := 108) C 0 dX9_tend_107 rfl rfl ?_
    refine g_getC (n := 111) C 0 0 rfl (Nat.le_of_ble_eq_true rfl) rfl rfl rfl (Nat.le_of_ble_eq_true rfl) in_X9_tend_X9 (by decide +kernel) dX9_tend_108 rfl ?_
    refine g_iconst (n := 112) C dX9_tend_111 rfl ?_
    refine g_iald (n := 113) C 1 rfl (Nat.le_of_ble_eq_true rfl) rfl rfl (by decide : 0 ≤ (0 : Int) ∧ (0 : Int) < 6) (by decide : r32 0) dX9_tend_112 rfl ?_
    refine g_icmp_ge (n := 116) C 221 hv4 ((hS3 1 _).2 (tn_lt (by decide : 0 ≤ (0 : Int) ∧ (0 : Int) < 6) (by decide))) dX9_tend_113 (by decide) rfl (fun (hc6 : S3 1 0 ≤ v4) => ?_) (fun (hc6 : ¬ (S3 1 0 ≤ v4)) => ?_)
    · rw [if_pos hc6] at h
      exact g_vret C rfl h rfl trivial hS3 dX9_tend_221
    · rw [if_neg hc6] at h
      refine g_aload_n (n := 117) C 0 dX9_tend_116 rfl rfl ?_
      obtain ⟨S7, v8, hq9, h⟩ := cal_e h
      refine g_callV (n := 120) (As := []) (rest := []) C 0 0 (Nat.le_of_ble_eq_true rfl) rfl rfl (c_X9_lines hS3 hq9) gX9_tend_X9_lines rfl ⟨rfl, rfl⟩ (by decide +kernel) ⟨Nat.le_of_ble_eq_true rfl, Nat.le_of_ble_eq_true rfl⟩ rfl rfl rfl (Nat.le_of_ble_eq_true rfl) dX9_tend_117 rfl (fun hS7 hv8 => ?_)
      show GW (sM D t ad) mi_X9_tend (acV, S0, r0) x S7 120 _ [vI v8]
      refine g_aload_n (n := 121) C 0 dX9_tend_120 rfl rfl ?_
      refine g_getC (n := 124) C 0 0 rfl (Nat.le_of_ble_eq_true rfl) rfl rfl rfl (Nat.le_of_ble_eq_true rfl) in_X9_tend_X9 (by decide +kernel) dX9_tend_121 rfl ?_
      refine g_iconst (n := 125) C dX9_tend_124 rfl ?_
      refine g_iald (n := 126) C 1 rfl (Nat.le_of_ble_eq_true rfl) rfl rfl (by decide : 0 ≤ (5 : Int) ∧ (5 : Int) < 6) (by decide : r32 5) dX9_tend_125 rfl ?_
      refine g_icmp_lt (n := 129) C 140 hv8 ((hS7 1 _).2 (tn_lt (by decide : 0 ≤ (5 : Int) ∧ (5 : Int) < 6) (by decide))) dX9_tend_126 (by decide) rfl (fun (hc10 : v8 < S7 1 5) => ?_) (fun (hc10 : ¬ (v8 < S7 1 5)) => ?_)
      · rw [if_pos hc10] at h
        refine g_iconst (n := 141) C dX9_tend_140 rfl ?_
        refine g_istore_n (n := 142) (lv' := [(1, vI 0), (0, .ref (ad 0))]) C dX9_tend_141 (Nat.le_of_ble_eq_true rfl) rfl rfl rfl ?_
        refine g_lv [1, 0] rfl ?_
        exact u_X9_tend_142 C ih FU 0 S7 hS7 (by decide : r32 0) h
      · rw [if_neg hc10] at h
        refine g_aload_n (n := 130) C 0 dX9_tend_129 rfl rfl ?_
        obtain ⟨S25, v26, hq27, h⟩ := cal_e h
        refine g_callV (n := 133) (As := []) (rest := []) C 0 0 (Nat.le_of_ble_eq_true rfl) rfl rfl (c_X9_lines hS7 hq27) gX9_tend_X9_lines rfl ⟨rfl, rfl⟩ (by decide +kernel) ⟨Nat.le_of_ble_eq_true rfl, Nat.le_of_ble_eq_true rfl⟩ rfl rfl rfl (Nat.le_of_ble_eq_true rfl) dX9_tend_130 rfl (fun hS25 hv26 => ?_)
        show GW (sM D t ad) mi_X9_tend (acV, S0, r0) x S25 133 _ [vI v26]
        refine g_aload_n (n := 134) C 0 dX9_tend_133 rfl rfl ?_
        obtain ⟨S28, v29, hq30, h⟩ := cal_e h
        refine g_callV (n := 137) (As := []) (rest := [vI v26]) C 0 0 (Nat.le_of_ble_eq_true rfl) rfl rfl (c_X9_wanted hS25 hq30) gX9_tend_X9_wanted rfl ⟨rfl, rfl⟩ (by decide +kernel) ⟨Nat.le_of_ble_eq_true rfl, Nat.le_of_ble_eq_true rfl⟩ rfl rfl rfl (Nat.le_of_ble_eq_true rfl) dX9_tend_134 rfl (fun hS28 hv29 => ?_)
        show GW (sM D t ad) mi_X9_tend (acV, S0, r0) x S28 137 _ [vI v29, vI v26]
        refine g_icmp_ge (n := 140) C 221 hv26 hv29 dX9_tend_137 (by decide) rfl (fun (hc31 : v29 ≤ v26) => ?_) (fun (hc31 : ¬ (v29 ≤ v26)) => ?_)
        · rw [if_pos hc31] at h
          exact g_vret C rfl h rfl trivial hS28 dX9_tend_221
        · rw [if_neg hc31] at h
          refine g_iconst (n := 141) C dX9_tend_140 rfl ?_
          refine g_istore_n (n := 142) (lv' := [(1, vI 0), (0, .ref (ad 0))]) C dX9_tend_141 (Nat.le_of_ble_eq_true rfl) rfl rfl rfl ?_
          refine g_lv [1, 0] rfl ?_
          exact u_X9_tend_142 C ih FU 0 S28 hS28 (by decide : r32 0) h
def dn_X9_tend_65 : Nat → Int → St → Option (St × Int)
  | 0, _, _ => none
  | n + 1, x1, S => (if x1 < 0 then dn_X9_tend_103 FU x1 S else (if 0 ≤ x1 ∧ x1 < 12 then (if S 5 x1.toNat = 2 then (cal (dn_X9_lines S) fun S35 v36 => (if v36 ≤ S35 1 0 then (nmV (w32 (x1 + (-1))) fun v39 => dn_X9_tend_65 n v39 S35) else (cal (dn_X9_go x1 S35) fun S40 v41 => (nmV (w32 (x1 + (-1))) fun v43 => dn_X9_tend_65 n v43 S40)))) else (nmV (w32 (x1 + (-1))) fun v34 => dn_X9_tend_65 n v34 S)) else none))
set_option maxRecDepth 100000 in
set_option maxHeartbeats 4000000 in
theorem u_X9_tend_65 {D : va_G} {t : T5} {ad : Nat → Nat} {S0 : St} {r0 : Int} {x : Mx} (C : CX (sM D t ad) mi_X9_tend x) : ∀ (n : Nat) (x1 : Int) (S : St), RS S → (r32 x1) → dn_X9_tend_65 n x1 S = some (S0, r0) → GW (sM D t ad) mi_X9_tend (acV, S0, r0) x S 65 [(0, .ref (ad 0)), (1, vI x1)] [] := by
  intro n
  induction n with
  | zero =>
    intro x1 S hS hx1 h
    cases h
  | succ n ih =>
    intro x1 S hS hx1 h
    rw [dn_X9_tend_65] at h
    refine g_iload_n (n := 66) C 1 dX9_tend_65 rfl rfl ?_
    refine g_if_lt (n := 69) C 103 hx1 dX9_tend_66 (by decide) rfl (fun (hc2 : x1 < 0) => ?_) (fun (hc2 : ¬ (x1 < 0)) => ?_)
    · rw [if_pos hc2] at h
      refine g_lv [0, 1] rfl ?_
      exact u_X9_tend_103 C FU x1 S hS hx1 h
    · rw [if_neg hc2] at h
      refine g_aload_n (n := 70) C 0 dX9_tend_69 rfl rfl ?_
      refine g_getC (n := 73) C 0 5 rfl (Nat.le_of_ble_eq_true rfl) rfl rfl rfl (Nat.le_of_ble_eq_true rfl) in_X9_tend_X9 (by decide +kernel) dX9_tend_70 rfl ?_
      refine g_iload_n (n := 74) C 1 dX9_tend_73 rfl rfl ?_
      obtain ⟨hg32, h⟩ := gd_e h
      refine g_iald (n := 75) C 5 rfl (Nat.le_of_ble_eq_true rfl) rfl rfl hg32 hx1 dX9_tend_74 rfl ?_
      refine g_iconst (n := 76) C dX9_tend_75 rfl ?_
      refine g_icmp_ne (n := 79) C 97 ((hS 5 _).2 (tn_lt hg32 (by decide))) (by decide : r32 2) dX9_tend_76 (by decide) rfl (fun (hc33 : ¬ (S 5 x1.toNat = 2)) => ?_) (fun (hc33 : S 5 x1.toNat = 2) => ?_)
      · rw [if_neg hc33] at h
        obtain ⟨v34, ev34, h⟩ := nmV_e h
        have hv34 : r32 v34 := by rw [ev34]; exact w32_r _
        refine g_iinc (n := 100) (lv' := [(1, vI v34), (0, .ref (ad 0))]) C 1 dX9_tend_97 rfl (Nat.le_of_ble_eq_true rfl) ev34 rfl rfl ?_
        refine g_goto C 65 dX9_tend_100 (by decide) ?_
        refine g_lv [1, 0] rfl ?_
        exact ih v34 S hS hv34 h
      · rw [if_pos hc33] at h
        refine g_aload_n (n := 80) C 0 dX9_tend_79 rfl rfl ?_
        obtain ⟨S35, v36, hq37, h⟩ := cal_e h
        refine g_callV (n := 83) (As := []) (rest := []) C 0 0 (Nat.le_of_ble_eq_true rfl) rfl rfl (c_X9_lines hS hq37) gX9_tend_X9_lines rfl ⟨rfl, rfl⟩ (by decide +kernel) ⟨Nat.le_of_ble_eq_true rfl, Nat.le_of_ble_eq_true rfl⟩ rfl rfl rfl (Nat.le_of_ble_eq_true rfl) dX9_tend_80 rfl (fun hS35 hv36 => ?_)
        show GW (sM D t ad) mi_X9_tend (acV, S0, r0) x S35 83 _ [vI v36]
        refine g_aload_n (n := 84) C 0 dX9_tend_83 rfl rfl ?_
        refine g_getC (n := 87) C 0 0 rfl (Nat.le_of_ble_eq_true rfl) rfl rfl rfl (Nat.le_of_ble_eq_true rfl) in_X9_tend_X9 (by decide +kernel) dX9_tend_84 rfl ?_
        refine g_iconst (n := 88) C dX9_tend_87 rfl ?_
        refine g_iald (n := 89) C 1 rfl (Nat.le_of_ble_eq_true rfl) rfl rfl (by decide : 0 ≤ (0 : Int) ∧ (0 : Int) < 6) (by decide : r32 0) dX9_tend_88 rfl ?_
        refine g_icmp_le (n := 92) C 97 hv36 ((hS35 1 _).2 (tn_lt (by decide : 0 ≤ (0 : Int) ∧ (0 : Int) < 6) (by decide))) dX9_tend_89 (by decide) rfl (fun (hc38 : v36 ≤ S35 1 0) => ?_) (fun (hc38 : ¬ (v36 ≤ S35 1 0)) => ?_)
        · rw [if_pos hc38] at h
          obtain ⟨v39, ev39, h⟩ := nmV_e h
          have hv39 : r32 v39 := by rw [ev39]; exact w32_r _
          refine g_iinc (n := 100) (lv' := [(1, vI v39), (0, .ref (ad 0))]) C 1 dX9_tend_97 rfl (Nat.le_of_ble_eq_true rfl) ev39 rfl rfl ?_
          refine g_goto C 65 dX9_tend_100 (by decide) ?_
          refine g_lv [1, 0] rfl ?_
          exact ih v39 S35 hS35 hv39 h
        · rw [if_neg hc38] at h
          refine g_aload_n (n := 93) C 0 dX9_tend_92 rfl rfl ?_
          refine g_iload_n (n := 94) C 1 dX9_tend_93 rfl rfl ?_
          obtain ⟨S40, v41, hq42, h⟩ := cal_e h
          refine g_callV (n := 97) (As := [vI x1]) (rest := []) C 0 1 (Nat.le_of_ble_eq_true rfl) rfl rfl (c_X9_go hS35 hx1 hq42) gX9_tend_X9_go rfl ⟨rfl, rfl⟩ (by decide +kernel) ⟨Nat.le_of_ble_eq_true rfl, Nat.le_of_ble_eq_true rfl⟩ rfl rfl rfl (Nat.le_of_ble_eq_true rfl) dX9_tend_94 rfl (fun hS40 hv41 => ?_)
          show GW (sM D t ad) mi_X9_tend (acV, S0, r0) x S40 97 _ []
          obtain ⟨v43, ev43, h⟩ := nmV_e h
          have hv43 : r32 v43 := by rw [ev43]; exact w32_r _
          refine g_iinc (n := 100) (lv' := [(1, vI v43), (0, .ref (ad 0))]) C 1 dX9_tend_97 rfl (Nat.le_of_ble_eq_true rfl) ev43 rfl rfl ?_
          refine g_goto C 65 dX9_tend_100 (by decide) ?_
          refine g_lv [1, 0] rfl ?_
          exact ih v43 S40 hS40 hv43 h
def dn_X9_tend_2 : Nat → Int → St → Option (St × Int)
  | 0, _, _ => none
  | n + 1, x1, S => (if 12 ≤ x1 then dn_X9_tend_65 FU 11 S else (if 0 ≤ x1 ∧ x1 < 12 then (if S 5 x1.toNat = 2 then (if w32 ((S 0 4) - (S 9 x1.toNat)) < S 1 4 then (nmV (w32 (x1 + 1)) fun v48 => dn_X9_tend_2 n v48 S) else (cal (dn_X9_lines S) fun S49 v50 => (if v50 ≤ S49 1 5 then (nmV (w32 (x1 + 1)) fun v53 => dn_X9_tend_2 n v53 S49) else (cal (dn_X9_go x1 S49) fun S54 v55 => (nmV (w32 (x1 + 1)) fun v57 => dn_X9_tend_2 n v57 S54))))) else (nmV (w32 (x1 + 1)) fun v46 => dn_X9_tend_2 n v46 S)) else none))
set_option maxRecDepth 100000 in
set_option maxHeartbeats 4000000 in
theorem u_X9_tend_2 {D : va_G} {t : T5} {ad : Nat → Nat} {S0 : St} {r0 : Int} {x : Mx} (C : CX (sM D t ad) mi_X9_tend x) : ∀ (n : Nat) (x1 : Int) (S : St), RS S → (r32 x1) → dn_X9_tend_2 n x1 S = some (S0, r0) → GW (sM D t ad) mi_X9_tend (acV, S0, r0) x S 2 [(0, .ref (ad 0)), (1, vI x1)] [] := by
  intro n
  induction n with
  | zero =>
    intro x1 S hS hx1 h
    cases h
  | succ n ih =>
    intro x1 S hS hx1 h
    rw [dn_X9_tend_2] at h
    refine g_iload_n (n := 3) C 1 dX9_tend_2 rfl rfl ?_
    refine g_bipush (n := 5) C dX9_tend_3 (by decide +kernel) rfl ?_
    refine g_icmp_ge (n := 8) C 62 hx1 (by decide : r32 12) dX9_tend_5 (by decide) rfl (fun (hc1 : 12 ≤ x1) => ?_) (fun (hc1 : ¬ (12 ≤ x1)) => ?_)
    · rw [if_pos hc1] at h
      refine g_bipush (n := 64) C dX9_tend_62 (by decide +kernel) rfl ?_
      refine g_istore_n (n := 65) (lv' := [(1, vI 11), (0, .ref (ad 0))]) C dX9_tend_64 (Nat.le_of_ble_eq_true rfl) rfl rfl rfl ?_
      refine g_lv [1, 0] rfl ?_
      exact u_X9_tend_65 C FU 11 S hS (by decide : r32 11) h
    · rw [if_neg hc1] at h
      refine g_aload_n (n := 9) C 0 dX9_tend_8 rfl rfl ?_
      refine g_getC (n := 12) C 0 5 rfl (Nat.le_of_ble_eq_true rfl) rfl rfl rfl (Nat.le_of_ble_eq_true rfl) in_X9_tend_X9 (by decide +kernel) dX9_tend_9 rfl ?_
      refine g_iload_n (n := 13) C 1 dX9_tend_12 rfl rfl ?_
      obtain ⟨hg44, h⟩ := gd_e h
      refine g_iald (n := 14) C 5 rfl (Nat.le_of_ble_eq_true rfl) rfl rfl hg44 hx1 dX9_tend_13 rfl ?_
      refine g_iconst (n := 15) C dX9_tend_14 rfl ?_
      refine g_icmp_ne (n := 18) C 56 ((hS 5 _).2 (tn_lt hg44 (by decide))) (by decide : r32 2) dX9_tend_15 (by decide) rfl (fun (hc45 : ¬ (S 5 x1.toNat = 2)) => ?_) (fun (hc45 : S 5 x1.toNat = 2) => ?_)
      · rw [if_neg hc45] at h
        obtain ⟨v46, ev46, h⟩ := nmV_e h
        have hv46 : r32 v46 := by rw [ev46]; exact w32_r _
        refine g_iinc (n := 59) (lv' := [(1, vI v46), (0, .ref (ad 0))]) C 1 dX9_tend_56 rfl (Nat.le_of_ble_eq_true rfl) ev46 rfl rfl ?_
        refine g_goto C 2 dX9_tend_59 (by decide) ?_
        refine g_lv [1, 0] rfl ?_
        exact ih v46 S hS hv46 h
      · rw [if_pos hc45] at h
        refine g_aload_n (n := 19) C 0 dX9_tend_18 rfl rfl ?_
        refine g_getI (n := 22) C 0 4 rfl (Nat.le_of_ble_eq_true rfl) rfl rfl rfl (Nat.le_of_ble_eq_true rfl) in_X9_tend_X9 (by decide +kernel) dX9_tend_19 rfl ?_
        refine g_aload_n (n := 23) C 0 dX9_tend_22 rfl rfl ?_
        refine g_getC (n := 26) C 0 9 rfl (Nat.le_of_ble_eq_true rfl) rfl rfl rfl (Nat.le_of_ble_eq_true rfl) in_X9_tend_X9 (by decide +kernel) dX9_tend_23 rfl ?_
        refine g_iload_n (n := 27) C 1 dX9_tend_26 rfl rfl ?_
        refine g_iald (n := 28) C 9 rfl (Nat.le_of_ble_eq_true rfl) rfl rfl hg44 hx1 dX9_tend_27 rfl ?_
        refine g_isub (n := 29) C dX9_tend_28 rfl ?_
        refine g_aload_n (n := 30) C 0 dX9_tend_29 rfl rfl ?_
        refine g_getC (n := 33) C 0 0 rfl (Nat.le_of_ble_eq_true rfl) rfl rfl rfl (Nat.le_of_ble_eq_true rfl) in_X9_tend_X9 (by decide +kernel) dX9_tend_30 rfl ?_
        refine g_iconst (n := 34) C dX9_tend_33 rfl ?_
        refine g_iald (n := 35) C 1 rfl (Nat.le_of_ble_eq_true rfl) rfl rfl (by decide : 0 ≤ (4 : Int) ∧ (4 : Int) < 6) (by decide : r32 4) dX9_tend_34 rfl ?_
        refine g_icmp_lt (n := 38) C 56 (w32_r _) ((hS 1 _).2 (tn_lt (by decide : 0 ≤ (4 : Int) ∧ (4 : Int) < 6) (by decide))) dX9_tend_35 (by decide) rfl (fun (hc47 : w32 ((S 0 4) - (S 9 x1.toNat)) < S 1 4) => ?_) (fun (hc47 : ¬ (w32 ((S 0 4) - (S 9 x1.toNat)) < S 1 4)) => ?_)
        · rw [if_pos hc47] at h
          obtain ⟨v48, ev48, h⟩ := nmV_e h
          have hv48 : r32 v48 := by rw [ev48]; exact w32_r _
          refine g_iinc (n := 59) (lv' := [(1, vI v48), (0, .ref (ad 0))]) C 1 dX9_tend_56 rfl (Nat.le_of_ble_eq_true rfl) ev48 rfl rfl ?_
          refine g_goto C 2 dX9_tend_59 (by decide) ?_
          refine g_lv [1, 0] rfl ?_
          exact ih v48 S hS hv48 h
        · rw [if_neg hc47] at h
          refine g_aload_n (n := 39) C 0 dX9_tend_38 rfl rfl ?_
          obtain ⟨S49, v50, hq51, h⟩ := cal_e h
          refine g_callV (n := 42) (As := []) (rest := []) C 0 0 (Nat.le_of_ble_eq_true rfl) rfl rfl (c_X9_lines hS hq51) gX9_tend_X9_lines rfl ⟨rfl, rfl⟩ (by decide +kernel) ⟨Nat.le_of_ble_eq_true rfl, Nat.le_of_ble_eq_true rfl⟩ rfl rfl rfl (Nat.le_of_ble_eq_true rfl) dX9_tend_39 rfl (fun hS49 hv50 => ?_)
          show GW (sM D t ad) mi_X9_tend (acV, S0, r0) x S49 42 _ [vI v50]
          refine g_aload_n (n := 43) C 0 dX9_tend_42 rfl rfl ?_
          refine g_getC (n := 46) C 0 0 rfl (Nat.le_of_ble_eq_true rfl) rfl rfl rfl (Nat.le_of_ble_eq_true rfl) in_X9_tend_X9 (by decide +kernel) dX9_tend_43 rfl ?_
          refine g_iconst (n := 47) C dX9_tend_46 rfl ?_
          refine g_iald (n := 48) C 1 rfl (Nat.le_of_ble_eq_true rfl) rfl rfl (by decide : 0 ≤ (5 : Int) ∧ (5 : Int) < 6) (by decide : r32 5) dX9_tend_47 rfl ?_
          refine g_icmp_le (n := 51) C 56 hv50 ((hS49 1 _).2 (tn_lt (by decide : 0 ≤ (5 : Int) ∧ (5 : Int) < 6) (by decide))) dX9_tend_48 (by decide) rfl (fun (hc52 : v50 ≤ S49 1 5) => ?_) (fun (hc52 : ¬ (v50 ≤ S49 1 5)) => ?_)
          · rw [if_pos hc52] at h
            obtain ⟨v53, ev53, h⟩ := nmV_e h
            have hv53 : r32 v53 := by rw [ev53]; exact w32_r _
            refine g_iinc (n := 59) (lv' := [(1, vI v53), (0, .ref (ad 0))]) C 1 dX9_tend_56 rfl (Nat.le_of_ble_eq_true rfl) ev53 rfl rfl ?_
            refine g_goto C 2 dX9_tend_59 (by decide) ?_
            refine g_lv [1, 0] rfl ?_
            exact ih v53 S49 hS49 hv53 h
          · rw [if_neg hc52] at h
            refine g_aload_n (n := 52) C 0 dX9_tend_51 rfl rfl ?_
            refine g_iload_n (n := 53) C 1 dX9_tend_52 rfl rfl ?_
            obtain ⟨S54, v55, hq56, h⟩ := cal_e h
            refine g_callV (n := 56) (As := [vI x1]) (rest := []) C 0 1 (Nat.le_of_ble_eq_true rfl) rfl rfl (c_X9_go hS49 hx1 hq56) gX9_tend_X9_go rfl ⟨rfl, rfl⟩ (by decide +kernel) ⟨Nat.le_of_ble_eq_true rfl, Nat.le_of_ble_eq_true rfl⟩ rfl rfl rfl (Nat.le_of_ble_eq_true rfl) dX9_tend_53 rfl (fun hS54 hv55 => ?_)
            show GW (sM D t ad) mi_X9_tend (acV, S0, r0) x S54 56 _ []
            obtain ⟨v57, ev57, h⟩ := nmV_e h
            have hv57 : r32 v57 := by rw [ev57]; exact w32_r _
            refine g_iinc (n := 59) (lv' := [(1, vI v57), (0, .ref (ad 0))]) C 1 dX9_tend_56 rfl (Nat.le_of_ble_eq_true rfl) ev57 rfl rfl ?_
            refine g_goto C 2 dX9_tend_59 (by decide) ?_
            refine g_lv [1, 0] rfl ?_
            exact ih v57 S54 hS54 hv57 h
def dn_X9_tend (S : St) : Option (St × Int) := dn_X9_tend_2 FU 0 S
set_option maxRecDepth 100000 in
set_option maxHeartbeats 4000000 in
theorem c_X9_tend {l : Launch} {D : va_G} {t : T5} {ad : Nat → Nat} {S S0 : St} {r0 : Int} (hS : RS S) (h : dn_X9_tend S = some (S0, r0)) : Mc l (sM D t ad) yX9_tend wsX9_tend rm_X9_tend [.ref (ad 0)] acV S S0 r0 := by
  refine Mc_of (cc := cX9_tend) (nL := 2) (ret := none) (by decide +kernel) rfl (Nat.le_of_ble_eq_true rfl) (lv := [(0, .ref (ad 0))]) rfl (fun x C _ => ?_)
  unfold dn_X9_tend at h
  show GW (sM D t ad) mi_X9_tend (acV, S0, r0) x S 0 [(0, .ref (ad 0))] []
  refine g_iconst (n := 1) C dX9_tend_0 rfl ?_
  refine g_istore_n (n := 2) (lv' := [(1, vI 0), (0, .ref (ad 0))]) C dX9_tend_1 (Nat.le_of_ble_eq_true rfl) rfl rfl rfl ?_
  refine g_lv [1, 0] rfl ?_
  exact u_X9_tend_2 C FU 0 S hS (by decide : r32 0) h
-- RX9 many
abbrev rm_X9_many : Room := ({ frames := 0, cells := 0, slots := 0, locals := 0 } : Room)
abbrev mi_X9_many : Mi := (cX9_many, 4, RX9, wsX9_many, rm_X9_many, (some .int))
set_option maxRecDepth 20000 in
theorem in_X9_many_X9 : ∀ w ∈ u_ws RX9 TX9 39, w ∈ wsX9_many := by decide +kernel
def dn_X9_many_4 : Nat → Int → Int → Int → St → Option (St × Int)
  | 0, _, _, _, _ => none
  | n + 1, x1, x2, x3, S => (if S 0 19 ≤ x3 then some (S, x2) else (if 0 ≤ x3 ∧ x3 < 60 then (if S 15 x3.toNat = x1 then (nmV (w32 (x2 + 1)) fun v5 => (nmV (w32 (x3 + 1)) fun v6 => dn_X9_many_4 n x1 v5 v6 S)) else (nmV (w32 (x3 + 1)) fun v4 => dn_X9_many_4 n x1 x2 v4 S)) else none))
set_option maxRecDepth 100000 in
set_option maxHeartbeats 4000000 in
theorem u_X9_many_4 {D : va_G} {t : T5} {ad : Nat → Nat} {S0 : St} {r0 : Int} {x : Mx} (C : CX (sM D t ad) mi_X9_many x) : ∀ (n : Nat) (x1 : Int) (x2 : Int) (x3 : Int) (S : St), RS S → (r32 x1) → (r32 x2) → (r32 x3) → dn_X9_many_4 n x1 x2 x3 S = some (S0, r0) → GW (sM D t ad) mi_X9_many (acI, S0, r0) x S 4 [(0, .ref (ad 0)), (1, vI x1), (2, vI x2), (3, vI x3)] [] := by
  intro n
  induction n with
  | zero =>
    intro x1 x2 x3 S hS hx1 hx2 hx3 h
    cases h
  | succ n ih =>
    intro x1 x2 x3 S hS hx1 hx2 hx3 h
    rw [dn_X9_many_4] at h
    refine g_iload_n (n := 5) C 3 dX9_many_4 rfl rfl ?_
    refine g_aload_n (n := 6) C 0 dX9_many_5 rfl rfl ?_
    refine g_getI (n := 9) C 0 19 rfl (Nat.le_of_ble_eq_true rfl) rfl rfl rfl (Nat.le_of_ble_eq_true rfl) in_X9_many_X9 (by decide +kernel) dX9_many_6 rfl ?_
    refine g_icmp_ge (n := 12) C 31 hx3 ((hS 0 19).2 (by decide)) dX9_many_9 (by decide) rfl (fun (hc1 : S 0 19 ≤ x3) => ?_) (fun (hc1 : ¬ (S 0 19 ≤ x3)) => ?_)
    · rw [if_pos hc1] at h
      refine g_iload_n (n := 32) C 2 dX9_many_31 rfl rfl ?_
      exact g_iret C rfl h rfl hx2 hS dX9_many_32
    · rw [if_neg hc1] at h
      refine g_aload_n (n := 13) C 0 dX9_many_12 rfl rfl ?_
      refine g_getC (n := 16) C 0 15 rfl (Nat.le_of_ble_eq_true rfl) rfl rfl rfl (Nat.le_of_ble_eq_true rfl) in_X9_many_X9 (by decide +kernel) dX9_many_13 rfl ?_
      refine g_iload_n (n := 17) C 3 dX9_many_16 rfl rfl ?_
      obtain ⟨hg2, h⟩ := gd_e h
      refine g_iald (n := 18) C 15 rfl (Nat.le_of_ble_eq_true rfl) rfl rfl hg2 hx3 dX9_many_17 rfl ?_
      refine g_iload_n (n := 19) C 1 dX9_many_18 rfl rfl ?_
      refine g_icmp_ne (n := 22) C 25 ((hS 15 _).2 (tn_lt hg2 (by decide))) hx1 dX9_many_19 (by decide) rfl (fun (hc3 : ¬ (S 15 x3.toNat = x1)) => ?_) (fun (hc3 : S 15 x3.toNat = x1) => ?_)
      · rw [if_neg hc3] at h
        obtain ⟨v4, ev4, h⟩ := nmV_e h
        have hv4 : r32 v4 := by rw [ev4]; exact w32_r _
        refine g_iinc (n := 28) (lv' := [(3, vI v4), (0, .ref (ad 0)), (1, vI x1), (2, vI x2)]) C 3 dX9_many_25 rfl (Nat.le_of_ble_eq_true rfl) ev4 rfl rfl ?_
        refine g_goto C 4 dX9_many_28 (by decide) ?_
        refine g_lv [1, 2, 3, 0] rfl ?_
        exact ih x1 x2 v4 S hS hx1 hx2 hv4 h
      · rw [if_pos hc3] at h
        obtain ⟨v5, ev5, h⟩ := nmV_e h
        have hv5 : r32 v5 := by rw [ev5]; exact w32_r _
        refine g_iinc (n := 25) (lv' := [(2, vI v5), (0, .ref (ad 0)), (1, vI x1), (3, vI x3)]) C 2 dX9_many_22 rfl (Nat.le_of_ble_eq_true rfl) ev5 rfl rfl ?_
        obtain ⟨v6, ev6, h⟩ := nmV_e h
        have hv6 : r32 v6 := by rw [ev6]; exact w32_r _
        refine g_iinc (n := 28) (lv' := [(3, vI v6), (2, vI v5), (0, .ref (ad 0)), (1, vI x1)]) C 3 dX9_many_25 rfl (Nat.le_of_ble_eq_true rfl) ev6 rfl rfl ?_
        refine g_goto C 4 dX9_many_28 (by decide) ?_
        refine g_lv [2, 3, 1, 0] rfl ?_
        exact ih x1 v5 v6 S hS hx1 hv5 hv6 h
def dn_X9_many (a0 : Int) (S : St) : Option (St × Int) := dn_X9_many_4 FU a0 0 0 S
set_option maxRecDepth 100000 in
set_option maxHeartbeats 4000000 in
theorem c_X9_many {l : Launch} {D : va_G} {t : T5} {ad : Nat → Nat} {S S0 : St} {r0 : Int} {a0 : Int} (hS : RS S) (ha0 : r32 a0) (h : dn_X9_many a0 S = some (S0, r0)) : Mc l (sM D t ad) yX9_many wsX9_many rm_X9_many [.ref (ad 0), vI a0] acI S S0 r0 := by
  refine Mc_of (cc := cX9_many) (nL := 4) (ret := (some .int)) (by decide +kernel) rfl (Nat.le_of_ble_eq_true rfl) (lv := [(0, .ref (ad 0)), (1, vI a0)]) rfl (fun x C _ => ?_)
  unfold dn_X9_many at h
  show GW (sM D t ad) mi_X9_many (acI, S0, r0) x S 0 [(0, .ref (ad 0)), (1, vI a0)] []
  refine g_iconst (n := 1) C dX9_many_0 rfl ?_
  refine g_istore_n (n := 2) (lv' := [(2, vI 0), (0, .ref (ad 0)), (1, vI a0)]) C dX9_many_1 (Nat.le_of_ble_eq_true rfl) rfl rfl rfl ?_
  refine g_iconst (n := 3) C dX9_many_2 rfl ?_
  refine g_istore_n (n := 4) (lv' := [(3, vI 0), (2, vI 0), (0, .ref (ad 0)), (1, vI a0)]) C dX9_many_3 (Nat.le_of_ble_eq_true rfl) rfl rfl rfl ?_
  refine g_lv [2, 3, 1, 0] rfl ?_
  exact u_X9_many_4 C FU a0 0 0 S hS ha0 (by decide : r32 0) (by decide : r32 0) h
-- RX9 run
abbrev rm_X9_run : Room := ({ frames := 4, cells := 0, slots := 0, locals := 91 } : Room)
abbrev mi_X9_run : Mi := (cX9_run, 5, RX9, wsX9_run, rm_X9_run, (some .int))
set_option maxRecDepth 20000 in
theorem in_X9_run_X9 : ∀ w ∈ u_ws RX9 TX9 39, w ∈ wsX9_run := by decide +kernel
def dn_X9_run_44 (k26 : Int → Int → Int → St → Option (St × Int)) : Nat → Int → Int → Int → Int → St → Option (St × Int)
  | 0, _, _, _, _, _ => none
  | n + 1, x1, x2, x3, x4, S => (if S 0 22 ≤ x4 then (cal (dn_X9_turnSlots S) fun S13 v14 => (cal (dn_X9_doWork S13) fun S16 v17 => (cal (dn_X9_finish S16) fun S19 v20 => (cal (dn_X9_come S19) fun S22 v23 => (cal (dn_X9_share S22) fun S25 v26 => (cal (dn_X9_tend S25) fun S28 v29 => (nmV (w32 (x3 + 1)) fun v31 => k26 x1 x2 v31 S28))))))) else (if 0 ≤ x4 ∧ x4 < 60 then (if S 19 x4.toNat = S 0 4 then (if 0 ≤ S 20 x4.toNat ∧ S 20 x4.toNat < 12 then (if S 5 (S 20 x4.toNat).toNat ≤ 0 then (nmV (w32 (x4 + 1)) fun v37 => dn_X9_run_44 k26 n x1 x2 x3 v37 S) else (nmS (stU S 6 (S 20 x4.toNat).toNat 1) fun S38 => (nmV (w32 (x4 + 1)) fun v39 => dn_X9_run_44 k26 n x1 x2 x3 v39 S38))) else none) else (nmV (w32 (x4 + 1)) fun v34 => dn_X9_run_44 k26 n x1 x2 x3 v34 S)) else none))
set_option maxRecDepth 100000 in
set_option maxHeartbeats 4000000 in
theorem u_X9_run_44 {D : va_G} {t : T5} {ad : Nat → Nat} {S0 : St} {r0 : Int} {x : Mx} (C : CX (sM D t ad) mi_X9_run x) {k26 : Int → Int → Int → St → Option (St × Int)} (hk26 : ∀ (x1 : Int) (x2 : Int) (x3 : Int) (S : St), RS S → (r32 x1) → (r32 x2) → (r32 x3) → k26 x1 x2 x3 S = some (S0, r0) → GW (sM D t ad) mi_X9_run (acI, S0, r0) x S 26 [(0, .ref (ad 0)), (1, vI x1), (2, vI x2), (3, vI x3)] []) : ∀ (n : Nat) (x1 : Int) (x2 : Int) (x3 : Int) (x4 : Int) (S : St), RS S → (r32 x1) → (r32 x2) → (r32 x3) → (r32 x4) → dn_X9_run_44 k26 n x1 x2 x3 x4 S = some (S0, r0) → GW (sM D t ad) mi_X9_run (acI, S0, r0) x S 44 [(0, .ref (ad 0)), (1, vI x1), (2, vI x2), (3, vI x3), (4, vI x4)] [] := by
  intro n
  induction n with
  | zero =>
    intro x1 x2 x3 x4 S hS hx1 hx2 hx3 hx4 h
    cases h
  | succ n ih =>
    intro x1 x2 x3 x4 S hS hx1 hx2 hx3 hx4 h
    rw [dn_X9_run_44] at h
    refine g_iload (n := 46) C 4 dX9_run_44 rfl rfl ?_
    refine g_aload_n (n := 47) C 0 dX9_run_46 rfl rfl ?_
    refine g_getI (n := 50) C 0 22 rfl (Nat.le_of_ble_eq_true rfl) rfl rfl rfl (Nat.le_of_ble_eq_true rfl) in_X9_run_X9 (by decide +kernel) dX9_run_47 rfl ?_
    refine g_icmp_ge (n := 53) C 101 hx4 ((hS 0 22).2 (by decide)) dX9_run_50 (by decide) rfl (fun (hc12 : S 0 22 ≤ x4) => ?_) (fun (hc12 : ¬ (S 0 22 ≤ x4)) => ?_)
    · rw [if_pos hc12] at h
      refine g_aload_n (n := 102) C 0 dX9_run_101 rfl rfl ?_
      obtain ⟨S13, v14, hq15, h⟩ := cal_e h
      refine g_callV (n := 105) (As := []) (rest := []) C 0 0 (Nat.le_of_ble_eq_true rfl) rfl rfl (c_X9_turnSlots hS hq15) gX9_run_X9_turnSlots rfl ⟨rfl, rfl⟩ (by decide +kernel) ⟨Nat.le_of_ble_eq_true rfl, Nat.le_of_ble_eq_true rfl⟩ rfl rfl rfl (Nat.le_of_ble_eq_true rfl) dX9_run_102 rfl (fun hS13 hv14 => ?_)
      show GW (sM D t ad) mi_X9_run (acI, S0, r0) x S13 105 _ []
      refine g_aload_n (n := 106) C 0 dX9_run_105 rfl rfl ?_
      obtain ⟨S16, v17, hq18, h⟩ := cal_e h
      refine g_callV (n := 109) (As := []) (rest := []) C 0 0 (Nat.le_of_ble_eq_true rfl) rfl rfl (c_X9_doWork hS13 hq18) gX9_run_X9_doWork rfl ⟨rfl, rfl⟩ (by decide +kernel) ⟨Nat.le_of_ble_eq_true rfl, Nat.le_of_ble_eq_true rfl⟩ rfl rfl rfl (Nat.le_of_ble_eq_true rfl) dX9_run_106 rfl (fun hS16 hv17 => ?_)
      show GW (sM D t ad) mi_X9_run (acI, S0, r0) x S16 109 _ []
      refine g_aload_n (n := 110) C 0 dX9_run_109 rfl rfl ?_
      obtain ⟨S19, v20, hq21, h⟩ := cal_e h
      refine g_callV (n := 113) (As := []) (rest := []) C 0 0 (Nat.le_of_ble_eq_true rfl) rfl rfl (c_X9_finish hS16 hq21) gX9_run_X9_finish rfl ⟨rfl, rfl⟩ (by decide +kernel) ⟨Nat.le_of_ble_eq_true rfl, Nat.le_of_ble_eq_true rfl⟩ rfl rfl rfl (Nat.le_of_ble_eq_true rfl) dX9_run_110 rfl (fun hS19 hv20 => ?_)
      show GW (sM D t ad) mi_X9_run (acI, S0, r0) x S19 113 _ []
      refine g_aload_n (n := 114) C 0 dX9_run_113 rfl rfl ?_
      obtain ⟨S22, v23, hq24, h⟩ := cal_e h
      refine g_callV (n := 117) (As := []) (rest := []) C 0 0 (Nat.le_of_ble_eq_true rfl) rfl rfl (c_X9_come hS19 hq24) gX9_run_X9_come rfl ⟨rfl, rfl⟩ (by decide +kernel) ⟨Nat.le_of_ble_eq_true rfl, Nat.le_of_ble_eq_true rfl⟩ rfl rfl rfl (Nat.le_of_ble_eq_true rfl) dX9_run_114 rfl (fun hS22 hv23 => ?_)
      show GW (sM D t ad) mi_X9_run (acI, S0, r0) x S22 117 _ []
      refine g_aload_n (n := 118) C 0 dX9_run_117 rfl rfl ?_
      obtain ⟨S25, v26, hq27, h⟩ := cal_e h
      refine g_callV (n := 121) (As := []) (rest := []) C 0 0 (Nat.le_of_ble_eq_true rfl) rfl rfl (c_X9_share hS22 hq27) gX9_run_X9_share rfl ⟨rfl, rfl⟩ (by decide +kernel) ⟨Nat.le_of_ble_eq_true rfl, Nat.le_of_ble_eq_true rfl⟩ rfl rfl rfl (Nat.le_of_ble_eq_true rfl) dX9_run_118 rfl (fun hS25 hv26 => ?_)
      show GW (sM D t ad) mi_X9_run (acI, S0, r0) x S25 121 _ []
      refine g_aload_n (n := 122) C 0 dX9_run_121 rfl rfl ?_
      obtain ⟨S28, v29, hq30, h⟩ := cal_e h
      refine g_callV (n := 125) (As := []) (rest := []) C 0 0 (Nat.le_of_ble_eq_true rfl) rfl rfl (c_X9_tend hS25 hq30) gX9_run_X9_tend rfl ⟨rfl, rfl⟩ (by decide +kernel) ⟨Nat.le_of_ble_eq_true rfl, Nat.le_of_ble_eq_true rfl⟩ rfl rfl rfl (Nat.le_of_ble_eq_true rfl) dX9_run_122 rfl (fun hS28 hv29 => ?_)
      show GW (sM D t ad) mi_X9_run (acI, S0, r0) x S28 125 _ []
      obtain ⟨v31, ev31, h⟩ := nmV_e h
      have hv31 : r32 v31 := by rw [ev31]; exact w32_r _
      refine g_iinc (n := 128) (lv' := [(3, vI v31), (0, .ref (ad 0)), (1, vI x1), (2, vI x2), (4, vI x4)]) C 3 dX9_run_125 rfl (Nat.le_of_ble_eq_true rfl) ev31 rfl rfl ?_
      refine g_goto C 26 dX9_run_128 (by decide) ?_
      refine g_lv [1, 2, 3, 0] rfl ?_
      exact hk26 x1 x2 v31 S28 hS28 hx1 hx2 hv31 h
    · rw [if_neg hc12] at h
      refine g_aload_n (n := 54) C 0 dX9_run_53 rfl rfl ?_
      refine g_getC (n := 57) C 0 20 rfl (Nat.le_of_ble_eq_true rfl) rfl rfl rfl (Nat.le_of_ble_eq_true rfl) in_X9_run_X9 (by decide +kernel) dX9_run_54 rfl ?_
      refine g_iload (n := 59) C 4 dX9_run_57 rfl rfl ?_
      obtain ⟨hg32, h⟩ := gd_e h
      refine g_iald (n := 60) C 19 rfl (Nat.le_of_ble_eq_true rfl) rfl rfl hg32 hx4 dX9_run_59 rfl ?_
      refine g_aload_n (n := 61) C 0 dX9_run_60 rfl rfl ?_
      refine g_getI (n := 64) C 0 4 rfl (Nat.le_of_ble_eq_true rfl) rfl rfl rfl (Nat.le_of_ble_eq_true rfl) in_X9_run_X9 (by decide +kernel) dX9_run_61 rfl ?_
      refine g_icmp_ne (n := 67) C 95 ((hS 19 _).2 (tn_lt hg32 (by decide))) ((hS 0 4).2 (by decide)) dX9_run_64 (by decide) rfl (fun (hc33 : ¬ (S 19 x4.toNat = S 0 4)) => ?_) (fun (hc33 : S 19 x4.toNat = S 0 4) => ?_)
      · rw [if_neg hc33] at h
        obtain ⟨v34, ev34, h⟩ := nmV_e h
        have hv34 : r32 v34 := by rw [ev34]; exact w32_r _
        refine g_iinc (n := 98) (lv' := [(4, vI v34), (0, .ref (ad 0)), (1, vI x1), (2, vI x2), (3, vI x3)]) C 4 dX9_run_95 rfl (Nat.le_of_ble_eq_true rfl) ev34 rfl rfl ?_
        refine g_goto C 44 dX9_run_98 (by decide) ?_
        refine g_lv [1, 2, 3, 4, 0] rfl ?_
        exact ih x1 x2 x3 v34 S hS hx1 hx2 hx3 hv34 h
      · rw [if_pos hc33] at h
        refine g_aload_n (n := 68) C 0 dX9_run_67 rfl rfl ?_
        refine g_getC (n := 71) C 0 5 rfl (Nat.le_of_ble_eq_true rfl) rfl rfl rfl (Nat.le_of_ble_eq_true rfl) in_X9_run_X9 (by decide +kernel) dX9_run_68 rfl ?_
        refine g_aload_n (n := 72) C 0 dX9_run_71 rfl rfl ?_
        refine g_getC (n := 75) C 0 21 rfl (Nat.le_of_ble_eq_true rfl) rfl rfl rfl (Nat.le_of_ble_eq_true rfl) in_X9_run_X9 (by decide +kernel) dX9_run_72 rfl ?_
        refine g_iload (n := 77) C 4 dX9_run_75 rfl rfl ?_
        refine g_iald (n := 78) C 20 rfl (Nat.le_of_ble_eq_true rfl) rfl rfl hg32 hx4 dX9_run_77 rfl ?_
        obtain ⟨hg35, h⟩ := gd_e h
        refine g_iald (n := 79) C 5 rfl (Nat.le_of_ble_eq_true rfl) rfl rfl hg35 ((hS 20 _).2 (tn_lt hg32 (by decide))) dX9_run_78 rfl ?_
        refine g_if_le (n := 82) C 95 ((hS 5 _).2 (tn_lt hg35 (by decide))) dX9_run_79 (by decide) rfl (fun (hc36 : S 5 (S 20 x4.toNat).toNat ≤ 0) => ?_) (fun (hc36 : ¬ (S 5 (S 20 x4.toNat).toNat ≤ 0)) => ?_)
        · rw [if_pos hc36] at h
          obtain ⟨v37, ev37, h⟩ := nmV_e h
          have hv37 : r32 v37 := by rw [ev37]; exact w32_r _
          refine g_iinc (n := 98) (lv' := [(4, vI v37), (0, .ref (ad 0)), (1, vI x1), (2, vI x2), (3, vI x3)]) C 4 dX9_run_95 rfl (Nat.le_of_ble_eq_true rfl) ev37 rfl rfl ?_
          refine g_goto C 44 dX9_run_98 (by decide) ?_
          refine g_lv [1, 2, 3, 4, 0] rfl ?_
          exact ih x1 x2 x3 v37 S hS hx1 hx2 hx3 hv37 h
        · rw [if_neg hc36] at h
          refine g_aload_n (n := 83) C 0 dX9_run_82 rfl rfl ?_
          refine g_getC (n := 86) C 0 6 rfl (Nat.le_of_ble_eq_true rfl) rfl rfl rfl (Nat.le_of_ble_eq_true rfl) in_X9_run_X9 (by decide +kernel) dX9_run_83 rfl ?_
          refine g_aload_n (n := 87) C 0 dX9_run_86 rfl rfl ?_
          refine g_getC (n := 90) C 0 21 rfl (Nat.le_of_ble_eq_true rfl) rfl rfl rfl (Nat.le_of_ble_eq_true rfl) in_X9_run_X9 (by decide +kernel) dX9_run_87 rfl ?_
          refine g_iload (n := 92) C 4 dX9_run_90 rfl rfl ?_
          refine g_iald (n := 93) C 20 rfl (Nat.le_of_ble_eq_true rfl) rfl rfl hg32 hx4 dX9_run_92 rfl ?_
          refine g_iconst (n := 94) C dX9_run_93 rfl ?_
          obtain ⟨S38, eS38, h⟩ := nmS_e h
          have hS38 : RS S38 := by rw [eS38]; exact RS_i hS (by decide : r32 1)
          refine g_zast (n := 95) C 6 rfl (Nat.le_of_ble_eq_true rfl) rfl rfl hg35 ((hS 20 _).2 (tn_lt hg32 (by decide))) (by decide +kernel) eS38 dX9_run_94 rfl ?_
          obtain ⟨v39, ev39, h⟩ := nmV_e h
          have hv39 : r32 v39 := by rw [ev39]; exact w32_r _
          refine g_iinc (n := 98) (lv' := [(4, vI v39), (0, .ref (ad 0)), (1, vI x1), (2, vI x2), (3, vI x3)]) C 4 dX9_run_95 rfl (Nat.le_of_ble_eq_true rfl) ev39 rfl rfl ?_
          refine g_goto C 44 dX9_run_98 (by decide) ?_
          refine g_lv [1, 2, 3, 4, 0] rfl ?_
          exact ih x1 x2 x3 v39 S38 hS38 hx1 hx2 hx3 hv39 h
def dn_X9_run_26 : Nat → Int → Int → Int → St → Option (St × Int)
  | 0, _, _, _, _ => none
  | n + 1, x1, x2, x3, S => (if x1 ≤ x3 then (cal (dn_X9_many 5 S) fun S8 v9 => some (S8, w32 (v9 - x2))) else (nmS (stU S 0 4 (w32 ((S 0 4) + 1))) fun S11 => dn_X9_run_44 (fun x1_ x2_ x3_ S_ => dn_X9_run_26 n x1_ x2_ x3_ S_) FU x1 x2 x3 0 S11))
set_option maxRecDepth 100000 in
set_option maxHeartbeats 4000000 in
theorem u_X9_run_26 {D : va_G} {t : T5} {ad : Nat → Nat} {S0 : St} {r0 : Int} {x : Mx} (C : CX (sM D t ad) mi_X9_run x) : ∀ (n : Nat) (x1 : Int) (x2 : Int) (x3 : Int) (S : St), RS S → (r32 x1) → (r32 x2) → (r32 x3) → dn_X9_run_26 n x1 x2 x3 S = some (S0, r0) → GW (sM D t ad) mi_X9_run (acI, S0, r0) x S 26 [(0, .ref (ad 0)), (1, vI x1), (2, vI x2), (3, vI x3)] [] := by
  intro n
  induction n with
  | zero =>
    intro x1 x2 x3 S hS hx1 hx2 hx3 h
    cases h
  | succ n ih =>
    intro x1 x2 x3 S hS hx1 hx2 hx3 h
    rw [dn_X9_run_26] at h
    refine g_iload_n (n := 27) C 3 dX9_run_26 rfl rfl ?_
    refine g_iload_n (n := 28) C 1 dX9_run_27 rfl rfl ?_
    refine g_icmp_ge (n := 31) C 131 hx3 hx1 dX9_run_28 (by decide) rfl (fun (hc7 : x1 ≤ x3) => ?_) (fun (hc7 : ¬ (x1 ≤ x3)) => ?_)
    · rw [if_pos hc7] at h
      refine g_aload_n (n := 132) C 0 dX9_run_131 rfl rfl ?_
      refine g_iconst (n := 133) C dX9_run_132 rfl ?_
      obtain ⟨S8, v9, hq10, h⟩ := cal_e h
      refine g_callV (n := 136) (As := [vI 5]) (rest := []) C 0 1 (Nat.le_of_ble_eq_true rfl) rfl rfl (c_X9_many hS (by decide : r32 5) hq10) gX9_run_X9_many rfl ⟨rfl, rfl⟩ (by decide +kernel) ⟨Nat.le_of_ble_eq_true rfl, Nat.le_of_ble_eq_true rfl⟩ rfl rfl rfl (Nat.le_of_ble_eq_true rfl) dX9_run_133 rfl (fun hS8 hv9 => ?_)
      show GW (sM D t ad) mi_X9_run (acI, S0, r0) x S8 136 _ [vI v9]
      refine g_iload_n (n := 137) C 2 dX9_run_136 rfl rfl ?_
      refine g_isub (n := 138) C dX9_run_137 rfl ?_
      exact g_iret C rfl h rfl (w32_r _) hS8 dX9_run_138
    · rw [if_neg hc7] at h
      refine g_aload_n (n := 32) C 0 dX9_run_31 rfl rfl ?_
      refine g_dup (n := 33) C rfl dX9_run_32 rfl ?_
      refine g_getI (n := 36) C 0 4 rfl (Nat.le_of_ble_eq_true rfl) rfl rfl rfl (Nat.le_of_ble_eq_true rfl) in_X9_run_X9 (by decide +kernel) dX9_run_33 rfl ?_
      refine g_iconst (n := 37) C dX9_run_36 rfl ?_
      refine g_iadd (n := 38) C dX9_run_37 rfl ?_
      obtain ⟨S11, eS11, h⟩ := nmS_e h
      have hS11 : RS S11 := by rw [eS11]; exact RS_i hS (w32_r _)
      refine g_putI (n := 41) C 0 4 rfl (Nat.le_of_ble_eq_true rfl) rfl rfl rfl (Nat.le_of_ble_eq_true rfl) in_X9_run_X9 tyX9_ok nmX9 (by decide +kernel) rfl (by decide +kernel) (Nat.le_of_ble_eq_true rfl) eS11 dX9_run_38 rfl ?_
      refine g_iconst (n := 42) C dX9_run_41 rfl ?_
      refine g_istore (n := 44) (lv' := [(4, vI 0), (0, .ref (ad 0)), (1, vI x1), (2, vI x2), (3, vI x3)]) C dX9_run_42 (Nat.le_of_ble_eq_true rfl) rfl rfl rfl ?_
      refine g_lv [1, 2, 3, 4, 0] rfl ?_
      exact u_X9_run_44 C ih FU x1 x2 x3 0 S11 hS11 hx1 hx2 hx3 (by decide : r32 0) h
def dn_X9_run (a0 : Int) (S : St) : Option (St × Int) := (nmS (stU S 0 33 0) fun S1 => (if a0 < 0 then some (S1, (-1)) else (if a0 ≤ 500 then (cal (dn_X9_many 5 S1) fun S4 v5 => dn_X9_run_26 FU a0 v5 0 S4) else some (S1, (-1)))))
set_option maxRecDepth 100000 in
set_option maxHeartbeats 4000000 in
theorem c_X9_run {l : Launch} {D : va_G} {t : T5} {ad : Nat → Nat} {S S0 : St} {r0 : Int} {a0 : Int} (hS : RS S) (ha0 : r32 a0) (h : dn_X9_run a0 S = some (S0, r0)) : Mc l (sM D t ad) yX9_run wsX9_run rm_X9_run [.ref (ad 0), vI a0] acI S S0 r0 := by
  refine Mc_of (cc := cX9_run) (nL := 5) (ret := (some .int)) (by decide +kernel) rfl (Nat.le_of_ble_eq_true rfl) (lv := [(0, .ref (ad 0)), (1, vI a0)]) rfl (fun x C _ => ?_)
  unfold dn_X9_run at h
  show GW (sM D t ad) mi_X9_run (acI, S0, r0) x S 0 [(0, .ref (ad 0)), (1, vI a0)] []
  refine g_aload_n (n := 1) C 0 dX9_run_0 rfl rfl ?_
  refine g_iconst (n := 2) C dX9_run_1 rfl ?_
  obtain ⟨S1, eS1, h⟩ := nmS_e h
  have hS1 : RS S1 := by rw [eS1]; exact RS_i hS (by decide : r32 0)
  refine g_putI (n := 5) C 0 33 rfl (Nat.le_of_ble_eq_true rfl) rfl rfl rfl (Nat.le_of_ble_eq_true rfl) in_X9_run_X9 tyX9_ok nmX9 (by decide +kernel) rfl (by decide +kernel) (Nat.le_of_ble_eq_true rfl) eS1 dX9_run_2 rfl ?_
  refine g_iload_n (n := 6) C 1 dX9_run_5 rfl rfl ?_
  refine g_if_lt (n := 9) C 16 ha0 dX9_run_6 (by decide) rfl (fun (hc2 : a0 < 0) => ?_) (fun (hc2 : ¬ (a0 < 0)) => ?_)
  · rw [if_pos hc2] at h
    refine g_iconst (n := 17) C dX9_run_16 rfl ?_
    exact g_iret C rfl h rfl (by decide : r32 (-1)) hS1 dX9_run_17
  · rw [if_neg hc2] at h
    refine g_iload_n (n := 10) C 1 dX9_run_9 rfl rfl ?_
    refine g_sipush (n := 13) C dX9_run_10 (by decide +kernel) rfl ?_
    refine g_icmp_le (n := 16) C 18 ha0 (by decide : r32 500) dX9_run_13 (by decide) rfl (fun (hc3 : a0 ≤ 500) => ?_) (fun (hc3 : ¬ (a0 ≤ 500)) => ?_)
    · rw [if_pos hc3] at h
      refine g_aload_n (n := 19) C 0 dX9_run_18 rfl rfl ?_
      refine g_iconst (n := 20) C dX9_run_19 rfl ?_
      obtain ⟨S4, v5, hq6, h⟩ := cal_e h
      refine g_callV (n := 23) (As := [vI 5]) (rest := []) C 0 1 (Nat.le_of_ble_eq_true rfl) rfl rfl (c_X9_many hS1 (by decide : r32 5) hq6) gX9_run_X9_many rfl ⟨rfl, rfl⟩ (by decide +kernel) ⟨Nat.le_of_ble_eq_true rfl, Nat.le_of_ble_eq_true rfl⟩ rfl rfl rfl (Nat.le_of_ble_eq_true rfl) dX9_run_20 rfl (fun hS4 hv5 => ?_)
      show GW (sM D t ad) mi_X9_run (acI, S0, r0) x S4 23 _ [vI v5]
      refine g_istore_n (n := 24) (lv' := [(2, vI v5), (0, .ref (ad 0)), (1, vI a0)]) C dX9_run_23 (Nat.le_of_ble_eq_true rfl) rfl rfl rfl ?_
      refine g_iconst (n := 25) C dX9_run_24 rfl ?_
      refine g_istore_n (n := 26) (lv' := [(3, vI 0), (2, vI v5), (0, .ref (ad 0)), (1, vI a0)]) C dX9_run_25 (Nat.le_of_ble_eq_true rfl) rfl rfl rfl ?_
      refine g_lv [2, 3, 1, 0] rfl ?_
      exact u_X9_run_26 C FU a0 v5 0 S4 hS4 ha0 hv5 (by decide : r32 0) h
    · rw [if_neg hc3] at h
      refine g_iconst (n := 17) C dX9_run_16 rfl ?_
      exact g_iret C rfl h rfl (by decide : r32 (-1)) hS1 dX9_run_17
-- RX9 slots
abbrev rm_X9_slots : Room := ({ frames := 0, cells := 0, slots := 0, locals := 0 } : Room)
abbrev mi_X9_slots : Mi := (cX9_slots, 4, RX9, wsX9_slots, rm_X9_slots, (some .int))
set_option maxRecDepth 20000 in
theorem in_X9_slots_X9 : ∀ w ∈ u_ws RX9 TX9 39, w ∈ wsX9_slots := by decide +kernel
def dn_X9_slots_4 : Nat → Int → Int → Int → St → Option (St × Int)
  | 0, _, _, _, _ => none
  | n + 1, x1, x2, x3, S => (if 12 ≤ x3 then some (S, x2) else (if 0 ≤ x3 ∧ x3 < 12 then (if S 5 x3.toNat = x1 then (nmV (w32 (x2 + 1)) fun v5 => (nmV (w32 (x3 + 1)) fun v6 => dn_X9_slots_4 n x1 v5 v6 S)) else (nmV (w32 (x3 + 1)) fun v4 => dn_X9_slots_4 n x1 x2 v4 S)) else none))
set_option maxRecDepth 100000 in
set_option maxHeartbeats 4000000 in
theorem u_X9_slots_4 {D : va_G} {t : T5} {ad : Nat → Nat} {S0 : St} {r0 : Int} {x : Mx} (C : CX (sM D t ad) mi_X9_slots x) : ∀ (n : Nat) (x1 : Int) (x2 : Int) (x3 : Int) (S : St), RS S → (r32 x1) → (r32 x2) → (r32 x3) → dn_X9_slots_4 n x1 x2 x3 S = some (S0, r0) → GW (sM D t ad) mi_X9_slots (acI, S0, r0) x S 4 [(0, .ref (ad 0)), (1, vI x1), (2, vI x2), (3, vI x3)] [] := by
  intro n
  induction n with
  | zero =>
    intro x1 x2 x3 S hS hx1 hx2 hx3 h
    cases h
  | succ n ih =>
    intro x1 x2 x3 S hS hx1 hx2 hx3 h
    rw [dn_X9_slots_4] at h
    refine g_iload_n (n := 5) C 3 dX9_slots_4 rfl rfl ?_
    refine g_bipush (n := 7) C dX9_slots_5 (by decide +kernel) rfl ?_
    refine g_icmp_ge (n := 10) C 29 hx3 (by decide : r32 12) dX9_slots_7 (by decide) rfl (fun (hc1 : 12 ≤ x3) => ?_) (fun (hc1 : ¬ (12 ≤ x3)) => ?_)
    · rw [if_pos hc1] at h
      refine g_iload_n (n := 30) C 2 dX9_slots_29 rfl rfl ?_
      exact g_iret C rfl h rfl hx2 hS dX9_slots_30
    · rw [if_neg hc1] at h
      refine g_aload_n (n := 11) C 0 dX9_slots_10 rfl rfl ?_
      refine g_getC (n := 14) C 0 5 rfl (Nat.le_of_ble_eq_true rfl) rfl rfl rfl (Nat.le_of_ble_eq_true rfl) in_X9_slots_X9 (by decide +kernel) dX9_slots_11 rfl ?_
      refine g_iload_n (n := 15) C 3 dX9_slots_14 rfl rfl ?_
      obtain ⟨hg2, h⟩ := gd_e h
      refine g_iald (n := 16) C 5 rfl (Nat.le_of_ble_eq_true rfl) rfl rfl hg2 hx3 dX9_slots_15 rfl ?_
      refine g_iload_n (n := 17) C 1 dX9_slots_16 rfl rfl ?_
      refine g_icmp_ne (n := 20) C 23 ((hS 5 _).2 (tn_lt hg2 (by decide))) hx1 dX9_slots_17 (by decide) rfl (fun (hc3 : ¬ (S 5 x3.toNat = x1)) => ?_) (fun (hc3 : S 5 x3.toNat = x1) => ?_)
      · rw [if_neg hc3] at h
        obtain ⟨v4, ev4, h⟩ := nmV_e h
        have hv4 : r32 v4 := by rw [ev4]; exact w32_r _
        refine g_iinc (n := 26) (lv' := [(3, vI v4), (0, .ref (ad 0)), (1, vI x1), (2, vI x2)]) C 3 dX9_slots_23 rfl (Nat.le_of_ble_eq_true rfl) ev4 rfl rfl ?_
        refine g_goto C 4 dX9_slots_26 (by decide) ?_
        refine g_lv [1, 2, 3, 0] rfl ?_
        exact ih x1 x2 v4 S hS hx1 hx2 hv4 h
      · rw [if_pos hc3] at h
        obtain ⟨v5, ev5, h⟩ := nmV_e h
        have hv5 : r32 v5 := by rw [ev5]; exact w32_r _
        refine g_iinc (n := 23) (lv' := [(2, vI v5), (0, .ref (ad 0)), (1, vI x1), (3, vI x3)]) C 2 dX9_slots_20 rfl (Nat.le_of_ble_eq_true rfl) ev5 rfl rfl ?_
        obtain ⟨v6, ev6, h⟩ := nmV_e h
        have hv6 : r32 v6 := by rw [ev6]; exact w32_r _
        refine g_iinc (n := 26) (lv' := [(3, vI v6), (2, vI v5), (0, .ref (ad 0)), (1, vI x1)]) C 3 dX9_slots_23 rfl (Nat.le_of_ble_eq_true rfl) ev6 rfl rfl ?_
        refine g_goto C 4 dX9_slots_26 (by decide) ?_
        refine g_lv [2, 3, 1, 0] rfl ?_
        exact ih x1 v5 v6 S hS hx1 hv5 hv6 h
def dn_X9_slots (a0 : Int) (S : St) : Option (St × Int) := dn_X9_slots_4 FU a0 0 0 S
set_option maxRecDepth 100000 in
set_option maxHeartbeats 4000000 in
theorem c_X9_slots {l : Launch} {D : va_G} {t : T5} {ad : Nat → Nat} {S S0 : St} {r0 : Int} {a0 : Int} (hS : RS S) (ha0 : r32 a0) (h : dn_X9_slots a0 S = some (S0, r0)) : Mc l (sM D t ad) yX9_slots wsX9_slots rm_X9_slots [.ref (ad 0), vI a0] acI S S0 r0 := by
  refine Mc_of (cc := cX9_slots) (nL := 4) (ret := (some .int)) (by decide +kernel) rfl (Nat.le_of_ble_eq_true rfl) (lv := [(0, .ref (ad 0)), (1, vI a0)]) rfl (fun x C _ => ?_)
  unfold dn_X9_slots at h
  show GW (sM D t ad) mi_X9_slots (acI, S0, r0) x S 0 [(0, .ref (ad 0)), (1, vI a0)] []
  refine g_iconst (n := 1) C dX9_slots_0 rfl ?_
  refine g_istore_n (n := 2) (lv' := [(2, vI 0), (0, .ref (ad 0)), (1, vI a0)]) C dX9_slots_1 (Nat.le_of_ble_eq_true rfl) rfl rfl rfl ?_
  refine g_iconst (n := 3) C dX9_slots_2 rfl ?_
  refine g_istore_n (n := 4) (lv' := [(3, vI 0), (2, vI 0), (0, .ref (ad 0)), (1, vI a0)]) C dX9_slots_3 (Nat.le_of_ble_eq_true rfl) rfl rfl rfl ?_
  refine g_lv [2, 3, 1, 0] rfl ?_
  exact u_X9_slots_4 C FU a0 0 0 S hS ha0 (by decide : r32 0) (by decide : r32 0) h
-- RX9 count
abbrev rm_X9_count : Room := ({ frames := 1, cells := 0, slots := 0, locals := 23 } : Room)
abbrev mi_X9_count : Mi := (cX9_count, 2, RX9, wsX9_count, rm_X9_count, (some .long))
set_option maxRecDepth 20000 in
theorem in_X9_count_X9 : ∀ w ∈ u_ws RX9 TX9 39, w ∈ wsX9_count := by decide +kernel
def dn_X9_count (a0 : Int) (S : St) : Option (St × Int) := (nmS (stU S 0 33 0) fun S1 => (if a0 = 0 then some (S1, S1 0 4) else (if a0 = 1 then some (S1, S1 0 19) else (if a0 = 2 then (cal (dn_X9_many 1 S1) fun S5 v6 => some (S5, v6)) else (if a0 = 3 then (cal (dn_X9_many 3 S1) fun S9 v10 => some (S9, v10)) else (if a0 = 4 then (cal (dn_X9_lines S1) fun S13 v14 => some (S13, v14)) else (if a0 = 5 then (cal (dn_X9_slots 2 S1) fun S17 v18 => some (S17, v18)) else (if a0 = 6 then (cal (dn_X9_slots 4 S1) fun S21 v22 => some (S21, v22)) else (if a0 = 7 then (cal (dn_X9_many (w32 (a0 - 2)) S1) fun S25 v26 => some (S25, v26)) else (if a0 = 8 then (cal (dn_X9_many (w32 (a0 - 2)) S1) fun S29 v30 => some (S29, v30)) else (if a0 = 9 then (cal (dn_X9_many (w32 (a0 - 2)) S1) fun S33 v34 => some (S33, v34)) else (if a0 = 10 then (cal (dn_X9_many (w32 (a0 - 2)) S1) fun S37 v38 => some (S37, v38)) else (if a0 = 11 then some (S1, S1 0 25) else (if a0 = 12 then some (S1, S1 0 26) else (if a0 = 13 then some (S1, S1 0 27) else (if a0 = 14 then some (S1, S1 0 100028) else (if a0 = 15 then some (S1, S1 0 29) else (if a0 = 16 then some (S1, S1 0 30) else (if a0 = 17 then some (S1, S1 0 24) else some (S1, (-1)))))))))))))))))))))
set_option maxRecDepth 100000 in
set_option maxHeartbeats 4000000 in
theorem c_X9_count {l : Launch} {D : va_G} {t : T5} {ad : Nat → Nat} {S S0 : St} {r0 : Int} {a0 : Int} (hS : RS S) (ha0 : r32 a0) (h : dn_X9_count a0 S = some (S0, r0)) : Mc l (sM D t ad) yX9_count wsX9_count rm_X9_count [.ref (ad 0), vI a0] acJ S S0 r0 := by
  refine Mc_of (cc := cX9_count) (nL := 2) (ret := (some .long)) (by decide +kernel) rfl (Nat.le_of_ble_eq_true rfl) (lv := [(0, .ref (ad 0)), (1, vI a0)]) rfl (fun x C _ => ?_)
  unfold dn_X9_count at h
  show GW (sM D t ad) mi_X9_count (acJ, S0, r0) x S 0 [(0, .ref (ad 0)), (1, vI a0)] []
  refine g_aload_n (n := 1) C 0 dX9_count_0 rfl rfl ?_
  refine g_iconst (n := 2) C dX9_count_1 rfl ?_
  obtain ⟨S1, eS1, h⟩ := nmS_e h
  have hS1 : RS S1 := by rw [eS1]; exact RS_i hS (by decide : r32 0)
  refine g_putI (n := 5) C 0 33 rfl (Nat.le_of_ble_eq_true rfl) rfl rfl rfl (Nat.le_of_ble_eq_true rfl) in_X9_count_X9 tyX9_ok nmX9 (by decide +kernel) rfl (by decide +kernel) (Nat.le_of_ble_eq_true rfl) eS1 dX9_count_2 rfl ?_
  refine g_iload_n (n := 6) C 1 dX9_count_5 rfl rfl ?_
  by_cases hc2 : a0 = 0
  · rw [if_pos hc2] at h
    refine g_tabIn C 0 92 ha0 dX9_count_6 hc2 (by decide) rfl (by decide) ?_
    refine g_aload_n (n := 93) C 0 dX9_count_92 rfl rfl ?_
    refine g_getI (n := 96) C 0 4 rfl (Nat.le_of_ble_eq_true rfl) rfl rfl rfl (Nat.le_of_ble_eq_true rfl) in_X9_count_X9 (by decide +kernel) dX9_count_93 rfl ?_
    refine g_i2l (n := 97) C ((hS1 0 4).2 (by decide)) dX9_count_96 rfl ?_
    exact g_lret C rfl h rfl (r32_64 ((hS1 0 4).2 (by decide))) hS1 dX9_count_97
  · rw [if_neg hc2] at h
    by_cases hc3 : a0 = 1
    · rw [if_pos hc3] at h
      refine g_tabIn C 1 98 ha0 dX9_count_6 hc3 (by decide) rfl (by decide) ?_
      refine g_aload_n (n := 99) C 0 dX9_count_98 rfl rfl ?_
      refine g_getI (n := 102) C 0 19 rfl (Nat.le_of_ble_eq_true rfl) rfl rfl rfl (Nat.le_of_ble_eq_true rfl) in_X9_count_X9 (by decide +kernel) dX9_count_99 rfl ?_
      refine g_i2l (n := 103) C ((hS1 0 19).2 (by decide)) dX9_count_102 rfl ?_
      exact g_lret C rfl h rfl (r32_64 ((hS1 0 19).2 (by decide))) hS1 dX9_count_103
    · rw [if_neg hc3] at h
      by_cases hc4 : a0 = 2
      · rw [if_pos hc4] at h
        refine g_tabIn C 2 104 ha0 dX9_count_6 hc4 (by decide) rfl (by decide) ?_
        refine g_aload_n (n := 105) C 0 dX9_count_104 rfl rfl ?_
        refine g_iconst (n := 106) C dX9_count_105 rfl ?_
        obtain ⟨S5, v6, hq7, h⟩ := cal_e h
        refine g_callV (n := 109) (As := [vI 1]) (rest := []) C 0 1 (Nat.le_of_ble_eq_true rfl) rfl rfl (c_X9_many hS1 (by decide : r32 1) hq7) gX9_count_X9_many rfl ⟨rfl, rfl⟩ (by decide +kernel) ⟨Nat.le_of_ble_eq_true rfl, Nat.le_of_ble_eq_true rfl⟩ rfl rfl rfl (Nat.le_of_ble_eq_true rfl) dX9_count_106 rfl (fun hS5 hv6 => ?_)
        show GW (sM D t ad) mi_X9_count (acJ, S0, r0) x S5 109 _ [vI v6]
        refine g_i2l (n := 110) C hv6 dX9_count_109 rfl ?_
        exact g_lret C rfl h rfl (r32_64 hv6) hS5 dX9_count_110
      · rw [if_neg hc4] at h
        by_cases hc8 : a0 = 3
        · rw [if_pos hc8] at h
          refine g_tabIn C 3 111 ha0 dX9_count_6 hc8 (by decide) rfl (by decide) ?_
          refine g_aload_n (n := 112) C 0 dX9_count_111 rfl rfl ?_
          refine g_iconst (n := 113) C dX9_count_112 rfl ?_
          obtain ⟨S9, v10, hq11, h⟩ := cal_e h
          refine g_callV (n := 116) (As := [vI 3]) (rest := []) C 0 1 (Nat.le_of_ble_eq_true rfl) rfl rfl (c_X9_many hS1 (by decide : r32 3) hq11) gX9_count_X9_many rfl ⟨rfl, rfl⟩ (by decide +kernel) ⟨Nat.le_of_ble_eq_true rfl, Nat.le_of_ble_eq_true rfl⟩ rfl rfl rfl (Nat.le_of_ble_eq_true rfl) dX9_count_113 rfl (fun hS9 hv10 => ?_)
          show GW (sM D t ad) mi_X9_count (acJ, S0, r0) x S9 116 _ [vI v10]
          refine g_i2l (n := 117) C hv10 dX9_count_116 rfl ?_
          exact g_lret C rfl h rfl (r32_64 hv10) hS9 dX9_count_117
        · rw [if_neg hc8] at h
          by_cases hc12 : a0 = 4
          · rw [if_pos hc12] at h
            refine g_tabIn C 4 118 ha0 dX9_count_6 hc12 (by decide) rfl (by decide) ?_
            refine g_aload_n (n := 119) C 0 dX9_count_118 rfl rfl ?_
            obtain ⟨S13, v14, hq15, h⟩ := cal_e h
            refine g_callV (n := 122) (As := []) (rest := []) C 0 0 (Nat.le_of_ble_eq_true rfl) rfl rfl (c_X9_lines hS1 hq15) gX9_count_X9_lines rfl ⟨rfl, rfl⟩ (by decide +kernel) ⟨Nat.le_of_ble_eq_true rfl, Nat.le_of_ble_eq_true rfl⟩ rfl rfl rfl (Nat.le_of_ble_eq_true rfl) dX9_count_119 rfl (fun hS13 hv14 => ?_)
            show GW (sM D t ad) mi_X9_count (acJ, S0, r0) x S13 122 _ [vI v14]
            refine g_i2l (n := 123) C hv14 dX9_count_122 rfl ?_
            exact g_lret C rfl h rfl (r32_64 hv14) hS13 dX9_count_123
          · rw [if_neg hc12] at h
            by_cases hc16 : a0 = 5
            · rw [if_pos hc16] at h
              refine g_tabIn C 5 124 ha0 dX9_count_6 hc16 (by decide) rfl (by decide) ?_
              refine g_aload_n (n := 125) C 0 dX9_count_124 rfl rfl ?_
              refine g_iconst (n := 126) C dX9_count_125 rfl ?_
              obtain ⟨S17, v18, hq19, h⟩ := cal_e h
              refine g_callV (n := 129) (As := [vI 2]) (rest := []) C 0 1 (Nat.le_of_ble_eq_true rfl) rfl rfl (c_X9_slots hS1 (by decide : r32 2) hq19) gX9_count_X9_slots rfl ⟨rfl, rfl⟩ (by decide +kernel) ⟨Nat.le_of_ble_eq_true rfl, Nat.le_of_ble_eq_true rfl⟩ rfl rfl rfl (Nat.le_of_ble_eq_true rfl) dX9_count_126 rfl (fun hS17 hv18 => ?_)
              show GW (sM D t ad) mi_X9_count (acJ, S0, r0) x S17 129 _ [vI v18]
              refine g_i2l (n := 130) C hv18 dX9_count_129 rfl ?_
              exact g_lret C rfl h rfl (r32_64 hv18) hS17 dX9_count_130
            · rw [if_neg hc16] at h
              by_cases hc20 : a0 = 6
              · rw [if_pos hc20] at h
                refine g_tabIn C 6 131 ha0 dX9_count_6 hc20 (by decide) rfl (by decide) ?_
                refine g_aload_n (n := 132) C 0 dX9_count_131 rfl rfl ?_
                refine g_iconst (n := 133) C dX9_count_132 rfl ?_
                obtain ⟨S21, v22, hq23, h⟩ := cal_e h
                refine g_callV (n := 136) (As := [vI 4]) (rest := []) C 0 1 (Nat.le_of_ble_eq_true rfl) rfl rfl (c_X9_slots hS1 (by decide : r32 4) hq23) gX9_count_X9_slots rfl ⟨rfl, rfl⟩ (by decide +kernel) ⟨Nat.le_of_ble_eq_true rfl, Nat.le_of_ble_eq_true rfl⟩ rfl rfl rfl (Nat.le_of_ble_eq_true rfl) dX9_count_133 rfl (fun hS21 hv22 => ?_)
                show GW (sM D t ad) mi_X9_count (acJ, S0, r0) x S21 136 _ [vI v22]
                refine g_i2l (n := 137) C hv22 dX9_count_136 rfl ?_
                exact g_lret C rfl h rfl (r32_64 hv22) hS21 dX9_count_137
              · rw [if_neg hc20] at h
                by_cases hc24 : a0 = 7
                · rw [if_pos hc24] at h
                  refine g_tabIn C 7 138 ha0 dX9_count_6 hc24 (by decide) rfl (by decide) ?_
                  refine g_aload_n (n := 139) C 0 dX9_count_138 rfl rfl ?_
                  refine g_iload_n (n := 140) C 1 dX9_count_139 rfl rfl ?_
                  refine g_iconst (n := 141) C dX9_count_140 rfl ?_
                  refine g_isub (n := 142) C dX9_count_141 rfl ?_
                  obtain ⟨S25, v26, hq27, h⟩ := cal_e h
                  refine g_callV (n := 145) (As := [vI (w32 (a0 - 2))]) (rest := []) C 0 1 (Nat.le_of_ble_eq_true rfl) rfl rfl (c_X9_many hS1 (w32_r _) hq27) gX9_count_X9_many rfl ⟨rfl, rfl⟩ (by decide +kernel) ⟨Nat.le_of_ble_eq_true rfl, Nat.le_of_ble_eq_true rfl⟩ rfl rfl rfl (Nat.le_of_ble_eq_true rfl) dX9_count_142 rfl (fun hS25 hv26 => ?_)
                  show GW (sM D t ad) mi_X9_count (acJ, S0, r0) x S25 145 _ [vI v26]
                  refine g_i2l (n := 146) C hv26 dX9_count_145 rfl ?_
                  exact g_lret C rfl h rfl (r32_64 hv26) hS25 dX9_count_146
                · rw [if_neg hc24] at h
                  by_cases hc28 : a0 = 8
                  · rw [if_pos hc28] at h
                    refine g_tabIn C 8 138 ha0 dX9_count_6 hc28 (by decide) rfl (by decide) ?_
                    refine g_aload_n (n := 139) C 0 dX9_count_138 rfl rfl ?_
                    refine g_iload_n (n := 140) C 1 dX9_count_139 rfl rfl ?_
                    refine g_iconst (n := 141) C dX9_count_140 rfl ?_
                    refine g_isub (n := 142) C dX9_count_141 rfl ?_
                    obtain ⟨S29, v30, hq31, h⟩ := cal_e h
                    refine g_callV (n := 145) (As := [vI (w32 (a0 - 2))]) (rest := []) C 0 1 (Nat.le_of_ble_eq_true rfl) rfl rfl (c_X9_many hS1 (w32_r _) hq31) gX9_count_X9_many rfl ⟨rfl, rfl⟩ (by decide +kernel) ⟨Nat.le_of_ble_eq_true rfl, Nat.le_of_ble_eq_true rfl⟩ rfl rfl rfl (Nat.le_of_ble_eq_true rfl) dX9_count_142 rfl (fun hS29 hv30 => ?_)
                    show GW (sM D t ad) mi_X9_count (acJ, S0, r0) x S29 145 _ [vI v30]
                    refine g_i2l (n := 146) C hv30 dX9_count_145 rfl ?_
                    exact g_lret C rfl h rfl (r32_64 hv30) hS29 dX9_count_146
                  · rw [if_neg hc28] at h
                    by_cases hc32 : a0 = 9
                    · rw [if_pos hc32] at h
                      refine g_tabIn C 9 138 ha0 dX9_count_6 hc32 (by decide) rfl (by decide) ?_
                      refine g_aload_n (n := 139) C 0 dX9_count_138 rfl rfl ?_
                      refine g_iload_n (n := 140) C 1 dX9_count_139 rfl rfl ?_
                      refine g_iconst (n := 141) C dX9_count_140 rfl ?_
                      refine g_isub (n := 142) C dX9_count_141 rfl ?_
                      obtain ⟨S33, v34, hq35, h⟩ := cal_e h
                      refine g_callV (n := 145) (As := [vI (w32 (a0 - 2))]) (rest := []) C 0 1 (Nat.le_of_ble_eq_true rfl) rfl rfl (c_X9_many hS1 (w32_r _) hq35) gX9_count_X9_many rfl ⟨rfl, rfl⟩ (by decide +kernel) ⟨Nat.le_of_ble_eq_true rfl, Nat.le_of_ble_eq_true rfl⟩ rfl rfl rfl (Nat.le_of_ble_eq_true rfl) dX9_count_142 rfl (fun hS33 hv34 => ?_)
                      show GW (sM D t ad) mi_X9_count (acJ, S0, r0) x S33 145 _ [vI v34]
                      refine g_i2l (n := 146) C hv34 dX9_count_145 rfl ?_
                      exact g_lret C rfl h rfl (r32_64 hv34) hS33 dX9_count_146
                    · rw [if_neg hc32] at h
                      by_cases hc36 : a0 = 10
                      · rw [if_pos hc36] at h
                        refine g_tabIn C 10 138 ha0 dX9_count_6 hc36 (by decide) rfl (by decide) ?_
                        refine g_aload_n (n := 139) C 0 dX9_count_138 rfl rfl ?_
                        refine g_iload_n (n := 140) C 1 dX9_count_139 rfl rfl ?_
                        refine g_iconst (n := 141) C dX9_count_140 rfl ?_
                        refine g_isub (n := 142) C dX9_count_141 rfl ?_
                        obtain ⟨S37, v38, hq39, h⟩ := cal_e h
                        refine g_callV (n := 145) (As := [vI (w32 (a0 - 2))]) (rest := []) C 0 1 (Nat.le_of_ble_eq_true rfl) rfl rfl (c_X9_many hS1 (w32_r _) hq39) gX9_count_X9_many rfl ⟨rfl, rfl⟩ (by decide +kernel) ⟨Nat.le_of_ble_eq_true rfl, Nat.le_of_ble_eq_true rfl⟩ rfl rfl rfl (Nat.le_of_ble_eq_true rfl) dX9_count_142 rfl (fun hS37 hv38 => ?_)
                        show GW (sM D t ad) mi_X9_count (acJ, S0, r0) x S37 145 _ [vI v38]
                        refine g_i2l (n := 146) C hv38 dX9_count_145 rfl ?_
                        exact g_lret C rfl h rfl (r32_64 hv38) hS37 dX9_count_146
                      · rw [if_neg hc36] at h
                        by_cases hc40 : a0 = 11
                        · rw [if_pos hc40] at h
                          refine g_tabIn C 11 147 ha0 dX9_count_6 hc40 (by decide) rfl (by decide) ?_
                          refine g_aload_n (n := 148) C 0 dX9_count_147 rfl rfl ?_
                          refine g_getI (n := 151) C 0 25 rfl (Nat.le_of_ble_eq_true rfl) rfl rfl rfl (Nat.le_of_ble_eq_true rfl) in_X9_count_X9 (by decide +kernel) dX9_count_148 rfl ?_
                          refine g_i2l (n := 152) C ((hS1 0 25).2 (by decide)) dX9_count_151 rfl ?_
                          exact g_lret C rfl h rfl (r32_64 ((hS1 0 25).2 (by decide))) hS1 dX9_count_152
                        · rw [if_neg hc40] at h
                          by_cases hc41 : a0 = 12
                          · rw [if_pos hc41] at h
                            refine g_tabIn C 12 153 ha0 dX9_count_6 hc41 (by decide) rfl (by decide) ?_
                            refine g_aload_n (n := 154) C 0 dX9_count_153 rfl rfl ?_
                            refine g_getI (n := 157) C 0 26 rfl (Nat.le_of_ble_eq_true rfl) rfl rfl rfl (Nat.le_of_ble_eq_true rfl) in_X9_count_X9 (by decide +kernel) dX9_count_154 rfl ?_
                            refine g_i2l (n := 158) C ((hS1 0 26).2 (by decide)) dX9_count_157 rfl ?_
                            exact g_lret C rfl h rfl (r32_64 ((hS1 0 26).2 (by decide))) hS1 dX9_count_158
                          · rw [if_neg hc41] at h
                            by_cases hc42 : a0 = 13
                            · rw [if_pos hc42] at h
                              refine g_tabIn C 13 159 ha0 dX9_count_6 hc42 (by decide) rfl (by decide) ?_
                              refine g_aload_n (n := 160) C 0 dX9_count_159 rfl rfl ?_
                              refine g_getI (n := 163) C 0 27 rfl (Nat.le_of_ble_eq_true rfl) rfl rfl rfl (Nat.le_of_ble_eq_true rfl) in_X9_count_X9 (by decide +kernel) dX9_count_160 rfl ?_
                              refine g_i2l (n := 164) C ((hS1 0 27).2 (by decide)) dX9_count_163 rfl ?_
                              exact g_lret C rfl h rfl (r32_64 ((hS1 0 27).2 (by decide))) hS1 dX9_count_164
                            · rw [if_neg hc42] at h
                              by_cases hc43 : a0 = 14
                              · rw [if_pos hc43] at h
                                refine g_tabIn C 14 165 ha0 dX9_count_6 hc43 (by decide) rfl (by decide) ?_
                                refine g_aload_n (n := 166) C 0 dX9_count_165 rfl rfl ?_
                                refine g_getJ (n := 169) C 0 28 rfl (Nat.le_of_ble_eq_true rfl) rfl rfl rfl (Nat.le_of_ble_eq_true rfl) in_X9_count_X9 (by decide +kernel) dX9_count_166 rfl ?_
                                exact g_lret C rfl h rfl ((hS1 0 100028).1) hS1 dX9_count_169
                              · rw [if_neg hc43] at h
                                by_cases hc44 : a0 = 15
                                · rw [if_pos hc44] at h
                                  refine g_tabIn C 15 170 ha0 dX9_count_6 hc44 (by decide) rfl (by decide) ?_
                                  refine g_aload_n (n := 171) C 0 dX9_count_170 rfl rfl ?_
                                  refine g_getI (n := 174) C 0 29 rfl (Nat.le_of_ble_eq_true rfl) rfl rfl rfl (Nat.le_of_ble_eq_true rfl) in_X9_count_X9 (by decide +kernel) dX9_count_171 rfl ?_
                                  refine g_i2l (n := 175) C ((hS1 0 29).2 (by decide)) dX9_count_174 rfl ?_
                                  exact g_lret C rfl h rfl (r32_64 ((hS1 0 29).2 (by decide))) hS1 dX9_count_175
                                · rw [if_neg hc44] at h
                                  by_cases hc45 : a0 = 16
                                  · rw [if_pos hc45] at h
                                    refine g_tabIn C 16 176 ha0 dX9_count_6 hc45 (by decide) rfl (by decide) ?_
                                    refine g_aload_n (n := 177) C 0 dX9_count_176 rfl rfl ?_
                                    refine g_getI (n := 180) C 0 30 rfl (Nat.le_of_ble_eq_true rfl) rfl rfl rfl (Nat.le_of_ble_eq_true rfl) in_X9_count_X9 (by decide +kernel) dX9_count_177 rfl ?_
                                    refine g_i2l (n := 181) C ((hS1 0 30).2 (by decide)) dX9_count_180 rfl ?_
                                    exact g_lret C rfl h rfl (r32_64 ((hS1 0 30).2 (by decide))) hS1 dX9_count_181
                                  · rw [if_neg hc45] at h
                                    by_cases hc46 : a0 = 17
                                    · rw [if_pos hc46] at h
                                      refine g_tabIn C 17 182 ha0 dX9_count_6 hc46 (by decide) rfl (by decide) ?_
                                      refine g_aload_n (n := 183) C 0 dX9_count_182 rfl rfl ?_
                                      refine g_getI (n := 186) C 0 24 rfl (Nat.le_of_ble_eq_true rfl) rfl rfl rfl (Nat.le_of_ble_eq_true rfl) in_X9_count_X9 (by decide +kernel) dX9_count_183 rfl ?_
                                      refine g_i2l (n := 187) C ((hS1 0 24).2 (by decide)) dX9_count_186 rfl ?_
                                      exact g_lret C rfl h rfl (r32_64 ((hS1 0 24).2 (by decide))) hS1 dX9_count_187
                                    · rw [if_neg hc46] at h
                                      refine g_tabOut C 188 ha0 dX9_count_6 (by omega) (by decide) ?_
                                      refine g_ldc2 (n := 191) (a := (-1)) (v := (-1)) C (by decide +kernel) (by decide +kernel) dX9_count_188 rfl ?_
                                      exact g_lret C rfl h rfl (by decide : r64 (-1)) hS1 dX9_count_191
-- RX9 slot
abbrev rm_X9_slot : Room := ({ frames := 0, cells := 0, slots := 0, locals := 0 } : Room)
abbrev mi_X9_slot : Mi := (cX9_slot, 3, RX9, wsX9_slot, rm_X9_slot, (some .int))
set_option maxRecDepth 20000 in
theorem in_X9_slot_X9 : ∀ w ∈ u_ws RX9 TX9 39, w ∈ wsX9_slot := by decide +kernel
def dn_X9_slot (a0 : Int) (a1 : Int) (S : St) : Option (St × Int) := (nmS (stU S 0 33 0) fun S1 => (if a0 < 0 then some (S1, (-1)) else (if a0 < 12 then (if a1 = 0 then (if 0 ≤ a0 ∧ a0 < 12 then some (S1, S1 5 a0.toNat) else none) else (if a1 = 1 then (if 0 ≤ a0 ∧ a0 < 12 then (if S1 5 a0.toNat ≤ 0 then some (S1, 0) else (if S1 6 a0.toNat = 0 then some (S1, 0) else some (S1, 1))) else none) else (if a1 = 2 then (if 0 ≤ a0 ∧ a0 < 12 then (if S1 5 a0.toNat < 3 then some (S1, (-1)) else some (S1, S1 7 a0.toNat)) else none) else (if a1 = 3 then (if 0 ≤ a0 ∧ a0 < 12 then (if S1 5 a0.toNat = 1 then some (S1, S1 8 a0.toNat) else (if S1 5 a0.toNat = 3 then some (S1, S1 8 a0.toNat) else some (S1, 0))) else none) else (if a1 = 4 then (if 0 ≤ a0 ∧ a0 < 12 then (if S1 5 a0.toNat = 2 then some (S1, S1 9 a0.toNat) else (if S1 5 a0.toNat = 4 then some (S1, S1 9 a0.toNat) else some (S1, 0))) else none) else some (S1, (-1))))))) else some (S1, (-1)))))
set_option maxRecDepth 100000 in
set_option maxHeartbeats 4000000 in
theorem c_X9_slot {l : Launch} {D : va_G} {t : T5} {ad : Nat → Nat} {S S0 : St} {r0 : Int} {a0 a1 : Int} (hS : RS S) (ha0 : r32 a0) (ha1 : r32 a1) (h : dn_X9_slot a0 a1 S = some (S0, r0)) : Mc l (sM D t ad) yX9_slot wsX9_slot rm_X9_slot [.ref (ad 0), vI a0, vI a1] acI S S0 r0 := by
  refine Mc_of (cc := cX9_slot) (nL := 3) (ret := (some .int)) (by decide +kernel) rfl (Nat.le_of_ble_eq_true rfl) (lv := [(0, .ref (ad 0)), (1, vI a0), (2, vI a1)]) rfl (fun x C _ => ?_)
  unfold dn_X9_slot at h
  show GW (sM D t ad) mi_X9_slot (acI, S0, r0) x S 0 [(0, .ref (ad 0)), (1, vI a0), (2, vI a1)] []
  refine g_aload_n (n := 1) C 0 dX9_slot_0 rfl rfl ?_
  refine g_iconst (n := 2) C dX9_slot_1 rfl ?_
  obtain ⟨S1, eS1, h⟩ := nmS_e h
  have hS1 : RS S1 := by rw [eS1]; exact RS_i hS (by decide : r32 0)
  refine g_putI (n := 5) C 0 33 rfl (Nat.le_of_ble_eq_true rfl) rfl rfl rfl (Nat.le_of_ble_eq_true rfl) in_X9_slot_X9 tyX9_ok nmX9 (by decide +kernel) rfl (by decide +kernel) (Nat.le_of_ble_eq_true rfl) eS1 dX9_slot_2 rfl ?_
  refine g_iload_n (n := 6) C 1 dX9_slot_5 rfl rfl ?_
  refine g_if_lt (n := 9) C 15 ha0 dX9_slot_6 (by decide) rfl (fun (hc2 : a0 < 0) => ?_) (fun (hc2 : ¬ (a0 < 0)) => ?_)
  · rw [if_pos hc2] at h
    refine g_iconst (n := 16) C dX9_slot_15 rfl ?_
    exact g_iret C rfl h rfl (by decide : r32 (-1)) hS1 dX9_slot_16
  · rw [if_neg hc2] at h
    refine g_iload_n (n := 10) C 1 dX9_slot_9 rfl rfl ?_
    refine g_bipush (n := 12) C dX9_slot_10 (by decide +kernel) rfl ?_
    refine g_icmp_lt (n := 15) C 17 ha0 (by decide : r32 12) dX9_slot_12 (by decide) rfl (fun (hc3 : a0 < 12) => ?_) (fun (hc3 : ¬ (a0 < 12)) => ?_)
    · rw [if_pos hc3] at h
      refine g_iload_n (n := 18) C 2 dX9_slot_17 rfl rfl ?_
      by_cases hc4 : a1 = 0
      · rw [if_pos hc4] at h
        refine g_tabIn C 0 52 ha1 dX9_slot_18 hc4 (by decide) rfl (by decide) ?_
        refine g_aload_n (n := 53) C 0 dX9_slot_52 rfl rfl ?_
        refine g_getC (n := 56) C 0 5 rfl (Nat.le_of_ble_eq_true rfl) rfl rfl rfl (Nat.le_of_ble_eq_true rfl) in_X9_slot_X9 (by decide +kernel) dX9_slot_53 rfl ?_
        refine g_iload_n (n := 57) C 1 dX9_slot_56 rfl rfl ?_
        obtain ⟨hg5, h⟩ := gd_e h
        refine g_iald (n := 58) C 5 rfl (Nat.le_of_ble_eq_true rfl) rfl rfl hg5 ha0 dX9_slot_57 rfl ?_
        exact g_iret C rfl h rfl ((hS1 5 _).2 (tn_lt hg5 (by decide))) hS1 dX9_slot_58
      · rw [if_neg hc4] at h
        by_cases hc6 : a1 = 1
        · rw [if_pos hc6] at h
          refine g_tabIn C 1 59 ha1 dX9_slot_18 hc6 (by decide) rfl (by decide) ?_
          refine g_aload_n (n := 60) C 0 dX9_slot_59 rfl rfl ?_
          refine g_getC (n := 63) C 0 5 rfl (Nat.le_of_ble_eq_true rfl) rfl rfl rfl (Nat.le_of_ble_eq_true rfl) in_X9_slot_X9 (by decide +kernel) dX9_slot_60 rfl ?_
          refine g_iload_n (n := 64) C 1 dX9_slot_63 rfl rfl ?_
          obtain ⟨hg7, h⟩ := gd_e h
          refine g_iald (n := 65) C 5 rfl (Nat.le_of_ble_eq_true rfl) rfl rfl hg7 ha0 dX9_slot_64 rfl ?_
          refine g_if_le (n := 68) C 81 ((hS1 5 _).2 (tn_lt hg7 (by decide))) dX9_slot_65 (by decide) rfl (fun (hc8 : S1 5 a0.toNat ≤ 0) => ?_) (fun (hc8 : ¬ (S1 5 a0.toNat ≤ 0)) => ?_)
          · rw [if_pos hc8] at h
            refine g_iconst (n := 82) C dX9_slot_81 rfl ?_
            exact g_iret C rfl h rfl (by decide : r32 0) hS1 dX9_slot_82
          · rw [if_neg hc8] at h
            refine g_aload_n (n := 69) C 0 dX9_slot_68 rfl rfl ?_
            refine g_getC (n := 72) C 0 6 rfl (Nat.le_of_ble_eq_true rfl) rfl rfl rfl (Nat.le_of_ble_eq_true rfl) in_X9_slot_X9 (by decide +kernel) dX9_slot_69 rfl ?_
            refine g_iload_n (n := 73) C 1 dX9_slot_72 rfl rfl ?_
            refine g_zald (n := 74) C 6 rfl (Nat.le_of_ble_eq_true rfl) rfl rfl hg7 ha0 dX9_slot_73 rfl ?_
            refine g_if_eq (n := 77) C 81 ((hS1 6 _).2 (tn_lt hg7 (by decide))) dX9_slot_74 (by decide) rfl (fun (hc9 : S1 6 a0.toNat = 0) => ?_) (fun (hc9 : ¬ (S1 6 a0.toNat = 0)) => ?_)
            · rw [if_pos hc9] at h
              refine g_iconst (n := 82) C dX9_slot_81 rfl ?_
              exact g_iret C rfl h rfl (by decide : r32 0) hS1 dX9_slot_82
            · rw [if_neg hc9] at h
              refine g_iconst (n := 78) C dX9_slot_77 rfl ?_
              refine g_goto C 82 dX9_slot_78 (by decide) ?_
              exact g_iret C rfl h rfl (by decide : r32 1) hS1 dX9_slot_82
        · rw [if_neg hc6] at h
          by_cases hc10 : a1 = 2
          · rw [if_pos hc10] at h
            refine g_tabIn C 2 83 ha1 dX9_slot_18 hc10 (by decide) rfl (by decide) ?_
            refine g_aload_n (n := 84) C 0 dX9_slot_83 rfl rfl ?_
            refine g_getC (n := 87) C 0 5 rfl (Nat.le_of_ble_eq_true rfl) rfl rfl rfl (Nat.le_of_ble_eq_true rfl) in_X9_slot_X9 (by decide +kernel) dX9_slot_84 rfl ?_
            refine g_iload_n (n := 88) C 1 dX9_slot_87 rfl rfl ?_
            obtain ⟨hg11, h⟩ := gd_e h
            refine g_iald (n := 89) C 5 rfl (Nat.le_of_ble_eq_true rfl) rfl rfl hg11 ha0 dX9_slot_88 rfl ?_
            refine g_iconst (n := 90) C dX9_slot_89 rfl ?_
            refine g_icmp_lt (n := 93) C 102 ((hS1 5 _).2 (tn_lt hg11 (by decide))) (by decide : r32 3) dX9_slot_90 (by decide) rfl (fun (hc12 : S1 5 a0.toNat < 3) => ?_) (fun (hc12 : ¬ (S1 5 a0.toNat < 3)) => ?_)
            · rw [if_pos hc12] at h
              refine g_iconst (n := 103) C dX9_slot_102 rfl ?_
              exact g_iret C rfl h rfl (by decide : r32 (-1)) hS1 dX9_slot_103
            · rw [if_neg hc12] at h
              refine g_aload_n (n := 94) C 0 dX9_slot_93 rfl rfl ?_
              refine g_getC (n := 97) C 0 7 rfl (Nat.le_of_ble_eq_true rfl) rfl rfl rfl (Nat.le_of_ble_eq_true rfl) in_X9_slot_X9 (by decide +kernel) dX9_slot_94 rfl ?_
              refine g_iload_n (n := 98) C 1 dX9_slot_97 rfl rfl ?_
              refine g_iald (n := 99) C 7 rfl (Nat.le_of_ble_eq_true rfl) rfl rfl hg11 ha0 dX9_slot_98 rfl ?_
              refine g_goto C 103 dX9_slot_99 (by decide) ?_
              exact g_iret C rfl h rfl ((hS1 7 _).2 (tn_lt hg11 (by decide))) hS1 dX9_slot_103
          · rw [if_neg hc10] at h
            by_cases hc13 : a1 = 3
            · rw [if_pos hc13] at h
              refine g_tabIn C 3 104 ha1 dX9_slot_18 hc13 (by decide) rfl (by decide) ?_
              refine g_aload_n (n := 105) C 0 dX9_slot_104 rfl rfl ?_
              refine g_getC (n := 108) C 0 5 rfl (Nat.le_of_ble_eq_true rfl) rfl rfl rfl (Nat.le_of_ble_eq_true rfl) in_X9_slot_X9 (by decide +kernel) dX9_slot_105 rfl ?_
              refine g_iload_n (n := 109) C 1 dX9_slot_108 rfl rfl ?_
              obtain ⟨hg14, h⟩ := gd_e h
              refine g_iald (n := 110) C 5 rfl (Nat.le_of_ble_eq_true rfl) rfl rfl hg14 ha0 dX9_slot_109 rfl ?_
              refine g_iconst (n := 111) C dX9_slot_110 rfl ?_
              refine g_icmp_eq (n := 114) C 124 ((hS1 5 _).2 (tn_lt hg14 (by decide))) (by decide : r32 1) dX9_slot_111 (by decide) rfl (fun (hc15 : S1 5 a0.toNat = 1) => ?_) (fun (hc15 : ¬ (S1 5 a0.toNat = 1)) => ?_)
              · rw [if_pos hc15] at h
                refine g_aload_n (n := 125) C 0 dX9_slot_124 rfl rfl ?_
                refine g_getC (n := 128) C 0 8 rfl (Nat.le_of_ble_eq_true rfl) rfl rfl rfl (Nat.le_of_ble_eq_true rfl) in_X9_slot_X9 (by decide +kernel) dX9_slot_125 rfl ?_
                refine g_iload_n (n := 129) C 1 dX9_slot_128 rfl rfl ?_
                refine g_iald (n := 130) C 8 rfl (Nat.le_of_ble_eq_true rfl) rfl rfl hg14 ha0 dX9_slot_129 rfl ?_
                refine g_goto C 134 dX9_slot_130 (by decide) ?_
                exact g_iret C rfl h rfl ((hS1 8 _).2 (tn_lt hg14 (by decide))) hS1 dX9_slot_134
              · rw [if_neg hc15] at h
                refine g_aload_n (n := 115) C 0 dX9_slot_114 rfl rfl ?_
                refine g_getC (n := 118) C 0 5 rfl (Nat.le_of_ble_eq_true rfl) rfl rfl rfl (Nat.le_of_ble_eq_true rfl) in_X9_slot_X9 (by decide +kernel) dX9_slot_115 rfl ?_
                refine g_iload_n (n := 119) C 1 dX9_slot_118 rfl rfl ?_
                refine g_iald (n := 120) C 5 rfl (Nat.le_of_ble_eq_true rfl) rfl rfl hg14 ha0 dX9_slot_119 rfl ?_
                refine g_iconst (n := 121) C dX9_slot_120 rfl ?_
                refine g_icmp_ne (n := 124) C 133 ((hS1 5 _).2 (tn_lt hg14 (by decide))) (by decide : r32 3) dX9_slot_121 (by decide) rfl (fun (hc16 : ¬ (S1 5 a0.toNat = 3)) => ?_) (fun (hc16 : S1 5 a0.toNat = 3) => ?_)
                · rw [if_neg hc16] at h
                  refine g_iconst (n := 134) C dX9_slot_133 rfl ?_
                  exact g_iret C rfl h rfl (by decide : r32 0) hS1 dX9_slot_134
                · rw [if_pos hc16] at h
                  refine g_aload_n (n := 125) C 0 dX9_slot_124 rfl rfl ?_
                  refine g_getC (n := 128) C 0 8 rfl (Nat.le_of_ble_eq_true rfl) rfl rfl rfl (Nat.le_of_ble_eq_true rfl) in_X9_slot_X9 (by decide +kernel) dX9_slot_125 rfl ?_
                  refine g_iload_n (n := 129) C 1 dX9_slot_128 rfl rfl ?_
                  refine g_iald (n := 130) C 8 rfl (Nat.le_of_ble_eq_true rfl) rfl rfl hg14 ha0 dX9_slot_129 rfl ?_
                  refine g_goto C 134 dX9_slot_130 (by decide) ?_
                  exact g_iret C rfl h rfl ((hS1 8 _).2 (tn_lt hg14 (by decide))) hS1 dX9_slot_134
            · rw [if_neg hc13] at h
              by_cases hc17 : a1 = 4
              · rw [if_pos hc17] at h
                refine g_tabIn C 4 135 ha1 dX9_slot_18 hc17 (by decide) rfl (by decide) ?_
                refine g_aload_n (n := 136) C 0 dX9_slot_135 rfl rfl ?_
                refine g_getC (n := 139) C 0 5 rfl (Nat.le_of_ble_eq_true rfl) rfl rfl rfl (Nat.le_of_ble_eq_true rfl) in_X9_slot_X9 (by decide +kernel) dX9_slot_136 rfl ?_
                refine g_iload_n (n := 140) C 1 dX9_slot_139 rfl rfl ?_
                obtain ⟨hg18, h⟩ := gd_e h
                refine g_iald (n := 141) C 5 rfl (Nat.le_of_ble_eq_true rfl) rfl rfl hg18 ha0 dX9_slot_140 rfl ?_
                refine g_iconst (n := 142) C dX9_slot_141 rfl ?_
                refine g_icmp_eq (n := 145) C 155 ((hS1 5 _).2 (tn_lt hg18 (by decide))) (by decide : r32 2) dX9_slot_142 (by decide) rfl (fun (hc19 : S1 5 a0.toNat = 2) => ?_) (fun (hc19 : ¬ (S1 5 a0.toNat = 2)) => ?_)
                · rw [if_pos hc19] at h
                  refine g_aload_n (n := 156) C 0 dX9_slot_155 rfl rfl ?_
                  refine g_getC (n := 159) C 0 9 rfl (Nat.le_of_ble_eq_true rfl) rfl rfl rfl (Nat.le_of_ble_eq_true rfl) in_X9_slot_X9 (by decide +kernel) dX9_slot_156 rfl ?_
                  refine g_iload_n (n := 160) C 1 dX9_slot_159 rfl rfl ?_
                  refine g_iald (n := 161) C 9 rfl (Nat.le_of_ble_eq_true rfl) rfl rfl hg18 ha0 dX9_slot_160 rfl ?_
                  refine g_goto C 165 dX9_slot_161 (by decide) ?_
                  exact g_iret C rfl h rfl ((hS1 9 _).2 (tn_lt hg18 (by decide))) hS1 dX9_slot_165
                · rw [if_neg hc19] at h
                  refine g_aload_n (n := 146) C 0 dX9_slot_145 rfl rfl ?_
                  refine g_getC (n := 149) C 0 5 rfl (Nat.le_of_ble_eq_true rfl) rfl rfl rfl (Nat.le_of_ble_eq_true rfl) in_X9_slot_X9 (by decide +kernel) dX9_slot_146 rfl ?_
                  refine g_iload_n (n := 150) C 1 dX9_slot_149 rfl rfl ?_
                  refine g_iald (n := 151) C 5 rfl (Nat.le_of_ble_eq_true rfl) rfl rfl hg18 ha0 dX9_slot_150 rfl ?_
                  refine g_iconst (n := 152) C dX9_slot_151 rfl ?_
                  refine g_icmp_ne (n := 155) C 164 ((hS1 5 _).2 (tn_lt hg18 (by decide))) (by decide : r32 4) dX9_slot_152 (by decide) rfl (fun (hc20 : ¬ (S1 5 a0.toNat = 4)) => ?_) (fun (hc20 : S1 5 a0.toNat = 4) => ?_)
                  · rw [if_neg hc20] at h
                    refine g_iconst (n := 165) C dX9_slot_164 rfl ?_
                    exact g_iret C rfl h rfl (by decide : r32 0) hS1 dX9_slot_165
                  · rw [if_pos hc20] at h
                    refine g_aload_n (n := 156) C 0 dX9_slot_155 rfl rfl ?_
                    refine g_getC (n := 159) C 0 9 rfl (Nat.le_of_ble_eq_true rfl) rfl rfl rfl (Nat.le_of_ble_eq_true rfl) in_X9_slot_X9 (by decide +kernel) dX9_slot_156 rfl ?_
                    refine g_iload_n (n := 160) C 1 dX9_slot_159 rfl rfl ?_
                    refine g_iald (n := 161) C 9 rfl (Nat.le_of_ble_eq_true rfl) rfl rfl hg18 ha0 dX9_slot_160 rfl ?_
                    refine g_goto C 165 dX9_slot_161 (by decide) ?_
                    exact g_iret C rfl h rfl ((hS1 9 _).2 (tn_lt hg18 (by decide))) hS1 dX9_slot_165
              · rw [if_neg hc17] at h
                refine g_tabOut C 166 ha1 dX9_slot_18 (by omega) (by decide) ?_
                refine g_iconst (n := 167) C dX9_slot_166 rfl ?_
                exact g_iret C rfl h rfl (by decide : r32 (-1)) hS1 dX9_slot_167
    · rw [if_neg hc3] at h
      refine g_iconst (n := 16) C dX9_slot_15 rfl ?_
      exact g_iret C rfl h rfl (by decide : r32 (-1)) hS1 dX9_slot_16
