-- RX9 hasBroken
abbrev rm_X9_hasBroken : Room := ({ frames := 0, cells := 0, slots := 0, locals := 0 } : Room)
abbrev mi_X9_hasBroken : Mi := (cX9_hasBroken, 3, RX9, wsX9_hasBroken, rm_X9_hasBroken, (some .boolean))
set_option maxRecDepth 20000 in
theorem in_X9_hasBroken_X9 : ∀ w ∈ u_ws RX9 TX9 39, w ∈ wsX9_hasBroken := by decide +kernel
def dn_X9_hasBroken_2 : Nat → Int → Int → St → Option (St × Int)
  | 0, _, _, _ => none
  | n + 1, x1, x2, S => (if 12 ≤ x2 then some (S, 0) else (if 0 ≤ x2 ∧ x2 < 12 then (if S 5 x2.toNat = 4 then (if S 7 x2.toNat = x1 then (if S 6 x2.toNat = 0 then (nmV (w32 (x2 + 1)) fun v8 => dn_X9_hasBroken_2 n x1 v8 S) else some (S, 1)) else (nmV (w32 (x2 + 1)) fun v6 => dn_X9_hasBroken_2 n x1 v6 S)) else (nmV (w32 (x2 + 1)) fun v4 => dn_X9_hasBroken_2 n x1 v4 S)) else none))
set_option maxRecDepth 100000 in
set_option maxHeartbeats 4000000 in
theorem u_X9_hasBroken_2 {D : va_G} {t : T5} {ad : Nat → Nat} {S0 : St} {r0 : Int} {x : Mx} (C : CX (sM D t ad) mi_X9_hasBroken x) : ∀ (n : Nat) (x1 : Int) (x2 : Int) (S : St), RS S → (r32 x1) → (r32 x2) → dn_X9_hasBroken_2 n x1 x2 S = some (S0, r0) → GW (sM D t ad) mi_X9_hasBroken (acZ, S0, r0) x S 2 [(0, .ref (ad 0)), (1, vI x1), (2, vI x2)] [] := by
  intro n
  induction n with
  | zero =>
    intro x1 x2 S hS hx1 hx2 h
    cases h
  | succ n ih =>
    intro x1 x2 S hS hx1 hx2 h
    rw [dn_X9_hasBroken_2] at h
    refine g_iload_n (n := 3) C 2 dX9_hasBroken_2 rfl rfl ?_
    refine g_bipush (n := 5) C dX9_hasBroken_3 (by decide +kernel) rfl ?_
    refine g_icmp_ge (n := 8) C 45 hx2 (by decide : r32 12) dX9_hasBroken_5 (by decide) rfl (fun (hc1 : 12 ≤ x2) => ?_) (fun (hc1 : ¬ (12 ≤ x2)) => ?_)
    · rw [if_pos hc1] at h
      refine g_iconst (n := 46) C dX9_hasBroken_45 rfl ?_
      exact g_zret C rfl (Or.inl rfl) h rfl (Or.inl rfl) hS dX9_hasBroken_46
    · rw [if_neg hc1] at h
      refine g_aload_n (n := 9) C 0 dX9_hasBroken_8 rfl rfl ?_
      refine g_getC (n := 12) C 0 5 rfl (Nat.le_of_ble_eq_true rfl) rfl rfl rfl (Nat.le_of_ble_eq_true rfl) in_X9_hasBroken_X9 (by decide +kernel) dX9_hasBroken_9 rfl ?_
      refine g_iload_n (n := 13) C 2 dX9_hasBroken_12 rfl rfl ?_
      obtain ⟨hg2, h⟩ := gd_e h
      refine g_iald (n := 14) C 5 rfl (Nat.le_of_ble_eq_true rfl) rfl rfl hg2 hx2 dX9_hasBroken_13 rfl ?_
      refine g_iconst (n := 15) C dX9_hasBroken_14 rfl ?_
      refine g_icmp_ne (n := 18) C 39 ((hS 5 _).2 (tn_lt hg2 (by decide))) (by decide : r32 4) dX9_hasBroken_15 (by decide) rfl (fun (hc3 : ¬ (S 5 x2.toNat = 4)) => ?_) (fun (hc3 : S 5 x2.toNat = 4) => ?_)
      · rw [if_neg hc3] at h
        obtain ⟨v4, ev4, h⟩ := nmV_e h
        have hv4 : r32 v4 := by rw [ev4]; exact w32_r _
        refine g_iinc (n := 42) (lv' := [(2, vI v4), (0, .ref (ad 0)), (1, vI x1)]) C 2 dX9_hasBroken_39 rfl (Nat.le_of_ble_eq_true rfl) ev4 rfl rfl ?_
        refine g_goto C 2 dX9_hasBroken_42 (by decide) ?_
        refine g_lv [1, 2, 0] rfl ?_
        exact ih x1 v4 S hS hx1 hv4 h
      · rw [if_pos hc3] at h
        refine g_aload_n (n := 19) C 0 dX9_hasBroken_18 rfl rfl ?_
        refine g_getC (n := 22) C 0 7 rfl (Nat.le_of_ble_eq_true rfl) rfl rfl rfl (Nat.le_of_ble_eq_true rfl) in_X9_hasBroken_X9 (by decide +kernel) dX9_hasBroken_19 rfl ?_
        refine g_iload_n (n := 23) C 2 dX9_hasBroken_22 rfl rfl ?_
        refine g_iald (n := 24) C 7 rfl (Nat.le_of_ble_eq_true rfl) rfl rfl hg2 hx2 dX9_hasBroken_23 rfl ?_
        refine g_iload_n (n := 25) C 1 dX9_hasBroken_24 rfl rfl ?_
        refine g_icmp_ne (n := 28) C 39 ((hS 7 _).2 (tn_lt hg2 (by decide))) hx1 dX9_hasBroken_25 (by decide) rfl (fun (hc5 : ¬ (S 7 x2.toNat = x1)) => ?_) (fun (hc5 : S 7 x2.toNat = x1) => ?_)
        · rw [if_neg hc5] at h
          obtain ⟨v6, ev6, h⟩ := nmV_e h
          have hv6 : r32 v6 := by rw [ev6]; exact w32_r _
          refine g_iinc (n := 42) (lv' := [(2, vI v6), (0, .ref (ad 0)), (1, vI x1)]) C 2 dX9_hasBroken_39 rfl (Nat.le_of_ble_eq_true rfl) ev6 rfl rfl ?_
          refine g_goto C 2 dX9_hasBroken_42 (by decide) ?_
          refine g_lv [1, 2, 0] rfl ?_
          exact ih x1 v6 S hS hx1 hv6 h
        · rw [if_pos hc5] at h
          refine g_aload_n (n := 29) C 0 dX9_hasBroken_28 rfl rfl ?_
          refine g_getC (n := 32) C 0 6 rfl (Nat.le_of_ble_eq_true rfl) rfl rfl rfl (Nat.le_of_ble_eq_true rfl) in_X9_hasBroken_X9 (by decide +kernel) dX9_hasBroken_29 rfl ?_
          refine g_iload_n (n := 33) C 2 dX9_hasBroken_32 rfl rfl ?_
          refine g_zald (n := 34) C 6 rfl (Nat.le_of_ble_eq_true rfl) rfl rfl hg2 hx2 dX9_hasBroken_33 rfl ?_
          refine g_if_eq (n := 37) C 39 ((hS 6 _).2 (tn_lt hg2 (by decide))) dX9_hasBroken_34 (by decide) rfl (fun (hc7 : S 6 x2.toNat = 0) => ?_) (fun (hc7 : ¬ (S 6 x2.toNat = 0)) => ?_)
          · rw [if_pos hc7] at h
            obtain ⟨v8, ev8, h⟩ := nmV_e h
            have hv8 : r32 v8 := by rw [ev8]; exact w32_r _
            refine g_iinc (n := 42) (lv' := [(2, vI v8), (0, .ref (ad 0)), (1, vI x1)]) C 2 dX9_hasBroken_39 rfl (Nat.le_of_ble_eq_true rfl) ev8 rfl rfl ?_
            refine g_goto C 2 dX9_hasBroken_42 (by decide) ?_
            refine g_lv [1, 2, 0] rfl ?_
            exact ih x1 v8 S hS hx1 hv8 h
          · rw [if_neg hc7] at h
            refine g_iconst (n := 38) C dX9_hasBroken_37 rfl ?_
            exact g_zret C rfl (Or.inr rfl) h rfl (Or.inr rfl) hS dX9_hasBroken_38
def dn_X9_hasBroken (a0 : Int) (S : St) : Option (St × Int) := dn_X9_hasBroken_2 FU a0 0 S
set_option maxRecDepth 100000 in
set_option maxHeartbeats 4000000 in
theorem c_X9_hasBroken {l : Launch} {D : va_G} {t : T5} {ad : Nat → Nat} {S S0 : St} {r0 : Int} {a0 : Int} (hS : RS S) (ha0 : r32 a0) (h : dn_X9_hasBroken a0 S = some (S0, r0)) : Mc l (sM D t ad) yX9_hasBroken wsX9_hasBroken rm_X9_hasBroken [.ref (ad 0), vI a0] acZ S S0 r0 := by
  refine Mc_of (cc := cX9_hasBroken) (nL := 3) (ret := (some .boolean)) (by decide +kernel) rfl (Nat.le_of_ble_eq_true rfl) (lv := [(0, .ref (ad 0)), (1, vI a0)]) rfl (fun x C _ => ?_)
  unfold dn_X9_hasBroken at h
  show GW (sM D t ad) mi_X9_hasBroken (acZ, S0, r0) x S 0 [(0, .ref (ad 0)), (1, vI a0)] []
  refine g_iconst (n := 1) C dX9_hasBroken_0 rfl ?_
  refine g_istore_n (n := 2) (lv' := [(2, vI 0), (0, .ref (ad 0)), (1, vI a0)]) C dX9_hasBroken_1 (Nat.le_of_ble_eq_true rfl) rfl rfl rfl ?_
  refine g_lv [1, 2, 0] rfl ?_
  exact u_X9_hasBroken_2 C FU a0 0 S hS ha0 (by decide : r32 0) h
-- RX9 doWork
abbrev rm_X9_doWork : Room := ({ frames := 3, cells := 0, slots := 0, locals := 68 } : Room)
abbrev mi_X9_doWork : Mi := (cX9_doWork, 4, RX9, wsX9_doWork, rm_X9_doWork, none)
set_option maxRecDepth 20000 in
theorem in_X9_doWork_X9 : ∀ w ∈ u_ws RX9 TX9 39, w ∈ wsX9_doWork := by decide +kernel
def dn_X9_doWork_109 : Nat → Int → Int → Int → St → Option (St × Int)
  | 0, _, _, _, _ => none
  | n + 1, x1, x2, x3, S => (if S 0 19 ≤ x3 then some (S, 0) else (if 0 ≤ x3 ∧ x3 < 60 then (if S 15 x3.toNat = 3 then (if S 16 x3.toNat ≤ x2 then (nmS (stU S 16 x3.toNat 0) fun S10 => (nmV (w32 (x3 + 1)) fun v11 => dn_X9_doWork_109 n x1 x2 v11 S10)) else (nmS (stU S 16 x3.toNat (w32 ((S 16 x3.toNat) - x2))) fun S12 => (nmV (w32 (x3 + 1)) fun v13 => dn_X9_doWork_109 n x1 x2 v13 S12))) else (nmV (w32 (x3 + 1)) fun v14 => dn_X9_doWork_109 n x1 x2 v14 S)) else none))
set_option maxRecDepth 100000 in
set_option maxHeartbeats 4000000 in
theorem u_X9_doWork_109 {D : va_G} {t : T5} {ad : Nat → Nat} {S0 : St} {r0 : Int} {x : Mx} (C : CX (sM D t ad) mi_X9_doWork x) : ∀ (n : Nat) (x1 : Int) (x2 : Int) (x3 : Int) (S : St), RS S → (r32 x1) → (r32 x2) → (r32 x3) → dn_X9_doWork_109 n x1 x2 x3 S = some (S0, r0) → GW (sM D t ad) mi_X9_doWork (acV, S0, r0) x S 109 [(0, .ref (ad 0)), (1, vI x1), (2, vI x2), (3, vI x3)] [] := by
  intro n
  induction n with
  | zero =>
    intro x1 x2 x3 S hS hx1 hx2 hx3 h
    cases h
  | succ n ih =>
    intro x1 x2 x3 S hS hx1 hx2 hx3 h
    rw [dn_X9_doWork_109] at h
    refine g_iload_n (n := 110) C 3 dX9_doWork_109 rfl rfl ?_
    refine g_aload_n (n := 111) C 0 dX9_doWork_110 rfl rfl ?_
    refine g_getI (n := 114) C 0 19 rfl (Nat.le_of_ble_eq_true rfl) rfl rfl rfl (Nat.le_of_ble_eq_true rfl) in_X9_doWork_X9 (by decide +kernel) dX9_doWork_111 rfl ?_
    refine g_icmp_ge (n := 117) C 164 hx3 ((hS 0 19).2 (by decide)) dX9_doWork_114 (by decide) rfl (fun (hc6 : S 0 19 ≤ x3) => ?_) (fun (hc6 : ¬ (S 0 19 ≤ x3)) => ?_)
    · rw [if_pos hc6] at h
      exact g_vret C rfl h rfl trivial hS dX9_doWork_164
    · rw [if_neg hc6] at h
      refine g_aload_n (n := 118) C 0 dX9_doWork_117 rfl rfl ?_
      refine g_getC (n := 121) C 0 15 rfl (Nat.le_of_ble_eq_true rfl) rfl rfl rfl (Nat.le_of_ble_eq_true rfl) in_X9_doWork_X9 (by decide +kernel) dX9_doWork_118 rfl ?_
      refine g_iload_n (n := 122) C 3 dX9_doWork_121 rfl rfl ?_
      obtain ⟨hg7, h⟩ := gd_e h
      refine g_iald (n := 123) C 15 rfl (Nat.le_of_ble_eq_true rfl) rfl rfl hg7 hx3 dX9_doWork_122 rfl ?_
      refine g_iconst (n := 124) C dX9_doWork_123 rfl ?_
      refine g_icmp_eq (n := 127) C 130 ((hS 15 _).2 (tn_lt hg7 (by decide))) (by decide : r32 3) dX9_doWork_124 (by decide) rfl (fun (hc8 : S 15 x3.toNat = 3) => ?_) (fun (hc8 : ¬ (S 15 x3.toNat = 3)) => ?_)
      · rw [if_pos hc8] at h
        refine g_aload_n (n := 131) C 0 dX9_doWork_130 rfl rfl ?_
        refine g_getC (n := 134) C 0 16 rfl (Nat.le_of_ble_eq_true rfl) rfl rfl rfl (Nat.le_of_ble_eq_true rfl) in_X9_doWork_X9 (by decide +kernel) dX9_doWork_131 rfl ?_
        refine g_iload_n (n := 135) C 3 dX9_doWork_134 rfl rfl ?_
        refine g_aload_n (n := 136) C 0 dX9_doWork_135 rfl rfl ?_
        refine g_getC (n := 139) C 0 16 rfl (Nat.le_of_ble_eq_true rfl) rfl rfl rfl (Nat.le_of_ble_eq_true rfl) in_X9_doWork_X9 (by decide +kernel) dX9_doWork_136 rfl ?_
        refine g_iload_n (n := 140) C 3 dX9_doWork_139 rfl rfl ?_
        refine g_iald (n := 141) C 16 rfl (Nat.le_of_ble_eq_true rfl) rfl rfl hg7 hx3 dX9_doWork_140 rfl ?_
        refine g_iload_n (n := 142) C 2 dX9_doWork_141 rfl rfl ?_
        refine g_icmp_le (n := 145) C 156 ((hS 16 _).2 (tn_lt hg7 (by decide))) hx2 dX9_doWork_142 (by decide) rfl (fun (hc9 : S 16 x3.toNat ≤ x2) => ?_) (fun (hc9 : ¬ (S 16 x3.toNat ≤ x2)) => ?_)
        · rw [if_pos hc9] at h
          refine g_iconst (n := 157) C dX9_doWork_156 rfl ?_
          obtain ⟨S10, eS10, h⟩ := nmS_e h
          have hS10 : RS S10 := by rw [eS10]; exact RS_i hS (by decide : r32 0)
          refine g_iast (n := 158) C 16 rfl (Nat.le_of_ble_eq_true rfl) rfl rfl hg7 hx3 eS10 dX9_doWork_157 rfl ?_
          obtain ⟨v11, ev11, h⟩ := nmV_e h
          have hv11 : r32 v11 := by rw [ev11]; exact w32_r _
          refine g_iinc (n := 161) (lv' := [(3, vI v11), (0, .ref (ad 0)), (1, vI x1), (2, vI x2)]) C 3 dX9_doWork_158 rfl (Nat.le_of_ble_eq_true rfl) ev11 rfl rfl ?_
          refine g_goto C 109 dX9_doWork_161 (by decide) ?_
          refine g_lv [1, 2, 3, 0] rfl ?_
          exact ih x1 x2 v11 S10 hS10 hx1 hx2 hv11 h
        · rw [if_neg hc9] at h
          refine g_aload_n (n := 146) C 0 dX9_doWork_145 rfl rfl ?_
          refine g_getC (n := 149) C 0 16 rfl (Nat.le_of_ble_eq_true rfl) rfl rfl rfl (Nat.le_of_ble_eq_true rfl) in_X9_doWork_X9 (by decide +kernel) dX9_doWork_146 rfl ?_
          refine g_iload_n (n := 150) C 3 dX9_doWork_149 rfl rfl ?_
          refine g_iald (n := 151) C 16 rfl (Nat.le_of_ble_eq_true rfl) rfl rfl hg7 hx3 dX9_doWork_150 rfl ?_
          refine g_iload_n (n := 152) C 2 dX9_doWork_151 rfl rfl ?_
          refine g_isub (n := 153) C dX9_doWork_152 rfl ?_
          refine g_goto C 157 dX9_doWork_153 (by decide) ?_
          obtain ⟨S12, eS12, h⟩ := nmS_e h
          have hS12 : RS S12 := by rw [eS12]; exact RS_i hS (w32_r _)
          refine g_iast (n := 158) C 16 rfl (Nat.le_of_ble_eq_true rfl) rfl rfl hg7 hx3 eS12 dX9_doWork_157 rfl ?_
          obtain ⟨v13, ev13, h⟩ := nmV_e h
          have hv13 : r32 v13 := by rw [ev13]; exact w32_r _
          refine g_iinc (n := 161) (lv' := [(3, vI v13), (0, .ref (ad 0)), (1, vI x1), (2, vI x2)]) C 3 dX9_doWork_158 rfl (Nat.le_of_ble_eq_true rfl) ev13 rfl rfl ?_
          refine g_goto C 109 dX9_doWork_161 (by decide) ?_
          refine g_lv [1, 2, 3, 0] rfl ?_
          exact ih x1 x2 v13 S12 hS12 hx1 hx2 hv13 h
      · rw [if_neg hc8] at h
        refine g_goto C 158 dX9_doWork_127 (by decide) ?_
        obtain ⟨v14, ev14, h⟩ := nmV_e h
        have hv14 : r32 v14 := by rw [ev14]; exact w32_r _
        refine g_iinc (n := 161) (lv' := [(3, vI v14), (0, .ref (ad 0)), (1, vI x1), (2, vI x2)]) C 3 dX9_doWork_158 rfl (Nat.le_of_ble_eq_true rfl) ev14 rfl rfl ?_
        refine g_goto C 109 dX9_doWork_161 (by decide) ?_
        refine g_lv [1, 2, 3, 0] rfl ?_
        exact ih x1 x2 v14 S hS hx1 hx2 hv14 h
def dn_X9_doWork_62 : Nat → Int → Int → St → Option (St × Int)
  | 0, _, _, _ => none
  | n + 1, x1, x2, S => (if S 0 19 ≤ x2 then (if x1 ≤ 12 then (if 0 ≤ x1 ∧ x1 < 13 then (nmV (S 4 x1.toNat) fun v5 => dn_X9_doWork_109 FU x1 v5 0 S) else none) else (nmV (S 4 12) fun v15 => dn_X9_doWork_109 FU x1 v15 0 S)) else (if 0 ≤ x2 ∧ x2 < 60 then (if S 15 x2.toNat = 3 then (nmV (w32 (x1 + 1)) fun v19 => (nmV (w32 (x2 + 1)) fun v20 => dn_X9_doWork_62 n v19 v20 S)) else (nmV (w32 (x2 + 1)) fun v18 => dn_X9_doWork_62 n x1 v18 S)) else none))
set_option maxRecDepth 100000 in
set_option maxHeartbeats 4000000 in
theorem u_X9_doWork_62 {D : va_G} {t : T5} {ad : Nat → Nat} {S0 : St} {r0 : Int} {x : Mx} (C : CX (sM D t ad) mi_X9_doWork x) : ∀ (n : Nat) (x1 : Int) (x2 : Int) (S : St), RS S → (r32 x1) → (r32 x2) → dn_X9_doWork_62 n x1 x2 S = some (S0, r0) → GW (sM D t ad) mi_X9_doWork (acV, S0, r0) x S 62 [(0, .ref (ad 0)), (1, vI x1), (2, vI x2)] [] := by
  intro n
  induction n with
  | zero =>
    intro x1 x2 S hS hx1 hx2 h
    cases h
  | succ n ih =>
    intro x1 x2 S hS hx1 hx2 h
    rw [dn_X9_doWork_62] at h
    refine g_iload_n (n := 63) C 2 dX9_doWork_62 rfl rfl ?_
    refine g_aload_n (n := 64) C 0 dX9_doWork_63 rfl rfl ?_
    refine g_getI (n := 67) C 0 19 rfl (Nat.le_of_ble_eq_true rfl) rfl rfl rfl (Nat.le_of_ble_eq_true rfl) in_X9_doWork_X9 (by decide +kernel) dX9_doWork_64 rfl ?_
    refine g_icmp_ge (n := 70) C 89 hx2 ((hS 0 19).2 (by decide)) dX9_doWork_67 (by decide) rfl (fun (hc2 : S 0 19 ≤ x2) => ?_) (fun (hc2 : ¬ (S 0 19 ≤ x2)) => ?_)
    · rw [if_pos hc2] at h
      refine g_aload_n (n := 90) C 0 dX9_doWork_89 rfl rfl ?_
      refine g_getC (n := 93) C 0 3 rfl (Nat.le_of_ble_eq_true rfl) rfl rfl rfl (Nat.le_of_ble_eq_true rfl) in_X9_doWork_X9 (by decide +kernel) dX9_doWork_90 rfl ?_
      refine g_iload_n (n := 94) C 1 dX9_doWork_93 rfl rfl ?_
      refine g_bipush (n := 96) C dX9_doWork_94 (by decide +kernel) rfl ?_
      refine g_icmp_le (n := 99) C 104 hx1 (by decide : r32 12) dX9_doWork_96 (by decide) rfl (fun (hc3 : x1 ≤ 12) => ?_) (fun (hc3 : ¬ (x1 ≤ 12)) => ?_)
      · rw [if_pos hc3] at h
        refine g_iload_n (n := 105) C 1 dX9_doWork_104 rfl rfl ?_
        obtain ⟨hg4, h⟩ := gd_e h
        refine g_iald (n := 106) C 4 rfl (Nat.le_of_ble_eq_true rfl) rfl rfl hg4 hx1 dX9_doWork_105 rfl ?_
        obtain ⟨v5, ev5, h⟩ := nmV_e h
        have hv5 : r32 v5 := by rw [ev5]; exact (hS 4 _).2 (tn_lt hg4 (by decide))
        refine g_istore_n (n := 107) (lv' := [(2, vI v5), (0, .ref (ad 0)), (1, vI x1)]) C dX9_doWork_106 (Nat.le_of_ble_eq_true rfl) ev5 rfl rfl ?_
        refine g_iconst (n := 108) C dX9_doWork_107 rfl ?_
        refine g_istore_n (n := 109) (lv' := [(3, vI 0), (2, vI v5), (0, .ref (ad 0)), (1, vI x1)]) C dX9_doWork_108 (Nat.le_of_ble_eq_true rfl) rfl rfl rfl ?_
        refine g_lv [2, 3, 1, 0] rfl ?_
        exact u_X9_doWork_109 C FU x1 v5 0 S hS hx1 hv5 (by decide : r32 0) h
      · rw [if_neg hc3] at h
        refine g_bipush (n := 101) C dX9_doWork_99 (by decide +kernel) rfl ?_
        refine g_goto C 105 dX9_doWork_101 (by decide) ?_
        refine g_iald (n := 106) C 4 rfl (Nat.le_of_ble_eq_true rfl) rfl rfl (by decide : 0 ≤ (12 : Int) ∧ (12 : Int) < 13) (by decide : r32 12) dX9_doWork_105 rfl ?_
        obtain ⟨v15, ev15, h⟩ := nmV_e h
        have hv15 : r32 v15 := by rw [ev15]; exact (hS 4 _).2 (tn_lt (by decide : 0 ≤ (12 : Int) ∧ (12 : Int) < 13) (by decide))
        refine g_istore_n (n := 107) (lv' := [(2, vI v15), (0, .ref (ad 0)), (1, vI x1)]) C dX9_doWork_106 (Nat.le_of_ble_eq_true rfl) ev15 rfl rfl ?_
        refine g_iconst (n := 108) C dX9_doWork_107 rfl ?_
        refine g_istore_n (n := 109) (lv' := [(3, vI 0), (2, vI v15), (0, .ref (ad 0)), (1, vI x1)]) C dX9_doWork_108 (Nat.le_of_ble_eq_true rfl) rfl rfl rfl ?_
        refine g_lv [2, 3, 1, 0] rfl ?_
        exact u_X9_doWork_109 C FU x1 v15 0 S hS hx1 hv15 (by decide : r32 0) h
    · rw [if_neg hc2] at h
      refine g_aload_n (n := 71) C 0 dX9_doWork_70 rfl rfl ?_
      refine g_getC (n := 74) C 0 15 rfl (Nat.le_of_ble_eq_true rfl) rfl rfl rfl (Nat.le_of_ble_eq_true rfl) in_X9_doWork_X9 (by decide +kernel) dX9_doWork_71 rfl ?_
      refine g_iload_n (n := 75) C 2 dX9_doWork_74 rfl rfl ?_
      obtain ⟨hg16, h⟩ := gd_e h
      refine g_iald (n := 76) C 15 rfl (Nat.le_of_ble_eq_true rfl) rfl rfl hg16 hx2 dX9_doWork_75 rfl ?_
      refine g_iconst (n := 77) C dX9_doWork_76 rfl ?_
      refine g_icmp_ne (n := 80) C 83 ((hS 15 _).2 (tn_lt hg16 (by decide))) (by decide : r32 3) dX9_doWork_77 (by decide) rfl (fun (hc17 : ¬ (S 15 x2.toNat = 3)) => ?_) (fun (hc17 : S 15 x2.toNat = 3) => ?_)
      · rw [if_neg hc17] at h
        obtain ⟨v18, ev18, h⟩ := nmV_e h
        have hv18 : r32 v18 := by rw [ev18]; exact w32_r _
        refine g_iinc (n := 86) (lv' := [(2, vI v18), (0, .ref (ad 0)), (1, vI x1)]) C 2 dX9_doWork_83 rfl (Nat.le_of_ble_eq_true rfl) ev18 rfl rfl ?_
        refine g_goto C 62 dX9_doWork_86 (by decide) ?_
        refine g_lv [1, 2, 0] rfl ?_
        exact ih x1 v18 S hS hx1 hv18 h
      · rw [if_pos hc17] at h
        obtain ⟨v19, ev19, h⟩ := nmV_e h
        have hv19 : r32 v19 := by rw [ev19]; exact w32_r _
        refine g_iinc (n := 83) (lv' := [(1, vI v19), (0, .ref (ad 0)), (2, vI x2)]) C 1 dX9_doWork_80 rfl (Nat.le_of_ble_eq_true rfl) ev19 rfl rfl ?_
        obtain ⟨v20, ev20, h⟩ := nmV_e h
        have hv20 : r32 v20 := by rw [ev20]; exact w32_r _
        refine g_iinc (n := 86) (lv' := [(2, vI v20), (1, vI v19), (0, .ref (ad 0))]) C 2 dX9_doWork_83 rfl (Nat.le_of_ble_eq_true rfl) ev20 rfl rfl ?_
        refine g_goto C 62 dX9_doWork_86 (by decide) ?_
        refine g_lv [2, 1, 0] rfl ?_
        exact ih v19 v20 S hS hv19 hv20 h
def dn_X9_doWork_2 : Nat → Int → St → Option (St × Int)
  | 0, _, _ => none
  | n + 1, x1, S => (if S 0 19 ≤ x1 then dn_X9_doWork_62 FU 0 0 S else (if 0 ≤ x1 ∧ x1 < 60 then (if S 15 x1.toNat = 3 then (cal (dn_X9_hasBroken x1 S) fun S24 v25 => (if v25 = 0 then (nmV (w32 (x1 + 1)) fun v36 => dn_X9_doWork_2 n v36 S24) else (nmS (stU S24 15 x1.toNat 6) fun S28 => (cal (dn_X9_say 3 x1 (-1) S28) fun S29 v30 => (cal (dn_X9_free x1 1 S29) fun S32 v33 => (nmV (w32 (x1 + 1)) fun v35 => dn_X9_doWork_2 n v35 S32)))))) else (nmV (w32 (x1 + 1)) fun v23 => dn_X9_doWork_2 n v23 S)) else none))
set_option maxRecDepth 100000 in
set_option maxHeartbeats 4000000 in
theorem u_X9_doWork_2 {D : va_G} {t : T5} {ad : Nat → Nat} {S0 : St} {r0 : Int} {x : Mx} (C : CX (sM D t ad) mi_X9_doWork x) : ∀ (n : Nat) (x1 : Int) (S : St), RS S → (r32 x1) → dn_X9_doWork_2 n x1 S = some (S0, r0) → GW (sM D t ad) mi_X9_doWork (acV, S0, r0) x S 2 [(0, .ref (ad 0)), (1, vI x1)] [] := by
  intro n
  induction n with
  | zero =>
    intro x1 S hS hx1 h
    cases h
  | succ n ih =>
    intro x1 S hS hx1 h
    rw [dn_X9_doWork_2] at h
    refine g_iload_n (n := 3) C 1 dX9_doWork_2 rfl rfl ?_
    refine g_aload_n (n := 4) C 0 dX9_doWork_3 rfl rfl ?_
    refine g_getI (n := 7) C 0 19 rfl (Nat.le_of_ble_eq_true rfl) rfl rfl rfl (Nat.le_of_ble_eq_true rfl) in_X9_doWork_X9 (by decide +kernel) dX9_doWork_4 rfl ?_
    refine g_icmp_ge (n := 10) C 58 hx1 ((hS 0 19).2 (by decide)) dX9_doWork_7 (by decide) rfl (fun (hc1 : S 0 19 ≤ x1) => ?_) (fun (hc1 : ¬ (S 0 19 ≤ x1)) => ?_)
    · rw [if_pos hc1] at h
      refine g_iconst (n := 59) C dX9_doWork_58 rfl ?_
      refine g_istore_n (n := 60) (lv' := [(1, vI 0), (0, .ref (ad 0))]) C dX9_doWork_59 (Nat.le_of_ble_eq_true rfl) rfl rfl rfl ?_
      refine g_iconst (n := 61) C dX9_doWork_60 rfl ?_
      refine g_istore_n (n := 62) (lv' := [(2, vI 0), (1, vI 0), (0, .ref (ad 0))]) C dX9_doWork_61 (Nat.le_of_ble_eq_true rfl) rfl rfl rfl ?_
      refine g_lv [2, 1, 0] rfl ?_
      exact u_X9_doWork_62 C FU 0 0 S hS (by decide : r32 0) (by decide : r32 0) h
    · rw [if_neg hc1] at h
      refine g_aload_n (n := 11) C 0 dX9_doWork_10 rfl rfl ?_
      refine g_getC (n := 14) C 0 15 rfl (Nat.le_of_ble_eq_true rfl) rfl rfl rfl (Nat.le_of_ble_eq_true rfl) in_X9_doWork_X9 (by decide +kernel) dX9_doWork_11 rfl ?_
      refine g_iload_n (n := 15) C 1 dX9_doWork_14 rfl rfl ?_
      obtain ⟨hg21, h⟩ := gd_e h
      refine g_iald (n := 16) C 15 rfl (Nat.le_of_ble_eq_true rfl) rfl rfl hg21 hx1 dX9_doWork_15 rfl ?_
      refine g_iconst (n := 17) C dX9_doWork_16 rfl ?_
      refine g_icmp_ne (n := 20) C 52 ((hS 15 _).2 (tn_lt hg21 (by decide))) (by decide : r32 3) dX9_doWork_17 (by decide) rfl (fun (hc22 : ¬ (S 15 x1.toNat = 3)) => ?_) (fun (hc22 : S 15 x1.toNat = 3) => ?_)
      · rw [if_neg hc22] at h
        obtain ⟨v23, ev23, h⟩ := nmV_e h
        have hv23 : r32 v23 := by rw [ev23]; exact w32_r _
        refine g_iinc (n := 55) (lv' := [(1, vI v23), (0, .ref (ad 0))]) C 1 dX9_doWork_52 rfl (Nat.le_of_ble_eq_true rfl) ev23 rfl rfl ?_
        refine g_goto C 2 dX9_doWork_55 (by decide) ?_
        refine g_lv [1, 0] rfl ?_
        exact ih v23 S hS hv23 h
      · rw [if_pos hc22] at h
        refine g_aload_n (n := 21) C 0 dX9_doWork_20 rfl rfl ?_
        refine g_iload_n (n := 22) C 1 dX9_doWork_21 rfl rfl ?_
        obtain ⟨S24, v25, hq26, h⟩ := cal_e h
        refine g_callV (n := 25) (As := [vI x1]) (rest := []) C 0 1 (Nat.le_of_ble_eq_true rfl) rfl rfl (c_X9_hasBroken hS hx1 hq26) gX9_doWork_X9_hasBroken rfl ⟨rfl, rfl⟩ (by decide +kernel) ⟨Nat.le_of_ble_eq_true rfl, Nat.le_of_ble_eq_true rfl⟩ rfl rfl rfl (Nat.le_of_ble_eq_true rfl) dX9_doWork_22 rfl (fun hS24 hv25 => ?_)
        show GW (sM D t ad) mi_X9_doWork (acV, S0, r0) x S24 25 _ [vI v25]
        refine g_if_ne (n := 28) C 31 (z_r32 hv25) dX9_doWork_25 (by decide) rfl (fun (hc27 : ¬ (v25 = 0)) => ?_) (fun (hc27 : v25 = 0) => ?_)
        · rw [if_neg hc27] at h
          refine g_aload_n (n := 32) C 0 dX9_doWork_31 rfl rfl ?_
          refine g_getC (n := 35) C 0 15 rfl (Nat.le_of_ble_eq_true rfl) rfl rfl rfl (Nat.le_of_ble_eq_true rfl) in_X9_doWork_X9 (by decide +kernel) dX9_doWork_32 rfl ?_
          refine g_iload_n (n := 36) C 1 dX9_doWork_35 rfl rfl ?_
          refine g_bipush (n := 38) C dX9_doWork_36 (by decide +kernel) rfl ?_
          obtain ⟨S28, eS28, h⟩ := nmS_e h
          have hS28 : RS S28 := by rw [eS28]; exact RS_i hS24 (by decide : r32 6)
          refine g_iast (n := 39) C 15 rfl (Nat.le_of_ble_eq_true rfl) rfl rfl hg21 hx1 eS28 dX9_doWork_38 rfl ?_
          refine g_aload_n (n := 40) C 0 dX9_doWork_39 rfl rfl ?_
          refine g_iconst (n := 41) C dX9_doWork_40 rfl ?_
          refine g_iload_n (n := 42) C 1 dX9_doWork_41 rfl rfl ?_
          refine g_iconst (n := 43) C dX9_doWork_42 rfl ?_
          obtain ⟨S29, v30, hq31, h⟩ := cal_e h
          refine g_callV (n := 46) (As := [vI 3, vI x1, vI (-1)]) (rest := []) C 0 3 (Nat.le_of_ble_eq_true rfl) rfl rfl (c_X9_say hS28 (by decide : r32 3) hx1 (by decide : r32 (-1)) hq31) gX9_doWork_X9_say rfl ⟨rfl, rfl⟩ (by decide +kernel) ⟨Nat.le_of_ble_eq_true rfl, Nat.le_of_ble_eq_true rfl⟩ rfl rfl rfl (Nat.le_of_ble_eq_true rfl) dX9_doWork_43 rfl (fun hS29 hv30 => ?_)
          show GW (sM D t ad) mi_X9_doWork (acV, S0, r0) x S29 46 _ []
          refine g_aload_n (n := 47) C 0 dX9_doWork_46 rfl rfl ?_
          refine g_iload_n (n := 48) C 1 dX9_doWork_47 rfl rfl ?_
          refine g_iconst (n := 49) C dX9_doWork_48 rfl ?_
          obtain ⟨S32, v33, hq34, h⟩ := cal_e h
          refine g_callV (n := 52) (As := [vI x1, vI 1]) (rest := []) C 0 2 (Nat.le_of_ble_eq_true rfl) rfl rfl (c_X9_free hS29 hx1 (by decide : r32 1) hq34) gX9_doWork_X9_free rfl ⟨rfl, rfl⟩ (by decide +kernel) ⟨Nat.le_of_ble_eq_true rfl, Nat.le_of_ble_eq_true rfl⟩ rfl rfl rfl (Nat.le_of_ble_eq_true rfl) dX9_doWork_49 rfl (fun hS32 hv33 => ?_)
          show GW (sM D t ad) mi_X9_doWork (acV, S0, r0) x S32 52 _ []
          obtain ⟨v35, ev35, h⟩ := nmV_e h
          have hv35 : r32 v35 := by rw [ev35]; exact w32_r _
          refine g_iinc (n := 55) (lv' := [(1, vI v35), (0, .ref (ad 0))]) C 1 dX9_doWork_52 rfl (Nat.le_of_ble_eq_true rfl) ev35 rfl rfl ?_
          refine g_goto C 2 dX9_doWork_55 (by decide) ?_
          refine g_lv [1, 0] rfl ?_
          exact ih v35 S32 hS32 hv35 h
        · rw [if_pos hc27] at h
          refine g_goto C 52 dX9_doWork_28 (by decide) ?_
          obtain ⟨v36, ev36, h⟩ := nmV_e h
          have hv36 : r32 v36 := by rw [ev36]; exact w32_r _
          refine g_iinc (n := 55) (lv' := [(1, vI v36), (0, .ref (ad 0))]) C 1 dX9_doWork_52 rfl (Nat.le_of_ble_eq_true rfl) ev36 rfl rfl ?_
          refine g_goto C 2 dX9_doWork_55 (by decide) ?_
          refine g_lv [1, 0] rfl ?_
          exact ih v36 S24 hS24 hv36 h
def dn_X9_doWork (S : St) : Option (St × Int) := dn_X9_doWork_2 FU 0 S
set_option maxRecDepth 100000 in
set_option maxHeartbeats 4000000 in
theorem c_X9_doWork {l : Launch} {D : va_G} {t : T5} {ad : Nat → Nat} {S S0 : St} {r0 : Int} (hS : RS S) (h : dn_X9_doWork S = some (S0, r0)) : Mc l (sM D t ad) yX9_doWork wsX9_doWork rm_X9_doWork [.ref (ad 0)] acV S S0 r0 := by
  refine Mc_of (cc := cX9_doWork) (nL := 4) (ret := none) (by decide +kernel) rfl (Nat.le_of_ble_eq_true rfl) (lv := [(0, .ref (ad 0))]) rfl (fun x C _ => ?_)
  unfold dn_X9_doWork at h
  show GW (sM D t ad) mi_X9_doWork (acV, S0, r0) x S 0 [(0, .ref (ad 0))] []
  refine g_iconst (n := 1) C dX9_doWork_0 rfl ?_
  refine g_istore_n (n := 2) (lv' := [(1, vI 0), (0, .ref (ad 0))]) C dX9_doWork_1 (Nat.le_of_ble_eq_true rfl) rfl rfl rfl ?_
  refine g_lv [1, 0] rfl ?_
  exact u_X9_doWork_2 C FU 0 S hS (by decide : r32 0) h
-- RX9 finish
abbrev rm_X9_finish : Room := ({ frames := 3, cells := 0, slots := 0, locals := 68 } : Room)
abbrev mi_X9_finish : Mi := (cX9_finish, 4, RX9, wsX9_finish, rm_X9_finish, none)
set_option maxRecDepth 20000 in
theorem in_X9_finish_X9 : ∀ w ∈ u_ws RX9 TX9 39, w ∈ wsX9_finish := by decide +kernel
def dn_X9_finish_150 (k138 : Int → St → Option (St × Int)) : Nat → Int → Int → Int → St → Option (St × Int)
  | 0, _, _, _, _ => none
  | n + 1, x1, x2, x3, S => (if 12 ≤ x3 then (if x2 = 0 then (nmV (w32 (x1 + 1)) fun v14 => k138 v14 S) else (if 0 ≤ x1 ∧ x1 < 60 then (nmS (stU S 15 x1.toNat 7) fun S6 => (cal (dn_X9_say 4 x1 (-1) S6) fun S7 v8 => (cal (dn_X9_free x1 0 S7) fun S10 v11 => (nmV (w32 (x1 + 1)) fun v13 => k138 v13 S10)))) else none)) else (if x2 = 0 then (if 0 ≤ x3 ∧ x3 < 12 then (if S 5 x3.toNat = 4 then (if S 7 x3.toNat = x1 then (if w32 ((S 0 4) - (S 9 x3.toNat)) < S 1 3 then (nmV (w32 (x3 + 1)) fun v23 => dn_X9_finish_150 k138 n x1 0 v23 S) else (nmV (w32 (x3 + 1)) fun v24 => dn_X9_finish_150 k138 n x1 1 v24 S)) else (nmV (w32 (x3 + 1)) fun v21 => dn_X9_finish_150 k138 n x1 0 v21 S)) else (nmV (w32 (x3 + 1)) fun v19 => dn_X9_finish_150 k138 n x1 0 v19 S)) else none) else (nmV (w32 (x3 + 1)) fun v16 => dn_X9_finish_150 k138 n x1 1 v16 S)))
set_option maxRecDepth 100000 in
set_option maxHeartbeats 4000000 in
theorem u_X9_finish_150 {D : va_G} {t : T5} {ad : Nat → Nat} {S0 : St} {r0 : Int} {x : Mx} (C : CX (sM D t ad) mi_X9_finish x) {k138 : Int → St → Option (St × Int)} (hk138 : ∀ (x1 : Int) (S : St), RS S → (r32 x1) → k138 x1 S = some (S0, r0) → GW (sM D t ad) mi_X9_finish (acV, S0, r0) x S 138 [(0, .ref (ad 0)), (1, vI x1)] []) : ∀ (n : Nat) (x1 : Int) (x2 : Int) (x3 : Int) (S : St), RS S → (r32 x1) → (r32 x2) → (r32 x3) → dn_X9_finish_150 k138 n x1 x2 x3 S = some (S0, r0) → GW (sM D t ad) mi_X9_finish (acV, S0, r0) x S 150 [(0, .ref (ad 0)), (1, vI x1), (2, vI x2), (3, vI x3)] [] := by
  intro n
  induction n with
  | zero =>
    intro x1 x2 x3 S hS hx1 hx2 hx3 h
    cases h
  | succ n ih =>
    intro x1 x2 x3 S hS hx1 hx2 hx3 h
    rw [dn_X9_finish_150] at h
    refine g_iload_n (n := 151) C 3 dX9_finish_150 rfl rfl ?_
    refine g_bipush (n := 153) C dX9_finish_151 (by decide +kernel) rfl ?_
    refine g_icmp_ge (n := 156) C 212 hx3 (by decide : r32 12) dX9_finish_153 (by decide) rfl (fun (hc3 : 12 ≤ x3) => ?_) (fun (hc3 : ¬ (12 ≤ x3)) => ?_)
    · rw [if_pos hc3] at h
      refine g_iload_n (n := 213) C 2 dX9_finish_212 rfl rfl ?_
      refine g_if_ne (n := 216) C 219 hx2 dX9_finish_213 (by decide) rfl (fun (hc4 : ¬ (x2 = 0)) => ?_) (fun (hc4 : x2 = 0) => ?_)
      · rw [if_neg hc4] at h
        refine g_aload_n (n := 220) C 0 dX9_finish_219 rfl rfl ?_
        refine g_getC (n := 223) C 0 15 rfl (Nat.le_of_ble_eq_true rfl) rfl rfl rfl (Nat.le_of_ble_eq_true rfl) in_X9_finish_X9 (by decide +kernel) dX9_finish_220 rfl ?_
        refine g_iload_n (n := 224) C 1 dX9_finish_223 rfl rfl ?_
        refine g_bipush (n := 226) C dX9_finish_224 (by decide +kernel) rfl ?_
        obtain ⟨hg5, h⟩ := gd_e h
        obtain ⟨S6, eS6, h⟩ := nmS_e h
        have hS6 : RS S6 := by rw [eS6]; exact RS_i hS (by decide : r32 7)
        refine g_iast (n := 227) C 15 rfl (Nat.le_of_ble_eq_true rfl) rfl rfl hg5 hx1 eS6 dX9_finish_226 rfl ?_
        refine g_aload_n (n := 228) C 0 dX9_finish_227 rfl rfl ?_
        refine g_iconst (n := 229) C dX9_finish_228 rfl ?_
        refine g_iload_n (n := 230) C 1 dX9_finish_229 rfl rfl ?_
        refine g_iconst (n := 231) C dX9_finish_230 rfl ?_
        obtain ⟨S7, v8, hq9, h⟩ := cal_e h
        refine g_callV (n := 234) (As := [vI 4, vI x1, vI (-1)]) (rest := []) C 0 3 (Nat.le_of_ble_eq_true rfl) rfl rfl (c_X9_say hS6 (by decide : r32 4) hx1 (by decide : r32 (-1)) hq9) gX9_finish_X9_say rfl ⟨rfl, rfl⟩ (by decide +kernel) ⟨Nat.le_of_ble_eq_true rfl, Nat.le_of_ble_eq_true rfl⟩ rfl rfl rfl (Nat.le_of_ble_eq_true rfl) dX9_finish_231 rfl (fun hS7 hv8 => ?_)
        show GW (sM D t ad) mi_X9_finish (acV, S0, r0) x S7 234 _ []
        refine g_aload_n (n := 235) C 0 dX9_finish_234 rfl rfl ?_
        refine g_iload_n (n := 236) C 1 dX9_finish_235 rfl rfl ?_
        refine g_iconst (n := 237) C dX9_finish_236 rfl ?_
        obtain ⟨S10, v11, hq12, h⟩ := cal_e h
        refine g_callV (n := 240) (As := [vI x1, vI 0]) (rest := []) C 0 2 (Nat.le_of_ble_eq_true rfl) rfl rfl (c_X9_free hS7 hx1 (by decide : r32 0) hq12) gX9_finish_X9_free rfl ⟨rfl, rfl⟩ (by decide +kernel) ⟨Nat.le_of_ble_eq_true rfl, Nat.le_of_ble_eq_true rfl⟩ rfl rfl rfl (Nat.le_of_ble_eq_true rfl) dX9_finish_237 rfl (fun hS10 hv11 => ?_)
        show GW (sM D t ad) mi_X9_finish (acV, S0, r0) x S10 240 _ []
        obtain ⟨v13, ev13, h⟩ := nmV_e h
        have hv13 : r32 v13 := by rw [ev13]; exact w32_r _
        refine g_iinc (n := 243) (lv' := [(1, vI v13), (0, .ref (ad 0)), (2, vI x2), (3, vI x3)]) C 1 dX9_finish_240 rfl (Nat.le_of_ble_eq_true rfl) ev13 rfl rfl ?_
        refine g_goto C 138 dX9_finish_243 (by decide) ?_
        refine g_lv [1, 0] rfl ?_
        exact hk138 v13 S10 hS10 hv13 h
      · rw [if_pos hc4] at h
        refine g_goto C 240 dX9_finish_216 (by decide) ?_
        obtain ⟨v14, ev14, h⟩ := nmV_e h
        have hv14 : r32 v14 := by rw [ev14]; exact w32_r _
        refine g_iinc (n := 243) (lv' := [(1, vI v14), (0, .ref (ad 0)), (2, vI x2), (3, vI x3)]) C 1 dX9_finish_240 rfl (Nat.le_of_ble_eq_true rfl) ev14 rfl rfl ?_
        refine g_goto C 138 dX9_finish_243 (by decide) ?_
        refine g_lv [1, 0] rfl ?_
        exact hk138 v14 S hS hv14 h
    · rw [if_neg hc3] at h
      refine g_iload_n (n := 157) C 2 dX9_finish_156 rfl rfl ?_
      refine g_if_ne (n := 160) C 200 hx2 dX9_finish_157 (by decide) rfl (fun (hc15 : ¬ (x2 = 0)) => ?_) (fun (hc15 : x2 = 0) => ?_)
      · rw [if_neg hc15] at h
        refine g_iconst (n := 201) C dX9_finish_200 rfl ?_
        refine g_goto C 205 dX9_finish_201 (by decide) ?_
        refine g_istore_n (n := 206) (lv' := [(2, vI 1), (0, .ref (ad 0)), (1, vI x1), (3, vI x3)]) C dX9_finish_205 (Nat.le_of_ble_eq_true rfl) rfl rfl rfl ?_
        obtain ⟨v16, ev16, h⟩ := nmV_e h
        have hv16 : r32 v16 := by rw [ev16]; exact w32_r _
        refine g_iinc (n := 209) (lv' := [(3, vI v16), (2, vI 1), (0, .ref (ad 0)), (1, vI x1)]) C 3 dX9_finish_206 rfl (Nat.le_of_ble_eq_true rfl) ev16 rfl rfl ?_
        refine g_goto C 150 dX9_finish_209 (by decide) ?_
        refine g_lv [2, 3, 1, 0] rfl ?_
        exact ih x1 1 v16 S hS hx1 (by decide : r32 1) hv16 h
      · rw [if_pos hc15] at h
        refine g_aload_n (n := 161) C 0 dX9_finish_160 rfl rfl ?_
        refine g_getC (n := 164) C 0 5 rfl (Nat.le_of_ble_eq_true rfl) rfl rfl rfl (Nat.le_of_ble_eq_true rfl) in_X9_finish_X9 (by decide +kernel) dX9_finish_161 rfl ?_
        refine g_iload_n (n := 165) C 3 dX9_finish_164 rfl rfl ?_
        obtain ⟨hg17, h⟩ := gd_e h
        refine g_iald (n := 166) C 5 rfl (Nat.le_of_ble_eq_true rfl) rfl rfl hg17 hx3 dX9_finish_165 rfl ?_
        refine g_iconst (n := 167) C dX9_finish_166 rfl ?_
        refine g_icmp_ne (n := 170) C 204 ((hS 5 _).2 (tn_lt hg17 (by decide))) (by decide : r32 4) dX9_finish_167 (by decide) rfl (fun (hc18 : ¬ (S 5 x3.toNat = 4)) => ?_) (fun (hc18 : S 5 x3.toNat = 4) => ?_)
        · rw [if_neg hc18] at h
          refine g_iconst (n := 205) C dX9_finish_204 rfl ?_
          refine g_istore_n (n := 206) (lv' := [(2, vI 0), (0, .ref (ad 0)), (1, vI x1), (3, vI x3)]) C dX9_finish_205 (Nat.le_of_ble_eq_true rfl) rfl rfl rfl ?_
          obtain ⟨v19, ev19, h⟩ := nmV_e h
          have hv19 : r32 v19 := by rw [ev19]; exact w32_r _
          refine g_iinc (n := 209) (lv' := [(3, vI v19), (2, vI 0), (0, .ref (ad 0)), (1, vI x1)]) C 3 dX9_finish_206 rfl (Nat.le_of_ble_eq_true rfl) ev19 rfl rfl ?_
          refine g_goto C 150 dX9_finish_209 (by decide) ?_
          refine g_lv [2, 3, 1, 0] rfl ?_
          exact ih x1 0 v19 S hS hx1 (by decide : r32 0) hv19 h
        · rw [if_pos hc18] at h
          refine g_aload_n (n := 171) C 0 dX9_finish_170 rfl rfl ?_
          refine g_getC (n := 174) C 0 7 rfl (Nat.le_of_ble_eq_true rfl) rfl rfl rfl (Nat.le_of_ble_eq_true rfl) in_X9_finish_X9 (by decide +kernel) dX9_finish_171 rfl ?_
          refine g_iload_n (n := 175) C 3 dX9_finish_174 rfl rfl ?_
          refine g_iald (n := 176) C 7 rfl (Nat.le_of_ble_eq_true rfl) rfl rfl hg17 hx3 dX9_finish_175 rfl ?_
          refine g_iload_n (n := 177) C 1 dX9_finish_176 rfl rfl ?_
          refine g_icmp_ne (n := 180) C 204 ((hS 7 _).2 (tn_lt hg17 (by decide))) hx1 dX9_finish_177 (by decide) rfl (fun (hc20 : ¬ (S 7 x3.toNat = x1)) => ?_) (fun (hc20 : S 7 x3.toNat = x1) => ?_)
          · rw [if_neg hc20] at h
            refine g_iconst (n := 205) C dX9_finish_204 rfl ?_
            refine g_istore_n (n := 206) (lv' := [(2, vI 0), (0, .ref (ad 0)), (1, vI x1), (3, vI x3)]) C dX9_finish_205 (Nat.le_of_ble_eq_true rfl) rfl rfl rfl ?_
            obtain ⟨v21, ev21, h⟩ := nmV_e h
            have hv21 : r32 v21 := by rw [ev21]; exact w32_r _
            refine g_iinc (n := 209) (lv' := [(3, vI v21), (2, vI 0), (0, .ref (ad 0)), (1, vI x1)]) C 3 dX9_finish_206 rfl (Nat.le_of_ble_eq_true rfl) ev21 rfl rfl ?_
            refine g_goto C 150 dX9_finish_209 (by decide) ?_
            refine g_lv [2, 3, 1, 0] rfl ?_
            exact ih x1 0 v21 S hS hx1 (by decide : r32 0) hv21 h
          · rw [if_pos hc20] at h
            refine g_aload_n (n := 181) C 0 dX9_finish_180 rfl rfl ?_
            refine g_getI (n := 184) C 0 4 rfl (Nat.le_of_ble_eq_true rfl) rfl rfl rfl (Nat.le_of_ble_eq_true rfl) in_X9_finish_X9 (by decide +kernel) dX9_finish_181 rfl ?_
            refine g_aload_n (n := 185) C 0 dX9_finish_184 rfl rfl ?_
            refine g_getC (n := 188) C 0 9 rfl (Nat.le_of_ble_eq_true rfl) rfl rfl rfl (Nat.le_of_ble_eq_true rfl) in_X9_finish_X9 (by decide +kernel) dX9_finish_185 rfl ?_
            refine g_iload_n (n := 189) C 3 dX9_finish_188 rfl rfl ?_
            refine g_iald (n := 190) C 9 rfl (Nat.le_of_ble_eq_true rfl) rfl rfl hg17 hx3 dX9_finish_189 rfl ?_
            refine g_isub (n := 191) C dX9_finish_190 rfl ?_
            refine g_aload_n (n := 192) C 0 dX9_finish_191 rfl rfl ?_
            refine g_getC (n := 195) C 0 0 rfl (Nat.le_of_ble_eq_true rfl) rfl rfl rfl (Nat.le_of_ble_eq_true rfl) in_X9_finish_X9 (by decide +kernel) dX9_finish_192 rfl ?_
            refine g_iconst (n := 196) C dX9_finish_195 rfl ?_
            refine g_iald (n := 197) C 1 rfl (Nat.le_of_ble_eq_true rfl) rfl rfl (by decide : 0 ≤ (3 : Int) ∧ (3 : Int) < 6) (by decide : r32 3) dX9_finish_196 rfl ?_
            refine g_icmp_lt (n := 200) C 204 (w32_r _) ((hS 1 _).2 (tn_lt (by decide : 0 ≤ (3 : Int) ∧ (3 : Int) < 6) (by decide))) dX9_finish_197 (by decide) rfl (fun (hc22 : w32 ((S 0 4) - (S 9 x3.toNat)) < S 1 3) => ?_) (fun (hc22 : ¬ (w32 ((S 0 4) - (S 9 x3.toNat)) < S 1 3)) => ?_)
            · rw [if_pos hc22] at h
              refine g_iconst (n := 205) C dX9_finish_204 rfl ?_
              refine g_istore_n (n := 206) (lv' := [(2, vI 0), (0, .ref (ad 0)), (1, vI x1), (3, vI x3)]) C dX9_finish_205 (Nat.le_of_ble_eq_true rfl) rfl rfl rfl ?_
              obtain ⟨v23, ev23, h⟩ := nmV_e h
              have hv23 : r32 v23 := by rw [ev23]; exact w32_r _
              refine g_iinc (n := 209) (lv' := [(3, vI v23), (2, vI 0), (0, .ref (ad 0)), (1, vI x1)]) C 3 dX9_finish_206 rfl (Nat.le_of_ble_eq_true rfl) ev23 rfl rfl ?_
              refine g_goto C 150 dX9_finish_209 (by decide) ?_
              refine g_lv [2, 3, 1, 0] rfl ?_
              exact ih x1 0 v23 S hS hx1 (by decide : r32 0) hv23 h
            · rw [if_neg hc22] at h
              refine g_iconst (n := 201) C dX9_finish_200 rfl ?_
              refine g_goto C 205 dX9_finish_201 (by decide) ?_
              refine g_istore_n (n := 206) (lv' := [(2, vI 1), (0, .ref (ad 0)), (1, vI x1), (3, vI x3)]) C dX9_finish_205 (Nat.le_of_ble_eq_true rfl) rfl rfl rfl ?_
              obtain ⟨v24, ev24, h⟩ := nmV_e h
              have hv24 : r32 v24 := by rw [ev24]; exact w32_r _
              refine g_iinc (n := 209) (lv' := [(3, vI v24), (2, vI 1), (0, .ref (ad 0)), (1, vI x1)]) C 3 dX9_finish_206 rfl (Nat.le_of_ble_eq_true rfl) ev24 rfl rfl ?_
              refine g_goto C 150 dX9_finish_209 (by decide) ?_
              refine g_lv [2, 3, 1, 0] rfl ?_
              exact ih x1 1 v24 S hS hx1 (by decide : r32 1) hv24 h
def dn_X9_finish_138 : Nat → Int → St → Option (St × Int)
  | 0, _, _ => none
  | n + 1, x1, S => (if S 0 19 ≤ x1 then some (S, 0) else dn_X9_finish_150 (fun x1_ S_ => dn_X9_finish_138 n x1_ S_) FU x1 0 0 S)
set_option maxRecDepth 100000 in
set_option maxHeartbeats 4000000 in
theorem u_X9_finish_138 {D : va_G} {t : T5} {ad : Nat → Nat} {S0 : St} {r0 : Int} {x : Mx} (C : CX (sM D t ad) mi_X9_finish x) : ∀ (n : Nat) (x1 : Int) (S : St), RS S → (r32 x1) → dn_X9_finish_138 n x1 S = some (S0, r0) → GW (sM D t ad) mi_X9_finish (acV, S0, r0) x S 138 [(0, .ref (ad 0)), (1, vI x1)] [] := by
  intro n
  induction n with
  | zero =>
    intro x1 S hS hx1 h
    cases h
  | succ n ih =>
    intro x1 S hS hx1 h
    rw [dn_X9_finish_138] at h
    refine g_iload_n (n := 139) C 1 dX9_finish_138 rfl rfl ?_
    refine g_aload_n (n := 140) C 0 dX9_finish_139 rfl rfl ?_
    refine g_getI (n := 143) C 0 19 rfl (Nat.le_of_ble_eq_true rfl) rfl rfl rfl (Nat.le_of_ble_eq_true rfl) in_X9_finish_X9 (by decide +kernel) dX9_finish_140 rfl ?_
    refine g_icmp_ge (n := 146) C 246 hx1 ((hS 0 19).2 (by decide)) dX9_finish_143 (by decide) rfl (fun (hc2 : S 0 19 ≤ x1) => ?_) (fun (hc2 : ¬ (S 0 19 ≤ x1)) => ?_)
    · rw [if_pos hc2] at h
      exact g_vret C rfl h rfl trivial hS dX9_finish_246
    · rw [if_neg hc2] at h
      refine g_iconst (n := 147) C dX9_finish_146 rfl ?_
      refine g_istore_n (n := 148) (lv' := [(2, vI 0), (0, .ref (ad 0)), (1, vI x1)]) C dX9_finish_147 (Nat.le_of_ble_eq_true rfl) rfl rfl rfl ?_
      refine g_iconst (n := 149) C dX9_finish_148 rfl ?_
      refine g_istore_n (n := 150) (lv' := [(3, vI 0), (2, vI 0), (0, .ref (ad 0)), (1, vI x1)]) C dX9_finish_149 (Nat.le_of_ble_eq_true rfl) rfl rfl rfl ?_
      refine g_lv [2, 3, 1, 0] rfl ?_
      exact u_X9_finish_150 C ih FU x1 0 0 S hS hx1 (by decide : r32 0) (by decide : r32 0) h
def dn_X9_finish_110 (k2 : Int → St → Option (St × Int)) (x1 : Int) (S : St) : Option (St × Int) := (if 0 ≤ x1 ∧ x1 < 60 then (nmS (stU S 15 x1.toNat 5) fun S32 => (cal (dn_X9_say 2 x1 (-1) S32) fun S33 v34 => (cal (dn_X9_free x1 0 S33) fun S36 v37 => (nmV (w32 (x1 + 1)) fun v39 => k2 v39 S36)))) else none)
set_option maxRecDepth 100000 in
set_option maxHeartbeats 4000000 in
theorem u_X9_finish_110 {D : va_G} {t : T5} {ad : Nat → Nat} {S0 : St} {r0 : Int} {x : Mx} (C : CX (sM D t ad) mi_X9_finish x) {k2 : Int → St → Option (St × Int)} (hk2 : ∀ (x1 : Int) (S : St), RS S → (r32 x1) → k2 x1 S = some (S0, r0) → GW (sM D t ad) mi_X9_finish (acV, S0, r0) x S 2 [(0, .ref (ad 0)), (1, vI x1)] []) : ∀ (x1 : Int) (S : St), RS S → (r32 x1) → dn_X9_finish_110 k2 x1 S = some (S0, r0) → GW (sM D t ad) mi_X9_finish (acV, S0, r0) x S 110 [(0, .ref (ad 0)), (1, vI x1)] [] := by
  intro x1 S hS hx1 h
  unfold dn_X9_finish_110 at h
  refine g_aload_n (n := 111) C 0 dX9_finish_110 rfl rfl ?_
  refine g_getC (n := 114) C 0 15 rfl (Nat.le_of_ble_eq_true rfl) rfl rfl rfl (Nat.le_of_ble_eq_true rfl) in_X9_finish_X9 (by decide +kernel) dX9_finish_111 rfl ?_
  refine g_iload_n (n := 115) C 1 dX9_finish_114 rfl rfl ?_
  refine g_iconst (n := 116) C dX9_finish_115 rfl ?_
  obtain ⟨hg31, h⟩ := gd_e h
  obtain ⟨S32, eS32, h⟩ := nmS_e h
  have hS32 : RS S32 := by rw [eS32]; exact RS_i hS (by decide : r32 5)
  refine g_iast (n := 117) C 15 rfl (Nat.le_of_ble_eq_true rfl) rfl rfl hg31 hx1 eS32 dX9_finish_116 rfl ?_
  refine g_aload_n (n := 118) C 0 dX9_finish_117 rfl rfl ?_
  refine g_iconst (n := 119) C dX9_finish_118 rfl ?_
  refine g_iload_n (n := 120) C 1 dX9_finish_119 rfl rfl ?_
  refine g_iconst (n := 121) C dX9_finish_120 rfl ?_
  obtain ⟨S33, v34, hq35, h⟩ := cal_e h
  refine g_callV (n := 124) (As := [vI 2, vI x1, vI (-1)]) (rest := []) C 0 3 (Nat.le_of_ble_eq_true rfl) rfl rfl (c_X9_say hS32 (by decide : r32 2) hx1 (by decide : r32 (-1)) hq35) gX9_finish_X9_say rfl ⟨rfl, rfl⟩ (by decide +kernel) ⟨Nat.le_of_ble_eq_true rfl, Nat.le_of_ble_eq_true rfl⟩ rfl rfl rfl (Nat.le_of_ble_eq_true rfl) dX9_finish_121 rfl (fun hS33 hv34 => ?_)
  show GW (sM D t ad) mi_X9_finish (acV, S0, r0) x S33 124 _ []
  refine g_aload_n (n := 125) C 0 dX9_finish_124 rfl rfl ?_
  refine g_iload_n (n := 126) C 1 dX9_finish_125 rfl rfl ?_
  refine g_iconst (n := 127) C dX9_finish_126 rfl ?_
  obtain ⟨S36, v37, hq38, h⟩ := cal_e h
  refine g_callV (n := 130) (As := [vI x1, vI 0]) (rest := []) C 0 2 (Nat.le_of_ble_eq_true rfl) rfl rfl (c_X9_free hS33 hx1 (by decide : r32 0) hq38) gX9_finish_X9_free rfl ⟨rfl, rfl⟩ (by decide +kernel) ⟨Nat.le_of_ble_eq_true rfl, Nat.le_of_ble_eq_true rfl⟩ rfl rfl rfl (Nat.le_of_ble_eq_true rfl) dX9_finish_127 rfl (fun hS36 hv37 => ?_)
  show GW (sM D t ad) mi_X9_finish (acV, S0, r0) x S36 130 _ []
  obtain ⟨v39, ev39, h⟩ := nmV_e h
  have hv39 : r32 v39 := by rw [ev39]; exact w32_r _
  refine g_iinc (n := 133) (lv' := [(1, vI v39), (0, .ref (ad 0))]) C 1 dX9_finish_130 rfl (Nat.le_of_ble_eq_true rfl) ev39 rfl rfl ?_
  refine g_goto C 2 dX9_finish_133 (by decide) ?_
  refine g_lv [1, 0] rfl ?_
  exact hk2 v39 S36 hS36 hv39 h
def dn_X9_finish_2 : Nat → Int → St → Option (St × Int)
  | 0, _, _ => none
  | n + 1, x1, S => (if S 0 19 ≤ x1 then dn_X9_finish_138 FU 0 S else (if 0 ≤ x1 ∧ x1 < 60 then (if S 15 x1.toNat = 3 then (if S 16 x1.toNat ≤ 0 then (if S 10 x1.toNat = 1 then (nmS (stU S 15 x1.toNat 4) fun S46 => (nmV (w32 (x1 + 1)) fun v47 => dn_X9_finish_2 n v47 S46)) else (if S 10 x1.toNat = 2 then (if S 18 x1.toNat = 0 then (nmS (stU S 18 x1.toNat 1) fun S41 => (nmS (stU S41 15 x1.toNat 1) fun S42 => (nmS (stU S42 17 x1.toNat (S42 0 4)) fun S43 => (nmS (stU S43 16 x1.toNat (S43 13 x1.toNat)) fun S44 => (nmV (w32 (x1 + 1)) fun v45 => dn_X9_finish_2 n v45 S44))))) else dn_X9_finish_110 (fun x1_ S_ => dn_X9_finish_2 n x1_ S_) x1 S) else dn_X9_finish_110 (fun x1_ S_ => dn_X9_finish_2 n x1_ S_) x1 S)) else (nmV (w32 (x1 + 1)) fun v48 => dn_X9_finish_2 n v48 S)) else (nmV (w32 (x1 + 1)) fun v27 => dn_X9_finish_2 n v27 S)) else none))
set_option maxRecDepth 100000 in
set_option maxHeartbeats 4000000 in
theorem u_X9_finish_2 {D : va_G} {t : T5} {ad : Nat → Nat} {S0 : St} {r0 : Int} {x : Mx} (C : CX (sM D t ad) mi_X9_finish x) : ∀ (n : Nat) (x1 : Int) (S : St), RS S → (r32 x1) → dn_X9_finish_2 n x1 S = some (S0, r0) → GW (sM D t ad) mi_X9_finish (acV, S0, r0) x S 2 [(0, .ref (ad 0)), (1, vI x1)] [] := by
  intro n
  induction n with
  | zero =>
    intro x1 S hS hx1 h
    cases h
  | succ n ih =>
    intro x1 S hS hx1 h
    rw [dn_X9_finish_2] at h
    refine g_iload_n (n := 3) C 1 dX9_finish_2 rfl rfl ?_
    refine g_aload_n (n := 4) C 0 dX9_finish_3 rfl rfl ?_
    refine g_getI (n := 7) C 0 19 rfl (Nat.le_of_ble_eq_true rfl) rfl rfl rfl (Nat.le_of_ble_eq_true rfl) in_X9_finish_X9 (by decide +kernel) dX9_finish_4 rfl ?_
    refine g_icmp_ge (n := 10) C 136 hx1 ((hS 0 19).2 (by decide)) dX9_finish_7 (by decide) rfl (fun (hc1 : S 0 19 ≤ x1) => ?_) (fun (hc1 : ¬ (S 0 19 ≤ x1)) => ?_)
    · rw [if_pos hc1] at h
      refine g_iconst (n := 137) C dX9_finish_136 rfl ?_
      refine g_istore_n (n := 138) (lv' := [(1, vI 0), (0, .ref (ad 0))]) C dX9_finish_137 (Nat.le_of_ble_eq_true rfl) rfl rfl rfl ?_
      refine g_lv [1, 0] rfl ?_
      exact u_X9_finish_138 C FU 0 S hS (by decide : r32 0) h
    · rw [if_neg hc1] at h
      refine g_aload_n (n := 11) C 0 dX9_finish_10 rfl rfl ?_
      refine g_getC (n := 14) C 0 15 rfl (Nat.le_of_ble_eq_true rfl) rfl rfl rfl (Nat.le_of_ble_eq_true rfl) in_X9_finish_X9 (by decide +kernel) dX9_finish_11 rfl ?_
      refine g_iload_n (n := 15) C 1 dX9_finish_14 rfl rfl ?_
      obtain ⟨hg25, h⟩ := gd_e h
      refine g_iald (n := 16) C 15 rfl (Nat.le_of_ble_eq_true rfl) rfl rfl hg25 hx1 dX9_finish_15 rfl ?_
      refine g_iconst (n := 17) C dX9_finish_16 rfl ?_
      refine g_icmp_ne (n := 20) C 130 ((hS 15 _).2 (tn_lt hg25 (by decide))) (by decide : r32 3) dX9_finish_17 (by decide) rfl (fun (hc26 : ¬ (S 15 x1.toNat = 3)) => ?_) (fun (hc26 : S 15 x1.toNat = 3) => ?_)
      · rw [if_neg hc26] at h
        obtain ⟨v27, ev27, h⟩ := nmV_e h
        have hv27 : r32 v27 := by rw [ev27]; exact w32_r _
        refine g_iinc (n := 133) (lv' := [(1, vI v27), (0, .ref (ad 0))]) C 1 dX9_finish_130 rfl (Nat.le_of_ble_eq_true rfl) ev27 rfl rfl ?_
        refine g_goto C 2 dX9_finish_133 (by decide) ?_
        refine g_lv [1, 0] rfl ?_
        exact ih v27 S hS hv27 h
      · rw [if_pos hc26] at h
        refine g_aload_n (n := 21) C 0 dX9_finish_20 rfl rfl ?_
        refine g_getC (n := 24) C 0 16 rfl (Nat.le_of_ble_eq_true rfl) rfl rfl rfl (Nat.le_of_ble_eq_true rfl) in_X9_finish_X9 (by decide +kernel) dX9_finish_21 rfl ?_
        refine g_iload_n (n := 25) C 1 dX9_finish_24 rfl rfl ?_
        refine g_iald (n := 26) C 16 rfl (Nat.le_of_ble_eq_true rfl) rfl rfl hg25 hx1 dX9_finish_25 rfl ?_
        refine g_if_le (n := 29) C 32 ((hS 16 _).2 (tn_lt hg25 (by decide))) dX9_finish_26 (by decide) rfl (fun (hc28 : S 16 x1.toNat ≤ 0) => ?_) (fun (hc28 : ¬ (S 16 x1.toNat ≤ 0)) => ?_)
        · rw [if_pos hc28] at h
          refine g_aload_n (n := 33) C 0 dX9_finish_32 rfl rfl ?_
          refine g_getC (n := 36) C 0 10 rfl (Nat.le_of_ble_eq_true rfl) rfl rfl rfl (Nat.le_of_ble_eq_true rfl) in_X9_finish_X9 (by decide +kernel) dX9_finish_33 rfl ?_
          refine g_iload_n (n := 37) C 1 dX9_finish_36 rfl rfl ?_
          refine g_iald (n := 38) C 10 rfl (Nat.le_of_ble_eq_true rfl) rfl rfl hg25 hx1 dX9_finish_37 rfl ?_
          refine g_iconst (n := 39) C dX9_finish_38 rfl ?_
          refine g_icmp_ne (n := 42) C 52 ((hS 10 _).2 (tn_lt hg25 (by decide))) (by decide : r32 1) dX9_finish_39 (by decide) rfl (fun (hc29 : ¬ (S 10 x1.toNat = 1)) => ?_) (fun (hc29 : S 10 x1.toNat = 1) => ?_)
          · rw [if_neg hc29] at h
            refine g_aload_n (n := 53) C 0 dX9_finish_52 rfl rfl ?_
            refine g_getC (n := 56) C 0 10 rfl (Nat.le_of_ble_eq_true rfl) rfl rfl rfl (Nat.le_of_ble_eq_true rfl) in_X9_finish_X9 (by decide +kernel) dX9_finish_53 rfl ?_
            refine g_iload_n (n := 57) C 1 dX9_finish_56 rfl rfl ?_
            refine g_iald (n := 58) C 10 rfl (Nat.le_of_ble_eq_true rfl) rfl rfl hg25 hx1 dX9_finish_57 rfl ?_
            refine g_iconst (n := 59) C dX9_finish_58 rfl ?_
            refine g_icmp_ne (n := 62) C 110 ((hS 10 _).2 (tn_lt hg25 (by decide))) (by decide : r32 2) dX9_finish_59 (by decide) rfl (fun (hc30 : ¬ (S 10 x1.toNat = 2)) => ?_) (fun (hc30 : S 10 x1.toNat = 2) => ?_)
            · rw [if_neg hc30] at h
              refine g_lv [0, 1] rfl ?_
              exact u_X9_finish_110 C ih x1 S hS hx1 h
            · rw [if_pos hc30] at h
              refine g_aload_n (n := 63) C 0 dX9_finish_62 rfl rfl ?_
              refine g_getC (n := 66) C 0 18 rfl (Nat.le_of_ble_eq_true rfl) rfl rfl rfl (Nat.le_of_ble_eq_true rfl) in_X9_finish_X9 (by decide +kernel) dX9_finish_63 rfl ?_
              refine g_iload_n (n := 67) C 1 dX9_finish_66 rfl rfl ?_
              refine g_zald (n := 68) C 18 rfl (Nat.le_of_ble_eq_true rfl) rfl rfl hg25 hx1 dX9_finish_67 rfl ?_
              refine g_if_ne (n := 71) C 110 ((hS 18 _).2 (tn_lt hg25 (by decide))) dX9_finish_68 (by decide) rfl (fun (hc40 : ¬ (S 18 x1.toNat = 0)) => ?_) (fun (hc40 : S 18 x1.toNat = 0) => ?_)
              · rw [if_neg hc40] at h
                refine g_lv [0, 1] rfl ?_
                exact u_X9_finish_110 C ih x1 S hS hx1 h
              · rw [if_pos hc40] at h
                refine g_aload_n (n := 72) C 0 dX9_finish_71 rfl rfl ?_
                refine g_getC (n := 75) C 0 18 rfl (Nat.le_of_ble_eq_true rfl) rfl rfl rfl (Nat.le_of_ble_eq_true rfl) in_X9_finish_X9 (by decide +kernel) dX9_finish_72 rfl ?_
                refine g_iload_n (n := 76) C 1 dX9_finish_75 rfl rfl ?_
                refine g_iconst (n := 77) C dX9_finish_76 rfl ?_
                obtain ⟨S41, eS41, h⟩ := nmS_e h
                have hS41 : RS S41 := by rw [eS41]; exact RS_i hS (by decide : r32 1)
                refine g_zast (n := 78) C 18 rfl (Nat.le_of_ble_eq_true rfl) rfl rfl hg25 hx1 (by decide +kernel) eS41 dX9_finish_77 rfl ?_
                refine g_aload_n (n := 79) C 0 dX9_finish_78 rfl rfl ?_
                refine g_getC (n := 82) C 0 15 rfl (Nat.le_of_ble_eq_true rfl) rfl rfl rfl (Nat.le_of_ble_eq_true rfl) in_X9_finish_X9 (by decide +kernel) dX9_finish_79 rfl ?_
                refine g_iload_n (n := 83) C 1 dX9_finish_82 rfl rfl ?_
                refine g_iconst (n := 84) C dX9_finish_83 rfl ?_
                obtain ⟨S42, eS42, h⟩ := nmS_e h
                have hS42 : RS S42 := by rw [eS42]; exact RS_i hS41 (by decide : r32 1)
                refine g_iast (n := 85) C 15 rfl (Nat.le_of_ble_eq_true rfl) rfl rfl hg25 hx1 eS42 dX9_finish_84 rfl ?_
                refine g_aload_n (n := 86) C 0 dX9_finish_85 rfl rfl ?_
                refine g_getC (n := 89) C 0 17 rfl (Nat.le_of_ble_eq_true rfl) rfl rfl rfl (Nat.le_of_ble_eq_true rfl) in_X9_finish_X9 (by decide +kernel) dX9_finish_86 rfl ?_
                refine g_iload_n (n := 90) C 1 dX9_finish_89 rfl rfl ?_
                refine g_aload_n (n := 91) C 0 dX9_finish_90 rfl rfl ?_
                refine g_getI (n := 94) C 0 4 rfl (Nat.le_of_ble_eq_true rfl) rfl rfl rfl (Nat.le_of_ble_eq_true rfl) in_X9_finish_X9 (by decide +kernel) dX9_finish_91 rfl ?_
                obtain ⟨S43, eS43, h⟩ := nmS_e h
                have hS43 : RS S43 := by rw [eS43]; exact RS_i hS42 ((hS42 0 4).2 (by decide))
                refine g_iast (n := 95) C 17 rfl (Nat.le_of_ble_eq_true rfl) rfl rfl hg25 hx1 eS43 dX9_finish_94 rfl ?_
                refine g_aload_n (n := 96) C 0 dX9_finish_95 rfl rfl ?_
                refine g_getC (n := 99) C 0 16 rfl (Nat.le_of_ble_eq_true rfl) rfl rfl rfl (Nat.le_of_ble_eq_true rfl) in_X9_finish_X9 (by decide +kernel) dX9_finish_96 rfl ?_
                refine g_iload_n (n := 100) C 1 dX9_finish_99 rfl rfl ?_
                refine g_aload_n (n := 101) C 0 dX9_finish_100 rfl rfl ?_
                refine g_getC (n := 104) C 0 13 rfl (Nat.le_of_ble_eq_true rfl) rfl rfl rfl (Nat.le_of_ble_eq_true rfl) in_X9_finish_X9 (by decide +kernel) dX9_finish_101 rfl ?_
                refine g_iload_n (n := 105) C 1 dX9_finish_104 rfl rfl ?_
                refine g_iald (n := 106) C 13 rfl (Nat.le_of_ble_eq_true rfl) rfl rfl hg25 hx1 dX9_finish_105 rfl ?_
                obtain ⟨S44, eS44, h⟩ := nmS_e h
                have hS44 : RS S44 := by rw [eS44]; exact RS_i hS43 ((hS43 13 _).2 (tn_lt hg25 (by decide)))
                refine g_iast (n := 107) C 16 rfl (Nat.le_of_ble_eq_true rfl) rfl rfl hg25 hx1 eS44 dX9_finish_106 rfl ?_
                refine g_goto C 130 dX9_finish_107 (by decide) ?_
                obtain ⟨v45, ev45, h⟩ := nmV_e h
                have hv45 : r32 v45 := by rw [ev45]; exact w32_r _
                refine g_iinc (n := 133) (lv' := [(1, vI v45), (0, .ref (ad 0))]) C 1 dX9_finish_130 rfl (Nat.le_of_ble_eq_true rfl) ev45 rfl rfl ?_
                refine g_goto C 2 dX9_finish_133 (by decide) ?_
                refine g_lv [1, 0] rfl ?_
                exact ih v45 S44 hS44 hv45 h
          · rw [if_pos hc29] at h
            refine g_aload_n (n := 43) C 0 dX9_finish_42 rfl rfl ?_
            refine g_getC (n := 46) C 0 15 rfl (Nat.le_of_ble_eq_true rfl) rfl rfl rfl (Nat.le_of_ble_eq_true rfl) in_X9_finish_X9 (by decide +kernel) dX9_finish_43 rfl ?_
            refine g_iload_n (n := 47) C 1 dX9_finish_46 rfl rfl ?_
            refine g_iconst (n := 48) C dX9_finish_47 rfl ?_
            obtain ⟨S46, eS46, h⟩ := nmS_e h
            have hS46 : RS S46 := by rw [eS46]; exact RS_i hS (by decide : r32 4)
            refine g_iast (n := 49) C 15 rfl (Nat.le_of_ble_eq_true rfl) rfl rfl hg25 hx1 eS46 dX9_finish_48 rfl ?_
            refine g_goto C 130 dX9_finish_49 (by decide) ?_
            obtain ⟨v47, ev47, h⟩ := nmV_e h
            have hv47 : r32 v47 := by rw [ev47]; exact w32_r _
            refine g_iinc (n := 133) (lv' := [(1, vI v47), (0, .ref (ad 0))]) C 1 dX9_finish_130 rfl (Nat.le_of_ble_eq_true rfl) ev47 rfl rfl ?_
            refine g_goto C 2 dX9_finish_133 (by decide) ?_
            refine g_lv [1, 0] rfl ?_
            exact ih v47 S46 hS46 hv47 h
        · rw [if_neg hc28] at h
          refine g_goto C 130 dX9_finish_29 (by decide) ?_
          obtain ⟨v48, ev48, h⟩ := nmV_e h
          have hv48 : r32 v48 := by rw [ev48]; exact w32_r _
          refine g_iinc (n := 133) (lv' := [(1, vI v48), (0, .ref (ad 0))]) C 1 dX9_finish_130 rfl (Nat.le_of_ble_eq_true rfl) ev48 rfl rfl ?_
          refine g_goto C 2 dX9_finish_133 (by decide) ?_
          refine g_lv [1, 0] rfl ?_
          exact ih v48 S hS hv48 h
def dn_X9_finish (S : St) : Option (St × Int) := dn_X9_finish_2 FU 0 S
set_option maxRecDepth 100000 in
set_option maxHeartbeats 4000000 in
theorem c_X9_finish {l : Launch} {D : va_G} {t : T5} {ad : Nat → Nat} {S S0 : St} {r0 : Int} (hS : RS S) (h : dn_X9_finish S = some (S0, r0)) : Mc l (sM D t ad) yX9_finish wsX9_finish rm_X9_finish [.ref (ad 0)] acV S S0 r0 := by
  refine Mc_of (cc := cX9_finish) (nL := 4) (ret := none) (by decide +kernel) rfl (Nat.le_of_ble_eq_true rfl) (lv := [(0, .ref (ad 0))]) rfl (fun x C _ => ?_)
  unfold dn_X9_finish at h
  show GW (sM D t ad) mi_X9_finish (acV, S0, r0) x S 0 [(0, .ref (ad 0))] []
  refine g_iconst (n := 1) C dX9_finish_0 rfl ?_
  refine g_istore_n (n := 2) (lv' := [(1, vI 0), (0, .ref (ad 0))]) C dX9_finish_1 (Nat.le_of_ble_eq_true rfl) rfl rfl rfl ?_
  refine g_lv [1, 0] rfl ?_
  exact u_X9_finish_2 C FU 0 S hS (by decide : r32 0) h
-- RX9 come
abbrev rm_X9_come : Room := ({ frames := 3, cells := 0, slots := 0, locals := 68 } : Room)
abbrev mi_X9_come : Mi := (cX9_come, 2, RX9, wsX9_come, rm_X9_come, none)
set_option maxRecDepth 20000 in
theorem in_X9_come_X9 : ∀ w ∈ u_ws RX9 TX9 39, w ∈ wsX9_come := by decide +kernel
def dn_X9_come_67 : Nat → Int → St → Option (St × Int)
  | 0, _, _ => none
  | n + 1, x1, S => (if S 0 19 ≤ x1 then some (S, 0) else (if 0 ≤ x1 ∧ x1 < 60 then (if S 15 x1.toNat = 1 then (if S 12 x1.toNat < w32 ((S 0 4) - (S 17 x1.toNat)) then (nmS (stU S 15 x1.toNat 8) fun S7 => (cal (dn_X9_say 5 x1 (-1) S7) fun S8 v9 => (cal (dn_X9_free x1 0 S8) fun S11 v12 => (nmV (w32 (x1 + 1)) fun v14 => dn_X9_come_67 n v14 S11)))) else (nmV (w32 (x1 + 1)) fun v15 => dn_X9_come_67 n v15 S)) else (nmV (w32 (x1 + 1)) fun v5 => dn_X9_come_67 n v5 S)) else none))
set_option maxRecDepth 100000 in
set_option maxHeartbeats 4000000 in
theorem u_X9_come_67 {D : va_G} {t : T5} {ad : Nat → Nat} {S0 : St} {r0 : Int} {x : Mx} (C : CX (sM D t ad) mi_X9_come x) : ∀ (n : Nat) (x1 : Int) (S : St), RS S → (r32 x1) → dn_X9_come_67 n x1 S = some (S0, r0) → GW (sM D t ad) mi_X9_come (acV, S0, r0) x S 67 [(0, .ref (ad 0)), (1, vI x1)] [] := by
  intro n
  induction n with
  | zero =>
    intro x1 S hS hx1 h
    cases h
  | succ n ih =>
    intro x1 S hS hx1 h
    rw [dn_X9_come_67] at h
    refine g_iload_n (n := 68) C 1 dX9_come_67 rfl rfl ?_
    refine g_aload_n (n := 69) C 0 dX9_come_68 rfl rfl ?_
    refine g_getI (n := 72) C 0 19 rfl (Nat.le_of_ble_eq_true rfl) rfl rfl rfl (Nat.le_of_ble_eq_true rfl) in_X9_come_X9 (by decide +kernel) dX9_come_69 rfl ?_
    refine g_icmp_ge (n := 75) C 135 hx1 ((hS 0 19).2 (by decide)) dX9_come_72 (by decide) rfl (fun (hc2 : S 0 19 ≤ x1) => ?_) (fun (hc2 : ¬ (S 0 19 ≤ x1)) => ?_)
    · rw [if_pos hc2] at h
      exact g_vret C rfl h rfl trivial hS dX9_come_135
    · rw [if_neg hc2] at h
      refine g_aload_n (n := 76) C 0 dX9_come_75 rfl rfl ?_
      refine g_getC (n := 79) C 0 15 rfl (Nat.le_of_ble_eq_true rfl) rfl rfl rfl (Nat.le_of_ble_eq_true rfl) in_X9_come_X9 (by decide +kernel) dX9_come_76 rfl ?_
      refine g_iload_n (n := 80) C 1 dX9_come_79 rfl rfl ?_
      obtain ⟨hg3, h⟩ := gd_e h
      refine g_iald (n := 81) C 15 rfl (Nat.le_of_ble_eq_true rfl) rfl rfl hg3 hx1 dX9_come_80 rfl ?_
      refine g_iconst (n := 82) C dX9_come_81 rfl ?_
      refine g_icmp_ne (n := 85) C 129 ((hS 15 _).2 (tn_lt hg3 (by decide))) (by decide : r32 1) dX9_come_82 (by decide) rfl (fun (hc4 : ¬ (S 15 x1.toNat = 1)) => ?_) (fun (hc4 : S 15 x1.toNat = 1) => ?_)
      · rw [if_neg hc4] at h
        obtain ⟨v5, ev5, h⟩ := nmV_e h
        have hv5 : r32 v5 := by rw [ev5]; exact w32_r _
        refine g_iinc (n := 132) (lv' := [(1, vI v5), (0, .ref (ad 0))]) C 1 dX9_come_129 rfl (Nat.le_of_ble_eq_true rfl) ev5 rfl rfl ?_
        refine g_goto C 67 dX9_come_132 (by decide) ?_
        refine g_lv [1, 0] rfl ?_
        exact ih v5 S hS hv5 h
      · rw [if_pos hc4] at h
        refine g_aload_n (n := 86) C 0 dX9_come_85 rfl rfl ?_
        refine g_getI (n := 89) C 0 4 rfl (Nat.le_of_ble_eq_true rfl) rfl rfl rfl (Nat.le_of_ble_eq_true rfl) in_X9_come_X9 (by decide +kernel) dX9_come_86 rfl ?_
        refine g_aload_n (n := 90) C 0 dX9_come_89 rfl rfl ?_
        refine g_getC (n := 93) C 0 17 rfl (Nat.le_of_ble_eq_true rfl) rfl rfl rfl (Nat.le_of_ble_eq_true rfl) in_X9_come_X9 (by decide +kernel) dX9_come_90 rfl ?_
        refine g_iload_n (n := 94) C 1 dX9_come_93 rfl rfl ?_
        refine g_iald (n := 95) C 17 rfl (Nat.le_of_ble_eq_true rfl) rfl rfl hg3 hx1 dX9_come_94 rfl ?_
        refine g_isub (n := 96) C dX9_come_95 rfl ?_
        refine g_aload_n (n := 97) C 0 dX9_come_96 rfl rfl ?_
        refine g_getC (n := 100) C 0 12 rfl (Nat.le_of_ble_eq_true rfl) rfl rfl rfl (Nat.le_of_ble_eq_true rfl) in_X9_come_X9 (by decide +kernel) dX9_come_97 rfl ?_
        refine g_iload_n (n := 101) C 1 dX9_come_100 rfl rfl ?_
        refine g_iald (n := 102) C 12 rfl (Nat.le_of_ble_eq_true rfl) rfl rfl hg3 hx1 dX9_come_101 rfl ?_
        refine g_icmp_gt (n := 105) C 108 (w32_r _) ((hS 12 _).2 (tn_lt hg3 (by decide))) dX9_come_102 (by decide) rfl (fun (hc6 : S 12 x1.toNat < w32 ((S 0 4) - (S 17 x1.toNat))) => ?_) (fun (hc6 : ¬ (S 12 x1.toNat < w32 ((S 0 4) - (S 17 x1.toNat)))) => ?_)
        · rw [if_pos hc6] at h
          refine g_aload_n (n := 109) C 0 dX9_come_108 rfl rfl ?_
          refine g_getC (n := 112) C 0 15 rfl (Nat.le_of_ble_eq_true rfl) rfl rfl rfl (Nat.le_of_ble_eq_true rfl) in_X9_come_X9 (by decide +kernel) dX9_come_109 rfl ?_
          refine g_iload_n (n := 113) C 1 dX9_come_112 rfl rfl ?_
          refine g_bipush (n := 115) C dX9_come_113 (by decide +kernel) rfl ?_
          obtain ⟨S7, eS7, h⟩ := nmS_e h
          have hS7 : RS S7 := by rw [eS7]; exact RS_i hS (by decide : r32 8)
          refine g_iast (n := 116) C 15 rfl (Nat.le_of_ble_eq_true rfl) rfl rfl hg3 hx1 eS7 dX9_come_115 rfl ?_
          refine g_aload_n (n := 117) C 0 dX9_come_116 rfl rfl ?_
          refine g_iconst (n := 118) C dX9_come_117 rfl ?_
          refine g_iload_n (n := 119) C 1 dX9_come_118 rfl rfl ?_
          refine g_iconst (n := 120) C dX9_come_119 rfl ?_
          obtain ⟨S8, v9, hq10, h⟩ := cal_e h
          refine g_callV (n := 123) (As := [vI 5, vI x1, vI (-1)]) (rest := []) C 0 3 (Nat.le_of_ble_eq_true rfl) rfl rfl (c_X9_say hS7 (by decide : r32 5) hx1 (by decide : r32 (-1)) hq10) gX9_come_X9_say rfl ⟨rfl, rfl⟩ (by decide +kernel) ⟨Nat.le_of_ble_eq_true rfl, Nat.le_of_ble_eq_true rfl⟩ rfl rfl rfl (Nat.le_of_ble_eq_true rfl) dX9_come_120 rfl (fun hS8 hv9 => ?_)
          show GW (sM D t ad) mi_X9_come (acV, S0, r0) x S8 123 _ []
          refine g_aload_n (n := 124) C 0 dX9_come_123 rfl rfl ?_
          refine g_iload_n (n := 125) C 1 dX9_come_124 rfl rfl ?_
          refine g_iconst (n := 126) C dX9_come_125 rfl ?_
          obtain ⟨S11, v12, hq13, h⟩ := cal_e h
          refine g_callV (n := 129) (As := [vI x1, vI 0]) (rest := []) C 0 2 (Nat.le_of_ble_eq_true rfl) rfl rfl (c_X9_free hS8 hx1 (by decide : r32 0) hq13) gX9_come_X9_free rfl ⟨rfl, rfl⟩ (by decide +kernel) ⟨Nat.le_of_ble_eq_true rfl, Nat.le_of_ble_eq_true rfl⟩ rfl rfl rfl (Nat.le_of_ble_eq_true rfl) dX9_come_126 rfl (fun hS11 hv12 => ?_)
          show GW (sM D t ad) mi_X9_come (acV, S0, r0) x S11 129 _ []
          obtain ⟨v14, ev14, h⟩ := nmV_e h
          have hv14 : r32 v14 := by rw [ev14]; exact w32_r _
          refine g_iinc (n := 132) (lv' := [(1, vI v14), (0, .ref (ad 0))]) C 1 dX9_come_129 rfl (Nat.le_of_ble_eq_true rfl) ev14 rfl rfl ?_
          refine g_goto C 67 dX9_come_132 (by decide) ?_
          refine g_lv [1, 0] rfl ?_
          exact ih v14 S11 hS11 hv14 h
        · rw [if_neg hc6] at h
          refine g_goto C 129 dX9_come_105 (by decide) ?_
          obtain ⟨v15, ev15, h⟩ := nmV_e h
          have hv15 : r32 v15 := by rw [ev15]; exact w32_r _
          refine g_iinc (n := 132) (lv' := [(1, vI v15), (0, .ref (ad 0))]) C 1 dX9_come_129 rfl (Nat.le_of_ble_eq_true rfl) ev15 rfl rfl ?_
          refine g_goto C 67 dX9_come_132 (by decide) ?_
          refine g_lv [1, 0] rfl ?_
          exact ih v15 S hS hv15 h
def dn_X9_come_2 : Nat → Int → St → Option (St × Int)
  | 0, _, _ => none
  | n + 1, x1, S => (if S 0 19 ≤ x1 then dn_X9_come_67 FU 0 S else (if 0 ≤ x1 ∧ x1 < 60 then (if S 15 x1.toNat = 0 then (if S 14 x1.toNat = S 0 4 then (nmS (stU S 15 x1.toNat 1) fun S20 => (nmS (stU S20 17 x1.toNat (S20 0 4)) fun S21 => (cal (dn_X9_say 0 x1 (-1) S21) fun S22 v23 => (nmV (w32 (x1 + 1)) fun v25 => dn_X9_come_2 n v25 S22)))) else (nmV (w32 (x1 + 1)) fun v26 => dn_X9_come_2 n v26 S)) else (nmV (w32 (x1 + 1)) fun v18 => dn_X9_come_2 n v18 S)) else none))
set_option maxRecDepth 100000 in
set_option maxHeartbeats 4000000 in
theorem u_X9_come_2 {D : va_G} {t : T5} {ad : Nat → Nat} {S0 : St} {r0 : Int} {x : Mx} (C : CX (sM D t ad) mi_X9_come x) : ∀ (n : Nat) (x1 : Int) (S : St), RS S → (r32 x1) → dn_X9_come_2 n x1 S = some (S0, r0) → GW (sM D t ad) mi_X9_come (acV, S0, r0) x S 2 [(0, .ref (ad 0)), (1, vI x1)] [] := by
  intro n
  induction n with
  | zero =>
    intro x1 S hS hx1 h
    cases h
  | succ n ih =>
    intro x1 S hS hx1 h
    rw [dn_X9_come_2] at h
    refine g_iload_n (n := 3) C 1 dX9_come_2 rfl rfl ?_
    refine g_aload_n (n := 4) C 0 dX9_come_3 rfl rfl ?_
    refine g_getI (n := 7) C 0 19 rfl (Nat.le_of_ble_eq_true rfl) rfl rfl rfl (Nat.le_of_ble_eq_true rfl) in_X9_come_X9 (by decide +kernel) dX9_come_4 rfl ?_
    refine g_icmp_ge (n := 10) C 65 hx1 ((hS 0 19).2 (by decide)) dX9_come_7 (by decide) rfl (fun (hc1 : S 0 19 ≤ x1) => ?_) (fun (hc1 : ¬ (S 0 19 ≤ x1)) => ?_)
    · rw [if_pos hc1] at h
      refine g_iconst (n := 66) C dX9_come_65 rfl ?_
      refine g_istore_n (n := 67) (lv' := [(1, vI 0), (0, .ref (ad 0))]) C dX9_come_66 (Nat.le_of_ble_eq_true rfl) rfl rfl rfl ?_
      refine g_lv [1, 0] rfl ?_
      exact u_X9_come_67 C FU 0 S hS (by decide : r32 0) h
    · rw [if_neg hc1] at h
      refine g_aload_n (n := 11) C 0 dX9_come_10 rfl rfl ?_
      refine g_getC (n := 14) C 0 15 rfl (Nat.le_of_ble_eq_true rfl) rfl rfl rfl (Nat.le_of_ble_eq_true rfl) in_X9_come_X9 (by decide +kernel) dX9_come_11 rfl ?_
      refine g_iload_n (n := 15) C 1 dX9_come_14 rfl rfl ?_
      obtain ⟨hg16, h⟩ := gd_e h
      refine g_iald (n := 16) C 15 rfl (Nat.le_of_ble_eq_true rfl) rfl rfl hg16 hx1 dX9_come_15 rfl ?_
      refine g_if_ne (n := 19) C 59 ((hS 15 _).2 (tn_lt hg16 (by decide))) dX9_come_16 (by decide) rfl (fun (hc17 : ¬ (S 15 x1.toNat = 0)) => ?_) (fun (hc17 : S 15 x1.toNat = 0) => ?_)
      · rw [if_neg hc17] at h
        obtain ⟨v18, ev18, h⟩ := nmV_e h
        have hv18 : r32 v18 := by rw [ev18]; exact w32_r _
        refine g_iinc (n := 62) (lv' := [(1, vI v18), (0, .ref (ad 0))]) C 1 dX9_come_59 rfl (Nat.le_of_ble_eq_true rfl) ev18 rfl rfl ?_
        refine g_goto C 2 dX9_come_62 (by decide) ?_
        refine g_lv [1, 0] rfl ?_
        exact ih v18 S hS hv18 h
      · rw [if_pos hc17] at h
        refine g_aload_n (n := 20) C 0 dX9_come_19 rfl rfl ?_
        refine g_getC (n := 23) C 0 14 rfl (Nat.le_of_ble_eq_true rfl) rfl rfl rfl (Nat.le_of_ble_eq_true rfl) in_X9_come_X9 (by decide +kernel) dX9_come_20 rfl ?_
        refine g_iload_n (n := 24) C 1 dX9_come_23 rfl rfl ?_
        refine g_iald (n := 25) C 14 rfl (Nat.le_of_ble_eq_true rfl) rfl rfl hg16 hx1 dX9_come_24 rfl ?_
        refine g_aload_n (n := 26) C 0 dX9_come_25 rfl rfl ?_
        refine g_getI (n := 29) C 0 4 rfl (Nat.le_of_ble_eq_true rfl) rfl rfl rfl (Nat.le_of_ble_eq_true rfl) in_X9_come_X9 (by decide +kernel) dX9_come_26 rfl ?_
        refine g_icmp_eq (n := 32) C 35 ((hS 14 _).2 (tn_lt hg16 (by decide))) ((hS 0 4).2 (by decide)) dX9_come_29 (by decide) rfl (fun (hc19 : S 14 x1.toNat = S 0 4) => ?_) (fun (hc19 : ¬ (S 14 x1.toNat = S 0 4)) => ?_)
        · rw [if_pos hc19] at h
          refine g_aload_n (n := 36) C 0 dX9_come_35 rfl rfl ?_
          refine g_getC (n := 39) C 0 15 rfl (Nat.le_of_ble_eq_true rfl) rfl rfl rfl (Nat.le_of_ble_eq_true rfl) in_X9_come_X9 (by decide +kernel) dX9_come_36 rfl ?_
          refine g_iload_n (n := 40) C 1 dX9_come_39 rfl rfl ?_
          refine g_iconst (n := 41) C dX9_come_40 rfl ?_
          obtain ⟨S20, eS20, h⟩ := nmS_e h
          have hS20 : RS S20 := by rw [eS20]; exact RS_i hS (by decide : r32 1)
          refine g_iast (n := 42) C 15 rfl (Nat.le_of_ble_eq_true rfl) rfl rfl hg16 hx1 eS20 dX9_come_41 rfl ?_
          refine g_aload_n (n := 43) C 0 dX9_come_42 rfl rfl ?_
          refine g_getC (n := 46) C 0 17 rfl (Nat.le_of_ble_eq_true rfl) rfl rfl rfl (Nat.le_of_ble_eq_true rfl) in_X9_come_X9 (by decide +kernel) dX9_come_43 rfl ?_
          refine g_iload_n (n := 47) C 1 dX9_come_46 rfl rfl ?_
          refine g_aload_n (n := 48) C 0 dX9_come_47 rfl rfl ?_
          refine g_getI (n := 51) C 0 4 rfl (Nat.le_of_ble_eq_true rfl) rfl rfl rfl (Nat.le_of_ble_eq_true rfl) in_X9_come_X9 (by decide +kernel) dX9_come_48 rfl ?_
          obtain ⟨S21, eS21, h⟩ := nmS_e h
          have hS21 : RS S21 := by rw [eS21]; exact RS_i hS20 ((hS20 0 4).2 (by decide))
          refine g_iast (n := 52) C 17 rfl (Nat.le_of_ble_eq_true rfl) rfl rfl hg16 hx1 eS21 dX9_come_51 rfl ?_
          refine g_aload_n (n := 53) C 0 dX9_come_52 rfl rfl ?_
          refine g_iconst (n := 54) C dX9_come_53 rfl ?_
          refine g_iload_n (n := 55) C 1 dX9_come_54 rfl rfl ?_
          refine g_iconst (n := 56) C dX9_come_55 rfl ?_
          obtain ⟨S22, v23, hq24, h⟩ := cal_e h
          refine g_callV (n := 59) (As := [vI 0, vI x1, vI (-1)]) (rest := []) C 0 3 (Nat.le_of_ble_eq_true rfl) rfl rfl (c_X9_say hS21 (by decide : r32 0) hx1 (by decide : r32 (-1)) hq24) gX9_come_X9_say rfl ⟨rfl, rfl⟩ (by decide +kernel) ⟨Nat.le_of_ble_eq_true rfl, Nat.le_of_ble_eq_true rfl⟩ rfl rfl rfl (Nat.le_of_ble_eq_true rfl) dX9_come_56 rfl (fun hS22 hv23 => ?_)
          show GW (sM D t ad) mi_X9_come (acV, S0, r0) x S22 59 _ []
          obtain ⟨v25, ev25, h⟩ := nmV_e h
          have hv25 : r32 v25 := by rw [ev25]; exact w32_r _
          refine g_iinc (n := 62) (lv' := [(1, vI v25), (0, .ref (ad 0))]) C 1 dX9_come_59 rfl (Nat.le_of_ble_eq_true rfl) ev25 rfl rfl ?_
          refine g_goto C 2 dX9_come_62 (by decide) ?_
          refine g_lv [1, 0] rfl ?_
          exact ih v25 S22 hS22 hv25 h
        · rw [if_neg hc19] at h
          refine g_goto C 59 dX9_come_32 (by decide) ?_
          obtain ⟨v26, ev26, h⟩ := nmV_e h
          have hv26 : r32 v26 := by rw [ev26]; exact w32_r _
          refine g_iinc (n := 62) (lv' := [(1, vI v26), (0, .ref (ad 0))]) C 1 dX9_come_59 rfl (Nat.le_of_ble_eq_true rfl) ev26 rfl rfl ?_
          refine g_goto C 2 dX9_come_62 (by decide) ?_
          refine g_lv [1, 0] rfl ?_
          exact ih v26 S hS hv26 h
def dn_X9_come (S : St) : Option (St × Int) := dn_X9_come_2 FU 0 S
set_option maxRecDepth 100000 in
set_option maxHeartbeats 4000000 in
theorem c_X9_come {l : Launch} {D : va_G} {t : T5} {ad : Nat → Nat} {S S0 : St} {r0 : Int} (hS : RS S) (h : dn_X9_come S = some (S0, r0)) : Mc l (sM D t ad) yX9_come wsX9_come rm_X9_come [.ref (ad 0)] acV S S0 r0 := by
  refine Mc_of (cc := cX9_come) (nL := 2) (ret := none) (by decide +kernel) rfl (Nat.le_of_ble_eq_true rfl) (lv := [(0, .ref (ad 0))]) rfl (fun x C _ => ?_)
  unfold dn_X9_come at h
  show GW (sM D t ad) mi_X9_come (acV, S0, r0) x S 0 [(0, .ref (ad 0))] []
  refine g_iconst (n := 1) C dX9_come_0 rfl ?_
  refine g_istore_n (n := 2) (lv' := [(1, vI 0), (0, .ref (ad 0))]) C dX9_come_1 (Nat.le_of_ble_eq_true rfl) rfl rfl rfl ?_
  refine g_lv [1, 0] rfl ?_
  exact u_X9_come_2 C FU 0 S hS (by decide : r32 0) h
-- RX9 firstWaiting
abbrev rm_X9_firstWaiting : Room := ({ frames := 0, cells := 0, slots := 0, locals := 0 } : Room)
abbrev mi_X9_firstWaiting : Mi := (cX9_firstWaiting, 3, RX9, wsX9_firstWaiting, rm_X9_firstWaiting, (some .int))
set_option maxRecDepth 20000 in
theorem in_X9_firstWaiting_X9 : ∀ w ∈ u_ws RX9 TX9 39, w ∈ wsX9_firstWaiting := by decide +kernel
def dn_X9_firstWaiting_4 : Nat → Int → Int → St → Option (St × Int)
  | 0, _, _, _ => none
  | n + 1, x1, x2, S => (if S 0 19 ≤ x2 then some (S, x1) else (if 0 ≤ x2 ∧ x2 < 60 then (if S 15 x2.toNat = 1 then (if x1 = (-1) then (nmV (w32 (x2 + 1)) fun v6 => dn_X9_firstWaiting_4 n x2 v6 S) else (if 0 ≤ x1 ∧ x1 < 60 then (if S 11 x1.toNat ≤ S 11 x2.toNat then (nmV (w32 (x2 + 1)) fun v9 => dn_X9_firstWaiting_4 n x1 v9 S) else (nmV (w32 (x2 + 1)) fun v10 => dn_X9_firstWaiting_4 n x2 v10 S)) else none)) else (nmV (w32 (x2 + 1)) fun v4 => dn_X9_firstWaiting_4 n x1 v4 S)) else none))
set_option maxRecDepth 100000 in
set_option maxHeartbeats 4000000 in
theorem u_X9_firstWaiting_4 {D : va_G} {t : T5} {ad : Nat → Nat} {S0 : St} {r0 : Int} {x : Mx} (C : CX (sM D t ad) mi_X9_firstWaiting x) : ∀ (n : Nat) (x1 : Int) (x2 : Int) (S : St), RS S → (r32 x1) → (r32 x2) → dn_X9_firstWaiting_4 n x1 x2 S = some (S0, r0) → GW (sM D t ad) mi_X9_firstWaiting (acI, S0, r0) x S 4 [(0, .ref (ad 0)), (1, vI x1), (2, vI x2)] [] := by
  intro n
  induction n with
  | zero =>
    intro x1 x2 S hS hx1 hx2 h
    cases h
  | succ n ih =>
    intro x1 x2 S hS hx1 hx2 h
    rw [dn_X9_firstWaiting_4] at h
    refine g_iload_n (n := 5) C 2 dX9_firstWaiting_4 rfl rfl ?_
    refine g_aload_n (n := 6) C 0 dX9_firstWaiting_5 rfl rfl ?_
    refine g_getI (n := 9) C 0 19 rfl (Nat.le_of_ble_eq_true rfl) rfl rfl rfl (Nat.le_of_ble_eq_true rfl) in_X9_firstWaiting_X9 (by decide +kernel) dX9_firstWaiting_6 rfl ?_
    refine g_icmp_ge (n := 12) C 50 hx2 ((hS 0 19).2 (by decide)) dX9_firstWaiting_9 (by decide) rfl (fun (hc1 : S 0 19 ≤ x2) => ?_) (fun (hc1 : ¬ (S 0 19 ≤ x2)) => ?_)
    · rw [if_pos hc1] at h
      refine g_iload_n (n := 51) C 1 dX9_firstWaiting_50 rfl rfl ?_
      exact g_iret C rfl h rfl hx1 hS dX9_firstWaiting_51
    · rw [if_neg hc1] at h
      refine g_aload_n (n := 13) C 0 dX9_firstWaiting_12 rfl rfl ?_
      refine g_getC (n := 16) C 0 15 rfl (Nat.le_of_ble_eq_true rfl) rfl rfl rfl (Nat.le_of_ble_eq_true rfl) in_X9_firstWaiting_X9 (by decide +kernel) dX9_firstWaiting_13 rfl ?_
      refine g_iload_n (n := 17) C 2 dX9_firstWaiting_16 rfl rfl ?_
      obtain ⟨hg2, h⟩ := gd_e h
      refine g_iald (n := 18) C 15 rfl (Nat.le_of_ble_eq_true rfl) rfl rfl hg2 hx2 dX9_firstWaiting_17 rfl ?_
      refine g_iconst (n := 19) C dX9_firstWaiting_18 rfl ?_
      refine g_icmp_ne (n := 22) C 44 ((hS 15 _).2 (tn_lt hg2 (by decide))) (by decide : r32 1) dX9_firstWaiting_19 (by decide) rfl (fun (hc3 : ¬ (S 15 x2.toNat = 1)) => ?_) (fun (hc3 : S 15 x2.toNat = 1) => ?_)
      · rw [if_neg hc3] at h
        obtain ⟨v4, ev4, h⟩ := nmV_e h
        have hv4 : r32 v4 := by rw [ev4]; exact w32_r _
        refine g_iinc (n := 47) (lv' := [(2, vI v4), (0, .ref (ad 0)), (1, vI x1)]) C 2 dX9_firstWaiting_44 rfl (Nat.le_of_ble_eq_true rfl) ev4 rfl rfl ?_
        refine g_goto C 4 dX9_firstWaiting_47 (by decide) ?_
        refine g_lv [1, 2, 0] rfl ?_
        exact ih x1 v4 S hS hx1 hv4 h
      · rw [if_pos hc3] at h
        refine g_iload_n (n := 23) C 1 dX9_firstWaiting_22 rfl rfl ?_
        refine g_iconst (n := 24) C dX9_firstWaiting_23 rfl ?_
        refine g_icmp_eq (n := 27) C 42 hx1 (by decide : r32 (-1)) dX9_firstWaiting_24 (by decide) rfl (fun (hc5 : x1 = (-1)) => ?_) (fun (hc5 : ¬ (x1 = (-1))) => ?_)
        · rw [if_pos hc5] at h
          refine g_iload_n (n := 43) C 2 dX9_firstWaiting_42 rfl rfl ?_
          refine g_istore_n (n := 44) (lv' := [(1, vI x2), (0, .ref (ad 0)), (2, vI x2)]) C dX9_firstWaiting_43 (Nat.le_of_ble_eq_true rfl) rfl rfl rfl ?_
          obtain ⟨v6, ev6, h⟩ := nmV_e h
          have hv6 : r32 v6 := by rw [ev6]; exact w32_r _
          refine g_iinc (n := 47) (lv' := [(2, vI v6), (1, vI x2), (0, .ref (ad 0))]) C 2 dX9_firstWaiting_44 rfl (Nat.le_of_ble_eq_true rfl) ev6 rfl rfl ?_
          refine g_goto C 4 dX9_firstWaiting_47 (by decide) ?_
          refine g_lv [2, 1, 0] rfl ?_
          exact ih x2 v6 S hS hx2 hv6 h
        · rw [if_neg hc5] at h
          refine g_aload_n (n := 28) C 0 dX9_firstWaiting_27 rfl rfl ?_
          refine g_getC (n := 31) C 0 11 rfl (Nat.le_of_ble_eq_true rfl) rfl rfl rfl (Nat.le_of_ble_eq_true rfl) in_X9_firstWaiting_X9 (by decide +kernel) dX9_firstWaiting_28 rfl ?_
          refine g_iload_n (n := 32) C 2 dX9_firstWaiting_31 rfl rfl ?_
          refine g_iald (n := 33) C 11 rfl (Nat.le_of_ble_eq_true rfl) rfl rfl hg2 hx2 dX9_firstWaiting_32 rfl ?_
          refine g_aload_n (n := 34) C 0 dX9_firstWaiting_33 rfl rfl ?_
          refine g_getC (n := 37) C 0 11 rfl (Nat.le_of_ble_eq_true rfl) rfl rfl rfl (Nat.le_of_ble_eq_true rfl) in_X9_firstWaiting_X9 (by decide +kernel) dX9_firstWaiting_34 rfl ?_
          refine g_iload_n (n := 38) C 1 dX9_firstWaiting_37 rfl rfl ?_
          obtain ⟨hg7, h⟩ := gd_e h
          refine g_iald (n := 39) C 11 rfl (Nat.le_of_ble_eq_true rfl) rfl rfl hg7 hx1 dX9_firstWaiting_38 rfl ?_
          refine g_icmp_ge (n := 42) C 44 ((hS 11 _).2 (tn_lt hg2 (by decide))) ((hS 11 _).2 (tn_lt hg7 (by decide))) dX9_firstWaiting_39 (by decide) rfl (fun (hc8 : S 11 x1.toNat ≤ S 11 x2.toNat) => ?_) (fun (hc8 : ¬ (S 11 x1.toNat ≤ S 11 x2.toNat)) => ?_)
          · rw [if_pos hc8] at h
            obtain ⟨v9, ev9, h⟩ := nmV_e h
            have hv9 : r32 v9 := by rw [ev9]; exact w32_r _
            refine g_iinc (n := 47) (lv' := [(2, vI v9), (0, .ref (ad 0)), (1, vI x1)]) C 2 dX9_firstWaiting_44 rfl (Nat.le_of_ble_eq_true rfl) ev9 rfl rfl ?_
            refine g_goto C 4 dX9_firstWaiting_47 (by decide) ?_
            refine g_lv [1, 2, 0] rfl ?_
            exact ih x1 v9 S hS hx1 hv9 h
          · rw [if_neg hc8] at h
            refine g_iload_n (n := 43) C 2 dX9_firstWaiting_42 rfl rfl ?_
            refine g_istore_n (n := 44) (lv' := [(1, vI x2), (0, .ref (ad 0)), (2, vI x2)]) C dX9_firstWaiting_43 (Nat.le_of_ble_eq_true rfl) rfl rfl rfl ?_
            obtain ⟨v10, ev10, h⟩ := nmV_e h
            have hv10 : r32 v10 := by rw [ev10]; exact w32_r _
            refine g_iinc (n := 47) (lv' := [(2, vI v10), (1, vI x2), (0, .ref (ad 0))]) C 2 dX9_firstWaiting_44 rfl (Nat.le_of_ble_eq_true rfl) ev10 rfl rfl ?_
            refine g_goto C 4 dX9_firstWaiting_47 (by decide) ?_
            refine g_lv [2, 1, 0] rfl ?_
            exact ih x2 v10 S hS hx2 hv10 h
def dn_X9_firstWaiting (S : St) : Option (St × Int) := dn_X9_firstWaiting_4 FU (-1) 0 S
set_option maxRecDepth 100000 in
set_option maxHeartbeats 4000000 in
theorem c_X9_firstWaiting {l : Launch} {D : va_G} {t : T5} {ad : Nat → Nat} {S S0 : St} {r0 : Int} (hS : RS S) (h : dn_X9_firstWaiting S = some (S0, r0)) : Mc l (sM D t ad) yX9_firstWaiting wsX9_firstWaiting rm_X9_firstWaiting [.ref (ad 0)] acI S S0 r0 := by
  refine Mc_of (cc := cX9_firstWaiting) (nL := 3) (ret := (some .int)) (by decide +kernel) rfl (Nat.le_of_ble_eq_true rfl) (lv := [(0, .ref (ad 0))]) rfl (fun x C _ => ?_)
  unfold dn_X9_firstWaiting at h
  show GW (sM D t ad) mi_X9_firstWaiting (acI, S0, r0) x S 0 [(0, .ref (ad 0))] []
  refine g_iconst (n := 1) C dX9_firstWaiting_0 rfl ?_
  refine g_istore_n (n := 2) (lv' := [(1, vI (-1)), (0, .ref (ad 0))]) C dX9_firstWaiting_1 (Nat.le_of_ble_eq_true rfl) rfl rfl rfl ?_
  refine g_iconst (n := 3) C dX9_firstWaiting_2 rfl ?_
  refine g_istore_n (n := 4) (lv' := [(2, vI 0), (1, vI (-1)), (0, .ref (ad 0))]) C dX9_firstWaiting_3 (Nat.le_of_ble_eq_true rfl) rfl rfl rfl ?_
  refine g_lv [2, 1, 0] rfl ?_
  exact u_X9_firstWaiting_4 C FU (-1) 0 S hS (by decide : r32 (-1)) (by decide : r32 0) h
-- RX9 latestIdle
abbrev rm_X9_latestIdle : Room := ({ frames := 0, cells := 0, slots := 0, locals := 0 } : Room)
abbrev mi_X9_latestIdle : Mi := (cX9_latestIdle, 3, RX9, wsX9_latestIdle, rm_X9_latestIdle, (some .int))
set_option maxRecDepth 20000 in
theorem in_X9_latestIdle_X9 : ∀ w ∈ u_ws RX9 TX9 39, w ∈ wsX9_latestIdle := by decide +kernel
def dn_X9_latestIdle_4 : Nat → Int → Int → St → Option (St × Int)
  | 0, _, _, _ => none
  | n + 1, x1, x2, S => (if 12 ≤ x2 then some (S, x1) else (if 0 ≤ x2 ∧ x2 < 12 then (if S 5 x2.toNat = 2 then (if x1 = (-1) then (nmV (w32 (x2 + 1)) fun v6 => dn_X9_latestIdle_4 n x2 v6 S) else (if 0 ≤ x1 ∧ x1 < 12 then (if S 9 x2.toNat ≤ S 9 x1.toNat then (nmV (w32 (x2 + 1)) fun v9 => dn_X9_latestIdle_4 n x1 v9 S) else (nmV (w32 (x2 + 1)) fun v10 => dn_X9_latestIdle_4 n x2 v10 S)) else none)) else (nmV (w32 (x2 + 1)) fun v4 => dn_X9_latestIdle_4 n x1 v4 S)) else none))
set_option maxRecDepth 100000 in
set_option maxHeartbeats 4000000 in
theorem u_X9_latestIdle_4 {D : va_G} {t : T5} {ad : Nat → Nat} {S0 : St} {r0 : Int} {x : Mx} (C : CX (sM D t ad) mi_X9_latestIdle x) : ∀ (n : Nat) (x1 : Int) (x2 : Int) (S : St), RS S → (r32 x1) → (r32 x2) → dn_X9_latestIdle_4 n x1 x2 S = some (S0, r0) → GW (sM D t ad) mi_X9_latestIdle (acI, S0, r0) x S 4 [(0, .ref (ad 0)), (1, vI x1), (2, vI x2)] [] := by
  intro n
  induction n with
  | zero =>
    intro x1 x2 S hS hx1 hx2 h
    cases h
  | succ n ih =>
    intro x1 x2 S hS hx1 hx2 h
    rw [dn_X9_latestIdle_4] at h
    refine g_iload_n (n := 5) C 2 dX9_latestIdle_4 rfl rfl ?_
    refine g_bipush (n := 7) C dX9_latestIdle_5 (by decide +kernel) rfl ?_
    refine g_icmp_ge (n := 10) C 48 hx2 (by decide : r32 12) dX9_latestIdle_7 (by decide) rfl (fun (hc1 : 12 ≤ x2) => ?_) (fun (hc1 : ¬ (12 ≤ x2)) => ?_)
    · rw [if_pos hc1] at h
      refine g_iload_n (n := 49) C 1 dX9_latestIdle_48 rfl rfl ?_
      exact g_iret C rfl h rfl hx1 hS dX9_latestIdle_49
    · rw [if_neg hc1] at h
      refine g_aload_n (n := 11) C 0 dX9_latestIdle_10 rfl rfl ?_
      refine g_getC (n := 14) C 0 5 rfl (Nat.le_of_ble_eq_true rfl) rfl rfl rfl (Nat.le_of_ble_eq_true rfl) in_X9_latestIdle_X9 (by decide +kernel) dX9_latestIdle_11 rfl ?_
      refine g_iload_n (n := 15) C 2 dX9_latestIdle_14 rfl rfl ?_
      obtain ⟨hg2, h⟩ := gd_e h
      refine g_iald (n := 16) C 5 rfl (Nat.le_of_ble_eq_true rfl) rfl rfl hg2 hx2 dX9_latestIdle_15 rfl ?_
      refine g_iconst (n := 17) C dX9_latestIdle_16 rfl ?_
      refine g_icmp_ne (n := 20) C 42 ((hS 5 _).2 (tn_lt hg2 (by decide))) (by decide : r32 2) dX9_latestIdle_17 (by decide) rfl (fun (hc3 : ¬ (S 5 x2.toNat = 2)) => ?_) (fun (hc3 : S 5 x2.toNat = 2) => ?_)
      · rw [if_neg hc3] at h
        obtain ⟨v4, ev4, h⟩ := nmV_e h
        have hv4 : r32 v4 := by rw [ev4]; exact w32_r _
        refine g_iinc (n := 45) (lv' := [(2, vI v4), (0, .ref (ad 0)), (1, vI x1)]) C 2 dX9_latestIdle_42 rfl (Nat.le_of_ble_eq_true rfl) ev4 rfl rfl ?_
        refine g_goto C 4 dX9_latestIdle_45 (by decide) ?_
        refine g_lv [1, 2, 0] rfl ?_
        exact ih x1 v4 S hS hx1 hv4 h
      · rw [if_pos hc3] at h
        refine g_iload_n (n := 21) C 1 dX9_latestIdle_20 rfl rfl ?_
        refine g_iconst (n := 22) C dX9_latestIdle_21 rfl ?_
        refine g_icmp_eq (n := 25) C 40 hx1 (by decide : r32 (-1)) dX9_latestIdle_22 (by decide) rfl (fun (hc5 : x1 = (-1)) => ?_) (fun (hc5 : ¬ (x1 = (-1))) => ?_)
        · rw [if_pos hc5] at h
          refine g_iload_n (n := 41) C 2 dX9_latestIdle_40 rfl rfl ?_
          refine g_istore_n (n := 42) (lv' := [(1, vI x2), (0, .ref (ad 0)), (2, vI x2)]) C dX9_latestIdle_41 (Nat.le_of_ble_eq_true rfl) rfl rfl rfl ?_
          obtain ⟨v6, ev6, h⟩ := nmV_e h
          have hv6 : r32 v6 := by rw [ev6]; exact w32_r _
          refine g_iinc (n := 45) (lv' := [(2, vI v6), (1, vI x2), (0, .ref (ad 0))]) C 2 dX9_latestIdle_42 rfl (Nat.le_of_ble_eq_true rfl) ev6 rfl rfl ?_
          refine g_goto C 4 dX9_latestIdle_45 (by decide) ?_
          refine g_lv [2, 1, 0] rfl ?_
          exact ih x2 v6 S hS hx2 hv6 h
        · rw [if_neg hc5] at h
          refine g_aload_n (n := 26) C 0 dX9_latestIdle_25 rfl rfl ?_
          refine g_getC (n := 29) C 0 9 rfl (Nat.le_of_ble_eq_true rfl) rfl rfl rfl (Nat.le_of_ble_eq_true rfl) in_X9_latestIdle_X9 (by decide +kernel) dX9_latestIdle_26 rfl ?_
          refine g_iload_n (n := 30) C 2 dX9_latestIdle_29 rfl rfl ?_
          refine g_iald (n := 31) C 9 rfl (Nat.le_of_ble_eq_true rfl) rfl rfl hg2 hx2 dX9_latestIdle_30 rfl ?_
          refine g_aload_n (n := 32) C 0 dX9_latestIdle_31 rfl rfl ?_
          refine g_getC (n := 35) C 0 9 rfl (Nat.le_of_ble_eq_true rfl) rfl rfl rfl (Nat.le_of_ble_eq_true rfl) in_X9_latestIdle_X9 (by decide +kernel) dX9_latestIdle_32 rfl ?_
          refine g_iload_n (n := 36) C 1 dX9_latestIdle_35 rfl rfl ?_
          obtain ⟨hg7, h⟩ := gd_e h
          refine g_iald (n := 37) C 9 rfl (Nat.le_of_ble_eq_true rfl) rfl rfl hg7 hx1 dX9_latestIdle_36 rfl ?_
          refine g_icmp_le (n := 40) C 42 ((hS 9 _).2 (tn_lt hg2 (by decide))) ((hS 9 _).2 (tn_lt hg7 (by decide))) dX9_latestIdle_37 (by decide) rfl (fun (hc8 : S 9 x2.toNat ≤ S 9 x1.toNat) => ?_) (fun (hc8 : ¬ (S 9 x2.toNat ≤ S 9 x1.toNat)) => ?_)
          · rw [if_pos hc8] at h
            obtain ⟨v9, ev9, h⟩ := nmV_e h
            have hv9 : r32 v9 := by rw [ev9]; exact w32_r _
            refine g_iinc (n := 45) (lv' := [(2, vI v9), (0, .ref (ad 0)), (1, vI x1)]) C 2 dX9_latestIdle_42 rfl (Nat.le_of_ble_eq_true rfl) ev9 rfl rfl ?_
            refine g_goto C 4 dX9_latestIdle_45 (by decide) ?_
            refine g_lv [1, 2, 0] rfl ?_
            exact ih x1 v9 S hS hx1 hv9 h
          · rw [if_neg hc8] at h
            refine g_iload_n (n := 41) C 2 dX9_latestIdle_40 rfl rfl ?_
            refine g_istore_n (n := 42) (lv' := [(1, vI x2), (0, .ref (ad 0)), (2, vI x2)]) C dX9_latestIdle_41 (Nat.le_of_ble_eq_true rfl) rfl rfl rfl ?_
            obtain ⟨v10, ev10, h⟩ := nmV_e h
            have hv10 : r32 v10 := by rw [ev10]; exact w32_r _
            refine g_iinc (n := 45) (lv' := [(2, vI v10), (1, vI x2), (0, .ref (ad 0))]) C 2 dX9_latestIdle_42 rfl (Nat.le_of_ble_eq_true rfl) ev10 rfl rfl ?_
            refine g_goto C 4 dX9_latestIdle_45 (by decide) ?_
            refine g_lv [2, 1, 0] rfl ?_
            exact ih x2 v10 S hS hx2 hv10 h
def dn_X9_latestIdle (S : St) : Option (St × Int) := dn_X9_latestIdle_4 FU (-1) 0 S
set_option maxRecDepth 100000 in
set_option maxHeartbeats 4000000 in
theorem c_X9_latestIdle {l : Launch} {D : va_G} {t : T5} {ad : Nat → Nat} {S S0 : St} {r0 : Int} (hS : RS S) (h : dn_X9_latestIdle S = some (S0, r0)) : Mc l (sM D t ad) yX9_latestIdle wsX9_latestIdle rm_X9_latestIdle [.ref (ad 0)] acI S S0 r0 := by
  refine Mc_of (cc := cX9_latestIdle) (nL := 3) (ret := (some .int)) (by decide +kernel) rfl (Nat.le_of_ble_eq_true rfl) (lv := [(0, .ref (ad 0))]) rfl (fun x C _ => ?_)
  unfold dn_X9_latestIdle at h
  show GW (sM D t ad) mi_X9_latestIdle (acI, S0, r0) x S 0 [(0, .ref (ad 0))] []
  refine g_iconst (n := 1) C dX9_latestIdle_0 rfl ?_
  refine g_istore_n (n := 2) (lv' := [(1, vI (-1)), (0, .ref (ad 0))]) C dX9_latestIdle_1 (Nat.le_of_ble_eq_true rfl) rfl rfl rfl ?_
  refine g_iconst (n := 3) C dX9_latestIdle_2 rfl ?_
  refine g_istore_n (n := 4) (lv' := [(2, vI 0), (1, vI (-1)), (0, .ref (ad 0))]) C dX9_latestIdle_3 (Nat.le_of_ble_eq_true rfl) rfl rfl rfl ?_
  refine g_lv [2, 1, 0] rfl ?_
  exact u_X9_latestIdle_4 C FU (-1) 0 S hS (by decide : r32 (-1)) (by decide : r32 0) h
-- RX9 share
abbrev rm_X9_share : Room := ({ frames := 2, cells := 0, slots := 0, locals := 47 } : Room)
abbrev mi_X9_share : Mi := (cX9_share, 4, RX9, wsX9_share, rm_X9_share, none)
set_option maxRecDepth 20000 in
theorem in_X9_share_X9 : ∀ w ∈ u_ws RX9 TX9 39, w ∈ wsX9_share := by decide +kernel
def dn_X9_share_41 (k10 : Int → Int → St → Option (St × Int)) (x1 : Int) (x2 : Int) (x3 : Int) (S : St) : Option (St × Int) := (if x3 ≤ 0 then (if x3 = 0 then (if 0 ≤ x2 ∧ x2 < 12 then (if S 6 x2.toNat = 0 then (cal (dn_X9_lend x2 x1 S) fun S24 v25 => (cal (dn_X9_firstWaiting S24) fun S27 v28 => (cal (dn_X9_latestIdle S27) fun S30 v31 => k10 v28 v31 S30))) else (cal (dn_X9_go x2 S) fun S33 v34 => (cal (dn_X9_firstWaiting S33) fun S36 v37 => (cal (dn_X9_latestIdle S36) fun S39 v40 => k10 v37 v40 S39)))) else none) else (cal (dn_X9_lend x2 x1 S) fun S13 v14 => (cal (dn_X9_firstWaiting S13) fun S16 v17 => (cal (dn_X9_latestIdle S16) fun S19 v20 => k10 v17 v20 S19)))) else (if 0 ≤ x2 ∧ x2 < 12 then (nmS (stU S 5 x2.toNat 3) fun S43 => (nmS (stU S43 7 x2.toNat x1) fun S44 => (nmS (stU S44 8 x2.toNat x3) fun S45 => (if 0 ≤ x1 ∧ x1 < 60 then (nmS (stU S45 15 x1.toNat 2) fun S47 => (cal (dn_X9_say 8 x1 x2 S47) fun S48 v49 => (cal (dn_X9_firstWaiting S48) fun S51 v52 => (cal (dn_X9_latestIdle S51) fun S54 v55 => k10 v52 v55 S54)))) else none)))) else none))
set_option maxRecDepth 100000 in
set_option maxHeartbeats 4000000 in
theorem u_X9_share_41 {D : va_G} {t : T5} {ad : Nat → Nat} {S0 : St} {r0 : Int} {x : Mx} (C : CX (sM D t ad) mi_X9_share x) {k10 : Int → Int → St → Option (St × Int)} (hk10 : ∀ (x1 : Int) (x2 : Int) (S : St), RS S → (r32 x1) → (r32 x2) → k10 x1 x2 S = some (S0, r0) → GW (sM D t ad) mi_X9_share (acV, S0, r0) x S 10 [(0, .ref (ad 0)), (1, vI x1), (2, vI x2)] []) : ∀ (x1 : Int) (x2 : Int) (x3 : Int) (S : St), RS S → (r32 x1) → (r32 x2) → (r32 x3) → dn_X9_share_41 k10 x1 x2 x3 S = some (S0, r0) → GW (sM D t ad) mi_X9_share (acV, S0, r0) x S 41 [(0, .ref (ad 0)), (1, vI x1), (2, vI x2), (3, vI x3)] [] := by
  intro x1 x2 x3 S hS hx1 hx2 hx3 h
  unfold dn_X9_share_41 at h
  refine g_iload_n (n := 42) C 3 dX9_share_41 rfl rfl ?_
  refine g_if_le (n := 45) C 84 hx3 dX9_share_42 (by decide) rfl (fun (hc11 : x3 ≤ 0) => ?_) (fun (hc11 : ¬ (x3 ≤ 0)) => ?_)
  · rw [if_pos hc11] at h
    refine g_iload_n (n := 85) C 3 dX9_share_84 rfl rfl ?_
    refine g_if_ne (n := 88) C 105 hx3 dX9_share_85 (by decide) rfl (fun (hc12 : ¬ (x3 = 0)) => ?_) (fun (hc12 : x3 = 0) => ?_)
    · rw [if_neg hc12] at h
      refine g_aload_n (n := 106) C 0 dX9_share_105 rfl rfl ?_
      refine g_iload_n (n := 107) C 2 dX9_share_106 rfl rfl ?_
      refine g_iload_n (n := 108) C 1 dX9_share_107 rfl rfl ?_
      obtain ⟨S13, v14, hq15, h⟩ := cal_e h
      refine g_callV (n := 111) (As := [vI x2, vI x1]) (rest := []) C 0 2 (Nat.le_of_ble_eq_true rfl) rfl rfl (c_X9_lend hS hx2 hx1 hq15) gX9_share_X9_lend rfl ⟨rfl, rfl⟩ (by decide +kernel) ⟨Nat.le_of_ble_eq_true rfl, Nat.le_of_ble_eq_true rfl⟩ rfl rfl rfl (Nat.le_of_ble_eq_true rfl) dX9_share_108 rfl (fun hS13 hv14 => ?_)
      show GW (sM D t ad) mi_X9_share (acV, S0, r0) x S13 111 _ []
      refine g_aload_n (n := 112) C 0 dX9_share_111 rfl rfl ?_
      obtain ⟨S16, v17, hq18, h⟩ := cal_e h
      refine g_callV (n := 115) (As := []) (rest := []) C 0 0 (Nat.le_of_ble_eq_true rfl) rfl rfl (c_X9_firstWaiting hS13 hq18) gX9_share_X9_firstWaiting rfl ⟨rfl, rfl⟩ (by decide +kernel) ⟨Nat.le_of_ble_eq_true rfl, Nat.le_of_ble_eq_true rfl⟩ rfl rfl rfl (Nat.le_of_ble_eq_true rfl) dX9_share_112 rfl (fun hS16 hv17 => ?_)
      show GW (sM D t ad) mi_X9_share (acV, S0, r0) x S16 115 _ [vI v17]
      refine g_istore_n (n := 116) (lv' := [(1, vI v17), (0, .ref (ad 0)), (2, vI x2), (3, vI x3)]) C dX9_share_115 (Nat.le_of_ble_eq_true rfl) rfl rfl rfl ?_
      refine g_aload_n (n := 117) C 1 dX9_share_116 rfl rfl ?_
      obtain ⟨S19, v20, hq21, h⟩ := cal_e h
      refine g_callV (n := 120) (As := []) (rest := []) C 0 0 (Nat.le_of_ble_eq_true rfl) rfl rfl (c_X9_latestIdle hS16 hq21) gX9_share_X9_latestIdle rfl ⟨rfl, rfl⟩ (by decide +kernel) ⟨Nat.le_of_ble_eq_true rfl, Nat.le_of_ble_eq_true rfl⟩ rfl rfl rfl (Nat.le_of_ble_eq_true rfl) dX9_share_117 rfl (fun hS19 hv20 => ?_)
      show GW (sM D t ad) mi_X9_share (acV, S0, r0) x S19 120 _ [vI v20]
      refine g_istore_n (n := 121) (lv' := [(2, vI v20), (1, vI v17), (0, .ref (ad 0)), (3, vI x3)]) C dX9_share_120 (Nat.le_of_ble_eq_true rfl) rfl rfl rfl ?_
      refine g_goto C 10 dX9_share_121 (by decide) ?_
      refine g_lv [2, 1, 0] rfl ?_
      exact hk10 v17 v20 S19 hS19 hv17 hv20 h
    · rw [if_pos hc12] at h
      refine g_aload_n (n := 89) C 0 dX9_share_88 rfl rfl ?_
      refine g_getC (n := 92) C 0 6 rfl (Nat.le_of_ble_eq_true rfl) rfl rfl rfl (Nat.le_of_ble_eq_true rfl) in_X9_share_X9 (by decide +kernel) dX9_share_89 rfl ?_
      refine g_iload_n (n := 93) C 2 dX9_share_92 rfl rfl ?_
      obtain ⟨hg22, h⟩ := gd_e h
      refine g_zald (n := 94) C 6 rfl (Nat.le_of_ble_eq_true rfl) rfl rfl hg22 hx2 dX9_share_93 rfl ?_
      refine g_if_eq (n := 97) C 105 ((hS 6 _).2 (tn_lt hg22 (by decide))) dX9_share_94 (by decide) rfl (fun (hc23 : S 6 x2.toNat = 0) => ?_) (fun (hc23 : ¬ (S 6 x2.toNat = 0)) => ?_)
      · rw [if_pos hc23] at h
        refine g_aload_n (n := 106) C 0 dX9_share_105 rfl rfl ?_
        refine g_iload_n (n := 107) C 2 dX9_share_106 rfl rfl ?_
        refine g_iload_n (n := 108) C 1 dX9_share_107 rfl rfl ?_
        obtain ⟨S24, v25, hq26, h⟩ := cal_e h
        refine g_callV (n := 111) (As := [vI x2, vI x1]) (rest := []) C 0 2 (Nat.le_of_ble_eq_true rfl) rfl rfl (c_X9_lend hS hx2 hx1 hq26) gX9_share_X9_lend rfl ⟨rfl, rfl⟩ (by decide +kernel) ⟨Nat.le_of_ble_eq_true rfl, Nat.le_of_ble_eq_true rfl⟩ rfl rfl rfl (Nat.le_of_ble_eq_true rfl) dX9_share_108 rfl (fun hS24 hv25 => ?_)
        show GW (sM D t ad) mi_X9_share (acV, S0, r0) x S24 111 _ []
        refine g_aload_n (n := 112) C 0 dX9_share_111 rfl rfl ?_
        obtain ⟨S27, v28, hq29, h⟩ := cal_e h
        refine g_callV (n := 115) (As := []) (rest := []) C 0 0 (Nat.le_of_ble_eq_true rfl) rfl rfl (c_X9_firstWaiting hS24 hq29) gX9_share_X9_firstWaiting rfl ⟨rfl, rfl⟩ (by decide +kernel) ⟨Nat.le_of_ble_eq_true rfl, Nat.le_of_ble_eq_true rfl⟩ rfl rfl rfl (Nat.le_of_ble_eq_true rfl) dX9_share_112 rfl (fun hS27 hv28 => ?_)
        show GW (sM D t ad) mi_X9_share (acV, S0, r0) x S27 115 _ [vI v28]
        refine g_istore_n (n := 116) (lv' := [(1, vI v28), (0, .ref (ad 0)), (2, vI x2), (3, vI x3)]) C dX9_share_115 (Nat.le_of_ble_eq_true rfl) rfl rfl rfl ?_
        refine g_aload_n (n := 117) C 1 dX9_share_116 rfl rfl ?_
        obtain ⟨S30, v31, hq32, h⟩ := cal_e h
        refine g_callV (n := 120) (As := []) (rest := []) C 0 0 (Nat.le_of_ble_eq_true rfl) rfl rfl (c_X9_latestIdle hS27 hq32) gX9_share_X9_latestIdle rfl ⟨rfl, rfl⟩ (by decide +kernel) ⟨Nat.le_of_ble_eq_true rfl, Nat.le_of_ble_eq_true rfl⟩ rfl rfl rfl (Nat.le_of_ble_eq_true rfl) dX9_share_117 rfl (fun hS30 hv31 => ?_)
        show GW (sM D t ad) mi_X9_share (acV, S0, r0) x S30 120 _ [vI v31]
        refine g_istore_n (n := 121) (lv' := [(2, vI v31), (1, vI v28), (0, .ref (ad 0)), (3, vI x3)]) C dX9_share_120 (Nat.le_of_ble_eq_true rfl) rfl rfl rfl ?_
        refine g_goto C 10 dX9_share_121 (by decide) ?_
        refine g_lv [2, 1, 0] rfl ?_
        exact hk10 v28 v31 S30 hS30 hv28 hv31 h
      · rw [if_neg hc23] at h
        refine g_aload_n (n := 98) C 0 dX9_share_97 rfl rfl ?_
        refine g_iload_n (n := 99) C 2 dX9_share_98 rfl rfl ?_
        obtain ⟨S33, v34, hq35, h⟩ := cal_e h
        refine g_callV (n := 102) (As := [vI x2]) (rest := []) C 0 1 (Nat.le_of_ble_eq_true rfl) rfl rfl (c_X9_go hS hx2 hq35) gX9_share_X9_go rfl ⟨rfl, rfl⟩ (by decide +kernel) ⟨Nat.le_of_ble_eq_true rfl, Nat.le_of_ble_eq_true rfl⟩ rfl rfl rfl (Nat.le_of_ble_eq_true rfl) dX9_share_99 rfl (fun hS33 hv34 => ?_)
        show GW (sM D t ad) mi_X9_share (acV, S0, r0) x S33 102 _ []
        refine g_goto C 111 dX9_share_102 (by decide) ?_
        refine g_aload_n (n := 112) C 0 dX9_share_111 rfl rfl ?_
        obtain ⟨S36, v37, hq38, h⟩ := cal_e h
        refine g_callV (n := 115) (As := []) (rest := []) C 0 0 (Nat.le_of_ble_eq_true rfl) rfl rfl (c_X9_firstWaiting hS33 hq38) gX9_share_X9_firstWaiting rfl ⟨rfl, rfl⟩ (by decide +kernel) ⟨Nat.le_of_ble_eq_true rfl, Nat.le_of_ble_eq_true rfl⟩ rfl rfl rfl (Nat.le_of_ble_eq_true rfl) dX9_share_112 rfl (fun hS36 hv37 => ?_)
        show GW (sM D t ad) mi_X9_share (acV, S0, r0) x S36 115 _ [vI v37]
        refine g_istore_n (n := 116) (lv' := [(1, vI v37), (0, .ref (ad 0)), (2, vI x2), (3, vI x3)]) C dX9_share_115 (Nat.le_of_ble_eq_true rfl) rfl rfl rfl ?_
        refine g_aload_n (n := 117) C 1 dX9_share_116 rfl rfl ?_
        obtain ⟨S39, v40, hq41, h⟩ := cal_e h
        refine g_callV (n := 120) (As := []) (rest := []) C 0 0 (Nat.le_of_ble_eq_true rfl) rfl rfl (c_X9_latestIdle hS36 hq41) gX9_share_X9_latestIdle rfl ⟨rfl, rfl⟩ (by decide +kernel) ⟨Nat.le_of_ble_eq_true rfl, Nat.le_of_ble_eq_true rfl⟩ rfl rfl rfl (Nat.le_of_ble_eq_true rfl) dX9_share_117 rfl (fun hS39 hv40 => ?_)
        show GW (sM D t ad) mi_X9_share (acV, S0, r0) x S39 120 _ [vI v40]
        refine g_istore_n (n := 121) (lv' := [(2, vI v40), (1, vI v37), (0, .ref (ad 0)), (3, vI x3)]) C dX9_share_120 (Nat.le_of_ble_eq_true rfl) rfl rfl rfl ?_
        refine g_goto C 10 dX9_share_121 (by decide) ?_
        refine g_lv [2, 1, 0] rfl ?_
        exact hk10 v37 v40 S39 hS39 hv37 hv40 h
  · rw [if_neg hc11] at h
    refine g_aload_n (n := 46) C 0 dX9_share_45 rfl rfl ?_
    refine g_getC (n := 49) C 0 5 rfl (Nat.le_of_ble_eq_true rfl) rfl rfl rfl (Nat.le_of_ble_eq_true rfl) in_X9_share_X9 (by decide +kernel) dX9_share_46 rfl ?_
    refine g_iload_n (n := 50) C 2 dX9_share_49 rfl rfl ?_
    refine g_iconst (n := 51) C dX9_share_50 rfl ?_
    obtain ⟨hg42, h⟩ := gd_e h
    obtain ⟨S43, eS43, h⟩ := nmS_e h
    have hS43 : RS S43 := by rw [eS43]; exact RS_i hS (by decide : r32 3)
    refine g_iast (n := 52) C 5 rfl (Nat.le_of_ble_eq_true rfl) rfl rfl hg42 hx2 eS43 dX9_share_51 rfl ?_
    refine g_aload_n (n := 53) C 0 dX9_share_52 rfl rfl ?_
    refine g_getC (n := 56) C 0 7 rfl (Nat.le_of_ble_eq_true rfl) rfl rfl rfl (Nat.le_of_ble_eq_true rfl) in_X9_share_X9 (by decide +kernel) dX9_share_53 rfl ?_
    refine g_iload_n (n := 57) C 2 dX9_share_56 rfl rfl ?_
    refine g_iload_n (n := 58) C 1 dX9_share_57 rfl rfl ?_
    obtain ⟨S44, eS44, h⟩ := nmS_e h
    have hS44 : RS S44 := by rw [eS44]; exact RS_i hS43 hx1
    refine g_iast (n := 59) C 7 rfl (Nat.le_of_ble_eq_true rfl) rfl rfl hg42 hx2 eS44 dX9_share_58 rfl ?_
    refine g_aload_n (n := 60) C 0 dX9_share_59 rfl rfl ?_
    refine g_getC (n := 63) C 0 8 rfl (Nat.le_of_ble_eq_true rfl) rfl rfl rfl (Nat.le_of_ble_eq_true rfl) in_X9_share_X9 (by decide +kernel) dX9_share_60 rfl ?_
    refine g_iload_n (n := 64) C 2 dX9_share_63 rfl rfl ?_
    refine g_iload_n (n := 65) C 3 dX9_share_64 rfl rfl ?_
    obtain ⟨S45, eS45, h⟩ := nmS_e h
    have hS45 : RS S45 := by rw [eS45]; exact RS_i hS44 hx3
    refine g_iast (n := 66) C 8 rfl (Nat.le_of_ble_eq_true rfl) rfl rfl hg42 hx2 eS45 dX9_share_65 rfl ?_
    refine g_aload_n (n := 67) C 0 dX9_share_66 rfl rfl ?_
    refine g_getC (n := 70) C 0 15 rfl (Nat.le_of_ble_eq_true rfl) rfl rfl rfl (Nat.le_of_ble_eq_true rfl) in_X9_share_X9 (by decide +kernel) dX9_share_67 rfl ?_
    refine g_iload_n (n := 71) C 1 dX9_share_70 rfl rfl ?_
    refine g_iconst (n := 72) C dX9_share_71 rfl ?_
    obtain ⟨hg46, h⟩ := gd_e h
    obtain ⟨S47, eS47, h⟩ := nmS_e h
    have hS47 : RS S47 := by rw [eS47]; exact RS_i hS45 (by decide : r32 2)
    refine g_iast (n := 73) C 15 rfl (Nat.le_of_ble_eq_true rfl) rfl rfl hg46 hx1 eS47 dX9_share_72 rfl ?_
    refine g_aload_n (n := 74) C 0 dX9_share_73 rfl rfl ?_
    refine g_bipush (n := 76) C dX9_share_74 (by decide +kernel) rfl ?_
    refine g_iload_n (n := 77) C 1 dX9_share_76 rfl rfl ?_
    refine g_iload_n (n := 78) C 2 dX9_share_77 rfl rfl ?_
    obtain ⟨S48, v49, hq50, h⟩ := cal_e h
    refine g_callV (n := 81) (As := [vI 8, vI x1, vI x2]) (rest := []) C 0 3 (Nat.le_of_ble_eq_true rfl) rfl rfl (c_X9_say hS47 (by decide : r32 8) hx1 hx2 hq50) gX9_share_X9_say rfl ⟨rfl, rfl⟩ (by decide +kernel) ⟨Nat.le_of_ble_eq_true rfl, Nat.le_of_ble_eq_true rfl⟩ rfl rfl rfl (Nat.le_of_ble_eq_true rfl) dX9_share_78 rfl (fun hS48 hv49 => ?_)
    show GW (sM D t ad) mi_X9_share (acV, S0, r0) x S48 81 _ []
    refine g_goto C 111 dX9_share_81 (by decide) ?_
    refine g_aload_n (n := 112) C 0 dX9_share_111 rfl rfl ?_
    obtain ⟨S51, v52, hq53, h⟩ := cal_e h
    refine g_callV (n := 115) (As := []) (rest := []) C 0 0 (Nat.le_of_ble_eq_true rfl) rfl rfl (c_X9_firstWaiting hS48 hq53) gX9_share_X9_firstWaiting rfl ⟨rfl, rfl⟩ (by decide +kernel) ⟨Nat.le_of_ble_eq_true rfl, Nat.le_of_ble_eq_true rfl⟩ rfl rfl rfl (Nat.le_of_ble_eq_true rfl) dX9_share_112 rfl (fun hS51 hv52 => ?_)
    show GW (sM D t ad) mi_X9_share (acV, S0, r0) x S51 115 _ [vI v52]
    refine g_istore_n (n := 116) (lv' := [(1, vI v52), (0, .ref (ad 0)), (2, vI x2), (3, vI x3)]) C dX9_share_115 (Nat.le_of_ble_eq_true rfl) rfl rfl rfl ?_
    refine g_aload_n (n := 117) C 1 dX9_share_116 rfl rfl ?_
    obtain ⟨S54, v55, hq56, h⟩ := cal_e h
    refine g_callV (n := 120) (As := []) (rest := []) C 0 0 (Nat.le_of_ble_eq_true rfl) rfl rfl (c_X9_latestIdle hS51 hq56) gX9_share_X9_latestIdle rfl ⟨rfl, rfl⟩ (by decide +kernel) ⟨Nat.le_of_ble_eq_true rfl, Nat.le_of_ble_eq_true rfl⟩ rfl rfl rfl (Nat.le_of_ble_eq_true rfl) dX9_share_117 rfl (fun hS54 hv55 => ?_)
    show GW (sM D t ad) mi_X9_share (acV, S0, r0) x S54 120 _ [vI v55]
    refine g_istore_n (n := 121) (lv' := [(2, vI v55), (1, vI v52), (0, .ref (ad 0)), (3, vI x3)]) C dX9_share_120 (Nat.le_of_ble_eq_true rfl) rfl rfl rfl ?_
    refine g_goto C 10 dX9_share_121 (by decide) ?_
    refine g_lv [2, 1, 0] rfl ?_
    exact hk10 v52 v55 S54 hS54 hv52 hv55 h
def dn_X9_share_10 : Nat → Int → Int → St → Option (St × Int)
  | 0, _, _, _ => none
  | n + 1, x1, x2, S => (if x1 = (-1) then some (S, 0) else (if x2 = (-1) then some (S, 0) else (nmV (S 1 2) fun v9 => (if v9 < 0 then dn_X9_share_41 (fun x1_ x2_ S_ => dn_X9_share_10 n x1_ x2_ S_) x1 x2 v9 S else (nmS (stU S 0 25 (w32 ((S 0 25) + 1))) fun S57 => dn_X9_share_41 (fun x1_ x2_ S_ => dn_X9_share_10 n x1_ x2_ S_) x1 x2 v9 S57)))))
set_option maxRecDepth 100000 in
set_option maxHeartbeats 4000000 in
theorem u_X9_share_10 {D : va_G} {t : T5} {ad : Nat → Nat} {S0 : St} {r0 : Int} {x : Mx} (C : CX (sM D t ad) mi_X9_share x) : ∀ (n : Nat) (x1 : Int) (x2 : Int) (S : St), RS S → (r32 x1) → (r32 x2) → dn_X9_share_10 n x1 x2 S = some (S0, r0) → GW (sM D t ad) mi_X9_share (acV, S0, r0) x S 10 [(0, .ref (ad 0)), (1, vI x1), (2, vI x2)] [] := by
  intro n
  induction n with
  | zero =>
    intro x1 x2 S hS hx1 hx2 h
    cases h
  | succ n ih =>
    intro x1 x2 S hS hx1 hx2 h
    rw [dn_X9_share_10] at h
    refine g_iload_n (n := 11) C 1 dX9_share_10 rfl rfl ?_
    refine g_iconst (n := 12) C dX9_share_11 rfl ?_
    refine g_icmp_eq (n := 15) C 124 hx1 (by decide : r32 (-1)) dX9_share_12 (by decide) rfl (fun (hc7 : x1 = (-1)) => ?_) (fun (hc7 : ¬ (x1 = (-1))) => ?_)
    · rw [if_pos hc7] at h
      exact g_vret C rfl h rfl trivial hS dX9_share_124
    · rw [if_neg hc7] at h
      refine g_iload_n (n := 16) C 2 dX9_share_15 rfl rfl ?_
      refine g_iconst (n := 17) C dX9_share_16 rfl ?_
      refine g_icmp_eq (n := 20) C 124 hx2 (by decide : r32 (-1)) dX9_share_17 (by decide) rfl (fun (hc8 : x2 = (-1)) => ?_) (fun (hc8 : ¬ (x2 = (-1))) => ?_)
      · rw [if_pos hc8] at h
        exact g_vret C rfl h rfl trivial hS dX9_share_124
      · rw [if_neg hc8] at h
        refine g_aload_n (n := 21) C 0 dX9_share_20 rfl rfl ?_
        refine g_getC (n := 24) C 0 0 rfl (Nat.le_of_ble_eq_true rfl) rfl rfl rfl (Nat.le_of_ble_eq_true rfl) in_X9_share_X9 (by decide +kernel) dX9_share_21 rfl ?_
        refine g_iconst (n := 25) C dX9_share_24 rfl ?_
        refine g_iald (n := 26) C 1 rfl (Nat.le_of_ble_eq_true rfl) rfl rfl (by decide : 0 ≤ (2 : Int) ∧ (2 : Int) < 6) (by decide : r32 2) dX9_share_25 rfl ?_
        obtain ⟨v9, ev9, h⟩ := nmV_e h
        have hv9 : r32 v9 := by rw [ev9]; exact (hS 1 _).2 (tn_lt (by decide : 0 ≤ (2 : Int) ∧ (2 : Int) < 6) (by decide))
        refine g_istore_n (n := 27) (lv' := [(3, vI v9), (0, .ref (ad 0)), (1, vI x1), (2, vI x2)]) C dX9_share_26 (Nat.le_of_ble_eq_true rfl) ev9 rfl rfl ?_
        refine g_iload_n (n := 28) C 0 dX9_share_27 rfl rfl ?_
        refine g_if_lt (n := 31) C 41 hv9 dX9_share_28 (by decide) rfl (fun (hc10 : v9 < 0) => ?_) (fun (hc10 : ¬ (v9 < 0)) => ?_)
        · rw [if_pos hc10] at h
          refine g_lv [1, 2, 3, 0] rfl ?_
          exact u_X9_share_41 C ih x1 x2 v9 S hS hx1 hx2 hv9 h
        · rw [if_neg hc10] at h
          refine g_aload_n (n := 32) C 1 dX9_share_31 rfl rfl ?_
          refine g_dup (n := 33) C rfl dX9_share_32 rfl ?_
          refine g_getI (n := 36) C 0 25 rfl (Nat.le_of_ble_eq_true rfl) rfl rfl rfl (Nat.le_of_ble_eq_true rfl) in_X9_share_X9 (by decide +kernel) dX9_share_33 rfl ?_
          refine g_iconst (n := 37) C dX9_share_36 rfl ?_
          refine g_iadd (n := 38) C dX9_share_37 rfl ?_
          obtain ⟨S57, eS57, h⟩ := nmS_e h
          have hS57 : RS S57 := by rw [eS57]; exact RS_i hS (w32_r _)
          refine g_putI (n := 41) C 0 25 rfl (Nat.le_of_ble_eq_true rfl) rfl rfl rfl (Nat.le_of_ble_eq_true rfl) in_X9_share_X9 tyX9_ok nmX9 (by decide +kernel) rfl (by decide +kernel) (Nat.le_of_ble_eq_true rfl) eS57 dX9_share_38 rfl ?_
          refine g_lv [1, 2, 3, 0] rfl ?_
          exact u_X9_share_41 C ih x1 x2 v9 S57 hS57 hx1 hx2 hv9 h
def dn_X9_share (S : St) : Option (St × Int) := (cal (dn_X9_firstWaiting S) fun S1 v2 => (cal (dn_X9_latestIdle S1) fun S4 v5 => dn_X9_share_10 FU v2 v5 S4))
set_option maxRecDepth 100000 in
set_option maxHeartbeats 4000000 in
theorem c_X9_share {l : Launch} {D : va_G} {t : T5} {ad : Nat → Nat} {S S0 : St} {r0 : Int} (hS : RS S) (h : dn_X9_share S = some (S0, r0)) : Mc l (sM D t ad) yX9_share wsX9_share rm_X9_share [.ref (ad 0)] acV S S0 r0 := by
  refine Mc_of (cc := cX9_share) (nL := 4) (ret := none) (by decide +kernel) rfl (Nat.le_of_ble_eq_true rfl) (lv := [(0, .ref (ad 0))]) rfl (fun x C _ => ?_)
  unfold dn_X9_share at h
  show GW (sM D t ad) mi_X9_share (acV, S0, r0) x S 0 [(0, .ref (ad 0))] []
  refine g_aload_n (n := 1) C 0 dX9_share_0 rfl rfl ?_
  obtain ⟨S1, v2, hq3, h⟩ := cal_e h
  refine g_callV (n := 4) (As := []) (rest := []) C 0 0 (Nat.le_of_ble_eq_true rfl) rfl rfl (c_X9_firstWaiting hS hq3) gX9_share_X9_firstWaiting rfl ⟨rfl, rfl⟩ (by decide +kernel) ⟨Nat.le_of_ble_eq_true rfl, Nat.le_of_ble_eq_true rfl⟩ rfl rfl rfl (Nat.le_of_ble_eq_true rfl) dX9_share_1 rfl (fun hS1 hv2 => ?_)
  show GW (sM D t ad) mi_X9_share (acV, S0, r0) x S1 4 _ [vI v2]
  refine g_istore_n (n := 5) (lv' := [(1, vI v2), (0, .ref (ad 0))]) C dX9_share_4 (Nat.le_of_ble_eq_true rfl) rfl rfl rfl ?_
  refine g_aload_n (n := 6) C 1 dX9_share_5 rfl rfl ?_
  obtain ⟨S4, v5, hq6, h⟩ := cal_e h
  refine g_callV (n := 9) (As := []) (rest := []) C 0 0 (Nat.le_of_ble_eq_true rfl) rfl rfl (c_X9_latestIdle hS1 hq6) gX9_share_X9_latestIdle rfl ⟨rfl, rfl⟩ (by decide +kernel) ⟨Nat.le_of_ble_eq_true rfl, Nat.le_of_ble_eq_true rfl⟩ rfl rfl rfl (Nat.le_of_ble_eq_true rfl) dX9_share_6 rfl (fun hS4 hv5 => ?_)
  show GW (sM D t ad) mi_X9_share (acV, S0, r0) x S4 9 _ [vI v5]
  refine g_istore_n (n := 10) (lv' := [(2, vI v5), (1, vI v2), (0, .ref (ad 0))]) C dX9_share_9 (Nat.le_of_ble_eq_true rfl) rfl rfl rfl ?_
  refine g_lv [2, 1, 0] rfl ?_
  exact u_X9_share_10 C FU v2 v5 S4 hS4 hv2 hv5 h
