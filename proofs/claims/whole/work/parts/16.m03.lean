-- RX9 told
abbrev rm_X9_told : Room := ({ frames := 1, cells := 0, slots := 0, locals := 23 } : Room)
abbrev mi_X9_told : Mi := (cX9_told, 3, RX9, wsX9_told, rm_X9_told, (some .int))
set_option maxRecDepth 20000 in
theorem in_X9_told_X9 : ∀ w ∈ u_ws RX9 TX9 39, w ∈ wsX9_told := by decide +kernel
def dn_X9_told_26 (x1 : Int) (x2 : Int) (S : St) : Option (St × Int) := (nmS (stU S 0 33 1) fun S3 => some (S3, 0))
set_option maxRecDepth 100000 in
set_option maxHeartbeats 4000000 in
theorem u_X9_told_26 {D : va_G} {t : T5} {ad : Nat → Nat} {S0 : St} {r0 : Int} {x : Mx} (C : CX (sM D t ad) mi_X9_told x) : ∀ (x1 : Int) (x2 : Int) (S : St), RS S → (r32 x1) → (r32 x2) → dn_X9_told_26 x1 x2 S = some (S0, r0) → GW (sM D t ad) mi_X9_told (acI, S0, r0) x S 26 [(0, .ref (ad 0)), (1, vI x1), (2, vI x2)] [] := by
  intro x1 x2 S hS hx1 hx2 h
  unfold dn_X9_told_26 at h
  refine g_aload_n (n := 27) C 0 dX9_told_26 rfl rfl ?_
  refine g_iconst (n := 28) C dX9_told_27 rfl ?_
  obtain ⟨S3, eS3, h⟩ := nmS_e h
  have hS3 : RS S3 := by rw [eS3]; exact RS_i hS (by decide : r32 1)
  refine g_putI (n := 31) C 0 33 rfl (Nat.le_of_ble_eq_true rfl) rfl rfl rfl (Nat.le_of_ble_eq_true rfl) in_X9_told_X9 tyX9_ok nmX9 (by decide +kernel) rfl (by decide +kernel) (Nat.le_of_ble_eq_true rfl) eS3 dX9_told_28 rfl ?_
  refine g_iconst (n := 32) C dX9_told_31 rfl ?_
  exact g_iret C rfl h rfl (by decide : r32 0) hS3 dX9_told_32
def dn_X9_told (a0 : Int) (a1 : Int) (S : St) : Option (St × Int) := (nmS (stU S 0 33 0) fun S1 => (if a0 < 0 then dn_X9_told_26 a0 a1 S1 else (if S1 0 19 ≤ a0 then dn_X9_told_26 a0 a1 S1 else (if a1 < 0 then dn_X9_told_26 a0 a1 S1 else (if a1 ≤ 5 then (if a1 = 0 then (if 0 ≤ a0 ∧ a0 < 60 then some (S1, S1 15 a0.toNat) else none) else (if a1 = 1 then (if 0 ≤ a0 ∧ a0 < 60 then some (S1, S1 16 a0.toNat) else none) else (if a1 = 2 then (cal (dn_X9_linesOf a0 S1) fun S12 v13 => some (S12, v13)) else (if a1 = 3 then (if 0 ≤ a0 ∧ a0 < 60 then some (S1, S1 17 a0.toNat) else none) else (if a1 = 4 then (if 0 ≤ a0 ∧ a0 < 60 then some (S1, S1 10 a0.toNat) else none) else (if 0 ≤ a0 ∧ a0 < 60 then some (S1, S1 11 a0.toNat) else none)))))) else dn_X9_told_26 a0 a1 S1)))))
set_option maxRecDepth 100000 in
set_option maxHeartbeats 4000000 in
theorem c_X9_told {l : Launch} {D : va_G} {t : T5} {ad : Nat → Nat} {S S0 : St} {r0 : Int} {a0 a1 : Int} (hS : RS S) (ha0 : r32 a0) (ha1 : r32 a1) (h : dn_X9_told a0 a1 S = some (S0, r0)) : Mc l (sM D t ad) yX9_told wsX9_told rm_X9_told [.ref (ad 0), vI a0, vI a1] acI S S0 r0 := by
  refine Mc_of (cc := cX9_told) (nL := 3) (ret := (some .int)) (by decide +kernel) rfl (Nat.le_of_ble_eq_true rfl) (lv := [(0, .ref (ad 0)), (1, vI a0), (2, vI a1)]) rfl (fun x C _ => ?_)
  unfold dn_X9_told at h
  show GW (sM D t ad) mi_X9_told (acI, S0, r0) x S 0 [(0, .ref (ad 0)), (1, vI a0), (2, vI a1)] []
  refine g_aload_n (n := 1) C 0 dX9_told_0 rfl rfl ?_
  refine g_iconst (n := 2) C dX9_told_1 rfl ?_
  obtain ⟨S1, eS1, h⟩ := nmS_e h
  have hS1 : RS S1 := by rw [eS1]; exact RS_i hS (by decide : r32 0)
  refine g_putI (n := 5) C 0 33 rfl (Nat.le_of_ble_eq_true rfl) rfl rfl rfl (Nat.le_of_ble_eq_true rfl) in_X9_told_X9 tyX9_ok nmX9 (by decide +kernel) rfl (by decide +kernel) (Nat.le_of_ble_eq_true rfl) eS1 dX9_told_2 rfl ?_
  refine g_iload_n (n := 6) C 1 dX9_told_5 rfl rfl ?_
  refine g_if_lt (n := 9) C 26 ha0 dX9_told_6 (by decide) rfl (fun (hc2 : a0 < 0) => ?_) (fun (hc2 : ¬ (a0 < 0)) => ?_)
  · rw [if_pos hc2] at h
    refine g_lv [0, 1, 2] rfl ?_
    exact u_X9_told_26 C a0 a1 S1 hS1 ha0 ha1 h
  · rw [if_neg hc2] at h
    refine g_iload_n (n := 10) C 1 dX9_told_9 rfl rfl ?_
    refine g_aload_n (n := 11) C 0 dX9_told_10 rfl rfl ?_
    refine g_getI (n := 14) C 0 19 rfl (Nat.le_of_ble_eq_true rfl) rfl rfl rfl (Nat.le_of_ble_eq_true rfl) in_X9_told_X9 (by decide +kernel) dX9_told_11 rfl ?_
    refine g_icmp_ge (n := 17) C 26 ha0 ((hS1 0 19).2 (by decide)) dX9_told_14 (by decide) rfl (fun (hc4 : S1 0 19 ≤ a0) => ?_) (fun (hc4 : ¬ (S1 0 19 ≤ a0)) => ?_)
    · rw [if_pos hc4] at h
      refine g_lv [0, 1, 2] rfl ?_
      exact u_X9_told_26 C a0 a1 S1 hS1 ha0 ha1 h
    · rw [if_neg hc4] at h
      refine g_iload_n (n := 18) C 2 dX9_told_17 rfl rfl ?_
      refine g_if_lt (n := 21) C 26 ha1 dX9_told_18 (by decide) rfl (fun (hc5 : a1 < 0) => ?_) (fun (hc5 : ¬ (a1 < 0)) => ?_)
      · rw [if_pos hc5] at h
        refine g_lv [0, 1, 2] rfl ?_
        exact u_X9_told_26 C a0 a1 S1 hS1 ha0 ha1 h
      · rw [if_neg hc5] at h
        refine g_iload_n (n := 22) C 2 dX9_told_21 rfl rfl ?_
        refine g_iconst (n := 23) C dX9_told_22 rfl ?_
        refine g_icmp_le (n := 26) C 33 ha1 (by decide : r32 5) dX9_told_23 (by decide) rfl (fun (hc6 : a1 ≤ 5) => ?_) (fun (hc6 : ¬ (a1 ≤ 5)) => ?_)
        · rw [if_pos hc6] at h
          refine g_iload_n (n := 34) C 2 dX9_told_33 rfl rfl ?_
          by_cases hc7 : a1 = 0
          · rw [if_pos hc7] at h
            refine g_tabIn C 0 68 ha1 dX9_told_34 hc7 (by decide) rfl (by decide) ?_
            refine g_aload_n (n := 69) C 0 dX9_told_68 rfl rfl ?_
            refine g_getC (n := 72) C 0 15 rfl (Nat.le_of_ble_eq_true rfl) rfl rfl rfl (Nat.le_of_ble_eq_true rfl) in_X9_told_X9 (by decide +kernel) dX9_told_69 rfl ?_
            refine g_iload_n (n := 73) C 1 dX9_told_72 rfl rfl ?_
            obtain ⟨hg8, h⟩ := gd_e h
            refine g_iald (n := 74) C 15 rfl (Nat.le_of_ble_eq_true rfl) rfl rfl hg8 ha0 dX9_told_73 rfl ?_
            exact g_iret C rfl h rfl ((hS1 15 _).2 (tn_lt hg8 (by decide))) hS1 dX9_told_74
          · rw [if_neg hc7] at h
            by_cases hc9 : a1 = 1
            · rw [if_pos hc9] at h
              refine g_tabIn C 1 75 ha1 dX9_told_34 hc9 (by decide) rfl (by decide) ?_
              refine g_aload_n (n := 76) C 0 dX9_told_75 rfl rfl ?_
              refine g_getC (n := 79) C 0 16 rfl (Nat.le_of_ble_eq_true rfl) rfl rfl rfl (Nat.le_of_ble_eq_true rfl) in_X9_told_X9 (by decide +kernel) dX9_told_76 rfl ?_
              refine g_iload_n (n := 80) C 1 dX9_told_79 rfl rfl ?_
              obtain ⟨hg10, h⟩ := gd_e h
              refine g_iald (n := 81) C 16 rfl (Nat.le_of_ble_eq_true rfl) rfl rfl hg10 ha0 dX9_told_80 rfl ?_
              exact g_iret C rfl h rfl ((hS1 16 _).2 (tn_lt hg10 (by decide))) hS1 dX9_told_81
            · rw [if_neg hc9] at h
              by_cases hc11 : a1 = 2
              · rw [if_pos hc11] at h
                refine g_tabIn C 2 82 ha1 dX9_told_34 hc11 (by decide) rfl (by decide) ?_
                refine g_aload_n (n := 83) C 0 dX9_told_82 rfl rfl ?_
                refine g_iload_n (n := 84) C 1 dX9_told_83 rfl rfl ?_
                obtain ⟨S12, v13, hq14, h⟩ := cal_e h
                refine g_callV (n := 87) (As := [vI a0]) (rest := []) C 0 1 (Nat.le_of_ble_eq_true rfl) rfl rfl (c_X9_linesOf hS1 ha0 hq14) gX9_told_X9_linesOf rfl ⟨rfl, rfl⟩ (by decide +kernel) ⟨Nat.le_of_ble_eq_true rfl, Nat.le_of_ble_eq_true rfl⟩ rfl rfl rfl (Nat.le_of_ble_eq_true rfl) dX9_told_84 rfl (fun hS12 hv13 => ?_)
                show GW (sM D t ad) mi_X9_told (acI, S0, r0) x S12 87 _ [vI v13]
                exact g_iret C rfl h rfl hv13 hS12 dX9_told_87
              · rw [if_neg hc11] at h
                by_cases hc15 : a1 = 3
                · rw [if_pos hc15] at h
                  refine g_tabIn C 3 88 ha1 dX9_told_34 hc15 (by decide) rfl (by decide) ?_
                  refine g_aload_n (n := 89) C 0 dX9_told_88 rfl rfl ?_
                  refine g_getC (n := 92) C 0 17 rfl (Nat.le_of_ble_eq_true rfl) rfl rfl rfl (Nat.le_of_ble_eq_true rfl) in_X9_told_X9 (by decide +kernel) dX9_told_89 rfl ?_
                  refine g_iload_n (n := 93) C 1 dX9_told_92 rfl rfl ?_
                  obtain ⟨hg16, h⟩ := gd_e h
                  refine g_iald (n := 94) C 17 rfl (Nat.le_of_ble_eq_true rfl) rfl rfl hg16 ha0 dX9_told_93 rfl ?_
                  exact g_iret C rfl h rfl ((hS1 17 _).2 (tn_lt hg16 (by decide))) hS1 dX9_told_94
                · rw [if_neg hc15] at h
                  by_cases hc17 : a1 = 4
                  · rw [if_pos hc17] at h
                    refine g_tabIn C 4 95 ha1 dX9_told_34 hc17 (by decide) rfl (by decide) ?_
                    refine g_aload_n (n := 96) C 0 dX9_told_95 rfl rfl ?_
                    refine g_getC (n := 99) C 0 10 rfl (Nat.le_of_ble_eq_true rfl) rfl rfl rfl (Nat.le_of_ble_eq_true rfl) in_X9_told_X9 (by decide +kernel) dX9_told_96 rfl ?_
                    refine g_iload_n (n := 100) C 1 dX9_told_99 rfl rfl ?_
                    obtain ⟨hg18, h⟩ := gd_e h
                    refine g_iald (n := 101) C 10 rfl (Nat.le_of_ble_eq_true rfl) rfl rfl hg18 ha0 dX9_told_100 rfl ?_
                    exact g_iret C rfl h rfl ((hS1 10 _).2 (tn_lt hg18 (by decide))) hS1 dX9_told_101
                  · rw [if_neg hc17] at h
                    refine g_tabOut C 102 ha1 dX9_told_34 (by omega) (by decide) ?_
                    refine g_aload_n (n := 103) C 0 dX9_told_102 rfl rfl ?_
                    refine g_getC (n := 106) C 0 11 rfl (Nat.le_of_ble_eq_true rfl) rfl rfl rfl (Nat.le_of_ble_eq_true rfl) in_X9_told_X9 (by decide +kernel) dX9_told_103 rfl ?_
                    refine g_iload_n (n := 107) C 1 dX9_told_106 rfl rfl ?_
                    obtain ⟨hg19, h⟩ := gd_e h
                    refine g_iald (n := 108) C 11 rfl (Nat.le_of_ble_eq_true rfl) rfl rfl hg19 ha0 dX9_told_107 rfl ?_
                    exact g_iret C rfl h rfl ((hS1 11 _).2 (tn_lt hg19 (by decide))) hS1 dX9_told_108
        · rw [if_neg hc6] at h
          refine g_lv [0, 1, 2] rfl ?_
          exact u_X9_told_26 C a0 a1 S1 hS1 ha0 ha1 h
-- RX9 event
abbrev rm_X9_event : Room := ({ frames := 0, cells := 0, slots := 0, locals := 0 } : Room)
abbrev mi_X9_event : Mi := (cX9_event, 3, RX9, wsX9_event, rm_X9_event, (some .int))
set_option maxRecDepth 20000 in
theorem in_X9_event_X9 : ∀ w ∈ u_ws RX9 TX9 39, w ∈ wsX9_event := by decide +kernel
def dn_X9_event (a0 : Int) (a1 : Int) (S : St) : Option (St × Int) := (nmS (stU S 0 33 0) fun S1 => (if a0 < 0 then some (S1, (-1)) else (if 150 ≤ a0 then some (S1, (-1)) else (if S1 0 24 ≤ a0 then some (S1, (-1)) else (if a1 < 0 then some (S1, (-1)) else (if a1 ≤ 3 then (if 0 ≤ w32 ((w32 (4 * (w32 (Int.tmod (w32 ((w32 ((S1 0 24) - 1)) - a0)) 150)))) + a1) ∧ w32 ((w32 (4 * (w32 (Int.tmod (w32 ((w32 ((S1 0 24) - 1)) - a0)) 150)))) + a1) < 600 then some (S1, S1 21 (w32 ((w32 (4 * (w32 (Int.tmod (w32 ((w32 ((S1 0 24) - 1)) - a0)) 150)))) + a1)).toNat) else none) else some (S1, (-1))))))))
set_option maxRecDepth 100000 in
set_option maxHeartbeats 4000000 in
theorem c_X9_event {l : Launch} {D : va_G} {t : T5} {ad : Nat → Nat} {S S0 : St} {r0 : Int} {a0 a1 : Int} (hS : RS S) (ha0 : r32 a0) (ha1 : r32 a1) (h : dn_X9_event a0 a1 S = some (S0, r0)) : Mc l (sM D t ad) yX9_event wsX9_event rm_X9_event [.ref (ad 0), vI a0, vI a1] acI S S0 r0 := by
  refine Mc_of (cc := cX9_event) (nL := 3) (ret := (some .int)) (by decide +kernel) rfl (Nat.le_of_ble_eq_true rfl) (lv := [(0, .ref (ad 0)), (1, vI a0), (2, vI a1)]) rfl (fun x C _ => ?_)
  unfold dn_X9_event at h
  show GW (sM D t ad) mi_X9_event (acI, S0, r0) x S 0 [(0, .ref (ad 0)), (1, vI a0), (2, vI a1)] []
  refine g_aload_n (n := 1) C 0 dX9_event_0 rfl rfl ?_
  refine g_iconst (n := 2) C dX9_event_1 rfl ?_
  obtain ⟨S1, eS1, h⟩ := nmS_e h
  have hS1 : RS S1 := by rw [eS1]; exact RS_i hS (by decide : r32 0)
  refine g_putI (n := 5) C 0 33 rfl (Nat.le_of_ble_eq_true rfl) rfl rfl rfl (Nat.le_of_ble_eq_true rfl) in_X9_event_X9 tyX9_ok nmX9 (by decide +kernel) rfl (by decide +kernel) (Nat.le_of_ble_eq_true rfl) eS1 dX9_event_2 rfl ?_
  refine g_iload_n (n := 6) C 1 dX9_event_5 rfl rfl ?_
  refine g_if_lt (n := 9) C 33 ha0 dX9_event_6 (by decide) rfl (fun (hc2 : a0 < 0) => ?_) (fun (hc2 : ¬ (a0 < 0)) => ?_)
  · rw [if_pos hc2] at h
    refine g_iconst (n := 34) C dX9_event_33 rfl ?_
    exact g_iret C rfl h rfl (by decide : r32 (-1)) hS1 dX9_event_34
  · rw [if_neg hc2] at h
    refine g_iload_n (n := 10) C 1 dX9_event_9 rfl rfl ?_
    refine g_sipush (n := 13) C dX9_event_10 (by decide +kernel) rfl ?_
    refine g_icmp_ge (n := 16) C 33 ha0 (by decide : r32 150) dX9_event_13 (by decide) rfl (fun (hc3 : 150 ≤ a0) => ?_) (fun (hc3 : ¬ (150 ≤ a0)) => ?_)
    · rw [if_pos hc3] at h
      refine g_iconst (n := 34) C dX9_event_33 rfl ?_
      exact g_iret C rfl h rfl (by decide : r32 (-1)) hS1 dX9_event_34
    · rw [if_neg hc3] at h
      refine g_iload_n (n := 17) C 1 dX9_event_16 rfl rfl ?_
      refine g_aload_n (n := 18) C 0 dX9_event_17 rfl rfl ?_
      refine g_getI (n := 21) C 0 24 rfl (Nat.le_of_ble_eq_true rfl) rfl rfl rfl (Nat.le_of_ble_eq_true rfl) in_X9_event_X9 (by decide +kernel) dX9_event_18 rfl ?_
      refine g_icmp_ge (n := 24) C 33 ha0 ((hS1 0 24).2 (by decide)) dX9_event_21 (by decide) rfl (fun (hc4 : S1 0 24 ≤ a0) => ?_) (fun (hc4 : ¬ (S1 0 24 ≤ a0)) => ?_)
      · rw [if_pos hc4] at h
        refine g_iconst (n := 34) C dX9_event_33 rfl ?_
        exact g_iret C rfl h rfl (by decide : r32 (-1)) hS1 dX9_event_34
      · rw [if_neg hc4] at h
        refine g_iload_n (n := 25) C 2 dX9_event_24 rfl rfl ?_
        refine g_if_lt (n := 28) C 33 ha1 dX9_event_25 (by decide) rfl (fun (hc5 : a1 < 0) => ?_) (fun (hc5 : ¬ (a1 < 0)) => ?_)
        · rw [if_pos hc5] at h
          refine g_iconst (n := 34) C dX9_event_33 rfl ?_
          exact g_iret C rfl h rfl (by decide : r32 (-1)) hS1 dX9_event_34
        · rw [if_neg hc5] at h
          refine g_iload_n (n := 29) C 2 dX9_event_28 rfl rfl ?_
          refine g_iconst (n := 30) C dX9_event_29 rfl ?_
          refine g_icmp_le (n := 33) C 35 ha1 (by decide : r32 3) dX9_event_30 (by decide) rfl (fun (hc6 : a1 ≤ 3) => ?_) (fun (hc6 : ¬ (a1 ≤ 3)) => ?_)
          · rw [if_pos hc6] at h
            refine g_aload_n (n := 36) C 0 dX9_event_35 rfl rfl ?_
            refine g_getC (n := 39) C 0 23 rfl (Nat.le_of_ble_eq_true rfl) rfl rfl rfl (Nat.le_of_ble_eq_true rfl) in_X9_event_X9 (by decide +kernel) dX9_event_36 rfl ?_
            refine g_iconst (n := 40) C dX9_event_39 rfl ?_
            refine g_aload_n (n := 41) C 0 dX9_event_40 rfl rfl ?_
            refine g_getI (n := 44) C 0 24 rfl (Nat.le_of_ble_eq_true rfl) rfl rfl rfl (Nat.le_of_ble_eq_true rfl) in_X9_event_X9 (by decide +kernel) dX9_event_41 rfl ?_
            refine g_iconst (n := 45) C dX9_event_44 rfl ?_
            refine g_isub (n := 46) C dX9_event_45 rfl ?_
            refine g_iload_n (n := 47) C 1 dX9_event_46 rfl rfl ?_
            refine g_isub (n := 48) C dX9_event_47 rfl ?_
            refine g_sipush (n := 51) C dX9_event_48 (by decide +kernel) rfl ?_
            refine g_irem (n := 52) C (w32_r _) (by decide : r32 150) (by decide) dX9_event_51 rfl ?_
            refine g_imul (n := 53) C dX9_event_52 rfl ?_
            refine g_iload_n (n := 54) C 2 dX9_event_53 rfl rfl ?_
            refine g_iadd (n := 55) C dX9_event_54 rfl ?_
            obtain ⟨hg7, h⟩ := gd_e h
            refine g_iald (n := 56) C 21 rfl (Nat.le_of_ble_eq_true rfl) rfl rfl hg7 (w32_r _) dX9_event_55 rfl ?_
            exact g_iret C rfl h rfl ((hS1 21 _).2 (tn_lt hg7 (by decide))) hS1 dX9_event_56
          · rw [if_neg hc6] at h
            refine g_iconst (n := 34) C dX9_event_33 rfl ?_
            exact g_iret C rfl h rfl (by decide : r32 (-1)) hS1 dX9_event_34
-- RX9 gcd
abbrev rm_X9_gcd : Room := ({ frames := 0, cells := 0, slots := 0, locals := 0 } : Room)
abbrev mi_X9_gcd : Mi := (cX9_gcd, 10, RX9, wsX9_gcd, rm_X9_gcd, (some .long))
def dn_X9_gcd_6 : Nat → Int → Int → Int → Int → St → Option (St × Int)
  | 0, _, _, _, _, _ => none
  | n + 1, x0, x2, x4, x6, S => (if cmpJ x6 0 = 0 then some (S, x4) else (if x6 ≠ 0 then (nmV (w64 (Int.tmod x4 x6)) fun v3 => dn_X9_gcd_6 n x0 x2 x6 v3 S) else none))
set_option maxRecDepth 100000 in
set_option maxHeartbeats 4000000 in
theorem u_X9_gcd_6 {D : va_G} {t : T5} {ad : Nat → Nat} {S0 : St} {r0 : Int} {x : Mx} (C : CX (sM D t ad) mi_X9_gcd x) : ∀ (n : Nat) (x0 : Int) (x2 : Int) (x4 : Int) (x6 : Int) (S : St), RS S → (r64 x0) → (r64 x2) → (r64 x4) → (r64 x6) → dn_X9_gcd_6 n x0 x2 x4 x6 S = some (S0, r0) → GW (sM D t ad) mi_X9_gcd (acJ, S0, r0) x S 6 [(0, vJ x0), (2, vJ x2), (4, vJ x4), (6, vJ x6)] [] := by
  intro n
  induction n with
  | zero =>
    intro x0 x2 x4 x6 S hS hx0 hx2 hx4 hx6 h
    cases h
  | succ n ih =>
    intro x0 x2 x4 x6 S hS hx0 hx2 hx4 hx6 h
    rw [dn_X9_gcd_6] at h
    refine g_lload (n := 8) C 3 dX9_gcd_6 rfl rfl ?_
    refine g_lconst (n := 9) (w := 0) C dX9_gcd_8 (by decide +kernel) rfl ?_
    refine g_lcmp (n := 10) C hx6 (by decide : r64 0) dX9_gcd_9 rfl ?_
    refine g_if_eq (n := 13) C 31 (cmpJ_r _ _) dX9_gcd_10 (by decide) rfl (fun (hc1 : cmpJ x6 0 = 0) => ?_) (fun (hc1 : ¬ (cmpJ x6 0 = 0)) => ?_)
    · rw [if_pos hc1] at h
      refine g_lload (n := 33) C 2 dX9_gcd_31 rfl rfl ?_
      exact g_lret C rfl h rfl hx4 hS dX9_gcd_33
    · rw [if_neg hc1] at h
      refine g_lload (n := 15) C 2 dX9_gcd_13 rfl rfl ?_
      refine g_lload (n := 17) C 3 dX9_gcd_15 rfl rfl ?_
      obtain ⟨hg2, h⟩ := gd_e h
      refine g_lrem (n := 18) C hx4 hx6 hg2 dX9_gcd_17 rfl ?_
      obtain ⟨v3, ev3, h⟩ := nmV_e h
      have hv3 : r64 v3 := by rw [ev3]; exact (w64_r _)
      refine g_lstore (n := 20) (lv' := [(8, vJ v3), (0, vJ x0), (2, vJ x2), (4, vJ x4), (6, vJ x6)]) C dX9_gcd_18 (Nat.le_of_ble_eq_true rfl) ev3 rfl rfl ?_
      refine g_lload (n := 22) C 4 dX9_gcd_20 rfl rfl ?_
      refine g_lstore (n := 24) (lv' := [(4, vJ x6), (8, vJ v3), (0, vJ x0), (2, vJ x2), (6, vJ x6)]) C dX9_gcd_22 (Nat.le_of_ble_eq_true rfl) rfl rfl rfl ?_
      refine g_lload (n := 26) C 1 dX9_gcd_24 rfl rfl ?_
      refine g_lstore (n := 28) (lv' := [(6, vJ v3), (4, vJ x6), (8, vJ v3), (0, vJ x0), (2, vJ x2)]) C dX9_gcd_26 (Nat.le_of_ble_eq_true rfl) rfl rfl rfl ?_
      refine g_goto C 6 dX9_gcd_28 (by decide) ?_
      refine g_lv [3, 4, 1, 0] rfl ?_
      exact ih x0 x2 x6 v3 S hS hx0 hx2 hx6 hv3 h
def dn_X9_gcd (a0 : Int) (a1 : Int) (S : St) : Option (St × Int) := dn_X9_gcd_6 FU a0 a1 a0 a1 S
set_option maxRecDepth 100000 in
set_option maxHeartbeats 4000000 in
theorem c_X9_gcd {l : Launch} {D : va_G} {t : T5} {ad : Nat → Nat} {S S0 : St} {r0 : Int} {a0 a1 : Int} (hS : RS S) (ha0 : r64 a0) (ha1 : r64 a1) (h : dn_X9_gcd a0 a1 S = some (S0, r0)) : Mc l (sM D t ad) yX9_gcd wsX9_gcd rm_X9_gcd [vJ a0, vJ a1] acJ S S0 r0 := by
  refine Mc_of (cc := cX9_gcd) (nL := 10) (ret := (some .long)) (by decide +kernel) rfl (Nat.le_of_ble_eq_true rfl) (lv := [(0, vJ a0), (2, vJ a1)]) rfl (fun x C _ => ?_)
  unfold dn_X9_gcd at h
  show GW (sM D t ad) mi_X9_gcd (acJ, S0, r0) x S 0 [(0, vJ a0), (2, vJ a1)] []
  refine g_lload_n (n := 1) C 0 dX9_gcd_0 rfl rfl ?_
  refine g_lstore (n := 3) (lv' := [(4, vJ a0), (0, vJ a0), (2, vJ a1)]) C dX9_gcd_1 (Nat.le_of_ble_eq_true rfl) rfl rfl rfl ?_
  refine g_lload_n (n := 4) C 2 dX9_gcd_3 rfl rfl ?_
  refine g_lstore (n := 6) (lv' := [(6, vJ a1), (4, vJ a0), (0, vJ a0), (2, vJ a1)]) C dX9_gcd_4 (Nat.le_of_ble_eq_true rfl) rfl rfl rfl ?_
  refine g_lv [2, 3, 1, 0] rfl ?_
  exact u_X9_gcd_6 C FU a0 a1 a0 a1 S hS ha0 ha1 ha0 ha1 h
-- RX9 rate
abbrev rm_X9_rate : Room := ({ frames := 0, cells := 0, slots := 0, locals := 0 } : Room)
abbrev mi_X9_rate : Mi := (cX9_rate, 4, RX9, wsX9_rate, rm_X9_rate, (some .long))
set_option maxRecDepth 20000 in
theorem in_X9_rate_X9 : ∀ w ∈ u_ws RX9 TX9 39, w ∈ wsX9_rate := by decide +kernel
def dn_X9_rate (a0 : Int) (a1 : Int) (S : St) : Option (St × Int) := (if a1 ≤ a0 then (if 0 ≤ a1 ∧ a1 < 13 then (if 9 ≤ S 4 a1.toNat then some (S, w64 (a1 * 9)) else some (S, w64 (a1 * (S 4 a1.toNat)))) else none) else (if 0 ≤ a0 ∧ a0 < 13 then (if 9 ≤ S 4 a0.toNat then some (S, w64 (a0 * 9)) else some (S, w64 (a0 * (S 4 a0.toNat)))) else none))
set_option maxRecDepth 100000 in
set_option maxHeartbeats 4000000 in
theorem c_X9_rate {l : Launch} {D : va_G} {t : T5} {ad : Nat → Nat} {S S0 : St} {r0 : Int} {a0 a1 : Int} (hS : RS S) (ha0 : r32 a0) (ha1 : r32 a1) (h : dn_X9_rate a0 a1 S = some (S0, r0)) : Mc l (sM D t ad) yX9_rate wsX9_rate rm_X9_rate [.ref (ad 0), vI a0, vI a1] acJ S S0 r0 := by
  refine Mc_of (cc := cX9_rate) (nL := 4) (ret := (some .long)) (by decide +kernel) rfl (Nat.le_of_ble_eq_true rfl) (lv := [(0, .ref (ad 0)), (1, vI a0), (2, vI a1)]) rfl (fun x C _ => ?_)
  unfold dn_X9_rate at h
  show GW (sM D t ad) mi_X9_rate (acJ, S0, r0) x S 0 [(0, .ref (ad 0)), (1, vI a0), (2, vI a1)] []
  refine g_iload_n (n := 1) C 1 dX9_rate_0 rfl rfl ?_
  refine g_iload_n (n := 2) C 2 dX9_rate_1 rfl rfl ?_
  refine g_icmp_ge (n := 5) C 9 ha0 ha1 dX9_rate_2 (by decide) rfl (fun (hc1 : a1 ≤ a0) => ?_) (fun (hc1 : ¬ (a1 ≤ a0)) => ?_)
  · rw [if_pos hc1] at h
    refine g_iload_n (n := 10) C 2 dX9_rate_9 rfl rfl ?_
    refine g_istore_n (n := 11) (lv' := [(3, vI a1), (0, .ref (ad 0)), (1, vI a0), (2, vI a1)]) C dX9_rate_10 (Nat.le_of_ble_eq_true rfl) rfl rfl rfl ?_
    refine g_iload_n (n := 12) C 0 dX9_rate_11 rfl rfl ?_
    refine g_i2l (n := 13) C ha1 dX9_rate_12 rfl ?_
    refine g_aload_n (n := 14) C 1 dX9_rate_13 rfl rfl ?_
    refine g_getC (n := 17) C 0 3 rfl (Nat.le_of_ble_eq_true rfl) rfl rfl rfl (Nat.le_of_ble_eq_true rfl) in_X9_rate_X9 (by decide +kernel) dX9_rate_14 rfl ?_
    refine g_iload_n (n := 18) C 0 dX9_rate_17 rfl rfl ?_
    obtain ⟨hg2, h⟩ := gd_e h
    refine g_iald (n := 19) C 4 rfl (Nat.le_of_ble_eq_true rfl) rfl rfl hg2 ha1 dX9_rate_18 rfl ?_
    refine g_bipush (n := 21) C dX9_rate_19 (by decide +kernel) rfl ?_
    refine g_icmp_ge (n := 24) C 33 ((hS 4 _).2 (tn_lt hg2 (by decide))) (by decide : r32 9) dX9_rate_21 (by decide) rfl (fun (hc3 : 9 ≤ S 4 a1.toNat) => ?_) (fun (hc3 : ¬ (9 ≤ S 4 a1.toNat)) => ?_)
    · rw [if_pos hc3] at h
      refine g_bipush (n := 35) C dX9_rate_33 (by decide +kernel) rfl ?_
      refine g_i2l (n := 36) C (by decide : r32 9) dX9_rate_35 rfl ?_
      refine g_lmul (n := 37) C dX9_rate_36 rfl ?_
      exact g_lret C rfl h rfl (w64_r _) hS dX9_rate_37
    · rw [if_neg hc3] at h
      refine g_aload_n (n := 25) C 1 dX9_rate_24 rfl rfl ?_
      refine g_getC (n := 28) C 0 3 rfl (Nat.le_of_ble_eq_true rfl) rfl rfl rfl (Nat.le_of_ble_eq_true rfl) in_X9_rate_X9 (by decide +kernel) dX9_rate_25 rfl ?_
      refine g_iload_n (n := 29) C 0 dX9_rate_28 rfl rfl ?_
      refine g_iald (n := 30) C 4 rfl (Nat.le_of_ble_eq_true rfl) rfl rfl hg2 ha1 dX9_rate_29 rfl ?_
      refine g_goto C 35 dX9_rate_30 (by decide) ?_
      refine g_i2l (n := 36) C ((hS 4 _).2 (tn_lt hg2 (by decide))) dX9_rate_35 rfl ?_
      refine g_lmul (n := 37) C dX9_rate_36 rfl ?_
      exact g_lret C rfl h rfl (w64_r _) hS dX9_rate_37
  · rw [if_neg hc1] at h
    refine g_iload_n (n := 6) C 1 dX9_rate_5 rfl rfl ?_
    refine g_goto C 10 dX9_rate_6 (by decide) ?_
    refine g_istore_n (n := 11) (lv' := [(3, vI a0), (0, .ref (ad 0)), (1, vI a0), (2, vI a1)]) C dX9_rate_10 (Nat.le_of_ble_eq_true rfl) rfl rfl rfl ?_
    refine g_iload_n (n := 12) C 0 dX9_rate_11 rfl rfl ?_
    refine g_i2l (n := 13) C ha0 dX9_rate_12 rfl ?_
    refine g_aload_n (n := 14) C 1 dX9_rate_13 rfl rfl ?_
    refine g_getC (n := 17) C 0 3 rfl (Nat.le_of_ble_eq_true rfl) rfl rfl rfl (Nat.le_of_ble_eq_true rfl) in_X9_rate_X9 (by decide +kernel) dX9_rate_14 rfl ?_
    refine g_iload_n (n := 18) C 0 dX9_rate_17 rfl rfl ?_
    obtain ⟨hg4, h⟩ := gd_e h
    refine g_iald (n := 19) C 4 rfl (Nat.le_of_ble_eq_true rfl) rfl rfl hg4 ha0 dX9_rate_18 rfl ?_
    refine g_bipush (n := 21) C dX9_rate_19 (by decide +kernel) rfl ?_
    refine g_icmp_ge (n := 24) C 33 ((hS 4 _).2 (tn_lt hg4 (by decide))) (by decide : r32 9) dX9_rate_21 (by decide) rfl (fun (hc5 : 9 ≤ S 4 a0.toNat) => ?_) (fun (hc5 : ¬ (9 ≤ S 4 a0.toNat)) => ?_)
    · rw [if_pos hc5] at h
      refine g_bipush (n := 35) C dX9_rate_33 (by decide +kernel) rfl ?_
      refine g_i2l (n := 36) C (by decide : r32 9) dX9_rate_35 rfl ?_
      refine g_lmul (n := 37) C dX9_rate_36 rfl ?_
      exact g_lret C rfl h rfl (w64_r _) hS dX9_rate_37
    · rw [if_neg hc5] at h
      refine g_aload_n (n := 25) C 1 dX9_rate_24 rfl rfl ?_
      refine g_getC (n := 28) C 0 3 rfl (Nat.le_of_ble_eq_true rfl) rfl rfl rfl (Nat.le_of_ble_eq_true rfl) in_X9_rate_X9 (by decide +kernel) dX9_rate_25 rfl ?_
      refine g_iload_n (n := 29) C 0 dX9_rate_28 rfl rfl ?_
      refine g_iald (n := 30) C 4 rfl (Nat.le_of_ble_eq_true rfl) rfl rfl hg4 ha0 dX9_rate_29 rfl ?_
      refine g_goto C 35 dX9_rate_30 (by decide) ?_
      refine g_i2l (n := 36) C ((hS 4 _).2 (tn_lt hg4 (by decide))) dX9_rate_35 rfl ?_
      refine g_lmul (n := 37) C dX9_rate_36 rfl ?_
      exact g_lret C rfl h rfl (w64_r _) hS dX9_rate_37
-- RX9 reckon
abbrev rm_X9_reckon : Room := ({ frames := 1, cells := 0, slots := 0, locals := 29 } : Room)
abbrev mi_X9_reckon : Mi := (cX9_reckon, 8, RX9, wsX9_reckon, rm_X9_reckon, none)
set_option maxRecDepth 20000 in
theorem in_X9_reckon_X9 : ∀ w ∈ u_ws RX9 TX9 39, w ∈ wsX9_reckon := by decide +kernel
def dn_X9_reckon_104 (k13 : Int → Int → Int → Int → St → Option (St × Int)) (x1 : Int) (x2 : Int) (x3 : Int) (x4 : Int) (x5 : Int) (x7 : Int) (S : St) : Option (St × Int) := (if x4 ≤ 0 then (nmV (w32 (x4 + 1)) fun v15 => k13 x1 x2 x3 v15 S) else (cal (dn_X9_rate x4 x3 S) fun S16 v17 => (nmS (stU S16 0 100035 (w64 ((S 0 100035) + (w64 (x5 * v17))))) fun S19 => (nmV (w32 (x4 + 1)) fun v20 => k13 x1 x2 x3 v20 S19))))
set_option maxRecDepth 100000 in
set_option maxHeartbeats 4000000 in
theorem u_X9_reckon_104 {D : va_G} {t : T5} {ad : Nat → Nat} {S0 : St} {r0 : Int} {x : Mx} (C : CX (sM D t ad) mi_X9_reckon x) {k13 : Int → Int → Int → Int → St → Option (St × Int)} (hk13 : ∀ (x1 : Int) (x2 : Int) (x3 : Int) (x4 : Int) (S : St), RS S → (r32 x1) → (r32 x2) → (r32 x3) → (r32 x4) → k13 x1 x2 x3 x4 S = some (S0, r0) → GW (sM D t ad) mi_X9_reckon (acV, S0, r0) x S 13 [(0, .ref (ad 0)), (1, vI x1), (2, vI x2), (3, vI x3), (4, vI x4)] []) : ∀ (x1 : Int) (x2 : Int) (x3 : Int) (x4 : Int) (x5 : Int) (x7 : Int) (S : St), RS S → (r32 x1) → (r32 x2) → (r32 x3) → (r32 x4) → (r64 x5) → (r32 x7) → dn_X9_reckon_104 k13 x1 x2 x3 x4 x5 x7 S = some (S0, r0) → GW (sM D t ad) mi_X9_reckon (acV, S0, r0) x S 104 [(0, .ref (ad 0)), (1, vI x1), (2, vI x2), (3, vI x3), (4, vI x4), (5, vJ x5), (7, vI x7)] [] := by
  intro x1 x2 x3 x4 x5 x7 S hS hx1 hx2 hx3 hx4 hx5 hx7 h
  unfold dn_X9_reckon_104 at h
  refine g_iload (n := 106) C 4 dX9_reckon_104 rfl rfl ?_
  refine g_if_le (n := 109) C 128 hx4 dX9_reckon_106 (by decide) rfl (fun (hc14 : x4 ≤ 0) => ?_) (fun (hc14 : ¬ (x4 ≤ 0)) => ?_)
  · rw [if_pos hc14] at h
    obtain ⟨v15, ev15, h⟩ := nmV_e h
    have hv15 : r32 v15 := by rw [ev15]; exact w32_r _
    refine g_iinc (n := 131) (lv' := [(4, vI v15), (0, .ref (ad 0)), (1, vI x1), (2, vI x2), (3, vI x3), (5, vJ x5), (7, vI x7)]) C 4 dX9_reckon_128 rfl (Nat.le_of_ble_eq_true rfl) ev15 rfl rfl ?_
    refine g_goto C 13 dX9_reckon_131 (by decide) ?_
    refine g_lv [1, 2, 3, 4, 0] rfl ?_
    exact hk13 x1 x2 x3 v15 S hS hx1 hx2 hx3 hv15 h
  · rw [if_neg hc14] at h
    refine g_aload_n (n := 110) C 0 dX9_reckon_109 rfl rfl ?_
    refine g_dup (n := 111) C rfl dX9_reckon_110 rfl ?_
    refine g_getJ (n := 114) C 0 35 rfl (Nat.le_of_ble_eq_true rfl) rfl rfl rfl (Nat.le_of_ble_eq_true rfl) in_X9_reckon_X9 (by decide +kernel) dX9_reckon_111 rfl ?_
    refine g_lload (n := 116) C 5 dX9_reckon_114 rfl rfl ?_
    refine g_aload_n (n := 117) C 0 dX9_reckon_116 rfl rfl ?_
    refine g_iload (n := 119) C 4 dX9_reckon_117 rfl rfl ?_
    refine g_iload_n (n := 120) C 3 dX9_reckon_119 rfl rfl ?_
    obtain ⟨S16, v17, hq18, h⟩ := cal_e h
    refine g_callV (n := 123) (As := [vI x4, vI x3]) (rest := [vJ x5, vJ (S 0 100035), .ref (ad 0)]) C 0 2 (Nat.le_of_ble_eq_true rfl) rfl rfl (c_X9_rate hS hx4 hx3 hq18) gX9_reckon_X9_rate rfl ⟨rfl, rfl⟩ (by decide +kernel) ⟨Nat.le_of_ble_eq_true rfl, Nat.le_of_ble_eq_true rfl⟩ rfl rfl rfl (Nat.le_of_ble_eq_true rfl) dX9_reckon_120 rfl (fun hS16 hv17 => ?_)
    show GW (sM D t ad) mi_X9_reckon (acV, S0, r0) x S16 123 _ [vJ v17, vJ x5, vJ (S 0 100035), .ref (ad 0)]
    refine g_lmul (n := 124) C dX9_reckon_123 rfl ?_
    refine g_ladd (n := 125) C dX9_reckon_124 rfl ?_
    obtain ⟨S19, eS19, h⟩ := nmS_e h
    have hS19 : RS S19 := by rw [eS19]; exact RS_l hS16 (w64_r _) (by decide)
    refine g_putJ (n := 128) C 0 35 rfl (Nat.le_of_ble_eq_true rfl) rfl rfl rfl (Nat.le_of_ble_eq_true rfl) in_X9_reckon_X9 tyX9_ok nmX9 (by decide +kernel) rfl (by decide +kernel) (Nat.le_of_ble_eq_true rfl) eS19 dX9_reckon_125 rfl ?_
    obtain ⟨v20, ev20, h⟩ := nmV_e h
    have hv20 : r32 v20 := by rw [ev20]; exact w32_r _
    refine g_iinc (n := 131) (lv' := [(4, vI v20), (0, .ref (ad 0)), (1, vI x1), (2, vI x2), (3, vI x3), (5, vJ x5), (7, vI x7)]) C 4 dX9_reckon_128 rfl (Nat.le_of_ble_eq_true rfl) ev20 rfl rfl ?_
    refine g_goto C 13 dX9_reckon_131 (by decide) ?_
    refine g_lv [1, 2, 3, 4, 0] rfl ?_
    exact hk13 x1 x2 x3 v20 S19 hS19 hx1 hx2 hx3 hv20 h
def dn_X9_reckon_57 (k13 : Int → Int → Int → Int → St → Option (St × Int)) : Nat → Int → Int → Int → Int → Int → Int → St → Option (St × Int)
  | 0, _, _, _, _, _, _, _ => none
  | n + 1, x1, x2, x3, x4, x5, x7, S => (if x1 < x7 then (if x4 ≤ x3 then dn_X9_reckon_104 k13 x1 x2 x3 x4 x5 x7 S else (nmS (stU S 0 100034 (w64 ((S 0 100034) + (w64 (x5 * (w32 (x4 - x3))))))) fun S21 => dn_X9_reckon_104 k13 x1 x2 x3 x4 x5 x7 S21)) else (cal (dn_X9_rate x7 x3 S) fun S22 v23 => (nmV (w64 (x5 * v23)) fun v25 => (nmV (w32 (x7 + 1)) fun v26 => dn_X9_reckon_57 k13 n x1 x2 x3 x4 v25 v26 S22))))
set_option maxRecDepth 100000 in
set_option maxHeartbeats 4000000 in
theorem u_X9_reckon_57 {D : va_G} {t : T5} {ad : Nat → Nat} {S0 : St} {r0 : Int} {x : Mx} (C : CX (sM D t ad) mi_X9_reckon x) {k13 : Int → Int → Int → Int → St → Option (St × Int)} (hk13 : ∀ (x1 : Int) (x2 : Int) (x3 : Int) (x4 : Int) (S : St), RS S → (r32 x1) → (r32 x2) → (r32 x3) → (r32 x4) → k13 x1 x2 x3 x4 S = some (S0, r0) → GW (sM D t ad) mi_X9_reckon (acV, S0, r0) x S 13 [(0, .ref (ad 0)), (1, vI x1), (2, vI x2), (3, vI x3), (4, vI x4)] []) : ∀ (n : Nat) (x1 : Int) (x2 : Int) (x3 : Int) (x4 : Int) (x5 : Int) (x7 : Int) (S : St), RS S → (r32 x1) → (r32 x2) → (r32 x3) → (r32 x4) → (r64 x5) → (r32 x7) → dn_X9_reckon_57 k13 n x1 x2 x3 x4 x5 x7 S = some (S0, r0) → GW (sM D t ad) mi_X9_reckon (acV, S0, r0) x S 57 [(0, .ref (ad 0)), (1, vI x1), (2, vI x2), (3, vI x3), (4, vI x4), (5, vJ x5), (7, vI x7)] [] := by
  intro n
  induction n with
  | zero =>
    intro x1 x2 x3 x4 x5 x7 S hS hx1 hx2 hx3 hx4 hx5 hx7 h
    cases h
  | succ n ih =>
    intro x1 x2 x3 x4 x5 x7 S hS hx1 hx2 hx3 hx4 hx5 hx7 h
    rw [dn_X9_reckon_57] at h
    refine g_iload (n := 59) C 6 dX9_reckon_57 rfl rfl ?_
    refine g_iload_n (n := 60) C 1 dX9_reckon_59 rfl rfl ?_
    refine g_icmp_gt (n := 63) C 81 hx7 hx1 dX9_reckon_60 (by decide) rfl (fun (hc12 : x1 < x7) => ?_) (fun (hc12 : ¬ (x1 < x7)) => ?_)
    · rw [if_pos hc12] at h
      refine g_iload (n := 83) C 4 dX9_reckon_81 rfl rfl ?_
      refine g_iload_n (n := 84) C 3 dX9_reckon_83 rfl rfl ?_
      refine g_icmp_le (n := 87) C 104 hx4 hx3 dX9_reckon_84 (by decide) rfl (fun (hc13 : x4 ≤ x3) => ?_) (fun (hc13 : ¬ (x4 ≤ x3)) => ?_)
      · rw [if_pos hc13] at h
        refine g_lv [0, 1, 2, 3, 4, 5, 6] rfl ?_
        exact u_X9_reckon_104 C hk13 x1 x2 x3 x4 x5 x7 S hS hx1 hx2 hx3 hx4 hx5 hx7 h
      · rw [if_neg hc13] at h
        refine g_aload_n (n := 88) C 0 dX9_reckon_87 rfl rfl ?_
        refine g_dup (n := 89) C rfl dX9_reckon_88 rfl ?_
        refine g_getJ (n := 92) C 0 34 rfl (Nat.le_of_ble_eq_true rfl) rfl rfl rfl (Nat.le_of_ble_eq_true rfl) in_X9_reckon_X9 (by decide +kernel) dX9_reckon_89 rfl ?_
        refine g_lload (n := 94) C 5 dX9_reckon_92 rfl rfl ?_
        refine g_iload (n := 96) C 4 dX9_reckon_94 rfl rfl ?_
        refine g_iload_n (n := 97) C 3 dX9_reckon_96 rfl rfl ?_
        refine g_isub (n := 98) C dX9_reckon_97 rfl ?_
        refine g_i2l (n := 99) C (w32_r _) dX9_reckon_98 rfl ?_
        refine g_lmul (n := 100) C dX9_reckon_99 rfl ?_
        refine g_ladd (n := 101) C dX9_reckon_100 rfl ?_
        obtain ⟨S21, eS21, h⟩ := nmS_e h
        have hS21 : RS S21 := by rw [eS21]; exact RS_l hS (w64_r _) (by decide)
        refine g_putJ (n := 104) C 0 34 rfl (Nat.le_of_ble_eq_true rfl) rfl rfl rfl (Nat.le_of_ble_eq_true rfl) in_X9_reckon_X9 tyX9_ok nmX9 (by decide +kernel) rfl (by decide +kernel) (Nat.le_of_ble_eq_true rfl) eS21 dX9_reckon_101 rfl ?_
        refine g_lv [0, 1, 2, 3, 4, 5, 6] rfl ?_
        exact u_X9_reckon_104 C hk13 x1 x2 x3 x4 x5 x7 S21 hS21 hx1 hx2 hx3 hx4 hx5 hx7 h
    · rw [if_neg hc12] at h
      refine g_lload (n := 65) C 5 dX9_reckon_63 rfl rfl ?_
      refine g_aload_n (n := 66) C 0 dX9_reckon_65 rfl rfl ?_
      refine g_iload (n := 68) C 6 dX9_reckon_66 rfl rfl ?_
      refine g_iload_n (n := 69) C 3 dX9_reckon_68 rfl rfl ?_
      obtain ⟨S22, v23, hq24, h⟩ := cal_e h
      refine g_callV (n := 72) (As := [vI x7, vI x3]) (rest := [vJ x5]) C 0 2 (Nat.le_of_ble_eq_true rfl) rfl rfl (c_X9_rate hS hx7 hx3 hq24) gX9_reckon_X9_rate rfl ⟨rfl, rfl⟩ (by decide +kernel) ⟨Nat.le_of_ble_eq_true rfl, Nat.le_of_ble_eq_true rfl⟩ rfl rfl rfl (Nat.le_of_ble_eq_true rfl) dX9_reckon_69 rfl (fun hS22 hv23 => ?_)
      show GW (sM D t ad) mi_X9_reckon (acV, S0, r0) x S22 72 _ [vJ v23, vJ x5]
      refine g_lmul (n := 73) C dX9_reckon_72 rfl ?_
      obtain ⟨v25, ev25, h⟩ := nmV_e h
      have hv25 : r64 v25 := by rw [ev25]; exact (w64_r _)
      refine g_lstore (n := 75) (lv' := [(5, vJ v25), (0, .ref (ad 0)), (1, vI x1), (2, vI x2), (3, vI x3), (4, vI x4), (7, vI x7)]) C dX9_reckon_73 (Nat.le_of_ble_eq_true rfl) ev25 rfl rfl ?_
      obtain ⟨v26, ev26, h⟩ := nmV_e h
      have hv26 : r32 v26 := by rw [ev26]; exact w32_r _
      refine g_iinc (n := 78) (lv' := [(7, vI v26), (5, vJ v25), (0, .ref (ad 0)), (1, vI x1), (2, vI x2), (3, vI x3), (4, vI x4)]) C 6 dX9_reckon_75 rfl (Nat.le_of_ble_eq_true rfl) ev26 rfl rfl ?_
      refine g_goto C 57 dX9_reckon_78 (by decide) ?_
      refine g_lv [2, 3, 4, 5, 6, 1, 0] rfl ?_
      exact ih x1 x2 x3 x4 v25 v26 S22 hS22 hx1 hx2 hx3 hx4 hv25 hv26 h
def dn_X9_reckon_25 (k13 : Int → Int → Int → Int → St → Option (St × Int)) : Nat → Int → Int → Int → Int → Int → Int → St → Option (St × Int)
  | 0, _, _, _, _, _, _, _ => none
  | n + 1, x1, x2, x3, x4, x5, x7, S => (if x4 ≤ x7 then (nmV (w32 (x4 + 1)) fun v11 => dn_X9_reckon_57 k13 FU x1 x2 x3 x4 x5 v11 S) else (nmV (w64 (x5 * (w64 ((w32 (x1 - x7)) * x2)))) fun v27 => (nmV (w32 (x7 + 1)) fun v28 => dn_X9_reckon_25 k13 n x1 x2 x3 x4 v27 v28 S)))
set_option maxRecDepth 100000 in
set_option maxHeartbeats 4000000 in
theorem u_X9_reckon_25 {D : va_G} {t : T5} {ad : Nat → Nat} {S0 : St} {r0 : Int} {x : Mx} (C : CX (sM D t ad) mi_X9_reckon x) {k13 : Int → Int → Int → Int → St → Option (St × Int)} (hk13 : ∀ (x1 : Int) (x2 : Int) (x3 : Int) (x4 : Int) (S : St), RS S → (r32 x1) → (r32 x2) → (r32 x3) → (r32 x4) → k13 x1 x2 x3 x4 S = some (S0, r0) → GW (sM D t ad) mi_X9_reckon (acV, S0, r0) x S 13 [(0, .ref (ad 0)), (1, vI x1), (2, vI x2), (3, vI x3), (4, vI x4)] []) : ∀ (n : Nat) (x1 : Int) (x2 : Int) (x3 : Int) (x4 : Int) (x5 : Int) (x7 : Int) (S : St), RS S → (r32 x1) → (r32 x2) → (r32 x3) → (r32 x4) → (r64 x5) → (r32 x7) → dn_X9_reckon_25 k13 n x1 x2 x3 x4 x5 x7 S = some (S0, r0) → GW (sM D t ad) mi_X9_reckon (acV, S0, r0) x S 25 [(0, .ref (ad 0)), (1, vI x1), (2, vI x2), (3, vI x3), (4, vI x4), (5, vJ x5), (7, vI x7)] [] := by
  intro n
  induction n with
  | zero =>
    intro x1 x2 x3 x4 x5 x7 S hS hx1 hx2 hx3 hx4 hx5 hx7 h
    cases h
  | succ n ih =>
    intro x1 x2 x3 x4 x5 x7 S hS hx1 hx2 hx3 hx4 hx5 hx7 h
    rw [dn_X9_reckon_25] at h
    refine g_iload (n := 27) C 6 dX9_reckon_25 rfl rfl ?_
    refine g_iload (n := 29) C 4 dX9_reckon_27 rfl rfl ?_
    refine g_icmp_ge (n := 32) C 51 hx7 hx4 dX9_reckon_29 (by decide) rfl (fun (hc10 : x4 ≤ x7) => ?_) (fun (hc10 : ¬ (x4 ≤ x7)) => ?_)
    · rw [if_pos hc10] at h
      refine g_iload (n := 53) C 4 dX9_reckon_51 rfl rfl ?_
      refine g_iconst (n := 54) C dX9_reckon_53 rfl ?_
      refine g_iadd (n := 55) C dX9_reckon_54 rfl ?_
      obtain ⟨v11, ev11, h⟩ := nmV_e h
      have hv11 : r32 v11 := by rw [ev11]; exact (w32_r _)
      refine g_istore (n := 57) (lv' := [(7, vI v11), (0, .ref (ad 0)), (1, vI x1), (2, vI x2), (3, vI x3), (4, vI x4), (5, vJ x5)]) C dX9_reckon_55 (Nat.le_of_ble_eq_true rfl) ev11 rfl rfl ?_
      refine g_lv [1, 2, 3, 4, 5, 6, 0] rfl ?_
      exact u_X9_reckon_57 C hk13 FU x1 x2 x3 x4 x5 v11 S hS hx1 hx2 hx3 hx4 hx5 hv11 h
    · rw [if_neg hc10] at h
      refine g_lload (n := 34) C 5 dX9_reckon_32 rfl rfl ?_
      refine g_iload_n (n := 35) C 1 dX9_reckon_34 rfl rfl ?_
      refine g_iload (n := 37) C 6 dX9_reckon_35 rfl rfl ?_
      refine g_isub (n := 38) C dX9_reckon_37 rfl ?_
      refine g_i2l (n := 39) C (w32_r _) dX9_reckon_38 rfl ?_
      refine g_iload_n (n := 40) C 2 dX9_reckon_39 rfl rfl ?_
      refine g_i2l (n := 41) C hx2 dX9_reckon_40 rfl ?_
      refine g_lmul (n := 42) C dX9_reckon_41 rfl ?_
      refine g_lmul (n := 43) C dX9_reckon_42 rfl ?_
      obtain ⟨v27, ev27, h⟩ := nmV_e h
      have hv27 : r64 v27 := by rw [ev27]; exact (w64_r _)
      refine g_lstore (n := 45) (lv' := [(5, vJ v27), (0, .ref (ad 0)), (1, vI x1), (2, vI x2), (3, vI x3), (4, vI x4), (7, vI x7)]) C dX9_reckon_43 (Nat.le_of_ble_eq_true rfl) ev27 rfl rfl ?_
      obtain ⟨v28, ev28, h⟩ := nmV_e h
      have hv28 : r32 v28 := by rw [ev28]; exact w32_r _
      refine g_iinc (n := 48) (lv' := [(7, vI v28), (5, vJ v27), (0, .ref (ad 0)), (1, vI x1), (2, vI x2), (3, vI x3), (4, vI x4)]) C 6 dX9_reckon_45 rfl (Nat.le_of_ble_eq_true rfl) ev28 rfl rfl ?_
      refine g_goto C 25 dX9_reckon_48 (by decide) ?_
      refine g_lv [2, 3, 4, 5, 6, 1, 0] rfl ?_
      exact ih x1 x2 x3 x4 v27 v28 S hS hx1 hx2 hx3 hx4 hv27 hv28 h
def dn_X9_reckon_13 : Nat → Int → Int → Int → Int → St → Option (St × Int)
  | 0, _, _, _, _, _ => none
  | n + 1, x1, x2, x3, x4, S => (if x1 < x4 then (cal (dn_X9_gcd (S 0 100034) (S 0 100035) S) fun S4 v5 => (if v5 ≠ 0 then (nmS (stU S4 0 100034 (w64 (Int.tdiv (S4 0 100034) v5))) fun S8 => (nmS (stU S8 0 100035 (w64 (Int.tdiv (S8 0 100035) v5))) fun S9 => some (S9, 0))) else none)) else dn_X9_reckon_25 (fun x1_ x2_ x3_ x4_ S_ => dn_X9_reckon_13 n x1_ x2_ x3_ x4_ S_) FU x1 x2 x3 x4 1 0 S)
set_option maxRecDepth 100000 in
set_option maxHeartbeats 4000000 in
theorem u_X9_reckon_13 {D : va_G} {t : T5} {ad : Nat → Nat} {S0 : St} {r0 : Int} {x : Mx} (C : CX (sM D t ad) mi_X9_reckon x) : ∀ (n : Nat) (x1 : Int) (x2 : Int) (x3 : Int) (x4 : Int) (S : St), RS S → (r32 x1) → (r32 x2) → (r32 x3) → (r32 x4) → dn_X9_reckon_13 n x1 x2 x3 x4 S = some (S0, r0) → GW (sM D t ad) mi_X9_reckon (acV, S0, r0) x S 13 [(0, .ref (ad 0)), (1, vI x1), (2, vI x2), (3, vI x3), (4, vI x4)] [] := by
  intro n
  induction n with
  | zero =>
    intro x1 x2 x3 x4 S hS hx1 hx2 hx3 hx4 h
    cases h
  | succ n ih =>
    intro x1 x2 x3 x4 S hS hx1 hx2 hx3 hx4 h
    rw [dn_X9_reckon_13] at h
    refine g_iload (n := 15) C 4 dX9_reckon_13 rfl rfl ?_
    refine g_iload_n (n := 16) C 1 dX9_reckon_15 rfl rfl ?_
    refine g_icmp_gt (n := 19) C 134 hx4 hx1 dX9_reckon_16 (by decide) rfl (fun (hc3 : x1 < x4) => ?_) (fun (hc3 : ¬ (x1 < x4)) => ?_)
    · rw [if_pos hc3] at h
      refine g_aload_n (n := 135) C 0 dX9_reckon_134 rfl rfl ?_
      refine g_getJ (n := 138) C 0 34 rfl (Nat.le_of_ble_eq_true rfl) rfl rfl rfl (Nat.le_of_ble_eq_true rfl) in_X9_reckon_X9 (by decide +kernel) dX9_reckon_135 rfl ?_
      refine g_aload_n (n := 139) C 0 dX9_reckon_138 rfl rfl ?_
      refine g_getJ (n := 142) C 0 35 rfl (Nat.le_of_ble_eq_true rfl) rfl rfl rfl (Nat.le_of_ble_eq_true rfl) in_X9_reckon_X9 (by decide +kernel) dX9_reckon_139 rfl ?_
      obtain ⟨S4, v5, hq6, h⟩ := cal_e h
      refine g_callT (n := 145) (As := [vJ (S 0 100034), vJ (S 0 100035)]) (rest := []) C 2 (c_X9_gcd hS ((hS 0 100034).1) ((hS 0 100035).1) hq6) gX9_reckon_X9_gcd rfl ⟨rfl, rfl⟩ (by decide +kernel) ⟨Nat.le_of_ble_eq_true rfl, Nat.le_of_ble_eq_true rfl⟩ rfl rfl (Nat.le_of_ble_eq_true rfl) dX9_reckon_142 rfl (fun hS4 hv5 => ?_)
      show GW (sM D t ad) mi_X9_reckon (acV, S0, r0) x S4 145 _ [vJ v5]
      refine g_lstore (n := 147) (lv' := [(4, vJ v5), (0, .ref (ad 0)), (1, vI x1), (2, vI x2), (3, vI x3)]) C dX9_reckon_145 (Nat.le_of_ble_eq_true rfl) rfl rfl rfl ?_
      refine g_aload_n (n := 148) C 1 dX9_reckon_147 rfl rfl ?_
      refine g_dup (n := 149) C rfl dX9_reckon_148 rfl ?_
      refine g_getJ (n := 152) C 0 34 rfl (Nat.le_of_ble_eq_true rfl) rfl rfl rfl (Nat.le_of_ble_eq_true rfl) in_X9_reckon_X9 (by decide +kernel) dX9_reckon_149 rfl ?_
      refine g_lload (n := 154) C 0 dX9_reckon_152 rfl rfl ?_
      obtain ⟨hg7, h⟩ := gd_e h
      refine g_ldiv (n := 155) C ((hS4 0 100034).1) hv5 hg7 dX9_reckon_154 rfl ?_
      obtain ⟨S8, eS8, h⟩ := nmS_e h
      have hS8 : RS S8 := by rw [eS8]; exact RS_l hS4 (w64_r _) (by decide)
      refine g_putJ (n := 158) C 0 34 rfl (Nat.le_of_ble_eq_true rfl) rfl rfl rfl (Nat.le_of_ble_eq_true rfl) in_X9_reckon_X9 tyX9_ok nmX9 (by decide +kernel) rfl (by decide +kernel) (Nat.le_of_ble_eq_true rfl) eS8 dX9_reckon_155 rfl ?_
      refine g_aload_n (n := 159) C 1 dX9_reckon_158 rfl rfl ?_
      refine g_dup (n := 160) C rfl dX9_reckon_159 rfl ?_
      refine g_getJ (n := 163) C 0 35 rfl (Nat.le_of_ble_eq_true rfl) rfl rfl rfl (Nat.le_of_ble_eq_true rfl) in_X9_reckon_X9 (by decide +kernel) dX9_reckon_160 rfl ?_
      refine g_lload (n := 165) C 0 dX9_reckon_163 rfl rfl ?_
      refine g_ldiv (n := 166) C ((hS8 0 100035).1) hv5 hg7 dX9_reckon_165 rfl ?_
      obtain ⟨S9, eS9, h⟩ := nmS_e h
      have hS9 : RS S9 := by rw [eS9]; exact RS_l hS8 (w64_r _) (by decide)
      refine g_putJ (n := 169) C 0 35 rfl (Nat.le_of_ble_eq_true rfl) rfl rfl rfl (Nat.le_of_ble_eq_true rfl) in_X9_reckon_X9 tyX9_ok nmX9 (by decide +kernel) rfl (by decide +kernel) (Nat.le_of_ble_eq_true rfl) eS9 dX9_reckon_166 rfl ?_
      exact g_vret C rfl h rfl trivial hS9 dX9_reckon_169
    · rw [if_neg hc3] at h
      refine g_lconst (n := 20) (w := 1) C dX9_reckon_19 (by decide +kernel) rfl ?_
      refine g_lstore (n := 22) (lv' := [(5, vJ 1), (0, .ref (ad 0)), (1, vI x1), (2, vI x2), (3, vI x3), (4, vI x4)]) C dX9_reckon_20 (Nat.le_of_ble_eq_true rfl) rfl rfl rfl ?_
      refine g_iconst (n := 23) C dX9_reckon_22 rfl ?_
      refine g_istore (n := 25) (lv' := [(7, vI 0), (5, vJ 1), (0, .ref (ad 0)), (1, vI x1), (2, vI x2), (3, vI x3), (4, vI x4)]) C dX9_reckon_23 (Nat.le_of_ble_eq_true rfl) rfl rfl rfl ?_
      refine g_lv [2, 3, 4, 5, 6, 1, 0] rfl ?_
      exact u_X9_reckon_25 C ih FU x1 x2 x3 x4 1 0 S hS hx1 hx2 hx3 hx4 (by decide : r64 1) (by decide : r32 0) h
def dn_X9_reckon (a0 : Int) (a1 : Int) (a2 : Int) (S : St) : Option (St × Int) := (nmS (stU S 0 100034 0) fun S1 => (nmS (stU S1 0 100035 0) fun S2 => dn_X9_reckon_13 FU a0 a1 a2 0 S2))
set_option maxRecDepth 100000 in
set_option maxHeartbeats 4000000 in
theorem c_X9_reckon {l : Launch} {D : va_G} {t : T5} {ad : Nat → Nat} {S S0 : St} {r0 : Int} {a0 a1 a2 : Int} (hS : RS S) (ha0 : r32 a0) (ha1 : r32 a1) (ha2 : r32 a2) (h : dn_X9_reckon a0 a1 a2 S = some (S0, r0)) : Mc l (sM D t ad) yX9_reckon wsX9_reckon rm_X9_reckon [.ref (ad 0), vI a0, vI a1, vI a2] acV S S0 r0 := by
  refine Mc_of (cc := cX9_reckon) (nL := 8) (ret := none) (by decide +kernel) rfl (Nat.le_of_ble_eq_true rfl) (lv := [(0, .ref (ad 0)), (1, vI a0), (2, vI a1), (3, vI a2)]) rfl (fun x C _ => ?_)
  unfold dn_X9_reckon at h
  show GW (sM D t ad) mi_X9_reckon (acV, S0, r0) x S 0 [(0, .ref (ad 0)), (1, vI a0), (2, vI a1), (3, vI a2)] []
  refine g_aload_n (n := 1) C 0 dX9_reckon_0 rfl rfl ?_
  refine g_lconst (n := 2) (w := 0) C dX9_reckon_1 (by decide +kernel) rfl ?_
  obtain ⟨S1, eS1, h⟩ := nmS_e h
  have hS1 : RS S1 := by rw [eS1]; exact RS_l hS (by decide : r64 0) (by decide)
  refine g_putJ (n := 5) C 0 34 rfl (Nat.le_of_ble_eq_true rfl) rfl rfl rfl (Nat.le_of_ble_eq_true rfl) in_X9_reckon_X9 tyX9_ok nmX9 (by decide +kernel) rfl (by decide +kernel) (Nat.le_of_ble_eq_true rfl) eS1 dX9_reckon_2 rfl ?_
  refine g_aload_n (n := 6) C 0 dX9_reckon_5 rfl rfl ?_
  refine g_lconst (n := 7) (w := 0) C dX9_reckon_6 (by decide +kernel) rfl ?_
  obtain ⟨S2, eS2, h⟩ := nmS_e h
  have hS2 : RS S2 := by rw [eS2]; exact RS_l hS1 (by decide : r64 0) (by decide)
  refine g_putJ (n := 10) C 0 35 rfl (Nat.le_of_ble_eq_true rfl) rfl rfl rfl (Nat.le_of_ble_eq_true rfl) in_X9_reckon_X9 tyX9_ok nmX9 (by decide +kernel) rfl (by decide +kernel) (Nat.le_of_ble_eq_true rfl) eS2 dX9_reckon_7 rfl ?_
  refine g_iconst (n := 11) C dX9_reckon_10 rfl ?_
  refine g_istore (n := 13) (lv' := [(4, vI 0), (0, .ref (ad 0)), (1, vI a0), (2, vI a1), (3, vI a2)]) C dX9_reckon_11 (Nat.le_of_ble_eq_true rfl) rfl rfl rfl ?_
  refine g_lv [1, 2, 3, 4, 0] rfl ?_
  exact u_X9_reckon_13 C FU a0 a1 a2 0 S2 hS2 ha0 ha1 ha2 (by decide : r32 0) h
-- RX9 in
abbrev rm_X9_in : Room := ({ frames := 0, cells := 0, slots := 0, locals := 0 } : Room)
abbrev mi_X9_in : Mi := (cX9_in, 3, RX9, wsX9_in, rm_X9_in, (some .boolean))
def dn_X9_in (a0 : Int) (a1 : Int) (a2 : Int) (S : St) : Option (St × Int) := (if a0 < a1 then some (S, 0) else (if a2 < a0 then some (S, 0) else some (S, 1)))
set_option maxRecDepth 100000 in
set_option maxHeartbeats 4000000 in
theorem c_X9_in {l : Launch} {D : va_G} {t : T5} {ad : Nat → Nat} {S S0 : St} {r0 : Int} {a0 a1 a2 : Int} (hS : RS S) (ha0 : r32 a0) (ha1 : r32 a1) (ha2 : r32 a2) (h : dn_X9_in a0 a1 a2 S = some (S0, r0)) : Mc l (sM D t ad) yX9_in wsX9_in rm_X9_in [vI a0, vI a1, vI a2] acZ S S0 r0 := by
  refine Mc_of (cc := cX9_in) (nL := 3) (ret := (some .boolean)) (by decide +kernel) rfl (Nat.le_of_ble_eq_true rfl) (lv := [(0, vI a0), (1, vI a1), (2, vI a2)]) rfl (fun x C _ => ?_)
  unfold dn_X9_in at h
  show GW (sM D t ad) mi_X9_in (acZ, S0, r0) x S 0 [(0, vI a0), (1, vI a1), (2, vI a2)] []
  refine g_iload_n (n := 1) C 0 dX9_in_0 rfl rfl ?_
  refine g_iload_n (n := 2) C 1 dX9_in_1 rfl rfl ?_
  refine g_icmp_lt (n := 5) C 14 ha0 ha1 dX9_in_2 (by decide) rfl (fun (hc1 : a0 < a1) => ?_) (fun (hc1 : ¬ (a0 < a1)) => ?_)
  · rw [if_pos hc1] at h
    refine g_iconst (n := 15) C dX9_in_14 rfl ?_
    exact g_zret C rfl (Or.inl rfl) h rfl (Or.inl rfl) hS dX9_in_15
  · rw [if_neg hc1] at h
    refine g_iload_n (n := 6) C 0 dX9_in_5 rfl rfl ?_
    refine g_iload_n (n := 7) C 2 dX9_in_6 rfl rfl ?_
    refine g_icmp_gt (n := 10) C 14 ha0 ha2 dX9_in_7 (by decide) rfl (fun (hc2 : a2 < a0) => ?_) (fun (hc2 : ¬ (a2 < a0)) => ?_)
    · rw [if_pos hc2] at h
      refine g_iconst (n := 15) C dX9_in_14 rfl ?_
      exact g_zret C rfl (Or.inl rfl) h rfl (Or.inl rfl) hS dX9_in_15
    · rw [if_neg hc2] at h
      refine g_iconst (n := 11) C dX9_in_10 rfl ?_
      refine g_goto C 15 dX9_in_11 (by decide) ?_
      exact g_zret C rfl (Or.inr rfl) h rfl (Or.inr rfl) hS dX9_in_15
-- RX9 mean
abbrev rm_X9_mean : Room := ({ frames := 2, cells := 0, slots := 0, locals := 56 } : Room)
abbrev mi_X9_mean : Mi := (cX9_mean, 5, RX9, wsX9_mean, rm_X9_mean, (some .long))
set_option maxRecDepth 20000 in
theorem in_X9_mean_X9 : ∀ w ∈ u_ws RX9 TX9 39, w ∈ wsX9_mean := by decide +kernel
def dn_X9_mean (a0 : Int) (a1 : Int) (a2 : Int) (a3 : Int) (S : St) : Option (St × Int) := (nmS (stU S 0 33 0) fun S1 => (cal (dn_X9_in a0 1 8 S1) fun S2 v3 => (if v3 = 0 then some (S2, (-1)) else (cal (dn_X9_in a1 1 9 S2) fun S6 v7 => (if v7 = 0 then some (S6, (-1)) else (cal (dn_X9_in a2 1 8 S6) fun S10 v11 => (if v11 = 0 then some (S10, (-1)) else (cal (dn_X9_in a3 0 1 S10) fun S14 v15 => (if v15 = 0 then some (S14, (-1)) else (cal (dn_X9_reckon a0 a1 a2 S14) fun S18 v19 => (if a3 = 0 then some (S18, S18 0 100034) else some (S18, S18 0 100035))))))))))))
set_option maxRecDepth 100000 in
set_option maxHeartbeats 4000000 in
theorem c_X9_mean {l : Launch} {D : va_G} {t : T5} {ad : Nat → Nat} {S S0 : St} {r0 : Int} {a0 a1 a2 a3 : Int} (hS : RS S) (ha0 : r32 a0) (ha1 : r32 a1) (ha2 : r32 a2) (ha3 : r32 a3) (h : dn_X9_mean a0 a1 a2 a3 S = some (S0, r0)) : Mc l (sM D t ad) yX9_mean wsX9_mean rm_X9_mean [.ref (ad 0), vI a0, vI a1, vI a2, vI a3] acJ S S0 r0 := by
  refine Mc_of (cc := cX9_mean) (nL := 5) (ret := (some .long)) (by decide +kernel) rfl (Nat.le_of_ble_eq_true rfl) (lv := [(0, .ref (ad 0)), (1, vI a0), (2, vI a1), (3, vI a2), (4, vI a3)]) rfl (fun x C _ => ?_)
  unfold dn_X9_mean at h
  show GW (sM D t ad) mi_X9_mean (acJ, S0, r0) x S 0 [(0, .ref (ad 0)), (1, vI a0), (2, vI a1), (3, vI a2), (4, vI a3)] []
  refine g_aload_n (n := 1) C 0 dX9_mean_0 rfl rfl ?_
  refine g_iconst (n := 2) C dX9_mean_1 rfl ?_
  obtain ⟨S1, eS1, h⟩ := nmS_e h
  have hS1 : RS S1 := by rw [eS1]; exact RS_i hS (by decide : r32 0)
  refine g_putI (n := 5) C 0 33 rfl (Nat.le_of_ble_eq_true rfl) rfl rfl rfl (Nat.le_of_ble_eq_true rfl) in_X9_mean_X9 tyX9_ok nmX9 (by decide +kernel) rfl (by decide +kernel) (Nat.le_of_ble_eq_true rfl) eS1 dX9_mean_2 rfl ?_
  refine g_iload_n (n := 6) C 1 dX9_mean_5 rfl rfl ?_
  refine g_iconst (n := 7) C dX9_mean_6 rfl ?_
  refine g_bipush (n := 9) C dX9_mean_7 (by decide +kernel) rfl ?_
  obtain ⟨S2, v3, hq4, h⟩ := cal_e h
  refine g_callT (n := 12) (As := [vI a0, vI 1, vI 8]) (rest := []) C 3 (c_X9_in hS1 ha0 (by decide : r32 1) (by decide : r32 8) hq4) gX9_mean_X9_in rfl ⟨rfl, rfl⟩ (by decide +kernel) ⟨Nat.le_of_ble_eq_true rfl, Nat.le_of_ble_eq_true rfl⟩ rfl rfl (Nat.le_of_ble_eq_true rfl) dX9_mean_9 rfl (fun hS2 hv3 => ?_)
  show GW (sM D t ad) mi_X9_mean (acJ, S0, r0) x S2 12 _ [vI v3]
  refine g_if_eq (n := 15) C 45 (z_r32 hv3) dX9_mean_12 (by decide) rfl (fun (hc5 : v3 = 0) => ?_) (fun (hc5 : ¬ (v3 = 0)) => ?_)
  · rw [if_pos hc5] at h
    refine g_ldc2 (n := 48) (a := (-1)) (v := (-1)) C (by decide +kernel) (by decide +kernel) dX9_mean_45 rfl ?_
    exact g_lret C rfl h rfl (by decide : r64 (-1)) hS2 dX9_mean_48
  · rw [if_neg hc5] at h
    refine g_iload_n (n := 16) C 2 dX9_mean_15 rfl rfl ?_
    refine g_iconst (n := 17) C dX9_mean_16 rfl ?_
    refine g_bipush (n := 19) C dX9_mean_17 (by decide +kernel) rfl ?_
    obtain ⟨S6, v7, hq8, h⟩ := cal_e h
    refine g_callT (n := 22) (As := [vI a1, vI 1, vI 9]) (rest := []) C 3 (c_X9_in hS2 ha1 (by decide : r32 1) (by decide : r32 9) hq8) gX9_mean_X9_in rfl ⟨rfl, rfl⟩ (by decide +kernel) ⟨Nat.le_of_ble_eq_true rfl, Nat.le_of_ble_eq_true rfl⟩ rfl rfl (Nat.le_of_ble_eq_true rfl) dX9_mean_19 rfl (fun hS6 hv7 => ?_)
    show GW (sM D t ad) mi_X9_mean (acJ, S0, r0) x S6 22 _ [vI v7]
    refine g_if_eq (n := 25) C 45 (z_r32 hv7) dX9_mean_22 (by decide) rfl (fun (hc9 : v7 = 0) => ?_) (fun (hc9 : ¬ (v7 = 0)) => ?_)
    · rw [if_pos hc9] at h
      refine g_ldc2 (n := 48) (a := (-1)) (v := (-1)) C (by decide +kernel) (by decide +kernel) dX9_mean_45 rfl ?_
      exact g_lret C rfl h rfl (by decide : r64 (-1)) hS6 dX9_mean_48
    · rw [if_neg hc9] at h
      refine g_iload_n (n := 26) C 3 dX9_mean_25 rfl rfl ?_
      refine g_iconst (n := 27) C dX9_mean_26 rfl ?_
      refine g_bipush (n := 29) C dX9_mean_27 (by decide +kernel) rfl ?_
      obtain ⟨S10, v11, hq12, h⟩ := cal_e h
      refine g_callT (n := 32) (As := [vI a2, vI 1, vI 8]) (rest := []) C 3 (c_X9_in hS6 ha2 (by decide : r32 1) (by decide : r32 8) hq12) gX9_mean_X9_in rfl ⟨rfl, rfl⟩ (by decide +kernel) ⟨Nat.le_of_ble_eq_true rfl, Nat.le_of_ble_eq_true rfl⟩ rfl rfl (Nat.le_of_ble_eq_true rfl) dX9_mean_29 rfl (fun hS10 hv11 => ?_)
      show GW (sM D t ad) mi_X9_mean (acJ, S0, r0) x S10 32 _ [vI v11]
      refine g_if_eq (n := 35) C 45 (z_r32 hv11) dX9_mean_32 (by decide) rfl (fun (hc13 : v11 = 0) => ?_) (fun (hc13 : ¬ (v11 = 0)) => ?_)
      · rw [if_pos hc13] at h
        refine g_ldc2 (n := 48) (a := (-1)) (v := (-1)) C (by decide +kernel) (by decide +kernel) dX9_mean_45 rfl ?_
        exact g_lret C rfl h rfl (by decide : r64 (-1)) hS10 dX9_mean_48
      · rw [if_neg hc13] at h
        refine g_iload (n := 37) C 4 dX9_mean_35 rfl rfl ?_
        refine g_iconst (n := 38) C dX9_mean_37 rfl ?_
        refine g_iconst (n := 39) C dX9_mean_38 rfl ?_
        obtain ⟨S14, v15, hq16, h⟩ := cal_e h
        refine g_callT (n := 42) (As := [vI a3, vI 0, vI 1]) (rest := []) C 3 (c_X9_in hS10 ha3 (by decide : r32 0) (by decide : r32 1) hq16) gX9_mean_X9_in rfl ⟨rfl, rfl⟩ (by decide +kernel) ⟨Nat.le_of_ble_eq_true rfl, Nat.le_of_ble_eq_true rfl⟩ rfl rfl (Nat.le_of_ble_eq_true rfl) dX9_mean_39 rfl (fun hS14 hv15 => ?_)
        show GW (sM D t ad) mi_X9_mean (acJ, S0, r0) x S14 42 _ [vI v15]
        refine g_if_ne (n := 45) C 49 (z_r32 hv15) dX9_mean_42 (by decide) rfl (fun (hc17 : ¬ (v15 = 0)) => ?_) (fun (hc17 : v15 = 0) => ?_)
        · rw [if_neg hc17] at h
          refine g_aload_n (n := 50) C 0 dX9_mean_49 rfl rfl ?_
          refine g_iload_n (n := 51) C 1 dX9_mean_50 rfl rfl ?_
          refine g_iload_n (n := 52) C 2 dX9_mean_51 rfl rfl ?_
          refine g_iload_n (n := 53) C 3 dX9_mean_52 rfl rfl ?_
          obtain ⟨S18, v19, hq20, h⟩ := cal_e h
          refine g_callV (n := 56) (As := [vI a0, vI a1, vI a2]) (rest := []) C 0 3 (Nat.le_of_ble_eq_true rfl) rfl rfl (c_X9_reckon hS14 ha0 ha1 ha2 hq20) gX9_mean_X9_reckon rfl ⟨rfl, rfl⟩ (by decide +kernel) ⟨Nat.le_of_ble_eq_true rfl, Nat.le_of_ble_eq_true rfl⟩ rfl rfl rfl (Nat.le_of_ble_eq_true rfl) dX9_mean_53 rfl (fun hS18 hv19 => ?_)
          show GW (sM D t ad) mi_X9_mean (acJ, S0, r0) x S18 56 _ []
          refine g_iload (n := 58) C 4 dX9_mean_56 rfl rfl ?_
          refine g_if_ne (n := 61) C 68 ha3 dX9_mean_58 (by decide) rfl (fun (hc21 : ¬ (a3 = 0)) => ?_) (fun (hc21 : a3 = 0) => ?_)
          · rw [if_neg hc21] at h
            refine g_aload_n (n := 69) C 0 dX9_mean_68 rfl rfl ?_
            refine g_getJ (n := 72) C 0 35 rfl (Nat.le_of_ble_eq_true rfl) rfl rfl rfl (Nat.le_of_ble_eq_true rfl) in_X9_mean_X9 (by decide +kernel) dX9_mean_69 rfl ?_
            exact g_lret C rfl h rfl ((hS18 0 100035).1) hS18 dX9_mean_72
          · rw [if_pos hc21] at h
            refine g_aload_n (n := 62) C 0 dX9_mean_61 rfl rfl ?_
            refine g_getJ (n := 65) C 0 34 rfl (Nat.le_of_ble_eq_true rfl) rfl rfl rfl (Nat.le_of_ble_eq_true rfl) in_X9_mean_X9 (by decide +kernel) dX9_mean_62 rfl ?_
            refine g_goto C 72 dX9_mean_65 (by decide) ?_
            exact g_lret C rfl h rfl ((hS18 0 100034).1) hS18 dX9_mean_72
        · rw [if_pos hc17] at h
          refine g_ldc2 (n := 48) (a := (-1)) (v := (-1)) C (by decide +kernel) (by decide +kernel) dX9_mean_45 rfl ?_
          exact g_lret C rfl h rfl (by decide : r64 (-1)) hS14 dX9_mean_48
-- RX9 isLess
abbrev rm_X9_isLess : Room := ({ frames := 0, cells := 0, slots := 0, locals := 0 } : Room)
abbrev mi_X9_isLess : Mi := (cX9_isLess, 23, RX9, wsX9_isLess, rm_X9_isLess, (some .boolean))
def dn_X9_isLess_115 (x0 : Int) (x2 : Int) (x4 : Int) (x6 : Int) (x8 : Int) (x10 : Int) (x12 : Int) (x14 : Int) (x16 : Int) (x17 : Int) (x19 : Int) (S : St) : Option (St × Int) := (if 0 = x16 then some (S, 0) else (if cmpJ x8 0 = 0 then (if cmpJ x12 0 = 0 then some (S, 0) else some (S, 1)) else some (S, 1)))
set_option maxRecDepth 100000 in
set_option maxHeartbeats 4000000 in
theorem u_X9_isLess_115 {D : va_G} {t : T5} {ad : Nat → Nat} {S0 : St} {r0 : Int} {x : Mx} (C : CX (sM D t ad) mi_X9_isLess x) : ∀ (x0 : Int) (x2 : Int) (x4 : Int) (x6 : Int) (x8 : Int) (x10 : Int) (x12 : Int) (x14 : Int) (x16 : Int) (x17 : Int) (x19 : Int) (S : St), RS S → (r64 x0) → (r64 x2) → (r64 x4) → (r64 x6) → (r64 x8) → (r64 x10) → (r64 x12) → (r64 x14) → (r32 x16) → (r64 x17) → (r64 x19) → dn_X9_isLess_115 x0 x2 x4 x6 x8 x10 x12 x14 x16 x17 x19 S = some (S0, r0) → GW (sM D t ad) mi_X9_isLess (acZ, S0, r0) x S 115 [(0, vJ x0), (2, vJ x2), (4, vJ x4), (6, vJ x6), (8, vJ x8), (10, vJ x10), (12, vJ x12), (14, vJ x14), (16, vI x16), (17, vJ x17), (19, vJ x19)] [] := by
  intro x0 x2 x4 x6 x8 x10 x12 x14 x16 x17 x19 S hS hx0 hx2 hx4 hx6 hx8 hx10 hx12 hx14 hx16 hx17 hx19 h
  unfold dn_X9_isLess_115 at h
  refine g_iconst (n := 116) C dX9_isLess_115 rfl ?_
  refine g_iload (n := 118) C 8 dX9_isLess_116 rfl rfl ?_
  refine g_icmp_eq (n := 121) C 139 (by decide : r32 0) hx16 dX9_isLess_118 (by decide) rfl (fun (hc10 : 0 = x16) => ?_) (fun (hc10 : ¬ (0 = x16)) => ?_)
  · rw [if_pos hc10] at h
    refine g_iconst (n := 140) C dX9_isLess_139 rfl ?_
    exact g_zret C rfl (Or.inl rfl) h rfl (Or.inl rfl) hS dX9_isLess_140
  · rw [if_neg hc10] at h
    refine g_lload (n := 123) C 4 dX9_isLess_121 rfl rfl ?_
    refine g_lconst (n := 124) (w := 0) C dX9_isLess_123 (by decide +kernel) rfl ?_
    refine g_lcmp (n := 125) C hx8 (by decide : r64 0) dX9_isLess_124 rfl ?_
    refine g_if_ne (n := 128) C 135 (cmpJ_r _ _) dX9_isLess_125 (by decide) rfl (fun (hc11 : ¬ (cmpJ x8 0 = 0)) => ?_) (fun (hc11 : cmpJ x8 0 = 0) => ?_)
    · rw [if_neg hc11] at h
      refine g_iconst (n := 136) C dX9_isLess_135 rfl ?_
      refine g_goto C 140 dX9_isLess_136 (by decide) ?_
      exact g_zret C rfl (Or.inr rfl) h rfl (Or.inr rfl) hS dX9_isLess_140
    · rw [if_pos hc11] at h
      refine g_lload (n := 130) C 6 dX9_isLess_128 rfl rfl ?_
      refine g_lconst (n := 131) (w := 0) C dX9_isLess_130 (by decide +kernel) rfl ?_
      refine g_lcmp (n := 132) C hx12 (by decide : r64 0) dX9_isLess_131 rfl ?_
      refine g_if_eq (n := 135) C 139 (cmpJ_r _ _) dX9_isLess_132 (by decide) rfl (fun (hc12 : cmpJ x12 0 = 0) => ?_) (fun (hc12 : ¬ (cmpJ x12 0 = 0)) => ?_)
      · rw [if_pos hc12] at h
        refine g_iconst (n := 140) C dX9_isLess_139 rfl ?_
        exact g_zret C rfl (Or.inl rfl) h rfl (Or.inl rfl) hS dX9_isLess_140
      · rw [if_neg hc12] at h
        refine g_iconst (n := 136) C dX9_isLess_135 rfl ?_
        refine g_goto C 140 dX9_isLess_136 (by decide) ?_
        exact g_zret C rfl (Or.inr rfl) h rfl (Or.inr rfl) hS dX9_isLess_140
def dn_X9_isLess_97 (x0 : Int) (x2 : Int) (x4 : Int) (x6 : Int) (x8 : Int) (x10 : Int) (x12 : Int) (x14 : Int) (x16 : Int) (x17 : Int) (x19 : Int) (S : St) : Option (St × Int) := (if cmpJ x8 0 = 0 then (if cmpJ x12 0 = 0 then dn_X9_isLess_115 x0 x2 x4 x6 x8 x10 x12 x14 x16 x17 x19 S else (if 1 = x16 then some (S, 0) else (if cmpJ x8 0 = 0 then (if cmpJ x12 0 = 0 then some (S, 0) else some (S, 1)) else some (S, 1)))) else dn_X9_isLess_115 x0 x2 x4 x6 x8 x10 x12 x14 x16 x17 x19 S)
set_option maxRecDepth 100000 in
set_option maxHeartbeats 4000000 in
theorem u_X9_isLess_97 {D : va_G} {t : T5} {ad : Nat → Nat} {S0 : St} {r0 : Int} {x : Mx} (C : CX (sM D t ad) mi_X9_isLess x) : ∀ (x0 : Int) (x2 : Int) (x4 : Int) (x6 : Int) (x8 : Int) (x10 : Int) (x12 : Int) (x14 : Int) (x16 : Int) (x17 : Int) (x19 : Int) (S : St), RS S → (r64 x0) → (r64 x2) → (r64 x4) → (r64 x6) → (r64 x8) → (r64 x10) → (r64 x12) → (r64 x14) → (r32 x16) → (r64 x17) → (r64 x19) → dn_X9_isLess_97 x0 x2 x4 x6 x8 x10 x12 x14 x16 x17 x19 S = some (S0, r0) → GW (sM D t ad) mi_X9_isLess (acZ, S0, r0) x S 97 [(0, vJ x0), (2, vJ x2), (4, vJ x4), (6, vJ x6), (8, vJ x8), (10, vJ x10), (12, vJ x12), (14, vJ x14), (16, vI x16), (17, vJ x17), (19, vJ x19)] [] := by
  intro x0 x2 x4 x6 x8 x10 x12 x14 x16 x17 x19 S hS hx0 hx2 hx4 hx6 hx8 hx10 hx12 hx14 hx16 hx17 hx19 h
  unfold dn_X9_isLess_97 at h
  refine g_lload (n := 99) C 4 dX9_isLess_97 rfl rfl ?_
  refine g_lconst (n := 100) (w := 0) C dX9_isLess_99 (by decide +kernel) rfl ?_
  refine g_lcmp (n := 101) C hx8 (by decide : r64 0) dX9_isLess_100 rfl ?_
  refine g_if_ne (n := 104) C 115 (cmpJ_r _ _) dX9_isLess_101 (by decide) rfl (fun (hc9 : ¬ (cmpJ x8 0 = 0)) => ?_) (fun (hc9 : cmpJ x8 0 = 0) => ?_)
  · rw [if_neg hc9] at h
    refine g_lv [0, 1, 2, 3, 4, 5, 6, 7, 8, 9, 10] rfl ?_
    exact u_X9_isLess_115 C x0 x2 x4 x6 x8 x10 x12 x14 x16 x17 x19 S hS hx0 hx2 hx4 hx6 hx8 hx10 hx12 hx14 hx16 hx17 hx19 h
  · rw [if_pos hc9] at h
    refine g_lload (n := 106) C 6 dX9_isLess_104 rfl rfl ?_
    refine g_lconst (n := 107) (w := 0) C dX9_isLess_106 (by decide +kernel) rfl ?_
    refine g_lcmp (n := 108) C hx12 (by decide : r64 0) dX9_isLess_107 rfl ?_
    refine g_if_eq (n := 111) C 115 (cmpJ_r _ _) dX9_isLess_108 (by decide) rfl (fun (hc13 : cmpJ x12 0 = 0) => ?_) (fun (hc13 : ¬ (cmpJ x12 0 = 0)) => ?_)
    · rw [if_pos hc13] at h
      refine g_lv [0, 1, 2, 3, 4, 5, 6, 7, 8, 9, 10] rfl ?_
      exact u_X9_isLess_115 C x0 x2 x4 x6 x8 x10 x12 x14 x16 x17 x19 S hS hx0 hx2 hx4 hx6 hx8 hx10 hx12 hx14 hx16 hx17 hx19 h
    · rw [if_neg hc13] at h
      refine g_iconst (n := 112) C dX9_isLess_111 rfl ?_
      refine g_goto C 116 dX9_isLess_112 (by decide) ?_
      refine g_iload (n := 118) C 8 dX9_isLess_116 rfl rfl ?_
      refine g_icmp_eq (n := 121) C 139 (by decide : r32 1) hx16 dX9_isLess_118 (by decide) rfl (fun (hc14 : 1 = x16) => ?_) (fun (hc14 : ¬ (1 = x16)) => ?_)
      · rw [if_pos hc14] at h
        refine g_iconst (n := 140) C dX9_isLess_139 rfl ?_
        exact g_zret C rfl (Or.inl rfl) h rfl (Or.inl rfl) hS dX9_isLess_140
      · rw [if_neg hc14] at h
        refine g_lload (n := 123) C 4 dX9_isLess_121 rfl rfl ?_
        refine g_lconst (n := 124) (w := 0) C dX9_isLess_123 (by decide +kernel) rfl ?_
        refine g_lcmp (n := 125) C hx8 (by decide : r64 0) dX9_isLess_124 rfl ?_
        refine g_if_ne (n := 128) C 135 (cmpJ_r _ _) dX9_isLess_125 (by decide) rfl (fun (hc15 : ¬ (cmpJ x8 0 = 0)) => ?_) (fun (hc15 : cmpJ x8 0 = 0) => ?_)
        · rw [if_neg hc15] at h
          refine g_iconst (n := 136) C dX9_isLess_135 rfl ?_
          refine g_goto C 140 dX9_isLess_136 (by decide) ?_
          exact g_zret C rfl (Or.inr rfl) h rfl (Or.inr rfl) hS dX9_isLess_140
        · rw [if_pos hc15] at h
          refine g_lload (n := 130) C 6 dX9_isLess_128 rfl rfl ?_
          refine g_lconst (n := 131) (w := 0) C dX9_isLess_130 (by decide +kernel) rfl ?_
          refine g_lcmp (n := 132) C hx12 (by decide : r64 0) dX9_isLess_131 rfl ?_
          refine g_if_eq (n := 135) C 139 (cmpJ_r _ _) dX9_isLess_132 (by decide) rfl (fun (hc16 : cmpJ x12 0 = 0) => ?_) (fun (hc16 : ¬ (cmpJ x12 0 = 0)) => ?_)
          · rw [if_pos hc16] at h
            refine g_iconst (n := 140) C dX9_isLess_139 rfl ?_
            exact g_zret C rfl (Or.inl rfl) h rfl (Or.inl rfl) hS dX9_isLess_140
          · rw [if_neg hc16] at h
            refine g_iconst (n := 136) C dX9_isLess_135 rfl ?_
            refine g_goto C 140 dX9_isLess_136 (by decide) ?_
            exact g_zret C rfl (Or.inr rfl) h rfl (Or.inr rfl) hS dX9_isLess_140
def dn_X9_isLess_17 : Nat → Int → Int → Int → Int → Int → Int → Int → Int → Int → St → Option (St × Int)
  | 0, _, _, _, _, _, _, _, _, _, _ => none
  | n + 1, x0, x2, x4, x6, x8, x10, x12, x14, x16, S => (if x10 ≠ 0 then (nmV (w64 (Int.tdiv x8 x10)) fun v2 => (if x14 ≠ 0 then (nmV (w64 (Int.tdiv x12 x14)) fun v4 => (if cmpJ v2 v4 = 0 then (nmV (w64 (x8 - (w64 (v2 * x10)))) fun v6 => (nmV (w64 (x12 - (w64 (v4 * x14)))) fun v7 => (if cmpJ v6 0 = 0 then dn_X9_isLess_97 x0 x2 x4 x6 v6 x10 v7 x14 x16 v2 v4 S else (if cmpJ v7 0 = 0 then dn_X9_isLess_97 x0 x2 x4 x6 v6 x10 v7 x14 x16 v2 v4 S else (if x16 = 0 then dn_X9_isLess_17 n x0 x2 x4 x6 x10 v6 x14 v7 1 S else dn_X9_isLess_17 n x0 x2 x4 x6 x10 v6 x14 v7 0 S))))) else (if 0 ≤ cmpJ v2 v4 then (if 0 = x16 then some (S, 0) else some (S, 1)) else (if 1 = x16 then some (S, 0) else some (S, 1))))) else none)) else none)
set_option maxRecDepth 100000 in
set_option maxHeartbeats 4000000 in
theorem u_X9_isLess_17 {D : va_G} {t : T5} {ad : Nat → Nat} {S0 : St} {r0 : Int} {x : Mx} (C : CX (sM D t ad) mi_X9_isLess x) : ∀ (n : Nat) (x0 : Int) (x2 : Int) (x4 : Int) (x6 : Int) (x8 : Int) (x10 : Int) (x12 : Int) (x14 : Int) (x16 : Int) (S : St), RS S → (r64 x0) → (r64 x2) → (r64 x4) → (r64 x6) → (r64 x8) → (r64 x10) → (r64 x12) → (r64 x14) → (r32 x16) → dn_X9_isLess_17 n x0 x2 x4 x6 x8 x10 x12 x14 x16 S = some (S0, r0) → GW (sM D t ad) mi_X9_isLess (acZ, S0, r0) x S 17 [(0, vJ x0), (2, vJ x2), (4, vJ x4), (6, vJ x6), (8, vJ x8), (10, vJ x10), (12, vJ x12), (14, vJ x14), (16, vI x16)] [] := by
  intro n
  induction n with
  | zero =>
    intro x0 x2 x4 x6 x8 x10 x12 x14 x16 S hS hx0 hx2 hx4 hx6 hx8 hx10 hx12 hx14 hx16 h
    cases h
  | succ n ih =>
    intro x0 x2 x4 x6 x8 x10 x12 x14 x16 S hS hx0 hx2 hx4 hx6 hx8 hx10 hx12 hx14 hx16 h
    rw [dn_X9_isLess_17] at h
    refine g_lload (n := 19) C 4 dX9_isLess_17 rfl rfl ?_
    refine g_lload (n := 21) C 5 dX9_isLess_19 rfl rfl ?_
    obtain ⟨hg1, h⟩ := gd_e h
    refine g_ldiv (n := 22) C hx8 hx10 hg1 dX9_isLess_21 rfl ?_
    obtain ⟨v2, ev2, h⟩ := nmV_e h
    have hv2 : r64 v2 := by rw [ev2]; exact (w64_r _)
    refine g_lstore (n := 24) (lv' := [(17, vJ v2), (0, vJ x0), (2, vJ x2), (4, vJ x4), (6, vJ x6), (8, vJ x8), (10, vJ x10), (12, vJ x12), (14, vJ x14), (16, vI x16)]) C dX9_isLess_22 (Nat.le_of_ble_eq_true rfl) ev2 rfl rfl ?_
    refine g_lload (n := 26) C 7 dX9_isLess_24 rfl rfl ?_
    refine g_lload (n := 28) C 8 dX9_isLess_26 rfl rfl ?_
    obtain ⟨hg3, h⟩ := gd_e h
    refine g_ldiv (n := 29) C hx12 hx14 hg3 dX9_isLess_28 rfl ?_
    obtain ⟨v4, ev4, h⟩ := nmV_e h
    have hv4 : r64 v4 := by rw [ev4]; exact (w64_r _)
    refine g_lstore (n := 31) (lv' := [(19, vJ v4), (17, vJ v2), (0, vJ x0), (2, vJ x2), (4, vJ x4), (6, vJ x6), (8, vJ x8), (10, vJ x10), (12, vJ x12), (14, vJ x14), (16, vI x16)]) C dX9_isLess_29 (Nat.le_of_ble_eq_true rfl) ev4 rfl rfl ?_
    refine g_lload (n := 33) C 1 dX9_isLess_31 rfl rfl ?_
    refine g_lload (n := 35) C 0 dX9_isLess_33 rfl rfl ?_
    refine g_lcmp (n := 36) C hv2 hv4 dX9_isLess_35 rfl ?_
    refine g_if_eq (n := 39) C 63 (cmpJ_r _ _) dX9_isLess_36 (by decide) rfl (fun (hc5 : cmpJ v2 v4 = 0) => ?_) (fun (hc5 : ¬ (cmpJ v2 v4 = 0)) => ?_)
    · rw [if_pos hc5] at h
      refine g_lload (n := 65) C 6 dX9_isLess_63 rfl rfl ?_
      refine g_lload (n := 67) C 1 dX9_isLess_65 rfl rfl ?_
      refine g_lload (n := 69) C 7 dX9_isLess_67 rfl rfl ?_
      refine g_lmul (n := 70) C dX9_isLess_69 rfl ?_
      refine g_lsub (n := 71) C dX9_isLess_70 rfl ?_
      obtain ⟨v6, ev6, h⟩ := nmV_e h
      have hv6 : r64 v6 := by rw [ev6]; exact (w64_r _)
      refine g_lstore (n := 73) (lv' := [(8, vJ v6), (19, vJ v4), (17, vJ v2), (0, vJ x0), (2, vJ x2), (4, vJ x4), (6, vJ x6), (10, vJ x10), (12, vJ x12), (14, vJ x14), (16, vI x16)]) C dX9_isLess_71 (Nat.le_of_ble_eq_true rfl) ev6 rfl rfl ?_
      refine g_lload (n := 75) C 8 dX9_isLess_73 rfl rfl ?_
      refine g_lload (n := 77) C 1 dX9_isLess_75 rfl rfl ?_
      refine g_lload (n := 79) C 9 dX9_isLess_77 rfl rfl ?_
      refine g_lmul (n := 80) C dX9_isLess_79 rfl ?_
      refine g_lsub (n := 81) C dX9_isLess_80 rfl ?_
      obtain ⟨v7, ev7, h⟩ := nmV_e h
      have hv7 : r64 v7 := by rw [ev7]; exact (w64_r _)
      refine g_lstore (n := 83) (lv' := [(12, vJ v7), (8, vJ v6), (19, vJ v4), (17, vJ v2), (0, vJ x0), (2, vJ x2), (4, vJ x4), (6, vJ x6), (10, vJ x10), (14, vJ x14), (16, vI x16)]) C dX9_isLess_81 (Nat.le_of_ble_eq_true rfl) ev7 rfl rfl ?_
      refine g_lload (n := 85) C 1 dX9_isLess_83 rfl rfl ?_
      refine g_lconst (n := 86) (w := 0) C dX9_isLess_85 (by decide +kernel) rfl ?_
      refine g_lcmp (n := 87) C hv6 (by decide : r64 0) dX9_isLess_86 rfl ?_
      refine g_if_eq (n := 90) C 97 (cmpJ_r _ _) dX9_isLess_87 (by decide) rfl (fun (hc8 : cmpJ v6 0 = 0) => ?_) (fun (hc8 : ¬ (cmpJ v6 0 = 0)) => ?_)
      · rw [if_pos hc8] at h
        refine g_lv [4, 5, 6, 7, 1, 8, 0, 9, 10, 3, 2] rfl ?_
        exact u_X9_isLess_97 C x0 x2 x4 x6 v6 x10 v7 x14 x16 v2 v4 S hS hx0 hx2 hx4 hx6 hv6 hx10 hv7 hx14 hx16 hv2 hv4 h
      · rw [if_neg hc8] at h
        refine g_lload (n := 92) C 0 dX9_isLess_90 rfl rfl ?_
        refine g_lconst (n := 93) (w := 0) C dX9_isLess_92 (by decide +kernel) rfl ?_
        refine g_lcmp (n := 94) C hv7 (by decide : r64 0) dX9_isLess_93 rfl ?_
        refine g_if_ne (n := 97) C 141 (cmpJ_r _ _) dX9_isLess_94 (by decide) rfl (fun (hc17 : ¬ (cmpJ v7 0 = 0)) => ?_) (fun (hc17 : cmpJ v7 0 = 0) => ?_)
        · rw [if_neg hc17] at h
          refine g_lload (n := 143) C 1 dX9_isLess_141 rfl rfl ?_
          refine g_lstore (n := 145) (lv' := [(21, vJ v6), (12, vJ v7), (8, vJ v6), (19, vJ v4), (17, vJ v2), (0, vJ x0), (2, vJ x2), (4, vJ x4), (6, vJ x6), (10, vJ x10), (14, vJ x14), (16, vI x16)]) C dX9_isLess_143 (Nat.le_of_ble_eq_true rfl) rfl rfl rfl ?_
          refine g_lload (n := 147) C 9 dX9_isLess_145 rfl rfl ?_
          refine g_lstore (n := 149) (lv' := [(8, vJ x10), (21, vJ v6), (12, vJ v7), (19, vJ v4), (17, vJ v2), (0, vJ x0), (2, vJ x2), (4, vJ x4), (6, vJ x6), (10, vJ x10), (14, vJ x14), (16, vI x16)]) C dX9_isLess_147 (Nat.le_of_ble_eq_true rfl) rfl rfl rfl ?_
          refine g_lload (n := 151) C 1 dX9_isLess_149 rfl rfl ?_
          refine g_lstore (n := 153) (lv' := [(10, vJ v6), (8, vJ x10), (21, vJ v6), (12, vJ v7), (19, vJ v4), (17, vJ v2), (0, vJ x0), (2, vJ x2), (4, vJ x4), (6, vJ x6), (14, vJ x14), (16, vI x16)]) C dX9_isLess_151 (Nat.le_of_ble_eq_true rfl) rfl rfl rfl ?_
          refine g_lload (n := 155) C 3 dX9_isLess_153 rfl rfl ?_
          refine g_lstore (n := 157) (lv' := [(21, vJ v7), (10, vJ v6), (8, vJ x10), (12, vJ v7), (19, vJ v4), (17, vJ v2), (0, vJ x0), (2, vJ x2), (4, vJ x4), (6, vJ x6), (14, vJ x14), (16, vI x16)]) C dX9_isLess_155 (Nat.le_of_ble_eq_true rfl) rfl rfl rfl ?_
          refine g_lload (n := 159) C 10 dX9_isLess_157 rfl rfl ?_
          refine g_lstore (n := 161) (lv' := [(12, vJ x14), (21, vJ v7), (10, vJ v6), (8, vJ x10), (19, vJ v4), (17, vJ v2), (0, vJ x0), (2, vJ x2), (4, vJ x4), (6, vJ x6), (14, vJ x14), (16, vI x16)]) C dX9_isLess_159 (Nat.le_of_ble_eq_true rfl) rfl rfl rfl ?_
          refine g_lload (n := 163) C 1 dX9_isLess_161 rfl rfl ?_
          refine g_lstore (n := 165) (lv' := [(14, vJ v7), (12, vJ x14), (21, vJ v7), (10, vJ v6), (8, vJ x10), (19, vJ v4), (17, vJ v2), (0, vJ x0), (2, vJ x2), (4, vJ x4), (6, vJ x6), (16, vI x16)]) C dX9_isLess_163 (Nat.le_of_ble_eq_true rfl) rfl rfl rfl ?_
          refine g_iload (n := 167) C 11 dX9_isLess_165 rfl rfl ?_
          refine g_if_ne (n := 170) C 174 hx16 dX9_isLess_167 (by decide) rfl (fun (hc18 : ¬ (x16 = 0)) => ?_) (fun (hc18 : x16 = 0) => ?_)
          · rw [if_neg hc18] at h
            refine g_iconst (n := 175) C dX9_isLess_174 rfl ?_
            refine g_istore (n := 177) (lv' := [(16, vI 0), (14, vJ v7), (12, vJ x14), (21, vJ v7), (10, vJ v6), (8, vJ x10), (19, vJ v4), (17, vJ v2), (0, vJ x0), (2, vJ x2), (4, vJ x4), (6, vJ x6)]) C dX9_isLess_175 (Nat.le_of_ble_eq_true rfl) rfl rfl rfl ?_
            refine g_goto C 17 dX9_isLess_177 (by decide) ?_
            refine g_lv [8, 9, 10, 11, 5, 4, 2, 1, 0] rfl ?_
            exact ih x0 x2 x4 x6 x10 v6 x14 v7 0 S hS hx0 hx2 hx4 hx6 hx10 hv6 hx14 hv7 (by decide : r32 0) h
          · rw [if_pos hc18] at h
            refine g_iconst (n := 171) C dX9_isLess_170 rfl ?_
            refine g_goto C 175 dX9_isLess_171 (by decide) ?_
            refine g_istore (n := 177) (lv' := [(16, vI 1), (14, vJ v7), (12, vJ x14), (21, vJ v7), (10, vJ v6), (8, vJ x10), (19, vJ v4), (17, vJ v2), (0, vJ x0), (2, vJ x2), (4, vJ x4), (6, vJ x6)]) C dX9_isLess_175 (Nat.le_of_ble_eq_true rfl) rfl rfl rfl ?_
            refine g_goto C 17 dX9_isLess_177 (by decide) ?_
            refine g_lv [8, 9, 10, 11, 5, 4, 2, 1, 0] rfl ?_
            exact ih x0 x2 x4 x6 x10 v6 x14 v7 1 S hS hx0 hx2 hx4 hx6 hx10 hv6 hx14 hv7 (by decide : r32 1) h
        · rw [if_pos hc17] at h
          refine g_lv [4, 5, 6, 7, 1, 8, 0, 9, 10, 3, 2] rfl ?_
          exact u_X9_isLess_97 C x0 x2 x4 x6 v6 x10 v7 x14 x16 v2 v4 S hS hx0 hx2 hx4 hx6 hv6 hx10 hv7 hx14 hx16 hv2 hv4 h
    · rw [if_neg hc5] at h
      refine g_lload (n := 41) C 1 dX9_isLess_39 rfl rfl ?_
      refine g_lload (n := 43) C 0 dX9_isLess_41 rfl rfl ?_
      refine g_lcmp (n := 44) C hv2 hv4 dX9_isLess_43 rfl ?_
      refine g_if_ge (n := 47) C 51 (cmpJ_r _ _) dX9_isLess_44 (by decide) rfl (fun (hc19 : 0 ≤ cmpJ v2 v4) => ?_) (fun (hc19 : ¬ (0 ≤ cmpJ v2 v4)) => ?_)
      · rw [if_pos hc19] at h
        refine g_iconst (n := 52) C dX9_isLess_51 rfl ?_
        refine g_iload (n := 54) C 10 dX9_isLess_52 rfl rfl ?_
        refine g_icmp_eq (n := 57) C 61 (by decide : r32 0) hx16 dX9_isLess_54 (by decide) rfl (fun (hc20 : 0 = x16) => ?_) (fun (hc20 : ¬ (0 = x16)) => ?_)
        · rw [if_pos hc20] at h
          refine g_iconst (n := 62) C dX9_isLess_61 rfl ?_
          exact g_zret C rfl (Or.inl rfl) h rfl (Or.inl rfl) hS dX9_isLess_62
        · rw [if_neg hc20] at h
          refine g_iconst (n := 58) C dX9_isLess_57 rfl ?_
          refine g_goto C 62 dX9_isLess_58 (by decide) ?_
          exact g_zret C rfl (Or.inr rfl) h rfl (Or.inr rfl) hS dX9_isLess_62
      · rw [if_neg hc19] at h
        refine g_iconst (n := 48) C dX9_isLess_47 rfl ?_
        refine g_goto C 52 dX9_isLess_48 (by decide) ?_
        refine g_iload (n := 54) C 10 dX9_isLess_52 rfl rfl ?_
        refine g_icmp_eq (n := 57) C 61 (by decide : r32 1) hx16 dX9_isLess_54 (by decide) rfl (fun (hc21 : 1 = x16) => ?_) (fun (hc21 : ¬ (1 = x16)) => ?_)
        · rw [if_pos hc21] at h
          refine g_iconst (n := 62) C dX9_isLess_61 rfl ?_
          exact g_zret C rfl (Or.inl rfl) h rfl (Or.inl rfl) hS dX9_isLess_62
        · rw [if_neg hc21] at h
          refine g_iconst (n := 58) C dX9_isLess_57 rfl ?_
          refine g_goto C 62 dX9_isLess_58 (by decide) ?_
          exact g_zret C rfl (Or.inr rfl) h rfl (Or.inr rfl) hS dX9_isLess_62
def dn_X9_isLess (a0 : Int) (a1 : Int) (a2 : Int) (a3 : Int) (S : St) : Option (St × Int) := dn_X9_isLess_17 FU a0 a1 a2 a3 a0 a1 a2 a3 0 S
set_option maxRecDepth 100000 in
set_option maxHeartbeats 4000000 in
theorem c_X9_isLess {l : Launch} {D : va_G} {t : T5} {ad : Nat → Nat} {S S0 : St} {r0 : Int} {a0 a1 a2 a3 : Int} (hS : RS S) (ha0 : r64 a0) (ha1 : r64 a1) (ha2 : r64 a2) (ha3 : r64 a3) (h : dn_X9_isLess a0 a1 a2 a3 S = some (S0, r0)) : Mc l (sM D t ad) yX9_isLess wsX9_isLess rm_X9_isLess [vJ a0, vJ a1, vJ a2, vJ a3] acZ S S0 r0 := by
  refine Mc_of (cc := cX9_isLess) (nL := 23) (ret := (some .boolean)) (by decide +kernel) rfl (Nat.le_of_ble_eq_true rfl) (lv := [(0, vJ a0), (2, vJ a1), (4, vJ a2), (6, vJ a3)]) rfl (fun x C _ => ?_)
  unfold dn_X9_isLess at h
  show GW (sM D t ad) mi_X9_isLess (acZ, S0, r0) x S 0 [(0, vJ a0), (2, vJ a1), (4, vJ a2), (6, vJ a3)] []
  refine g_lload_n (n := 1) C 0 dX9_isLess_0 rfl rfl ?_
  refine g_lstore (n := 3) (lv' := [(8, vJ a0), (0, vJ a0), (2, vJ a1), (4, vJ a2), (6, vJ a3)]) C dX9_isLess_1 (Nat.le_of_ble_eq_true rfl) rfl rfl rfl ?_
  refine g_lload_n (n := 4) C 2 dX9_isLess_3 rfl rfl ?_
  refine g_lstore (n := 6) (lv' := [(10, vJ a1), (8, vJ a0), (0, vJ a0), (2, vJ a1), (4, vJ a2), (6, vJ a3)]) C dX9_isLess_4 (Nat.le_of_ble_eq_true rfl) rfl rfl rfl ?_
  refine g_lload (n := 8) C 4 dX9_isLess_6 rfl rfl ?_
  refine g_lstore (n := 10) (lv' := [(12, vJ a2), (10, vJ a1), (8, vJ a0), (0, vJ a0), (2, vJ a1), (4, vJ a2), (6, vJ a3)]) C dX9_isLess_8 (Nat.le_of_ble_eq_true rfl) rfl rfl rfl ?_
  refine g_lload (n := 12) C 6 dX9_isLess_10 rfl rfl ?_
  refine g_lstore (n := 14) (lv' := [(14, vJ a3), (12, vJ a2), (10, vJ a1), (8, vJ a0), (0, vJ a0), (2, vJ a1), (4, vJ a2), (6, vJ a3)]) C dX9_isLess_12 (Nat.le_of_ble_eq_true rfl) rfl rfl rfl ?_
  refine g_iconst (n := 15) C dX9_isLess_14 rfl ?_
  refine g_istore (n := 17) (lv' := [(16, vI 0), (14, vJ a3), (12, vJ a2), (10, vJ a1), (8, vJ a0), (0, vJ a0), (2, vJ a1), (4, vJ a2), (6, vJ a3)]) C dX9_isLess_15 (Nat.le_of_ble_eq_true rfl) rfl rfl rfl ?_
  refine g_lv [5, 6, 7, 8, 4, 3, 2, 1, 0] rfl ?_
  exact u_X9_isLess_17 C FU a0 a1 a2 a3 a0 a1 a2 a3 0 S hS ha0 ha1 ha2 ha3 ha0 ha1 ha2 ha3 (by decide : r32 0) h
-- RX9 best
abbrev rm_X9_best : Room := ({ frames := 2, cells := 0, slots := 0, locals := 56 } : Room)
abbrev mi_X9_best : Mi := (cX9_best, 10, RX9, wsX9_best, rm_X9_best, (some .int))
set_option maxRecDepth 20000 in
theorem in_X9_best_X9 : ∀ w ∈ u_ws RX9 TX9 39, w ∈ wsX9_best := by decide +kernel
def dn_X9_best_62 : Nat → Int → Int → Int → Int → Int → Int → Int → St → Option (St × Int)
  | 0, _, _, _, _, _, _, _, _ => none
  | n + 1, x1, x2, x3, x4, x5, x7, x9, S => (if x3 < x9 then some (S, x4) else (cal (dn_X9_reckon x1 x2 x9 S) fun S20 v21 => (cal (dn_X9_isLess (S20 0 100034) (S20 0 100035) x5 x7 S20) fun S23 v24 => (if v24 = 0 then (nmV (w32 (x9 + 1)) fun v30 => dn_X9_best_62 n x1 x2 x3 x4 x5 x7 v30 S23) else (nmV (S23 0 100034) fun v27 => (nmV (S23 0 100035) fun v28 => (nmV (w32 (x9 + 1)) fun v29 => dn_X9_best_62 n x1 x2 x3 x9 v27 v28 v29 S23)))))))
set_option maxRecDepth 100000 in
set_option maxHeartbeats 4000000 in
theorem u_X9_best_62 {D : va_G} {t : T5} {ad : Nat → Nat} {S0 : St} {r0 : Int} {x : Mx} (C : CX (sM D t ad) mi_X9_best x) : ∀ (n : Nat) (x1 : Int) (x2 : Int) (x3 : Int) (x4 : Int) (x5 : Int) (x7 : Int) (x9 : Int) (S : St), RS S → (r32 x1) → (r32 x2) → (r32 x3) → (r32 x4) → (r64 x5) → (r64 x7) → (r32 x9) → dn_X9_best_62 n x1 x2 x3 x4 x5 x7 x9 S = some (S0, r0) → GW (sM D t ad) mi_X9_best (acI, S0, r0) x S 62 [(0, .ref (ad 0)), (1, vI x1), (2, vI x2), (3, vI x3), (4, vI x4), (5, vJ x5), (7, vJ x7), (9, vI x9)] [] := by
  intro n
  induction n with
  | zero =>
    intro x1 x2 x3 x4 x5 x7 x9 S hS hx1 hx2 hx3 hx4 hx5 hx7 hx9 h
    cases h
  | succ n ih =>
    intro x1 x2 x3 x4 x5 x7 x9 S hS hx1 hx2 hx3 hx4 hx5 hx7 hx9 h
    rw [dn_X9_best_62] at h
    refine g_iload (n := 64) C 7 dX9_best_62 rfl rfl ?_
    refine g_iload_n (n := 65) C 3 dX9_best_64 rfl rfl ?_
    refine g_icmp_gt (n := 68) C 119 hx9 hx3 dX9_best_65 (by decide) rfl (fun (hc19 : x3 < x9) => ?_) (fun (hc19 : ¬ (x3 < x9)) => ?_)
    · rw [if_pos hc19] at h
      refine g_iload (n := 121) C 4 dX9_best_119 rfl rfl ?_
      exact g_iret C rfl h rfl hx4 hS dX9_best_121
    · rw [if_neg hc19] at h
      refine g_aload_n (n := 69) C 0 dX9_best_68 rfl rfl ?_
      refine g_iload_n (n := 70) C 1 dX9_best_69 rfl rfl ?_
      refine g_iload_n (n := 71) C 2 dX9_best_70 rfl rfl ?_
      refine g_iload (n := 73) C 7 dX9_best_71 rfl rfl ?_
      obtain ⟨S20, v21, hq22, h⟩ := cal_e h
      refine g_callV (n := 76) (As := [vI x1, vI x2, vI x9]) (rest := []) C 0 3 (Nat.le_of_ble_eq_true rfl) rfl rfl (c_X9_reckon hS hx1 hx2 hx9 hq22) gX9_best_X9_reckon rfl ⟨rfl, rfl⟩ (by decide +kernel) ⟨Nat.le_of_ble_eq_true rfl, Nat.le_of_ble_eq_true rfl⟩ rfl rfl rfl (Nat.le_of_ble_eq_true rfl) dX9_best_73 rfl (fun hS20 hv21 => ?_)
      show GW (sM D t ad) mi_X9_best (acI, S0, r0) x S20 76 _ []
      refine g_aload_n (n := 77) C 0 dX9_best_76 rfl rfl ?_
      refine g_getJ (n := 80) C 0 34 rfl (Nat.le_of_ble_eq_true rfl) rfl rfl rfl (Nat.le_of_ble_eq_true rfl) in_X9_best_X9 (by decide +kernel) dX9_best_77 rfl ?_
      refine g_aload_n (n := 81) C 0 dX9_best_80 rfl rfl ?_
      refine g_getJ (n := 84) C 0 35 rfl (Nat.le_of_ble_eq_true rfl) rfl rfl rfl (Nat.le_of_ble_eq_true rfl) in_X9_best_X9 (by decide +kernel) dX9_best_81 rfl ?_
      refine g_lload (n := 86) C 5 dX9_best_84 rfl rfl ?_
      refine g_lload (n := 88) C 6 dX9_best_86 rfl rfl ?_
      obtain ⟨S23, v24, hq25, h⟩ := cal_e h
      refine g_callT (n := 91) (As := [vJ (S20 0 100034), vJ (S20 0 100035), vJ x5, vJ x7]) (rest := []) C 4 (c_X9_isLess hS20 ((hS20 0 100034).1) ((hS20 0 100035).1) hx5 hx7 hq25) gX9_best_X9_isLess rfl ⟨rfl, rfl⟩ (by decide +kernel) ⟨Nat.le_of_ble_eq_true rfl, Nat.le_of_ble_eq_true rfl⟩ rfl rfl (Nat.le_of_ble_eq_true rfl) dX9_best_88 rfl (fun hS23 hv24 => ?_)
      show GW (sM D t ad) mi_X9_best (acI, S0, r0) x S23 91 _ [vI v24]
      refine g_if_ne (n := 94) C 97 (z_r32 hv24) dX9_best_91 (by decide) rfl (fun (hc26 : ¬ (v24 = 0)) => ?_) (fun (hc26 : v24 = 0) => ?_)
      · rw [if_neg hc26] at h
        refine g_iload (n := 99) C 7 dX9_best_97 rfl rfl ?_
        refine g_istore (n := 101) (lv' := [(4, vI x9), (0, .ref (ad 0)), (1, vI x1), (2, vI x2), (3, vI x3), (5, vJ x5), (7, vJ x7), (9, vI x9)]) C dX9_best_99 (Nat.le_of_ble_eq_true rfl) rfl rfl rfl ?_
        refine g_aload_n (n := 102) C 1 dX9_best_101 rfl rfl ?_
        refine g_getJ (n := 105) C 0 34 rfl (Nat.le_of_ble_eq_true rfl) rfl rfl rfl (Nat.le_of_ble_eq_true rfl) in_X9_best_X9 (by decide +kernel) dX9_best_102 rfl ?_
        obtain ⟨v27, ev27, h⟩ := nmV_e h
        have hv27 : r64 v27 := by rw [ev27]; exact (hS23 0 100034).1
        refine g_lstore (n := 107) (lv' := [(5, vJ v27), (4, vI x9), (0, .ref (ad 0)), (1, vI x1), (2, vI x2), (3, vI x3), (7, vJ x7), (9, vI x9)]) C dX9_best_105 (Nat.le_of_ble_eq_true rfl) ev27 rfl rfl ?_
        refine g_aload_n (n := 108) C 2 dX9_best_107 rfl rfl ?_
        refine g_getJ (n := 111) C 0 35 rfl (Nat.le_of_ble_eq_true rfl) rfl rfl rfl (Nat.le_of_ble_eq_true rfl) in_X9_best_X9 (by decide +kernel) dX9_best_108 rfl ?_
        obtain ⟨v28, ev28, h⟩ := nmV_e h
        have hv28 : r64 v28 := by rw [ev28]; exact (hS23 0 100035).1
        refine g_lstore (n := 113) (lv' := [(7, vJ v28), (5, vJ v27), (4, vI x9), (0, .ref (ad 0)), (1, vI x1), (2, vI x2), (3, vI x3), (9, vI x9)]) C dX9_best_111 (Nat.le_of_ble_eq_true rfl) ev28 rfl rfl ?_
        obtain ⟨v29, ev29, h⟩ := nmV_e h
        have hv29 : r32 v29 := by rw [ev29]; exact w32_r _
        refine g_iinc (n := 116) (lv' := [(9, vI v29), (7, vJ v28), (5, vJ v27), (4, vI x9), (0, .ref (ad 0)), (1, vI x1), (2, vI x2), (3, vI x3)]) C 7 dX9_best_113 rfl (Nat.le_of_ble_eq_true rfl) ev29 rfl rfl ?_
        refine g_goto C 62 dX9_best_116 (by decide) ?_
        refine g_lv [4, 5, 6, 7, 3, 2, 1, 0] rfl ?_
        exact ih x1 x2 x3 x9 v27 v28 v29 S23 hS23 hx1 hx2 hx3 hx9 hv27 hv28 hv29 h
      · rw [if_pos hc26] at h
        refine g_goto C 113 dX9_best_94 (by decide) ?_
        obtain ⟨v30, ev30, h⟩ := nmV_e h
        have hv30 : r32 v30 := by rw [ev30]; exact w32_r _
        refine g_iinc (n := 116) (lv' := [(9, vI v30), (0, .ref (ad 0)), (1, vI x1), (2, vI x2), (3, vI x3), (4, vI x4), (5, vJ x5), (7, vJ x7)]) C 7 dX9_best_113 rfl (Nat.le_of_ble_eq_true rfl) ev30 rfl rfl ?_
        refine g_goto C 62 dX9_best_116 (by decide) ?_
        refine g_lv [1, 2, 3, 4, 5, 6, 7, 0] rfl ?_
        exact ih x1 x2 x3 x4 x5 x7 v30 S23 hS23 hx1 hx2 hx3 hx4 hx5 hx7 hv30 h
def dn_X9_best (a0 : Int) (a1 : Int) (a2 : Int) (S : St) : Option (St × Int) := (nmS (stU S 0 33 0) fun S1 => (cal (dn_X9_in a0 1 8 S1) fun S2 v3 => (if v3 = 0 then some (S2, (-1)) else (cal (dn_X9_in a1 1 9 S2) fun S6 v7 => (if v7 = 0 then some (S6, (-1)) else (cal (dn_X9_in a2 1 8 S6) fun S10 v11 => (if v11 = 0 then some (S10, (-1)) else (cal (dn_X9_reckon a0 a1 1 S10) fun S14 v15 => (nmV (S14 0 100034) fun v17 => (nmV (S14 0 100035) fun v18 => dn_X9_best_62 FU a0 a1 a2 1 v17 v18 2 S14))))))))))
set_option maxRecDepth 100000 in
set_option maxHeartbeats 4000000 in
theorem c_X9_best {l : Launch} {D : va_G} {t : T5} {ad : Nat → Nat} {S S0 : St} {r0 : Int} {a0 a1 a2 : Int} (hS : RS S) (ha0 : r32 a0) (ha1 : r32 a1) (ha2 : r32 a2) (h : dn_X9_best a0 a1 a2 S = some (S0, r0)) : Mc l (sM D t ad) yX9_best wsX9_best rm_X9_best [.ref (ad 0), vI a0, vI a1, vI a2] acI S S0 r0 := by
  refine Mc_of (cc := cX9_best) (nL := 10) (ret := (some .int)) (by decide +kernel) rfl (Nat.le_of_ble_eq_true rfl) (lv := [(0, .ref (ad 0)), (1, vI a0), (2, vI a1), (3, vI a2)]) rfl (fun x C _ => ?_)
  unfold dn_X9_best at h
  show GW (sM D t ad) mi_X9_best (acI, S0, r0) x S 0 [(0, .ref (ad 0)), (1, vI a0), (2, vI a1), (3, vI a2)] []
  refine g_aload_n (n := 1) C 0 dX9_best_0 rfl rfl ?_
  refine g_iconst (n := 2) C dX9_best_1 rfl ?_
  obtain ⟨S1, eS1, h⟩ := nmS_e h
  have hS1 : RS S1 := by rw [eS1]; exact RS_i hS (by decide : r32 0)
  refine g_putI (n := 5) C 0 33 rfl (Nat.le_of_ble_eq_true rfl) rfl rfl rfl (Nat.le_of_ble_eq_true rfl) in_X9_best_X9 tyX9_ok nmX9 (by decide +kernel) rfl (by decide +kernel) (Nat.le_of_ble_eq_true rfl) eS1 dX9_best_2 rfl ?_
  refine g_iload_n (n := 6) C 1 dX9_best_5 rfl rfl ?_
  refine g_iconst (n := 7) C dX9_best_6 rfl ?_
  refine g_bipush (n := 9) C dX9_best_7 (by decide +kernel) rfl ?_
  obtain ⟨S2, v3, hq4, h⟩ := cal_e h
  refine g_callT (n := 12) (As := [vI a0, vI 1, vI 8]) (rest := []) C 3 (c_X9_in hS1 ha0 (by decide : r32 1) (by decide : r32 8) hq4) gX9_best_X9_in rfl ⟨rfl, rfl⟩ (by decide +kernel) ⟨Nat.le_of_ble_eq_true rfl, Nat.le_of_ble_eq_true rfl⟩ rfl rfl (Nat.le_of_ble_eq_true rfl) dX9_best_9 rfl (fun hS2 hv3 => ?_)
  show GW (sM D t ad) mi_X9_best (acI, S0, r0) x S2 12 _ [vI v3]
  refine g_if_eq (n := 15) C 35 (z_r32 hv3) dX9_best_12 (by decide) rfl (fun (hc5 : v3 = 0) => ?_) (fun (hc5 : ¬ (v3 = 0)) => ?_)
  · rw [if_pos hc5] at h
    refine g_iconst (n := 36) C dX9_best_35 rfl ?_
    exact g_iret C rfl h rfl (by decide : r32 (-1)) hS2 dX9_best_36
  · rw [if_neg hc5] at h
    refine g_iload_n (n := 16) C 2 dX9_best_15 rfl rfl ?_
    refine g_iconst (n := 17) C dX9_best_16 rfl ?_
    refine g_bipush (n := 19) C dX9_best_17 (by decide +kernel) rfl ?_
    obtain ⟨S6, v7, hq8, h⟩ := cal_e h
    refine g_callT (n := 22) (As := [vI a1, vI 1, vI 9]) (rest := []) C 3 (c_X9_in hS2 ha1 (by decide : r32 1) (by decide : r32 9) hq8) gX9_best_X9_in rfl ⟨rfl, rfl⟩ (by decide +kernel) ⟨Nat.le_of_ble_eq_true rfl, Nat.le_of_ble_eq_true rfl⟩ rfl rfl (Nat.le_of_ble_eq_true rfl) dX9_best_19 rfl (fun hS6 hv7 => ?_)
    show GW (sM D t ad) mi_X9_best (acI, S0, r0) x S6 22 _ [vI v7]
    refine g_if_eq (n := 25) C 35 (z_r32 hv7) dX9_best_22 (by decide) rfl (fun (hc9 : v7 = 0) => ?_) (fun (hc9 : ¬ (v7 = 0)) => ?_)
    · rw [if_pos hc9] at h
      refine g_iconst (n := 36) C dX9_best_35 rfl ?_
      exact g_iret C rfl h rfl (by decide : r32 (-1)) hS6 dX9_best_36
    · rw [if_neg hc9] at h
      refine g_iload_n (n := 26) C 3 dX9_best_25 rfl rfl ?_
      refine g_iconst (n := 27) C dX9_best_26 rfl ?_
      refine g_bipush (n := 29) C dX9_best_27 (by decide +kernel) rfl ?_
      obtain ⟨S10, v11, hq12, h⟩ := cal_e h
      refine g_callT (n := 32) (As := [vI a2, vI 1, vI 8]) (rest := []) C 3 (c_X9_in hS6 ha2 (by decide : r32 1) (by decide : r32 8) hq12) gX9_best_X9_in rfl ⟨rfl, rfl⟩ (by decide +kernel) ⟨Nat.le_of_ble_eq_true rfl, Nat.le_of_ble_eq_true rfl⟩ rfl rfl (Nat.le_of_ble_eq_true rfl) dX9_best_29 rfl (fun hS10 hv11 => ?_)
      show GW (sM D t ad) mi_X9_best (acI, S0, r0) x S10 32 _ [vI v11]
      refine g_if_ne (n := 35) C 37 (z_r32 hv11) dX9_best_32 (by decide) rfl (fun (hc13 : ¬ (v11 = 0)) => ?_) (fun (hc13 : v11 = 0) => ?_)
      · rw [if_neg hc13] at h
        refine g_iconst (n := 38) C dX9_best_37 rfl ?_
        refine g_istore (n := 40) (lv' := [(4, vI 1), (0, .ref (ad 0)), (1, vI a0), (2, vI a1), (3, vI a2)]) C dX9_best_38 (Nat.le_of_ble_eq_true rfl) rfl rfl rfl ?_
        refine g_aload_n (n := 41) C 1 dX9_best_40 rfl rfl ?_
        refine g_iload_n (n := 42) C 2 dX9_best_41 rfl rfl ?_
        refine g_iload_n (n := 43) C 3 dX9_best_42 rfl rfl ?_
        refine g_iconst (n := 44) C dX9_best_43 rfl ?_
        obtain ⟨S14, v15, hq16, h⟩ := cal_e h
        refine g_callV (n := 47) (As := [vI a0, vI a1, vI 1]) (rest := []) C 0 3 (Nat.le_of_ble_eq_true rfl) rfl rfl (c_X9_reckon hS10 ha0 ha1 (by decide : r32 1) hq16) gX9_best_X9_reckon rfl ⟨rfl, rfl⟩ (by decide +kernel) ⟨Nat.le_of_ble_eq_true rfl, Nat.le_of_ble_eq_true rfl⟩ rfl rfl rfl (Nat.le_of_ble_eq_true rfl) dX9_best_44 rfl (fun hS14 hv15 => ?_)
        show GW (sM D t ad) mi_X9_best (acI, S0, r0) x S14 47 _ []
        refine g_aload_n (n := 48) C 1 dX9_best_47 rfl rfl ?_
        refine g_getJ (n := 51) C 0 34 rfl (Nat.le_of_ble_eq_true rfl) rfl rfl rfl (Nat.le_of_ble_eq_true rfl) in_X9_best_X9 (by decide +kernel) dX9_best_48 rfl ?_
        obtain ⟨v17, ev17, h⟩ := nmV_e h
        have hv17 : r64 v17 := by rw [ev17]; exact (hS14 0 100034).1
        refine g_lstore (n := 53) (lv' := [(5, vJ v17), (4, vI 1), (0, .ref (ad 0)), (1, vI a0), (2, vI a1), (3, vI a2)]) C dX9_best_51 (Nat.le_of_ble_eq_true rfl) ev17 rfl rfl ?_
        refine g_aload_n (n := 54) C 2 dX9_best_53 rfl rfl ?_
        refine g_getJ (n := 57) C 0 35 rfl (Nat.le_of_ble_eq_true rfl) rfl rfl rfl (Nat.le_of_ble_eq_true rfl) in_X9_best_X9 (by decide +kernel) dX9_best_54 rfl ?_
        obtain ⟨v18, ev18, h⟩ := nmV_e h
        have hv18 : r64 v18 := by rw [ev18]; exact (hS14 0 100035).1
        refine g_lstore (n := 59) (lv' := [(7, vJ v18), (5, vJ v17), (4, vI 1), (0, .ref (ad 0)), (1, vI a0), (2, vI a1), (3, vI a2)]) C dX9_best_57 (Nat.le_of_ble_eq_true rfl) ev18 rfl rfl ?_
        refine g_iconst (n := 60) C dX9_best_59 rfl ?_
        refine g_istore (n := 62) (lv' := [(9, vI 2), (7, vJ v18), (5, vJ v17), (4, vI 1), (0, .ref (ad 0)), (1, vI a0), (2, vI a1), (3, vI a2)]) C dX9_best_60 (Nat.le_of_ble_eq_true rfl) rfl rfl rfl ?_
        refine g_lv [4, 5, 6, 7, 3, 2, 1, 0] rfl ?_
        exact u_X9_best_62 C FU a0 a1 a2 1 v17 v18 2 S14 hS14 ha0 ha1 ha2 (by decide : r32 1) hv17 hv18 (by decide : r32 2) h
      · rw [if_pos hc13] at h
        refine g_iconst (n := 36) C dX9_best_35 rfl ?_
        exact g_iret C rfl h rfl (by decide : r32 (-1)) hS10 dX9_best_36
-- RX9 crowd
abbrev rm_X9_crowd : Room := ({ frames := 1, cells := 0, slots := 0, locals := 22 } : Room)
abbrev mi_X9_crowd : Mi := (cX9_crowd, 2, RX9, wsX9_crowd, rm_X9_crowd, (some .int))
set_option maxRecDepth 20000 in
theorem in_X9_crowd_X9 : ∀ w ∈ u_ws RX9 TX9 39, w ∈ wsX9_crowd := by decide +kernel
def dn_X9_crowd (a0 : Int) (S : St) : Option (St × Int) := (nmS (stU S 0 33 0) fun S1 => (cal (dn_X9_in a0 1 4 S1) fun S2 v3 => (if v3 = 0 then some (S2, (-1)) else (if S2 0 32 = 6 then some (S2, (-1)) else (if 0 ≤ S2 0 32 ∧ S2 0 32 < 6 then (nmS (stU S2 22 (S2 0 32).toNat a0) fun S8 => (nmS (stU S8 0 32 (w32 ((S8 0 32) + 1))) fun S9 => some (S9, S9 0 32))) else none)))))
set_option maxRecDepth 100000 in
set_option maxHeartbeats 4000000 in
theorem c_X9_crowd {l : Launch} {D : va_G} {t : T5} {ad : Nat → Nat} {S S0 : St} {r0 : Int} {a0 : Int} (hS : RS S) (ha0 : r32 a0) (h : dn_X9_crowd a0 S = some (S0, r0)) : Mc l (sM D t ad) yX9_crowd wsX9_crowd rm_X9_crowd [.ref (ad 0), vI a0] acI S S0 r0 := by
  refine Mc_of (cc := cX9_crowd) (nL := 2) (ret := (some .int)) (by decide +kernel) rfl (Nat.le_of_ble_eq_true rfl) (lv := [(0, .ref (ad 0)), (1, vI a0)]) rfl (fun x C _ => ?_)
  unfold dn_X9_crowd at h
  show GW (sM D t ad) mi_X9_crowd (acI, S0, r0) x S 0 [(0, .ref (ad 0)), (1, vI a0)] []
  refine g_aload_n (n := 1) C 0 dX9_crowd_0 rfl rfl ?_
  refine g_iconst (n := 2) C dX9_crowd_1 rfl ?_
  obtain ⟨S1, eS1, h⟩ := nmS_e h
  have hS1 : RS S1 := by rw [eS1]; exact RS_i hS (by decide : r32 0)
  refine g_putI (n := 5) C 0 33 rfl (Nat.le_of_ble_eq_true rfl) rfl rfl rfl (Nat.le_of_ble_eq_true rfl) in_X9_crowd_X9 tyX9_ok nmX9 (by decide +kernel) rfl (by decide +kernel) (Nat.le_of_ble_eq_true rfl) eS1 dX9_crowd_2 rfl ?_
  refine g_iload_n (n := 6) C 1 dX9_crowd_5 rfl rfl ?_
  refine g_iconst (n := 7) C dX9_crowd_6 rfl ?_
  refine g_iconst (n := 8) C dX9_crowd_7 rfl ?_
  obtain ⟨S2, v3, hq4, h⟩ := cal_e h
  refine g_callT (n := 11) (As := [vI a0, vI 1, vI 4]) (rest := []) C 3 (c_X9_in hS1 ha0 (by decide : r32 1) (by decide : r32 4) hq4) gX9_crowd_X9_in rfl ⟨rfl, rfl⟩ (by decide +kernel) ⟨Nat.le_of_ble_eq_true rfl, Nat.le_of_ble_eq_true rfl⟩ rfl rfl (Nat.le_of_ble_eq_true rfl) dX9_crowd_8 rfl (fun hS2 hv3 => ?_)
  show GW (sM D t ad) mi_X9_crowd (acI, S0, r0) x S2 11 _ [vI v3]
  refine g_if_eq (n := 14) C 23 (z_r32 hv3) dX9_crowd_11 (by decide) rfl (fun (hc5 : v3 = 0) => ?_) (fun (hc5 : ¬ (v3 = 0)) => ?_)
  · rw [if_pos hc5] at h
    refine g_iconst (n := 24) C dX9_crowd_23 rfl ?_
    exact g_iret C rfl h rfl (by decide : r32 (-1)) hS2 dX9_crowd_24
  · rw [if_neg hc5] at h
    refine g_aload_n (n := 15) C 0 dX9_crowd_14 rfl rfl ?_
    refine g_getI (n := 18) C 0 32 rfl (Nat.le_of_ble_eq_true rfl) rfl rfl rfl (Nat.le_of_ble_eq_true rfl) in_X9_crowd_X9 (by decide +kernel) dX9_crowd_15 rfl ?_
    refine g_bipush (n := 20) C dX9_crowd_18 (by decide +kernel) rfl ?_
    refine g_icmp_ne (n := 23) C 25 ((hS2 0 32).2 (by decide)) (by decide : r32 6) dX9_crowd_20 (by decide) rfl (fun (hc6 : ¬ (S2 0 32 = 6)) => ?_) (fun (hc6 : S2 0 32 = 6) => ?_)
    · rw [if_neg hc6] at h
      refine g_aload_n (n := 26) C 0 dX9_crowd_25 rfl rfl ?_
      refine g_getC (n := 29) C 0 31 rfl (Nat.le_of_ble_eq_true rfl) rfl rfl rfl (Nat.le_of_ble_eq_true rfl) in_X9_crowd_X9 (by decide +kernel) dX9_crowd_26 rfl ?_
      refine g_aload_n (n := 30) C 0 dX9_crowd_29 rfl rfl ?_
      refine g_getI (n := 33) C 0 32 rfl (Nat.le_of_ble_eq_true rfl) rfl rfl rfl (Nat.le_of_ble_eq_true rfl) in_X9_crowd_X9 (by decide +kernel) dX9_crowd_30 rfl ?_
      refine g_iload_n (n := 34) C 1 dX9_crowd_33 rfl rfl ?_
      obtain ⟨hg7, h⟩ := gd_e h
      obtain ⟨S8, eS8, h⟩ := nmS_e h
      have hS8 : RS S8 := by rw [eS8]; exact RS_i hS2 ha0
      refine g_iast (n := 35) C 22 rfl (Nat.le_of_ble_eq_true rfl) rfl rfl hg7 ((hS2 0 32).2 (by decide)) eS8 dX9_crowd_34 rfl ?_
      refine g_aload_n (n := 36) C 0 dX9_crowd_35 rfl rfl ?_
      refine g_dup (n := 37) C rfl dX9_crowd_36 rfl ?_
      refine g_getI (n := 40) C 0 32 rfl (Nat.le_of_ble_eq_true rfl) rfl rfl rfl (Nat.le_of_ble_eq_true rfl) in_X9_crowd_X9 (by decide +kernel) dX9_crowd_37 rfl ?_
      refine g_iconst (n := 41) C dX9_crowd_40 rfl ?_
      refine g_iadd (n := 42) C dX9_crowd_41 rfl ?_
      obtain ⟨S9, eS9, h⟩ := nmS_e h
      have hS9 : RS S9 := by rw [eS9]; exact RS_i hS8 (w32_r _)
      refine g_putI (n := 45) C 0 32 rfl (Nat.le_of_ble_eq_true rfl) rfl rfl rfl (Nat.le_of_ble_eq_true rfl) in_X9_crowd_X9 tyX9_ok nmX9 (by decide +kernel) rfl (by decide +kernel) (Nat.le_of_ble_eq_true rfl) eS9 dX9_crowd_42 rfl ?_
      refine g_aload_n (n := 46) C 0 dX9_crowd_45 rfl rfl ?_
      refine g_getI (n := 49) C 0 32 rfl (Nat.le_of_ble_eq_true rfl) rfl rfl rfl (Nat.le_of_ble_eq_true rfl) in_X9_crowd_X9 (by decide +kernel) dX9_crowd_46 rfl ?_
      exact g_iret C rfl h rfl ((hS9 0 32).2 (by decide)) hS9 dX9_crowd_49
    · rw [if_pos hc6] at h
      refine g_iconst (n := 24) C dX9_crowd_23 rfl ?_
      exact g_iret C rfl h rfl (by decide : r32 (-1)) hS2 dX9_crowd_24
