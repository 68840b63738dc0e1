/-! the plain constructors -/
theorem k_L {V : Type} {D : va_G} {t : T5} {A : Nat → Prop} {ws : va_W} {ok : V → Prop} {N : V → va_W} {mm : Nat × Nat} {μ : Mi} {x : Mx} {L L' : va_W} {cells slots pc : Nat} {lv : List (Nat × Value)} {st : List Value} (h : L = L') (k : KW D t A ws ok N mm μ x L' cells slots pc lv st) : KW D t A ws ok N mm μ x L cells slots pc lv st := by rw [h]; exact k
abbrev az (n : Nat) : vp_A := (n, .inl (fun _ => 0))
abbrev azJ (n : Nat) : vp_A := (n, .inr (.inl (fun _ => 0)))
abbrev rm_X0_init : Room := ({ frames := 1, cells := 2, slots := 120, locals := 12 } : Room)
set_option maxRecDepth 20000 in
theorem in_X0_init_X0 : ∀ w ∈ u_ws RX0 TX0 3, w ∈ wsX0_init := by decide +kernel
set_option maxRecDepth 100000 in
set_option maxHeartbeats 4000000 in
theorem c_X0_init {l : Launch} {D : va_G} {t : T5} {h0 : Nat} : MK l D t yX0_init wsX0_init rm_X0_init [.ref h0] [(h0, .inr (0, [.null, .null, vI 0]))] (fun _ : Nat × Nat => True) (fun v => [(h0, .inr (0, [.ref v.1, .ref v.2, vI 0])), (v.1, .inl (t.1, az 60)), (v.2, .inl (t.1, az 60))]) 2 120 := by
  refine MK_of (cc := cX0_init) (nL := 1) (by decide +kernel) rfl rfl (Nat.le_of_ble_eq_true rfl) (lv := [(0, .ref h0)]) rfl (fun A ws x C _ => ?_)
  show KW D t A ws _ _ _ (cX0_init, 1, RX0, wsX0_init, rm_X0_init, none) x [(h0, .inr (0, [.null, .null, vI 0]))] 0 0 0 _ []
  refine k_aload_n (n := 1) C 0 dX0_init_0 rfl rfl ?_
  refine k_obj (n := 4) C (by decide +kernel) (by decide +kernel) (by decide +kernel) ⟨Nat.le_of_ble_eq_true rfl, Nat.le_of_ble_eq_true rfl⟩ dX0_init_1 rfl ?_
  refine k_aload_n (n := 5) C 0 dX0_init_4 rfl rfl ?_
  refine k_bipush (n := 7) C dX0_init_5 (by decide +kernel) rfl ?_
  refine k_newa (n := 9) C 0 (ty := .int) (a0 := az 60) (M := 60) rfl rfl (by decide +kernel) (fun _ => rfl) (by decide) rfl (by decide) ⟨Nat.le_of_ble_eq_true rfl, Nat.le_of_ble_eq_true rfl⟩ dX0_init_7 rfl (fun q1 => ?_)
  refine k_L (L' := [(h0, .inr (0, [.null, .null, vI 0])), (q1, .inl (t.1, az 60))]) rfl ?_
  refine k_wide (c2 := 1) (s2 := 60) (Nat.le_of_ble_eq_true rfl) (Nat.le_of_ble_eq_true rfl) ?_
  refine k_putF (n := 12) C 0 0 (ty0 := tyX0) (ty := .array .int) rfl rfl (Nat.le_of_ble_eq_true rfl) in_X0_init_X0 tyX0_ok nmX0 (by decide +kernel) rfl rfl (by decide +kernel) rfl rfl (Nat.le_of_ble_eq_true rfl) dX0_init_9 rfl ?_
  refine k_L (L' := [(h0, .inr (0, [.ref q1, .null, vI 0])), (q1, .inl (t.1, az 60))]) rfl ?_
  refine k_aload_n (n := 13) C 0 dX0_init_12 rfl rfl ?_
  refine k_bipush (n := 15) C dX0_init_13 (by decide +kernel) rfl ?_
  refine k_newa (n := 17) C 0 (ty := .int) (a0 := az 60) (M := 60) rfl rfl (by decide +kernel) (fun _ => rfl) (by decide) rfl (by decide) ⟨Nat.le_of_ble_eq_true rfl, Nat.le_of_ble_eq_true rfl⟩ dX0_init_15 rfl (fun q2 => ?_)
  refine k_L (L' := [(h0, .inr (0, [.ref q1, .null, vI 0])), (q1, .inl (t.1, az 60)), (q2, .inl (t.1, az 60))]) rfl ?_
  refine k_wide (c2 := 2) (s2 := 120) (Nat.le_of_ble_eq_true rfl) (Nat.le_of_ble_eq_true rfl) ?_
  refine k_putF (n := 20) C 0 1 (ty0 := tyX0) (ty := .array .int) rfl rfl (Nat.le_of_ble_eq_true rfl) in_X0_init_X0 tyX0_ok nmX0 (by decide +kernel) rfl rfl (by decide +kernel) rfl rfl (Nat.le_of_ble_eq_true rfl) dX0_init_17 rfl ?_
  refine k_L (L' := [(h0, .inr (0, [.ref q1, .ref q2, vI 0])), (q1, .inl (t.1, az 60)), (q2, .inl (t.1, az 60))]) rfl ?_
  exact k_ret C (q1, q2) trivial rfl ⟨Nat.le_of_ble_eq_true rfl, Nat.le_of_ble_eq_true rfl⟩ dX0_init_20
abbrev rm_X2_init : Room := ({ frames := 1, cells := 3, slots := 257, locals := 12 } : Room)
set_option maxRecDepth 20000 in
theorem in_X2_init_X2 : ∀ w ∈ u_ws RX2 TX2 7, w ∈ wsX2_init := by decide +kernel
set_option maxRecDepth 100000 in
set_option maxHeartbeats 4000000 in
theorem c_X2_init {l : Launch} {D : va_G} {t : T5} {h0 : Nat} : MK l D t yX2_init wsX2_init rm_X2_init [.ref h0] [(h0, .inr (2, [.null, .null, .null, vI 0, vI 0, vI 0, vI 0]))] (fun _ : Nat × Nat × Nat => True) (fun v => [(h0, .inr (2, [.ref v.1, .ref v.2.1, .ref v.2.2, vI 0, vI 0, vI 0, vI 0])), (v.1, .inl (t.1, az 6)), (v.2.1, .inl (t.1, az 6)), (v.2.2, .inl (t.2.1, azJ 245))]) 3 257 := by
  refine MK_of (cc := cX2_init) (nL := 1) (by decide +kernel) rfl rfl (Nat.le_of_ble_eq_true rfl) (lv := [(0, .ref h0)]) rfl (fun A ws x C _ => ?_)
  show KW D t A ws _ _ _ (cX2_init, 1, RX2, wsX2_init, rm_X2_init, none) x [(h0, .inr (2, [.null, .null, .null, vI 0, vI 0, vI 0, vI 0]))] 0 0 0 _ []
  refine k_aload_n (n := 1) C 0 dX2_init_0 rfl rfl ?_
  refine k_obj (n := 4) C (by decide +kernel) (by decide +kernel) (by decide +kernel) ⟨Nat.le_of_ble_eq_true rfl, Nat.le_of_ble_eq_true rfl⟩ dX2_init_1 rfl ?_
  refine k_aload_n (n := 5) C 0 dX2_init_4 rfl rfl ?_
  refine k_bipush (n := 7) C dX2_init_5 (by decide +kernel) rfl ?_
  refine k_newa (n := 9) C 0 (ty := .int) (a0 := az 6) (M := 6) rfl rfl (by decide +kernel) (fun _ => rfl) (by decide) rfl (by decide) ⟨Nat.le_of_ble_eq_true rfl, Nat.le_of_ble_eq_true rfl⟩ dX2_init_7 rfl (fun q1 => ?_)
  refine k_L (L' := [(h0, .inr (2, [.null, .null, .null, vI 0, vI 0, vI 0, vI 0])), (q1, .inl (t.1, az 6))]) rfl ?_
  refine k_wide (c2 := 1) (s2 := 6) (Nat.le_of_ble_eq_true rfl) (Nat.le_of_ble_eq_true rfl) ?_
  refine k_putF (n := 12) C 0 0 (ty0 := tyX2) (ty := .array .int) rfl rfl (Nat.le_of_ble_eq_true rfl) in_X2_init_X2 tyX2_ok nmX2 (by decide +kernel) rfl rfl (by decide +kernel) rfl rfl (Nat.le_of_ble_eq_true rfl) dX2_init_9 rfl ?_
  refine k_L (L' := [(h0, .inr (2, [.ref q1, .null, .null, vI 0, vI 0, vI 0, vI 0])), (q1, .inl (t.1, az 6))]) rfl ?_
  refine k_aload_n (n := 13) C 0 dX2_init_12 rfl rfl ?_
  refine k_bipush (n := 15) C dX2_init_13 (by decide +kernel) rfl ?_
  refine k_newa (n := 17) C 0 (ty := .int) (a0 := az 6) (M := 6) rfl rfl (by decide +kernel) (fun _ => rfl) (by decide) rfl (by decide) ⟨Nat.le_of_ble_eq_true rfl, Nat.le_of_ble_eq_true rfl⟩ dX2_init_15 rfl (fun q2 => ?_)
  refine k_L (L' := [(h0, .inr (2, [.ref q1, .null, .null, vI 0, vI 0, vI 0, vI 0])), (q1, .inl (t.1, az 6)), (q2, .inl (t.1, az 6))]) rfl ?_
  refine k_wide (c2 := 2) (s2 := 12) (Nat.le_of_ble_eq_true rfl) (Nat.le_of_ble_eq_true rfl) ?_
  refine k_putF (n := 20) C 0 1 (ty0 := tyX2) (ty := .array .int) rfl rfl (Nat.le_of_ble_eq_true rfl) in_X2_init_X2 tyX2_ok nmX2 (by decide +kernel) rfl rfl (by decide +kernel) rfl rfl (Nat.le_of_ble_eq_true rfl) dX2_init_17 rfl ?_
  refine k_L (L' := [(h0, .inr (2, [.ref q1, .ref q2, .null, vI 0, vI 0, vI 0, vI 0])), (q1, .inl (t.1, az 6)), (q2, .inl (t.1, az 6))]) rfl ?_
  refine k_aload_n (n := 21) C 0 dX2_init_20 rfl rfl ?_
  refine k_sipush (n := 24) C dX2_init_21 (by decide +kernel) rfl ?_
  refine k_newa (n := 26) C 1 (ty := .long) (a0 := azJ 245) (M := 245) rfl rfl (by decide +kernel) (fun _ => rfl) (by decide) rfl (by decide) ⟨Nat.le_of_ble_eq_true rfl, Nat.le_of_ble_eq_true rfl⟩ dX2_init_24 rfl (fun q3 => ?_)
  refine k_L (L' := [(h0, .inr (2, [.ref q1, .ref q2, .null, vI 0, vI 0, vI 0, vI 0])), (q1, .inl (t.1, az 6)), (q2, .inl (t.1, az 6)), (q3, .inl (t.2.1, azJ 245))]) rfl ?_
  refine k_wide (c2 := 3) (s2 := 257) (Nat.le_of_ble_eq_true rfl) (Nat.le_of_ble_eq_true rfl) ?_
  refine k_putF (n := 29) C 0 2 (ty0 := tyX2) (ty := .array .long) rfl rfl (Nat.le_of_ble_eq_true rfl) in_X2_init_X2 tyX2_ok nmX2 (by decide +kernel) rfl rfl (by decide +kernel) rfl rfl (Nat.le_of_ble_eq_true rfl) dX2_init_26 rfl ?_
  refine k_L (L' := [(h0, .inr (2, [.ref q1, .ref q2, .ref q3, vI 0, vI 0, vI 0, vI 0])), (q1, .inl (t.1, az 6)), (q2, .inl (t.1, az 6)), (q3, .inl (t.2.1, azJ 245))]) rfl ?_
  exact k_ret C (q1, q2, q3) trivial rfl ⟨Nat.le_of_ble_eq_true rfl, Nat.le_of_ble_eq_true rfl⟩ dX2_init_29
abbrev rm_X4_init : Room := ({ frames := 1, cells := 2, slots := 609, locals := 12 } : Room)
set_option maxRecDepth 20000 in
theorem in_X4_init_X4 : ∀ w ∈ u_ws RX4 TX4 3, w ∈ wsX4_init := by decide +kernel
set_option maxRecDepth 100000 in
set_option maxHeartbeats 4000000 in
theorem c_X4_init {l : Launch} {D : va_G} {t : T5} {h0 : Nat} : MK l D t yX4_init wsX4_init rm_X4_init [.ref h0] [(h0, .inr (4, [.null, .null, vI 0]))] (fun _ : Nat × Nat => True) (fun v => [(h0, .inr (4, [.ref v.1, .ref v.2, vI 0])), (v.1, .inl (t.1, az 600)), (v.2, .inl (t.1, az 9))]) 2 609 := by
  refine MK_of (cc := cX4_init) (nL := 1) (by decide +kernel) rfl rfl (Nat.le_of_ble_eq_true rfl) (lv := [(0, .ref h0)]) rfl (fun A ws x C _ => ?_)
  show KW D t A ws _ _ _ (cX4_init, 1, RX4, wsX4_init, rm_X4_init, none) x [(h0, .inr (4, [.null, .null, vI 0]))] 0 0 0 _ []
  refine k_aload_n (n := 1) C 0 dX4_init_0 rfl rfl ?_
  refine k_obj (n := 4) C (by decide +kernel) (by decide +kernel) (by decide +kernel) ⟨Nat.le_of_ble_eq_true rfl, Nat.le_of_ble_eq_true rfl⟩ dX4_init_1 rfl ?_
  refine k_aload_n (n := 5) C 0 dX4_init_4 rfl rfl ?_
  refine k_sipush (n := 8) C dX4_init_5 (by decide +kernel) rfl ?_
  refine k_newa (n := 10) C 0 (ty := .int) (a0 := az 600) (M := 600) rfl rfl (by decide +kernel) (fun _ => rfl) (by decide) rfl (by decide) ⟨Nat.le_of_ble_eq_true rfl, Nat.le_of_ble_eq_true rfl⟩ dX4_init_8 rfl (fun q1 => ?_)
  refine k_L (L' := [(h0, .inr (4, [.null, .null, vI 0])), (q1, .inl (t.1, az 600))]) rfl ?_
  refine k_wide (c2 := 1) (s2 := 600) (Nat.le_of_ble_eq_true rfl) (Nat.le_of_ble_eq_true rfl) ?_
  refine k_putF (n := 13) C 0 0 (ty0 := tyX4) (ty := .array .int) rfl rfl (Nat.le_of_ble_eq_true rfl) in_X4_init_X4 tyX4_ok nmX4 (by decide +kernel) rfl rfl (by decide +kernel) rfl rfl (Nat.le_of_ble_eq_true rfl) dX4_init_10 rfl ?_
  refine k_L (L' := [(h0, .inr (4, [.ref q1, .null, vI 0])), (q1, .inl (t.1, az 600))]) rfl ?_
  refine k_aload_n (n := 14) C 0 dX4_init_13 rfl rfl ?_
  refine k_bipush (n := 16) C dX4_init_14 (by decide +kernel) rfl ?_
  refine k_newa (n := 18) C 0 (ty := .int) (a0 := az 9) (M := 9) rfl rfl (by decide +kernel) (fun _ => rfl) (by decide) rfl (by decide) ⟨Nat.le_of_ble_eq_true rfl, Nat.le_of_ble_eq_true rfl⟩ dX4_init_16 rfl (fun q2 => ?_)
  refine k_L (L' := [(h0, .inr (4, [.ref q1, .null, vI 0])), (q1, .inl (t.1, az 600)), (q2, .inl (t.1, az 9))]) rfl ?_
  refine k_wide (c2 := 2) (s2 := 609) (Nat.le_of_ble_eq_true rfl) (Nat.le_of_ble_eq_true rfl) ?_
  refine k_putF (n := 21) C 0 1 (ty0 := tyX4) (ty := .array .int) rfl rfl (Nat.le_of_ble_eq_true rfl) in_X4_init_X4 tyX4_ok nmX4 (by decide +kernel) rfl rfl (by decide +kernel) rfl rfl (Nat.le_of_ble_eq_true rfl) dX4_init_18 rfl ?_
  refine k_L (L' := [(h0, .inr (4, [.ref q1, .ref q2, vI 0])), (q1, .inl (t.1, az 600)), (q2, .inl (t.1, az 9))]) rfl ?_
  exact k_ret C (q1, q2) trivial rfl ⟨Nat.le_of_ble_eq_true rfl, Nat.le_of_ble_eq_true rfl⟩ dX4_init_21
abbrev rm_X1_init : Room := ({ frames := 1, cells := 0, slots := 0, locals := 12 } : Room)
set_option maxRecDepth 20000 in
theorem in_X1_init_X1 : ∀ w ∈ u_ws RX1 TX1 10, w ∈ wsX1_init := by decide +kernel
set_option maxRecDepth 100000 in
set_option maxHeartbeats 4000000 in
theorem c_X1_init {l : Launch} {D : va_G} {t : T5} {h0 : Nat} {a : Int} : MK l D t yX1_init wsX1_init rm_X1_init [.ref h0, vI a] [(h0, .inr (1, [vI 0, vI 0, vI 0, vI 0, vI 0, vI 0, vI 0, vI 0, vI 0, vI 0]))] (fun _ : Unit => True) (fun v => [(h0, .inr (1, [vI a, vI 0, vI 0, vI 0, vI 0, vI 0, vI 0, vI 0, vI 0, vI 0]))]) 0 0 := by
  refine MK_of (cc := cX1_init) (nL := 2) (by decide +kernel) rfl rfl (Nat.le_of_ble_eq_true rfl) (lv := [(0, .ref h0), (1, vI a)]) rfl (fun A ws x C _ => ?_)
  show KW D t A ws _ _ _ (cX1_init, 2, RX1, wsX1_init, rm_X1_init, none) x [(h0, .inr (1, [vI 0, vI 0, vI 0, vI 0, vI 0, vI 0, vI 0, vI 0, vI 0, vI 0]))] 0 0 0 _ []
  refine k_aload_n (n := 1) C 0 dX1_init_0 rfl rfl ?_
  refine k_obj (n := 4) C (by decide +kernel) (by decide +kernel) (by decide +kernel) ⟨Nat.le_of_ble_eq_true rfl, Nat.le_of_ble_eq_true rfl⟩ dX1_init_1 rfl ?_
  refine k_aload_n (n := 5) C 0 dX1_init_4 rfl rfl ?_
  refine k_iload_n (n := 6) C 1 dX1_init_5 rfl rfl ?_
  refine k_putF (n := 9) C 0 0 (ty0 := tyX1) (ty := .int) rfl rfl (Nat.le_of_ble_eq_true rfl) in_X1_init_X1 tyX1_ok nmX1 (by decide +kernel) rfl rfl (by decide +kernel) rfl rfl (Nat.le_of_ble_eq_true rfl) dX1_init_6 rfl ?_
  refine k_L (L' := [(h0, .inr (1, [vI a, vI 0, vI 0, vI 0, vI 0, vI 0, vI 0, vI 0, vI 0, vI 0]))]) rfl ?_
  exact k_ret C () trivial rfl ⟨Nat.le_of_ble_eq_true rfl, Nat.le_of_ble_eq_true rfl⟩ dX1_init_9
abbrev rm_X3_init : Room := ({ frames := 1, cells := 0, slots := 0, locals := 12 } : Room)
set_option maxRecDepth 20000 in
theorem in_X3_init_X3 : ∀ w ∈ u_ws RX3 TX3 6, w ∈ wsX3_init := by decide +kernel
set_option maxRecDepth 100000 in
set_option maxHeartbeats 4000000 in
theorem c_X3_init {l : Launch} {D : va_G} {t : T5} {h0 : Nat} {a : Int} : MK l D t yX3_init wsX3_init rm_X3_init [.ref h0, vI a] [(h0, .inr (3, [vI 0, vI 0, vI 0, .null, vI 0, vI 0]))] (fun _ : Unit => True) (fun v => [(h0, .inr (3, [vI a, vI 0, vI 0, .null, vI 0, vI 0]))]) 0 0 := by
  refine MK_of (cc := cX3_init) (nL := 2) (by decide +kernel) rfl rfl (Nat.le_of_ble_eq_true rfl) (lv := [(0, .ref h0), (1, vI a)]) rfl (fun A ws x C _ => ?_)
  show KW D t A ws _ _ _ (cX3_init, 2, RX3, wsX3_init, rm_X3_init, none) x [(h0, .inr (3, [vI 0, vI 0, vI 0, .null, vI 0, vI 0]))] 0 0 0 _ []
  refine k_aload_n (n := 1) C 0 dX3_init_0 rfl rfl ?_
  refine k_obj (n := 4) C (by decide +kernel) (by decide +kernel) (by decide +kernel) ⟨Nat.le_of_ble_eq_true rfl, Nat.le_of_ble_eq_true rfl⟩ dX3_init_1 rfl ?_
  refine k_aload_n (n := 5) C 0 dX3_init_4 rfl rfl ?_
  refine k_iload_n (n := 6) C 1 dX3_init_5 rfl rfl ?_
  refine k_putF (n := 9) C 0 0 (ty0 := tyX3) (ty := .int) rfl rfl (Nat.le_of_ble_eq_true rfl) in_X3_init_X3 tyX3_ok nmX3 (by decide +kernel) rfl rfl (by decide +kernel) rfl rfl (Nat.le_of_ble_eq_true rfl) dX3_init_6 rfl ?_
  refine k_L (L' := [(h0, .inr (3, [vI a, vI 0, vI 0, .null, vI 0, vI 0]))]) rfl ?_
  exact k_ret C () trivial rfl ⟨Nat.le_of_ble_eq_true rfl, Nat.le_of_ble_eq_true rfl⟩ dX3_init_9
abbrev rm_X5_init : Room := ({ frames := 1, cells := 0, slots := 0, locals := 12 } : Room)
set_option maxRecDepth 20000 in
theorem in_X5_init_X5 : ∀ w ∈ u_ws RX5 TX5 3, w ∈ wsX5_init := by decide +kernel
set_option maxRecDepth 100000 in
set_option maxHeartbeats 4000000 in
theorem c_X5_init {l : Launch} {D : va_G} {t : T5} {h0 : Nat} {hs : Nat} : MK l D t yX5_init wsX5_init rm_X5_init [.ref h0, .ref hs] [(h0, .inr (5, [.null, vJ 0, vJ 0]))] (fun _ : Unit => True) (fun v => [(h0, .inr (5, [.ref hs, vJ 0, vJ 0]))]) 0 0 := by
  refine MK_of (cc := cX5_init) (nL := 2) (by decide +kernel) rfl rfl (Nat.le_of_ble_eq_true rfl) (lv := [(0, .ref h0), (1, .ref hs)]) rfl (fun A ws x C _ => ?_)
  show KW D t A ws _ _ _ (cX5_init, 2, RX5, wsX5_init, rm_X5_init, none) x [(h0, .inr (5, [.null, vJ 0, vJ 0]))] 0 0 0 _ []
  refine k_aload_n (n := 1) C 0 dX5_init_0 rfl rfl ?_
  refine k_obj (n := 4) C (by decide +kernel) (by decide +kernel) (by decide +kernel) ⟨Nat.le_of_ble_eq_true rfl, Nat.le_of_ble_eq_true rfl⟩ dX5_init_1 rfl ?_
  refine k_aload_n (n := 5) C 0 dX5_init_4 rfl rfl ?_
  refine k_aload_n (n := 6) C 1 dX5_init_5 rfl rfl ?_
  refine k_putF (n := 9) C 0 0 (ty0 := tyX5) (ty := .object "LinePool$Settings") rfl rfl (Nat.le_of_ble_eq_true rfl) in_X5_init_X5 tyX5_ok nmX5 (by decide +kernel) rfl rfl (by decide +kernel) rfl rfl (Nat.le_of_ble_eq_true rfl) dX5_init_6 rfl ?_
  refine k_L (L' := [(h0, .inr (5, [.ref hs, vJ 0, vJ 0]))]) rfl ?_
  exact k_ret C () trivial rfl ⟨Nat.le_of_ble_eq_true rfl, Nat.le_of_ble_eq_true rfl⟩ dX5_init_9
