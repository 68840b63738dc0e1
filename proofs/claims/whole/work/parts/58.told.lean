/-! calls at the machine's own level: any end Q; told, which throws, and the law's own told, which catches -/
section YC
variable {p : Program} {l : Launch} {e : Env} {R : Room} {s : State} {m : MethodId} {args : Array Value} {below : List Frame} {meth : Method} {c : Code} {H : Heap} {locs : List Loc} {cells slots : Nat} {Q : State → Prop}
variable {y : Sys} {A : Nat → Prop} {S S1 : St} {r1 : Int} {cc : ByteArray} {nL : Nat} {Ts : List Cond} {own : String} {nm : MethodName} {wd wd' : List Cond} {rm : Room} {As rest st : List Value} {ac : Acc} {pc idx maxL np : Nat} {bytes : ByteArray} {ret : Option FieldType} {ls : Array Slot} {lv : List (Nat × Value)}
theorem Aw_A (hA : ∀ q, s.heap.size ≤ q → A q) (hB : Bw y A S H) (hS : va_S A s.heap H locs) : ∀ q, Aw y H.size q → A q := fun q h => by
  rcases h with ⟨k, hk, e⟩ | h
  · subst e; exact hB.2.2 k (y.2.2.1 k, cel y S k) (WD_at hk)
  · exact hA q (Nat.le_trans hS.1 h)
/-- what comes back of a call -/
theorem y_back (hA : ∀ q, s.heap.size ≤ q → A q) (hB : Bw y A S H) (hS : va_S A s.heap H locs) {a : Array Value}
    (hr : va_Run p l e R s m args below meth c H locs cells slots 0 0 (F0 m pc ls st) rest (Qo y (Aw y H.size) ac S1 r1 a) (Aw y H.size))
    (kk : ∀ (H1 : Heap) (locs1 : List Loc), RS S1 → ac.2 r1 → Bw y A S1 H1 → va_S A s.heap H1 locs1 → H.size ≤ H1.size → (∀ q : Nat, q < H.size → ¬ Aw y H.size q → H1[q]? = H[q]?) → W p l e R s m args below meth c H1 locs1 cells slots Q (F0 m (pc + 3) ls ((ac.1 r1).toList ++ rest))) : W p l e R s m args below meth c H locs cells slots Q (F0 m pc ls st) := by
  have hAA := Aw_A hA hB hS
  intro T hT X
  obtain ⟨v, st₀, t, T', L, h0, X', hL, e1, e2, ⟨hv1, hRS, hrg, hB1, hz, hk⟩, st9⟩ := hr T hT X
  cases hv1
  rw [h0] at hz hk
  obtain ⟨t2, a1, b1⟩ := kk T'.heap (locs ++ L) hRS hrg (by rw [e1]; exact ⟨hB1.1, hB1.2.weaken (fun _ q _ z => hAA q.1 z)⟩)
    ⟨Nat.le_trans hS.1 (by rw [e1]; exact hz), fun q h1 h2 => by rw [e1, hk q (Nat.lt_of_lt_of_le h1 hS.1) (fun z => h2 (hAA q z))]; exact hS.2.1 q h1 h2, fun q hq => by
      rcases List.mem_append.mp hq with h | h
      · exact hS.2.2 q h
      · exact hAA _ (hL q h)⟩ (by rw [e1]; exact hz) (fun q h1 h2 => by rw [e1]; exact hk q h1 h2) T' rfl X'
  exact ⟨t2, st9 t2 a1, b1⟩
theorem y_callV (F : CallFix p m c cc nL s args Ts own) (hA : ∀ q, s.heap.size ≤ q → A q) (hK : va_K y.1 vwCl y.2.1 s) (hN : NS y.2.2.2.2.2 s) (hB : Bw y A S H) (hS : va_S A s.heap H locs) (k0 np : Nat) {ci N : Nat} {Cn : String} {T : u_T} {fs : List (Nat × Nat)} (hk : k0 < y.2.2.2.1) (hc0 : y.2.2.2.2.1 k0 = .inr (ci, fs)) (hcl : vwCl[ci]? = some (Cn, T, N))
    (hM : Mc l y nm wd rm (.ref (y.2.2.1 k0) :: As) ac S S1 r1) (hT : GoodIn Ts (wsV own idx Cn nm wd)) (hw : wd = Cond.code nm bytes maxL ret :: wd') (hrc : rm.cells = 0 ∧ rm.slots = 0) (hdd : nm.cls = Cn ∧ nm.cls ≠ "java/lang/invoke/MethodHandle" ∧ nm.cls ≠ "java/lang/invoke/VarHandle" ∧ (parseMethodDescriptor nm.desc).map (fun d => d.parameters.length) = some np) (hR : rm.frames + 1 ≤ R.frames ∧ 8 + (maxL + 11) + rm.locals ≤ R.locals)
    (hst : st = As.reverse ++ .ref (y.2.2.1 k0) :: rest) (hnp : As.length = np) (hcat : (rest.map fun v => v.category).sum ≤ 8) (hf : cells ≤ R.cells ∧ slots ≤ R.slots) (hls : ls.size = nL) (hd : decode cc pc = .ok (.invokevirtual idx, 3))
    (kk : ∀ (H1 : Heap) (locs1 : List Loc), RS S1 → ac.2 r1 → Bw y A S1 H1 → va_S A s.heap H1 locs1 → H.size ≤ H1.size → (∀ q : Nat, q < H.size → ¬ Aw y H.size q → H1[q]? = H[q]?) → W p l e R s m args below meth c H1 locs1 cells slots Q (F0 m (pc + 3) ls ((ac.1 r1).toList ++ rest))) : W p l e R s m args below meth c H locs cells slots Q (F0 m pc ls st) := by
  subst hst
  have he : (WD y S)[k0]? = some (y.2.2.1 k0, .inr (ci, flds y.2.2.1 S k0 0 fs)) := by
    rw [WD_at hk]; unfold cel; rw [hc0]
  exact y_back hA hB hS (va_runV (As := As) (rest := rest) F (hM H.size) (cwV np F.2.2.2.2 hT hw hrc.1 hrc.2 hdd hR) ⟨Pw_blind, va_recv hK hB.1 hcl he, fun U hU hW => ⟨rfl, by rw [hU], by rw [hU]; exact Bw_true hB, va_K.moved hW.alike hK, hN.warm hW⟩⟩ rfl hnp hls rfl (lv_room hcat) hd ⟨hf.1, hf.2⟩) kk
theorem y_callVz (F : CallFix p m c cc nL s args Ts own) (hA : ∀ q, s.heap.size ≤ q → A q) (hZ : Zs A s s.heap) (hK : va_K y.1 vwCl y.2.1 s) (hN : NS y.2.2.2.2.2 s) (hB : Bw y A S H) (hS : va_S A s.heap H locs) (k0 np : Nat) {ci N : Nat} {Cn : String} {T : u_T} {fs : List (Nat × Nat)} (hk : k0 < y.2.2.2.1) (hc0 : y.2.2.2.2.1 k0 = .inr (ci, fs)) (hcl : vwCl[ci]? = some (Cn, T, N))
    (hM : Mz l y nm wd rm (.ref (y.2.2.1 k0) :: As) ac S S1 r1) (hT : GoodIn Ts (wsV own idx Cn nm wd)) (hw : wd = Cond.code nm bytes maxL ret :: wd') (hrc : rm.cells = 0 ∧ rm.slots = 0) (hdd : nm.cls = Cn ∧ nm.cls ≠ "java/lang/invoke/MethodHandle" ∧ nm.cls ≠ "java/lang/invoke/VarHandle" ∧ (parseMethodDescriptor nm.desc).map (fun d => d.parameters.length) = some np) (hR : rm.frames + 1 ≤ R.frames ∧ 8 + (maxL + 11) + rm.locals ≤ R.locals)
    (hst : st = As.reverse ++ .ref (y.2.2.1 k0) :: rest) (hnp : As.length = np) (hcat : (rest.map fun v => v.category).sum ≤ 8) (hf : cells ≤ R.cells ∧ slots ≤ R.slots) (hls : ls.size = nL) (hd : decode cc pc = .ok (.invokevirtual idx, 3))
    (kk : ∀ (H1 : Heap) (locs1 : List Loc), RS S1 → ac.2 r1 → Bw y A S1 H1 → va_S A s.heap H1 locs1 → H.size ≤ H1.size → (∀ q : Nat, q < H.size → ¬ Aw y H.size q → H1[q]? = H[q]?) → W p l e R s m args below meth c H1 locs1 cells slots Q (F0 m (pc + 3) ls ((ac.1 r1).toList ++ rest))) : W p l e R s m args below meth c H locs cells slots Q (F0 m pc ls st) := by
  subst hst
  have hAA := Aw_A hA hB hS
  have he : (WD y S)[k0]? = some (y.2.2.1 k0, .inr (ci, flds y.2.2.1 S k0 0 fs)) := by
    rw [WD_at hk]; unfold cel; rw [hc0]
  exact y_back hA hB hS (va_runV (As := As) (rest := rest) F (hM H.size) (cwV np F.2.2.2.2 hT hw hrc.1 hrc.2 hdd hR) ⟨Pz_blind, va_recv hK hB.1 hcl he, fun U hU hW => ⟨rfl, ⟨by rw [hU], by rw [hU]; exact Bw_true hB, va_K.moved hW.alike hK, hN.warm hW⟩, by rw [hU]; exact hZ.go hW.alike hS.2.1 hAA⟩⟩ rfl hnp hls rfl (lv_room hcat) hd ⟨hf.1, hf.2⟩) kk
theorem y_callT (F : CallFix p m c cc nL s args Ts own) (hA : ∀ q, s.heap.size ≤ q → A q) (hK : va_K y.1 vwCl y.2.1 s) (hN : NS y.2.2.2.2.2 s) (hB : Bw y A S H) (hS : va_S A s.heap H locs) (np : Nat)
    (hM : Mc l y nm wd rm As ac S S1 r1) (hT : GoodIn Ts (va_wsS own idx nm wd)) (hw : wd = Cond.code nm bytes maxL ret :: wd') (hrc : rm.cells = 0 ∧ rm.slots = 0) (hdd : nm.cls ≠ "java/lang/invoke/MethodHandle" ∧ nm.cls ≠ "java/lang/invoke/VarHandle" ∧ (parseMethodDescriptor nm.desc).map (fun d => d.parameters.length) = some np) (hR : rm.frames + 1 ≤ R.frames ∧ 8 + (maxL + 11) + rm.locals ≤ R.locals)
    (hst : st = As.reverse ++ rest) (hnp : As.length = np) (hcat : (rest.map fun v => v.category).sum ≤ 8) (hf : cells ≤ R.cells ∧ slots ≤ R.slots) (hls : ls.size = nL) (hd : decode cc pc = .ok (.invokestatic idx, 3))
    (kk : ∀ (H1 : Heap) (locs1 : List Loc), RS S1 → ac.2 r1 → Bw y A S1 H1 → va_S A s.heap H1 locs1 → H.size ≤ H1.size → (∀ q : Nat, q < H.size → ¬ Aw y H.size q → H1[q]? = H[q]?) → W p l e R s m args below meth c H1 locs1 cells slots Q (F0 m (pc + 3) ls ((ac.1 r1).toList ++ rest))) : W p l e R s m args below meth c H locs cells slots Q (F0 m pc ls st) := by
  subst hst
  have hG : GoodIn Ts wd := fun w hw9 => hT w (List.mem_append_right _ hw9)
  have h1 : Cond.methodLink own idx nm ∈ Ts := (hT _ (List.mem_append_left _ (by simp))).1
  have h2 : Cond.static nm ∈ Ts := (hT _ (List.mem_append_left _ (by simp))).1
  have h3 : Cond.initialized nm.cls ∈ Ts := (hT _ (List.mem_append_left _ (by simp))).1
  exact y_back hA hB hS (va_runS (As := As) (rest := rest) F (hM H.size) ⟨callB_of np F.2.2.2.2 hG hw hrc.1 hrc.2 (F.2.2.2.2 _ h3) (F.2.2.2.2 _ h1) hdd hR, F.2.2.2.2 _ h2⟩ ⟨Pw_blind, fun U hU hW => ⟨rfl, by rw [hU], by rw [hU]; exact Bw_true hB, va_K.moved hW.alike hK, hN.warm hW⟩⟩ rfl hnp hls rfl (lv_room hcat) hd ⟨hf.1, hf.2⟩) kk
end YC
/-! told, where it answers -/
theorem X_has {a0 : Int} {S : St} (hm : 0 ≤ S 4 5 ∧ S 4 5 ≤ 60) : dn_X6_hasCaller a0 S = some (S, if 0 ≤ a0 ∧ a0 < S 4 5 then 1 else 0) := by
  unfold dn_X6_hasCaller
  rw [X_in, cal_s, w32_id (x := S 4 5 - 1) ⟨by omega, by omega⟩]
  by_cases q : 0 ≤ a0 ∧ a0 < S 4 5
  · rw [if_pos q, if_pos (by omega)]
  · rw [if_neg q, if_neg (by omega)]
abbrev rm_X8_told : Room := ({ frames := 6, cells := 0, slots := 0, locals := 100 } : Room)
abbrev mi_X8_told : Mi := (cX8_told, 3, RX8, wsX8_told, rm_X8_told, (some .int))
set_option maxRecDepth 20000 in
theorem in_X8_told_X8 : ∀ w ∈ u_ws RX8 TX8 4, w ∈ wsX8_told := by decide +kernel
set_option maxRecDepth 100000 in
set_option maxHeartbeats 4000000 in
theorem c_X8_told {l : Launch} {D : va_G} {t : T5} {ad : Nat → Nat} {S S0 : St} {r0 : Int} {a0 a1 : Int} (hS : RS S) (ha0 : r32 a0) (ha1 : r32 a1) (hm : 0 ≤ S 4 5 ∧ S 4 5 ≤ 60) (h0 : 0 ≤ a0 ∧ a0 < S 4 5) (h1 : 0 ≤ a1 ∧ a1 ≤ 5) (h : dn_X6_callerFigure a0 a1 S = some (S0, r0)) : Mc l (sX D t ad) yX8_told wsX8_told rm_X8_told [.ref (ad 0), vI a0, vI a1] acI S S0 r0 := by
  refine Mc_of (cc := cX8_told) (nL := 3) (ret := (some .int)) (by decide +kernel) rfl (Nat.le_of_ble_eq_true rfl) (lv := [(0, .ref (ad 0)), (1, vI a0), (2, vI a1)]) rfl (fun x C _ => ?_)
  show GW (sX D t ad) mi_X8_told (acI, S0, r0) x S 0 [(0, .ref (ad 0)), (1, vI a0), (2, vI a1)] []
  have hx := X_has (a0 := a0) hm
  rw [if_pos h0] at hx
  have hi : dn_X8_within a1 0 5 S = some (S, 1) := by rw [X_in, if_pos h1]
  refine g_aload_n (n := 1) C 0 dX8_told_0 rfl rfl ?_
  refine g_getC (n := 4) C 0 1 rfl (Nat.le_of_ble_eq_true rfl) rfl rfl rfl (Nat.le_of_ble_eq_true rfl) in_X8_told_X8 (by decide +kernel) dX8_told_1 rfl ?_
  refine g_iload_n (n := 5) C 1 dX8_told_4 rfl rfl ?_
  refine g_callV (n := 8) (As := [vI a0]) (rest := []) C 4 1 (Nat.le_of_ble_eq_true rfl) rfl rfl (c_X6_hasCaller hS ha0 hx) gX8_told_X6_hasCaller rfl ⟨rfl, rfl⟩ (by decide +kernel) ⟨Nat.le_of_ble_eq_true rfl, Nat.le_of_ble_eq_true rfl⟩ rfl rfl rfl (Nat.le_of_ble_eq_true rfl) dX8_told_5 rfl (fun _ _ => ?_)
  show GW (sX D t ad) mi_X8_told (acI, S0, r0) x S 8 _ [vI 1]
  refine g_if_eq (n := 11) C 20 (by decide : r32 1) dX8_told_8 (by decide) rfl (fun hc => absurd hc (by decide)) (fun _ => ?_)
  refine g_iload_n (n := 12) C 2 dX8_told_11 rfl rfl ?_
  refine g_iconst (n := 13) C dX8_told_12 rfl ?_
  refine g_iconst (n := 14) C dX8_told_13 rfl ?_
  refine g_callT (n := 17) (As := [vI a1, vI 0, vI 5]) (rest := []) C 3 (c_X8_within hS ha1 (by decide : r32 0) (by decide : r32 5) hi) gX8_told_X8_within rfl ⟨rfl, rfl⟩ (by decide +kernel) ⟨Nat.le_of_ble_eq_true rfl, Nat.le_of_ble_eq_true rfl⟩ rfl rfl (Nat.le_of_ble_eq_true rfl) dX8_told_14 rfl (fun _ _ => ?_)
  show GW (sX D t ad) mi_X8_told (acI, S0, r0) x S 17 _ [vI 1]
  refine g_if_ne (n := 20) C 28 (by decide : r32 1) dX8_told_17 (by decide) rfl (fun _ => ?_) (fun hc => absurd hc (by decide))
  refine g_aload_n (n := 29) C 0 dX8_told_28 rfl rfl ?_
  refine g_getC (n := 32) C 0 1 rfl (Nat.le_of_ble_eq_true rfl) rfl rfl rfl (Nat.le_of_ble_eq_true rfl) in_X8_told_X8 (by decide +kernel) dX8_told_29 rfl ?_
  refine g_iload_n (n := 33) C 1 dX8_told_32 rfl rfl ?_
  refine g_iload_n (n := 34) C 2 dX8_told_33 rfl rfl ?_
  refine g_callV (n := 37) (As := [vI a0, vI a1]) (rest := []) C 4 2 (Nat.le_of_ble_eq_true rfl) rfl rfl (c_X6_callerFigure hS ha0 ha1 h) gX8_told_X6_callerFigure rfl ⟨rfl, rfl⟩ (by decide +kernel) ⟨Nat.le_of_ble_eq_true rfl, Nat.le_of_ble_eq_true rfl⟩ rfl rfl rfl (Nat.le_of_ble_eq_true rfl) dX8_told_34 rfl (fun hS1 hv2 => ?_)
  show GW (sX D t ad) mi_X8_told (acI, S0, r0) x S0 37 _ [vI r0]
  exact g_iret C rfl rfl rfl hv2 hS1 dX8_told_37
