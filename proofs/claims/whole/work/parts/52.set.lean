/-! the class's static tables, and set -/
def zT (n : String) (f : Nat → Int) (A : Nat → Prop) (U : State) (H : Heap) : Prop := ∃ t : Nat, va_Z RX7 n "[I" (.ref t) A U H ∧ va_T .int t 6 (fun j => vI (f j)) A U H
def Zs (A : Nat → Prop) (U : State) (H : Heap) : Prop := zT "LEAST" loN A U H ∧ zT "MOST" hiN A U H
theorem zT.go {n : String} {f : Nat → Int} {A B : Nat → Prop} {s U : State} {H H1 : Heap} (hvm : s.vm.Alike U.vm) (h : zT n f A s H) (hq : ∀ a : Nat, a < H.size → ¬ A a → H1[a]? = H[a]?) (hAB : ∀ q, B q → A q) : zT n f B U H1 := by
  obtain ⟨t, h1, h2⟩ := h
  exact ⟨t, (va_Z.moved hvm (h1.kept hq)).narrow hAB, (va_T.moved hvm (h2.kept hq)).narrow hAB⟩
theorem Zs.go {A B : Nat → Prop} {s U : State} {H H1 : Heap} (hvm : s.vm.Alike U.vm) (h : Zs A s H) (hq : ∀ a : Nat, a < H.size → ¬ A a → H1[a]? = H[a]?) (hAB : ∀ q, B q → A q) : Zs B U H1 := ⟨h.1.go hvm hq hAB, h.2.go hvm hq hAB⟩
def Pz (y : Sys) (S : St) (sz : Nat) (As : List Value) : Array Value → State → Prop := va_Pc As (fun U => (U.heap.size = sz ∧ Bw y (fun _ => True) S U.heap ∧ va_K y.1 vwCl y.2.1 U ∧ NS y.2.2.2.2.2 U) ∧ Zs (Aw y sz) U U.heap)
def Mz (l : Launch) (y : Sys) (nm : MethodName) (ws : List Cond) (rm : Room) (As : List Value) (ac : Acc) (S S0 : St) (r0 : Int) : Prop := ∀ sz : Nat, Met l nm ws rm (Pz y S sz As) (Qo y (Aw y sz) ac S0 r0) 0 0 (Aw y sz)
theorem Mz_of {l : Launch} {y : Sys} {nm : MethodName} {cc : ByteArray} {nL : Nat} {ret : Option FieldType} {ws ws' : List Cond} {rm : Room} {As : List Value} {ac : Acc} {S S0 : St} {r0 : Int} {lv : List (Nat × Value)} (hy : plainFor nm = true) (hw : ws = Cond.code nm cc nL ret :: ws') (hl : (lg_sl As).length ≤ nL) (hlv : lv_args 0 As = lv)
    (body : ∀ x : Mx, CX y (cc, nL, nm.cls, ws, rm, ret) x → x.2.1 = l → Zs (Aw y x.2.2.2.1.heap.size) x.2.2.2.1 x.2.2.2.1.heap → GW y (cc, nL, nm.cls, ws, rm, ret) (ac, S0, r0) x S 0 lv []) : Mz l y nm ws rm As ac S S0 r0 := by
  intro sz
  subst hlv
  refine Met_ofF (cc := cc) (maxL := nL) (ret := ret) hy hw ?_
  intro p e s m args below meth c s₁ B hml hv
  obtain ⟨rfl, ⟨hsz, hBw, hK, hN⟩, hZ⟩ := hv
  have hts := atoms_spec (ws := ws) B.pre
  have hown : s.vm.findClass nm.cls = some m.cls := findClass_of_methodNamed B.named
  subst hsz
  have hb := body (p, l, e, s, m, As.toArray, below, meth, c) ⟨B.exec, B.bytes, hml, hown, hts, hK, hN, B.notSynchronized, B.returns⟩ rfl hZ
  rw [lg_entry_eq]
  refine hb s.heap [] _ ⟨hBw.1, hBw.2.1, ?_⟩ va_S.rf (lv_entry As hl)
  intro k q hk
  simp only [WD, List.getElem?_map] at hk
  cases hr : (List.range y.2.2.2.1)[k]? with
  | none => rw [hr] at hk; cases hk
  | some i =>
    rw [hr] at hk
    cases hk
    have h2 := (List.getElem?_eq_some_iff.mp hr)
    obtain ⟨h3, h4⟩ := h2
    simp at h3 h4
    exact Or.inl ⟨i, by omega, rfl⟩
theorem Aw_sub {y : Sys} {sz sz2 : Nat} (h : sz ≤ sz2) : ∀ q, Aw y sz2 q → Aw y sz q := fun q z => by
  rcases z with z | z
  · exact Or.inl z
  · exact Or.inr (Nat.le_trans h z)
theorem Pz_blind {y : Sys} {S : St} {sz : Nat} {As : List Value} : FrameBlind (Pz y S sz As) := fun a U g mk q => by
  obtain ⟨q0, q1, qZ⟩ := q
  obtain ⟨r0, r1⟩ := (Pw_blind (y := y) (S := S) (sz := sz) (As := As)) a U g mk ⟨q0, q1⟩
  exact ⟨r0, r1, qZ.go (s := U) (U := U.calling g mk a) (Vm.Alike.refl U.vm) (fun _ _ _ => rfl) (fun _ z => z)⟩
section GZ
variable {y : Sys} {μ : Mi} {ρ : Rh} {x : Mx} {S : St} {pc n : Nat} {lv lv' : List (Nat × Value)} {st : List Value}
theorem g_gets (C : CX y μ x) {nf : String} {v : Value} {idx : Nat} (hZ : va_Z RX7 nf "[I" v (Aw y x.2.2.2.1.heap.size) x.2.2.2.1 x.2.2.2.1.heap) (hl : Cond.fieldLink μ.2.2.1 idx RX7 nf "[I" ∈ μ.2.2.2.1) (hd : decode μ.1 pc = .ok (.getstatic idx, 3)) (hn : pc + 3 = n) (k : GW y μ ρ x S n lv (v :: st)) : GW y μ ρ x S pc lv st := by
  intro H locs ls hB hS hv
  subst hn
  exact va_gets C.1 C.2.1 hZ hS C.2.2.2.1 (C.2.2.2.2.1 _ hl) (fun _ h => h) hd (k H locs ls hB hS hv)
theorem g_tald (C : CX y μ x) {t : Nat} {f : Nat → Int} {i : Int} (hT : va_T .int t 6 (fun j => vI (f j)) (Aw y x.2.2.2.1.heap.size) x.2.2.2.1 x.2.2.2.1.heap) (hi : 0 ≤ i ∧ i < 6) (hd : decode μ.1 pc = .ok (.iaload, 1)) (hn : pc + 1 = n) (k : GW y μ ρ x S n lv (vI (f i.toNat) :: st)) : GW y μ ρ x S pc lv (vI i :: .ref t :: st) := by
  intro H locs ls hB hS hv
  subst hn
  have hr : r32 i := ⟨by omega, by omega⟩
  exact va_ti C.1 C.2.1 hT hS (i_in hi.1 hi.2 hr) (by show vI (f _) = _; rw [i_clamp hr hi.1]) hd (k H locs ls hB hS hv)
theorem g_callVz (C : CX y μ x) (k0 np : Nat) {nm : MethodName} {ws ws' : List Cond} {rm : Room} {As rest : List Value} {ac : Acc} {S1 : St} {r1 : Int} {idx ci maxL N : Nat} {Cn : String} {T : u_T} {bytes : ByteArray} {ret : Option FieldType} {fs : List (Nat × Nat)} (hZ : Zs (Aw y x.2.2.2.1.heap.size) x.2.2.2.1 x.2.2.2.1.heap) (hk : k0 < y.2.2.2.1) (hc0 : y.2.2.2.2.1 k0 = .inr (ci, fs)) (hcl : vwCl[ci]? = some (Cn, T, N))
    (hM : Mz x.2.1 y nm ws rm (.ref (y.2.2.1 k0) :: As) ac S S1 r1) (hT : GoodIn μ.2.2.2.1 (wsV μ.2.2.1 idx Cn nm ws)) (hw : ws = Cond.code nm bytes maxL ret :: ws') (hrc : rm.cells = 0 ∧ rm.slots = 0) (hdd : nm.cls = Cn ∧ nm.cls ≠ "java/lang/invoke/MethodHandle" ∧ nm.cls ≠ "java/lang/invoke/VarHandle" ∧ (parseMethodDescriptor nm.desc).map (fun d => d.parameters.length) = some np) (hR : rm.frames + 1 ≤ μ.2.2.2.2.1.frames ∧ 8 + (maxL + 11) + rm.locals ≤ μ.2.2.2.2.1.locals)
    {rv : Value} (hrv : rv = .ref (y.2.2.1 k0)) (hst : st = As.reverse ++ rv :: rest) (hnp : As.length = np) (hcat : (rest.map fun v => v.category).sum ≤ 8) (hd : decode μ.1 pc = .ok (.invokevirtual idx, 3)) (hn : pc + 3 = n) (kk : RS S1 → ac.2 r1 → GW y μ ρ x S1 n lv ((ac.1 r1).toList ++ rest)) : GW y μ ρ x S pc lv st := by
  intro H locs ls hB hS hv
  subst hn
  subst hrv
  subst hst
  have he : (WD y S)[k0]? = some (y.2.2.1 k0, .inr (ci, flds y.2.2.1 S k0 0 fs)) := by
    rw [WD_at hk]; unfold cel; rw [hc0]
  refine g_ran (nm := nm) (ws := ws) C hS hv (va_runV (As := As) (rest := rest) ⟨C.1, C.2.1, C.2.2.1, C.2.2.2.1, C.2.2.2.2.1⟩ (hM H.size) (cwV np C.2.2.2.2.1 hT hw hrc.1 hrc.2 hdd hR) ⟨Pz_blind, va_recv C.2.2.2.2.2.1 hB.1 hcl he, fun U hU hW => ⟨rfl, ⟨by rw [hU], by rw [hU]; exact Bw_true hB, va_K.moved hW.alike C.2.2.2.2.2.1, C.2.2.2.2.2.2.1.warm hW⟩, by rw [hU]; exact hZ.go hW.alike hS.2.1 (Aw_sub hS.1)⟩⟩ rfl hnp hv.1 rfl (lv_room hcat) hd ⟨Nat.zero_le _, Nat.zero_le _⟩) kk
end GZ
theorem loN_r (k : Nat) : r32 (loN k) := by unfold loN; split <;> decide
theorem hiN_r (k : Nat) : r32 (hiN k) := by unfold hiN; split <;> decide
abbrev rm_X7_change : Room := ({ frames := 1, cells := 0, slots := 0, locals := 22 } : Room)
abbrev mi_X7_change : Mi := (cX7_change, 4, RX7, wsX7_change, rm_X7_change, (some .int))
set_option maxRecDepth 20000 in
theorem in_X7_change_X7 : ∀ w ∈ u_ws RX7 TX7 2, w ∈ wsX7_change := by decide +kernel
set_option maxRecDepth 100000 in
set_option maxHeartbeats 4000000 in
theorem c_X7_change {l : Launch} {D : va_G} {t : T5} {ad : Nat → Nat} {S S0 : St} {r0 : Int} {a0 a1 : Int} (hS : RS S) (ha0 : r32 a0) (ha1 : r32 a1) (h : dn_X8_set a0 a1 S = some (S0, r0)) : Mz l (sX D t ad) yX7_change wsX7_change rm_X7_change [.ref (ad 1), vI a0, vI a1] acI S S0 r0 := by
  refine Mz_of (cc := cX7_change) (nL := 4) (ret := (some .int)) (by decide +kernel) rfl (Nat.le_of_ble_eq_true rfl) (lv := [(0, .ref (ad 1)), (1, vI a0), (2, vI a1)]) rfl (fun x C _ Z => ?_)
  obtain ⟨⟨t1, z1, y1⟩, t2, z2, y2⟩ := Z
  unfold dn_X8_set at h
  show GW (sX D t ad) mi_X7_change (acI, S0, r0) x S 0 [(0, .ref (ad 1)), (1, vI a0), (2, vI a1)] []
  refine g_iload_n (n := 1) C 1 dX7_change_0 rfl rfl ?_
  refine g_iconst (n := 2) C dX7_change_1 rfl ?_
  refine g_iconst (n := 3) C dX7_change_2 rfl ?_
  refine g_callSN (n := 6) (As := [vI a0, vI 0, vI 5]) (rest := []) C 3 (c_X8_within hS ha0 (by decide : r32 0) (by decide : r32 5) X_in) gX7_change_X8_within_n26 (C.2.2.2.2.2.2.1 rfl).2.2.2.2.2 (by decide +kernel) (by decide +kernel) rfl ⟨rfl, rfl⟩ (by decide +kernel) ⟨Nat.le_of_ble_eq_true rfl, Nat.le_of_ble_eq_true rfl⟩ rfl rfl (Nat.le_of_ble_eq_true rfl) dX7_change_3 rfl (fun _ _ => ?_)
  show GW (sX D t ad) mi_X7_change (acI, S0, r0) x S 6 _ [vI (if 0 ≤ a0 ∧ a0 ≤ 5 then 1 else 0)]
  by_cases q : 0 ≤ a0 ∧ a0 ≤ 5
  · rw [if_pos q] at h ⊢
    have hi : 0 ≤ a0 ∧ a0 < 6 := ⟨q.1, by omega⟩
    refine g_if_eq (n := 9) C 26 (by decide : r32 1) dX7_change_6 (by decide) rfl (fun hc => absurd hc (by decide)) (fun _ => ?_)
    refine g_iload_n (n := 10) C 2 dX7_change_9 rfl rfl ?_
    refine g_gets (n := 13) C z1 (by decide +kernel) dX7_change_10 rfl ?_
    refine g_iload_n (n := 14) C 1 dX7_change_13 rfl rfl ?_
    refine g_tald (n := 15) C y1 hi dX7_change_14 rfl ?_
    refine g_gets (n := 18) C z2 (by decide +kernel) dX7_change_15 rfl ?_
    refine g_iload_n (n := 19) C 1 dX7_change_18 rfl rfl ?_
    refine g_tald (n := 20) C y2 hi dX7_change_19 rfl ?_
    refine g_callSN (n := 23) (As := [vI a1, vI (loN a0.toNat), vI (hiN a0.toNat)]) (rest := []) C 3 (c_X8_within hS ha1 (loN_r _) (hiN_r _) X_in) gX7_change_X8_within_n26 (C.2.2.2.2.2.2.1 rfl).2.2.2.2.2 (by decide +kernel) (by decide +kernel) rfl ⟨rfl, rfl⟩ (by decide +kernel) ⟨Nat.le_of_ble_eq_true rfl, Nat.le_of_ble_eq_true rfl⟩ rfl rfl (Nat.le_of_ble_eq_true rfl) dX7_change_20 rfl (fun _ _ => ?_)
    show GW (sX D t ad) mi_X7_change (acI, S0, r0) x S 23 _ [vI (if loN a0.toNat ≤ a1 ∧ a1 ≤ hiN a0.toNat then 1 else 0)]
    by_cases q1 : loN a0.toNat ≤ a1 ∧ a1 ≤ hiN a0.toNat
    · rw [if_pos q1] at h ⊢
      refine g_if_ne (n := 26) C 29 (by decide : r32 1) dX7_change_23 (by decide) rfl (fun _ => ?_) (fun hc => absurd hc (by decide))
      refine g_aload_n (n := 30) C 0 dX7_change_29 rfl rfl ?_
      refine g_getC (n := 33) C 1 0 rfl (Nat.le_of_ble_eq_true rfl) rfl rfl rfl (Nat.le_of_ble_eq_true rfl) in_X7_change_X7 (by decide +kernel) dX7_change_30 rfl ?_
      refine g_iload_n (n := 34) C 1 dX7_change_33 rfl rfl ?_
      refine g_iald (n := 35) C 2 rfl (Nat.le_of_ble_eq_true rfl) rfl rfl hi ha0 dX7_change_34 rfl ?_
      refine g_istore_n (n := 36) (lv' := [(3, vI (S 2 a0.toNat)), (0, .ref (ad 1)), (1, vI a0), (2, vI a1)]) C dX7_change_35 (Nat.le_of_ble_eq_true rfl) rfl rfl rfl ?_
      refine g_aload_n (n := 37) C 1 dX7_change_36 rfl rfl ?_
      refine g_getC (n := 40) C 1 0 rfl (Nat.le_of_ble_eq_true rfl) rfl rfl rfl (Nat.le_of_ble_eq_true rfl) in_X7_change_X7 (by decide +kernel) dX7_change_37 rfl ?_
      refine g_iload_n (n := 41) C 2 dX7_change_40 rfl rfl ?_
      refine g_iload_n (n := 42) C 3 dX7_change_41 rfl rfl ?_
      refine g_iast (n := 43) C 2 rfl (Nat.le_of_ble_eq_true rfl) rfl rfl hi ha0 rfl dX7_change_42 rfl ?_
      refine g_iload_n (n := 44) C 0 dX7_change_43 rfl rfl ?_
      exact g_iret C rfl h rfl ((hS 2 _).2 (by omega)) (RS_i hS ha1) dX7_change_44
    · rw [if_neg q1] at h ⊢
      refine g_if_ne (n := 26) C 29 (by decide : r32 0) dX7_change_23 (by decide) rfl (fun hc => absurd rfl hc) (fun _ => ?_)
      refine g_bipush (n := 28) C dX7_change_26 (by decide +kernel) rfl ?_
      exact g_iret C rfl h rfl (by decide : r32 (-2)) hS dX7_change_28
  · rw [if_neg q] at h ⊢
    refine g_if_eq (n := 9) C 26 (by decide : r32 0) dX7_change_6 (by decide) rfl (fun _ => ?_) (fun hc => absurd rfl hc)
    refine g_bipush (n := 28) C dX7_change_26 (by decide +kernel) rfl ?_
    exact g_iret C rfl h rfl (by decide : r32 (-2)) hS dX7_change_28
abbrev rm_X8_set : Room := ({ frames := 2, cells := 0, slots := 0, locals := 45 } : Room)
abbrev mi_X8_set : Mi := (cX8_set, 3, RX8, wsX8_set, rm_X8_set, (some .int))
set_option maxRecDepth 20000 in
theorem in_X8_set_X8 : ∀ w ∈ u_ws RX8 TX8 4, w ∈ wsX8_set := by decide +kernel
set_option maxRecDepth 100000 in
set_option maxHeartbeats 4000000 in
theorem c_X8_set {l : Launch} {D : va_G} {t : T5} {ad : Nat → Nat} {S S0 : St} {r0 : Int} {a0 a1 : Int} (hS : RS S) (ha0 : r32 a0) (ha1 : r32 a1) (h : dn_X8_set a0 a1 S = some (S0, r0)) : Mz l (sX D t ad) yX8_set wsX8_set rm_X8_set [.ref (ad 0), vI a0, vI a1] acI S S0 r0 := by
  refine Mz_of (cc := cX8_set) (nL := 3) (ret := (some .int)) (by decide +kernel) rfl (Nat.le_of_ble_eq_true rfl) (lv := [(0, .ref (ad 0)), (1, vI a0), (2, vI a1)]) rfl (fun x C _ Z => ?_)
  show GW (sX D t ad) mi_X8_set (acI, S0, r0) x S 0 [(0, .ref (ad 0)), (1, vI a0), (2, vI a1)] []
  refine g_aload_n (n := 1) C 0 dX8_set_0 rfl rfl ?_
  refine g_getC (n := 4) C 0 0 rfl (Nat.le_of_ble_eq_true rfl) rfl rfl rfl (Nat.le_of_ble_eq_true rfl) in_X8_set_X8 (by decide +kernel) dX8_set_1 rfl ?_
  refine g_iload_n (n := 5) C 1 dX8_set_4 rfl rfl ?_
  refine g_iload_n (n := 6) C 2 dX8_set_5 rfl rfl ?_
  refine g_callVz (n := 9) (As := [vI a0, vI a1]) (rest := []) C 1 2 Z (Nat.le_of_ble_eq_true rfl) rfl rfl (c_X7_change hS ha0 ha1 h) gX8_set_X7_change rfl ⟨rfl, rfl⟩ (by decide +kernel) ⟨Nat.le_of_ble_eq_true rfl, Nat.le_of_ble_eq_true rfl⟩ rfl rfl rfl (Nat.le_of_ble_eq_true rfl) dX8_set_6 rfl (fun hS1 hv2 => ?_)
  show GW (sX D t ad) mi_X8_set (acI, S0, r0) x S0 9 _ [vI r0]
  exact g_iret C rfl rfl rfl hv2 hS1 dX8_set_9
