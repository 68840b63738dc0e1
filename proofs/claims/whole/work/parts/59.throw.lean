/-! told, where it throws; caught by the law's told -/
def xN : String := "java/util/NoSuchElementException"
def xNs : List String := ["java/lang/RuntimeException", "java/lang/Exception"]
def xB : List Cond := [.declares ⟨"java/lang/RuntimeException", "<init>", "()V"⟩, .declares ⟨"java/lang/Exception", "<init>", "()V"⟩, .declares ⟨Bundle.tN, "<init>", "()V"⟩, .castable xN xN]
/-- what a throw asks of the start, beside its words -/
def Zt (A : Nat → Prop) (U : State) (H : Heap) : Prop := vx_Zq Bundle.tN "UNASSIGNED_STACK" Bundle.steD A U H ∧ vx_Zq Bundle.tN "SUPPRESSED_SENTINEL" Bundle.listD A U H ∧ ∀ w ∈ xB, va_Nw w U
theorem xB_warm {s U : State} (hW : s.WarmedH U.vm) (h : ∀ w ∈ xB, va_Nw w s) : ∀ w ∈ xB, va_Nw w U := by
  intro w hw
  have h1 := h w hw
  simp only [xB, List.mem_cons, List.not_mem_nil, or_false] at hw
  rcases hw with rfl | rfl | rfl | rfl
  · exact va_Nw.warmD hW h1
  · exact va_Nw.warmD hW h1
  · exact va_Nw.warmD hW h1
  · exact va_Nw.warmC hW h1
theorem xB_on : ∀ w ∈ xB, w.onTables = true := by decide +kernel
theorem Zt.go {A B : Nat → Prop} {s U : State} {H H1 : Heap} (hW : s.WarmedH U.vm) (h : Zt A s H) (hq : ∀ a : Nat, a < H.size → ¬ A a → H1[a]? = H[a]?) (hAB : ∀ q, B q → A q) : Zt B U H1 := ⟨vx_Zq.narrow (vx_Zq.moved hW.alike (h.1.kept hq)) hAB, vx_Zq.narrow (vx_Zq.moved hW.alike (h.2.1.kept hq)) hAB, xB_warm hW h.2.2⟩
def Pt9 (y : Sys) (S : St) (sz : Nat) (As : List Value) : Array Value → State → Prop := va_Pc As (fun U => (U.heap.size = sz ∧ Bw y (fun _ => True) S U.heap ∧ va_K y.1 vwCl y.2.1 U ∧ NS y.2.2.2.2.2 U) ∧ Zt (Aw y sz) U U.heap)
theorem Pt9_blind {y : Sys} {S : St} {sz : Nat} {As : List Value} : FrameBlind (Pt9 y S sz As) := fun a U g mk q => by
  obtain ⟨q0, q1, qZ⟩ := q
  obtain ⟨r0, r1⟩ := (Pw_blind (y := y) (S := S) (sz := sz) (As := As)) a U g mk ⟨q0, q1⟩
  refine ⟨r0, r1, ?_, ?_, fun w hw => va_Nw.same (u := U) (U := U.calling g mk a) (xB_on w hw) rfl (qZ.2.2 w hw)⟩
  · exact vx_Zq.moved (u := U) (U := U.calling g mk a) (Vm.Alike.refl U.vm) qZ.1
  · exact vx_Zq.moved (u := U) (U := U.calling g mk a) (Vm.Alike.refl U.vm) qZ.2.1
def XCt (y : Sys) (A : Nat → Prop) (S : St) : String → State → State → Prop := fun E st u => E = xN ∧ Bw y A S u.heap ∧ va_F A st u
abbrev rm_X8_toldX : Room := ({ frames := 6, cells := 1, slots := 6, locals := 100 } : Room)
set_option maxRecDepth 20000 in
theorem xt_good : ∀ w ∈ Cond.classLink RX8 89 xN :: Cond.initialized xN :: vx_at0 RX8 91 xN xNs, vx_ot w = true := by decide +kernel
set_option maxRecDepth 20000 in
theorem xt_rest : ∀ w ∈ (vx_at0 RX8 91 xN xNs).filter (fun w => !goodWord w), w ∈ xB := by decide +kernel
theorem xt_in : ∀ w ∈ (vx_at0 RX8 91 xN xNs).filter goodWord, w ∈ wsX8_told := fun _ h => List.mem_cons_of_mem _ (List.mem_append_right _ h)
set_option maxRecDepth 100000 in
set_option maxHeartbeats 4000000 in
theorem c_X8_toldX {l : Launch} (hl : l.stackTraces = false) {D : va_G} {t : T5} {ad : Nat → Nat} {S : St} {a0 a1 : Int} (hS : RS S) (ha0 : r32 a0) (ha1 : r32 a1) (hm : 0 ≤ S 4 5 ∧ S 4 5 ≤ 60) (hno : ¬ (0 ≤ a0 ∧ a0 < S 4 5 ∧ 0 ≤ a1 ∧ a1 ≤ 5)) (sz : Nat) : vx_Met l yX8_told wsX8_told rm_X8_toldX (Pt9 (sX D t ad) S sz [.ref (ad 0), vI a0, vI a1]) (fun _ _ _ _ => False) (XCt (sX D t ad) (Aw (sX D t ad) sz) S) 1 6 (Aw (sX D t ad) sz) := by
  refine vx_ofW (cc := cX8_told) (maxL := 3) (ret := some .int) (by decide +kernel) rfl ?_
  intro p e s m args below meth c s₁ B hml hex hv
  obtain ⟨rfl, ⟨hsz, hBw, hK, hN⟩, hZ⟩ := hv
  have hts := atoms_spec (ws := wsX8_told) B.pre
  have hown : s.vm.findClass RX8 = some m.cls := findClass_of_methodNamed B.named
  subst hsz
  have F : CallFix p m c cX8_told 3 s #[.ref (ad 0), vI a0, vI a1] wsX8_told RX8 := ⟨B.exec, B.bytes, hml, hown, hts⟩
  have hA : ∀ q, s.heap.size ≤ q → Aw (sX D t ad) s.heap.size q := fun q h => Or.inr h
  have hB : Bw (sX D t ad) (Aw (sX D t ad) s.heap.size) S s.heap := by
    refine ⟨hBw.1, hBw.2.1, ?_⟩
    intro k q hk
    simp only [WD, List.getElem?_map] at hk
    cases hr : (List.range (sX D t ad).2.2.2.1)[k]? with
    | none => rw [hr] at hk; cases hk
    | some i =>
      rw [hr] at hk
      cases hk
      have h2 := (List.getElem?_eq_some_iff.mp hr)
      obtain ⟨h3, h4⟩ := h2
      simp at h3 h4
      exact Or.inl ⟨i, by show i < 90; omega, rfl⟩
  have hl0 := lv_entry [.ref (ad 0), vI a0, vI a1] (n := 3) (Nat.le_of_ble_eq_true rfl)
  rw [lg_entry_eq]
  generalize (lg_sl [.ref (ad 0), vI a0, vI a1] ++ List.replicate (3 - (lg_sl [.ref (ad 0), vI a0, vI a1]).length) Slot.unset).toArray = ls at hl0 ⊢
  have hl0 : lv_has ls 3 [(0, .ref (ad 0)), (1, vI a0), (2, vI a1)] := hl0
  -- the throw, from any world that holds S
  have thr : ∀ (H1 : Heap) (locs1 : List Loc), Bw (sX D t ad) (Aw (sX D t ad) s.heap.size) S H1 → va_S (Aw (sX D t ad) s.heap.size) s.heap H1 locs1 → W p l e rm_X8_toldX s m #[.ref (ad 0), vI a0, vI a1] below meth c H1 locs1 0 0 (vx_MQ below (fun _ _ _ _ => False) (XCt (sX D t ad) (Aw (sX D t ad) s.heap.size) S) #[.ref (ad 0), vI a0, vI a1] s 1 6 (Aw (sX D t ad) s.heap.size)) (F0 m 20 ls []) := by
    intro H1 locs1 hB1 hS1
    have hat : ∀ w ∈ vx_at0 RX8 91 xN xNs, w.before #[.ref (ad 0), vI a0, vI a1] s = true := vx_hat (B := xB) (fun w hw => hts w (xt_in w hw)) xt_rest (fun w hw => va_Nw.use (xB_on w hw) (hZ.2.2 w hw))
    refine vx_throw0 (own := RX8) (cls := xN) (names := xNs) (ik := 89) (ic := 91) (A := Aw (sX D t ad) s.heap.size) B.exec B.bytes hl hown (by decide +kernel) (by decide +kernel) (hts (.classLink RX8 89 xN) (by decide +kernel)) (hts (.initialized xN) (by decide +kernel)) hat xt_good hZ.1 hZ.2.1 hS1 (by rw [hml]; exact hl0.1) dX8_told_20 dX8_told_23 dX8_told_24 dX8_told_27 (fun x hx => absurd (hex x hx) (by simp)) (by decide) (Nat.le_of_ble_eq_true rfl) (Nat.le_of_ble_eq_true rfl) (Nat.le_of_ble_eq_true rfl) B.notSynchronized (fun u hvm hz hk => ?_) hS1.2.2 (Nat.le_refl _) (Nat.le_refl _)
    have hk9 : ∀ (k : Nat) (y : Nat × va_E), (WD (sX D t ad) S)[k]? = some y → u.heap[y.1]? = H1[y.1]? := fun k y hy => hk y.1 ((hB1.1 k y hy).lt)
    exact ⟨rfl, ⟨hB1.1.kept hk9, hB1.2⟩, Nat.le_trans hS1.1 hz, fun q h1 h2 => (hk q (Nat.lt_of_lt_of_le h1 hS1.1)).trans (hS1.2.1 q h1 h2)⟩
  have hx := X_has (a0 := a0) hm
  refine lv_aload_n B.exec B.bytes dX8_told_0 rfl (lv_at hl0 0 rfl) ?_
  refine va_get (D := D) (ci := 8) (v := .ref (ad 4)) (C := RX8) (T := TX8) (N := 4) B.exec B.bytes hts in_X8_told_X8 hown hK hB.1 0 (WD_at (y := sX D t ad) (by show 0 < 90; omega)) rfl 1 (by decide) (hts (.fieldLink RX8 21 "LinePool" "pool" "LLinePool$Pool;") (by decide +kernel)) (fun _ h9 => h9) rfl dX8_told_1 ?_
  refine lv_iload_n B.exec B.bytes dX8_told_4 rfl (lv_at hl0 1 rfl) ?_
  refine y_callV (y := sX D t ad) (S1 := S) (As := [vI a0]) (rest := []) F hA hK hN hB va_S.rf 4 1 (Nat.le_of_ble_eq_true rfl) rfl rfl (c_X6_hasCaller hS ha0 hx) gX8_told_X6_hasCaller rfl ⟨rfl, rfl⟩ (by decide +kernel) ⟨Nat.le_of_ble_eq_true rfl, Nat.le_of_ble_eq_true rfl⟩ rfl rfl (Nat.le_of_ble_eq_true rfl) ⟨Nat.zero_le _, Nat.zero_le _⟩ hl0.1 dX8_told_5 (fun H1 locs1 _ _ hB1 hS1 _ _ => ?_)
  show W p l e rm_X8_toldX s m _ below meth c H1 locs1 0 0 _ (F0 m 8 ls [vI (if 0 ≤ a0 ∧ a0 < S 4 5 then 1 else 0)])
  by_cases q : 0 ≤ a0 ∧ a0 < S 4 5
  · rw [if_pos q]
    refine lv_if_eq (tgt := 20) B.exec B.bytes dX8_told_8 (by decide) (fun hc => absurd hc (by decide)) (fun _ => ?_)
    refine lv_iload_n B.exec B.bytes dX8_told_11 rfl (lv_at hl0 2 rfl) ?_
    refine lv_iconst (v := 0) B.exec B.bytes dX8_told_12 (by decide) ?_
    refine lv_iconst (v := 5) B.exec B.bytes dX8_told_13 (by decide) ?_
    have hi : dn_X8_within a1 0 5 S = some (S, 0) := by rw [X_in, if_neg (by omega)]
    refine y_callT (y := sX D t ad) (S1 := S) (As := [vI a1, vI 0, vI 5]) (rest := []) F hA hK hN hB1 hS1 3 (c_X8_within hS ha1 (by decide : r32 0) (by decide : r32 5) hi) gX8_told_X8_within rfl ⟨rfl, rfl⟩ (by decide +kernel) ⟨Nat.le_of_ble_eq_true rfl, Nat.le_of_ble_eq_true rfl⟩ rfl rfl (Nat.le_of_ble_eq_true rfl) ⟨Nat.zero_le _, Nat.zero_le _⟩ hl0.1 dX8_told_14 (fun H2 locs2 _ _ hB2 hS2 _ _ => ?_)
    show W p l e rm_X8_toldX s m _ below meth c H2 locs2 0 0 _ (F0 m 17 ls [vI 0])
    refine lv_if_ne (tgt := 28) B.exec B.bytes dX8_told_17 (by decide) (fun hc => absurd rfl hc) (fun _ => ?_)
    exact thr H2 locs2 hB2 hS2
  · rw [if_neg q]
    refine lv_if_eq (tgt := 20) B.exec B.bytes dX8_told_8 (by decide) (fun _ => ?_) (fun hc => absurd rfl hc)
    exact thr H1 locs1 hB1 hS1
/-! the search for a handler, of one row -/
section CT
variable {p : Program} {l : Launch} {e : Env} {R : Room} {s : State} {m : MethodId} {args : Array Value} {below : List Frame} {meth : Method} {c : Code} {H : Heap} {locs : List Loc} {cells slots : Nat} {Q : State → Prop} {pc : Nat} {ls : Array Slot} {rest : List Value}
def ct_F (e : Env) (s : State) (f : JFrame) (a : Addr) (h : Handler) (vm' : Vm) : Prop := ∀ (Q : Handler → Pre) (E : CtlPost) (d : Bool) (acts : List Action), wp (findHandler f a) Q E e d acts s ↔ Q h d acts (s.setVm vm')
theorem ct_go {s : State} {f : JFrame} {a : Addr} {x : ExceptionTableEntry} {t : List ExceptionTableEntry} {c4 : ClassId} {cell : Cell} {Q : Handler → Pre} {E : CtlPost} {d : Bool} {acts : List Action} (hx : covers x f.pc = true) (h0 : x.catchType ≠ 0)
    (hl : s.vm.ClassLinks e.platform f.method.cls x.catchType c4) (hcell : s.heap[a]? = some cell) (hobj : ∀ k, cell.vm ≠ .statics k)
    (hk : ∃ k, s.vm.classes[cell.cls]? = some k) (hc : ∃ k, s.vm.classes[c4]? = some k) (hfit : s.vm.assignable cell.cls c4 = true) :
    wp (findHandler.go f a (x :: t)) Q E e d acts s ↔ Q (.found x.handlerPc) d acts (s.setVm (s.vm.noted f.method.cls x.catchType (.cls c4))) := by
  simp only [covers] at hx
  obtain ⟨ha, ht⟩ := (resolveClass_links e.toSetting hl).op (op := VmOp.resolveClass f.method.cls x.catchType) rfl
  have hal : s.vm.Alike (s.vm.noted f.method.cls x.catchType (.cls c4)) := (Vm.Alike.refl s.vm).noted _ _ _
  obtain ⟨k1, hk1⟩ := hk
  obtain ⟨k2, hk2⟩ := hc
  obtain ⟨k1', hk1', -⟩ := hal.2.2 _ _ hk1
  obtain ⟨k2', hk2', -⟩ := hal.2.2 _ _ hk2
  have hfit' : (s.vm.noted f.method.cls x.catchType (.cls c4)).assignable cell.cls c4 = true := by rw [hal.assignable]; exact hfit
  simp [findHandler.go, hx, h0, ha, ht, hcell, hobj, hk1', hk2', hfit', VmOp.dirties, VmOp.acts]
theorem ct_step {s : State} {a : Addr} {f : JFrame} {r : List Frame} {pc : Nat} {vm' : Vm} (hfind : ct_F e s f a (.found pc) vm') :
    (stepThrowing e s a (.java f :: r)).Is ((s.setVm vm').setFrames (.java { f with pc := pc, stack := [.ref a] } :: r)) [] := by
  simp only [stepThrowing, searchFrame, vmDo]
  generalize hr : Sem.go _ e false [] s = res
  obtain ⟨as, rfl, ha⟩ := Sem.eq_ok_of hr (a := Handler.found pc) (s' := s.setVm vm') (acts' := []) (by simp [hfind _ _ _ _])
  exact ⟨rfl, ha⟩
theorem ct_fr (u : State) (vm' : Vm) (F G : List Frame) : ((u.setFrames F).setVm vm').setFrames G = (u.setVm vm').setFrames G := by
  have h1 : (u.setFrames F).setVm vm' = (u.setVm vm').setFrames F := rfl
  rw [h1, State.setFrames_setFrames]
theorem ct_to {tb : Tables} {s target : State} {g : JFrame} {a : Addr} (h : At s g.method c below) {pc : Nat} {vm' : Vm}
    (hfind : ct_F e ((s.setTop g).pushFrame (.throwing a)) g a (.found pc) vm') (hrest : Steps tb e below ((s.setVm vm').setTop { g with pc := pc, stack := [.ref a] }) target) :
    Steps tb e below ((s.setTop g).pushFrame (.throwing a)) target := by
  obtain ⟨hgo, hw⟩ := h.throwing a
  refine Steps.head hgo hw ?_
  rw [stepThread_throwing (frames_entered h.top _), (ct_step (s := (s.setTop g).pushFrame (.throwing a)) hfind).1]
  obtain ⟨g₀, hg⟩ := Option.isSome_iff_exists.mp h.top
  obtain ⟨r, hr⟩ := State.topJava?_eq_some.mp hg
  have hr' : (s.setVm vm').frames = .java g₀ :: r := hr
  rw [State.setTop_of_frames _ hr'] at hrest
  rw [hr, List.tail_cons, State.pushFrame, ct_fr, State.setTop_of_frames _ hr, ct_fr]
  exact hrest
theorem ct_catch {own name E : String} {ce : Cell} {q : Addr} {x : ExceptionTableEntry} (hown : s.vm.findClass own = some m.cls) (htab : c.exceptionTable.toList = [x]) (hx : covers x pc = true) (h0 : x.catchType ≠ 0)
    (hlink : (Cond.classLink own x.catchType name).before args s = true) (hcast : (Cond.castable E name).before args s = true) (hcell : H[q]? = some ce) (hv : ce.vm = .none) (hcl : s.vm.findClass E = some ce.cls)
    (kk : W p l e R s m args below meth c H locs cells slots Q (F0 m x.handlerPc ls [.ref q])) : vx_W p l e R s m args below meth c H locs cells slots Q (F0 m pc ls rest) q := by
  intro T hT X
  have hpl : e.platform.magicAccessors = ({} : Platform).magicAccessors := by rw [X.admits.platform]
  obtain ⟨c3, c4, hc3, hc4, hasg⟩ := Cond.castable_spec hcast
  cases Option.some.inj (hc3.symm.trans hcl)
  obtain ⟨c5, hc5, hcl5⟩ := Cond.classLink_spec hown hlink e.platform hpl
  cases Option.some.inj (hc4.symm.trans hc5)
  have hW := X.warmed
  obtain ⟨dk, _, _, kt, hd, _, _, _, _, hkt, _, hopen⟩ := hcl5.here
  obtain ⟨k0, hk0, -⟩ := Vm.findClass_spec hcl
  obtain ⟨k0', hk0', -⟩ := hW.alike.2.2 _ _ hk0
  obtain ⟨kt', hkt', -⟩ := hW.alike.2.2 _ _ hkt
  have hf : ct_F e ((T.setTop (F0 m pc ls rest)).pushFrame (.throwing q)) (F0 m pc ls rest) q (.found x.handlerPc) (T.vm.noted m.cls x.catchType (.cls c4)) := by
    intro Q9 E9 d acts
    rw [Jvm.W.findHandler_eq (f := F0 m pc ls rest) (a := q) (s := (T.setTop (F0 m pc ls rest)).pushFrame (.throwing q)) (meth := meth) (code := c) X.method' X.code, htab]
    exact ct_go (e := e) (s := (T.setTop (F0 m pc ls rest)).pushFrame (.throwing q)) (f := F0 m pc ls rest) hx h0 (hW.classLinks hcl5) (cell := ce) (by show T.heap[q]? = some ce; rw [hT]; exact hcell) (fun k h => by rw [hv] at h; cases h) ⟨k0', hk0'⟩ ⟨kt', hkt'⟩ (by show T.vm.assignable ce.cls c4 = true; rw [hW.alike.assignable]; exact hasg)
  have X' := X.noted (vm' := T.vm.noted m.cls x.catchType (.cls c4)) (hW.noted hd hopen (State.rightAt_cls hcl5))
  obtain ⟨t, a1, b1⟩ := kk (T.setVm (T.vm.noted m.cls x.catchType (.cls c4))) hT X'
  exact ⟨t, ct_to (g := F0 m pc ls rest) X.here hf a1, b1⟩
end CT
