/-! A system: class numbers, array classes, addresses, how many cells, what each cell is, whether it asks the nest's words -/
abbrev Dsc : Type := (Nat × Nat × Nat) ⊕ (Nat × List (Nat × Nat))
abbrev Sys : Type := va_G × List (ClassId × FieldType) × (Nat → Nat) × Nat × (Nat → Dsc) × Bool
def fld (ad : Nat → Nat) (S : St) (k f : Nat) (t : Nat × Nat) : Value := match t.1 with
  | 0 => vI (S k f)
  | 1 => vJ (S k (100000 + f))
  | 2 => .ref (ad t.2)
  | 3 => vI t.2
  | _ => vR ad t.2 (S k f)
def flds (ad : Nat → Nat) (S : St) (k : Nat) : Nat → List (Nat × Nat) → List Value
  | _, [] => []
  | f, t :: r => fld ad S k f t :: flds ad S k (f + 1) r
def arc (ad : Nat → Nat) (S : St) (k t b : Nat) : (Nat → Int32) ⊕ (Nat → Int64) ⊕ (Nat → UInt32) ⊕ (Nat → UInt64) ⊕ (Nat → Option Nat) := match t with
  | 1 => .inr (.inl (fun i => Int64.ofInt (S k (100000 + i))))
  | 3 => .inr (.inr (.inr (.inr (fun i => some (ad (i + b))))))
  | 4 => .inr (.inr (.inr (.inr (fun i => some (ad (i + b))))))
  | _ => .inl (fun i => Int32.ofInt (S k i))
def cel (y : Sys) (S : St) (k : Nat) : va_E := match y.2.2.2.2.1 k with
  | .inl a => .inl ((y.2.1.getD a.1 (0, .int)).1, a.2.1, arc y.2.2.1 S k a.1 a.2.2)
  | .inr o => .inr (o.1, flds y.2.2.1 S k 0 o.2)
def WD (y : Sys) (S : St) : va_W := (List.range y.2.2.2.1).map (fun k => (y.2.2.1 k, cel y S k))
theorem WD_at {y : Sys} {S : St} {k : Nat} (h : k < y.2.2.2.1) : (WD y S)[k]? = some (y.2.2.1 k, cel y S k) := by
  simp [WD, h]
theorem flds_len (ad : Nat → Nat) (S : St) (k : Nat) : ∀ (fs : List (Nat × Nat)) (f : Nat), (flds ad S k f fs).length = fs.length
  | [], _ => rfl
  | _ :: r, f => by simp [flds, flds_len ad S k r (f + 1)]
theorem flds_at (ad : Nat → Nat) (S : St) (k : Nat) : ∀ (fs : List (Nat × Nat)) (g f : Nat) (t : Nat × Nat), fs[f]? = some t → (flds ad S k g fs)[f]? = some (fld ad S k (g + f) t)
  | [], _, _, _, h => by simp at h
  | a :: r, g, 0, t, h => by
    simp only [List.getElem?_cons_zero, Option.some.injEq] at h
    subst h
    rfl
  | a :: r, g, f + 1, t, h => by
    rw [List.getElem?_cons_succ] at h
    show (flds ad S k (g + 1) r)[f]? = _
    rw [flds_at ad S k r (g + 1) f t h, Nat.add_right_comm, Nat.add_assoc]
theorem fld_off {ad : Nat → Nat} {S : St} {k k2 f f2 : Nat} {x : Int} {t : Nat × Nat} (h : k2 ≠ k) : fld ad (stU S k f x) k2 f2 t = fld ad S k2 f2 t := by
  unfold fld
  split <;> simp [stU, h]
theorem flds_off {ad : Nat → Nat} {S : St} {k k2 f : Nat} {x : Int} (h : k2 ≠ k) : ∀ (fs : List (Nat × Nat)) (g : Nat), flds ad (stU S k f x) k2 g fs = flds ad S k2 g fs
  | [], _ => rfl
  | t :: r, g => by simp only [flds, fld_off h, flds_off h r (g + 1)]
theorem cel_off {y : Sys} {S : St} {k k2 f : Nat} {x : Int} (h : k2 ≠ k) : cel y (stU S k f x) k2 = cel y S k2 := by
  unfold cel
  split
  · simp only [arc, stU, if_neg h]
  · rw [flds_off h]
theorem WD_set {y : Sys} {S : St} {k f : Nat} {x : Int} (hk : k < y.2.2.2.1) {e : va_E} (he : e = cel y (stU S k f x) k) : (WD y S).set k (y.2.2.1 k, e) = WD y (stU S k f x) := by
  subst he
  apply List.ext_getElem?
  intro j
  by_cases hj : j = k
  · subst hj
    rw [List.getElem?_set_self (by simp [WD, hk]), WD_at hk]
  · rw [List.getElem?_set_ne (Ne.symm hj)]
    simp only [WD, List.getElem?_map]
    cases hr : (List.range y.2.2.2.1)[j]? with
    | none => rfl
    | some i =>
      have hi : i = j := by
        have h2 := List.getElem?_eq_some_iff.mp hr
        obtain ⟨h3, h4⟩ := h2
        simp at h4
        exact h4.symm
      subst hi
      simp only [Option.map_some, cel_off hj]
theorem flds_set (ad : Nat → Nat) (S : St) (k : Nat) (q : Nat) (x : Int) : ∀ (fs : List (Nat × Nat)) (g f : Nat) (t : Nat × Nat), fs[f]? = some t → (∀ (j : Nat) (t2 : Nat × Nat), fs[j]? = some t2 → j ≠ f → fld ad (stU S k q x) k (g + j) t2 = fld ad S k (g + j) t2) →
    (flds ad S k g fs).set f (fld ad (stU S k q x) k (g + f) t) = flds ad (stU S k q x) k g fs
  | [], _, _, _, h, _ => by simp at h
  | a :: r, g, 0, t, h, ho => by
    simp only [List.getElem?_cons_zero, Option.some.injEq] at h
    subst h
    simp only [flds, List.set_cons_zero, Nat.add_zero]
    congr 1
    apply List.ext_getElem?
    intro j
    cases hj : r[j]? with
    | none =>
      rw [List.getElem?_eq_none (by rw [flds_len]; exact List.getElem?_eq_none_iff.mp hj), List.getElem?_eq_none (by rw [flds_len]; exact List.getElem?_eq_none_iff.mp hj)]
    | some t2 =>
      rw [flds_at ad S k r (g + 1) j t2 hj, flds_at ad (stU S k q x) k r (g + 1) j t2 hj]
      have := ho (j + 1) t2 (by rw [List.getElem?_cons_succ]; exact hj) (by omega)
      rw [show g + 1 + j = g + (j + 1) by omega, this]
  | a :: r, g, f + 1, t, h, ho => by
    rw [List.getElem?_cons_succ] at h
    have h0 := ho 0 a (by simp) (by omega)
    simp only [Nat.add_zero] at h0
    simp only [flds, List.set_cons_succ, h0]
    congr 1
    rw [show g + (f + 1) = g + 1 + f by omega]
    exact flds_set ad S k q x r (g + 1) f t h (fun j t2 hj hne => by
      have := ho (j + 1) t2 (by rw [List.getElem?_cons_succ]; exact hj) (by omega)
      rw [show g + 1 + j = g + (j + 1) by omega]
      exact this)
/-! the nest's words -/
def NS (b : Bool) (U : State) : Prop := b = true → va_Nw (.fieldLinkNest RX6 271 RX4 "all" "I" RX8) U ∧ va_Nw (.methodLinkNest RX1 13 yX8_within RX8) U ∧ va_Nw (.methodLinkNest RX2 22 yX8_within RX8) U ∧ va_Nw (.methodLinkNest RX4 31 yX8_within RX8) U ∧ va_Nw (.methodLinkNest RX6 76 yX8_within RX8) U ∧ va_Nw (.methodLinkNest RX7 26 yX8_within RX8) U
theorem NS.same {b : Bool} {u U : State} (h : u.vm = U.vm) (hN : NS b u) : NS b U := fun hb => by
  obtain ⟨a1, a2, a3, a4, a5, a6⟩ := hN hb
  exact ⟨va_Nw.same rfl h a1, va_Nw.same rfl h a2, va_Nw.same rfl h a3, va_Nw.same rfl h a4, va_Nw.same rfl h a5, va_Nw.same rfl h a6⟩
theorem NS.warm {b : Bool} {s U : State} (hW : s.WarmedH U.vm) (hN : NS b s) : NS b U := fun hb => by
  obtain ⟨a1, a2, a3, a4, a5, a6⟩ := hN hb
  exact ⟨va_Nw.warmF hW a1, va_Nw.warmM hW a2, va_Nw.warmM hW a3, va_Nw.warmM hW a4, va_Nw.warmM hW a5, va_Nw.warmM hW a6⟩
/-! worlds, contracts, the walk's judgement -/
def Bw (y : Sys) (A : Nat → Prop) (S : St) (H : Heap) : Prop := va_P y.1 vwCl (WD y S) H ∧ va_D A (WD y S)
def Aw (y : Sys) (sz : Nat) : Nat → Prop := fun q => (∃ k : Nat, k < y.2.2.2.1 ∧ q = y.2.2.1 k) ∨ sz ≤ q
def Pw (y : Sys) (S : St) (sz : Nat) (As : List Value) : Array Value → State → Prop := va_Pc As (fun U => U.heap.size = sz ∧ Bw y (fun _ => True) S U.heap ∧ va_K y.1 vwCl y.2.1 U ∧ NS y.2.2.2.2.2 U)
abbrev Acc : Type := (Int → Option Value) × (Int → Prop)
def Qo (y : Sys) (A : Nat → Prop) (ac : Acc) (S0 : St) (r0 : Int) : Array Value → State → Outcome → State → Prop := fun _ st oc t => oc = .returned (ac.1 r0) ∧ RS S0 ∧ ac.2 r0 ∧ Bw y A S0 t.heap ∧ va_F A st t
def Mc (l : Launch) (y : Sys) (nm : MethodName) (ws : List Cond) (rm : Room) (As : List Value) (ac : Acc) (S S0 : St) (r0 : Int) : Prop := ∀ sz : Nat, Met l nm ws rm (Pw y S sz As) (Qo y (Aw y sz) ac S0 r0) 0 0 (Aw y sz)
/-- what is fixed of a method: bytes, locals, own class, words, room, what it returns -/
abbrev Mi : Type := ByteArray × Nat × String × List Cond × Room × Option FieldType
/-- the machine around it -/
abbrev Mx : Type := Program × Launch × Env × State × MethodId × Array Value × List Frame × Method × Code
def CX (y : Sys) (μ : Mi) (x : Mx) : Prop := x.1.tables.exec = Jvm.exec ∧ x.2.2.2.2.2.2.2.2.code = μ.1 ∧ x.2.2.2.2.2.2.2.2.maxLocals = μ.2.1 ∧ x.2.2.2.1.vm.findClass μ.2.2.1 = some x.2.2.2.2.1.cls ∧ (∀ w ∈ μ.2.2.2.1, w.before x.2.2.2.2.2.1 x.2.2.2.1 = true) ∧ va_K y.1 vwCl y.2.1 x.2.2.2.1 ∧ NS y.2.2.2.2.2 x.2.2.2.1 ∧ x.2.2.2.2.2.2.2.1.locks = false ∧ x.2.2.2.2.2.2.2.1.sig.returnType = μ.2.2.2.2.2
abbrev Rh : Type := Acc × St × Int
def GW (y : Sys) (μ : Mi) (ρ : Rh) (x : Mx) (S : St) (pc : Nat) (lv : List (Nat × Value)) (st : List Value) : Prop :=
  ∀ (H : Heap) (locs : List Loc) (ls : Array Slot), Bw y (Aw y x.2.2.2.1.heap.size) S H → va_S (Aw y x.2.2.2.1.heap.size) x.2.2.2.1.heap H locs → lv_has ls μ.2.1 lv →
    W x.1 x.2.1 x.2.2.1 μ.2.2.2.2.1 x.2.2.2.1 x.2.2.2.2.1 x.2.2.2.2.2.1 x.2.2.2.2.2.2.1 x.2.2.2.2.2.2.2.1 x.2.2.2.2.2.2.2.2 H locs 0 0
      (MQ x.2.2.2.2.2.2.1 (Qo y (Aw y x.2.2.2.1.heap.size) ρ.1 ρ.2.1 ρ.2.2) x.2.2.2.2.2.1 x.2.2.2.1 0 0 (Aw y x.2.2.2.1.heap.size)) (F0 x.2.2.2.2.1 pc ls st)
theorem Met_ofF {l : Launch} {y : MethodName} {ws ws' : List Cond} {rm : Room} {Pc : Array Value → State → Prop} {Qc : Array Value → State → Outcome → State → Prop} {mc ms : Nat} {free : Addr → Prop} {cc : ByteArray} {maxL : Nat} {ret : Option FieldType}
    (hy : plainFor y = true) (hw : ws = Cond.code y cc maxL ret :: ws')
    (body : ∀ p e s m args below meth c s₁, BodyLoose p l y (headSpec ws rm) cc maxL ret e s m args below meth c s₁ → c.maxLocals = maxL → Pc args s →
      W p l e (headSpec ws rm).room s m args below meth c s.heap [] 0 0 (MQ below Qc args s mc ms free) (entryFrame m args maxL)) : Met l y ws rm Pc Qc mc ms free := by
  refine MetFree.of_bodySF (code := cc) (maxLocals := maxL) (ret := ret) hy ?_ ?_
  · intro args s m h hn
    obtain ⟨meth, c, h1, h2, h3, h4, h5, h6, -, -⟩ := Cond.code_spec hn (atoms_spec (ws := ws) h _ (by rw [hw]; exact List.mem_cons_self))
    exact ⟨meth, c, h1, h2, h3, h4, h5, h6⟩
  · intro p e s m args below meth c s₁ B hml hP _
    have hh0 : s₁.heap = s.heap := by rw [B.state]; rfl
    obtain ⟨t, a1, o, b1, b2, b3⟩ := body p e s m args below meth c s₁ B hml hP s₁ hh0 (Stand.of_body B)
    exact ⟨t, o, a1, b1, b2, ⟨b3.1, b3.2⟩⟩
theorem Mc_of {l : Launch} {y : Sys} {nm : MethodName} {cc : ByteArray} {nL : Nat} {ret : Option FieldType} {ws ws' : List Cond} {rm : Room} {As : List Value} {ac : Acc} {S S0 : St} {r0 : Int} {lv : List (Nat × Value)} (hy : plainFor nm = true) (hw : ws = Cond.code nm cc nL ret :: ws') (hl : (lg_sl As).length ≤ nL) (hlv : lv_args 0 As = lv)
    (body : ∀ x : Mx, CX y (cc, nL, nm.cls, ws, rm, ret) x → x.2.1 = l → GW y (cc, nL, nm.cls, ws, rm, ret) (ac, S0, r0) x S 0 lv []) : Mc l y nm ws rm As ac S S0 r0 := by
  intro sz
  subst hlv
  refine Met_ofF (cc := cc) (maxL := nL) (ret := ret) hy hw ?_
  intro p e s m args below meth c s₁ B hml hv
  obtain ⟨rfl, hsz, hBw, hK, hN⟩ := hv
  have hts := atoms_spec (ws := ws) B.pre
  have hown : s.vm.findClass nm.cls = some m.cls := findClass_of_methodNamed B.named
  subst hsz
  have hb := body (p, l, e, s, m, As.toArray, below, meth, c) ⟨B.exec, B.bytes, hml, hown, hts, hK, hN, B.notSynchronized, B.returns⟩ rfl
  rw [lg_entry_eq]
  refine hb s.heap [] _ ⟨hBw.1, hBw.2.1, ?_⟩ va_S.rf (lv_entry As hl)
  intro k q hk
  simp only [WD, List.getElem?_map] at hk
  cases hr : (List.range y.2.2.2.1)[k]? with
  | none => rw [hr] at hk; cases hk
  | some i =>
    rw [hr] at hk
    cases hk
    have h2 := (List.getElem?_eq_some_iff.mp hr)
    obtain ⟨h3, h4⟩ := h2
    simp at h3 h4
    exact Or.inl ⟨i, by omega, rfl⟩
section GR
variable {y : Sys} {μ : Mi} {ρ : Rh} {x : Mx} {S : St} {pc n : Nat} {lv lv' : List (Nat × Value)} {st : List Value}
theorem g_lv (ks : List Nat) (hl : lv_pick lv ks = lv') (k : GW y μ ρ x S pc lv' st) : GW y μ ρ x S pc lv st := fun H locs ls hB hS hv => k H locs ls hB hS (lv_sub hv ks hl)
theorem g_iconst (C : CX y μ x) {v : Int} (hd : decode μ.1 pc = .ok (.iconst v, 1)) (hn : pc + 1 = n) (k : GW y μ ρ x S n lv (vI v :: st)) : GW y μ ρ x S pc lv st := by
  intro H locs ls hB hS hv
  subst hn
  exact lv_iconst C.1 C.2.1 hd rfl (k H locs ls hB hS hv)
theorem g_bipush (C : CX y μ x) {v : Int} (hd : decode μ.1 pc = .ok (.bipush v, 2)) (hr : (Int8.ofInt v).toInt32 = Int32.ofInt v) (hn : pc + 2 = n) (k : GW y μ ρ x S n lv (vI v :: st)) : GW y μ ρ x S pc lv st := by
  intro H locs ls hB hS hv
  subst hn
  exact lv_bipush C.1 C.2.1 hd hr (k H locs ls hB hS hv)
theorem g_sipush (C : CX y μ x) {v : Int} (hd : decode μ.1 pc = .ok (.sipush v, 3)) (hr : (Int16.ofInt v).toInt32 = Int32.ofInt v) (hn : pc + 3 = n) (k : GW y μ ρ x S n lv (vI v :: st)) : GW y μ ρ x S pc lv st := by
  intro H locs ls hB hS hv
  subst hn
  exact lv_sipush C.1 C.2.1 hd hr (k H locs ls hB hS hv)
theorem g_lconst (C : CX y μ x) {v : Fin 2} {w : Int} (hd : decode μ.1 pc = .ok (.lconst v, 1)) (hr : Int64.ofNat (v : Nat) = Int64.ofInt w) (hn : pc + 1 = n) (k : GW y μ ρ x S n lv (vJ w :: st)) : GW y μ ρ x S pc lv st := by
  intro H locs ls hB hS hv
  subst hn
  exact lv_lconst C.1 C.2.1 hd hr (k H locs ls hB hS hv)
theorem g_iload_n (C : CX y μ x) (j : Nat) {i : Fin 4} {a : Int} (hd : decode μ.1 pc = .ok (.iload_n i, 1)) (hj : lv[j]? = some ((i : Nat), vI a)) (hn : pc + 1 = n) (k : GW y μ ρ x S n lv (vI a :: st)) : GW y μ ρ x S pc lv st := by
  intro H locs ls hB hS hv
  subst hn
  exact lv_iload_n C.1 C.2.1 hd rfl (lv_at hv j hj) (k H locs ls hB hS hv)
theorem g_iload (C : CX y μ x) (j : Nat) {i : Nat} {a : Int} (hd : decode μ.1 pc = .ok (.iload i, 2)) (hj : lv[j]? = some (i, vI a)) (hn : pc + 2 = n) (k : GW y μ ρ x S n lv (vI a :: st)) : GW y μ ρ x S pc lv st := by
  intro H locs ls hB hS hv
  subst hn
  exact lv_iload C.1 C.2.1 hd (lv_at hv j hj) (k H locs ls hB hS hv)
theorem g_lload_n (C : CX y μ x) (j : Nat) {i : Fin 4} {a : Int} (hd : decode μ.1 pc = .ok (.lload_n i, 1)) (hj : lv[j]? = some ((i : Nat), vJ a)) (hn : pc + 1 = n) (k : GW y μ ρ x S n lv (vJ a :: st)) : GW y μ ρ x S pc lv st := by
  intro H locs ls hB hS hv
  subst hn
  exact lv_lload_n C.1 C.2.1 hd rfl (lv_at hv j hj) (k H locs ls hB hS hv)
theorem g_lload (C : CX y μ x) (j : Nat) {i : Nat} {a : Int} (hd : decode μ.1 pc = .ok (.lload i, 2)) (hj : lv[j]? = some (i, vJ a)) (hn : pc + 2 = n) (k : GW y μ ρ x S n lv (vJ a :: st)) : GW y μ ρ x S pc lv st := by
  intro H locs ls hB hS hv
  subst hn
  exact lv_lload C.1 C.2.1 hd (lv_at hv j hj) (k H locs ls hB hS hv)
theorem g_aload_n (C : CX y μ x) (j : Nat) {i : Fin 4} {a : Nat} (hd : decode μ.1 pc = .ok (.aload_n i, 1)) (hj : lv[j]? = some ((i : Nat), .ref a)) (hn : pc + 1 = n) (k : GW y μ ρ x S n lv (.ref a :: st)) : GW y μ ρ x S pc lv st := by
  intro H locs ls hB hS hv
  subst hn
  exact lv_aload_n C.1 C.2.1 hd rfl (lv_at hv j hj) (k H locs ls hB hS hv)
theorem g_aload (C : CX y μ x) (j : Nat) {i : Nat} {a : Nat} (hd : decode μ.1 pc = .ok (.aload i, 2)) (hj : lv[j]? = some (i, .ref a)) (hn : pc + 2 = n) (k : GW y μ ρ x S n lv (.ref a :: st)) : GW y μ ρ x S pc lv st := by
  intro H locs ls hB hS hv
  subst hn
  exact lv_aload C.1 C.2.1 hd (lv_at hv j hj) (k H locs ls hB hS hv)
/-- a local that is an object of a family, or null -/
theorem g_rload_n (C : CX y μ x) (j : Nat) {i : Fin 4} {b : Nat} {a : Int} (hd : decode μ.1 pc = .ok (.aload_n i, 1)) (hj : lv[j]? = some ((i : Nat), vR y.2.2.1 b a)) (hn : pc + 1 = n) (k : GW y μ ρ x S n lv (vR y.2.2.1 b a :: st)) : GW y μ ρ x S pc lv st := by
  intro H locs ls hB hS hv
  subst hn
  have hj2 := lv_at hv j hj
  have hk := k H locs ls hB hS hv
  unfold vR at hj2 hk
  by_cases ha : a < 0
  · rw [if_pos ha] at hj2 hk
    exact lv_aload_nN C.1 C.2.1 hd rfl hj2 hk
  · rw [if_neg ha] at hj2 hk
    exact lv_aload_n C.1 C.2.1 hd rfl hj2 hk
theorem g_rload (C : CX y μ x) (j : Nat) {i : Nat} {b : Nat} {a : Int} (hd : decode μ.1 pc = .ok (.aload i, 2)) (hj : lv[j]? = some (i, vR y.2.2.1 b a)) (hn : pc + 2 = n) (k : GW y μ ρ x S n lv (vR y.2.2.1 b a :: st)) : GW y μ ρ x S pc lv st := by
  intro H locs ls hB hS hv
  subst hn
  have hj2 := lv_at hv j hj
  have hk := k H locs ls hB hS hv
  unfold vR at hj2 hk
  by_cases ha : a < 0
  · rw [if_pos ha] at hj2 hk
    exact lv_aloadN C.1 C.2.1 hd hj2 hk
  · rw [if_neg ha] at hj2 hk
    exact lv_aload C.1 C.2.1 hd hj2 hk
theorem g_istore_n (C : CX y μ x) {i : Fin 4} {a b : Int} (hd : decode μ.1 pc = .ok (.istore_n i, 1)) (hi : (i : Nat) < μ.2.1) (he : b = a) (hl : ((i : Nat), vI b) :: lv.filter (fun q => !(q.1 == (i : Nat)) && !(q.1 + 1 == (i : Nat) && q.2.category == 2)) = lv') (hn : pc + 1 = n) (k : GW y μ ρ x S n lv' st) : GW y μ ρ x S pc lv (vI a :: st) := by
  intro H locs ls hB hS hv
  subst hn
  subst he
  exact lv_istore_n C.1 C.2.1 hd rfl hv hi hl (fun ls2 hv2 => k H locs ls2 hB hS hv2)
theorem g_istore (C : CX y μ x) {i : Nat} {a b : Int} (hd : decode μ.1 pc = .ok (.istore i, 2)) (hi : i < μ.2.1) (he : b = a) (hl : (i, vI b) :: lv.filter (fun q => !(q.1 == i) && !(q.1 + 1 == i && q.2.category == 2)) = lv') (hn : pc + 2 = n) (k : GW y μ ρ x S n lv' st) : GW y μ ρ x S pc lv (vI a :: st) := by
  intro H locs ls hB hS hv
  subst hn
  subst he
  exact lv_istore C.1 C.2.1 hd hv hi hl (fun ls2 hv2 => k H locs ls2 hB hS hv2)
theorem g_lstore_n (C : CX y μ x) {i : Fin 4} {a b : Int} (hd : decode μ.1 pc = .ok (.lstore_n i, 1)) (hi : (i : Nat) + 1 < μ.2.1) (he : b = a) (hl : ((i : Nat), vJ b) :: lv.filter (fun q => !(q.1 == (i : Nat)) && (!(q.1 == (i : Nat) + 1) && !(q.1 + 1 == (i : Nat) && q.2.category == 2))) = lv') (hn : pc + 1 = n) (k : GW y μ ρ x S n lv' st) : GW y μ ρ x S pc lv (vJ a :: st) := by
  intro H locs ls hB hS hv
  subst hn
  subst he
  exact lv_lstore_n C.1 C.2.1 hd rfl hv hi hl (fun ls2 hv2 => k H locs ls2 hB hS hv2)
theorem g_lstore (C : CX y μ x) {i : Nat} {a b : Int} (hd : decode μ.1 pc = .ok (.lstore i, 2)) (hi : i + 1 < μ.2.1) (he : b = a) (hl : (i, vJ b) :: lv.filter (fun q => !(q.1 == i) && (!(q.1 == i + 1) && !(q.1 + 1 == i && q.2.category == 2))) = lv') (hn : pc + 2 = n) (k : GW y μ ρ x S n lv' st) : GW y μ ρ x S pc lv (vJ a :: st) := by
  intro H locs ls hB hS hv
  subst hn
  subst he
  exact lv_lstore C.1 C.2.1 hd hv hi hl (fun ls2 hv2 => k H locs ls2 hB hS hv2)
theorem g_astore_n (C : CX y μ x) {i : Fin 4} {a : Nat} (hd : decode μ.1 pc = .ok (.astore_n i, 1)) (hi : (i : Nat) < μ.2.1) (hl : ((i : Nat), Value.ref a) :: lv.filter (fun q => !(q.1 == (i : Nat)) && !(q.1 + 1 == (i : Nat) && q.2.category == 2)) = lv') (hn : pc + 1 = n) (k : GW y μ ρ x S n lv' st) : GW y μ ρ x S pc lv (.ref a :: st) := by
  intro H locs ls hB hS hv
  subst hn
  exact lv_astore_n C.1 C.2.1 hd rfl hv hi hl (fun ls2 hv2 => k H locs ls2 hB hS hv2)
theorem g_rstore_n (C : CX y μ x) {i : Fin 4} {b : Nat} {a : Int} (hd : decode μ.1 pc = .ok (.astore_n i, 1)) (hi : (i : Nat) < μ.2.1) (hl : ((i : Nat), vR y.2.2.1 b a) :: lv.filter (fun q => !(q.1 == (i : Nat)) && !(q.1 + 1 == (i : Nat) && q.2.category == 2)) = lv') (hn : pc + 1 = n) (k : GW y μ ρ x S n lv' st) : GW y μ ρ x S pc lv (vR y.2.2.1 b a :: st) := by
  intro H locs ls hB hS hv
  subst hn
  unfold vR at hl ⊢
  by_cases ha : a < 0
  · rw [if_pos ha] at hl ⊢
    exact lv_astore_nN C.1 C.2.1 hd rfl hv hi hl (fun ls2 hv2 => k H locs ls2 hB hS hv2)
  · rw [if_neg ha] at hl ⊢
    exact lv_astore_n C.1 C.2.1 hd rfl hv hi hl (fun ls2 hv2 => k H locs ls2 hB hS hv2)
theorem g_rstore (C : CX y μ x) {i : Nat} {b : Nat} {a : Int} (hd : decode μ.1 pc = .ok (.astore i, 2)) (hi : i < μ.2.1) (hl : (i, vR y.2.2.1 b a) :: lv.filter (fun q => !(q.1 == i) && !(q.1 + 1 == i && q.2.category == 2)) = lv') (hn : pc + 2 = n) (k : GW y μ ρ x S n lv' st) : GW y μ ρ x S pc lv (vR y.2.2.1 b a :: st) := by
  intro H locs ls hB hS hv
  subst hn
  unfold vR at hl ⊢
  by_cases ha : a < 0
  · rw [if_pos ha] at hl ⊢
    exact lv_astoreN C.1 C.2.1 hd hv hi hl (fun ls2 hv2 => k H locs ls2 hB hS hv2)
  · rw [if_neg ha] at hl ⊢
    exact lv_astore C.1 C.2.1 hd hv hi hl (fun ls2 hv2 => k H locs ls2 hB hS hv2)
theorem g_null (C : CX y μ x) (b : Nat) (hd : decode μ.1 pc = .ok (.aconst_null, 1)) (hn : pc + 1 = n) (k : GW y μ ρ x S n lv (vR y.2.2.1 b (-1) :: st)) : GW y μ ρ x S pc lv st := by
  intro H locs ls hB hS hv
  subst hn
  exact lv_null C.1 C.2.1 hd (k H locs ls hB hS hv)
theorem g_iinc (C : CX y μ x) (j : Nat) {i : Nat} {a b d : Int} (hd : decode μ.1 pc = .ok (.iinc i d, 3)) (hj : lv[j]? = some (i, vI a)) (hi : i < μ.2.1) (he : b = w32 (a + d)) (hl : (i, vI b) :: lv.filter (fun q => !(q.1 == i) && !(q.1 + 1 == i && q.2.category == 2)) = lv') (hn : pc + 3 = n) (k : GW y μ ρ x S n lv' st) : GW y μ ρ x S pc lv st := by
  intro H locs ls hB hS hv
  subst hn
  subst he
  exact lv_iinc C.1 C.2.1 hd hv hj (i_add a d) hi hl (fun ls2 hv2 => k H locs ls2 hB hS hv2)
theorem g_iadd (C : CX y μ x) {a b : Int} (hd : decode μ.1 pc = .ok (.iadd, 1)) (hn : pc + 1 = n) (k : GW y μ ρ x S n lv (vI (w32 (a + b)) :: st)) : GW y μ ρ x S pc lv (vI b :: vI a :: st) := by
  intro H locs ls hB hS hv
  subst hn
  refine lv_iadd C.1 C.2.1 hd ?_
  rw [i_add]
  exact k H locs ls hB hS hv
theorem g_isub (C : CX y μ x) {a b : Int} (hd : decode μ.1 pc = .ok (.isub, 1)) (hn : pc + 1 = n) (k : GW y μ ρ x S n lv (vI (w32 (a - b)) :: st)) : GW y μ ρ x S pc lv (vI b :: vI a :: st) := by
  intro H locs ls hB hS hv
  subst hn
  refine lv_isub C.1 C.2.1 hd ?_
  rw [i_sub]
  exact k H locs ls hB hS hv
theorem g_imul (C : CX y μ x) {a b : Int} (hd : decode μ.1 pc = .ok (.imul, 1)) (hn : pc + 1 = n) (k : GW y μ ρ x S n lv (vI (w32 (a * b)) :: st)) : GW y μ ρ x S pc lv (vI b :: vI a :: st) := by
  intro H locs ls hB hS hv
  subst hn
  refine lv_imul C.1 C.2.1 hd ?_
  rw [i_mul]
  exact k H locs ls hB hS hv
theorem g_idiv (C : CX y μ x) {a b : Int} (ha : r32 a) (hb : r32 b) (h0 : b ≠ 0) (hd : decode μ.1 pc = .ok (.idiv, 1)) (hn : pc + 1 = n) (k : GW y μ ρ x S n lv (vI (w32 (a.tdiv b)) :: st)) : GW y μ ρ x S pc lv (vI b :: vI a :: st) := by
  intro H locs ls hB hS hv
  subst hn
  refine lv_idiv C.1 C.2.1 hd (fun h => h0 ((i_eq hb (by decide : r32 0)).mp h)) ?_
  rw [i_div ha hb]
  exact k H locs ls hB hS hv
theorem g_irem (C : CX y μ x) {a b : Int} (ha : r32 a) (hb : r32 b) (h0 : b ≠ 0) (hd : decode μ.1 pc = .ok (.irem, 1)) (hn : pc + 1 = n) (k : GW y μ ρ x S n lv (vI (w32 (a.tmod b)) :: st)) : GW y μ ρ x S pc lv (vI b :: vI a :: st) := by
  intro H locs ls hB hS hv
  subst hn
  refine lv_irem C.1 C.2.1 hd (fun h => h0 ((i_eq hb (by decide : r32 0)).mp h)) ?_
  rw [i_rem ha hb]
  exact k H locs ls hB hS hv
theorem g_iand (C : CX y μ x) {a b : Int} (hd : decode μ.1 pc = .ok (.iand, 1)) (hn : pc + 1 = n) (k : GW y μ ρ x S n lv (vI (andI a b) :: st)) : GW y μ ρ x S pc lv (vI b :: vI a :: st) := by
  intro H locs ls hB hS hv
  subst hn
  refine lv_iand C.1 C.2.1 hd ?_
  have hk := k H locs ls hB hS hv
  unfold vI andI at hk
  rw [i_of] at hk
  exact hk
theorem g_ixor (C : CX y μ x) {a b : Int} (hd : decode μ.1 pc = .ok (.ixor, 1)) (hn : pc + 1 = n) (k : GW y μ ρ x S n lv (vI (xorI a b) :: st)) : GW y μ ρ x S pc lv (vI b :: vI a :: st) := by
  intro H locs ls hB hS hv
  subst hn
  refine lv_ixor C.1 C.2.1 hd ?_
  have hk := k H locs ls hB hS hv
  unfold vI xorI at hk
  rw [i_of] at hk
  exact hk
theorem g_ladd (C : CX y μ x) {a b : Int} (hd : decode μ.1 pc = .ok (.ladd, 1)) (hn : pc + 1 = n) (k : GW y μ ρ x S n lv (vJ (w64 (a + b)) :: st)) : GW y μ ρ x S pc lv (vJ b :: vJ a :: st) := by
  intro H locs ls hB hS hv
  subst hn
  refine lv_ladd C.1 C.2.1 hd ?_
  rw [j_add]
  exact k H locs ls hB hS hv
theorem g_lsub (C : CX y μ x) {a b : Int} (hd : decode μ.1 pc = .ok (.lsub, 1)) (hn : pc + 1 = n) (k : GW y μ ρ x S n lv (vJ (w64 (a - b)) :: st)) : GW y μ ρ x S pc lv (vJ b :: vJ a :: st) := by
  intro H locs ls hB hS hv
  subst hn
  refine lv_lsub C.1 C.2.1 hd ?_
  rw [j_sub]
  exact k H locs ls hB hS hv
theorem g_lmul (C : CX y μ x) {a b : Int} (hd : decode μ.1 pc = .ok (.lmul, 1)) (hn : pc + 1 = n) (k : GW y μ ρ x S n lv (vJ (w64 (a * b)) :: st)) : GW y μ ρ x S pc lv (vJ b :: vJ a :: st) := by
  intro H locs ls hB hS hv
  subst hn
  refine lv_lmul C.1 C.2.1 hd ?_
  rw [j_mul]
  exact k H locs ls hB hS hv
theorem g_ldiv (C : CX y μ x) {a b : Int} (ha : r64 a) (hb : r64 b) (h0 : b ≠ 0) (hd : decode μ.1 pc = .ok (.ldiv, 1)) (hn : pc + 1 = n) (k : GW y μ ρ x S n lv (vJ (w64 (a.tdiv b)) :: st)) : GW y μ ρ x S pc lv (vJ b :: vJ a :: st) := by
  intro H locs ls hB hS hv
  subst hn
  refine lv_ldiv C.1 C.2.1 hd (fun h => h0 ((j_eq hb (by decide : r64 0)).mp h)) ?_
  rw [j_div ha hb]
  exact k H locs ls hB hS hv
theorem g_lrem (C : CX y μ x) {a b : Int} (ha : r64 a) (hb : r64 b) (h0 : b ≠ 0) (hd : decode μ.1 pc = .ok (.lrem, 1)) (hn : pc + 1 = n) (k : GW y μ ρ x S n lv (vJ (w64 (a.tmod b)) :: st)) : GW y μ ρ x S pc lv (vJ b :: vJ a :: st) := by
  intro H locs ls hB hS hv
  subst hn
  refine lv_lrem C.1 C.2.1 hd (fun h => h0 ((j_eq hb (by decide : r64 0)).mp h)) ?_
  rw [j_rem ha hb]
  exact k H locs ls hB hS hv
theorem g_land (C : CX y μ x) {a b : Int} (hd : decode μ.1 pc = .ok (.land, 1)) (hn : pc + 1 = n) (k : GW y μ ρ x S n lv (vJ (andJ a b) :: st)) : GW y μ ρ x S pc lv (vJ b :: vJ a :: st) := by
  intro H locs ls hB hS hv
  subst hn
  refine lv_land C.1 C.2.1 hd ?_
  have hk := k H locs ls hB hS hv
  unfold vJ andJ at hk
  rw [j_of] at hk
  exact hk
theorem g_lor (C : CX y μ x) {a b : Int} (hd : decode μ.1 pc = .ok (.lor, 1)) (hn : pc + 1 = n) (k : GW y μ ρ x S n lv (vJ (orJ a b) :: st)) : GW y μ ρ x S pc lv (vJ b :: vJ a :: st) := by
  intro H locs ls hB hS hv
  subst hn
  refine lv_lor C.1 C.2.1 hd ?_
  have hk := k H locs ls hB hS hv
  unfold vJ orJ at hk
  rw [j_of] at hk
  exact hk
theorem g_lshl (C : CX y μ x) {a b : Int} (hd : decode μ.1 pc = .ok (.lshl, 1)) (hn : pc + 1 = n) (k : GW y μ ρ x S n lv (vJ (shlJ a b) :: st)) : GW y μ ρ x S pc lv (vI b :: vJ a :: st) := by
  intro H locs ls hB hS hv
  subst hn
  have hk := k H locs ls hB hS hv
  unfold vJ shlJ at hk
  rw [j_of] at hk
  exact lv_lshl C.1 C.2.1 hd rfl hk
theorem g_i2l (C : CX y μ x) {a : Int} (ha : r32 a) (hd : decode μ.1 pc = .ok (.i2l, 1)) (hn : pc + 1 = n) (k : GW y μ ρ x S n lv (vJ a :: st)) : GW y μ ρ x S pc lv (vI a :: st) := by
  intro H locs ls hB hS hv
  subst hn
  exact lv_i2l C.1 C.2.1 hd (i2j ha) (k H locs ls hB hS hv)
theorem g_lcmp (C : CX y μ x) {a b : Int} (ha : r64 a) (hb : r64 b) (hd : decode μ.1 pc = .ok (.lcmp, 1)) (hn : pc + 1 = n) (k : GW y μ ρ x S n lv (vI (cmpJ a b) :: st)) : GW y μ ρ x S pc lv (vJ b :: vJ a :: st) := by
  intro H locs ls hB hS hv
  subst hn
  refine W.lcmp C.1 C.2.1 hd ?_
  have hk := k H locs ls hB hS hv
  have e : lg_cmp (Int64.ofInt a) (Int64.ofInt b) = Int32.ofInt (cmpJ a b) := by
    unfold lg_cmp cmpJ
    by_cases h1 : a < b
    · have h4 : ¬ b < a := by omega
      have h5 : ¬ a = b := by omega
      simp [h1, h4, h5, j_lt hb ha, j_eq ha hb]
    · by_cases h2 : a = b
      · subst h2
        simp [(j_lt ha ha)]
      · have h3 : b < a := by omega
        simp [h1, h2, j_lt ha hb, j_eq ha hb, j_lt hb ha, h3]
  rw [e]
  exact hk
theorem g_dup (C : CX y μ x) {v : Value} (hc : v.category = 1) (hd : decode μ.1 pc = .ok (.dup, 1)) (hn : pc + 1 = n) (k : GW y μ ρ x S n lv (v :: v :: st)) : GW y μ ρ x S pc lv (v :: st) := by
  intro H locs ls hB hS hv
  subst hn
  exact lv_dup C.1 C.2.1 hd hc (k H locs ls hB hS hv)
theorem g_pop (C : CX y μ x) {v : Value} (hc : v.category = 1) (hd : decode μ.1 pc = .ok (.pop, 1)) (hn : pc + 1 = n) (k : GW y μ ρ x S n lv st) : GW y μ ρ x S pc lv (v :: st) := by
  intro H locs ls hB hS hv
  subst hn
  exact lv_pop C.1 C.2.1 hd hc (k H locs ls hB hS hv)
theorem g_dup2 (C : CX y μ x) {v w : Value} (hc : v.category = 1) (hw : w.category = 1) (hd : decode μ.1 pc = .ok (.dup2, 1)) (hn : pc + 1 = n) (k : GW y μ ρ x S n lv (v :: w :: v :: w :: st)) : GW y μ ρ x S pc lv (v :: w :: st) := by
  intro H locs ls hB hS hv
  subst hn
  exact lv_dup2_11 C.1 C.2.1 hd hc hw (k H locs ls hB hS hv)
theorem g_goto (C : CX y μ x) {off : Int} (tgt : Nat) (hd : decode μ.1 pc = .ok (.goto off, 3)) (ht : (pc : Int) + off = (tgt : Int)) (k : GW y μ ρ x S tgt lv st) : GW y μ ρ x S pc lv st := by
  intro H locs ls hB hS hv
  exact lv_goto C.1 C.2.1 hd ht (k H locs ls hB hS hv)
end GR
