/-! constructors: a world that grows at its end -/
theorem cA_one {U : State} {c1 c2 : ClassId} {ty : FieldType} (h1 : va_RA U c1 ty) (h2 : va_RA U c2 ty) : c1 = c2 := by
  cases ty <;> first
    | exact Option.some.inj (Eq.trans (Eq.symm h1) h2)
    | (obtain ⟨_, _, _, _, _, e1⟩ := h1
       obtain ⟨_, _, _, _, _, e2⟩ := h2
       exact Option.some.inj (e1.symm.trans e2))
def num : Nat → Int
  | 0 => 4
  | 1 => 2
  | 2 => 1
  | 3 => 100
  | 4 => 50
  | _ => 1
/-- the table that Settings() copies -/
def FT (t : T5) (A : Nat → Prop) (U : State) (H : Heap) : Prop := ∃ (a : Nat) (cell : Cell), va_Z RX7 "FIRST" "[I" (.ref a) A U H ∧ H[a]? = some cell ∧ cell.cls = t.1 ∧ cell.vm.isStatics = false ∧ cell.vm ≠ .unknown ∧ cell.slots = (arrV t.1 6 (fun j => vI (num j))).slots ∧ ¬ A a
theorem FT.go {t : T5} {A B : Nat → Prop} {s U : State} {H H1 : Heap} (hvm : s.vm.Alike U.vm) (h : FT t A s H) (hq : ∀ a : Nat, a < H.size → ¬ A a → H1[a]? = H[a]?) (hAB : ∀ q, B q → A q) : FT t B U H1 := by
  obtain ⟨a, cell, h1, h2, h3, h4, h5, h6, h7⟩ := h
  exact ⟨a, cell, (va_Z.moved hvm (h1.kept hq)).narrow hAB, by rw [hq a (Array.getElem?_eq_some_iff.mp h2).1 h7]; exact h2, h3, h4, h5, h6, fun z => h7 (hAB a z)⟩
def XS (t : T5) (A : Nat → Prop) (U : State) (H : Heap) : Prop := FT t A U H ∧ va_Nw (.castable "[I" "java/lang/Cloneable") U ∧ va_AO RX3 U ∧ va_AO RX1 U
theorem XS.go {t : T5} {A B : Nat → Prop} {s U : State} {H H1 : Heap} (hW : s.WarmedH U.vm) (h : XS t A s H) (hq : ∀ a : Nat, a < H.size → ¬ A a → H1[a]? = H[a]?) (hAB : ∀ q, B q → A q) : XS t B U H1 :=
  ⟨h.1.go hW.alike hq hAB, va_Nw.warmC hW h.2.1, va_AO.moved hW.alike h.2.2.1, va_AO.moved hW.alike h.2.2.2⟩
def PK (D : va_G) (t : T5) (ws : va_W) (sz : Nat) (As : List Value) : Array Value → State → Prop := va_Pc As (fun U => U.heap.size = sz ∧ va_P D vwCl ws U.heap ∧ va_D (fun _ => True) ws ∧ va_K D vwCl (tyl t) U ∧ XS t (va_A ws sz) U U.heap)
def QK {V : Type} (D : va_G) (A : Nat → Prop) (ok : V → Prop) (N : V → va_W) (ws : va_W) : Array Value → State → Outcome → State → Prop := fun _ st oc u => oc = .returned none ∧ (∃ v : V, ok v ∧ va_P D vwCl (ws ++ N v) u.heap ∧ va_D A (ws ++ N v)) ∧ va_F A st u
/-- the contract of a constructor: behind any world ws its own cell comes last; what comes back stands at the same place, the new cells behind it -/
def MK {V : Type} (l : Launch) (D : va_G) (t : T5) (nm : MethodName) (wd : List Cond) (rm : Room) (As : List Value) (L0 : va_W) (ok : V → Prop) (N : V → va_W) (mc ms : Nat) : Prop :=
  ∀ (ws : va_W) (sz : Nat), Met l nm wd rm (PK D t (ws ++ L0) sz As) (QK D (va_A (ws ++ L0) sz) ok N ws) mc ms (va_A (ws ++ L0) sz)
theorem PK_blind {D : va_G} {t : T5} {ws : va_W} {sz : Nat} {As : List Value} : FrameBlind (PK D t ws sz As) := fun a U g mk q => by
  obtain ⟨q0, q1, q2, q3, q4, q5⟩ := q
  exact ⟨q0, q1, q2, q3, va_K.moved (u := U) (U := U.calling g mk a) (Vm.Alike.refl U.vm) q4, q5.1.go (s := U) (U := U.calling g mk a) (Vm.Alike.refl U.vm) (fun _ _ _ => rfl) (fun _ z => z), va_Nw.same rfl rfl q5.2.1, va_AO.moved (u := U) (U := U.calling g mk a) (Vm.Alike.refl U.vm) q5.2.2.1, va_AO.moved (u := U) (U := U.calling g mk a) (Vm.Alike.refl U.vm) q5.2.2.2⟩
/-- what a constructor's walk knows -/
def CK (D : va_G) (t : T5) (A : Nat → Prop) (μ : Mi) (x : Mx) : Prop := x.1.tables.exec = Jvm.exec ∧ x.2.2.2.2.2.2.2.2.code = μ.1 ∧ x.2.2.2.2.2.2.2.2.maxLocals = μ.2.1 ∧ x.2.2.2.1.vm.findClass μ.2.2.1 = some x.2.2.2.2.1.cls ∧ (∀ w ∈ μ.2.2.2.1, w.before x.2.2.2.2.2.1 x.2.2.2.1 = true) ∧ va_K D vwCl (tyl t) x.2.2.2.1 ∧ XS t A x.2.2.2.1 x.2.2.2.1.heap ∧ x.2.2.2.2.2.2.2.1.locks = false ∧ x.2.2.2.2.2.2.2.1.sig.returnType = none ∧ x.2.2.2.2.2.2.2.1.name = "<init>" ∧ ∀ q : Nat, x.2.2.2.1.heap.size ≤ q → A q
/-- the walk's judgement: the fixed world ws, what stands behind it -/
def KW {V : Type} (D : va_G) (t : T5) (A : Nat → Prop) (ws : va_W) (ok : V → Prop) (N : V → va_W) (mm : Nat × Nat) (μ : Mi) (x : Mx) (L : va_W) (cells slots : Nat) (pc : Nat) (lv : List (Nat × Value)) (st : List Value) : Prop :=
  ∀ (H : Heap) (locs : List Loc) (ls : Array Slot), va_P D vwCl (ws ++ L) H → va_D A (ws ++ L) → va_S A x.2.2.2.1.heap H locs → lv_has ls μ.2.1 lv →
    W x.1 x.2.1 x.2.2.1 μ.2.2.2.2.1 x.2.2.2.1 x.2.2.2.2.1 x.2.2.2.2.2.1 x.2.2.2.2.2.2.1 x.2.2.2.2.2.2.2.1 x.2.2.2.2.2.2.2.2 H locs cells slots
      (MQ x.2.2.2.2.2.2.1 (QK D A ok N ws) x.2.2.2.2.2.1 x.2.2.2.1 mm.1 mm.2 A) (F0 x.2.2.2.2.1 pc ls st)
theorem MK_of {V : Type} {l : Launch} {D : va_G} {t : T5} {nm : MethodName} {cc : ByteArray} {nL : Nat} {wd wd' : List Cond} {rm : Room} {As : List Value} {L0 : va_W} {ok : V → Prop} {N : V → va_W} {mc ms : Nat} {lv : List (Nat × Value)} (hy : plainFor nm = true) (hin : nm.name = "<init>") (hw : wd = Cond.code nm cc nL none :: wd') (hl : (lg_sl As).length ≤ nL) (hlv : lv_args 0 As = lv)
    (body : ∀ (A : Nat → Prop) (ws : va_W) (x : Mx), CK D t A (cc, nL, nm.cls, wd, rm, none) x → x.2.1 = l → KW D t A ws ok N (mc, ms) (cc, nL, nm.cls, wd, rm, none) x L0 0 0 0 lv []) : MK l D t nm wd rm As L0 ok N mc ms := by
  intro ws sz
  subst hlv
  refine Met_ofF (cc := cc) (maxL := nL) (ret := none) hy hw ?_
  intro p e s m args below meth c s₁ B hml hv
  obtain ⟨rfl, hsz, hP, hD, hK, hX⟩ := hv
  have hts := atoms_spec (ws := wd) B.pre
  have hown : s.vm.findClass nm.cls = some m.cls := findClass_of_methodNamed B.named
  have hnm : meth.name = "<init>" := (name_of_methodNamed B.named B.method).1.trans hin
  subst hsz
  have hb := body (va_A (ws ++ L0) s.heap.size) ws (p, l, e, s, m, As.toArray, below, meth, c) ⟨B.exec, B.bytes, hml, hown, hts, hK, hX, B.notSynchronized, B.returns, hnm, fun q h => Or.inr h⟩ rfl
  rw [lg_entry_eq]
  exact hb s.heap [] _ hP hD.self va_S.rf (lv_entry As hl)
theorem wsl {ws L : va_W} {j : Nat} {q : Nat × va_E} (h : L[j]? = some q) : (ws ++ L)[ws.length + j]? = some q := by
  rw [List.getElem?_append_right (by omega), show ws.length + j - ws.length = j by omega]; exact h
theorem wss {ws L : va_W} {j : Nat} {q : Nat × va_E} : (ws ++ L).set (ws.length + j) q = ws ++ L.set j q := by
  rw [List.set_append_right _ _ (by omega), show ws.length + j - ws.length = j by omega]
section KR
variable {V : Type} {D : va_G} {t : T5} {A : Nat → Prop} {ws : va_W} {ok : V → Prop} {N : V → va_W} {mm : Nat × Nat} {μ : Mi} {x : Mx} {L L' : va_W} {cells slots : Nat} {pc n : Nat} {lv lv' : List (Nat × Value)} {st : List Value}
theorem k_lv (ks : List Nat) (hl : lv_pick lv ks = lv') (k : KW D t A ws ok N mm μ x L cells slots pc lv' st) : KW D t A ws ok N mm μ x L cells slots pc lv st := fun H locs ls hP hD hS hv => k H locs ls hP hD hS (lv_sub hv ks hl)
theorem k_wide {c2 s2 : Nat} (h1 : cells ≤ c2) (h2 : slots ≤ s2) (k : KW D t A ws ok N mm μ x L c2 s2 pc lv st) : KW D t A ws ok N mm μ x L cells slots pc lv st := fun H locs ls hP hD hS hv => W.widen h1 h2 (k H locs ls hP hD hS hv)
theorem k_aload_n (C : CK D t A μ x) (j : Nat) {i : Fin 4} {a : Nat} (hd : decode μ.1 pc = .ok (.aload_n i, 1)) (hj : lv[j]? = some ((i : Nat), .ref a)) (hn : pc + 1 = n) (k : KW D t A ws ok N mm μ x L cells slots n lv (.ref a :: st)) : KW D t A ws ok N mm μ x L cells slots pc lv st := by
  intro H locs ls hP hD hS hv
  subst hn
  exact lv_aload_n C.1 C.2.1 hd rfl (lv_at hv j hj) (k H locs ls hP hD hS hv)
theorem k_iload_n (C : CK D t A μ x) (j : Nat) {i : Fin 4} {a : Int} (hd : decode μ.1 pc = .ok (.iload_n i, 1)) (hj : lv[j]? = some ((i : Nat), vI a)) (hn : pc + 1 = n) (k : KW D t A ws ok N mm μ x L cells slots n lv (vI a :: st)) : KW D t A ws ok N mm μ x L cells slots pc lv st := by
  intro H locs ls hP hD hS hv
  subst hn
  exact lv_iload_n C.1 C.2.1 hd rfl (lv_at hv j hj) (k H locs ls hP hD hS hv)
theorem k_iconst (C : CK D t A μ x) {v : Int} (hd : decode μ.1 pc = .ok (.iconst v, 1)) (hn : pc + 1 = n) (k : KW D t A ws ok N mm μ x L cells slots n lv (vI v :: st)) : KW D t A ws ok N mm μ x L cells slots pc lv st := by
  intro H locs ls hP hD hS hv
  subst hn
  exact lv_iconst C.1 C.2.1 hd rfl (k H locs ls hP hD hS hv)
theorem k_bipush (C : CK D t A μ x) {v : Int} (hd : decode μ.1 pc = .ok (.bipush v, 2)) (hr : (Int8.ofInt v).toInt32 = Int32.ofInt v) (hn : pc + 2 = n) (k : KW D t A ws ok N mm μ x L cells slots n lv (vI v :: st)) : KW D t A ws ok N mm μ x L cells slots pc lv st := by
  intro H locs ls hP hD hS hv
  subst hn
  exact lv_bipush C.1 C.2.1 hd hr (k H locs ls hP hD hS hv)
theorem k_sipush (C : CK D t A μ x) {v : Int} (hd : decode μ.1 pc = .ok (.sipush v, 3)) (hr : (Int16.ofInt v).toInt32 = Int32.ofInt v) (hn : pc + 3 = n) (k : KW D t A ws ok N mm μ x L cells slots n lv (vI v :: st)) : KW D t A ws ok N mm μ x L cells slots pc lv st := by
  intro H locs ls hP hD hS hv
  subst hn
  exact lv_sipush C.1 C.2.1 hd hr (k H locs ls hP hD hS hv)
theorem k_dup (C : CK D t A μ x) {v : Value} (hc : v.category = 1) (hd : decode μ.1 pc = .ok (.dup, 1)) (hn : pc + 1 = n) (k : KW D t A ws ok N mm μ x L cells slots n lv (v :: v :: st)) : KW D t A ws ok N mm μ x L cells slots pc lv (v :: st) := by
  intro H locs ls hP hD hS hv
  subst hn
  exact lv_dup C.1 C.2.1 hd hc (k H locs ls hP hD hS hv)
theorem k_istore_n (C : CK D t A μ x) {i : Fin 4} {a : Int} (hd : decode μ.1 pc = .ok (.istore_n i, 1)) (hi : (i : Nat) < μ.2.1) (hl : ((i : Nat), vI a) :: lv.filter (fun q => !(q.1 == (i : Nat)) && !(q.1 + 1 == (i : Nat) && q.2.category == 2)) = lv') (hn : pc + 1 = n) (k : KW D t A ws ok N mm μ x L cells slots n lv' st) : KW D t A ws ok N mm μ x L cells slots pc lv (vI a :: st) := by
  intro H locs ls hP hD hS hv
  subst hn
  exact lv_istore_n C.1 C.2.1 hd rfl hv hi hl (fun ls2 hv2 => k H locs ls2 hP hD hS hv2)
theorem k_iinc (C : CK D t A μ x) (j : Nat) {i : Nat} {a b d : Int} (hd : decode μ.1 pc = .ok (.iinc i d, 3)) (hj : lv[j]? = some (i, vI a)) (hi : i < μ.2.1) (he : b = w32 (a + d)) (hl : (i, vI b) :: lv.filter (fun q => !(q.1 == i) && !(q.1 + 1 == i && q.2.category == 2)) = lv') (hn : pc + 3 = n) (k : KW D t A ws ok N mm μ x L cells slots n lv' st) : KW D t A ws ok N mm μ x L cells slots pc lv st := by
  intro H locs ls hP hD hS hv
  subst hn
  subst he
  exact lv_iinc C.1 C.2.1 hd hv hj (i_add a d) hi hl (fun ls2 hv2 => k H locs ls2 hP hD hS hv2)
theorem k_goto (C : CK D t A μ x) {off : Int} (tgt : Nat) (hd : decode μ.1 pc = .ok (.goto off, 3)) (ht : (pc : Int) + off = (tgt : Int)) (k : KW D t A ws ok N mm μ x L cells slots tgt lv st) : KW D t A ws ok N mm μ x L cells slots pc lv st := by
  intro H locs ls hP hD hS hv
  exact lv_goto C.1 C.2.1 hd ht (k H locs ls hP hD hS hv)
theorem k_icmp_ge (C : CK D t A μ x) {a b off : Int} (tgt : Nat) (ha : r32 a) (hb : r32 b) (hd : decode μ.1 pc = .ok (.if_icmp .ge off, 3)) (ht : (pc : Int) + off = (tgt : Int)) (hn : pc + 3 = n) (kt : b ≤ a → KW D t A ws ok N mm μ x L cells slots tgt lv st) (kf : ¬ b ≤ a → KW D t A ws ok N mm μ x L cells slots n lv st) : KW D t A ws ok N mm μ x L cells slots pc lv (vI b :: vI a :: st) := by
  intro H locs ls hP hD hS hv
  subst hn
  exact lv_icmp_ge C.1 C.2.1 hd ht (fun h => kt ((i_le hb ha).mp h) H locs ls hP hD hS hv) (fun h => kf (fun z => h ((i_le hb ha).mpr z)) H locs ls hP hD hS hv)
theorem k_obj (C : CK D t A μ x) {a : Nat} {idx : Nat} (h1 : Cond.methodLink μ.2.2.1 idx objectInit ∈ μ.2.2.2.1) (h2 : Cond.instanceMethod objectInit ∈ μ.2.2.2.1) (h3 : Cond.code objectInit ⟨#[0xb1]⟩ 1 none ∈ μ.2.2.2.1) (hR : 1 ≤ μ.2.2.2.2.1.frames ∧ (st.map fun v => v.category).sum + 12 ≤ μ.2.2.2.2.1.locals) (hd : decode μ.1 pc = .ok (.invokespecial idx, 3)) (hn : pc + 3 = n) (k : KW D t A ws ok N mm μ x L cells slots n lv st) : KW D t A ws ok N mm μ x L cells slots pc lv (.ref a :: st) := by
  intro H locs ls hP hD hS hv
  subst hn
  refine W.objInit C.1 C.2.1 C.2.2.2.1 (C.2.2.2.2.1 _ h1) (C.2.2.2.2.1 _ h2) (C.2.2.2.2.1 _ h3) rfl (by rw [C.2.2.1]; exact hv.1) rfl hd hR.1 (by show 2 * 0 + _ + 12 ≤ _; omega) ?_
  exact k H locs ls hP hD hS hv
theorem k_putF (C : CK D t A μ x) (j f : Nat) {a ci idx M : Nat} {fs : List Value} {v : Value} {Cn : String} {T : u_T} (hL : L[j]? = some (a, .inr (ci, fs))) (hcl : vwCl[ci]? = some (Cn, T, M)) (hfM : f < M) (hin : ∀ w ∈ u_ws Cn T M, w ∈ μ.2.2.2.1) {ty0 : Nat → FieldType} {ty : FieldType} (hty : ∀ k, k < M → parseFieldDescriptor (T k).2.2.1 = some (ty0 k)) (hnm : ∀ a, a < M → ∀ b, b < M → a ≠ b → (T a).2.1 ≠ (T b).2.1) (hlink : Cond.fieldLink μ.2.2.1 idx (T f).1 (T f).2.1 (T f).2.2.1 ∈ μ.2.2.2.1) (hfin : (T f).2.2.2 = true) (hdecl : (T f).1 = μ.2.2.1) (hdd : parseFieldDescriptor (T f).2.2.1 = some ty) (hna : narrow ty v = v) (hfit : fits ty v = true) (hlen : f < fs.length) (hd : decode μ.1 pc = .ok (.putfield idx, 3)) (hn : pc + 3 = n) (k : KW D t A ws ok N mm μ x (L.set j (a, .inr (ci, fs.set f v))) cells slots n lv st) : KW D t A ws ok N mm μ x L cells slots pc lv (v :: .ref a :: st) := by
  intro H locs ls hP hD hS hv
  subst hn
  refine va_putF C.1 C.2.1 C.2.2.2.2.1 hin ty0 hty hnm C.2.2.2.1 C.2.2.2.2.2.1 hP hD hS (ws.length + j) (wsl hL) hcl f hfM (C.2.2.2.2.1 _ hlink) (fun _ h => h) hfin C.2.2.2.2.2.2.2.2.2.1 hdecl hdd hna hfit hlen hd (fun H1 locs1 hP1 hD1 hS1 => ?_)
  rw [wss] at hP1 hD1
  exact k H1 locs1 ls hP1 hD1 hS1 hv
theorem k_getf (C : CK D t A μ x) (j f : Nat) {a ci idx M : Nat} {fs : List Value} {v : Value} {Cn : String} {T : u_T} (hL : L[j]? = some (a, .inr (ci, fs))) (hcl : vwCl[ci]? = some (Cn, T, M)) (hfM : f < M) (hin : ∀ w ∈ u_ws Cn T M, w ∈ μ.2.2.2.1) (hlink : Cond.fieldLink μ.2.2.1 idx (T f).1 (T f).2.1 (T f).2.2.1 ∈ μ.2.2.2.1) (hf : fs[f]? = some v) (hd : decode μ.1 pc = .ok (.getfield idx, 3)) (hn : pc + 3 = n) (k : KW D t A ws ok N mm μ x L cells slots n lv (v :: st)) : KW D t A ws ok N mm μ x L cells slots pc lv (.ref a :: st) := by
  intro H locs ls hP hD hS hv
  subst hn
  exact va_get C.1 C.2.1 C.2.2.2.2.1 hin C.2.2.2.1 C.2.2.2.2.2.1 hP (ws.length + j) (wsl hL) hcl f hfM (C.2.2.2.2.1 _ hlink) (fun _ h => h) hf hd (k H locs ls hP hD hS hv)
theorem k_new (C : CK D t A μ x) {ci idx M : Nat} {fs : List Value} {Cn : String} {T : u_T} {ty0 : Nat → FieldType} (hcl : vwCl[ci]? = some (Cn, T, M)) (hin : ∀ w ∈ u_ws Cn T M, w ∈ μ.2.2.2.1) (hty : ∀ k, k < M → parseFieldDescriptor (T k).2.2.1 = some (ty0 k)) (h1 : Cond.classLink μ.2.2.1 idx Cn ∈ μ.2.2.2.1) (h2 : Cond.instantiable Cn M ∈ μ.2.2.2.1) (h3 : Cond.initialized Cn ∈ μ.2.2.2.1) (hfs : ∀ j, j < M → defaultValue (ty0 j) = vp_V fs j) (hR : cells + 1 ≤ μ.2.2.2.2.1.cells ∧ slots + M ≤ μ.2.2.2.2.1.slots) (hd : decode μ.1 pc = .ok (.new idx, 3)) (hn : pc + 3 = n) (k : ∀ q : Nat, KW D t A ws ok N mm μ x (L ++ [(q, .inr (ci, fs))]) (cells + 1) (slots + M) n lv (.ref q :: st)) : KW D t A ws ok N mm μ x L cells slots pc lv st := by
  intro H locs ls hP hD hS hv
  subst hn
  refine va_new C.1 C.2.1 C.2.2.2.2.1 hin ty0 hty C.2.2.2.1 (C.2.2.2.2.1 _ h1) (C.2.2.2.2.1 _ h2) (C.2.2.2.2.1 _ h3) C.2.2.2.2.2.1 hP hD hS C.2.2.2.2.2.2.2.2.2.2 hcl hfs hR.1 hR.2 hd (fun q H1 hP1 hD1 hS1 => ?_)
  rw [List.append_assoc] at hP1 hD1
  exact k q H1 locs ls hP1 hD1 hS1 hv
theorem k_newa (C : CK D t A μ x) (j : Nat) {atype : ArrayType} {ty : FieldType} {cA : ClassId} {M : Nat} {v : Int} {a0 : vp_A} (hty : newarray.typeOf atype = ty) (hj : (tyl t)[j]? = some (cA, ty)) (harr : Cond.arrayClass (newarray.typeOf atype) ∈ μ.2.2.2.1) (ha : ∀ cA : ClassId, vp_cell cA a0 = arrV cA M (fun _ => defaultValue ty)) (hv0 : 0 ≤ v ∧ v ≤ 20000) (hM : v.toNat = M) (hb : M * componentBytes ty ≤ 536870912) (hR : cells + 1 ≤ μ.2.2.2.2.1.cells ∧ slots + M ≤ μ.2.2.2.2.1.slots) (hd : decode μ.1 pc = .ok (.newarray atype, 2)) (hn : pc + 2 = n) (k : ∀ q : Nat, KW D t A ws ok N mm μ x (L ++ [(q, .inl (cA, a0))]) (cells + 1) (slots + M) n lv (.ref q :: st)) : KW D t A ws ok N mm μ x L cells slots pc lv (vI v :: st) := by
  intro H locs ls hP hD hS hv
  subst hn
  have hr : r32 v := ⟨by omega, by omega⟩
  refine va_newa C.1 C.2.1 (C.2.2.2.2.1 _ harr) hty C.2.2.2.2.2.1 hP hD hS C.2.2.2.2.2.2.2.2.2.2 ha (fun h => absurd ((i_lt hr (by decide : r32 0)).mp h) (by omega)) (by rw [i_clamp hr hv0.1]; exact hM) hb hR.1 hR.2 hd (fun q cB H1 hK1 hP1 hD1 hS1 => ?_)
  have e1 := (hK1.2 (tyl t).length (cB, ty) (by rw [List.getElem?_append_right (Nat.le_refl _), Nat.sub_self]; rfl)).2
  have e2 := (C.2.2.2.2.2.1.2 j _ hj).2
  have e : cB = cA := cA_one e1 e2
  subst e
  rw [List.append_assoc] at hP1 hD1
  exact k q H1 locs ls hP1 hD1 hS1 hv
theorem k_newq (C : CK D t A μ x) (j : Nat) {Cn : String} {cA : ClassId} {idx M : Nat} {v : Int} (hover : va_AO Cn x.2.2.2.1) (hj : (tyl t)[j]? = some (cA, .object Cn)) (h1 : Cond.classLink μ.2.2.1 idx Cn ∈ μ.2.2.2.1) (hv0 : 0 ≤ v ∧ v ≤ 20000) (hM : v.toNat = M) (hR : cells + 1 ≤ μ.2.2.2.2.1.cells ∧ slots + M ≤ μ.2.2.2.2.1.slots) (hd : decode μ.1 pc = .ok (.anewarray idx, 3)) (hn : pc + 3 = n) (k : ∀ q : Nat, KW D t A ws ok N mm μ x (L ++ [(q, .inl (cA, M, .inr (.inr (.inr (.inr (fun _ => none))))))]) (cells + 1) (slots + M) n lv (.ref q :: st)) : KW D t A ws ok N mm μ x L cells slots pc lv (vI v :: st) := by
  intro H locs ls hP hD hS hv
  subst hn
  have hr : r32 v := ⟨by omega, by omega⟩
  refine va_newq C.1 C.2.1 C.2.2.2.1 (C.2.2.2.2.1 _ h1) hover C.2.2.2.2.2.1 hP hD hS C.2.2.2.2.2.2.2.2.2.2 (fun h => absurd ((i_lt hr (by decide : r32 0)).mp h) (by omega)) (by rw [i_clamp hr hv0.1]; exact hM) (by omega) hR.1 hR.2 hd (fun q cB H1 hK1 hP1 hD1 hS1 => ?_)
  have e1 := (hK1.2 (tyl t).length (cB, .object Cn) (by rw [List.getElem?_append_right (Nat.le_refl _), Nat.sub_self]; rfl)).2
  have e2 := (C.2.2.2.2.2.1.2 j _ hj).2
  have e : cB = cA := cA_one e1 e2
  subst e
  rw [List.append_assoc] at hP1 hD1
  exact k q H1 locs ls hP1 hD1 hS1 hv
theorem k_iast (C : CK D t A μ x) (j t0 : Nat) {a M : Nat} {cA : ClassId} {f f' : Nat → Int32} {i v : Int} (hL : L[j]? = some (a, .inl (cA, M, .inl f))) (hj : (tyl t)[t0]? = some (cA, .int)) (hi : 0 ≤ i ∧ i < M) (hM : M ≤ 20000) (he : upd f i.toNat (Int32.ofInt v) = f') (hd : decode μ.1 pc = .ok (.iastore, 1)) (hn : pc + 1 = n) (k : KW D t A ws ok N mm μ x (L.set j (a, .inl (cA, M, .inl f'))) cells slots n lv st) : KW D t A ws ok N mm μ x L cells slots pc lv (vI v :: vI i :: .ref a :: st) := by
  intro H locs ls hP hD hS hv
  subst hn
  subst he
  have hr : r32 i := ⟨by omega, by omega⟩
  refine va_iast C.1 C.2.1 C.2.2.2.2.2.1 hP hD hS (ws.length + j) t0 (wsl hL) hj (i_in hi.1 hi.2 hr) hd (fun H1 locs1 hP1 hD1 hS1 => ?_)
  rw [wss, i_clamp hr hi.1] at hP1 hD1
  exact k H1 locs1 ls hP1 hD1 hS1 hv
theorem k_aast (C : CK D t A μ x) (j t0 jk ci : Nat) {a M q : Nat} {cA : ClassId} {r : vw_C} {vs : List Value} {f f' : Nat → Option Nat} {i : Int} (hL : L[j]? = some (a, .inl (cA, M, .inr (.inr (.inr (.inr f)))))) (hj : (tyl t)[t0]? = some (cA, .object r.1)) (hq : L[jk]? = some (q, .inr (ci, vs))) (hc : vwCl[ci]? = some r) (hi : 0 ≤ i ∧ i < M) (hM : M ≤ 20000) (he : va_up f i.toNat (some q) = f') (hd : decode μ.1 pc = .ok (.aastore, 1)) (hn : pc + 1 = n) (k : KW D t A ws ok N mm μ x (L.set j (a, .inl (cA, M, .inr (.inr (.inr (.inr f')))))) cells slots n lv st) : KW D t A ws ok N mm μ x L cells slots pc lv (.ref q :: vI i :: .ref a :: st) := by
  intro H locs ls hP hD hS hv
  subst hn
  subst he
  have hr : r32 i := ⟨by omega, by omega⟩
  refine va_astq C.1 C.2.1 C.2.2.2.2.2.1 hP hD hS (ws.length + j) t0 (ws.length + jk) ci (wsl hL) hj (wsl hq) hc (i_in hi.1 hi.2 hr) hd (fun H1 locs1 hP1 hD1 hS1 => ?_)
  rw [wss, i_clamp hr hi.1] at hP1 hD1
  exact k H1 locs1 ls hP1 hD1 hS1 hv
/-- a constructor called: its cell is the last of what stands -/
theorem k_call (C : CK D t A μ x) (np : Nat) {V1 : Type} {ok1 : V1 → Prop} {N1 : V1 → va_W} {nm : MethodName} {wd wd' : List Cond} {rm : Room} {As rest : List Value} {q idx maxL mc ms : Nat} {e : va_E} {bytes : ByteArray} {L1 : va_W} (hL : L = L1 ++ [(q, e)]) (hM : MK x.2.1 D t nm wd rm (.ref q :: As) [(q, e)] ok1 N1 mc ms) (hG : GoodIn μ.2.2.2.1 wd) (hw : wd = Cond.code nm bytes maxL none :: wd') (hrc : rm.cells = mc ∧ rm.slots = ms) (h1 : Cond.initialized nm.cls ∈ μ.2.2.2.1) (h2 : Cond.methodLink μ.2.2.1 idx nm ∈ μ.2.2.2.1) (h3 : Cond.instanceMethod nm ∈ μ.2.2.2.1) (hnm : nm.name = "<init>") (hdd : nm.cls ≠ "java/lang/invoke/MethodHandle" ∧ nm.cls ≠ "java/lang/invoke/VarHandle" ∧ (parseMethodDescriptor nm.desc).map (fun d => d.parameters.length) = some np) (hR : rm.frames + 1 ≤ μ.2.2.2.2.1.frames ∧ 8 + (maxL + 11) + rm.locals ≤ μ.2.2.2.2.1.locals) (hst : st = As.reverse ++ .ref q :: rest) (hnp : As.length = np) (hcat : (rest.map fun v => v.category).sum ≤ 8) (hf : cells + mc ≤ μ.2.2.2.2.1.cells ∧ slots + ms ≤ μ.2.2.2.2.1.slots) (hd : decode μ.1 pc = .ok (.invokespecial idx, 3)) (hn : pc + 3 = n)
    (k : ∀ v : V1, ok1 v → KW D t A ws ok N mm μ x (L1 ++ N1 v) (cells + mc) (slots + ms) n lv rest) : KW D t A ws ok N mm μ x L cells slots pc lv st := by
  intro H locs ls hP hD hS hv
  subst hn
  subst hst
  subst hL
  rw [← List.append_assoc] at hP hD
  have hAA : ∀ z, va_A ((ws ++ L1) ++ [(q, e)]) H.size z → A z := fun z h => by
    rcases h with ⟨k, e9, h⟩ | h
    · exact hD.2 k _ h
    · exact C.2.2.2.2.2.2.2.2.2.2 z (Nat.le_trans hS.1 h)
  have hr := va_runI (locs := locs) (cells := cells) (slots := slots) (e := x.2.2.1) (below := x.2.2.2.2.2.2.1) (meth := x.2.2.2.2.2.2.2.1) (H := H) (g := F0 x.2.2.2.2.1 pc ls (As.reverse ++ .ref q :: rest)) (As := As) (rest := rest) ⟨C.1, C.2.1, C.2.2.1, C.2.2.2.1, C.2.2.2.2.1⟩ (hM (ws ++ L1) H.size) (cwI np C.2.2.2.2.1 hG hw hrc.1 hrc.2 (C.2.2.2.2.1 _ h1) (C.2.2.2.2.1 _ h2) (C.2.2.2.2.1 _ h3) hnm hdd hR) ⟨PK_blind, fun U hU hW => ⟨rfl, by rw [hU], by rw [hU]; exact hP, hD.weaken (fun _ _ _ _ => trivial), va_K.moved hW.alike C.2.2.2.2.2.1, by rw [hU]; exact C.2.2.2.2.2.2.1.go hW hS.2.1 hAA⟩⟩ rfl hnp hv.1 rfl (lv_room hcat) hd hf
  intro T hT X
  obtain ⟨v, st₀, u, T', L9, h0, X', hL9, e1, e2, ⟨hv1, ⟨w, ow, hP1, hD1⟩, hz, hk⟩, st9⟩ := hr T hT X
  cases hv1
  rw [h0] at hz hk
  have hD2 := hD1.weaken (fun _ q9 _ z => hAA q9.1 z)
  rw [List.append_assoc] at hP1 hD2
  obtain ⟨t2, a1, b1⟩ := k w ow T'.heap (locs ++ L9) ls (by rw [e1]; exact hP1) hD2
    ⟨Nat.le_trans hS.1 (by rw [e1]; exact hz), fun z h1 h2 => by rw [e1, hk z (Nat.lt_of_lt_of_le h1 hS.1) (fun y => h2 (hAA z y))]; exact hS.2.1 z h1 h2, fun z hz9 => by
      rcases List.mem_append.mp hz9 with h | h
      · exact hS.2.2 z h
      · exact hAA _ (hL9 z h)⟩ hv T' rfl X'
  exact ⟨t2, st9 t2 a1, b1⟩
theorem k_ret (C : CK D t A μ x) (v : V) (ov : ok v) (hL : L = N v) (hc : cells ≤ mm.1 ∧ slots ≤ mm.2) (hd : decode μ.1 pc = .ok (.return_, 1)) : KW D t A ws ok N mm μ x L cells slots pc lv [] := by
  intro H locs ls hP hD hS hv
  subst hL
  refine W.widen hc.1 hc.2 ?_
  exact W.vret C.1 C.2.1 C.2.2.2.2.2.2.2.2.1 (fun u hu _ => ⟨rfl, ⟨v, ov, by rw [hu]; exact hP, hD⟩, hS.F hu⟩) hS.2.2 hd C.2.2.2.2.2.2.2.1
end KR
