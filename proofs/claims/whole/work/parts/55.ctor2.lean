/-! Settings, Pool, LinePool: their constructors -/
def fill (i : Nat) : Nat → Int32 := fun j => if j < i then Int32.ofInt 10 else 0
theorem fill_s (i : Nat) : upd (fill i) (i : Int).toNat (Int32.ofInt 10) = fill (i + 1) := by
  funext j
  unfold upd fill
  rw [Int.toNat_natCast]
  by_cases h : j = i
  · rw [if_pos h, if_pos (by omega)]
  · rw [if_neg h]
    by_cases h2 : j < i
    · rw [if_pos h2, if_pos (by omega)]
    · rw [if_neg h2, if_neg (by omega)]
abbrev anum : vp_A := (6, .inl (fun j => Int32.ofInt (num j)))
abbrev rm_X7_init : Room := ({ frames := 1, cells := 2, slots := 18, locals := 20 } : Room)
abbrev mi_X7_init : Mi := (cX7_init, 2, RX7, wsX7_init, rm_X7_init, none)
set_option maxRecDepth 20000 in
theorem in_X7_init_X7 : ∀ w ∈ u_ws RX7 TX7 2, w ∈ wsX7_init := by decide +kernel
section SEV
variable {D : va_G} {t : T5} {A : Nat → Prop} {ws : va_W} {x : Mx} {L : va_W} {cells slots : Nat} {lv : List (Nat × Value)} {st : List Value} {V : Type} {ok : V → Prop} {N : V → va_W} {mm : Nat × Nat}
set_option maxRecDepth 20000 in
set_option maxHeartbeats 4000000 in
theorem k_first (C : CK D t A mi_X7_init x) (hst : (st.map fun v => v.category).sum + 14 ≤ 20) (hR : cells + 1 ≤ 2 ∧ slots + 6 ≤ 18) (k : ∀ q : Nat, KW D t A ws ok N mm mi_X7_init x (L ++ [(q, .inl (t.1, anum))]) (cells + 1) (slots + 6) 14 lv (.ref q :: st)) : KW D t A ws ok N mm mi_X7_init x L cells slots 5 lv st := by
  intro H locs ls hP hD hS hv
  obtain ⟨⟨a, cell, hZ, hcell, hcls, hstat, hunk, hsl, hnA⟩, hcast, _, _⟩ := C.2.2.2.2.2.2.1
  have hts := C.2.2.2.2.1
  have hK := C.2.2.2.2.2.1
  refine va_gets C.1 C.2.1 hZ hS C.2.2.2.1 (hts (.fieldLink RX7 9 "LinePool$Settings" "FIRST" "[I") (by decide +kernel)) (fun _ h => h) dX7_init_5 ?_
  have hnm : x.2.2.2.1.vm.findClass "[I" = some t.1 := va_nm_int (hK.2 0 _ rfl).2
  obtain ⟨c0, t0', f1, f2, f3⟩ := Cond.castable_spec (va_Nw.use (A := x.2.2.2.2.2.1) rfl hcast)
  cases hnm.symm.trans f1
  have hcellE : ({ cls := cell.cls, slots := cell.slots } : Cell) = vp_cell t.1 anum := by rw [hcls, hsl]; rfl
  have hsz : cell.slots.size = 6 := by rw [hsl]; exact arrV_size _ _ _
  intro T hT X
  have hcellT : T.heap[a]? = some cell := by rw [hT, hS.2.1 a (Array.getElem?_eq_some_iff.mp hcell).1 hnA]; exact hcell
  obtain ⟨-, kA, hkA, comp, hkind⟩ := State.isArrayOf_alike X.warmed.alike ((hK.2 0 _ rfl).1 0 (fun _ => .null))
  obtain ⟨-, kS, hkS, compS, hkindS⟩ := (hK.2 0 _ rfl).1 0 (fun _ => .null)
  obtain ⟨vm', X', st9⟩ := X.cloneArray C.1 C.2.2.2.1 (hts (.methodLink RX7 15 ⟨"[I", "clone", "()Ljava/lang/Object;"⟩) (by decide +kernel)) (hts (.sameMethod "[I" "java/lang/Object" "clone" "()Ljava/lang/Object;") (by decide +kernel)) (hts (.native ⟨"java/lang/Object", "clone", "()Ljava/lang/Object;"⟩) (by decide +kernel)) (hts (.instanceMethod ⟨"java/lang/Object", "clone", "()Ljava/lang/Object;"⟩) (by decide +kernel)) (hts (.selects "[I" ⟨"[I", "clone", "()Ljava/lang/Object;"⟩ ⟨"java/lang/Object", "clone", "()Ljava/lang/Object;"⟩) (by decide +kernel)) (a := a) (cell := cell) hcellT (fun k h => by rw [h] at hstat; cases hstat) hunk (by rw [hcls]; exact hnm) f2 (by rw [hcls]; exact f3)
    (fun i v hv9 => by
      rw [hcls]
      have hk' : T.vm.classes[t.1]? = some kA := hkA
      have hft : fits .int v = true := va_fit (cA := t.1) (n := 6) (F := fun j => vI (num j)) (ty := .int) (fun _ _ => rfl) i v (by rw [← hsl]; exact hv9)
      simpa [State.fitsSlot, State.slotType?, hk', hkind] using hft)
    (g := F0 x.2.2.2.2.1 8 ls (.ref a :: st)) rfl (by rw [C.2.2.1]; exact hv.1) rfl (by rw [C.2.1]; exact dX7_init_8) (Nat.le_refl 1) (by show 2 * 0 + _ + 14 ≤ 20; omega) hR.1 (by rw [hsz]; exact hR.2) (hloader := by rw [hcls]; exact Vm.clonesLoader_of_array hkS hkindS)
  rw [hcellE, hsz] at X'
  generalize hH1 : H.push (vp_cell t.1 anum) = H1
  have z1 : H1.size = H.size + 1 := by rw [← hH1, Array.size_push]
  have e1 : H1[H.size]? = some (vp_cell t.1 anum) := by rw [← hH1, Array.getElem?_push_size]
  have o1 : ∀ q : Nat, q < H.size → H1[q]? = H[q]? := fun q hq => by rw [← hH1, Array.getElem?_push, if_neg (Nat.ne_of_lt hq)]
  have hk : ∀ (k : Nat) (y : Nat × va_E), (ws ++ L)[k]? = some y → H1[y.1]? = H[y.1]? := fun k y hy => o1 y.1 ((hP k y hy).lt)
  have hP1 : va_P D vwCl ((ws ++ L) ++ [(H.size, .inl (t.1, anum))]) H1 := (hP.kept hk).app (fun k y hy => by
      have hz : k < 1 := (List.getElem?_eq_some_iff.mp hy).1
      rw [show k = 0 by omega] at hy
      cases hy
      exact e1)
  have hD1 : va_D A ((ws ++ L) ++ [(H.size, .inl (t.1, anum))]) := hD.push hP rfl (C.2.2.2.2.2.2.2.2.2.2 _ hS.1)
  have hS1 : va_S A x.2.2.2.1.heap H1 locs := ⟨Nat.le_trans hS.1 (by omega), fun y h1 h2 => (o1 y (Nat.lt_of_lt_of_le h1 hS.1)).trans (hS.2.1 y h1 h2), hS.2.2⟩
  have hk2 := va_castA (p := x.1) (l := x.2.1) (e := x.2.2.1) (R := rm_X7_init) (s := x.2.2.2.1) (m := x.2.2.2.2.1) (args := x.2.2.2.2.2.1) (below := x.2.2.2.2.2.2.1) (meth := x.2.2.2.2.2.2.2.1) (c := x.2.2.2.2.2.2.2.2) (H := H1) (locs := locs) (cells := cells + 1) (slots := slots + 6) (Q := MQ x.2.2.2.2.2.2.1 (QK D A ok N ws) x.2.2.2.2.2.1 x.2.2.2.1 mm.1 mm.2 A) (pc := 11) (ls := ls) (rest := st) (a := H.size) C.1 C.2.1 C.2.2.2.1 (hts (.classLink RX7 16 "[I") (by decide +kernel)) hP1 (ws ++ L).length (cA := t.1) (x := anum) (by rw [List.getElem?_append_right (Nat.le_refl _), Nat.sub_self]; rfl) hnm dX7_init_11
    (by
      rw [List.append_assoc] at hP1 hD1
      exact k H.size H1 locs ls hP1 hD1 hS1 hv)
  obtain ⟨u, b1, b2⟩ := hk2 ((T.setVm vm').pushCell (vp_cell t.1 anum)) (by rw [← hH1, ← hT]; rfl) X'
  refine ⟨u, st9 u ?_, b2⟩
  rw [hcellE, hT]
  exact b1
end SEV
abbrev N7 (t : T5) (h0 : Nat) (v : Nat × Nat) : va_W := [(h0, .inr (7, [.ref v.1, .ref v.2])), (v.1, .inl (t.1, anum)), (v.2, .inl (t.1, 12, .inl (fill 12)))]
section SEW
variable {D : va_G} {t : T5} {A : Nat → Prop} {ws : va_W} {x : Mx}
set_option maxRecDepth 20000 in
set_option maxHeartbeats 4000000 in
theorem X7_loop {h0 q1 q2 : Nat} (C : CK D t A mi_X7_init x) : ∀ (d i : Nat), i + d = 12 → KW D t A ws (fun _ => True) (N7 t h0) (2, 18) mi_X7_init x [(h0, .inr (7, [.ref q1, .ref q2])), (q1, .inl (t.1, anum)), (q2, .inl (t.1, 12, .inl (fill i)))] 2 18 27 [(1, vI (i : Int)), (0, .ref h0)] [] := by
  intro d
  induction d with
  | zero =>
    intro i hi
    have : i = 12 := by omega
    subst this
    refine k_iload_n (n := 28) C 0 dX7_init_27 rfl rfl ?_
    refine k_bipush (n := 30) C dX7_init_28 (by decide +kernel) rfl ?_
    refine k_icmp_ge (n := 33) C 47 (by decide) (by decide) dX7_init_30 (by decide) rfl (fun _ => ?_) (fun h => absurd (by decide) h)
    exact k_ret C (q1, q2) trivial rfl ⟨Nat.le_refl _, Nat.le_refl _⟩ dX7_init_47
  | succ d ih =>
    intro i hi
    refine k_iload_n (n := 28) C 0 dX7_init_27 rfl rfl ?_
    refine k_bipush (n := 30) C dX7_init_28 (by decide +kernel) rfl ?_
    refine k_icmp_ge (n := 33) C 47 ⟨by omega, by omega⟩ (by decide) dX7_init_30 (by decide) rfl (fun h => absurd h (by omega)) (fun _ => ?_)
    refine k_aload_n (n := 34) C 1 dX7_init_33 rfl rfl ?_
    refine k_getf (n := 37) C 0 1 rfl rfl (Nat.le_of_ble_eq_true rfl) in_X7_init_X7 (by decide +kernel) rfl dX7_init_34 rfl ?_
    refine k_iload_n (n := 38) C 0 dX7_init_37 rfl rfl ?_
    refine k_bipush (n := 40) C dX7_init_38 (by decide +kernel) rfl ?_
    refine k_iast (n := 41) C 2 0 rfl rfl ⟨by omega, by omega⟩ (by decide) (fill_s i) dX7_init_40 rfl ?_
    refine k_L (L' := [(h0, .inr (7, [.ref q1, .ref q2])), (q1, .inl (t.1, anum)), (q2, .inl (t.1, 12, .inl (fill (i + 1))))]) rfl ?_
    refine k_iinc (n := 44) C 0 (lv' := [(1, vI ((i + 1 : Nat) : Int)), (0, .ref h0)]) dX7_init_41 rfl (Nat.le_of_ble_eq_true rfl) (w32_s (by omega)).symm rfl rfl ?_
    refine k_goto C 27 dX7_init_44 (by decide) ?_
    exact ih (i + 1) (by omega)
end SEW
set_option maxRecDepth 20000 in
set_option maxHeartbeats 4000000 in
theorem c_X7_init {l : Launch} {D : va_G} {t : T5} {h0 : Nat} : MK l D t yX7_init wsX7_init rm_X7_init [.ref h0] [(h0, .inr (7, [.null, .null]))] (fun _ : Nat × Nat => True) (N7 t h0) 2 18 := by
  refine MK_of (cc := cX7_init) (nL := 2) (by decide +kernel) rfl rfl (Nat.le_of_ble_eq_true rfl) (lv := [(0, .ref h0)]) rfl (fun A ws x C _ => ?_)
  show KW D t A ws _ _ _ mi_X7_init x [(h0, .inr (7, [.null, .null]))] 0 0 0 _ []
  refine k_aload_n (n := 1) C 0 dX7_init_0 rfl rfl ?_
  refine k_obj (n := 4) C (by decide +kernel) (by decide +kernel) (by decide +kernel) ⟨Nat.le_of_ble_eq_true rfl, Nat.le_of_ble_eq_true rfl⟩ dX7_init_1 rfl ?_
  refine k_aload_n (n := 5) C 0 dX7_init_4 rfl rfl ?_
  refine k_first C (Nat.le_of_ble_eq_true rfl) ⟨Nat.le_of_ble_eq_true rfl, Nat.le_of_ble_eq_true rfl⟩ (fun q1 => ?_)
  refine k_wide (c2 := 1) (s2 := 6) (Nat.le_of_ble_eq_true rfl) (Nat.le_of_ble_eq_true rfl) ?_
  refine k_putF (n := 17) C 0 0 (ty0 := tyX7) (ty := .array .int) rfl rfl (Nat.le_of_ble_eq_true rfl) in_X7_init_X7 tyX7_ok nmX7 (by decide +kernel) rfl rfl (by decide +kernel) rfl rfl (Nat.le_of_ble_eq_true rfl) dX7_init_14 rfl ?_
  refine k_L (L' := [(h0, .inr (7, [.ref q1, .null])), (q1, .inl (t.1, anum))]) rfl ?_
  refine k_aload_n (n := 18) C 0 dX7_init_17 rfl rfl ?_
  refine k_bipush (n := 20) C dX7_init_18 (by decide +kernel) rfl ?_
  refine k_newa (n := 22) C 0 (ty := .int) (a0 := az 12) (M := 12) rfl rfl (by decide +kernel) (fun _ => rfl) (by decide) rfl (by decide) ⟨Nat.le_of_ble_eq_true rfl, Nat.le_of_ble_eq_true rfl⟩ dX7_init_20 rfl (fun q2 => ?_)
  refine k_wide (c2 := 2) (s2 := 18) (Nat.le_of_ble_eq_true rfl) (Nat.le_of_ble_eq_true rfl) ?_
  refine k_putF (n := 25) C 0 1 (ty0 := tyX7) (ty := .array .int) rfl rfl (Nat.le_of_ble_eq_true rfl) in_X7_init_X7 tyX7_ok nmX7 (by decide +kernel) rfl rfl (by decide +kernel) rfl rfl (Nat.le_of_ble_eq_true rfl) dX7_init_22 rfl ?_
  have e0 : (fun _ => 0 : Nat → Int32) = fill 0 := by funext j; unfold fill; rw [if_neg (by omega)]
  refine k_L (L' := [(h0, .inr (7, [.ref q1, .ref q2])), (q1, .inl (t.1, anum)), (q2, .inl (t.1, 12, .inl (fill 0)))]) (by rw [← e0]; rfl) ?_
  refine k_iconst (n := 26) C dX7_init_25 rfl ?_
  refine k_istore_n (n := 27) (lv' := [(1, vI 0), (0, .ref h0)]) C dX7_init_26 (Nat.le_of_ble_eq_true rfl) rfl rfl ?_
  exact X7_loop C 12 0 (by omega)
