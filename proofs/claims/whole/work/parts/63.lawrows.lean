/-! the law: its judgement and its rows -/
abbrev Kx : Type := va_G × T5 × (Nat → Nat) × (Nat → Nat) × Nat
def LA (x : Mx) : Nat → Prop := fun q => x.2.2.2.1.heap.size ≤ q
abbrev yX (κ : Kx) : Sys := sX κ.1 κ.2.1 κ.2.2.1
abbrev yM (κ : Kx) : Sys := sM κ.1 κ.2.1 κ.2.2.2.1
def LC (x : Mx) (κ : Kx) (b L : Nat) (xs : Nat → Int32) : Prop :=
  lw_At x.1 x.2.2.2.1 x.2.2.2.2.1 x.2.2.2.2.2.2.2.1 x.2.2.2.2.2.2.2.2 b L xs ∧ x.2.2.2.2.2.1 = #[.ref b] ∧ x.2.1.stackTraces = false ∧ L ≤ 3072 ∧ va_K κ.1 vwCl (tyl κ.2.1) x.2.2.2.1 ∧ NS true x.2.2.2.1 ∧ Zs (LA x) x.2.2.2.1 x.2.2.2.1.heap ∧ Zt (LA x) x.2.2.2.1 x.2.2.2.1.heap ∧ (∀ k j, k < 90 → j < 25 → κ.2.2.1 k ≠ κ.2.2.2.1 j) ∧ (∀ k, k < 90 → κ.2.2.1 k ≠ κ.2.2.2.2) ∧ (∀ j, j < 25 → κ.2.2.2.1 j ≠ κ.2.2.2.2)
def LB (x : Mx) (κ : Kx) (S T : St) (g : Int) (H : Heap) : Prop := Bw (yX κ) (LA x) S H ∧ Bw (yM κ) (LA x) T H ∧ va_P κ.1 vwCl [(κ.2.2.2.2, ocl κ.2.1 g)] H ∧ LA x κ.2.2.2.2
def LJ (x : Mx) (κ : Kx) (S T : St) (g : Int) (n : Nat) (pc : Nat) (lv : List (Nat × Value)) (st : List Value) : Prop :=
  ∀ (H : Heap) (locs : List Loc) (ls : Array Slot), LB x κ S T g H → va_S (LA x) x.2.2.2.1.heap H locs → lv_has ls 7 lv →
    W x.1 x.2.1 x.2.2.1 room_1 x.2.2.2.1 x.2.2.2.2.1 x.2.2.2.2.2.1 x.2.2.2.2.2.2.1 x.2.2.2.2.2.2.2.1 x.2.2.2.2.2.2.2.2 H locs (300 + n) (40000 + 6 * n) (lw_Z x.2.2.2.2.2.2.1 x.2.2.2.2.2.1 x.2.2.2.1) (F0 x.2.2.2.2.1 pc ls st)
theorem Bw_kept {y : Sys} {A : Nat → Prop} {T : St} {H H1 : Heap} (hB : Bw y A T H) (h : ∀ j, j < y.2.2.2.1 → H1[y.2.2.1 j]? = H[y.2.2.1 j]?) : Bw y A T H1 := ⟨hB.1.kept (fun k q hk => by
  obtain ⟨h1, rfl⟩ := wd_in hk
  exact h k h1), hB.2⟩
theorem Bw_lt {y : Sys} {A : Nat → Prop} {T : St} {H : Heap} (hB : Bw y A T H) {j : Nat} (h : j < y.2.2.2.1) : y.2.2.1 j < H.size := (hB.1 j _ (WD_at h)).lt
section LR
variable {x : Mx} {κ : Kx} {b L : Nat} {xs : Nat → Int32} {S T S1 T1 : St} {g : Int} {i j : Nat} {pc n : Nat} {lv lv' : List (Nat × Value)} {st rest As : List Value}
theorem LC.ts (C : LC x κ b L xs) : ∀ w ∈ wsL_law, w.before x.2.2.2.2.2.1 x.2.2.2.1 = true := fun w hw => by rw [C.2.1]; exact C.1.2.2.2.2.2.1 w (wsL_law_in w hw)
theorem LC.F (C : LC x κ b L xs) : CallFix x.1 x.2.2.2.2.1 x.2.2.2.2.2.2.2.2 cL_law 7 x.2.2.2.1 x.2.2.2.2.2.1 wsL_law RL := ⟨C.1.1, C.1.2.1, C.1.2.2.2.1, C.1.2.2.2.2.1, C.ts⟩
theorem l_lv (ks : List Nat) (hl : lv_pick lv ks = lv') (k : LJ x κ S T g i pc lv' st) : LJ x κ S T g i pc lv st := fun H locs ls hB hS hv => k H locs ls hB hS (lv_sub hv ks hl)
theorem l_next (k : LJ x κ S T g (i + 1) pc lv st) : LJ x κ S T g i pc lv st := fun H locs ls hB hS hv => W.widen (by omega) (by omega) (k H locs ls hB hS hv)
theorem l_aload_n (C : LC x κ b L xs) (q : Nat) {w : Fin 4} {a : Nat} (hd : decode cL_law pc = .ok (.aload_n w, 1)) (hj : lv[q]? = some ((w : Nat), .ref a)) (hn : pc + 1 = n) (k : LJ x κ S T g i n lv (.ref a :: st)) : LJ x κ S T g i pc lv st := by
  intro H locs ls hB hS hv
  subst hn
  exact lv_aload_n C.1.1 C.1.2.1 hd rfl (lv_at hv q hj) (k H locs ls hB hS hv)
theorem l_iload (C : LC x κ b L xs) (q : Nat) {w : Nat} {a : Int} (hd : decode cL_law pc = .ok (.iload w, 2)) (hj : lv[q]? = some (w, vI a)) (hn : pc + 2 = n) (k : LJ x κ S T g i n lv (vI a :: st)) : LJ x κ S T g i pc lv st := by
  intro H locs ls hB hS hv
  subst hn
  exact lv_iload C.1.1 C.1.2.1 hd (lv_at hv q hj) (k H locs ls hB hS hv)
theorem l_istore (C : LC x κ b L xs) {w : Nat} {a : Int} (hd : decode cL_law pc = .ok (.istore w, 2)) (hi : w < 7) (hl : (w, vI a) :: lv.filter (fun q => !(q.1 == w) && !(q.1 + 1 == w && q.2.category == 2)) = lv') (hn : pc + 2 = n) (k : LJ x κ S T g i n lv' st) : LJ x κ S T g i pc lv (vI a :: st) := by
  intro H locs ls hB hS hv
  subst hn
  exact lv_istore C.1.1 C.1.2.1 hd hv hi hl (fun ls2 hv2 => k H locs ls2 hB hS hv2)
theorem l_goto (C : LC x κ b L xs) {off : Int} (tgt : Nat) (hd : decode cL_law pc = .ok (.goto off, 3)) (ht : (pc : Int) + off = (tgt : Int)) (k : LJ x κ S T g i tgt lv st) : LJ x κ S T g i pc lv st := fun H locs ls hB hS hv => lv_goto C.1.1 C.1.2.1 hd ht (k H locs ls hB hS hv)
theorem l_same (C : LC x κ b L xs) {off a : Int} (tgt : Nat) (hd : decode cL_law pc = .ok (.if_icmp .eq off, 3)) (ht : (pc : Int) + off = (tgt : Int)) (k : LJ x κ S T g i tgt lv st) : LJ x κ S T g i pc lv (vI a :: vI a :: st) := fun H locs ls hB hS hv => lv_icmp_eq C.1.1 C.1.2.1 hd ht (fun _ => k H locs ls hB hS hv) (fun h => absurd rfl h)
theorem l_sameJ (C : LC x κ b L xs) {off a : Int} (tgt : Nat) (hd : decode cL_law pc = .ok (.lcmp, 1)) (hd2 : decode cL_law (pc + 1) = .ok (.ifCond .eq off, 3)) (ht : ((pc + 1 : Nat) : Int) + off = (tgt : Int)) (k : LJ x κ S T g i tgt lv st) : LJ x κ S T g i pc lv (vJ a :: vJ a :: st) := by
  intro H locs ls hB hS hv
  refine W.lcmp C.1.1 C.1.2.1 hd ?_
  have e : lg_cmp (Int64.ofInt a) (Int64.ofInt a) = 0 := by simp [lg_cmp]
  rw [e]
  exact lv_if_eq C.1.1 C.1.2.1 hd2 ht (fun _ => k H locs ls hB hS hv) (fun h => absurd rfl h)
/-- script[i + k] -/
theorem l_arg (C : LC x κ b L xs) (k : Nat) {v : Int} (hv0 : v = (k : Int)) (hk : k ≤ 5) (hj : 6 * j + 5 < L) (h0 : lv[0]? = some (0, .ref b)) (h4 : lv[4]? = some (4, vI (6 * (j : Int)))) (d0 : decode cL_law pc = .ok (.aload_n 0, 1)) (d1 : decode cL_law (pc + 1) = .ok (.iload 4, 2)) (d3 : decode cL_law (pc + 3) = .ok (.iconst v, 1)) (d4 : decode cL_law (pc + 4) = .ok (.iadd, 1)) (d5 : decode cL_law (pc + 5) = .ok (.iaload, 1)) (hn : pc + 6 = n) (kk : LJ x κ S T g i n lv (vI (xs (6 * j + k)).toInt :: st)) : LJ x κ S T g i pc lv st := by
  intro H locs ls hB hS hv
  subst hn
  subst hv0
  have hLx : L ≤ 3072 := C.2.2.2.1
  have hX : va_X b L xs x.2.2.2.1 x.2.2.2.1.heap := C.1.2.2.2.2.2.2.1
  have hbl : b < x.2.2.2.1.heap.size := C.1.2.2.2.2.2.2.2.1
  refine lv_aload_n C.1.1 C.1.2.1 d0 rfl (lv_at hv 0 h0) ?_
  refine lv_iload C.1.1 C.1.2.1 d1 (lv_at hv 4 h4) ?_
  refine lv_iconst C.1.1 C.1.2.1 d3 rfl ?_
  refine lv_iadd C.1.1 C.1.2.1 d4 ?_
  have e : Int32.ofInt (6 * (j : Int)) + Int32.ofInt (k : Int) = Int32.ofInt ((6 * j + k : Nat) : Int) := by
    rw [i_add, w32_id ⟨by omega, by omega⟩]
    congr 1
  rw [e]
  have hr : r32 ((6 * j + k : Nat) : Int) := ⟨by omega, by omega⟩
  refine va_sld (A := LA x) C.1.1 C.1.2.1 hX hbl (Nat.not_le.mpr hbl) hS (i_in (n := L) (by omega) (by omega) hr) d5 ?_
  rw [i_clamp hr (by omega), Int.toNat_natCast]
  have hk2 := kk H locs ls hB hS hv
  unfold vI at hk2
  rw [i_of] at hk2
  exact hk2
theorem l_callX (C : LC x κ b L xs) (np : Nat) {nm : MethodName} {wd wd' : List Cond} {rm : Room} {ac : Acc} {r1 : Int} {idx maxL : Nat} {bytes : ByteArray} {ret : Option FieldType} (hi : i ≤ 512) (hM : Mc x.2.1 (yX κ) nm wd rm (.ref (κ.2.2.1 0) :: As) ac S S1 r1) (hT : GoodIn wsL_law (wsV RL idx RX8 nm wd)) (hw : wd = Cond.code nm bytes maxL ret :: wd') (hrc : rm.cells = 0 ∧ rm.slots = 0) (hdd : nm.cls = RX8 ∧ nm.cls ≠ "java/lang/invoke/MethodHandle" ∧ nm.cls ≠ "java/lang/invoke/VarHandle" ∧ (parseMethodDescriptor nm.desc).map (fun d => d.parameters.length) = some np) (hR : rm.frames + 1 ≤ 10 ∧ 8 + (maxL + 11) + rm.locals ≤ 342)
    (hst : st = As.reverse ++ .ref (κ.2.2.1 0) :: rest) (hnp : As.length = np) (hcat : (rest.map fun v => v.category).sum ≤ 8) (hd : decode cL_law pc = .ok (.invokevirtual idx, 3)) (hn : pc + 3 = n) (kk : RS S1 → ac.2 r1 → LJ x κ S1 T g i n lv ((ac.1 r1).toList ++ rest)) : LJ x κ S T g i pc lv st := by
  intro H locs ls hB hS hv
  subst hn
  refine y_callV (y := yX κ) C.F (fun _ h => h) C.2.2.2.2.1 C.2.2.2.2.2.1 hB.1 hS 0 np (show 0 < 90 by decide) rfl rfl hM hT hw hrc hdd hR hst hnp hcat ⟨by show 300 + i ≤ 601024; omega, by show 40000 + 6 * i ≤ 7293034; omega⟩ hv.1 hd (fun H1 locs1 hRS hrg hB1 hS1 hz hk => kk hRS hrg H1 locs1 ls ⟨hB1, Bw_kept hB.2.1 (fun q hq => hk _ (Bw_lt hB.2.1 hq) ?_), hB.2.2.1.kept (fun k q hq => ?_), hB.2.2.2⟩ hS1 hv)
  · intro h
    have := Bw_lt hB.2.1 hq
    rcases h with ⟨k, hk9, e⟩ | h
    · exact C.2.2.2.2.2.2.2.2.1 k q hk9 hq e.symm
    · omega
  · have h1 := (List.getElem?_eq_some_iff.mp hq).1
    simp at h1
    subst h1
    cases hq
    have hlt := (hB.2.2.1 0 _ rfl).lt
    refine hk _ hlt (fun h => ?_)
    rcases h with ⟨k, hk9, e⟩ | h
    · exact C.2.2.2.2.2.2.2.2.2.1 k hk9 e.symm
    · exact absurd hlt (Nat.not_lt.mpr h)
theorem l_callXz (C : LC x κ b L xs) (np : Nat) {nm : MethodName} {wd wd' : List Cond} {rm : Room} {ac : Acc} {r1 : Int} {idx maxL : Nat} {bytes : ByteArray} {ret : Option FieldType} (hi : i ≤ 512) (hM : Mz x.2.1 (yX κ) nm wd rm (.ref (κ.2.2.1 0) :: As) ac S S1 r1) (hT : GoodIn wsL_law (wsV RL idx RX8 nm wd)) (hw : wd = Cond.code nm bytes maxL ret :: wd') (hrc : rm.cells = 0 ∧ rm.slots = 0) (hdd : nm.cls = RX8 ∧ nm.cls ≠ "java/lang/invoke/MethodHandle" ∧ nm.cls ≠ "java/lang/invoke/VarHandle" ∧ (parseMethodDescriptor nm.desc).map (fun d => d.parameters.length) = some np) (hR : rm.frames + 1 ≤ 10 ∧ 8 + (maxL + 11) + rm.locals ≤ 342)
    (hst : st = As.reverse ++ .ref (κ.2.2.1 0) :: rest) (hnp : As.length = np) (hcat : (rest.map fun v => v.category).sum ≤ 8) (hd : decode cL_law pc = .ok (.invokevirtual idx, 3)) (hn : pc + 3 = n) (kk : RS S1 → ac.2 r1 → LJ x κ S1 T g i n lv ((ac.1 r1).toList ++ rest)) : LJ x κ S T g i pc lv st := by
  intro H locs ls hB hS hv
  subst hn
  refine y_callVz (y := yX κ) C.F (fun _ h => h) C.2.2.2.2.2.2.1 C.2.2.2.2.1 C.2.2.2.2.2.1 hB.1 hS 0 np (show 0 < 90 by decide) rfl rfl hM hT hw hrc hdd hR hst hnp hcat ⟨by show 300 + i ≤ 601024; omega, by show 40000 + 6 * i ≤ 7293034; omega⟩ hv.1 hd (fun H1 locs1 hRS hrg hB1 hS1 hz hk => kk hRS hrg H1 locs1 ls ⟨hB1, Bw_kept hB.2.1 (fun q hq => hk _ (Bw_lt hB.2.1 hq) ?_), hB.2.2.1.kept (fun k q hq => ?_), hB.2.2.2⟩ hS1 hv)
  · intro h
    have := Bw_lt hB.2.1 hq
    rcases h with ⟨k, hk9, e⟩ | h
    · exact C.2.2.2.2.2.2.2.2.1 k q hk9 hq e.symm
    · omega
  · have h1 := (List.getElem?_eq_some_iff.mp hq).1
    simp at h1
    subst h1
    cases hq
    have hlt := (hB.2.2.1 0 _ rfl).lt
    refine hk _ hlt (fun h => ?_)
    rcases h with ⟨k, hk9, e⟩ | h
    · exact C.2.2.2.2.2.2.2.2.2.1 k hk9 e.symm
    · exact absurd hlt (Nat.not_lt.mpr h)
theorem l_callM (C : LC x κ b L xs) (np : Nat) {nm : MethodName} {wd wd' : List Cond} {rm : Room} {ac : Acc} {r1 : Int} {idx maxL : Nat} {bytes : ByteArray} {ret : Option FieldType} (hi : i ≤ 512) (hM : Mc x.2.1 (yM κ) nm wd rm (.ref (κ.2.2.2.1 0) :: As) ac T T1 r1) (hT : GoodIn wsL_law (wsV RL idx RX9 nm wd)) (hw : wd = Cond.code nm bytes maxL ret :: wd') (hrc : rm.cells = 0 ∧ rm.slots = 0) (hdd : nm.cls = RX9 ∧ nm.cls ≠ "java/lang/invoke/MethodHandle" ∧ nm.cls ≠ "java/lang/invoke/VarHandle" ∧ (parseMethodDescriptor nm.desc).map (fun d => d.parameters.length) = some np) (hR : rm.frames + 1 ≤ 10 ∧ 8 + (maxL + 11) + rm.locals ≤ 342)
    (hst : st = As.reverse ++ .ref (κ.2.2.2.1 0) :: rest) (hnp : As.length = np) (hcat : (rest.map fun v => v.category).sum ≤ 8) (hd : decode cL_law pc = .ok (.invokevirtual idx, 3)) (hn : pc + 3 = n) (kk : RS T1 → ac.2 r1 → LJ x κ S T1 g i n lv ((ac.1 r1).toList ++ rest)) : LJ x κ S T g i pc lv st := by
  intro H locs ls hB hS hv
  subst hn
  refine y_callV (y := yM κ) C.F (fun _ h => h) C.2.2.2.2.1 (fun h => by cases h) hB.2.1 hS 0 np (show 0 < 25 by decide) rfl rfl hM hT hw hrc hdd hR hst hnp hcat ⟨by show 300 + i ≤ 601024; omega, by show 40000 + 6 * i ≤ 7293034; omega⟩ hv.1 hd (fun H1 locs1 hRS hrg hB1 hS1 hz hk => kk hRS hrg H1 locs1 ls ⟨Bw_kept hB.1 (fun q hq => hk _ (Bw_lt hB.1 hq) ?_), hB1, hB.2.2.1.kept (fun k q hq => ?_), hB.2.2.2⟩ hS1 hv)
  · intro h
    have := Bw_lt hB.1 hq
    rcases h with ⟨k, hk9, e⟩ | h
    · exact C.2.2.2.2.2.2.2.2.1 q k hq hk9 e
    · omega
  · have h1 := (List.getElem?_eq_some_iff.mp hq).1
    simp at h1
    subst h1
    cases hq
    have hlt := (hB.2.2.1 0 _ rfl).lt
    refine hk _ hlt (fun h => ?_)
    rcases h with ⟨k, hk9, e⟩ | h
    · exact C.2.2.2.2.2.2.2.2.2.2 k hk9 e.symm
    · exact absurd hlt (Nat.not_lt.mpr h)
theorem l_told (C : LC x κ b L xs) {a0 a1 r g1 : Int} (hi : i ≤ 512) (hS0 : RS S) (ha0 : r32 a0) (ha1 : r32 a1) (hm : 0 ≤ S 4 5 ∧ S 4 5 ≤ 60)
    (hc : ((0 ≤ a0 ∧ a0 < S 4 5 ∧ 0 ≤ a1 ∧ a1 ≤ 5) ∧ dn_X6_callerFigure a0 a1 S = some (S, g1) ∧ r = 0) ∨ (¬ (0 ≤ a0 ∧ a0 < S 4 5 ∧ 0 ≤ a1 ∧ a1 ≤ 5) ∧ r = 1 ∧ g1 = g))
    (kk : LJ x κ S T g1 (i + 1) 420 lv [vI r]) : LJ x κ S T g i 417 lv [.ref κ.2.2.2.2, vI a1, vI a0, .ref (κ.2.2.1 0)] := by
  intro H locs ls hB hS hv
  have hA : ∀ q, Al (yX κ) κ.2.2.2.2 H.size q → LA x q := fun q h => by
    rcases h with (⟨k, hk, e⟩ | h) | h
    · subst e; exact hB.1.2.2 k _ (WD_at hk)
    · exact Nat.le_trans hS.1 h
    · rw [h]; exact hB.2.2.2
  have hr := vx_runSW (hh := [(0, 10, 13, 13)]) (locs := locs) (cells := 300 + i) (slots := 40000 + 6 * i) (R := room_1) (e := x.2.2.1) (below := x.2.2.2.2.2.2.1) (meth := x.2.2.2.2.2.2.2.1) (H := H) (g := F0 x.2.2.2.2.1 417 ls [.ref κ.2.2.2.2, vI a1, vI a0, .ref (κ.2.2.1 0)]) (As := [.ref (κ.2.2.1 0), vI a0, vI a1, .ref κ.2.2.2.2]) (rest := []) C.F (c_L_told C.2.2.1 (D := κ.1) (t := κ.2.1) C.2.2.2.2.2.2.2.2.2.1 hS0 ha0 ha1 hm hc H.size) (vx_cwSW 4 C.ts gL_law_L_told rfl rfl rfl (by decide +kernel) ⟨Nat.le_of_ble_eq_true rfl, Nat.le_of_ble_eq_true rfl⟩) ⟨PLt_blind, fun U hU hW => ⟨rfl, ⟨by rw [hU], by rw [hU]; exact Bw_true hB.1, va_K.moved hW.alike C.2.2.2.2.1, C.2.2.2.2.2.1.warm hW⟩, by rw [hU]; exact hB.2.2.1, by rw [hU]; exact C.2.2.2.2.2.2.2.1.go hW hS.2.1 hA⟩⟩ rfl rfl hv.1 rfl (lv_room (Nat.le_of_ble_eq_true rfl)) dL_law_417 ⟨by show 300 + i + 1 ≤ 601024; omega, by show 40000 + 6 * i + 6 ≤ 7293034; omega⟩
  intro U hU X
  obtain ⟨v, st₀, u, U', L9, h0, X', hL9, e1, e2, ⟨hv1, hB1, hP1, hz, hk⟩, st9⟩ := hr U hU X
  cases hv1
  rw [h0] at hz hk
  have hk1 : ∀ q : Nat, q < H.size → ¬ Al (yX κ) κ.2.2.2.2 H.size q → U'.heap[q]? = H[q]? := fun q h1 h2 => by rw [e1]; exact hk q h1 h2
  obtain ⟨t2, a1, b1⟩ := kk U'.heap (locs ++ L9) ls ⟨by rw [e1]; exact ⟨hB1.1, hB1.2.weaken (fun _ q _ z => hA q.1 z)⟩, Bw_kept hB.2.1 (fun q hq => hk1 _ (Bw_lt hB.2.1 hq) (fun h => by
      have hlt := Bw_lt hB.2.1 hq
      rcases h with (⟨k, hk9, e⟩ | h) | h
      · exact C.2.2.2.2.2.2.2.2.1 k q hk9 hq e.symm
      · exact absurd hlt (Nat.not_lt.mpr h)
      · exact C.2.2.2.2.2.2.2.2.2.2 q hq h)), by rw [e1]; exact hP1, hB.2.2.2⟩
    ⟨Nat.le_trans hS.1 (by rw [e1]; exact hz), fun q h1 h2 => by rw [hk1 q (Nat.lt_of_lt_of_le h1 hS.1) (fun y => h2 (hA q y))]; exact hS.2.1 q h1 h2, fun q hq => by
      rcases List.mem_append.mp hq with h | h
      · exact hS.2.2 q h
      · exact hA _ (hL9 q h)⟩ hv U' rfl X'
  exact ⟨t2, st9 t2 a1, b1⟩
end LR
