/-! the law's loop -/
theorem ofN {L : Nat} (h : L ≤ 3072) : Int32.ofNat L = Int32.ofInt (L : Int) := by
  apply Int32.toInt_inj.mp
  rw [i_toInt ⟨by omega, by omega⟩, Int32.toInt_ofNat_of_lt (by omega)]
theorem and15 (v : Int32) : 0 ≤ (v &&& Int32.ofInt 15).toInt ∧ (v &&& Int32.ofInt 15).toInt ≤ 15 := by
  have h1 : (v &&& Int32.ofInt 15).toBitVec = v.toBitVec &&& 15#32 := rfl
  have h2 : (v.toBitVec &&& 15#32).toNat ≤ 15 := by rw [BitVec.toNat_and]; exact Nat.and_le_right
  have h3 : (v &&& Int32.ofInt 15).toInt = ((v.toBitVec &&& 15#32).toNat : Int) := by
    show (v &&& Int32.ofInt 15).toBitVec.toInt = _
    rw [h1, BitVec.toInt_eq_toNat_of_lt (by omega)]
  rw [h3]
  omega
set_option maxRecDepth 20000 in
set_option maxHeartbeats 4000000 in
theorem law_loop {x : Mx} {κ : Kx} {b L : Nat} {xs : Nat → Int32} (C : LC x κ b L xs) : ∀ (d j : Nat) (S T : St) (g : Int), 6 * j ≤ L → L < 6 * (j + d) → RE WK (-1) (540000 * (j : Int)) S T → RS S → RS T → LJ x κ S T g j 23 (lv0 b κ j) [] := by
  have hL : L ≤ 3072 := C.2.2.2.1
  have hX : va_X b L xs x.2.2.2.1 x.2.2.2.1.heap := C.1.2.2.2.2.2.2.1
  have hbl : b < x.2.2.2.1.heap.size := C.1.2.2.2.2.2.2.2.1
  intro d
  induction d with
  | zero =>
    intro j S T g h1 h2
    omega
  | succ d ih =>
    intro j S T g h1 h2 hR hS0 hT0 H locs ls hB hS hv
    refine lv_iload C.1.1 C.1.2.1 dL_law_23 (lv_at hv 4 rfl) ?_
    refine lv_aload_n C.1.1 C.1.2.1 dL_law_25 rfl (lv_at hv 0 rfl) ?_
    refine va_slen (A := LA x) C.1.1 C.1.2.1 hX hbl (Nat.not_le.mpr hbl) hS dL_law_26 ?_
    refine lv_bipush (v := Int32.ofInt 6) C.1.1 C.1.2.1 dL_law_27 (by decide +kernel) ?_
    refine lv_isub C.1.1 C.1.2.1 dL_law_29 ?_
    have e : Int32.ofNat L - Int32.ofInt 6 = Int32.ofInt ((L : Int) - 6) := by rw [ofN hL, i_sub, w32_id ⟨by omega, by omega⟩]
    rw [e]
    have r1 : r32 ((L : Int) - 6) := ⟨by omega, by omega⟩
    have r2 : r32 (6 * (j : Int)) := ⟨by omega, by omega⟩
    refine lv_icmp_gt (tgt := 713) C.1.1 C.1.2.1 dL_law_30 (by decide) (fun h => ?_) (fun h => ?_)
    · refine lv_iconst (v := 1) C.1.1 C.1.2.1 dL_law_713 (by decide) ?_
      refine va_forget (fun q hq => hS.2.2 q hq) ?_
      refine W.widen (k := 601024) (n := 7293034) (by omega) (by omega) ?_
      rw [C.2.1]
      exact lw_ret C.1.1 C.1.2.1 C.1.2.2.1 C.1.2.2.2.2.2.2.2.2.1 dL_law_714
    · have hnl : ¬ ((L : Int) - 6 < 6 * (j : Int)) := fun z => h ((i_lt r1 r2).mpr z)
      have hj : 6 * j + 5 < L := by omega
      refine lv_aload_n C.1.1 C.1.2.1 dL_law_33 rfl (lv_at hv 0 rfl) ?_
      refine lv_iload C.1.1 C.1.2.1 dL_law_34 (lv_at hv 4 rfl) ?_
      refine va_sld (A := LA x) C.1.1 C.1.2.1 hX hbl (Nat.not_le.mpr hbl) hS (i_in (n := L) (by omega) (by omega) r2) dL_law_36 ?_
      have e2 : (6 * (j : Int)).toNat = 6 * j := by omega
      rw [i_clamp r2 (by omega), e2]
      refine lv_bipush (v := Int32.ofInt 15) C.1.1 C.1.2.1 dL_law_37 (by decide +kernel) ?_
      refine lv_iand C.1.1 C.1.2.1 dL_law_39 ?_
      have hB0 : (0 : Int) ≤ 540000 * (j : Int) := by omega
      have hB9 : 540000 * (j : Int) + 540000 ≤ 2147483000 := by omega
      have hnext : ∀ S' T' g', RE WK (-1) (540000 * (j : Int) + 540000) S' T' → RS S' → RS T' → LJ x κ S' T' g' (j + 1) 707 (lv0 b κ j) [] := by
        intro S' T' g' hR' hS' hT' H2 locs2 ls2 hB2 hS2 hv2
        refine lv_iinc (v := Int32.ofInt (6 * ((j + 1 : Nat) : Int))) (lv' := [(4, vI (6 * ((j + 1 : Nat) : Int))), (0, .ref b), (1, .ref (κ.2.2.1 0)), (2, .ref (κ.2.2.2.1 0)), (3, .ref κ.2.2.2.2)]) C.1.1 C.1.2.1 dL_law_707 hv2 (k := 4) rfl (by
          show Int32.ofInt (6 * (j : Int)) + Int32.ofInt 6 = _
          rw [i_add, w32_id ⟨by omega, by omega⟩]
          congr 1) (by decide) rfl (fun ls3 hv3 => ?_)
        refine lv_goto (tgt := 23) C.1.1 C.1.2.1 dL_law_710 (by decide) ?_
        refine ih (j + 1) S' T' g' (by omega) (by omega) ?_ hS' hT' H2 locs2 ls3 hB2 hS2 (lv_sub hv3 [1, 2, 3, 4, 0] rfl)
        rw [show (540000 : Int) * ((j + 1 : Nat) : Int) = 540000 * (j : Int) + 540000 by omega]
        exact hR'
      have hr := and15 (xs (6 * j))
      have hz : (xs (6 * j) &&& Int32.ofInt 15).toInt = 0 ∨ (xs (6 * j) &&& Int32.ofInt 15).toInt = 1 ∨ (xs (6 * j) &&& Int32.ofInt 15).toInt = 2 ∨ (xs (6 * j) &&& Int32.ofInt 15).toInt = 3 ∨ (xs (6 * j) &&& Int32.ofInt 15).toInt = 4 ∨ (xs (6 * j) &&& Int32.ofInt 15).toInt = 5 ∨ (xs (6 * j) &&& Int32.ofInt 15).toInt = 6 ∨ (xs (6 * j) &&& Int32.ofInt 15).toInt = 7 ∨ (xs (6 * j) &&& Int32.ofInt 15).toInt = 8 ∨ (xs (6 * j) &&& Int32.ofInt 15).toInt = 9 ∨ (xs (6 * j) &&& Int32.ofInt 15).toInt = 10 ∨ (xs (6 * j) &&& Int32.ofInt 15).toInt = 11 ∨ (xs (6 * j) &&& Int32.ofInt 15).toInt = 12 ∨ (xs (6 * j) &&& Int32.ofInt 15).toInt = 13 ∨ (xs (6 * j) &&& Int32.ofInt 15).toInt = 14 ∨ (xs (6 * j) &&& Int32.ofInt 15).toInt = 15 := by omega
      rcases hz with hq | hq | hq | hq | hq | hq | hq | hq | hq | hq | hq | hq | hq | hq | hq | hq
      · exact lv_tableIn (tgt := 120) C.1.1 C.1.2.1 dL_law_40 (by rw [hq]; decide) (by rw [hq]; decide) (by rw [hq]; rfl) (by decide) (case_set C hj hB0 hB9 hR hS0 hT0 hnext H locs ls hB hS hv)
      · exact lv_tableIn (tgt := 157) C.1.1 C.1.2.1 dL_law_40 (by rw [hq]; decide) (by rw [hq]; decide) (by rw [hq]; rfl) (by decide) (case_speed C hj hB0 hB9 hR hS0 hT0 hnext H locs ls hB hS hv)
      · exact lv_tableIn (tgt := 194) C.1.1 C.1.2.1 dL_law_40 (by rw [hq]; decide) (by rw [hq]; decide) (by rw [hq]; rfl) (by decide) (case_caller C hj hB0 hB9 hR hS0 hT0 hnext H locs ls hB hS hv)
      · exact lv_tableIn (tgt := 267) C.1.1 C.1.2.1 dL_law_40 (by rw [hq]; decide) (by rw [hq]; decide) (by rw [hq]; rfl) (by decide) (case_broken C hj hB0 hB9 hR hS0 hT0 hnext H locs ls hB hS hv)
      · exact lv_tableIn (tgt := 304) C.1.1 C.1.2.1 dL_law_40 (by rw [hq]; decide) (by rw [hq]; decide) (by rw [hq]; rfl) (by decide) (case_run C hj hB0 hB9 hR hS0 hT0 hnext H locs ls hB hS hv)
      · exact lv_tableIn (tgt := 329) C.1.1 C.1.2.1 dL_law_40 (by rw [hq]; decide) (by rw [hq]; decide) (by rw [hq]; rfl) (by decide) (case_clear C hj hB0 hB9 hR hS0 hT0 hnext H locs ls hB hS hv)
      · exact lv_tableIn (tgt := 340) C.1.1 C.1.2.1 dL_law_40 (by rw [hq]; decide) (by rw [hq]; decide) (by rw [hq]; rfl) (by decide) (case_count C hj hB0 hB9 hR hS0 hT0 hnext H locs ls hB hS hv)
      · exact lv_tableIn (tgt := 366) C.1.1 C.1.2.1 dL_law_40 (by rw [hq]; decide) (by rw [hq]; decide) (by rw [hq]; rfl) (by decide) (case_slot C hj hB0 hB9 hR hS0 hT0 hnext H locs ls hB hS hv)
      · exact lv_tableIn (tgt := 403) C.1.1 C.1.2.1 dL_law_40 (by rw [hq]; decide) (by rw [hq]; decide) (by rw [hq]; rfl) (by decide) (case_told C hj hB0 hB9 hR hS0 hT0 hnext H locs ls hB hS hv)
      · exact lv_tableIn (tgt := 471) C.1.1 C.1.2.1 dL_law_40 (by rw [hq]; decide) (by rw [hq]; decide) (by rw [hq]; rfl) (by decide) (case_event C hj hB0 hB9 hR hS0 hT0 hnext H locs ls hB hS hv)
      · exact lv_tableIn (tgt := 508) C.1.1 C.1.2.1 dL_law_40 (by rw [hq]; decide) (by rw [hq]; decide) (by rw [hq]; rfl) (by decide) (case_mean C hj hB0 hB9 hR hS0 hT0 hnext H locs ls hB hS hv)
      · exact lv_tableIn (tgt := 570) C.1.1 C.1.2.1 dL_law_40 (by rw [hq]; decide) (by rw [hq]; decide) (by rw [hq]; rfl) (by decide) (case_best C hj hB0 hB9 hR hS0 hT0 hnext H locs ls hB hS hv)
      · exact lv_tableIn (tgt := 619) C.1.1 C.1.2.1 dL_law_40 (by rw [hq]; decide) (by rw [hq]; decide) (by rw [hq]; rfl) (by decide) (case_crowd C hj hB0 hB9 hR hS0 hT0 hnext H locs ls hB hS hv)
      · exact lv_tableIn (tgt := 644) C.1.1 C.1.2.1 dL_law_40 (by rw [hq]; decide) (by rw [hq]; decide) (by rw [hq]; rfl) (by decide) (case_scatter C hj hB0 hB9 hR hS0 hT0 hnext H locs ls hB hS hv)
      · exact lv_tableIn (tgt := 657) C.1.1 C.1.2.1 dL_law_40 (by rw [hq]; decide) (by rw [hq]; decide) (by rw [hq]; rfl) (by decide) (case_states C hj hB0 hB9 hR hS0 hT0 hnext H locs ls hB hS hv)
      · exact lv_tableIn (tgt := 694) C.1.1 C.1.2.1 dL_law_40 (by rw [hq]; decide) (by rw [hq]; decide) (by rw [hq]; rfl) (by decide) (case_sure C hj hB0 hB9 hR hS0 hT0 hnext H locs ls hB hS hv)
/-! a constructor called from the law -/
theorem w_callK {p : Program} {l : Launch} {e : Env} {R : Room} {s : State} {m : MethodId} {args : Array Value} {below : List Frame} {meth : Method} {c : Code} {H : Heap} {locs : List Loc} {cells slots : Nat} {Q : State → Prop} {D : va_G} {t : T5} {A : Nat → Prop} {ws : va_W} {cc : ByteArray} {nL : Nat} {Ts : List Cond} {own : String} {V1 : Type} {ok1 : V1 → Prop} {N1 : V1 → va_W} {nm : MethodName} {wd wd' : List Cond} {rm : Room} {As rest st : List Value} {q idx maxL mc ms pc : Nat} {e0 : va_E} {bytes : ByteArray} {ls : Array Slot} (np : Nat) (F : CallFix p m c cc nL s args Ts own) (hA : ∀ q, s.heap.size ≤ q → A q) (hK : va_K D vwCl (tyl t) s) (hX : XS t A s s.heap) (hP : va_P D vwCl (ws ++ [(q, e0)]) H) (hD : va_D A (ws ++ [(q, e0)])) (hS : va_S A s.heap H locs)
    (hM : MK l D t nm wd rm (.ref q :: As) [(q, e0)] ok1 N1 mc ms) (hG : GoodIn Ts wd) (hw : wd = Cond.code nm bytes maxL none :: wd') (hrc : rm.cells = mc ∧ rm.slots = ms) (h1 : Cond.initialized nm.cls ∈ Ts) (h2 : Cond.methodLink own idx nm ∈ Ts) (h3 : Cond.instanceMethod nm ∈ Ts) (hnm : nm.name = "<init>") (hdd : nm.cls ≠ "java/lang/invoke/MethodHandle" ∧ nm.cls ≠ "java/lang/invoke/VarHandle" ∧ (parseMethodDescriptor nm.desc).map (fun d => d.parameters.length) = some np) (hR : rm.frames + 1 ≤ R.frames ∧ 8 + (maxL + 11) + rm.locals ≤ R.locals) (hst : st = As.reverse ++ .ref q :: rest) (hnp : As.length = np) (hcat : (rest.map fun v => v.category).sum ≤ 8) (hf : cells + mc ≤ R.cells ∧ slots + ms ≤ R.slots) (hls : ls.size = nL) (hd : decode cc pc = .ok (.invokespecial idx, 3))
    (kk : ∀ (v : V1) (H1 : Heap) (locs1 : List Loc), ok1 v → va_P D vwCl (ws ++ N1 v) H1 → va_D A (ws ++ N1 v) → va_S A s.heap H1 locs1 → W p l e R s m args below meth c H1 locs1 (cells + mc) (slots + ms) Q (F0 m (pc + 3) ls rest)) : W p l e R s m args below meth c H locs cells slots Q (F0 m pc ls st) := by
  subst hst
  have hAA : ∀ z, va_A (ws ++ [(q, e0)]) H.size z → A z := fun z h => by
    rcases h with ⟨k, e9, h⟩ | h
    · exact hD.2 k _ h
    · exact hA z (Nat.le_trans hS.1 h)
  have hr := va_runI (locs := locs) (cells := cells) (slots := slots) (e := e) (below := below) (meth := meth) (H := H) (g := F0 m pc ls (As.reverse ++ .ref q :: rest)) (As := As) (rest := rest) F (hM ws H.size) (cwI np F.2.2.2.2 hG hw hrc.1 hrc.2 (F.2.2.2.2 _ h1) (F.2.2.2.2 _ h2) (F.2.2.2.2 _ h3) hnm hdd hR) ⟨PK_blind, fun U hU hW => ⟨rfl, by rw [hU], by rw [hU]; exact hP, hD.weaken (fun _ _ _ _ => trivial), va_K.moved hW.alike hK, by rw [hU]; exact hX.go hW hS.2.1 hAA⟩⟩ rfl hnp hls rfl (lv_room hcat) hd hf
  intro T hT X
  obtain ⟨v, st₀, u, T', L9, h0, X', hL9, e1, e2, ⟨hv1, ⟨w, ow, hP1, hD1⟩, hz, hk⟩, st9⟩ := hr T hT X
  cases hv1
  rw [h0] at hz hk
  obtain ⟨t2, a1, b1⟩ := kk w T'.heap (locs ++ L9) ow (by rw [e1]; exact hP1) (hD1.weaken (fun _ q9 _ z => hAA q9.1 z))
    ⟨Nat.le_trans hS.1 (by rw [e1]; exact hz), fun z h1 h2 => by rw [e1, hk z (Nat.lt_of_lt_of_le h1 hS.1) (fun y => h2 (hAA z y))]; exact hS.2.1 z h1 h2, fun z hz9 => by
      rcases List.mem_append.mp hz9 with h | h
      · exact hS.2.2 z h
      · exact hAA _ (hL9 z h)⟩ T' rfl X'
  exact ⟨t2, st9 t2 a1, b1⟩
theorem vd_l {A : Nat → Prop} {w1 w2 : va_W} (h : va_D A (w1 ++ w2)) : va_D A w1 := by
  have up : ∀ (k : Nat) (q : Nat × va_E), w1[k]? = some q → (w1 ++ w2)[k]? = some q := fun k q hk => by
    rw [List.getElem?_append_left (List.getElem?_eq_some_iff.mp hk).1]; exact hk
  exact ⟨fun i j p q hi hj he => h.1 i j p q (up i p hi) (up j q hj) he, fun k q hk => h.2 k q (up k q hk)⟩
theorem vd_r {A : Nat → Prop} {w1 w2 : va_W} (h : va_D A (w1 ++ w2)) : va_D A w2 := by
  have up : ∀ (k : Nat) (q : Nat × va_E), w2[k]? = some q → (w1 ++ w2)[w1.length + k]? = some q := fun k q hk => wsl hk
  exact ⟨fun i j p q hi hj he => by have := h.1 _ _ p q (up i p hi) (up j q hj) he; omega, fun k q hk => h.2 _ q (up k q hk)⟩
/-- cells at different places have different addresses -/
theorem vd_x {A : Nat → Prop} {w1 w2 : va_W} {p q : Nat × va_E} {i j : Nat} (h : va_D A (w1 ++ w2)) (hi : w1[i]? = some p) (hj : w2[j]? = some q) : p.1 ≠ q.1 := fun he => by
  have hl := (List.getElem?_eq_some_iff.mp hi).1
  have := h.1 i (w1.length + j) p q (by rw [List.getElem?_append_left hl]; exact hi) (wsl hj) he
  omega
/-! what the Statement gives of the start -/
section ST
variable {s : State} {b : Nat}
theorem st_T {n : String} {f : Nat → Int} {A : Nat → Prop} (hA0 : ∀ a : Nat, a < s.heap.size → ¬ A a) (h1 : (Cond.arrayOf (.static RX7 n "[I") .int).before #[.ref b] s = true) (h2 : (Cond.eq (.length (.static RX7 n "[I")) (.int 6)).before #[.ref b] s = true) (h3 : ∀ j, j < 6 → (Cond.eq (.elem (.static RX7 n "[I") (.int (Int32.ofNat j))) (.int (Int32.ofInt (f j)))).before #[.ref b] s = true) (h4 : (Cond.laysStatic RX7 n "[I").before #[.ref b] s = true) (h5 : (Cond.initialized RX7).before #[.ref b] s = true) : zT n f A s s.heap := by
  obtain ⟨tt, ev, hT⟩ := va_Tof (tm := .static RX7 n "[I") (ty := .int) (N := 6) (f := fun j => vI (f j)) (A := A) (by decide) h1 (va_eqt (z := 6) h2) (fun j hj => va_eqt (h3 j hj)) hA0
  exact ⟨tt, va_Zof h4 h5 ev hA0, hT⟩
theorem st_F {t : T5} {A : Nat → Prop} (hA0 : ∀ a : Nat, a < s.heap.size → ¬ A a) (hI : s.vm.findClass "[I" = some t.1) (hEx : (Cond.exactly (.static RX7 "FIRST" "[I") "[I").before #[.ref b] s = true) (h2 : (Cond.eq (.length (.static RX7 "FIRST" "[I")) (.int 6)).before #[.ref b] s = true) (hz : zT "FIRST" num A s s.heap) : FT t A s s.heap := by
  obtain ⟨tt, hZ, cell, c1, c2, c3, c4, c5, c6, c7⟩ := hz
  obtain ⟨a, cA, arr, kA, ha, hA, hcell, hkA, hstat, hcls, -⟩ := Cond.exactly_spec hEx
  obtain ⟨a2, cell2, d1, d2, d3, d4⟩ := Jvm.Lib.length_spec (va_eqt (z := 6) h2)
  have ev : (Term.static RX7 "FIRST" "[I").eval #[.ref b] s none [] s = some (.ref tt) := by
    obtain ⟨cf, kf, fi, f, aa, cc, g1, g2, g3, g4, g5, g6, g7, -⟩ := hZ
    simp [Term.eval, State.fieldNamed?, g1, g2, g4, g5, g6, g7]
  cases ev.symm.trans ha
  cases ev.symm.trans d1
  cases c1.symm.trans hcell
  obtain ⟨d5, -, -, -⟩ := State.arrayAt?_spec d2
  cases hcell.symm.trans d5
  have hsz : cell.slots.size = 6 := by
    have h9 : cell.slots.size.toInt32 = 6 := by
      have := Value.int.inj d4
      exact this.symm
    have h8 : (Int32.ofNat cell.slots.size).toInt = (6 : Int) := by
      show (cell.slots.size.toInt32).toInt = 6
      rw [h9]; rfl
    rw [Int32.toInt_ofNat_of_lt d3] at h8
    omega
  refine ⟨tt, cell, hZ, hcell, ?_, hstat, c3, ?_, c7⟩
  · rw [hcls]; exact Option.some.inj (hA.symm.trans hI)
  · apply Array.ext_getElem?
    intro i
    by_cases hi : i < 6
    · rw [c6 i hi, arrV_read _ _ hi]
    · rw [Array.getElem?_eq_none (by omega), Array.getElem?_eq_none (by rw [arrV_size]; omega)]
end ST
