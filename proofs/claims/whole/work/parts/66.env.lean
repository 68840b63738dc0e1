set_option maxRecDepth 20000 in
set_option maxHeartbeats 1000000 in
/-- the start's classes, where FIRST's array is of the class [I itself -/
theorem st_K {p : Program} {s : State} {m : MethodId} {meth : Method} {c : Code} {b L : Nat} {xs : Nat → Int32} (C0 : lw_At p s m meth c b L xs) : ∃ (D : va_G) (t : T5), va_K D vwCl (tyl t) s ∧ s.vm.findClass "[I" = some t.1 := by
  obtain ⟨hx, hb, hr, hml, hown, hts, hX, hbl, hlocks, hgv⟩ := id C0
  have mt : ∀ (w : Cond) (i : Nat), lw_tbl[i]? = some w → w.before #[Value.ref b] s = true := fun w i h => hts w (List.mem_of_getElem? h)
  obtain ⟨c0, i0, k0⟩ := u_known (C := RX0) (T := TX0) (N := 3) (n := 3) hts lwin_wsX00 (mt (.instantiable RX0 3) 198 (by decide +kernel))
  obtain ⟨c1, i1, k1⟩ := u_known (C := RX1) (T := TX1) (N := 10) (n := 10) hts lwin_wsX10 (mt (.instantiable RX1 10) 151 (by decide +kernel))
  obtain ⟨c2, i2, k2⟩ := u_known (C := RX2) (T := TX2) (N := 7) (n := 7) hts lwin_wsX20 (mt (.instantiable RX2 7) 283 (by decide +kernel))
  obtain ⟨c3, i3, k3⟩ := u_known (C := RX3) (T := TX3) (N := 6) (n := 6) hts lwin_wsX30 (mt (.instantiable RX3 6) 119 (by decide +kernel))
  obtain ⟨c4, i4, k4⟩ := u_known (C := RX4) (T := TX4) (N := 3) (n := 3) hts lwin_wsX40 (mt (.instantiable RX4 3) 214 (by decide +kernel))
  obtain ⟨c5, i5, k5⟩ := u_known (C := RX5) (T := TX5) (N := 3) (n := 3) hts lwin_wsX50 (mt (.instantiable RX5 3) 265 (by decide +kernel))
  obtain ⟨c6, i6, k6⟩ := u_known (C := RX6) (T := TX6) (N := 11) (n := 11) hts lwin_wsX60 (mt (.instantiable RX6 11) 112 (by decide +kernel))
  obtain ⟨c7, i7, k7⟩ := u_known (C := RX7) (T := TX7) (N := 2) (n := 2) hts lwin_wsX70 (mt (.instantiable RX7 2) 89 (by decide +kernel))
  obtain ⟨c8, i8, k8⟩ := u_known (C := RX8) (T := TX8) (N := 4) (n := 4) hts lwin_wsX80 (mt (.instantiable RX8 4) 81 (by decide +kernel))
  obtain ⟨c9, i9, k9⟩ := u_known (C := RX9) (T := TX9) (N := 39) (n := 39) hts lwin_wsX90 (mt (.instantiable RX9 39) 809 (by decide +kernel))
  obtain ⟨D, hKc⟩ : ∃ D : va_G, ∀ (k : Nat) (q : vw_C), vwCl[k]? = some q → u_Kn s q.1 q.2.1 q.2.2 (D.1 k) (D.2 k) := by
    refine ⟨(fun k => match k with | 0 => c0 | 1 => c1 | 2 => c2 | 3 => c3 | 4 => c4 | 5 => c5 | 6 => c6 | 7 => c7 | 8 => c8 | _ => c9, fun k => match k with | 0 => i0 | 1 => i1 | 2 => i2 | 3 => i3 | 4 => i4 | 5 => i5 | 6 => i6 | 7 => i7 | 8 => i8 | _ => i9), ?_⟩
    intro k q hq
    match k, hq with
    | 0, hq => cases hq; exact k0
    | 1, hq => cases hq; exact k1
    | 2, hq => cases hq; exact k2
    | 3, hq => cases hq; exact k3
    | 4, hq => cases hq; exact k4
    | 5, hq => cases hq; exact k5
    | 6, hq => cases hq; exact k6
    | 7, hq => cases hq; exact k7
    | 8, hq => cases hq; exact k8
    | 9, hq => cases hq; exact k9
    | k + 10, hq => simp [vwCl] at hq
  obtain ⟨tI, kI, pI, a1, a2, a3⟩ := Cond.arrayClass_spec (mt (.arrayClass .int) 110 (by decide +kernel))
  obtain ⟨tJ, kJ, pJ, b1, b2, b3⟩ := Cond.arrayClass_spec (mt (.arrayClass .long) 310 (by decide +kernel))
  obtain ⟨tZ, kZ, pZ, d1, d2, d3⟩ := Cond.arrayClass_spec (mt (.arrayClass .boolean) 932 (by decide +kernel))
  obtain ⟨pC, tC, kC, e1, e2, e3, e4, e5⟩ := Cond.arrayOver_spec (mt (.arrayOver (.object "LinePool$Caller")) 150 (by decide +kernel))
  obtain ⟨pL, tL, kL, f1, f2, f3, f4, f5⟩ := Cond.arrayOver_spec (mt (.arrayOver (.object "LinePool$Line")) 118 (by decide +kernel))
  have hK : va_K D vwCl (tyl (tI, tJ, tZ, tC, tL)) s := by
    refine ⟨hKc, fun k q h => ?_⟩
    match k, h with
    | 0, h => cases h; exact ⟨fun n z => ⟨fun k h => (by cases h), kI, a2, pI, a3⟩, a1⟩
    | 1, h => cases h; exact ⟨fun n z => ⟨fun k h => (by cases h), kJ, b2, pJ, b3⟩, b1⟩
    | 2, h => cases h; exact ⟨fun n z => ⟨fun k h => (by cases h), kZ, d2, pZ, d3⟩, d1⟩
    | 3, h => cases h; exact ⟨fun n z => ⟨fun k h => (by cases h), kC, e3, pC, e4⟩, kC, pC, e3, e4, e1, e5⟩
    | 4, h => cases h; exact ⟨fun n z => ⟨fun k h => (by cases h), kL, f3, pL, f4⟩, kL, pL, f3, f4, f1, f5⟩
    | k + 5, h => simp at h
  exact ⟨D, (tI, tJ, tZ, tC, tL), hK, va_nm_int a1⟩
set_option maxRecDepth 20000 in
set_option maxHeartbeats 1000000 in
theorem st_N {p : Program} {s : State} {m : MethodId} {meth : Method} {c : Code} {b L : Nat} {xs : Nat → Int32} (C0 : lw_At p s m meth c b L xs) : NS true s := by
  obtain ⟨hx, hb, hr, hml, hown, hts, hX, hbl, hlocks, hgv⟩ := id C0
  have mt : ∀ (w : Cond) (i : Nat), lw_tbl[i]? = some w → w.before #[Value.ref b] s = true := fun w i h => hts w (List.mem_of_getElem? h)
  exact fun _ => ⟨va_Nw.of rfl (mt (.fieldLinkNest RX6 271 RX4 "all" "I" RX8) 222 (by decide +kernel)), va_Nw.of rfl (mt (.methodLinkNest RX1 13 yX8_within RX8) 354 (by decide +kernel)), va_Nw.of rfl (mt (.methodLinkNest RX2 22 yX8_within RX8) 674 (by decide +kernel)), va_Nw.of rfl (mt (.methodLinkNest RX4 31 yX8_within RX8) 627 (by decide +kernel)), va_Nw.of rfl (mt (.methodLinkNest RX6 76 yX8_within RX8) 375 (by decide +kernel)), va_Nw.of rfl (mt (.methodLinkNest RX7 26 yX8_within RX8) 332 (by decide +kernel))⟩
set_option maxRecDepth 20000 in
set_option maxHeartbeats 1000000 in
theorem st_Zs {p : Program} {s : State} {m : MethodId} {meth : Method} {c : Code} {b L : Nat} {xs : Nat → Int32} (C0 : lw_At p s m meth c b L xs) : Zs (fun q : Nat => s.heap.size ≤ q) s s.heap ∧ zT "FIRST" num (fun q : Nat => s.heap.size ≤ q) s s.heap := by
  obtain ⟨hx, hb, hr, hml, hown, hts, hX, hbl, hlocks, hgv⟩ := id C0
  have mt : ∀ (w : Cond) (i : Nat), lw_tbl[i]? = some w → w.before #[Value.ref b] s = true := fun w i h => hts w (List.mem_of_getElem? h)
  have hs := flat_of_before _ hgv
  have hA0 : ∀ a : Nat, a < s.heap.size → ¬ (fun q : Nat => s.heap.size ≤ q) a := fun a h => Nat.not_le.mpr h
  have hini := mt (.initialized RX7) 66 (by decide +kernel)
  have six : ∀ {P : Nat → Prop}, P 0 → P 1 → P 2 → P 3 → P 4 → P 5 → ∀ j, j < 6 → P j := fun p0 p1 p2 p3 p4 p5 j hj => by
    have : j = 0 ∨ j = 1 ∨ j = 2 ∨ j = 3 ∨ j = 4 ∨ j = 5 := by omega
    rcases this with rfl | rfl | rfl | rfl | rfl | rfl <;> assumption
  have zLEAST : zT "LEAST" loN (fun q : Nat => s.heap.size ≤ q) s s.heap := st_T (b := b) hA0 (hs _ (by decide +kernel)) (hs _ (by decide +kernel)) (six (hs _ (by decide +kernel)) (hs _ (by decide +kernel)) (hs _ (by decide +kernel)) (hs _ (by decide +kernel)) (hs _ (by decide +kernel)) (hs _ (by decide +kernel))) (mt (.laysStatic RX7 "LEAST" "[I") 336 (by decide +kernel)) hini
  have zMOST : zT "MOST" hiN (fun q : Nat => s.heap.size ≤ q) s s.heap := st_T (b := b) hA0 (hs _ (by decide +kernel)) (hs _ (by decide +kernel)) (six (hs _ (by decide +kernel)) (hs _ (by decide +kernel)) (hs _ (by decide +kernel)) (hs _ (by decide +kernel)) (hs _ (by decide +kernel)) (hs _ (by decide +kernel))) (mt (.laysStatic RX7 "MOST" "[I") 338 (by decide +kernel)) hini
  have zFIRST : zT "FIRST" num (fun q : Nat => s.heap.size ≤ q) s s.heap := st_T (b := b) hA0 (hs _ (by decide +kernel)) (hs _ (by decide +kernel)) (six (hs _ (by decide +kernel)) (hs _ (by decide +kernel)) (hs _ (by decide +kernel)) (hs _ (by decide +kernel)) (hs _ (by decide +kernel)) (hs _ (by decide +kernel))) (mt (.laysStatic RX7 "FIRST" "[I") 95 (by decide +kernel)) hini
  have hZs : Zs (fun q : Nat => s.heap.size ≤ q) s s.heap := ⟨zLEAST, zMOST⟩
  exact ⟨hZs, zFIRST⟩
set_option maxRecDepth 20000 in
set_option maxHeartbeats 1000000 in
theorem st_XS {p : Program} {s : State} {m : MethodId} {meth : Method} {c : Code} {b L : Nat} {xs : Nat → Int32} (C0 : lw_At p s m meth c b L xs) {t : T5} (hI : s.vm.findClass "[I" = some t.1) (hEx : (Cond.exactly (.static RX7 "FIRST" "[I") "[I").before #[Value.ref b] s = true) : XS t (fun q : Nat => s.heap.size ≤ q) s s.heap := by
  obtain ⟨hx, hb, hr, hml, hown, hts, hX, hbl, hlocks, hgv⟩ := id C0
  have mt : ∀ (w : Cond) (i : Nat), lw_tbl[i]? = some w → w.before #[Value.ref b] s = true := fun w i h => hts w (List.mem_of_getElem? h)
  have hs := flat_of_before _ hgv
  have hA0 : ∀ a : Nat, a < s.heap.size → ¬ (fun q : Nat => s.heap.size ≤ q) a := fun a h => Nat.not_le.mpr h
  exact ⟨st_F (b := b) hA0 hI hEx (hs _ (by decide +kernel)) (st_Zs C0).2, va_Nw.of rfl (mt (.castable "[I" "java/lang/Cloneable") 101 (by decide +kernel)), va_AO.of (mt (.arrayOver (.object "LinePool$Line")) 118 (by decide +kernel)), va_AO.of (mt (.arrayOver (.object "LinePool$Caller")) 150 (by decide +kernel))⟩
set_option maxRecDepth 20000 in
set_option maxHeartbeats 1000000 in
theorem st_Zt {p : Program} {s : State} {m : MethodId} {meth : Method} {c : Code} {b L : Nat} {xs : Nat → Int32} (C0 : lw_At p s m meth c b L xs) : Zt (fun q : Nat => s.heap.size ≤ q) s s.heap := by
  obtain ⟨hx, hb, hr, hml, hown, hts, hX, hbl, hlocks, hgv⟩ := id C0
  have mt : ∀ (w : Cond) (i : Nat), lw_tbl[i]? = some w → w.before #[Value.ref b] s = true := fun w i h => hts w (List.mem_of_getElem? h)
  have hs := flat_of_before _ hgv
  have hA0 : ∀ a : Nat, a < s.heap.size → ¬ (fun q : Nat => s.heap.size ≤ q) a := fun a h => Nat.not_le.mpr h
  have hiT := mt (.initialized Bundle.tN) 76 (by decide +kernel)
  exact ⟨vx_Zqof (mt (.laysStatic Bundle.tN "UNASSIGNED_STACK" Bundle.steD) 766 (by decide +kernel)) hiT (hs _ (by decide +kernel)) hA0, vx_Zqof (mt (.laysStatic Bundle.tN "SUPPRESSED_SENTINEL" Bundle.listD) 768 (by decide +kernel)) hiT (hs _ (by decide +kernel)) hA0, fun w hw => by
    simp only [xB, List.mem_cons, List.not_mem_nil, or_false] at hw
    rcases hw with rfl | rfl | rfl | rfl
    · exact va_Nw.of rfl (mt _ 742 (by decide +kernel))
    · exact va_Nw.of rfl (mt _ 744 (by decide +kernel))
    · exact va_Nw.of rfl (mt _ 746 (by decide +kernel))
    · exact va_Nw.of rfl (mt _ 741 (by decide +kernel))⟩
