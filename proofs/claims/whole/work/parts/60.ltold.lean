/-! the law's told -/
def Al (y : Sys) (qo sz : Nat) : Nat → Prop := fun q => Aw y sz q ∨ q = qo
abbrev ocl (t : T5) (g : Int) : va_E := .inl (t.2.1, 1, .inr (.inl (fun _ => Int64.ofInt g)))
def PLt (D : va_G) (t : T5) (ad : Nat → Nat) (qo : Nat) (S : St) (g : Int) (sz : Nat) (As : List Value) : Array Value → State → Prop := va_Pc As (fun U => (U.heap.size = sz ∧ Bw (sX D t ad) (fun _ => True) S U.heap ∧ va_K D vwCl (tyl t) U ∧ NS true U) ∧ va_P D vwCl [(qo, ocl t g)] U.heap ∧ Zt (Al (sX D t ad) qo sz) U U.heap)
def QLt (D : va_G) (t : T5) (ad : Nat → Nat) (qo : Nat) (S : St) (A : Nat → Prop) (r g : Int) : Array Value → State → Outcome → State → Prop := fun _ st oc u => oc = .returned (some (vI r)) ∧ Bw (sX D t ad) A S u.heap ∧ va_P D vwCl [(qo, ocl t g)] u.heap ∧ va_F A st u
theorem PLt_blind {D : va_G} {t : T5} {ad : Nat → Nat} {qo : Nat} {S : St} {g : Int} {sz : Nat} {As : List Value} : FrameBlind (PLt D t ad qo S g sz As) := fun a U f mk q => by
  obtain ⟨q0, q1, q2, qZ⟩ := q
  obtain ⟨r0, r1⟩ := (Pw_blind (y := sX D t ad) (S := S) (sz := sz) (As := As)) a U f mk ⟨q0, q1⟩
  refine ⟨r0, r1, q2, ?_, ?_, fun w hw => va_Nw.same (u := U) (U := U.calling f mk a) (xB_on w hw) rfl (qZ.2.2 w hw)⟩
  · exact vx_Zq.moved (u := U) (U := U.calling f mk a) (Vm.Alike.refl U.vm) qZ.1
  · exact vx_Zq.moved (u := U) (U := U.calling f mk a) (Vm.Alike.refl U.vm) qZ.2.1
theorem vp_l {D : va_G} {cl : List vw_C} {w1 w2 : va_W} {H : Heap} (h : va_P D cl (w1 ++ w2) H) : va_P D cl w1 H := fun k q hk => h k q (by
  rw [List.getElem?_append_left (List.getElem?_eq_some_iff.mp hk).1]; exact hk)
theorem vp_r {D : va_G} {cl : List vw_C} {w1 w2 : va_W} {H : Heap} (h : va_P D cl (w1 ++ w2) H) : va_P D cl w2 H := fun k q hk => h (w1.length + k) q (by
  rw [List.getElem?_append_right (by omega), show w1.length + k - w1.length = k by omega]; exact hk)
theorem wd_in {y : Sys} {S : St} {k : Nat} {q : Nat × va_E} (h : (WD y S)[k]? = some q) : k < y.2.2.2.1 ∧ q = (y.2.2.1 k, cel y S k) := by
  have hl : k < (WD y S).length := (List.getElem?_eq_some_iff.mp h).1
  have hk : k < y.2.2.2.1 := by simpa [WD] using hl
  rw [WD_at hk] at h
  exact ⟨hk, (Option.some.inj h).symm⟩
theorem one_D {A : Nat → Prop} {q : Nat × va_E} (h : A q.1) : va_D A [q] := by
  refine ⟨fun i j p r hi hj _ => ?_, fun k r hk => ?_⟩
  · have h1 := (List.getElem?_eq_some_iff.mp hi).1
    have h2 := (List.getElem?_eq_some_iff.mp hj).1
    simp at h1 h2
    omega
  · have h1 := (List.getElem?_eq_some_iff.mp hk).1
    simp at h1
    subst h1
    cases hk
    exact h
abbrev rm_L_told : Room := ({ frames := 7, cells := 1, slots := 6, locals := 130 } : Room)
set_option maxRecDepth 100000 in
set_option maxHeartbeats 4000000 in
theorem c_L_told {l : Launch} (hl : l.stackTraces = false) {D : va_G} {t : T5} {ad : Nat → Nat} {qo : Nat} (hqo : ∀ k, k < 90 → ad k ≠ qo) {S : St} {a0 a1 r g g1 : Int} (hS : RS S) (ha0 : r32 a0) (ha1 : r32 a1) (hm : 0 ≤ S 4 5 ∧ S 4 5 ≤ 60)
    (hc : ((0 ≤ a0 ∧ a0 < S 4 5 ∧ 0 ≤ a1 ∧ a1 ≤ 5) ∧ dn_X6_callerFigure a0 a1 S = some (S, g1) ∧ r = 0) ∨ (¬ (0 ≤ a0 ∧ a0 < S 4 5 ∧ 0 ≤ a1 ∧ a1 ≤ 5) ∧ r = 1 ∧ g1 = g)) (sz : Nat) : Met l yL_told wsL_told rm_L_told (PLt D t ad qo S g sz [.ref (ad 0), vI a0, vI a1, .ref qo]) (QLt D t ad qo S (Al (sX D t ad) qo sz) r g1) 1 6 (Al (sX D t ad) qo sz) := by
  refine va_MetW (cc := cL_told) (maxL := 5) (ret := some .int) (hh := [(0, 10, 13, 13)]) (by decide +kernel) rfl ?_
  intro p e s m args below meth c s₁ B hml hv
  obtain ⟨rfl, ⟨hsz, hBw, hK, hN⟩, hPo, hZ⟩ := hv
  have hts := atoms_spec (ws := wsL_told) B.pre
  have hown : s.vm.findClass RL = some m.cls := findClass_of_methodNamed B.named
  have htab : c.exceptionTable.toList = [⟨0, 10, 13, 13⟩] := vx_table (x := yL_told) B (hts _ List.mem_cons_self)
  subst hsz
  have F : CallFix p m c cL_told 5 s #[.ref (ad 0), vI a0, vI a1, .ref qo] wsL_told RL := ⟨B.exec, B.bytes, hml, hown, hts⟩
  have hlocks := B.notSynchronized
  have hA : ∀ q, s.heap.size ≤ q → Al (sX D t ad) qo s.heap.size q := fun q h => Or.inl (Or.inr h)
  have hB : Bw (sX D t ad) (Al (sX D t ad) qo s.heap.size) S s.heap := ⟨hBw.1, hBw.2.1, fun k q hk => by
    obtain ⟨h1, rfl⟩ := wd_in hk
    exact Or.inl (Or.inl ⟨k, h1, rfl⟩)⟩
  have hqn : ∀ z : Nat, qo < z → ¬ Aw (sX D t ad) z qo := fun z hz h => by
    rcases h with ⟨k, hk, e⟩ | h
    · exact hqo k hk e.symm
    · omega
  have hqs : qo < s.heap.size := (hPo 0 (qo, ocl t g) rfl).lt
  have hl0 := lv_entry [.ref (ad 0), vI a0, vI a1, .ref qo] (n := 5) (Nat.le_of_ble_eq_true rfl)
  rw [lg_entry_eq]
  generalize (lg_sl [.ref (ad 0), vI a0, vI a1, .ref qo] ++ List.replicate (5 - (lg_sl [.ref (ad 0), vI a0, vI a1, .ref qo]).length) Slot.unset).toArray = ls at hl0 ⊢
  have hl0 : lv_has ls 5 [(0, .ref (ad 0)), (1, vI a0), (2, vI a1), (3, .ref qo)] := hl0
  refine lv_aload_n B.exec B.bytes dL_told_0 rfl (lv_at hl0 3 rfl) ?_
  refine lv_iconst (v := 0) B.exec B.bytes dL_told_1 (by decide) ?_
  refine lv_aload_n B.exec B.bytes dL_told_2 rfl (lv_at hl0 0 rfl) ?_
  refine lv_iload_n B.exec B.bytes dL_told_3 rfl (lv_at hl0 1 rfl) ?_
  refine lv_iload_n B.exec B.bytes dL_told_4 rfl (lv_at hl0 2 rfl) ?_
  rcases hc with ⟨hok, hdn, rfl⟩ | ⟨hno, rfl, rfl⟩
  · refine y_callV (y := sX D t ad) (S1 := S) (As := [vI a0, vI a1]) (rest := [vI 0, .ref qo]) F hA hK hN hB va_S.rf 0 2 (Nat.le_of_ble_eq_true rfl) rfl rfl (c_X8_told hS ha0 ha1 hm ⟨hok.1, hok.2.1⟩ hok.2.2 hdn) gL_told_X8_told rfl ⟨rfl, rfl⟩ (by decide +kernel) ⟨Nat.le_of_ble_eq_true rfl, Nat.le_of_ble_eq_true rfl⟩ rfl rfl (Nat.le_of_ble_eq_true rfl) ⟨Nat.zero_le _, Nat.zero_le _⟩ hl0.1 dL_told_5 (fun H1 locs1 _ hrg hB1 hS1 hz hk => ?_)
    show W p l e rm_L_told s m _ below meth c H1 locs1 0 0 _ (F0 m 8 ls [vI g1, vI 0, .ref qo])
    have hrg : r32 g1 := hrg
    have hPo1 : va_P D vwCl [(qo, ocl t g)] H1 := hPo.kept (fun k q9 h9 => by
      have h1 := (List.getElem?_eq_some_iff.mp h9).1
      simp at h1
      subst h1
      cases h9
      exact hk qo hqs (hqn _ hqs))
    refine lv_i2l B.exec B.bytes dL_told_8 (i2j hrg) ?_
    have hPj : va_P D vwCl (WD (sX D t ad) S ++ [(qo, ocl t g)]) H1 := hB1.1.app hPo1
    have hDj : va_D (Al (sX D t ad) qo s.heap.size) (WD (sX D t ad) S ++ [(qo, ocl t g)]) := hB1.2.app (one_D (Or.inr rfl)) (fun i j p9 q9 hi hj he => by
      obtain ⟨h1, rfl⟩ := wd_in hi
      have h2 := (List.getElem?_eq_some_iff.mp hj).1
      simp at h2
      subst h2
      cases hj
      exact hqo i h1 he)
    have hlen : (WD (sX D t ad) S).length = 90 := by simp [WD]
    refine va_last (i := Int32.ofInt 0) (x := Int64.ofInt g1) B.exec B.bytes hK hPj hDj hS1 90 1 (by rw [List.getElem?_append_right (by omega), hlen]; rfl) rfl (i_in (x := 0) (n := 1) (by decide) (by decide) (by decide)) dL_told_9 (fun H2 locs2 hP2 hD2 hS2 => ?_)
    have eset : (WD (sX D t ad) S ++ [(qo, ocl t g)]).set 90 (qo, .inl (t.2.1, 1, .inr (.inl (vp_updL (fun _ => Int64.ofInt g) (Int32.ofInt 0).toNatClampNeg (Int64.ofInt g1))))) = WD (sX D t ad) S ++ [(qo, .inl (t.2.1, 1, .inr (.inl (vp_updL (fun _ => Int64.ofInt g) (Int32.ofInt 0).toNatClampNeg (Int64.ofInt g1)))))] := by
      rw [List.set_append_right _ _ (by omega), hlen]; rfl
    rw [eset] at hP2 hD2
    refine lv_goto (tgt := 17) B.exec B.bytes dL_told_10 (by decide) ?_
    refine lv_iconst (v := 0) B.exec B.bytes dL_told_17 (by decide) ?_
    refine W.widen (k := 1) (n := 6) (Nat.zero_le _) (Nat.zero_le _) ?_
    refine W.iret (v := 0) B.exec B.bytes B.returns (fun u hu hW => ⟨rfl, ⟨by rw [hu]; exact vp_l hP2, hB1.2⟩, ?_, hS2.F hu⟩) hS2.2.2 dL_told_18
    intro k q9 hk9
    have h1 := (List.getElem?_eq_some_iff.mp hk9).1
    simp at h1
    subst h1
    cases hk9
    have := vp_r hP2 0 _ rfl
    rw [hu]
    show H2[qo]? = some (vp_cell _ _)
    have h3 : H2[qo]? = some (vp_cell t.2.1 (1, .inr (.inl (vp_updL (fun _ => Int64.ofInt g) (Int32.ofInt 0).toNatClampNeg (Int64.ofInt g1))))) := this
    rw [h3, vp_cell_l, vp_cell_l]
    congr 1
  · have hr := vx_runV (e := e) (R := rm_L_told) (below := below) (meth := meth) (H := s.heap) (locs := []) (cells := 0) (slots := 0) (g := F0 m 5 ls [vI a1, vI a0, .ref (ad 0), vI 0, .ref qo]) (As := [vI a0, vI a1]) (rest := [vI 0, .ref qo]) F (c_X8_toldX hl (D := D) (t := t) (ad := ad) hS ha0 ha1 hm hno s.heap.size) (cwV 2 hts gL_told_X8_told rfl rfl rfl (by decide +kernel) ⟨Nat.le_of_ble_eq_true rfl, Nat.le_of_ble_eq_true rfl⟩) ⟨Pt9_blind, va_recv hK hB.1 (ci := 8) (q0 := 0) (q := (RX8, TX8, 4)) rfl (WD_at (y := sX D t ad) (by show 0 < 90; omega)), fun U hU hW => ⟨rfl, ⟨by rw [hU], by rw [hU]; exact hBw, va_K.moved hW.alike hK, hN.warm hW⟩, by rw [hU]; exact hZ.go hW (fun _ _ _ => rfl) (fun q h => Or.inl h)⟩⟩ rfl rfl hl0.1 rfl (lv_room (Nat.le_of_ble_eq_true rfl)) dL_told_5 ⟨Nat.le_of_ble_eq_true rfl, Nat.le_of_ble_eq_true rfl⟩
    intro T hT X
    rcases hr T hT X with ⟨v, st₀, u, T', L, h0, X', hL, e1, e2, hq, st⟩ | ⟨q, st₀, u, T', L, E, ce, h0, X', hL, e1, e2, ⟨rfl, hB1, hF⟩, hce, hcv, hcl, st⟩
    · exact hq.elim
    · obtain ⟨hz, hk⟩ := hF
      rw [h0] at hz hk
      have hkq : ∀ z : Nat, z < s.heap.size → ¬ Aw (sX D t ad) s.heap.size z → T'.heap[z]? = s.heap[z]? := fun z h1 h2 => by rw [e1]; exact hk z h1 h2
      have hS1 : va_S (Al (sX D t ad) qo s.heap.size) s.heap T'.heap ([] ++ L) := ⟨by rw [e1]; exact hz, fun z h1 h2 => hkq z h1 (fun h => h2 (Or.inl h)), fun z hz9 => Or.inl (hL z (by simpa using hz9))⟩
      have hPo1 : va_P D vwCl [(qo, ocl t g1)] T'.heap := hPo.kept (fun k q9 h9 => by
        have h1 := (List.getElem?_eq_some_iff.mp h9).1
        simp at h1
        subst h1
        cases h9
        exact hkq qo hqs (hqn _ hqs))
      have hB2 : Bw (sX D t ad) (Al (sX D t ad) qo s.heap.size) S T'.heap := by rw [e1]; exact ⟨hB1.1, hB1.2.weaken (fun _ _ _ h => Or.inl h)⟩
      have kk : W p l e rm_L_told s m #[.ref (ad 0), vI a0, vI a1, .ref qo] below meth c T'.heap ([] ++ L) (0 + 1) (0 + 6) (MQ below (QLt D t ad qo S (Al (sX D t ad) qo s.heap.size) 1 g1) #[.ref (ad 0), vI a0, vI a1, .ref qo] s 1 6 (Al (sX D t ad) qo s.heap.size)) (F0 m 13 ls [.ref q]) := by
        refine lv_astore (lv' := [(4, .ref q), (0, .ref (ad 0)), (1, vI a0), (2, vI a1), (3, .ref qo)]) B.exec B.bytes dL_told_13 hl0 (by decide) rfl (fun ls2 hl2 => ?_)
        refine lv_iconst (v := 1) B.exec B.bytes dL_told_15 (by decide) ?_
        exact W.iret (v := 1) B.exec B.bytes B.returns (fun w hw hW => ⟨rfl, by rw [hw]; exact hB2, by rw [hw]; exact hPo1, hS1.F hw⟩) hS1.2.2 dL_told_16
      have hct := ct_catch (pc := 5) (ls := ls) (rest := [vI 0, .ref qo]) (own := RL) (name := xN) (E := xN) (x := ⟨0, 10, 13, 13⟩) hown htab (by decide) (by decide) (hts (.classLink RL 13 "java/util/NoSuchElementException") (by decide +kernel)) (va_Nw.use (xB_on _ (by decide +kernel)) (hZ.2.2 (.castable xN xN) (by decide +kernel))) (H := T'.heap) (by rw [e1]; exact hce) hcv hcl kk
      obtain ⟨t2, a1, b1⟩ := hct T' rfl X'
      exact ⟨t2, st.trans a1, b1⟩
