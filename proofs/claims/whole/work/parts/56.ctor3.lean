/-! Pool and LinePool: their constructors -/
def lineC (i : Nat) : va_E := .inr (3, [vI (i : Int), vI 0, vI 0, .null, vI 0, vI 0])
def callC (i : Nat) : va_E := .inr (1, [vI (i : Int), vI 0, vI 0, vI 0, vI 0, vI 0, vI 0, vI 0, vI 0, vI 0])
/-- cells of a kind, numbered, at the addresses of a list -/
def fam (c : Nat → va_E) : Nat → List Nat → va_W
  | _, [] => []
  | i, a :: r => (a, c i) :: fam c (i + 1) r
theorem fam_app {c : Nat → va_E} : ∀ (as : List Nat) (i q : Nat), fam c i (as ++ [q]) = fam c i as ++ [(q, c (i + as.length))]
  | [], i, q => rfl
  | a :: r, i, q => by
    show (a, c i) :: fam c (i + 1) (r ++ [q]) = _
    rw [fam_app r (i + 1) q]
    show _ = (a, c i) :: (fam c (i + 1) r ++ [(q, c (i + (r.length + 1)))])
    rw [show i + 1 + r.length = i + (r.length + 1) by omega]
theorem fam_len {c : Nat → va_E} : ∀ (as : List Nat) (i : Nat), (fam c i as).length = as.length
  | [], _ => rfl
  | a :: r, i => by show (fam c (i + 1) r).length + 1 = r.length + 1; rw [fam_len r (i + 1)]
abbrev refs (as : List Nat) : (Nat → Int32) ⊕ (Nat → Int64) ⊕ (Nat → UInt32) ⊕ (Nat → UInt64) ⊕ (Nat → Option Nat) := .inr (.inr (.inr (.inr (fun j => as[j]?))))
theorem refs_up {as : List Nat} {q i : Nat} (h : as.length = i) : va_up (fun j => as[j]?) (i : Int).toNat (some q) = fun j => (as ++ [q])[j]? := by
  funext j
  unfold va_up
  rw [Int.toNat_natCast]
  by_cases z : j = i
  · rw [if_pos z, z, ← h, List.getElem?_append_right (Nat.le_refl _), Nat.sub_self]; rfl
  · rw [if_neg z]
    by_cases z2 : j < i
    · rw [List.getElem?_append_left (by omega)]
    · have e1 : as[j]? = none := List.getElem?_eq_none (by omega)
      have e2 : (as ++ [q])[j]? = none := List.getElem?_eq_none (by simp; omega)
      show as[j]? = (as ++ [q])[j]?
      rw [e1, e2]
theorem refs_0 {cA : ClassId} {n : Nat} : (Sum.inl (cA, n, .inr (.inr (.inr (.inr (fun _ => none))))) : va_E) = .inl (cA, n, refs []) := by
  have r0 : (fun _ => none : Nat → Option Nat) = fun j => ([] : List Nat)[j]? := funext (fun _ => List.getElem?_nil.symm)
  rw [r0]
theorem ap_set1 {α : Type} {l1 l2 : List α} {a b : α} {n : Nat} (h : l1.length = n) : (l1 ++ a :: l2).set n b = l1 ++ b :: l2 := by
  subst h
  rw [List.set_append_right _ _ (Nat.le_refl _), Nat.sub_self]; rfl
theorem ap_get1 {α : Type} {l1 l2 : List α} {a : α} {n : Nat} (h : l1.length = n) : (l1 ++ a :: l2)[n]? = some a := by
  subst h
  rw [List.getElem?_append_right (Nat.le_refl _), Nat.sub_self]; rfl
abbrev rm_X6_init : Room := ({ frames := 2, cells := 80, slots := 1479, locals := 40 } : Room)
abbrev mi_X6_init : Mi := (cX6_init, 3, RX6, wsX6_init, rm_X6_init, none)
set_option maxRecDepth 20000 in
theorem in_X6_init_X6 : ∀ w ∈ u_ws RX6 TX6 11, w ∈ wsX6_init := by decide +kernel
set_option maxRecDepth 20000 in
theorem in_X6_init_X3 : ∀ w ∈ u_ws RX3 TX3 6, w ∈ wsX6_init := by decide +kernel
set_option maxRecDepth 20000 in
theorem in_X6_init_X1 : ∀ w ∈ u_ws RX1 TX1 10, w ∈ wsX6_init := by decide +kernel
set_option maxRecDepth 20000 in
theorem in_X6_init_X0 : ∀ w ∈ u_ws RX0 TX0 3, w ∈ wsX6_init := by decide +kernel
set_option maxRecDepth 20000 in
theorem in_X6_init_X4 : ∀ w ∈ u_ws RX4 TX4 3, w ∈ wsX6_init := by decide +kernel
abbrev poolF (hs a b c d : Value) : List Value := [hs, a, b, c, d, vI 0, vI 0, vI 0, vJ 0, vI 0, vI 0]
abbrev N6 (t : T5) (h0 hs : Nat) (v : (Nat → Nat) × List Nat × List Nat) : va_W := (((h0, .inr (6, poolF (.ref hs) (.ref (v.1 5)) (.ref (v.1 6)) (.ref (v.1 7)) (.ref (v.1 10)))) :: (v.1 5, .inl (t.2.2.2.2, 12, refs v.2.1)) :: fam lineC 0 v.2.1) ++ ((v.1 6, .inl (t.2.2.2.1, 60, refs v.2.2)) :: fam callC 0 v.2.2)) ++ [(v.1 7, .inr (0, [.ref (v.1 8), .ref (v.1 9), vI 0])), (v.1 8, .inl (t.1, az 60)), (v.1 9, .inl (t.1, az 60)), (v.1 10, .inr (4, [.ref (v.1 11), .ref (v.1 12), vI 0])), (v.1 11, .inl (t.1, az 600)), (v.1 12, .inl (t.1, az 9))]
section POL
variable {D : va_G} {t : T5} {A : Nat → Prop} {ws : va_W} {x : Mx} {V : Type} {ok : V → Prop} {N : V → va_W} {mm : Nat × Nat}
set_option maxRecDepth 20000 in
set_option maxHeartbeats 4000000 in
theorem X6_l1 {h0 hs qa : Nat} {P0 : va_W} {F : List Value} (hF : F[1]? = some (.ref qa)) (hP : P0.length = 0) (C : CK D t A mi_X6_init x)
    (kk : ∀ as : List Nat, as.length = 12 → KW D t A ws ok N mm mi_X6_init x (((h0, .inr (6, F)) :: P0) ++ ((qa, .inl (t.2.2.2.2, 12, refs as)) :: fam lineC 0 as)) 13 84 46 [(2, vI 12), (0, .ref h0), (1, .ref hs)] []) :
    ∀ (d i : Nat) (as : List Nat), i + d = 12 → as.length = i → KW D t A ws ok N mm mi_X6_init x (((h0, .inr (6, F)) :: P0) ++ ((qa, .inl (t.2.2.2.2, 12, refs as)) :: fam lineC 0 as)) (1 + i) (12 + 6 * i) 20 [(2, vI (i : Int)), (0, .ref h0), (1, .ref hs)] [] := by
  intro d
  induction d with
  | zero =>
    intro i as hi ha
    have : i = 12 := by omega
    subst this
    refine k_iload_n (n := 21) C 0 dX6_init_20 rfl rfl ?_
    refine k_bipush (n := 23) C dX6_init_21 (by decide +kernel) rfl ?_
    refine k_icmp_ge (n := 26) C 46 (by decide) (by decide) dX6_init_23 (by decide) rfl (fun _ => ?_) (fun h => absurd (by decide) h)
    exact kk as ha
  | succ d ih =>
    intro i as hi ha
    refine k_iload_n (n := 21) C 0 dX6_init_20 rfl rfl ?_
    refine k_bipush (n := 23) C dX6_init_21 (by decide +kernel) rfl ?_
    refine k_icmp_ge (n := 26) C 46 ⟨by omega, by omega⟩ (by decide) dX6_init_23 (by decide) rfl (fun h => absurd h (by omega)) (fun _ => ?_)
    refine k_aload_n (n := 27) C 1 dX6_init_26 rfl rfl ?_
    refine k_getf (n := 30) C 0 1 rfl rfl (Nat.le_of_ble_eq_true rfl) in_X6_init_X6 (by decide +kernel) hF dX6_init_27 rfl ?_
    refine k_iload_n (n := 31) C 0 dX6_init_30 rfl rfl ?_
    refine k_new (n := 34) C (ci := 3) (fs := [vI 0, vI 0, vI 0, .null, vI 0, vI 0]) (ty0 := tyX3) rfl in_X6_init_X3 tyX3_ok (by decide +kernel) (by decide +kernel) (by decide +kernel) (fun j hj => by rcases (show j = 0 ∨ j = 1 ∨ j = 2 ∨ j = 3 ∨ j = 4 ∨ j = 5 by omega) with rfl | rfl | rfl | rfl | rfl | rfl <;> rfl) ⟨by show 1 + i + 1 ≤ 80; omega, by show 12 + 6 * i + 6 ≤ 1479; omega⟩ dX6_init_31 rfl (fun q => ?_)
    refine k_dup (n := 35) C rfl dX6_init_34 rfl ?_
    refine k_iload_n (n := 36) C 0 dX6_init_35 rfl rfl ?_
    refine k_call (n := 39) C 1 (As := [vI (i : Int)]) (rest := [.ref q, vI (i : Int), .ref qa]) rfl (c_X3_init (a := (i : Int))) gX6_init_X3_init rfl ⟨rfl, rfl⟩ (by decide +kernel) (by decide +kernel) (by decide +kernel) rfl (by decide +kernel) ⟨Nat.le_of_ble_eq_true rfl, Nat.le_of_ble_eq_true rfl⟩ rfl rfl (Nat.le_of_ble_eq_true rfl) ⟨by show 1 + i + 1 + 0 ≤ 80; omega, by show 12 + 6 * i + 6 + 0 ≤ 1479; omega⟩ dX6_init_36 rfl (fun _ _ => ?_)
    have e1 : ((((h0, .inr (6, F)) :: P0) ++ ((qa, .inl (t.2.2.2.2, 12, refs as)) :: fam lineC 0 as)) ++ [(q, lineC i)] : va_W) = ((h0, .inr (6, F)) :: P0) ++ ((qa, .inl (t.2.2.2.2, 12, refs as)) :: fam lineC 0 (as ++ [q])) := by
      rw [List.append_assoc, fam_app, Nat.zero_add, ha]; rfl
    refine k_L (L' := ((h0, .inr (6, F)) :: P0) ++ ((qa, .inl (t.2.2.2.2, 12, refs as)) :: fam lineC 0 (as ++ [q]))) e1 ?_
    have hl : ((h0, .inr (6, F)) :: P0 : va_W).length = 1 := by show P0.length + 1 = 1; omega
    refine k_aast (n := 40) C 1 4 (1 + 1 + i) 3 (q := q) (vs := [vI (i : Int), vI 0, vI 0, .null, vI 0, vI 0]) (ap_get1 hl) rfl (by
      rw [List.getElem?_append_right (by omega), hl, show 1 + 1 + i - 1 = i + 1 by omega]
      show (fam lineC 0 (as ++ [q]))[i]? = _
      rw [fam_app, List.getElem?_append_right (by rw [fam_len]; omega), fam_len, ha, Nat.sub_self, Nat.zero_add]; rfl) rfl ⟨by omega, by omega⟩ (by decide) (refs_up ha) dX6_init_39 rfl ?_
    refine k_L (L' := ((h0, .inr (6, F)) :: P0) ++ ((qa, .inl (t.2.2.2.2, 12, refs (as ++ [q]))) :: fam lineC 0 (as ++ [q]))) (ap_set1 hl) ?_
    refine k_iinc (n := 43) C 0 (lv' := [(2, vI ((i + 1 : Nat) : Int)), (0, .ref h0), (1, .ref hs)]) dX6_init_40 rfl (Nat.le_of_ble_eq_true rfl) (w32_s (by omega)).symm rfl rfl ?_
    refine k_goto C 20 dX6_init_43 (by decide) ?_
    refine k_wide (c2 := 1 + (i + 1)) (s2 := 12 + 6 * (i + 1)) (by omega) (by omega) ?_
    exact ih (i + 1) (as ++ [q]) (by omega) (by rw [List.length_append]; show as.length + 1 = i + 1; omega)
set_option maxRecDepth 20000 in
set_option maxHeartbeats 4000000 in
theorem X6_l2 {h0 hs qa : Nat} {P0 : va_W} {F : List Value} (hF : F[2]? = some (.ref qa)) (hP : P0.length = 13) (C : CK D t A mi_X6_init x)
    (kk : ∀ as : List Nat, as.length = 60 → KW D t A ws ok N mm mi_X6_init x (((h0, .inr (6, F)) :: P0) ++ ((qa, .inl (t.2.2.2.1, 60, refs as)) :: fam callC 0 as)) 74 744 83 [(2, vI 60), (0, .ref h0), (1, .ref hs)] []) :
    ∀ (d i : Nat) (as : List Nat), i + d = 60 → as.length = i → KW D t A ws ok N mm mi_X6_init x (((h0, .inr (6, F)) :: P0) ++ ((qa, .inl (t.2.2.2.1, 60, refs as)) :: fam callC 0 as)) (14 + i) (144 + 10 * i) 57 [(2, vI (i : Int)), (0, .ref h0), (1, .ref hs)] [] := by
  intro d
  induction d with
  | zero =>
    intro i as hi ha
    have : i = 60 := by omega
    subst this
    refine k_iload_n (n := 58) C 0 dX6_init_57 rfl rfl ?_
    refine k_bipush (n := 60) C dX6_init_58 (by decide +kernel) rfl ?_
    refine k_icmp_ge (n := 63) C 83 (by decide) (by decide) dX6_init_60 (by decide) rfl (fun _ => ?_) (fun h => absurd (by decide) h)
    exact kk as ha
  | succ d ih =>
    intro i as hi ha
    refine k_iload_n (n := 58) C 0 dX6_init_57 rfl rfl ?_
    refine k_bipush (n := 60) C dX6_init_58 (by decide +kernel) rfl ?_
    refine k_icmp_ge (n := 63) C 83 ⟨by omega, by omega⟩ (by decide) dX6_init_60 (by decide) rfl (fun h => absurd h (by omega)) (fun _ => ?_)
    refine k_aload_n (n := 64) C 1 dX6_init_63 rfl rfl ?_
    refine k_getf (n := 67) C 0 2 rfl rfl (Nat.le_of_ble_eq_true rfl) in_X6_init_X6 (by decide +kernel) hF dX6_init_64 rfl ?_
    refine k_iload_n (n := 68) C 0 dX6_init_67 rfl rfl ?_
    refine k_new (n := 71) C (ci := 1) (fs := [vI 0, vI 0, vI 0, vI 0, vI 0, vI 0, vI 0, vI 0, vI 0, vI 0]) (ty0 := tyX1) rfl in_X6_init_X1 tyX1_ok (by decide +kernel) (by decide +kernel) (by decide +kernel) (fun j hj => by rcases (show j = 0 ∨ j = 1 ∨ j = 2 ∨ j = 3 ∨ j = 4 ∨ j = 5 ∨ j = 6 ∨ j = 7 ∨ j = 8 ∨ j = 9 by omega) with rfl | rfl | rfl | rfl | rfl | rfl | rfl | rfl | rfl | rfl <;> rfl) ⟨by show 14 + i + 1 ≤ 80; omega, by show 144 + 10 * i + 10 ≤ 1479; omega⟩ dX6_init_68 rfl (fun q => ?_)
    refine k_dup (n := 72) C rfl dX6_init_71 rfl ?_
    refine k_iload_n (n := 73) C 0 dX6_init_72 rfl rfl ?_
    refine k_call (n := 76) C 1 (As := [vI (i : Int)]) (rest := [.ref q, vI (i : Int), .ref qa]) rfl (c_X1_init (a := (i : Int))) gX6_init_X1_init rfl ⟨rfl, rfl⟩ (by decide +kernel) (by decide +kernel) (by decide +kernel) rfl (by decide +kernel) ⟨Nat.le_of_ble_eq_true rfl, Nat.le_of_ble_eq_true rfl⟩ rfl rfl (Nat.le_of_ble_eq_true rfl) ⟨by show 14 + i + 1 + 0 ≤ 80; omega, by show 144 + 10 * i + 10 + 0 ≤ 1479; omega⟩ dX6_init_73 rfl (fun _ _ => ?_)
    have e1 : ((((h0, .inr (6, F)) :: P0) ++ ((qa, .inl (t.2.2.2.1, 60, refs as)) :: fam callC 0 as)) ++ [(q, callC i)] : va_W) = ((h0, .inr (6, F)) :: P0) ++ ((qa, .inl (t.2.2.2.1, 60, refs as)) :: fam callC 0 (as ++ [q])) := by
      rw [List.append_assoc, fam_app, Nat.zero_add, ha]; rfl
    refine k_L (L' := ((h0, .inr (6, F)) :: P0) ++ ((qa, .inl (t.2.2.2.1, 60, refs as)) :: fam callC 0 (as ++ [q]))) e1 ?_
    have hl : ((h0, .inr (6, F)) :: P0 : va_W).length = 14 := by show P0.length + 1 = 14; omega
    refine k_aast (n := 77) C 14 3 (14 + 1 + i) 1 (q := q) (vs := [vI (i : Int), vI 0, vI 0, vI 0, vI 0, vI 0, vI 0, vI 0, vI 0, vI 0]) (ap_get1 hl) rfl (by
      rw [List.getElem?_append_right (by omega), hl, show 14 + 1 + i - 14 = i + 1 by omega]
      show (fam callC 0 (as ++ [q]))[i]? = _
      rw [fam_app, List.getElem?_append_right (by rw [fam_len]; omega), fam_len, ha, Nat.sub_self, Nat.zero_add]; rfl) rfl ⟨by omega, by omega⟩ (by decide) (refs_up ha) dX6_init_76 rfl ?_
    refine k_L (L' := ((h0, .inr (6, F)) :: P0) ++ ((qa, .inl (t.2.2.2.1, 60, refs (as ++ [q]))) :: fam callC 0 (as ++ [q]))) (ap_set1 hl) ?_
    refine k_iinc (n := 80) C 0 (lv' := [(2, vI ((i + 1 : Nat) : Int)), (0, .ref h0), (1, .ref hs)]) dX6_init_77 rfl (Nat.le_of_ble_eq_true rfl) (w32_s (by omega)).symm rfl rfl ?_
    refine k_goto C 57 dX6_init_80 (by decide) ?_
    refine k_wide (c2 := 14 + (i + 1)) (s2 := 144 + 10 * (i + 1)) (by omega) (by omega) ?_
    exact ih (i + 1) (as ++ [q]) (by omega) (by rw [List.length_append]; show as.length + 1 = i + 1; omega)
end POL
set_option maxRecDepth 20000 in
set_option maxHeartbeats 4000000 in
theorem c_X6_init {l : Launch} {D : va_G} {t : T5} {h0 hs : Nat} : MK l D t yX6_init wsX6_init rm_X6_init [.ref h0, .ref hs] [(h0, .inr (6, poolF .null .null .null .null .null))] (fun v : (Nat → Nat) × List Nat × List Nat => v.2.1.length = 12 ∧ v.2.2.length = 60) (N6 t h0 hs) 80 1479 := by
  refine MK_of (cc := cX6_init) (nL := 3) (by decide +kernel) rfl rfl (Nat.le_of_ble_eq_true rfl) (lv := [(0, .ref h0), (1, .ref hs)]) rfl (fun A ws x C _ => ?_)
  show KW D t A ws _ _ _ mi_X6_init x [(h0, .inr (6, poolF .null .null .null .null .null))] 0 0 0 _ []
  refine k_aload_n (n := 1) C 0 dX6_init_0 rfl rfl ?_
  refine k_obj (n := 4) C (by decide +kernel) (by decide +kernel) (by decide +kernel) ⟨Nat.le_of_ble_eq_true rfl, Nat.le_of_ble_eq_true rfl⟩ dX6_init_1 rfl ?_
  refine k_aload_n (n := 5) C 0 dX6_init_4 rfl rfl ?_
  refine k_aload_n (n := 6) C 1 dX6_init_5 rfl rfl ?_
  refine k_putF (n := 9) C 0 0 (ty0 := tyX6) (ty := .object "LinePool$Settings") rfl rfl (Nat.le_of_ble_eq_true rfl) in_X6_init_X6 tyX6_ok nmX6 (by decide +kernel) rfl rfl (by decide +kernel) rfl rfl (Nat.le_of_ble_eq_true rfl) dX6_init_6 rfl ?_
  refine k_L (L' := [(h0, .inr (6, poolF (.ref hs) .null .null .null .null))]) rfl ?_
  refine k_aload_n (n := 10) C 0 dX6_init_9 rfl rfl ?_
  refine k_bipush (n := 12) C dX6_init_10 (by decide +kernel) rfl ?_
  refine k_newq (n := 15) C 4 (M := 12) C.2.2.2.2.2.2.1.2.2.1 rfl (by decide +kernel) (by decide) rfl ⟨Nat.le_of_ble_eq_true rfl, Nat.le_of_ble_eq_true rfl⟩ dX6_init_12 rfl (fun ql => ?_)
  refine k_wide (c2 := 1) (s2 := 12) (Nat.le_of_ble_eq_true rfl) (Nat.le_of_ble_eq_true rfl) ?_
  refine k_putF (n := 18) C 0 1 (ty0 := tyX6) (ty := .array (.object "LinePool$Line")) rfl rfl (Nat.le_of_ble_eq_true rfl) in_X6_init_X6 tyX6_ok nmX6 (by decide +kernel) rfl rfl (by decide +kernel) rfl rfl (Nat.le_of_ble_eq_true rfl) dX6_init_15 rfl ?_
  refine k_L (L' := ((h0, .inr (6, poolF (.ref hs) (.ref ql) .null .null .null)) :: []) ++ ((ql, .inl (t.2.2.2.2, 12, refs [])) :: fam lineC 0 [])) (by rw [← refs_0]; rfl) ?_
  refine k_iconst (n := 19) C dX6_init_18 rfl ?_
  refine k_istore_n (n := 20) (lv' := [(2, vI 0), (0, .ref h0), (1, .ref hs)]) C dX6_init_19 (Nat.le_of_ble_eq_true rfl) rfl rfl ?_
  refine X6_l1 (P0 := []) rfl rfl C (fun as ha => ?_) 12 0 [] (by omega) rfl
  refine k_aload_n (n := 47) C 1 dX6_init_46 rfl rfl ?_
  refine k_bipush (n := 49) C dX6_init_47 (by decide +kernel) rfl ?_
  refine k_newq (n := 52) C 3 (M := 60) C.2.2.2.2.2.2.1.2.2.2 rfl (by decide +kernel) (by decide) rfl ⟨Nat.le_of_ble_eq_true rfl, Nat.le_of_ble_eq_true rfl⟩ dX6_init_49 rfl (fun qc => ?_)
  refine k_wide (c2 := 14) (s2 := 144) (Nat.le_of_ble_eq_true rfl) (Nat.le_of_ble_eq_true rfl) ?_
  refine k_putF (n := 55) C 0 2 (ty0 := tyX6) (ty := .array (.object "LinePool$Caller")) rfl rfl (Nat.le_of_ble_eq_true rfl) in_X6_init_X6 tyX6_ok nmX6 (by decide +kernel) rfl rfl (by decide +kernel) rfl rfl (Nat.le_of_ble_eq_true rfl) dX6_init_52 rfl ?_
  refine k_L (L' := ((h0, .inr (6, poolF (.ref hs) (.ref ql) (.ref qc) .null .null)) :: ((ql, .inl (t.2.2.2.2, 12, refs as)) :: fam lineC 0 as)) ++ ((qc, .inl (t.2.2.2.1, 60, refs [])) :: fam callC 0 [])) (by rw [← refs_0]; rfl) ?_
  refine k_iconst (n := 56) C dX6_init_55 rfl ?_
  refine k_istore_n (n := 57) (lv' := [(2, vI 0), (0, .ref h0), (1, .ref hs)]) C dX6_init_56 (Nat.le_of_ble_eq_true rfl) rfl rfl ?_
  refine X6_l2 (P0 := ((ql, .inl (t.2.2.2.2, 12, refs as)) :: fam lineC 0 as)) rfl (by show (fam lineC 0 as).length + 1 = 13; rw [fam_len, ha]) C (fun bs hb => ?_) 60 0 [] (by omega) rfl
  refine k_aload_n (n := 84) C 1 dX6_init_83 rfl rfl ?_
  refine k_new (n := 87) C (ci := 0) (fs := [.null, .null, vI 0]) (ty0 := tyX0) rfl in_X6_init_X0 tyX0_ok (by decide +kernel) (by decide +kernel) (by decide +kernel) (fun j hj => by rcases (show j = 0 ∨ j = 1 ∨ j = 2 by omega) with rfl | rfl | rfl <;> rfl) ⟨Nat.le_of_ble_eq_true rfl, Nat.le_of_ble_eq_true rfl⟩ dX6_init_84 rfl (fun qb => ?_)
  refine k_wide (c2 := 75) (s2 := 747) (Nat.le_of_ble_eq_true rfl) (Nat.le_of_ble_eq_true rfl) ?_
  refine k_dup (n := 88) C rfl dX6_init_87 rfl ?_
  refine k_call (n := 91) C 0 (As := []) (rest := [.ref qb, .ref h0]) rfl c_X0_init gX6_init_X0_init rfl ⟨rfl, rfl⟩ (by decide +kernel) (by decide +kernel) (by decide +kernel) rfl (by decide +kernel) ⟨Nat.le_of_ble_eq_true rfl, Nat.le_of_ble_eq_true rfl⟩ rfl rfl (Nat.le_of_ble_eq_true rfl) ⟨Nat.le_of_ble_eq_true rfl, Nat.le_of_ble_eq_true rfl⟩ dX6_init_88 rfl (fun v1 _ => ?_)
  refine k_wide (c2 := 77) (s2 := 867) (Nat.le_of_ble_eq_true rfl) (Nat.le_of_ble_eq_true rfl) ?_
  refine k_putF (n := 94) C 0 3 (ty0 := tyX6) (ty := .object "LinePool$Breaks") rfl rfl (Nat.le_of_ble_eq_true rfl) in_X6_init_X6 tyX6_ok nmX6 (by decide +kernel) rfl rfl (by decide +kernel) rfl rfl (Nat.le_of_ble_eq_true rfl) dX6_init_91 rfl ?_
  refine k_aload_n (n := 95) C 1 dX6_init_94 rfl rfl ?_
  refine k_new (n := 98) C (ci := 4) (fs := [.null, .null, vI 0]) (ty0 := tyX4) rfl in_X6_init_X4 tyX4_ok (by decide +kernel) (by decide +kernel) (by decide +kernel) (fun j hj => by rcases (show j = 0 ∨ j = 1 ∨ j = 2 by omega) with rfl | rfl | rfl <;> rfl) ⟨Nat.le_of_ble_eq_true rfl, Nat.le_of_ble_eq_true rfl⟩ dX6_init_95 rfl (fun qg => ?_)
  refine k_wide (c2 := 78) (s2 := 870) (Nat.le_of_ble_eq_true rfl) (Nat.le_of_ble_eq_true rfl) ?_
  refine k_dup (n := 99) C rfl dX6_init_98 rfl ?_
  refine k_call (n := 102) C 0 (As := []) (rest := [.ref qg, .ref h0]) rfl c_X4_init gX6_init_X4_init rfl ⟨rfl, rfl⟩ (by decide +kernel) (by decide +kernel) (by decide +kernel) rfl (by decide +kernel) ⟨Nat.le_of_ble_eq_true rfl, Nat.le_of_ble_eq_true rfl⟩ rfl rfl (Nat.le_of_ble_eq_true rfl) ⟨Nat.le_of_ble_eq_true rfl, Nat.le_of_ble_eq_true rfl⟩ dX6_init_99 rfl (fun v2 _ => ?_)
  refine k_wide (c2 := 80) (s2 := 1479) (Nat.le_of_ble_eq_true rfl) (Nat.le_of_ble_eq_true rfl) ?_
  refine k_putF (n := 105) C 0 4 (ty0 := tyX6) (ty := .object "LinePool$Log") rfl rfl (Nat.le_of_ble_eq_true rfl) in_X6_init_X6 tyX6_ok nmX6 (by decide +kernel) rfl rfl (by decide +kernel) rfl rfl (Nat.le_of_ble_eq_true rfl) dX6_init_102 rfl ?_
  refine k_ret C ((fun k => match k with | 5 => ql | 6 => qc | 7 => qb | 8 => v1.1 | 9 => v1.2 | 10 => qg | 11 => v2.1 | _ => v2.2), as, bs) ⟨ha, hb⟩ ?_ ⟨Nat.le_refl _, Nat.le_refl _⟩ dX6_init_105
  simp only [List.cons_append, List.append_assoc, List.set_cons_zero, List.nil_append, List.set_cons_succ]
abbrev rm_X8_init : Room := ({ frames := 3, cells := 89, slots := 1777, locals := 70 } : Room)
abbrev mi_X8_init : Mi := (cX8_init, 1, RX8, wsX8_init, rm_X8_init, none)
set_option maxRecDepth 20000 in
theorem in_X8_init_X8 : ∀ w ∈ u_ws RX8 TX8 4, w ∈ wsX8_init := by decide +kernel
set_option maxRecDepth 20000 in
theorem in_X8_init_X7 : ∀ w ∈ u_ws RX7 TX7 2, w ∈ wsX8_init := by decide +kernel
set_option maxRecDepth 20000 in
theorem in_X8_init_X6 : ∀ w ∈ u_ws RX6 TX6 11, w ∈ wsX8_init := by decide +kernel
set_option maxRecDepth 20000 in
theorem in_X8_init_X5 : ∀ w ∈ u_ws RX5 TX5 3, w ∈ wsX8_init := by decide +kernel
set_option maxRecDepth 20000 in
theorem in_X8_init_X2 : ∀ w ∈ u_ws RX2 TX2 7, w ∈ wsX8_init := by decide +kernel
abbrev N8 (t : T5) (v : (Nat → Nat) × List Nat × List Nat) : va_W := [(v.1 0, .inr (8, [.ref (v.1 1), .ref (v.1 4), .ref (v.1 13), .ref (v.1 14)]))] ++ (N7 t (v.1 1) (v.1 2, v.1 3) ++ (N6 t (v.1 4) (v.1 1) v ++ [(v.1 13, .inr (5, [.ref (v.1 1), vJ 0, vJ 0])), (v.1 14, .inr (2, [.ref (v.1 15), .ref (v.1 16), .ref (v.1 17), vI 0, vI 0, vI 0, vI 0])), (v.1 15, .inl (t.1, az 6)), (v.1 16, .inl (t.1, az 6)), (v.1 17, .inl (t.2.1, azJ 245))]))
set_option maxRecDepth 20000 in
set_option maxHeartbeats 8000000 in
theorem c_X8_init {l : Launch} {D : va_G} {t : T5} {h0 : Nat} : MK l D t yX8_init wsX8_init rm_X8_init [.ref h0] [(h0, .inr (8, [.null, .null, .null, .null]))] (fun v : (Nat → Nat) × List Nat × List Nat => v.1 0 = h0 ∧ v.2.1.length = 12 ∧ v.2.2.length = 60) (N8 t) 89 1777 := by
  refine MK_of (cc := cX8_init) (nL := 1) (by decide +kernel) rfl rfl (Nat.le_of_ble_eq_true rfl) (lv := [(0, .ref h0)]) rfl (fun A ws x C _ => ?_)
  show KW D t A ws _ _ _ mi_X8_init x [(h0, .inr (8, [.null, .null, .null, .null]))] 0 0 0 _ []
  refine k_aload_n (n := 1) C 0 dX8_init_0 rfl rfl ?_
  refine k_obj (n := 4) C (by decide +kernel) (by decide +kernel) (by decide +kernel) ⟨Nat.le_of_ble_eq_true rfl, Nat.le_of_ble_eq_true rfl⟩ dX8_init_1 rfl ?_
  refine k_aload_n (n := 5) C 0 dX8_init_4 rfl rfl ?_
  refine k_new (n := 8) C (ci := 7) (fs := [.null, .null]) (ty0 := tyX7) rfl in_X8_init_X7 tyX7_ok (by decide +kernel) (by decide +kernel) (by decide +kernel) (fun j hj => by rcases (show j = 0 ∨ j = 1 by omega) with rfl | rfl <;> rfl) ⟨Nat.le_of_ble_eq_true rfl, Nat.le_of_ble_eq_true rfl⟩ dX8_init_5 rfl (fun qs => ?_)
  refine k_wide (c2 := 1) (s2 := 2) (Nat.le_of_ble_eq_true rfl) (Nat.le_of_ble_eq_true rfl) ?_
  refine k_dup (n := 9) C rfl dX8_init_8 rfl ?_
  refine k_call (n := 12) C 0 (As := []) (rest := [.ref qs, .ref h0]) rfl c_X7_init gX8_init_X7_init rfl ⟨rfl, rfl⟩ (by decide +kernel) (by decide +kernel) (by decide +kernel) rfl (by decide +kernel) ⟨Nat.le_of_ble_eq_true rfl, Nat.le_of_ble_eq_true rfl⟩ rfl rfl (Nat.le_of_ble_eq_true rfl) ⟨Nat.le_of_ble_eq_true rfl, Nat.le_of_ble_eq_true rfl⟩ dX8_init_9 rfl (fun v7 _ => ?_)
  refine k_wide (c2 := 3) (s2 := 20) (Nat.le_of_ble_eq_true rfl) (Nat.le_of_ble_eq_true rfl) ?_
  refine k_putF (n := 15) C 0 0 (ty0 := tyX8) (ty := .object "LinePool$Settings") rfl rfl (Nat.le_of_ble_eq_true rfl) in_X8_init_X8 tyX8_ok nmX8 (by decide +kernel) rfl rfl (by decide +kernel) rfl rfl (Nat.le_of_ble_eq_true rfl) dX8_init_12 rfl ?_
  refine k_L (L' := (h0, .inr (8, [.ref qs, .null, .null, .null])) :: N7 t qs v7) rfl ?_
  refine k_aload_n (n := 16) C 0 dX8_init_15 rfl rfl ?_
  refine k_new (n := 19) C (ci := 6) (fs := poolF .null .null .null .null .null) (ty0 := tyX6) rfl in_X8_init_X6 tyX6_ok (by decide +kernel) (by decide +kernel) (by decide +kernel) (fun j hj => by rcases (show j = 0 ∨ j = 1 ∨ j = 2 ∨ j = 3 ∨ j = 4 ∨ j = 5 ∨ j = 6 ∨ j = 7 ∨ j = 8 ∨ j = 9 ∨ j = 10 by omega) with rfl | rfl | rfl | rfl | rfl | rfl | rfl | rfl | rfl | rfl | rfl <;> rfl) ⟨Nat.le_of_ble_eq_true rfl, Nat.le_of_ble_eq_true rfl⟩ dX8_init_16 rfl (fun qp => ?_)
  refine k_wide (c2 := 4) (s2 := 31) (Nat.le_of_ble_eq_true rfl) (Nat.le_of_ble_eq_true rfl) ?_
  refine k_dup (n := 20) C rfl dX8_init_19 rfl ?_
  refine k_aload_n (n := 21) C 0 dX8_init_20 rfl rfl ?_
  refine k_getf (n := 24) C 0 0 rfl rfl (Nat.le_of_ble_eq_true rfl) in_X8_init_X8 (by decide +kernel) rfl dX8_init_21 rfl ?_
  refine k_call (n := 27) C 1 (As := [.ref qs]) (rest := [.ref qp, .ref h0]) rfl c_X6_init gX8_init_X6_init rfl ⟨rfl, rfl⟩ (by decide +kernel) (by decide +kernel) (by decide +kernel) rfl (by decide +kernel) ⟨Nat.le_of_ble_eq_true rfl, Nat.le_of_ble_eq_true rfl⟩ rfl rfl (Nat.le_of_ble_eq_true rfl) ⟨Nat.le_of_ble_eq_true rfl, Nat.le_of_ble_eq_true rfl⟩ dX8_init_24 rfl (fun v6 o6 => ?_)
  refine k_wide (c2 := 84) (s2 := 1510) (Nat.le_of_ble_eq_true rfl) (Nat.le_of_ble_eq_true rfl) ?_
  refine k_putF (n := 30) C 0 1 (ty0 := tyX8) (ty := .object "LinePool$Pool") rfl rfl (Nat.le_of_ble_eq_true rfl) in_X8_init_X8 tyX8_ok nmX8 (by decide +kernel) rfl rfl (by decide +kernel) rfl rfl (Nat.le_of_ble_eq_true rfl) dX8_init_27 rfl ?_
  refine k_L (L' := (h0, .inr (8, [.ref qs, .ref qp, .null, .null])) :: (N7 t qs v7 ++ N6 t qp qs v6)) rfl ?_
  refine k_aload_n (n := 31) C 0 dX8_init_30 rfl rfl ?_
  refine k_new (n := 34) C (ci := 5) (fs := [.null, vJ 0, vJ 0]) (ty0 := tyX5) rfl in_X8_init_X5 tyX5_ok (by decide +kernel) (by decide +kernel) (by decide +kernel) (fun j hj => by rcases (show j = 0 ∨ j = 1 ∨ j = 2 by omega) with rfl | rfl | rfl <;> rfl) ⟨Nat.le_of_ble_eq_true rfl, Nat.le_of_ble_eq_true rfl⟩ dX8_init_31 rfl (fun qw => ?_)
  refine k_wide (c2 := 85) (s2 := 1513) (Nat.le_of_ble_eq_true rfl) (Nat.le_of_ble_eq_true rfl) ?_
  refine k_dup (n := 35) C rfl dX8_init_34 rfl ?_
  refine k_aload_n (n := 36) C 0 dX8_init_35 rfl rfl ?_
  refine k_getf (n := 39) C 0 0 rfl rfl (Nat.le_of_ble_eq_true rfl) in_X8_init_X8 (by decide +kernel) rfl dX8_init_36 rfl ?_
  refine k_call (n := 42) C 1 (As := [.ref qs]) (rest := [.ref qw, .ref h0]) rfl c_X5_init gX8_init_X5_init rfl ⟨rfl, rfl⟩ (by decide +kernel) (by decide +kernel) (by decide +kernel) rfl (by decide +kernel) ⟨Nat.le_of_ble_eq_true rfl, Nat.le_of_ble_eq_true rfl⟩ rfl rfl (Nat.le_of_ble_eq_true rfl) ⟨Nat.le_of_ble_eq_true rfl, Nat.le_of_ble_eq_true rfl⟩ dX8_init_39 rfl (fun _ _ => ?_)
  refine k_wide (c2 := 85) (s2 := 1513) (Nat.le_of_ble_eq_true rfl) (Nat.le_of_ble_eq_true rfl) ?_
  refine k_putF (n := 45) C 0 2 (ty0 := tyX8) (ty := .object "LinePool$MeanWait") rfl rfl (Nat.le_of_ble_eq_true rfl) in_X8_init_X8 tyX8_ok nmX8 (by decide +kernel) rfl rfl (by decide +kernel) rfl rfl (Nat.le_of_ble_eq_true rfl) dX8_init_42 rfl ?_
  refine k_L (L' := (h0, .inr (8, [.ref qs, .ref qp, .ref qw, .null])) :: (N7 t qs v7 ++ (N6 t qp qs v6 ++ [(qw, .inr (5, [.ref qs, vJ 0, vJ 0]))]))) (by simp only [List.cons_append, List.append_assoc, List.set_cons_zero]; rfl) ?_
  refine k_aload_n (n := 46) C 0 dX8_init_45 rfl rfl ?_
  refine k_new (n := 49) C (ci := 2) (fs := [.null, .null, .null, vI 0, vI 0, vI 0, vI 0]) (ty0 := tyX2) rfl in_X8_init_X2 tyX2_ok (by decide +kernel) (by decide +kernel) (by decide +kernel) (fun j hj => by rcases (show j = 0 ∨ j = 1 ∨ j = 2 ∨ j = 3 ∨ j = 4 ∨ j = 5 ∨ j = 6 by omega) with rfl | rfl | rfl | rfl | rfl | rfl | rfl <;> rfl) ⟨Nat.le_of_ble_eq_true rfl, Nat.le_of_ble_eq_true rfl⟩ dX8_init_46 rfl (fun qk => ?_)
  refine k_wide (c2 := 86) (s2 := 1520) (Nat.le_of_ble_eq_true rfl) (Nat.le_of_ble_eq_true rfl) ?_
  refine k_dup (n := 50) C rfl dX8_init_49 rfl ?_
  refine k_call (n := 53) C 0 (As := []) (rest := [.ref qk, .ref h0]) rfl c_X2_init gX8_init_X2_init rfl ⟨rfl, rfl⟩ (by decide +kernel) (by decide +kernel) (by decide +kernel) rfl (by decide +kernel) ⟨Nat.le_of_ble_eq_true rfl, Nat.le_of_ble_eq_true rfl⟩ rfl rfl (Nat.le_of_ble_eq_true rfl) ⟨Nat.le_of_ble_eq_true rfl, Nat.le_of_ble_eq_true rfl⟩ dX8_init_50 rfl (fun v2 _ => ?_)
  refine k_wide (c2 := 89) (s2 := 1777) (Nat.le_of_ble_eq_true rfl) (Nat.le_of_ble_eq_true rfl) ?_
  refine k_putF (n := 56) C 0 3 (ty0 := tyX8) (ty := .object "LinePool$Crowd") rfl rfl (Nat.le_of_ble_eq_true rfl) in_X8_init_X8 tyX8_ok nmX8 (by decide +kernel) rfl rfl (by decide +kernel) rfl rfl (Nat.le_of_ble_eq_true rfl) dX8_init_53 rfl ?_
  refine k_L (L' := (h0, .inr (8, [.ref qs, .ref qp, .ref qw, .ref qk])) :: (N7 t qs v7 ++ (N6 t qp qs v6 ++ [(qw, .inr (5, [.ref qs, vJ 0, vJ 0])), (qk, .inr (2, [.ref v2.1, .ref v2.2.1, .ref v2.2.2, vI 0, vI 0, vI 0, vI 0])), (v2.1, .inl (t.1, az 6)), (v2.2.1, .inl (t.1, az 6)), (v2.2.2, .inl (t.2.1, azJ 245))]))) (by simp only [List.cons_append, List.append_assoc, List.set_cons_zero, List.nil_append]; rfl) ?_
  obtain ⟨g6, as, bs⟩ := v6
  exact k_ret C ((fun k => match k with | 0 => h0 | 1 => qs | 2 => v7.1 | 3 => v7.2 | 4 => qp | 5 => g6 5 | 6 => g6 6 | 7 => g6 7 | 8 => g6 8 | 9 => g6 9 | 10 => g6 10 | 11 => g6 11 | 12 => g6 12 | 13 => qw | 14 => qk | 15 => v2.1 | 16 => v2.2.1 | _ => v2.2.2), as, bs) ⟨rfl, o6.1, o6.2⟩ rfl ⟨Nat.le_refl _, Nat.le_refl _⟩ dX8_init_56
