section GG
variable {y : Sys} {μ : Mi} {ρ : Rh} {x : Mx} {S : St} {pc n : Nat} {lv lv' : List (Nat × Value)} {st : List Value}
theorem g_getI (C : CX y μ x) {rv : Value} (k0 f : Nat) {ci idx N b : Nat} {fs : List (Nat × Nat)} {Cn : String} {T : u_T} (hrv : rv = .ref (y.2.2.1 k0)) (hk : k0 < y.2.2.2.1) (hc0 : y.2.2.2.2.1 k0 = .inr (ci, fs)) (hf : fs[f]? = some (0, b)) (hcl : vwCl[ci]? = some (Cn, T, N)) (hfN : f < N) (hin : ∀ w ∈ u_ws Cn T N, w ∈ μ.2.2.2.1) (hlink : Cond.fieldLink μ.2.2.1 idx (T f).1 (T f).2.1 (T f).2.2.1 ∈ μ.2.2.2.1) (hd : decode μ.1 pc = .ok (.getfield idx, 3)) (hn : pc + 3 = n) (k : GW y μ ρ x S n lv (vI (S k0 f) :: st)) : GW y μ ρ x S pc lv (rv :: st) :=
  g_get C k0 f hrv hk hc0 hf hcl hfN hin hlink hd hn k
theorem g_getJ (C : CX y μ x) {rv : Value} (k0 f : Nat) {ci idx N b : Nat} {fs : List (Nat × Nat)} {Cn : String} {T : u_T} (hrv : rv = .ref (y.2.2.1 k0)) (hk : k0 < y.2.2.2.1) (hc0 : y.2.2.2.2.1 k0 = .inr (ci, fs)) (hf : fs[f]? = some (1, b)) (hcl : vwCl[ci]? = some (Cn, T, N)) (hfN : f < N) (hin : ∀ w ∈ u_ws Cn T N, w ∈ μ.2.2.2.1) (hlink : Cond.fieldLink μ.2.2.1 idx (T f).1 (T f).2.1 (T f).2.2.1 ∈ μ.2.2.2.1) (hd : decode μ.1 pc = .ok (.getfield idx, 3)) (hn : pc + 3 = n) (k : GW y μ ρ x S n lv (vJ (S k0 (100000 + f)) :: st)) : GW y μ ρ x S pc lv (rv :: st) :=
  g_get C k0 f hrv hk hc0 hf hcl hfN hin hlink hd hn k
theorem g_getC (C : CX y μ x) {rv : Value} (k0 f : Nat) {ci idx N b : Nat} {fs : List (Nat × Nat)} {Cn : String} {T : u_T} (hrv : rv = .ref (y.2.2.1 k0)) (hk : k0 < y.2.2.2.1) (hc0 : y.2.2.2.2.1 k0 = .inr (ci, fs)) (hf : fs[f]? = some (2, b)) (hcl : vwCl[ci]? = some (Cn, T, N)) (hfN : f < N) (hin : ∀ w ∈ u_ws Cn T N, w ∈ μ.2.2.2.1) (hlink : Cond.fieldLink μ.2.2.1 idx (T f).1 (T f).2.1 (T f).2.2.1 ∈ μ.2.2.2.1) (hd : decode μ.1 pc = .ok (.getfield idx, 3)) (hn : pc + 3 = n) (k : GW y μ ρ x S n lv (.ref (y.2.2.1 b) :: st)) : GW y μ ρ x S pc lv (rv :: st) :=
  g_get C k0 f hrv hk hc0 hf hcl hfN hin hlink hd hn k
theorem g_getN (C : CX y μ x) {rv : Value} (k0 f : Nat) {ci idx N b : Nat} {fs : List (Nat × Nat)} {Cn : String} {T : u_T} (hrv : rv = .ref (y.2.2.1 k0)) (hk : k0 < y.2.2.2.1) (hc0 : y.2.2.2.2.1 k0 = .inr (ci, fs)) (hf : fs[f]? = some (3, b)) (hcl : vwCl[ci]? = some (Cn, T, N)) (hfN : f < N) (hin : ∀ w ∈ u_ws Cn T N, w ∈ μ.2.2.2.1) (hlink : Cond.fieldLink μ.2.2.1 idx (T f).1 (T f).2.1 (T f).2.2.1 ∈ μ.2.2.2.1) (hd : decode μ.1 pc = .ok (.getfield idx, 3)) (hn : pc + 3 = n) (k : GW y μ ρ x S n lv (vI (b : Int) :: st)) : GW y μ ρ x S pc lv (rv :: st) :=
  g_get C k0 f hrv hk hc0 hf hcl hfN hin hlink hd hn k
theorem g_getF (C : CX y μ x) {rv : Value} (k0 f : Nat) {ci idx N b : Nat} {fs : List (Nat × Nat)} {Cn : String} {T : u_T} (hrv : rv = .ref (y.2.2.1 k0)) (hk : k0 < y.2.2.2.1) (hc0 : y.2.2.2.2.1 k0 = .inr (ci, fs)) (hf : fs[f]? = some (4, b)) (hcl : vwCl[ci]? = some (Cn, T, N)) (hfN : f < N) (hin : ∀ w ∈ u_ws Cn T N, w ∈ μ.2.2.2.1) (hlink : Cond.fieldLink μ.2.2.1 idx (T f).1 (T f).2.1 (T f).2.2.1 ∈ μ.2.2.2.1) (hd : decode μ.1 pc = .ok (.getfield idx, 3)) (hn : pc + 3 = n) (k : GW y μ ρ x S n lv (vR y.2.2.1 b (S k0 f) :: st)) : GW y μ ρ x S pc lv (rv :: st) :=
  g_get C k0 f hrv hk hc0 hf hcl hfN hin hlink hd hn k
theorem g_getIn (C : CX y μ x) {rv : Value} (k0 f : Nat) {ci idx N b : Nat} {fs : List (Nat × Nat)} {Cn : String} {T : u_T} (hrv : rv = .ref (y.2.2.1 k0)) (hk : k0 < y.2.2.2.1) (hc0 : y.2.2.2.2.1 k0 = .inr (ci, fs)) (hf : fs[f]? = some (0, b)) (hcl : vwCl[ci]? = some (Cn, T, N)) (hfN : f < N) (hin : ∀ w ∈ u_ws Cn T N, w ∈ μ.2.2.2.1) {host : String} (hlink : va_Nw (Cond.fieldLinkNest μ.2.2.1 idx (T f).1 (T f).2.1 (T f).2.2.1 host) x.2.2.2.1) (hd : decode μ.1 pc = .ok (.getfield idx, 3)) (hn : pc + 3 = n) (k : GW y μ ρ x S n lv (vI (S k0 f) :: st)) : GW y μ ρ x S pc lv (rv :: st) :=
  g_getNest C k0 f hrv hk hc0 hf hcl hfN hin hlink hd hn k
theorem fld_ne {ad : Nat → Nat} {S : St} {k q j : Nat} {a : Int} {t : Nat × Nat} (h1 : j ≠ q) (h2 : 100000 + j ≠ q) : fld ad (stU S k q a) k j t = fld ad S k j t := by
  unfold fld
  split <;> simp [stU, h1, h2]
theorem g_putI (C : CX y μ x) {rv : Value} (k0 f : Nat) {ci idx N b : Nat} {fs : List (Nat × Nat)} {Cn : String} {T : u_T} (hrv : rv = .ref (y.2.2.1 k0)) (hk : k0 < y.2.2.2.1) (hc0 : y.2.2.2.2.1 k0 = .inr (ci, fs)) (hf : fs[f]? = some (0, b)) (hcl : vwCl[ci]? = some (Cn, T, N)) (hfN : f < N) (hin : ∀ w ∈ u_ws Cn T N, w ∈ μ.2.2.2.1) {ty0 : Nat → FieldType} {a : Int} (hty : ∀ k, k < N → parseFieldDescriptor (T k).2.2.1 = some (ty0 k)) (hnm : ∀ a, a < N → ∀ b, b < N → a ≠ b → (T a).2.1 ≠ (T b).2.1) (hlink : Cond.fieldLink μ.2.2.1 idx (T f).1 (T f).2.1 (T f).2.2.1 ∈ μ.2.2.2.1) (hfin : (T f).2.2.2 = false) (hdd : parseFieldDescriptor (T f).2.2.1 = some .int) (hlen : fs.length ≤ 1000) {S1 : St} (hS1 : S1 = stU S k0 f a) (hd : decode μ.1 pc = .ok (.putfield idx, 3)) (hn : pc + 3 = n) (k : GW y μ ρ x S1 n lv st) : GW y μ ρ x S pc lv (vI a :: rv :: st) := by
  have hfl : f < fs.length := (List.getElem?_eq_some_iff.mp hf).1
  exact g_put C k0 f f (a := a) hrv hk hc0 hf hcl hfN hin hty hnm hlink hfin hdd rfl rfl (by simp [fld, stU]) (fun j t2 hj hne => by
    have hjl : j < fs.length := (List.getElem?_eq_some_iff.mp hj).1
    exact fld_ne (by omega) (by omega)) hS1 hd hn k
theorem g_putZ (C : CX y μ x) {rv : Value} (k0 f : Nat) {ci idx N b : Nat} {fs : List (Nat × Nat)} {Cn : String} {T : u_T} (hrv : rv = .ref (y.2.2.1 k0)) (hk : k0 < y.2.2.2.1) (hc0 : y.2.2.2.2.1 k0 = .inr (ci, fs)) (hf : fs[f]? = some (0, b)) (hcl : vwCl[ci]? = some (Cn, T, N)) (hfN : f < N) (hin : ∀ w ∈ u_ws Cn T N, w ∈ μ.2.2.2.1) {ty0 : Nat → FieldType} {a : Int} (hty : ∀ k, k < N → parseFieldDescriptor (T k).2.2.1 = some (ty0 k)) (hnm : ∀ a, a < N → ∀ b, b < N → a ≠ b → (T a).2.1 ≠ (T b).2.1) (hlink : Cond.fieldLink μ.2.2.1 idx (T f).1 (T f).2.1 (T f).2.2.1 ∈ μ.2.2.2.1) (hfin : (T f).2.2.2 = false) (hdd : parseFieldDescriptor (T f).2.2.1 = some .boolean) (hlen : fs.length ≤ 1000) (h01 : a = 0 ∨ a = 1) {S1 : St} (hS1 : S1 = stU S k0 f a) (hd : decode μ.1 pc = .ok (.putfield idx, 3)) (hn : pc + 3 = n) (k : GW y μ ρ x S1 n lv st) : GW y μ ρ x S pc lv (vI a :: rv :: st) := by
  have hfl : f < fs.length := (List.getElem?_eq_some_iff.mp hf).1
  exact g_put C k0 f f (a := a) hrv hk hc0 hf hcl hfN hin hty hnm hlink hfin hdd (by rcases h01 with rfl | rfl <;> decide +kernel) (by rcases h01 with rfl | rfl <;> decide +kernel) (by simp [fld, stU]) (fun j t2 hj hne => by
    have hjl : j < fs.length := (List.getElem?_eq_some_iff.mp hj).1
    exact fld_ne (by omega) (by omega)) hS1 hd hn k
theorem g_putJ (C : CX y μ x) {rv : Value} (k0 f : Nat) {ci idx N b : Nat} {fs : List (Nat × Nat)} {Cn : String} {T : u_T} (hrv : rv = .ref (y.2.2.1 k0)) (hk : k0 < y.2.2.2.1) (hc0 : y.2.2.2.2.1 k0 = .inr (ci, fs)) (hf : fs[f]? = some (1, b)) (hcl : vwCl[ci]? = some (Cn, T, N)) (hfN : f < N) (hin : ∀ w ∈ u_ws Cn T N, w ∈ μ.2.2.2.1) {ty0 : Nat → FieldType} {a : Int} (hty : ∀ k, k < N → parseFieldDescriptor (T k).2.2.1 = some (ty0 k)) (hnm : ∀ a, a < N → ∀ b, b < N → a ≠ b → (T a).2.1 ≠ (T b).2.1) (hlink : Cond.fieldLink μ.2.2.1 idx (T f).1 (T f).2.1 (T f).2.2.1 ∈ μ.2.2.2.1) (hfin : (T f).2.2.2 = false) (hdd : parseFieldDescriptor (T f).2.2.1 = some .long) (hlen : fs.length ≤ 1000) {S1 : St} (hS1 : S1 = stU S k0 (100000 + f) a) (hd : decode μ.1 pc = .ok (.putfield idx, 3)) (hn : pc + 3 = n) (k : GW y μ ρ x S1 n lv st) : GW y μ ρ x S pc lv (vJ a :: rv :: st) := by
  have hfl : f < fs.length := (List.getElem?_eq_some_iff.mp hf).1
  exact g_put C k0 f (100000 + f) (a := a) hrv hk hc0 hf hcl hfN hin hty hnm hlink hfin hdd rfl rfl (by simp [fld, stU]) (fun j t2 hj hne => by
    have hjl : j < fs.length := (List.getElem?_eq_some_iff.mp hj).1
    exact fld_ne (by omega) (by omega)) hS1 hd hn k
theorem g_putF (C : CX y μ x) {rv : Value} (k0 f : Nat) {ci idx N b : Nat} {fs : List (Nat × Nat)} {Cn : String} {T : u_T} (hrv : rv = .ref (y.2.2.1 k0)) (hk : k0 < y.2.2.2.1) (hc0 : y.2.2.2.2.1 k0 = .inr (ci, fs)) (hf : fs[f]? = some (4, b)) (hcl : vwCl[ci]? = some (Cn, T, N)) (hfN : f < N) (hin : ∀ w ∈ u_ws Cn T N, w ∈ μ.2.2.2.1) {ty0 : Nat → FieldType} {a : Int} {On : String} (hty : ∀ k, k < N → parseFieldDescriptor (T k).2.2.1 = some (ty0 k)) (hnm : ∀ a, a < N → ∀ b, b < N → a ≠ b → (T a).2.1 ≠ (T b).2.1) (hlink : Cond.fieldLink μ.2.2.1 idx (T f).1 (T f).2.1 (T f).2.2.1 ∈ μ.2.2.2.1) (hfin : (T f).2.2.2 = false) (hdd : parseFieldDescriptor (T f).2.2.1 = some (.object On)) (hlen : fs.length ≤ 1000) {S1 : St} (hS1 : S1 = stU S k0 f a) (hd : decode μ.1 pc = .ok (.putfield idx, 3)) (hn : pc + 3 = n) (k : GW y μ ρ x S1 n lv st) : GW y μ ρ x S pc lv (vR y.2.2.1 b a :: rv :: st) := by
  have hfl : f < fs.length := (List.getElem?_eq_some_iff.mp hf).1
  exact g_put C k0 f f (a := a) hrv hk hc0 hf hcl hfN hin hty hnm hlink hfin hdd (by unfold vR; split <;> rfl) (by unfold vR; split <;> rfl) (by simp [fld, stU]) (fun j t2 hj hne => by
    have hjl : j < fs.length := (List.getElem?_eq_some_iff.mp hj).1
    exact fld_ne (by omega) (by omega)) hS1 hd hn k
end GG
abbrev T5 : Type := ClassId × ClassId × ClassId × ClassId × ClassId
abbrev tyl (t : T5) : List (ClassId × FieldType) := [(t.1, .int), (t.2.1, .long), (t.2.2.1, .boolean), (t.2.2.2.1, .object "LinePool$Caller"), (t.2.2.2.2, .object "LinePool$Line")]
def lineF (j : Nat) : List (Nat × Nat) := [(3, j), (0, 0), (0, 0), (4, 30), (0, 0), (0, 0)]
def callF (j : Nat) : List (Nat × Nat) := [(3, j), (0, 0), (0, 0), (0, 0), (0, 0), (0, 0), (0, 0), (0, 0), (0, 0), (0, 0)]
def dX : Nat → Dsc
  | 0 => .inr (8, [(2, 1), (2, 4), (2, 13), (2, 14)])
  | 1 => .inr (7, [(2, 2), (2, 3)])
  | 2 => .inl (0, 6, 0)
  | 3 => .inl (0, 12, 0)
  | 4 => .inr (6, [(2, 1), (2, 5), (2, 6), (2, 7), (2, 10), (0, 0), (0, 0), (0, 0), (1, 0), (0, 0), (0, 0)])
  | 5 => .inl (4, 12, 18)
  | 6 => .inl (3, 60, 30)
  | 7 => .inr (0, [(2, 8), (2, 9), (0, 0)])
  | 8 => .inl (0, 60, 0)
  | 9 => .inl (0, 60, 0)
  | 10 => .inr (4, [(2, 11), (2, 12), (0, 0)])
  | 11 => .inl (0, 600, 0)
  | 12 => .inl (0, 9, 0)
  | 13 => .inr (5, [(2, 1), (1, 0), (1, 0)])
  | 14 => .inr (2, [(2, 15), (2, 16), (2, 17), (0, 0), (0, 0), (0, 0), (0, 0)])
  | 15 => .inl (0, 6, 0)
  | 16 => .inl (0, 6, 0)
  | 17 => .inl (1, 245, 0)
  | k + 18 => if k < 12 then .inr (3, lineF k) else .inr (1, callF (k - 12))
theorem dX_line {j : Nat} (h : j < 12) : dX (j + 18) = .inr (3, lineF j) := by
  show (if j < 12 then _ else _) = _
  rw [if_pos h]
theorem dX_call {j : Nat} (_ : j < 60) : dX (j + 30) = .inr (1, callF j) := by
  have e : dX ((j + 12) + 18) = (if j + 12 < 12 then .inr (3, lineF (j + 12)) else .inr (1, callF (j + 12 - 12))) := rfl
  rw [if_neg (by omega), Nat.add_sub_cancel] at e
  exact e
abbrev sX (D : va_G) (t : T5) (ad : Nat → Nat) : Sys := (D, tyl t, ad, 90, dX, true)
def dM : Nat → Dsc
  | 0 => .inr (9, [(2, 1), (2, 2), (2, 3), (2, 4), (0, 0), (2, 5), (2, 6), (2, 7), (2, 8), (2, 9), (2, 10), (2, 11), (2, 12), (2, 13), (2, 14), (2, 15), (2, 16), (2, 17), (2, 18), (0, 0), (2, 19), (2, 20), (0, 0), (2, 21), (0, 0), (0, 0), (0, 0), (0, 0), (1, 0), (0, 0), (0, 0), (2, 22), (0, 0), (0, 0), (1, 0), (1, 0), (2, 23), (2, 24), (0, 0)])
  | 1 => .inl (0, 6, 0)
  | 2 => .inl (0, 6, 0)
  | 3 => .inl (0, 6, 0)
  | 4 => .inl (0, 13, 0)
  | 5 => .inl (0, 12, 0)
  | 6 => .inl (2, 12, 0)
  | 7 => .inl (0, 12, 0)
  | 8 => .inl (0, 12, 0)
  | 9 => .inl (0, 12, 0)
  | 10 => .inl (0, 60, 0)
  | 11 => .inl (0, 60, 0)
  | 12 => .inl (0, 60, 0)
  | 13 => .inl (0, 60, 0)
  | 14 => .inl (0, 60, 0)
  | 15 => .inl (0, 60, 0)
  | 16 => .inl (0, 60, 0)
  | 17 => .inl (0, 60, 0)
  | 18 => .inl (2, 60, 0)
  | 19 => .inl (0, 60, 0)
  | 20 => .inl (0, 60, 0)
  | 21 => .inl (0, 600, 0)
  | 22 => .inl (0, 6, 0)
  | 23 => .inl (2, 15625, 0)
  | 24 => .inl (0, 15625, 0)
  | _ => .inl (0, 0, 0)
abbrev sM (D : va_G) (t : T5) (ad : Nat → Nat) : Sys := (D, tyl t, ad, 25, dM, false)
theorem ix_rg {i : Int} {N : Nat} (h : 0 ≤ i ∧ i < N) : -1 ≤ i ∧ i < N := ⟨by omega, h.2⟩
