section GB
variable {y : Sys} {μ : Mi} {ρ : Rh} {x : Mx} {S : St} {pc n : Nat} {lv lv' : List (Nat × Value)} {st : List Value}
theorem g_icmp_eq (C : CX y μ x) {a b off : Int} (tgt : Nat) (ha : r32 a) (hb : r32 b) (hd : decode μ.1 pc = .ok (.if_icmp .eq off, 3)) (ht : (pc : Int) + off = (tgt : Int)) (hn : pc + 3 = n) (kt : a = b → GW y μ ρ x S tgt lv st) (kf : ¬ (a = b) → GW y μ ρ x S n lv st) : GW y μ ρ x S pc lv (vI b :: vI a :: st) := by
  intro H locs ls hB hS hv
  subst hn
  exact lv_icmp_eq C.1 C.2.1 hd ht (fun h => kt ((i_eq ha hb).mp h) H locs ls hB hS hv) (fun h => kf (fun h2 => h ((i_eq ha hb).mpr h2)) H locs ls hB hS hv)
theorem g_if_eq (C : CX y μ x) {a off : Int} (tgt : Nat) (ha : r32 a) (hd : decode μ.1 pc = .ok (.ifCond .eq off, 3)) (ht : (pc : Int) + off = (tgt : Int)) (hn : pc + 3 = n) (kt : a = 0 → GW y μ ρ x S tgt lv st) (kf : ¬ (a = 0) → GW y μ ρ x S n lv st) : GW y μ ρ x S pc lv (vI a :: st) := by
  intro H locs ls hB hS hv
  subst hn
  exact lv_if_eq C.1 C.2.1 hd ht (fun h => kt ((i_eq ha (by decide : r32 0)).mp h) H locs ls hB hS hv) (fun h => kf (fun h2 => h ((i_eq ha (by decide : r32 0)).mpr h2)) H locs ls hB hS hv)
theorem g_icmp_ne (C : CX y μ x) {a b off : Int} (tgt : Nat) (ha : r32 a) (hb : r32 b) (hd : decode μ.1 pc = .ok (.if_icmp .ne off, 3)) (ht : (pc : Int) + off = (tgt : Int)) (hn : pc + 3 = n) (kt : ¬ a = b → GW y μ ρ x S tgt lv st) (kf : a = b → GW y μ ρ x S n lv st) : GW y μ ρ x S pc lv (vI b :: vI a :: st) := by
  intro H locs ls hB hS hv
  subst hn
  exact lv_icmp_ne C.1 C.2.1 hd ht (fun h => kt (fun h2 => h ((i_eq ha hb).mpr h2)) H locs ls hB hS hv) (fun h => kf ((i_eq ha hb).mp h) H locs ls hB hS hv)
theorem g_if_ne (C : CX y μ x) {a off : Int} (tgt : Nat) (ha : r32 a) (hd : decode μ.1 pc = .ok (.ifCond .ne off, 3)) (ht : (pc : Int) + off = (tgt : Int)) (hn : pc + 3 = n) (kt : ¬ a = 0 → GW y μ ρ x S tgt lv st) (kf : a = 0 → GW y μ ρ x S n lv st) : GW y μ ρ x S pc lv (vI a :: st) := by
  intro H locs ls hB hS hv
  subst hn
  exact lv_if_ne C.1 C.2.1 hd ht (fun h => kt (fun h2 => h ((i_eq ha (by decide : r32 0)).mpr h2)) H locs ls hB hS hv) (fun h => kf ((i_eq ha (by decide : r32 0)).mp h) H locs ls hB hS hv)
theorem g_icmp_lt (C : CX y μ x) {a b off : Int} (tgt : Nat) (ha : r32 a) (hb : r32 b) (hd : decode μ.1 pc = .ok (.if_icmp .lt off, 3)) (ht : (pc : Int) + off = (tgt : Int)) (hn : pc + 3 = n) (kt : a < b → GW y μ ρ x S tgt lv st) (kf : ¬ (a < b) → GW y μ ρ x S n lv st) : GW y μ ρ x S pc lv (vI b :: vI a :: st) := by
  intro H locs ls hB hS hv
  subst hn
  exact lv_icmp_lt C.1 C.2.1 hd ht (fun h => kt ((i_lt ha hb).mp h) H locs ls hB hS hv) (fun h => kf (fun h2 => h ((i_lt ha hb).mpr h2)) H locs ls hB hS hv)
theorem g_if_lt (C : CX y μ x) {a off : Int} (tgt : Nat) (ha : r32 a) (hd : decode μ.1 pc = .ok (.ifCond .lt off, 3)) (ht : (pc : Int) + off = (tgt : Int)) (hn : pc + 3 = n) (kt : a < 0 → GW y μ ρ x S tgt lv st) (kf : ¬ (a < 0) → GW y μ ρ x S n lv st) : GW y μ ρ x S pc lv (vI a :: st) := by
  intro H locs ls hB hS hv
  subst hn
  exact lv_if_lt C.1 C.2.1 hd ht (fun h => kt ((i_lt ha (by decide : r32 0)).mp h) H locs ls hB hS hv) (fun h => kf (fun h2 => h ((i_lt ha (by decide : r32 0)).mpr h2)) H locs ls hB hS hv)
theorem g_icmp_ge (C : CX y μ x) {a b off : Int} (tgt : Nat) (ha : r32 a) (hb : r32 b) (hd : decode μ.1 pc = .ok (.if_icmp .ge off, 3)) (ht : (pc : Int) + off = (tgt : Int)) (hn : pc + 3 = n) (kt : b ≤ a → GW y μ ρ x S tgt lv st) (kf : ¬ (b ≤ a) → GW y μ ρ x S n lv st) : GW y μ ρ x S pc lv (vI b :: vI a :: st) := by
  intro H locs ls hB hS hv
  subst hn
  exact lv_icmp_ge C.1 C.2.1 hd ht (fun h => kt ((i_le hb ha).mp h) H locs ls hB hS hv) (fun h => kf (fun h2 => h ((i_le hb ha).mpr h2)) H locs ls hB hS hv)
theorem g_if_ge (C : CX y μ x) {a off : Int} (tgt : Nat) (ha : r32 a) (hd : decode μ.1 pc = .ok (.ifCond .ge off, 3)) (ht : (pc : Int) + off = (tgt : Int)) (hn : pc + 3 = n) (kt : 0 ≤ a → GW y μ ρ x S tgt lv st) (kf : ¬ (0 ≤ a) → GW y μ ρ x S n lv st) : GW y μ ρ x S pc lv (vI a :: st) := by
  intro H locs ls hB hS hv
  subst hn
  exact lv_if_ge C.1 C.2.1 hd ht (fun h => kt ((i_le (by decide : r32 0) ha).mp h) H locs ls hB hS hv) (fun h => kf (fun h2 => h ((i_le (by decide : r32 0) ha).mpr h2)) H locs ls hB hS hv)
theorem g_icmp_gt (C : CX y μ x) {a b off : Int} (tgt : Nat) (ha : r32 a) (hb : r32 b) (hd : decode μ.1 pc = .ok (.if_icmp .gt off, 3)) (ht : (pc : Int) + off = (tgt : Int)) (hn : pc + 3 = n) (kt : b < a → GW y μ ρ x S tgt lv st) (kf : ¬ (b < a) → GW y μ ρ x S n lv st) : GW y μ ρ x S pc lv (vI b :: vI a :: st) := by
  intro H locs ls hB hS hv
  subst hn
  exact lv_icmp_gt C.1 C.2.1 hd ht (fun h => kt ((i_lt hb ha).mp h) H locs ls hB hS hv) (fun h => kf (fun h2 => h ((i_lt hb ha).mpr h2)) H locs ls hB hS hv)
theorem g_if_gt (C : CX y μ x) {a off : Int} (tgt : Nat) (ha : r32 a) (hd : decode μ.1 pc = .ok (.ifCond .gt off, 3)) (ht : (pc : Int) + off = (tgt : Int)) (hn : pc + 3 = n) (kt : 0 < a → GW y μ ρ x S tgt lv st) (kf : ¬ (0 < a) → GW y μ ρ x S n lv st) : GW y μ ρ x S pc lv (vI a :: st) := by
  intro H locs ls hB hS hv
  subst hn
  exact lv_if_gt C.1 C.2.1 hd ht (fun h => kt ((i_lt (by decide : r32 0) ha).mp h) H locs ls hB hS hv) (fun h => kf (fun h2 => h ((i_lt (by decide : r32 0) ha).mpr h2)) H locs ls hB hS hv)
theorem g_icmp_le (C : CX y μ x) {a b off : Int} (tgt : Nat) (ha : r32 a) (hb : r32 b) (hd : decode μ.1 pc = .ok (.if_icmp .le off, 3)) (ht : (pc : Int) + off = (tgt : Int)) (hn : pc + 3 = n) (kt : a ≤ b → GW y μ ρ x S tgt lv st) (kf : ¬ (a ≤ b) → GW y μ ρ x S n lv st) : GW y μ ρ x S pc lv (vI b :: vI a :: st) := by
  intro H locs ls hB hS hv
  subst hn
  exact lv_icmp_le C.1 C.2.1 hd ht (fun h => kt ((i_le ha hb).mp h) H locs ls hB hS hv) (fun h => kf (fun h2 => h ((i_le ha hb).mpr h2)) H locs ls hB hS hv)
theorem g_if_le (C : CX y μ x) {a off : Int} (tgt : Nat) (ha : r32 a) (hd : decode μ.1 pc = .ok (.ifCond .le off, 3)) (ht : (pc : Int) + off = (tgt : Int)) (hn : pc + 3 = n) (kt : a ≤ 0 → GW y μ ρ x S tgt lv st) (kf : ¬ (a ≤ 0) → GW y μ ρ x S n lv st) : GW y μ ρ x S pc lv (vI a :: st) := by
  intro H locs ls hB hS hv
  subst hn
  exact lv_if_le C.1 C.2.1 hd ht (fun h => kt ((i_le ha (by decide : r32 0)).mp h) H locs ls hB hS hv) (fun h => kf (fun h2 => h ((i_le ha (by decide : r32 0)).mpr h2)) H locs ls hB hS hv)
theorem g_acmp_eq (C : CX y μ x) {a b : Int} {off : Int} {bs : Nat} (tgt : Nat) (N : Nat) (hN : bs + N ≤ y.2.2.2.1) (ha : -1 ≤ a ∧ a < N) (hb : -1 ≤ b ∧ b < N) (hd : decode μ.1 pc = .ok (.if_acmp .eq off, 3)) (ht : (pc : Int) + off = (tgt : Int)) (hn : pc + 3 = n) (kt : a = b → GW y μ ρ x S tgt lv st) (kf : ¬ a = b → GW y μ ρ x S n lv st) : GW y μ ρ x S pc lv (vR y.2.2.1 bs b :: vR y.2.2.1 bs a :: st) := by
  intro H locs ls hB hS hv
  subst hn
  have e : (if a < 0 then none else some (y.2.2.1 (a.toNat + bs))) = (if b < 0 then none else some (y.2.2.1 (b.toNat + bs))) ↔ a = b := by
    constructor
    · intro h
      by_cases h1 : a < 0
      · by_cases h2 : b < 0
        · omega
        · rw [if_pos h1, if_neg h2] at h; cases h
      · by_cases h2 : b < 0
        · rw [if_neg h1, if_pos h2] at h; cases h
        · rw [if_neg h1, if_neg h2] at h
          have h3 := hB.2.1 (a.toNat + bs) (b.toNat + bs) _ _ (WD_at (by omega)) (WD_at (by omega)) (Option.some.inj h)
          omega
    · intro h; rw [h]
  exact lv_acmp_eq C.1 C.2.1 hd ht (fun h => kt (e.mp h) H locs ls hB hS hv) (fun h => kf (fun h2 => h (e.mpr h2)) H locs ls hB hS hv)
theorem g_acmp_ne (C : CX y μ x) {a b : Int} {off : Int} {bs : Nat} (tgt : Nat) (N : Nat) (hN : bs + N ≤ y.2.2.2.1) (ha : -1 ≤ a ∧ a < N) (hb : -1 ≤ b ∧ b < N) (hd : decode μ.1 pc = .ok (.if_acmp .ne off, 3)) (ht : (pc : Int) + off = (tgt : Int)) (hn : pc + 3 = n) (kt : ¬ a = b → GW y μ ρ x S tgt lv st) (kf : a = b → GW y μ ρ x S n lv st) : GW y μ ρ x S pc lv (vR y.2.2.1 bs b :: vR y.2.2.1 bs a :: st) := by
  intro H locs ls hB hS hv
  subst hn
  have e : (if a < 0 then none else some (y.2.2.1 (a.toNat + bs))) = (if b < 0 then none else some (y.2.2.1 (b.toNat + bs))) ↔ a = b := by
    constructor
    · intro h
      by_cases h1 : a < 0
      · by_cases h2 : b < 0
        · omega
        · rw [if_pos h1, if_neg h2] at h; cases h
      · by_cases h2 : b < 0
        · rw [if_neg h1, if_pos h2] at h; cases h
        · rw [if_neg h1, if_neg h2] at h
          have h3 := hB.2.1 (a.toNat + bs) (b.toNat + bs) _ _ (WD_at (by omega)) (WD_at (by omega)) (Option.some.inj h)
          omega
    · intro h; rw [h]
  exact lv_acmp_ne C.1 C.2.1 hd ht (fun h => kt (fun h2 => h (e.mpr h2)) H locs ls hB hS hv) (fun h => kf (e.mp h) H locs ls hB hS hv)
theorem g_ifnull (C : CX y μ x) {a : Int} {off : Int} {bs : Nat} (tgt : Nat) (hd : decode μ.1 pc = .ok (.ifnull off, 3)) (ht : (pc : Int) + off = (tgt : Int)) (hn : pc + 3 = n) (kt : a < 0 → GW y μ ρ x S tgt lv st) (kf : ¬ a < 0 → GW y μ ρ x S n lv st) : GW y μ ρ x S pc lv (vR y.2.2.1 bs a :: st) := by
  intro H locs ls hB hS hv
  subst hn
  by_cases h : a < 0
  · rw [vR_neg h]
    exact lv_ifnullN C.1 C.2.1 hd ht (kt h H locs ls hB hS hv)
  · rw [vR_pos (by omega)]
    exact lv_ifnull C.1 C.2.1 hd (kf h H locs ls hB hS hv)
theorem g_ifnonnull (C : CX y μ x) {a : Int} {off : Int} {bs : Nat} (tgt : Nat) (hd : decode μ.1 pc = .ok (.ifnonnull off, 3)) (ht : (pc : Int) + off = (tgt : Int)) (hn : pc + 3 = n) (kt : ¬ a < 0 → GW y μ ρ x S tgt lv st) (kf : a < 0 → GW y μ ρ x S n lv st) : GW y μ ρ x S pc lv (vR y.2.2.1 bs a :: st) := by
  intro H locs ls hB hS hv
  subst hn
  by_cases h : a < 0
  · rw [vR_neg h]
    exact lv_ifnonnullN C.1 C.2.1 hd (kf h H locs ls hB hS hv)
  · rw [vR_pos (by omega)]
    exact lv_ifnonnull C.1 C.2.1 hd ht (kt h H locs ls hB hS hv)
/-- a switch: a table -/
theorem g_tabOut (C : CX y μ x) {a dflt lo hi : Int} {offs : Array Int} {len : Nat} (tgt : Nat) (ha : r32 a) (hd : decode μ.1 pc = .ok (.tableswitch dflt lo hi offs, len)) (h : a < lo ∨ hi < a) (ht : (pc : Int) + dflt = (tgt : Int)) (k : GW y μ ρ x S tgt lv st) : GW y μ ρ x S pc lv (vI a :: st) := by
  intro H locs ls hB hS hv
  exact lv_tableOut C.1 C.2.1 hd (by rw [i_toInt ha]; exact h) ht (k H locs ls hB hS hv)
theorem g_tabIn (C : CX y μ x) {a dflt lo hi off : Int} {offs : Array Int} {len : Nat} (v : Int) (tgt : Nat) (ha : r32 a) (hd : decode μ.1 pc = .ok (.tableswitch dflt lo hi offs, len)) (h : a = v) (h1 : lo ≤ v ∧ v ≤ hi) (ho : offs[(v - lo).toNat]? = some off) (ht : (pc : Int) + off = (tgt : Int)) (k : GW y μ ρ x S tgt lv st) : GW y μ ρ x S pc lv (vI a :: st) := by
  intro H locs ls hB hS hv
  subst h
  exact lv_tableIn C.1 C.2.1 hd (by rw [i_toInt ha]; omega) (by rw [i_toInt ha]; omega) (by rw [i_toInt ha]; exact ho) ht (k H locs ls hB hS hv)
end GB
section GF
variable {y : Sys} {μ : Mi} {ρ : Rh} {x : Mx} {S : St} {pc n : Nat} {lv lv' : List (Nat × Value)} {st : List Value}
theorem g_get (C : CX y μ x) {rv : Value} (k0 f : Nat) {ci idx N : Nat} {fs : List (Nat × Nat)} {t : Nat × Nat} {Cn : String} {T : u_T} (hrv : rv = .ref (y.2.2.1 k0)) (hk : k0 < y.2.2.2.1) (hc0 : y.2.2.2.2.1 k0 = .inr (ci, fs)) (hf : fs[f]? = some t) (hcl : vwCl[ci]? = some (Cn, T, N)) (hfN : f < N) (hin : ∀ w ∈ u_ws Cn T N, w ∈ μ.2.2.2.1) (hlink : Cond.fieldLink μ.2.2.1 idx (T f).1 (T f).2.1 (T f).2.2.1 ∈ μ.2.2.2.1) (hd : decode μ.1 pc = .ok (.getfield idx, 3)) (hn : pc + 3 = n)
    (k : GW y μ ρ x S n lv (fld y.2.2.1 S k0 f t :: st)) : GW y μ ρ x S pc lv (rv :: st) := by
  intro H locs ls hB hS hv
  subst hn
  subst hrv
  have he : (WD y S)[k0]? = some (y.2.2.1 k0, .inr (ci, flds y.2.2.1 S k0 0 fs)) := by
    rw [WD_at hk]; unfold cel; rw [hc0]
  have hv2 : (flds y.2.2.1 S k0 0 fs)[f]? = some (fld y.2.2.1 S k0 f t) := by
    have := flds_at y.2.2.1 S k0 fs 0 f t hf
    rw [Nat.zero_add] at this
    exact this
  exact va_get (D := y.1) (ci := ci) (C := Cn) (T := T) (N := N) C.1 C.2.1 C.2.2.2.2.1 hin C.2.2.2.1 C.2.2.2.2.2.1 hB.1 k0 he hcl f hfN (C.2.2.2.2.1 _ hlink) (fun _ h9 => h9) hv2 hd (k H locs ls hB hS hv)
theorem g_getNest (C : CX y μ x) {rv : Value} (k0 f : Nat) {ci idx N : Nat} {fs : List (Nat × Nat)} {t : Nat × Nat} {Cn host : String} {T : u_T} (hrv : rv = .ref (y.2.2.1 k0)) (hk : k0 < y.2.2.2.1) (hc0 : y.2.2.2.2.1 k0 = .inr (ci, fs)) (hf : fs[f]? = some t) (hcl : vwCl[ci]? = some (Cn, T, N)) (hfN : f < N) (hin : ∀ w ∈ u_ws Cn T N, w ∈ μ.2.2.2.1) (hlink : va_Nw (Cond.fieldLinkNest μ.2.2.1 idx (T f).1 (T f).2.1 (T f).2.2.1 host) x.2.2.2.1) (hd : decode μ.1 pc = .ok (.getfield idx, 3)) (hn : pc + 3 = n)
    (k : GW y μ ρ x S n lv (fld y.2.2.1 S k0 f t :: st)) : GW y μ ρ x S pc lv (rv :: st) := by
  intro H locs ls hB hS hv
  subst hn
  subst hrv
  have he : (WD y S)[k0]? = some (y.2.2.1 k0, .inr (ci, flds y.2.2.1 S k0 0 fs)) := by
    rw [WD_at hk]; unfold cel; rw [hc0]
  have hv2 : (flds y.2.2.1 S k0 0 fs)[f]? = some (fld y.2.2.1 S k0 f t) := by
    have := flds_at y.2.2.1 S k0 fs 0 f t hf
    rw [Nat.zero_add] at this
    exact this
  exact va_getN (D := y.1) (ci := ci) (C := Cn) (T := T) (N := N) C.1 C.2.1 C.2.2.2.2.1 hin C.2.2.2.1 C.2.2.2.2.2.1 hB.1 k0 he hcl f hfN (va_Nw.use rfl hlink) (fun _ h9 => h9) hv2 hd (k H locs ls hB hS hv)
/-- a write of field f of cell k0: the memory changes at one place -/
theorem g_put (C : CX y μ x) {rv : Value} (k0 f q : Nat) {ci idx N : Nat} {fs : List (Nat × Nat)} {t : Nat × Nat} {Cn : String} {T : u_T} {ty0 : Nat → FieldType} {ty : FieldType} {a : Int} {v : Value} (hrv : rv = .ref (y.2.2.1 k0)) (hk : k0 < y.2.2.2.1) (hc0 : y.2.2.2.2.1 k0 = .inr (ci, fs)) (hf : fs[f]? = some t) (hcl : vwCl[ci]? = some (Cn, T, N)) (hfN : f < N) (hin : ∀ w ∈ u_ws Cn T N, w ∈ μ.2.2.2.1) (hty : ∀ k, k < N → parseFieldDescriptor (T k).2.2.1 = some (ty0 k)) (hnm : ∀ a, a < N → ∀ b, b < N → a ≠ b → (T a).2.1 ≠ (T b).2.1) (hlink : Cond.fieldLink μ.2.2.1 idx (T f).1 (T f).2.1 (T f).2.2.1 ∈ μ.2.2.2.1) (hfin : (T f).2.2.2 = false) (hdd : parseFieldDescriptor (T f).2.2.1 = some ty) (hnar : narrow ty v = v) (hfit : fits ty v = true)
    (hv0 : v = fld y.2.2.1 (stU S k0 q a) k0 f t) (ho : ∀ (j : Nat) (t2 : Nat × Nat), fs[j]? = some t2 → j ≠ f → fld y.2.2.1 (stU S k0 q a) k0 j t2 = fld y.2.2.1 S k0 j t2) {S1 : St} (hS1 : S1 = stU S k0 q a) (hd : decode μ.1 pc = .ok (.putfield idx, 3)) (hn : pc + 3 = n)
    (k : GW y μ ρ x S1 n lv st) : GW y μ ρ x S pc lv (v :: rv :: st) := by
  intro H locs ls hB hS hv
  subst hn
  subst hrv
  subst hS1
  have he : (WD y S)[k0]? = some (y.2.2.1 k0, .inr (ci, flds y.2.2.1 S k0 0 fs)) := by
    rw [WD_at hk]; unfold cel; rw [hc0]
  have hl : f < (flds y.2.2.1 S k0 0 fs).length := by rw [flds_len]; exact (List.getElem?_eq_some_iff.mp hf).1
  refine va_put (D := y.1) (ci := ci) (v := v) (ty := ty) (C := Cn) (T := T) (N := N) C.1 C.2.1 C.2.2.2.2.1 hin ty0 hty hnm C.2.2.2.1 C.2.2.2.2.2.1 hB.1 hB.2 hS k0 he hcl f hfN (C.2.2.2.2.1 _ hlink) (fun _ h9 => h9) hfin hdd hnar hfit hl hd (fun H1 locs1 hP1 hD1 hS1 => ?_)
  have e : (WD y S).set k0 (y.2.2.1 k0, .inr (ci, (flds y.2.2.1 S k0 0 fs).set f v)) = WD y (stU S k0 q a) := by
    apply WD_set hk
    unfold cel
    rw [hc0]
    have := flds_set y.2.2.1 S k0 q a fs 0 f t hf (fun j t2 hj hne => by rw [Nat.zero_add]; exact ho j t2 hj hne)
    rw [Nat.zero_add, ← hv0] at this
    show Sum.inr (ci, _) = Sum.inr (ci, _)
    rw [this]
  rw [e] at hP1 hD1
  exact k H1 locs1 ls ⟨hP1, hD1⟩ hS1 hv
/-- int arrays -/
theorem g_iald (C : CX y μ x) {rv : Value} (k0 : Nat) {len b0 : Nat} {cA : ClassId} {i : Int} (hrv : rv = .ref (y.2.2.1 k0)) (hk : k0 < y.2.2.2.1) (hc0 : y.2.2.2.2.1 k0 = .inl (0, len, b0)) (ht : y.2.1[0]? = some (cA, .int)) (h0 : 0 ≤ i ∧ i < len) (hi : r32 i) (hd : decode μ.1 pc = .ok (.iaload, 1)) (hn : pc + 1 = n)
    (k : GW y μ ρ x S n lv (vI (S k0 i.toNat) :: st)) : GW y μ ρ x S pc lv (vI i :: rv :: st) := by
  intro H locs ls hB hS hv
  subst hn
  subst hrv
  have hg : y.2.1.getD 0 (0, .int) = (cA, .int) := by rw [List.getD_eq_getElem?_getD, ht]; rfl
  have he : (WD y S)[k0]? = some (y.2.2.1 k0, .inl (cA, len, .inl (fun i => Int32.ofInt (S k0 i)))) := by
    rw [WD_at hk]; unfold cel; rw [hc0]; simp only [hg]; rfl
  have hk2 := k H locs ls hB hS hv
  refine va_iald (D := y.1) C.1 C.2.1 C.2.2.2.2.2.1 hB.1 k0 0 he ht (i := Int32.ofInt i) (i_in h0.1 h0.2 hi) hd ?_
  rw [i_clamp hi h0.1]
  exact hk2
theorem g_zald (C : CX y μ x) {rv : Value} (k0 : Nat) {len b0 : Nat} {cA : ClassId} {i : Int} (hrv : rv = .ref (y.2.2.1 k0)) (hk : k0 < y.2.2.2.1) (hc0 : y.2.2.2.2.1 k0 = .inl (2, len, b0)) (ht : y.2.1[2]? = some (cA, .boolean)) (h0 : 0 ≤ i ∧ i < len) (hi : r32 i) (hd : decode μ.1 pc = .ok (.baload, 1)) (hn : pc + 1 = n)
    (k : GW y μ ρ x S n lv (vI (S k0 i.toNat) :: st)) : GW y μ ρ x S pc lv (vI i :: rv :: st) := by
  intro H locs ls hB hS hv
  subst hn
  subst hrv
  have hg : y.2.1.getD 2 (0, .int) = (cA, .boolean) := by rw [List.getD_eq_getElem?_getD, ht]; rfl
  have he : (WD y S)[k0]? = some (y.2.2.1 k0, .inl (cA, len, .inl (fun i => Int32.ofInt (S k0 i)))) := by
    rw [WD_at hk]; unfold cel; rw [hc0]; simp only [hg]; rfl
  have hk2 := k H locs ls hB hS hv
  refine va_zald (D := y.1) C.1 C.2.1 C.2.2.2.2.2.1 hB.1 k0 2 he ht (i := Int32.ofInt i) (i_in h0.1 h0.2 hi) hd ?_
  rw [i_clamp hi h0.1]
  exact hk2
theorem g_lald (C : CX y μ x) {rv : Value} (k0 : Nat) {len b0 : Nat} {cA : ClassId} {i : Int} (hrv : rv = .ref (y.2.2.1 k0)) (hk : k0 < y.2.2.2.1) (hc0 : y.2.2.2.2.1 k0 = .inl (1, len, b0)) (ht : y.2.1[1]? = some (cA, .long)) (h0 : 0 ≤ i ∧ i < len) (hi : r32 i) (hd : decode μ.1 pc = .ok (.laload, 1)) (hn : pc + 1 = n)
    (k : GW y μ ρ x S n lv (vJ (S k0 (100000 + i.toNat)) :: st)) : GW y μ ρ x S pc lv (vI i :: rv :: st) := by
  intro H locs ls hB hS hv
  subst hn
  subst hrv
  have hg : y.2.1.getD 1 (0, .int) = (cA, .long) := by rw [List.getD_eq_getElem?_getD, ht]; rfl
  have he : (WD y S)[k0]? = some (y.2.2.1 k0, .inl (cA, len, .inr (.inl (fun i => Int64.ofInt (S k0 (100000 + i)))))) := by
    rw [WD_at hk]; unfold cel; rw [hc0]; simp only [hg]; rfl
  have hk2 := k H locs ls hB hS hv
  refine va_lald (D := y.1) C.1 C.2.1 C.2.2.2.2.2.1 hB.1 k0 1 he ht (i := Int32.ofInt i) (i_in h0.1 h0.2 hi) hd ?_
  rw [i_clamp hi h0.1]
  exact hk2
theorem g_rald (C : CX y μ x) {rv : Value} (k0 : Nat) {len b0 t : Nat} {cA : ClassId} {Cn : String} {i : Int} (hrv : rv = .ref (y.2.2.1 k0)) (hk : k0 < y.2.2.2.1) (hc0 : y.2.2.2.2.1 k0 = .inl (t, len, b0)) (htt : t = 3 ∨ t = 4) (ht : y.2.1[t]? = some (cA, .object Cn)) (h0 : 0 ≤ i ∧ i < len) (hi : r32 i) (hd : decode μ.1 pc = .ok (.aaload, 1)) (hn : pc + 1 = n)
    (k : GW y μ ρ x S n lv (vR y.2.2.1 b0 i :: st)) : GW y μ ρ x S pc lv (vI i :: rv :: st) := by
  intro H locs ls hB hS hv
  subst hn
  subst hrv
  have hg : y.2.1.getD t (0, .int) = (cA, .object Cn) := by rw [List.getD_eq_getElem?_getD, ht]; rfl
  have he : (WD y S)[k0]? = some (y.2.2.1 k0, .inl (cA, len, .inr (.inr (.inr (.inr (fun i => some (y.2.2.1 (i + b0)))))))) := by
    rw [WD_at hk]; unfold cel; rw [hc0]; simp only [hg]; rcases htt with rfl | rfl <;> rfl
  have hk2 := k H locs ls hB hS hv
  rw [vR_pos h0.1] at hk2
  refine va_aldq (D := y.1) C.1 C.2.1 C.2.2.2.2.2.1 hB.1 k0 t he ht (i := Int32.ofInt i) (i_in h0.1 h0.2 hi) hd ?_
  rw [i_clamp hi h0.1]
  exact hk2
theorem g_iast (C : CX y μ x) {rv : Value} (k0 : Nat) {len b0 : Nat} {cA : ClassId} {i a : Int} (hrv : rv = .ref (y.2.2.1 k0)) (hk : k0 < y.2.2.2.1) (hc0 : y.2.2.2.2.1 k0 = .inl (0, len, b0)) (ht : y.2.1[0]? = some (cA, .int)) (h0 : 0 ≤ i ∧ i < len) (hi : r32 i) {S1 : St} (hS1 : S1 = stU S k0 i.toNat a) (hd : decode μ.1 pc = .ok (.iastore, 1)) (hn : pc + 1 = n)
    (k : GW y μ ρ x S1 n lv st) : GW y μ ρ x S pc lv (vI a :: vI i :: rv :: st) := by
  intro H locs ls hB hS hv
  subst hn
  subst hrv
  subst hS1
  have hg : y.2.1.getD 0 (0, .int) = (cA, .int) := by rw [List.getD_eq_getElem?_getD, ht]; rfl
  have he : (WD y S)[k0]? = some (y.2.2.1 k0, .inl (cA, len, .inl (fun i => Int32.ofInt (S k0 i)))) := by
    rw [WD_at hk]; unfold cel; rw [hc0]; simp only [hg]; rfl
  refine va_iast (D := y.1) C.1 C.2.1 C.2.2.2.2.2.1 hB.1 hB.2 hS k0 0 he ht (i_in h0.1 h0.2 hi) hd (fun H1 locs1 hP1 hD1 hS1 => ?_)
  have e : (WD y S).set k0 (y.2.2.1 k0, .inl (cA, len, .inl (upd (fun i => Int32.ofInt (S k0 i)) (Int32.ofInt i).toNatClampNeg (Int32.ofInt a)))) = WD y (stU S k0 i.toNat a) := by
    apply WD_set hk
    rw [i_clamp hi h0.1]
    unfold cel
    rw [hc0]
    simp only [hg, arc]
    congr 4
    funext j
    simp only [upd, stU, if_true]
    split <;> rfl
  rw [e] at hP1 hD1
  exact k H1 locs1 ls ⟨hP1, hD1⟩ hS1 hv
theorem g_zast (C : CX y μ x) {rv : Value} (k0 : Nat) {len b0 : Nat} {cA : ClassId} {i a : Int} (hrv : rv = .ref (y.2.2.1 k0)) (hk : k0 < y.2.2.2.1) (hc0 : y.2.2.2.2.1 k0 = .inl (2, len, b0)) (ht : y.2.1[2]? = some (cA, .boolean)) (h0 : 0 ≤ i ∧ i < len) (hi : r32 i) (ha : vp_nar .boolean (Int32.ofInt a) = Int32.ofInt a) {S1 : St} (hS1 : S1 = stU S k0 i.toNat a) (hd : decode μ.1 pc = .ok (.bastore, 1)) (hn : pc + 1 = n)
    (k : GW y μ ρ x S1 n lv st) : GW y μ ρ x S pc lv (vI a :: vI i :: rv :: st) := by
  intro H locs ls hB hS hv
  subst hn
  subst hrv
  subst hS1
  have hg : y.2.1.getD 2 (0, .int) = (cA, .boolean) := by rw [List.getD_eq_getElem?_getD, ht]; rfl
  have he : (WD y S)[k0]? = some (y.2.2.1 k0, .inl (cA, len, .inl (fun i => Int32.ofInt (S k0 i)))) := by
    rw [WD_at hk]; unfold cel; rw [hc0]; simp only [hg]; rfl
  refine va_zast (D := y.1) C.1 C.2.1 C.2.2.2.2.2.1 hB.1 hB.2 hS k0 2 he ht (i_in h0.1 h0.2 hi) hd (fun H1 locs1 hP1 hD1 hS1 => ?_)
  have e : (WD y S).set k0 (y.2.2.1 k0, .inl (cA, len, .inl (upd (fun i => Int32.ofInt (S k0 i)) (Int32.ofInt i).toNatClampNeg (vp_nar .boolean (Int32.ofInt a))))) = WD y (stU S k0 i.toNat a) := by
    apply WD_set hk
    rw [i_clamp hi h0.1, ha]
    unfold cel
    rw [hc0]
    simp only [hg, arc]
    congr 4
    funext j
    simp only [upd, stU, if_true]
    split <;> rfl
  rw [e] at hP1 hD1
  exact k H1 locs1 ls ⟨hP1, hD1⟩ hS1 hv
theorem g_last (C : CX y μ x) {rv : Value} (k0 : Nat) {len b0 : Nat} {cA : ClassId} {i a : Int} (hrv : rv = .ref (y.2.2.1 k0)) (hk : k0 < y.2.2.2.1) (hc0 : y.2.2.2.2.1 k0 = .inl (1, len, b0)) (ht : y.2.1[1]? = some (cA, .long)) (h0 : 0 ≤ i ∧ i < len) (hi : r32 i) {S1 : St} (hS1 : S1 = stU S k0 (100000 + i.toNat) a) (hd : decode μ.1 pc = .ok (.lastore, 1)) (hn : pc + 1 = n)
    (k : GW y μ ρ x S1 n lv st) : GW y μ ρ x S pc lv (vJ a :: vI i :: rv :: st) := by
  intro H locs ls hB hS hv
  subst hn
  subst hrv
  subst hS1
  have hg : y.2.1.getD 1 (0, .int) = (cA, .long) := by rw [List.getD_eq_getElem?_getD, ht]; rfl
  have he : (WD y S)[k0]? = some (y.2.2.1 k0, .inl (cA, len, .inr (.inl (fun i => Int64.ofInt (S k0 (100000 + i)))))) := by
    rw [WD_at hk]; unfold cel; rw [hc0]; simp only [hg]; rfl
  refine va_last (D := y.1) C.1 C.2.1 C.2.2.2.2.2.1 hB.1 hB.2 hS k0 1 he ht (i_in h0.1 h0.2 hi) hd (fun H1 locs1 hP1 hD1 hS1 => ?_)
  have e : (WD y S).set k0 (y.2.2.1 k0, .inl (cA, len, .inr (.inl (vp_updL (fun i => Int64.ofInt (S k0 (100000 + i))) (Int32.ofInt i).toNatClampNeg (Int64.ofInt a))))) = WD y (stU S k0 (100000 + i.toNat) a) := by
    apply WD_set hk
    rw [i_clamp hi h0.1]
    unfold cel
    rw [hc0]
    simp only [hg, arc]
    congr 5
    funext j
    simp only [vp_updL, stU, if_true]
    by_cases hj : j = i.toNat
    · simp [hj]
    · rw [if_neg hj, if_neg (by omega)]
  rw [e] at hP1 hD1
  exact k H1 locs1 ls ⟨hP1, hD1⟩ hS1 hv
theorem g_alen (C : CX y μ x) {rv : Value} (k0 : Nat) {len b0 t : Nat} {q : ClassId × FieldType} {a : Int} (hrv : rv = .ref (y.2.2.1 k0)) (hk : k0 < y.2.2.2.1) (hc0 : y.2.2.2.2.1 k0 = .inl (t, len, b0)) (ht : y.2.1[t]? = some q) (ha : Int32.ofNat len = Int32.ofInt a) (hd : decode μ.1 pc = .ok (.arraylength, 1)) (hn : pc + 1 = n)
    (k : GW y μ ρ x S n lv (vI a :: st)) : GW y μ ρ x S pc lv (rv :: st) := by
  intro H locs ls hB hS hv
  subst hn
  subst hrv
  have hg : y.2.1.getD t (0, .int) = q := by rw [List.getD_eq_getElem?_getD, ht]; rfl
  have he : (WD y S)[k0]? = some (y.2.2.1 k0, .inl (q.1, len, arc y.2.2.1 S k0 t b0)) := by
    rw [WD_at hk]; unfold cel; rw [hc0]; simp only [hg]
  exact va_alen (D := y.1) C.1 C.2.1 C.2.2.2.2.2.1 hB.1 k0 t he ht ha hd (k H locs ls hB hS hv)
end GF
/-! ends -/
section GE
variable {y : Sys} {μ : Mi} {ρ : Rh} {x : Mx} {S : St} {pc n : Nat} {lv lv' : List (Nat × Value)} {st : List Value}
theorem g_iret (C : CX y μ x) {a : Int} (hr : μ.2.2.2.2.2 = some .int) (hq : some (S, a) = some (ρ.2.1, ρ.2.2)) (hac : ρ.1.1 a = some (vI a)) (hrg : ρ.1.2 a) (hRS : RS S) (hd : decode μ.1 pc = .ok (.ireturn, 1)) : GW y μ ρ x S pc lv [vI a] := by
  intro H locs ls hB hS hv
  obtain ⟨h1, h2⟩ := Prod.mk.inj (Option.some.inj hq)
  refine W.iret (v := Int32.ofInt a) C.1 C.2.1 (by rw [← hr]; exact C.2.2.2.2.2.2.2.2) (fun t ht hW => ⟨by rw [← h2, hac]; rfl, by rw [← h1]; exact hRS, by rw [← h2]; exact hrg, by rw [← h1, ht]; exact hB, hS.F ht⟩) hS.2.2 hd C.2.2.2.2.2.2.2.1
theorem g_zret (C : CX y μ x) {a : Int} (hr : μ.2.2.2.2.2 = some .boolean) (h01 : a = 0 ∨ a = 1) (hq : some (S, a) = some (ρ.2.1, ρ.2.2)) (hac : ρ.1.1 a = some (vI a)) (hrg : ρ.1.2 a) (hRS : RS S) (hd : decode μ.1 pc = .ok (.ireturn, 1)) : GW y μ ρ x S pc lv [vI a] := by
  intro H locs ls hB hS hv
  obtain ⟨h1, h2⟩ := Prod.mk.inj (Option.some.inj hq)
  refine W.zret (v := Int32.ofInt a) (ty := .boolean) C.1 C.2.1 (by rw [← hr]; exact C.2.2.2.2.2.2.2.2) (by rcases h01 with rfl | rfl <;> decide +kernel) (fun t ht hW => ⟨by rw [← h2, hac]; rfl, by rw [← h1]; exact hRS, by rw [← h2]; exact hrg, by rw [← h1, ht]; exact hB, hS.F ht⟩) hS.2.2 hd C.2.2.2.2.2.2.2.1
theorem g_lret (C : CX y μ x) {a : Int} (hr : μ.2.2.2.2.2 = some .long) (hq : some (S, a) = some (ρ.2.1, ρ.2.2)) (hac : ρ.1.1 a = some (vJ a)) (hrg : ρ.1.2 a) (hRS : RS S) (hd : decode μ.1 pc = .ok (.lreturn, 1)) : GW y μ ρ x S pc lv [vJ a] := by
  intro H locs ls hB hS hv
  obtain ⟨h1, h2⟩ := Prod.mk.inj (Option.some.inj hq)
  refine W.lret (v := Int64.ofInt a) C.1 C.2.1 (by rw [← hr]; exact C.2.2.2.2.2.2.2.2) (fun t ht hW => ⟨by rw [← h2, hac]; rfl, by rw [← h1]; exact hRS, by rw [← h2]; exact hrg, by rw [← h1, ht]; exact hB, hS.F ht⟩) hS.2.2 hd C.2.2.2.2.2.2.2.1
theorem g_vret (C : CX y μ x) {a : Int} (hr : μ.2.2.2.2.2 = none) (hq : some (S, a) = some (ρ.2.1, ρ.2.2)) (hac : ρ.1.1 a = none) (hrg : ρ.1.2 a) (hRS : RS S) (hd : decode μ.1 pc = .ok (.return_, 1)) : GW y μ ρ x S pc lv [] := by
  intro H locs ls hB hS hv
  obtain ⟨h1, h2⟩ := Prod.mk.inj (Option.some.inj hq)
  refine W.vret C.1 C.2.1 (by rw [← hr]; exact C.2.2.2.2.2.2.2.2) (fun t ht hW => ⟨by rw [← h2, hac], by rw [← h1]; exact hRS, by rw [← h2]; exact hrg, by rw [← h1, ht]; exact hB, hS.F ht⟩) hS.2.2 hd C.2.2.2.2.2.2.2.1
theorem g_rret (C : CX y μ x) {a : Int} {bs : Nat} {Cn : String} (hr : μ.2.2.2.2.2 = some (.object Cn)) (hq : some (S, a) = some (ρ.2.1, ρ.2.2)) (hac : ρ.1.1 a = some (vR y.2.2.1 bs a)) (hrg : ρ.1.2 a) (hRS : RS S) (hd : decode μ.1 pc = .ok (.areturn, 1)) : GW y μ ρ x S pc lv [vR y.2.2.1 bs a] := by
  intro H locs ls hB hS hv
  obtain ⟨h1, h2⟩ := Prod.mk.inj (Option.some.inj hq)
  refine W.aret (v := vR y.2.2.1 bs a) C.1 C.2.1 (by rw [← hr]; exact C.2.2.2.2.2.2.2.2) (Or.inl ⟨_, rfl⟩) (va_rf_or _) (fun t ht hW => ⟨by rw [← h2, hac], by rw [← h1]; exact hRS, by rw [← h2]; exact hrg, by rw [← h1, ht]; exact hB, hS.F ht⟩) hS.2.2 hd C.2.2.2.2.2.2.2.1
end GE
/-! calls -/
theorem Pw_blind {y : Sys} {S : St} {sz : Nat} {As : List Value} : FrameBlind (Pw y S sz As) := fun a U g mk q => by
  obtain ⟨q0, q1, q2, q3, q4⟩ := q
  exact ⟨q0, q1, q2, va_K.moved (u := U) (U := U.calling g mk a) (Vm.Alike.refl U.vm) q3, q4.same rfl⟩
theorem Bw_true {y : Sys} {A : Nat → Prop} {S : St} {H : Heap} (h : Bw y A S H) : Bw y (fun _ => True) S H := ⟨h.1, h.2.1, fun _ _ _ => trivial⟩
theorem Bw_sub {y : Sys} {sz sz2 : Nat} {S : St} {H : Heap} (h : Bw y (Aw y sz2) S H) : Bw y (Aw y sz) S H := ⟨h.1, h.2.1, fun k q hk => by
  simp only [WD, List.getElem?_map] at hk
  cases hr : (List.range y.2.2.2.1)[k]? with
  | none => rw [hr] at hk; cases hk
  | some i =>
    rw [hr] at hk
    cases hk
    obtain ⟨h3, h4⟩ := List.getElem?_eq_some_iff.mp hr
    simp at h3 h4
    exact Or.inl ⟨i, by omega, rfl⟩⟩
section GC
variable {y : Sys} {μ : Mi} {ρ : Rh} {x : Mx} {S : St} {pc n : Nat} {lv lv' : List (Nat × Value)} {st : List Value}
theorem g_ran (C : CX y μ x) {nm : MethodName} {ws : List Cond} {rest : List Value} {a : Array Value} {ac : Acc} {S1 : St} {r1 : Int} {H : Heap} {locs : List Loc} {ls : Array Slot} (hS : va_S (Aw y x.2.2.2.1.heap.size) x.2.2.2.1.heap H locs) (hv : lv_has ls μ.2.1 lv)
    (hr : va_Run x.1 x.2.1 x.2.2.1 μ.2.2.2.2.1 x.2.2.2.1 x.2.2.2.2.1 x.2.2.2.2.2.1 x.2.2.2.2.2.2.1 x.2.2.2.2.2.2.2.1 x.2.2.2.2.2.2.2.2 H locs 0 0 0 0 (F0 x.2.2.2.2.1 pc ls st) rest (Qo y (Aw y H.size) ac S1 r1 a) (Aw y H.size))
    (kk : RS S1 → ac.2 r1 → GW y μ ρ x S1 (pc + 3) lv ((ac.1 r1).toList ++ rest)) : W x.1 x.2.1 x.2.2.1 μ.2.2.2.2.1 x.2.2.2.1 x.2.2.2.2.1 x.2.2.2.2.2.1 x.2.2.2.2.2.2.1 x.2.2.2.2.2.2.2.1 x.2.2.2.2.2.2.2.2 H locs 0 0
      (MQ x.2.2.2.2.2.2.1 (Qo y (Aw y x.2.2.2.1.heap.size) ρ.1 ρ.2.1 ρ.2.2) x.2.2.2.2.2.1 x.2.2.2.1 0 0 (Aw y x.2.2.2.1.heap.size)) (F0 x.2.2.2.2.1 pc ls st) := by
  intro T hT X
  obtain ⟨v, st₀, t, T', L, h0, X', hL, e1, e2, ⟨hv1, hRS, hrg, hB1, hz, hk⟩, st9⟩ := hr T hT X
  cases hv1
  rw [h0] at hz hk
  have hsub : ∀ q, Aw y H.size q → Aw y x.2.2.2.1.heap.size q := fun q h => by
    rcases h with h | h
    · exact Or.inl h
    · exact Or.inr (Nat.le_trans hS.1 h)
  obtain ⟨t2, a1, b1⟩ := kk hRS hrg T'.heap (locs ++ L) ls (by rw [e1]; exact Bw_sub hB1)
    ⟨Nat.le_trans hS.1 (by rw [e1]; exact hz), fun q h1 h2 => by rw [e1, hk q (Nat.lt_of_lt_of_le h1 hS.1) (fun z => h2 (hsub q z))]; exact hS.2.1 q h1 h2, fun q hq => by
      rcases List.mem_append.mp hq with h | h
      · exact hS.2.2 q h
      · exact hsub _ (hL q h)⟩ hv T' rfl X'
  exact ⟨t2, st9 t2 a1, b1⟩
theorem g_callV (C : CX y μ x) (k0 np : Nat) {nm : MethodName} {ws ws' : List Cond} {rm : Room} {As rest : List Value} {ac : Acc} {S1 : St} {r1 : Int} {idx ci maxL N : Nat} {Cn : String} {T : u_T} {bytes : ByteArray} {ret : Option FieldType} {fs : List (Nat × Nat)} (hk : k0 < y.2.2.2.1) (hc0 : y.2.2.2.2.1 k0 = .inr (ci, fs)) (hcl : vwCl[ci]? = some (Cn, T, N))
    (hM : Mc x.2.1 y nm ws rm (.ref (y.2.2.1 k0) :: As) ac S S1 r1) (hT : GoodIn μ.2.2.2.1 (wsV μ.2.2.1 idx Cn nm ws)) (hw : ws = Cond.code nm bytes maxL ret :: ws') (hrc : rm.cells = 0 ∧ rm.slots = 0) (hdd : nm.cls = Cn ∧ nm.cls ≠ "java/lang/invoke/MethodHandle" ∧ nm.cls ≠ "java/lang/invoke/VarHandle" ∧ (parseMethodDescriptor nm.desc).map (fun d => d.parameters.length) = some np) (hR : rm.frames + 1 ≤ μ.2.2.2.2.1.frames ∧ 8 + (maxL + 11) + rm.locals ≤ μ.2.2.2.2.1.locals)
    {rv : Value} (hrv : rv = .ref (y.2.2.1 k0)) (hst : st = As.reverse ++ rv :: rest) (hnp : As.length = np) (hcat : (rest.map fun v => v.category).sum ≤ 8) (hd : decode μ.1 pc = .ok (.invokevirtual idx, 3)) (hn : pc + 3 = n) (kk : RS S1 → ac.2 r1 → GW y μ ρ x S1 n lv ((ac.1 r1).toList ++ rest)) : GW y μ ρ x S pc lv st := by
  intro H locs ls hB hS hv
  subst hn
  subst hrv
  subst hst
  have he : (WD y S)[k0]? = some (y.2.2.1 k0, .inr (ci, flds y.2.2.1 S k0 0 fs)) := by
    rw [WD_at hk]; unfold cel; rw [hc0]
  refine g_ran (nm := nm) (ws := ws) C hS hv (va_runV (As := As) (rest := rest) ⟨C.1, C.2.1, C.2.2.1, C.2.2.2.1, C.2.2.2.2.1⟩ (hM H.size) (cwV np C.2.2.2.2.1 hT hw hrc.1 hrc.2 hdd hR) ⟨Pw_blind, va_recv C.2.2.2.2.2.1 hB.1 hcl he, fun U hU hW => ⟨rfl, by rw [hU], by rw [hU]; exact Bw_true hB, va_K.moved hW.alike C.2.2.2.2.2.1, C.2.2.2.2.2.2.1.warm hW⟩⟩ rfl hnp hv.1 rfl (lv_room hcat) hd ⟨Nat.zero_le _, Nat.zero_le _⟩) kk
/-- a static method of a nest mate, or of another class: its link by a word of its own -/
theorem g_callSN (C : CX y μ x) (np : Nat) {nm : MethodName} {host : String} {ws ws' : List Cond} {rm : Room} {As rest : List Value} {ac : Acc} {S1 : St} {r1 : Int} {idx maxL : Nat} {bytes : ByteArray} {ret : Option FieldType}
    (hM : Mc x.2.1 y nm ws rm As ac S S1 r1) (hG : GoodIn μ.2.2.2.1 ws) (hlink : va_Nw (.methodLinkNest μ.2.2.1 idx nm host) x.2.2.2.1) (hini : Cond.initialized nm.cls ∈ μ.2.2.2.1) (hstat : Cond.static nm ∈ μ.2.2.2.1) (hw : ws = Cond.code nm bytes maxL ret :: ws') (hrc : rm.cells = 0 ∧ rm.slots = 0) (hdd : nm.cls ≠ "java/lang/invoke/MethodHandle" ∧ nm.cls ≠ "java/lang/invoke/VarHandle" ∧ (parseMethodDescriptor nm.desc).map (fun d => d.parameters.length) = some np) (hR : rm.frames + 1 ≤ μ.2.2.2.2.1.frames ∧ 8 + (maxL + 11) + rm.locals ≤ μ.2.2.2.2.1.locals)
    (hst : st = As.reverse ++ rest) (hnp : As.length = np) (hcat : (rest.map fun v => v.category).sum ≤ 8) (hd : decode μ.1 pc = .ok (.invokestatic idx, 3)) (hn : pc + 3 = n) (kk : RS S1 → ac.2 r1 → GW y μ ρ x S1 n lv ((ac.1 r1).toList ++ rest)) : GW y μ ρ x S pc lv st := by
  intro H locs ls hB hS hv
  subst hn
  subst hst
  refine g_ran (nm := nm) (ws := ws) C hS hv (va_runSN (As := As) (rest := rest) ⟨C.1, C.2.1, C.2.2.1, C.2.2.2.1, C.2.2.2.2.1⟩ (hM H.size) ⟨va_cnB np C.2.2.2.2.1 hG hw hrc.1 hrc.2 hlink (C.2.2.2.2.1 _ hini) hdd hR, C.2.2.2.2.1 _ hstat, trivial⟩ ⟨Pw_blind, fun U hU hW => ⟨rfl, by rw [hU], by rw [hU]; exact Bw_true hB, va_K.moved hW.alike C.2.2.2.2.2.1, C.2.2.2.2.2.2.1.warm hW⟩⟩ rfl hnp hv.1 rfl (lv_room hcat) hd ⟨Nat.zero_le _, Nat.zero_le _⟩) kk
/-- a static method -/
theorem g_callT (C : CX y μ x) (np : Nat) {nm : MethodName} {ws ws' : List Cond} {rm : Room} {As rest : List Value} {ac : Acc} {S1 : St} {r1 : Int} {idx maxL : Nat} {bytes : ByteArray} {ret : Option FieldType}
    (hM : Mc x.2.1 y nm ws rm As ac S S1 r1) (hT : GoodIn μ.2.2.2.1 (va_wsS μ.2.2.1 idx nm ws)) (hw : ws = Cond.code nm bytes maxL ret :: ws') (hrc : rm.cells = 0 ∧ rm.slots = 0) (hdd : nm.cls ≠ "java/lang/invoke/MethodHandle" ∧ nm.cls ≠ "java/lang/invoke/VarHandle" ∧ (parseMethodDescriptor nm.desc).map (fun d => d.parameters.length) = some np) (hR : rm.frames + 1 ≤ μ.2.2.2.2.1.frames ∧ 8 + (maxL + 11) + rm.locals ≤ μ.2.2.2.2.1.locals)
    (hst : st = As.reverse ++ rest) (hnp : As.length = np) (hcat : (rest.map fun v => v.category).sum ≤ 8) (hd : decode μ.1 pc = .ok (.invokestatic idx, 3)) (hn : pc + 3 = n) (kk : RS S1 → ac.2 r1 → GW y μ ρ x S1 n lv ((ac.1 r1).toList ++ rest)) : GW y μ ρ x S pc lv st := by
  intro H locs ls hB hS hv
  subst hn
  subst hst
  have hG : GoodIn μ.2.2.2.1 ws := fun w hw9 => hT w (List.mem_append_right _ hw9)
  have h1 : Cond.methodLink μ.2.2.1 idx nm ∈ μ.2.2.2.1 := (hT _ (List.mem_append_left _ (by simp))).1
  have h2 : Cond.static nm ∈ μ.2.2.2.1 := (hT _ (List.mem_append_left _ (by simp))).1
  have h3 : Cond.initialized nm.cls ∈ μ.2.2.2.1 := (hT _ (List.mem_append_left _ (by simp))).1
  refine g_ran (nm := nm) (ws := ws) C hS hv (va_runS (As := As) (rest := rest) ⟨C.1, C.2.1, C.2.2.1, C.2.2.2.1, C.2.2.2.2.1⟩ (hM H.size) ⟨callB_of np C.2.2.2.2.1 hG hw hrc.1 hrc.2 (C.2.2.2.2.1 _ h3) (C.2.2.2.2.1 _ h1) hdd hR, C.2.2.2.2.1 _ h2⟩ ⟨Pw_blind, fun U hU hW => ⟨rfl, by rw [hU], by rw [hU]; exact Bw_true hB, va_K.moved hW.alike C.2.2.2.2.2.1, C.2.2.2.2.2.2.1.warm hW⟩⟩ rfl hnp hv.1 rfl (lv_room hcat) hd ⟨Nat.zero_le _, Nat.zero_le _⟩) kk
theorem g_ldc2 (C : CX y μ x) {a : Int} {idx : Nat} {v : Int64} (hm : Cond.constantLong μ.2.2.1 idx v ∈ μ.2.2.2.1) (hv : v = Int64.ofInt a) (hd : decode μ.1 pc = .ok (.ldc2_w idx, 3)) (hn : pc + 3 = n) (k : GW y μ ρ x S n lv (vJ a :: st)) : GW y μ ρ x S pc lv st := by
  intro H locs ls hB hS hl
  subst hn
  subst hv
  exact lv_ldc2 C.1 C.2.1 C.2.2.2.1 (C.2.2.2.2.1 _ hm) hd (k H locs ls hB hS hl)
def mxI (a b : Int) : Int := if a < b then b else a
def mnI (a b : Int) : Int := if b < a then b else a
theorem mxI_r {a b : Int} (ha : r32 a) (hb : r32 b) : r32 (mxI a b) := by unfold mxI; split <;> assumption
theorem mnI_r {a b : Int} (ha : r32 a) (hb : r32 b) : r32 (mnI a b) := by unfold mnI; split <;> assumption
theorem g_max (C : CX y μ x) {a b : Int} {idx : Nat} (ha : r32 a) (hb : r32 b) (h1 : Cond.methodLink μ.2.2.1 idx Lib.Math.max.name ∈ μ.2.2.2.1) (h2 : Cond.static Lib.Math.max.name ∈ μ.2.2.2.1) (h3 : Cond.initialized "java/lang/Math" ∈ μ.2.2.2.1) (h4 : Cond.code Lib.Math.max.name Lib.Math.max.code 2 (some .int) ∈ μ.2.2.2.1) (hR : 1 ≤ μ.2.2.2.2.1.frames ∧ (st.map fun v => v.category).sum + 13 ≤ μ.2.2.2.2.1.locals) (hd : decode μ.1 pc = .ok (.invokestatic idx, 3)) (hn : pc + 3 = n) (k : GW y μ ρ x S n lv (vI (mxI a b) :: st)) : GW y μ ρ x S pc lv (vI b :: vI a :: st) := by
  intro H locs ls hB hS hv
  subst hn
  have hk := k H locs ls hB hS hv
  refine va_mmax C.1 C.2.1 (by rw [C.2.2.1, hv.1]) C.2.2.2.1 (C.2.2.2.2.1 _ h1) (C.2.2.2.2.1 _ h2) (C.2.2.2.2.1 _ h3) (C.2.2.2.2.1 _ h4) hR.1 hR.2 (Nat.zero_le _) (Nat.zero_le _) hd ?_
  have e : (if Int32.ofInt a < Int32.ofInt b then Int32.ofInt b else Int32.ofInt a) = Int32.ofInt (mxI a b) := by
    unfold mxI
    by_cases h : a < b
    · rw [if_pos h, if_pos ((i_lt ha hb).mpr h)]
    · rw [if_neg h, if_neg (fun h9 => h ((i_lt ha hb).mp h9))]
  rw [e]
  exact hk
theorem g_min (C : CX y μ x) {a b : Int} {idx : Nat} (ha : r32 a) (hb : r32 b) (h1 : Cond.methodLink μ.2.2.1 idx Lib.Math.min.name ∈ μ.2.2.2.1) (h2 : Cond.static Lib.Math.min.name ∈ μ.2.2.2.1) (h3 : Cond.initialized "java/lang/Math" ∈ μ.2.2.2.1) (h4 : Cond.code Lib.Math.min.name Lib.Math.min.code 2 (some .int) ∈ μ.2.2.2.1) (hR : 1 ≤ μ.2.2.2.2.1.frames ∧ (st.map fun v => v.category).sum + 13 ≤ μ.2.2.2.2.1.locals) (hd : decode μ.1 pc = .ok (.invokestatic idx, 3)) (hn : pc + 3 = n) (k : GW y μ ρ x S n lv (vI (mnI a b) :: st)) : GW y μ ρ x S pc lv (vI b :: vI a :: st) := by
  intro H locs ls hB hS hv
  subst hn
  have hk := k H locs ls hB hS hv
  refine va_mmin C.1 C.2.1 (by rw [C.2.2.1, hv.1]) C.2.2.2.1 (C.2.2.2.2.1 _ h1) (C.2.2.2.2.1 _ h2) (C.2.2.2.2.1 _ h3) (C.2.2.2.2.1 _ h4) hR.1 hR.2 (Nat.zero_le _) (Nat.zero_le _) hd ?_
  have e : (if Int32.ofInt b < Int32.ofInt a then Int32.ofInt b else Int32.ofInt a) = Int32.ofInt (mnI a b) := by
    unfold mnI
    by_cases h : b < a
    · rw [if_pos h, if_pos ((i_lt hb ha).mpr h)]
    · rw [if_neg h, if_neg (fun h9 => h ((i_lt hb ha).mp h9))]
  rw [e]
  exact hk
end GC
def acI : Acc := (fun r => some (vI r), r32)
def acZ : Acc := (fun r => some (vI r), fun r => r = 0 ∨ r = 1)
def acJ : Acc := (fun r => some (vJ r), r64)
def acV : Acc := (fun _ => none, fun _ => True)
def acR (ad : Nat → Nat) (b : Nat) (N : Nat) : Acc := (fun r => some (vR ad b r), fun r => -1 ≤ r ∧ r < N)
theorem z_r32 {r : Int} (h : r = 0 ∨ r = 1) : r32 r := by unfold r32; omega
