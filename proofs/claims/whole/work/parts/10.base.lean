/-! The memory of a system: cell number, place in it. Ints at places under 100000, longs from 100000 on. -/
abbrev St : Type := Nat → Nat → Int
def stU (S : St) (k f : Nat) (x : Int) : St := fun k' f' => if k' = k then (if f' = f then x else S k' f') else S k' f'
theorem stU_same (S : St) (k f : Nat) (x : Int) : stU S k f x k f = x := by simp [stU]
theorem stU_cell (S : St) {k k' : Nat} (f f' : Nat) (x : Int) (h : k' ≠ k) : stU S k f x k' f' = S k' f' := by simp [stU, h]
theorem stU_slot (S : St) (k k' : Nat) {f f' : Nat} (x : Int) (h : f' ≠ f) : stU S k f x k' f' = S k' f' := by simp [stU, h]
abbrev r32 (x : Int) : Prop := -2147483648 ≤ x ∧ x ≤ 2147483647
abbrev r64 (x : Int) : Prop := -9223372036854775808 ≤ x ∧ x ≤ 9223372036854775807
def w32 (x : Int) : Int := (x + 2147483648) % 4294967296 - 2147483648
def w64 (x : Int) : Int := (x + 9223372036854775808) % 18446744073709551616 - 9223372036854775808
theorem w32_r (x : Int) : r32 (w32 x) := by unfold r32 w32; omega
theorem w64_r (x : Int) : r64 (w64 x) := by unfold r64 w64; omega
theorem r32_64 {x : Int} (h : r32 x) : r64 x := by unfold r32 at h; unfold r64; omega
theorem w32_id {x : Int} (h : r32 x) : w32 x = x := by unfold r32 at h; unfold w32; omega
theorem w64_id {x : Int} (h : r64 x) : w64 x = x := by unfold r64 at h; unfold w64; omega
def vI (x : Int) : Value := .int (Int32.ofInt x)
def vJ (x : Int) : Value := .long (Int64.ofInt x)
def vR (ad : Nat → Nat) (b : Nat) (x : Int) : Value := va_rf (if x < 0 then none else some (ad (x.toNat + b)))
theorem vR_pos {ad : Nat → Nat} {b : Nat} {x : Int} (h : 0 ≤ x) : vR ad b x = .ref (ad (x.toNat + b)) := by
  unfold vR; rw [if_neg (by omega)]; rfl
theorem vR_neg {ad : Nat → Nat} {b : Nat} {x : Int} (h : x < 0) : vR ad b x = .null := by
  unfold vR; rw [if_pos h]; rfl
theorem vR_cat {ad : Nat → Nat} {b : Nat} {x : Int} : (vR ad b x).category = 1 := by
  unfold vR; split <;> rfl
theorem vI_cat {x : Int} : (vI x).category = 1 := rfl
theorem vJ_cat {x : Int} : (vJ x).category = 2 := rfl
theorem rf_cat {a : Nat} : (Value.ref a).category = 1 := rfl
def RS (S : St) : Prop := ∀ k f, r64 (S k f) ∧ (f < 100000 → r32 (S k f))
theorem RS_i {S : St} (h : RS S) {k f : Nat} {x : Int} (hx : r32 x) : RS (stU S k f x) := by
  intro k' f'
  unfold stU
  split
  · split
    · exact ⟨r32_64 hx, fun _ => hx⟩
    · exact h k' f'
  · exact h k' f'
theorem RS_l {S : St} (h : RS S) {k f : Nat} {x : Int} (hx : r64 x) (hf : 100000 ≤ f) : RS (stU S k f x) := by
  intro k' f'
  unfold stU
  split
  · split
    next h2 => exact ⟨hx, fun h3 => absurd h3 (by omega)⟩
    next => exact h k' f'
  · exact h k' f'
/-! numbers of the machine -/
theorem i_toInt {x : Int} (h : r32 x) : (Int32.ofInt x).toInt = x := by
  unfold r32 at h; exact Int32.toInt_ofInt_of_le (by omega) (by omega)
theorem j_toInt {x : Int} (h : r64 x) : (Int64.ofInt x).toInt = x := by
  unfold r64 at h; exact Int64.toInt_ofInt_of_le (by omega) (by omega)
theorem i_w (x : Int) : Int32.ofInt (w32 x) = Int32.ofInt x := by
  apply Int32.toInt_inj.mp
  rw [i_toInt (w32_r x), Int32.toInt_ofInt]
  unfold w32
  have hz : ((Int32.size : Nat) : Int) = 4294967296 := rfl
  simp only [Int.bmod, hz]
  omega
theorem j_w (x : Int) : Int64.ofInt (w64 x) = Int64.ofInt x := by
  apply Int64.toInt_inj.mp
  rw [j_toInt (w64_r x), Int64.toInt_ofInt]
  unfold w64
  have hz : ((Int64.size : Nat) : Int) = 18446744073709551616 := rfl
  simp only [Int.bmod, hz]
  omega
theorem i_lt {x y : Int} (hx : r32 x) (hy : r32 y) : Int32.ofInt x < Int32.ofInt y ↔ x < y := by
  rw [Int32.lt_iff_toInt_lt, i_toInt hx, i_toInt hy]
theorem i_le {x y : Int} (hx : r32 x) (hy : r32 y) : Int32.ofInt x ≤ Int32.ofInt y ↔ x ≤ y := by
  rw [Int32.le_iff_toInt_le, i_toInt hx, i_toInt hy]
theorem i_eq {x y : Int} (hx : r32 x) (hy : r32 y) : Int32.ofInt x = Int32.ofInt y ↔ x = y := by
  rw [← Int32.toInt_inj, i_toInt hx, i_toInt hy]
theorem j_lt {x y : Int} (hx : r64 x) (hy : r64 y) : Int64.ofInt x < Int64.ofInt y ↔ x < y := by
  rw [Int64.lt_iff_toInt_lt, j_toInt hx, j_toInt hy]
theorem j_eq {x y : Int} (hx : r64 x) (hy : r64 y) : Int64.ofInt x = Int64.ofInt y ↔ x = y := by
  rw [← Int64.toInt_inj, j_toInt hx, j_toInt hy]
theorem i_clamp {x : Int} (h : r32 x) (h0 : 0 ≤ x) : (Int32.ofInt x).toNatClampNeg = x.toNat := by
  show (Int32.ofInt x).toInt.toNat = x.toNat
  rw [i_toInt h]
theorem i_in {x : Int} {n : Nat} (h : 0 ≤ x) (h2 : x < n) (hr : r32 x) : vp_in (Int32.ofInt x) n := by
  rw [vp_in_iff, i_toInt hr]
  exact ⟨h, h2⟩
theorem i_add (x y : Int) : Int32.ofInt x + Int32.ofInt y = Int32.ofInt (w32 (x + y)) := by rw [i_w, Int32.ofInt_add]
theorem i_sub (x y : Int) : Int32.ofInt x - Int32.ofInt y = Int32.ofInt (w32 (x - y)) := by rw [i_w, Int32.ofInt_sub]
theorem i_mul (x y : Int) : Int32.ofInt x * Int32.ofInt y = Int32.ofInt (w32 (x * y)) := by rw [i_w, Int32.ofInt_mul]
theorem j_add (x y : Int) : Int64.ofInt x + Int64.ofInt y = Int64.ofInt (w64 (x + y)) := by rw [j_w, Int64.ofInt_add]
theorem j_sub (x y : Int) : Int64.ofInt x - Int64.ofInt y = Int64.ofInt (w64 (x - y)) := by rw [j_w, Int64.ofInt_sub]
theorem j_mul (x y : Int) : Int64.ofInt x * Int64.ofInt y = Int64.ofInt (w64 (x * y)) := by rw [j_w, Int64.ofInt_mul]
theorem i_of (x : Int32) : Int32.ofInt x.toInt = x := Int32.ofInt_toInt x
theorem j_of (x : Int64) : Int64.ofInt x.toInt = x := Int64.ofInt_toInt x
theorem i_rng (x : Int32) : r32 x.toInt := by
  have h1 := Int32.le_toInt x
  have h2 := Int32.toInt_lt x
  unfold r32
  omega
theorem j_rng (x : Int64) : r64 x.toInt := by
  have h1 := Int64.le_toInt x
  have h2 := Int64.toInt_lt x
  unfold r64
  omega
theorem i_div {x y : Int} (hx : r32 x) (hy : r32 y) : Int32.ofInt x / Int32.ofInt y = Int32.ofInt (w32 (x.tdiv y)) := by
  apply Int32.toInt_inj.mp
  rw [i_w, Int32.toInt_div, i_toInt hx, i_toInt hy, Int32.toInt_ofInt]
theorem j_div {x y : Int} (hx : r64 x) (hy : r64 y) : Int64.ofInt x / Int64.ofInt y = Int64.ofInt (w64 (x.tdiv y)) := by
  apply Int64.toInt_inj.mp
  rw [j_w, Int64.toInt_div, j_toInt hx, j_toInt hy, Int64.toInt_ofInt]
theorem i_rem {x y : Int} (hx : r32 x) (hy : r32 y) : Int32.ofInt x - Int32.ofInt x / Int32.ofInt y * Int32.ofInt y = Int32.ofInt (w32 (x.tmod y)) := by
  rw [i_div hx hy, i_w, i_w, ← Int32.ofInt_mul, ← Int32.ofInt_sub]
  congr 1
  have := Int.mul_tdiv_add_tmod x y
  rw [Int.mul_comm] at this
  omega
theorem j_rem {x y : Int} (hx : r64 x) (hy : r64 y) : Int64.ofInt x - Int64.ofInt x / Int64.ofInt y * Int64.ofInt y = Int64.ofInt (w64 (x.tmod y)) := by
  rw [j_div hx hy, j_w, j_w, ← Int64.ofInt_mul, ← Int64.ofInt_sub]
  congr 1
  have := Int.mul_tdiv_add_tmod x y
  rw [Int.mul_comm] at this
  omega
theorem i2j {x : Int} (h : r32 x) : (Int32.ofInt x).toInt64 = Int64.ofInt x := by
  apply Int64.toInt_inj.mp
  rw [Int32.toInt_toInt64, i_toInt h, j_toInt (r32_64 h)]
def cmpJ (x y : Int) : Int := if x < y then -1 else if x = y then 0 else 1
theorem cmpJ_r (x y : Int) : r32 (cmpJ x y) := by unfold cmpJ r32; split <;> (try split) <;> omega
def andJ (x y : Int) : Int := (Int64.ofInt x &&& Int64.ofInt y).toInt
def orJ (x y : Int) : Int := (Int64.ofInt x ||| Int64.ofInt y).toInt
def shlJ (x y : Int) : Int := (Int64.ofInt x <<< ((Int32.ofInt y).toInt64 &&& 63)).toInt
def andI (x y : Int) : Int := (Int32.ofInt x &&& Int32.ofInt y).toInt
def xorI (x y : Int) : Int := (Int32.ofInt x ^^^ Int32.ofInt y).toInt
/-! names for what is computed -/
def nmS {α : Type} (x : St) (f : St → α) : α := f x
def nmV {α : Type} (x : Int) (f : Int → α) : α := f x
theorem nmS_e {α : Type} {x : St} {f : St → α} {r : α} (h : nmS x f = r) : ∃ y, y = x ∧ f y = r := ⟨x, rfl, h⟩
theorem nmV_e {α : Type} {x : Int} {f : Int → α} {r : α} (h : nmV x f = r) : ∃ y, y = x ∧ f y = r := ⟨x, rfl, h⟩
theorem bnd_e {α β : Type} {o : Option α} {f : α → Option β} {r : β} (h : o.bind f = some r) : ∃ q, o = some q ∧ f q = some r := by
  cases o with
  | none => cases h
  | some q => exact ⟨q, rfl, h⟩
theorem gd_e {α : Type} {c : Prop} [Decidable c] {x : Option α} {r : α} (h : (if c then x else none) = some r) : c ∧ x = some r := by
  by_cases hc : c
  · rw [if_pos hc] at h; exact ⟨hc, h⟩
  · rw [if_neg hc] at h; cases h
/-- a call's answer: the memory behind it and the value -/
def cal {α : Type} (o : Option (St × Int)) (f : St → Int → Option α) : Option α := o.bind (fun q => f q.1 q.2)
theorem cal_e {α : Type} {o : Option (St × Int)} {f : St → Int → Option α} {r : α} (h : cal o f = some r) : ∃ S1 v1, o = some (S1, v1) ∧ f S1 v1 = some r := by
  obtain ⟨⟨S1, v1⟩, h1, h2⟩ := bnd_e h
  exact ⟨S1, v1, h1, h2⟩
theorem tn_lt {i : Int} {N M : Nat} (h : 0 ≤ i ∧ i < N) (hM : N ≤ M) : i.toNat < M := by omega
theorem tn_add {i : Int} {N b n : Nat} (h : 0 ≤ i ∧ i < N) (hb : N + b ≤ n) : i.toNat + b < n := by omega
theorem rg_r32 {i : Int} {N : Nat} (h : -1 ≤ i ∧ i < N) (hN : N ≤ 2147483647) : r32 i := ⟨by omega, by omega⟩
theorem ix_r32 {i : Int} {N : Nat} (h : 0 ≤ i ∧ i < N) (hN : N ≤ 2147483647) : r32 i := ⟨by omega, by omega⟩
theorem tn_r32 {i : Int} {N : Nat} (h : 0 ≤ i ∧ i < N) (hN : N ≤ 2147483647) : r32 (i.toNat : Int) := ⟨by omega, by omega⟩
def FU : Nat := 20000
