/-! bits of the words of reached -/
def bto (v : Int) (b : Nat) : Bool := (BitVec.ofInt 64 v).getLsbD b
theorem shl_all : ∀ b : Fin 64, shlJ 1 (b.val : Int) = (BitVec.twoPow 64 b.val).toInt := by decide +kernel
theorem two_ne : ∀ b : Fin 64, BitVec.twoPow 64 b.val ≠ 0#64 := by decide +kernel
theorem and_v {v : Int} {b : Nat} (hb : b < 64) : andJ v (shlJ 1 (b : Int)) = (BitVec.ofInt 64 v &&& BitVec.twoPow 64 b).toInt := by
  have h := shl_all ⟨b, hb⟩
  rw [h]
  have h2 : andJ v (BitVec.twoPow 64 b).toInt = (BitVec.ofInt 64 v &&& BitVec.ofInt 64 (BitVec.twoPow 64 b).toInt).toInt := rfl
  rw [h2, BitVec.ofInt_toInt]
theorem or_v {v : Int} {b : Nat} (hb : b < 64) : orJ v (shlJ 1 (b : Int)) = (BitVec.ofInt 64 v ||| BitVec.twoPow 64 b).toInt := by
  have h := shl_all ⟨b, hb⟩
  rw [h]
  have h2 : orJ v (BitVec.twoPow 64 b).toInt = (BitVec.ofInt 64 v ||| BitVec.ofInt 64 (BitVec.twoPow 64 b).toInt).toInt := rfl
  rw [h2, BitVec.ofInt_toInt]
theorem bit_and {v : Int} {b : Nat} (hb : b < 64) : andJ v (shlJ 1 (b : Int)) = 0 ↔ bto v b = false := by
  rw [and_v hb, BitVec.and_twoPow]
  unfold bto
  cases q : (BitVec.ofInt 64 v).getLsbD b with
  | true =>
    simp only [if_true]
    constructor
    · intro z
      have : BitVec.twoPow 64 b = 0#64 := by
        apply BitVec.eq_of_toInt_eq
        rw [z]; rfl
      exact absurd this (two_ne ⟨b, hb⟩)
    · intro z; exact absurd z (by decide)
  | false => simp
theorem bit_or {v : Int} {b j : Nat} (hb : b < 64) : bto (orJ v (shlJ 1 (b : Int))) j = true ↔ (bto v j = true ∨ j = b) := by
  rw [or_v hb]
  unfold bto
  rw [BitVec.ofInt_toInt, BitVec.getLsbD_or, BitVec.getLsbD_twoPow]
  simp only [Bool.or_eq_true, Bool.and_eq_true, decide_eq_true_eq]
  constructor
  · rintro (z | z)
    · exact Or.inl z
    · exact Or.inr z.2.symm
  · rintro (z | z)
    · exact Or.inl z
    · exact Or.inr ⟨hb, z.symm⟩
theorem bto_0 (j : Nat) : bto 0 j = false := by unfold bto; simp
/-- state s stands in the class's words -/
def bt (S : St) (s : Nat) : Prop := bto (S 17 (100000 + s / 64)) (s % 64) = true
def mkX (s : Nat) (S : St) : St := stU S 17 (100000 + s / 64) (orJ (S 17 (100000 + s / 64)) (shlJ 1 ((s % 64 : Nat) : Int)))
theorem bt_mk {S : St} {s x : Nat} : bt (mkX s S) x ↔ (bt S x ∨ x = s) := by
  unfold bt mkX
  by_cases q : x / 64 = s / 64
  · rw [q, stU_same, bit_or (by omega)]
    constructor
    · rintro (z | z)
      · exact Or.inl z
      · exact Or.inr (by omega)
    · rintro (z | z)
      · exact Or.inl z
      · exact Or.inr (by omega)
  · rw [stU_slot _ _ _ _ (by omega)]
    constructor
    · exact Or.inl
    · rintro (z | z)
      · exact z
      · exact absurd (by rw [z]) q
theorem mk_off {S : St} {s k f : Nat} (hk : k ≠ 17) : mkX s S k f = S k f := by unfold mkX; rw [stU_cell _ _ _ _ hk]
theorem td64 {s : Nat} (h : s < 15625) : w32 (Int.tdiv (s : Int) 64) = ((s / 64 : Nat) : Int) := by
  rw [Int.tdiv_eq_ediv_of_nonneg (by omega), w32_id ⟨by omega, by omega⟩]; omega
theorem tm64 {s : Nat} (h : s < 15625) : w32 (Int.tmod (s : Int) 64) = ((s % 64 : Nat) : Int) := by
  rw [Int.tmod_eq_emod_of_nonneg (by omega), w32_id ⟨by omega, by omega⟩]; omega
theorem X_mark {S : St} {s : Nat} (h : s < 15625) : dn_X2_markReached (s : Int) S = some (mkX s S, 0) := by
  unfold dn_X2_markReached mkX
  rw [X_in, cal_s, if_pos (show (0 : Int) ≤ (s : Int) ∧ (s : Int) ≤ 15624 by omega), if_neg (show ¬ (1 : Int) = 0 by decide), td64 h, tm64 h, if_pos (by omega), nmS_s, Int.toNat_natCast]
theorem X_isR {S : St} {s : Nat} (h : s < 15625) : ∃ v, dn_X2_isReached (s : Int) S = some (S, v) ∧ (v = 0 ↔ ¬ bt S s) := by
  unfold dn_X2_isReached bt
  rw [X_in, cal_s, if_pos (show (0 : Int) ≤ (s : Int) ∧ (s : Int) ≤ 15624 by omega), if_neg (show ¬ (1 : Int) = 0 by decide), td64 h, tm64 h, if_pos (by omega), Int.toNat_natCast]
  by_cases q : andJ (S 17 (100000 + s / 64)) (shlJ 1 ((s % 64 : Nat) : Int)) = 0
  · rw [if_pos ((cmpJ_z _ _).mpr q)]
    refine ⟨0, rfl, ?_⟩
    have := (bit_and (by omega)).mp q
    rw [this]
    simp
  · rw [if_neg (fun z => q ((cmpJ_z _ _).mp z))]
    refine ⟨1, rfl, ?_⟩
    have : bto (S 17 (100000 + s / 64)) (s % 64) = true := by
      cases z : bto (S 17 (100000 + s / 64)) (s % 64) with
      | true => rfl
      | false => exact absurd ((bit_and (by omega)).mpr z) q
    rw [this]
    simp
