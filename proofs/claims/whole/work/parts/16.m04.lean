-- RX9 scatter
abbrev rm_X9_scatter : Room := ({ frames := 0, cells := 0, slots := 0, locals := 0 } : Room)
abbrev mi_X9_scatter : Mi := (cX9_scatter, 2, RX9, wsX9_scatter, rm_X9_scatter, (some .int))
set_option maxRecDepth 20000 in
theorem in_X9_scatter_X9 : ∀ w ∈ u_ws RX9 TX9 39, w ∈ wsX9_scatter := by decide +kernel
def dn_X9_scatter (S : St) : Option (St × Int) := (nmS (stU S 0 33 0) fun S1 => (nmV (S1 0 32) fun v2 => (nmS (stU S1 0 32 0) fun S3 => some (S3, v2))))
set_option maxRecDepth 100000 in
set_option maxHeartbeats 4000000 in
theorem c_X9_scatter {l : Launch} {D : va_G} {t : T5} {ad : Nat → Nat} {S S0 : St} {r0 : Int} (hS : RS S) (h : dn_X9_scatter S = some (S0, r0)) : Mc l (sM D t ad) yX9_scatter wsX9_scatter rm_X9_scatter [.ref (ad 0)] acI S S0 r0 := by
  refine Mc_of (cc := cX9_scatter) (nL := 2) (ret := (some .int)) (by decide +kernel) rfl (Nat.le_of_ble_eq_true rfl) (lv := [(0, .ref (ad 0))]) rfl (fun x C _ => ?_)
  unfold dn_X9_scatter at h
  show GW (sM D t ad) mi_X9_scatter (acI, S0, r0) x S 0 [(0, .ref (ad 0))] []
  refine g_aload_n (n := 1) C 0 dX9_scatter_0 rfl rfl ?_
  refine g_iconst (n := 2) C dX9_scatter_1 rfl ?_
  obtain ⟨S1, eS1, h⟩ := nmS_e h
  have hS1 : RS S1 := by rw [eS1]; exact RS_i hS (by decide : r32 0)
  refine g_putI (n := 5) C 0 33 rfl (Nat.le_of_ble_eq_true rfl) rfl rfl rfl (Nat.le_of_ble_eq_true rfl) in_X9_scatter_X9 tyX9_ok nmX9 (by decide +kernel) rfl (by decide +kernel) (Nat.le_of_ble_eq_true rfl) eS1 dX9_scatter_2 rfl ?_
  refine g_aload_n (n := 6) C 0 dX9_scatter_5 rfl rfl ?_
  refine g_getI (n := 9) C 0 32 rfl (Nat.le_of_ble_eq_true rfl) rfl rfl rfl (Nat.le_of_ble_eq_true rfl) in_X9_scatter_X9 (by decide +kernel) dX9_scatter_6 rfl ?_
  obtain ⟨v2, ev2, h⟩ := nmV_e h
  have hv2 : r32 v2 := by rw [ev2]; exact (hS1 0 32).2 (by decide)
  refine g_istore_n (n := 10) (lv' := [(1, vI v2), (0, .ref (ad 0))]) C dX9_scatter_9 (Nat.le_of_ble_eq_true rfl) ev2 rfl rfl ?_
  refine g_aload_n (n := 11) C 1 dX9_scatter_10 rfl rfl ?_
  refine g_iconst (n := 12) C dX9_scatter_11 rfl ?_
  obtain ⟨S3, eS3, h⟩ := nmS_e h
  have hS3 : RS S3 := by rw [eS3]; exact RS_i hS1 (by decide : r32 0)
  refine g_putI (n := 15) C 0 32 rfl (Nat.le_of_ble_eq_true rfl) rfl rfl rfl (Nat.le_of_ble_eq_true rfl) in_X9_scatter_X9 tyX9_ok nmX9 (by decide +kernel) rfl (by decide +kernel) (Nat.le_of_ble_eq_true rfl) eS3 dX9_scatter_12 rfl ?_
  refine g_iload_n (n := 16) C 0 dX9_scatter_15 rfl rfl ?_
  exact g_iret C rfl h rfl hv2 hS3 dX9_scatter_16
-- RX9 walk
abbrev rm_X9_walk : Room := ({ frames := 0, cells := 0, slots := 0, locals := 0 } : Room)
abbrev mi_X9_walk : Mi := (cX9_walk, 12, RX9, wsX9_walk, rm_X9_walk, (some .int))
set_option maxRecDepth 20000 in
theorem in_X9_walk_X9 : ∀ w ∈ u_ws RX9 TX9 39, w ∈ wsX9_walk := by decide +kernel
def dn_X9_walk_157 (k45 : Int → Int → Int → St → Option (St × Int)) : Nat → Int → Int → Int → Int → Int → Int → Int → Int → Int → St → Option (St × Int)
  | 0, _, _, _, _, _, _, _, _, _, _ => none
  | n + 1, x1, x2, x3, x4, x5, x6, x7, x8, x9, S => (if S 0 32 ≤ x9 then k45 x1 x2 x3 S else (nmV (w32 (Int.tmod x7 5)) fun v12 => (nmV (w32 (Int.tdiv x7 5)) fun v13 => (nmV (w32 (x4 + x8)) fun v14 => (nmV (w32 (x8 * 5)) fun v15 => (if 0 ≤ x9 ∧ x9 < 6 then (if v12 = S 22 x9.toNat then (nmV (w32 (x9 + 1)) fun v18 => dn_X9_walk_157 k45 n x1 x2 x3 x4 x5 x6 v13 v15 v18 S) else (if x5 = x1 then (nmV (w32 (x9 + 1)) fun v20 => dn_X9_walk_157 k45 n x1 x2 x3 x4 x5 x6 v13 v15 v20 S) else (if 0 ≤ v14 ∧ v14 < 15625 then (if S 23 v14.toNat = 0 then (nmS (stU S 23 v14.toNat 1) fun S23 => (if 0 ≤ x3 ∧ x3 < 15625 then (nmS (stU S23 24 x3.toNat v14) fun S25 => (nmV (w32 (x3 + 1)) fun v26 => (nmV (w32 (x9 + 1)) fun v27 => dn_X9_walk_157 k45 n x1 x2 v26 x4 x5 x6 v13 v15 v27 S25))) else none)) else (nmV (w32 (x9 + 1)) fun v28 => dn_X9_walk_157 k45 n x1 x2 x3 x4 x5 x6 v13 v15 v28 S)) else none))) else none))))))
set_option maxRecDepth 100000 in
set_option maxHeartbeats 4000000 in
theorem u_X9_walk_157 {D : va_G} {t : T5} {ad : Nat → Nat} {S0 : St} {r0 : Int} {x : Mx} (C : CX (sM D t ad) mi_X9_walk x) {k45 : Int → Int → Int → St → Option (St × Int)} (hk45 : ∀ (x1 : Int) (x2 : Int) (x3 : Int) (S : St), RS S → (r32 x1) → (r32 x2) → (r32 x3) → k45 x1 x2 x3 S = some (S0, r0) → GW (sM D t ad) mi_X9_walk (acI, S0, r0) x S 45 [(0, .ref (ad 0)), (1, vI x1), (2, vI x2), (3, vI x3)] []) : ∀ (n : Nat) (x1 : Int) (x2 : Int) (x3 : Int) (x4 : Int) (x5 : Int) (x6 : Int) (x7 : Int) (x8 : Int) (x9 : Int) (S : St), RS S → (r32 x1) → (r32 x2) → (r32 x3) → (r32 x4) → (r32 x5) → (r32 x6) → (r32 x7) → (r32 x8) → (r32 x9) → dn_X9_walk_157 k45 n x1 x2 x3 x4 x5 x6 x7 x8 x9 S = some (S0, r0) → GW (sM D t ad) mi_X9_walk (acI, S0, r0) x S 157 [(0, .ref (ad 0)), (1, vI x1), (2, vI x2), (3, vI x3), (4, vI x4), (5, vI x5), (6, vI x6), (7, vI x7), (8, vI x8), (9, vI x9)] [] := by
  intro n
  induction n with
  | zero =>
    intro x1 x2 x3 x4 x5 x6 x7 x8 x9 S hS hx1 hx2 hx3 hx4 hx5 hx6 hx7 hx8 hx9 h
    cases h
  | succ n ih =>
    intro x1 x2 x3 x4 x5 x6 x7 x8 x9 S hS hx1 hx2 hx3 hx4 hx5 hx6 hx7 hx8 hx9 h
    rw [dn_X9_walk_157] at h
    refine g_iload (n := 159) C 9 dX9_walk_157 rfl rfl ?_
    refine g_aload_n (n := 160) C 0 dX9_walk_159 rfl rfl ?_
    refine g_getI (n := 163) C 0 32 rfl (Nat.le_of_ble_eq_true rfl) rfl rfl rfl (Nat.le_of_ble_eq_true rfl) in_X9_walk_X9 (by decide +kernel) dX9_walk_160 rfl ?_
    refine g_icmp_ge (n := 166) C 247 hx9 ((hS 0 32).2 (by decide)) dX9_walk_163 (by decide) rfl (fun (hc11 : S 0 32 ≤ x9) => ?_) (fun (hc11 : ¬ (S 0 32 ≤ x9)) => ?_)
    · rw [if_pos hc11] at h
      refine g_goto C 45 dX9_walk_247 (by decide) ?_
      refine g_lv [0, 1, 2, 3] rfl ?_
      exact hk45 x1 x2 x3 S hS hx1 hx2 hx3 h
    · rw [if_neg hc11] at h
      refine g_iload (n := 168) C 7 dX9_walk_166 rfl rfl ?_
      refine g_iconst (n := 169) C dX9_walk_168 rfl ?_
      refine g_irem (n := 170) C hx7 (by decide : r32 5) (by decide) dX9_walk_169 rfl ?_
      obtain ⟨v12, ev12, h⟩ := nmV_e h
      have hv12 : r32 v12 := by rw [ev12]; exact (w32_r _)
      refine g_istore (n := 172) (lv' := [(10, vI v12), (0, .ref (ad 0)), (1, vI x1), (2, vI x2), (3, vI x3), (4, vI x4), (5, vI x5), (6, vI x6), (7, vI x7), (8, vI x8), (9, vI x9)]) C dX9_walk_170 (Nat.le_of_ble_eq_true rfl) ev12 rfl rfl ?_
      refine g_iload (n := 174) C 8 dX9_walk_172 rfl rfl ?_
      refine g_iconst (n := 175) C dX9_walk_174 rfl ?_
      refine g_idiv (n := 176) C hx7 (by decide : r32 5) (by decide) dX9_walk_175 rfl ?_
      obtain ⟨v13, ev13, h⟩ := nmV_e h
      have hv13 : r32 v13 := by rw [ev13]; exact (w32_r _)
      refine g_istore (n := 178) (lv' := [(7, vI v13), (10, vI v12), (0, .ref (ad 0)), (1, vI x1), (2, vI x2), (3, vI x3), (4, vI x4), (5, vI x5), (6, vI x6), (8, vI x8), (9, vI x9)]) C dX9_walk_176 (Nat.le_of_ble_eq_true rfl) ev13 rfl rfl ?_
      refine g_iload (n := 180) C 6 dX9_walk_178 rfl rfl ?_
      refine g_iload (n := 182) C 9 dX9_walk_180 rfl rfl ?_
      refine g_iadd (n := 183) C dX9_walk_182 rfl ?_
      obtain ⟨v14, ev14, h⟩ := nmV_e h
      have hv14 : r32 v14 := by rw [ev14]; exact (w32_r _)
      refine g_istore (n := 185) (lv' := [(11, vI v14), (7, vI v13), (10, vI v12), (0, .ref (ad 0)), (1, vI x1), (2, vI x2), (3, vI x3), (4, vI x4), (5, vI x5), (6, vI x6), (8, vI x8), (9, vI x9)]) C dX9_walk_183 (Nat.le_of_ble_eq_true rfl) ev14 rfl rfl ?_
      refine g_iload (n := 187) C 10 dX9_walk_185 rfl rfl ?_
      refine g_iconst (n := 188) C dX9_walk_187 rfl ?_
      refine g_imul (n := 189) C dX9_walk_188 rfl ?_
      obtain ⟨v15, ev15, h⟩ := nmV_e h
      have hv15 : r32 v15 := by rw [ev15]; exact (w32_r _)
      refine g_istore (n := 191) (lv' := [(8, vI v15), (11, vI v14), (7, vI v13), (10, vI v12), (0, .ref (ad 0)), (1, vI x1), (2, vI x2), (3, vI x3), (4, vI x4), (5, vI x5), (6, vI x6), (9, vI x9)]) C dX9_walk_189 (Nat.le_of_ble_eq_true rfl) ev15 rfl rfl ?_
      refine g_iload (n := 193) C 3 dX9_walk_191 rfl rfl ?_
      refine g_aload_n (n := 194) C 4 dX9_walk_193 rfl rfl ?_
      refine g_getC (n := 197) C 0 31 rfl (Nat.le_of_ble_eq_true rfl) rfl rfl rfl (Nat.le_of_ble_eq_true rfl) in_X9_walk_X9 (by decide +kernel) dX9_walk_194 rfl ?_
      refine g_iload (n := 199) C 11 dX9_walk_197 rfl rfl ?_
      obtain ⟨hg16, h⟩ := gd_e h
      refine g_iald (n := 200) C 22 rfl (Nat.le_of_ble_eq_true rfl) rfl rfl hg16 hx9 dX9_walk_199 rfl ?_
      refine g_icmp_eq (n := 203) C 241 hv12 ((hS 22 _).2 (tn_lt hg16 (by decide))) dX9_walk_200 (by decide) rfl (fun (hc17 : v12 = S 22 x9.toNat) => ?_) (fun (hc17 : ¬ (v12 = S 22 x9.toNat)) => ?_)
      · rw [if_pos hc17] at h
        obtain ⟨v18, ev18, h⟩ := nmV_e h
        have hv18 : r32 v18 := by rw [ev18]; exact w32_r _
        refine g_iinc (n := 244) (lv' := [(9, vI v18), (8, vI v15), (11, vI v14), (7, vI v13), (10, vI v12), (0, .ref (ad 0)), (1, vI x1), (2, vI x2), (3, vI x3), (4, vI x4), (5, vI x5), (6, vI x6)]) C 11 dX9_walk_241 rfl (Nat.le_of_ble_eq_true rfl) ev18 rfl rfl ?_
        refine g_goto C 157 dX9_walk_244 (by decide) ?_
        refine g_lv [5, 6, 7, 8, 9, 10, 11, 3, 1, 0] rfl ?_
        exact ih x1 x2 x3 x4 x5 x6 v13 v15 v18 S hS hx1 hx2 hx3 hx4 hx5 hx6 hv13 hv15 hv18 h
      · rw [if_neg hc17] at h
        refine g_iload (n := 205) C 9 dX9_walk_203 rfl rfl ?_
        refine g_iload_n (n := 206) C 5 dX9_walk_205 rfl rfl ?_
        refine g_icmp_eq (n := 209) C 241 hx5 hx1 dX9_walk_206 (by decide) rfl (fun (hc19 : x5 = x1) => ?_) (fun (hc19 : ¬ (x5 = x1)) => ?_)
        · rw [if_pos hc19] at h
          obtain ⟨v20, ev20, h⟩ := nmV_e h
          have hv20 : r32 v20 := by rw [ev20]; exact w32_r _
          refine g_iinc (n := 244) (lv' := [(9, vI v20), (8, vI v15), (11, vI v14), (7, vI v13), (10, vI v12), (0, .ref (ad 0)), (1, vI x1), (2, vI x2), (3, vI x3), (4, vI x4), (5, vI x5), (6, vI x6)]) C 11 dX9_walk_241 rfl (Nat.le_of_ble_eq_true rfl) ev20 rfl rfl ?_
          refine g_goto C 157 dX9_walk_244 (by decide) ?_
          refine g_lv [5, 6, 7, 8, 9, 10, 11, 3, 1, 0] rfl ?_
          exact ih x1 x2 x3 x4 x5 x6 v13 v15 v20 S hS hx1 hx2 hx3 hx4 hx5 hx6 hv13 hv15 hv20 h
        · rw [if_neg hc19] at h
          refine g_aload_n (n := 210) C 4 dX9_walk_209 rfl rfl ?_
          refine g_getC (n := 213) C 0 36 rfl (Nat.le_of_ble_eq_true rfl) rfl rfl rfl (Nat.le_of_ble_eq_true rfl) in_X9_walk_X9 (by decide +kernel) dX9_walk_210 rfl ?_
          refine g_iload (n := 215) C 1 dX9_walk_213 rfl rfl ?_
          obtain ⟨hg21, h⟩ := gd_e h
          refine g_zald (n := 216) C 23 rfl (Nat.le_of_ble_eq_true rfl) rfl rfl hg21 hv14 dX9_walk_215 rfl ?_
          refine g_if_eq (n := 219) C 222 ((hS 23 _).2 (tn_lt hg21 (by decide))) dX9_walk_216 (by decide) rfl (fun (hc22 : S 23 v14.toNat = 0) => ?_) (fun (hc22 : ¬ (S 23 v14.toNat = 0)) => ?_)
          · rw [if_pos hc22] at h
            refine g_aload_n (n := 223) C 4 dX9_walk_222 rfl rfl ?_
            refine g_getC (n := 226) C 0 36 rfl (Nat.le_of_ble_eq_true rfl) rfl rfl rfl (Nat.le_of_ble_eq_true rfl) in_X9_walk_X9 (by decide +kernel) dX9_walk_223 rfl ?_
            refine g_iload (n := 228) C 1 dX9_walk_226 rfl rfl ?_
            refine g_iconst (n := 229) C dX9_walk_228 rfl ?_
            obtain ⟨S23, eS23, h⟩ := nmS_e h
            have hS23 : RS S23 := by rw [eS23]; exact RS_i hS (by decide : r32 1)
            refine g_zast (n := 230) C 23 rfl (Nat.le_of_ble_eq_true rfl) rfl rfl hg21 hv14 (by decide +kernel) eS23 dX9_walk_229 rfl ?_
            refine g_aload_n (n := 231) C 4 dX9_walk_230 rfl rfl ?_
            refine g_getC (n := 234) C 0 37 rfl (Nat.le_of_ble_eq_true rfl) rfl rfl rfl (Nat.le_of_ble_eq_true rfl) in_X9_walk_X9 (by decide +kernel) dX9_walk_231 rfl ?_
            refine g_iload_n (n := 235) C 7 dX9_walk_234 rfl rfl ?_
            refine g_iload (n := 237) C 1 dX9_walk_235 rfl rfl ?_
            obtain ⟨hg24, h⟩ := gd_e h
            obtain ⟨S25, eS25, h⟩ := nmS_e h
            have hS25 : RS S25 := by rw [eS25]; exact RS_i hS23 hv14
            refine g_iast (n := 238) C 24 rfl (Nat.le_of_ble_eq_true rfl) rfl rfl hg24 hx3 eS25 dX9_walk_237 rfl ?_
            obtain ⟨v26, ev26, h⟩ := nmV_e h
            have hv26 : r32 v26 := by rw [ev26]; exact w32_r _
            refine g_iinc (n := 241) (lv' := [(3, vI v26), (8, vI v15), (11, vI v14), (7, vI v13), (10, vI v12), (0, .ref (ad 0)), (1, vI x1), (2, vI x2), (4, vI x4), (5, vI x5), (6, vI x6), (9, vI x9)]) C 7 dX9_walk_238 rfl (Nat.le_of_ble_eq_true rfl) ev26 rfl rfl ?_
            obtain ⟨v27, ev27, h⟩ := nmV_e h
            have hv27 : r32 v27 := by rw [ev27]; exact w32_r _
            refine g_iinc (n := 244) (lv' := [(9, vI v27), (3, vI v26), (8, vI v15), (11, vI v14), (7, vI v13), (10, vI v12), (0, .ref (ad 0)), (1, vI x1), (2, vI x2), (4, vI x4), (5, vI x5), (6, vI x6)]) C 11 dX9_walk_241 rfl (Nat.le_of_ble_eq_true rfl) ev27 rfl rfl ?_
            refine g_goto C 157 dX9_walk_244 (by decide) ?_
            refine g_lv [6, 7, 8, 1, 9, 10, 11, 4, 2, 0] rfl ?_
            exact ih x1 x2 v26 x4 x5 x6 v13 v15 v27 S25 hS25 hx1 hx2 hv26 hx4 hx5 hx6 hv13 hv15 hv27 h
          · rw [if_neg hc22] at h
            refine g_goto C 241 dX9_walk_219 (by decide) ?_
            obtain ⟨v28, ev28, h⟩ := nmV_e h
            have hv28 : r32 v28 := by rw [ev28]; exact w32_r _
            refine g_iinc (n := 244) (lv' := [(9, vI v28), (8, vI v15), (11, vI v14), (7, vI v13), (10, vI v12), (0, .ref (ad 0)), (1, vI x1), (2, vI x2), (3, vI x3), (4, vI x4), (5, vI x5), (6, vI x6)]) C 11 dX9_walk_241 rfl (Nat.le_of_ble_eq_true rfl) ev28 rfl rfl ?_
            refine g_goto C 157 dX9_walk_244 (by decide) ?_
            refine g_lv [5, 6, 7, 8, 9, 10, 11, 3, 1, 0] rfl ?_
            exact ih x1 x2 x3 x4 x5 x6 v13 v15 v28 S hS hx1 hx2 hx3 hx4 hx5 hx6 hv13 hv15 hv28 h
def dn_X9_walk_74 (k45 : Int → Int → Int → St → Option (St × Int)) : Nat → Int → Int → Int → Int → Int → Int → Int → Int → St → Option (St × Int)
  | 0, _, _, _, _, _, _, _, _, _ => none
  | n + 1, x1, x2, x3, x4, x5, x6, x7, x8, S => (if S 0 32 ≤ x8 then (if x6 = 0 then (if x5 = x1 then (nmS (stU S 0 38 (w32 ((S 0 38) + 1))) fun S30 => dn_X9_walk_157 k45 FU x1 x2 x3 x4 x5 x6 x4 1 0 S30) else dn_X9_walk_157 k45 FU x1 x2 x3 x4 x5 x6 x4 1 0 S) else dn_X9_walk_157 k45 FU x1 x2 x3 x4 x5 x6 x4 1 0 S) else (nmV (w32 (Int.tmod x7 5)) fun v31 => (nmV (w32 (Int.tdiv x7 5)) fun v32 => (if 0 ≤ x8 ∧ x8 < 6 then (if v31 = S 22 x8.toNat then (nmV (w32 (x8 + 1)) fun v37 => dn_X9_walk_74 k45 n x1 x2 x3 x4 x5 x6 v32 v37 S) else (nmV (w32 (x5 + v31)) fun v35 => (nmV (w32 (x8 + 1)) fun v36 => dn_X9_walk_74 k45 n x1 x2 x3 x4 v35 0 v32 v36 S))) else none))))
set_option maxRecDepth 100000 in
set_option maxHeartbeats 4000000 in
theorem u_X9_walk_74 {D : va_G} {t : T5} {ad : Nat → Nat} {S0 : St} {r0 : Int} {x : Mx} (C : CX (sM D t ad) mi_X9_walk x) {k45 : Int → Int → Int → St → Option (St × Int)} (hk45 : ∀ (x1 : Int) (x2 : Int) (x3 : Int) (S : St), RS S → (r32 x1) → (r32 x2) → (r32 x3) → k45 x1 x2 x3 S = some (S0, r0) → GW (sM D t ad) mi_X9_walk (acI, S0, r0) x S 45 [(0, .ref (ad 0)), (1, vI x1), (2, vI x2), (3, vI x3)] []) : ∀ (n : Nat) (x1 : Int) (x2 : Int) (x3 : Int) (x4 : Int) (x5 : Int) (x6 : Int) (x7 : Int) (x8 : Int) (S : St), RS S → (r32 x1) → (r32 x2) → (r32 x3) → (r32 x4) → (r32 x5) → (r32 x6) → (r32 x7) → (r32 x8) → dn_X9_walk_74 k45 n x1 x2 x3 x4 x5 x6 x7 x8 S = some (S0, r0) → GW (sM D t ad) mi_X9_walk (acI, S0, r0) x S 74 [(0, .ref (ad 0)), (1, vI x1), (2, vI x2), (3, vI x3), (4, vI x4), (5, vI x5), (6, vI x6), (7, vI x7), (8, vI x8)] [] := by
  intro n
  induction n with
  | zero =>
    intro x1 x2 x3 x4 x5 x6 x7 x8 S hS hx1 hx2 hx3 hx4 hx5 hx6 hx7 hx8 h
    cases h
  | succ n ih =>
    intro x1 x2 x3 x4 x5 x6 x7 x8 S hS hx1 hx2 hx3 hx4 hx5 hx6 hx7 hx8 h
    rw [dn_X9_walk_74] at h
    refine g_iload (n := 76) C 8 dX9_walk_74 rfl rfl ?_
    refine g_aload_n (n := 77) C 0 dX9_walk_76 rfl rfl ?_
    refine g_getI (n := 80) C 0 32 rfl (Nat.le_of_ble_eq_true rfl) rfl rfl rfl (Nat.le_of_ble_eq_true rfl) in_X9_walk_X9 (by decide +kernel) dX9_walk_77 rfl ?_
    refine g_icmp_ge (n := 83) C 126 hx8 ((hS 0 32).2 (by decide)) dX9_walk_80 (by decide) rfl (fun (hc9 : S 0 32 ≤ x8) => ?_) (fun (hc9 : ¬ (S 0 32 ≤ x8)) => ?_)
    · rw [if_pos hc9] at h
      refine g_iload (n := 128) C 6 dX9_walk_126 rfl rfl ?_
      refine g_if_ne (n := 131) C 147 hx6 dX9_walk_128 (by decide) rfl (fun (hc10 : ¬ (x6 = 0)) => ?_) (fun (hc10 : x6 = 0) => ?_)
      · rw [if_neg hc10] at h
        refine g_iconst (n := 148) C dX9_walk_147 rfl ?_
        refine g_istore (n := 150) (lv' := [(8, vI 1), (0, .ref (ad 0)), (1, vI x1), (2, vI x2), (3, vI x3), (4, vI x4), (5, vI x5), (6, vI x6), (7, vI x7)]) C dX9_walk_148 (Nat.le_of_ble_eq_true rfl) rfl rfl rfl ?_
        refine g_iload (n := 152) C 5 dX9_walk_150 rfl rfl ?_
        refine g_istore (n := 154) (lv' := [(7, vI x4), (8, vI 1), (0, .ref (ad 0)), (1, vI x1), (2, vI x2), (3, vI x3), (4, vI x4), (5, vI x5), (6, vI x6)]) C dX9_walk_152 (Nat.le_of_ble_eq_true rfl) rfl rfl rfl ?_
        refine g_iconst (n := 155) C dX9_walk_154 rfl ?_
        refine g_istore (n := 157) (lv' := [(9, vI 0), (7, vI x4), (8, vI 1), (0, .ref (ad 0)), (1, vI x1), (2, vI x2), (3, vI x3), (4, vI x4), (5, vI x5), (6, vI x6)]) C dX9_walk_155 (Nat.le_of_ble_eq_true rfl) rfl rfl rfl ?_
        refine g_lv [3, 4, 5, 6, 7, 8, 9, 1, 2, 0] rfl ?_
        exact u_X9_walk_157 C hk45 FU x1 x2 x3 x4 x5 x6 x4 1 0 S hS hx1 hx2 hx3 hx4 hx5 hx6 hx4 (by decide : r32 1) (by decide : r32 0) h
      · rw [if_pos hc10] at h
        refine g_iload (n := 133) C 5 dX9_walk_131 rfl rfl ?_
        refine g_iload_n (n := 134) C 1 dX9_walk_133 rfl rfl ?_
        refine g_icmp_ne (n := 137) C 147 hx5 hx1 dX9_walk_134 (by decide) rfl (fun (hc29 : ¬ (x5 = x1)) => ?_) (fun (hc29 : x5 = x1) => ?_)
        · rw [if_neg hc29] at h
          refine g_iconst (n := 148) C dX9_walk_147 rfl ?_
          refine g_istore (n := 150) (lv' := [(8, vI 1), (0, .ref (ad 0)), (1, vI x1), (2, vI x2), (3, vI x3), (4, vI x4), (5, vI x5), (6, vI x6), (7, vI x7)]) C dX9_walk_148 (Nat.le_of_ble_eq_true rfl) rfl rfl rfl ?_
          refine g_iload (n := 152) C 5 dX9_walk_150 rfl rfl ?_
          refine g_istore (n := 154) (lv' := [(7, vI x4), (8, vI 1), (0, .ref (ad 0)), (1, vI x1), (2, vI x2), (3, vI x3), (4, vI x4), (5, vI x5), (6, vI x6)]) C dX9_walk_152 (Nat.le_of_ble_eq_true rfl) rfl rfl rfl ?_
          refine g_iconst (n := 155) C dX9_walk_154 rfl ?_
          refine g_istore (n := 157) (lv' := [(9, vI 0), (7, vI x4), (8, vI 1), (0, .ref (ad 0)), (1, vI x1), (2, vI x2), (3, vI x3), (4, vI x4), (5, vI x5), (6, vI x6)]) C dX9_walk_155 (Nat.le_of_ble_eq_true rfl) rfl rfl rfl ?_
          refine g_lv [3, 4, 5, 6, 7, 8, 9, 1, 2, 0] rfl ?_
          exact u_X9_walk_157 C hk45 FU x1 x2 x3 x4 x5 x6 x4 1 0 S hS hx1 hx2 hx3 hx4 hx5 hx6 hx4 (by decide : r32 1) (by decide : r32 0) h
        · rw [if_pos hc29] at h
          refine g_aload_n (n := 138) C 0 dX9_walk_137 rfl rfl ?_
          refine g_dup (n := 139) C rfl dX9_walk_138 rfl ?_
          refine g_getI (n := 142) C 0 38 rfl (Nat.le_of_ble_eq_true rfl) rfl rfl rfl (Nat.le_of_ble_eq_true rfl) in_X9_walk_X9 (by decide +kernel) dX9_walk_139 rfl ?_
          refine g_iconst (n := 143) C dX9_walk_142 rfl ?_
          refine g_iadd (n := 144) C dX9_walk_143 rfl ?_
          obtain ⟨S30, eS30, h⟩ := nmS_e h
          have hS30 : RS S30 := by rw [eS30]; exact RS_i hS (w32_r _)
          refine g_putI (n := 147) C 0 38 rfl (Nat.le_of_ble_eq_true rfl) rfl rfl rfl (Nat.le_of_ble_eq_true rfl) in_X9_walk_X9 tyX9_ok nmX9 (by decide +kernel) rfl (by decide +kernel) (Nat.le_of_ble_eq_true rfl) eS30 dX9_walk_144 rfl ?_
          refine g_iconst (n := 148) C dX9_walk_147 rfl ?_
          refine g_istore (n := 150) (lv' := [(8, vI 1), (0, .ref (ad 0)), (1, vI x1), (2, vI x2), (3, vI x3), (4, vI x4), (5, vI x5), (6, vI x6), (7, vI x7)]) C dX9_walk_148 (Nat.le_of_ble_eq_true rfl) rfl rfl rfl ?_
          refine g_iload (n := 152) C 5 dX9_walk_150 rfl rfl ?_
          refine g_istore (n := 154) (lv' := [(7, vI x4), (8, vI 1), (0, .ref (ad 0)), (1, vI x1), (2, vI x2), (3, vI x3), (4, vI x4), (5, vI x5), (6, vI x6)]) C dX9_walk_152 (Nat.le_of_ble_eq_true rfl) rfl rfl rfl ?_
          refine g_iconst (n := 155) C dX9_walk_154 rfl ?_
          refine g_istore (n := 157) (lv' := [(9, vI 0), (7, vI x4), (8, vI 1), (0, .ref (ad 0)), (1, vI x1), (2, vI x2), (3, vI x3), (4, vI x4), (5, vI x5), (6, vI x6)]) C dX9_walk_155 (Nat.le_of_ble_eq_true rfl) rfl rfl rfl ?_
          refine g_lv [3, 4, 5, 6, 7, 8, 9, 1, 2, 0] rfl ?_
          exact u_X9_walk_157 C hk45 FU x1 x2 x3 x4 x5 x6 x4 1 0 S30 hS30 hx1 hx2 hx3 hx4 hx5 hx6 hx4 (by decide : r32 1) (by decide : r32 0) h
    · rw [if_neg hc9] at h
      refine g_iload (n := 85) C 7 dX9_walk_83 rfl rfl ?_
      refine g_iconst (n := 86) C dX9_walk_85 rfl ?_
      refine g_irem (n := 87) C hx7 (by decide : r32 5) (by decide) dX9_walk_86 rfl ?_
      obtain ⟨v31, ev31, h⟩ := nmV_e h
      have hv31 : r32 v31 := by rw [ev31]; exact (w32_r _)
      refine g_istore (n := 89) (lv' := [(9, vI v31), (0, .ref (ad 0)), (1, vI x1), (2, vI x2), (3, vI x3), (4, vI x4), (5, vI x5), (6, vI x6), (7, vI x7), (8, vI x8)]) C dX9_walk_87 (Nat.le_of_ble_eq_true rfl) ev31 rfl rfl ?_
      refine g_iload (n := 91) C 8 dX9_walk_89 rfl rfl ?_
      refine g_iconst (n := 92) C dX9_walk_91 rfl ?_
      refine g_idiv (n := 93) C hx7 (by decide : r32 5) (by decide) dX9_walk_92 rfl ?_
      obtain ⟨v32, ev32, h⟩ := nmV_e h
      have hv32 : r32 v32 := by rw [ev32]; exact (w32_r _)
      refine g_istore (n := 95) (lv' := [(7, vI v32), (9, vI v31), (0, .ref (ad 0)), (1, vI x1), (2, vI x2), (3, vI x3), (4, vI x4), (5, vI x5), (6, vI x6), (8, vI x8)]) C dX9_walk_93 (Nat.le_of_ble_eq_true rfl) ev32 rfl rfl ?_
      refine g_iload (n := 97) C 1 dX9_walk_95 rfl rfl ?_
      refine g_aload_n (n := 98) C 2 dX9_walk_97 rfl rfl ?_
      refine g_getC (n := 101) C 0 31 rfl (Nat.le_of_ble_eq_true rfl) rfl rfl rfl (Nat.le_of_ble_eq_true rfl) in_X9_walk_X9 (by decide +kernel) dX9_walk_98 rfl ?_
      refine g_iload (n := 103) C 9 dX9_walk_101 rfl rfl ?_
      obtain ⟨hg33, h⟩ := gd_e h
      refine g_iald (n := 104) C 22 rfl (Nat.le_of_ble_eq_true rfl) rfl rfl hg33 hx8 dX9_walk_103 rfl ?_
      refine g_icmp_ne (n := 107) C 110 hv31 ((hS 22 _).2 (tn_lt hg33 (by decide))) dX9_walk_104 (by decide) rfl (fun (hc34 : ¬ (v31 = S 22 x8.toNat)) => ?_) (fun (hc34 : v31 = S 22 x8.toNat) => ?_)
      · rw [if_neg hc34] at h
        refine g_iload (n := 112) C 7 dX9_walk_110 rfl rfl ?_
        refine g_iload (n := 114) C 1 dX9_walk_112 rfl rfl ?_
        refine g_iadd (n := 115) C dX9_walk_114 rfl ?_
        obtain ⟨v35, ev35, h⟩ := nmV_e h
        have hv35 : r32 v35 := by rw [ev35]; exact (w32_r _)
        refine g_istore (n := 117) (lv' := [(5, vI v35), (7, vI v32), (9, vI v31), (0, .ref (ad 0)), (1, vI x1), (2, vI x2), (3, vI x3), (4, vI x4), (6, vI x6), (8, vI x8)]) C dX9_walk_115 (Nat.le_of_ble_eq_true rfl) ev35 rfl rfl ?_
        refine g_iconst (n := 118) C dX9_walk_117 rfl ?_
        refine g_istore (n := 120) (lv' := [(6, vI 0), (5, vI v35), (7, vI v32), (9, vI v31), (0, .ref (ad 0)), (1, vI x1), (2, vI x2), (3, vI x3), (4, vI x4), (8, vI x8)]) C dX9_walk_118 (Nat.le_of_ble_eq_true rfl) rfl rfl rfl ?_
        obtain ⟨v36, ev36, h⟩ := nmV_e h
        have hv36 : r32 v36 := by rw [ev36]; exact w32_r _
        refine g_iinc (n := 123) (lv' := [(8, vI v36), (6, vI 0), (5, vI v35), (7, vI v32), (9, vI v31), (0, .ref (ad 0)), (1, vI x1), (2, vI x2), (3, vI x3), (4, vI x4)]) C 9 dX9_walk_120 rfl (Nat.le_of_ble_eq_true rfl) ev36 rfl rfl ?_
        refine g_goto C 74 dX9_walk_123 (by decide) ?_
        refine g_lv [5, 6, 7, 8, 9, 2, 1, 3, 0] rfl ?_
        exact ih x1 x2 x3 x4 v35 0 v32 v36 S hS hx1 hx2 hx3 hx4 hv35 (by decide : r32 0) hv32 hv36 h
      · rw [if_pos hc34] at h
        refine g_goto C 120 dX9_walk_107 (by decide) ?_
        obtain ⟨v37, ev37, h⟩ := nmV_e h
        have hv37 : r32 v37 := by rw [ev37]; exact w32_r _
        refine g_iinc (n := 123) (lv' := [(8, vI v37), (7, vI v32), (9, vI v31), (0, .ref (ad 0)), (1, vI x1), (2, vI x2), (3, vI x3), (4, vI x4), (5, vI x5), (6, vI x6)]) C 9 dX9_walk_120 rfl (Nat.le_of_ble_eq_true rfl) ev37 rfl rfl ?_
        refine g_goto C 74 dX9_walk_123 (by decide) ?_
        refine g_lv [3, 4, 5, 6, 7, 8, 9, 1, 0] rfl ?_
        exact ih x1 x2 x3 x4 x5 x6 v32 v37 S hS hx1 hx2 hx3 hx4 hx5 hx6 hv32 hv37 h
def dn_X9_walk_45 : Nat → Int → Int → Int → St → Option (St × Int)
  | 0, _, _, _, _ => none
  | n + 1, x1, x2, x3, S => (if x3 ≤ x2 then some (S, x3) else (if 0 ≤ x2 ∧ x2 < 15625 then (nmV (S 24 x2.toNat) fun v7 => (nmV (w32 (x2 + 1)) fun v8 => dn_X9_walk_74 (fun x1_ x2_ x3_ S_ => dn_X9_walk_45 n x1_ x2_ x3_ S_) FU x1 v8 x3 v7 0 1 v7 0 S)) else none))
set_option maxRecDepth 100000 in
set_option maxHeartbeats 4000000 in
theorem u_X9_walk_45 {D : va_G} {t : T5} {ad : Nat → Nat} {S0 : St} {r0 : Int} {x : Mx} (C : CX (sM D t ad) mi_X9_walk x) : ∀ (n : Nat) (x1 : Int) (x2 : Int) (x3 : Int) (S : St), RS S → (r32 x1) → (r32 x2) → (r32 x3) → dn_X9_walk_45 n x1 x2 x3 S = some (S0, r0) → GW (sM D t ad) mi_X9_walk (acI, S0, r0) x S 45 [(0, .ref (ad 0)), (1, vI x1), (2, vI x2), (3, vI x3)] [] := by
  intro n
  induction n with
  | zero =>
    intro x1 x2 x3 S hS hx1 hx2 hx3 h
    cases h
  | succ n ih =>
    intro x1 x2 x3 S hS hx1 hx2 hx3 h
    rw [dn_X9_walk_45] at h
    refine g_iload_n (n := 46) C 2 dX9_walk_45 rfl rfl ?_
    refine g_iload_n (n := 47) C 3 dX9_walk_46 rfl rfl ?_
    refine g_icmp_ge (n := 50) C 250 hx2 hx3 dX9_walk_47 (by decide) rfl (fun (hc5 : x3 ≤ x2) => ?_) (fun (hc5 : ¬ (x3 ≤ x2)) => ?_)
    · rw [if_pos hc5] at h
      refine g_iload_n (n := 251) C 3 dX9_walk_250 rfl rfl ?_
      exact g_iret C rfl h rfl hx3 hS dX9_walk_251
    · rw [if_neg hc5] at h
      refine g_aload_n (n := 51) C 0 dX9_walk_50 rfl rfl ?_
      refine g_getC (n := 54) C 0 37 rfl (Nat.le_of_ble_eq_true rfl) rfl rfl rfl (Nat.le_of_ble_eq_true rfl) in_X9_walk_X9 (by decide +kernel) dX9_walk_51 rfl ?_
      refine g_iload_n (n := 55) C 2 dX9_walk_54 rfl rfl ?_
      obtain ⟨hg6, h⟩ := gd_e h
      refine g_iald (n := 56) C 24 rfl (Nat.le_of_ble_eq_true rfl) rfl rfl hg6 hx2 dX9_walk_55 rfl ?_
      obtain ⟨v7, ev7, h⟩ := nmV_e h
      have hv7 : r32 v7 := by rw [ev7]; exact (hS 24 _).2 (tn_lt hg6 (by decide))
      refine g_istore (n := 58) (lv' := [(4, vI v7), (0, .ref (ad 0)), (1, vI x1), (2, vI x2), (3, vI x3)]) C dX9_walk_56 (Nat.le_of_ble_eq_true rfl) ev7 rfl rfl ?_
      obtain ⟨v8, ev8, h⟩ := nmV_e h
      have hv8 : r32 v8 := by rw [ev8]; exact w32_r _
      refine g_iinc (n := 61) (lv' := [(2, vI v8), (4, vI v7), (0, .ref (ad 0)), (1, vI x1), (3, vI x3)]) C 3 dX9_walk_58 rfl (Nat.le_of_ble_eq_true rfl) ev8 rfl rfl ?_
      refine g_iconst (n := 62) C dX9_walk_61 rfl ?_
      refine g_istore (n := 64) (lv' := [(5, vI 0), (2, vI v8), (4, vI v7), (0, .ref (ad 0)), (1, vI x1), (3, vI x3)]) C dX9_walk_62 (Nat.le_of_ble_eq_true rfl) rfl rfl rfl ?_
      refine g_iconst (n := 65) C dX9_walk_64 rfl ?_
      refine g_istore (n := 67) (lv' := [(6, vI 1), (5, vI 0), (2, vI v8), (4, vI v7), (0, .ref (ad 0)), (1, vI x1), (3, vI x3)]) C dX9_walk_65 (Nat.le_of_ble_eq_true rfl) rfl rfl rfl ?_
      refine g_iload (n := 69) C 3 dX9_walk_67 rfl rfl ?_
      refine g_istore (n := 71) (lv' := [(7, vI v7), (6, vI 1), (5, vI 0), (2, vI v8), (4, vI v7), (0, .ref (ad 0)), (1, vI x1), (3, vI x3)]) C dX9_walk_69 (Nat.le_of_ble_eq_true rfl) rfl rfl rfl ?_
      refine g_iconst (n := 72) C dX9_walk_71 rfl ?_
      refine g_istore (n := 74) (lv' := [(8, vI 0), (7, vI v7), (6, vI 1), (5, vI 0), (2, vI v8), (4, vI v7), (0, .ref (ad 0)), (1, vI x1), (3, vI x3)]) C dX9_walk_72 (Nat.le_of_ble_eq_true rfl) rfl rfl rfl ?_
      refine g_lv [6, 7, 4, 8, 5, 3, 2, 1, 0] rfl ?_
      exact u_X9_walk_74 C ih FU x1 v8 x3 v7 0 1 v7 0 S hS hx1 hv8 hx3 hv7 (by decide : r32 0) (by decide : r32 1) hv7 (by decide : r32 0) h
def dn_X9_walk_2 : Nat → Int → Int → St → Option (St × Int)
  | 0, _, _, _ => none
  | n + 1, x1, x2, S => (if 15625 ≤ x2 then (nmS (stU S 23 0 1) fun S2 => (nmS (stU S2 24 0 0) fun S3 => (nmS (stU S3 0 38 0) fun S4 => dn_X9_walk_45 FU x1 0 1 S4))) else (if 0 ≤ x2 ∧ x2 < 15625 then (nmS (stU S 23 x2.toNat 0) fun S39 => (nmV (w32 (x2 + 1)) fun v40 => dn_X9_walk_2 n x1 v40 S39)) else none))
set_option maxRecDepth 100000 in
set_option maxHeartbeats 4000000 in
theorem u_X9_walk_2 {D : va_G} {t : T5} {ad : Nat → Nat} {S0 : St} {r0 : Int} {x : Mx} (C : CX (sM D t ad) mi_X9_walk x) : ∀ (n : Nat) (x1 : Int) (x2 : Int) (S : St), RS S → (r32 x1) → (r32 x2) → dn_X9_walk_2 n x1 x2 S = some (S0, r0) → GW (sM D t ad) mi_X9_walk (acI, S0, r0) x S 2 [(0, .ref (ad 0)), (1, vI x1), (2, vI x2)] [] := by
  intro n
  induction n with
  | zero =>
    intro x1 x2 S hS hx1 hx2 h
    cases h
  | succ n ih =>
    intro x1 x2 S hS hx1 hx2 h
    rw [dn_X9_walk_2] at h
    refine g_iload_n (n := 3) C 2 dX9_walk_2 rfl rfl ?_
    refine g_sipush (n := 6) C dX9_walk_3 (by decide +kernel) rfl ?_
    refine g_icmp_ge (n := 9) C 22 hx2 (by decide : r32 15625) dX9_walk_6 (by decide) rfl (fun (hc1 : 15625 ≤ x2) => ?_) (fun (hc1 : ¬ (15625 ≤ x2)) => ?_)
    · rw [if_pos hc1] at h
      refine g_aload_n (n := 23) C 0 dX9_walk_22 rfl rfl ?_
      refine g_getC (n := 26) C 0 36 rfl (Nat.le_of_ble_eq_true rfl) rfl rfl rfl (Nat.le_of_ble_eq_true rfl) in_X9_walk_X9 (by decide +kernel) dX9_walk_23 rfl ?_
      refine g_iconst (n := 27) C dX9_walk_26 rfl ?_
      refine g_iconst (n := 28) C dX9_walk_27 rfl ?_
      obtain ⟨S2, eS2, h⟩ := nmS_e h
      have hS2 : RS S2 := by rw [eS2]; exact RS_i hS (by decide : r32 1)
      refine g_zast (n := 29) C 23 rfl (Nat.le_of_ble_eq_true rfl) rfl rfl (by decide : 0 ≤ (0 : Int) ∧ (0 : Int) < 15625) (by decide : r32 0) (by decide +kernel) eS2 dX9_walk_28 rfl ?_
      refine g_aload_n (n := 30) C 0 dX9_walk_29 rfl rfl ?_
      refine g_getC (n := 33) C 0 37 rfl (Nat.le_of_ble_eq_true rfl) rfl rfl rfl (Nat.le_of_ble_eq_true rfl) in_X9_walk_X9 (by decide +kernel) dX9_walk_30 rfl ?_
      refine g_iconst (n := 34) C dX9_walk_33 rfl ?_
      refine g_iconst (n := 35) C dX9_walk_34 rfl ?_
      obtain ⟨S3, eS3, h⟩ := nmS_e h
      have hS3 : RS S3 := by rw [eS3]; exact RS_i hS2 (by decide : r32 0)
      refine g_iast (n := 36) C 24 rfl (Nat.le_of_ble_eq_true rfl) rfl rfl (by decide : 0 ≤ (0 : Int) ∧ (0 : Int) < 15625) (by decide : r32 0) eS3 dX9_walk_35 rfl ?_
      refine g_iconst (n := 37) C dX9_walk_36 rfl ?_
      refine g_istore_n (n := 38) (lv' := [(2, vI 0), (0, .ref (ad 0)), (1, vI x1)]) C dX9_walk_37 (Nat.le_of_ble_eq_true rfl) rfl rfl rfl ?_
      refine g_iconst (n := 39) C dX9_walk_38 rfl ?_
      refine g_istore_n (n := 40) (lv' := [(3, vI 1), (2, vI 0), (0, .ref (ad 0)), (1, vI x1)]) C dX9_walk_39 (Nat.le_of_ble_eq_true rfl) rfl rfl rfl ?_
      refine g_aload_n (n := 41) C 2 dX9_walk_40 rfl rfl ?_
      refine g_iconst (n := 42) C dX9_walk_41 rfl ?_
      obtain ⟨S4, eS4, h⟩ := nmS_e h
      have hS4 : RS S4 := by rw [eS4]; exact RS_i hS3 (by decide : r32 0)
      refine g_putI (n := 45) C 0 38 rfl (Nat.le_of_ble_eq_true rfl) rfl rfl rfl (Nat.le_of_ble_eq_true rfl) in_X9_walk_X9 tyX9_ok nmX9 (by decide +kernel) rfl (by decide +kernel) (Nat.le_of_ble_eq_true rfl) eS4 dX9_walk_42 rfl ?_
      refine g_lv [2, 3, 1, 0] rfl ?_
      exact u_X9_walk_45 C FU x1 0 1 S4 hS4 hx1 (by decide : r32 0) (by decide : r32 1) h
    · rw [if_neg hc1] at h
      refine g_aload_n (n := 10) C 0 dX9_walk_9 rfl rfl ?_
      refine g_getC (n := 13) C 0 36 rfl (Nat.le_of_ble_eq_true rfl) rfl rfl rfl (Nat.le_of_ble_eq_true rfl) in_X9_walk_X9 (by decide +kernel) dX9_walk_10 rfl ?_
      refine g_iload_n (n := 14) C 2 dX9_walk_13 rfl rfl ?_
      refine g_iconst (n := 15) C dX9_walk_14 rfl ?_
      obtain ⟨hg38, h⟩ := gd_e h
      obtain ⟨S39, eS39, h⟩ := nmS_e h
      have hS39 : RS S39 := by rw [eS39]; exact RS_i hS (by decide : r32 0)
      refine g_zast (n := 16) C 23 rfl (Nat.le_of_ble_eq_true rfl) rfl rfl hg38 hx2 (by decide +kernel) eS39 dX9_walk_15 rfl ?_
      obtain ⟨v40, ev40, h⟩ := nmV_e h
      have hv40 : r32 v40 := by rw [ev40]; exact w32_r _
      refine g_iinc (n := 19) (lv' := [(2, vI v40), (0, .ref (ad 0)), (1, vI x1)]) C 2 dX9_walk_16 rfl (Nat.le_of_ble_eq_true rfl) ev40 rfl rfl ?_
      refine g_goto C 2 dX9_walk_19 (by decide) ?_
      refine g_lv [1, 2, 0] rfl ?_
      exact ih x1 v40 S39 hS39 hx1 hv40 h
def dn_X9_walk (a0 : Int) (S : St) : Option (St × Int) := dn_X9_walk_2 FU a0 0 S
set_option maxRecDepth 100000 in
set_option maxHeartbeats 4000000 in
theorem c_X9_walk {l : Launch} {D : va_G} {t : T5} {ad : Nat → Nat} {S S0 : St} {r0 : Int} {a0 : Int} (hS : RS S) (ha0 : r32 a0) (h : dn_X9_walk a0 S = some (S0, r0)) : Mc l (sM D t ad) yX9_walk wsX9_walk rm_X9_walk [.ref (ad 0), vI a0] acI S S0 r0 := by
  refine Mc_of (cc := cX9_walk) (nL := 12) (ret := (some .int)) (by decide +kernel) rfl (Nat.le_of_ble_eq_true rfl) (lv := [(0, .ref (ad 0)), (1, vI a0)]) rfl (fun x C _ => ?_)
  unfold dn_X9_walk at h
  show GW (sM D t ad) mi_X9_walk (acI, S0, r0) x S 0 [(0, .ref (ad 0)), (1, vI a0)] []
  refine g_iconst (n := 1) C dX9_walk_0 rfl ?_
  refine g_istore_n (n := 2) (lv' := [(2, vI 0), (0, .ref (ad 0)), (1, vI a0)]) C dX9_walk_1 (Nat.le_of_ble_eq_true rfl) rfl rfl rfl ?_
  refine g_lv [1, 2, 0] rfl ?_
  exact u_X9_walk_2 C FU a0 0 S hS ha0 (by decide : r32 0) h
-- RX9 states
abbrev rm_X9_states : Room := ({ frames := 1, cells := 0, slots := 0, locals := 31 } : Room)
abbrev mi_X9_states : Mi := (cX9_states, 4, RX9, wsX9_states, rm_X9_states, (some .int))
set_option maxRecDepth 20000 in
theorem in_X9_states_X9 : ∀ w ∈ u_ws RX9 TX9 39, w ∈ wsX9_states := by decide +kernel
def dn_X9_states (a0 : Int) (a1 : Int) (S : St) : Option (St × Int) := (nmS (stU S 0 33 0) fun S1 => (cal (dn_X9_in a0 1 24 S1) fun S2 v3 => (if v3 = 0 then some (S2, (-1)) else (cal (dn_X9_in a1 0 1 S2) fun S6 v7 => (if v7 = 0 then some (S6, (-1)) else (cal (dn_X9_walk a0 S6) fun S10 v11 => (if a1 = 0 then some (S10, v11) else some (S10, S10 0 38))))))))
set_option maxRecDepth 100000 in
set_option maxHeartbeats 4000000 in
theorem c_X9_states {l : Launch} {D : va_G} {t : T5} {ad : Nat → Nat} {S S0 : St} {r0 : Int} {a0 a1 : Int} (hS : RS S) (ha0 : r32 a0) (ha1 : r32 a1) (h : dn_X9_states a0 a1 S = some (S0, r0)) : Mc l (sM D t ad) yX9_states wsX9_states rm_X9_states [.ref (ad 0), vI a0, vI a1] acI S S0 r0 := by
  refine Mc_of (cc := cX9_states) (nL := 4) (ret := (some .int)) (by decide +kernel) rfl (Nat.le_of_ble_eq_true rfl) (lv := [(0, .ref (ad 0)), (1, vI a0), (2, vI a1)]) rfl (fun x C _ => ?_)
  unfold dn_X9_states at h
  show GW (sM D t ad) mi_X9_states (acI, S0, r0) x S 0 [(0, .ref (ad 0)), (1, vI a0), (2, vI a1)] []
  refine g_aload_n (n := 1) C 0 dX9_states_0 rfl rfl ?_
  refine g_iconst (n := 2) C dX9_states_1 rfl ?_
  obtain ⟨S1, eS1, h⟩ := nmS_e h
  have hS1 : RS S1 := by rw [eS1]; exact RS_i hS (by decide : r32 0)
  refine g_putI (n := 5) C 0 33 rfl (Nat.le_of_ble_eq_true rfl) rfl rfl rfl (Nat.le_of_ble_eq_true rfl) in_X9_states_X9 tyX9_ok nmX9 (by decide +kernel) rfl (by decide +kernel) (Nat.le_of_ble_eq_true rfl) eS1 dX9_states_2 rfl ?_
  refine g_iload_n (n := 6) C 1 dX9_states_5 rfl rfl ?_
  refine g_iconst (n := 7) C dX9_states_6 rfl ?_
  refine g_bipush (n := 9) C dX9_states_7 (by decide +kernel) rfl ?_
  obtain ⟨S2, v3, hq4, h⟩ := cal_e h
  refine g_callT (n := 12) (As := [vI a0, vI 1, vI 24]) (rest := []) C 3 (c_X9_in hS1 ha0 (by decide : r32 1) (by decide : r32 24) hq4) gX9_states_X9_in rfl ⟨rfl, rfl⟩ (by decide +kernel) ⟨Nat.le_of_ble_eq_true rfl, Nat.le_of_ble_eq_true rfl⟩ rfl rfl (Nat.le_of_ble_eq_true rfl) dX9_states_9 rfl (fun hS2 hv3 => ?_)
  show GW (sM D t ad) mi_X9_states (acI, S0, r0) x S2 12 _ [vI v3]
  refine g_if_eq (n := 15) C 24 (z_r32 hv3) dX9_states_12 (by decide) rfl (fun (hc5 : v3 = 0) => ?_) (fun (hc5 : ¬ (v3 = 0)) => ?_)
  · rw [if_pos hc5] at h
    refine g_iconst (n := 25) C dX9_states_24 rfl ?_
    exact g_iret C rfl h rfl (by decide : r32 (-1)) hS2 dX9_states_25
  · rw [if_neg hc5] at h
    refine g_iload_n (n := 16) C 2 dX9_states_15 rfl rfl ?_
    refine g_iconst (n := 17) C dX9_states_16 rfl ?_
    refine g_iconst (n := 18) C dX9_states_17 rfl ?_
    obtain ⟨S6, v7, hq8, h⟩ := cal_e h
    refine g_callT (n := 21) (As := [vI a1, vI 0, vI 1]) (rest := []) C 3 (c_X9_in hS2 ha1 (by decide : r32 0) (by decide : r32 1) hq8) gX9_states_X9_in rfl ⟨rfl, rfl⟩ (by decide +kernel) ⟨Nat.le_of_ble_eq_true rfl, Nat.le_of_ble_eq_true rfl⟩ rfl rfl (Nat.le_of_ble_eq_true rfl) dX9_states_18 rfl (fun hS6 hv7 => ?_)
    show GW (sM D t ad) mi_X9_states (acI, S0, r0) x S6 21 _ [vI v7]
    refine g_if_ne (n := 24) C 26 (z_r32 hv7) dX9_states_21 (by decide) rfl (fun (hc9 : ¬ (v7 = 0)) => ?_) (fun (hc9 : v7 = 0) => ?_)
    · rw [if_neg hc9] at h
      refine g_aload_n (n := 27) C 0 dX9_states_26 rfl rfl ?_
      refine g_iload_n (n := 28) C 1 dX9_states_27 rfl rfl ?_
      obtain ⟨S10, v11, hq12, h⟩ := cal_e h
      refine g_callV (n := 31) (As := [vI a0]) (rest := []) C 0 1 (Nat.le_of_ble_eq_true rfl) rfl rfl (c_X9_walk hS6 ha0 hq12) gX9_states_X9_walk rfl ⟨rfl, rfl⟩ (by decide +kernel) ⟨Nat.le_of_ble_eq_true rfl, Nat.le_of_ble_eq_true rfl⟩ rfl rfl rfl (Nat.le_of_ble_eq_true rfl) dX9_states_28 rfl (fun hS10 hv11 => ?_)
      show GW (sM D t ad) mi_X9_states (acI, S0, r0) x S10 31 _ [vI v11]
      refine g_istore_n (n := 32) (lv' := [(3, vI v11), (0, .ref (ad 0)), (1, vI a0), (2, vI a1)]) C dX9_states_31 (Nat.le_of_ble_eq_true rfl) rfl rfl rfl ?_
      refine g_iload_n (n := 33) C 3 dX9_states_32 rfl rfl ?_
      refine g_if_ne (n := 36) C 40 ha1 dX9_states_33 (by decide) rfl (fun (hc13 : ¬ (a1 = 0)) => ?_) (fun (hc13 : a1 = 0) => ?_)
      · rw [if_neg hc13] at h
        refine g_aload_n (n := 41) C 1 dX9_states_40 rfl rfl ?_
        refine g_getI (n := 44) C 0 38 rfl (Nat.le_of_ble_eq_true rfl) rfl rfl rfl (Nat.le_of_ble_eq_true rfl) in_X9_states_X9 (by decide +kernel) dX9_states_41 rfl ?_
        exact g_iret C rfl h rfl ((hS10 0 38).2 (by decide)) hS10 dX9_states_44
      · rw [if_pos hc13] at h
        refine g_iload_n (n := 37) C 0 dX9_states_36 rfl rfl ?_
        refine g_goto C 44 dX9_states_37 (by decide) ?_
        exact g_iret C rfl h rfl hv11 hS10 dX9_states_44
    · rw [if_pos hc9] at h
      refine g_iconst (n := 25) C dX9_states_24 rfl ?_
      exact g_iret C rfl h rfl (by decide : r32 (-1)) hS6 dX9_states_25
-- RX9 sure
abbrev rm_X9_sure : Room := ({ frames := 1, cells := 0, slots := 0, locals := 31 } : Room)
abbrev mi_X9_sure : Mi := (cX9_sure, 3, RX9, wsX9_sure, rm_X9_sure, (some .int))
set_option maxRecDepth 20000 in
theorem in_X9_sure_X9 : ∀ w ∈ u_ws RX9 TX9 39, w ∈ wsX9_sure := by decide +kernel
def dn_X9_sure_9 : Nat → Int → Int → St → Option (St × Int)
  | 0, _, _, _ => none
  | n + 1, x1, x2, S => (if 25 ≤ x2 then some (S, x1) else (cal (dn_X9_walk x2 S) fun S3 v4 => (if S3 0 38 ≤ 0 then (nmV (w32 (x2 + 1)) fun v7 => dn_X9_sure_9 n x1 v7 S3) else (nmV (w32 (x2 + 1)) fun v8 => (nmV (w32 (x2 + 1)) fun v9 => dn_X9_sure_9 n v8 v9 S3)))))
set_option maxRecDepth 100000 in
set_option maxHeartbeats 4000000 in
theorem u_X9_sure_9 {D : va_G} {t : T5} {ad : Nat → Nat} {S0 : St} {r0 : Int} {x : Mx} (C : CX (sM D t ad) mi_X9_sure x) : ∀ (n : Nat) (x1 : Int) (x2 : Int) (S : St), RS S → (r32 x1) → (r32 x2) → dn_X9_sure_9 n x1 x2 S = some (S0, r0) → GW (sM D t ad) mi_X9_sure (acI, S0, r0) x S 9 [(0, .ref (ad 0)), (1, vI x1), (2, vI x2)] [] := by
  intro n
  induction n with
  | zero =>
    intro x1 x2 S hS hx1 hx2 h
    cases h
  | succ n ih =>
    intro x1 x2 S hS hx1 hx2 h
    rw [dn_X9_sure_9] at h
    refine g_iload_n (n := 10) C 2 dX9_sure_9 rfl rfl ?_
    refine g_bipush (n := 12) C dX9_sure_10 (by decide +kernel) rfl ?_
    refine g_icmp_ge (n := 15) C 38 hx2 (by decide : r32 25) dX9_sure_12 (by decide) rfl (fun (hc2 : 25 ≤ x2) => ?_) (fun (hc2 : ¬ (25 ≤ x2)) => ?_)
    · rw [if_pos hc2] at h
      refine g_iload_n (n := 39) C 1 dX9_sure_38 rfl rfl ?_
      exact g_iret C rfl h rfl hx1 hS dX9_sure_39
    · rw [if_neg hc2] at h
      refine g_aload_n (n := 16) C 0 dX9_sure_15 rfl rfl ?_
      refine g_iload_n (n := 17) C 2 dX9_sure_16 rfl rfl ?_
      obtain ⟨S3, v4, hq5, h⟩ := cal_e h
      refine g_callV (n := 20) (As := [vI x2]) (rest := []) C 0 1 (Nat.le_of_ble_eq_true rfl) rfl rfl (c_X9_walk hS hx2 hq5) gX9_sure_X9_walk rfl ⟨rfl, rfl⟩ (by decide +kernel) ⟨Nat.le_of_ble_eq_true rfl, Nat.le_of_ble_eq_true rfl⟩ rfl rfl rfl (Nat.le_of_ble_eq_true rfl) dX9_sure_17 rfl (fun hS3 hv4 => ?_)
      show GW (sM D t ad) mi_X9_sure (acI, S0, r0) x S3 20 _ [vI v4]
      refine g_pop (n := 21) C rfl dX9_sure_20 rfl ?_
      refine g_aload_n (n := 22) C 0 dX9_sure_21 rfl rfl ?_
      refine g_getI (n := 25) C 0 38 rfl (Nat.le_of_ble_eq_true rfl) rfl rfl rfl (Nat.le_of_ble_eq_true rfl) in_X9_sure_X9 (by decide +kernel) dX9_sure_22 rfl ?_
      refine g_if_le (n := 28) C 32 ((hS3 0 38).2 (by decide)) dX9_sure_25 (by decide) rfl (fun (hc6 : S3 0 38 ≤ 0) => ?_) (fun (hc6 : ¬ (S3 0 38 ≤ 0)) => ?_)
      · rw [if_pos hc6] at h
        obtain ⟨v7, ev7, h⟩ := nmV_e h
        have hv7 : r32 v7 := by rw [ev7]; exact w32_r _
        refine g_iinc (n := 35) (lv' := [(2, vI v7), (0, .ref (ad 0)), (1, vI x1)]) C 2 dX9_sure_32 rfl (Nat.le_of_ble_eq_true rfl) ev7 rfl rfl ?_
        refine g_goto C 9 dX9_sure_35 (by decide) ?_
        refine g_lv [1, 2, 0] rfl ?_
        exact ih x1 v7 S3 hS3 hx1 hv7 h
      · rw [if_neg hc6] at h
        refine g_iload_n (n := 29) C 2 dX9_sure_28 rfl rfl ?_
        refine g_iconst (n := 30) C dX9_sure_29 rfl ?_
        refine g_iadd (n := 31) C dX9_sure_30 rfl ?_
        obtain ⟨v8, ev8, h⟩ := nmV_e h
        have hv8 : r32 v8 := by rw [ev8]; exact (w32_r _)
        refine g_istore_n (n := 32) (lv' := [(1, vI v8), (0, .ref (ad 0)), (2, vI x2)]) C dX9_sure_31 (Nat.le_of_ble_eq_true rfl) ev8 rfl rfl ?_
        obtain ⟨v9, ev9, h⟩ := nmV_e h
        have hv9 : r32 v9 := by rw [ev9]; exact w32_r _
        refine g_iinc (n := 35) (lv' := [(2, vI v9), (1, vI v8), (0, .ref (ad 0))]) C 2 dX9_sure_32 rfl (Nat.le_of_ble_eq_true rfl) ev9 rfl rfl ?_
        refine g_goto C 9 dX9_sure_35 (by decide) ?_
        refine g_lv [2, 1, 0] rfl ?_
        exact ih v8 v9 S3 hS3 hv8 hv9 h
def dn_X9_sure (S : St) : Option (St × Int) := (nmS (stU S 0 33 0) fun S1 => dn_X9_sure_9 FU 1 1 S1)
set_option maxRecDepth 100000 in
set_option maxHeartbeats 4000000 in
theorem c_X9_sure {l : Launch} {D : va_G} {t : T5} {ad : Nat → Nat} {S S0 : St} {r0 : Int} (hS : RS S) (h : dn_X9_sure S = some (S0, r0)) : Mc l (sM D t ad) yX9_sure wsX9_sure rm_X9_sure [.ref (ad 0)] acI S S0 r0 := by
  refine Mc_of (cc := cX9_sure) (nL := 3) (ret := (some .int)) (by decide +kernel) rfl (Nat.le_of_ble_eq_true rfl) (lv := [(0, .ref (ad 0))]) rfl (fun x C _ => ?_)
  unfold dn_X9_sure at h
  show GW (sM D t ad) mi_X9_sure (acI, S0, r0) x S 0 [(0, .ref (ad 0))] []
  refine g_aload_n (n := 1) C 0 dX9_sure_0 rfl rfl ?_
  refine g_iconst (n := 2) C dX9_sure_1 rfl ?_
  obtain ⟨S1, eS1, h⟩ := nmS_e h
  have hS1 : RS S1 := by rw [eS1]; exact RS_i hS (by decide : r32 0)
  refine g_putI (n := 5) C 0 33 rfl (Nat.le_of_ble_eq_true rfl) rfl rfl rfl (Nat.le_of_ble_eq_true rfl) in_X9_sure_X9 tyX9_ok nmX9 (by decide +kernel) rfl (by decide +kernel) (Nat.le_of_ble_eq_true rfl) eS1 dX9_sure_2 rfl ?_
  refine g_iconst (n := 6) C dX9_sure_5 rfl ?_
  refine g_istore_n (n := 7) (lv' := [(1, vI 1), (0, .ref (ad 0))]) C dX9_sure_6 (Nat.le_of_ble_eq_true rfl) rfl rfl rfl ?_
  refine g_iconst (n := 8) C dX9_sure_7 rfl ?_
  refine g_istore_n (n := 9) (lv' := [(2, vI 1), (1, vI 1), (0, .ref (ad 0))]) C dX9_sure_8 (Nat.le_of_ble_eq_true rfl) rfl rfl rfl ?_
  refine g_lv [2, 1, 0] rfl ?_
  exact u_X9_sure_9 C FU 1 1 S1 hS1 (by decide : r32 1) (by decide : r32 1) h
