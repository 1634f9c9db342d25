/-! copyFrom -/
def z_cw (S T : Nat → Int32) (lo hi : Nat) : Nat → Int32 := fun k => if lo ≤ k ∧ k < hi then T k else S k
section Cpy
variable {S T : Nat → Int32}
theorem z_cw_0 {lo : Nat} : z_cw S T lo lo = S := by
  funext k
  unfold z_cw
  rw [if_neg (by omega)]
theorem z_cw_j {lo mi hi : Nat} (h1 : lo ≤ mi) (h2 : mi ≤ hi) : z_cw (z_cw S T lo mi) T mi hi = z_cw S T lo hi := by
  funext k
  unfold z_cw
  by_cases a : mi ≤ k ∧ k < hi
  · rw [if_pos a, if_pos (by omega)]
  · rw [if_neg a]
    by_cases c : lo ≤ k ∧ k < mi
    · rw [if_pos c, if_pos (by omega)]
    · rw [if_neg c, if_neg (by omega)]
theorem z_cw_1 {k : Nat} : upd S k (T k) = z_cw S T k (k + 1) := by
  funext j
  unfold upd z_cw
  by_cases c : j = k
  · rw [if_pos c, if_pos (by omega), c]
  · rw [if_neg c, if_neg (by omega)]
theorem z_cw_u {lo k : Nat} (h : lo ≤ k) : upd (z_cw S T lo k) k (T k) = z_cw S T lo (k + 1) := by
  rw [z_cw_1, z_cw_j h (by omega)]
def z_b01 (T : Nat → Int32) : Prop := (∀ i : Nat, i < 8 → z01 (T (7 + 4 * i + 1)) = true) ∧ (∀ i : Nat, i < 12 → z01 (T (39 + 4 * i + 3)) = true) ∧ (∀ i : Nat, i < 4 → z01 (T (87 + 14 * i + 9)) = true)
theorem z_Ccp2 (hT : z_b01 T) (K : (Nat → Int32) → Option (Nat → Int32)) : l_X4_copyFrom_2 T K FU S (zI 0) = K (z_cw S T 7 39) := by
  refine z_run (l := l_X4_copyFrom_2 T K) (n := 8) (P := fun i a => a = z_cw S T 7 (7 + 4 * i)) (Q := fun o => o = K (z_cw S T 7 39)) (fun N i a hi hp => ⟨_, rfl, ?_⟩) (fun N a hp => ?_) 8 0 FU S (by omega) (by unfold FU; omega) z_cw_0.symm
  · have hb := hT.1 i hi
    rw [l_X4_copyFrom_2, hp]
    unfold f_X5_copyFrom
    simp (disch := omega) only [z_lit, z_n, z_add, z_sub, z_mul, z_neg, z_lt1, z_lt0, z_le1, z_le0, z_eq1, z_eq0, z_10, ↓reduceIte, z_v, z_upd, z_ue, z_un, z_ixn, z_ixo, z_ix0, z_ix1, z_ix2, z_ix3, z_ix4, z_ix5, z_ix6, Int.reduceToNat, z_inr, z_gd, ↓z_bnd, ↓z_jn, z_bdc, z_bd2, z_opn, z_ops, z_z01, z_Bt, z_Bf, hb, z_cw_u]
    rfl
  · rw [l_X4_copyFrom_2, hp]
    simp (disch := omega) only [z_lit, z_n, z_add, z_sub, z_mul, z_neg, z_lt1, z_lt0, z_le1, z_le0, z_eq1, z_eq0, z_10, ↓reduceIte, z_v, z_upd, z_ue, z_un, z_ixn, z_ixo, z_ix0, z_ix1, z_ix2, z_ix3, z_ix4, z_ix5, z_ix6, Int.reduceToNat, z_inr, z_gd, ↓z_bnd, ↓z_jn, z_bdc, z_bd2, z_opn, z_ops, z_z01, z_Bt, z_Bf]
theorem z_Ccp31 (hT : z_b01 T) (K : (Nat → Int32) → Option (Nat → Int32)) : l_X4_copyFrom_31 T K FU S (zI 0) = K (z_cw S T 39 87) := by
  refine z_run (l := l_X4_copyFrom_31 T K) (n := 12) (P := fun i a => a = z_cw S T 39 (39 + 4 * i)) (Q := fun o => o = K (z_cw S T 39 87)) (fun N i a hi hp => ⟨_, rfl, ?_⟩) (fun N a hp => ?_) 12 0 FU S (by omega) (by unfold FU; omega) z_cw_0.symm
  · have hb := hT.2.1 i hi
    rw [l_X4_copyFrom_31, hp]
    unfold f_X7_copyFrom
    simp (disch := omega) only [z_lit, z_n, z_add, z_sub, z_mul, z_neg, z_lt1, z_lt0, z_le1, z_le0, z_eq1, z_eq0, z_10, ↓reduceIte, z_v, z_upd, z_ue, z_un, z_ixn, z_ixo, z_ix0, z_ix1, z_ix2, z_ix3, z_ix4, z_ix5, z_ix6, Int.reduceToNat, z_inr, z_gd, ↓z_bnd, ↓z_jn, z_bdc, z_bd2, z_opn, z_ops, z_z01, z_Bt, z_Bf, hb, z_cw_u]
    rfl
  · rw [l_X4_copyFrom_31, hp]
    simp (disch := omega) only [z_lit, z_n, z_add, z_sub, z_mul, z_neg, z_lt1, z_lt0, z_le1, z_le0, z_eq1, z_eq0, z_10, ↓reduceIte, z_v, z_upd, z_ue, z_un, z_ixn, z_ixo, z_ix0, z_ix1, z_ix2, z_ix3, z_ix4, z_ix5, z_ix6, Int.reduceToNat, z_inr, z_gd, ↓z_bnd, ↓z_jn, z_bdc, z_bd2, z_opn, z_ops, z_z01, z_Bt, z_Bf]
theorem z_Ccp10 (i : Nat) (K : (Nat → Int32) → Option (Nat → Int32)) : l_X8_copyFrom_10 T i i K FU S (zI 0) = K (z_cw S T (87 + 14 * i + 2) (87 + 14 * i + 8)) := by
  refine z_run (l := l_X8_copyFrom_10 T i i K) (n := 6) (P := fun j a => a = z_cw S T (87 + 14 * i + 2) (87 + 14 * i + 2 + j)) (Q := fun o => o = K (z_cw S T (87 + 14 * i + 2) (87 + 14 * i + 8))) (fun N j a hj hp => ⟨_, rfl, ?_⟩) (fun N a hp => ?_) 6 0 FU S (by omega) (by unfold FU; omega) z_cw_0.symm
  · rw [l_X8_copyFrom_10, hp]
    simp (disch := omega) only [z_lit, z_n, z_add, z_sub, z_mul, z_neg, z_lt1, z_lt0, z_le1, z_le0, z_eq1, z_eq0, z_10, ↓reduceIte, z_v, z_upd, z_ue, z_un, z_ixn, z_ixo, z_ix0, z_ix1, z_ix2, z_ix3, z_ix4, z_ix5, z_ix6, Int.reduceToNat, z_inr, z_gd, ↓z_bnd, ↓z_jn, z_bdc, z_bd2, z_opn, z_ops, z_z01, z_Bt, z_Bf, z_cw_u]
    rfl
  · rw [l_X8_copyFrom_10, hp]
    simp (disch := omega) only [z_lit, z_n, z_add, z_sub, z_mul, z_neg, z_lt1, z_lt0, z_le1, z_le0, z_eq1, z_eq0, z_10, ↓reduceIte, z_v, z_upd, z_ue, z_un, z_ixn, z_ixo, z_ix0, z_ix1, z_ix2, z_ix3, z_ix4, z_ix5, z_ix6, Int.reduceToNat, z_inr, z_gd, ↓z_bnd, ↓z_jn, z_bdc, z_bd2, z_opn, z_ops, z_z01, z_Bt, z_Bf]
theorem z_Ccp8 (hT : z_b01 T) {i : Nat} (hi : i < 4) : f_X8_copyFrom S T i i = some (z_cw S T (87 + 14 * i) (87 + 14 * i + 14)) := by
  have hb := hT.2.2 i hi
  have e1 : upd S (87 + 14 * i) (T (87 + 14 * i)) = z_cw S T (87 + 14 * i) (87 + 14 * i + 1) := z_cw_1
  unfold f_X8_copyFrom
  simp (disch := omega) only [z_lit, z_n, z_add, z_sub, z_mul, z_neg, z_lt1, z_lt0, z_le1, z_le0, z_eq1, z_eq0, z_10, ↓reduceIte, z_v, z_upd, z_ue, z_un, z_ixn, z_ixo, z_ix0, z_ix1, z_ix2, z_ix3, z_ix4, z_ix5, z_ix6, Int.reduceToNat, z_inr, z_gd, ↓z_bnd, ↓z_jn, z_bdc, z_bd2, z_opn, z_ops, z_z01, z_Bt, z_Bf, e1]
  rw [z_Ccp10]
  have e2 : upd (z_cw (z_cw S T (87 + 14 * i) (87 + 14 * i + 1)) T (87 + 14 * i + 2) (87 + 14 * i + 8)) (87 + 14 * i + 1) (T (87 + 14 * i + 1)) = z_cw S T (87 + 14 * i) (87 + 14 * i + 8) := by
    funext j
    unfold upd z_cw
    by_cases c : j = 87 + 14 * i + 1
    · rw [if_pos c, if_pos (by omega), c]
    · rw [if_neg c]
      by_cases c2 : 87 + 14 * i + 2 ≤ j ∧ j < 87 + 14 * i + 8
      · rw [if_pos c2, if_pos (by omega)]
      · rw [if_neg c2]
        by_cases c3 : 87 + 14 * i ≤ j ∧ j < 87 + 14 * i + 1
        · rw [if_pos c3, if_pos (by omega)]
        · rw [if_neg c3, if_neg (by omega)]
  simp (disch := omega) only [z_lit, z_n, z_add, z_sub, z_mul, z_neg, z_lt1, z_lt0, z_le1, z_le0, z_eq1, z_eq0, z_10, ↓reduceIte, z_v, z_upd, z_ue, z_un, z_ixn, z_ixo, z_ix0, z_ix1, z_ix2, z_ix3, z_ix4, z_ix5, z_ix6, Int.reduceToNat, z_inr, z_gd, ↓z_bnd, ↓z_jn, z_bdc, z_bd2, z_opn, z_ops, z_z01, z_Bt, z_Bf, e2, hb, z_cw_u]
theorem z_Ccp60 (hT : z_b01 T) (K : (Nat → Int32) → Option (Nat → Int32)) : l_X4_copyFrom_60 T K FU S (zI 0) = K (z_cw S T 87 143) := by
  refine z_run (l := l_X4_copyFrom_60 T K) (n := 4) (P := fun i a => a = z_cw S T 87 (87 + 14 * i)) (Q := fun o => o = K (z_cw S T 87 143)) (fun N i a hi hp => ⟨_, rfl, ?_⟩) (fun N a hp => ?_) 4 0 FU S (by omega) (by unfold FU; omega) z_cw_0.symm
  · rw [l_X4_copyFrom_60, hp]
    simp (disch := omega) only [z_lit, z_n, z_add, z_sub, z_mul, z_neg, z_lt1, z_lt0, z_le1, z_le0, z_eq1, z_eq0, z_10, ↓reduceIte, z_v, z_upd, z_ue, z_un, z_ixn, z_ixo, z_ix0, z_ix1, z_ix2, z_ix3, z_ix4, z_ix5, z_ix6, Int.reduceToNat, z_inr, z_gd, ↓z_bnd, ↓z_jn, z_bdc, z_bd2, z_opn, z_ops, z_z01, z_Bt, z_Bf, z_Ccp8 hT hi]
    rw [z_cw_j (by omega) (by omega)]
    rfl
  · rw [l_X4_copyFrom_60, hp]
    simp (disch := omega) only [z_lit, z_n, z_add, z_sub, z_mul, z_neg, z_lt1, z_lt0, z_le1, z_le0, z_eq1, z_eq0, z_10, ↓reduceIte, z_v, z_upd, z_ue, z_un, z_ixn, z_ixo, z_ix0, z_ix1, z_ix2, z_ix3, z_ix4, z_ix5, z_ix6, Int.reduceToNat, z_inr, z_gd, ↓z_bnd, ↓z_jn, z_bdc, z_bd2, z_opn, z_ops, z_z01, z_Bt, z_Bf]
theorem z_Ccp88 (K : (Nat → Int32) → Option (Nat → Int32)) : l_X4_copyFrom_88 T K FU S (zI 0) = K (z_cw S T 143 251) := by
  refine z_run (l := l_X4_copyFrom_88 T K) (n := 12) (P := fun i a => a = z_cw S T 143 (143 + 9 * i)) (Q := fun o => o = K (z_cw S T 143 251)) (fun N i a hi hp => ⟨_, rfl, ?_⟩) (fun N a hp => ?_) 12 0 FU S (by omega) (by unfold FU; omega) z_cw_0.symm
  · rw [l_X4_copyFrom_88, hp]
    unfold f_X2_copyFrom
    have e : upd (upd (upd (upd (z_cw S T 143 (143 + 9 * i + 5)) (143 + 9 * i + 8) (T (143 + 9 * i + 8))) (143 + 9 * i + 5) (T (143 + 9 * i + 5))) (143 + 9 * i + 6) (T (143 + 9 * i + 6))) (143 + 9 * i + 7) (T (143 + 9 * i + 7)) = z_cw S T 143 (143 + 9 * (i + 1)) := by
      funext j
      unfold upd z_cw
      by_cases c7 : j = 143 + 9 * i + 7
      · rw [if_pos c7, if_pos (by omega), c7]
      · rw [if_neg c7]
        by_cases c6 : j = 143 + 9 * i + 6
        · rw [if_pos c6, if_pos (by omega), c6]
        · rw [if_neg c6]
          by_cases c5 : j = 143 + 9 * i + 5
          · rw [if_pos c5, if_pos (by omega), c5]
          · rw [if_neg c5]
            by_cases c8 : j = 143 + 9 * i + 8
            · rw [if_pos c8, if_pos (by omega), c8]
            · rw [if_neg c8]
              by_cases c : 143 ≤ j ∧ j < 143 + 9 * i + 5
              · rw [if_pos c, if_pos (by omega)]
              · rw [if_neg c, if_neg (by omega)]
    simp (disch := omega) only [z_lit, z_n, z_add, z_sub, z_mul, z_neg, z_lt1, z_lt0, z_le1, z_le0, z_eq1, z_eq0, z_10, ↓reduceIte, z_v, z_upd, z_ue, z_un, z_ixn, z_ixo, z_ix0, z_ix1, z_ix2, z_ix3, z_ix4, z_ix5, z_ix6, Int.reduceToNat, z_inr, z_gd, ↓z_bnd, ↓z_jn, z_bdc, z_bd2, z_opn, z_ops, z_z01, z_Bt, z_Bf, z_cw_u, e]
  · rw [l_X4_copyFrom_88, hp]
    simp (disch := omega) only [z_lit, z_n, z_add, z_sub, z_mul, z_neg, z_lt1, z_lt0, z_le1, z_le0, z_eq1, z_eq0, z_10, ↓reduceIte, z_v, z_upd, z_ue, z_un, z_ixn, z_ixo, z_ix0, z_ix1, z_ix2, z_ix3, z_ix4, z_ix5, z_ix6, Int.reduceToNat, z_inr, z_gd, ↓z_bnd, ↓z_jn, z_bdc, z_bd2, z_opn, z_ops, z_z01, z_Bt, z_Bf]
theorem z_Ccp117 (K : (Nat → Int32) → Option (Nat → Int32)) : l_X4_copyFrom_117 T K FU S (zI 0) = K (z_cw S T 251 315) := by
  refine z_run (l := l_X4_copyFrom_117 T K) (n := 64) (P := fun i a => a = z_cw S T 251 (251 + i)) (Q := fun o => o = K (z_cw S T 251 315)) (fun N i a hi hp => ⟨_, rfl, ?_⟩) (fun N a hp => ?_) 64 0 FU S (by omega) (by unfold FU; omega) z_cw_0.symm
  · rw [l_X4_copyFrom_117, hp]
    simp (disch := omega) only [z_lit, z_n, z_add, z_sub, z_mul, z_neg, z_lt1, z_lt0, z_le1, z_le0, z_eq1, z_eq0, z_10, ↓reduceIte, z_v, z_upd, z_ue, z_un, z_ixn, z_ixo, z_ix0, z_ix1, z_ix2, z_ix3, z_ix4, z_ix5, z_ix6, Int.reduceToNat, z_inr, z_gd, ↓z_bnd, ↓z_jn, z_bdc, z_bd2, z_opn, z_ops, z_z01, z_Bt, z_Bf, z_cw_u]
    rfl
  · rw [l_X4_copyFrom_117, hp]
    simp (disch := omega) only [z_lit, z_n, z_add, z_sub, z_mul, z_neg, z_lt1, z_lt0, z_le1, z_le0, z_eq1, z_eq0, z_10, ↓reduceIte, z_v, z_upd, z_ue, z_un, z_ixn, z_ixo, z_ix0, z_ix1, z_ix2, z_ix3, z_ix4, z_ix5, z_ix6, Int.reduceToNat, z_inr, z_gd, ↓z_bnd, ↓z_jn, z_bdc, z_bd2, z_opn, z_ops, z_z01, z_Bt, z_Bf]
theorem z_Ccp (hT : z_b01 T) : f_X4_copyFrom S T = some (z_cw S T 0 315) := by
  unfold f_X4_copyFrom
  rw [show (0 : Int32) = zI 0 from z_lit 0, z_Ccp2 hT]
  rw [z_Ccp31 hT]
  rw [z_Ccp60 hT]
  rw [z_Ccp88]
  rw [z_Ccp117]
  simp only [z_bnd]
  rw [z_cw_j (by omega) (by omega), z_cw_j (by omega) (by omega), z_cw_j (by omega) (by omega), z_cw_j (by omega) (by omega)]
  congr 1
  funext j
  unfold upd z_cw
  by_cases c6 : j = 6
  · subst c6; rfl
  by_cases c5 : j = 5
  · subst c5; rfl
  by_cases c0 : j = 0
  · subst c0; rfl
  by_cases c4 : j = 4
  · subst c4; rfl
  by_cases c3 : j = 3
  · subst c3; rfl
  by_cases c2 : j = 2
  · subst c2; rfl
  by_cases c1 : j = 1
  · subst c1; rfl
  rw [if_neg c6, if_neg c5, if_neg c0, if_neg c4, if_neg c3, if_neg c2, if_neg c1]
  by_cases c : 7 ≤ j ∧ j < 315
  · rw [if_pos c, if_pos (by omega)]
  · rw [if_neg c, if_neg (by omega)]
end Cpy
