/-! one train's act, one minute -/
section Min
variable {b : Int} {s s' g g' : Nat → Int}
theorem z_clk (h : z_inv b s) : z_inv (b + 1) (zu s 0 (s 0 + 1)) := by
  obtain ⟨⟨c0, c1, c2, c3, c4⟩, ⟨b1, b2, b3⟩, a1, a2, a3, a4, a5⟩ := h
  have u : ∀ k, 1 ≤ k → zu s 0 (s 0 + 1) k = s k := fun k hk => z_un (by omega)
  have u0 : zu s 0 (s 0 + 1) 0 = s 0 + 1 := z_ue rfl
  refine ⟨?_, ⟨fun i hi => by rw [u _ (by omega)]; exact b1 i hi, fun i hi => by rw [u _ (by omega)]; exact b2 i hi, fun i hi => by rw [u _ (by omega)]; exact b3 i hi⟩, fun i hi => ?_, fun k hk => ?_, fun t ht => ?_, fun i hi => ?_, ?_⟩
  · unfold z_cnt4
    rw [u0, u 1 (by omega), u 2 (by omega), u 3 (by omega), u 4 (by omega)]
    exact ⟨by omega, c1, c2, c3, c4⟩
  · rw [u 1 (by omega)] at hi
    have := a1 i hi
    unfold z_stn at this ⊢
    rw [u0, u _ (by omega), u _ (by omega)]
    omega
  · rw [u 2 (by omega)] at hk
    have := a2 k hk
    unfold z_trk at this ⊢
    rw [u _ (by omega), u _ (by omega), u _ (by omega), u _ (by omega)]
    exact this
  · rw [u 3 (by omega)] at ht
    exact z_trn_c (u 1 (by omega)) (u 2 (by omega)) (by omega) (fun k h1 h2 => u k (by omega)) (fun k hk => u _ (by omega)) (a3 t ht)
  · rw [u 4 (by omega)] at hi
    have := a4 i hi
    unfold z_pcl at this ⊢
    rw [u0, u (143 + 9 * i) (by omega), u (143 + 9 * i + 1) (by omega), u (143 + 9 * i + 2) (by omega), u (143 + 9 * i + 3) (by omega), u (143 + 9 * i + 4) (by omega), u (143 + 9 * i + 5) (by omega), u (143 + 9 * i + 7) (by omega), u (143 + 9 * i + 8) (by omega), u 1 (by omega), u 3 (by omega)]
    omega
  · exact z_dis_c (u 2 (by omega)) (by omega) (fun k h1 h2 => u k (by omega)) (fun k hk => u k (by omega)) a5
theorem z_clk_rel (h : z_inv b s) (r : z_rel s g) : z_rel (zu s 0 (s 0 + 1)) (zu g 0 (s 0 + 1)) := by
  obtain ⟨r0, r1, r2, r3, r4⟩ := r
  have u : ∀ k, 1 ≤ k → zu s 0 (s 0 + 1) k = s k := fun k hk => z_un (by omega)
  have v : ∀ k, 1 ≤ k → zu g 0 (s 0 + 1) k = g k := fun k hk => z_un (by omega)
  refine ⟨fun k hk => ?_, fun i hi => ?_, fun k hk j hj => ?_, fun t ht => ?_, fun i hi j hj => ?_⟩
  · by_cases c : k = 0
    · rw [c, z_ue rfl, z_ue rfl]
    · rw [u k (by omega), v k (by omega)]
      exact r0 k hk
  · rw [u 1 (by omega)] at hi
    rw [u _ (by omega), u _ (by omega), u _ (by omega), v _ (by omega), v _ (by omega), v _ (by omega)]
    exact r1 i hi
  · rw [u 2 (by omega)] at hk
    rw [u _ (by omega), v _ (by omega)]
    exact r2 k hk j hj
  · rw [u 3 (by omega)] at ht
    exact z_rtn_c h ht (u 2 (by omega)) (fun k h1 h2 => u k (by omega)) (fun k hk => u _ (by omega)) (fun k hk => v _ (by omega)) (r3 t ht)
  · rw [u 4 (by omega)] at hi
    rw [u _ (by omega), v _ (by omega)]
    exact r4 i hi j hj
/-- what a minute leaves alone in the reference's vector -/
def z_zm (s g g' : Nat → Int) : Prop := ∀ k, 7 ≤ k → k < 143 → (k < 39 → ∀ i, k ≠ 7 + 4 * i + 3) → (∀ t : Nat, (t : Int) < s 3 → ¬ (87 + 14 * t + 8 ≤ k ∧ k < 87 + 14 * t + 14)) → g' k = g k
end Min
/-! copyFrom -/
def z_cw (S T : Nat → Int32) (lo hi : Nat) : Nat → Int32 := fun k => if lo ≤ k ∧ k < hi then T k else S k
section Cpy
variable {S T : Nat → Int32}
theorem z_cw_0 {lo : Nat} : z_cw S T lo lo = S := by
  funext k
  unfold z_cw
  rw [if_neg (by omega)]
theorem z_cw_j {lo mi hi : Nat} (h1 : lo ≤ mi) (h2 : mi ≤ hi) : z_cw (z_cw S T lo mi) T mi hi = z_cw S T lo hi := by
  funext k
  unfold z_cw
  by_cases a : mi ≤ k ∧ k < hi
  · rw [if_pos a, if_pos (by omega)]
  · rw [if_neg a]
    by_cases c : lo ≤ k ∧ k < mi
    · rw [if_pos c, if_pos (by omega)]
    · rw [if_neg c, if_neg (by omega)]
theorem z_cw_1 {k : Nat} : upd S k (T k) = z_cw S T k (k + 1) := by
  funext j
  unfold upd z_cw
  by_cases c : j = k
  · rw [if_pos c, if_pos (by omega), c]
  · rw [if_neg c, if_neg (by omega)]
theorem z_cw_u {lo k : Nat} (h : lo ≤ k) : upd (z_cw S T lo k) k (T k) = z_cw S T lo (k + 1) := by
  rw [z_cw_1, z_cw_j h (by omega)]
def z_b01 (T : Nat → Int32) : Prop := (∀ i : Nat, i < 8 → z01 (T (7 + 4 * i + 1)) = true) ∧ (∀ i : Nat, i < 12 → z01 (T (39 + 4 * i + 3)) = true) ∧ (∀ i : Nat, i < 4 → z01 (T (87 + 14 * i + 9)) = true)
theorem z_Ccp2 (hT : z_b01 T) (K : (Nat → Int32) → Option (Nat → Int32)) : l_X4_copyFrom_2 T K FU S (zI 0) = K (z_cw S T 7 39) := by
  refine z_run (l := l_X4_copyFrom_2 T K) (n := 8) (P := fun i a => a = z_cw S T 7 (7 + 4 * i)) (Q := fun o => o = K (z_cw S T 7 39)) (fun N i a hi hp => ⟨_, rfl, ?_⟩) (fun N a hp => ?_) 8 0 FU S (by omega) (by unfold FU; omega) z_cw_0.symm
  · have hb := hT.1 i hi
    rw [l_X4_copyFrom_2, hp]
    unfold f_X5_copyFrom
    simp (disch := omega) only [z_lit, z_n, z_add, z_sub, z_mul, z_neg, z_lt1, z_lt0, z_le1, z_le0, z_eq1, z_eq0, z_10, ↓reduceIte, z_v, z_upd, z_ue, z_un, z_ixn, z_ixo, z_ix0, z_ix1, z_ix2, z_ix3, z_ix4, z_ix5, z_ix6, Int.reduceToNat, z_inr, z_gd, ↓z_bnd, ↓z_jn, z_bdc, z_bd2, z_opn, z_ops, z_z01, z_Bt, z_Bf, hb, z_cw_u]
    rfl
  · rw [l_X4_copyFrom_2, hp]
    simp (disch := omega) only [z_lit, z_n, z_add, z_sub, z_mul, z_neg, z_lt1, z_lt0, z_le1, z_le0, z_eq1, z_eq0, z_10, ↓reduceIte, z_v, z_upd, z_ue, z_un, z_ixn, z_ixo, z_ix0, z_ix1, z_ix2, z_ix3, z_ix4, z_ix5, z_ix6, Int.reduceToNat, z_inr, z_gd, ↓z_bnd, ↓z_jn, z_bdc, z_bd2, z_opn, z_ops, z_z01, z_Bt, z_Bf]
theorem z_Ccp31 (hT : z_b01 T) (K : (Nat → Int32) → Option (Nat → Int32)) : l_X4_copyFrom_31 T K FU S (zI 0) = K (z_cw S T 39 87) := by
  refine z_run (l := l_X4_copyFrom_31 T K) (n := 12) (P := fun i a => a = z_cw S T 39 (39 + 4 * i)) (Q := fun o => o = K (z_cw S T 39 87)) (fun N i a hi hp => ⟨_, rfl, ?_⟩) (fun N a hp => ?_) 12 0 FU S (by omega) (by unfold FU; omega) z_cw_0.symm
  · have hb := hT.2.1 i hi
    rw [l_X4_copyFrom_31, hp]
    unfold f_X7_copyFrom
    simp (disch := omega) only [z_lit, z_n, z_add, z_sub, z_mul, z_neg, z_lt1, z_lt0, z_le1, z_le0, z_eq1, z_eq0, z_10, ↓reduceIte, z_v, z_upd, z_ue, z_un, z_ixn, z_ixo, z_ix0, z_ix1, z_ix2, z_ix3, z_ix4, z_ix5, z_ix6, Int.reduceToNat, z_inr, z_gd, ↓z_bnd, ↓z_jn, z_bdc, z_bd2, z_opn, z_ops, z_z01, z_Bt, z_Bf, hb, z_cw_u]
    rfl
  · rw [l_X4_copyFrom_31, hp]
    simp (disch := omega) only [z_lit, z_n, z_add, z_sub, z_mul, z_neg, z_lt1, z_lt0, z_le1, z_le0, z_eq1, z_eq0, z_10, ↓reduceIte, z_v, z_upd, z_ue, z_un, z_ixn, z_ixo, z_ix0, z_ix1, z_ix2, z_ix3, z_ix4, z_ix5, z_ix6, Int.reduceToNat, z_inr, z_gd, ↓z_bnd, ↓z_jn, z_bdc, z_bd2, z_opn, z_ops, z_z01, z_Bt, z_Bf]
theorem z_Ccp10 (i : Nat) (K : (Nat → Int32) → Option (Nat → Int32)) : l_X8_copyFrom_10 T i i K FU S (zI 0) = K (z_cw S T (87 + 14 * i + 2) (87 + 14 * i + 8)) := by
  refine z_run (l := l_X8_copyFrom_10 T i i K) (n := 6) (P := fun j a => a = z_cw S T (87 + 14 * i + 2) (87 + 14 * i + 2 + j)) (Q := fun o => o = K (z_cw S T (87 + 14 * i + 2) (87 + 14 * i + 8))) (fun N j a hj hp => ⟨_, rfl, ?_⟩) (fun N a hp => ?_) 6 0 FU S (by omega) (by unfold FU; omega) z_cw_0.symm
  · rw [l_X8_copyFrom_10, hp]
    simp (disch := omega) only [z_lit, z_n, z_add, z_sub, z_mul, z_neg, z_lt1, z_lt0, z_le1, z_le0, z_eq1, z_eq0, z_10, ↓reduceIte, z_v, z_upd, z_ue, z_un, z_ixn, z_ixo, z_ix0, z_ix1, z_ix2, z_ix3, z_ix4, z_ix5, z_ix6, Int.reduceToNat, z_inr, z_gd, ↓z_bnd, ↓z_jn, z_bdc, z_bd2, z_opn, z_ops, z_z01, z_Bt, z_Bf, z_cw_u]
    rfl
  · rw [l_X8_copyFrom_10, hp]
    simp (disch := omega) only [z_lit, z_n, z_add, z_sub, z_mul, z_neg, z_lt1, z_lt0, z_le1, z_le0, z_eq1, z_eq0, z_10, ↓reduceIte, z_v, z_upd, z_ue, z_un, z_ixn, z_ixo, z_ix0, z_ix1, z_ix2, z_ix3, z_ix4, z_ix5, z_ix6, Int.reduceToNat, z_inr, z_gd, ↓z_bnd, ↓z_jn, z_bdc, z_bd2, z_opn, z_ops, z_z01, z_Bt, z_Bf]
theorem z_Ccp8 (hT : z_b01 T) {i : Nat} (hi : i < 4) : f_X8_copyFrom S T i i = some (z_cw S T (87 + 14 * i) (87 + 14 * i + 14)) := by
  have hb := hT.2.2 i hi
  have e1 : upd S (87 + 14 * i) (T (87 + 14 * i)) = z_cw S T (87 + 14 * i) (87 + 14 * i + 1) := z_cw_1
  unfold f_X8_copyFrom
  simp (disch := omega) only [z_lit, z_n, z_add, z_sub, z_mul, z_neg, z_lt1, z_lt0, z_le1, z_le0, z_eq1, z_eq0, z_10, ↓reduceIte, z_v, z_upd, z_ue, z_un, z_ixn, z_ixo, z_ix0, z_ix1, z_ix2, z_ix3, z_ix4, z_ix5, z_ix6, Int.reduceToNat, z_inr, z_gd, ↓z_bnd, ↓z_jn, z_bdc, z_bd2, z_opn, z_ops, z_z01, z_Bt, z_Bf, e1]
  rw [z_Ccp10]
  have e2 : upd (z_cw (z_cw S T (87 + 14 * i) (87 + 14 * i + 1)) T (87 + 14 * i + 2) (87 + 14 * i + 8)) (87 + 14 * i + 1) (T (87 + 14 * i + 1)) = z_cw S T (87 + 14 * i) (87 + 14 * i + 8) := by
    funext j
    unfold upd z_cw
    by_cases c : j = 87 + 14 * i + 1
    · rw [if_pos c, if_pos (by omega), c]
    · rw [if_neg c]
      by_cases c2 : 87 + 14 * i + 2 ≤ j ∧ j < 87 + 14 * i + 8
      · rw [if_pos c2, if_pos (by omega)]
      · rw [if_neg c2]
        by_cases c3 : 87 + 14 * i ≤ j ∧ j < 87 + 14 * i + 1
        · rw [if_pos c3, if_pos (by omega)]
        · rw [if_neg c3, if_neg (by omega)]
  simp (disch := omega) only [z_lit, z_n, z_add, z_sub, z_mul, z_neg, z_lt1, z_lt0, z_le1, z_le0, z_eq1, z_eq0, z_10, ↓reduceIte, z_v, z_upd, z_ue, z_un, z_ixn, z_ixo, z_ix0, z_ix1, z_ix2, z_ix3, z_ix4, z_ix5, z_ix6, Int.reduceToNat, z_inr, z_gd, ↓z_bnd, ↓z_jn, z_bdc, z_bd2, z_opn, z_ops, z_z01, z_Bt, z_Bf, e2, hb, z_cw_u]
theorem z_Ccp60 (hT : z_b01 T) (K : (Nat → Int32) → Option (Nat → Int32)) : l_X4_copyFrom_60 T K FU S (zI 0) = K (z_cw S T 87 143) := by
  refine z_run (l := l_X4_copyFrom_60 T K) (n := 4) (P := fun i a => a = z_cw S T 87 (87 + 14 * i)) (Q := fun o => o = K (z_cw S T 87 143)) (fun N i a hi hp => ⟨_, rfl, ?_⟩) (fun N a hp => ?_) 4 0 FU S (by omega) (by unfold FU; omega) z_cw_0.symm
  · rw [l_X4_copyFrom_60, hp]
    simp (disch := omega) only [z_lit, z_n, z_add, z_sub, z_mul, z_neg, z_lt1, z_lt0, z_le1, z_le0, z_eq1, z_eq0, z_10, ↓reduceIte, z_v, z_upd, z_ue, z_un, z_ixn, z_ixo, z_ix0, z_ix1, z_ix2, z_ix3, z_ix4, z_ix5, z_ix6, Int.reduceToNat, z_inr, z_gd, ↓z_bnd, ↓z_jn, z_bdc, z_bd2, z_opn, z_ops, z_z01, z_Bt, z_Bf, z_Ccp8 hT hi]
    rw [z_cw_j (by omega) (by omega)]
    rfl
  · rw [l_X4_copyFrom_60, hp]
    simp (disch := omega) only [z_lit, z_n, z_add, z_sub, z_mul, z_neg, z_lt1, z_lt0, z_le1, z_le0, z_eq1, z_eq0, z_10, ↓reduceIte, z_v, z_upd, z_ue, z_un, z_ixn, z_ixo, z_ix0, z_ix1, z_ix2, z_ix3, z_ix4, z_ix5, z_ix6, Int.reduceToNat, z_inr, z_gd, ↓z_bnd, ↓z_jn, z_bdc, z_bd2, z_opn, z_ops, z_z01, z_Bt, z_Bf]
theorem z_Ccp88 (K : (Nat → Int32) → Option (Nat → Int32)) : l_X4_copyFrom_88 T K FU S (zI 0) = K (z_cw S T 143 251) := by
  refine z_run (l := l_X4_copyFrom_88 T K) (n := 12) (P := fun i a => a = z_cw S T 143 (143 + 9 * i)) (Q := fun o => o = K (z_cw S T 143 251)) (fun N i a hi hp => ⟨_, rfl, ?_⟩) (fun N a hp => ?_) 12 0 FU S (by omega) (by unfold FU; omega) z_cw_0.symm
  · rw [l_X4_copyFrom_88, hp]
    unfold f_X2_copyFrom
    have e : upd (upd (upd (upd (z_cw S T 143 (143 + 9 * i + 5)) (143 + 9 * i + 8) (T (143 + 9 * i + 8))) (143 + 9 * i + 5) (T (143 + 9 * i + 5))) (143 + 9 * i + 6) (T (143 + 9 * i + 6))) (143 + 9 * i + 7) (T (143 + 9 * i + 7)) = z_cw S T 143 (143 + 9 * (i + 1)) := by
      funext j
      unfold upd z_cw
      by_cases c7 : j = 143 + 9 * i + 7
      · rw [if_pos c7, if_pos (by omega), c7]
      · rw [if_neg c7]
        by_cases c6 : j = 143 + 9 * i + 6
        · rw [if_pos c6, if_pos (by omega), c6]
        · rw [if_neg c6]
          by_cases c5 : j = 143 + 9 * i + 5
          · rw [if_pos c5, if_pos (by omega), c5]
          · rw [if_neg c5]
            by_cases c8 : j = 143 + 9 * i + 8
            · rw [if_pos c8, if_pos (by omega), c8]
            · rw [if_neg c8]
              by_cases c : 143 ≤ j ∧ j < 143 + 9 * i + 5
              · rw [if_pos c, if_pos (by omega)]
              · rw [if_neg c, if_neg (by omega)]
    simp (disch := omega) only [z_lit, z_n, z_add, z_sub, z_mul, z_neg, z_lt1, z_lt0, z_le1, z_le0, z_eq1, z_eq0, z_10, ↓reduceIte, z_v, z_upd, z_ue, z_un, z_ixn, z_ixo, z_ix0, z_ix1, z_ix2, z_ix3, z_ix4, z_ix5, z_ix6, Int.reduceToNat, z_inr, z_gd, ↓z_bnd, ↓z_jn, z_bdc, z_bd2, z_opn, z_ops, z_z01, z_Bt, z_Bf, z_cw_u, e]
  · rw [l_X4_copyFrom_88, hp]
    simp (disch := omega) only [z_lit, z_n, z_add, z_sub, z_mul, z_neg, z_lt1, z_lt0, z_le1, z_le0, z_eq1, z_eq0, z_10, ↓reduceIte, z_v, z_upd, z_ue, z_un, z_ixn, z_ixo, z_ix0, z_ix1, z_ix2, z_ix3, z_ix4, z_ix5, z_ix6, Int.reduceToNat, z_inr, z_gd, ↓z_bnd, ↓z_jn, z_bdc, z_bd2, z_opn, z_ops, z_z01, z_Bt, z_Bf]
theorem z_Ccp117 (K : (Nat → Int32) → Option (Nat → Int32)) : l_X4_copyFrom_117 T K FU S (zI 0) = K (z_cw S T 251 315) := by
  refine z_run (l := l_X4_copyFrom_117 T K) (n := 64) (P := fun i a => a = z_cw S T 251 (251 + i)) (Q := fun o => o = K (z_cw S T 251 315)) (fun N i a hi hp => ⟨_, rfl, ?_⟩) (fun N a hp => ?_) 64 0 FU S (by omega) (by unfold FU; omega) z_cw_0.symm
  · rw [l_X4_copyFrom_117, hp]
    simp (disch := omega) only [z_lit, z_n, z_add, z_sub, z_mul, z_neg, z_lt1, z_lt0, z_le1, z_le0, z_eq1, z_eq0, z_10, ↓reduceIte, z_v, z_upd, z_ue, z_un, z_ixn, z_ixo, z_ix0, z_ix1, z_ix2, z_ix3, z_ix4, z_ix5, z_ix6, Int.reduceToNat, z_inr, z_gd, ↓z_bnd, ↓z_jn, z_bdc, z_bd2, z_opn, z_ops, z_z01, z_Bt, z_Bf, z_cw_u]
    rfl
  · rw [l_X4_copyFrom_117, hp]
    simp (disch := omega) only [z_lit, z_n, z_add, z_sub, z_mul, z_neg, z_lt1, z_lt0, z_le1, z_le0, z_eq1, z_eq0, z_10, ↓reduceIte, z_v, z_upd, z_ue, z_un, z_ixn, z_ixo, z_ix0, z_ix1, z_ix2, z_ix3, z_ix4, z_ix5, z_ix6, Int.reduceToNat, z_inr, z_gd, ↓z_bnd, ↓z_jn, z_bdc, z_bd2, z_opn, z_ops, z_z01, z_Bt, z_Bf]
theorem z_Ccp (hT : z_b01 T) : f_X4_copyFrom S T = some (z_cw S T 0 315) := by
  unfold f_X4_copyFrom
  rw [show (0 : Int32) = zI 0 from z_lit 0, z_Ccp2 hT]
  rw [z_Ccp31 hT]
  rw [z_Ccp60 hT]
  rw [z_Ccp88]
  rw [z_Ccp117]
  simp only [z_bnd]
  rw [z_cw_j (by omega) (by omega), z_cw_j (by omega) (by omega), z_cw_j (by omega) (by omega), z_cw_j (by omega) (by omega)]
  congr 1
  funext j
  unfold upd z_cw
  by_cases c6 : j = 6
  · subst c6; rfl
  by_cases c5 : j = 5
  · subst c5; rfl
  by_cases c0 : j = 0
  · subst c0; rfl
  by_cases c4 : j = 4
  · subst c4; rfl
  by_cases c3 : j = 3
  · subst c3; rfl
  by_cases c2 : j = 2
  · subst c2; rfl
  by_cases c1 : j = 1
  · subst c1; rfl
  rw [if_neg c6, if_neg c5, if_neg c0, if_neg c4, if_neg c3, if_neg c2, if_neg c1]
  by_cases c : 7 ≤ j ∧ j < 315
  · rw [if_pos c, if_pos (by omega)]
  · rw [if_neg c, if_neg (by omega)]
end Cpy
/-! the class's measureDistances makes the table -/
theorem edT_out {ns nt : Nat} {ta tb tm : Nat → Nat} {op : Nat → Bool} (ht : ∀ k, k < nt → ta k < ns ∧ tb k < ns) {x y : Nat} (h : ¬ (x < ns ∧ y < ns)) : ∀ k, k ≤ nt → edT ta tb tm op T00 k x y = T00 x y
  | 0, _ => rfl
  | k + 1, hk => by
    have ih := edT_out (tm := tm) (op := op) ht h k (by omega)
    have e := ht k (by omega)
    rw [show edT ta tb tm op T00 (k + 1) = if op k then shr (shr (edT ta tb tm op T00 k) (ta k) (tb k) (tm k)) (tb k) (ta k) (tm k) else edT ta tb tm op T00 k from rfl]
    split
    · rw [shr_off (by omega), shr_off (by omega)]
      exact ih
    · exact ih
theorem fwT_out {ns : Nat} {T : Nat → Nat → Nat} (h0 : ∀ x, T x x = 0) {x y : Nat} (h : ¬ (x < ns ∧ y < ns)) : ∀ v, fwT ns T v x y = T x y
  | 0 => rfl
  | v + 1 => by
    rw [show fwT ns T (v + 1) = stgT v ns (fwT ns T v) ns from rfl, stgT_eq (fwT_0 h0 v v), if_neg h]
    exact fwT_out h0 h v
def z_ka (s : Nat → Int) (k : Nat) : Nat := (s (39 + 4 * k)).toNat
def z_kb (s : Nat → Int) (k : Nat) : Nat := (s (39 + 4 * k + 1)).toNat
def z_km (s : Nat → Int) (k : Nat) : Nat := (s (39 + 4 * k + 2)).toNat
def z_ko (s : Nat → Int) (k : Nat) : Bool := decide (s (39 + 4 * k + 3) = 1)
section Mes
variable {b : Int} {s : Nat → Int}
def z_ms (s : Nat → Int) (T : Nat → Nat → Nat) : Nat → Int := fun k => if 251 ≤ k ∧ k < 315 then (T ((k - 251) / 8) ((k - 251) % 8) : Int) else s k
theorem z_ms_o {T : Nat → Nat → Nat} {k : Nat} (h : k < 251 ∨ 315 ≤ k) : z_ms s T k = s k := if_neg (by omega)
theorem z_ms_zT {T : Nat → Nat → Nat} {x y : Nat} (hx : x < 8) (hy : y < 8) : zT (z_ms s T) x y = T x y := by
  unfold zT z_ms
  rw [if_pos ⟨hx, hy⟩, if_pos (by omega), show (251 + (x * 8 + y) - 251) / 8 = x by omega, show (251 + (x * 8 + y) - 251) % 8 = y by omega]
theorem z_Cme (h1 : 0 ≤ s 1 ∧ s 1 ≤ 8) (h2 : 0 ≤ s 2 ∧ s 2 ≤ 12) (hk : ∀ k : Nat, (k : Int) < s 2 → z_trk s k) (hb : ∀ k : Nat, k < 12 → z_bo (s (39 + 4 * k + 3))) : ∃ s', f_X4_measureDistances (zV s) = some (zV s') ∧ (∀ k, k < 251 ∨ 315 ≤ k → s' k = s k) ∧ z_dis s' := by
  obtain ⟨ns, hns⟩ : ∃ n : Nat, s 1 = n := ⟨(s 1).toNat, by omega⟩
  obtain ⟨nt, hnt⟩ : ∃ n : Nat, s 2 = n := ⟨(s 2).toNat, by omega⟩
  have trk : TRK (zV s) nt (z_ka s) (z_kb s) (z_km s) (z_ko s) := by
    refine ⟨by rw [z_v, hnt, z_n], by omega, fun k hk2 => ?_⟩
    obtain ⟨t0, t1, t2⟩ := hk k (by omega)
    have hbk := hb k (by omega)
    unfold z_ka z_kb z_km z_ko
    refine ⟨?_, ?_, ?_, ?_, by omega, by omega, by omega, by omega⟩
    · rw [z_v, z_n]; congr 1; omega
    · rw [z_v, z_n]; congr 1; omega
    · rw [z_v, z_n]; congr 1; omega
    · rw [z_v]
      rcases hbk with q | q
      · rw [q]; rfl
      · rw [q]; rfl
  have e := measure_n (S := zV s) (ns := ns) (by rw [z_v, hns, z_n]) (by omega) trk
  have ht : ∀ k, k < nt → z_ka s k < ns ∧ z_kb s k < ns := fun k hk2 => by
    unfold z_ka z_kb
    obtain ⟨t0, t1, t2⟩ := hk k (by omega)
    omega
  have tb := tab_ok (ns := ns) (nt := nt) (ta := z_ka s) (tb := z_kb s) (tm := z_km s) (op := z_ko s) ht
  have t0 : ∀ x, edT (z_ka s) (z_kb s) (z_km s) (z_ko s) T00 nt x x = 0 := fun x => by
    have h := edT_le (ta := z_ka s) (tb := z_kb s) (tm := z_km s) (op := z_ko s) (T := T00) (x := x) (y := x) nt
    rw [show T00 x x = 0 by unfold T00; rw [if_pos rfl]] at h
    omega
  have out : ∀ x y, ¬ (x < ns ∧ y < ns) → tabT nt (z_ka s) (z_kb s) (z_km s) (z_ko s) ns x y = T00 x y := fun x y hxy => by
    unfold tabT
    rw [fwT_out t0 hxy, edT_out ht hxy nt (Nat.le_refl _)]
  generalize tabT nt (z_ka s) (z_kb s) (z_km s) (z_ko s) ns = T at *
  have sym : ∀ {x y : Nat}, x < ns → y < ns → T x y = T y x := fun hx hy => tb.sym (fun k hk2 => by
    obtain ⟨t0, t1, t2⟩ := hk k (by omega)
    unfold z_km
    omega) hx hy
  obtain ⟨u1, u2, u3, u4, u5⟩ := tb
  refine ⟨z_ms s T, ?_, fun k hk2 => z_ms_o hk2, ?_⟩
  · refine e.trans (congrArg some ?_)
    funext k
    unfold dS zV z_ms
    by_cases c : 251 ≤ k ∧ k < 315
    · rw [if_pos c, if_pos c, z_n]
    · rw [if_neg c, if_neg c]
  · have eg : ∀ y x w, z_eg (z_ms s T) y x w → y < ns ∧ x < ns ∧ EDG nt (z_ka s) (z_kb s) (z_km s) (z_ko s) y x w.toNat ∧ 0 ≤ w := by
      rintro y x w ⟨k, k1, k2, k3, k4⟩
      rw [z_ms_o (by omega)] at k1
      rw [z_ms_o (by omega)] at k2
      rw [z_ms_o (by omega)] at k3
      rw [z_ms_o (by omega), z_ms_o (by omega)] at k4
      obtain ⟨t0, t1, t2⟩ := hk k k1
      refine ⟨by omega, by omega, ⟨k, by omega, decide_eq_true k2, by unfold z_km; rw [k3], ?_⟩, by omega⟩
      rcases k4 with q | q
      · exact Or.inl ⟨by unfold z_ka; omega, by unfold z_kb; omega⟩
      · exact Or.inr ⟨by unfold z_kb; omega, by unfold z_ka; omega⟩
    have ge : ∀ y x w, EDG nt (z_ka s) (z_kb s) (z_km s) (z_ko s) y x w → z_eg (z_ms s T) y x w := by
      rintro y x w ⟨k, k1, k2, k3, k4⟩
      obtain ⟨t0, t1, t2⟩ := hk k (by omega)
      have k2' := of_decide_eq_true k2
      have k3' : (s (39 + 4 * k + 2)).toNat = w := k3
      refine ⟨k, by rw [z_ms_o (by omega)]; omega, by rw [z_ms_o (by omega)]; exact k2', by rw [z_ms_o (by omega)]; omega, ?_⟩
      rw [z_ms_o (by omega), z_ms_o (by omega)]
      rcases k4 with ⟨q1, q2⟩ | ⟨q1, q2⟩
      · have q1' : (s (39 + 4 * k)).toNat = y := q1
        have q2' : (s (39 + 4 * k + 1)).toNat = x := q2
        exact Or.inl ⟨by omega, by omega⟩
      · have q1' : (s (39 + 4 * k + 1)).toNat = y := q1
        have q2' : (s (39 + 4 * k)).toNat = x := q2
        exact Or.inr ⟨by omega, by omega⟩
    have val : ∀ x y, x < 8 → y < 8 → zT (z_ms s T) x y = T x y := fun x y hx hy => z_ms_zT hx hy
    refine ⟨fun x y => ?_, fun x => ?_, fun y x w he => ?_, fun a c d ha hc hd => ?_, fun a c ha hc hl => ?_, fun a c ha hc => ?_⟩
    · by_cases c : x < 8 ∧ y < 8
      · rw [val x y c.1 c.2]
        have := u1 x y
        omega
      · unfold zT
        rw [if_neg c]
        split <;> omega
    · by_cases c : x < 8
      · rw [val x x c c, u2 x]
        rfl
      · unfold zT
        rw [if_neg (by omega), if_pos rfl]
    · obtain ⟨e1, e2, e3, e4⟩ := eg y x w he
      rw [val y x (by omega) (by omega)]
      have := u3 y x _ e3
      omega
    · rw [val a d ha hd, val a c ha hc, val c d hc hd]
      by_cases q : a < ns ∧ c < ns ∧ d < ns
      · have := u4 a c d q.1 q.2.1 q.2.2
        omega
      · have o1 := u1 a d
        have o2 := out a c
        have o3 := out c d
        have o4 := out a d
        unfold T00 at o2 o3 o4
        by_cases q2 : a < ns ∧ c < ns
        · have o3' := o3 (by omega)
          split at o3'
          · omega
          · omega
        · have o2' := o2 (by omega)
          split at o2'
          · rename_i q3
            subst q3
            omega
          · omega
    · rw [val a c ha hc] at hl ⊢
      by_cases q : a < ns ∧ c < ns
      · rcases u5 a c q.1 q.2 (by omega) with q3 | ⟨y, w, hy, he, hw⟩
        · exact Or.inl q3
        · exact Or.inr ⟨y, w, by omega, ge y c w he, by rw [val a y ha (by omega)]; omega⟩
      · have o := out a c q
        unfold T00 at o
        split at o
        · rename_i q3
          exact Or.inl q3
        · omega
    · rw [val a c ha hc, val c a hc ha]
      by_cases q : a < ns ∧ c < ns
      · rw [sym q.1 q.2]
      · have o1 := out a c q
        have o2 := out c a (by omega)
        unfold T00 at o1 o2
        split at o1
        · rename_i q3
          subst q3
          rfl
        · rw [if_neg (by omega)] at o2
          omega
end Mes
/-! what the calls and the parser change, on both sides -/
def z_sb (c : Int) (g : Nat → Int) : Prop := ∀ i : Nat, i < 8 → 0 ≤ g (7 + 4 * i + 3) ∧ g (7 + 4 * i + 3) ≤ c
section Ops
variable {b : Int} {s s' g g' : Nat → Int}
theorem z_trn_g (h1 : s 1 ≤ s' 1) (htk : ∀ x y, z_tk s x y ≠ none → z_tk s' x y = z_tk s x y) {t : Nat} (et : ∀ k, k < 11 → s' (87 + 14 * t + k) = s (87 + 14 * t + k)) (h : z_trn s t) : z_trn s' t := by
  obtain ⟨a0, a1, a2, a3, a4, a5, a6⟩ := h
  have e0 := et 0 (by omega)
  simp only [Nat.add_zero] at e0
  have es : ∀ j : Nat, j < 6 → s' (87 + 14 * t + 2 + j) = s (87 + 14 * t + 2 + j) := fun j hj => by
    have := et (2 + j) (by omega)
    rw [← Nat.add_assoc] at this
    exact this
  unfold z_trn
  rw [e0, et 1 (by omega), et 8 (by omega), et 9 (by omega), et 10 (by omega)]
  refine ⟨a0, a1, fun j hj => ?_, fun j hj => ?_, a4, a5, a6⟩
  · rw [es j (by omega)]
    have := a2 j hj
    omega
  · have q := a3 j hj
    rw [es j (by omega), es (j + 1) (by omega), htk _ _ q]
    exact q
theorem z_rtn_g (htk : ∀ x y, z_tk s x y ≠ none → z_tk s' x y = z_tk s x y) (hm : ∀ k : Nat, (k : Int) < s 2 → s' (39 + 4 * k + 2) = s (39 + 4 * k + 2)) (h2 : 0 ≤ s 2) {t : Nat} (et : ∀ k, k < 14 → s' (87 + 14 * t + k) = s (87 + 14 * t + k)) (eg : ∀ k, k < 14 → g' (87 + 14 * t + k) = g (87 + 14 * t + k)) (tn : z_trn s t) (r : z_rtn s g t) : z_rtn s' g' t := by
  obtain ⟨x0, x1, x2, x3, x4, x5, x6, x7, x8⟩ := r
  have tl := tn.2.1
  have e0 := et 0 (by omega)
  have f0 := eg 0 (by omega)
  simp only [Nat.add_zero] at e0 f0
  have es : ∀ j : Nat, j < 6 → s' (87 + 14 * t + 2 + j) = s (87 + 14 * t + 2 + j) := fun j hj => by
    have := et (2 + j) (by omega)
    rw [← Nat.add_assoc] at this
    exact this
  have fs : ∀ j : Nat, j < 6 → g' (87 + 14 * t + 2 + j) = g (87 + 14 * t + 2 + j) := fun j hj => by
    have := eg (2 + j) (by omega)
    rw [← Nat.add_assoc] at this
    exact this
  unfold z_rtn
  rw [e0, f0, et 1 (by omega), eg 1 (by omega), et 8 (by omega), eg 8 (by omega), et 9 (by omega), eg 9 (by omega), et 11 (by omega), eg 11 (by omega), et 12 (by omega), eg 12 (by omega), et 13 (by omega), eg 13 (by omega)]
  refine ⟨x0, x1, fun j hj => by rw [es j (by omega), fs j (by omega)]; exact x2 j hj, x3, x4, ?_, x6, x7, x8⟩
  unfold z_tv at x5 ⊢
  rw [z_cu_c tn (fun k hk => et k (by omega)), z_nx_c tn (fun k hk => et k (by omega)), et 10 (by omega), eg 10 (by omega)]
  rcases x5 with q | ⟨q1, q2, k, q3, q4⟩
  · exact Or.inl q
  · refine Or.inr ⟨q1, q2, k, ?_, ?_⟩
    · rw [htk _ _ (by rw [q3]; simp)]
      exact q3
    · have := z_ff_s _ _ _ q3
      rw [hm k (by omega)]
      exact q4
theorem z_tk_h (h2 : s' 2 = s 2) (e : ∀ k : Nat, (k : Int) < s 2 → s' (39 + 4 * k) = s (39 + 4 * k) ∧ s' (39 + 4 * k + 1) = s (39 + 4 * k + 1)) (x y : Int) : z_tk s' x y = z_tk s x y := by
  unfold z_tk
  rw [h2]
  refine z_ff_c _ _ (fun j _ hj => ?_)
  unfold z_cn
  rw [(e j (by omega)).1, (e j (by omega)).2]
def z_k0 (b : Int) (s g : Nat → Int) : Prop := z_cnt4 b s ∧ ∀ k, k < 7 → g k = s k
def z_k1 (s g : Nat → Int) : Prop := (∀ i : Nat, i < 8 → z_bo (s (7 + 4 * i + 1))) ∧ ∀ i : Nat, (i : Int) < s 1 → z_stn s i ∧ z_nm (s (7 + 4 * i)) (g (7 + 4 * i)) ∧ g (7 + 4 * i + 1) = s (7 + 4 * i + 1) ∧ g (7 + 4 * i + 2) = s (7 + 4 * i + 2)
def z_k2 (s g : Nat → Int) : Prop := (∀ i : Nat, i < 12 → z_bo (s (39 + 4 * i + 3))) ∧ ∀ k : Nat, (k : Int) < s 2 → z_trk s k ∧ ∀ j, j < 4 → g (39 + 4 * k + j) = s (39 + 4 * k + j)
def z_k3 (s g : Nat → Int) : Prop := (∀ i : Nat, i < 4 → z_bo (s (87 + 14 * i + 9))) ∧ ∀ t : Nat, (t : Int) < s 3 → z_trn s t ∧ z_rtn s g t
def z_k4 (s g : Nat → Int) : Prop := ∀ i : Nat, (i : Int) < s 4 → z_pcl s i ∧ ∀ j, j < 9 → g (143 + 9 * i + j) = s (143 + 9 * i + j)
def z_PI (b : Int) (s g : Nat → Int) : Prop := z_inv b s ∧ z_rel s g ∧ z_sb (4 * b) g
theorem z_PI_mk (k0 : z_k0 b s g) (k1 : z_k1 s g) (k2 : z_k2 s g) (k3 : z_k3 s g) (k4 : z_k4 s g) (k5 : z_dis s) (k6 : z_sb (4 * b) g) : z_PI b s g :=
  ⟨⟨k0.1, ⟨k1.1, k2.1, k3.1⟩, fun i hi => (k1.2 i hi).1, fun k hk => (k2.2 k hk).1, fun t ht => (k3.2 t ht).1, fun i hi => (k4 i hi).1, k5⟩, ⟨k0.2, fun i hi => (k1.2 i hi).2, fun k hk => (k2.2 k hk).2, fun t ht => (k3.2 t ht).2, fun i hi => (k4 i hi).2⟩, k6⟩
theorem z_PI_0 (h : z_PI b s g) : z_k0 b s g := ⟨h.1.1, h.2.1.1⟩
theorem z_PI_1 (h : z_PI b s g) : z_k1 s g := ⟨h.1.2.1.1, fun i hi => ⟨h.1.2.2.1 i hi, h.2.1.2.1 i hi⟩⟩
theorem z_PI_2 (h : z_PI b s g) : z_k2 s g := ⟨h.1.2.1.2.1, fun k hk => ⟨h.1.2.2.2.1 k hk, h.2.1.2.2.1 k hk⟩⟩
theorem z_PI_3 (h : z_PI b s g) : z_k3 s g := ⟨h.1.2.1.2.2, fun t ht => ⟨h.1.2.2.2.2.1 t ht, h.2.1.2.2.2.1 t ht⟩⟩
theorem z_PI_4 (h : z_PI b s g) : z_k4 s g := fun i hi => ⟨h.1.2.2.2.2.2.1 i hi, h.2.1.2.2.2.2 i hi⟩
theorem z_PI_5 (h : z_PI b s g) : z_dis s := h.1.2.2.2.2.2.2
theorem z_PI_6 (h : z_PI b s g) : z_sb (4 * b) g := h.2.2
theorem z_k1_c (k0 : z_k0 b s g) (h0 : s' 0 = s 0) (h1 : s' 1 = s 1) (e : ∀ k, 7 ≤ k → k < 39 → s' k = s k) (f : ∀ k, 7 ≤ k → k < 39 → g' k = g k) (h : z_k1 s g) : z_k1 s' g' := by
  have c1 := k0.1.2.1
  refine ⟨fun i hi => by rw [e _ (by omega) (by omega)]; exact h.1 i hi, fun i hi => ?_⟩
  rw [h1] at hi
  have q := h.2 i hi
  unfold z_stn at q ⊢
  rw [h0, e (7 + 4 * i) (by omega) (by omega), e (7 + 4 * i + 1) (by omega) (by omega), e (7 + 4 * i + 2) (by omega) (by omega), e (7 + 4 * i + 3) (by omega) (by omega), f (7 + 4 * i) (by omega) (by omega), f (7 + 4 * i + 1) (by omega) (by omega), f (7 + 4 * i + 2) (by omega) (by omega)]
  exact q
theorem z_k2_c (k0 : z_k0 b s g) (h1 : s 1 ≤ s' 1) (h2 : s' 2 = s 2) (e : ∀ k, 39 ≤ k → k < 87 → s' k = s k) (f : ∀ k, 39 ≤ k → k < 87 → g' k = g k) (h : z_k2 s g) : z_k2 s' g' := by
  have c2 := k0.1.2.2.1
  refine ⟨fun i hi => by rw [e _ (by omega) (by omega)]; exact h.1 i hi, fun k hk => ?_⟩
  rw [h2] at hk
  obtain ⟨q1, q2⟩ := h.2 k hk
  refine ⟨?_, fun j hj => by rw [e _ (by omega) (by omega), f _ (by omega) (by omega)]; exact q2 j hj⟩
  unfold z_trk at q1 ⊢
  rw [e (39 + 4 * k) (by omega) (by omega), e (39 + 4 * k + 1) (by omega) (by omega), e (39 + 4 * k + 2) (by omega) (by omega)]
  omega
theorem z_k3_c (k0 : z_k0 b s g) (h1 : s 1 ≤ s' 1) (h3 : s' 3 = s 3) (htk : ∀ x y, z_tk s x y ≠ none → z_tk s' x y = z_tk s x y) (hm : ∀ k : Nat, (k : Int) < s 2 → s' (39 + 4 * k + 2) = s (39 + 4 * k + 2)) (e : ∀ k, 87 ≤ k → k < 143 → s' k = s k) (f : ∀ k, 87 ≤ k → k < 143 → g' k = g k) (h : z_k3 s g) : z_k3 s' g' := by
  have c3 := k0.1.2.2.2.1
  refine ⟨fun i hi => by rw [e _ (by omega) (by omega)]; exact h.1 i hi, fun t ht => ?_⟩
  rw [h3] at ht
  obtain ⟨q1, q2⟩ := h.2 t ht
  exact ⟨z_trn_g h1 htk (fun k hk => e _ (by omega) (by omega)) q1, z_rtn_g htk hm k0.1.2.2.1.1 (fun k hk => e _ (by omega) (by omega)) (fun k hk => f _ (by omega) (by omega)) q1 q2⟩
theorem z_k4_c (k0 : z_k0 b s g) (h0 : s' 0 = s 0) (h1 : s 1 ≤ s' 1) (h3 : s 3 ≤ s' 3) (h4 : s' 4 = s 4) (e : ∀ k, 143 ≤ k → k < 251 → s' k = s k) (f : ∀ k, 143 ≤ k → k < 251 → g' k = g k) (h : z_k4 s g) : z_k4 s' g' := by
  intro i hi
  have c4 := k0.1.2.2.2.2
  rw [h4] at hi
  obtain ⟨q1, q2⟩ := h i hi
  refine ⟨?_, fun j hj => by rw [e _ (by omega) (by omega), f _ (by omega) (by omega)]; exact q2 j hj⟩
  unfold z_pcl at q1 ⊢
  rw [h0, e (143 + 9 * i) (by omega) (by omega), e (143 + 9 * i + 1) (by omega) (by omega), e (143 + 9 * i + 2) (by omega) (by omega), e (143 + 9 * i + 3) (by omega) (by omega), e (143 + 9 * i + 4) (by omega) (by omega), e (143 + 9 * i + 5) (by omega) (by omega), e (143 + 9 * i + 7) (by omega) (by omega), e (143 + 9 * i + 8) (by omega) (by omega)]
  omega
/-- a parcel's cells change on both sides -/
theorem z_PI_p (h : z_PI b s g) {i : Nat} (hi : (i : Int) < s 4) (e : ∀ k, ¬ (143 + 9 * i ≤ k ∧ k < 143 + 9 * i + 9) → s' k = s k) (f : ∀ k, k < 251 → ¬ (143 + 9 * i ≤ k ∧ k < 143 + 9 * i + 9) → g' k = g k) (hp : z_pcl s' i) (hq : ∀ j, j < 9 → g' (143 + 9 * i + j) = s' (143 + 9 * i + j)) : z_PI b s' g' := by
  have k0 := z_PI_0 h
  obtain ⟨c0, c1, c2, c3, c4⟩ := id k0.1
  have lo : ∀ k, k < 143 → s' k = s k := fun k hk => e k (by omega)
  have lg : ∀ k, k < 143 → g' k = g k := fun k hk => f k (by omega) (by omega)
  refine z_PI_mk ⟨?_, fun k hk => by rw [lo k (by omega), lg k (by omega)]; exact k0.2 k hk⟩ (z_k1_c k0 (lo 0 (by omega)) (lo 1 (by omega)) (fun k _ hk => lo k (by omega)) (fun k _ hk => lg k (by omega)) (z_PI_1 h)) (z_k2_c k0 (by rw [lo 1 (by omega)]; exact Int.le_refl _) (lo 2 (by omega)) (fun k _ hk => lo k (by omega)) (fun k _ hk => lg k (by omega)) (z_PI_2 h)) (z_k3_c k0 (by rw [lo 1 (by omega)]; exact Int.le_refl _) (lo 3 (by omega)) (fun x y _ => z_tk_c (lo 2 (by omega)) (by omega) (fun k _ hk => lo k (by omega))) (fun k hk => lo _ (by omega)) (fun k _ hk => lo k (by omega)) (fun k _ hk => lg k (by omega)) (z_PI_3 h)) ?_ (z_dis_c (lo 2 (by omega)) (by omega) (fun k _ hk => lo k (by omega)) (fun k hk => e k (by omega)) (z_PI_5 h)) (fun j hj => by rw [lg _ (by omega)]; exact z_PI_6 h j hj)
  · unfold z_cnt4
    rw [lo 0 (by omega), lo 1 (by omega), lo 2 (by omega), lo 3 (by omega), lo 4 (by omega)]
    exact k0.1
  · intro j hj
    rw [lo 4 (by omega)] at hj
    by_cases q : j = i
    · rw [q]
      exact ⟨hp, hq⟩
    · obtain ⟨q1, q2⟩ := z_PI_4 h j hj
      refine ⟨?_, fun m hm => by rw [e _ (by omega), f _ (by omega) (by omega)]; exact q2 m hm⟩
      unfold z_pcl at q1 ⊢
      rw [lo 0 (by omega), lo 1 (by omega), lo 3 (by omega), e (143 + 9 * j) (by omega), e (143 + 9 * j + 1) (by omega), e (143 + 9 * j + 2) (by omega), e (143 + 9 * j + 3) (by omega), e (143 + 9 * j + 4) (by omega), e (143 + 9 * j + 5) (by omega), e (143 + 9 * j + 7) (by omega), e (143 + 9 * j + 8) (by omega)]
      exact q1
/-- the inspection time of a station -/
theorem z_PI_in (h : z_PI b s g) {i : Nat} {m : Int} (hi : (i : Int) < s 1) (hm : 0 ≤ m ∧ m ≤ 9) : z_PI b (zu s (7 + 4 * i + 2) m) (zu g (7 + 4 * i + 2) m) := by
  have k0 := z_PI_0 h
  obtain ⟨c0, c1, c2, c3, c4⟩ := id k0.1
  have e : ∀ k, k ≠ 7 + 4 * i + 2 → zu s (7 + 4 * i + 2) m k = s k := fun k hk => z_un hk
  have f : ∀ k, k ≠ 7 + 4 * i + 2 → zu g (7 + 4 * i + 2) m k = g k := fun k hk => z_un hk
  refine z_PI_mk ⟨?_, fun k hk => by rw [e k (by omega), f k (by omega)]; exact k0.2 k hk⟩ ⟨fun j hj => by rw [e _ (by omega)]; exact (z_PI_1 h).1 j hj, fun j hj => ?_⟩ (z_k2_c k0 (by rw [e 1 (by omega)]; exact Int.le_refl _) (e 2 (by omega)) (fun k _ hk => e k (by omega)) (fun k _ hk => f k (by omega)) (z_PI_2 h)) (z_k3_c k0 (by rw [e 1 (by omega)]; exact Int.le_refl _) (e 3 (by omega)) (fun x y _ => z_tk_c (e 2 (by omega)) (by omega) (fun k _ hk => e k (by omega))) (fun k hk => e _ (by omega)) (fun k _ hk => e k (by omega)) (fun k _ hk => f k (by omega)) (z_PI_3 h)) (z_k4_c k0 (e 0 (by omega)) (by rw [e 1 (by omega)]; exact Int.le_refl _) (by rw [e 3 (by omega)]; exact Int.le_refl _) (e 4 (by omega)) (fun k _ hk => e k (by omega)) (fun k _ hk => f k (by omega)) (z_PI_4 h)) (z_dis_c (e 2 (by omega)) (by omega) (fun k _ hk => e k (by omega)) (fun k hk => e k (by omega)) (z_PI_5 h)) (fun j hj => by rw [f _ (by omega)]; exact z_PI_6 h j hj)
  · unfold z_cnt4
    rw [e 0 (by omega), e 1 (by omega), e 2 (by omega), e 3 (by omega), e 4 (by omega)]
    exact k0.1
  · rw [e 1 (by omega)] at hj
    obtain ⟨q1, q2, q3, q4⟩ := (z_PI_1 h).2 j hj
    unfold z_stn at q1 ⊢
    rw [e 0 (by omega), e (7 + 4 * j) (by omega), e (7 + 4 * j + 1) (by omega), e (7 + 4 * j + 3) (by omega), f (7 + 4 * j) (by omega), f (7 + 4 * j + 1) (by omega)]
    by_cases q : j = i
    · rw [q, z_ue rfl, z_ue rfl]
      rw [q] at q1 q2 q3
      exact ⟨⟨hm, q1.2⟩, q2, q3, rfl⟩
    · rw [e _ (by omega), f _ (by omega)]
      exact ⟨q1, q2, q3, q4⟩
/-- a track is opened or closed -/
theorem z_open (h : z_PI b s g) {i : Nat} {o : Int} (hi : (i : Int) < s 2) (ho : z_bo o) : ∃ s', f_X4_openTrack (zV s) (zI i) (zI o) = some (zV s') ∧ z_PI b s' (zu g (39 + 4 * i + 3) o) ∧ (∀ k, k < 251 → k ≠ 39 + 4 * i + 3 → s' k = s k) := by
  have k0 := z_PI_0 h
  have k1 := z_PI_1 h
  have k2 := z_PI_2 h
  obtain ⟨c0, c1, c2, c3, c4⟩ := id k0.1
  have eu : ∀ k, k ≠ 39 + 4 * i + 3 → zu s (39 + 4 * i + 3) o k = s k := fun k hk => z_un hk
  have f : ∀ k, k ≠ 39 + 4 * i + 3 → zu g (39 + 4 * i + 3) o k = g k := fun k hk => z_un hk
  obtain ⟨s', m1, m2, m3⟩ := z_Cme (s := zu s (39 + 4 * i + 3) o) (by rw [eu 1 (by omega)]; exact c1) (by rw [eu 2 (by omega)]; exact c2) (fun k hk => by
    rw [eu 2 (by omega)] at hk
    have q := (k2.2 k hk).1
    unfold z_trk at q ⊢
    rw [eu 1 (by omega), eu _ (by omega), eu _ (by omega), eu _ (by omega)]
    exact q) (fun k hk => by
    by_cases q : k = i
    · rw [q, z_ue rfl]; exact ho
    · rw [eu _ (by omega)]; exact k2.1 k hk)
  have e : ∀ k, k < 251 → k ≠ 39 + 4 * i + 3 → s' k = s k := fun k h1 h2 => by rw [m2 k (by omega), eu k h2]
  have e3 : s' (39 + 4 * i + 3) = o := by rw [m2 _ (by omega), z_ue rfl]
  refine ⟨s', ?_, ?_, e⟩
  · unfold f_X4_openTrack
    unfold z_bo at ho
    simp (disch := omega) only [z_lit, z_n, z_add, z_sub, z_mul, z_neg, z_lt1, z_lt0, z_le1, z_le0, z_eq1, z_eq0, z_10, ↓reduceIte, z_v, z_upd, z_ue, z_un, z_ixn, z_ixo, z_ix0, z_ix1, z_ix2, z_ix3, z_ix4, z_ix5, z_ix6, Int.reduceToNat, z_inr, z_gd, ↓z_bnd, ↓z_jn, z_bdc, z_bd2, z_opn, z_ops, z_z01, z_Bt, z_Bf, m1]
  · refine z_PI_mk ⟨?_, fun k hk => by rw [e k (by omega) (by omega), f k (by omega)]; exact k0.2 k hk⟩ (z_k1_c k0 (e 0 (by omega) (by omega)) (e 1 (by omega) (by omega)) (fun k _ hk => e k (by omega) (by omega)) (fun k _ hk => f k (by omega)) k1) ⟨fun j hj => ?_, fun k hk => ?_⟩ (z_k3_c k0 (by rw [e 1 (by omega) (by omega)]; exact Int.le_refl _) (e 3 (by omega) (by omega)) (fun x y _ => z_tk_h (e 2 (by omega) (by omega)) (fun k hk => ⟨e _ (by omega) (by omega), e _ (by omega) (by omega)⟩) x y) (fun k hk => e _ (by omega) (by omega)) (fun k _ hk => e k (by omega) (by omega)) (fun k _ hk => f k (by omega)) (z_PI_3 h)) (z_k4_c k0 (e 0 (by omega) (by omega)) (by rw [e 1 (by omega) (by omega)]; exact Int.le_refl _) (by rw [e 3 (by omega) (by omega)]; exact Int.le_refl _) (e 4 (by omega) (by omega)) (fun k _ hk => e k (by omega) (by omega)) (fun k _ hk => f k (by omega)) (z_PI_4 h)) m3 (fun j hj => by rw [f _ (by omega)]; exact z_PI_6 h j hj)
    · unfold z_cnt4
      rw [e 0 (by omega) (by omega), e 1 (by omega) (by omega), e 2 (by omega) (by omega), e 3 (by omega) (by omega), e 4 (by omega) (by omega)]
      exact k0.1
    · by_cases q : j = i
      · rw [q, e3]; exact ho
      · rw [e _ (by omega) (by omega)]; exact k2.1 j hj
    · rw [e 2 (by omega) (by omega)] at hk
      obtain ⟨q1, q2⟩ := k2.2 k hk
      refine ⟨?_, fun j hj => ?_⟩
      · unfold z_trk at q1 ⊢
        rw [e 1 (by omega) (by omega), e _ (by omega) (by omega), e _ (by omega) (by omega), e _ (by omega) (by omega)]
        exact q1
      · by_cases q : 39 + 4 * k + j = 39 + 4 * i + 3
        · rw [q, e3, z_ue rfl]
        · rw [e _ (by omega) q, f _ q]
          exact q2 j hj
end Ops
