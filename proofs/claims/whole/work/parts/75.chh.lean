section Chh
variable {W W' V V' : Nat → Nat → Int32} {b c : Int} {s s' g g' : Nat → Int}
/-- the class's side of a change: Wa remembers, then the state is s'; z_th U 0 is where the reference remembers -/
theorem z_U0 {Wa : Nat → Nat → Int32} (r2 : ∀ u, ¬ (3 ≤ u ∧ u < 11) → u ≠ 17 → Wa u = W u) (s' : Nat → Int) (x : Int32) : ∃ U, U = w2 (setU Wa 0 (zV s')) 31 0 x ∧ U 21 = W 21 ∧ z_th U 0 0 = zV s' ∧ (∀ u, u ≠ 0 → u ≠ 1 → u ≠ 31 → u ≠ 30 → z_th U 0 u = Wa u) ∧ (∀ k, k ≠ 2 → z_th U 0 30 k = W 30 k) ∧ z_th U 0 21 = W 21 ∧ z_th U 0 27 = W 27 ∧ z_th U 0 31 0 = x := by
  refine ⟨_, rfl, ?_, ?_, fun u u0 _ u1 u2 => ?_, fun k hk => ?_, ?_, ?_, ?_⟩
  · rw [z_w2u (by omega), z_sUu (by omega), r2 21 (by omega) (by omega)]
  · rw [z_thu (by omega), z_w2u (by omega), z_sUe]
  · rw [z_thu u2, z_w2u u1, z_sUu u0]
  · rw [z_thk hk, z_w2u (by omega), z_sUu (by omega), r2 30 (by omega) (by omega)]
  · rw [z_thu (by omega), z_w2u (by omega), z_sUu (by omega), r2 21 (by omega) (by omega)]
  · rw [z_thu (by omega), z_w2u (by omega), z_sUu (by omega), r2 27 (by omega) (by omega)]
  · rw [z_thu (by omega), z_w2e]
theorem z_w2s {k : Nat} {v : Int} (h : W 0 = zV s) : w2 W 0 k (zI v) = setU W 0 (zV (zu s k v)) := by
  unfold w2
  rw [h, z_upd]
theorem z_PI_pr (h : z_PI b s g) {i : Nat} {p : Int} (hi : (i : Int) < s 4) (hp : 1 ≤ p ∧ p ≤ 9) : z_PI b (zu s (143 + 9 * i + 2) p) (zu g (143 + 9 * i + 2) p) := by
  have c4 := h.1.1.2.2.2.2
  have q := h.1.2.2.2.2.2.1 i hi
  refine z_PI_p h hi (fun k hk => z_un (by omega)) (fun k _ hk => z_un (by omega)) ?_ (fun j hj => ?_)
  · unfold z_pcl at q ⊢
    simp (disch := omega) only [z_ue, z_un]
    exact ⟨q.1, q.2.1, hp, q.2.2.2⟩
  · by_cases e : j = 2
    · subst e
      rw [z_ue rfl, z_ue rfl]
    · rw [z_un (by omega), z_un (by omega)]
      exact h.2.1.2.2.2.2 i hi j hj
/-- a row with one cell changed -/
theorem z_w21 {Vr : Nat → Nat → Int32} (row : ∀ k, k < 251 → Vr 21 k = zI (g k)) {c : Nat} {v : Int} : ∀ k, k < 251 → w2 Vr 21 c (zI v) 21 k = zI (zu g c v k) := fun k hk => by
  by_cases e : k = c
  · rw [e, z_w2e, z_ue rfl]
  · rw [z_w2k e, z_un e]
    exact row k hk
theorem z_m_setPriority (H : z_RW b W) {a n : Int} (ha : zR a) (hn : zR n) : z_AG (f_L_setPriority W (zI a) (zI n)) (fun W1 => f_X10_setPriority W1 (zI a) (zI n)) (z_RW b) := by
  obtain ⟨s, g, h⟩ := z_Q_RW H
  obtain ⟨h0, hg, pi⟩ := id h
  obtain ⟨c0, c1, c2, c3, c4⟩ := pi.1.1
  by_cases va : 0 ≤ a ∧ a < s 4
  · obtain ⟨i, rfl⟩ : ∃ m : Nat, a = m := ⟨a.toNat, by omega⟩
    have hi : (i : Int) < s 4 := by omega
    by_cases v : 1 ≤ n ∧ n ≤ 9
    · obtain ⟨Wa, r1, r2, r3⟩ := z_RW_rem H h0 hg pi
      have wa0 : Wa 0 = zV s := by rw [r2 0 (by omega) (by omega), h0]
      obtain ⟨U, hU, u21, v1, v2, v3, v4, v5, v6⟩ := z_U0 r2 (zu s (143 + 9 * i + 2) n) (zI (s (143 + 9 * i + 2)))
      obtain ⟨Vr, q1, q2, q3, q4⟩ := r3 (zu s (143 + 9 * i + 2) n) (z_th U 0) v1 v2 v3
      have row : ∀ k, k < 251 → Vr 21 k = zI (g k) := fun k hk => by rw [q2 21 (by omega) (by omega), v4]; exact hg k hk
      have cell := row (143 + 9 * i + 2) (by omega)
      rw [pi.2.1.2.2.2.2 i hi 2 (by omega)] at cell
      have nn := z_Gnp (W := U) (s := s) (by rw [u21, hg _ (by omega), pi.2.1.1 _ (by omega)]) c4 ha
      refine ⟨0, zI (s (143 + 9 * i + 2)), U, w2 Vr 21 (143 + 9 * i + 2) (zI n), ?_, ?_, ?_, by omega, by omega, fun _ => ?_, q4 _ (zu g (143 + 9 * i + 2) n) b (by omega) (fun u u1 _ _ => z_w2u u1) (z_w21 row) (z_PI_pr pi hi v)⟩
      · unfold f_L_setPriority f_X9_setPriority
        rw [z_Cpl h0 c4 ha, if_pos va, z_btr, z_l1, z_l9, z_Crg hn (by unfold zR; omega) (by unfold zR; omega), if_pos v, z_btr, r1, h0]
        simp (disch := omega) only [z_lit, z_n, z_add, z_sub, z_mul, z_neg, z_lt1, z_lt0, z_le1, z_le0, z_eq1, z_eq0, z_10, ↓reduceIte, z_v, z_upd, z_ue, z_un, z_ixn, z_ixo, z_ix0, z_ix1, z_ix2, z_ix3, z_ix4, z_ix5, z_ix6, Int.reduceToNat, z_inr, z_gd, ↓z_bnd, ↓z_jn, z_bdc, z_bd2, z_opn, z_ops, z_z01, z_Bt, z_Bf]
        rw [z_w2s wa0, z_b2r, hU]
      · show f_X10_setPriority U (zI i) (zI n) = _
        unfold f_X10_setPriority f_X10_lay
        rw [z_l0, z_l1, z_l9, nn, z_o0 (by omega), z_bd2, if_pos rfl, z_Go0 hn (by unfold zR; omega) (by unfold zR; omega) z_the v, z_bd2, if_pos rfl, z_ofP, z_bdc]
        simp (disch := omega) only [z_lit, z_n, z_add, z_sub, z_mul, z_neg, z_lt1, z_lt0, z_le1, z_le0, z_eq1, z_eq0, z_10, ↓reduceIte, z_v, z_upd, z_ue, z_un, z_ixn, z_ixo, z_ix0, z_ix1, z_ix2, z_ix3, z_ix4, z_ix5, z_ix6, Int.reduceToNat, z_inr, z_gd, ↓z_bnd, ↓z_jn, z_bdc, z_bd2, z_opn, z_ops, z_z01, z_Bt, z_Bf, q1, cell]
      · rw [z_w2u (by omega), q3 2 (by omega)]
        exact z_the
      · rw [z_w2u (by omega), q2 31 (by omega) (by omega), v6]
    · refine ⟨2, zI 0, W, z_th W 2, ?_, ?_, z_the, by omega, by omega, fun q => absurd q (by omega), z_RW_EQ H z_EQ_th⟩
      · unfold f_L_setPriority f_X9_setPriority
        rw [z_Cpl h0 c4 ha, if_pos va, z_btr, z_l1, z_l9, z_Crg hn (by unfold zR; omega) (by unfold zR; omega), if_neg v, z_btl, z_b2l, if_neg (by decide), if_pos rfl, z_l2]
      · show f_X10_setPriority W (zI _) (zI n) = _
        unfold f_X10_setPriority
        rw [z_l0, z_l1, z_l9, z_Qnp h ha, z_o0 (by omega), z_bd2, if_pos rfl, z_Go1 hn (by unfold zR; omega) (by unfold zR; omega) z_the v, z_thth]
        simp (disch := omega) only [z_lit, z_n, z_add, z_sub, z_mul, z_neg, z_lt1, z_lt0, z_le1, z_le0, z_eq1, z_eq0, z_10, ↓reduceIte, z_v, z_upd, z_ue, z_un, z_ixn, z_ixo, z_ix0, z_ix1, z_ix2, z_ix3, z_ix4, z_ix5, z_ix6, Int.reduceToNat, z_inr, z_gd, ↓z_bnd, ↓z_jn, z_bdc, z_bd2, z_opn, z_ops, z_z01, z_Bt, z_Bf]
  · refine ⟨1, zI 0, W, z_th W 1, ?_, ?_, z_the, by omega, by omega, fun q => absurd q (by omega), z_RW_EQ H z_EQ_th⟩
    · unfold f_L_setPriority f_X9_setPriority
      rw [z_Cpl h0 c4 ha, if_neg va, z_btl, z_b2l, if_pos rfl, z_l1]
    · show f_X10_setPriority W (zI a) (zI n) = _
      unfold f_X10_setPriority
      rw [z_l0, z_Qnp h ha, z_o1 (by omega)]
      simp (disch := omega) only [z_lit, z_n, z_add, z_sub, z_mul, z_neg, z_lt1, z_lt0, z_le1, z_le0, z_eq1, z_eq0, z_10, ↓reduceIte, z_v, z_upd, z_ue, z_un, z_ixn, z_ixo, z_ix0, z_ix1, z_ix2, z_ix3, z_ix4, z_ix5, z_ix6, Int.reduceToNat, z_inr, z_gd, ↓z_bnd, ↓z_jn, z_bdc, z_bd2, z_opn, z_ops, z_z01, z_Bt, z_Bf]
theorem z_m_setInspection (H : z_RW b W) {a n : Int} (ha : zR a) (hn : zR n) : z_AG (f_L_setInspection W (zI a) (zI n)) (fun W1 => f_X10_setInspection W1 (zI a) (zI n)) (z_RW b) := by
  obtain ⟨s, g, h⟩ := z_Q_RW H
  obtain ⟨h0, hg, pi⟩ := id h
  obtain ⟨c0, c1, c2, c3, c4⟩ := pi.1.1
  by_cases va : 0 ≤ a ∧ a < s 1
  · obtain ⟨i, rfl⟩ : ∃ m : Nat, a = m := ⟨a.toNat, by omega⟩
    have hi : (i : Int) < s 1 := by omega
    by_cases v : 0 ≤ n ∧ n ≤ 9
    · obtain ⟨Wa, r1, r2, r3⟩ := z_RW_rem H h0 hg pi
      have wa0 : Wa 0 = zV s := by rw [r2 0 (by omega) (by omega), h0]
      obtain ⟨U, hU, u21, v1, v2, v3, v4, v5, v6⟩ := z_U0 r2 (zu s (7 + 4 * i + 2) n) (zI (s (7 + 4 * i + 2)))
      obtain ⟨Vr, q1, q2, q3, q4⟩ := r3 (zu s (7 + 4 * i + 2) n) (z_th U 0) v1 v2 v3
      have row : ∀ k, k < 251 → Vr 21 k = zI (g k) := fun k hk => by rw [q2 21 (by omega) (by omega), v4]; exact hg k hk
      have cell := row (7 + 4 * i + 2) (by omega)
      rw [(pi.2.1.2.1 i hi).2.2] at cell
      have nn := z_Gns (W := U) (s := s) (by rw [u21, hg _ (by omega), pi.2.1.1 _ (by omega)]) c1 ha
      refine ⟨0, zI (s (7 + 4 * i + 2)), U, w2 Vr 21 (7 + 4 * i + 2) (zI n), ?_, ?_, ?_, by omega, by omega, fun _ => ?_, q4 _ (zu g (7 + 4 * i + 2) n) b (by omega) (fun u u1 _ _ => z_w2u u1) (z_w21 row) (z_PI_in pi hi v)⟩
      · unfold f_L_setInspection f_X9_setInspection
        rw [z_Cst h0 c1 ha, if_pos va, z_btr, z_l0, z_l9, z_Crg hn (by unfold zR; omega) (by unfold zR; omega), if_pos v, z_btr, r1, h0]
        simp (disch := omega) only [z_lit, z_n, z_add, z_sub, z_mul, z_neg, z_lt1, z_lt0, z_le1, z_le0, z_eq1, z_eq0, z_10, ↓reduceIte, z_v, z_upd, z_ue, z_un, z_ixn, z_ixo, z_ix0, z_ix1, z_ix2, z_ix3, z_ix4, z_ix5, z_ix6, Int.reduceToNat, z_inr, z_gd, ↓z_bnd, ↓z_jn, z_bdc, z_bd2, z_opn, z_ops, z_z01, z_Bt, z_Bf]
        rw [z_w2s wa0, z_b2r, hU]
      · show f_X10_setInspection U (zI i) (zI n) = _
        unfold f_X10_setInspection f_X10_lay
        rw [z_l0, z_l9, nn, z_o0 (by omega), z_bd2, if_pos rfl, z_Go0 hn (by unfold zR; omega) (by unfold zR; omega) z_the v, z_bd2, if_pos rfl, z_ofS, z_bdc]
        simp (disch := omega) only [z_lit, z_n, z_add, z_sub, z_mul, z_neg, z_lt1, z_lt0, z_le1, z_le0, z_eq1, z_eq0, z_10, ↓reduceIte, z_v, z_upd, z_ue, z_un, z_ixn, z_ixo, z_ix0, z_ix1, z_ix2, z_ix3, z_ix4, z_ix5, z_ix6, Int.reduceToNat, z_inr, z_gd, ↓z_bnd, ↓z_jn, z_bdc, z_bd2, z_opn, z_ops, z_z01, z_Bt, z_Bf, q1, cell]
      · rw [z_w2u (by omega), q3 2 (by omega)]
        exact z_the
      · rw [z_w2u (by omega), q2 31 (by omega) (by omega), v6]
    · refine ⟨2, zI 0, W, z_th W 2, ?_, ?_, z_the, by omega, by omega, fun q => absurd q (by omega), z_RW_EQ H z_EQ_th⟩
      · unfold f_L_setInspection f_X9_setInspection
        rw [z_Cst h0 c1 ha, if_pos va, z_btr, z_l0, z_l9, z_Crg hn (by unfold zR; omega) (by unfold zR; omega), if_neg v, z_btl, z_b2l, if_neg (by decide), if_pos rfl, z_l2]
      · show f_X10_setInspection W (zI _) (zI n) = _
        unfold f_X10_setInspection
        rw [z_l0, z_l9, z_Qns h ha, z_o0 (by omega), z_bd2, if_pos rfl, z_Go1 hn (by unfold zR; omega) (by unfold zR; omega) z_the v, z_thth]
        simp (disch := omega) only [z_lit, z_n, z_add, z_sub, z_mul, z_neg, z_lt1, z_lt0, z_le1, z_le0, z_eq1, z_eq0, z_10, ↓reduceIte, z_v, z_upd, z_ue, z_un, z_ixn, z_ixo, z_ix0, z_ix1, z_ix2, z_ix3, z_ix4, z_ix5, z_ix6, Int.reduceToNat, z_inr, z_gd, ↓z_bnd, ↓z_jn, z_bdc, z_bd2, z_opn, z_ops, z_z01, z_Bt, z_Bf]
  · refine ⟨1, zI 0, W, z_th W 1, ?_, ?_, z_the, by omega, by omega, fun q => absurd q (by omega), z_RW_EQ H z_EQ_th⟩
    · unfold f_L_setInspection f_X9_setInspection
      rw [z_Cst h0 c1 ha, if_neg va, z_btl, z_b2l, if_pos rfl, z_l1]
    · show f_X10_setInspection W (zI a) (zI n) = _
      unfold f_X10_setInspection
      rw [z_l0, z_Qns h ha, z_o1 (by omega)]
      simp (disch := omega) only [z_lit, z_n, z_add, z_sub, z_mul, z_neg, z_lt1, z_lt0, z_le1, z_le0, z_eq1, z_eq0, z_10, ↓reduceIte, z_v, z_upd, z_ue, z_un, z_ixn, z_ixo, z_ix0, z_ix1, z_ix2, z_ix3, z_ix4, z_ix5, z_ix6, Int.reduceToNat, z_inr, z_gd, ↓z_bnd, ↓z_jn, z_bdc, z_bd2, z_opn, z_ops, z_z01, z_Bt, z_Bf]
end Chh
