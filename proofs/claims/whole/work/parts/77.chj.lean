section Chj
variable {W W' V V' : Nat → Nat → Int32} {b c : Int} {s s' g g' : Nat → Int}
theorem z_m_withdraw (hB : b ≤ 100000000) (H : z_RW b W) {a : Int} (ha : zR a) : z_AG (f_L_withdraw W (zI a)) (fun W1 => f_X10_withdraw W1 (zI a)) (z_RW b) := by
  obtain ⟨s, g, h⟩ := z_Q_RW H
  obtain ⟨h0, hg, pi⟩ := id h
  obtain ⟨c0, c1, c2, c3, c4⟩ := pi.1.1
  by_cases va : 0 ≤ a ∧ a < s 4
  · obtain ⟨i, rfl⟩ : ∃ m : Nat, a = m := ⟨a.toNat, by omega⟩
    have hi : (i : Int) < s 4 := by omega
    obtain ⟨p0, p1, p2, p3, p4, p5, p7, p8, p9⟩ := pi.1.2.2.2.2.2.1 i hi
    have w3 : W 0 (143 + 9 * i + 3) = zI (s (143 + 9 * i + 3)) := by rw [h0]; rfl
    have G : ∀ j, j < 9 → g (143 + 9 * i + j) = s (143 + 9 * i + j) := fun j hj => pi.2.1.2.2.2.2 i hi j hj
    have G0 : g (143 + 9 * i) = s (143 + 9 * i) := G 0 (by omega)
    by_cases v : s (143 + 9 * i + 3) = -1
    · have r3 : z_th W 0 21 (143 + 9 * i + 3) = zI (-1) := by rw [z_thu (by omega), hg _ (by omega), G 3 (by omega), v]
      refine ⟨2, zI 0, W, z_th W 2, ?_, ?_, z_the, by omega, by omega, fun q => absurd q (by omega), z_RW_EQ H z_EQ_th⟩
      · unfold f_L_withdraw f_X9_withdraw
        rw [z_Cpl h0 c4 ha, if_pos va, z_btr]
        simp (disch := omega) only [z_lit, z_n, z_add, z_sub, z_mul, z_neg, z_lt1, z_lt0, z_le1, z_le0, z_eq1, z_eq0, z_10, ↓reduceIte, z_v, z_upd, z_ue, z_un, z_ixn, z_ixo, z_ix0, z_ix1, z_ix2, z_ix3, z_ix4, z_ix5, z_ix6, Int.reduceToNat, z_inr, z_gd, ↓z_bnd, ↓z_jn, z_bdc, z_bd2, z_opn, z_ops, z_z01, z_Bt, z_Bf, w3, v, z_b2l, String.reduceEq]
      · show f_X10_withdraw W (zI i) = _
        unfold f_X10_withdraw
        rw [z_l0, z_Qnp h ha, z_o0 (by omega), z_bd2, if_pos rfl, z_ofP, z_bdc]
        simp (disch := omega) only [z_lit, z_n, z_add, z_sub, z_mul, z_neg, z_lt1, z_lt0, z_le1, z_le0, z_eq1, z_eq0, z_10, ↓reduceIte, z_v, z_upd, z_ue, z_un, z_ixn, z_ixo, z_ix0, z_ix1, z_ix2, z_ix3, z_ix4, z_ix5, z_ix6, Int.reduceToNat, z_inr, z_gd, ↓z_bnd, ↓z_jn, z_bdc, z_bd2, z_opn, z_ops, z_z01, z_Bt, z_Bf, r3]
        rw [z_Gr1 z_the (by omega), z_thth]
        simp (disch := omega) only [z_lit, z_n, z_add, z_sub, z_mul, z_neg, z_lt1, z_lt0, z_le1, z_le0, z_eq1, z_eq0, z_10, ↓reduceIte, z_v, z_upd, z_ue, z_un, z_ixn, z_ixo, z_ix0, z_ix1, z_ix2, z_ix3, z_ix4, z_ix5, z_ix6, Int.reduceToNat, z_inr, z_gd, ↓z_bnd, ↓z_jn, z_bdc, z_bd2, z_opn, z_ops, z_z01, z_Bt, z_Bf]
    · obtain ⟨Wa, r1, r2, r3⟩ := z_RW_rem H h0 hg pi
      have wa0 : Wa 0 = zV s := by rw [r2 0 (by omega) (by omega), h0]
      have p9' : s (143 + 9 * i + 4) = -1 ∧ s (143 + 9 * i + 8) = -1 ∧ s (143 + 9 * i + 5) = -1 := by
        rcases p9 with q | q | q
        · exact ⟨q.2.1, q.2.2.1, q.2.2.2⟩
        · exact absurd q.1 v
        · exact absurd q.1 v
      by_cases e : s (143 + 9 * i + 3) = s (143 + 9 * i)
      · -- delivered
        obtain ⟨t, ht⟩ : ∃ t, t = zu (zu (zu (zu s (143 + 9 * i + 3) (-1)) (143 + 9 * i + 4) (-1)) (143 + 9 * i + 5) (-1)) (143 + 9 * i + 8) (s 0) := ⟨_, rfl⟩
        obtain ⟨u, hu⟩ : ∃ u, u = zu (zu g (143 + 9 * i + 3) (-1)) (143 + 9 * i + 8) (s 0) := ⟨_, rfl⟩
        have pi' : z_PI b t u := by
          refine z_PI_p pi hi (fun k hk => by rw [ht]; simp (disch := omega) only [z_un]) (fun k _ hk => by rw [hu]; simp (disch := omega) only [z_un]) ?_ (fun j hj => ?_)
          · unfold z_pcl
            rw [ht]
            simp (disch := omega) only [z_ue, z_un]
            exact ⟨p0, p1, p2, by omega, by omega, by omega, p7, by omega, Or.inr (Or.inr ⟨trivial, trivial, by omega⟩)⟩
          · rw [ht, hu]
            rcases z_j9 hj with q | q | q | q | q | q | q | q | q <;> subst q <;> simp (disch := omega) only [z_ue, z_un]
            · exact G 0 (by omega)
            · exact G 1 (by omega)
            · exact G 2 (by omega)
            · rw [G 4 (by omega), p9'.1]
            · rw [G 5 (by omega), p9'.2.2]
            · exact G 6 (by omega)
            · exact G 7 (by omega)
        obtain ⟨U, hU, u21, v1, v2, v3, v4, v5, v6⟩ := z_U0 r2 t (zI (-1))
        obtain ⟨Vr, q1, q2, q3, q4⟩ := r3 t (z_th U 0) v1 v2 v3
        have row : ∀ k, k < 251 → Vr 21 k = zI (g k) := fun k hk => by rw [q2 21 (by omega) (by omega), v4]; exact hg k hk
        have x3 := row (143 + 9 * i + 3) (by omega)
        have x0 := row (143 + 9 * i) (by omega)
        have xc := row 0 (by omega)
        rw [G 3 (by omega)] at x3
        rw [G0] at x0
        rw [pi.2.1.1 0 (by omega)] at xc
        have u3 : z_th U 0 21 (143 + 9 * i + 3) = zI (s (143 + 9 * i + 3)) := by rw [v4, hg _ (by omega), G 3 (by omega)]
        have nn := z_Gnp (W := U) (s := s) (by rw [u21, hg _ (by omega), pi.2.1.1 _ (by omega)]) c4 ha
        have de : f_X2_isDelivered (zV t) i = some (zI 1) := by
          have t8 : t (143 + 9 * i + 8) = s 0 := by rw [ht]; simp (disch := omega) only [z_ue]
          unfold f_X2_isDelivered
          simp (disch := omega) only [z_lit, z_n, z_add, z_sub, z_mul, z_neg, z_lt1, z_lt0, z_le1, z_le0, z_eq1, z_eq0, z_10, ↓reduceIte, z_v, z_upd, z_ue, z_un, z_ixn, z_ixo, z_ix0, z_ix1, z_ix2, z_ix3, z_ix4, z_ix5, z_ix6, Int.reduceToNat, z_inr, z_gd, ↓z_bnd, ↓z_jn, z_bdc, z_bd2, z_opn, z_ops, z_z01, z_Bt, z_Bf, t8]
        refine ⟨0, zI (-1), U, w2 (w2 Vr 21 (143 + 9 * i + 3) (zI (-1))) 21 (143 + 9 * i + 8) (zI (s 0)), ?_, ?_, ?_, by omega, by omega, fun _ => ?_, q4 _ u b (by omega) (fun w u1 _ _ => by rw [z_w2u u1, z_w2u u1]) (by rw [hu]; exact z_w21 (z_w21 row)) pi'⟩
        · unfold f_L_withdraw f_X9_withdraw f_X2_returnToSender f_X2_deliver
          rw [z_Cpl h0 c4 ha, if_pos va, z_btr]
          simp (disch := omega) only [z_lit, z_n, z_add, z_sub, z_mul, z_neg, z_lt1, z_lt0, z_le1, z_le0, z_eq1, z_eq0, z_10, ↓reduceIte, z_v, z_upd, z_ue, z_un, z_ixn, z_ixo, z_ix0, z_ix1, z_ix2, z_ix3, z_ix4, z_ix5, z_ix6, Int.reduceToNat, z_inr, z_gd, ↓z_bnd, ↓z_jn, z_bdc, z_bd2, z_opn, z_ops, z_z01, z_Bt, z_Bf, w3, r1, wa0]
          rw [← ht, z_sUe, de]
          simp (disch := omega) only [z_lit, z_n, z_add, z_sub, z_mul, z_neg, z_lt1, z_lt0, z_le1, z_le0, z_eq1, z_eq0, z_10, ↓reduceIte, z_v, z_upd, z_ue, z_un, z_ixn, z_ixo, z_ix0, z_ix1, z_ix2, z_ix3, z_ix4, z_ix5, z_ix6, Int.reduceToNat, z_inr, z_gd, ↓z_bnd, ↓z_jn, z_bdc, z_bd2, z_opn, z_ops, z_z01, z_Bt, z_Bf, z_b2r]
          rw [hU]
        · show f_X10_withdraw U (zI i) = _
          unfold f_X10_withdraw
          rw [z_l0, nn, z_o0 (by omega), z_bd2, if_pos rfl, z_ofP, z_bdc]
          simp (disch := omega) only [z_lit, z_n, z_add, z_sub, z_mul, z_neg, z_lt1, z_lt0, z_le1, z_le0, z_eq1, z_eq0, z_10, ↓reduceIte, z_v, z_upd, z_ue, z_un, z_ixn, z_ixo, z_ix0, z_ix1, z_ix2, z_ix3, z_ix4, z_ix5, z_ix6, Int.reduceToNat, z_inr, z_gd, ↓z_bnd, ↓z_jn, z_bdc, z_bd2, z_opn, z_ops, z_z01, z_Bt, z_Bf, u3]
          rw [z_Gr0 z_the]
          simp (disch := omega) only [z_lit, z_n, z_add, z_sub, z_mul, z_neg, z_lt1, z_lt0, z_le1, z_le0, z_eq1, z_eq0, z_10, ↓reduceIte, z_v, z_upd, z_ue, z_un, z_ixn, z_ixo, z_ix0, z_ix1, z_ix2, z_ix3, z_ix4, z_ix5, z_ix6, Int.reduceToNat, z_inr, z_gd, ↓z_bnd, ↓z_jn, z_bdc, z_bd2, z_opn, z_ops, z_z01, z_Bt, z_Bf, q1, z_ofP, Nat.add_zero, x3, x0, z_w2k, xc]
        · rw [z_w2u (by omega), z_w2u (by omega), q3 2 (by omega)]
          exact z_the
        · rw [z_w2u (by omega), z_w2u (by omega), q2 31 (by omega) (by omega), v6]
      · obtain ⟨t, ht⟩ : ∃ t, t = zu (zu (zu s (143 + 9 * i + 1) (s (143 + 9 * i))) (143 + 9 * i) (s (143 + 9 * i + 3))) (143 + 9 * i + 7) 0 := ⟨_, rfl⟩
        obtain ⟨u, hu⟩ : ∃ u, u = zu (zu (zu g (143 + 9 * i + 1) (s (143 + 9 * i))) (143 + 9 * i) (s (143 + 9 * i + 3))) (143 + 9 * i + 7) 0 := ⟨_, rfl⟩
        have pi' : z_PI b t u := by
          refine z_PI_p pi hi (fun k hk => by rw [ht]; simp (disch := omega) only [z_un]) (fun k _ hk => by rw [hu]; simp (disch := omega) only [z_un]) ?_ (fun j hj => ?_)
          · unfold z_pcl
            rw [ht]
            simp (disch := omega) only [z_ue, z_un]
            exact ⟨by omega, p0, p2, p3, p4, p5, by omega, p8, p9⟩
          · rw [ht, hu]
            rcases z_j9 hj with q | q | q | q | q | q | q | q | q <;> subst q <;> simp (disch := omega) only [z_ue, z_un]
            · exact G 2 (by omega)
            · exact G 3 (by omega)
            · exact G 4 (by omega)
            · exact G 5 (by omega)
            · exact G 6 (by omega)
            · exact G 8 (by omega)
        obtain ⟨U, hU, u21, v1, v2, v3, v4, v5, v6⟩ := z_U0 r2 t (zI (s (143 + 9 * i)))
        obtain ⟨Vr, q1, q2, q3, q4⟩ := r3 t (z_th U 0) v1 v2 v3
        have row : ∀ k, k < 251 → Vr 21 k = zI (g k) := fun k hk => by rw [q2 21 (by omega) (by omega), v4]; exact hg k hk
        have x3 := row (143 + 9 * i + 3) (by omega)
        have x0 := row (143 + 9 * i) (by omega)
        rw [G 3 (by omega)] at x3
        rw [G0] at x0
        have u3 : z_th U 0 21 (143 + 9 * i + 3) = zI (s (143 + 9 * i + 3)) := by rw [v4, hg _ (by omega), G 3 (by omega)]
        have nn := z_Gnp (W := U) (s := s) (by rw [u21, hg _ (by omega), pi.2.1.1 _ (by omega)]) c4 ha
        have t1 : t (143 + 9 * i + 1) = s (143 + 9 * i) := by rw [ht]; simp (disch := omega) only [z_ue, z_un]
        have de : f_X2_isDelivered (zV t) i = some (zI 0) := by
          have t8 : t (143 + 9 * i + 8) = -1 := by rw [ht]; simp (disch := omega) only [z_un]; exact p9'.2.1
          unfold f_X2_isDelivered
          simp (disch := omega) only [z_lit, z_n, z_add, z_sub, z_mul, z_neg, z_lt1, z_lt0, z_le1, z_le0, z_eq1, z_eq0, z_10, ↓reduceIte, z_v, z_upd, z_ue, z_un, z_ixn, z_ixo, z_ix0, z_ix1, z_ix2, z_ix3, z_ix4, z_ix5, z_ix6, Int.reduceToNat, z_inr, z_gd, ↓z_bnd, ↓z_jn, z_bdc, z_bd2, z_opn, z_ops, z_z01, z_Bt, z_Bf, t8]
        refine ⟨0, zI (s (143 + 9 * i)), U, w2 (w2 (w2 Vr 21 (143 + 9 * i + 1) (zI (s (143 + 9 * i)))) 21 (143 + 9 * i) (zI (s (143 + 9 * i + 3)))) 21 (143 + 9 * i + 7) (zI 0), ?_, ?_, ?_, by omega, by omega, fun _ => ?_, q4 _ u b (by omega) (fun w u1 _ _ => by rw [z_w2u u1, z_w2u u1, z_w2u u1]) (by rw [hu]; exact z_w21 (z_w21 (z_w21 row))) pi'⟩
        · unfold f_L_withdraw f_X9_withdraw f_X2_returnToSender
          rw [z_Cpl h0 c4 ha, if_pos va, z_btr]
          simp (disch := omega) only [z_lit, z_n, z_add, z_sub, z_mul, z_neg, z_lt1, z_lt0, z_le1, z_le0, z_eq1, z_eq0, z_10, ↓reduceIte, z_v, z_upd, z_ue, z_un, z_ixn, z_ixo, z_ix0, z_ix1, z_ix2, z_ix3, z_ix4, z_ix5, z_ix6, Int.reduceToNat, z_inr, z_gd, ↓z_bnd, ↓z_jn, z_bdc, z_bd2, z_opn, z_ops, z_z01, z_Bt, z_Bf, w3, r1, wa0]
          rw [← ht, z_sUe, de]
          simp (disch := omega) only [z_lit, z_n, z_add, z_sub, z_mul, z_neg, z_lt1, z_lt0, z_le1, z_le0, z_eq1, z_eq0, z_10, ↓reduceIte, z_v, z_upd, z_ue, z_un, z_ixn, z_ixo, z_ix0, z_ix1, z_ix2, z_ix3, z_ix4, z_ix5, z_ix6, Int.reduceToNat, z_inr, z_gd, ↓z_bnd, ↓z_jn, z_bdc, z_bd2, z_opn, z_ops, z_z01, z_Bt, z_Bf, z_b2r, t1]
          rw [hU]
        · show f_X10_withdraw U (zI i) = _
          unfold f_X10_withdraw
          rw [z_l0, nn, z_o0 (by omega), z_bd2, if_pos rfl, z_ofP, z_bdc]
          simp (disch := omega) only [z_lit, z_n, z_add, z_sub, z_mul, z_neg, z_lt1, z_lt0, z_le1, z_le0, z_eq1, z_eq0, z_10, ↓reduceIte, z_v, z_upd, z_ue, z_un, z_ixn, z_ixo, z_ix0, z_ix1, z_ix2, z_ix3, z_ix4, z_ix5, z_ix6, Int.reduceToNat, z_inr, z_gd, ↓z_bnd, ↓z_jn, z_bdc, z_bd2, z_opn, z_ops, z_z01, z_Bt, z_Bf, u3]
          rw [z_Gr0 z_the]
          simp (disch := omega) only [z_lit, z_n, z_add, z_sub, z_mul, z_neg, z_lt1, z_lt0, z_le1, z_le0, z_eq1, z_eq0, z_10, ↓reduceIte, z_v, z_upd, z_ue, z_un, z_ixn, z_ixo, z_ix0, z_ix1, z_ix2, z_ix3, z_ix4, z_ix5, z_ix6, Int.reduceToNat, z_inr, z_gd, ↓z_bnd, ↓z_jn, z_bdc, z_bd2, z_opn, z_ops, z_z01, z_Bt, z_Bf, q1, z_ofP, Nat.add_zero, x3, x0, z_w2k, z_w2e]
        · rw [z_w2u (by omega), z_w2u (by omega), z_w2u (by omega), q3 2 (by omega)]
          exact z_the
        · rw [z_w2u (by omega), z_w2u (by omega), z_w2u (by omega), q2 31 (by omega) (by omega), v6]
  · refine ⟨1, zI 0, W, z_th W 1, ?_, ?_, z_the, by omega, by omega, fun q => absurd q (by omega), z_RW_EQ H z_EQ_th⟩
    · unfold f_L_withdraw f_X9_withdraw
      rw [z_Cpl h0 c4 ha, if_neg va, z_btl, z_b2l, if_pos rfl, z_l1]
    · show f_X10_withdraw W (zI a) = _
      unfold f_X10_withdraw
      rw [z_l0, z_Qnp h ha, z_o1 (by omega)]
      simp (disch := omega) only [z_lit, z_n, z_add, z_sub, z_mul, z_neg, z_lt1, z_lt0, z_le1, z_le0, z_eq1, z_eq0, z_10, ↓reduceIte, z_v, z_upd, z_ue, z_un, z_ixn, z_ixo, z_ix0, z_ix1, z_ix2, z_ix3, z_ix4, z_ix5, z_ix6, Int.reduceToNat, z_inr, z_gd, ↓z_bnd, ↓z_jn, z_bdc, z_bd2, z_opn, z_ops, z_z01, z_Bt, z_Bf]
theorem z_Csl {a : Int} (ha : zR a) : f_X9_checkSlot (zI a) = if 0 ≤ a ∧ a < 2 then some (.inr ()) else some (.inl "java/lang/IndexOutOfBoundsException") := by
  unfold f_X9_checkSlot
  rw [z_Ck (n := 2) (z_lit 2) (by omega) ha]
theorem z_nz1 : nz (zI 1) = zI 1 := by decide
theorem z_m_save (H : z_RW b W) {a : Int} (ha : zR a) : z_AG (f_L_save W (zI a)) (fun W1 => f_X10_save W1 (zI a)) (z_RW b) := by
  obtain ⟨s, g, h⟩ := z_Q_RW H
  obtain ⟨h0, hg, pi⟩ := id h
  obtain ⟨c0, c1, c2, c3, c4⟩ := pi.1.1
  by_cases va : 0 ≤ a ∧ a < 2
  · obtain ⟨i, rfl⟩ : ∃ m : Nat, a = m := ⟨a.toNat, by omega⟩
    have hi : i < 2 := by omega
    obtain ⟨s0, k1, k2, k3⟩ := z_copy (W (11 + i)) pi
    obtain ⟨U, hU⟩ : ∃ U, U = w2 (w2 (setU W (11 + i) (zV s0)) 20 i (zI 1)) 31 0 (zI (s 0)) := ⟨_, rfl⟩
    have uo : ∀ u, u ≠ 11 + i → u ≠ 20 → u ≠ 31 → U u = W u := fun u a1 a2 a3 => by rw [hU, z_w2u a3, z_w2u a2, z_sUu a1]
    have row : f_X10_copyRow (z_th U 0) 21 (zI 0) 25 (zI (251 * (i : Int))) = some (setU (z_th U 0) 25 (z_rw (z_th U 0 25) (z_th U 0 21) 0 (251 * i) 251)) := z_crow (W := z_th U 0) (u := 21) (v := 25) (a := 0) (c := 251 * i) (by omega) (by rw [z_LN21]; omega) (by rw [z_LN25]; omega)
    obtain ⟨V, hV⟩ : ∃ V, V = w2 (setU (z_th U 0) 25 (z_rw (W 25) (W 21) 0 (251 * i) 251)) 26 i (zI 1) := ⟨_, rfl⟩
    have t25 : z_th U 0 25 = W 25 := by rw [z_thu (by omega), uo 25 (by omega) (by omega) (by omega)]
    have t21 : z_th U 0 21 = W 21 := by rw [z_thu (by omega), uo 21 (by omega) (by omega) (by omega)]
    rw [t25, t21] at row
    have vo : ∀ u, u ≠ 11 + i → u ≠ 20 → u ≠ 31 → u ≠ 25 → u ≠ 26 → u ≠ 30 → V u = W u := fun u a1 a2 a3 a4 a5 a6 => by rw [hV, z_w2u a5, z_sUu a4, z_thu a6, uo u a1 a2 a3]
    have v30 : ∀ k, k ≠ 2 → V 30 k = W 30 k := fun k hk => by rw [hV, z_w2u (by omega), z_sUu (by omega), z_thk hk, uo 30 (by omega) (by omega) (by omega)]
    have v25 : ∀ j k, k < 251 → j < 2 → V 25 (251 * j + k) = if j = i then W 21 k else W 25 (251 * j + k) := fun j k hk hj => by
      rw [hV, z_w2u (by omega), z_sUe]
      unfold z_rw
      by_cases q : j = i
      · rw [if_pos q, if_pos (by omega), show 0 + (251 * j + k - 251 * i) = k by omega]
      · rw [if_neg q, if_neg (by omega)]
    have v210 : V 21 0 = zI (s 0) := by rw [vo 21 (by omega) (by omega) (by omega) (by omega) (by omega) (by omega), hg 0 (by omega), pi.2.1.1 0 (by omega)]
    refine ⟨0, zI (s 0), U, V, ?_, ?_, ?_, by omega, by omega, fun _ => ?_, ?_⟩
    · unfold f_L_save f_X9_save
      rw [z_Csl ha, if_pos va, z_btr, h0]
      simp (disch := omega) only [z_lit, z_n, z_add, z_sub, z_mul, z_neg, z_lt1, z_lt0, z_le1, z_le0, z_eq1, z_eq0, z_10, ↓reduceIte, z_v, z_upd, z_ue, z_un, z_ixn, z_ixo, z_ix0, z_ix1, z_ix2, z_ix3, z_ix4, z_ix5, z_ix6, Int.reduceToNat, z_inr, z_gd, ↓z_bnd, ↓z_jn, z_bdc, z_bd2, z_opn, z_ops, z_z01, z_Bt, z_Bf, k1, z_nz1, z_w2u, z_sUu, h0, z_b2r]
      rw [hU]
    · show f_X10_save U (zI i) = _
      have nn := z_Gnn (W := U) (x := (i : Int)) (l := 0) (h := 1) ha (by unfold zR; omega) (by unfold zR; omega)
      unfold f_X10_save
      rw [z_l0, z_l1, nn, z_o0 (by omega), z_bd2, if_pos rfl, show (251 : Int32) = zI 251 from z_lit 251, z_mul, row, z_bdc]
      simp (disch := omega) only [z_lit, z_n, z_add, z_sub, z_mul, z_neg, z_lt1, z_lt0, z_le1, z_le0, z_eq1, z_eq0, z_10, ↓reduceIte, z_v, z_upd, z_ue, z_un, z_ixn, z_ixo, z_ix0, z_ix1, z_ix2, z_ix3, z_ix4, z_ix5, z_ix6, Int.reduceToNat, z_inr, z_gd, ↓z_bnd, ↓z_jn, z_bdc, z_bd2, z_opn, z_ops, z_z01, z_Bt, z_Bf, z_nz1]
      rw [← hV, v210]
    · rw [hV, z_w2u (by omega), z_sUu (by omega)]
      exact z_the
    · rw [hV, z_w2u (by omega), z_sUu (by omega), z_thu (by omega), hU, z_w2e]
    · obtain ⟨H1, H2, H3, H4, H5, H6, H7⟩ := H
      refine ⟨?_, ?_, fun j hj => ?_, ?_, ?_, ?_, ?_⟩
      · rw [vo 0 (by omega) (by omega) (by omega) (by omega) (by omega) (by omega), vo 21 (by omega) (by omega) (by omega) (by omega) (by omega) (by omega)]
        exact H1
      · obtain ⟨n, m, st, a1, a2, a3, a4, a5, a6, a7, a8⟩ := H2
        refine ⟨n, m, st, ?_, ?_, by rw [v30 0 (by omega)]; exact a3, by rw [v30 1 (by omega)]; exact a4, a5, a6, a7, fun j hj hm => ?_⟩
        · rw [vo 17 (by omega) (by omega) (by omega) (by omega) (by omega) (by omega)]; exact a1
        · rw [vo 17 (by omega) (by omega) (by omega) (by omega) (by omega) (by omega)]; exact a2
        · rw [vo (3 + j) (by omega) (by omega) (by omega) (by omega) (by omega) (by omega), vo 24 (by omega) (by omega) (by omega) (by omega) (by omega) (by omega)]
          exact a8 j hj hm
      · by_cases q : j = i
        · subst q
          refine Or.inr ⟨?_, ?_, s0, g, ?_, fun k hk => ?_, k2⟩
          · rw [hV, z_w2u (by omega), z_sUu (by omega), z_thu (by omega), hU, z_w2u (by omega), z_w2e]
          · rw [hV, z_w2e]
          · rw [hV, z_w2u (by omega), z_sUu (by omega), z_thu (by omega), hU, z_w2u (by omega), z_w2u (by omega), z_sUe]
          · show V 25 (251 * j + k) = _
            rw [v25 j k hk hj, if_pos rfl]
            exact hg k hk
        · have r20 : V 20 j = W 20 j := by rw [hV, z_w2u (by omega), z_sUu (by omega), z_thu (by omega), hU, z_w2u (by omega), z_w2k q, z_sUu (by omega)]
          have r26 : V 26 j = W 26 j := by rw [hV, z_w2k q, z_sUu (by omega), z_thu (by omega), uo 26 (by omega) (by omega) (by omega)]
          rw [r20, r26, vo (11 + j) (by omega) (by omega) (by omega) (by omega) (by omega) (by omega)]
          rcases H3 j hj with z | ⟨z1, z2, s1, g1, z3, z4, z5⟩
          · exact Or.inl z
          · refine Or.inr ⟨z1, z2, s1, g1, z3, fun k hk => ?_, z5⟩
            show V 25 (251 * j + k) = _
            rw [v25 j k hk hj, if_neg q]
            exact z4 k hk
      · obtain ⟨n, x1, x2, x3, x4⟩ := H4
        refine ⟨n, ?_, by rw [v30 3 (by omega)]; exact x2, x3, fun k hk => ?_⟩
        · rw [vo 15 (by omega) (by omega) (by omega) (by omega) (by omega) (by omega)]; exact x1
        · rw [vo 16 (by omega) (by omega) (by omega) (by omega) (by omega) (by omega), vo 28 (by omega) (by omega) (by omega) (by omega) (by omega) (by omega)]; exact x4 k hk
      · unfold z_ree
        rw [vo 13 (by omega) (by omega) (by omega) (by omega) (by omega) (by omega), v30 9 (by omega), v30 10 (by omega)]
        exact H5
      · obtain ⟨n, x1, x2, x3, x4⟩ := H6
        refine ⟨n, ?_, by rw [v30 11 (by omega)]; exact x2, x3, fun k hk => ?_⟩
        · rw [vo 18 (by omega) (by omega) (by omega) (by omega) (by omega) (by omega)]; exact x1
        · rw [vo 19 (by omega) (by omega) (by omega) (by omega) (by omega) (by omega), vo 29 (by omega) (by omega) (by omega) (by omega) (by omega) (by omega)]; exact x4 k hk
      · unfold z_rpp
        rw [vo 2 (by omega) (by omega) (by omega) (by omega) (by omega) (by omega)]
        exact H7
  · refine ⟨1, zI 0, W, z_th W 1, ?_, ?_, z_the, by omega, by omega, fun q => absurd q (by omega), z_RW_EQ H z_EQ_th⟩
    · unfold f_L_save f_X9_save
      rw [z_Csl ha, if_neg va, z_btl, z_b2l, if_pos rfl, z_l1]
    · show f_X10_save W (zI a) = _
      have nn := z_Gnn (W := W) (x := a) (l := 0) (h := 1) ha (by unfold zR; omega) (by unfold zR; omega)
      unfold f_X10_save
      rw [z_l0, z_l1, nn, z_o1 (by omega)]
      simp (disch := omega) only [z_lit, z_n, z_add, z_sub, z_mul, z_neg, z_lt1, z_lt0, z_le1, z_le0, z_eq1, z_eq0, z_10, ↓reduceIte, z_v, z_upd, z_ue, z_un, z_ixn, z_ixo, z_ix0, z_ix1, z_ix2, z_ix3, z_ix4, z_ix5, z_ix6, Int.reduceToNat, z_inr, z_gd, ↓z_bnd, ↓z_jn, z_bdc, z_bd2, z_opn, z_ops, z_z01, z_Bt, z_Bf]
theorem z_m_restore (H : z_RW b W) {a : Int} (ha : zR a) : z_AG (f_L_restore W (zI a)) (fun W1 => f_X10_restore W1 (zI a)) (z_RW b) := by
  obtain ⟨s, g, h⟩ := z_Q_RW H
  obtain ⟨h0, hg, pi⟩ := id h
  obtain ⟨c0, c1, c2, c3, c4⟩ := pi.1.1
  by_cases va : 0 ≤ a ∧ a < 2
  · obtain ⟨i, rfl⟩ : ∃ m : Nat, a = m := ⟨a.toNat, by omega⟩
    have hi : i < 2 := by omega
    rcases H.2.2.1 i hi with ⟨f1, f2⟩ | ⟨f1, f2, t, u, f3, f4, f5⟩
    · have r26 : z_th W 0 26 i = zI 0 := by rw [z_thu (by omega)]; exact f2
      refine ⟨2, zI 0, W, z_th W 2, ?_, ?_, z_the, by omega, by omega, fun q => absurd q (by omega), z_RW_EQ H z_EQ_th⟩
      · unfold f_L_restore f_X9_restore
        rw [z_Csl ha, if_pos va, z_btr]
        simp (disch := omega) only [z_lit, z_n, z_add, z_sub, z_mul, z_neg, z_lt1, z_lt0, z_le1, z_le0, z_eq1, z_eq0, z_10, ↓reduceIte, z_v, z_upd, z_ue, z_un, z_ixn, z_ixo, z_ix0, z_ix1, z_ix2, z_ix3, z_ix4, z_ix5, z_ix6, Int.reduceToNat, z_inr, z_gd, ↓z_bnd, ↓z_jn, z_bdc, z_bd2, z_opn, z_ops, z_z01, z_Bt, z_Bf, f1, z_b2l, String.reduceEq]
      · show f_X10_restore W (zI i) = _
        have nn := z_Gnn (W := W) (x := (i : Int)) (l := 0) (h := 1) ha (by unfold zR; omega) (by unfold zR; omega)
        unfold f_X10_restore
        rw [z_l0, z_l1, nn, z_o0 (by omega), z_bd2, if_pos rfl]
        simp (disch := omega) only [z_lit, z_n, z_add, z_sub, z_mul, z_neg, z_lt1, z_lt0, z_le1, z_le0, z_eq1, z_eq0, z_10, ↓reduceIte, z_v, z_upd, z_ue, z_un, z_ixn, z_ixo, z_ix0, z_ix1, z_ix2, z_ix3, z_ix4, z_ix5, z_ix6, Int.reduceToNat, z_inr, z_gd, ↓z_bnd, ↓z_jn, z_bdc, z_bd2, z_opn, z_ops, z_z01, z_Bt, z_Bf, r26]
        rw [z_Gr1 z_the (by omega), z_thth]
        simp (disch := omega) only [z_lit, z_n, z_add, z_sub, z_mul, z_neg, z_lt1, z_lt0, z_le1, z_le0, z_eq1, z_eq0, z_10, ↓reduceIte, z_v, z_upd, z_ue, z_un, z_ixn, z_ixo, z_ix0, z_ix1, z_ix2, z_ix3, z_ix4, z_ix5, z_ix6, Int.reduceToNat, z_inr, z_gd, ↓z_bnd, ↓z_jn, z_bdc, z_bd2, z_opn, z_ops, z_z01, z_Bt, z_Bf]
    · obtain ⟨Wa, r1, r2, r3⟩ := z_RW_rem H h0 hg pi
      have wa0 : Wa 0 = zV s := by rw [r2 0 (by omega) (by omega), h0]
      have wai : Wa (11 + i) = zV t := by rw [r2 (11 + i) (by omega) (by omega), f3]
      obtain ⟨t0, k1, k2, k3⟩ := z_copy (zV s) f5
      have t00 := k3 0 (by omega)
      obtain ⟨U, hU, u21, v1, v2, v3, v4, v5, v6⟩ := z_U0 r2 t0 (zI (t 0))
      obtain ⟨Vr, q1, q2, q3, q4⟩ := r3 t0 (z_th U 0) v1 v2 v3
      have row : f_X10_copyRow Vr 25 (zI (251 * (i : Int))) 21 (zI 0) = some (setU Vr 21 (z_rw (Vr 21) (Vr 25) (251 * i) 0 251)) := z_crow (W := Vr) (u := 25) (v := 21) (a := 251 * i) (c := 0) (by omega) (by rw [z_LN25]; omega) (by rw [z_LN21]; omega)
      have vr25 : Vr 25 = W 25 := by rw [q2 25 (by omega) (by omega), v2 25 (by omega) (by omega) (by omega) (by omega), r2 25 (by omega) (by omega)]
      have rr : ∀ k, k < 251 → z_rw (Vr 21) (Vr 25) (251 * i) 0 251 k = zI (u k) := fun k hk => by
        unfold z_rw
        rw [if_pos (by omega), vr25, show k - 0 = k by omega]
        exact f4 k hk
      have u26 : z_th U 0 26 i = zI 1 := by rw [v2 26 (by omega) (by omega) (by omega) (by omega), r2 26 (by omega) (by omega)]; exact f2
      have pu : z_PI b t0 u := k2
      have rr0 : z_rw (Vr 21) (Vr 25) (251 * i) 0 251 0 = zI (t 0) := by rw [rr 0 (by omega), pu.2.1.1 0 (by omega), t00]
      refine ⟨0, zI (t 0), U, setU Vr 21 (z_rw (Vr 21) (Vr 25) (251 * i) 0 251), ?_, ?_, ?_, by omega, by omega, fun _ => ?_, q4 _ u b (by omega) (fun w u1 _ _ => z_sUu u1) (fun k hk => by rw [z_sUe]; exact rr k hk) pu⟩
      · unfold f_L_restore f_X9_restore
        rw [z_Csl ha, if_pos va, z_btr]
        simp (disch := omega) only [z_lit, z_n, z_add, z_sub, z_mul, z_neg, z_lt1, z_lt0, z_le1, z_le0, z_eq1, z_eq0, z_10, ↓reduceIte, z_v, z_upd, z_ue, z_un, z_ixn, z_ixo, z_ix0, z_ix1, z_ix2, z_ix3, z_ix4, z_ix5, z_ix6, Int.reduceToNat, z_inr, z_gd, ↓z_bnd, ↓z_jn, z_bdc, z_bd2, z_opn, z_ops, z_z01, z_Bt, z_Bf, f1, r1, wa0, wai, k1, z_sUe, z_b2r, t00]
        rw [hU]
      · show f_X10_restore U (zI i) = _
        have nn := z_Gnn (W := U) (x := (i : Int)) (l := 0) (h := 1) ha (by unfold zR; omega) (by unfold zR; omega)
        unfold f_X10_restore
        rw [z_l0, z_l1, nn, z_o0 (by omega), z_bd2, if_pos rfl]
        simp (disch := omega) only [z_lit, z_n, z_add, z_sub, z_mul, z_neg, z_lt1, z_lt0, z_le1, z_le0, z_eq1, z_eq0, z_10, ↓reduceIte, z_v, z_upd, z_ue, z_un, z_ixn, z_ixo, z_ix0, z_ix1, z_ix2, z_ix3, z_ix4, z_ix5, z_ix6, Int.reduceToNat, z_inr, z_gd, ↓z_bnd, ↓z_jn, z_bdc, z_bd2, z_opn, z_ops, z_z01, z_Bt, z_Bf, u26]
        rw [z_Gr0 z_the]
        simp (disch := omega) only [z_lit, z_n, z_add, z_sub, z_mul, z_neg, z_lt1, z_lt0, z_le1, z_le0, z_eq1, z_eq0, z_10, ↓reduceIte, z_v, z_upd, z_ue, z_un, z_ixn, z_ixo, z_ix0, z_ix1, z_ix2, z_ix3, z_ix4, z_ix5, z_ix6, Int.reduceToNat, z_inr, z_gd, ↓z_bnd, ↓z_jn, z_bdc, z_bd2, z_opn, z_ops, z_z01, z_Bt, z_Bf, q1, row, z_sUe, rr0]
      · rw [z_sUu (by omega), q3 2 (by omega)]
        exact z_the
      · rw [z_sUu (by omega), q2 31 (by omega) (by omega), v6]
  · refine ⟨1, zI 0, W, z_th W 1, ?_, ?_, z_the, by omega, by omega, fun q => absurd q (by omega), z_RW_EQ H z_EQ_th⟩
    · unfold f_L_restore f_X9_restore
      rw [z_Csl ha, if_neg va, z_btl, z_b2l, if_pos rfl, z_l1]
    · show f_X10_restore W (zI a) = _
      have nn := z_Gnn (W := W) (x := a) (l := 0) (h := 1) ha (by unfold zR; omega) (by unfold zR; omega)
      unfold f_X10_restore
      rw [z_l0, z_l1, nn, z_o1 (by omega)]
      simp (disch := omega) only [z_lit, z_n, z_add, z_sub, z_mul, z_neg, z_lt1, z_lt0, z_le1, z_le0, z_eq1, z_eq0, z_10, ↓reduceIte, z_v, z_upd, z_ue, z_un, z_ixn, z_ixo, z_ix0, z_ix1, z_ix2, z_ix3, z_ix4, z_ix5, z_ix6, Int.reduceToNat, z_inr, z_gd, ↓z_bnd, ↓z_jn, z_bdc, z_bd2, z_opn, z_ops, z_z01, z_Bt, z_Bf]
theorem z_m_undo (H : z_RW b W) : z_AG (f_L_undo W) (fun W1 => f_X10_undo W1) (z_RW b) := by
  obtain ⟨H1, H2, H3, H4, H5, H6, H7⟩ := id H
  obtain ⟨n, m, st, a1, a2, a3, a4, a5, a6, a7, a8⟩ := H2
  obtain ⟨s, g, h0, hg, pi⟩ := H1
  by_cases v : m = 0
  · subst v
    refine ⟨1, zI 0, W, z_th W 1, ?_, ?_, z_the, by omega, by omega, fun q => absurd q (by omega), z_RW_EQ H z_EQ_th⟩
    · unfold f_L_undo f_X9_undo
      rw [a2]
      simp (disch := omega) only [z_lit, z_n, z_add, z_sub, z_mul, z_neg, z_lt1, z_lt0, z_le1, z_le0, z_eq1, z_eq0, z_10, ↓reduceIte, z_v, z_upd, z_ue, z_un, z_ixn, z_ixo, z_ix0, z_ix1, z_ix2, z_ix3, z_ix4, z_ix5, z_ix6, Int.reduceToNat, z_inr, z_gd, ↓z_bnd, ↓z_jn, z_bdc, z_bd2, z_opn, z_ops, z_z01, z_Bt, z_Bf, z_b2l, String.reduceEq]
    · show f_X10_undo W = _
      unfold f_X10_undo
      have : w2 W 30 2 (0 : Int32) = z_th W 0 := rfl
      rw [this, z_bnd, z_thk (k := 0) (by omega), a3]
      simp (disch := omega) only [z_lit, z_n, z_add, z_sub, z_mul, z_neg, z_lt1, z_lt0, z_le1, z_le0, z_eq1, z_eq0, z_10, ↓reduceIte, z_v, z_upd, z_ue, z_un, z_ixn, z_ixo, z_ix0, z_ix1, z_ix2, z_ix3, z_ix4, z_ix5, z_ix6, Int.reduceToNat, z_inr, z_gd, ↓z_bnd, ↓z_jn, z_bdc, z_bd2, z_opn, z_ops, z_z01, z_Bt, z_Bf]
      rw [z_Gr1 z_the (by omega), z_thth]
      simp (disch := omega) only [z_lit, z_n, z_add, z_sub, z_mul, z_neg, z_lt1, z_lt0, z_le1, z_le0, z_eq1, z_eq0, z_10, ↓reduceIte, z_v, z_upd, z_ue, z_un, z_ixn, z_ixo, z_ix0, z_ix1, z_ix2, z_ix3, z_ix4, z_ix5, z_ix6, Int.reduceToNat, z_inr, z_gd, ↓z_bnd, ↓z_jn, z_bdc, z_bd2, z_opn, z_ops, z_z01, z_Bt, z_Bf]
  · obtain ⟨i, hi⟩ : ∃ i : Nat, (st + (m - 1)) % 8 = i := ⟨((st + (m - 1)) % 8).toNat, by omega⟩
    have hi8 : i < 8 := by omega
    obtain ⟨t, u, f3, f4, f5⟩ := a8 i hi8 ⟨m - 1, by omega, by omega, hi⟩
    obtain ⟨t0, k1, k2, k3⟩ := z_copy (zV s) f5
    obtain ⟨Wb, hWb⟩ : ∃ Wb, Wb = w2 (w2 (setU W 0 (zV t0)) 17 0 (zI i)) 17 1 (zI (m - 1)) := ⟨_, rfl⟩
    obtain ⟨U, hU⟩ : ∃ U, U = w2 Wb 31 0 (zI (m - 1)) := ⟨_, rfl⟩
    have uo : ∀ w, w ≠ 0 → w ≠ 17 → w ≠ 31 → U w = W w := fun w x1 x2 x3 => by rw [hU, z_w2u x3, hWb, z_w2u x2, z_w2u x2, z_sUu x1]
    obtain ⟨V, hV⟩ : ∃ V, V = w2 (z_th U 0) 30 0 (zI (m - 1)) := ⟨_, rfl⟩
    have row : f_X10_copyRow V 24 (zI (251 * (i : Int))) 21 (zI 0) = some (setU V 21 (z_rw (V 21) (V 24) (251 * i) 0 251)) := z_crow (W := V) (u := 24) (v := 21) (a := 251 * i) (c := 0) (by omega) (by rw [z_LN24]; omega) (by rw [z_LN21]; omega)
    have vo : ∀ w, w ≠ 0 → w ≠ 17 → w ≠ 31 → w ≠ 30 → V w = W w := fun w x1 x2 x3 x4 => by rw [hV, z_w2u x4, z_thu x4, uo w x1 x2 x3]
    have v30 : ∀ k, k ≠ 2 → k ≠ 0 → V 30 k = W 30 k := fun k x1 x2 => by rw [hV, z_w2k x2, z_thk x1, uo 30 (by omega) (by omega) (by omega)]
    have v300 : V 30 0 = zI (m - 1) := by rw [hV, z_w2e]
    have rr : ∀ k, k < 251 → z_rw (V 21) (V 24) (251 * i) 0 251 k = zI (u k) := fun k hk => by
      unfold z_rw
      rw [if_pos (by omega), vo 24 (by omega) (by omega) (by omega) (by omega), show k - 0 = k by omega]
      exact f4 k hk
    have d2 : zI (st + (m - 1)) / zI 8 = zI ((st + (m - 1)) / 8) := z_div (by omega) (by omega)
    have fo : ∀ w, w ≠ 0 → w ≠ 17 → w ≠ 31 → w ≠ 30 → w ≠ 21 → setU V 21 (z_rw (V 21) (V 24) (251 * i) 0 251) w = W w := fun w x1 x2 x3 x4 x5 => by rw [z_sUu x5, vo w x1 x2 x3 x4]
    have un : z_UN W (setU V 21 (z_rw (V 21) (V 24) (251 * i) 0 251)) := ⟨fun w hw => fo w (by omega) (by omega) (by omega) (by omega) (by omega), fun k hk => by rw [z_sUu (by omega), v30 k (by omega) (by omega)]⟩
    refine ⟨0, zI (m - 1), U, setU V 21 (z_rw (V 21) (V 24) (251 * i) 0 251), ?_, ?_, ?_, by omega, by omega, fun _ => ?_, ⟨t0, u, ?_, fun k hk => by rw [z_sUe]; exact rr k hk, k2⟩, ?_, z_UN_rl un H3, z_UN_rt un H4, z_UN_re un H5, z_UN_ro un H6, z_UN_rp un H7⟩
    · unfold f_L_undo f_X9_undo f_X0_takeBack
      rw [a2, a1, h0]
      by_cases z : n = 0
      · have i7 : i = 7 := by omega
        subst i7
        have k1' : f_X4_copyFrom (zV s) (W (3 + 7)) = some (zV t0) := by rw [f3]; exact k1
        simp (disch := omega) only [z_lit, z_n, z_add, z_sub, z_mul, z_neg, z_lt1, z_lt0, z_le1, z_le0, z_eq1, z_eq0, z_10, ↓reduceIte, z_v, z_upd, z_ue, z_un, z_ixn, z_ixo, z_ix0, z_ix1, z_ix2, z_ix3, z_ix4, z_ix5, z_ix6, Int.reduceToNat, z_inr, z_gd, ↓z_bnd, ↓z_jn, z_bdc, z_bd2, z_opn, z_ops, z_z01, z_Bt, z_Bf, z]
        rw [show ix (zI 7) = 7 from z_ixn (m := 7) (by omega), k1']
        simp (disch := omega) only [z_lit, z_n, z_add, z_sub, z_mul, z_neg, z_lt1, z_lt0, z_le1, z_le0, z_eq1, z_eq0, z_10, ↓reduceIte, z_v, z_upd, z_ue, z_un, z_ixn, z_ixo, z_ix0, z_ix1, z_ix2, z_ix3, z_ix4, z_ix5, z_ix6, Int.reduceToNat, z_inr, z_gd, ↓z_bnd, ↓z_jn, z_bdc, z_bd2, z_opn, z_ops, z_z01, z_Bt, z_Bf, z_w2k, z_sUu, a2, z_b2r, z_w2e]
        rw [hU, hWb]
        rfl
      · have in1 : n - 1 = i := by omega
        have k1' : f_X4_copyFrom (zV s) (W (3 + i)) = some (zV t0) := by rw [f3]; exact k1
        simp (disch := omega) only [z_lit, z_n, z_add, z_sub, z_mul, z_neg, z_lt1, z_lt0, z_le1, z_le0, z_eq1, z_eq0, z_10, ↓reduceIte, z_v, z_upd, z_ue, z_un, z_ixn, z_ixo, z_ix0, z_ix1, z_ix2, z_ix3, z_ix4, z_ix5, z_ix6, Int.reduceToNat, z_inr, z_gd, ↓z_bnd, ↓z_jn, z_bdc, z_bd2, z_opn, z_ops, z_z01, z_Bt, z_Bf]
        rw [in1, z_ixn (by omega), k1']
        simp (disch := omega) only [z_lit, z_n, z_add, z_sub, z_mul, z_neg, z_lt1, z_lt0, z_le1, z_le0, z_eq1, z_eq0, z_10, ↓reduceIte, z_v, z_upd, z_ue, z_un, z_ixn, z_ixo, z_ix0, z_ix1, z_ix2, z_ix3, z_ix4, z_ix5, z_ix6, Int.reduceToNat, z_inr, z_gd, ↓z_bnd, ↓z_jn, z_bdc, z_bd2, z_opn, z_ops, z_z01, z_Bt, z_Bf, z_w2k, z_sUu, a2, z_b2r, z_w2e]
        rw [hU, hWb]
    · show f_X10_undo U = _
      have e1 : w2 U 30 2 (0 : Int32) = z_th U 0 := rfl
      have e2 : z_th U 0 30 0 = zI m := by rw [z_thk (by omega), uo 30 (by omega) (by omega) (by omega)]; exact a3
      have e3 : V 30 1 = zI st := by rw [v30 1 (by omega) (by omega)]; exact a4
      unfold f_X10_undo
      rw [e1, z_bnd, e2]
      simp (disch := omega) only [z_lit, z_n, z_add, z_sub, z_mul, z_neg, z_lt1, z_lt0, z_le1, z_le0, z_eq1, z_eq0, z_10, ↓reduceIte, z_v, z_upd, z_ue, z_un, z_ixn, z_ixo, z_ix0, z_ix1, z_ix2, z_ix3, z_ix4, z_ix5, z_ix6, Int.reduceToNat, z_inr, z_gd, ↓z_bnd, ↓z_jn, z_bdc, z_bd2, z_opn, z_ops, z_z01, z_Bt, z_Bf]
      rw [z_Gr0 z_the]
      simp (disch := omega) only [z_lit, z_n, z_add, z_sub, z_mul, z_neg, z_lt1, z_lt0, z_le1, z_le0, z_eq1, z_eq0, z_10, ↓reduceIte, z_v, z_upd, z_ue, z_un, z_ixn, z_ixo, z_ix0, z_ix1, z_ix2, z_ix3, z_ix4, z_ix5, z_ix6, Int.reduceToNat, z_inr, z_gd, ↓z_bnd, ↓z_jn, z_bdc, z_bd2, z_opn, z_ops, z_z01, z_Bt, z_Bf, e2]
      rw [← hV, v300, e3]
      simp (disch := omega) only [z_lit, z_n, z_add, z_sub, z_mul, z_neg, z_lt1, z_lt0, z_le1, z_le0, z_eq1, z_eq0, z_10, ↓reduceIte, z_v, z_upd, z_ue, z_un, z_ixn, z_ixo, z_ix0, z_ix1, z_ix2, z_ix3, z_ix4, z_ix5, z_ix6, Int.reduceToNat, z_inr, z_gd, ↓z_bnd, ↓z_jn, z_bdc, z_bd2, z_opn, z_ops, z_z01, z_Bt, z_Bf, d2]
      rw [show 251 * (st + (m - 1) - (st + (m - 1)) / 8 * 8) = 251 * (i : Int) by omega, row, z_bdc, z_sUu (by omega), v300]
    · rw [z_sUu (by omega), hV, z_w2k (by omega)]
      exact z_the
    · rw [z_sUu (by omega), hV, z_w2u (by omega), z_thu (by omega), hU, z_w2e]
    · rw [z_sUu (by omega), hV, z_w2u (by omega), z_thu (by omega), hU, z_w2u (by omega), hWb, z_w2u (by omega), z_w2u (by omega), z_sUe]
    · refine ⟨i, m - 1, st, ?_, ?_, by rw [z_sUu (by omega)]; exact v300, by rw [z_sUu (by omega), v30 1 (by omega) (by omega)]; exact a4, by omega, a6, hi.symm, fun j hj hm => ?_⟩
      · rw [z_sUu (by omega), hV, z_w2u (by omega), z_thu (by omega), hU, z_w2u (by omega), hWb, z_w2k (by omega), z_w2e]
      · rw [z_sUu (by omega), hV, z_w2u (by omega), z_thu (by omega), hU, z_w2u (by omega), hWb, z_w2e]
      · obtain ⟨x, x1, x2, x3⟩ := hm
        rw [fo (3 + j) (by omega) (by omega) (by omega) (by omega) (by omega), fo 24 (by omega) (by omega) (by omega) (by omega) (by omega)]
        exact a8 j hj ⟨x, x1, by omega, x3⟩
end Chj
