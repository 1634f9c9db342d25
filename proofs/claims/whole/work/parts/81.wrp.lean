/-! parcels, and both loops -/
section Wrp
variable {W W' W'' V V' : Nat → Nat → Int32} {b : Int} {s g : Nat → Int} {n : Nat} {xs ys : List Int32}
theorem z_pst (hB : b ≤ 1000000000) (h : z_PI b s g) {t : Nat} (ht : (t : Int) < s 4) : ∃ xs : List Int32, (1 ≤ xs.length ∧ xs.length ≤ 5) ∧ (∀ W n N, W 0 = zV s → W 18 0 = zI (n : Nat) → n < 66 → (n = 0 ↔ t = 0) → ∃ W', l_X9_writeParcels_10 (N + 1) W (zI t) = l_X9_writeParcels_10 N W' (zI ((t : Int) + 1)) ∧ z_A n W (z_sp0 n ++ xs) W') ∧ (∀ V n N, z_Q b V s g → V 30 11 = zI (n : Nat) → n < 170 → ∃ V', l_X10_writeParcels_12 (N + 1) V (zI t) = l_X10_writeParcels_12 N V' (zI ((t : Int) + 1)) ∧ z_AB n V (z_sp0 n ++ xs) V') := by
  obtain ⟨c0, c1, c2, c3, c4⟩ := h.1.1
  obtain ⟨-, -, -, b3, b4, -, -, b8, st⟩ := h.1.2.2.2.2.2.1 t ht
  have rp := h.2.1.2.2.2.2 t ht
  have r3 := rp 3 (by omega)
  have r4 := rp 4 (by omega)
  have r8 := rp 8 (by omega)
  obtain ⟨xs, xl, xC, xG⟩ : ∃ xs : List Int32, (1 ≤ xs.length ∧ xs.length ≤ 5) ∧ (∀ W n, W 0 = zV s → W 18 0 = zI (n : Nat) → n < 67 → ∃ W', f_X9_putParcel W t = some W' ∧ z_A n W xs W') ∧ (∀ V n, z_Q b V s g → V 30 11 = zI (n : Nat) → n < 180 → ∃ V', (∀ N, (gd (inr (zI ((143 + 9 * t : Nat) : Int) + 3) 251) (if V 21 (ix (zI ((143 + 9 * t : Nat) : Int) + 3)) = -1 then gd (inr (zI ((143 + 9 * t : Nat) : Int) + 4) 251) (if V 21 (ix (zI ((143 + 9 * t : Nat) : Int) + 4)) = -1 then bdc (f_X10_print V 61) fun W8 => l_X10_writeParcels_12 N W8 (zI (t : Int) + 1) else bdc (f_X10_print V 35) fun W9 => gd (inr (zI ((143 + 9 * t : Nat) : Int) + 4) 251) (bdc (f_X10_print W9 (48 + W9 21 (ix (zI ((143 + 9 * t : Nat) : Int) + 4)))) fun W10 => l_X10_writeParcels_12 N W10 (zI (t : Int) + 1))) else bdc (f_X10_print V 64) fun W11 => gd (inr (zI ((143 + 9 * t : Nat) : Int) + 3) 251) (bdc (f_X10_printName W11 (W11 21 (ix (zI ((143 + 9 * t : Nat) : Int) + 3)))) fun W12 => l_X10_writeParcels_12 N W12 (zI (t : Int) + 1)))) = l_X10_writeParcels_12 N V' (zI (t : Int) + 1)) ∧ z_AB n V xs V') := by
    rcases st with ⟨s1, s2, s3, -⟩ | ⟨s1, s2, s3⟩ | ⟨s1, s2, s3⟩
    · obtain ⟨us, ul, uC, uG⟩ := z_nmb h (i := s (143 + 9 * t + 3)) (by omega)
      refine ⟨[z_ch 64] ++ us, by simp only [List.length_append, List.length_singleton]; omega, fun W n h0 h18 hn => ?_, fun V n hq h30 hn => ?_⟩
      · obtain ⟨W1, e1, k1⟩ := z_put (x := 64) h18 (by omega)
        have z1 : W1 0 = zV s := by rw [k1.1 0 (by omega) (by omega)]; exact h0
        obtain ⟨x, W2, p2, e2, k2⟩ := uC W1 _ z1 k1.2.1 (by simp only [List.length_singleton]; omega)
        refine ⟨W2, ?_, z_A_t k1 k2⟩
        unfold f_X9_putParcel f_X2_isDelivered
        rw [h0]
        simp (disch := omega) only [z_lit, z_n, z_add, z_sub, z_mul, z_neg, z_lt1, z_lt0, z_le1, z_le0, z_eq1, z_eq0, z_10, ↓reduceIte, z_v, z_upd, z_ue, z_un, z_ixn, z_ixo, z_ix0, z_ix1, z_ix2, z_ix3, z_ix4, z_ix5, z_ix6, Int.reduceToNat, z_inr, z_gd, ↓z_bnd, ↓z_jn, z_bdc, z_bd2, z_opn, z_ops, z_z01, z_Bt, z_Bf, s2, s3, e1, z1, p2, e2]
      · obtain ⟨V1, e1, k1⟩ := z_prt (x := 64) h30 (by omega)
        have z1 := z_Q_AB hq k1
        obtain ⟨V2, e2, k2⟩ := uG V1 _ z1 k1.2.2.1 (by simp only [List.length_singleton]; omega)
        have q3 := hq.2.1 (143 + 9 * t + 3) (by omega)
        rw [r3] at q3
        have q3' := z1.2.1 (143 + 9 * t + 3) (by omega)
        rw [r3] at q3'
        refine ⟨V2, fun N => ?_, z_AB_t k1 k2⟩
        simp (disch := omega) only [z_lit, z_n, z_add, z_sub, z_mul, z_neg, z_lt1, z_lt0, z_le1, z_le0, z_eq1, z_eq0, z_10, ↓reduceIte, z_v, z_upd, z_ue, z_un, z_ixn, z_ixo, z_ix0, z_ix1, z_ix2, z_ix3, z_ix4, z_ix5, z_ix6, Int.reduceToNat, z_inr, z_gd, ↓z_bnd, ↓z_jn, z_bdc, z_bd2, z_opn, z_ops, z_z01, z_Bt, z_Bf, q3, q3', e1, e2]
    · refine ⟨[z_ch 35] ++ [z_ch (48 + s (143 + 9 * t + 4))], by simp, fun W n h0 h18 hn => ?_, fun V n hq h30 hn => ?_⟩
      · obtain ⟨W1, e1, k1⟩ := z_put (x := 35) h18 (by omega)
        have z1 : W1 0 = zV s := by rw [k1.1 0 (by omega) (by omega)]; exact h0
        obtain ⟨W2, e2, k2⟩ := z_put (x := 48 + s (143 + 9 * t + 4)) k1.2.1 (by simp only [List.length_singleton]; omega)
        refine ⟨W2, ?_, z_A_t k1 k2⟩
        unfold f_X9_putParcel f_X2_isDelivered
        rw [h0]
        simp (disch := omega) only [z_lit, z_n, z_add, z_sub, z_mul, z_neg, z_lt1, z_lt0, z_le1, z_le0, z_eq1, z_eq0, z_10, ↓reduceIte, z_v, z_upd, z_ue, z_un, z_ixn, z_ixo, z_ix0, z_ix1, z_ix2, z_ix3, z_ix4, z_ix5, z_ix6, Int.reduceToNat, z_inr, z_gd, ↓z_bnd, ↓z_jn, z_bdc, z_bd2, z_opn, z_ops, z_z01, z_Bt, z_Bf, s3, e1, z1, e2]
      · obtain ⟨V1, e1, k1⟩ := z_prt (x := 35) h30 (by omega)
        have z1 := z_Q_AB hq k1
        obtain ⟨V2, e2, k2⟩ := z_prt (x := 48 + s (143 + 9 * t + 4)) k1.2.2.1 (by simp only [List.length_singleton]; omega)
        have q3 := hq.2.1 (143 + 9 * t + 3) (by omega)
        rw [r3] at q3
        have q4 := hq.2.1 (143 + 9 * t + 4) (by omega)
        rw [r4] at q4
        have q4' := z1.2.1 (143 + 9 * t + 4) (by omega)
        rw [r4] at q4'
        refine ⟨V2, fun N => ?_, z_AB_t k1 k2⟩
        simp (disch := omega) only [z_lit, z_n, z_add, z_sub, z_mul, z_neg, z_lt1, z_lt0, z_le1, z_le0, z_eq1, z_eq0, z_10, ↓reduceIte, z_v, z_upd, z_ue, z_un, z_ixn, z_ixo, z_ix0, z_ix1, z_ix2, z_ix3, z_ix4, z_ix5, z_ix6, Int.reduceToNat, z_inr, z_gd, ↓z_bnd, ↓z_jn, z_bdc, z_bd2, z_opn, z_ops, z_z01, z_Bt, z_Bf, q3, q4, q4', s1, e1, e2]
    · refine ⟨[z_ch 61], by simp, fun W n h0 h18 hn => ?_, fun V n hq h30 hn => ?_⟩
      · obtain ⟨W1, e1, k1⟩ := z_put (x := 61) h18 (by omega)
        refine ⟨W1, ?_, k1⟩
        unfold f_X9_putParcel f_X2_isDelivered
        rw [h0]
        simp (disch := omega) only [z_lit, z_n, z_add, z_sub, z_mul, z_neg, z_lt1, z_lt0, z_le1, z_le0, z_eq1, z_eq0, z_10, ↓reduceIte, z_v, z_upd, z_ue, z_un, z_ixn, z_ixo, z_ix0, z_ix1, z_ix2, z_ix3, z_ix4, z_ix5, z_ix6, Int.reduceToNat, z_inr, z_gd, ↓z_bnd, ↓z_jn, z_bdc, z_bd2, z_opn, z_ops, z_z01, z_Bt, z_Bf, e1]
      · obtain ⟨V1, e1, k1⟩ := z_prt (x := 61) h30 (by omega)
        have q3 := hq.2.1 (143 + 9 * t + 3) (by omega)
        rw [r3] at q3
        have q4 := hq.2.1 (143 + 9 * t + 4) (by omega)
        rw [r4] at q4
        refine ⟨V1, fun N => ?_, k1⟩
        simp (disch := omega) only [z_lit, z_n, z_add, z_sub, z_mul, z_neg, z_lt1, z_lt0, z_le1, z_le0, z_eq1, z_eq0, z_10, ↓reduceIte, z_v, z_upd, z_ue, z_un, z_ixn, z_ixo, z_ix0, z_ix1, z_ix2, z_ix3, z_ix4, z_ix5, z_ix6, Int.reduceToNat, z_inr, z_gd, ↓z_bnd, ↓z_jn, z_bdc, z_bd2, z_opn, z_ops, z_z01, z_Bt, z_Bf, q3, q4, s1, s2, e1]
  refine ⟨xs, xl, fun W n N h0 h18 hn h01 => ?_, fun V n N hq h30 hn => ?_⟩
  · rw [l_X9_writeParcels_10, h0]
    unfold z_sp0
    by_cases c : n = 0
    · rw [if_pos c]
      obtain ⟨W1, e1, k1⟩ := xC W n h0 h18 (by omega)
      refine ⟨W1, ?_, z_A_t (z_A_n h18) k1⟩
      simp (disch := omega) only [z_lit, z_n, z_add, z_sub, z_mul, z_neg, z_lt1, z_lt0, z_le1, z_le0, z_eq1, z_eq0, z_10, ↓reduceIte, z_v, z_upd, z_ue, z_un, z_ixn, z_ixo, z_ix0, z_ix1, z_ix2, z_ix3, z_ix4, z_ix5, z_ix6, Int.reduceToNat, z_inr, z_gd, ↓z_bnd, ↓z_jn, z_bdc, z_bd2, z_opn, z_ops, z_z01, z_Bt, z_Bf, e1]
    · rw [if_neg c]
      obtain ⟨W2, e2, k2⟩ := z_put (x := 32) h18 (by omega)
      obtain ⟨W1, e1, k1⟩ := xC W2 _ (by rw [k2.1 0 (by omega) (by omega)]; exact h0) k2.2.1 (by simp only [List.length_singleton]; omega)
      refine ⟨W1, ?_, z_A_t k2 k1⟩
      simp (disch := omega) only [z_lit, z_n, z_add, z_sub, z_mul, z_neg, z_lt1, z_lt0, z_le1, z_le0, z_eq1, z_eq0, z_10, ↓reduceIte, z_v, z_upd, z_ue, z_un, z_ixn, z_ixo, z_ix0, z_ix1, z_ix2, z_ix3, z_ix4, z_ix5, z_ix6, Int.reduceToNat, z_inr, z_gd, ↓z_bnd, ↓z_jn, z_bdc, z_bd2, z_opn, z_ops, z_z01, z_Bt, z_Bf, e2, e1]
  · have l0 := z_sp0_l (n := n)
    obtain ⟨V1, e1, k1⟩ := z_spc h30 (by omega)
    have z1 := z_Q_AB hq k1
    obtain ⟨V2, e2, k2⟩ := xG V1 _ z1 k1.2.2.1 (by omega)
    have g3 := hq.2.1 4 (by omega)
    rw [h.2.1.1 4 (by omega)] at g3
    refine ⟨V2, ?_, z_AB_t k1 k2⟩
    rw [l_X10_writeParcels_12, show (4 : Int32) = zI 4 from z_lit 4]
    rw [z_inr (by omega) (by omega) (by omega), z_gd, z_ix4, g3, z_leF (by omega) (by omega) (by omega), z_ofP, z_bdc, e1, z_bdc]
    have := e2 N
    rw [show (4 : Int32) = zI 4 from z_lit 4] at this
    rw [this, z_l1, z_add]
end Wrp
