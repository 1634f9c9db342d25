section Chi
variable {W W' V V' : Nat → Nat → Int32} {b c : Int} {s s' g g' : Nat → Int}
theorem z_sQo {Vr : Nat → Nat → Int32} {F : Nat → Int32} : ∀ u, u ≠ 21 → u ≠ 23 → u ≠ 27 → setQ Vr 21 F u = Vr u := fun u u1 _ u3 => z_sQx u1 u3
theorem z_m_addParcel (H : z_RW b W) {a c n : Int} (ha : zR a) (hc : zR c) (hn : zR n) : z_AG (f_L_addParcel W (zI a) (zI c) (zI n)) (fun W1 => f_X10_addParcel W1 (zI a) (zI c) (zI n)) (z_RW b) := by
  obtain ⟨s, g, h⟩ := z_Q_RW H
  obtain ⟨h0, hg, pi⟩ := id h
  obtain ⟨c0, c1, c2, c3, c4⟩ := pi.1.1
  have w04 : W 0 4 = zI (s 4) := by rw [h0]; rfl
  by_cases va : (0 ≤ a ∧ a < s 1) ∧ (0 ≤ c ∧ c < s 1)
  · by_cases e : a = c
    · subst e
      refine ⟨2, zI 0, W, z_th W 2, ?_, ?_, z_the, by omega, by omega, fun q => absurd q (by omega), z_RW_EQ H z_EQ_th⟩
      · unfold f_L_addParcel f_X9_addParcel
        rw [z_Cst h0 c1 ha, if_pos va.1, z_btr, z_btr, if_pos rfl, z_b2l, if_neg (by decide), if_pos rfl, z_l2]
      · show f_X10_addParcel W (zI a) (zI a) (zI n) = _
        unfold f_X10_addParcel
        rw [z_l0, z_Qnss h ha ha, if_pos va, z_bd2, if_pos rfl, z_jn, if_pos rfl]
        dsimp only
        rw [z_l1, z_l2, z_Gr1 z_the (by omega), z_thth]
        simp (disch := omega) only [z_lit, z_n, z_add, z_sub, z_mul, z_neg, z_lt1, z_lt0, z_le1, z_le0, z_eq1, z_eq0, z_10, ↓reduceIte, z_v, z_upd, z_ue, z_un, z_ixn, z_ixo, z_ix0, z_ix1, z_ix2, z_ix3, z_ix4, z_ix5, z_ix6, Int.reduceToNat, z_inr, z_gd, ↓z_bnd, ↓z_jn, z_bdc, z_bd2, z_opn, z_ops, z_z01, z_Bt, z_Bf]
    · have ne : ¬ zI a = zI c := by rw [z_eq ha hc]; exact e
      by_cases v : 1 ≤ n ∧ n ≤ 9
      · by_cases f : s 4 < 12
        · obtain ⟨Wa, r1, r2, r3⟩ := z_RW_rem H h0 hg pi
          have wa0 : Wa 0 = zV s := by rw [r2 0 (by omega) (by omega), h0]
          obtain ⟨g0, e1, p0⟩ := z_pkg (T := W 27) h
          obtain ⟨s1, g1, m1, m2, m3, m4, -⟩ := z_addp p0 va.1 va.2 v f
          obtain ⟨U, hU, u21, v1, v2, v3, v4, v5, v6⟩ := z_U0 r2 s1 (zI (s 4))
          obtain ⟨Vr, q1, q2, q3, q4⟩ := r3 s1 (z_th U 0) v1 v2 v3
          have nn := z_Qnss (b := b) (W := U) (s := s) (g := g)
          have uns : f_X10_noStations U (zI a) (zI c) = some (zI 0, z_th U 0) := by
            unfold f_X10_noStations
            rw [z_Gns (W := U) (s := s) (by rw [u21, hg _ (by omega), pi.2.1.1 _ (by omega)]) c1 ha, z_o0 (by omega), z_bd2, z_l0, if_pos rfl, z_Gns (W := z_th U 0) (s := s) (by rw [z_thu (by omega), u21, hg _ (by omega), pi.2.1.1 _ (by omega)]) c1 hc, z_o0 (by omega), z_thth, z_bd2, if_pos rfl]
          have u4 : z_th U 0 21 4 = zI (s 4) := by rw [z_thu (by omega), u21, hg _ (by omega), pi.2.1.1 _ (by omega)]
          have vpk : pk (Vr 21) (Vr 27) = zV g0 := by rw [q2 21 (by omega) (by omega), q2 27 (by omega) (by omega), v4, v5, e1]
          refine ⟨0, zI (s 4), U, setQ Vr 21 (zV g1), ?_, ?_, ?_, by omega, by omega, fun _ => ?_, q4 _ g1 b (by omega) z_sQo (fun k hk => by rw [z_sQu (by omega)]; rfl) m3⟩
          · unfold f_L_addParcel f_X9_addParcel
            rw [z_Cst h0 c1 ha, if_pos va.1, z_btr, z_Cst h0 c1 hc, if_pos va.2, z_btr, if_neg ne, z_l1, z_l9, z_Crg hn (by unfold zR; omega) (by unfold zR; omega), if_pos v, z_btr, w04, r1]
            simp (disch := omega) only [z_lit, z_n, z_add, z_sub, z_mul, z_neg, z_lt1, z_lt0, z_le1, z_le0, z_eq1, z_eq0, z_10, ↓reduceIte, z_v, z_upd, z_ue, z_un, z_ixn, z_ixo, z_ix0, z_ix1, z_ix2, z_ix3, z_ix4, z_ix5, z_ix6, Int.reduceToNat, z_inr, z_gd, ↓z_bnd, ↓z_jn, z_bdc, z_bd2, z_opn, z_ops, z_z01, z_Bt, z_Bf, wa0, m1, z_sUe, m4, z_b2r]
            rw [hU, show s 4 + 1 - 1 = s 4 by omega]
          · show f_X10_addParcel U (zI a) (zI c) (zI n) = _
            unfold f_X10_addParcel
            rw [z_l0, uns, z_bd2, if_pos rfl, z_jn, if_neg ne]
            dsimp only
            rw [z_Gr0 z_the, z_bd2, if_pos rfl, z_l1, z_l9, z_Go0 hn (by unfold zR; omega) (by unfold zR; omega) z_the v, z_bd2, if_pos rfl]
            simp (disch := omega) only [z_lit, z_n, z_add, z_sub, z_mul, z_neg, z_lt1, z_lt0, z_le1, z_le0, z_eq1, z_eq0, z_10, ↓reduceIte, z_v, z_upd, z_ue, z_un, z_ixn, z_ixo, z_ix0, z_ix1, z_ix2, z_ix3, z_ix4, z_ix5, z_ix6, Int.reduceToNat, z_inr, z_gd, ↓z_bnd, ↓z_jn, z_bdc, z_bd2, z_opn, z_ops, z_z01, z_Bt, z_Bf, u4]
            rw [z_Gr0 z_the, z_bd2, if_pos rfl, q1, z_bdc, vpk, m2, z_bd2]
          · rw [z_sQx (by omega) (by omega), q3 2 (by omega)]
            exact z_the
          · rw [z_sQx (by omega) (by omega), q2 31 (by omega) (by omega), v6]
        · refine ⟨3, zI 0, W, z_th W 3, ?_, ?_, z_the, by omega, by omega, fun q => absurd q (by omega), z_RW_EQ H z_EQ_th⟩
          · unfold f_L_addParcel f_X9_addParcel
            rw [z_Cst h0 c1 ha, if_pos va.1, z_btr, z_Cst h0 c1 hc, if_pos va.2, z_btr, if_neg ne, z_l1, z_l9, z_Crg hn (by unfold zR; omega) (by unfold zR; omega), if_pos v, z_btr, w04]
            simp (disch := omega) only [z_lit, z_n, z_add, z_sub, z_mul, z_neg, z_lt1, z_lt0, z_le1, z_le0, z_eq1, z_eq0, z_10, ↓reduceIte, z_v, z_upd, z_ue, z_un, z_ixn, z_ixo, z_ix0, z_ix1, z_ix2, z_ix3, z_ix4, z_ix5, z_ix6, Int.reduceToNat, z_inr, z_gd, ↓z_bnd, ↓z_jn, z_bdc, z_bd2, z_opn, z_ops, z_z01, z_Bt, z_Bf, z_b2l, String.reduceEq]
          · show f_X10_addParcel W (zI a) (zI c) (zI n) = _
            have u4 : z_th W 0 21 4 = zI (s 4) := by rw [z_thu (by omega), hg _ (by omega), pi.2.1.1 _ (by omega)]
            unfold f_X10_addParcel
            rw [z_l0, z_Qnss h ha hc, if_pos va, z_bd2, if_pos rfl, z_jn, if_neg ne]
            dsimp only
            rw [z_Gr0 z_the, z_bd2, if_pos rfl, z_l1, z_l9, z_Go0 hn (by unfold zR; omega) (by unfold zR; omega) z_the v, z_bd2, if_pos rfl]
            simp (disch := omega) only [z_lit, z_n, z_add, z_sub, z_mul, z_neg, z_lt1, z_lt0, z_le1, z_le0, z_eq1, z_eq0, z_10, ↓reduceIte, z_v, z_upd, z_ue, z_un, z_ixn, z_ixo, z_ix0, z_ix1, z_ix2, z_ix3, z_ix4, z_ix5, z_ix6, Int.reduceToNat, z_inr, z_gd, ↓z_bnd, ↓z_jn, z_bdc, z_bd2, z_opn, z_ops, z_z01, z_Bt, z_Bf, u4]
            rw [z_Gr1 z_the (by omega), z_thth]
            simp (disch := omega) only [z_lit, z_n, z_add, z_sub, z_mul, z_neg, z_lt1, z_lt0, z_le1, z_le0, z_eq1, z_eq0, z_10, ↓reduceIte, z_v, z_upd, z_ue, z_un, z_ixn, z_ixo, z_ix0, z_ix1, z_ix2, z_ix3, z_ix4, z_ix5, z_ix6, Int.reduceToNat, z_inr, z_gd, ↓z_bnd, ↓z_jn, z_bdc, z_bd2, z_opn, z_ops, z_z01, z_Bt, z_Bf]
      · refine ⟨2, zI 0, W, z_th W 2, ?_, ?_, z_the, by omega, by omega, fun q => absurd q (by omega), z_RW_EQ H z_EQ_th⟩
        · unfold f_L_addParcel f_X9_addParcel
          rw [z_Cst h0 c1 ha, if_pos va.1, z_btr, z_Cst h0 c1 hc, if_pos va.2, z_btr, if_neg ne, z_l1, z_l9, z_Crg hn (by unfold zR; omega) (by unfold zR; omega), if_neg v, z_btl, z_b2l, if_neg (by decide), if_pos rfl, z_l2]
        · show f_X10_addParcel W (zI a) (zI c) (zI n) = _
          unfold f_X10_addParcel
          rw [z_l0, z_Qnss h ha hc, if_pos va, z_bd2, if_pos rfl, z_jn, if_neg ne]
          dsimp only
          rw [z_Gr0 z_the, z_bd2, if_pos rfl, z_l1, z_l9, z_Go1 hn (by unfold zR; omega) (by unfold zR; omega) z_the v, z_thth]
          simp (disch := omega) only [z_lit, z_n, z_add, z_sub, z_mul, z_neg, z_lt1, z_lt0, z_le1, z_le0, z_eq1, z_eq0, z_10, ↓reduceIte, z_v, z_upd, z_ue, z_un, z_ixn, z_ixo, z_ix0, z_ix1, z_ix2, z_ix3, z_ix4, z_ix5, z_ix6, Int.reduceToNat, z_inr, z_gd, ↓z_bnd, ↓z_jn, z_bdc, z_bd2, z_opn, z_ops, z_z01, z_Bt, z_Bf]
  · refine ⟨1, zI 0, W, z_th W 1, ?_, ?_, z_the, by omega, by omega, fun q => absurd q (by omega), z_RW_EQ H z_EQ_th⟩
    · unfold f_L_addParcel f_X9_addParcel
      rw [z_Cst h0 c1 ha, z_Cst h0 c1 hc]
      by_cases w : 0 ≤ a ∧ a < s 1
      · rw [if_pos w, z_btr, if_neg (fun q => va ⟨w, q⟩), z_btl, z_b2l, if_pos rfl, z_l1]
      · rw [if_neg w, z_btl, z_b2l, if_pos rfl, z_l1]
    · show f_X10_addParcel W (zI a) (zI c) (zI n) = _
      unfold f_X10_addParcel
      rw [z_l0, z_Qnss h ha hc, if_neg va]
      simp (disch := omega) only [z_lit, z_n, z_add, z_sub, z_mul, z_neg, z_lt1, z_lt0, z_le1, z_le0, z_eq1, z_eq0, z_10, ↓reduceIte, z_v, z_upd, z_ue, z_un, z_ixn, z_ixo, z_ix0, z_ix1, z_ix2, z_ix3, z_ix4, z_ix5, z_ix6, Int.reduceToNat, z_inr, z_gd, ↓z_bnd, ↓z_jn, z_bdc, z_bd2, z_opn, z_ops, z_z01, z_Bt, z_Bf]
/-- setTrackOpen; o is 0 or 1 -/
theorem z_m_setTrackOpen (H : z_RW b W) {a c o : Int} (ha : zR a) (hc : zR c) (ho : z_bo o) : ∃ W', (bd2 (f_L_setTrackOpen W (zI a) (zI c) (zI o)) fun v2 W1 => bd2 (f_X10_setTrackOpen W1 (zI a) (zI c) (zI o)) fun v4 W3 => bdc (f_X10_thrown W3) fun v5 => if v5 = v2 then if v2 = 0 then if v4 = 0 then if lg_cmp (W3 31 0).toInt64 ((0 : Int32)).toInt64 = 0 then some W3 else none else if lg_cmp (W3 31 0).toInt64 ((1 : Int32)).toInt64 = 0 then some W3 else none else some W3 else none) = some W' ∧ z_RW b W' := by
  obtain ⟨s, g, h⟩ := z_Q_RW H
  obtain ⟨h0, hg, pi⟩ := id h
  obtain ⟨c0, c1, c2, c3, c4⟩ := pi.1.1
  have ct := z_Ctk pi.1 ha hc
  have gt : ∀ W1 : Nat → Nat → Int32, (∀ k, k < 251 → W1 21 k = zI (g k)) → f_X10_between (pk (W1 21) (W1 27)) (zI a) (zI c) = some (zI (z_oi (z_tk s a c))) := fun W1 h1 => by
    obtain ⟨g', e1, e2⟩ := z_pkv (T := W1 27) h1
    rw [e1, z_Gtk pi.1 (z_rel_c pi.1 pi.2.1 e2) ha hc]
  by_cases va : (0 ≤ a ∧ a < s 1) ∧ (0 ≤ c ∧ c < s 1)
  · cases e : z_tk s a c with
    | none =>
      rw [e] at ct gt
      have L : f_L_setTrackOpen W (zI a) (zI c) (zI o) = some (zI 2, W) := by
        unfold f_L_setTrackOpen f_X9_setTrackOpen f_X9_requireTrack
        rw [z_Cst h0 c1 ha, if_pos va.1, z_btr, z_Cst h0 c1 hc, if_pos va.2, z_btr, h0, ct, z_bdc]
        unfold z_oi
        simp (disch := omega) only [z_lit, z_n, z_add, z_sub, z_mul, z_neg, z_lt1, z_lt0, z_le1, z_le0, z_eq1, z_eq0, z_10, ↓reduceIte, z_v, z_upd, z_ue, z_un, z_ixn, z_ixo, z_ix0, z_ix1, z_ix2, z_ix3, z_ix4, z_ix5, z_ix6, Int.reduceToNat, z_inr, z_gd, ↓z_bnd, ↓z_jn, z_bdc, z_bd2, z_opn, z_ops, z_z01, z_Bt, z_Bf, z_btl, z_b2l, String.reduceEq]
      have R : f_X10_setTrackOpen W (zI a) (zI c) (zI o) = some (zI 0, z_th W 2) := by
        unfold f_X10_setTrackOpen
        rw [z_l0, z_Qnss h ha hc, if_pos va, z_bd2, if_pos rfl, gt _ (z_Q_th h).2.1, z_bdc]
        unfold z_oi
        simp (disch := omega) only [z_lit, z_n, z_add, z_sub, z_mul, z_neg, z_lt1, z_lt0, z_le1, z_le0, z_eq1, z_eq0, z_10, ↓reduceIte, z_v, z_upd, z_ue, z_un, z_ixn, z_ixo, z_ix0, z_ix1, z_ix2, z_ix3, z_ix4, z_ix5, z_ix6, Int.reduceToNat, z_inr, z_gd, ↓z_bnd, ↓z_jn, z_bdc, z_bd2, z_opn, z_ops, z_z01, z_Bt, z_Bf]
        rw [z_Gr1 z_the (by omega), z_thth]
        simp (disch := omega) only [z_lit, z_n, z_add, z_sub, z_mul, z_neg, z_lt1, z_lt0, z_le1, z_le0, z_eq1, z_eq0, z_10, ↓reduceIte, z_v, z_upd, z_ue, z_un, z_ixn, z_ixo, z_ix0, z_ix1, z_ix2, z_ix3, z_ix4, z_ix5, z_ix6, Int.reduceToNat, z_inr, z_gd, ↓z_bnd, ↓z_jn, z_bdc, z_bd2, z_opn, z_ops, z_z01, z_Bt, z_Bf]
      refine z_tailb (m := fun W1 => f_X10_setTrackOpen W1 (zI a) (zI c) (zI o)) (P := z_RW b) ⟨2, zI 0, W, z_th W 2, L, R, z_the, by omega, by omega, fun q => absurd q (by omega), z_RW_EQ H z_EQ_th⟩ (fun d W1 u W3 x1 x2 => ?_)
      rw [L] at x1
      obtain ⟨-, rfl⟩ := Prod.mk.inj (Option.some.inj x1)
      have x2' : f_X10_setTrackOpen W (zI a) (zI c) (zI o) = some (u, W3) := x2
      rw [R] at x2'
      obtain ⟨rfl, -⟩ := Prod.mk.inj (Option.some.inj x2')
      exact Or.inl rfl
    | some k =>
      have kb := z_tkb e c2
      rw [e] at ct gt
      have kbo := pi.1.2.1.2.1 k kb.2
      obtain ⟨Wa, r1, r2, r3⟩ := z_RW_rem H h0 hg pi
      have wa0 : Wa 0 = zV s := by rw [r2 0 (by omega) (by omega), h0]
      obtain ⟨s1, m1, m2, m3⟩ := z_open pi (i := k) (o := o) kb.1 ho
      obtain ⟨U, hU, u21, v1, v2, v3, v4, v5, v6⟩ := z_U0 r2 s1 (zI (s (39 + 4 * k + 3)))
      obtain ⟨Vr, q1, q2, q3, q4⟩ := r3 s1 (z_th U 0) v1 v2 v3
      have row : ∀ j, j < 251 → Vr 21 j = zI (g j) := fun j hj => by rw [q2 21 (by omega) (by omega), v4]; exact hg j hj
      obtain ⟨g', e1, e2⟩ := z_pkv (T := Vr 27) row
      have r' := z_rel_c pi.1 pi.2.1 e2
      have uns : f_X10_noStations U (zI a) (zI c) = some (zI 0, z_th U 0) := by
        unfold f_X10_noStations
        rw [z_Gns (W := U) (s := s) (by rw [u21, hg _ (by omega), pi.2.1.1 _ (by omega)]) c1 ha, z_o0 (by omega), z_bd2, z_l0, if_pos rfl, z_Gns (W := z_th U 0) (s := s) (by rw [z_thu (by omega), u21, hg _ (by omega), pi.2.1.1 _ (by omega)]) c1 hc, z_o0 (by omega), z_thth, z_bd2, if_pos rfl]
      have gto := gt (z_th U 0) (fun j hj => by rw [v4]; exact hg j hj)
      have q33 := r'.2.2.1 k kb.1 3 (by omega)
      unfold z_oi at ct gto
      unfold z_bo at kbo ho
      have L : f_L_setTrackOpen W (zI a) (zI c) (zI o) = some (zI 0, U) := by
        unfold f_L_setTrackOpen f_X9_setTrackOpen f_X9_requireTrack
        rw [z_Cst h0 c1 ha, if_pos va.1, z_btr, z_Cst h0 c1 hc, if_pos va.2, z_btr, h0, ct, z_bdc]
        simp (disch := omega) only [z_lit, z_n, z_add, z_sub, z_mul, z_neg, z_lt1, z_lt0, z_le1, z_le0, z_eq1, z_eq0, z_10, ↓reduceIte, z_v, z_upd, z_ue, z_un, z_ixn, z_ixo, z_ix0, z_ix1, z_ix2, z_ix3, z_ix4, z_ix5, z_ix6, Int.reduceToNat, z_inr, z_gd, ↓z_bnd, ↓z_jn, z_bdc, z_bd2, z_opn, z_ops, z_z01, z_Bt, z_Bf, z_btr, r1, wa0, m1, z_b2r]
        rw [hU]
        rcases kbo with q | q <;> rw [q] <;> simp (disch := omega) only [z_lit, z_n, z_add, z_sub, z_mul, z_neg, z_lt1, z_lt0, z_le1, z_le0, z_eq1, z_eq0, z_10, ↓reduceIte, z_v, z_upd, z_ue, z_un, z_ixn, z_ixo, z_ix0, z_ix1, z_ix2, z_ix3, z_ix4, z_ix5, z_ix6, Int.reduceToNat, z_inr, z_gd, ↓z_bnd, ↓z_jn, z_bdc, z_bd2, z_opn, z_ops, z_z01, z_Bt, z_Bf]
      have R : f_X10_setTrackOpen U (zI a) (zI c) (zI o) = some (zI (s (39 + 4 * k + 3)), w2 Vr 21 (39 + 4 * k + 3) (zI o)) := by
        unfold f_X10_setTrackOpen f_X10_isOpen
        rw [z_l0, uns, z_bd2, if_pos rfl, gto, z_bdc]
        simp (disch := omega) only [z_lit, z_n, z_add, z_sub, z_mul, z_neg, z_lt1, z_lt0, z_le1, z_le0, z_eq1, z_eq0, z_10, ↓reduceIte, z_v, z_upd, z_ue, z_un, z_ixn, z_ixo, z_ix0, z_ix1, z_ix2, z_ix3, z_ix4, z_ix5, z_ix6, Int.reduceToNat, z_inr, z_gd, ↓z_bnd, ↓z_jn, z_bdc, z_bd2, z_opn, z_ops, z_z01, z_Bt, z_Bf]
        rw [z_Gr0 z_the, z_bd2, if_pos rfl, q1, z_bdc, e1]
        rcases kbo with q | q <;> rcases ho with w | w <;> simp (disch := omega) only [z_lit, z_n, z_add, z_sub, z_mul, z_neg, z_lt1, z_lt0, z_le1, z_le0, z_eq1, z_eq0, z_10, ↓reduceIte, z_v, z_upd, z_ue, z_un, z_ixn, z_ixo, z_ix0, z_ix1, z_ix2, z_ix3, z_ix4, z_ix5, z_ix6, Int.reduceToNat, z_inr, z_gd, ↓z_bnd, ↓z_jn, z_bdc, z_bd2, z_opn, z_ops, z_z01, z_Bt, z_Bf, z_ofK, q33, q, w]
      refine z_tailb (m := fun W1 => f_X10_setTrackOpen W1 (zI a) (zI c) (zI o)) (P := z_RW b) ⟨0, zI (s (39 + 4 * k + 3)), U, _, L, R, ?_, by omega, by omega, fun _ => ?_, q4 _ (zu g (39 + 4 * k + 3) o) b (by omega) (fun u u1 _ _ => z_w2u u1) (z_w21 row) m2⟩ (fun d W1 u W3 x1 x2 => ?_)
      · rw [z_w2u (by omega), q3 2 (by omega)]
        exact z_the
      · rw [z_w2u (by omega), q2 31 (by omega) (by omega), v6]
      · rw [L] at x1
        obtain ⟨-, rfl⟩ := Prod.mk.inj (Option.some.inj x1)
        have x2' : f_X10_setTrackOpen U (zI a) (zI c) (zI o) = some (u, W3) := x2
        rw [R] at x2'
        obtain ⟨rfl, -⟩ := Prod.mk.inj (Option.some.inj x2')
        rcases kbo with q | q
        · exact Or.inl (by rw [q])
        · exact Or.inr (by rw [q])
  · have L : f_L_setTrackOpen W (zI a) (zI c) (zI o) = some (zI 1, W) := by
      unfold f_L_setTrackOpen f_X9_setTrackOpen
      rw [z_Cst h0 c1 ha, z_Cst h0 c1 hc]
      by_cases w : 0 ≤ a ∧ a < s 1
      · rw [if_pos w, z_btr, if_neg (fun q => va ⟨w, q⟩), z_btl, z_b2l, if_pos rfl, z_l1]
      · rw [if_neg w, z_btl, z_b2l, if_pos rfl, z_l1]
    have R : f_X10_setTrackOpen W (zI a) (zI c) (zI o) = some (zI 0, z_th W 1) := by
      unfold f_X10_setTrackOpen
      rw [z_l0, z_Qnss h ha hc, if_neg va]
      simp (disch := omega) only [z_lit, z_n, z_add, z_sub, z_mul, z_neg, z_lt1, z_lt0, z_le1, z_le0, z_eq1, z_eq0, z_10, ↓reduceIte, z_v, z_upd, z_ue, z_un, z_ixn, z_ixo, z_ix0, z_ix1, z_ix2, z_ix3, z_ix4, z_ix5, z_ix6, Int.reduceToNat, z_inr, z_gd, ↓z_bnd, ↓z_jn, z_bdc, z_bd2, z_opn, z_ops, z_z01, z_Bt, z_Bf]
    refine z_tailb (m := fun W1 => f_X10_setTrackOpen W1 (zI a) (zI c) (zI o)) (P := z_RW b) ⟨1, zI 0, W, z_th W 1, L, R, z_the, by omega, by omega, fun q => absurd q (by omega), z_RW_EQ H z_EQ_th⟩ (fun d W1 u W3 x1 x2 => ?_)
    rw [L] at x1
    obtain ⟨-, rfl⟩ := Prod.mk.inj (Option.some.inj x1)
    have x2' : f_X10_setTrackOpen W (zI a) (zI c) (zI o) = some (u, W3) := x2
    rw [R] at x2'
    obtain ⟨rfl, -⟩ := Prod.mk.inj (Option.some.inj x2')
    exact Or.inl rfl
end Chi
