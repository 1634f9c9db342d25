/-! one train's act, one minute -/
section Min
variable {b : Int} {s s' g g' : Nat → Int}
theorem z_GcuW (h : z_inv b s) {t : Nat} (ht : (t : Int) < s 3) (g8 : g (87 + 14 * t + 8) = s (87 + 14 * t + 8)) (gs : ∀ j : Nat, (j : Int) < s (87 + 14 * t + 1) → g (87 + 14 * t + 2 + j) = s (87 + 14 * t + 2 + j)) : f_X10_stationOf (zV g) (zI t) = some (zI (z_cu s t)) := by
  obtain ⟨⟨h0, h1, h2, h3, h4⟩, -, -, -, hn, -, -⟩ := id h
  obtain ⟨-, a1, -, -, a4, a5, -⟩ := hn t ht
  have e := gs (s (87 + 14 * t + 8)).toNat (by omega)
  unfold f_X10_stationOf f_X10_routeAt z_cu z_sp
  simp (disch := omega) only [z_lit, z_n, z_add, z_sub, z_mul, z_neg, z_lt1, z_lt0, z_le1, z_le0, z_eq1, z_eq0, z_10, ↓reduceIte, z_v, z_upd, z_ue, z_un, z_ixn, z_ixo, z_ix0, z_ix1, z_ix2, z_ix3, z_ix4, z_ix5, z_ix6, Int.reduceToNat, z_inr, z_gd, ↓z_bnd, ↓z_jn, z_bdc, z_bd2, z_opn, z_ops, z_z01, z_Bt, z_Bf, z_ofT, g8]
  rw [z_ixp (by omega) (by omega) (by omega), show (2 : Int).toNat = 2 from rfl, e]
theorem z_GnxW (h : z_inv b s) {t : Nat} (ht : (t : Int) < s 3) (g8 : g (87 + 14 * t + 8) = s (87 + 14 * t + 8)) (g9 : g (87 + 14 * t + 9) = 2 * s (87 + 14 * t + 9) - 1) (gs : ∀ j : Nat, (j : Int) < s (87 + 14 * t + 1) → g (87 + 14 * t + 2 + j) = s (87 + 14 * t + 2 + j)) : f_X10_nextOf (zV g) (zI t) = some (zI (z_nx s t)) := by
  obtain ⟨⟨h0, h1, h2, h3, h4⟩, -, -, -, hn, -, -⟩ := id h
  obtain ⟨-, a1, -, -, a4, a5, -⟩ := hn t ht
  have e := gs (s (87 + 14 * t + 8) + (2 * s (87 + 14 * t + 9) - 1)).toNat (by omega)
  unfold f_X10_nextOf f_X10_routeAt z_nx z_sp
  simp (disch := omega) only [z_lit, z_n, z_add, z_sub, z_mul, z_neg, z_lt1, z_lt0, z_le1, z_le0, z_eq1, z_eq0, z_10, ↓reduceIte, z_v, z_upd, z_ue, z_un, z_ixn, z_ixo, z_ix0, z_ix1, z_ix2, z_ix3, z_ix4, z_ix5, z_ix6, Int.reduceToNat, z_inr, z_gd, ↓z_bnd, ↓z_jn, z_bdc, z_bd2, z_opn, z_ops, z_z01, z_Bt, z_Bf, z_ofT, g8, g9]
  rw [z_ixp (by omega) (by omega) (by omega), show (2 : Int).toNat = 2 from rfl, e]
theorem z_GtkW (h : z_inv b s) {x y : Int} (hx : zR x) (hy : zR y) (g2 : g 2 = s 2) (gk : ∀ k : Nat, (k : Int) < s 2 → g (39 + 4 * k) = s (39 + 4 * k) ∧ g (39 + 4 * k + 1) = s (39 + 4 * k + 1)) : f_X10_between (zV g) (zI x) (zI y) = some (zI (z_oi (z_tk s x y))) := by
  obtain ⟨⟨h0, h1, h2, h3, h4⟩, -, -, ht, -⟩ := h
  unfold f_X10_between
  have e := z_fnd (l := l_X10_between_2 (zV g) (zI x) (zI y)) (H := fun k => some (zI (k : Int))) (E := some (zI (-1))) (n := (s 2).toNat) (p := z_cn s x y) (fun N i hi => ?_) (fun N => ?_) (s 2).toNat 0 FU (by omega) (by unfold FU; omega)
  · rw [z_lit 0]
    refine e.trans ?_
    unfold z_tk
    cases z_ff (z_cn s x y) 0 (s 2).toNat <;> rfl
  · have hi2 : (i : Int) < s 2 := by omega
    obtain ⟨t1, t2, -⟩ := ht i hi2
    obtain ⟨q0, q1⟩ := gk i hi2
    unfold zR at hx hy
    rw [l_X10_between_2]
    simp (disch := omega) only [z_lit, z_n, z_add, z_sub, z_mul, z_neg, z_ltT, z_ltF, z_leT, z_leF, z_eqT, z_eqF, z_v, z_upd, z_ue, z_un, z_ixn, z_ixo, z_ix0, z_ix1, z_ix2, z_ix3, z_ix4, z_ix5, z_ix6, Int.reduceToNat, z_inr, z_gd, z_bnd, z_jn, z_bdc, z_bd2, z_opn, z_ops, z_z01, if_true, if_false, Bool.false_eq_true, z_ofK, g2, Nat.add_zero, q0, q1]
    unfold z_cn
    by_cases c1 : s (39 + 4 * i) = x <;> by_cases c2 : s (39 + 4 * i + 1) = y <;> by_cases c3 : s (39 + 4 * i) = y <;> by_cases c4 : s (39 + 4 * i + 1) = x <;> simp (disch := omega) only [z_lit, z_n, z_add, z_sub, z_mul, z_neg, z_ltT, z_ltF, z_leT, z_leF, z_eqT, z_eqF, z_v, z_upd, z_ue, z_un, z_ixn, z_ixo, z_ix0, z_ix1, z_ix2, z_ix3, z_ix4, z_ix5, z_ix6, Int.reduceToNat, z_inr, z_gd, z_bnd, z_jn, z_bdc, z_bd2, z_opn, z_ops, z_z01, if_true, if_false, Bool.false_eq_true] <;> first | rw [decide_eq_true (by omega)]; rfl | rw [decide_eq_false (by omega)]; rfl
  · rw [l_X10_between_2]
    simp (disch := omega) only [z_lit, z_n, z_add, z_sub, z_mul, z_neg, z_ltT, z_ltF, z_leT, z_leF, z_eqT, z_eqF, z_v, z_upd, z_ue, z_un, z_ixn, z_ixo, z_ix0, z_ix1, z_ix2, z_ix3, z_ix4, z_ix5, z_ix6, Int.reduceToNat, z_inr, z_gd, z_bnd, z_jn, z_bdc, z_bd2, z_opn, z_ops, z_z01, if_true, if_false, Bool.false_eq_true, g2]
theorem z_act (hb : b ≤ 1000000000) (h : z_inv b s) (r : z_rel s g) {t : Nat} (ht : (t : Int) < s 3) : ∃ s' g', (∀ N, l_X4_passMinute_12 (N + 1) (zV s) (zI t) = l_X4_passMinute_12 N (zV s') (zI ((t : Int) + 1))) ∧ f_X10_act (zV g) (zI t) = some (zV g') ∧ z_inv b s' ∧ z_rel s' g' ∧ (∀ k, k < 5 → s' k = s k) ∧ z_sk 1 s g s' g' ∧ z_zk t g g' := by
  obtain ⟨⟨h0, h1, h2, h3, h4⟩, ⟨-, -, hbo⟩, -, hk, hn, -, -⟩ := id h
  have tn := hn t ht
  obtain ⟨a0, a1, a2, a3, a4, a5, a6⟩ := id tn
  obtain ⟨x0, x1, x2, x3, x4, x5, x6, x7, x8⟩ := r.2.2.2.1 t ht
  rcases x5 with ⟨v1, v2⟩ | ⟨v1, v2, k, v3, v4⟩
  · -- it stands
    obtain ⟨u, v, e1, e2, e3, e4, e5, e6⟩ := z_loads hb h r ht
    have u3 := e5 3 (by omega)
    obtain ⟨s', g', d1, d2, d3, d4, d5⟩ := z_depart e3 e4 (t := t) (by omega) (by rw [e5 _ (by omega)]; exact v1)
    refine ⟨s', g', fun N => ?_, ?_, d3, d4, fun k hk => by rw [(d5 k (by omega)).1, e5 k (by omega)], ?_, fun k k1 k2 k3 k4 => by rw [(d5 k (by omega)).2, e6 k (by omega) (by omega)]⟩
    · rw [l_X4_passMinute_12]
      unfold f_X8_isStanding
      simp (disch := omega) only [z_lit, z_n, z_add, z_sub, z_mul, z_neg, z_lt1, z_lt0, z_le1, z_le0, z_eq1, z_eq0, z_10, ↓reduceIte, z_v, z_upd, z_ue, z_un, z_ixn, z_ixo, z_ix0, z_ix1, z_ix2, z_ix3, z_ix4, z_ix5, z_ix6, Int.reduceToNat, z_inr, z_gd, ↓z_bnd, ↓z_jn, z_bdc, z_bd2, z_opn, z_ops, z_z01, z_Bt, z_Bf, v1, e2, d1]
    · unfold f_X10_act f_X10_stands
      simp (disch := omega) only [z_lit, z_n, z_add, z_sub, z_mul, z_neg, z_lt1, z_lt0, z_le1, z_le0, z_eq1, z_eq0, z_10, ↓reduceIte, z_v, z_upd, z_ue, z_un, z_ixn, z_ixo, z_ix0, z_ix1, z_ix2, z_ix3, z_ix4, z_ix5, z_ix6, Int.reduceToNat, z_inr, z_gd, ↓z_bnd, ↓z_jn, z_bdc, z_bd2, z_opn, z_ops, z_z01, z_Bt, z_Bf, z_ofT, v2, e1, d2]
    · intro i hi
      obtain ⟨q1, q2⟩ := d5 (7 + 4 * i + 3) (by omega)
      exact Or.inl ⟨by rw [q2, e6 _ (by omega) (by omega)], by rw [q1, e5 _ (by omega)]⟩
  · have tk := z_ff_s _ _ _ v3
    obtain ⟨-, -, tm⟩ := hk k (by omega)
    have cu := z_cub h ht
    have nx := z_nxb h ht
    have rk := r.2.2.1 k (by omega) 2 (by omega)
    have gc := z_GcuW (g := zu g (87 + 14 * t + 10) (g (87 + 14 * t + 10) + 1)) h ht (by rw [z_un (by omega)]; exact x3) (fun j hj => by rw [z_un (by omega)]; exact x2 j hj)
    have gn := z_GnxW (g := zu g (87 + 14 * t + 10) (g (87 + 14 * t + 10) + 1)) h ht (by rw [z_un (by omega)]; exact x3) (by rw [z_un (by omega)]; exact x4) (fun j hj => by rw [z_un (by omega)]; exact x2 j hj)
    have gt := z_GtkW (g := zu g (87 + 14 * t + 10) (g (87 + 14 * t + 10) + 1)) h (x := z_cu s t) (y := z_nx s t) (by unfold zR; omega) (by unfold zR; omega) (by rw [z_un (by omega)]; exact r.1 2 (by omega)) (fun k hk => by
      rw [z_un (by omega), z_un (by omega)]
      exact ⟨r.2.2.1 k hk 0 (by omega), r.2.2.1 k hk 1 (by omega)⟩)
    rw [v3] at gt
    unfold z_oi at gt
    have ft : z_ft t s (zu s (87 + 14 * t + 10) (s (87 + 14 * t + 10) - 1)) := z_ft_zu (by omega)
    have i1 : z_inv b (zu s (87 + 14 * t + 10) (s (87 + 14 * t + 10) - 1)) := by
      refine z_inv_ft h ft ht ?_ (fun i hi hi2 => ?_) ?_ ?_ ?_
      · rw [z_un (by omega)]
        exact hbo t (by omega)
      · rw [z_un (by omega)]
        exact (h.2.2.1 i hi2).2
      · rw [z_un (by omega)]
        exact a4
      · rw [z_un (by omega), z_un (by omega)]
        exact a5
      · rw [z_ue rfl]
        omega
    have es : ∀ k, k < 10 → zu s (87 + 14 * t + 10) (s (87 + 14 * t + 10) - 1) (87 + 14 * t + k) = s (87 + 14 * t + k) := fun k hk => z_un (by omega)
    have rel : ∀ w, ((s (87 + 14 * t + 10) - 1 = 0 ∧ w = -1) ∨ (0 < s (87 + 14 * t + 10) - 1 ∧ w = s (39 + 4 * k + 2) - (s (87 + 14 * t + 10) - 1))) → z_rel (zu s (87 + 14 * t + 10) (s (87 + 14 * t + 10) - 1)) (zu g (87 + 14 * t + 10) w) := by
      intro w hw
      refine z_rel_ft h r ft (fun k k0 k1 k2 => z_un (by omega)) ht ?_ ?_ ?_ ?_ ?_ ?_
      · rw [z_un (by omega), z_un (by omega)]
        exact x3
      · rw [z_un (by omega), z_un (by omega)]
        exact x4
      · unfold z_tv
        rw [z_ue rfl, z_ue rfl]
        rcases hw with ⟨w1, w2⟩ | ⟨w1, w2⟩
        · exact Or.inl ⟨w1, w2⟩
        · refine Or.inr ⟨w1, by omega, k, ?_, ?_⟩
          · have c1 : z_cu (zu s (87 + 14 * t + 10) (s (87 + 14 * t + 10) - 1)) t = z_cu s t := by
              unfold z_cu z_sp
              rw [es 8 (by omega), z_un (by omega)]
            have c2 : z_nx (zu s (87 + 14 * t + 10) (s (87 + 14 * t + 10) - 1)) t = z_nx s t := by
              unfold z_nx z_sp
              rw [es 8 (by omega), es 9 (by omega), z_un (by omega)]
            rw [c1, c2, z_tk_c (z_un (by omega)) (by omega) (fun k h1 h2 => z_un (by omega))]
            exact v3
          · rw [z_un (by omega)]
            exact w2
      · rw [z_un (by omega), z_un (by omega)]
        exact x6
      · rw [z_un (by omega), z_un (by omega)]
        exact x7
      · rw [z_un (by omega), z_un (by omega)]
        exact x8
    by_cases c : s (87 + 14 * t + 10) = 1
    · have i2 := rel (-1) (Or.inl ⟨by omega, rfl⟩)
      have i3 : z_rel (zu s (87 + 14 * t + 10) (s (87 + 14 * t + 10) - 1)) (zu (zu g (87 + 14 * t + 10) (g (87 + 14 * t + 10) + 1)) (87 + 14 * t + 10) (-1)) := by
        have : zu (zu g (87 + 14 * t + 10) (g (87 + 14 * t + 10) + 1)) (87 + 14 * t + 10) (-1) = zu g (87 + 14 * t + 10) (-1) := by
          funext j
          unfold zu
          split <;> rfl
        rw [this]
        exact i2
      obtain ⟨s', g', d1, d2, d3, d4, d5, d6, d7⟩ := z_arrive hb i1 i3 (by rw [z_un (by omega)]; exact ht) (by rw [z_ue rfl]; omega)
      refine ⟨s', g', fun N => ?_, ?_, d3, d4, fun k hk => by rw [d5 k hk, z_un (by omega)], fun i hi => ?_, fun k k1 k2 k3 k4 => by rw [d7 k k1 k2 k3 k4, z_un (by omega)]⟩
      · rw [c] at d1
        rw [l_X4_passMinute_12]
        unfold f_X8_isStanding
        simp (disch := omega) only [z_lit, z_n, z_add, z_sub, z_mul, z_neg, z_lt1, z_lt0, z_le1, z_le0, z_eq1, z_eq0, z_10, ↓reduceIte, z_v, z_upd, z_ue, z_un, z_ixn, z_ixo, z_ix0, z_ix1, z_ix2, z_ix3, z_ix4, z_ix5, z_ix6, Int.reduceToNat, z_inr, z_gd, ↓z_bnd, ↓z_jn, z_bdc, z_bd2, z_opn, z_ops, z_z01, z_Bt, z_Bf, c]
        rw [show (1 : Int) - 1 = 0 from rfl] at d1 ⊢
        simp (disch := omega) only [z_lit, z_n, z_add, z_sub, z_mul, z_neg, z_lt1, z_lt0, z_le1, z_le0, z_eq1, z_eq0, z_10, ↓reduceIte, z_v, z_upd, z_ue, z_un, z_ixn, z_ixo, z_ix0, z_ix1, z_ix2, z_ix3, z_ix4, z_ix5, z_ix6, Int.reduceToNat, z_inr, z_gd, ↓z_bnd, ↓z_jn, z_bdc, z_bd2, z_opn, z_ops, z_z01, z_Bt, z_Bf, d1]
      · unfold f_X10_act f_X10_stands
        simp (disch := omega) only [z_lit, z_n, z_add, z_sub, z_mul, z_neg, z_lt1, z_lt0, z_le1, z_le0, z_eq1, z_eq0, z_10, ↓reduceIte, z_v, z_upd, z_ue, z_un, z_ixn, z_ixo, z_ix0, z_ix1, z_ix2, z_ix3, z_ix4, z_ix5, z_ix6, Int.reduceToNat, z_inr, z_gd, ↓z_bnd, ↓z_jn, z_bdc, z_bd2, z_opn, z_ops, z_z01, z_Bt, z_Bf, z_ofT, z_ofK, gc, gn, gt, rk, d2]
      · have q := d6 i hi
        rw [z_un (by omega), z_un (by omega), z_un (by omega)] at q
        exact q
    · have i2 := rel (g (87 + 14 * t + 10) + 1) (Or.inr ⟨by omega, by omega⟩)
      refine ⟨_, _, fun N => ?_, ?_, i1, i2, fun k hk => z_un (by omega), fun i hi => Or.inl ⟨z_un (by omega), z_un (by omega)⟩, fun k k1 k2 k3 k4 => z_un (by omega)⟩
      · rw [l_X4_passMinute_12]
        unfold f_X8_isStanding
        simp (disch := omega) only [z_lit, z_n, z_add, z_sub, z_mul, z_neg, z_lt1, z_lt0, z_le1, z_le0, z_eq1, z_eq0, z_10, ↓reduceIte, z_v, z_upd, z_ue, z_un, z_ixn, z_ixo, z_ix0, z_ix1, z_ix2, z_ix3, z_ix4, z_ix5, z_ix6, Int.reduceToNat, z_inr, z_gd, ↓z_bnd, ↓z_jn, z_bdc, z_bd2, z_opn, z_ops, z_z01, z_Bt, z_Bf]
      · unfold f_X10_act f_X10_stands
        simp (disch := omega) only [z_lit, z_n, z_add, z_sub, z_mul, z_neg, z_lt1, z_lt0, z_le1, z_le0, z_eq1, z_eq0, z_10, ↓reduceIte, z_v, z_upd, z_ue, z_un, z_ixn, z_ixo, z_ix0, z_ix1, z_ix2, z_ix3, z_ix4, z_ix5, z_ix6, Int.reduceToNat, z_inr, z_gd, ↓z_bnd, ↓z_jn, z_bdc, z_bd2, z_opn, z_ops, z_z01, z_Bt, z_Bf, z_ofT, z_ofK, gc, gn, gt, rk]
theorem z_clk (h : z_inv b s) : z_inv (b + 1) (zu s 0 (s 0 + 1)) := by
  obtain ⟨⟨c0, c1, c2, c3, c4⟩, ⟨b1, b2, b3⟩, a1, a2, a3, a4, a5⟩ := h
  have u : ∀ k, 1 ≤ k → zu s 0 (s 0 + 1) k = s k := fun k hk => z_un (by omega)
  have u0 : zu s 0 (s 0 + 1) 0 = s 0 + 1 := z_ue rfl
  refine ⟨?_, ⟨fun i hi => by rw [u _ (by omega)]; exact b1 i hi, fun i hi => by rw [u _ (by omega)]; exact b2 i hi, fun i hi => by rw [u _ (by omega)]; exact b3 i hi⟩, fun i hi => ?_, fun k hk => ?_, fun t ht => ?_, fun i hi => ?_, ?_⟩
  · unfold z_cnt4
    rw [u0, u 1 (by omega), u 2 (by omega), u 3 (by omega), u 4 (by omega)]
    exact ⟨by omega, c1, c2, c3, c4⟩
  · rw [u 1 (by omega)] at hi
    have := a1 i hi
    unfold z_stn at this ⊢
    rw [u0, u _ (by omega), u _ (by omega)]
    omega
  · rw [u 2 (by omega)] at hk
    have := a2 k hk
    unfold z_trk at this ⊢
    rw [u _ (by omega), u _ (by omega), u _ (by omega), u _ (by omega)]
    exact this
  · rw [u 3 (by omega)] at ht
    exact z_trn_c (u 1 (by omega)) (u 2 (by omega)) (by omega) (fun k h1 h2 => u k (by omega)) (fun k hk => u _ (by omega)) (a3 t ht)
  · rw [u 4 (by omega)] at hi
    have := a4 i hi
    unfold z_pcl at this ⊢
    rw [u0, u (143 + 9 * i) (by omega), u (143 + 9 * i + 1) (by omega), u (143 + 9 * i + 2) (by omega), u (143 + 9 * i + 3) (by omega), u (143 + 9 * i + 4) (by omega), u (143 + 9 * i + 5) (by omega), u (143 + 9 * i + 7) (by omega), u (143 + 9 * i + 8) (by omega), u 1 (by omega), u 3 (by omega)]
    omega
  · exact z_dis_c (u 2 (by omega)) (by omega) (fun k h1 h2 => u k (by omega)) (fun k hk => u k (by omega)) a5
theorem z_clk_rel (h : z_inv b s) (r : z_rel s g) : z_rel (zu s 0 (s 0 + 1)) (zu g 0 (s 0 + 1)) := by
  obtain ⟨r0, r1, r2, r3, r4⟩ := r
  have u : ∀ k, 1 ≤ k → zu s 0 (s 0 + 1) k = s k := fun k hk => z_un (by omega)
  have v : ∀ k, 1 ≤ k → zu g 0 (s 0 + 1) k = g k := fun k hk => z_un (by omega)
  refine ⟨fun k hk => ?_, fun i hi => ?_, fun k hk j hj => ?_, fun t ht => ?_, fun i hi j hj => ?_⟩
  · by_cases c : k = 0
    · rw [c, z_ue rfl, z_ue rfl]
    · rw [u k (by omega), v k (by omega)]
      exact r0 k hk
  · rw [u 1 (by omega)] at hi
    rw [u _ (by omega), u _ (by omega), u _ (by omega), v _ (by omega), v _ (by omega), v _ (by omega)]
    exact r1 i hi
  · rw [u 2 (by omega)] at hk
    rw [u _ (by omega), v _ (by omega)]
    exact r2 k hk j hj
  · rw [u 3 (by omega)] at ht
    exact z_rtn_c h ht (u 2 (by omega)) (fun k h1 h2 => u k (by omega)) (fun k hk => u _ (by omega)) (fun k hk => v _ (by omega)) (r3 t ht)
  · rw [u 4 (by omega)] at hi
    rw [u _ (by omega), v _ (by omega)]
    exact r4 i hi j hj
/-- what a minute leaves alone in the reference's vector -/
def z_zm (s g g' : Nat → Int) : Prop := ∀ k, 7 ≤ k → k < 143 → (k < 39 → ∀ i, k ≠ 7 + 4 * i + 3) → (∀ t : Nat, (t : Int) < s 3 → ¬ (87 + 14 * t + 8 ≤ k ∧ k < 87 + 14 * t + 14)) → g' k = g k
theorem z_minute (hb : b + 1 ≤ 1000000000) (h : z_inv b s) (r : z_rel s g) : ∃ s' g', f_X4_passMinute (zV s) = some (zV s') ∧ f_X10_minute (zV g) = some (zV g') ∧ z_inv (b + 1) s' ∧ z_rel s' g' ∧ s' 0 = s 0 + 1 ∧ (∀ k, 1 ≤ k → k < 5 → s' k = s k) ∧ z_sk 4 (zu s 0 (s 0 + 1)) g s' g' ∧ z_zm s g g' := by
  have i1 := z_clk h
  have i2 := z_clk_rel h r
  obtain ⟨⟨h0, h1, h2, h3, h4⟩, -⟩ := id h
  have r0 := r.1 0 (by omega)
  unfold f_X4_passMinute f_X10_minute
  simp (disch := omega) only [z_lit, z_n, z_add, z_sub, z_mul, z_neg, z_lt1, z_lt0, z_le1, z_le0, z_eq1, z_eq0, z_10, ↓reduceIte, z_v, z_upd, z_ue, z_un, z_ixn, z_ixo, z_ix0, z_ix1, z_ix2, z_ix3, z_ix4, z_ix5, z_ix6, Int.reduceToNat, z_inr, z_gd, ↓z_bnd, ↓z_jn, z_bdc, z_bd2, z_opn, z_ops, z_z01, z_Bt, z_Bf, r0]
  have e := z_run2 (l := l_X4_passMinute_12) (m := l_X10_minute_9) (n := (s 3).toNat) (P := fun i S F => ∃ u v, S = zV u ∧ F = zV v ∧ z_inv (b + 1) u ∧ z_rel u v ∧ (∀ k, k < 5 → u k = zu s 0 (s 0 + 1) k) ∧ z_sk i (zu s 0 (s 0 + 1)) g u v ∧ z_zm s g v) (Q := fun o1 o2 => ∃ u v, o1 = some (zV u) ∧ o2 = some (zV v) ∧ z_inv (b + 1) u ∧ z_rel u v ∧ (∀ k, k < 5 → u k = zu s 0 (s 0 + 1) k) ∧ z_sk (s 3).toNat (zu s 0 (s 0 + 1)) g u v ∧ z_zm s g v) (fun N M i S F hi hq => ?_) (fun N M S F hq => ?_) (s 3).toNat 0 FU FU (zV (zu s 0 (s 0 + 1))) (zV (zu g 0 (s 0 + 1))) (by omega) (by unfold FU; omega) (by unfold FU; omega) ⟨_, _, rfl, rfl, i1, i2, fun k _ => rfl, fun i hi => Or.inl ⟨z_un (by omega), rfl⟩, fun k k1 k2 k3 k4 => z_un (by omega)⟩
  · obtain ⟨u, v, e1, e2, e3, e4, e5, e6, e7⟩ := e
    refine ⟨u, v, e1, e2, e3, e4, by rw [e5 0 (by omega), z_ue rfl], fun k k1 k2 => by rw [e5 k k2, z_un (by omega)], fun i hi => ?_, e7⟩
    rcases e6 i hi with q | ⟨q1, q2, q3⟩
    · exact Or.inl q
    · exact Or.inr ⟨q1, by omega, q3⟩
  · obtain ⟨u, v, rfl, rfl, p1, p2, p3, p4, p5⟩ := hq
    have u3 : u 3 = s 3 := by rw [p3 3 (by omega), z_un (by omega)]
    have v3 := p2.1 3 (by omega)
    obtain ⟨u', v', d1, d2, d3, d4, d5, d6, d7⟩ := z_act hb p1 p2 (t := i) (by omega)
    refine ⟨zV u', zV v', ⟨u', v', rfl, rfl, d3, d4, fun k hk => by rw [d5 k hk, p3 k hk], fun j hj => ?_, fun k k1 k2 k3 k4 => by rw [d7 k k1 k2 k3 (k4 i (by omega)), p5 k k1 k2 k3 k4]⟩, d1 N, ?_⟩
    · have q := d6 j hj
      rw [p3 0 (by omega)] at q
      rcases p4 j hj with ⟨w1, w2⟩ | ⟨w1, w2, w3⟩
      · rcases q with ⟨q1, q2⟩ | ⟨q1, q2, q3⟩
        · exact Or.inl ⟨by omega, by omega⟩
        · exact Or.inr ⟨by omega, by omega, q3⟩
      · rcases q with ⟨q1, q2⟩ | ⟨q1, q2, q3⟩
        · exact Or.inr ⟨by omega, by omega, by omega⟩
        · exact Or.inr ⟨by omega, by omega, q3⟩
    · rw [l_X10_minute_9]
      simp (disch := omega) only [z_lit, z_n, z_add, z_sub, z_mul, z_neg, z_lt1, z_lt0, z_le1, z_le0, z_eq1, z_eq0, z_10, ↓reduceIte, z_v, z_upd, z_ue, z_un, z_ixn, z_ixo, z_ix0, z_ix1, z_ix2, z_ix3, z_ix4, z_ix5, z_ix6, Int.reduceToNat, z_inr, z_gd, ↓z_bnd, ↓z_jn, z_bdc, z_bd2, z_opn, z_ops, z_z01, z_Bt, z_Bf, v3, u3, d2]
  · obtain ⟨u, v, rfl, rfl, p1, p2, p3, p4, p5⟩ := hq
    have u3 : u 3 = s 3 := by rw [p3 3 (by omega), z_un (by omega)]
    have v3 := p2.1 3 (by omega)
    refine ⟨u, v, ?_, ?_, p1, p2, p3, p4, p5⟩
    · rw [l_X4_passMinute_12]
      simp (disch := omega) only [z_lit, z_n, z_add, z_sub, z_mul, z_neg, z_lt1, z_lt0, z_le1, z_le0, z_eq1, z_eq0, z_10, ↓reduceIte, z_v, z_upd, z_ue, z_un, z_ixn, z_ixo, z_ix0, z_ix1, z_ix2, z_ix3, z_ix4, z_ix5, z_ix6, Int.reduceToNat, z_inr, z_gd, ↓z_bnd, ↓z_jn, z_bdc, z_bd2, z_opn, z_ops, z_z01, z_Bt, z_Bf, u3]
    · rw [l_X10_minute_9]
      simp (disch := omega) only [z_lit, z_n, z_add, z_sub, z_mul, z_neg, z_lt1, z_lt0, z_le1, z_le0, z_eq1, z_eq0, z_10, ↓reduceIte, z_v, z_upd, z_ue, z_un, z_ixn, z_ixo, z_ix0, z_ix1, z_ix2, z_ix3, z_ix4, z_ix5, z_ix6, Int.reduceToNat, z_inr, z_gd, ↓z_bnd, ↓z_jn, z_bdc, z_bd2, z_opn, z_ops, z_z01, z_Bt, z_Bf, v3, u3]
end Min
