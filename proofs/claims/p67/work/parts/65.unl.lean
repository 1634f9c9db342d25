/-! unloading -/
section Unl
variable {b : Int} {s s' : Nat → Int} {Y Y' : Nat → Nat → Int32}
theorem x_dl_ba (h : z_inv b s) (q : x_ba s) {i : Nat} (hi : (i : Int) < s 4) (hs : s (143 + 9 * i + 4) ≠ -1) {u : Nat → Int} (u6 : u 6 = s 6 + 1) (u5 : u 5 = s 5) (u4 : u 4 = s 4) (ui : u (143 + 9 * i + 4) = -1) (uo : ∀ k, k < 12 → k ≠ i → u (143 + 9 * k + 4) = s (143 + 9 * k + 4)) : x_ba u := by
  have c4 := h.1.2.2.2.2
  have np : z_np u = z_np s := by unfold z_np; rw [u4]
  have e4 : (z_np s : Int) = s 4 := by unfold z_np; omega
  unfold x_ba at q ⊢
  rw [np, u5, u6]
  have := z_ct_up (p := x_cq u) (q := x_cq s) (w := i) (z_np s) 0 (by omega) (by omega) (fun j _ hj hne => by
    unfold x_cq
    rw [uo j (by omega) hne]) (by
    unfold x_cq
    rw [ui]
    rfl) (by
    unfold x_cq
    exact decide_eq_true hs)
  omega
def x_Yd (Y : Nat → Nat → Int32) (i : Nat) (c : Int) : Nat → Nat → Int32 := w2 (w2 (w2 Y (40 + i) 4 (zI (-1))) (40 + i) 5 (zI (-1))) (40 + i) 8 (zI c)
def x_Yp (Y : Nat → Nat → Int32) (i : Nat) (p m e : Int) : Nat → Nat → Int32 := w2 (w2 (w2 (w2 (w2 Y (40 + i) 4 (zI (-1))) (40 + i) 5 (zI (-1))) (40 + i) 3 (zI p)) (40 + i) 6 (zI m)) (40 + i) 7 (zI e)
theorem x_dl_rel (h : z_inv b s) (r : x_rel s Y) {i : Nat} (hi : (i : Int) < s 4) (hs : s (143 + 9 * i + 3) = -1) : x_rel (z_dl s i) (x_Yd Y i (s 0)) := by
  have c4 := h.1.2.2.2.2
  refine x_rel_fr h r (fun k hk => z_dl_o (by omega) (by omega) (by omega) (by omega) (by omega)) (fun u hu => ?_) (fun j hj m hm => ?_)
  · unfold x_Yd
    rw [z_w2u (by omega), z_w2u (by omega), z_w2u (by omega)]
  · have q := r.2.2.2.2 j hj m hm
    unfold x_Yd
    by_cases c : j = i
    · subst c
      unfold z_dl
      have e := z_j9 hm
      rcases e with e | e | e | e | e | e | e | e | e <;> subst e
      · rw [z_w2k (by omega), z_w2k (by omega), z_w2k (by omega)]
        simp (disch := omega) only [z_un]
        exact q
      · rw [z_w2k (by omega), z_w2k (by omega), z_w2k (by omega)]
        simp (disch := omega) only [z_un]
        exact q
      · rw [z_w2k (by omega), z_w2k (by omega), z_w2k (by omega)]
        simp (disch := omega) only [z_un]
        exact q
      · rw [z_w2k (by omega), z_w2k (by omega), z_w2k (by omega), q, hs]
        simp (disch := omega) only [z_un, z_ue]
      · rw [z_w2k (by omega), z_w2k (by omega), z_w2e]
        simp (disch := omega) only [z_un, z_ue]
      · rw [z_w2k (by omega), z_w2e]
        simp (disch := omega) only [z_un, z_ue]
      · rw [z_w2k (by omega), z_w2k (by omega), z_w2k (by omega)]
        simp (disch := omega) only [z_un]
        exact q
      · rw [z_w2k (by omega), z_w2k (by omega), z_w2k (by omega)]
        simp (disch := omega) only [z_un]
        exact q
      · rw [z_w2e]
        simp (disch := omega) only [z_un, z_ue]
    · rw [z_w2u (by omega), z_w2u (by omega), z_w2u (by omega), z_dl_o (by omega) (by omega) (by omega) (by omega) (by omega)]
      exact q
theorem x_pd_rel (h : z_inv b s) (r : x_rel s Y) {i : Nat} {p e : Int} (hi : (i : Int) < s 4) : x_rel (z_pd s i p e) (x_Yp Y i p (s (143 + 9 * i + 6) + 1) e) := by
  have c4 := h.1.2.2.2.2
  refine x_rel_fr h r (fun k hk => z_pd_o (by omega) (by omega) (by omega) (by omega) (by omega) (by omega)) (fun u hu => ?_) (fun j hj m hm => ?_)
  · unfold x_Yp
    rw [z_w2u (by omega), z_w2u (by omega), z_w2u (by omega), z_w2u (by omega), z_w2u (by omega)]
  · have q := r.2.2.2.2 j hj m hm
    unfold x_Yp
    by_cases c : j = i
    · subst c
      unfold z_pd
      have e := z_j9 hm
      rcases e with e | e | e | e | e | e | e | e | e <;> subst e
      · rw [z_w2k (by omega), z_w2k (by omega), z_w2k (by omega), z_w2k (by omega), z_w2k (by omega)]
        simp (disch := omega) only [z_un]
        exact q
      · rw [z_w2k (by omega), z_w2k (by omega), z_w2k (by omega), z_w2k (by omega), z_w2k (by omega)]
        simp (disch := omega) only [z_un]
        exact q
      · rw [z_w2k (by omega), z_w2k (by omega), z_w2k (by omega), z_w2k (by omega), z_w2k (by omega)]
        simp (disch := omega) only [z_un]
        exact q
      · rw [z_w2k (by omega), z_w2k (by omega), z_w2e]
        simp (disch := omega) only [z_un, z_ue]
      · rw [z_w2k (by omega), z_w2k (by omega), z_w2k (by omega), z_w2k (by omega), z_w2e]
        simp (disch := omega) only [z_un, z_ue]
      · rw [z_w2k (by omega), z_w2k (by omega), z_w2k (by omega), z_w2e]
        simp (disch := omega) only [z_un, z_ue]
      · rw [z_w2k (by omega), z_w2e]
        simp (disch := omega) only [z_un, z_ue]
      · rw [z_w2e]
        simp (disch := omega) only [z_un, z_ue]
      · rw [z_w2k (by omega), z_w2k (by omega), z_w2k (by omega), z_w2k (by omega), z_w2k (by omega)]
        simp (disch := omega) only [z_un]
        exact q
    · rw [z_w2u (by omega), z_w2u (by omega), z_w2u (by omega), z_w2u (by omega), z_w2u (by omega), z_pd_o (by omega) (by omega) (by omega) (by omega) (by omega) (by omega)]
      exact q
theorem x_unload (hb : b ≤ 1000000000) (J : x_J b s) (r : x_rel s Y) {t p : Nat} (ht : (t : Int) < s 3) (hp : (p : Int) < s 1) : ∃ s' Y', f_X4_unload (zV s) t (zI p) = some (zV s') ∧ l_X10_arrives_190 (zI (t : Int)) (zI (p : Int)) FU Y (zI 0) = some Y' ∧ x_J b s' ∧ x_rel s' Y' ∧ z_fr s s' := by
  have h := J.1
  obtain ⟨⟨h0, h1, h2, h3, h4⟩, -, hst, -⟩ := id h
  have hin := (hst p hp).1
  unfold f_X4_unload
  simp (disch := omega) only [z_lit, z_n, z_add, z_sub, z_mul, z_neg, z_ltT, z_ltF, z_leT, z_leF, z_eqT, z_eqF, z_v, z_upd, z_ue, z_un, z_ixn, z_ixo, z_ix0, z_ix1, z_ix2, z_ix3, z_ix4, z_ix5, z_ix6, Int.reduceToNat, z_inr, z_gd, z_bnd, z_jn, z_bdc, z_bd2, z_opn, z_ops, z_z01, if_true, if_false, Bool.false_eq_true]
  have e := z_run2 (l := l_X4_unload_31 t (zI p) (zI (s 0 + s (7 + 4 * p + 2)))) (m := l_X10_arrives_190 (zI (t : Int)) (zI (p : Int))) (n := (s 4).toNat) (P := fun i S F => ∃ s', S = zV s' ∧ x_J b s' ∧ x_rel s' F ∧ z_fr s s') (Q := fun o1 o2 => ∃ s' Y', o1 = some (zV s') ∧ o2 = some Y' ∧ x_J b s' ∧ x_rel s' Y' ∧ z_fr s s') (fun N M i S F hi hq => ?_) (fun N M S F hq => ?_) (s 4).toNat 0 FU FU (zV s) Y (by omega) (by unfold FU; omega) (by unfold FU; omega) ⟨s, rfl, J, r, fun k _ => rfl⟩
  · exact e
  · obtain ⟨u, rfl, j1, i2, i3⟩ := hq
    have i1 := j1.1
    have c0 := i3 0 (by omega)
    have c1 := i3 1 (by omega)
    have c2 := i3 2 (by omega)
    have c3 := i3 3 (by omega)
    have c4 := i3 4 (by omega)
    have ci := i3 (7 + 4 * p + 2) (by omega)
    have hi2 : (i : Int) < u 4 := by omega
    obtain ⟨p0, p1, p2, p3, p4, p5, p7, p8, p9⟩ := i1.2.2.2.2.2.1 i hi2
    have v4 := i2.1.2.2.1
    have v0 := i2.1.2.2.2
    have vi := (i2.2.1 p (by omega)).2
    have q1 := i2.2.2.2.2 i hi2 1 (by omega)
    have q4 := i2.2.2.2.2 i hi2 4 (by omega)
    have q5 := i2.2.2.2.2 i hi2 5 (by omega)
    have q6 := i2.2.2.2.2 i hi2 6 (by omega)
    have hN' := x_hN i1 i2
    rw [c4] at v4
    rw [c0] at v0
    rw [ci] at vi
    rw [c1] at hN'
    rw [l_X4_unload_31, l_X10_arrives_190]
    by_cases a : u (143 + 9 * i + 4) = t
    · by_cases d : u (143 + 9 * i + 5) = p
      · by_cases f : u (143 + 9 * i + 1) = p
        · have un : x_un (z_dl u i) := x_un_c (s := u) (z_dl_o (by omega) (by omega) (by omega) (by omega) (by omega)) (by omega) (fun k _ _ => z_dl_o (by omega) (by omega) (by omega) (by omega) (by omega)) j1.2.1
          have ba : x_ba (z_dl u i) := by
            refine x_dl_ba i1 j1.2.2 hi2 (by omega) (u := z_dl u i) ?_ ?_ ?_ ?_ (fun k _ hk => z_dl_o (by omega) (by omega) (by omega) (by omega) (by omega)) <;> unfold z_dl <;> simp (disch := omega) only [z_un, z_ue]
          refine ⟨zV (z_dl u i), x_Yd F i (u 0), ⟨z_dl u i, rfl, ⟨z_dl_inv i1 hi2 (by omega), un, ba⟩, x_dl_rel i1 i2 hi2 (by omega), fun k hk => ?_⟩, ?_, ?_⟩
          · rw [z_dl_o (by omega) (by omega) (by omega) (by omega) (by omega)]
            exact i3 k hk
          · unfold z_dl
            simp (disch := omega) only [z_lit, z_n, z_add, z_sub, z_mul, z_neg, z_ltT, z_ltF, z_leT, z_leF, z_eqT, z_eqF, z_v, z_upd, z_ue, z_un, z_ixn, z_ixo, z_ix0, z_ix1, z_ix2, z_ix3, z_ix4, z_ix5, z_ix6, Int.reduceToNat, z_inr, z_gd, z_bnd, z_jn, z_bdc, z_bd2, z_opn, z_ops, z_z01, if_true, if_false, Bool.false_eq_true, c4, a, d, f, f_X2_deliver, c0]
          · unfold x_Yd
            simp (disch := omega) only [z_lit, z_n, z_add, z_sub, z_mul, z_neg, z_ltT, z_ltF, z_leT, z_leF, z_eqT, z_eqF, z_v, z_upd, z_ue, z_un, z_ixn, z_ixo, z_ix0, z_ix1, z_ix2, z_ix3, z_ix4, z_ix5, z_ix6, Int.reduceToNat, z_inr, z_gd, z_bnd, z_jn, z_bdc, z_bd2, z_opn, z_ops, z_z01, if_true, if_false, Bool.false_eq_true, x_ix7, x_ix8, z_w2u, z_w2k, v4, q4, a, q5, d, q1, f, v0, c0]
        · have un : x_un (z_pd u i p (s 0 + s (7 + 4 * p + 2))) := x_un_c (s := u) (z_pd_o (by omega) (by omega) (by omega) (by omega) (by omega) (by omega)) (by omega) (fun k _ _ => z_pd_o (by omega) (by omega) (by omega) (by omega) (by omega) (by omega)) j1.2.1
          have ba : x_ba (z_pd u i p (s 0 + s (7 + 4 * p + 2))) := by
            refine x_dl_ba i1 j1.2.2 hi2 (by omega) (u := z_pd u i p (s 0 + s (7 + 4 * p + 2))) ?_ ?_ ?_ ?_ (fun k _ hk => z_pd_o (by omega) (by omega) (by omega) (by omega) (by omega) (by omega)) <;> unfold z_pd <;> simp (disch := omega) only [z_un, z_ue]
          refine ⟨zV (z_pd u i p (s 0 + s (7 + 4 * p + 2))), x_Yp F i p (u (143 + 9 * i + 6) + 1) (s 0 + s (7 + 4 * p + 2)), ⟨_, rfl, ⟨z_pd_inv i1 hi2 (by omega) (by omega) (by omega), un, ba⟩, x_pd_rel i1 i2 hi2, fun k hk => ?_⟩, ?_, ?_⟩
          · rw [z_pd_o (by omega) (by omega) (by omega) (by omega) (by omega) (by omega)]
            exact i3 k hk
          · unfold z_pd
            simp (disch := omega) only [z_lit, z_n, z_add, z_sub, z_mul, z_neg, z_ltT, z_ltF, z_leT, z_leF, z_eqT, z_eqF, z_v, z_upd, z_ue, z_un, z_ixn, z_ixo, z_ix0, z_ix1, z_ix2, z_ix3, z_ix4, z_ix5, z_ix6, Int.reduceToNat, z_inr, z_gd, z_bnd, z_jn, z_bdc, z_bd2, z_opn, z_ops, z_z01, if_true, if_false, Bool.false_eq_true, c4, a, d, f, f_X2_transferTo]
          · unfold x_Yp
            simp (disch := omega) only [z_lit, z_n, z_add, z_sub, z_mul, z_neg, z_ltT, z_ltF, z_leT, z_leF, z_eqT, z_eqF, z_v, z_upd, z_ue, z_un, z_ixn, z_ixo, z_ix0, z_ix1, z_ix2, z_ix3, z_ix4, z_ix5, z_ix6, Int.reduceToNat, z_inr, z_gd, z_bnd, z_jn, z_bdc, z_bd2, z_opn, z_ops, z_z01, if_true, if_false, Bool.false_eq_true, x_ix7, x_ix8, z_w2u, z_w2k, x_hNw, hN', v4, q4, a, q5, d, q1, f, v0, vi, q6]
      · refine ⟨zV u, F, ⟨u, rfl, j1, i2, i3⟩, ?_, ?_⟩
        · simp (disch := omega) only [z_lit, z_n, z_add, z_sub, z_mul, z_neg, z_ltT, z_ltF, z_leT, z_leF, z_eqT, z_eqF, z_v, z_upd, z_ue, z_un, z_ixn, z_ixo, z_ix0, z_ix1, z_ix2, z_ix3, z_ix4, z_ix5, z_ix6, Int.reduceToNat, z_inr, z_gd, z_bnd, z_jn, z_bdc, z_bd2, z_opn, z_ops, z_z01, if_true, if_false, Bool.false_eq_true, c4, a, d]
        · simp (disch := omega) only [z_lit, z_n, z_add, z_sub, z_mul, z_neg, z_ltT, z_ltF, z_leT, z_leF, z_eqT, z_eqF, z_v, z_upd, z_ue, z_un, z_ixn, z_ixo, z_ix0, z_ix1, z_ix2, z_ix3, z_ix4, z_ix5, z_ix6, Int.reduceToNat, z_inr, z_gd, z_bnd, z_jn, z_bdc, z_bd2, z_opn, z_ops, z_z01, if_true, if_false, Bool.false_eq_true, v4, q4, a, q5, d]
    · refine ⟨zV u, F, ⟨u, rfl, j1, i2, i3⟩, ?_, ?_⟩
      · simp (disch := omega) only [z_lit, z_n, z_add, z_sub, z_mul, z_neg, z_ltT, z_ltF, z_leT, z_leF, z_eqT, z_eqF, z_v, z_upd, z_ue, z_un, z_ixn, z_ixo, z_ix0, z_ix1, z_ix2, z_ix3, z_ix4, z_ix5, z_ix6, Int.reduceToNat, z_inr, z_gd, z_bnd, z_jn, z_bdc, z_bd2, z_opn, z_ops, z_z01, if_true, if_false, Bool.false_eq_true, c4, a]
      · simp (disch := omega) only [z_lit, z_n, z_add, z_sub, z_mul, z_neg, z_ltT, z_ltF, z_leT, z_leF, z_eqT, z_eqF, z_v, z_upd, z_ue, z_un, z_ixn, z_ixo, z_ix0, z_ix1, z_ix2, z_ix3, z_ix4, z_ix5, z_ix6, Int.reduceToNat, z_inr, z_gd, z_bnd, z_jn, z_bdc, z_bd2, z_opn, z_ops, z_z01, if_true, if_false, Bool.false_eq_true, v4, q4, a]
  · obtain ⟨u, rfl, j1, i2, i3⟩ := hq
    have c4 := i3 4 (by omega)
    have v4 := i2.1.2.2.1
    rw [c4] at v4
    refine ⟨u, F, ?_, ?_, j1, i2, i3⟩
    · rw [l_X4_unload_31]
      simp (disch := omega) only [z_lit, z_n, z_add, z_sub, z_mul, z_neg, z_ltT, z_ltF, z_leT, z_leF, z_eqT, z_eqF, z_v, z_upd, z_ue, z_un, z_ixn, z_ixo, z_ix0, z_ix1, z_ix2, z_ix3, z_ix4, z_ix5, z_ix6, Int.reduceToNat, z_inr, z_gd, z_bnd, z_jn, z_bdc, z_bd2, z_opn, z_ops, z_z01, if_true, if_false, Bool.false_eq_true, c4]
    · rw [l_X10_arrives_190]
      simp (disch := omega) only [z_lit, z_n, z_add, z_sub, z_mul, z_neg, z_ltT, z_ltF, z_leT, z_leF, z_eqT, z_eqF, z_v, z_upd, z_ue, z_un, z_ixn, z_ixo, z_ix0, z_ix1, z_ix2, z_ix3, z_ix4, z_ix5, z_ix6, Int.reduceToNat, z_inr, z_gd, z_bnd, z_jn, z_bdc, z_bd2, z_opn, z_ops, z_z01, if_true, if_false, Bool.false_eq_true, v4]
end Unl
