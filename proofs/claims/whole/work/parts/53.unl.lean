section Unl
variable {b : Int} {s s' g g' : Nat → Int}
/-- parcel k drops here -/
def z_dh (s : Nat → Int) (t : Nat) (p : Int) (k : Nat) : Bool := decide (s (143 + 9 * k + 4) = t ∧ s (143 + 9 * k + 5) = p)
theorem z_unload (hb : b ≤ 1000000000) (h : z_inv b s) (r : z_rel s g) {t p : Nat} (ht : (t : Int) < s 3) (hp : (p : Int) < s 1) (hcu : z_cu s t = p) : ∃ s' g', f_X4_unload (zV s) t (zI p) = some (zV s') ∧ f_X10_unload (zV g) (zI t) = some (zV g') ∧ z_inv b s' ∧ z_rel s' g' ∧ z_fr s s' ∧ (∀ k, k < 143 → k ≠ 5 → k ≠ 6 → g' k = g k) := by
  obtain ⟨⟨h0, h1, h2, h3, h4⟩, -, hst, -⟩ := id h
  have hin := (hst p hp).1
  unfold f_X4_unload f_X10_unload
  simp (disch := omega) only [z_lit, z_n, z_add, z_sub, z_mul, z_neg, z_ltT, z_ltF, z_leT, z_leF, z_eqT, z_eqF, z_v, z_upd, z_ue, z_un, z_ixn, z_ixo, z_ix0, z_ix1, z_ix2, z_ix3, z_ix4, z_ix5, z_ix6, Int.reduceToNat, z_inr, z_gd, z_bnd, z_jn, z_bdc, z_bd2, z_opn, z_ops, z_z01, if_true, if_false, Bool.false_eq_true, z_Gcu h r ht, hcu]
  have e := z_run2 (l := l_X4_unload_31 t (zI p) (zI (s 0 + s (7 + 4 * p + 2)))) (m := l_X10_unload_8 (zI t) (zI p)) (n := (s 4).toNat) (P := fun i S F => ∃ s' g', S = zV s' ∧ F = zV g' ∧ z_inv b s' ∧ z_rel s' g' ∧ z_fr s s' ∧ (∀ k, k < 143 → k ≠ 5 → k ≠ 6 → g' k = g k)) (Q := fun o1 o2 => ∃ s' g', o1 = some (zV s') ∧ o2 = some (zV g') ∧ z_inv b s' ∧ z_rel s' g' ∧ z_fr s s' ∧ (∀ k, k < 143 → k ≠ 5 → k ≠ 6 → g' k = g k)) (fun N M i S F hi hq => ?_) (fun N M S F hq => ?_) (s 4).toNat 0 FU FU (zV s) (zV g) (by omega) (by unfold FU; omega) (by unfold FU; omega) ⟨s, g, rfl, rfl, h, r, fun k _ => rfl, fun k _ _ _ => rfl⟩
  · exact e
  · obtain ⟨u, v, rfl, rfl, i1, i2, i3, i4⟩ := hq
    have c0 := i3 0 (by omega)
    have c1 := i3 1 (by omega)
    have c3 := i3 3 (by omega)
    have c4 := i3 4 (by omega)
    have ci := i3 (7 + 4 * p + 2) (by omega)
    have hi2 : (i : Int) < u 4 := by omega
    obtain ⟨p0, p1, p2, p3, p4, p5, p7, p8, p9⟩ := i1.2.2.2.2.2.1 i hi2
    have v4 := i2.1 4 (by omega)
    have v0 := i2.1 0 (by omega)
    have v6 := i2.1 6 (by omega)
    have vi := (i2.2.1 p (by omega)).2.2
    have q1 := i2.2.2.2.2 i hi2 1 (by omega)
    have q4 := i2.2.2.2.2 i hi2 4 (by omega)
    have q5 := i2.2.2.2.2 i hi2 5 (by omega)
    have q6 := i2.2.2.2.2 i hi2 6 (by omega)
    rw [c4] at v4
    rw [c0] at v0
    rw [ci] at vi
    rw [l_X4_unload_31, l_X10_unload_8]
    by_cases a : u (143 + 9 * i + 4) = t
    · by_cases d : u (143 + 9 * i + 5) = p
      · by_cases f : u (143 + 9 * i + 1) = p
        · refine ⟨zV (z_dl u i), zV (z_gl v i), ⟨z_dl u i, z_gl v i, rfl, rfl, z_dl_inv i1 hi2 (by omega), z_dl_rel i1 i2 hi2 (by omega), fun k hk => ?_, fun k k1 k2 k3 => ?_⟩, ?_, ?_⟩
          · rw [z_dl_o (by omega) (by omega) (by omega) (by omega) (by omega)]
            exact i3 k hk
          · unfold z_gl
            simp (disch := omega) only [z_un]
            exact i4 k k1 k2 k3
          · unfold z_dl
            simp (disch := omega) only [z_lit, z_n, z_add, z_sub, z_mul, z_neg, z_ltT, z_ltF, z_leT, z_leF, z_eqT, z_eqF, z_v, z_upd, z_ue, z_un, z_ixn, z_ixo, z_ix0, z_ix1, z_ix2, z_ix3, z_ix4, z_ix5, z_ix6, Int.reduceToNat, z_inr, z_gd, z_bnd, z_jn, z_bdc, z_bd2, z_opn, z_ops, z_z01, if_true, if_false, Bool.false_eq_true, c4, a, d, f, f_X2_deliver, c0]
          · unfold z_gl
            simp (disch := omega) only [z_lit, z_n, z_add, z_sub, z_mul, z_neg, z_ltT, z_ltF, z_leT, z_leF, z_eqT, z_eqF, z_v, z_upd, z_ue, z_un, z_ixn, z_ixo, z_ix0, z_ix1, z_ix2, z_ix3, z_ix4, z_ix5, z_ix6, Int.reduceToNat, z_inr, z_gd, z_bnd, z_jn, z_bdc, z_bd2, z_opn, z_ops, z_z01, if_true, if_false, Bool.false_eq_true, z_ofP, v4, q4, a, q5, d, q1, f, v0, v6]
        · refine ⟨zV (z_pd u i p (s 0 + s (7 + 4 * p + 2))), zV (z_gp v i p (s 0 + s (7 + 4 * p + 2))), ⟨_, _, rfl, rfl, z_pd_inv i1 hi2 (by omega) (by omega) (by omega), z_pd_rel i1 i2 hi2, fun k hk => ?_, fun k k1 k2 k3 => ?_⟩, ?_, ?_⟩
          · rw [z_pd_o (by omega) (by omega) (by omega) (by omega) (by omega) (by omega)]
            exact i3 k hk
          · unfold z_gp
            simp (disch := omega) only [z_un]
            exact i4 k k1 k2 k3
          · unfold z_pd
            simp (disch := omega) only [z_lit, z_n, z_add, z_sub, z_mul, z_neg, z_ltT, z_ltF, z_leT, z_leF, z_eqT, z_eqF, z_v, z_upd, z_ue, z_un, z_ixn, z_ixo, z_ix0, z_ix1, z_ix2, z_ix3, z_ix4, z_ix5, z_ix6, Int.reduceToNat, z_inr, z_gd, z_bnd, z_jn, z_bdc, z_bd2, z_opn, z_ops, z_z01, if_true, if_false, Bool.false_eq_true, c4, a, d, f, f_X2_transferTo]
          · unfold z_gp
            simp (disch := omega) only [z_lit, z_n, z_add, z_sub, z_mul, z_neg, z_ltT, z_ltF, z_leT, z_leF, z_eqT, z_eqF, z_v, z_upd, z_ue, z_un, z_ixn, z_ixo, z_ix0, z_ix1, z_ix2, z_ix3, z_ix4, z_ix5, z_ix6, Int.reduceToNat, z_inr, z_gd, z_bnd, z_jn, z_bdc, z_bd2, z_opn, z_ops, z_z01, if_true, if_false, Bool.false_eq_true, z_ofP, z_ofS, v4, q4, a, q5, d, q1, f, v0, v6, vi, q6]
      · refine ⟨zV u, zV v, ⟨u, v, rfl, rfl, i1, i2, i3, i4⟩, ?_, ?_⟩
        · simp (disch := omega) only [z_lit, z_n, z_add, z_sub, z_mul, z_neg, z_ltT, z_ltF, z_leT, z_leF, z_eqT, z_eqF, z_v, z_upd, z_ue, z_un, z_ixn, z_ixo, z_ix0, z_ix1, z_ix2, z_ix3, z_ix4, z_ix5, z_ix6, Int.reduceToNat, z_inr, z_gd, z_bnd, z_jn, z_bdc, z_bd2, z_opn, z_ops, z_z01, if_true, if_false, Bool.false_eq_true, c4, a, d]
        · simp (disch := omega) only [z_lit, z_n, z_add, z_sub, z_mul, z_neg, z_ltT, z_ltF, z_leT, z_leF, z_eqT, z_eqF, z_v, z_upd, z_ue, z_un, z_ixn, z_ixo, z_ix0, z_ix1, z_ix2, z_ix3, z_ix4, z_ix5, z_ix6, Int.reduceToNat, z_inr, z_gd, z_bnd, z_jn, z_bdc, z_bd2, z_opn, z_ops, z_z01, if_true, if_false, Bool.false_eq_true, z_ofP, v4, q4, a, q5, d]
    · refine ⟨zV u, zV v, ⟨u, v, rfl, rfl, i1, i2, i3, i4⟩, ?_, ?_⟩
      · simp (disch := omega) only [z_lit, z_n, z_add, z_sub, z_mul, z_neg, z_ltT, z_ltF, z_leT, z_leF, z_eqT, z_eqF, z_v, z_upd, z_ue, z_un, z_ixn, z_ixo, z_ix0, z_ix1, z_ix2, z_ix3, z_ix4, z_ix5, z_ix6, Int.reduceToNat, z_inr, z_gd, z_bnd, z_jn, z_bdc, z_bd2, z_opn, z_ops, z_z01, if_true, if_false, Bool.false_eq_true, c4, a]
      · simp (disch := omega) only [z_lit, z_n, z_add, z_sub, z_mul, z_neg, z_ltT, z_ltF, z_leT, z_leF, z_eqT, z_eqF, z_v, z_upd, z_ue, z_un, z_ixn, z_ixo, z_ix0, z_ix1, z_ix2, z_ix3, z_ix4, z_ix5, z_ix6, Int.reduceToNat, z_inr, z_gd, z_bnd, z_jn, z_bdc, z_bd2, z_opn, z_ops, z_z01, if_true, if_false, Bool.false_eq_true, z_ofP, v4, q4, a]
  · obtain ⟨u, v, rfl, rfl, i1, i2, i3, i4⟩ := hq
    have c4 := i3 4 (by omega)
    have v4 := i2.1 4 (by omega)
    rw [c4] at v4
    refine ⟨u, v, ?_, ?_, i1, i2, i3, i4⟩
    · rw [l_X4_unload_31]
      simp (disch := omega) only [z_lit, z_n, z_add, z_sub, z_mul, z_neg, z_ltT, z_ltF, z_leT, z_leF, z_eqT, z_eqF, z_v, z_upd, z_ue, z_un, z_ixn, z_ixo, z_ix0, z_ix1, z_ix2, z_ix3, z_ix4, z_ix5, z_ix6, Int.reduceToNat, z_inr, z_gd, z_bnd, z_jn, z_bdc, z_bd2, z_opn, z_ops, z_z01, if_true, if_false, Bool.false_eq_true, c4]
    · rw [l_X10_unload_8]
      simp (disch := omega) only [z_lit, z_n, z_add, z_sub, z_mul, z_neg, z_ltT, z_ltF, z_leT, z_leF, z_eqT, z_eqF, z_v, z_upd, z_ue, z_un, z_ixn, z_ixo, z_ix0, z_ix1, z_ix2, z_ix3, z_ix4, z_ix5, z_ix6, Int.reduceToNat, z_inr, z_gd, z_bnd, z_jn, z_bdc, z_bd2, z_opn, z_ops, z_z01, if_true, if_false, Bool.false_eq_true, v4]
def z_ad (s : Nat → Int) (t : Nat) (p : Int) : Option Nat := z_ff (z_dh s t p) 0 (s 4).toNat
theorem z_Cad (h : z_inv b s) {t : Nat} {p : Int} (ht : (t : Int) < s 3) (hp : 0 ≤ p ∧ p < s 1) : f_X4_isDropOf (zV s) t (zI p) = some (zI (z_B (z_ad s t p).isSome)) := by
  obtain ⟨⟨h0, h1, h2, h3, h4⟩, -, -, -, -, hq, -⟩ := id h
  have e := z_fnd (l := l_X4_isDropOf_2 (zV s) t (zI p)) (H := fun k => some (zI 1)) (E := some (zI 0)) (n := (s 4).toNat) (p := z_dh s t p) (fun N i hi => ?_) (fun N => ?_) (s 4).toNat 0 FU (by omega) (by unfold FU; omega)
  · unfold f_X4_isDropOf
    rw [z_lit 0]
    refine e.trans ?_
    unfold z_ad
    cases z_ff (z_dh s t p) 0 (s 4).toNat <;> rfl
  · obtain ⟨p0, p1, p2, p3, p4, p5, p7, p8, p9⟩ := hq i (by omega)
    rw [l_X4_isDropOf_2]
    unfold z_dh
    by_cases a : s (143 + 9 * i + 4) = t
    · by_cases d : s (143 + 9 * i + 5) = p
      · rw [decide_eq_true ⟨a, d⟩]
        simp (disch := omega) only [z_lit, z_n, z_add, z_sub, z_mul, z_neg, z_ltT, z_ltF, z_leT, z_leF, z_eqT, z_eqF, z_v, z_upd, z_ue, z_un, z_ixn, z_ixo, z_ix0, z_ix1, z_ix2, z_ix3, z_ix4, z_ix5, z_ix6, Int.reduceToNat, z_inr, z_gd, z_bnd, z_jn, z_bdc, z_bd2, z_opn, z_ops, z_z01, if_true, if_false, Bool.false_eq_true, a, d]
      · rw [decide_eq_false (fun q => d q.2)]
        simp (disch := omega) only [z_lit, z_n, z_add, z_sub, z_mul, z_neg, z_ltT, z_ltF, z_leT, z_leF, z_eqT, z_eqF, z_v, z_upd, z_ue, z_un, z_ixn, z_ixo, z_ix0, z_ix1, z_ix2, z_ix3, z_ix4, z_ix5, z_ix6, Int.reduceToNat, z_inr, z_gd, z_bnd, z_jn, z_bdc, z_bd2, z_opn, z_ops, z_z01, if_true, if_false, Bool.false_eq_true, a]
    · rw [decide_eq_false (fun q => a q.1)]
      simp (disch := omega) only [z_lit, z_n, z_add, z_sub, z_mul, z_neg, z_ltT, z_ltF, z_leT, z_leF, z_eqT, z_eqF, z_v, z_upd, z_ue, z_un, z_ixn, z_ixo, z_ix0, z_ix1, z_ix2, z_ix3, z_ix4, z_ix5, z_ix6, Int.reduceToNat, z_inr, z_gd, z_bnd, z_jn, z_bdc, z_bd2, z_opn, z_ops, z_z01, if_true, if_false, Bool.false_eq_true]
  · rw [l_X4_isDropOf_2]
    simp (disch := omega) only [z_lit, z_n, z_add, z_sub, z_mul, z_neg, z_ltT, z_ltF, z_leT, z_leF, z_eqT, z_eqF, z_v, z_upd, z_ue, z_un, z_ixn, z_ixo, z_ix0, z_ix1, z_ix2, z_ix3, z_ix4, z_ix5, z_ix6, Int.reduceToNat, z_inr, z_gd, z_bnd, z_jn, z_bdc, z_bd2, z_opn, z_ops, z_z01, if_true, if_false, Bool.false_eq_true]
theorem z_Gad (h : z_inv b s) (r : z_rel s g) {t : Nat} (ht : (t : Int) < s 3) : f_X10_hasDropHere (zV g) (zI t) = some (zI (z_B (z_ad s t (z_cu s t)).isSome)) := by
  obtain ⟨⟨h0, h1, h2, h3, h4⟩, -, -, -, -, hq, -⟩ := id h
  have cu := z_cub h ht
  have v4 := r.1 4 (by omega)
  unfold f_X10_hasDropHere
  simp (disch := omega) only [z_lit, z_n, z_add, z_sub, z_mul, z_neg, z_ltT, z_ltF, z_leT, z_leF, z_eqT, z_eqF, z_v, z_upd, z_ue, z_un, z_ixn, z_ixo, z_ix0, z_ix1, z_ix2, z_ix3, z_ix4, z_ix5, z_ix6, Int.reduceToNat, z_inr, z_gd, z_bnd, z_jn, z_bdc, z_bd2, z_opn, z_ops, z_z01, if_true, if_false, Bool.false_eq_true, z_Gcu h r ht]
  have e := z_fnd (l := l_X10_hasDropHere_8 (zV g) (zI t) (zI (z_cu s t))) (H := fun k => some (zI 1)) (E := some (zI 0)) (n := (s 4).toNat) (p := z_dh s t (z_cu s t)) (fun N i hi => ?_) (fun N => ?_) (s 4).toNat 0 FU (by omega) (by unfold FU; omega)
  · refine e.trans ?_
    unfold z_ad
    cases z_ff (z_dh s t (z_cu s t)) 0 (s 4).toNat <;> rfl
  · have hi2 : (i : Int) < s 4 := by omega
    obtain ⟨p0, p1, p2, p3, p4, p5, p7, p8, p9⟩ := hq i hi2
    have q4 := r.2.2.2.2 i hi2 4 (by omega)
    have q5 := r.2.2.2.2 i hi2 5 (by omega)
    rw [l_X10_hasDropHere_8]
    unfold z_dh
    by_cases a : s (143 + 9 * i + 4) = t
    · by_cases d : s (143 + 9 * i + 5) = z_cu s t
      · rw [decide_eq_true ⟨a, d⟩]
        simp (disch := omega) only [z_lit, z_n, z_add, z_sub, z_mul, z_neg, z_ltT, z_ltF, z_leT, z_leF, z_eqT, z_eqF, z_v, z_upd, z_ue, z_un, z_ixn, z_ixo, z_ix0, z_ix1, z_ix2, z_ix3, z_ix4, z_ix5, z_ix6, Int.reduceToNat, z_inr, z_gd, z_bnd, z_jn, z_bdc, z_bd2, z_opn, z_ops, z_z01, if_true, if_false, Bool.false_eq_true, z_ofP, v4, q4, q5, a, d]
      · rw [decide_eq_false (fun q => d q.2)]
        simp (disch := omega) only [z_lit, z_n, z_add, z_sub, z_mul, z_neg, z_ltT, z_ltF, z_leT, z_leF, z_eqT, z_eqF, z_v, z_upd, z_ue, z_un, z_ixn, z_ixo, z_ix0, z_ix1, z_ix2, z_ix3, z_ix4, z_ix5, z_ix6, Int.reduceToNat, z_inr, z_gd, z_bnd, z_jn, z_bdc, z_bd2, z_opn, z_ops, z_z01, if_true, if_false, Bool.false_eq_true, z_ofP, v4, q4, q5, a]
    · rw [decide_eq_false (fun q => a q.1)]
      simp (disch := omega) only [z_lit, z_n, z_add, z_sub, z_mul, z_neg, z_ltT, z_ltF, z_leT, z_leF, z_eqT, z_eqF, z_v, z_upd, z_ue, z_un, z_ixn, z_ixo, z_ix0, z_ix1, z_ix2, z_ix3, z_ix4, z_ix5, z_ix6, Int.reduceToNat, z_inr, z_gd, z_bnd, z_jn, z_bdc, z_bd2, z_opn, z_ops, z_z01, if_true, if_false, Bool.false_eq_true, z_ofP, v4, q4, q5]
  · rw [l_X10_hasDropHere_8]
    simp (disch := omega) only [z_lit, z_n, z_add, z_sub, z_mul, z_neg, z_ltT, z_ltF, z_leT, z_leF, z_eqT, z_eqF, z_v, z_upd, z_ue, z_un, z_ixn, z_ixo, z_ix0, z_ix1, z_ix2, z_ix3, z_ix4, z_ix5, z_ix6, Int.reduceToNat, z_inr, z_gd, z_bnd, z_jn, z_bdc, z_bd2, z_opn, z_ops, z_z01, if_true, if_false, Bool.false_eq_true, v4]
end Unl
