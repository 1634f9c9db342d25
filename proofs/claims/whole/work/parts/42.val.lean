/-! values that both compute: tracks, counts -/
section Val
variable {b : Int} {s g : Nat → Int}
theorem z_ofP (i : Nat) : f_X10_ofParcel (zI (i : Int)) = some (zI ((143 + 9 * i : Nat) : Int)) := by
  unfold f_X10_ofParcel
  simp only [z_lit, z_mul, z_add]
  rfl
theorem z_ofT (i : Nat) : f_X10_ofTrain (zI (i : Int)) = some (zI ((87 + 14 * i : Nat) : Int)) := by
  unfold f_X10_ofTrain
  simp only [z_lit, z_mul, z_add]
  rfl
theorem z_ofK (i : Nat) : f_X10_ofTrack (zI (i : Int)) = some (zI ((39 + 4 * i : Nat) : Int)) := by
  unfold f_X10_ofTrack
  simp only [z_lit, z_mul, z_add]
  rfl
theorem z_ofS (i : Nat) : f_X10_ofStation (zI (i : Int)) = some (zI ((7 + 4 * i : Nat) : Int)) := by
  unfold f_X10_ofStation
  simp only [z_lit, z_mul, z_add]
  rfl
theorem z_FU : FU = 4096 := rfl
theorem z_con (h : z_inv b s) {x y : Int} (hx : zR x) (hy : zR y) {k : Nat} (hk : (k : Int) < s 2) : f_X7_connects (zV s) k (zI x) (zI y) = some (zI (if z_cn s x y k then 1 else 0)) := by
  obtain ⟨⟨h0, h1, h2, h3, h4⟩, -, -, ht, -⟩ := h
  obtain ⟨t1, t2, -⟩ := ht k hk
  unfold zR at hx hy
  unfold f_X7_connects z_cn
  by_cases c1 : s (39 + 4 * k) = x <;> by_cases c2 : s (39 + 4 * k + 1) = y <;> by_cases c3 : s (39 + 4 * k) = y <;> by_cases c4 : s (39 + 4 * k + 1) = x <;> simp (disch := omega) only [z_lit, z_n, z_add, z_sub, z_mul, z_neg, z_ltT, z_ltF, z_leT, z_leF, z_eqT, z_eqF, z_v, z_upd, z_ue, z_un, z_ixn, z_ixo, z_ix0, z_ix1, z_ix2, z_ix3, z_ix4, z_ix5, z_ix6, Int.reduceToNat, z_inr, z_gd, z_bnd, z_jn, z_bdc, z_bd2, z_opn, z_ops, z_z01, if_true, if_false, Bool.false_eq_true] <;> first | rw [decide_eq_true (by omega)]; rfl | rw [decide_eq_false (by omega)]; rfl
theorem z_Ctk (h : z_inv b s) {x y : Int} (hx : zR x) (hy : zR y) : f_X4_findTrack (zV s) (zI x) (zI y) = some (zI (z_oi (z_tk s x y))) := by
  have hh := h
  obtain ⟨⟨h0, h1, h2, h3, h4⟩, -⟩ := h
  unfold f_X4_findTrack
  have e := z_fnd (l := l_X4_findTrack_2 (zV s) (zI x) (zI y)) (H := fun k => some (zI (k : Int))) (E := some (zI (-1))) (n := (s 2).toNat) (p := z_cn s x y) (fun N i hi => ?_) (fun N => ?_) (s 2).toNat 0 FU (by omega) (by unfold FU; omega)
  · rw [z_lit 0]
    refine e.trans ?_
    unfold z_tk
    cases z_ff (z_cn s x y) 0 (s 2).toNat <;> rfl
  · rw [l_X4_findTrack_2]
    simp (disch := omega) only [z_lit, z_n, z_add, z_sub, z_mul, z_neg, z_ltT, z_ltF, z_leT, z_leF, z_eqT, z_eqF, z_v, z_upd, z_ue, z_un, z_ixn, z_ixo, z_ix0, z_ix1, z_ix2, z_ix3, z_ix4, z_ix5, z_ix6, Int.reduceToNat, z_inr, z_gd, z_bnd, z_jn, z_bdc, z_bd2, z_opn, z_ops, z_z01, if_true, if_false, Bool.false_eq_true, z_con hh hx hy]
    cases z_cn s x y i <;> simp (disch := omega) only [z_lit, z_n, z_add, z_sub, z_mul, z_neg, z_ltT, z_ltF, z_leT, z_leF, z_eqT, z_eqF, z_v, z_upd, z_ue, z_un, z_ixn, z_ixo, z_ix0, z_ix1, z_ix2, z_ix3, z_ix4, z_ix5, z_ix6, Int.reduceToNat, z_inr, z_gd, z_bnd, z_jn, z_bdc, z_bd2, z_opn, z_ops, z_z01, if_true, if_false, Bool.false_eq_true, if_true, if_false, Bool.false_eq_true] <;> rfl
  · rw [l_X4_findTrack_2]
    simp (disch := omega) only [z_lit, z_n, z_add, z_sub, z_mul, z_neg, z_ltT, z_ltF, z_leT, z_leF, z_eqT, z_eqF, z_v, z_upd, z_ue, z_un, z_ixn, z_ixo, z_ix0, z_ix1, z_ix2, z_ix3, z_ix4, z_ix5, z_ix6, Int.reduceToNat, z_inr, z_gd, z_bnd, z_jn, z_bdc, z_bd2, z_opn, z_ops, z_z01, if_true, if_false, Bool.false_eq_true]
theorem z_Gtk (h : z_inv b s) (r : z_rel s g) {x y : Int} (hx : zR x) (hy : zR y) : f_X10_between (zV g) (zI x) (zI y) = some (zI (z_oi (z_tk s x y))) := by
  obtain ⟨⟨h0, h1, h2, h3, h4⟩, -, -, ht, -⟩ := h
  obtain ⟨r0, -, r2, -⟩ := r
  have r02 := r0 2 (by omega)
  unfold f_X10_between
  have e := z_fnd (l := l_X10_between_2 (zV g) (zI x) (zI y)) (H := fun k => some (zI (k : Int))) (E := some (zI (-1))) (n := (s 2).toNat) (p := z_cn s x y) (fun N i hi => ?_) (fun N => ?_) (s 2).toNat 0 FU (by omega) (by unfold FU; omega)
  · rw [z_lit 0]
    refine e.trans ?_
    unfold z_tk
    cases z_ff (z_cn s x y) 0 (s 2).toNat <;> rfl
  · have hi2 : (i : Int) < s 2 := by omega
    obtain ⟨t1, t2, -⟩ := ht i hi2
    have q0 := r2 i hi2 0 (by omega)
    have q1 := r2 i hi2 1 (by omega)
    unfold zR at hx hy
    rw [l_X10_between_2]
    simp (disch := omega) only [z_lit, z_n, z_add, z_sub, z_mul, z_neg, z_ltT, z_ltF, z_leT, z_leF, z_eqT, z_eqF, z_v, z_upd, z_ue, z_un, z_ixn, z_ixo, z_ix0, z_ix1, z_ix2, z_ix3, z_ix4, z_ix5, z_ix6, Int.reduceToNat, z_inr, z_gd, z_bnd, z_jn, z_bdc, z_bd2, z_opn, z_ops, z_z01, if_true, if_false, Bool.false_eq_true, z_ofK, r02, q0, q1]
    unfold z_cn
    simp only [Nat.add_zero]
    by_cases c1 : s (39 + 4 * i) = x <;> by_cases c2 : s (39 + 4 * i + 1) = y <;> by_cases c3 : s (39 + 4 * i) = y <;> by_cases c4 : s (39 + 4 * i + 1) = x <;> simp (disch := omega) only [z_lit, z_n, z_add, z_sub, z_mul, z_neg, z_ltT, z_ltF, z_leT, z_leF, z_eqT, z_eqF, z_v, z_upd, z_ue, z_un, z_ixn, z_ixo, z_ix0, z_ix1, z_ix2, z_ix3, z_ix4, z_ix5, z_ix6, Int.reduceToNat, z_inr, z_gd, z_bnd, z_jn, z_bdc, z_bd2, z_opn, z_ops, z_z01, if_true, if_false, Bool.false_eq_true] <;> first | rw [decide_eq_true (by omega)]; rfl | rw [decide_eq_false (by omega)]; rfl
  · rw [l_X10_between_2]
    simp (disch := omega) only [z_lit, z_n, z_add, z_sub, z_mul, z_neg, z_ltT, z_ltF, z_leT, z_leF, z_eqT, z_eqF, z_v, z_upd, z_ue, z_un, z_ixn, z_ixo, z_ix0, z_ix1, z_ix2, z_ix3, z_ix4, z_ix5, z_ix6, Int.reduceToNat, z_inr, z_gd, z_bnd, z_jn, z_bdc, z_bd2, z_opn, z_ops, z_z01, if_true, if_false, Bool.false_eq_true, r02]
end Val
