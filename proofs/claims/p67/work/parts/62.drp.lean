/-! drop and fits -/
def x_fi (s : Nat → Int) (t i : Nat) : Bool := z_cl s t i && decide (z_cr s t < s (87 + 14 * t))
section Drp
variable {b : Int} {s s' : Nat → Int} {Y Y' : Nat → Nat → Int32}
theorem x_fari (h : z_inv b s) (hu : x_un s) (r : x_rel s Y) {x y : Int} (hx : 0 ≤ x ∧ x < s 1) (hy : 0 ≤ y ∧ y < s 1) : f_X10_far Y (zI x) (zI y) = some (zI (x_en (z_d s x y))) := by
  have e := x_far h hu r (a := x.toNat) (y := y.toNat) (by omega) (by omega)
  rw [Int.toNat_of_nonneg hx.1, Int.toNat_of_nonneg hy.1] at e
  exact e
theorem x_en_lt {v w : Int} (hv : 0 ≤ v ∧ v ≤ 1000) (hw : 0 ≤ w ∧ w ≤ 1000) : x_en v < x_en w ↔ v < w := by
  unfold x_en
  split <;> split <;> omega
theorem x_en_b {v : Int} (hv : 0 ≤ v ∧ v ≤ 1000) : 0 ≤ x_en v ∧ x_en v ≤ 9999 := by
  unfold x_en
  split <;> omega
theorem x_sp (h : z_inv b s) (r : x_rel s Y) {t : Nat} (ht : (t : Int) < s 3) {p : Int} (hp : 0 ≤ p ∧ p < s (87 + 14 * t + 1)) : Y (32 + t) p.toNat = zI (z_sp s t p) := (r.2.2.2.1 t ht).1.2.2 p.toNat (by omega)
theorem x_dr (h : z_inv b s) (hu : x_un s) (r : x_rel s Y) {t i : Nat} (ht : (t : Int) < s 3) (hi : (i : Int) < s 4) : ∀ (m N : Nat) (x p bs ls : Int), x + m = 6 → m < N → 1 ≤ x → ((s (87 + 14 * t + 9) = 0 → p = s (87 + 14 * t + 8) - x) ∧ (s (87 + 14 * t + 9) = 1 → p = s (87 + 14 * t + 8) + x)) → 0 ≤ ls ∧ ls ≤ 1000 → l_X10_drop_44 Y (zI (t : Int)) (zI (i : Int)) N (zI bs) (zI (x_en ls)) (zI p) = some (zI (z_dr s t (s (143 + 9 * i + 1)) m p bs ls)) := by
  have c1 := h.1.2.1
  have c3 := h.1.2.2.2.1
  have c4 := h.1.2.2.2.2
  have d := h.2.1.2.2 t (by omega)
  obtain ⟨-, a1, a2, -, a4, a5, -⟩ := h.2.2.2.2.1 t ht
  obtain ⟨-, p1, -⟩ := h.2.2.2.2.2.1 i hi
  obtain ⟨-, t8, t9, -⟩ := r.2.2.2.1 t ht
  have hT := x_hT h r
  have hL' := x_hL h r ht
  have q1 := r.2.2.2.2 i hi 1 (by omega)
  unfold z_bo at d
  intro m
  induction m with
  | zero =>
    intro N x p bs ls hx hN h1 hp hl
    obtain ⟨N, rfl⟩ : ∃ k, N = k + 1 := ⟨N - 1, by omega⟩
    rw [l_X10_drop_44]
    unfold z_dr
    by_cases c : p < 0
    · simp (disch := omega) only [z_lit, z_n, z_add, z_sub, z_mul, z_neg, z_ltT, z_ltF, z_leT, z_leF, z_eqT, z_eqF, z_v, z_upd, z_ue, z_un, z_ixn, z_ixo, z_ix0, z_ix1, z_ix2, z_ix3, z_ix4, z_ix5, z_ix6, Int.reduceToNat, z_inr, z_gd, z_bnd, z_jn, z_bdc, z_bd2, z_opn, z_ops, z_z01, if_true, if_false, Bool.false_eq_true]
    · simp (disch := omega) only [z_lit, z_n, z_add, z_sub, z_mul, z_neg, z_ltT, z_ltF, z_leT, z_leF, z_eqT, z_eqF, z_v, z_upd, z_ue, z_un, z_ixn, z_ixo, z_ix0, z_ix1, z_ix2, z_ix3, z_ix4, z_ix5, z_ix6, Int.reduceToNat, z_inr, z_gd, z_bnd, z_jn, z_bdc, z_bd2, z_opn, z_ops, z_z01, if_true, if_false, Bool.false_eq_true, hT, hL']
  | succ m ih =>
    intro N x p bs ls hx hN h1 hp hl
    obtain ⟨N, rfl⟩ : ∃ k, N = k + 1 := ⟨N - 1, by omega⟩
    have hb0 : Nat.blt 0 N = true := z_blt (by omega)
    have enl := x_en_b hl
    rw [l_X10_drop_44]
    unfold z_dr
    by_cases ok : z_ok s t p = true
    · rw [if_pos ok]
      have okp := of_decide_eq_true ok
      have sb := z_spb h ht okp
      have fa := x_fari h hu r sb p1
      have es := x_sp h r ht okp
      have db := z_db h (x := z_sp s t p) (y := s (143 + 9 * i + 1))
      have end1 := x_en_b db
      have lt := x_en_lt db hl
      by_cases c : z_d s (z_sp s t p) (s (143 + 9 * i + 1)) < ls
      · rw [if_pos c, ← ih N (x + 1) _ _ _ (by omega) (by omega) (by omega) (by constructor <;> intro q <;> omega) db]
        have c' := lt.2 c
        simp (disch := omega) only [z_lit, z_n, z_add, z_sub, z_mul, z_neg, z_ltT, z_ltF, z_leT, z_leF, z_eqT, z_eqF, z_v, z_upd, z_ue, z_un, z_ixn, z_ixo, z_ix0, z_ix1, z_ix2, z_ix3, z_ix4, z_ix5, z_ix6, Int.reduceToNat, z_inr, z_gd, z_bnd, z_jn, z_bdc, z_bd2, z_opn, z_ops, z_z01, if_true, if_false, Bool.false_eq_true, hT, hL', z_ixz, Int.toNat_natCast, es, q1, fa, t9, hb0]
      · rw [if_neg c, ← ih N (x + 1) _ _ _ (by omega) (by omega) (by omega) (by constructor <;> intro q <;> omega) hl]
        have c' : x_en ls ≤ x_en (z_d s (z_sp s t p) (s (143 + 9 * i + 1))) := by omega
        simp (disch := omega) only [z_lit, z_n, z_add, z_sub, z_mul, z_neg, z_ltT, z_ltF, z_leT, z_leF, z_eqT, z_eqF, z_v, z_upd, z_ue, z_un, z_ixn, z_ixo, z_ix0, z_ix1, z_ix2, z_ix3, z_ix4, z_ix5, z_ix6, Int.reduceToNat, z_inr, z_gd, z_bnd, z_jn, z_bdc, z_bd2, z_opn, z_ops, z_z01, if_true, if_false, Bool.false_eq_true, hT, hL', z_ixz, Int.toNat_natCast, es, q1, fa, t9, hb0]
    · rw [if_neg ok]
      have okp : ¬ (0 ≤ p ∧ p < s (87 + 14 * t + 1)) := fun q => ok (decide_eq_true q)
      by_cases c : p < 0
      · simp (disch := omega) only [z_lit, z_n, z_add, z_sub, z_mul, z_neg, z_ltT, z_ltF, z_leT, z_leF, z_eqT, z_eqF, z_v, z_upd, z_ue, z_un, z_ixn, z_ixo, z_ix0, z_ix1, z_ix2, z_ix3, z_ix4, z_ix5, z_ix6, Int.reduceToNat, z_inr, z_gd, z_bnd, z_jn, z_bdc, z_bd2, z_opn, z_ops, z_z01, if_true, if_false, Bool.false_eq_true]
      · simp (disch := omega) only [z_lit, z_n, z_add, z_sub, z_mul, z_neg, z_ltT, z_ltF, z_leT, z_leF, z_eqT, z_eqF, z_v, z_upd, z_ue, z_un, z_ixn, z_ixo, z_ix0, z_ix1, z_ix2, z_ix3, z_ix4, z_ix5, z_ix6, Int.reduceToNat, z_inr, z_gd, z_bnd, z_jn, z_bdc, z_bd2, z_opn, z_ops, z_z01, if_true, if_false, Bool.false_eq_true, hT, hL']
theorem x_dp (h : z_inv b s) (hu : x_un s) (r : x_rel s Y) {t i : Nat} (ht : (t : Int) < s 3) (hi : (i : Int) < s 4) : f_X10_drop Y (zI (t : Int)) (zI (i : Int)) = some (zI (z_dp s t (s (143 + 9 * i + 1)))) := by
  have c1 := h.1.2.1
  have c3 := h.1.2.2.2.1
  have c4 := h.1.2.2.2.2
  have d := h.2.1.2.2 t (by omega)
  obtain ⟨-, a1, a2, -, a4, a5, -⟩ := h.2.2.2.2.1 t ht
  obtain ⟨-, p1, -⟩ := h.2.2.2.2.2.1 i hi
  obtain ⟨-, t8, t9, -⟩ := r.2.2.2.1 t ht
  have hT := x_hT h r
  have hL' := x_hL h r ht
  have q1 := r.2.2.2.2 i hi 1 (by omega)
  have es := x_sp h r ht a4
  have cu := z_cub h ht
  have fa := x_fari h hu r cu p1
  unfold z_bo at d
  have e := x_dr h hu r ht hi 5 6 1 (s (87 + 14 * t + 8) + (2 * s (87 + 14 * t + 9) - 1)) (-1) (z_d s (z_cu s t) (s (143 + 9 * i + 1))) (by omega) (by omega) (by omega) (by constructor <;> intro q <;> omega) (z_db h)
  unfold f_X10_drop z_dp
  rw [← e]
  unfold z_cu at fa ⊢
  simp (disch := omega) only [z_lit, z_n, z_add, z_sub, z_mul, z_neg, z_ltT, z_ltF, z_leT, z_leF, z_eqT, z_eqF, z_v, z_upd, z_ue, z_un, z_ixn, z_ixo, z_ix0, z_ix1, z_ix2, z_ix3, z_ix4, z_ix5, z_ix6, Int.reduceToNat, z_inr, z_gd, z_bnd, z_jn, z_bdc, z_bd2, z_opn, z_ops, z_z01, if_true, if_false, Bool.false_eq_true, hT, hL', z_ixz, Int.toNat_natCast, t8, t9, es, q1, fa]
theorem x_fit (h : z_inv b s) (hb : b ≤ 1000000000) (hu : x_un s) (r : x_rel s Y) {t i : Nat} (ht : (t : Int) < s 3) (hi : (i : Int) < s 4) : f_X10_fits Y (zI (t : Int)) (zI (i : Int)) = some (zI (z_B (x_fi s t i))) := by
  obtain ⟨c0, c1, c2, c3, c4⟩ := h.1
  obtain ⟨a0, a1, a2, -, a4, a5, -⟩ := h.2.2.2.2.1 t ht
  obtain ⟨-, p1, -, p3, -, -, p7, -⟩ := h.2.2.2.2.2.1 i hi
  obtain ⟨⟨t61, t7, -⟩, t8, t9, -⟩ := r.2.2.2.1 t ht
  have q16 := r.1.2.2.2
  have hT := x_hT h r
  have hL' := x_hL h r ht
  have q3 := r.2.2.2.2 i hi 3 (by omega)
  have q7 := r.2.2.2.2 i hi 7 (by omega)
  have es := x_sp h r ht a4
  have cu := z_cub h ht
  have dp := x_dp h hu r ht hi
  have dpb := z_dpb h ht (y := s (143 + 9 * i + 1))
  have ca := x_ca h r (x := (t : Int)) (by unfold zR; omega)
  have cb := z_ct_b (p := z_ca s t) (s 4).toNat 0
  unfold f_X10_fits x_fi z_cl z_cr z_np z_wt z_he
  unfold z_cu at cu ⊢
  by_cases e1 : s (143 + 9 * i + 3) = z_sp s t (s (87 + 14 * t + 8))
  · rw [decide_eq_true e1]
    by_cases e2 : s 0 < s (143 + 9 * i + 7)
    · rw [decide_eq_true e2]
      simp (disch := omega) only [z_lit, z_n, z_add, z_sub, z_mul, z_neg, z_ltT, z_ltF, z_leT, z_leF, z_eqT, z_eqF, z_v, z_upd, z_ue, z_un, z_ixn, z_ixo, z_ix0, z_ix1, z_ix2, z_ix3, z_ix4, z_ix5, z_ix6, Int.reduceToNat, z_inr, z_gd, z_bnd, z_jn, z_bdc, z_bd2, z_opn, z_ops, z_z01, if_true, if_false, Bool.false_eq_true, x_ix7, hT, hL', z_ixz, Int.toNat_natCast, t8, es, q3, q7, q16]
      rfl
    · rw [decide_eq_false e2]
      by_cases e3 : z_ct (z_ca s t) 0 (s 4).toNat < s (87 + 14 * t)
      · rw [decide_eq_true e3]
        by_cases e4 : z_dp s t (s (143 + 9 * i + 1)) = -1
        · rw [decide_eq_false (fun q => q e4)]
          simp (disch := omega) only [z_lit, z_n, z_add, z_sub, z_mul, z_neg, z_ltT, z_ltF, z_leT, z_leF, z_eqT, z_eqF, z_v, z_upd, z_ue, z_un, z_ixn, z_ixo, z_ix0, z_ix1, z_ix2, z_ix3, z_ix4, z_ix5, z_ix6, Int.reduceToNat, z_inr, z_gd, z_bnd, z_jn, z_bdc, z_bd2, z_opn, z_ops, z_z01, if_true, if_false, Bool.false_eq_true, x_ix7, hT, hL', z_ixz, Int.toNat_natCast, t8, es, q3, q7, q16, ca, t7, dp]
          rfl
        · rw [decide_eq_true e4]
          simp (disch := omega) only [z_lit, z_n, z_add, z_sub, z_mul, z_neg, z_ltT, z_ltF, z_leT, z_leF, z_eqT, z_eqF, z_v, z_upd, z_ue, z_un, z_ixn, z_ixo, z_ix0, z_ix1, z_ix2, z_ix3, z_ix4, z_ix5, z_ix6, Int.reduceToNat, z_inr, z_gd, z_bnd, z_jn, z_bdc, z_bd2, z_opn, z_ops, z_z01, if_true, if_false, Bool.false_eq_true, x_ix7, hT, hL', z_ixz, Int.toNat_natCast, t8, es, q3, q7, q16, ca, t7, dp]
          rfl
      · rw [decide_eq_false e3, Bool.and_false]
        simp (disch := omega) only [z_lit, z_n, z_add, z_sub, z_mul, z_neg, z_ltT, z_ltF, z_leT, z_leF, z_eqT, z_eqF, z_v, z_upd, z_ue, z_un, z_ixn, z_ixo, z_ix0, z_ix1, z_ix2, z_ix3, z_ix4, z_ix5, z_ix6, Int.reduceToNat, z_inr, z_gd, z_bnd, z_jn, z_bdc, z_bd2, z_opn, z_ops, z_z01, if_true, if_false, Bool.false_eq_true, x_ix7, hT, hL', z_ixz, Int.toNat_natCast, t8, es, q3, q7, q16, ca, t7]
        rfl
  · rw [decide_eq_false e1]
    simp (disch := omega) only [z_lit, z_n, z_add, z_sub, z_mul, z_neg, z_ltT, z_ltF, z_leT, z_leF, z_eqT, z_eqF, z_v, z_upd, z_ue, z_un, z_ixn, z_ixo, z_ix0, z_ix1, z_ix2, z_ix3, z_ix4, z_ix5, z_ix6, Int.reduceToNat, z_inr, z_gd, z_bnd, z_jn, z_bdc, z_bd2, z_opn, z_ops, z_z01, if_true, if_false, Bool.false_eq_true, x_ix7, hT, hL', z_ixz, Int.toNat_natCast, t8, es, q3]
    rfl
end Drp
