/-! trains' places, distances, drop stations -/
theorem z_ixp {m : Nat} {z w : Int} (h0 : 0 ≤ z) (h1 : 0 ≤ w) (h : (m : Int) + z + w < 2147483648) : ix (zI ((m : Int) + z + w)) = m + z.toNat + w.toNat := by
  rw [show (m : Int) + z + w = ((m + z.toNat + w.toNat : Nat) : Int) by omega, z_ixn (by omega)]
def z_ok (s : Nat → Int) (t : Nat) (p : Int) : Bool := decide (0 ≤ p ∧ p < s (87 + 14 * t + 1))
def z_ah (s : Nat → Int) (t : Nat) (p : Int) : Int := if z_ok s t p then z_sp s t p else -1
def z_d (s : Nat → Int) (x y : Int) : Int := zT s x.toNat y.toNat
section Trn
variable {b : Int} {s g : Nat → Int}
theorem z_Csa (h : z_inv b s) {t : Nat} (ht : (t : Int) < s 3) {x p : Int} (hx : 0 ≤ x ∧ x < 7) (hp : (s (87 + 14 * t + 9) = 0 → p = s (87 + 14 * t + 8) - x) ∧ (s (87 + 14 * t + 9) = 1 → p = s (87 + 14 * t + 8) + x)) : f_X8_stationAhead (zV s) t (zI x) = some (zI (z_ah s t p)) := by
  obtain ⟨⟨h0, h1, h2, h3, h4⟩, ⟨-, -, hb⟩, -, -, hn, -, -⟩ := h
  obtain ⟨-, a1, a2, -, a4, a5, -⟩ := hn t ht
  have d := hb t (by omega)
  unfold f_X8_stationAhead z_ah z_sp
  rcases d with d | d
  · have e := hp.1 d
    by_cases c : 0 ≤ p ∧ p < s (87 + 14 * t + 1)
    · rw [show z_ok s t p = true from decide_eq_true c]
      rw [show s (87 + 14 * t + 2 + p.toNat) = s (87 + 14 * t + 2 + (s (87 + 14 * t + 8) - x).toNat) by rw [e]]
      simp (disch := omega) only [z_lit, z_n, z_add, z_sub, z_mul, z_neg, z_ltT, z_ltF, z_leT, z_leF, z_eqT, z_eqF, z_v, z_upd, z_ue, z_un, z_ixn, z_ixo, z_ix0, z_ix1, z_ix2, z_ix3, z_ix4, z_ix5, z_ix6, Int.reduceToNat, z_inr, z_gd, z_bnd, z_jn, z_bdc, z_bd2, z_opn, z_ops, z_z01, if_true, if_false, Bool.false_eq_true, if_true]
      rw [z_ixz (by omega) (by omega)]
    · rw [show z_ok s t p = false from decide_eq_false c]
      by_cases c2 : p < 0
      · simp (disch := omega) only [z_lit, z_n, z_add, z_sub, z_mul, z_neg, z_ltT, z_ltF, z_leT, z_leF, z_eqT, z_eqF, z_v, z_upd, z_ue, z_un, z_ixn, z_ixo, z_ix0, z_ix1, z_ix2, z_ix3, z_ix4, z_ix5, z_ix6, Int.reduceToNat, z_inr, z_gd, z_bnd, z_jn, z_bdc, z_bd2, z_opn, z_ops, z_z01, if_true, if_false, Bool.false_eq_true, if_false, Bool.false_eq_true]
      · simp (disch := omega) only [z_lit, z_n, z_add, z_sub, z_mul, z_neg, z_ltT, z_ltF, z_leT, z_leF, z_eqT, z_eqF, z_v, z_upd, z_ue, z_un, z_ixn, z_ixo, z_ix0, z_ix1, z_ix2, z_ix3, z_ix4, z_ix5, z_ix6, Int.reduceToNat, z_inr, z_gd, z_bnd, z_jn, z_bdc, z_bd2, z_opn, z_ops, z_z01, if_true, if_false, Bool.false_eq_true, if_false, Bool.false_eq_true]
  · have e := hp.2 d
    by_cases c : 0 ≤ p ∧ p < s (87 + 14 * t + 1)
    · rw [show z_ok s t p = true from decide_eq_true c]
      rw [show s (87 + 14 * t + 2 + p.toNat) = s (87 + 14 * t + 2 + (s (87 + 14 * t + 8) + x).toNat) by rw [e]]
      simp (disch := omega) only [z_lit, z_n, z_add, z_sub, z_mul, z_neg, z_ltT, z_ltF, z_leT, z_leF, z_eqT, z_eqF, z_v, z_upd, z_ue, z_un, z_ixn, z_ixo, z_ix0, z_ix1, z_ix2, z_ix3, z_ix4, z_ix5, z_ix6, Int.reduceToNat, z_inr, z_gd, z_bnd, z_jn, z_bdc, z_bd2, z_opn, z_ops, z_z01, if_true, if_false, Bool.false_eq_true, if_true]
      rw [z_ixz (by omega) (by omega)]
    · rw [show z_ok s t p = false from decide_eq_false c]
      by_cases c2 : p < 0
      · simp (disch := omega) only [z_lit, z_n, z_add, z_sub, z_mul, z_neg, z_ltT, z_ltF, z_leT, z_leF, z_eqT, z_eqF, z_v, z_upd, z_ue, z_un, z_ixn, z_ixo, z_ix0, z_ix1, z_ix2, z_ix3, z_ix4, z_ix5, z_ix6, Int.reduceToNat, z_inr, z_gd, z_bnd, z_jn, z_bdc, z_bd2, z_opn, z_ops, z_z01, if_true, if_false, Bool.false_eq_true, if_false, Bool.false_eq_true]
      · simp (disch := omega) only [z_lit, z_n, z_add, z_sub, z_mul, z_neg, z_ltT, z_ltF, z_leT, z_leF, z_eqT, z_eqF, z_v, z_upd, z_ue, z_un, z_ixn, z_ixo, z_ix0, z_ix1, z_ix2, z_ix3, z_ix4, z_ix5, z_ix6, Int.reduceToNat, z_inr, z_gd, z_bnd, z_jn, z_bdc, z_bd2, z_opn, z_ops, z_z01, if_true, if_false, Bool.false_eq_true, if_false, Bool.false_eq_true]
theorem z_Ccu (h : z_inv b s) {t : Nat} (ht : (t : Int) < s 3) : f_X8_stationAhead (zV s) t (zI 0) = some (zI (z_cu s t)) := by
  obtain ⟨-, -, -, -, a4, a5, -⟩ := h.2.2.2.2.1 t ht
  rw [z_Csa h ht (x := 0) (p := s (87 + 14 * t + 8)) (by omega) (by omega)]
  unfold z_ah z_cu
  rw [show z_ok s t (s (87 + 14 * t + 8)) = true from decide_eq_true a4]
  rfl
theorem z_Cnx (h : z_inv b s) {t : Nat} (ht : (t : Int) < s 3) : f_X8_stationAhead (zV s) t (zI 1) = some (zI (z_nx s t)) := by
  obtain ⟨-, -, -, -, a4, a5, -⟩ := h.2.2.2.2.1 t ht
  rw [z_Csa h ht (x := 1) (p := s (87 + 14 * t + 8) + (2 * s (87 + 14 * t + 9) - 1)) (by omega) (by omega)]
  unfold z_ah z_nx
  rw [show z_ok s t (s (87 + 14 * t + 8) + (2 * s (87 + 14 * t + 9) - 1)) = true from decide_eq_true a5]
  rfl
theorem z_spb (h : z_inv b s) {t : Nat} (ht : (t : Int) < s 3) {p : Int} (hp : 0 ≤ p ∧ p < s (87 + 14 * t + 1)) : 0 ≤ z_sp s t p ∧ z_sp s t p < s 1 := by
  obtain ⟨-, -, a2, -⟩ := h.2.2.2.2.1 t ht
  exact a2 p.toNat (by omega)
theorem z_cub (h : z_inv b s) {t : Nat} (ht : (t : Int) < s 3) : 0 ≤ z_cu s t ∧ z_cu s t < s 1 := z_spb h ht (h.2.2.2.2.1 t ht).2.2.2.2.1
theorem z_nxb (h : z_inv b s) {t : Nat} (ht : (t : Int) < s 3) : 0 ≤ z_nx s t ∧ z_nx s t < s 1 := z_spb h ht (h.2.2.2.2.1 t ht).2.2.2.2.2.1
theorem z_Gsp (h : z_inv b s) (r : z_rel s g) {t : Nat} (ht : (t : Int) < s 3) {p : Int} (hp : 0 ≤ p ∧ p < s (87 + 14 * t + 1)) : f_X10_routeAt (zV g) (zI t) (zI p) = some (zI (z_sp s t p)) := by
  obtain ⟨⟨h0, h1, h2, h3, h4⟩, -, -, -, hn, -, -⟩ := h
  obtain ⟨-, a1, -⟩ := hn t ht
  obtain ⟨-, -, r2, -⟩ := r.2.2.2.1 t ht
  have e := r2 p.toNat (by omega)
  unfold f_X10_routeAt z_sp
  simp (disch := omega) only [z_lit, z_n, z_add, z_sub, z_mul, z_neg, z_ltT, z_ltF, z_leT, z_leF, z_eqT, z_eqF, z_v, z_upd, z_ue, z_un, z_ixn, z_ixo, z_ix0, z_ix1, z_ix2, z_ix3, z_ix4, z_ix5, z_ix6, Int.reduceToNat, z_inr, z_gd, z_bnd, z_jn, z_bdc, z_bd2, z_opn, z_ops, z_z01, if_true, if_false, Bool.false_eq_true, z_ofT]
  rw [z_ixp (by omega) (by omega) (by omega), show (2 : Int).toNat = 2 from rfl, e]
theorem z_Gcu (h : z_inv b s) (r : z_rel s g) {t : Nat} (ht : (t : Int) < s 3) : f_X10_stationOf (zV g) (zI t) = some (zI (z_cu s t)) := by
  have e := z_Gsp h r ht (h.2.2.2.2.1 t ht).2.2.2.2.1
  obtain ⟨⟨h0, h1, h2, h3, h4⟩, -⟩ := h
  have q := (r.2.2.2.1 t ht).2.2.2.1
  unfold f_X10_stationOf
  simp (disch := omega) only [z_lit, z_n, z_add, z_sub, z_mul, z_neg, z_ltT, z_ltF, z_leT, z_leF, z_eqT, z_eqF, z_v, z_upd, z_ue, z_un, z_ixn, z_ixo, z_ix0, z_ix1, z_ix2, z_ix3, z_ix4, z_ix5, z_ix6, Int.reduceToNat, z_inr, z_gd, z_bnd, z_jn, z_bdc, z_bd2, z_opn, z_ops, z_z01, if_true, if_false, Bool.false_eq_true, z_ofT, q, e]
  rfl
theorem z_Gnx (h : z_inv b s) (r : z_rel s g) {t : Nat} (ht : (t : Int) < s 3) : f_X10_nextOf (zV g) (zI t) = some (zI (z_nx s t)) := by
  have e := z_Gsp h r ht (h.2.2.2.2.1 t ht).2.2.2.2.2.1
  obtain ⟨⟨h0, h1, h2, h3, h4⟩, -⟩ := h
  have q := (r.2.2.2.1 t ht).2.2.2.1
  have q2 := (r.2.2.2.1 t ht).2.2.2.2.1
  unfold f_X10_nextOf
  simp (disch := omega) only [z_lit, z_n, z_add, z_sub, z_mul, z_neg, z_ltT, z_ltF, z_leT, z_leF, z_eqT, z_eqF, z_v, z_upd, z_ue, z_un, z_ixn, z_ixo, z_ix0, z_ix1, z_ix2, z_ix3, z_ix4, z_ix5, z_ix6, Int.reduceToNat, z_inr, z_gd, z_bnd, z_jn, z_bdc, z_bd2, z_opn, z_ops, z_z01, if_true, if_false, Bool.false_eq_true, z_ofT, q, q2, e]
  rfl
theorem z_Cdi {x y : Int} (hx : 0 ≤ x ∧ x < 8) (hy : 0 ≤ y ∧ y < 8) : f_X4_distanceBetween (zV s) (zI x) (zI y) = some (zI (z_d s x y)) := by
  have e : z_d s x y = s (251 + (x.toNat * 8 + y.toNat)) := by
    unfold z_d zT
    rw [if_pos (by omega)]
  rw [e]
  unfold f_X4_distanceBetween
  simp (disch := omega) only [z_lit, z_n, z_add, z_sub, z_mul, z_neg, z_ltT, z_ltF, z_leT, z_leF, z_eqT, z_eqF, z_v, z_upd, z_ue, z_un, z_ixn, z_ixo, z_ix0, z_ix1, z_ix2, z_ix3, z_ix4, z_ix5, z_ix6, Int.reduceToNat, z_inr, z_gd, z_bnd, z_jn, z_bdc, z_bd2, z_opn, z_ops, z_z01, if_true, if_false, Bool.false_eq_true]
  rw [z_ixz (by omega) (by omega), show (x * 8 + y).toNat = x.toNat * 8 + y.toNat by omega]
theorem z_Cdn {y : Int} : f_X4_distanceBetween (zV s) (zI (-1)) (zI y) = some (zI 1000) := by
  unfold f_X4_distanceBetween
  simp (disch := omega) only [z_lit, z_n, z_add, z_sub, z_mul, z_neg, z_ltT, z_ltF, z_leT, z_leF, z_eqT, z_eqF, z_v, z_upd, z_ue, z_un, z_ixn, z_ixo, z_ix0, z_ix1, z_ix2, z_ix3, z_ix4, z_ix5, z_ix6, Int.reduceToNat, z_inr, z_gd, z_bnd, z_jn, z_bdc, z_bd2, z_opn, z_ops, z_z01, if_true, if_false, Bool.false_eq_true]
/-- the drop station, m places of the route from p on -/
def z_dr (s : Nat → Int) (t : Nat) (y : Int) : Nat → Int → Int → Int → Int
  | 0, _, bs, _ => bs
  | m + 1, p, bs, ls => if z_ok s t p then (if z_d s (z_sp s t p) y < ls then z_dr s t y m (p + (2 * s (87 + 14 * t + 9) - 1)) (z_sp s t p) (z_d s (z_sp s t p) y) else z_dr s t y m (p + (2 * s (87 + 14 * t + 9) - 1)) bs ls) else bs
def z_dp (s : Nat → Int) (t : Nat) (y : Int) : Int := z_dr s t y 5 (s (87 + 14 * t + 8) + (2 * s (87 + 14 * t + 9) - 1)) (-1) (z_d s (z_cu s t) y)
theorem z_dr_o {t : Nat} {y p bs ls : Int} (h : z_ok s t p = false) : ∀ m, z_dr s t y m p bs ls = bs
  | 0 => rfl
  | m + 1 => by
    unfold z_dr
    rw [h]
    rfl
theorem z_db (h : z_inv b s) {x y : Int} : 0 ≤ z_d s x y ∧ z_d s x y ≤ 1000 := by
  have q := h.2.2.2.2.2.2.1 x.toNat y.toNat
  exact q
theorem z_Cdr (h : z_inv b s) {t : Nat} (ht : (t : Int) < s 3) {y : Int} (hy : 0 ≤ y ∧ y < 8) : ∀ (m N : Nat) (x p bs ls : Int), x + m = 6 → m < N → 1 ≤ x → ((s (87 + 14 * t + 9) = 0 → p = s (87 + 14 * t + 8) - x) ∧ (s (87 + 14 * t + 9) = 1 → p = s (87 + 14 * t + 8) + x)) → 0 ≤ ls ∧ ls ≤ 1000 → l_X4_findDrop_17 (zV s) t (zI y) N (zI bs) (zI ls) (zI x) = some (zI (z_dr s t y m p bs ls)) := by
  have d := h.2.1.2.2 t (by have := h.1.2.2.2.1; omega)
  obtain ⟨-, a1, a2, -, a4, a5, -⟩ := h.2.2.2.2.1 t ht
  have h1 := h.1.2.1
  intro m
  induction m with
  | zero =>
    intro N x p bs ls hm hN hx hp hl
    obtain ⟨N, rfl⟩ : ∃ m, N = m + 1 := ⟨N - 1, by omega⟩
    rw [l_X4_findDrop_17]
    simp (disch := omega) only [z_lit, z_n, z_add, z_sub, z_mul, z_neg, z_ltT, z_ltF, z_leT, z_leF, z_eqT, z_eqF, z_v, z_upd, z_ue, z_un, z_ixn, z_ixo, z_ix0, z_ix1, z_ix2, z_ix3, z_ix4, z_ix5, z_ix6, Int.reduceToNat, z_inr, z_gd, z_bnd, z_jn, z_bdc, z_bd2, z_opn, z_ops, z_z01, if_true, if_false, Bool.false_eq_true]
    rfl
  | succ m ih =>
    intro N x p bs ls hm hN hx hp hl
    obtain ⟨N, rfl⟩ : ∃ m, N = m + 1 := ⟨N - 1, by omega⟩
    have hq : ((s (87 + 14 * t + 9) = 0 → p + (2 * s (87 + 14 * t + 9) - 1) = s (87 + 14 * t + 8) - (x + 1)) ∧ (s (87 + 14 * t + 9) = 1 → p + (2 * s (87 + 14 * t + 9) - 1) = s (87 + 14 * t + 8) + (x + 1))) := by
      refine ⟨fun q => ?_, fun q => ?_⟩
      · have := hp.1 q; omega
      · have := hp.2 q; omega
    rw [l_X4_findDrop_17]
    simp (disch := omega) only [z_lit, z_n, z_add, z_sub, z_mul, z_neg, z_ltT, z_ltF, z_leT, z_leF, z_eqT, z_eqF, z_v, z_upd, z_ue, z_un, z_ixn, z_ixo, z_ix0, z_ix1, z_ix2, z_ix3, z_ix4, z_ix5, z_ix6, Int.reduceToNat, z_inr, z_gd, z_bnd, z_jn, z_bdc, z_bd2, z_opn, z_ops, z_z01, if_true, if_false, Bool.false_eq_true, z_Csa h ht (x := x) (p := p) (by omega) hp]
    unfold z_ah
    by_cases c : z_ok s t p = true
    · have cb := z_spb h ht (of_decide_eq_true c)
      have cd := z_db h (x := z_sp s t p) (y := y)
      unfold z_dr
      simp only [c, if_true]
      simp (disch := omega) only [z_lit, z_n, z_add, z_sub, z_mul, z_neg, z_ltT, z_ltF, z_leT, z_leF, z_eqT, z_eqF, z_v, z_upd, z_ue, z_un, z_ixn, z_ixo, z_ix0, z_ix1, z_ix2, z_ix3, z_ix4, z_ix5, z_ix6, Int.reduceToNat, z_inr, z_gd, z_bnd, z_jn, z_bdc, z_bd2, z_opn, z_ops, z_z01, if_true, if_false, Bool.false_eq_true, z_Cdi (s := s) (x := z_sp s t p) (y := y) (by omega) hy]
      by_cases c2 : z_d s (z_sp s t p) y < ls
      · rw [z_leF (by omega) (by omega) (by omega), if_pos c2]
        exact ih N (x + 1) _ _ _ (by omega) (by omega) (by omega) hq cd
      · rw [z_leT (by omega) (by omega) (by omega), if_neg c2]
        exact ih N (x + 1) _ _ _ (by omega) (by omega) (by omega) hq hl
    · have c0 : z_ok s t p = false := Bool.eq_false_iff.mpr c
      have c1 := of_decide_eq_false c0
      rw [z_dr_o c0, c0]
      simp only [if_false, Bool.false_eq_true]
      rw [z_Cdn, z_bdc, z_leT (by omega) (by omega) (by omega)]
      rw [ih N (x + 1) _ _ _ (by omega) (by omega) (by omega) hq hl, z_dr_o]
      refine decide_eq_false ?_
      rcases d with d | d
      · have := hp.1 d; omega
      · have := hp.2 d; omega
theorem z_Cdp (h : z_inv b s) {t : Nat} (ht : (t : Int) < s 3) {y : Int} (hy : 0 ≤ y ∧ y < 8) : f_X4_findDrop (zV s) t (zI y) = some (zI (z_dp s t y)) := by
  have cu := z_cub h ht
  have h1 := h.1.2.1
  unfold f_X4_findDrop
  simp (disch := omega) only [z_lit, z_n, z_add, z_sub, z_mul, z_neg, z_ltT, z_ltF, z_leT, z_leF, z_eqT, z_eqF, z_v, z_upd, z_ue, z_un, z_ixn, z_ixo, z_ix0, z_ix1, z_ix2, z_ix3, z_ix4, z_ix5, z_ix6, Int.reduceToNat, z_inr, z_gd, z_bnd, z_jn, z_bdc, z_bd2, z_opn, z_ops, z_z01, if_true, if_false, Bool.false_eq_true, z_Ccu h ht, z_Cdi (s := s) (x := z_cu s t) (y := y) (by omega) hy]
  exact z_Cdr h ht hy 5 FU 1 (s (87 + 14 * t + 8) + (2 * s (87 + 14 * t + 9) - 1)) _ _ (by omega) (by unfold FU; omega) (by omega) (by omega) (z_db h)
end Trn
