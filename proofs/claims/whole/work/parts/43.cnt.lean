/-! counts of parcels, order of parcels -/
def z_wt (s : Nat → Int) (x : Int) (k : Nat) : Bool := decide (s (143 + 9 * k + 3) = x)
def z_ca (s : Nat → Int) (x : Int) (k : Nat) : Bool := decide (s (143 + 9 * k + 4) = x)
def z_de (s : Nat → Int) (k : Nat) : Bool := decide (s (143 + 9 * k + 8) ≠ -1)
def z_bf (s : Nat → Int) (k j : Nat) : Bool := decide (s (143 + 9 * j + 2) < s (143 + 9 * k + 2) ∨ (s (143 + 9 * k + 2) = s (143 + 9 * j + 2) ∧ k < j))
def z_he (s : Nat → Int) (k : Nat) : Bool := decide (s 0 < s (143 + 9 * k + 7))
def z_B (b : Bool) : Int := if b then 1 else 0
theorem z_Bt : z_B true = 1 := (rfl)
theorem z_Bf : z_B false = 0 := (rfl)
theorem z_i1 {R : Type} {A B : R} {_ : Decidable (zI 1 = zI 0)} : (if zI 1 = zI 0 then A else B) = B := z_eqF (by omega) (by omega) (by omega) (by omega) (by omega)
theorem z_i0 {R : Type} {A B : R} {_ : Decidable (zI 0 = zI 0)} : (if zI 0 = zI 0 then A else B) = A := if_pos rfl
section Cnt
variable {b : Int} {s g : Nat → Int}
theorem z_Cbf (h : z_inv b s) {i j : Nat} (hi : (i : Int) < s 4) (hj : (j : Int) < s 4) : f_X2_isConsideredBefore (zV s) i j = some (zI (z_B (z_bf s i j))) := by
  obtain ⟨⟨h0, h1, h2, h3, h4⟩, -, -, -, -, hp, -⟩ := h
  obtain ⟨-, -, a2, -⟩ := hp i hi
  obtain ⟨-, -, b2, -⟩ := hp j hj
  unfold f_X2_isConsideredBefore z_bf
  rcases (show s (143 + 9 * j + 2) < s (143 + 9 * i + 2) ∨ s (143 + 9 * i + 2) < s (143 + 9 * j + 2) ∨ (s (143 + 9 * i + 2) = s (143 + 9 * j + 2) ∧ i < j) ∨ (s (143 + 9 * i + 2) = s (143 + 9 * j + 2) ∧ j ≤ i) by omega) with c | c | c | c <;> simp (disch := omega) only [z_lit, z_n, z_add, z_sub, z_mul, z_neg, z_ltT, z_ltF, z_leT, z_leF, z_eqT, z_eqF, z_v, z_upd, z_ue, z_un, z_ixn, z_ixo, z_ix0, z_ix1, z_ix2, z_ix3, z_ix4, z_ix5, z_ix6, Int.reduceToNat, z_inr, z_gd, z_bnd, z_jn, z_bdc, z_bd2, z_opn, z_ops, z_z01, if_true, if_false, Bool.false_eq_true] <;> first | rw [decide_eq_true (by omega)]; rfl | rw [decide_eq_false (by omega)]; rfl
theorem z_Gbf (h : z_inv b s) (r : z_rel s g) {i j : Nat} (hi : (i : Int) < s 4) (hj : (j : Int) < s 4) : f_X10_isAhead (zV g) (zI i) (zI j) = some (zI (z_B (z_bf s i j))) := by
  obtain ⟨⟨h0, h1, h2, h3, h4⟩, -, -, -, -, hp, -⟩ := h
  obtain ⟨-, -, a2, -⟩ := hp i hi
  obtain ⟨-, -, b2, -⟩ := hp j hj
  obtain ⟨-, -, -, -, rp⟩ := r
  have q1 := rp i hi 2 (by omega)
  have q2 := rp j hj 2 (by omega)
  unfold f_X10_isAhead z_bf
  simp (disch := omega) only [z_lit, z_n, z_add, z_sub, z_mul, z_neg, z_ltT, z_ltF, z_leT, z_leF, z_eqT, z_eqF, z_v, z_upd, z_ue, z_un, z_ixn, z_ixo, z_ix0, z_ix1, z_ix2, z_ix3, z_ix4, z_ix5, z_ix6, Int.reduceToNat, z_inr, z_gd, z_bnd, z_jn, z_bdc, z_bd2, z_opn, z_ops, z_z01, if_true, if_false, Bool.false_eq_true, z_ofP, q1, q2]
  rcases (show s (143 + 9 * j + 2) < s (143 + 9 * i + 2) ∨ s (143 + 9 * i + 2) < s (143 + 9 * j + 2) ∨ (s (143 + 9 * i + 2) = s (143 + 9 * j + 2) ∧ i < j) ∨ (s (143 + 9 * i + 2) = s (143 + 9 * j + 2) ∧ j ≤ i) by omega) with c | c | c | c <;> simp (disch := omega) only [z_lit, z_n, z_add, z_sub, z_mul, z_neg, z_ltT, z_ltF, z_leT, z_leF, z_eqT, z_eqF, z_v, z_upd, z_ue, z_un, z_ixn, z_ixo, z_ix0, z_ix1, z_ix2, z_ix3, z_ix4, z_ix5, z_ix6, Int.reduceToNat, z_inr, z_gd, z_bnd, z_jn, z_bdc, z_bd2, z_opn, z_ops, z_z01, if_true, if_false, Bool.false_eq_true] <;> first | rw [decide_eq_true (by omega)]; rfl | rw [decide_eq_false (by omega)]; rfl
theorem z_Gwt (h : z_inv b s) (r : z_rel s g) {i : Nat} {x : Int} (hi : (i : Int) < s 4) (hx : zR x) : f_X10_waitsAt (zV g) (zI i) (zI x) = some (zI (z_B (z_wt s x i))) := by
  obtain ⟨⟨h0, h1, h2, h3, h4⟩, -, -, -, -, hp, -⟩ := h
  obtain ⟨-, -, -, a3, -⟩ := hp i hi
  obtain ⟨-, -, -, -, rp⟩ := r
  have q1 := rp i hi 3 (by omega)
  unfold zR at hx
  unfold f_X10_waitsAt z_wt
  by_cases c : s (143 + 9 * i + 3) = x
  · simp (disch := omega) only [z_lit, z_n, z_add, z_sub, z_mul, z_neg, z_ltT, z_ltF, z_leT, z_leF, z_eqT, z_eqF, z_v, z_upd, z_ue, z_un, z_ixn, z_ixo, z_ix0, z_ix1, z_ix2, z_ix3, z_ix4, z_ix5, z_ix6, Int.reduceToNat, z_inr, z_gd, z_bnd, z_jn, z_bdc, z_bd2, z_opn, z_ops, z_z01, if_true, if_false, Bool.false_eq_true, z_ofP, q1]
    rw [decide_eq_true c]; rfl
  · simp (disch := omega) only [z_lit, z_n, z_add, z_sub, z_mul, z_neg, z_ltT, z_ltF, z_leT, z_leF, z_eqT, z_eqF, z_v, z_upd, z_ue, z_un, z_ixn, z_ixo, z_ix0, z_ix1, z_ix2, z_ix3, z_ix4, z_ix5, z_ix6, Int.reduceToNat, z_inr, z_gd, z_bnd, z_jn, z_bdc, z_bd2, z_opn, z_ops, z_z01, if_true, if_false, Bool.false_eq_true, z_ofP, q1]
    rw [decide_eq_false c]; rfl
theorem z_Ghe (h : z_inv b s) (hb : b ≤ 1000000000) (r : z_rel s g) {i : Nat} (hi : (i : Int) < s 4) : f_X10_isHeldNow (zV g) (zI i) = some (zI (z_B (z_he s i))) := by
  obtain ⟨⟨h0, h1, h2, h3, h4⟩, -, -, -, -, hp, -⟩ := h
  obtain ⟨-, -, -, -, -, -, a7, -⟩ := hp i hi
  obtain ⟨r0, -, -, -, rp⟩ := r
  have q1 := rp i hi 7 (by omega)
  have q0 := r0 0 (by omega)
  unfold f_X10_isHeldNow z_he
  by_cases c : s 0 < s (143 + 9 * i + 7)
  · simp (disch := omega) only [z_lit, z_n, z_add, z_sub, z_mul, z_neg, z_ltT, z_ltF, z_leT, z_leF, z_eqT, z_eqF, z_v, z_upd, z_ue, z_un, z_ixn, z_ixo, z_ix0, z_ix1, z_ix2, z_ix3, z_ix4, z_ix5, z_ix6, Int.reduceToNat, z_inr, z_gd, z_bnd, z_jn, z_bdc, z_bd2, z_opn, z_ops, z_z01, if_true, if_false, Bool.false_eq_true, z_ofP, q1, q0]
    rw [decide_eq_true c]; rfl
  · simp (disch := omega) only [z_lit, z_n, z_add, z_sub, z_mul, z_neg, z_ltT, z_ltF, z_leT, z_leF, z_eqT, z_eqF, z_v, z_upd, z_ue, z_un, z_ixn, z_ixo, z_ix0, z_ix1, z_ix2, z_ix3, z_ix4, z_ix5, z_ix6, Int.reduceToNat, z_inr, z_gd, z_bnd, z_jn, z_bdc, z_bd2, z_opn, z_ops, z_z01, if_true, if_false, Bool.false_eq_true, z_ofP, q1, q0]
    rw [decide_eq_false c]; rfl
theorem z_Che (h : z_inv b s) (hb : b ≤ 1000000000) {i : Nat} (hi : (i : Int) < s 4) : f_X2_isHeldAt (zV s) i (zI (s 0)) = some (zI (z_B (decide (s (143 + 9 * i + 3) ≠ -1 ∧ z_he s i = true)))) := by
  obtain ⟨⟨h0, h1, h2, h3, h4⟩, -, -, -, -, hp, -⟩ := h
  obtain ⟨-, -, -, a3, -, -, a7, -⟩ := hp i hi
  unfold f_X2_isHeldAt z_he
  by_cases c1 : s (143 + 9 * i + 3) = -1
  · simp (disch := omega) only [z_lit, z_n, z_add, z_sub, z_mul, z_neg, z_ltT, z_ltF, z_leT, z_leF, z_eqT, z_eqF, z_v, z_upd, z_ue, z_un, z_ixn, z_ixo, z_ix0, z_ix1, z_ix2, z_ix3, z_ix4, z_ix5, z_ix6, Int.reduceToNat, z_inr, z_gd, z_bnd, z_jn, z_bdc, z_bd2, z_opn, z_ops, z_z01, if_true, if_false, Bool.false_eq_true]
    rw [decide_eq_false (fun q => q.1 c1)]; rfl
  · by_cases c : s 0 < s (143 + 9 * i + 7)
    · simp (disch := omega) only [z_lit, z_n, z_add, z_sub, z_mul, z_neg, z_ltT, z_ltF, z_leT, z_leF, z_eqT, z_eqF, z_v, z_upd, z_ue, z_un, z_ixn, z_ixo, z_ix0, z_ix1, z_ix2, z_ix3, z_ix4, z_ix5, z_ix6, Int.reduceToNat, z_inr, z_gd, z_bnd, z_jn, z_bdc, z_bd2, z_opn, z_ops, z_z01, if_true, if_false, Bool.false_eq_true]
      rw [decide_eq_true ⟨c1, decide_eq_true c⟩]; rfl
    · simp (disch := omega) only [z_lit, z_n, z_add, z_sub, z_mul, z_neg, z_ltT, z_ltF, z_leT, z_leF, z_eqT, z_eqF, z_v, z_upd, z_ue, z_un, z_ixn, z_ixo, z_ix0, z_ix1, z_ix2, z_ix3, z_ix4, z_ix5, z_ix6, Int.reduceToNat, z_inr, z_gd, z_bnd, z_jn, z_bdc, z_bd2, z_opn, z_ops, z_z01, if_true, if_false, Bool.false_eq_true]
      rw [decide_eq_false (fun q => c (of_decide_eq_true q.2))]; rfl
theorem z_Crd (h : z_inv b s) (hb : b ≤ 1000000000) {i : Nat} {x : Int} (hi : (i : Int) < s 4) (hx0 : 0 ≤ x) (hx : x < 100) : f_X2_isReadyAt (zV s) i (zI x) (zI (s 0)) = some (zI (z_B (z_wt s x i && !z_he s i))) := by
  obtain ⟨⟨h0, h1, h2, h3, h4⟩, -, -, -, -, hp, -⟩ := h
  obtain ⟨-, -, -, a3, -, -, a7, -⟩ := hp i hi
  unfold f_X2_isReadyAt z_he z_wt
  by_cases c1 : s (143 + 9 * i + 3) = -1
  · simp (disch := omega) only [z_lit, z_n, z_add, z_sub, z_mul, z_neg, z_ltT, z_ltF, z_leT, z_leF, z_eqT, z_eqF, z_v, z_upd, z_ue, z_un, z_ixn, z_ixo, z_ix0, z_ix1, z_ix2, z_ix3, z_ix4, z_ix5, z_ix6, Int.reduceToNat, z_inr, z_gd, z_bnd, z_jn, z_bdc, z_bd2, z_opn, z_ops, z_z01, if_true, if_false, Bool.false_eq_true]
    rw [decide_eq_false (by omega)]; rfl
  · by_cases c2 : s (143 + 9 * i + 3) = x
    · by_cases c : s 0 < s (143 + 9 * i + 7)
      · simp (disch := omega) only [z_lit, z_n, z_add, z_sub, z_mul, z_neg, z_ltT, z_ltF, z_leT, z_leF, z_eqT, z_eqF, z_v, z_upd, z_ue, z_un, z_ixn, z_ixo, z_ix0, z_ix1, z_ix2, z_ix3, z_ix4, z_ix5, z_ix6, Int.reduceToNat, z_inr, z_gd, z_bnd, z_jn, z_bdc, z_bd2, z_opn, z_ops, z_z01, if_true, if_false, Bool.false_eq_true]
        rw [decide_eq_true c2, decide_eq_true c]; rfl
      · simp (disch := omega) only [z_lit, z_n, z_add, z_sub, z_mul, z_neg, z_ltT, z_ltF, z_leT, z_leF, z_eqT, z_eqF, z_v, z_upd, z_ue, z_un, z_ixn, z_ixo, z_ix0, z_ix1, z_ix2, z_ix3, z_ix4, z_ix5, z_ix6, Int.reduceToNat, z_inr, z_gd, z_bnd, z_jn, z_bdc, z_bd2, z_opn, z_ops, z_z01, if_true, if_false, Bool.false_eq_true]
        rw [decide_eq_true c2, decide_eq_false c]; rfl
    · simp (disch := omega) only [z_lit, z_n, z_add, z_sub, z_mul, z_neg, z_ltT, z_ltF, z_leT, z_leF, z_eqT, z_eqF, z_v, z_upd, z_ue, z_un, z_ixn, z_ixo, z_ix0, z_ix1, z_ix2, z_ix3, z_ix4, z_ix5, z_ix6, Int.reduceToNat, z_inr, z_gd, z_bnd, z_jn, z_bdc, z_bd2, z_opn, z_ops, z_z01, if_true, if_false, Bool.false_eq_true]
      rw [decide_eq_false c2]; rfl
theorem z_Cca (h : z_inv b s) {x : Int} (hx : zR x) : f_X4_countCarriedBy (zV s) (zI x) = some (zI (z_ct (z_ca s x) 0 (s 4).toNat)) := by
  obtain ⟨⟨h0, h1, h2, h3, h4⟩, -, -, -, -, hp, -⟩ := h
  unfold zR at hx
  have e := z_cnt (l := l_X4_countCarriedBy_4 (zV s) (zI x)) (K := fun k => some (zI k)) (n := (s 4).toNat) (p := z_ca s x) (fun N y i hi => ?_) (fun N y => ?_) (s 4).toNat 0 FU 0 (by omega) (by unfold FU; omega)
  · unfold f_X4_countCarriedBy
    rw [z_lit 0, Int.zero_add] at *
    exact e
  · obtain ⟨-, -, -, a3, a4, -⟩ := hp i (by omega)
    rw [l_X4_countCarriedBy_4]
    unfold z_ca
    by_cases c : s (143 + 9 * i + 4) = x
    · rw [decide_eq_true c]
      simp (disch := omega) only [z_lit, z_n, z_add, z_sub, z_mul, z_neg, z_ltT, z_ltF, z_leT, z_leF, z_eqT, z_eqF, z_v, z_upd, z_ue, z_un, z_ixn, z_ixo, z_ix0, z_ix1, z_ix2, z_ix3, z_ix4, z_ix5, z_ix6, Int.reduceToNat, z_inr, z_gd, z_bnd, z_jn, z_bdc, z_bd2, z_opn, z_ops, z_z01, if_true, if_false, Bool.false_eq_true, if_true]
    · rw [decide_eq_false c]
      simp (disch := omega) only [z_lit, z_n, z_add, z_sub, z_mul, z_neg, z_ltT, z_ltF, z_leT, z_leF, z_eqT, z_eqF, z_v, z_upd, z_ue, z_un, z_ixn, z_ixo, z_ix0, z_ix1, z_ix2, z_ix3, z_ix4, z_ix5, z_ix6, Int.reduceToNat, z_inr, z_gd, z_bnd, z_jn, z_bdc, z_bd2, z_opn, z_ops, z_z01, if_true, if_false, Bool.false_eq_true, if_false, Bool.false_eq_true, Int.add_zero]
  · rw [l_X4_countCarriedBy_4]
    simp (disch := omega) only [z_lit, z_n, z_add, z_sub, z_mul, z_neg, z_ltT, z_ltF, z_leT, z_leF, z_eqT, z_eqF, z_v, z_upd, z_ue, z_un, z_ixn, z_ixo, z_ix0, z_ix1, z_ix2, z_ix3, z_ix4, z_ix5, z_ix6, Int.reduceToNat, z_inr, z_gd, z_bnd, z_jn, z_bdc, z_bd2, z_opn, z_ops, z_z01, if_true, if_false, Bool.false_eq_true]
theorem z_Gca (h : z_inv b s) (r : z_rel s g) {x : Int} (hx : zR x) : f_X10_carried (zV g) (zI x) = some (zI (z_ct (z_ca s x) 0 (s 4).toNat)) := by
  obtain ⟨⟨h0, h1, h2, h3, h4⟩, -, -, -, -, hp, -⟩ := h
  obtain ⟨r0, -, -, -, rp⟩ := r
  have q4 := r0 4 (by omega)
  unfold zR at hx
  have e := z_cnt (l := l_X10_carried_4 (zV g) (zI x)) (K := fun k => some (zI k)) (n := (s 4).toNat) (p := z_ca s x) (fun N y i hi => ?_) (fun N y => ?_) (s 4).toNat 0 FU 0 (by omega) (by unfold FU; omega)
  · unfold f_X10_carried
    rw [z_lit 0, Int.zero_add] at *
    exact e
  · obtain ⟨-, -, -, a3, a4, -⟩ := hp i (by omega)
    have q1 := rp i (by omega) 4 (by omega)
    rw [l_X10_carried_4]
    unfold z_ca
    by_cases c : s (143 + 9 * i + 4) = x
    · rw [decide_eq_true c]
      simp (disch := omega) only [z_lit, z_n, z_add, z_sub, z_mul, z_neg, z_ltT, z_ltF, z_leT, z_leF, z_eqT, z_eqF, z_v, z_upd, z_ue, z_un, z_ixn, z_ixo, z_ix0, z_ix1, z_ix2, z_ix3, z_ix4, z_ix5, z_ix6, Int.reduceToNat, z_inr, z_gd, z_bnd, z_jn, z_bdc, z_bd2, z_opn, z_ops, z_z01, if_true, if_false, Bool.false_eq_true, z_ofP, q1, q4, if_true]
    · rw [decide_eq_false c]
      simp (disch := omega) only [z_lit, z_n, z_add, z_sub, z_mul, z_neg, z_ltT, z_ltF, z_leT, z_leF, z_eqT, z_eqF, z_v, z_upd, z_ue, z_un, z_ixn, z_ixo, z_ix0, z_ix1, z_ix2, z_ix3, z_ix4, z_ix5, z_ix6, Int.reduceToNat, z_inr, z_gd, z_bnd, z_jn, z_bdc, z_bd2, z_opn, z_ops, z_z01, if_true, if_false, Bool.false_eq_true, z_ofP, q1, q4, if_false, Bool.false_eq_true, Int.add_zero]
  · rw [l_X10_carried_4]
    simp (disch := omega) only [z_lit, z_n, z_add, z_sub, z_mul, z_neg, z_ltT, z_ltF, z_leT, z_leF, z_eqT, z_eqF, z_v, z_upd, z_ue, z_un, z_ixn, z_ixo, z_ix0, z_ix1, z_ix2, z_ix3, z_ix4, z_ix5, z_ix6, Int.reduceToNat, z_inr, z_gd, z_bnd, z_jn, z_bdc, z_bd2, z_opn, z_ops, z_z01, if_true, if_false, Bool.false_eq_true, q4]
theorem z_Cwa (h : z_inv b s) {x : Int} (hx : zR x) : f_X4_countWaitingAt (zV s) (zI x) = some (zI (z_ct (z_wt s x) 0 (s 4).toNat)) := by
  obtain ⟨⟨h0, h1, h2, h3, h4⟩, -, -, -, -, hp, -⟩ := h
  unfold zR at hx
  have e := z_cnt (l := l_X4_countWaitingAt_4 (zV s) (zI x)) (K := fun k => some (zI k)) (n := (s 4).toNat) (p := z_wt s x) (fun N y i hi => ?_) (fun N y => ?_) (s 4).toNat 0 FU 0 (by omega) (by unfold FU; omega)
  · unfold f_X4_countWaitingAt
    rw [z_lit 0, Int.zero_add] at *
    exact e
  · obtain ⟨-, -, -, a3, a4, -⟩ := hp i (by omega)
    rw [l_X4_countWaitingAt_4]
    unfold z_wt
    by_cases c : s (143 + 9 * i + 3) = x
    · rw [decide_eq_true c]
      simp (disch := omega) only [z_lit, z_n, z_add, z_sub, z_mul, z_neg, z_ltT, z_ltF, z_leT, z_leF, z_eqT, z_eqF, z_v, z_upd, z_ue, z_un, z_ixn, z_ixo, z_ix0, z_ix1, z_ix2, z_ix3, z_ix4, z_ix5, z_ix6, Int.reduceToNat, z_inr, z_gd, z_bnd, z_jn, z_bdc, z_bd2, z_opn, z_ops, z_z01, if_true, if_false, Bool.false_eq_true, if_true]
    · rw [decide_eq_false c]
      simp (disch := omega) only [z_lit, z_n, z_add, z_sub, z_mul, z_neg, z_ltT, z_ltF, z_leT, z_leF, z_eqT, z_eqF, z_v, z_upd, z_ue, z_un, z_ixn, z_ixo, z_ix0, z_ix1, z_ix2, z_ix3, z_ix4, z_ix5, z_ix6, Int.reduceToNat, z_inr, z_gd, z_bnd, z_jn, z_bdc, z_bd2, z_opn, z_ops, z_z01, if_true, if_false, Bool.false_eq_true, if_false, Bool.false_eq_true, Int.add_zero]
  · rw [l_X4_countWaitingAt_4]
    simp (disch := omega) only [z_lit, z_n, z_add, z_sub, z_mul, z_neg, z_ltT, z_ltF, z_leT, z_leF, z_eqT, z_eqF, z_v, z_upd, z_ue, z_un, z_ixn, z_ixo, z_ix0, z_ix1, z_ix2, z_ix3, z_ix4, z_ix5, z_ix6, Int.reduceToNat, z_inr, z_gd, z_bnd, z_jn, z_bdc, z_bd2, z_opn, z_ops, z_z01, if_true, if_false, Bool.false_eq_true]
theorem z_Gwa (h : z_inv b s) (r : z_rel s g) {x : Int} (hx : zR x) : f_X10_waitingAt (zV g) (zI x) = some (zI (z_ct (z_wt s x) 0 (s 4).toNat)) := by
  have hh := h
  have rr := r
  obtain ⟨⟨h0, h1, h2, h3, h4⟩, -, -, -, -, hp, -⟩ := h
  obtain ⟨r0, -, -, -, rp⟩ := r
  have q4 := r0 4 (by omega)
  have e := z_cnt (l := l_X10_waitingAt_4 (zV g) (zI x)) (K := fun k => some (zI k)) (n := (s 4).toNat) (p := z_wt s x) (fun N y i hi => ?_) (fun N y => ?_) (s 4).toNat 0 FU 0 (by omega) (by unfold FU; omega)
  · unfold f_X10_waitingAt
    rw [z_lit 0, Int.zero_add] at *
    exact e
  · rw [l_X10_waitingAt_4]
    simp (disch := omega) only [z_lit, z_n, z_add, z_sub, z_mul, z_neg, z_ltT, z_ltF, z_leT, z_leF, z_eqT, z_eqF, z_v, z_upd, z_ue, z_un, z_ixn, z_ixo, z_ix0, z_ix1, z_ix2, z_ix3, z_ix4, z_ix5, z_ix6, Int.reduceToNat, z_inr, z_gd, z_bnd, z_jn, z_bdc, z_bd2, z_opn, z_ops, z_z01, if_true, if_false, Bool.false_eq_true, q4, z_Gwt hh rr (show (i : Int) < s 4 by omega) hx]
    cases z_wt s x i <;> simp (disch := omega) only [z_lit, z_n, z_add, z_sub, z_mul, z_neg, z_ltT, z_ltF, z_leT, z_leF, z_eqT, z_eqF, z_v, z_upd, z_ue, z_un, z_ixn, z_ixo, z_ix0, z_ix1, z_ix2, z_ix3, z_ix4, z_ix5, z_ix6, Int.reduceToNat, z_inr, z_gd, z_bnd, z_jn, z_bdc, z_bd2, z_opn, z_ops, z_z01, if_true, if_false, Bool.false_eq_true, z_Bt, z_Bf, z_i1, z_i0, if_true, if_false, Bool.false_eq_true, Int.add_zero]
  · rw [l_X10_waitingAt_4]
    simp (disch := omega) only [z_lit, z_n, z_add, z_sub, z_mul, z_neg, z_ltT, z_ltF, z_leT, z_leF, z_eqT, z_eqF, z_v, z_upd, z_ue, z_un, z_ixn, z_ixo, z_ix0, z_ix1, z_ix2, z_ix3, z_ix4, z_ix5, z_ix6, Int.reduceToNat, z_inr, z_gd, z_bnd, z_jn, z_bdc, z_bd2, z_opn, z_ops, z_z01, if_true, if_false, Bool.false_eq_true, q4]
theorem z_Cd1 (h : z_inv b s) (hb : b ≤ 1000000000) {i : Nat} (hi : (i : Int) < s 4) : f_X2_isDelivered (zV s) i = some (zI (z_B (z_de s i))) := by
  obtain ⟨⟨h0, h1, h2, h3, h4⟩, -, -, -, -, hp, -⟩ := h
  obtain ⟨-, -, -, -, -, -, -, a8, -⟩ := hp i hi
  unfold f_X2_isDelivered z_de
  by_cases c : s (143 + 9 * i + 8) = -1
  · simp (disch := omega) only [z_lit, z_n, z_add, z_sub, z_mul, z_neg, z_ltT, z_ltF, z_leT, z_leF, z_eqT, z_eqF, z_v, z_upd, z_ue, z_un, z_ixn, z_ixo, z_ix0, z_ix1, z_ix2, z_ix3, z_ix4, z_ix5, z_ix6, Int.reduceToNat, z_inr, z_gd, z_bnd, z_jn, z_bdc, z_bd2, z_opn, z_ops, z_z01, if_true, if_false, Bool.false_eq_true]
    rw [decide_eq_false (fun q => q c)]; rfl
  · simp (disch := omega) only [z_lit, z_n, z_add, z_sub, z_mul, z_neg, z_ltT, z_ltF, z_leT, z_leF, z_eqT, z_eqF, z_v, z_upd, z_ue, z_un, z_ixn, z_ixo, z_ix0, z_ix1, z_ix2, z_ix3, z_ix4, z_ix5, z_ix6, Int.reduceToNat, z_inr, z_gd, z_bnd, z_jn, z_bdc, z_bd2, z_opn, z_ops, z_z01, if_true, if_false, Bool.false_eq_true]
    rw [decide_eq_true c]; rfl
theorem z_Cde (h : z_inv b s) (hb : b ≤ 1000000000) : f_X4_countDelivered (zV s) = some (zI (z_ct (z_de s) 0 (s 4).toNat)) := by
  have hh := h
  obtain ⟨⟨h0, h1, h2, h3, h4⟩, -, -, -, -, hp, -⟩ := h
  have e := z_cnt (l := l_X4_countDelivered_4 (zV s)) (K := fun k => some (zI k)) (n := (s 4).toNat) (p := z_de s) (fun N y i hi => ?_) (fun N y => ?_) (s 4).toNat 0 FU 0 (by omega) (by unfold FU; omega)
  · unfold f_X4_countDelivered
    rw [z_lit 0, Int.zero_add] at *
    exact e
  · rw [l_X4_countDelivered_4]
    simp (disch := omega) only [z_lit, z_n, z_add, z_sub, z_mul, z_neg, z_ltT, z_ltF, z_leT, z_leF, z_eqT, z_eqF, z_v, z_upd, z_ue, z_un, z_ixn, z_ixo, z_ix0, z_ix1, z_ix2, z_ix3, z_ix4, z_ix5, z_ix6, Int.reduceToNat, z_inr, z_gd, z_bnd, z_jn, z_bdc, z_bd2, z_opn, z_ops, z_z01, if_true, if_false, Bool.false_eq_true, z_Cd1 hh hb (show (i : Int) < s 4 by omega)]
    cases z_de s i <;> simp (disch := omega) only [z_lit, z_n, z_add, z_sub, z_mul, z_neg, z_ltT, z_ltF, z_leT, z_leF, z_eqT, z_eqF, z_v, z_upd, z_ue, z_un, z_ixn, z_ixo, z_ix0, z_ix1, z_ix2, z_ix3, z_ix4, z_ix5, z_ix6, Int.reduceToNat, z_inr, z_gd, z_bnd, z_jn, z_bdc, z_bd2, z_opn, z_ops, z_z01, if_true, if_false, Bool.false_eq_true, z_Bt, z_Bf, z_i1, z_i0, if_true, if_false, Bool.false_eq_true, Int.add_zero]
  · rw [l_X4_countDelivered_4]
    simp (disch := omega) only [z_lit, z_n, z_add, z_sub, z_mul, z_neg, z_ltT, z_ltF, z_leT, z_leF, z_eqT, z_eqF, z_v, z_upd, z_ue, z_un, z_ixn, z_ixo, z_ix0, z_ix1, z_ix2, z_ix3, z_ix4, z_ix5, z_ix6, Int.reduceToNat, z_inr, z_gd, z_bnd, z_jn, z_bdc, z_bd2, z_opn, z_ops, z_z01, if_true, if_false, Bool.false_eq_true]
theorem z_Gde (h : z_inv b s) (hb : b ≤ 1000000000) (r : z_rel s g) : f_X10_deliveredIn (zV g) = some (zI (z_ct (z_de s) 0 (s 4).toNat)) := by
  obtain ⟨⟨h0, h1, h2, h3, h4⟩, -, -, -, -, hp, -⟩ := h
  obtain ⟨r0, -, -, -, rp⟩ := r
  have q4 := r0 4 (by omega)
  have e := z_cnt (l := l_X10_deliveredIn_4 (zV g)) (K := fun k => some (zI k)) (n := (s 4).toNat) (p := z_de s) (fun N y i hi => ?_) (fun N y => ?_) (s 4).toNat 0 FU 0 (by omega) (by unfold FU; omega)
  · unfold f_X10_deliveredIn
    rw [z_lit 0, Int.zero_add] at *
    exact e
  · obtain ⟨-, -, -, -, -, -, -, a8, -⟩ := hp i (by omega)
    have q1 := rp i (by omega) 8 (by omega)
    rw [l_X10_deliveredIn_4]
    unfold z_de
    by_cases c : s (143 + 9 * i + 8) = -1
    · rw [decide_eq_false (fun q => q c)]
      simp (disch := omega) only [z_lit, z_n, z_add, z_sub, z_mul, z_neg, z_ltT, z_ltF, z_leT, z_leF, z_eqT, z_eqF, z_v, z_upd, z_ue, z_un, z_ixn, z_ixo, z_ix0, z_ix1, z_ix2, z_ix3, z_ix4, z_ix5, z_ix6, Int.reduceToNat, z_inr, z_gd, z_bnd, z_jn, z_bdc, z_bd2, z_opn, z_ops, z_z01, if_true, if_false, Bool.false_eq_true, z_ofP, q1, q4, if_false, Bool.false_eq_true, Int.add_zero]
    · rw [decide_eq_true c]
      simp (disch := omega) only [z_lit, z_n, z_add, z_sub, z_mul, z_neg, z_ltT, z_ltF, z_leT, z_leF, z_eqT, z_eqF, z_v, z_upd, z_ue, z_un, z_ixn, z_ixo, z_ix0, z_ix1, z_ix2, z_ix3, z_ix4, z_ix5, z_ix6, Int.reduceToNat, z_inr, z_gd, z_bnd, z_jn, z_bdc, z_bd2, z_opn, z_ops, z_z01, if_true, if_false, Bool.false_eq_true, z_ofP, q1, q4, if_true]
  · rw [l_X10_deliveredIn_4]
    simp (disch := omega) only [z_lit, z_n, z_add, z_sub, z_mul, z_neg, z_ltT, z_ltF, z_leT, z_leF, z_eqT, z_eqF, z_v, z_upd, z_ue, z_un, z_ixn, z_ixo, z_ix0, z_ix1, z_ix2, z_ix3, z_ix4, z_ix5, z_ix6, Int.reduceToNat, z_inr, z_gd, z_bnd, z_jn, z_bdc, z_bd2, z_opn, z_ops, z_z01, if_true, if_false, Bool.false_eq_true, q4]
end Cnt
