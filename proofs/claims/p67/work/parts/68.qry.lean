/-! the questions that the Hand asks the class -/
section Qry
variable {b : Int} {s s' : Nat → Int} {W : Nat → Nat → Int32} {Y Y' : Nat → Nat → Int32}
theorem x_bdv {A R : Type} {a : A} {K : A → Option R} : bdv (some (.inr a)) K = K a := (rfl)
theorem x_bdt {A R : Type} {a : A} {L : String → Option R} {K : A → Option R} : bdt (some (.inr a)) L K = K a := (rfl)
theorem x_bt2 {A B R : Type} {a : A} {c : B} {L : String → B → Option R} {K : A → B → Option R} : bt2 (some (.inr a, c)) L K = K a c := (rfl)
theorem x_ctn (h0 : W 0 = zV s) (h : z_inv b s) {t : Nat} (ht : (t : Int) < s 3) : f_X9_checkTrain W (zI (t : Int)) = some (.inr ()) := by
  rw [z_Ctn h0 h.1.2.2.2.1 (by have := h.1.2.2.2.1; unfold zR; omega), if_pos ⟨by omega, ht⟩]
theorem x_cpl (h0 : W 0 = zV s) (h : z_inv b s) {t : Nat} (ht : (t : Int) < s 4) : f_X9_checkParcel W (zI (t : Int)) = some (.inr ()) := by
  rw [z_Cpl h0 h.1.2.2.2.2 (by have := h.1.2.2.2.2; unfold zR; omega), if_pos ⟨by omega, ht⟩]
theorem x_cst (h0 : W 0 = zV s) (h : z_inv b s) {t : Nat} (ht : (t : Int) < s 1) : f_X9_checkStation W (zI (t : Int)) = some (.inr ()) := by
  rw [z_Cst h0 h.1.2.1 (by have := h.1.2.1; unfold zR; omega), if_pos ⟨by omega, ht⟩]
theorem x_q_delay (h0 : W 0 = zV s) (h : z_inv b s) {t : Nat} (ht : (t : Int) < s 3) : f_X9_delay W (zI (t : Int)) = some (.inr (zI (s (87 + 14 * t + 11)))) := by
  have c := h.1.2.2.2.1
  unfold f_X9_delay
  simp (disch := omega) only [z_lit, z_n, z_add, z_sub, z_mul, z_neg, z_ltT, z_ltF, z_leT, z_leF, z_eqT, z_eqF, z_v, z_upd, z_ue, z_un, z_ixn, z_ixo, z_ix0, z_ix1, z_ix2, z_ix3, z_ix4, z_ix5, z_ix6, Int.reduceToNat, z_inr, z_gd, z_bnd, z_jn, z_bdc, z_bd2, z_opn, z_ops, z_z01, if_true, if_false, Bool.false_eq_true, x_ctn h0 h ht, x_bdt, h0]
theorem x_q_stopsMade (h0 : W 0 = zV s) (h : z_inv b s) {t : Nat} (ht : (t : Int) < s 3) : f_X9_stopsMade W (zI (t : Int)) = some (.inr (zI (s (87 + 14 * t + 12)))) := by
  have c := h.1.2.2.2.1
  unfold f_X9_stopsMade
  simp (disch := omega) only [z_lit, z_n, z_add, z_sub, z_mul, z_neg, z_ltT, z_ltF, z_leT, z_leF, z_eqT, z_eqF, z_v, z_upd, z_ue, z_un, z_ixn, z_ixo, z_ix0, z_ix1, z_ix2, z_ix3, z_ix4, z_ix5, z_ix6, Int.reduceToNat, z_inr, z_gd, z_bnd, z_jn, z_bdc, z_bd2, z_opn, z_ops, z_z01, if_true, if_false, Bool.false_eq_true, x_ctn h0 h ht, x_bdt, h0]
theorem x_q_stopsPassed (h0 : W 0 = zV s) (h : z_inv b s) {t : Nat} (ht : (t : Int) < s 3) : f_X9_stopsPassed W (zI (t : Int)) = some (.inr (zI (s (87 + 14 * t + 13)))) := by
  have c := h.1.2.2.2.1
  unfold f_X9_stopsPassed
  simp (disch := omega) only [z_lit, z_n, z_add, z_sub, z_mul, z_neg, z_ltT, z_ltF, z_leT, z_leF, z_eqT, z_eqF, z_v, z_upd, z_ue, z_un, z_ixn, z_ixo, z_ix0, z_ix1, z_ix2, z_ix3, z_ix4, z_ix5, z_ix6, Int.reduceToNat, z_inr, z_gd, z_bnd, z_jn, z_bdc, z_bd2, z_opn, z_ops, z_z01, if_true, if_false, Bool.false_eq_true, x_ctn h0 h ht, x_bdt, h0]
theorem x_q_routeLength (h0 : W 0 = zV s) (h : z_inv b s) {t : Nat} (ht : (t : Int) < s 3) : f_X9_routeLength W (zI (t : Int)) = some (.inr (zI (s (87 + 14 * t + 1)))) := by
  have c := h.1.2.2.2.1
  unfold f_X9_routeLength
  simp (disch := omega) only [z_lit, z_n, z_add, z_sub, z_mul, z_neg, z_ltT, z_ltF, z_leT, z_leF, z_eqT, z_eqF, z_v, z_upd, z_ue, z_un, z_ixn, z_ixo, z_ix0, z_ix1, z_ix2, z_ix3, z_ix4, z_ix5, z_ix6, Int.reduceToNat, z_inr, z_gd, z_bnd, z_jn, z_bdc, z_bd2, z_opn, z_ops, z_z01, if_true, if_false, Bool.false_eq_true, x_ctn h0 h ht, x_bdt, h0]
theorem x_q_capacity (h0 : W 0 = zV s) (h : z_inv b s) {t : Nat} (ht : (t : Int) < s 3) : f_X9_capacity W (zI (t : Int)) = some (.inr (zI (s (87 + 14 * t)))) := by
  have c := h.1.2.2.2.1
  unfold f_X9_capacity
  simp (disch := omega) only [z_lit, z_n, z_add, z_sub, z_mul, z_neg, z_ltT, z_ltF, z_leT, z_leF, z_eqT, z_eqF, z_v, z_upd, z_ue, z_un, z_ixn, z_ixo, z_ix0, z_ix1, z_ix2, z_ix3, z_ix4, z_ix5, z_ix6, Int.reduceToNat, z_inr, z_gd, z_bnd, z_jn, z_bdc, z_bd2, z_opn, z_ops, z_z01, if_true, if_false, Bool.false_eq_true, x_ctn h0 h ht, x_bdt, h0]
theorem x_q_isForward (h0 : W 0 = zV s) (h : z_inv b s) {t : Nat} (ht : (t : Int) < s 3) : f_X9_isForward W (zI (t : Int)) = some (.inr (zI (s (87 + 14 * t + 9)))) := by
  have c := h.1.2.2.2.1
  have bo := h.2.1.2.2 t (by omega)
  unfold f_X9_isForward
  simp (disch := omega) only [z_lit, z_n, z_add, z_sub, z_mul, z_neg, z_ltT, z_ltF, z_leT, z_leF, z_eqT, z_eqF, z_v, z_upd, z_ue, z_un, z_ixn, z_ixo, z_ix0, z_ix1, z_ix2, z_ix3, z_ix4, z_ix5, z_ix6, Int.reduceToNat, z_inr, z_gd, z_bnd, z_jn, z_bdc, z_bd2, z_opn, z_ops, z_z01, if_true, if_false, Bool.false_eq_true, x_ctn h0 h ht, x_bdt, h0]
  rw [z_z01 bo, z_gd]
theorem x_q_minutesToNext (h0 : W 0 = zV s) (h : z_inv b s) {t : Nat} (ht : (t : Int) < s 3) : f_X9_minutesToNext W (zI (t : Int)) = some (.inr (zI (if s (87 + 14 * t + 10) = 0 then -1 else s (87 + 14 * t + 10)))) := by
  have c := h.1.2.2.2.1
  obtain ⟨-, -, -, -, -, -, a6⟩ := h.2.2.2.2.1 t ht
  unfold f_X9_minutesToNext
  by_cases e : s (87 + 14 * t + 10) = 0
  · rw [if_pos e]
    simp (disch := omega) only [z_lit, z_n, z_add, z_sub, z_mul, z_neg, z_ltT, z_ltF, z_leT, z_leF, z_eqT, z_eqF, z_v, z_upd, z_ue, z_un, z_ixn, z_ixo, z_ix0, z_ix1, z_ix2, z_ix3, z_ix4, z_ix5, z_ix6, Int.reduceToNat, z_inr, z_gd, z_bnd, z_jn, z_bdc, z_bd2, z_opn, z_ops, z_z01, if_true, if_false, Bool.false_eq_true, x_ctn h0 h ht, x_bdt, h0, e]
  · rw [if_neg e]
    simp (disch := omega) only [z_lit, z_n, z_add, z_sub, z_mul, z_neg, z_ltT, z_ltF, z_leT, z_leF, z_eqT, z_eqF, z_v, z_upd, z_ue, z_un, z_ixn, z_ixo, z_ix0, z_ix1, z_ix2, z_ix3, z_ix4, z_ix5, z_ix6, Int.reduceToNat, z_inr, z_gd, z_bnd, z_jn, z_bdc, z_bd2, z_opn, z_ops, z_z01, if_true, if_false, Bool.false_eq_true, x_ctn h0 h ht, x_bdt, h0]
theorem x_q_trainStation (h0 : W 0 = zV s) (h : z_inv b s) {t : Nat} (ht : (t : Int) < s 3) : f_X9_trainStation W (zI (t : Int)) = some (.inr (zI (if s (87 + 14 * t + 10) = 0 then z_cu s t else -1))) := by
  have c := h.1.2.2.2.1
  obtain ⟨-, -, -, -, -, -, a6⟩ := h.2.2.2.2.1 t ht
  unfold f_X9_trainStation f_X8_standsAt f_X8_isStanding
  by_cases e : s (87 + 14 * t + 10) = 0
  · rw [if_pos e]
    simp (disch := omega) only [z_lit, z_n, z_add, z_sub, z_mul, z_neg, z_ltT, z_ltF, z_leT, z_leF, z_eqT, z_eqF, z_v, z_upd, z_ue, z_un, z_ixn, z_ixo, z_ix0, z_ix1, z_ix2, z_ix3, z_ix4, z_ix5, z_ix6, Int.reduceToNat, z_inr, z_gd, z_bnd, z_jn, z_bdc, z_bd2, z_opn, z_ops, z_z01, if_true, if_false, Bool.false_eq_true, x_ctn h0 h ht, x_bdt, h0, e, z_Ccu h ht]
  · rw [if_neg e]
    simp (disch := omega) only [z_lit, z_n, z_add, z_sub, z_mul, z_neg, z_ltT, z_ltF, z_leT, z_leF, z_eqT, z_eqF, z_v, z_upd, z_ue, z_un, z_ixn, z_ixo, z_ix0, z_ix1, z_ix2, z_ix3, z_ix4, z_ix5, z_ix6, Int.reduceToNat, z_inr, z_gd, z_bnd, z_jn, z_bdc, z_bd2, z_opn, z_ops, z_z01, if_true, if_false, Bool.false_eq_true, x_ctn h0 h ht, x_bdt, h0]
theorem x_q_nextStation (h0 : W 0 = zV s) (h : z_inv b s) {t : Nat} (ht : (t : Int) < s 3) : f_X9_nextStation W (zI (t : Int)) = some (.inr (zI (z_nx s t))) := by
  have c := h.1.2.2.2.1
  unfold f_X9_nextStation
  simp (disch := omega) only [z_lit, z_n, z_add, z_sub, z_mul, z_neg, z_ltT, z_ltF, z_leT, z_leF, z_eqT, z_eqF, z_v, z_upd, z_ue, z_un, z_ixn, z_ixo, z_ix0, z_ix1, z_ix2, z_ix3, z_ix4, z_ix5, z_ix6, Int.reduceToNat, z_inr, z_gd, z_bnd, z_jn, z_bdc, z_bd2, z_opn, z_ops, z_z01, if_true, if_false, Bool.false_eq_true, x_ctn h0 h ht, x_bdt, h0, z_Cnx h ht]
theorem x_q_carriedCount (h0 : W 0 = zV s) (h : z_inv b s) {t : Nat} (ht : (t : Int) < s 3) : f_X9_carriedCount W (zI (t : Int)) = some (.inr (zI (z_ct (z_ca s t) 0 (s 4).toNat))) := by
  have c := h.1.2.2.2.1
  unfold f_X9_carriedCount
  simp (disch := omega) only [z_lit, z_n, z_add, z_sub, z_mul, z_neg, z_ltT, z_ltF, z_leT, z_leF, z_eqT, z_eqF, z_v, z_upd, z_ue, z_un, z_ixn, z_ixo, z_ix0, z_ix1, z_ix2, z_ix3, z_ix4, z_ix5, z_ix6, Int.reduceToNat, z_inr, z_gd, z_bnd, z_jn, z_bdc, z_bd2, z_opn, z_ops, z_z01, if_true, if_false, Bool.false_eq_true, x_ctn h0 h ht, x_bdt, h0, z_Cca h (show zR (t : Int) by unfold zR; omega)]
theorem x_q_routeStation (h0 : W 0 = zV s) (h : z_inv b s) {t : Nat} (ht : (t : Int) < s 3) {j : Nat} (hj : (j : Int) < s (87 + 14 * t + 1)) : f_X9_routeStation W (zI (t : Int)) (zI (j : Int)) = some (.inr (zI (s (87 + 14 * t + 2 + j)))) := by
  have c := h.1.2.2.2.1
  obtain ⟨-, a1, a2, -⟩ := h.2.2.2.2.1 t ht
  have aj := a2 j hj
  have c1 := h.1.2.1
  unfold f_X9_routeStation f_X8_stationAt
  simp (disch := omega) only [z_lit, z_n, z_add, z_sub, z_mul, z_neg, z_ltT, z_ltF, z_leT, z_leF, z_eqT, z_eqF, z_v, z_upd, z_ue, z_un, z_ixn, z_ixo, z_ix0, z_ix1, z_ix2, z_ix3, z_ix4, z_ix5, z_ix6, Int.reduceToNat, z_inr, z_gd, z_bnd, z_jn, z_bdc, z_bd2, z_opn, z_ops, z_z01, if_true, if_false, Bool.false_eq_true, x_ctn h0 h ht, x_bdt, h0]
theorem x_q_origin (h0 : W 0 = zV s) (h : z_inv b s) {i : Nat} (hi : (i : Int) < s 4) : f_X9_origin W (zI (i : Int)) = some (.inr (zI (s (143 + 9 * i)))) := by
  have c := h.1.2.2.2.2
  unfold f_X9_origin
  simp (disch := omega) only [z_lit, z_n, z_add, z_sub, z_mul, z_neg, z_ltT, z_ltF, z_leT, z_leF, z_eqT, z_eqF, z_v, z_upd, z_ue, z_un, z_ixn, z_ixo, z_ix0, z_ix1, z_ix2, z_ix3, z_ix4, z_ix5, z_ix6, Int.reduceToNat, z_inr, z_gd, z_bnd, z_jn, z_bdc, z_bd2, z_opn, z_ops, z_z01, if_true, if_false, Bool.false_eq_true, x_cpl h0 h hi, x_bdt, h0]
theorem x_q_destination (h0 : W 0 = zV s) (h : z_inv b s) {i : Nat} (hi : (i : Int) < s 4) : f_X9_destination W (zI (i : Int)) = some (.inr (zI (s (143 + 9 * i + 1)))) := by
  have c := h.1.2.2.2.2
  unfold f_X9_destination
  simp (disch := omega) only [z_lit, z_n, z_add, z_sub, z_mul, z_neg, z_ltT, z_ltF, z_leT, z_leF, z_eqT, z_eqF, z_v, z_upd, z_ue, z_un, z_ixn, z_ixo, z_ix0, z_ix1, z_ix2, z_ix3, z_ix4, z_ix5, z_ix6, Int.reduceToNat, z_inr, z_gd, z_bnd, z_jn, z_bdc, z_bd2, z_opn, z_ops, z_z01, if_true, if_false, Bool.false_eq_true, x_cpl h0 h hi, x_bdt, h0]
theorem x_q_priority (h0 : W 0 = zV s) (h : z_inv b s) {i : Nat} (hi : (i : Int) < s 4) : f_X9_priority W (zI (i : Int)) = some (.inr (zI (s (143 + 9 * i + 2)))) := by
  have c := h.1.2.2.2.2
  unfold f_X9_priority
  simp (disch := omega) only [z_lit, z_n, z_add, z_sub, z_mul, z_neg, z_ltT, z_ltF, z_leT, z_leF, z_eqT, z_eqF, z_v, z_upd, z_ue, z_un, z_ixn, z_ixo, z_ix0, z_ix1, z_ix2, z_ix3, z_ix4, z_ix5, z_ix6, Int.reduceToNat, z_inr, z_gd, z_bnd, z_jn, z_bdc, z_bd2, z_opn, z_ops, z_z01, if_true, if_false, Bool.false_eq_true, x_cpl h0 h hi, x_bdt, h0]
theorem x_q_parcelStation (h0 : W 0 = zV s) (h : z_inv b s) {i : Nat} (hi : (i : Int) < s 4) : f_X9_parcelStation W (zI (i : Int)) = some (.inr (zI (s (143 + 9 * i + 3)))) := by
  have c := h.1.2.2.2.2
  unfold f_X9_parcelStation
  simp (disch := omega) only [z_lit, z_n, z_add, z_sub, z_mul, z_neg, z_ltT, z_ltF, z_leT, z_leF, z_eqT, z_eqF, z_v, z_upd, z_ue, z_un, z_ixn, z_ixo, z_ix0, z_ix1, z_ix2, z_ix3, z_ix4, z_ix5, z_ix6, Int.reduceToNat, z_inr, z_gd, z_bnd, z_jn, z_bdc, z_bd2, z_opn, z_ops, z_z01, if_true, if_false, Bool.false_eq_true, x_cpl h0 h hi, x_bdt, h0]
theorem x_q_parcelTrain (h0 : W 0 = zV s) (h : z_inv b s) {i : Nat} (hi : (i : Int) < s 4) : f_X9_parcelTrain W (zI (i : Int)) = some (.inr (zI (s (143 + 9 * i + 4)))) := by
  have c := h.1.2.2.2.2
  unfold f_X9_parcelTrain
  simp (disch := omega) only [z_lit, z_n, z_add, z_sub, z_mul, z_neg, z_ltT, z_ltF, z_leT, z_leF, z_eqT, z_eqF, z_v, z_upd, z_ue, z_un, z_ixn, z_ixo, z_ix0, z_ix1, z_ix2, z_ix3, z_ix4, z_ix5, z_ix6, Int.reduceToNat, z_inr, z_gd, z_bnd, z_jn, z_bdc, z_bd2, z_opn, z_ops, z_z01, if_true, if_false, Bool.false_eq_true, x_cpl h0 h hi, x_bdt, h0]
theorem x_q_dropStation (h0 : W 0 = zV s) (h : z_inv b s) {i : Nat} (hi : (i : Int) < s 4) : f_X9_dropStation W (zI (i : Int)) = some (.inr (zI (s (143 + 9 * i + 5)))) := by
  have c := h.1.2.2.2.2
  unfold f_X9_dropStation
  simp (disch := omega) only [z_lit, z_n, z_add, z_sub, z_mul, z_neg, z_ltT, z_ltF, z_leT, z_leF, z_eqT, z_eqF, z_v, z_upd, z_ue, z_un, z_ixn, z_ixo, z_ix0, z_ix1, z_ix2, z_ix3, z_ix4, z_ix5, z_ix6, Int.reduceToNat, z_inr, z_gd, z_bnd, z_jn, z_bdc, z_bd2, z_opn, z_ops, z_z01, if_true, if_false, Bool.false_eq_true, x_cpl h0 h hi, x_bdt, h0]
theorem x_q_transfers (h0 : W 0 = zV s) (h : z_inv b s) {i : Nat} (hi : (i : Int) < s 4) : f_X9_transfers W (zI (i : Int)) = some (.inr (zI (s (143 + 9 * i + 6)))) := by
  have c := h.1.2.2.2.2
  unfold f_X9_transfers
  simp (disch := omega) only [z_lit, z_n, z_add, z_sub, z_mul, z_neg, z_ltT, z_ltF, z_leT, z_leF, z_eqT, z_eqF, z_v, z_upd, z_ue, z_un, z_ixn, z_ixo, z_ix0, z_ix1, z_ix2, z_ix3, z_ix4, z_ix5, z_ix6, Int.reduceToNat, z_inr, z_gd, z_bnd, z_jn, z_bdc, z_bd2, z_opn, z_ops, z_z01, if_true, if_false, Bool.false_eq_true, x_cpl h0 h hi, x_bdt, h0]
theorem x_q_deliveryClock (h0 : W 0 = zV s) (h : z_inv b s) {i : Nat} (hi : (i : Int) < s 4) : f_X9_deliveryClock W (zI (i : Int)) = some (.inr (zI (s (143 + 9 * i + 8)))) := by
  have c := h.1.2.2.2.2
  unfold f_X9_deliveryClock
  simp (disch := omega) only [z_lit, z_n, z_add, z_sub, z_mul, z_neg, z_ltT, z_ltF, z_leT, z_leF, z_eqT, z_eqF, z_v, z_upd, z_ue, z_un, z_ixn, z_ixo, z_ix0, z_ix1, z_ix2, z_ix3, z_ix4, z_ix5, z_ix6, Int.reduceToNat, z_inr, z_gd, z_bnd, z_jn, z_bdc, z_bd2, z_opn, z_ops, z_z01, if_true, if_false, Bool.false_eq_true, x_cpl h0 h hi, x_bdt, h0]
theorem x_q_isHeld (hb : b ≤ 1000000000) (h0 : W 0 = zV s) (h : z_inv b s) {i : Nat} (hi : (i : Int) < s 4) : f_X9_isHeld W (zI (i : Int)) = some (.inr (zI (z_B (decide (s (143 + 9 * i + 3) ≠ -1 ∧ z_he s i = true))))) := by
  have c := h.1.2.2.2.2
  have q := z_Che h hb hi
  unfold f_X9_isHeld
  simp (disch := omega) only [z_lit, z_n, z_add, z_sub, z_mul, z_neg, z_ltT, z_ltF, z_leT, z_leF, z_eqT, z_eqF, z_v, z_upd, z_ue, z_un, z_ixn, z_ixo, z_ix0, z_ix1, z_ix2, z_ix3, z_ix4, z_ix5, z_ix6, Int.reduceToNat, z_inr, z_gd, z_bnd, z_jn, z_bdc, z_bd2, z_opn, z_ops, z_z01, if_true, if_false, Bool.false_eq_true, x_cpl h0 h hi, x_bdt, h0, q]
  rw [z_z01 (by cases decide (s (143 + 9 * i + 3) ≠ -1 ∧ z_he s i = true); exact Or.inl rfl; exact Or.inr rfl), z_gd]
theorem x_q_isRequestStop (h0 : W 0 = zV s) (h : z_inv b s) {i : Nat} (hi : (i : Int) < s 1) : f_X9_isRequestStop W (zI (i : Int)) = some (.inr (zI (s (7 + 4 * i + 1)))) := by
  have c := h.1.2.1
  have bo := h.2.1.1 i (by omega)
  unfold f_X9_isRequestStop
  simp (disch := omega) only [z_lit, z_n, z_add, z_sub, z_mul, z_neg, z_ltT, z_ltF, z_leT, z_leF, z_eqT, z_eqF, z_v, z_upd, z_ue, z_un, z_ixn, z_ixo, z_ix0, z_ix1, z_ix2, z_ix3, z_ix4, z_ix5, z_ix6, Int.reduceToNat, z_inr, z_gd, z_bnd, z_jn, z_bdc, z_bd2, z_opn, z_ops, z_z01, if_true, if_false, Bool.false_eq_true, x_cst h0 h hi, x_bdt, h0]
  rw [z_z01 bo, z_gd]
theorem x_q_inspectionTime (h0 : W 0 = zV s) (h : z_inv b s) {i : Nat} (hi : (i : Int) < s 1) : f_X9_inspectionTime W (zI (i : Int)) = some (.inr (zI (s (7 + 4 * i + 2)))) := by
  have c := h.1.2.1
  unfold f_X9_inspectionTime
  simp (disch := omega) only [z_lit, z_n, z_add, z_sub, z_mul, z_neg, z_ltT, z_ltF, z_leT, z_leF, z_eqT, z_eqF, z_v, z_upd, z_ue, z_un, z_ixn, z_ixo, z_ix0, z_ix1, z_ix2, z_ix3, z_ix4, z_ix5, z_ix6, Int.reduceToNat, z_inr, z_gd, z_bnd, z_jn, z_bdc, z_bd2, z_opn, z_ops, z_z01, if_true, if_false, Bool.false_eq_true, x_cst h0 h hi, x_bdt, h0]
theorem x_q_travelTime (h0 : W 0 = zV s) (h : z_inv b s) {i : Nat} (hi : (i : Int) < s 1) {j : Nat} (hj : (j : Int) < s 1) : f_X9_travelTime W (zI (i : Int)) (zI (j : Int)) = some (.inr (zI (x_tm s i j))) := by
  have c := h.1.2.1
  have c2 := h.1.2.2.1
  have ct := z_Ctk h (x := (i : Int)) (y := (j : Int)) (by unfold zR; omega) (by unfold zR; omega)
  unfold f_X9_travelTime x_tm
  cases g : z_tk s (i : Int) (j : Int) with
  | none =>
    rw [g] at ct
    unfold z_oi at ct
    simp (disch := omega) only [z_lit, z_n, z_add, z_sub, z_mul, z_neg, z_ltT, z_ltF, z_leT, z_leF, z_eqT, z_eqF, z_v, z_upd, z_ue, z_un, z_ixn, z_ixo, z_ix0, z_ix1, z_ix2, z_ix3, z_ix4, z_ix5, z_ix6, Int.reduceToNat, z_inr, z_gd, z_bnd, z_jn, z_bdc, z_bd2, z_opn, z_ops, z_z01, if_true, if_false, Bool.false_eq_true, x_cst h0 h hi, x_cst h0 h hj, x_bdt, h0, ct]
  | some k =>
    obtain ⟨-, k1, k2, -⟩ := z_ff_s _ _ _ g
    rw [g] at ct
    unfold z_oi at ct
    simp (disch := omega) only [z_lit, z_n, z_add, z_sub, z_mul, z_neg, z_ltT, z_ltF, z_leT, z_leF, z_eqT, z_eqF, z_v, z_upd, z_ue, z_un, z_ixn, z_ixo, z_ix0, z_ix1, z_ix2, z_ix3, z_ix4, z_ix5, z_ix6, Int.reduceToNat, z_inr, z_gd, z_bnd, z_jn, z_bdc, z_bd2, z_opn, z_ops, z_z01, if_true, if_false, Bool.false_eq_true, x_cst h0 h hi, x_cst h0 h hj, x_bdt, h0, ct]
theorem x_q_isTrackOpen (h0 : W 0 = zV s) (h : z_inv b s) {i : Nat} (hi : (i : Int) < s 1) {j : Nat} (hj : (j : Int) < s 1) : f_X9_isTrackOpen W (zI (i : Int)) (zI (j : Int)) = some (.inr (zI (x_op s i j))) := by
  have c := h.1.2.1
  have c2 := h.1.2.2.1
  have ct := z_Ctk h (x := (i : Int)) (y := (j : Int)) (by unfold zR; omega) (by unfold zR; omega)
  unfold f_X9_isTrackOpen x_op
  cases g : z_tk s (i : Int) (j : Int) with
  | none =>
    rw [g] at ct
    unfold z_oi at ct
    simp (disch := omega) only [z_lit, z_n, z_add, z_sub, z_mul, z_neg, z_ltT, z_ltF, z_leT, z_leF, z_eqT, z_eqF, z_v, z_upd, z_ue, z_un, z_ixn, z_ixo, z_ix0, z_ix1, z_ix2, z_ix3, z_ix4, z_ix5, z_ix6, Int.reduceToNat, z_inr, z_gd, z_bnd, z_jn, z_bdc, z_bd2, z_opn, z_ops, z_z01, if_true, if_false, Bool.false_eq_true, x_cst h0 h hi, x_cst h0 h hj, x_bdt, h0, ct]
  | some k =>
    obtain ⟨-, k1, k2, -⟩ := z_ff_s _ _ _ g
    rw [g] at ct
    unfold z_oi at ct
    have bo := h.2.1.2.1 k (by omega)
    unfold z_bo at bo
    by_cases e : s (39 + 4 * k + 3) = 0
    · simp (disch := omega) only [z_lit, z_n, z_add, z_sub, z_mul, z_neg, z_ltT, z_ltF, z_leT, z_leF, z_eqT, z_eqF, z_v, z_upd, z_ue, z_un, z_ixn, z_ixo, z_ix0, z_ix1, z_ix2, z_ix3, z_ix4, z_ix5, z_ix6, Int.reduceToNat, z_inr, z_gd, z_bnd, z_jn, z_bdc, z_bd2, z_opn, z_ops, z_z01, if_true, if_false, Bool.false_eq_true, x_cst h0 h hi, x_cst h0 h hj, x_bdt, h0, ct, e]
    · have e1 : s (39 + 4 * k + 3) = 1 := by omega
      simp (disch := omega) only [z_lit, z_n, z_add, z_sub, z_mul, z_neg, z_ltT, z_ltF, z_leT, z_leF, z_eqT, z_eqF, z_v, z_upd, z_ue, z_un, z_ixn, z_ixo, z_ix0, z_ix1, z_ix2, z_ix3, z_ix4, z_ix5, z_ix6, Int.reduceToNat, z_inr, z_gd, z_bnd, z_jn, z_bdc, z_bd2, z_opn, z_ops, z_z01, if_true, if_false, Bool.false_eq_true, x_cst h0 h hi, x_cst h0 h hj, x_bdt, h0, ct, e1]
theorem x_q_distance (h0 : W 0 = zV s) (h : z_inv b s) {i : Nat} (hi : (i : Int) < s 1) {j : Nat} (hj : (j : Int) < s 1) : f_X9_distance W (zI (i : Int)) (zI (j : Int)) = some (.inr (zI (if zT s i j = 1000 then -1 else zT s i j))) := by
  have c := h.1.2.1
  have cd := z_Cdi (s := s) (x := (i : Int)) (y := (j : Int)) (by omega) (by omega)
  have db := z_db h (x := (i : Int)) (y := (j : Int))
  unfold z_d at cd db
  rw [Int.toNat_natCast, Int.toNat_natCast] at cd db
  unfold f_X9_distance
  by_cases e : zT s i j = 1000
  · rw [if_pos e]
    simp (disch := omega) only [z_lit, z_n, z_add, z_sub, z_mul, z_neg, z_ltT, z_ltF, z_leT, z_leF, z_eqT, z_eqF, z_v, z_upd, z_ue, z_un, z_ixn, z_ixo, z_ix0, z_ix1, z_ix2, z_ix3, z_ix4, z_ix5, z_ix6, Int.reduceToNat, z_inr, z_gd, z_bnd, z_jn, z_bdc, z_bd2, z_opn, z_ops, z_z01, if_true, if_false, Bool.false_eq_true, x_cst h0 h hi, x_cst h0 h hj, x_bdt, h0, cd, e]
  · rw [if_neg e]
    simp (disch := omega) only [z_lit, z_n, z_add, z_sub, z_mul, z_neg, z_ltT, z_ltF, z_leT, z_leF, z_eqT, z_eqF, z_v, z_upd, z_ue, z_un, z_ixn, z_ixo, z_ix0, z_ix1, z_ix2, z_ix3, z_ix4, z_ix5, z_ix6, Int.reduceToNat, z_inr, z_gd, z_bnd, z_jn, z_bdc, z_bd2, z_opn, z_ops, z_z01, if_true, if_false, Bool.false_eq_true, x_cst h0 h hi, x_cst h0 h hj, x_bdt, h0, cd]
end Qry
