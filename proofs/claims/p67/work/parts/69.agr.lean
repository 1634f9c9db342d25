/-! agrees -/
section Agr
variable {b : Int} {s s' : Nat → Int} {W : Nat → Nat → Int32} {Y Y' : Nat → Nat → Int32}
theorem x_a37 (hb : b ≤ 1000000000) (h0 : W 0 = zV s) (h : z_inv b s) (r : x_rel s Y) (K : Option Int32) : ∀ d i N, i + d = (s 3).toNat → d < N → l_X10_agrees_37 Y W K N (zI (i : Int)) = K := by
  obtain ⟨c0, c1, c2, c3, c4⟩ := h.1
  have q1 := r.1.2.1
  have hT := x_hT h r
  intro d
  induction d with
  | zero =>
    intro i N h1 h2
    obtain ⟨N, rfl⟩ : ∃ m, N = m + 1 := ⟨N - 1, by omega⟩
    rw [l_X10_agrees_37, q1, z_leT (by omega) (by omega) (by omega)]
  | succ d ih =>
    intro i N h1 h2
    obtain ⟨N, rfl⟩ : ∃ m, N = m + 1 := ⟨N - 1, by omega⟩
    have hi : (i : Int) < s 3 := by omega
    have hb0 : Nat.blt 0 N = true := z_blt (by omega)
    obtain ⟨-, x8, x9, x10, x11, x12, x13⟩ := r.2.2.2.1 i hi
    obtain ⟨a0, a1, a2, a3, a4, a5, a6⟩ := h.2.2.2.2.1 i hi
    have bo := h.2.1.2.2 i (by omega)
    have hL' := x_hL h r hi
    have cu := z_cub h hi
    have nx := z_nxb h hi
    have es : Y (32 + i) (s (87 + 14 * i + 8)).toNat = zI (z_cu s i) := x_sp h r hi a4
    have en : Y (32 + i) (s (87 + 14 * i + 8) + (2 * s (87 + 14 * i + 9) - 1)).toNat = zI (z_nx s i) := x_sp h r hi a5
    have k1 := x_q_trainStation h0 h hi
    have k2 := x_q_nextStation h0 h hi
    have k3 := x_q_isForward h0 h hi
    have k4 := x_q_minutesToNext h0 h hi
    have k5 := x_q_delay h0 h hi
    have k6 := x_q_stopsMade h0 h hi
    have k7 := x_q_stopsPassed h0 h hi
    have k8 := x_q_carriedCount h0 h hi
    have k9 := x_ca h r (x := (i : Int)) (by unfold zR; omega)
    have nx1 := ih (i + 1) N (by omega) (by omega)
    rw [z_cs] at nx1
    rw [l_X10_agrees_37, z_l0, q1, z_leF (by omega) (by omega) (by omega), hb0, z_gd, k1, x_bdv, k2, k3, k4, k5, k6, k7, k8, k9]
    unfold z_bo at bo
    by_cases e : s (87 + 14 * i + 10) = 0
    · rw [if_pos e, if_pos e]
      rcases bo with bo | bo
      · simp (disch := omega) only [z_lit, z_n, z_add, z_sub, z_mul, z_neg, z_lt1, z_lt0, z_le1, z_le0, z_eq1, z_eq0, z_10, ↓reduceIte, z_v, z_upd, z_ue, z_un, z_ixn, z_ixo, z_ix0, z_ix1, z_ix2, z_ix3, z_ix4, z_ix5, z_ix6, Int.reduceToNat, z_inr, z_gd, ↓z_bnd, ↓z_jn, z_bdc, z_bd2, z_opn, z_ops, z_z01, z_Bt, z_Bf, x_bdv, hT, hL', z_ixz, Int.toNat_natCast, x8, x9, x10, x11, x12, x13, es, en, e, nx1]
      · simp (disch := omega) only [z_lit, z_n, z_add, z_sub, z_mul, z_neg, z_lt1, z_lt0, z_le1, z_le0, z_eq1, z_eq0, z_10, ↓reduceIte, z_v, z_upd, z_ue, z_un, z_ixn, z_ixo, z_ix0, z_ix1, z_ix2, z_ix3, z_ix4, z_ix5, z_ix6, Int.reduceToNat, z_inr, z_gd, ↓z_bnd, ↓z_jn, z_bdc, z_bd2, z_opn, z_ops, z_z01, z_Bt, z_Bf, x_bdv, hT, hL', z_ixz, Int.toNat_natCast, x8, x9, x10, x11, x12, x13, es, en, e, nx1]
    · rw [if_neg e, if_neg e]
      rcases bo with bo | bo
      · simp (disch := omega) only [z_lit, z_n, z_add, z_sub, z_mul, z_neg, z_lt1, z_lt0, z_le1, z_le0, z_eq1, z_eq0, z_10, ↓reduceIte, z_v, z_upd, z_ue, z_un, z_ixn, z_ixo, z_ix0, z_ix1, z_ix2, z_ix3, z_ix4, z_ix5, z_ix6, Int.reduceToNat, z_inr, z_gd, ↓z_bnd, ↓z_jn, z_bdc, z_bd2, z_opn, z_ops, z_z01, z_Bt, z_Bf, x_bdv, hT, hL', z_ixz, Int.toNat_natCast, x8, x9, x10, x11, x12, x13, es, en, nx1]
      · simp (disch := omega) only [z_lit, z_n, z_add, z_sub, z_mul, z_neg, z_lt1, z_lt0, z_le1, z_le0, z_eq1, z_eq0, z_10, ↓reduceIte, z_v, z_upd, z_ue, z_un, z_ixn, z_ixo, z_ix0, z_ix1, z_ix2, z_ix3, z_ix4, z_ix5, z_ix6, Int.reduceToNat, z_inr, z_gd, ↓z_bnd, ↓z_jn, z_bdc, z_bd2, z_opn, z_ops, z_z01, z_Bt, z_Bf, x_bdv, hT, hL', z_ixz, Int.toNat_natCast, x8, x9, x10, x11, x12, x13, es, en, nx1]
theorem x_a224 (hb : b ≤ 1000000000) (h0 : W 0 = zV s) (h : z_inv b s) (r : x_rel s Y) (K : Option Int32) : ∀ d i N, i + d = (s 4).toNat → d < N → l_X10_agrees_224 Y W K N (zI (i : Int)) = K := by
  obtain ⟨c0, c1, c2, c3, c4⟩ := h.1
  have q1 := r.1.2.2.1
  have q16 := r.1.2.2.2
  intro d
  induction d with
  | zero =>
    intro i N h1 h2
    obtain ⟨N, rfl⟩ : ∃ m, N = m + 1 := ⟨N - 1, by omega⟩
    rw [l_X10_agrees_224, q1, z_leT (by omega) (by omega) (by omega)]
  | succ d ih =>
    intro i N h1 h2
    obtain ⟨N, rfl⟩ : ∃ m, N = m + 1 := ⟨N - 1, by omega⟩
    have hi : (i : Int) < s 4 := by omega
    have hb0 : Nat.blt 0 N = true := z_blt (by omega)
    have rp := r.2.2.2.2 i hi
    have p0 : Y (40 + i) 0 = zI (s (143 + 9 * i)) := rp 0 (by omega)
    have p1 := rp 1 (by omega)
    have p2 := rp 2 (by omega)
    have p3 := rp 3 (by omega)
    have p4 := rp 4 (by omega)
    have p5 := rp 5 (by omega)
    have p6 := rp 6 (by omega)
    have p7 := rp 7 (by omega)
    have p8 := rp 8 (by omega)
    obtain ⟨-, -, -, a3, -, -, a7, -⟩ := h.2.2.2.2.2.1 i hi
    have nx1 := ih (i + 1) N (by omega) (by omega)
    rw [z_cs] at nx1
    rw [l_X10_agrees_224]
    by_cases e : s (143 + 9 * i + 3) = -1
    · have hd := x_q_isHeld hb h0 h hi
      rw [decide_eq_false (fun q => q.1 e)] at hd
      simp (disch := omega) only [z_lit, z_n, z_add, z_sub, z_mul, z_neg, z_lt1, z_lt0, z_le1, z_le0, z_eq1, z_eq0, z_10, ↓reduceIte, z_v, z_upd, z_ue, z_un, z_ixn, z_ixo, z_ix0, z_ix1, z_ix2, z_ix3, z_ix4, z_ix5, z_ix6, Int.reduceToNat, z_inr, z_gd, ↓z_bnd, ↓z_jn, z_bdc, z_bd2, z_opn, z_ops, z_z01, z_Bt, z_Bf, x_bdv, x_ix7, x_ix8, q1, q16, hb0, x_q_origin h0 h hi, x_q_destination h0 h hi, x_q_priority h0 h hi, x_q_parcelStation h0 h hi, x_q_parcelTrain h0 h hi, x_q_dropStation h0 h hi, x_q_transfers h0 h hi, x_q_deliveryClock h0 h hi, hd, p0, p1, p2, p3, p4, p5, p6, p7, p8, nx1]
    · by_cases e2 : s 0 < s (143 + 9 * i + 7)
      · have hd := x_q_isHeld hb h0 h hi
        rw [decide_eq_true ⟨e, decide_eq_true e2⟩] at hd
        simp (disch := omega) only [z_lit, z_n, z_add, z_sub, z_mul, z_neg, z_lt1, z_lt0, z_le1, z_le0, z_eq1, z_eq0, z_10, ↓reduceIte, z_v, z_upd, z_ue, z_un, z_ixn, z_ixo, z_ix0, z_ix1, z_ix2, z_ix3, z_ix4, z_ix5, z_ix6, Int.reduceToNat, z_inr, z_gd, ↓z_bnd, ↓z_jn, z_bdc, z_bd2, z_opn, z_ops, z_z01, z_Bt, z_Bf, x_bdv, x_ix7, x_ix8, q1, q16, hb0, x_q_origin h0 h hi, x_q_destination h0 h hi, x_q_priority h0 h hi, x_q_parcelStation h0 h hi, x_q_parcelTrain h0 h hi, x_q_dropStation h0 h hi, x_q_transfers h0 h hi, x_q_deliveryClock h0 h hi, hd, p0, p1, p2, p3, p4, p5, p6, p7, p8, nx1]
      · have hd := x_q_isHeld hb h0 h hi
        rw [decide_eq_false (fun q => e2 (of_decide_eq_true q.2))] at hd
        simp (disch := omega) only [z_lit, z_n, z_add, z_sub, z_mul, z_neg, z_lt1, z_lt0, z_le1, z_le0, z_eq1, z_eq0, z_10, ↓reduceIte, z_v, z_upd, z_ue, z_un, z_ixn, z_ixo, z_ix0, z_ix1, z_ix2, z_ix3, z_ix4, z_ix5, z_ix6, Int.reduceToNat, z_inr, z_gd, ↓z_bnd, ↓z_jn, z_bdc, z_bd2, z_opn, z_ops, z_z01, z_Bt, z_Bf, x_bdv, x_ix7, x_ix8, q1, q16, hb0, x_q_origin h0 h hi, x_q_destination h0 h hi, x_q_priority h0 h hi, x_q_parcelStation h0 h hi, x_q_parcelTrain h0 h hi, x_q_dropStation h0 h hi, x_q_transfers h0 h hi, x_q_deliveryClock h0 h hi, hd, p0, p1, p2, p3, p4, p5, p6, p7, p8, nx1]
theorem x_a381 (h0 : W 0 = zV s) (h : z_inv b s) (hu : x_un s) (r : x_rel s Y) {a : Nat} (ha : (a : Int) < s 1) (K : Option Int32) : ∀ d i N, i + d = (s 1).toNat → d < N → l_X10_agrees_381 Y W (zI (a : Int)) K N (zI (i : Int)) = K := by
  obtain ⟨c0, c1, c2, c3, c4⟩ := h.1
  have q1 := r.1.1
  intro d
  induction d with
  | zero =>
    intro i N h1 h2
    obtain ⟨N, rfl⟩ : ∃ m, N = m + 1 := ⟨N - 1, by omega⟩
    rw [l_X10_agrees_381]
    simp (disch := omega) only [z_lit, z_n, z_add, z_sub, z_mul, z_neg, z_ltT, z_ltF, z_leT, z_leF, z_eqT, z_eqF, z_v, z_upd, z_ue, z_un, z_ixn, z_ixo, z_ix0, z_ix1, z_ix2, z_ix3, z_ix4, z_ix5, z_ix6, Int.reduceToNat, z_inr, z_gd, z_bnd, z_jn, z_bdc, z_bd2, z_opn, z_ops, z_z01, if_true, if_false, Bool.false_eq_true, q1]
  | succ d ih =>
    intro i N h1 h2
    obtain ⟨N, rfl⟩ : ∃ m, N = m + 1 := ⟨N - 1, by omega⟩
    have hi : (i : Int) < s 1 := by omega
    have hb0 : Nat.blt 0 N = true := z_blt (by omega)
    have fa := x_far h hu r ha hi
    have di := x_q_distance h0 h ha hi
    have nx1 := ih (i + 1) N (by omega) (by omega)
    rw [z_cs] at nx1
    have db := h.2.2.2.2.2.2.1 a i
    unfold x_en at fa
    rw [l_X10_agrees_381]
    by_cases e : zT s a i = 1000
    · rw [if_pos e] at fa di
      simp (disch := omega) only [z_lit, z_n, z_add, z_sub, z_mul, z_neg, z_lt1, z_lt0, z_le1, z_le0, z_eq1, z_eq0, z_10, ↓reduceIte, z_v, z_upd, z_ue, z_un, z_ixn, z_ixo, z_ix0, z_ix1, z_ix2, z_ix3, z_ix4, z_ix5, z_ix6, Int.reduceToNat, z_inr, z_gd, ↓z_bnd, ↓z_jn, z_bdc, z_bd2, z_opn, z_ops, z_z01, z_Bt, z_Bf, x_bdv, q1, hb0, fa, di, nx1]
    · rw [if_neg e] at fa di
      simp (disch := omega) only [z_lit, z_n, z_add, z_sub, z_mul, z_neg, z_lt1, z_lt0, z_le1, z_le0, z_eq1, z_eq0, z_10, ↓reduceIte, z_v, z_upd, z_ue, z_un, z_ixn, z_ixo, z_ix0, z_ix1, z_ix2, z_ix3, z_ix4, z_ix5, z_ix6, Int.reduceToNat, z_inr, z_gd, ↓z_bnd, ↓z_jn, z_bdc, z_bd2, z_opn, z_ops, z_z01, z_Bt, z_Bf, x_bdv, q1, hb0, fa, di, nx1]
theorem x_a371 (h0 : W 0 = zV s) (h : z_inv b s) (hu : x_un s) (r : x_rel s Y) (h6 : s 1 ≤ 6) : ∀ d i N, i + d = (s 1).toNat → d < N → l_X10_agrees_371 Y W N (zI (i : Int)) = some (zI 1) := by
  obtain ⟨c0, c1, c2, c3, c4⟩ := h.1
  have q1 := r.1.1
  intro d
  induction d with
  | zero =>
    intro i N h1 h2
    obtain ⟨N, rfl⟩ : ∃ m, N = m + 1 := ⟨N - 1, by omega⟩
    rw [l_X10_agrees_371]
    simp (disch := omega) only [z_lit, z_n, z_add, z_sub, z_mul, z_neg, z_ltT, z_ltF, z_leT, z_leF, z_eqT, z_eqF, z_v, z_upd, z_ue, z_un, z_ixn, z_ixo, z_ix0, z_ix1, z_ix2, z_ix3, z_ix4, z_ix5, z_ix6, Int.reduceToNat, z_inr, z_gd, z_bnd, z_jn, z_bdc, z_bd2, z_opn, z_ops, z_z01, if_true, if_false, Bool.false_eq_true, q1]
  | succ d ih =>
    intro i N h1 h2
    obtain ⟨N, rfl⟩ : ∃ m, N = m + 1 := ⟨N - 1, by omega⟩
    have hi : (i : Int) < s 1 := by omega
    have hb0 : Nat.blt 0 N = true := z_blt (by omega)
    have nx1 := ih (i + 1) N (by omega) (by omega)
    rw [z_cs] at nx1
    have e := x_a381 h0 h hu r hi (l_X10_agrees_371 Y W N (zI ((i : Int) + 1))) (s 1).toNat 0 7 (by omega) (by omega)
    rw [nx1] at e
    rw [l_X10_agrees_371, q1, z_leF (by omega) (by omega) (by omega), hb0, z_gd, z_l1, z_add, nx1, z_l0]
    exact e
theorem x_agrees (hb : b ≤ 1000000000) (h0 : W 0 = zV s) (h : z_inv b s) (hu : x_un s) (r : x_rel s Y) (h3 : s 3 ≤ 3) (h6 : s 1 ≤ 6) : f_X10_agrees Y W = some (zI 1) := by
  obtain ⟨c0, c1, c2, c3, c4⟩ := h.1
  obtain ⟨r0, r1, r2, r3⟩ := r.1
  have dc := z_Cde h hb
  have dh := x_de h hb r
  unfold f_X10_agrees f_X9_clock f_X9_parcelCount f_X9_deliveredCount
  rw [z_bdc, h0, z_v, r3, if_pos rfl, z_bdc, z_v, r2, if_pos rfl, dc, z_bdc, z_bdc, dh, z_bdc, if_pos rfl, z_l0, show zI 0 = zI ((0 : Nat) : Int) from rfl, x_a37 hb h0 h r _ (s 3).toNat 0 4 (by omega) (by omega), x_a224 hb h0 h r _ (s 4).toNat 0 13 (by omega) (by omega), x_a371 h0 h hu r h6 (s 1).toNat 0 7 (by omega) (by omega)]
end Agr
