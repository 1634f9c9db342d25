section Avg
variable {W W' : Nat → Nat → Int32} {b : Int} {s g : Nat → Int}
def z_dc (s : Nat → Int) (k : Nat) : Int := if z_de s k then s (143 + 9 * k + 8) else 0
theorem z_Csd (h : z_inv b s) (hb : b ≤ 1000000000) : f_X4_sumDeliveryClocks (zV s) = some (zI (z_sm (z_dc s) 0 (s 4).toNat)) := by
  obtain ⟨⟨h0, h1, h2, h3, h4⟩, -⟩ := id h
  have e := z_sl (l := l_X4_sumDeliveryClocks_4 (zV s)) (K := fun k => some (zI k)) (n := (s 4).toNat) (f := z_dc s) (fun N x i hi => ?_) (fun N x => ?_) (s 4).toNat 0 FU 0 (by omega) (by unfold FU; omega)
  · unfold f_X4_sumDeliveryClocks
    rw [z_l0]
    refine e.trans ?_
    rw [Int.zero_add]
  · rw [l_X4_sumDeliveryClocks_4]
    simp (disch := omega) only [z_lit, z_n, z_add, z_sub, z_mul, z_neg, z_lt1, z_lt0, z_le1, z_le0, z_eq1, z_eq0, z_10, ↓reduceIte, z_v, z_upd, z_ue, z_un, z_ixn, z_ixo, z_ix0, z_ix1, z_ix2, z_ix3, z_ix4, z_ix5, z_ix6, Int.reduceToNat, z_inr, z_gd, ↓z_bnd, ↓z_jn, z_bdc, z_bd2, z_opn, z_ops, z_z01, z_Bt, z_Bf, z_Cd1 h hb (show (i : Int) < s 4 by omega)]
    unfold z_dc
    cases z_de s i <;> simp (disch := omega) only [z_lit, z_n, z_add, z_sub, z_mul, z_neg, z_lt1, z_lt0, z_le1, z_le0, z_eq1, z_eq0, z_10, ↓reduceIte, z_v, z_upd, z_ue, z_un, z_ixn, z_ixo, z_ix0, z_ix1, z_ix2, z_ix3, z_ix4, z_ix5, z_ix6, Int.reduceToNat, z_inr, z_gd, ↓z_bnd, ↓z_jn, z_bdc, z_bd2, z_opn, z_ops, z_z01, z_Bt, z_Bf, Int.add_zero, Bool.false_eq_true]
  · rw [l_X4_sumDeliveryClocks_4]
    simp (disch := omega) only [z_lit, z_n, z_add, z_sub, z_mul, z_neg, z_lt1, z_lt0, z_le1, z_le0, z_eq1, z_eq0, z_10, ↓reduceIte, z_v, z_upd, z_ue, z_un, z_ixn, z_ixo, z_ix0, z_ix1, z_ix2, z_ix3, z_ix4, z_ix5, z_ix6, Int.reduceToNat, z_inr, z_gd, ↓z_bnd, ↓z_jn, z_bdc, z_bd2, z_opn, z_ops, z_z01, z_Bt, z_Bf]
theorem z_ncmp {R : Type} {x : UInt64} {z : Int32} {A B : R} : (if (Op.cmpValue (FP.dcmp x x) .l) = z then A else if (Op.cmpValue (FP.dcmp x x) .l) = z then B else if (Op.cmpValue (FP.dcmp x x) .l) = z then B else A) = A := by
  by_cases c : (Op.cmpValue (FP.dcmp x x) .l) = z
  · rw [if_pos c]
  · rw [if_neg c, if_neg c, if_neg c]
theorem z_m_mean (hB : b ≤ 100000000) (h : z_Q b W s g) : ∃ W', (bdc (f_X9_meanDeliveryClock W) (fun v1 => bd2 (f_X10_meanDeliveryClock W) (fun v3 W2 => if (Op.cmpValue (FP.dcmp v1 v3) .l) = 0 then some W2 else if (Op.cmpValue (FP.dcmp v1 v1) .l) = 0 then none else if (Op.cmpValue (FP.dcmp v3 v3) .l) = 0 then none else some W2))) = some W' ∧ z_EQ W W' := by
  obtain ⟨h0, hg, pi⟩ := id h
  obtain ⟨c0, c1, c2, c3, c4⟩ := pi.1.1
  have h2 := z_Q_th (c := 0) h
  obtain ⟨g', e1, e2, e3⟩ := z_Q_pk h2
  refine ⟨z_th W 0, ?_, z_EQ_th⟩
  have q4 := h2.2.1 4 (by omega)
  rw [pi.2.1.1 4 (by omega)] at q4
  have cb := z_ct_b (p := z_de s) (s 4).toNat 0
  have sb := z_sm_b (f := z_dc s) (B := b) (s 4).toNat 0 (fun j _ hj => by
    have p := (pi.1.2.2.2.2.2.1 j (by omega)).2.2.2.2.2.2.2.1
    unfold z_dc z_de
    by_cases q : s (143 + 9 * j + 8) = -1
    · rw [decide_eq_false (fun z => z q)]
      simp only [Bool.false_eq_true, if_false]
      omega
    · rw [decide_eq_true q, if_pos rfl]
      omega)
  have sb2 : ((s 4).toNat : Int) * b ≤ 12 * b := Int.mul_le_mul_of_nonneg_right (by omega) (by omega)
  obtain ⟨m, hm⟩ : ∃ m : Nat, z_ct (z_de s) 0 (s 4).toNat = m := ⟨(z_ct (z_de s) 0 (s 4).toNat).toNat, by omega⟩
  have e := z_sl (l := l_X10_meanDeliveryClock_9 (z_th W 0)) (K := fun k => if m = 0 then some (FP.dconst0, z_th W 0) else gdp (vf_n64 (FP.ddiv (FP.i2d (zI k)) (FP.i2d (zI m)))) (some (FP.ddiv (FP.i2d (zI k)) (FP.i2d (zI m)), z_th W 0))) (n := (s 4).toNat) (f := z_dc s) (fun N x i hi => ?_) (fun N x => ?_) (s 4).toNat 0 FU 0 (by omega) (by unfold FU; omega)
  · have e' : l_X10_meanDeliveryClock_9 (z_th W 0) FU (zI 0) (zI 0) = _ := e
    rw [Int.zero_add] at e'
    unfold f_X9_meanDeliveryClock f_X10_meanDeliveryClock
    rw [h0, z_Cde pi.1 (by omega), z_bdc, z_Csd pi.1 (by omega), z_bnd, z_l0, hm]
    show bdc _ (fun v1 => bd2 (l_X10_meanDeliveryClock_9 (z_th W 0) FU (zI 0) (zI 0)) _) = _
    rw [e']
    by_cases c : m = 0
    · rw [if_pos c, if_pos (by rw [c]; rfl), z_bdc, z_bd2, z_ncmp]
    · have nn := z_ddiv (x := z_sm (z_dc s) 0 (s 4).toNat) (n := m) (by omega) (by omega) (by omega) c
      rw [if_neg c, if_neg (by rw [z_eq (by unfold zR; omega) (by unfold zR; omega)]; omega), z_bdc, z_gdp nn, z_gdp nn, z_bdc, z_bd2, z_ncmp]
  · have hi2 : (i : Int) < s 4 := by omega
    have q8 := h2.2.1 (143 + 9 * i + 8) (by omega)
    rw [pi.2.1.2.2.2.2 i hi2 8 (by omega)] at q8
    have p := (pi.1.2.2.2.2.2.1 i hi2).2.2.2.2.2.2.2.1
    rw [l_X10_meanDeliveryClock_9]
    unfold z_dc z_de
    by_cases q : s (143 + 9 * i + 8) = -1
    · rw [decide_eq_false (fun z => z q)]
      simp (disch := omega) only [z_lit, z_n, z_add, z_sub, z_mul, z_neg, z_lt1, z_lt0, z_le1, z_le0, z_eq1, z_eq0, z_10, ↓reduceIte, z_v, z_upd, z_ue, z_un, z_ixn, z_ixo, z_ix0, z_ix1, z_ix2, z_ix3, z_ix4, z_ix5, z_ix6, Int.reduceToNat, z_inr, z_gd, ↓z_bnd, ↓z_jn, z_bdc, z_bd2, z_opn, z_ops, z_z01, z_Bt, z_Bf, q4, z_ofP, q8, Bool.false_eq_true]
    · rw [decide_eq_true q]
      simp (disch := omega) only [z_lit, z_n, z_add, z_sub, z_mul, z_neg, z_lt1, z_lt0, z_le1, z_le0, z_eq1, z_eq0, z_10, ↓reduceIte, z_v, z_upd, z_ue, z_un, z_ixn, z_ixo, z_ix0, z_ix1, z_ix2, z_ix3, z_ix4, z_ix5, z_ix6, Int.reduceToNat, z_inr, z_gd, ↓z_bnd, ↓z_jn, z_bdc, z_bd2, z_opn, z_ops, z_z01, z_Bt, z_Bf, q4, z_ofP, q8]
  · rw [l_X10_meanDeliveryClock_9]
    simp (disch := omega) only [z_lit, z_n, z_add, z_sub, z_mul, z_neg, z_lt1, z_lt0, z_le1, z_le0, z_eq1, z_eq0, z_10, ↓reduceIte, z_v, z_upd, z_ue, z_un, z_ixn, z_ixo, z_ix0, z_ix1, z_ix2, z_ix3, z_ix4, z_ix5, z_ix6, Int.reduceToNat, z_inr, z_gd, ↓z_bnd, ↓z_jn, z_bdc, z_bd2, z_opn, z_ops, z_z01, z_Bt, z_Bf, q4, e1, z_Gde pi.1 (show b ≤ 1000000000 by omega) e3, hm]
    by_cases c : m = 0
    · rw [if_pos c]
      simp (disch := omega) only [z_lit, z_n, z_add, z_sub, z_mul, z_neg, z_lt1, z_lt0, z_le1, z_le0, z_eq1, z_eq0, z_10, ↓reduceIte, z_v, z_upd, z_ue, z_un, z_ixn, z_ixo, z_ix0, z_ix1, z_ix2, z_ix3, z_ix4, z_ix5, z_ix6, Int.reduceToNat, z_inr, z_gd, ↓z_bnd, ↓z_jn, z_bdc, z_bd2, z_opn, z_ops, z_z01, z_Bt, z_Bf]
    · rw [if_neg c]
      simp (disch := omega) only [z_lit, z_n, z_add, z_sub, z_mul, z_neg, z_lt1, z_lt0, z_le1, z_le0, z_eq1, z_eq0, z_10, ↓reduceIte, z_v, z_upd, z_ue, z_un, z_ixn, z_ixo, z_ix0, z_ix1, z_ix2, z_ix3, z_ix4, z_ix5, z_ix6, Int.reduceToNat, z_inr, z_gd, ↓z_bnd, ↓z_jn, z_bdc, z_bd2, z_opn, z_ops, z_z01, z_Bt, z_Bf]
theorem z_m_share (hB : b ≤ 100000000) (h : z_Q b W s g) : ∃ W', (bdc (f_X9_deliveredShare W) (fun v1 => gdp (vf_n64 (FP.f2d v1)) (bd2 (f_X10_deliveredShare W) (fun v4 W3 => gdp (vf_n64 (FP.f2d v4)) (if (Op.cmpValue (FP.dcmp (FP.f2d v1) (FP.f2d v4)) .l) = 0 then some W3 else if (Op.cmpValue (FP.dcmp (FP.f2d v1) (FP.f2d v1)) .l) = 0 then none else if (Op.cmpValue (FP.dcmp (FP.f2d v4) (FP.f2d v4)) .l) = 0 then none else some W3))))) = some W' ∧ z_EQ W W' := by
  obtain ⟨h0, hg, pi⟩ := id h
  obtain ⟨c0, c1, c2, c3, c4⟩ := pi.1.1
  have h2 := z_Q_th (c := 0) h
  obtain ⟨g', e1, e2, e3⟩ := z_Q_pk h2
  refine ⟨z_th W 0, ?_, z_EQ_th⟩
  have q4 := h2.2.1 4 (by omega)
  rw [pi.2.1.1 4 (by omega)] at q4
  have w4 : W 0 4 = zI (s 4) := by rw [h0]; rfl
  have cb := z_ct_b (p := z_de s) (s 4).toNat 0
  obtain ⟨m, hm⟩ : ∃ m : Nat, z_ct (z_de s) 0 (s 4).toNat = m := ⟨(z_ct (z_de s) 0 (s 4).toNat).toNat, by omega⟩
  obtain ⟨n, hn⟩ : ∃ n : Nat, s 4 = n := ⟨(s 4).toNat, by omega⟩
  unfold f_X9_deliveredShare f_X10_deliveredShare
  have cd := z_Cde pi.1 (show b ≤ 1000000000 by omega)
  have gd' := z_Gde pi.1 (show b ≤ 1000000000 by omega) e3
  rw [hm] at cd gd'
  rw [hn] at q4 w4
  have nn := z_fdiv m (by omega) n (by omega)
  by_cases c : n = 0
  · subst c
    rw [w4, z_l0]
    have : (if zI ((0 : Nat) : Int) = zI 0 then some FP.fconst0 else bdc (f_X4_countDelivered (W 0)) fun v2 => gdp (vf_n32 (FP.fdiv (FP.i2f v2) (FP.i2f (zI ((0 : Nat) : Int))))) (some (FP.fdiv (FP.i2f v2) (FP.i2f (zI ((0 : Nat) : Int)))))) = some FP.fconst0 := if_pos rfl
    rw [this, z_bdc, z_gdp z_f2d0, z_bnd]
    show (bd2 (gd (inr (4 : Int32) 251) (if (z_th W 0 21 (ix (4 : Int32))) = zI 0 then some (FP.fconst0, z_th W 0) else _)) _) = _
    rw [show inr (4 : Int32) 251 = true by decide, z_gd, show ix (4 : Int32) = 4 by decide, q4, if_pos (show zI ((0 : Nat) : Int) = zI 0 from rfl), z_bd2, z_gdp z_f2d0, z_ncmp]
  · have nz : zI (n : Int) ≠ zI 0 := by
      rw [Ne, z_eq (by unfold zR; omega) (by unfold zR; omega)]
      omega
    obtain ⟨n1, n2⟩ := nn c
    rw [w4, z_l0, if_neg nz, h0, cd, z_bdc, z_gdp n1, z_bdc, z_gdp n2, z_bnd]
    show (bd2 (gd (inr (4 : Int32) 251) (if (z_th W 0 21 (ix (4 : Int32))) = zI 0 then some (FP.fconst0, z_th W 0) else bdc (f_X10_deliveredIn (pk (z_th W 0 21) (z_th W 0 27))) (fun v3 => gd (inr (4 : Int32) 251) (gdp (vf_n32 (FP.fdiv (FP.i2f v3) (FP.i2f (z_th W 0 21 (ix (4 : Int32)))))) (some (FP.fdiv (FP.i2f v3) (FP.i2f (z_th W 0 21 (ix (4 : Int32)))), z_th W 0)))))) _) = _
    rw [show inr (4 : Int32) 251 = true by decide, z_gd, show ix (4 : Int32) = 4 by decide, q4, if_neg nz, e1, gd', z_bdc, z_gd, z_gdp n1, z_bd2, z_gdp n2, z_ncmp]
end Avg
