/-! queries without an argument -/
def z_sm (f : Nat → Int) : Nat → Nat → Int
  | _, 0 => 0
  | i, d + 1 => f i + z_sm f (i + 1) d
theorem z_sl {R : Type} {l : Nat → Int32 → Int32 → Option R} {K : Int → Option R} {n : Nat} {f : Nat → Int}
    (hs : ∀ N x (i : Nat), i < n → l (N + 1) (zI x) (zI i) = l N (zI (x + f i)) (zI ((i : Int) + 1)))
    (he : ∀ N x, l (N + 1) (zI x) (zI n) = K x) : ∀ d i N x, i + d = n → d < N → l N (zI x) (zI (i : Int)) = K (x + z_sm f i d)
  | 0, i, N, x, h1, h2 => by
    obtain ⟨N, rfl⟩ : ∃ m, N = m + 1 := ⟨N - 1, by omega⟩
    rw [show i = n by omega, he, show z_sm f n 0 = 0 from rfl, Int.add_zero]
  | d + 1, i, N, x, h1, h2 => by
    obtain ⟨N, rfl⟩ : ∃ m, N = m + 1 := ⟨N - 1, by omega⟩
    rw [hs N x i (by omega), ← z_cs, z_sl hs he d (i + 1) N _ (by omega) (by omega)]
    rw [show z_sm f i (d + 1) = f i + z_sm f (i + 1) d from rfl, Int.add_assoc]
theorem z_sm_neg {f : Nat → Int} : ∀ d i, z_sm (fun k => -f k) i d = -z_sm f i d
  | 0, i => rfl
  | d + 1, i => by
    unfold z_sm
    rw [z_sm_neg d (i + 1)]
    omega
theorem z_sm_b {f : Nat → Int} {B : Int} : ∀ d i, (∀ j, i ≤ j → j < i + d → 0 ≤ f j ∧ f j ≤ B) → 0 ≤ z_sm f i d ∧ z_sm f i d ≤ d * B
  | 0, i, _ => by
    unfold z_sm
    simp
  | d + 1, i, h => by
    have e := z_sm_b d (i + 1) (fun j h1 h2 => h j (by omega) (by omega))
    have e0 := h i (by omega) (by omega)
    unfold z_sm
    rw [show ((d + 1 : Nat) : Int) * B = d * B + B by rw [z_cs, Int.add_mul, Int.one_mul]]
    omega
section Smp
variable {W W' : Nat → Nat → Int32} {b : Int} {s g : Nat → Int}
theorem z_Ccc (h : z_inv b s) : f_X4_countCarried (zV s) = some (zI (z_sm (fun t => z_ct (z_ca s t) 0 (s 4).toNat) 0 (s 3).toNat)) := by
  obtain ⟨⟨h0, h1, h2, h3, h4⟩, -⟩ := id h
  have e := z_sl (l := l_X4_countCarried_4 (zV s)) (K := fun k => some (zI k)) (n := (s 3).toNat) (f := fun t => z_ct (z_ca s t) 0 (s 4).toNat) (fun N x i hi => ?_) (fun N x => ?_) (s 3).toNat 0 FU 0 (by omega) (by unfold FU; omega)
  · unfold f_X4_countCarried
    rw [z_l0]
    refine e.trans ?_
    rw [Int.zero_add]
  · rw [l_X4_countCarried_4]
    simp (disch := omega) only [z_lit, z_n, z_add, z_sub, z_mul, z_neg, z_lt1, z_lt0, z_le1, z_le0, z_eq1, z_eq0, z_10, ↓reduceIte, z_v, z_upd, z_ue, z_un, z_ixn, z_ixo, z_ix0, z_ix1, z_ix2, z_ix3, z_ix4, z_ix5, z_ix6, Int.reduceToNat, z_inr, z_gd, ↓z_bnd, ↓z_jn, z_bdc, z_bd2, z_opn, z_ops, z_z01, z_Bt, z_Bf, z_Cca h (show zR (i : Int) by unfold zR; omega)]
  · rw [l_X4_countCarried_4]
    simp (disch := omega) only [z_lit, z_n, z_add, z_sub, z_mul, z_neg, z_lt1, z_lt0, z_le1, z_le0, z_eq1, z_eq0, z_10, ↓reduceIte, z_v, z_upd, z_ue, z_un, z_ixn, z_ixo, z_ix0, z_ix1, z_ix2, z_ix3, z_ix4, z_ix5, z_ix6, Int.reduceToNat, z_inr, z_gd, ↓z_bnd, ↓z_jn, z_bdc, z_bd2, z_opn, z_ops, z_z01, z_Bt, z_Bf]
theorem z_m_deliveredCount (hB : b ≤ 1000000000) (h : z_Q b W s g) : ∃ W', (bdc (f_X9_deliveredCount W) fun v1 => bd2 (f_X10_deliveredCount W) fun v3 W2 => if v1 = v3 then some W2 else none) = some W' ∧ z_EQ W W' := by
  obtain ⟨h0, hg, pi⟩ := id h
  obtain ⟨g', e1, e2, e3⟩ := z_Q_pk (z_Q_th (c := 0) h)
  refine ⟨z_th W 0, ?_, z_EQ_th⟩
  unfold f_X9_deliveredCount f_X10_deliveredCount
  rw [h0, z_Cde pi.1 hB, z_bdc, z_bdc, z_bnd, z_l0]
  show (bd2 (bdc (f_X10_deliveredIn (pk (z_th W 0 21) (z_th W 0 27))) fun v2 => some (v2, z_th W 0)) _) = _
  rw [e1, z_Gde pi.1 hB e3, z_bdc, z_bd2, if_pos rfl]
theorem z_m_loadingBalance (h : z_Q b W s g) : ∃ W', (bdc (f_X9_loadingBalance W) fun v1 => bd2 (f_X10_loadingBalance W) fun v3 W2 => if v1 = v3 then some W2 else none) = some W' ∧ z_EQ W W' := by
  obtain ⟨h0, hg, pi⟩ := id h
  obtain ⟨c0, c1, c2, c3, c4⟩ := pi.1.1
  have h2 := z_Q_th (c := 0) h
  obtain ⟨g', e1, e2, e3⟩ := z_Q_pk h2
  refine ⟨z_th W 0, ?_, z_EQ_th⟩
  unfold f_X9_loadingBalance f_X10_loadingBalance
  rw [h0, z_Ccc pi.1, z_bdc, z_bdc, z_bnd, z_l0]
  show (bd2 (gd (inr (5 : Int32) 251) (gd (inr (6 : Int32) 251) (bnd ((z_th W 0 21 (ix (5 : Int32))) - (z_th W 0 21 (ix (6 : Int32)))) (fun v2 => l_X10_loadingBalance_22 (z_th W 0) FU v2 (zI 0))))) _) = _
  have q5 := h2.2.1 5 (by omega)
  have q6 := h2.2.1 6 (by omega)
  have q3 := h2.2.1 3 (by omega)
  rw [pi.2.1.1 5 (by omega)] at q5
  rw [pi.2.1.1 6 (by omega)] at q6
  rw [pi.2.1.1 3 (by omega)] at q3
  have e := z_sl (l := l_X10_loadingBalance_22 (z_th W 0)) (K := fun k => some (zI k, z_th W 0)) (n := (s 3).toNat) (f := fun t => -z_ct (z_ca s t) 0 (s 4).toNat) (fun N x i hi => ?_) (fun N x => ?_) (s 3).toNat 0 FU (s 5 - s 6) (by omega) (by unfold FU; omega)
  · simp (disch := omega) only [z_lit, z_n, z_add, z_sub, z_mul, z_neg, z_lt1, z_lt0, z_le1, z_le0, z_eq1, z_eq0, z_10, ↓reduceIte, z_v, z_upd, z_ue, z_un, z_ixn, z_ixo, z_ix0, z_ix1, z_ix2, z_ix3, z_ix4, z_ix5, z_ix6, Int.reduceToNat, z_inr, z_gd, ↓z_bnd, ↓z_jn, z_bdc, z_bd2, z_opn, z_ops, z_z01, z_Bt, z_Bf, q5, q6]
    rw [z_sm_neg] at e
    have e' : l_X10_loadingBalance_22 (z_th W 0) FU (zI (s 5 - s 6)) (zI 0) = _ := e
    rw [e', z_bd2, if_pos]
    rfl
  · rw [l_X10_loadingBalance_22]
    simp (disch := omega) only [z_lit, z_n, z_add, z_sub, z_mul, z_neg, z_lt1, z_lt0, z_le1, z_le0, z_eq1, z_eq0, z_10, ↓reduceIte, z_v, z_upd, z_ue, z_un, z_ixn, z_ixo, z_ix0, z_ix1, z_ix2, z_ix3, z_ix4, z_ix5, z_ix6, Int.reduceToNat, z_inr, z_gd, ↓z_bnd, ↓z_jn, z_bdc, z_bd2, z_opn, z_ops, z_z01, z_Bt, z_Bf, q3, e1, z_Gca pi.1 e3 (show zR (i : Int) by unfold zR; omega)]
    rfl
  · rw [l_X10_loadingBalance_22]
    simp (disch := omega) only [z_lit, z_n, z_add, z_sub, z_mul, z_neg, z_lt1, z_lt0, z_le1, z_le0, z_eq1, z_eq0, z_10, ↓reduceIte, z_v, z_upd, z_ue, z_un, z_ixn, z_ixo, z_ix0, z_ix1, z_ix2, z_ix3, z_ix4, z_ix5, z_ix6, Int.reduceToNat, z_inr, z_gd, ↓z_bnd, ↓z_jn, z_bdc, z_bd2, z_opn, z_ops, z_z01, z_Bt, z_Bf, q3]
theorem z_m_parcelBalance (hB : b ≤ 1000000000) (h : z_Q b W s g) : ∃ W', (bdc (f_X9_parcelBalance W) fun v1 => bd2 (f_X10_parcelBalance W) fun v3 W2 => if v1 = v3 then some W2 else none) = some W' ∧ z_EQ W W' := by
  obtain ⟨h0, hg, pi⟩ := id h
  obtain ⟨c0, c1, c2, c3, c4⟩ := pi.1.1
  have h2 := z_Q_th (c := 0) h
  obtain ⟨g', e1, e2, e3⟩ := z_Q_pk h2
  refine ⟨z_th W 0, ?_, z_EQ_th⟩
  have q4 := h2.2.1 4 (by omega)
  have q1 := h2.2.1 1 (by omega)
  have q3 := h2.2.1 3 (by omega)
  rw [pi.2.1.1 4 (by omega)] at q4
  rw [pi.2.1.1 1 (by omega)] at q1
  rw [pi.2.1.1 3 (by omega)] at q3
  have w4 : W 0 4 = zI (s 4) := by rw [h0]; rfl
  have w1 : W 0 1 = zI (s 1) := by rw [h0]; rfl
  unfold f_X9_parcelBalance f_X10_parcelBalance
  rw [h0, z_Cde pi.1 hB, z_bdc, z_bnd, z_v, z_sub]
  have k1 := z_sl (l := l_X9_parcelBalance_18 W) (K := fun k => some (zI (k - z_sm (fun t => z_ct (z_ca s t) 0 (s 4).toNat) 0 (s 3).toNat))) (n := (s 1).toNat) (f := fun t => -z_ct (z_wt s t) 0 (s 4).toNat) (fun N x i hi => ?_) (fun N x => ?_) (s 1).toNat 0 FU (s 4 - z_ct (z_de s) 0 (s 4).toNat) (by omega) (by unfold FU; omega)
  · have k2 := z_sl (l := l_X10_parcelBalance_51 (z_th W 0)) (K := fun k => some (zI k, z_th W 0)) (n := (s 3).toNat) (f := fun t => -z_ct (z_ca s t) 0 (s 4).toNat) (fun N x i hi => ?_) (fun N x => ?_) (s 3).toNat 0 FU
    · have k3 := z_sl (l := l_X10_parcelBalance_22 (z_th W 0) (fun (x7 : Int32) => l_X10_parcelBalance_51 (z_th W 0) FU x7 (zI 0))) (K := fun k => l_X10_parcelBalance_51 (z_th W 0) FU (zI k) (zI 0)) (n := (s 1).toNat) (f := fun t => -z_ct (z_wt s t) 0 (s 4).toNat) (fun N x i hi => ?_) (fun N x => ?_) (s 1).toNat 0 FU (s 4 - z_ct (z_de s) 0 (s 4).toNat) (by omega) (by unfold FU; omega)
      · have k1' : l_X9_parcelBalance_18 W FU (zI (s 4 - z_ct (z_de s) 0 (s 4).toNat)) (zI 0) = _ := k1
        have k3' : l_X10_parcelBalance_22 (z_th W 0) (fun (x7 : Int32) => l_X10_parcelBalance_51 (z_th W 0) FU x7 (zI 0)) FU (zI (s 4 - z_ct (z_de s) 0 (s 4).toNat)) (zI 0) = _ := k3
        rw [z_l0, k1', z_bdc, z_bnd]
        show (bd2 (gd (inr (4 : Int32) 251) (bdc (f_X10_deliveredIn (pk (z_th W 0 21) (z_th W 0 27))) (fun v2 => bnd ((z_th W 0 21 (ix (4 : Int32))) - v2) (fun v3 => l_X10_parcelBalance_22 (z_th W 0) (fun (x7 : Int32) => l_X10_parcelBalance_51 (z_th W 0) FU x7 (zI 0)) FU v3 (zI 0))))) _) = _
        rw [e1, z_Gde pi.1 hB e3, z_bdc, z_bnd, show inr (4 : Int32) 251 = true by decide, z_gd, show ix (4 : Int32) = 4 by decide, q4, z_sub, k3']
        have k2' := k2 (s 4 - z_ct (z_de s) 0 (s 4).toNat + z_sm (fun t => -z_ct (z_wt s t) 0 (s 4).toNat) 0 (s 1).toNat) (by omega) (by unfold FU; omega)
        have k2'' : l_X10_parcelBalance_51 (z_th W 0) FU (zI (s 4 - z_ct (z_de s) 0 (s 4).toNat + z_sm (fun t => -z_ct (z_wt s t) 0 (s 4).toNat) 0 (s 1).toNat)) (zI 0) = _ := k2'
        rw [k2'', z_bd2, z_sm_neg (f := fun t => z_ct (z_ca s t) 0 (s 4).toNat), if_pos]
        rfl
      · rw [l_X10_parcelBalance_22]
        simp (disch := omega) only [z_lit, z_n, z_add, z_sub, z_mul, z_neg, z_lt1, z_lt0, z_le1, z_le0, z_eq1, z_eq0, z_10, ↓reduceIte, z_v, z_upd, z_ue, z_un, z_ixn, z_ixo, z_ix0, z_ix1, z_ix2, z_ix3, z_ix4, z_ix5, z_ix6, Int.reduceToNat, z_inr, z_gd, ↓z_bnd, ↓z_jn, z_bdc, z_bd2, z_opn, z_ops, z_z01, z_Bt, z_Bf, q1, e1, z_Gwa pi.1 e3 (show zR (i : Int) by unfold zR; omega)]
        rfl
      · rw [l_X10_parcelBalance_22]
        simp (disch := omega) only [z_lit, z_n, z_add, z_sub, z_mul, z_neg, z_lt1, z_lt0, z_le1, z_le0, z_eq1, z_eq0, z_10, ↓reduceIte, z_v, z_upd, z_ue, z_un, z_ixn, z_ixo, z_ix0, z_ix1, z_ix2, z_ix3, z_ix4, z_ix5, z_ix6, Int.reduceToNat, z_inr, z_gd, ↓z_bnd, ↓z_jn, z_bdc, z_bd2, z_opn, z_ops, z_z01, z_Bt, z_Bf, q1]
    · rw [l_X10_parcelBalance_51]
      simp (disch := omega) only [z_lit, z_n, z_add, z_sub, z_mul, z_neg, z_lt1, z_lt0, z_le1, z_le0, z_eq1, z_eq0, z_10, ↓reduceIte, z_v, z_upd, z_ue, z_un, z_ixn, z_ixo, z_ix0, z_ix1, z_ix2, z_ix3, z_ix4, z_ix5, z_ix6, Int.reduceToNat, z_inr, z_gd, ↓z_bnd, ↓z_jn, z_bdc, z_bd2, z_opn, z_ops, z_z01, z_Bt, z_Bf, q3, e1, z_Gca pi.1 e3 (show zR (i : Int) by unfold zR; omega)]
      rfl
    · rw [l_X10_parcelBalance_51]
      simp (disch := omega) only [z_lit, z_n, z_add, z_sub, z_mul, z_neg, z_lt1, z_lt0, z_le1, z_le0, z_eq1, z_eq0, z_10, ↓reduceIte, z_v, z_upd, z_ue, z_un, z_ixn, z_ixo, z_ix0, z_ix1, z_ix2, z_ix3, z_ix4, z_ix5, z_ix6, Int.reduceToNat, z_inr, z_gd, ↓z_bnd, ↓z_jn, z_bdc, z_bd2, z_opn, z_ops, z_z01, z_Bt, z_Bf, q3]
  · rw [l_X9_parcelBalance_18, h0]
    simp (disch := omega) only [z_lit, z_n, z_add, z_sub, z_mul, z_neg, z_lt1, z_lt0, z_le1, z_le0, z_eq1, z_eq0, z_10, ↓reduceIte, z_v, z_upd, z_ue, z_un, z_ixn, z_ixo, z_ix0, z_ix1, z_ix2, z_ix3, z_ix4, z_ix5, z_ix6, Int.reduceToNat, z_inr, z_gd, ↓z_bnd, ↓z_jn, z_bdc, z_bd2, z_opn, z_ops, z_z01, z_Bt, z_Bf, z_Cwa pi.1 (show zR (i : Int) by unfold zR; omega)]
    rfl
  · rw [l_X9_parcelBalance_18, h0, z_Ccc pi.1]
    simp (disch := omega) only [z_lit, z_n, z_add, z_sub, z_mul, z_neg, z_lt1, z_lt0, z_le1, z_le0, z_eq1, z_eq0, z_10, ↓reduceIte, z_v, z_upd, z_ue, z_un, z_ixn, z_ixo, z_ix0, z_ix1, z_ix2, z_ix3, z_ix4, z_ix5, z_ix6, Int.reduceToNat, z_inr, z_gd, ↓z_bnd, ↓z_jn, z_bdc, z_bd2, z_opn, z_ops, z_z01, z_Bt, z_Bf]
end Smp
