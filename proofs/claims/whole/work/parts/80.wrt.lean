/-! the items that are written, and their loops -/
section Wrt
variable {W W' W'' V V' : Nat → Nat → Int32} {b : Int} {s g : Nat → Int} {n : Nat} {xs ys : List Int32}
theorem z_Q_A (h : z_Q b W s g) (a : z_A n W xs W') : z_Q b W' s g := ⟨by rw [a.1 0 (by omega) (by omega)]; exact h.1, fun k hk => by rw [a.1 21 (by omega) (by omega)]; exact h.2.1 k hk, h.2.2⟩
theorem z_Q_AB (h : z_Q b W s g) (a : z_AB n W xs W') : z_Q b W' s g := ⟨by rw [a.1 0 (by omega) (by omega)]; exact h.1, fun k hk => by rw [a.1 21 (by omega) (by omega)]; exact h.2.1 k hk, h.2.2⟩
/-- one name, both sides -/
theorem z_nmb (h : z_PI b s g) {i : Int} (hi : 0 ≤ i ∧ i < s 1) : ∃ xs : List Int32, (1 ≤ xs.length ∧ xs.length ≤ 4) ∧ (∀ W n, W 0 = zV s → W 18 0 = zI (n : Nat) → n < 68 → ∃ x W', f_X4_nameOf (zV s) (zI i) = some x ∧ f_X1_putName W x = some W' ∧ z_A n W xs W') ∧ (∀ V n, z_Q b V s g → V 30 11 = zI (n : Nat) → n < 190 → ∃ V', f_X10_printName V (zI i) = some V' ∧ z_AB n V xs V') := by
  obtain ⟨n, rfl⟩ : ∃ n : Nat, i = n := ⟨i.toNat, by omega⟩
  obtain ⟨c0, c1, c2, c3, c4⟩ := h.1.1
  obtain ⟨⟨a, b', c, d, hl, e1, e2⟩, -⟩ := h.2.1.2.1 n hi.2
  obtain ⟨p1, p2, p3⟩ := z_cnl hl
  refine ⟨z_nl a b' c d, z_nl_l, fun W m h0 h18 hm => ?_, fun V m hq h30 hm => ?_⟩
  · obtain ⟨W', q1, q2⟩ := z_pnm (x := z_pk a b' c d) ⟨p1, p2⟩ h18 hm
    rw [p3] at q2
    refine ⟨zI (s (7 + 4 * n)), W', ?_, by rw [e1]; exact q1, q2⟩
    unfold f_X4_nameOf
    simp (disch := omega) only [z_lit, z_n, z_add, z_sub, z_mul, z_neg, z_lt1, z_lt0, z_le1, z_le0, z_eq1, z_eq0, z_10, ↓reduceIte, z_v, z_upd, z_ue, z_un, z_ixn, z_ixo, z_ix0, z_ix1, z_ix2, z_ix3, z_ix4, z_ix5, z_ix6, Int.reduceToNat, z_inr, z_gd, ↓z_bnd, ↓z_jn, z_bdc, z_bd2, z_opn, z_ops, z_z01, z_Bt, z_Bf]
  · exact z_prn hl (by omega) (by rw [hq.2.1 _ (by omega), e2]) h30 hm
/-- what stands before an item -/
def z_sp0 (n : Nat) : List Int32 := if n = 0 then [] else [z_ch 32]
theorem z_sp0_l {n : Nat} : (z_sp0 n).length ≤ 1 := by
  unfold z_sp0
  split <;> simp
theorem z_spc (h : V 30 11 = zI n) (hn : n < 190) : ∃ V', f_X10_space V = some V' ∧ z_AB n V (z_sp0 n) V' := by
  unfold f_X10_space
  rw [h]
  unfold z_sp0
  by_cases c : n = 0
  · rw [if_pos c]
    simp (disch := omega) only [z_lit, z_n, z_add, z_sub, z_mul, z_neg, z_lt1, z_lt0, z_le1, z_le0, z_eq1, z_eq0, z_10, ↓reduceIte, z_v, z_upd, z_ue, z_un, z_ixn, z_ixo, z_ix0, z_ix1, z_ix2, z_ix3, z_ix4, z_ix5, z_ix6, Int.reduceToNat, z_inr, z_gd, ↓z_bnd, ↓z_jn, z_bdc, z_bd2, z_opn, z_ops, z_z01, z_Bt, z_Bf]
    exact ⟨V, rfl, z_AB_n h⟩
  · rw [if_neg c]
    obtain ⟨V', e, a⟩ := z_prt (x := 32) h (by omega)
    simp (disch := omega) only [z_lit, z_n, z_add, z_sub, z_mul, z_neg, z_lt1, z_lt0, z_le1, z_le0, z_eq1, z_eq0, z_10, ↓reduceIte, z_v, z_upd, z_ue, z_un, z_ixn, z_ixo, z_ix0, z_ix1, z_ix2, z_ix3, z_ix4, z_ix5, z_ix6, Int.reduceToNat, z_inr, z_gd, ↓z_bnd, ↓z_jn, z_bdc, z_bd2, z_opn, z_ops, z_z01, z_Bt, z_Bf, e]
    exact ⟨V', rfl, a⟩
theorem z_tst (h : z_PI b s g) {t : Nat} (ht : (t : Int) < s 3) : ∃ xs : List Int32, (1 ≤ xs.length ∧ xs.length ≤ 11) ∧ (∀ W n N, W 0 = zV s → W 18 0 = zI (n : Nat) → n < 60 → (n = 0 ↔ t = 0) → ∃ W', l_X9_writeTrains_10 (N + 1) W (zI t) = l_X9_writeTrains_10 N W' (zI ((t : Int) + 1)) ∧ z_A n W (z_sp0 n ++ xs) W') ∧ (∀ V n N, z_Q b V s g → V 30 11 = zI (n : Nat) → n < 170 → ∃ V', l_X10_writeTrains_12 (N + 1) V (zI t) = l_X10_writeTrains_12 N V' (zI ((t : Int) + 1)) ∧ z_AB n V (z_sp0 n ++ xs) V') := by
  obtain ⟨c0, c1, c2, c3, c4⟩ := h.1.1
  obtain ⟨-, a1, ar, -, a4, a5, a6⟩ := h.1.2.2.2.2.1 t ht
  have ccu : 0 ≤ z_cu s t ∧ z_cu s t < s 1 := by
    have := ar (s (87 + 14 * t + 8)).toNat (by omega)
    exact this
  have cnx : 0 ≤ z_nx s t ∧ z_nx s t < s 1 := by
    have := ar (s (87 + 14 * t + 8) + (2 * s (87 + 14 * t + 9) - 1)).toNat (by omega)
    exact this
  obtain ⟨us, ul, uC, uG⟩ := z_nmb h ccu
  obtain ⟨vs, vl, vC, vG⟩ := z_nmb h cnx
  have cb := z_ct_b (p := z_ca s (t : Int)) (s 4).toNat 0
  have eca := z_Cca h.1 (x := (t : Int)) (by unfold zR; omega)
  have gcu := fun g' (r : z_rel s g') => z_Gcu h.1 r ht
  have gsd := fun g' (r : z_rel s g') => z_Gsd h.1 r ht
  have gnx := fun g' (r : z_rel s g') => z_Gnx h.1 r ht
  have gca := fun g' (r : z_rel s g') => z_Gca h.1 r (x := (t : Int)) (by unfold zR; omega)
  have ccu' := z_Ccu h.1 ht
  have cnx' := z_Cnx h.1 ht
  generalize z_ct (z_ca s (t : Int)) 0 (s 4).toNat = v at *
  generalize z_cu s t = cu at *
  generalize z_nx s t = nx at *
  refine ⟨us ++ ((if s (87 + 14 * t + 10) = 0 then [] else [z_ch 62] ++ vs) ++ ([z_ch 58] ++ [z_ch (48 + v)])), ?_, fun W n N h0 h18 hn h01 => ?_, fun V n N hq h30 hn => ?_⟩
  · by_cases c : s (87 + 14 * t + 10) = 0
    · rw [if_pos c]
      simp only [List.length_append, List.length_singleton, List.length_nil]
      omega
    · rw [if_neg c]
      simp only [List.length_append, List.length_singleton, List.length_nil]
      omega
  · obtain ⟨W1, e1, k1⟩ : ∃ W1, (jn (fun (W4 : Nat → Nat → Int32) => gd (inr (zI t) 4) (bdc (f_X9_putTrain W4 (ix (zI t))) (fun W8 => bdc (f_X1_put W8 (58 : Int32)) (fun W9 => bdc (f_X4_countCarriedBy (W9 0) (zI t)) (fun v10 => bdc (f_X1_put W9 ((48 : Int32) + v10)) (fun W11 => l_X9_writeTrains_10 N W11 ((zI t) + (1 : Int32)))))))) (fun j3 => if (zI t) ≤ 0 then j3 W else bdc (f_X1_put W (32 : Int32)) (fun W6 => j3 W6))) = (bdc (f_X9_putTrain W1 t) (fun W8 => bdc (f_X1_put W8 (58 : Int32)) (fun W9 => bdc (f_X4_countCarriedBy (W9 0) (zI t)) (fun v10 => bdc (f_X1_put W9 ((48 : Int32) + v10)) (fun W11 => l_X9_writeTrains_10 N W11 ((zI t) + (1 : Int32))))))) ∧ z_A n W (z_sp0 n) W1 := by
      unfold z_sp0
      by_cases c : n = 0
      · rw [if_pos c]
        refine ⟨W, ?_, z_A_n h18⟩
        simp (disch := omega) only [z_lit, z_n, z_add, z_sub, z_mul, z_neg, z_lt1, z_lt0, z_le1, z_le0, z_eq1, z_eq0, z_10, ↓reduceIte, z_v, z_upd, z_ue, z_un, z_ixn, z_ixo, z_ix0, z_ix1, z_ix2, z_ix3, z_ix4, z_ix5, z_ix6, Int.reduceToNat, z_inr, z_gd, ↓z_bnd, ↓z_jn, z_bdc, z_bd2, z_opn, z_ops, z_z01, z_Bt, z_Bf]
      · rw [if_neg c]
        obtain ⟨W1, e, a⟩ := z_put (x := 32) h18 (by omega)
        refine ⟨W1, ?_, a⟩
        simp (disch := omega) only [z_lit, z_n, z_add, z_sub, z_mul, z_neg, z_lt1, z_lt0, z_le1, z_le0, z_eq1, z_eq0, z_10, ↓reduceIte, z_v, z_upd, z_ue, z_un, z_ixn, z_ixo, z_ix0, z_ix1, z_ix2, z_ix3, z_ix4, z_ix5, z_ix6, Int.reduceToNat, z_inr, z_gd, ↓z_bnd, ↓z_jn, z_bdc, z_bd2, z_opn, z_ops, z_z01, z_Bt, z_Bf, e]
    have l0 := z_sp0_l (n := n)
    rw [l_X9_writeTrains_10, h0]
    rw [z_v, z_leF (by omega) (by omega) (by omega), e1]
    unfold f_X9_putTrain f_X8_isStanding
    rw [k1.1 0 (by omega) (by omega), h0, z_l0, ccu', z_bdc]
    obtain ⟨x, W2, q1, q2, k2⟩ := uC W1 _ (by rw [k1.1 0 (by omega) (by omega)]; exact h0) k1.2.1 (by omega)
    have z2 : W2 0 = zV s := by rw [k2.1 0 (by omega) (by omega), k1.1 0 (by omega) (by omega)]; exact h0
    rw [q1, z_bdc, q2, z_bdc, z2]
    by_cases c : s (87 + 14 * t + 10) = 0
    · rw [if_pos c]
      obtain ⟨W3, q3, k3⟩ := z_put (x := 58) k2.2.1 (by omega)
      have z3 : W3 0 = zV s := by rw [k3.1 0 (by omega) (by omega)]; exact z2
      obtain ⟨W4, q4, k4⟩ := z_put (x := 48 + v) k3.2.1 (by simp only [List.length_singleton]; omega)
      refine ⟨W4, ?_, z_A_t k1 (z_A_t k2 (z_A_t (z_A_n k2.2.1) (z_A_t k3 k4)))⟩
      simp (disch := omega) only [z_lit, z_n, z_add, z_sub, z_mul, z_neg, z_lt1, z_lt0, z_le1, z_le0, z_eq1, z_eq0, z_10, ↓reduceIte, z_v, z_upd, z_ue, z_un, z_ixn, z_ixo, z_ix0, z_ix1, z_ix2, z_ix3, z_ix4, z_ix5, z_ix6, Int.reduceToNat, z_inr, z_gd, ↓z_bnd, ↓z_jn, z_bdc, z_bd2, z_opn, z_ops, z_z01, z_Bt, z_Bf, q3, z3, eca, q4]
    · rw [if_neg c]
      obtain ⟨W5, q5, k5⟩ := z_put (x := 62) k2.2.1 (by omega)
      have z5 : W5 0 = zV s := by rw [k5.1 0 (by omega) (by omega)]; exact z2
      obtain ⟨x6, W6, p6, q6, k6⟩ := vC W5 _ z5 k5.2.1 (by simp only [List.length_singleton]; omega)
      obtain ⟨W3, q3, k3⟩ := z_put (x := 58) k6.2.1 (by simp only [List.length_singleton]; omega)
      have z3 : W3 0 = zV s := by rw [k3.1 0 (by omega) (by omega), k6.1 0 (by omega) (by omega)]; exact z5
      obtain ⟨W4, q4, k4⟩ := z_put (x := 48 + v) k3.2.1 (by simp only [List.length_singleton]; omega)
      have k56 := z_A_t k5 k6
      have k34 := z_A_t k3 k4
      rw [Nat.add_assoc _ [z_ch 62].length, ← List.length_append] at k34
      refine ⟨W4, ?_, z_A_t k1 (z_A_t k2 (z_A_t k56 k34))⟩
      simp (disch := omega) only [z_lit, z_n, z_add, z_sub, z_mul, z_neg, z_lt1, z_lt0, z_le1, z_le0, z_eq1, z_eq0, z_10, ↓reduceIte, z_v, z_upd, z_ue, z_un, z_ixn, z_ixo, z_ix0, z_ix1, z_ix2, z_ix3, z_ix4, z_ix5, z_ix6, Int.reduceToNat, z_inr, z_gd, ↓z_bnd, ↓z_jn, z_bdc, z_bd2, z_opn, z_ops, z_z01, z_Bt, z_Bf, q5, z5, cnx', p6, q6, q3, z3, eca, q4]
  · have l0 := z_sp0_l (n := n)
    obtain ⟨V1, e1, k1⟩ := z_spc h30 (by omega)
    have z1 := z_Q_AB hq k1
    obtain ⟨g1, r1, -, r2⟩ := z_Q_pk z1
    obtain ⟨V2, e2, k2⟩ := uG V1 _ z1 k1.2.2.1 (by omega)
    have z2 := z_Q_AB z1 k2
    obtain ⟨g2, s1, -, s2⟩ := z_Q_pk z2
    have g3 := hq.2.1 3 (by omega)
    rw [h.2.1.1 3 (by omega)] at g3
    rw [l_X10_writeTrains_12]
    by_cases c : s (87 + 14 * t + 10) = 0
    · rw [if_pos c]
      obtain ⟨V3, q3, k3⟩ := z_prt (x := 58) k2.2.2.1 (by omega)
      have z3 := z_Q_AB z2 k3
      obtain ⟨g3', t1, -, t2⟩ := z_Q_pk z3
      obtain ⟨V4, q4, k4⟩ := z_prt (x := 48 + v) k3.2.2.1 (by simp only [List.length_singleton]; omega)
      refine ⟨V4, ?_, z_AB_t k1 (z_AB_t k2 (z_AB_t (z_AB_n k2.2.2.1) (z_AB_t k3 k4)))⟩
      simp (disch := omega) only [z_lit, z_n, z_add, z_sub, z_mul, z_neg, z_lt1, z_lt0, z_le1, z_le0, z_eq1, z_eq0, z_10, ↓reduceIte, z_v, z_upd, z_ue, z_un, z_ixn, z_ixo, z_ix0, z_ix1, z_ix2, z_ix3, z_ix4, z_ix5, z_ix6, Int.reduceToNat, z_inr, z_gd, ↓z_bnd, ↓z_jn, z_bdc, z_bd2, z_opn, z_ops, z_z01, z_Bt, z_Bf, g3, e1, r1, gcu g1 r2, e2, s1, gsd g2 s2, decide_eq_true c, q3, t1, gca g3' t2, q4]
    · rw [if_neg c]
      obtain ⟨V5, q5, k5⟩ := z_prt (x := 62) k2.2.2.1 (by omega)
      have z5 := z_Q_AB z2 k5
      obtain ⟨g5, u1, -, u2⟩ := z_Q_pk z5
      obtain ⟨V6, q6, k6⟩ := vG V5 _ z5 k5.2.2.1 (by simp only [List.length_singleton]; omega)
      have z6 := z_Q_AB z5 k6
      obtain ⟨V3, q3, k3⟩ := z_prt (x := 58) k6.2.2.1 (by simp only [List.length_singleton]; omega)
      have z3 := z_Q_AB z6 k3
      obtain ⟨g3', t1, -, t2⟩ := z_Q_pk z3
      obtain ⟨V4, q4, k4⟩ := z_prt (x := 48 + v) k3.2.2.1 (by simp only [List.length_singleton]; omega)
      have k56 := z_AB_t k5 k6
      have k34 := z_AB_t k3 k4
      rw [Nat.add_assoc _ [z_ch 62].length, ← List.length_append] at k34
      refine ⟨V4, ?_, z_AB_t k1 (z_AB_t k2 (z_AB_t k56 k34))⟩
      simp (disch := omega) only [z_lit, z_n, z_add, z_sub, z_mul, z_neg, z_lt1, z_lt0, z_le1, z_le0, z_eq1, z_eq0, z_10, ↓reduceIte, z_v, z_upd, z_ue, z_un, z_ixn, z_ixo, z_ix0, z_ix1, z_ix2, z_ix3, z_ix4, z_ix5, z_ix6, Int.reduceToNat, z_inr, z_gd, ↓z_bnd, ↓z_jn, z_bdc, z_bd2, z_opn, z_ops, z_z01, z_Bt, z_Bf, g3, e1, r1, gcu g1 r2, e2, s1, gsd g2 s2, decide_eq_false c, q5, u1, gnx g5 u2, q6, q3, t1, gca g3' t2, q4]
end Wrt
