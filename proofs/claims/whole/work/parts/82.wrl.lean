section Wrl
variable {W W' W'' V V' : Nat → Nat → Int32} {b : Int} {s g : Nat → Int} {n : Nat} {xs ys : List Int32}
def z_wc (m t n : Nat) : Prop := (t = 0 ∧ n = 0) ∨ (0 < t ∧ 0 < n ∧ n + 1 ≤ (m + 1) * t)
theorem z_wlp {lC lR : Nat → (Nat → Nat → Int32) → Int32 → Option (Int32 × (Nat → Nat → Int32))} (cnt m : Nat)
    (step : ∀ t : Nat, t < cnt → ∃ xs : List Int32, (1 ≤ xs.length ∧ xs.length ≤ m) ∧ (∀ W n N, W 0 = zV s → W 18 0 = zI (n : Nat) → z_wc m t n → ∃ W', lC (N + 1) W (zI (t : Int)) = lC N W' (zI ((t : Int) + 1)) ∧ z_A n W (z_sp0 n ++ xs) W') ∧ (∀ V n N, z_Q b V s g → V 30 11 = zI (n : Nat) → z_wc m t n → ∃ V', lR (N + 1) V (zI (t : Int)) = lR N V' (zI ((t : Int) + 1)) ∧ z_AB n V (z_sp0 n ++ xs) V'))
    (eC : ∀ W N, W 0 = zV s → lC (N + 1) W (zI (cnt : Int)) = some (W 18 0, W)) (eR : ∀ V N, z_Q b V s g → lR (N + 1) V (zI (cnt : Int)) = some (V 30 11, V)) :
    ∀ d i : Nat, i + d = cnt → ∀ n, z_wc m i n → ∃ xs : List Int32, z_wc m cnt (n + xs.length) ∧ (∀ W N, W 0 = zV s → W 18 0 = zI (n : Nat) → d < N → ∃ W', lC N W (zI (i : Int)) = some (zI ((n + xs.length : Nat) : Int), W') ∧ z_A n W xs W') ∧ (∀ V N, z_Q b V s g → V 30 11 = zI (n : Nat) → d < N → ∃ V', lR N V (zI (i : Int)) = some (zI ((n + xs.length : Nat) : Int), V') ∧ z_AB n V xs V') := by
  intro d
  induction d with
  | zero =>
    intro i hi n hn
    obtain rfl : i = cnt := by omega
    refine ⟨[], hn, fun W N h0 h18 hN => ?_, fun V N hq h30 hN => ?_⟩
    · obtain ⟨M, rfl⟩ : ∃ M, N = M + 1 := ⟨N - 1, by omega⟩
      rw [eC W M h0, h18]
      exact ⟨W, rfl, z_A_n h18⟩
    · obtain ⟨M, rfl⟩ : ∃ M, N = M + 1 := ⟨N - 1, by omega⟩
      rw [eR V M hq, h30]
      exact ⟨V, rfl, z_AB_n h30⟩
  | succ d ih =>
    intro i hi n hn
    obtain ⟨xs, xl, sC, sR⟩ := step i (by omega)
    have l0 := z_sp0_l (n := n)
    have hn' : z_wc m (i + 1) (n + (z_sp0 n ++ xs).length) := by
      rw [List.length_append]
      unfold z_wc at hn ⊢
      rcases hn with ⟨rfl, rfl⟩ | ⟨p1, p2, p3⟩
      · have e : (z_sp0 0).length = 0 := rfl
        rw [e]
        right
        refine ⟨by omega, by omega, by omega⟩
      · right
        refine ⟨by omega, by omega, ?_⟩
        rw [Nat.mul_succ]
        omega
    obtain ⟨ys, yw, yC, yR⟩ := ih (i + 1) (by omega) _ hn'
    refine ⟨(z_sp0 n ++ xs) ++ ys, by rw [List.length_append, ← Nat.add_assoc]; exact yw, fun W N h0 h18 hN => ?_, fun V N hq h30 hN => ?_⟩
    · obtain ⟨M, rfl⟩ : ∃ M, N = M + 1 := ⟨N - 1, by omega⟩
      obtain ⟨W1, e1, k1⟩ := sC W n M h0 h18 hn
      obtain ⟨W2, e2, k2⟩ := yC W1 M (by rw [k1.1 0 (by omega) (by omega)]; exact h0) k1.2.1 (by omega)
      refine ⟨W2, ?_, z_A_t k1 k2⟩
      rw [e1, show (i : Int) + 1 = ((i + 1 : Nat) : Int) from rfl, e2, List.length_append (as := z_sp0 n ++ xs), ← Nat.add_assoc]
    · obtain ⟨M, rfl⟩ : ∃ M, N = M + 1 := ⟨N - 1, by omega⟩
      obtain ⟨V1, e1, k1⟩ := sR V n M hq h30 hn
      obtain ⟨V2, e2, k2⟩ := yR V1 M (z_Q_AB hq k1) k1.2.2.1 (by omega)
      refine ⟨V2, ?_, z_AB_t k1 k2⟩
      rw [e1, show (i : Int) + 1 = ((i + 1 : Nat) : Int) from rfl, e2, List.length_append (as := z_sp0 n ++ xs), ← Nat.add_assoc]
/-- after writing, all units stand together again -/
theorem z_RW_wr (H : z_RW b W) (k1 : z_A 0 (w2 W 18 0 (zI 0)) xs W') (k2 : z_AB 0 (w2 (z_th W' 0) 30 11 (zI 0)) xs V') (hl : xs.length ≤ 71) : z_RW b V' := by
  obtain ⟨h1, h2, h3, h4, h5, h6, h7⟩ := H
  have eu : ∀ u, u ≠ 18 → u ≠ 19 → u ≠ 29 → u ≠ 30 → V' u = W u := fun u p q r t => by
    rw [k2.1 u r t, z_w2u t, z_thu t, k1.1 u p q, z_w2u p]
  have e3 : ∀ k, k ≠ 11 → k ≠ 2 → V' 30 k = W 30 k := fun k p q => by
    rw [k2.2.1 k p, z_w2k p, z_thk q, k1.1 30 (by omega) (by omega), z_w2u (by omega)]
  refine ⟨?_, ?_, ?_, ?_, ?_, ?_, ?_⟩
  · rw [eu 0 (by omega) (by omega) (by omega) (by omega), eu 21 (by omega) (by omega) (by omega) (by omega)]
    exact h1
  · obtain ⟨n, m, st, a1, a2, a3, a4, a5, a6, a7, a8⟩ := h2
    refine ⟨n, m, st, ?_, ?_, by rw [e3 0 (by omega) (by omega)]; exact a3, by rw [e3 1 (by omega) (by omega)]; exact a4, a5, a6, a7, fun j hj hm => ?_⟩
    · rw [eu 17 (by omega) (by omega) (by omega) (by omega)]; exact a1
    · rw [eu 17 (by omega) (by omega) (by omega) (by omega)]; exact a2
    · rw [eu 24 (by omega) (by omega) (by omega) (by omega), eu (3 + j) (by omega) (by omega) (by omega) (by omega)]
      exact a8 j hj hm
  · intro i hi
    rw [eu 20 (by omega) (by omega) (by omega) (by omega), eu 26 (by omega) (by omega) (by omega) (by omega), eu 25 (by omega) (by omega) (by omega) (by omega), eu (11 + i) (by omega) (by omega) (by omega) (by omega)]
    exact h3 i hi
  · obtain ⟨n, q1, q2, q3, q4⟩ := h4
    exact ⟨n, by rw [eu 15 (by omega) (by omega) (by omega) (by omega)]; exact q1, by rw [e3 3 (by omega) (by omega)]; exact q2, q3, fun k hk => by rw [eu 16 (by omega) (by omega) (by omega) (by omega), eu 28 (by omega) (by omega) (by omega) (by omega)]; exact q4 k hk⟩
  · exact ⟨by rw [eu 13 (by omega) (by omega) (by omega) (by omega), e3 9 (by omega) (by omega)]; exact h5.1, by rw [eu 13 (by omega) (by omega) (by omega) (by omega), e3 10 (by omega) (by omega)]; exact h5.2⟩
  · refine ⟨((0 + xs.length : Nat) : Int), ?_, k2.2.2.1, by omega, fun k hk => ?_⟩
    · rw [k2.1 18 (by omega) (by omega), z_w2u (by omega), z_thu (by omega)]
      exact k1.2.1
    · have a := k1.2.2.2 k (by omega)
      have c := k2.2.2.2.2 k (by omega)
      rw [Nat.zero_add] at a c
      rw [c, k2.1 19 (by omega) (by omega), z_w2u (by omega), z_thu (by omega), a]
  · obtain ⟨f, q1, q2⟩ := h7
    exact ⟨f, by rw [eu 2 (by omega) (by omega) (by omega) (by omega)]; exact q1, q2⟩
theorem z_m_57 (hB : b ≤ 1000000000) (H : z_RW b W) : ∃ W', (bd2 (f_X9_writeTrains W) (fun v2 W1 => bd2 (f_X10_writeTrains W1) (fun v4 W3 => if v2 = v4 then some W3 else none))) = some W' ∧ z_RW b W' := by
  obtain ⟨s, g, hq⟩ := z_Q_RW H
  obtain ⟨c0, c1, c2, c3, c4⟩ := hq.2.2.1.1
  have hq0 : z_Q b (w2 W 18 0 (zI 0)) s g := ⟨by rw [z_w2u (by omega)]; exact hq.1, fun k hk => by rw [z_w2u (by omega)]; exact hq.2.1 k hk, hq.2.2⟩
  obtain ⟨xs, w1, xC, xR⟩ := z_wlp (b := b) (s := s) (g := g) (lC := l_X9_writeTrains_10) (lR := l_X10_writeTrains_12) (s 3).toNat 11 (fun t ht => by
      obtain ⟨xs, q1, q2, q3⟩ := z_tst hq.2.2 (t := t) (by omega)
      exact ⟨xs, q1, fun W n N h0 h18 hc => q2 W n N h0 h18 (by unfold z_wc at hc; omega) (by unfold z_wc at hc; omega), fun V n N hq h30 hc => q3 V n N hq h30 (by unfold z_wc at hc; omega)⟩)
    (fun W N h0 => by
      rw [l_X9_writeTrains_10, h0]
      simp (disch := omega) only [z_lit, z_n, z_add, z_sub, z_mul, z_neg, z_lt1, z_lt0, z_le1, z_le0, z_eq1, z_eq0, z_10, ↓reduceIte, z_v, z_upd, z_ue, z_un, z_ixn, z_ixo, z_ix0, z_ix1, z_ix2, z_ix3, z_ix4, z_ix5, z_ix6, Int.reduceToNat, z_inr, z_gd, ↓z_bnd, ↓z_jn, z_bdc, z_bd2, z_opn, z_ops, z_z01, z_Bt, z_Bf])
    (fun V N hV => by
      have g3 := hV.2.1 3 (by omega)
      rw [hq.2.2.2.1.1 3 (by omega)] at g3
      rw [l_X10_writeTrains_12]
      simp (disch := omega) only [z_lit, z_n, z_add, z_sub, z_mul, z_neg, z_lt1, z_lt0, z_le1, z_le0, z_eq1, z_eq0, z_10, ↓reduceIte, z_v, z_upd, z_ue, z_un, z_ixn, z_ixo, z_ix0, z_ix1, z_ix2, z_ix3, z_ix4, z_ix5, z_ix6, Int.reduceToNat, z_inr, z_gd, ↓z_bnd, ↓z_jn, z_bdc, z_bd2, z_opn, z_ops, z_z01, z_Bt, z_Bf, g3]) (s 3).toNat 0 (by omega) 0 (Or.inl ⟨rfl, rfl⟩)
  obtain ⟨W1, e1, k1⟩ := xC (w2 W 18 0 (zI 0)) FU hq0.1 (by rw [z_w2e]; rfl) (by unfold FU; omega)
  have z1 := z_Q_A hq0 k1
  have hq1 : z_Q b (w2 (z_th W1 0) 30 11 (zI 0)) s g := ⟨by rw [z_w2u (by omega), z_thu (by omega)]; exact z1.1, fun k hk => by rw [z_w2u (by omega), z_thu (by omega)]; exact z1.2.1 k hk, z1.2.2⟩
  obtain ⟨V1, e2, k2⟩ := xR (w2 (z_th W1 0) 30 11 (zI 0)) FU hq1 (by rw [z_w2e]; rfl) (by unfold FU; omega)
  refine ⟨V1, ?_, z_RW_wr H k1 k2 (by unfold z_wc at w1; omega)⟩
  unfold f_X9_writeTrains f_X10_writeTrains
  unfold z_th at e2
  rw [show zI ((0 : Nat) : Int) = zI 0 from rfl] at e1 e2
  rw [z_bnd, z_l0, e1, z_bd2, z_bnd, z_bnd, e2, z_bd2, if_pos rfl]
theorem z_m_58 (hB : b ≤ 1000000000) (H : z_RW b W) : ∃ W', (bd2 (f_X9_writeParcels W) (fun v2 W1 => bd2 (f_X10_writeParcels W1) (fun v4 W3 => if v2 = v4 then some W3 else none))) = some W' ∧ z_RW b W' := by
  obtain ⟨s, g, hq⟩ := z_Q_RW H
  obtain ⟨c0, c1, c2, c3, c4⟩ := hq.2.2.1.1
  have hq0 : z_Q b (w2 W 18 0 (zI 0)) s g := ⟨by rw [z_w2u (by omega)]; exact hq.1, fun k hk => by rw [z_w2u (by omega)]; exact hq.2.1 k hk, hq.2.2⟩
  obtain ⟨xs, w1, xC, xR⟩ := z_wlp (b := b) (s := s) (g := g) (lC := l_X9_writeParcels_10) (lR := l_X10_writeParcels_12) (s 4).toNat 5 (fun t ht => by
      obtain ⟨xs, q1, q2, q3⟩ := z_pst hB hq.2.2 (t := t) (by omega)
      exact ⟨xs, q1, fun W n N h0 h18 hc => q2 W n N h0 h18 (by unfold z_wc at hc; omega) (by unfold z_wc at hc; omega), fun V n N hq h30 hc => q3 V n N hq h30 (by unfold z_wc at hc; omega)⟩)
    (fun W N h0 => by
      rw [l_X9_writeParcels_10, h0]
      simp (disch := omega) only [z_lit, z_n, z_add, z_sub, z_mul, z_neg, z_lt1, z_lt0, z_le1, z_le0, z_eq1, z_eq0, z_10, ↓reduceIte, z_v, z_upd, z_ue, z_un, z_ixn, z_ixo, z_ix0, z_ix1, z_ix2, z_ix3, z_ix4, z_ix5, z_ix6, Int.reduceToNat, z_inr, z_gd, ↓z_bnd, ↓z_jn, z_bdc, z_bd2, z_opn, z_ops, z_z01, z_Bt, z_Bf])
    (fun V N hV => by
      have g3 := hV.2.1 4 (by omega)
      rw [hq.2.2.2.1.1 4 (by omega)] at g3
      rw [l_X10_writeParcels_12]
      simp (disch := omega) only [z_lit, z_n, z_add, z_sub, z_mul, z_neg, z_lt1, z_lt0, z_le1, z_le0, z_eq1, z_eq0, z_10, ↓reduceIte, z_v, z_upd, z_ue, z_un, z_ixn, z_ixo, z_ix0, z_ix1, z_ix2, z_ix3, z_ix4, z_ix5, z_ix6, Int.reduceToNat, z_inr, z_gd, ↓z_bnd, ↓z_jn, z_bdc, z_bd2, z_opn, z_ops, z_z01, z_Bt, z_Bf, g3]) (s 4).toNat 0 (by omega) 0 (Or.inl ⟨rfl, rfl⟩)
  obtain ⟨W1, e1, k1⟩ := xC (w2 W 18 0 (zI 0)) FU hq0.1 (by rw [z_w2e]; rfl) (by unfold FU; omega)
  have z1 := z_Q_A hq0 k1
  have hq1 : z_Q b (w2 (z_th W1 0) 30 11 (zI 0)) s g := ⟨by rw [z_w2u (by omega), z_thu (by omega)]; exact z1.1, fun k hk => by rw [z_w2u (by omega), z_thu (by omega)]; exact z1.2.1 k hk, z1.2.2⟩
  obtain ⟨V1, e2, k2⟩ := xR (w2 (z_th W1 0) 30 11 (zI 0)) FU hq1 (by rw [z_w2e]; rfl) (by unfold FU; omega)
  refine ⟨V1, ?_, z_RW_wr H k1 k2 (by unfold z_wc at w1; omega)⟩
  unfold f_X9_writeParcels f_X10_writeParcels
  unfold z_th at e2
  rw [show zI ((0 : Nat) : Int) = zI 0 from rfl] at e1 e2
  rw [z_bnd, z_l0, e1, z_bd2, z_bnd, z_bnd, e2, z_bd2, if_pos rfl]
theorem z_m_59 (H : z_RW b W) {a : Int} (ha : zR a) : z_AG (f_L_outputByte W (zI a)) (fun W1 => f_X10_outputByte W1 (zI a)) (z_EQ W) := by
  obtain ⟨n, a1, a2, a3, a4⟩ := H.2.2.2.2.2.1
  unfold f_L_outputByte
  have eC : f_X9_outputByte W (zI a) = if 0 ≤ a ∧ a < n then some (.inr (W 19 a.toNat)) else some (.inl NSE) := by
    unfold zR at ha
    unfold f_X9_outputByte
    rw [a1]
    by_cases c : 0 ≤ a
    · by_cases d : a < n
      · conv => rhs; rw [if_pos ⟨c, d⟩]
        simp (disch := omega) only [z_lit, z_n, z_add, z_sub, z_mul, z_neg, z_lt1, z_lt0, z_le1, z_le0, z_eq1, z_eq0, z_10, ↓reduceIte, z_v, z_upd, z_ue, z_un, z_ixn, z_ixo, z_ix0, z_ix1, z_ix2, z_ix3, z_ix4, z_ix5, z_ix6, Int.reduceToNat, z_inr, z_gd, ↓z_bnd, ↓z_jn, z_bdc, z_bd2, z_opn, z_ops, z_z01, z_Bt, z_Bf, z_ixz]
      · conv => rhs; rw [if_neg (fun q => d q.2)]
        simp (disch := omega) only [z_lit, z_n, z_add, z_sub, z_mul, z_neg, z_lt1, z_lt0, z_le1, z_le0, z_eq1, z_eq0, z_10, ↓reduceIte, z_v, z_upd, z_ue, z_un, z_ixn, z_ixo, z_ix0, z_ix1, z_ix2, z_ix3, z_ix4, z_ix5, z_ix6, Int.reduceToNat, z_inr, z_gd, ↓z_bnd, ↓z_jn, z_bdc, z_bd2, z_opn, z_ops, z_z01, z_Bt, z_Bf]
    · conv => rhs; rw [if_neg (fun q => c q.1)]
      simp (disch := omega) only [z_lit, z_n, z_add, z_sub, z_mul, z_neg, z_lt1, z_lt0, z_le1, z_le0, z_eq1, z_eq0, z_10, ↓reduceIte, z_v, z_upd, z_ue, z_un, z_ixn, z_ixo, z_ix0, z_ix1, z_ix2, z_ix3, z_ix4, z_ix5, z_ix6, Int.reduceToNat, z_inr, z_gd, ↓z_bnd, ↓z_jn, z_bdc, z_bd2, z_opn, z_ops, z_z01, z_Bt, z_Bf]
  rw [eC]
  have eR : ∀ W1 : Nat → Nat → Int32, W1 30 11 = zI n → f_X10_outputByte W1 (zI a) = if 0 ≤ a ∧ a < n then some (W1 29 a.toNat, z_th W1 0) else some (zI 0, z_th W1 1) := by
    intro W1 e
    unfold f_X10_outputByte
    rw [e, show (1 : Int32) = zI 1 from z_lit 1, z_sub, z_l0, z_Gnn ha (by unfold zR; omega) (by unfold zR; omega), z_bd2]
    by_cases c : 0 ≤ a ∧ a < n
    · rw [if_pos c, z_o0 (by omega)]
      rw [if_pos rfl, z_inr (by omega) (by omega) (by omega), z_gd, z_ixz (by omega) (by omega), z_thu (by omega)]
    · rw [if_neg c, z_o1 (by omega)]
      simp (disch := omega) only [z_lit, z_n, z_add, z_sub, z_mul, z_neg, z_lt1, z_lt0, z_le1, z_le0, z_eq1, z_eq0, z_10, ↓reduceIte, z_v, z_upd, z_ue, z_un, z_ixn, z_ixo, z_ix0, z_ix1, z_ix2, z_ix3, z_ix4, z_ix5, z_ix6, Int.reduceToNat, z_inr, z_gd, ↓z_bnd, ↓z_jn, z_bdc, z_bd2, z_opn, z_ops, z_z01, z_Bt, z_Bf]
  by_cases c : 0 ≤ a ∧ a < n
  · refine ⟨0, W 19 a.toNat, w2 W 31 0 (W 19 a.toNat), z_th (w2 W 31 0 (W 19 a.toNat)) 0, ?_, ?_, z_the, by omega, by omega, fun _ => ?_, z_EQ_t z_EQ_31 z_EQ_th⟩
    · rw [if_pos c, z_btr, z_bnd, z_l0]
    · show f_X10_outputByte _ _ = _
      rw [eR _ (by rw [z_w2u (by omega)]; exact a2), if_pos c, z_w2u (by omega), a4 a.toNat (by omega)]
    · rw [z_thu (by omega), z_w2e]
  · refine ⟨1, zI 0, W, z_th W 1, ?_, ?_, z_the, by omega, by omega, fun q => absurd q (by omega), z_EQ_th⟩
    · rw [if_neg c, z_btl]
      unfold NSE
      rw [if_pos rfl, z_l1]
    · show f_X10_outputByte _ _ = _
      rw [eR _ a2, if_neg c]
end Wrl
