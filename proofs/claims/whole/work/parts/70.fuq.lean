/-! questions about the future -/
section Fuq
variable {W W' : Nat → Nat → Int32} {b : Int} {s s' g g' : Nat → Int}
theorem z_Crg {x l h : Int} (hx : zR x) (hl : zR l) (hh : zR h) : f_X9_checkRange (zI x) (zI l) (zI h) = if l ≤ x ∧ x ≤ h then some (.inr ()) else some (.inl "java/lang/IllegalArgumentException") := by
  unfold zR at *
  unfold f_X9_checkRange
  by_cases c : x < l
  · rw [z_ltT c (by omega) (by omega), if_neg (by omega)]
  · rw [z_ltF (by omega) (by omega) (by omega)]
    by_cases d : x ≤ h
    · rw [z_leT d (by omega) (by omega), if_pos (by omega)]
    · rw [z_leF (by omega) (by omega) (by omega), if_neg (by omega)]
/-- the reference's copy, and what it computes on -/
theorem z_trypk (h : z_Q b W s g) {T : Nat → Int32} (hT : W 27 = T) {G : Nat → Int32} (hG : W 21 = G) : ∃ V, f_X10_tries W = some V ∧ z_EQ W V ∧ V 31 = W 31 ∧ V 30 = W 30 ∧ V 21 = W 21 ∧ pk (V 23) (V 27) = pk G T ∧ ∀ k, k < 251 → V 23 k = W 21 k := by
  obtain ⟨V, v1, v2, v3, v4, v5, v6, v7⟩ := z_tries h.2.1
  refine ⟨V, v1, v2, v4, v5, v6, ?_, v7⟩
  subst hT hG
  funext k
  unfold pk
  rw [v3]
  by_cases c : k < 251
  · rw [if_pos c, if_pos c, v7 k c]
  · rw [if_neg c, if_neg c]
theorem z_pkg {T : Nat → Int32} (h : z_Q b W s g) : ∃ g', pk (W 21) T = zV g' ∧ z_PI b s g' := by
  obtain ⟨g', e1, e2⟩ := z_pkv (T := T) h.2.1
  exact ⟨g', e1, z_PI_315 h.2.2 (fun k _ => rfl) e2⟩
theorem z_pkq {S : Nat → Int32} {V : Nat → Nat → Int32} : pk (setQ V 23 S 23) (setQ V 23 S 27) = S := by
  rw [z_sQu (by omega), z_sQ7]
  funext k
  unfold pk
  by_cases c : k < 251
  · rw [if_pos c]
  · rw [if_neg c]
    show S (251 + (k - 251)) = S k
    rw [show 251 + (k - 251) = k by omega]
theorem z_m_deliveredAfter (hB : b ≤ 100000000) (h : z_Q b W s g) {n : Int} (hn : zR n) : z_AG (f_L_deliveredAfter W (zI n)) (fun W1 => f_X10_deliveredAfter W1 (zI n)) (z_EQ W) := by
  obtain ⟨h0, hg, pi⟩ := id h
  by_cases v : 0 ≤ n ∧ n ≤ 120
  · obtain ⟨m, rfl⟩ : ∃ m : Nat, n = m := ⟨n.toNat, by omega⟩
    obtain ⟨g0, e1, p0⟩ := z_pkg (T := W 27) h
    obtain ⟨s0, c1, c2, -⟩ := z_copy (W 1) p0
    obtain ⟨s1, g1, m1, m2, m3, -⟩ := z_minN (n := m) (by omega) (by omega) c2
    have cd := z_Cde m3.1 (show b + m ≤ 1000000000 by omega)
    have gd' := z_Gde m3.1 (show b + m ≤ 1000000000 by omega) m3.2.1
    obtain ⟨x, hx⟩ : ∃ x, z_ct (z_de s1) 0 (s1 4).toNat = x := ⟨_, rfl⟩
    rw [hx] at cd gd'
    obtain ⟨W1, hW1⟩ : ∃ W1, W1 = setU (setU W 1 (zV s0)) 1 (zV s1) := ⟨_, rfl⟩
    have eq1 : z_EQ W W1 := by rw [hW1]; exact z_EQ_t z_EQ_1 z_EQ_1
    have w1 : W1 1 = zV s1 := by rw [hW1, z_sUe]
    have w27 : ∀ u, u ≠ 1 → W1 u = W u := fun u hu => by rw [hW1, z_sUu hu, z_sUu hu]
    have Q2 := z_Q_th (c := 0) (z_Q_31 (v := zI x) (z_Q_EQ h eq1))
    obtain ⟨V, v1, v2, v3, v4, v5, v6, v7⟩ := z_trypk Q2 (T := W 27) (by rw [z_thu (by omega), z_w2u (by omega), w27 27 (by omega)]) (G := W 21) (by rw [z_thu (by omega), z_w2u (by omega), w27 21 (by omega)])
    refine ⟨0, zI x, w2 W1 31 0 (zI x), setQ V 23 (zV g1), ?_, ?_, ?_, by omega, by omega, fun _ => ?_, ?_⟩
    · unfold f_L_deliveredAfter f_X9_deliveredAfter
      rw [z_l0, z_l120, z_Crg hn (by unfold zR; omega) (by unfold zR; omega), if_pos v, z_btr, h0, c1, z_bdc, z_bnd, z_sUe, m1, z_bdc, z_bnd, ← hW1, w1, cd, z_bdc, z_b2r, z_bnd]
    · unfold f_X10_deliveredAfter
      show bd2 (f_X10_noNumber (w2 W1 31 0 (zI x)) (zI m) (0 : Int32) (120 : Int32)) _ = _
      rw [z_l0, z_l120, z_Gnn hn (by unfold zR; omega) (by unfold zR; omega), z_o0 v, z_bd2, if_pos rfl, v1, z_bdc, v6, e1, m2, z_bdc, z_bnd, z_pkq, gd', z_bdc]
    · rw [z_sQx (by omega) (by omega), v4]
      exact z_the
    · rw [z_sQx (by omega) (by omega), v3, z_thu (by omega), z_w2e]
    · exact z_EQ_t eq1 (z_EQ_t z_EQ_31 (z_EQ_t z_EQ_th (z_EQ_t v2 z_EQ_q23)))
  · refine ⟨1, zI 0, W, z_th W 1, ?_, ?_, z_the, by omega, by omega, fun q => absurd q (by omega), z_EQ_th⟩
    · unfold f_L_deliveredAfter f_X9_deliveredAfter
      rw [z_l0, z_l120, z_Crg hn (by unfold zR; omega) (by unfold zR; omega), if_neg v, z_btl, z_b2l, if_pos rfl, z_l1]
    · show f_X10_deliveredAfter W (zI n) = _
      unfold f_X10_deliveredAfter
      rw [z_l0, z_l120, z_Gnn hn (by unfold zR; omega) (by unfold zR; omega), z_o1 v]
      simp (disch := omega) only [z_lit, z_n, z_add, z_sub, z_mul, z_neg, z_lt1, z_lt0, z_le1, z_le0, z_eq1, z_eq0, z_10, ↓reduceIte, z_v, z_upd, z_ue, z_un, z_ixn, z_ixo, z_ix0, z_ix1, z_ix2, z_ix3, z_ix4, z_ix5, z_ix6, Int.reduceToNat, z_inr, z_gd, ↓z_bnd, ↓z_jn, z_bdc, z_bd2, z_opn, z_ops, z_z01, z_Bt, z_Bf]
theorem z_m_trainStationAfter (hB : b ≤ 100000000) (h : z_Q b W s g) {a n : Int} (ha : zR a) (hn : zR n) : z_AG (f_L_trainStationAfter W (zI a) (zI n)) (fun W1 => f_X10_trainStationAfter W1 (zI a) (zI n)) (z_EQ W) := by
  obtain ⟨h0, hg, pi⟩ := id h
  obtain ⟨c0, c1', c2', c3, c4⟩ := pi.1.1
  by_cases va : 0 ≤ a ∧ a < s 3
  · by_cases v : 0 ≤ n ∧ n ≤ 120
    · obtain ⟨m, rfl⟩ : ∃ m : Nat, n = m := ⟨n.toNat, by omega⟩
      obtain ⟨t, rfl⟩ : ∃ m : Nat, a = m := ⟨a.toNat, by omega⟩
      obtain ⟨g0, e1, p0⟩ := z_pkg (T := W 27) h
      obtain ⟨s0, c1, c2, c5⟩ := z_copy (W 1) p0
      obtain ⟨s1, g1, m1, m2, m3, m4⟩ := z_minN (n := m) (by omega) (by omega) c2
      have ht : (t : Int) < s1 3 := by
        rw [m4 3 (by omega) (by omega), c5 3 (by omega)]
        omega
      have t4 := m3.1.1.2.2.2.1
      obtain ⟨x, hx⟩ : ∃ x, (if s1 (87 + 14 * t + 10) = 0 then z_cu s1 t else -1) = x := ⟨_, rfl⟩
      obtain ⟨W1, hW1⟩ : ∃ W1, W1 = setU (setU W 1 (zV s0)) 1 (zV s1) := ⟨_, rfl⟩
      have eq1 : z_EQ W W1 := by rw [hW1]; exact z_EQ_t z_EQ_1 z_EQ_1
      have w1 : W1 1 = zV s1 := by rw [hW1, z_sUe]
      have w27 : ∀ u, u ≠ 1 → W1 u = W u := fun u hu => by rw [hW1, z_sUu hu, z_sUu hu]
      have Q1 := z_Q_31 (v := zI x) (z_Q_EQ h eq1)
      have Q2 := z_Q_th (c := 0) Q1
      obtain ⟨V, v1, v2, v3, v4, v5, v6, v7⟩ := z_trypk Q2 (T := W 27) (by rw [z_thu (by omega), z_w2u (by omega), w27 27 (by omega)]) (G := W 21) (by rw [z_thu (by omega), z_w2u (by omega), w27 21 (by omega)])
      have lb := (m3.1.2.2.2.2.1 t ht).2.2.2.2.2.2
      refine ⟨0, zI x, w2 W1 31 0 (zI x), setQ V 23 (zV g1), ?_, ?_, ?_, by omega, by omega, fun _ => ?_, ?_⟩
      · unfold f_L_trainStationAfter f_X9_trainStationAfter f_X8_standsAt f_X8_isStanding
        rw [z_Ctn h0 c3 ha, if_pos va, z_btr, z_l0, z_l120, z_Crg hn (by unfold zR; omega) (by unfold zR; omega), if_pos v, z_btr, h0, c1, z_bdc, z_bnd, z_sUe, m1, z_bdc, z_bnd, ← hW1, w1]
        by_cases c : s1 (87 + 14 * t + 10) = 0
        · rw [if_pos c] at hx
          simp (disch := omega) only [z_lit, z_n, z_add, z_sub, z_mul, z_neg, z_lt1, z_lt0, z_le1, z_le0, z_eq1, z_eq0, z_10, ↓reduceIte, z_v, z_upd, z_ue, z_un, z_ixn, z_ixo, z_ix0, z_ix1, z_ix2, z_ix3, z_ix4, z_ix5, z_ix6, Int.reduceToNat, z_inr, z_gd, ↓z_bnd, ↓z_jn, z_bdc, z_bd2, z_opn, z_ops, z_z01, z_Bt, z_Bf, c, z_Ccu m3.1 ht, z_b2r, hx]
        · rw [if_neg c] at hx
          simp (disch := omega) only [z_lit, z_n, z_add, z_sub, z_mul, z_neg, z_lt1, z_lt0, z_le1, z_le0, z_eq1, z_eq0, z_10, ↓reduceIte, z_v, z_upd, z_ue, z_un, z_ixn, z_ixo, z_ix0, z_ix1, z_ix2, z_ix3, z_ix4, z_ix5, z_ix6, Int.reduceToNat, z_inr, z_gd, ↓z_bnd, ↓z_jn, z_bdc, z_bd2, z_opn, z_ops, z_z01, z_Bt, z_Bf, z_b2r, hx]
      · show f_X10_trainStationAfter (w2 W1 31 0 (zI x)) (zI t) (zI m) = _
        unfold f_X10_trainStationAfter
        rw [z_l0, z_l120, z_Qnt Q1 ha, z_o0 (by omega), z_bd2, if_pos rfl, z_Go0 hn (by unfold zR; omega) (by unfold zR; omega) z_the v, z_bd2, if_pos rfl, v1, z_bdc, v6, e1, m2, z_bdc, z_bnd, z_pkq, z_Gsd m3.1 m3.2.1 ht, z_bdc]
        by_cases c : s1 (87 + 14 * t + 10) = 0
        · rw [if_pos c] at hx
          rw [decide_eq_true c]
          simp (disch := omega) only [z_lit, z_n, z_add, z_sub, z_mul, z_neg, z_lt1, z_lt0, z_le1, z_le0, z_eq1, z_eq0, z_10, ↓reduceIte, z_v, z_upd, z_ue, z_un, z_ixn, z_ixo, z_ix0, z_ix1, z_ix2, z_ix3, z_ix4, z_ix5, z_ix6, Int.reduceToNat, z_inr, z_gd, ↓z_bnd, ↓z_jn, z_bdc, z_bd2, z_opn, z_ops, z_z01, z_Bt, z_Bf, z_Gcu m3.1 m3.2.1 ht, hx]
        · rw [if_neg c] at hx
          rw [decide_eq_false c]
          simp (disch := omega) only [z_lit, z_n, z_add, z_sub, z_mul, z_neg, z_lt1, z_lt0, z_le1, z_le0, z_eq1, z_eq0, z_10, ↓reduceIte, z_v, z_upd, z_ue, z_un, z_ixn, z_ixo, z_ix0, z_ix1, z_ix2, z_ix3, z_ix4, z_ix5, z_ix6, Int.reduceToNat, z_inr, z_gd, ↓z_bnd, ↓z_jn, z_bdc, z_bd2, z_opn, z_ops, z_z01, z_Bt, z_Bf, hx]
      · rw [z_sQx (by omega) (by omega), v4]
        exact z_the
      · rw [z_sQx (by omega) (by omega), v3, z_thu (by omega), z_w2e]
      · exact z_EQ_t eq1 (z_EQ_t z_EQ_31 (z_EQ_t z_EQ_th (z_EQ_t v2 z_EQ_q23)))
    · refine ⟨2, zI 0, W, z_th W 2, ?_, ?_, z_the, by omega, by omega, fun q => absurd q (by omega), z_EQ_th⟩
      · unfold f_L_trainStationAfter f_X9_trainStationAfter
        rw [z_Ctn h0 c3 ha, if_pos va, z_btr, z_l0, z_l120, z_Crg hn (by unfold zR; omega) (by unfold zR; omega), if_neg v, z_btl, z_b2l, if_neg (by decide), if_pos rfl, z_l2]
      · show f_X10_trainStationAfter W (zI a) (zI n) = _
        unfold f_X10_trainStationAfter
        rw [z_l0, z_l120, z_Qnt h ha, z_o0 (by omega), z_bd2, if_pos rfl, z_Go1 hn (by unfold zR; omega) (by unfold zR; omega) z_the v, z_thth]
        simp (disch := omega) only [z_lit, z_n, z_add, z_sub, z_mul, z_neg, z_lt1, z_lt0, z_le1, z_le0, z_eq1, z_eq0, z_10, ↓reduceIte, z_v, z_upd, z_ue, z_un, z_ixn, z_ixo, z_ix0, z_ix1, z_ix2, z_ix3, z_ix4, z_ix5, z_ix6, Int.reduceToNat, z_inr, z_gd, ↓z_bnd, ↓z_jn, z_bdc, z_bd2, z_opn, z_ops, z_z01, z_Bt, z_Bf]
  · refine ⟨1, zI 0, W, z_th W 1, ?_, ?_, z_the, by omega, by omega, fun q => absurd q (by omega), z_EQ_th⟩
    · unfold f_L_trainStationAfter f_X9_trainStationAfter
      rw [z_Ctn h0 c3 ha, if_neg va, z_btl, z_b2l, if_pos rfl, z_l1]
    · show f_X10_trainStationAfter W (zI a) (zI n) = _
      unfold f_X10_trainStationAfter
      rw [z_l0, z_Qnt h ha, z_o1 (by omega)]
      simp (disch := omega) only [z_lit, z_n, z_add, z_sub, z_mul, z_neg, z_lt1, z_lt0, z_le1, z_le0, z_eq1, z_eq0, z_10, ↓reduceIte, z_v, z_upd, z_ue, z_un, z_ixn, z_ixo, z_ix0, z_ix1, z_ix2, z_ix3, z_ix4, z_ix5, z_ix6, Int.reduceToNat, z_inr, z_gd, ↓z_bnd, ↓z_jn, z_bdc, z_bd2, z_opn, z_ops, z_z01, z_Bt, z_Bf]
/-! until a parcel is delivered, or all are -/
theorem z_mtd (hB : b + 121 ≤ 1000000000) {i : Nat} : ∀ (d x N : Nat) (W : Nat → Nat → Int32) (s g : Nat → Int), W 1 = zV s → z_PI (b + x) s g → (i : Int) < s 4 → x + d = 120 → d + 1 < N → ∃ v W1, l_X9_minutesToDelivery_18 (zI i) N W (zI x) = some (.inr (zI v), W1) ∧ (∀ u, u ≠ 1 → W1 u = W u) ∧ ∀ M V, d + 1 < M → pk (V 23) (V 27) = zV g → ∃ V', l_X10_minutesToDelivery_16 (zI i) M V (zI x) = some (zI v, V') ∧ z_EQ V V' ∧ V' 30 = V 30 ∧ V' 31 = V 31 := by
  intro d
  induction d with
  | zero =>
    intro x N W s g hW h hi hx hN
    obtain ⟨N, rfl⟩ : ∃ m, N = m + 1 := ⟨N - 1, by omega⟩
    obtain rfl : x = 120 := by omega
    have c4 := h.1.1.2.2.2.2
    have cd := z_Cd1 h.1 (show b + ((120 : Nat) : Int) ≤ 1000000000 by omega) hi
    have pb := (h.1.2.2.2.2.2.1 i hi).2.2.2.2.2.2.2.1
    have gq := h.2.1.2.2.2.2 i hi 8 (by omega)
    have c0 := h.1.1.1
    refine ⟨if s (143 + 9 * i + 8) = -1 then -1 else 120, W, ?_, fun u _ => rfl, fun M V hM hV => ?_⟩
    · rw [l_X9_minutesToDelivery_18, hW]
      unfold z_de at cd
      by_cases c : s (143 + 9 * i + 8) = -1
      · rw [decide_eq_false (fun q => q c)] at cd
        rw [if_pos c]
        simp (disch := omega) only [z_lit, z_n, z_add, z_sub, z_mul, z_neg, z_lt1, z_lt0, z_le1, z_le0, z_eq1, z_eq0, z_10, ↓reduceIte, z_v, z_upd, z_ue, z_un, z_ixn, z_ixo, z_ix0, z_ix1, z_ix2, z_ix3, z_ix4, z_ix5, z_ix6, Int.reduceToNat, z_inr, z_gd, ↓z_bnd, ↓z_jn, z_bdc, z_bd2, z_opn, z_ops, z_z01, z_Bt, z_Bf, cd]
      · rw [decide_eq_true c] at cd
        rw [if_neg c]
        simp (disch := omega) only [z_lit, z_n, z_add, z_sub, z_mul, z_neg, z_lt1, z_lt0, z_le1, z_le0, z_eq1, z_eq0, z_10, ↓reduceIte, z_v, z_upd, z_ue, z_un, z_ixn, z_ixo, z_ix0, z_ix1, z_ix2, z_ix3, z_ix4, z_ix5, z_ix6, Int.reduceToNat, z_inr, z_gd, ↓z_bnd, ↓z_jn, z_bdc, z_bd2, z_opn, z_ops, z_z01, z_Bt, z_Bf, cd]
    · obtain ⟨M, rfl⟩ : ∃ m, M = m + 1 + 1 := ⟨M - 2, by omega⟩
      have v8 : V 23 (143 + 9 * i + 8) = zI (s (143 + 9 * i + 8)) := by
        have := congrFun hV (143 + 9 * i + 8)
        unfold pk at this
        rw [if_pos (by omega)] at this
        rw [this, z_v, gq]
      by_cases c : s (143 + 9 * i + 8) = -1
      · obtain ⟨s1, g1, e1, e2, e3, -⟩ := z_min1 (by omega) h
        refine ⟨setQ V 23 (zV g1), ?_, z_EQ_q23, z_sQx (by omega) (by omega), z_sQx (by omega) (by omega)⟩
        rw [if_pos c, l_X10_minutesToDelivery_16]
        simp (disch := omega) only [z_lit, z_n, z_add, z_sub, z_mul, z_neg, z_lt1, z_lt0, z_le1, z_le0, z_eq1, z_eq0, z_10, ↓reduceIte, z_v, z_upd, z_ue, z_un, z_ixn, z_ixo, z_ix0, z_ix1, z_ix2, z_ix3, z_ix4, z_ix5, z_ix6, Int.reduceToNat, z_inr, z_gd, ↓z_bnd, ↓z_jn, z_bdc, z_bd2, z_opn, z_ops, z_z01, z_Bt, z_Bf, z_ofP, v8, c, hV, e2]
        rw [l_X10_minutesToDelivery_16]
        simp (disch := omega) only [z_lit, z_n, z_add, z_sub, z_mul, z_neg, z_lt1, z_lt0, z_le1, z_le0, z_eq1, z_eq0, z_10, ↓reduceIte, z_v, z_upd, z_ue, z_un, z_ixn, z_ixo, z_ix0, z_ix1, z_ix2, z_ix3, z_ix4, z_ix5, z_ix6, Int.reduceToNat, z_inr, z_gd, ↓z_bnd, ↓z_jn, z_bdc, z_bd2, z_opn, z_ops, z_z01, z_Bt, z_Bf]
      · refine ⟨V, ?_, z_EQ_r, rfl, rfl⟩
        rw [if_neg c, l_X10_minutesToDelivery_16]
        simp (disch := omega) only [z_lit, z_n, z_add, z_sub, z_mul, z_neg, z_lt1, z_lt0, z_le1, z_le0, z_eq1, z_eq0, z_10, ↓reduceIte, z_v, z_upd, z_ue, z_un, z_ixn, z_ixo, z_ix0, z_ix1, z_ix2, z_ix3, z_ix4, z_ix5, z_ix6, Int.reduceToNat, z_inr, z_gd, ↓z_bnd, ↓z_jn, z_bdc, z_bd2, z_opn, z_ops, z_z01, z_Bt, z_Bf, z_ofP, v8]
        rfl
  | succ d ih =>
    intro x N W s g hW h hi hx hN
    obtain ⟨N, rfl⟩ : ∃ m, N = m + 1 := ⟨N - 1, by omega⟩
    have c4 := h.1.1.2.2.2.2
    have cd := z_Cd1 h.1 (show b + (x : Int) ≤ 1000000000 by omega) hi
    have pb := (h.1.2.2.2.2.2.1 i hi).2.2.2.2.2.2.2.1
    have gq := h.2.1.2.2.2.2 i hi 8 (by omega)
    have c0 := h.1.1.1
    have v8 : ∀ V : Nat → Nat → Int32, pk (V 23) (V 27) = zV g → V 23 (143 + 9 * i + 8) = zI (s (143 + 9 * i + 8)) := fun V hV => by
      have := congrFun hV (143 + 9 * i + 8)
      unfold pk at this
      rw [if_pos (by omega)] at this
      rw [this, z_v, gq]
    unfold z_de at cd
    by_cases c : s (143 + 9 * i + 8) = -1
    · rw [decide_eq_false (fun q => q c)] at cd
      obtain ⟨s1, g1, e1, e2, e3, -, e5, -⟩ := z_min1 (by omega) h
      obtain ⟨v, W1, k1, k2, k3⟩ := ih (x + 1) N (setU W 1 (zV s1)) s1 g1 z_sUe (z_PI_le e3 (by omega)) (by rw [e5 4 (by omega) (by omega)]; exact hi) (by omega) (by omega)
      refine ⟨v, W1, ?_, fun u hu => by rw [k2 u hu, z_sUu hu], fun M V hM hV => ?_⟩
      · rw [l_X9_minutesToDelivery_18, hW]
        simp (disch := omega) only [z_lit, z_n, z_add, z_sub, z_mul, z_neg, z_lt1, z_lt0, z_le1, z_le0, z_eq1, z_eq0, z_10, ↓reduceIte, z_v, z_upd, z_ue, z_un, z_ixn, z_ixo, z_ix0, z_ix1, z_ix2, z_ix3, z_ix4, z_ix5, z_ix6, Int.reduceToNat, z_inr, z_gd, ↓z_bnd, ↓z_jn, z_bdc, z_bd2, z_opn, z_ops, z_z01, z_Bt, z_Bf, cd, e1]
        exact k1
      · obtain ⟨M, rfl⟩ : ∃ m, M = m + 1 := ⟨M - 1, by omega⟩
        obtain ⟨V', j1, j2, j3, j4⟩ := k3 M (setQ V 23 (zV g1)) (by omega) z_pkq
        refine ⟨V', ?_, z_EQ_t z_EQ_q23 j2, by rw [j3, z_sQx (by omega) (by omega)], by rw [j4, z_sQx (by omega) (by omega)]⟩
        rw [l_X10_minutesToDelivery_16]
        simp (disch := omega) only [z_lit, z_n, z_add, z_sub, z_mul, z_neg, z_lt1, z_lt0, z_le1, z_le0, z_eq1, z_eq0, z_10, ↓reduceIte, z_v, z_upd, z_ue, z_un, z_ixn, z_ixo, z_ix0, z_ix1, z_ix2, z_ix3, z_ix4, z_ix5, z_ix6, Int.reduceToNat, z_inr, z_gd, ↓z_bnd, ↓z_jn, z_bdc, z_bd2, z_opn, z_ops, z_z01, z_Bt, z_Bf, z_ofP, v8 V hV, c, hV, e2]
        exact j1
    · rw [decide_eq_true c] at cd
      refine ⟨x, W, ?_, fun u _ => rfl, fun M V hM hV => ?_⟩
      · rw [l_X9_minutesToDelivery_18, hW]
        simp (disch := omega) only [z_lit, z_n, z_add, z_sub, z_mul, z_neg, z_lt1, z_lt0, z_le1, z_le0, z_eq1, z_eq0, z_10, ↓reduceIte, z_v, z_upd, z_ue, z_un, z_ixn, z_ixo, z_ix0, z_ix1, z_ix2, z_ix3, z_ix4, z_ix5, z_ix6, Int.reduceToNat, z_inr, z_gd, ↓z_bnd, ↓z_jn, z_bdc, z_bd2, z_opn, z_ops, z_z01, z_Bt, z_Bf, cd]
      · obtain ⟨M, rfl⟩ : ∃ m, M = m + 1 := ⟨M - 1, by omega⟩
        refine ⟨V, ?_, z_EQ_r, rfl, rfl⟩
        rw [l_X10_minutesToDelivery_16]
        simp (disch := omega) only [z_lit, z_n, z_add, z_sub, z_mul, z_neg, z_lt1, z_lt0, z_le1, z_le0, z_eq1, z_eq0, z_10, ↓reduceIte, z_v, z_upd, z_ue, z_un, z_ixn, z_ixo, z_ix0, z_ix1, z_ix2, z_ix3, z_ix4, z_ix5, z_ix6, Int.reduceToNat, z_inr, z_gd, ↓z_bnd, ↓z_jn, z_bdc, z_bd2, z_opn, z_ops, z_z01, z_Bt, z_Bf, z_ofP, v8 V hV]
theorem z_m_minutesToDelivery (hB : b ≤ 100000000) (h : z_Q b W s g) {a : Int} (ha : zR a) : z_AG (f_L_minutesToDelivery W (zI a)) (fun W1 => f_X10_minutesToDelivery W1 (zI a)) (z_EQ W) := by
  obtain ⟨h0, hg, pi⟩ := id h
  obtain ⟨c0, c1', c2', c3, c4⟩ := pi.1.1
  by_cases va : 0 ≤ a ∧ a < s 4
  · obtain ⟨i, rfl⟩ : ∃ m : Nat, a = m := ⟨a.toNat, by omega⟩
    obtain ⟨g0, e1, p0⟩ := z_pkg (T := W 27) h
    obtain ⟨s0, c1, c2, c5⟩ := z_copy (W 1) p0
    obtain ⟨x, W1, k1, k2, k3⟩ := z_mtd (b := b) (by omega) 120 0 FU (setU W 1 (zV s0)) s0 g0 (i := i) z_sUe (z_PI_le c2 (by omega)) (by rw [c5 4 (by omega)]; omega) (by omega) (by unfold FU; omega)
    have w27 : ∀ u, u ≠ 1 → W1 u = W u := fun u hu => by rw [k2 u hu, z_sUu hu]
    have eq1 : z_EQ W W1 := ⟨fun u h1 _ _ _ _ _ => w27 u h1, fun k _ => by rw [w27 21 (by omega)], fun k _ => by rw [w27 30 (by omega)]⟩
    have Q1 := z_Q_31 (v := zI x) (z_Q_EQ h eq1)
    have Q2 := z_Q_th (c := 0) Q1
    obtain ⟨V, v1, v2, v3, v4, v5, v6, v7⟩ := z_trypk Q2 (T := W 27) (by rw [z_thu (by omega), z_w2u (by omega), w27 27 (by omega)]) (G := W 21) (by rw [z_thu (by omega), z_w2u (by omega), w27 21 (by omega)])
    obtain ⟨V', j1, j2, j3, j4⟩ := k3 FU V (by unfold FU; omega) (by rw [v6, e1])
    refine ⟨0, zI x, w2 W1 31 0 (zI x), V', ?_, ?_, ?_, by omega, by omega, fun _ => ?_, ?_⟩
    · unfold f_L_minutesToDelivery f_X9_minutesToDelivery
      have k1' : l_X9_minutesToDelivery_18 (zI i) FU (setU W 1 (zV s0)) (zI 0) = _ := k1
      rw [z_Cpl h0 c4 ha, if_pos va, z_btr, h0, c1, z_bdc, z_bnd, z_l0, k1', z_b2r, z_bnd]
    · show f_X10_minutesToDelivery (w2 W1 31 0 (zI x)) (zI i) = _
      have j1' : l_X10_minutesToDelivery_16 (zI i) FU V (zI 0) = _ := j1
      unfold f_X10_minutesToDelivery
      rw [z_l0, z_Qnp Q1 ha, z_o0 (by omega), z_bd2, if_pos rfl, v1, z_bdc, j1']
    · rw [j3, v4]
      exact z_the
    · rw [j4, v3, z_thu (by omega), z_w2e]
    · exact z_EQ_t eq1 (z_EQ_t z_EQ_31 (z_EQ_t z_EQ_th (z_EQ_t v2 j2)))
  · refine ⟨1, zI 0, W, z_th W 1, ?_, ?_, z_the, by omega, by omega, fun q => absurd q (by omega), z_EQ_th⟩
    · unfold f_L_minutesToDelivery f_X9_minutesToDelivery
      rw [z_Cpl h0 c4 ha, if_neg va, z_btl, z_b2l, if_pos rfl, z_l1]
    · show f_X10_minutesToDelivery W (zI a) = _
      unfold f_X10_minutesToDelivery
      rw [z_l0, z_Qnp h ha, z_o1 (by omega)]
      simp (disch := omega) only [z_lit, z_n, z_add, z_sub, z_mul, z_neg, z_lt1, z_lt0, z_le1, z_le0, z_eq1, z_eq0, z_10, ↓reduceIte, z_v, z_upd, z_ue, z_un, z_ixn, z_ixo, z_ix0, z_ix1, z_ix2, z_ix3, z_ix4, z_ix5, z_ix6, Int.reduceToNat, z_inr, z_gd, ↓z_bnd, ↓z_jn, z_bdc, z_bd2, z_opn, z_ops, z_z01, z_Bt, z_Bf]
end Fuq
