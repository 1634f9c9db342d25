section Fur
variable {W W' : Nat → Nat → Int32} {b : Int} {s s' g g' : Nat → Int}
theorem z_mtf (hB : b + 121 ≤ 1000000000) : ∀ (d x N : Nat) (W : Nat → Nat → Int32) (s g : Nat → Int), W 1 = zV s → z_PI (b + x) s g → x + d = 120 → d + 1 < N → ∃ v W1, l_X9_minutesToFinish_13 N W (zI x) = some (zI v, W1) ∧ (∀ u, u ≠ 1 → W1 u = W u) ∧ ∀ M V, d + 1 < M → pk (V 23) (V 27) = zV g → ∃ V', l_X10_minutesToFinish_11 M V (zI x) = some (zI v, V') ∧ z_EQ V V' ∧ V' 30 = V 30 ∧ V' 31 = V 31 := by
  intro d
  induction d with
  | zero =>
    intro x N W s g hW h hx hN
    obtain ⟨N, rfl⟩ : ∃ m, N = m + 1 := ⟨N - 1, by omega⟩
    obtain rfl : x = 120 := by omega
    have c4 := h.1.1.2.2.2.2
    have cd := z_Cde h.1 (show b + ((120 : Nat) : Int) ≤ 1000000000 by omega)
    have gd' := z_Gde h.1 (show b + ((120 : Nat) : Int) ≤ 1000000000 by omega) h.2.1
    have cb := z_ct_b (p := z_de s) (s 4).toNat 0
    have g4 := h.2.1.1 4 (by omega)
    obtain ⟨y, hy⟩ : ∃ y, z_ct (z_de s) 0 (s 4).toNat = y := ⟨_, rfl⟩
    rw [hy] at cd gd' cb
    have w4 : W 1 4 = zI (s 4) := by rw [hW]; rfl
    refine ⟨if y = s 4 then 120 else -1, W, ?_, fun u _ => rfl, fun M V hM hV => ?_⟩
    · rw [l_X9_minutesToFinish_13, w4, hW]
      by_cases c : y = s 4
      · rw [if_pos c]
        simp (disch := omega) only [z_lit, z_n, z_add, z_sub, z_mul, z_neg, z_lt1, z_lt0, z_le1, z_le0, z_eq1, z_eq0, z_10, ↓reduceIte, z_v, z_upd, z_ue, z_un, z_ixn, z_ixo, z_ix0, z_ix1, z_ix2, z_ix3, z_ix4, z_ix5, z_ix6, Int.reduceToNat, z_inr, z_gd, ↓z_bnd, ↓z_jn, z_bdc, z_bd2, z_opn, z_ops, z_z01, z_Bt, z_Bf, cd, c]
      · rw [if_neg c]
        simp (disch := omega) only [z_lit, z_n, z_add, z_sub, z_mul, z_neg, z_lt1, z_lt0, z_le1, z_le0, z_eq1, z_eq0, z_10, ↓reduceIte, z_v, z_upd, z_ue, z_un, z_ixn, z_ixo, z_ix0, z_ix1, z_ix2, z_ix3, z_ix4, z_ix5, z_ix6, Int.reduceToNat, z_inr, z_gd, ↓z_bnd, ↓z_jn, z_bdc, z_bd2, z_opn, z_ops, z_z01, z_Bt, z_Bf, cd]
    · obtain ⟨M, rfl⟩ : ∃ m, M = m + 1 + 1 := ⟨M - 2, by omega⟩
      have v4 : V 23 4 = zI (s 4) := by
        have := congrFun hV 4
        unfold pk at this
        rw [if_pos (by omega)] at this
        rw [this, z_v, g4]
      by_cases c : y = s 4
      · refine ⟨V, ?_, z_EQ_r, rfl, rfl⟩
        rw [if_pos c, l_X10_minutesToFinish_11]
        simp (disch := omega) only [z_lit, z_n, z_add, z_sub, z_mul, z_neg, z_lt1, z_lt0, z_le1, z_le0, z_eq1, z_eq0, z_10, ↓reduceIte, z_v, z_upd, z_ue, z_un, z_ixn, z_ixo, z_ix0, z_ix1, z_ix2, z_ix3, z_ix4, z_ix5, z_ix6, Int.reduceToNat, z_inr, z_gd, ↓z_bnd, ↓z_jn, z_bdc, z_bd2, z_opn, z_ops, z_z01, z_Bt, z_Bf, hV, gd', v4, c]
        rfl
      · obtain ⟨s1, g1, e1, e2, e3, -⟩ := z_min1 (by omega) h
        refine ⟨setQ V 23 (zV g1), ?_, z_EQ_q23, z_sQx (by omega) (by omega), z_sQx (by omega) (by omega)⟩
        rw [if_neg c, l_X10_minutesToFinish_11]
        simp (disch := omega) only [z_lit, z_n, z_add, z_sub, z_mul, z_neg, z_lt1, z_lt0, z_le1, z_le0, z_eq1, z_eq0, z_10, ↓reduceIte, z_v, z_upd, z_ue, z_un, z_ixn, z_ixo, z_ix0, z_ix1, z_ix2, z_ix3, z_ix4, z_ix5, z_ix6, Int.reduceToNat, z_inr, z_gd, ↓z_bnd, ↓z_jn, z_bdc, z_bd2, z_opn, z_ops, z_z01, z_Bt, z_Bf, hV, gd', v4, e2]
        rw [l_X10_minutesToFinish_11]
        simp (disch := omega) only [z_lit, z_n, z_add, z_sub, z_mul, z_neg, z_lt1, z_lt0, z_le1, z_le0, z_eq1, z_eq0, z_10, ↓reduceIte, z_v, z_upd, z_ue, z_un, z_ixn, z_ixo, z_ix0, z_ix1, z_ix2, z_ix3, z_ix4, z_ix5, z_ix6, Int.reduceToNat, z_inr, z_gd, ↓z_bnd, ↓z_jn, z_bdc, z_bd2, z_opn, z_ops, z_z01, z_Bt, z_Bf]
  | succ d ih =>
    intro x N W s g hW h hx hN
    obtain ⟨N, rfl⟩ : ∃ m, N = m + 1 := ⟨N - 1, by omega⟩
    have c4 := h.1.1.2.2.2.2
    have cd := z_Cde h.1 (show b + (x : Int) ≤ 1000000000 by omega)
    have gd' := z_Gde h.1 (show b + (x : Int) ≤ 1000000000 by omega) h.2.1
    have cb := z_ct_b (p := z_de s) (s 4).toNat 0
    have g4 := h.2.1.1 4 (by omega)
    obtain ⟨y, hy⟩ : ∃ y, z_ct (z_de s) 0 (s 4).toNat = y := ⟨_, rfl⟩
    rw [hy] at cd gd' cb
    have w4 : W 1 4 = zI (s 4) := by rw [hW]; rfl
    have v4 : ∀ V : Nat → Nat → Int32, pk (V 23) (V 27) = zV g → V 23 4 = zI (s 4) := fun V hV => by
      have := congrFun hV 4
      unfold pk at this
      rw [if_pos (by omega)] at this
      rw [this, z_v, g4]
    by_cases c : y = s 4
    · refine ⟨x, W, ?_, fun u _ => rfl, fun M V hM hV => ?_⟩
      · rw [l_X9_minutesToFinish_13, w4, hW]
        simp (disch := omega) only [z_lit, z_n, z_add, z_sub, z_mul, z_neg, z_lt1, z_lt0, z_le1, z_le0, z_eq1, z_eq0, z_10, ↓reduceIte, z_v, z_upd, z_ue, z_un, z_ixn, z_ixo, z_ix0, z_ix1, z_ix2, z_ix3, z_ix4, z_ix5, z_ix6, Int.reduceToNat, z_inr, z_gd, ↓z_bnd, ↓z_jn, z_bdc, z_bd2, z_opn, z_ops, z_z01, z_Bt, z_Bf, cd, c]
      · obtain ⟨M, rfl⟩ : ∃ m, M = m + 1 := ⟨M - 1, by omega⟩
        refine ⟨V, ?_, z_EQ_r, rfl, rfl⟩
        rw [l_X10_minutesToFinish_11]
        simp (disch := omega) only [z_lit, z_n, z_add, z_sub, z_mul, z_neg, z_lt1, z_lt0, z_le1, z_le0, z_eq1, z_eq0, z_10, ↓reduceIte, z_v, z_upd, z_ue, z_un, z_ixn, z_ixo, z_ix0, z_ix1, z_ix2, z_ix3, z_ix4, z_ix5, z_ix6, Int.reduceToNat, z_inr, z_gd, ↓z_bnd, ↓z_jn, z_bdc, z_bd2, z_opn, z_ops, z_z01, z_Bt, z_Bf, hV, gd', v4 V hV, c]
    · obtain ⟨s1, g1, e1, e2, e3, -, e5, -⟩ := z_min1 (by omega) h
      obtain ⟨v, W1, k1, k2, k3⟩ := ih (x + 1) N (setU W 1 (zV s1)) s1 g1 z_sUe (z_PI_le e3 (by omega)) (by omega) (by omega)
      refine ⟨v, W1, ?_, fun u hu => by rw [k2 u hu, z_sUu hu], fun M V hM hV => ?_⟩
      · rw [l_X9_minutesToFinish_13, w4, hW]
        simp (disch := omega) only [z_lit, z_n, z_add, z_sub, z_mul, z_neg, z_lt1, z_lt0, z_le1, z_le0, z_eq1, z_eq0, z_10, ↓reduceIte, z_v, z_upd, z_ue, z_un, z_ixn, z_ixo, z_ix0, z_ix1, z_ix2, z_ix3, z_ix4, z_ix5, z_ix6, Int.reduceToNat, z_inr, z_gd, ↓z_bnd, ↓z_jn, z_bdc, z_bd2, z_opn, z_ops, z_z01, z_Bt, z_Bf, cd, e1]
        exact k1
      · obtain ⟨M, rfl⟩ : ∃ m, M = m + 1 := ⟨M - 1, by omega⟩
        obtain ⟨V', j1, j2, j3, j4⟩ := k3 M (setQ V 23 (zV g1)) (by omega) z_pkq
        refine ⟨V', ?_, z_EQ_t z_EQ_q23 j2, by rw [j3, z_sQx (by omega) (by omega)], by rw [j4, z_sQx (by omega) (by omega)]⟩
        rw [l_X10_minutesToFinish_11]
        simp (disch := omega) only [z_lit, z_n, z_add, z_sub, z_mul, z_neg, z_lt1, z_lt0, z_le1, z_le0, z_eq1, z_eq0, z_10, ↓reduceIte, z_v, z_upd, z_ue, z_un, z_ixn, z_ixo, z_ix0, z_ix1, z_ix2, z_ix3, z_ix4, z_ix5, z_ix6, Int.reduceToNat, z_inr, z_gd, ↓z_bnd, ↓z_jn, z_bdc, z_bd2, z_opn, z_ops, z_z01, z_Bt, z_Bf, hV, gd', v4 V hV, e2]
        exact j1
theorem z_m_minutesToFinish (hB : b ≤ 100000000) (h : z_Q b W s g) : ∃ W', (bd2 (f_X9_minutesToFinish W) fun v2 W1 => bd2 (f_X10_minutesToFinish W1) fun v4 W3 => if v2 = v4 then some W3 else none) = some W' ∧ z_EQ W W' := by
  obtain ⟨h0, hg, pi⟩ := id h
  obtain ⟨g0, e1, p0⟩ := z_pkg (T := W 27) h
  obtain ⟨s0, c1, c2, c5⟩ := z_copy (W 1) p0
  obtain ⟨x, W1, k1, k2, k3⟩ := z_mtf (b := b) (by omega) 120 0 FU (setU W 1 (zV s0)) s0 g0 z_sUe (z_PI_le c2 (by omega)) (by omega) (by unfold FU; omega)
  have w27 : ∀ u, u ≠ 1 → W1 u = W u := fun u hu => by rw [k2 u hu, z_sUu hu]
  have eq1 : z_EQ W W1 := ⟨fun u h1 _ _ _ _ _ => w27 u h1, fun k _ => by rw [w27 21 (by omega)], fun k _ => by rw [w27 30 (by omega)]⟩
  have Q2 := z_Q_th (c := 0) (z_Q_EQ h eq1)
  obtain ⟨V, v1, v2, v3, v4, v5, v6, v7⟩ := z_trypk Q2 (T := W 27) (by rw [z_thu (by omega), w27 27 (by omega)]) (G := W 21) (by rw [z_thu (by omega), w27 21 (by omega)])
  obtain ⟨V', j1, j2, j3, j4⟩ := k3 FU V (by unfold FU; omega) (by rw [v6, e1])
  refine ⟨V', ?_, z_EQ_t eq1 (z_EQ_t z_EQ_th (z_EQ_t v2 j2))⟩
  unfold f_X9_minutesToFinish f_X10_minutesToFinish
  have k1' : l_X9_minutesToFinish_13 FU (setU W 1 (zV s0)) (zI 0) = _ := k1
  have j1' : l_X10_minutesToFinish_11 FU V (zI 0) = _ := j1
  rw [h0, c1, z_bdc, z_bnd, z_l0, k1', z_bd2, z_bnd]
  show (bd2 (bdc (f_X10_tries (z_th W1 0)) fun W2 => l_X10_minutesToFinish_11 FU W2 (zI 0)) fun v4 W3 => if zI x = v4 then some W3 else none) = _
  rw [v1, z_bdc, j1', z_bd2, if_pos rfl]
/-! until a train stops -/
theorem z_mts (hB : b + 121 ≤ 200000000) {i : Nat} {G0 : Int} (hG0 : 0 ≤ G0 ∧ G0 ≤ 1000000000) : ∀ (d x N : Nat) (W : Nat → Nat → Int32) (s g : Nat → Int), W 1 = zV s → z_PI (b + x) s g → (i : Int) < s 1 → x + d = 120 → d + 1 < N → g (7 + 4 * i + 3) = G0 → s (7 + 4 * i + 3) ≤ s 0 → ∃ v W1, l_X9_minutesToStop_18 (zI i) N W (zI ((x : Int) + 1)) = some (.inr (zI v), W1) ∧ (∀ u, u ≠ 1 → W1 u = W u) ∧ ∀ M V, d + 1 < M → pk (V 23) (V 27) = zV g → V 21 (7 + 4 * i + 3) = zI G0 → ∃ V', l_X10_minutesToStop_16 (zI i) M V (zI ((x : Int) + 1)) = some (zI v, V') ∧ z_EQ V V' ∧ V' 30 = V 30 ∧ V' 31 = V 31 := by
  intro d
  induction d with
  | zero =>
    intro x N W s g hW h hi hx hN hG hs
    obtain ⟨N, rfl⟩ : ∃ m, N = m + 1 := ⟨N - 1, by omega⟩
    obtain rfl : x = 120 := by omega
    refine ⟨-1, W, ?_, fun u _ => rfl, fun M V hM hV hV2 => ⟨V, ?_, z_EQ_r, rfl, rfl⟩⟩
    · rw [l_X9_minutesToStop_18]
      simp (disch := omega) only [z_lit, z_n, z_add, z_sub, z_mul, z_neg, z_lt1, z_lt0, z_le1, z_le0, z_eq1, z_eq0, z_10, ↓reduceIte, z_v, z_upd, z_ue, z_un, z_ixn, z_ixo, z_ix0, z_ix1, z_ix2, z_ix3, z_ix4, z_ix5, z_ix6, Int.reduceToNat, z_inr, z_gd, ↓z_bnd, ↓z_jn, z_bdc, z_bd2, z_opn, z_ops, z_z01, z_Bt, z_Bf]
    · obtain ⟨M, rfl⟩ : ∃ m, M = m + 1 := ⟨M - 1, by omega⟩
      rw [l_X10_minutesToStop_16]
      simp (disch := omega) only [z_lit, z_n, z_add, z_sub, z_mul, z_neg, z_lt1, z_lt0, z_le1, z_le0, z_eq1, z_eq0, z_10, ↓reduceIte, z_v, z_upd, z_ue, z_un, z_ixn, z_ixo, z_ix0, z_ix1, z_ix2, z_ix3, z_ix4, z_ix5, z_ix6, Int.reduceToNat, z_inr, z_gd, ↓z_bnd, ↓z_jn, z_bdc, z_bd2, z_opn, z_ops, z_z01, z_Bt, z_Bf]
  | succ d ih =>
    intro x N W s g hW h hi hx hN hG hs
    obtain ⟨N, rfl⟩ : ∃ m, N = m + 1 := ⟨N - 1, by omega⟩
    obtain ⟨c0, c1, -⟩ := h.1.1
    obtain ⟨s1, g1, e1, e2, e3, e4, e5, e6⟩ := z_min1 (by omega) h
    have s11 := e5 1 (by omega) (by omega)
    have k := e6 i (by omega)
    rw [z_un (by omega), z_ue rfl] at k
    have st := (e3.1.2.2.1 i (by omega)).2
    have sb := e3.2.2 i (by omega)
    by_cases c : s1 (7 + 4 * i + 3) = s1 0
    · have kg : G0 < g1 (7 + 4 * i + 3) := by
        rcases k with ⟨q1, q2⟩ | ⟨q1, q2, q3⟩ <;> omega
      refine ⟨x + 1, setU W 1 (zV s1), ?_, fun u hu => z_sUu hu, fun M V hM hV hV2 => ?_⟩
      · rw [l_X9_minutesToStop_18, hW]
        simp (disch := omega) only [z_lit, z_n, z_add, z_sub, z_mul, z_neg, z_lt1, z_lt0, z_le1, z_le0, z_eq1, z_eq0, z_10, ↓reduceIte, z_v, z_upd, z_ue, z_un, z_ixn, z_ixo, z_ix0, z_ix1, z_ix2, z_ix3, z_ix4, z_ix5, z_ix6, Int.reduceToNat, z_inr, z_gd, ↓z_bnd, ↓z_jn, z_bdc, z_bd2, z_opn, z_ops, z_z01, z_Bt, z_Bf, e1, z_sUe, c]
      · obtain ⟨M, rfl⟩ : ∃ m, M = m + 1 := ⟨M - 1, by omega⟩
        refine ⟨setQ V 23 (zV g1), ?_, z_EQ_q23, z_sQx (by omega) (by omega), z_sQx (by omega) (by omega)⟩
        rw [l_X10_minutesToStop_16]
        simp (disch := omega) only [z_lit, z_n, z_add, z_sub, z_mul, z_neg, z_lt1, z_lt0, z_le1, z_le0, z_eq1, z_eq0, z_10, ↓reduceIte, z_v, z_upd, z_ue, z_un, z_ixn, z_ixo, z_ix0, z_ix1, z_ix2, z_ix3, z_ix4, z_ix5, z_ix6, Int.reduceToNat, z_inr, z_gd, ↓z_bnd, ↓z_jn, z_bdc, z_bd2, z_opn, z_ops, z_z01, z_Bt, z_Bf, hV, e2, z_ofS, z_sQu, z_sQx, hV2]
    · have kg : g1 (7 + 4 * i + 3) = G0 ∧ s1 (7 + 4 * i + 3) = s (7 + 4 * i + 3) := by
        rcases k with ⟨q1, q2⟩ | ⟨q1, q2, q3⟩ <;> omega
      obtain ⟨v, W1, k1, k2, k3⟩ := ih (x + 1) N (setU W 1 (zV s1)) s1 g1 z_sUe (z_PI_le e3 (by omega)) (by omega) (by omega) (by omega) kg.1 (by omega)
      refine ⟨v, W1, ?_, fun u hu => by rw [k2 u hu, z_sUu hu], fun M V hM hV hV2 => ?_⟩
      · rw [l_X9_minutesToStop_18, hW]
        simp (disch := omega) only [z_lit, z_n, z_add, z_sub, z_mul, z_neg, z_lt1, z_lt0, z_le1, z_le0, z_eq1, z_eq0, z_10, ↓reduceIte, z_v, z_upd, z_ue, z_un, z_ixn, z_ixo, z_ix0, z_ix1, z_ix2, z_ix3, z_ix4, z_ix5, z_ix6, Int.reduceToNat, z_inr, z_gd, ↓z_bnd, ↓z_jn, z_bdc, z_bd2, z_opn, z_ops, z_z01, z_Bt, z_Bf, e1, z_sUe]
        exact k1
      · obtain ⟨M, rfl⟩ : ∃ m, M = m + 1 := ⟨M - 1, by omega⟩
        obtain ⟨V', j1, j2, j3, j4⟩ := k3 M (setQ V 23 (zV g1)) (by omega) z_pkq (by rw [z_sQx (by omega) (by omega)]; exact hV2)
        refine ⟨V', ?_, z_EQ_t z_EQ_q23 j2, by rw [j3, z_sQx (by omega) (by omega)], by rw [j4, z_sQx (by omega) (by omega)]⟩
        rw [l_X10_minutesToStop_16]
        simp (disch := omega) only [z_lit, z_n, z_add, z_sub, z_mul, z_neg, z_lt1, z_lt0, z_le1, z_le0, z_eq1, z_eq0, z_10, ↓reduceIte, z_v, z_upd, z_ue, z_un, z_ixn, z_ixo, z_ix0, z_ix1, z_ix2, z_ix3, z_ix4, z_ix5, z_ix6, Int.reduceToNat, z_inr, z_gd, ↓z_bnd, ↓z_jn, z_bdc, z_bd2, z_opn, z_ops, z_z01, z_Bt, z_Bf, hV, e2, z_ofS, z_sQu, z_sQx, hV2]
        exact j1
theorem z_m_minutesToStop (hB : b ≤ 100000000) (h : z_Q b W s g) {a : Int} (ha : zR a) : z_AG (f_L_minutesToStop W (zI a)) (fun W1 => f_X10_minutesToStop W1 (zI a)) (z_EQ W) := by
  obtain ⟨h0, hg, pi⟩ := id h
  obtain ⟨c0, c1', c2', c3, c4⟩ := pi.1.1
  by_cases va : 0 ≤ a ∧ a < s 1
  · obtain ⟨i, rfl⟩ : ∃ m : Nat, a = m := ⟨a.toNat, by omega⟩
    obtain ⟨g0, e1, e2⟩ := z_pkv (T := W 27) h.2.1
    have p0 : z_PI b s g0 := z_PI_315 h.2.2 (fun k _ => rfl) e2
    obtain ⟨s0, c1, c2, c5⟩ := z_copy (W 1) p0
    have sb := c2.2.2 i (by omega)
    obtain ⟨x, W1, k1, k2, k3⟩ := z_mts (b := b) (by omega) (G0 := g0 (7 + 4 * i + 3)) (by omega) 120 0 FU (setU W 1 (zV s0)) s0 g0 (i := i) z_sUe (z_PI_le c2 (by omega)) (by rw [c5 1 (by omega)]; omega) (by omega) (by unfold FU; omega) rfl (c2.1.2.2.1 i (by rw [c5 1 (by omega)]; omega)).2.2
    have w27 : ∀ u, u ≠ 1 → W1 u = W u := fun u hu => by rw [k2 u hu, z_sUu hu]
    have eq1 : z_EQ W W1 := ⟨fun u h1 _ _ _ _ _ => w27 u h1, fun k _ => by rw [w27 21 (by omega)], fun k _ => by rw [w27 30 (by omega)]⟩
    have Q1 := z_Q_31 (v := zI x) (z_Q_EQ h eq1)
    have Q2 := z_Q_th (c := 0) Q1
    obtain ⟨V, v1, v2, v3, v4, v5, v6, v7⟩ := z_trypk Q2 (T := W 27) (by rw [z_thu (by omega), z_w2u (by omega), w27 27 (by omega)]) (G := W 21) (by rw [z_thu (by omega), z_w2u (by omega), w27 21 (by omega)])
    obtain ⟨V', j1, j2, j3, j4⟩ := k3 FU V (by unfold FU; omega) (by rw [v6, e1]) (by rw [v5, Q2.2.1 _ (by omega), e2 _ (by omega)])
    refine ⟨0, zI x, w2 W1 31 0 (zI x), V', ?_, ?_, ?_, by omega, by omega, fun _ => ?_, ?_⟩
    · unfold f_L_minutesToStop f_X9_minutesToStop
      have k1' : l_X9_minutesToStop_18 (zI i) FU (setU W 1 (zV s0)) (zI 1) = _ := k1
      rw [z_Cst h0 c1' ha, if_pos va, z_btr, h0, c1, z_bdc, z_bnd, z_l1, k1', z_b2r, z_bnd, z_l0]
    · show f_X10_minutesToStop (w2 W1 31 0 (zI x)) (zI i) = _
      have j1' : l_X10_minutesToStop_16 (zI i) FU V (zI 1) = _ := j1
      unfold f_X10_minutesToStop
      rw [z_l0, z_l1, z_Qns Q1 ha, z_o0 (by omega), z_bd2, if_pos rfl, v1, z_bdc, j1']
    · rw [j3, v4]
      exact z_the
    · rw [j4, v3, z_thu (by omega), z_w2e]
    · exact z_EQ_t eq1 (z_EQ_t z_EQ_31 (z_EQ_t z_EQ_th (z_EQ_t v2 j2)))
  · refine ⟨1, zI 0, W, z_th W 1, ?_, ?_, z_the, by omega, by omega, fun q => absurd q (by omega), z_EQ_th⟩
    · unfold f_L_minutesToStop f_X9_minutesToStop
      rw [z_Cst h0 c1' ha, if_neg va, z_btl, z_b2l, if_pos rfl, z_l1]
    · show f_X10_minutesToStop W (zI a) = _
      unfold f_X10_minutesToStop
      rw [z_l0, z_Qns h ha, z_o1 (by omega)]
      simp (disch := omega) only [z_lit, z_n, z_add, z_sub, z_mul, z_neg, z_lt1, z_lt0, z_le1, z_le0, z_eq1, z_eq0, z_10, ↓reduceIte, z_v, z_upd, z_ue, z_un, z_ixn, z_ixo, z_ix0, z_ix1, z_ix2, z_ix3, z_ix4, z_ix5, z_ix6, Int.reduceToNat, z_inr, z_gd, ↓z_bnd, ↓z_jn, z_bdc, z_bd2, z_opn, z_ops, z_z01, z_Bt, z_Bf]
end Fur
