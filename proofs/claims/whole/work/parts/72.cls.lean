/-! closures -/
section Cls
variable {W W' : Nat → Nat → Int32} {b : Int} {s s' g g' : Nat → Int}
theorem z_cdw : ∀ (d : Nat) (b : Int) (s g : Nat → Int) (W : Nat → Nat → Int32) (i n N : Nat), b + d ≤ 1000000000 → W 1 = zV s → z_PI b s g → i + d = n → n < 1000 → d < N → ∃ v W1 g1, l_X9_countDeliveredWithout_22 (zI n) N W (zI i) = some (zI v, W1) ∧ (∀ u, u ≠ 1 → W1 u = W u) ∧ 0 ≤ v ∧ v ≤ 12 ∧ (∀ M, d < M → l_X10_minutes_2 (zI n) M (zV g) (zI i) = some (zV g1)) ∧ f_X10_deliveredIn (zV g1) = some (zI v) := by
  intro d
  induction d with
  | zero =>
    intro b s g W i n N hb hW h hi hn hN
    obtain ⟨N, rfl⟩ : ∃ m, N = m + 1 := ⟨N - 1, by omega⟩
    have c4 := h.1.1.2.2.2.2
    have cd := z_Cde h.1 (show b ≤ 1000000000 by omega)
    have gd' := z_Gde h.1 (show b ≤ 1000000000 by omega) h.2.1
    have cb := z_ct_b (p := z_de s) (s 4).toNat 0
    refine ⟨z_ct (z_de s) 0 (s 4).toNat, W, g, ?_, fun u _ => rfl, by omega, by omega, fun M hM => ?_, gd'⟩
    · rw [l_X9_countDeliveredWithout_22, hW]
      simp (disch := omega) only [z_lit, z_n, z_add, z_sub, z_mul, z_neg, z_lt1, z_lt0, z_le1, z_le0, z_eq1, z_eq0, z_10, ↓reduceIte, z_v, z_upd, z_ue, z_un, z_ixn, z_ixo, z_ix0, z_ix1, z_ix2, z_ix3, z_ix4, z_ix5, z_ix6, Int.reduceToNat, z_inr, z_gd, ↓z_bnd, ↓z_jn, z_bdc, z_bd2, z_opn, z_ops, z_z01, z_Bt, z_Bf, cd]
    · obtain ⟨M, rfl⟩ : ∃ m, M = m + 1 := ⟨M - 1, by omega⟩
      rw [l_X10_minutes_2]
      simp (disch := omega) only [z_lit, z_n, z_add, z_sub, z_mul, z_neg, z_lt1, z_lt0, z_le1, z_le0, z_eq1, z_eq0, z_10, ↓reduceIte, z_v, z_upd, z_ue, z_un, z_ixn, z_ixo, z_ix0, z_ix1, z_ix2, z_ix3, z_ix4, z_ix5, z_ix6, Int.reduceToNat, z_inr, z_gd, ↓z_bnd, ↓z_jn, z_bdc, z_bd2, z_opn, z_ops, z_z01, z_Bt, z_Bf]
  | succ d ih =>
    intro b s g W i n N hb hW h hi hn hN
    obtain ⟨N, rfl⟩ : ∃ m, N = m + 1 := ⟨N - 1, by omega⟩
    obtain ⟨s1, g1, e1, e2, e3, e4, e5, e6⟩ := z_min1 (by omega) h
    obtain ⟨v, W1, g2, k1, k2, k3, k4, k5, k6⟩ := ih (b + 1) s1 g1 (setU W 1 (zV s1)) (i + 1) n N (by omega) z_sUe e3 (by omega) hn (by omega)
    refine ⟨v, W1, g2, ?_, fun u hu => by rw [k2 u hu, z_sUu hu], k3, k4, fun M hM => ?_, k6⟩
    · rw [l_X9_countDeliveredWithout_22, hW]
      simp (disch := omega) only [z_lit, z_n, z_add, z_sub, z_mul, z_neg, z_lt1, z_lt0, z_le1, z_le0, z_eq1, z_eq0, z_10, ↓reduceIte, z_v, z_upd, z_ue, z_un, z_ixn, z_ixo, z_ix0, z_ix1, z_ix2, z_ix3, z_ix4, z_ix5, z_ix6, Int.reduceToNat, z_inr, z_gd, ↓z_bnd, ↓z_jn, z_bdc, z_bd2, z_opn, z_ops, z_z01, z_Bt, z_Bf, e1]
      exact k1
    · obtain ⟨M, rfl⟩ : ∃ m, M = m + 1 := ⟨M - 1, by omega⟩
      rw [l_X10_minutes_2]
      simp (disch := omega) only [z_lit, z_n, z_add, z_sub, z_mul, z_neg, z_lt1, z_lt0, z_le1, z_le0, z_eq1, z_eq0, z_10, ↓reduceIte, z_v, z_upd, z_ue, z_un, z_ixn, z_ixo, z_ix0, z_ix1, z_ix2, z_ix3, z_ix4, z_ix5, z_ix6, Int.reduceToNat, z_inr, z_gd, ↓z_bnd, ↓z_jn, z_bdc, z_bd2, z_opn, z_ops, z_z01, z_Bt, z_Bf, e2]
      exact k5 M (by omega)
/-- one closure, on both sides: T is far when the reference begins -/
theorem z_clo (hB : b ≤ 100000000) (h0 : W 0 = zV s) (pi : z_PI b s g) (hg : ∀ k, k < 251 → W 21 k = zI (g k)) {T : Nat → Int32} {k n : Nat} (hk : (k : Int) < s 2) (hn : n < 1000) : ∃ v W1 T', f_X9_countDeliveredWithout W (zI k) (zI n) = some (zI v, W1) ∧ (∀ u, u ≠ 1 → W1 u = W u) ∧ 0 ≤ v ∧ v ≤ 12 ∧ ∀ V, V 21 = W 21 → V 27 = T → ∃ V', f_X10_deliveredWithout V (zI k) (zI n) = some (zI v, V') ∧ z_EQ V V' ∧ V' 30 = V 30 ∧ V' 31 = V 31 ∧ V' 21 = V 21 ∧ V' 27 = T' := by
  have c2 := pi.1.1.2.2.1
  obtain ⟨g0, e1, e2⟩ := z_pkv (T := T) hg
  have p0 : z_PI b s g0 := z_PI_315 pi (fun k _ => rfl) e2
  obtain ⟨s0, c1, c3, c5⟩ := z_copy (W 1) p0
  obtain ⟨s1, o1, o2, o3⟩ := z_open c3 (i := k) (o := 0) (by rw [c5 2 (by omega)]; exact hk) (Or.inl rfl)
  obtain ⟨v, W1, g2, k1, k2, k3, k4, k5, k6⟩ := z_cdw n b s1 (zu g0 (39 + 4 * k + 3) 0) (setU (setU W 1 (zV s0)) 1 (zV s1)) 0 n FU (by omega) z_sUe o2 (by omega) hn (by unfold FU; omega)
  refine ⟨v, W1, fun j => zV g2 (251 + j), ?_, fun u hu => by rw [k2 u hu, z_sUu hu, z_sUu hu], k3, k4, fun V hV1 hV2 => ?_⟩
  · unfold f_X9_countDeliveredWithout
    have k1' : l_X9_countDeliveredWithout_22 (zI n) FU (setU (setU W 1 (zV s0)) 1 (zV s1)) (zI 0) = _ := k1
    rw [h0, c1, z_bdc, z_bnd, z_sUe, z_l0, o1, z_bdc, z_bnd, k1']
  · obtain ⟨V1, v1, v2, v3, v4, v5, v6, v7⟩ := z_tries (W := V) (g := g) (by rw [hV1]; exact hg)
    have k5' : f_X10_minutes (zV (zu g0 (39 + 4 * k + 3) 0)) (zI n) = some (zV g2) := k5 FU (by unfold FU; omega)
    have epk : pk (w2 V1 23 (39 + 4 * k + 3) (zI 0) 23) (w2 V1 23 (39 + 4 * k + 3) (zI 0) 27) = zV (zu g0 (39 + 4 * k + 3) 0) := by
      rw [z_w2u (x := 27) (by omega), v3, hV2]
      funext j
      unfold pk
      by_cases q : j < 251
      · rw [if_pos q]
        by_cases q2 : j = 39 + 4 * k + 3
        · rw [q2, z_w2e, z_v, z_ue rfl]
        · rw [z_w2k q2, v7 j q, hV1, hg j q, z_v, z_un q2, e2 j q]
      · rw [if_neg q, z_v, z_un (by omega), ← z_v, ← e1]
        unfold pk
        rw [if_neg q]
    refine ⟨setQ (w2 V1 23 (39 + 4 * k + 3) (zI 0)) 23 (zV g2), ?_, z_EQ_t v2 (z_EQ_t ⟨fun u _ _ h _ _ _ => z_w2u h, fun k _ => by rw [z_w2u (by omega)], fun k _ => by rw [z_w2u (by omega)]⟩ z_EQ_q23), ?_, ?_, ?_, ?_⟩
    · unfold f_X10_deliveredWithout
      rw [v1, z_bdc, z_ofK, z_bdc, z_l0]
      simp (disch := omega) only [z_lit, z_n, z_add, z_sub, z_mul, z_neg, z_lt1, z_lt0, z_le1, z_le0, z_eq1, z_eq0, z_10, ↓reduceIte, z_v, z_upd, z_ue, z_un, z_ixn, z_ixo, z_ix0, z_ix1, z_ix2, z_ix3, z_ix4, z_ix5, z_ix6, Int.reduceToNat, z_inr, z_gd, ↓z_bnd, ↓z_jn, z_bdc, z_bd2, z_opn, z_ops, z_z01, z_Bt, z_Bf]
      rw [epk, k5', z_bdc, z_pkq, k6, z_bdc]
    · rw [z_sQx (by omega) (by omega), z_w2u (by omega), v5]
    · rw [z_sQx (by omega) (by omega), z_w2u (by omega), v4]
    · rw [z_sQx (by omega) (by omega), z_w2u (by omega), v6]
    · rw [z_sQ7]
theorem z_m_deliveredIfClosed (hB : b ≤ 100000000) (h : z_Q b W s g) {a c n : Int} (ha : zR a) (hc : zR c) (hn : zR n) : z_AG (f_L_deliveredIfClosed W (zI a) (zI c) (zI n)) (fun W1 => f_X10_deliveredIfClosed W1 (zI a) (zI c) (zI n)) (z_EQ W) := by
  obtain ⟨h0, hg, pi⟩ := id h
  obtain ⟨c0, c1', c2', c3, c4⟩ := pi.1.1
  have ct := z_Ctk pi.1 ha hc
  have gt : ∀ W1, z_Q b W1 s g → f_X10_between (pk (W1 21) (W1 27)) (zI a) (zI c) = some (zI (z_oi (z_tk s a c))) := fun W1 h1 => by
    obtain ⟨g', e1, e2, e3⟩ := z_Q_pk h1
    rw [e1, z_Gtk pi.1 e3 ha hc]
  by_cases va : (0 ≤ a ∧ a < s 1) ∧ (0 ≤ c ∧ c < s 1)
  · cases e : z_tk s a c with
    | none =>
      rw [e] at ct gt
      refine ⟨2, zI 0, W, z_th W 2, ?_, ?_, z_the, by omega, by omega, fun q => absurd q (by omega), z_EQ_th⟩
      · unfold f_L_deliveredIfClosed f_X9_deliveredIfClosed f_X9_requireTrack
        rw [z_Cst h0 c1' ha, if_pos va.1, z_btr, z_Cst h0 c1' hc, if_pos va.2, z_btr, h0, ct, z_bdc]
        unfold z_oi
        simp (disch := omega) only [z_lit, z_n, z_add, z_sub, z_mul, z_neg, z_lt1, z_lt0, z_le1, z_le0, z_eq1, z_eq0, z_10, ↓reduceIte, z_v, z_upd, z_ue, z_un, z_ixn, z_ixo, z_ix0, z_ix1, z_ix2, z_ix3, z_ix4, z_ix5, z_ix6, Int.reduceToNat, z_inr, z_gd, ↓z_bnd, ↓z_jn, z_bdc, z_bd2, z_opn, z_ops, z_z01, z_Bt, z_Bf, z_btl, z_b2l, String.reduceEq]
      · show f_X10_deliveredIfClosed W (zI a) (zI c) (zI n) = _
        unfold f_X10_deliveredIfClosed
        rw [z_l0, z_Qnss h ha hc, if_pos va, z_bd2, if_pos rfl, gt _ (z_Q_th h), z_bdc]
        unfold z_oi
        simp (disch := omega) only [z_lit, z_n, z_add, z_sub, z_mul, z_neg, z_lt1, z_lt0, z_le1, z_le0, z_eq1, z_eq0, z_10, ↓reduceIte, z_v, z_upd, z_ue, z_un, z_ixn, z_ixo, z_ix0, z_ix1, z_ix2, z_ix3, z_ix4, z_ix5, z_ix6, Int.reduceToNat, z_inr, z_gd, ↓z_bnd, ↓z_jn, z_bdc, z_bd2, z_opn, z_ops, z_z01, z_Bt, z_Bf]
        rw [z_Gr1 z_the (by omega), z_thth]
        simp (disch := omega) only [z_lit, z_n, z_add, z_sub, z_mul, z_neg, z_lt1, z_lt0, z_le1, z_le0, z_eq1, z_eq0, z_10, ↓reduceIte, z_v, z_upd, z_ue, z_un, z_ixn, z_ixo, z_ix0, z_ix1, z_ix2, z_ix3, z_ix4, z_ix5, z_ix6, Int.reduceToNat, z_inr, z_gd, ↓z_bnd, ↓z_jn, z_bdc, z_bd2, z_opn, z_ops, z_z01, z_Bt, z_Bf]
    | some k =>
      have kb := z_tkb e c2'
      rw [e] at ct gt
      by_cases v : 0 ≤ n ∧ n ≤ 120
      · obtain ⟨m, rfl⟩ : ∃ m : Nat, n = m := ⟨n.toNat, by omega⟩
        obtain ⟨x, W1, T', k1, k2, k3, k4, k5⟩ := z_clo hB h0 pi hg (T := W 27) (k := k) (n := m) kb.1 (by omega)
        have eq1 : z_EQ W W1 := ⟨fun u h1 _ _ _ _ _ => k2 u h1, fun k _ => by rw [k2 21 (by omega)], fun k _ => by rw [k2 30 (by omega)]⟩
        have Q1 := z_Q_31 (v := zI x) (z_Q_EQ h eq1)
        obtain ⟨V', j1, j2, j3, j4, j5, j6⟩ := k5 (z_th (w2 W1 31 0 (zI x)) 0) (by rw [z_thu (by omega), z_w2u (by omega), k2 21 (by omega)]) (by rw [z_thu (by omega), z_w2u (by omega), k2 27 (by omega)])
        refine ⟨0, zI x, w2 W1 31 0 (zI x), V', ?_, ?_, ?_, by omega, by omega, fun _ => ?_, ?_⟩
        · unfold f_L_deliveredIfClosed f_X9_deliveredIfClosed f_X9_requireTrack
          rw [z_Cst h0 c1' ha, if_pos va.1, z_btr, z_Cst h0 c1' hc, if_pos va.2, z_btr, h0, ct, z_bdc]
          unfold z_oi
          simp (disch := omega) only [z_lit, z_n, z_add, z_sub, z_mul, z_neg, z_lt1, z_lt0, z_le1, z_le0, z_eq1, z_eq0, z_10, ↓reduceIte, z_v, z_upd, z_ue, z_un, z_ixn, z_ixo, z_ix0, z_ix1, z_ix2, z_ix3, z_ix4, z_ix5, z_ix6, Int.reduceToNat, z_inr, z_gd, ↓z_bnd, ↓z_jn, z_bdc, z_bd2, z_opn, z_ops, z_z01, z_Bt, z_Bf]
          rw [z_btr, z_Crg hn (by unfold zR; omega) (by unfold zR; omega), if_pos v, z_btr, k1, z_bd2, z_b2r]
        · show f_X10_deliveredIfClosed (w2 W1 31 0 (zI x)) (zI a) (zI c) (zI m) = _
          unfold f_X10_deliveredIfClosed
          rw [z_l0, z_l120, z_Qnss Q1 ha hc, if_pos va, z_bd2, if_pos rfl, gt _ (z_Q_th Q1), z_bdc]
          unfold z_oi
          simp (disch := omega) only [z_lit, z_n, z_add, z_sub, z_mul, z_neg, z_lt1, z_lt0, z_le1, z_le0, z_eq1, z_eq0, z_10, ↓reduceIte, z_v, z_upd, z_ue, z_un, z_ixn, z_ixo, z_ix0, z_ix1, z_ix2, z_ix3, z_ix4, z_ix5, z_ix6, Int.reduceToNat, z_inr, z_gd, ↓z_bnd, ↓z_jn, z_bdc, z_bd2, z_opn, z_ops, z_z01, z_Bt, z_Bf]
          rw [z_Gr0 z_the, z_bd2, if_pos rfl, z_Go0 hn (by unfold zR; omega) (by unfold zR; omega) z_the v, z_bd2, if_pos rfl, j1, z_bd2]
        · rw [j3]
          exact z_the
        · rw [j4, z_thu (by omega), z_w2e]
        · exact z_EQ_t eq1 (z_EQ_t z_EQ_31 (z_EQ_t z_EQ_th j2))
      · refine ⟨2, zI 0, W, z_th W 2, ?_, ?_, z_the, by omega, by omega, fun q => absurd q (by omega), z_EQ_th⟩
        · unfold f_L_deliveredIfClosed f_X9_deliveredIfClosed f_X9_requireTrack
          rw [z_Cst h0 c1' ha, if_pos va.1, z_btr, z_Cst h0 c1' hc, if_pos va.2, z_btr, h0, ct, z_bdc]
          unfold z_oi
          simp (disch := omega) only [z_lit, z_n, z_add, z_sub, z_mul, z_neg, z_lt1, z_lt0, z_le1, z_le0, z_eq1, z_eq0, z_10, ↓reduceIte, z_v, z_upd, z_ue, z_un, z_ixn, z_ixo, z_ix0, z_ix1, z_ix2, z_ix3, z_ix4, z_ix5, z_ix6, Int.reduceToNat, z_inr, z_gd, ↓z_bnd, ↓z_jn, z_bdc, z_bd2, z_opn, z_ops, z_z01, z_Bt, z_Bf]
          rw [z_btr, z_Crg hn (by unfold zR; omega) (by unfold zR; omega), if_neg v, z_btl, z_b2l]
          simp only [String.reduceEq, if_true, if_false]
        · show f_X10_deliveredIfClosed W (zI a) (zI c) (zI n) = _
          unfold f_X10_deliveredIfClosed
          rw [z_l0, z_l120, z_Qnss h ha hc, if_pos va, z_bd2, if_pos rfl, gt _ (z_Q_th h), z_bdc]
          unfold z_oi
          simp (disch := omega) only [z_lit, z_n, z_add, z_sub, z_mul, z_neg, z_lt1, z_lt0, z_le1, z_le0, z_eq1, z_eq0, z_10, ↓reduceIte, z_v, z_upd, z_ue, z_un, z_ixn, z_ixo, z_ix0, z_ix1, z_ix2, z_ix3, z_ix4, z_ix5, z_ix6, Int.reduceToNat, z_inr, z_gd, ↓z_bnd, ↓z_jn, z_bdc, z_bd2, z_opn, z_ops, z_z01, z_Bt, z_Bf]
          rw [z_Gr0 z_the, z_bd2, if_pos rfl, z_Go1 hn (by unfold zR; omega) (by unfold zR; omega) z_the v, z_thth]
          simp (disch := omega) only [z_lit, z_n, z_add, z_sub, z_mul, z_neg, z_lt1, z_lt0, z_le1, z_le0, z_eq1, z_eq0, z_10, ↓reduceIte, z_v, z_upd, z_ue, z_un, z_ixn, z_ixo, z_ix0, z_ix1, z_ix2, z_ix3, z_ix4, z_ix5, z_ix6, Int.reduceToNat, z_inr, z_gd, ↓z_bnd, ↓z_jn, z_bdc, z_bd2, z_opn, z_ops, z_z01, z_Bt, z_Bf]
  · refine ⟨1, zI 0, W, z_th W 1, ?_, ?_, z_the, by omega, by omega, fun q => absurd q (by omega), z_EQ_th⟩
    · unfold f_L_deliveredIfClosed f_X9_deliveredIfClosed
      rw [z_Cst h0 c1' ha, z_Cst h0 c1' hc]
      by_cases w : 0 ≤ a ∧ a < s 1
      · rw [if_pos w, z_btr, if_neg (fun q => va ⟨w, q⟩), z_btl, z_b2l, if_pos rfl, z_l1]
      · rw [if_neg w, z_btl, z_b2l, if_pos rfl, z_l1]
    · show f_X10_deliveredIfClosed W (zI a) (zI c) (zI n) = _
      unfold f_X10_deliveredIfClosed
      rw [z_l0, z_Qnss h ha hc, if_neg va]
      simp (disch := omega) only [z_lit, z_n, z_add, z_sub, z_mul, z_neg, z_lt1, z_lt0, z_le1, z_le0, z_eq1, z_eq0, z_10, ↓reduceIte, z_v, z_upd, z_ue, z_un, z_ixn, z_ixo, z_ix0, z_ix1, z_ix2, z_ix3, z_ix4, z_ix5, z_ix6, Int.reduceToNat, z_inr, z_gd, ↓z_bnd, ↓z_jn, z_bdc, z_bd2, z_opn, z_ops, z_z01, z_Bt, z_Bf]
theorem z_woc (hB : b ≤ 100000000) (pi : z_PI b s g) : ∀ (d k N : Nat) (W : Nat → Nat → Int32) (T : Nat → Int32) (x y : Int), W 0 = zV s → (∀ k, k < 251 → W 21 k = zI (g k)) → k + d = (s 2).toNat → d < N → (-1 ≤ x ∧ x < 12) → (0 ≤ y ∧ y ≤ 12) → ∃ v W1, l_X9_worstClosure_6 N W (zI x) (zI y) (zI k) = some (zI v, W1) ∧ (∀ u, u ≠ 1 → W1 u = W u) ∧ ∀ M V, d < M → V 21 = W 21 → V 27 = T → ∃ V', l_X10_worstClosure_11 M V (zI x) (zI y) (zI k) = some (zI v, V') ∧ z_EQ V V' := by
  obtain ⟨c0, c1', c2', c3, c4⟩ := pi.1.1
  intro d
  induction d with
  | zero =>
    intro k N W T x y h0 hg hk hN hx hy
    obtain ⟨N, rfl⟩ : ∃ m, N = m + 1 := ⟨N - 1, by omega⟩
    have w2 : W 0 2 = zI (s 2) := by rw [h0]; rfl
    refine ⟨x, W, ?_, fun u _ => rfl, fun M V hM hV1 hV2 => ⟨V, ?_, z_EQ_r⟩⟩
    · rw [l_X9_worstClosure_6, w2]
      simp (disch := omega) only [z_lit, z_n, z_add, z_sub, z_mul, z_neg, z_lt1, z_lt0, z_le1, z_le0, z_eq1, z_eq0, z_10, ↓reduceIte, z_v, z_upd, z_ue, z_un, z_ixn, z_ixo, z_ix0, z_ix1, z_ix2, z_ix3, z_ix4, z_ix5, z_ix6, Int.reduceToNat, z_inr, z_gd, ↓z_bnd, ↓z_jn, z_bdc, z_bd2, z_opn, z_ops, z_z01, z_Bt, z_Bf]
    · obtain ⟨M, rfl⟩ : ∃ m, M = m + 1 := ⟨M - 1, by omega⟩
      have v2 := hg 2 (by omega)
      rw [pi.2.1.1 2 (by omega)] at v2
      rw [l_X10_worstClosure_11, hV1]
      simp (disch := omega) only [z_lit, z_n, z_add, z_sub, z_mul, z_neg, z_lt1, z_lt0, z_le1, z_le0, z_eq1, z_eq0, z_10, ↓reduceIte, z_v, z_upd, z_ue, z_un, z_ixn, z_ixo, z_ix0, z_ix1, z_ix2, z_ix3, z_ix4, z_ix5, z_ix6, Int.reduceToNat, z_inr, z_gd, ↓z_bnd, ↓z_jn, z_bdc, z_bd2, z_opn, z_ops, z_z01, z_Bt, z_Bf, v2]
  | succ d ih =>
    intro k N W T x y h0 hg hk hN hx hy
    obtain ⟨N, rfl⟩ : ∃ m, N = m + 1 := ⟨N - 1, by omega⟩
    have w2 : W 0 2 = zI (s 2) := by rw [h0]; rfl
    have v2 := hg 2 (by omega)
    rw [pi.2.1.1 2 (by omega)] at v2
    obtain ⟨z, W1, T', k1, k2, k3, k4, k5⟩ := z_clo hB h0 pi hg (T := T) (k := k) (n := 60) (by omega) (by omega)
    have k1' : f_X9_countDeliveredWithout W (zI k) (zI 60) = some (zI z, W1) := k1
    have hg1 : ∀ k, k < 251 → W1 21 k = zI (g k) := fun k hk => by rw [k2 21 (by omega)]; exact hg k hk
    have h01 : W1 0 = zV s := by rw [k2 0 (by omega)]; exact h0
    have hk2 : (k : Int) < 12 := by omega
    by_cases c : x = -1 ∨ z < y
    · obtain ⟨v, W2, i1, i2, i3⟩ := ih (k + 1) N W1 T' k z h01 hg1 (by omega) (by omega) (by omega) ⟨k3, k4⟩
      refine ⟨v, W2, ?_, fun u hu => by rw [i2 u hu, k2 u hu], fun M V hM hV1 hV2 => ?_⟩
      · rw [l_X9_worstClosure_6, w2]
        simp (disch := omega) only [z_lit, z_n, z_add, z_sub, z_mul, z_neg, z_lt1, z_lt0, z_le1, z_le0, z_eq1, z_eq0, z_10, ↓reduceIte, z_v, z_upd, z_ue, z_un, z_ixn, z_ixo, z_ix0, z_ix1, z_ix2, z_ix3, z_ix4, z_ix5, z_ix6, Int.reduceToNat, z_inr, z_gd, ↓z_bnd, ↓z_jn, z_bdc, z_bd2, z_opn, z_ops, z_z01, z_Bt, z_Bf, k1']
        by_cases e : x = -1
        · simp (disch := omega) only [z_lit, z_n, z_add, z_sub, z_mul, z_neg, z_lt1, z_lt0, z_le1, z_le0, z_eq1, z_eq0, z_10, ↓reduceIte, z_v, z_upd, z_ue, z_un, z_ixn, z_ixo, z_ix0, z_ix1, z_ix2, z_ix3, z_ix4, z_ix5, z_ix6, Int.reduceToNat, z_inr, z_gd, ↓z_bnd, ↓z_jn, z_bdc, z_bd2, z_opn, z_ops, z_z01, z_Bt, z_Bf, e]
          exact i1
        · simp (disch := omega) only [z_lit, z_n, z_add, z_sub, z_mul, z_neg, z_lt1, z_lt0, z_le1, z_le0, z_eq1, z_eq0, z_10, ↓reduceIte, z_v, z_upd, z_ue, z_un, z_ixn, z_ixo, z_ix0, z_ix1, z_ix2, z_ix3, z_ix4, z_ix5, z_ix6, Int.reduceToNat, z_inr, z_gd, ↓z_bnd, ↓z_jn, z_bdc, z_bd2, z_opn, z_ops, z_z01, z_Bt, z_Bf]
          exact i1
      · obtain ⟨M, rfl⟩ : ∃ m, M = m + 1 := ⟨M - 1, by omega⟩
        obtain ⟨V1, j1, j2, j3, j4, j5, j6⟩ := k5 V hV1 hV2
        obtain ⟨V2, l1, l2⟩ := i3 M V1 (by omega) (by rw [j5, hV1, k2 21 (by omega)]) j6
        refine ⟨V2, ?_, z_EQ_t j2 l2⟩
        have j1' : f_X10_deliveredWithout V (zI k) (zI 60) = some (zI z, V1) := j1
        rw [l_X10_worstClosure_11, hV1]
        simp (disch := omega) only [z_lit, z_n, z_add, z_sub, z_mul, z_neg, z_lt1, z_lt0, z_le1, z_le0, z_eq1, z_eq0, z_10, ↓reduceIte, z_v, z_upd, z_ue, z_un, z_ixn, z_ixo, z_ix0, z_ix1, z_ix2, z_ix3, z_ix4, z_ix5, z_ix6, Int.reduceToNat, z_inr, z_gd, ↓z_bnd, ↓z_jn, z_bdc, z_bd2, z_opn, z_ops, z_z01, z_Bt, z_Bf, v2, j1']
        by_cases e : x = -1
        · simp (disch := omega) only [z_lit, z_n, z_add, z_sub, z_mul, z_neg, z_lt1, z_lt0, z_le1, z_le0, z_eq1, z_eq0, z_10, ↓reduceIte, z_v, z_upd, z_ue, z_un, z_ixn, z_ixo, z_ix0, z_ix1, z_ix2, z_ix3, z_ix4, z_ix5, z_ix6, Int.reduceToNat, z_inr, z_gd, ↓z_bnd, ↓z_jn, z_bdc, z_bd2, z_opn, z_ops, z_z01, z_Bt, z_Bf, e]
          exact l1
        · simp (disch := omega) only [z_lit, z_n, z_add, z_sub, z_mul, z_neg, z_lt1, z_lt0, z_le1, z_le0, z_eq1, z_eq0, z_10, ↓reduceIte, z_v, z_upd, z_ue, z_un, z_ixn, z_ixo, z_ix0, z_ix1, z_ix2, z_ix3, z_ix4, z_ix5, z_ix6, Int.reduceToNat, z_inr, z_gd, ↓z_bnd, ↓z_jn, z_bdc, z_bd2, z_opn, z_ops, z_z01, z_Bt, z_Bf]
          exact l1
    · obtain ⟨v, W2, i1, i2, i3⟩ := ih (k + 1) N W1 T' x y h01 hg1 (by omega) (by omega) hx hy
      refine ⟨v, W2, ?_, fun u hu => by rw [i2 u hu, k2 u hu], fun M V hM hV1 hV2 => ?_⟩
      · rw [l_X9_worstClosure_6, w2]
        simp (disch := omega) only [z_lit, z_n, z_add, z_sub, z_mul, z_neg, z_lt1, z_lt0, z_le1, z_le0, z_eq1, z_eq0, z_10, ↓reduceIte, z_v, z_upd, z_ue, z_un, z_ixn, z_ixo, z_ix0, z_ix1, z_ix2, z_ix3, z_ix4, z_ix5, z_ix6, Int.reduceToNat, z_inr, z_gd, ↓z_bnd, ↓z_jn, z_bdc, z_bd2, z_opn, z_ops, z_z01, z_Bt, z_Bf, k1']
        exact i1
      · obtain ⟨M, rfl⟩ : ∃ m, M = m + 1 := ⟨M - 1, by omega⟩
        obtain ⟨V1, j1, j2, j3, j4, j5, j6⟩ := k5 V hV1 hV2
        obtain ⟨V2, l1, l2⟩ := i3 M V1 (by omega) (by rw [j5, hV1, k2 21 (by omega)]) j6
        refine ⟨V2, ?_, z_EQ_t j2 l2⟩
        have j1' : f_X10_deliveredWithout V (zI k) (zI 60) = some (zI z, V1) := j1
        rw [l_X10_worstClosure_11, hV1]
        simp (disch := omega) only [z_lit, z_n, z_add, z_sub, z_mul, z_neg, z_lt1, z_lt0, z_le1, z_le0, z_eq1, z_eq0, z_10, ↓reduceIte, z_v, z_upd, z_ue, z_un, z_ixn, z_ixo, z_ix0, z_ix1, z_ix2, z_ix3, z_ix4, z_ix5, z_ix6, Int.reduceToNat, z_inr, z_gd, ↓z_bnd, ↓z_jn, z_bdc, z_bd2, z_opn, z_ops, z_z01, z_Bt, z_Bf, v2, j1']
        exact l1
theorem z_m_worstClosure (hB : b ≤ 100000000) (h : z_Q b W s g) : ∃ W', (bd2 (f_X9_worstClosure W) fun v2 W1 => bd2 (f_X10_worstClosure W1) fun v4 W3 => if v2 = v4 then some W3 else none) = some W' ∧ z_EQ W W' := by
  obtain ⟨h0, hg, pi⟩ := id h
  have c2 := pi.1.1.2.2.1
  obtain ⟨v, W1, k1, k2, k3⟩ := z_woc hB pi (s 2).toNat 0 FU W (W 27) (-1) 0 h0 hg (by omega) (by unfold FU; omega) (by omega) (by omega)
  have eq1 : z_EQ W W1 := ⟨fun u h1 _ _ _ _ _ => k2 u h1, fun k _ => by rw [k2 21 (by omega)], fun k _ => by rw [k2 30 (by omega)]⟩
  obtain ⟨V', j1, j2⟩ := k3 FU (z_th W1 0) (by unfold FU; omega) (by rw [z_thu (by omega), k2 21 (by omega)]) (by rw [z_thu (by omega), k2 27 (by omega)])
  refine ⟨V', ?_, z_EQ_t eq1 (z_EQ_t z_EQ_th j2)⟩
  have k1' : l_X9_worstClosure_6 FU W (zI (-1)) (zI 0) (zI 0) = some (zI v, W1) := k1
  have j1' : l_X10_worstClosure_11 FU (z_th W1 0) (zI (-1)) (zI 0) (zI 0) = some (zI v, V') := j1
  unfold f_X9_worstClosure f_X10_worstClosure
  rw [z_l0, show (-1 : Int32) = zI (-1) from rfl, k1', z_bd2, z_bnd]
  show (bd2 (l_X10_worstClosure_11 FU (z_th W1 0) (zI (-1)) (zI 0) (zI 0)) fun v4 W3 => if zI v = v4 then some W3 else none) = _
  rw [j1', z_bd2, if_pos rfl]
end Cls
