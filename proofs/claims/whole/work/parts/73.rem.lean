/-! the relation of all units, and what is remembered -/
def z_rh (b : Int) (W : Nat → Nat → Int32) : Prop := ∃ n c st : Int, W 17 0 = zI n ∧ W 17 1 = zI c ∧ W 30 0 = zI c ∧ W 30 1 = zI st ∧ (0 ≤ c ∧ c ≤ 8) ∧ (0 ≤ st ∧ st < 8) ∧ n = (st + c) % 8 ∧ ∀ j : Nat, j < 8 → (∃ m : Int, 0 ≤ m ∧ m < c ∧ (st + m) % 8 = j) → z_pr b (W (3 + j)) (fun k => W 24 (251 * j + k))
def z_rl (b : Int) (W : Nat → Nat → Int32) : Prop := ∀ i : Nat, i < 2 → (W 20 i = zI 0 ∧ W 26 i = zI 0) ∨ (W 20 i = zI 1 ∧ W 26 i = zI 1 ∧ z_pr b (W (11 + i)) (fun k => W 25 (251 * i + k)))
def z_rt (W : Nat → Nat → Int32) : Prop := ∃ n : Int, W 15 0 = zI n ∧ W 30 3 = zI n ∧ (0 ≤ n ∧ n ≤ 600) ∧ ∀ k, k < 600 → W 16 k &&& 255 = W 28 k
def z_ree (W : Nat → Nat → Int32) : Prop := W 13 0 = W 30 9 ∧ W 13 1 = W 30 10
def z_ro (W : Nat → Nat → Int32) : Prop := ∃ n : Int, W 18 0 = zI n ∧ W 30 11 = zI n ∧ (0 ≤ n ∧ n ≤ 71) ∧ ∀ k : Nat, (k : Int) < n → W 19 k = W 29 k
def z_rpp (W : Nat → Nat → Int32) : Prop := ∃ f, W 2 = zV f ∧ z_bos f
def z_RW (b : Int) (W : Nat → Nat → Int32) : Prop := z_pr b (W 0) (W 21) ∧ z_rh b W ∧ z_rl b W ∧ z_rt W ∧ z_ree W ∧ z_ro W ∧ z_rpp W
section Rem
variable {W W' V V' : Nat → Nat → Int32} {b c : Int} {s s' g g' : Nat → Int}
theorem z_pr_le {S G : Nat → Int32} (h : z_pr b S G) (hc : b ≤ c) : z_pr c S G := by
  obtain ⟨s, g, h1, h2, h3⟩ := h
  exact ⟨s, g, h1, h2, z_PI_le h3 hc⟩
theorem z_rh_le (h : z_rh b W) (hc : b ≤ c) : z_rh c W := by
  obtain ⟨n, m, st, a1, a2, a3, a4, a5, a6, a7, a8⟩ := h
  exact ⟨n, m, st, a1, a2, a3, a4, a5, a6, a7, fun j hj hm => z_pr_le (a8 j hj hm) hc⟩
theorem z_rl_le (h : z_rl b W) (hc : b ≤ c) : z_rl c W := fun i hi => by
  rcases h i hi with q | ⟨q1, q2, q3⟩
  · exact Or.inl q
  · exact Or.inr ⟨q1, q2, z_pr_le q3 hc⟩
theorem z_RW_le (h : z_RW b W) (hc : b ≤ c) : z_RW c W := ⟨z_pr_le h.1 hc, z_rh_le h.2.1 hc, z_rl_le h.2.2.1 hc, h.2.2.2⟩
/-- what a change of the state leaves alone -/
def z_UN (W W' : Nat → Nat → Int32) : Prop := (∀ u, u = 2 ∨ u = 11 ∨ u = 12 ∨ u = 13 ∨ u = 15 ∨ u = 16 ∨ u = 18 ∨ u = 19 ∨ u = 20 ∨ u = 25 ∨ u = 26 ∨ u = 28 ∨ u = 29 → W' u = W u) ∧ (∀ k, 3 ≤ k → W' 30 k = W 30 k)
theorem z_UN_rl (e : z_UN W W') (h : z_rl b W) : z_rl b W' := fun i hi => by
  have q := h i hi
  rw [e.1 20 (by omega), e.1 26 (by omega), e.1 25 (by omega), e.1 (11 + i) (by omega)]
  exact q
theorem z_UN_rt (e : z_UN W W') (h : z_rt W) : z_rt W' := by
  obtain ⟨n, h1, h2, h3, h4⟩ := h
  exact ⟨n, by rw [e.1 15 (by omega)]; exact h1, by rw [e.2 3 (by omega)]; exact h2, h3, fun k hk => by rw [e.1 16 (by omega), e.1 28 (by omega)]; exact h4 k hk⟩
theorem z_UN_re (e : z_UN W W') (h : z_ree W) : z_ree W' := ⟨by rw [e.1 13 (by omega), e.2 9 (by omega)]; exact h.1, by rw [e.1 13 (by omega), e.2 10 (by omega)]; exact h.2⟩
theorem z_UN_ro (e : z_UN W W') (h : z_ro W) : z_ro W' := by
  obtain ⟨n, h1, h2, h3, h4⟩ := h
  exact ⟨n, by rw [e.1 18 (by omega)]; exact h1, by rw [e.2 11 (by omega)]; exact h2, h3, fun k hk => by rw [e.1 19 (by omega), e.1 29 (by omega)]; exact h4 k hk⟩
theorem z_UN_rp (e : z_UN W W') (h : z_rpp W) : z_rpp W' := by
  obtain ⟨f, h1, h2⟩ := h
  exact ⟨f, by rw [e.1 2 (by omega)]; exact h1, h2⟩
theorem z_RW_EQ (h : z_RW b W) (e : z_EQ W W') : z_RW b W' := by
  obtain ⟨h1, h2, h3, h4, h5, h6, h7⟩ := h
  have u : z_UN W W' := ⟨fun v hv => e.1 v (by omega) (by omega) (by omega) (by omega) (by omega) (by omega), fun k hk => e.2.2 k (by omega)⟩
  refine ⟨?_, ?_, z_UN_rl u h3, z_UN_rt u h4, z_UN_re u h5, z_UN_ro u h6, z_UN_rp u h7⟩
  · obtain ⟨s, g, a1, a2, a3⟩ := h1
    exact ⟨s, g, by rw [e.1 0 (by omega) (by omega) (by omega) (by omega) (by omega) (by omega)]; exact a1, fun k hk => by rw [e.2.1 k hk]; exact a2 k hk, a3⟩
  · obtain ⟨n, m, st, a1, a2, a3, a4, a5, a6, a7, a8⟩ := h2
    refine ⟨n, m, st, ?_, ?_, by rw [e.2.2 0 (by omega)]; exact a3, by rw [e.2.2 1 (by omega)]; exact a4, a5, a6, a7, fun j hj hm => ?_⟩
    · rw [e.1 17 (by omega) (by omega) (by omega) (by omega) (by omega) (by omega)]; exact a1
    · rw [e.1 17 (by omega) (by omega) (by omega) (by omega) (by omega) (by omega)]; exact a2
    · have q := a8 j hj hm
      rw [e.1 24 (by omega) (by omega) (by omega) (by omega) (by omega) (by omega), e.1 (3 + j) (by omega) (by omega) (by omega) (by omega) (by omega) (by omega)]
      exact q
theorem z_div {x y : Int} (hx : 0 ≤ x ∧ x < 2147483648) (hy : 0 < y ∧ y < 2147483648) : zI x / zI y = zI (x / y) := by
  apply Int32.toInt_inj.mp
  have e1 := z_toInt (z := x) (by unfold zR; omega)
  have e2 := z_toInt (z := y) (by unfold zR; omega)
  have le : x / y ≤ x := Int.ediv_le_self _ hx.1
  have ge : 0 ≤ x / y := Int.ediv_nonneg hx.1 (by omega)
  rw [z_toInt (by unfold zR; omega)]
  rw [Int32.toInt_div_of_ne_left, e1, e2, Int.tdiv_eq_ediv_of_nonneg hx.1]
  intro q
  have := congrArg Int32.toInt q
  rw [e1] at this
  rw [show Int32.minValue.toInt = -2147483648 from rfl] at this
  omega
/-- the class remembers the state -/
theorem z_Crem (h0 : W 0 = zV s) (pi : z_PI b s g) {n c : Int} (h1 : W 17 0 = zI n) (h2 : W 17 1 = zI c) (hn : 0 ≤ n ∧ n < 8) (hc : 0 ≤ c ∧ c ≤ 8) : ∃ W1 h, f_X0_remember W = some W1 ∧ W1 (3 + n.toNat) = zV h ∧ (∀ k, k < 315 → h k = s k) ∧ W1 17 0 = zI ((n + 1) % 8) ∧ W1 17 1 = zI (if c = 8 then 8 else c + 1) ∧ (∀ u, u ≠ 3 + n.toNat → u ≠ 17 → W1 u = W u) := by
  obtain ⟨m, rfl⟩ : ∃ m : Nat, n = m := ⟨n.toNat, by omega⟩
  rw [Int.toNat_natCast]
  obtain ⟨h, k1, k2, k3⟩ := z_copy (W (3 + m)) pi
  refine ⟨w2 (w2 (setU W (3 + m) (zV h)) 17 0 (zI (((m : Int) + 1) % 8))) 17 1 (zI (if c = 8 then 8 else c + 1)), h, ?_, ?_, k3, ?_, z_w2e, fun u u1 u2 => ?_⟩
  · unfold f_X0_remember
    rw [h1, h0]
    simp (disch := omega) only [z_lit, z_n, z_add, z_sub, z_mul, z_neg, z_lt1, z_lt0, z_le1, z_le0, z_eq1, z_eq0, z_10, ↓reduceIte, z_v, z_upd, z_ue, z_un, z_ixn, z_ixo, z_ix0, z_ix1, z_ix2, z_ix3, z_ix4, z_ix5, z_ix6, Int.reduceToNat, z_inr, z_gd, ↓z_bnd, ↓z_jn, z_bdc, z_bd2, z_opn, z_ops, z_z01, z_Bt, z_Bf, k1, z_sUu, h1]
    by_cases e : (m : Int) = 7
    · rw [show ((m : Int) + 1) % 8 = 0 by omega]
      by_cases f : c = 8
      · rw [if_pos f]
        simp (disch := omega) only [z_lit, z_n, z_add, z_sub, z_mul, z_neg, z_lt1, z_lt0, z_le1, z_le0, z_eq1, z_eq0, z_10, ↓reduceIte, z_v, z_upd, z_ue, z_un, z_ixn, z_ixo, z_ix0, z_ix1, z_ix2, z_ix3, z_ix4, z_ix5, z_ix6, Int.reduceToNat, z_inr, z_gd, ↓z_bnd, ↓z_jn, z_bdc, z_bd2, z_opn, z_ops, z_z01, z_Bt, z_Bf, z_w2k, z_sUu, h2]
      · rw [if_neg f]
        simp (disch := omega) only [z_lit, z_n, z_add, z_sub, z_mul, z_neg, z_lt1, z_lt0, z_le1, z_le0, z_eq1, z_eq0, z_10, ↓reduceIte, z_v, z_upd, z_ue, z_un, z_ixn, z_ixo, z_ix0, z_ix1, z_ix2, z_ix3, z_ix4, z_ix5, z_ix6, Int.reduceToNat, z_inr, z_gd, ↓z_bnd, ↓z_jn, z_bdc, z_bd2, z_opn, z_ops, z_z01, z_Bt, z_Bf, z_w2k, z_sUu, h2]
    · rw [show ((m : Int) + 1) % 8 = m + 1 by omega]
      by_cases f : c = 8
      · rw [if_pos f]
        simp (disch := omega) only [z_lit, z_n, z_add, z_sub, z_mul, z_neg, z_lt1, z_lt0, z_le1, z_le0, z_eq1, z_eq0, z_10, ↓reduceIte, z_v, z_upd, z_ue, z_un, z_ixn, z_ixo, z_ix0, z_ix1, z_ix2, z_ix3, z_ix4, z_ix5, z_ix6, Int.reduceToNat, z_inr, z_gd, ↓z_bnd, ↓z_jn, z_bdc, z_bd2, z_opn, z_ops, z_z01, z_Bt, z_Bf, z_w2k, z_sUu, h2]
      · rw [if_neg f]
        simp (disch := omega) only [z_lit, z_n, z_add, z_sub, z_mul, z_neg, z_lt1, z_lt0, z_le1, z_le0, z_eq1, z_eq0, z_10, ↓reduceIte, z_v, z_upd, z_ue, z_un, z_ixn, z_ixo, z_ix0, z_ix1, z_ix2, z_ix3, z_ix4, z_ix5, z_ix6, Int.reduceToNat, z_inr, z_gd, ↓z_bnd, ↓z_jn, z_bdc, z_bd2, z_opn, z_ops, z_z01, z_Bt, z_Bf, z_w2k, z_sUu, h2]
  · rw [z_w2u (by omega), z_w2u (by omega), z_sUe]
  · rw [z_w2k (by omega), z_w2e]
  · rw [z_w2u u2, z_w2u u2, z_sUu u1]
/-- the reference remembers its row -/
theorem z_Grem {st c : Int} (h0 : W 30 0 = zI c) (h1 : W 30 1 = zI st) (hc : 0 ≤ c ∧ c ≤ 8) (hs : 0 ≤ st ∧ st < 8) : ∃ V, f_X10_remember W = some V ∧ V 30 0 = zI (if c = 8 then 8 else c + 1) ∧ V 30 1 = zI (if c = 8 then (st + 1) % 8 else st) ∧ (∀ k, k ≠ 0 → k ≠ 1 → V 30 k = W 30 k) ∧ (∀ u, u ≠ 24 → u ≠ 30 → V u = W u) ∧ (∀ j k, k < 251 → j < 8 → V 24 (251 * j + k) = if (j : Int) = (st + c) % 8 then W 21 k else W 24 (251 * j + k)) := by
  obtain ⟨i, hi⟩ : ∃ i : Nat, (st + c) % 8 = i := ⟨((st + c) % 8).toNat, by omega⟩
  have row : ∀ U : Nat → Nat → Int32, f_X10_copyRow U 21 (zI 0) 24 (zI (251 * (i : Int))) = some (setU U 24 (z_rw (U 24) (U 21) 0 (251 * i) 251)) := fun U => z_crow (W := U) (u := 21) (v := 24) (a := 0) (c := 251 * i) (by omega) (by rw [z_LN21]; omega) (by rw [z_LN24]; omega)
  have rw24 : ∀ (A B : Nat → Int32) (j k : Nat), k < 251 → j < 8 → z_rw A B 0 (251 * i) 251 (251 * j + k) = if (j : Int) = (st + c) % 8 then B k else A (251 * j + k) := fun A B j k hk hj => by
    unfold z_rw
    by_cases q : (j : Int) = (st + c) % 8
    · rw [if_pos q, if_pos (by omega), show 0 + (251 * j + k - 251 * i) = k by omega]
    · rw [if_neg q, if_neg (by omega)]
  unfold f_X10_remember
  by_cases e : c = 8
  · subst e
    have d1 : zI (st + 1) / zI 8 = zI ((st + 1) / 8) := z_div (by omega) (by omega)
    have d2 : zI ((st + 1) % 8 + 7) / zI 8 = zI (((st + 1) % 8 + 7) / 8) := z_div (by omega) (by omega)
    refine ⟨w2 (setU (w2 (w2 W 30 1 (zI ((st + 1) % 8))) 30 0 (zI 7)) 24 (z_rw (W 24) (W 21) 0 (251 * i) 251)) 30 0 (zI 8), ?_, ?_, ?_, fun k k0 k1 => ?_, fun u u1 u2 => ?_, fun j k hk hj => ?_⟩
    · simp (disch := omega) only [z_lit, z_n, z_add, z_sub, z_mul, z_neg, z_lt1, z_lt0, z_le1, z_le0, z_eq1, z_eq0, z_10, ↓reduceIte, z_v, z_upd, z_ue, z_un, z_ixn, z_ixo, z_ix0, z_ix1, z_ix2, z_ix3, z_ix4, z_ix5, z_ix6, Int.reduceToNat, z_inr, z_gd, ↓z_bnd, ↓z_jn, z_bdc, z_bd2, z_opn, z_ops, z_z01, z_Bt, z_Bf, h0, h1, d1, z_w2k, z_w2e, z_w2u]
      rw [show st + 1 - (st + 1) / 8 * 8 = (st + 1) % 8 by omega]
      rw [show (8 : Int) - 1 = 7 from rfl, d2]
      simp (disch := omega) only [z_lit, z_n, z_add, z_sub, z_mul, z_neg, z_lt1, z_lt0, z_le1, z_le0, z_eq1, z_eq0, z_10, ↓reduceIte, z_v, z_upd, z_ue, z_un, z_ixn, z_ixo, z_ix0, z_ix1, z_ix2, z_ix3, z_ix4, z_ix5, z_ix6, Int.reduceToNat, z_inr, z_gd, ↓z_bnd, ↓z_jn, z_bdc, z_bd2, z_opn, z_ops, z_z01, z_Bt, z_Bf]
      rw [show 251 * ((st + 1) % 8 + 7 - ((st + 1) % 8 + 7) / 8 * 8) = 251 * (i : Int) by omega, row, z_bdc, z_sUu (by omega), z_w2e, z_w2u (by omega), z_w2u (by omega), z_w2u (by omega), z_w2u (by omega), z_add]
      rfl
    · rw [z_w2e]; rfl
    · rw [z_w2k (by omega), z_sUu (by omega), z_w2k (by omega), z_w2e]; rfl
    · rw [z_w2k k0, z_sUu (by omega), z_w2k k0, z_w2k k1]
    · rw [z_w2u u2, z_sUu u1, z_w2u u2, z_w2u u2]
    · rw [z_w2u (by omega), z_sUe, rw24 _ _ j k hk hj]
  · have d2 : zI (st + c) / zI 8 = zI ((st + c) / 8) := z_div (by omega) (by omega)
    refine ⟨w2 (setU W 24 (z_rw (W 24) (W 21) 0 (251 * i) 251)) 30 0 (zI (c + 1)), ?_, ?_, ?_, fun k k0 k1 => ?_, fun u u1 u2 => ?_, fun j k hk hj => ?_⟩
    · simp (disch := omega) only [z_lit, z_n, z_add, z_sub, z_mul, z_neg, z_lt1, z_lt0, z_le1, z_le0, z_eq1, z_eq0, z_10, ↓reduceIte, z_v, z_upd, z_ue, z_un, z_ixn, z_ixo, z_ix0, z_ix1, z_ix2, z_ix3, z_ix4, z_ix5, z_ix6, Int.reduceToNat, z_inr, z_gd, ↓z_bnd, ↓z_jn, z_bdc, z_bd2, z_opn, z_ops, z_z01, z_Bt, z_Bf, h0, h1, d2]
      rw [show 251 * (st + c - (st + c) / 8 * 8) = 251 * (i : Int) by omega, row, z_bdc, z_sUu (by omega), h0, z_add]
    · rw [if_neg e, z_w2e]
    · rw [if_neg e, z_w2k (by omega), z_sUu (by omega)]; exact h1
    · rw [z_w2k k0, z_sUu (by omega)]
    · rw [z_w2u u2, z_sUu u1]
    · rw [z_w2u (by omega), z_sUe, rw24 _ _ j k hk hj]
end Rem
