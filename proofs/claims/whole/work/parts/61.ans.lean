/-! answers: what the law compares -/
def z_EQ (W W' : Nat → Nat → Int32) : Prop := (∀ u, u ≠ 1 → u ≠ 21 → u ≠ 23 → u ≠ 27 → u ≠ 30 → u ≠ 31 → W' u = W u) ∧ (∀ k, k < 251 → W' 21 k = W 21 k) ∧ (∀ k, k ≠ 2 → W' 30 k = W 30 k)
def z_AG (l : Option (Int32 × (Nat → Nat → Int32))) (m : (Nat → Nat → Int32) → Option (Int32 × (Nat → Nat → Int32))) (P : (Nat → Nat → Int32) → Prop) : Prop := ∃ c v W1 W3, l = some (zI c, W1) ∧ m W1 = some (v, W3) ∧ W3 30 2 = zI c ∧ 0 ≤ c ∧ c ≤ 3 ∧ (c = 0 → W3 31 0 = v) ∧ P W3
section Ans
variable {W W' : Nat → Nat → Int32} {b : Int} {s g : Nat → Int} {P : (Nat → Nat → Int32) → Prop}
theorem z_EQ_r : z_EQ W W := ⟨fun _ _ _ _ _ _ _ => rfl, fun _ _ => rfl, fun _ _ => rfl⟩
theorem z_EQ_t {W'' : Nat → Nat → Int32} (h1 : z_EQ W W') (h2 : z_EQ W' W'') : z_EQ W W'' := ⟨fun u a b c d e f => by rw [h2.1 u a b c d e f, h1.1 u a b c d e f], fun k hk => by rw [h2.2.1 k hk, h1.2.1 k hk], fun k hk => by rw [h2.2.2 k hk, h1.2.2 k hk]⟩
theorem z_EQ_th {c : Int} : z_EQ W (z_th W c) := ⟨fun u _ _ _ _ h _ => z_thu h, fun k _ => by rw [z_thu (by omega)], fun k hk => z_thk hk⟩
theorem z_EQ_31 {v : Int32} : z_EQ W (w2 W 31 0 v) := ⟨fun u _ _ _ _ _ h => z_w2u h, fun k _ => by rw [z_w2u (by omega)], fun k hk => by rw [z_w2u (by omega)]⟩
theorem z_EQ_1 {S : Nat → Int32} : z_EQ W (setU W 1 S) := ⟨fun u h _ _ _ _ _ => z_sUu h, fun k _ => by rw [z_sUu (by omega)], fun k hk => by rw [z_sUu (by omega)]⟩
theorem z_EQ_q23 {S : Nat → Int32} : z_EQ W (setQ W 23 S) := ⟨fun u _ _ h1 h2 _ _ => z_sQx h1 h2, fun k _ => by rw [z_sQx (by omega) (by omega)], fun k hk => by rw [z_sQx (by omega) (by omega)]⟩
theorem z_EQ_q21 {S : Nat → Int32} (h : ∀ k, k < 251 → S k = W 21 k) : z_EQ W (setQ W 21 S) := ⟨fun u _ h1 _ h2 _ _ => z_sQx h1 h2, fun k hk => by rw [z_sQu (by omega), h k hk], fun k hk => by rw [z_sQx (by omega) (by omega)]⟩
theorem z_cmp {x : Int64} : lg_cmp x x = 0 := by
  unfold lg_cmp
  rw [if_neg, if_pos rfl]
  exact Int64.lt_irrefl
theorem z_tail {l : Option (Int32 × (Nat → Nat → Int32))} {m : (Nat → Nat → Int32) → Option (Int32 × (Nat → Nat → Int32))} (h : z_AG l m P) : ∃ W', (bd2 l fun v2 W1 => bd2 (m W1) fun v4 W3 => bdc (f_X10_thrown W3) fun v5 => if v5 = v2 then if v2 = 0 then if lg_cmp (W3 31 0).toInt64 v4.toInt64 = 0 then some W3 else none else some W3 else none) = some W' ∧ P W' := by
  obtain ⟨c, v, W1, W3, rfl, h2, h3, h4, h5, h6, h7⟩ := h
  refine ⟨W3, ?_, h7⟩
  rw [z_bd2, h2, z_bd2]
  unfold f_X10_thrown
  rw [z_bdc, h3, if_pos rfl]
  by_cases c0 : c = 0
  · rw [h6 c0, z_cmp, c0]
    rfl
  · rw [if_neg]
    rw [show (0 : Int32) = zI 0 from z_lit 0, z_eq (by unfold zR; omega) (by unfold zR; omega)]
    exact c0
theorem z_tailb {l : Option (Int32 × (Nat → Nat → Int32))} {m : (Nat → Nat → Int32) → Option (Int32 × (Nat → Nat → Int32))} (h : z_AG l m (fun W3 => P W3)) (hb : ∀ c W1 v W3, l = some (zI c, W1) → m W1 = some (v, W3) → v = zI 0 ∨ v = zI 1) : ∃ W', (bd2 l fun v2 W1 => bd2 (m W1) fun v4 W3 => bdc (f_X10_thrown W3) fun v5 => if v5 = v2 then if v2 = 0 then if v4 = 0 then if lg_cmp (W3 31 0).toInt64 ((0 : Int32)).toInt64 = 0 then some W3 else none else if lg_cmp (W3 31 0).toInt64 ((1 : Int32)).toInt64 = 0 then some W3 else none else some W3 else none) = some W' ∧ P W' := by
  obtain ⟨c, v, W1, W3, rfl, h2, h3, h4, h5, h6, h7⟩ := h
  refine ⟨W3, ?_, h7⟩
  have hv := hb c W1 v W3 rfl h2
  rw [z_bd2, h2, z_bd2]
  unfold f_X10_thrown
  rw [z_bdc, h3, if_pos rfl]
  by_cases c0 : c = 0
  · rw [h6 c0, c0]
    rcases hv with q | q
    · rw [q]
      rfl
    · rw [q]
      rfl
  · rw [if_neg]
    rw [show (0 : Int32) = zI 0 from z_lit 0, z_eq (by unfold zR; omega) (by unfold zR; omega)]
    exact c0
/-- checks of the class -/
theorem z_Ck {a n : Int} {W0 : Int32} (h : W0 = zI n) (hn : 0 ≤ n ∧ n ≤ 12) (ha : zR a) {R : Type} (A B : R) : (if zI a < 0 then A else if zI a < W0 then B else A) = if 0 ≤ a ∧ a < n then B else A := by
  unfold zR at ha
  rw [h, z_l0]
  by_cases c : a < 0
  · rw [z_ltT c (by omega) (by omega), if_neg (by omega)]
  · rw [z_ltF (by omega) (by omega) (by omega)]
    by_cases d : a < n
    · rw [z_ltT d (by omega) (by omega), if_pos (by omega)]
    · rw [z_ltF (by omega) (by omega) (by omega), if_neg (by omega)]
theorem z_Cst (h0 : W 0 = zV s) (hn : 0 ≤ s 1 ∧ s 1 ≤ 8) {a : Int} (ha : zR a) : f_X9_checkStation W (zI a) = if 0 ≤ a ∧ a < s 1 then some (.inr ()) else some (.inl "java/lang/IndexOutOfBoundsException") := by
  unfold f_X9_checkStation
  rw [z_Ck (n := s 1) (by rw [h0]; rfl) (by omega) ha]
theorem z_Ctn (h0 : W 0 = zV s) (hn : 0 ≤ s 3 ∧ s 3 ≤ 4) {a : Int} (ha : zR a) : f_X9_checkTrain W (zI a) = if 0 ≤ a ∧ a < s 3 then some (.inr ()) else some (.inl "java/lang/IndexOutOfBoundsException") := by
  unfold f_X9_checkTrain
  rw [z_Ck (n := s 3) (by rw [h0]; rfl) (by omega) ha]
theorem z_Cpl (h0 : W 0 = zV s) (hn : 0 ≤ s 4 ∧ s 4 ≤ 12) {a : Int} (ha : zR a) : f_X9_checkParcel W (zI a) = if 0 ≤ a ∧ a < s 4 then some (.inr ()) else some (.inl "java/lang/IndexOutOfBoundsException") := by
  unfold f_X9_checkParcel
  rw [z_Ck (n := s 4) (by rw [h0]; rfl) (by omega) ha]
theorem z_Gns (h0 : W 21 1 = zI (s 1)) (hn : 0 ≤ s 1 ∧ s 1 ≤ 8) {a : Int} (ha : zR a) : f_X10_noStation W (zI a) = some (zI (z_out a 0 (s 1 - 1)), z_th W (z_out a 0 (s 1 - 1))) := by
  unfold f_X10_noStation
  simp (disch := omega) only [z_lit, z_n, z_add, z_sub, z_mul, z_neg, z_lt1, z_lt0, z_le1, z_le0, z_eq1, z_eq0, z_10, ↓reduceIte, z_v, z_upd, z_ue, z_un, z_ixn, z_ixo, z_ix0, z_ix1, z_ix2, z_ix3, z_ix4, z_ix5, z_ix6, Int.reduceToNat, z_inr, z_gd, ↓z_bnd, ↓z_jn, z_bdc, z_bd2, z_opn, z_ops, z_z01, z_Bt, z_Bf, h0]
  rw [z_Gnn ha (by unfold zR; omega) (by unfold zR; omega)]
  unfold z_out
  split <;> simp (disch := omega) only [z_lit, z_n, z_add, z_sub, z_mul, z_neg, z_lt1, z_lt0, z_le1, z_le0, z_eq1, z_eq0, z_10, ↓reduceIte, z_v, z_upd, z_ue, z_un, z_ixn, z_ixo, z_ix0, z_ix1, z_ix2, z_ix3, z_ix4, z_ix5, z_ix6, Int.reduceToNat, z_inr, z_gd, ↓z_bnd, ↓z_jn, z_bdc, z_bd2, z_opn, z_ops, z_z01, z_Bt, z_Bf]
theorem z_Gnt (h0 : W 21 3 = zI (s 3)) (hn : 0 ≤ s 3 ∧ s 3 ≤ 4) {a : Int} (ha : zR a) : f_X10_noTrain W (zI a) = some (zI (z_out a 0 (s 3 - 1)), z_th W (z_out a 0 (s 3 - 1))) := by
  unfold f_X10_noTrain
  simp (disch := omega) only [z_lit, z_n, z_add, z_sub, z_mul, z_neg, z_lt1, z_lt0, z_le1, z_le0, z_eq1, z_eq0, z_10, ↓reduceIte, z_v, z_upd, z_ue, z_un, z_ixn, z_ixo, z_ix0, z_ix1, z_ix2, z_ix3, z_ix4, z_ix5, z_ix6, Int.reduceToNat, z_inr, z_gd, ↓z_bnd, ↓z_jn, z_bdc, z_bd2, z_opn, z_ops, z_z01, z_Bt, z_Bf, h0]
  rw [z_Gnn ha (by unfold zR; omega) (by unfold zR; omega)]
  unfold z_out
  split <;> simp (disch := omega) only [z_lit, z_n, z_add, z_sub, z_mul, z_neg, z_lt1, z_lt0, z_le1, z_le0, z_eq1, z_eq0, z_10, ↓reduceIte, z_v, z_upd, z_ue, z_un, z_ixn, z_ixo, z_ix0, z_ix1, z_ix2, z_ix3, z_ix4, z_ix5, z_ix6, Int.reduceToNat, z_inr, z_gd, ↓z_bnd, ↓z_jn, z_bdc, z_bd2, z_opn, z_ops, z_z01, z_Bt, z_Bf]
theorem z_Gnp (h0 : W 21 4 = zI (s 4)) (hn : 0 ≤ s 4 ∧ s 4 ≤ 12) {a : Int} (ha : zR a) : f_X10_noParcel W (zI a) = some (zI (z_out a 0 (s 4 - 1)), z_th W (z_out a 0 (s 4 - 1))) := by
  unfold f_X10_noParcel
  simp (disch := omega) only [z_lit, z_n, z_add, z_sub, z_mul, z_neg, z_lt1, z_lt0, z_le1, z_le0, z_eq1, z_eq0, z_10, ↓reduceIte, z_v, z_upd, z_ue, z_un, z_ixn, z_ixo, z_ix0, z_ix1, z_ix2, z_ix3, z_ix4, z_ix5, z_ix6, Int.reduceToNat, z_inr, z_gd, ↓z_bnd, ↓z_jn, z_bdc, z_bd2, z_opn, z_ops, z_z01, z_Bt, z_Bf, h0]
  rw [z_Gnn ha (by unfold zR; omega) (by unfold zR; omega)]
  unfold z_out
  split <;> simp (disch := omega) only [z_lit, z_n, z_add, z_sub, z_mul, z_neg, z_lt1, z_lt0, z_le1, z_le0, z_eq1, z_eq0, z_10, ↓reduceIte, z_v, z_upd, z_ue, z_un, z_ixn, z_ixo, z_ix0, z_ix1, z_ix2, z_ix3, z_ix4, z_ix5, z_ix6, Int.reduceToNat, z_inr, z_gd, ↓z_bnd, ↓z_jn, z_bdc, z_bd2, z_opn, z_ops, z_z01, z_Bt, z_Bf]
/-- what every query has at hand -/
def z_Q (b : Int) (W : Nat → Nat → Int32) (s g : Nat → Int) : Prop := W 0 = zV s ∧ (∀ k, k < 251 → W 21 k = zI (g k)) ∧ z_PI b s g
theorem z_Q_of (h : z_pr b (W 0) (W 21)) : ∃ s g, z_Q b W s g := h
theorem z_Q_31 {v : Int32} (h : z_Q b W s g) : z_Q b (w2 W 31 0 v) s g := ⟨by rw [z_w2u (by omega)]; exact h.1, fun k hk => by rw [z_w2u (by omega)]; exact h.2.1 k hk, h.2.2⟩
theorem z_Q_th {c : Int} (h : z_Q b W s g) : z_Q b (z_th W c) s g := ⟨by rw [z_thu (by omega)]; exact h.1, fun k hk => by rw [z_thu (by omega)]; exact h.2.1 k hk, h.2.2⟩
theorem z_Q_EQ (h : z_Q b W s g) (e : z_EQ W W') : z_Q b W' s g := ⟨by rw [e.1 0 (by omega) (by omega) (by omega) (by omega) (by omega) (by omega)]; exact h.1, fun k hk => by rw [e.2.1 k hk]; exact h.2.1 k hk, h.2.2⟩
theorem z_Q_pk (h : z_Q b W s g) : ∃ g', pk (W 21) (W 27) = zV g' ∧ (∀ k, k < 251 → g' k = g k) ∧ z_rel s g' := by
  obtain ⟨g', e1, e2⟩ := z_pkv (T := W 27) h.2.1
  exact ⟨g', e1, e2, z_rel_c h.2.2.1 h.2.2.2.1 e2⟩
end Ans
