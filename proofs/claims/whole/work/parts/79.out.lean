/-! what is written -/
def z_ch (x : Int) : Int32 := nb ((zI x).toInt8.toInt32)
def z_A (n : Nat) (W : Nat → Nat → Int32) (xs : List Int32) (W' : Nat → Nat → Int32) : Prop := (∀ u, u ≠ 18 → u ≠ 19 → W' u = W u) ∧ W' 18 0 = zI ((n + xs.length : Nat) : Int) ∧ (∀ k, k < n → W' 19 k = W 19 k) ∧ ∀ j (h : j < xs.length), W' 19 (n + j) = xs[j]
def z_AB (n : Nat) (W : Nat → Nat → Int32) (xs : List Int32) (W' : Nat → Nat → Int32) : Prop := (∀ u, u ≠ 29 → u ≠ 30 → W' u = W u) ∧ (∀ k, k ≠ 11 → W' 30 k = W 30 k) ∧ W' 30 11 = zI ((n + xs.length : Nat) : Int) ∧ (∀ k, k < n → W' 29 k = W 29 k) ∧ ∀ j (h : j < xs.length), W' 29 (n + j) = xs[j]
section Out
variable {W W' W'' : Nat → Nat → Int32} {b : Int} {s g : Nat → Int} {n : Nat} {xs ys : List Int32}
theorem z_A_t (h1 : z_A n W xs W') (h2 : z_A (n + xs.length) W' ys W'') : z_A n W (xs ++ ys) W'' := by
  obtain ⟨a1, a2, a3, a4⟩ := h1
  obtain ⟨b1, b2, b3, b4⟩ := h2
  refine ⟨fun u p q => by rw [b1 u p q, a1 u p q], ?_, fun k hk => by rw [b3 k (by omega), a3 k hk], fun j hj => ?_⟩
  · rw [b2, List.length_append, Nat.add_assoc]
  · rw [List.getElem_append]
    split
    · next c => rw [b3 (n + j) (by omega), a4 j c]
    · next c =>
      have := b4 (j - xs.length) (by rw [List.length_append] at hj; omega)
      rw [← this]
      congr 1
      omega
theorem z_AB_t (h1 : z_AB n W xs W') (h2 : z_AB (n + xs.length) W' ys W'') : z_AB n W (xs ++ ys) W'' := by
  obtain ⟨a1, a0, a2, a3, a4⟩ := h1
  obtain ⟨b1, b0, b2, b3, b4⟩ := h2
  refine ⟨fun u p q => by rw [b1 u p q, a1 u p q], fun k hk => by rw [b0 k hk, a0 k hk], ?_, fun k hk => by rw [b3 k (by omega), a3 k hk], fun j hj => ?_⟩
  · rw [b2, List.length_append, Nat.add_assoc]
  · rw [List.getElem_append]
    split
    · next c => rw [b3 (n + j) (by omega), a4 j c]
    · next c =>
      have := b4 (j - xs.length) (by rw [List.length_append] at hj; omega)
      rw [← this]
      congr 1
      omega
theorem z_A_n (h : W 18 0 = zI n) : z_A n W [] W := ⟨fun _ _ _ => rfl, h, fun _ _ => rfl, fun j hj => absurd hj (Nat.not_lt_zero _)⟩
theorem z_AB_n (h : W 30 11 = zI n) : z_AB n W [] W := ⟨fun _ _ _ => rfl, fun _ _ => rfl, h, fun _ _ => rfl, fun j hj => absurd hj (Nat.not_lt_zero _)⟩
theorem z_put {x : Int} (h : W 18 0 = zI n) (hn : n < 71) : ∃ W', f_X1_put W (zI x) = some W' ∧ z_A n W [z_ch x] W' := by
  have e : f_X1_put W (zI x) = some (w2 (w2 W 19 n (z_ch x)) 18 0 (zI ((n : Int) + 1))) := by
    unfold f_X1_put
    rw [h]
    simp (disch := omega) only [z_lit, z_n, z_add, z_sub, z_mul, z_neg, z_lt1, z_lt0, z_le1, z_le0, z_eq1, z_eq0, z_10, ↓reduceIte, z_v, z_upd, z_ue, z_un, z_ixn, z_ixo, z_ix0, z_ix1, z_ix2, z_ix3, z_ix4, z_ix5, z_ix6, Int.reduceToNat, z_inr, z_gd, ↓z_bnd, ↓z_jn, z_bdc, z_bd2, z_opn, z_ops, z_z01, z_Bt, z_Bf]
    rw [z_w2u (by omega), h]
    simp (disch := omega) only [z_lit, z_n, z_add, z_sub, z_mul, z_neg, z_lt1, z_lt0, z_le1, z_le0, z_eq1, z_eq0, z_10, ↓reduceIte, z_v, z_upd, z_ue, z_un, z_ixn, z_ixo, z_ix0, z_ix1, z_ix2, z_ix3, z_ix4, z_ix5, z_ix6, Int.reduceToNat, z_inr, z_gd, ↓z_bnd, ↓z_jn, z_bdc, z_bd2, z_opn, z_ops, z_z01, z_Bt, z_Bf]
    rfl
  refine ⟨_, e, fun u p q => ?_, ?_, fun k hk => ?_, fun j hj => ?_⟩
  · rw [z_w2u p, z_w2u q]
  · rw [z_w2e]
    rfl
  · rw [z_w2u (by omega), z_w2k (by omega)]
  · rw [List.length_singleton] at hj
    obtain rfl : j = 0 := by omega
    rw [z_w2u (by omega)]
    exact z_w2e
theorem z_prt {x : Int} (h : W 30 11 = zI n) (hn : n < 200) : ∃ W', f_X10_print W (zI x) = some W' ∧ z_AB n W [z_ch x] W' := by
  have e : f_X10_print W (zI x) = some (w2 (w2 W 29 n (z_ch x)) 30 11 (zI ((n : Int) + 1))) := by
    unfold f_X10_print
    rw [h]
    simp (disch := omega) only [z_lit, z_n, z_add, z_sub, z_mul, z_neg, z_lt1, z_lt0, z_le1, z_le0, z_eq1, z_eq0, z_10, ↓reduceIte, z_v, z_upd, z_ue, z_un, z_ixn, z_ixo, z_ix0, z_ix1, z_ix2, z_ix3, z_ix4, z_ix5, z_ix6, Int.reduceToNat, z_inr, z_gd, ↓z_bnd, ↓z_jn, z_bdc, z_bd2, z_opn, z_ops, z_z01, z_Bt, z_Bf]
    rw [z_w2u (by omega), h]
    simp (disch := omega) only [z_lit, z_n, z_add, z_sub, z_mul, z_neg, z_lt1, z_lt0, z_le1, z_le0, z_eq1, z_eq0, z_10, ↓reduceIte, z_v, z_upd, z_ue, z_un, z_ixn, z_ixo, z_ix0, z_ix1, z_ix2, z_ix3, z_ix4, z_ix5, z_ix6, Int.reduceToNat, z_inr, z_gd, ↓z_bnd, ↓z_jn, z_bdc, z_bd2, z_opn, z_ops, z_z01, z_Bt, z_Bf]
    rfl
  refine ⟨_, e, fun u p q => ?_, fun k hk => ?_, ?_, fun k hk => ?_, fun j hj => ?_⟩
  · rw [z_w2u q, z_w2u p]
  · rw [z_w2k hk, z_w2u (by omega)]
  · rw [z_w2e]
    rfl
  · rw [z_w2u (by omega), z_w2k (by omega)]
  · rw [List.length_singleton] at hj
    obtain rfl : j = 0 := by omega
    rw [z_w2u (by omega)]
    exact z_w2e
def z_b1 (y : Int) : List Int32 := if y = 0 then [] else [z_ch y]
theorem z_b1_l {y : Int} : (z_b1 y).length ≤ 1 := by
  unfold z_b1
  split <;> simp
theorem z_pn1 {x : Int} (hx : 0 ≤ x ∧ x < 2147483648) {N k : Nat} (hk : k = 0 ∨ k = 8 ∨ k = 16 ∨ k = 24) (h : W 18 0 = zI n) (hn : n < 71) : ∃ W', l_X1_putName_3 (zI x) (N + 1) W (zI (k : Int)) = l_X1_putName_3 (zI x) N W' (zI ((k : Int) - 8)) ∧ z_A n W (z_b1 (x / 2 ^ k % 256)) W' := by
  obtain ⟨W', e, a⟩ := z_put (x := x / 2 ^ k % 256) h hn
  rw [l_X1_putName_3]
  unfold z_b1
  have hb : 0 ≤ x / 2 ^ k % 256 ∧ x / 2 ^ k % 256 < 256 := ⟨Int.emod_nonneg _ (by omega), Int.emod_lt_of_pos _ (by omega)⟩
  rw [show (255 : Int32) = zI 255 from z_lit 255, z_ush hx hk]
  generalize x / 2 ^ k % 256 = y at *
  by_cases c : y = 0
  · refine ⟨W, ?_, by rw [if_pos c]; exact z_A_n h⟩
    simp (disch := omega) only [z_lit, z_n, z_add, z_sub, z_mul, z_neg, z_lt1, z_lt0, z_le1, z_le0, z_eq1, z_eq0, z_10, ↓reduceIte, z_v, z_upd, z_ue, z_un, z_ixn, z_ixo, z_ix0, z_ix1, z_ix2, z_ix3, z_ix4, z_ix5, z_ix6, Int.reduceToNat, z_inr, z_gd, ↓z_bnd, ↓z_jn, z_bdc, z_bd2, z_opn, z_ops, z_z01, z_Bt, z_Bf]
    rfl
  · refine ⟨W', ?_, by rw [if_neg c]; exact a⟩
    simp (disch := omega) only [z_lit, z_n, z_add, z_sub, z_mul, z_neg, z_lt1, z_lt0, z_le1, z_le0, z_eq1, z_eq0, z_10, ↓reduceIte, z_v, z_upd, z_ue, z_un, z_ixn, z_ixo, z_ix0, z_ix1, z_ix2, z_ix3, z_ix4, z_ix5, z_ix6, Int.reduceToNat, z_inr, z_gd, ↓z_bnd, ↓z_jn, z_bdc, z_bd2, z_opn, z_ops, z_z01, z_Bt, z_Bf, e]
    rfl
theorem z_pnm {x : Int} (hx : 0 ≤ x ∧ x < 2147483648) (h : W 18 0 = zI n) (hn : n < 68) : ∃ W', f_X1_putName W (zI x) = some W' ∧ z_A n W (z_b1 (x / 2 ^ 24 % 256) ++ (z_b1 (x / 2 ^ 16 % 256) ++ (z_b1 (x / 2 ^ 8 % 256) ++ z_b1 (x / 2 ^ 0 % 256)))) W' := by
  unfold f_X1_putName FU
  obtain ⟨W1, e1, a1⟩ := z_pn1 (x := x) hx (N := 4095) (k := 24) (by omega) h (by omega)
  have l1 := z_b1_l (y := x / 2 ^ 24 % 256)
  obtain ⟨W2, e2, a2⟩ := z_pn1 (x := x) hx (N := 4094) (k := 16) (by omega) a1.2.1 (by omega)
  have l2 := z_b1_l (y := x / 2 ^ 16 % 256)
  obtain ⟨W3, e3, a3⟩ := z_pn1 (x := x) hx (N := 4093) (k := 8) (by omega) a2.2.1 (by omega)
  have l3 := z_b1_l (y := x / 2 ^ 8 % 256)
  obtain ⟨W4, e4, a4⟩ := z_pn1 (x := x) hx (N := 4092) (k := 0) (by omega) a3.2.1 (by omega)
  refine ⟨W4, ?_, z_A_t a1 (z_A_t a2 (z_A_t a3 a4))⟩
  rw [show (24 : Int32) = zI ((24 : Nat) : Int) from z_lit 24, e1]
  rw [show (((24 : Nat) : Int) - 8) = ((16 : Nat) : Int) from rfl, e2]
  rw [show (((16 : Nat) : Int) - 8) = ((8 : Nat) : Int) from rfl, e3]
  rw [show (((8 : Nat) : Int) - 8) = ((0 : Nat) : Int) from rfl, e4]
  rw [l_X1_putName_3]
  simp (disch := omega) only [z_lit, z_n, z_add, z_sub, z_mul, z_neg, z_lt1, z_lt0, z_le1, z_le0, z_eq1, z_eq0, z_10, ↓reduceIte, z_v, z_upd, z_ue, z_un, z_ixn, z_ixo, z_ix0, z_ix1, z_ix2, z_ix3, z_ix4, z_ix5, z_ix6, Int.reduceToNat, z_inr, z_gd, ↓z_bnd, ↓z_jn, z_bdc, z_bd2, z_opn, z_ops, z_z01, z_Bt, z_Bf]
def z_nl (a b c d : Int) : List Int32 := [z_ch (96 + a)] ++ (if b = 0 then [] else [z_ch (96 + b)] ++ (if c = 0 then [] else [z_ch (96 + c)] ++ (if d = 0 then [] else [z_ch (96 + d)])))
theorem z_nl_l {a b c d : Int} : 1 ≤ (z_nl a b c d).length ∧ (z_nl a b c d).length ≤ 4 := by
  unfold z_nl
  by_cases p : b = 0
  · rw [if_pos p]; simp
  rw [if_neg p]
  by_cases q : c = 0
  · rw [if_pos q]; simp
  rw [if_neg q]
  by_cases r : d = 0
  · rw [if_pos r]; simp
  rw [if_neg r]
  simp
theorem z_b10 {y : Int} (h : y = 0) : z_b1 y = [] := if_pos h
theorem z_b11 {y x : Int} (h : y = x) (hx : x ≠ 0) : z_b1 y = [z_ch x] := by
  subst h
  exact if_neg hx
theorem z_2p : (2 : Int) ^ 24 = 16777216 ∧ (2 : Int) ^ 16 = 65536 ∧ (2 : Int) ^ 8 = 256 ∧ (2 : Int) ^ 0 = 1 := by decide
theorem z_cnl {a b c d : Int} (h : z_ltr a b c d) : 0 ≤ z_pk a b c d ∧ z_pk a b c d < 2147483648 ∧ z_b1 (z_pk a b c d / 2 ^ 24 % 256) ++ (z_b1 (z_pk a b c d / 2 ^ 16 % 256) ++ (z_b1 (z_pk a b c d / 2 ^ 8 % 256) ++ z_b1 (z_pk a b c d / 2 ^ 0 % 256))) = z_nl a b c d := by
  obtain ⟨ha, hb, hc, hd, h1, h2⟩ := h
  rw [z_2p.1, z_2p.2.1, z_2p.2.2.1, z_2p.2.2.2]
  unfold z_nl
  by_cases p : b = 0
  · have e : z_pk a b c d = 96 + a := if_pos p
    rw [if_pos p, e]
    refine ⟨by omega, by omega, ?_⟩
    rw [z_b10 (by omega), z_b10 (by omega), z_b10 (by omega), z_b11 (x := 96 + a) (by omega) (by omega), List.nil_append, List.nil_append, List.nil_append, List.append_nil]
  rw [if_neg p]
  by_cases q : c = 0
  · have e : z_pk a b c d = (96 + a) * 256 + (96 + b) := by
      unfold z_pk
      rw [if_neg p, if_pos q]
    rw [if_pos q, e]
    refine ⟨by omega, by omega, ?_⟩
    rw [z_b10 (by omega), z_b10 (by omega), z_b11 (x := 96 + a) (by omega) (by omega), z_b11 (x := 96 + b) (by omega) (by omega), List.nil_append, List.nil_append, List.append_nil]
  rw [if_neg q]
  by_cases r : d = 0
  · have e : z_pk a b c d = ((96 + a) * 256 + (96 + b)) * 256 + (96 + c) := by
      unfold z_pk
      rw [if_neg p, if_neg q, if_pos r]
    rw [if_pos r, e]
    refine ⟨by omega, by omega, ?_⟩
    rw [z_b10 (by omega), z_b11 (x := 96 + a) (by omega) (by omega), z_b11 (x := 96 + b) (by omega) (by omega), z_b11 (x := 96 + c) (by omega) (by omega), List.nil_append, List.append_nil]
  rw [if_neg r]
  have e : z_pk a b c d = (((96 + a) * 256 + (96 + b)) * 256 + (96 + c)) * 256 + (96 + d) := by
    unfold z_pk
    rw [if_neg p, if_neg q, if_neg r]
  rw [e]
  refine ⟨by omega, by omega, ?_⟩
  rw [z_b11 (x := 96 + a) (by omega) (by omega), z_b11 (x := 96 + b) (by omega) (by omega), z_b11 (x := 96 + c) (by omega) (by omega), z_b11 (x := 96 + d) (by omega) (by omega)]
theorem z_lof {y : Int} (hy : 0 ≤ y ∧ y < 2147483648) : f_X10_letterOf (zI y) (zI 0) = some (zI (y / 27 / 27 / 27 % 27)) ∧ f_X10_letterOf (zI y) (zI 1) = some (zI (y / 27 / 27 % 27)) ∧ f_X10_letterOf (zI y) (zI 2) = some (zI (y / 27 % 27)) ∧ f_X10_letterOf (zI y) (zI 3) = some (zI (y % 27)) := by
  have dv : ∀ z : Int, 0 ≤ z ∧ z < 2147483648 → zI z / 27 = zI (z / 27) := fun z hz => by
    rw [show (27 : Int32) = zI 27 from z_lit 27]
    exact z_div hz (by omega)
  have md : ∀ z : Int, z - z / 27 * 27 = z % 27 := fun z => by omega
  unfold f_X10_letterOf FU
  refine ⟨?_, ?_, ?_, ?_⟩
  · rw [l_X10_letterOf_4, dv y hy, z_bnd, l_X10_letterOf_4, dv (y / 27) (by omega), z_bnd, l_X10_letterOf_4, dv (y / 27 / 27) (by omega), z_bnd, l_X10_letterOf_4, dv (y / 27 / 27 / 27) (by omega)]
    simp (disch := omega) only [z_lit, z_n, z_add, z_sub, z_mul, z_neg, z_lt1, z_lt0, z_le1, z_le0, z_eq1, z_eq0, z_10, ↓reduceIte, z_v, z_upd, z_ue, z_un, z_ixn, z_ixo, z_ix0, z_ix1, z_ix2, z_ix3, z_ix4, z_ix5, z_ix6, Int.reduceToNat, z_inr, z_gd, ↓z_bnd, ↓z_jn, z_bdc, z_bd2, z_opn, z_ops, z_z01, z_Bt, z_Bf, md, Int.reduceAdd, Int.reduceNeg]
  · rw [l_X10_letterOf_4, dv y hy, z_bnd, l_X10_letterOf_4, dv (y / 27) (by omega), z_bnd, l_X10_letterOf_4, dv (y / 27 / 27) (by omega)]
    simp (disch := omega) only [z_lit, z_n, z_add, z_sub, z_mul, z_neg, z_lt1, z_lt0, z_le1, z_le0, z_eq1, z_eq0, z_10, ↓reduceIte, z_v, z_upd, z_ue, z_un, z_ixn, z_ixo, z_ix0, z_ix1, z_ix2, z_ix3, z_ix4, z_ix5, z_ix6, Int.reduceToNat, z_inr, z_gd, ↓z_bnd, ↓z_jn, z_bdc, z_bd2, z_opn, z_ops, z_z01, z_Bt, z_Bf, md, Int.reduceAdd, Int.reduceNeg]
  · rw [l_X10_letterOf_4, dv y hy, z_bnd, l_X10_letterOf_4, dv (y / 27) (by omega)]
    simp (disch := omega) only [z_lit, z_n, z_add, z_sub, z_mul, z_neg, z_lt1, z_lt0, z_le1, z_le0, z_eq1, z_eq0, z_10, ↓reduceIte, z_v, z_upd, z_ue, z_un, z_ixn, z_ixo, z_ix0, z_ix1, z_ix2, z_ix3, z_ix4, z_ix5, z_ix6, Int.reduceToNat, z_inr, z_gd, ↓z_bnd, ↓z_jn, z_bdc, z_bd2, z_opn, z_ops, z_z01, z_Bt, z_Bf, md, Int.reduceAdd, Int.reduceNeg]
  · rw [l_X10_letterOf_4, dv y hy]
    simp (disch := omega) only [z_lit, z_n, z_add, z_sub, z_mul, z_neg, z_lt1, z_lt0, z_le1, z_le0, z_eq1, z_eq0, z_10, ↓reduceIte, z_v, z_upd, z_ue, z_un, z_ixn, z_ixo, z_ix0, z_ix1, z_ix2, z_ix3, z_ix4, z_ix5, z_ix6, Int.reduceToNat, z_inr, z_gd, ↓z_bnd, ↓z_jn, z_bdc, z_bd2, z_opn, z_ops, z_z01, z_Bt, z_Bf, md, Int.reduceAdd, Int.reduceNeg]
theorem z_prn {a b c d : Int} (hl : z_ltr a b c d) {i : Nat} (hi : i < 8) (h21 : W 21 (7 + 4 * i) = zI (((a * 27 + b) * 27 + c) * 27 + d)) (h : W 30 11 = zI n) (hn : n < 190) : ∃ W', f_X10_printName W (zI (i : Int)) = some W' ∧ z_AB n W (z_nl a b c d) W' := by
  obtain ⟨ha, hb, hc, hd, h1, h2⟩ := hl
  obtain ⟨l0, l1, l2, l3⟩ := z_lof (y := ((a * 27 + b) * 27 + c) * 27 + d) (by omega)
  generalize hy : ((a * 27 + b) * 27 + c) * 27 + d = y at *
  rw [show y / 27 / 27 / 27 % 27 = a by omega] at l0
  rw [show y / 27 / 27 % 27 = b by omega] at l1
  rw [show y / 27 % 27 = c by omega] at l2
  rw [show y % 27 = d by omega] at l3
  clear hy
  unfold f_X10_printName f_X10_ofStation FU
  simp (disch := omega) only [z_lit, z_n, z_add, z_sub, z_mul, z_neg, z_lt1, z_lt0, z_le1, z_le0, z_eq1, z_eq0, z_10, ↓reduceIte, z_v, z_upd, z_ue, z_un, z_ixn, z_ixo, z_ix0, z_ix1, z_ix2, z_ix3, z_ix4, z_ix5, z_ix6, Int.reduceToNat, z_inr, z_gd, ↓z_bnd, ↓z_jn, z_bdc, z_bd2, z_opn, z_ops, z_z01, z_Bt, z_Bf]
  rw [show (7 : Int) + 4 * (i : Int) + 0 = ((7 + 4 * i : Nat) : Int) by omega, z_ixn (by omega), h21]
  obtain ⟨W1, e1, a1⟩ := z_prt (x := 96 + a) h (by omega)
  unfold z_nl
  rw [l_X10_printName_14]
  simp (disch := omega) only [z_lit, z_n, z_add, z_sub, z_mul, z_neg, z_lt1, z_lt0, z_le1, z_le0, z_eq1, z_eq0, z_10, ↓reduceIte, z_v, z_upd, z_ue, z_un, z_ixn, z_ixo, z_ix0, z_ix1, z_ix2, z_ix3, z_ix4, z_ix5, z_ix6, Int.reduceToNat, z_inr, z_gd, ↓z_bnd, ↓z_jn, z_bdc, z_bd2, z_opn, z_ops, z_z01, z_Bt, z_Bf, Int.reduceAdd, l0, e1]
  rw [l_X10_printName_14]
  by_cases p : b = 0
  · refine ⟨W1, ?_, by rw [if_pos p]; exact a1⟩
    simp (disch := omega) only [z_lit, z_n, z_add, z_sub, z_mul, z_neg, z_lt1, z_lt0, z_le1, z_le0, z_eq1, z_eq0, z_10, ↓reduceIte, z_v, z_upd, z_ue, z_un, z_ixn, z_ixo, z_ix0, z_ix1, z_ix2, z_ix3, z_ix4, z_ix5, z_ix6, Int.reduceToNat, z_inr, z_gd, ↓z_bnd, ↓z_jn, z_bdc, z_bd2, z_opn, z_ops, z_z01, z_Bt, z_Bf, Int.reduceAdd, l1]
  rw [if_neg p]
  obtain ⟨W2, e2, a2⟩ := z_prt (x := 96 + b) a1.2.2.1 (by simp only [List.length_singleton]; omega)
  simp (disch := omega) only [z_lit, z_n, z_add, z_sub, z_mul, z_neg, z_lt1, z_lt0, z_le1, z_le0, z_eq1, z_eq0, z_10, ↓reduceIte, z_v, z_upd, z_ue, z_un, z_ixn, z_ixo, z_ix0, z_ix1, z_ix2, z_ix3, z_ix4, z_ix5, z_ix6, Int.reduceToNat, z_inr, z_gd, ↓z_bnd, ↓z_jn, z_bdc, z_bd2, z_opn, z_ops, z_z01, z_Bt, z_Bf, Int.reduceAdd, l1, e2]
  rw [l_X10_printName_14]
  by_cases q : c = 0
  · refine ⟨W2, ?_, by rw [if_pos q]; exact z_AB_t a1 a2⟩
    simp (disch := omega) only [z_lit, z_n, z_add, z_sub, z_mul, z_neg, z_lt1, z_lt0, z_le1, z_le0, z_eq1, z_eq0, z_10, ↓reduceIte, z_v, z_upd, z_ue, z_un, z_ixn, z_ixo, z_ix0, z_ix1, z_ix2, z_ix3, z_ix4, z_ix5, z_ix6, Int.reduceToNat, z_inr, z_gd, ↓z_bnd, ↓z_jn, z_bdc, z_bd2, z_opn, z_ops, z_z01, z_Bt, z_Bf, Int.reduceAdd, l2]
  rw [if_neg q]
  obtain ⟨W3, e3, a3⟩ := z_prt (x := 96 + c) a2.2.2.1 (by simp only [List.length_singleton]; omega)
  simp (disch := omega) only [z_lit, z_n, z_add, z_sub, z_mul, z_neg, z_lt1, z_lt0, z_le1, z_le0, z_eq1, z_eq0, z_10, ↓reduceIte, z_v, z_upd, z_ue, z_un, z_ixn, z_ixo, z_ix0, z_ix1, z_ix2, z_ix3, z_ix4, z_ix5, z_ix6, Int.reduceToNat, z_inr, z_gd, ↓z_bnd, ↓z_jn, z_bdc, z_bd2, z_opn, z_ops, z_z01, z_Bt, z_Bf, Int.reduceAdd, l2, e3]
  rw [l_X10_printName_14]
  by_cases r : d = 0
  · refine ⟨W3, ?_, by rw [if_pos r]; exact z_AB_t a1 (z_AB_t a2 a3)⟩
    simp (disch := omega) only [z_lit, z_n, z_add, z_sub, z_mul, z_neg, z_lt1, z_lt0, z_le1, z_le0, z_eq1, z_eq0, z_10, ↓reduceIte, z_v, z_upd, z_ue, z_un, z_ixn, z_ixo, z_ix0, z_ix1, z_ix2, z_ix3, z_ix4, z_ix5, z_ix6, Int.reduceToNat, z_inr, z_gd, ↓z_bnd, ↓z_jn, z_bdc, z_bd2, z_opn, z_ops, z_z01, z_Bt, z_Bf, Int.reduceAdd, l3]
  rw [if_neg r]
  obtain ⟨W4, e4, a4⟩ := z_prt (x := 96 + d) a3.2.2.1 (by simp only [List.length_singleton]; omega)
  simp (disch := omega) only [z_lit, z_n, z_add, z_sub, z_mul, z_neg, z_lt1, z_lt0, z_le1, z_le0, z_eq1, z_eq0, z_10, ↓reduceIte, z_v, z_upd, z_ue, z_un, z_ixn, z_ixo, z_ix0, z_ix1, z_ix2, z_ix3, z_ix4, z_ix5, z_ix6, Int.reduceToNat, z_inr, z_gd, ↓z_bnd, ↓z_jn, z_bdc, z_bd2, z_opn, z_ops, z_z01, z_Bt, z_Bf, Int.reduceAdd, l3, e4]
  rw [l_X10_printName_14]
  simp (disch := omega) only [z_lit, z_n, z_add, z_sub, z_mul, z_neg, z_lt1, z_lt0, z_le1, z_le0, z_eq1, z_eq0, z_10, ↓reduceIte, z_v, z_upd, z_ue, z_un, z_ixn, z_ixo, z_ix0, z_ix1, z_ix2, z_ix3, z_ix4, z_ix5, z_ix6, Int.reduceToNat, z_inr, z_gd, ↓z_bnd, ↓z_jn, z_bdc, z_bd2, z_opn, z_ops, z_z01, z_Bt, z_Bf]
  exact ⟨W4, rfl, z_AB_t a1 (z_AB_t a2 (z_AB_t a3 a4))⟩
end Out
