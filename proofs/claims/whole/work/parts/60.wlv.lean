/-! all units: helpers -/
theorem z_l0 : (0 : Int32) = zI 0 := z_lit 0
theorem z_l2 : (2 : Int32) = zI 2 := z_lit 2
theorem z_l9 : (9 : Int32) = zI 9 := z_lit 9
theorem z_l60 : (60 : Int32) = zI 60 := z_lit 60
theorem z_l120 : (120 : Int32) = zI 120 := z_lit 120
theorem z_l1 : (1 : Int32) = zI 1 := z_lit 1
section Wlv
variable {W W' : Nat → Nat → Int32} {b : Int}
theorem z_w2e {u k : Nat} {v : Int32} : w2 W u k v u k = v := by
  unfold w2 setU upd
  rw [if_pos rfl, if_pos rfl]
theorem z_w2k {u k j : Nat} {v : Int32} (h : j ≠ k) : w2 W u k v u j = W u j := by
  unfold w2 setU upd
  rw [if_pos rfl, if_neg h]
theorem z_w2u {u k x : Nat} {v : Int32} (h : x ≠ u) : w2 W u k v x = W x := by
  unfold w2 setU
  rw [if_neg h]
theorem z_w2w {u k : Nat} {v x : Int32} : w2 (w2 W u k v) u k x = w2 W u k x := by
  funext y j
  unfold w2 setU upd
  by_cases c : y = u
  · rw [if_pos c, if_pos c, if_pos rfl]
    by_cases d : j = k
    · rw [if_pos d, if_pos d]
    · rw [if_neg d, if_neg d, if_neg d]
  · rw [if_neg c, if_neg c, if_neg c]
theorem z_sUe {u : Nat} {S : Nat → Int32} : setU W u S u = S := if_pos rfl
theorem z_sUu {u x : Nat} {S : Nat → Int32} (h : x ≠ u) : setU W u S x = W x := if_neg h
theorem z_sQu {u : Nat} {S : Nat → Int32} (h : u ≠ 27) : setQ W u S u = S := by
  unfold setQ
  rw [z_sUu h, z_sUe]
theorem z_sQ7 {u : Nat} {S : Nat → Int32} : setQ W u S 27 = fun k => S (251 + k) := by
  unfold setQ
  rw [z_sUe]
theorem z_sQx {u x : Nat} {S : Nat → Int32} (h : x ≠ u) (h7 : x ≠ 27) : setQ W u S x = W x := by
  unfold setQ
  rw [z_sUu h7, z_sUu h]
theorem z_any (F : Nat → Int32) : ∃ f : Nat → Int, F = zV f ∧ ∀ k, zR (f k) := ⟨fun k => (F k).toInt, by funext k; exact (z_of (F k)).symm, fun k => ⟨Int32.le_toInt _, Int32.toInt_lt _⟩⟩
theorem z_arg (a : Int32) : ∃ x : Int, a = zI x ∧ zR x := ⟨a.toInt, (z_of a).symm, Int32.le_toInt _, Int32.toInt_lt _⟩
theorem z_pkv {G T : Nat → Int32} {g : Nat → Int} (h : ∀ k, k < 251 → G k = zI (g k)) : ∃ g', pk G T = zV g' ∧ ∀ k, k < 251 → g' k = g k := by
  obtain ⟨t, rfl, -⟩ := z_any T
  refine ⟨fun k => if k < 251 then g k else t (k - 251), ?_, fun k hk => if_pos hk⟩
  funext k
  unfold pk
  by_cases c : k < 251
  · rw [if_pos c, h k c, z_v, if_pos c]
  · rw [if_neg c, z_v, z_v, if_neg c]
/-- a State of the class and a row of the reference that say the same -/
def z_pr (b : Int) (S G : Nat → Int32) : Prop := ∃ s g, S = zV s ∧ (∀ k, k < 251 → G k = zI (g k)) ∧ z_PI b s g
/-- the thrown cell -/
def z_th (W : Nat → Nat → Int32) (c : Int) : Nat → Nat → Int32 := w2 W 30 2 (zI c)
theorem z_thth {c d : Int} : z_th (z_th W c) d = z_th W d := z_w2w
theorem z_thu {c : Int} {x : Nat} (h : x ≠ 30) : z_th W c x = W x := z_w2u h
theorem z_thk {c : Int} {k : Nat} (h : k ≠ 2) : z_th W c 30 k = W 30 k := z_w2k h
theorem z_the {c : Int} : z_th W c 30 2 = zI c := z_w2e
def z_out (x l h : Int) : Int := if l ≤ x ∧ x ≤ h then 0 else 1
theorem z_o0 {x l h : Int} (c : l ≤ x ∧ x ≤ h) : z_out x l h = 0 := if_pos c
theorem z_o1 {x l h : Int} (c : ¬ (l ≤ x ∧ x ≤ h)) : z_out x l h = 1 := if_neg c
theorem z_Gnn {x l h : Int} (hx : zR x) (hl : zR l) (hh : zR h) : f_X10_noNumber W (zI x) (zI l) (zI h) = some (zI (z_out x l h), z_th W (z_out x l h)) := by
  unfold zR at *
  unfold f_X10_noNumber f_X10_isBetween f_X10_refuses
  by_cases c : x < l
  · rw [z_o1 (by omega)]
    simp (disch := omega) only [z_lit, z_n, z_add, z_sub, z_mul, z_neg, z_lt1, z_lt0, z_le1, z_le0, z_eq1, z_eq0, z_10, ↓reduceIte, z_v, z_upd, z_ue, z_un, z_ixn, z_ixo, z_ix0, z_ix1, z_ix2, z_ix3, z_ix4, z_ix5, z_ix6, Int.reduceToNat, z_inr, z_gd, ↓z_bnd, ↓z_jn, z_bdc, z_bd2, z_opn, z_ops, z_z01, z_Bt, z_Bf, z_w2e, z_w2w]
    rfl
  · by_cases d : h < x
    · rw [z_o1 (by omega)]
      simp (disch := omega) only [z_lit, z_n, z_add, z_sub, z_mul, z_neg, z_lt1, z_lt0, z_le1, z_le0, z_eq1, z_eq0, z_10, ↓reduceIte, z_v, z_upd, z_ue, z_un, z_ixn, z_ixo, z_ix0, z_ix1, z_ix2, z_ix3, z_ix4, z_ix5, z_ix6, Int.reduceToNat, z_inr, z_gd, ↓z_bnd, ↓z_jn, z_bdc, z_bd2, z_opn, z_ops, z_z01, z_Bt, z_Bf, z_w2e, z_w2w]
      rfl
    · rw [z_o0 (by omega)]
      simp (disch := omega) only [z_lit, z_n, z_add, z_sub, z_mul, z_neg, z_lt1, z_lt0, z_le1, z_le0, z_eq1, z_eq0, z_10, ↓reduceIte, z_v, z_upd, z_ue, z_un, z_ixn, z_ixo, z_ix0, z_ix1, z_ix2, z_ix3, z_ix4, z_ix5, z_ix6, Int.reduceToNat, z_inr, z_gd, ↓z_bnd, ↓z_jn, z_bdc, z_bd2, z_opn, z_ops, z_z01, z_Bt, z_Bf, z_w2e]
      rfl
theorem z_Go0 {x l h : Int} (hx : zR x) (hl : zR l) (hh : zR h) (h0 : W 30 2 = zI 0) (c : l ≤ x ∧ x ≤ h) : f_X10_out W (zI x) (zI l) (zI h) = some (zI 0, W) := by
  unfold zR at *
  unfold f_X10_out f_X10_isBetween f_X10_refuses
  simp (disch := omega) only [z_lit, z_n, z_add, z_sub, z_mul, z_neg, z_lt1, z_lt0, z_le1, z_le0, z_eq1, z_eq0, z_10, ↓reduceIte, z_v, z_upd, z_ue, z_un, z_ixn, z_ixo, z_ix0, z_ix1, z_ix2, z_ix3, z_ix4, z_ix5, z_ix6, Int.reduceToNat, z_inr, z_gd, ↓z_bnd, ↓z_jn, z_bdc, z_bd2, z_opn, z_ops, z_z01, z_Bt, z_Bf, h0]
theorem z_Go1 {x l h : Int} (hx : zR x) (hl : zR l) (hh : zR h) (h0 : W 30 2 = zI 0) (c : ¬ (l ≤ x ∧ x ≤ h)) : f_X10_out W (zI x) (zI l) (zI h) = some (zI 1, z_th W 2) := by
  unfold zR at *
  unfold f_X10_out f_X10_isBetween f_X10_refuses
  by_cases c : x < l
  · simp (disch := omega) only [z_lit, z_n, z_add, z_sub, z_mul, z_neg, z_lt1, z_lt0, z_le1, z_le0, z_eq1, z_eq0, z_10, ↓reduceIte, z_v, z_upd, z_ue, z_un, z_ixn, z_ixo, z_ix0, z_ix1, z_ix2, z_ix3, z_ix4, z_ix5, z_ix6, Int.reduceToNat, z_inr, z_gd, ↓z_bnd, ↓z_jn, z_bdc, z_bd2, z_opn, z_ops, z_z01, z_Bt, z_Bf, z_w2e, h0]
    rfl
  · simp (disch := omega) only [z_lit, z_n, z_add, z_sub, z_mul, z_neg, z_lt1, z_lt0, z_le1, z_le0, z_eq1, z_eq0, z_10, ↓reduceIte, z_v, z_upd, z_ue, z_un, z_ixn, z_ixo, z_ix0, z_ix1, z_ix2, z_ix3, z_ix4, z_ix5, z_ix6, Int.reduceToNat, z_inr, z_gd, ↓z_bnd, ↓z_jn, z_bdc, z_bd2, z_opn, z_ops, z_z01, z_Bt, z_Bf, z_w2e, h0]
    rfl
theorem z_Gr1 {c : Int} (h0 : W 30 2 = zI 0) (hc : 1 ≤ c ∧ c ≤ 3) : f_X10_refuses W (zI 1) (zI c) = some (zI 1, z_th W c) := by
  unfold f_X10_refuses
  simp (disch := omega) only [z_lit, z_n, z_add, z_sub, z_mul, z_neg, z_lt1, z_lt0, z_le1, z_le0, z_eq1, z_eq0, z_10, ↓reduceIte, z_v, z_upd, z_ue, z_un, z_ixn, z_ixo, z_ix0, z_ix1, z_ix2, z_ix3, z_ix4, z_ix5, z_ix6, Int.reduceToNat, z_inr, z_gd, ↓z_bnd, ↓z_jn, z_bdc, z_bd2, z_opn, z_ops, z_z01, z_Bt, z_Bf, z_w2e, h0]
  rfl
theorem z_Gr0 {c : Int32} (h0 : W 30 2 = zI 0) : f_X10_refuses W (zI 0) c = some (zI 0, W) := by
  unfold f_X10_refuses
  simp (disch := omega) only [z_lit, z_n, z_add, z_sub, z_mul, z_neg, z_lt1, z_lt0, z_le1, z_le0, z_eq1, z_eq0, z_10, ↓reduceIte, z_v, z_upd, z_ue, z_un, z_ixn, z_ixo, z_ix0, z_ix1, z_ix2, z_ix3, z_ix4, z_ix5, z_ix6, Int.reduceToNat, z_inr, z_gd, ↓z_bnd, ↓z_jn, z_bdc, z_bd2, z_opn, z_ops, z_z01, z_Bt, z_Bf, h0]
end Wlv
