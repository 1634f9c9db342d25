/-! the next token, both sides -/
section Adv
variable {W W' V V' : Nat → Nat → Int32} {T : Nat → Int} {n r p q : Nat} {kd : Int}
def y_Ctk (W : Nat → Nat → Int32) (p q : Nat) (kd : Int) : Nat → Nat → Int32 := w2 (w2 (w2 W 15 2 (zI p)) 15 1 (zI kd)) 15 3 (zI q)
theorem y_Cre {lo hi : Int} (hl : 0 ≤ lo ∧ lo ≤ 255) (hh : 0 ≤ hi ∧ hi ≤ 255) (h : z_CT T n W) (hr : z_rn T n lo hi p q) : ∀ d N m, m + d = q → p ≤ m → d < N → l_X6_findRunEnd_5 W (zI lo) (zI hi) N (zI (m : Nat)) = some (zI q) := by
  obtain ⟨r1, r2, r3, r4⟩ := hr
  have hn := h.2.2.1
  intro d
  induction d with
  | zero =>
    intro N m hm hp hN
    obtain ⟨M, rfl⟩ : ∃ M, N = M + 1 := ⟨N - 1, by omega⟩
    obtain rfl : m = q := by omega
    rw [l_X6_findRunEnd_5, h.2.2.2]
    rcases r4 with c | c
    · simp (disch := omega) only [z_lit, z_n, z_add, z_sub, z_mul, z_neg, z_lt1, z_lt0, z_le1, z_le0, z_eq1, z_eq0, z_10, ↓reduceIte, z_v, z_upd, z_ue, z_un, z_ixn, z_ixo, z_ix0, z_ix1, z_ix2, z_ix3, z_ix4, z_ix5, z_ix6, Int.reduceToNat, z_inr, z_gd, ↓z_bnd, ↓z_jn, z_bdc, z_bd2, z_opn, z_ops, z_z01, z_Bt, z_Bf]
    · by_cases e : m = n
      · simp (disch := omega) only [z_lit, z_n, z_add, z_sub, z_mul, z_neg, z_lt1, z_lt0, z_le1, z_le0, z_eq1, z_eq0, z_10, ↓reduceIte, z_v, z_upd, z_ue, z_un, z_ixn, z_ixo, z_ix0, z_ix1, z_ix2, z_ix3, z_ix4, z_ix5, z_ix6, Int.reduceToNat, z_inr, z_gd, ↓z_bnd, ↓z_jn, z_bdc, z_bd2, z_opn, z_ops, z_z01, z_Bt, z_Bf]
      · have hT := h.2.1 m
        unfold z_in at c
        by_cases f : T m < lo
        · simp (disch := omega) only [z_lit, z_n, z_add, z_sub, z_mul, z_neg, z_lt1, z_lt0, z_le1, z_le0, z_eq1, z_eq0, z_10, ↓reduceIte, z_v, z_upd, z_ue, z_un, z_ixn, z_ixo, z_ix0, z_ix1, z_ix2, z_ix3, z_ix4, z_ix5, z_ix6, Int.reduceToNat, z_inr, z_gd, ↓z_bnd, ↓z_jn, z_bdc, z_bd2, z_opn, z_ops, z_z01, z_Bt, z_Bf, z_Cby h (show m < 600 by omega)]
        · simp (disch := omega) only [z_lit, z_n, z_add, z_sub, z_mul, z_neg, z_lt1, z_lt0, z_le1, z_le0, z_eq1, z_eq0, z_10, ↓reduceIte, z_v, z_upd, z_ue, z_un, z_ixn, z_ixo, z_ix0, z_ix1, z_ix2, z_ix3, z_ix4, z_ix5, z_ix6, Int.reduceToNat, z_inr, z_gd, ↓z_bnd, ↓z_jn, z_bdc, z_bd2, z_opn, z_ops, z_z01, z_Bt, z_Bf, z_Cby h (show m < 600 by omega)]
  | succ d ih =>
    intro N m hm hp hN
    obtain ⟨M, rfl⟩ : ∃ M, N = M + 1 := ⟨N - 1, by omega⟩
    rw [l_X6_findRunEnd_5, h.2.2.2]
    have hT := h.2.1 m
    have c := r3 m hp (by omega)
    unfold z_in at c
    have nx := ih M (m + 1) (by omega) (by omega) (by omega)
    rw [z_cs] at nx
    simp (disch := omega) only [z_lit, z_n, z_add, z_sub, z_mul, z_neg, z_lt1, z_lt0, z_le1, z_le0, z_eq1, z_eq0, z_10, ↓reduceIte, z_v, z_upd, z_ue, z_un, z_ixn, z_ixo, z_ix0, z_ix1, z_ix2, z_ix3, z_ix4, z_ix5, z_ix6, Int.reduceToNat, z_inr, z_gd, ↓z_bnd, ↓z_jn, z_bdc, z_bd2, z_opn, z_ops, z_z01, z_Bt, z_Bf, z_Cby h (show m < 600 by omega), nx]
theorem y_Cadv (h : z_CT T n W) (h3 : W 15 3 = zI r) (t : z_tok T n r p q kd) : f_X6_advance W = some (y_Ctk W p q kd) := by
  obtain ⟨t1, t2, t3⟩ := t
  have hn := h.2.2.1
  have hp : p ≤ n := by rcases t3 with ⟨c, -⟩ | ⟨c, -⟩ <;> omega
  have hb : p = n ∨ ¬ z_bl (T p) := by
    rcases t3 with ⟨c, -⟩ | ⟨-, c, -⟩
    · exact Or.inl c
    · exact Or.inr c
  unfold f_X6_advance
  rw [z_bnd, h3, z_Cskip hp hb (p - r) FU _ r (z_CT_2 h (by omega)) (by omega) z_w2e t2 (by unfold FU; omega), z_w2w]
  have h' : z_CT T n (w2 W 15 2 (zI p)) := z_CT_2 h (by omega)
  have e2 : w2 W 15 2 (zI p) 15 2 = zI p := z_w2e
  unfold y_Ctk
  generalize w2 W 15 2 (zI p) = X at *
  have e0 : X 15 0 = zI n := h'.2.2.2
  simp only [e2, e0]
  rcases t3 with ⟨c1, c2, c3⟩ | ⟨c1, c2, c3⟩
  · have hB : ∃ x, f_X6_byteAt X (zI p) = some x := by
      by_cases e : p < 600
      · exact ⟨_, z_Cby h' e⟩
      · exact ⟨_, z_Cbx (by omega) (by omega)⟩
    obtain ⟨x, hx⟩ := hB
    rw [hx, z_bdc, z_ltF (by omega) (by omega) (by omega), z_bnd, z_bnd, z_w2k (by omega), e0, c3, c2, z_l0]
  · rw [z_Cby h' (by omega), z_bdc, z_ltT (by omega) (by omega) (by omega), z_jn, z_jn]
    have hT := h.2.1 p
    have h1 : ∀ v, z_CT T n (w2 X 15 1 v) := fun v => z_CT_2 h' (by omega)
    have e12 : ∀ v, w2 X 15 1 v 15 2 = zI p := fun v => by rw [z_w2k (by omega)]; exact e2
    rcases c3 with ⟨d1, d2⟩ | ⟨d1, d2⟩ | ⟨d1, d2, d3⟩ | ⟨d1, d2, d3, d4, d5⟩
    · have c := d2.2.2.1 p (by omega) d2.1
      unfold z_in at c
      have f := y_Cre (lo := 97) (hi := 122) (by omega) (by omega) (h1 (zI 1)) d2 (q - p) FU p (by have := d2.1; omega) (by omega) (by unfold FU; have := d2.2.1; omega)
      unfold f_X6_findRunEnd
      rw [d1]
      simp (disch := omega) only [z_lit, z_n, z_add, z_sub, z_mul, z_neg, z_lt1, z_lt0, z_le1, z_le0, z_eq1, z_eq0, z_10, ↓reduceIte, z_v, z_upd, z_ue, z_un, z_ixn, z_ixo, z_ix0, z_ix1, z_ix2, z_ix3, z_ix4, z_ix5, z_ix6, Int.reduceToNat, z_inr, z_gd, ↓z_bnd, ↓z_jn, z_bdc, z_bd2, z_opn, z_ops, z_z01, z_Bt, z_Bf, e12, f]
    · have c := d2.2.2.1 p (by omega) d2.1
      unfold z_in at c
      have f := y_Cre (lo := 48) (hi := 57) (by omega) (by omega) (h1 (zI 2)) d2 (q - p) FU p (by have := d2.1; omega) (by omega) (by unfold FU; have := d2.2.1; omega)
      unfold f_X6_findRunEnd
      rw [d1]
      simp (disch := omega) only [z_lit, z_n, z_add, z_sub, z_mul, z_neg, z_lt1, z_lt0, z_le1, z_le0, z_eq1, z_eq0, z_10, ↓reduceIte, z_v, z_upd, z_ue, z_un, z_ixn, z_ixo, z_ix0, z_ix1, z_ix2, z_ix3, z_ix4, z_ix5, z_ix6, Int.reduceToNat, z_inr, z_gd, ↓z_bnd, ↓z_jn, z_bdc, z_bd2, z_opn, z_ops, z_z01, z_Bt, z_Bf, e12, f]
    · rw [d1, d3, z_cs]
      simp (disch := omega) only [z_lit, z_n, z_add, z_sub, z_mul, z_neg, z_lt1, z_lt0, z_le1, z_le0, z_eq1, z_eq0, z_10, ↓reduceIte, z_v, z_upd, z_ue, z_un, z_ixn, z_ixo, z_ix0, z_ix1, z_ix2, z_ix3, z_ix4, z_ix5, z_ix6, Int.reduceToNat, z_inr, z_gd, ↓z_bnd, ↓z_jn, z_bdc, z_bd2, z_opn, z_ops, z_z01, z_Bt, z_Bf, e12, d2]
    · rw [d1, d5, z_cs]
      unfold z_in at d2 d3
      by_cases f : T p < 48
      · simp (disch := omega) only [z_lit, z_n, z_add, z_sub, z_mul, z_neg, z_lt1, z_lt0, z_le1, z_le0, z_eq1, z_eq0, z_10, ↓reduceIte, z_v, z_upd, z_ue, z_un, z_ixn, z_ixo, z_ix0, z_ix1, z_ix2, z_ix3, z_ix4, z_ix5, z_ix6, Int.reduceToNat, z_inr, z_gd, ↓z_bnd, ↓z_jn, z_bdc, z_bd2, z_opn, z_ops, z_z01, z_Bt, z_Bf, e12]
      · by_cases f2 : T p < 97
        · simp (disch := omega) only [z_lit, z_n, z_add, z_sub, z_mul, z_neg, z_lt1, z_lt0, z_le1, z_le0, z_eq1, z_eq0, z_10, ↓reduceIte, z_v, z_upd, z_ue, z_un, z_ixn, z_ixo, z_ix0, z_ix1, z_ix2, z_ix3, z_ix4, z_ix5, z_ix6, Int.reduceToNat, z_inr, z_gd, ↓z_bnd, ↓z_jn, z_bdc, z_bd2, z_opn, z_ops, z_z01, z_Bt, z_Bf, e12]
        · simp (disch := omega) only [z_lit, z_n, z_add, z_sub, z_mul, z_neg, z_lt1, z_lt0, z_le1, z_le0, z_eq1, z_eq0, z_10, ↓reduceIte, z_v, z_upd, z_ue, z_un, z_ixn, z_ixo, z_ix0, z_ix1, z_ix2, z_ix3, z_ix4, z_ix5, z_ix6, Int.reduceToNat, z_inr, z_gd, ↓z_bnd, ↓z_jn, z_bdc, z_bd2, z_opn, z_ops, z_z01, z_Bt, z_Bf, e12]
end Adv
