/-! the statements, but trains and runs -/
section Stm
variable {s s' g g' : Nat → Int}
theorem x_s1 {m j : Nat} {v : Int} (hn : s 1 = (m : Int)) (hm : m < 8) (P : z_PI 0 s g) (z : y_z s g) (nm : x_nm s) (hj : (j = 1 ∧ v = 0) ∨ (j = 2 ∧ v = 1)) : ∃ s', x_seq s g (x_KB j ++ 32 :: [97 + (m : Int), 59]) 1 s' (y_G1 g m (((((m : Int) + 1) * 27 + 0) * 27 + 0) * 27 + 0) v) ∧ z_PI 0 s' (y_G1 g m (((((m : Int) + 1) * 27 + 0) * 27 + 0) * 27 + 0) v) ∧ y_z s' (y_G1 g m (((((m : Int) + 1) * 27 + 0) * 27 + 0) * 27 + 0) v) := by
  obtain ⟨s', i1, i2, i3⟩ := y_mst P z hn hm (a' := (m : Int) + 1) (b' := 0) (c' := 0) (d' := 0) (v := v) (by unfold z_ltr; omega) (by omega)
  have i1' : f_X4_makeStation (zV s) (zI (97 + (m : Int))) (zI v) = some (zV s') := by
    rw [show z_pk ((m : Int) + 1) 0 0 0 = 97 + (m : Int) by unfold z_pk; rw [if_pos rfl]; omega] at i1
    exact i1
  refine ⟨s', fun TT n W0 r W hh hr ha => ?_, i2, i3⟩
  have hl : (x_KB j ++ 32 :: [97 + (m : Int), 59]).length = (x_KB j).length + 3 := by rw [List.length_append]; rfl
  rw [hl] at hr ⊢
  have hD := x_has_r hh
  have b0 : TT (r + (x_KB j).length) = 32 := hD 0 (show 0 < 3 by omega)
  have b1 : TT (r + (x_KB j).length + 1) = 97 + (m : Int) := hD 1 (show 1 < 3 by omega)
  have b2 : TT (r + (x_KB j).length + 2) = 59 := hD 2 (show 2 < 3 by omega)
  obtain ⟨R, hR⟩ : ∃ R, r + (x_KB j).length = R := ⟨_, rfl⟩
  rw [hR] at b0 b1 b2
  rw [show r + ((x_KB j).length + 3) = R + 3 by omega]
  have t2 : z_tok TT n R (R + 1) (R + 2) 1 := x_tl b0 b1 (by omega) (by omega) (by rw [b2]; omega)
  have t3 : z_tok TT n (R + 2) (R + 2) (R + 3) 3 := x_tk3 b2 (by omega)
  obtain ⟨p4, q4, kd4, t4⟩ := z_tok_x (T := TT) (n := n) (r := R + 3) (by omega)
  obtain ⟨W3, e3, c3, k3, p0, q0, hg⟩ := x_head (jj := v + 1) (by omega) (by omega) (by omega) ha hh (by omega) (by unfold y_full; omega) (by rw [hR]; exact t2)
  have st : y_st TT s (R + 1) (R + 2) = -1 := x_stn nm (by omega) (by rw [b1, hn])
  obtain ⟨W4, e4, c4, k4, l4⟩ := x_pnn c3 t3 (by omega) st (x_wn.trans b1)
  obtain ⟨W5, e5, c5, k5, -⟩ := x_pen c4 t4
  have h2 : W5 13 2 = zI (v + 1) := by rw [k5, l4 2 (by omega)]; exact k3
  have h3 : W5 13 3 = zI (97 + (m : Int)) := by rw [k5]; exact k4
  have hb : W3 13 2 = zI 1 ∨ W3 13 2 = zI 2 := by
    rcases hj with ⟨-, e⟩ | ⟨-, e⟩ <;> subst e
    · exact Or.inl k3
    · exact Or.inr k3
  have ex : f_X3_execute W5 = some (zI 0, setU W5 2 (zV s')) := by
    unfold f_X3_execute
    rw [z_jn, h2, h3, c5.2.2.2.2.1]
    generalize 97 + (m : Int) = x at *
    rcases hj with ⟨-, e⟩ | ⟨-, e⟩ <;> subst e
    · simp (disch := omega) only [z_lit, z_n, z_add, z_sub, z_mul, z_neg, z_lt1, z_lt0, z_le1, z_le0, z_eq1, z_eq0, z_10, ↓reduceIte, z_v, z_upd, z_ue, z_un, z_ixn, z_ixo, z_ix0, z_ix1, z_ix2, z_ix3, z_ix4, z_ix5, z_ix6, Int.reduceToNat, z_inr, z_gd, ↓z_bnd, ↓z_jn, z_bdc, z_bd2, z_opn, z_ops, z_z01, z_Bt, z_Bf, i1', Int.reduceAdd]
      rw [z_sUu (by omega), h2]
      simp (disch := omega) only [z_lit, z_n, z_add, z_sub, z_mul, z_neg, z_lt1, z_lt0, z_le1, z_le0, z_eq1, z_eq0, z_10, ↓reduceIte, z_v, z_upd, z_ue, z_un, z_ixn, z_ixo, z_ix0, z_ix1, z_ix2, z_ix3, z_ix4, z_ix5, z_ix6, Int.reduceToNat, z_inr, z_gd, ↓z_bnd, ↓z_jn, z_bdc, z_bd2, z_opn, z_ops, z_z01, z_Bt, z_Bf]
    · simp (disch := omega) only [z_lit, z_n, z_add, z_sub, z_mul, z_neg, z_lt1, z_lt0, z_le1, z_le0, z_eq1, z_eq0, z_10, ↓reduceIte, z_v, z_upd, z_ue, z_un, z_ixn, z_ixo, z_ix0, z_ix1, z_ix2, z_ix3, z_ix4, z_ix5, z_ix6, Int.reduceToNat, z_inr, z_gd, ↓z_bnd, ↓z_jn, z_bdc, z_bd2, z_opn, z_ops, z_z01, z_Bt, z_Bf, i1', Int.reduceAdd]
      rw [z_sUu (by omega), h2]
      simp (disch := omega) only [z_lit, z_n, z_add, z_sub, z_mul, z_neg, z_lt1, z_lt0, z_le1, z_le0, z_eq1, z_eq0, z_10, ↓reduceIte, z_v, z_upd, z_ue, z_un, z_ixn, z_ixo, z_ix0, z_ix1, z_ix2, z_ix3, z_ix4, z_ix5, z_ix6, Int.reduceToNat, z_inr, z_gd, ↓z_bnd, ↓z_jn, z_bdc, z_bd2, z_opn, z_ops, z_z01, z_Bt, z_Bf]
  refine ⟨_, ⟨p4, q4, kd4, t4, y_Cg_s c5 i2⟩, fun N i hi => x_26 hg ?_ c5 ex N i hi⟩
  rw [e3, y_bd1 hb]
  unfold y_B1
  rw [e4, e5]
/-- tracks and parcels -/
theorem x_s35 {TT : Nat → Int} {n r : Nat} {W W0 : Nat → Nat → Int32} {j a b : Nat} {w : Int} (hj : j = 3 ∨ j = 5) (nm : x_nm s) (ha : (a : Int) < s 1) (hb : (b : Int) < s 1) (h8 : s 1 ≤ 8) (hf : ¬ y_full (j : Int) s) (bad : ¬ y_bad (j : Int) s a b) (hw : 1 ≤ w ∧ w ≤ 9) (hh : x_has TT r (x_KB j ++ 32 :: [97 + (a : Int), 32, 97 + (b : Int), 32, 48 + w, 59])) (hr : r + ((x_KB j).length + 7) ≤ n) (hat : x_at TT n W0 r s g W) : ∃ X p q kd p0 q0, z_tok TT n (r + ((x_KB j).length + 7)) p q kd ∧ y_Cg 0 TT n W0 s g p0 q0 1 W ∧ f_X3_readStatement W = some X ∧ y_Cg 0 TT n W0 s g p q kd X ∧ X 13 2 = zI (j : Int) ∧ X 13 4 = zI (a : Int) ∧ X 13 5 = zI (b : Int) ∧ X 13 6 = zI w := by
  have hD := x_has_r hh
  have b0 : TT (r + (x_KB j).length) = 32 := hD 0 (show 0 < 7 by omega)
  have b1 : TT (r + (x_KB j).length + 1) = 97 + (a : Int) := hD 1 (show 1 < 7 by omega)
  have b2 : TT (r + (x_KB j).length + 2) = 32 := hD 2 (show 2 < 7 by omega)
  have b3 : TT (r + (x_KB j).length + 3) = 97 + (b : Int) := hD 3 (show 3 < 7 by omega)
  have b4 : TT (r + (x_KB j).length + 4) = 32 := hD 4 (show 4 < 7 by omega)
  have b5 : TT (r + (x_KB j).length + 5) = 48 + w := hD 5 (show 5 < 7 by omega)
  have b6 : TT (r + (x_KB j).length + 6) = 59 := hD 6 (show 6 < 7 by omega)
  obtain ⟨R, hR⟩ : ∃ R, r + (x_KB j).length = R := ⟨_, rfl⟩
  rw [hR] at b0 b1 b2 b3 b4 b5 b6
  rw [show r + ((x_KB j).length + 7) = R + 7 by omega]
  have t2 : z_tok TT n R (R + 1) (R + 2) 1 := x_tl b0 b1 (by omega) (by omega) (by rw [b2]; omega)
  have t3 : z_tok TT n (R + 2) (R + 3) (R + 4) 1 := x_tl b2 b3 (by omega) (by omega) (by rw [b4]; omega)
  have t4 : z_tok TT n (R + 4) (R + 5) (R + 6) 2 := x_td b4 b5 (by omega) (by omega) (by rw [b6]; omega)
  have t5 : z_tok TT n (R + 6) (R + 6) (R + 7) 3 := x_tk3 b6 (by omega)
  obtain ⟨p6, q6, kd6, t6⟩ := z_tok_x (T := TT) (n := n) (r := R + 7) (by omega)
  obtain ⟨W3, e3, c3, k3, p0, q0, hg⟩ := x_head (jj := (j : Int)) rfl (by omega) (by omega) hat hh (by omega) hf (by rw [hR]; exact t2)
  have h1 : 0 ≤ s 1 := by omega
  obtain ⟨W4, e4, c4, k4, l4⟩ := x_pst c3 t3 (x_sta (i := a) nm h1 ha b1) (by omega)
  obtain ⟨W5, e5, c5, k5, l5⟩ := x_ps2 (jj := (j : Int)) c4 t4 (by omega) (by rw [l4 2 (by omega)]; exact k3) k4 (by omega) (x_sta (i := b) nm h1 hb b3) (by omega) bad
  obtain ⟨W6, e6, c6, k6, l6⟩ := x_pnm (lo := 1) (hi := 9) (v := w) c5 t5 (by omega) (by omega) (x_cv b5 (by omega)) hw
  obtain ⟨W7, e7, c7, k7, -⟩ := x_pen c6 t6
  refine ⟨W7, p6, q6, kd6, p0, q0, t6, hg, ?_, c7, ?_, ?_, ?_, ?_⟩
  · have hb3 : W3 13 2 = zI 3 ∨ W3 13 2 = zI 5 := by
      rcases hj with e | e <;> subst e
      · exact Or.inl k3
      · exact Or.inr k3
    rw [e3, y_bd3 hb3]
    unfold y_B3
    rw [e4, e5]
    unfold y_Kn
    rw [z_l1, z_l9, e6, e7]
  · rw [k7, l6 2 (by omega), l5 2 (by omega), l4 2 (by omega)]; exact k3
  · rw [k7, l6 4 (by omega), l5 4 (by omega)]; exact k4
  · rw [k7, l6 5 (by omega)]; exact k5
  · rw [k7]; exact k6
theorem x_s3 {m a b : Nat} {w : Int} (hn : s 2 = (m : Int)) (hm : m < 12) (P : z_PI 0 s g) (z : y_z s g) (nm : x_nm s) (ha : (a : Int) < s 1) (hb : (b : Int) < s 1) (ne : a ≠ b) (no : z_tk s a b = none) (hw : 1 ≤ w ∧ w ≤ 9) : ∃ s', x_seq s g (x_KB 3 ++ 32 :: [97 + (a : Int), 32, 97 + (b : Int), 32, 48 + w, 59]) 1 s' (y_G2 g m a b w) ∧ z_PI 0 s' (y_G2 g m a b w) ∧ y_z s' (y_G2 g m a b w) := by
  obtain ⟨s', i1, i2, i3⟩ := y_mtk P z hn hm (i := a) (j := b) (by omega) (by omega) hw
  refine ⟨s', fun TT n W0 r W hh hr hat => ?_, i2, i3⟩
  obtain ⟨X, p, q, kd, p0, q0, t6, hg, e, c, h2, h4, h5, h6⟩ := x_s35 (j := 3) (Or.inl rfl) nm ha hb P.1.1.2.1.2 (by unfold y_full; omega) (by
    unfold y_bad
    rw [no]
    have e : z_oi none = -1 := rfl
    rw [e]
    omega) hw hh hr hat
  have h2' : X 13 2 = zI 3 := h2
  have ex : f_X3_execute X = some (zI 0, setU X 2 (zV s')) := by
    unfold f_X3_execute
    rw [z_jn, h2', h4, h5, h6, c.2.2.2.2.1, i1]
    simp (disch := omega) only [z_lit, z_n, z_add, z_sub, z_mul, z_neg, z_lt1, z_lt0, z_le1, z_le0, z_eq1, z_eq0, z_10, ↓reduceIte, z_v, z_upd, z_ue, z_un, z_ixn, z_ixo, z_ix0, z_ix1, z_ix2, z_ix3, z_ix4, z_ix5, z_ix6, Int.reduceToNat, z_inr, z_gd, ↓z_bnd, ↓z_jn, z_bdc, z_bd2, z_opn, z_ops, z_z01, z_Bt, z_Bf]
    rw [z_sUu (by omega), h2']
    simp (disch := omega) only [z_lit, z_n, z_add, z_sub, z_mul, z_neg, z_lt1, z_lt0, z_le1, z_le0, z_eq1, z_eq0, z_10, ↓reduceIte, z_v, z_upd, z_ue, z_un, z_ixn, z_ixo, z_ix0, z_ix1, z_ix2, z_ix3, z_ix4, z_ix5, z_ix6, Int.reduceToNat, z_inr, z_gd, ↓z_bnd, ↓z_jn, z_bdc, z_bd2, z_opn, z_ops, z_z01, z_Bt, z_Bf]
  exact ⟨_, ⟨p, q, kd, t6, y_Cg_s c i2⟩, fun N i hi => x_26 hg e c ex N i hi⟩
def y_G5 (g : Nat → Int) (n : Nat) (x y p : Int) : Nat → Int := zu (zu (zu (zu (zu (zu (zu (zu (zu (zu g (143 + 9 * n) x) (143 + 9 * n + 1) y) (143 + 9 * n + 2) p) (143 + 9 * n + 3) x) (143 + 9 * n + 4) (-1)) (143 + 9 * n + 5) (-1)) (143 + 9 * n + 6) 0) (143 + 9 * n + 7) 0) (143 + 9 * n + 8) (-1)) 4 ((n : Int) + 1)
theorem x_mpc {b : Int} (h : z_PI b s g) (z : y_z s g) {n : Nat} {x y p : Int} (hn : s 4 = (n : Int)) (h4 : n < 12) (hx : 0 ≤ x ∧ x < s 1) (hy : 0 ≤ y ∧ y < s 1) (hp : 1 ≤ p ∧ p ≤ 9) : ∃ s', f_X4_makeParcel (zV s) (zI x) (zI y) (zI p) = some (zV s') ∧ z_PI b s' (y_G5 g n x y p) ∧ y_z s' (y_G5 g n x y p) := by
  have k0 := z_PI_0 h
  obtain ⟨c0, c1, c2, c3, c4⟩ := id k0.1
  obtain ⟨s', hs'⟩ : ∃ s', s' = zu (zu (zu (zu (zu (zu (zu (zu (zu (zu s (143 + 9 * n) x) (143 + 9 * n + 1) y) (143 + 9 * n + 2) p) (143 + 9 * n + 3) x) (143 + 9 * n + 4) (-1)) (143 + 9 * n + 8) (-1)) (143 + 9 * n + 5) (-1)) (143 + 9 * n + 6) 0) (143 + 9 * n + 7) 0) 4 (s 4 + 1) := ⟨_, rfl⟩
  obtain ⟨g', hg'⟩ : ∃ g', g' = y_G5 g n x y p := ⟨_, rfl⟩
  rw [← hg']
  unfold y_G5 at hg'
  have e : ∀ k, ¬ (143 + 9 * n ≤ k ∧ k < 143 + 9 * n + 9) → k ≠ 4 → s' k = s k := fun k h1 h2 => by
    rw [hs']
    simp (disch := omega) only [z_un]
  have f : ∀ k, ¬ (143 + 9 * n ≤ k ∧ k < 143 + 9 * n + 9) → k ≠ 4 → g' k = g k := fun k h1 h2 => by
    rw [hg']
    simp (disch := omega) only [z_un]
  have s4 : s' 4 = s 4 + 1 := by rw [hs', z_ue rfl]
  have g4 : g' 4 = s 4 + 1 := by rw [hg', z_ue rfl, hn]
  have d0 : s' (143 + 9 * n) = x := by rw [hs']; simp (disch := omega) only [z_un, z_ue]
  have d1 : s' (143 + 9 * n + 1) = y := by rw [hs']; simp (disch := omega) only [z_un, z_ue]
  have d2 : s' (143 + 9 * n + 2) = p := by rw [hs']; simp (disch := omega) only [z_un, z_ue]
  have d3 : s' (143 + 9 * n + 3) = x := by rw [hs']; simp (disch := omega) only [z_un, z_ue]
  have d4 : s' (143 + 9 * n + 4) = -1 := by rw [hs']; simp (disch := omega) only [z_un, z_ue]
  have d5 : s' (143 + 9 * n + 5) = -1 := by rw [hs']; simp (disch := omega) only [z_un, z_ue]
  have d6 : s' (143 + 9 * n + 6) = 0 := by rw [hs']; simp (disch := omega) only [z_un, z_ue]
  have d7 : s' (143 + 9 * n + 7) = 0 := by rw [hs']; simp (disch := omega) only [z_un, z_ue]
  have d8 : s' (143 + 9 * n + 8) = -1 := by rw [hs']; simp (disch := omega) only [z_un, z_ue]
  have q0 : g' (143 + 9 * n) = x := by rw [hg']; simp (disch := omega) only [z_un, z_ue]
  have q1 : g' (143 + 9 * n + 1) = y := by rw [hg']; simp (disch := omega) only [z_un, z_ue]
  have q2 : g' (143 + 9 * n + 2) = p := by rw [hg']; simp (disch := omega) only [z_un, z_ue]
  have q3 : g' (143 + 9 * n + 3) = x := by rw [hg']; simp (disch := omega) only [z_un, z_ue]
  have q4 : g' (143 + 9 * n + 4) = -1 := by rw [hg']; simp (disch := omega) only [z_un, z_ue]
  have q5 : g' (143 + 9 * n + 5) = -1 := by rw [hg']; simp (disch := omega) only [z_un, z_ue]
  have q6 : g' (143 + 9 * n + 6) = 0 := by rw [hg']; simp (disch := omega) only [z_un, z_ue]
  have q7 : g' (143 + 9 * n + 7) = 0 := by rw [hg']; simp (disch := omega) only [z_un, z_ue]
  have q8 : g' (143 + 9 * n + 8) = -1 := by rw [hg']; simp (disch := omega) only [z_un, z_ue]
  have lo : ∀ k, k < 143 → k ≠ 4 → s' k = s k := fun k hk h4 => e k (by omega) h4
  have lg : ∀ k, k < 143 → k ≠ 4 → g' k = g k := fun k hk h4 => f k (by omega) h4
  refine ⟨s', ?_, z_PI_mk ⟨?_, fun k hk => ?_⟩ (z_k1_c k0 (lo 0 (by omega) (by omega)) (lo 1 (by omega) (by omega)) (fun k _ hk => lo k (by omega) (by omega)) (fun k _ hk => lg k (by omega) (by omega)) (z_PI_1 h)) (z_k2_c k0 (by rw [lo 1 (by omega) (by omega)]; exact Int.le_refl _) (lo 2 (by omega) (by omega)) (fun k _ hk => lo k (by omega) (by omega)) (fun k _ hk => lg k (by omega) (by omega)) (z_PI_2 h)) (z_k3_c k0 (by rw [lo 1 (by omega) (by omega)]; exact Int.le_refl _) (lo 3 (by omega) (by omega)) (fun x y _ => z_tk_c (lo 2 (by omega) (by omega)) (by omega) (fun k _ hk => lo k (by omega) (by omega))) (fun k hk => lo _ (by omega) (by omega)) (fun k _ hk => lo k (by omega) (by omega)) (fun k _ hk => lg k (by omega) (by omega)) (z_PI_3 h)) ?_ (z_dis_c (lo 2 (by omega) (by omega)) (by omega) (fun k _ hk => lo k (by omega) (by omega)) (fun k hk => e k (by omega) (by omega)) (z_PI_5 h)) (fun j hj => by rw [lg _ (by omega) (by omega)]; exact z_PI_6 h j hj), fun j hj h8 => ?_, fun t ht h4 => ?_⟩
  · unfold f_X4_makeParcel
    rw [hs']
    simp (disch := omega) only [z_lit, z_n, z_add, z_sub, z_mul, z_neg, z_lt1, z_lt0, z_le1, z_le0, z_eq1, z_eq0, z_10, ↓reduceIte, z_v, z_upd, z_ue, z_un, z_ixn, z_ixo, z_ix0, z_ix1, z_ix2, z_ix3, z_ix4, z_ix5, z_ix6, Int.reduceToNat, z_inr, z_gd, ↓z_bnd, ↓z_jn, z_bdc, z_bd2, z_opn, z_ops, z_z01, z_Bt, z_Bf, hn]
  · unfold z_cnt4
    rw [lo 0 (by omega) (by omega), lo 1 (by omega) (by omega), lo 2 (by omega) (by omega), lo 3 (by omega) (by omega), s4]
    exact ⟨c0, c1, c2, c3, by omega⟩
  · by_cases c : k = 4
    · rw [c, s4, g4]
    · rw [lo k (by omega) c, lg k (by omega) c]
      exact k0.2 k hk
  · intro j hj
    rw [s4] at hj
    by_cases q : j = n
    · subst q
      refine ⟨?_, fun i hi => ?_⟩
      · unfold z_pcl
        rw [d0, d1, d2, d3, d4, d5, d7, d8, lo 0 (by omega) (by omega), lo 1 (by omega) (by omega), lo 3 (by omega) (by omega)]
        exact ⟨hx, hy, hp, by omega, by omega, by omega, by omega, by omega, Or.inl ⟨by omega, rfl, rfl, rfl⟩⟩
      · rcases z_j9 hi with c | c | c | c | c | c | c | c | c <;> subst c
        · exact q0.trans d0.symm
        · exact q1.trans d1.symm
        · exact q2.trans d2.symm
        · exact q3.trans d3.symm
        · exact q4.trans d4.symm
        · exact q5.trans d5.symm
        · exact q6.trans d6.symm
        · exact q7.trans d7.symm
        · exact q8.trans d8.symm
    · obtain ⟨w1, w2'⟩ := z_PI_4 h j (by omega)
      refine ⟨?_, fun i hi => by rw [f _ (by omega) (by omega), e _ (by omega) (by omega)]; exact w2' i hi⟩
      unfold z_pcl at w1 ⊢
      rw [lo 0 (by omega) (by omega), lo 1 (by omega) (by omega), lo 3 (by omega) (by omega), e (143 + 9 * j) (by omega) (by omega), e (143 + 9 * j + 1) (by omega) (by omega), e (143 + 9 * j + 2) (by omega) (by omega), e (143 + 9 * j + 3) (by omega) (by omega), e (143 + 9 * j + 4) (by omega) (by omega), e (143 + 9 * j + 5) (by omega) (by omega), e (143 + 9 * j + 7) (by omega) (by omega), e (143 + 9 * j + 8) (by omega) (by omega)]
      exact w1
  · rw [lo 1 (by omega) (by omega)] at hj
    rw [lg _ (by omega) (by omega)]
    exact z.1 j hj h8
  · rw [lo 3 (by omega) (by omega)] at ht
    rw [lg _ (by omega) (by omega), lg _ (by omega) (by omega), lg _ (by omega) (by omega), lg _ (by omega) (by omega)]
    exact z.2 t ht h4
theorem x_s5 {m a b : Nat} {w : Int} (hn : s 4 = (m : Int)) (hm : m < 12) (P : z_PI 0 s g) (z : y_z s g) (nm : x_nm s) (ha : (a : Int) < s 1) (hb : (b : Int) < s 1) (ne : a ≠ b) (hw : 1 ≤ w ∧ w ≤ 9) : ∃ s', x_seq s g (x_KB 5 ++ 32 :: [97 + (a : Int), 32, 97 + (b : Int), 32, 48 + w, 59]) 1 s' (y_G5 g m a b w) ∧ z_PI 0 s' (y_G5 g m a b w) ∧ y_z s' (y_G5 g m a b w) := by
  obtain ⟨s', i1, i2, i3⟩ := x_mpc P z hn hm (x := a) (y := b) (by omega) (by omega) hw
  refine ⟨s', fun TT n W0 r W hh hr hat => ?_, i2, i3⟩
  obtain ⟨X, p, q, kd, p0, q0, t6, hg, e, c, h2, h4, h5, h6⟩ := x_s35 (j := 5) (Or.inr rfl) nm ha hb P.1.1.2.1.2 (by unfold y_full; omega) (by unfold y_bad; omega) hw hh hr hat
  have h2' : X 13 2 = zI 5 := h2
  have ex : f_X3_execute X = some (zI 0, setU X 2 (zV s')) := by
    unfold f_X3_execute
    rw [z_jn, h2', h4, h5, h6, c.2.2.2.2.1, i1]
    simp (disch := omega) only [z_lit, z_n, z_add, z_sub, z_mul, z_neg, z_lt1, z_lt0, z_le1, z_le0, z_eq1, z_eq0, z_10, ↓reduceIte, z_v, z_upd, z_ue, z_un, z_ixn, z_ixo, z_ix0, z_ix1, z_ix2, z_ix3, z_ix4, z_ix5, z_ix6, Int.reduceToNat, z_inr, z_gd, ↓z_bnd, ↓z_jn, z_bdc, z_bd2, z_opn, z_ops, z_z01, z_Bt, z_Bf]
    rw [z_sUu (by omega), h2']
    simp (disch := omega) only [z_lit, z_n, z_add, z_sub, z_mul, z_neg, z_lt1, z_lt0, z_le1, z_le0, z_eq1, z_eq0, z_10, ↓reduceIte, z_v, z_upd, z_ue, z_un, z_ixn, z_ixo, z_ix0, z_ix1, z_ix2, z_ix3, z_ix4, z_ix5, z_ix6, Int.reduceToNat, z_inr, z_gd, ↓z_bnd, ↓z_jn, z_bdc, z_bd2, z_opn, z_ops, z_z01, z_Bt, z_Bf]
  exact ⟨_, ⟨p, q, kd, t6, y_Cg_s c i2⟩, fun N i hi => x_26 hg e c ex N i hi⟩
theorem x_s6 {a : Nat} {w : Int} (P : z_PI 0 s g) (z : y_z s g) (nm : x_nm s) (ha : (a : Int) < s 1) (hw : 0 ≤ w ∧ w ≤ 9) : x_seq s g (x_KB 6 ++ 32 :: [97 + (a : Int), 32, 48 + w, 59]) 1 (zu s (7 + 4 * a + 2) w) (zu g (7 + 4 * a + 2) w) ∧ z_PI 0 (zu s (7 + 4 * a + 2) w) (zu g (7 + 4 * a + 2) w) ∧ y_z (zu s (7 + 4 * a + 2) w) (zu g (7 + 4 * a + 2) w) := by
  obtain ⟨i1, i2, i3⟩ := y_ins P z ha hw
  refine ⟨fun TT n W0 r W hh hr hat => ?_, i2, i3⟩
  have h8 := P.1.1.2.1
  have hl : (x_KB 6 ++ 32 :: [97 + (a : Int), 32, 48 + w, 59]).length = (x_KB 6).length + 5 := by rw [List.length_append]; rfl
  rw [hl] at hr ⊢
  have hD := x_has_r hh
  have b0 : TT (r + (x_KB 6).length) = 32 := hD 0 (show 0 < 5 by omega)
  have b1 : TT (r + (x_KB 6).length + 1) = 97 + (a : Int) := hD 1 (show 1 < 5 by omega)
  have b2 : TT (r + (x_KB 6).length + 2) = 32 := hD 2 (show 2 < 5 by omega)
  have b3 : TT (r + (x_KB 6).length + 3) = 48 + w := hD 3 (show 3 < 5 by omega)
  have b4 : TT (r + (x_KB 6).length + 4) = 59 := hD 4 (show 4 < 5 by omega)
  obtain ⟨R, hR⟩ : ∃ R, r + (x_KB 6).length = R := ⟨_, rfl⟩
  rw [hR] at b0 b1 b2 b3 b4
  rw [show r + ((x_KB 6).length + 5) = R + 5 by omega]
  have t2 : z_tok TT n R (R + 1) (R + 2) 1 := x_tl b0 b1 (by omega) (by omega) (by rw [b2]; omega)
  have t3 : z_tok TT n (R + 2) (R + 3) (R + 4) 2 := x_td b2 b3 (by omega) (by omega) (by rw [b4]; omega)
  have t4 : z_tok TT n (R + 4) (R + 4) (R + 5) 3 := x_tk3 b4 (by omega)
  obtain ⟨p5, q5, kd5, t5⟩ := z_tok_x (T := TT) (n := n) (r := R + 5) (by omega)
  obtain ⟨W3, e3, c3, k3, p0, q0, hg⟩ := x_head (j := 6) (jj := 6) rfl (by omega) (by omega) hat hh (by omega) (by unfold y_full; omega) (by rw [hR]; exact t2)
  obtain ⟨W4, e4, c4, k4, l4⟩ := x_pst c3 t3 (x_sta (i := a) nm h8.1 ha b1) (by omega)
  obtain ⟨W6, e6, c6, k6, l6⟩ := x_pnm (lo := 0) (hi := 9) (v := w) c4 t4 (by omega) (by omega) (x_cv b3 (by omega)) hw
  obtain ⟨W7, e7, c7, k7, -⟩ := x_pen c6 t5
  have h2 : W7 13 2 = zI 6 := by rw [k7, l6 2 (by omega), l4 2 (by omega)]; exact k3
  have h4 : W7 13 4 = zI (a : Int) := by rw [k7, l6 4 (by omega)]; exact k4
  have h6 : W7 13 6 = zI w := by rw [k7]; exact k6
  have ex : f_X3_execute W7 = some (zI 0, setU W7 2 (zV (zu s (7 + 4 * a + 2) w))) := by
    unfold f_X3_execute
    rw [z_jn, h2, h4, h6, c7.2.2.2.2.1, i1]
    simp (disch := omega) only [z_lit, z_n, z_add, z_sub, z_mul, z_neg, z_lt1, z_lt0, z_le1, z_le0, z_eq1, z_eq0, z_10, ↓reduceIte, z_v, z_upd, z_ue, z_un, z_ixn, z_ixo, z_ix0, z_ix1, z_ix2, z_ix3, z_ix4, z_ix5, z_ix6, Int.reduceToNat, z_inr, z_gd, ↓z_bnd, ↓z_jn, z_bdc, z_bd2, z_opn, z_ops, z_z01, z_Bt, z_Bf]
    rw [z_sUu (by omega), h2]
    simp (disch := omega) only [z_lit, z_n, z_add, z_sub, z_mul, z_neg, z_lt1, z_lt0, z_le1, z_le0, z_eq1, z_eq0, z_10, ↓reduceIte, z_v, z_upd, z_ue, z_un, z_ixn, z_ixo, z_ix0, z_ix1, z_ix2, z_ix3, z_ix4, z_ix5, z_ix6, Int.reduceToNat, z_inr, z_gd, ↓z_bnd, ↓z_jn, z_bdc, z_bd2, z_opn, z_ops, z_z01, z_Bt, z_Bf]
  refine ⟨_, ⟨p5, q5, kd5, t5, y_Cg_s c7 i2⟩, fun N i hi => x_26 hg ?_ c7 ex N i hi⟩
  rw [e3, y_bd6 k3]
  unfold y_B6
  rw [e4]
  unfold y_Kn
  rw [z_l0, z_l9, e6, e7]
end Stm
