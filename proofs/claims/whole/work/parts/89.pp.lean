/-! one statement -/
section Pp
variable {W W' W0 V V' V0 : Nat → Nat → Int32} {T : Nat → Int} {n r p q p' q' : Nat} {kd kd' : Int} {s s' g g' : Nat → Int} {b b' : Int} {c : Int} {x : Int32}
noncomputable def y_body (W3 : Nat → Nat → Int32) : Option (Nat → Nat → Int32) := jn (fun (W5 : Nat → Nat → Int32) => if (W5 15 1) = (3 : Int32) then bdc (f_X6_advance W5) (fun W58 => some W58) else bdc (f_X3_fail W5 (1 : Int32)) (fun W59 => bdc (f_X6_advance W59) (fun W60 => some W60))) (fun j4 => if (W3 13 2) = (1 : Int32) then bd2 (f_X3_takeNewName W3) (fun v8 W7 => bnd (w2 W7 13 3 v8) (fun W9 => j4 W9)) else if (W3 13 2) = (2 : Int32) then bd2 (f_X3_takeNewName W3) (fun v12 W11 => bnd (w2 W11 13 3 v12) (fun W13 => j4 W13)) else if (W3 13 2) = (3 : Int32) then bd2 (f_X3_takeStation W3) (fun v16 W15 => bnd (w2 W15 13 4 v16) (fun W17 => bd2 (f_X3_takeSecondStation W17) (fun v19 W18 => bnd (w2 W18 13 5 v19) (fun W20 => bd2 (f_X3_takeNumber W20 (1 : Int32) (9 : Int32)) (fun v22 W21 => bnd (w2 W21 13 6 v22) (fun W23 => j4 W23)))))) else if (W3 13 2) = (4 : Int32) then bd2 (f_X3_takeNumber W3 (1 : Int32) (4 : Int32)) (fun v26 W25 => bnd (w2 W25 13 6 v26) (fun W27 => bdc (f_X3_takeRoute W27) (fun W28 => j4 W28))) else if (W3 13 2) = (5 : Int32) then bd2 (f_X3_takeStation W3) (fun v31 W30 => bnd (w2 W30 13 4 v31) (fun W32 => bd2 (f_X3_takeSecondStation W32) (fun v34 W33 => bnd (w2 W33 13 5 v34) (fun W35 => bd2 (f_X3_takeNumber W35 (1 : Int32) (9 : Int32)) (fun v37 W36 => bnd (w2 W36 13 6 v37) (fun W38 => j4 W38)))))) else if (W3 13 2) = (6 : Int32) then bd2 (f_X3_takeStation W3) (fun v41 W40 => bnd (w2 W40 13 4 v41) (fun W42 => bd2 (f_X3_takeNumber W42 (0 : Int32) (9 : Int32)) (fun v44 W43 => bnd (w2 W43 13 6 v44) (fun W45 => j4 W45)))) else if (W3 13 2) = (7 : Int32) then bd2 (f_X3_takeStation W3) (fun v48 W47 => bnd (w2 W47 13 4 v48) (fun W49 => bd2 (f_X3_takeSecondStation W49) (fun v51 W50 => bnd (w2 W50 13 5 v51) (fun W52 => j4 W52)))) else if (W3 13 2) = (8 : Int32) then bd2 (f_X3_takeNumber W3 (0 : Int32) (60 : Int32)) (fun v55 W54 => bnd (w2 W54 13 6 v55) (fun W56 => j4 W56)) else gd (tso (W3 13 2) 1 8) (j4 W3))
theorem y_bdx : f_X3_readStatement W = bd2 (f_X3_takeKeyword W) (fun v2 W1 => bnd (w2 W1 13 2 v2) (fun W3 => y_body W3)) := rfl
theorem y_bd1 (h : W 13 2 = zI 1 ∨ W 13 2 = zI 2) : y_body W = y_B1 W := by
  unfold y_body
  rw [z_jn]
  rcases h with h | h
  · rw [h]
    simp (disch := omega) only [z_lit, z_n, z_add, z_sub, z_mul, z_neg, z_lt1, z_lt0, z_le1, z_le0, z_eq1, z_eq0, z_10, ↓reduceIte, z_v, z_upd, z_ue, z_un, z_ixn, z_ixo, z_ix0, z_ix1, z_ix2, z_ix3, z_ix4, z_ix5, z_ix6, Int.reduceToNat, z_inr, z_gd, ↓z_bnd, ↓z_jn, z_bdc, z_bd2, z_opn, z_ops, z_z01, z_Bt, z_Bf]
    rfl
  · rw [h]
    simp (disch := omega) only [z_lit, z_n, z_add, z_sub, z_mul, z_neg, z_lt1, z_lt0, z_le1, z_le0, z_eq1, z_eq0, z_10, ↓reduceIte, z_v, z_upd, z_ue, z_un, z_ixn, z_ixo, z_ix0, z_ix1, z_ix2, z_ix3, z_ix4, z_ix5, z_ix6, Int.reduceToNat, z_inr, z_gd, ↓z_bnd, ↓z_jn, z_bdc, z_bd2, z_opn, z_ops, z_z01, z_Bt, z_Bf]
    rfl
theorem y_bd3 (h : W 13 2 = zI 3 ∨ W 13 2 = zI 5) : y_body W = y_B3 W := by
  unfold y_body
  rw [z_jn]
  rcases h with h | h
  · rw [h]
    simp (disch := omega) only [z_lit, z_n, z_add, z_sub, z_mul, z_neg, z_lt1, z_lt0, z_le1, z_le0, z_eq1, z_eq0, z_10, ↓reduceIte, z_v, z_upd, z_ue, z_un, z_ixn, z_ixo, z_ix0, z_ix1, z_ix2, z_ix3, z_ix4, z_ix5, z_ix6, Int.reduceToNat, z_inr, z_gd, ↓z_bnd, ↓z_jn, z_bdc, z_bd2, z_opn, z_ops, z_z01, z_Bt, z_Bf]
    rfl
  · rw [h]
    simp (disch := omega) only [z_lit, z_n, z_add, z_sub, z_mul, z_neg, z_lt1, z_lt0, z_le1, z_le0, z_eq1, z_eq0, z_10, ↓reduceIte, z_v, z_upd, z_ue, z_un, z_ixn, z_ixo, z_ix0, z_ix1, z_ix2, z_ix3, z_ix4, z_ix5, z_ix6, Int.reduceToNat, z_inr, z_gd, ↓z_bnd, ↓z_jn, z_bdc, z_bd2, z_opn, z_ops, z_z01, z_Bt, z_Bf]
    rfl
theorem y_bd4 (h : W 13 2 = zI 4) : y_body W = y_B4 W := by
  unfold y_body
  rw [z_jn, h]
  simp (disch := omega) only [z_lit, z_n, z_add, z_sub, z_mul, z_neg, z_lt1, z_lt0, z_le1, z_le0, z_eq1, z_eq0, z_10, ↓reduceIte, z_v, z_upd, z_ue, z_un, z_ixn, z_ixo, z_ix0, z_ix1, z_ix2, z_ix3, z_ix4, z_ix5, z_ix6, Int.reduceToNat, z_inr, z_gd, ↓z_bnd, ↓z_jn, z_bdc, z_bd2, z_opn, z_ops, z_z01, z_Bt, z_Bf]
  rfl
theorem y_bd6 (h : W 13 2 = zI 6) : y_body W = y_B6 W := by
  unfold y_body
  rw [z_jn, h]
  simp (disch := omega) only [z_lit, z_n, z_add, z_sub, z_mul, z_neg, z_lt1, z_lt0, z_le1, z_le0, z_eq1, z_eq0, z_10, ↓reduceIte, z_v, z_upd, z_ue, z_un, z_ixn, z_ixo, z_ix0, z_ix1, z_ix2, z_ix3, z_ix4, z_ix5, z_ix6, Int.reduceToNat, z_inr, z_gd, ↓z_bnd, ↓z_jn, z_bdc, z_bd2, z_opn, z_ops, z_z01, z_Bt, z_Bf]
  rfl
theorem y_bd7 (h : W 13 2 = zI 7) : y_body W = y_B7 W := by
  unfold y_body
  rw [z_jn, h]
  simp (disch := omega) only [z_lit, z_n, z_add, z_sub, z_mul, z_neg, z_lt1, z_lt0, z_le1, z_le0, z_eq1, z_eq0, z_10, ↓reduceIte, z_v, z_upd, z_ue, z_un, z_ixn, z_ixo, z_ix0, z_ix1, z_ix2, z_ix3, z_ix4, z_ix5, z_ix6, Int.reduceToNat, z_inr, z_gd, ↓z_bnd, ↓z_jn, z_bdc, z_bd2, z_opn, z_ops, z_z01, z_Bt, z_Bf]
  rfl
theorem y_bd8 (h : W 13 2 = zI 8) : y_body W = y_B8 W := by
  unfold y_body
  rw [z_jn, h]
  simp (disch := omega) only [z_lit, z_n, z_add, z_sub, z_mul, z_neg, z_lt1, z_lt0, z_le1, z_le0, z_eq1, z_eq0, z_10, ↓reduceIte, z_v, z_upd, z_ue, z_un, z_ixn, z_ixo, z_ix0, z_ix1, z_ix2, z_ix3, z_ix4, z_ix5, z_ix6, Int.reduceToNat, z_inr, z_gd, ↓z_bnd, ↓z_jn, z_bdc, z_bd2, z_opn, z_ops, z_z01, z_Bt, z_Bf]
  rfl
theorem y_bd0 (h : W 13 2 = zI (-1)) : y_body W = y_end W := by
  unfold y_body
  rw [z_jn, h]
  simp (disch := omega) only [z_lit, z_n, z_add, z_sub, z_mul, z_neg, z_lt1, z_lt0, z_le1, z_le0, z_eq1, z_eq0, z_10, ↓reduceIte, z_v, z_upd, z_ue, z_un, z_ixn, z_ixo, z_ix0, z_ix1, z_ix2, z_ix3, z_ix4, z_ix5, z_ix6, Int.reduceToNat, z_inr, z_gd, ↓z_bnd, ↓z_jn, z_bdc, z_bd2, z_opn, z_ops, z_z01, z_Bt, z_Bf]
  rw [show tso (zI (-1)) 1 8 = true by decide, z_gd]
  rfl
/-- no room for one more -/
def y_full (k : Int) (s : Nat → Int) : Prop := ((k = 1 ∨ k = 2) ∧ 8 ≤ s 1) ∨ (k = 3 ∧ 12 ≤ s 2) ∨ (k = 4 ∧ 4 ≤ s 3) ∨ (k = 5 ∧ 12 ≤ s 4)
theorem y_isf (h : y_Cg b T n W0 s g p q kd W) {k : Int} (hk : 1 ≤ k ∧ k ≤ 8) : (y_full k s → f_X3_isFull W (zI k) = some (zI 1)) ∧ (¬ y_full k s → f_X3_isFull W (zI k) = some (zI 0)) := by
  obtain ⟨c0, c1, c2, c3, c4⟩ := h.2.2.2.2.2.1.1
  unfold f_X3_isFull y_full
  rw [h.2.2.2.2.1]
  have kk : k = 1 ∨ k = 2 ∨ k = 3 ∨ k = 4 ∨ k = 5 ∨ k = 6 ∨ k = 7 ∨ k = 8 := by omega
  rcases kk with e | e | e | e | e | e | e | e
  all_goals
    subst e
    constructor
    · intro f
      simp (disch := omega) only [z_lit, z_n, z_add, z_sub, z_mul, z_neg, z_lt1, z_lt0, z_le1, z_le0, z_eq1, z_eq0, z_10, ↓reduceIte, z_v, z_upd, z_ue, z_un, z_ixn, z_ixo, z_ix0, z_ix1, z_ix2, z_ix3, z_ix4, z_ix5, z_ix6, Int.reduceToNat, z_inr, z_gd, ↓z_bnd, ↓z_jn, z_bdc, z_bd2, z_opn, z_ops, z_z01, z_Bt, z_Bf]
      try (exfalso; omega)
    · intro f
      simp (disch := omega) only [z_lit, z_n, z_add, z_sub, z_mul, z_neg, z_lt1, z_lt0, z_le1, z_le0, z_eq1, z_eq0, z_10, ↓reduceIte, z_v, z_upd, z_ue, z_un, z_ixn, z_ixo, z_ix0, z_ix1, z_ix2, z_ix3, z_ix4, z_ix5, z_ix6, Int.reduceToNat, z_inr, z_gd, ↓z_bnd, ↓z_jn, z_bdc, z_bd2, z_opn, z_ops, z_z01, z_Bt, z_Bf]
      try rfl
theorem y_kc (h : y_Cg b T n W0 s g p q kd W) {k : Int} (hk : 1 ≤ k ∧ k ≤ 8) (ek : y_kn T p q = k) (t : z_tok T n q p' q' kd') : (¬ y_full k s → f_X3_readStatement W = y_body (w2 (y_Ctk W p' q' kd') 13 2 (zI k))) ∧ (y_full k s → ∃ W3, f_X3_readStatement W = y_body W3 ∧ y_Ce b T n W0 s g 6 (zI p) W3 ∧ W3 13 2 = zI k) := by
  obtain ⟨i1, i2⟩ := y_isf h hk
  rw [y_bdx]
  unfold f_X3_takeKeyword
  rw [y_Ckn h, ek, z_bdc, show (-1 : Int32) = zI (-1) from rfl, z_eqF (by omega) (by omega) (by omega) (by omega) (by omega)]
  refine ⟨fun f => ?_, fun f => ?_⟩
  · rw [i2 f, z_bdc, z_l0, if_pos rfl, (y_ga h t).1, z_bdc, z_bd2, z_bnd]
  · obtain ⟨W1, e1, w1, -⟩ := y_gf h (c := 6) (by omega)
    obtain ⟨W2, e2, w2'⟩ := y_Ta W1 w1
    rw [i1 f, z_bdc, z_l0, z_eqF (by omega) (by omega) (by omega) (by omega) (by omega), show (6 : Int32) = zI 6 from z_lit 6, e1, z_bdc, e2, z_bdc, z_bd2, z_bnd]
    exact ⟨_, rfl, y_Ce_13 w2' (by omega), z_w2e⟩
theorem y_kc0 (h : y_Cg b T n W0 s g p q kd W) (ek : y_kn T p q = -1) : ∃ W3, f_X3_readStatement W = y_body W3 ∧ y_Ce b T n W0 s g 1 (zI p) W3 ∧ W3 13 2 = zI (-1) := by
  rw [y_bdx]
  unfold f_X3_takeKeyword
  obtain ⟨W1, e1, w1, -⟩ := y_gf h (c := 1) (by omega)
  obtain ⟨W2, e2, w2'⟩ := y_Ta W1 w1
  rw [y_Ckn h, ek, z_bdc, show (-1 : Int32) = zI (-1) from rfl, if_pos rfl, z_l1, e1, z_bdc, e2, z_bdc, z_bd2, z_bnd]
  exact ⟨_, rfl, y_Ce_13 w2' (by omega), z_w2e⟩
noncomputable def y_RS (k : Int) (V : Nat → Nat → Int32) : Option (Nat → Nat → Int32) := if k = 1 then f_X10_readStation V (zI 0) else if k = 2 then f_X10_readStation V (zI 1) else if k = 3 then f_X10_readTrack V else if k = 4 then f_X10_readTrain V else if k = 5 then f_X10_readParcel V else if k = 6 then f_X10_readInspect V else if k = 7 then f_X10_readClose V else if k = 8 then f_X10_readRun V else bd2 (f_X10_check V (zI 0) (zI 1)) (fun v19 W18 => some W18)
theorem y_RSx (h : y_Rg b T n V0 s g p q kd V) : f_X10_readStatement V = y_RS (y_kn T p q) V := by
  obtain ⟨r, t⟩ := h.2.1.2.2.2.2.2
  have it := fun j (h1 : 1 ≤ j) (h8 : j ≤ 8) => y_Git h.1.2.2 h.2.1.2.1 h.2.1.2.2.1 h.2.1.2.2.2.1 t h1 h8
  have n0 : ¬ (zI 1 = 0) := by decide
  have p0 : zI 0 = 0 := rfl
  unfold f_X10_readStatement y_kn
  by_cases k1 : y_kw T p q 1
  · have k2 : ¬ y_kw T p q 2 := fun k2 => y_kw12 ⟨k1, k2⟩
    rw [y_ift k1, (it 1 (by omega) (by omega)).1 k1, z_bdc, z_jn, if_neg n0, (it 2 (by omega) (by omega)).2 k2, z_bdc, if_pos p0, z_bdi, z_l0]
    rfl
  rw [y_iff k1, (it 1 (by omega) (by omega)).2 k1, z_bdc, z_jn, if_pos p0]
  by_cases k2 : y_kw T p q 2
  · rw [y_ift k2, (it 2 (by omega) (by omega)).1 k2, z_bdc, if_neg n0, z_bdc, if_neg n0, z_bdi, z_l1]
    rfl
  rw [y_iff k2, (it 2 (by omega) (by omega)).2 k2, z_bdc, if_pos p0]
  by_cases k1 : y_kw T p q 3
  · rw [y_ift k1, (it 3 (by omega) (by omega)).1 k1, z_bdc, if_neg n0, z_bdi]; rfl
  rw [y_iff k1, (it 3 (by omega) (by omega)).2 k1, z_bdc, if_pos p0]
  by_cases k1 : y_kw T p q 4
  · rw [y_ift k1, (it 4 (by omega) (by omega)).1 k1, z_bdc, if_neg n0, z_bdi]; rfl
  rw [y_iff k1, (it 4 (by omega) (by omega)).2 k1, z_bdc, if_pos p0]
  by_cases k1 : y_kw T p q 5
  · rw [y_ift k1, (it 5 (by omega) (by omega)).1 k1, z_bdc, if_neg n0, z_bdi]; rfl
  rw [y_iff k1, (it 5 (by omega) (by omega)).2 k1, z_bdc, if_pos p0]
  by_cases k1 : y_kw T p q 6
  · rw [y_ift k1, (it 6 (by omega) (by omega)).1 k1, z_bdc, if_neg n0, z_bdi]; rfl
  rw [y_iff k1, (it 6 (by omega) (by omega)).2 k1, z_bdc, if_pos p0]
  by_cases k1 : y_kw T p q 7
  · rw [y_ift k1, (it 7 (by omega) (by omega)).1 k1, z_bdc, if_neg n0, z_bdi]; rfl
  rw [y_iff k1, (it 7 (by omega) (by omega)).2 k1, z_bdc, if_pos p0]
  by_cases k1 : y_kw T p q 8
  · rw [y_ift k1, (it 8 (by omega) (by omega)).1 k1, z_bdc, if_neg n0, z_bdi]; rfl
  rw [y_iff k1, (it 8 (by omega) (by omega)).2 k1, z_bdc, if_pos p0, z_l0, z_l1]
  rfl
/-- one statement, both sides -/
theorem y_stm (hb : 0 ≤ b ∧ b + 60 ≤ 1000000000) (hC : y_Cg b T n W0 s g p q kd W) (hR : y_Rg b T n V0 s g p q kd V) (z : y_z s g) : ∃ W'' V', (∀ x1 K, bdc (f_X3_readStatement W) (fun W12 => y_fin x1 K W12) = K W'') ∧ f_X10_readStatement V = some V' ∧ y_out (b + 60) T n W0 V0 q W'' V' := by
  have hbb := y_Cg_b hC
  obtain ⟨p1, q1, kd1, t1⟩ := z_tok_x (T := T) (n := n) (r := q) (by omega)
  have hC1 := (y_ga hC t1).2
  rw [y_RSx hR]
  obtain ⟨c0, c1, c2, c3, c4⟩ := hC.2.2.2.2.2.1.1
  have v22 : ∀ k, k < 7 → V 22 k = zI (s k) := fun k hk => by rw [hR.2.2.2.2.1 k (by omega), hR.2.2.2.2.2.2.1.1 k hk]
  rcases y_kn_b (T := T) (p := p) (q := q) with hk | hk
  · generalize ek : y_kn T p q = k at *
    obtain ⟨f1, f2⟩ := y_kc hC hk ek t1
    have hC2 := y_Cg_13 hC1 (k := 2) (by omega) (v := zI k)
    have e13 : w2 (y_Ctk W p1 q1 kd1) 13 2 (zI k) 13 2 = zI k := z_w2e
    have kk : (k = 1 ∨ k = 2) ∨ k = 3 ∨ k = 4 ∨ k = 5 ∨ k = 6 ∨ k = 7 ∨ k = 8 := by omega
    have gd1 : ∀ (Y : Option (Nat → Nat → Int32)) (B : (Nat → Nat → Int32) → Option (Nat → Nat → Int32)), (¬ y_full k s → y_body (w2 (y_Ctk W p1 q1 kd1) 13 2 (zI k)) = B (w2 (y_Ctk W p1 q1 kd1) 13 2 (zI k))) → ¬ y_full k s → (∃ W' W'' V', B (w2 (y_Ctk W p1 q1 kd1) 13 2 (zI k)) = some W' ∧ (∀ x1 K, y_fin x1 K W' = K W'') ∧ Y = some V' ∧ y_out (b + 60) T n W0 V0 q W'' V') → ∃ W'' V', (∀ x1 K, bdc (f_X3_readStatement W) (fun W12 => y_fin x1 K W12) = K W'') ∧ Y = some V' ∧ y_out (b + 60) T n W0 V0 q W'' V' := by
      intro Y B hB hf ⟨W', W'', V', j1, j2, j3, j4⟩
      refine ⟨W'', V', fun x1 K => ?_, j3, j4⟩
      rw [f1 hf, hB hf, j1, z_bdc, j2]
    have fu1 : ∀ (Y : Option (Nat → Nat → Int32)) (B : (Nat → Nat → Int32) → Option (Nat → Nat → Int32)), (∀ W3, W3 13 2 = zI k → y_body W3 = B W3) → y_T (y_Ce b T n W0 s g 6 (zI p)) B → y_full k s → (∃ V', Y = some V' ∧ y_Re T n V0 6 (zI p) V') → ∃ W'' V', (∀ x1 K, bdc (f_X3_readStatement W) (fun W12 => y_fin x1 K W12) = K W'') ∧ Y = some V' ∧ y_out (b + 60) T n W0 V0 q W'' V' := by
      intro Y B hB hT hf ⟨V', j1, j2⟩
      obtain ⟨W3, w1, w2', w3⟩ := f2 hf
      obtain ⟨W4, u1, u2⟩ := hT W3 w2'
      refine ⟨W4, V', fun x1 K => ?_, j1, y_ou_e u2 j2 (by omega)⟩
      rw [w1, hB W3 w3, u1, z_bdc, y_fin_e u2]
    obtain ⟨V6, r6, e6⟩ := y_rf hR (c := 6) (by omega)
    rcases kk with e | e | e | e | e | e | e
    · have er : y_RS k V = f_X10_readStation V (zI (k - 1)) := by
        rcases e with e | e <;> subst e <;> rfl
      rw [er]
      by_cases f : y_full k s
      · refine fu1 _ y_B1 (fun W3 h => y_bd1 (by rcases e with e | e <;> subst e <;> simp only [h, true_or, or_true])) y_B1e f ⟨V6, ?_, e6⟩
        rw [y_r1x, z_jn]
        unfold y_full at f
        simp (disch := omega) only [z_lit, z_n, z_add, z_sub, z_mul, z_neg, z_lt1, z_lt0, z_le1, z_le0, z_eq1, z_eq0, z_10, ↓reduceIte, z_v, z_upd, z_ue, z_un, z_ixn, z_ixo, z_ix0, z_ix1, z_ix2, z_ix3, z_ix4, z_ix5, z_ix6, Int.reduceToNat, z_inr, z_gd, ↓z_bnd, ↓z_jn, z_bdc, z_bd2, z_opn, z_ops, z_z01, z_Bt, z_Bf, v22]
        rw [r6, z_bd2, y_r1e e6]
      · refine gd1 _ y_B1 (fun _ => y_bd1 (by rcases e with e | e <;> subst e <;> simp only [e13, true_or, or_true])) f (y_J1 hb.1 (a := k - 1) (by omega) hC2 (by rw [e13]; congr 1; omega) hR t1 z (by unfold y_full at f; omega))
    · subst e
      show ∃ W'' V', _ ∧ f_X10_readTrack V = some V' ∧ _
      by_cases f : y_full 3 s
      · refine fu1 _ y_B3 (fun W3 h => y_bd3 (Or.inl h)) y_B3e f ⟨V6, ?_, e6⟩
        rw [y_r3x, z_jn]
        unfold y_full at f
        simp (disch := omega) only [z_lit, z_n, z_add, z_sub, z_mul, z_neg, z_lt1, z_lt0, z_le1, z_le0, z_eq1, z_eq0, z_10, ↓reduceIte, z_v, z_upd, z_ue, z_un, z_ixn, z_ixo, z_ix0, z_ix1, z_ix2, z_ix3, z_ix4, z_ix5, z_ix6, Int.reduceToNat, z_inr, z_gd, ↓z_bnd, ↓z_jn, z_bdc, z_bd2, z_opn, z_ops, z_z01, z_Bt, z_Bf, v22]
        rw [r6, z_bd2, y_r3e e6]
      · exact gd1 _ y_B3 (fun _ => y_bd3 (Or.inl e13)) f (y_J3 hb.1 hC2 e13 hR t1 z (by unfold y_full at f; omega))
    · subst e
      show ∃ W'' V', _ ∧ f_X10_readTrain V = some V' ∧ _
      by_cases f : y_full 4 s
      · refine fu1 _ y_B4 (fun W3 h => y_bd4 h) y_B4e f ⟨V6, ?_, e6⟩
        rw [y_r4xx, z_jn]
        unfold y_full at f
        simp (disch := omega) only [z_lit, z_n, z_add, z_sub, z_mul, z_neg, z_lt1, z_lt0, z_le1, z_le0, z_eq1, z_eq0, z_10, ↓reduceIte, z_v, z_upd, z_ue, z_un, z_ixn, z_ixo, z_ix0, z_ix1, z_ix2, z_ix3, z_ix4, z_ix5, z_ix6, Int.reduceToNat, z_inr, z_gd, ↓z_bnd, ↓z_jn, z_bdc, z_bd2, z_opn, z_ops, z_z01, z_Bt, z_Bf, v22]
        rw [r6, z_bd2, y_r4e e6]
      · exact gd1 _ y_B4 (fun _ => y_bd4 e13) f (y_J4 hb.1 hC2 e13 hR t1 z (by unfold y_full at f; omega))
    · subst e
      show ∃ W'' V', _ ∧ f_X10_readParcel V = some V' ∧ _
      by_cases f : y_full 5 s
      · refine fu1 _ y_B3 (fun W3 h => y_bd3 (Or.inr h)) y_B3e f ⟨V6, ?_, e6⟩
        rw [y_r5x, z_jn]
        unfold y_full at f
        simp (disch := omega) only [z_lit, z_n, z_add, z_sub, z_mul, z_neg, z_lt1, z_lt0, z_le1, z_le0, z_eq1, z_eq0, z_10, ↓reduceIte, z_v, z_upd, z_ue, z_un, z_ixn, z_ixo, z_ix0, z_ix1, z_ix2, z_ix3, z_ix4, z_ix5, z_ix6, Int.reduceToNat, z_inr, z_gd, ↓z_bnd, ↓z_jn, z_bdc, z_bd2, z_opn, z_ops, z_z01, z_Bt, z_Bf, v22]
        rw [r6, z_bd2, y_r5e e6]
      · exact gd1 _ y_B3 (fun _ => y_bd3 (Or.inr e13)) f (y_J5 hb.1 hC2 e13 hR t1 z (by unfold y_full at f; omega))
    · subst e
      exact gd1 _ y_B6 (fun _ => y_bd6 e13) (by unfold y_full; omega) (y_J6 hb.1 hC2 e13 hR t1 z)
    · subst e
      exact gd1 _ y_B7 (fun _ => y_bd7 e13) (by unfold y_full; omega) (y_J7 hb.1 hC2 e13 hR t1 z)
    · subst e
      exact gd1 _ y_B8 (fun _ => y_bd8 e13) (by unfold y_full; omega) (y_J8 hb.2 hC2 e13 hR t1 z)
  · obtain ⟨W3, w1, w2', w3⟩ := y_kc0 hC hk
    obtain ⟨W4, u1, u2⟩ := y_Ten W3 w2'
    obtain ⟨V1, r1, e1⟩ := y_rf hR (c := 1) (by omega)
    refine ⟨W4, V1, fun x1 K => ?_, ?_, y_ou_e u2 e1 (by omega)⟩
    · rw [w1, y_bd0 w3, u1, z_bdc, y_fin_e u2]
    · rw [hk]
      show bd2 (f_X10_check V (zI 0) (zI 1)) (fun v19 W18 => some W18) = some V1
      rw [r1, z_bd2]
end Pp
