/-! tracks, parcels, closed tracks -/
section Pj
variable {W W' W0 V V' V0 : Nat → Nat → Int32} {T : Nat → Int} {n r p q p' q' : Nat} {kd kd' : Int} {s s' g g' : Nat → Int} {b b' : Int} {c : Int} {x : Int32}
theorem y_JZ (hC : y_Cg b T n W0 s g p q kd W) (hR : y_Rg b T n V0 s g p q kd V) {k i : Int} (hk : k = 3 ∨ k = 5 ∨ k = 7) (h2 : W 13 2 = zI k) (h4 : W 13 4 = zI i) (hi : 0 ≤ i ∧ i < s 1) :
    (∃ c x v W' V', f_X3_takeSecondStation W = some (v, W') ∧ y_Ce b T n W0 s g c x W' ∧ f_X10_look V = some (zI 0, V') ∧ y_Re T n V0 c x V') ∨
    (∃ (j : Int) (v : Int32) (W' : Nat → Nat → Int32), (0 ≤ j ∧ j < s 1) ∧ y_bad k s i j ∧ f_X3_takeSecondStation W = some (v, W') ∧ y_Ce b T n W0 s g 5 (zI p) W' ∧ f_X10_look V = some (zI j, V)) ∨
    (∃ (j : Int) (p1 q1 : Nat) (kd1 : Int), (0 ≤ j ∧ j < s 1) ∧ ¬ y_bad k s i j ∧ f_X3_takeSecondStation W = some (zI j, y_Ctk W p1 q1 kd1) ∧ y_Cg b T n W0 s g p1 q1 kd1 (y_Ctk W p1 q1 kd1) ∧ f_X10_look V = some (zI j, V) ∧ z_tok T n q p1 q1 kd1) := by
  have hbb := y_Cg_b hC
  obtain ⟨p1, q1, kd1, t1⟩ := z_tok_x (T := T) (n := n) (r := q) (by omega)
  have sb := y_st_b (T := T) (p := p) (q := q) hC.2.2.2.2.2
  obtain ⟨a1, a2, a3, a4⟩ := y_g2 hC t1 hk h2 h4 hi
  obtain ⟨c1, c2, c3⟩ := y_lk hR
  by_cases e : kd = 1
  · by_cases d : y_st T s p q = -1
    · obtain ⟨v, W1, e1, w1⟩ := a2 e d
      obtain ⟨V1, e2, w2'⟩ := c2 e d
      exact Or.inl ⟨4, zI p, v, W1, V1, e1, w1, e2, w2'⟩
    · by_cases f : y_bad k s i (y_st T s p q)
      · obtain ⟨v, W1, e1, w1⟩ := a3 e d f
        exact Or.inr (Or.inl ⟨_, v, W1, by omega, f, e1, w1, c3 e d⟩)
      · exact Or.inr (Or.inr ⟨_, p1, q1, kd1, by omega, f, a4 e d f, (y_ga hC t1).2, c3 e d, t1⟩)
  · obtain ⟨v, W1, e1, w1⟩ := a1 e
    obtain ⟨V1, e2, w2'⟩ := c1 e
    exact Or.inl ⟨1, zI p, v, W1, V1, e1, w1, e2, w2'⟩
noncomputable def y_B3 (W3 : Nat → Nat → Int32) : Option (Nat → Nat → Int32) := bd2 (f_X3_takeStation W3) (fun v16 W15 => bnd (w2 W15 13 4 v16) (fun W17 => bd2 (f_X3_takeSecondStation W17) (fun v19 W18 => bnd (w2 W18 13 5 v19) (fun W20 => y_Kn (1 : Int32) (9 : Int32) W20))))
theorem y_B3e : y_T (y_Ce b T n W0 s g c x) y_B3 := y_T_2 y_Tst (fun v => y_T_n (fun W w => y_Ce_13 w (by omega)) (y_T_2 y_Tss (fun v => y_T_n (fun W w => y_Ce_13 w (by omega)) (y_Kne _ _))))
noncomputable def y_r3f (v8 v10 v21 : Int32) (W22 : Nat → Nat → Int32) : Option (Nat → Nat → Int32) := if (W22 30 9) = 0 then gd (inr (2 : Int32) 251) (bdc (f_X10_ofTrack (W22 22 (ix (2 : Int32)))) (fun v24 => gd (inr (v24 + (0 : Int32)) 251) (bnd (w2 W22 22 (ix (v24 + (0 : Int32))) v8) (fun W25 => gd (inr (v24 + (1 : Int32)) 251) (bnd (w2 W25 22 (ix (v24 + (1 : Int32))) v10) (fun W26 => gd (inr (v24 + (2 : Int32)) 251) (bnd (w2 W26 22 (ix (v24 + (2 : Int32))) v21) (fun W27 => gd (inr (v24 + (3 : Int32)) 251) (bnd (w2 W27 22 (ix (v24 + (3 : Int32))) (1 : Int32)) (fun W28 => gd (inr (2 : Int32) 251) (gd (inr (2 : Int32) 251) (bnd (w2 W28 22 (ix (2 : Int32)) ((W28 22 (ix (2 : Int32))) + (1 : Int32))) (fun W29 => some W29))))))))))))) else some W22
noncomputable def y_r3b (v8 v10 v12 : Int32) (W9 : Nat → Nat → Int32) : Option (Nat → Nat → Int32) := bd2 (f_X10_check W9 v12 (5 : Int32)) (fun v18 W17 => bdc (f_X10_next W17) (fun W19 => y_Rn (1 : Int32) (9 : Int32) (y_r3f v8 v10) W19))
noncomputable def y_r3a (v8 v10 : Int32) (W9 : Nat → Nat → Int32) : Option (Nat → Nat → Int32) := jn (fun (v12 : Int32) => y_r3b v8 v10 v12 W9) (fun j11 => if (W9 30 9) = 0 then if v8 = v10 then j11 (0 : Int32) else bdc (f_X10_between (pk (W9 22) (W9 27)) v8 v10) (fun v15 => if v15 = (-1 : Int32) then j11 (1 : Int32) else j11 (0 : Int32)) else j11 (1 : Int32))
noncomputable def y_r3 (W4 : Nat → Nat → Int32) : Option (Nat → Nat → Int32) := bdc (f_X10_next W4) (fun W6 => bd2 (f_X10_station W6) (fun v8 W7 => bd2 (f_X10_look W7) (fun v10 W9 => y_r3a v8 v10 W9)))
theorem y_r3x : f_X10_readTrack V = gd (inr (2 : Int32) 251) (jn (fun (v2 : Int32) => bd2 (f_X10_check V v2 (6 : Int32)) (fun v5 W4 => y_r3 W4)) (fun j1 => if (12 : Int32) ≤ (V 22 (ix (2 : Int32))) then j1 (0 : Int32) else j1 (1 : Int32))) := rfl
theorem y_r3fe (v8 v10 : Int32) (c x v V) (h : y_Re T n V0 c x V) : y_r3f v8 v10 v V = some V := by
  unfold y_r3f
  rw [y_r9 h]
theorem y_r3be (h : y_Re T n V0 c x V) (v8 v10 v : Int32) : y_r3b v8 v10 v V = some V := by
  unfold y_r3b
  rw [y_rx h, z_bd2, y_rn h, z_bdc, y_Rne h _ _ _ (fun v V h => y_r3fe _ _ _ _ v V h)]
theorem y_r3ae (h : y_Re T n V0 c x V) (v8 v10 : Int32) : y_r3a v8 v10 V = some V := by
  unfold y_r3a
  rw [z_jn, y_r9 h]
  exact y_r3be h _ _ _
theorem y_r3e (h : y_Re T n V0 c x V) : y_r3 V = some V := by
  unfold y_r3
  rw [y_rn h, z_bdc, y_ste h, z_bd2, y_lke h, z_bd2, y_r3ae h]
theorem y_ofK (i : Nat) : f_X10_ofTrack (zI (i : Int)) = some (zI ((39 + 4 * i : Nat) : Int)) := by
  unfold f_X10_ofTrack
  simp only [z_lit, z_mul, z_add]
  congr 2
theorem y_G2w {V : Nat → Nat → Int32} {m : Nat} {i j w : Int} (h : ∀ k, k < 251 → V 22 k = zI (g k)) (k : Nat) (hk : k < 251) : w2 (w2 (w2 (w2 (w2 V 22 (39 + 4 * m) (zI i)) 22 (39 + 4 * m + 1) (zI j)) 22 (39 + 4 * m + 2) (zI w)) 22 (39 + 4 * m + 3) (zI 1)) 22 2 (zI ((m : Int) + 1)) 22 k = zI (y_G2 g m i j w k) := by
  unfold y_G2
  by_cases d : k = 2
  · rw [d, z_w2e, z_ue rfl]
  rw [z_w2k d, z_un d]
  by_cases d : k = 39 + 4 * m + 3
  · rw [d, z_w2e, z_ue rfl]
  rw [z_w2k d, z_un d]
  by_cases d : k = 39 + 4 * m + 2
  · rw [d, z_w2e, z_ue rfl]
  rw [z_w2k d, z_un d]
  by_cases d : k = 39 + 4 * m + 1
  · rw [d, z_w2e, z_ue rfl]
  rw [z_w2k d, z_un d]
  by_cases d : k = 39 + 4 * m
  · rw [d, z_w2e, z_ue rfl]
  rw [z_w2k d, z_un d]
  exact h k hk
theorem y_J3 (hb : 0 ≤ b) (hC : y_Cg b T n W0 s g p q kd W) (h2 : W 13 2 = zI 3) {p0 q0 : Nat} {kd0 : Int} (hR : y_Rg b T n V0 s g p0 q0 kd0 V) (t0 : z_tok T n q0 p q kd) (z : y_z s g) (hf : s 2 < 12) : ∃ W' W'' V', y_B3 W = some W' ∧ (∀ x1 K, y_fin x1 K W' = K W'') ∧ f_X10_readTrack V = some V' ∧ y_out (b + 60) T n W0 V0 q0 W'' V' := by
  have hbb := y_Cg_b hC
  have tb0 := t0.1
  have cc1 := hC.2.2.2.2.2.1.1.2.1
  have cc2 := hC.2.2.2.2.2.1.1.2.2.1
  obtain ⟨V1, r1, hR1⟩ := y_ra hR t0
  have v22 : V 22 2 = zI (s 2) := by rw [hR.2.2.2.2.1 2 (by omega), hR.2.2.2.2.2.2.1.1 2 (by omega)]
  have eR : f_X10_readTrack V = bd2 (f_X10_station V1) (fun v8 W7 => bd2 (f_X10_look W7) (fun v10 W9 => y_r3a v8 v10 W9)) := by
    rw [y_r3x, z_jn]
    simp (disch := omega) only [z_lit, z_n, z_add, z_sub, z_mul, z_neg, z_lt1, z_lt0, z_le1, z_le0, z_eq1, z_eq0, z_10, ↓reduceIte, z_v, z_upd, z_ue, z_un, z_ixn, z_ixo, z_ix0, z_ix1, z_ix2, z_ix3, z_ix4, z_ix5, z_ix6, Int.reduceToNat, z_inr, z_gd, ↓z_bnd, ↓z_jn, z_bdc, z_bd2, z_opn, z_ops, z_z01, z_Bt, z_Bf, v22, y_rc hR]
    unfold y_r3
    rw [r1, z_bdc]
  rw [eR]
  unfold y_B3
  rcases y_JS hC hR1 with ⟨c, x, v, W1, V2, e1, w1, e2, w2'⟩ | ⟨i, p1, q1, kd1, V2, hi, e1, hC1, e2, hR2, hq1⟩
  · obtain ⟨v2, W2, e3, w3⟩ := y_Tss _ (y_Ce_13 w1 (k := 4) (by omega) (v := v))
    obtain ⟨W3, e4, w4⟩ := y_Kne (1 : Int32) (9 : Int32) _ (y_Ce_13 w3 (k := 5) (by omega) (v := v2))
    refine ⟨W3, W3, V2, ?_, fun x1 K => y_fin_e w4 x1 K, ?_, y_ou_e w4 w2' (by omega)⟩
    · rw [e1, z_bd2, z_bnd, e3, z_bd2, z_bnd, e4]
    · rw [e2, z_bd2, y_lke w2', z_bd2, y_r3ae w2']
  · have hb1 := y_Cg_b hC1
    have hC2 := y_Cg_13 hC1 (k := 4) (by omega) (v := zI i)
    have k2 : w2 (y_Ctk W p1 q1 kd1) 13 4 (zI i) 13 2 = zI 3 := by rw [z_w2k (by omega), y_Ctk_u (by omega)]; exact h2
    rcases y_JZ hC2 hR2 (k := 3) (by omega) k2 z_w2e hi with ⟨c, x, v, W2, V3, e3, w3, e4, w4⟩ | ⟨j, v, W2, hj, bad, e3, w3, e4⟩ | ⟨j, p2, q2, kd2, hj, bad, e3, hC3, e4, t2⟩
    · obtain ⟨W3, e5, w5⟩ := y_Kne (1 : Int32) (9 : Int32) _ (y_Ce_13 w3 (k := 5) (by omega) (v := v))
      refine ⟨W3, W3, V3, ?_, fun x1 K => y_fin_e w5 x1 K, ?_, y_ou_e w5 w4 (by omega)⟩
      · rw [e1, z_bd2, z_bnd, e3, z_bd2, z_bnd, e5]
      · rw [e2, z_bd2, e4, z_bd2, y_r3ae w4]
    all_goals
      obtain ⟨G, g1, g2, g3, g4⟩ := y_pk hR2.2.2.2.2.2 z hR2.2.2.2.2.1
      have bt := z_Gtk g2.1 g2.2.1 (x := i) (y := j) (by unfold zR; omega) (by unfold zR; omega)
      have tb := y_tk_b (i := i) (j := j) hC.2.2.2.2.2
      unfold y_bad at bad
    · obtain ⟨W3, e5, w5⟩ := y_Kne (1 : Int32) (9 : Int32) _ (y_Ce_13 w3 (k := 5) (by omega) (v := v))
      obtain ⟨V3, e6, w6⟩ := y_rf hR2 (c := 5) (by omega)
      refine ⟨W3, W3, V3, ?_, fun x1 K => y_fin_e w5 x1 K, ?_, y_ou_e w5 w6 (by omega)⟩
      · rw [e1, z_bd2, z_bnd, e3, z_bd2, z_bnd, e5]
      · rw [e2, z_bd2, e4, z_bd2]
        have e7 : y_r3b (zI i) (zI j) 0 V2 = some V3 := by
          unfold y_r3b
          rw [z_l0, show (5 : Int32) = zI 5 from z_lit 5, e6, z_bd2, y_rn w6, z_bdc, y_Rne w6 _ _ _ (fun v V h => y_r3fe _ _ _ _ v V h)]
        unfold y_r3a
        rw [z_jn, y_r0 hR2]
        by_cases d : i = j
        · rw [if_pos (by rw [d])]
          exact e7
        · rw [z_eqF d (by omega) (by omega) (by omega) (by omega), g1, bt, z_bdc, show (-1 : Int32) = zI (-1) from rfl, z_eqF (by omega) (by omega) (by omega) (by omega) (by omega)]
          exact e7
    · obtain ⟨V3, r3, hR3⟩ := y_ra hR2 t2
      have hb3 := y_Cg_b hC3
      have tb2 := t2.1
      have hC4 := y_Cg_13 hC3 (k := 5) (by omega) (v := zI j)
      have e7 : y_r3a (zI i) (zI j) V2 = y_Rn (zI 1) (zI 9) (y_r3f (zI i) (zI j)) V3 := by
        unfold y_r3a
        rw [z_jn, y_r0 hR2, z_eqF (by omega) (by omega) (by omega) (by omega) (by omega), g1, bt, z_bdc, show (-1 : Int32) = zI (-1) from rfl, z_eqT (by omega)]
        unfold y_r3b
        rw [z_l1]
        dsimp only
        rw [y_rc hR2, z_bd2, r3, z_bdc, z_l9]
      rcases y_JN hC4 hR3 (lo := 1) (hi := 9) (by omega) (by omega) (y_r3f (zI i) (zI j)) (fun c x v V h => y_r3fe _ _ c x v V h) with ⟨c, x, W3, V4, e8, w8, e9, w9⟩ | ⟨v, W3, V4, p3, q3, kd3, hv, e8, hC5, f6, fk, f14, e9, hR4, hq3⟩
      · refine ⟨W3, W3, V4, ?_, fun x1 K => y_fin_e w8 x1 K, ?_, y_ou_e w8 w9 (by omega)⟩
        · rw [e1, z_bd2, z_bnd, e3, z_bd2, z_bnd, z_l1, z_l9, e8]
        · rw [e2, z_bd2, e4, z_bd2, e7, e9]
      · have h13 : W3 13 2 = zI 3 := by rw [fk 2 (by omega), z_w2k (by omega), y_Ctk_u (by omega)]; exact k2
        have h134 : W3 13 4 = zI i := by rw [fk 4 (by omega), z_w2k (by omega), y_Ctk_u (by omega), z_w2e]
        have h135 : W3 13 5 = zI j := by rw [fk 5 (by omega), z_w2e]
        obtain ⟨m, hm⟩ : ∃ m : Nat, s 2 = m := ⟨(s 2).toNat, by omega⟩
        obtain ⟨s', i1, i2, i3⟩ := y_mtk hC.2.2.2.2.2 z hm (by omega) hi hj hv
        have ex : f_X3_execute W3 = some (zI 0, setU W3 2 (zV s')) := by
          unfold f_X3_execute
          rw [z_jn, h13, h134, h135, f6, hC5.2.2.2.2.1, i1]
          simp (disch := omega) only [z_lit, z_n, z_add, z_sub, z_mul, z_neg, z_lt1, z_lt0, z_le1, z_le0, z_eq1, z_eq0, z_10, ↓reduceIte, z_v, z_upd, z_ue, z_un, z_ixn, z_ixo, z_ix0, z_ix1, z_ix2, z_ix3, z_ix4, z_ix5, z_ix6, Int.reduceToNat, z_inr, z_gd, ↓z_bnd, ↓z_jn, z_bdc, z_bd2, z_opn, z_ops, z_z01, z_Bt, z_Bf]
          rw [z_sUu (by omega), h13]
          simp (disch := omega) only [z_lit, z_n, z_add, z_sub, z_mul, z_neg, z_lt1, z_lt0, z_le1, z_le0, z_eq1, z_eq0, z_10, ↓reduceIte, z_v, z_upd, z_ue, z_un, z_ixn, z_ixo, z_ix0, z_ix1, z_ix2, z_ix3, z_ix4, z_ix5, z_ix6, Int.reduceToNat, z_inr, z_gd, ↓z_bnd, ↓z_jn, z_bdc, z_bd2, z_opn, z_ops, z_z01, z_Bt, z_Bf]
        have w22 : V4 22 2 = zI m := by rw [hR4.2.2.2.2.1 2 (by omega), hR4.2.2.2.2.2.2.1.1 2 (by omega), hm]
        refine ⟨W3, _, w2 (w2 (w2 (w2 (w2 V4 22 (39 + 4 * m) (zI i)) 22 (39 + 4 * m + 1) (zI j)) 22 (39 + 4 * m + 2) (zI v)) 22 (39 + 4 * m + 3) (zI 1)) 22 2 (zI ((m : Int) + 1)), ?_, fun x1 K => y_fin_g hC5 ex x1 K, ?_, Or.inr ⟨_, _, p3, q3, kd3, y_Cg_le (y_Cg_s hC5 i2) (by omega), y_Rg_le (y_Rg_s hR4 i2 (fun k hk => y_G2w hR4.2.2.2.2.1 k hk) (by rw [z_w2u (by omega), z_w2u (by omega), z_w2u (by omega), z_w2u (by omega), z_w2u (by omega)]) (fun u a b _ => by rw [z_w2u a, z_w2u a, z_w2u a, z_w2u a, z_w2u a])) (by omega), i3, by omega⟩⟩
        · rw [e1, z_bd2, z_bnd, e3, z_bd2, z_bnd, z_l1, z_l9, e8]
        · rw [e2, z_bd2, e4, z_bd2, e7, e9]
          unfold y_r3f
          rw [y_r0 hR4]
          simp (disch := omega) only [z_lit, z_n, z_add, z_sub, z_mul, z_neg, z_lt1, z_lt0, z_le1, z_le0, z_eq1, z_eq0, z_10, ↓reduceIte, z_v, z_upd, z_ue, z_un, z_ixn, z_ixo, z_ix0, z_ix1, z_ix2, z_ix3, z_ix4, z_ix5, z_ix6, Int.reduceToNat, z_inr, z_gd, ↓z_bnd, ↓z_jn, z_bdc, z_bd2, z_opn, z_ops, z_z01, z_Bt, z_Bf, y_ofK, w22]
          rw [Nat.add_zero, z_w2k (by omega), z_w2k (by omega), z_w2k (by omega), z_w2k (by omega), w22, z_add]
end Pj
