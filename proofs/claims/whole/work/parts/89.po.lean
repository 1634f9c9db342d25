section Po
variable {W W' W0 V V' V0 : Nat → Nat → Int32} {T : Nat → Int} {n r p q p' q' : Nat} {kd kd' : Int} {s s' g g' : Nat → Int} {b b' : Int} {c : Int} {x : Int32}
noncomputable def y_B4 (W3 : Nat → Nat → Int32) : Option (Nat → Nat → Int32) := bd2 (f_X3_takeNumber W3 (1 : Int32) (4 : Int32)) (fun v26 W25 => bnd (w2 W25 13 6 v26) (fun W27 => bdc (f_X3_takeRoute W27) (fun W28 => y_end W28)))
theorem y_B4e : y_T (y_Ce b T n W0 s g c x) y_B4 := y_T_2 (y_Tnm _ _) (fun v => y_T_n (fun W w => y_Ce_13 w (by omega)) (y_T_b y_Trt y_Ten))
noncomputable def y_r4f (v10 v12 x38 : Int32) (W39 : Nat → Nat → Int32) : Option (Nat → Nat → Int32) := if (W39 30 9) = 0 then gd (inr (v10 + (0 : Int32)) 251) (bnd (w2 W39 22 (ix (v10 + (0 : Int32))) v12) (fun W41 => gd (inr (v10 + (1 : Int32)) 251) (bnd (w2 W41 22 (ix (v10 + (1 : Int32))) x38) (fun W42 => gd (inr (v10 + (9 : Int32)) 251) (bnd (w2 W42 22 (ix (v10 + (9 : Int32))) (1 : Int32)) (fun W43 => gd (inr (v10 + (10 : Int32)) 251) (bnd (w2 W43 22 (ix (v10 + (10 : Int32))) (-1 : Int32)) (fun W44 => gd (inr (3 : Int32) 251) (gd (inr (3 : Int32) 251) (bnd (w2 W44 22 (ix (3 : Int32)) ((W44 22 (ix (3 : Int32))) + (1 : Int32))) (fun W45 => some W45))))))))))) else some W39
noncomputable def y_r4K (v10 v12 : Int32) (x37 : Nat → Nat → Int32) (x38 : Int32) : Option (Nat → Nat → Int32) := bdc (f_X10_finish x37) (fun W39 => y_r4f v10 v12 x38 W39)
noncomputable def y_r4a (v8 : Int32) (W6 : Nat → Nat → Int32) : Option (Nat → Nat → Int32) := bdc (f_X10_ofTrain v8) (fun v10 => bd2 (f_X10_number W6 (1 : Int32) (4 : Int32)) (fun v12 W11 => l_X10_readTrain_59 v10 v12 (y_r4K v10 v12) FU W11 (0 : Int32)))
noncomputable def y_r4 (W4 : Nat → Nat → Int32) : Option (Nat → Nat → Int32) := bdc (f_X10_next W4) (fun W6 => gd (inr (3 : Int32) 251) (jn (fun (v8 : Int32) => y_r4a v8 W6) (fun j7 => if (4 : Int32) ≤ (W6 22 (ix (3 : Int32))) then j7 (0 : Int32) else gd (inr (3 : Int32) 251) (j7 (W6 22 (ix (3 : Int32)))))))
theorem y_r4xx : f_X10_readTrain V = gd (inr (3 : Int32) 251) (jn (fun (v2 : Int32) => bd2 (f_X10_check V v2 (6 : Int32)) (fun v5 W4 => y_r4 W4)) (fun j1 => if (4 : Int32) ≤ (V 22 (ix (3 : Int32))) then j1 (0 : Int32) else j1 (1 : Int32))) := rfl
theorem y_r4Ke (h : y_Re T n V0 c x V) (a d e : Int32) : y_r4K a d V e = some V := by
  unfold y_r4K
  rw [y_fie h, z_bdc]
  unfold y_r4f
  rw [y_r9 h]
theorem y_r4lo (h : y_Re T n V0 c x V) (a d e : Int32) : l_X10_readTrain_59 a d (y_r4K a d) FU V e = some V := by
  unfold FU
  rw [y_r4x, y_r9 h]
  exact y_r4Ke h _ _ _
theorem y_r4ae (h : y_Re T n V0 c x V) (a : Int32) : y_r4a a V = some V := by
  unfold y_r4a
  have : ∃ v, f_X10_ofTrain a = some v := ⟨_, rfl⟩
  obtain ⟨v, hv⟩ := this
  rw [hv, z_bdc, y_nue h, z_bd2, y_r4lo h]
theorem y_r4e (h : y_Re T n V0 c x V) : y_r4 V = some V := by
  unfold y_r4
  have i3 : inr (3 : Int32) 251 = true := by decide
  rw [y_rn h, z_bdc, i3, z_gd, z_jn]
  split
  · exact y_r4ae h _
  · rw [z_gd]
    exact y_r4ae h _
theorem y_G3w {V : Nat → Nat → Int32} {m : Nat} {i j : Int} (h : ∀ k, k < 251 → V 22 k = zI (g k)) (k : Nat) (hk : k < 251) : w2 (w2 (w2 (w2 (w2 V 22 (87 + 14 * m) (zI i)) 22 (87 + 14 * m + 1) (zI j)) 22 (87 + 14 * m + 9) (zI 1)) 22 (87 + 14 * m + 10) (zI (-1))) 22 3 (zI ((m : Int) + 1)) 22 k = zI (y_G3 g m i j k) := by
  unfold y_G3
  by_cases d : k = 3
  · rw [d, z_w2e, z_ue rfl]
  rw [z_w2k d, z_un d]
  by_cases d : k = 87 + 14 * m + 10
  · rw [d, z_w2e, z_ue rfl]
  rw [z_w2k d, z_un d]
  by_cases d : k = 87 + 14 * m + 9
  · rw [d, z_w2e, z_ue rfl]
  rw [z_w2k d, z_un d]
  by_cases d : k = 87 + 14 * m + 1
  · rw [d, z_w2e, z_ue rfl]
  rw [z_w2k d, z_un d]
  by_cases d : k = 87 + 14 * m
  · rw [d, z_w2e, z_ue rfl]
  rw [z_w2k d, z_un d]
  exact h k hk
theorem y_J4 (hb : 0 ≤ b) (hC : y_Cg b T n W0 s g p q kd W) (h2 : W 13 2 = zI 4) {p0 q0 : Nat} {kd0 : Int} (hR : y_Rg b T n V0 s g p0 q0 kd0 V) (t0 : z_tok T n q0 p q kd) (z : y_z s g) (hf : s 3 < 4) : ∃ W' W'' V', y_B4 W = some W' ∧ (∀ x1 K, y_fin x1 K W' = K W'') ∧ f_X10_readTrain V = some V' ∧ y_out (b + 60) T n W0 V0 q0 W'' V' := by
  have hbb := y_Cg_b hC
  have tb0 := t0.1
  have cc3 := hC.2.2.2.2.2.1.1.2.2.2.1
  obtain ⟨m, hm⟩ : ∃ m : Nat, s 3 = m := ⟨(s 3).toNat, by omega⟩
  obtain ⟨V1, r1, hR1⟩ := y_ra hR t0
  have v22 : V 22 3 = zI (s 3) := by rw [hR.2.2.2.2.1 3 (by omega), hR.2.2.2.2.2.2.1.1 3 (by omega)]
  have v22b : V1 22 3 = zI (s 3) := by rw [hR1.2.2.2.2.1 3 (by omega), hR.2.2.2.2.2.2.1.1 3 (by omega)]
  have eR : f_X10_readTrain V = bd2 (f_X10_number V1 (zI 1) (zI 4)) (fun v12 W11 => l_X10_readTrain_59 (zI ((87 + 14 * m : Nat) : Int)) v12 (y_r4K (zI ((87 + 14 * m : Nat) : Int)) v12) FU W11 (zI 0)) := by
    rw [y_r4xx, z_jn]
    simp (disch := omega) only [z_lit, z_n, z_add, z_sub, z_mul, z_neg, z_lt1, z_lt0, z_le1, z_le0, z_eq1, z_eq0, z_10, ↓reduceIte, z_v, z_upd, z_ue, z_un, z_ixn, z_ixo, z_ix0, z_ix1, z_ix2, z_ix3, z_ix4, z_ix5, z_ix6, Int.reduceToNat, z_inr, z_gd, ↓z_bnd, ↓z_jn, z_bdc, z_bd2, z_opn, z_ops, z_z01, z_Bt, z_Bf, v22, y_rc hR]
    unfold y_r4
    rw [r1, z_bdc, z_jn]
    simp (disch := omega) only [z_lit, z_n, z_add, z_sub, z_mul, z_neg, z_lt1, z_lt0, z_le1, z_le0, z_eq1, z_eq0, z_10, ↓reduceIte, z_v, z_upd, z_ue, z_un, z_ixn, z_ixo, z_ix0, z_ix1, z_ix2, z_ix3, z_ix4, z_ix5, z_ix6, Int.reduceToNat, z_inr, z_gd, ↓z_bnd, ↓z_jn, z_bdc, z_bd2, z_opn, z_ops, z_z01, z_Bt, z_Bf, v22b]
    unfold y_r4a
    rw [hm, z_ofT, z_bdc, z_l1, show (4 : Int32) = zI 4 from z_lit 4, z_l0]
  rw [eR]
  unfold y_B4
  obtain ⟨p1, q1, kd1, t1⟩ := z_tok_x (T := T) (n := n) (r := q) (by omega)
  have tb1 := t1.1
  obtain ⟨a1, a2, a3⟩ := y_gn hC t1 (lo := 1) (hi := 4) (by omega) (by omega)
  obtain ⟨c1, c2, c3⟩ := y_nu hR1 t1 (lo := 1) (hi := 4) (by omega) (by omega)
  rw [z_l1, show (4 : Int32) = zI 4 from z_lit 4]
  have ee : ∀ d, (∃ v W', f_X3_takeNumber W (zI 1) (zI 4) = some (v, W') ∧ y_Ce b T n W0 s g d (zI p) W') → (∃ v V', f_X10_number V1 (zI 1) (zI 4) = some (v, V') ∧ y_Re T n V0 d (zI p) V') → ∃ W' W'' V', bd2 (f_X3_takeNumber W (zI 1) (zI 4)) (fun v26 W25 => bnd (w2 W25 13 6 v26) (fun W27 => bdc (f_X3_takeRoute W27) (fun W28 => y_end W28))) = some W' ∧ (∀ x1 K, y_fin x1 K W' = K W'') ∧ bd2 (f_X10_number V1 (zI 1) (zI 4)) (fun v12 W11 => l_X10_readTrain_59 (zI ((87 + 14 * m : Nat) : Int)) v12 (y_r4K (zI ((87 + 14 * m : Nat) : Int)) v12) FU W11 (zI 0)) = some V' ∧ y_out (b + 60) T n W0 V0 q0 W'' V' := by
    intro d ⟨v, W2, e1, w1⟩ ⟨v', V2, e2, w2'⟩
    obtain ⟨W3, e3, w3⟩ := y_Trt _ (y_Ce_13 w1 (k := 6) (by omega) (v := v))
    obtain ⟨W4, e4, w4⟩ := y_Ten _ w3
    refine ⟨W4, W4, V2, ?_, fun x1 K => y_fin_e w4 x1 K, ?_, y_ou_e w4 w2' (by omega)⟩
    · rw [e1, z_bd2, z_bnd, e3, z_bdc, e4]
    · rw [e2, z_bd2, y_r4lo w2']
  by_cases k2 : kd = 2
  · by_cases k3 : 1 ≤ y_cv T p (q - p) ∧ y_cv T p (q - p) ≤ 4
    · obtain ⟨V2, e2, hR2⟩ := c3 k2 k3
      have e1 := a3 k2 k3
      have hC2 := (y_ga hC t1).2
      generalize y_cv T p (q - p) = v at *
      have hC3 := y_Cg_13 (y_Cg_13 hC2 (k := 6) (by omega) (v := zI v)) (k := 7) (by omega) (v := zI 0)
      have x6 : w2 (w2 (y_Ctk W p1 q1 kd1) 13 6 (zI v)) 13 7 (zI 0) 13 6 = zI v := by rw [z_w2k (by omega), z_w2e]
      have x2 : w2 (w2 (y_Ctk W p1 q1 kd1) 13 6 (zI v)) 13 7 (zI 0) 13 2 = zI 4 := by rw [z_w2k (by omega), z_w2k (by omega), y_Ctk_u (by omega)]; exact h2
      have x7 : w2 (w2 (y_Ctk W p1 q1 kd1) 13 6 (zI v)) 13 7 (zI 0) 13 7 = zI 0 := z_w2e
      have eC : bd2 (f_X3_takeNumber W (zI 1) (zI 4)) (fun v26 W25 => bnd (w2 W25 13 6 v26) (fun W27 => bdc (f_X3_takeRoute W27) (fun W28 => y_end W28))) = bdc (l_X3_takeRoute_7 FU (w2 (w2 (y_Ctk W p1 q1 kd1) 13 6 (zI v)) 13 7 (zI 0)) (zI 0)) (fun W28 => y_end W28) := by
        rw [e1, z_bd2, z_bnd]
        unfold f_X3_takeRoute
        rw [z_bnd, z_l0]
      rw [eC, e2, z_bd2]
      generalize w2 (w2 (y_Ctk W p1 q1 kd1) 13 6 (zI v)) 13 7 (zI 0) = X at *
      rcases y_JR hm (by omega) (c2 := zI v) (y_r4K (zI ((87 + 14 * m : Nat) : Int)) (zI v)) 7 0 FU FU X V2 g (fun _ => 0) p1 q1 kd1 (by omega) (by unfold FU; omega) (by unfold FU; omega) hC3 hR2 z ⟨fun j hj => by omega, fun j hj => by omega, fun j hj => by omega, fun j hj => by omega, x7⟩ (by omega) with ⟨c, y, W', V', x', g', f1, f2, f3, f4⟩ | ⟨x', W', V', g', ro', p', q', kd', f1, f2, f3, f4, f5, f6, f7, f8, f9, f10, f11⟩
      · obtain ⟨W4, e4, w4⟩ := y_Ten _ f2
        rw [show zI ((0 : Nat) : Int) = zI 0 from rfl] at f1 f3
        refine ⟨W4, W4, V', ?_, fun x1 K => y_fin_e w4 x1 K, ?_, y_ou_e w4 f4 (by omega)⟩
        · rw [f1, z_bdc, e4]
        · rw [f3, y_r4Ke f4]
      · have hb5 := y_Cg_b f5
        obtain ⟨p2, q2, kd2, t2⟩ := z_tok_x (T := T) (n := n) (r := q') (by omega)
        have tb2 := t2.1
        obtain ⟨d3, d4⟩ := y_fi f3 t2
        obtain ⟨d1, d2⟩ := y_ge f5 t2
        rw [show zI ((0 : Nat) : Int) = zI 0 from rfl] at f2 f11
        rcases f11 with ⟨i1, i2⟩ | ⟨i1, W4, i2, i3⟩
        · obtain ⟨V3, e4, hR3⟩ := d4 i1
          have e3 := d2 i1
          have hC4 := (y_ga f5 t2).2
          obtain ⟨y1, y2, y3, y4, y5⟩ := f6
          have fu : ∀ k, y_Ctk W' p2 q2 kd2 13 k = W' 13 k := fun k => by rw [y_Ctk_u (by omega)]
          have fu4 : ∀ k, y_Ctk W' p2 q2 kd2 14 k = W' 14 k := fun k => by rw [y_Ctk_u (by omega)]
          generalize y_Ctk W' p2 q2 kd2 = Z at *
          obtain ⟨s', j1, j2, j3⟩ := y_mtr f5.2.2.2.2.2 f4 hm (by omega) (c := v) (by omega) f1 (r := ro') (R0 := ints 6 (Z 14)) y2 y3 y4 (fun j hj => by
            unfold ints
            rw [if_pos (by omega), fu4, y1 j hj])
          have h13 : Z 13 2 = zI 4 := by rw [fu, f7, x2]
          have h136 : Z 13 6 = zI v := by rw [fu, f8, x6]
          have h137 : Z 13 7 = zI x' := by rw [fu, y5]
          have ex : f_X3_execute Z = some (zI 0, setU Z 2 (zV s')) := by
            unfold f_X3_execute
            rw [z_jn, h13, h136, h137, hC4.2.2.2.2.1, j1]
            simp (disch := omega) only [z_lit, z_n, z_add, z_sub, z_mul, z_neg, z_lt1, z_lt0, z_le1, z_le0, z_eq1, z_eq0, z_10, ↓reduceIte, z_v, z_upd, z_ue, z_un, z_ixn, z_ixo, z_ix0, z_ix1, z_ix2, z_ix3, z_ix4, z_ix5, z_ix6, Int.reduceToNat, z_inr, z_gd, ↓z_bnd, ↓z_jn, z_bdc, z_bd2, z_opn, z_ops, z_z01, z_Bt, z_Bf]
            rw [z_sUu (by omega), h13]
            simp (disch := omega) only [z_lit, z_n, z_add, z_sub, z_mul, z_neg, z_lt1, z_lt0, z_le1, z_le0, z_eq1, z_eq0, z_10, ↓reduceIte, z_v, z_upd, z_ue, z_un, z_ixn, z_ixo, z_ix0, z_ix1, z_ix2, z_ix3, z_ix4, z_ix5, z_ix6, Int.reduceToNat, z_inr, z_gd, ↓z_bnd, ↓z_jn, z_bdc, z_bd2, z_opn, z_ops, z_z01, z_Bt, z_Bf]
          have w22 : V3 22 3 = zI m := by rw [hR3.2.2.2.2.1 3 (by omega), hR3.2.2.2.2.2.2.1.1 3 (by omega), hm]
          refine ⟨Z, _, w2 (w2 (w2 (w2 (w2 V3 22 (87 + 14 * m) (zI v)) 22 (87 + 14 * m + 1) (zI x')) 22 (87 + 14 * m + 9) (zI 1)) 22 (87 + 14 * m + 10) (zI (-1))) 22 3 (zI ((m : Int) + 1)), ?_, fun x1 K => y_fin_g hC4 ex x1 K, ?_, Or.inr ⟨_, _, p2, q2, kd2, y_Cg_le (y_Cg_s hC4 j2) (by omega), y_Rg_le (y_Rg_s hR3 j2 (fun k hk => y_G3w hR3.2.2.2.2.1 k hk) (by rw [z_w2u (by omega), z_w2u (by omega), z_w2u (by omega), z_w2u (by omega), z_w2u (by omega)]) (fun u a b _ => by rw [z_w2u a, z_w2u a, z_w2u a, z_w2u a, z_w2u a])) (by omega), j3, by omega⟩⟩
          · rw [i2, z_bdc, e3]
          · rw [f2]
            unfold y_r4K
            rw [e4, z_bdc]
            unfold y_r4f
            rw [y_r0 hR3]
            simp (disch := omega) only [z_lit, z_n, z_add, z_sub, z_mul, z_neg, z_lt1, z_lt0, z_le1, z_le0, z_eq1, z_eq0, z_10, ↓reduceIte, z_v, z_upd, z_ue, z_un, z_ixn, z_ixo, z_ix0, z_ix1, z_ix2, z_ix3, z_ix4, z_ix5, z_ix6, Int.reduceToNat, z_inr, z_gd, ↓z_bnd, ↓z_jn, z_bdc, z_bd2, z_opn, z_ops, z_z01, z_Bt, z_Bf, w22]
            rw [Nat.add_zero, z_w2k (by omega), z_w2k (by omega), z_w2k (by omega), z_w2k (by omega), w22, z_add]
        · obtain ⟨V3, e4, w4⟩ := d3 i1
          obtain ⟨W5, e5, w5⟩ := y_Ten _ i3
          refine ⟨W5, W5, V3, ?_, fun x1 K => y_fin_e w5 x1 K, ?_, y_ou_e w5 w4 (by omega)⟩
          · rw [i2, z_bdc, e5]
          · rw [f2]
            unfold y_r4K
            rw [e4, z_bdc]
            unfold y_r4f
            rw [y_r9 w4]
    · exact ee 2 (a2 k2 k3) (c2 k2 k3)
  · exact ee 1 (a1 k2) (c1 k2)
end Po
