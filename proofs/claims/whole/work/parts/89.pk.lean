section Pk
variable {W W' W0 V V' V0 : Nat → Nat → Int32} {T : Nat → Int} {n r p q p' q' : Nat} {kd kd' : Int} {s s' g g' : Nat → Int} {b b' : Int} {c : Int} {x : Int32}
noncomputable def y_r5f (v8 v10 v19 : Int32) (W20 : Nat → Nat → Int32) : Option (Nat → Nat → Int32) := if (W20 30 9) = 0 then bd2 (f_X10_layParcel (pk (W20 22) (W20 27)) v8 v10 v19) (fun v24 S23 => bnd (setQ W20 22 S23) (fun W22 => if 0 ≤ v24 then some W22 else bnd (w2 W22 30 9 (1 : Int32)) (fun W26 => some W26))) else some W20
noncomputable def y_r5b (v8 v10 v12 : Int32) (W9 : Nat → Nat → Int32) : Option (Nat → Nat → Int32) := bd2 (f_X10_check W9 v12 (5 : Int32)) (fun v18 W17 => bdc (f_X10_next W17) (fun W19 => y_Rn (1 : Int32) (9 : Int32) (y_r5f v8 v10) W19))
noncomputable def y_r5a (v8 v10 : Int32) (W9 : Nat → Nat → Int32) : Option (Nat → Nat → Int32) := jn (fun (v12 : Int32) => y_r5b v8 v10 v12 W9) (fun j11 => if (W9 30 9) = 0 then if v8 = v10 then j11 (0 : Int32) else j11 (1 : Int32) else j11 (1 : Int32))
noncomputable def y_r5 (W4 : Nat → Nat → Int32) : Option (Nat → Nat → Int32) := bdc (f_X10_next W4) (fun W6 => bd2 (f_X10_station W6) (fun v8 W7 => bd2 (f_X10_look W7) (fun v10 W9 => y_r5a v8 v10 W9)))
theorem y_r5x : f_X10_readParcel V = gd (inr (4 : Int32) 251) (jn (fun (v2 : Int32) => bd2 (f_X10_check V v2 (6 : Int32)) (fun v5 W4 => y_r5 W4)) (fun j1 => if (12 : Int32) ≤ (V 22 (ix (4 : Int32))) then j1 (0 : Int32) else j1 (1 : Int32))) := rfl
theorem y_r5fe (v8 v10 : Int32) (c x v V) (h : y_Re T n V0 c x V) : y_r5f v8 v10 v V = some V := by
  unfold y_r5f
  rw [y_r9 h]
theorem y_r5be (h : y_Re T n V0 c x V) (v8 v10 v : Int32) : y_r5b v8 v10 v V = some V := by
  unfold y_r5b
  rw [y_rx h, z_bd2, y_rn h, z_bdc, y_Rne h _ _ _ (fun v V h => y_r5fe _ _ _ _ v V h)]
theorem y_r5ae (h : y_Re T n V0 c x V) (v8 v10 : Int32) : y_r5a v8 v10 V = some V := by
  unfold y_r5a
  rw [z_jn, y_r9 h]
  exact y_r5be h _ _ _
theorem y_r5e (h : y_Re T n V0 c x V) : y_r5 V = some V := by
  unfold y_r5
  rw [y_rn h, z_bdc, y_ste h, z_bd2, y_lke h, z_bd2, y_r5ae h]
theorem y_J5 (hb : 0 ≤ b) (hC : y_Cg b T n W0 s g p q kd W) (h2 : W 13 2 = zI 5) {p0 q0 : Nat} {kd0 : Int} (hR : y_Rg b T n V0 s g p0 q0 kd0 V) (t0 : z_tok T n q0 p q kd) (z : y_z s g) (hf : s 4 < 12) : ∃ W' W'' V', y_B3 W = some W' ∧ (∀ x1 K, y_fin x1 K W' = K W'') ∧ f_X10_readParcel V = some V' ∧ y_out (b + 60) T n W0 V0 q0 W'' V' := by
  have hbb := y_Cg_b hC
  have tb0 := t0.1
  have cc1 := hC.2.2.2.2.2.1.1.2.1
  have cc2 := hC.2.2.2.2.2.1.1.2.2.1
  obtain ⟨V1, r1, hR1⟩ := y_ra hR t0
  have cc4 := hC.2.2.2.2.2.1.1.2.2.2.2
  have v22 : V 22 4 = zI (s 4) := by rw [hR.2.2.2.2.1 4 (by omega), hR.2.2.2.2.2.2.1.1 4 (by omega)]
  have eR : f_X10_readParcel V = bd2 (f_X10_station V1) (fun v8 W7 => bd2 (f_X10_look W7) (fun v10 W9 => y_r5a v8 v10 W9)) := by
    rw [y_r5x, z_jn]
    simp (disch := omega) only [z_lit, z_n, z_add, z_sub, z_mul, z_neg, z_lt1, z_lt0, z_le1, z_le0, z_eq1, z_eq0, z_10, ↓reduceIte, z_v, z_upd, z_ue, z_un, z_ixn, z_ixo, z_ix0, z_ix1, z_ix2, z_ix3, z_ix4, z_ix5, z_ix6, Int.reduceToNat, z_inr, z_gd, ↓z_bnd, ↓z_jn, z_bdc, z_bd2, z_opn, z_ops, z_z01, z_Bt, z_Bf, v22, y_rc hR]
    unfold y_r5
    rw [r1, z_bdc]
  rw [eR]
  unfold y_B3
  rcases y_JS hC hR1 with ⟨c, x, v, W1, V2, e1, w1, e2, w2'⟩ | ⟨i, p1, q1, kd1, V2, hi, e1, hC1, e2, hR2, hq1⟩
  · obtain ⟨v2, W2, e3, w3⟩ := y_Tss _ (y_Ce_13 w1 (k := 4) (by omega) (v := v))
    obtain ⟨W3, e4, w4⟩ := y_Kne (1 : Int32) (9 : Int32) _ (y_Ce_13 w3 (k := 5) (by omega) (v := v2))
    refine ⟨W3, W3, V2, ?_, fun x1 K => y_fin_e w4 x1 K, ?_, y_ou_e w4 w2' (by omega)⟩
    · rw [e1, z_bd2, z_bnd, e3, z_bd2, z_bnd, e4]
    · rw [e2, z_bd2, y_lke w2', z_bd2, y_r5ae w2']
  · have hb1 := y_Cg_b hC1
    have hC2 := y_Cg_13 hC1 (k := 4) (by omega) (v := zI i)
    have k2 : w2 (y_Ctk W p1 q1 kd1) 13 4 (zI i) 13 2 = zI 5 := by rw [z_w2k (by omega), y_Ctk_u (by omega)]; exact h2
    rcases y_JZ hC2 hR2 (k := 5) (by omega) k2 z_w2e hi with ⟨c, x, v, W2, V3, e3, w3, e4, w4⟩ | ⟨j, v, W2, hj, bad, e3, w3, e4⟩ | ⟨j, p2, q2, kd2, hj, bad, e3, hC3, e4, t2⟩
    · obtain ⟨W3, e5, w5⟩ := y_Kne (1 : Int32) (9 : Int32) _ (y_Ce_13 w3 (k := 5) (by omega) (v := v))
      refine ⟨W3, W3, V3, ?_, fun x1 K => y_fin_e w5 x1 K, ?_, y_ou_e w5 w4 (by omega)⟩
      · rw [e1, z_bd2, z_bnd, e3, z_bd2, z_bnd, e5]
      · rw [e2, z_bd2, e4, z_bd2, y_r5ae w4]
    all_goals
      obtain ⟨G, g1, g2, g3, g4⟩ := y_pk hR2.2.2.2.2.2 z hR2.2.2.2.2.1
      have bt := z_Gtk g2.1 g2.2.1 (x := i) (y := j) (by unfold zR; omega) (by unfold zR; omega)
      have tb := y_tk_b (i := i) (j := j) hC.2.2.2.2.2
      unfold y_bad at bad
    · obtain ⟨W3, e5, w5⟩ := y_Kne (1 : Int32) (9 : Int32) _ (y_Ce_13 w3 (k := 5) (by omega) (v := v))
      obtain ⟨V3, e6, w6⟩ := y_rf hR2 (c := 5) (by omega)
      refine ⟨W3, W3, V3, ?_, fun x1 K => y_fin_e w5 x1 K, ?_, y_ou_e w5 w6 (by omega)⟩
      · rw [e1, z_bd2, z_bnd, e3, z_bd2, z_bnd, e5]
      · rw [e2, z_bd2, e4, z_bd2]
        have e7 : y_r5b (zI i) (zI j) 0 V2 = some V3 := by
          unfold y_r5b
          rw [z_l0, show (5 : Int32) = zI 5 from z_lit 5, e6, z_bd2, y_rn w6, z_bdc, y_Rne w6 _ _ _ (fun v V h => y_r5fe _ _ _ _ v V h)]
        unfold y_r5a
        rw [z_jn, y_r0 hR2, if_pos (by rw [show i = j by omega])]
        exact e7
    · obtain ⟨V3, r3, hR3⟩ := y_ra hR2 t2
      have hb3 := y_Cg_b hC3
      have tb2 := t2.1
      have hC4 := y_Cg_13 hC3 (k := 5) (by omega) (v := zI j)
      have e7 : y_r5a (zI i) (zI j) V2 = y_Rn (zI 1) (zI 9) (y_r5f (zI i) (zI j)) V3 := by
        unfold y_r5a
        rw [z_jn, y_r0 hR2, z_eqF (by omega) (by omega) (by omega) (by omega) (by omega)]
        unfold y_r5b
        rw [z_l1]
        dsimp only
        rw [y_rc hR2, z_bd2, r3, z_bdc, z_l9]
      rcases y_JN hC4 hR3 (lo := 1) (hi := 9) (by omega) (by omega) (y_r5f (zI i) (zI j)) (fun c x v V h => y_r5fe _ _ c x v V h) with ⟨c, x, W3, V4, e8, w8, e9, w9⟩ | ⟨v, W3, V4, p3, q3, kd3, hv, e8, hC5, f6, fk, f14, e9, hR4, hq3⟩
      · refine ⟨W3, W3, V4, ?_, fun x1 K => y_fin_e w8 x1 K, ?_, y_ou_e w8 w9 (by omega)⟩
        · rw [e1, z_bd2, z_bnd, e3, z_bd2, z_bnd, z_l1, z_l9, e8]
        · rw [e2, z_bd2, e4, z_bd2, e7, e9]
      · have h13 : W3 13 2 = zI 5 := by rw [fk 2 (by omega), z_w2k (by omega), y_Ctk_u (by omega)]; exact k2
        have h134 : W3 13 4 = zI i := by rw [fk 4 (by omega), z_w2k (by omega), y_Ctk_u (by omega), z_w2e]
        have h135 : W3 13 5 = zI j := by rw [fk 5 (by omega), z_w2e]
        obtain ⟨G4, q1', q2', q3', q4'⟩ := y_pk hR4.2.2.2.2.2 z hR4.2.2.2.2.1
        obtain ⟨s', g', i1, i2, i3, i4⟩ := y_pcl q2' q3' hi hj hv hf
        have ex : f_X3_execute W3 = some (zI 0, setU W3 2 (zV s')) := by
          unfold f_X3_execute
          rw [z_jn, h13, h134, h135, f6, hC5.2.2.2.2.1, i1]
          simp (disch := omega) only [z_lit, z_n, z_add, z_sub, z_mul, z_neg, z_lt1, z_lt0, z_le1, z_le0, z_eq1, z_eq0, z_10, ↓reduceIte, z_v, z_upd, z_ue, z_un, z_ixn, z_ixo, z_ix0, z_ix1, z_ix2, z_ix3, z_ix4, z_ix5, z_ix6, Int.reduceToNat, z_inr, z_gd, ↓z_bnd, ↓z_jn, z_bdc, z_bd2, z_opn, z_ops, z_z01, z_Bt, z_Bf]
          rw [z_sUu (by omega), h13]
          simp (disch := omega) only [z_lit, z_n, z_add, z_sub, z_mul, z_neg, z_lt1, z_lt0, z_le1, z_le0, z_eq1, z_eq0, z_10, ↓reduceIte, z_v, z_upd, z_ue, z_un, z_ixn, z_ixo, z_ix0, z_ix1, z_ix2, z_ix3, z_ix4, z_ix5, z_ix6, Int.reduceToNat, z_inr, z_gd, ↓z_bnd, ↓z_jn, z_bdc, z_bd2, z_opn, z_ops, z_z01, z_Bt, z_Bf]
        refine ⟨W3, _, setQ V4 22 (zV g'), ?_, fun x1 K => y_fin_g hC5 ex x1 K, ?_, Or.inr ⟨_, _, p3, q3, kd3, y_Cg_le (y_Cg_s hC5 i3) (by omega), y_Rg_le (y_Rg_s hR4 i3 (fun k hk => by rw [z_sQu (by omega)]; rfl) (z_sQx (by omega) (by omega)) (fun u a b _ => z_sQx a b)) (by omega), i4, by omega⟩⟩
        · rw [e1, z_bd2, z_bnd, e3, z_bd2, z_bnd, z_l1, z_l9, e8]
        · rw [e2, z_bd2, e4, z_bd2, e7, e9]
          unfold y_r5f
          rw [y_r0 hR4, q1', i2]
          simp (disch := omega) only [z_lit, z_n, z_add, z_sub, z_mul, z_neg, z_lt1, z_lt0, z_le1, z_le0, z_eq1, z_eq0, z_10, ↓reduceIte, z_v, z_upd, z_ue, z_un, z_ixn, z_ixo, z_ix0, z_ix1, z_ix2, z_ix3, z_ix4, z_ix5, z_ix6, Int.reduceToNat, z_inr, z_gd, ↓z_bnd, ↓z_jn, z_bdc, z_bd2, z_opn, z_ops, z_z01, z_Bt, z_Bf]
end Pk
