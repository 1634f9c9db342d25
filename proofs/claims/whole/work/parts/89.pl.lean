/-! closed tracks, stations -/
section Pl
variable {W W' W0 V V' V0 : Nat → Nat → Int32} {T : Nat → Int} {n r p q p' q' : Nat} {kd kd' : Int} {s s' g g' : Nat → Int} {b b' : Int} {c : Int} {x : Int32}
/-- the end of a statement, both sides -/
theorem y_JE (hC : y_Cg b T n W0 s g p q kd W) (hR : y_Rg b T n V0 s g p q kd V) : (∃ c x W' V', y_end W = some W' ∧ y_Ce b T n W0 s g c x W' ∧ f_X10_finish V = some V' ∧ y_Re T n V0 c x V') ∨ (∃ (p1 q1 : Nat) (kd1 : Int) (V' : Nat → Nat → Int32), y_end W = some (y_Ctk W p1 q1 kd1) ∧ y_Cg b T n W0 s g p1 q1 kd1 (y_Ctk W p1 q1 kd1) ∧ f_X10_finish V = some V' ∧ y_Rg b T n V0 s g p1 q1 kd1 V' ∧ q ≤ p1) := by
  have hbb := y_Cg_b hC
  obtain ⟨p1, q1, kd1, t1⟩ := z_tok_x (T := T) (n := n) (r := q) (by omega)
  obtain ⟨d1, d2⟩ := y_ge hC t1
  obtain ⟨d3, d4⟩ := y_fi hR t1
  by_cases k : kd = 3
  · obtain ⟨V3, e4, hR3⟩ := d4 k
    exact Or.inr ⟨p1, q1, kd1, V3, d2 k, (y_ga hC t1).2, e4, hR3, t1.1⟩
  · obtain ⟨W3, e3, w3⟩ := d1 k
    obtain ⟨V3, e4, w4⟩ := d3 k
    exact Or.inl ⟨1, zI p, W3, V3, e3, w3, e4, w4⟩
noncomputable def y_B7 (W3 : Nat → Nat → Int32) : Option (Nat → Nat → Int32) := bd2 (f_X3_takeStation W3) (fun v48 W47 => bnd (w2 W47 13 4 v48) (fun W49 => bd2 (f_X3_takeSecondStation W49) (fun v51 W50 => bnd (w2 W50 13 5 v51) (fun W52 => y_end W52))))
theorem y_B7e : y_T (y_Ce b T n W0 s g c x) y_B7 := y_T_2 y_Tst (fun v => y_T_n (fun W w => y_Ce_13 w (by omega)) (y_T_2 y_Tss (fun v => y_T_n (fun W w => y_Ce_13 w (by omega)) y_Ten)))
noncomputable def y_r7f (v7 : Int32) (W17 : Nat → Nat → Int32) : Option (Nat → Nat → Int32) := if (W17 30 9) = 0 then bdc (f_X10_ofTrack v7) (fun v19 => gd (inr (v19 + (3 : Int32)) 251) (bnd (w2 W17 22 (ix (v19 + (3 : Int32))) (0 : Int32)) (fun W20 => some W20))) else some W17
noncomputable def y_r7b (v7 v11 : Int32) (W4 : Nat → Nat → Int32) : Option (Nat → Nat → Int32) := bd2 (f_X10_check W4 v11 (5 : Int32)) (fun v15 W14 => bdc (f_X10_next W14) (fun W16 => bdc (f_X10_finish W16) (fun W17 => y_r7f v7 W17)))
noncomputable def y_r7a (v3 v5 : Int32) (W4 : Nat → Nat → Int32) : Option (Nat → Nat → Int32) := jn (fun (v7 : Int32) => jn (fun (v11 : Int32) => y_r7b v7 v11 W4) (fun j10 => if (W4 30 9) = 0 then if v7 = (-1 : Int32) then j10 (0 : Int32) else j10 (1 : Int32) else j10 (1 : Int32))) (fun j6 => if (W4 30 9) = 0 then bdc (f_X10_between (pk (W4 22) (W4 27)) v3 v5) (fun v9 => j6 v9) else j6 (0 : Int32))
theorem y_r7x : f_X10_readClose V = bdc (f_X10_next V) (fun W1 => bd2 (f_X10_station W1) (fun v3 W2 => bd2 (f_X10_look W2) (fun v5 W4 => y_r7a v3 v5 W4))) := rfl
theorem y_r7be (h : y_Re T n V0 c x V) (v7 v : Int32) : y_r7b v7 v V = some V := by
  unfold y_r7b
  rw [y_rx h, z_bd2, y_rn h, z_bdc, y_fie h, z_bdc]
  unfold y_r7f
  rw [y_r9 h]
theorem y_r7ae (h : y_Re T n V0 c x V) (v3 v5 : Int32) : y_r7a v3 v5 V = some V := by
  unfold y_r7a
  rw [z_jn, y_r9 h]
  dsimp only
  rw [z_jn, y_r9 h]
  exact y_r7be h _ _
theorem y_J7 (hb : 0 ≤ b) (hC : y_Cg b T n W0 s g p q kd W) (h2 : W 13 2 = zI 7) {p0 q0 : Nat} {kd0 : Int} (hR : y_Rg b T n V0 s g p0 q0 kd0 V) (t0 : z_tok T n q0 p q kd) (z : y_z s g) : ∃ W' W'' V', y_B7 W = some W' ∧ (∀ x1 K, y_fin x1 K W' = K W'') ∧ f_X10_readClose V = some V' ∧ y_out (b + 60) T n W0 V0 q0 W'' V' := by
  have hbb := y_Cg_b hC
  have tb0 := t0.1
  have cc1 := hC.2.2.2.2.2.1.1.2.1
  have cc2 := hC.2.2.2.2.2.1.1.2.2.1
  obtain ⟨V1, r1, hR1⟩ := y_ra hR t0
  rw [y_r7x, r1, z_bdc]
  unfold y_B7
  rcases y_JS hC hR1 with ⟨c, x, v, W1, V2, e1, w1, e2, w2'⟩ | ⟨i, p1, q1, kd1, V2, hi, e1, hC1, e2, hR2, hq1⟩
  · obtain ⟨v2, W2, e3, w3⟩ := y_Tss _ (y_Ce_13 w1 (k := 4) (by omega) (v := v))
    obtain ⟨W3, e4, w4⟩ := y_Ten _ (y_Ce_13 w3 (k := 5) (by omega) (v := v2))
    refine ⟨W3, W3, V2, ?_, fun x1 K => y_fin_e w4 x1 K, ?_, y_ou_e w4 w2' (by omega)⟩
    · rw [e1, z_bd2, z_bnd, e3, z_bd2, z_bnd, e4]
    · rw [e2, z_bd2, y_lke w2', z_bd2, y_r7ae w2']
  · have hb1 := y_Cg_b hC1
    have hC2 := y_Cg_13 hC1 (k := 4) (by omega) (v := zI i)
    have k2 : w2 (y_Ctk W p1 q1 kd1) 13 4 (zI i) 13 2 = zI 7 := by rw [z_w2k (by omega), y_Ctk_u (by omega)]; exact h2
    rcases y_JZ hC2 hR2 (k := 7) (by omega) k2 z_w2e hi with ⟨c, x, v, W2, V3, e3, w3, e4, w4⟩ | ⟨j, v, W2, hj, bad, e3, w3, e4⟩ | ⟨j, p2, q2, kd2, hj, bad, e3, hC3, e4, t2⟩
    · obtain ⟨W3, e5, w5⟩ := y_Ten _ (y_Ce_13 w3 (k := 5) (by omega) (v := v))
      refine ⟨W3, W3, V3, ?_, fun x1 K => y_fin_e w5 x1 K, ?_, y_ou_e w5 w4 (by omega)⟩
      · rw [e1, z_bd2, z_bnd, e3, z_bd2, z_bnd, e5]
      · rw [e2, z_bd2, e4, z_bd2, y_r7ae w4]
    all_goals
      obtain ⟨G, g1, g2, g3, g4⟩ := y_pk hR2.2.2.2.2.2 z hR2.2.2.2.2.1
      have bt := z_Gtk g2.1 g2.2.1 (x := i) (y := j) (by unfold zR; omega) (by unfold zR; omega)
      have tb := y_tk_b (i := i) (j := j) hC.2.2.2.2.2
      have ctk := z_Ctk hC.2.2.2.2.2.1 (x := i) (y := j) (by unfold zR; omega) (by unfold zR; omega)
      unfold y_bad at bad
      have ea : y_r7a (zI i) (zI j) V2 = if z_oi (z_tk s i j) = -1 then y_r7b (zI (z_oi (z_tk s i j))) 0 V2 else y_r7b (zI (z_oi (z_tk s i j))) 1 V2 := by
        unfold y_r7a
        rw [z_jn, y_r0 hR2, g1, bt, z_bdc]
        dsimp only
        rw [z_jn, y_r0 hR2, show (-1 : Int32) = zI (-1) from rfl]
        by_cases d : z_oi (z_tk s i j) = -1
        · rw [if_pos d, z_eqT d]
        · rw [if_neg d, z_eqF d (by omega) (by omega) (by omega) (by omega)]
      generalize z_oi (z_tk s i j) = y at *
    · obtain ⟨W3, e5, w5⟩ := y_Ten _ (y_Ce_13 w3 (k := 5) (by omega) (v := v))
      obtain ⟨V3, e6, w6⟩ := y_rf hR2 (c := 5) (by omega)
      refine ⟨W3, W3, V3, ?_, fun x1 K => y_fin_e w5 x1 K, ?_, y_ou_e w5 w6 (by omega)⟩
      · rw [e1, z_bd2, z_bnd, e3, z_bd2, z_bnd, e5]
      · rw [e2, z_bd2, e4, z_bd2, ea, if_pos (by omega)]
        unfold y_r7b y_r7f
        rw [z_l0, show (5 : Int32) = zI 5 from z_lit 5, e6, z_bd2, y_rn w6, z_bdc, y_fie w6, z_bdc, ← z_l0, y_r9 w6]
    · obtain ⟨V3, r3, hR3⟩ := y_ra hR2 t2
      have hb3 := y_Cg_b hC3
      have tb2 := t2.1
      have hC4 := y_Cg_13 hC3 (k := 5) (by omega) (v := zI j)
      have e7 : y_r7a (zI i) (zI j) V2 = bdc (f_X10_finish V3) (fun W17 => y_r7f (zI y) W17) := by
        rw [ea, if_neg (by omega)]
        unfold y_r7b
        rw [z_l1, y_rc hR2, z_bd2, r3, z_bdc]
      rcases y_JE hC4 hR3 with ⟨c, x, W3, V4, e8, w8, e9, w9⟩ | ⟨p3, q3, kd3, V4, e8, hC5, e9, hR4, hq3⟩
      · refine ⟨W3, W3, V4, ?_, fun x1 K => y_fin_e w8 x1 K, ?_, y_ou_e w8 w9 (by omega)⟩
        · rw [e1, z_bd2, z_bnd, e3, z_bd2, z_bnd, e8]
        · rw [e2, z_bd2, e4, z_bd2, e7, e9, z_bdc]
          unfold y_r7f
          rw [y_r9 w9]
      · generalize hX : y_Ctk (w2 (y_Ctk (w2 (y_Ctk W p1 q1 kd1) 13 4 (zI i)) p2 q2 kd2) 13 5 (zI j)) p3 q3 kd3 = X at *
        have fk : ∀ k, k ≠ 5 → X 13 k = w2 (y_Ctk W p1 q1 kd1) 13 4 (zI i) 13 k := fun k hk => by rw [← hX, y_Ctk_u (by omega), z_w2k hk, y_Ctk_u (by omega)]
        have h13 : X 13 2 = zI 7 := by rw [fk 2 (by omega)]; exact k2
        have h134 : X 13 4 = zI i := by rw [fk 4 (by omega), z_w2e]
        have h135 : X 13 5 = zI j := by rw [← hX, y_Ctk_u (by omega), z_w2e]
        obtain ⟨m, rfl⟩ : ∃ m : Nat, y = m := ⟨y.toNat, by omega⟩
        obtain ⟨s', i1, i2, i3⟩ := y_cls hC.2.2.2.2.2 z (i := m) (by omega)
        have ex : f_X3_execute X = some (zI 0, setU X 2 (zV s')) := by
          unfold f_X3_execute
          rw [z_jn, h13, h134, h135, hC5.2.2.2.2.1, ctk]
          simp (disch := omega) only [z_lit, z_n, z_add, z_sub, z_mul, z_neg, z_lt1, z_lt0, z_le1, z_le0, z_eq1, z_eq0, z_10, ↓reduceIte, z_v, z_upd, z_ue, z_un, z_ixn, z_ixo, z_ix0, z_ix1, z_ix2, z_ix3, z_ix4, z_ix5, z_ix6, Int.reduceToNat, z_inr, z_gd, ↓z_bnd, ↓z_jn, z_bdc, z_bd2, z_opn, z_ops, z_z01, z_Bt, z_Bf, i1]
          rw [z_sUu (by omega), h13]
          simp (disch := omega) only [z_lit, z_n, z_add, z_sub, z_mul, z_neg, z_lt1, z_lt0, z_le1, z_le0, z_eq1, z_eq0, z_10, ↓reduceIte, z_v, z_upd, z_ue, z_un, z_ixn, z_ixo, z_ix0, z_ix1, z_ix2, z_ix3, z_ix4, z_ix5, z_ix6, Int.reduceToNat, z_inr, z_gd, ↓z_bnd, ↓z_jn, z_bdc, z_bd2, z_opn, z_ops, z_z01, z_Bt, z_Bf]
        refine ⟨X, _, w2 V4 22 (39 + 4 * m + 3) (zI 0), ?_, fun x1 K => y_fin_g hC5 ex x1 K, ?_, Or.inr ⟨_, _, p3, q3, kd3, y_Cg_le (y_Cg_s hC5 i2) (by omega), y_Rg_le (y_Rg_s hR4 i2 (fun k hk => ?_) (z_w2u (by omega)) (fun u a b _ => z_w2u a)) (by omega), i3, by omega⟩⟩
        · rw [e1, z_bd2, z_bnd, e3, z_bd2, z_bnd, e8]
        · rw [e2, z_bd2, e4, z_bd2, e7, e9, z_bdc]
          unfold y_r7f
          rw [y_r0 hR4]
          simp (disch := omega) only [z_lit, z_n, z_add, z_sub, z_mul, z_neg, z_lt1, z_lt0, z_le1, z_le0, z_eq1, z_eq0, z_10, ↓reduceIte, z_v, z_upd, z_ue, z_un, z_ixn, z_ixo, z_ix0, z_ix1, z_ix2, z_ix3, z_ix4, z_ix5, z_ix6, Int.reduceToNat, z_inr, z_gd, ↓z_bnd, ↓z_jn, z_bdc, z_bd2, z_opn, z_ops, z_z01, z_Bt, z_Bf, y_ofK]
        · by_cases d : k = 39 + 4 * m + 3
          · rw [d, z_w2e, z_ue rfl]
          · rw [z_w2k d, z_un d]
            exact hR4.2.2.2.2.1 k hk
end Pl
