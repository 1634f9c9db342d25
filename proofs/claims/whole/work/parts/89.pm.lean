section Pm
variable {W W' W0 V V' V0 : Nat → Nat → Int32} {T : Nat → Int} {n r p q p' q' : Nat} {kd kd' : Int} {s s' g g' : Nat → Int} {b b' : Int} {c : Int} {x : Int32}
noncomputable def y_B1 (W3 : Nat → Nat → Int32) : Option (Nat → Nat → Int32) := bd2 (f_X3_takeNewName W3) (fun v8 W7 => bnd (w2 W7 13 3 v8) (fun W9 => y_end W9))
theorem y_B1e : y_T (y_Ce b T n W0 s g c x) y_B1 := y_T_2 y_Tnn (fun v => y_T_n (fun W w => y_Ce_13 w (by omega)) y_Ten)
noncomputable def y_r1f (a1 v25 : Int32) (W29 : Nat → Nat → Int32) : Option (Nat → Nat → Int32) := if (W29 30 9) = 0 then gd (inr (1 : Int32) 251) (bdc (f_X10_ofStation (W29 22 (ix (1 : Int32)))) (fun v31 => gd (inr (v31 + (0 : Int32)) 251) (bnd (w2 W29 22 (ix (v31 + (0 : Int32))) v25) (fun W32 => gd (inr (v31 + (1 : Int32)) 251) (bnd (w2 W32 22 (ix (v31 + (1 : Int32))) a1) (fun W33 => gd (inr (1 : Int32) 251) (gd (inr (1 : Int32) 251) (bnd (w2 W33 22 (ix (1 : Int32)) ((W33 22 (ix (1 : Int32))) + (1 : Int32))) (fun W34 => some W34))))))))) else some W29
noncomputable def y_r1d (a1 : Int32) (W22 : Nat → Nat → Int32) : Option (Nat → Nat → Int32) := jn (fun (v25 : Int32) => bdc (f_X10_next W22) (fun W28 => bdc (f_X10_finish W28) (fun W29 => y_r1f a1 v25 W29))) (fun j24 => if (W22 30 9) = 0 then bdc (f_X10_nameHere W22) (fun v27 => j24 v27) else j24 (0 : Int32))
noncomputable def y_r1c (a1 : Int32) (W15 : Nat → Nat → Int32) : Option (Nat → Nat → Int32) := jn (fun (v18 : Int32) => bd2 (f_X10_check W15 v18 (3 : Int32)) (fun v23 W22 => y_r1d a1 W22)) (fun j17 => if (W15 30 9) = 0 then bdc (f_X10_named W15) (fun v20 => if v20 = (-1 : Int32) then j17 (1 : Int32) else j17 (0 : Int32)) else j17 (1 : Int32))
noncomputable def y_r1b (a1 : Int32) (W10 : Nat → Nat → Int32) : Option (Nat → Nat → Int32) := jn (fun (v13 : Int32) => bd2 (f_X10_check W10 v13 (2 : Int32)) (fun v16 W15 => y_r1c a1 W15)) (fun j12 => if (4 : Int32) < (W10 30 8) then j12 (0 : Int32) else j12 (1 : Int32))
noncomputable def y_r1a (a1 : Int32) (W6 : Nat → Nat → Int32) : Option (Nat → Nat → Int32) := jn (fun (v8 : Int32) => bd2 (f_X10_check W6 v8 (1 : Int32)) (fun v11 W10 => y_r1b a1 W10)) (fun j7 => if (W6 30 6) = (3 : Int32) then j7 (1 : Int32) else j7 (0 : Int32))
noncomputable def y_r1 (a1 : Int32) (W4 : Nat → Nat → Int32) : Option (Nat → Nat → Int32) := bdc (f_X10_next W4) (fun W6 => y_r1a a1 W6)
theorem y_r1x (a1 : Int32) : f_X10_readStation V a1 = gd (inr (1 : Int32) 251) (jn (fun (v2 : Int32) => bd2 (f_X10_check V v2 (6 : Int32)) (fun v5 W4 => y_r1 a1 W4)) (fun j1 => if (8 : Int32) ≤ (V 22 (ix (1 : Int32))) then j1 (0 : Int32) else j1 (1 : Int32))) := rfl
theorem y_r1de (h : y_Re T n V0 c x V) (a1 : Int32) : y_r1d a1 V = some V := by
  unfold y_r1d
  rw [z_jn, y_r9 h]
  dsimp only
  rw [y_rn h, z_bdc, y_fie h, z_bdc]
  unfold y_r1f
  rw [y_r9 h]
theorem y_r1ce (h : y_Re T n V0 c x V) (a1 : Int32) : y_r1c a1 V = some V := by
  unfold y_r1c
  rw [z_jn, y_r9 h]
  dsimp only
  rw [y_rx h, z_bd2, y_r1de h]
theorem y_r1be (h : y_Re T n V0 c x V) (a1 : Int32) : y_r1b a1 V = some V := by
  unfold y_r1b
  rw [z_jn]
  have e : ∀ v, (bd2 (f_X10_check V v (2 : Int32)) (fun v16 W15 => y_r1c a1 W15)) = some V := fun v => by rw [y_rx h, z_bd2, y_r1ce h]
  split
  · exact e 0
  · exact e 1
theorem y_r1ae (h : y_Re T n V0 c x V) (a1 : Int32) : y_r1a a1 V = some V := by
  unfold y_r1a
  rw [z_jn]
  have e : ∀ v, (bd2 (f_X10_check V v (1 : Int32)) (fun v16 W15 => y_r1b a1 W15)) = some V := fun v => by rw [y_rx h, z_bd2, y_r1be h]
  split
  · exact e 1
  · exact e 0
theorem y_r1e (h : y_Re T n V0 c x V) (a1 : Int32) : y_r1 a1 V = some V := by
  unfold y_r1
  rw [y_rn h, z_bdc, y_r1ae h]
theorem y_G1w {V : Nat → Nat → Int32} {m : Nat} {i j : Int} (h : ∀ k, k < 251 → V 22 k = zI (g k)) (k : Nat) (hk : k < 251) : w2 (w2 (w2 V 22 (7 + 4 * m) (zI i)) 22 (7 + 4 * m + 1) (zI j)) 22 1 (zI ((m : Int) + 1)) 22 k = zI (y_G1 g m i j k) := by
  unfold y_G1
  by_cases d : k = 1
  · rw [d, z_w2e, z_ue rfl]
  rw [z_w2k d, z_un d]
  by_cases d : k = 7 + 4 * m + 1
  · rw [d, z_w2e, z_ue rfl]
  rw [z_w2k d, z_un d]
  by_cases d : k = 7 + 4 * m
  · rw [d, z_w2e, z_ue rfl]
  rw [z_w2k d, z_un d]
  exact h k hk
theorem y_J1 (hb : 0 ≤ b) {a : Int} (ha : a = 0 ∨ a = 1) (hC : y_Cg b T n W0 s g p q kd W) (h2 : W 13 2 = zI (a + 1)) {p0 q0 : Nat} {kd0 : Int} (hR : y_Rg b T n V0 s g p0 q0 kd0 V) (t0 : z_tok T n q0 p q kd) (z : y_z s g) (hf : s 1 < 8) : ∃ W' W'' V', y_B1 W = some W' ∧ (∀ x1 K, y_fin x1 K W' = K W'') ∧ f_X10_readStation V (zI a) = some V' ∧ y_out (b + 60) T n W0 V0 q0 W'' V' := by
  have hbb := y_Cg_b hC
  have tb0 := t0.1
  have cc1 := hC.2.2.2.2.2.1.1.2.1
  obtain ⟨V1, r1, hR1⟩ := y_ra hR t0
  have v22 : V 22 1 = zI (s 1) := by rw [hR.2.2.2.2.1 1 (by omega), hR.2.2.2.2.2.2.1.1 1 (by omega)]
  have eR : f_X10_readStation V (zI a) = y_r1a (zI a) V1 := by
    rw [y_r1x, z_jn]
    simp (disch := omega) only [z_lit, z_n, z_add, z_sub, z_mul, z_neg, z_lt1, z_lt0, z_le1, z_le0, z_eq1, z_eq0, z_10, ↓reduceIte, z_v, z_upd, z_ue, z_un, z_ixn, z_ixo, z_ix0, z_ix1, z_ix2, z_ix3, z_ix4, z_ix5, z_ix6, Int.reduceToNat, z_inr, z_gd, ↓z_bnd, ↓z_jn, z_bdc, z_bd2, z_opn, z_ops, z_z01, z_Bt, z_Bf, v22, y_rc hR]
    unfold y_r1
    rw [r1, z_bdc]
  rw [eR]
  unfold y_B1
  obtain ⟨p1, q1, kd1, t1⟩ := z_tok_x (T := T) (n := n) (r := q) (by omega)
  have tb1 := t1.1
  obtain ⟨a1, a2, a3, a4⟩ := y_gw hC t1
  have sb := y_st_b (T := T) (p := p) (q := q) hC.2.2.2.2.2
  have ee : ∀ d, (∃ v W', f_X3_takeNewName W = some (v, W') ∧ y_Ce b T n W0 s g d (zI p) W') → (∃ V', y_r1a (zI a) V1 = some V' ∧ y_Re T n V0 d (zI p) V') → ∃ W' W'' V', bd2 (f_X3_takeNewName W) (fun v8 W7 => bnd (w2 W7 13 3 v8) (fun W9 => y_end W9)) = some W' ∧ (∀ x1 K, y_fin x1 K W' = K W'') ∧ y_r1a (zI a) V1 = some V' ∧ y_out (b + 60) T n W0 V0 q0 W'' V' := by
    intro d ⟨v, W2, e1, w1⟩ ⟨V2, e2, w2'⟩
    obtain ⟨W3, e3, w3⟩ := y_Ten _ (y_Ce_13 w1 (k := 3) (by omega) (v := v))
    refine ⟨W3, W3, V2, ?_, fun x1 K => y_fin_e w3 x1 K, e2, y_ou_e w3 w2' (by omega)⟩
    rw [e1, z_bd2, z_bnd, e3]
  have k3 := y_rk3 hbb.2.2.2.1
  obtain ⟨r0, tt⟩ := hC.2.1.2.2.2
  by_cases e : kd = 1
  · subst e
    have hw := y_tkw tt
    have h6 : V1 30 6 = zI 3 := hR1.2.1.2.2.1
    have h8 : V1 30 8 = zI ((q - p : Nat) : Int) := by rw [hR1.2.1.2.2.2.1, if_pos rfl]
    have ea : y_r1a (zI a) V1 = y_r1b (zI a) V1 := by
      unfold y_r1a
      rw [z_jn, h6, show (3 : Int32) = zI 3 from z_lit 3, if_pos rfl, z_l1]
      dsimp only
      rw [y_rc hR1, z_bd2]
    by_cases d : q - p ≤ 4
    · have eb : y_r1b (zI a) V1 = y_r1c (zI a) V1 := by
        unfold y_r1b
        rw [z_jn, h8, show (4 : Int32) = zI 4 from z_lit 4, z_ltF (by omega) (by omega) (by omega), z_l1]
        dsimp only
        rw [y_rc hR1, z_bd2]
      have nd := y_Gnd hR1.1.2.2 hR1.2.2.2.2.2.1 hR1.2.2.2.2.2.2.1 hR1.2.2.2.2.1 hR1.2.1.2.1 h8 hw
      rw [show z_oi (y_fs s (y_wn T p q)) = y_st T s p q from rfl] at nd
      by_cases f : y_st T s p q = -1
      · have ec : y_r1c (zI a) V1 = y_r1d (zI a) V1 := by
          unfold y_r1c
          rw [z_jn, y_r0 hR1, nd, z_bdc, show (-1 : Int32) = zI (-1) from rfl, z_eqT f, z_l1]
          dsimp only
          rw [y_rc hR1, z_bd2]
        have nh := y_Gnh hR1.1.2.2 hR1.2.1.2.1 h8 (by omega) (by omega) d (fun k a b => hw.2.2.1 k a b)
        obtain ⟨l1, l2⟩ := y_wlt hw d
        obtain ⟨V2, r2, hR2⟩ := y_ra hR1 t1
        have hb1 := y_Rg_b hR2
        have ed : y_r1d (zI a) V1 = bdc (f_X10_finish V2) (fun W29 => y_r1f (zI a) (zI (((y_lt T p q 0 * 27 + y_lt T p q 1) * 27 + y_lt T p q 2) * 27 + y_lt T p q 3)) W29) := by
          unfold y_r1d
          rw [z_jn, y_r0 hR1, nh, z_bdc]
          dsimp only
          rw [r2, z_bdc]
        have e1 := a4 rfl d f
        have ewn : y_wn T p q = z_pk (y_lt T p q 0) (y_lt T p q 1) (y_lt T p q 2) (y_lt T p q 3) := by rw [l2]; exact if_pos d
        rw [ewn] at e1
        have hC2 := y_Cg_13 (y_ga hC t1).2 (k := 3) (by omega) (v := zI (z_pk (y_lt T p q 0) (y_lt T p q 1) (y_lt T p q 2) (y_lt T p q 3)))
        generalize y_lt T p q 0 = l0 at *
        generalize y_lt T p q 1 = l1' at *
        generalize y_lt T p q 2 = l2' at *
        generalize y_lt T p q 3 = l3 at *
        rcases y_JE hC2 hR2 with ⟨c, x, W3, V4, e8, w8, e9, w9⟩ | ⟨p3, q3, kd3, V4, e8, hC5, e9, hR4, hq3⟩
        · refine ⟨W3, W3, V4, ?_, fun x1 K => y_fin_e w8 x1 K, ?_, y_ou_e w8 w9 (by omega)⟩
          · rw [e1, z_bd2, z_bnd, e8]
          · rw [ea, eb, ec, ed, e9, z_bdc]
            unfold y_r1f
            rw [y_r9 w9]
        · generalize hX : y_Ctk (w2 (y_Ctk W p1 q1 kd1) 13 3 (zI (z_pk l0 l1' l2' l3))) p3 q3 kd3 = X at *
          have h13 : X 13 2 = zI (a + 1) := by rw [← hX, y_Ctk_u (by omega), z_w2k (by omega), y_Ctk_u (by omega)]; exact h2
          have h133 : X 13 3 = zI (z_pk l0 l1' l2' l3) := by rw [← hX, y_Ctk_u (by omega), z_w2e]
          obtain ⟨m, hm⟩ : ∃ m : Nat, s 1 = m := ⟨(s 1).toNat, by omega⟩
          obtain ⟨s', i1, i2, i3⟩ := y_mst hC.2.2.2.2.2 z hm (by omega) l1 ha
          have ex : f_X3_execute X = some (zI 0, setU X 2 (zV s')) := by
            unfold f_X3_execute
            rw [z_jn, h13, h133, hC5.2.2.2.2.1]
            rcases ha with ha | ha
            · subst ha
              simp (disch := omega) only [z_lit, z_n, z_add, z_sub, z_mul, z_neg, z_lt1, z_lt0, z_le1, z_le0, z_eq1, z_eq0, z_10, ↓reduceIte, z_v, z_upd, z_ue, z_un, z_ixn, z_ixo, z_ix0, z_ix1, z_ix2, z_ix3, z_ix4, z_ix5, z_ix6, Int.reduceToNat, z_inr, z_gd, ↓z_bnd, ↓z_jn, z_bdc, z_bd2, z_opn, z_ops, z_z01, z_Bt, z_Bf, i1, Int.reduceAdd]
              rw [z_sUu (by omega), h13]
              simp (disch := omega) only [z_lit, z_n, z_add, z_sub, z_mul, z_neg, z_lt1, z_lt0, z_le1, z_le0, z_eq1, z_eq0, z_10, ↓reduceIte, z_v, z_upd, z_ue, z_un, z_ixn, z_ixo, z_ix0, z_ix1, z_ix2, z_ix3, z_ix4, z_ix5, z_ix6, Int.reduceToNat, z_inr, z_gd, ↓z_bnd, ↓z_jn, z_bdc, z_bd2, z_opn, z_ops, z_z01, z_Bt, z_Bf]
            · subst ha
              simp (disch := omega) only [z_lit, z_n, z_add, z_sub, z_mul, z_neg, z_lt1, z_lt0, z_le1, z_le0, z_eq1, z_eq0, z_10, ↓reduceIte, z_v, z_upd, z_ue, z_un, z_ixn, z_ixo, z_ix0, z_ix1, z_ix2, z_ix3, z_ix4, z_ix5, z_ix6, Int.reduceToNat, z_inr, z_gd, ↓z_bnd, ↓z_jn, z_bdc, z_bd2, z_opn, z_ops, z_z01, z_Bt, z_Bf, i1, Int.reduceAdd]
              rw [z_sUu (by omega), h13]
              simp (disch := omega) only [z_lit, z_n, z_add, z_sub, z_mul, z_neg, z_lt1, z_lt0, z_le1, z_le0, z_eq1, z_eq0, z_10, ↓reduceIte, z_v, z_upd, z_ue, z_un, z_ixn, z_ixo, z_ix0, z_ix1, z_ix2, z_ix3, z_ix4, z_ix5, z_ix6, Int.reduceToNat, z_inr, z_gd, ↓z_bnd, ↓z_jn, z_bdc, z_bd2, z_opn, z_ops, z_z01, z_Bt, z_Bf]
          have w22 : V4 22 1 = zI m := by rw [hR4.2.2.2.2.1 1 (by omega), hR4.2.2.2.2.2.2.1.1 1 (by omega), hm]
          refine ⟨X, _, w2 (w2 (w2 V4 22 (7 + 4 * m) (zI (((l0 * 27 + l1') * 27 + l2') * 27 + l3))) 22 (7 + 4 * m + 1) (zI a)) 22 1 (zI ((m : Int) + 1)), ?_, fun x1 K => y_fin_g hC5 ex x1 K, ?_, Or.inr ⟨_, _, p3, q3, kd3, y_Cg_le (y_Cg_s hC5 i2) (by omega), y_Rg_le (y_Rg_s hR4 i2 (fun k hk => y_G1w hR4.2.2.2.2.1 k hk) (by rw [z_w2u (by omega), z_w2u (by omega), z_w2u (by omega)]) (fun u a b _ => by rw [z_w2u a, z_w2u a, z_w2u a])) (by omega), i3, by omega⟩⟩
          · rw [e1, z_bd2, z_bnd, e8]
          · rw [ea, eb, ec, ed, e9, z_bdc]
            unfold y_r1f
            rw [y_r0 hR4]
            simp (disch := omega) only [z_lit, z_n, z_add, z_sub, z_mul, z_neg, z_lt1, z_lt0, z_le1, z_le0, z_eq1, z_eq0, z_10, ↓reduceIte, z_v, z_upd, z_ue, z_un, z_ixn, z_ixo, z_ix0, z_ix1, z_ix2, z_ix3, z_ix4, z_ix5, z_ix6, Int.reduceToNat, z_inr, z_gd, ↓z_bnd, ↓z_jn, z_bdc, z_bd2, z_opn, z_ops, z_z01, z_Bt, z_Bf, z_ofS, w22]
            rw [Nat.add_zero, z_w2k (by omega), z_w2k (by omega), w22, z_add]
      · obtain ⟨V2, f1, f2⟩ := y_rf hR1 (c := 3) (by omega)
        refine ee 3 (a3 rfl d f) ⟨V2, ?_, f2⟩
        rw [ea, eb]
        unfold y_r1c
        rw [z_jn, y_r0 hR1, nd, z_bdc, show (-1 : Int32) = zI (-1) from rfl, z_eqF f (by omega) (by omega) (by omega) (by omega), z_l0, show (3 : Int32) = zI 3 from z_lit 3]
        dsimp only
        rw [f1, z_bd2, y_r1de f2]
    · obtain ⟨V2, f1, f2⟩ := y_rf hR1 (c := 2) (by omega)
      refine ee 2 (a2 rfl (by omega)) ⟨V2, ?_, f2⟩
      rw [ea]
      unfold y_r1b
      rw [z_jn, h8, show (4 : Int32) = zI 4 from z_lit 4, z_ltT (by omega) (by omega) (by omega), z_l0, z_l2]
      dsimp only
      rw [f1, z_bd2, y_r1ce f2]
  · obtain ⟨V2, f1, f2⟩ := y_rf hR1 (c := 1) (by omega)
    refine ee 1 (a1 e) ⟨V2, ?_, f2⟩
    unfold y_r1a
    rw [z_jn, hR1.2.1.2.2.1, show (3 : Int32) = zI 3 from z_lit 3, z_eqF (by omega) (by omega) (by omega) (by omega) (by omega), z_l0, z_l1]
    dsimp only
    rw [f1, z_bd2, y_r1be f2]
end Pm
