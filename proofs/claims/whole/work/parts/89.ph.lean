/-! one statement: what follows the keyword, and what is done -/
section Ph
variable {W W' W0 V V' V0 : Nat → Nat → Int32} {T : Nat → Int} {n r p q p' q' : Nat} {kd kd' : Int} {s s' g g' : Nat → Int} {b b' : Int} {c : Int} {x : Int32}
noncomputable def y_fin (x1 : Int32) (K : (Nat → Nat → Int32) → Option (Nat → Nat → Int32)) (W12 : Nat → Nat → Int32) : Option (Nat → Nat → Int32) := jn (fun (W14 : Nat → Nat → Int32) (v15 : Int32) => l_X3_parse_72 x1 v15 K FU W14 (0 : Int32)) (fun j13 => if (W12 13 0) = 0 then bd2 (f_X3_execute W12) (fun v18 W17 => j13 W17 v18) else j13 W12 (0 : Int32))
def y_out (b : Int) (T : Nat → Int) (n : Nat) (W0 V0 : Nat → Nat → Int32) (q : Nat) (W V : Nat → Nat → Int32) : Prop := (∃ c x s g, y_Ce b T n W0 s g c x W ∧ y_Re T n V0 c x V) ∨ (∃ s g p' q' kd', y_Cg b T n W0 s g p' q' kd' W ∧ y_Rg b T n V0 s g p' q' kd' V ∧ y_z s g ∧ q ≤ p')
theorem y_p72 (x1 : Int32) (K : (Nat → Nat → Int32) → Option (Nat → Nat → Int32)) (W : Nat → Nat → Int32) : l_X3_parse_72 x1 (zI 0) K FU W (zI 0) = K W := by
  unfold FU
  rw [l_X3_parse_72, if_pos (Int32.le_refl _)]
theorem y_fin_e (h : y_Ce b T n W0 s g c x W) (x1 : Int32) (K : (Nat → Nat → Int32) → Option (Nat → Nat → Int32)) : y_fin x1 K W = K W := by
  unfold y_fin
  rw [z_jn, h.2.2.1, z_l0, z_eqF (by have := h.2.2.2.2.1; omega) (by have := h.2.2.2.2.1; omega) (by have := h.2.2.2.2.1; omega) (by omega) (by omega)]
  exact y_p72 x1 K W
theorem y_fin_g (h : y_Cg b T n W0 s g p q kd W) (e : f_X3_execute W = some (zI 0, W')) (x1 : Int32) (K : (Nat → Nat → Int32) → Option (Nat → Nat → Int32)) : y_fin x1 K W = K W' := by
  unfold y_fin
  rw [z_jn, h.2.2.1, z_l0, if_pos rfl, e, z_bd2]
  exact y_p72 x1 K W'
theorem y_Cg_w (h : y_Cg b T n W0 s g p q kd W) (hP : z_PI b' s' g') (h2 : W' 2 = zV s') (hu : ∀ u, u ≠ 2 → W' u = W u) : y_Cg b' T n W0 s' g' p q kd W' := by
  obtain ⟨a1, a2, a3, a4, a6, a7⟩ := h
  refine ⟨⟨fun u x y z w => by rw [hu u x]; exact a1.1 u x y z w, fun k hk => by rw [hu 16 (by omega)]; exact a1.2.1 k hk, a1.2.2.1, a1.2.2.2.1, by rw [hu 15 (by omega)]; exact a1.2.2.2.2⟩, y_Ctk2_u a2 (hu 15 (by omega)), by rw [hu 13 (by omega)]; exact a3, by rw [hu 13 (by omega)]; exact a4, h2, hP⟩
theorem y_Cg_s (h : y_Cg b T n W0 s g p q kd W) (hP : z_PI b' s' g') : y_Cg b' T n W0 s' g' p q kd (setU W 2 (zV s')) := y_Cg_w h hP z_sUe (fun u hu => z_sUu hu)
theorem y_Re_w (h : y_Re T n V0 c x V) (h30 : V' 30 = V 30) (hu : ∀ u, u ≠ 22 → u ≠ 27 → u ≠ 30 → V' u = V u) : y_Re T n V0 c x V' := by
  obtain ⟨⟨f1, f2, f3⟩, f4, f5, f6, f7⟩ := h
  unfold y_Re y_Rf y_Rt z_GT
  rw [h30, hu 28 (by omega) (by omega) (by omega)]
  exact ⟨⟨fun u x y z => by rw [hu u x y z]; exact f1 u x y z, f2, f3⟩, f4, f5, f6, f7⟩
/-- the reference's vector with its table of distances -/
theorem y_pk (h : z_PI b s g) (z : y_z s g) (h22 : ∀ k, k < 251 → V 22 k = zI (g k)) : ∃ G, pk (V 22) (V 27) = zV G ∧ z_PI b s G ∧ y_z s G ∧ ∀ k, k < 251 → G k = g k := by
  obtain ⟨G, e1, e2⟩ := z_pkv (T := V 27) h22
  refine ⟨G, e1, ⟨h.1, z_rel_c h.1 h.2.1 e2, fun i hi => by rw [e2 _ (by omega)]; exact h.2.2 i hi⟩, ⟨fun i h1 h8 => by rw [e2 _ (by omega)]; exact z.1 i h1 h8, fun t h1 h4 => ?_⟩, e2⟩
  rw [e2 _ (by omega), e2 _ (by omega), e2 _ (by omega), e2 _ (by omega)]
  exact z.2 t h1 h4
theorem y_Rg_s (h : y_Rg b T n V0 s g p q kd V) (hP : z_PI b' s' g') (h22 : ∀ k, k < 251 → V' 22 k = zI (g' k)) (h30 : V' 30 = V 30) (hu : ∀ u, u ≠ 22 → u ≠ 27 → u ≠ 30 → V' u = V u) : y_Rg b' T n V0 s' g' p q kd V' := by
  obtain ⟨a1, a2, a3, a4, a5, a6⟩ := h
  unfold y_Rg y_Rf y_Rt z_GT
  rw [h30, hu 28 (by omega) (by omega) (by omega)]
  exact ⟨⟨fun u x y z => by rw [hu u x y z]; exact a1.1 u x y z, a1.2.1, a1.2.2⟩, a2, a3, a4, h22, hP⟩
theorem y_Cg_le (h : y_Cg b T n W0 s g p q kd W) (hb : b ≤ b') : y_Cg b' T n W0 s g p q kd W := ⟨h.1, h.2.1, h.2.2.1, h.2.2.2.1, h.2.2.2.2.1, z_PI_le h.2.2.2.2.2 hb⟩
theorem y_Ce_le (h : y_Ce b T n W0 s g c x W) (hb : b ≤ b') : y_Ce b' T n W0 s g c x W := ⟨h.1, h.2.1, h.2.2.1, h.2.2.2.1, h.2.2.2.2.1, h.2.2.2.2.2.1, z_PI_le h.2.2.2.2.2.2 hb⟩
theorem y_Rg_le (h : y_Rg b T n V0 s g p q kd V) (hb : b ≤ b') : y_Rg b' T n V0 s g p q kd V := ⟨h.1, h.2.1, h.2.2.1, h.2.2.2.1, h.2.2.2.2.1, z_PI_le h.2.2.2.2.2 hb⟩
/-- the end of a statement, in the class -/
theorem y_ge (h : y_Cg b T n W0 s g p q kd W) (t : z_tok T n q p' q' kd') : (kd ≠ 3 → ∃ W', y_end W = some W' ∧ y_Ce b T n W0 s g 1 (zI p) W') ∧ (kd = 3 → y_end W = some (y_Ctk W p' q' kd')) := by
  have hb := y_Cg_b h
  unfold y_end
  rw [h.2.1.2.2.1, show (3 : Int32) = zI 3 from z_lit 3]
  refine ⟨fun e => ?_, fun e => ?_⟩
  · rw [z_eqF e (by omega) (by omega) (by omega) (by omega)]
    obtain ⟨W1, e1, w1, -⟩ := y_gf h (c := 1) (by omega)
    obtain ⟨W2, e2, w2'⟩ := y_Ta W1 w1
    rw [z_l1, e1, z_bdc, e2, z_bdc]
    exact ⟨W2, rfl, w2'⟩
  · rw [z_eqT e, (y_ga h t).1, z_bdc]
/-- a station, in the class -/
theorem y_gst (h : y_Cg b T n W0 s g p q kd W) (t : z_tok T n q p' q' kd') :
    (kd ≠ 1 → ∃ v W', f_X3_takeStation W = some (v, W') ∧ y_Ce b T n W0 s g 1 (zI p) W') ∧
    (kd = 1 → y_st T s p q = -1 → ∃ v W', f_X3_takeStation W = some (v, W') ∧ y_Ce b T n W0 s g 4 (zI p) W') ∧
    (kd = 1 → y_st T s p q ≠ -1 → f_X3_takeStation W = some (zI (y_st T s p q), y_Ctk W p' q' kd')) := by
  obtain ⟨g1, g2, g3⟩ := y_gs h
  unfold f_X3_takeStation
  refine ⟨fun e => ?_, fun e d => ?_, fun e d => ?_⟩
  · obtain ⟨v, W1, e1, w1, -⟩ := g1 e
    obtain ⟨W2, e2, w2'⟩ := y_Ta W1 w1
    rw [e1, z_bd2, e2, z_bdc]
    exact ⟨v, W2, rfl, w2'⟩
  · obtain ⟨v, W1, e1, w1, -⟩ := g2 e d
    obtain ⟨W2, e2, w2'⟩ := y_Ta W1 w1
    rw [e1, z_bd2, e2, z_bdc]
    exact ⟨v, W2, rfl, w2'⟩
  · rw [g3 e d, z_bd2, (y_ga h t).1, z_bdc]
/-- a station, in the reference -/
theorem y_rst (h : y_Rg b T n V0 s g p q kd V) (t : z_tok T n q p' q' kd') :
    (kd ≠ 1 → ∃ V', f_X10_station V = some (zI 0, V') ∧ y_Re T n V0 1 (zI p) V') ∧
    (kd = 1 → y_st T s p q = -1 → ∃ V', f_X10_station V = some (zI 0, V') ∧ y_Re T n V0 4 (zI p) V') ∧
    (kd = 1 → y_st T s p q ≠ -1 → ∃ V', f_X10_station V = some (zI (y_st T s p q), V') ∧ y_Rg b T n V0 s g p' q' kd' V') := by
  obtain ⟨g1, g2, g3⟩ := y_lk h
  unfold f_X10_station
  refine ⟨fun e => ?_, fun e d => ?_, fun e d => ?_⟩
  · obtain ⟨V1, e1, w1⟩ := g1 e
    rw [e1, z_bd2, y_rn w1, z_bdc]
    exact ⟨V1, rfl, w1⟩
  · obtain ⟨V1, e1, w1⟩ := g2 e d
    rw [e1, z_bd2, y_rn w1, z_bdc]
    exact ⟨V1, rfl, w1⟩
  · obtain ⟨V1, e1, w1⟩ := y_ra h t
    rw [g3 e d, z_bd2, e1, z_bdc]
    exact ⟨V1, rfl, w1⟩
theorem y_ou_e {c x} (h1 : y_Ce b T n W0 s g c x W) (h2 : y_Re T n V0 c x V) (hb : b ≤ b') : y_out b' T n W0 V0 q W V := Or.inl ⟨c, x, s, g, y_Ce_le h1 hb, h2⟩
/-! run -/
noncomputable def y_B8 (W3 : Nat → Nat → Int32) : Option (Nat → Nat → Int32) := bd2 (f_X3_takeNumber W3 (0 : Int32) (60 : Int32)) (fun v55 W54 => bnd (w2 W54 13 6 v55) (fun W56 => y_end W56))
theorem y_B8e : y_T (y_Ce b T n W0 s g c x) y_B8 := y_T_2 (y_Tnm _ _) (fun v => y_T_n (fun W w => y_Ce_13 w (by omega)) y_Ten)
noncomputable def y_r8 (v3 : Int32) (W4 : Nat → Nat → Int32) : Option (Nat → Nat → Int32) := if (W4 30 9) = 0 then bdc (f_X10_minutes (pk (W4 22) (W4 27)) v3) (fun S9 => bnd (setQ W4 22 S9) (fun W8 => some W8)) else bdc (f_X10_minutes (pk (W4 22) (W4 27)) (0 : Int32)) (fun S7 => bnd (setQ W4 22 S7) (fun W6 => some W6))
theorem y_r8x : f_X10_readRun V = bdc (f_X10_next V) (fun W1 => bd2 (f_X10_number W1 (0 : Int32) (60 : Int32)) (fun v3 W2 => bdc (f_X10_finish W2) (fun W4 => y_r8 v3 W4))) := rfl
theorem y_r8e (h : y_Re T n V0 c x V) (v : Int32) : ∃ V', y_r8 v V = some V' ∧ y_Re T n V0 c x V' := by
  unfold y_r8
  rw [y_r9 h]
  refine ⟨setQ V 22 (pk (V 22) (V 27)), ?_, y_Re_w h (z_sQx (by omega) (by omega)) (fun u a b _ => z_sQx a b)⟩
  unfold f_X10_minutes FU
  rw [l_X10_minutes_2, if_pos (Int32.le_refl _), z_bdc, z_bnd]
theorem y_J8 (hb : b + 60 ≤ 1000000000) (hC : y_Cg b T n W0 s g p q kd W) (h2 : W 13 2 = zI 8) {p0 q0 : Nat} {kd0 : Int} (hR : y_Rg b T n V0 s g p0 q0 kd0 V) (t0 : z_tok T n q0 p q kd) (z : y_z s g) : ∃ W' W'' V', y_B8 W = some W' ∧ (∀ x1 K, y_fin x1 K W' = K W'') ∧ f_X10_readRun V = some V' ∧ y_out (b + 60) T n W0 V0 q0 W'' V' := by
  have hbb := y_Cg_b hC
  have tb0 := t0.1
  obtain ⟨p1, q1, kd1, t1⟩ := z_tok_x (T := T) (n := n) (r := q) (by omega)
  obtain ⟨V1, r1, hR1⟩ := y_ra hR t0
  obtain ⟨a1, a2, a3⟩ := y_gn hC t1 (lo := 0) (hi := 60) (by omega) (by omega)
  obtain ⟨c1, c2, c3⟩ := y_nu hR1 t1 (lo := 0) (hi := 60) (by omega) (by omega)
  rw [y_r8x]
  have ee : ∀ d, (∃ v W', f_X3_takeNumber W (zI 0) (zI 60) = some (v, W') ∧ y_Ce b T n W0 s g d (zI p) W') → (∃ v V', f_X10_number V1 (zI 0) (zI 60) = some (v, V') ∧ y_Re T n V0 d (zI p) V') → ∃ W' W'' V', y_B8 W = some W' ∧ (∀ x1 K, y_fin x1 K W' = K W'') ∧ bdc (f_X10_next V) (fun W1 => bd2 (f_X10_number W1 (0 : Int32) (60 : Int32)) (fun v3 W2 => bdc (f_X10_finish W2) (fun W4 => y_r8 v3 W4))) = some V' ∧ y_out (b + 60) T n W0 V0 q0 W'' V' := by
    intro d ⟨v, W2, e1, w1⟩ ⟨v', V2, e2, w2'⟩
    obtain ⟨W3, e3, w3⟩ := y_Ten _ (y_Ce_13 w1 (k := 6) (by omega) (v := v))
    obtain ⟨V3, e4, w4⟩ := y_r8e w2' v'
    refine ⟨W3, W3, V3, ?_, fun x1 K => y_fin_e w3 x1 K, ?_, y_ou_e w3 w4 (by omega)⟩
    · unfold y_B8
      rw [z_l0, z_l60, e1, z_bd2, z_bnd, e3]
    · rw [z_l0, z_l60, r1, z_bdc, e2, z_bd2, y_fie w2', z_bdc, e4]
  by_cases k2 : kd = 2
  · by_cases k3 : 0 ≤ y_cv T p (q - p) ∧ y_cv T p (q - p) ≤ 60
    · obtain ⟨V2, e2, hR2⟩ := c3 k2 k3
      have e1 := a3 k2 k3
      have hC2 := (y_ga hC t1).2
      have tb1 := y_tkb t1
      have tb11 := t1.1
      obtain ⟨p2, q2, kd2, t2⟩ := z_tok_x (T := T) (n := n) (r := q1) (by omega)
      have tb22 := t2.1
      generalize y_cv T p (q - p) = v at *
      have hC3 := y_Cg_13 hC2 (k := 6) (by omega) (v := zI v)
      obtain ⟨d1, d2⟩ := y_ge hC3 t2
      obtain ⟨d3, d4⟩ := y_fi hR2 t2
      by_cases k4 : kd1 = 3
      · have e3 := d2 k4
        obtain ⟨V3, e4, hR3⟩ := d4 k4
        have hC4 := (y_ga hC3 t2).2
        obtain ⟨m, rfl⟩ : ∃ m : Nat, v = m := ⟨v.toNat, by omega⟩
        obtain ⟨G, g1, g2, g3, g4⟩ := y_pk hR3.2.2.2.2.2 z hR3.2.2.2.2.1
        obtain ⟨s', g', m1, m2, m3, m4⟩ := y_runs m b s G (by omega) g2 g3 0 m FU (by omega) (by omega) (by unfold FU; omega)
        have h13 : ∀ k, y_Ctk (w2 (y_Ctk W p1 q1 kd1) 13 6 (zI m)) p2 q2 kd2 13 k = w2 (y_Ctk W p1 q1 kd1) 13 6 (zI m) 13 k := fun k => by rw [y_Ctk_u (by omega)]
        have h13b : y_Ctk (w2 (y_Ctk W p1 q1 kd1) 13 6 (zI m)) p2 q2 kd2 13 2 = zI 8 := by rw [h13, z_w2k (by omega), y_Ctk_u (by omega)]; exact h2
        have h13c : y_Ctk (w2 (y_Ctk W p1 q1 kd1) 13 6 (zI m)) p2 q2 kd2 13 6 = zI m := by rw [h13, z_w2e]
        generalize y_Ctk (w2 (y_Ctk W p1 q1 kd1) 13 6 (zI m)) p2 q2 kd2 = X at *
        have ex : f_X3_execute X = some (zI m, X) := by
          unfold f_X3_execute
          rw [z_jn, h13b]
          simp (disch := omega) only [z_lit, z_n, z_add, z_sub, z_mul, z_neg, z_lt1, z_lt0, z_le1, z_le0, z_eq1, z_eq0, z_10, ↓reduceIte, z_v, z_upd, z_ue, z_un, z_ixn, z_ixo, z_ix0, z_ix1, z_ix2, z_ix3, z_ix4, z_ix5, z_ix6, Int.reduceToNat, z_inr, z_gd, ↓z_bnd, ↓z_jn, z_bdc, z_bd2, z_opn, z_ops, z_z01, z_Bt, z_Bf, h13c]
          rw [show tso (zI 8) 1 7 = true by decide, z_gd, h13b, if_pos rfl]
        obtain ⟨X', x1', x2', x3'⟩ := m4 (fun W => some W) 0 X FU hC4.2.2.2.2.1 (by unfold FU; omega)
        have hP' : z_PI (b + 60) s' g' := z_PI_le m2 (by omega)
        refine ⟨X, X', setQ V3 22 (zV g'), ?_, fun x1 K => ?_, ?_, Or.inr ⟨s', g', p2, q2, kd2, y_Cg_w hC4 hP' x2' x3', y_Rg_s hR3 hP' (fun k hk => by rw [z_sQu (by omega)]; rfl) (z_sQx (by omega) (by omega)) (fun u a b _ => z_sQx a b), m3, by omega⟩⟩
        · unfold y_B8
          rw [z_l0, z_l60, e1, z_bd2, z_bnd, e3]
        · obtain ⟨X2, y1, y2, y3⟩ := m4 K x1 X FU hC4.2.2.2.2.1 (by unfold FU; omega)
          have : X2 = X' := by
            funext u
            by_cases c : u = 2
            · rw [c, y2, x2']
            · rw [y3 u c, x3' u c]
          unfold y_fin
          rw [z_jn, hC4.2.2.1, z_l0, if_pos rfl, ex, z_bd2]
          rw [← this]
          exact y1
        · rw [z_l0, z_l60, r1, z_bdc, e2, z_bd2, e4, z_bdc]
          unfold y_r8
          rw [y_r0 hR3, g1]
          unfold f_X10_minutes
          rw [z_l0, show zI 0 = zI ((0 : Nat) : Int) from rfl, m1, z_bdc, z_bnd]
      · obtain ⟨W3, e3, w3⟩ := d1 k4
        obtain ⟨V3, e4, w4⟩ := d3 k4
        obtain ⟨V4, e5, w5⟩ := y_r8e w4 (zI v)
        refine ⟨W3, W3, V4, ?_, fun x1 K => y_fin_e w3 x1 K, ?_, y_ou_e w3 w5 (by omega)⟩
        · unfold y_B8
          rw [z_l0, z_l60, e1, z_bd2, z_bnd, e3]
        · rw [z_l0, z_l60, r1, z_bdc, e2, z_bd2, e4, z_bdc, e5]
    · exact ee 2 (a2 k2 k3) (c2 k2 k3)
  · exact ee 1 (a1 k2) (c1 k2)
end Ph
