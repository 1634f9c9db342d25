/-! joint steps -/
section Pi
variable {W W' W0 V V' V0 : Nat → Nat → Int32} {T : Nat → Int} {n r p q p' q' : Nat} {kd kd' : Int} {s s' g g' : Nat → Int} {b b' : Int} {c : Int} {x : Int32}
theorem y_JS (hC : y_Cg b T n W0 s g p q kd W) (hR : y_Rg b T n V0 s g p q kd V) : (∃ c x v W' V', f_X3_takeStation W = some (v, W') ∧ y_Ce b T n W0 s g c x W' ∧ f_X10_station V = some (zI 0, V') ∧ y_Re T n V0 c x V') ∨ (∃ (i : Int) (p1 q1 : Nat) (kd1 : Int) (V' : Nat → Nat → Int32), (0 ≤ i ∧ i < s 1) ∧ f_X3_takeStation W = some (zI i, y_Ctk W p1 q1 kd1) ∧ y_Cg b T n W0 s g p1 q1 kd1 (y_Ctk W p1 q1 kd1) ∧ f_X10_station V = some (zI i, V') ∧ y_Rg b T n V0 s g p1 q1 kd1 V' ∧ q ≤ p1) := by
  have hbb := y_Cg_b hC
  obtain ⟨p1, q1, kd1, t1⟩ := z_tok_x (T := T) (n := n) (r := q) (by omega)
  have tb1 := t1.1
  have sb := y_st_b (T := T) (p := p) (q := q) hC.2.2.2.2.2
  obtain ⟨a1, a2, a3⟩ := y_gst hC t1
  obtain ⟨c1, c2, c3⟩ := y_rst hR t1
  by_cases e : kd = 1
  · by_cases d : y_st T s p q = -1
    · obtain ⟨v, W1, e1, w1⟩ := a2 e d
      obtain ⟨V1, e2, w2'⟩ := c2 e d
      exact Or.inl ⟨4, zI p, v, W1, V1, e1, w1, e2, w2'⟩
    · obtain ⟨V1, e2, w2'⟩ := c3 e d
      exact Or.inr ⟨_, p1, q1, kd1, V1, by omega, a3 e d, (y_ga hC t1).2, e2, w2', tb1⟩
  · obtain ⟨v, W1, e1, w1⟩ := a1 e
    obtain ⟨V1, e2, w2'⟩ := c1 e
    exact Or.inl ⟨1, zI p, v, W1, V1, e1, w1, e2, w2'⟩
noncomputable def y_Kn (lo hi : Int32) (W : Nat → Nat → Int32) : Option (Nat → Nat → Int32) := bd2 (f_X3_takeNumber W lo hi) (fun v W1 => bnd (w2 W1 13 6 v) (fun W2 => y_end W2))
noncomputable def y_Rn (lo hi : Int32) (Kf : Int32 → (Nat → Nat → Int32) → Option (Nat → Nat → Int32)) (V : Nat → Nat → Int32) : Option (Nat → Nat → Int32) := bd2 (f_X10_number V lo hi) (fun v W4 => bdc (f_X10_finish W4) (fun W6 => Kf v W6))
theorem y_Kne (lo hi : Int32) : y_T (y_Ce b T n W0 s g c x) (y_Kn lo hi) := y_T_2 (y_Tnm _ _) (fun v => y_T_n (fun W w => y_Ce_13 w (by omega)) y_Ten)
theorem y_Rne (h : y_Re T n V0 c x V) (lo hi : Int32) (Kf : Int32 → (Nat → Nat → Int32) → Option (Nat → Nat → Int32)) (hK : ∀ v V, y_Re T n V0 c x V → Kf v V = some V) : y_Rn lo hi Kf V = some V := by
  unfold y_Rn
  rw [y_nue h, z_bd2, y_fie h, z_bdc, hK _ V h]
theorem y_JN (hC : y_Cg b T n W0 s g p q kd W) (hR : y_Rg b T n V0 s g p q kd V) {lo hi : Int} (hl : 0 ≤ lo ∧ lo ≤ 60) (hh : 0 ≤ hi ∧ hi ≤ 60) (Kf : Int32 → (Nat → Nat → Int32) → Option (Nat → Nat → Int32)) (hK : ∀ c x v V, y_Re T n V0 c x V → Kf v V = some V) :
    (∃ c x W' V', y_Kn (zI lo) (zI hi) W = some W' ∧ y_Ce b T n W0 s g c x W' ∧ y_Rn (zI lo) (zI hi) Kf V = some V' ∧ y_Re T n V0 c x V') ∨ (∃ (v : Int) (W' V' : Nat → Nat → Int32) (p2 q2 : Nat) (kd2 : Int), (lo ≤ v ∧ v ≤ hi) ∧ y_Kn (zI lo) (zI hi) W = some W' ∧ y_Cg b T n W0 s g p2 q2 kd2 W' ∧ W' 13 6 = zI v ∧ (∀ k, k ≠ 6 → W' 13 k = W 13 k) ∧ W' 14 = W 14 ∧ y_Rn (zI lo) (zI hi) Kf V = Kf (zI v) V' ∧ y_Rg b T n V0 s g p2 q2 kd2 V' ∧ q ≤ p2) := by
  have hbb := y_Cg_b hC
  obtain ⟨p1, q1, kd1, t1⟩ := z_tok_x (T := T) (n := n) (r := q) (by omega)
  have tb1 := y_tkb t1
  have tb11 := t1.1
  obtain ⟨p2, q2, kd2, t2⟩ := z_tok_x (T := T) (n := n) (r := q1) (by omega)
  have tb22 := t2.1
  obtain ⟨a1, a2, a3⟩ := y_gn hC t1 hl hh
  obtain ⟨c1, c2, c3⟩ := y_nu hR t1 hl hh
  have ee : ∀ d, (∃ v W', f_X3_takeNumber W (zI lo) (zI hi) = some (v, W') ∧ y_Ce b T n W0 s g d (zI p) W') → (∃ v V', f_X10_number V (zI lo) (zI hi) = some (v, V') ∧ y_Re T n V0 d (zI p) V') → (∃ c x W' V', y_Kn (zI lo) (zI hi) W = some W' ∧ y_Ce b T n W0 s g c x W' ∧ y_Rn (zI lo) (zI hi) Kf V = some V' ∧ y_Re T n V0 c x V') := by
    intro d ⟨v, W2, e1, w1⟩ ⟨v', V2, e2, w2'⟩
    obtain ⟨W3, e3, w3⟩ := y_Ten _ (y_Ce_13 w1 (k := 6) (by omega) (v := v))
    refine ⟨_, _, W3, V2, ?_, w3, ?_, w2'⟩
    · unfold y_Kn
      rw [e1, z_bd2, z_bnd, e3]
    · unfold y_Rn
      rw [e2, z_bd2, y_fie w2', z_bdc, hK _ _ _ _ w2']
  by_cases k2 : kd = 2
  · by_cases k3 : lo ≤ y_cv T p (q - p) ∧ y_cv T p (q - p) ≤ hi
    · obtain ⟨V2, e2, hR2⟩ := c3 k2 k3
      have e1 := a3 k2 k3
      have hC2 := (y_ga hC t1).2
      generalize y_cv T p (q - p) = v at *
      have hC3 := y_Cg_13 hC2 (k := 6) (by omega) (v := zI v)
      obtain ⟨d1, d2⟩ := y_ge hC3 t2
      obtain ⟨d3, d4⟩ := y_fi hR2 t2
      by_cases k4 : kd1 = 3
      · have e3 := d2 k4
        obtain ⟨V3, e4, hR3⟩ := d4 k4
        have hC4 := (y_ga hC3 t2).2
        refine Or.inr ⟨v, _, V3, p2, q2, kd2, k3, ?_, hC4, ?_, fun k hk => ?_, ?_, ?_, hR3, by omega⟩
        · unfold y_Kn
          rw [e1, z_bd2, z_bnd, e3]
        · rw [y_Ctk_u (by omega), z_w2e]
        · rw [y_Ctk_u (by omega), z_w2k hk, y_Ctk_u (by omega)]
        · rw [y_Ctk_u (by omega), z_w2u (by omega), y_Ctk_u (by omega)]
        · unfold y_Rn
          rw [e2, z_bd2, e4, z_bdc]
      · obtain ⟨W3, e3, w3⟩ := d1 k4
        obtain ⟨V3, e4, w4⟩ := d3 k4
        refine Or.inl ⟨_, _, W3, V3, ?_, w3, ?_, w4⟩
        · unfold y_Kn
          rw [e1, z_bd2, z_bnd, e3]
        · unfold y_Rn
          rw [e2, z_bd2, e4, z_bdc, hK _ _ _ _ w4]
    · exact Or.inl (ee 2 (a2 k2 k3) (c2 k2 k3))
  · exact Or.inl (ee 1 (a1 k2) (c1 k2))
/-! inspections -/
noncomputable def y_B6 (W3 : Nat → Nat → Int32) : Option (Nat → Nat → Int32) := bd2 (f_X3_takeStation W3) (fun v41 W40 => bnd (w2 W40 13 4 v41) (fun W42 => y_Kn (0 : Int32) (9 : Int32) W42))
theorem y_B6e : y_T (y_Ce b T n W0 s g c x) y_B6 := y_T_2 y_Tst (fun v => y_T_n (fun W w => y_Ce_13 w (by omega)) (y_Kne _ _))
noncomputable def y_r6 (v3 : Int32) (v5 : Int32) (W6 : Nat → Nat → Int32) : Option (Nat → Nat → Int32) := if (W6 30 9) = 0 then bdc (f_X10_ofStation v3) (fun v8 => gd (inr (v8 + (2 : Int32)) 251) (bnd (w2 W6 22 (ix (v8 + (2 : Int32))) v5) (fun W9 => some W9))) else some W6
theorem y_r6x : f_X10_readInspect V = bdc (f_X10_next V) (fun W1 => bd2 (f_X10_station W1) (fun v3 W2 => y_Rn (0 : Int32) (9 : Int32) (y_r6 v3) W2)) := rfl
theorem y_J6 (hb : 0 ≤ b) (hC : y_Cg b T n W0 s g p q kd W) (h2 : W 13 2 = zI 6) {p0 q0 : Nat} {kd0 : Int} (hR : y_Rg b T n V0 s g p0 q0 kd0 V) (t0 : z_tok T n q0 p q kd) (z : y_z s g) : ∃ W' W'' V', y_B6 W = some W' ∧ (∀ x1 K, y_fin x1 K W' = K W'') ∧ f_X10_readInspect V = some V' ∧ y_out (b + 60) T n W0 V0 q0 W'' V' := by
  have hbb := y_Cg_b hC
  have tb0 := t0.1
  obtain ⟨V1, r1, hR1⟩ := y_ra hR t0
  have hK : ∀ w c x v V, y_Re T n V0 c x V → y_r6 w v V = some V := fun w c x v V h => by unfold y_r6; rw [y_r9 h]
  rw [y_r6x]
  unfold y_B6
  rw [r1, z_bdc]
  rcases y_JS hC hR1 with ⟨c, x, v, W1, V2, e1, w1, e2, w2'⟩ | ⟨i, p1, q1, kd1, V2, hi, e1, hC1, e2, hR2, hq1⟩
  · obtain ⟨W3, e3, w3⟩ := y_Kne (0 : Int32) (9 : Int32) _ (y_Ce_13 w1 (k := 4) (by omega) (v := v))
    refine ⟨W3, W3, V2, ?_, fun x1 K => y_fin_e w3 x1 K, ?_, y_ou_e w3 w2' (by omega)⟩
    · rw [e1, z_bd2, z_bnd, e3]
    · rw [e2, z_bd2, y_Rne w2' _ _ _ (fun v V h => hK _ _ _ v V h)]
  · have hb1 := y_Cg_b hC1
    have hC2 := y_Cg_13 hC1 (k := 4) (by omega) (v := zI i)
    obtain ⟨m, rfl⟩ : ∃ m : Nat, i = m := ⟨i.toNat, by omega⟩
    have c1 := hC.2.2.2.2.2.1.1.2.1
    rcases y_JN hC2 hR2 (lo := 0) (hi := 9) (by omega) (by omega) (y_r6 (zI m)) (hK (zI m)) with ⟨c, x, W3, V3, e3, w3, e4, w4⟩ | ⟨v, W3, V3, p2, q2, kd2, hv, e3, hC3, f6, fk, f14, e4, hR3, hq2⟩
    · refine ⟨W3, W3, V3, ?_, fun x1 K => y_fin_e w3 x1 K, ?_, y_ou_e w3 w4 (by omega)⟩
      · rw [e1, z_bd2, z_bnd, z_l0, z_l9, e3]
      · rw [e2, z_bd2, z_l0, z_l9, e4]
    · have h13 : W3 13 2 = zI 6 := by rw [fk 2 (by omega), z_w2k (by omega), y_Ctk_u (by omega)]; exact h2
      have h134 : W3 13 4 = zI m := by rw [fk 4 (by omega), z_w2e]
      obtain ⟨i1, i2, i3⟩ := y_ins hC.2.2.2.2.2 z (i := m) (m := v) (by omega) (by omega)
      have ex : f_X3_execute W3 = some (zI 0, setU W3 2 (zV (zu s (7 + 4 * m + 2) v))) := by
        unfold f_X3_execute
        rw [z_jn, h13, h134, f6, hC3.2.2.2.2.1, i1]
        simp (disch := omega) only [z_lit, z_n, z_add, z_sub, z_mul, z_neg, z_lt1, z_lt0, z_le1, z_le0, z_eq1, z_eq0, z_10, ↓reduceIte, z_v, z_upd, z_ue, z_un, z_ixn, z_ixo, z_ix0, z_ix1, z_ix2, z_ix3, z_ix4, z_ix5, z_ix6, Int.reduceToNat, z_inr, z_gd, ↓z_bnd, ↓z_jn, z_bdc, z_bd2, z_opn, z_ops, z_z01, z_Bt, z_Bf]
        rw [z_sUu (by omega), h13]
        simp (disch := omega) only [z_lit, z_n, z_add, z_sub, z_mul, z_neg, z_lt1, z_lt0, z_le1, z_le0, z_eq1, z_eq0, z_10, ↓reduceIte, z_v, z_upd, z_ue, z_un, z_ixn, z_ixo, z_ix0, z_ix1, z_ix2, z_ix3, z_ix4, z_ix5, z_ix6, Int.reduceToNat, z_inr, z_gd, ↓z_bnd, ↓z_jn, z_bdc, z_bd2, z_opn, z_ops, z_z01, z_Bt, z_Bf]
      refine ⟨W3, _, w2 V3 22 (7 + 4 * m + 2) (zI v), ?_, fun x1 K => y_fin_g hC3 ex x1 K, ?_, Or.inr ⟨_, _, p2, q2, kd2, y_Cg_le (y_Cg_s hC3 i2) (by omega), y_Rg_le (y_Rg_s hR3 i2 (fun k hk => ?_) (z_w2u (by omega)) (fun u a b _ => z_w2u a)) (by omega), i3, by omega⟩⟩
      · rw [e1, z_bd2, z_bnd, z_l0, z_l9, e3]
      · rw [e2, z_bd2, z_l0, z_l9, e4]
        unfold y_r6
        rw [y_r0 hR3]
        simp (disch := omega) only [z_lit, z_n, z_add, z_sub, z_mul, z_neg, z_lt1, z_lt0, z_le1, z_le0, z_eq1, z_eq0, z_10, ↓reduceIte, z_v, z_upd, z_ue, z_un, z_ixn, z_ixo, z_ix0, z_ix1, z_ix2, z_ix3, z_ix4, z_ix5, z_ix6, Int.reduceToNat, z_inr, z_gd, ↓z_bnd, ↓z_jn, z_bdc, z_bd2, z_opn, z_ops, z_z01, z_Bt, z_Bf, z_ofS]
      · by_cases d : k = 7 + 4 * m + 2
        · rw [d, z_w2e, z_ue rfl]
        · rw [z_w2k d, z_un d]
          exact hR3.2.2.2.2.1 k hk
end Pi
