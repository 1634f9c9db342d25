/-! second stations, new names, keywords, in the class -/
section Pd
variable {W W' W0 V V' V0 : Nat → Nat → Int32} {T : Nat → Int} {n r p q p' q' : Nat} {kd kd' : Int} {s g : Nat → Int} {b : Int} {c : Int} {x : Int32}
noncomputable def y_ssr (v2 : Int32) (W1 : Nat → Nat → Int32) : Option (Int32 × (Nat → Nat → Int32)) := bdc (f_X4_findTrack (W1 2) (W1 13 4) v2) (fun v3 => jn (fun (v5 : Int32) => if (W1 13 2) = (7 : Int32) then if v5 = 0 then bdc (f_X3_fail W1 (5 : Int32)) (fun W19 => bdc (f_X6_advance W19) (fun W20 => some (v2, W20))) else bdc (f_X6_advance W1) (fun W18 => some (v2, W18)) else if (W1 13 4) = v2 then bdc (f_X3_fail W1 (5 : Int32)) (fun W9 => bdc (f_X6_advance W9) (fun W10 => some (v2, W10))) else if (W1 13 2) = (3 : Int32) then if v5 = 0 then bdc (f_X6_advance W1) (fun W14 => some (v2, W14)) else bdc (f_X3_fail W1 (5 : Int32)) (fun W15 => bdc (f_X6_advance W15) (fun W16 => some (v2, W16))) else bdc (f_X6_advance W1) (fun W12 => some (v2, W12))) (fun j4 => if v3 = (-1 : Int32) then j4 (0 : Int32) else j4 (1 : Int32)))
theorem y_ssx : f_X3_takeSecondStation W = bd2 (f_X3_findNamedStation W) (fun v W1 => y_ssr v W1) := rfl
theorem y_Tsr (v : Int32) : y_T2 (y_Ce b T n W0 s g c x) (y_ssr v) := fun W1 w1 => by
  unfold y_ssr
  obtain ⟨y, e2⟩ := y_Tft W1 w1 (W1 13 4) v
  rw [e2, z_bdc, z_jn]
  suffices H : ∀ z : Int32, ∃ v' W', (if (W1 13 2) = (7 : Int32) then if z = 0 then bdc (f_X3_fail W1 (5 : Int32)) (fun W19 => bdc (f_X6_advance W19) (fun W20 => some (v, W20))) else bdc (f_X6_advance W1) (fun W18 => some (v, W18)) else if (W1 13 4) = v then bdc (f_X3_fail W1 (5 : Int32)) (fun W9 => bdc (f_X6_advance W9) (fun W10 => some (v, W10))) else if (W1 13 2) = (3 : Int32) then if z = 0 then bdc (f_X6_advance W1) (fun W14 => some (v, W14)) else bdc (f_X3_fail W1 (5 : Int32)) (fun W15 => bdc (f_X6_advance W15) (fun W16 => some (v, W16))) else bdc (f_X6_advance W1) (fun W12 => some (v, W12))) = some (v', W') ∧ y_Ce b T n W0 s g c x W' by
    split
    · exact H 0
    · exact H 1
  intro z
  split
  · split
    · exact y_Tfa _ _ W1 w1
    · exact y_Taa _ W1 w1
  · split
    · exact y_Tfa _ _ W1 w1
    · split
      · split
        · exact y_Taa _ W1 w1
        · exact y_Tfa _ _ W1 w1
      · exact y_Taa _ W1 w1
def y_bad (k : Int) (s : Nat → Int) (i j : Int) : Prop := (k = 7 ∧ z_oi (z_tk s i j) = -1) ∨ (k = 3 ∧ (i = j ∨ z_oi (z_tk s i j) ≠ -1)) ∨ (k = 5 ∧ i = j)
theorem y_tk_b {i j : Int} (h : z_PI b s g) : -1 ≤ z_oi (z_tk s i j) ∧ z_oi (z_tk s i j) < s 2 := by
  have := y_oi_b (p := z_cn s i j) (m := (s 2).toNat)
  have c := h.1.1.2.2.1
  unfold z_tk
  omega
theorem y_g2 (h : y_Cg b T n W0 s g p q kd W) (t : z_tok T n q p' q' kd') {k i : Int} (hk : k = 3 ∨ k = 5 ∨ k = 7) (h2 : W 13 2 = zI k) (h4 : W 13 4 = zI i) (hi : 0 ≤ i ∧ i < s 1) :
    (kd ≠ 1 → ∃ v W', f_X3_takeSecondStation W = some (v, W') ∧ y_Ce b T n W0 s g 1 (zI p) W') ∧
    (kd = 1 → y_st T s p q = -1 → ∃ v W', f_X3_takeSecondStation W = some (v, W') ∧ y_Ce b T n W0 s g 4 (zI p) W') ∧
    (kd = 1 → y_st T s p q ≠ -1 → y_bad k s i (y_st T s p q) → ∃ v W', f_X3_takeSecondStation W = some (v, W') ∧ y_Ce b T n W0 s g 5 (zI p) W') ∧
    (kd = 1 → y_st T s p q ≠ -1 → ¬ y_bad k s i (y_st T s p q) → f_X3_takeSecondStation W = some (zI (y_st T s p q), y_Ctk W p' q' kd')) := by
  obtain ⟨g1, g2, g3⟩ := y_gs h
  have sb := y_st_b (T := T) (p := p) (q := q) h.2.2.2.2.2
  have c1 := h.2.2.2.2.2.1.1.2.1
  have tb := y_tk_b (i := i) (j := y_st T s p q) h.2.2.2.2.2
  have c2 := h.2.2.2.2.2.1.1.2.2.1
  rw [y_ssx]
  refine ⟨fun e => ?_, fun e d => ?_, fun e d f => ?_, fun e d f => ?_⟩
  · obtain ⟨v, W1, e1, w1, -⟩ := g1 e
    obtain ⟨v', W2, e2, w2'⟩ := y_Tsr v W1 w1
    rw [e1, z_bd2, e2]
    exact ⟨v', W2, rfl, w2'⟩
  · obtain ⟨v, W1, e1, w1, -⟩ := g2 e d
    obtain ⟨v', W2, e2, w2'⟩ := y_Tsr v W1 w1
    rw [e1, z_bd2, e2]
    exact ⟨v', W2, rfl, w2'⟩
  all_goals
    rw [g3 e d, z_bd2]
    unfold y_ssr
    rw [h4, h.2.2.2.2.1, z_Ctk h.2.2.2.2.2.1 (by unfold zR; omega) (by unfold zR; omega), z_bdc, z_jn, h2, show (7 : Int32) = zI 7 from z_lit 7, show (3 : Int32) = zI 3 from z_lit 3, show (5 : Int32) = zI 5 from z_lit 5]
    unfold y_bad at f
  · obtain ⟨W1, e1, w1⟩ := y_gfa h (c := 5) (by omega) (zI (y_st T s p q))
    rcases f with ⟨f1, f2⟩ | ⟨f1, f2⟩ | ⟨f1, f2⟩
    · subst f1
      rw [f2]
      exact ⟨_, W1, e1, w1⟩
    · subst f1
      by_cases a : i = y_st T s p q
      · rw [← a]
        rw [← a] at e1
        dsimp only
        split
        · rw [z_eqF (show (3 : Int) ≠ 7 by omega) (by omega) (by omega) (by omega) (by omega), if_pos rfl]
          exact ⟨_, W1, e1, w1⟩
        · rw [z_eqF (show (3 : Int) ≠ 7 by omega) (by omega) (by omega) (by omega) (by omega), if_pos rfl]
          exact ⟨_, W1, e1, w1⟩
      · have f3 : z_oi (z_tk s i (y_st T s p q)) ≠ -1 := by
          rcases f2 with f2 | f2
          · exact absurd f2 a
          · exact f2
        dsimp only
        rw [show (-1 : Int32) = zI (-1) from rfl, z_eqF f3 (by omega) (by omega) (by omega) (by omega), z_eqF (show (3 : Int) ≠ 7 by omega) (by omega) (by omega) (by omega) (by omega), z_eqF a (by omega) (by omega) (by omega) (by omega), if_pos rfl, if_neg (by decide)]
        exact ⟨_, W1, e1, w1⟩
    · subst f1
      rw [← f2]
      rw [← f2] at e1
      dsimp only
      split
      · rw [z_eqF (show (5 : Int) ≠ 7 by omega) (by omega) (by omega) (by omega) (by omega), if_pos rfl]
        exact ⟨_, W1, e1, w1⟩
      · rw [z_eqF (show (5 : Int) ≠ 7 by omega) (by omega) (by omega) (by omega) (by omega), if_pos rfl]
        exact ⟨_, W1, e1, w1⟩
  · have ad := (y_ga h t).1
    dsimp only
    rw [ad, z_bdc, show (-1 : Int32) = zI (-1) from rfl]
    rcases hk with hk | hk | hk
    · subst hk
      rw [z_eqT (by omega), z_eqF (show (3 : Int) ≠ 7 by omega) (by omega) (by omega) (by omega) (by omega), z_eqF (by omega) (by omega) (by omega) (by omega) (by omega), if_pos rfl, if_pos rfl]
    · subst hk
      have : ∀ A : Option (Int32 × (Nat → Nat → Int32)), (if zI (z_oi (z_tk s i (y_st T s p q))) = zI (-1) then A else A) = A := fun A => by split <;> rfl
      rw [z_eqF (show (5 : Int) ≠ 7 by omega) (by omega) (by omega) (by omega) (by omega), z_eqF (show i ≠ y_st T s p q by omega) (by omega) (by omega) (by omega) (by omega), z_eqF (show (5 : Int) ≠ 3 by omega) (by omega) (by omega) (by omega) (by omega), z_eqF (show (5 : Int) ≠ 7 by omega) (by omega) (by omega) (by omega) (by omega), z_eqF (show i ≠ y_st T s p q by omega) (by omega) (by omega) (by omega) (by omega), z_eqF (show (5 : Int) ≠ 3 by omega) (by omega) (by omega) (by omega) (by omega)]
      exact this _
    · subst hk
      rw [z_eqF (by omega) (by omega) (by omega) (by omega) (by omega), if_pos rfl, if_neg (by decide)]
theorem y_gw (h : y_Cg b T n W0 s g p q kd W) (t : z_tok T n q p' q' kd') :
    (kd ≠ 1 → ∃ v W', f_X3_takeNewName W = some (v, W') ∧ y_Ce b T n W0 s g 1 (zI p) W') ∧
    (kd = 1 → 4 < q - p → ∃ v W', f_X3_takeNewName W = some (v, W') ∧ y_Ce b T n W0 s g 2 (zI p) W') ∧
    (kd = 1 → q - p ≤ 4 → y_st T s p q ≠ -1 → ∃ v W', f_X3_takeNewName W = some (v, W') ∧ y_Ce b T n W0 s g 3 (zI p) W') ∧
    (kd = 1 → q - p ≤ 4 → y_st T s p q = -1 → f_X3_takeNewName W = some (zI (y_wn T p q), y_Ctk W p' q' kd')) := by
  have hb := y_Cg_b h
  obtain ⟨r, t0⟩ := h.2.1.2.2.2
  obtain ⟨⟨v, pn⟩, pn1⟩ := y_gpn h
  have sb := y_st_b (T := T) (p := p) (q := q) h.2.2.2.2.2
  have c1 := h.2.2.2.2.2.1.1.2.1
  unfold f_X3_takeNewName
  rw [h.2.1.2.2.1, z_l1]
  refine ⟨fun e => ?_, fun e d => ?_, fun e d f => ?_, fun e d f => ?_⟩
  · rw [pn, z_bdc, z_eqF e (by omega) (by omega) (by omega) (by omega)]
    obtain ⟨W1, e1, w1⟩ := y_gfa h (c := 1) (by omega) v
    exact ⟨_, W1, e1, w1⟩
  all_goals
    have wb := y_wn_b (y_tkw (e ▸ t0))
    rw [pn1 e, z_bdc, if_pos (by rw [e])]
  · have : y_wn T p q = 0 := if_neg (by omega)
    rw [this, z_l0, if_pos rfl, z_l2]
    obtain ⟨W1, e1, w1⟩ := y_gfa h (c := 2) (by omega) (zI 0)
    exact ⟨_, W1, e1, w1⟩
  all_goals
    have wp : 0 < y_wn T p q := by
      have := y_wlt (y_tkw (e ▸ t0)) d
      have e' : y_wn T p q = y_pf T p (q - p) := if_pos d
      rw [e', ← this.2]
      exact (y_pk_p this.1).1
    rw [z_l0, z_eqF (by omega) (by omega) (by omega) (by omega) (by omega), h.2.2.2.2.1, y_Cfs h.2.2.2.2.2.1 (y_nmb h.2.2.2.2.2) (by unfold zR; omega), z_bdc, show z_oi (y_fs s (y_wn T p q)) = y_st T s p q from rfl, show (-zI 1 : Int32) = zI (-1) from rfl]
  · rw [z_eqF f (by omega) (by omega) (by omega) (by omega), show (3 : Int32) = zI 3 from z_lit 3]
    obtain ⟨W1, e1, w1⟩ := y_gfa h (c := 3) (by omega) (zI (y_wn T p q))
    exact ⟨_, W1, e1, w1⟩
  · rw [f, if_pos rfl, (y_ga h t).1, z_bdc]
noncomputable def y_if (P : Prop) (a b : Int) : Int := @ite Int P (Classical.propDecidable P) a b
theorem y_ift {P : Prop} {a b : Int} (h : P) : y_if P a b = a := if_pos h
theorem y_iff {P : Prop} {a b : Int} (h : ¬ P) : y_if P a b = b := if_neg h
noncomputable def y_kn (T : Nat → Int) (p q : Nat) : Int := y_if (y_kw T p q 1) 1 (y_if (y_kw T p q 2) 2 (y_if (y_kw T p q 3) 3 (y_if (y_kw T p q 4) 4 (y_if (y_kw T p q 5) 5 (y_if (y_kw T p q 6) 6 (y_if (y_kw T p q 7) 7 (y_if (y_kw T p q 8) 8 (-1))))))))
theorem y_if_b {P : Prop} {a b : Int} (hb : (1 ≤ b ∧ b ≤ 8) ∨ b = -1) (ha : 1 ≤ a ∧ a ≤ 8) : (1 ≤ y_if P a b ∧ y_if P a b ≤ 8) ∨ y_if P a b = -1 := by
  by_cases h : P
  · rw [y_ift h]; exact Or.inl ha
  · rw [y_iff h]; exact hb
theorem y_kn_b : (1 ≤ y_kn T p q ∧ y_kn T p q ≤ 8) ∨ y_kn T p q = -1 :=
  y_if_b (y_if_b (y_if_b (y_if_b (y_if_b (y_if_b (y_if_b (y_if_b (Or.inr rfl) (by omega)) (by omega)) (by omega)) (by omega)) (by omega)) (by omega)) (by omega)) (by omega)
theorem y_Ckn (h : y_Cg b T n W0 s g p q kd W) : f_X3_findKeyword W = some (zI (y_kn T p q)) := by
  have hb := y_Cg_b h
  have it := fun j (h1 : 1 ≤ j) (h8 : j ≤ 8) => y_Cit h.1.2 h.2.1.1 h.2.1.2.1 hb.1 hb.2.1 h1 h8
  unfold f_X3_findKeyword y_kn
  by_cases k1 : y_kw T p q 1
  · rw [y_ift k1, (it 1 (by omega) (by omega)).1 k1, z_bdc, if_neg (by decide), z_l1]
  rw [y_iff k1, (it 1 (by omega) (by omega)).2 k1, z_bdc, if_pos z_l0.symm]
  by_cases k1 : y_kw T p q 2
  · rw [y_ift k1, (it 2 (by omega) (by omega)).1 k1, z_bdc, if_neg (by decide), z_l2]
  rw [y_iff k1, (it 2 (by omega) (by omega)).2 k1, z_bdc, if_pos z_l0.symm]
  by_cases k1 : y_kw T p q 3
  · rw [y_ift k1, (it 3 (by omega) (by omega)).1 k1, z_bdc, if_neg (by decide)]; rfl
  rw [y_iff k1, (it 3 (by omega) (by omega)).2 k1, z_bdc, if_pos z_l0.symm]
  by_cases k1 : y_kw T p q 4
  · rw [y_ift k1, (it 4 (by omega) (by omega)).1 k1, z_bdc, if_neg (by decide)]; rfl
  rw [y_iff k1, (it 4 (by omega) (by omega)).2 k1, z_bdc, if_pos z_l0.symm]
  by_cases k1 : y_kw T p q 5
  · rw [y_ift k1, (it 5 (by omega) (by omega)).1 k1, z_bdc, if_neg (by decide)]; rfl
  rw [y_iff k1, (it 5 (by omega) (by omega)).2 k1, z_bdc, if_pos z_l0.symm]
  by_cases k1 : y_kw T p q 6
  · rw [y_ift k1, (it 6 (by omega) (by omega)).1 k1, z_bdc, if_neg (by decide)]; rfl
  rw [y_iff k1, (it 6 (by omega) (by omega)).2 k1, z_bdc, if_pos z_l0.symm]
  by_cases k1 : y_kw T p q 7
  · rw [y_ift k1, (it 7 (by omega) (by omega)).1 k1, z_bdc, if_neg (by decide)]; rfl
  rw [y_iff k1, (it 7 (by omega) (by omega)).2 k1, z_bdc, if_pos z_l0.symm]
  by_cases k1 : y_kw T p q 8
  · rw [y_ift k1, (it 8 (by omega) (by omega)).1 k1, z_bdc, if_neg (by decide)]; rfl
  rw [y_iff k1, (it 8 (by omega) (by omega)).2 k1, z_bdc, if_pos z_l0.symm]
  rfl
end Pd
/-! what the statements do to the railway -/
section Pe
variable {b : Int} {s s' g g' : Nat → Int}
/-- what the reference takes for granted of places not yet in use -/
def y_z (s g : Nat → Int) : Prop := (∀ i : Nat, s 1 ≤ i → i < 8 → g (7 + 4 * i + 2) = 0) ∧ (∀ t : Nat, s 3 ≤ t → t < 4 → g (87 + 14 * t + 8) = 0 ∧ g (87 + 14 * t + 11) = 0 ∧ g (87 + 14 * t + 12) = 0 ∧ g (87 + 14 * t + 13) = 0)
theorem y_ins (h : z_PI b s g) (z : y_z s g) {i : Nat} {m : Int} (hi : (i : Int) < s 1) (hm : 0 ≤ m ∧ m ≤ 9) : f_X4_setInspectionOf (zV s) (zI i) (zI m) = some (zV (zu s (7 + 4 * i + 2) m)) ∧ z_PI b (zu s (7 + 4 * i + 2) m) (zu g (7 + 4 * i + 2) m) ∧ y_z (zu s (7 + 4 * i + 2) m) (zu g (7 + 4 * i + 2) m) := by
  have c1 := h.1.1.2.1
  refine ⟨?_, z_PI_in h hi hm, fun j hj h8 => ?_, fun t ht h4 => ?_⟩
  · unfold f_X4_setInspectionOf
    simp (disch := omega) only [z_lit, z_n, z_add, z_sub, z_mul, z_neg, z_lt1, z_lt0, z_le1, z_le0, z_eq1, z_eq0, z_10, ↓reduceIte, z_v, z_upd, z_ue, z_un, z_ixn, z_ixo, z_ix0, z_ix1, z_ix2, z_ix3, z_ix4, z_ix5, z_ix6, Int.reduceToNat, z_inr, z_gd, ↓z_bnd, ↓z_jn, z_bdc, z_bd2, z_opn, z_ops, z_z01, z_Bt, z_Bf]
  · rw [z_un (by omega)] at hj
    rw [z_un (by omega)]
    exact z.1 j hj h8
  · rw [z_un (by omega)] at ht
    rw [z_un (by omega), z_un (by omega), z_un (by omega), z_un (by omega)]
    exact z.2 t ht h4
theorem y_cls (h : z_PI b s g) (z : y_z s g) {i : Nat} (hi : (i : Int) < s 2) : ∃ s', f_X4_openTrack (zV s) (zI i) (zI 0) = some (zV s') ∧ z_PI b s' (zu g (39 + 4 * i + 3) 0) ∧ y_z s' (zu g (39 + 4 * i + 3) 0) := by
  have c2 := h.1.1.2.2.1
  obtain ⟨s', e1, e2, e3⟩ := z_open h hi (o := 0) (Or.inl rfl)
  refine ⟨s', e1, e2, fun j hj h8 => ?_, fun t ht h4 => ?_⟩
  · rw [e3 1 (by omega) (by omega)] at hj
    rw [z_un (by omega)]
    exact z.1 j hj h8
  · rw [e3 3 (by omega) (by omega)] at ht
    rw [z_un (by omega), z_un (by omega), z_un (by omega), z_un (by omega)]
    exact z.2 t ht h4
theorem y_clr {f : Nat → Int} (hb : 0 ≤ b) (hf : z_bos f) : ∃ s', f_X4_clear (zV f) = some (zV s') ∧ z_PI b s' (fun _ => 0) ∧ y_z s' (fun _ => 0) := by
  obtain ⟨u, hu⟩ : ∃ u, u = zu (zu (zu (zu (zu (zu (zu f 1 0) 2 0) 3 0) 4 0) 0 0) 5 0) 6 0 := ⟨_, rfl⟩
  have lo : ∀ k, k < 7 → u k = 0 := fun k hk => by
    rw [hu]
    have : k = 0 ∨ k = 1 ∨ k = 2 ∨ k = 3 ∨ k = 4 ∨ k = 5 ∨ k = 6 := by omega
    rcases this with c | c | c | c | c | c | c <;> subst c <;> simp (disch := omega) only [z_un, z_ue]
  have hi : ∀ k, 7 ≤ k → u k = f k := fun k hk => by
    rw [hu]
    simp (disch := omega) only [z_un]
  obtain ⟨s', e1, e2, e3⟩ := z_Cme (s := u) (by rw [lo 1 (by omega)]; omega) (by rw [lo 2 (by omega)]; omega) (fun k hk => by rw [lo 2 (by omega)] at hk; omega) (fun k hk => by rw [hi _ (by omega)]; exact hf.2.1 k hk)
  have lo' : ∀ k, k < 7 → s' k = 0 := fun k hk => by rw [e2 k (by omega), lo k hk]
  have hi' : ∀ k, 7 ≤ k → k < 251 → s' k = f k := fun k h1 h2 => by rw [e2 k (by omega), hi k h1]
  refine ⟨s', ?_, z_PI_mk ⟨?_, fun k hk => (lo' k hk).symm⟩ ⟨fun i h8 => by rw [hi' _ (by omega) (by omega)]; exact hf.1 i h8, fun i h1 => ?_⟩ ⟨fun i h8 => by rw [hi' _ (by omega) (by omega)]; exact hf.2.1 i h8, fun i h1 => ?_⟩ ⟨fun i h8 => by rw [hi' _ (by omega) (by omega)]; exact hf.2.2 i h8, fun i h1 => ?_⟩ (fun i h1 => ?_) e3 (fun i h8 => ⟨Int.le_refl _, show (0 : Int) ≤ 4 * b by omega⟩), ⟨fun _ _ _ => rfl, fun _ _ _ => ⟨rfl, rfl, rfl, rfl⟩⟩⟩
  · unfold f_X4_clear
    rw [hu] at e1
    simp (disch := omega) only [z_lit, z_n, z_add, z_sub, z_mul, z_neg, z_lt1, z_lt0, z_le1, z_le0, z_eq1, z_eq0, z_10, ↓reduceIte, z_v, z_upd, z_ue, z_un, z_ixn, z_ixo, z_ix0, z_ix1, z_ix2, z_ix3, z_ix4, z_ix5, z_ix6, Int.reduceToNat, z_inr, z_gd, ↓z_bnd, ↓z_jn, z_bdc, z_bd2, z_opn, z_ops, z_z01, z_Bt, z_Bf, e1]
  · unfold z_cnt4
    rw [lo' 0 (by omega), lo' 1 (by omega), lo' 2 (by omega), lo' 3 (by omega), lo' 4 (by omega)]
    omega
  · rw [lo' 1 (by omega)] at h1; omega
  · rw [lo' 2 (by omega)] at h1; omega
  · rw [lo' 3 (by omega)] at h1; omega
  · rw [lo' 4 (by omega)] at h1; omega
end Pe
/-! stations and tracks are laid -/
section Pf
variable {b : Int} {s s' g g' : Nat → Int}
def y_G1 (g : Nat → Int) (n : Nat) (m v : Int) : Nat → Int := zu (zu (zu g (7 + 4 * n) m) (7 + 4 * n + 1) v) 1 ((n : Int) + 1)
theorem y_mst (h : z_PI b s g) (z : y_z s g) {n : Nat} (hn : s 1 = n) (h1 : n < 8) {a' b' c' d' v : Int} (hl : z_ltr a' b' c' d') (hv : v = 0 ∨ v = 1) : ∃ s', f_X4_makeStation (zV s) (zI (z_pk a' b' c' d')) (zI v) = some (zV s') ∧ z_PI b s' (y_G1 g n (((a' * 27 + b') * 27 + c') * 27 + d') v) ∧ y_z s' (y_G1 g n (((a' * 27 + b') * 27 + c') * 27 + d') v) := by
  have k0 := z_PI_0 h
  have k1 := z_PI_1 h
  obtain ⟨c0, c1, c2, c3, c4⟩ := id k0.1
  obtain ⟨s', hs'⟩ : ∃ s', s' = zu (zu (zu (zu (zu s (7 + 4 * n) (z_pk a' b' c' d')) (7 + 4 * n + 1) v) (7 + 4 * n + 2) 0) (7 + 4 * n + 3) (-1)) 1 (s 1 + 1) := ⟨_, rfl⟩
  obtain ⟨g', hg'⟩ : ∃ g', g' = y_G1 g n (((a' * 27 + b') * 27 + c') * 27 + d') v := ⟨_, rfl⟩
  rw [← hg']
  have hG := hg'
  unfold y_G1 at hG
  have e : ∀ k, ¬ (7 + 4 * n ≤ k ∧ k < 7 + 4 * n + 4) → k ≠ 1 → s' k = s k := fun k h1 h2 => by
    rw [hs']
    simp (disch := omega) only [z_un]
  have f : ∀ k, ¬ (7 + 4 * n ≤ k ∧ k < 7 + 4 * n + 2) → k ≠ 1 → g' k = g k := fun k h1 h2 => by
    rw [hG]
    simp (disch := omega) only [z_un]
  have s1 : s' 1 = s 1 + 1 := by rw [hs', z_ue rfl]
  have g1 : g' 1 = s 1 + 1 := by rw [hG, z_ue rfl, hn]
  have d0 : s' (7 + 4 * n) = z_pk a' b' c' d' := by rw [hs']; simp (disch := omega) only [z_un, z_ue]
  have d1 : s' (7 + 4 * n + 1) = v := by rw [hs']; simp (disch := omega) only [z_un, z_ue]
  have d2 : s' (7 + 4 * n + 2) = 0 := by rw [hs']; simp (disch := omega) only [z_un, z_ue]
  have d3 : s' (7 + 4 * n + 3) = -1 := by rw [hs']; simp (disch := omega) only [z_un, z_ue]
  have q0 : g' (7 + 4 * n) = ((a' * 27 + b') * 27 + c') * 27 + d' := by rw [hG]; simp (disch := omega) only [z_un, z_ue]
  have q1 : g' (7 + 4 * n + 1) = v := by rw [hG]; simp (disch := omega) only [z_un, z_ue]
  have q2 : g' (7 + 4 * n + 2) = 0 := by rw [f _ (by omega) (by omega)]; exact z.1 n (by omega) h1
  refine ⟨s', ?_, z_PI_mk ⟨?_, fun k hk => ?_⟩ ⟨fun i h8 => ?_, fun i hi => ?_⟩ (z_k2_c k0 (by omega) (e 2 (by omega) (by omega)) (fun k _ _ => e k (by omega) (by omega)) (fun k _ _ => f k (by omega) (by omega)) (z_PI_2 h)) (z_k3_c k0 (by omega) (e 3 (by omega) (by omega)) (fun x y _ => z_tk_c (e 2 (by omega) (by omega)) (by omega) (fun k _ _ => e k (by omega) (by omega))) (fun k hk => e _ (by omega) (by omega)) (fun k _ _ => e k (by omega) (by omega)) (fun k _ _ => f k (by omega) (by omega)) (z_PI_3 h)) (z_k4_c k0 (e 0 (by omega) (by omega)) (by omega) (by rw [e 3 (by omega) (by omega)]; exact Int.le_refl _) (e 4 (by omega) (by omega)) (fun k _ _ => e k (by omega) (by omega)) (fun k _ _ => f k (by omega) (by omega)) (z_PI_4 h)) (z_dis_c (e 2 (by omega) (by omega)) (by omega) (fun k _ _ => e k (by omega) (by omega)) (fun k _ => e k (by omega) (by omega)) (z_PI_5 h)) (fun j hj => by rw [f _ (by omega) (by omega)]; exact z_PI_6 h j hj), fun j hj h8 => ?_, fun t ht h4 => ?_⟩
  · unfold f_X4_makeStation
    rw [hs']
    rw [z_v, hn]
    simp (disch := omega) only [z_lit, z_n, z_add, z_sub, z_mul, z_neg, z_lt1, z_lt0, z_le1, z_le0, z_eq1, z_eq0, z_10, ↓reduceIte, z_v, z_upd, z_ue, z_un, z_ixn, z_ixo, z_ix0, z_ix1, z_ix2, z_ix3, z_ix4, z_ix5, z_ix6, Int.reduceToNat, z_inr, z_gd, ↓z_bnd, ↓z_jn, z_bdc, z_bd2, z_opn, z_ops, z_z01, z_Bt, z_Bf, hn]
  · unfold z_cnt4
    rw [e 0 (by omega) (by omega), e 2 (by omega) (by omega), e 3 (by omega) (by omega), e 4 (by omega) (by omega), s1]
    omega
  · by_cases c : k = 1
    · rw [c, s1, g1]
    · rw [e k (by omega) c, f k (by omega) c]
      exact k0.2 k hk
  · by_cases c : i = n
    · rw [c, d1]
      exact hv
    · rw [e _ (by omega) (by omega)]
      exact k1.1 i h8
  · rw [s1] at hi
    by_cases c : i = n
    · subst c
      unfold z_stn
      rw [d0, d1, d2, d3, q0, q1, q2, e 0 (by omega) (by omega)]
      exact ⟨⟨⟨by omega, by omega⟩, by omega, by omega⟩, ⟨a', b', c', d', hl, rfl, rfl⟩, rfl, rfl⟩
    · have q := k1.2 i (by omega)
      unfold z_stn at q ⊢
      rw [e (7 + 4 * i) (by omega) (by omega), e (7 + 4 * i + 1) (by omega) (by omega), e (7 + 4 * i + 2) (by omega) (by omega), e (7 + 4 * i + 3) (by omega) (by omega), f (7 + 4 * i) (by omega) (by omega), f (7 + 4 * i + 1) (by omega) (by omega), f (7 + 4 * i + 2) (by omega) (by omega), e 0 (by omega) (by omega)]
      exact q
  · rw [s1] at hj
    rw [f _ (by omega) (by omega)]
    exact z.1 j (by omega) h8
  · rw [e 3 (by omega) (by omega)] at ht
    rw [f _ (by omega) (by omega), f _ (by omega) (by omega), f _ (by omega) (by omega), f _ (by omega) (by omega)]
    exact z.2 t ht h4
theorem y_ff_p {p : Nat → Bool} : ∀ d i k, z_ff p i d = some k → z_ff p i (d + 1) = some k
  | 0, i, k, h => by cases h
  | d + 1, i, k, h => by
    unfold z_ff at h ⊢
    by_cases hp : p i = true
    · rw [if_pos hp] at h ⊢
      exact h
    · rw [if_neg hp] at h ⊢
      exact y_ff_p d (i + 1) k h
def y_G2 (g : Nat → Int) (n : Nat) (i j w : Int) : Nat → Int := zu (zu (zu (zu (zu g (39 + 4 * n) i) (39 + 4 * n + 1) j) (39 + 4 * n + 2) w) (39 + 4 * n + 3) 1) 2 ((n : Int) + 1)
theorem y_mtk (h : z_PI b s g) (z : y_z s g) {n : Nat} (hn : s 2 = n) (h2 : n < 12) {i j w : Int} (hi : 0 ≤ i ∧ i < s 1) (hj : 0 ≤ j ∧ j < s 1) (hw : 1 ≤ w ∧ w ≤ 9) : ∃ s', f_X4_makeTrack (zV s) (zI i) (zI j) (zI w) = some (zV s') ∧ z_PI b s' (y_G2 g n i j w) ∧ y_z s' (y_G2 g n i j w) := by
  have k0 := z_PI_0 h
  have k2 := z_PI_2 h
  obtain ⟨c0, c1, c2, c3, c4⟩ := id k0.1
  obtain ⟨u, hu⟩ : ∃ u, u = zu (zu (zu (zu (zu s (39 + 4 * n) i) (39 + 4 * n + 1) j) (39 + 4 * n + 2) w) (39 + 4 * n + 3) 1) 2 (s 2 + 1) := ⟨_, rfl⟩
  obtain ⟨g', hg'⟩ : ∃ g', g' = y_G2 g n i j w := ⟨_, rfl⟩
  rw [← hg']
  have hG := hg'
  unfold y_G2 at hG
  have eu : ∀ k, ¬ (39 + 4 * n ≤ k ∧ k < 39 + 4 * n + 4) → k ≠ 2 → u k = s k := fun k h1 h2 => by
    rw [hu]
    simp (disch := omega) only [z_un]
  have f : ∀ k, ¬ (39 + 4 * n ≤ k ∧ k < 39 + 4 * n + 4) → k ≠ 2 → g' k = g k := fun k h1 h2 => by
    rw [hG]
    simp (disch := omega) only [z_un]
  have u2 : u 2 = s 2 + 1 := by rw [hu, z_ue rfl]
  have g2 : g' 2 = s 2 + 1 := by rw [hG, z_ue rfl, hn]
  have d0 : u (39 + 4 * n) = i := by rw [hu]; simp (disch := omega) only [z_un, z_ue]
  have d1 : u (39 + 4 * n + 1) = j := by rw [hu]; simp (disch := omega) only [z_un, z_ue]
  have d2 : u (39 + 4 * n + 2) = w := by rw [hu]; simp (disch := omega) only [z_un, z_ue]
  have d3 : u (39 + 4 * n + 3) = 1 := by rw [hu]; simp (disch := omega) only [z_un, z_ue]
  have q0 : g' (39 + 4 * n) = i := by rw [hG]; simp (disch := omega) only [z_un, z_ue]
  have q1 : g' (39 + 4 * n + 1) = j := by rw [hG]; simp (disch := omega) only [z_un, z_ue]
  have q2 : g' (39 + 4 * n + 2) = w := by rw [hG]; simp (disch := omega) only [z_un, z_ue]
  have q3 : g' (39 + 4 * n + 3) = 1 := by rw [hG]; simp (disch := omega) only [z_un, z_ue]
  have tru : ∀ k : Nat, (k : Int) < u 2 → z_trk u k := fun k hk => by
    rw [u2] at hk
    unfold z_trk
    rw [eu 1 (by omega) (by omega)]
    by_cases c : k = n
    · subst c
      rw [d0, d1, d2]
      exact ⟨hi, hj, hw⟩
    · rw [eu _ (by omega) (by omega), eu _ (by omega) (by omega), eu _ (by omega) (by omega)]
      exact (k2.2 k (by omega)).1
  have bou : ∀ k : Nat, k < 12 → z_bo (u (39 + 4 * k + 3)) := fun k hk => by
    by_cases c : k = n
    · subst c
      rw [d3]
      exact Or.inr rfl
    · rw [eu _ (by omega) (by omega)]
      exact k2.1 k hk
  obtain ⟨s', e1, e2, e3⟩ := z_Cme (s := u) (by rw [eu 1 (by omega) (by omega)]; exact c1) (by rw [u2]; omega) tru bou
  have e : ∀ k, k < 251 → ¬ (39 + 4 * n ≤ k ∧ k < 39 + 4 * n + 4) → k ≠ 2 → s' k = s k := fun k h0 h1 h2 => by rw [e2 k (by omega), eu k h1 h2]
  have s2 : s' 2 = s 2 + 1 := by rw [e2 2 (by omega), u2]
  have htk : ∀ x y, z_tk s x y ≠ none → z_tk s' x y = z_tk s x y := by
    intro x y hne
    obtain ⟨k, hk⟩ : ∃ k, z_tk s x y = some k := by
      cases q : z_tk s x y with
      | none => exact absurd q hne
      | some k => exact ⟨k, rfl⟩
    rw [hk]
    unfold z_tk at hk ⊢
    rw [s2, show (s 2 + 1).toNat = (s 2).toNat + 1 by omega]
    apply y_ff_p
    rw [← hk]
    refine z_ff_c _ _ (fun m _ hm => ?_)
    unfold z_cn
    rw [e _ (by omega) (by omega) (by omega), e _ (by omega) (by omega) (by omega)]
  refine ⟨s', ?_, z_PI_mk ⟨?_, fun k hk => ?_⟩ (z_k1_c k0 (e 0 (by omega) (by omega) (by omega)) (e 1 (by omega) (by omega) (by omega)) (fun k _ _ => e k (by omega) (by omega) (by omega)) (fun k _ _ => f k (by omega) (by omega)) (z_PI_1 h)) ⟨fun k hk => by rw [e2 _ (by omega)]; exact bou k hk, fun k hk => ?_⟩ (z_k3_c k0 (by rw [e 1 (by omega) (by omega) (by omega)]; exact Int.le_refl _) (e 3 (by omega) (by omega) (by omega)) htk (fun k hk => e _ (by omega) (by omega) (by omega)) (fun k _ _ => e k (by omega) (by omega) (by omega)) (fun k _ _ => f k (by omega) (by omega)) (z_PI_3 h)) (z_k4_c k0 (e 0 (by omega) (by omega) (by omega)) (by rw [e 1 (by omega) (by omega) (by omega)]; exact Int.le_refl _) (by rw [e 3 (by omega) (by omega) (by omega)]; exact Int.le_refl _) (e 4 (by omega) (by omega) (by omega)) (fun k _ _ => e k (by omega) (by omega) (by omega)) (fun k _ _ => f k (by omega) (by omega)) (z_PI_4 h)) e3 (fun j hj => by rw [f _ (by omega) (by omega)]; exact z_PI_6 h j hj), fun j hj h8 => ?_, fun t ht h4 => ?_⟩
  · unfold f_X4_makeTrack
    rw [hu] at e1
    rw [z_v, hn]
    rw [hn] at e1
    simp (disch := omega) only [z_lit, z_n, z_add, z_sub, z_mul, z_neg, z_lt1, z_lt0, z_le1, z_le0, z_eq1, z_eq0, z_10, ↓reduceIte, z_v, z_upd, z_ue, z_un, z_ixn, z_ixo, z_ix0, z_ix1, z_ix2, z_ix3, z_ix4, z_ix5, z_ix6, Int.reduceToNat, z_inr, z_gd, ↓z_bnd, ↓z_jn, z_bdc, z_bd2, z_opn, z_ops, z_z01, z_Bt, z_Bf, hn, e1]
  · unfold z_cnt4
    rw [e 0 (by omega) (by omega) (by omega), e 1 (by omega) (by omega) (by omega), e 3 (by omega) (by omega) (by omega), e 4 (by omega) (by omega) (by omega), s2]
    omega
  · by_cases c : k = 2
    · rw [c, s2, g2]
    · rw [e k (by omega) (by omega) c, f k (by omega) c]
      exact k0.2 k hk
  · rw [s2] at hk
    refine ⟨?_, fun m hm => ?_⟩
    · have := tru k (by rw [u2]; exact hk)
      unfold z_trk at this ⊢
      rw [e2 1 (by omega), e2 _ (by omega), e2 _ (by omega), e2 _ (by omega)]
      exact this
    · rw [e2 _ (by omega)]
      by_cases c : k = n
      · subst c
        have hm4 : m = 0 ∨ m = 1 ∨ m = 2 ∨ m = 3 := by omega
        rcases hm4 with r | r | r | r <;> subst r
        · rw [Nat.add_zero, q0, d0]
        · rw [q1, d1]
        · rw [q2, d2]
        · rw [q3, d3]
      · rw [f _ (by omega) (by omega), eu _ (by omega) (by omega)]
        exact (k2.2 k (by omega)).2 m hm
  · rw [e 1 (by omega) (by omega) (by omega)] at hj
    rw [f _ (by omega) (by omega)]
    exact z.1 j hj h8
  · rw [e 3 (by omega) (by omega) (by omega)] at ht
    rw [f _ (by omega) (by omega), f _ (by omega) (by omega), f _ (by omega) (by omega), f _ (by omega) (by omega)]
    exact z.2 t ht h4
end Pf
/-! a train is set down -/
section Pg
variable {b : Int} {s s' g g' : Nat → Int}
def y_G3 (g : Nat → Int) (n : Nat) (c m : Int) : Nat → Int := zu (zu (zu (zu (zu g (87 + 14 * n) c) (87 + 14 * n + 1) m) (87 + 14 * n + 9) 1) (87 + 14 * n + 10) (-1)) 3 ((n : Int) + 1)
theorem y_mtl {R0 : Nat → Int32} {r : Nat → Int} {m n : Nat} {K : (Nat → Int32) → Option (Nat → Int32)} (hm : m ≤ 6) (hR : ∀ j, j < m → R0 j = zI (r j)) : ∀ d x N (u : Nat → Int), x + d = m → d < N → u (87 + 14 * n + 1) = x → ∃ u', l_X4_makeTrain_35 R0 (zI m) n K N (zV u) (zI (x : Nat)) = K (zV u') ∧ u' (87 + 14 * n + 1) = m ∧ (∀ j, x ≤ j → j < m → u' (87 + 14 * n + 2 + j) = r j) ∧ (∀ k, k ≠ 87 + 14 * n + 1 → ¬ (87 + 14 * n + 2 + x ≤ k ∧ k < 87 + 14 * n + 8) → u' k = u k) := by
  intro d
  induction d with
  | zero =>
    intro x N u hx hN h1
    obtain ⟨N, rfl⟩ : ∃ M, N = M + 1 := ⟨N - 1, by omega⟩
    refine ⟨u, ?_, by rw [h1]; omega, fun j a b => by omega, fun _ _ _ => rfl⟩
    rw [l_X4_makeTrain_35, z_leT (by omega) (by omega) (by omega)]
  | succ d ih =>
    intro x N u hx hN h1
    obtain ⟨N, rfl⟩ : ∃ M, N = M + 1 := ⟨N - 1, by omega⟩
    obtain ⟨u', e1, e2, e3, e4⟩ := ih (x + 1) N (zu (zu u (87 + 14 * n + 2 + x) (r x)) (87 + 14 * n + 1) ((x : Int) + 1)) (by omega) (by omega) (by rw [z_ue rfl]; rfl)
    refine ⟨u', ?_, e2, fun j a b => ?_, fun k k1 k2 => by rw [e4 k k1 (by omega), z_un (by omega), z_un (by omega)]⟩
    · rw [l_X4_makeTrain_35, show (6 : Int32) = zI 6 from z_lit 6]
      simp (disch := omega) only [z_lit, z_n, z_add, z_sub, z_mul, z_neg, z_lt1, z_lt0, z_le1, z_le0, z_eq1, z_eq0, z_10, ↓reduceIte, z_v, z_upd, z_ue, z_un, z_ixn, z_ixo, z_ix0, z_ix1, z_ix2, z_ix3, z_ix4, z_ix5, z_ix6, Int.reduceToNat, z_inr, z_gd, ↓z_bnd, ↓z_jn, z_bdc, z_bd2, z_opn, z_ops, z_z01, z_Bt, z_Bf, hR x (by omega), h1]
      exact e1
    · by_cases c : j = x
      · subst c
        rw [e4 _ (by omega) (by omega), z_un (by omega), z_ue rfl]
      · exact e3 j (by omega) b
theorem y_mtr (h : z_PI b s g) (z : y_z s g) {n m : Nat} (hn : s 3 = n) (h3 : n < 4) {c : Int} (hc : 1 ≤ c ∧ c ≤ 4) (hm : 2 ≤ m ∧ m ≤ 6) {r : Nat → Int} {R0 : Nat → Int32} (hr : ∀ j, j < m → 0 ≤ r j ∧ r j < s 1) (hl : ∀ j, j + 1 < m → z_tk s (r j) (r (j + 1)) ≠ none) (hg : ∀ j, j < m → g (87 + 14 * n + 2 + j) = r j) (hR : ∀ j, j < m → R0 j = zI (r j)) : ∃ s', f_X4_makeTrain (zV s) (zI c) R0 (zI m) = some (zV s') ∧ z_PI b s' (y_G3 g n c m) ∧ y_z s' (y_G3 g n c m) := by
  have k0 := z_PI_0 h
  have k3 := z_PI_3 h
  obtain ⟨c0, c1, c2, c3, c4⟩ := id k0.1
  obtain ⟨u, e1, e2, e3, e4⟩ := y_mtl (n := n) (K := fun (S10 : Nat → Int32) => bnd (upd S10 (87 + 14 * n + 8) (0 : Int32)) (fun S11 => bnd (upd S11 (87 + 14 * n + 9) (1 : Int32)) (fun S12 => bnd (upd S12 (87 + 14 * n + 10) (0 : Int32)) (fun S13 => bnd (upd S13 (87 + 14 * n + 11) (0 : Int32)) (fun S14 => bnd (upd S14 (87 + 14 * n + 12) (0 : Int32)) (fun S15 => bnd (upd S15 (87 + 14 * n + 13) (0 : Int32)) (fun S16 => bnd (upd S16 3 ((S16 3) + (1 : Int32))) (fun S17 => some S17)))))))) hm.2 hR m 0 FU (zu (zu s (87 + 14 * n) c) (87 + 14 * n + 1) 0) (by omega) (by unfold FU; omega) (z_ue rfl)
  have u3 : u 3 = s 3 := by rw [e4 3 (by omega) (by omega), z_un (by omega), z_un (by omega)]
  obtain ⟨s', hs'⟩ : ∃ s', s' = zu (zu (zu (zu (zu (zu (zu u (87 + 14 * n + 8) 0) (87 + 14 * n + 9) 1) (87 + 14 * n + 10) 0) (87 + 14 * n + 11) 0) (87 + 14 * n + 12) 0) (87 + 14 * n + 13) 0) 3 ((n : Int) + 1) := ⟨_, rfl⟩
  obtain ⟨g', hg'⟩ : ∃ g', g' = y_G3 g n c m := ⟨_, rfl⟩
  rw [← hg']
  have hG := hg'
  unfold y_G3 at hG
  have e : ∀ k, ¬ (87 + 14 * n ≤ k ∧ k < 87 + 14 * n + 14) → k ≠ 3 → s' k = s k := fun k h1 h2 => by
    rw [hs']
    simp (disch := omega) only [z_un, e4]
  have f : ∀ k, ¬ (87 + 14 * n ≤ k ∧ k < 87 + 14 * n + 14) → k ≠ 3 → g' k = g k := fun k h1 h2 => by
    rw [hG]
    simp (disch := omega) only [z_un]
  have s3 : s' 3 = s 3 + 1 := by rw [hs', z_ue rfl, hn]
  have g3 : g' 3 = s 3 + 1 := by rw [hG, z_ue rfl, hn]
  have d0 : s' (87 + 14 * n) = c := by rw [hs']; simp (disch := omega) only [z_un, z_ue, e4]
  have d1 : s' (87 + 14 * n + 1) = m := by rw [hs']; simp (disch := omega) only [z_un, z_ue, e2]
  have d2 : ∀ j, j < m → s' (87 + 14 * n + 2 + j) = r j := fun j hj => by rw [hs']; simp (disch := omega) only [z_un]; exact e3 j (by omega) hj
  have d8 : s' (87 + 14 * n + 8) = 0 := by rw [hs']; simp (disch := omega) only [z_un, z_ue]
  have d9 : s' (87 + 14 * n + 9) = 1 := by rw [hs']; simp (disch := omega) only [z_un, z_ue]
  have d10 : s' (87 + 14 * n + 10) = 0 := by rw [hs']; simp (disch := omega) only [z_un, z_ue]
  have d11 : s' (87 + 14 * n + 11) = 0 := by rw [hs']; simp (disch := omega) only [z_un, z_ue]
  have d12 : s' (87 + 14 * n + 12) = 0 := by rw [hs']; simp (disch := omega) only [z_un, z_ue]
  have d13 : s' (87 + 14 * n + 13) = 0 := by rw [hs']; simp (disch := omega) only [z_un, z_ue]
  obtain ⟨z8, z11, z12, z13⟩ := z.2 n (by omega) h3
  have q0 : g' (87 + 14 * n) = c := by rw [hG]; simp (disch := omega) only [z_un, z_ue]
  have q1 : g' (87 + 14 * n + 1) = m := by rw [hG]; simp (disch := omega) only [z_un, z_ue]
  have q2 : ∀ j, j < m → g' (87 + 14 * n + 2 + j) = r j := fun j hj => by rw [hG]; simp (disch := omega) only [z_un]; exact hg j hj
  have q8 : g' (87 + 14 * n + 8) = 0 := by rw [hG]; simp (disch := omega) only [z_un, z_ue, z8]
  have q9 : g' (87 + 14 * n + 9) = 1 := by rw [hG]; simp (disch := omega) only [z_un, z_ue]
  have q10 : g' (87 + 14 * n + 10) = -1 := by rw [hG]; simp (disch := omega) only [z_un, z_ue]
  have q11 : g' (87 + 14 * n + 11) = 0 := by rw [hG]; simp (disch := omega) only [z_un, z_ue, z11]
  have q12 : g' (87 + 14 * n + 12) = 0 := by rw [hG]; simp (disch := omega) only [z_un, z_ue, z12]
  have q13 : g' (87 + 14 * n + 13) = 0 := by rw [hG]; simp (disch := omega) only [z_un, z_ue, z13]
  have tk : ∀ x y, z_tk s' x y = z_tk s x y := fun x y => z_tk_c (e 2 (by omega) (by omega)) (by omega) (fun k _ _ => e k (by omega) (by omega))
  refine ⟨s', ?_, z_PI_mk ⟨?_, fun k hk => ?_⟩ (z_k1_c k0 (e 0 (by omega) (by omega)) (e 1 (by omega) (by omega)) (fun k _ _ => e k (by omega) (by omega)) (fun k _ _ => f k (by omega) (by omega)) (z_PI_1 h)) (z_k2_c k0 (by rw [e 1 (by omega) (by omega)]; exact Int.le_refl _) (e 2 (by omega) (by omega)) (fun k _ _ => e k (by omega) (by omega)) (fun k _ _ => f k (by omega) (by omega)) (z_PI_2 h)) ⟨fun i hi => ?_, fun t ht => ?_⟩ (z_k4_c k0 (e 0 (by omega) (by omega)) (by rw [e 1 (by omega) (by omega)]; exact Int.le_refl _) (by omega) (e 4 (by omega) (by omega)) (fun k _ _ => e k (by omega) (by omega)) (fun k _ _ => f k (by omega) (by omega)) (z_PI_4 h)) (z_dis_c (e 2 (by omega) (by omega)) (by omega) (fun k _ _ => e k (by omega) (by omega)) (fun k _ => e k (by omega) (by omega)) (z_PI_5 h)) (fun j hj => by rw [f _ (by omega) (by omega)]; exact z_PI_6 h j hj), fun j hj h8 => ?_, fun t ht h4 => ?_⟩
  · unfold f_X4_makeTrain
    rw [z_v, hn]
    rw [show zI ((0 : Nat) : Int) = zI 0 from rfl] at e1
    simp (disch := omega) only [z_lit, z_n, z_add, z_sub, z_mul, z_neg, z_lt1, z_lt0, z_le1, z_le0, z_eq1, z_eq0, z_10, ↓reduceIte, z_v, z_upd, z_ue, z_un, z_ixn, z_ixo, z_ix0, z_ix1, z_ix2, z_ix3, z_ix4, z_ix5, z_ix6, Int.reduceToNat, z_inr, z_gd, ↓z_bnd, ↓z_jn, z_bdc, z_bd2, z_opn, z_ops, z_z01, z_Bt, z_Bf] at e1 ⊢
    rw [e1, hs']
    simp (disch := omega) only [z_lit, z_n, z_add, z_sub, z_mul, z_neg, z_lt1, z_lt0, z_le1, z_le0, z_eq1, z_eq0, z_10, ↓reduceIte, z_v, z_upd, z_ue, z_un, z_ixn, z_ixo, z_ix0, z_ix1, z_ix2, z_ix3, z_ix4, z_ix5, z_ix6, Int.reduceToNat, z_inr, z_gd, ↓z_bnd, ↓z_jn, z_bdc, z_bd2, z_opn, z_ops, z_z01, z_Bt, z_Bf, u3, hn]
  · unfold z_cnt4
    rw [e 0 (by omega) (by omega), e 1 (by omega) (by omega), e 2 (by omega) (by omega), e 4 (by omega) (by omega), s3]
    omega
  · by_cases c : k = 3
    · rw [c, s3, g3]
    · rw [e k (by omega) c, f k (by omega) c]
      exact k0.2 k hk
  · by_cases c : i = n
    · subst c
      rw [d9]
      exact Or.inr rfl
    · rw [e _ (by omega) (by omega)]
      exact k3.1 i hi
  · rw [s3] at ht
    by_cases c : t = n
    · subst c
      refine ⟨?_, ?_⟩
      · unfold z_trn
        rw [d0, d1, d8, d9, d10, e 1 (by omega) (by omega)]
        refine ⟨hc, by omega, fun j hj => ?_, fun j hj => ?_, by omega, by omega, by omega⟩
        · rw [d2 j (by omega)]
          exact hr j (by omega)
        · rw [d2 j (by omega), d2 (j + 1) (by omega), tk]
          exact hl j (by omega)
      · unfold z_rtn z_tv
        rw [d0, d1, d8, d9, d10, d11, d12, d13, q0, q1, q8, q9, q10, q11, q12, q13]
        refine ⟨rfl, rfl, fun j hj => ?_, rfl, rfl, Or.inl ⟨rfl, rfl⟩, rfl, rfl, rfl⟩
        rw [d2 j (by omega), q2 j (by omega)]
    · obtain ⟨p1, p2⟩ := k3.2 t (by omega)
      exact ⟨z_trn_g (by rw [e 1 (by omega) (by omega)]; exact Int.le_refl _) (fun x y _ => tk x y) (fun k hk => e _ (by omega) (by omega)) p1, z_rtn_g (fun x y _ => tk x y) (fun k hk => e _ (by omega) (by omega)) c2.1 (fun k hk => e _ (by omega) (by omega)) (fun k hk => f _ (by omega) (by omega)) p1 p2⟩
  · rw [e 1 (by omega) (by omega)] at hj
    rw [f _ (by omega) (by omega)]
    exact z.1 j hj h8
  · rw [s3] at ht
    rw [f _ (by omega) (by omega), f _ (by omega) (by omega), f _ (by omega) (by omega), f _ (by omega) (by omega)]
    exact z.2 t (by omega) h4
end Pg
