/-! second stations, new names, keywords, in the class -/
section Pd
variable {W W' W0 V V' V0 : Nat → Nat → Int32} {T : Nat → Int} {n r p q p' q' : Nat} {kd kd' : Int} {s g : Nat → Int} {b : Int} {c : Int} {x : Int32}
noncomputable def y_ssr (v2 : Int32) (W1 : Nat → Nat → Int32) : Option (Int32 × (Nat → Nat → Int32)) := bdc (f_X4_findTrack (W1 2) (W1 13 4) v2) (fun v3 => jn (fun (v5 : Int32) => if (W1 13 2) = (7 : Int32) then if v5 = 0 then bdc (f_X3_fail W1 (5 : Int32)) (fun W19 => bdc (f_X6_advance W19) (fun W20 => some (v2, W20))) else bdc (f_X6_advance W1) (fun W18 => some (v2, W18)) else if (W1 13 4) = v2 then bdc (f_X3_fail W1 (5 : Int32)) (fun W9 => bdc (f_X6_advance W9) (fun W10 => some (v2, W10))) else if (W1 13 2) = (3 : Int32) then if v5 = 0 then bdc (f_X6_advance W1) (fun W14 => some (v2, W14)) else bdc (f_X3_fail W1 (5 : Int32)) (fun W15 => bdc (f_X6_advance W15) (fun W16 => some (v2, W16))) else bdc (f_X6_advance W1) (fun W12 => some (v2, W12))) (fun j4 => if v3 = (-1 : Int32) then j4 (0 : Int32) else j4 (1 : Int32)))
theorem y_ssx : f_X3_takeSecondStation W = bd2 (f_X3_findNamedStation W) (fun v W1 => y_ssr v W1) := rfl
theorem y_Tsr (v : Int32) : y_T2 (y_Ce b T n W0 s g c x) (y_ssr v) := fun W1 w1 => by
  unfold y_ssr
  obtain ⟨y, e2⟩ := y_Tft W1 w1 (W1 13 4) v
  rw [e2, z_bdc, z_jn]
  suffices H : ∀ z : Int32, ∃ v' W', (if (W1 13 2) = (7 : Int32) then if z = 0 then bdc (f_X3_fail W1 (5 : Int32)) (fun W19 => bdc (f_X6_advance W19) (fun W20 => some (v, W20))) else bdc (f_X6_advance W1) (fun W18 => some (v, W18)) else if (W1 13 4) = v then bdc (f_X3_fail W1 (5 : Int32)) (fun W9 => bdc (f_X6_advance W9) (fun W10 => some (v, W10))) else if (W1 13 2) = (3 : Int32) then if z = 0 then bdc (f_X6_advance W1) (fun W14 => some (v, W14)) else bdc (f_X3_fail W1 (5 : Int32)) (fun W15 => bdc (f_X6_advance W15) (fun W16 => some (v, W16))) else bdc (f_X6_advance W1) (fun W12 => some (v, W12))) = some (v', W') ∧ y_Ce b T n W0 s g c x W' by
    split
    · exact H 0
    · exact H 1
  intro z
  split
  · split
    · exact y_Tfa _ _ W1 w1
    · exact y_Taa _ W1 w1
  · split
    · exact y_Tfa _ _ W1 w1
    · split
      · split
        · exact y_Taa _ W1 w1
        · exact y_Tfa _ _ W1 w1
      · exact y_Taa _ W1 w1
def y_bad (k : Int) (s : Nat → Int) (i j : Int) : Prop := (k = 7 ∧ z_oi (z_tk s i j) = -1) ∨ (k = 3 ∧ (i = j ∨ z_oi (z_tk s i j) ≠ -1)) ∨ (k = 5 ∧ i = j)
theorem y_tk_b {i j : Int} (h : z_PI b s g) : -1 ≤ z_oi (z_tk s i j) ∧ z_oi (z_tk s i j) < s 2 := by
  have := y_oi_b (p := z_cn s i j) (m := (s 2).toNat)
  have c := h.1.1.2.2.1
  unfold z_tk
  omega
theorem y_g2 (h : y_Cg b T n W0 s g p q kd W) (t : z_tok T n q p' q' kd') {k i : Int} (hk : k = 3 ∨ k = 5 ∨ k = 7) (h2 : W 13 2 = zI k) (h4 : W 13 4 = zI i) (hi : 0 ≤ i ∧ i < s 1) :
    (kd ≠ 1 → ∃ v W', f_X3_takeSecondStation W = some (v, W') ∧ y_Ce b T n W0 s g 1 (zI p) W') ∧
    (kd = 1 → y_st T s p q = -1 → ∃ v W', f_X3_takeSecondStation W = some (v, W') ∧ y_Ce b T n W0 s g 4 (zI p) W') ∧
    (kd = 1 → y_st T s p q ≠ -1 → y_bad k s i (y_st T s p q) → ∃ v W', f_X3_takeSecondStation W = some (v, W') ∧ y_Ce b T n W0 s g 5 (zI p) W') ∧
    (kd = 1 → y_st T s p q ≠ -1 → ¬ y_bad k s i (y_st T s p q) → f_X3_takeSecondStation W = some (zI (y_st T s p q), y_Ctk W p' q' kd')) := by
  obtain ⟨g1, g2, g3⟩ := y_gs h
  have sb := y_st_b (T := T) (p := p) (q := q) h.2.2.2.2.2
  have c1 := h.2.2.2.2.2.1.1.2.1
  have tb := y_tk_b (i := i) (j := y_st T s p q) h.2.2.2.2.2
  have c2 := h.2.2.2.2.2.1.1.2.2.1
  rw [y_ssx]
  refine ⟨fun e => ?_, fun e d => ?_, fun e d f => ?_, fun e d f => ?_⟩
  · obtain ⟨v, W1, e1, w1, -⟩ := g1 e
    obtain ⟨v', W2, e2, w2'⟩ := y_Tsr v W1 w1
    rw [e1, z_bd2, e2]
    exact ⟨v', W2, rfl, w2'⟩
  · obtain ⟨v, W1, e1, w1, -⟩ := g2 e d
    obtain ⟨v', W2, e2, w2'⟩ := y_Tsr v W1 w1
    rw [e1, z_bd2, e2]
    exact ⟨v', W2, rfl, w2'⟩
  all_goals
    rw [g3 e d, z_bd2]
    unfold y_ssr
    rw [h4, h.2.2.2.2.1, z_Ctk h.2.2.2.2.2.1 (by unfold zR; omega) (by unfold zR; omega), z_bdc, z_jn, h2, show (7 : Int32) = zI 7 from z_lit 7, show (3 : Int32) = zI 3 from z_lit 3, show (5 : Int32) = zI 5 from z_lit 5]
    unfold y_bad at f
  · obtain ⟨W1, e1, w1⟩ := y_gfa h (c := 5) (by omega) (zI (y_st T s p q))
    rcases f with ⟨f1, f2⟩ | ⟨f1, f2⟩ | ⟨f1, f2⟩
    · subst f1
      rw [f2]
      exact ⟨_, W1, e1, w1⟩
    · subst f1
      by_cases a : i = y_st T s p q
      · rw [← a]
        rw [← a] at e1
        dsimp only
        split
        · rw [z_eqF (show (3 : Int) ≠ 7 by omega) (by omega) (by omega) (by omega) (by omega), if_pos rfl]
          exact ⟨_, W1, e1, w1⟩
        · rw [z_eqF (show (3 : Int) ≠ 7 by omega) (by omega) (by omega) (by omega) (by omega), if_pos rfl]
          exact ⟨_, W1, e1, w1⟩
      · have f3 : z_oi (z_tk s i (y_st T s p q)) ≠ -1 := by
          rcases f2 with f2 | f2
          · exact absurd f2 a
          · exact f2
        dsimp only
        rw [show (-1 : Int32) = zI (-1) from rfl, z_eqF f3 (by omega) (by omega) (by omega) (by omega), z_eqF (show (3 : Int) ≠ 7 by omega) (by omega) (by omega) (by omega) (by omega), z_eqF a (by omega) (by omega) (by omega) (by omega), if_pos rfl, if_neg (by decide)]
        exact ⟨_, W1, e1, w1⟩
    · subst f1
      rw [← f2]
      rw [← f2] at e1
      dsimp only
      split
      · rw [z_eqF (show (5 : Int) ≠ 7 by omega) (by omega) (by omega) (by omega) (by omega), if_pos rfl]
        exact ⟨_, W1, e1, w1⟩
      · rw [z_eqF (show (5 : Int) ≠ 7 by omega) (by omega) (by omega) (by omega) (by omega), if_pos rfl]
        exact ⟨_, W1, e1, w1⟩
  · have ad := (y_ga h t).1
    dsimp only
    rw [ad, z_bdc, show (-1 : Int32) = zI (-1) from rfl]
    rcases hk with hk | hk | hk
    · subst hk
      rw [z_eqT (by omega), z_eqF (show (3 : Int) ≠ 7 by omega) (by omega) (by omega) (by omega) (by omega), z_eqF (by omega) (by omega) (by omega) (by omega) (by omega), if_pos rfl, if_pos rfl]
    · subst hk
      have : ∀ A : Option (Int32 × (Nat → Nat → Int32)), (if zI (z_oi (z_tk s i (y_st T s p q))) = zI (-1) then A else A) = A := fun A => by split <;> rfl
      rw [z_eqF (show (5 : Int) ≠ 7 by omega) (by omega) (by omega) (by omega) (by omega), z_eqF (show i ≠ y_st T s p q by omega) (by omega) (by omega) (by omega) (by omega), z_eqF (show (5 : Int) ≠ 3 by omega) (by omega) (by omega) (by omega) (by omega), z_eqF (show (5 : Int) ≠ 7 by omega) (by omega) (by omega) (by omega) (by omega), z_eqF (show i ≠ y_st T s p q by omega) (by omega) (by omega) (by omega) (by omega), z_eqF (show (5 : Int) ≠ 3 by omega) (by omega) (by omega) (by omega) (by omega)]
      exact this _
    · subst hk
      rw [z_eqF (by omega) (by omega) (by omega) (by omega) (by omega), if_pos rfl, if_neg (by decide)]
theorem y_gw (h : y_Cg b T n W0 s g p q kd W) (t : z_tok T n q p' q' kd') :
    (kd ≠ 1 → ∃ v W', f_X3_takeNewName W = some (v, W') ∧ y_Ce b T n W0 s g 1 (zI p) W') ∧
    (kd = 1 → 4 < q - p → ∃ v W', f_X3_takeNewName W = some (v, W') ∧ y_Ce b T n W0 s g 2 (zI p) W') ∧
    (kd = 1 → q - p ≤ 4 → y_st T s p q ≠ -1 → ∃ v W', f_X3_takeNewName W = some (v, W') ∧ y_Ce b T n W0 s g 3 (zI p) W') ∧
    (kd = 1 → q - p ≤ 4 → y_st T s p q = -1 → f_X3_takeNewName W = some (zI (y_wn T p q), y_Ctk W p' q' kd')) := by
  have hb := y_Cg_b h
  obtain ⟨r, t0⟩ := h.2.1.2.2.2
  obtain ⟨⟨v, pn⟩, pn1⟩ := y_gpn h
  have sb := y_st_b (T := T) (p := p) (q := q) h.2.2.2.2.2
  have c1 := h.2.2.2.2.2.1.1.2.1
  unfold f_X3_takeNewName
  rw [h.2.1.2.2.1, z_l1]
  refine ⟨fun e => ?_, fun e d => ?_, fun e d f => ?_, fun e d f => ?_⟩
  · rw [pn, z_bdc, z_eqF e (by omega) (by omega) (by omega) (by omega)]
    obtain ⟨W1, e1, w1⟩ := y_gfa h (c := 1) (by omega) v
    exact ⟨_, W1, e1, w1⟩
  all_goals
    have wb := y_wn_b (y_tkw (e ▸ t0))
    rw [pn1 e, z_bdc, if_pos (by rw [e])]
  · have : y_wn T p q = 0 := if_neg (by omega)
    rw [this, z_l0, if_pos rfl, z_l2]
    obtain ⟨W1, e1, w1⟩ := y_gfa h (c := 2) (by omega) (zI 0)
    exact ⟨_, W1, e1, w1⟩
  all_goals
    have wp : 0 < y_wn T p q := by
      have := y_wlt (y_tkw (e ▸ t0)) d
      have e' : y_wn T p q = y_pf T p (q - p) := if_pos d
      rw [e', ← this.2]
      exact (y_pk_p this.1).1
    rw [z_l0, z_eqF (by omega) (by omega) (by omega) (by omega) (by omega), h.2.2.2.2.1, y_Cfs h.2.2.2.2.2.1 (y_nmb h.2.2.2.2.2) (by unfold zR; omega), z_bdc, show z_oi (y_fs s (y_wn T p q)) = y_st T s p q from rfl, show (-zI 1 : Int32) = zI (-1) from rfl]
  · rw [z_eqF f (by omega) (by omega) (by omega) (by omega), show (3 : Int32) = zI 3 from z_lit 3]
    obtain ⟨W1, e1, w1⟩ := y_gfa h (c := 3) (by omega) (zI (y_wn T p q))
    exact ⟨_, W1, e1, w1⟩
  · rw [f, if_pos rfl, (y_ga h t).1, z_bdc]
noncomputable def y_if (P : Prop) (a b : Int) : Int := @ite Int P (Classical.propDecidable P) a b
theorem y_ift {P : Prop} {a b : Int} (h : P) : y_if P a b = a := if_pos h
theorem y_iff {P : Prop} {a b : Int} (h : ¬ P) : y_if P a b = b := if_neg h
noncomputable def y_kn (T : Nat → Int) (p q : Nat) : Int := y_if (y_kw T p q 1) 1 (y_if (y_kw T p q 2) 2 (y_if (y_kw T p q 3) 3 (y_if (y_kw T p q 4) 4 (y_if (y_kw T p q 5) 5 (y_if (y_kw T p q 6) 6 (y_if (y_kw T p q 7) 7 (y_if (y_kw T p q 8) 8 (-1))))))))
theorem y_if_b {P : Prop} {a b : Int} (hb : (1 ≤ b ∧ b ≤ 8) ∨ b = -1) (ha : 1 ≤ a ∧ a ≤ 8) : (1 ≤ y_if P a b ∧ y_if P a b ≤ 8) ∨ y_if P a b = -1 := by
  by_cases h : P
  · rw [y_ift h]; exact Or.inl ha
  · rw [y_iff h]; exact hb
theorem y_kn_b : (1 ≤ y_kn T p q ∧ y_kn T p q ≤ 8) ∨ y_kn T p q = -1 :=
  y_if_b (y_if_b (y_if_b (y_if_b (y_if_b (y_if_b (y_if_b (y_if_b (Or.inr rfl) (by omega)) (by omega)) (by omega)) (by omega)) (by omega)) (by omega)) (by omega)) (by omega)
theorem y_Ckn (h : y_Cg b T n W0 s g p q kd W) : f_X3_findKeyword W = some (zI (y_kn T p q)) := by
  have hb := y_Cg_b h
  have it := fun j (h1 : 1 ≤ j) (h8 : j ≤ 8) => y_Cit h.1.2 h.2.1.1 h.2.1.2.1 hb.1 hb.2.1 h1 h8
  unfold f_X3_findKeyword y_kn
  by_cases k1 : y_kw T p q 1
  · rw [y_ift k1, (it 1 (by omega) (by omega)).1 k1, z_bdc, if_neg (by decide), z_l1]
  rw [y_iff k1, (it 1 (by omega) (by omega)).2 k1, z_bdc, if_pos z_l0.symm]
  by_cases k1 : y_kw T p q 2
  · rw [y_ift k1, (it 2 (by omega) (by omega)).1 k1, z_bdc, if_neg (by decide), z_l2]
  rw [y_iff k1, (it 2 (by omega) (by omega)).2 k1, z_bdc, if_pos z_l0.symm]
  by_cases k1 : y_kw T p q 3
  · rw [y_ift k1, (it 3 (by omega) (by omega)).1 k1, z_bdc, if_neg (by decide)]; rfl
  rw [y_iff k1, (it 3 (by omega) (by omega)).2 k1, z_bdc, if_pos z_l0.symm]
  by_cases k1 : y_kw T p q 4
  · rw [y_ift k1, (it 4 (by omega) (by omega)).1 k1, z_bdc, if_neg (by decide)]; rfl
  rw [y_iff k1, (it 4 (by omega) (by omega)).2 k1, z_bdc, if_pos z_l0.symm]
  by_cases k1 : y_kw T p q 5
  · rw [y_ift k1, (it 5 (by omega) (by omega)).1 k1, z_bdc, if_neg (by decide)]; rfl
  rw [y_iff k1, (it 5 (by omega) (by omega)).2 k1, z_bdc, if_pos z_l0.symm]
  by_cases k1 : y_kw T p q 6
  · rw [y_ift k1, (it 6 (by omega) (by omega)).1 k1, z_bdc, if_neg (by decide)]; rfl
  rw [y_iff k1, (it 6 (by omega) (by omega)).2 k1, z_bdc, if_pos z_l0.symm]
  by_cases k1 : y_kw T p q 7
  · rw [y_ift k1, (it 7 (by omega) (by omega)).1 k1, z_bdc, if_neg (by decide)]; rfl
  rw [y_iff k1, (it 7 (by omega) (by omega)).2 k1, z_bdc, if_pos z_l0.symm]
  by_cases k1 : y_kw T p q 8
  · rw [y_ift k1, (it 8 (by omega) (by omega)).1 k1, z_bdc, if_neg (by decide)]; rfl
  rw [y_iff k1, (it 8 (by omega) (by omega)).2 k1, z_bdc, if_pos z_l0.symm]
  rfl
end Pd
