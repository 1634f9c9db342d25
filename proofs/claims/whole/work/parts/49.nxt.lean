/-! the parcel to load next; the reference's wouldLoad -/
section Nxt
variable {b : Int} {s s' g g' : Nat → Int}
/-- o is the best of the first i parcels that train t can load -/
def z_bs (s : Nat → Int) (t i : Nat) (o : Option Nat) : Prop := match o with
  | none => ∀ j, j < i → z_cl s t j = false
  | some w => w < i ∧ z_cl s t w = true ∧ ∀ j, j < i → z_cl s t j = true → j = w ∨ z_bf s w j = true
def z_cr (s : Nat → Int) (t : Nat) : Int := z_ct (z_ca s t) 0 (z_np s)
theorem z_oi_nn {x : Int} (h : 0 ≤ x) {R : Type} {A B : R} {_ : Decidable (zI x = zI (-1))} (hx : x < 100) : (if zI x = zI (-1) then A else B) = B := z_eqF (by omega) (by omega) (by omega) (by omega) (by omega)
theorem z_dpb (h : z_inv b s) {t : Nat} (ht : (t : Int) < s 3) {y : Int} : -1 ≤ z_dp s t y ∧ z_dp s t y < s 1 := by
  have key : ∀ m p bs ls, (-1 ≤ bs ∧ bs < s 1) → -1 ≤ z_dr s t y m p bs ls ∧ z_dr s t y m p bs ls < s 1 := by
    intro m
    induction m with
    | zero => intro p bs ls hb; exact hb
    | succ m ih =>
      intro p bs ls hb
      unfold z_dr
      split
      · rename_i c
        have := z_spb h ht (of_decide_eq_true c)
        split
        · exact ih _ _ _ (by omega)
        · exact ih _ _ _ hb
      · exact hb
  have h1 := h.1.2.1
  exact key 5 _ _ _ (by omega)
theorem z_Cnl (h : z_inv b s) (hb : b ≤ 1000000000) {t : Nat} (ht : (t : Int) < s 3) : ∃ o, f_X4_findNextToLoad (zV s) t = some o ∧ (if z_cr s t < s (87 + 14 * t) then z_bs s t (z_np s) o else o = none) := by
  obtain ⟨⟨h0, h1, h2, h3, h4⟩, -, -, -, hn, hp, -⟩ := id h
  obtain ⟨a0, -⟩ := hn t ht
  have cu := z_cub h ht
  have cb := z_ct_b (p := z_ca s t) (z_np s) 0
  have cb2 : z_np s ≤ 12 := by unfold z_np; omega
  unfold f_X4_findNextToLoad
  simp (disch := omega) only [z_lit, z_n, z_add, z_sub, z_mul, z_neg, z_ltT, z_ltF, z_leT, z_leF, z_eqT, z_eqF, z_v, z_upd, z_ue, z_un, z_ixn, z_ixo, z_ix0, z_ix1, z_ix2, z_ix3, z_ix4, z_ix5, z_ix6, Int.reduceToNat, z_inr, z_gd, z_bnd, z_jn, z_bdc, z_bd2, z_opn, z_ops, z_z01, if_true, if_false, Bool.false_eq_true, z_Cca h (show zR (t : Int) by unfold zR; omega)]
  unfold z_cr z_np at *
  by_cases c : z_ct (z_ca s t) 0 (s 4).toNat < s (87 + 14 * t)
  · simp (disch := omega) only [z_lit, z_n, z_add, z_sub, z_mul, z_neg, z_ltT, z_ltF, z_leT, z_leF, z_eqT, z_eqF, z_v, z_upd, z_ue, z_un, z_ixn, z_ixo, z_ix0, z_ix1, z_ix2, z_ix3, z_ix4, z_ix5, z_ix6, Int.reduceToNat, z_inr, z_gd, z_bnd, z_jn, z_bdc, z_bd2, z_opn, z_ops, z_z01, if_true, if_false, Bool.false_eq_true, z_Ccu h ht, c]
    refine z_run (l := l_X4_findNextToLoad_28 (zV s) t (zI (z_cu s t))) (n := (s 4).toNat) (P := fun i o => z_bs s t i o) (Q := fun r => ∃ o, r = some o ∧ z_bs s t (s 4).toNat o) (fun N i o hi hq => ?_) (fun N o hq => ?_) (s 4).toNat 0 FU none (by omega) (by unfold FU; omega) (fun j hj => absurd hj (by omega))
    · have hi2 : (i : Int) < s 4 := by omega
      obtain ⟨-, p1, -⟩ := hp i hi2
      have hR := z_Crd h hb hi2 (x := z_cu s t) (by omega) (by omega)
      have hD := z_Cdp h ht (y := s (143 + 9 * i + 1)) (by omega)
      have hdb := z_dpb h ht (y := s (143 + 9 * i + 1))
      cases o with
      | none =>
        by_cases cl : z_cl s t i = true
        · refine ⟨some i, ⟨by omega, cl, fun j hj hc => ?_⟩, ?_⟩
          · by_cases e : j = i
            · exact Or.inl e
            · have := hq j (by omega)
              rw [this] at hc
              cases hc
          · unfold z_cl at cl
            rw [Bool.and_eq_true] at cl
            have c2 := of_decide_eq_true cl.2
            rw [l_X4_findNextToLoad_28]
            simp (disch := omega) only [z_lit, z_n, z_add, z_sub, z_mul, z_neg, z_ltT, z_ltF, z_leT, z_leF, z_eqT, z_eqF, z_v, z_upd, z_ue, z_un, z_ixn, z_ixo, z_ix0, z_ix1, z_ix2, z_ix3, z_ix4, z_ix5, z_ix6, Int.reduceToNat, z_inr, z_gd, z_bnd, z_jn, z_bdc, z_bd2, z_opn, z_ops, z_z01, if_true, if_false, Bool.false_eq_true, hR, cl.1, z_Bt, z_i1, hD]
        · have cl0 : z_cl s t i = false := Bool.eq_false_iff.mpr cl
          refine ⟨none, fun j hj => ?_, ?_⟩
          · by_cases e : j = i
            · rw [e]; exact cl0
            · exact hq j (by omega)
          · unfold z_cl at cl0
            rw [l_X4_findNextToLoad_28]
            simp (disch := omega) only [z_lit, z_n, z_add, z_sub, z_mul, z_neg, z_ltT, z_ltF, z_leT, z_leF, z_eqT, z_eqF, z_v, z_upd, z_ue, z_un, z_ixn, z_ixo, z_ix0, z_ix1, z_ix2, z_ix3, z_ix4, z_ix5, z_ix6, Int.reduceToNat, z_inr, z_gd, z_bnd, z_jn, z_bdc, z_bd2, z_opn, z_ops, z_z01, if_true, if_false, Bool.false_eq_true, hR, hD]
            cases cw : (z_wt s (z_cu s t) i && !z_he s i) with
            | false => simp (disch := omega) only [z_lit, z_n, z_add, z_sub, z_mul, z_neg, z_ltT, z_ltF, z_leT, z_leF, z_eqT, z_eqF, z_v, z_upd, z_ue, z_un, z_ixn, z_ixo, z_ix0, z_ix1, z_ix2, z_ix3, z_ix4, z_ix5, z_ix6, Int.reduceToNat, z_inr, z_gd, z_bnd, z_jn, z_bdc, z_bd2, z_opn, z_ops, z_z01, if_true, if_false, Bool.false_eq_true, z_Bf, z_i0]
            | true =>
              rw [cw, Bool.true_and] at cl0
              have := of_decide_eq_false cl0
              simp (disch := omega) only [z_lit, z_n, z_add, z_sub, z_mul, z_neg, z_ltT, z_ltF, z_leT, z_leF, z_eqT, z_eqF, z_v, z_upd, z_ue, z_un, z_ixn, z_ixo, z_ix0, z_ix1, z_ix2, z_ix3, z_ix4, z_ix5, z_ix6, Int.reduceToNat, z_inr, z_gd, z_bnd, z_jn, z_bdc, z_bd2, z_opn, z_ops, z_z01, if_true, if_false, Bool.false_eq_true, z_Bt, z_i1]
      | some w =>
        obtain ⟨q1, q2, q3⟩ := hq
        have hB := z_Cbf h hi2 (show (w : Int) < s 4 by omega)
        by_cases cl : z_cl s t i = true
        · by_cases cb : z_bf s i w = true
          · refine ⟨some i, ⟨by omega, cl, fun j hj hc => ?_⟩, ?_⟩
            · by_cases e : j = i
              · exact Or.inl e
              · rcases q3 j (by omega) hc with e2 | e2
                · subst e2
                  exact Or.inr cb
                · exact Or.inr (z_bf_tr h hi2 (show (w : Int) < s 4 by omega) (show (j : Int) < s 4 by omega) cb e2)
            · unfold z_cl at cl
              rw [Bool.and_eq_true] at cl
              have c2 := of_decide_eq_true cl.2
              rw [l_X4_findNextToLoad_28]
              simp (disch := omega) only [z_lit, z_n, z_add, z_sub, z_mul, z_neg, z_ltT, z_ltF, z_leT, z_leF, z_eqT, z_eqF, z_v, z_upd, z_ue, z_un, z_ixn, z_ixo, z_ix0, z_ix1, z_ix2, z_ix3, z_ix4, z_ix5, z_ix6, Int.reduceToNat, z_inr, z_gd, z_bnd, z_jn, z_bdc, z_bd2, z_opn, z_ops, z_z01, if_true, if_false, Bool.false_eq_true, z_blt, hR, cl.1, z_Bt, z_i1, hD, hB, cb]
          · have cb0 : z_bf s i w = false := Bool.eq_false_iff.mpr cb
            refine ⟨some w, ⟨by omega, q2, fun j hj hc => ?_⟩, ?_⟩
            · by_cases e : j = i
              · rw [e]
                rcases z_bf_tot h hi2 (show (w : Int) < s 4 by omega) (by omega) with e2 | e2
                · exact absurd e2 cb
                · exact Or.inr e2
              · exact q3 j (by omega) hc
            · unfold z_cl at cl
              rw [Bool.and_eq_true] at cl
              rw [l_X4_findNextToLoad_28]
              simp (disch := omega) only [z_lit, z_n, z_add, z_sub, z_mul, z_neg, z_ltT, z_ltF, z_leT, z_leF, z_eqT, z_eqF, z_v, z_upd, z_ue, z_un, z_ixn, z_ixo, z_ix0, z_ix1, z_ix2, z_ix3, z_ix4, z_ix5, z_ix6, Int.reduceToNat, z_inr, z_gd, z_bnd, z_jn, z_bdc, z_bd2, z_opn, z_ops, z_z01, if_true, if_false, Bool.false_eq_true, z_blt, hR, cl.1, z_Bt, z_i1, hD, hB, cb0, z_Bf, z_i0]
        · have cl0 : z_cl s t i = false := Bool.eq_false_iff.mpr cl
          refine ⟨some w, ⟨by omega, q2, fun j hj hc => ?_⟩, ?_⟩
          · by_cases e : j = i
            · rw [e, cl0] at hc
              cases hc
            · exact q3 j (by omega) hc
          · unfold z_cl at cl0
            rw [l_X4_findNextToLoad_28]
            simp (disch := omega) only [z_lit, z_n, z_add, z_sub, z_mul, z_neg, z_ltT, z_ltF, z_leT, z_leF, z_eqT, z_eqF, z_v, z_upd, z_ue, z_un, z_ixn, z_ixo, z_ix0, z_ix1, z_ix2, z_ix3, z_ix4, z_ix5, z_ix6, Int.reduceToNat, z_inr, z_gd, z_bnd, z_jn, z_bdc, z_bd2, z_opn, z_ops, z_z01, if_true, if_false, Bool.false_eq_true, z_blt, hR, hD, hB]
            cases cw : (z_wt s (z_cu s t) i && !z_he s i) with
            | false => simp (disch := omega) only [z_lit, z_n, z_add, z_sub, z_mul, z_neg, z_ltT, z_ltF, z_leT, z_leF, z_eqT, z_eqF, z_v, z_upd, z_ue, z_un, z_ixn, z_ixo, z_ix0, z_ix1, z_ix2, z_ix3, z_ix4, z_ix5, z_ix6, Int.reduceToNat, z_inr, z_gd, z_bnd, z_jn, z_bdc, z_bd2, z_opn, z_ops, z_z01, if_true, if_false, Bool.false_eq_true, z_Bf, z_i0]
            | true =>
              rw [cw, Bool.true_and] at cl0
              have := of_decide_eq_false cl0
              cases z_bf s i w <;> simp (disch := omega) only [z_lit, z_n, z_add, z_sub, z_mul, z_neg, z_ltT, z_ltF, z_leT, z_leF, z_eqT, z_eqF, z_v, z_upd, z_ue, z_un, z_ixn, z_ixo, z_ix0, z_ix1, z_ix2, z_ix3, z_ix4, z_ix5, z_ix6, Int.reduceToNat, z_inr, z_gd, z_bnd, z_jn, z_bdc, z_bd2, z_opn, z_ops, z_z01, if_true, if_false, Bool.false_eq_true, z_Bt, z_Bf, z_i1, z_i0]
    · cases o with
      | none =>
        refine ⟨none, ?_, hq⟩
        rw [l_X4_findNextToLoad_28]
        simp (disch := omega) only [z_lit, z_n, z_add, z_sub, z_mul, z_neg, z_ltT, z_ltF, z_leT, z_leF, z_eqT, z_eqF, z_v, z_upd, z_ue, z_un, z_ixn, z_ixo, z_ix0, z_ix1, z_ix2, z_ix3, z_ix4, z_ix5, z_ix6, Int.reduceToNat, z_inr, z_gd, z_bnd, z_jn, z_bdc, z_bd2, z_opn, z_ops, z_z01, if_true, if_false, Bool.false_eq_true]
      | some w =>
        refine ⟨some w, ?_, hq⟩
        have := hq.1
        rw [l_X4_findNextToLoad_28]
        simp (disch := omega) only [z_lit, z_n, z_add, z_sub, z_mul, z_neg, z_ltT, z_ltF, z_leT, z_leF, z_eqT, z_eqF, z_v, z_upd, z_ue, z_un, z_ixn, z_ixo, z_ix0, z_ix1, z_ix2, z_ix3, z_ix4, z_ix5, z_ix6, Int.reduceToNat, z_inr, z_gd, z_bnd, z_jn, z_bdc, z_bd2, z_opn, z_ops, z_z01, if_true, if_false, Bool.false_eq_true, z_blt]
  · simp (disch := omega) only [z_lit, z_n, z_add, z_sub, z_mul, z_neg, z_ltT, z_ltF, z_leT, z_leF, z_eqT, z_eqF, z_v, z_upd, z_ue, z_un, z_ixn, z_ixo, z_ix0, z_ix1, z_ix2, z_ix3, z_ix4, z_ix5, z_ix6, Int.reduceToNat, z_inr, z_gd, z_bnd, z_jn, z_bdc, z_bd2, z_opn, z_ops, z_z01, if_true, if_false, Bool.false_eq_true, c]
    exact ⟨none, rfl, rfl⟩
/-- the reference's canLoad -/
theorem z_Gcl (h : z_inv b s) (hb : b ≤ 1000000000) (r : z_rel s g) {t i : Nat} (ht : (t : Int) < s 3) (hi : (i : Int) < s 4) : ∃ g', f_X10_canLoad (zV g) (zI t) (zI i) = some (zI (z_B (!z_he s i && decide (z_dp s t (s (143 + 9 * i + 1)) ≠ -1))), zV g') ∧ (∀ k, k < 251 → g' k = g k) := by
  obtain ⟨g', e1, e2⟩ := z_Gdp h r ht hi
  have h1 := h.1.2.1
  have db := z_dpb h ht (y := s (143 + 9 * i + 1))
  unfold f_X10_canLoad
  simp (disch := omega) only [z_lit, z_n, z_add, z_sub, z_mul, z_neg, z_ltT, z_ltF, z_leT, z_leF, z_eqT, z_eqF, z_v, z_upd, z_ue, z_un, z_ixn, z_ixo, z_ix0, z_ix1, z_ix2, z_ix3, z_ix4, z_ix5, z_ix6, Int.reduceToNat, z_inr, z_gd, z_bnd, z_jn, z_bdc, z_bd2, z_opn, z_ops, z_z01, if_true, if_false, Bool.false_eq_true, z_Ghe h hb r hi, e1]
  cases z_he s i with
  | true => exact ⟨g, by simp (disch := omega) only [z_lit, z_n, z_add, z_sub, z_mul, z_neg, z_ltT, z_ltF, z_leT, z_leF, z_eqT, z_eqF, z_v, z_upd, z_ue, z_un, z_ixn, z_ixo, z_ix0, z_ix1, z_ix2, z_ix3, z_ix4, z_ix5, z_ix6, Int.reduceToNat, z_inr, z_gd, z_bnd, z_jn, z_bdc, z_bd2, z_opn, z_ops, z_z01, if_true, if_false, Bool.false_eq_true, z_Bt, z_i1]; rfl, fun k _ => rfl⟩
  | false =>
    refine ⟨g', ?_, e2⟩
    by_cases c : z_dp s t (s (143 + 9 * i + 1)) = -1
    · rw [decide_eq_false (fun q => q c)]
      simp (disch := omega) only [z_lit, z_n, z_add, z_sub, z_mul, z_neg, z_ltT, z_ltF, z_leT, z_leF, z_eqT, z_eqF, z_v, z_upd, z_ue, z_un, z_ixn, z_ixo, z_ix0, z_ix1, z_ix2, z_ix3, z_ix4, z_ix5, z_ix6, Int.reduceToNat, z_inr, z_gd, z_bnd, z_jn, z_bdc, z_bd2, z_opn, z_ops, z_z01, if_true, if_false, Bool.false_eq_true, z_Bf, z_i0]
      rfl
    · rw [decide_eq_true c]
      simp (disch := omega) only [z_lit, z_n, z_add, z_sub, z_mul, z_neg, z_ltT, z_ltF, z_leT, z_leF, z_eqT, z_eqF, z_v, z_upd, z_ue, z_un, z_ixn, z_ixo, z_ix0, z_ix1, z_ix2, z_ix3, z_ix4, z_ix5, z_ix6, Int.reduceToNat, z_inr, z_gd, z_bnd, z_jn, z_bdc, z_bd2, z_opn, z_ops, z_z01, if_true, if_false, Bool.false_eq_true, z_Bf, z_i0]
      rfl
theorem z_Gwl (h : z_inv b s) (hb : b ≤ 1000000000) (r : z_rel s g) {t : Nat} (ht : (t : Int) < s 3) : ∃ m g', f_X10_wouldLoad (zV g) (zI t) = some (zI m, zV g') ∧ (∀ k, k < 251 → g' k = g k) ∧ (m = 0 ∨ m = 1) ∧ (m = 1 ↔ z_cr s t < s (87 + 14 * t) ∧ ∃ k : Nat, (k : Int) < s 4 ∧ z_cl s t k = true) := by
  obtain ⟨⟨h0, h1, h2, h3, h4⟩, -, -, -, hn, hp, -⟩ := id h
  obtain ⟨a0, -⟩ := hn t ht
  have cu := z_cub h ht
  have cb := z_ct_b (p := z_ca s t) (z_np s) 0
  have cb2 : z_np s ≤ 12 := by unfold z_np; omega
  have q0 := (r.2.2.2.1 t ht).1
  unfold f_X10_wouldLoad
  simp (disch := omega) only [z_lit, z_n, z_add, z_sub, z_mul, z_neg, z_ltT, z_ltF, z_leT, z_leF, z_eqT, z_eqF, z_v, z_upd, z_ue, z_un, z_ixn, z_ixo, z_ix0, z_ix1, z_ix2, z_ix3, z_ix4, z_ix5, z_ix6, Int.reduceToNat, z_inr, z_gd, z_bnd, z_jn, z_bdc, z_bd2, z_opn, z_ops, z_z01, if_true, if_false, Bool.false_eq_true, z_Gcu h r ht]
  by_cases c : z_cr s t < s (87 + 14 * t)
  · have e := z_run (l := fun N (a : (Nat → Int32) × Int32) x => l_X10_wouldLoad_12 (zI t) (zI (z_cu s t)) N a.1 a.2 x) (n := (s 4).toNat) (P := fun i a => ∃ m v, a = (zV v, zI m) ∧ (∀ k, k < 251 → v k = g k) ∧ (m = 0 ∨ m = 1) ∧ (m = 1 ↔ ∃ k : Nat, k < i ∧ z_cl s t k = true)) (Q := fun o => ∃ m g', o = some (zI m, zV g') ∧ (∀ k, k < 251 → g' k = g k) ∧ (m = 0 ∨ m = 1) ∧ (m = 1 ↔ ∃ k : Nat, k < (s 4).toNat ∧ z_cl s t k = true)) (fun N i a hi hq => ?_) (fun N a hq => ?_) (s 4).toNat 0 FU (zV g, zI 0) (by omega) (by unfold FU; omega) ⟨0, g, rfl, fun k _ => rfl, Or.inl rfl, by constructor; (intro q; omega); (rintro ⟨k, hk, -⟩; omega)⟩
    · obtain ⟨m, g', e1, e2, e3, e4⟩ := e
      refine ⟨m, g', e1, e2, e3, ?_⟩
      rw [e4]
      constructor
      · rintro ⟨k, hk, hc⟩
        exact ⟨c, k, by omega, hc⟩
      · rintro ⟨-, k, hk, hc⟩
        exact ⟨k, by omega, hc⟩
    · obtain ⟨m, v, rfl, p1, p2, p3⟩ := hq
      have hi2 : (i : Int) < s 4 := by omega
      have r' := z_rel_c h r p1
      have v4 : v 4 = s 4 := r'.1 4 (by omega)
      have v0 := (r'.2.2.2.1 t ht).1
      have ca := z_Gca h r' (x := (t : Int)) (by unfold zR; omega)
      have ca2 : z_ct (z_ca s t) 0 (s 4).toNat < s (87 + 14 * t) := c
      unfold z_np at cb
      show ∃ a' : (Nat → Int32) × Int32, _ ∧ l_X10_wouldLoad_12 (zI t) (zI (z_cu s t)) (N + 1) (zV v) (zI m) (zI i) = l_X10_wouldLoad_12 (zI t) (zI (z_cu s t)) N a'.1 a'.2 (zI ((i : Int) + 1))
      rw [l_X10_wouldLoad_12]
      simp (disch := omega) only [z_lit, z_n, z_add, z_sub, z_mul, z_neg, z_ltT, z_ltF, z_leT, z_leF, z_eqT, z_eqF, z_v, z_upd, z_ue, z_un, z_ixn, z_ixo, z_ix0, z_ix1, z_ix2, z_ix3, z_ix4, z_ix5, z_ix6, Int.reduceToNat, z_inr, z_gd, z_bnd, z_jn, z_bdc, z_bd2, z_opn, z_ops, z_z01, if_true, if_false, Bool.false_eq_true, v4, ca, z_ofT, Nat.add_zero, v0, z_Gwt h r' hi2 (show zR (z_cu s t) by unfold zR; omega)]
      by_cases m1 : m = 1
      · subst m1
        refine ⟨(zV v, zI 1), ⟨1, v, rfl, p1, Or.inr rfl, ?_⟩, ?_⟩
        · obtain ⟨k, k1, k2⟩ := p3.mp rfl
          exact ⟨fun _ => ⟨k, by omega, k2⟩, fun _ => rfl⟩
        · simp (disch := omega) only [z_i1]
      · obtain rfl : m = 0 := by omega
        have no : ∀ k, k < i → z_cl s t k ≠ true := fun k hk q => by
          have := p3.mpr ⟨k, hk, q⟩
          omega
        simp (disch := omega) only [z_i0]
        cases w : z_wt s (z_cu s t) i with
        | false =>
          refine ⟨(zV v, zI 0), ⟨0, v, rfl, p1, Or.inl rfl, ?_⟩, ?_⟩
          · constructor
            · intro q; omega
            · rintro ⟨k, k1, k2⟩
              by_cases e : k = i
              · subst e
                unfold z_cl at k2
                rw [w] at k2
                cases k2
              · exact absurd k2 (no k (by omega))
          · simp (disch := omega) only [z_Bf, z_i0, if_true]
        | true =>
          obtain ⟨u, u1, u2⟩ := z_Gcl h hb r' ht hi2
          simp (disch := omega) only [z_Bt, z_i1, u1, z_bd2]
          refine ⟨(zV u, zI (z_B (!z_he s i && decide (z_dp s t (s (143 + 9 * i + 1)) ≠ -1)))), ⟨_, u, rfl, fun k hk => by rw [u2 k hk, p1 k hk], ?_, ?_⟩, ?_⟩
          · cases (!z_he s i && decide (z_dp s t (s (143 + 9 * i + 1)) ≠ -1)) <;> simp [z_B]
          · have cl : z_cl s t i = (!z_he s i && decide (z_dp s t (s (143 + 9 * i + 1)) ≠ -1)) := by
              unfold z_cl
              rw [w, Bool.true_and]
            rw [← cl]
            constructor
            · intro q
              refine ⟨i, by omega, ?_⟩
              cases e : z_cl s t i with
              | true => rfl
              | false =>
                rw [e, z_Bf] at q
                omega
            · rintro ⟨k, k1, k2⟩
              by_cases e : k = i
              · subst e
                rw [k2, z_Bt]
              · exact absurd k2 (no k (by omega))
          · cases (!z_he s i && decide (z_dp s t (s (143 + 9 * i + 1)) ≠ -1)) <;> simp (disch := omega) only [z_Bf, z_Bt, z_i0, z_i1, if_true]
    · obtain ⟨m, v, rfl, p1, p2, p3⟩ := hq
      have v4 : v 4 = s 4 := by rw [p1 4 (by omega)]; exact r.1 4 (by omega)
      refine ⟨m, v, ?_, p1, p2, p3⟩
      show l_X10_wouldLoad_12 (zI t) (zI (z_cu s t)) (N + 1) (zV v) (zI m) (zI ((s 4).toNat : Int)) = _
      rw [l_X10_wouldLoad_12]
      simp (disch := omega) only [z_lit, z_n, z_add, z_sub, z_mul, z_neg, z_ltT, z_ltF, z_leT, z_leF, z_eqT, z_eqF, z_v, z_upd, z_ue, z_un, z_ixn, z_ixo, z_ix0, z_ix1, z_ix2, z_ix3, z_ix4, z_ix5, z_ix6, Int.reduceToNat, z_inr, z_gd, z_bnd, z_jn, z_bdc, z_bd2, z_opn, z_ops, z_z01, if_true, if_false, Bool.false_eq_true, v4]
  · refine ⟨0, g, ?_, fun k _ => rfl, Or.inl rfl, ?_⟩
    · have v4 : g 4 = s 4 := r.1 4 (by omega)
      have ca := z_Gca h r (x := (t : Int)) (by unfold zR; omega)
      have ca2 : ¬ z_ct (z_ca s t) 0 (s 4).toNat < s (87 + 14 * t) := c
      unfold z_np at cb
      rw [show FU = 4095 + 1 from rfl, l_X10_wouldLoad_12]
      by_cases n0 : s 4 = 0
      · simp (disch := omega) only [z_lit, z_n, z_add, z_sub, z_mul, z_neg, z_ltT, z_ltF, z_leT, z_leF, z_eqT, z_eqF, z_v, z_upd, z_ue, z_un, z_ixn, z_ixo, z_ix0, z_ix1, z_ix2, z_ix3, z_ix4, z_ix5, z_ix6, Int.reduceToNat, z_inr, z_gd, z_bnd, z_jn, z_bdc, z_bd2, z_opn, z_ops, z_z01, if_true, if_false, Bool.false_eq_true, v4]
      · simp (disch := omega) only [z_lit, z_n, z_add, z_sub, z_mul, z_neg, z_ltT, z_ltF, z_leT, z_leF, z_eqT, z_eqF, z_v, z_upd, z_ue, z_un, z_ixn, z_ixo, z_ix0, z_ix1, z_ix2, z_ix3, z_ix4, z_ix5, z_ix6, Int.reduceToNat, z_inr, z_gd, z_bnd, z_jn, z_bdc, z_bd2, z_opn, z_ops, z_z01, if_true, if_false, Bool.false_eq_true, v4, ca, z_ofT, Nat.add_zero, q0]
    · constructor
      · intro q; omega
      · rintro ⟨q, -⟩
        exact absurd q c
end Nxt
