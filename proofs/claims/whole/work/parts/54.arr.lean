/-! arriving -/
section Arr
variable {b : Int} {s s' g g' : Nat → Int}
def z_rp (s : Nat → Int) (t : Nat) : Int := s (87 + 14 * t + 8) + (2 * s (87 + 14 * t + 9) - 1)
def z_re (s : Nat → Int) (t : Nat) : Bool := decide (z_rp s t = 0 ∨ z_rp s t = s (87 + 14 * t + 1) - 1)
def z_rd1 (s : Nat → Int) (t : Nat) : Int := if z_re s t then 1 - s (87 + 14 * t + 9) else s (87 + 14 * t + 9)
def z_r1 (s : Nat → Int) (t : Nat) : Nat → Int := zu (zu s (87 + 14 * t + 8) (z_rp s t)) (87 + 14 * t + 9) (z_rd1 s t)
def z_q1 (s g : Nat → Int) (t : Nat) : Nat → Int := zu (zu (zu g (87 + 14 * t + 8) (z_rp s t)) (87 + 14 * t + 10) (-1)) (87 + 14 * t + 9) (2 * z_rd1 s t - 1)
theorem z_r1_8 {t : Nat} : z_r1 s t (87 + 14 * t + 8) = z_rp s t := by
  unfold z_r1
  rw [z_un (by omega), z_ue rfl]
theorem z_r1_9 {t : Nat} : z_r1 s t (87 + 14 * t + 9) = z_rd1 s t := by
  unfold z_r1
  rw [z_ue rfl]
theorem z_r1_o {t k : Nat} (h8 : k ≠ 87 + 14 * t + 8) (h9 : k ≠ 87 + 14 * t + 9) : z_r1 s t k = s k := by
  unfold z_r1
  rw [z_un h9, z_un h8]
theorem z_q1_o {t k : Nat} (h8 : k ≠ 87 + 14 * t + 8) (h9 : k ≠ 87 + 14 * t + 9) (h10 : k ≠ 87 + 14 * t + 10) : z_q1 s g t k = g k := by
  unfold z_q1
  rw [z_un h9, z_un h10, z_un h8]
theorem z_r1_ft {t : Nat} : z_ft t s (z_r1 s t) := fun k h1 h2 => z_r1_o (by omega) (by omega)
theorem z_Cre (h : z_inv b s) {t : Nat} (ht : (t : Int) < s 3) : f_X8_reachNextStop (zV s) t = some (zV (z_r1 s t)) ∧ f_X8_isAtEnd (zV (z_r1 s t)) t = some (zI (z_B (z_re s t))) := by
  obtain ⟨⟨h0, h1, h2, h3, h4⟩, ⟨-, -, hbo⟩, -, -, hn, -, -⟩ := id h
  obtain ⟨a0, a1, a2, a3, a4, a5, a6⟩ := hn t ht
  have bo := hbo t (by omega)
  have ea : ∀ v : Nat → Int, v (87 + 14 * t + 8) = z_rp s t → v (87 + 14 * t + 1) = s (87 + 14 * t + 1) → f_X8_isAtEnd (zV v) t = some (zI (z_B (z_re s t))) := by
    intro v v8 v1
    unfold f_X8_isAtEnd z_re
    unfold z_rp at *
    by_cases c : s (87 + 14 * t + 8) + (2 * s (87 + 14 * t + 9) - 1) = 0
    · rw [decide_eq_true (Or.inl c)]
      simp (disch := omega) only [z_lit, z_n, z_add, z_sub, z_mul, z_neg, z_ltT, z_ltF, z_leT, z_leF, z_eqT, z_eqF, z_v, z_upd, z_ue, z_un, z_ixn, z_ixo, z_ix0, z_ix1, z_ix2, z_ix3, z_ix4, z_ix5, z_ix6, Int.reduceToNat, z_inr, z_gd, z_bnd, z_jn, z_bdc, z_bd2, z_opn, z_ops, z_z01, if_true, if_false, Bool.false_eq_true, v8, v1]
      rfl
    · by_cases c2 : s (87 + 14 * t + 8) + (2 * s (87 + 14 * t + 9) - 1) = s (87 + 14 * t + 1) - 1
      · rw [decide_eq_true (Or.inr c2)]
        simp (disch := omega) only [z_lit, z_n, z_add, z_sub, z_mul, z_neg, z_ltT, z_ltF, z_leT, z_leF, z_eqT, z_eqF, z_v, z_upd, z_ue, z_un, z_ixn, z_ixo, z_ix0, z_ix1, z_ix2, z_ix3, z_ix4, z_ix5, z_ix6, Int.reduceToNat, z_inr, z_gd, z_bnd, z_jn, z_bdc, z_bd2, z_opn, z_ops, z_z01, if_true, if_false, Bool.false_eq_true, v8, v1]
        rfl
      · rw [decide_eq_false (by omega)]
        simp (disch := omega) only [z_lit, z_n, z_add, z_sub, z_mul, z_neg, z_ltT, z_ltF, z_leT, z_leF, z_eqT, z_eqF, z_v, z_upd, z_ue, z_un, z_ixn, z_ixo, z_ix0, z_ix1, z_ix2, z_ix3, z_ix4, z_ix5, z_ix6, Int.reduceToNat, z_inr, z_gd, z_bnd, z_jn, z_bdc, z_bd2, z_opn, z_ops, z_z01, if_true, if_false, Bool.false_eq_true, v8, v1]
        rfl
  refine ⟨?_, ea _ z_r1_8 (z_r1_o (by omega) (by omega))⟩
  have e2 := ea (zu s (87 + 14 * t + 8) (z_rp s t)) (z_ue rfl) (z_un (by omega))
  have e3 : z_re s t = false → z_r1 s t = zu s (87 + 14 * t + 8) (z_rp s t) := fun q => by
    funext k
    unfold z_r1 z_rd1
    rw [q]
    by_cases c : k = 87 + 14 * t + 9
    · rw [c, z_ue rfl, z_un (by omega)]
      rfl
    · rw [z_un c]
  have e4 : z_re s t = true → (z_rp s t = 0 ∨ z_rp s t = s (87 + 14 * t + 1) - 1) := fun q => of_decide_eq_true q
  unfold f_X8_reachNextStop
  have e5 : z_re s t = true → z_rd1 s t = 1 - s (87 + 14 * t + 9) := fun q => by
    unfold z_rd1
    rw [q]
    rfl
  rcases bo with d | d
  · have ep : z_rp s t = s (87 + 14 * t + 8) - 1 := by unfold z_rp; omega
    simp (disch := omega) only [z_lit, z_n, z_add, z_sub, z_mul, z_neg, z_ltT, z_ltF, z_leT, z_leF, z_eqT, z_eqF, z_v, z_upd, z_ue, z_un, z_ixn, z_ixo, z_ix0, z_ix1, z_ix2, z_ix3, z_ix4, z_ix5, z_ix6, Int.reduceToNat, z_inr, z_gd, z_bnd, z_jn, z_bdc, z_bd2, z_opn, z_ops, z_z01, if_true, if_false, Bool.false_eq_true, d]
    rw [← ep, e2]
    cases q : z_re s t with
    | false =>
      simp (disch := omega) only [z_lit, z_n, z_add, z_sub, z_mul, z_neg, z_ltT, z_ltF, z_leT, z_leF, z_eqT, z_eqF, z_v, z_upd, z_ue, z_un, z_ixn, z_ixo, z_ix0, z_ix1, z_ix2, z_ix3, z_ix4, z_ix5, z_ix6, Int.reduceToNat, z_inr, z_gd, z_bnd, z_jn, z_bdc, z_bd2, z_opn, z_ops, z_z01, if_true, if_false, Bool.false_eq_true, z_Bf, z_i0]
      rw [e3 q]
    | true =>
      have q4 := e4 q
      have q5 := e5 q
      by_cases c : z_rp s t = 0
      · simp (disch := omega) only [z_lit, z_n, z_add, z_sub, z_mul, z_neg, z_ltT, z_ltF, z_leT, z_leF, z_eqT, z_eqF, z_v, z_upd, z_ue, z_un, z_ixn, z_ixo, z_ix0, z_ix1, z_ix2, z_ix3, z_ix4, z_ix5, z_ix6, Int.reduceToNat, z_inr, z_gd, z_bnd, z_jn, z_bdc, z_bd2, z_opn, z_ops, z_z01, if_true, if_false, Bool.false_eq_true, z_Bt, z_i1]
        unfold z_r1
        rw [q5, show 1 - s (87 + 14 * t + 9) = 1 by omega]
      · exfalso
        unfold z_rp at c q4 ep
        omega
  · have ep : z_rp s t = s (87 + 14 * t + 8) + 1 := by unfold z_rp; omega
    simp (disch := omega) only [z_lit, z_n, z_add, z_sub, z_mul, z_neg, z_ltT, z_ltF, z_leT, z_leF, z_eqT, z_eqF, z_v, z_upd, z_ue, z_un, z_ixn, z_ixo, z_ix0, z_ix1, z_ix2, z_ix3, z_ix4, z_ix5, z_ix6, Int.reduceToNat, z_inr, z_gd, z_bnd, z_jn, z_bdc, z_bd2, z_opn, z_ops, z_z01, if_true, if_false, Bool.false_eq_true, d]
    rw [← ep, e2]
    cases q : z_re s t with
    | false =>
      simp (disch := omega) only [z_lit, z_n, z_add, z_sub, z_mul, z_neg, z_ltT, z_ltF, z_leT, z_leF, z_eqT, z_eqF, z_v, z_upd, z_ue, z_un, z_ixn, z_ixo, z_ix0, z_ix1, z_ix2, z_ix3, z_ix4, z_ix5, z_ix6, Int.reduceToNat, z_inr, z_gd, z_bnd, z_jn, z_bdc, z_bd2, z_opn, z_ops, z_z01, if_true, if_false, Bool.false_eq_true, z_Bf, z_i0]
      rw [e3 q]
    | true =>
      have q4 := e4 q
      have q5 := e5 q
      simp (disch := omega) only [z_lit, z_n, z_add, z_sub, z_mul, z_neg, z_ltT, z_ltF, z_leT, z_leF, z_eqT, z_eqF, z_v, z_upd, z_ue, z_un, z_ixn, z_ixo, z_ix0, z_ix1, z_ix2, z_ix3, z_ix4, z_ix5, z_ix6, Int.reduceToNat, z_inr, z_gd, z_bnd, z_jn, z_bdc, z_bd2, z_opn, z_ops, z_z01, if_true, if_false, Bool.false_eq_true, z_Bt, z_i1]
      unfold z_r1
      rw [q5, show 1 - s (87 + 14 * t + 9) = 0 by omega]
theorem z_r1_inv (h : z_inv b s) {t : Nat} (ht : (t : Int) < s 3) : z_inv b (z_r1 s t) := by
  obtain ⟨⟨h0, h1, h2, h3, h4⟩, ⟨-, -, hbo⟩, -, -, hn, -, -⟩ := id h
  obtain ⟨a0, a1, a2, a3, a4, a5, a6⟩ := hn t ht
  have bo := hbo t (by omega)
  have rd : z_re s t = true ∧ z_rd1 s t = 1 - s (87 + 14 * t + 9) ∨ z_re s t = false ∧ z_rd1 s t = s (87 + 14 * t + 9) := by
    unfold z_rd1
    cases z_re s t
    · exact Or.inr ⟨rfl, rfl⟩
    · exact Or.inl ⟨rfl, rfl⟩
  have rd2 : z_re s t = decide (z_rp s t = 0 ∨ z_rp s t = s (87 + 14 * t + 1) - 1) := rfl
  refine z_inv_ft h z_r1_ft ht ?_ (fun i hi hi2 => ?_) ?_ ?_ ?_
  · rw [z_r1_9]
    unfold z_bo at *
    omega
  · rw [z_r1_o (by omega) (by omega)]
    exact (h.2.2.1 i hi2).2
  · rw [z_r1_8]
    exact a5
  · rw [z_r1_8, z_r1_9]
    rcases rd with ⟨q, q2⟩ | ⟨q, q2⟩
    · rw [q] at rd2
      have := of_decide_eq_true rd2.symm
      rw [q2]
      unfold z_rp at *
      unfold z_bo at bo
      omega
    · rw [q] at rd2
      have := of_decide_eq_false rd2.symm
      rw [q2]
      unfold z_rp at *
      unfold z_bo at bo
      omega
  · rw [z_r1_o (by omega) (by omega)]
    exact a6
theorem z_r1_rel (h : z_inv b s) {t : Nat} (r : z_rel s (zu g (87 + 14 * t + 10) (-1))) (ht : (t : Int) < s 3) (hl : s (87 + 14 * t + 10) = 0) : z_rel (z_r1 s t) (z_q1 s g t) := by
  obtain ⟨x0, x1, x2, x3, x4, x5, x6, x7, x8⟩ := r.2.2.2.1 t ht
  refine z_rel_ft h r z_r1_ft (fun k _ h1 h2 => ?_) ht ?_ ?_ ?_ ?_ ?_ ?_
  · rw [z_q1_o (by omega) (by omega) (by omega), z_un (by omega)]
  · rw [z_r1_8]
    unfold z_q1
    simp (disch := omega) only [z_ue, z_un]
  · rw [z_r1_9]
    unfold z_q1
    simp (disch := omega) only [z_ue, z_un]
  · refine Or.inl ⟨by rw [z_r1_o (by omega) (by omega)]; exact hl, ?_⟩
    unfold z_q1
    simp (disch := omega) only [z_ue, z_un]
  · rw [z_r1_o (by omega) (by omega), z_q1_o (by omega) (by omega) (by omega)]
    rw [z_un (by omega)] at x6
    exact x6
  · rw [z_r1_o (by omega) (by omega), z_q1_o (by omega) (by omega) (by omega)]
    rw [z_un (by omega)] at x7
    exact x7
  · rw [z_r1_o (by omega) (by omega), z_q1_o (by omega) (by omega) (by omega)]
    rw [z_un (by omega)] at x8
    exact x8
/-- what one act may do to the counts of stops -/
def z_sk (c : Int) (s g s' g' : Nat → Int) : Prop := ∀ i : Nat, i < 8 → (g' (7 + 4 * i + 3) = g (7 + 4 * i + 3) ∧ s' (7 + 4 * i + 3) = s (7 + 4 * i + 3)) ∨ (g (7 + 4 * i + 3) < g' (7 + 4 * i + 3) ∧ g' (7 + 4 * i + 3) ≤ g (7 + 4 * i + 3) + c ∧ s' (7 + 4 * i + 3) = s 0)
/-- what one act of train t leaves alone in the reference's vector -/
def z_zk (t : Nat) (g g' : Nat → Int) : Prop := ∀ k, 7 ≤ k → k < 143 → (k < 39 → ∀ i, k ≠ 7 + 4 * i + 3) → ¬ (87 + 14 * t + 8 ≤ k ∧ k < 87 + 14 * t + 14) → g' k = g k
/-- the train stops at p -/
theorem z_halt (hb : b ≤ 1000000000) (h : z_inv b s) (r : z_rel s g) {t p : Nat} (ht : (t : Int) < s 3) (hp : (p : Int) < s 1) (hcu : z_cu s t = p) : ∃ s' g', f_X4_unload (zV (zu (zu s (87 + 14 * t + 12) (s (87 + 14 * t + 12) + 1)) (7 + 4 * p + 3) (s 0))) t (zI p) = some (zV s') ∧ f_X10_unload (zV (zu (zu g (87 + 14 * t + 12) (s (87 + 14 * t + 12) + 1)) (7 + 4 * p + 3) (g (7 + 4 * p + 3) + 1))) (zI t) = some (zV g') ∧ z_inv b s' ∧ z_rel s' g' ∧ (∀ k, k < 5 → s' k = s k) ∧ z_sk 1 s g s' g' ∧ z_zk t g g' := by
  obtain ⟨⟨h0, h1, h2, h3, h4⟩, ⟨-, -, hbo⟩, hs, -, hn, -, -⟩ := id h
  obtain ⟨a0, a1, a2, a3, a4, a5, a6⟩ := hn t ht
  obtain ⟨x0, x1, x2, x3, x4, x5, x6, x7, x8⟩ := r.2.2.2.1 t ht
  have p8 : p < 8 := by omega
  have ft : z_ft t s (zu (zu s (87 + 14 * t + 12) (s (87 + 14 * t + 12) + 1)) (7 + 4 * p + 3) (s 0)) := fun k k1 k2 => by
    by_cases q : k < 39
    · have := k1 q p
      rw [z_un (by omega), z_un (by omega)]
    · rw [z_un (by omega), z_un (by omega)]
  have i1 : z_inv b (zu (zu s (87 + 14 * t + 12) (s (87 + 14 * t + 12) + 1)) (7 + 4 * p + 3) (s 0)) := by
    refine z_inv_ft h ft ht ?_ (fun i hi hi2 => ?_) ?_ ?_ ?_
    · rw [z_un (by omega), z_un (by omega)]
      exact hbo t (by omega)
    · by_cases q : i = p
      · rw [q, z_ue rfl]
        omega
      · rw [z_un (by omega), z_un (by omega)]
        exact (hs i hi2).2
    · rw [z_un (by omega), z_un (by omega)]
      exact a4
    · rw [z_un (by omega), z_un (by omega), z_un (by omega), z_un (by omega)]
      exact a5
    · rw [z_un (by omega), z_un (by omega)]
      exact a6
  have i2 : z_rel (zu (zu s (87 + 14 * t + 12) (s (87 + 14 * t + 12) + 1)) (7 + 4 * p + 3) (s 0)) (zu (zu g (87 + 14 * t + 12) (s (87 + 14 * t + 12) + 1)) (7 + 4 * p + 3) (g (7 + 4 * p + 3) + 1)) := by
    refine z_rel_ft h r ft (fun k k0 k1 k2 => ?_) ht ?_ ?_ ?_ ?_ ?_ ?_
    · by_cases q : k < 39
      · have := k1 q p
        rw [z_un (by omega), z_un (by omega)]
      · rw [z_un (by omega), z_un (by omega)]
    · rw [z_un (by omega), z_un (by omega), z_un (by omega), z_un (by omega)]
      exact x3
    · rw [z_un (by omega), z_un (by omega), z_un (by omega), z_un (by omega)]
      exact x4
    · have es : ∀ k, k < 11 → zu (zu s (87 + 14 * t + 12) (s (87 + 14 * t + 12) + 1)) (7 + 4 * p + 3) (s 0) (87 + 14 * t + k) = s (87 + 14 * t + k) := fun k hk => by
        rw [z_un (by omega), z_un (by omega)]
      have tn := hn t ht
      unfold z_tv at x5 ⊢
      rw [z_cu_c tn es, z_nx_c tn es, z_tk_c (by rw [z_un (by omega), z_un (by omega)]) (by omega) (fun k h1 h2 => by rw [z_un (by omega), z_un (by omega)]), es 10 (by omega), z_un (s := zu g (87 + 14 * t + 12) (s (87 + 14 * t + 12) + 1)) (by omega), z_un (s := g) (by omega)]
      rcases x5 with q | ⟨q1, q2, k, q3, q4⟩
      · exact Or.inl q
      · refine Or.inr ⟨q1, q2, k, q3, ?_⟩
        have := z_ff_s _ _ _ q3
        rw [z_un (by omega), z_un (by omega)]
        exact q4
    · rw [z_un (by omega), z_un (by omega), z_un (by omega), z_un (by omega)]
      exact x6
    · rw [z_un (by omega), z_ue rfl, z_un (by omega), z_ue rfl]
    · rw [z_un (by omega), z_un (by omega), z_un (by omega), z_un (by omega)]
      exact x8
  have hcu2 : z_cu (zu (zu s (87 + 14 * t + 12) (s (87 + 14 * t + 12) + 1)) (7 + 4 * p + 3) (s 0)) t = p := by
    rw [z_cu_c (hn t ht) (fun k hk => by rw [z_un (by omega), z_un (by omega)])]
    exact hcu
  obtain ⟨s', g', e1, e2, e3, e4, e5, e6⟩ := z_unload hb i1 i2 (t := t) (p := p) (by rw [z_un (by omega), z_un (by omega)]; exact ht) (by rw [z_un (by omega), z_un (by omega)]; exact hp) hcu2
  refine ⟨s', g', e1, e2, e3, e4, fun k hk => ?_, fun i hi => ?_, fun k k1 k2 k3 k4 => ?_⟩
  · rw [e5 k (by omega), z_un (by omega), z_un (by omega)]
  · rw [e5 _ (by omega), e6 _ (by omega) (by omega) (by omega)]
    by_cases q : i = p
    · rw [q, z_ue rfl, z_ue rfl]
      exact Or.inr ⟨by omega, by omega, rfl⟩
    · rw [z_un (by omega), z_un (by omega), z_un (by omega), z_un (by omega)]
      exact Or.inl ⟨rfl, rfl⟩
  · have k5 : k ≠ 7 + 4 * p + 3 := by
      by_cases q : k < 39
      · exact k3 q p
      · omega
    rw [e6 _ (by omega) (by omega) (by omega), z_un k5, z_un (by omega)]
end Arr
