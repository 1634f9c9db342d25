/-! the reference's measure to its end; its drop station -/
section Drp
variable {b : Int} {s g : Nat → Int} {T : Nat → Nat → Int}
theorem z_fix (h : z_inv b s) (hT : z_tab s T) {y : Nat} (hy : y < 8) {F : Nat → Int} (h0 : F y = 0) (hF : z_lo T y F) (hx : ∀ p q w, z_eg s p q w → F q ≤ F p + w) : ∀ n : Nat, ∀ k, k < 8 → T y k = n → T y k < 1000 → F k = T y k := by
  intro n
  induction n using Nat.strongRecOn with
  | _ n ih =>
    intro k hk hn hl
    have f1 := hF k hk
    rcases hT.2.2.2.2.1 y k hy hk hl with q | ⟨a, w, ha, he, hw⟩
    · subst q
      rw [h0, hT.2.1]
    · have w1 := z_egw h he
      have e3 := hT.1 y a
      have e4 := ih (T y a).toNat (by omega) a ha (by omega) (by omega)
      have e5 := hx a k w he
      omega
theorem z_fix_en (h : z_inv b s) (hT : z_tab s T) {y : Nat} (hy : y < 8) {F : Nat → Int} (h0 : F y = 0) (hF : z_lo T y F) (hx : ∀ p q w, z_eg s p q w → F q ≤ F p + w) {k : Nat} (hk : k < 8) : F k = z_en (T y k) := by
  have e := hT.1 y k
  unfold z_en
  by_cases c : T y k = 1000
  · rw [if_pos c]
    exact (hF k hk).2.2 c
  · rw [if_neg c]
    exact z_fix h hT hy h0 hF hx (T y k).toNat k hk (by omega) (by omega)
theorem z_Gmo (h : z_inv b s) (r : z_rel s g) (hT : z_tab s T) {y : Nat} (hy : y < 8) : ∀ (d : Nat) (ρ : Int) (N : Nat) (v F : Nat → Int), ρ + d = 73 → 0 ≤ ρ → d + 1 < N → (∀ k, k < 251 → v k = g k) → (∀ k, k < 8 → v (251 + k) = F k) → z_lo T y F → F y = 0 → (∀ k, k < 8 → T y k ≤ ρ → F k = T y k) → ∃ v', l_X10_measure_33 N (zV v) (zI 1) = some (zV v') ∧ (∀ k, k < 251 → v' k = g k) ∧ (∀ k, k < 8 → v' (251 + k) = z_en (T y k)) := by
  intro d
  induction d with
  | zero =>
    intro ρ N v F hr h0 hN hv hv2 hF hy0 hx
    obtain ⟨N, rfl⟩ : ∃ m, N = m + 1 := ⟨N - 1, by omega⟩
    obtain ⟨a, ⟨u, F', m, rfl, p1, p2, p3, p4, p5⟩, e⟩ := z_Gro h r hT hy hv hv2 hF (fun (F17 : Nat → Int32) (x18 : Int32) => l_X10_measure_33 N F17 x18)
    have hE : ∀ p q w, z_eg s p q w → F' q ≤ F p + w := by
      intro p q w he
      obtain ⟨k, k1, k2, k3, k4⟩ := he
      rw [← k3]
      exact p5 k (by omega) k2 p q k4
    rw [l_X10_measure_33]
    simp (disch := omega) only [z_lit, z_n, z_add, z_sub, z_mul, z_neg, z_ltT, z_ltF, z_leT, z_leF, z_eqT, z_eqF, z_v, z_upd, z_ue, z_un, z_ixn, z_ixo, z_ix0, z_ix1, z_ix2, z_ix3, z_ix4, z_ix5, z_ix6, Int.reduceToNat, z_inr, z_gd, z_bnd, z_jn, z_bdc, z_bd2, z_opn, z_ops, z_z01, if_true, if_false, Bool.false_eq_true]
    rw [e]
    rcases p4.2 with ⟨rfl, q⟩ | ⟨rfl, k, hk, q⟩
    · obtain ⟨N, rfl⟩ : ∃ m, N = m + 1 := ⟨N - 1, by omega⟩
      have fx : ∀ p q w, z_eg s p q w → F' q ≤ F' p + w := fun p q2 w he => by
        have := q p (z_egw h he).2.1
        have := hE p q2 w he
        omega
      refine ⟨u, ?_, p1, fun k hk => by rw [p2 k hk]; exact z_fix_en h hT hy (by rw [q y hy, hy0]) p3 fx hk⟩
      show l_X10_measure_33 (N + 1) (zV u) (zI 0) = _
      rw [l_X10_measure_33]
      simp (disch := omega) only [z_lit, z_n, z_add, z_sub, z_mul, z_neg, z_ltT, z_ltF, z_leT, z_leF, z_eqT, z_eqF, z_v, z_upd, z_ue, z_un, z_ixn, z_ixo, z_ix0, z_ix1, z_ix2, z_ix3, z_ix4, z_ix5, z_ix6, Int.reduceToNat, z_inr, z_gd, z_bnd, z_jn, z_bdc, z_bd2, z_opn, z_ops, z_z01, if_true, if_false, Bool.false_eq_true]
    · exfalso
      have f1 := p3 k hk
      have f2 := hF k hk
      have f3 := hx k hk
      rcases z_tab_fin h hT hy hk with c | c
      · omega
      · omega
  | succ d ih =>
    intro ρ N v F hr h0 hN hv hv2 hF hy0 hx
    obtain ⟨N, rfl⟩ : ∃ m, N = m + 1 := ⟨N - 1, by omega⟩
    obtain ⟨a, ⟨u, F', m, rfl, p1, p2, p3, p4, p5⟩, e⟩ := z_Gro h r hT hy hv hv2 hF (fun (F17 : Nat → Int32) (x18 : Int32) => l_X10_measure_33 N F17 x18)
    have hE : ∀ p q w, z_eg s p q w → F' q ≤ F p + w := by
      intro p q w he
      obtain ⟨k, k1, k2, k3, k4⟩ := he
      rw [← k3]
      exact p5 k (by omega) k2 p q k4
    have fy := p4.1 y hy
    have fy2 := p3 y hy
    rw [l_X10_measure_33]
    simp (disch := omega) only [z_lit, z_n, z_add, z_sub, z_mul, z_neg, z_ltT, z_ltF, z_leT, z_leF, z_eqT, z_eqF, z_v, z_upd, z_ue, z_un, z_ixn, z_ixo, z_ix0, z_ix1, z_ix2, z_ix3, z_ix4, z_ix5, z_ix6, Int.reduceToNat, z_inr, z_gd, z_bnd, z_jn, z_bdc, z_bd2, z_opn, z_ops, z_z01, if_true, if_false, Bool.false_eq_true]
    rw [e]
    rcases p4.2 with ⟨rfl, q⟩ | ⟨rfl, -⟩
    · obtain ⟨N, rfl⟩ : ∃ m, N = m + 1 := ⟨N - 1, by omega⟩
      have fx : ∀ p q w, z_eg s p q w → F' q ≤ F' p + w := fun p q2 w he => by
        have := q p (z_egw h he).2.1
        have := hE p q2 w he
        omega
      refine ⟨u, ?_, p1, fun k hk => by rw [p2 k hk]; exact z_fix_en h hT hy (by rw [q y hy, hy0]) p3 fx hk⟩
      show l_X10_measure_33 (N + 1) (zV u) (zI 0) = _
      rw [l_X10_measure_33]
      simp (disch := omega) only [z_lit, z_n, z_add, z_sub, z_mul, z_neg, z_ltT, z_ltF, z_leT, z_leF, z_eqT, z_eqF, z_v, z_upd, z_ue, z_un, z_ixn, z_ixo, z_ix0, z_ix1, z_ix2, z_ix3, z_ix4, z_ix5, z_ix6, Int.reduceToNat, z_inr, z_gd, z_bnd, z_jn, z_bdc, z_bd2, z_opn, z_ops, z_z01, if_true, if_false, Bool.false_eq_true]
    · refine ih (ρ + 1) N u F' (by omega) (by omega) (by omega) p1 p2 p3 (by omega) ?_
      intro k hk hle
      have f1 := p3 k hk
      rcases hT.2.2.2.2.1 y k hy hk (by omega) with q | ⟨a, w, ha, he, hw⟩
      · subst q
        rw [hT.2.1] at f1 ⊢
        omega
      · have w1 := z_egw h he
        have e3 := hT.1 y a
        have e4 := hx a ha (by omega)
        have e5 := hE a k w he
        omega
theorem z_Gme (h : z_inv b s) (r : z_rel s g) (hT : z_tab s T) {y : Nat} (hy : y < 8) : ∃ v', f_X10_measure (zV g) (zI y) = some (zV v') ∧ (∀ k, k < 251 → v' k = g k) ∧ (∀ k, k < 8 → v' (251 + k) = z_en (T y k)) := by
  unfold f_X10_measure
  rw [z_lit 0, z_lit 1]
  refine z_run (l := fun N (a : Nat → Int32) x => l_X10_measure_2 (zI y) (fun (F5 : Nat → Int32) => l_X10_measure_33 FU F5 (zI (OfNat.ofNat 1))) N a x) (n := 8) (P := fun i a => ∃ v, a = zV v ∧ (∀ k, k < 251 → v k = g k) ∧ ∀ k, k < i → v (251 + k) = if k = y then 0 else 99999) (Q := fun o => ∃ v', o = some (zV v') ∧ (∀ k, k < 251 → v' k = g k) ∧ (∀ k, k < 8 → v' (251 + k) = z_en (T y k))) (fun N i a hi hp => ?_) (fun N a hp => ?_) 8 0 FU (zV g) (by omega) (by unfold FU; omega) ?_
  · obtain ⟨v, rfl, p1, p2⟩ := hp
    refine ⟨zV (zu v (251 + i) (if i = y then 0 else 99999)), ⟨_, rfl, fun k hk => by rw [z_un (by omega)]; exact p1 k hk, fun k hk => ?_⟩, ?_⟩
    · by_cases e : k = i
      · subst e
        exact z_ue rfl
      · rw [z_un (by omega)]
        exact p2 k (by omega)
    · show l_X10_measure_2 (zI y) _ (N + 1) (zV v) (zI i) = _
      rw [l_X10_measure_2]
      by_cases c : i = y
      · subst c
        simp (disch := omega) only [z_lit, z_n, z_add, z_sub, z_mul, z_neg, z_ltT, z_ltF, z_leT, z_leF, z_eqT, z_eqF, z_v, z_upd, z_ue, z_un, z_ixn, z_ixo, z_ix0, z_ix1, z_ix2, z_ix3, z_ix4, z_ix5, z_ix6, Int.reduceToNat, z_inr, z_gd, z_bnd, z_jn, z_bdc, z_bd2, z_opn, z_ops, z_z01, if_true, if_false, Bool.false_eq_true]
      · simp (disch := omega) only [z_lit, z_n, z_add, z_sub, z_mul, z_neg, z_ltT, z_ltF, z_leT, z_leF, z_eqT, z_eqF, z_v, z_upd, z_ue, z_un, z_ixn, z_ixo, z_ix0, z_ix1, z_ix2, z_ix3, z_ix4, z_ix5, z_ix6, Int.reduceToNat, z_inr, z_gd, z_bnd, z_jn, z_bdc, z_bd2, z_opn, z_ops, z_z01, if_true, if_false, Bool.false_eq_true, c]
  · obtain ⟨v, rfl, p1, p2⟩ := hp
    show ∃ v', l_X10_measure_2 (zI y) _ (N + 1) (zV v) (zI ((8 : Nat) : Int)) = _ ∧ _
    rw [l_X10_measure_2]
    simp (disch := omega) only [z_lit, z_n, z_add, z_sub, z_mul, z_neg, z_ltT, z_ltF, z_leT, z_leF, z_eqT, z_eqF, z_v, z_upd, z_ue, z_un, z_ixn, z_ixo, z_ix0, z_ix1, z_ix2, z_ix3, z_ix4, z_ix5, z_ix6, Int.reduceToNat, z_inr, z_gd, z_bnd, z_jn, z_bdc, z_bd2, z_opn, z_ops, z_z01, if_true, if_false, Bool.false_eq_true]
    refine z_Gmo h r hT hy 73 0 FU v (fun k => if k = y then 0 else 99999) (by omega) (by omega) (by unfold FU; omega) p1 p2 (fun k hk => ?_) (if_pos rfl) (fun k hk hle => ?_)
    · have e1 := hT.1 y k
      have e2 := hT.2.1 y
      have e3 := z_tab_fin h hT hy hk
      show (0 ≤ (if k = y then (0 : Int) else 99999) ∧ (if k = y then (0 : Int) else 99999) ≤ 99999) ∧ (T y k < 1000 → T y k ≤ (if k = y then (0 : Int) else 99999)) ∧ (T y k = 1000 → (if k = y then (0 : Int) else 99999) = 99999)
      by_cases c : k = y
      · subst c
        rw [if_pos rfl]
        omega
      · rw [if_neg c]
        omega
    · have e1 := hT.1 y k
      rcases hT.2.2.2.2.1 y k hy hk (by omega) with q | ⟨a, w, ha, he, hw⟩
      · subst q
        rw [hT.2.1, if_pos rfl]
      · have w1 := z_egw h he
        have e3 := hT.1 y a
        omega
  · exact ⟨g, rfl, fun k hk => rfl, fun k hk => absurd hk (by omega)⟩
theorem z_rel_c {g' : Nat → Int} (hc : z_inv b s) (r : z_rel s g) (e : ∀ k, k < 251 → g' k = g k) : z_rel s g' := by
  obtain ⟨r0, r1, r2, r3, r4⟩ := r
  obtain ⟨⟨h0, h1, h2, h3, h4⟩, -, -, -, hn, -⟩ := hc
  refine ⟨fun k hk => by rw [e k (by omega)]; exact r0 k hk, fun i hi => ?_, fun k hk j hj => by rw [e _ (by omega)]; exact r2 k hk j hj, fun t ht => ?_, fun i hi j hj => by rw [e _ (by omega)]; exact r4 i hi j hj⟩
  · rw [e _ (by omega), e _ (by omega), e _ (by omega)]
    exact r1 i hi
  · obtain ⟨a0, a1, a2, a3, a4, a5, a6, a7, a8⟩ := r3 t ht
    refine ⟨by rw [e _ (by omega)]; exact a0, by rw [e _ (by omega)]; exact a1, fun j hj => ?_, by rw [e _ (by omega)]; exact a3, by rw [e _ (by omega)]; exact a4, ?_, by rw [e _ (by omega)]; exact a6, by rw [e _ (by omega)]; exact a7, by rw [e _ (by omega)]; exact a8⟩
    · have := (hn t ht).2.1
      rw [e _ (by omega)]
      exact a2 j hj
    · unfold z_tv at a5 ⊢
      rw [e _ (by omega)]
      exact a5
theorem z_en_lt {v w : Int} (hv : 0 ≤ v ∧ v ≤ 1000) (hw : 0 ≤ w ∧ w ≤ 1000) : z_en v ≤ z_en w ↔ v ≤ w := by
  unfold z_en
  split <;> split <;> omega
theorem z_en_b {v : Int} (hv : 0 ≤ v ∧ v ≤ 1000) : 0 ≤ z_en v ∧ z_en v ≤ 99999 := by
  unfold z_en
  split <;> omega
/-- the loop over the rest of the route, far measured -/
theorem z_Gdr (h : z_inv b s) (r : z_rel s g) {t : Nat} (ht : (t : Int) < s 3) {y : Nat} (hy : y < 8) (hf : ∀ k, k < 8 → g (251 + k) = z_en (z_d s k y)) : ∀ (m N : Nat) (x p bs ls : Int), x + m = 6 → m < N → 1 ≤ x → ((s (87 + 14 * t + 9) = 0 → p = s (87 + 14 * t + 8) - x) ∧ (s (87 + 14 * t + 9) = 1 → p = s (87 + 14 * t + 8) + x)) → 0 ≤ ls ∧ ls ≤ 1000 → l_X10_dropOf_51 (zV g) (zI t) (zI ((87 + 14 * t : Nat) : Int)) N (zI bs) (zI (z_en ls)) (zI p) = some (zI (z_dr s t y m p bs ls), zV g) := by
  have d := h.2.1.2.2 t (by have := h.1.2.2.2.1; omega)
  obtain ⟨-, a1, a2, -, a4, a5, -⟩ := h.2.2.2.2.1 t ht
  have h1 := h.1.2.1
  have h3 := h.1.2.2.2.1
  have q1 := (r.2.2.2.1 t ht).2.1
  have q9 := (r.2.2.2.1 t ht).2.2.2.2.1
  have oob : ∀ (N : Nat) (p bs ls : Int), z_ok s t p = false → -100 < p → p < 100 → l_X10_dropOf_51 (zV g) (zI t) (zI ((87 + 14 * t : Nat) : Int)) (N + 1) (zI bs) (zI ls) (zI p) = some (zI bs, zV g) := by
    intro N p bs ls c p0 p1
    have c1 := of_decide_eq_false c
    rw [l_X10_dropOf_51]
    unfold f_X10_isBetween
    by_cases c2 : p < 0
    · simp (disch := omega) only [z_lit, z_n, z_add, z_sub, z_mul, z_neg, z_ltT, z_ltF, z_leT, z_leF, z_eqT, z_eqF, z_v, z_upd, z_ue, z_un, z_ixn, z_ixo, z_ix0, z_ix1, z_ix2, z_ix3, z_ix4, z_ix5, z_ix6, Int.reduceToNat, z_inr, z_gd, z_bnd, z_jn, z_bdc, z_bd2, z_opn, z_ops, z_z01, if_true, if_false, Bool.false_eq_true, q1]
    · simp (disch := omega) only [z_lit, z_n, z_add, z_sub, z_mul, z_neg, z_ltT, z_ltF, z_leT, z_leF, z_eqT, z_eqF, z_v, z_upd, z_ue, z_un, z_ixn, z_ixo, z_ix0, z_ix1, z_ix2, z_ix3, z_ix4, z_ix5, z_ix6, Int.reduceToNat, z_inr, z_gd, z_bnd, z_jn, z_bdc, z_bd2, z_opn, z_ops, z_z01, if_true, if_false, Bool.false_eq_true, q1]
  intro m
  induction m with
  | zero =>
    intro N x p bs ls hm hN hx hp hl
    obtain ⟨N, rfl⟩ : ∃ m, N = m + 1 := ⟨N - 1, by omega⟩
    refine oob N p bs _ (decide_eq_false ?_) ?_ ?_
    · rcases d with d | d
      · have := hp.1 d; omega
      · have := hp.2 d; omega
    · rcases d with d | d
      · have := hp.1 d; omega
      · have := hp.2 d; omega
    · rcases d with d | d
      · have := hp.1 d; omega
      · have := hp.2 d; omega
  | succ m ih =>
    intro N x p bs ls hm hN hx hp hl
    obtain ⟨N, rfl⟩ : ∃ m, N = m + 1 := ⟨N - 1, by omega⟩
    have hpb : -100 < p ∧ p < 100 := by
      rcases d with d | d
      · have := hp.1 d; omega
      · have := hp.2 d; omega
    have hq : ((s (87 + 14 * t + 9) = 0 → p + (2 * s (87 + 14 * t + 9) - 1) = s (87 + 14 * t + 8) - (x + 1)) ∧ (s (87 + 14 * t + 9) = 1 → p + (2 * s (87 + 14 * t + 9) - 1) = s (87 + 14 * t + 8) + (x + 1))) := by
      refine ⟨fun q => ?_, fun q => ?_⟩
      · have := hp.1 q; omega
      · have := hp.2 q; omega
    by_cases c : z_ok s t p = true
    · have c1 := of_decide_eq_true c
      have cb := z_spb h ht c1
      have cd := z_db h (x := z_sp s t p) (y := y)
      have cl := z_en_lt hl cd
      have cb1 := z_en_b cd
      have cb2 := z_en_b hl
      obtain ⟨n, hn⟩ : ∃ n : Nat, z_sp s t p = n := ⟨(z_sp s t p).toNat, by omega⟩
      have hfn := hf n (by omega)
      rw [← hn] at hfn
      rw [l_X10_dropOf_51]
      unfold f_X10_isBetween z_dr
      simp only [c, if_true]
      simp (disch := omega) only [z_lit, z_n, z_add, z_sub, z_mul, z_neg, z_ltT, z_ltF, z_leT, z_leF, z_eqT, z_eqF, z_v, z_upd, z_ue, z_un, z_ixn, z_ixo, z_ix0, z_ix1, z_ix2, z_ix3, z_ix4, z_ix5, z_ix6, Int.reduceToNat, z_inr, z_gd, z_bnd, z_jn, z_bdc, z_bd2, z_opn, z_ops, z_z01, if_true, if_false, Bool.false_eq_true, q1, z_Gsp h r ht c1, q9]
      rw [hn] at cd cl cb1 cb hfn ⊢
      simp (disch := omega) only [z_lit, z_n, z_add, z_sub, z_mul, z_neg, z_ltT, z_ltF, z_leT, z_leF, z_eqT, z_eqF, z_v, z_upd, z_ue, z_un, z_ixn, z_ixo, z_ix0, z_ix1, z_ix2, z_ix3, z_ix4, z_ix5, z_ix6, Int.reduceToNat, z_inr, z_gd, z_bnd, z_jn, z_bdc, z_bd2, z_opn, z_ops, z_z01, if_true, if_false, Bool.false_eq_true, hfn]
      by_cases c2 : z_d s n y < ls
      · rw [z_leF (by omega) (by omega) (by omega), if_pos c2]
        exact ih N (x + 1) _ _ _ (by omega) (by omega) (by omega) hq cd
      · rw [z_leT (by omega) (by omega) (by omega), if_neg c2]
        exact ih N (x + 1) _ _ _ (by omega) (by omega) (by omega) hq hl
    · have c0 : z_ok s t p = false := Bool.eq_false_iff.mpr c
      rw [z_dr_o c0, oob N p bs _ c0 hpb.1 hpb.2]
theorem z_dsym (h : z_inv b s) {x y : Int} (hx : 0 ≤ x ∧ x < 8) (hy : 0 ≤ y ∧ y < 8) : z_d s x y = z_d s y x := h.2.2.2.2.2.2.2.2.2.2.2 x.toNat y.toNat (by omega) (by omega)
/-- the reference's drop station -/
theorem z_Gdp (h : z_inv b s) (r : z_rel s g) {t i : Nat} (ht : (t : Int) < s 3) (hi : (i : Int) < s 4) : ∃ g', f_X10_dropOf (zV g) (zI t) (zI i) = some (zI (z_dp s t (s (143 + 9 * i + 1))), zV g') ∧ (∀ k, k < 251 → g' k = g k) := by
  obtain ⟨⟨h0, h1, h2, h3, h4⟩, -, -, -, hn, hp, hd⟩ := id h
  obtain ⟨-, a1, -⟩ := hp i hi
  obtain ⟨-, b1, b2, -, b4, b5, -⟩ := hn t ht
  have q1 := r.2.2.2.2 i hi 1 (by omega)
  obtain ⟨y, hy⟩ : ∃ y : Nat, s (143 + 9 * i + 1) = y := ⟨(s (143 + 9 * i + 1)).toNat, by omega⟩
  obtain ⟨v, e1, e2, e3⟩ := z_Gme h r hd (y := y) (by omega)
  have r' := z_rel_c h r e2
  have q8 := (r'.2.2.2.1 t ht).2.2.2.1
  have q9 := (r'.2.2.2.1 t ht).2.2.2.2.1
  have cu := z_cub h ht
  have hf : ∀ k, k < 8 → v (251 + k) = z_en (z_d s k y) := fun k hk => by
    rw [e3 k hk, z_dsym h (by omega) (by omega)]
    rfl
  obtain ⟨n, hn⟩ : ∃ n : Nat, z_cu s t = n := ⟨(z_cu s t).toNat, by omega⟩
  have hfn := hf n (by omega)
  refine ⟨v, ?_, e2⟩
  unfold f_X10_dropOf z_dp
  rw [hn]
  simp (disch := omega) only [z_lit, z_n, z_add, z_sub, z_mul, z_neg, z_ltT, z_ltF, z_leT, z_leF, z_eqT, z_eqF, z_v, z_upd, z_ue, z_un, z_ixn, z_ixo, z_ix0, z_ix1, z_ix2, z_ix3, z_ix4, z_ix5, z_ix6, Int.reduceToNat, z_inr, z_gd, z_bnd, z_jn, z_bdc, z_bd2, z_opn, z_ops, z_z01, if_true, if_false, Bool.false_eq_true, z_ofP, z_ofT, q1, hy, e1, z_Gcu h r' ht, hn, hfn, q8, q9]
  exact z_Gdr h r' ht (by omega) hf 5 FU 1 _ _ _ (by omega) (by unfold FU; omega) (by omega) (by omega) (z_db h)
end Drp
