/-! the reference's measure finds the class's table -/
theorem z_ct_le {p q : Nat → Bool} : ∀ d i, (∀ j, i ≤ j → j < i + d → p j = true → q j = true) → z_ct p i d ≤ z_ct q i d
  | 0, i, _ => Int.le_refl _
  | d + 1, i, h => by
    have e := z_ct_le d (i + 1) (fun j h1 h2 => h j (by omega) (by omega))
    have e0 := h i (by omega) (by omega)
    unfold z_ct
    cases hp : p i with
    | false =>
      simp only [if_false, Bool.false_eq_true]
      split <;> omega
    | true =>
      rw [e0 hp]
      omega
theorem z_ct_lt {p q : Nat → Bool} : ∀ d i, (∀ j, i ≤ j → j < i + d → p j = true → q j = true) → (∃ j, i ≤ j ∧ j < i + d ∧ p j = false ∧ q j = true) → z_ct p i d + 1 ≤ z_ct q i d
  | 0, i, _, h => by
    obtain ⟨j, h1, h2, -⟩ := h
    omega
  | d + 1, i, h, h2 => by
    obtain ⟨j, j1, j2, j3, j4⟩ := h2
    unfold z_ct
    by_cases e : j = i
    · subst e
      have e2 := z_ct_le d (j + 1) (fun k h1 h2 => h k (by omega) (by omega))
      rw [j3, j4]
      simp only [if_false, if_true, Bool.false_eq_true]
      omega
    · have e2 := z_ct_lt d (i + 1) (fun k h1 h2 => h k (by omega) (by omega)) ⟨j, by omega, by omega, j3, j4⟩
      have e0 := h i (by omega) (by omega)
      cases hp : p i with
      | false =>
        simp only [if_false, Bool.false_eq_true]
        split <;> omega
      | true =>
        rw [e0 hp]
        omega
section Tab
variable {b : Int} {s g : Nat → Int} {T : Nat → Nat → Int}
theorem z_egw (h : z_inv b s) {y x : Nat} {w : Int} (e : z_eg s y x w) : (1 ≤ w ∧ w ≤ 9) ∧ y < 8 ∧ x < 8 := by
  obtain ⟨k, k1, k2, k3, k4⟩ := e
  obtain ⟨t1, t2, t3⟩ := h.2.2.2.1 k k1
  have h1 := h.1.2.1
  omega
theorem z_egs {y x : Nat} {w : Int} (e : z_eg s y x w) : z_eg s x y w := by
  obtain ⟨k, k1, k2, k3, k4⟩ := e
  exact ⟨k, k1, k2, k3, by rcases k4 with q | q; exact Or.inr ⟨q.2, q.1⟩; exact Or.inl ⟨q.2, q.1⟩⟩
theorem z_tab_72 (h : z_inv b s) (hT : z_tab s T) {a : Nat} (ha : a < 8) : ∀ n : Nat, ∀ x, x < 8 → T a x = n → T a x < 1000 → T a x ≤ 9 * z_ct (fun k => decide (T a k < T a x)) 0 8 := by
  intro n
  induction n using Nat.strongRecOn with
  | _ n ih =>
    intro x hx hn hl
    obtain ⟨t1, t2, t3, t4, t5, t6⟩ := hT
    rcases t5 a x ha hx hl with q | ⟨y, w, hy, he, hw⟩
    · subst q
      rw [t2 a]
      have := (z_ct_b (p := fun k => decide (T a k < 0)) 8 0).1
      omega
    · have w1 := z_egw h he
      have e1 := t3 y x w he
      have e2 := t4 a y x ha hy hx
      have e3 := t1 a y
      have e4 := ih (T a y).toNat (by omega) y hy (by omega) (by omega)
      have e5 := z_ct_lt (p := fun k => decide (T a k < T a y)) (q := fun k => decide (T a k < T a x)) 8 0 (fun j _ _ hj => by
        have := of_decide_eq_true hj
        exact decide_eq_true (by omega)) ⟨y, by omega, by omega, decide_eq_false (by omega), decide_eq_true (by omega)⟩
      omega
theorem z_tab_fin (h : z_inv b s) (hT : z_tab s T) {a x : Nat} (ha : a < 8) (hx : x < 8) : T a x ≤ 72 ∨ T a x = 1000 := by
  have t1 := hT.1 a x
  by_cases c : T a x < 1000
  · have e := z_tab_72 h hT ha (T a x).toNat x hx (by omega) c
    have := (z_ct_b (p := fun k => decide (T a k < T a x)) 8 0).2
    omega
  · omega
/-- what far holds of the table's row -/
def z_en (v : Int) : Int := if v = 1000 then 99999 else v
def z_lo (T : Nat → Nat → Int) (y : Nat) (F : Nat → Int) : Prop := ∀ k, k < 8 → (0 ≤ F k ∧ F k ≤ 99999) ∧ (T y k < 1000 → T y k ≤ F k) ∧ (T y k = 1000 → F k = 99999)
def z_rx (F : Nat → Int) (a x : Nat) (w : Int) : Nat → Int := fun k => if k = x ∧ F a + w < F x then F a + w else F k
def z_md (F0 F : Nat → Int) (m : Int) : Prop := (∀ k, k < 8 → F k ≤ F0 k) ∧ ((m = 0 ∧ ∀ k, k < 8 → F k = F0 k) ∨ (m = 1 ∧ ∃ k, k < 8 ∧ F k < F0 k))
theorem z_rx_lo (h : z_inv b s) (hT : z_tab s T) {y a x : Nat} {w : Int} {F : Nat → Int} (hy : y < 8) (he : z_eg s a x w) (hF : z_lo T y F) : z_lo T y (z_rx F a x w) := by
  intro k hk
  obtain ⟨w1, ha, hx⟩ := z_egw h he
  have f1 := hF k hk
  have f2 := hF a ha
  have f3 := hF x hx
  unfold z_rx
  by_cases c : k = x ∧ F a + w < F x
  · rw [if_pos c]
    obtain ⟨rfl, c2⟩ := c
    have e1 := hT.2.2.1 a k w he
    have e2 := hT.2.2.2.1 y a k hy ha hx
    have e3 := z_tab_fin h hT hy ha
    have e4 := z_tab_fin h hT hy hx
    have e5 := hT.1 y a
    omega
  · rw [if_neg c]
    exact f1
theorem z_rx_md {F0 F : Nat → Int} {m : Int} {a x : Nat} {w : Int} (hx : x < 8) (hm : z_md F0 F m) : z_md F0 (z_rx F a x w) (if m = 0 then z_B (decide (F a + w < F x)) else m) := by
  obtain ⟨h1, h2⟩ := hm
  by_cases c : F a + w < F x
  · have e : ∀ k, k < 8 → z_rx F a x w k ≤ F k := fun k hk => by
      unfold z_rx
      split
      · rename_i q
        rw [q.1]
        omega
      · omega
    refine ⟨fun k hk => Int.le_trans (e k hk) (h1 k hk), Or.inr ⟨?_, x, hx, ?_⟩⟩
    · rw [decide_eq_true c]
      rcases h2 with ⟨q, -⟩ | ⟨q, -⟩ <;> simp [q, z_B]
    · have := h1 x hx
      unfold z_rx
      rw [if_pos ⟨rfl, c⟩]
      omega
  · have e : z_rx F a x w = F := by
      funext k
      unfold z_rx
      rw [if_neg (fun q => c q.2)]
    rw [e, decide_eq_false c]
    refine ⟨h1, ?_⟩
    rcases h2 with ⟨q, q2⟩ | ⟨q, q2⟩
    · exact Or.inl ⟨by simp [q, z_B], q2⟩
    · exact Or.inr ⟨by simp [q], q2⟩
theorem z_rx_le {F : Nat → Int} {a x : Nat} {w : Int} : z_rx F a x w x ≤ F a + w := by
  unfold z_rx
  split <;> omega
theorem z_rx_le2 {F : Nat → Int} {a x k : Nat} {w : Int} : z_rx F a x w k ≤ F k := by
  unfold z_rx
  split
  · rename_i q
    rw [q.1]
    omega
  · omega
theorem z_Gsh {v F : Nat → Int} (hv : ∀ k, k < 8 → v (251 + k) = F k) (hF : ∀ k, k < 8 → 0 ≤ F k ∧ F k ≤ 99999) {a x : Nat} {w : Int} (ha : a < 8) (hx : x < 8) (hw : 1 ≤ w ∧ w ≤ 9) : ∃ v', f_X10_shorten (zV v) (zI a) (zI x) (zI w) = some (zI (z_B (decide (F a + w < F x))), zV v') ∧ (∀ k, k < 251 → v' k = v k) ∧ (∀ k, k < 8 → v' (251 + k) = z_rx F a x w k) := by
  have e1 := hv a ha
  have e2 := hv x hx
  have f1 := hF a ha
  have f2 := hF x hx
  by_cases c : F a + w < F x
  · refine ⟨zu v (251 + x) (F a + w), ?_, fun k hk => z_un (by omega), fun k hk => ?_⟩
    · unfold f_X10_shorten
      simp (disch := omega) only [z_lit, z_n, z_add, z_sub, z_mul, z_neg, z_ltT, z_ltF, z_leT, z_leF, z_eqT, z_eqF, z_v, z_upd, z_ue, z_un, z_ixn, z_ixo, z_ix0, z_ix1, z_ix2, z_ix3, z_ix4, z_ix5, z_ix6, Int.reduceToNat, z_inr, z_gd, z_bnd, z_jn, z_bdc, z_bd2, z_opn, z_ops, z_z01, if_true, if_false, Bool.false_eq_true, e1, e2, decide_eq_true c, z_Bt, z_i1]
    · unfold z_rx
      by_cases q : k = x
      · subst q
        rw [z_ue rfl, if_pos ⟨rfl, c⟩]
      · rw [z_un (by omega), if_neg (fun z => q z.1), hv k hk]
  · refine ⟨v, ?_, fun k hk => rfl, fun k hk => ?_⟩
    · have e3 : zu v (251 + x) (F x) = v := by
        funext k
        unfold zu
        split
        · rename_i q
          rw [q, e2]
        · rfl
      unfold f_X10_shorten
      simp (disch := omega) only [z_lit, z_n, z_add, z_sub, z_mul, z_neg, z_ltT, z_ltF, z_leT, z_leF, z_eqT, z_eqF, z_v, z_upd, z_ue, z_un, z_ixn, z_ixo, z_ix0, z_ix1, z_ix2, z_ix3, z_ix4, z_ix5, z_ix6, Int.reduceToNat, z_inr, z_gd, z_bnd, z_jn, z_bdc, z_bd2, z_opn, z_ops, z_z01, if_true, if_false, Bool.false_eq_true, e1, e2, decide_eq_false c, z_Bf, z_i0, e3]
    · unfold z_rx
      rw [if_neg (fun q => c q.2), hv k hk]
/-- within a round, behind i tracks -/
def z_rd (s g : Nat → Int) (T : Nat → Nat → Int) (y : Nat) (F0 : Nat → Int) (i : Nat) (a : (Nat → Int32) × Int32) : Prop := ∃ (v F : Nat → Int) (m : Int), a = (zV v, zI m) ∧ (∀ k, k < 251 → v k = g k) ∧ (∀ k, k < 8 → v (251 + k) = F k) ∧ z_lo T y F ∧ z_md F0 F m ∧ (∀ k, k < i → s (39 + 4 * k + 3) = 1 → ∀ p q : Nat, (s (39 + 4 * k) = p ∧ s (39 + 4 * k + 1) = q) ∨ (s (39 + 4 * k + 1) = p ∧ s (39 + 4 * k) = q) → F q ≤ F0 p + s (39 + 4 * k + 2))
theorem z_Gro (h : z_inv b s) (r : z_rel s g) (hT : z_tab s T) {y : Nat} (hy : y < 8) {v F0 : Nat → Int} (hv : ∀ k, k < 251 → v k = g k) (hv2 : ∀ k, k < 8 → v (251 + k) = F0 k) (hF : z_lo T y F0) (K : (Nat → Int32) → Int32 → Option (Nat → Int32)) : ∃ a, z_rd s g T y F0 (s 2).toNat a ∧ l_X10_measure_42 K FU (zV v) (zI 0) (zI 0) = K a.1 a.2 := by
  have hh := h
  obtain ⟨⟨h0, h1, h2, h3, h4⟩, ⟨-, ho, -⟩, -, htk, -⟩ := h
  obtain ⟨r0, -, rk, -⟩ := r
  have q2 := r0 2 (by omega)
  have e := z_run (l := fun N (a : (Nat → Int32) × Int32) x => l_X10_measure_42 K N a.1 a.2 x) (n := (s 2).toNat) (P := z_rd s g T y F0) (Q := fun o => ∃ a, z_rd s g T y F0 (s 2).toNat a ∧ o = K a.1 a.2) (fun N i a hi hp => ?_) (fun N a hp => ?_) (s 2).toNat 0 FU (zV v, zI 0) (by omega) (by unfold FU; omega) ?_
  · exact e
  · obtain ⟨v, F, m, rfl, p1, p2, p3, p4, p5⟩ := hp
    have hi2 : (i : Int) < s 2 := by omega
    obtain ⟨⟨a0, a1⟩, ⟨b0, b1⟩, w1⟩ := htk i hi2
    have g0 := rk i hi2 0 (by omega)
    have g1 := rk i hi2 1 (by omega)
    have g2 := rk i hi2 2 (by omega)
    have g3 := rk i hi2 3 (by omega)
    have v2 := p1 2 (by omega)
    have c0 := p1 (39 + 4 * i) (by omega)
    have c1 := p1 (39 + 4 * i + 1) (by omega)
    have c2 := p1 (39 + 4 * i + 2) (by omega)
    have c3 := p1 (39 + 4 * i + 3) (by omega)
    rw [g1] at c1
    rw [g2] at c2
    rw [g3] at c3
    simp only [Nat.add_zero] at g0
    rw [g0] at c0
    have mb : m = 0 ∨ m = 1 := p4.2.elim (fun q => Or.inl q.1) (fun q => Or.inr q.1)
    by_cases co : s (39 + 4 * i + 3) = 1
    · obtain ⟨x, hx⟩ : ∃ x : Nat, s (39 + 4 * i) = x := ⟨(s (39 + 4 * i)).toNat, by omega⟩
      obtain ⟨z, hz⟩ : ∃ z : Nat, s (39 + 4 * i + 1) = z := ⟨(s (39 + 4 * i + 1)).toNat, by omega⟩
      have he : z_eg s x z (s (39 + 4 * i + 2)) := ⟨i, hi2, co, rfl, Or.inl ⟨hx, hz⟩⟩
      obtain ⟨vA, sA, sA1, sA2⟩ := z_Gsh (v := v) (F := F) p2 (fun k hk => (p3 k hk).1) (a := x) (x := z) (w := s (39 + 4 * i + 2)) (by omega) (by omega) w1
      have l1 := z_rx_lo hh hT hy he p3
      obtain ⟨vB, sB, sB1, sB2⟩ := z_Gsh (v := vA) (F := z_rx F x z (s (39 + 4 * i + 2))) sA2 (fun k hk => (l1 k hk).1) (a := z) (x := x) (w := s (39 + 4 * i + 2)) (by omega) (by omega) w1
      have l2 := z_rx_lo hh hT hy (z_egs he) l1
      have m1 := z_rx_md (F0 := F0) (F := F) (m := m) (a := x) (x := z) (w := s (39 + 4 * i + 2)) (by omega) p4
      have m2 := z_rx_md (F0 := F0) (a := z) (x := x) (w := s (39 + 4 * i + 2)) (by omega) m1
      refine ⟨(zV vB, zI _), ⟨vB, z_rx (z_rx F x z (s (39 + 4 * i + 2))) z x (s (39 + 4 * i + 2)), _, rfl, fun k hk => by rw [sB1 k hk, sA1 k hk, p1 k hk], sB2, l2, m2, ?_⟩, ?_⟩
      · intro k hk ko p q hpq
        by_cases ek : k = i
        · subst ek
          have d1 : z_rx (z_rx F x z (s (39 + 4 * k + 2))) z x (s (39 + 4 * k + 2)) z ≤ F x + s (39 + 4 * k + 2) := Int.le_trans z_rx_le2 z_rx_le
          have d2 : z_rx (z_rx F x z (s (39 + 4 * k + 2))) z x (s (39 + 4 * k + 2)) x ≤ F z + s (39 + 4 * k + 2) := by
            have u1 := z_rx_le (F := z_rx F x z (s (39 + 4 * k + 2))) (a := z) (x := x) (w := s (39 + 4 * k + 2))
            have u2 := z_rx_le2 (F := F) (a := x) (x := z) (k := z) (w := s (39 + 4 * k + 2))
            omega
          have d3 := p4.1 x (by omega)
          have d4 := p4.1 z (by omega)
          rcases hpq with ⟨e1, e2⟩ | ⟨e1, e2⟩
          · obtain rfl : p = x := by omega
            obtain rfl : q = z := by omega
            omega
          · obtain rfl : p = z := by omega
            obtain rfl : q = x := by omega
            omega
        · have d := p5 k (by omega) ko p q hpq
          have d2 := z_rx_le2 (F := F) (a := x) (x := z) (k := q) (w := s (39 + 4 * i + 2))
          have d3 := z_rx_le2 (F := z_rx F x z (s (39 + 4 * i + 2))) (a := z) (x := x) (k := q) (w := s (39 + 4 * i + 2))
          omega
      · show l_X10_measure_42 K (N + 1) (zV v) (zI m) (zI i) = _
        have sA1' := sA1 (39 + 4 * i) (by omega)
        have sA1a := sA1 (39 + 4 * i + 1) (by omega)
        have sA1b := sA1 (39 + 4 * i + 2) (by omega)
        rw [l_X10_measure_42]
        simp (disch := omega) only [z_lit, z_n, z_add, z_sub, z_mul, z_neg, z_ltT, z_ltF, z_leT, z_leF, z_eqT, z_eqF, z_v, z_upd, z_ue, z_un, z_ixn, z_ixo, z_ix0, z_ix1, z_ix2, z_ix3, z_ix4, z_ix5, z_ix6, Int.reduceToNat, z_inr, z_gd, z_bnd, z_jn, z_bdc, z_bd2, z_opn, z_ops, z_z01, if_true, if_false, Bool.false_eq_true, z_ofK, v2, q2, c0, c1, c2, c3, co, Nat.add_zero, hx, hz, sA, sA1', sA1a, sA1b, sB]
        cases decide (F x + s (39 + 4 * i + 2) < F z) <;> cases decide (z_rx F x z (s (39 + 4 * i + 2)) z + s (39 + 4 * i + 2) < z_rx F x z (s (39 + 4 * i + 2)) x) <;> rcases mb with rfl | rfl <;> simp only [z_Bt, z_Bf, z_i1, z_i0] <;> rfl
    · refine ⟨(zV v, zI m), ⟨v, F, m, rfl, p1, p2, p3, p4, fun k hk ko p q hpq => ?_⟩, ?_⟩
      · by_cases ek : k = i
        · subst ek
          exact absurd ko co
        · exact p5 k (by omega) ko p q hpq
      · have bo := ho i (by omega)
        unfold z_bo at bo
        show l_X10_measure_42 K (N + 1) (zV v) (zI m) (zI i) = _
        rw [l_X10_measure_42]
        simp (disch := omega) only [z_lit, z_n, z_add, z_sub, z_mul, z_neg, z_ltT, z_ltF, z_leT, z_leF, z_eqT, z_eqF, z_v, z_upd, z_ue, z_un, z_ixn, z_ixo, z_ix0, z_ix1, z_ix2, z_ix3, z_ix4, z_ix5, z_ix6, Int.reduceToNat, z_inr, z_gd, z_bnd, z_jn, z_bdc, z_bd2, z_opn, z_ops, z_z01, if_true, if_false, Bool.false_eq_true, z_ofK, v2, q2, c0, c1, c2, c3, Nat.add_zero]
  · refine ⟨a, hp, ?_⟩
    obtain ⟨v, F, m, rfl, p1, p2, p3, p4, p5⟩ := hp
    have v2 := p1 2 (by omega)
    show l_X10_measure_42 K (N + 1) (zV v) (zI m) (zI ((s 2).toNat : Int)) = _
    rw [l_X10_measure_42]
    simp (disch := omega) only [z_lit, z_n, z_add, z_sub, z_mul, z_neg, z_ltT, z_ltF, z_leT, z_leF, z_eqT, z_eqF, z_v, z_upd, z_ue, z_un, z_ixn, z_ixo, z_ix0, z_ix1, z_ix2, z_ix3, z_ix4, z_ix5, z_ix6, Int.reduceToNat, z_inr, z_gd, z_bnd, z_jn, z_bdc, z_bd2, z_opn, z_ops, z_z01, if_true, if_false, Bool.false_eq_true, v2, q2]
  · exact ⟨v, F0, 0, rfl, hv, hv2, hF, ⟨fun k hk => Int.le_refl _, Or.inl ⟨rfl, fun k hk => rfl⟩⟩, fun k hk => absurd hk (by omega)⟩
end Tab
