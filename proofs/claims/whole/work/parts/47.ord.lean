/-! the order in which waiting parcels are considered -/
theorem z_ct_up {p q : Nat → Bool} {w : Nat} : ∀ d i, i ≤ w → w < i + d → (∀ j, i ≤ j → j < i + d → j ≠ w → q j = p j) → p w = false → q w = true → z_ct q i d = z_ct p i d + 1
  | 0, i, h1, h2, _, _, _ => absurd h2 (by omega)
  | d + 1, i, h1, h2, h, hp, hq => by
    unfold z_ct
    by_cases e : i = w
    · subst e
      rw [hp, hq, z_ct_c d (i + 1) (fun j h1 h2 => h j (by omega) (by omega) (by omega))]
      simp only [if_true, if_false, Bool.false_eq_true]
      omega
    · rw [h i (by omega) (by omega) e, z_ct_up d (i + 1) (by omega) (by omega) (fun j h1 h2 => h j (by omega) (by omega)) hp hq]
      omega
theorem z_ct_ne {p q : Nat → Bool} : ∀ d i, z_ct p i d < z_ct q i d → ∃ j, i ≤ j ∧ j < i + d ∧ p j = false ∧ q j = true
  | 0, i, h => absurd h (by unfold z_ct; omega)
  | d + 1, i, h => by
    unfold z_ct at h
    by_cases e : p i = false ∧ q i = true
    · exact ⟨i, by omega, by omega, e.1, e.2⟩
    · have : z_ct p (i + 1) d < z_ct q (i + 1) d := by
        cases hp : p i <;> cases hq : q i <;> rw [hp, hq] at h e <;> simp at h e <;> omega
      obtain ⟨j, j1, j2, j3⟩ := z_ct_ne d (i + 1) this
      exact ⟨j, by omega, by omega, j3⟩
section Ord
variable {b : Int} {s g : Nat → Int}
def z_np (s : Nat → Int) : Nat := (s 4).toNat
/-- how many of those that wait at x are considered before k -/
def z_ac (s : Nat → Int) (x : Int) (k : Nat) : Int := z_ct (fun j => z_wt s x j && z_bf s j k) 0 (z_np s)
def z_co (s : Nat → Int) (x : Int) (n : Int) : Option Nat := z_ff (fun k => z_wt s x k && decide (z_ac s x k = n)) 0 (z_np s)
theorem z_Gco (h : z_inv b s) (r : z_rel s g) {x n : Int} (hx : zR x) (hn : zR n) : f_X10_considered (zV g) (zI x) (zI n) = some (zI (z_oi (z_co s x n))) := by
  obtain ⟨⟨h0, h1, h2, h3, h4⟩, -⟩ := id h
  have r04 := r.1 4 (by omega)
  unfold f_X10_considered
  have e := z_fnd (l := l_X10_considered_2 (zV g) (zI x) (zI n)) (H := fun k => some (zI (k : Int))) (E := some (zI (-1))) (n := z_np s) (p := fun k => z_wt s x k && decide (z_ac s x k = n)) (fun N i hi => ?_) (fun N => ?_) (z_np s) 0 FU (by omega) (by unfold FU z_np; omega)
  · rw [z_lit 0]
    refine e.trans ?_
    unfold z_co
    cases z_ff (fun k => z_wt s x k && decide (z_ac s x k = n)) 0 (z_np s) <;> rfl
  · unfold z_np at hi
    have hi2 : (i : Int) < s 4 := by omega
    rw [l_X10_considered_2]
    simp (disch := omega) only [z_lit, z_n, z_add, z_sub, z_mul, z_neg, z_ltT, z_ltF, z_leT, z_leF, z_eqT, z_eqF, z_v, z_upd, z_ue, z_un, z_ixn, z_ixo, z_ix0, z_ix1, z_ix2, z_ix3, z_ix4, z_ix5, z_ix6, Int.reduceToNat, z_inr, z_gd, z_bnd, z_jn, z_bdc, z_bd2, z_opn, z_ops, z_z01, if_true, if_false, Bool.false_eq_true, r04]
    have c := z_cnt (l := l_X10_considered_15 (zV g) (zI x) (zI n) (zI i) (fun x10 => bdc (f_X10_waitsAt (zV g) (zI i) (zI x)) fun v11 => if v11 = zI 0 then l_X10_considered_2 (zV g) (zI x) (zI n) N (zI ((i : Int) + 1)) else if x10 = zI n then some (zI i) else l_X10_considered_2 (zV g) (zI x) (zI n) N (zI ((i : Int) + 1)))) (K := fun y => bdc (f_X10_waitsAt (zV g) (zI i) (zI x)) fun v11 => if v11 = zI 0 then l_X10_considered_2 (zV g) (zI x) (zI n) N (zI ((i : Int) + 1)) else if zI y = zI n then some (zI i) else l_X10_considered_2 (zV g) (zI x) (zI n) N (zI ((i : Int) + 1))) (n := z_np s) (p := fun j => z_wt s x j && z_bf s j i) (fun N y j hj => ?_) (fun N y => ?_) (z_np s) 0 FU 0 (by omega) (by unfold FU z_np; omega)
    · refine c.trans ?_
      rw [Int.zero_add, z_Gwt h r hi2 hx, z_bdc]
      have ab := z_ct_b (p := fun j => z_wt s x j && z_bf s j i) (z_np s) 0
      have ab2 : z_np s ≤ 12 := by unfold z_np; omega
      show (if _ then _ else if zI (z_ac s x i) = zI n then _ else _) = _
      have ab3 : 0 ≤ z_ac s x i ∧ z_ac s x i ≤ 12 := by unfold z_ac; omega
      unfold zR at hn
      cases z_wt s x i with
      | false => simp (disch := omega) only [z_lit, z_n, z_add, z_sub, z_mul, z_neg, z_ltT, z_ltF, z_leT, z_leF, z_eqT, z_eqF, z_v, z_upd, z_ue, z_un, z_ixn, z_ixo, z_ix0, z_ix1, z_ix2, z_ix3, z_ix4, z_ix5, z_ix6, Int.reduceToNat, z_inr, z_gd, z_bnd, z_jn, z_bdc, z_bd2, z_opn, z_ops, z_z01, if_true, if_false, Bool.false_eq_true, z_Bf, Bool.false_and]
      | true =>
        by_cases q : z_ac s x i = n
        · rw [decide_eq_true q]
          simp (disch := omega) only [z_lit, z_n, z_add, z_sub, z_mul, z_neg, z_ltT, z_ltF, z_leT, z_leF, z_eqT, z_eqF, z_v, z_upd, z_ue, z_un, z_ixn, z_ixo, z_ix0, z_ix1, z_ix2, z_ix3, z_ix4, z_ix5, z_ix6, Int.reduceToNat, z_inr, z_gd, z_bnd, z_jn, z_bdc, z_bd2, z_opn, z_ops, z_z01, if_true, if_false, Bool.false_eq_true, z_Bt, z_i1, q, Bool.true_and]
        · rw [decide_eq_false q]
          simp (disch := omega) only [z_lit, z_n, z_add, z_sub, z_mul, z_neg, z_ltT, z_ltF, z_leT, z_leF, z_eqT, z_eqF, z_v, z_upd, z_ue, z_un, z_ixn, z_ixo, z_ix0, z_ix1, z_ix2, z_ix3, z_ix4, z_ix5, z_ix6, Int.reduceToNat, z_inr, z_gd, z_bnd, z_jn, z_bdc, z_bd2, z_opn, z_ops, z_z01, if_true, if_false, Bool.false_eq_true, z_Bt, z_i1, Bool.true_and]
    · unfold z_np at hj
      rw [l_X10_considered_15]
      simp (disch := omega) only [z_lit, z_n, z_add, z_sub, z_mul, z_neg, z_ltT, z_ltF, z_leT, z_leF, z_eqT, z_eqF, z_v, z_upd, z_ue, z_un, z_ixn, z_ixo, z_ix0, z_ix1, z_ix2, z_ix3, z_ix4, z_ix5, z_ix6, Int.reduceToNat, z_inr, z_gd, z_bnd, z_jn, z_bdc, z_bd2, z_opn, z_ops, z_z01, if_true, if_false, Bool.false_eq_true, r04, z_Gwt h r (show (j : Int) < s 4 by omega) hx, z_Gbf h r (show (j : Int) < s 4 by omega) hi2]
      cases z_wt s x j <;> cases z_bf s j i <;> simp (disch := omega) only [z_lit, z_n, z_add, z_sub, z_mul, z_neg, z_ltT, z_ltF, z_leT, z_leF, z_eqT, z_eqF, z_v, z_upd, z_ue, z_un, z_ixn, z_ixo, z_ix0, z_ix1, z_ix2, z_ix3, z_ix4, z_ix5, z_ix6, Int.reduceToNat, z_inr, z_gd, z_bnd, z_jn, z_bdc, z_bd2, z_opn, z_ops, z_z01, if_true, if_false, Bool.false_eq_true, z_Bt, z_Bf, z_i1, z_i0, Int.add_zero, Bool.false_and, Bool.true_and]
    · unfold z_np
      rw [l_X10_considered_15]
      simp (disch := omega) only [z_lit, z_n, z_add, z_sub, z_mul, z_neg, z_ltT, z_ltF, z_leT, z_leF, z_eqT, z_eqF, z_v, z_upd, z_ue, z_un, z_ixn, z_ixo, z_ix0, z_ix1, z_ix2, z_ix3, z_ix4, z_ix5, z_ix6, Int.reduceToNat, z_inr, z_gd, z_bnd, z_jn, z_bdc, z_bd2, z_opn, z_ops, z_z01, if_true, if_false, Bool.false_eq_true, r04]
  · unfold z_np
    rw [l_X10_considered_2]
    simp (disch := omega) only [z_lit, z_n, z_add, z_sub, z_mul, z_neg, z_ltT, z_ltF, z_leT, z_leF, z_eqT, z_eqF, z_v, z_upd, z_ue, z_un, z_ixn, z_ixo, z_ix0, z_ix1, z_ix2, z_ix3, z_ix4, z_ix5, z_ix6, Int.reduceToNat, z_inr, z_gd, z_bnd, z_jn, z_bdc, z_bd2, z_opn, z_ops, z_z01, if_true, if_false, Bool.false_eq_true, r04]
/-- the order as numbers -/
def z_ky (s : Nat → Int) (j : Nat) : Int := j - 16 * s (143 + 9 * j + 2)
theorem z_bf_ky (h : z_inv b s) {i j : Nat} (hi : (i : Int) < s 4) (hj : (j : Int) < s 4) : z_bf s i j = decide (z_ky s i < z_ky s j) := by
  have h4 := h.1.2.2.2.2
  unfold z_bf z_ky
  by_cases c : s (143 + 9 * j + 2) < s (143 + 9 * i + 2) ∨ (s (143 + 9 * i + 2) = s (143 + 9 * j + 2) ∧ i < j)
  · rw [decide_eq_true c, decide_eq_true (by omega)]
  · rw [decide_eq_false c, decide_eq_false (by omega)]
theorem z_ky_inj (h : z_inv b s) {i j : Nat} (hi : (i : Int) < s 4) (hj : (j : Int) < s 4) (e : z_ky s i = z_ky s j) : i = j := by
  have h4 := h.1.2.2.2.2
  unfold z_ky at e
  omega
def z_fk (s : Nat → Int) (x v : Int) : Int := z_ct (fun j => z_wt s x j && decide (z_ky s j < v)) 0 (z_np s)
theorem z_ac_fk (h : z_inv b s) {x : Int} {k : Nat} (hk : (k : Int) < s 4) : z_ac s x k = z_fk s x (z_ky s k) := by
  unfold z_ac z_fk
  refine z_ct_c _ _ (fun j _ hj => ?_)
  unfold z_np at hj
  rw [z_bf_ky h (by omega) hk]
theorem z_ac_lt (h : z_inv b s) {x : Int} {i k : Nat} (hi : (i : Int) < s 4) (hk : (k : Int) < s 4) (hw : z_wt s x i = true) (hb : z_bf s i k = true) : z_ac s x i < z_ac s x k := by
  have hb2 : z_ky s i < z_ky s k := by
    rw [z_bf_ky h hi hk] at hb
    exact of_decide_eq_true hb
  rw [z_ac_fk h hi, z_ac_fk h hk]
  unfold z_fk
  have e := z_ct_lt (p := fun j => z_wt s x j && decide (z_ky s j < z_ky s i)) (q := fun j => z_wt s x j && decide (z_ky s j < z_ky s k)) (z_np s) 0 (fun j _ hj hp => ?_) ⟨i, by omega, by unfold z_np; omega, ?_, ?_⟩
  · omega
  · rw [Bool.and_eq_true] at hp ⊢
    exact ⟨hp.1, decide_eq_true (by have := of_decide_eq_true hp.2; omega)⟩
  · rw [hw, Bool.true_and]
    exact decide_eq_false (by omega)
  · rw [hw, Bool.true_and]
    exact decide_eq_true hb2
theorem z_bf_tot (h : z_inv b s) {i k : Nat} (hi : (i : Int) < s 4) (hk : (k : Int) < s 4) (hne : i ≠ k) : z_bf s i k = true ∨ z_bf s k i = true := by
  have e : z_ky s i ≠ z_ky s k := fun q => hne (z_ky_inj h hi hk q)
  rw [z_bf_ky h hi hk, z_bf_ky h hk hi]
  rcases Int.lt_or_gt_of_ne e with q | q
  · exact Or.inl (decide_eq_true q)
  · exact Or.inr (decide_eq_true q)
theorem z_bf_tr (h : z_inv b s) {i j k : Nat} (hi : (i : Int) < s 4) (hj : (j : Int) < s 4) (hk : (k : Int) < s 4) (h1 : z_bf s i j = true) (h2 : z_bf s j k = true) : z_bf s i k = true := by
  rw [z_bf_ky h hi hj] at h1
  rw [z_bf_ky h hj hk] at h2
  rw [z_bf_ky h hi hk]
  have := of_decide_eq_true h1
  have := of_decide_eq_true h2
  exact decide_eq_true (by omega)
theorem z_ac_inj (h : z_inv b s) {x : Int} {i k : Nat} (hi : (i : Int) < s 4) (hk : (k : Int) < s 4) (hw : z_wt s x i = true) (hw2 : z_wt s x k = true) (e : z_ac s x i = z_ac s x k) : i = k := by
  by_cases c : i = k
  · exact c
  · rcases z_bf_tot h hi hk c with q | q
    · have := z_ac_lt h hi hk hw q
      omega
    · have := z_ac_lt h hk hi hw2 q
      omega
theorem z_fk_s (h : z_inv b s) {x v : Int} : z_fk s x (v + 1) ≤ z_fk s x v + 1 := by
  by_cases c : ∃ j : Nat, (j : Int) < s 4 ∧ z_ky s j = v ∧ z_wt s x j = true
  · obtain ⟨j, j1, j2, j3⟩ := c
    unfold z_fk
    rw [z_ct_up (p := fun j => z_wt s x j && decide (z_ky s j < v)) (q := fun j => z_wt s x j && decide (z_ky s j < v + 1)) (w := j) (z_np s) 0 (by omega) (by unfold z_np; omega) (fun k _ hk hne => ?_) (by rw [j3, j2, Bool.true_and]; exact decide_eq_false (by omega)) (by rw [j3, j2, Bool.true_and]; exact decide_eq_true (by omega))]
    · exact Int.le_refl _
    · unfold z_np at hk
      have : z_ky s k ≠ v := fun q => hne (z_ky_inj h (by omega) j1 (by omega))
      congr 1
      by_cases q : z_ky s k < v
      · rw [decide_eq_true q, decide_eq_true (by omega)]
      · rw [decide_eq_false q, decide_eq_false (by omega)]
  · have e : z_fk s x (v + 1) = z_fk s x v := by
      unfold z_fk
      refine z_ct_c _ _ (fun k _ hk => ?_)
      unfold z_np at hk
      cases hw : z_wt s x k with
      | false => rfl
      | true =>
        have : z_ky s k ≠ v := fun q => c ⟨k, by omega, q, hw⟩
        by_cases q : z_ky s k < v
        · rw [decide_eq_true q, decide_eq_true (by omega)]
        · rw [decide_eq_false q, decide_eq_false (by omega)]
    omega
theorem z_fk_iv (h : z_inv b s) {x m : Int} (hm : 0 ≤ m) : ∀ n : Nat, m + 1 ≤ z_fk s x (-200 + n) → ∃ v, z_fk s x v = m ∧ z_fk s x (v + 1) = m + 1
  | 0, hn => by
    exfalso
    have : z_fk s x (-200) = 0 := by
      unfold z_fk
      rw [z_ct_c (q := fun _ => false) _ _ (fun j _ hj => ?_)]
      · have : ∀ d i, z_ct (fun _ => false) i d = 0 := by
          intro d
          induction d with
          | zero => intro i; rfl
          | succ d ih =>
            intro i
            unfold z_ct
            rw [ih]
            rfl
        exact this _ _
      · unfold z_np at hj
        have := (h.2.2.2.2.2.1 j (by omega)).2.2.1
        rw [show decide (z_ky s j < -200) = false from decide_eq_false (by unfold z_ky; omega), Bool.and_false]
    rw [show (-200 + ((0 : Nat) : Int)) = -200 from rfl] at hn
    omega
  | n + 1, hn => by
    by_cases c : m + 1 ≤ z_fk s x (-200 + n)
    · exact z_fk_iv h hm n c
    · have e := z_fk_s h (x := x) (v := -200 + n)
      rw [show (-200 + ((n + 1 : Nat) : Int)) = -200 + n + 1 by omega] at hn
      exact ⟨-200 + n, by omega, by omega⟩
/-- where none has n before it, none has more -/
theorem z_co_n (h : z_inv b s) {x n : Int} (hn : 0 ≤ n) (hc : z_co s x n = none) {k : Nat} (hk : (k : Int) < s 4) (hw : z_wt s x k = true) : z_ac s x k < n := by
  have none_n : ∀ j : Nat, (j : Int) < s 4 → z_wt s x j = true → z_ac s x j ≠ n := fun j hj hw q => by
    have := z_ff_n _ _ hc j (by omega) (by unfold z_np; omega)
    rw [hw, Bool.true_and] at this
    exact (of_decide_eq_false this) q
  by_cases c : z_ac s x k < n
  · exact c
  · exfalso
    have e := none_n k hk hw
    have hr := (h.2.2.2.2.2.1 k hk).2.2.1
    have h4 := h.1.2.2.2.2
    obtain ⟨v, v1, v2⟩ := z_fk_iv h (x := x) hn (z_ky s k + 200).toNat (by
      rw [show (-200 + (((z_ky s k + 200).toNat : Nat) : Int)) = z_ky s k by unfold z_ky; omega, ← z_ac_fk h hk]
      omega)
    obtain ⟨j, j1, j2, j3, j4⟩ := z_ct_ne (p := fun j => z_wt s x j && decide (z_ky s j < v)) (q := fun j => z_wt s x j && decide (z_ky s j < v + 1)) (z_np s) 0 (by
      show z_fk s x v < z_fk s x (v + 1)
      omega)
    rw [Bool.and_eq_true] at j4
    rw [j4.1, Bool.true_and] at j3
    have d1 := of_decide_eq_true j4.2
    have d2 := of_decide_eq_false j3
    have jn : (j : Int) < s 4 := by unfold z_np at j2; omega
    refine none_n j jn j4.1 ?_
    rw [z_ac_fk h jn, show z_ky s j = v by omega]
    exact v1
end Ord
