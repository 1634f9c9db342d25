section Kwd
variable {W W' V V' : Nat → Nat → Int32} {T : Nat → Int} {n r p q : Nat} {kd : Int} {s g : Nat → Int} {b : Int}
def y_fs (s : Nat → Int) (v : Int) : Option Nat := z_ff (fun i => decide (s (7 + 4 * i) = v)) 0 (s 1).toNat
theorem y_Cfs (h : z_inv b s) (hn : ∀ i : Nat, (i : Int) < s 1 → 0 ≤ s (7 + 4 * i) ∧ s (7 + 4 * i) < 2147483648) {v : Int} (hv : zR v) : f_X4_findStation (zV s) (zI v) = some (zI (z_oi (y_fs s v))) := by
  obtain ⟨c0, c1, c2, c3, c4⟩ := h.1
  unfold zR at hv
  unfold f_X4_findStation
  have e := z_fnd (l := l_X4_findStation_2 (zV s) (zI v)) (H := fun k => some (zI (k : Int))) (E := some (zI (-1))) (n := (s 1).toNat) (p := fun i => decide (s (7 + 4 * i) = v)) (fun N i hi => ?_) (fun N => ?_) (s 1).toNat 0 FU (by omega) (by unfold FU; omega)
  · rw [z_l0, show zI 0 = zI ((0 : Nat) : Int) from rfl, e]
    unfold y_fs
    cases z_ff (fun i => decide (s (7 + 4 * i) = v)) 0 (s 1).toNat <;> rfl
  · have hi' := hn i (by omega)
    rw [l_X4_findStation_2]
    by_cases c : s (7 + 4 * i) = v
    · rw [if_pos (decide_eq_true c)]
      simp (disch := omega) only [z_lit, z_n, z_add, z_sub, z_mul, z_neg, z_lt1, z_lt0, z_le1, z_le0, z_eq1, z_eq0, z_10, ↓reduceIte, z_v, z_upd, z_ue, z_un, z_ixn, z_ixo, z_ix0, z_ix1, z_ix2, z_ix3, z_ix4, z_ix5, z_ix6, Int.reduceToNat, z_inr, z_gd, ↓z_bnd, ↓z_jn, z_bdc, z_bd2, z_opn, z_ops, z_z01, z_Bt, z_Bf]
    · conv => rhs; rw [if_neg (by simp [c])]
      simp (disch := omega) only [z_lit, z_n, z_add, z_sub, z_mul, z_neg, z_lt1, z_lt0, z_le1, z_le0, z_eq1, z_eq0, z_10, ↓reduceIte, z_v, z_upd, z_ue, z_un, z_ixn, z_ixo, z_ix0, z_ix1, z_ix2, z_ix3, z_ix4, z_ix5, z_ix6, Int.reduceToNat, z_inr, z_gd, ↓z_bnd, ↓z_jn, z_bdc, z_bd2, z_opn, z_ops, z_z01, z_Bt, z_Bf]
  · rw [l_X4_findStation_2]
    simp (disch := omega) only [z_lit, z_n, z_add, z_sub, z_mul, z_neg, z_lt1, z_lt0, z_le1, z_le0, z_eq1, z_eq0, z_10, ↓reduceIte, z_v, z_upd, z_ue, z_un, z_ixn, z_ixo, z_ix0, z_ix1, z_ix2, z_ix3, z_ix4, z_ix5, z_ix6, Int.reduceToNat, z_inr, z_gd, ↓z_bnd, ↓z_jn, z_bdc, z_bd2, z_opn, z_ops, z_z01, z_Bt, z_Bf]
theorem y_oi_b {p : Nat → Bool} {m : Nat} : -1 ≤ z_oi (z_ff p 0 m) ∧ z_oi (z_ff p 0 m) < m := by
  cases e : z_ff p 0 m with
  | none => exact ⟨Int.le_refl _, show (-1 : Int) < (m : Int) by omega⟩
  | some k =>
    have := z_ff_s _ _ _ e
    unfold z_oi
    simp only
    omega
theorem y_Gnh (h : z_GT T n V) (h5 : V 30 5 = zI p) (h8 : V 30 8 = zI ((q - p : Nat) : Int)) (hq : q ≤ n) (hp : p ≤ q) (hl : q - p ≤ 4) (hr : ∀ k, p ≤ k → k < q → z_in 97 122 (T k)) : f_X10_nameHere V = some (zI (((y_lt T p q 0 * 27 + y_lt T p q 1) * 27 + y_lt T p q 2) * 27 + y_lt T p q 3)) := by
  have hn := h.2.2.1
  have st : ∀ N (x : Int) (m : Nat), m < 4 → l_X10_nameHere_4 V (N + 1) (zI x) (zI (m : Int)) = l_X10_nameHere_4 V N (zI (x * 27 + y_lt T p q m)) (zI ((m + 1 : Nat) : Int)) := by
    intro N x m hm
    rw [l_X10_nameHere_4, h8, h5, show (4 : Int32) = zI 4 from z_lit 4, show (27 : Int32) = zI 27 from z_lit 27, z_leF (by omega) (by omega) (by omega)]
    unfold y_lt
    by_cases c : p + m < q
    · have e := h.1 (p + m) (by omega)
      rw [if_pos c, z_leF (by omega) (by omega) (by omega), z_add, z_inr (by omega) (by omega) (by omega), z_gd, z_bnd, z_ixo (by omega) (by omega), Int.toNat_natCast, e, show (96 : Int32) = zI 96 from z_lit 96, z_mul, z_sub, z_add, z_l1, z_add]
      rfl
    · rw [if_neg c, z_leT (by omega) (by omega) (by omega), z_bnd, z_l0, z_mul, z_add, z_l1, z_add]
      rfl
  unfold f_X10_nameHere FU
  rw [z_l0, show l_X10_nameHere_4 V 4096 (zI 0) (zI 0) = l_X10_nameHere_4 V (4095 + 1) (zI 0) (zI ((0 : Nat) : Int)) from rfl, st _ _ 0 (by omega), st 4094 _ 1 (by omega), st 4093 _ 2 (by omega), st 4092 _ 3 (by omega), l_X10_nameHere_4, show (4 : Int32) = zI 4 from z_lit 4, z_leT (by omega) (by omega) (by omega), Int.zero_mul, Int.zero_add]
/-- names in the class's table and in the reference's -/
def y_wn (T : Nat → Int) (p q : Nat) : Int := if q - p ≤ 4 then y_pf T p (q - p) else 0
theorem y_Gnd (h : z_GT T n V) (hi : z_inv b s) (hr : z_rel s g) (h22 : ∀ k, k < 251 → V 22 k = zI (g k)) (h5 : V 30 5 = zI p) (h8 : V 30 8 = zI ((q - p : Nat) : Int)) (hw : z_rn T n 97 122 p q) : f_X10_named V = some (zI (z_oi (y_fs s (y_wn T p q)))) := by
  obtain ⟨c0, c1, c2, c3, c4⟩ := hi.1
  have hn := h.2.2.1
  have w1 := hw.1
  have w2' := hw.2.1
  have g1 := h22 1 (by omega)
  rw [hr.1 1 (by omega)] at g1
  obtain ⟨y, e1, e2, e3⟩ : ∃ y : Int, (∀ K : Int32 → Option Int32, (if V 30 8 ≤ (4 : Int32) then bdc (f_X10_nameHere V) K else K (-1 : Int32)) = K (zI y)) ∧ (-1 ≤ y ∧ y < 2147483648) ∧ (∀ i : Nat, (i : Int) < s 1 → (g (7 + 4 * i) = y ↔ s (7 + 4 * i) = y_wn T p q)) := by
    rw [h8, show (4 : Int32) = zI 4 from z_lit 4]
    unfold y_wn
    by_cases c : q - p ≤ 4
    · obtain ⟨l1, l2⟩ := y_wlt hw c
      refine ⟨_, fun K => by rw [z_leT (by omega) (by omega) (by omega), y_Gnh h h5 h8 w2' (by omega) c (fun k a b => hw.2.2.1 k a b), z_bdc], ?_, fun i hi' => ?_⟩
      · obtain ⟨p1, p2, p3, p4, -⟩ := l1
        omega
      · obtain ⟨⟨a, b', c', d, q1, q2, q3⟩, -⟩ := hr.2.1 i hi'
        rw [if_pos c, q2, q3, ← l2]
        exact (y_pk_i q1 l1).symm
    · refine ⟨-1, fun K => by rw [z_leF (by omega) (by omega) (by omega)]; rfl, by omega, fun i hi' => ?_⟩
      obtain ⟨⟨a, b', c', d, q1, q2, q3⟩, -⟩ := hr.2.1 i hi'
      have p1 := y_pk_p q1
      rw [if_neg c, q2, q3]
      obtain ⟨p1', p2, p3, p4, -⟩ := q1
      constructor
      · intro e; omega
      · intro e; omega
  unfold f_X10_named
  rw [z_jn, e1]
  have e := z_fnd (l := l_X10_named_19 V (zI y)) (H := fun k => some (zI (k : Int))) (E := some (zI (-1))) (n := (s 1).toNat) (p := fun i => decide (s (7 + 4 * i) = y_wn T p q)) (fun N i hi' => ?_) (fun N => ?_) (s 1).toNat 0 FU (by omega) (by unfold FU; omega)
  · dsimp only
    rw [z_l0, show zI 0 = zI ((0 : Nat) : Int) from rfl, e]
    unfold y_fs
    cases z_ff (fun i => decide (s (7 + 4 * i) = y_wn T p q)) 0 (s 1).toNat <;> rfl
  · have q1 := e3 i (by omega)
    have gi := h22 (7 + 4 * i) (by omega)
    have gb : 0 ≤ g (7 + 4 * i) ∧ g (7 + 4 * i) < 2147483648 := by
      obtain ⟨⟨a, b', c', d, ⟨p1', p2, p3, p4, -⟩, q2, q3⟩, -⟩ := hr.2.1 i (by omega)
      rw [q3]
      omega
    rw [l_X10_named_19, z_l1]
    rw [z_inr (by omega) (by omega) (by omega), z_gd, z_ix1, g1, z_leF (by omega) (by omega) (by omega), z_ofS, z_bdc, z_l0, z_add, Int.add_zero, z_inr (by omega) (by omega) (by omega), z_gd, z_ixn (by omega), gi]
    by_cases c : g (7 + 4 * i) = y
    · rw [z_eqT c, if_pos (decide_eq_true (q1.1 c))]
    · rw [z_eqF c (by omega) (by omega) (by omega) (by omega), if_neg (by simp only [decide_eq_true_eq]; exact fun f => c (q1.2 f)), z_add]
  · rw [l_X10_named_19, z_l1]
    rw [z_inr (by omega) (by omega) (by omega), z_gd, z_ix1, g1, z_leT (by omega) (by omega) (by omega)]
    rfl
/-- the keywords -/
def y_kw (T : Nat → Int) (p q j : Nat) : Prop := q - p = lenS j ∧ ∀ i, i < lenS j → zI (T (p + i)) = chS j i
theorem y_lens : ∀ j, 1 ≤ j → j ≤ 8 → 1 ≤ lenS j ∧ lenS j ≤ 7 := by
  have : ∀ j : Fin 9, 1 ≤ j.1 → 1 ≤ lenS j.1 ∧ lenS j.1 ≤ 7 := by decide
  exact fun j a b => this ⟨j, by omega⟩ a
theorem y_let : ∀ j i, 1 ≤ j → j ≤ 8 → i < lenS j → ∃ c : Int, chS j i = zI c ∧ 97 ≤ c ∧ c ≤ 122 := by
  have : ∀ j : Fin 9, ∀ i : Fin 8, 1 ≤ j.1 → i.1 < lenS j.1 → chS j.1 i.1 = zI (chS j.1 i.1).toInt ∧ 97 ≤ (chS j.1 i.1).toInt ∧ (chS j.1 i.1).toInt ≤ 122 := by decide
  intro j i a b c
  have l := y_lens j a b
  exact ⟨_, this ⟨j, by omega⟩ ⟨i, by omega⟩ a c⟩
theorem y_kw12 : ¬ (y_kw T p q 1 ∧ y_kw T p q 2) := fun ⟨a, b⟩ => by
  have e : lenS 1 ≠ lenS 2 := by decide
  exact e (a.1.symm.trans b.1)
theorem y_Cit (h : z_CT T n W) (h2 : W 15 2 = zI p) (h3 : W 15 3 = zI q) (hp : p ≤ q) (hq : q ≤ n) {j : Nat} (h1 : 1 ≤ j) (h8 : j ≤ 8) : (y_kw T p q j → f_X6_isText W j = some (zI 1)) ∧ (¬ y_kw T p q j → f_X6_isText W j = some (zI 0)) := by
  have hn := h.2.2.1
  have hl := y_lens j h1 h8
  unfold f_X6_isText
  rw [h2, h3, z_sub, z_n]
  by_cases c : q - p = lenS j
  · rw [z_eqT (by omega)]
    suffices H : ∀ d N m, m + d = lenS j → d < N → ((∀ i, m ≤ i → i < lenS j → zI (T (p + i)) = chS j i) → l_X6_isText_20 W j N (zI (m : Nat)) = some (zI 1)) ∧ (¬ (∀ i, m ≤ i → i < lenS j → zI (T (p + i)) = chS j i) → l_X6_isText_20 W j N (zI (m : Nat)) = some (zI 0)) by
      have e := H (lenS j) FU 0 (by omega) (by unfold FU; omega)
      rw [z_l0, show zI 0 = zI ((0 : Nat) : Int) from rfl]
      exact ⟨fun k => e.1 (fun i _ b => k.2 i b), fun k => e.2 (fun f => k ⟨c, fun i b => f i (by omega) b⟩)⟩
    intro d
    induction d with
    | zero =>
      intro N m hm hN
      obtain ⟨M, rfl⟩ : ∃ M, N = M + 1 := ⟨N - 1, by omega⟩
      rw [l_X6_isText_20, z_n, z_leT (by omega) (by omega) (by omega)]
      exact ⟨fun _ => by rw [z_l1], fun f => absurd (fun i a b => absurd b (by omega)) f⟩
    | succ d ih =>
      intro N m hm hN
      obtain ⟨M, rfl⟩ : ∃ M, N = M + 1 := ⟨N - 1, by omega⟩
      have nx := ih M (m + 1) (by omega) (by omega)
      rw [l_X6_isText_20, z_n, z_leF (by omega) (by omega) (by omega), h2, z_add, show (p : Int) + (m : Int) = ((p + m : Nat) : Int) by omega, z_Cby h (by omega), z_bdc, z_inr (by omega) (by omega) (by omega), z_gd, z_ixn (by omega)]
      by_cases e : zI (T (p + m)) = chS j m
      · rw [if_pos e, z_l1, z_add]
        refine ⟨fun f => nx.1 (fun i a b => f i (by omega) b), fun f => nx.2 (fun f' => f (fun i a b => ?_))⟩
        by_cases e2 : i = m
        · rw [e2]; exact e
        · exact f' i (by omega) b
      · rw [if_neg e]
        exact ⟨fun f => absurd (f m (by omega) (by omega)) e, fun _ => by rw [z_l0]⟩
  · rw [z_eqF (by omega) (by omega) (by omega) (by omega) (by omega)]
    exact ⟨fun k => absurd k.1 c, fun _ => by rw [z_l0]⟩
theorem y_kwk (t : z_tok T n r p q kd) {j : Nat} (h1 : 1 ≤ j) (h8 : j ≤ 8) (hT : ∀ k, 0 ≤ T k ∧ T k ≤ 255) (k : y_kw T p q j) : kd = 1 := by
  have hl := y_lens j h1 h8
  obtain ⟨c, c1, c2, c3⟩ := y_let j 0 h1 h8 (by omega)
  have e := k.2 0 (by omega)
  have hT' := hT p
  rw [c1, Nat.add_zero, z_eq (by unfold zR; omega) (by unfold zR; omega)] at e
  have l := k.1
  rcases t.2.2 with ⟨d1, d2, d3⟩ | ⟨d1, d2, d3⟩
  · omega
  · rcases d3 with ⟨f1, f2⟩ | ⟨f1, f2⟩ | ⟨f1, f2, f3⟩ | ⟨f1, f2, f3, f4, f5⟩
    · exact f1
    · have := f2.2.2.1 p (by omega) f2.1
      unfold z_in at this
      omega
    · omega
    · unfold z_in at f2
      omega
theorem y_Git (h : z_GT T n V) (h5 : V 30 5 = zI p) (h6 : V 30 6 = zI (y_rk kd)) (h8' : V 30 8 = zI (if kd = 1 then ((q - p : Nat) : Int) else 0)) (t : z_tok T n r p q kd) {j : Nat} (h1 : 1 ≤ j) (h8 : j ≤ 8) : (y_kw T p q j → f_X10_is V j = some (zI 1)) ∧ (¬ y_kw T p q j → f_X10_is V j = some (zI 0)) := by
  have hn := h.2.2.1
  have hl := y_lens j h1 h8
  unfold f_X10_is
  rw [h6, show (3 : Int32) = zI 3 from z_lit 3]
  by_cases ck : kd = 1
  · have hw : z_rn T n 97 122 p q := by
      rcases t.2.2 with ⟨d1, d2, d3⟩ | ⟨d1, d2, d3⟩
      · omega
      · rcases d3 with ⟨f1, f2⟩ | ⟨f1, f2⟩ | ⟨f1, f2, f3⟩ | ⟨f1, f2, f3, f4, f5⟩
        · exact f2
        all_goals omega
    have w2 := hw.2.1
    subst ck
    rw [if_pos rfl] at h8'
    rw [show y_rk 1 = 3 from rfl, if_pos rfl, h8', z_n]
    by_cases c : q - p = lenS j
    · rw [z_eqT (by omega)]
      suffices H : ∀ d N m, m + d = lenS j → d < N → ((∀ i, m ≤ i → i < lenS j → zI (T (p + i)) = chS j i) → l_X10_is_23 V j N (zI (m : Nat)) = some (zI 1)) ∧ (¬ (∀ i, m ≤ i → i < lenS j → zI (T (p + i)) = chS j i) → l_X10_is_23 V j N (zI (m : Nat)) = some (zI 0)) by
        have e := H (lenS j) FU 0 (by omega) (by unfold FU; omega)
        rw [z_l0, show zI 0 = zI ((0 : Nat) : Int) from rfl]
        exact ⟨fun k => e.1 (fun i _ b => k.2 i b), fun k => e.2 (fun f => k ⟨c, fun i b => f i (by omega) b⟩)⟩
      intro d
      induction d with
      | zero =>
        intro N m hm hN
        obtain ⟨M, rfl⟩ : ∃ M, N = M + 1 := ⟨N - 1, by omega⟩
        rw [l_X10_is_23, h8', z_leT (by omega) (by omega) (by omega)]
        exact ⟨fun _ => by rw [z_l1], fun f => absurd (fun i a b => absurd b (by omega)) f⟩
      | succ d ih =>
        intro N m hm hN
        obtain ⟨M, rfl⟩ : ∃ M, N = M + 1 := ⟨N - 1, by omega⟩
        have nx := ih M (m + 1) (by omega) (by omega)
        have e0 := h.1 (p + m) (by omega)
        rw [l_X10_is_23, h8', z_leF (by omega) (by omega) (by omega), h5, z_add, show (p : Int) + (m : Int) = ((p + m : Nat) : Int) by omega, z_inr (by omega) (by omega) (by omega), z_gd, z_inr (by omega) (by omega) (by omega), z_gd, z_ixn (by omega), z_ixn (by omega), e0]
        by_cases e : zI (T (p + m)) = chS j m
        · rw [if_pos e, z_l1, z_add]
          refine ⟨fun f => nx.1 (fun i a b => f i (by omega) b), fun f => nx.2 (fun f' => f (fun i a b => ?_))⟩
          by_cases e2 : i = m
          · rw [e2]; exact e
          · exact f' i (by omega) b
        · rw [if_neg e]
          exact ⟨fun f => absurd (f m (by omega) (by omega)) e, fun _ => by rw [z_l0]⟩
    · rw [z_eqF (by omega) (by omega) (by omega) (by omega) (by omega)]
      exact ⟨fun k => absurd k.1 c, fun _ => by rw [z_l0]⟩
  · rw [z_eqF (by unfold y_rk; rw [if_neg ck]; split <;> (try split) <;> omega) (by unfold y_rk; split <;> (try split) <;> (try split) <;> omega) (by unfold y_rk; split <;> (try split) <;> (try split) <;> omega) (by omega) (by omega)]
    exact ⟨fun k => absurd (y_kwk t h1 h8 h.2.1 k) ck, fun _ => by rw [z_l0]⟩
end Kwd
