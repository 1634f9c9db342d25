/-! queries with an index; sums -/
section Qrz
variable {W W' : Nat → Nat → Int32} {b : Int} {s g : Nat → Int}
theorem z_Cwb (h : z_inv b s) {i : Nat} (hi : (i : Int) < s 4) : f_X4_countWaitingBefore (zV s) i = some (zI (z_ac s (s (143 + 9 * i + 3)) i)) := by
  obtain ⟨⟨h0, h1, h2, h3, h4⟩, -, -, -, -, hp, -⟩ := id h
  have e := z_cnt (l := l_X4_countWaitingBefore_4 (zV s) i) (K := fun k => some (zI k)) (n := z_np s) (p := fun j => z_wt s (s (143 + 9 * i + 3)) j && z_bf s j i) (fun N y j hj => ?_) (fun N y => ?_) (z_np s) 0 FU 0 (by omega) (by unfold FU z_np; omega)
  · unfold f_X4_countWaitingBefore
    rw [z_l0]
    refine e.trans ?_
    rw [Int.zero_add]
    rfl
  · unfold z_np at hj
    have hj2 : (j : Int) < s 4 := by omega
    obtain ⟨-, -, -, p3, -⟩ := hp j hj2
    obtain ⟨-, -, -, r3, -⟩ := hp i hi
    rw [l_X4_countWaitingBefore_4]
    by_cases c : s (143 + 9 * j + 3) = s (143 + 9 * i + 3)
    · have w : z_wt s (s (143 + 9 * i + 3)) j = true := decide_eq_true c
      simp (disch := omega) only [z_lit, z_n, z_add, z_sub, z_mul, z_neg, z_lt1, z_lt0, z_le1, z_le0, z_eq1, z_eq0, z_10, ↓reduceIte, z_v, z_upd, z_ue, z_un, z_ixn, z_ixo, z_ix0, z_ix1, z_ix2, z_ix3, z_ix4, z_ix5, z_ix6, Int.reduceToNat, z_inr, z_gd, ↓z_bnd, ↓z_jn, z_bdc, z_bd2, z_opn, z_ops, z_z01, z_Bt, z_Bf, z_Cbf h hj2 hi, w, Bool.true_and]
      cases z_bf s j i <;> simp (disch := omega) only [z_lit, z_n, z_add, z_sub, z_mul, z_neg, z_lt1, z_lt0, z_le1, z_le0, z_eq1, z_eq0, z_10, ↓reduceIte, z_v, z_upd, z_ue, z_un, z_ixn, z_ixo, z_ix0, z_ix1, z_ix2, z_ix3, z_ix4, z_ix5, z_ix6, Int.reduceToNat, z_inr, z_gd, ↓z_bnd, ↓z_jn, z_bdc, z_bd2, z_opn, z_ops, z_z01, z_Bt, z_Bf, Int.add_zero, Bool.false_eq_true]
    · have w : z_wt s (s (143 + 9 * i + 3)) j = false := decide_eq_false c
      simp (disch := omega) only [z_lit, z_n, z_add, z_sub, z_mul, z_neg, z_lt1, z_lt0, z_le1, z_le0, z_eq1, z_eq0, z_10, ↓reduceIte, z_v, z_upd, z_ue, z_un, z_ixn, z_ixo, z_ix0, z_ix1, z_ix2, z_ix3, z_ix4, z_ix5, z_ix6, Int.reduceToNat, z_inr, z_gd, ↓z_bnd, ↓z_jn, z_bdc, z_bd2, z_opn, z_ops, z_z01, z_Bt, z_Bf, w, Bool.false_and, Int.add_zero, Bool.false_eq_true]
  · unfold z_np
    rw [l_X4_countWaitingBefore_4]
    simp (disch := omega) only [z_lit, z_n, z_add, z_sub, z_mul, z_neg, z_lt1, z_lt0, z_le1, z_le0, z_eq1, z_eq0, z_10, ↓reduceIte, z_v, z_upd, z_ue, z_un, z_ixn, z_ixo, z_ix0, z_ix1, z_ix2, z_ix3, z_ix4, z_ix5, z_ix6, Int.reduceToNat, z_inr, z_gd, ↓z_bnd, ↓z_jn, z_bdc, z_bd2, z_opn, z_ops, z_z01, z_Bt, z_Bf]
theorem z_Cfw (h : z_inv b s) {x n : Int} (hx : zR x) (hn : zR n) : f_X4_findWaiting (zV s) (zI x) (zI n) = some (zI (z_oi (z_co s x n))) := by
  obtain ⟨⟨h0, h1, h2, h3, h4⟩, -, -, -, -, hp, -⟩ := id h
  have e := z_fnd (l := l_X4_findWaiting_2 (zV s) (zI x) (zI n)) (H := fun k => some (zI (k : Int))) (E := some (zI (-1))) (n := z_np s) (p := fun k => z_wt s x k && decide (z_ac s x k = n)) (fun N i hi => ?_) (fun N => ?_) (z_np s) 0 FU (by omega) (by unfold FU z_np; omega)
  · unfold f_X4_findWaiting
    rw [z_l0]
    refine e.trans ?_
    unfold z_co
    cases z_ff (fun k => z_wt s x k && decide (z_ac s x k = n)) 0 (z_np s) <;> rfl
  · have ab := z_ct_b (p := fun j => z_wt s x j && z_bf s j i) (z_np s) 0
    have ab2 : (z_np s : Int) ≤ 12 := by unfold z_np; omega
    have ab3 : 0 ≤ z_ac s x i ∧ z_ac s x i ≤ 12 := by unfold z_ac; omega
    unfold z_np at hi
    have hi2 : (i : Int) < s 4 := by omega
    obtain ⟨-, -, -, p3, -⟩ := hp i hi2
    unfold zR at hx hn
    rw [l_X4_findWaiting_2]
    by_cases c : s (143 + 9 * i + 3) = x
    · have w : z_wt s x i = true := decide_eq_true c
      have cw := z_Cwb h hi2
      rw [c] at cw
      simp (disch := omega) only [z_lit, z_n, z_add, z_sub, z_mul, z_neg, z_lt1, z_lt0, z_le1, z_le0, z_eq1, z_eq0, z_10, ↓reduceIte, z_v, z_upd, z_ue, z_un, z_ixn, z_ixo, z_ix0, z_ix1, z_ix2, z_ix3, z_ix4, z_ix5, z_ix6, Int.reduceToNat, z_inr, z_gd, ↓z_bnd, ↓z_jn, z_bdc, z_bd2, z_opn, z_ops, z_z01, z_Bt, z_Bf, cw, w, Bool.true_and]
      by_cases d : z_ac s x i = n
      · rw [decide_eq_true d]
        simp (disch := omega) only [z_lit, z_n, z_add, z_sub, z_mul, z_neg, z_lt1, z_lt0, z_le1, z_le0, z_eq1, z_eq0, z_10, ↓reduceIte, z_v, z_upd, z_ue, z_un, z_ixn, z_ixo, z_ix0, z_ix1, z_ix2, z_ix3, z_ix4, z_ix5, z_ix6, Int.reduceToNat, z_inr, z_gd, ↓z_bnd, ↓z_jn, z_bdc, z_bd2, z_opn, z_ops, z_z01, z_Bt, z_Bf]
      · rw [decide_eq_false d]
        simp (disch := omega) only [z_lit, z_n, z_add, z_sub, z_mul, z_neg, z_lt1, z_lt0, z_le1, z_le0, z_eq1, z_eq0, z_10, ↓reduceIte, z_v, z_upd, z_ue, z_un, z_ixn, z_ixo, z_ix0, z_ix1, z_ix2, z_ix3, z_ix4, z_ix5, z_ix6, Int.reduceToNat, z_inr, z_gd, ↓z_bnd, ↓z_jn, z_bdc, z_bd2, z_opn, z_ops, z_z01, z_Bt, z_Bf, Bool.false_eq_true]
    · have w : z_wt s x i = false := decide_eq_false c
      simp (disch := omega) only [z_lit, z_n, z_add, z_sub, z_mul, z_neg, z_lt1, z_lt0, z_le1, z_le0, z_eq1, z_eq0, z_10, ↓reduceIte, z_v, z_upd, z_ue, z_un, z_ixn, z_ixo, z_ix0, z_ix1, z_ix2, z_ix3, z_ix4, z_ix5, z_ix6, Int.reduceToNat, z_inr, z_gd, ↓z_bnd, ↓z_jn, z_bdc, z_bd2, z_opn, z_ops, z_z01, z_Bt, z_Bf, w, Bool.false_and, Bool.false_eq_true]
  · unfold z_np
    rw [l_X4_findWaiting_2]
    simp (disch := omega) only [z_lit, z_n, z_add, z_sub, z_mul, z_neg, z_lt1, z_lt0, z_le1, z_le0, z_eq1, z_eq0, z_10, ↓reduceIte, z_v, z_upd, z_ue, z_un, z_ixn, z_ixo, z_ix0, z_ix1, z_ix2, z_ix3, z_ix4, z_ix5, z_ix6, Int.reduceToNat, z_inr, z_gd, ↓z_bnd, ↓z_jn, z_bdc, z_bd2, z_opn, z_ops, z_z01, z_Bt, z_Bf]
/-- an index that is there is found; another one isn't -/
theorem z_co_in (h : z_inv b s) {x n : Int} (hn : 0 ≤ n ∧ n < z_ct (z_wt s x) 0 (s 4).toNat) : ∃ k, z_co s x n = some k := by
  cases e : z_co s x n with
  | some k => exact ⟨k, rfl⟩
  | none =>
    exfalso
    have h4 := h.1.2.2.2.2
    have big : z_fk s x 400 = z_ct (z_wt s x) 0 (s 4).toNat := by
      unfold z_fk z_np
      refine z_ct_c _ _ (fun j _ hj => ?_)
      have := (h.2.2.2.2.2.1 j (by omega)).2.2.1
      rw [decide_eq_true (by unfold z_ky; omega), Bool.and_true]
    obtain ⟨v, v1, v2⟩ := z_fk_iv h (x := x) hn.1 600 (by
      rw [show (-200 + ((600 : Nat) : Int)) = 400 from rfl, big]
      omega)
    obtain ⟨j, j1, j2, j3, j4⟩ := z_ct_ne (p := fun j => z_wt s x j && decide (z_ky s j < v)) (q := fun j => z_wt s x j && decide (z_ky s j < v + 1)) (z_np s) 0 (by
      show z_fk s x v < z_fk s x (v + 1)
      omega)
    rw [Bool.and_eq_true] at j4
    rw [j4.1, Bool.true_and] at j3
    have d1 := of_decide_eq_true j4.2
    have d2 := of_decide_eq_false j3
    have jn : (j : Int) < s 4 := by unfold z_np at j2; omega
    have := z_co_n h hn.1 e jn j4.1
    rw [z_ac_fk h jn, show z_ky s j = v by omega] at this
    omega
theorem z_co_out (h : z_inv b s) {x n : Int} (hn : ¬ (0 ≤ n ∧ n < z_ct (z_wt s x) 0 (s 4).toNat)) : z_co s x n = none := by
  cases e : z_co s x n with
  | none => rfl
  | some k =>
    exfalso
    obtain ⟨-, k1, k2, -⟩ := z_ff_s _ _ _ e
    rw [Bool.and_eq_true] at k2
    have a := of_decide_eq_true k2.2
    have b0 := (z_ct_b (p := fun j => z_wt s x j && z_bf s j k) (z_np s) 0).1
    have e2 := z_ct_lt (p := fun j => z_wt s x j && z_bf s j k) (q := z_wt s x) (z_np s) 0 (fun j _ _ hj => by
      rw [Bool.and_eq_true] at hj
      exact hj.1) ⟨k, by omega, k1, by
        show (z_wt s x k && z_bf s k k) = false
        rw [show z_bf s k k = false from decide_eq_false (by omega), Bool.and_false], k2.1⟩
    unfold z_ac at a
    unfold z_np at *
    exact hn ⟨by omega, by omega⟩
theorem z_m_waitingParcel (h : z_Q b W s g) {a n : Int} (ha : zR a) (hn : zR n) : z_AG (f_L_waitingParcel W (zI a) (zI n)) (fun W1 => f_X10_waitingParcel W1 (zI a) (zI n)) (z_EQ W) := by
  obtain ⟨h0, hg, pi⟩ := id h
  obtain ⟨c0, c1, c2, c3, c4⟩ := pi.1.1
  have cb := z_ct_b (p := z_wt s a) (s 4).toNat 0
  unfold f_L_waitingParcel
  refine z_get2 (v := z_oi (z_co s a n)) (E2 := "java/util/NoSuchElementException") (by decide) (0 ≤ a ∧ a < s 1) (0 ≤ n ∧ n < z_ct (z_wt s a) 0 (s 4).toNat) h ⟨fun v w => ?_, fun v w => ?_, fun v => ?_⟩ (fun W1 h1 => ⟨fun v w => ?_, fun v w => ?_, fun v => ?_⟩)
  · obtain ⟨k, hk⟩ := z_co_in pi.1 (x := a) w
    unfold f_X9_waitingParcel
    rw [z_Cst h0 c1 ha, if_pos v, z_btr, h0, z_Cfw pi.1 ha hn, z_bdc, hk]
    have := (z_ff_s _ _ _ hk).2.1
    unfold z_np at this
    unfold z_oi
    simp (disch := omega) only [z_lit, z_n, z_add, z_sub, z_mul, z_neg, z_lt1, z_lt0, z_le1, z_le0, z_eq1, z_eq0, z_10, ↓reduceIte, z_v, z_upd, z_ue, z_un, z_ixn, z_ixo, z_ix0, z_ix1, z_ix2, z_ix3, z_ix4, z_ix5, z_ix6, Int.reduceToNat, z_inr, z_gd, ↓z_bnd, ↓z_jn, z_bdc, z_bd2, z_opn, z_ops, z_z01, z_Bt, z_Bf]
  · unfold f_X9_waitingParcel
    rw [z_Cst h0 c1 ha, if_pos v, z_btr, h0, z_Cfw pi.1 ha hn, z_bdc, z_co_out pi.1 w]
    rfl
  · unfold f_X9_waitingParcel
    rw [z_Cst h0 c1 ha, if_neg v, z_btl]
  · obtain ⟨g', e1, e2, e3⟩ := z_Q_pk (z_Q_th (c := 0) h1)
    unfold f_X10_waitingParcel
    rw [z_l0, z_Qns h1 ha, z_o0 (by omega), z_bd2, if_pos rfl, e1, z_Gwa pi.1 e3 ha, z_bdc, z_l1, z_sub, z_Go0 hn (by unfold zR; omega) (by unfold zR; omega) z_the (by omega), z_bd2, if_pos rfl, e1, z_Gco pi.1 e3 ha hn, z_bdc]
  · obtain ⟨g', e1, e2, e3⟩ := z_Q_pk (z_Q_th (c := 0) h1)
    unfold f_X10_waitingParcel
    rw [z_l0, z_Qns h1 ha, z_o0 (by omega), z_bd2, if_pos rfl, e1, z_Gwa pi.1 e3 ha, z_bdc, z_l1, z_sub, z_Go1 hn (by unfold zR; omega) (by unfold zR; omega) z_the (by omega), z_thth]
    simp (disch := omega) only [z_lit, z_n, z_add, z_sub, z_mul, z_neg, z_lt1, z_lt0, z_le1, z_le0, z_eq1, z_eq0, z_10, ↓reduceIte, z_v, z_upd, z_ue, z_un, z_ixn, z_ixo, z_ix0, z_ix1, z_ix2, z_ix3, z_ix4, z_ix5, z_ix6, Int.reduceToNat, z_inr, z_gd, ↓z_bnd, ↓z_jn, z_bdc, z_bd2, z_opn, z_ops, z_z01, z_Bt, z_Bf]
  · unfold f_X10_waitingParcel
    rw [z_l0, z_Qns h1 ha, z_o1 (by omega)]
    simp (disch := omega) only [z_lit, z_n, z_add, z_sub, z_mul, z_neg, z_lt1, z_lt0, z_le1, z_le0, z_eq1, z_eq0, z_10, ↓reduceIte, z_v, z_upd, z_ue, z_un, z_ixn, z_ixo, z_ix0, z_ix1, z_ix2, z_ix3, z_ix4, z_ix5, z_ix6, Int.reduceToNat, z_inr, z_gd, ↓z_bnd, ↓z_jn, z_bdc, z_bd2, z_opn, z_ops, z_z01, z_Bt, z_Bf]
theorem z_m_routeStation (h : z_Q b W s g) {a n : Int} (ha : zR a) (hn : zR n) : z_AG (f_L_routeStation W (zI a) (zI n)) (fun W1 => f_X10_routeStation W1 (zI a) (zI n)) (z_EQ W) := by
  obtain ⟨h0, hg, pi⟩ := id h
  obtain ⟨c0, c1, c2, c3, c4⟩ := pi.1.1
  unfold f_L_routeStation
  refine z_get2 (v := z_sp s a.toNat n) (E2 := "java/util/NoSuchElementException") (by decide) (0 ≤ a ∧ a < s 3) (0 ≤ n ∧ n < s (87 + 14 * a.toNat + 1)) h ⟨fun v w => ?_, fun v w => ?_, fun v => ?_⟩ (fun W1 h1 => ⟨fun v w => ?_, fun v w => ?_, fun v => ?_⟩)
  · obtain ⟨t, rfl⟩ : ∃ n : Nat, a = n := ⟨a.toNat, by omega⟩
    rw [Int.toNat_natCast] at w ⊢
    have ht : (t : Int) < s 3 := by omega
    have tl := (pi.1.2.2.2.2.1 t ht).2.1
    have sb := z_spb pi.1 ht w
    unfold f_X9_routeStation f_X8_stationAt
    rw [z_Ctn h0 c3 ha, if_pos v, z_btr, h0]
    simp (disch := omega) only [z_lit, z_n, z_add, z_sub, z_mul, z_neg, z_lt1, z_lt0, z_le1, z_le0, z_eq1, z_eq0, z_10, ↓reduceIte, z_v, z_upd, z_ue, z_un, z_ixn, z_ixo, z_ix0, z_ix1, z_ix2, z_ix3, z_ix4, z_ix5, z_ix6, Int.reduceToNat, z_inr, z_gd, ↓z_bnd, ↓z_jn, z_bdc, z_bd2, z_opn, z_ops, z_z01, z_Bt, z_Bf]
    rw [z_ixz (by omega) (by omega)]
    unfold z_sp at sb ⊢
    simp (disch := omega) only [z_lit, z_n, z_add, z_sub, z_mul, z_neg, z_lt1, z_lt0, z_le1, z_le0, z_eq1, z_eq0, z_10, ↓reduceIte, z_v, z_upd, z_ue, z_un, z_ixn, z_ixo, z_ix0, z_ix1, z_ix2, z_ix3, z_ix4, z_ix5, z_ix6, Int.reduceToNat, z_inr, z_gd, ↓z_bnd, ↓z_jn, z_bdc, z_bd2, z_opn, z_ops, z_z01, z_Bt, z_Bf]
  · obtain ⟨t, rfl⟩ : ∃ n : Nat, a = n := ⟨a.toNat, by omega⟩
    rw [Int.toNat_natCast] at w
    have ht : (t : Int) < s 3 := by omega
    have tl := (pi.1.2.2.2.2.1 t ht).2.1
    unfold zR at hn
    unfold f_X9_routeStation f_X8_stationAt
    rw [z_Ctn h0 c3 ha, if_pos v, z_btr, h0]
    by_cases c : n < 0
    · simp (disch := omega) only [z_lit, z_n, z_add, z_sub, z_mul, z_neg, z_lt1, z_lt0, z_le1, z_le0, z_eq1, z_eq0, z_10, ↓reduceIte, z_v, z_upd, z_ue, z_un, z_ixn, z_ixo, z_ix0, z_ix1, z_ix2, z_ix3, z_ix4, z_ix5, z_ix6, Int.reduceToNat, z_inr, z_gd, ↓z_bnd, ↓z_jn, z_bdc, z_bd2, z_opn, z_ops, z_z01, z_Bt, z_Bf]
      rfl
    · simp (disch := omega) only [z_lit, z_n, z_add, z_sub, z_mul, z_neg, z_lt1, z_lt0, z_le1, z_le0, z_eq1, z_eq0, z_10, ↓reduceIte, z_v, z_upd, z_ue, z_un, z_ixn, z_ixo, z_ix0, z_ix1, z_ix2, z_ix3, z_ix4, z_ix5, z_ix6, Int.reduceToNat, z_inr, z_gd, ↓z_bnd, ↓z_jn, z_bdc, z_bd2, z_opn, z_ops, z_z01, z_Bt, z_Bf]
      rfl
  · unfold f_X9_routeStation
    rw [z_Ctn h0 c3 ha, if_neg v, z_btl]
  · obtain ⟨t, rfl⟩ : ∃ n : Nat, a = n := ⟨a.toNat, by omega⟩
    rw [Int.toNat_natCast] at w ⊢
    have ht : (t : Int) < s 3 := by omega
    have tl := (pi.1.2.2.2.2.1 t ht).2.1
    obtain ⟨g', e1, e2, e3⟩ := z_Q_pk (z_Q_th (c := 0) h1)
    have q1 := h1.2.1 (87 + 14 * t + 1) (by omega)
    rw [(pi.2.1.2.2.2.1 t ht).2.1] at q1
    unfold f_X10_routeStation
    rw [z_l0, z_Qnt h1 ha, z_o0 (by omega)]
    simp (disch := omega) only [z_lit, z_n, z_add, z_sub, z_mul, z_neg, z_lt1, z_lt0, z_le1, z_le0, z_eq1, z_eq0, z_10, ↓reduceIte, z_v, z_upd, z_ue, z_un, z_ixn, z_ixo, z_ix0, z_ix1, z_ix2, z_ix3, z_ix4, z_ix5, z_ix6, Int.reduceToNat, z_inr, z_gd, ↓z_bnd, ↓z_jn, z_bdc, z_bd2, z_opn, z_ops, z_z01, z_Bt, z_Bf, z_ofT, z_thu, q1]
    rw [z_Go0 hn (by unfold zR; omega) (by unfold zR; omega) z_the (by omega), z_bd2, if_pos rfl]
    rw [z_thu (by omega), z_thu (by omega)] at e1
    rw [z_thu (by omega), z_thu (by omega), e1, z_Gsp pi.1 e3 ht w, z_bdc]
  · obtain ⟨t, rfl⟩ : ∃ n : Nat, a = n := ⟨a.toNat, by omega⟩
    rw [Int.toNat_natCast] at w
    have ht : (t : Int) < s 3 := by omega
    have tl := (pi.1.2.2.2.2.1 t ht).2.1
    have q1 := h1.2.1 (87 + 14 * t + 1) (by omega)
    rw [(pi.2.1.2.2.2.1 t ht).2.1] at q1
    unfold f_X10_routeStation
    rw [z_l0, z_Qnt h1 ha, z_o0 (by omega)]
    simp (disch := omega) only [z_lit, z_n, z_add, z_sub, z_mul, z_neg, z_lt1, z_lt0, z_le1, z_le0, z_eq1, z_eq0, z_10, ↓reduceIte, z_v, z_upd, z_ue, z_un, z_ixn, z_ixo, z_ix0, z_ix1, z_ix2, z_ix3, z_ix4, z_ix5, z_ix6, Int.reduceToNat, z_inr, z_gd, ↓z_bnd, ↓z_jn, z_bdc, z_bd2, z_opn, z_ops, z_z01, z_Bt, z_Bf, z_ofT, z_thu, q1]
    rw [z_Go1 hn (by unfold zR; omega) (by unfold zR; omega) z_the (by omega), z_thth]
    simp (disch := omega) only [z_lit, z_n, z_add, z_sub, z_mul, z_neg, z_lt1, z_lt0, z_le1, z_le0, z_eq1, z_eq0, z_10, ↓reduceIte, z_v, z_upd, z_ue, z_un, z_ixn, z_ixo, z_ix0, z_ix1, z_ix2, z_ix3, z_ix4, z_ix5, z_ix6, Int.reduceToNat, z_inr, z_gd, ↓z_bnd, ↓z_jn, z_bdc, z_bd2, z_opn, z_ops, z_z01, z_Bt, z_Bf]
  · unfold f_X10_routeStation
    rw [z_l0, z_Qnt h1 ha, z_o1 (by omega)]
    simp (disch := omega) only [z_lit, z_n, z_add, z_sub, z_mul, z_neg, z_lt1, z_lt0, z_le1, z_le0, z_eq1, z_eq0, z_10, ↓reduceIte, z_v, z_upd, z_ue, z_un, z_ixn, z_ixo, z_ix0, z_ix1, z_ix2, z_ix3, z_ix4, z_ix5, z_ix6, Int.reduceToNat, z_inr, z_gd, ↓z_bnd, ↓z_jn, z_bdc, z_bd2, z_opn, z_ops, z_z01, z_Bt, z_Bf]
end Qrz
