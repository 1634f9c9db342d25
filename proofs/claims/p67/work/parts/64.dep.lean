/-! departs, arrives -/
def x_stp (s : Nat → Int) (t : Nat) (p : Int) (i : Nat) : Bool := z_dh s t p i || x_fi s t i
section Dep
variable {b : Int} {s s' : Nat → Int} {Y Y' : Nat → Nat → Int32}
theorem x_hNw {u k : Nat} {v : Int32} (h : u ≠ 60) : hN (w2 Y u k v) = hN Y := by
  unfold hN
  rw [z_w2u (Ne.symm h)]
theorem x_hTw {u k : Nat} {v : Int32} (h : u ≠ 60) : hT (w2 Y u k v) = hT Y := by
  unfold hT
  rw [z_w2u (Ne.symm h)]
theorem x_hLw {u k i : Nat} {v : Int32} (h : u ≠ 61) : hL (w2 Y u k v) i = hL Y i := by
  unfold hL
  rw [z_w2u (Ne.symm h)]
theorem x_ba_c (e5 : s' 5 = s 5) (e6 : s' 6 = s 6) (e4 : s' 4 = s 4) (ep : ∀ k, k < z_np s → s' (143 + 9 * k + 4) = s (143 + 9 * k + 4)) (q : x_ba s) : x_ba s' := by
  have np : z_np s' = z_np s := by unfold z_np; rw [e4]
  unfold x_ba at q ⊢
  rw [np, e5, e6, q]
  refine z_ct_c _ _ fun j _ hj => ?_
  unfold x_cq
  rw [ep j (by omega)]
theorem x_J_ft (J : x_J b s) (hi : z_inv b s') {t : Nat} (ht : (t : Int) < s 3) (e : z_ft t s s') : x_J b s' := by
  obtain ⟨c0, c1, c2, c3, c4⟩ := J.1.1
  have f : ∀ k, (k < 7 ∨ (39 ≤ k ∧ k < 87) ∨ 143 ≤ k) → s' k = s k := fun k hk => z_ft_lo e hk (by omega)
  exact ⟨hi, x_un_c (f 2 (by omega)) (by omega) (fun k _ _ => f k (by omega)) J.2.1, x_ba_c (f 5 (by omega)) (f 6 (by omega)) (f 4 (by omega)) (fun k _ => f _ (by omega)) J.2.2⟩
theorem x_rel_ft (h : z_inv b s) (r : x_rel s Y) {t : Nat} (e : z_ft t s s') (ht : (t : Int) < s 3) (eY : ∀ u k, ¬ (8 ≤ u ∧ u ≤ 13 ∧ k = t) → Y' u k = Y u k) (h8 : Y' 8 t = zI (s' (87 + 14 * t + 8))) (h9 : Y' 9 t = zI (2 * s' (87 + 14 * t + 9) - 1)) (h10 : Y' 10 t = zI (s' (87 + 14 * t + 10))) (h11 : Y' 11 t = zI (s' (87 + 14 * t + 11))) (h12 : Y' 12 t = zI (s' (87 + 14 * t + 12))) (h13 : Y' 13 t = zI (s' (87 + 14 * t + 13))) : x_rel s' Y' := by
  obtain ⟨c0, c1, c2, c3, c4⟩ := h.1
  obtain ⟨r0, r1, r2, r3, r4⟩ := r
  have f : ∀ k, (k < 7 ∨ (39 ≤ k ∧ k < 87) ∨ 143 ≤ k) → s' k = s k := fun k hk => z_ft_lo e hk (by omega)
  have f1 : s' 1 = s 1 := f 1 (by omega)
  have f3 : s' 3 = s 3 := f 3 (by omega)
  have f4 : s' 4 = s 4 := f 4 (by omega)
  refine ⟨?_, fun i hi => ?_, fun a c ha hc => ?_, fun t' ht' => ?_, fun i hi j hj => ?_⟩
  · unfold x_r0
    rw [eY 60 _ (by omega), eY 60 _ (by omega), eY 60 _ (by omega), eY 60 _ (by omega), f1, f3, f4, f 0 (by omega)]
    exact r0
  · rw [f1] at hi
    have q1 := (z_ft_st e (i := i) (j := 1) (by omega)).resolve_right (by omega)
    have q2 := (z_ft_st e (i := i) (j := 2) (by omega)).resolve_right (by omega)
    rw [eY 4 _ (by omega), eY 5 _ (by omega), q1, q2]
    exact r1 i hi
  · rw [f1] at ha hc
    obtain ⟨q1, q2⟩ := x_tm_c h (f 2 (by omega)) (fun k _ _ => f k (by omega)) a c
    rw [eY _ _ (by omega), eY _ _ (by omega), q1, q2]
    exact r2 a c ha hc
  · rw [f3] at ht'
    have q := r3 t' ht'
    have tl := (h.2.2.2.2.1 t' ht').2.1
    unfold x_rt at q ⊢
    by_cases c : t' = t
    · subst c
      have g0 : s' (87 + 14 * t') = s (87 + 14 * t') := z_ft_t8 e (k := 0) (by omega)
      have g1 : s' (87 + 14 * t' + 1) = s (87 + 14 * t' + 1) := z_ft_t8 e (k := 1) (by omega)
      rw [eY 61 _ (by omega), eY 7 _ (by omega), g0, g1]
      refine ⟨⟨q.1.1, q.1.2.1, fun j hj => ?_⟩, h8, h9, h10, h11, h12, h13⟩
      have g2 : s' (87 + 14 * t' + 2 + j) = s (87 + 14 * t' + 2 + j) := by have := z_ft_t8 e (k := 2 + j) (by omega); rw [← Nat.add_assoc] at this; exact this
      rw [eY _ _ (by omega), g2]
      exact q.1.2.2 j hj
    · have g : ∀ k, k < 14 → s' (87 + 14 * t' + k) = s (87 + 14 * t' + k) := fun k hk => z_ft_tn e c hk
      have g0 : s' (87 + 14 * t') = s (87 + 14 * t') := g 0 (by omega)
      rw [eY 61 _ (by omega), eY 7 _ (by omega), eY 8 _ (by omega), eY 9 _ (by omega), eY 10 _ (by omega), eY 11 _ (by omega), eY 12 _ (by omega), eY 13 _ (by omega), g0, g 1 (by omega), g 8 (by omega), g 9 (by omega), g 10 (by omega), g 11 (by omega), g 12 (by omega), g 13 (by omega)]
      refine ⟨⟨q.1.1, q.1.2.1, fun j hj => ?_⟩, q.2⟩
      have g2 : s' (87 + 14 * t' + 2 + j) = s (87 + 14 * t' + 2 + j) := by have := g (2 + j) (by omega); rw [← Nat.add_assoc] at this; exact this
      rw [eY _ _ (by omega), g2]
      exact q.1.2.2 j hj
  · rw [f4] at hi
    rw [eY _ _ (by omega), f _ (by omega)]
    exact r4 i hi j hj
theorem x_r2i (r : x_rel s Y) {x y : Int} (hx : 0 ≤ x ∧ x < s 1) (hy : 0 ≤ y ∧ y < s 1) {k : Nat} (hk : z_tk s x y = some k) : Y (16 + x.toNat) y.toNat = zI (s (39 + 4 * k + 2)) ∧ Y (24 + x.toNat) y.toNat = zI (s (39 + 4 * k + 3)) := by
  obtain ⟨q1, q2⟩ := r.2.2.1 x.toNat y.toNat (by omega) (by omega)
  have e : z_tk s (x.toNat : Int) (y.toNat : Int) = some k := by rw [Int.toNat_of_nonneg hx.1, Int.toNat_of_nonneg hy.1, hk]
  unfold x_tm at q1
  unfold x_op at q2
  rw [e] at q1 q2
  exact ⟨q1, q2⟩
theorem x_depart (J : x_J b s) (r : x_rel s Y) {t : Nat} (ht : (t : Int) < s 3) : ∃ s' Y', f_X4_depart (zV s) t = some (zV s') ∧ f_X10_departs Y (zI (t : Int)) = some Y' ∧ x_J b s' ∧ x_rel s' Y' ∧ (∀ k, ¬ (87 + 14 * t + 10 ≤ k ∧ k < 87 + 14 * t + 12) → s' k = s k) := by
  have h := J.1
  obtain ⟨⟨h0, h1, h2, h3, h4⟩, ⟨-, hbo, -⟩, -, hk, hn, -, -⟩ := id h
  obtain ⟨a0, a1, a2, a3, a4, a5, a6⟩ := hn t ht
  have cu := z_cub h ht
  have nx := z_nxb h ht
  obtain ⟨-, x8, x9, x10, x11, x12, x13⟩ := r.2.2.2.1 t ht
  obtain ⟨k, k1, k2⟩ := z_tk_ah h ht
  have hkb := hbo k (by omega)
  obtain ⟨-, -, tm⟩ := hk k k2
  have ct := z_Ctk h (x := z_cu s t) (y := z_nx s t) (by unfold zR; omega) (by unfold zR; omega)
  rw [k1] at ct
  unfold z_oi at ct
  have bo := h.2.1.2.2 t (by omega)
  have hT := x_hT h r
  have hN' := x_hN h r
  have hL' := x_hL h r ht
  obtain ⟨g1, g2⟩ := x_r2i r cu nx k1
  have es := x_sp h r ht a4
  have en := x_sp h r ht a5
  have es : Y (32 + t) (s (87 + 14 * t + 8)).toNat = zI (z_cu s t) := es
  have en : Y (32 + t) (s (87 + 14 * t + 8) + (2 * s (87 + 14 * t + 9) - 1)).toNat = zI (z_nx s t) := en
  by_cases op : s (39 + 4 * k + 3) = 1
  · have e : z_ft t s (zu s (87 + 14 * t + 10) (s (39 + 4 * k + 2))) := z_ft_zu (by omega)
    have iv : z_inv b (zu s (87 + 14 * t + 10) (s (39 + 4 * k + 2))) := by
      refine z_inv_ft h e ht ?_ (fun i hi hi2 => ?_) ?_ ?_ ?_
      · rw [z_un (by omega)]; exact bo
      · rw [z_un (by omega)]
        exact (h.2.2.1 i hi2).2
      · rw [z_un (by omega)]; exact a4
      · rw [z_un (by omega), z_un (by omega)]; exact a5
      · rw [z_ue rfl]; omega
    refine ⟨zu s (87 + 14 * t + 10) (s (39 + 4 * k + 2)), w2 Y 10 t (zI (s (39 + 4 * k + 2))), ?_, ?_, x_J_ft J iv ht e, ?_, ?_⟩
    · unfold f_X4_depart
      simp (disch := omega) only [z_lit, z_n, z_add, z_sub, z_mul, z_neg, z_ltT, z_ltF, z_leT, z_leF, z_eqT, z_eqF, z_v, z_upd, z_ue, z_un, z_ixn, z_ixo, z_ix0, z_ix1, z_ix2, z_ix3, z_ix4, z_ix5, z_ix6, Int.reduceToNat, z_inr, z_gd, z_bnd, z_jn, z_bdc, z_bd2, z_opn, z_ops, z_z01, if_true, if_false, Bool.false_eq_true, z_Ccu h ht, z_Cnx h ht, ct]
    · unfold f_X10_departs
      simp (disch := omega) only [z_lit, z_n, z_add, z_sub, z_mul, z_neg, z_ltT, z_ltF, z_leT, z_leF, z_eqT, z_eqF, z_v, z_upd, z_ue, z_un, z_ixn, z_ixo, z_ix0, z_ix1, z_ix2, z_ix3, z_ix4, z_ix5, z_ix6, Int.reduceToNat, z_inr, z_gd, z_bnd, z_jn, z_bdc, z_bd2, z_opn, z_ops, z_z01, if_true, if_false, Bool.false_eq_true, hT, hL', hN', z_ixz, Int.toNat_natCast, x8, x9, es, en, g1, g2, op]
    · refine x_rel_ft h r e ht (fun u j hu => ?_) ?_ ?_ ?_ ?_ ?_ ?_
      · by_cases c : u = 10
        · subst c
          rw [z_w2k (by omega)]
        · rw [z_w2u c]
      · rw [z_w2u (by omega), z_un (by omega)]; exact x8
      · rw [z_w2u (by omega), z_un (by omega)]; exact x9
      · rw [z_w2e, z_ue rfl]
      · rw [z_w2u (by omega), z_un (by omega)]; exact x11
      · rw [z_w2u (by omega), z_un (by omega)]; exact x12
      · rw [z_w2u (by omega), z_un (by omega)]; exact x13
    · intro j hj
      rw [z_un (by omega)]
  · have op0 : s (39 + 4 * k + 3) = 0 := by
      unfold z_bo at hkb
      omega
    have e : z_ft t s (zu s (87 + 14 * t + 11) (s (87 + 14 * t + 11) + 1)) := z_ft_zu (by omega)
    have iv : z_inv b (zu s (87 + 14 * t + 11) (s (87 + 14 * t + 11) + 1)) := by
      refine z_inv_ft h e ht ?_ (fun i hi hi2 => ?_) ?_ ?_ ?_
      · rw [z_un (by omega)]; exact bo
      · rw [z_un (by omega)]
        exact (h.2.2.1 i hi2).2
      · rw [z_un (by omega)]; exact a4
      · rw [z_un (by omega), z_un (by omega)]; exact a5
      · rw [z_un (by omega)]; omega
    refine ⟨zu s (87 + 14 * t + 11) (s (87 + 14 * t + 11) + 1), w2 Y 11 t (zI (s (87 + 14 * t + 11) + 1)), ?_, ?_, x_J_ft J iv ht e, ?_, ?_⟩
    · unfold f_X4_depart
      simp (disch := omega) only [z_lit, z_n, z_add, z_sub, z_mul, z_neg, z_ltT, z_ltF, z_leT, z_leF, z_eqT, z_eqF, z_v, z_upd, z_ue, z_un, z_ixn, z_ixo, z_ix0, z_ix1, z_ix2, z_ix3, z_ix4, z_ix5, z_ix6, Int.reduceToNat, z_inr, z_gd, z_bnd, z_jn, z_bdc, z_bd2, z_opn, z_ops, z_z01, if_true, if_false, Bool.false_eq_true, z_Ccu h ht, z_Cnx h ht, ct, op0]
    · unfold f_X10_departs
      simp (disch := omega) only [z_lit, z_n, z_add, z_sub, z_mul, z_neg, z_ltT, z_ltF, z_leT, z_leF, z_eqT, z_eqF, z_v, z_upd, z_ue, z_un, z_ixn, z_ixo, z_ix0, z_ix1, z_ix2, z_ix3, z_ix4, z_ix5, z_ix6, Int.reduceToNat, z_inr, z_gd, z_bnd, z_jn, z_bdc, z_bd2, z_opn, z_ops, z_z01, if_true, if_false, Bool.false_eq_true, hT, hL', hN', z_ixz, Int.toNat_natCast, x8, x9, x11, es, en, g1, g2, op0]
    · refine x_rel_ft h r e ht (fun u j hu => ?_) ?_ ?_ ?_ ?_ ?_ ?_
      · by_cases c : u = 11
        · subst c
          rw [z_w2k (by omega)]
        · rw [z_w2u c]
      · rw [z_w2u (by omega), z_un (by omega)]; exact x8
      · rw [z_w2u (by omega), z_un (by omega)]; exact x9
      · rw [z_w2u (by omega), z_un (by omega)]; exact x10
      · rw [z_w2e, z_ue rfl]
      · rw [z_w2u (by omega), z_un (by omega)]; exact x12
      · rw [z_w2u (by omega), z_un (by omega)]; exact x13
    · intro j hj
      rw [z_un (by omega)]
end Dep
