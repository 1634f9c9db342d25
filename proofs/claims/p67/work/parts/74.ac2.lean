/-! priorities, inspections, withdrawing -/
section Ac2
variable {b : Int} {s s' : Nat → Int} {W : Nat → Nat → Int32} {Y Y' : Nat → Nat → Int32}
theorem x_w20 {W1 : Nat → Nat → Int32} {k : Nat} {v : Int} (h : W1 0 = zV s) : w2 W1 0 k (zI v) = setU W1 0 (zV (zu s k v)) := z_w2s h
theorem x_act2 (I : x_LI b W Y s) {x : Int} (hx : 0 ≤ x ∧ x < 2147483648) (hm : x % 16 = 2) : x_out b W Y s x := by
  obtain ⟨h0, J, r, hs, hh⟩ := id I
  have h := J.1
  obtain ⟨c0, c1, c2, c3, c4⟩ := h.1
  have ax := x_ax h0 h hs.1 hx
  have fx := x_fx h r hs.1 hx
  rw [hm] at ax fx
  have zp : 0 ≤ x / 16 / 64 ∧ x / 16 / 64 < 2147483648 := by omega
  have rk : 1 ≤ 1 + x / 16 / 64 % 9 ∧ 1 + x / 16 / 64 % 9 ≤ 9 := by omega
  unfold x_out
  rw [ax]
  unfold x_AB
  rw [if_neg (show ¬ zI 2 = (0 : Int32) by decide), if_neg (show ¬ zI 2 = (1 : Int32) by decide), if_pos (show zI 2 = (2 : Int32) by decide)]
  unfold f_X9_parcelCount
  rw [h0, z_v, z_bdc, z_l0]
  by_cases c : s 4 = 0
  · refine ⟨-9, W, ?_, by omega, Or.inl ⟨rfl, I⟩⟩
    rw [z_eqT c]
    rfl
  · have m1 := x_md (x := x / 16) (y := s 4) (by omega)
    obtain ⟨i, hi⟩ : ∃ i : Nat, x / 16 % s 4 = i := ⟨(x / 16 % s 4).toNat, by omega⟩
    have hil : (i : Int) < s 4 := by omega
    have p2 := (h.2.2.2.2.2.1 i hil).2.2.1
    obtain ⟨W1, e3, e4, e5, -⟩ := x_rem h0 (x_b01 h) hh
    obtain ⟨f1, f2⟩ := x_prio J r hil rk
    have hb9 : ∀ k, k < 5 → zu s (143 + 9 * i + 2) (1 + x / 16 / 64 % 9) k = s k := fun k hk => z_un (by omega)
    refine ⟨s (143 + 9 * i + 2), setU W1 0 (zV (zu s (143 + 9 * i + 2) (1 + x / 16 / 64 % 9))), ?_, by omega, Or.inr ⟨by omega, w2 Y (40 + i) 2 (zI (1 + x / 16 / 64 % 9)), _, ?_, x_li_mk I e5 f1 f2 (hb9 1 (by omega)) (hb9 3 (by omega))⟩⟩
    · rw [z_eqF c (by omega) (by omega) (by omega) (by omega), z_bdc, x_nz0 c (by unfold zR; omega), z_gd, x_mod (by omega) (by omega), hi, show (9 : Int32) = zI 9 from z_lit 9, z_l1, x_mod zp (by omega), z_add]
      unfold f_X9_setPriority
      rw [x_cpl h0 h hil, x_bdt, z_l1, show (9 : Int32) = zI 9 from z_lit 9, x_rng rk (by omega) (by omega), x_bdt, z_inr (by omega) (by omega) (by omega), z_gd, z_ixn (by omega), z_bnd, e3, z_bdc, z_gd, z_bnd, x_w20 e4, x_bt2, h0, z_v]
    · rw [fx]
      unfold x_FB
      rw [show (2 : Int32) = zI 2 from z_lit 2, z_leT (by omega) (by omega) (by omega)]
      unfold x_F1
      rw [show (2 : Int32) = zI 2 from z_lit 2, if_pos rfl, r.1.2.2.1, x_nz0 c (by unfold zR; omega), z_gd, x_mod (by omega) (by omega), hi, z_inr (by omega) (by omega) (by omega), z_gd, z_inr (by omega) (by omega) (by omega), z_gd, z_ixn (by omega), z_ix2, show (9 : Int32) = zI 9 from z_lit 9, z_l1, x_mod zp (by omega), z_add, z_bnd]
      exact x_F2e (by omega)
theorem x_act3 (I : x_LI b W Y s) {x : Int} (hx : 0 ≤ x ∧ x < 2147483648) (hm : x % 16 = 3) : x_out b W Y s x := by
  obtain ⟨h0, J, r, hs, hh⟩ := id I
  have h := J.1
  obtain ⟨c0, c1, c2, c3, c4⟩ := h.1
  have ax := x_ax h0 h hs.1 hx
  have fx := x_fx h r hs.1 hx
  rw [hm] at ax fx
  have m1 := x_md (x := x / 16) (y := s 1) (by omega)
  have zp : 0 ≤ x / 16 / 64 ∧ x / 16 / 64 < 2147483648 := by omega
  have rk : 0 ≤ x / 16 / 64 % 6 ∧ x / 16 / 64 % 6 ≤ 9 := by omega
  obtain ⟨i, hi⟩ : ∃ i : Nat, x / 16 % s 1 = i := ⟨(x / 16 % s 1).toNat, by omega⟩
  have hil : (i : Int) < s 1 := by omega
  have p2 := (h.2.2.1 i hil).1
  obtain ⟨W1, e3, e4, e5, -⟩ := x_rem h0 (x_b01 h) hh
  obtain ⟨f1, f2⟩ := x_in J r hil rk
  have hb9 : ∀ k, k < 5 → zu s (7 + 4 * i + 2) (x / 16 / 64 % 6) k = s k := fun k hk => z_un (by omega)
  unfold x_out
  rw [ax]
  unfold x_AB
  rw [if_neg (show ¬ zI 3 = (0 : Int32) by decide), if_neg (show ¬ zI 3 = (1 : Int32) by decide), if_neg (show ¬ zI 3 = (2 : Int32) by decide), if_pos (show zI 3 = (3 : Int32) by decide)]
  refine ⟨s (7 + 4 * i + 2), setU W1 0 (zV (zu s (7 + 4 * i + 2) (x / 16 / 64 % 6))), ?_, by omega, Or.inr ⟨by omega, w2 Y 5 i (zI (x / 16 / 64 % 6)), _, ?_, x_li_mk I e5 f1 f2 (hb9 1 (by omega)) (hb9 3 (by omega))⟩⟩
  · rw [hi, show (6 : Int32) = zI 6 from z_lit 6, x_mod zp (by omega)]
    unfold f_X9_setInspection
    rw [x_cst h0 h hil, x_bdt, z_l0, show (9 : Int32) = zI 9 from z_lit 9, x_rng rk (by omega) (by omega), x_bdt, z_inr (by omega) (by omega) (by omega), z_gd, z_ixn (by omega), z_bnd, e3, z_bdc, z_gd, z_bnd, x_w20 e4, x_bt2, h0, z_v]
  · have hN' := x_hN h r
    rw [fx, hi]
    unfold x_FB
    rw [show (2 : Int32) = zI 2 from z_lit 2, z_leT (by omega) (by omega) (by omega)]
    unfold x_F1
    rw [show (2 : Int32) = zI 2 from z_lit 2, z_eqF (by omega) (by omega) (by omega) (by omega) (by omega)]
    unfold x_F2
    rw [show (3 : Int32) = zI 3 from z_lit 3, if_pos rfl, hN', z_inr (by omega) (by omega) (by omega), z_gd, z_ixn (by omega), show (6 : Int32) = zI 6 from z_lit 6, x_mod zp (by omega), z_bnd]
    exact x_F3e (by omega)
theorem x_act4 (hb : b ≤ 1000000000) (I : x_LI b W Y s) {x : Int} (hx : 0 ≤ x ∧ x < 2147483648) (hm : x % 16 = 4) : x_out b W Y s x := by
  obtain ⟨h0, J, r, hs, hh⟩ := id I
  have h := J.1
  obtain ⟨c0, c1, c2, c3, c4⟩ := h.1
  have ax := x_ax h0 h hs.1 hx
  have fx := x_fx h r hs.1 hx
  rw [hm] at ax fx
  have zp : 0 ≤ x / 16 / 64 ∧ x / 16 / 64 < 2147483648 := by omega
  unfold x_out
  rw [ax]
  unfold x_AB
  rw [if_neg (show ¬ zI 4 = (0 : Int32) by decide), if_neg (show ¬ zI 4 = (1 : Int32) by decide), if_neg (show ¬ zI 4 = (2 : Int32) by decide), if_neg (show ¬ zI 4 = (3 : Int32) by decide), if_pos (show zI 4 = (4 : Int32) by decide)]
  unfold f_X9_parcelCount
  rw [h0, z_v, z_bdc, z_l0]
  by_cases c : s 4 = 0
  · refine ⟨-9, W, ?_, by omega, Or.inl ⟨rfl, I⟩⟩
    rw [z_eqT c]
    rfl
  by_cases c6 : x / 16 / 64 % 2 = 0
  · refine ⟨-9, W, ?_, by omega, Or.inl ⟨rfl, I⟩⟩
    rw [z_eqF c (by omega) (by omega) (by omega) (by omega), z_l2, x_mod zp (by omega), z_eqT c6]
    rfl
  have m1 := x_md (x := x / 16) (y := s 4) (by omega)
  obtain ⟨i, hi⟩ : ∃ i : Nat, x / 16 % s 4 = i := ⟨(x / 16 % s 4).toNat, by omega⟩
  have hil : (i : Int) < s 4 := by omega
  have pi := h.2.2.2.2.2.1 i hil
  obtain ⟨q0, q1, q2, q3, -, -, -, q8, -⟩ := id pi
  have r3 := r.2.2.2.2 i hil 3 (by omega)
  have r0 : Y (40 + i) 0 = zI (s (143 + 9 * i)) := r.2.2.2.2 i hil 0 (by omega)
  by_cases st : s (143 + 9 * i + 3) = -1
  · refine ⟨-9, W, ?_, by omega, Or.inl ⟨rfl, I⟩⟩
    rw [z_eqF c (by omega) (by omega) (by omega) (by omega), z_l2, x_mod zp (by omega), z_eqF c6 (by omega) (by omega) (by omega) (by omega), z_bdc, x_nz0 c (by unfold zR; omega), z_gd, x_mod (by omega) (by omega), hi]
    unfold f_X9_withdraw
    rw [x_cpl h0 h hil, x_bdt, z_inr (by omega) (by omega) (by omega), z_gd, z_ixn (by omega), h0, z_v, show (-1 : Int32) = zI (-1) from rfl, z_eqT st]
    show (if "java/lang/IllegalStateException" = "java/lang/IllegalStateException" then some ((-9 : Int32), W) else none) = some (zI (-9), W)
    rw [if_pos rfl]
    rfl
  obtain ⟨W1, e3, e4, e5, -⟩ := x_rem h0 (x_b01 h) hh
  have e40 : W1 0 0 = zI (s 0) := by rw [e4, z_v]
  by_cases fr : s (143 + 9 * i + 3) = s (143 + 9 * i)
  · obtain ⟨f1, f2⟩ := x_wdA J r hil st
    obtain ⟨z, hz⟩ : ∃ z, z = zu (zu (zu (zu s (143 + 9 * i + 3) (-1)) (143 + 9 * i + 4) (-1)) (143 + 9 * i + 5) (-1)) (143 + 9 * i + 8) (s 0) := ⟨_, rfl⟩
    have z8 : z (143 + 9 * i + 8) = s 0 := by rw [hz, z_ue rfl]
    have zk : ∀ k, k < 5 → z k = s k := fun k hk => by rw [hz]; simp (disch := omega) only [z_un]
    have dv : f_X2_returnToSender (zV s) i (zI (s 0)) = some (zV z) := by
      unfold f_X2_returnToSender f_X2_deliver
      rw [hz]
      simp (disch := omega) only [z_lit, z_n, z_add, z_sub, z_mul, z_neg, z_ltT, z_ltF, z_leT, z_leF, z_eqT, z_eqF, z_v, z_upd, z_ue, z_un, z_ixn, z_ixo, z_ix0, z_ix1, z_ix2, z_ix3, z_ix4, z_ix5, z_ix6, Int.reduceToNat, z_inr, z_gd, z_bnd, z_jn, z_bdc, z_bd2, z_opn, z_ops, z_z01, if_true, if_false, Bool.false_eq_true]
    have isd : f_X2_isDelivered (zV z) i = some (zI 1) := by
      unfold f_X2_isDelivered
      rw [z_v, z8, show (-1 : Int32) = zI (-1) from rfl, z_eqF (by omega) (by omega) (by omega) (by omega) (by omega)]
      rfl
    rw [← hz] at f1 f2
    refine ⟨-1, setU W1 0 (zV z), ?_, by omega, Or.inr ⟨by omega, _, z, ?_, x_li_mk I e5 f1 f2 (zk 1 (by omega)) (zk 3 (by omega))⟩⟩
    · rw [z_eqF c (by omega) (by omega) (by omega) (by omega), z_l2, x_mod zp (by omega), z_eqF c6 (by omega) (by omega) (by omega) (by omega), z_bdc, x_nz0 c (by unfold zR; omega), z_gd, x_mod (by omega) (by omega), hi]
      unfold f_X9_withdraw
      rw [x_cpl h0 h hil, x_bdt, z_inr (by omega) (by omega) (by omega), z_gd, z_ixn (by omega), h0, z_v, show (-1 : Int32) = zI (-1) from rfl, z_eqF st (by omega) (by omega) (by omega) (by omega), e3, z_bdc, e40, e4, dv, z_bdc, z_bnd, z_sUe, isd, z_bdc, z_l0, z_eqF (by omega) (by omega) (by omega) (by omega) (by omega), x_bt2]
    · rw [fx]
      unfold x_FB
      rw [show (2 : Int32) = zI 2 from z_lit 2, z_leT (by omega) (by omega) (by omega)]
      unfold x_F1
      rw [show (2 : Int32) = zI 2 from z_lit 2, z_eqF (by omega) (by omega) (by omega) (by omega) (by omega)]
      unfold x_F2
      rw [show (3 : Int32) = zI 3 from z_lit 3, z_eqF (by omega) (by omega) (by omega) (by omega) (by omega)]
      unfold x_F3
      rw [z_jn, show (5 : Int32) = zI 5 from z_lit 5, show (6 : Int32) = zI 6 from z_lit 6, z_eqF (by omega) (by omega) (by omega) (by omega) (by omega), z_eqF (by omega) (by omega) (by omega) (by omega) (by omega)]
      unfold x_F4
      have r15 := r.1.2.2.1
      have r16 := r.1.2.2.2
      rw [r15, x_mod (by omega) (by omega), hi, x_nz0 c (by unfold zR; omega)]
      simp (disch := omega) only [z_lit, z_n, z_add, z_sub, z_mul, z_neg, z_ltT, z_ltF, z_leT, z_leF, z_eqT, z_eqF, z_v, z_upd, z_ue, z_un, z_ixn, z_ixo, z_ix0, z_ix1, z_ix2, z_ix3, z_ix4, z_ix5, z_ix6, Int.reduceToNat, z_inr, z_gd, z_bnd, z_jn, z_bdc, z_bd2, z_opn, z_ops, z_z01, if_true, if_false, Bool.false_eq_true, x_ix7, x_ix8, z_w2u, r3, r0, r16]
  · obtain ⟨f1, f2⟩ := x_wdB J r hil st
    obtain ⟨z, hz⟩ : ∃ z, z = zu (zu (zu s (143 + 9 * i + 1) (s (143 + 9 * i))) (143 + 9 * i) (s (143 + 9 * i + 3))) (143 + 9 * i + 7) 0 := ⟨_, rfl⟩
    have z8 : z (143 + 9 * i + 8) = s (143 + 9 * i + 8) := by rw [hz]; simp (disch := omega) only [z_un]
    have z1 : z (143 + 9 * i + 1) = s (143 + 9 * i) := by rw [hz]; simp (disch := omega) only [z_un, z_ue]
    have zk : ∀ k, k < 5 → z k = s k := fun k hk => by rw [hz]; simp (disch := omega) only [z_un]
    have dv : f_X2_returnToSender (zV s) i (zI (s 0)) = some (zV z) := by
      unfold f_X2_returnToSender
      rw [hz]
      simp (disch := omega) only [z_lit, z_n, z_add, z_sub, z_mul, z_neg, z_ltT, z_ltF, z_leT, z_leF, z_eqT, z_eqF, z_v, z_upd, z_ue, z_un, z_ixn, z_ixo, z_ix0, z_ix1, z_ix2, z_ix3, z_ix4, z_ix5, z_ix6, Int.reduceToNat, z_inr, z_gd, z_bnd, z_jn, z_bdc, z_bd2, z_opn, z_ops, z_z01, if_true, if_false, Bool.false_eq_true]
    have s8 : s (143 + 9 * i + 8) = -1 := by
      have := pi.2.2.2.2.2.2.2.2
      omega
    have isd : f_X2_isDelivered (zV z) i = some (zI 0) := by
      unfold f_X2_isDelivered
      rw [z_v, z8, s8, show (-1 : Int32) = zI (-1) from rfl, if_pos rfl, z_l0]
    rw [← hz] at f1 f2
    refine ⟨s (143 + 9 * i), setU W1 0 (zV z), ?_, by omega, Or.inr ⟨by omega, _, z, ?_, x_li_mk I e5 f1 f2 (zk 1 (by omega)) (zk 3 (by omega))⟩⟩
    · rw [z_eqF c (by omega) (by omega) (by omega) (by omega), z_l2, x_mod zp (by omega), z_eqF c6 (by omega) (by omega) (by omega) (by omega), z_bdc, x_nz0 c (by unfold zR; omega), z_gd, x_mod (by omega) (by omega), hi]
      unfold f_X9_withdraw
      rw [x_cpl h0 h hil, x_bdt, z_inr (by omega) (by omega) (by omega), z_gd, z_ixn (by omega), h0, z_v, show (-1 : Int32) = zI (-1) from rfl, z_eqF st (by omega) (by omega) (by omega) (by omega), e3, z_bdc, e40, e4, dv, z_bdc, z_bnd, z_sUe, isd, z_bdc, z_l0, if_pos rfl, x_bt2, z_v, z1]
    · rw [fx]
      unfold x_FB
      rw [show (2 : Int32) = zI 2 from z_lit 2, z_leT (by omega) (by omega) (by omega)]
      unfold x_F1
      rw [show (2 : Int32) = zI 2 from z_lit 2, z_eqF (by omega) (by omega) (by omega) (by omega) (by omega)]
      unfold x_F2
      rw [show (3 : Int32) = zI 3 from z_lit 3, z_eqF (by omega) (by omega) (by omega) (by omega) (by omega)]
      unfold x_F3
      rw [z_jn, show (5 : Int32) = zI 5 from z_lit 5, show (6 : Int32) = zI 6 from z_lit 6, z_eqF (by omega) (by omega) (by omega) (by omega) (by omega), z_eqF (by omega) (by omega) (by omega) (by omega) (by omega)]
      unfold x_F4
      have r15 := r.1.2.2.1
      rw [r15, x_mod (by omega) (by omega), hi, x_nz0 c (by unfold zR; omega)]
      simp (disch := omega) only [z_lit, z_n, z_add, z_sub, z_mul, z_neg, z_ltT, z_ltF, z_leT, z_leF, z_eqT, z_eqF, z_v, z_upd, z_ue, z_un, z_ixn, z_ixo, z_ix0, z_ix1, z_ix2, z_ix3, z_ix4, z_ix5, z_ix6, Int.reduceToNat, z_inr, z_gd, z_bnd, z_jn, z_bdc, z_bd2, z_opn, z_ops, z_z01, if_true, if_false, Bool.false_eq_true, x_ix7, x_ix8, z_w2u, z_w2k, r3, r0]
theorem x_nz0' : nz (zI 0) = zI 0 := by decide
theorem x_act56 (I : x_LI b W Y s) {x : Int} (hx : 0 ≤ x ∧ x < 2147483648) (hm : x % 16 = 5 ∨ x % 16 = 6) : x_out b W Y s x := by
  obtain ⟨h0, J, r, hs, hh⟩ := id I
  have h := J.1
  obtain ⟨c0, c1, c2, c3, c4⟩ := h.1
  have ax := x_ax h0 h hs.1 hx
  have fx := x_fx h r hs.1 hx
  have zp : 0 ≤ x / 16 / 64 ∧ x / 16 / 64 < 2147483648 := by omega
  have m1 := x_md (x := x / 16) (y := s 1) (by omega)
  obtain ⟨a, ha⟩ : ∃ a : Nat, x / 16 % s 1 = a := ⟨(x / 16 % s 1).toNat, by omega⟩
  have hal : (a : Int) < s 1 := by omega
  have m2 := x_md (x := (a : Int) + 1) (y := s 1) (by omega)
  obtain ⟨c, hc⟩ : ∃ c : Nat, ((a : Int) + 1) % s 1 = c := ⟨(((a : Int) + 1) % s 1).toNat, by omega⟩
  have hcl : (c : Int) < s 1 := by omega
  have nn : nz0 (zI (s 1)) = true := x_nz0 (by omega) (by unfold zR; omega)
  have tt := x_q_travelTime h0 h hal hcl
  obtain ⟨o, ho, ho2, hq⟩ : ∃ o : Int, (∀ {R : Type} (K : Int32 → R), (if zI (x / 16 / 64) - zI (x / 16 / 64) / (3 : Int32) * (3 : Int32) ≤ 0 then K (0 : Int32) else K (1 : Int32)) = K (zI o)) ∧ z_bo o ∧ ((x / 16 / 64 % 3 = 0 ∧ o = 0) ∨ (x / 16 / 64 % 3 ≠ 0 ∧ o = 1)) := by
    rw [show (3 : Int32) = zI 3 from z_lit 3, z_l0, z_l1, x_mod zp (by omega)]
    by_cases q : x / 16 / 64 % 3 = 0
    · exact ⟨0, fun K => by rw [q, z_leT (by omega) (by omega) (by omega)], Or.inl rfl, Or.inl ⟨q, rfl⟩⟩
    · exact ⟨1, fun K => by rw [z_leF (by omega) (by omega) (by omega)], Or.inr rfl, Or.inr ⟨q, rfl⟩⟩
  have nzo : nz (zI o) = zI o := by
    rcases ho2 with q | q <;> subst q
    · exact x_nz0'
    · exact z_nz1
  have tn : x_tm s a c = -1 ∨ ∃ k, z_tk s a c = some k ∧ (k : Int) < s 2 ∧ 1 ≤ x_tm s a c ∧ x_tm s a c ≤ 9 := by
    unfold x_tm
    cases g : z_tk s (a : Int) (c : Int) with
    | none => exact Or.inl rfl
    | some k =>
      have kl := (x_tk_cn g).1
      have := h.2.2.2.1 k kl
      unfold z_trk at this
      exact Or.inr ⟨k, rfl, kl, this.2.2⟩
  have e2 : x_AB W (zI (x / 16)) (zI (s 1)) (zI (a : Int)) (zI ((x / 16 % s 1 + 1 + x / 16 / 8 % (s 1 - 1)) % s 1)) (zI (x / 16 / 64)) (zI (x % 16)) = (if 0 ≤ zI (x_tm s a c) then bt2 (f_X9_setTrackOpen W (zI (a : Int)) (zI (c : Int)) (zI o)) (fun e W48 => if e = "java/lang/IllegalStateException" then some ((-9 : Int32), W48) else none) (fun v47 W46 => if v47 = 0 then some ((0 : Int32), W46) else some ((1 : Int32), W46)) else some ((-9 : Int32), W)) := by
    unfold x_AB
    rcases hm with hm | hm
    · rw [hm, if_neg (show ¬ zI 5 = (0 : Int32) by decide), if_neg (show ¬ zI 5 = (1 : Int32) by decide), if_neg (show ¬ zI 5 = (2 : Int32) by decide), if_neg (show ¬ zI 5 = (3 : Int32) by decide), if_neg (show ¬ zI 5 = (4 : Int32) by decide), if_pos (show zI 5 = (5 : Int32) by decide), nn, z_gd, z_l1, z_add, x_mod (by omega) (by omega), hc, tt, x_bdt, z_gd, z_jn, ← z_l1]
      rw [ho (fun v44 => bt2 (f_X9_setTrackOpen W (zI (a : Int)) (zI (c : Int)) v44) (fun e W48 => if e = "java/lang/IllegalStateException" then some ((-9 : Int32), W48) else none) (fun v47 W46 => if v47 = 0 then some ((0 : Int32), W46) else some ((1 : Int32), W46)))]
    · rw [hm, if_neg (show ¬ zI 6 = (0 : Int32) by decide), if_neg (show ¬ zI 6 = (1 : Int32) by decide), if_neg (show ¬ zI 6 = (2 : Int32) by decide), if_neg (show ¬ zI 6 = (3 : Int32) by decide), if_neg (show ¬ zI 6 = (4 : Int32) by decide), if_neg (show ¬ zI 6 = (5 : Int32) by decide), if_pos (show zI 6 = (6 : Int32) by decide), nn, z_gd, z_l1, z_add, x_mod (by omega) (by omega), hc, tt, x_bdt, z_gd, z_jn, ← z_l1]
      rw [ho (fun v44 => bt2 (f_X9_setTrackOpen W (zI (a : Int)) (zI (c : Int)) v44) (fun e W48 => if e = "java/lang/IllegalStateException" then some ((-9 : Int32), W48) else none) (fun v47 W46 => if v47 = 0 then some ((0 : Int32), W46) else some ((1 : Int32), W46)))]
  have hN' := x_hN h r
  unfold x_out
  rw [ax]
  rw [ha] at e2 ⊢ fx
  rw [e2, z_l0]
  rcases tn with tn | ⟨k, k1, k2, k3⟩
  · refine ⟨-9, W, ?_, by omega, Or.inl ⟨rfl, I⟩⟩
    rw [tn, z_leF (by omega) (by omega) (by omega)]
    rfl
  · obtain ⟨W1, e3, e4, e5, -⟩ := x_rem h0 (x_b01 h) hh
    obtain ⟨s', f1, f2, f3, f4⟩ := x_open J r hal hcl k1 ho2
    have bk := h.2.1.2.1 k (by omega)
    have ct := z_Ctk h (x := (a : Int)) (y := (c : Int)) (by unfold zR; omega) (by unfold zR; omega)
    rw [k1] at ct
    unfold z_oi at ct
    have so : f_X9_setTrackOpen W (zI (a : Int)) (zI (c : Int)) (zI o) = some (.inr (zI (s (39 + 4 * k + 3))), setU W1 0 (zV s')) := by
      unfold f_X9_setTrackOpen f_X9_requireTrack
      rw [x_cst h0 h hal, x_bdt, x_cst h0 h hcl, x_bdt, h0, ct, z_bdc, show (-1 : Int32) = zI (-1) from rfl]
      dsimp only
      rw [z_eqF (by omega) (by omega) (by omega) (by omega) (by omega), x_bdt, z_inr (by omega) (by omega) (by omega), z_gd, z_ixn (by omega), z_bnd, e3, z_bdc, e4, f1, z_bdc, z_bnd, z_v, z_z01 bk, z_gd]
    refine ⟨s (39 + 4 * k + 3), setU W1 0 (zV s'), ?_, by unfold z_bo at bk; omega, Or.inr ⟨by unfold z_bo at bk; omega, _, s', ?_, x_li_mk I e5 f2 f3 (f4 1 (by omega)) (f4 3 (by omega))⟩⟩
    · rw [z_leT (by omega) (by omega) (by omega), so, x_bt2]
      rcases bk with q | q
      · rw [q, if_pos rfl]
      · rw [q, z_eqF (by omega) (by omega) (by omega) (by omega) (by omega), z_l1]
    · rw [fx]
      have hm2 : 2 ≤ x % 16 ∧ x % 16 ≠ 2 ∧ x % 16 ≠ 3 ∧ x % 16 ≠ 4 ∧ x % 16 < 16 := by omega
      unfold x_FB
      rw [show (2 : Int32) = zI 2 from z_lit 2, z_leT (by omega) (by omega) (by omega)]
      unfold x_F1
      rw [show (2 : Int32) = zI 2 from z_lit 2, z_eqF (by omega) (by omega) (by omega) (by omega) (by omega)]
      unfold x_F2
      rw [show (3 : Int32) = zI 3 from z_lit 3, z_eqF (by omega) (by omega) (by omega) (by omega) (by omega)]
      have fin : ∀ Z, x_F4 (zI (x / 16)) (zI (a : Int)) (zI (x / 16 / 64)) (zI (x % 16)) Z = some Z := fun Z => x_F4e (by omega)
      have mid : gd (inr (zI (a : Int)) (hN Y)) (gd (nz0 (Y 60 0)) (jn (fun (v30 : Int32) => gd (inr ((zI (a : Int) + (1 : Int32)) - (zI (a : Int) + (1 : Int32)) / (Y 60 0) * (Y 60 0)) (hN Y)) (bnd (w2 Y (24 + ix (zI (a : Int))) (ix ((zI (a : Int) + (1 : Int32)) - (zI (a : Int) + (1 : Int32)) / (Y 60 0) * (Y 60 0))) (nz v30)) (fun Y32 => gd (nz0 (Y32 60 0)) (gd (inr ((zI (a : Int) + (1 : Int32)) - (zI (a : Int) + (1 : Int32)) / (Y32 60 0) * (Y32 60 0)) (hN Y32)) (if (zI (x / 16 / 64) - zI (x / 16 / 64) / (3 : Int32) * (3 : Int32)) ≤ 0 then gd (inr (zI (a : Int)) (hN Y32)) (bnd (w2 Y32 (24 + ix ((zI (a : Int) + (1 : Int32)) - (zI (a : Int) + (1 : Int32)) / (Y32 60 0) * (Y32 60 0))) (ix (zI (a : Int))) (nz (0 : Int32))) (fun Y36 => x_F4 (zI (x / 16)) (zI (a : Int)) (zI (x / 16 / 64)) (zI (x % 16)) Y36)) else gd (inr (zI (a : Int)) (hN Y32)) (bnd (w2 Y32 (24 + ix ((zI (a : Int) + (1 : Int32)) - (zI (a : Int) + (1 : Int32)) / (Y32 60 0) * (Y32 60 0))) (ix (zI (a : Int))) (nz (1 : Int32))) (fun Y37 => x_F4 (zI (x / 16)) (zI (a : Int)) (zI (x / 16 / 64)) (zI (x % 16)) Y37))))))) (fun j29 => if (zI (x / 16 / 64) - zI (x / 16 / 64) / (3 : Int32) * (3 : Int32)) ≤ 0 then j29 (0 : Int32) else j29 (1 : Int32)))) = some (w2 (w2 Y (24 + a) c (zI o)) (24 + c) a (zI o)) := by
        rcases hq with ⟨q, q2⟩ | ⟨q, q2⟩ <;> subst q2
        · rw [r.1.1, hN', z_inr (by omega) (by omega) (by omega), z_gd, nn, z_gd, z_jn, show (3 : Int32) = zI 3 from z_lit 3, z_l0, z_l1, x_mod zp (by omega), z_leT (by omega) (by omega) (by omega)]
          dsimp only
          rw [z_add, x_mod (by omega) (by omega), hc, z_inr (by omega) (by omega) (by omega), z_gd, z_ixn (by omega), z_ixn (by omega), z_bnd, x_nz0', z_w2u (by omega), r.1.1, nn, z_gd, x_hNw (by omega), hN', x_mod (by omega) (by omega), hc, z_inr (by omega) (by omega) (by omega), z_gd, z_leT (by omega) (by omega) (by omega), z_inr (by omega) (by omega) (by omega), z_gd, z_ixn (by omega), z_bnd, fin]
        · rw [r.1.1, hN', z_inr (by omega) (by omega) (by omega), z_gd, nn, z_gd, z_jn, show (3 : Int32) = zI 3 from z_lit 3, z_l0, z_l1, x_mod zp (by omega), z_leF (by omega) (by omega) (by omega)]
          dsimp only
          rw [z_add, x_mod (by omega) (by omega), hc, z_inr (by omega) (by omega) (by omega), z_gd, z_ixn (by omega), z_ixn (by omega), z_bnd, z_nz1, z_w2u (by omega), r.1.1, nn, z_gd, x_hNw (by omega), hN', x_mod (by omega) (by omega), hc, z_inr (by omega) (by omega) (by omega), z_gd, z_leF (by omega) (by omega) (by omega), z_inr (by omega) (by omega) (by omega), z_gd, z_ixn (by omega), z_bnd, fin]
      unfold x_F3
      rw [z_jn, ← mid]
      rcases hm with hm | hm
      · rw [hm, if_pos (show zI 5 = (5 : Int32) by decide)]
      · rw [hm, if_neg (show ¬ zI 6 = (5 : Int32) by decide), if_pos (show zI 6 = (6 : Int32) by decide)]
end Ac2
