/-! THE HAND beside the class: Y's numbers are those of the state s -/
def x_tm (s : Nat → Int) (a b : Nat) : Int := match z_tk s a b with
  | some k => s (39 + 4 * k + 2)
  | none => -1
def x_op (s : Nat → Int) (a b : Nat) : Int := match z_tk s a b with
  | some k => s (39 + 4 * k + 3)
  | none => 0
def x_r0 (s : Nat → Int) (Y : Nat → Nat → Int32) : Prop := Y 60 0 = zI (s 1) ∧ Y 60 1 = zI (s 3) ∧ Y 60 15 = zI (s 4) ∧ Y 60 16 = zI (s 0)
def x_r1 (s : Nat → Int) (Y : Nat → Nat → Int32) : Prop := ∀ i : Nat, (i : Int) < s 1 → Y 4 i = zI (s (7 + 4 * i + 1)) ∧ Y 5 i = zI (s (7 + 4 * i + 2))
def x_r2 (s : Nat → Int) (Y : Nat → Nat → Int32) : Prop := ∀ a b : Nat, (a : Int) < s 1 → (b : Int) < s 1 → Y (16 + a) b = zI (x_tm s a b) ∧ Y (24 + a) b = zI (x_op s a b)
def x_rt (s : Nat → Int) (Y : Nat → Nat → Int32) (t : Nat) : Prop := (Y 61 t = zI (s (87 + 14 * t + 1)) ∧ Y 7 t = zI (s (87 + 14 * t)) ∧ ∀ j : Nat, (j : Int) < s (87 + 14 * t + 1) → Y (32 + t) j = zI (s (87 + 14 * t + 2 + j))) ∧ Y 8 t = zI (s (87 + 14 * t + 8)) ∧ Y 9 t = zI (2 * s (87 + 14 * t + 9) - 1) ∧ Y 10 t = zI (s (87 + 14 * t + 10)) ∧ Y 11 t = zI (s (87 + 14 * t + 11)) ∧ Y 12 t = zI (s (87 + 14 * t + 12)) ∧ Y 13 t = zI (s (87 + 14 * t + 13))
def x_r3 (s : Nat → Int) (Y : Nat → Nat → Int32) : Prop := ∀ t : Nat, (t : Int) < s 3 → x_rt s Y t
def x_r4 (s : Nat → Int) (Y : Nat → Nat → Int32) : Prop := ∀ i : Nat, (i : Int) < s 4 → ∀ j, j < 9 → Y (40 + i) j = zI (s (143 + 9 * i + j))
def x_rel (s : Nat → Int) (Y : Nat → Nat → Int32) : Prop := x_r0 s Y ∧ x_r1 s Y ∧ x_r2 s Y ∧ x_r3 s Y ∧ x_r4 s Y
/-- no two tracks between the same stations -/
def x_un (s : Nat → Int) : Prop := ∀ k : Nat, (k : Int) < s 2 → z_tk s (s (39 + 4 * k)) (s (39 + 4 * k + 1)) = some k
section Rel
variable {b : Int} {s s' : Nat → Int} {Y Y' : Nat → Nat → Int32}
theorem x_ix7 : ix (zI 7) = 7 := z_ixn (m := 7) (by omega)
theorem x_ix8 : ix (zI 8) = 8 := z_ixn (m := 8) (by omega)
theorem x_hN (h : z_inv b s) (r : x_rel s Y) : hN Y = (s 1).toNat := by
  have c := h.1.2.1
  unfold hN
  rw [r.1.1, z_ixz (by omega) (by omega)]
theorem x_hT (h : z_inv b s) (r : x_rel s Y) : hT Y = (s 3).toNat := by
  have c := h.1.2.2.2.1
  unfold hT
  rw [r.1.2.1, z_ixz (by omega) (by omega)]
theorem x_hL (h : z_inv b s) (r : x_rel s Y) {t : Nat} (ht : (t : Int) < s 3) : hL Y t = (s (87 + 14 * t + 1)).toNat := by
  have c := (h.2.2.2.2.1 t ht).2.1
  unfold hL
  rw [(r.2.2.2.1 t ht).1.1, z_ixz (by omega) (by omega)]
theorem x_ca (h : z_inv b s) (r : x_rel s Y) {x : Int} (hx : zR x) : f_X10_carried Y (zI x) = some (zI (z_ct (z_ca s x) 0 (s 4).toNat)) := by
  obtain ⟨⟨h0, h1, h2, h3, h4⟩, -, -, -, -, hp, -⟩ := h
  obtain ⟨r0, -, -, -, rp⟩ := r
  have q4 := r0.2.2.1
  unfold zR at hx
  have e := z_cnt (l := l_X10_carried_4 Y (zI x)) (K := fun k => some (zI k)) (n := (s 4).toNat) (p := z_ca s x) (fun N y i hi => ?_) (fun N y => ?_) (s 4).toNat 0 FU 0 (by omega) (by unfold FU; omega)
  · unfold f_X10_carried
    rw [z_lit 0, Int.zero_add] at *
    exact e
  · obtain ⟨-, -, -, a3, a4, -⟩ := hp i (by omega)
    have q1 := rp i (by omega) 4 (by omega)
    rw [l_X10_carried_4]
    unfold z_ca
    by_cases c : s (143 + 9 * i + 4) = x
    · rw [decide_eq_true c]
      simp (disch := omega) only [z_lit, z_n, z_add, z_sub, z_mul, z_neg, z_ltT, z_ltF, z_leT, z_leF, z_eqT, z_eqF, z_v, z_upd, z_ue, z_un, z_ixn, z_ixo, z_ix0, z_ix1, z_ix2, z_ix3, z_ix4, z_ix5, z_ix6, Int.reduceToNat, z_inr, z_gd, z_bnd, z_jn, z_bdc, z_bd2, z_opn, z_ops, z_z01, if_true, if_false, Bool.false_eq_true, q1, q4, if_true]
    · rw [decide_eq_false c]
      simp (disch := omega) only [z_lit, z_n, z_add, z_sub, z_mul, z_neg, z_ltT, z_ltF, z_leT, z_leF, z_eqT, z_eqF, z_v, z_upd, z_ue, z_un, z_ixn, z_ixo, z_ix0, z_ix1, z_ix2, z_ix3, z_ix4, z_ix5, z_ix6, Int.reduceToNat, z_inr, z_gd, z_bnd, z_jn, z_bdc, z_bd2, z_opn, z_ops, z_z01, if_true, if_false, Bool.false_eq_true, q1, q4, if_false, Bool.false_eq_true, Int.add_zero]
  · rw [l_X10_carried_4]
    simp (disch := omega) only [z_lit, z_n, z_add, z_sub, z_mul, z_neg, z_ltT, z_ltF, z_leT, z_leF, z_eqT, z_eqF, z_v, z_upd, z_ue, z_un, z_ixn, z_ixo, z_ix0, z_ix1, z_ix2, z_ix3, z_ix4, z_ix5, z_ix6, Int.reduceToNat, z_inr, z_gd, z_bnd, z_jn, z_bdc, z_bd2, z_opn, z_ops, z_z01, if_true, if_false, Bool.false_eq_true, q4]
theorem x_de (h : z_inv b s) (hb : b ≤ 1000000000) (r : x_rel s Y) : f_X10_delivered Y = some (zI (z_ct (z_de s) 0 (s 4).toNat)) := by
  obtain ⟨⟨h0, h1, h2, h3, h4⟩, -, -, -, -, hp, -⟩ := h
  obtain ⟨r0, -, -, -, rp⟩ := r
  have q4 := r0.2.2.1
  have e := z_cnt (l := l_X10_delivered_4 Y) (K := fun k => some (zI k)) (n := (s 4).toNat) (p := z_de s) (fun N y i hi => ?_) (fun N y => ?_) (s 4).toNat 0 FU 0 (by omega) (by unfold FU; omega)
  · unfold f_X10_delivered
    rw [z_lit 0, Int.zero_add] at *
    exact e
  · obtain ⟨-, -, -, -, -, -, -, a8, -⟩ := hp i (by omega)
    have q1 := rp i (by omega) 8 (by omega)
    rw [l_X10_delivered_4]
    unfold z_de
    by_cases c : s (143 + 9 * i + 8) = -1
    · rw [decide_eq_false (fun q => q c)]
      simp (disch := omega) only [z_lit, z_n, z_add, z_sub, z_mul, z_neg, z_ltT, z_ltF, z_leT, z_leF, z_eqT, z_eqF, z_v, z_upd, z_ue, z_un, z_ixn, z_ixo, z_ix0, z_ix1, z_ix2, z_ix3, z_ix4, z_ix5, z_ix6, Int.reduceToNat, z_inr, z_gd, z_bnd, z_jn, z_bdc, z_bd2, z_opn, z_ops, z_z01, if_true, if_false, Bool.false_eq_true, x_ix8, q1, q4, if_false, Bool.false_eq_true, Int.add_zero]
    · rw [decide_eq_true c]
      simp (disch := omega) only [z_lit, z_n, z_add, z_sub, z_mul, z_neg, z_ltT, z_ltF, z_leT, z_leF, z_eqT, z_eqF, z_v, z_upd, z_ue, z_un, z_ixn, z_ixo, z_ix0, z_ix1, z_ix2, z_ix3, z_ix4, z_ix5, z_ix6, Int.reduceToNat, z_inr, z_gd, z_bnd, z_jn, z_bdc, z_bd2, z_opn, z_ops, z_z01, if_true, if_false, Bool.false_eq_true, x_ix8, q1, q4, if_true]
  · rw [l_X10_delivered_4]
    simp (disch := omega) only [z_lit, z_n, z_add, z_sub, z_mul, z_neg, z_ltT, z_ltF, z_leT, z_leF, z_eqT, z_eqF, z_v, z_upd, z_ue, z_un, z_ixn, z_ixo, z_ix0, z_ix1, z_ix2, z_ix3, z_ix4, z_ix5, z_ix6, Int.reduceToNat, z_inr, z_gd, z_bnd, z_jn, z_bdc, z_bd2, z_opn, z_ops, z_z01, if_true, if_false, Bool.false_eq_true, q4]
end Rel
