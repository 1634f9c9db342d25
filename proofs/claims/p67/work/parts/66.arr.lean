/-! arrives -/
noncomputable def x_K (a1 v12 : Int32) : (Nat → Nat → Int32) → Int32 → Option (Nat → Nat → Int32) := fun Y25 x26 => if x26 = 0 then gd (inr a1 (hT Y25)) (gd (inr a1 (hT Y25)) (bnd (w2 Y25 13 (ix a1) ((Y25 13 (ix a1)) + (1 : Int32))) (fun Y48 => bdc (f_X10_departs Y48 a1) (fun Y49 => some Y49)))) else gd (inr a1 (hT Y25)) (gd (inr a1 (hT Y25)) (bnd (w2 Y25 12 (ix a1) ((Y25 12 (ix a1)) + (1 : Int32))) (fun Y28 => l_X10_arrives_190 a1 v12 FU Y28 (0 : Int32))))
noncomputable def x_A3 (a1 : Int32) (Y8 : Nat → Nat → Int32) (v3 : Int32) : Option (Nat → Nat → Int32) := gd (inr a1 (hT Y8)) (gd (inr a1 (hT Y8)) (gd (inr (Y8 8 (ix a1)) (hL Y8 (ix a1))) (bnd (Y8 (32 + ix a1) (ix (Y8 8 (ix a1)))) (fun v12 => jn (fun (v14 : Int32) => l_X10_arrives_102 a1 v12 (x_K a1 v12) 13 Y8 v14 (0 : Int32)) (fun j13 => if v3 = 0 then gd (inr v12 (hN Y8)) (if (Y8 4 (ix v12)) = 0 then j13 (1 : Int32) else j13 (0 : Int32)) else j13 (1 : Int32))))))
theorem x_arx (Y : Nat → Nat → Int32) (a1 : Int32) : f_X10_arrives Y a1 = gd (inr a1 (hT Y)) (gd (inr a1 (hT Y)) (gd (inr a1 (hT Y)) (bnd (w2 Y 8 (ix a1) ((Y 8 (ix a1)) + (Y 9 (ix a1)))) (fun Y1 => gd (inr a1 (hT Y1)) (jn (fun (v3 : Int32) => jn (fun (Y8 : Nat → Nat → Int32) => x_A3 a1 Y8 v3) (fun j7 => if v3 = 0 then j7 Y1 else gd (inr a1 (hT Y1)) (gd (inr a1 (hT Y1)) (bnd (w2 Y1 9 (ix a1) (-(Y1 9 (ix a1)))) (fun Y10 => j7 Y10))))) (fun j2 => if (Y1 8 (ix a1)) = 0 then j2 (1 : Int32) else gd (inr a1 (hT Y1)) (gd (inr a1 (hT Y1)) (if (Y1 8 (ix a1)) = ((nI (hL Y1 (ix a1))) - (1 : Int32)) then j2 (1 : Int32) else j2 (0 : Int32))))))))) := rfl
def x_Yr (s : Nat → Int) (Y : Nat → Nat → Int32) (t : Nat) : Nat → Nat → Int32 := if z_re s t then w2 (w2 Y 8 t (zI (z_rp s t))) 9 t (zI (-(2 * s (87 + 14 * t + 9) - 1))) else w2 Y 8 t (zI (z_rp s t))
section Arr
variable {b : Int} {s s' : Nat → Int} {Y Y' : Nat → Nat → Int32}
theorem x_r1_J (J : x_J b s) {t : Nat} (ht : (t : Int) < s 3) : x_J b (z_r1 s t) := x_J_ft J (z_r1_inv J.1 ht) ht z_r1_ft
theorem x_r1_rel (h : z_inv b s) (r : x_rel s Y) {t : Nat} (ht : (t : Int) < s 3) : x_rel (z_r1 s t) (x_Yr s Y t) := by
  obtain ⟨-, x8, x9, x10, x11, x12, x13⟩ := r.2.2.2.1 t ht
  have r9 : z_rd1 s t = if z_re s t then 1 - s (87 + 14 * t + 9) else s (87 + 14 * t + 9) := rfl
  unfold x_Yr
  cases q : z_re s t with
  | true =>
    rw [q, if_pos rfl] at r9
    rw [if_pos rfl]
    refine x_rel_ft h r z_r1_ft ht (fun u j hu => ?_) ?_ ?_ ?_ ?_ ?_ ?_
    · by_cases c : u = 9
      · subst c
        rw [z_w2k (by omega), z_w2u (by omega)]
      · rw [z_w2u c]
        by_cases c : u = 8
        · subst c
          rw [z_w2k (by omega)]
        · rw [z_w2u c]
    · rw [z_w2u (by omega), z_w2e, z_r1_8]
    · rw [z_w2e, z_r1_9, r9]
      congr 1
      omega
    · rw [z_w2u (by omega), z_w2u (by omega), z_r1_o (by omega) (by omega)]; exact x10
    · rw [z_w2u (by omega), z_w2u (by omega), z_r1_o (by omega) (by omega)]; exact x11
    · rw [z_w2u (by omega), z_w2u (by omega), z_r1_o (by omega) (by omega)]; exact x12
    · rw [z_w2u (by omega), z_w2u (by omega), z_r1_o (by omega) (by omega)]; exact x13
  | false =>
    rw [q, if_neg (by decide)] at r9
    rw [if_neg (by decide)]
    refine x_rel_ft h r z_r1_ft ht (fun u j hu => ?_) ?_ ?_ ?_ ?_ ?_ ?_
    · by_cases c : u = 8
      · subst c
        rw [z_w2k (by omega)]
      · rw [z_w2u c]
    · rw [z_w2e, z_r1_8]
    · rw [z_w2u (by omega), z_r1_9, r9]
      exact x9
    · rw [z_w2u (by omega), z_r1_o (by omega) (by omega)]; exact x10
    · rw [z_w2u (by omega), z_r1_o (by omega) (by omega)]; exact x11
    · rw [z_w2u (by omega), z_r1_o (by omega) (by omega)]; exact x12
    · rw [z_w2u (by omega), z_r1_o (by omega) (by omega)]; exact x13
def x_flg (s : Nat → Int) (t : Nat) (p : Int) (i d : Nat) (x : Int) : Int := if x = 1 then 1 else z_B (z_ff (x_stp s t p) i d).isSome
theorem x_a102 (h : z_inv b s) (hb : b ≤ 1000000000) (hu : x_un s) (r : x_rel s Y) {t p : Nat} (ht : (t : Int) < s 3) (hp : (p : Int) < s 1) (K : (Nat → Nat → Int32) → Int32 → Option (Nat → Nat → Int32)) : ∀ (d i N : Nat) (x : Int), i + d = (s 4).toNat → d < N → (x = 0 ∨ x = 1) → l_X10_arrives_102 (zI (t : Int)) (zI (p : Int)) K N Y (zI x) (zI (i : Int)) = K Y (zI (x_flg s t p i d x)) := by
  obtain ⟨c0, c1, c2, c3, c4⟩ := h.1
  have q15 := r.1.2.2.1
  intro d
  induction d with
  | zero =>
    intro i N x h1 h2 hx
    obtain ⟨N, rfl⟩ : ∃ m, N = m + 1 := ⟨N - 1, by omega⟩
    rw [l_X10_arrives_102]
    unfold x_flg z_ff
    rcases hx with rfl | rfl
    · simp (disch := omega) only [z_lit, z_n, z_add, z_sub, z_mul, z_neg, z_ltT, z_ltF, z_leT, z_leF, z_eqT, z_eqF, z_v, z_upd, z_ue, z_un, z_ixn, z_ixo, z_ix0, z_ix1, z_ix2, z_ix3, z_ix4, z_ix5, z_ix6, Int.reduceToNat, z_inr, z_gd, z_bnd, z_jn, z_bdc, z_bd2, z_opn, z_ops, z_z01, if_true, if_false, Bool.false_eq_true, q15]
      rfl
    · simp (disch := omega) only [z_lit, z_n, z_add, z_sub, z_mul, z_neg, z_ltT, z_ltF, z_leT, z_leF, z_eqT, z_eqF, z_v, z_upd, z_ue, z_un, z_ixn, z_ixo, z_ix0, z_ix1, z_ix2, z_ix3, z_ix4, z_ix5, z_ix6, Int.reduceToNat, z_inr, z_gd, z_bnd, z_jn, z_bdc, z_bd2, z_opn, z_ops, z_z01, if_true, if_false, Bool.false_eq_true, q15]
  | succ d ih =>
    intro i N x h1 h2 hx
    obtain ⟨N, rfl⟩ : ∃ m, N = m + 1 := ⟨N - 1, by omega⟩
    have hi : (i : Int) < s 4 := by omega
    have hb0 : Nat.blt 0 N = true := z_blt (by omega)
    have fit := x_fit h hb hu r ht hi
    have q4 := r.2.2.2.2 i hi 4 (by omega)
    have q5 := r.2.2.2.2 i hi 5 (by omega)
    obtain ⟨-, -, -, -, p4, p5, -⟩ := h.2.2.2.2.2.1 i hi
    have ih1 := ih (i + 1) N 1 (by omega) (by omega) (Or.inr rfl)
    have ihx := ih (i + 1) N x (by omega) (by omega) hx
    rw [z_cs] at ih1 ihx
    have f1 : x_flg s t p (i + 1) d 1 = 1 := if_pos rfl
    rw [f1] at ih1
    rw [l_X10_arrives_102]
    cases cs : x_stp s t p i with
    | true =>
      have fx : x_flg s t p i (d + 1) x = 1 := by
        unfold x_flg z_ff
        rw [cs]
        by_cases c : x = 1
        · rw [if_pos c]
        · rw [if_neg c]; rfl
      rw [fx]
      unfold x_stp z_dh at cs
      by_cases a : s (143 + 9 * i + 4) = t
      · by_cases e : s (143 + 9 * i + 5) = p
        · simp (disch := omega) only [z_lit, z_n, z_add, z_sub, z_mul, z_neg, z_lt1, z_lt0, z_le1, z_le0, z_eq1, z_eq0, z_10, ↓reduceIte, z_v, z_upd, z_ue, z_un, z_ixn, z_ixo, z_ix0, z_ix1, z_ix2, z_ix3, z_ix4, z_ix5, z_ix6, Int.reduceToNat, z_inr, z_gd, ↓z_bnd, ↓z_jn, z_bdc, z_bd2, z_opn, z_ops, z_z01, z_Bt, z_Bf, q15, q4, q5, hb0, a, e, ih1]
        · rw [decide_eq_false (fun q => e q.2), Bool.false_or] at cs
          rw [cs] at fit
          simp (disch := omega) only [z_lit, z_n, z_add, z_sub, z_mul, z_neg, z_lt1, z_lt0, z_le1, z_le0, z_eq1, z_eq0, z_10, ↓reduceIte, z_v, z_upd, z_ue, z_un, z_ixn, z_ixo, z_ix0, z_ix1, z_ix2, z_ix3, z_ix4, z_ix5, z_ix6, Int.reduceToNat, z_inr, z_gd, ↓z_bnd, ↓z_jn, z_bdc, z_bd2, z_opn, z_ops, z_z01, z_Bt, z_Bf, q15, q4, q5, hb0, a, e, ih1, fit]
      · rw [decide_eq_false (fun q => a q.1), Bool.false_or] at cs
        rw [cs] at fit
        simp (disch := omega) only [z_lit, z_n, z_add, z_sub, z_mul, z_neg, z_lt1, z_lt0, z_le1, z_le0, z_eq1, z_eq0, z_10, ↓reduceIte, z_v, z_upd, z_ue, z_un, z_ixn, z_ixo, z_ix0, z_ix1, z_ix2, z_ix3, z_ix4, z_ix5, z_ix6, Int.reduceToNat, z_inr, z_gd, ↓z_bnd, ↓z_jn, z_bdc, z_bd2, z_opn, z_ops, z_z01, z_Bt, z_Bf, q15, q4, q5, hb0, a, ih1, fit]
    | false =>
      have fx : x_flg s t p i (d + 1) x = x_flg s t p (i + 1) d x := by
        unfold x_flg
        rw [show z_ff (x_stp s t p) i (d + 1) = if x_stp s t p i then some i else z_ff (x_stp s t p) (i + 1) d from rfl, cs]
        rfl
      rw [fx]
      unfold x_stp z_dh at cs
      rw [Bool.or_eq_false_iff] at cs
      have cd := of_decide_eq_false cs.1
      rw [cs.2] at fit
      by_cases a : s (143 + 9 * i + 4) = t
      · have e : s (143 + 9 * i + 5) ≠ p := fun q => cd ⟨a, q⟩
        simp (disch := omega) only [z_lit, z_n, z_add, z_sub, z_mul, z_neg, z_lt1, z_lt0, z_le1, z_le0, z_eq1, z_eq0, z_10, ↓reduceIte, z_v, z_upd, z_ue, z_un, z_ixn, z_ixo, z_ix0, z_ix1, z_ix2, z_ix3, z_ix4, z_ix5, z_ix6, Int.reduceToNat, z_inr, z_gd, ↓z_bnd, ↓z_jn, z_bdc, z_bd2, z_opn, z_ops, z_z01, z_Bt, z_Bf, q15, q4, q5, hb0, a, e, ihx, fit]
      · simp (disch := omega) only [z_lit, z_n, z_add, z_sub, z_mul, z_neg, z_lt1, z_lt0, z_le1, z_le0, z_eq1, z_eq0, z_10, ↓reduceIte, z_v, z_upd, z_ue, z_un, z_ixn, z_ixo, z_ix0, z_ix1, z_ix2, z_ix3, z_ix4, z_ix5, z_ix6, Int.reduceToNat, z_inr, z_gd, ↓z_bnd, ↓z_jn, z_bdc, z_bd2, z_opn, z_ops, z_z01, z_Bt, z_Bf, q15, q4, q5, hb0, a, ihx, fit]
theorem x_goby (J : x_J b s) (r : x_rel s Y) {t : Nat} (ht : (t : Int) < s 3) : ∃ s' Y', f_X4_depart (zV (zu s (87 + 14 * t + 13) (s (87 + 14 * t + 13) + 1))) t = some (zV s') ∧ f_X10_departs (w2 Y 13 t (zI (s (87 + 14 * t + 13) + 1))) (zI (t : Int)) = some Y' ∧ x_J b s' ∧ x_rel s' Y' ∧ (∀ k, k < 87 → s' k = s k) := by
  have h := J.1
  obtain ⟨⟨h0, h1, h2, h3, h4⟩, ⟨-, -, hbo⟩, hs, -, hn, -, -⟩ := id h
  obtain ⟨a0, a1, a2, a3, a4, a5, a6⟩ := hn t ht
  obtain ⟨-, x8, x9, x10, x11, x12, x13⟩ := r.2.2.2.1 t ht
  have ft : z_ft t s (zu s (87 + 14 * t + 13) (s (87 + 14 * t + 13) + 1)) := z_ft_zu (by omega)
  have i1 : z_inv b (zu s (87 + 14 * t + 13) (s (87 + 14 * t + 13) + 1)) := by
    refine z_inv_ft h ft ht ?_ (fun i hi hi2 => ?_) ?_ ?_ ?_
    · rw [z_un (by omega)]
      exact hbo t (by omega)
    · rw [z_un (by omega)]
      exact (hs i hi2).2
    · rw [z_un (by omega)]
      exact a4
    · rw [z_un (by omega), z_un (by omega)]
      exact a5
    · rw [z_un (by omega)]
      exact a6
  have i2 : x_rel (zu s (87 + 14 * t + 13) (s (87 + 14 * t + 13) + 1)) (w2 Y 13 t (zI (s (87 + 14 * t + 13) + 1))) := by
    refine x_rel_ft h r ft ht (fun u j hu => ?_) ?_ ?_ ?_ ?_ ?_ ?_
    · by_cases c : u = 13
      · subst c
        rw [z_w2k (by omega)]
      · rw [z_w2u c]
    · rw [z_w2u (by omega), z_un (by omega)]; exact x8
    · rw [z_w2u (by omega), z_un (by omega)]; exact x9
    · rw [z_w2u (by omega), z_un (by omega)]; exact x10
    · rw [z_w2u (by omega), z_un (by omega)]; exact x11
    · rw [z_w2u (by omega), z_un (by omega)]; exact x12
    · rw [z_w2e, z_ue rfl]
  obtain ⟨s', Y', e1, e2, e3, e4, e5⟩ := x_depart (x_J_ft J i1 ht ft) i2 (t := t) (by rw [z_un (by omega)]; exact ht)
  refine ⟨s', Y', e1, e2, e3, e4, fun k hk => by rw [e5 k (by omega), z_un (by omega)]⟩
theorem x_halt (hb : b ≤ 1000000000) (J : x_J b s) (r : x_rel s Y) {t p : Nat} (ht : (t : Int) < s 3) (hp : (p : Int) < s 1) : ∃ s' Y', f_X4_unload (zV (zu (zu s (87 + 14 * t + 12) (s (87 + 14 * t + 12) + 1)) (7 + 4 * p + 3) (s 0))) t (zI p) = some (zV s') ∧ l_X10_arrives_190 (zI (t : Int)) (zI (p : Int)) FU (w2 Y 12 t (zI (s (87 + 14 * t + 12) + 1))) (zI 0) = some Y' ∧ x_J b s' ∧ x_rel s' Y' ∧ (∀ k, k < 5 → s' k = s k) := by
  have h := J.1
  obtain ⟨⟨h0, h1, h2, h3, h4⟩, ⟨-, -, hbo⟩, hs, -, hn, -, -⟩ := id h
  obtain ⟨a0, a1, a2, a3, a4, a5, a6⟩ := hn t ht
  obtain ⟨-, x8, x9, x10, x11, x12, x13⟩ := r.2.2.2.1 t ht
  have p8 : p < 8 := by omega
  have ft : z_ft t s (zu (zu s (87 + 14 * t + 12) (s (87 + 14 * t + 12) + 1)) (7 + 4 * p + 3) (s 0)) := fun k k1 k2 => by
    by_cases q : k < 39
    · have := k1 q p
      rw [z_un (by omega), z_un (by omega)]
    · rw [z_un (by omega), z_un (by omega)]
  have i1 : z_inv b (zu (zu s (87 + 14 * t + 12) (s (87 + 14 * t + 12) + 1)) (7 + 4 * p + 3) (s 0)) := by
    refine z_inv_ft h ft ht ?_ (fun i hi hi2 => ?_) ?_ ?_ ?_
    · rw [z_un (by omega), z_un (by omega)]
      exact hbo t (by omega)
    · by_cases q : i = p
      · rw [q, z_ue rfl]
        omega
      · rw [z_un (by omega), z_un (by omega)]
        exact (hs i hi2).2
    · rw [z_un (by omega), z_un (by omega)]
      exact a4
    · rw [z_un (by omega), z_un (by omega), z_un (by omega), z_un (by omega)]
      exact a5
    · rw [z_un (by omega), z_un (by omega)]
      exact a6
  have i2 : x_rel (zu (zu s (87 + 14 * t + 12) (s (87 + 14 * t + 12) + 1)) (7 + 4 * p + 3) (s 0)) (w2 Y 12 t (zI (s (87 + 14 * t + 12) + 1))) := by
    refine x_rel_ft h r ft ht (fun u j hu => ?_) ?_ ?_ ?_ ?_ ?_ ?_
    · by_cases c : u = 12
      · subst c
        rw [z_w2k (by omega)]
      · rw [z_w2u c]
    · rw [z_w2u (by omega), z_un (by omega), z_un (by omega)]; exact x8
    · rw [z_w2u (by omega), z_un (by omega), z_un (by omega)]; exact x9
    · rw [z_w2u (by omega), z_un (by omega), z_un (by omega)]; exact x10
    · rw [z_w2u (by omega), z_un (by omega), z_un (by omega)]; exact x11
    · rw [z_w2e, z_un (by omega), z_ue rfl]
    · rw [z_w2u (by omega), z_un (by omega), z_un (by omega)]; exact x13
  obtain ⟨s', Y', e1, e2, e3, e4, e5⟩ := x_unload hb (x_J_ft J i1 ht ft) i2 (t := t) (p := p) (by rw [z_un (by omega), z_un (by omega)]; exact ht) (by rw [z_un (by omega), z_un (by omega)]; exact hp)
  refine ⟨s', Y', e1, e2, e3, e4, fun k hk => ?_⟩
  rw [e5 k (by omega), z_un (by omega), z_un (by omega)]
theorem x_fst {p q : Nat → Bool} {i d : Nat} : (z_ff (fun k => p k || q k) i d).isSome = ((z_ff p i d).isSome || (z_ff q i d).isSome) := by
  induction d generalizing i with
  | zero => rfl
  | succ d ih =>
    unfold z_ff
    cases p i <;> cases q i <;> simp [ih]
theorem x_ar0 (J : x_J b s) (hb : b ≤ 1000000000) (r : x_rel s Y) {t p : Nat} (ht : (t : Int) < s 3) (hcu : z_cu (z_r1 s t) t = p) (hp : (p : Int) < s 1) : f_X10_arrives Y (zI (t : Int)) = x_K (zI (t : Int)) (zI (p : Int)) (x_Yr s Y t) (zI (if z_re s t = true ∨ s (7 + 4 * p + 1) = 0 ∨ (z_ad (z_r1 s t) t p).isSome = true ∨ (z_ff (x_fi (z_r1 s t) t) 0 (s 4).toNat).isSome = true then 1 else 0)) := by
  have h := J.1
  obtain ⟨⟨h0, h1, h2, h3, h4⟩, ⟨hbs, -, hbo⟩, -, -, hn, -, -⟩ := id h
  obtain ⟨a0, a1, a2, a3, a4, a5, a6⟩ := hn t ht
  obtain ⟨-, x8, x9, x10, x11, x12, x13⟩ := r.2.2.2.1 t ht
  have J1 := x_r1_J J ht
  have r1 := x_r1_rel h r ht
  have ht1 : (t : Int) < z_r1 s t 3 := by rw [z_r1_o (by omega) (by omega)]; exact ht
  have hp1 : (p : Int) < z_r1 s t 1 := by rw [z_r1_o (by omega) (by omega)]; exact hp
  have e4 : z_r1 s t 4 = s 4 := z_r1_o (by omega) (by omega)
  have hT := x_hT h r
  have hL' := x_hL h r ht
  have hT1 := x_hT J1.1 r1
  have hN1 := x_hN J1.1 r1
  have hL1 := x_hL J1.1 r1 ht1
  obtain ⟨b0, b1, b2, b3, b4, b5, b6⟩ := J1.1.2.2.2.2.1 t ht1
  have es := x_sp J1.1 r1 ht1 b4
  have es : x_Yr s Y t (32 + t) (z_r1 s t (87 + 14 * t + 8)).toNat = zI (z_cu (z_r1 s t) t) := es
  have y8 := (r1.2.2.2.1 t ht1).2.1
  have y4 := (r1.2.1 p hp1).1
  rw [hcu] at es
  have e41 : z_r1 s t (7 + 4 * p + 1) = s (7 + 4 * p + 1) := z_r1_o (by omega) (by omega)
  rw [e41] at y4
  have bo := hbs p (by omega)
  unfold z_bo at bo
  have e3 : z_r1 s t 3 = s 3 := z_r1_o (by omega) (by omega)
  have e1 : z_r1 s t 1 = s 1 := z_r1_o (by omega) (by omega)
  have e81 : z_r1 s t (87 + 14 * t + 1) = s (87 + 14 * t + 1) := z_r1_o (by omega) (by omega)
  rw [e3] at hT1
  rw [e1] at hN1
  rw [e81] at hL1
  rw [z_r1_8] at es y8 b4
  have rp : z_rp s t = s (87 + 14 * t + 8) + (2 * s (87 + 14 * t + 9) - 1) := rfl
  have hflag : ∀ x : Int, (x = 0 ∨ x = 1) → (x = 1 ↔ z_re s t = true ∨ s (7 + 4 * p + 1) = 0) → l_X10_arrives_102 (zI (t : Int)) (zI (p : Int)) (x_K (zI (t : Int)) (zI (p : Int))) 13 (x_Yr s Y t) (zI x) (zI ((0 : Nat) : Int)) = x_K (zI (t : Int)) (zI (p : Int)) (x_Yr s Y t) (zI (if z_re s t = true ∨ s (7 + 4 * p + 1) = 0 ∨ (z_ad (z_r1 s t) t p).isSome = true ∨ (z_ff (x_fi (z_r1 s t) t) 0 (s 4).toNat).isSome = true then 1 else 0)) := by
    intro x hx hx1
    rw [x_a102 J1.1 hb J1.2.1 r1 ht1 hp1 (x_K (zI (t : Int)) (zI (p : Int))) (s 4).toNat 0 13 x (by rw [e4]; omega) (by omega) hx]
    congr 2
    unfold x_flg
    have fs : (z_ff (x_stp (z_r1 s t) t p) 0 (s 4).toNat).isSome = ((z_ad (z_r1 s t) t p).isSome || (z_ff (x_fi (z_r1 s t) t) 0 (s 4).toNat).isSome) := by
      unfold z_ad
      rw [e4]
      exact x_fst
    rw [fs]
    by_cases c : x = 1
    · rw [if_pos c]
      rcases hx1.1 c with q | q
      · rw [if_pos (Or.inl q)]
      · rw [if_pos (Or.inr (Or.inl q))]
    · rw [if_neg c]
      have n1 : ¬ z_re s t = true := fun q => c (hx1.2 (Or.inl q))
      have n2 : ¬ s (7 + 4 * p + 1) = 0 := fun q => c (hx1.2 (Or.inr q))
      cases (z_ad (z_r1 s t) t p).isSome <;> cases (z_ff (x_fi (z_r1 s t) t) 0 (s 4).toNat).isSome <;> simp [n1, n2, z_Bt, z_Bf]
  have hre : z_re s t = decide (z_rp s t = 0 ∨ z_rp s t = s (87 + 14 * t + 1) - 1) := rfl
  have st1 : f_X10_arrives Y (zI (t : Int)) = x_A3 (zI (t : Int)) (x_Yr s Y t) (zI (z_B (z_re s t))) := by
    rw [x_arx]
    unfold x_Yr
    cases q : z_re s t with
    | true =>
      have qq := of_decide_eq_true (hre.symm.trans q)
      rw [rp] at qq ⊢
      rw [if_pos rfl]
      by_cases q0 : s (87 + 14 * t + 8) + (2 * s (87 + 14 * t + 9) - 1) = 0
      · simp (disch := omega) only [z_lit, z_n, z_add, z_sub, z_mul, z_neg, z_lt1, z_lt0, z_le1, z_le0, z_eq1, z_eq0, z_10, ↓reduceIte, z_v, z_upd, z_ue, z_un, z_ixn, z_ixo, z_ix0, z_ix1, z_ix2, z_ix3, z_ix4, z_ix5, z_ix6, Int.reduceToNat, z_inr, z_gd, ↓z_bnd, ↓z_jn, z_bdc, z_bd2, z_opn, z_ops, z_z01, z_Bt, z_Bf, hT, hL', z_w2e, z_w2u, x_hTw, x_hLw, x8, x9, q0]
      · have q1 := qq.resolve_left q0
        simp (disch := omega) only [z_lit, z_n, z_add, z_sub, z_mul, z_neg, z_lt1, z_lt0, z_le1, z_le0, z_eq1, z_eq0, z_10, ↓reduceIte, z_v, z_upd, z_ue, z_un, z_ixn, z_ixo, z_ix0, z_ix1, z_ix2, z_ix3, z_ix4, z_ix5, z_ix6, Int.reduceToNat, z_inr, z_gd, ↓z_bnd, ↓z_jn, z_bdc, z_bd2, z_opn, z_ops, z_z01, z_Bt, z_Bf, hT, hL', z_w2e, z_w2u, x_hTw, x_hLw, x8, x9, z_ixz, Int.toNat_natCast]
    | false =>
      have qq := of_decide_eq_false (hre.symm.trans q)
      rw [rp] at qq ⊢
      rw [if_neg (by decide)]
      simp (disch := omega) only [z_lit, z_n, z_add, z_sub, z_mul, z_neg, z_lt1, z_lt0, z_le1, z_le0, z_eq1, z_eq0, z_10, ↓reduceIte, z_v, z_upd, z_ue, z_un, z_ixn, z_ixo, z_ix0, z_ix1, z_ix2, z_ix3, z_ix4, z_ix5, z_ix6, Int.reduceToNat, z_inr, z_gd, ↓z_bnd, ↓z_jn, z_bdc, z_bd2, z_opn, z_ops, z_z01, z_Bt, z_Bf, hT, hL', z_w2e, z_w2u, x_hTw, x_hLw, x8, x9, z_ixz, Int.toNat_natCast]
  have st2 : ∀ x : Int, (x = 0 ∨ x = 1) → (x = 1 ↔ z_re s t = true ∨ s (7 + 4 * p + 1) = 0) → x_A3 (zI (t : Int)) (x_Yr s Y t) (zI (z_B (z_re s t))) = l_X10_arrives_102 (zI (t : Int)) (zI (p : Int)) (x_K (zI (t : Int)) (zI (p : Int))) 13 (x_Yr s Y t) (zI x) (zI ((0 : Nat) : Int)) := by
    intro x hx hx1
    generalize x_Yr s Y t = Q at *
    unfold x_A3
    cases q : z_re s t with
    | true =>
      have x1 : x = 1 := hx1.2 (Or.inl q)
      rw [x1]
      simp (disch := omega) only [z_lit, z_n, z_add, z_sub, z_mul, z_neg, z_lt1, z_lt0, z_le1, z_le0, z_eq1, z_eq0, z_10, ↓reduceIte, z_v, z_upd, z_ue, z_un, z_ixn, z_ixo, z_ix0, z_ix1, z_ix2, z_ix3, z_ix4, z_ix5, z_ix6, Int.reduceToNat, z_inr, z_gd, ↓z_bnd, ↓z_jn, z_bdc, z_bd2, z_opn, z_ops, z_z01, z_Bt, z_Bf, hT1, hN1, hL1, y8, es, z_ixz, Int.toNat_natCast]
      rfl
    | false =>
      by_cases c : s (7 + 4 * p + 1) = 0
      · have x1 : x = 1 := hx1.2 (Or.inr c)
        rw [x1]
        simp (disch := omega) only [z_lit, z_n, z_add, z_sub, z_mul, z_neg, z_lt1, z_lt0, z_le1, z_le0, z_eq1, z_eq0, z_10, ↓reduceIte, z_v, z_upd, z_ue, z_un, z_ixn, z_ixo, z_ix0, z_ix1, z_ix2, z_ix3, z_ix4, z_ix5, z_ix6, Int.reduceToNat, z_inr, z_gd, ↓z_bnd, ↓z_jn, z_bdc, z_bd2, z_opn, z_ops, z_z01, z_Bt, z_Bf, hT1, hN1, hL1, y8, es, y4, c, z_ixz, Int.toNat_natCast]
        rfl
      · have x0 : x = 0 := hx.resolve_right (fun z => by
          rcases hx1.1 z with z | z
          · rw [q] at z; cases z
          · exact c z)
        rw [x0]
        simp (disch := omega) only [z_lit, z_n, z_add, z_sub, z_mul, z_neg, z_lt1, z_lt0, z_le1, z_le0, z_eq1, z_eq0, z_10, ↓reduceIte, z_v, z_upd, z_ue, z_un, z_ixn, z_ixo, z_ix0, z_ix1, z_ix2, z_ix3, z_ix4, z_ix5, z_ix6, Int.reduceToNat, z_inr, z_gd, ↓z_bnd, ↓z_jn, z_bdc, z_bd2, z_opn, z_ops, z_z01, z_Bt, z_Bf, hT1, hN1, hL1, y8, es, y4, c, z_ixz, Int.toNat_natCast]
        rfl
  rw [st1]
  by_cases c : z_re s t = true ∨ s (7 + 4 * p + 1) = 0
  · rw [st2 1 (Or.inr rfl) ⟨fun _ => c, fun _ => rfl⟩, hflag 1 (Or.inr rfl) ⟨fun _ => c, fun _ => rfl⟩]
  · rw [st2 0 (Or.inl rfl) ⟨fun z => absurd z (by omega), fun z => absurd z c⟩, hflag 0 (Or.inl rfl) ⟨fun z => absurd z (by omega), fun z => absurd z c⟩]
end Arr
