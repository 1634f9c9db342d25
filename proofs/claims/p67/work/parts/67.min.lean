/-! a minute -/
section Min
variable {b : Int} {s s' : Nat → Int} {Y Y' : Nat → Nat → Int32}
theorem x_ffs {p : Nat → Bool} {n k : Nat} (hk : k < n) (h : p k = true) : (z_ff p 0 n).isSome = true := by
  cases g : z_ff p 0 n with
  | some _ => rfl
  | none =>
    have := z_ff_n _ _ g k (by omega) (by omega)
    rw [h] at this
    cases this
theorem x_arrive (hb : b ≤ 1000000000) (J : x_J b s) (r : x_rel s Y) {t : Nat} (ht : (t : Int) < s 3) : ∃ s' Y', f_X4_arrive (zV s) t = some (zV s') ∧ f_X10_arrives Y (zI (t : Int)) = some Y' ∧ x_J b s' ∧ x_rel s' Y' ∧ (∀ k, k < 5 → s' k = s k) := by
  have h := J.1
  obtain ⟨⟨h0, h1, h2, h3, h4⟩, ⟨hbs, -, hbo⟩, -, -, hn, -, -⟩ := id h
  have J1 := x_r1_J J ht
  have i1 := J1.1
  have r1 := x_r1_rel h r ht
  obtain ⟨c1, c2⟩ := z_Cre h ht
  have ht1 : (t : Int) < z_r1 s t 3 := by rw [z_r1_o (by omega) (by omega)]; exact ht
  have cub := z_cub i1 ht1
  have e1 : z_r1 s t 1 = s 1 := z_r1_o (by omega) (by omega)
  have e3 : z_r1 s t 3 = s 3 := z_r1_o (by omega) (by omega)
  have e4 : z_r1 s t 4 = s 4 := z_r1_o (by omega) (by omega)
  obtain ⟨p, hp⟩ : ∃ p : Nat, z_cu (z_r1 s t) t = p := ⟨(z_cu (z_r1 s t) t).toNat, by omega⟩
  have hps : (p : Int) < z_r1 s t 1 := by omega
  have ccu := z_Ccu i1 ht1
  rw [hp] at ccu
  have e41 : z_r1 s t (7 + 4 * p + 1) = s (7 + 4 * p + 1) := z_r1_o (by omega) (by omega)
  have rqb := hbs p (by omega)
  unfold z_bo at rqb
  have ar := x_ar0 J hb r ht hp (by omega)
  have cad := z_Cad i1 ht1 (p := (p : Int)) (by omega)
  obtain ⟨o, o1, o2⟩ := z_Cnl i1 hb ht1
  have hT1 := x_hT i1 r1
  rw [e3] at hT1
  have y12 := (r1.2.2.2.1 t ht1).2.2.2.2.2.1
  have y13 := (r1.2.2.2.1 t ht1).2.2.2.2.2.2
  have lo5 : ∀ k, k < 5 → z_r1 s t k = s k := fun k hk => z_r1_o (by omega) (by omega)
  have np4 : z_np (z_r1 s t) = (s 4).toNat := by unfold z_np; rw [e4]
  have oo : (z_ff (x_fi (z_r1 s t) t) 0 (s 4).toNat).isSome = true ↔ ∃ w, o = some w := by
    constructor
    · intro q
      cases g : z_ff (x_fi (z_r1 s t) t) 0 (s 4).toNat with
      | none => rw [g] at q; cases q
      | some k =>
        obtain ⟨-, k1, k2, -⟩ := z_ff_s _ _ _ g
        unfold x_fi at k2
        rw [Bool.and_eq_true] at k2
        rw [if_pos (of_decide_eq_true k2.2), np4] at o2
        cases o with
        | none =>
          have := o2 k (by omega)
          rw [k2.1] at this
          cases this
        | some w => exact ⟨w, rfl⟩
    · rintro ⟨w, rfl⟩
      split at o2
      · rename_i rm
        rw [np4] at o2
        refine x_ffs o2.1 ?_
        unfold x_fi
        rw [o2.2.1, decide_eq_true rm]
        rfl
      · cases o2
  by_cases stop : z_re s t = true ∨ s (7 + 4 * p + 1) = 0 ∨ (z_ad (z_r1 s t) t p).isSome = true ∨ (z_ff (x_fi (z_r1 s t) t) 0 (s 4).toNat).isSome = true
  · obtain ⟨s', Y', k1, k2, k3, k4, k5⟩ := x_halt hb J1 r1 ht1 hps
    refine ⟨s', Y', ?_, ?_, k3, k4, fun k hk => by rw [k5 k hk, lo5 k hk]⟩
    · unfold f_X4_arrive
      rw [c1, z_bdc, z_lit 0, show zI (OfNat.ofNat 0) = zI 0 from rfl, ccu, z_bdc, c2]
      cases q : z_re s t with
      | true =>
        simp (disch := omega) only [z_lit, z_n, z_add, z_sub, z_mul, z_neg, z_lt1, z_lt0, z_le1, z_le0, z_eq1, z_eq0, z_10, ↓reduceIte, z_v, z_upd, z_ue, z_un, z_ixn, z_ixo, z_ix0, z_ix1, z_ix2, z_ix3, z_ix4, z_ix5, z_ix6, Int.reduceToNat, z_inr, z_gd, ↓z_bnd, ↓z_jn, z_bdc, z_bd2, z_opn, z_ops, z_z01, z_Bt, z_Bf, k1]
      | false =>
        by_cases e : s (7 + 4 * p + 1) = 0
        · simp (disch := omega) only [z_lit, z_n, z_add, z_sub, z_mul, z_neg, z_lt1, z_lt0, z_le1, z_le0, z_eq1, z_eq0, z_10, ↓reduceIte, z_v, z_upd, z_ue, z_un, z_ixn, z_ixo, z_ix0, z_ix1, z_ix2, z_ix3, z_ix4, z_ix5, z_ix6, Int.reduceToNat, z_inr, z_gd, ↓z_bnd, ↓z_jn, z_bdc, z_bd2, z_opn, z_ops, z_z01, z_Bt, z_Bf, k1, e41, e]
        · cases a : (z_ad (z_r1 s t) t p).isSome with
          | true =>
            rw [a] at cad
            simp (disch := omega) only [z_lit, z_n, z_add, z_sub, z_mul, z_neg, z_lt1, z_lt0, z_le1, z_le0, z_eq1, z_eq0, z_10, ↓reduceIte, z_v, z_upd, z_ue, z_un, z_ixn, z_ixo, z_ix0, z_ix1, z_ix2, z_ix3, z_ix4, z_ix5, z_ix6, Int.reduceToNat, z_inr, z_gd, ↓z_bnd, ↓z_jn, z_bdc, z_bd2, z_opn, z_ops, z_z01, z_Bt, z_Bf, k1, e41, cad]
          | false =>
            rw [a] at cad
            obtain ⟨w, hw⟩ := oo.1 (((stop.resolve_left (by rw [q]; decide)).resolve_left e).resolve_left (by rw [a]; decide))
            rw [hw] at o1 o2
            have w12 : w < 12 := by
              split at o2
              · have := o2.1
                rw [np4] at this
                omega
              · cases o2
            simp (disch := omega) only [z_lit, z_n, z_add, z_sub, z_mul, z_neg, z_lt1, z_lt0, z_le1, z_le0, z_eq1, z_eq0, z_10, ↓reduceIte, z_v, z_upd, z_ue, z_un, z_ixn, z_ixo, z_ix0, z_ix1, z_ix2, z_ix3, z_ix4, z_ix5, z_ix6, Int.reduceToNat, z_inr, z_gd, ↓z_bnd, ↓z_jn, z_bdc, z_bd2, z_opn, z_ops, z_z01, z_Bt, z_Bf, z_blt, k1, e41, cad, o1]
    · rw [ar, if_pos stop]
      unfold x_K
      simp (disch := omega) only [z_lit, z_n, z_add, z_sub, z_mul, z_neg, z_lt1, z_lt0, z_le1, z_le0, z_eq1, z_eq0, z_10, ↓reduceIte, z_v, z_upd, z_ue, z_un, z_ixn, z_ixo, z_ix0, z_ix1, z_ix2, z_ix3, z_ix4, z_ix5, z_ix6, Int.reduceToNat, z_inr, z_gd, ↓z_bnd, ↓z_jn, z_bdc, z_bd2, z_opn, z_ops, z_z01, z_Bt, z_Bf, hT1, y12, k2]
  · obtain ⟨s', Y', k1, k2, k3, k4, k5⟩ := x_goby J1 r1 ht1
    refine ⟨s', Y', ?_, ?_, k3, k4, fun k hk => by rw [k5 k (by omega), lo5 k hk]⟩
    · have q : z_re s t = false := Bool.eq_false_iff.mpr (fun q => stop (Or.inl q))
      have e : s (7 + 4 * p + 1) = 1 := by
        have : s (7 + 4 * p + 1) ≠ 0 := fun q => stop (Or.inr (Or.inl q))
        omega
      have a : (z_ad (z_r1 s t) t p).isSome = false := Bool.eq_false_iff.mpr (fun q => stop (Or.inr (Or.inr (Or.inl q))))
      have on : o = none := by
        cases o with
        | none => rfl
        | some w => exact absurd (Or.inr (Or.inr (Or.inr (oo.2 ⟨w, rfl⟩)))) stop
      rw [on] at o1
      rw [a] at cad
      unfold f_X4_arrive
      rw [c1, z_bdc, z_lit 0, show zI (OfNat.ofNat 0) = zI 0 from rfl, ccu, z_bdc, c2, q]
      simp (disch := omega) only [z_lit, z_n, z_add, z_sub, z_mul, z_neg, z_lt1, z_lt0, z_le1, z_le0, z_eq1, z_eq0, z_10, ↓reduceIte, z_v, z_upd, z_ue, z_un, z_ixn, z_ixo, z_ix0, z_ix1, z_ix2, z_ix3, z_ix4, z_ix5, z_ix6, Int.reduceToNat, z_inr, z_gd, ↓z_bnd, ↓z_jn, z_bdc, z_bd2, z_opn, z_ops, z_z01, z_Bt, z_Bf, k1, e41, e, cad, o1]
    · rw [ar, if_neg stop]
      unfold x_K
      simp (disch := omega) only [z_lit, z_n, z_add, z_sub, z_mul, z_neg, z_lt1, z_lt0, z_le1, z_le0, z_eq1, z_eq0, z_10, ↓reduceIte, z_v, z_upd, z_ue, z_un, z_ixn, z_ixo, z_ix0, z_ix1, z_ix2, z_ix3, z_ix4, z_ix5, z_ix6, Int.reduceToNat, z_inr, z_gd, ↓z_bnd, ↓z_jn, z_bdc, z_bd2, z_opn, z_ops, z_z01, z_Bt, z_Bf, hT1, y13, k2]
theorem x_act (hb : b ≤ 1000000000) (J : x_J b s) (r : x_rel s Y) {t : Nat} (ht : (t : Int) < s 3) : ∃ s' Y', (∀ N, l_X4_passMinute_12 (N + 1) (zV s) (zI t) = l_X4_passMinute_12 N (zV s') (zI ((t : Int) + 1))) ∧ (∀ N, 0 < N → l_X10_minute_12 (N + 1) Y (zI (t : Int)) = l_X10_minute_12 N Y' (zI ((t : Int) + 1))) ∧ x_J b s' ∧ x_rel s' Y' ∧ (∀ k, k < 5 → s' k = s k) := by
  have h := J.1
  obtain ⟨⟨h0, h1, h2, h3, h4⟩, ⟨-, -, hbo⟩, -, hk, hn, -, -⟩ := id h
  have tn := hn t ht
  obtain ⟨a0, a1, a2, a3, a4, a5, a6⟩ := id tn
  obtain ⟨-, x8, x9, x10, x11, x12, x13⟩ := r.2.2.2.1 t ht
  have q1 := r.1.2.1
  have hT := x_hT h r
  by_cases v1 : s (87 + 14 * t + 10) = 0
  · obtain ⟨u, v, e1, e2, e3, e4, e5⟩ := x_lds hb J r ht
    have u3 := e5 3 (by omega)
    obtain ⟨s', Y', d1, d2, d3, d4, d5⟩ := x_depart e3 e4 (t := t) (by omega)
    refine ⟨s', Y', fun N => ?_, fun N hN => ?_, d3, d4, fun k hk => by rw [d5 k (by omega), e5 k (by omega)]⟩
    · rw [l_X4_passMinute_12]
      unfold f_X8_isStanding
      simp (disch := omega) only [z_lit, z_n, z_add, z_sub, z_mul, z_neg, z_lt1, z_lt0, z_le1, z_le0, z_eq1, z_eq0, z_10, ↓reduceIte, z_v, z_upd, z_ue, z_un, z_ixn, z_ixo, z_ix0, z_ix1, z_ix2, z_ix3, z_ix4, z_ix5, z_ix6, Int.reduceToNat, z_inr, z_gd, ↓z_bnd, ↓z_jn, z_bdc, z_bd2, z_opn, z_ops, z_z01, z_Bt, z_Bf, v1, e2, d1]
    · have hb0 := z_blt hN
      rw [l_X10_minute_12]
      simp (disch := omega) only [z_lit, z_n, z_add, z_sub, z_mul, z_neg, z_lt1, z_lt0, z_le1, z_le0, z_eq1, z_eq0, z_10, ↓reduceIte, z_v, z_upd, z_ue, z_un, z_ixn, z_ixo, z_ix0, z_ix1, z_ix2, z_ix3, z_ix4, z_ix5, z_ix6, Int.reduceToNat, z_inr, z_gd, ↓z_bnd, ↓z_jn, z_bdc, z_bd2, z_opn, z_ops, z_z01, z_Bt, z_Bf, hT, q1, x10, v1, hb0, e1, d2]
  · have ft : z_ft t s (zu s (87 + 14 * t + 10) (s (87 + 14 * t + 10) - 1)) := z_ft_zu (by omega)
    have i1 : z_inv b (zu s (87 + 14 * t + 10) (s (87 + 14 * t + 10) - 1)) := by
      refine z_inv_ft h ft ht ?_ (fun i hi hi2 => ?_) ?_ ?_ ?_
      · rw [z_un (by omega)]
        exact hbo t (by omega)
      · rw [z_un (by omega)]
        exact (h.2.2.1 i hi2).2
      · rw [z_un (by omega)]
        exact a4
      · rw [z_un (by omega), z_un (by omega)]
        exact a5
      · rw [z_ue rfl]
        omega
    have i2 : x_rel (zu s (87 + 14 * t + 10) (s (87 + 14 * t + 10) - 1)) (w2 Y 10 t (zI (s (87 + 14 * t + 10) - 1))) := by
      refine x_rel_ft h r ft ht (fun u j hu => ?_) ?_ ?_ ?_ ?_ ?_ ?_
      · by_cases c : u = 10
        · subst c
          rw [z_w2k (by omega)]
        · rw [z_w2u c]
      · rw [z_w2u (by omega), z_un (by omega)]; exact x8
      · rw [z_w2u (by omega), z_un (by omega)]; exact x9
      · rw [z_w2e, z_ue rfl]
      · rw [z_w2u (by omega), z_un (by omega)]; exact x11
      · rw [z_w2u (by omega), z_un (by omega)]; exact x12
      · rw [z_w2u (by omega), z_un (by omega)]; exact x13
    have J1 := x_J_ft J i1 ht ft
    by_cases c : s (87 + 14 * t + 10) = 1
    · obtain ⟨s', Y', d1, d2, d3, d4, d5⟩ := x_arrive hb J1 i2 (t := t) (by rw [z_un (by omega)]; exact ht)
      refine ⟨s', Y', fun N => ?_, fun N hN => ?_, d3, d4, fun k hk => by rw [d5 k hk, z_un (by omega)]⟩
      · rw [c] at d1
        rw [l_X4_passMinute_12]
        unfold f_X8_isStanding
        simp (disch := omega) only [z_lit, z_n, z_add, z_sub, z_mul, z_neg, z_lt1, z_lt0, z_le1, z_le0, z_eq1, z_eq0, z_10, ↓reduceIte, z_v, z_upd, z_ue, z_un, z_ixn, z_ixo, z_ix0, z_ix1, z_ix2, z_ix3, z_ix4, z_ix5, z_ix6, Int.reduceToNat, z_inr, z_gd, ↓z_bnd, ↓z_jn, z_bdc, z_bd2, z_opn, z_ops, z_z01, z_Bt, z_Bf, c]
        rw [show (1 : Int) - 1 = 0 from rfl] at d1 ⊢
        simp (disch := omega) only [z_lit, z_n, z_add, z_sub, z_mul, z_neg, z_lt1, z_lt0, z_le1, z_le0, z_eq1, z_eq0, z_10, ↓reduceIte, z_v, z_upd, z_ue, z_un, z_ixn, z_ixo, z_ix0, z_ix1, z_ix2, z_ix3, z_ix4, z_ix5, z_ix6, Int.reduceToNat, z_inr, z_gd, ↓z_bnd, ↓z_jn, z_bdc, z_bd2, z_opn, z_ops, z_z01, z_Bt, z_Bf, d1]
      · have hb0 := z_blt hN
        rw [c] at d2
        rw [show (1 : Int) - 1 = 0 from rfl] at d2
        rw [l_X10_minute_12]
        simp (disch := omega) only [z_lit, z_n, z_add, z_sub, z_mul, z_neg, z_lt1, z_lt0, z_le1, z_le0, z_eq1, z_eq0, z_10, ↓reduceIte, z_v, z_upd, z_ue, z_un, z_ixn, z_ixo, z_ix0, z_ix1, z_ix2, z_ix3, z_ix4, z_ix5, z_ix6, Int.reduceToNat, z_inr, z_gd, ↓z_bnd, ↓z_jn, z_bdc, z_bd2, z_opn, z_ops, z_z01, z_Bt, z_Bf, hT, q1, x10, c, hb0, x_hTw]
        rw [show (1 : Int) - 1 = 0 from rfl]
        simp (disch := omega) only [z_lit, z_n, z_add, z_sub, z_mul, z_neg, z_lt1, z_lt0, z_le1, z_le0, z_eq1, z_eq0, z_10, ↓reduceIte, z_v, z_upd, z_ue, z_un, z_ixn, z_ixo, z_ix0, z_ix1, z_ix2, z_ix3, z_ix4, z_ix5, z_ix6, Int.reduceToNat, z_inr, z_gd, ↓z_bnd, ↓z_jn, z_bdc, z_bd2, z_opn, z_ops, z_z01, z_Bt, z_Bf, z_w2e, d2]
    · refine ⟨_, _, fun N => ?_, fun N hN => ?_, J1, i2, fun k hk => z_un (by omega)⟩
      · rw [l_X4_passMinute_12]
        unfold f_X8_isStanding
        simp (disch := omega) only [z_lit, z_n, z_add, z_sub, z_mul, z_neg, z_lt1, z_lt0, z_le1, z_le0, z_eq1, z_eq0, z_10, ↓reduceIte, z_v, z_upd, z_ue, z_un, z_ixn, z_ixo, z_ix0, z_ix1, z_ix2, z_ix3, z_ix4, z_ix5, z_ix6, Int.reduceToNat, z_inr, z_gd, ↓z_bnd, ↓z_jn, z_bdc, z_bd2, z_opn, z_ops, z_z01, z_Bt, z_Bf]
      · rw [l_X10_minute_12]
        simp (disch := omega) only [z_lit, z_n, z_add, z_sub, z_mul, z_neg, z_lt1, z_lt0, z_le1, z_le0, z_eq1, z_eq0, z_10, ↓reduceIte, z_v, z_upd, z_ue, z_un, z_ixn, z_ixo, z_ix0, z_ix1, z_ix2, z_ix3, z_ix4, z_ix5, z_ix6, Int.reduceToNat, z_inr, z_gd, ↓z_bnd, ↓z_jn, z_bdc, z_bd2, z_opn, z_ops, z_z01, z_Bt, z_Bf, hT, q1, x10, x_hTw, z_w2e]
theorem x_clk_J (J : x_J b s) : x_J (b + 1) (zu s 0 (s 0 + 1)) := by
  have c2 := J.1.1.2.2.1
  exact ⟨z_clk J.1, x_un_c (z_un (by omega)) (by omega) (fun k _ _ => z_un (by omega)) J.2.1, x_ba_c (z_un (by omega)) (z_un (by omega)) (z_un (by omega)) (fun k _ => z_un (by omega)) J.2.2⟩
theorem x_clk_rel (h : z_inv b s) (r : x_rel s Y) : x_rel (zu s 0 (s 0 + 1)) (w2 Y 60 16 (zI (s 0 + 1))) := by
  obtain ⟨⟨r00, r01, r02, r03⟩, r1, r2, r3, r4⟩ := r
  have u : ∀ k, 1 ≤ k → zu s 0 (s 0 + 1) k = s k := fun k hk => z_un (by omega)
  have u1 := u 1 (by omega)
  have u3 := u 3 (by omega)
  have u4 := u 4 (by omega)
  refine ⟨⟨?_, ?_, ?_, ?_⟩, fun i hi => ?_, fun a c ha hc => ?_, fun t ht => ?_, fun i hi j hj => ?_⟩
  · rw [z_w2k (by omega), u1]; exact r00
  · rw [z_w2k (by omega), u3]; exact r01
  · rw [z_w2k (by omega), u4]; exact r02
  · rw [z_w2e, z_ue rfl]
  · rw [u1] at hi
    rw [z_w2u (by omega), z_w2u (by omega), u _ (by omega), u _ (by omega)]
    exact r1 i hi
  · rw [u1] at ha hc
    have c1 := h.1.2.1
    obtain ⟨q1, q2⟩ := x_tm_c h (u 2 (by omega)) (fun k _ _ => u k (by omega)) a c
    rw [z_w2u (by omega), z_w2u (by omega), q1, q2]
    exact r2 a c ha hc
  · rw [u3] at ht
    have c3 := h.1.2.2.2.1
    have q := r3 t ht
    unfold x_rt at q ⊢
    simp (disch := omega) only [z_w2u]
    rw [u _ (by omega), u _ (by omega), u _ (by omega), u _ (by omega), u _ (by omega), u _ (by omega), u _ (by omega), u _ (by omega)]
    refine ⟨⟨q.1.1, q.1.2.1, fun j hj => ?_⟩, q.2⟩
    rw [u _ (by omega)]
    exact q.1.2.2 j hj
  · rw [u4] at hi
    have c4 := h.1.2.2.2.2
    rw [z_w2u (by omega), u _ (by omega)]
    exact r4 i hi j hj
theorem x_acts (hb : b ≤ 1000000000) : ∀ (d i N M : Nat) (s : Nat → Int) (Y : Nat → Nat → Int32), i + d = (s 3).toNat → d < N → d < M → x_J b s → x_rel s Y → ∃ s' Y', l_X4_passMinute_12 N (zV s) (zI (i : Int)) = some (zV s') ∧ l_X10_minute_12 M Y (zI (i : Int)) = some Y' ∧ x_J b s' ∧ x_rel s' Y' ∧ (∀ k, k < 5 → s' k = s k) := by
  intro d
  induction d with
  | zero =>
    intro i N M s Y h1 h2 h3 J r
    obtain ⟨N, rfl⟩ : ∃ m, N = m + 1 := ⟨N - 1, by omega⟩
    obtain ⟨M, rfl⟩ : ∃ m, M = m + 1 := ⟨M - 1, by omega⟩
    have c3 := J.1.1.2.2.2.1
    have q1 := r.1.2.1
    refine ⟨s, Y, ?_, ?_, J, r, fun _ _ => rfl⟩
    · rw [l_X4_passMinute_12]
      simp (disch := omega) only [z_lit, z_n, z_add, z_sub, z_mul, z_neg, z_lt1, z_lt0, z_le1, z_le0, z_eq1, z_eq0, z_10, ↓reduceIte, z_v, z_upd, z_ue, z_un, z_ixn, z_ixo, z_ix0, z_ix1, z_ix2, z_ix3, z_ix4, z_ix5, z_ix6, Int.reduceToNat, z_inr, z_gd, ↓z_bnd, ↓z_jn, z_bdc, z_bd2, z_opn, z_ops, z_z01, z_Bt, z_Bf]
    · rw [l_X10_minute_12]
      simp (disch := omega) only [z_lit, z_n, z_add, z_sub, z_mul, z_neg, z_lt1, z_lt0, z_le1, z_le0, z_eq1, z_eq0, z_10, ↓reduceIte, z_v, z_upd, z_ue, z_un, z_ixn, z_ixo, z_ix0, z_ix1, z_ix2, z_ix3, z_ix4, z_ix5, z_ix6, Int.reduceToNat, z_inr, z_gd, ↓z_bnd, ↓z_jn, z_bdc, z_bd2, z_opn, z_ops, z_z01, z_Bt, z_Bf, q1]
  | succ d ih =>
    intro i N M s Y h1 h2 h3 J r
    obtain ⟨N, rfl⟩ : ∃ m, N = m + 1 := ⟨N - 1, by omega⟩
    obtain ⟨M, rfl⟩ : ∃ m, M = m + 1 := ⟨M - 1, by omega⟩
    have c3 := J.1.1.2.2.2.1
    obtain ⟨s1, Y1, e1, e2, e3, e4, e5⟩ := x_act hb J r (t := i) (by omega)
    obtain ⟨s', Y', d1, d2, d3, d4, d5⟩ := ih (i + 1) N M s1 Y1 (by rw [e5 3 (by omega)]; omega) (by omega) (by omega) e3 e4
    refine ⟨s', Y', ?_, ?_, d3, d4, fun k hk => by rw [d5 k hk, e5 k hk]⟩
    · rw [e1 N]
      exact d1
    · rw [e2 M (by omega)]
      exact d2
theorem x_minute (hb : b + 1 ≤ 1000000000) (J : x_J b s) (r : x_rel s Y) (h3 : s 3 ≤ 3) : ∃ s' Y', f_X4_passMinute (zV s) = some (zV s') ∧ f_X10_minute Y = some Y' ∧ x_J (b + 1) s' ∧ x_rel s' Y' ∧ s' 0 = s 0 + 1 ∧ (∀ k, 1 ≤ k → k < 5 → s' k = s k) := by
  have r0 := r.1.2.2.2
  have u3 : zu s 0 (s 0 + 1) 3 = s 3 := z_un (by omega)
  have c3 := J.1.1.2.2.2.1
  obtain ⟨s', Y', e1, e2, e3, e4, e5⟩ := x_acts hb (s 3).toNat 0 FU 4 (zu s 0 (s 0 + 1)) (w2 Y 60 16 (zI (s 0 + 1))) (by rw [u3]; omega) (by unfold FU; omega) (by omega) (x_clk_J J) (x_clk_rel J.1 r)
  refine ⟨s', Y', ?_, ?_, e3, e4, by rw [e5 0 (by omega), z_ue rfl], fun k k1 k2 => by rw [e5 k k2, z_un (by omega)]⟩
  · unfold f_X4_passMinute
    rw [z_v, z_l1, z_add, z_upd, z_bnd, z_l0]
    exact e1
  · unfold f_X10_minute
    rw [r0, z_l1, z_add, z_bnd, z_l0]
    exact e2
end Min
