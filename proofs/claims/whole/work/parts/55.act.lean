/-! arriving, to its end -/
section Act
variable {b : Int} {s s' g g' : Nat → Int}
theorem z_sk_0 (h : ∀ k, k < 143 → (k < 39) → s' k = s k ∧ g' k = g k) : z_sk 1 s g s' g' := fun i hi => Or.inl ⟨(h _ (by omega) (by omega)).2, (h _ (by omega) (by omega)).1⟩
/-- the train passes -/
theorem z_goby (h : z_inv b s) (r : z_rel s g) {t : Nat} (ht : (t : Int) < s 3) (hl : s (87 + 14 * t + 10) = 0) : ∃ s' g', f_X4_depart (zV (zu s (87 + 14 * t + 13) (s (87 + 14 * t + 13) + 1))) t = some (zV s') ∧ f_X10_depart (zV (zu g (87 + 14 * t + 13) (s (87 + 14 * t + 13) + 1))) (zI t) = some (zV g') ∧ z_inv b s' ∧ z_rel s' g' ∧ (∀ k, k < 87 → s' k = s k ∧ g' k = g k) ∧ z_zk t g g' := by
  obtain ⟨⟨h0, h1, h2, h3, h4⟩, ⟨-, -, hbo⟩, hs, -, hn, -, -⟩ := id h
  obtain ⟨a0, a1, a2, a3, a4, a5, a6⟩ := hn t ht
  obtain ⟨x0, x1, x2, x3, x4, x5, x6, x7, x8⟩ := r.2.2.2.1 t ht
  have ft : z_ft t s (zu s (87 + 14 * t + 13) (s (87 + 14 * t + 13) + 1)) := z_ft_zu (by omega)
  have i1 : z_inv b (zu s (87 + 14 * t + 13) (s (87 + 14 * t + 13) + 1)) := by
    refine z_inv_ft h ft ht ?_ (fun i hi hi2 => ?_) ?_ ?_ ?_
    · rw [z_un (by omega)]
      exact hbo t (by omega)
    · rw [z_un (by omega)]
      exact (hs i hi2).2
    · rw [z_un (by omega)]
      exact a4
    · rw [z_un (by omega), z_un (by omega)]
      exact a5
    · rw [z_un (by omega)]
      exact a6
  have i2 : z_rel (zu s (87 + 14 * t + 13) (s (87 + 14 * t + 13) + 1)) (zu g (87 + 14 * t + 13) (s (87 + 14 * t + 13) + 1)) := by
    refine z_rel_ft h r ft (fun k k0 k1 k2 => z_un (by omega)) ht ?_ ?_ ?_ ?_ ?_ ?_
    · rw [z_un (by omega), z_un (by omega)]
      exact x3
    · rw [z_un (by omega), z_un (by omega)]
      exact x4
    · have tn := hn t ht
      unfold z_tv at x5 ⊢
      rw [z_un (by omega), z_un (by omega)]
      rcases x5 with q | ⟨q1, -⟩
      · exact Or.inl q
      · omega
    · rw [z_un (by omega), z_un (by omega)]
      exact x6
    · rw [z_un (by omega), z_un (by omega)]
      exact x7
    · rw [z_ue rfl, z_ue rfl]
  obtain ⟨s', g', e1, e2, e3, e4, e5⟩ := z_depart i1 i2 (t := t) (by rw [z_un (by omega)]; exact ht) (by rw [z_un (by omega)]; exact hl)
  refine ⟨s', g', e1, e2, e3, e4, fun k hk => ?_, fun k k1 k2 k3 k4 => by rw [(e5 k (by omega)).2, z_un (by omega)]⟩
  obtain ⟨q1, q2⟩ := e5 k (by omega)
  rw [q1, q2, z_un (by omega), z_un (by omega)]
  exact ⟨rfl, rfl⟩
theorem z_arrive (hb : b ≤ 1000000000) (h : z_inv b s) {t : Nat} (r : z_rel s (zu g (87 + 14 * t + 10) (-1))) (ht : (t : Int) < s 3) (hl : s (87 + 14 * t + 10) = 0) : ∃ s' g', f_X4_arrive (zV s) t = some (zV s') ∧ f_X10_arrive (zV g) (zI t) = some (zV g') ∧ z_inv b s' ∧ z_rel s' g' ∧ (∀ k, k < 5 → s' k = s k) ∧ z_sk 1 s g s' g' ∧ z_zk t g g' := by
  obtain ⟨⟨h0, h1, h2, h3, h4⟩, ⟨-, -, hbo⟩, -, -, hn, -, -⟩ := id h
  have i1 := z_r1_inv h ht
  have i2 := z_r1_rel h r ht hl
  obtain ⟨c1, c2⟩ := z_Cre h ht
  have ht1 : (t : Int) < z_r1 s t 3 := by rw [z_r1_o (by omega) (by omega)]; exact ht
  have cub := z_cub i1 ht1
  have e1 : z_r1 s t 1 = s 1 := z_r1_o (by omega) (by omega)
  obtain ⟨p, hp⟩ : ∃ p : Nat, z_cu (z_r1 s t) t = p := ⟨(z_cu (z_r1 s t) t).toNat, by omega⟩
  have hps : (p : Int) < z_r1 s t 1 := by omega
  have ccu := z_Ccu i1 ht1
  have gcu := z_Gcu i1 i2 ht1
  rw [hp] at ccu gcu
  have rq := (i2.2.1 p hps).2.1
  have rqb := i1.2.1.1 p (by omega)
  obtain ⟨y0, y1, y2, y3, y4, y5, y6, y7, y8⟩ := r.2.2.2.1 t ht
  rw [z_un (by omega)] at y1 y3 y4
  have bo := hbo t (by omega)
  have tb := (hn t ht).2.1
  have pb := (hn t ht).2.2.2.2.1
  have hrdc : z_re s t = true ∧ z_rd1 s t = 1 - s (87 + 14 * t + 9) ∨ z_re s t = false ∧ z_rd1 s t = s (87 + 14 * t + 9) := by
    unfold z_rd1
    cases z_re s t
    · exact Or.inr ⟨rfl, rfl⟩
    · exact Or.inl ⟨rfl, rfl⟩
  have hre : z_re s t = decide (z_rp s t = 0 ∨ z_rp s t = s (87 + 14 * t + 1) - 1) := rfl
  have hq : z_q1 s g t = zu (zu (zu g (87 + 14 * t + 8) (s (87 + 14 * t + 8) + (2 * s (87 + 14 * t + 9) - 1))) (87 + 14 * t + 10) (-1)) (87 + 14 * t + 9) (if z_re s t then (-(2 * s (87 + 14 * t + 9) - 1)) else (2 * s (87 + 14 * t + 9) - 1)) := by
    unfold z_q1 z_rp
    rcases hrdc with ⟨q, q2⟩ | ⟨q, q2⟩
    · rw [q2, q]
      congr 1
      simp only [if_true]
      omega
    · rw [q2, q]
      rfl
  have r8 : z_rp s t = s (87 + 14 * t + 8) + (2 * s (87 + 14 * t + 9) - 1) := rfl
  unfold z_bo at bo rqb
  have y12 : g (87 + 14 * t + 12) = z_r1 s t (87 + 14 * t + 12) := by
    rw [z_un (by omega)] at y7
    rw [z_r1_o (by omega) (by omega), y7]
  have y13 : g (87 + 14 * t + 13) = z_r1 s t (87 + 14 * t + 13) := by
    rw [z_un (by omega)] at y8
    rw [z_r1_o (by omega) (by omega), y8]
  have lo5 : ∀ k, k < 5 → z_r1 s t k = s k := fun k hk => z_r1_o (by omega) (by omega)
  have lsk : ∀ (v u w : Nat → Int), (∀ k, k < 251 → v k = z_q1 s g t k) → z_sk 1 (z_r1 s t) v u w → z_sk 1 s g u w := by
    intro v u w hv hk i hi
    have q := hk i hi
    rw [hv _ (by omega), z_q1_o (by omega) (by omega) (by omega), z_r1_o (by omega) (by omega), lo5 0 (by omega)] at q
    exact q
  have lzk : ∀ (v w : Nat → Int), (∀ k, k < 251 → v k = z_q1 s g t k) → z_zk t v w → z_zk t g w := by
    intro v w hv hk k k1 k2 k3 k4
    rw [hk k k1 k2 k3 k4, hv k (by omega), z_q1_o (by omega) (by omega) (by omega)]
  cases q : z_re s t with
  | true =>
    have qq := of_decide_eq_true (hre.symm.trans q)
    rw [q] at hq c2
    simp only [if_true] at hq
    obtain ⟨s', g', k1, k2, k3, k4, k5, k6, k7⟩ := z_halt hb i1 i2 ht1 hps hp
    refine ⟨s', g', ?_, ?_, k3, k4, fun k hk => by rw [k5 k hk, lo5 k hk], lsk _ _ _ (fun k _ => rfl) k6, lzk _ _ (fun k _ => rfl) k7⟩
    · unfold f_X4_arrive
      rw [c1, z_bdc, z_lit 0, show zI (OfNat.ofNat 0) = zI 0 from rfl, ccu, z_bdc, c2]
      simp (disch := omega) only [z_lit, z_n, z_add, z_sub, z_mul, z_neg, z_lt1, z_lt0, z_le1, z_le0, z_eq1, z_eq0, z_10, ↓reduceIte, z_v, z_upd, z_ue, z_un, z_ixn, z_ixo, z_ix0, z_ix1, z_ix2, z_ix3, z_ix4, z_ix5, z_ix6, Int.reduceToNat, z_inr, z_gd, ↓z_bnd, ↓z_jn, z_bdc, z_bd2, z_opn, z_ops, z_z01, z_Bt, z_Bf, k1]
    · rw [z_GarE (t := t) (p := p) (by omega) (by omega) y1 y3 y4 (by omega) (by omega) (by omega) qq hq gcu y12 (by rw [rq]; omega)]
      exact k2
  | false =>
    have qq := of_decide_eq_false (hre.symm.trans q)
    rw [q] at hq c2
    simp only [if_false, Bool.false_eq_true] at hq
    have cad := z_Cad i1 ht1 (p := (p : Int)) (by omega)
    have gad := z_Gad i1 i2 ht1
    rw [hp] at gad
    obtain ⟨o, o1, o2⟩ := z_Cnl i1 hb ht1
    obtain ⟨m, v, m1, m2, m3, m4⟩ := z_Gwl i1 hb i2 ht1
    have i3 := z_rel_c i1 i2 m2
    have om : o = none ↔ m = 0 := by
      constructor
      · intro e
        rcases m3 with q | q
        · exact q
        · exfalso
          obtain ⟨n1, k, n2, n3⟩ := m4.mp q
          rw [if_pos n1, e] at o2
          have := o2 k (by unfold z_np; omega)
          rw [this] at n3
          cases n3
      · intro e
        cases o with
        | none => rfl
        | some w =>
          exfalso
          have : m = 1 := m4.mpr (by
            split at o2
            · rename_i n1
              exact ⟨n1, w, by have := o2.1; unfold z_np at this; omega, o2.2.1⟩
            · cases o2)
          omega
    clear m4
    by_cases stop : z_r1 s t (7 + 4 * p + 1) = 0 ∨ (z_ad (z_r1 s t) t p).isSome = true
    · obtain ⟨s', g', k1, k2, k3, k4, k5, k6, k7⟩ := z_halt hb i1 i2 ht1 hps hp
      refine ⟨s', g', ?_, ?_, k3, k4, fun k hk => by rw [k5 k hk, lo5 k hk], lsk _ _ _ (fun k _ => rfl) k6, lzk _ _ (fun k _ => rfl) k7⟩
      · unfold f_X4_arrive
        rw [c1, z_bdc, z_lit 0, show zI (OfNat.ofNat 0) = zI 0 from rfl, ccu, z_bdc, c2]
        by_cases e : z_r1 s t (7 + 4 * p + 1) = 0
        · simp (disch := omega) only [z_lit, z_n, z_add, z_sub, z_mul, z_neg, z_lt1, z_lt0, z_le1, z_le0, z_eq1, z_eq0, z_10, ↓reduceIte, z_v, z_upd, z_ue, z_un, z_ixn, z_ixo, z_ix0, z_ix1, z_ix2, z_ix3, z_ix4, z_ix5, z_ix6, Int.reduceToNat, z_inr, z_gd, ↓z_bnd, ↓z_jn, z_bdc, z_bd2, z_opn, z_ops, z_z01, z_Bt, z_Bf, k1, e]
        · have e2 := stop.resolve_left e
          rw [e2] at cad
          simp (disch := omega) only [z_lit, z_n, z_add, z_sub, z_mul, z_neg, z_lt1, z_lt0, z_le1, z_le0, z_eq1, z_eq0, z_10, ↓reduceIte, z_v, z_upd, z_ue, z_un, z_ixn, z_ixo, z_ix0, z_ix1, z_ix2, z_ix3, z_ix4, z_ix5, z_ix6, Int.reduceToNat, z_inr, z_gd, ↓z_bnd, ↓z_jn, z_bdc, z_bd2, z_opn, z_ops, z_z01, z_Bt, z_Bf, k1, cad]
      · rw [z_GarS (t := t) (p := p) (by omega) (by omega) y1 y3 y4 (by omega) (by omega) (by omega) (fun z => qq (Or.inl z)) (fun z => qq (Or.inr z)) hq gcu y12 (by
          rw [rq]
          by_cases e : z_r1 s t (7 + 4 * p + 1) = 0
          · exact Or.inl e
          · have e2 := stop.resolve_left e
            rw [e2] at gad
            exact Or.inr ⟨by omega, gad⟩)]
        exact k2
    · have e : z_r1 s t (7 + 4 * p + 1) = 1 := by
        have : z_r1 s t (7 + 4 * p + 1) ≠ 0 := fun q => stop (Or.inl q)
        omega
      have e2 : (z_ad (z_r1 s t) t p).isSome = false := Bool.eq_false_iff.mpr (fun q => stop (Or.inr q))
      rw [e2] at cad gad
      rcases m3 with mz | mo
      · have on := om.mpr mz
        rw [on] at o1
        rw [mz] at m1
        obtain ⟨s', g', k1, k2, k3, k4, k5, k7⟩ := z_goby i1 i3 ht1 (by rw [z_r1_o (by omega) (by omega)]; exact hl)
        refine ⟨s', g', ?_, ?_, k3, k4, fun k hk => by rw [(k5 k (by omega)).1, lo5 k hk], fun i hi => ?_, lzk _ _ m2 k7⟩
        · unfold f_X4_arrive
          rw [c1, z_bdc, z_lit 0, show zI (OfNat.ofNat 0) = zI 0 from rfl, ccu, z_bdc, c2]
          simp (disch := omega) only [z_lit, z_n, z_add, z_sub, z_mul, z_neg, z_lt1, z_lt0, z_le1, z_le0, z_eq1, z_eq0, z_10, ↓reduceIte, z_v, z_upd, z_ue, z_un, z_ixn, z_ixo, z_ix0, z_ix1, z_ix2, z_ix3, z_ix4, z_ix5, z_ix6, Int.reduceToNat, z_inr, z_gd, ↓z_bnd, ↓z_jn, z_bdc, z_bd2, z_opn, z_ops, z_z01, z_Bt, z_Bf, k1, e, cad, o1]
        · have v13 : v (87 + 14 * t + 13) = z_r1 s t (87 + 14 * t + 13) := by rw [m2 _ (by omega), z_q1_o (by omega) (by omega) (by omega), y13]
          rw [z_GarP (t := t) (p := p) (by omega) (by omega) y1 y3 y4 (by omega) (by omega) (by omega) (fun z => qq (Or.inl z)) (fun z => qq (Or.inr z)) hq gcu (by rw [rq]; exact e) gad m1 v13]
          exact k2
        · obtain ⟨n1, n2⟩ := k5 (7 + 4 * i + 3) (by omega)
          refine Or.inl ⟨?_, ?_⟩
          · rw [n2, m2 _ (by omega), z_q1_o (by omega) (by omega) (by omega)]
          · rw [n1, z_r1_o (by omega) (by omega)]
      · have on : o ≠ none := fun q => by
          have := om.mp q
          omega
        obtain ⟨w, hw⟩ : ∃ w, o = some w := by
          cases o with
          | none => exact absurd rfl on
          | some w => exact ⟨w, rfl⟩
        rw [hw] at o1 o2
        rw [mo] at m1
        have w12 : w < 12 := by
          split at o2
          · have := o2.1
            unfold z_np at this
            have := i1.1.2.2.2.2
            omega
          · cases o2
        obtain ⟨s', g', k1, k2, k3, k4, k5, k6, k7⟩ := z_halt hb i1 i3 ht1 hps hp
        refine ⟨s', g', ?_, ?_, k3, k4, fun k hk => by rw [k5 k hk, lo5 k hk], lsk _ _ _ m2 k6, lzk _ _ m2 k7⟩
        · unfold f_X4_arrive
          rw [c1, z_bdc, z_lit 0, show zI (OfNat.ofNat 0) = zI 0 from rfl, ccu, z_bdc, c2]
          simp (disch := omega) only [z_lit, z_n, z_add, z_sub, z_mul, z_neg, z_lt1, z_lt0, z_le1, z_le0, z_eq1, z_eq0, z_10, ↓reduceIte, z_v, z_upd, z_ue, z_un, z_ixn, z_ixo, z_ix0, z_ix1, z_ix2, z_ix3, z_ix4, z_ix5, z_ix6, Int.reduceToNat, z_inr, z_gd, ↓z_bnd, ↓z_jn, z_bdc, z_bd2, z_opn, z_ops, z_z01, z_Bt, z_Bf, z_blt, k1, e, cad, o1]
        · have v12 : v (87 + 14 * t + 12) = z_r1 s t (87 + 14 * t + 12) := by rw [m2 _ (by omega), z_q1_o (by omega) (by omega) (by omega), y12]
          rw [z_GarW (t := t) (p := p) (by omega) (by omega) y1 y3 y4 (by omega) (by omega) (by omega) (fun z => qq (Or.inl z)) (fun z => qq (Or.inr z)) hq gcu (by rw [rq]; exact e) gad m1 v12]
          exact k2
end Act
