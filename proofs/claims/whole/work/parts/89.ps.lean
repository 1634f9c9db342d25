section Ps
variable {W X W' V V' : Nat → Nat → Int32} {s s' g g' : Nat → Int} {b b' : Int}
/-- from the parts to the whole relation -/
theorem y_mkRW (H : z_RW b W) (hb : b ≤ b') (hp : z_pr b' (V' 0) (V' 21)) (hh : z_rh b' V') (hu : ∀ u, u = 11 ∨ u = 12 ∨ u = 16 ∨ u = 18 ∨ u = 19 ∨ u = 20 ∨ u = 25 ∨ u = 26 ∨ u = 28 ∨ u = 29 → V' u = W u) (h11 : V' 30 11 = W 30 11) (h15 : V' 15 0 = zI 0) (h3 : V' 30 3 = zI 0) (h9 : V' 13 0 = V' 30 9) (h10 : V' 13 1 = V' 30 10) (h2 : z_rpp V') : z_RW b' V' := by
  obtain ⟨x1, x2, x3, x4, x5, x6, x7⟩ := H
  refine ⟨hp, hh, fun i hi => ?_, ?_, ⟨h9, h10⟩, ?_, h2⟩
  · have q := x3 i hi
    rw [hu 20 (by omega), hu 26 (by omega), hu 25 (by omega), hu (11 + i) (by omega)]
    rcases q with q | ⟨q1, q2, q3⟩
    · exact Or.inl q
    · exact Or.inr ⟨q1, q2, z_pr_le q3 hb⟩
  · obtain ⟨n, q1, q2, q3, q4⟩ := x4
    exact ⟨0, h15, h3, by omega, fun k hk => by rw [hu 16 (by omega), hu 28 (by omega)]; exact q4 k hk⟩
  · obtain ⟨n, q1, q2, q3, q4⟩ := x6
    exact ⟨n, by rw [hu 18 (by omega)]; exact q1, by rw [h11]; exact q2, q3, fun k hk => by rw [hu 19 (by omega), hu 29 (by omega)]; exact q4 k hk⟩
theorem z_m_2 (hB : b ≤ 100000000) (hb : 0 ≤ b) (H : z_RW b W) : z_AG (f_L_load W) (fun W1 => f_X10_load W1) (z_RW (b + 36060)) := by
  obtain ⟨s, g, hq⟩ := z_Q_RW H
  obtain ⟨h0, hg, pi⟩ := id hq
  obtain ⟨T, n, hT, h28, h30⟩ := y_txt H.2.2.2.1
  obtain ⟨f, hf2, hfb⟩ := H.2.2.2.2.2.2
  have gt : ∀ V : Nat → Nat → Int32, V 28 = W 28 → V 30 3 = W 30 3 → z_GT T n V := fun V a c => ⟨fun k hk => by rw [a]; exact h28 k hk, hT.2.1, hT.2.2.1, by rw [c]; exact h30⟩
  obtain ⟨Wa, Va, p1, -, fo1⟩ := y_prs (b := b) hb (by omega) hT (gt W rfl rfl) hf2 hfb
  have second : ∀ V, V 28 = W 28 → V 30 3 = W 30 3 → ∃ Wb Vb, w2 Wa 15 0 (zI 0) = w2 Wb 15 0 (zI 0) ∧ f_X10_read V = some Vb ∧ y_fo (b + 60 * 601) T n W V Wb Vb := fun V a c => by
    obtain ⟨Wb, Vb, q1, q2, q3⟩ := y_prs (b := b) hb (by omega) hT (gt V a c) hf2 hfb
    exact ⟨Wb, Vb, Option.some.inj (p1.symm.trans q1), q2, q3⟩
  obtain ⟨X, hX⟩ : ∃ X, X = w2 Wa 15 0 (zI 0) := ⟨_, rfl⟩
  rw [← hX] at p1 second
  have hX15 : X 15 0 = zI 0 := by rw [hX, z_w2e]
  have fC : ∀ Y : Nat → Nat → Int32, y_Cf T n W Y → ∀ u, u ≠ 2 → u ≠ 13 → u ≠ 14 → u ≠ 15 → Y u = W u := fun Y h u a b c d => h.1 u a b c d
  have hXu : ∀ u, u ≠ 2 → u ≠ 13 → u ≠ 14 → u ≠ 15 → X u = W u := by
    intro u a b c d
    rw [hX, z_w2u d]
    rcases fo1 with ⟨_, _, _, _, w, -⟩ | ⟨_, _, _, _, _, w, -⟩
    · exact fC _ w.1 u a b c d
    · exact fC _ w.1 u a b c d
  have X0 : X 0 = zV s := by rw [hXu 0 (by omega) (by omega) (by omega) (by omega)]; exact h0
  unfold f_L_load f_X9_load
  rw [p1, z_bdc]
  have rfe : ∀ (V : Nat → Nat → Int32), V 30 2 = zI 0 → f_X10_refuses V (zI 1) (zI 1) = some (zI 1, z_th V 1) := fun V h => z_Gr1 h (by omega)
  rcases fo1 with ⟨c1, x1, s1, g1, w1, -⟩ | ⟨s1, g1, pp, qq, kk, w1, -, -⟩
  · -- a fault
    have x13 : X 13 0 = zI c1 := by rw [hX, z_w2u (by omega)]; exact w1.2.2.1
    have cb := w1.2.2.2.2.1
    obtain ⟨Wb, Vb, q1, q2, q3⟩ := second (z_th X 0) (by rw [z_thu (by omega), hXu 28 (by omega) (by omega) (by omega) (by omega)]) (by rw [z_thk (by omega), hXu 30 (by omega) (by omega) (by omega) (by omega)])
    rw [x13, z_l0, z_eqF (by omega) (by omega) (by omega) (by omega) (by omega)]
    have e13 : X 13 = Wb 13 := by rw [q1, z_w2u (by omega)]
    rcases q3 with ⟨c2, x2, s2, g2, v1, v2⟩ | ⟨s2, g2, p2, q2', k2, v1, -⟩
    · have r2 : Vb 30 2 = zI 0 := by rw [v2.1.2.1 2 (by omega)]; exact z_the
      obtain ⟨V3, hV3⟩ : ∃ V3, V3 = w2 Vb 30 3 (zI 0) := ⟨_, rfl⟩
      have v32 : V3 30 2 = zI 0 := by rw [hV3, z_w2k (by omega)]; exact r2
      have v39 : V3 30 9 = zI c2 := by rw [hV3, z_w2k (by omega)]; exact v2.2.2.1
      have cb2 := v2.2.2.2.2
      have vu : ∀ u, u ≠ 22 → u ≠ 27 → u ≠ 30 → z_th V3 1 u = W u ∨ u = 2 ∨ u = 13 ∨ u = 14 ∨ u = 15 := fun u a c d => by
        by_cases z : u = 2 ∨ u = 13 ∨ u = 14 ∨ u = 15
        · exact Or.inr z
        · refine Or.inl ?_
          rw [z_thu d, hV3, z_w2u d, v2.1.1 u a c d, z_thu d, hXu u (by omega) (by omega) (by omega) (by omega)]
      have vX : ∀ u, u ≠ 22 → u ≠ 27 → u ≠ 30 → z_th V3 1 u = X u := fun u a c d => by rw [z_thu d, hV3, z_w2u d, v2.1.1 u a c d, z_thu d]
      have v30 : ∀ k, k ≠ 2 → k ≠ 3 → (k < 4 ∨ 10 < k) → z_th V3 1 30 k = W 30 k := fun k a c d => by
        rw [z_thk a, hV3, z_w2k c, v2.1.2.1 k d, z_thk a, hXu 30 (by omega) (by omega) (by omega) (by omega)]
      refine ⟨1, zI 0, X, z_th V3 1, ?_, ?_, z_the, by omega, by omega, fun q => absurd q (by omega), ?_⟩
      · rfl
      · show f_X10_load X = _
        unfold f_X10_load
        rw [z_bnd, z_l0, show w2 X 30 2 (zI 0) = z_th X 0 from rfl, q2, z_bdc, z_bnd, ← hV3, z_jn, v39, z_eqF (by omega) (by omega) (by omega) (by omega) (by omega), z_l1]
        dsimp only
        rw [rfe V3 v32, z_bd2, z_eqF (by omega) (by omega) (by omega) (by omega) (by omega)]
      · have w0 : ∀ u, u ≠ 22 → u ≠ 27 → u ≠ 30 → u ≠ 2 → u ≠ 13 → u ≠ 14 → u ≠ 15 → z_th V3 1 u = W u := fun u a c d e f g' h => by
          rcases vu u a c d with q | q
          · exact q
          · omega
        refine y_mkRW H (by omega) ?_ ?_ (fun u hu => w0 u (by omega) (by omega) (by omega) (by omega) (by omega) (by omega) (by omega)) (v30 11 (by omega) (by omega) (by omega)) ?_ ?_ ?_ ?_ ?_
        · rw [w0 0 (by omega) (by omega) (by omega) (by omega) (by omega) (by omega) (by omega), w0 21 (by omega) (by omega) (by omega) (by omega) (by omega) (by omega) (by omega)]
          exact z_pr_le H.1 (by omega)
        · obtain ⟨n', m, st, a1, a2, a3, a4, a5, a6, a7, a8⟩ := H.2.1
          refine ⟨n', m, st, ?_, ?_, by rw [v30 0 (by omega) (by omega) (by omega)]; exact a3, by rw [v30 1 (by omega) (by omega) (by omega)]; exact a4, a5, a6, a7, fun j hj hm => z_pr_le ?_ (show b ≤ b + 36060 by omega)⟩
          · rw [w0 17 (by omega) (by omega) (by omega) (by omega) (by omega) (by omega) (by omega)]; exact a1
          · rw [w0 17 (by omega) (by omega) (by omega) (by omega) (by omega) (by omega) (by omega)]; exact a2
          · rw [w0 (3 + j) (by omega) (by omega) (by omega) (by omega) (by omega) (by omega) (by omega), w0 24 (by omega) (by omega) (by omega) (by omega) (by omega) (by omega) (by omega)]
            exact a8 j hj hm
        · rw [vX 15 (by omega) (by omega) (by omega)]; exact hX15
        · rw [z_thk (by omega), hV3, z_w2e]
        · rw [vX 13 (by omega) (by omega) (by omega), e13, v1.2.2.1, z_thk (by omega), v39]
        · rw [vX 13 (by omega) (by omega) (by omega), e13, v1.2.2.2.1, z_thk (by omega), hV3, z_w2k (by omega), v2.2.2.2.1]
        · refine ⟨s2, ?_, v1.2.2.2.2.2.2.1.2.1⟩
          rw [vX 2 (by omega) (by omega) (by omega), q1, z_w2u (by omega)]
          exact v1.2.2.2.2.2.1
    · exfalso
      have := v1.2.2.1
      rw [← e13, x13, z_eq (by unfold zR; omega) (by unfold zR; omega)] at this
      omega
  · -- all is well
    have x13 : X 13 0 = zI 0 := by rw [hX, z_w2u (by omega)]; exact w1.2.2.1
    have X2 : X 2 = zV s1 := by rw [hX, z_w2u (by omega)]; exact w1.2.2.2.2.1
    have pi1 := w1.2.2.2.2.2
    obtain ⟨Wr, r1, r2, r3⟩ := y_rem H.2.1 h0 hg pi hXu
    have wr2 : Wr 2 = zV s1 := by rw [r2 2 (by omega) (by omega), X2]
    obtain ⟨s2, k1, k2, k3⟩ := z_copy (Wr 0) pi1
    obtain ⟨W5, hW5⟩ : ∃ W5, W5 = w2 (setU Wr 0 (zV s2)) 31 0 (zI (s2 1)) := ⟨_, rfl⟩
    have w5u : ∀ u, u ≠ 0 → u ≠ 31 → W5 u = Wr u := fun u a c => by rw [hW5, z_w2u c, z_sUu a]
    have w5X : ∀ u, u ≠ 0 → u ≠ 31 → ¬ (3 ≤ u ∧ u < 11) → u ≠ 17 → W5 u = X u := fun u a c d e => by rw [w5u u a c, r2 u d e]
    have w5W : ∀ u, u ≠ 0 → u ≠ 31 → ¬ (3 ≤ u ∧ u < 11) → u ≠ 17 → u ≠ 2 → u ≠ 13 → u ≠ 14 → u ≠ 15 → W5 u = W u := fun u a c d e f g' h i => by rw [w5X u a c d e, hXu u f g' h i]
    obtain ⟨Wb, Vb, q1, q2, q3⟩ := second (z_th W5 0) (by rw [z_thu (by omega), w5W 28 (by omega) (by omega) (by omega) (by omega) (by omega) (by omega) (by omega) (by omega)]) (by rw [z_thk (by omega), w5W 30 (by omega) (by omega) (by omega) (by omega) (by omega) (by omega) (by omega) (by omega)])
    have e13 : X 13 = Wb 13 := by rw [q1, z_w2u (by omega)]
    have e2 : X 2 = Wb 2 := by rw [q1, z_w2u (by omega)]
    rcases q3 with ⟨c2, x2, s3, g3, v1, v2⟩ | ⟨s3, g3, p2, q2', kd2, v1, v2, -⟩
    · exfalso
      have := v1.2.2.1
      have cb := v1.2.2.2.2.1
      rw [← e13, x13, z_eq (by unfold zR; omega) (by unfold zR; omega)] at this
      omega
    · have pi3 := v1.2.2.2.2.2
      have z13 : zV s1 = zV s3 := by rw [← X2, e2, v1.2.2.2.2.1]
      obtain ⟨s4, m1, m2, m3⟩ := z_copy (Wr 0) pi3
      have z24 : zV s2 = zV s4 := by
        rw [z13, m1] at k1
        exact (Option.some.inj k1).symm
      obtain ⟨V3, hV3⟩ : ∃ V3, V3 = w2 Vb 30 3 (zI 0) := ⟨_, rfl⟩
      have v32 : V3 30 2 = zI 0 := by rw [hV3, z_w2k (by omega), v2.1.2.1 2 (by omega)]; exact z_the
      have v39 : V3 30 9 = zI 0 := by rw [hV3, z_w2k (by omega)]; exact v2.2.2.1
      have v3u : ∀ u, u ≠ 22 → u ≠ 27 → u ≠ 30 → V3 u = W5 u := fun u a c d => by rw [hV3, z_w2u d, v2.1.1 u a c d, z_thu d]
      have v3k : ∀ k, k ≠ 2 → k ≠ 3 → (k < 4 ∨ 10 < k) → V3 30 k = W 30 k := fun k a c d => by rw [hV3, z_w2k c, v2.1.2.1 k d, z_thk a, w5W 30 (by omega) (by omega) (by omega) (by omega) (by omega) (by omega) (by omega) (by omega)]
      obtain ⟨Vr, l1, l2, l3, l4⟩ := r3 V3 (by rw [v3u 24 (by omega) (by omega) (by omega), w5W 24 (by omega) (by omega) (by omega) (by omega) (by omega) (by omega) (by omega) (by omega)]) (by rw [v3u 21 (by omega) (by omega) (by omega), w5W 21 (by omega) (by omega) (by omega) (by omega) (by omega) (by omega) (by omega) (by omega)]) (v3k 0 (by omega) (by omega) (by omega)) (v3k 1 (by omega) (by omega) (by omega))
      obtain ⟨V6, hV6⟩ : ∃ V6, V6 = setU Vr 21 (z_rw (Vr 21) (Vr 22) 0 0 251) := ⟨_, rfl⟩
      have cr : f_X10_copyRow Vr 22 (zI 0) 21 (zI 0) = some V6 := by
        rw [hV6]
        exact z_crow (a := 0) (c := 0) (by omega) (by decide) (by decide)
      have v6u : ∀ u, u ≠ 21 → u ≠ 24 → u ≠ 30 → V6 u = V3 u := fun u a c d => by rw [hV6, z_sUu a, l2 u c d]
      have v6W : ∀ u, u ≠ 21 → u ≠ 24 → u ≠ 30 → u ≠ 22 → u ≠ 27 → u ≠ 0 → u ≠ 31 → ¬ (3 ≤ u ∧ u < 11) → u ≠ 17 → u ≠ 2 → u ≠ 13 → u ≠ 14 → u ≠ 15 → V6 u = W u := fun u a1 a2 a3 a4 a5 a6 a7 a8 a9 b1 b2 b3 b4 => by rw [v6u u a1 a2 a3, v3u u a4 a5 a3, w5W u a6 a7 a8 a9 b1 b2 b3 b4]
      have v6k : ∀ k, V6 30 k = Vr 30 k := fun k => by rw [hV6, z_sUu (by omega)]
      have v6r : ∀ k, 2 ≤ k → V6 30 k = V3 30 k := fun k hk => by rw [v6k, l3 k hk]
      have vr22 : ∀ k, k < 251 → Vr 22 k = zI (g3 k) := fun k hk => by
        rw [l2 22 (by omega) (by omega), hV3, z_w2u (by omega)]
        exact v2.2.2.2.2.1 k hk
      have v621 : ∀ k, k < 251 → V6 21 k = zI (g3 k) := fun k hk => by
        rw [hV6, z_sUe]
        unfold z_rw
        rw [if_pos (by omega), show 0 + (k - 0) = k by omega]
        exact vr22 k hk
      have val : V6 21 1 = zI (s2 1) := by
        rw [v621 1 (by omega), pi3.2.1.1 1 (by omega), ← m3 1 (by omega)]
        exact (congrFun z24 1).symm
      refine ⟨0, zI (s2 1), W5, V6, ?_, ?_, ?_, by omega, by omega, fun _ => ?_, ?_⟩
      · rw [x13, z_l0, if_pos rfl, r1, z_bdc, wr2, k1, z_bdc, z_bnd, z_sUe]
        rw [hW5, z_v]
        rfl
      · show f_X10_load W5 = _
        unfold f_X10_load
        rw [z_bnd, z_l0, show w2 W5 30 2 (zI 0) = z_th W5 0 from rfl, q2, z_bdc, z_bnd, ← hV3, z_jn, v39, if_pos rfl]
        dsimp only
        rw [z_Gr0 v32, z_bd2, if_pos rfl, l1, z_bdc, cr, z_bdc, z_l1, z_inr (by omega) (by omega) (by omega), z_gd, z_ix1, val]
      · rw [v6r 2 (by omega)]; exact v32
      · rw [v6u 31 (by omega) (by omega) (by omega), v3u 31 (by omega) (by omega) (by omega), hW5, z_w2e]
      · refine y_mkRW H (by omega) ⟨s4, g3, ?_, v621, z_PI_le m2 (by omega)⟩ (l4 V6 (b + 36060) (by omega) ?_ (fun j hj => ?_) ?_ (v6k 0) (v6k 1)) (fun u hu => v6W u (by omega) (by omega) (by omega) (by omega) (by omega) (by omega) (by omega) (by omega) (by omega) (by omega) (by omega) (by omega) (by omega)) ?_ ?_ ?_ ?_ ?_ ?_
        · rw [v6u 0 (by omega) (by omega) (by omega), v3u 0 (by omega) (by omega) (by omega), hW5, z_w2u (by omega), z_sUe, z24]
        · rw [v6u 17 (by omega) (by omega) (by omega), v3u 17 (by omega) (by omega) (by omega), w5u 17 (by omega) (by omega)]
        · rw [v6u (3 + j) (by omega) (by omega) (by omega), v3u (3 + j) (by omega) (by omega) (by omega), w5u (3 + j) (by omega) (by omega)]
        · rw [hV6, z_sUu (by omega)]
        · rw [v6r 11 (by omega), v3k 11 (by omega) (by omega) (by omega)]
        · rw [v6u 15 (by omega) (by omega) (by omega), v3u 15 (by omega) (by omega) (by omega), w5X 15 (by omega) (by omega) (by omega) (by omega)]; exact hX15
        · rw [v6r 3 (by omega), hV3, z_w2e]
        · rw [v6u 13 (by omega) (by omega) (by omega), v3u 13 (by omega) (by omega) (by omega), w5X 13 (by omega) (by omega) (by omega) (by omega), x13, v6r 9 (by omega), v39]
        · rw [v6u 13 (by omega) (by omega) (by omega), v3u 13 (by omega) (by omega) (by omega), w5X 13 (by omega) (by omega) (by omega) (by omega), e13, v1.2.2.2.1, v6r 10 (by omega), hV3, z_w2k (by omega), v2.2.2.2.1]
        · refine ⟨s3, ?_, pi3.1.2.1⟩
          rw [v6u 2 (by omega) (by omega) (by omega), v3u 2 (by omega) (by omega) (by omega), w5X 2 (by omega) (by omega) (by omega) (by omega), X2, z13]
end Ps
