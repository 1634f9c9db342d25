/-! the start -/
section Pv
variable {W X W' V V' : Nat → Nat → Int32} {s s' g g' : Nat → Int} {b b' : Int}
theorem w_l0 : lenS 0 = 166 := by decide
theorem w_c0 : ∀ k, k < 166 → chS 0 k &&& 255 = chS 0 k := by
  have h : (List.range 166).all (fun k => decide (chS 0 k &&& 255 = chS 0 k)) = true := by decide +kernel
  exact fun k hk => of_decide_eq_true (List.all_eq_true.mp h k (List.mem_range.mpr hk))
theorem w_apt : ∀ d N (W : Nat → Nat → Int32) (m : Nat), m + d = 166 → d < N → W 15 0 = zI m → ∃ W', l_X6_appendText_2 0 N W (zI (m : Int)) = some W' ∧ W' 15 0 = zI 166 ∧ (∀ k, m ≤ k → k < 166 → W' 16 k &&& 255 = chS 0 k) ∧ (∀ k, k < m ∨ 166 ≤ k → W' 16 k = W 16 k) ∧ ∀ u, u ≠ 15 → u ≠ 16 → W' u = W u := by
  intro d
  induction d with
  | zero =>
    intro N W m hm hN h
    obtain ⟨N, rfl⟩ : ∃ k, N = k + 1 := ⟨N - 1, by omega⟩
    refine ⟨W, ?_, by rw [h]; congr 1; omega, fun k a b => by omega, fun _ _ => rfl, fun _ _ _ => rfl⟩
    rw [l_X6_appendText_2, z_n, w_l0, z_leT (by omega) (by omega) (by omega)]
  | succ d ih =>
    intro N W m hm hN h
    obtain ⟨N, rfl⟩ : ∃ k, N = k + 1 := ⟨N - 1, by omega⟩
    obtain ⟨W1, e1, k1, k2, k3, k4⟩ := z_apb (x := chS 0 m) (y := chS 0 m) (by rw [z_by0, w_c0 m (by omega)]) h (by omega)
    rw [List.length_singleton] at k2 k3
    obtain ⟨W', f1, f2, f3, f4, f5⟩ := ih N W1 (m + 1) (by omega) (by omega) k2
    refine ⟨W', ?_, f2, fun k a b => ?_, fun k hk => by rw [f4 k (by omega), k3 k (by omega)], fun u a b => by rw [f5 u a b, k1 u a b]⟩
    · rw [l_X6_appendText_2, z_n, w_l0, z_leF (by omega) (by omega) (by omega), z_inr (by omega) (by omega) (by omega), z_gd, z_ixn (by omega), e1, z_bdc, z_l1, z_add]
      exact f1
    · by_cases c : k = m
      · rw [c, f4 m (by omega)]
        have := k4 0 (by rw [List.length_singleton]; omega)
        rw [Nat.add_zero] at this
        exact this
      · exact f3 k (by omega) b
theorem w_lay : ∀ d N (W : Nat → Nat → Int32) (m : Nat), m + d = 166 → d < N → ∃ W', l_X10_layInput_2 0 N W (zI (m : Int)) = some W' ∧ W' 30 3 = zI 166 ∧ (∀ k, m ≤ k → k < 166 → W' 28 k = chS 0 k) ∧ (∀ k, k < m ∨ 166 ≤ k → W' 28 k = W 28 k) ∧ (∀ k, k ≠ 3 → W' 30 k = W 30 k) ∧ ∀ u, u ≠ 28 → u ≠ 30 → W' u = W u := by
  intro d
  induction d with
  | zero =>
    intro N W m hm hN
    obtain ⟨N, rfl⟩ : ∃ k, N = k + 1 := ⟨N - 1, by omega⟩
    refine ⟨w2 W 30 3 (zI 166), ?_, z_w2e, fun k a b => by omega, fun _ _ => by rw [z_w2u (by omega)], fun k hk => z_w2k hk, fun u _ a => z_w2u a⟩
    rw [l_X10_layInput_2, z_n, w_l0, z_leT (by omega) (by omega) (by omega), z_bnd]
    rfl
  | succ d ih =>
    intro N W m hm hN
    obtain ⟨N, rfl⟩ : ∃ k, N = k + 1 := ⟨N - 1, by omega⟩
    obtain ⟨W', f1, f2, f3, f4, f5, f6⟩ := ih N (w2 W 28 m (chS 0 m)) (m + 1) (by omega) (by omega)
    refine ⟨W', ?_, f2, fun k a b => ?_, fun k hk => by rw [f4 k (by omega), z_w2k (by omega)], fun k hk => by rw [f5 k hk, z_w2u (by omega)], fun u a b => by rw [f6 u a b, z_w2u a]⟩
    · rw [l_X10_layInput_2, z_n, w_l0, z_leF (by omega) (by omega) (by omega), z_inr (by omega) (by omega) (by omega), z_gd, z_inr (by omega) (by omega) (by omega), z_gd, z_ixn (by omega), z_bnd, z_l1, z_add]
      exact f1
    · by_cases c : k = m
      · rw [c, f4 m (by omega), z_w2e]
      · exact f3 k (by omega) b
def w_V0 : Nat → Nat → Int32 := fun u k => if u = 28 then chS 0 k else if u = 30 ∧ k = 3 then 166 else 0
def w_T (k : Nat) : Int := if k < 166 then (chS 0 k).toInt else 0
theorem w_T1 (k : Nat) (hk : k < 166) : chS 0 k = zI (w_T k) := by
  unfold w_T
  rw [if_pos hk]
  exact (z_of _).symm
theorem w_T0 (k : Nat) (hk : 166 ≤ k) : zI (w_T k) = 0 := by
  unfold w_T
  rw [if_neg (by omega)]
  rfl
theorem w_Tb (k : Nat) : 0 ≤ w_T k ∧ w_T k ≤ 255 := by
  by_cases c : k < 166
  · obtain ⟨t, t1, t2⟩ := y_255 (chS 0 k)
    rw [w_c0 k c] at t2
    unfold w_T
    rw [if_pos c, t2, z_toInt (by unfold zR; omega)]
    exact t1
  · unfold w_T
    rw [if_neg c]
    omega
/-- the first text has no fault -/
theorem w_ok : (match f_X10_read w_V0 with | some W => decide (W 30 9 = 0) | none => false) = true := by decide +kernel
theorem w_init : ∃ W1 W2, f_X9_init W00 = some W1 ∧ f_X10_init (WR W1) = some W2 ∧ z_RW 36060 (setU W2 31 (fun _ => (0 : Int32))) := by
  have o0 : ∀ u k, u ≠ 13 → W00 u k = 0 := fun u k h => if_neg (fun q => h q.1)
  obtain ⟨Wt, a1, a2, a3, a4, a5⟩ := w_apt 166 FU W00 0 (by omega) (by unfold FU; omega) (by rw [o0 15 0 (by omega)]; rfl)
  rw [show zI ((0 : Nat) : Int) = zI 0 from rfl] at a1
  have hT : z_CT w_T 166 Wt := by
    refine ⟨fun k hk => ?_, w_Tb, by omega, a2⟩
    by_cases c : k < 166
    · rw [a3 k (by omega) c, w_T1 k c]
    · rw [a4 k (by omega), o0 16 k (by omega), w_T0 k (by omega)]
      rfl
  have hV0 : z_GT w_T 166 w_V0 := by
    refine ⟨fun k hk => ?_, w_Tb, by omega, rfl⟩
    show (if (28 : Nat) = 28 then chS 0 k else _) = _
    rw [if_pos rfl]
    by_cases c : k < 166
    · exact w_T1 k c
    · rw [w_T0 k (by omega)]
      unfold chS
      rw [List.getD_eq_getElem?_getD (l := bytsS.getD 0 []), List.getElem?_eq_none (by rw [show (bytsS.getD 0 []).length = 166 by decide +kernel]; omega)]
      rfl
  have wt2 : Wt 2 = zV (fun _ => 0) := by
    rw [a5 2 (by omega) (by omega)]
    funext k
    exact o0 2 k (by omega)
  have bos0 : z_bos (fun _ => 0) := ⟨fun _ _ => Or.inl rfl, fun _ _ => Or.inl rfl, fun _ _ => Or.inl rfl⟩
  obtain ⟨Wa, Va, p1, p2, fo1⟩ := y_prs (b := 0) (by omega) (by omega) hT hV0 wt2 bos0
  have ok := w_ok
  rw [p2] at ok
  have ok := of_decide_eq_true ok
  rcases fo1 with ⟨c1, x1, s1, g1, -, w1⟩ | ⟨s1, g1, pp, qq, kk, w1, -, -⟩
  · exfalso
    have := w1.2.2.1
    have cb := w1.2.2.2.2
    rw [ok, z_l0, z_eq (by unfold zR; omega) (by unfold zR; omega)] at this
    omega
  · obtain ⟨X, hX⟩ : ∃ X, X = w2 Wa 15 0 (zI 0) := ⟨_, rfl⟩
    rw [← hX] at p1
    have hX15 : X 15 0 = zI 0 := by rw [hX, z_w2e]
    have hXu : ∀ u, u ≠ 2 → u ≠ 13 → u ≠ 14 → u ≠ 15 → X u = Wt u := fun u a b c d => by rw [hX, z_w2u d]; exact w1.1.1 u a b c d
    have X2 : X 2 = zV s1 := by rw [hX, z_w2u (by omega)]; exact w1.2.2.2.2.1
    have x13 : X 13 0 = zI 0 := by rw [hX, z_w2u (by omega)]; exact w1.2.2.1
    obtain ⟨s2, k1, k2, k3⟩ := z_copy (X 0) w1.2.2.2.2.2
    have e9 : f_X9_init W00 = some (setU X 0 (zV s2)) := by
      unfold f_X9_init f_X6_appendText
      rw [z_l0, a1, z_bdc, p1, z_bdc, X2, k1, z_bdc, z_bnd]
    obtain ⟨Vt, l1, l2, l3, l4, l5, l6⟩ := w_lay 166 FU (WR (setU X 0 (zV s2))) 0 (by omega) (by unfold FU; omega)
    rw [show zI ((0 : Nat) : Int) = zI 0 from rfl] at l1
    have wr : ∀ (Y : Nat → Nat → Int32) u k, 21 ≤ u → (u ≠ 30 ∨ k ≠ 10) → WR Y u k = 0 := fun Y u k h1 h2 => by
      unfold WR
      rw [if_neg (by omega), if_neg (by omega)]
    have wl : ∀ (Y : Nat → Nat → Int32) u, u < 21 → WR Y u = Y u := fun Y u h1 => by
      funext k
      unfold WR
      rw [if_pos h1]
    have hVt : z_GT w_T 166 Vt := by
      refine ⟨fun k hk => ?_, w_Tb, by omega, l2⟩
      by_cases c : k < 166
      · rw [l3 k (by omega) c, w_T1 k c]
      · rw [l4 k (by omega), wr _ 28 k (by omega) (by omega), w_T0 k (by omega)]
    obtain ⟨Wb, Vb, q1, q2, q3⟩ := y_prs (b := 0) (by omega) (by omega) hT hVt wt2 bos0
    have qX : X = w2 Wb 15 0 (zI 0) := Option.some.inj (p1.symm.trans q1)
    have e13 : X 13 = Wb 13 := by rw [qX, z_w2u (by omega)]
    have e2 : X 2 = Wb 2 := by rw [qX, z_w2u (by omega)]
    rcases q3 with ⟨c2, x2, s3, g3, v1, v2⟩ | ⟨s3, g3, p2, q2', kd2, v1, v2, -⟩
    · exfalso
      have := v1.2.2.1
      have cb := v1.2.2.2.2.1
      rw [← e13, x13, z_eq (by unfold zR; omega) (by unfold zR; omega)] at this
      omega
    · have pi3 := v1.2.2.2.2.2
      have z13 : zV s1 = zV s3 := by rw [← X2, e2, v1.2.2.2.2.1]
      obtain ⟨s4, m1, m2, m3⟩ := z_copy (X 0) pi3
      have z24 : zV s2 = zV s4 := by
        rw [z13, m1] at k1
        exact (Option.some.inj k1).symm
      obtain ⟨V3, hV3⟩ : ∃ V3, V3 = w2 Vb 30 3 (zI 0) := ⟨_, rfl⟩
      obtain ⟨V6, hV6⟩ : ∃ V6, V6 = setU V3 21 (z_rw (V3 21) (V3 22) 0 0 251) := ⟨_, rfl⟩
      have cr : f_X10_copyRow V3 22 (zI 0) 21 (zI 0) = some V6 := by
        rw [hV6]
        exact z_crow (a := 0) (c := 0) (by omega) (by decide) (by decide)
      have e10 : f_X10_init (WR (setU X 0 (zV s2))) = some V6 := by
        unfold f_X10_init f_X10_layInput
        rw [z_l0, l1, z_bdc, q2, z_bdc, z_bnd, ← hV3, cr, z_bdc]
      refine ⟨_, V6, e9, e10, ?_⟩
      obtain ⟨Z, hZ⟩ : ∃ Z, Z = setU V6 31 (fun _ => (0 : Int32)) := ⟨_, rfl⟩
      rw [← hZ]
      have zu1 : ∀ u, u ≠ 31 → u ≠ 21 → u ≠ 30 → u ≠ 22 → u ≠ 27 → Z u = Vt u := fun u a b c d e => by
        rw [hZ, z_sUu a, hV6, z_sUu b, hV3, z_w2u c, v2.1.1 u d e c]
      have zlo : ∀ u, u < 21 → u ≠ 0 → Z u = X u := fun u a b => by
        rw [zu1 u (by omega) (by omega) (by omega) (by omega) (by omega), l6 u (by omega) (by omega), wl _ u a, z_sUu b]
      have zt : ∀ u k, u < 21 → u ≠ 0 → u ≠ 2 → u ≠ 13 → u ≠ 14 → u ≠ 15 → u ≠ 16 → Z u k = 0 := fun u k a b c d e f h => by
        rw [zlo u a b, hXu u c d e f, a5 u f h, o0 u k d]
      have zhi : ∀ u k, 21 < u → u ≠ 31 → u ≠ 30 → u ≠ 22 → u ≠ 27 → u ≠ 28 → Z u k = 0 := fun u k a b c d e f => by
        rw [zu1 u b (by omega) c d e, l6 u f c, wr _ u k (by omega) (by omega)]
      have z30 : ∀ k, k ≠ 3 → (k < 4 ∨ 10 < k) → Z 30 k = 0 := fun k a b => by
        rw [hZ, z_sUu (by omega), hV6, z_sUu (by omega), hV3, z_w2k a, v2.1.2.1 k b, l5 k a, wr _ 30 k (by omega) (by omega)]
      have z309 : ∀ k, k ≠ 3 → Z 30 k = Vb 30 k := fun k a => by
        rw [hZ, z_sUu (by omega), hV6, z_sUu (by omega), hV3, z_w2k a]
      have z303 : Z 30 3 = zI 0 := by rw [hZ, z_sUu (by omega), hV6, z_sUu (by omega), hV3, z_w2e]
      refine ⟨⟨s4, g3, ?_, fun k hk => ?_, z_PI_le m2 (by omega)⟩, ⟨0, 0, 0, zt 17 0 (by omega) (by omega) (by omega) (by omega) (by omega) (by omega) (by omega), zt 17 1 (by omega) (by omega) (by omega) (by omega) (by omega) (by omega) (by omega), z30 0 (by omega) (by omega), z30 1 (by omega) (by omega), by omega, by omega, by omega, fun j hj hm => ?_⟩, fun i hi => Or.inl ⟨zt 20 i (by omega) (by omega) (by omega) (by omega) (by omega) (by omega) (by omega), zhi 26 i (by omega) (by omega) (by omega) (by omega) (by omega) (by omega)⟩, ⟨0, ?_, z303, by omega, fun k hk => ?_⟩, ⟨?_, ?_⟩, ⟨0, zt 18 0 (by omega) (by omega) (by omega) (by omega) (by omega) (by omega) (by omega), z30 11 (by omega) (by omega), by omega, fun k hk => by omega⟩, ⟨s3, ?_, pi3.1.2.1⟩⟩
      · rw [zu1 0 (by omega) (by omega) (by omega) (by omega) (by omega), l6 0 (by omega) (by omega), wl _ 0 (by omega), z_sUe, z24]
      · rw [hZ, z_sUu (by omega), hV6, z_sUe]
        unfold z_rw
        rw [if_pos (by omega), show 0 + (k - 0) = k by omega, hV3, z_w2u (by omega)]
        exact v2.2.2.2.2.1 k hk
      · obtain ⟨m, m1, m2, -⟩ := hm
        omega
      · rw [zlo 15 (by omega) (by omega)]; exact hX15
      · rw [zlo 16 (by omega) (by omega), hXu 16 (by omega) (by omega) (by omega) (by omega), hT.1 k hk, zu1 28 (by omega) (by omega) (by omega) (by omega) (by omega), hVt.1 k hk]
      · rw [zlo 13 (by omega) (by omega), x13, z309 9 (by omega), v2.2.2.1]
      · rw [zlo 13 (by omega) (by omega), e13, v1.2.2.2.1, z309 10 (by omega), v2.2.2.2.1]
      · rw [zlo 2 (by omega) (by omega), X2, z13]
/-- the law holds of every script that is short enough -/
theorem w_all {L : Nat} {xs : Nat → Int32} (hL : L ≤ 3072) : f_law L xs = some () := by
  obtain ⟨W1, W2, h1, h2, H⟩ := w_init
  exact w_law hL h1 h2 H
end Pv
