/-! the Hand's constructor: parcels; the whole -/
def x_iD (s : Nat → Int) (Y : Nat → Nat → Int32) (i : Nat) : Prop := (Y 60 0 = zI (s 1) ∧ Y 60 1 = zI (s 3) ∧ Y 60 15 = zI (i : Int) ∧ Y 60 16 = zI 0) ∧ x_r1 s Y ∧ x_r2 s Y ∧ x_r3 s Y ∧ (∀ p : Nat, p < i → ∀ j, j < 9 → Y (40 + p) j = zI (s (143 + 9 * p + j)))
section Hio
variable {b : Int} {s s' : Nat → Int} {W : Nat → Nat → Int32} {Y Y' : Nat → Nat → Int32}
theorem x_i329 (h0 : W 0 = zV s) (h : z_inv b s) (hf : x_fs s) : ∀ (d i N : Nat) (Y : Nat → Nat → Int32), i + d = (s 4).toNat → d < N → x_iD s Y i → ∃ Y', x_rel s Y' ∧ l_ini_329 W N Y (zI (i : Int)) = some Y' := by
  obtain ⟨c0, c1, c2, c3, c4⟩ := h.1
  intro d
  induction d with
  | zero =>
    intro i N Y h1 h2 A
    obtain ⟨N, rfl⟩ : ∃ m, N = m + 1 := ⟨N - 1, by omega⟩
    obtain ⟨⟨A0, A1, A2, A3⟩, B1, B2, B3, B4⟩ := A
    refine ⟨Y, ⟨⟨A0, A1, by rw [A2, show (i : Int) = s 4 by omega], by rw [A3, hf.1]⟩, B1, B2, B3, fun p hp j hj => B4 p (by omega) j hj⟩, ?_⟩
    rw [l_ini_329]
    unfold f_X9_parcelCount
    rw [h0, z_v, z_bdc, z_leT (by omega) (by omega) (by omega)]
  | succ d ih =>
    intro i N Y h1 h2 A
    obtain ⟨N, rfl⟩ : ∃ m, N = m + 1 := ⟨N - 1, by omega⟩
    have hi : (i : Int) < s 4 := by omega
    obtain ⟨⟨A0, A1, A2, A3⟩, B1, B2, B3, B4⟩ := A
    obtain ⟨q3, q4, q5, q6, q7, q8⟩ := hf.2.2.2.2 i hi
    have ixn : ix (Y 60 15) = i := by rw [A2, z_ixn (by omega)]
    obtain ⟨x, hx⟩ : ∃ x, s (143 + 9 * i) = x := ⟨_, rfl⟩
    obtain ⟨y, hy⟩ : ∃ y, s (143 + 9 * i + 1) = y := ⟨_, rfl⟩
    obtain ⟨p, hp⟩ : ∃ p, s (143 + 9 * i + 2) = p := ⟨_, rfl⟩
    have yu : ∀ u, u ≠ 60 → u ≠ 40 + i → f_X10_add Y (zI x) (zI y) (zI p) u = Y u := fun u u1 u2 => by
      unfold f_X10_add
      rw [ixn, z_w2u u1, z_sUu u2]
    have yk : ∀ k, k ≠ 15 → f_X10_add Y (zI x) (zI y) (zI p) 60 k = Y 60 k := fun k hk => by
      unfold f_X10_add
      rw [ixn, z_w2k hk, z_sUu (by omega)]
    have y15 : f_X10_add Y (zI x) (zI y) (zI p) 60 15 = zI ((i : Int) + 1) := by
      unfold f_X10_add
      rw [z_w2e, A2, z_l1, z_add]
    have yn : f_X10_add Y (zI x) (zI y) (zI p) (40 + i) = prow (zI x) (zI y) (zI p) := by
      unfold f_X10_add
      rw [ixn, z_w2u (by omega), z_sUe]
    obtain ⟨Y', e1, e2⟩ := ih (i + 1) N (f_X10_add Y (zI x) (zI y) (zI p)) (by omega) (by omega) (by
      refine ⟨⟨?_, ?_, ?_, ?_⟩, fun a ha => ?_, fun a c ha hc => ?_, fun t ht => ?_, fun m hm j hj => ?_⟩
      · rw [yk 0 (by omega)]; exact A0
      · rw [yk 1 (by omega)]; exact A1
      · rw [y15]; rfl
      · rw [yk 16 (by omega)]; exact A3
      · rw [yu 4 (by omega) (by omega), yu 5 (by omega) (by omega)]
        exact B1 a ha
      · rw [yu _ (by omega) (by omega), yu _ (by omega) (by omega)]
        exact B2 a c ha hc
      · have w := B3 t ht
        unfold x_rt at w ⊢
        rw [yu 61 (by omega) (by omega), yu 7 (by omega) (by omega), yu 8 (by omega) (by omega), yu 9 (by omega) (by omega), yu 10 (by omega) (by omega), yu 11 (by omega) (by omega), yu 12 (by omega) (by omega), yu 13 (by omega) (by omega), yu (32 + t) (by omega) (by omega)]
        exact w
      · by_cases q : m = i
        · subst q
          rw [yn, x_prow x y p hj]
          refine congrArg zI ?_
          rcases z_j9 hj with c | c | c | c | c | c | c | c | c <;> subst c
          · exact hx.symm
          · exact hy.symm
          · exact hp.symm
          · exact hx.symm.trans q3.symm
          · exact q4.symm
          · exact q5.symm
          · exact q6.symm
          · exact q7.symm
          · exact q8.symm
        · rw [yu _ (by omega) (by omega)]
          exact B4 m (by omega) j hj)
    refine ⟨Y', e1, ?_⟩
    rw [l_ini_329]
    unfold f_X9_parcelCount
    rw [h0, z_v, z_bdc, z_leF (by omega) (by omega) (by omega), x_q_origin h0 h hi, x_bdv, x_q_destination h0 h hi, x_bdv, x_q_priority h0 h hi, x_bdv, hx, hy, hp, A2, z_inr (by omega) (by omega) (by omega), z_gd, z_bnd, z_l1, z_add]
    exact e2
theorem x_hin (h0 : W 0 = zV s) (h : z_inv b s) (hf : x_fs s) (h6 : s 1 ≤ 6) (h3 : s 3 ≤ 3) : ∃ Y, f_X10_init W = some Y ∧ x_rel s Y := by
  obtain ⟨c0, c1, c2, c3, c4⟩ := h.1
  obtain ⟨Y1', e1, e2⟩ := x_i86 h0 h h6 (s 1).toNat 0 9 (Y1 (zI (s 1)) (zI (s 3))) (by omega) (by omega) ⟨⟨rfl, rfl, rfl, rfl⟩, fun a ha => absurd ha (by omega), fun a c _ ha => absurd ha (by omega)⟩
  have z7 : ∀ u, ¬ (7 ≤ u ∧ u ≤ 13) → Z7 Y1' u = Y1' u := fun u hu => if_neg hu
  have z7' : ∀ u, (7 ≤ u ∧ u ≤ 13) → Z7 Y1' u = fun _ => 0 := fun u hu => if_pos hu
  obtain ⟨Y2, f1, f2⟩ := x_i249 h0 h hf (s 3).toNat 0 5 (Z7 Y1') (by omega) (by omega) (by
    refine ⟨?_, fun a ha => ?_, fun a c ha hc => ?_, fun t ht => absurd ht (by omega), fun t _ => ?_⟩
    · unfold x_b0
      rw [z7 60 (by omega)]
      exact e1.1
    · rw [z7 4 (by omega), z7 5 (by omega)]
      exact e1.2.1 a (by omega)
    · rw [z7 _ (by omega), z7 _ (by omega)]
      exact e1.2.2 a c hc (by omega)
    · rw [z7' 8 (by omega), z7' 10 (by omega), z7' 11 (by omega), z7' 12 (by omega), z7' 13 (by omega)]
      exact ⟨rfl, rfl, rfl, rfl, rfl⟩)
  obtain ⟨Y3, g1, g2⟩ := x_i329 h0 h hf (s 4).toNat 0 14 Y2 (by omega) (by omega) ⟨f1.1, f1.2.1, f1.2.2.1, fun t ht => f1.2.2.2.1 t (by omega), fun p hp => absurd hp (by omega)⟩
  refine ⟨Y3, ?_, g1⟩
  have ok : ∀ (v : Int) (m : Nat), 0 ≤ v → v ≤ m → m < 100 → iok (zI v) m = true := fun v m v1 v2 v3 => by
    unfold iok
    rw [z_l0, decide_eq_false (by rw [z_lt ⟨by omega, by omega⟩ ⟨by omega, by omega⟩]; omega), z_ixz (by omega) (by omega), Nat.ble_eq.mpr (show v.toNat ≤ m by omega)]
    rfl
  have n1 : (!(decide (Y1' 60 1 < zI ((0 : Nat) : Int)))) = true := by
    rw [e1.1.2.1, decide_eq_false (by rw [z_lt ⟨by omega, by omega⟩ ⟨by omega, by omega⟩]; omega)]
    rfl
  unfold f_X10_init f_X9_stationCount f_X9_trainCount
  rw [h0, z_v, z_bdc, z_v, z_bdc, ok _ 8 (by omega) (by omega) (by omega), z_gd, ok _ 4 (by omega) (by omega) (by omega), z_gd, z_l0, show zI 0 = zI ((0 : Nat) : Int) from rfl, e2]
  rw [n1, z_gd, f2]
  exact g2
end Hio
