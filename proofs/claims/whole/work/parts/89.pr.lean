/-! load -/
section Pr
variable {W X W' V V' : Nat → Nat → Int32} {s s' g g' : Nat → Int} {b b' : Int}
theorem y_rem (hh : z_rh b W) (h0 : W 0 = zV s) (hg : ∀ k, k < 251 → W 21 k = zI (g k)) (pi : z_PI b s g) (hX : ∀ u, u ≠ 2 → u ≠ 13 → u ≠ 14 → u ≠ 15 → X u = W u) : ∃ Wa, f_X0_remember X = some Wa ∧ (∀ u, ¬ (3 ≤ u ∧ u < 11) → u ≠ 17 → Wa u = X u) ∧ ∀ V0 : Nat → Nat → Int32, V0 24 = W 24 → V0 21 = W 21 → V0 30 0 = W 30 0 → V0 30 1 = W 30 1 → ∃ Vr, f_X10_remember V0 = some Vr ∧ (∀ u, u ≠ 24 → u ≠ 30 → Vr u = V0 u) ∧ (∀ k, 2 ≤ k → Vr 30 k = V0 30 k) ∧ ∀ (V' : Nat → Nat → Int32) (b' : Int), b ≤ b' → V' 17 = Wa 17 → (∀ j, j < 8 → V' (3 + j) = Wa (3 + j)) → V' 24 = Vr 24 → V' 30 0 = Vr 30 0 → V' 30 1 = Vr 30 1 → z_rh b' V' := by
  obtain ⟨n, m, st, a1, a2, a3, a4, a5, a6, a7, a8⟩ := hh
  obtain ⟨Wa, h, k1, k2, k3, k4, k5, k6⟩ := z_Crem (W := X) (by rw [hX 0 (by omega) (by omega) (by omega) (by omega)]; exact h0) pi (by rw [hX 17 (by omega) (by omega) (by omega) (by omega)]; exact a1) (by rw [hX 17 (by omega) (by omega) (by omega) (by omega)]; exact a2) (by omega) a5
  refine ⟨Wa, k1, fun u u1 u2 => k6 u (by omega) u2, fun V0 v24 v21 v30 v31 => ?_⟩
  obtain ⟨Vr, r1, r2, r3, r4, r5, r6⟩ := z_Grem (W := V0) (by rw [v30]; exact a3) (by rw [v31]; exact a4) a5 a6
  refine ⟨Vr, r1, r5, fun k hk => r4 k (by omega) (by omega), fun V' b' hb e17 e3 e24 e30 e31 => ?_⟩
  refine ⟨(n + 1) % 8, if m = 8 then 8 else m + 1, if m = 8 then (st + 1) % 8 else st, ?_, ?_, ?_, ?_, by split <;> omega, by split <;> omega, by split <;> omega, fun j hj hm => ?_⟩
  · rw [e17]; exact k4
  · rw [e17]; exact k5
  · rw [e30]; exact r2
  · rw [e31]; exact r3
  · have row : (fun k => V' 24 (251 * j + k)) = (fun k => Vr 24 (251 * j + k)) := by
      funext k
      rw [e24]
    rw [e3 j hj, row]
    by_cases q : (j : Int) = n
    · have qn : n.toNat = j := by omega
      refine ⟨h, g, by rw [← qn]; exact k2, fun k hk => ?_, z_PI_le (z_PI_315 pi k3 (fun k _ => rfl)) hb⟩
      show Vr 24 (251 * j + k) = _
      rw [r6 j k hk hj, if_pos (by omega), v21]
      exact hg k hk
    · have old : ∃ x : Int, 0 ≤ x ∧ x < m ∧ (st + x) % 8 = j := by
        obtain ⟨x, x1, x2, x3⟩ := hm
        by_cases f : m = 8
        · rw [if_pos f] at x2 x3
          refine ⟨((j : Int) - st + 8) % 8, by omega, by omega, by omega⟩
        · rw [if_neg f] at x2 x3
          exact ⟨x, x1, by omega, x3⟩
      obtain ⟨s1, g1, p1, p2, p3⟩ := a8 j hj old
      refine ⟨s1, g1, by rw [k6 (3 + j) (by omega) (by omega), hX (3 + j) (by omega) (by omega) (by omega) (by omega)]; exact p1, fun k hk => ?_, z_PI_le p3 hb⟩
      show Vr 24 (251 * j + k) = _
      rw [r6 j k hk hj, if_neg (by omega), v24]
      exact p2 k hk
theorem y_255 (a : Int32) : ∃ t : Int, (0 ≤ t ∧ t ≤ 255) ∧ a &&& 255 = zI t := by
  refine ⟨((a.toBitVec.toNat % 256 : Nat) : Int), by omega, ?_⟩
  apply Int32.toBitVec.inj
  rw [z_bvn (by omega), Int32.toBitVec_and]
  apply BitVec.eq_of_toNat_eq
  rw [BitVec.toNat_and, BitVec.toNat_ofNat, show (Int32.toBitVec 255).toNat = 255 by decide, Nat.and_two_pow_sub_one_eq_mod _ 8]
  omega
/-- the text as numbers -/
theorem y_txt (h : z_rt W) : ∃ T n, z_CT T n W ∧ (∀ k, k < 600 → W 28 k = zI (T k)) ∧ W 30 3 = zI (n : Nat) := by
  obtain ⟨n, h1, h2, h3, h4⟩ := h
  refine ⟨fun k => (W 16 k &&& 255).toInt, n.toNat, ⟨fun k hk => (z_of _).symm, fun k => ?_, by omega, by rw [h1]; congr 1; omega⟩, fun k hk => ?_, by rw [h2]; congr 1; omega⟩
  · obtain ⟨t, t1, t2⟩ := y_255 (W 16 k)
    show 0 ≤ (W 16 k &&& 255).toInt ∧ (W 16 k &&& 255).toInt ≤ 255
    rw [t2, z_toInt (by unfold zR; omega)]
    exact t1
  · rw [← h4 k hk]
    exact (z_of _).symm
end Pr
