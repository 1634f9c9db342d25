/-! calls that change the state -/
section Chg
variable {W W' V V' : Nat → Nat → Int32} {b c : Int} {s s' g g' : Nat → Int}
theorem z_RW_rem (H : z_RW b W) (h0 : W 0 = zV s) (hg : ∀ k, k < 251 → W 21 k = zI (g k)) (pi : z_PI b s g) : ∃ Wa, f_X0_remember W = some Wa ∧ (∀ u, ¬ (3 ≤ u ∧ u < 11) → u ≠ 17 → Wa u = W u) ∧ ∀ (s' : Nat → Int) (V0 : Nat → Nat → Int32), V0 0 = zV s' → (∀ u, u ≠ 0 → u ≠ 1 → u ≠ 31 → u ≠ 30 → V0 u = Wa u) → (∀ k, k ≠ 2 → V0 30 k = W 30 k) → ∃ Vr, f_X10_remember V0 = some Vr ∧ (∀ u, u ≠ 24 → u ≠ 30 → Vr u = V0 u) ∧ (∀ k, 2 ≤ k → Vr 30 k = V0 30 k) ∧ ∀ (V' : Nat → Nat → Int32) (g' : Nat → Int) (b' : Int), b ≤ b' → (∀ u, u ≠ 21 → u ≠ 23 → u ≠ 27 → V' u = Vr u) → (∀ k, k < 251 → V' 21 k = zI (g' k)) → z_PI b' s' g' → z_RW b' V' := by
  obtain ⟨-, hh, hl, ht, he, ho, hp⟩ := H
  obtain ⟨n, m, st, a1, a2, a3, a4, a5, a6, a7, a8⟩ := hh
  obtain ⟨Wa, h, k1, k2, k3, k4, k5, k6⟩ := z_Crem h0 pi a1 a2 (by omega) a5
  refine ⟨Wa, k1, fun u u1 u2 => k6 u (by omega) u2, fun s' V0 v0 v1 v2 => ?_⟩
  obtain ⟨Vr, r1, r2, r3, r4, r5, r6⟩ := z_Grem (W := V0) (by rw [v2 0 (by omega)]; exact a3) (by rw [v2 1 (by omega)]; exact a4) a5 a6
  refine ⟨Vr, r1, r5, fun k hk => r4 k (by omega) (by omega), fun V' g' b' hb e1 e2 e3 => ?_⟩
  have eq : ∀ u, u ≠ 0 → u ≠ 1 → u ≠ 21 → u ≠ 23 → u ≠ 24 → u ≠ 27 → u ≠ 30 → u ≠ 31 → V' u = Wa u := fun u u0 u1 u2 u3 u4 u5 u6 u7 => by
    rw [e1 u u2 u3 u5, r5 u u4 u6, v1 u u0 u1 u7 u6]
  have e30 : ∀ k, 3 ≤ k → V' 30 k = W 30 k := fun k hk => by rw [e1 30 (by omega) (by omega) (by omega), r4 k (by omega) (by omega), v2 k (by omega)]
  have un : z_UN W V' := ⟨fun u hu => by rw [eq u (by omega) (by omega) (by omega) (by omega) (by omega) (by omega) (by omega) (by omega), k6 u (by omega) (by omega)], e30⟩
  refine ⟨⟨s', g', by rw [e1 0 (by omega) (by omega) (by omega), r5 0 (by omega) (by omega)]; exact v0, e2, e3⟩, ?_, z_rl_le (z_UN_rl un hl) hb, z_UN_rt un ht, z_UN_re un he, z_UN_ro un ho, z_UN_rp un hp⟩
  refine ⟨(n + 1) % 8, if m = 8 then 8 else m + 1, if m = 8 then (st + 1) % 8 else st, ?_, ?_, ?_, ?_, by split <;> omega, by split <;> omega, by split <;> omega, fun j hj hm => ?_⟩
  · rw [eq 17 (by omega) (by omega) (by omega) (by omega) (by omega) (by omega) (by omega) (by omega)]; exact k4
  · rw [eq 17 (by omega) (by omega) (by omega) (by omega) (by omega) (by omega) (by omega) (by omega)]; exact k5
  · rw [e1 30 (by omega) (by omega) (by omega)]; exact r2
  · rw [e1 30 (by omega) (by omega) (by omega)]; exact r3
  · have row : (fun k => V' 24 (251 * j + k)) = (fun k => Vr 24 (251 * j + k)) := by
      funext k
      rw [e1 24 (by omega) (by omega) (by omega)]
    rw [eq (3 + j) (by omega) (by omega) (by omega) (by omega) (by omega) (by omega) (by omega) (by omega), row]
    by_cases q : (j : Int) = n
    · have qn : n.toNat = j := by omega
      refine ⟨h, g, by rw [← qn]; exact k2, fun k hk => ?_, z_PI_le (z_PI_315 pi k3 (fun k _ => rfl)) hb⟩
      show Vr 24 (251 * j + k) = _
      rw [r6 j k hk hj, if_pos (by omega), v1 21 (by omega) (by omega) (by omega) (by omega), k6 21 (by omega) (by omega)]
      exact hg k hk
    · have old : ∃ x : Int, 0 ≤ x ∧ x < m ∧ (st + x) % 8 = j := by
        obtain ⟨x, x1, x2, x3⟩ := hm
        by_cases f : m = 8
        · rw [if_pos f] at x2 x3
          refine ⟨((j : Int) - st + 8) % 8, by omega, by omega, by omega⟩
        · rw [if_neg f] at x2 x3
          exact ⟨x, x1, by omega, x3⟩
      obtain ⟨s1, g1, p1, p2, p3⟩ := a8 j hj old
      refine ⟨s1, g1, by rw [k6 (3 + j) (by omega) (by omega)]; exact p1, fun k hk => ?_, z_PI_le p3 hb⟩
      show Vr 24 (251 * j + k) = _
      rw [r6 j k hk hj, if_neg (by omega), v1 24 (by omega) (by omega) (by omega) (by omega), k6 24 (by omega) (by omega)]
      exact p2 k hk
theorem z_Q_RW (H : z_RW b W) : ∃ s g, z_Q b W s g := H.1
theorem z_m_pass (hB : b ≤ 100000000) (H : z_RW b W) {n : Int} (hn : zR n) : z_AG (f_L_pass W (zI n)) (fun W1 => f_X10_pass W1 (zI n)) (z_RW (b + 60)) := by
  obtain ⟨s, g, h⟩ := z_Q_RW H
  obtain ⟨h0, hg, pi⟩ := id h
  by_cases v : 1 ≤ n ∧ n ≤ 60
  · obtain ⟨m, rfl⟩ : ∃ m : Nat, n = m := ⟨n.toNat, by omega⟩
    obtain ⟨Wa, r1, r2, r3⟩ := z_RW_rem H h0 hg pi
    obtain ⟨g0, e1, p0⟩ := z_pkg (T := W 27) h
    obtain ⟨s1, g1, m1, m2, m3, -⟩ := z_minN (n := m) (by omega) (by omega) p0
    have cd0 := z_Cde pi.1 (show b ≤ 1000000000 by omega)
    have gd0 := z_Gde p0.1 (show b ≤ 1000000000 by omega) p0.2.1
    have cd := z_Cde m3.1 (show b + m ≤ 1000000000 by omega)
    have gd' := z_Gde m3.1 (show b + m ≤ 1000000000 by omega) m3.2.1
    obtain ⟨x, hx⟩ : ∃ x, z_ct (z_de s1) 0 (s1 4).toNat = x := ⟨_, rfl⟩
    obtain ⟨y, hy⟩ : ∃ x, z_ct (z_de s) 0 (s 4).toNat = x := ⟨_, rfl⟩
    rw [hx] at cd gd'
    rw [hy] at cd0 gd0
    have wa0 : Wa 0 = zV s := by rw [r2 0 (by omega) (by omega), h0]
    obtain ⟨V0, hV0⟩ : ∃ V0, V0 = z_th (w2 (setU Wa 0 (zV s1)) 31 0 (zI (x - y))) 0 := ⟨_, rfl⟩
    have v0o : ∀ u, u ≠ 0 → u ≠ 31 → u ≠ 30 → V0 u = Wa u := fun u u0 u1 u2 => by rw [hV0, z_thu u2, z_w2u u1, z_sUu u0]
    obtain ⟨Vr, q1, q2, q3, q4⟩ := r3 s1 V0 (by rw [hV0, z_thu (by omega), z_w2u (by omega), z_sUe]) (fun u u0 _ u1 u2 => v0o u u0 u1 u2) (fun k hk => by rw [hV0, z_thk hk, z_w2u (by omega), z_sUu (by omega), r2 30 (by omega) (by omega)])
    have vr21 : Vr 21 = W 21 := by rw [q2 21 (by omega) (by omega), v0o 21 (by omega) (by omega) (by omega), r2 21 (by omega) (by omega)]
    have vr27 : Vr 27 = W 27 := by rw [q2 27 (by omega) (by omega), v0o 27 (by omega) (by omega) (by omega), r2 27 (by omega) (by omega)]
    have pq : pk (setQ Vr 21 (zV g1) 21) (setQ Vr 21 (zV g1) 27) = zV g1 := by
      rw [z_sQu (by omega), z_sQ7]
      funext k
      unfold pk
      by_cases c : k < 251
      · rw [if_pos c]
      · rw [if_neg c]
        show zV g1 (251 + (k - 251)) = zV g1 k
        rw [show 251 + (k - 251) = k by omega]
    refine ⟨0, zI (x - y), w2 (setU Wa 0 (zV s1)) 31 0 (zI (x - y)), setQ Vr 21 (zV g1), ?_, ?_, ?_, by omega, by omega, fun _ => ?_, q4 _ g1 (b + 60) (by omega) (fun u u1 u2 u3 => z_sQx u1 u3) (fun k hk => by rw [z_sQu (by omega)]; rfl) (z_PI_le m3 (by omega))⟩
    · unfold f_L_pass f_X9_pass
      rw [z_l1, z_l60, z_Crg hn (by unfold zR; omega) (by unfold zR; omega), if_pos v, z_btr, r1, z_bdc, wa0, cd0, z_bdc, m1, z_bdc, z_bnd, z_sUe, cd, z_bdc, z_sub, z_b2r, z_bnd, z_l0]
    · show f_X10_pass (w2 (setU Wa 0 (zV s1)) 31 0 (zI (x - y))) (zI m) = _
      unfold f_X10_pass
      rw [z_l1, z_l60, z_l0, z_Gnn hn (by unfold zR; omega) (by unfold zR; omega), z_o0 v, ← hV0, z_bd2, if_pos rfl, q1, z_bdc, vr21, vr27, e1, gd0, z_bdc, m2, z_bdc, z_bnd, pq, gd', z_bdc, z_sub]
    · rw [z_sQx (by omega) (by omega), q3 2 (by omega), hV0]
      exact z_the
    · rw [z_sQx (by omega) (by omega), q2 31 (by omega) (by omega), hV0, z_thu (by omega), z_w2e]
  · refine ⟨1, zI 0, W, z_th W 1, ?_, ?_, z_the, by omega, by omega, fun q => absurd q (by omega), z_RW_le (z_RW_EQ H z_EQ_th) (by omega)⟩
    · unfold f_L_pass f_X9_pass
      rw [z_l1, z_l60, z_Crg hn (by unfold zR; omega) (by unfold zR; omega), if_neg v, z_btl, z_b2l, if_pos rfl]
    · show f_X10_pass W (zI n) = _
      unfold f_X10_pass
      rw [z_l1, z_l60, z_l0, z_Gnn hn (by unfold zR; omega) (by unfold zR; omega), z_o1 v]
      simp (disch := omega) only [z_lit, z_n, z_add, z_sub, z_mul, z_neg, z_lt1, z_lt0, z_le1, z_le0, z_eq1, z_eq0, z_10, ↓reduceIte, z_v, z_upd, z_ue, z_un, z_ixn, z_ixo, z_ix0, z_ix1, z_ix2, z_ix3, z_ix4, z_ix5, z_ix6, Int.reduceToNat, z_inr, z_gd, ↓z_bnd, ↓z_jn, z_bdc, z_bd2, z_opn, z_ops, z_z01, z_Bt, z_Bf]
end Chg
