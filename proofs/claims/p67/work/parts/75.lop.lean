/-! minutes pass; the law's loop -/
section Lop
variable {b : Int} {s s' : Nat → Int} {W : Nat → Nat → Int32} {Y Y' : Nat → Nat → Int32}
theorem x_mins {x : Int} (hx : 0 ≤ x ∧ x < 2147483648) : ∀ (d i N M : Nat) (b : Int) (s : Nat → Int) (Y : Nat → Nat → Int32), (i : Int) + d = x / 16 % 3 + 1 → d < N → d < M → b + d ≤ 1000000000 → x_J b s → x_rel s Y → s 3 ≤ 3 → ∃ s' Y', l_X4_passMinutes_2 (zI (x / 16 % 3 + 1)) N (zV s) (zI (i : Int)) = some (zV s') ∧ (∀ K : (Nat → Nat → Int32) → Option Int32, l_law_88 (zI x) K M Y (zI (i : Int)) = K Y') ∧ x_J (b + d) s' ∧ x_rel s' Y' ∧ (∀ k, 1 ≤ k → k < 5 → s' k = s k) := by
  have e3 : zI x / 16 - zI x / 16 / 3 * 3 = zI (x / 16 % 3) := by
    rw [show (16 : Int32) = zI 16 from z_lit 16, show (3 : Int32) = zI 3 from z_lit 3, z_div hx (by omega), x_mod (by omega) (by omega)]
  intro d
  induction d with
  | zero =>
    intro i N M b s Y h1 h2 h3 h4 J r hs
    obtain ⟨N, rfl⟩ : ∃ m, N = m + 1 := ⟨N - 1, by omega⟩
    obtain ⟨M, rfl⟩ : ∃ m, M = m + 1 := ⟨M - 1, by omega⟩
    refine ⟨s, Y, ?_, fun K => ?_, by rw [show b + ((0 : Nat) : Int) = b by omega]; exact J, r, fun _ _ _ => rfl⟩
    · rw [l_X4_passMinutes_2, z_leT (by omega) (by omega) (by omega)]
    · rw [l_law_88, e3, z_ltT (by omega) (by omega) (by omega)]
  | succ d ih =>
    intro i N M b s Y h1 h2 h3 h4 J r hs
    obtain ⟨N, rfl⟩ : ∃ m, N = m + 1 := ⟨N - 1, by omega⟩
    obtain ⟨M, rfl⟩ : ∃ m, M = m + 1 := ⟨M - 1, by omega⟩
    obtain ⟨s1, Y1, f1, f2, f3, f4, f5, f6⟩ := x_minute (b := b) (by omega) J r hs
    obtain ⟨s', Y', g1, g2, g3, g4, g5⟩ := ih (i + 1) N M (b + 1) s1 Y1 (by omega) (by omega) (by omega) (by omega) f3 f4 (by rw [f6 3 (by omega) (by omega)]; exact hs)
    refine ⟨s', Y', ?_, fun K => ?_, by rw [show b + ((d + 1 : Nat) : Int) = b + 1 + (d : Int) by omega]; exact g3, g4, fun k k1 k2 => by rw [g5 k k1 k2, f6 k k1 k2]⟩
    · rw [l_X4_passMinutes_2, z_leF (by omega) (by omega) (by omega), f1, z_bdc, z_l1, z_add]
      exact g1
    · rw [l_law_88, e3, z_ltF (by omega) (by omega) (by omega), f2, z_bdc, z_l1, z_add]
      exact g2 K
theorem x_pass (hb : b + 3 ≤ 1000000000) (I : x_LI b W Y s) {x : Int} (hx : 0 ≤ x ∧ x < 2147483648) (hm : 7 ≤ x % 16) : ∃ (d0 d1 : Int) (W' Y' : Nat → Nat → Int32) (s' : Nat → Int), f_L_acts W (zI x) = some (zI (d1 - d0), W') ∧ f_X10_delivered Y = some (zI d0) ∧ (∀ K : (Nat → Nat → Int32) → Option Int32, l_law_88 (zI x) K 4 Y (zI 0) = K Y') ∧ f_X10_delivered Y' = some (zI d1) ∧ x_LI (b + 3) W' Y' s' := by
  obtain ⟨h0, J, r, hs, hh⟩ := id I
  have h := J.1
  have ax := x_ax h0 h hs.1 hx
  obtain ⟨W1, e3, e4, e5, -⟩ := x_rem h0 (x_b01 h) hh
  obtain ⟨m, hm3⟩ : ∃ m : Nat, x / 16 % 3 + 1 = m := ⟨(x / 16 % 3 + 1).toNat, by omega⟩
  obtain ⟨s', Y', g1, g2, g3, g4, g5⟩ := x_mins hx m 0 FU 4 b s Y (by omega) (by unfold FU; omega) (by omega) (by omega) J r hs.2.2
  have J3 : x_J (b + 3) s' := by
    obtain ⟨⟨⟨⟨c0, c0'⟩, c1, c2, c3, c4⟩, rest⟩, hu, hba⟩ := g3
    exact ⟨⟨⟨⟨c0, by omega⟩, c1, c2, c3, c4⟩, rest⟩, hu, hba⟩
  refine ⟨z_ct (z_de s) 0 (s 4).toNat, z_ct (z_de s') 0 (s' 4).toNat, setU W1 0 (zV s'), Y', s', ?_, x_de h (by omega) r, g2, x_de J3.1 hb g4, ?_⟩
  · rw [ax]
    unfold x_AB
    have ne : ∀ k : Int, 0 ≤ k → k ≤ 6 → ¬ zI (x % 16) = zI k := fun k k1 k2 => by
      rw [z_eq (by unfold zR; omega) (by unfold zR; omega)]
      omega
    have ts : tso (zI (x % 16)) 0 6 = true := by
      unfold tso
      rw [z_toInt (by unfold zR; omega), decide_eq_true (show (6 : Int) < x % 16 by omega), Bool.or_true]
    rw [z_l0, z_l1, z_l2, show (3 : Int32) = zI 3 from z_lit 3, show (4 : Int32) = zI 4 from z_lit 4, show (5 : Int32) = zI 5 from z_lit 5, show (6 : Int32) = zI 6 from z_lit 6, if_neg (ne 0 (by omega) (by omega)), if_neg (ne 1 (by omega) (by omega)), if_neg (ne 2 (by omega) (by omega)), if_neg (ne 3 (by omega) (by omega)), if_neg (ne 4 (by omega) (by omega)), if_neg (ne 5 (by omega) (by omega)), if_neg (ne 6 (by omega) (by omega)), ts, z_gd, x_mod (by omega) (by omega), z_add, Int.add_comm]
    unfold f_X9_pass f_X4_passMinutes
    rw [z_l1, show (60 : Int32) = zI 60 from z_lit 60, x_rng (by omega) (by omega) (by omega), x_bdt, e3, z_bdc, e4, z_Cde h (by omega), z_bdc, z_l0]
    rw [show ((0 : Nat) : Int) = 0 from rfl] at g1
    rw [g1, z_bdc, z_bnd, z_sUe, z_Cde J3.1 hb, z_bdc, x_bt2, z_sub]
  · obtain ⟨n, c, k1, k2, k3⟩ := e5
    exact ⟨z_sUe, J3, g4, by rw [g5 1 (by omega) (by omega), g5 3 (by omega) (by omega)]; exact hs, n, c, by rw [z_sUu (by omega)]; exact k1, by rw [z_sUu (by omega)]; exact k2, k3⟩
theorem x_check (hb : b ≤ 1000000000) (I : x_LI b W Y s) (K : Option Int32) : f_check W Y K = K := by
  obtain ⟨h0, J, r, hs, hh⟩ := I
  unfold f_check
  rw [x_agrees hb h0 J.1 J.2.1 r hs.2.2 hs.2.1, z_bdc, if_neg (by decide), x_pb hb h0 J.1, z_bdc, if_pos (by decide), x_lb h0 J, z_bdc, if_pos (by decide)]
theorem x_loop {cl : Int32 → Int32} (hcl : ∀ k : Nat, k < 64 → ∃ x : Int, cl (zI (k : Int)) = zI x ∧ 0 ≤ x ∧ x < 2147483648) : ∀ (d k N : Nat) (b : Int) (W Y : Nat → Nat → Int32) (s : Nat → Int), k + d = 42 → d < N → b + 3 * d ≤ 1000000000 → x_LI b W Y s → l_law_48 cl N W Y (zI (k : Int)) = some 1 := by
  intro d
  induction d with
  | zero =>
    intro k N b W Y s h1 h2 h3 I
    obtain ⟨N, rfl⟩ : ∃ m, N = m + 1 := ⟨N - 1, by omega⟩
    rw [l_law_48, show (42 : Int32) = zI 42 from z_lit 42, z_leT (by omega) (by omega) (by omega)]
  | succ d ih =>
    intro k N b W Y s h1 h2 h3 I
    obtain ⟨N, rfl⟩ : ∃ m, N = m + 1 := ⟨N - 1, by omega⟩
    obtain ⟨x, hx, hx0⟩ := hcl k (by omega)
    have e16 : zI x - zI x / 16 * 16 = zI (x % 16) := by
      rw [show (16 : Int32) = zI 16 from z_lit 16, x_mod hx0 (by omega)]
    rw [l_law_48, show (42 : Int32) = zI 42 from z_lit 42, z_leF (by omega) (by omega) (by omega), z_inr (by omega) (by omega) (by omega), z_gd, hx, z_l1, z_add, e16, show (6 : Int32) = zI 6 from z_lit 6, ← z_l1]
    by_cases hm : x % 16 ≤ 6
    · have out : x_out b W Y s x := by
        by_cases m01 : x % 16 = 0 ∨ x % 16 = 1
        · exact x_act01 I hx0 m01
        by_cases m2 : x % 16 = 2
        · exact x_act2 I hx0 m2
        by_cases m3 : x % 16 = 3
        · exact x_act3 I hx0 m3
        by_cases m4 : x % 16 = 4
        · exact x_act4 (by omega) I hx0 m4
        · exact x_act56 I hx0 (by omega)
      obtain ⟨told, W', e1, e2, e3⟩ := out
      rw [e1, z_bdc, z_leT hm (by omega) (by omega), show (-9 : Int32) = zI (-9) from rfl]
      dsimp only
      rcases e3 with ⟨t9, I'⟩ | ⟨t9, Y', s', fo, I'⟩
      · rw [z_eqT t9, x_check (by omega) I']
        exact ih (k + 1) N b W' Y s (by omega) (by omega) (by omega) I'
      · rw [z_eqF t9 (by omega) (by omega) (by omega) (by omega), fo, z_bdc, x_check (by omega) I']
        exact ih (k + 1) N b W' Y' s' (by omega) (by omega) (by omega) I'
    · obtain ⟨d0, d1, W', Y', s', e1, e2, e3, e4, I'⟩ := x_pass (by omega) I hx0 (by omega)
      rw [e1, z_bdc, z_leF (by omega) (by omega) (by omega), e2, z_bdc]
      dsimp only
      rw [z_l0, e3, e4, z_bdc, z_sub, if_pos rfl, x_check (by omega) I']
      exact ih (k + 1) N (b + 3) W' Y' s' (by omega) (by omega) (by omega) I'
end Lop
