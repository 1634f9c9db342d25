/-! the law's text: the whole of it -/
section Txc
variable {s0 g0 s s' g g' : Nat → Int} {T : List Int32}
theorem x_aro {n : Nat} {x : Int} {v2 v3 : Int32} (hn : 3 ≤ n ∧ n ≤ 6) (h2 : v2 = zI x) (h3 : v3 = zI (n : Int)) (hx : 0 ≤ x ∧ x < 2147483648) (hT : x_T s0 g0 T (n + (n - 1)) s g) (hG : x_G n (n - 1) 0 0 s g) (hl : T.length ≤ 60 + 12 * (n - 1)) : ∃ T' m s' g', x_T s0 g0 T' 12 s' g' ∧ x_G n m 0 0 s' g' ∧ n ≤ m + 1 ∧ T'.length ≤ 132 ∧ ∀ (F : List Int32 → Option (List Int32)), jn F (fun j24 => if ((v2 / (512 : Int32)) - (v2 / (512 : Int32)) / (2 : Int32) * (2 : Int32)) = 0 then gd (Nat.ble (List.length T + lenS 20) 300) (bnd (T ++ TXb 20) (fun T27 => gd (inr (v3 - (1 : Int32)) (lenS 18)) (gd (inr (chS 18 (ix (v3 - (1 : Int32)))) 128 && Nat.ble (List.length T27 + 1) 300) (bnd (T27 ++ [chS 18 (ix (v3 - (1 : Int32)))]) (fun T28 => gd (inr (32 : Int32) 128 && Nat.ble (List.length T28 + 1) 300) (bnd (T28 ++ [(32 : Int32)]) (fun T29 => gd (inr ((1 : Int32) + ((v2 / (1024 : Int32)) - (v2 / (1024 : Int32)) / (6 : Int32) * (6 : Int32))) 10 && Nat.ble (List.length T29 + 1) 300) (bnd (T29 ++ [nI (48 + ix ((1 : Int32) + ((v2 / (1024 : Int32)) - (v2 / (1024 : Int32)) / (6 : Int32) * (6 : Int32))))]) (fun T30 => gd (inr (59 : Int32) 128 && Nat.ble (List.length T30 + 1) 300) (bnd (T30 ++ [(59 : Int32)]) (fun T31 => j24 T31))))))))))) else j24 T) = F T' := by
  subst h2 h3
  have e1 : zI x / zI 512 - zI x / zI 512 / zI 2 * zI 2 = zI (x / 512 % 2) := x_dm hx (by omega) (by omega)
  by_cases c : x / 512 % 2 = 0
  · obtain ⟨w, hw⟩ : ∃ w, x / 1024 % 6 = w := ⟨_, rfl⟩
    have e2 : zI x / zI 1024 - zI x / zI 1024 / zI 6 * zI 6 = zI w := by rw [x_dm hx (by omega) (by omega), hw]
    obtain ⟨s1, g1, f1, f2⟩ := x_Gs3 (a := 0) (b := n - 1) (w := 1 + w) hG (by omega) (by omega) (Or.inr ⟨rfl, rfl, by omega⟩) (by omega)
    have hT1 := x_T_app hT (x_b7 (by omega) (by omega) (by omega) (by omega) (by omega)) f1
    refine ⟨_, n - 1 + 1, s1, g1, x_T_le hT1 (by omega), f2, by omega, ?_, fun F => ?_⟩
    · rw [List.length_append, List.length_map, x_len7, show (x_KB 3).length = 5 from rfl]
      omega
    · have ch1 : chS 18 (ix (zI ((n : Int) - 1))) = zI (97 + ((n - 1 : Nat) : Int)) := by
        rw [show (n : Int) - 1 = ((n - 1 : Nat) : Int) by omega]
        exact x_ch (by omega)
      rw [z_jn]
      simp only [z_lit, z_sub]
      rw [e1, c, if_pos rfl, e2, z_add, ch1, x_as (by rw [x_t20.2]; omega), x_s18, z_inr (by omega) (by omega) (by omega), z_gd, x_t20.1]
      rw [x_ap (by omega) (by simp only [List.length_append, List.length_map, List.length_cons, List.length_nil, show (x_KB 3).length = 5 from rfl]; omega), x_ap (by omega) (by simp only [List.length_append, List.length_map, List.length_cons, List.length_nil, show (x_KB 3).length = 5 from rfl]; omega)]
      rw [x_ai (by omega) (by simp only [List.length_append, List.length_map, List.length_cons, List.length_nil, show (x_KB 3).length = 5 from rfl]; omega), x_ap (by omega) (by simp only [List.length_append, List.length_map, List.length_cons, List.length_nil, show (x_KB 3).length = 5 from rfl]; omega)]
      simp only [List.map_append, List.map_cons, List.map_nil, List.append_assoc, List.cons_append, List.nil_append, show (97 : Int) + ((0 : Nat) : Int) = 97 from rfl]
  · refine ⟨T, n - 1, s, g, x_T_le hT (by omega), hG, by omega, by omega, fun F => ?_⟩
    rw [z_jn]
    simp only [z_lit, z_sub]
    rw [e1, z_eqF c (by omega) (by omega) (by omega) (by omega)]
theorem x_ains {n m t c : Nat} {x : Int} {v2 v3 : Int32} (hn : 3 ≤ n ∧ n ≤ 6) (h2 : v2 = zI x) (h3 : v3 = zI (n : Int)) (hx : 0 ≤ x ∧ x < 2147483648) (hT : x_T s0 g0 T 20 s g) (hG : x_G n m t c s g) (hl : T.length ≤ 257) : ∃ T' s' g', x_T s0 g0 T' 21 s' g' ∧ x_G n m t c s' g' ∧ T'.length ≤ 300 ∧ (if ((v2 / (32768 : Int32)) - (v2 / (32768 : Int32)) / (2 : Int32) * (2 : Int32)) = 0 then gd (Nat.ble (List.length T + lenS 23) 300) (bnd (T ++ TXb 23) (fun T71 => gd (nz0 v3) (gd (inr ((v2 / (65536 : Int32)) - (v2 / (65536 : Int32)) / v3 * v3) (lenS 18)) (gd (inr (chS 18 (ix ((v2 / (65536 : Int32)) - (v2 / (65536 : Int32)) / v3 * v3))) 128 && Nat.ble (List.length T71 + 1) 300) (bnd (T71 ++ [chS 18 (ix ((v2 / (65536 : Int32)) - (v2 / (65536 : Int32)) / v3 * v3))]) (fun T73 => gd (inr (32 : Int32) 128 && Nat.ble (List.length T73 + 1) 300) (bnd (T73 ++ [(32 : Int32)]) (fun T74 => gd (inr ((v2 / (1048576 : Int32)) - (v2 / (1048576 : Int32)) / (5 : Int32) * (5 : Int32)) 10 && Nat.ble (List.length T74 + 1) 300) (bnd (T74 ++ [nI (48 + ix ((v2 / (1048576 : Int32)) - (v2 / (1048576 : Int32)) / (5 : Int32) * (5 : Int32)))]) (fun T75 => gd (inr (59 : Int32) 128 && Nat.ble (List.length T75 + 1) 300) (bnd (T75 ++ [(59 : Int32)]) (fun T76 => some T76)))))))))))) else some T) = some T' := by
  subst h2 h3
  have e1 : zI x / zI 32768 - zI x / zI 32768 / zI 2 * zI 2 = zI (x / 32768 % 2) := x_dm hx (by omega) (by omega)
  by_cases cc : x / 32768 % 2 = 0
  · have m1 := x_md (x := x / 65536) (y := (n : Int)) (by omega)
    obtain ⟨a, ha⟩ : ∃ a : Nat, (a : Int) = x / 65536 % (n : Int) := ⟨(x / 65536 % (n : Int)).toNat, by omega⟩
    obtain ⟨w, hw⟩ : ∃ w, x / 1048576 % 5 = w := ⟨_, rfl⟩
    have e2 : zI x / zI 65536 - zI x / zI 65536 / zI (n : Int) * zI (n : Int) = zI (a : Int) := by rw [x_dm hx (by omega) (by omega), ha]
    have e3 : zI x / zI 1048576 - zI x / zI 1048576 / zI 5 * zI 5 = zI w := by rw [x_dm hx (by omega) (by omega), hw]
    obtain ⟨s1, g1, f1, f2⟩ := x_Gs6 (a := a) (w := w) hG (by omega) (by omega) (by omega)
    have hT1 := x_T_app hT (x_b5 (by omega) (by omega) (by omega) (by omega)) f1
    refine ⟨_, s1, g1, hT1, f2, ?_, ?_⟩
    · rw [List.length_append, List.length_map, List.length_append, show (x_KB 6).length = 7 from rfl]
      simp only [List.length_cons, List.length_nil]
      omega
    · simp only [z_lit]
      rw [e1, cc, if_pos rfl, e2, e3, x_as (by rw [x_t23.2]; omega), x_nz0 (by omega) (by unfold zR; omega), z_gd, x_s18, z_inr (by omega) (by omega) (by omega), z_gd, x_ch (by omega), x_t23.1]
      rw [x_ap (by omega) (by simp only [List.length_append, List.length_map, List.length_cons, List.length_nil, show (x_KB 6).length = 7 from rfl]; omega), x_ap (by omega) (by simp only [List.length_append, List.length_map, List.length_cons, List.length_nil, show (x_KB 6).length = 7 from rfl]; omega)]
      rw [x_ai (by omega) (by simp only [List.length_append, List.length_map, List.length_cons, List.length_nil, show (x_KB 6).length = 7 from rfl]; omega), x_ap (by omega) (by simp only [List.length_append, List.length_map, List.length_cons, List.length_nil, show (x_KB 6).length = 7 from rfl]; omega)]
      simp only [List.map_append, List.map_cons, List.map_nil, List.append_assoc, List.cons_append, List.nil_append]
  · refine ⟨T, s, g, x_T_le hT (by omega), hG, by omega, ?_⟩
    simp only [z_lit]
    rw [e1, z_eqF cc (by omega) (by omega) (by omega) (by omega)]
theorem x_text {cl : Int32 → Int32} (hcl : ∀ k : Nat, k < 64 → ∃ x : Int, cl (zI (k : Int)) = zI x ∧ 0 ≤ x ∧ x < 2147483648) (h0 : x_G 0 0 0 0 s0 g0) : ∃ T n m t c s g, f_L_text cl = some T ∧ x_T s0 g0 T 21 s g ∧ x_G n m t c s g ∧ (3 ≤ n ∧ n ≤ 6) ∧ t ≤ 3 ∧ T.length ≤ 300 := by
  have z00 : zI ((0 : Nat) : Int) = (0 : Int32) := by
    rw [z_l0]
    rfl
  obtain ⟨x, hx, hx0⟩ := hcl 0 (by omega)
  rw [z00] at hx
  obtain ⟨y, hy, hy0⟩ := hcl 1 (by omega)
  rw [show zI ((1 : Nat) : Int) = (1 : Int32) by rw [z_l1]; rfl] at hy
  obtain ⟨n, hn⟩ : ∃ n : Nat, (n : Int) = 3 + x % 4 := ⟨(3 + x % 4).toNat, by omega⟩
  obtain ⟨t, ht⟩ : ∃ t : Nat, (t : Int) = 1 + x / 8192 % 3 := ⟨(1 + x / 8192 % 3).toNat, by omega⟩
  have e3 : (3 : Int32) + (zI x - zI x / (4 : Int32) * (4 : Int32)) = zI (n : Int) := by
    rw [show (3 : Int32) = zI 3 from z_lit 3, show (4 : Int32) = zI 4 from z_lit 4, x_mod hx0 (by omega), z_add, hn]
  have e32 : (1 : Int32) + ((zI x / (8192 : Int32)) - (zI x / (8192 : Int32)) / (3 : Int32) * (3 : Int32)) = zI (t : Int) := by
    rw [show (3 : Int32) = zI 3 from z_lit 3, show (8192 : Int32) = zI 8192 from z_lit 8192, z_l1, x_dm hx0 (by omega) (by omega), z_add, ht]
  obtain ⟨T1, s1, g1, a1, a2, a3, a4⟩ := x_l23 (s0 := s0) (g0 := g0) (cl := cl) (c1 := zI x) (n := n) (by omega) n 0 7 [] s0 g0 (by omega) (by omega) ⟨[], 0, rfl, (fun x hx => by cases hx), Nat.le_refl _, x_seq_nil⟩ h0 (Nat.zero_le _)
  obtain ⟨T2, s2, g2, b1, b2, b3, b4⟩ := x_l77 (s0 := s0) (g0 := g0) (cl := cl) (c1 := zI x) (n := n) (by omega) hy hy0 (n - 1) 0 6 T1 s1 g1 (by omega) (by omega) a1 a2 (by omega)
  obtain ⟨T3, m, s3, g3, c1, c2, c3, c4, c5⟩ := x_aro (v2 := zI x) (v3 := zI (n : Int)) (by omega) rfl rfl hx0 b1 b2 b3
  obtain ⟨T4, s4, g4, d1, d2, d3, d4⟩ := x_l220 (s0 := s0) (g0 := g0) (cl := cl) (c1 := zI x) (n := n) (m := m) (q := 12) (t := t) (by omega) c3 (by omega) hcl t 0 4 T3 s3 g3 (by omega) (by omega) c1 c2 (by omega)
  obtain ⟨T5, c, s5, g5, f1, f2, f3, f4, f5⟩ := x_l369 (s0 := s0) (g0 := g0) (cl := cl) (c1 := zI x) (n := n) (m := m) (q := 15) (t := t) (by omega) hcl 5 0 6 T4 0 s4 g4 (by omega) (by omega) (x_T_le d1 (by omega)) d2 (by omega) (by omega)
  obtain ⟨T6, s6, g6, i1, i2, i3, i4⟩ := x_ains (v2 := zI x) (v3 := zI (n : Int)) (by omega) rfl rfl hx0 f1 f2 f4
  rw [z00] at a4 b4 d4 f5
  refine ⟨T6, n, m, t, c, s6, g6, ?_, i1, i2, by omega, by omega, i3⟩
  unfold f_L_text
  rw [show inr (0 : Int32) 64 = true by rw [z_l0]; exact z_inr (by omega) (by omega) (by omega), z_gd, hx, z_bnd, e3, z_bnd, a4, b4, c5, e32, z_bnd, d4, f5]
  exact i4
end Txc
