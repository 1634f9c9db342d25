/-! the law's text: tracks, trains, parcels -/
section Txb
variable {s0 g0 s s' g g' : Nat → Int} {T : List Int32} {k : Nat} {R : Type}
theorem x_len7 {j : Nat} {a b c d e : Int} : (x_KB j ++ 32 :: [a, b, c, d, e, 59]).length = (x_KB j).length + 7 := by rw [List.length_append]; rfl
theorem x_l77 {cl : Int32 → Int32} {c1 : Int32} {n : Nat} {y : Int} (hn : 3 ≤ n ∧ n ≤ 6) (hc : cl 1 = zI y) (hy : 0 ≤ y ∧ y < 2147483648) : ∀ (d k N : Nat) (T : List Int32) (s g : Nat → Int), k + d + 1 = n → d < N → x_T s0 g0 T (n + k) s g → x_G n k 0 0 s g → T.length ≤ 60 + 12 * k → ∃ T' s' g', x_T s0 g0 T' (n + (n - 1)) s' g' ∧ x_G n (n - 1) 0 0 s' g' ∧ T'.length ≤ 60 + 12 * (n - 1) ∧ ∀ K, l_L_text_77 cl c1 (zI (n : Int)) K N T (zI (k : Int)) = K T' := by
  intro d
  induction d with
  | zero =>
    intro k N T s g h1 h2 hT hG hl
    obtain ⟨N, rfl⟩ : ∃ m, N = m + 1 := ⟨N - 1, by omega⟩
    obtain rfl : k = n - 1 := by omega
    refine ⟨T, s, g, hT, hG, hl, fun K => ?_⟩
    rw [l_L_text_77, z_l1, z_add, z_leT (by omega) (by omega) (by omega)]
  | succ d ih =>
    intro k N T s g h1 h2 hT hG hl
    obtain ⟨N, rfl⟩ : ∃ m, N = m + 1 + 1 := ⟨N - 2, by omega⟩
    obtain ⟨w, hw⟩ : ∃ w, y / (1 + 7 * (k : Int)) % 4 = w := ⟨_, rfl⟩
    have wb := x_md (x := y / (1 + 7 * (k : Int))) (y := 4) (by omega)
    rw [hw] at wb
    obtain ⟨s1, g1, e1, e2⟩ := x_Gs3 (a := k) (b := k + 1) (w := 1 + w) hG (by omega) (by omega) (Or.inl ⟨rfl, rfl, by omega⟩) (by omega)
    have hT1 := x_T_app hT (x_b7 (by omega) (by omega) (by omega) (by omega) (by omega)) e1
    obtain ⟨T', s', g', f1, f2, f3, f4⟩ := ih (k + 1) (N + 1) _ s1 g1 (by omega) (by omega) (x_T_le hT1 (by omega)) e2 (by
      rw [List.length_append, List.length_map, x_len7, show (x_KB 3).length = 5 from rfl]
      omega)
    refine ⟨T', s', g', f1, f2, f3, fun K => ?_⟩
    have f5 := f4 K
    have ch1 : chS 18 (ix (zI ((k : Int) + 1))) = zI (97 + ((k + 1 : Nat) : Int)) := x_ch (i := k + 1) (by omega)
    have dg : zI y / zI (1 + 7 * (k : Int)) - zI y / zI (1 + 7 * (k : Int)) / zI 4 * zI 4 = zI w := by rw [x_dm hy (by omega) (by omega), hw]
    rw [l_L_text_77, hc]
    simp only [z_lit, z_add, z_mul]
    rw [dg, z_add, z_leF (by omega) (by omega) (by omega), x_blt, x_ch (by omega), ch1, x_as (by rw [x_t19.2]; omega), x_s18, z_inr (by omega) (by omega) (by omega), z_gd, x_t19.1]
    rw [x_ap (by omega) (by simp only [List.length_append, List.length_map, List.length_cons, List.length_nil, show (x_KB 3).length = 5 from rfl]; omega), x_ap (by omega) (by simp only [List.length_append, List.length_map, List.length_cons, List.length_nil, show (x_KB 3).length = 5 from rfl]; omega), z_inr (by omega) (by omega) (by omega), z_gd]
    rw [x_ap (by omega) (by simp only [List.length_append, List.length_map, List.length_cons, List.length_nil, show (x_KB 3).length = 5 from rfl]; omega), x_ap (by omega) (by simp only [List.length_append, List.length_map, List.length_cons, List.length_nil, show (x_KB 3).length = 5 from rfl]; omega), z_inr (by omega) (by omega) (by omega), z_gd, x_nz0 (by omega) (by unfold zR; omega), z_gd]
    rw [x_ai (by omega) (by simp only [List.length_append, List.length_map, List.length_cons, List.length_nil, show (x_KB 3).length = 5 from rfl]; omega), x_ap (by omega) (by simp only [List.length_append, List.length_map, List.length_cons, List.length_nil, show (x_KB 3).length = 5 from rfl]; omega), ← z_cs]
    simp only [List.map_append, List.map_cons, List.map_nil, List.append_assoc, List.cons_append, List.nil_append] at f5 ⊢
    exact f5
/-- a train's route -/
theorem x_l302 {cl : Int32 → Int32} {c1 c2 c4 c5 : Int32} {len fr : Nat} {bk : Int} {ro : Nat → Nat} (hlen : len ≤ 6) (hbk : bk = 0 ∨ bk = 1) (hfr : fr ≤ 6) (hro : ∀ j, j < len → ro j = (if bk = 0 then fr + j else fr + len - 1 - j) ∧ ro j < 6) (K : List Int32 → Option (List Int32)) : ∀ (d x N : Nat) (T : List Int32), x + d = len → d < N → T.length + 2 * len ≤ 300 → l_L_text_302 cl c1 c2 c4 c5 (zI (len : Int)) (zI (fr : Int)) (zI bk) K N (T ++ (x_RB ro x).map zI) (zI (x : Int)) = K (T ++ (x_RB ro len).map zI) := by
  intro d
  induction d with
  | zero =>
    intro x N T h1 h2 h3
    obtain ⟨N, rfl⟩ : ∃ m, N = m + 1 := ⟨N - 1, by omega⟩
    obtain rfl : x = len := by omega
    rw [l_L_text_302, z_leT (by omega) (by omega) (by omega)]
  | succ d ih =>
    intro x N T h1 h2 h3
    obtain ⟨N, rfl⟩ : ∃ m, N = m + 1 + 1 := ⟨N - 2, by omega⟩
    obtain ⟨r1, r2⟩ := hro x (by omega)
    have f5 := ih (x + 1) (N + 1) T (by omega) (by omega) h3
    rw [x_RB] at f5
    rw [l_L_text_302]
    simp only [z_lit]
    rw [z_leF (by omega) (by omega) (by omega), x_blt, x_ap (by omega) (by rw [List.length_append, List.length_map, x_RBl]; omega)]
    rcases hbk with hb | hb
    · subst hb
      rw [if_pos rfl] at r1
      have e : zI (fr : Int) + zI (x : Int) = zI (ro x : Int) := by rw [z_add, show (fr : Int) + (x : Int) = (ro x : Int) by omega]
      rw [if_pos rfl, e, x_s18, z_inr (by omega) (by omega) (by omega), z_gd, x_ch r2, x_ap (by omega) (by rw [List.length_append, List.length_append, List.length_map, x_RBl, List.length_singleton]; omega), z_add, ← z_cs]
      simp only [List.map_append, List.map_cons, List.map_nil, List.append_assoc, List.cons_append, List.nil_append] at f5 ⊢
      exact f5
    · subst hb
      rw [if_neg (by omega)] at r1
      have e : zI (fr : Int) + zI (len : Int) - zI 1 - zI (x : Int) = zI (ro x : Int) := by rw [z_add, z_sub, z_sub, show (fr : Int) + (len : Int) - 1 - (x : Int) = (ro x : Int) by omega]
      rw [z_eqF (by omega) (by omega) (by omega) (by omega) (by omega), e, x_s18, z_inr (by omega) (by omega) (by omega), z_gd, x_ch r2, x_ap (by omega) (by rw [List.length_append, List.length_append, List.length_map, x_RBl, List.length_singleton]; omega), z_add, ← z_cs]
      simp only [List.map_append, List.map_cons, List.map_nil, List.append_assoc, List.cons_append, List.nil_append] at f5 ⊢
      exact f5
theorem x_l220 {cl : Int32 → Int32} {c1 : Int32} {n m q t : Nat} (hn : 3 ≤ n ∧ n ≤ 6) (hm : n ≤ m + 1) (ht : t ≤ 3) (hcl : ∀ k : Nat, k < 64 → ∃ x : Int, cl (zI (k : Int)) = zI x ∧ 0 ≤ x ∧ x < 2147483648) : ∀ (d k N : Nat) (T : List Int32) (s g : Nat → Int), k + d = t → d < N → x_T s0 g0 T (q + k) s g → x_G n m k 0 s g → T.length ≤ 132 + 20 * k → ∃ T' s' g', x_T s0 g0 T' (q + t) s' g' ∧ x_G n m t 0 s' g' ∧ T'.length ≤ 132 + 20 * t ∧ ∀ K, l_L_text_220 cl c1 (zI (n : Int)) (zI (t : Int)) K N T (zI (k : Int)) = K T' := by
  intro d
  induction d with
  | zero =>
    intro k N T s g h1 h2 hT hG hl
    obtain ⟨N, rfl⟩ : ∃ m, N = m + 1 := ⟨N - 1, by omega⟩
    obtain rfl : k = t := by omega
    refine ⟨T, s, g, hT, hG, hl, fun K => ?_⟩
    rw [l_L_text_220, z_leT (by omega) (by omega) (by omega)]
  | succ d ih =>
    intro k N T s g h1 h2 hT hG hl
    obtain ⟨N, rfl⟩ : ∃ m, N = m + 1 + 1 := ⟨N - 2, by omega⟩
    obtain ⟨y, hy, hy0⟩ := hcl (2 + k) (by omega)
    have hy' : cl (zI (2 + (k : Int))) = zI y := by
      rw [show (2 : Int) + (k : Int) = ((2 + k : Nat) : Int) by omega]
      exact hy
    have m1 := x_md (x := y) (y := (n : Int) - 1) (by omega)
    obtain ⟨L, hL⟩ : ∃ L : Nat, (L : Int) = 2 + y % ((n : Int) - 1) := ⟨(2 + y % ((n : Int) - 1)).toNat, by omega⟩
    have m2 := x_md (x := y / 8) (y := (n : Int) - (L : Int) + 1) (by omega)
    obtain ⟨fr, hfr⟩ : ∃ fr : Nat, (fr : Int) = y / 8 % ((n : Int) - (L : Int) + 1) := ⟨(y / 8 % ((n : Int) - (L : Int) + 1)).toNat, by omega⟩
    obtain ⟨bk, hbk⟩ : ∃ bk, y / 64 % 2 = bk := ⟨_, rfl⟩
    obtain ⟨w, hw⟩ : ∃ w, y / 128 % 3 = w := ⟨_, rfl⟩
    have hb : bk = 0 ∨ bk = 1 := by omega
    obtain ⟨ro, hro⟩ : ∃ ro : Nat → Nat, ∀ j, ro j = if bk = 0 then fr + j else fr + L - 1 - j := ⟨fun j => if bk = 0 then fr + j else fr + L - 1 - j, fun j => rfl⟩
    have hrn : ∀ j, j < L → ro j < n := fun j hj => by
      rw [hro]
      split <;> omega
    have hlk : ∀ j, j + 1 < L → ∃ i, i < m ∧ i + 1 < n ∧ ((ro j = i ∧ ro (j + 1) = i + 1) ∨ (ro j = i + 1 ∧ ro (j + 1) = i)) := fun j hj => by
      have a1 := hro j
      have a2 := hro (j + 1)
      rcases hb with b | b
      · rw [if_pos b] at a1 a2
        exact ⟨fr + j, by omega, by omega, Or.inl ⟨by omega, by omega⟩⟩
      · rw [if_neg (by omega)] at a1 a2
        exact ⟨ro (j + 1), by omega, by omega, Or.inr ⟨by omega, rfl⟩⟩
    obtain ⟨s1, g1, e1, e2⟩ := x_Gs4 (L := L) (ro := ro) (k := 1 + w) hG (by omega) (by omega) (by omega) (by omega) hrn hlk
    have hT1 := x_T_app hT (x_bT (by omega) (fun j hj => by have := hrn j hj; omega)) e1
    obtain ⟨T', s', g', f1, f2, f3, f4⟩ := ih (k + 1) (N + 1) _ s1 g1 (by omega) (by omega) (x_T_le hT1 (by omega)) e2 (by
      rw [List.length_append, List.length_map, List.length_append, List.length_cons, List.length_cons, List.length_append, x_RBl, List.length_singleton, show (x_KB 4).length = 5 from rfl]
      omega)
    refine ⟨T', s', g', f1, f2, f3, fun K => ?_⟩
    have f5 := f4 K
    have e37 : zI 2 + (zI y - zI y / zI ((n : Int) - 1) * zI ((n : Int) - 1)) = zI (L : Int) := by rw [x_mod hy0 (by omega), z_add, hL]
    have e39 : zI y / zI 8 - zI y / zI 8 / zI ((n : Int) - (L : Int) + 1) * zI ((n : Int) - (L : Int) + 1) = zI (fr : Int) := by rw [x_dm hy0 (by omega) (by omega), hfr]
    have e41 : zI y / zI 64 - zI y / zI 64 / zI 2 * zI 2 = zI bk := by rw [x_dm hy0 (by omega) (by omega), hbk]
    have e43 : zI y / zI 128 - zI y / zI 128 / zI 3 * zI 3 = zI w := by rw [x_dm hy0 (by omega) (by omega), hw]
    rw [l_L_text_220]
    simp only [z_lit, z_add, z_sub]
    rw [z_leF (by omega) (by omega) (by omega), z_inr (by omega) (by omega) (by omega), z_gd, hy', z_bnd, x_nz0 (by omega) (by unfold zR; omega), z_gd, e37, z_bnd, z_sub, z_add, x_nz0 (by omega) (by unfold zR; omega), z_gd, e39, z_bnd, x_blt, z_jn, e41]
    have h302 := fun (K : List Int32 → Option (List Int32)) => x_l302 (cl := cl) (c1 := c1) (c2 := zI (n : Int)) (c4 := zI (t : Int)) (c5 := zI (k : Int)) (len := L) (fr := fr) (ro := ro) (by omega) hb (by omega) (fun j hj => ⟨hro j, by have := hrn j hj; omega⟩) K L 0 7 ((T ++ (x_KB 4 ++ [32]).map zI) ++ [zI (48 + (1 + w))]) (by omega) (by omega) (by simp only [List.length_append, List.length_map, List.length_cons, List.length_nil, show (x_KB 4).length = 5 from rfl]; omega)
    rw [show (x_RB ro 0).map zI = [] from rfl, List.append_nil, show zI ((0 : Nat) : Int) = zI 0 from rfl] at h302
    rcases hb with hb | hb
    · subst hb
      rw [z_eqF (by omega) (by omega) (by omega) (by omega) (by omega)]
      dsimp only
      rw [x_as (by rw [x_t21.2]; omega), x_t21.1, e43, z_add, x_ai (by omega) (by simp only [List.length_append, List.length_map, List.length_cons, List.length_nil, show (x_KB 4).length = 5 from rfl]; omega), h302]
      rw [x_ap (by omega) (by simp only [List.length_append, List.length_map, List.length_cons, List.length_nil, x_RBl, show (x_KB 4).length = 5 from rfl]; omega), ← z_cs]
      simp only [List.map_append, List.map_cons, List.map_nil, List.append_assoc, List.cons_append, List.nil_append] at f5 ⊢
      exact f5
    · subst hb
      rw [if_pos rfl]
      dsimp only
      rw [x_as (by rw [x_t21.2]; omega), x_t21.1, e43, z_add, x_ai (by omega) (by simp only [List.length_append, List.length_map, List.length_cons, List.length_nil, show (x_KB 4).length = 5 from rfl]; omega), h302]
      rw [x_ap (by omega) (by simp only [List.length_append, List.length_map, List.length_cons, List.length_nil, x_RBl, show (x_KB 4).length = 5 from rfl]; omega), ← z_cs]
      simp only [List.map_append, List.map_cons, List.map_nil, List.append_assoc, List.cons_append, List.nil_append] at f5 ⊢
      exact f5
theorem x_l369 {cl : Int32 → Int32} {c1 : Int32} {n m q t : Nat} (hn : 3 ≤ n ∧ n ≤ 6) (hcl : ∀ k : Nat, k < 64 → ∃ x : Int, cl (zI (k : Int)) = zI x ∧ 0 ≤ x ∧ x < 2147483648) : ∀ (d k N : Nat) (T : List Int32) (c : Nat) (s g : Nat → Int), k + d = 5 → d < N → x_T s0 g0 T (q + k) s g → x_G n m t c s g → c ≤ k → T.length ≤ 192 + 13 * k → ∃ T' c' s' g', x_T s0 g0 T' (q + 5) s' g' ∧ x_G n m t c' s' g' ∧ c' ≤ 5 ∧ T'.length ≤ 257 ∧ ∀ K, l_L_text_369 cl c1 (zI (n : Int)) K N T (zI (k : Int)) = K T' := by
  intro d
  induction d with
  | zero =>
    intro k N T c s g h1 h2 hT hG hc hl
    obtain ⟨N, rfl⟩ : ∃ m, N = m + 1 := ⟨N - 1, by omega⟩
    obtain rfl : k = 5 := by omega
    refine ⟨T, c, s, g, hT, hG, hc, by omega, fun K => ?_⟩
    rw [l_L_text_369]
    exact if_pos (by decide)
  | succ d ih =>
    intro k N T c s g h1 h2 hT hG hc hl
    obtain ⟨N, rfl⟩ : ∃ m, N = m + 1 + 1 := ⟨N - 2, by omega⟩
    obtain ⟨y, hy, hy0⟩ := hcl (5 + k) (by omega)
    have hy' : cl (zI (5 + (k : Int))) = zI y := by
      rw [show (5 : Int) + (k : Int) = ((5 + k : Nat) : Int) by omega]
      exact hy
    have m1 := x_md (x := y) (y := (n : Int)) (by omega)
    have m2 := x_md (x := y / 8) (y := (n : Int) - 1) (by omega)
    have m3 := x_md (x := y % (n : Int) + 1 + y / 8 % ((n : Int) - 1)) (y := (n : Int)) (by omega)
    have ne := x_two (f := y % (n : Int)) (r := y / 8 % ((n : Int) - 1)) (n := (n : Int)) (by omega) (by omega)
    obtain ⟨a, ha⟩ : ∃ a : Nat, (a : Int) = y % (n : Int) := ⟨(y % (n : Int)).toNat, by omega⟩
    obtain ⟨b, hb⟩ : ∃ b : Nat, (b : Int) = (y % (n : Int) + 1 + y / 8 % ((n : Int) - 1)) % (n : Int) := ⟨((y % (n : Int) + 1 + y / 8 % ((n : Int) - 1)) % (n : Int)).toNat, by omega⟩
    obtain ⟨w, hw⟩ : ∃ w, y / 512 % 9 = w := ⟨_, rfl⟩
    obtain ⟨v, hv⟩ : ∃ v, y / 64 % 5 = v := ⟨_, rfl⟩
    have e57 : zI y - zI y / zI (n : Int) * zI (n : Int) = zI (a : Int) := by rw [x_mod hy0 (by omega), ha]
    have e59 : zI y / zI 8 - zI y / zI 8 / zI ((n : Int) - 1) * zI ((n : Int) - 1) = zI (y / 8 % ((n : Int) - 1)) := x_dm hy0 (by omega) (by omega)
    have e60 : zI ((a : Int) + 1 + y / 8 % ((n : Int) - 1)) - zI ((a : Int) + 1 + y / 8 % ((n : Int) - 1)) / zI (n : Int) * zI (n : Int) = zI (b : Int) := by rw [x_mod (by omega) (by omega), hb, ha]
    have e61 : zI y / zI 64 - zI y / zI 64 / zI 5 * zI 5 = zI v := by rw [x_dm hy0 (by omega) (by omega), hv]
    have e62 : zI y / zI 512 - zI y / zI 512 / zI 9 * zI 9 = zI w := by rw [x_dm hy0 (by omega) (by omega), hw]
    by_cases cv : v ≤ 0
    · obtain ⟨T', c', s', g', f1, f2, f3, f3', f4⟩ := ih (k + 1) (N + 1) T c s g (by omega) (by omega) (x_T_le hT (by omega)) hG (by omega) (by omega)
      refine ⟨T', c', s', g', f1, f2, f3, f3', fun K => ?_⟩
      have f5 := f4 K
      rw [l_L_text_369]
      simp only [z_lit, z_add, z_sub]
      rw [z_leF (by omega) (by omega) (by omega), z_inr (by omega) (by omega) (by omega), z_gd, hy', z_bnd, x_nz0 (by omega) (by unfold zR; omega), z_gd, e57, z_bnd, x_nz0 (by omega) (by unfold zR; omega), z_gd, z_gd, z_add, e59, z_add, e60, z_bnd, e61, z_leT cv (by omega) (by omega), ← z_cs]
      exact f5
    · obtain ⟨s1, g1, e1, e2⟩ := x_Gs5 (a := a) (b := b) (w := 1 + w) hG (by omega) (by omega) (by omega) (by omega) (by omega) (by omega)
      have hT1 := x_T_app hT (x_b7 (by omega) (by omega) (by omega) (by omega) (by omega)) e1
      obtain ⟨T', c', s', g', f1, f2, f3, f3', f4⟩ := ih (k + 1) (N + 1) _ (c + 1) s1 g1 (by omega) (by omega) (x_T_le hT1 (by omega)) e2 (by omega) (by
        rw [List.length_append, List.length_map, x_len7, show (x_KB 5).length = 6 from rfl]
        omega)
      refine ⟨T', c', s', g', f1, f2, f3, f3', fun K => ?_⟩
      have f5 := f4 K
      rw [l_L_text_369]
      simp only [z_lit, z_add, z_sub]
      rw [z_leF (by omega) (by omega) (by omega), z_inr (by omega) (by omega) (by omega), z_gd, hy', z_bnd, x_nz0 (by omega) (by unfold zR; omega), z_gd, e57, z_bnd, x_nz0 (by omega) (by unfold zR; omega), z_gd, z_gd, z_add, e59, z_add, e60, z_bnd, e61, z_leF (by omega) (by omega) (by omega), x_blt]
      rw [x_as (by rw [x_t22.2]; omega), x_s18, z_inr (by omega) (by omega) (by omega), z_gd, x_ch (i := a) (by omega), x_t22.1]
      rw [x_ap (by omega) (by simp only [List.length_append, List.length_map, List.length_cons, List.length_nil, show (x_KB 5).length = 6 from rfl]; omega), x_ap (by omega) (by simp only [List.length_append, List.length_map, List.length_cons, List.length_nil, show (x_KB 5).length = 6 from rfl]; omega), z_inr (by omega) (by omega) (by omega), z_gd, x_ch (i := b) (by omega)]
      rw [x_ap (by omega) (by simp only [List.length_append, List.length_map, List.length_cons, List.length_nil, show (x_KB 5).length = 6 from rfl]; omega), x_ap (by omega) (by simp only [List.length_append, List.length_map, List.length_cons, List.length_nil, show (x_KB 5).length = 6 from rfl]; omega), e62, z_add]
      rw [x_ai (by omega) (by simp only [List.length_append, List.length_map, List.length_cons, List.length_nil, show (x_KB 5).length = 6 from rfl]; omega), x_ap (by omega) (by simp only [List.length_append, List.length_map, List.length_cons, List.length_nil, show (x_KB 5).length = 6 from rfl]; omega), ← z_cs]
      simp only [List.map_append, List.map_cons, List.map_nil, List.append_assoc, List.cons_append, List.nil_append] at f5 ⊢
      exact f5
end Txb
