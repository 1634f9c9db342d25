/-! the law's text: the bytes that are put together -/
def x_T (s0 g0 : Nat → Int) (T : List Int32) (k : Nat) (s g : Nat → Int) : Prop := ∃ (C : List Int) (m : Nat), T = C.map zI ∧ (∀ x ∈ C, 0 ≤ x ∧ x < 128) ∧ m ≤ k ∧ x_seq s0 g0 C m s g
section Txa
variable {s0 g0 s s' g g' : Nat → Int} {T : List Int32} {k : Nat} {R : Type}
theorem x_T_app {D : List Int} (h : x_T s0 g0 T k s g) (hD : ∀ x ∈ D, 0 ≤ x ∧ x < 128) (e : x_seq s g D 1 s' g') : x_T s0 g0 (T ++ D.map zI) (k + 1) s' g' := by
  obtain ⟨C, m, rfl, h2, h3, h4⟩ := h
  refine ⟨C ++ D, m + 1, by rw [List.map_append], fun x hx => ?_, by omega, x_seq_app h4 e⟩
  rcases List.mem_append.mp hx with q | q
  · exact h2 x q
  · exact hD x q
theorem x_T_le {j : Nat} (h : x_T s0 g0 T k s g) (hk : k ≤ j) : x_T s0 g0 T j s g := by
  obtain ⟨C, m, h1, h2, h3, h4⟩ := h
  exact ⟨C, m, h1, h2, by omega, h4⟩
theorem x_blt {N : Nat} {K : Option R} : gd (Nat.blt 0 (N + 1)) K = K := (rfl)
theorem x_as {j : Nat} {K : List Int32 → Option R} (hl : T.length + lenS j ≤ 300) : gd (Nat.ble (List.length T + lenS j) 300) (bnd (T ++ TXb j) K) = K (T ++ TXb j) := by
  rw [gd_t (Nat.ble_eq.mpr hl)]
  rfl
theorem x_ap {c : Int} {K : List Int32 → Option R} (hc : 0 ≤ c ∧ c < 128) (hl : T.length + 1 ≤ 300) : gd (inr (zI c) 128 && Nat.ble (List.length T + 1) 300) (bnd (T ++ [zI c]) K) = K (T ++ [zI c]) := by
  rw [z_inr hc.1 (by omega) (by omega), gd_t (by rw [Nat.ble_eq.mpr hl]; rfl)]
  rfl
theorem x_ai {d : Int} {K : List Int32 → Option R} (hd : 0 ≤ d ∧ d < 10) (hl : T.length + 1 ≤ 300) : gd (inr (zI d) 10 && Nat.ble (List.length T + 1) 300) (bnd (T ++ [nI (48 + ix (zI d))]) K) = K (T ++ [zI (48 + d)]) := by
  rw [z_inr hd.1 (by omega) (by omega), gd_t (by rw [Nat.ble_eq.mpr hl]; rfl), z_ixz (by omega) (by omega), z_n, show ((48 + d.toNat : Nat) : Int) = 48 + d by omega]
  rfl
theorem x_ch {i : Nat} (hi : i < 6) : chS 18 (ix (zI (i : Int))) = zI (97 + (i : Int)) := by
  rw [z_ixn (by omega)]
  have c : i = 0 ∨ i = 1 ∨ i = 2 ∨ i = 3 ∨ i = 4 ∨ i = 5 := by omega
  rcases c with c | c | c | c | c | c <;> subst c <;> decide +kernel
theorem x_s18 : lenS 18 = 6 := rfl
theorem x_t16 : TXb 16 = (x_KB 2 ++ [32]).map zI ∧ lenS 16 = 8 := ⟨by decide +kernel, rfl⟩
theorem x_t17 : TXb 17 = (x_KB 1 ++ [32]).map zI ∧ lenS 17 = 5 := ⟨by decide +kernel, rfl⟩
theorem x_t19 : TXb 19 = (x_KB 3 ++ [32]).map zI ∧ lenS 19 = 6 := ⟨by decide +kernel, rfl⟩
theorem x_t20 : TXb 20 = (x_KB 3 ++ [32, 97, 32]).map zI ∧ lenS 20 = 8 := ⟨by decide +kernel, rfl⟩
theorem x_t21 : TXb 21 = (x_KB 4 ++ [32]).map zI ∧ lenS 21 = 6 := ⟨by decide +kernel, rfl⟩
theorem x_t22 : TXb 22 = (x_KB 5 ++ [32]).map zI ∧ lenS 22 = 7 := ⟨by decide +kernel, rfl⟩
theorem x_t23 : TXb 23 = (x_KB 6 ++ [32]).map zI ∧ lenS 23 = 8 := ⟨by decide +kernel, rfl⟩
theorem x_kb7 {j : Nat} (j1 : 1 ≤ j) (j8 : j ≤ 8) : ∀ x ∈ x_KB j, 0 ≤ x ∧ x < 128 := by
  have H : ∀ j : Fin 9, ∀ x ∈ x_KB j.1, 0 ≤ x ∧ x < 128 := by decide +kernel
  exact H ⟨j, by omega⟩
theorem x_dv {x a : Int} (hx : 0 ≤ x ∧ x < 2147483648) (ha : 0 < a) : 0 ≤ x / a ∧ x / a < 2147483648 := by
  have h1 := Int.ediv_nonneg hx.1 (Int.le_of_lt ha)
  have h2 := Int.ediv_le_self (b := a) hx.1
  omega
theorem x_dm {x a b : Int} (hx : 0 ≤ x ∧ x < 2147483648) (ha : 0 < a ∧ a < 2147483648) (hb : 0 < b ∧ b < 2147483648) : zI x / zI a - zI x / zI a / zI b * zI b = zI (x / a % b) := by
  rw [z_div hx ha, x_mod (x_dv hx ha.1) hb]
theorem x_b3 {l d : Int} {j : Nat} (j1 : 1 ≤ j) (j8 : j ≤ 8) (hl : 0 ≤ l ∧ l < 26) (hd : d = 59 ∨ d = 32) : ∀ x ∈ x_KB j ++ 32 :: [97 + l, d], 0 ≤ x ∧ x < 128 := fun x hx => by
  rcases List.mem_append.mp hx with q | q
  · exact x_kb7 j1 j8 x q
  · simp only [List.mem_cons, List.not_mem_nil, or_false] at q
    omega
theorem x_b5 {l w : Int} {j : Nat} (j1 : 1 ≤ j) (j8 : j ≤ 8) (hl : 0 ≤ l ∧ l < 26) (hw : 0 ≤ w ∧ w ≤ 9) : ∀ x ∈ x_KB j ++ 32 :: [97 + l, 32, 48 + w, 59], 0 ≤ x ∧ x < 128 := fun x hx => by
  rcases List.mem_append.mp hx with q | q
  · exact x_kb7 j1 j8 x q
  · simp only [List.mem_cons, List.not_mem_nil, or_false] at q
    omega
theorem x_b7 {l r w : Int} {j : Nat} (j1 : 1 ≤ j) (j8 : j ≤ 8) (hl : 0 ≤ l ∧ l < 26) (hr : 0 ≤ r ∧ r < 26) (hw : 0 ≤ w ∧ w ≤ 9) : ∀ x ∈ x_KB j ++ 32 :: [97 + l, 32, 97 + r, 32, 48 + w, 59], 0 ≤ x ∧ x < 128 := fun x hx => by
  rcases List.mem_append.mp hx with q | q
  · exact x_kb7 j1 j8 x q
  · simp only [List.mem_cons, List.not_mem_nil, or_false] at q
    omega
theorem x_bRB {ro : Nat → Nat} : ∀ L, (∀ j, j < L → ro j < 26) → ∀ x ∈ x_RB ro L, 0 ≤ x ∧ x < 128
  | 0, _, x, hx => by
    rw [x_RB] at hx
    cases hx
  | L + 1, h, x, hx => by
    rw [x_RB] at hx
    rcases List.mem_append.mp hx with q | q
    · exact x_bRB L (fun j hj => h j (by omega)) x q
    · have := h L (by omega)
      simp only [List.mem_cons, List.not_mem_nil, or_false] at q
      omega
theorem x_bT {c : Int} {L : Nat} {ro : Nat → Nat} (hc : 0 ≤ c ∧ c ≤ 9) (hr : ∀ j, j < L → ro j < 26) : ∀ x ∈ x_KB 4 ++ 32 :: (48 + c) :: (x_RB ro L ++ [59]), 0 ≤ x ∧ x < 128 := fun x hx => by
  rcases List.mem_append.mp hx with q | q
  · exact x_kb7 (by omega) (by omega) x q
  · simp only [List.mem_cons, List.mem_append, List.not_mem_nil, or_false] at q
    rcases q with q | q | q | q
    · omega
    · omega
    · exact x_bRB L hr x q
    · omega
/-- stations -/
theorem x_l23 {cl : Int32 → Int32} {c1 : Int32} {n : Nat} (hn : n ≤ 6) : ∀ (d k N : Nat) (T : List Int32) (s g : Nat → Int), k + d = n → d < N → x_T s0 g0 T k s g → x_G k 0 0 0 s g → T.length ≤ 10 * k → ∃ T' s' g', x_T s0 g0 T' n s' g' ∧ x_G n 0 0 0 s' g' ∧ T'.length ≤ 10 * n ∧ ∀ K, l_L_text_23 cl c1 (zI (n : Int)) K N T (zI (k : Int)) = K T' := by
  intro d
  induction d with
  | zero =>
    intro k N T s g h1 h2 hT hG hl
    obtain ⟨N, rfl⟩ : ∃ m, N = m + 1 := ⟨N - 1, by omega⟩
    obtain rfl : k = n := by omega
    refine ⟨T, s, g, hT, hG, hl, fun K => ?_⟩
    rw [l_L_text_23, z_leT (by omega) (by omega) (by omega)]
  | succ d ih =>
    intro k N T s g h1 h2 hT hG hl
    obtain ⟨N, rfl⟩ : ∃ m, N = m + 1 + 1 := ⟨N - 2, by omega⟩
    by_cases hb : ((c1 >>> (((3 : Int32) + zI (k : Int)) &&& 31)) &&& (1 : Int32)) = (1 : Int32)
    · obtain ⟨s1, g1, e1, e2⟩ := x_Gs1 (j := 2) hG (by omega) (Or.inr rfl)
      have hT1 := x_T_app hT (x_b3 (by omega) (by omega) (by omega) (Or.inl rfl)) e1
      obtain ⟨T', s', g', f1, f2, f3, f4⟩ := ih (k + 1) (N + 1) _ s1 g1 (by omega) (by omega) hT1 e2 (by
        rw [List.length_append, List.length_map, List.length_append, show (x_KB 2).length = 7 from rfl]
        simp only [List.length_cons, List.length_nil]
        omega)
      refine ⟨T', s', g', f1, f2, f3, fun K => ?_⟩
      have f5 := f4 K
      rw [l_L_text_23, z_leF (by omega) (by omega) (by omega), if_pos hb, x_blt, x_ch (by omega), x_as (by rw [x_t16.2]; omega), x_s18, z_inr (by omega) (by omega) (by omega), z_gd, show (59 : Int32) = zI 59 from z_lit 59]
      rw [x_t16.1]
      rw [x_ap (by omega) (by simp only [List.length_append, List.length_map, List.length_cons, List.length_nil, show (x_KB 2).length = 7 from rfl]; omega), x_ap (by omega) (by simp only [List.length_append, List.length_map, List.length_cons, List.length_nil, show (x_KB 2).length = 7 from rfl]; omega), z_l1, z_add, ← z_cs]
      simp only [List.map_append, List.map_cons, List.map_nil, List.append_assoc, List.cons_append, List.nil_append] at f5 ⊢
      exact f5
    · obtain ⟨s1, g1, e1, e2⟩ := x_Gs1 (j := 1) hG (by omega) (Or.inl rfl)
      have hT1 := x_T_app hT (x_b3 (by omega) (by omega) (by omega) (Or.inl rfl)) e1
      obtain ⟨T', s', g', f1, f2, f3, f4⟩ := ih (k + 1) (N + 1) _ s1 g1 (by omega) (by omega) hT1 e2 (by
        rw [List.length_append, List.length_map, List.length_append, show (x_KB 1).length = 4 from rfl]
        simp only [List.length_cons, List.length_nil]
        omega)
      refine ⟨T', s', g', f1, f2, f3, fun K => ?_⟩
      have f5 := f4 K
      rw [l_L_text_23, z_leF (by omega) (by omega) (by omega), if_neg hb, x_blt, x_ch (by omega), x_as (by rw [x_t17.2]; omega), x_s18, z_inr (by omega) (by omega) (by omega), z_gd, show (59 : Int32) = zI 59 from z_lit 59]
      rw [x_t17.1]
      rw [x_ap (by omega) (by simp only [List.length_append, List.length_map, List.length_cons, List.length_nil, show (x_KB 1).length = 4 from rfl]; omega), x_ap (by omega) (by simp only [List.length_append, List.length_map, List.length_cons, List.length_nil, show (x_KB 1).length = 4 from rfl]; omega), z_l1, z_add, ← z_cs]
      simp only [List.map_append, List.map_cons, List.map_nil, List.append_assoc, List.cons_append, List.nil_append] at f5 ⊢
      exact f5
end Txa
