/-! the object's own text; the law's equation -/
def x_I0 : List Int := x_KB 1 ++ 32 :: [97 + ((0 : Nat) : Int), 59] ++ (x_KB 2 ++ 32 :: [97 + ((1 : Nat) : Int), 59]) ++ (x_KB 1 ++ 32 :: [97 + ((2 : Nat) : Int), 59]) ++ (x_KB 2 ++ 32 :: [97 + ((3 : Nat) : Int), 59]) ++ (x_KB 3 ++ 32 :: [97 + ((0 : Nat) : Int), 32, 97 + ((1 : Nat) : Int), 32, 48 + 2, 59]) ++ (x_KB 3 ++ 32 :: [97 + ((1 : Nat) : Int), 32, 97 + ((2 : Nat) : Int), 32, 48 + 3, 59]) ++ (x_KB 3 ++ 32 :: [97 + ((2 : Nat) : Int), 32, 97 + ((3 : Nat) : Int), 32, 48 + 1, 59]) ++ (x_KB 4 ++ 32 :: (48 + 2) :: (x_RB (fun j => j) 3 ++ [59])) ++ (x_KB 4 ++ 32 :: (48 + 1) :: (x_RB (fun j => 3 - j) 2 ++ [59])) ++ (x_KB 5 ++ 32 :: [97 + ((0 : Nat) : Int), 32, 97 + ((2 : Nat) : Int), 32, 48 + 5, 59]) ++ (x_KB 5 ++ 32 :: [97 + ((0 : Nat) : Int), 32, 97 + ((3 : Nat) : Int), 32, 48 + 7, 59]) ++ (x_KB 5 ++ 32 :: [97 + ((1 : Nat) : Int), 32, 97 + ((0 : Nat) : Int), 32, 48 + 3, 59]) ++ (x_KB 5 ++ 32 :: [97 + ((3 : Nat) : Int), 32, 97 + ((1 : Nat) : Int), 32, 48 + 1, 59]) ++ (x_KB 6 ++ 32 :: [97 + ((2 : Nat) : Int), 32, 48 + 2, 59])
def x_I1 : List Int := x_KB 8 ++ 32 :: [48 + ((4 : Nat) : Int), 59]
section Pur
variable {s s0 s' g g' f : Nat → Int} {W W' : Nat → Nat → Int32} {n m t c : Nat}
theorem x_I0b : (x_I0 ++ x_I1).length = 166 ∧ x_I0.length = 160 ∧ lenS 0 = 166 ∧ (∀ x ∈ x_I0 ++ x_I1, 0 ≤ x ∧ x < 128) ∧ (∀ j : Fin 166, chS 0 j.1 &&& 255 = zI ((x_I0 ++ x_I1).getD j.1 0)) := by decide +kernel
theorem x_app0 : ∀ (d j N : Nat) (W : Nat → Nat → Int32), j + d = 166 → d < N → W 15 0 = zI (j : Int) → (∀ i, i < j → W 16 i &&& 255 = zI ((x_I0 ++ x_I1).getD i 0)) → ∃ W', l_X6_appendText_2 0 N W (zI (j : Int)) = some W' ∧ (∀ u, u ≠ 15 → u ≠ 16 → W' u = W u) ∧ W' 15 0 = zI (166 : Int) ∧ ∀ i, i < 166 → W' 16 i &&& 255 = zI ((x_I0 ++ x_I1).getD i 0) := by
  obtain ⟨-, -, l0, -, b0⟩ := x_I0b
  intro d
  induction d with
  | zero =>
    intro j N W h1 h2 h3 h4
    obtain ⟨N, rfl⟩ : ∃ m, N = m + 1 := ⟨N - 1, by omega⟩
    obtain rfl : j = 166 := by omega
    refine ⟨W, ?_, fun u _ _ => rfl, h3, h4⟩
    rw [l_X6_appendText_2, z_n, l0, z_leT (by omega) (by omega) (by omega)]
  | succ d ih =>
    intro j N W h1 h2 h3 h4
    obtain ⟨N, rfl⟩ : ∃ m, N = m + 1 := ⟨N - 1, by omega⟩
    obtain ⟨W1, e1, e2, e3, e4, e5⟩ := z_apb (z_by0 (chS 0 j)) h3 (by omega)
    obtain ⟨W', f1, f2, f3, f4⟩ := ih (j + 1) N W1 (by omega) (by omega) (by rw [e3]; rfl) (fun i hi => by
      by_cases q : i = j
      · have w := e5 0 (Nat.succ_pos _)
        rw [Nat.add_zero] at w
        rw [q, w]
        exact b0 ⟨j, by omega⟩
      · rw [e4 i (Or.inl (by omega))]
        exact h4 i (by omega))
    refine ⟨W', ?_, fun u u1 u2 => by rw [f2 u u1 u2, e2 u u1 u2], f3, f4⟩
    rw [l_X6_appendText_2, z_n, l0, z_leF (by omega) (by omega) (by omega), z_inr (by omega) (by omega) (by omega), z_gd, z_ixn (by omega), e1, z_bdc, z_l1, z_add, ← z_cs]
    exact f1
theorem x_I0s (h0 : x_G 0 0 0 0 s0 g) : ∃ s' g', x_seq s0 g x_I0 14 s' g' ∧ x_G 4 3 2 4 s' g' := by
  obtain ⟨s1, g1, e1, a1⟩ := x_Gs1 (j := 1) h0 (by omega) (Or.inl rfl)
  obtain ⟨s2, g2, e2, a2⟩ := x_Gs1 (j := 2) a1 (by omega) (Or.inr rfl)
  obtain ⟨s3, g3, e3, a3⟩ := x_Gs1 (j := 1) a2 (by omega) (Or.inl rfl)
  obtain ⟨s4, g4, e4, a4⟩ := x_Gs1 (j := 2) a3 (by omega) (Or.inr rfl)
  obtain ⟨s5, g5, e5, a5⟩ := x_Gs3 (a := 0) (b := 1) (w := 2) a4 (by omega) (by omega) (Or.inl ⟨rfl, rfl, by omega⟩) (by omega)
  obtain ⟨s6, g6, e6, a6⟩ := x_Gs3 (a := 1) (b := 2) (w := 3) a5 (by omega) (by omega) (Or.inl ⟨rfl, rfl, by omega⟩) (by omega)
  obtain ⟨s7, g7, e7, a7⟩ := x_Gs3 (a := 2) (b := 3) (w := 1) a6 (by omega) (by omega) (Or.inl ⟨rfl, rfl, by omega⟩) (by omega)
  obtain ⟨s8, g8, e8, a8⟩ := x_Gs4 (L := 3) (ro := fun j => j) (k := 2) a7 (by omega) (by omega) (by omega) (by omega) (fun j hj => by show j < 4; omega) (fun j hj => ⟨j, by omega, by omega, Or.inl ⟨rfl, rfl⟩⟩)
  obtain ⟨s9, g9, e9, a9⟩ := x_Gs4 (L := 2) (ro := fun j => 3 - j) (k := 1) a8 (by omega) (by omega) (by omega) (by omega) (fun j hj => by show 3 - j < 4; omega) (fun j hj => ⟨2 - j, by omega, by omega, Or.inr ⟨by show 3 - j = 2 - j + 1; omega, by show 3 - (j + 1) = 2 - j; omega⟩⟩)
  obtain ⟨s10, g10, e10, a10⟩ := x_Gs5 (a := 0) (b := 2) (w := 5) a9 (by omega) (by omega) (by omega) (by omega) (by omega) (by omega)
  obtain ⟨s11, g11, e11, a11⟩ := x_Gs5 (a := 0) (b := 3) (w := 7) a10 (by omega) (by omega) (by omega) (by omega) (by omega) (by omega)
  obtain ⟨s12, g12, e12, a12⟩ := x_Gs5 (a := 1) (b := 0) (w := 3) a11 (by omega) (by omega) (by omega) (by omega) (by omega) (by omega)
  obtain ⟨s13, g13, e13, a13⟩ := x_Gs5 (a := 3) (b := 1) (w := 1) a12 (by omega) (by omega) (by omega) (by omega) (by omega) (by omega)
  obtain ⟨s14, g14, e14, a14⟩ := x_Gs6 (a := 2) (w := 2) a13 (by omega) (by omega) (by omega)
  exact ⟨s14, g14, x_seq_app (x_seq_app (x_seq_app (x_seq_app (x_seq_app (x_seq_app (x_seq_app (x_seq_app (x_seq_app (x_seq_app (x_seq_app (x_seq_app (x_seq_app e1 e2) e3) e4) e5) e6) e7) e8) e9) e10) e11) e12) e13) e14, a14⟩
theorem x_G0 (hf : z_bos f) : ∃ s', f_X4_clear (zV f) = some (zV s') ∧ x_G 0 0 0 0 s' (fun _ => 0) := by
  obtain ⟨s', e1, e2, e3⟩ := y_clr (b := 0) (Int.le_refl _) hf
  exact ⟨s', e1, e2, e3, ⟨rfl, rfl, rfl, rfl, rfl, rfl⟩, fun i hi => absurd hi (by omega), ⟨Nat.le_refl _, fun i hi => absurd hi (by omega)⟩, fun i hi => absurd hi (by omega), fun i hi => absurd hi (by omega)⟩
theorem x_init : ∃ W so f, f_X9_init W00 = some W ∧ W 0 = zV so ∧ z_b01 (zV so) ∧ W 2 = zV f ∧ z_bos f ∧ W 15 0 = zI 0 ∧ x_hi W := by
  obtain ⟨l1, l0, -, bb, -⟩ := x_I0b
  obtain ⟨s0, c0, G0⟩ := x_G0 (f := fun _ => 0) ⟨fun i _ => Or.inl rfl, fun i _ => Or.inl rfl, fun i _ => Or.inl rfl⟩
  obtain ⟨s1, g1, q1, G1⟩ := x_I0s G0
  obtain ⟨W1, e1, e2, e3, e4⟩ := x_app0 166 0 FU W00 (by omega) (by unfold FU; omega) (by unfold W00; rw [if_neg (by omega), z_l0]; rfl) (fun i hi => absurd hi (by omega))
  obtain ⟨TT, W2, f1, f2, f3⟩ := x_parse (C := x_I0) (D := x_I1) (f := fun _ => 0) (by
    rw [e2 2 (by omega) (by omega)]
    funext k
    unfold W00
    rw [if_neg (by omega), z_l0]
    rfl) (by omega) (by rw [e3, l1]; rfl) (fun j hj => e4 j (by omega)) bb c0 G0.1 q1 (by omega)
  have cc := x_G_c G1
  have J := x_G_J G1 (by omega)
  obtain ⟨Y, -, r⟩ := x_hin (W := fun _ => zV s1) rfl J.1 (x_G_fs G1) (by omega) (by omega)
  obtain ⟨N, hN⟩ : ∃ N, FU - 14 = N + 2 := ⟨FU - 14 - 2, by unfold FU; omega⟩
  obtain ⟨W3, s3, h1, h2, h3, h4, h5⟩ := x_run (k := 4) (by omega) J r (by omega) f1 f2 (by omega) N (i := 14) (by omega)
  obtain ⟨s4, k1, k2⟩ := x_copy (W3 0) (x_b01 h3.1)
  have b3 := h3.1.2.1
  refine ⟨setU W3 0 (zV s4), s4, s3, ?_, z_sUe, ⟨fun i hi => ?_, fun i hi => ?_, fun i hi => ?_⟩, by rw [z_sUu (by omega)]; exact h2, b3, by rw [z_sUu (by omega)]; exact h4, 0, 0, ?_, ?_, by omega, by omega⟩
  · unfold f_X9_init f_X6_appendText
    rw [show (0 : Int32) = zI ((0 : Nat) : Int) by rw [z_l0]; rfl, e1, z_bdc, f3, hN, h1, z_bdc, h2, k1, z_bdc, z_bnd]
  · exact z_z01 (by rw [k2 _ (by omega)]; exact b3.1 i hi)
  · exact z_z01 (by rw [k2 _ (by omega)]; exact b3.2.1 i hi)
  · exact z_z01 (by rw [k2 _ (by omega)]; exact b3.2.2 i hi)
  · rw [z_sUu (by omega), h5 17 (by omega) (by omega) (by omega) (by omega), e2 17 (by omega) (by omega)]
    unfold W00
    rw [if_neg (by omega), z_l0]
  · rw [z_sUu (by omega), h5 17 (by omega) (by omega) (by omega) (by omega), e2 17 (by omega) (by omega)]
    unfold W00
    rw [if_neg (by omega), z_l0]
theorem x_G_315 (h : x_G n m t c s g) (e : ∀ k, k < 315 → s' k = s k) : x_G n m t c s' g := by
  refine ⟨z_PI_315 h.1 e (fun _ _ => rfl), ⟨fun i hi h8 => ?_, fun i hi h4 => ?_⟩, h.2.2⟩
  · rw [e 1 (by omega)] at hi
    exact h.2.1.1 i hi h8
  · rw [e 3 (by omega)] at hi
    exact h.2.1.2 i hi h4
theorem x_celG {G : GT} (k : Nat) (_ : k < 64) : ∃ x : Int, celG G (zI (k : Int)) = zI x ∧ 0 ≤ x ∧ x < 2147483648 := by
  unfold celG
  split
  · exact x_y31 _
  · exact ⟨0, z_l0, by omega, by omega⟩
theorem x_law {cl : Int32 → Int32} (hcl : ∀ k : Nat, k < 64 → ∃ x : Int, cl (zI (k : Int)) = zI x ∧ 0 ≤ x ∧ x < 2147483648) : f_law cl = some 1 := by
  obtain ⟨W0, so, f, i1, i2, i3, i4, i5, i6, i7⟩ := x_init
  obtain ⟨s0, c0, G0⟩ := x_G0 i5
  obtain ⟨T, n, m, t, c, s, g, t1, ⟨C, k, rfl, C1, C2, C3⟩, G1, t4, t5, t6⟩ := x_text hcl G0
  rw [List.length_map] at t6
  obtain ⟨W1, a1, a2, a3, a4⟩ := x_says C1 t6 i6
  obtain ⟨W2, b1, b2, b3, b4, b5⟩ := x_parse2 (W := W1) (f := f) (by rw [a2 2 (by omega) (by omega)]; exact i4) (by omega) a3 a4 C1 c0 G0.1 C3 (by omega)
  have hhi : x_hi W2 := by
    obtain ⟨x, y, h1, h2, h3⟩ := i7
    exact ⟨x, y, by rw [b5 17 (by omega) (by omega) (by omega) (by omega), a2 17 (by omega) (by omega)]; exact h1, by rw [b5 17 (by omega) (by omega) (by omega) (by omega), a2 17 (by omega) (by omega)]; exact h2, h3⟩
  have h20 : W2 0 = zV so := by rw [b5 0 (by omega) (by omega) (by omega) (by omega), a2 0 (by omega) (by omega)]; exact i2
  obtain ⟨W3, d1, d2, d3, d4⟩ := x_rem h20 i3 hhi
  obtain ⟨s', k1, k2⟩ := x_copy (W3 0) (x_b01 G1.1.1)
  have G2 := x_G_315 (s' := s') G1 k2
  have cc := x_G_c G2
  have J := x_G_J G2 t4.1
  have h30 : setU W3 0 (zV s') 0 = zV s' := z_sUe
  obtain ⟨Y, e1, e2⟩ := x_hin h30 J.1 (x_G_fs G2) (by omega) (by omega)
  have I : x_LI 0 (setU W3 0 (zV s')) Y s' := by
    obtain ⟨x, y, h1, h2, h3⟩ := d3
    exact ⟨h30, J, e2, by omega, x, y, by rw [z_sUu (by omega)]; exact h1, by rw [z_sUu (by omega)]; exact h2, h3⟩
  have L := x_loop hcl 32 10 33 0 _ Y s' (by omega) (by omega) (by omega) I
  have eL : f_L_loaded W1 = some (setU W3 0 (zV s') 0 1, setU W3 0 (zV s')) := by
    unfold f_L_loaded f_X9_load
    rw [b1, z_bdc, b3, z_l0, if_pos rfl, d1, z_bdc, d4 2 (by omega) (by omega), b2, k1, z_bdc, z_bnd, x_bt2]
  unfold f_law
  rw [i1, z_bdc, t1, z_bdc, a1, z_bdc, eL, z_bdc]
  unfold f_X9_stationCount f_X9_errorCode
  rw [z_bdc, if_pos rfl, z_bdc]
  dsimp only
  have e13 : setU W3 0 (zV s') 13 0 = 0 := by rw [z_sUu (by omega), d4 13 (by omega) (by omega), b3, z_l0]
  rw [if_pos e13, e1, z_bdc]
  rw [show (10 : Int32) = zI ((10 : Nat) : Int) from z_lit 10]
  exact L
end Pur
theorem pure_law {b L : Nat} {xs : Nat → Int32} {adK adV : Nat → Nat} (_ : L ≤ 260) : f_law (celG (b, L, xs, adK, adV)) = some 1 := x_law x_celG
