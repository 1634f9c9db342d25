/-! a text is parsed -/
section Par
variable {C D : List Int} {W W' W0 W1 : Nat → Nat → Int32} {s s0 s' g g' f : Nat → Int} {TT : Nat → Int} {n m r : Nat}
theorem x_y255 (a : Int32) : ∃ t : Int, (0 ≤ t ∧ t ≤ 255) ∧ a &&& 255 = zI t := by
  refine ⟨((a.toBitVec.toNat % 256 : Nat) : Int), by omega, ?_⟩
  apply Int32.toBitVec.inj
  rw [z_bvn (by omega), Int32.toBitVec_and]
  apply BitVec.eq_of_toNat_eq
  rw [BitVec.toNat_and, BitVec.toNat_ofNat, show (Int32.toBitVec 255).toNat = 255 by decide, Nat.and_two_pow_sub_one_eq_mod _ 8]
  omega
theorem x_y31 (a : Int32) : ∃ t : Int, a &&& 2147483647 = zI t ∧ 0 ≤ t ∧ t < 2147483648 := by
  refine ⟨((a.toBitVec.toNat % 2147483648 : Nat) : Int), ?_, by omega, by omega⟩
  apply Int32.toBitVec.inj
  rw [z_bvn (by omega), Int32.toBitVec_and]
  apply BitVec.eq_of_toNat_eq
  rw [BitVec.toNat_and, BitVec.toNat_ofNat, show (Int32.toBitVec 2147483647).toNat = 2147483647 by decide, Nat.and_two_pow_sub_one_eq_mod _ 31]
  omega
theorem x_parse (h2 : W 2 = zV f) (hl : (C ++ D).length ≤ 600) (h15 : W 15 0 = zI ((C ++ D).length : Int)) (h16 : ∀ j, j < (C ++ D).length → W 16 j &&& 255 = zI ((C ++ D).getD j 0)) (hb : ∀ x ∈ C ++ D, 0 ≤ x ∧ x < 128) (hs0 : f_X4_clear (zV f) = some (zV s0)) (P : z_PI 0 s0 (fun _ => 0)) (sq : x_seq s0 (fun _ => 0) C m s g) (hm : m ≤ 500) : ∃ TT W', x_at TT (C ++ D).length W C.length s g W' ∧ x_has TT C.length D ∧ f_X3_parse W = l_X3_parse_26 (FU - m) W' (zI (m : Int)) := by
  obtain ⟨TT, hTT⟩ : ∃ TT : Nat → Int, ∀ k, W 16 k &&& 255 = zI (TT k) ∧ 0 ≤ TT k ∧ TT k ≤ 255 := ⟨fun k => (W 16 k &&& 255).toInt, fun k => by
    obtain ⟨t, t1, t2⟩ := x_y255 (W 16 k)
    refine ⟨(z_of _).symm, ?_⟩
    show 0 ≤ (W 16 k &&& 255).toInt ∧ (W 16 k &&& 255).toInt ≤ 255
    rw [t2, z_toInt (by unfold zR; omega)]
    exact t1⟩
  have has : x_has TT 0 (C ++ D) := fun j hj => by
    have a1 := h16 j hj
    have a2 := hTT j
    have a3 := hb _ (x_getD hj).2
    rw [a2.1, z_eq (by unfold zR; omega) (by unfold zR; omega)] at a1
    rw [Nat.zero_add]
    exact a1
  obtain ⟨X5, hX5⟩ : ∃ X5, X5 = w2 (w2 (w2 (setU W 2 (zV s0)) 13 0 0) 13 1 (-1)) 15 3 0 := ⟨_, rfl⟩
  have u16 : X5 16 = W 16 := by rw [hX5, z_w2u (by omega), z_w2u (by omega), z_w2u (by omega), z_sUu (by omega)]
  have u15 : X5 15 0 = W 15 0 := by rw [hX5, z_w2k (by omega), z_w2u (by omega), z_w2u (by omega), z_sUu (by omega)]
  have ct : z_CT TT (C ++ D).length X5 := ⟨fun k hk => by rw [u16]; exact (hTT k).1, fun k => (hTT k).2, hl, by rw [u15, h15]⟩
  obtain ⟨p, q, kd, t⟩ := z_tok_x (T := TT) (n := (C ++ D).length) (r := 0) (Nat.zero_le _)
  have ad := y_Cadv ct (r := 0) (by rw [hX5, z_w2e, z_l0]; rfl) t
  have cf : y_Cf TT (C ++ D).length W X5 := ⟨fun u a b c d => by rw [hX5, z_w2u d, z_w2u b, z_w2u b, z_sUu a], ct⟩
  have cg : y_Cg 0 TT (C ++ D).length W s0 (fun _ => 0) p q kd (y_Ctk X5 p q kd) := by
    refine ⟨y_Cf_tk cf, y_Ctk_t t, ?_, ?_, ?_, P⟩
    · rw [y_Ctk_u (by omega), hX5, z_w2u (by omega), z_w2k (by omega), z_w2e, z_l0]
    · rw [y_Ctk_u (by omega), hX5, z_w2u (by omega), z_w2e]
      rfl
    · rw [y_Ctk_u (by omega), hX5, z_w2u (by omega), z_w2u (by omega), z_w2u (by omega), z_sUe]
  obtain ⟨W', e1, e2⟩ := sq TT (C ++ D).length W 0 _ (x_has_l has) (by rw [List.length_append]; omega) ⟨p, q, kd, t, cg⟩
  rw [Nat.zero_add] at e1
  have hD := x_has_r has
  rw [Nat.zero_add] at hD
  refine ⟨TT, W', e1, hD, ?_⟩
  have e3 := e2 (FU - m) 0 (by omega)
  rw [show FU - m + m = FU by unfold FU; omega, Nat.zero_add] at e3
  unfold f_X3_parse f_X6_begin
  rw [h2, hs0, z_bdc, z_bnd, z_bnd, z_bnd, z_bnd, ← hX5, ad, z_bdc, z_bdc, ← e3, z_l0]
  rfl
theorem x_eot (h : x_at TT n W0 n s g W) (N : Nat) {i : Nat} (hi : i < 600) : l_X3_parse_26 (N + 1) W (zI (i : Int)) = some (w2 W 15 0 (zI 0)) := by
  obtain ⟨p, q, kd, t, c⟩ := h
  have k0 : kd = 0 := by
    have t1 := t.1
    rcases t.2.2 with ⟨-, -, e⟩ | ⟨e, -⟩
    · exact e
    · omega
  rw [y_26x, show (600 : Int32) = zI 600 from z_lit 600, z_leF (by omega) (by omega) (by omega), c.2.2.1, z_l0, if_pos rfl, c.2.1.2.2.1, k0, if_pos rfl, z_bnd]
theorem x_parse2 (h2 : W 2 = zV f) (hl : C.length ≤ 600) (h15 : W 15 0 = zI (C.length : Int)) (h16 : ∀ j, j < C.length → W 16 j &&& 255 = zI (C.getD j 0)) (hb : ∀ x ∈ C, 0 ≤ x ∧ x < 128) (hs0 : f_X4_clear (zV f) = some (zV s0)) (P : z_PI 0 s0 (fun _ => 0)) (sq : x_seq s0 (fun _ => 0) C m s g) (hm : m ≤ 500) : ∃ W', f_X3_parse W = some W' ∧ W' 2 = zV s ∧ W' 13 0 = zI 0 ∧ W' 15 0 = zI 0 ∧ ∀ u, u ≠ 2 → u ≠ 13 → u ≠ 14 → u ≠ 15 → W' u = W u := by
  obtain ⟨TT, W1, e1, -, e3⟩ := x_parse (D := []) h2 (by rw [List.append_nil]; exact hl) (by rw [List.append_nil]; exact h15) (by rw [List.append_nil]; exact h16) (by rw [List.append_nil]; exact hb) hs0 P sq hm
  rw [List.append_nil] at e1
  obtain ⟨p, q, kd, t, c⟩ := id e1
  obtain ⟨N, hN⟩ : ∃ N, FU - m = N + 1 := ⟨FU - m - 1, by unfold FU; omega⟩
  refine ⟨_, by rw [e3, hN]; exact x_eot e1 N (by omega), ?_, ?_, z_w2e, fun u a b c' d => ?_⟩
  · rw [z_w2u (by omega)]
    exact c.2.2.2.2.1
  · rw [z_w2u (by omega)]
    exact c.2.2.1
  · rw [z_w2u d]
    exact c.1.1 u a b c' d
/-- minutes after a text's run -/
theorem x_72 {x1 : Int32} {k : Nat} (hk : k ≤ 60) : ∀ (d i N : Nat) (b : Int) (W : Nat → Nat → Int32) (s : Nat → Int) (Y : Nat → Nat → Int32), i + d = k → d < N → b + d ≤ 1000 → x_J b s → x_rel s Y → s 3 ≤ 3 → W 2 = zV s → ∃ W' s', (∀ K : (Nat → Nat → Int32) → Option (Nat → Nat → Int32), l_X3_parse_72 x1 (zI (k : Int)) K N W (zI (i : Int)) = K W') ∧ W' 2 = zV s' ∧ x_J (b + d) s' ∧ ∀ u, u ≠ 2 → W' u = W u := by
  intro d
  induction d with
  | zero =>
    intro i N b W s Y h1 h2 h3 J r hs h0
    obtain ⟨N, rfl⟩ : ∃ m, N = m + 1 := ⟨N - 1, by omega⟩
    refine ⟨W, s, fun K => ?_, h0, by rw [show b + ((0 : Nat) : Int) = b by omega]; exact J, fun u _ => rfl⟩
    rw [l_X3_parse_72, z_leT (by omega) (by omega) (by omega)]
  | succ d ih =>
    intro i N b W s Y h1 h2 h3 J r hs h0
    obtain ⟨N, rfl⟩ : ∃ m, N = m + 1 := ⟨N - 1, by omega⟩
    obtain ⟨s1, Y1, f1, f2, f3, f4, f5, f6⟩ := x_minute (b := b) (by omega) J r hs
    obtain ⟨W', s', g1, g2, g3, g4⟩ := ih (i + 1) N (b + 1) (setU W 2 (zV s1)) s1 Y1 (by omega) (by omega) (by omega) f3 f4 (by rw [f6 3 (by omega) (by omega)]; exact hs) z_sUe
    refine ⟨W', s', fun K => ?_, g2, by rw [show b + ((d + 1 : Nat) : Int) = b + 1 + (d : Int) by omega]; exact g3, fun u hu => by rw [g4 u hu, z_sUu hu]⟩
    rw [l_X3_parse_72, z_leF (by omega) (by omega) (by omega), h0, f1, z_bdc, z_bnd, z_l1, z_add, ← z_cs]
    exact g1 K
/-- the run at a text's end -/
theorem x_run {k : Nat} {Y : Nat → Nat → Int32} (hk : k ≤ 9) (J : x_J 0 s) (r0 : x_rel s Y) (h3 : s 3 ≤ 3) (hat : x_at TT n W0 r s g W) (hh : x_has TT r (x_KB 8 ++ 32 :: [48 + (k : Int), 59])) (hn : r + 6 = n) (N : Nat) {i : Nat} (hi : i < 500) : ∃ W' s', l_X3_parse_26 (N + 2) W (zI (i : Int)) = some W' ∧ W' 2 = zV s' ∧ x_J k s' ∧ W' 15 0 = zI 0 ∧ ∀ u, u ≠ 2 → u ≠ 13 → u ≠ 14 → u ≠ 15 → W' u = W0 u := by
  have hD := x_has_r hh
  have b0 : TT (r + 3) = 32 := hD 0 (show 0 < 3 by omega)
  have b1 : TT (r + 3 + 1) = 48 + (k : Int) := hD 1 (show 1 < 3 by omega)
  have b2 : TT (r + 3 + 2) = 59 := hD 2 (show 2 < 3 by omega)
  have t2 : z_tok TT n (r + 3) (r + 3 + 1) (r + 3 + 2) 2 := x_td b0 b1 (by omega) (by omega) (by rw [b2]; omega)
  have t3 : z_tok TT n (r + 3 + 2) (r + 3 + 2) (r + 3 + 3) 3 := x_tk3 b2 (by omega)
  have t4 : z_tok TT n (r + 3 + 3) n n 0 := ⟨by omega, fun j h1 h2 => absurd h2 (by omega), Or.inl ⟨rfl, rfl, rfl⟩⟩
  obtain ⟨W3, e3, c3, k3, p0, q0, hg⟩ := x_head (j := 8) (jj := 8) rfl (by omega) (by omega) hat hh (by show r + 3 < n; omega) (by unfold y_full; omega) t2
  obtain ⟨W4, e4, c4, k4, l4⟩ := x_pnm (lo := 0) (hi := 60) (v := (k : Int)) c3 t3 (by omega) (by omega) (x_cv b1 (by omega)) (by omega)
  obtain ⟨W5, e5, c5, k5, -⟩ := x_pen c4 t4
  have h2 : W5 13 2 = zI 8 := by rw [k5, l4 2 (by omega)]; exact k3
  have h6 : W5 13 6 = zI (k : Int) := by rw [k5]; exact k4
  have ex : f_X3_execute W5 = some (zI (k : Int), W5) := by
    unfold f_X3_execute
    rw [z_jn, h2]
    simp (disch := omega) only [z_lit, z_n, z_add, z_sub, z_mul, z_neg, z_lt1, z_lt0, z_le1, z_le0, z_eq1, z_eq0, z_10, ↓reduceIte, z_v, z_upd, z_ue, z_un, z_ixn, z_ixo, z_ix0, z_ix1, z_ix2, z_ix3, z_ix4, z_ix5, z_ix6, Int.reduceToNat, z_inr, z_gd, ↓z_bnd, ↓z_jn, z_bdc, z_bd2, z_opn, z_ops, z_z01, z_Bt, z_Bf]
    rw [show tso (zI 8) 1 7 = true by decide, z_gd, h2]
    simp (disch := omega) only [z_lit, z_n, z_add, z_sub, z_mul, z_neg, z_lt1, z_lt0, z_le1, z_le0, z_eq1, z_eq0, z_10, ↓reduceIte, z_v, z_upd, z_ue, z_un, z_ixn, z_ixo, z_ix0, z_ix1, z_ix2, z_ix3, z_ix4, z_ix5, z_ix6, Int.reduceToNat, z_inr, z_gd, ↓z_bnd, ↓z_jn, z_bdc, z_bd2, z_opn, z_ops, z_z01, z_Bt, z_Bf]
    rw [h6]
  have er : f_X3_readStatement W = some W5 := by
    rw [e3, y_bd8 k3]
    unfold y_B8
    rw [z_l0, z_l60, e4, e5]
  obtain ⟨W6, s', f1, f2, f3, f4⟩ := x_72 (x1 := zI (i : Int)) (k := k) (by omega) k 0 FU 0 W5 s Y (by omega) (by unfold FU; omega) (by omega) J r0 h3 c5.2.2.2.2.1
  rw [show (0 : Int) + (k : Int) = (k : Int) by omega] at f3
  have g0 : W6 13 0 = zI 0 := by rw [f4 13 (by omega)]; exact c5.2.2.1
  have g1 : W6 15 1 = zI 0 := by rw [f4 15 (by omega)]; exact c5.2.1.2.2.1
  refine ⟨w2 W6 15 0 (zI 0), s', ?_, by rw [z_w2u (by omega)]; exact f2, f3, z_w2e, fun u a b c d => by rw [z_w2u d, f4 u a]; exact c5.1.1 u a b c d⟩
  rw [show N + 2 = (N + 1) + 1 from rfl, y_26x, show (600 : Int32) = zI 600 from z_lit 600, z_leF (by omega) (by omega) (by omega), hg.2.2.1, z_l0, if_pos rfl, hg.2.1.2.2.1, z_eqF (by omega) (by omega) (by omega) (by omega) (by omega), er, z_bdc]
  unfold y_fin
  rw [z_jn, c5.2.2.1, z_l0, if_pos rfl, ex, z_bd2]
  rw [show zI ((0 : Nat) : Int) = zI 0 from rfl] at f1
  dsimp only
  rw [f1, z_l1, z_add, y_26x, show (600 : Int32) = zI 600 from z_lit 600, z_leF (by omega) (by omega) (by omega), g0, z_l0, if_pos rfl, g1, if_pos rfl, z_bnd]
end Par
