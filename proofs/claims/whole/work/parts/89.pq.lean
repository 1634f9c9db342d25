/-! the whole text -/
section Pq
variable {W W' W0 V V' V0 : Nat → Nat → Int32} {T : Nat → Int} {n r p q p' q' : Nat} {kd kd' : Int} {s s' g g' : Nat → Int} {b b' : Int} {c : Int} {x : Int32}
def y_fo (b : Int) (T : Nat → Int) (n : Nat) (W0 V0 : Nat → Nat → Int32) (W V : Nat → Nat → Int32) : Prop := (∃ c x s g, y_Ce b T n W0 s g c x W ∧ y_Re T n V0 c x V) ∨ (∃ s g p' q' kd', y_Cg b T n W0 s g p' q' kd' W ∧ y_Rg b T n V0 s g p' q' kd' V ∧ y_z s g)
theorem y_26x (N : Nat) (x1 : Int32) : l_X3_parse_26 (N + 1) W x1 = if (600 : Int32) ≤ x1 then bnd (w2 W 15 0 (0 : Int32)) (fun W7 => some W7) else if (W 13 0) = 0 then if (W 15 1) = 0 then bnd (w2 W 15 0 (0 : Int32)) (fun W11 => some W11) else bdc (f_X3_readStatement W) (fun W12 => y_fin x1 (fun x22 => l_X3_parse_26 N x22 (x1 + (1 : Int32))) W12) else bnd (w2 W 15 0 (0 : Int32)) (fun W9 => some W9) := rfl
theorem y_26e (h : y_Ce b T n W0 s g c x W) (N : Nat) (x1 : Int32) : l_X3_parse_26 (N + 1) W x1 = some (w2 W 15 0 (zI 0)) := by
  rw [y_26x, h.2.2.1, z_l0, z_eqF (by have := h.2.2.2.2.1; omega) (by have := h.2.2.2.2.1; omega) (by have := h.2.2.2.2.1; omega) (by omega) (by omega), z_bnd]
  split <;> rfl
theorem y_lop : ∀ (d : Nat) (N M x : Nat) (b : Int) (W V : Nat → Nat → Int32) (s g : Nat → Int) (p q : Nat) (kd : Int), n - p < d → d < N → d < M → 0 ≤ b → b + 60 * d ≤ 1000000000 → x ≤ p → y_Cg b T n W0 s g p q kd W → y_Rg b T n V0 s g p q kd V → y_z s g → ∃ W' V', l_X3_parse_26 N W (zI (x : Nat)) = some (w2 W' 15 0 (zI 0)) ∧ l_X10_read_41 M V = some V' ∧ y_fo (b + 60 * d) T n W0 V0 W' V' := by
  intro d
  induction d with
  | zero => intro N M x b W V s g p q kd h; omega
  | succ d ih =>
    intro N M x b W V s g p q kd hd hN hM hb hB hx hC hR z
    obtain ⟨N, rfl⟩ : ∃ k, N = k + 1 := ⟨N - 1, by omega⟩
    obtain ⟨M, rfl⟩ : ∃ k, M = k + 1 := ⟨M - 1, by omega⟩
    have hbb := y_Cg_b hC
    have k3 := y_rk3 hbb.2.2.2.1
    by_cases e : kd = 0
    · refine ⟨W, V, ?_, ?_, Or.inr ⟨s, g, p, q, kd, y_Cg_le hC (by omega), y_Rg_le hR (by omega), z⟩⟩
      · rw [y_26x, hC.2.2.1, hC.2.1.2.2.1, z_l0, if_pos rfl, z_eqT e, z_bnd]
        split <;> rfl
      · rw [l_X10_read_41, y_r0 hR, hR.2.1.2.2.1, z_l0, z_eqT (by omega)]
    · have hx6 : x < 600 := by omega
      obtain ⟨W1, V1, j1, j2, j3⟩ := y_stm ⟨hb, by omega⟩ hC hR z
      have eL : l_X3_parse_26 (N + 1) W (zI (x : Nat)) = l_X3_parse_26 N W1 (zI ((x + 1 : Nat) : Int)) := by
        rw [y_26x, hC.2.2.1, hC.2.1.2.2.1, z_l0, if_pos rfl, z_eqF e (by omega) (by omega) (by omega) (by omega), show (600 : Int32) = zI 600 from z_lit 600, z_leF (by omega) (by omega) (by omega), j1, z_l1, z_add]
        rfl
      have eR : l_X10_read_41 (M + 1) V = l_X10_read_41 M V1 := by
        rw [l_X10_read_41, y_r0 hR, hR.2.1.2.2.1, z_l0, z_eqF (by omega) (by omega) (by omega) (by omega) (by omega), j2, z_bdc]
      rw [eL, eR]
      rcases j3 with ⟨c, y, s1, g1, w1, w2'⟩ | ⟨s1, g1, p1, q1, kd1, hC1, hR1, z1, hp⟩
      · obtain ⟨N, rfl⟩ : ∃ k, N = k + 1 := ⟨N - 1, by omega⟩
        obtain ⟨M, rfl⟩ : ∃ k, M = k + 1 := ⟨M - 1, by omega⟩
        refine ⟨W1, V1, y_26e w1 _ _, ?_, Or.inl ⟨c, y, s1, g1, y_Ce_le w1 (by omega), w2'⟩⟩
        rw [l_X10_read_41, y_r9 w2']
      · have hq := hbb.2.2.2.2.2 e
        have hb1 := y_Cg_b hC1
        obtain ⟨W2, V2, f1, f2, f3⟩ := ih N M (x + 1) (b + 60) W1 V1 s1 g1 p1 q1 kd1 (by omega) (by omega) (by omega) (by omega) (by omega) (by omega) hC1 hR1 z1
        rw [show b + 60 + 60 * (d : Int) = b + 60 * ((d + 1 : Nat) : Int) by omega] at f3
        exact ⟨W2, V2, f1, f2, f3⟩
theorem y_17 {K : (Nat → Nat → Int32) → Option (Nat → Nat → Int32)} : ∀ d N (V : Nat → Nat → Int32) (m : Nat), m + d = 251 → d < N → (∀ k, k < m → V 22 k = zI 0) → ∃ V', l_X10_read_17 K N V (zI (m : Nat)) = K V' ∧ (∀ k, k < 251 → V' 22 k = zI 0) ∧ ∀ u, u ≠ 22 → V' u = V u := by
  intro d
  induction d with
  | zero =>
    intro N V m hm hN h
    obtain ⟨N, rfl⟩ : ∃ k, N = k + 1 := ⟨N - 1, by omega⟩
    refine ⟨V, ?_, fun k hk => h k (by omega), fun _ _ => rfl⟩
    rw [l_X10_read_17, show (251 : Int32) = zI 251 from z_lit 251, z_leT (by omega) (by omega) (by omega)]
  | succ d ih =>
    intro N V m hm hN h
    obtain ⟨N, rfl⟩ : ∃ k, N = k + 1 := ⟨N - 1, by omega⟩
    obtain ⟨V', e1, e2, e3⟩ := ih N (w2 V 22 m (zI 0)) (m + 1) (by omega) (by omega) (fun k hk => by
      by_cases c : k = m
      · rw [c, z_w2e]
      · rw [z_w2k c]
        exact h k (by omega))
    refine ⟨V', ?_, e2, fun u hu => by rw [e3 u hu, z_w2u hu]⟩
    rw [l_X10_read_17, show (251 : Int32) = zI 251 from z_lit 251, z_leF (by omega) (by omega) (by omega), z_inr (by omega) (by omega) (by omega), z_gd, z_ixn (by omega), z_bnd, z_l0, z_l1, z_add]
    exact e1
/-- the whole parse, both sides -/
theorem y_prs {f : Nat → Int} (hb : 0 ≤ b) (hB : b + 60 * 601 ≤ 1000000000) (hW : z_CT T n W) (hV : z_GT T n V) (h2 : W 2 = zV f) (hf : z_bos f) : ∃ W' V', f_X3_parse W = some (w2 W' 15 0 (zI 0)) ∧ f_X10_read V = some V' ∧ y_fo (b + 60 * 601) T n W V W' V' := by
  obtain ⟨s', e1, e2, e3⟩ := y_clr hb hf
  obtain ⟨p, q, kd, t⟩ := z_tok_x (T := T) (n := n) (r := 0) (by omega)
  have hn := hW.2.2.1
  unfold f_X3_parse f_X10_read f_X6_begin
  rw [h2, e1, z_bdc, z_bnd, z_bnd, z_bnd, z_bnd, z_l0]
  obtain ⟨X, hX⟩ : ∃ X, X = w2 (w2 (w2 (setU W 2 (zV s')) 13 0 (zI 0)) 13 1 (-1)) 15 3 (zI 0) := ⟨_, rfl⟩
  rw [← hX]
  have hXt : z_CT T n X := by
    rw [hX]
    refine z_CT_2 ⟨fun k hk => ?_, hW.2.1, hW.2.2.1, ?_⟩ (by omega)
    · rw [z_w2u (by omega), z_w2u (by omega), z_sUu (by omega)]
      exact hW.1 k hk
    · rw [z_w2u (by omega), z_w2u (by omega), z_sUu (by omega)]
      exact hW.2.2.2
  have hX3 : X 15 3 = zI ((0 : Nat) : Int) := by rw [hX, z_w2e]; rfl
  have hCf : y_Cf T n W X := ⟨fun u a b c d => by rw [hX, z_w2u d, z_w2u b, z_w2u b, z_sUu a], hXt⟩
  have ad := y_Cadv hXt hX3 t
  have hC : y_Cg b T n W s' (fun _ => 0) p q kd (y_Ctk X p q kd) := by
    refine ⟨y_Cf_tk hCf, y_Ctk_t t, ?_, ?_, ?_, e2⟩
    · rw [y_Ctk_u (by omega), hX, z_w2u (by omega), z_w2k (by omega), z_w2e]
    · rw [y_Ctk_u (by omega), hX, z_w2u (by omega), z_w2e]
      rfl
    · rw [y_Ctk_u (by omega), hX, z_w2u (by omega), z_w2u (by omega), z_w2u (by omega), z_sUe]
  rw [ad, z_bdc, z_bdc, z_bnd, z_bnd, z_bnd]
  obtain ⟨Y, hY, y22, yu⟩ := y_17 (K := fun (x6 : Nat → Nat → Int32) => bdc (f_X10_advance x6) (fun W7 => l_X10_read_41 FU W7)) 251 FU (w2 (w2 (w2 V 30 9 (zI 0)) 30 10 (-1)) 30 4 (zI 0)) 0 (by omega) (by unfold FU; omega) (fun k hk => by omega)
  rw [show zI ((0 : Nat) : Int) = zI 0 from rfl] at hY
  rw [hY]
  have yt : z_GT T n Y := by
    have h3 := z_GT_2 (z_GT_2 (z_GT_2 hV (k := 9) (by omega) (v := zI 0)) (k := 10) (by omega) (v := -1)) (k := 4) (by omega) (v := zI 0)
    exact ⟨fun k hk => by rw [yu 28 (by omega)]; exact h3.1 k hk, h3.2.1, h3.2.2.1, by rw [yu 30 (by omega)]; exact h3.2.2.2⟩
  have y4 : Y 30 4 = zI ((0 : Nat) : Int) := by rw [yu 30 (by omega), z_w2e]; rfl
  have y9 : Y 30 9 = zI 0 := by rw [yu 30 (by omega), z_w2k (by omega), z_w2k (by omega), z_w2e]
  have y10 : Y 30 10 = zI (-1) := by rw [yu 30 (by omega), z_w2k (by omega), z_w2e]; rfl
  have yk : ∀ k, k < 4 ∨ 10 < k → Y 30 k = V 30 k := fun k hk => by rw [yu 30 (by omega), z_w2k (by omega), z_w2k (by omega), z_w2k (by omega)]
  obtain ⟨V1, r1, f1, f2, f3, f4, f5, f6, f7⟩ := y_Gadv yt y4 t
  have hR : y_Rg b T n V s' (fun _ => 0) p q kd V1 := by
    refine ⟨⟨fun u a b c => by rw [f1 u c, yu u a, z_w2u c, z_w2u c, z_w2u c], fun k hk => by rw [f2 k (by omega), yk k hk], fun k hk => by rw [f1 28 (by omega)]; exact yt.1 k hk, yt.2.1, yt.2.2.1, by rw [f2 3 (by omega)]; exact yt.2.2.2⟩, ⟨f3, f4, f5, f6, f7, 0, t⟩, by rw [f2 9 (by omega)]; exact y9, by rw [f2 10 (by omega)]; exact y10, fun k hk => by rw [f1 22 (by omega)]; exact y22 k hk, e2⟩
  rw [r1, z_bdc]
  exact y_lop 601 FU FU 0 b _ V1 _ _ p q kd (by omega) (by unfold FU; omega) (by unfold FU; omega) hb hB (by omega) hC hR e3
end Pq
