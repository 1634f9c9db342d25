/-! a statement's keyword, its end; tokens behind a blank -/
section Kws
variable {TT : Nat → Int} {n r p q p' q' : Nat} {kd kd' : Int} {W W' W5 W0 : Nat → Nat → Int32} {s s' g g' : Nat → Int}
theorem x_kwd : ∀ i j, 1 ≤ i → i ≤ 8 → 1 ≤ j → j ≤ 8 → i ≠ j → lenS i ≠ lenS j ∨ ∃ k, k < lenS i ∧ chS i k ≠ chS j k := by
  have H : ∀ i j : Fin 9, 1 ≤ i.1 → 1 ≤ j.1 → i.1 ≠ j.1 → lenS i.1 ≠ lenS j.1 ∨ ∃ k : Fin 8, k.1 < lenS i.1 ∧ chS i.1 k.1 ≠ chS j.1 k.1 := by decide +kernel
  intro i j a b c d e
  rcases H ⟨i, by omega⟩ ⟨j, by omega⟩ a c e with h | ⟨k, h1, h2⟩
  · exact Or.inl h
  · exact Or.inr ⟨k.1, h1, h2⟩
theorem x_kwu {i j : Nat} (h1 : 1 ≤ i) (h8 : i ≤ 8) (g1 : 1 ≤ j) (g8 : j ≤ 8) (a : y_kw TT p q i) (b : y_kw TT p q j) : i = j := by
  by_cases e : i = j
  · exact e
  · exfalso
    rcases x_kwd i j h1 h8 g1 g8 e with c | ⟨k, c1, c2⟩
    · exact c (a.1.symm.trans b.1)
    · exact c2 ((a.2 k c1).symm.trans (b.2 k (by have := a.1.symm.trans b.1; omega)))
theorem x_knj {j : Nat} (g1 : 1 ≤ j) (g8 : j ≤ 8) (b : y_kw TT p q j) : y_kn TT p q = (j : Int) := by
  have no : ∀ i, 1 ≤ i → i ≤ 8 → i ≠ j → ¬ y_kw TT p q i := fun i a c e h => e (x_kwu a c g1 g8 h b)
  have jj : j = 1 ∨ j = 2 ∨ j = 3 ∨ j = 4 ∨ j = 5 ∨ j = 6 ∨ j = 7 ∨ j = 8 := by omega
  unfold y_kn
  rcases jj with e | e | e | e | e | e | e | e <;> subst e
  · rw [y_ift b]; rfl
  · rw [y_iff (no 1 (by omega) (by omega) (by omega)), y_ift b]; rfl
  · rw [y_iff (no 1 (by omega) (by omega) (by omega)), y_iff (no 2 (by omega) (by omega) (by omega)), y_ift b]; rfl
  · rw [y_iff (no 1 (by omega) (by omega) (by omega)), y_iff (no 2 (by omega) (by omega) (by omega)), y_iff (no 3 (by omega) (by omega) (by omega)), y_ift b]; rfl
  · rw [y_iff (no 1 (by omega) (by omega) (by omega)), y_iff (no 2 (by omega) (by omega) (by omega)), y_iff (no 3 (by omega) (by omega) (by omega)), y_iff (no 4 (by omega) (by omega) (by omega)), y_ift b]; rfl
  · rw [y_iff (no 1 (by omega) (by omega) (by omega)), y_iff (no 2 (by omega) (by omega) (by omega)), y_iff (no 3 (by omega) (by omega) (by omega)), y_iff (no 4 (by omega) (by omega) (by omega)), y_iff (no 5 (by omega) (by omega) (by omega)), y_ift b]; rfl
  · rw [y_iff (no 1 (by omega) (by omega) (by omega)), y_iff (no 2 (by omega) (by omega) (by omega)), y_iff (no 3 (by omega) (by omega) (by omega)), y_iff (no 4 (by omega) (by omega) (by omega)), y_iff (no 5 (by omega) (by omega) (by omega)), y_iff (no 6 (by omega) (by omega) (by omega)), y_ift b]; rfl
  · rw [y_iff (no 1 (by omega) (by omega) (by omega)), y_iff (no 2 (by omega) (by omega) (by omega)), y_iff (no 3 (by omega) (by omega) (by omega)), y_iff (no 4 (by omega) (by omega) (by omega)), y_iff (no 5 (by omega) (by omega) (by omega)), y_iff (no 6 (by omega) (by omega) (by omega)), y_iff (no 7 (by omega) (by omega) (by omega)), y_ift b]; rfl
/-- the keywords' bytes -/
def x_KB (j : Nat) : List Int := [[], [115, 116, 111, 112], [114, 101, 113, 117, 101, 115, 116], [116, 114, 97, 99, 107], [116, 114, 97, 105, 110], [112, 97, 114, 99, 101, 108], [105, 110, 115, 112, 101, 99, 116], [99, 108, 111, 115, 101], [114, 117, 110]].getD j []
theorem x_KBs : ∀ j, 1 ≤ j → j ≤ 8 → lenS j = (x_KB j).length ∧ ∀ i, i < lenS j → chS j i = zI ((x_KB j).getD i 0) := by
  have H : ∀ j : Fin 9, 1 ≤ j.1 → lenS j.1 = (x_KB j.1).length ∧ lenS j.1 ≤ 7 ∧ ∀ i : Fin 8, i.1 < lenS j.1 → chS j.1 i.1 = zI ((x_KB j.1).getD i.1 0) := by decide +kernel
  intro j a b
  obtain ⟨h1, h2, h3⟩ := H ⟨j, by omega⟩ a
  have h2' : lenS j ≤ 7 := h2
  exact ⟨h1, fun i hi => h3 ⟨i, by omega⟩ hi⟩
theorem x_KBl : ∀ j, 1 ≤ j → j ≤ 8 → (0 < (x_KB j).length ∧ (x_KB j).length ≤ 7) ∧ ∀ i, i < (x_KB j).length → 97 ≤ (x_KB j).getD i 0 ∧ (x_KB j).getD i 0 ≤ 122 := by
  have H : ∀ j : Fin 9, 1 ≤ j.1 → (0 < (x_KB j.1).length ∧ (x_KB j.1).length ≤ 7) ∧ ∀ i : Fin 8, i.1 < (x_KB j.1).length → 97 ≤ (x_KB j.1).getD i.1 0 ∧ (x_KB j.1).getD i.1 0 ≤ 122 := by decide +kernel
  intro j a b
  obtain ⟨h1, h3⟩ := H ⟨j, by omega⟩ a
  have h2' : (x_KB j).length ≤ 7 := h1.2
  exact ⟨h1, fun i hi => h3 ⟨i, by omega⟩ hi⟩
/-- the keyword is read -/
theorem x_head {j : Nat} {jj : Int} {D : List Int} (hjj : jj = (j : Int)) (j1 : 1 ≤ j) (j8 : j ≤ 8) (ha : x_at TT n W0 r s g W) (hh : x_has TT r (x_KB j ++ 32 :: D)) (hr : r + (x_KB j).length < n) (hf : ¬ y_full jj s) (t2 : z_tok TT n (r + (x_KB j).length) p q kd) : ∃ W3, f_X3_readStatement W = y_body W3 ∧ y_Cg 0 TT n W0 s g p q kd W3 ∧ W3 13 2 = zI jj ∧ ∃ p0 q0, y_Cg 0 TT n W0 s g p0 q0 1 W := by
  subst hjj
  obtain ⟨l0, l1⟩ := x_KBl j j1 j8
  obtain ⟨m0, m1⟩ := x_KBs j j1 j8
  have hK := x_has_l hh
  have h32 : TT (r + (x_KB j).length) = 32 := x_has_r hh 0 (Nat.succ_pos _)
  have t1 : z_tok TT n r r (r + (x_KB j).length) 1 := by
    have t := x_tkw (TT := TT) (n := n) (r := r) (e := 0) (k := (x_KB j).length) (fun j hj => absurd hj (by omega)) l0.1 (fun i hi => by rw [Nat.add_zero, hK i hi]; exact l1 i hi) (by omega) (by rw [Nat.add_zero, h32]; omega)
    rw [Nat.add_zero] at t
    exact t
  have hg := x_at_g ha t1
  have ek : y_kn TT r (r + (x_KB j).length) = (j : Int) := x_knj j1 j8 ⟨by rw [Nat.add_sub_cancel_left]; exact m0.symm, fun i hi => by rw [hK i (by omega)]; exact (m1 i hi).symm⟩
  exact ⟨_, (y_kc hg (k := (j : Int)) (by omega) ek t2).1 hf, y_Cg_13 (y_ga hg t2).2 (by omega), z_w2e, r, r + (x_KB j).length, hg⟩
/-- a turn of the loop over the statements -/
theorem x_26 (hg : y_Cg 0 TT n W0 s g p q 1 W) (e : f_X3_readStatement W = some W5) (h5 : y_Cg 0 TT n W0 s g p' q' kd' W5) (ex : f_X3_execute W5 = some (zI 0, W')) (N i : Nat) (hi : i + 1 ≤ 600) : l_X3_parse_26 (N + 1) W (zI (i : Int)) = l_X3_parse_26 N W' (zI ((i + 1 : Nat) : Int)) := by
  rw [y_26x, show (600 : Int32) = zI 600 from z_lit 600, z_leF (by omega) (by omega) (by omega), hg.2.2.1, z_l0, if_pos rfl, hg.2.1.2.2.1, z_eqF (by omega) (by omega) (by omega) (by omega) (by omega), e, z_bdc, y_fin_g h5 ex, z_l1, z_add, z_cs]
theorem x_tl {i : Int} (h0 : TT r = 32) (h1 : TT (r + 1) = 97 + i) (hi : 0 ≤ i ∧ i < 26) (hn : r + 2 < n) (h2 : TT (r + 2) < 97) : z_tok TT n r (r + 1) (r + 2) 1 :=
  x_tkw (TT := TT) (n := n) (r := r) (e := 1) (k := 1) (fun j hj => by rw [show j = 0 by omega]; exact h0) (by omega) (fun j hj => by rw [show j = 0 by omega, Nat.add_zero, h1]; omega) (by omega) h2
theorem x_td {d : Int} (h0 : TT r = 32) (h1 : TT (r + 1) = 48 + d) (hd : 0 ≤ d ∧ d ≤ 9) (hn : r + 2 < n) (h2 : TT (r + 2) < 48 ∨ 57 < TT (r + 2)) : z_tok TT n r (r + 1) (r + 2) 2 :=
  x_tkd (TT := TT) (n := n) (r := r) (e := 1) (fun j hj => by rw [show j = 0 by omega]; exact h0) (by rw [h1]; omega) (by omega) h2
/-! the pieces of a statement -/
theorem x_pst {a : Int} (c : y_Cg 0 TT n W0 s g p q 1 W) (t : z_tok TT n q p' q' kd') (st : y_st TT s p q = a) (h0 : 0 ≤ a) : ∃ W', (∀ K : (Nat → Nat → Int32) → Option (Nat → Nat → Int32), bd2 (f_X3_takeStation W) (fun v W1 => bnd (w2 W1 13 4 v) K) = K W') ∧ y_Cg 0 TT n W0 s g p' q' kd' W' ∧ W' 13 4 = zI a ∧ ∀ k, k ≠ 4 → W' 13 k = W 13 k := by
  subst st
  refine ⟨w2 (y_Ctk W p' q' kd') 13 4 (zI (y_st TT s p q)), fun K => ?_, y_Cg_13 (y_ga c t).2 (by omega), z_w2e, fun k hk => by rw [z_w2k hk, y_Ctk_u (by omega)]⟩
  rw [(y_gst c t).2.2 rfl (by omega), z_bd2, z_bnd]
theorem x_ps2 {jj a b : Int} (c : y_Cg 0 TT n W0 s g p q 1 W) (t : z_tok TT n q p' q' kd') (hk : jj = 3 ∨ jj = 5 ∨ jj = 7) (h2 : W 13 2 = zI jj) (h4 : W 13 4 = zI a) (ha : 0 ≤ a ∧ a < s 1) (st : y_st TT s p q = b) (h0 : 0 ≤ b) (bad : ¬ y_bad jj s a b) : ∃ W', (∀ K : (Nat → Nat → Int32) → Option (Nat → Nat → Int32), bd2 (f_X3_takeSecondStation W) (fun v W1 => bnd (w2 W1 13 5 v) K) = K W') ∧ y_Cg 0 TT n W0 s g p' q' kd' W' ∧ W' 13 5 = zI b ∧ ∀ k, k ≠ 5 → W' 13 k = W 13 k := by
  subst st
  refine ⟨w2 (y_Ctk W p' q' kd') 13 5 (zI (y_st TT s p q)), fun K => ?_, y_Cg_13 (y_ga c t).2 (by omega), z_w2e, fun k hk => by rw [z_w2k hk, y_Ctk_u (by omega)]⟩
  rw [(y_g2 c t hk h2 h4 ha).2.2.2 rfl (by omega) bad, z_bd2, z_bnd]
theorem x_pnm {lo hi v : Int} (c : y_Cg 0 TT n W0 s g p q 2 W) (t : z_tok TT n q p' q' kd') (hl : 0 ≤ lo ∧ lo ≤ 60) (hh : 0 ≤ hi ∧ hi ≤ 60) (cv : y_cv TT p (q - p) = v) (hv : lo ≤ v ∧ v ≤ hi) : ∃ W', (∀ K : (Nat → Nat → Int32) → Option (Nat → Nat → Int32), bd2 (f_X3_takeNumber W (zI lo) (zI hi)) (fun v W1 => bnd (w2 W1 13 6 v) K) = K W') ∧ y_Cg 0 TT n W0 s g p' q' kd' W' ∧ W' 13 6 = zI v ∧ ∀ k, k ≠ 6 → W' 13 k = W 13 k := by
  subst cv
  refine ⟨w2 (y_Ctk W p' q' kd') 13 6 (zI (y_cv TT p (q - p))), fun K => ?_, y_Cg_13 (y_ga c t).2 (by omega), z_w2e, fun k hk => by rw [z_w2k hk, y_Ctk_u (by omega)]⟩
  rw [(y_gn c t hl hh).2.2 rfl hv, z_bd2, z_bnd]
theorem x_pnn {v : Int} (c : y_Cg 0 TT n W0 s g p q 1 W) (t : z_tok TT n q p' q' kd') (hq : q - p ≤ 4) (st : y_st TT s p q = -1) (wn : y_wn TT p q = v) : ∃ W', (∀ K : (Nat → Nat → Int32) → Option (Nat → Nat → Int32), bd2 (f_X3_takeNewName W) (fun v W1 => bnd (w2 W1 13 3 v) K) = K W') ∧ y_Cg 0 TT n W0 s g p' q' kd' W' ∧ W' 13 3 = zI v ∧ ∀ k, k ≠ 3 → W' 13 k = W 13 k := by
  subst wn
  refine ⟨w2 (y_Ctk W p' q' kd') 13 3 (zI (y_wn TT p q)), fun K => ?_, y_Cg_13 (y_ga c t).2 (by omega), z_w2e, fun k hk => by rw [z_w2k hk, y_Ctk_u (by omega)]⟩
  rw [(y_gw c t).2.2.2 rfl hq st, z_bd2, z_bnd]
theorem x_pen (c : y_Cg 0 TT n W0 s g p q 3 W) (t : z_tok TT n q p' q' kd') : ∃ W', y_end W = some W' ∧ y_Cg 0 TT n W0 s g p' q' kd' W' ∧ W' 13 = W 13 ∧ W' 14 = W 14 :=
  ⟨_, (y_ge c t).2 rfl, (y_ga c t).2, y_Ctk_u (by omega), y_Ctk_u (by omega)⟩
end Kws
