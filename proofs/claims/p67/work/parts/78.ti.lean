/-! one statement: what follows the keyword, and what is done -/
section Ph
variable {W W' W0 V V' V0 : Nat → Nat → Int32} {T : Nat → Int} {n r p q p' q' : Nat} {kd kd' : Int} {s s' g g' : Nat → Int} {b b' : Int} {c : Int} {x : Int32}
noncomputable def y_fin (x1 : Int32) (K : (Nat → Nat → Int32) → Option (Nat → Nat → Int32)) (W12 : Nat → Nat → Int32) : Option (Nat → Nat → Int32) := jn (fun (W14 : Nat → Nat → Int32) (v15 : Int32) => l_X3_parse_72 x1 v15 K FU W14 (0 : Int32)) (fun j13 => if (W12 13 0) = 0 then bd2 (f_X3_execute W12) (fun v18 W17 => j13 W17 v18) else j13 W12 (0 : Int32))
theorem y_p72 (x1 : Int32) (K : (Nat → Nat → Int32) → Option (Nat → Nat → Int32)) (W : Nat → Nat → Int32) : l_X3_parse_72 x1 (zI 0) K FU W (zI 0) = K W := by
  unfold FU
  rw [l_X3_parse_72, if_pos (Int32.le_refl _)]
theorem y_fin_e (h : y_Ce b T n W0 s g c x W) (x1 : Int32) (K : (Nat → Nat → Int32) → Option (Nat → Nat → Int32)) : y_fin x1 K W = K W := by
  unfold y_fin
  rw [z_jn, h.2.2.1, z_l0, z_eqF (by have := h.2.2.2.2.1; omega) (by have := h.2.2.2.2.1; omega) (by have := h.2.2.2.2.1; omega) (by omega) (by omega)]
  exact y_p72 x1 K W
theorem y_fin_g (h : y_Cg b T n W0 s g p q kd W) (e : f_X3_execute W = some (zI 0, W')) (x1 : Int32) (K : (Nat → Nat → Int32) → Option (Nat → Nat → Int32)) : y_fin x1 K W = K W' := by
  unfold y_fin
  rw [z_jn, h.2.2.1, z_l0, if_pos rfl, e, z_bd2]
  exact y_p72 x1 K W'
theorem y_Cg_w (h : y_Cg b T n W0 s g p q kd W) (hP : z_PI b' s' g') (h2 : W' 2 = zV s') (hu : ∀ u, u ≠ 2 → W' u = W u) : y_Cg b' T n W0 s' g' p q kd W' := by
  obtain ⟨a1, a2, a3, a4, a6, a7⟩ := h
  refine ⟨⟨fun u x y z w => by rw [hu u x]; exact a1.1 u x y z w, fun k hk => by rw [hu 16 (by omega)]; exact a1.2.1 k hk, a1.2.2.1, a1.2.2.2.1, by rw [hu 15 (by omega)]; exact a1.2.2.2.2⟩, y_Ctk2_u a2 (hu 15 (by omega)), by rw [hu 13 (by omega)]; exact a3, by rw [hu 13 (by omega)]; exact a4, h2, hP⟩
theorem y_Cg_s (h : y_Cg b T n W0 s g p q kd W) (hP : z_PI b' s' g') : y_Cg b' T n W0 s' g' p q kd (setU W 2 (zV s')) := y_Cg_w h hP z_sUe (fun u hu => z_sUu hu)
theorem y_Cg_le (h : y_Cg b T n W0 s g p q kd W) (hb : b ≤ b') : y_Cg b' T n W0 s g p q kd W := ⟨h.1, h.2.1, h.2.2.1, h.2.2.2.1, h.2.2.2.2.1, z_PI_le h.2.2.2.2.2 hb⟩
theorem y_Ce_le (h : y_Ce b T n W0 s g c x W) (hb : b ≤ b') : y_Ce b' T n W0 s g c x W := ⟨h.1, h.2.1, h.2.2.1, h.2.2.2.1, h.2.2.2.2.1, h.2.2.2.2.2.1, z_PI_le h.2.2.2.2.2.2 hb⟩
/-- the end of a statement, in the class -/
theorem y_ge (h : y_Cg b T n W0 s g p q kd W) (t : z_tok T n q p' q' kd') : (kd ≠ 3 → ∃ W', y_end W = some W' ∧ y_Ce b T n W0 s g 1 (zI p) W') ∧ (kd = 3 → y_end W = some (y_Ctk W p' q' kd')) := by
  have hb := y_Cg_b h
  unfold y_end
  rw [h.2.1.2.2.1, show (3 : Int32) = zI 3 from z_lit 3]
  refine ⟨fun e => ?_, fun e => ?_⟩
  · rw [z_eqF e (by omega) (by omega) (by omega) (by omega)]
    obtain ⟨W1, e1, w1, -⟩ := y_gf h (c := 1) (by omega)
    obtain ⟨W2, e2, w2'⟩ := y_Ta W1 w1
    rw [z_l1, e1, z_bdc, e2, z_bdc]
    exact ⟨W2, rfl, w2'⟩
  · rw [z_eqT e, (y_ga h t).1, z_bdc]
/-- a station, in the class -/
theorem y_gst (h : y_Cg b T n W0 s g p q kd W) (t : z_tok T n q p' q' kd') :
    (kd ≠ 1 → ∃ v W', f_X3_takeStation W = some (v, W') ∧ y_Ce b T n W0 s g 1 (zI p) W') ∧
    (kd = 1 → y_st T s p q = -1 → ∃ v W', f_X3_takeStation W = some (v, W') ∧ y_Ce b T n W0 s g 4 (zI p) W') ∧
    (kd = 1 → y_st T s p q ≠ -1 → f_X3_takeStation W = some (zI (y_st T s p q), y_Ctk W p' q' kd')) := by
  obtain ⟨g1, g2, g3⟩ := y_gs h
  unfold f_X3_takeStation
  refine ⟨fun e => ?_, fun e d => ?_, fun e d => ?_⟩
  · obtain ⟨v, W1, e1, w1, -⟩ := g1 e
    obtain ⟨W2, e2, w2'⟩ := y_Ta W1 w1
    rw [e1, z_bd2, e2, z_bdc]
    exact ⟨v, W2, rfl, w2'⟩
  · obtain ⟨v, W1, e1, w1, -⟩ := g2 e d
    obtain ⟨W2, e2, w2'⟩ := y_Ta W1 w1
    rw [e1, z_bd2, e2, z_bdc]
    exact ⟨v, W2, rfl, w2'⟩
  · rw [g3 e d, z_bd2, (y_ga h t).1, z_bdc]
/-! run -/
noncomputable def y_B8 (W3 : Nat → Nat → Int32) : Option (Nat → Nat → Int32) := bd2 (f_X3_takeNumber W3 (0 : Int32) (60 : Int32)) (fun v55 W54 => bnd (w2 W54 13 6 v55) (fun W56 => y_end W56))
theorem y_B8e : y_T (y_Ce b T n W0 s g c x) y_B8 := y_T_2 (y_Tnm _ _) (fun v => y_T_n (fun W w => y_Ce_13 w (by omega)) y_Ten)
end Ph
/-! joint steps -/
section Pi
variable {W W' W0 V V' V0 : Nat → Nat → Int32} {T : Nat → Int} {n r p q p' q' : Nat} {kd kd' : Int} {s s' g g' : Nat → Int} {b b' : Int} {c : Int} {x : Int32}
noncomputable def y_Kn (lo hi : Int32) (W : Nat → Nat → Int32) : Option (Nat → Nat → Int32) := bd2 (f_X3_takeNumber W lo hi) (fun v W1 => bnd (w2 W1 13 6 v) (fun W2 => y_end W2))
theorem y_Kne (lo hi : Int32) : y_T (y_Ce b T n W0 s g c x) (y_Kn lo hi) := y_T_2 (y_Tnm _ _) (fun v => y_T_n (fun W w => y_Ce_13 w (by omega)) y_Ten)
/-! inspections -/
noncomputable def y_B6 (W3 : Nat → Nat → Int32) : Option (Nat → Nat → Int32) := bd2 (f_X3_takeStation W3) (fun v41 W40 => bnd (w2 W40 13 4 v41) (fun W42 => y_Kn (0 : Int32) (9 : Int32) W42))
theorem y_B6e : y_T (y_Ce b T n W0 s g c x) y_B6 := y_T_2 y_Tst (fun v => y_T_n (fun W w => y_Ce_13 w (by omega)) (y_Kne _ _))
end Pi
/-! tracks, parcels, closed tracks -/
section Pj
variable {W W' W0 V V' V0 : Nat → Nat → Int32} {T : Nat → Int} {n r p q p' q' : Nat} {kd kd' : Int} {s s' g g' : Nat → Int} {b b' : Int} {c : Int} {x : Int32}
noncomputable def y_B3 (W3 : Nat → Nat → Int32) : Option (Nat → Nat → Int32) := bd2 (f_X3_takeStation W3) (fun v16 W15 => bnd (w2 W15 13 4 v16) (fun W17 => bd2 (f_X3_takeSecondStation W17) (fun v19 W18 => bnd (w2 W18 13 5 v19) (fun W20 => y_Kn (1 : Int32) (9 : Int32) W20))))
theorem y_B3e : y_T (y_Ce b T n W0 s g c x) y_B3 := y_T_2 y_Tst (fun v => y_T_n (fun W w => y_Ce_13 w (by omega)) (y_T_2 y_Tss (fun v => y_T_n (fun W w => y_Ce_13 w (by omega)) (y_Kne _ _))))
theorem y_G2w {V : Nat → Nat → Int32} {m : Nat} {i j w : Int} (h : ∀ k, k < 251 → V 22 k = zI (g k)) (k : Nat) (hk : k < 251) : w2 (w2 (w2 (w2 (w2 V 22 (39 + 4 * m) (zI i)) 22 (39 + 4 * m + 1) (zI j)) 22 (39 + 4 * m + 2) (zI w)) 22 (39 + 4 * m + 3) (zI 1)) 22 2 (zI ((m : Int) + 1)) 22 k = zI (y_G2 g m i j w k) := by
  unfold y_G2
  by_cases d : k = 2
  · rw [d, z_w2e, z_ue rfl]
  rw [z_w2k d, z_un d]
  by_cases d : k = 39 + 4 * m + 3
  · rw [d, z_w2e, z_ue rfl]
  rw [z_w2k d, z_un d]
  by_cases d : k = 39 + 4 * m + 2
  · rw [d, z_w2e, z_ue rfl]
  rw [z_w2k d, z_un d]
  by_cases d : k = 39 + 4 * m + 1
  · rw [d, z_w2e, z_ue rfl]
  rw [z_w2k d, z_un d]
  by_cases d : k = 39 + 4 * m
  · rw [d, z_w2e, z_ue rfl]
  rw [z_w2k d, z_un d]
  exact h k hk
end Pj
/-! closed tracks, stations -/
section Pl
variable {W W' W0 V V' V0 : Nat → Nat → Int32} {T : Nat → Int} {n r p q p' q' : Nat} {kd kd' : Int} {s s' g g' : Nat → Int} {b b' : Int} {c : Int} {x : Int32}
noncomputable def y_B7 (W3 : Nat → Nat → Int32) : Option (Nat → Nat → Int32) := bd2 (f_X3_takeStation W3) (fun v48 W47 => bnd (w2 W47 13 4 v48) (fun W49 => bd2 (f_X3_takeSecondStation W49) (fun v51 W50 => bnd (w2 W50 13 5 v51) (fun W52 => y_end W52))))
theorem y_B7e : y_T (y_Ce b T n W0 s g c x) y_B7 := y_T_2 y_Tst (fun v => y_T_n (fun W w => y_Ce_13 w (by omega)) (y_T_2 y_Tss (fun v => y_T_n (fun W w => y_Ce_13 w (by omega)) y_Ten)))
end Pl
section Pm
variable {W W' W0 V V' V0 : Nat → Nat → Int32} {T : Nat → Int} {n r p q p' q' : Nat} {kd kd' : Int} {s s' g g' : Nat → Int} {b b' : Int} {c : Int} {x : Int32}
noncomputable def y_B1 (W3 : Nat → Nat → Int32) : Option (Nat → Nat → Int32) := bd2 (f_X3_takeNewName W3) (fun v8 W7 => bnd (w2 W7 13 3 v8) (fun W9 => y_end W9))
theorem y_B1e : y_T (y_Ce b T n W0 s g c x) y_B1 := y_T_2 y_Tnn (fun v => y_T_n (fun W w => y_Ce_13 w (by omega)) y_Ten)
theorem y_G1w {V : Nat → Nat → Int32} {m : Nat} {i j : Int} (h : ∀ k, k < 251 → V 22 k = zI (g k)) (k : Nat) (hk : k < 251) : w2 (w2 (w2 V 22 (7 + 4 * m) (zI i)) 22 (7 + 4 * m + 1) (zI j)) 22 1 (zI ((m : Int) + 1)) 22 k = zI (y_G1 g m i j k) := by
  unfold y_G1
  by_cases d : k = 1
  · rw [d, z_w2e, z_ue rfl]
  rw [z_w2k d, z_un d]
  by_cases d : k = 7 + 4 * m + 1
  · rw [d, z_w2e, z_ue rfl]
  rw [z_w2k d, z_un d]
  by_cases d : k = 7 + 4 * m
  · rw [d, z_w2e, z_ue rfl]
  rw [z_w2k d, z_un d]
  exact h k hk
end Pm
/-! trains -/
section Pn
variable {W W' W0 V V' V0 : Nat → Nat → Int32} {T : Nat → Int} {n r p q p' q' : Nat} {kd kd' : Int} {s s' g g' : Nat → Int} {b b' : Int} {c : Int} {x : Int32}
noncomputable def y_c4 (N : Nat) (x1 v8 : Int32) (W10 : Nat → Nat → Int32) : Option (Nat → Nat → Int32) := if (6 : Int32) ≤ x1 then bdc (f_X3_fail W10 (6 : Int32)) (fun W16 => bdc (f_X6_advance W16) (fun W17 => l_X3_takeRoute_7 N W17 (x1 + (1 : Int32)))) else gd (inr x1 6) (bnd (w2 W10 14 (ix x1) v8) (fun W18 => bnd (w2 W18 13 7 (x1 + (1 : Int32))) (fun W19 => bdc (f_X6_advance W19) (fun W20 => l_X3_takeRoute_7 N W20 (x1 + (1 : Int32))))))
noncomputable def y_c4b (N : Nat) (x1 v8 : Int32) (W7 : Nat → Nat → Int32) : Option (Nat → Nat → Int32) := jn (fun (W10 : Nat → Nat → Int32) => y_c4 N x1 v8 W10) (fun j9 => if x1 ≤ 0 then j9 W7 else gd (inr (x1 - (1 : Int32)) 6) (bdc (f_X4_findTrack (W7 2) (W7 14 (ix (x1 - (1 : Int32)))) v8) (fun v12 => if v12 = (-1 : Int32) then bdc (f_X3_fail W7 (5 : Int32)) (fun W14 => j9 W14) else j9 W7)))
theorem y_c4x (N : Nat) (x1 : Int32) : l_X3_takeRoute_7 (N + 1) W x1 = if (6 : Int32) < x1 then some W else if (W 13 0) = 0 then jn (bd2 (f_X3_findNamedStation W) (fun v8 W7 => y_c4b N x1 v8 W7)) (fun j4 => if x1 < (2 : Int32) then j4 else if (W 15 1) = (3 : Int32) then some W else j4) else some W := rfl
/-- the route's loop stops at a fault -/
theorem y_c4s (h : y_Ce b T n W0 s g c x W) (N : Nat) (x1 : Int32) : l_X3_takeRoute_7 (N + 1) W x1 = some W := by
  rw [y_c4x]
  split
  · rfl
  · rw [h.2.2.1, z_l0, z_eqF (by have := h.2.2.2.2.1; omega) (by have := h.2.2.2.2.1; omega) (by have := h.2.2.2.2.1; omega) (by omega) (by omega)]
theorem y_Ce_14 (h : y_Ce b T n W0 s g c x W) {k : Nat} {v : Int32} : y_Ce b T n W0 s g c x (w2 W 14 k v) := by
  obtain ⟨a1, ⟨p, q, kd, a2⟩, a3, a4, a5, a6, a7⟩ := h
  exact ⟨y_Cf_14 a1, ⟨p, q, kd, y_Ctk2_u a2 (z_w2u (by omega))⟩, by rw [z_w2u (by omega)]; exact a3, by rw [z_w2u (by omega)]; exact a4, a5, by rw [z_w2u (by omega)]; exact a6, a7⟩
theorem y_c4e (h : y_Ce b T n W0 s g c x W) {m : Nat} (hm : m < 7) (N : Nat) (v : Int32) : ∃ W', y_c4 (N + 1) (zI m) v W = some W' ∧ y_Ce b T n W0 s g c x W' := by
  unfold y_c4
  rw [show (6 : Int32) = zI 6 from z_lit 6]
  by_cases e : 6 ≤ m
  · obtain ⟨W1, e1, w1⟩ := y_Ta W h
    refine ⟨W1, ?_, w1⟩
    rw [z_leT (by omega) (by omega) (by omega), y_Tf _ W h, z_bdc, e1, z_bdc, y_c4s w1]
  · have w0 := y_Ce_13 (y_Ce_14 h (k := m) (v := v)) (k := 7) (by omega) (v := zI m + 1)
    obtain ⟨W1, e1, w1⟩ := y_Ta _ w0
    refine ⟨W1, ?_, w1⟩
    rw [z_leF (by omega) (by omega) (by omega), z_inr (by omega) (by omega) (by omega), z_gd, z_ixn (by omega), z_bnd, z_bnd, e1, z_bdc, y_c4s w1]
theorem y_c4be (h : y_Ce b T n W0 s g c x W) {m : Nat} (hm : m < 7) (N : Nat) (v : Int32) : ∃ W', y_c4b (N + 1) (zI m) v W = some W' ∧ y_Ce b T n W0 s g c x W' := by
  unfold y_c4b
  rw [z_jn, z_l0]
  by_cases e : m = 0
  · rw [z_leT (by omega) (by omega) (by omega)]
    exact y_c4e h hm N v
  · obtain ⟨y, hy⟩ := y_Tft W h (W 14 (ix (zI m - 1))) v
    rw [z_leF (by omega) (by omega) (by omega), hy, z_bdc, z_l1, z_sub, z_inr (by omega) (by omega) (by omega), z_gd]
    split
    · rw [y_Tf _ W h, z_bdc]
      exact y_c4e h hm N v
    · exact y_c4e h hm N v
/-- one more stop of the route, both sides -/
def y_rt4 (s g : Nat → Int) (m : Nat) (x : Nat) (ro : Nat → Int) (W : Nat → Nat → Int32) : Prop := (∀ j, j < x → W 14 j = zI (ro j)) ∧ (∀ j, j < x → 0 ≤ ro j ∧ ro j < s 1) ∧ (∀ j, j + 1 < x → z_tk s (ro j) (ro (j + 1)) ≠ none) ∧ (∀ j, j < x → g (87 + 14 * m + 2 + j) = ro j) ∧ W 13 7 = zI x
theorem y_PIr (h : z_PI b s g) (z : y_z s g) {m x : Nat} {v : Int} (hm : s 3 = m) (h4 : m < 4) (hx : x < 6) : z_PI b s (zu g (87 + 14 * m + 2 + x) v) ∧ y_z s (zu g (87 + 14 * m + 2 + x) v) := by
  have k0 := z_PI_0 h
  have k3 := z_PI_3 h
  obtain ⟨c0, c1, c2, c3, c4⟩ := id k0.1
  refine ⟨z_PI_mk ⟨k0.1, fun k hk => by rw [z_un (by omega)]; exact k0.2 k hk⟩ (z_k1_c k0 rfl rfl (fun _ _ _ => rfl) (fun k _ _ => z_un (by omega)) (z_PI_1 h)) (z_k2_c k0 (Int.le_refl _) rfl (fun _ _ _ => rfl) (fun k _ _ => z_un (by omega)) (z_PI_2 h)) ⟨k3.1, fun t ht => ⟨(k3.2 t ht).1, z_rtn_g (fun _ _ _ => rfl) (fun _ _ => rfl) c2.1 (fun _ _ => rfl) (fun k hk => z_un (by omega)) (k3.2 t ht).1 (k3.2 t ht).2⟩⟩ (z_k4_c k0 rfl (Int.le_refl _) (Int.le_refl _) rfl (fun _ _ _ => rfl) (fun k _ _ => z_un (by omega)) (z_PI_4 h)) (z_PI_5 h) (fun j hj => by rw [z_un (by omega)]; exact z_PI_6 h j hj), fun j hj h8 => by rw [z_un (by omega)]; exact z.1 j hj h8, fun t ht h4 => ?_⟩
  rw [z_un (by omega), z_un (by omega), z_un (by omega), z_un (by omega)]
  exact z.2 t ht h4
end Pn
section Po
variable {W W' W0 V V' V0 : Nat → Nat → Int32} {T : Nat → Int} {n r p q p' q' : Nat} {kd kd' : Int} {s s' g g' : Nat → Int} {b b' : Int} {c : Int} {x : Int32}
noncomputable def y_B4 (W3 : Nat → Nat → Int32) : Option (Nat → Nat → Int32) := bd2 (f_X3_takeNumber W3 (1 : Int32) (4 : Int32)) (fun v26 W25 => bnd (w2 W25 13 6 v26) (fun W27 => bdc (f_X3_takeRoute W27) (fun W28 => y_end W28)))
theorem y_B4e : y_T (y_Ce b T n W0 s g c x) y_B4 := y_T_2 (y_Tnm _ _) (fun v => y_T_n (fun W w => y_Ce_13 w (by omega)) (y_T_b y_Trt y_Ten))
noncomputable def y_r4f (v10 v12 x38 : Int32) (W39 : Nat → Nat → Int32) : Option (Nat → Nat → Int32) := if (W39 30 9) = 0 then gd (inr (v10 + (0 : Int32)) 251) (bnd (w2 W39 22 (ix (v10 + (0 : Int32))) v12) (fun W41 => gd (inr (v10 + (1 : Int32)) 251) (bnd (w2 W41 22 (ix (v10 + (1 : Int32))) x38) (fun W42 => gd (inr (v10 + (9 : Int32)) 251) (bnd (w2 W42 22 (ix (v10 + (9 : Int32))) (1 : Int32)) (fun W43 => gd (inr (v10 + (10 : Int32)) 251) (bnd (w2 W43 22 (ix (v10 + (10 : Int32))) (-1 : Int32)) (fun W44 => gd (inr (3 : Int32) 251) (gd (inr (3 : Int32) 251) (bnd (w2 W44 22 (ix (3 : Int32)) ((W44 22 (ix (3 : Int32))) + (1 : Int32))) (fun W45 => some W45))))))))))) else some W39
theorem y_G3w {V : Nat → Nat → Int32} {m : Nat} {i j : Int} (h : ∀ k, k < 251 → V 22 k = zI (g k)) (k : Nat) (hk : k < 251) : w2 (w2 (w2 (w2 (w2 V 22 (87 + 14 * m) (zI i)) 22 (87 + 14 * m + 1) (zI j)) 22 (87 + 14 * m + 9) (zI 1)) 22 (87 + 14 * m + 10) (zI (-1))) 22 3 (zI ((m : Int) + 1)) 22 k = zI (y_G3 g m i j k) := by
  unfold y_G3
  by_cases d : k = 3
  · rw [d, z_w2e, z_ue rfl]
  rw [z_w2k d, z_un d]
  by_cases d : k = 87 + 14 * m + 10
  · rw [d, z_w2e, z_ue rfl]
  rw [z_w2k d, z_un d]
  by_cases d : k = 87 + 14 * m + 9
  · rw [d, z_w2e, z_ue rfl]
  rw [z_w2k d, z_un d]
  by_cases d : k = 87 + 14 * m + 1
  · rw [d, z_w2e, z_ue rfl]
  rw [z_w2k d, z_un d]
  by_cases d : k = 87 + 14 * m
  · rw [d, z_w2e, z_ue rfl]
  rw [z_w2k d, z_un d]
  exact h k hk
end Po
/-! one statement -/
section Pp
variable {W W' W0 V V' V0 : Nat → Nat → Int32} {T : Nat → Int} {n r p q p' q' : Nat} {kd kd' : Int} {s s' g g' : Nat → Int} {b b' : Int} {c : Int} {x : Int32}
noncomputable def y_body (W3 : Nat → Nat → Int32) : Option (Nat → Nat → Int32) := jn (fun (W5 : Nat → Nat → Int32) => if (W5 15 1) = (3 : Int32) then bdc (f_X6_advance W5) (fun W58 => some W58) else bdc (f_X3_fail W5 (1 : Int32)) (fun W59 => bdc (f_X6_advance W59) (fun W60 => some W60))) (fun j4 => if (W3 13 2) = (1 : Int32) then bd2 (f_X3_takeNewName W3) (fun v8 W7 => bnd (w2 W7 13 3 v8) (fun W9 => j4 W9)) else if (W3 13 2) = (2 : Int32) then bd2 (f_X3_takeNewName W3) (fun v12 W11 => bnd (w2 W11 13 3 v12) (fun W13 => j4 W13)) else if (W3 13 2) = (3 : Int32) then bd2 (f_X3_takeStation W3) (fun v16 W15 => bnd (w2 W15 13 4 v16) (fun W17 => bd2 (f_X3_takeSecondStation W17) (fun v19 W18 => bnd (w2 W18 13 5 v19) (fun W20 => bd2 (f_X3_takeNumber W20 (1 : Int32) (9 : Int32)) (fun v22 W21 => bnd (w2 W21 13 6 v22) (fun W23 => j4 W23)))))) else if (W3 13 2) = (4 : Int32) then bd2 (f_X3_takeNumber W3 (1 : Int32) (4 : Int32)) (fun v26 W25 => bnd (w2 W25 13 6 v26) (fun W27 => bdc (f_X3_takeRoute W27) (fun W28 => j4 W28))) else if (W3 13 2) = (5 : Int32) then bd2 (f_X3_takeStation W3) (fun v31 W30 => bnd (w2 W30 13 4 v31) (fun W32 => bd2 (f_X3_takeSecondStation W32) (fun v34 W33 => bnd (w2 W33 13 5 v34) (fun W35 => bd2 (f_X3_takeNumber W35 (1 : Int32) (9 : Int32)) (fun v37 W36 => bnd (w2 W36 13 6 v37) (fun W38 => j4 W38)))))) else if (W3 13 2) = (6 : Int32) then bd2 (f_X3_takeStation W3) (fun v41 W40 => bnd (w2 W40 13 4 v41) (fun W42 => bd2 (f_X3_takeNumber W42 (0 : Int32) (9 : Int32)) (fun v44 W43 => bnd (w2 W43 13 6 v44) (fun W45 => j4 W45)))) else if (W3 13 2) = (7 : Int32) then bd2 (f_X3_takeStation W3) (fun v48 W47 => bnd (w2 W47 13 4 v48) (fun W49 => bd2 (f_X3_takeSecondStation W49) (fun v51 W50 => bnd (w2 W50 13 5 v51) (fun W52 => j4 W52)))) else if (W3 13 2) = (8 : Int32) then bd2 (f_X3_takeNumber W3 (0 : Int32) (60 : Int32)) (fun v55 W54 => bnd (w2 W54 13 6 v55) (fun W56 => j4 W56)) else gd (tso (W3 13 2) 1 8) (j4 W3))
theorem y_bdx : f_X3_readStatement W = bd2 (f_X3_takeKeyword W) (fun v2 W1 => bnd (w2 W1 13 2 v2) (fun W3 => y_body W3)) := rfl
theorem y_bd1 (h : W 13 2 = zI 1 ∨ W 13 2 = zI 2) : y_body W = y_B1 W := by
  unfold y_body
  rw [z_jn]
  rcases h with h | h
  · rw [h]
    simp (disch := omega) only [z_lit, z_n, z_add, z_sub, z_mul, z_neg, z_lt1, z_lt0, z_le1, z_le0, z_eq1, z_eq0, z_10, ↓reduceIte, z_v, z_upd, z_ue, z_un, z_ixn, z_ixo, z_ix0, z_ix1, z_ix2, z_ix3, z_ix4, z_ix5, z_ix6, Int.reduceToNat, z_inr, z_gd, ↓z_bnd, ↓z_jn, z_bdc, z_bd2, z_opn, z_ops, z_z01, z_Bt, z_Bf]
    rfl
  · rw [h]
    simp (disch := omega) only [z_lit, z_n, z_add, z_sub, z_mul, z_neg, z_lt1, z_lt0, z_le1, z_le0, z_eq1, z_eq0, z_10, ↓reduceIte, z_v, z_upd, z_ue, z_un, z_ixn, z_ixo, z_ix0, z_ix1, z_ix2, z_ix3, z_ix4, z_ix5, z_ix6, Int.reduceToNat, z_inr, z_gd, ↓z_bnd, ↓z_jn, z_bdc, z_bd2, z_opn, z_ops, z_z01, z_Bt, z_Bf]
    rfl
theorem y_bd3 (h : W 13 2 = zI 3 ∨ W 13 2 = zI 5) : y_body W = y_B3 W := by
  unfold y_body
  rw [z_jn]
  rcases h with h | h
  · rw [h]
    simp (disch := omega) only [z_lit, z_n, z_add, z_sub, z_mul, z_neg, z_lt1, z_lt0, z_le1, z_le0, z_eq1, z_eq0, z_10, ↓reduceIte, z_v, z_upd, z_ue, z_un, z_ixn, z_ixo, z_ix0, z_ix1, z_ix2, z_ix3, z_ix4, z_ix5, z_ix6, Int.reduceToNat, z_inr, z_gd, ↓z_bnd, ↓z_jn, z_bdc, z_bd2, z_opn, z_ops, z_z01, z_Bt, z_Bf]
    rfl
  · rw [h]
    simp (disch := omega) only [z_lit, z_n, z_add, z_sub, z_mul, z_neg, z_lt1, z_lt0, z_le1, z_le0, z_eq1, z_eq0, z_10, ↓reduceIte, z_v, z_upd, z_ue, z_un, z_ixn, z_ixo, z_ix0, z_ix1, z_ix2, z_ix3, z_ix4, z_ix5, z_ix6, Int.reduceToNat, z_inr, z_gd, ↓z_bnd, ↓z_jn, z_bdc, z_bd2, z_opn, z_ops, z_z01, z_Bt, z_Bf]
    rfl
theorem y_bd4 (h : W 13 2 = zI 4) : y_body W = y_B4 W := by
  unfold y_body
  rw [z_jn, h]
  simp (disch := omega) only [z_lit, z_n, z_add, z_sub, z_mul, z_neg, z_lt1, z_lt0, z_le1, z_le0, z_eq1, z_eq0, z_10, ↓reduceIte, z_v, z_upd, z_ue, z_un, z_ixn, z_ixo, z_ix0, z_ix1, z_ix2, z_ix3, z_ix4, z_ix5, z_ix6, Int.reduceToNat, z_inr, z_gd, ↓z_bnd, ↓z_jn, z_bdc, z_bd2, z_opn, z_ops, z_z01, z_Bt, z_Bf]
  rfl
theorem y_bd6 (h : W 13 2 = zI 6) : y_body W = y_B6 W := by
  unfold y_body
  rw [z_jn, h]
  simp (disch := omega) only [z_lit, z_n, z_add, z_sub, z_mul, z_neg, z_lt1, z_lt0, z_le1, z_le0, z_eq1, z_eq0, z_10, ↓reduceIte, z_v, z_upd, z_ue, z_un, z_ixn, z_ixo, z_ix0, z_ix1, z_ix2, z_ix3, z_ix4, z_ix5, z_ix6, Int.reduceToNat, z_inr, z_gd, ↓z_bnd, ↓z_jn, z_bdc, z_bd2, z_opn, z_ops, z_z01, z_Bt, z_Bf]
  rfl
theorem y_bd7 (h : W 13 2 = zI 7) : y_body W = y_B7 W := by
  unfold y_body
  rw [z_jn, h]
  simp (disch := omega) only [z_lit, z_n, z_add, z_sub, z_mul, z_neg, z_lt1, z_lt0, z_le1, z_le0, z_eq1, z_eq0, z_10, ↓reduceIte, z_v, z_upd, z_ue, z_un, z_ixn, z_ixo, z_ix0, z_ix1, z_ix2, z_ix3, z_ix4, z_ix5, z_ix6, Int.reduceToNat, z_inr, z_gd, ↓z_bnd, ↓z_jn, z_bdc, z_bd2, z_opn, z_ops, z_z01, z_Bt, z_Bf]
  rfl
theorem y_bd8 (h : W 13 2 = zI 8) : y_body W = y_B8 W := by
  unfold y_body
  rw [z_jn, h]
  simp (disch := omega) only [z_lit, z_n, z_add, z_sub, z_mul, z_neg, z_lt1, z_lt0, z_le1, z_le0, z_eq1, z_eq0, z_10, ↓reduceIte, z_v, z_upd, z_ue, z_un, z_ixn, z_ixo, z_ix0, z_ix1, z_ix2, z_ix3, z_ix4, z_ix5, z_ix6, Int.reduceToNat, z_inr, z_gd, ↓z_bnd, ↓z_jn, z_bdc, z_bd2, z_opn, z_ops, z_z01, z_Bt, z_Bf]
  rfl
theorem y_bd0 (h : W 13 2 = zI (-1)) : y_body W = y_end W := by
  unfold y_body
  rw [z_jn, h]
  simp (disch := omega) only [z_lit, z_n, z_add, z_sub, z_mul, z_neg, z_lt1, z_lt0, z_le1, z_le0, z_eq1, z_eq0, z_10, ↓reduceIte, z_v, z_upd, z_ue, z_un, z_ixn, z_ixo, z_ix0, z_ix1, z_ix2, z_ix3, z_ix4, z_ix5, z_ix6, Int.reduceToNat, z_inr, z_gd, ↓z_bnd, ↓z_jn, z_bdc, z_bd2, z_opn, z_ops, z_z01, z_Bt, z_Bf]
  rw [show tso (zI (-1)) 1 8 = true by decide, z_gd]
  rfl
/-- no room for one more -/
def y_full (k : Int) (s : Nat → Int) : Prop := ((k = 1 ∨ k = 2) ∧ 8 ≤ s 1) ∨ (k = 3 ∧ 12 ≤ s 2) ∨ (k = 4 ∧ 4 ≤ s 3) ∨ (k = 5 ∧ 12 ≤ s 4)
theorem y_isf (h : y_Cg b T n W0 s g p q kd W) {k : Int} (hk : 1 ≤ k ∧ k ≤ 8) : (y_full k s → f_X3_isFull W (zI k) = some (zI 1)) ∧ (¬ y_full k s → f_X3_isFull W (zI k) = some (zI 0)) := by
  obtain ⟨c0, c1, c2, c3, c4⟩ := h.2.2.2.2.2.1.1
  unfold f_X3_isFull y_full
  rw [h.2.2.2.2.1]
  have kk : k = 1 ∨ k = 2 ∨ k = 3 ∨ k = 4 ∨ k = 5 ∨ k = 6 ∨ k = 7 ∨ k = 8 := by omega
  rcases kk with e | e | e | e | e | e | e | e
  all_goals
    subst e
    constructor
    · intro f
      simp (disch := omega) only [z_lit, z_n, z_add, z_sub, z_mul, z_neg, z_lt1, z_lt0, z_le1, z_le0, z_eq1, z_eq0, z_10, ↓reduceIte, z_v, z_upd, z_ue, z_un, z_ixn, z_ixo, z_ix0, z_ix1, z_ix2, z_ix3, z_ix4, z_ix5, z_ix6, Int.reduceToNat, z_inr, z_gd, ↓z_bnd, ↓z_jn, z_bdc, z_bd2, z_opn, z_ops, z_z01, z_Bt, z_Bf]
      try (exfalso; omega)
    · intro f
      simp (disch := omega) only [z_lit, z_n, z_add, z_sub, z_mul, z_neg, z_lt1, z_lt0, z_le1, z_le0, z_eq1, z_eq0, z_10, ↓reduceIte, z_v, z_upd, z_ue, z_un, z_ixn, z_ixo, z_ix0, z_ix1, z_ix2, z_ix3, z_ix4, z_ix5, z_ix6, Int.reduceToNat, z_inr, z_gd, ↓z_bnd, ↓z_jn, z_bdc, z_bd2, z_opn, z_ops, z_z01, z_Bt, z_Bf]
      try rfl
theorem y_kc (h : y_Cg b T n W0 s g p q kd W) {k : Int} (hk : 1 ≤ k ∧ k ≤ 8) (ek : y_kn T p q = k) (t : z_tok T n q p' q' kd') : (¬ y_full k s → f_X3_readStatement W = y_body (w2 (y_Ctk W p' q' kd') 13 2 (zI k))) ∧ (y_full k s → ∃ W3, f_X3_readStatement W = y_body W3 ∧ y_Ce b T n W0 s g 6 (zI p) W3 ∧ W3 13 2 = zI k) := by
  obtain ⟨i1, i2⟩ := y_isf h hk
  rw [y_bdx]
  unfold f_X3_takeKeyword
  rw [y_Ckn h, ek, z_bdc, show (-1 : Int32) = zI (-1) from rfl, z_eqF (by omega) (by omega) (by omega) (by omega) (by omega)]
  refine ⟨fun f => ?_, fun f => ?_⟩
  · rw [i2 f, z_bdc, z_l0, if_pos rfl, (y_ga h t).1, z_bdc, z_bd2, z_bnd]
  · obtain ⟨W1, e1, w1, -⟩ := y_gf h (c := 6) (by omega)
    obtain ⟨W2, e2, w2'⟩ := y_Ta W1 w1
    rw [i1 f, z_bdc, z_l0, z_eqF (by omega) (by omega) (by omega) (by omega) (by omega), show (6 : Int32) = zI 6 from z_lit 6, e1, z_bdc, e2, z_bdc, z_bd2, z_bnd]
    exact ⟨_, rfl, y_Ce_13 w2' (by omega), z_w2e⟩
theorem y_kc0 (h : y_Cg b T n W0 s g p q kd W) (ek : y_kn T p q = -1) : ∃ W3, f_X3_readStatement W = y_body W3 ∧ y_Ce b T n W0 s g 1 (zI p) W3 ∧ W3 13 2 = zI (-1) := by
  rw [y_bdx]
  unfold f_X3_takeKeyword
  obtain ⟨W1, e1, w1, -⟩ := y_gf h (c := 1) (by omega)
  obtain ⟨W2, e2, w2'⟩ := y_Ta W1 w1
  rw [y_Ckn h, ek, z_bdc, show (-1 : Int32) = zI (-1) from rfl, if_pos rfl, z_l1, e1, z_bdc, e2, z_bdc, z_bd2, z_bnd]
  exact ⟨_, rfl, y_Ce_13 w2' (by omega), z_w2e⟩
end Pp
/-! the whole text -/
section Pq
variable {W W' W0 V V' V0 : Nat → Nat → Int32} {T : Nat → Int} {n r p q p' q' : Nat} {kd kd' : Int} {s s' g g' : Nat → Int} {b b' : Int} {c : Int} {x : Int32}
theorem y_26x (N : Nat) (x1 : Int32) : l_X3_parse_26 (N + 1) W x1 = if (600 : Int32) ≤ x1 then bnd (w2 W 15 0 (0 : Int32)) (fun W7 => some W7) else if (W 13 0) = 0 then if (W 15 1) = 0 then bnd (w2 W 15 0 (0 : Int32)) (fun W11 => some W11) else bdc (f_X3_readStatement W) (fun W12 => y_fin x1 (fun x22 => l_X3_parse_26 N x22 (x1 + (1 : Int32))) W12) else bnd (w2 W 15 0 (0 : Int32)) (fun W9 => some W9) := rfl
theorem y_26e (h : y_Ce b T n W0 s g c x W) (N : Nat) (x1 : Int32) : l_X3_parse_26 (N + 1) W x1 = some (w2 W 15 0 (zI 0)) := by
  rw [y_26x, h.2.2.1, z_l0, z_eqF (by have := h.2.2.2.2.1; omega) (by have := h.2.2.2.2.1; omega) (by have := h.2.2.2.2.1; omega) (by omega) (by omega), z_bnd]
  split <;> rfl
end Pq
