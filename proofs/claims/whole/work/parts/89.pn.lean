/-! trains -/
section Pn
variable {W W' W0 V V' V0 : Nat → Nat → Int32} {T : Nat → Int} {n r p q p' q' : Nat} {kd kd' : Int} {s s' g g' : Nat → Int} {b b' : Int} {c : Int} {x : Int32}
noncomputable def y_c4 (N : Nat) (x1 v8 : Int32) (W10 : Nat → Nat → Int32) : Option (Nat → Nat → Int32) := if (6 : Int32) ≤ x1 then bdc (f_X3_fail W10 (6 : Int32)) (fun W16 => bdc (f_X6_advance W16) (fun W17 => l_X3_takeRoute_7 N W17 (x1 + (1 : Int32)))) else gd (inr x1 6) (bnd (w2 W10 14 (ix x1) v8) (fun W18 => bnd (w2 W18 13 7 (x1 + (1 : Int32))) (fun W19 => bdc (f_X6_advance W19) (fun W20 => l_X3_takeRoute_7 N W20 (x1 + (1 : Int32))))))
noncomputable def y_c4b (N : Nat) (x1 v8 : Int32) (W7 : Nat → Nat → Int32) : Option (Nat → Nat → Int32) := jn (fun (W10 : Nat → Nat → Int32) => y_c4 N x1 v8 W10) (fun j9 => if x1 ≤ 0 then j9 W7 else gd (inr (x1 - (1 : Int32)) 6) (bdc (f_X4_findTrack (W7 2) (W7 14 (ix (x1 - (1 : Int32)))) v8) (fun v12 => if v12 = (-1 : Int32) then bdc (f_X3_fail W7 (5 : Int32)) (fun W14 => j9 W14) else j9 W7)))
theorem y_c4x (N : Nat) (x1 : Int32) : l_X3_takeRoute_7 (N + 1) W x1 = if (6 : Int32) < x1 then some W else if (W 13 0) = 0 then jn (bd2 (f_X3_findNamedStation W) (fun v8 W7 => y_c4b N x1 v8 W7)) (fun j4 => if x1 < (2 : Int32) then j4 else if (W 15 1) = (3 : Int32) then some W else j4) else some W := rfl
/-- the route's loop stops at a fault -/
theorem y_c4s (h : y_Ce b T n W0 s g c x W) (N : Nat) (x1 : Int32) : l_X3_takeRoute_7 (N + 1) W x1 = some W := by
  rw [y_c4x]
  split
  · rfl
  · rw [h.2.2.1, z_l0, z_eqF (by have := h.2.2.2.2.1; omega) (by have := h.2.2.2.2.1; omega) (by have := h.2.2.2.2.1; omega) (by omega) (by omega)]
theorem y_Ce_14 (h : y_Ce b T n W0 s g c x W) {k : Nat} {v : Int32} : y_Ce b T n W0 s g c x (w2 W 14 k v) := by
  obtain ⟨a1, ⟨p, q, kd, a2⟩, a3, a4, a5, a6, a7⟩ := h
  exact ⟨y_Cf_14 a1, ⟨p, q, kd, y_Ctk2_u a2 (z_w2u (by omega))⟩, by rw [z_w2u (by omega)]; exact a3, by rw [z_w2u (by omega)]; exact a4, a5, by rw [z_w2u (by omega)]; exact a6, a7⟩
theorem y_c4e (h : y_Ce b T n W0 s g c x W) {m : Nat} (hm : m < 7) (N : Nat) (v : Int32) : ∃ W', y_c4 (N + 1) (zI m) v W = some W' ∧ y_Ce b T n W0 s g c x W' := by
  unfold y_c4
  rw [show (6 : Int32) = zI 6 from z_lit 6]
  by_cases e : 6 ≤ m
  · obtain ⟨W1, e1, w1⟩ := y_Ta W h
    refine ⟨W1, ?_, w1⟩
    rw [z_leT (by omega) (by omega) (by omega), y_Tf _ W h, z_bdc, e1, z_bdc, y_c4s w1]
  · have w0 := y_Ce_13 (y_Ce_14 h (k := m) (v := v)) (k := 7) (by omega) (v := zI m + 1)
    obtain ⟨W1, e1, w1⟩ := y_Ta _ w0
    refine ⟨W1, ?_, w1⟩
    rw [z_leF (by omega) (by omega) (by omega), z_inr (by omega) (by omega) (by omega), z_gd, z_ixn (by omega), z_bnd, z_bnd, e1, z_bdc, y_c4s w1]
theorem y_c4be (h : y_Ce b T n W0 s g c x W) {m : Nat} (hm : m < 7) (N : Nat) (v : Int32) : ∃ W', y_c4b (N + 1) (zI m) v W = some W' ∧ y_Ce b T n W0 s g c x W' := by
  unfold y_c4b
  rw [z_jn, z_l0]
  by_cases e : m = 0
  · rw [z_leT (by omega) (by omega) (by omega)]
    exact y_c4e h hm N v
  · obtain ⟨y, hy⟩ := y_Tft W h (W 14 (ix (zI m - 1))) v
    rw [z_leF (by omega) (by omega) (by omega), hy, z_bdc, z_l1, z_sub, z_inr (by omega) (by omega) (by omega), z_gd]
    split
    · rw [y_Tf _ W h, z_bdc]
      exact y_c4e h hm N v
    · exact y_c4e h hm N v
noncomputable def y_r4n (c1 c2 : Int32) (K : (Nat → Nat → Int32) → Int32 → Option (Nat → Nat → Int32)) (N : Nat) (x3 v18 v28 : Int32) (W25 : Nat → Nat → Int32) : Option (Nat → Nat → Int32) := bd2 (f_X10_check W25 v28 (6 : Int32)) (fun v32 W31 => if (W31 30 9) = 0 then gd (inr ((c1 + (2 : Int32)) + x3) 251) (bnd (w2 W31 22 (ix ((c1 + (2 : Int32)) + x3)) v18) (fun W35 => bdc (f_X10_next W35) (fun W36 => l_X10_readTrain_59 c1 c2 K N W36 (x3 + (1 : Int32))))) else bdc (f_X10_next W31) (fun W34 => l_X10_readTrain_59 c1 c2 K N W34 x3))
noncomputable def y_r4m (c1 c2 : Int32) (K : (Nat → Nat → Int32) → Int32 → Option (Nat → Nat → Int32)) (N : Nat) (x3 v18 v20 : Int32) (W17 : Nat → Nat → Int32) : Option (Nat → Nat → Int32) := bd2 (f_X10_check W17 v20 (5 : Int32)) (fun v26 W25 => jn (fun (v28 : Int32) => y_r4n c1 c2 K N x3 v18 v28 W25) (fun j27 => if (W25 30 9) = 0 then if (6 : Int32) ≤ x3 then j27 (0 : Int32) else j27 (1 : Int32) else j27 (1 : Int32)))
noncomputable def y_r4l (c1 c2 : Int32) (K : (Nat → Nat → Int32) → Int32 → Option (Nat → Nat → Int32)) (N : Nat) (x3 v18 : Int32) (W17 : Nat → Nat → Int32) : Option (Nat → Nat → Int32) := jn (fun (v20 : Int32) => y_r4m c1 c2 K N x3 v18 v20 W17) (fun j19 => if (W17 30 9) = 0 then if x3 = 0 then j19 (1 : Int32) else gd (inr (((c1 + (2 : Int32)) + x3) - (1 : Int32)) 251) (bdc (f_X10_between (pk (W17 22) (W17 27)) (W17 22 (ix (((c1 + (2 : Int32)) + x3) - (1 : Int32)))) v18) (fun v23 => if v23 = (-1 : Int32) then j19 (0 : Int32) else j19 (1 : Int32))) else j19 (1 : Int32))
theorem y_r4x (c1 c2 : Int32) (K : (Nat → Nat → Int32) → Int32 → Option (Nat → Nat → Int32)) (N : Nat) (x3 : Int32) : l_X10_readTrain_59 c1 c2 K (N + 1) V x3 = if (V 30 9) = 0 then jn (bd2 (f_X10_look V) (fun v18 W17 => y_r4l c1 c2 K N x3 v18 W17)) (fun j14 => if x3 < (2 : Int32) then j14 else if (V 30 6) = (3 : Int32) then j14 else K V x3) else K V x3 := rfl
theorem y_r4ne (h : y_Re T n V0 c x V) (c1 c2 : Int32) (K : (Nat → Nat → Int32) → Int32 → Option (Nat → Nat → Int32)) (N : Nat) (x3 v18 v28 : Int32) : y_r4n c1 c2 K (N + 1) x3 v18 v28 V = K V x3 := by
  unfold y_r4n
  rw [y_rx h, z_bd2, y_r9 h, y_rn h, z_bdc, y_r4x, y_r9 h]
theorem y_r4me (h : y_Re T n V0 c x V) (c1 c2 : Int32) (K : (Nat → Nat → Int32) → Int32 → Option (Nat → Nat → Int32)) (N : Nat) (x3 v18 v28 : Int32) : y_r4m c1 c2 K (N + 1) x3 v18 v28 V = K V x3 := by
  unfold y_r4m
  rw [y_rx h, z_bd2, z_jn, y_r9 h]
  exact y_r4ne h _ _ _ _ _ _ _
theorem y_r4le (h : y_Re T n V0 c x V) (c1 c2 : Int32) (K : (Nat → Nat → Int32) → Int32 → Option (Nat → Nat → Int32)) (N : Nat) (x3 v18 : Int32) : y_r4l c1 c2 K (N + 1) x3 v18 V = K V x3 := by
  unfold y_r4l
  rw [z_jn, y_r9 h]
  exact y_r4me h _ _ _ _ _ _ _
/-- one more stop of the route, both sides -/
def y_rt4 (s g : Nat → Int) (m : Nat) (x : Nat) (ro : Nat → Int) (W : Nat → Nat → Int32) : Prop := (∀ j, j < x → W 14 j = zI (ro j)) ∧ (∀ j, j < x → 0 ≤ ro j ∧ ro j < s 1) ∧ (∀ j, j + 1 < x → z_tk s (ro j) (ro (j + 1)) ≠ none) ∧ (∀ j, j < x → g (87 + 14 * m + 2 + j) = ro j) ∧ W 13 7 = zI x
theorem y_PIr (h : z_PI b s g) (z : y_z s g) {m x : Nat} {v : Int} (hm : s 3 = m) (h4 : m < 4) (hx : x < 6) : z_PI b s (zu g (87 + 14 * m + 2 + x) v) ∧ y_z s (zu g (87 + 14 * m + 2 + x) v) := by
  have k0 := z_PI_0 h
  have k3 := z_PI_3 h
  obtain ⟨c0, c1, c2, c3, c4⟩ := id k0.1
  refine ⟨z_PI_mk ⟨k0.1, fun k hk => by rw [z_un (by omega)]; exact k0.2 k hk⟩ (z_k1_c k0 rfl rfl (fun _ _ _ => rfl) (fun k _ _ => z_un (by omega)) (z_PI_1 h)) (z_k2_c k0 (Int.le_refl _) rfl (fun _ _ _ => rfl) (fun k _ _ => z_un (by omega)) (z_PI_2 h)) ⟨k3.1, fun t ht => ⟨(k3.2 t ht).1, z_rtn_g (fun _ _ _ => rfl) (fun _ _ => rfl) c2.1 (fun _ _ => rfl) (fun k hk => z_un (by omega)) (k3.2 t ht).1 (k3.2 t ht).2⟩⟩ (z_k4_c k0 rfl (Int.le_refl _) (Int.le_refl _) rfl (fun _ _ _ => rfl) (fun k _ _ => z_un (by omega)) (z_PI_4 h)) (z_PI_5 h) (fun j hj => by rw [z_un (by omega)]; exact z_PI_6 h j hj), fun j hj h8 => by rw [z_un (by omega)]; exact z.1 j hj h8, fun t ht h4 => ?_⟩
  rw [z_un (by omega), z_un (by omega), z_un (by omega), z_un (by omega)]
  exact z.2 t ht h4
theorem y_JR {m : Nat} (hm : s 3 = m) (h4 : m < 4) {c2 : Int32} (K : (Nat → Nat → Int32) → Int32 → Option (Nat → Nat → Int32)) : ∀ d x N M (W V : Nat → Nat → Int32) (g ro : Nat → Int) (p q : Nat) (kd : Int), x + d = 7 → d < N → d < M → y_Cg b T n W0 s g p q kd W → y_Rg b T n V0 s g p q kd V → y_z s g → y_rt4 s g m x ro W → x ≤ 6 →
    (∃ c y W' V' x' g', l_X3_takeRoute_7 N W (zI (x : Nat)) = some W' ∧ y_Ce b T n W0 s g' c y W' ∧ l_X10_readTrain_59 (zI ((87 + 14 * m : Nat) : Int)) c2 K M V (zI (x : Nat)) = K V' x' ∧ y_Re T n V0 c y V') ∨
    (∃ (x' : Nat) (W' V' : Nat → Nat → Int32) (g' ro' : Nat → Int) (p' q' : Nat) (kd' : Int), (2 ≤ x' ∧ x' ≤ 6) ∧ l_X10_readTrain_59 (zI ((87 + 14 * m : Nat) : Int)) c2 K M V (zI (x : Nat)) = K V' (zI (x' : Nat)) ∧ y_Rg b T n V0 s g' p' q' kd' V' ∧ y_z s g' ∧ y_Cg b T n W0 s g' p' q' kd' W' ∧ y_rt4 s g' m x' ro' W' ∧ W' 13 2 = W 13 2 ∧ W' 13 6 = W 13 6 ∧ p ≤ p' ∧ kd' ≠ 1 ∧ ((kd' = 3 ∧ l_X3_takeRoute_7 N W (zI (x : Nat)) = some W') ∨ (kd' ≠ 3 ∧ ∃ W'', l_X3_takeRoute_7 N W (zI (x : Nat)) = some W'' ∧ y_Ce b T n W0 s g' 1 (zI p') W''))) := by
  intro d
  induction d with
  | zero => intro x N M W V g ro p q kd hx _ _ _ _ _ _ h6; omega
  | succ d ih =>
    intro x N M W V g ro p q kd hx hN hM hC hR z hr h6
    obtain ⟨N, rfl⟩ : ∃ k, N = k + 1 := ⟨N - 1, by omega⟩
    obtain ⟨M, rfl⟩ : ∃ k, M = k + 1 := ⟨M - 1, by omega⟩
    have hbb := y_Cg_b hC
    have k3 := y_rk3 hbb.2.2.2.1
    obtain ⟨a1, a2, a3⟩ := y_gs hC
    obtain ⟨c1, c2', c3⟩ := y_lk hR
    have cc := hC.2.2.2.2.2.1.1.2.1
    have sb := y_st_b (T := T) (p := p) (q := q) hC.2.2.2.2.2
    obtain ⟨r1, r2, r3, r4, r5⟩ := id hr
    obtain ⟨N', rfl⟩ : ∃ k, N = k + 1 := ⟨N - 1, by omega⟩
    obtain ⟨M', rfl⟩ : ∃ k, M = k + 1 := ⟨M - 1, by omega⟩
    have eL : l_X3_takeRoute_7 (N' + 1 + 1) W (zI (x : Nat)) = if x < 2 ∨ kd ≠ 3 then bd2 (f_X3_findNamedStation W) (fun v8 W7 => y_c4b (N' + 1) (zI x) v8 W7) else some W := by
      rw [y_c4x, hC.2.2.1, hC.2.1.2.2.1, show (6 : Int32) = zI 6 from z_lit 6, show (3 : Int32) = zI 3 from z_lit 3, z_l0, z_l2, z_ltF (by omega) (by omega) (by omega), if_pos rfl, z_jn]
      by_cases e1 : x < 2
      · rw [if_pos (Or.inl e1), z_ltT (by omega) (by omega) (by omega)]
      · rw [z_ltF (by omega) (by omega) (by omega)]
        by_cases e2 : kd = 3
        · rw [z_eqT e2, if_neg (by omega)]
        · rw [z_eqF e2 (by omega) (by omega) (by omega) (by omega), if_pos (Or.inr e2)]
    have eR : l_X10_readTrain_59 (zI ((87 + 14 * m : Nat) : Int)) c2 K (M' + 1 + 1) V (zI (x : Nat)) = if x < 2 ∨ kd = 1 then bd2 (f_X10_look V) (fun v18 W17 => y_r4l (zI ((87 + 14 * m : Nat) : Int)) c2 K (M' + 1) (zI x) v18 W17) else K V (zI x) := by
      rw [y_r4x, y_r0 hR, hR.2.1.2.2.1, show (3 : Int32) = zI 3 from z_lit 3, z_l2, z_jn]
      by_cases e1 : x < 2
      · rw [if_pos (Or.inl e1), z_ltT (by omega) (by omega) (by omega)]
      · rw [z_ltF (by omega) (by omega) (by omega)]
        by_cases e2 : kd = 1
        · rw [z_eqT (by omega), if_pos (Or.inr e2)]
        · rw [z_eqF (by omega) (by omega) (by omega) (by omega) (by omega), if_neg (by omega)]
    have ee : ∀ d, (x < 2 ∨ kd = 1) → (∃ v W1, f_X3_findNamedStation W = some (v, W1) ∧ y_Ce b T n W0 s g d (zI p) W1) → (∃ V1, f_X10_look V = some (zI 0, V1) ∧ y_Re T n V0 d (zI p) V1) → (∃ c y W' V' x' g', l_X3_takeRoute_7 (N' + 1 + 1) W (zI (x : Nat)) = some W' ∧ y_Ce b T n W0 s g' c y W' ∧ l_X10_readTrain_59 (zI ((87 + 14 * m : Nat) : Int)) c2 K (M' + 1 + 1) V (zI (x : Nat)) = K V' x' ∧ y_Re T n V0 c y V') := by
      intro d hx1 ⟨v, W1, e1, w1⟩ ⟨V1, e2, w2'⟩
      obtain ⟨W2, e3, w3⟩ := y_c4be w1 (m := x) (by omega) N' v
      refine ⟨d, zI p, W2, V1, zI x, g, ?_, w3, ?_, w2'⟩
      · rw [eL, if_pos (by omega), e1, z_bd2, e3]
      · rw [eR, if_pos hx1, e2, z_bd2, y_r4le w2']
    by_cases st : x < 2 ∨ kd = 1
    · by_cases e : kd = 1
      · by_cases f : y_st T s p q = -1
        · obtain ⟨v, W1, e1, w1, -⟩ := a2 e f
          exact Or.inl (ee 4 st ⟨v, W1, e1, w1⟩ (c2' e f))
        · have eC := a3 e f
          have eV := c3 e f
          rw [if_pos (by omega), eC, z_bd2] at eL
          rw [if_pos st, eV, z_bd2] at eR
          generalize hj : y_st T s p q = j at *
          have hj0 : 0 ≤ j ∧ j < s 1 := by omega
          obtain ⟨G, g1, g2, g3, g4⟩ := y_pk hR.2.2.2.2.2 z hR.2.2.2.2.1
          -- linked with the stop before
          by_cases ok : x = 0 ∨ z_oi (z_tk s (ro (x - 1)) j) ≠ -1
          · have eL2 : l_X3_takeRoute_7 (N' + 1 + 1) W (zI (x : Nat)) = y_c4 (N' + 1) (zI x) (zI j) W := by
              rw [eL]
              unfold y_c4b
              rw [z_jn, z_l0]
              by_cases x0 : x = 0
              · rw [z_leT (by omega) (by omega) (by omega)]
              · have ob := r2 (x - 1) (by omega)
                have ot := y_tk_b (i := ro (x - 1)) (j := j) hC.2.2.2.2.2
                have cc2 := hC.2.2.2.2.2.1.1.2.2.1
                rw [z_leF (by omega) (by omega) (by omega), z_l1, z_sub, z_inr (by omega) (by omega) (by omega), z_gd, z_ixz (by omega) (by omega), show ((x : Int) - 1).toNat = x - 1 by omega, r1 _ (by omega), hC.2.2.2.2.1, z_Ctk hC.2.2.2.2.2.1 (by unfold zR; omega) (by unfold zR; omega), z_bdc, show (-zI 1 : Int32) = zI (-1) from rfl, z_eqF (by omega) (by omega) (by omega) (by omega) (by omega)]
            have eR2 : l_X10_readTrain_59 (zI ((87 + 14 * m : Nat) : Int)) c2 K (M' + 1 + 1) V (zI (x : Nat)) = y_r4n (zI ((87 + 14 * m : Nat) : Int)) c2 K (M' + 1) (zI x) (zI j) (if x < 6 then zI 1 else zI 0) V := by
              have em : y_r4m (zI ((87 + 14 * m : Nat) : Int)) c2 K (M' + 1) (zI x) (zI j) 1 V = y_r4n (zI ((87 + 14 * m : Nat) : Int)) c2 K (M' + 1) (zI x) (zI j) (if x < 6 then zI 1 else zI 0) V := by
                unfold y_r4m
                rw [z_l1, y_rc hR, z_bd2, z_jn, y_r0 hR, show (6 : Int32) = zI 6 from z_lit 6]
                by_cases x6 : x < 6
                · rw [if_pos x6, z_leF (by omega) (by omega) (by omega)]
                · rw [if_neg x6, z_leT (by omega) (by omega) (by omega), z_l0]
              rw [eR]
              unfold y_r4l
              rw [z_jn, y_r0 hR, z_l0]
              by_cases x0 : x = 0
              · rw [z_eqT (by omega)]
                exact em
              · have ob := r2 (x - 1) (by omega)
                have ot := y_tk_b (i := ro (x - 1)) (j := j) hC.2.2.2.2.2
                have cc2 := hC.2.2.2.2.2.1.1.2.2.1
                have og := r4 (x - 1) (by omega)
                have e22 := hR.2.2.2.2.1 (87 + 14 * m + 2 + (x - 1)) (by omega)
                rw [z_eqF (by omega) (by omega) (by omega) (by omega) (by omega), z_l2, z_l1, z_add, z_add, z_sub, z_inr (by omega) (by omega) (by omega), z_gd, z_ixz (by omega) (by omega), show (((87 + 14 * m : Nat) : Int) + 2 + (x : Int) - 1).toNat = 87 + 14 * m + 2 + (x - 1) by omega, e22, og, g1, z_Gtk g2.1 g2.2.1 (by unfold zR; omega) (by unfold zR; omega), z_bdc, show (-zI 1 : Int32) = zI (-1) from rfl, z_eqF (by omega) (by omega) (by omega) (by omega) (by omega)]
                rw [z_l1] at em
                exact em
            by_cases x6 : x < 6
            · obtain ⟨p1, q1, kd1, t1⟩ := z_tok_x (T := T) (n := n) (r := q) (by omega)
              have tb1 := t1.1
              obtain ⟨pi, zi⟩ := y_PIr (v := j) hC.2.2.2.2.2 z hm h4 x6
              have hC1 := y_Cg_w (g' := zu g (87 + 14 * m + 2 + x) j) (y_Cg_13 (y_Cg_14 hC (k := x) (v := zI j)) (k := 7) (by omega) (v := zI ((x : Int) + 1))) pi (by rw [z_w2u (by omega), z_w2u (by omega)]; exact hC.2.2.2.2.1) (fun _ _ => rfl)
              have hR1 := y_Rg_s (V' := w2 V 22 (87 + 14 * m + 2 + x) (zI j)) hR pi (fun k hk => by
                by_cases d : k = 87 + 14 * m + 2 + x
                · rw [d, z_w2e, z_ue rfl]
                · rw [z_w2k d, z_un d]
                  exact hR.2.2.2.2.1 k hk) (z_w2u (by omega)) (fun u a b _ => z_w2u a)
              obtain ⟨ad, hC2⟩ := y_ga hC1 t1
              obtain ⟨V2, av, hR2⟩ := y_ra hR1 t1
              have hr2 : y_rt4 s (zu g (87 + 14 * m + 2 + x) j) m (x + 1) (zu ro x j) (y_Ctk (w2 (w2 W 14 x (zI j)) 13 7 (zI ((x : Int) + 1))) p1 q1 kd1) := by
                refine ⟨fun i hi => ?_, fun i hi => ?_, fun i hi => ?_, fun i hi => ?_, ?_⟩
                · rw [y_Ctk_u (by omega), z_w2u (by omega)]
                  by_cases c : i = x
                  · rw [c, z_w2e, z_ue rfl]
                  · rw [z_w2k c, z_un c]
                    exact r1 i (by omega)
                · by_cases c : i = x
                  · rw [c, z_ue rfl]
                    exact hj0
                  · rw [z_un c]
                    exact r2 i (by omega)
                · by_cases c : i + 1 = x
                  · rw [z_un (by omega), z_ue c]
                    intro q
                    rcases ok with ok | ok
                    · omega
                    · rw [show i = x - 1 by omega] at q
                      rw [q] at ok
                      exact ok rfl
                  · rw [z_un (by omega), z_un c]
                    exact r3 i (by omega)
                · by_cases c : i = x
                  · rw [c, z_ue rfl, z_ue rfl]
                  · rw [z_un (by omega), z_un c]
                    exact r4 i (by omega)
                · rw [y_Ctk_u (by omega), z_w2e]
                  rfl
              have eL3 : l_X3_takeRoute_7 (N' + 1 + 1) W (zI (x : Nat)) = l_X3_takeRoute_7 (N' + 1) (y_Ctk (w2 (w2 W 14 x (zI j)) 13 7 (zI ((x : Int) + 1))) p1 q1 kd1) (zI ((x + 1 : Nat) : Int)) := by
                rw [eL2]
                unfold y_c4
                rw [show (6 : Int32) = zI 6 from z_lit 6, z_leF (by omega) (by omega) (by omega), z_inr (by omega) (by omega) (by omega), z_gd, z_ixn (by omega), z_bnd, z_bnd, z_l1, z_add, ad, z_bdc]
                rfl
              have eR3 : l_X10_readTrain_59 (zI ((87 + 14 * m : Nat) : Int)) c2 K (M' + 1 + 1) V (zI (x : Nat)) = l_X10_readTrain_59 (zI ((87 + 14 * m : Nat) : Int)) c2 K (M' + 1) V2 (zI ((x + 1 : Nat) : Int)) := by
                rw [eR2, if_pos x6]
                unfold y_r4n
                rw [y_rc hR, z_bd2, y_r0 hR, z_l2, z_add, z_add, z_inr (by omega) (by omega) (by omega), z_gd, z_ixz (by omega) (by omega), show (((87 + 14 * m : Nat) : Int) + 2 + (x : Int)).toNat = 87 + 14 * m + 2 + x by omega, z_bnd, av, z_bdc, z_l1, z_add]
                rfl
              have rr := ih (x + 1) (N' + 1) (M' + 1) _ V2 _ _ p1 q1 kd1 (by omega) (by omega) (by omega) hC2 hR2 zi hr2 (by omega)
              rw [← eL3, ← eR3] at rr
              rcases rr with rr | ⟨x', W', V', g', ro', p', q', kd', f1, f2, f3, f4, f5, f6, f7, f8, f9, f10, f11⟩
              · exact Or.inl rr
              · refine Or.inr ⟨x', W', V', g', ro', p', q', kd', f1, f2, f3, f4, f5, f6, ?_, ?_, by omega, f10, f11⟩
                · rw [f7, y_Ctk_u (by omega), z_w2k (by omega), z_w2u (by omega)]
                · rw [f8, y_Ctk_u (by omega), z_w2k (by omega), z_w2u (by omega)]
            · obtain ⟨W1, e1, w1, -⟩ := y_gf hC (c := 6) (by omega)
              obtain ⟨W2, e2, w2'⟩ := y_Ta W1 w1
              obtain ⟨V1, e3, w3⟩ := y_rf hR (c := 6) (by omega)
              refine Or.inl ⟨6, zI p, W2, V1, zI x, g, ?_, w2', ?_, w3⟩
              · rw [eL2]
                unfold y_c4
                rw [show (6 : Int32) = zI 6 from z_lit 6, z_leT (by omega) (by omega) (by omega), e1, z_bdc, e2, z_bdc, y_c4s w2']
              · rw [eR2, if_neg x6]
                unfold y_r4n
                rw [show (6 : Int32) = zI 6 from z_lit 6, e3, z_bd2, y_r9 w3, y_rn w3, z_bdc, y_r4x, y_r9 w3]
          · have x0 : x ≠ 0 := fun q => ok (Or.inl q)
            have om : z_oi (z_tk s (ro (x - 1)) j) = -1 := by
              by_cases q : z_oi (z_tk s (ro (x - 1)) j) = -1
              · exact q
              · exact absurd (Or.inr q) ok
            have ob := r2 (x - 1) (by omega)
            have og := r4 (x - 1) (by omega)
            have e22 := hR.2.2.2.2.1 (87 + 14 * m + 2 + (x - 1)) (by omega)
            obtain ⟨W1, e1, w1, -⟩ := y_gf hC (c := 5) (by omega)
            obtain ⟨W2, e2, w2'⟩ := y_c4e w1 (m := x) (by omega) N' (zI j)
            obtain ⟨V1, e3, w3⟩ := y_rf hR (c := 5) (by omega)
            refine Or.inl ⟨5, zI p, W2, V1, zI x, g, ?_, w2', ?_, w3⟩
            · rw [eL]
              unfold y_c4b
              rw [z_jn, z_l0, z_leF (by omega) (by omega) (by omega), z_l1, z_sub, z_inr (by omega) (by omega) (by omega), z_gd, z_ixz (by omega) (by omega), show ((x : Int) - 1).toNat = x - 1 by omega, r1 _ (by omega), hC.2.2.2.2.1, z_Ctk hC.2.2.2.2.2.1 (by unfold zR; omega) (by unfold zR; omega), z_bdc, show (-zI 1 : Int32) = zI (-1) from rfl, z_eqT om, show (5 : Int32) = zI 5 from z_lit 5, e1, z_bdc]
              exact e2
            · have em : y_r4m (zI ((87 + 14 * m : Nat) : Int)) c2 K (M' + 1) (zI x) (zI j) 0 V = K V1 (zI x) := by
                unfold y_r4m
                rw [z_l0, show (5 : Int32) = zI 5 from z_lit 5, e3, z_bd2, z_jn, ← z_l0, y_r9 w3]
                exact y_r4ne w3 _ _ _ _ _ _ _
              rw [eR]
              unfold y_r4l
              rw [z_jn, y_r0 hR, z_l0, z_eqF (by omega) (by omega) (by omega) (by omega) (by omega), z_l2, z_l1, z_add, z_add, z_sub, z_inr (by omega) (by omega) (by omega), z_gd, z_ixz (by omega) (by omega), show (((87 + 14 * m : Nat) : Int) + 2 + (x : Int) - 1).toNat = 87 + 14 * m + 2 + (x - 1) by omega, e22, og, g1, z_Gtk g2.1 g2.2.1 (by unfold zR; omega) (by unfold zR; omega), z_bdc, show (-zI 1 : Int32) = zI (-1) from rfl, z_eqT om]
              rw [z_l0] at em
              exact em
      · obtain ⟨v, W1, e1, w1, -⟩ := a1 e
        exact Or.inl (ee 1 st ⟨v, W1, e1, w1⟩ (c1 e))
    · refine Or.inr ⟨x, W, V, g, ro, p, q, kd, by omega, by rw [eR, if_neg st], hR, z, hC, hr, rfl, rfl, Nat.le_refl _, by omega, ?_⟩
      by_cases e : kd = 3
      · exact Or.inl ⟨e, by rw [eL, if_neg (by omega)]⟩
      · obtain ⟨v, W1, e1, w1, -⟩ := a1 (by omega)
        obtain ⟨W2, e3, w3⟩ := y_c4be w1 (m := x) (by omega) N' v
        exact Or.inr ⟨e, W2, by rw [eL, if_pos (Or.inr e), e1, z_bd2, e3], w3⟩
end Pn
