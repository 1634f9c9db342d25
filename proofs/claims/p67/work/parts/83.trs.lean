/-! trains -/
section Trs
variable {s s' g g' : Nat → Int} {TT : Nat → Int} {n Q L : Nat} {W W0 : Nat → Nat → Int32} {ro : Nat → Nat}
def x_RB (ro : Nat → Nat) : Nat → List Int
  | 0 => []
  | L + 1 => x_RB ro L ++ [32, 97 + (ro L : Int)]
theorem x_RBl : ∀ L, (x_RB ro L).length = 2 * L
  | 0 => rfl
  | L + 1 => by
    rw [x_RB, List.length_append, x_RBl L, show ([32, 97 + (ro L : Int)] : List Int).length = 2 from rfl]
    omega
theorem x_RBh : ∀ L, x_has TT Q (x_RB ro L) → ∀ j, j < L → TT (Q + 2 * j) = 32 ∧ TT (Q + 2 * j + 1) = 97 + (ro j : Int)
  | 0, _, j, hj => absurd hj (by omega)
  | L + 1, h, j, hj => by
    rw [x_RB] at h
    by_cases c : j = L
    · subst c
      have hr := x_has_r h
      rw [x_RBl] at hr
      exact ⟨hr 0 (show 0 < 2 by omega), hr 1 (show 1 < 2 by omega)⟩
    · exact x_RBh L (x_has_l h) j (by omega)
/-- the route's places in the numbers beside the state -/
theorem x_gro (P : z_PI 0 s g) (z : y_z s g) {t : Nat} (ht : s 3 = (t : Int)) (h4 : t < 4) : ∀ L, L ≤ 6 → ∃ g', z_PI 0 s g' ∧ y_z s g' ∧ (∀ j, j < L → g' (87 + 14 * t + 2 + j) = (ro j : Int)) ∧ (∀ k, ¬ (87 + 14 * t + 2 ≤ k ∧ k < 87 + 14 * t + 2 + L) → g' k = g k) := by
  intro L
  induction L with
  | zero =>
    intro _
    exact ⟨g, P, z, fun j hj => absurd hj (by omega), fun _ _ => rfl⟩
  | succ L ih =>
    intro hL
    obtain ⟨g1, p1, z1, r1, f1⟩ := ih (by omega)
    obtain ⟨p2, z2⟩ := y_PIr (v := (ro L : Int)) p1 z1 ht h4 (show L < 6 by omega)
    refine ⟨_, p2, z2, fun j hj => ?_, fun k hk => ?_⟩
    · by_cases c : j = L
      · rw [c, z_ue rfl]
      · rw [z_un (by omega)]
        exact r1 j (by omega)
    · rw [z_un (by omega)]
      exact f1 k (by omega)
theorem x_rou (hL : 2 ≤ L ∧ L ≤ 6) (b0 : ∀ j, j < L → TT (Q + 2 * j) = 32 ∧ TT (Q + 2 * j + 1) = 97 + (ro j : Int)) (b1 : TT (Q + 2 * L) = 59) (hn : Q + 2 * L + 1 ≤ n) (nm : x_nm s) (h8 : 0 ≤ s 1 ∧ s 1 ≤ 8) (hr : ∀ j, j < L → (ro j : Int) < s 1) (hlk : ∀ j, j + 1 < L → z_tk s (ro j) (ro (j + 1)) ≠ none) : ∀ d x N (W : Nat → Nat → Int32), x + d = L → d < N → x_at TT n W0 (Q + 2 * x) s g W → (∀ j, j < x → W 14 j = zI (ro j : Int)) → W 13 7 = zI (x : Int) → ∃ W', l_X3_takeRoute_7 N W (zI (x : Int)) = some W' ∧ y_Cg 0 TT n W0 s g (Q + 2 * L) (Q + 2 * L + 1) 3 W' ∧ (∀ j, j < L → W' 14 j = zI (ro j : Int)) ∧ W' 13 7 = zI (L : Int) ∧ (∀ k, k ≠ 7 → W' 13 k = W 13 k) := by
  intro d
  induction d with
  | zero =>
    intro x N W hx hN hat h14 h7
    obtain ⟨N, rfl⟩ : ∃ m, N = m + 1 := ⟨N - 1, by omega⟩
    obtain rfl : x = L := by omega
    have t3 : z_tok TT n (Q + 2 * x) (Q + 2 * x) (Q + 2 * x + 1) 3 := x_tk3 b1 (by omega)
    have hC := x_at_g hat t3
    refine ⟨W, ?_, hC, h14, h7, fun _ _ => rfl⟩
    rw [y_c4x, hC.2.2.1, hC.2.1.2.2.1, show (6 : Int32) = zI 6 from z_lit 6, show (3 : Int32) = zI 3 from z_lit 3, z_l0, z_l2, z_ltF (by omega) (by omega) (by omega), if_pos rfl, z_jn, z_ltF (by omega) (by omega) (by omega), if_pos rfl]
  | succ d ih =>
    intro x N W hx hN hat h14 h7
    obtain ⟨N, rfl⟩ : ∃ m, N = m + 1 := ⟨N - 1, by omega⟩
    obtain ⟨c0, c1⟩ := b0 x (by omega)
    have c2 : TT (Q + 2 * x + 2) < 97 := by
      by_cases e : x + 1 = L
      · rw [show Q + 2 * x + 2 = Q + 2 * L by omega, b1]
        omega
      · have := (b0 (x + 1) (by omega)).1
        rw [show Q + 2 * x + 2 = Q + 2 * (x + 1) by omega, this]
        omega
    have rx := hr x (by omega)
    have t1 : z_tok TT n (Q + 2 * x) (Q + 2 * x + 1) (Q + 2 * x + 2) 1 := x_tl c0 c1 (by omega) (by omega) c2
    have hC := x_at_g hat t1
    obtain ⟨p2, q2, kd2, t2⟩ := z_tok_x (T := TT) (n := n) (r := Q + 2 * x + 2) (by omega)
    have st : y_st TT s (Q + 2 * x + 1) (Q + 2 * x + 2) = (ro x : Int) := x_sta nm h8.1 rx c1
    have fn := (y_gs hC).2.2 rfl (by omega)
    rw [st] at fn
    have hC1 := y_Cg_13 (y_Cg_14 hC (k := x) (v := zI (ro x : Int))) (k := 7) (by omega) (v := zI ((x : Int) + 1))
    obtain ⟨ad, hC2⟩ := y_ga hC1 t2
    obtain ⟨W', f1, f2, f3, f4, f5⟩ := ih (x + 1) N _ (by omega) (by omega) ⟨p2, q2, kd2, by rw [show Q + 2 * (x + 1) = Q + 2 * x + 2 by omega]; exact t2, hC2⟩ (fun j hj => by
      rw [y_Ctk_u (by omega), z_w2u (by omega)]
      by_cases c : j = x
      · rw [c, z_w2e]
      · rw [z_w2k c]
        exact h14 j (by omega)) (by rw [y_Ctk_u (by omega), z_w2e, z_cs])
    refine ⟨W', ?_, f2, f3, f4, fun k hk => by rw [f5 k hk, y_Ctk_u (by omega), z_w2k hk, z_w2u (by omega)]⟩
    have eL : l_X3_takeRoute_7 (N + 1) W (zI (x : Nat)) = bd2 (f_X3_findNamedStation W) (fun v8 W7 => y_c4b N (zI x) v8 W7) := by
      rw [y_c4x, hC.2.2.1, hC.2.1.2.2.1, show (6 : Int32) = zI 6 from z_lit 6, show (3 : Int32) = zI 3 from z_lit 3, z_l0, z_l2, z_ltF (by omega) (by omega) (by omega), if_pos rfl, z_jn]
      by_cases e1 : x < 2
      · rw [z_ltT (by omega) (by omega) (by omega)]
      · rw [z_ltF (by omega) (by omega) (by omega), z_eqF (by omega) (by omega) (by omega) (by omega) (by omega)]
    have eL2 : l_X3_takeRoute_7 (N + 1) W (zI (x : Nat)) = y_c4 N (zI x) (zI (ro x : Int)) W := by
      rw [eL, fn, z_bd2]
      unfold y_c4b
      rw [z_jn, z_l0]
      by_cases x0 : x = 0
      · rw [z_leT (by omega) (by omega) (by omega)]
      · have ob := hr (x - 1) (by omega)
        have ot := y_tk_b (i := (ro (x - 1) : Int)) (j := (ro x : Int)) hC.2.2.2.2.2
        have cc2 := hC.2.2.2.2.2.1.1.2.2.1
        have lk := hlk (x - 1) (by omega)
        rw [show x - 1 + 1 = x by omega] at lk
        have ln : z_oi (z_tk s (ro (x - 1)) (ro x)) ≠ -1 := by
          cases q : z_tk s (ro (x - 1) : Int) (ro x : Int) with
          | none => exact absurd q lk
          | some k => show (k : Int) ≠ -1; omega
        rw [z_leF (by omega) (by omega) (by omega), z_l1, z_sub, z_inr (by omega) (by omega) (by omega), z_gd, z_ixz (by omega) (by omega), show ((x : Int) - 1).toNat = x - 1 by omega, h14 _ (by omega), hC.2.2.2.2.1, z_Ctk hC.2.2.2.2.2.1 (by unfold zR; omega) (by unfold zR; omega), z_bdc, show (-zI 1 : Int32) = zI (-1) from rfl, z_eqF ln (by omega) (by omega) (by omega) (by omega)]
    rw [eL2]
    unfold y_c4
    rw [show (6 : Int32) = zI 6 from z_lit 6, z_leF (by omega) (by omega) (by omega), z_inr (by omega) (by omega) (by omega), z_gd, z_ixn (by omega), z_bnd, z_bnd, z_l1, z_add, ad, z_bdc, ← z_cs]
    exact f1
theorem x_mtc {R0 R1 : Nat → Int32} {m t : Nat} {K : (Nat → Int32) → Option (Nat → Int32)} (hm : m ≤ 6) (h : ∀ j, j < m → R0 j = R1 j) : ∀ N (S : Nat → Int32) (x : Nat), x < 1000000 - N → l_X4_makeTrain_35 R0 (zI (m : Int)) t K N S (zI (x : Int)) = l_X4_makeTrain_35 R1 (zI (m : Int)) t K N S (zI (x : Int)) := by
  intro N
  induction N with
  | zero => intro S x _; rfl
  | succ N ih =>
    intro S x hx
    rw [l_X4_makeTrain_35, l_X4_makeTrain_35]
    by_cases c : m ≤ x
    · rw [z_leT (by omega) (by omega) (by omega), z_leT (by omega) (by omega) (by omega)]
    · rw [z_ixn (by omega), h x (by omega), z_l1, z_add, ← z_cs]
      simp only [z_bnd]
      rw [ih _ (x + 1) (by omega)]
theorem x_fu : FU < 1000000 := by
  unfold FU
  omega
theorem x_mtR {R0 R1 : Nat → Int32} {m : Nat} {S : Nat → Int32} {c : Int32} (hm : m ≤ 6) (h : ∀ j, j < m → R0 j = R1 j) : f_X4_makeTrain S c R0 (zI (m : Int)) = f_X4_makeTrain S c R1 (zI (m : Int)) := by
  unfold f_X4_makeTrain
  have hF := x_fu
  generalize FU = N at hF ⊢
  rw [z_l0, show zI 0 = zI ((0 : Nat) : Int) from rfl]
  simp only [z_bnd]
  rw [x_mtc hm h N _ 0 (by omega)]
theorem x_s4 {t : Nat} {c : Int} (ht : s 3 = (t : Int)) (h4 : t < 4) (P : z_PI 0 s g) (z : y_z s g) (nm : x_nm s) (hc : 1 ≤ c ∧ c ≤ 4) (hL : 2 ≤ L ∧ L ≤ 6) (hr : ∀ j, j < L → (ro j : Int) < s 1) (hlk : ∀ j, j + 1 < L → z_tk s (ro j) (ro (j + 1)) ≠ none) : ∃ s' g1, x_seq s g (x_KB 4 ++ 32 :: (48 + c) :: (x_RB ro L ++ [59])) 1 s' (y_G3 g1 t c L) ∧ z_PI 0 s' (y_G3 g1 t c L) ∧ y_z s' (y_G3 g1 t c L) ∧ (∀ k, ¬ (87 + 14 * t + 2 ≤ k ∧ k < 87 + 14 * t + 2 + L) → g1 k = g k) := by
  have h8 := P.1.1.2.1
  obtain ⟨g1, p1, z1, r1, f1⟩ := x_gro (ro := ro) P z ht h4 L hL.2
  obtain ⟨s', i1, i2, i3⟩ := y_mtr p1 z1 ht h4 hc hL (r := fun j => (ro j : Int)) (R0 := fun j => zI (ro j : Int)) (fun j hj => ⟨by omega, hr j hj⟩) hlk r1 (fun j hj => rfl)
  refine ⟨s', g1, fun TT n W0 r W hh hn hat => ?_, i2, i3, f1⟩
  have hl : (x_KB 4 ++ 32 :: (48 + c) :: (x_RB ro L ++ [59])).length = (x_KB 4).length + (2 * L + 3) := by
    rw [List.length_append, List.length_cons, List.length_cons, List.length_append, x_RBl, List.length_singleton]
  rw [hl] at hn ⊢
  have hD := x_has_r hh
  have b0 : TT (r + (x_KB 4).length) = 32 := hD 0 (Nat.succ_pos _)
  have b1 : TT (r + (x_KB 4).length + 1) = 48 + c := hD 1 (by rw [List.length_cons, List.length_cons]; omega)
  have hE : x_has TT (r + (x_KB 4).length + 2) (x_RB ro L ++ [59]) := fun j hj => by
    have := hD (j + 2) (by rw [List.length_cons, List.length_cons]; omega)
    rw [show r + (x_KB 4).length + 2 + j = r + (x_KB 4).length + (j + 2) by omega]
    exact this
  have hB := x_RBh L (x_has_l hE)
  have b9 : TT (r + (x_KB 4).length + 2 + 2 * L) = 59 := by
    have := x_has_r hE 0 (Nat.succ_pos _)
    rw [x_RBl] at this
    exact this
  obtain ⟨R, hR⟩ : ∃ R, r + (x_KB 4).length = R := ⟨_, rfl⟩
  rw [hR] at b0 b1 b9 hB
  rw [show r + ((x_KB 4).length + (2 * L + 3)) = R + 2 + 2 * L + 1 by omega]
  have b2 : TT (R + 2) = 32 := (hB 0 (by omega)).1
  have t2 : z_tok TT n R (R + 1) (R + 2) 2 := x_td b0 b1 (by omega) (by omega) (by rw [b2]; omega)
  obtain ⟨p3, q3, kd3, t3⟩ := z_tok_x (T := TT) (n := n) (r := R + 2) (by omega)
  obtain ⟨p5, q5, kd5, t5⟩ := z_tok_x (T := TT) (n := n) (r := R + 2 + 2 * L + 1) (by omega)
  obtain ⟨W3, e3, c3, k3, p0, q0, hg⟩ := x_head (j := 4) (jj := 4) rfl (by omega) (by omega) hat hh (by omega) (by unfold y_full; omega) (by rw [hR]; exact t2)
  obtain ⟨W4, e4, c4, k4, l4⟩ := x_pnm (lo := 1) (hi := 4) (v := c) c3 t3 (by omega) (by omega) (x_cv b1 (by omega)) hc
  have c4' := y_Cg_13 c4 (k := 7) (by omega) (v := zI 0)
  obtain ⟨W5, e5, c5, k5, m5, l5⟩ := x_rou hL hB b9 (by omega) nm h8 hr hlk L 0 FU _ (by omega) (by unfold FU; omega) ⟨p3, q3, kd3, t3, c4'⟩ (fun j hj => absurd hj (by omega)) z_w2e
  obtain ⟨W6, e6, c6, k6, n6⟩ := x_pen c5 t5
  have h2 : W6 13 2 = zI 4 := by rw [k6, l5 2 (by omega), z_w2k (by omega), l4 2 (by omega)]; exact k3
  have h6 : W6 13 6 = zI c := by rw [k6, l5 6 (by omega), z_w2k (by omega)]; exact k4
  have h7 : W6 13 7 = zI (L : Int) := by rw [k6]; exact m5
  have i1' : f_X4_makeTrain (zV s) (zI c) (ints 6 (W6 14)) (zI (L : Int)) = some (zV s') := by
    rw [← i1]
    refine x_mtR hL.2 fun j hj => ?_
    unfold ints
    rw [if_pos (by omega), n6, k5 j hj]
  have ex : f_X3_execute W6 = some (zI 0, setU W6 2 (zV s')) := by
    unfold f_X3_execute
    rw [z_jn, h2, h6, h7, c6.2.2.2.2.1, i1']
    simp (disch := omega) only [z_lit, z_n, z_add, z_sub, z_mul, z_neg, z_lt1, z_lt0, z_le1, z_le0, z_eq1, z_eq0, z_10, ↓reduceIte, z_v, z_upd, z_ue, z_un, z_ixn, z_ixo, z_ix0, z_ix1, z_ix2, z_ix3, z_ix4, z_ix5, z_ix6, Int.reduceToNat, z_inr, z_gd, ↓z_bnd, ↓z_jn, z_bdc, z_bd2, z_opn, z_ops, z_z01, z_Bt, z_Bf]
    rw [z_sUu (by omega), h2]
    simp (disch := omega) only [z_lit, z_n, z_add, z_sub, z_mul, z_neg, z_lt1, z_lt0, z_le1, z_le0, z_eq1, z_eq0, z_10, ↓reduceIte, z_v, z_upd, z_ue, z_un, z_ixn, z_ixo, z_ix0, z_ix1, z_ix2, z_ix3, z_ix4, z_ix5, z_ix6, Int.reduceToNat, z_inr, z_gd, ↓z_bnd, ↓z_jn, z_bdc, z_bd2, z_opn, z_ops, z_z01, z_Bt, z_Bf]
  refine ⟨_, ⟨p5, q5, kd5, t5, y_Cg_s c6 i2⟩, fun N i hi => x_26 hg ?_ c6 ex N i hi⟩
  rw [e3, y_bd4 k3]
  unfold y_B4
  rw [z_l1, show (4 : Int32) = zI 4 from z_lit 4, e4]
  unfold f_X3_takeRoute
  rw [z_bnd, z_l0, show zI 0 = zI ((0 : Nat) : Int) from rfl]
  rw [show zI 0 = zI ((0 : Nat) : Int) from rfl] at e5
  rw [e5, z_bdc, e6]
end Trs
