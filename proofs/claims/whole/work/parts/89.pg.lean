/-! a train is set down -/
section Pg
variable {b : Int} {s s' g g' : Nat → Int}
def y_G3 (g : Nat → Int) (n : Nat) (c m : Int) : Nat → Int := zu (zu (zu (zu (zu g (87 + 14 * n) c) (87 + 14 * n + 1) m) (87 + 14 * n + 9) 1) (87 + 14 * n + 10) (-1)) 3 ((n : Int) + 1)
theorem y_mtl {R0 : Nat → Int32} {r : Nat → Int} {m n : Nat} {K : (Nat → Int32) → Option (Nat → Int32)} (hm : m ≤ 6) (hR : ∀ j, j < m → R0 j = zI (r j)) : ∀ d x N (u : Nat → Int), x + d = m → d < N → u (87 + 14 * n + 1) = x → ∃ u', l_X4_makeTrain_35 R0 (zI m) n K N (zV u) (zI (x : Nat)) = K (zV u') ∧ u' (87 + 14 * n + 1) = m ∧ (∀ j, x ≤ j → j < m → u' (87 + 14 * n + 2 + j) = r j) ∧ (∀ k, k ≠ 87 + 14 * n + 1 → ¬ (87 + 14 * n + 2 + x ≤ k ∧ k < 87 + 14 * n + 8) → u' k = u k) := by
  intro d
  induction d with
  | zero =>
    intro x N u hx hN h1
    obtain ⟨N, rfl⟩ : ∃ M, N = M + 1 := ⟨N - 1, by omega⟩
    refine ⟨u, ?_, by rw [h1]; omega, fun j a b => by omega, fun _ _ _ => rfl⟩
    rw [l_X4_makeTrain_35, z_leT (by omega) (by omega) (by omega)]
  | succ d ih =>
    intro x N u hx hN h1
    obtain ⟨N, rfl⟩ : ∃ M, N = M + 1 := ⟨N - 1, by omega⟩
    obtain ⟨u', e1, e2, e3, e4⟩ := ih (x + 1) N (zu (zu u (87 + 14 * n + 2 + x) (r x)) (87 + 14 * n + 1) ((x : Int) + 1)) (by omega) (by omega) (by rw [z_ue rfl]; rfl)
    refine ⟨u', ?_, e2, fun j a b => ?_, fun k k1 k2 => by rw [e4 k k1 (by omega), z_un (by omega), z_un (by omega)]⟩
    · rw [l_X4_makeTrain_35, show (6 : Int32) = zI 6 from z_lit 6]
      simp (disch := omega) only [z_lit, z_n, z_add, z_sub, z_mul, z_neg, z_lt1, z_lt0, z_le1, z_le0, z_eq1, z_eq0, z_10, ↓reduceIte, z_v, z_upd, z_ue, z_un, z_ixn, z_ixo, z_ix0, z_ix1, z_ix2, z_ix3, z_ix4, z_ix5, z_ix6, Int.reduceToNat, z_inr, z_gd, ↓z_bnd, ↓z_jn, z_bdc, z_bd2, z_opn, z_ops, z_z01, z_Bt, z_Bf, hR x (by omega), h1]
      exact e1
    · by_cases c : j = x
      · subst c
        rw [e4 _ (by omega) (by omega), z_un (by omega), z_ue rfl]
      · exact e3 j (by omega) b
theorem y_mtr (h : z_PI b s g) (z : y_z s g) {n m : Nat} (hn : s 3 = n) (h3 : n < 4) {c : Int} (hc : 1 ≤ c ∧ c ≤ 4) (hm : 2 ≤ m ∧ m ≤ 6) {r : Nat → Int} {R0 : Nat → Int32} (hr : ∀ j, j < m → 0 ≤ r j ∧ r j < s 1) (hl : ∀ j, j + 1 < m → z_tk s (r j) (r (j + 1)) ≠ none) (hg : ∀ j, j < m → g (87 + 14 * n + 2 + j) = r j) (hR : ∀ j, j < m → R0 j = zI (r j)) : ∃ s', f_X4_makeTrain (zV s) (zI c) R0 (zI m) = some (zV s') ∧ z_PI b s' (y_G3 g n c m) ∧ y_z s' (y_G3 g n c m) := by
  have k0 := z_PI_0 h
  have k3 := z_PI_3 h
  obtain ⟨c0, c1, c2, c3, c4⟩ := id k0.1
  obtain ⟨u, e1, e2, e3, e4⟩ := y_mtl (n := n) (K := fun (S10 : Nat → Int32) => bnd (upd S10 (87 + 14 * n + 8) (0 : Int32)) (fun S11 => bnd (upd S11 (87 + 14 * n + 9) (1 : Int32)) (fun S12 => bnd (upd S12 (87 + 14 * n + 10) (0 : Int32)) (fun S13 => bnd (upd S13 (87 + 14 * n + 11) (0 : Int32)) (fun S14 => bnd (upd S14 (87 + 14 * n + 12) (0 : Int32)) (fun S15 => bnd (upd S15 (87 + 14 * n + 13) (0 : Int32)) (fun S16 => bnd (upd S16 3 ((S16 3) + (1 : Int32))) (fun S17 => some S17)))))))) hm.2 hR m 0 FU (zu (zu s (87 + 14 * n) c) (87 + 14 * n + 1) 0) (by omega) (by unfold FU; omega) (z_ue rfl)
  have u3 : u 3 = s 3 := by rw [e4 3 (by omega) (by omega), z_un (by omega), z_un (by omega)]
  obtain ⟨s', hs'⟩ : ∃ s', s' = zu (zu (zu (zu (zu (zu (zu u (87 + 14 * n + 8) 0) (87 + 14 * n + 9) 1) (87 + 14 * n + 10) 0) (87 + 14 * n + 11) 0) (87 + 14 * n + 12) 0) (87 + 14 * n + 13) 0) 3 ((n : Int) + 1) := ⟨_, rfl⟩
  obtain ⟨g', hg'⟩ : ∃ g', g' = y_G3 g n c m := ⟨_, rfl⟩
  rw [← hg']
  have hG := hg'
  unfold y_G3 at hG
  have e : ∀ k, ¬ (87 + 14 * n ≤ k ∧ k < 87 + 14 * n + 14) → k ≠ 3 → s' k = s k := fun k h1 h2 => by
    rw [hs']
    simp (disch := omega) only [z_un, e4]
  have f : ∀ k, ¬ (87 + 14 * n ≤ k ∧ k < 87 + 14 * n + 14) → k ≠ 3 → g' k = g k := fun k h1 h2 => by
    rw [hG]
    simp (disch := omega) only [z_un]
  have s3 : s' 3 = s 3 + 1 := by rw [hs', z_ue rfl, hn]
  have g3 : g' 3 = s 3 + 1 := by rw [hG, z_ue rfl, hn]
  have d0 : s' (87 + 14 * n) = c := by rw [hs']; simp (disch := omega) only [z_un, z_ue, e4]
  have d1 : s' (87 + 14 * n + 1) = m := by rw [hs']; simp (disch := omega) only [z_un, z_ue, e2]
  have d2 : ∀ j, j < m → s' (87 + 14 * n + 2 + j) = r j := fun j hj => by rw [hs']; simp (disch := omega) only [z_un]; exact e3 j (by omega) hj
  have d8 : s' (87 + 14 * n + 8) = 0 := by rw [hs']; simp (disch := omega) only [z_un, z_ue]
  have d9 : s' (87 + 14 * n + 9) = 1 := by rw [hs']; simp (disch := omega) only [z_un, z_ue]
  have d10 : s' (87 + 14 * n + 10) = 0 := by rw [hs']; simp (disch := omega) only [z_un, z_ue]
  have d11 : s' (87 + 14 * n + 11) = 0 := by rw [hs']; simp (disch := omega) only [z_un, z_ue]
  have d12 : s' (87 + 14 * n + 12) = 0 := by rw [hs']; simp (disch := omega) only [z_un, z_ue]
  have d13 : s' (87 + 14 * n + 13) = 0 := by rw [hs']; simp (disch := omega) only [z_un, z_ue]
  obtain ⟨z8, z11, z12, z13⟩ := z.2 n (by omega) h3
  have q0 : g' (87 + 14 * n) = c := by rw [hG]; simp (disch := omega) only [z_un, z_ue]
  have q1 : g' (87 + 14 * n + 1) = m := by rw [hG]; simp (disch := omega) only [z_un, z_ue]
  have q2 : ∀ j, j < m → g' (87 + 14 * n + 2 + j) = r j := fun j hj => by rw [hG]; simp (disch := omega) only [z_un]; exact hg j hj
  have q8 : g' (87 + 14 * n + 8) = 0 := by rw [hG]; simp (disch := omega) only [z_un, z_ue, z8]
  have q9 : g' (87 + 14 * n + 9) = 1 := by rw [hG]; simp (disch := omega) only [z_un, z_ue]
  have q10 : g' (87 + 14 * n + 10) = -1 := by rw [hG]; simp (disch := omega) only [z_un, z_ue]
  have q11 : g' (87 + 14 * n + 11) = 0 := by rw [hG]; simp (disch := omega) only [z_un, z_ue, z11]
  have q12 : g' (87 + 14 * n + 12) = 0 := by rw [hG]; simp (disch := omega) only [z_un, z_ue, z12]
  have q13 : g' (87 + 14 * n + 13) = 0 := by rw [hG]; simp (disch := omega) only [z_un, z_ue, z13]
  have tk : ∀ x y, z_tk s' x y = z_tk s x y := fun x y => z_tk_c (e 2 (by omega) (by omega)) (by omega) (fun k _ _ => e k (by omega) (by omega))
  refine ⟨s', ?_, z_PI_mk ⟨?_, fun k hk => ?_⟩ (z_k1_c k0 (e 0 (by omega) (by omega)) (e 1 (by omega) (by omega)) (fun k _ _ => e k (by omega) (by omega)) (fun k _ _ => f k (by omega) (by omega)) (z_PI_1 h)) (z_k2_c k0 (by rw [e 1 (by omega) (by omega)]; exact Int.le_refl _) (e 2 (by omega) (by omega)) (fun k _ _ => e k (by omega) (by omega)) (fun k _ _ => f k (by omega) (by omega)) (z_PI_2 h)) ⟨fun i hi => ?_, fun t ht => ?_⟩ (z_k4_c k0 (e 0 (by omega) (by omega)) (by rw [e 1 (by omega) (by omega)]; exact Int.le_refl _) (by omega) (e 4 (by omega) (by omega)) (fun k _ _ => e k (by omega) (by omega)) (fun k _ _ => f k (by omega) (by omega)) (z_PI_4 h)) (z_dis_c (e 2 (by omega) (by omega)) (by omega) (fun k _ _ => e k (by omega) (by omega)) (fun k _ => e k (by omega) (by omega)) (z_PI_5 h)) (fun j hj => by rw [f _ (by omega) (by omega)]; exact z_PI_6 h j hj), fun j hj h8 => ?_, fun t ht h4 => ?_⟩
  · unfold f_X4_makeTrain
    rw [z_v, hn]
    rw [show zI ((0 : Nat) : Int) = zI 0 from rfl] at e1
    simp (disch := omega) only [z_lit, z_n, z_add, z_sub, z_mul, z_neg, z_lt1, z_lt0, z_le1, z_le0, z_eq1, z_eq0, z_10, ↓reduceIte, z_v, z_upd, z_ue, z_un, z_ixn, z_ixo, z_ix0, z_ix1, z_ix2, z_ix3, z_ix4, z_ix5, z_ix6, Int.reduceToNat, z_inr, z_gd, ↓z_bnd, ↓z_jn, z_bdc, z_bd2, z_opn, z_ops, z_z01, z_Bt, z_Bf] at e1 ⊢
    rw [e1, hs']
    simp (disch := omega) only [z_lit, z_n, z_add, z_sub, z_mul, z_neg, z_lt1, z_lt0, z_le1, z_le0, z_eq1, z_eq0, z_10, ↓reduceIte, z_v, z_upd, z_ue, z_un, z_ixn, z_ixo, z_ix0, z_ix1, z_ix2, z_ix3, z_ix4, z_ix5, z_ix6, Int.reduceToNat, z_inr, z_gd, ↓z_bnd, ↓z_jn, z_bdc, z_bd2, z_opn, z_ops, z_z01, z_Bt, z_Bf, u3, hn]
  · unfold z_cnt4
    rw [e 0 (by omega) (by omega), e 1 (by omega) (by omega), e 2 (by omega) (by omega), e 4 (by omega) (by omega), s3]
    omega
  · by_cases c : k = 3
    · rw [c, s3, g3]
    · rw [e k (by omega) c, f k (by omega) c]
      exact k0.2 k hk
  · by_cases c : i = n
    · subst c
      rw [d9]
      exact Or.inr rfl
    · rw [e _ (by omega) (by omega)]
      exact k3.1 i hi
  · rw [s3] at ht
    by_cases c : t = n
    · subst c
      refine ⟨?_, ?_⟩
      · unfold z_trn
        rw [d0, d1, d8, d9, d10, e 1 (by omega) (by omega)]
        refine ⟨hc, by omega, fun j hj => ?_, fun j hj => ?_, by omega, by omega, by omega⟩
        · rw [d2 j (by omega)]
          exact hr j (by omega)
        · rw [d2 j (by omega), d2 (j + 1) (by omega), tk]
          exact hl j (by omega)
      · unfold z_rtn z_tv
        rw [d0, d1, d8, d9, d10, d11, d12, d13, q0, q1, q8, q9, q10, q11, q12, q13]
        refine ⟨rfl, rfl, fun j hj => ?_, rfl, rfl, Or.inl ⟨rfl, rfl⟩, rfl, rfl, rfl⟩
        rw [d2 j (by omega), q2 j (by omega)]
    · obtain ⟨p1, p2⟩ := k3.2 t (by omega)
      exact ⟨z_trn_g (by rw [e 1 (by omega) (by omega)]; exact Int.le_refl _) (fun x y _ => tk x y) (fun k hk => e _ (by omega) (by omega)) p1, z_rtn_g (fun x y _ => tk x y) (fun k hk => e _ (by omega) (by omega)) c2.1 (fun k hk => e _ (by omega) (by omega)) (fun k hk => f _ (by omega) (by omega)) p1 p2⟩
  · rw [e 1 (by omega) (by omega)] at hj
    rw [f _ (by omega) (by omega)]
    exact z.1 j hj h8
  · rw [s3] at ht
    rw [f _ (by omega) (by omega), f _ (by omega) (by omega), f _ (by omega) (by omega), f _ (by omega) (by omega)]
    exact z.2 t (by omega) h4
end Pg
