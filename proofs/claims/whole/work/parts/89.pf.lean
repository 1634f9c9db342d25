/-! stations and tracks are laid -/
section Pf
variable {b : Int} {s s' g g' : Nat → Int}
def y_G1 (g : Nat → Int) (n : Nat) (m v : Int) : Nat → Int := zu (zu (zu g (7 + 4 * n) m) (7 + 4 * n + 1) v) 1 ((n : Int) + 1)
theorem y_mst (h : z_PI b s g) (z : y_z s g) {n : Nat} (hn : s 1 = n) (h1 : n < 8) {a' b' c' d' v : Int} (hl : z_ltr a' b' c' d') (hv : v = 0 ∨ v = 1) : ∃ s', f_X4_makeStation (zV s) (zI (z_pk a' b' c' d')) (zI v) = some (zV s') ∧ z_PI b s' (y_G1 g n (((a' * 27 + b') * 27 + c') * 27 + d') v) ∧ y_z s' (y_G1 g n (((a' * 27 + b') * 27 + c') * 27 + d') v) := by
  have k0 := z_PI_0 h
  have k1 := z_PI_1 h
  obtain ⟨c0, c1, c2, c3, c4⟩ := id k0.1
  obtain ⟨s', hs'⟩ : ∃ s', s' = zu (zu (zu (zu (zu s (7 + 4 * n) (z_pk a' b' c' d')) (7 + 4 * n + 1) v) (7 + 4 * n + 2) 0) (7 + 4 * n + 3) (-1)) 1 (s 1 + 1) := ⟨_, rfl⟩
  obtain ⟨g', hg'⟩ : ∃ g', g' = y_G1 g n (((a' * 27 + b') * 27 + c') * 27 + d') v := ⟨_, rfl⟩
  rw [← hg']
  have hG := hg'
  unfold y_G1 at hG
  have e : ∀ k, ¬ (7 + 4 * n ≤ k ∧ k < 7 + 4 * n + 4) → k ≠ 1 → s' k = s k := fun k h1 h2 => by
    rw [hs']
    simp (disch := omega) only [z_un]
  have f : ∀ k, ¬ (7 + 4 * n ≤ k ∧ k < 7 + 4 * n + 2) → k ≠ 1 → g' k = g k := fun k h1 h2 => by
    rw [hG]
    simp (disch := omega) only [z_un]
  have s1 : s' 1 = s 1 + 1 := by rw [hs', z_ue rfl]
  have g1 : g' 1 = s 1 + 1 := by rw [hG, z_ue rfl, hn]
  have d0 : s' (7 + 4 * n) = z_pk a' b' c' d' := by rw [hs']; simp (disch := omega) only [z_un, z_ue]
  have d1 : s' (7 + 4 * n + 1) = v := by rw [hs']; simp (disch := omega) only [z_un, z_ue]
  have d2 : s' (7 + 4 * n + 2) = 0 := by rw [hs']; simp (disch := omega) only [z_un, z_ue]
  have d3 : s' (7 + 4 * n + 3) = -1 := by rw [hs']; simp (disch := omega) only [z_un, z_ue]
  have q0 : g' (7 + 4 * n) = ((a' * 27 + b') * 27 + c') * 27 + d' := by rw [hG]; simp (disch := omega) only [z_un, z_ue]
  have q1 : g' (7 + 4 * n + 1) = v := by rw [hG]; simp (disch := omega) only [z_un, z_ue]
  have q2 : g' (7 + 4 * n + 2) = 0 := by rw [f _ (by omega) (by omega)]; exact z.1 n (by omega) h1
  refine ⟨s', ?_, z_PI_mk ⟨?_, fun k hk => ?_⟩ ⟨fun i h8 => ?_, fun i hi => ?_⟩ (z_k2_c k0 (by omega) (e 2 (by omega) (by omega)) (fun k _ _ => e k (by omega) (by omega)) (fun k _ _ => f k (by omega) (by omega)) (z_PI_2 h)) (z_k3_c k0 (by omega) (e 3 (by omega) (by omega)) (fun x y _ => z_tk_c (e 2 (by omega) (by omega)) (by omega) (fun k _ _ => e k (by omega) (by omega))) (fun k hk => e _ (by omega) (by omega)) (fun k _ _ => e k (by omega) (by omega)) (fun k _ _ => f k (by omega) (by omega)) (z_PI_3 h)) (z_k4_c k0 (e 0 (by omega) (by omega)) (by omega) (by rw [e 3 (by omega) (by omega)]; exact Int.le_refl _) (e 4 (by omega) (by omega)) (fun k _ _ => e k (by omega) (by omega)) (fun k _ _ => f k (by omega) (by omega)) (z_PI_4 h)) (z_dis_c (e 2 (by omega) (by omega)) (by omega) (fun k _ _ => e k (by omega) (by omega)) (fun k _ => e k (by omega) (by omega)) (z_PI_5 h)) (fun j hj => by rw [f _ (by omega) (by omega)]; exact z_PI_6 h j hj), fun j hj h8 => ?_, fun t ht h4 => ?_⟩
  · unfold f_X4_makeStation
    rw [hs']
    rw [z_v, hn]
    simp (disch := omega) only [z_lit, z_n, z_add, z_sub, z_mul, z_neg, z_lt1, z_lt0, z_le1, z_le0, z_eq1, z_eq0, z_10, ↓reduceIte, z_v, z_upd, z_ue, z_un, z_ixn, z_ixo, z_ix0, z_ix1, z_ix2, z_ix3, z_ix4, z_ix5, z_ix6, Int.reduceToNat, z_inr, z_gd, ↓z_bnd, ↓z_jn, z_bdc, z_bd2, z_opn, z_ops, z_z01, z_Bt, z_Bf, hn]
  · unfold z_cnt4
    rw [e 0 (by omega) (by omega), e 2 (by omega) (by omega), e 3 (by omega) (by omega), e 4 (by omega) (by omega), s1]
    omega
  · by_cases c : k = 1
    · rw [c, s1, g1]
    · rw [e k (by omega) c, f k (by omega) c]
      exact k0.2 k hk
  · by_cases c : i = n
    · rw [c, d1]
      exact hv
    · rw [e _ (by omega) (by omega)]
      exact k1.1 i h8
  · rw [s1] at hi
    by_cases c : i = n
    · subst c
      unfold z_stn
      rw [d0, d1, d2, d3, q0, q1, q2, e 0 (by omega) (by omega)]
      exact ⟨⟨⟨by omega, by omega⟩, by omega, by omega⟩, ⟨a', b', c', d', hl, rfl, rfl⟩, rfl, rfl⟩
    · have q := k1.2 i (by omega)
      unfold z_stn at q ⊢
      rw [e (7 + 4 * i) (by omega) (by omega), e (7 + 4 * i + 1) (by omega) (by omega), e (7 + 4 * i + 2) (by omega) (by omega), e (7 + 4 * i + 3) (by omega) (by omega), f (7 + 4 * i) (by omega) (by omega), f (7 + 4 * i + 1) (by omega) (by omega), f (7 + 4 * i + 2) (by omega) (by omega), e 0 (by omega) (by omega)]
      exact q
  · rw [s1] at hj
    rw [f _ (by omega) (by omega)]
    exact z.1 j (by omega) h8
  · rw [e 3 (by omega) (by omega)] at ht
    rw [f _ (by omega) (by omega), f _ (by omega) (by omega), f _ (by omega) (by omega), f _ (by omega) (by omega)]
    exact z.2 t ht h4
theorem y_ff_p {p : Nat → Bool} : ∀ d i k, z_ff p i d = some k → z_ff p i (d + 1) = some k
  | 0, i, k, h => by cases h
  | d + 1, i, k, h => by
    unfold z_ff at h ⊢
    by_cases hp : p i = true
    · rw [if_pos hp] at h ⊢
      exact h
    · rw [if_neg hp] at h ⊢
      exact y_ff_p d (i + 1) k h
def y_G2 (g : Nat → Int) (n : Nat) (i j w : Int) : Nat → Int := zu (zu (zu (zu (zu g (39 + 4 * n) i) (39 + 4 * n + 1) j) (39 + 4 * n + 2) w) (39 + 4 * n + 3) 1) 2 ((n : Int) + 1)
theorem y_mtk (h : z_PI b s g) (z : y_z s g) {n : Nat} (hn : s 2 = n) (h2 : n < 12) {i j w : Int} (hi : 0 ≤ i ∧ i < s 1) (hj : 0 ≤ j ∧ j < s 1) (hw : 1 ≤ w ∧ w ≤ 9) : ∃ s', f_X4_makeTrack (zV s) (zI i) (zI j) (zI w) = some (zV s') ∧ z_PI b s' (y_G2 g n i j w) ∧ y_z s' (y_G2 g n i j w) := by
  have k0 := z_PI_0 h
  have k2 := z_PI_2 h
  obtain ⟨c0, c1, c2, c3, c4⟩ := id k0.1
  obtain ⟨u, hu⟩ : ∃ u, u = zu (zu (zu (zu (zu s (39 + 4 * n) i) (39 + 4 * n + 1) j) (39 + 4 * n + 2) w) (39 + 4 * n + 3) 1) 2 (s 2 + 1) := ⟨_, rfl⟩
  obtain ⟨g', hg'⟩ : ∃ g', g' = y_G2 g n i j w := ⟨_, rfl⟩
  rw [← hg']
  have hG := hg'
  unfold y_G2 at hG
  have eu : ∀ k, ¬ (39 + 4 * n ≤ k ∧ k < 39 + 4 * n + 4) → k ≠ 2 → u k = s k := fun k h1 h2 => by
    rw [hu]
    simp (disch := omega) only [z_un]
  have f : ∀ k, ¬ (39 + 4 * n ≤ k ∧ k < 39 + 4 * n + 4) → k ≠ 2 → g' k = g k := fun k h1 h2 => by
    rw [hG]
    simp (disch := omega) only [z_un]
  have u2 : u 2 = s 2 + 1 := by rw [hu, z_ue rfl]
  have g2 : g' 2 = s 2 + 1 := by rw [hG, z_ue rfl, hn]
  have d0 : u (39 + 4 * n) = i := by rw [hu]; simp (disch := omega) only [z_un, z_ue]
  have d1 : u (39 + 4 * n + 1) = j := by rw [hu]; simp (disch := omega) only [z_un, z_ue]
  have d2 : u (39 + 4 * n + 2) = w := by rw [hu]; simp (disch := omega) only [z_un, z_ue]
  have d3 : u (39 + 4 * n + 3) = 1 := by rw [hu]; simp (disch := omega) only [z_un, z_ue]
  have q0 : g' (39 + 4 * n) = i := by rw [hG]; simp (disch := omega) only [z_un, z_ue]
  have q1 : g' (39 + 4 * n + 1) = j := by rw [hG]; simp (disch := omega) only [z_un, z_ue]
  have q2 : g' (39 + 4 * n + 2) = w := by rw [hG]; simp (disch := omega) only [z_un, z_ue]
  have q3 : g' (39 + 4 * n + 3) = 1 := by rw [hG]; simp (disch := omega) only [z_un, z_ue]
  have tru : ∀ k : Nat, (k : Int) < u 2 → z_trk u k := fun k hk => by
    rw [u2] at hk
    unfold z_trk
    rw [eu 1 (by omega) (by omega)]
    by_cases c : k = n
    · subst c
      rw [d0, d1, d2]
      exact ⟨hi, hj, hw⟩
    · rw [eu _ (by omega) (by omega), eu _ (by omega) (by omega), eu _ (by omega) (by omega)]
      exact (k2.2 k (by omega)).1
  have bou : ∀ k : Nat, k < 12 → z_bo (u (39 + 4 * k + 3)) := fun k hk => by
    by_cases c : k = n
    · subst c
      rw [d3]
      exact Or.inr rfl
    · rw [eu _ (by omega) (by omega)]
      exact k2.1 k hk
  obtain ⟨s', e1, e2, e3⟩ := z_Cme (s := u) (by rw [eu 1 (by omega) (by omega)]; exact c1) (by rw [u2]; omega) tru bou
  have e : ∀ k, k < 251 → ¬ (39 + 4 * n ≤ k ∧ k < 39 + 4 * n + 4) → k ≠ 2 → s' k = s k := fun k h0 h1 h2 => by rw [e2 k (by omega), eu k h1 h2]
  have s2 : s' 2 = s 2 + 1 := by rw [e2 2 (by omega), u2]
  have htk : ∀ x y, z_tk s x y ≠ none → z_tk s' x y = z_tk s x y := by
    intro x y hne
    obtain ⟨k, hk⟩ : ∃ k, z_tk s x y = some k := by
      cases q : z_tk s x y with
      | none => exact absurd q hne
      | some k => exact ⟨k, rfl⟩
    rw [hk]
    unfold z_tk at hk ⊢
    rw [s2, show (s 2 + 1).toNat = (s 2).toNat + 1 by omega]
    apply y_ff_p
    rw [← hk]
    refine z_ff_c _ _ (fun m _ hm => ?_)
    unfold z_cn
    rw [e _ (by omega) (by omega) (by omega), e _ (by omega) (by omega) (by omega)]
  refine ⟨s', ?_, z_PI_mk ⟨?_, fun k hk => ?_⟩ (z_k1_c k0 (e 0 (by omega) (by omega) (by omega)) (e 1 (by omega) (by omega) (by omega)) (fun k _ _ => e k (by omega) (by omega) (by omega)) (fun k _ _ => f k (by omega) (by omega)) (z_PI_1 h)) ⟨fun k hk => by rw [e2 _ (by omega)]; exact bou k hk, fun k hk => ?_⟩ (z_k3_c k0 (by rw [e 1 (by omega) (by omega) (by omega)]; exact Int.le_refl _) (e 3 (by omega) (by omega) (by omega)) htk (fun k hk => e _ (by omega) (by omega) (by omega)) (fun k _ _ => e k (by omega) (by omega) (by omega)) (fun k _ _ => f k (by omega) (by omega)) (z_PI_3 h)) (z_k4_c k0 (e 0 (by omega) (by omega) (by omega)) (by rw [e 1 (by omega) (by omega) (by omega)]; exact Int.le_refl _) (by rw [e 3 (by omega) (by omega) (by omega)]; exact Int.le_refl _) (e 4 (by omega) (by omega) (by omega)) (fun k _ _ => e k (by omega) (by omega) (by omega)) (fun k _ _ => f k (by omega) (by omega)) (z_PI_4 h)) e3 (fun j hj => by rw [f _ (by omega) (by omega)]; exact z_PI_6 h j hj), fun j hj h8 => ?_, fun t ht h4 => ?_⟩
  · unfold f_X4_makeTrack
    rw [hu] at e1
    rw [z_v, hn]
    rw [hn] at e1
    simp (disch := omega) only [z_lit, z_n, z_add, z_sub, z_mul, z_neg, z_lt1, z_lt0, z_le1, z_le0, z_eq1, z_eq0, z_10, ↓reduceIte, z_v, z_upd, z_ue, z_un, z_ixn, z_ixo, z_ix0, z_ix1, z_ix2, z_ix3, z_ix4, z_ix5, z_ix6, Int.reduceToNat, z_inr, z_gd, ↓z_bnd, ↓z_jn, z_bdc, z_bd2, z_opn, z_ops, z_z01, z_Bt, z_Bf, hn, e1]
  · unfold z_cnt4
    rw [e 0 (by omega) (by omega) (by omega), e 1 (by omega) (by omega) (by omega), e 3 (by omega) (by omega) (by omega), e 4 (by omega) (by omega) (by omega), s2]
    omega
  · by_cases c : k = 2
    · rw [c, s2, g2]
    · rw [e k (by omega) (by omega) c, f k (by omega) c]
      exact k0.2 k hk
  · rw [s2] at hk
    refine ⟨?_, fun m hm => ?_⟩
    · have := tru k (by rw [u2]; exact hk)
      unfold z_trk at this ⊢
      rw [e2 1 (by omega), e2 _ (by omega), e2 _ (by omega), e2 _ (by omega)]
      exact this
    · rw [e2 _ (by omega)]
      by_cases c : k = n
      · subst c
        have hm4 : m = 0 ∨ m = 1 ∨ m = 2 ∨ m = 3 := by omega
        rcases hm4 with r | r | r | r <;> subst r
        · rw [Nat.add_zero, q0, d0]
        · rw [q1, d1]
        · rw [q2, d2]
        · rw [q3, d3]
      · rw [f _ (by omega) (by omega), eu _ (by omega) (by omega)]
        exact (k2.2 k (by omega)).2 m hm
  · rw [e 1 (by omega) (by omega) (by omega)] at hj
    rw [f _ (by omega) (by omega)]
    exact z.1 j hj h8
  · rw [e 3 (by omega) (by omega) (by omega)] at ht
    rw [f _ (by omega) (by omega), f _ (by omega) (by omega), f _ (by omega) (by omega), f _ (by omega) (by omega)]
    exact z.2 t ht h4
end Pf
