/-! what differs at one train and at the stations' stops alone -/
def z_ft (t : Nat) (s s' : Nat → Int) : Prop := ∀ k, (k < 39 → ∀ i, k ≠ 7 + 4 * i + 3) → ¬ (87 + 14 * t + 8 ≤ k ∧ k < 87 + 14 * t + 14) → s' k = s k
section Frm
variable {b : Int} {s s' g g' : Nat → Int}
theorem z_cn_sym {x y : Int} {k : Nat} : z_cn s x y k = z_cn s y x k := by
  unfold z_cn
  by_cases c : (s (39 + 4 * k) = x ∧ s (39 + 4 * k + 1) = y) ∨ (s (39 + 4 * k) = y ∧ s (39 + 4 * k + 1) = x)
  · rw [decide_eq_true c, decide_eq_true (by omega)]
  · rw [decide_eq_false c, decide_eq_false (by omega)]
theorem z_tk_sym {x y : Int} : z_tk s x y = z_tk s y x := by
  unfold z_tk
  exact z_ff_c _ _ (fun j _ _ => z_cn_sym)
/-- the track ahead of a train -/
theorem z_tk_ah (h : z_inv b s) {t : Nat} (ht : (t : Int) < s 3) : ∃ k, z_tk s (z_cu s t) (z_nx s t) = some k ∧ (k : Int) < s 2 := by
  obtain ⟨a0, a1, a2, a3, a4, a5, a6⟩ := h.2.2.2.2.1 t ht
  have h3 := h.1.2.2.2.1
  have d := h.2.1.2.2 t (by omega)
  have key : z_tk s (z_cu s t) (z_nx s t) ≠ none := by
    rcases d with d | d
    · have q := a3 (s (87 + 14 * t + 8) - 1).toNat (by omega)
      rw [z_tk_sym]
      unfold z_cu z_nx z_sp
      rw [show (s (87 + 14 * t + 8) + (2 * s (87 + 14 * t + 9) - 1)).toNat = (s (87 + 14 * t + 8) - 1).toNat by omega, show (s (87 + 14 * t + 8)).toNat = (s (87 + 14 * t + 8) - 1).toNat + 1 by omega]
      exact q
    · have q := a3 (s (87 + 14 * t + 8)).toNat (by omega)
      unfold z_cu z_nx z_sp
      rw [show (s (87 + 14 * t + 8) + (2 * s (87 + 14 * t + 9) - 1)).toNat = (s (87 + 14 * t + 8)).toNat + 1 by omega]
      exact q
  cases e : z_tk s (z_cu s t) (z_nx s t) with
  | none => exact absurd e key
  | some k =>
    refine ⟨k, rfl, ?_⟩
    have := (z_ff_s _ _ _ e).2.1
    omega
theorem z_ft_lo {t : Nat} (e : z_ft t s s') {k : Nat} (hk : (k < 7 ∨ (39 ≤ k ∧ k < 87) ∨ 143 ≤ k)) (ht : t < 4) : s' k = s k := e k (fun _ i => by omega) (by omega)
theorem z_ft_st {t : Nat} (e : z_ft t s s') {i j : Nat} (hj : j < 3) : s' (7 + 4 * i + j) = s (7 + 4 * i + j) ∨ 8 ≤ i := by
  by_cases c : i < 8
  · exact Or.inl (e _ (fun _ i => by omega) (by omega))
  · exact Or.inr (by omega)
theorem z_ft_tn {t t' : Nat} (e : z_ft t s s') (hne : t' ≠ t) {k : Nat} (hk : k < 14) : s' (87 + 14 * t' + k) = s (87 + 14 * t' + k) := e _ (fun _ i => by omega) (by omega)
theorem z_ft_t8 {t : Nat} (e : z_ft t s s') {k : Nat} (hk : k < 8) : s' (87 + 14 * t + k) = s (87 + 14 * t + k) := e _ (fun _ i => by omega) (by omega)
theorem z_inv_ft (h : z_inv b s) {t : Nat} (e : z_ft t s s') (ht : (t : Int) < s 3) (hd : z_bo (s' (87 + 14 * t + 9))) (hs : ∀ i : Nat, i < 8 → (i : Int) < s 1 → -1 ≤ s' (7 + 4 * i + 3) ∧ s' (7 + 4 * i + 3) ≤ s 0) (hp : 0 ≤ s' (87 + 14 * t + 8) ∧ s' (87 + 14 * t + 8) < s (87 + 14 * t + 1)) (hq : 0 ≤ s' (87 + 14 * t + 8) + (2 * s' (87 + 14 * t + 9) - 1) ∧ s' (87 + 14 * t + 8) + (2 * s' (87 + 14 * t + 9) - 1) < s (87 + 14 * t + 1)) (hl : 0 ≤ s' (87 + 14 * t + 10) ∧ s' (87 + 14 * t + 10) ≤ 9) : z_inv b s' := by
  obtain ⟨h0, ⟨b1, b2, b3⟩, a1, a2, a3, a4, a5⟩ := h
  obtain ⟨c0, c1, c2, c3, c4⟩ := id h0
  have t4 : t < 4 := by omega
  have lo : ∀ k, (k < 7 ∨ (39 ≤ k ∧ k < 87) ∨ 143 ≤ k) → s' k = s k := fun k hk => z_ft_lo e hk t4
  have st : ∀ i j : Nat, i < 8 → j < 3 → s' (7 + 4 * i + j) = s (7 + 4 * i + j) := fun i j hi hj => (z_ft_st e hj).resolve_right (by omega)
  refine ⟨?_, ⟨fun i hi => ?_, fun i hi => ?_, fun i hi => ?_⟩, fun i hi => ?_, fun k hk => ?_, fun t' ht' => ?_, fun i hi => ?_, ?_⟩
  · unfold z_cnt4
    rw [lo 0 (by omega), lo 1 (by omega), lo 2 (by omega), lo 3 (by omega), lo 4 (by omega)]
    exact h0
  · rw [st i 1 hi (by omega)]
    exact b1 i hi
  · rw [lo _ (by omega)]
    exact b2 i hi
  · by_cases c : i = t
    · rw [c]
      exact hd
    · rw [z_ft_tn e c (by omega)]
      exact b3 i hi
  · rw [lo 1 (by omega)] at hi
    have := (a1 i hi).1
    unfold z_stn
    rw [st i 2 (by omega) (by omega), lo 0 (by omega)]
    exact ⟨this, hs i (by omega) hi⟩
  · rw [lo 2 (by omega)] at hk
    have := a2 k hk
    unfold z_trk at this ⊢
    rw [lo _ (by omega), lo _ (by omega), lo _ (by omega), lo _ (by omega)]
    exact this
  · rw [lo 3 (by omega)] at ht'
    by_cases c : t' = t
    · subst c
      obtain ⟨x0, x1, x2, x3, x4, x5, x6⟩ := a3 t' ht'
      have e0 := z_ft_t8 e (k := 0) (by omega)
      simp only [Nat.add_zero] at e0
      have es : ∀ j : Nat, j < 6 → s' (87 + 14 * t' + 2 + j) = s (87 + 14 * t' + 2 + j) := fun j hj => by
        have := z_ft_t8 e (k := 2 + j) (by omega)
        rw [← Nat.add_assoc] at this
        exact this
      unfold z_trn
      rw [e0, z_ft_t8 e (k := 1) (by omega), lo 1 (by omega)]
      refine ⟨x0, x1, fun j hj => ?_, fun j hj => ?_, hp, hq, hl⟩
      · rw [es j (by omega)]
        exact x2 j hj
      · rw [es j (by omega), es (j + 1) (by omega), z_tk_c (lo 2 (by omega)) (by omega) (fun k h1 h2 => lo k (by omega))]
        exact x3 j hj
    · exact z_trn_c (lo 1 (by omega)) (lo 2 (by omega)) (by omega) (fun k h1 h2 => lo k (by omega)) (fun k hk => z_ft_tn e c (by omega)) (a3 t' ht')
  · rw [lo 4 (by omega)] at hi
    have := a4 i hi
    unfold z_pcl at this ⊢
    rw [lo (143 + 9 * i) (by omega), lo (143 + 9 * i + 1) (by omega), lo (143 + 9 * i + 2) (by omega), lo (143 + 9 * i + 3) (by omega), lo (143 + 9 * i + 4) (by omega), lo (143 + 9 * i + 5) (by omega), lo (143 + 9 * i + 7) (by omega), lo (143 + 9 * i + 8) (by omega), lo 0 (by omega), lo 1 (by omega), lo 3 (by omega)]
    exact this
  · exact z_dis_c (lo 2 (by omega)) (by omega) (fun k h1 h2 => lo k (by omega)) (fun k hk => lo k (by omega)) a5
/-- another train's part of the relation -/
theorem z_rtn_c (h : z_inv b s) {t' : Nat} (ht' : (t' : Int) < s 3) (h2 : s' 2 = s 2) (ek : ∀ k, 39 ≤ k → k < 87 → s' k = s k) (et : ∀ k, k < 14 → s' (87 + 14 * t' + k) = s (87 + 14 * t' + k)) (eg : ∀ k, k < 14 → g' (87 + 14 * t' + k) = g (87 + 14 * t' + k)) (r : z_rtn s g t') : z_rtn s' g' t' := by
  obtain ⟨x0, x1, x2, x3, x4, x5, x6, x7, x8⟩ := r
  have tn := h.2.2.2.2.1 t' ht'
  have tl := tn.2.1
  have n2 := h.1.2.2.1
  have e0 := et 0 (by omega)
  have f0 := eg 0 (by omega)
  simp only [Nat.add_zero] at e0 f0
  have es : ∀ j : Nat, j < 6 → s' (87 + 14 * t' + 2 + j) = s (87 + 14 * t' + 2 + j) := fun j hj => by
    have := et (2 + j) (by omega)
    rw [← Nat.add_assoc] at this
    exact this
  have fs : ∀ j : Nat, j < 6 → g' (87 + 14 * t' + 2 + j) = g (87 + 14 * t' + 2 + j) := fun j hj => by
    have := eg (2 + j) (by omega)
    rw [← Nat.add_assoc] at this
    exact this
  unfold z_rtn
  rw [e0, f0, et 1 (by omega), eg 1 (by omega), et 8 (by omega), eg 8 (by omega), et 9 (by omega), eg 9 (by omega), et 11 (by omega), eg 11 (by omega), et 12 (by omega), eg 12 (by omega), et 13 (by omega), eg 13 (by omega)]
  refine ⟨x0, x1, fun j hj => by rw [es j (by omega), fs j (by omega)]; exact x2 j hj, x3, x4, ?_, x6, x7, x8⟩
  unfold z_tv at x5 ⊢
  rw [z_cu_c tn (fun k hk => et k (by omega)), z_nx_c tn (fun k hk => et k (by omega)), z_tk_c h2 (by omega) ek, et 10 (by omega), eg 10 (by omega)]
  rcases x5 with q | ⟨q1, q2, k, q3, q4⟩
  · exact Or.inl q
  · refine Or.inr ⟨q1, q2, k, q3, ?_⟩
    have := z_ff_s _ _ _ q3
    rw [ek _ (by omega) (by omega)]
    exact q4
theorem z_rel_ft (h : z_inv b s) (r : z_rel s g) {t : Nat} (e : z_ft t s s') (eg : ∀ k, k < 251 → (k < 39 → ∀ i, k ≠ 7 + 4 * i + 3) → ¬ (87 + 14 * t + 8 ≤ k ∧ k < 87 + 14 * t + 14) → g' k = g k) (ht : (t : Int) < s 3) (h8 : g' (87 + 14 * t + 8) = s' (87 + 14 * t + 8)) (h9 : g' (87 + 14 * t + 9) = 2 * s' (87 + 14 * t + 9) - 1) (hv : z_tv s' g' t) (h11 : g' (87 + 14 * t + 11) = s' (87 + 14 * t + 11)) (h12 : g' (87 + 14 * t + 12) = s' (87 + 14 * t + 12)) (h13 : g' (87 + 14 * t + 13) = s' (87 + 14 * t + 13)) : z_rel s' g' := by
  obtain ⟨r0, r1, r2, r3, r4⟩ := r
  obtain ⟨⟨c0, c1, c2, c3, c4⟩, -, -, -, hn, -, -⟩ := id h
  have t4 : t < 4 := by omega
  have lo : ∀ k, (k < 7 ∨ (39 ≤ k ∧ k < 87) ∨ 143 ≤ k) → s' k = s k := fun k hk => z_ft_lo e hk t4
  have lg : ∀ k, k < 251 → (k < 7 ∨ (39 ≤ k ∧ k < 87) ∨ 143 ≤ k) → g' k = g k := fun k hk h => eg k hk (fun _ i => by omega) (by omega)
  have st : ∀ i j : Nat, i < 8 → j < 3 → s' (7 + 4 * i + j) = s (7 + 4 * i + j) := fun i j hi hj => (z_ft_st e hj).resolve_right (by omega)
  have sg : ∀ i j : Nat, i < 8 → j < 3 → g' (7 + 4 * i + j) = g (7 + 4 * i + j) := fun i j hi hj => eg _ (by omega) (fun _ k => by omega) (by omega)
  refine ⟨fun k hk => ?_, fun i hi => ?_, fun k hk j hj => ?_, fun t' ht' => ?_, fun i hi j hj => ?_⟩
  · rw [lo k (by omega), lg k (by omega) (by omega)]
    exact r0 k hk
  · rw [lo 1 (by omega)] at hi
    have s0 := st i 0 (by omega) (by omega)
    have g0 := sg i 0 (by omega) (by omega)
    simp only [Nat.add_zero] at s0 g0
    rw [s0, g0, st i 1 (by omega) (by omega), st i 2 (by omega) (by omega), sg i 1 (by omega) (by omega), sg i 2 (by omega) (by omega)]
    exact r1 i hi
  · rw [lo 2 (by omega)] at hk
    rw [lo _ (by omega), lg _ (by omega) (by omega)]
    exact r2 k hk j hj
  · rw [lo 3 (by omega)] at ht'
    by_cases c : t' = t
    · subst c
      obtain ⟨x0, x1, x2, x3, x4, x5, x6, x7, x8⟩ := r3 t' ht'
      have tl := (hn t' ht').2.1
      have e0 := z_ft_t8 e (k := 0) (by omega)
      have f0 := eg (87 + 14 * t') (by omega) (fun _ i => by omega) (by omega)
      simp only [Nat.add_zero] at e0
      have es : ∀ j : Nat, j < 6 → s' (87 + 14 * t' + 2 + j) = s (87 + 14 * t' + 2 + j) := fun j hj => by
        have := z_ft_t8 e (k := 2 + j) (by omega)
        rw [← Nat.add_assoc] at this
        exact this
      refine ⟨by rw [e0, f0]; exact x0, by rw [z_ft_t8 e (k := 1) (by omega), eg _ (by omega) (fun _ i => by omega) (by omega)]; exact x1, fun j hj => ?_, h8, h9, hv, h11, h12, h13⟩
      rw [z_ft_t8 e (k := 1) (by omega)] at hj
      rw [es j (by omega), eg _ (by omega) (fun _ i => by omega) (by omega)]
      exact x2 j hj
    · exact z_rtn_c h ht' (lo 2 (by omega)) (fun k h1 h2 => lo k (by omega)) (fun k hk => z_ft_tn e c hk) (fun k hk => eg _ (by omega) (fun _ i => by omega) (by omega)) (r3 t' ht')
  · rw [lo 4 (by omega)] at hi
    rw [lo _ (by omega), lg _ (by omega) (by omega)]
    exact r4 i hi j hj
end Frm
