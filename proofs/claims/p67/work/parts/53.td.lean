/-! one parcel is loaded; loadTrain and loadAll side by side -/
def z_ld (s : Nat → Int) (t w : Nat) (d : Int) : Nat → Int := zu (zu (zu (zu s (143 + 9 * w + 3) (-1)) (143 + 9 * w + 4) t) (143 + 9 * w + 5) d) 5 (s 5 + 1)
section Ldt
variable {b : Int} {s s' g g' : Nat → Int}
theorem z_j9 {j : Nat} (h : j < 9) : j = 0 ∨ j = 1 ∨ j = 2 ∨ j = 3 ∨ j = 4 ∨ j = 5 ∨ j = 6 ∨ j = 7 ∨ j = 8 := by omega
theorem z_ld_fr {t w : Nat} {d : Int} (hw : w < 12) : z_fr s (z_ld s t w d) := by
  intro k hk
  unfold z_ld
  rw [z_un (by omega), z_un (by omega), z_un (by omega), z_un (by omega)]
theorem z_ld_o {t w k : Nat} {d : Int} (h3 : k ≠ 143 + 9 * w + 3) (h4 : k ≠ 143 + 9 * w + 4) (h5 : k ≠ 143 + 9 * w + 5) (h6 : k ≠ 5) : z_ld s t w d k = s k := by
  unfold z_ld
  rw [z_un h6, z_un h5, z_un h4, z_un h3]
theorem z_ld_3 {t w : Nat} {d : Int} : z_ld s t w d (143 + 9 * w + 3) = -1 := by
  unfold z_ld
  rw [z_un (by omega), z_un (by omega), z_un (by omega), z_ue rfl]
theorem z_ld_4 {t w : Nat} {d : Int} : z_ld s t w d (143 + 9 * w + 4) = t := by
  unfold z_ld
  rw [z_un (by omega), z_un (by omega), z_ue rfl]
theorem z_ld_5 {t w : Nat} {d : Int} : z_ld s t w d (143 + 9 * w + 5) = d := by
  unfold z_ld
  rw [z_un (by omega), z_ue rfl]
theorem z_ld_c5 {t w : Nat} {d : Int} : z_ld s t w d 5 = s 5 + 1 := by
  unfold z_ld
  rw [z_ue rfl]
theorem z_ld_inv (h : z_inv b s) {t w : Nat} {d : Int} (ht : (t : Int) < s 3) (hw : (w : Int) < s 4) (hd : -1 ≤ d ∧ d < s 1) (hs : s (143 + 9 * w + 3) ≠ -1) : z_inv b (z_ld s t w d) := by
  have h4 := h.1.2.2.2.2
  refine z_inv_fr h (z_ld_fr (by omega)) (fun i hi => ?_)
  have p := h.2.2.2.2.2.1 i hi
  have c1 : z_ld s t w d 1 = s 1 := z_ld_o (by omega) (by omega) (by omega) (by omega)
  have c3 : z_ld s t w d 3 = s 3 := z_ld_o (by omega) (by omega) (by omega) (by omega)
  have c0 : z_ld s t w d 0 = s 0 := z_ld_o (by omega) (by omega) (by omega) (by omega)
  unfold z_pcl at p ⊢
  rw [c0, c1, c3]
  by_cases e : i = w
  · subst e
    rw [z_ld_3, z_ld_4, z_ld_5, z_ld_o (k := 143 + 9 * i) (by omega) (by omega) (by omega) (by omega), z_ld_o (k := 143 + 9 * i + 1) (by omega) (by omega) (by omega) (by omega), z_ld_o (k := 143 + 9 * i + 2) (by omega) (by omega) (by omega) (by omega), z_ld_o (k := 143 + 9 * i + 7) (by omega) (by omega) (by omega) (by omega), z_ld_o (k := 143 + 9 * i + 8) (by omega) (by omega) (by omega) (by omega)]
    obtain ⟨p0, p1, p2, p3, p4, p5, p7, p8, p9⟩ := p
    refine ⟨p0, p1, p2, by omega, by omega, by omega, p7, p8, ?_⟩
    rcases p9 with q | q | q
    · exact Or.inr (Or.inl ⟨rfl, by omega, q.2.2.1⟩)
    · exact absurd q.1 hs
    · exact absurd q.1 hs
  · rw [z_ld_o (k := 143 + 9 * i) (by omega) (by omega) (by omega) (by omega), z_ld_o (k := 143 + 9 * i + 1) (by omega) (by omega) (by omega) (by omega), z_ld_o (k := 143 + 9 * i + 2) (by omega) (by omega) (by omega) (by omega), z_ld_o (k := 143 + 9 * i + 3) (by omega) (by omega) (by omega) (by omega), z_ld_o (k := 143 + 9 * i + 4) (by omega) (by omega) (by omega) (by omega), z_ld_o (k := 143 + 9 * i + 5) (by omega) (by omega) (by omega) (by omega), z_ld_o (k := 143 + 9 * i + 7) (by omega) (by omega) (by omega) (by omega), z_ld_o (k := 143 + 9 * i + 8) (by omega) (by omega) (by omega) (by omega)]
    exact p
/-- the reference's loading of one parcel -/
def z_lg (g : Nat → Int) (t w : Nat) (d : Int) : Nat → Int := zu (zu (zu (zu g (143 + 9 * w + 5) d) (143 + 9 * w + 3) (-1)) (143 + 9 * w + 4) t) 5 (g 5 + 1)
theorem z_lg_ld {t w : Nat} {d : Int} (hw : w < 12) : z_lg g t w d = z_ld g t w d := by
  funext k
  unfold z_lg z_ld zu
  by_cases c1 : k = 5
  · rw [if_pos c1, if_pos c1]
  · rw [if_neg c1, if_neg c1]
    by_cases c2 : k = 143 + 9 * w + 4
    · rw [if_pos c2, if_neg (by omega), if_pos c2]
    · rw [if_neg c2]
      by_cases c3 : k = 143 + 9 * w + 3
      · rw [if_pos c3, if_neg (by omega), if_neg c2, if_pos c3]
      · rw [if_neg c3, if_neg c2]
        rw [if_neg c3]
theorem z_ld_rel (h : z_inv b s) (r : z_rel s g) {t w : Nat} {d : Int} (hw : (w : Int) < s 4) : z_rel (z_ld s t w d) (z_ld g t w d) := by
  have h4 := h.1.2.2.2.2
  refine z_rel_fr h r (z_ld_fr (by omega)) (fun k hk => z_ld_o (by omega) (by omega) (by omega) (by omega)) ?_ ?_ (fun i hi j hj => ?_)
  · rw [z_ld_c5, z_ld_c5, r.1 5 (by omega)]
  · rw [z_ld_o (by omega) (by omega) (by omega) (by omega), z_ld_o (by omega) (by omega) (by omega) (by omega), r.1 6 (by omega)]
  · have q := r.2.2.2.2 i hi j hj
    by_cases e : i = w
    · subst e
      by_cases c3 : j = 3
      · subst c3
        rw [z_ld_3, z_ld_3]
      · by_cases c4 : j = 4
        · subst c4
          rw [z_ld_4, z_ld_4]
        · by_cases c5 : j = 5
          · subst c5
            rw [z_ld_5, z_ld_5]
          · rw [z_ld_o (by omega) (by omega) (by omega) (by omega), z_ld_o (by omega) (by omega) (by omega) (by omega)]
            exact q
    · rw [z_ld_o (by omega) (by omega) (by omega) (by omega), z_ld_o (by omega) (by omega) (by omega) (by omega)]
      exact q
theorem z_ld_cr (h : z_inv b s) {t w : Nat} {d : Int} (hw : (w : Int) < s 4) (hs : s (143 + 9 * w + 3) ≠ -1) : z_cr (z_ld s t w d) t = z_cr s t + 1 := by
  have h4 := h.1.2.2.2.2
  have p := (h.2.2.2.2.2.1 w hw).2.2.2.2.2.2.2.2
  unfold z_cr z_np
  rw [show z_ld s t w d 4 = s 4 from z_ld_o (by omega) (by omega) (by omega) (by omega)]
  refine z_ct_up (w := w) _ _ (by omega) (by omega) (fun j _ hj hne => ?_) ?_ ?_
  · unfold z_ca
    rw [z_ld_o (by omega) (by omega) (by omega) (by omega)]
  · unfold z_ca
    exact decide_eq_false (by omega)
  · unfold z_ca
    rw [z_ld_4]
    exact decide_eq_true rfl
theorem z_ld_wt {t w k : Nat} {d x : Int} (hx : x ≠ -1) : z_wt (z_ld s t w d) x k = (z_wt s x k && decide (k ≠ w)) := by
  unfold z_wt
  by_cases e : k = w
  · subst e
    rw [z_ld_3, decide_eq_false (fun q => hx q.symm), decide_eq_false (p := k ≠ k) (fun q => q rfl), Bool.and_false]
  · rw [z_ld_o (by omega) (by omega) (by omega) (by omega), decide_eq_true (p := k ≠ w) e, Bool.and_true]
theorem z_ld_bf {t w i j : Nat} {d : Int} : z_bf (z_ld s t w d) i j = z_bf s i j := by
  unfold z_bf
  rw [z_ld_o (by omega) (by omega) (by omega) (by omega), z_ld_o (k := 143 + 9 * i + 2) (by omega) (by omega) (by omega) (by omega)]
theorem z_ld_he {t w i : Nat} {d : Int} : z_he (z_ld s t w d) i = z_he s i := by
  unfold z_he
  rw [z_ld_o (by omega) (by omega) (by omega) (by omega), z_ld_o (k := 143 + 9 * i + 7) (by omega) (by omega) (by omega) (by omega)]
theorem z_ld_cu (h : z_inv b s) {t t' w : Nat} {d : Int} (ht : (t' : Int) < s 3) : z_cu (z_ld s t w d) t' = z_cu s t' := by
  have h3 := h.1.2.2.2.1
  exact z_cu_c (h.2.2.2.2.1 t' ht) (fun k hk => z_ld_o (by omega) (by omega) (by omega) (by omega))
theorem z_ld_dp (h : z_inv b s) {t t' w : Nat} {d y : Int} (ht : (t' : Int) < s 3) (hw : w < 12) : z_dp (z_ld s t w d) t' y = z_dp s t' y := by
  have h3 := h.1.2.2.2.1
  exact z_dp_c (h.2.2.2.2.1 t' ht) (fun k hk => z_ld_o (by omega) (by omega) (by omega) (by omega)) (fun k hk => z_ld_o (by omega) (by omega) (by omega) (by omega))
theorem z_ld_cl (h : z_inv b s) {t w k : Nat} {d : Int} (ht : (t : Int) < s 3) (hw : w < 12) : z_cl (z_ld s t w d) t k = (z_cl s t k && decide (k ≠ w)) := by
  have cu := z_cub h ht
  unfold z_cl
  rw [z_ld_cu h ht, z_ld_wt (by omega), z_ld_he, z_ld_dp h ht hw, z_ld_o (by omega) (by omega) (by omega) (by omega)]
  cases z_wt s (z_cu s t) k <;> cases z_he s k <;> cases decide (k ≠ w) <;> simp
/-- the class's turn of loadTrain that loads w -/
theorem z_Clt (h : z_inv b s) {t w N : Nat} {c : Int} (ht : (t : Int) < s 3) (hw : (w : Int) < s 4) (hc : 0 ≤ c ∧ c < 4) (hf : f_X4_findNextToLoad (zV s) t = some (some w)) : l_X4_loadTrain_2 t (N + 1) (zV s) (zI c) = l_X4_loadTrain_2 t N (zV (z_ld s t w (z_dp s t (s (143 + 9 * w + 1))))) (zI (c + 1)) := by
  have h4 := h.1.2.2.2.2
  have h1 := h.1.2.1
  have p1 := (h.2.2.2.2.2.1 w hw).2.1
  rw [l_X4_loadTrain_2]
  unfold f_X2_board
  simp (disch := omega) only [z_lit, z_n, z_add, z_sub, z_mul, z_neg, z_ltT, z_ltF, z_leT, z_leF, z_eqT, z_eqF, z_v, z_upd, z_ue, z_un, z_ixn, z_ixo, z_ix0, z_ix1, z_ix2, z_ix3, z_ix4, z_ix5, z_ix6, Int.reduceToNat, z_inr, z_gd, z_bnd, z_jn, z_bdc, z_bd2, z_opn, z_ops, z_z01, if_true, if_false, Bool.false_eq_true, hf, z_blt, z_Cdp h ht (y := s (143 + 9 * w + 1)) (by omega)]
  rfl
theorem z_Cle {t M : Nat} {c : Int} (hc : 0 ≤ c ∧ c ≤ 4) (hf : f_X4_findNextToLoad (zV s) t = some none) : l_X4_loadTrain_2 t (M + 1) (zV s) (zI c) = some (zV s) := by
  rw [l_X4_loadTrain_2]
  by_cases q : c = 4
  · simp (disch := omega) only [z_lit, z_n, z_add, z_sub, z_mul, z_neg, z_ltT, z_ltF, z_leT, z_leF, z_eqT, z_eqF, z_v, z_upd, z_ue, z_un, z_ixn, z_ixo, z_ix0, z_ix1, z_ix2, z_ix3, z_ix4, z_ix5, z_ix6, Int.reduceToNat, z_inr, z_gd, z_bnd, z_jn, z_bdc, z_bd2, z_opn, z_ops, z_z01, if_true, if_false, Bool.false_eq_true]
  · simp (disch := omega) only [z_lit, z_n, z_add, z_sub, z_mul, z_neg, z_ltT, z_ltF, z_leT, z_leF, z_eqT, z_eqF, z_v, z_upd, z_ue, z_un, z_ixn, z_ixo, z_ix0, z_ix1, z_ix2, z_ix3, z_ix4, z_ix5, z_ix6, Int.reduceToNat, z_inr, z_gd, z_bnd, z_jn, z_bdc, z_bd2, z_opn, z_ops, z_z01, if_true, if_false, Bool.false_eq_true, hf]
end Ldt
/-! what differs at one train and at the stations' stops alone -/
def z_ft (t : Nat) (s s' : Nat → Int) : Prop := ∀ k, (k < 39 → ∀ i, k ≠ 7 + 4 * i + 3) → ¬ (87 + 14 * t + 8 ≤ k ∧ k < 87 + 14 * t + 14) → s' k = s k
section Frm
variable {b : Int} {s s' g g' : Nat → Int}
theorem z_cn_sym {x y : Int} {k : Nat} : z_cn s x y k = z_cn s y x k := by
  unfold z_cn
  by_cases c : (s (39 + 4 * k) = x ∧ s (39 + 4 * k + 1) = y) ∨ (s (39 + 4 * k) = y ∧ s (39 + 4 * k + 1) = x)
  · rw [decide_eq_true c, decide_eq_true (by omega)]
  · rw [decide_eq_false c, decide_eq_false (by omega)]
theorem z_tk_sym {x y : Int} : z_tk s x y = z_tk s y x := by
  unfold z_tk
  exact z_ff_c _ _ (fun j _ _ => z_cn_sym)
/-- the track ahead of a train -/
theorem z_tk_ah (h : z_inv b s) {t : Nat} (ht : (t : Int) < s 3) : ∃ k, z_tk s (z_cu s t) (z_nx s t) = some k ∧ (k : Int) < s 2 := by
  obtain ⟨a0, a1, a2, a3, a4, a5, a6⟩ := h.2.2.2.2.1 t ht
  have h3 := h.1.2.2.2.1
  have d := h.2.1.2.2 t (by omega)
  have key : z_tk s (z_cu s t) (z_nx s t) ≠ none := by
    rcases d with d | d
    · have q := a3 (s (87 + 14 * t + 8) - 1).toNat (by omega)
      rw [z_tk_sym]
      unfold z_cu z_nx z_sp
      rw [show (s (87 + 14 * t + 8) + (2 * s (87 + 14 * t + 9) - 1)).toNat = (s (87 + 14 * t + 8) - 1).toNat by omega, show (s (87 + 14 * t + 8)).toNat = (s (87 + 14 * t + 8) - 1).toNat + 1 by omega]
      exact q
    · have q := a3 (s (87 + 14 * t + 8)).toNat (by omega)
      unfold z_cu z_nx z_sp
      rw [show (s (87 + 14 * t + 8) + (2 * s (87 + 14 * t + 9) - 1)).toNat = (s (87 + 14 * t + 8)).toNat + 1 by omega]
      exact q
  cases e : z_tk s (z_cu s t) (z_nx s t) with
  | none => exact absurd e key
  | some k =>
    refine ⟨k, rfl, ?_⟩
    have := (z_ff_s _ _ _ e).2.1
    omega
theorem z_ft_lo {t : Nat} (e : z_ft t s s') {k : Nat} (hk : (k < 7 ∨ (39 ≤ k ∧ k < 87) ∨ 143 ≤ k)) (ht : t < 4) : s' k = s k := e k (fun _ i => by omega) (by omega)
theorem z_ft_st {t : Nat} (e : z_ft t s s') {i j : Nat} (hj : j < 3) : s' (7 + 4 * i + j) = s (7 + 4 * i + j) ∨ 8 ≤ i := by
  by_cases c : i < 8
  · exact Or.inl (e _ (fun _ i => by omega) (by omega))
  · exact Or.inr (by omega)
theorem z_ft_tn {t t' : Nat} (e : z_ft t s s') (hne : t' ≠ t) {k : Nat} (hk : k < 14) : s' (87 + 14 * t' + k) = s (87 + 14 * t' + k) := e _ (fun _ i => by omega) (by omega)
theorem z_ft_t8 {t : Nat} (e : z_ft t s s') {k : Nat} (hk : k < 8) : s' (87 + 14 * t + k) = s (87 + 14 * t + k) := e _ (fun _ i => by omega) (by omega)
theorem z_inv_ft (h : z_inv b s) {t : Nat} (e : z_ft t s s') (ht : (t : Int) < s 3) (hd : z_bo (s' (87 + 14 * t + 9))) (hs : ∀ i : Nat, i < 8 → (i : Int) < s 1 → -1 ≤ s' (7 + 4 * i + 3) ∧ s' (7 + 4 * i + 3) ≤ s 0) (hp : 0 ≤ s' (87 + 14 * t + 8) ∧ s' (87 + 14 * t + 8) < s (87 + 14 * t + 1)) (hq : 0 ≤ s' (87 + 14 * t + 8) + (2 * s' (87 + 14 * t + 9) - 1) ∧ s' (87 + 14 * t + 8) + (2 * s' (87 + 14 * t + 9) - 1) < s (87 + 14 * t + 1)) (hl : 0 ≤ s' (87 + 14 * t + 10) ∧ s' (87 + 14 * t + 10) ≤ 9) : z_inv b s' := by
  obtain ⟨h0, ⟨b1, b2, b3⟩, a1, a2, a3, a4, a5⟩ := h
  obtain ⟨c0, c1, c2, c3, c4⟩ := id h0
  have t4 : t < 4 := by omega
  have lo : ∀ k, (k < 7 ∨ (39 ≤ k ∧ k < 87) ∨ 143 ≤ k) → s' k = s k := fun k hk => z_ft_lo e hk t4
  have st : ∀ i j : Nat, i < 8 → j < 3 → s' (7 + 4 * i + j) = s (7 + 4 * i + j) := fun i j hi hj => (z_ft_st e hj).resolve_right (by omega)
  refine ⟨?_, ⟨fun i hi => ?_, fun i hi => ?_, fun i hi => ?_⟩, fun i hi => ?_, fun k hk => ?_, fun t' ht' => ?_, fun i hi => ?_, ?_⟩
  · unfold z_cnt4
    rw [lo 0 (by omega), lo 1 (by omega), lo 2 (by omega), lo 3 (by omega), lo 4 (by omega)]
    exact h0
  · rw [st i 1 hi (by omega)]
    exact b1 i hi
  · rw [lo _ (by omega)]
    exact b2 i hi
  · by_cases c : i = t
    · rw [c]
      exact hd
    · rw [z_ft_tn e c (by omega)]
      exact b3 i hi
  · rw [lo 1 (by omega)] at hi
    have := (a1 i hi).1
    unfold z_stn
    rw [st i 2 (by omega) (by omega), lo 0 (by omega)]
    exact ⟨this, hs i (by omega) hi⟩
  · rw [lo 2 (by omega)] at hk
    have := a2 k hk
    unfold z_trk at this ⊢
    rw [lo _ (by omega), lo _ (by omega), lo _ (by omega), lo _ (by omega)]
    exact this
  · rw [lo 3 (by omega)] at ht'
    by_cases c : t' = t
    · subst c
      obtain ⟨x0, x1, x2, x3, x4, x5, x6⟩ := a3 t' ht'
      have e0 := z_ft_t8 e (k := 0) (by omega)
      simp only [Nat.add_zero] at e0
      have es : ∀ j : Nat, j < 6 → s' (87 + 14 * t' + 2 + j) = s (87 + 14 * t' + 2 + j) := fun j hj => by
        have := z_ft_t8 e (k := 2 + j) (by omega)
        rw [← Nat.add_assoc] at this
        exact this
      unfold z_trn
      rw [e0, z_ft_t8 e (k := 1) (by omega), lo 1 (by omega)]
      refine ⟨x0, x1, fun j hj => ?_, fun j hj => ?_, hp, hq, hl⟩
      · rw [es j (by omega)]
        exact x2 j hj
      · rw [es j (by omega), es (j + 1) (by omega), z_tk_c (lo 2 (by omega)) (by omega) (fun k h1 h2 => lo k (by omega))]
        exact x3 j hj
    · exact z_trn_c (lo 1 (by omega)) (lo 2 (by omega)) (by omega) (fun k h1 h2 => lo k (by omega)) (fun k hk => z_ft_tn e c (by omega)) (a3 t' ht')
  · rw [lo 4 (by omega)] at hi
    have := a4 i hi
    unfold z_pcl at this ⊢
    rw [lo (143 + 9 * i) (by omega), lo (143 + 9 * i + 1) (by omega), lo (143 + 9 * i + 2) (by omega), lo (143 + 9 * i + 3) (by omega), lo (143 + 9 * i + 4) (by omega), lo (143 + 9 * i + 5) (by omega), lo (143 + 9 * i + 7) (by omega), lo (143 + 9 * i + 8) (by omega), lo 0 (by omega), lo 1 (by omega), lo 3 (by omega)]
    exact this
  · exact z_dis_c (lo 2 (by omega)) (by omega) (fun k h1 h2 => lo k (by omega)) (fun k hk => lo k (by omega)) a5
/-- another train's part of the relation -/
theorem z_rtn_c (h : z_inv b s) {t' : Nat} (ht' : (t' : Int) < s 3) (h2 : s' 2 = s 2) (ek : ∀ k, 39 ≤ k → k < 87 → s' k = s k) (et : ∀ k, k < 14 → s' (87 + 14 * t' + k) = s (87 + 14 * t' + k)) (eg : ∀ k, k < 14 → g' (87 + 14 * t' + k) = g (87 + 14 * t' + k)) (r : z_rtn s g t') : z_rtn s' g' t' := by
  obtain ⟨x0, x1, x2, x3, x4, x5, x6, x7, x8⟩ := r
  have tn := h.2.2.2.2.1 t' ht'
  have tl := tn.2.1
  have n2 := h.1.2.2.1
  have e0 := et 0 (by omega)
  have f0 := eg 0 (by omega)
  simp only [Nat.add_zero] at e0 f0
  have es : ∀ j : Nat, j < 6 → s' (87 + 14 * t' + 2 + j) = s (87 + 14 * t' + 2 + j) := fun j hj => by
    have := et (2 + j) (by omega)
    rw [← Nat.add_assoc] at this
    exact this
  have fs : ∀ j : Nat, j < 6 → g' (87 + 14 * t' + 2 + j) = g (87 + 14 * t' + 2 + j) := fun j hj => by
    have := eg (2 + j) (by omega)
    rw [← Nat.add_assoc] at this
    exact this
  unfold z_rtn
  rw [e0, f0, et 1 (by omega), eg 1 (by omega), et 8 (by omega), eg 8 (by omega), et 9 (by omega), eg 9 (by omega), et 11 (by omega), eg 11 (by omega), et 12 (by omega), eg 12 (by omega), et 13 (by omega), eg 13 (by omega)]
  refine ⟨x0, x1, fun j hj => by rw [es j (by omega), fs j (by omega)]; exact x2 j hj, x3, x4, ?_, x6, x7, x8⟩
  unfold z_tv at x5 ⊢
  rw [z_cu_c tn (fun k hk => et k (by omega)), z_nx_c tn (fun k hk => et k (by omega)), z_tk_c h2 (by omega) ek, et 10 (by omega), eg 10 (by omega)]
  rcases x5 with q | ⟨q1, q2, k, q3, q4⟩
  · exact Or.inl q
  · refine Or.inr ⟨q1, q2, k, q3, ?_⟩
    have := z_ff_s _ _ _ q3
    rw [ek _ (by omega) (by omega)]
    exact q4
theorem z_rel_ft (h : z_inv b s) (r : z_rel s g) {t : Nat} (e : z_ft t s s') (eg : ∀ k, k < 251 → (k < 39 → ∀ i, k ≠ 7 + 4 * i + 3) → ¬ (87 + 14 * t + 8 ≤ k ∧ k < 87 + 14 * t + 14) → g' k = g k) (ht : (t : Int) < s 3) (h8 : g' (87 + 14 * t + 8) = s' (87 + 14 * t + 8)) (h9 : g' (87 + 14 * t + 9) = 2 * s' (87 + 14 * t + 9) - 1) (hv : z_tv s' g' t) (h11 : g' (87 + 14 * t + 11) = s' (87 + 14 * t + 11)) (h12 : g' (87 + 14 * t + 12) = s' (87 + 14 * t + 12)) (h13 : g' (87 + 14 * t + 13) = s' (87 + 14 * t + 13)) : z_rel s' g' := by
  obtain ⟨r0, r1, r2, r3, r4⟩ := r
  obtain ⟨⟨c0, c1, c2, c3, c4⟩, -, -, -, hn, -, -⟩ := id h
  have t4 : t < 4 := by omega
  have lo : ∀ k, (k < 7 ∨ (39 ≤ k ∧ k < 87) ∨ 143 ≤ k) → s' k = s k := fun k hk => z_ft_lo e hk t4
  have lg : ∀ k, k < 251 → (k < 7 ∨ (39 ≤ k ∧ k < 87) ∨ 143 ≤ k) → g' k = g k := fun k hk h => eg k hk (fun _ i => by omega) (by omega)
  have st : ∀ i j : Nat, i < 8 → j < 3 → s' (7 + 4 * i + j) = s (7 + 4 * i + j) := fun i j hi hj => (z_ft_st e hj).resolve_right (by omega)
  have sg : ∀ i j : Nat, i < 8 → j < 3 → g' (7 + 4 * i + j) = g (7 + 4 * i + j) := fun i j hi hj => eg _ (by omega) (fun _ k => by omega) (by omega)
  refine ⟨fun k hk => ?_, fun i hi => ?_, fun k hk j hj => ?_, fun t' ht' => ?_, fun i hi j hj => ?_⟩
  · rw [lo k (by omega), lg k (by omega) (by omega)]
    exact r0 k hk
  · rw [lo 1 (by omega)] at hi
    have s0 := st i 0 (by omega) (by omega)
    have g0 := sg i 0 (by omega) (by omega)
    simp only [Nat.add_zero] at s0 g0
    rw [s0, g0, st i 1 (by omega) (by omega), st i 2 (by omega) (by omega), sg i 1 (by omega) (by omega), sg i 2 (by omega) (by omega)]
    exact r1 i hi
  · rw [lo 2 (by omega)] at hk
    rw [lo _ (by omega), lg _ (by omega) (by omega)]
    exact r2 k hk j hj
  · rw [lo 3 (by omega)] at ht'
    by_cases c : t' = t
    · subst c
      obtain ⟨x0, x1, x2, x3, x4, x5, x6, x7, x8⟩ := r3 t' ht'
      have tl := (hn t' ht').2.1
      have e0 := z_ft_t8 e (k := 0) (by omega)
      have f0 := eg (87 + 14 * t') (by omega) (fun _ i => by omega) (by omega)
      simp only [Nat.add_zero] at e0
      have es : ∀ j : Nat, j < 6 → s' (87 + 14 * t' + 2 + j) = s (87 + 14 * t' + 2 + j) := fun j hj => by
        have := z_ft_t8 e (k := 2 + j) (by omega)
        rw [← Nat.add_assoc] at this
        exact this
      refine ⟨by rw [e0, f0]; exact x0, by rw [z_ft_t8 e (k := 1) (by omega), eg _ (by omega) (fun _ i => by omega) (by omega)]; exact x1, fun j hj => ?_, h8, h9, hv, h11, h12, h13⟩
      rw [z_ft_t8 e (k := 1) (by omega)] at hj
      rw [es j (by omega), eg _ (by omega) (fun _ i => by omega) (by omega)]
      exact x2 j hj
    · exact z_rtn_c h ht' (lo 2 (by omega)) (fun k h1 h2 => lo k (by omega)) (fun k hk => z_ft_tn e c hk) (fun k hk => eg _ (by omega) (fun _ i => by omega) (by omega)) (r3 t' ht')
  · rw [lo 4 (by omega)] at hi
    rw [lo _ (by omega), lg _ (by omega) (by omega)]
    exact r4 i hi j hj
end Frm
/-! departing; unloading -/
section Dep
variable {b : Int} {s s' g g' : Nat → Int}
theorem z_ft_zu {t k : Nat} {v : Int} (hk : 87 + 14 * t + 8 ≤ k ∧ k < 87 + 14 * t + 14) : z_ft t s (zu s k v) := fun j h1 h2 => z_un (by omega)
/-- unloading: parcel i is delivered -/
def z_dl (s : Nat → Int) (i : Nat) : Nat → Int := zu (zu (zu (zu (zu s 6 (s 6 + 1)) (143 + 9 * i + 3) (-1)) (143 + 9 * i + 4) (-1)) (143 + 9 * i + 5) (-1)) (143 + 9 * i + 8) (s 0)
/-- unloading: parcel i is put down at p -/
def z_pd (s : Nat → Int) (i : Nat) (p e : Int) : Nat → Int := zu (zu (zu (zu (zu (zu s 6 (s 6 + 1)) (143 + 9 * i + 3) p) (143 + 9 * i + 4) (-1)) (143 + 9 * i + 5) (-1)) (143 + 9 * i + 6) (s (143 + 9 * i + 6) + 1)) (143 + 9 * i + 7) e
theorem z_dl_o {i k : Nat} (h1 : k ≠ 143 + 9 * i + 3) (h2 : k ≠ 143 + 9 * i + 4) (h3 : k ≠ 143 + 9 * i + 5) (h4 : k ≠ 143 + 9 * i + 8) (h5 : k ≠ 6) : z_dl s i k = s k := by
  unfold z_dl
  rw [z_un h4, z_un h3, z_un h2, z_un h1, z_un h5]
theorem z_pd_o {i k : Nat} {p e : Int} (h1 : k ≠ 143 + 9 * i + 3) (h2 : k ≠ 143 + 9 * i + 4) (h3 : k ≠ 143 + 9 * i + 5) (h4 : k ≠ 143 + 9 * i + 6) (h6 : k ≠ 143 + 9 * i + 7) (h5 : k ≠ 6) : z_pd s i p e k = s k := by
  unfold z_pd
  rw [z_un h6, z_un h4, z_un h3, z_un h2, z_un h1, z_un h5]
theorem z_dl_inv (h : z_inv b s) {i : Nat} (hi : (i : Int) < s 4) (hs : s (143 + 9 * i + 4) ≠ -1) : z_inv b (z_dl s i) := by
  obtain ⟨h0, -, -, h3, h4⟩ := h.1
  refine z_inv_fr h (fun k hk => z_dl_o (by omega) (by omega) (by omega) (by omega) (by omega)) (fun j hj => ?_)
  have p := h.2.2.2.2.2.1 j hj
  unfold z_pcl at p ⊢
  rw [show z_dl s i 0 = s 0 from z_dl_o (by omega) (by omega) (by omega) (by omega) (by omega), show z_dl s i 1 = s 1 from z_dl_o (by omega) (by omega) (by omega) (by omega) (by omega), show z_dl s i 3 = s 3 from z_dl_o (by omega) (by omega) (by omega) (by omega) (by omega)]
  by_cases e : j = i
  · subst e
    have e3 : z_dl s j (143 + 9 * j + 3) = -1 := by unfold z_dl; simp (disch := omega) only [z_ue, z_un]
    have e4 : z_dl s j (143 + 9 * j + 4) = -1 := by unfold z_dl; simp (disch := omega) only [z_ue, z_un]
    have e5 : z_dl s j (143 + 9 * j + 5) = -1 := by unfold z_dl; simp (disch := omega) only [z_ue, z_un]
    have e8 : z_dl s j (143 + 9 * j + 8) = s 0 := by unfold z_dl; simp (disch := omega) only [z_ue, z_un]
    rw [e3, e4, e5, e8, z_dl_o (k := 143 + 9 * j) (by omega) (by omega) (by omega) (by omega) (by omega), z_dl_o (k := 143 + 9 * j + 1) (by omega) (by omega) (by omega) (by omega) (by omega), z_dl_o (k := 143 + 9 * j + 2) (by omega) (by omega) (by omega) (by omega) (by omega), z_dl_o (k := 143 + 9 * j + 7) (by omega) (by omega) (by omega) (by omega) (by omega)]
    obtain ⟨p0, p1, p2, p3, p4, p5, p7, p8, p9⟩ := p
    have h1 := h.1.2.1
    exact ⟨p0, p1, p2, by omega, by omega, by omega, p7, by omega, Or.inr (Or.inr ⟨rfl, rfl, by omega⟩)⟩
  · rw [z_dl_o (k := 143 + 9 * j) (by omega) (by omega) (by omega) (by omega) (by omega), z_dl_o (k := 143 + 9 * j + 1) (by omega) (by omega) (by omega) (by omega) (by omega), z_dl_o (k := 143 + 9 * j + 2) (by omega) (by omega) (by omega) (by omega) (by omega), z_dl_o (k := 143 + 9 * j + 3) (by omega) (by omega) (by omega) (by omega) (by omega), z_dl_o (k := 143 + 9 * j + 4) (by omega) (by omega) (by omega) (by omega) (by omega), z_dl_o (k := 143 + 9 * j + 5) (by omega) (by omega) (by omega) (by omega) (by omega), z_dl_o (k := 143 + 9 * j + 7) (by omega) (by omega) (by omega) (by omega) (by omega), z_dl_o (k := 143 + 9 * j + 8) (by omega) (by omega) (by omega) (by omega) (by omega)]
    exact p
theorem z_pd_inv (h : z_inv b s) {i : Nat} {p e : Int} (hi : (i : Int) < s 4) (hs : s (143 + 9 * i + 4) ≠ -1) (hp : 0 ≤ p ∧ p < s 1) (he : 0 ≤ e ∧ e ≤ s 0 + 9) : z_inv b (z_pd s i p e) := by
  obtain ⟨h0, -, -, h3, h4⟩ := h.1
  refine z_inv_fr h (fun k hk => z_pd_o (by omega) (by omega) (by omega) (by omega) (by omega) (by omega)) (fun j hj => ?_)
  have q := h.2.2.2.2.2.1 j hj
  unfold z_pcl at q ⊢
  rw [show z_pd s i p e 0 = s 0 from z_pd_o (by omega) (by omega) (by omega) (by omega) (by omega) (by omega), show z_pd s i p e 1 = s 1 from z_pd_o (by omega) (by omega) (by omega) (by omega) (by omega) (by omega), show z_pd s i p e 3 = s 3 from z_pd_o (by omega) (by omega) (by omega) (by omega) (by omega) (by omega)]
  by_cases c : j = i
  · subst c
    have e3 : z_pd s j p e (143 + 9 * j + 3) = p := by unfold z_pd; simp (disch := omega) only [z_ue, z_un]
    have e4 : z_pd s j p e (143 + 9 * j + 4) = -1 := by unfold z_pd; simp (disch := omega) only [z_ue, z_un]
    have e5 : z_pd s j p e (143 + 9 * j + 5) = -1 := by unfold z_pd; simp (disch := omega) only [z_ue, z_un]
    have e7 : z_pd s j p e (143 + 9 * j + 7) = e := by unfold z_pd; simp (disch := omega) only [z_ue, z_un]
    rw [e3, e4, e5, e7, z_pd_o (k := 143 + 9 * j) (by omega) (by omega) (by omega) (by omega) (by omega) (by omega), z_pd_o (k := 143 + 9 * j + 1) (by omega) (by omega) (by omega) (by omega) (by omega) (by omega), z_pd_o (k := 143 + 9 * j + 2) (by omega) (by omega) (by omega) (by omega) (by omega) (by omega), z_pd_o (k := 143 + 9 * j + 8) (by omega) (by omega) (by omega) (by omega) (by omega) (by omega)]
    obtain ⟨p0, p1, p2, p3, p4, p5, p7, p8, p9⟩ := q
    exact ⟨p0, p1, p2, by omega, by omega, by omega, by omega, p8, Or.inl ⟨by omega, rfl, by omega, rfl⟩⟩
  · rw [z_pd_o (k := 143 + 9 * j) (by omega) (by omega) (by omega) (by omega) (by omega) (by omega), z_pd_o (k := 143 + 9 * j + 1) (by omega) (by omega) (by omega) (by omega) (by omega) (by omega), z_pd_o (k := 143 + 9 * j + 2) (by omega) (by omega) (by omega) (by omega) (by omega) (by omega), z_pd_o (k := 143 + 9 * j + 3) (by omega) (by omega) (by omega) (by omega) (by omega) (by omega), z_pd_o (k := 143 + 9 * j + 4) (by omega) (by omega) (by omega) (by omega) (by omega) (by omega), z_pd_o (k := 143 + 9 * j + 5) (by omega) (by omega) (by omega) (by omega) (by omega) (by omega), z_pd_o (k := 143 + 9 * j + 7) (by omega) (by omega) (by omega) (by omega) (by omega) (by omega), z_pd_o (k := 143 + 9 * j + 8) (by omega) (by omega) (by omega) (by omega) (by omega) (by omega)]
    exact q
/-- the reference's: delivered -/
def z_gl (g : Nat → Int) (i : Nat) : Nat → Int := zu (zu (zu (zu g (143 + 9 * i + 4) (-1)) (143 + 9 * i + 5) (-1)) 6 (g 6 + 1)) (143 + 9 * i + 8) (g 0)
def z_gp (g : Nat → Int) (i : Nat) (p e : Int) : Nat → Int := zu (zu (zu (zu (zu (zu g (143 + 9 * i + 4) (-1)) (143 + 9 * i + 5) (-1)) 6 (g 6 + 1)) (143 + 9 * i + 3) p) (143 + 9 * i + 6) (g (143 + 9 * i + 6) + 1)) (143 + 9 * i + 7) e
theorem z_dl_rel (h : z_inv b s) (r : z_rel s g) {i : Nat} (hi : (i : Int) < s 4) (hs : s (143 + 9 * i + 3) = -1) : z_rel (z_dl s i) (z_gl g i) := by
  obtain ⟨-, -, -, -, h4⟩ := h.1
  have eg : ∀ k, k ≠ 143 + 9 * i + 4 → k ≠ 143 + 9 * i + 5 → k ≠ 143 + 9 * i + 8 → k ≠ 6 → z_gl g i k = g k := fun k a1 a2 a3 a4 => by
    unfold z_gl
    simp (disch := omega) only [z_un]
  refine z_rel_fr h r (fun k hk => z_dl_o (by omega) (by omega) (by omega) (by omega) (by omega)) (fun k hk => eg k (by omega) (by omega) (by omega) (by omega)) ?_ ?_ (fun j hj m hm => ?_)
  · rw [eg 5 (by omega) (by omega) (by omega) (by omega), z_dl_o (by omega) (by omega) (by omega) (by omega) (by omega), r.1 5 (by omega)]
  · unfold z_gl z_dl
    simp (disch := omega) only [z_ue, z_un, r.1 6 (by omega)]
  · have q := r.2.2.2.2 j hj m hm
    by_cases c : j = i
    · subst c
      have q0 := r.1 0 (by omega)
      have q3 := r.2.2.2.2 j hj 3 (by omega)
      by_cases c3 : m = 3
      · subst c3
        unfold z_gl z_dl
        simp (disch := omega) only [z_ue, z_un]
        omega
      · by_cases c4 : m = 4
        · subst c4
          unfold z_gl z_dl
          simp (disch := omega) only [z_ue, z_un]
        · by_cases c5 : m = 5
          · subst c5
            unfold z_gl z_dl
            simp (disch := omega) only [z_ue, z_un]
          · by_cases c8 : m = 8
            · subst c8
              unfold z_gl z_dl
              simp (disch := omega) only [z_ue, z_un]
              exact q0
            · rw [eg _ (by omega) (by omega) (by omega) (by omega), z_dl_o (by omega) (by omega) (by omega) (by omega) (by omega)]
              exact q
    · rw [eg _ (by omega) (by omega) (by omega) (by omega), z_dl_o (by omega) (by omega) (by omega) (by omega) (by omega)]
      exact q
theorem z_pd_rel (h : z_inv b s) (r : z_rel s g) {i : Nat} {p e : Int} (hi : (i : Int) < s 4) : z_rel (z_pd s i p e) (z_gp g i p e) := by
  obtain ⟨-, -, -, -, h4⟩ := h.1
  have eg : ∀ k, k ≠ 143 + 9 * i + 3 → k ≠ 143 + 9 * i + 4 → k ≠ 143 + 9 * i + 5 → k ≠ 143 + 9 * i + 6 → k ≠ 143 + 9 * i + 7 → k ≠ 6 → z_gp g i p e k = g k := fun k a1 a2 a3 a4 a5 a6 => by
    unfold z_gp
    simp (disch := omega) only [z_un]
  refine z_rel_fr h r (fun k hk => z_pd_o (by omega) (by omega) (by omega) (by omega) (by omega) (by omega)) (fun k hk => eg k (by omega) (by omega) (by omega) (by omega) (by omega) (by omega)) ?_ ?_ (fun j hj m hm => ?_)
  · rw [eg 5 (by omega) (by omega) (by omega) (by omega) (by omega) (by omega), z_pd_o (by omega) (by omega) (by omega) (by omega) (by omega) (by omega), r.1 5 (by omega)]
  · unfold z_gp z_pd
    simp (disch := omega) only [z_ue, z_un, r.1 6 (by omega)]
  · have q := r.2.2.2.2 j hj m hm
    by_cases c : j = i
    · subst c
      have q6 := r.2.2.2.2 j hj 6 (by omega)
      by_cases c3 : m = 3
      · subst c3
        unfold z_gp z_pd
        simp (disch := omega) only [z_ue, z_un]
      · by_cases c4 : m = 4
        · subst c4
          unfold z_gp z_pd
          simp (disch := omega) only [z_ue, z_un]
        · by_cases c5 : m = 5
          · subst c5
            unfold z_gp z_pd
            simp (disch := omega) only [z_ue, z_un]
          · by_cases c6 : m = 6
            · subst c6
              unfold z_gp z_pd
              simp (disch := omega) only [z_ue, z_un]
              omega
            · by_cases c7 : m = 7
              · subst c7
                unfold z_gp z_pd
                simp (disch := omega) only [z_ue, z_un]
              · rw [eg _ (by omega) (by omega) (by omega) (by omega) (by omega) (by omega), z_pd_o (by omega) (by omega) (by omega) (by omega) (by omega) (by omega)]
                exact q
    · rw [eg _ (by omega) (by omega) (by omega) (by omega) (by omega) (by omega), z_pd_o (by omega) (by omega) (by omega) (by omega) (by omega) (by omega)]
      exact q
end Dep
section Unl
variable {b : Int} {s s' g g' : Nat → Int}
/-- parcel k drops here -/
def z_dh (s : Nat → Int) (t : Nat) (p : Int) (k : Nat) : Bool := decide (s (143 + 9 * k + 4) = t ∧ s (143 + 9 * k + 5) = p)
def z_ad (s : Nat → Int) (t : Nat) (p : Int) : Option Nat := z_ff (z_dh s t p) 0 (s 4).toNat
theorem z_Cad (h : z_inv b s) {t : Nat} {p : Int} (ht : (t : Int) < s 3) (hp : 0 ≤ p ∧ p < s 1) : f_X4_isDropOf (zV s) t (zI p) = some (zI (z_B (z_ad s t p).isSome)) := by
  obtain ⟨⟨h0, h1, h2, h3, h4⟩, -, -, -, -, hq, -⟩ := id h
  have e := z_fnd (l := l_X4_isDropOf_2 (zV s) t (zI p)) (H := fun k => some (zI 1)) (E := some (zI 0)) (n := (s 4).toNat) (p := z_dh s t p) (fun N i hi => ?_) (fun N => ?_) (s 4).toNat 0 FU (by omega) (by unfold FU; omega)
  · unfold f_X4_isDropOf
    rw [z_lit 0]
    refine e.trans ?_
    unfold z_ad
    cases z_ff (z_dh s t p) 0 (s 4).toNat <;> rfl
  · obtain ⟨p0, p1, p2, p3, p4, p5, p7, p8, p9⟩ := hq i (by omega)
    rw [l_X4_isDropOf_2]
    unfold z_dh
    by_cases a : s (143 + 9 * i + 4) = t
    · by_cases d : s (143 + 9 * i + 5) = p
      · rw [decide_eq_true ⟨a, d⟩]
        simp (disch := omega) only [z_lit, z_n, z_add, z_sub, z_mul, z_neg, z_ltT, z_ltF, z_leT, z_leF, z_eqT, z_eqF, z_v, z_upd, z_ue, z_un, z_ixn, z_ixo, z_ix0, z_ix1, z_ix2, z_ix3, z_ix4, z_ix5, z_ix6, Int.reduceToNat, z_inr, z_gd, z_bnd, z_jn, z_bdc, z_bd2, z_opn, z_ops, z_z01, if_true, if_false, Bool.false_eq_true, a, d]
      · rw [decide_eq_false (fun q => d q.2)]
        simp (disch := omega) only [z_lit, z_n, z_add, z_sub, z_mul, z_neg, z_ltT, z_ltF, z_leT, z_leF, z_eqT, z_eqF, z_v, z_upd, z_ue, z_un, z_ixn, z_ixo, z_ix0, z_ix1, z_ix2, z_ix3, z_ix4, z_ix5, z_ix6, Int.reduceToNat, z_inr, z_gd, z_bnd, z_jn, z_bdc, z_bd2, z_opn, z_ops, z_z01, if_true, if_false, Bool.false_eq_true, a]
    · rw [decide_eq_false (fun q => a q.1)]
      simp (disch := omega) only [z_lit, z_n, z_add, z_sub, z_mul, z_neg, z_ltT, z_ltF, z_leT, z_leF, z_eqT, z_eqF, z_v, z_upd, z_ue, z_un, z_ixn, z_ixo, z_ix0, z_ix1, z_ix2, z_ix3, z_ix4, z_ix5, z_ix6, Int.reduceToNat, z_inr, z_gd, z_bnd, z_jn, z_bdc, z_bd2, z_opn, z_ops, z_z01, if_true, if_false, Bool.false_eq_true]
  · rw [l_X4_isDropOf_2]
    simp (disch := omega) only [z_lit, z_n, z_add, z_sub, z_mul, z_neg, z_ltT, z_ltF, z_leT, z_leF, z_eqT, z_eqF, z_v, z_upd, z_ue, z_un, z_ixn, z_ixo, z_ix0, z_ix1, z_ix2, z_ix3, z_ix4, z_ix5, z_ix6, Int.reduceToNat, z_inr, z_gd, z_bnd, z_jn, z_bdc, z_bd2, z_opn, z_ops, z_z01, if_true, if_false, Bool.false_eq_true]
end Unl
/-! arriving -/
section Arr
variable {b : Int} {s s' g g' : Nat → Int}
def z_rp (s : Nat → Int) (t : Nat) : Int := s (87 + 14 * t + 8) + (2 * s (87 + 14 * t + 9) - 1)
def z_re (s : Nat → Int) (t : Nat) : Bool := decide (z_rp s t = 0 ∨ z_rp s t = s (87 + 14 * t + 1) - 1)
def z_rd1 (s : Nat → Int) (t : Nat) : Int := if z_re s t then 1 - s (87 + 14 * t + 9) else s (87 + 14 * t + 9)
def z_r1 (s : Nat → Int) (t : Nat) : Nat → Int := zu (zu s (87 + 14 * t + 8) (z_rp s t)) (87 + 14 * t + 9) (z_rd1 s t)
def z_q1 (s g : Nat → Int) (t : Nat) : Nat → Int := zu (zu (zu g (87 + 14 * t + 8) (z_rp s t)) (87 + 14 * t + 10) (-1)) (87 + 14 * t + 9) (2 * z_rd1 s t - 1)
theorem z_r1_8 {t : Nat} : z_r1 s t (87 + 14 * t + 8) = z_rp s t := by
  unfold z_r1
  rw [z_un (by omega), z_ue rfl]
theorem z_r1_9 {t : Nat} : z_r1 s t (87 + 14 * t + 9) = z_rd1 s t := by
  unfold z_r1
  rw [z_ue rfl]
theorem z_r1_o {t k : Nat} (h8 : k ≠ 87 + 14 * t + 8) (h9 : k ≠ 87 + 14 * t + 9) : z_r1 s t k = s k := by
  unfold z_r1
  rw [z_un h9, z_un h8]
theorem z_q1_o {t k : Nat} (h8 : k ≠ 87 + 14 * t + 8) (h9 : k ≠ 87 + 14 * t + 9) (h10 : k ≠ 87 + 14 * t + 10) : z_q1 s g t k = g k := by
  unfold z_q1
  rw [z_un h9, z_un h10, z_un h8]
theorem z_r1_ft {t : Nat} : z_ft t s (z_r1 s t) := fun k h1 h2 => z_r1_o (by omega) (by omega)
theorem z_Cre (h : z_inv b s) {t : Nat} (ht : (t : Int) < s 3) : f_X8_reachNextStop (zV s) t = some (zV (z_r1 s t)) ∧ f_X8_isAtEnd (zV (z_r1 s t)) t = some (zI (z_B (z_re s t))) := by
  obtain ⟨⟨h0, h1, h2, h3, h4⟩, ⟨-, -, hbo⟩, -, -, hn, -, -⟩ := id h
  obtain ⟨a0, a1, a2, a3, a4, a5, a6⟩ := hn t ht
  have bo := hbo t (by omega)
  have ea : ∀ v : Nat → Int, v (87 + 14 * t + 8) = z_rp s t → v (87 + 14 * t + 1) = s (87 + 14 * t + 1) → f_X8_isAtEnd (zV v) t = some (zI (z_B (z_re s t))) := by
    intro v v8 v1
    unfold f_X8_isAtEnd z_re
    unfold z_rp at *
    by_cases c : s (87 + 14 * t + 8) + (2 * s (87 + 14 * t + 9) - 1) = 0
    · rw [decide_eq_true (Or.inl c)]
      simp (disch := omega) only [z_lit, z_n, z_add, z_sub, z_mul, z_neg, z_ltT, z_ltF, z_leT, z_leF, z_eqT, z_eqF, z_v, z_upd, z_ue, z_un, z_ixn, z_ixo, z_ix0, z_ix1, z_ix2, z_ix3, z_ix4, z_ix5, z_ix6, Int.reduceToNat, z_inr, z_gd, z_bnd, z_jn, z_bdc, z_bd2, z_opn, z_ops, z_z01, if_true, if_false, Bool.false_eq_true, v8, v1]
      rfl
    · by_cases c2 : s (87 + 14 * t + 8) + (2 * s (87 + 14 * t + 9) - 1) = s (87 + 14 * t + 1) - 1
      · rw [decide_eq_true (Or.inr c2)]
        simp (disch := omega) only [z_lit, z_n, z_add, z_sub, z_mul, z_neg, z_ltT, z_ltF, z_leT, z_leF, z_eqT, z_eqF, z_v, z_upd, z_ue, z_un, z_ixn, z_ixo, z_ix0, z_ix1, z_ix2, z_ix3, z_ix4, z_ix5, z_ix6, Int.reduceToNat, z_inr, z_gd, z_bnd, z_jn, z_bdc, z_bd2, z_opn, z_ops, z_z01, if_true, if_false, Bool.false_eq_true, v8, v1]
        rfl
      · rw [decide_eq_false (by omega)]
        simp (disch := omega) only [z_lit, z_n, z_add, z_sub, z_mul, z_neg, z_ltT, z_ltF, z_leT, z_leF, z_eqT, z_eqF, z_v, z_upd, z_ue, z_un, z_ixn, z_ixo, z_ix0, z_ix1, z_ix2, z_ix3, z_ix4, z_ix5, z_ix6, Int.reduceToNat, z_inr, z_gd, z_bnd, z_jn, z_bdc, z_bd2, z_opn, z_ops, z_z01, if_true, if_false, Bool.false_eq_true, v8, v1]
        rfl
  refine ⟨?_, ea _ z_r1_8 (z_r1_o (by omega) (by omega))⟩
  have e2 := ea (zu s (87 + 14 * t + 8) (z_rp s t)) (z_ue rfl) (z_un (by omega))
  have e3 : z_re s t = false → z_r1 s t = zu s (87 + 14 * t + 8) (z_rp s t) := fun q => by
    funext k
    unfold z_r1 z_rd1
    rw [q]
    by_cases c : k = 87 + 14 * t + 9
    · rw [c, z_ue rfl, z_un (by omega)]
      rfl
    · rw [z_un c]
  have e4 : z_re s t = true → (z_rp s t = 0 ∨ z_rp s t = s (87 + 14 * t + 1) - 1) := fun q => of_decide_eq_true q
  unfold f_X8_reachNextStop
  have e5 : z_re s t = true → z_rd1 s t = 1 - s (87 + 14 * t + 9) := fun q => by
    unfold z_rd1
    rw [q]
    rfl
  rcases bo with d | d
  · have ep : z_rp s t = s (87 + 14 * t + 8) - 1 := by unfold z_rp; omega
    simp (disch := omega) only [z_lit, z_n, z_add, z_sub, z_mul, z_neg, z_ltT, z_ltF, z_leT, z_leF, z_eqT, z_eqF, z_v, z_upd, z_ue, z_un, z_ixn, z_ixo, z_ix0, z_ix1, z_ix2, z_ix3, z_ix4, z_ix5, z_ix6, Int.reduceToNat, z_inr, z_gd, z_bnd, z_jn, z_bdc, z_bd2, z_opn, z_ops, z_z01, if_true, if_false, Bool.false_eq_true, d]
    rw [← ep, e2]
    cases q : z_re s t with
    | false =>
      simp (disch := omega) only [z_lit, z_n, z_add, z_sub, z_mul, z_neg, z_ltT, z_ltF, z_leT, z_leF, z_eqT, z_eqF, z_v, z_upd, z_ue, z_un, z_ixn, z_ixo, z_ix0, z_ix1, z_ix2, z_ix3, z_ix4, z_ix5, z_ix6, Int.reduceToNat, z_inr, z_gd, z_bnd, z_jn, z_bdc, z_bd2, z_opn, z_ops, z_z01, if_true, if_false, Bool.false_eq_true, z_Bf, z_i0]
      rw [e3 q]
    | true =>
      have q4 := e4 q
      have q5 := e5 q
      by_cases c : z_rp s t = 0
      · simp (disch := omega) only [z_lit, z_n, z_add, z_sub, z_mul, z_neg, z_ltT, z_ltF, z_leT, z_leF, z_eqT, z_eqF, z_v, z_upd, z_ue, z_un, z_ixn, z_ixo, z_ix0, z_ix1, z_ix2, z_ix3, z_ix4, z_ix5, z_ix6, Int.reduceToNat, z_inr, z_gd, z_bnd, z_jn, z_bdc, z_bd2, z_opn, z_ops, z_z01, if_true, if_false, Bool.false_eq_true, z_Bt, z_i1]
        unfold z_r1
        rw [q5, show 1 - s (87 + 14 * t + 9) = 1 by omega]
      · exfalso
        unfold z_rp at c q4 ep
        omega
  · have ep : z_rp s t = s (87 + 14 * t + 8) + 1 := by unfold z_rp; omega
    simp (disch := omega) only [z_lit, z_n, z_add, z_sub, z_mul, z_neg, z_ltT, z_ltF, z_leT, z_leF, z_eqT, z_eqF, z_v, z_upd, z_ue, z_un, z_ixn, z_ixo, z_ix0, z_ix1, z_ix2, z_ix3, z_ix4, z_ix5, z_ix6, Int.reduceToNat, z_inr, z_gd, z_bnd, z_jn, z_bdc, z_bd2, z_opn, z_ops, z_z01, if_true, if_false, Bool.false_eq_true, d]
    rw [← ep, e2]
    cases q : z_re s t with
    | false =>
      simp (disch := omega) only [z_lit, z_n, z_add, z_sub, z_mul, z_neg, z_ltT, z_ltF, z_leT, z_leF, z_eqT, z_eqF, z_v, z_upd, z_ue, z_un, z_ixn, z_ixo, z_ix0, z_ix1, z_ix2, z_ix3, z_ix4, z_ix5, z_ix6, Int.reduceToNat, z_inr, z_gd, z_bnd, z_jn, z_bdc, z_bd2, z_opn, z_ops, z_z01, if_true, if_false, Bool.false_eq_true, z_Bf, z_i0]
      rw [e3 q]
    | true =>
      have q4 := e4 q
      have q5 := e5 q
      simp (disch := omega) only [z_lit, z_n, z_add, z_sub, z_mul, z_neg, z_ltT, z_ltF, z_leT, z_leF, z_eqT, z_eqF, z_v, z_upd, z_ue, z_un, z_ixn, z_ixo, z_ix0, z_ix1, z_ix2, z_ix3, z_ix4, z_ix5, z_ix6, Int.reduceToNat, z_inr, z_gd, z_bnd, z_jn, z_bdc, z_bd2, z_opn, z_ops, z_z01, if_true, if_false, Bool.false_eq_true, z_Bt, z_i1]
      unfold z_r1
      rw [q5, show 1 - s (87 + 14 * t + 9) = 0 by omega]
theorem z_r1_inv (h : z_inv b s) {t : Nat} (ht : (t : Int) < s 3) : z_inv b (z_r1 s t) := by
  obtain ⟨⟨h0, h1, h2, h3, h4⟩, ⟨-, -, hbo⟩, -, -, hn, -, -⟩ := id h
  obtain ⟨a0, a1, a2, a3, a4, a5, a6⟩ := hn t ht
  have bo := hbo t (by omega)
  have rd : z_re s t = true ∧ z_rd1 s t = 1 - s (87 + 14 * t + 9) ∨ z_re s t = false ∧ z_rd1 s t = s (87 + 14 * t + 9) := by
    unfold z_rd1
    cases z_re s t
    · exact Or.inr ⟨rfl, rfl⟩
    · exact Or.inl ⟨rfl, rfl⟩
  have rd2 : z_re s t = decide (z_rp s t = 0 ∨ z_rp s t = s (87 + 14 * t + 1) - 1) := rfl
  refine z_inv_ft h z_r1_ft ht ?_ (fun i hi hi2 => ?_) ?_ ?_ ?_
  · rw [z_r1_9]
    unfold z_bo at *
    omega
  · rw [z_r1_o (by omega) (by omega)]
    exact (h.2.2.1 i hi2).2
  · rw [z_r1_8]
    exact a5
  · rw [z_r1_8, z_r1_9]
    rcases rd with ⟨q, q2⟩ | ⟨q, q2⟩
    · rw [q] at rd2
      have := of_decide_eq_true rd2.symm
      rw [q2]
      unfold z_rp at *
      unfold z_bo at bo
      omega
    · rw [q] at rd2
      have := of_decide_eq_false rd2.symm
      rw [q2]
      unfold z_rp at *
      unfold z_bo at bo
      omega
  · rw [z_r1_o (by omega) (by omega)]
    exact a6
theorem z_r1_rel (h : z_inv b s) {t : Nat} (r : z_rel s (zu g (87 + 14 * t + 10) (-1))) (ht : (t : Int) < s 3) (hl : s (87 + 14 * t + 10) = 0) : z_rel (z_r1 s t) (z_q1 s g t) := by
  obtain ⟨x0, x1, x2, x3, x4, x5, x6, x7, x8⟩ := r.2.2.2.1 t ht
  refine z_rel_ft h r z_r1_ft (fun k _ h1 h2 => ?_) ht ?_ ?_ ?_ ?_ ?_ ?_
  · rw [z_q1_o (by omega) (by omega) (by omega), z_un (by omega)]
  · rw [z_r1_8]
    unfold z_q1
    simp (disch := omega) only [z_ue, z_un]
  · rw [z_r1_9]
    unfold z_q1
    simp (disch := omega) only [z_ue, z_un]
  · refine Or.inl ⟨by rw [z_r1_o (by omega) (by omega)]; exact hl, ?_⟩
    unfold z_q1
    simp (disch := omega) only [z_ue, z_un]
  · rw [z_r1_o (by omega) (by omega), z_q1_o (by omega) (by omega) (by omega)]
    rw [z_un (by omega)] at x6
    exact x6
  · rw [z_r1_o (by omega) (by omega), z_q1_o (by omega) (by omega) (by omega)]
    rw [z_un (by omega)] at x7
    exact x7
  · rw [z_r1_o (by omega) (by omega), z_q1_o (by omega) (by omega) (by omega)]
    rw [z_un (by omega)] at x8
    exact x8
/-- what one act may do to the counts of stops -/
def z_sk (c : Int) (s g s' g' : Nat → Int) : Prop := ∀ i : Nat, i < 8 → (g' (7 + 4 * i + 3) = g (7 + 4 * i + 3) ∧ s' (7 + 4 * i + 3) = s (7 + 4 * i + 3)) ∨ (g (7 + 4 * i + 3) < g' (7 + 4 * i + 3) ∧ g' (7 + 4 * i + 3) ≤ g (7 + 4 * i + 3) + c ∧ s' (7 + 4 * i + 3) = s 0)
/-- what one act of train t leaves alone in the reference's vector -/
def z_zk (t : Nat) (g g' : Nat → Int) : Prop := ∀ k, 7 ≤ k → k < 143 → (k < 39 → ∀ i, k ≠ 7 + 4 * i + 3) → ¬ (87 + 14 * t + 8 ≤ k ∧ k < 87 + 14 * t + 14) → g' k = g k
end Arr
section Y
variable {a b : Int}
theorem z_lt1 (h : a < b) (ha : -2147483648 ≤ a) (hb : b < 2147483648) : (zI a < zI b) = True := by
  rw [z_lt ⟨ha, by omega⟩ ⟨by omega, hb⟩]
  exact eq_true h
theorem z_lt0 (h : b ≤ a) (hb : -2147483648 ≤ b) (ha : a < 2147483648) : (zI a < zI b) = False := by
  rw [z_lt ⟨by omega, ha⟩ ⟨hb, by omega⟩]
  exact eq_false (by omega)
theorem z_le1 (h : a ≤ b) (ha : -2147483648 ≤ a) (hb : b < 2147483648) : (zI a ≤ zI b) = True := by
  rw [z_le ⟨ha, by omega⟩ ⟨by omega, hb⟩]
  exact eq_true h
theorem z_le0 (h : b < a) (hb : -2147483648 ≤ b) (ha : a < 2147483648) : (zI a ≤ zI b) = False := by
  rw [z_le ⟨by omega, ha⟩ ⟨hb, by omega⟩]
  exact eq_false (by omega)
theorem z_eq1 (h : a = b) : (zI a = zI b) = True := eq_true (by rw [h])
theorem z_eq0 (h : a ≠ b) (h1 : -2147483648 ≤ a) (h2 : a < 2147483648) (h3 : -2147483648 ≤ b) (h4 : b < 2147483648) : (zI a = zI b) = False := by
  rw [z_eq ⟨h1, h2⟩ ⟨h3, h4⟩]
  exact eq_false h
theorem z_10 : (zI 1 = zI 0) = False := z_eq0 (by omega) (by omega) (by omega) (by omega) (by omega)
end Y
