/-! departing; unloading -/
section Dep
variable {b : Int} {s s' g g' : Nat → Int}
theorem z_ft_zu {t k : Nat} {v : Int} (hk : 87 + 14 * t + 8 ≤ k ∧ k < 87 + 14 * t + 14) : z_ft t s (zu s k v) := fun j h1 h2 => z_un (by omega)
theorem z_depart (h : z_inv b s) (r : z_rel s g) {t : Nat} (ht : (t : Int) < s 3) (hl : s (87 + 14 * t + 10) = 0) : ∃ s' g', f_X4_depart (zV s) t = some (zV s') ∧ f_X10_depart (zV g) (zI t) = some (zV g') ∧ z_inv b s' ∧ z_rel s' g' ∧ (∀ k, ¬ (87 + 14 * t + 10 ≤ k ∧ k < 87 + 14 * t + 12) → s' k = s k ∧ g' k = g k) := by
  obtain ⟨⟨h0, h1, h2, h3, h4⟩, ⟨-, hbo, -⟩, -, hk, hn, -, -⟩ := id h
  obtain ⟨a0, a1, a2, a3, a4, a5, a6⟩ := hn t ht
  have cu := z_cub h ht
  have nx := z_nxb h ht
  obtain ⟨x0, x1, x2, x3, x4, x5, x6, x7, x8⟩ := r.2.2.2.1 t ht
  obtain ⟨k, k1, k2⟩ := z_tk_ah h ht
  have hkb := hbo k (by omega)
  obtain ⟨-, -, tm⟩ := hk k k2
  have q2 := r.2.2.1 k k2 2 (by omega)
  have q3 := r.2.2.1 k k2 3 (by omega)
  have ct := z_Ctk h (x := z_cu s t) (y := z_nx s t) (by unfold zR; omega) (by unfold zR; omega)
  have gt := z_Gtk h r (x := z_cu s t) (y := z_nx s t) (by unfold zR; omega) (by unfold zR; omega)
  rw [k1] at ct gt
  unfold z_oi at ct gt
  have bo := h.2.1.2.2 t (by omega)
  by_cases op : s (39 + 4 * k + 3) = 1
  · refine ⟨zu s (87 + 14 * t + 10) (s (39 + 4 * k + 2)), zu (zu g (87 + 14 * t + 10) 0) (87 + 14 * t + 11) (s (87 + 14 * t + 11) + 0), ?_, ?_, ?_, ?_, ?_⟩
    · unfold f_X4_depart
      simp (disch := omega) only [z_lit, z_n, z_add, z_sub, z_mul, z_neg, z_ltT, z_ltF, z_leT, z_leF, z_eqT, z_eqF, z_v, z_upd, z_ue, z_un, z_ixn, z_ixo, z_ix0, z_ix1, z_ix2, z_ix3, z_ix4, z_ix5, z_ix6, Int.reduceToNat, z_inr, z_gd, z_bnd, z_jn, z_bdc, z_bd2, z_opn, z_ops, z_z01, if_true, if_false, Bool.false_eq_true, z_Ccu h ht, z_Cnx h ht, ct]
    · unfold f_X10_depart f_X10_isOpen
      simp (disch := omega) only [z_lit, z_n, z_add, z_sub, z_mul, z_neg, z_ltT, z_ltF, z_leT, z_leF, z_eqT, z_eqF, z_v, z_upd, z_ue, z_un, z_ixn, z_ixo, z_ix0, z_ix1, z_ix2, z_ix3, z_ix4, z_ix5, z_ix6, Int.reduceToNat, z_inr, z_gd, z_bnd, z_jn, z_bdc, z_bd2, z_opn, z_ops, z_z01, if_true, if_false, Bool.false_eq_true, z_ofT, z_ofK, z_Gcu h r ht, z_Gnx h r ht, gt, q3, op, z_i1, x6]
    · have e : z_ft t s (zu s (87 + 14 * t + 10) (s (39 + 4 * k + 2))) := z_ft_zu (by omega)
      refine z_inv_ft h e ht ?_ (fun i hi hi2 => ?_) ?_ ?_ ?_
      · rw [z_un (by omega)]; exact bo
      · rw [z_un (by omega)]
        have := (h.2.2.1 i hi2).2
        exact this
      · rw [z_un (by omega)]; exact a4
      · rw [z_un (by omega), z_un (by omega)]; exact a5
      · rw [z_ue rfl]; omega
    · refine z_rel_ft h r (z_ft_zu (by omega)) (fun k _ h1 h2 => by rw [z_un (by omega), z_un (by omega)]) ht ?_ ?_ ?_ ?_ ?_ ?_
      · rw [z_un (by omega), z_un (by omega), z_un (by omega)]; exact x3
      · rw [z_un (by omega), z_un (by omega), z_un (by omega)]; exact x4
      · refine Or.inr ⟨by rw [z_ue rfl]; omega, by rw [z_un (by omega), z_ue rfl]; omega, k, ?_, ?_⟩
        · have tn := hn t ht
          have e1 : z_cu (zu s (87 + 14 * t + 10) (s (39 + 4 * k + 2))) t = z_cu s t := by
            unfold z_cu z_sp
            rw [z_un (k := 87 + 14 * t + 10) (j := 87 + 14 * t + 8) (by omega), z_un (by omega)]
          have e2 : z_nx (zu s (87 + 14 * t + 10) (s (39 + 4 * k + 2))) t = z_nx s t := by
            unfold z_nx z_sp
            rw [z_un (k := 87 + 14 * t + 10) (j := 87 + 14 * t + 8) (by omega), z_un (k := 87 + 14 * t + 10) (j := 87 + 14 * t + 9) (by omega), z_un (by omega)]
          rw [e1, e2, z_tk_c (z_un (by omega)) (by omega) (fun k h1 h2 => z_un (by omega))]
          exact k1
        · rw [z_un (by omega), z_ue rfl, z_un (by omega), z_ue rfl]; omega
      · rw [z_ue rfl, z_un (by omega)]; omega
      · rw [z_un (by omega), z_un (by omega), z_un (by omega)]; exact x7
      · rw [z_un (by omega), z_un (by omega), z_un (by omega)]; exact x8
    · intro j hj
      rw [z_un (by omega), z_un (by omega), z_un (by omega)]
      exact ⟨rfl, rfl⟩
  · have op0 : s (39 + 4 * k + 3) = 0 := by
      unfold z_bo at hkb
      omega
    refine ⟨zu s (87 + 14 * t + 11) (s (87 + 14 * t + 11) + 1), zu (zu g (87 + 14 * t + 10) (-1)) (87 + 14 * t + 11) (s (87 + 14 * t + 11) + 1), ?_, ?_, ?_, ?_, ?_⟩
    · unfold f_X4_depart
      simp (disch := omega) only [z_lit, z_n, z_add, z_sub, z_mul, z_neg, z_ltT, z_ltF, z_leT, z_leF, z_eqT, z_eqF, z_v, z_upd, z_ue, z_un, z_ixn, z_ixo, z_ix0, z_ix1, z_ix2, z_ix3, z_ix4, z_ix5, z_ix6, Int.reduceToNat, z_inr, z_gd, z_bnd, z_jn, z_bdc, z_bd2, z_opn, z_ops, z_z01, if_true, if_false, Bool.false_eq_true, z_Ccu h ht, z_Cnx h ht, ct, op0]
    · unfold f_X10_depart f_X10_isOpen
      simp (disch := omega) only [z_lit, z_n, z_add, z_sub, z_mul, z_neg, z_ltT, z_ltF, z_leT, z_leF, z_eqT, z_eqF, z_v, z_upd, z_ue, z_un, z_ixn, z_ixo, z_ix0, z_ix1, z_ix2, z_ix3, z_ix4, z_ix5, z_ix6, Int.reduceToNat, z_inr, z_gd, z_bnd, z_jn, z_bdc, z_bd2, z_opn, z_ops, z_z01, if_true, if_false, Bool.false_eq_true, z_ofT, z_ofK, z_Gcu h r ht, z_Gnx h r ht, gt, q3, op0, z_i0, x6]
    · have e : z_ft t s (zu s (87 + 14 * t + 11) (s (87 + 14 * t + 11) + 1)) := z_ft_zu (by omega)
      refine z_inv_ft h e ht ?_ (fun i hi hi2 => ?_) ?_ ?_ ?_
      · rw [z_un (by omega)]; exact bo
      · rw [z_un (by omega)]
        have := (h.2.2.1 i hi2).2
        exact this
      · rw [z_un (by omega)]; exact a4
      · rw [z_un (by omega), z_un (by omega)]; exact a5
      · rw [z_un (by omega)]; omega
    · refine z_rel_ft h r (z_ft_zu (by omega)) (fun k _ h1 h2 => by rw [z_un (by omega), z_un (by omega)]) ht ?_ ?_ ?_ ?_ ?_ ?_
      · rw [z_un (by omega), z_un (by omega), z_un (by omega)]; exact x3
      · rw [z_un (by omega), z_un (by omega), z_un (by omega)]; exact x4
      · exact Or.inl ⟨by rw [z_un (by omega)]; exact hl, by rw [z_un (by omega), z_ue rfl]⟩
      · rw [z_ue rfl, z_ue rfl]
      · rw [z_un (by omega), z_un (by omega), z_un (by omega)]; exact x7
      · rw [z_un (by omega), z_un (by omega), z_un (by omega)]; exact x8
    · intro j hj
      rw [z_un (by omega), z_un (by omega), z_un (by omega)]
      exact ⟨rfl, rfl⟩
/-- unloading: parcel i is delivered -/
def z_dl (s : Nat → Int) (i : Nat) : Nat → Int := zu (zu (zu (zu (zu s 6 (s 6 + 1)) (143 + 9 * i + 3) (-1)) (143 + 9 * i + 4) (-1)) (143 + 9 * i + 5) (-1)) (143 + 9 * i + 8) (s 0)
/-- unloading: parcel i is put down at p -/
def z_pd (s : Nat → Int) (i : Nat) (p e : Int) : Nat → Int := zu (zu (zu (zu (zu (zu s 6 (s 6 + 1)) (143 + 9 * i + 3) p) (143 + 9 * i + 4) (-1)) (143 + 9 * i + 5) (-1)) (143 + 9 * i + 6) (s (143 + 9 * i + 6) + 1)) (143 + 9 * i + 7) e
theorem z_dl_o {i k : Nat} (h1 : k ≠ 143 + 9 * i + 3) (h2 : k ≠ 143 + 9 * i + 4) (h3 : k ≠ 143 + 9 * i + 5) (h4 : k ≠ 143 + 9 * i + 8) (h5 : k ≠ 6) : z_dl s i k = s k := by
  unfold z_dl
  rw [z_un h4, z_un h3, z_un h2, z_un h1, z_un h5]
theorem z_pd_o {i k : Nat} {p e : Int} (h1 : k ≠ 143 + 9 * i + 3) (h2 : k ≠ 143 + 9 * i + 4) (h3 : k ≠ 143 + 9 * i + 5) (h4 : k ≠ 143 + 9 * i + 6) (h6 : k ≠ 143 + 9 * i + 7) (h5 : k ≠ 6) : z_pd s i p e k = s k := by
  unfold z_pd
  rw [z_un h6, z_un h4, z_un h3, z_un h2, z_un h1, z_un h5]
theorem z_dl_inv (h : z_inv b s) {i : Nat} (hi : (i : Int) < s 4) (hs : s (143 + 9 * i + 4) ≠ -1) : z_inv b (z_dl s i) := by
  obtain ⟨h0, -, -, h3, h4⟩ := h.1
  refine z_inv_fr h (fun k hk => z_dl_o (by omega) (by omega) (by omega) (by omega) (by omega)) (fun j hj => ?_)
  have p := h.2.2.2.2.2.1 j hj
  unfold z_pcl at p ⊢
  rw [show z_dl s i 0 = s 0 from z_dl_o (by omega) (by omega) (by omega) (by omega) (by omega), show z_dl s i 1 = s 1 from z_dl_o (by omega) (by omega) (by omega) (by omega) (by omega), show z_dl s i 3 = s 3 from z_dl_o (by omega) (by omega) (by omega) (by omega) (by omega)]
  by_cases e : j = i
  · subst e
    have e3 : z_dl s j (143 + 9 * j + 3) = -1 := by unfold z_dl; simp (disch := omega) only [z_ue, z_un]
    have e4 : z_dl s j (143 + 9 * j + 4) = -1 := by unfold z_dl; simp (disch := omega) only [z_ue, z_un]
    have e5 : z_dl s j (143 + 9 * j + 5) = -1 := by unfold z_dl; simp (disch := omega) only [z_ue, z_un]
    have e8 : z_dl s j (143 + 9 * j + 8) = s 0 := by unfold z_dl; simp (disch := omega) only [z_ue, z_un]
    rw [e3, e4, e5, e8, z_dl_o (k := 143 + 9 * j) (by omega) (by omega) (by omega) (by omega) (by omega), z_dl_o (k := 143 + 9 * j + 1) (by omega) (by omega) (by omega) (by omega) (by omega), z_dl_o (k := 143 + 9 * j + 2) (by omega) (by omega) (by omega) (by omega) (by omega), z_dl_o (k := 143 + 9 * j + 7) (by omega) (by omega) (by omega) (by omega) (by omega)]
    obtain ⟨p0, p1, p2, p3, p4, p5, p7, p8, p9⟩ := p
    have h1 := h.1.2.1
    exact ⟨p0, p1, p2, by omega, by omega, by omega, p7, by omega, Or.inr (Or.inr ⟨rfl, rfl, by omega⟩)⟩
  · rw [z_dl_o (k := 143 + 9 * j) (by omega) (by omega) (by omega) (by omega) (by omega), z_dl_o (k := 143 + 9 * j + 1) (by omega) (by omega) (by omega) (by omega) (by omega), z_dl_o (k := 143 + 9 * j + 2) (by omega) (by omega) (by omega) (by omega) (by omega), z_dl_o (k := 143 + 9 * j + 3) (by omega) (by omega) (by omega) (by omega) (by omega), z_dl_o (k := 143 + 9 * j + 4) (by omega) (by omega) (by omega) (by omega) (by omega), z_dl_o (k := 143 + 9 * j + 5) (by omega) (by omega) (by omega) (by omega) (by omega), z_dl_o (k := 143 + 9 * j + 7) (by omega) (by omega) (by omega) (by omega) (by omega), z_dl_o (k := 143 + 9 * j + 8) (by omega) (by omega) (by omega) (by omega) (by omega)]
    exact p
theorem z_pd_inv (h : z_inv b s) {i : Nat} {p e : Int} (hi : (i : Int) < s 4) (hs : s (143 + 9 * i + 4) ≠ -1) (hp : 0 ≤ p ∧ p < s 1) (he : 0 ≤ e ∧ e ≤ s 0 + 9) : z_inv b (z_pd s i p e) := by
  obtain ⟨h0, -, -, h3, h4⟩ := h.1
  refine z_inv_fr h (fun k hk => z_pd_o (by omega) (by omega) (by omega) (by omega) (by omega) (by omega)) (fun j hj => ?_)
  have q := h.2.2.2.2.2.1 j hj
  unfold z_pcl at q ⊢
  rw [show z_pd s i p e 0 = s 0 from z_pd_o (by omega) (by omega) (by omega) (by omega) (by omega) (by omega), show z_pd s i p e 1 = s 1 from z_pd_o (by omega) (by omega) (by omega) (by omega) (by omega) (by omega), show z_pd s i p e 3 = s 3 from z_pd_o (by omega) (by omega) (by omega) (by omega) (by omega) (by omega)]
  by_cases c : j = i
  · subst c
    have e3 : z_pd s j p e (143 + 9 * j + 3) = p := by unfold z_pd; simp (disch := omega) only [z_ue, z_un]
    have e4 : z_pd s j p e (143 + 9 * j + 4) = -1 := by unfold z_pd; simp (disch := omega) only [z_ue, z_un]
    have e5 : z_pd s j p e (143 + 9 * j + 5) = -1 := by unfold z_pd; simp (disch := omega) only [z_ue, z_un]
    have e7 : z_pd s j p e (143 + 9 * j + 7) = e := by unfold z_pd; simp (disch := omega) only [z_ue, z_un]
    rw [e3, e4, e5, e7, z_pd_o (k := 143 + 9 * j) (by omega) (by omega) (by omega) (by omega) (by omega) (by omega), z_pd_o (k := 143 + 9 * j + 1) (by omega) (by omega) (by omega) (by omega) (by omega) (by omega), z_pd_o (k := 143 + 9 * j + 2) (by omega) (by omega) (by omega) (by omega) (by omega) (by omega), z_pd_o (k := 143 + 9 * j + 8) (by omega) (by omega) (by omega) (by omega) (by omega) (by omega)]
    obtain ⟨p0, p1, p2, p3, p4, p5, p7, p8, p9⟩ := q
    exact ⟨p0, p1, p2, by omega, by omega, by omega, by omega, p8, Or.inl ⟨by omega, rfl, by omega, rfl⟩⟩
  · rw [z_pd_o (k := 143 + 9 * j) (by omega) (by omega) (by omega) (by omega) (by omega) (by omega), z_pd_o (k := 143 + 9 * j + 1) (by omega) (by omega) (by omega) (by omega) (by omega) (by omega), z_pd_o (k := 143 + 9 * j + 2) (by omega) (by omega) (by omega) (by omega) (by omega) (by omega), z_pd_o (k := 143 + 9 * j + 3) (by omega) (by omega) (by omega) (by omega) (by omega) (by omega), z_pd_o (k := 143 + 9 * j + 4) (by omega) (by omega) (by omega) (by omega) (by omega) (by omega), z_pd_o (k := 143 + 9 * j + 5) (by omega) (by omega) (by omega) (by omega) (by omega) (by omega), z_pd_o (k := 143 + 9 * j + 7) (by omega) (by omega) (by omega) (by omega) (by omega) (by omega), z_pd_o (k := 143 + 9 * j + 8) (by omega) (by omega) (by omega) (by omega) (by omega) (by omega)]
    exact q
/-- the reference's: delivered -/
def z_gl (g : Nat → Int) (i : Nat) : Nat → Int := zu (zu (zu (zu g (143 + 9 * i + 4) (-1)) (143 + 9 * i + 5) (-1)) 6 (g 6 + 1)) (143 + 9 * i + 8) (g 0)
def z_gp (g : Nat → Int) (i : Nat) (p e : Int) : Nat → Int := zu (zu (zu (zu (zu (zu g (143 + 9 * i + 4) (-1)) (143 + 9 * i + 5) (-1)) 6 (g 6 + 1)) (143 + 9 * i + 3) p) (143 + 9 * i + 6) (g (143 + 9 * i + 6) + 1)) (143 + 9 * i + 7) e
theorem z_dl_rel (h : z_inv b s) (r : z_rel s g) {i : Nat} (hi : (i : Int) < s 4) (hs : s (143 + 9 * i + 3) = -1) : z_rel (z_dl s i) (z_gl g i) := by
  obtain ⟨-, -, -, -, h4⟩ := h.1
  have eg : ∀ k, k ≠ 143 + 9 * i + 4 → k ≠ 143 + 9 * i + 5 → k ≠ 143 + 9 * i + 8 → k ≠ 6 → z_gl g i k = g k := fun k a1 a2 a3 a4 => by
    unfold z_gl
    simp (disch := omega) only [z_un]
  refine z_rel_fr h r (fun k hk => z_dl_o (by omega) (by omega) (by omega) (by omega) (by omega)) (fun k hk => eg k (by omega) (by omega) (by omega) (by omega)) ?_ ?_ (fun j hj m hm => ?_)
  · rw [eg 5 (by omega) (by omega) (by omega) (by omega), z_dl_o (by omega) (by omega) (by omega) (by omega) (by omega), r.1 5 (by omega)]
  · unfold z_gl z_dl
    simp (disch := omega) only [z_ue, z_un, r.1 6 (by omega)]
  · have q := r.2.2.2.2 j hj m hm
    by_cases c : j = i
    · subst c
      have q0 := r.1 0 (by omega)
      have q3 := r.2.2.2.2 j hj 3 (by omega)
      by_cases c3 : m = 3
      · subst c3
        unfold z_gl z_dl
        simp (disch := omega) only [z_ue, z_un]
        omega
      · by_cases c4 : m = 4
        · subst c4
          unfold z_gl z_dl
          simp (disch := omega) only [z_ue, z_un]
        · by_cases c5 : m = 5
          · subst c5
            unfold z_gl z_dl
            simp (disch := omega) only [z_ue, z_un]
          · by_cases c8 : m = 8
            · subst c8
              unfold z_gl z_dl
              simp (disch := omega) only [z_ue, z_un]
              exact q0
            · rw [eg _ (by omega) (by omega) (by omega) (by omega), z_dl_o (by omega) (by omega) (by omega) (by omega) (by omega)]
              exact q
    · rw [eg _ (by omega) (by omega) (by omega) (by omega), z_dl_o (by omega) (by omega) (by omega) (by omega) (by omega)]
      exact q
theorem z_pd_rel (h : z_inv b s) (r : z_rel s g) {i : Nat} {p e : Int} (hi : (i : Int) < s 4) : z_rel (z_pd s i p e) (z_gp g i p e) := by
  obtain ⟨-, -, -, -, h4⟩ := h.1
  have eg : ∀ k, k ≠ 143 + 9 * i + 3 → k ≠ 143 + 9 * i + 4 → k ≠ 143 + 9 * i + 5 → k ≠ 143 + 9 * i + 6 → k ≠ 143 + 9 * i + 7 → k ≠ 6 → z_gp g i p e k = g k := fun k a1 a2 a3 a4 a5 a6 => by
    unfold z_gp
    simp (disch := omega) only [z_un]
  refine z_rel_fr h r (fun k hk => z_pd_o (by omega) (by omega) (by omega) (by omega) (by omega) (by omega)) (fun k hk => eg k (by omega) (by omega) (by omega) (by omega) (by omega) (by omega)) ?_ ?_ (fun j hj m hm => ?_)
  · rw [eg 5 (by omega) (by omega) (by omega) (by omega) (by omega) (by omega), z_pd_o (by omega) (by omega) (by omega) (by omega) (by omega) (by omega), r.1 5 (by omega)]
  · unfold z_gp z_pd
    simp (disch := omega) only [z_ue, z_un, r.1 6 (by omega)]
  · have q := r.2.2.2.2 j hj m hm
    by_cases c : j = i
    · subst c
      have q6 := r.2.2.2.2 j hj 6 (by omega)
      by_cases c3 : m = 3
      · subst c3
        unfold z_gp z_pd
        simp (disch := omega) only [z_ue, z_un]
      · by_cases c4 : m = 4
        · subst c4
          unfold z_gp z_pd
          simp (disch := omega) only [z_ue, z_un]
        · by_cases c5 : m = 5
          · subst c5
            unfold z_gp z_pd
            simp (disch := omega) only [z_ue, z_un]
          · by_cases c6 : m = 6
            · subst c6
              unfold z_gp z_pd
              simp (disch := omega) only [z_ue, z_un]
              omega
            · by_cases c7 : m = 7
              · subst c7
                unfold z_gp z_pd
                simp (disch := omega) only [z_ue, z_un]
              · rw [eg _ (by omega) (by omega) (by omega) (by omega) (by omega) (by omega), z_pd_o (by omega) (by omega) (by omega) (by omega) (by omega) (by omega)]
                exact q
    · rw [eg _ (by omega) (by omega) (by omega) (by omega) (by omega) (by omega), z_pd_o (by omega) (by omega) (by omega) (by omega) (by omega) (by omega)]
      exact q
end Dep
