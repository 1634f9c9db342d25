/-! the class's parser while all is well -/
section Pb
variable {W W' W0 V V' : Nat → Nat → Int32} {T : Nat → Int} {n r p q p' q' : Nat} {kd kd' : Int} {s g : Nat → Int} {b : Int} {c : Int} {x : Int32}
theorem y_Crn (h : z_CT T n W) (h2 : W 15 2 = zI p) (h3 : W 15 3 = zI q) (hr : z_rn T n 48 57 p q) : f_X6_readNumber W = some (zI (y_cv T p (q - p))) := by
  have hn := h.2.2.1
  obtain ⟨r1, r2, r3, -⟩ := hr
  have B : ∀ d N m, m + d = q → p ≤ m → d < N → l_X6_readNumber_7 W N (zI (y_cv T p (m - p))) (zI (m : Nat)) = some (zI (y_cv T p (q - p))) := by
    intro d
    induction d with
    | zero =>
      intro N m hm hp' hN
      obtain ⟨M, rfl⟩ : ∃ M, N = M + 1 := ⟨N - 1, by omega⟩
      obtain rfl : m = q := by omega
      rw [l_X6_readNumber_7, h3, z_leT (by omega) (by omega) (by omega)]
    | succ d ih =>
      intro N m hm hp' hN
      obtain ⟨M, rfl⟩ : ∃ M, N = M + 1 := ⟨N - 1, by omega⟩
      have hT := h.2.1 m
      have vb := (y_cv_b (T := T) (p := p) (m - p) (fun k a b => r3 k a (by omega))).1
      have nx := ih M (m + 1) (by omega) (by omega) (by omega)
      rw [show m + 1 - p = (m - p) + 1 by omega, y_cv, show p + (m - p) = m by omega] at nx
      rw [l_X6_readNumber_7, h3, z_leF (by omega) (by omega) (by omega), z_Cby h (by omega), z_bdc, z_bnd, show (10 : Int32) = zI 10 from z_lit 10, show (48 : Int32) = zI 48 from z_lit 48, show (1000 : Int32) = zI 1000 from z_lit 1000, z_mul, z_add, z_sub, z_l1, z_add]
      by_cases e : y_cv T p (m - p) * 10 + T m - 48 < 1000
      · rw [if_pos e] at nx
        rw [z_ltT e (by omega) (by omega)]
        exact nx
      · rw [if_neg e] at nx
        rw [z_ltF (by omega) (by omega) (by omega)]
        exact nx
  unfold f_X6_readNumber
  have := B (q - p) FU p (by omega) (by omega) (by unfold FU; omega)
  rw [Nat.sub_self] at this
  rw [h2, z_bnd, z_l0]
  exact this
theorem y_Tnm (lo hi : Int32) : y_T2 (y_Ce b T n W0 s g c x) (fun W => f_X3_takeNumber W lo hi) := fun W w => by
  dsimp only
  unfold f_X3_takeNumber
  rw [z_jn]
  by_cases c1 : W 15 1 = 2
  · rw [if_pos c1]
    have e1 : ∃ v, f_X6_readNumber W = some v := by
      obtain ⟨a1, ⟨p, q, kd, a2⟩, -⟩ := w
      obtain ⟨r, t⟩ := a2.2.2.2
      have tb := y_tkb t
      have e := a2.2.2.1
      rw [c1, z_l2, z_eq (by unfold zR; omega) (by unfold zR; omega)] at e
      subst e
      exact ⟨_, y_Crn a1.2 a2.1 a2.2.1 (y_tkd t)⟩
    obtain ⟨v, e1⟩ := e1
    rw [e1, z_bdc]
    dsimp only
    rw [if_pos c1]
    split
    · exact y_Tfa _ _ W w
    · split
      · exact y_Taa _ W w
      · exact y_Tfa _ _ W w
  · rw [if_neg c1]
    dsimp only
    rw [if_neg c1]
    exact y_Tfa _ _ W w
noncomputable def y_end (W5 : Nat → Nat → Int32) : Option (Nat → Nat → Int32) := if (W5 15 1) = (3 : Int32) then bdc (f_X6_advance W5) (fun W58 => some W58) else bdc (f_X3_fail W5 (1 : Int32)) (fun W59 => bdc (f_X6_advance W59) (fun W60 => some W60))
theorem y_Ten : y_T (y_Ce b T n W0 s g c x) y_end := fun W w => by
  unfold y_end
  obtain ⟨W1, e, w1⟩ := y_Ta W w
  split
  · rw [e, z_bdc]
    exact ⟨W1, rfl, w1⟩
  · rw [y_Tf _ W w, z_bdc, e, z_bdc]
    exact ⟨W1, rfl, w1⟩
def y_Cg (b : Int) (T : Nat → Int) (n : Nat) (W0 : Nat → Nat → Int32) (s g : Nat → Int) (p q : Nat) (kd : Int) (W : Nat → Nat → Int32) : Prop := y_Cf T n W0 W ∧ y_Ctk2 T n W p q kd ∧ W 13 0 = zI 0 ∧ W 13 1 = zI (-1) ∧ W 2 = zV s ∧ z_PI b s g
theorem y_Cg_13 (h : y_Cg b T n W0 s g p q kd W) {k : Nat} (hk : 2 ≤ k) {v : Int32} : y_Cg b T n W0 s g p q kd (w2 W 13 k v) := by
  obtain ⟨a1, a2, a3, a4, a6, a7⟩ := h
  exact ⟨y_Cf_13 a1, y_Ctk2_u a2 (z_w2u (by omega)), by rw [z_w2k (by omega)]; exact a3, by rw [z_w2k (by omega)]; exact a4, by rw [z_w2u (by omega)]; exact a6, a7⟩
theorem y_Cg_14 (h : y_Cg b T n W0 s g p q kd W) {k : Nat} {v : Int32} : y_Cg b T n W0 s g p q kd (w2 W 14 k v) := by
  obtain ⟨a1, a2, a3, a4, a6, a7⟩ := h
  exact ⟨y_Cf_14 a1, y_Ctk2_u a2 (z_w2u (by omega)), by rw [z_w2u (by omega)]; exact a3, by rw [z_w2u (by omega)]; exact a4, by rw [z_w2u (by omega)]; exact a6, a7⟩
theorem y_Cg_b (h : y_Cg b T n W0 s g p q kd W) : p ≤ q ∧ q ≤ n ∧ n ≤ 600 ∧ (0 ≤ kd ∧ kd ≤ 4) ∧ (kd = 0 → p = n ∧ q = n) ∧ (kd ≠ 0 → p < q) := by
  obtain ⟨r, t⟩ := h.2.1.2.2.2
  have := y_tkb t
  exact ⟨this.1, this.2.1, h.1.2.2.2.1, this.2.2⟩
theorem y_ga (h : y_Cg b T n W0 s g p q kd W) (t : z_tok T n q p' q' kd') : f_X6_advance W = some (y_Ctk W p' q' kd') ∧ y_Cg b T n W0 s g p' q' kd' (y_Ctk W p' q' kd') := by
  obtain ⟨a1, a2, a3, a4, a6, a7⟩ := h
  refine ⟨y_Cadv a1.2 a2.2.1 t, y_Cf_tk a1, y_Ctk_t t, ?_, ?_, ?_, a7⟩
  · rw [y_Ctk_u (by omega)]; exact a3
  · rw [y_Ctk_u (by omega)]; exact a4
  · rw [y_Ctk_u (by omega)]; exact a6
theorem y_gf (h : y_Cg b T n W0 s g p q kd W) {c : Int} (hc : 1 ≤ c ∧ c ≤ 6) : ∃ W', f_X3_fail W (zI c) = some W' ∧ y_Ce b T n W0 s g c (zI p) W' ∧ (∀ k, 2 ≤ k → W' 13 k = W 13 k) := by
  obtain ⟨a1, a2, a3, a4, a6, a7⟩ := h
  refine ⟨w2 (w2 W 13 0 (zI c)) 13 1 (zI p), ?_, ⟨y_Cf_13 (y_Cf_13 a1), ⟨p, q, kd, y_Ctk2_u a2 (by rw [z_w2u (by omega), z_w2u (by omega)])⟩, by rw [z_w2k (by omega), z_w2e], z_w2e, hc, by rw [z_w2u (by omega), z_w2u (by omega)]; exact a6, a7⟩, fun k hk => by rw [z_w2k (by omega), z_w2k (by omega)]⟩
  unfold f_X3_fail
  rw [a3, z_l0, if_pos rfl, z_bnd, z_bnd, z_w2u (by omega), a2.1]
theorem y_gfa (h : y_Cg b T n W0 s g p q kd W) {c : Int} (hc : 1 ≤ c ∧ c ≤ 6) (v : Int32) : ∃ W', bdc (f_X3_fail W (zI c)) (fun W1 => bdc (f_X6_advance W1) (fun W2 => some (v, W2))) = some (v, W') ∧ y_Ce b T n W0 s g c (zI p) W' := by
  obtain ⟨W1, e1, w1, -⟩ := y_gf h hc
  obtain ⟨W2, e2, w2'⟩ := y_Ta W1 w1
  rw [e1, z_bdc, e2, z_bdc]
  exact ⟨W2, rfl, w2'⟩
/-- a number -/
theorem y_gn (h : y_Cg b T n W0 s g p q kd W) (t : z_tok T n q p' q' kd') {lo hi : Int} (hl : 0 ≤ lo ∧ lo ≤ 60) (hh : 0 ≤ hi ∧ hi ≤ 60) :
    (kd ≠ 2 → ∃ v W', f_X3_takeNumber W (zI lo) (zI hi) = some (v, W') ∧ y_Ce b T n W0 s g 1 (zI p) W') ∧
    (kd = 2 → ¬ (lo ≤ y_cv T p (q - p) ∧ y_cv T p (q - p) ≤ hi) → ∃ v W', f_X3_takeNumber W (zI lo) (zI hi) = some (v, W') ∧ y_Ce b T n W0 s g 2 (zI p) W') ∧
    (kd = 2 → (lo ≤ y_cv T p (q - p) ∧ y_cv T p (q - p) ≤ hi) → f_X3_takeNumber W (zI lo) (zI hi) = some (zI (y_cv T p (q - p)), y_Ctk W p' q' kd')) := by
  have hb := y_Cg_b h
  obtain ⟨r, t0⟩ := h.2.1.2.2.2
  unfold f_X3_takeNumber
  rw [z_jn, h.2.1.2.2.1, z_l2]
  refine ⟨fun c => ?_, fun c d => ?_, fun c d => ?_⟩
  · rw [z_eqF c (by omega) (by omega) (by omega) (by omega)]
    dsimp only
    rw [z_eqF c (by omega) (by omega) (by omega) (by omega), z_l1]
    obtain ⟨W1, e1, w1⟩ := y_gfa h (c := 1) (by omega) (-zI 1)
    exact ⟨_, W1, e1, w1⟩
  all_goals
    subst c
    have hr := y_tkd t0
    have vb := (y_cv_b (T := T) (p := p) (q - p) (fun k a b => hr.2.2.1 k a (by omega))).1
    rw [if_pos rfl, y_Crn h.1.2 h.2.1.1 h.2.1.2.1 hr, z_bdc]
    dsimp only
    rw [if_pos rfl]
  · obtain ⟨W1, e1, w1⟩ := y_gfa h (c := 2) (by omega) (zI (y_cv T p (q - p)))
    by_cases e : y_cv T p (q - p) < lo
    · rw [z_ltT e (by omega) (by omega)]
      exact ⟨_, W1, e1, w1⟩
    · rw [z_ltF (by omega) (by omega) (by omega), z_leF (by omega) (by omega) (by omega)]
      exact ⟨_, W1, e1, w1⟩
  · rw [z_ltF (by omega) (by omega) (by omega), z_leT (by omega) (by omega) (by omega), (y_ga h t).1, z_bdc]
def y_st (T : Nat → Int) (s : Nat → Int) (p q : Nat) : Int := z_oi (y_fs s (y_wn T p q))
theorem y_wn_b (hr : z_rn T n 97 122 p q) : 0 ≤ y_wn T p q ∧ y_wn T p q < 2147483648 := by
  unfold y_wn
  split
  · next c =>
    have := (y_wlt hr c)
    rw [← this.2]
    have := y_pk_p this.1
    omega
  · omega
theorem y_st_b (h : z_PI b s g) : -1 ≤ y_st T s p q ∧ y_st T s p q < s 1 := by
  have := y_oi_b (p := fun i => decide (s (7 + 4 * i) = y_wn T p q)) (m := (s 1).toNat)
  have c := h.1.1.2.1
  unfold y_st y_fs
  omega
/-- a station's name -/
theorem y_gpn (h : y_Cg b T n W0 s g p q kd W) : (∃ v, f_X6_packName W = some v) ∧ (kd = 1 → f_X6_packName W = some (zI (y_wn T p q))) := by
  have hb := y_Cg_b h
  obtain ⟨r, t0⟩ := h.2.1.2.2.2
  have e := y_Cpn h.1.2 h.2.1.1 h.2.1.2.1 (by omega) (by omega)
  refine ⟨e.1, fun c => ?_⟩
  subst c
  unfold y_wn
  by_cases d : q - p ≤ 4
  · rw [if_pos d, e.2.2 d (y_tkw t0).2.2.1]
  · rw [if_neg d, e.2.1 (by omega)]
theorem y_gs (h : y_Cg b T n W0 s g p q kd W) :
    (kd ≠ 1 → ∃ v W', f_X3_findNamedStation W = some (v, W') ∧ y_Ce b T n W0 s g 1 (zI p) W' ∧ (∀ k, 2 ≤ k → W' 13 k = W 13 k)) ∧
    (kd = 1 → y_st T s p q = -1 → ∃ v W', f_X3_findNamedStation W = some (v, W') ∧ y_Ce b T n W0 s g 4 (zI p) W' ∧ (∀ k, 2 ≤ k → W' 13 k = W 13 k)) ∧
    (kd = 1 → y_st T s p q ≠ -1 → f_X3_findNamedStation W = some (zI (y_st T s p q), W)) := by
  have hb := y_Cg_b h
  obtain ⟨r, t0⟩ := h.2.1.2.2.2
  have sb := y_st_b (T := T) (p := p) (q := q) h.2.2.2.2.2
  have c1 := h.2.2.2.2.2.1.1.2.1
  unfold f_X3_findNamedStation
  rw [z_jn, h.2.1.2.2.1, z_l1]
  refine ⟨fun c => ?_, fun c d => ?_, fun c d => ?_⟩
  · rw [z_eqF c (by omega) (by omega) (by omega) (by omega)]
    dsimp only
    rw [z_eqF c (by omega) (by omega) (by omega) (by omega)]
    obtain ⟨W1, e1, w1, k1⟩ := y_gf h (c := 1) (by omega)
    rw [e1, z_bdc]
    exact ⟨_, W1, rfl, w1, k1⟩
  all_goals
    have wb := y_wn_b (y_tkw (c ▸ t0))
    rw [if_pos (by rw [c]), (y_gpn h).2 c, z_bdc, h.2.2.2.2.1, y_Cfs h.2.2.2.2.2.1 (y_nmb h.2.2.2.2.2) (by unfold zR; omega), z_bdc]
    dsimp only
    rw [if_pos (by rw [c]), show (-zI 1 : Int32) = zI (-1) from rfl, show z_oi (y_fs s (y_wn T p q)) = y_st T s p q from rfl]
  · obtain ⟨W1, e1, w1, k1⟩ := y_gf h (c := 4) (by omega)
    rw [if_pos (by rw [d]), show (4 : Int32) = zI 4 from z_lit 4, e1, z_bdc]
    exact ⟨_, W1, rfl, w1, k1⟩
  · rw [z_eqF d (by omega) (by omega) (by omega) (by omega)]
end Pb
