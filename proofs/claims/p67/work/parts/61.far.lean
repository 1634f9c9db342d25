/-! far: the Hand's distances are the class's -/
def x_en (v : Int) : Int := if v = 1000 then 9999 else v
def x_lo (n : Int) (T : Nat → Nat → Int) (a : Nat) (F : Nat → Int) : Prop := ∀ k : Nat, (k : Int) < n → (0 ≤ F k ∧ F k ≤ 9999) ∧ (T a k < 1000 → T a k ≤ F k) ∧ (T a k = 1000 → F k = 9999)
def x_rk (n : Int) (T : Nat → Nat → Int) (a k : Nat) : Int := z_ct (fun j => decide (T a j < T a k)) 0 n.toNat
section Far
variable {b : Int} {s s' : Nat → Int} {Y Y' : Nat → Nat → Int32}
theorem x_cns {x y : Int} {k : Nat} : z_cn s x y k = z_cn s y x k := by
  unfold z_cn
  exact decide_eq_decide.mpr ⟨fun h => h.elim Or.inr Or.inl, fun h => h.elim Or.inr Or.inl⟩
theorem x_tks {x y : Int} : z_tk s x y = z_tk s y x := z_ff_c _ _ fun _ _ _ => x_cns
theorem x_eg (hu : x_un s) {p q : Nat} {w : Int} (e : z_eg s p q w) : x_op s p q = 1 ∧ x_tm s p q = w := by
  obtain ⟨k, k1, k2, k3, k4⟩ := e
  have u := hu k k1
  have g : z_tk s (p : Int) (q : Int) = some k := by
    rcases k4 with ⟨e1, e2⟩ | ⟨e1, e2⟩
    · rw [e1, e2] at u; exact u
    · rw [e1, e2, x_tks] at u; exact u
  unfold x_op x_tm
  rw [g]
  exact ⟨k2, k3⟩
theorem x_ge (h : z_inv b s) {p q : Nat} (e : x_op s p q = 1) : z_eg s p q (x_tm s p q) := by
  have c2 := h.1.2.2.1
  unfold x_op at e
  unfold x_tm
  cases g : z_tk s (p : Int) (q : Int) with
  | none => rw [g] at e; simp at e
  | some k =>
    rw [g] at e
    obtain ⟨-, k1, k2, -⟩ := z_ff_s _ _ _ g
    refine ⟨k, by omega, e, rfl, ?_⟩
    have := of_decide_eq_true k2
    omega
theorem x_opb (h : z_inv b s) {p q : Nat} : x_op s p q = 0 ∨ x_op s p q = 1 := by
  have c2 := h.1.2.2.1
  unfold x_op
  cases g : z_tk s (p : Int) (q : Int) with
  | none => exact Or.inl rfl
  | some k =>
    obtain ⟨-, k1, k2, -⟩ := z_ff_s _ _ _ g
    exact h.2.1.2.1 k (by omega)
theorem x_rx_lo (h : z_inv b s) {a p q : Nat} {w : Int} {F : Nat → Int} (ha : a < 8) (hp : (p : Int) < s 1) (e : z_eg s p q w) (hF : x_lo (s 1) (zT s) a F) : x_lo (s 1) (zT s) a (z_rx F p q w) := by
  intro k hk
  have c1 := h.1.2.1
  have hT : z_tab s (zT s) := h.2.2.2.2.2.2
  obtain ⟨⟨w1, w2⟩, p8, q8⟩ := z_egw h e
  unfold z_rx
  by_cases c : k = q ∧ F p + w < F q
  · rw [if_pos c]
    obtain ⟨c3, c4⟩ := c
    subst c3
    obtain ⟨f1, f2, f3⟩ := hF p hp
    obtain ⟨g1, g2, g3⟩ := hF k hk
    have tri := hT.2.2.2.1 a p k ha p8 q8
    have le := hT.2.2.1 p k w e
    have fin := z_tab_fin h hT ha p8
    have bb := hT.1 a p
    refine ⟨by omega, fun c => ?_, fun c => ?_⟩
    · rcases fin with fin | fin
      · have := f2 (by omega)
        omega
      · have := f3 fin
        omega
    · rcases fin with fin | fin
      · omega
      · have := f3 fin
        omega
  · rw [if_neg c]
    exact hF k hk
/-- one row of the tracks from p -/
theorem x_f69 (h : z_inv b s) (hu : x_un s) (r : x_rel s Y) {a p : Nat} (ha : a < 8) (hp : (p : Int) < s 1) {c2 c4 : Int32} (K : (Nat → Int32) → Option Int32) : ∀ d i N (F : Nat → Int), i + d = (s 1).toNat → d < N → x_lo (s 1) (zT s) a F → ∃ F', l_X10_far_69 Y c2 c4 (zI (p : Int)) K N (zV F) (zI (i : Int)) = K (zV F') ∧ x_lo (s 1) (zT s) a F' ∧ (∀ k, F' k ≤ F k) ∧ (∀ q : Nat, i ≤ q → (q : Int) < s 1 → ∀ w, z_eg s p q w → F' q ≤ F p + w) := by
  have c1 := h.1.2.1
  have q0 := r.1.1
  have hn := x_hN h r
  intro d
  induction d with
  | zero =>
    intro i N F h1 h2 hF
    obtain ⟨N, rfl⟩ : ∃ m, N = m + 1 := ⟨N - 1, by omega⟩
    refine ⟨F, ?_, hF, fun _ => Int.le_refl _, fun q q1 q2 => absurd q2 (by omega)⟩
    rw [l_X10_far_69]
    simp (disch := omega) only [z_lit, z_n, z_add, z_sub, z_mul, z_neg, z_ltT, z_ltF, z_leT, z_leF, z_eqT, z_eqF, z_v, z_upd, z_ue, z_un, z_ixn, z_ixo, z_ix0, z_ix1, z_ix2, z_ix3, z_ix4, z_ix5, z_ix6, Int.reduceToNat, z_inr, z_gd, z_bnd, z_jn, z_bdc, z_bd2, z_opn, z_ops, z_z01, if_true, if_false, Bool.false_eq_true, q0]
  | succ d ih =>
    intro i N F h1 h2 hF
    obtain ⟨N, rfl⟩ : ∃ m, N = m + 1 := ⟨N - 1, by omega⟩
    have hi : (i : Int) < s 1 := by omega
    obtain ⟨r2a, r2b⟩ := r.2.2.1 p i hp hi
    obtain ⟨fp, -⟩ := hF p hp
    obtain ⟨fi, -⟩ := hF i hi
    rcases x_opb h (p := p) (q := i) with op | op
    · obtain ⟨F', e1, e2, e3, e4⟩ := ih (i + 1) N F (by omega) (by omega) hF
      refine ⟨F', ?_, e2, e3, fun q q1 q2 w ew => ?_⟩
      · rw [l_X10_far_69, ← e1]
        simp (disch := omega) only [z_lit, z_n, z_add, z_sub, z_mul, z_neg, z_ltT, z_ltF, z_leT, z_leF, z_eqT, z_eqF, z_v, z_upd, z_ue, z_un, z_ixn, z_ixo, z_ix0, z_ix1, z_ix2, z_ix3, z_ix4, z_ix5, z_ix6, Int.reduceToNat, z_inr, z_gd, z_bnd, z_jn, z_bdc, z_bd2, z_opn, z_ops, z_z01, if_true, if_false, Bool.false_eq_true, q0, hn, r2a, r2b, op, z_cs]
      · by_cases c : q = i
        · subst c
          have := (x_eg hu ew).1
          omega
        · exact e4 q (by omega) q2 w ew
    · have eg := x_ge h op
      obtain ⟨⟨w1, w2⟩, -⟩ := z_egw h eg
      obtain ⟨F', e1, e2, e3, e4⟩ := ih (i + 1) N (z_rx F p i (x_tm s p i)) (by omega) (by omega) (x_rx_lo h ha hp eg hF)
      refine ⟨F', ?_, e2, fun k => Int.le_trans (e3 k) z_rx_le2, fun q q1 q2 w ew => ?_⟩
      · rw [l_X10_far_69, ← e1]
        have ez : ∀ v : Int, v = (if F p + x_tm s p i < F i then F p + x_tm s p i else F i) → zu F i v = z_rx F p i (x_tm s p i) := by
          intro v hv
          funext j
          unfold zu z_rx
          by_cases c : j = i
          · rw [if_pos c, hv]
            by_cases c2 : F p + x_tm s p i < F i
            · rw [if_pos c2, if_pos ⟨c, c2⟩]
            · rw [if_neg c2, if_neg (fun q => c2 q.2), c]
          · rw [if_neg c, if_neg (fun q => c q.1)]
        by_cases c : F p + x_tm s p i < F i
        · simp (disch := omega) only [z_lit, z_n, z_add, z_sub, z_mul, z_neg, z_ltT, z_ltF, z_leT, z_leF, z_eqT, z_eqF, z_v, z_upd, z_ue, z_un, z_ixn, z_ixo, z_ix0, z_ix1, z_ix2, z_ix3, z_ix4, z_ix5, z_ix6, Int.reduceToNat, z_inr, z_gd, z_bnd, z_jn, z_bdc, z_bd2, z_opn, z_ops, z_z01, if_true, if_false, Bool.false_eq_true, q0, hn, r2a, r2b, op, z_cs, ez (F p + x_tm s p i) (if_pos c).symm]
        · simp (disch := omega) only [z_lit, z_n, z_add, z_sub, z_mul, z_neg, z_ltT, z_ltF, z_leT, z_leF, z_eqT, z_eqF, z_v, z_upd, z_ue, z_un, z_ixn, z_ixo, z_ix0, z_ix1, z_ix2, z_ix3, z_ix4, z_ix5, z_ix6, Int.reduceToNat, z_inr, z_gd, z_bnd, z_jn, z_bdc, z_bd2, z_opn, z_ops, z_z01, if_true, if_false, Bool.false_eq_true, q0, hn, r2a, r2b, op, z_cs, ez (F i) (if_neg c).symm]
      · by_cases c : q = i
        · subst c
          have := (x_eg hu ew).2
          have := e3 q
          have := z_rx_le (F := F) (a := p) (x := q) (w := x_tm s p q)
          omega
        · have := e4 q (by omega) q2 w ew
          have := z_rx_le2 (F := F) (a := p) (x := i) (w := x_tm s p i) (k := p)
          omega
theorem x_f57 (h : z_inv b s) (hu : x_un s) (r : x_rel s Y) {a : Nat} (ha : a < 8) {c2 c4 : Int32} (K : (Nat → Int32) → Option Int32) : ∀ d i N (F : Nat → Int), i + d = (s 1).toNat → d < N → x_lo (s 1) (zT s) a F → ∃ F', l_X10_far_57 Y c2 c4 K N (zV F) (zI (i : Int)) = K (zV F') ∧ x_lo (s 1) (zT s) a F' ∧ (∀ k, F' k ≤ F k) ∧ (∀ p q : Nat, i ≤ p → (p : Int) < s 1 → (q : Int) < s 1 → ∀ w, z_eg s p q w → F' q ≤ F p + w) := by
  have c1 := h.1.2.1
  have q0 := r.1.1
  intro d
  induction d with
  | zero =>
    intro i N F h1 h2 hF
    obtain ⟨N, rfl⟩ : ∃ m, N = m + 1 := ⟨N - 1, by omega⟩
    refine ⟨F, ?_, hF, fun _ => Int.le_refl _, fun p q p1 p2 => absurd p2 (by omega)⟩
    rw [l_X10_far_57]
    simp (disch := omega) only [z_lit, z_n, z_add, z_sub, z_mul, z_neg, z_ltT, z_ltF, z_leT, z_leF, z_eqT, z_eqF, z_v, z_upd, z_ue, z_un, z_ixn, z_ixo, z_ix0, z_ix1, z_ix2, z_ix3, z_ix4, z_ix5, z_ix6, Int.reduceToNat, z_inr, z_gd, z_bnd, z_jn, z_bdc, z_bd2, z_opn, z_ops, z_z01, if_true, if_false, Bool.false_eq_true, q0]
  | succ d ih =>
    intro i N F h1 h2 hF
    obtain ⟨N, rfl⟩ : ∃ m, N = m + 1 := ⟨N - 1, by omega⟩
    have hi : (i : Int) < s 1 := by omega
    obtain ⟨F1, e1, e2, e3, e4⟩ := x_f69 (c2 := c2) (c4 := c4) h hu r ha hi (fun B => l_X10_far_57 Y c2 c4 K N B (zI ((i : Int) + 1))) (s 1).toNat 0 FU F (by omega) (by unfold FU; omega) hF
    obtain ⟨F', f1, f2, f3, f4⟩ := ih (i + 1) N F1 (by omega) (by omega) e2
    refine ⟨F', ?_, f2, fun k => Int.le_trans (f3 k) (e3 k), fun p q p1 p2 q2 w ew => ?_⟩
    · rw [l_X10_far_57, ← f1, z_cs, ← e1]
      simp (disch := omega) only [z_lit, z_n, z_add, z_sub, z_mul, z_neg, z_ltT, z_ltF, z_leT, z_leF, z_eqT, z_eqF, z_v, z_upd, z_ue, z_un, z_ixn, z_ixo, z_ix0, z_ix1, z_ix2, z_ix3, z_ix4, z_ix5, z_ix6, Int.reduceToNat, z_inr, z_gd, z_bnd, z_jn, z_bdc, z_bd2, z_opn, z_ops, z_z01, if_true, if_false, Bool.false_eq_true, q0]
      rfl
    · by_cases c : p = i
      · subst c
        exact Int.le_trans (f3 q) (e4 q (by omega) q2 w ew)
      · have := f4 p q (by omega) p2 q2 w ew
        have := e3 p
        omega
theorem x_f45 (h : z_inv b s) (hu : x_un s) (r : x_rel s Y) {a y : Nat} (ha : (a : Int) < s 1) (hy : (y : Int) < s 1) : ∀ d i N (F : Nat → Int), i + d = (s 1).toNat → d < N → x_lo (s 1) (zT s) a F → F a = 0 → (∀ k : Nat, (k : Int) < s 1 → zT s a k < 1000 → x_rk (s 1) (zT s) a k ≤ i → F k = zT s a k) → l_X10_far_45 Y (zI (y : Int)) N (zV F) (zI (i : Int)) = some (zI (x_en (zT s a y))) := by
  have c1 := h.1.2.1
  have q0 := r.1.1
  have hn := x_hN h r
  have hT : z_tab s (zT s) := h.2.2.2.2.2.2
  intro d
  induction d with
  | zero =>
    intro i N F h1 h2 hF h0 hI
    obtain ⟨N, rfl⟩ : ∃ m, N = m + 1 := ⟨N - 1, by omega⟩
    rw [l_X10_far_45]
    simp (disch := omega) only [z_lit, z_n, z_add, z_sub, z_mul, z_neg, z_ltT, z_ltF, z_leT, z_leF, z_eqT, z_eqF, z_v, z_upd, z_ue, z_un, z_ixn, z_ixo, z_ix0, z_ix1, z_ix2, z_ix3, z_ix4, z_ix5, z_ix6, Int.reduceToNat, z_inr, z_gd, z_bnd, z_jn, z_bdc, z_bd2, z_opn, z_ops, z_z01, if_true, if_false, Bool.false_eq_true, q0, hn, z_ixz]
    rw [Int.toNat_natCast]
    congr 2
    obtain ⟨-, f2, f3⟩ := hF y hy
    have bb := hT.1 a y
    unfold x_en
    by_cases c : zT s a y = 1000
    · rw [if_pos c, f3 c]
    · rw [if_neg c]
      refine hI y hy (by omega) ?_
      have := (z_ct_b (p := fun j => decide (zT s a j < zT s a y)) (s 1).toNat 0).2
      unfold x_rk
      omega
  | succ d ih =>
    intro i N F h1 h2 hF h0 hI
    obtain ⟨N, rfl⟩ : ∃ m, N = m + 1 := ⟨N - 1, by omega⟩
    obtain ⟨F1, e1, e2, e3, e4⟩ := x_f57 (c2 := zI (y : Int)) (c4 := zI (i : Int)) h hu r (a := a) (by omega) (fun B => l_X10_far_45 Y (zI (y : Int)) N B (zI ((i : Int) + 1))) (s 1).toNat 0 FU F (by omega) (by unfold FU; omega) hF
    have g0 : F1 a = 0 := by
      have := e3 a
      have := (e2 a ha).1
      omega
    rw [← ih (i + 1) N F1 (by omega) (by omega) e2 g0 ?_, l_X10_far_45, z_cs, ← e1]
    · simp (disch := omega) only [z_lit, z_n, z_add, z_sub, z_mul, z_neg, z_ltT, z_ltF, z_leT, z_leF, z_eqT, z_eqF, z_v, z_upd, z_ue, z_un, z_ixn, z_ixo, z_ix0, z_ix1, z_ix2, z_ix3, z_ix4, z_ix5, z_ix6, Int.reduceToNat, z_inr, z_gd, z_bnd, z_jn, z_bdc, z_bd2, z_opn, z_ops, z_z01, if_true, if_false, Bool.false_eq_true, q0]
      rfl
    · intro k hk hk2 hk3
      by_cases ck : a = k
      · subst ck
        rw [g0]
        exact (hT.2.1 a).symm
      · rcases hT.2.2.2.2.1 a k (by omega) (by omega) hk2 with e | ⟨z, w, z8, ew, zle⟩
        · exact absurd e ck
        · have hz : (z : Int) < s 1 := by
            obtain ⟨m, m1, -, -, m4⟩ := ew
            have := h.2.2.2.1 m m1
            unfold z_trk at this
            omega
          obtain ⟨⟨w1, w2⟩, -⟩ := z_egw h ew
          have rk : x_rk (s 1) (zT s) a z + 1 ≤ x_rk (s 1) (zT s) a k := by
            unfold x_rk
            refine z_ct_lt _ _ (fun j _ _ hj => ?_) ⟨z, by omega, by omega, ?_, ?_⟩
            · have := of_decide_eq_true hj
              exact decide_eq_true (by omega)
            · exact decide_eq_false (by omega)
            · exact decide_eq_true (by omega)
          have fz := hI z hz (by omega) (by omega)
          have := e4 z k (by omega) hz hk w ew
          have := (e2 k hk).2.1 hk2
          omega
theorem x_far (h : z_inv b s) (hu : x_un s) (r : x_rel s Y) {a y : Nat} (ha : (a : Int) < s 1) (hy : (y : Int) < s 1) : f_X10_far Y (zI (a : Int)) (zI (y : Int)) = some (zI (x_en (zT s a y))) := by
  have c1 := h.1.2.1
  have q0 := r.1.1
  have hn := x_hN h r
  have hT : z_tab s (zT s) := h.2.2.2.2.2.2
  unfold f_X10_far
  rw [show (fun _ => (0 : Int32) : Nat → Int32) = zV (fun _ => 0) from rfl, z_bnd]
  have e := z_run (l := fun N (F : Nat → Int) x => l_X10_far_10 Y (zI (a : Int)) (zI (y : Int)) (fun B => l_X10_far_45 Y (zI (y : Int)) FU B (zI ((0 : Nat) : Int))) N (zV F) x) (n := (s 1).toNat) (P := fun i F => ∀ k, k < i → F k = if k = a then 0 else 9999) (Q := fun o => o = some (zI (x_en (zT s a y)))) (fun N i F hi hP => ?_) (fun N F hP => ?_) (s 1).toNat 0 FU (fun _ => 0) (by omega) (by unfold FU; omega) (fun k hk => absurd hk (by omega))
  · rw [q0, z_l0, decide_eq_false (by rw [z_lt ⟨by omega, by omega⟩ ⟨by omega, by omega⟩]; omega), Bool.not_false, z_gd, show zI 0 = zI ((0 : Nat) : Int) from rfl]
    exact e
  · refine ⟨zu F i (if i = a then 0 else 9999), fun k hk => ?_, ?_⟩
    · by_cases c : k = i
      · rw [c, z_ue rfl]
      · rw [z_un c, hP k (by omega)]
    · rw [l_X10_far_10]
      by_cases c : i = a
      · rw [if_pos c]
        simp (disch := omega) only [z_lit, z_n, z_add, z_sub, z_mul, z_neg, z_ltT, z_ltF, z_leT, z_leF, z_eqT, z_eqF, z_v, z_upd, z_ue, z_un, z_ixn, z_ixo, z_ix0, z_ix1, z_ix2, z_ix3, z_ix4, z_ix5, z_ix6, Int.reduceToNat, z_inr, z_gd, z_bnd, z_jn, z_bdc, z_bd2, z_opn, z_ops, z_z01, if_true, if_false, Bool.false_eq_true, q0, hn]
      · rw [if_neg c]
        simp (disch := omega) only [z_lit, z_n, z_add, z_sub, z_mul, z_neg, z_ltT, z_ltF, z_leT, z_leF, z_eqT, z_eqF, z_v, z_upd, z_ue, z_un, z_ixn, z_ixo, z_ix0, z_ix1, z_ix2, z_ix3, z_ix4, z_ix5, z_ix6, Int.reduceToNat, z_inr, z_gd, z_bnd, z_jn, z_bdc, z_bd2, z_opn, z_ops, z_z01, if_true, if_false, Bool.false_eq_true, q0, hn]
  · rw [l_X10_far_10]
    simp (disch := omega) only [z_lit, z_n, z_add, z_sub, z_mul, z_neg, z_ltT, z_ltF, z_leT, z_leF, z_eqT, z_eqF, z_v, z_upd, z_ue, z_un, z_ixn, z_ixo, z_ix0, z_ix1, z_ix2, z_ix3, z_ix4, z_ix5, z_ix6, Int.reduceToNat, z_inr, z_gd, z_bnd, z_jn, z_bdc, z_bd2, z_opn, z_ops, z_z01, if_true, if_false, Bool.false_eq_true, q0]
    have F0 : F a = 0 := by rw [hP a (by omega), if_pos rfl]
    refine x_f45 h hu r ha hy (s 1).toNat 0 FU F (by omega) (by unfold FU; omega) (fun k hk => ?_) F0 (fun k hk hk2 hk3 => ?_)
    · have := hP k (by omega)
      have bb := hT.1 a k
      by_cases c : k = a
      · subst c
        rw [F0, hT.2.1]
        omega
      · rw [if_neg c] at this
        rw [this]
        omega
    · by_cases c : a = k
      · subst c
        rw [F0, hT.2.1]
      · exfalso
        rcases hT.2.2.2.2.1 a k (by omega) (by omega) hk2 with e | ⟨z, w, z8, ew, zle⟩
        · exact c e
        · obtain ⟨⟨w1, w2⟩, -⟩ := z_egw h ew
          have bb := hT.1 a z
          have rk : z_ct (fun _ => false) 0 (s 1).toNat + 1 ≤ x_rk (s 1) (zT s) a k := by
            unfold x_rk
            refine z_ct_lt _ _ (fun j _ _ hj => by cases hj) ⟨a, by omega, by omega, rfl, ?_⟩
            exact decide_eq_true (by rw [hT.2.1]; omega)
          have := (z_ct_b (p := fun _ => false) (s 1).toNat 0).1
          omega
end Far
