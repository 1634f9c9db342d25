/-! what the statements do to the railway -/
section Pe
variable {b : Int} {s s' g g' : Nat → Int}
/-- what the reference takes for granted of places not yet in use -/
def y_z (s g : Nat → Int) : Prop := (∀ i : Nat, s 1 ≤ i → i < 8 → g (7 + 4 * i + 2) = 0) ∧ (∀ t : Nat, s 3 ≤ t → t < 4 → g (87 + 14 * t + 8) = 0 ∧ g (87 + 14 * t + 11) = 0 ∧ g (87 + 14 * t + 12) = 0 ∧ g (87 + 14 * t + 13) = 0)
theorem y_run (hb : b + 1 ≤ 1000000000) (h : z_PI b s g) (z : y_z s g) : ∃ s' g', f_X4_passMinute (zV s) = some (zV s') ∧ f_X10_minute (zV g) = some (zV g') ∧ z_PI (b + 1) s' g' ∧ y_z s' g' := by
  obtain ⟨s', g', e1, e2, e3, e4, e5, e6, e7, e8⟩ := z_minute hb h.1 h.2.1
  refine ⟨s', g', e1, e2, ⟨e3, e4, fun i hi => ?_⟩, fun i hi h8 => ?_, fun t ht h4 => ?_⟩
  · have := h.2.2 i hi
    rcases e7 i hi with ⟨q, -⟩ | ⟨q1, q2, -⟩ <;> omega
  · rw [e6 1 (by omega) (by omega)] at hi
    rw [e8 _ (by omega) (by omega) (fun _ j => by omega) (fun t ht => by omega)]
    exact z.1 i hi h8
  · rw [e6 3 (by omega) (by omega)] at ht
    have f : ∀ k, k < 14 → g' (87 + 14 * t + k) = g (87 + 14 * t + k) := fun k hk => e8 _ (by omega) (by omega) (fun _ j => by omega) (fun t' ht' => by omega)
    rw [f 8 (by omega), f 11 (by omega), f 12 (by omega), f 13 (by omega)]
    exact z.2 t ht h4
theorem y_runs : ∀ (d : Nat) (b : Int) (s g : Nat → Int), b + d ≤ 1000000000 → z_PI b s g → y_z s g → ∀ (i n N : Nat), i + d = n → n < 1000 → d < N → ∃ s' g', l_X10_minutes_2 (zI n) N (zV g) (zI i) = some (zV g') ∧ z_PI (b + d) s' g' ∧ y_z s' g' ∧ (∀ (K : (Nat → Nat → Int32) → Option (Nat → Nat → Int32)) (c1 : Int32) (W : Nat → Nat → Int32) (M : Nat), W 2 = zV s → d < M → ∃ W', l_X3_parse_72 c1 (zI n) K M W (zI i) = K W' ∧ W' 2 = zV s' ∧ ∀ u, u ≠ 2 → W' u = W u) := by
  intro d
  induction d with
  | zero =>
    intro b s g hb h z i n N hi hn hN
    obtain ⟨N, rfl⟩ : ∃ m, N = m + 1 := ⟨N - 1, by omega⟩
    refine ⟨s, g, ?_, z_PI_le h (by omega), z, fun K c1 W M h2 hM => ⟨W, ?_, h2, fun _ _ => rfl⟩⟩
    · rw [l_X10_minutes_2]
      simp (disch := omega) only [z_lit, z_n, z_add, z_sub, z_mul, z_neg, z_lt1, z_lt0, z_le1, z_le0, z_eq1, z_eq0, z_10, ↓reduceIte, z_v, z_upd, z_ue, z_un, z_ixn, z_ixo, z_ix0, z_ix1, z_ix2, z_ix3, z_ix4, z_ix5, z_ix6, Int.reduceToNat, z_inr, z_gd, ↓z_bnd, ↓z_jn, z_bdc, z_bd2, z_opn, z_ops, z_z01, z_Bt, z_Bf]
    · obtain ⟨M, rfl⟩ : ∃ m, M = m + 1 := ⟨M - 1, by omega⟩
      rw [l_X3_parse_72]
      simp (disch := omega) only [z_lit, z_n, z_add, z_sub, z_mul, z_neg, z_lt1, z_lt0, z_le1, z_le0, z_eq1, z_eq0, z_10, ↓reduceIte, z_v, z_upd, z_ue, z_un, z_ixn, z_ixo, z_ix0, z_ix1, z_ix2, z_ix3, z_ix4, z_ix5, z_ix6, Int.reduceToNat, z_inr, z_gd, ↓z_bnd, ↓z_jn, z_bdc, z_bd2, z_opn, z_ops, z_z01, z_Bt, z_Bf]
  | succ d ih =>
    intro b s g hb h z i n N hi hn hN
    obtain ⟨N, rfl⟩ : ∃ m, N = m + 1 := ⟨N - 1, by omega⟩
    obtain ⟨s1, g1, e1, e2, e3, e4⟩ := y_run (by omega) h z
    obtain ⟨s', g', f1, f2, f3, f4⟩ := ih (b + 1) s1 g1 (by omega) e3 e4 (i + 1) n N (by omega) hn (by omega)
    refine ⟨s', g', ?_, by rw [show b + ((d + 1 : Nat) : Int) = b + 1 + (d : Int) by omega]; exact f2, f3, fun K c1 W M h2 hM => ?_⟩
    · rw [l_X10_minutes_2]
      simp (disch := omega) only [z_lit, z_n, z_add, z_sub, z_mul, z_neg, z_lt1, z_lt0, z_le1, z_le0, z_eq1, z_eq0, z_10, ↓reduceIte, z_v, z_upd, z_ue, z_un, z_ixn, z_ixo, z_ix0, z_ix1, z_ix2, z_ix3, z_ix4, z_ix5, z_ix6, Int.reduceToNat, z_inr, z_gd, ↓z_bnd, ↓z_jn, z_bdc, z_bd2, z_opn, z_ops, z_z01, z_Bt, z_Bf, e2]
      exact f1
    · obtain ⟨M, rfl⟩ : ∃ m, M = m + 1 := ⟨M - 1, by omega⟩
      obtain ⟨W', w1, w2', w3⟩ := f4 K c1 (setU W 2 (zV s1)) M z_sUe (by omega)
      refine ⟨W', ?_, w2', fun u hu => by rw [w3 u hu, z_sUu hu]⟩
      rw [l_X3_parse_72]
      simp (disch := omega) only [z_lit, z_n, z_add, z_sub, z_mul, z_neg, z_lt1, z_lt0, z_le1, z_le0, z_eq1, z_eq0, z_10, ↓reduceIte, z_v, z_upd, z_ue, z_un, z_ixn, z_ixo, z_ix0, z_ix1, z_ix2, z_ix3, z_ix4, z_ix5, z_ix6, Int.reduceToNat, z_inr, z_gd, ↓z_bnd, ↓z_jn, z_bdc, z_bd2, z_opn, z_ops, z_z01, z_Bt, z_Bf, h2, e1]
      exact w1
theorem y_ins (h : z_PI b s g) (z : y_z s g) {i : Nat} {m : Int} (hi : (i : Int) < s 1) (hm : 0 ≤ m ∧ m ≤ 9) : f_X4_setInspectionOf (zV s) (zI i) (zI m) = some (zV (zu s (7 + 4 * i + 2) m)) ∧ z_PI b (zu s (7 + 4 * i + 2) m) (zu g (7 + 4 * i + 2) m) ∧ y_z (zu s (7 + 4 * i + 2) m) (zu g (7 + 4 * i + 2) m) := by
  have c1 := h.1.1.2.1
  refine ⟨?_, z_PI_in h hi hm, fun j hj h8 => ?_, fun t ht h4 => ?_⟩
  · unfold f_X4_setInspectionOf
    simp (disch := omega) only [z_lit, z_n, z_add, z_sub, z_mul, z_neg, z_lt1, z_lt0, z_le1, z_le0, z_eq1, z_eq0, z_10, ↓reduceIte, z_v, z_upd, z_ue, z_un, z_ixn, z_ixo, z_ix0, z_ix1, z_ix2, z_ix3, z_ix4, z_ix5, z_ix6, Int.reduceToNat, z_inr, z_gd, ↓z_bnd, ↓z_jn, z_bdc, z_bd2, z_opn, z_ops, z_z01, z_Bt, z_Bf]
  · rw [z_un (by omega)] at hj
    rw [z_un (by omega)]
    exact z.1 j hj h8
  · rw [z_un (by omega)] at ht
    rw [z_un (by omega), z_un (by omega), z_un (by omega), z_un (by omega)]
    exact z.2 t ht h4
theorem y_cls (h : z_PI b s g) (z : y_z s g) {i : Nat} (hi : (i : Int) < s 2) : ∃ s', f_X4_openTrack (zV s) (zI i) (zI 0) = some (zV s') ∧ z_PI b s' (zu g (39 + 4 * i + 3) 0) ∧ y_z s' (zu g (39 + 4 * i + 3) 0) := by
  have c2 := h.1.1.2.2.1
  obtain ⟨s', e1, e2, e3⟩ := z_open h hi (o := 0) (Or.inl rfl)
  refine ⟨s', e1, e2, fun j hj h8 => ?_, fun t ht h4 => ?_⟩
  · rw [e3 1 (by omega) (by omega)] at hj
    rw [z_un (by omega)]
    exact z.1 j hj h8
  · rw [e3 3 (by omega) (by omega)] at ht
    rw [z_un (by omega), z_un (by omega), z_un (by omega), z_un (by omega)]
    exact z.2 t ht h4
theorem y_pcl (h : z_PI b s g) (z : y_z s g) {x y p : Int} (hx : 0 ≤ x ∧ x < s 1) (hy : 0 ≤ y ∧ y < s 1) (hp : 1 ≤ p ∧ p ≤ 9) (h4 : s 4 < 12) : ∃ s' g', f_X4_makeParcel (zV s) (zI x) (zI y) (zI p) = some (zV s') ∧ f_X10_layParcel (zV g) (zI x) (zI y) (zI p) = some (zI (s 4), zV g') ∧ z_PI b s' g' ∧ y_z s' g' := by
  obtain ⟨s', g', e1, e2, e3, e4, e5⟩ := z_addp h hx hy hp h4
  refine ⟨s', g', e1, e2, e3, fun j hj h8 => ?_, fun t ht h4 => ?_⟩
  · rw [(e5 1 (by omega) (by omega)).1] at hj
    rw [(e5 _ (by omega) (by omega)).2]
    exact z.1 j hj h8
  · rw [(e5 3 (by omega) (by omega)).1] at ht
    rw [(e5 _ (by omega) (by omega)).2, (e5 _ (by omega) (by omega)).2, (e5 _ (by omega) (by omega)).2, (e5 _ (by omega) (by omega)).2]
    exact z.2 t ht h4
theorem y_clr {f : Nat → Int} (hb : 0 ≤ b) (hf : z_bos f) : ∃ s', f_X4_clear (zV f) = some (zV s') ∧ z_PI b s' (fun _ => 0) ∧ y_z s' (fun _ => 0) := by
  obtain ⟨u, hu⟩ : ∃ u, u = zu (zu (zu (zu (zu (zu (zu f 1 0) 2 0) 3 0) 4 0) 0 0) 5 0) 6 0 := ⟨_, rfl⟩
  have lo : ∀ k, k < 7 → u k = 0 := fun k hk => by
    rw [hu]
    have : k = 0 ∨ k = 1 ∨ k = 2 ∨ k = 3 ∨ k = 4 ∨ k = 5 ∨ k = 6 := by omega
    rcases this with c | c | c | c | c | c | c <;> subst c <;> simp (disch := omega) only [z_un, z_ue]
  have hi : ∀ k, 7 ≤ k → u k = f k := fun k hk => by
    rw [hu]
    simp (disch := omega) only [z_un]
  obtain ⟨s', e1, e2, e3⟩ := z_Cme (s := u) (by rw [lo 1 (by omega)]; omega) (by rw [lo 2 (by omega)]; omega) (fun k hk => by rw [lo 2 (by omega)] at hk; omega) (fun k hk => by rw [hi _ (by omega)]; exact hf.2.1 k hk)
  have lo' : ∀ k, k < 7 → s' k = 0 := fun k hk => by rw [e2 k (by omega), lo k hk]
  have hi' : ∀ k, 7 ≤ k → k < 251 → s' k = f k := fun k h1 h2 => by rw [e2 k (by omega), hi k h1]
  refine ⟨s', ?_, z_PI_mk ⟨?_, fun k hk => (lo' k hk).symm⟩ ⟨fun i h8 => by rw [hi' _ (by omega) (by omega)]; exact hf.1 i h8, fun i h1 => ?_⟩ ⟨fun i h8 => by rw [hi' _ (by omega) (by omega)]; exact hf.2.1 i h8, fun i h1 => ?_⟩ ⟨fun i h8 => by rw [hi' _ (by omega) (by omega)]; exact hf.2.2 i h8, fun i h1 => ?_⟩ (fun i h1 => ?_) e3 (fun i h8 => ⟨Int.le_refl _, show (0 : Int) ≤ 4 * b by omega⟩), ⟨fun _ _ _ => rfl, fun _ _ _ => ⟨rfl, rfl, rfl, rfl⟩⟩⟩
  · unfold f_X4_clear
    rw [hu] at e1
    simp (disch := omega) only [z_lit, z_n, z_add, z_sub, z_mul, z_neg, z_lt1, z_lt0, z_le1, z_le0, z_eq1, z_eq0, z_10, ↓reduceIte, z_v, z_upd, z_ue, z_un, z_ixn, z_ixo, z_ix0, z_ix1, z_ix2, z_ix3, z_ix4, z_ix5, z_ix6, Int.reduceToNat, z_inr, z_gd, ↓z_bnd, ↓z_jn, z_bdc, z_bd2, z_opn, z_ops, z_z01, z_Bt, z_Bf, e1]
  · unfold z_cnt4
    rw [lo' 0 (by omega), lo' 1 (by omega), lo' 2 (by omega), lo' 3 (by omega), lo' 4 (by omega)]
    omega
  · rw [lo' 1 (by omega)] at h1; omega
  · rw [lo' 2 (by omega)] at h1; omega
  · rw [lo' 3 (by omega)] at h1; omega
  · rw [lo' 4 (by omega)] at h1; omega
end Pe
