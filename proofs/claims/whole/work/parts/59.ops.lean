/-! what the calls and the parser change, on both sides -/
def z_sb (c : Int) (g : Nat → Int) : Prop := ∀ i : Nat, i < 8 → 0 ≤ g (7 + 4 * i + 3) ∧ g (7 + 4 * i + 3) ≤ c
section Ops
variable {b : Int} {s s' g g' : Nat → Int}
theorem z_trn_g (h1 : s 1 ≤ s' 1) (htk : ∀ x y, z_tk s x y ≠ none → z_tk s' x y = z_tk s x y) {t : Nat} (et : ∀ k, k < 11 → s' (87 + 14 * t + k) = s (87 + 14 * t + k)) (h : z_trn s t) : z_trn s' t := by
  obtain ⟨a0, a1, a2, a3, a4, a5, a6⟩ := h
  have e0 := et 0 (by omega)
  simp only [Nat.add_zero] at e0
  have es : ∀ j : Nat, j < 6 → s' (87 + 14 * t + 2 + j) = s (87 + 14 * t + 2 + j) := fun j hj => by
    have := et (2 + j) (by omega)
    rw [← Nat.add_assoc] at this
    exact this
  unfold z_trn
  rw [e0, et 1 (by omega), et 8 (by omega), et 9 (by omega), et 10 (by omega)]
  refine ⟨a0, a1, fun j hj => ?_, fun j hj => ?_, a4, a5, a6⟩
  · rw [es j (by omega)]
    have := a2 j hj
    omega
  · have q := a3 j hj
    rw [es j (by omega), es (j + 1) (by omega), htk _ _ q]
    exact q
theorem z_rtn_g (htk : ∀ x y, z_tk s x y ≠ none → z_tk s' x y = z_tk s x y) (hm : ∀ k : Nat, (k : Int) < s 2 → s' (39 + 4 * k + 2) = s (39 + 4 * k + 2)) (h2 : 0 ≤ s 2) {t : Nat} (et : ∀ k, k < 14 → s' (87 + 14 * t + k) = s (87 + 14 * t + k)) (eg : ∀ k, k < 14 → g' (87 + 14 * t + k) = g (87 + 14 * t + k)) (tn : z_trn s t) (r : z_rtn s g t) : z_rtn s' g' t := by
  obtain ⟨x0, x1, x2, x3, x4, x5, x6, x7, x8⟩ := r
  have tl := tn.2.1
  have e0 := et 0 (by omega)
  have f0 := eg 0 (by omega)
  simp only [Nat.add_zero] at e0 f0
  have es : ∀ j : Nat, j < 6 → s' (87 + 14 * t + 2 + j) = s (87 + 14 * t + 2 + j) := fun j hj => by
    have := et (2 + j) (by omega)
    rw [← Nat.add_assoc] at this
    exact this
  have fs : ∀ j : Nat, j < 6 → g' (87 + 14 * t + 2 + j) = g (87 + 14 * t + 2 + j) := fun j hj => by
    have := eg (2 + j) (by omega)
    rw [← Nat.add_assoc] at this
    exact this
  unfold z_rtn
  rw [e0, f0, et 1 (by omega), eg 1 (by omega), et 8 (by omega), eg 8 (by omega), et 9 (by omega), eg 9 (by omega), et 11 (by omega), eg 11 (by omega), et 12 (by omega), eg 12 (by omega), et 13 (by omega), eg 13 (by omega)]
  refine ⟨x0, x1, fun j hj => by rw [es j (by omega), fs j (by omega)]; exact x2 j hj, x3, x4, ?_, x6, x7, x8⟩
  unfold z_tv at x5 ⊢
  rw [z_cu_c tn (fun k hk => et k (by omega)), z_nx_c tn (fun k hk => et k (by omega)), et 10 (by omega), eg 10 (by omega)]
  rcases x5 with q | ⟨q1, q2, k, q3, q4⟩
  · exact Or.inl q
  · refine Or.inr ⟨q1, q2, k, ?_, ?_⟩
    · rw [htk _ _ (by rw [q3]; simp)]
      exact q3
    · have := z_ff_s _ _ _ q3
      rw [hm k (by omega)]
      exact q4
theorem z_tk_h (h2 : s' 2 = s 2) (e : ∀ k : Nat, (k : Int) < s 2 → s' (39 + 4 * k) = s (39 + 4 * k) ∧ s' (39 + 4 * k + 1) = s (39 + 4 * k + 1)) (x y : Int) : z_tk s' x y = z_tk s x y := by
  unfold z_tk
  rw [h2]
  refine z_ff_c _ _ (fun j _ hj => ?_)
  unfold z_cn
  rw [(e j (by omega)).1, (e j (by omega)).2]
def z_k0 (b : Int) (s g : Nat → Int) : Prop := z_cnt4 b s ∧ ∀ k, k < 7 → g k = s k
def z_k1 (s g : Nat → Int) : Prop := (∀ i : Nat, i < 8 → z_bo (s (7 + 4 * i + 1))) ∧ ∀ i : Nat, (i : Int) < s 1 → z_stn s i ∧ z_nm (s (7 + 4 * i)) (g (7 + 4 * i)) ∧ g (7 + 4 * i + 1) = s (7 + 4 * i + 1) ∧ g (7 + 4 * i + 2) = s (7 + 4 * i + 2)
def z_k2 (s g : Nat → Int) : Prop := (∀ i : Nat, i < 12 → z_bo (s (39 + 4 * i + 3))) ∧ ∀ k : Nat, (k : Int) < s 2 → z_trk s k ∧ ∀ j, j < 4 → g (39 + 4 * k + j) = s (39 + 4 * k + j)
def z_k3 (s g : Nat → Int) : Prop := (∀ i : Nat, i < 4 → z_bo (s (87 + 14 * i + 9))) ∧ ∀ t : Nat, (t : Int) < s 3 → z_trn s t ∧ z_rtn s g t
def z_k4 (s g : Nat → Int) : Prop := ∀ i : Nat, (i : Int) < s 4 → z_pcl s i ∧ ∀ j, j < 9 → g (143 + 9 * i + j) = s (143 + 9 * i + j)
def z_PI (b : Int) (s g : Nat → Int) : Prop := z_inv b s ∧ z_rel s g ∧ z_sb (4 * b) g
theorem z_PI_mk (k0 : z_k0 b s g) (k1 : z_k1 s g) (k2 : z_k2 s g) (k3 : z_k3 s g) (k4 : z_k4 s g) (k5 : z_dis s) (k6 : z_sb (4 * b) g) : z_PI b s g :=
  ⟨⟨k0.1, ⟨k1.1, k2.1, k3.1⟩, fun i hi => (k1.2 i hi).1, fun k hk => (k2.2 k hk).1, fun t ht => (k3.2 t ht).1, fun i hi => (k4 i hi).1, k5⟩, ⟨k0.2, fun i hi => (k1.2 i hi).2, fun k hk => (k2.2 k hk).2, fun t ht => (k3.2 t ht).2, fun i hi => (k4 i hi).2⟩, k6⟩
theorem z_PI_0 (h : z_PI b s g) : z_k0 b s g := ⟨h.1.1, h.2.1.1⟩
theorem z_PI_1 (h : z_PI b s g) : z_k1 s g := ⟨h.1.2.1.1, fun i hi => ⟨h.1.2.2.1 i hi, h.2.1.2.1 i hi⟩⟩
theorem z_PI_2 (h : z_PI b s g) : z_k2 s g := ⟨h.1.2.1.2.1, fun k hk => ⟨h.1.2.2.2.1 k hk, h.2.1.2.2.1 k hk⟩⟩
theorem z_PI_3 (h : z_PI b s g) : z_k3 s g := ⟨h.1.2.1.2.2, fun t ht => ⟨h.1.2.2.2.2.1 t ht, h.2.1.2.2.2.1 t ht⟩⟩
theorem z_PI_4 (h : z_PI b s g) : z_k4 s g := fun i hi => ⟨h.1.2.2.2.2.2.1 i hi, h.2.1.2.2.2.2 i hi⟩
theorem z_PI_5 (h : z_PI b s g) : z_dis s := h.1.2.2.2.2.2.2
theorem z_PI_6 (h : z_PI b s g) : z_sb (4 * b) g := h.2.2
theorem z_k1_c (k0 : z_k0 b s g) (h0 : s' 0 = s 0) (h1 : s' 1 = s 1) (e : ∀ k, 7 ≤ k → k < 39 → s' k = s k) (f : ∀ k, 7 ≤ k → k < 39 → g' k = g k) (h : z_k1 s g) : z_k1 s' g' := by
  have c1 := k0.1.2.1
  refine ⟨fun i hi => by rw [e _ (by omega) (by omega)]; exact h.1 i hi, fun i hi => ?_⟩
  rw [h1] at hi
  have q := h.2 i hi
  unfold z_stn at q ⊢
  rw [h0, e (7 + 4 * i) (by omega) (by omega), e (7 + 4 * i + 1) (by omega) (by omega), e (7 + 4 * i + 2) (by omega) (by omega), e (7 + 4 * i + 3) (by omega) (by omega), f (7 + 4 * i) (by omega) (by omega), f (7 + 4 * i + 1) (by omega) (by omega), f (7 + 4 * i + 2) (by omega) (by omega)]
  exact q
theorem z_k2_c (k0 : z_k0 b s g) (h1 : s 1 ≤ s' 1) (h2 : s' 2 = s 2) (e : ∀ k, 39 ≤ k → k < 87 → s' k = s k) (f : ∀ k, 39 ≤ k → k < 87 → g' k = g k) (h : z_k2 s g) : z_k2 s' g' := by
  have c2 := k0.1.2.2.1
  refine ⟨fun i hi => by rw [e _ (by omega) (by omega)]; exact h.1 i hi, fun k hk => ?_⟩
  rw [h2] at hk
  obtain ⟨q1, q2⟩ := h.2 k hk
  refine ⟨?_, fun j hj => by rw [e _ (by omega) (by omega), f _ (by omega) (by omega)]; exact q2 j hj⟩
  unfold z_trk at q1 ⊢
  rw [e (39 + 4 * k) (by omega) (by omega), e (39 + 4 * k + 1) (by omega) (by omega), e (39 + 4 * k + 2) (by omega) (by omega)]
  omega
theorem z_k3_c (k0 : z_k0 b s g) (h1 : s 1 ≤ s' 1) (h3 : s' 3 = s 3) (htk : ∀ x y, z_tk s x y ≠ none → z_tk s' x y = z_tk s x y) (hm : ∀ k : Nat, (k : Int) < s 2 → s' (39 + 4 * k + 2) = s (39 + 4 * k + 2)) (e : ∀ k, 87 ≤ k → k < 143 → s' k = s k) (f : ∀ k, 87 ≤ k → k < 143 → g' k = g k) (h : z_k3 s g) : z_k3 s' g' := by
  have c3 := k0.1.2.2.2.1
  refine ⟨fun i hi => by rw [e _ (by omega) (by omega)]; exact h.1 i hi, fun t ht => ?_⟩
  rw [h3] at ht
  obtain ⟨q1, q2⟩ := h.2 t ht
  exact ⟨z_trn_g h1 htk (fun k hk => e _ (by omega) (by omega)) q1, z_rtn_g htk hm k0.1.2.2.1.1 (fun k hk => e _ (by omega) (by omega)) (fun k hk => f _ (by omega) (by omega)) q1 q2⟩
theorem z_k4_c (k0 : z_k0 b s g) (h0 : s' 0 = s 0) (h1 : s 1 ≤ s' 1) (h3 : s 3 ≤ s' 3) (h4 : s' 4 = s 4) (e : ∀ k, 143 ≤ k → k < 251 → s' k = s k) (f : ∀ k, 143 ≤ k → k < 251 → g' k = g k) (h : z_k4 s g) : z_k4 s' g' := by
  intro i hi
  have c4 := k0.1.2.2.2.2
  rw [h4] at hi
  obtain ⟨q1, q2⟩ := h i hi
  refine ⟨?_, fun j hj => by rw [e _ (by omega) (by omega), f _ (by omega) (by omega)]; exact q2 j hj⟩
  unfold z_pcl at q1 ⊢
  rw [h0, e (143 + 9 * i) (by omega) (by omega), e (143 + 9 * i + 1) (by omega) (by omega), e (143 + 9 * i + 2) (by omega) (by omega), e (143 + 9 * i + 3) (by omega) (by omega), e (143 + 9 * i + 4) (by omega) (by omega), e (143 + 9 * i + 5) (by omega) (by omega), e (143 + 9 * i + 7) (by omega) (by omega), e (143 + 9 * i + 8) (by omega) (by omega)]
  omega
/-- a parcel's cells change on both sides -/
theorem z_PI_p (h : z_PI b s g) {i : Nat} (hi : (i : Int) < s 4) (e : ∀ k, ¬ (143 + 9 * i ≤ k ∧ k < 143 + 9 * i + 9) → s' k = s k) (f : ∀ k, k < 251 → ¬ (143 + 9 * i ≤ k ∧ k < 143 + 9 * i + 9) → g' k = g k) (hp : z_pcl s' i) (hq : ∀ j, j < 9 → g' (143 + 9 * i + j) = s' (143 + 9 * i + j)) : z_PI b s' g' := by
  have k0 := z_PI_0 h
  obtain ⟨c0, c1, c2, c3, c4⟩ := id k0.1
  have lo : ∀ k, k < 143 → s' k = s k := fun k hk => e k (by omega)
  have lg : ∀ k, k < 143 → g' k = g k := fun k hk => f k (by omega) (by omega)
  refine z_PI_mk ⟨?_, fun k hk => by rw [lo k (by omega), lg k (by omega)]; exact k0.2 k hk⟩ (z_k1_c k0 (lo 0 (by omega)) (lo 1 (by omega)) (fun k _ hk => lo k (by omega)) (fun k _ hk => lg k (by omega)) (z_PI_1 h)) (z_k2_c k0 (by rw [lo 1 (by omega)]; exact Int.le_refl _) (lo 2 (by omega)) (fun k _ hk => lo k (by omega)) (fun k _ hk => lg k (by omega)) (z_PI_2 h)) (z_k3_c k0 (by rw [lo 1 (by omega)]; exact Int.le_refl _) (lo 3 (by omega)) (fun x y _ => z_tk_c (lo 2 (by omega)) (by omega) (fun k _ hk => lo k (by omega))) (fun k hk => lo _ (by omega)) (fun k _ hk => lo k (by omega)) (fun k _ hk => lg k (by omega)) (z_PI_3 h)) ?_ (z_dis_c (lo 2 (by omega)) (by omega) (fun k _ hk => lo k (by omega)) (fun k hk => e k (by omega)) (z_PI_5 h)) (fun j hj => by rw [lg _ (by omega)]; exact z_PI_6 h j hj)
  · unfold z_cnt4
    rw [lo 0 (by omega), lo 1 (by omega), lo 2 (by omega), lo 3 (by omega), lo 4 (by omega)]
    exact k0.1
  · intro j hj
    rw [lo 4 (by omega)] at hj
    by_cases q : j = i
    · rw [q]
      exact ⟨hp, hq⟩
    · obtain ⟨q1, q2⟩ := z_PI_4 h j hj
      refine ⟨?_, fun m hm => by rw [e _ (by omega), f _ (by omega) (by omega)]; exact q2 m hm⟩
      unfold z_pcl at q1 ⊢
      rw [lo 0 (by omega), lo 1 (by omega), lo 3 (by omega), e (143 + 9 * j) (by omega), e (143 + 9 * j + 1) (by omega), e (143 + 9 * j + 2) (by omega), e (143 + 9 * j + 3) (by omega), e (143 + 9 * j + 4) (by omega), e (143 + 9 * j + 5) (by omega), e (143 + 9 * j + 7) (by omega), e (143 + 9 * j + 8) (by omega)]
      exact q1
/-- the inspection time of a station -/
theorem z_PI_in (h : z_PI b s g) {i : Nat} {m : Int} (hi : (i : Int) < s 1) (hm : 0 ≤ m ∧ m ≤ 9) : z_PI b (zu s (7 + 4 * i + 2) m) (zu g (7 + 4 * i + 2) m) := by
  have k0 := z_PI_0 h
  obtain ⟨c0, c1, c2, c3, c4⟩ := id k0.1
  have e : ∀ k, k ≠ 7 + 4 * i + 2 → zu s (7 + 4 * i + 2) m k = s k := fun k hk => z_un hk
  have f : ∀ k, k ≠ 7 + 4 * i + 2 → zu g (7 + 4 * i + 2) m k = g k := fun k hk => z_un hk
  refine z_PI_mk ⟨?_, fun k hk => by rw [e k (by omega), f k (by omega)]; exact k0.2 k hk⟩ ⟨fun j hj => by rw [e _ (by omega)]; exact (z_PI_1 h).1 j hj, fun j hj => ?_⟩ (z_k2_c k0 (by rw [e 1 (by omega)]; exact Int.le_refl _) (e 2 (by omega)) (fun k _ hk => e k (by omega)) (fun k _ hk => f k (by omega)) (z_PI_2 h)) (z_k3_c k0 (by rw [e 1 (by omega)]; exact Int.le_refl _) (e 3 (by omega)) (fun x y _ => z_tk_c (e 2 (by omega)) (by omega) (fun k _ hk => e k (by omega))) (fun k hk => e _ (by omega)) (fun k _ hk => e k (by omega)) (fun k _ hk => f k (by omega)) (z_PI_3 h)) (z_k4_c k0 (e 0 (by omega)) (by rw [e 1 (by omega)]; exact Int.le_refl _) (by rw [e 3 (by omega)]; exact Int.le_refl _) (e 4 (by omega)) (fun k _ hk => e k (by omega)) (fun k _ hk => f k (by omega)) (z_PI_4 h)) (z_dis_c (e 2 (by omega)) (by omega) (fun k _ hk => e k (by omega)) (fun k hk => e k (by omega)) (z_PI_5 h)) (fun j hj => by rw [f _ (by omega)]; exact z_PI_6 h j hj)
  · unfold z_cnt4
    rw [e 0 (by omega), e 1 (by omega), e 2 (by omega), e 3 (by omega), e 4 (by omega)]
    exact k0.1
  · rw [e 1 (by omega)] at hj
    obtain ⟨q1, q2, q3, q4⟩ := (z_PI_1 h).2 j hj
    unfold z_stn at q1 ⊢
    rw [e 0 (by omega), e (7 + 4 * j) (by omega), e (7 + 4 * j + 1) (by omega), e (7 + 4 * j + 3) (by omega), f (7 + 4 * j) (by omega), f (7 + 4 * j + 1) (by omega)]
    by_cases q : j = i
    · rw [q, z_ue rfl, z_ue rfl]
      rw [q] at q1 q2 q3
      exact ⟨⟨hm, q1.2⟩, q2, q3, rfl⟩
    · rw [e _ (by omega), f _ (by omega)]
      exact ⟨q1, q2, q3, q4⟩
/-- a track is opened or closed -/
theorem z_open (h : z_PI b s g) {i : Nat} {o : Int} (hi : (i : Int) < s 2) (ho : z_bo o) : ∃ s', f_X4_openTrack (zV s) (zI i) (zI o) = some (zV s') ∧ z_PI b s' (zu g (39 + 4 * i + 3) o) ∧ (∀ k, k < 251 → k ≠ 39 + 4 * i + 3 → s' k = s k) := by
  have k0 := z_PI_0 h
  have k1 := z_PI_1 h
  have k2 := z_PI_2 h
  obtain ⟨c0, c1, c2, c3, c4⟩ := id k0.1
  have eu : ∀ k, k ≠ 39 + 4 * i + 3 → zu s (39 + 4 * i + 3) o k = s k := fun k hk => z_un hk
  have f : ∀ k, k ≠ 39 + 4 * i + 3 → zu g (39 + 4 * i + 3) o k = g k := fun k hk => z_un hk
  obtain ⟨s', m1, m2, m3⟩ := z_Cme (s := zu s (39 + 4 * i + 3) o) (by rw [eu 1 (by omega)]; exact c1) (by rw [eu 2 (by omega)]; exact c2) (fun k hk => by
    rw [eu 2 (by omega)] at hk
    have q := (k2.2 k hk).1
    unfold z_trk at q ⊢
    rw [eu 1 (by omega), eu _ (by omega), eu _ (by omega), eu _ (by omega)]
    exact q) (fun k hk => by
    by_cases q : k = i
    · rw [q, z_ue rfl]; exact ho
    · rw [eu _ (by omega)]; exact k2.1 k hk)
  have e : ∀ k, k < 251 → k ≠ 39 + 4 * i + 3 → s' k = s k := fun k h1 h2 => by rw [m2 k (by omega), eu k h2]
  have e3 : s' (39 + 4 * i + 3) = o := by rw [m2 _ (by omega), z_ue rfl]
  refine ⟨s', ?_, ?_, e⟩
  · unfold f_X4_openTrack
    unfold z_bo at ho
    simp (disch := omega) only [z_lit, z_n, z_add, z_sub, z_mul, z_neg, z_lt1, z_lt0, z_le1, z_le0, z_eq1, z_eq0, z_10, ↓reduceIte, z_v, z_upd, z_ue, z_un, z_ixn, z_ixo, z_ix0, z_ix1, z_ix2, z_ix3, z_ix4, z_ix5, z_ix6, Int.reduceToNat, z_inr, z_gd, ↓z_bnd, ↓z_jn, z_bdc, z_bd2, z_opn, z_ops, z_z01, z_Bt, z_Bf, m1]
  · refine z_PI_mk ⟨?_, fun k hk => by rw [e k (by omega) (by omega), f k (by omega)]; exact k0.2 k hk⟩ (z_k1_c k0 (e 0 (by omega) (by omega)) (e 1 (by omega) (by omega)) (fun k _ hk => e k (by omega) (by omega)) (fun k _ hk => f k (by omega)) k1) ⟨fun j hj => ?_, fun k hk => ?_⟩ (z_k3_c k0 (by rw [e 1 (by omega) (by omega)]; exact Int.le_refl _) (e 3 (by omega) (by omega)) (fun x y _ => z_tk_h (e 2 (by omega) (by omega)) (fun k hk => ⟨e _ (by omega) (by omega), e _ (by omega) (by omega)⟩) x y) (fun k hk => e _ (by omega) (by omega)) (fun k _ hk => e k (by omega) (by omega)) (fun k _ hk => f k (by omega)) (z_PI_3 h)) (z_k4_c k0 (e 0 (by omega) (by omega)) (by rw [e 1 (by omega) (by omega)]; exact Int.le_refl _) (by rw [e 3 (by omega) (by omega)]; exact Int.le_refl _) (e 4 (by omega) (by omega)) (fun k _ hk => e k (by omega) (by omega)) (fun k _ hk => f k (by omega)) (z_PI_4 h)) m3 (fun j hj => by rw [f _ (by omega)]; exact z_PI_6 h j hj)
    · unfold z_cnt4
      rw [e 0 (by omega) (by omega), e 1 (by omega) (by omega), e 2 (by omega) (by omega), e 3 (by omega) (by omega), e 4 (by omega) (by omega)]
      exact k0.1
    · by_cases q : j = i
      · rw [q, e3]; exact ho
      · rw [e _ (by omega) (by omega)]; exact k2.1 j hj
    · rw [e 2 (by omega) (by omega)] at hk
      obtain ⟨q1, q2⟩ := k2.2 k hk
      refine ⟨?_, fun j hj => ?_⟩
      · unfold z_trk at q1 ⊢
        rw [e 1 (by omega) (by omega), e _ (by omega) (by omega), e _ (by omega) (by omega), e _ (by omega) (by omega)]
        exact q1
      · by_cases q : 39 + 4 * k + j = 39 + 4 * i + 3
        · rw [q, e3, z_ue rfl]
        · rw [e _ (by omega) q, f _ q]
          exact q2 j hj
/-- a parcel is added -/
theorem z_addp (h : z_PI b s g) {x y p : Int} (hx : 0 ≤ x ∧ x < s 1) (hy : 0 ≤ y ∧ y < s 1) (hp : 1 ≤ p ∧ p ≤ 9) (h4 : s 4 < 12) : ∃ s' g', f_X4_makeParcel (zV s) (zI x) (zI y) (zI p) = some (zV s') ∧ f_X10_layParcel (zV g) (zI x) (zI y) (zI p) = some (zI (s 4), zV g') ∧ z_PI b s' g' ∧ s' 4 = s 4 + 1 ∧ (∀ k, k < 143 → k ≠ 4 → s' k = s k ∧ g' k = g k) := by
  have k0 := z_PI_0 h
  obtain ⟨c0, c1, c2, c3, c4⟩ := id k0.1
  obtain ⟨n, hn⟩ : ∃ n : Nat, s 4 = n := ⟨(s 4).toNat, by omega⟩
  have g4 := k0.2 4 (by omega)
  obtain ⟨s', hs'⟩ : ∃ s', s' = zu (zu (zu (zu (zu (zu (zu (zu (zu (zu s (143 + 9 * n) x) (143 + 9 * n + 1) y) (143 + 9 * n + 2) p) (143 + 9 * n + 3) x) (143 + 9 * n + 4) (-1)) (143 + 9 * n + 8) (-1)) (143 + 9 * n + 5) (-1)) (143 + 9 * n + 6) 0) (143 + 9 * n + 7) 0) 4 (s 4 + 1) := ⟨_, rfl⟩
  obtain ⟨g', hg'⟩ : ∃ g', g' = zu (zu (zu (zu (zu (zu (zu (zu (zu (zu g (143 + 9 * n) x) (143 + 9 * n + 1) y) (143 + 9 * n + 2) p) (143 + 9 * n + 3) x) (143 + 9 * n + 4) (-1)) (143 + 9 * n + 5) (-1)) (143 + 9 * n + 6) 0) (143 + 9 * n + 7) 0) (143 + 9 * n + 8) (-1)) 4 (s 4 + 1) := ⟨_, rfl⟩
  have e : ∀ k, ¬ (143 + 9 * n ≤ k ∧ k < 143 + 9 * n + 9) → k ≠ 4 → s' k = s k := fun k h1 h2 => by
    rw [hs']
    simp (disch := omega) only [z_un]
  have f : ∀ k, ¬ (143 + 9 * n ≤ k ∧ k < 143 + 9 * n + 9) → k ≠ 4 → g' k = g k := fun k h1 h2 => by
    rw [hg']
    simp (disch := omega) only [z_un]
  have s4 : s' 4 = s 4 + 1 := by rw [hs', z_ue rfl]
  have d0 : s' (143 + 9 * n) = x := by rw [hs']; simp (disch := omega) only [z_un, z_ue]
  have d1 : s' (143 + 9 * n + 1) = y := by rw [hs']; simp (disch := omega) only [z_un, z_ue]
  have d2 : s' (143 + 9 * n + 2) = p := by rw [hs']; simp (disch := omega) only [z_un, z_ue]
  have d3 : s' (143 + 9 * n + 3) = x := by rw [hs']; simp (disch := omega) only [z_un, z_ue]
  have d4 : s' (143 + 9 * n + 4) = -1 := by rw [hs']; simp (disch := omega) only [z_un, z_ue]
  have d5 : s' (143 + 9 * n + 5) = -1 := by rw [hs']; simp (disch := omega) only [z_un, z_ue]
  have d6 : s' (143 + 9 * n + 6) = 0 := by rw [hs']; simp (disch := omega) only [z_un, z_ue]
  have d7 : s' (143 + 9 * n + 7) = 0 := by rw [hs']; simp (disch := omega) only [z_un, z_ue]
  have d8 : s' (143 + 9 * n + 8) = -1 := by rw [hs']; simp (disch := omega) only [z_un, z_ue]
  have q0 : g' (143 + 9 * n) = x := by rw [hg']; simp (disch := omega) only [z_un, z_ue]
  have q1 : g' (143 + 9 * n + 1) = y := by rw [hg']; simp (disch := omega) only [z_un, z_ue]
  have q2 : g' (143 + 9 * n + 2) = p := by rw [hg']; simp (disch := omega) only [z_un, z_ue]
  have q3 : g' (143 + 9 * n + 3) = x := by rw [hg']; simp (disch := omega) only [z_un, z_ue]
  have q4 : g' (143 + 9 * n + 4) = -1 := by rw [hg']; simp (disch := omega) only [z_un, z_ue]
  have q5 : g' (143 + 9 * n + 5) = -1 := by rw [hg']; simp (disch := omega) only [z_un, z_ue]
  have q6 : g' (143 + 9 * n + 6) = 0 := by rw [hg']; simp (disch := omega) only [z_un, z_ue]
  have q7 : g' (143 + 9 * n + 7) = 0 := by rw [hg']; simp (disch := omega) only [z_un, z_ue]
  have q8 : g' (143 + 9 * n + 8) = -1 := by rw [hg']; simp (disch := omega) only [z_un, z_ue]
  refine ⟨s', g', ?_, ?_, ?_, s4, fun k hk h4 => ⟨e k (by omega) h4, f k (by omega) h4⟩⟩
  · unfold f_X4_makeParcel
    rw [hs']
    simp (disch := omega) only [z_lit, z_n, z_add, z_sub, z_mul, z_neg, z_lt1, z_lt0, z_le1, z_le0, z_eq1, z_eq0, z_10, ↓reduceIte, z_v, z_upd, z_ue, z_un, z_ixn, z_ixo, z_ix0, z_ix1, z_ix2, z_ix3, z_ix4, z_ix5, z_ix6, Int.reduceToNat, z_inr, z_gd, ↓z_bnd, ↓z_jn, z_bdc, z_bd2, z_opn, z_ops, z_z01, z_Bt, z_Bf, hn]
  · unfold f_X10_layParcel
    rw [hg']
    simp (disch := omega) only [z_lit, z_n, z_add, z_sub, z_mul, z_neg, z_lt1, z_lt0, z_le1, z_le0, z_eq1, z_eq0, z_10, ↓reduceIte, z_v, z_upd, z_ue, z_un, z_ixn, z_ixo, z_ix0, z_ix1, z_ix2, z_ix3, z_ix4, z_ix5, z_ix6, Int.reduceToNat, z_inr, z_gd, ↓z_bnd, ↓z_jn, z_bdc, z_bd2, z_opn, z_ops, z_z01, z_Bt, z_Bf, z_ofP, g4, hn, Nat.add_zero]
    rw [show (n : Int) + 1 - 1 = n by omega]
  · have lo : ∀ k, k < 143 → k ≠ 4 → s' k = s k := fun k hk h4 => e k (by omega) h4
    have lg : ∀ k, k < 143 → k ≠ 4 → g' k = g k := fun k hk h4 => f k (by omega) h4
    refine z_PI_mk ⟨?_, fun k hk => ?_⟩ (z_k1_c k0 (lo 0 (by omega) (by omega)) (lo 1 (by omega) (by omega)) (fun k _ hk => lo k (by omega) (by omega)) (fun k _ hk => lg k (by omega) (by omega)) (z_PI_1 h)) (z_k2_c k0 (by rw [lo 1 (by omega) (by omega)]; exact Int.le_refl _) (lo 2 (by omega) (by omega)) (fun k _ hk => lo k (by omega) (by omega)) (fun k _ hk => lg k (by omega) (by omega)) (z_PI_2 h)) (z_k3_c k0 (by rw [lo 1 (by omega) (by omega)]; exact Int.le_refl _) (lo 3 (by omega) (by omega)) (fun x y _ => z_tk_c (lo 2 (by omega) (by omega)) (by omega) (fun k _ hk => lo k (by omega) (by omega))) (fun k hk => lo _ (by omega) (by omega)) (fun k _ hk => lo k (by omega) (by omega)) (fun k _ hk => lg k (by omega) (by omega)) (z_PI_3 h)) ?_ (z_dis_c (lo 2 (by omega) (by omega)) (by omega) (fun k _ hk => lo k (by omega) (by omega)) (fun k hk => e k (by omega) (by omega)) (z_PI_5 h)) (fun j hj => by rw [lg _ (by omega) (by omega)]; exact z_PI_6 h j hj)
    · unfold z_cnt4
      rw [lo 0 (by omega) (by omega), lo 1 (by omega) (by omega), lo 2 (by omega) (by omega), lo 3 (by omega) (by omega), s4]
      exact ⟨c0, c1, c2, c3, by omega⟩
    · by_cases c : k = 4
      · rw [c, s4, hg', z_ue rfl]
      · rw [lo k (by omega) c, lg k (by omega) c]
        exact k0.2 k hk
    · intro j hj
      rw [s4] at hj
      by_cases q : j = n
      · rw [q]
        refine ⟨?_, fun m hm => ?_⟩
        · unfold z_pcl
          rw [d0, d1, d2, d3, d4, d5, d7, d8, lo 0 (by omega) (by omega), lo 1 (by omega) (by omega), lo 3 (by omega) (by omega)]
          exact ⟨hx, hy, hp, by omega, by omega, by omega, by omega, by omega, Or.inl ⟨by omega, rfl, rfl, rfl⟩⟩
        · rcases z_j9 hm with c | c | c | c | c | c | c | c | c <;> subst c
          · simp only [Nat.add_zero]; rw [d0, q0]
          · rw [d1, q1]
          · rw [d2, q2]
          · rw [d3, q3]
          · rw [d4, q4]
          · rw [d5, q5]
          · rw [d6, q6]
          · rw [d7, q7]
          · rw [d8, q8]
      · obtain ⟨w1, w2⟩ := z_PI_4 h j (by omega)
        refine ⟨?_, fun m hm => by rw [e _ (by omega) (by omega), f _ (by omega) (by omega)]; exact w2 m hm⟩
        unfold z_pcl at w1 ⊢
        rw [lo 0 (by omega) (by omega), lo 1 (by omega) (by omega), lo 3 (by omega) (by omega), e (143 + 9 * j) (by omega) (by omega), e (143 + 9 * j + 1) (by omega) (by omega), e (143 + 9 * j + 2) (by omega) (by omega), e (143 + 9 * j + 3) (by omega) (by omega), e (143 + 9 * j + 4) (by omega) (by omega), e (143 + 9 * j + 5) (by omega) (by omega), e (143 + 9 * j + 7) (by omega) (by omega), e (143 + 9 * j + 8) (by omega) (by omega)]
        exact w1
end Ops
