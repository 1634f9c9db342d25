/-! the state that a text of the law has made so far -/
def x_g (n m t c : Nat) (g : Nat → Int) : Prop := (g 1 = (n : Int) ∧ g 2 = (m : Int) ∧ g 3 = (t : Int) ∧ g 4 = (c : Int) ∧ g 5 = 0 ∧ g 6 = 0) ∧ (∀ i : Nat, i < n → g (7 + 4 * i) = ((((i : Int) + 1) * 27 + 0) * 27 + 0) * 27 + 0) ∧ (m ≤ n ∧ ∀ k : Nat, k < m → g (39 + 4 * k) = (if k + 1 < n then (k : Int) else 0) ∧ g (39 + 4 * k + 1) = (if k + 1 < n then (k : Int) + 1 else (k : Int))) ∧ (∀ i : Nat, i < t → g (87 + 14 * i + 8) = 0 ∧ g (87 + 14 * i + 9) = 1 ∧ g (87 + 14 * i + 10) = -1 ∧ g (87 + 14 * i + 11) = 0 ∧ g (87 + 14 * i + 12) = 0 ∧ g (87 + 14 * i + 13) = 0) ∧ (∀ i : Nat, i < c → g (143 + 9 * i + 3) = g (143 + 9 * i) ∧ g (143 + 9 * i + 4) = -1 ∧ g (143 + 9 * i + 5) = -1 ∧ g (143 + 9 * i + 6) = 0 ∧ g (143 + 9 * i + 7) = 0 ∧ g (143 + 9 * i + 8) = -1)
def x_G (n m t c : Nat) (s g : Nat → Int) : Prop := z_PI 0 s g ∧ y_z s g ∧ x_g n m t c g
section Ing
variable {s s' g g' g1 : Nat → Int} {n m t c : Nat}
theorem x_G_c (h : x_G n m t c s g) : s 1 = (n : Int) ∧ s 2 = (m : Int) ∧ s 3 = (t : Int) ∧ s 4 = (c : Int) ∧ s 5 = 0 ∧ s 6 = 0 := by
  have k := (z_PI_0 h.1).2
  obtain ⟨a1, a2, a3, a4, a5, a6⟩ := h.2.2.1
  exact ⟨(k 1 (by omega)).symm.trans a1, (k 2 (by omega)).symm.trans a2, (k 3 (by omega)).symm.trans a3, (k 4 (by omega)).symm.trans a4, (k 5 (by omega)).symm.trans a5, (k 6 (by omega)).symm.trans a6⟩
theorem x_G_nm (h : x_G n m t c s g) : x_nm s := fun i hi => by
  have cc := x_G_c h
  obtain ⟨-, ⟨a, b, c', d, hl, e1, e2⟩, -⟩ := (z_PI_1 h.1).2 i hi
  have q := h.2.2.2.1 i (by omega)
  obtain ⟨p1, p2, p3, p4, p5, p6⟩ := hl
  rw [q] at e2
  have e : b = 0 ∧ a = (i : Int) + 1 := by omega
  rw [e1]
  unfold z_pk
  rw [if_pos e.1]
  omega
theorem x_G_t (h : x_G n m t c s g) {k : Nat} (hk : k < m) : s (39 + 4 * k) = (if k + 1 < n then (k : Int) else 0) ∧ s (39 + 4 * k + 1) = (if k + 1 < n then (k : Int) + 1 else (k : Int)) := by
  have cc := x_G_c h
  have q := ((z_PI_2 h.1).2 k (by omega)).2
  have r := h.2.2.2.2.1.2 k hk
  exact ⟨(q 0 (by omega)).symm.trans r.1, (q 1 (by omega)).symm.trans r.2⟩
theorem x_tk_no {a b : Int} (h : ∀ k : Nat, (k : Int) < s 2 → ¬ ((s (39 + 4 * k) = a ∧ s (39 + 4 * k + 1) = b) ∨ (s (39 + 4 * k) = b ∧ s (39 + 4 * k + 1) = a))) : z_tk s a b = none := by
  cases q : z_tk s a b with
  | none => rfl
  | some k => exact absurd (x_tk_cn q).2 (h k (x_tk_cn q).1)
theorem x_tk_so {a b : Int} {k : Nat} (hk : (k : Int) < s 2) (e : (s (39 + 4 * k) = a ∧ s (39 + 4 * k + 1) = b) ∨ (s (39 + 4 * k) = b ∧ s (39 + 4 * k + 1) = a)) : z_tk s a b ≠ none := fun q => by
  have f : z_cn s a b k = false := z_ff_n _ _ q k (by omega) (by omega)
  have t : z_cn s a b k = true := decide_eq_true e
  rw [t] at f
  cases f
theorem x_G_un (h : x_G n m t c s g) (h3 : 3 ≤ n) : x_un s := fun k hk => by
  have cc := x_G_c h
  have hm := h.2.2.2.2.1.1
  obtain ⟨k1, k2⟩ := x_G_t h (k := k) (by omega)
  cases q : z_tk s (s (39 + 4 * k)) (s (39 + 4 * k + 1)) with
  | none => exact absurd q (x_tk_so hk (Or.inl ⟨rfl, rfl⟩))
  | some j =>
    obtain ⟨j0, j1⟩ := x_tk_cn q
    obtain ⟨j2, j3⟩ := x_G_t h (k := j) (by omega)
    refine congrArg some ?_
    by_cases e1 : k + 1 < n
    · rw [if_pos e1] at k1 k2
      by_cases e2 : j + 1 < n
      · rw [if_pos e2] at j2 j3
        omega
      · rw [if_neg e2] at j2 j3
        omega
    · rw [if_neg e1] at k1 k2
      by_cases e2 : j + 1 < n
      · rw [if_pos e2] at j2 j3
        omega
      · rw [if_neg e2] at j2 j3
        omega
theorem x_ct0 {p : Nat → Bool} : ∀ d i, (∀ j, i ≤ j → j < i + d → p j = false) → z_ct p i d = 0
  | 0, _, _ => rfl
  | d + 1, i, h => by
    rw [show z_ct p i (d + 1) = (if p i then 1 else 0) + z_ct p (i + 1) d from rfl, h i (by omega) (by omega), if_neg (by decide), x_ct0 d (i + 1) (fun j h1 h2 => h j (by omega) (by omega))]
    rfl
theorem x_G_fs (h : x_G n m t c s g) : x_fs s := by
  have cc := x_G_c h
  have c0 := (z_PI_0 h.1).1.1
  obtain ⟨-, -, -, ht, hp⟩ := h.2.2
  refine ⟨by omega, cc.2.2.2.2.1, cc.2.2.2.2.2, fun i hi => ?_, fun i hi => ?_⟩
  · obtain ⟨-, -, -, q8, q9, qv, q11, q12, q13⟩ := ((z_PI_3 h.1).2 i hi).2
    obtain ⟨h8, h9, h10, h11, h12, h13⟩ := ht i (by omega)
    have bo := (z_PI_3 h.1).1 i (by have := h.1.1.1.2.2.2.1; omega)
    unfold z_bo at bo
    unfold z_tv at qv
    refine ⟨q8.symm.trans h8, by omega, ?_, q11.symm.trans h11, q12.symm.trans h12, q13.symm.trans h13⟩
    rcases qv with qv | ⟨-, qv, -⟩
    · exact qv.1
    · omega
  · have q := ((z_PI_4 h.1) i hi).2
    obtain ⟨h3, h4, h5, h6, h7, h8⟩ := hp i (by omega)
    have q0 : g (143 + 9 * i) = s (143 + 9 * i) := q 0 (by omega)
    exact ⟨(q 3 (by omega)).symm.trans (h3.trans q0), (q 4 (by omega)).symm.trans h4, (q 5 (by omega)).symm.trans h5, (q 6 (by omega)).symm.trans h6, (q 7 (by omega)).symm.trans h7, (q 8 (by omega)).symm.trans h8⟩
theorem x_G_J (h : x_G n m t c s g) (h3 : 3 ≤ n) : x_J 0 s := by
  have cc := x_G_c h
  have fs := x_G_fs h
  refine ⟨h.1.1, x_G_un h h3, ?_⟩
  unfold x_ba
  rw [cc.2.2.2.2.1, cc.2.2.2.2.2, x_ct0 _ _ (fun j _ hj => ?_)]
  · rfl
  · unfold z_np at hj
    have q := (fs.2.2.2.2 j (by omega)).2.1
    unfold x_cq
    rw [q]
    rfl
theorem x_gu1 {v : Int} (h : x_g n 0 0 0 g) : x_g (n + 1) 0 0 0 (y_G1 g n (((((n : Int) + 1) * 27 + 0) * 27 + 0) * 27 + 0) v) := by
  obtain ⟨⟨a1, a2, a3, a4, a5, a6⟩, b, -, -, -⟩ := h
  unfold y_G1
  refine ⟨⟨by rw [z_ue rfl]; rfl, by rw [z_un (by omega), z_un (by omega), z_un (by omega)]; exact a2, by rw [z_un (by omega), z_un (by omega), z_un (by omega)]; exact a3, by rw [z_un (by omega), z_un (by omega), z_un (by omega)]; exact a4, by rw [z_un (by omega), z_un (by omega), z_un (by omega)]; exact a5, by rw [z_un (by omega), z_un (by omega), z_un (by omega)]; exact a6⟩, fun i hi => ?_, ⟨by omega, fun k hk => absurd hk (by omega)⟩, fun k hk => absurd hk (by omega), fun k hk => absurd hk (by omega)⟩
  by_cases e : i = n
  · rw [e, z_un (by omega), z_un (by omega), z_ue rfl]
  · rw [z_un (by omega), z_un (by omega), z_un (by omega)]
    exact b i (by omega)
theorem x_gu2 {a b w : Int} (h : x_g n m 0 0 g) (hm : m < n) (h8 : n ≤ 8) (ha : a = if m + 1 < n then (m : Int) else 0) (hb : b = if m + 1 < n then (m : Int) + 1 else (m : Int)) : x_g n (m + 1) 0 0 (y_G2 g m a b w) := by
  obtain ⟨⟨a1, a2, a3, a4, a5, a6⟩, bn, ⟨-, r⟩, -, -⟩ := h
  have f : ∀ k, ¬ (39 + 4 * m ≤ k ∧ k < 39 + 4 * m + 4) → k ≠ 2 → y_G2 g m a b w k = g k := fun k h1 h2 => by
    unfold y_G2
    rw [z_un (by omega), z_un (by omega), z_un (by omega), z_un (by omega), z_un (by omega)]
  refine ⟨⟨by rw [f _ (by omega) (by omega)]; exact a1, by unfold y_G2; rw [z_ue rfl]; rfl, by rw [f _ (by omega) (by omega)]; exact a3, by rw [f _ (by omega) (by omega)]; exact a4, by rw [f _ (by omega) (by omega)]; exact a5, by rw [f _ (by omega) (by omega)]; exact a6⟩, fun i hi => by rw [f _ (by omega) (by omega)]; exact bn i hi, ⟨by omega, fun k hk => ?_⟩, fun k hk => absurd hk (by omega), fun k hk => absurd hk (by omega)⟩
  by_cases e : k = m
  · subst e
    rw [← ha, ← hb]
    unfold y_G2
    refine ⟨?_, ?_⟩
    · rw [z_un (by omega), z_un (by omega), z_un (by omega), z_un (by omega), z_ue rfl]
    · rw [z_un (by omega), z_un (by omega), z_un (by omega), z_ue rfl]
  · rw [f _ (by omega) (by omega), f _ (by omega) (by omega)]
    exact r k (by omega)
theorem x_gu3 {cc : Int} {L : Nat} (h : x_g n m t 0 g) (h8 : n ≤ 8) (h12 : m ≤ 12) (ht : t < 4) (hL : L ≤ 6) (f1 : ∀ k, ¬ (87 + 14 * t + 2 ≤ k ∧ k < 87 + 14 * t + 2 + L) → g1 k = g k) (z : g (87 + 14 * t + 8) = 0 ∧ g (87 + 14 * t + 11) = 0 ∧ g (87 + 14 * t + 12) = 0 ∧ g (87 + 14 * t + 13) = 0) : x_g n m (t + 1) 0 (y_G3 g1 t cc L) := by
  obtain ⟨⟨a1, a2, a3, a4, a5, a6⟩, bn, ⟨b0, r⟩, tr, -⟩ := h
  have f : ∀ k, ¬ (87 + 14 * t ≤ k ∧ k < 87 + 14 * t + 8) → k ≠ 87 + 14 * t + 9 → k ≠ 87 + 14 * t + 10 → k ≠ 3 → y_G3 g1 t cc L k = g k := fun k h1 h2 h3 h4 => by
    unfold y_G3
    rw [z_un (by omega), z_un (by omega), z_un (by omega), z_un (by omega), z_un (by omega), f1 k (by omega)]
  refine ⟨⟨by rw [f _ (by omega) (by omega) (by omega) (by omega)]; exact a1, by rw [f _ (by omega) (by omega) (by omega) (by omega)]; exact a2, by unfold y_G3; rw [z_ue rfl]; rfl, by rw [f _ (by omega) (by omega) (by omega) (by omega)]; exact a4, by rw [f _ (by omega) (by omega) (by omega) (by omega)]; exact a5, by rw [f _ (by omega) (by omega) (by omega) (by omega)]; exact a6⟩, fun i hi => by rw [f _ (by omega) (by omega) (by omega) (by omega)]; exact bn i hi, ⟨b0, fun k hk => by rw [f _ (by omega) (by omega) (by omega) (by omega), f _ (by omega) (by omega) (by omega) (by omega)]; exact r k hk⟩, fun k hk => ?_, fun k hk => absurd hk (by omega)⟩
  by_cases e : k = t
  · subst e
    have e9 : y_G3 g1 k cc L (87 + 14 * k + 9) = 1 := by
      unfold y_G3
      rw [z_un (by omega), z_un (by omega), z_ue rfl]
    have e10 : y_G3 g1 k cc L (87 + 14 * k + 10) = -1 := by
      unfold y_G3
      rw [z_un (by omega), z_ue rfl]
    rw [e9, e10, f _ (by omega) (by omega) (by omega) (by omega), f _ (by omega) (by omega) (by omega) (by omega), f _ (by omega) (by omega) (by omega) (by omega), f _ (by omega) (by omega) (by omega) (by omega)]
    exact ⟨z.1, rfl, rfl, z.2.1, z.2.2.1, z.2.2.2⟩
  · rw [f _ (by omega) (by omega) (by omega) (by omega), f _ (by omega) (by omega) (by omega) (by omega), f _ (by omega) (by omega) (by omega) (by omega), f _ (by omega) (by omega) (by omega) (by omega), f _ (by omega) (by omega) (by omega) (by omega), f _ (by omega) (by omega) (by omega) (by omega)]
    exact tr k (by omega)
theorem x_gu5 {x y p : Int} (h : x_g n m t c g) (h8 : n ≤ 8) (h12 : m ≤ 12) (ht : t ≤ 4) : x_g n m t (c + 1) (y_G5 g c x y p) := by
  obtain ⟨⟨a1, a2, a3, a4, a5, a6⟩, bn, ⟨b0, r⟩, tr, pa⟩ := h
  have f : ∀ k, ¬ (143 + 9 * c ≤ k ∧ k < 143 + 9 * c + 9) → k ≠ 4 → y_G5 g c x y p k = g k := fun k h1 h2 => by
    unfold y_G5
    simp (disch := omega) only [z_un]
  refine ⟨⟨by rw [f _ (by omega) (by omega)]; exact a1, by rw [f _ (by omega) (by omega)]; exact a2, by rw [f _ (by omega) (by omega)]; exact a3, by unfold y_G5; rw [z_ue rfl]; rfl, by rw [f _ (by omega) (by omega)]; exact a5, by rw [f _ (by omega) (by omega)]; exact a6⟩, fun i hi => by rw [f _ (by omega) (by omega)]; exact bn i hi, ⟨b0, fun k hk => by rw [f _ (by omega) (by omega), f _ (by omega) (by omega)]; exact r k hk⟩, fun k hk => by rw [f _ (by omega) (by omega), f _ (by omega) (by omega), f _ (by omega) (by omega), f _ (by omega) (by omega), f _ (by omega) (by omega), f _ (by omega) (by omega)]; exact tr k hk, fun k hk => ?_⟩
  by_cases e : k = c
  · subst e
    unfold y_G5
    refine ⟨?_, ?_, ?_, ?_, ?_, ?_⟩ <;> simp (disch := omega) only [z_un, z_ue]
  · rw [f _ (by omega) (by omega), f _ (by omega) (by omega), f _ (by omega) (by omega), f _ (by omega) (by omega), f _ (by omega) (by omega), f _ (by omega) (by omega), f _ (by omega) (by omega)]
    exact pa k (by omega)
theorem x_gu6 {a : Nat} {w : Int} (h : x_g n m t c g) (ha : a < n) (h8 : n ≤ 8) : x_g n m t c (zu g (7 + 4 * a + 2) w) := by
  obtain ⟨⟨a1, a2, a3, a4, a5, a6⟩, bn, ⟨b0, r⟩, tr, pa⟩ := h
  have f : ∀ k, k ≠ 7 + 4 * a + 2 → zu g (7 + 4 * a + 2) w k = g k := fun k h1 => z_un h1
  refine ⟨⟨by rw [f _ (by omega)]; exact a1, by rw [f _ (by omega)]; exact a2, by rw [f _ (by omega)]; exact a3, by rw [f _ (by omega)]; exact a4, by rw [f _ (by omega)]; exact a5, by rw [f _ (by omega)]; exact a6⟩, fun i hi => by rw [f _ (by omega)]; exact bn i hi, ⟨b0, fun k hk => by rw [f _ (by omega), f _ (by omega)]; exact r k hk⟩, fun k hk => by rw [f _ (by omega), f _ (by omega), f _ (by omega), f _ (by omega), f _ (by omega), f _ (by omega)]; exact tr k hk, fun k hk => by rw [f _ (by omega), f _ (by omega), f _ (by omega), f _ (by omega), f _ (by omega), f _ (by omega), f _ (by omega)]; exact pa k hk⟩
/-! a statement more -/
theorem x_Gs1 {j : Nat} (h : x_G n 0 0 0 s g) (hn : n < 8) (hj : j = 1 ∨ j = 2) : ∃ s' g', x_seq s g (x_KB j ++ 32 :: [97 + (n : Int), 59]) 1 s' g' ∧ x_G (n + 1) 0 0 0 s' g' := by
  have cc := x_G_c h
  obtain ⟨s', e1, e2, e3⟩ := x_s1 (j := j) (v := (j : Int) - 1) cc.1 hn h.1 h.2.1 (x_G_nm h) (by omega)
  exact ⟨s', _, e1, e2, e3, x_gu1 h.2.2⟩
theorem x_Gs3 {a b : Nat} {w : Int} (h : x_G n m 0 0 s g) (h3 : 3 ≤ n) (h8 : n ≤ 8) (hab : (a = m ∧ b = m + 1 ∧ m + 1 < n) ∨ (a = 0 ∧ b = m ∧ m + 1 = n)) (hw : 1 ≤ w ∧ w ≤ 9) : ∃ s' g', x_seq s g (x_KB 3 ++ 32 :: [97 + (a : Int), 32, 97 + (b : Int), 32, 48 + w, 59]) 1 s' g' ∧ x_G n (m + 1) 0 0 s' g' := by
  have cc := x_G_c h
  obtain ⟨s', e1, e2, e3⟩ := x_s3 (a := a) (b := b) cc.2.1 (by omega) h.1 h.2.1 (x_G_nm h) (by omega) (by omega) (by omega) (x_tk_no fun k hk => by
    obtain ⟨q1, q2⟩ := x_G_t h (k := k) (by omega)
    rw [if_pos (by omega)] at q1 q2
    omega) hw
  refine ⟨s', _, e1, e2, e3, x_gu2 h.2.2 (by omega) h8 ?_ ?_⟩
  · split <;> omega
  · split <;> omega
theorem x_Gs4 {L : Nat} {ro : Nat → Nat} {k : Int} (h : x_G n m t 0 s g) (h8 : n ≤ 8) (ht : t < 4) (hk : 1 ≤ k ∧ k ≤ 4) (hL : 2 ≤ L ∧ L ≤ 6) (hr : ∀ j, j < L → ro j < n) (hlk : ∀ j, j + 1 < L → ∃ i, i < m ∧ i + 1 < n ∧ ((ro j = i ∧ ro (j + 1) = i + 1) ∨ (ro j = i + 1 ∧ ro (j + 1) = i))) : ∃ s' g', x_seq s g (x_KB 4 ++ 32 :: (48 + k) :: (x_RB ro L ++ [59])) 1 s' g' ∧ x_G n m (t + 1) 0 s' g' := by
  have cc := x_G_c h
  obtain ⟨s', g1, e1, e2, e3, e4⟩ := x_s4 (ro := ro) cc.2.2.1 ht h.1 h.2.1 (x_G_nm h) hk hL (fun j hj => by have := hr j hj; omega) (fun j hj => by
    obtain ⟨i, i1, i2, i3⟩ := hlk j hj
    obtain ⟨q1, q2⟩ := x_G_t h (k := i) i1
    rw [if_pos i2] at q1 q2
    exact x_tk_so (k := i) (by omega) (by omega))
  exact ⟨s', _, e1, e2, e3, x_gu3 h.2.2 h8 (by have := h.2.2.2.2.1.1; omega) ht hL.2 e4 (h.2.1.2 t (by omega) ht)⟩
theorem x_Gs5 {a b : Nat} {w : Int} (h : x_G n m t c s g) (h8 : n ≤ 8) (hc : c < 12) (ha : a < n) (hb : b < n) (ne : a ≠ b) (hw : 1 ≤ w ∧ w ≤ 9) : ∃ s' g', x_seq s g (x_KB 5 ++ 32 :: [97 + (a : Int), 32, 97 + (b : Int), 32, 48 + w, 59]) 1 s' g' ∧ x_G n m t (c + 1) s' g' := by
  have cc := x_G_c h
  have c3 := h.1.1.1.2.2.2.1
  have hm := h.2.2.2.2.1.1
  obtain ⟨s', e1, e2, e3⟩ := x_s5 (a := a) (b := b) cc.2.2.2.1 hc h.1 h.2.1 (x_G_nm h) (by omega) (by omega) ne hw
  exact ⟨s', _, e1, e2, e3, x_gu5 h.2.2 h8 (by omega) (by omega)⟩
theorem x_Gs6 {a : Nat} {w : Int} (h : x_G n m t c s g) (h8 : n ≤ 8) (ha : a < n) (hw : 0 ≤ w ∧ w ≤ 9) : ∃ s' g', x_seq s g (x_KB 6 ++ 32 :: [97 + (a : Int), 32, 48 + w, 59]) 1 s' g' ∧ x_G n m t c s' g' := by
  have cc := x_G_c h
  obtain ⟨e1, e2, e3⟩ := x_s6 (a := a) h.1 h.2.1 (x_G_nm h) (by omega) hw
  exact ⟨_, _, e1, e2, e3, x_gu6 h.2.2 ha h8⟩
end Ing
