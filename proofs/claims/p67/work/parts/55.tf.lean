/-! all units: helpers -/
theorem z_l0 : (0 : Int32) = zI 0 := z_lit 0
theorem z_l2 : (2 : Int32) = zI 2 := z_lit 2
theorem z_l9 : (9 : Int32) = zI 9 := z_lit 9
theorem z_l60 : (60 : Int32) = zI 60 := z_lit 60
theorem z_l120 : (120 : Int32) = zI 120 := z_lit 120
theorem z_l1 : (1 : Int32) = zI 1 := z_lit 1
section Wlv
variable {W W' : Nat → Nat → Int32} {b : Int}
theorem z_w2e {u k : Nat} {v : Int32} : w2 W u k v u k = v := by
  unfold w2 setU upd
  rw [if_pos rfl, if_pos rfl]
theorem z_w2k {u k j : Nat} {v : Int32} (h : j ≠ k) : w2 W u k v u j = W u j := by
  unfold w2 setU upd
  rw [if_pos rfl, if_neg h]
theorem z_w2u {u k x : Nat} {v : Int32} (h : x ≠ u) : w2 W u k v x = W x := by
  unfold w2 setU
  rw [if_neg h]
theorem z_w2w {u k : Nat} {v x : Int32} : w2 (w2 W u k v) u k x = w2 W u k x := by
  funext y j
  unfold w2 setU upd
  by_cases c : y = u
  · rw [if_pos c, if_pos c, if_pos rfl]
    by_cases d : j = k
    · rw [if_pos d, if_pos d]
    · rw [if_neg d, if_neg d, if_neg d]
  · rw [if_neg c, if_neg c, if_neg c]
theorem z_sUe {u : Nat} {S : Nat → Int32} : setU W u S u = S := if_pos rfl
theorem z_sUu {u x : Nat} {S : Nat → Int32} (h : x ≠ u) : setU W u S x = W x := if_neg h
theorem z_any (F : Nat → Int32) : ∃ f : Nat → Int, F = zV f ∧ ∀ k, zR (f k) := ⟨fun k => (F k).toInt, by funext k; exact (z_of (F k)).symm, fun k => ⟨Int32.le_toInt _, Int32.toInt_lt _⟩⟩
theorem z_arg (a : Int32) : ∃ x : Int, a = zI x ∧ zR x := ⟨a.toInt, (z_of a).symm, Int32.le_toInt _, Int32.toInt_lt _⟩
/-- a State of the class and a row of the reference that say the same -/
def z_pr (b : Int) (S G : Nat → Int32) : Prop := ∃ s g, S = zV s ∧ (∀ k, k < 251 → G k = zI (g k)) ∧ z_PI b s g
/-- the thrown cell -/
def z_th (W : Nat → Nat → Int32) (c : Int) : Nat → Nat → Int32 := w2 W 30 2 (zI c)
theorem z_thth {c d : Int} : z_th (z_th W c) d = z_th W d := z_w2w
theorem z_thu {c : Int} {x : Nat} (h : x ≠ 30) : z_th W c x = W x := z_w2u h
theorem z_thk {c : Int} {k : Nat} (h : k ≠ 2) : z_th W c 30 k = W 30 k := z_w2k h
theorem z_the {c : Int} : z_th W c 30 2 = zI c := z_w2e
def z_out (x l h : Int) : Int := if l ≤ x ∧ x ≤ h then 0 else 1
theorem z_o0 {x l h : Int} (c : l ≤ x ∧ x ≤ h) : z_out x l h = 0 := if_pos c
theorem z_o1 {x l h : Int} (c : ¬ (l ≤ x ∧ x ≤ h)) : z_out x l h = 1 := if_neg c
end Wlv
/-! answers: what the law compares -/
def z_EQ (W W' : Nat → Nat → Int32) : Prop := (∀ u, u ≠ 1 → u ≠ 21 → u ≠ 23 → u ≠ 27 → u ≠ 30 → u ≠ 31 → W' u = W u) ∧ (∀ k, k < 251 → W' 21 k = W 21 k) ∧ (∀ k, k ≠ 2 → W' 30 k = W 30 k)
def z_AG (l : Option (Int32 × (Nat → Nat → Int32))) (m : (Nat → Nat → Int32) → Option (Int32 × (Nat → Nat → Int32))) (P : (Nat → Nat → Int32) → Prop) : Prop := ∃ c v W1 W3, l = some (zI c, W1) ∧ m W1 = some (v, W3) ∧ W3 30 2 = zI c ∧ 0 ≤ c ∧ c ≤ 3 ∧ (c = 0 → W3 31 0 = v) ∧ P W3
section Ans
variable {W W' : Nat → Nat → Int32} {b : Int} {s g : Nat → Int} {P : (Nat → Nat → Int32) → Prop}
theorem z_EQ_r : z_EQ W W := ⟨fun _ _ _ _ _ _ _ => rfl, fun _ _ => rfl, fun _ _ => rfl⟩
theorem z_EQ_t {W'' : Nat → Nat → Int32} (h1 : z_EQ W W') (h2 : z_EQ W' W'') : z_EQ W W'' := ⟨fun u a b c d e f => by rw [h2.1 u a b c d e f, h1.1 u a b c d e f], fun k hk => by rw [h2.2.1 k hk, h1.2.1 k hk], fun k hk => by rw [h2.2.2 k hk, h1.2.2 k hk]⟩
theorem z_EQ_th {c : Int} : z_EQ W (z_th W c) := ⟨fun u _ _ _ _ h _ => z_thu h, fun k _ => by rw [z_thu (by omega)], fun k hk => z_thk hk⟩
theorem z_EQ_31 {v : Int32} : z_EQ W (w2 W 31 0 v) := ⟨fun u _ _ _ _ _ h => z_w2u h, fun k _ => by rw [z_w2u (by omega)], fun k hk => by rw [z_w2u (by omega)]⟩
theorem z_EQ_1 {S : Nat → Int32} : z_EQ W (setU W 1 S) := ⟨fun u h _ _ _ _ _ => z_sUu h, fun k _ => by rw [z_sUu (by omega)], fun k hk => by rw [z_sUu (by omega)]⟩
theorem z_cmp {x : Int64} : lg_cmp x x = 0 := by
  unfold lg_cmp
  rw [if_neg, if_pos rfl]
  exact Int64.lt_irrefl
/-- checks of the class -/
theorem z_Ck {a n : Int} {W0 : Int32} (h : W0 = zI n) (hn : 0 ≤ n ∧ n ≤ 12) (ha : zR a) {R : Type} (A B : R) : (if zI a < 0 then A else if zI a < W0 then B else A) = if 0 ≤ a ∧ a < n then B else A := by
  unfold zR at ha
  rw [h, z_l0]
  by_cases c : a < 0
  · rw [z_ltT c (by omega) (by omega), if_neg (by omega)]
  · rw [z_ltF (by omega) (by omega) (by omega)]
    by_cases d : a < n
    · rw [z_ltT d (by omega) (by omega), if_pos (by omega)]
    · rw [z_ltF (by omega) (by omega) (by omega), if_neg (by omega)]
theorem z_Cst (h0 : W 0 = zV s) (hn : 0 ≤ s 1 ∧ s 1 ≤ 8) {a : Int} (ha : zR a) : f_X9_checkStation W (zI a) = if 0 ≤ a ∧ a < s 1 then some (.inr ()) else some (.inl "java/lang/IndexOutOfBoundsException") := by
  unfold f_X9_checkStation
  rw [z_Ck (n := s 1) (by rw [h0]; rfl) (by omega) ha]
theorem z_Ctn (h0 : W 0 = zV s) (hn : 0 ≤ s 3 ∧ s 3 ≤ 4) {a : Int} (ha : zR a) : f_X9_checkTrain W (zI a) = if 0 ≤ a ∧ a < s 3 then some (.inr ()) else some (.inl "java/lang/IndexOutOfBoundsException") := by
  unfold f_X9_checkTrain
  rw [z_Ck (n := s 3) (by rw [h0]; rfl) (by omega) ha]
theorem z_Cpl (h0 : W 0 = zV s) (hn : 0 ≤ s 4 ∧ s 4 ≤ 12) {a : Int} (ha : zR a) : f_X9_checkParcel W (zI a) = if 0 ≤ a ∧ a < s 4 then some (.inr ()) else some (.inl "java/lang/IndexOutOfBoundsException") := by
  unfold f_X9_checkParcel
  rw [z_Ck (n := s 4) (by rw [h0]; rfl) (by omega) ha]
/-- what every query has at hand -/
def z_Q (b : Int) (W : Nat → Nat → Int32) (s g : Nat → Int) : Prop := W 0 = zV s ∧ (∀ k, k < 251 → W 21 k = zI (g k)) ∧ z_PI b s g
theorem z_Q_of (h : z_pr b (W 0) (W 21)) : ∃ s g, z_Q b W s g := h
theorem z_Q_31 {v : Int32} (h : z_Q b W s g) : z_Q b (w2 W 31 0 v) s g := ⟨by rw [z_w2u (by omega)]; exact h.1, fun k hk => by rw [z_w2u (by omega)]; exact h.2.1 k hk, h.2.2⟩
theorem z_Q_th {c : Int} (h : z_Q b W s g) : z_Q b (z_th W c) s g := ⟨by rw [z_thu (by omega)]; exact h.1, fun k hk => by rw [z_thu (by omega)]; exact h.2.1 k hk, h.2.2⟩
theorem z_Q_EQ (h : z_Q b W s g) (e : z_EQ W W') : z_Q b W' s g := ⟨by rw [e.1 0 (by omega) (by omega) (by omega) (by omega) (by omega) (by omega)]; exact h.1, fun k hk => by rw [e.2.1 k hk]; exact h.2.1 k hk, h.2.2⟩
end Ans
/-! minutes that pass on copies -/
section Fut
variable {W W' : Nat → Nat → Int32} {b : Int} {s s' g g' : Nat → Int}
theorem z_PI_315 (h : z_PI b s g) (e : ∀ k, k < 315 → s' k = s k) (f : ∀ k, k < 251 → g' k = g k) : z_PI b s' g' := by
  have k0 := z_PI_0 h
  obtain ⟨c0, c1, c2, c3, c4⟩ := id k0.1
  refine z_PI_mk ⟨?_, fun k hk => by rw [e k (by omega), f k (by omega)]; exact k0.2 k hk⟩ (z_k1_c k0 (e 0 (by omega)) (e 1 (by omega)) (fun k _ hk => e k (by omega)) (fun k _ hk => f k (by omega)) (z_PI_1 h)) (z_k2_c k0 (by rw [e 1 (by omega)]; exact Int.le_refl _) (e 2 (by omega)) (fun k _ hk => e k (by omega)) (fun k _ hk => f k (by omega)) (z_PI_2 h)) (z_k3_c k0 (by rw [e 1 (by omega)]; exact Int.le_refl _) (e 3 (by omega)) (fun x y _ => z_tk_c (e 2 (by omega)) (by omega) (fun k _ hk => e k (by omega))) (fun k hk => e _ (by omega)) (fun k _ hk => e k (by omega)) (fun k _ hk => f k (by omega)) (z_PI_3 h)) (z_k4_c k0 (e 0 (by omega)) (by rw [e 1 (by omega)]; exact Int.le_refl _) (by rw [e 3 (by omega)]; exact Int.le_refl _) (e 4 (by omega)) (fun k _ hk => e k (by omega)) (fun k _ hk => f k (by omega)) (z_PI_4 h)) ?_ (fun j hj => by rw [f _ (by omega)]; exact z_PI_6 h j hj)
  · unfold z_cnt4
    rw [e 0 (by omega), e 1 (by omega), e 2 (by omega), e 3 (by omega), e 4 (by omega)]
    exact k0.1
  · have d := z_PI_5 h
    unfold z_dis at d ⊢
    have q : zT s' = zT s := by
      funext x y
      unfold zT
      split
      · exact e _ (by omega)
      · rfl
    rw [q]
    obtain ⟨t1, t2, t3, t4, t5, t6⟩ := d
    have eg : ∀ {y x : Nat} {w : Int}, z_eg s' y x w ↔ z_eg s y x w := z_eg_c (e 2 (by omega)) (by omega) (fun k h1 h2 => e k (by omega))
    refine ⟨t1, t2, fun y x w he => t3 y x w (eg.mp he), t4, fun a c ha hc hl2 => ?_, t6⟩
    rcases t5 a c ha hc hl2 with q | ⟨y, w, hy, he, hw⟩
    · exact Or.inl q
    · exact Or.inr ⟨y, w, hy, eg.mpr he, hw⟩
theorem z_PI_le {c : Int} (h : z_PI b s g) (hc : b ≤ c) : z_PI c s g := by
  obtain ⟨h1, h2, h3⟩ := h
  obtain ⟨⟨c0, cc⟩, hr⟩ := h1
  exact ⟨⟨⟨by omega, cc⟩, hr⟩, h2, fun i hi => by have := h3 i hi; omega⟩
theorem z_PI_b01 (h : z_PI b s g) : z_b01 (zV s) := by
  obtain ⟨b1, b2, b3⟩ := h.1.2.1
  exact ⟨fun i hi => z_z01 (b1 i hi), fun i hi => z_z01 (b2 i hi), fun i hi => z_z01 (b3 i hi)⟩
/-- a copy of a state -/
theorem z_copy (S : Nat → Int32) (h : z_PI b s g) : ∃ s', f_X4_copyFrom S (zV s) = some (zV s') ∧ z_PI b s' g ∧ ∀ k, k < 315 → s' k = s k := by
  obtain ⟨t, rfl, -⟩ := z_any S
  refine ⟨fun k => if k < 315 then s k else t k, ?_, z_PI_315 h (fun k hk => if_pos hk) (fun k _ => rfl), fun k hk => if_pos hk⟩
  rw [z_Ccp (z_PI_b01 h)]
  congr 1
  funext k
  unfold z_cw zV
  by_cases c : k < 315
  · rw [if_pos ⟨by omega, c⟩]
    show zI (s k) = zI (if k < 315 then s k else t k)
    rw [if_pos c]
  · rw [if_neg (fun q => c q.2)]
    show zI (t k) = zI (if k < 315 then s k else t k)
    rw [if_neg c]
def z_rw (S T : Nat → Int32) (a c n : Nat) : Nat → Int32 := fun k => if c ≤ k ∧ k < c + n then T (a + (k - c)) else S k
end Fut
/-! the relation of all units, and what is remembered -/
def z_rh (b : Int) (W : Nat → Nat → Int32) : Prop := ∃ n c st : Int, W 17 0 = zI n ∧ W 17 1 = zI c ∧ W 30 0 = zI c ∧ W 30 1 = zI st ∧ (0 ≤ c ∧ c ≤ 8) ∧ (0 ≤ st ∧ st < 8) ∧ n = (st + c) % 8 ∧ ∀ j : Nat, j < 8 → (∃ m : Int, 0 ≤ m ∧ m < c ∧ (st + m) % 8 = j) → z_pr b (W (3 + j)) (fun k => W 24 (251 * j + k))
def z_rl (b : Int) (W : Nat → Nat → Int32) : Prop := ∀ i : Nat, i < 2 → (W 20 i = zI 0 ∧ W 26 i = zI 0) ∨ (W 20 i = zI 1 ∧ W 26 i = zI 1 ∧ z_pr b (W (11 + i)) (fun k => W 25 (251 * i + k)))
def z_rt (W : Nat → Nat → Int32) : Prop := ∃ n : Int, W 15 0 = zI n ∧ W 30 3 = zI n ∧ (0 ≤ n ∧ n ≤ 600) ∧ ∀ k, k < 600 → W 16 k &&& 255 = W 28 k
def z_ree (W : Nat → Nat → Int32) : Prop := W 13 0 = W 30 9 ∧ W 13 1 = W 30 10
def z_ro (W : Nat → Nat → Int32) : Prop := ∃ n : Int, W 18 0 = zI n ∧ W 30 11 = zI n ∧ (0 ≤ n ∧ n ≤ 71) ∧ ∀ k : Nat, (k : Int) < n → W 19 k = W 29 k
def z_rpp (W : Nat → Nat → Int32) : Prop := ∃ f, W 2 = zV f ∧ z_bos f
def z_RW (b : Int) (W : Nat → Nat → Int32) : Prop := z_pr b (W 0) (W 21) ∧ z_rh b W ∧ z_rl b W ∧ z_rt W ∧ z_ree W ∧ z_ro W ∧ z_rpp W
section Rem
variable {W W' V V' : Nat → Nat → Int32} {b c : Int} {s s' g g' : Nat → Int}
theorem z_pr_le {S G : Nat → Int32} (h : z_pr b S G) (hc : b ≤ c) : z_pr c S G := by
  obtain ⟨s, g, h1, h2, h3⟩ := h
  exact ⟨s, g, h1, h2, z_PI_le h3 hc⟩
theorem z_rh_le (h : z_rh b W) (hc : b ≤ c) : z_rh c W := by
  obtain ⟨n, m, st, a1, a2, a3, a4, a5, a6, a7, a8⟩ := h
  exact ⟨n, m, st, a1, a2, a3, a4, a5, a6, a7, fun j hj hm => z_pr_le (a8 j hj hm) hc⟩
theorem z_rl_le (h : z_rl b W) (hc : b ≤ c) : z_rl c W := fun i hi => by
  rcases h i hi with q | ⟨q1, q2, q3⟩
  · exact Or.inl q
  · exact Or.inr ⟨q1, q2, z_pr_le q3 hc⟩
theorem z_RW_le (h : z_RW b W) (hc : b ≤ c) : z_RW c W := ⟨z_pr_le h.1 hc, z_rh_le h.2.1 hc, z_rl_le h.2.2.1 hc, h.2.2.2⟩
/-- what a change of the state leaves alone -/
def z_UN (W W' : Nat → Nat → Int32) : Prop := (∀ u, u = 2 ∨ u = 11 ∨ u = 12 ∨ u = 13 ∨ u = 15 ∨ u = 16 ∨ u = 18 ∨ u = 19 ∨ u = 20 ∨ u = 25 ∨ u = 26 ∨ u = 28 ∨ u = 29 → W' u = W u) ∧ (∀ k, 3 ≤ k → W' 30 k = W 30 k)
theorem z_UN_rl (e : z_UN W W') (h : z_rl b W) : z_rl b W' := fun i hi => by
  have q := h i hi
  rw [e.1 20 (by omega), e.1 26 (by omega), e.1 25 (by omega), e.1 (11 + i) (by omega)]
  exact q
theorem z_UN_rt (e : z_UN W W') (h : z_rt W) : z_rt W' := by
  obtain ⟨n, h1, h2, h3, h4⟩ := h
  exact ⟨n, by rw [e.1 15 (by omega)]; exact h1, by rw [e.2 3 (by omega)]; exact h2, h3, fun k hk => by rw [e.1 16 (by omega), e.1 28 (by omega)]; exact h4 k hk⟩
theorem z_UN_re (e : z_UN W W') (h : z_ree W) : z_ree W' := ⟨by rw [e.1 13 (by omega), e.2 9 (by omega)]; exact h.1, by rw [e.1 13 (by omega), e.2 10 (by omega)]; exact h.2⟩
theorem z_UN_ro (e : z_UN W W') (h : z_ro W) : z_ro W' := by
  obtain ⟨n, h1, h2, h3, h4⟩ := h
  exact ⟨n, by rw [e.1 18 (by omega)]; exact h1, by rw [e.2 11 (by omega)]; exact h2, h3, fun k hk => by rw [e.1 19 (by omega), e.1 29 (by omega)]; exact h4 k hk⟩
theorem z_UN_rp (e : z_UN W W') (h : z_rpp W) : z_rpp W' := by
  obtain ⟨f, h1, h2⟩ := h
  exact ⟨f, by rw [e.1 2 (by omega)]; exact h1, h2⟩
theorem z_RW_EQ (h : z_RW b W) (e : z_EQ W W') : z_RW b W' := by
  obtain ⟨h1, h2, h3, h4, h5, h6, h7⟩ := h
  have u : z_UN W W' := ⟨fun v hv => e.1 v (by omega) (by omega) (by omega) (by omega) (by omega) (by omega), fun k hk => e.2.2 k (by omega)⟩
  refine ⟨?_, ?_, z_UN_rl u h3, z_UN_rt u h4, z_UN_re u h5, z_UN_ro u h6, z_UN_rp u h7⟩
  · obtain ⟨s, g, a1, a2, a3⟩ := h1
    exact ⟨s, g, by rw [e.1 0 (by omega) (by omega) (by omega) (by omega) (by omega) (by omega)]; exact a1, fun k hk => by rw [e.2.1 k hk]; exact a2 k hk, a3⟩
  · obtain ⟨n, m, st, a1, a2, a3, a4, a5, a6, a7, a8⟩ := h2
    refine ⟨n, m, st, ?_, ?_, by rw [e.2.2 0 (by omega)]; exact a3, by rw [e.2.2 1 (by omega)]; exact a4, a5, a6, a7, fun j hj hm => ?_⟩
    · rw [e.1 17 (by omega) (by omega) (by omega) (by omega) (by omega) (by omega)]; exact a1
    · rw [e.1 17 (by omega) (by omega) (by omega) (by omega) (by omega) (by omega)]; exact a2
    · have q := a8 j hj hm
      rw [e.1 24 (by omega) (by omega) (by omega) (by omega) (by omega) (by omega), e.1 (3 + j) (by omega) (by omega) (by omega) (by omega) (by omega) (by omega)]
      exact q
theorem z_div {x y : Int} (hx : 0 ≤ x ∧ x < 2147483648) (hy : 0 < y ∧ y < 2147483648) : zI x / zI y = zI (x / y) := by
  apply Int32.toInt_inj.mp
  have e1 := z_toInt (z := x) (by unfold zR; omega)
  have e2 := z_toInt (z := y) (by unfold zR; omega)
  have le : x / y ≤ x := Int.ediv_le_self _ hx.1
  have ge : 0 ≤ x / y := Int.ediv_nonneg hx.1 (by omega)
  rw [z_toInt (by unfold zR; omega)]
  rw [Int32.toInt_div_of_ne_left, e1, e2, Int.tdiv_eq_ediv_of_nonneg hx.1]
  intro q
  have := congrArg Int32.toInt q
  rw [e1] at this
  rw [show Int32.minValue.toInt = -2147483648 from rfl] at this
  omega
/-- the class remembers the state -/
theorem z_Crem (h0 : W 0 = zV s) (pi : z_PI b s g) {n c : Int} (h1 : W 17 0 = zI n) (h2 : W 17 1 = zI c) (hn : 0 ≤ n ∧ n < 8) (hc : 0 ≤ c ∧ c ≤ 8) : ∃ W1 h, f_X0_remember W = some W1 ∧ W1 (3 + n.toNat) = zV h ∧ (∀ k, k < 315 → h k = s k) ∧ W1 17 0 = zI ((n + 1) % 8) ∧ W1 17 1 = zI (if c = 8 then 8 else c + 1) ∧ (∀ u, u ≠ 3 + n.toNat → u ≠ 17 → W1 u = W u) := by
  obtain ⟨m, rfl⟩ : ∃ m : Nat, n = m := ⟨n.toNat, by omega⟩
  rw [Int.toNat_natCast]
  obtain ⟨h, k1, k2, k3⟩ := z_copy (W (3 + m)) pi
  refine ⟨w2 (w2 (setU W (3 + m) (zV h)) 17 0 (zI (((m : Int) + 1) % 8))) 17 1 (zI (if c = 8 then 8 else c + 1)), h, ?_, ?_, k3, ?_, z_w2e, fun u u1 u2 => ?_⟩
  · unfold f_X0_remember
    rw [h1, h0]
    simp (disch := omega) only [z_lit, z_n, z_add, z_sub, z_mul, z_neg, z_lt1, z_lt0, z_le1, z_le0, z_eq1, z_eq0, z_10, ↓reduceIte, z_v, z_upd, z_ue, z_un, z_ixn, z_ixo, z_ix0, z_ix1, z_ix2, z_ix3, z_ix4, z_ix5, z_ix6, Int.reduceToNat, z_inr, z_gd, ↓z_bnd, ↓z_jn, z_bdc, z_bd2, z_opn, z_ops, z_z01, z_Bt, z_Bf, k1, z_sUu, h1]
    by_cases e : (m : Int) = 7
    · rw [show ((m : Int) + 1) % 8 = 0 by omega]
      by_cases f : c = 8
      · rw [if_pos f]
        simp (disch := omega) only [z_lit, z_n, z_add, z_sub, z_mul, z_neg, z_lt1, z_lt0, z_le1, z_le0, z_eq1, z_eq0, z_10, ↓reduceIte, z_v, z_upd, z_ue, z_un, z_ixn, z_ixo, z_ix0, z_ix1, z_ix2, z_ix3, z_ix4, z_ix5, z_ix6, Int.reduceToNat, z_inr, z_gd, ↓z_bnd, ↓z_jn, z_bdc, z_bd2, z_opn, z_ops, z_z01, z_Bt, z_Bf, z_w2k, z_sUu, h2]
      · rw [if_neg f]
        simp (disch := omega) only [z_lit, z_n, z_add, z_sub, z_mul, z_neg, z_lt1, z_lt0, z_le1, z_le0, z_eq1, z_eq0, z_10, ↓reduceIte, z_v, z_upd, z_ue, z_un, z_ixn, z_ixo, z_ix0, z_ix1, z_ix2, z_ix3, z_ix4, z_ix5, z_ix6, Int.reduceToNat, z_inr, z_gd, ↓z_bnd, ↓z_jn, z_bdc, z_bd2, z_opn, z_ops, z_z01, z_Bt, z_Bf, z_w2k, z_sUu, h2]
    · rw [show ((m : Int) + 1) % 8 = m + 1 by omega]
      by_cases f : c = 8
      · rw [if_pos f]
        simp (disch := omega) only [z_lit, z_n, z_add, z_sub, z_mul, z_neg, z_lt1, z_lt0, z_le1, z_le0, z_eq1, z_eq0, z_10, ↓reduceIte, z_v, z_upd, z_ue, z_un, z_ixn, z_ixo, z_ix0, z_ix1, z_ix2, z_ix3, z_ix4, z_ix5, z_ix6, Int.reduceToNat, z_inr, z_gd, ↓z_bnd, ↓z_jn, z_bdc, z_bd2, z_opn, z_ops, z_z01, z_Bt, z_Bf, z_w2k, z_sUu, h2]
      · rw [if_neg f]
        simp (disch := omega) only [z_lit, z_n, z_add, z_sub, z_mul, z_neg, z_lt1, z_lt0, z_le1, z_le0, z_eq1, z_eq0, z_10, ↓reduceIte, z_v, z_upd, z_ue, z_un, z_ixn, z_ixo, z_ix0, z_ix1, z_ix2, z_ix3, z_ix4, z_ix5, z_ix6, Int.reduceToNat, z_inr, z_gd, ↓z_bnd, ↓z_jn, z_bdc, z_bd2, z_opn, z_ops, z_z01, z_Bt, z_Bf, z_w2k, z_sUu, h2]
  · rw [z_w2u (by omega), z_w2u (by omega), z_sUe]
  · rw [z_w2k (by omega), z_w2e]
  · rw [z_w2u u2, z_w2u u2, z_sUu u1]
end Rem
section Chh
variable {W W' V V' : Nat → Nat → Int32} {b c : Int} {s s' g g' : Nat → Int}
/-- the class's side of a change: Wa remembers, then the state is s'; z_th U 0 is where the reference remembers -/
theorem z_U0 {Wa : Nat → Nat → Int32} (r2 : ∀ u, ¬ (3 ≤ u ∧ u < 11) → u ≠ 17 → Wa u = W u) (s' : Nat → Int) (x : Int32) : ∃ U, U = w2 (setU Wa 0 (zV s')) 31 0 x ∧ U 21 = W 21 ∧ z_th U 0 0 = zV s' ∧ (∀ u, u ≠ 0 → u ≠ 1 → u ≠ 31 → u ≠ 30 → z_th U 0 u = Wa u) ∧ (∀ k, k ≠ 2 → z_th U 0 30 k = W 30 k) ∧ z_th U 0 21 = W 21 ∧ z_th U 0 27 = W 27 ∧ z_th U 0 31 0 = x := by
  refine ⟨_, rfl, ?_, ?_, fun u u0 _ u1 u2 => ?_, fun k hk => ?_, ?_, ?_, ?_⟩
  · rw [z_w2u (by omega), z_sUu (by omega), r2 21 (by omega) (by omega)]
  · rw [z_thu (by omega), z_w2u (by omega), z_sUe]
  · rw [z_thu u2, z_w2u u1, z_sUu u0]
  · rw [z_thk hk, z_w2u (by omega), z_sUu (by omega), r2 30 (by omega) (by omega)]
  · rw [z_thu (by omega), z_w2u (by omega), z_sUu (by omega), r2 21 (by omega) (by omega)]
  · rw [z_thu (by omega), z_w2u (by omega), z_sUu (by omega), r2 27 (by omega) (by omega)]
  · rw [z_thu (by omega), z_w2e]
theorem z_w2s {k : Nat} {v : Int} (h : W 0 = zV s) : w2 W 0 k (zI v) = setU W 0 (zV (zu s k v)) := by
  unfold w2
  rw [h, z_upd]
theorem z_PI_pr (h : z_PI b s g) {i : Nat} {p : Int} (hi : (i : Int) < s 4) (hp : 1 ≤ p ∧ p ≤ 9) : z_PI b (zu s (143 + 9 * i + 2) p) (zu g (143 + 9 * i + 2) p) := by
  have c4 := h.1.1.2.2.2.2
  have q := h.1.2.2.2.2.2.1 i hi
  refine z_PI_p h hi (fun k hk => z_un (by omega)) (fun k _ hk => z_un (by omega)) ?_ (fun j hj => ?_)
  · unfold z_pcl at q ⊢
    simp (disch := omega) only [z_ue, z_un]
    exact ⟨q.1, q.2.1, hp, q.2.2.2⟩
  · by_cases e : j = 2
    · subst e
      rw [z_ue rfl, z_ue rfl]
    · rw [z_un (by omega), z_un (by omega)]
      exact h.2.1.2.2.2.2 i hi j hj
/-- a row with one cell changed -/
theorem z_w21 {Vr : Nat → Nat → Int32} (row : ∀ k, k < 251 → Vr 21 k = zI (g k)) {c : Nat} {v : Int} : ∀ k, k < 251 → w2 Vr 21 c (zI v) 21 k = zI (zu g c v k) := fun k hk => by
  by_cases e : k = c
  · rw [e, z_w2e, z_ue rfl]
  · rw [z_w2k e, z_un e]
    exact row k hk
end Chh
section Chj
variable {W W' V V' : Nat → Nat → Int32} {b c : Int} {s s' g g' : Nat → Int}
theorem z_nz1 : nz (zI 1) = zI 1 := by decide
end Chj
section Byt
theorem z_bvn {n : Nat} (h : n < 2147483648) : (zI (n : Int)).toBitVec = BitVec.ofNat 32 n := by
  unfold zI
  rw [Int32.toBitVec_ofInt]
  rfl
theorem z_bvs (n k : Nat) (hk : k < 32) (h : n < 2147483648) : BitVec.ofNat 32 n >>> (BitVec.ofNat 32 k) &&& (BitVec.ofNat 32 255) = BitVec.ofNat 32 (n / 2 ^ k % 256) := by
  apply BitVec.eq_of_toNat_eq
  rw [BitVec.ushiftRight_eq', BitVec.toNat_and, BitVec.toNat_ushiftRight, BitVec.toNat_ofNat, BitVec.toNat_ofNat, BitVec.toNat_ofNat, BitVec.toNat_ofNat, Nat.shiftRight_eq_div_pow, Nat.mod_eq_of_lt (show n < 2 ^ 32 by omega), Nat.mod_eq_of_lt (show k < 2 ^ 32 by omega), Nat.mod_eq_of_lt (show 255 < 2 ^ 32 by omega), Nat.and_two_pow_sub_one_eq_mod _ 8, Nat.mod_eq_of_lt (show n / 2 ^ k % 256 < 2 ^ 32 by omega)]
theorem z_ush {x : Int} (h : 0 ≤ x ∧ x < 2147483648) {k : Nat} (hk : k = 0 ∨ k = 8 ∨ k = 16 ∨ k = 24) : ushr (zI x) (zI (k : Int)) &&& zI 255 = zI (x / 2 ^ k % 256) := by
  obtain ⟨n, rfl⟩ : ∃ n : Nat, x = n := ⟨x.toNat, by omega⟩
  have e : ((n : Int) / 2 ^ k % 256) = ((n / 2 ^ k % 256 : Nat) : Int) := by
    rw [Int.natCast_emod, Int.natCast_ediv]
    rfl
  have hn : n < 2147483648 := by omega
  rw [e]
  apply Int32.toBitVec.inj
  rw [z_bvn (by omega), Int32.toBitVec_and]
  unfold ushr
  simp only [Int32.toBitVec_and, UInt32.toBitVec_toInt32, UInt32.toBitVec_shiftRight, Int32.toBitVec_toUInt32, z_bvn hn]
  rw [show ((((zI (k : Int)).toUInt32 &&& Int32.toUInt32 31).toBitVec % 32 : BitVec 32) = BitVec.ofNat 32 k) by rcases hk with e | e | e | e <;> subst e <;> decide, show (zI 255).toBitVec = BitVec.ofNat 32 255 by decide]
  exact z_bvs n k (by omega) hn
end Byt
/-! the text that comes in -/
theorem z_t255 (i : Nat) (hi : i < 32) : (255#32).getLsbD i = decide (i < 8) := by
  have : ∀ i : Fin 32, (255#32).getLsbD i = decide (i.1 < 8) := by decide
  exact this ⟨i, hi⟩
theorem z_bys (a : BitVec 32) (k : Nat) (hk : k ≤ 24) : ((a >>> k).signExtend 8).signExtend 32 &&& 255#32 = a.sshiftRight k &&& 255#32 := by
  apply BitVec.eq_of_getLsbD_eq
  intro i hi
  rw [BitVec.getLsbD_and, BitVec.getLsbD_and, z_t255 i hi]
  by_cases c : i < 8
  · rw [decide_eq_true c, Bool.and_true, Bool.and_true]
    rw [BitVec.getLsbD_signExtend, BitVec.getLsbD_signExtend, BitVec.getLsbD_ushiftRight, BitVec.getLsbD_sshiftRight]
    simp only [c, hi, decide_true, if_true, Bool.true_and]
    simp (disch := omega) [show i < 32 by omega, show k + i < 32 by omega]
  · rw [decide_eq_false c, Bool.and_false, Bool.and_false]
theorem z_by0 (a : Int32) : nb (a.toInt8.toInt32) &&& 255 = a &&& 255 := by
  show (a.toInt8.toInt32).toInt8.toInt32 &&& 255 = _
  rw [Int8.toInt8_toInt32]
  apply Int32.toBitVec.inj
  rw [Int32.toBitVec_and, Int32.toBitVec_and, Int8.toBitVec_toInt32, Int32.toBitVec_toInt8]
  have := z_bys a.toBitVec 0 (by omega)
  rw [BitVec.ushiftRight_zero, BitVec.sshiftRight_zero] at this
  exact this
theorem z_byk (a : Int32) (k : Nat) (hk : k = 8 ∨ k = 16 ∨ k = 24) : nb ((ushr a (Int32.ofNat k)).toInt8.toInt32) &&& 255 = (a >>> ((Int32.ofNat k) &&& 31)) &&& 255 := by
  show ((ushr a (Int32.ofNat k)).toInt8.toInt32).toInt8.toInt32 &&& 255 = _
  rw [Int8.toInt8_toInt32]
  apply Int32.toBitVec.inj
  rw [Int32.toBitVec_and, Int32.toBitVec_and, Int8.toBitVec_toInt32, Int32.toBitVec_toInt8, Int32.toBitVec_shiftRight]
  unfold ushr
  rw [UInt32.toBitVec_toInt32, UInt32.toBitVec_shiftRight, Int32.toBitVec_toUInt32]
  have e1 : (((Int32.ofNat k).toUInt32 &&& Int32.toUInt32 31).toBitVec % 32 : BitVec 32) = BitVec.ofNat 32 k := by rcases hk with e | e | e <;> subst e <;> decide
  have e2 : ((Int32.ofNat k &&& 31).toBitVec.smod 32) = BitVec.ofNat 32 k := by rcases hk with e | e | e <;> subst e <;> decide
  have e3 : (BitVec.ofNat 32 k).toNat = k := by rcases hk with e | e | e <;> subst e <;> decide
  have := z_bys a.toBitVec k (by omega)
  rw [← e3, ← BitVec.ushiftRight_eq', ← BitVec.sshiftRight_eq'] at this
  rw [e1, e2]
  exact this
def z_TA (n : Nat) (W : Nat → Nat → Int32) (xs : List Int32) (W' : Nat → Nat → Int32) : Prop := (∀ u, u ≠ 15 → u ≠ 16 → W' u = W u) ∧ W' 15 0 = zI ((n + xs.length : Nat) : Int) ∧ (∀ k, k < n ∨ n + xs.length ≤ k → W' 16 k = W 16 k) ∧ ∀ j (h : j < xs.length), W' 16 (n + j) &&& 255 = xs[j]
def z_TB (n : Nat) (W : Nat → Nat → Int32) (xs : List Int32) (W' : Nat → Nat → Int32) : Prop := (∀ u, u ≠ 28 → u ≠ 30 → W' u = W u) ∧ (∀ k, k ≠ 3 → W' 30 k = W 30 k) ∧ W' 30 3 = zI ((n + xs.length : Nat) : Int) ∧ (∀ k, k < n ∨ n + xs.length ≤ k → W' 28 k = W 28 k) ∧ ∀ j (h : j < xs.length), W' 28 (n + j) = xs[j]
section Inp
variable {W W' W'' : Nat → Nat → Int32} {b : Int} {s g : Nat → Int} {n : Nat} {xs ys : List Int32}
theorem z_TA_t (h1 : z_TA n W xs W') (h2 : z_TA (n + xs.length) W' ys W'') : z_TA n W (xs ++ ys) W'' := by
  obtain ⟨a1, a2, a3, a4⟩ := h1
  obtain ⟨b1, b2, b3, b4⟩ := h2
  refine ⟨fun u p q => by rw [b1 u p q, a1 u p q], ?_, fun k hk => ?_, fun j hj => ?_⟩
  · rw [b2, List.length_append, Nat.add_assoc]
  · rw [List.length_append] at hk
    rw [b3 k (by omega), a3 k (by omega)]
  · rw [List.getElem_append]
    split
    · next c => rw [b3 (n + j) (by omega), a4 j c]
    · next c =>
      have := b4 (j - xs.length) (by rw [List.length_append] at hj; omega)
      rw [← this]
      congr 2
      omega
theorem z_TB_t (h1 : z_TB n W xs W') (h2 : z_TB (n + xs.length) W' ys W'') : z_TB n W (xs ++ ys) W'' := by
  obtain ⟨a1, a0, a2, a3, a4⟩ := h1
  obtain ⟨b1, b0, b2, b3, b4⟩ := h2
  refine ⟨fun u p q => by rw [b1 u p q, a1 u p q], fun k hk => by rw [b0 k hk, a0 k hk], ?_, fun k hk => ?_, fun j hj => ?_⟩
  · rw [b2, List.length_append, Nat.add_assoc]
  · rw [List.length_append] at hk
    rw [b3 k (by omega), a3 k (by omega)]
  · rw [List.getElem_append]
    split
    · next c => rw [b3 (n + j) (by omega), a4 j c]
    · next c =>
      have := b4 (j - xs.length) (by rw [List.length_append] at hj; omega)
      rw [← this]
      congr 1
      omega
theorem z_apb {x y : Int32} (hx : nb (x.toInt8.toInt32) &&& 255 = y) (h : W 15 0 = zI n) (hn : n < 600) : ∃ W', f_X6_appendByte W x = some W' ∧ z_TA n W [y] W' := by
  have e : f_X6_appendByte W x = some (w2 (w2 W 16 n (nb (x.toInt8.toInt32))) 15 0 (zI ((n : Int) + 1))) := by
    unfold f_X6_appendByte
    rw [h]
    simp (disch := omega) only [z_lit, z_n, z_add, z_sub, z_mul, z_neg, z_lt1, z_lt0, z_le1, z_le0, z_eq1, z_eq0, z_10, ↓reduceIte, z_v, z_upd, z_ue, z_un, z_ixn, z_ixo, z_ix0, z_ix1, z_ix2, z_ix3, z_ix4, z_ix5, z_ix6, Int.reduceToNat, z_inr, z_gd, ↓z_bnd, ↓z_jn, z_bdc, z_bd2, z_opn, z_ops, z_z01, z_Bt, z_Bf]
    rw [z_w2u (by omega), h]
    simp (disch := omega) only [z_lit, z_n, z_add, z_sub, z_mul, z_neg, z_lt1, z_lt0, z_le1, z_le0, z_eq1, z_eq0, z_10, ↓reduceIte, z_v, z_upd, z_ue, z_un, z_ixn, z_ixo, z_ix0, z_ix1, z_ix2, z_ix3, z_ix4, z_ix5, z_ix6, Int.reduceToNat, z_inr, z_gd, ↓z_bnd, ↓z_jn, z_bdc, z_bd2, z_opn, z_ops, z_z01, z_Bt, z_Bf]
  refine ⟨_, e, fun u p q => ?_, ?_, fun k hk => ?_, fun j hj => ?_⟩
  · rw [z_w2u p, z_w2u q]
  · rw [z_w2e]
    rfl
  · rw [List.length_singleton] at hk
    rw [z_w2u (by omega), z_w2k (by omega)]
  · rw [List.length_singleton] at hj
    obtain rfl : j = 0 := by omega
    rw [z_w2u (by omega), Nat.add_zero, z_w2e]
    exact hx
def z_wb (a : Int32) : List Int32 := [(a >>> (zI 24 &&& 31)) &&& 255] ++ ([(a >>> (zI 16 &&& 31)) &&& 255] ++ ([(a >>> (zI 8 &&& 31)) &&& 255] ++ [(a >>> (zI 0 &&& 31)) &&& 255]))
theorem z_wb_l {a : Int32} : (z_wb a).length = 4 := rfl
theorem z_sh0 (a : Int32) : a >>> (zI 0 &&& 31) = a := by
  apply Int32.toBitVec.inj
  rw [Int32.toBitVec_shiftRight, show ((zI 0 &&& 31).toBitVec.smod 32) = BitVec.ofNat 32 0 by decide, BitVec.sshiftRight_eq', show (BitVec.ofNat 32 0).toNat = 0 by decide, BitVec.sshiftRight_zero]
theorem z_a4C {a : Int32} (h : W 15 0 = zI n) (hn : n + 4 ≤ 600) : ∃ W', f_X6_appendFourBytes W a = some W' ∧ z_TA n W (z_wb a) W' := by
  unfold f_X6_appendFourBytes
  obtain ⟨W1, e1, k1⟩ := z_apb (z_byk a 24 (by omega)) h (by omega)
  obtain ⟨W2, e2, k2⟩ := z_apb (z_byk a 16 (by omega)) k1.2.1 (by simp only [List.length_singleton]; omega)
  obtain ⟨W3, e3, k3⟩ := z_apb (z_byk a 8 (by omega)) k2.2.1 (by simp only [List.length_singleton]; omega)
  obtain ⟨W4, e4, k4⟩ := z_apb (z_by0 a) k3.2.1 (by simp only [List.length_singleton]; omega)
  refine ⟨W4, ?_, ?_⟩
  · rw [show (24 : Int32) = Int32.ofNat 24 from rfl, e1, z_bdc, show (16 : Int32) = Int32.ofNat 16 from rfl, e2, z_bdc, show (8 : Int32) = Int32.ofNat 8 from rfl, e3, z_bdc, e4, z_bdc]
  · unfold z_wb
    rw [z_sh0]
    exact z_TA_t k1 (z_TA_t k2 (z_TA_t k3 k4))
/-- after a change of the text alone, all units stand together again -/
theorem z_RW_tx (H : z_RW b W) (e : ∀ u, u ≠ 15 → u ≠ 16 → u ≠ 28 → u ≠ 30 → u ≠ 31 → W' u = W u) (e30 : ∀ k, k ≠ 2 → k ≠ 3 → W' 30 k = W 30 k) (t : z_rt W') : z_RW b W' := by
  obtain ⟨h1, h2, h3, h4, h5, h6, h7⟩ := H
  refine ⟨?_, ?_, ?_, t, ?_, ?_, ?_⟩
  · rw [e 0 (by omega) (by omega) (by omega) (by omega) (by omega), e 21 (by omega) (by omega) (by omega) (by omega) (by omega)]
    exact h1
  · obtain ⟨n, m, st, a1, a2, a3, a4, a5, a6, a7, a8⟩ := h2
    refine ⟨n, m, st, ?_, ?_, by rw [e30 0 (by omega) (by omega)]; exact a3, by rw [e30 1 (by omega) (by omega)]; exact a4, a5, a6, a7, fun j hj hm => ?_⟩
    · rw [e 17 (by omega) (by omega) (by omega) (by omega) (by omega)]; exact a1
    · rw [e 17 (by omega) (by omega) (by omega) (by omega) (by omega)]; exact a2
    · rw [e 24 (by omega) (by omega) (by omega) (by omega) (by omega), e (3 + j) (by omega) (by omega) (by omega) (by omega) (by omega)]
      exact a8 j hj hm
  · intro i hi
    rw [e 20 (by omega) (by omega) (by omega) (by omega) (by omega), e 26 (by omega) (by omega) (by omega) (by omega) (by omega), e 25 (by omega) (by omega) (by omega) (by omega) (by omega), e (11 + i) (by omega) (by omega) (by omega) (by omega) (by omega)]
    exact h3 i hi
  · exact ⟨by rw [e 13 (by omega) (by omega) (by omega) (by omega) (by omega), e30 9 (by omega) (by omega)]; exact h5.1, by rw [e 13 (by omega) (by omega) (by omega) (by omega) (by omega), e30 10 (by omega) (by omega)]; exact h5.2⟩
  · obtain ⟨n, q1, q2, q3, q4⟩ := h6
    exact ⟨n, by rw [e 18 (by omega) (by omega) (by omega) (by omega) (by omega)]; exact q1, by rw [e30 11 (by omega) (by omega)]; exact q2, q3, fun k hk => by rw [e 19 (by omega) (by omega) (by omega) (by omega) (by omega), e 29 (by omega) (by omega) (by omega) (by omega) (by omega)]; exact q4 k hk⟩
  · obtain ⟨f, q1, q2⟩ := h7
    exact ⟨f, by rw [e 2 (by omega) (by omega) (by omega) (by omega) (by omega)]; exact q1, q2⟩
end Inp
section Inq
variable {W W' W'' : Nat → Nat → Int32} {b : Int}
theorem z_a20C {a1 a2 a3 a4 a5 : Int32} {n : Nat} (h : W 15 0 = zI n) (hn : n + 20 ≤ 600) : ∃ W', f_X9_appendInput W a1 a2 a3 a4 a5 = some (.inr (zI ((n + 20 : Nat) : Int)), W') ∧ z_TA n W (z_wb a1 ++ (z_wb a2 ++ (z_wb a3 ++ (z_wb a4 ++ z_wb a5)))) W' := by
  obtain ⟨W1, e1, k1⟩ := z_a4C (a := a1) h (by omega)
  obtain ⟨W2, e2, k2⟩ := z_a4C (a := a2) k1.2.1 (by rw [z_wb_l]; omega)
  obtain ⟨W3, e3, k3⟩ := z_a4C (a := a3) k2.2.1 (by rw [z_wb_l, z_wb_l]; omega)
  obtain ⟨W4, e4, k4⟩ := z_a4C (a := a4) k3.2.1 (by rw [z_wb_l, z_wb_l, z_wb_l]; omega)
  obtain ⟨W5, e5, k5⟩ := z_a4C (a := a5) k4.2.1 (by rw [z_wb_l, z_wb_l, z_wb_l, z_wb_l]; omega)
  refine ⟨W5, ?_, z_TA_t k1 (z_TA_t k2 (z_TA_t k3 (z_TA_t k4 k5)))⟩
  unfold f_X9_appendInput
  rw [h]
  simp (disch := omega) only [z_lit, z_n, z_add, z_sub, z_mul, z_neg, z_lt1, z_lt0, z_le1, z_le0, z_eq1, z_eq0, z_10, ↓reduceIte, z_v, z_upd, z_ue, z_un, z_ixn, z_ixo, z_ix0, z_ix1, z_ix2, z_ix3, z_ix4, z_ix5, z_ix6, Int.reduceToNat, z_inr, z_gd, ↓z_bnd, ↓z_jn, z_bdc, z_bd2, z_opn, z_ops, z_z01, z_Bt, z_Bf, e1, e2, e3, e4, e5]
  rw [k5.2.1]
  simp only [z_wb_l, Nat.add_assoc, Nat.reduceAdd]
end Inq
