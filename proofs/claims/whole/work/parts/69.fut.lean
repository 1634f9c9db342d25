/-! minutes that pass on copies -/
section Fut
variable {W W' : Nat → Nat → Int32} {b : Int} {s s' g g' : Nat → Int}
theorem z_PI_315 (h : z_PI b s g) (e : ∀ k, k < 315 → s' k = s k) (f : ∀ k, k < 251 → g' k = g k) : z_PI b s' g' := by
  have k0 := z_PI_0 h
  obtain ⟨c0, c1, c2, c3, c4⟩ := id k0.1
  refine z_PI_mk ⟨?_, fun k hk => by rw [e k (by omega), f k (by omega)]; exact k0.2 k hk⟩ (z_k1_c k0 (e 0 (by omega)) (e 1 (by omega)) (fun k _ hk => e k (by omega)) (fun k _ hk => f k (by omega)) (z_PI_1 h)) (z_k2_c k0 (by rw [e 1 (by omega)]; exact Int.le_refl _) (e 2 (by omega)) (fun k _ hk => e k (by omega)) (fun k _ hk => f k (by omega)) (z_PI_2 h)) (z_k3_c k0 (by rw [e 1 (by omega)]; exact Int.le_refl _) (e 3 (by omega)) (fun x y _ => z_tk_c (e 2 (by omega)) (by omega) (fun k _ hk => e k (by omega))) (fun k hk => e _ (by omega)) (fun k _ hk => e k (by omega)) (fun k _ hk => f k (by omega)) (z_PI_3 h)) (z_k4_c k0 (e 0 (by omega)) (by rw [e 1 (by omega)]; exact Int.le_refl _) (by rw [e 3 (by omega)]; exact Int.le_refl _) (e 4 (by omega)) (fun k _ hk => e k (by omega)) (fun k _ hk => f k (by omega)) (z_PI_4 h)) ?_ (fun j hj => by rw [f _ (by omega)]; exact z_PI_6 h j hj)
  · unfold z_cnt4
    rw [e 0 (by omega), e 1 (by omega), e 2 (by omega), e 3 (by omega), e 4 (by omega)]
    exact k0.1
  · have d := z_PI_5 h
    unfold z_dis at d ⊢
    have q : zT s' = zT s := by
      funext x y
      unfold zT
      split
      · exact e _ (by omega)
      · rfl
    rw [q]
    obtain ⟨t1, t2, t3, t4, t5, t6⟩ := d
    have eg : ∀ {y x : Nat} {w : Int}, z_eg s' y x w ↔ z_eg s y x w := z_eg_c (e 2 (by omega)) (by omega) (fun k h1 h2 => e k (by omega))
    refine ⟨t1, t2, fun y x w he => t3 y x w (eg.mp he), t4, fun a c ha hc hl2 => ?_, t6⟩
    rcases t5 a c ha hc hl2 with q | ⟨y, w, hy, he, hw⟩
    · exact Or.inl q
    · exact Or.inr ⟨y, w, hy, eg.mpr he, hw⟩
theorem z_PI_le {c : Int} (h : z_PI b s g) (hc : b ≤ c) : z_PI c s g := by
  obtain ⟨h1, h2, h3⟩ := h
  obtain ⟨⟨c0, cc⟩, hr⟩ := h1
  exact ⟨⟨⟨by omega, cc⟩, hr⟩, h2, fun i hi => by have := h3 i hi; omega⟩
theorem z_PI_b01 (h : z_PI b s g) : z_b01 (zV s) := by
  obtain ⟨b1, b2, b3⟩ := h.1.2.1
  exact ⟨fun i hi => z_z01 (b1 i hi), fun i hi => z_z01 (b2 i hi), fun i hi => z_z01 (b3 i hi)⟩
/-- a copy of a state -/
theorem z_copy (S : Nat → Int32) (h : z_PI b s g) : ∃ s', f_X4_copyFrom S (zV s) = some (zV s') ∧ z_PI b s' g ∧ ∀ k, k < 315 → s' k = s k := by
  obtain ⟨t, rfl, -⟩ := z_any S
  refine ⟨fun k => if k < 315 then s k else t k, ?_, z_PI_315 h (fun k hk => if_pos hk) (fun k _ => rfl), fun k hk => if_pos hk⟩
  rw [z_Ccp (z_PI_b01 h)]
  congr 1
  funext k
  unfold z_cw zV
  by_cases c : k < 315
  · rw [if_pos ⟨by omega, c⟩]
    show zI (s k) = zI (if k < 315 then s k else t k)
    rw [if_pos c]
  · rw [if_neg (fun q => c q.2)]
    show zI (t k) = zI (if k < 315 then s k else t k)
    rw [if_neg c]
theorem z_LN21 : LN 21 = 251 := rfl
theorem z_LN22 : LN 22 = 251 := rfl
theorem z_LN23 : LN 23 = 251 := rfl
theorem z_LN24 : LN 24 = 2008 := rfl
theorem z_LN25 : LN 25 = 502 := rfl
def z_rw (S T : Nat → Int32) (a c n : Nat) : Nat → Int32 := fun k => if c ≤ k ∧ k < c + n then T (a + (k - c)) else S k
theorem z_crow {u v : Nat} (huv : u ≠ v) {a c : Nat} (ha : a + 251 ≤ LN u) (hc : c + 251 ≤ LN v) : f_X10_copyRow W u (zI a) v (zI c) = some (setU W v (z_rw (W v) (W u) a c 251)) := by
  have hl : ∀ x, LN x ≤ 2008 := fun x => by
    unfold LN
    split
    · omega
    · split <;> omega
  have hu := hl u
  have hv := hl v
  unfold f_X10_copyRow
  rw [z_l0]
  refine z_run (l := l_X10_copyRow_3 u (zI a) v (zI c)) (n := 251) (P := fun i A => A = setU W v (z_rw (W v) (W u) a c i)) (Q := fun o => o = some (setU W v (z_rw (W v) (W u) a c 251))) (fun N i A hi hp => ⟨_, rfl, ?_⟩) (fun N A hp => ?_) 251 0 FU W (by omega) (by unfold FU; omega) ?_
  · subst hp
    rw [l_X10_copyRow_3, z_sUu huv]
    have e : w2 (setU W v (z_rw (W v) (W u) a c i)) v (c + i) (W u (a + i)) = setU W v (z_rw (W v) (W u) a c (i + 1)) := by
      funext y j
      unfold w2 setU upd z_rw
      by_cases h : y = v
      · rw [if_pos h, if_pos h, if_pos rfl]
        by_cases q : j = c + i
        · rw [if_pos q, if_pos (by omega), q, show a + (c + i - c) = a + i by omega]
        · rw [if_neg q]
          by_cases q2 : c ≤ j ∧ j < c + i
          · rw [if_pos q2, if_pos (by omega)]
          · rw [if_neg q2, if_neg (by omega)]
      · rw [if_neg h, if_neg h, if_neg h]
    have e1 : ix (zI ((c : Int) + i)) = c + i := z_ixn (m := c + i) (by omega)
    have e2 : ix (zI ((a : Int) + i)) = a + i := z_ixn (m := a + i) (by omega)
    simp (disch := omega) only [z_lit, z_n, z_add, z_sub, z_mul, z_neg, z_lt1, z_lt0, z_le1, z_le0, z_eq1, z_eq0, z_10, ↓reduceIte, z_v, z_upd, z_ue, z_un, z_ixn, z_ixo, z_ix0, z_ix1, z_ix2, z_ix3, z_ix4, z_ix5, z_ix6, Int.reduceToNat, z_inr, z_gd, ↓z_bnd, ↓z_jn, z_bdc, z_bd2, z_opn, z_ops, z_z01, z_Bt, z_Bf, e1, e2, e]
  · subst hp
    rw [l_X10_copyRow_3]
    simp (disch := omega) only [z_lit, z_n, z_add, z_sub, z_mul, z_neg, z_lt1, z_lt0, z_le1, z_le0, z_eq1, z_eq0, z_10, ↓reduceIte, z_v, z_upd, z_ue, z_un, z_ixn, z_ixo, z_ix0, z_ix1, z_ix2, z_ix3, z_ix4, z_ix5, z_ix6, Int.reduceToNat, z_inr, z_gd, ↓z_bnd, ↓z_jn, z_bdc, z_bd2, z_opn, z_ops, z_z01, z_Bt, z_Bf]
  · funext y j
    unfold setU z_rw
    by_cases h : y = v
    · rw [if_pos h, if_neg (by omega), h]
    · rw [if_neg h]
theorem z_tries (hg : ∀ k, k < 251 → W 21 k = zI (g k)) : ∃ V, f_X10_tries W = some V ∧ z_EQ W V ∧ V 27 = W 27 ∧ V 31 = W 31 ∧ V 30 = W 30 ∧ V 21 = W 21 ∧ (∀ k, k < 251 → V 23 k = W 21 k) := by
  refine ⟨setU W 23 (z_rw (W 23) (W 21) 0 0 251), ?_, ⟨fun u _ _ h _ _ _ => z_sUu h, fun k _ => by rw [z_sUu (by omega)], fun k _ => by rw [z_sUu (by omega)]⟩, z_sUu (by omega), z_sUu (by omega), z_sUu (by omega), z_sUu (by omega), fun k hk => ?_⟩
  · unfold f_X10_tries
    rw [z_l0]
    have e := z_crow (W := W) (u := 21) (v := 23) (a := 0) (c := 0) (by omega) (by rw [z_LN21]; omega) (by rw [z_LN23]; omega)
    have e' : f_X10_copyRow W 21 (zI 0) 23 (zI 0) = _ := e
    rw [e', z_bdc]
  · rw [z_sUe]
    unfold z_rw
    rw [if_pos (by omega), show 0 + (k - 0) = k by omega]
/-- one minute, with all that stays -/
theorem z_min1 (hb : b + 1 ≤ 1000000000) (h : z_PI b s g) : ∃ s' g', f_X4_passMinute (zV s) = some (zV s') ∧ f_X10_minute (zV g) = some (zV g') ∧ z_PI (b + 1) s' g' ∧ s' 0 = s 0 + 1 ∧ (∀ k, 1 ≤ k → k < 5 → s' k = s k) ∧ z_sk 4 (zu s 0 (s 0 + 1)) g s' g' := by
  obtain ⟨s', g', e1, e2, e3, e4, e5, e6, e7, -⟩ := z_minute hb h.1 h.2.1
  refine ⟨s', g', e1, e2, ⟨e3, e4, fun i hi => ?_⟩, e5, e6, e7⟩
  have := h.2.2 i hi
  rcases e7 i hi with ⟨q, -⟩ | ⟨q1, q2, -⟩ <;> omega
theorem z_mins : ∀ (d : Nat) (b : Int) (s g : Nat → Int) (i n N M : Nat), b + d ≤ 1000000000 → z_PI b s g → i + d = n → n < 1000 → d < N → d < M → ∃ s' g', l_X4_passMinutes_2 (zI n) N (zV s) (zI i) = some (zV s') ∧ l_X10_minutes_2 (zI n) M (zV g) (zI i) = some (zV g') ∧ z_PI (b + d) s' g' ∧ (∀ k, 1 ≤ k → k < 5 → s' k = s k) := by
  intro d
  induction d with
  | zero =>
    intro b s g i n N M hb h hi hn hN hM
    obtain ⟨N, rfl⟩ : ∃ m, N = m + 1 := ⟨N - 1, by omega⟩
    obtain ⟨M, rfl⟩ : ∃ m, M = m + 1 := ⟨M - 1, by omega⟩
    refine ⟨s, g, ?_, ?_, z_PI_le h (by omega), fun k _ _ => rfl⟩
    · rw [l_X4_passMinutes_2]
      simp (disch := omega) only [z_lit, z_n, z_add, z_sub, z_mul, z_neg, z_lt1, z_lt0, z_le1, z_le0, z_eq1, z_eq0, z_10, ↓reduceIte, z_v, z_upd, z_ue, z_un, z_ixn, z_ixo, z_ix0, z_ix1, z_ix2, z_ix3, z_ix4, z_ix5, z_ix6, Int.reduceToNat, z_inr, z_gd, ↓z_bnd, ↓z_jn, z_bdc, z_bd2, z_opn, z_ops, z_z01, z_Bt, z_Bf]
    · rw [l_X10_minutes_2]
      simp (disch := omega) only [z_lit, z_n, z_add, z_sub, z_mul, z_neg, z_lt1, z_lt0, z_le1, z_le0, z_eq1, z_eq0, z_10, ↓reduceIte, z_v, z_upd, z_ue, z_un, z_ixn, z_ixo, z_ix0, z_ix1, z_ix2, z_ix3, z_ix4, z_ix5, z_ix6, Int.reduceToNat, z_inr, z_gd, ↓z_bnd, ↓z_jn, z_bdc, z_bd2, z_opn, z_ops, z_z01, z_Bt, z_Bf]
  | succ d ih =>
    intro b s g i n N M hb h hi hn hN hM
    obtain ⟨N, rfl⟩ : ∃ m, N = m + 1 := ⟨N - 1, by omega⟩
    obtain ⟨M, rfl⟩ : ∃ m, M = m + 1 := ⟨M - 1, by omega⟩
    obtain ⟨s1, g1, e1, e2, e3, e4, e5, e6⟩ := z_min1 (by omega) h
    obtain ⟨s2, g2, f1, f2, f3, f4⟩ := ih (b + 1) s1 g1 (i + 1) n N M (by omega) e3 (by omega) hn (by omega) (by omega)
    refine ⟨s2, g2, ?_, ?_, z_PI_le f3 (by omega), fun k k1 k2 => by rw [f4 k k1 k2, e5 k k1 k2]⟩
    · rw [l_X4_passMinutes_2]
      simp (disch := omega) only [z_lit, z_n, z_add, z_sub, z_mul, z_neg, z_lt1, z_lt0, z_le1, z_le0, z_eq1, z_eq0, z_10, ↓reduceIte, z_v, z_upd, z_ue, z_un, z_ixn, z_ixo, z_ix0, z_ix1, z_ix2, z_ix3, z_ix4, z_ix5, z_ix6, Int.reduceToNat, z_inr, z_gd, ↓z_bnd, ↓z_jn, z_bdc, z_bd2, z_opn, z_ops, z_z01, z_Bt, z_Bf, e1]
      exact f1
    · rw [l_X10_minutes_2]
      simp (disch := omega) only [z_lit, z_n, z_add, z_sub, z_mul, z_neg, z_lt1, z_lt0, z_le1, z_le0, z_eq1, z_eq0, z_10, ↓reduceIte, z_v, z_upd, z_ue, z_un, z_ixn, z_ixo, z_ix0, z_ix1, z_ix2, z_ix3, z_ix4, z_ix5, z_ix6, Int.reduceToNat, z_inr, z_gd, ↓z_bnd, ↓z_jn, z_bdc, z_bd2, z_opn, z_ops, z_z01, z_Bt, z_Bf, e2]
      exact f2
theorem z_minN {n : Nat} (hn : n < 1000) (hb : b + n ≤ 1000000000) (h : z_PI b s g) : ∃ s' g', f_X4_passMinutes (zV s) (zI n) = some (zV s') ∧ f_X10_minutes (zV g) (zI n) = some (zV g') ∧ z_PI (b + n) s' g' ∧ (∀ k, 1 ≤ k → k < 5 → s' k = s k) := by
  obtain ⟨s', g', e1, e2, e3, e4⟩ := z_mins n b s g 0 n FU FU hb h (by omega) hn (by unfold FU; omega) (by unfold FU; omega)
  exact ⟨s', g', e1, e2, e3, e4⟩
end Fut
