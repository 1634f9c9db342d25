/-! the changes of the state, and of the Hand -/
section Chg
variable {b : Int} {s s' : Nat → Int} {W : Nat → Nat → Int32} {Y Y' : Nat → Nat → Int32}
theorem x_b01 (h : z_inv b s) : z_b01 (zV s) := by
  obtain ⟨b1, b2, b3⟩ := h.2.1
  exact ⟨fun i hi => z_z01 (b1 i hi), fun i hi => z_z01 (b2 i hi), fun i hi => z_z01 (b3 i hi)⟩
theorem x_copy (S : Nat → Int32) (h : z_b01 (zV s)) : ∃ s', f_X4_copyFrom S (zV s) = some (zV s') ∧ ∀ k, k < 315 → s' k = s k := by
  obtain ⟨t, rfl, -⟩ := z_any S
  refine ⟨fun k => if k < 315 then s k else t k, ?_, fun k hk => if_pos hk⟩
  rw [z_Ccp h]
  congr 1
  funext k
  unfold z_cw zV
  by_cases c : k < 315
  · rw [if_pos ⟨by omega, c⟩]
    show zI (s k) = zI (if k < 315 then s k else t k)
    rw [if_pos c]
  · rw [if_neg (fun q => c q.2)]
    show zI (t k) = zI (if k < 315 then s k else t k)
    rw [if_neg c]
/-- the history's ring -/
def x_hi (W : Nat → Nat → Int32) : Prop := ∃ n c : Int, W 17 0 = zI n ∧ W 17 1 = zI c ∧ (0 ≤ n ∧ n < 8) ∧ (0 ≤ c ∧ c ≤ 8)
theorem x_rem (h0 : W 0 = zV s) (h : z_b01 (zV s)) (hh : x_hi W) : ∃ W1, f_X0_remember W = some W1 ∧ W1 0 = zV s ∧ x_hi W1 ∧ (∀ u, (u < 3 ∨ 11 ≤ u) → u ≠ 17 → W1 u = W u) := by
  obtain ⟨n, c, h1, h2, hn, hc⟩ := hh
  obtain ⟨m, rfl⟩ : ∃ m : Nat, n = m := ⟨n.toNat, by omega⟩
  obtain ⟨h', k1, k3⟩ := x_copy (W (3 + m)) h
  refine ⟨w2 (w2 (setU W (3 + m) (zV h')) 17 0 (zI (((m : Int) + 1) % 8))) 17 1 (zI (if c = 8 then 8 else c + 1)), ?_, ?_, ⟨((m : Int) + 1) % 8, if c = 8 then 8 else c + 1, ?_, z_w2e, by omega, by split <;> omega⟩, fun u u1 u2 => ?_⟩
  · unfold f_X0_remember
    rw [h1, h0]
    simp (disch := omega) only [z_lit, z_n, z_add, z_sub, z_mul, z_neg, z_lt1, z_lt0, z_le1, z_le0, z_eq1, z_eq0, z_10, ↓reduceIte, z_v, z_upd, z_ue, z_un, z_ixn, z_ixo, z_ix0, z_ix1, z_ix2, z_ix3, z_ix4, z_ix5, z_ix6, Int.reduceToNat, z_inr, z_gd, ↓z_bnd, ↓z_jn, z_bdc, z_bd2, z_opn, z_ops, z_z01, z_Bt, z_Bf, k1, z_sUu, h1]
    by_cases e : (m : Int) = 7
    · rw [show ((m : Int) + 1) % 8 = 0 by omega]
      by_cases f : c = 8
      · rw [if_pos f]
        simp (disch := omega) only [z_lit, z_n, z_add, z_sub, z_mul, z_neg, z_lt1, z_lt0, z_le1, z_le0, z_eq1, z_eq0, z_10, ↓reduceIte, z_v, z_upd, z_ue, z_un, z_ixn, z_ixo, z_ix0, z_ix1, z_ix2, z_ix3, z_ix4, z_ix5, z_ix6, Int.reduceToNat, z_inr, z_gd, ↓z_bnd, ↓z_jn, z_bdc, z_bd2, z_opn, z_ops, z_z01, z_Bt, z_Bf, z_w2k, z_sUu, h2]
      · rw [if_neg f]
        simp (disch := omega) only [z_lit, z_n, z_add, z_sub, z_mul, z_neg, z_lt1, z_lt0, z_le1, z_le0, z_eq1, z_eq0, z_10, ↓reduceIte, z_v, z_upd, z_ue, z_un, z_ixn, z_ixo, z_ix0, z_ix1, z_ix2, z_ix3, z_ix4, z_ix5, z_ix6, Int.reduceToNat, z_inr, z_gd, ↓z_bnd, ↓z_jn, z_bdc, z_bd2, z_opn, z_ops, z_z01, z_Bt, z_Bf, z_w2k, z_sUu, h2]
    · rw [show ((m : Int) + 1) % 8 = m + 1 by omega]
      by_cases f : c = 8
      · rw [if_pos f]
        simp (disch := omega) only [z_lit, z_n, z_add, z_sub, z_mul, z_neg, z_lt1, z_lt0, z_le1, z_le0, z_eq1, z_eq0, z_10, ↓reduceIte, z_v, z_upd, z_ue, z_un, z_ixn, z_ixo, z_ix0, z_ix1, z_ix2, z_ix3, z_ix4, z_ix5, z_ix6, Int.reduceToNat, z_inr, z_gd, ↓z_bnd, ↓z_jn, z_bdc, z_bd2, z_opn, z_ops, z_z01, z_Bt, z_Bf, z_w2k, z_sUu, h2]
      · rw [if_neg f]
        simp (disch := omega) only [z_lit, z_n, z_add, z_sub, z_mul, z_neg, z_lt1, z_lt0, z_le1, z_le0, z_eq1, z_eq0, z_10, ↓reduceIte, z_v, z_upd, z_ue, z_un, z_ixn, z_ixo, z_ix0, z_ix1, z_ix2, z_ix3, z_ix4, z_ix5, z_ix6, Int.reduceToNat, z_inr, z_gd, ↓z_bnd, ↓z_jn, z_bdc, z_bd2, z_opn, z_ops, z_z01, z_Bt, z_Bf, z_w2k, z_sUu, h2]
  · rw [z_w2u (by omega), z_w2u (by omega), z_sUu (by omega), h0]
  · rw [z_w2k (by omega), z_w2e]
  · rw [z_w2u u2, z_w2u u2, z_sUu (by omega)]
theorem x_inv_in (h : z_inv b s) {i : Nat} {m : Int} (hi : (i : Int) < s 1) (hm : 0 ≤ m ∧ m ≤ 9) : z_inv b (zu s (7 + 4 * i + 2) m) := by
  obtain ⟨⟨c0, c1, c2, c3, c4⟩, ⟨b1, b2, b3⟩, a1, a2, a3, a4, a5⟩ := h
  have u : ∀ k, k ≠ 7 + 4 * i + 2 → zu s (7 + 4 * i + 2) m k = s k := fun k hk => z_un hk
  refine ⟨?_, ⟨fun j hj => by rw [u _ (by omega)]; exact b1 j hj, fun j hj => by rw [u _ (by omega)]; exact b2 j hj, fun j hj => by rw [u _ (by omega)]; exact b3 j hj⟩, fun j hj => ?_, fun k hk => ?_, fun t ht => ?_, fun j hj => ?_, ?_⟩
  · unfold z_cnt4
    rw [u 0 (by omega), u 1 (by omega), u 2 (by omega), u 3 (by omega), u 4 (by omega)]
    exact ⟨c0, c1, c2, c3, c4⟩
  · rw [u 1 (by omega)] at hj
    have := a1 j hj
    unfold z_stn at this ⊢
    rw [u 0 (by omega), u (7 + 4 * j + 3) (by omega)]
    by_cases q : j = i
    · subst q
      rw [z_ue rfl]
      exact ⟨hm, this.2⟩
    · rw [u _ (by omega)]
      exact this
  · rw [u 2 (by omega)] at hk
    have := a2 k hk
    unfold z_trk at this ⊢
    rw [u 1 (by omega), u _ (by omega), u _ (by omega), u _ (by omega)]
    exact this
  · rw [u 3 (by omega)] at ht
    exact z_trn_c (u 1 (by omega)) (u 2 (by omega)) (by omega) (fun k h1 h2 => u k (by omega)) (fun k hk => u _ (by omega)) (a3 t ht)
  · rw [u 4 (by omega)] at hj
    have := a4 j hj
    unfold z_pcl at this ⊢
    rw [u 0 (by omega), u (143 + 9 * j) (by omega), u (143 + 9 * j + 1) (by omega), u (143 + 9 * j + 2) (by omega), u (143 + 9 * j + 3) (by omega), u (143 + 9 * j + 4) (by omega), u (143 + 9 * j + 5) (by omega), u (143 + 9 * j + 7) (by omega), u (143 + 9 * j + 8) (by omega), u 1 (by omega), u 3 (by omega)]
    exact this
  · exact z_dis_c (u 2 (by omega)) (by omega) (fun k h1 h2 => u k (by omega)) (fun k hk => u k (by omega)) a5
theorem x_in (J : x_J b s) (r : x_rel s Y) {i : Nat} {m : Int} (hi : (i : Int) < s 1) (hm : 0 ≤ m ∧ m ≤ 9) : x_J b (zu s (7 + 4 * i + 2) m) ∧ x_rel (zu s (7 + 4 * i + 2) m) (w2 Y 5 i (zI m)) := by
  obtain ⟨⟨c0, c1, c2, c3, c4⟩, -⟩ := id J.1
  have h := J.1
  have u : ∀ k, k ≠ 7 + 4 * i + 2 → zu s (7 + 4 * i + 2) m k = s k := fun k hk => z_un hk
  have u1 := u 1 (by omega)
  have u3 := u 3 (by omega)
  have u4 := u 4 (by omega)
  obtain ⟨r0, r1, r2, r3, r4⟩ := r
  refine ⟨⟨x_inv_in h hi hm, x_un_c (u 2 (by omega)) (by omega) (fun k _ _ => u k (by omega)) J.2.1, x_ba_c (u 5 (by omega)) (u 6 (by omega)) u4 (fun k _ => u _ (by omega)) J.2.2⟩, ?_, fun j hj => ?_, fun a c ha hc => ?_, fun t ht => ?_, fun j hj k hk => ?_⟩
  · unfold x_r0
    rw [z_w2u (by omega), u1, u3, u4, u 0 (by omega)]
    exact r0
  · rw [u1] at hj
    rw [z_w2u (by omega), u _ (by omega)]
    refine ⟨(r1 j hj).1, ?_⟩
    by_cases q : j = i
    · subst q
      rw [z_w2e, z_ue rfl]
    · rw [z_w2k q, u _ (by omega)]
      exact (r1 j hj).2
  · rw [u1] at ha hc
    obtain ⟨q1, q2⟩ := x_tm_c h (u 2 (by omega)) (fun k _ _ => u k (by omega)) a c
    rw [z_w2u (by omega), z_w2u (by omega), q1, q2]
    exact r2 a c ha hc
  · rw [u3] at ht
    have q := r3 t ht
    unfold x_rt at q ⊢
    simp (disch := omega) only [z_w2u]
    rw [u _ (by omega), u _ (by omega), u _ (by omega), u _ (by omega), u _ (by omega), u _ (by omega), u _ (by omega), u _ (by omega)]
    refine ⟨⟨q.1.1, q.1.2.1, fun j hj => ?_⟩, q.2⟩
    rw [u _ (by omega)]
    exact q.1.2.2 j hj
  · rw [u4] at hj
    rw [z_w2u (by omega), u _ (by omega)]
    exact r4 j hj k hk
theorem x_prio (J : x_J b s) (r : x_rel s Y) {i : Nat} {p : Int} (hi : (i : Int) < s 4) (hp : 1 ≤ p ∧ p ≤ 9) : x_J b (zu s (143 + 9 * i + 2) p) ∧ x_rel (zu s (143 + 9 * i + 2) p) (w2 Y (40 + i) 2 (zI p)) := by
  obtain ⟨⟨c0, c1, c2, c3, c4⟩, -⟩ := id J.1
  have h := J.1
  have u : ∀ k, k ≠ 143 + 9 * i + 2 → zu s (143 + 9 * i + 2) p k = s k := fun k hk => z_un hk
  have fr : z_fr s (zu s (143 + 9 * i + 2) p) := fun k hk => u k (by omega)
  refine ⟨⟨z_inv_fr h fr (fun j hj => ?_), x_un_c (u 2 (by omega)) (by omega) (fun k _ _ => u k (by omega)) J.2.1, x_ba_c (u 5 (by omega)) (u 6 (by omega)) (u 4 (by omega)) (fun k _ => u _ (by omega)) J.2.2⟩, x_rel_fr h r fr (fun v hv => z_w2u (by omega)) (fun j hj k hk => ?_)⟩
  · have := h.2.2.2.2.2.1 j hj
    unfold z_pcl at this ⊢
    rw [u 0 (by omega), u (143 + 9 * j) (by omega), u (143 + 9 * j + 1) (by omega), u (143 + 9 * j + 3) (by omega), u (143 + 9 * j + 4) (by omega), u (143 + 9 * j + 5) (by omega), u (143 + 9 * j + 7) (by omega), u (143 + 9 * j + 8) (by omega), u 1 (by omega), u 3 (by omega)]
    by_cases q : j = i
    · subst q
      rw [z_ue rfl]
      exact ⟨this.1, this.2.1, hp, this.2.2.2⟩
    · rw [u (143 + 9 * j + 2) (by omega)]
      exact this
  · have q4 := r.2.2.2.2 j hj k hk
    by_cases q : j = i
    · subst q
      by_cases d : k = 2
      · subst d
        rw [z_w2e, z_ue rfl]
      · rw [z_w2k d, u _ (by omega)]
        exact q4
    · rw [z_w2u (by omega), u _ (by omega)]
      exact q4
theorem x_wdA (J : x_J b s) (r : x_rel s Y) {i : Nat} (hi : (i : Int) < s 4) (hs : s (143 + 9 * i + 3) ≠ -1) : x_J b (zu (zu (zu (zu s (143 + 9 * i + 3) (-1)) (143 + 9 * i + 4) (-1)) (143 + 9 * i + 5) (-1)) (143 + 9 * i + 8) (s 0)) ∧ x_rel (zu (zu (zu (zu s (143 + 9 * i + 3) (-1)) (143 + 9 * i + 4) (-1)) (143 + 9 * i + 5) (-1)) (143 + 9 * i + 8) (s 0)) (w2 (w2 Y (40 + i) 3 (zI (-1))) (40 + i) 8 (zI (s 0))) := by
  obtain ⟨⟨c0, c1, c2, c3, c4⟩, -⟩ := id J.1
  have h := J.1
  have pi := h.2.2.2.2.2.1 i hi
  obtain ⟨z, hz⟩ : ∃ z, z = zu (zu (zu (zu s (143 + 9 * i + 3) (-1)) (143 + 9 * i + 4) (-1)) (143 + 9 * i + 5) (-1)) (143 + 9 * i + 8) (s 0) := ⟨_, rfl⟩
  rw [← hz]
  have u : ∀ k, k ≠ 143 + 9 * i + 3 → k ≠ 143 + 9 * i + 4 → k ≠ 143 + 9 * i + 5 → k ≠ 143 + 9 * i + 8 → z k = s k := fun k k1 k2 k3 k4 => by
    rw [hz, z_un k4, z_un k3, z_un k2, z_un k1]
  have d3 : z (143 + 9 * i + 3) = -1 := by rw [hz]; simp (disch := omega) only [z_un, z_ue]
  have d4 : z (143 + 9 * i + 4) = -1 := by rw [hz]; simp (disch := omega) only [z_un, z_ue]
  have d5 : z (143 + 9 * i + 5) = -1 := by rw [hz]; simp (disch := omega) only [z_un, z_ue]
  have d8 : z (143 + 9 * i + 8) = s 0 := by rw [hz, z_ue rfl]
  have s4 : s (143 + 9 * i + 4) = -1 := by
    have := pi.2.2.2.2.2.2.2.2
    omega
  have s5 : s (143 + 9 * i + 5) = -1 := by
    have := pi.2.2.2.2.2.2.2.2
    omega
  have fr : z_fr s z := fun k hk => u k (by omega) (by omega) (by omega) (by omega)
  refine ⟨⟨z_inv_fr h fr (fun j hj => ?_), x_un_c (fr 2 (by omega)) (by omega) (fun k _ _ => fr k (by omega)) J.2.1, x_ba_c (u 5 (by omega) (by omega) (by omega) (by omega)) (u 6 (by omega) (by omega) (by omega) (by omega)) (fr 4 (by omega)) (fun k hk => ?_) J.2.2⟩, x_rel_fr h r fr (fun v hv => by rw [z_w2u (by omega), z_w2u (by omega)]) (fun j hj k hk => ?_)⟩
  · have := h.2.2.2.2.2.1 j hj
    by_cases q : j = i
    · subst q
      unfold z_pcl at this ⊢
      rw [d3, d4, d5, d8, fr 0 (by omega), fr 1 (by omega), fr 3 (by omega), u (143 + 9 * j) (by omega) (by omega) (by omega) (by omega), u (143 + 9 * j + 1) (by omega) (by omega) (by omega) (by omega), u (143 + 9 * j + 2) (by omega) (by omega) (by omega) (by omega), u (143 + 9 * j + 7) (by omega) (by omega) (by omega) (by omega)]
      omega
    · unfold z_pcl at this ⊢
      have v : ∀ k, k < 9 → z (143 + 9 * j + k) = s (143 + 9 * j + k) := fun k hk => u _ (by omega) (by omega) (by omega) (by omega)
      have v0 := v 0 (by omega)
      rw [Nat.add_zero] at v0
      rw [fr 0 (by omega), fr 1 (by omega), fr 3 (by omega), v0, v 1 (by omega), v 2 (by omega), v 3 (by omega), v 4 (by omega), v 5 (by omega), v 7 (by omega), v 8 (by omega)]
      exact this
  · by_cases q : k = i
    · subst q
      rw [d4, s4]
    · exact u _ (by omega) (by omega) (by omega) (by omega)
  · have q4 := r.2.2.2.2 j hj k hk
    by_cases q : j = i
    · subst q
      by_cases e3 : k = 3
      · subst e3
        rw [z_w2k (by omega), z_w2e, d3]
      by_cases e8 : k = 8
      · subst e8
        rw [z_w2e, d8]
      rw [z_w2k e8, z_w2k e3, q4]
      by_cases e4 : k = 4
      · subst e4
        rw [d4, s4]
      by_cases e5 : k = 5
      · subst e5
        rw [d5, s5]
      rw [u _ (by omega) (by omega) (by omega) (by omega)]
    · rw [z_w2u (by omega), z_w2u (by omega), u _ (by omega) (by omega) (by omega) (by omega)]
      exact q4
theorem x_wdB (J : x_J b s) (r : x_rel s Y) {i : Nat} (hi : (i : Int) < s 4) (hs : s (143 + 9 * i + 3) ≠ -1) : x_J b (zu (zu (zu s (143 + 9 * i + 1) (s (143 + 9 * i))) (143 + 9 * i) (s (143 + 9 * i + 3))) (143 + 9 * i + 7) 0) ∧ x_rel (zu (zu (zu s (143 + 9 * i + 1) (s (143 + 9 * i))) (143 + 9 * i) (s (143 + 9 * i + 3))) (143 + 9 * i + 7) 0) (w2 (w2 (w2 Y (40 + i) 1 (zI (s (143 + 9 * i)))) (40 + i) 0 (zI (s (143 + 9 * i + 3)))) (40 + i) 7 (zI 0)) := by
  obtain ⟨⟨c0, c1, c2, c3, c4⟩, -⟩ := id J.1
  have h := J.1
  have pi := h.2.2.2.2.2.1 i hi
  obtain ⟨z, hz⟩ : ∃ z, z = zu (zu (zu s (143 + 9 * i + 1) (s (143 + 9 * i))) (143 + 9 * i) (s (143 + 9 * i + 3))) (143 + 9 * i + 7) 0 := ⟨_, rfl⟩
  rw [← hz]
  have u : ∀ k, k ≠ 143 + 9 * i → k ≠ 143 + 9 * i + 1 → k ≠ 143 + 9 * i + 7 → z k = s k := fun k k1 k2 k3 => by
    rw [hz, z_un k3, z_un k1, z_un k2]
  have d0 : z (143 + 9 * i) = s (143 + 9 * i + 3) := by rw [hz]; simp (disch := omega) only [z_un, z_ue]
  have d1 : z (143 + 9 * i + 1) = s (143 + 9 * i) := by rw [hz]; simp (disch := omega) only [z_un, z_ue]
  have d7 : z (143 + 9 * i + 7) = 0 := by rw [hz, z_ue rfl]
  have fr : z_fr s z := fun k hk => u k (by omega) (by omega) (by omega)
  refine ⟨⟨z_inv_fr h fr (fun j hj => ?_), x_un_c (fr 2 (by omega)) (by omega) (fun k _ _ => fr k (by omega)) J.2.1, x_ba_c (u 5 (by omega) (by omega) (by omega)) (u 6 (by omega) (by omega) (by omega)) (fr 4 (by omega)) (fun k hk => u _ (by omega) (by omega) (by omega)) J.2.2⟩, x_rel_fr h r fr (fun v hv => by rw [z_w2u (by omega), z_w2u (by omega), z_w2u (by omega)]) (fun j hj k hk => ?_)⟩
  · have := h.2.2.2.2.2.1 j hj
    by_cases q : j = i
    · subst q
      unfold z_pcl at this ⊢
      rw [d0, d1, d7, fr 0 (by omega), fr 1 (by omega), fr 3 (by omega), u (143 + 9 * j + 2) (by omega) (by omega) (by omega), u (143 + 9 * j + 3) (by omega) (by omega) (by omega), u (143 + 9 * j + 4) (by omega) (by omega) (by omega), u (143 + 9 * j + 5) (by omega) (by omega) (by omega), u (143 + 9 * j + 8) (by omega) (by omega) (by omega)]
      omega
    · unfold z_pcl at this ⊢
      have v : ∀ k, k < 9 → z (143 + 9 * j + k) = s (143 + 9 * j + k) := fun k hk => u _ (by omega) (by omega) (by omega)
      have v0 := v 0 (by omega)
      rw [Nat.add_zero] at v0
      rw [fr 0 (by omega), fr 1 (by omega), fr 3 (by omega), v0, v 1 (by omega), v 2 (by omega), v 3 (by omega), v 4 (by omega), v 5 (by omega), v 7 (by omega), v 8 (by omega)]
      exact this
  · have q4 := r.2.2.2.2 j hj k hk
    by_cases q : j = i
    · subst q
      by_cases e7 : k = 7
      · subst e7
        rw [z_w2e, d7]
      by_cases e0 : k = 0
      · subst e0
        rw [z_w2k (by omega), z_w2e]
        exact congrArg zI d0.symm
      by_cases e1 : k = 1
      · subst e1
        rw [z_w2k (by omega), z_w2k (by omega), z_w2e, d1]
      rw [z_w2k e7, z_w2k e0, z_w2k e1, q4, u _ (by omega) (by omega) (by omega)]
    · rw [z_w2u (by omega), z_w2u (by omega), z_w2u (by omega), u _ (by omega) (by omega) (by omega)]
      exact q4
end Chg
