/-! loading -/
theorem z_blt {w n : Nat} (h : w < n) : Nat.blt w n = true := Nat.blt_eq.mpr h
def z_cl (s : Nat → Int) (t : Nat) (k : Nat) : Bool := z_wt s (z_cu s t) k && !z_he s k && decide (z_dp s t (s (143 + 9 * k + 1)) ≠ -1)
/-- only parcels and the counts of loadings differ -/
def z_fr (s s' : Nat → Int) : Prop := ∀ k, (k < 5 ∨ (7 ≤ k ∧ k < 143) ∨ 251 ≤ k) → s' k = s k
section Lod
variable {b : Int} {s s' g g' : Nat → Int}
theorem z_tk_c (h2 : s' 2 = s 2) (hl : s 2 ≤ 12) (e : ∀ k, 39 ≤ k → k < 87 → s' k = s k) {x y : Int} : z_tk s' x y = z_tk s x y := by
  unfold z_tk
  rw [h2]
  refine z_ff_c _ _ (fun j _ hj => ?_)
  unfold z_cn
  rw [e (39 + 4 * j) (by omega) (by omega), e (39 + 4 * j + 1) (by omega) (by omega)]
theorem z_eg_c (h2 : s' 2 = s 2) (hl : s 2 ≤ 12) (e : ∀ k, 39 ≤ k → k < 87 → s' k = s k) {y x : Nat} {w : Int} : z_eg s' y x w ↔ z_eg s y x w := by
  constructor
  · rintro ⟨k, k1, k2⟩
    rw [h2] at k1
    rw [e _ (by omega) (by omega), e _ (by omega) (by omega), e _ (by omega) (by omega), e _ (by omega) (by omega)] at k2
    exact ⟨k, k1, k2⟩
  · rintro ⟨k, k1, k2⟩
    refine ⟨k, by rw [h2]; exact k1, ?_⟩
    rw [e _ (by omega) (by omega), e _ (by omega) (by omega), e _ (by omega) (by omega), e _ (by omega) (by omega)]
    exact k2
theorem z_dis_c (h2 : s' 2 = s 2) (hl : s 2 ≤ 12) (e : ∀ k, 39 ≤ k → k < 87 → s' k = s k) (e2 : ∀ k, 251 ≤ k → s' k = s k) (h : z_dis s) : z_dis s' := by
  unfold z_dis at h ⊢
  have q : zT s' = zT s := by
    funext a b
    unfold zT
    rw [e2 _ (by omega)]
  rw [q]
  obtain ⟨t1, t2, t3, t4, t5, t6⟩ := h
  refine ⟨t1, t2, fun y x w he => t3 y x w ((z_eg_c h2 hl e).mp he), t4, fun a c ha hc hl2 => ?_, t6⟩
  rcases t5 a c ha hc hl2 with q | ⟨y, w, hy, he, hw⟩
  · exact Or.inl q
  · exact Or.inr ⟨y, w, hy, (z_eg_c h2 hl e).mpr he, hw⟩
theorem z_trn_c (h1 : s' 1 = s 1) (h2 : s' 2 = s 2) (hl : s 2 ≤ 12) (e : ∀ k, 39 ≤ k → k < 87 → s' k = s k) {t : Nat} (et : ∀ k, k < 11 → s' (87 + 14 * t + k) = s (87 + 14 * t + k)) (h : z_trn s t) : z_trn s' t := by
  obtain ⟨a0, a1, a2, a3, a4, a5, a6⟩ := h
  have e0 := et 0 (by omega)
  have e1 := et 1 (by omega)
  have e8 := et 8 (by omega)
  have e9 := et 9 (by omega)
  have e10 := et 10 (by omega)
  simp only [Nat.add_zero] at e0
  have es : ∀ j : Nat, j < 6 → s' (87 + 14 * t + 2 + j) = s (87 + 14 * t + 2 + j) := fun j hj => by
    have := et (2 + j) (by omega)
    rw [← Nat.add_assoc] at this
    exact this
  unfold z_trn
  rw [e0, e1, e8, e9, e10, h1]
  refine ⟨a0, a1, fun j hj => ?_, fun j hj => ?_, a4, a5, a6⟩
  · rw [es j (by omega)]
    exact a2 j hj
  · rw [es j (by omega), es (j + 1) (by omega), z_tk_c h2 hl e]
    exact a3 j hj
theorem z_sp_c {t : Nat} (et : ∀ k, k < 11 → s' (87 + 14 * t + k) = s (87 + 14 * t + k)) {p : Int} (hp : p < 6) : z_sp s' t p = z_sp s t p := by
  unfold z_sp
  have := et (2 + p.toNat) (by omega)
  rw [← Nat.add_assoc] at this
  exact this
theorem z_cu_c {t : Nat} (h : z_trn s t) (et : ∀ k, k < 11 → s' (87 + 14 * t + k) = s (87 + 14 * t + k)) : z_cu s' t = z_cu s t := by
  obtain ⟨-, a1, -, -, a4, a5, -⟩ := h
  unfold z_cu
  rw [et 8 (by omega), z_sp_c et (by omega)]
theorem z_nx_c {t : Nat} (h : z_trn s t) (et : ∀ k, k < 11 → s' (87 + 14 * t + k) = s (87 + 14 * t + k)) : z_nx s' t = z_nx s t := by
  obtain ⟨-, a1, -, -, a4, a5, -⟩ := h
  unfold z_nx
  rw [et 8 (by omega), et 9 (by omega), z_sp_c et (by omega)]
theorem z_dr_c {t : Nat} (h : z_trn s t) (et : ∀ k, k < 11 → s' (87 + 14 * t + k) = s (87 + 14 * t + k)) (e2 : ∀ k, 251 ≤ k → s' k = s k) {y : Int} : ∀ m p bs ls, z_dr s' t y m p bs ls = z_dr s t y m p bs ls
  | 0, p, bs, ls => rfl
  | m + 1, p, bs, ls => by
    have eo : z_ok s' t p = z_ok s t p := by
      unfold z_ok
      rw [et 1 (by omega)]
    unfold z_dr
    rw [eo]
    by_cases c : z_ok s t p = true
    · have cp := of_decide_eq_true c
      have a1 := h.2.1
      have ed : ∀ x, z_d s' x y = z_d s x y := fun x => by
        unfold z_d zT
        rw [e2 _ (by omega)]
      rw [if_pos c, if_pos c, z_sp_c et (by omega), ed, et 9 (by omega), z_dr_c h et e2, z_dr_c h et e2]
    · rw [if_neg c, if_neg c]
theorem z_dp_c {t : Nat} (h : z_trn s t) (et : ∀ k, k < 11 → s' (87 + 14 * t + k) = s (87 + 14 * t + k)) (e2 : ∀ k, 251 ≤ k → s' k = s k) {y : Int} : z_dp s' t y = z_dp s t y := by
  unfold z_dp
  rw [z_dr_c h et e2, et 8 (by omega), et 9 (by omega), z_cu_c h et]
  rw [show z_d s' (z_cu s t) y = z_d s (z_cu s t) y by unfold z_d zT; rw [e2 _ (by omega)]]
theorem z_inv_fr (h : z_inv b s) (e : z_fr s s') (hp : ∀ i : Nat, (i : Int) < s 4 → z_pcl s' i) : z_inv b s' := by
  obtain ⟨h0, ⟨b1, b2, b3⟩, a1, a2, a3, a4, a5⟩ := h
  obtain ⟨c0, c1, c2, c3, c4⟩ := id h0
  refine ⟨?_, ⟨fun i hi => by rw [e _ (by omega)]; exact b1 i hi, fun i hi => by rw [e _ (by omega)]; exact b2 i hi, fun i hi => by rw [e _ (by omega)]; exact b3 i hi⟩, fun i hi => ?_, fun k hk => ?_, fun t ht => ?_, fun i hi => hp i (by rw [e 4 (by omega)] at hi; exact hi), ?_⟩
  · unfold z_cnt4
    rw [e 0 (by omega), e 1 (by omega), e 2 (by omega), e 3 (by omega), e 4 (by omega)]
    exact h0
  · rw [e 1 (by omega)] at hi
    have := a1 i hi
    unfold z_stn at this ⊢
    rw [e _ (by omega), e _ (by omega), e 0 (by omega)]
    exact this
  · rw [e 2 (by omega)] at hk
    have := a2 k hk
    unfold z_trk at this ⊢
    rw [e _ (by omega), e _ (by omega), e _ (by omega), e _ (by omega)]
    exact this
  · rw [e 3 (by omega)] at ht
    exact z_trn_c (e 1 (by omega)) (e 2 (by omega)) (by omega) (fun k h1 h2 => e k (by omega)) (fun k hk => e _ (by omega)) (a3 t ht)
  · exact z_dis_c (e 2 (by omega)) (by omega) (fun k h1 h2 => e k (by omega)) (fun k hk => e k (by omega)) a5
theorem z_rel_fr (h : z_inv b s) (r : z_rel s g) (e : z_fr s s') (eg : ∀ k, (k < 5 ∨ (7 ≤ k ∧ k < 143)) → g' k = g k) (h5 : g' 5 = s' 5) (h6 : g' 6 = s' 6) (hp : ∀ i : Nat, (i : Int) < s 4 → ∀ j, j < 9 → g' (143 + 9 * i + j) = s' (143 + 9 * i + j)) : z_rel s' g' := by
  obtain ⟨r0, r1, r2, r3, r4⟩ := r
  obtain ⟨⟨c0, c1, c2, c3, c4⟩, -, -, -, hn, -, -⟩ := h
  refine ⟨fun k hk => ?_, fun i hi => ?_, fun k hk j hj => ?_, fun t ht => ?_, fun i hi => hp i (by rw [e 4 (by omega)] at hi; exact hi)⟩
  · by_cases c : k = 5
    · rw [c]; exact h5
    · by_cases c2 : k = 6
      · rw [c2]; exact h6
      · rw [eg k (by omega), e k (by omega)]
        exact r0 k hk
  · rw [e 1 (by omega)] at hi
    rw [e _ (by omega), e _ (by omega), e _ (by omega), eg _ (by omega), eg _ (by omega), eg _ (by omega)]
    exact r1 i hi
  · rw [e 2 (by omega)] at hk
    rw [e _ (by omega), eg _ (by omega)]
    exact r2 k hk j hj
  · rw [e 3 (by omega)] at ht
    obtain ⟨a0, a1, a2, a3, a4, a5, a6, a7, a8⟩ := r3 t ht
    have tn := hn t ht
    have et : ∀ k, k < 14 → s' (87 + 14 * t + k) = s (87 + 14 * t + k) := fun k hk => e _ (by omega)
    have tl := tn.2.1
    unfold z_rtn
    rw [e _ (by omega), e _ (by omega), e _ (by omega), e _ (by omega), e _ (by omega), e _ (by omega), e _ (by omega), eg _ (by omega), eg _ (by omega), eg _ (by omega), eg _ (by omega), eg _ (by omega), eg _ (by omega), eg _ (by omega)]
    refine ⟨a0, a1, fun j hj => by rw [e _ (by omega), eg _ (by omega)]; exact a2 j hj, a3, a4, ?_, a6, a7, a8⟩
    unfold z_tv at a5 ⊢
    rw [z_cu_c tn (fun k hk => et k (by omega)), z_nx_c tn (fun k hk => et k (by omega)), z_tk_c (e 2 (by omega)) (by omega) (fun k h1 h2 => e k (by omega)), e (87 + 14 * t + 10) (by omega), eg (87 + 14 * t + 10) (by omega)]
    rcases a5 with q | ⟨q1, q2, k, q3, q4⟩
    · exact Or.inl q
    · refine Or.inr ⟨q1, q2, k, q3, ?_⟩
      have := z_ff_s _ _ _ q3
      rw [e _ (by omega)]
      exact q4
end Lod
