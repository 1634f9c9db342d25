/-! a track is opened or closed; a parcel is added -/
section Opn
variable {b : Int} {s s' : Nat → Int} {W : Nat → Nat → Int32} {Y Y' : Nat → Nat → Int32}
theorem x_tk_cn {x y : Int} {k : Nat} (e : z_tk s x y = some k) : (k : Int) < s 2 ∧ ((s (39 + 4 * k) = x ∧ s (39 + 4 * k + 1) = y) ∨ (s (39 + 4 * k) = y ∧ s (39 + 4 * k + 1) = x)) := by
  obtain ⟨-, k1, k2, -⟩ := z_ff_s _ _ _ e
  exact ⟨by omega, of_decide_eq_true k2⟩
theorem x_open (J : x_J b s) (r : x_rel s Y) {a c k : Nat} {o : Int} (ha : (a : Int) < s 1) (hc : (c : Int) < s 1) (hk : z_tk s a c = some k) (ho : z_bo o) : ∃ s', f_X4_openTrack (zV s) (zI k) (zI o) = some (zV s') ∧ x_J b s' ∧ x_rel s' (w2 (w2 Y (24 + a) c (zI o)) (24 + c) a (zI o)) ∧ (∀ k, k < 5 → s' k = s k) := by
  have h := J.1
  obtain ⟨⟨c0, c1, c2, c3, c4⟩, ⟨b1, b2, b3⟩, a1, a2, a3, a4, a5⟩ := id h
  obtain ⟨kl, kc⟩ := x_tk_cn hk
  have eu : ∀ j, j ≠ 39 + 4 * k + 3 → zu s (39 + 4 * k + 3) o j = s j := fun j hj => z_un hj
  obtain ⟨s', m1, m2, m3⟩ := z_Cme (s := zu s (39 + 4 * k + 3) o) (by rw [eu 1 (by omega)]; exact c1) (by rw [eu 2 (by omega)]; exact c2) (fun j hj => by
    rw [eu 2 (by omega)] at hj
    have q := a2 j hj
    unfold z_trk at q ⊢
    rw [eu 1 (by omega), eu _ (by omega), eu _ (by omega), eu _ (by omega)]
    exact q) (fun j hj => by
    by_cases q : j = k
    · rw [q, z_ue rfl]; exact ho
    · rw [eu _ (by omega)]; exact b2 j hj)
  have e : ∀ j, j < 251 → j ≠ 39 + 4 * k + 3 → s' j = s j := fun j h1 h2 => by rw [m2 j (by omega), eu j h2]
  have e3 : s' (39 + 4 * k + 3) = o := by rw [m2 _ (by omega), z_ue rfl]
  have tk : ∀ x y, z_tk s' x y = z_tk s x y := fun x y => z_tk_h (e 2 (by omega) (by omega)) (fun j hj => ⟨e _ (by omega) (by omega), e _ (by omega) (by omega)⟩) x y
  have iv : z_inv b s' := by
    refine ⟨?_, ⟨fun j hj => by rw [e _ (by omega) (by omega)]; exact b1 j hj, fun j hj => ?_, fun j hj => by rw [e _ (by omega) (by omega)]; exact b3 j hj⟩, fun j hj => ?_, fun j hj => ?_, fun t ht => ?_, fun j hj => ?_, m3⟩
    · unfold z_cnt4
      rw [e 0 (by omega) (by omega), e 1 (by omega) (by omega), e 2 (by omega) (by omega), e 3 (by omega) (by omega), e 4 (by omega) (by omega)]
      exact ⟨c0, c1, c2, c3, c4⟩
    · by_cases q : j = k
      · rw [q, e3]; exact ho
      · rw [e _ (by omega) (by omega)]; exact b2 j hj
    · rw [e 1 (by omega) (by omega)] at hj
      have := a1 j hj
      unfold z_stn at this ⊢
      rw [e 0 (by omega) (by omega), e _ (by omega) (by omega), e _ (by omega) (by omega)]
      exact this
    · rw [e 2 (by omega) (by omega)] at hj
      have := a2 j hj
      unfold z_trk at this ⊢
      rw [e 1 (by omega) (by omega), e _ (by omega) (by omega), e _ (by omega) (by omega), e _ (by omega) (by omega)]
      exact this
    · rw [e 3 (by omega) (by omega)] at ht
      exact z_trn_g (by rw [e 1 (by omega) (by omega)]; exact Int.le_refl _) (fun x y _ => tk x y) (fun j hj => e _ (by omega) (by omega)) (a3 t ht)
    · rw [e 4 (by omega) (by omega)] at hj
      have := a4 j hj
      unfold z_pcl at this ⊢
      rw [e 0 (by omega) (by omega), e (143 + 9 * j) (by omega) (by omega), e (143 + 9 * j + 1) (by omega) (by omega), e (143 + 9 * j + 2) (by omega) (by omega), e (143 + 9 * j + 3) (by omega) (by omega), e (143 + 9 * j + 4) (by omega) (by omega), e (143 + 9 * j + 5) (by omega) (by omega), e (143 + 9 * j + 7) (by omega) (by omega), e (143 + 9 * j + 8) (by omega) (by omega), e 1 (by omega) (by omega), e 3 (by omega) (by omega)]
      exact this
  obtain ⟨r0, r1, r2, r3, r4⟩ := r
  have f1 := e 1 (by omega) (by omega)
  have f3 := e 3 (by omega) (by omega)
  have f4 := e 4 (by omega) (by omega)
  refine ⟨s', ?_, ⟨iv, fun j hj => ?_, x_ba_c (e 5 (by omega) (by omega)) (e 6 (by omega) (by omega)) f4 (fun j hj => e _ (by unfold z_np at hj; omega) (by omega)) J.2.2⟩, ⟨?_, fun j hj => ?_, fun a' c' ha' hc' => ?_, fun t ht => ?_, fun j hj m hm => ?_⟩, fun j hj => e j (by omega) (by omega)⟩
  · unfold f_X4_openTrack
    unfold z_bo at ho
    simp (disch := omega) only [z_lit, z_n, z_add, z_sub, z_mul, z_neg, z_lt1, z_lt0, z_le1, z_le0, z_eq1, z_eq0, z_10, ↓reduceIte, z_v, z_upd, z_ue, z_un, z_ixn, z_ixo, z_ix0, z_ix1, z_ix2, z_ix3, z_ix4, z_ix5, z_ix6, Int.reduceToNat, z_inr, z_gd, ↓z_bnd, ↓z_jn, z_bdc, z_bd2, z_opn, z_ops, z_z01, z_Bt, z_Bf, m1]
  · rw [e 2 (by omega) (by omega)] at hj
    rw [tk, e _ (by omega) (by omega), e _ (by omega) (by omega)]
    exact J.2.1 j hj
  · unfold x_r0
    rw [z_w2u (by omega), z_w2u (by omega), f1, f3, f4, e 0 (by omega) (by omega)]
    exact r0
  · rw [f1] at hj
    rw [z_w2u (by omega), z_w2u (by omega), z_w2u (by omega), z_w2u (by omega), e _ (by omega) (by omega), e _ (by omega) (by omega)]
    exact r1 j hj
  · rw [f1] at ha' hc'
    obtain ⟨q1, q2⟩ := r2 a' c' ha' hc'
    refine ⟨?_, ?_⟩
    · rw [z_w2u (by omega), z_w2u (by omega), q1]
      refine congrArg zI ?_
      unfold x_tm
      rw [tk]
      cases g : z_tk s (a' : Int) (c' : Int) with
      | none => rfl
      | some m =>
        have := (x_tk_cn g).1
        exact (e _ (by omega) (by omega)).symm
    · by_cases p1 : a' = c ∧ c' = a
      · obtain ⟨p1, p2⟩ := p1
        subst p1 p2
        rw [z_w2e]
        refine congrArg zI ?_
        unfold x_op
        rw [tk, x_tks, hk]
        exact e3.symm
      · have n1 : w2 (w2 Y (24 + a) c (zI o)) (24 + c) a (zI o) (24 + a') c' = w2 Y (24 + a) c (zI o) (24 + a') c' := by
          by_cases d : a' = c
          · subst d
            rw [z_w2k (fun q => p1 ⟨rfl, q⟩)]
          · rw [z_w2u (by omega)]
        rw [n1]
        by_cases p2 : a' = a ∧ c' = c
        · obtain ⟨p2, p3⟩ := p2
          subst p2 p3
          rw [z_w2e]
          refine congrArg zI ?_
          unfold x_op
          rw [tk, hk]
          exact e3.symm
        · have n2 : w2 Y (24 + a) c (zI o) (24 + a') c' = Y (24 + a') c' := by
            by_cases d : a' = a
            · subst d
              rw [z_w2k (fun q => p2 ⟨rfl, q⟩)]
            · rw [z_w2u (by omega)]
          rw [n2, q2]
          refine congrArg zI ?_
          unfold x_op
          rw [tk]
          cases g : z_tk s (a' : Int) (c' : Int) with
          | none => rfl
          | some m =>
            obtain ⟨g1, g2⟩ := x_tk_cn g
            have : m ≠ k := fun q => by
              subst q
              omega
            exact (e _ (by omega) (by omega)).symm
  · rw [f3] at ht
    have q := r3 t ht
    have tl := (a3 t ht).2.1
    unfold x_rt at q ⊢
    simp (disch := omega) only [z_w2u]
    rw [e _ (by omega) (by omega), e _ (by omega) (by omega), e _ (by omega) (by omega), e _ (by omega) (by omega), e _ (by omega) (by omega), e _ (by omega) (by omega), e _ (by omega) (by omega), e _ (by omega) (by omega)]
    refine ⟨⟨q.1.1, q.1.2.1, fun j hj => ?_⟩, q.2⟩
    rw [e _ (by omega) (by omega)]
    exact q.1.2.2 j hj
  · rw [f4] at hj
    rw [z_w2u (by omega), z_w2u (by omega), e _ (by omega) (by omega)]
    exact r4 j hj m hm
theorem x_prow (x y p : Int) {j : Nat} (hj : j < 9) : prow (zI x) (zI y) (zI p) j = zI (if j = 0 then x else if j = 1 then y else if j = 2 then p else if j = 3 then x else if j = 4 then -1 else if j = 5 then -1 else if j = 8 then -1 else 0) := by
  rcases z_j9 hj with c | c | c | c | c | c | c | c | c <;> subst c <;> rfl
theorem x_addp (J : x_J b s) (r : x_rel s Y) {x y p : Int} (hx : 0 ≤ x ∧ x < s 1) (hy : 0 ≤ y ∧ y < s 1) (hp : 1 ≤ p ∧ p ≤ 9) (h4 : s 4 < 12) : ∃ s', f_X4_makeParcel (zV s) (zI x) (zI y) (zI p) = some (zV s') ∧ x_J b s' ∧ x_rel s' (f_X10_add Y (zI x) (zI y) (zI p)) ∧ s' 4 = s 4 + 1 ∧ (∀ k, k < 143 → k ≠ 4 → s' k = s k) := by
  have h := J.1
  obtain ⟨⟨c0, c1, c2, c3, c4⟩, ⟨b1, b2, b3⟩, a1, a2, a3, a4, a5⟩ := id h
  obtain ⟨n, hn⟩ : ∃ n : Nat, s 4 = n := ⟨(s 4).toNat, by omega⟩
  obtain ⟨s', hs'⟩ : ∃ s', s' = zu (zu (zu (zu (zu (zu (zu (zu (zu (zu s (143 + 9 * n) x) (143 + 9 * n + 1) y) (143 + 9 * n + 2) p) (143 + 9 * n + 3) x) (143 + 9 * n + 4) (-1)) (143 + 9 * n + 8) (-1)) (143 + 9 * n + 5) (-1)) (143 + 9 * n + 6) 0) (143 + 9 * n + 7) 0) 4 (s 4 + 1) := ⟨_, rfl⟩
  have e : ∀ k, ¬ (143 + 9 * n ≤ k ∧ k < 143 + 9 * n + 9) → k ≠ 4 → s' k = s k := fun k h1 h2 => by
    rw [hs']
    simp (disch := omega) only [z_un]
  have s4 : s' 4 = s 4 + 1 := by rw [hs', z_ue rfl]
  have d0 : s' (143 + 9 * n) = x := by rw [hs']; simp (disch := omega) only [z_un, z_ue]
  have d1 : s' (143 + 9 * n + 1) = y := by rw [hs']; simp (disch := omega) only [z_un, z_ue]
  have d2 : s' (143 + 9 * n + 2) = p := by rw [hs']; simp (disch := omega) only [z_un, z_ue]
  have d3 : s' (143 + 9 * n + 3) = x := by rw [hs']; simp (disch := omega) only [z_un, z_ue]
  have d4 : s' (143 + 9 * n + 4) = -1 := by rw [hs']; simp (disch := omega) only [z_un, z_ue]
  have d5 : s' (143 + 9 * n + 5) = -1 := by rw [hs']; simp (disch := omega) only [z_un, z_ue]
  have d6 : s' (143 + 9 * n + 6) = 0 := by rw [hs']; simp (disch := omega) only [z_un, z_ue]
  have d7 : s' (143 + 9 * n + 7) = 0 := by rw [hs']; simp (disch := omega) only [z_un, z_ue]
  have d8 : s' (143 + 9 * n + 8) = -1 := by rw [hs']; simp (disch := omega) only [z_un, z_ue]
  have lo : ∀ k, k < 143 → k ≠ 4 → s' k = s k := fun k hk h4 => e k (by omega) h4
  have l1 := lo 1 (by omega) (by omega)
  have l3 := lo 3 (by omega) (by omega)
  have iv : z_inv b s' := by
    refine ⟨?_, ⟨fun j hj => by rw [lo _ (by omega) (by omega)]; exact b1 j hj, fun j hj => by rw [lo _ (by omega) (by omega)]; exact b2 j hj, fun j hj => by rw [lo _ (by omega) (by omega)]; exact b3 j hj⟩, fun j hj => ?_, fun j hj => ?_, fun t ht => ?_, fun j hj => ?_, z_dis_c (lo 2 (by omega) (by omega)) (by omega) (fun k h1 h2 => lo k (by omega) (by omega)) (fun k hk => e k (by omega) (by omega)) a5⟩
    · unfold z_cnt4
      rw [lo 0 (by omega) (by omega), l1, lo 2 (by omega) (by omega), l3, s4]
      exact ⟨c0, c1, c2, c3, by omega⟩
    · rw [l1] at hj
      have := a1 j hj
      unfold z_stn at this ⊢
      rw [lo 0 (by omega) (by omega), lo _ (by omega) (by omega), lo _ (by omega) (by omega)]
      exact this
    · rw [lo 2 (by omega) (by omega)] at hj
      have := a2 j hj
      unfold z_trk at this ⊢
      rw [l1, lo _ (by omega) (by omega), lo _ (by omega) (by omega), lo _ (by omega) (by omega)]
      exact this
    · rw [l3] at ht
      exact z_trn_c l1 (lo 2 (by omega) (by omega)) (by omega) (fun k h1 h2 => lo k (by omega) (by omega)) (fun k hk => lo _ (by omega) (by omega)) (a3 t ht)
    · rw [s4] at hj
      by_cases q : j = n
      · rw [q]
        unfold z_pcl
        rw [d0, d1, d2, d3, d4, d5, d7, d8, lo 0 (by omega) (by omega), l1, l3]
        exact ⟨hx, hy, hp, by omega, by omega, by omega, by omega, by omega, Or.inl ⟨by omega, rfl, rfl, rfl⟩⟩
      · have w1 := a4 j (by omega)
        unfold z_pcl at w1 ⊢
        rw [lo 0 (by omega) (by omega), l1, l3, e (143 + 9 * j) (by omega) (by omega), e (143 + 9 * j + 1) (by omega) (by omega), e (143 + 9 * j + 2) (by omega) (by omega), e (143 + 9 * j + 3) (by omega) (by omega), e (143 + 9 * j + 4) (by omega) (by omega), e (143 + 9 * j + 5) (by omega) (by omega), e (143 + 9 * j + 7) (by omega) (by omega), e (143 + 9 * j + 8) (by omega) (by omega)]
        exact w1
  have ba : x_ba s' := by
    have q := J.2.2
    have np : z_np s = n := by unfold z_np; omega
    have np' : z_np s' = n + 1 := by unfold z_np; omega
    unfold x_ba at q ⊢
    rw [lo 5 (by omega) (by omega), lo 6 (by omega) (by omega), q, np, np']
    have : ∀ (p : Nat → Bool) (d i : Nat), z_ct p i (d + 1) = z_ct p i d + (if p (i + d) then 1 else 0) := by
      intro p d
      induction d with
      | zero =>
        intro i
        show (if p i then 1 else 0) + 0 = 0 + (if p (i + 0) then 1 else 0)
        rw [Int.add_zero, Int.zero_add]
        rfl
      | succ d ih =>
        intro i
        rw [show z_ct p i (d + 1 + 1) = (if p i then 1 else 0) + z_ct p (i + 1) (d + 1) from rfl, ih (i + 1), show z_ct p i (d + 1) = (if p i then 1 else 0) + z_ct p (i + 1) d from rfl, show i + 1 + d = i + (d + 1) by omega, Int.add_assoc]
    rw [this, Nat.zero_add]
    have l : x_cq s' n = false := by
      unfold x_cq
      rw [d4]
      rfl
    rw [l, if_neg (by decide), Int.add_zero]
    refine z_ct_c _ _ fun j _ hj => ?_
    unfold x_cq
    rw [e _ (by omega) (by omega)]
  obtain ⟨⟨r00, r01, r02, r03⟩, r1, r2, r3, r4⟩ := r
  have ixn : ix (Y 60 15) = n := by rw [r02, hn, z_ixn (by omega)]
  have yu : ∀ u, u ≠ 60 → u ≠ 40 + n → f_X10_add Y (zI x) (zI y) (zI p) u = Y u := fun u u1 u2 => by
    unfold f_X10_add
    rw [ixn, z_w2u u1, z_sUu u2]
  have yk : ∀ k, k ≠ 15 → f_X10_add Y (zI x) (zI y) (zI p) 60 k = Y 60 k := fun k hk => by
    unfold f_X10_add
    rw [ixn, z_w2k hk, z_sUu (by omega)]
  have y15 : f_X10_add Y (zI x) (zI y) (zI p) 60 15 = zI (s 4 + 1) := by
    unfold f_X10_add
    rw [z_w2e, r02, z_l1, z_add]
  have yn : f_X10_add Y (zI x) (zI y) (zI p) (40 + n) = prow (zI x) (zI y) (zI p) := by
    unfold f_X10_add
    rw [ixn, z_w2u (by omega), z_sUe]
  refine ⟨s', ?_, ⟨iv, x_un_c (lo 2 (by omega) (by omega)) (by omega) (fun k _ _ => lo k (by omega) (by omega)) J.2.1, ba⟩, ⟨⟨?_, ?_, ?_, ?_⟩, fun j hj => ?_, fun a c ha hc => ?_, fun t ht => ?_, fun j hj m hm => ?_⟩, s4, lo⟩
  · unfold f_X4_makeParcel
    rw [hs']
    simp (disch := omega) only [z_lit, z_n, z_add, z_sub, z_mul, z_neg, z_lt1, z_lt0, z_le1, z_le0, z_eq1, z_eq0, z_10, ↓reduceIte, z_v, z_upd, z_ue, z_un, z_ixn, z_ixo, z_ix0, z_ix1, z_ix2, z_ix3, z_ix4, z_ix5, z_ix6, Int.reduceToNat, z_inr, z_gd, ↓z_bnd, ↓z_jn, z_bdc, z_bd2, z_opn, z_ops, z_z01, z_Bt, z_Bf, hn]
  · rw [yk 0 (by omega), l1]; exact r00
  · rw [yk 1 (by omega), l3]; exact r01
  · rw [y15, s4]
  · rw [yk 16 (by omega), lo 0 (by omega) (by omega)]; exact r03
  · rw [l1] at hj
    rw [yu 4 (by omega) (by omega), yu 5 (by omega) (by omega), lo _ (by omega) (by omega), lo _ (by omega) (by omega)]
    exact r1 j hj
  · rw [l1] at ha hc
    obtain ⟨q1, q2⟩ := x_tm_c h (lo 2 (by omega) (by omega)) (fun k _ _ => lo k (by omega) (by omega)) a c
    rw [yu _ (by omega) (by omega), yu _ (by omega) (by omega), q1, q2]
    exact r2 a c ha hc
  · rw [l3] at ht
    have q := r3 t ht
    have tl := (a3 t ht).2.1
    unfold x_rt at q ⊢
    rw [yu 61 (by omega) (by omega), yu 7 (by omega) (by omega), yu 8 (by omega) (by omega), yu 9 (by omega) (by omega), yu 10 (by omega) (by omega), yu 11 (by omega) (by omega), yu 12 (by omega) (by omega), yu 13 (by omega) (by omega), yu (32 + t) (by omega) (by omega), lo _ (by omega) (by omega), lo _ (by omega) (by omega), lo _ (by omega) (by omega), lo _ (by omega) (by omega), lo _ (by omega) (by omega), lo _ (by omega) (by omega), lo _ (by omega) (by omega), lo _ (by omega) (by omega)]
    refine ⟨⟨q.1.1, q.1.2.1, fun j hj => ?_⟩, q.2⟩
    rw [lo _ (by omega) (by omega)]
    exact q.1.2.2 j hj
  · rw [s4] at hj
    by_cases q : j = n
    · subst q
      rw [yn, x_prow x y p hm]
      refine congrArg zI ?_
      rcases z_j9 hm with c | c | c | c | c | c | c | c | c <;> subst c
      · exact d0.symm
      · exact d1.symm
      · exact d2.symm
      · exact d3.symm
      · exact d4.symm
      · exact d5.symm
      · exact d6.symm
      · exact d7.symm
      · exact d8.symm
    · rw [yu _ (by omega) (by omega), e _ (by omega) (by omega)]
      exact r4 j (by omega) m hm
end Opn
