/-! further queries -/
section Qry
variable {W W' : Nat → Nat → Int32} {b : Int} {s g : Nat → Int}
theorem z_Qnss (h : z_Q b W s g) {a c : Int} (ha : zR a) (hc : zR c) : f_X10_noStations W (zI a) (zI c) = if (0 ≤ a ∧ a < s 1) ∧ (0 ≤ c ∧ c < s 1) then some (zI 0, z_th W 0) else some (zI 1, z_th W 1) := by
  unfold f_X10_noStations
  rw [z_Qns h ha]
  by_cases v : 0 ≤ a ∧ a < s 1
  · rw [z_o0 (by omega), z_bd2, z_l0, if_pos rfl, z_Qns (z_Q_th h) hc, z_thth]
    by_cases w : 0 ≤ c ∧ c < s 1
    · rw [z_o0 (by omega), if_pos ⟨v, w⟩, z_bd2, if_pos rfl]
    · rw [z_o1 (by omega), if_neg (fun q => w q.2)]
      simp (disch := omega) only [z_lit, z_n, z_add, z_sub, z_mul, z_neg, z_lt1, z_lt0, z_le1, z_le0, z_eq1, z_eq0, z_10, ↓reduceIte, z_v, z_upd, z_ue, z_un, z_ixn, z_ixo, z_ix0, z_ix1, z_ix2, z_ix3, z_ix4, z_ix5, z_ix6, Int.reduceToNat, z_inr, z_gd, ↓z_bnd, ↓z_jn, z_bdc, z_bd2, z_opn, z_ops, z_z01, z_Bt, z_Bf]
  · rw [z_o1 (by omega), if_neg (fun q => v q.1)]
    simp (disch := omega) only [z_lit, z_n, z_add, z_sub, z_mul, z_neg, z_lt1, z_lt0, z_le1, z_le0, z_eq1, z_eq0, z_10, ↓reduceIte, z_v, z_upd, z_ue, z_un, z_ixn, z_ixo, z_ix0, z_ix1, z_ix2, z_ix3, z_ix4, z_ix5, z_ix6, Int.reduceToNat, z_inr, z_gd, ↓z_bnd, ↓z_jn, z_bdc, z_bd2, z_opn, z_ops, z_z01, z_Bt, z_Bf]
/-- two kinds of refusal -/
theorem z_get2 {X : Option (String ⊕ Int32)} {M : (Nat → Nat → Int32) → Option (Int32 × (Nat → Nat → Int32))} {v : Int} {E2 : String} (hE : E2 ≠ "java/lang/IndexOutOfBoundsException") (V V2 : Prop) (h : z_Q b W s g)
    (hc : (V → V2 → X = some (.inr (zI v))) ∧ (V → ¬ V2 → X = some (.inl E2)) ∧ (¬ V → X = some (.inl "java/lang/IndexOutOfBoundsException")))
    (hr : ∀ W1, z_Q b W1 s g → (V → V2 → M W1 = some (zI v, z_th W1 0)) ∧ (V → ¬ V2 → M W1 = some (zI 0, z_th W1 2)) ∧ (¬ V → M W1 = some (zI 0, z_th W1 1))) :
    z_AG (bdt X (fun e => if e = "java/lang/IndexOutOfBoundsException" then some ((1 : Int32), W) else if e = E2 then some ((2 : Int32), W) else none) (fun v1 => bnd (w2 W 31 0 v1) (fun W2 => some ((0 : Int32), W2)))) M (z_EQ W) := by
  by_cases hV : V
  · by_cases hV2 : V2
    · refine ⟨0, zI v, w2 W 31 0 (zI v), z_th (w2 W 31 0 (zI v)) 0, ?_, (hr _ (z_Q_31 h)).1 hV hV2, z_the, by omega, by omega, fun _ => ?_, z_EQ_t z_EQ_31 z_EQ_th⟩
      · rw [hc.1 hV hV2, z_btr, z_bnd, z_l0]
      · rw [z_thu (by omega), z_w2e]
    · refine ⟨2, zI 0, W, z_th W 2, ?_, (hr _ h).2.1 hV hV2, z_the, by omega, by omega, fun q => absurd q (by omega), z_EQ_th⟩
      rw [hc.2.1 hV hV2, z_btl, if_neg hE, if_pos rfl]
      rfl
  · refine ⟨1, zI 0, W, z_th W 1, ?_, (hr _ h).2.2 hV, z_the, by omega, by omega, fun q => absurd q (by omega), z_EQ_th⟩
    rw [hc.2.2 hV, z_btl, if_pos rfl, z_l1]
theorem z_m_isRequestStop (h : z_Q b W s g) {a : Int} (ha : zR a) : ∃ W', (bd2 (f_L_isRequestStop W (zI a)) fun v2 W1 => bd2 (f_X10_isRequestStop W1 (zI a)) fun v4 W3 => bdc (f_X10_thrown W3) fun v5 => if v5 = v2 then if v2 = 0 then if v4 = 0 then if lg_cmp (W3 31 0).toInt64 ((0 : Int32)).toInt64 = 0 then some W3 else none else if lg_cmp (W3 31 0).toInt64 ((1 : Int32)).toInt64 = 0 then some W3 else none else some W3 else none) = some W' ∧ z_EQ W W' := by
  obtain ⟨h0, hg, pi⟩ := id h
  obtain ⟨c0, c1, c2, c3, c4⟩ := pi.1.1
  unfold f_L_isRequestStop
  refine z_getb (M := fun W1 => f_X10_isRequestStop W1 (zI a)) (v := s (7 + 4 * a.toNat + 1)) (0 ≤ a ∧ a < s 1) (fun v => pi.1.2.1.1 a.toNat (by omega)) h ⟨fun v => ?_, fun v => ?_⟩ (fun W1 h1 => ⟨fun v => ?_, fun v => ?_⟩)
  · obtain ⟨n, rfl⟩ : ∃ n : Nat, a = n := ⟨a.toNat, by omega⟩
    have hb := pi.1.2.1.1 n (by omega)
    unfold z_bo at hb
    unfold f_X9_isRequestStop
    rw [z_Cst h0 c1 ha, if_pos v, z_btr, h0]
    simp (disch := omega) only [z_lit, z_n, z_add, z_sub, z_mul, z_neg, z_lt1, z_lt0, z_le1, z_le0, z_eq1, z_eq0, z_10, ↓reduceIte, z_v, z_upd, z_ue, z_un, z_ixn, z_ixo, z_ix0, z_ix1, z_ix2, z_ix3, z_ix4, z_ix5, z_ix6, Int.reduceToNat, z_inr, z_gd, ↓z_bnd, ↓z_jn, z_bdc, z_bd2, z_opn, z_ops, z_z01, z_Bt, z_Bf, Int.toNat_natCast]
  · unfold f_X9_isRequestStop
    rw [z_Cst h0 c1 ha, if_neg v, z_btl]
  · obtain ⟨n, rfl⟩ : ∃ n : Nat, a = n := ⟨a.toNat, by omega⟩
    have q := (pi.2.1.2.1 n (by omega)).2.1
    have hb := pi.1.2.1.1 n (by omega)
    have q2 := h1.2.1 (7 + 4 * n + 1) (by omega)
    rw [q] at q2
    unfold f_X10_isRequestStop
    rw [z_l0, z_Qns h1 ha, z_o0 (by omega)]
    rcases hb with e | e <;> simp (disch := omega) only [z_lit, z_n, z_add, z_sub, z_mul, z_neg, z_lt1, z_lt0, z_le1, z_le0, z_eq1, z_eq0, z_10, ↓reduceIte, z_v, z_upd, z_ue, z_un, z_ixn, z_ixo, z_ix0, z_ix1, z_ix2, z_ix3, z_ix4, z_ix5, z_ix6, Int.reduceToNat, z_inr, z_gd, ↓z_bnd, ↓z_jn, z_bdc, z_bd2, z_opn, z_ops, z_z01, z_Bt, z_Bf, z_ofS, z_thu, Nat.add_zero, q2, e, Int.toNat_natCast]
  · unfold f_X10_isRequestStop
    rw [z_l0, z_Qns h1 ha, z_o1 (by omega)]
    simp (disch := omega) only [z_lit, z_n, z_add, z_sub, z_mul, z_neg, z_lt1, z_lt0, z_le1, z_le0, z_eq1, z_eq0, z_10, ↓reduceIte, z_v, z_upd, z_ue, z_un, z_ixn, z_ixo, z_ix0, z_ix1, z_ix2, z_ix3, z_ix4, z_ix5, z_ix6, Int.reduceToNat, z_inr, z_gd, ↓z_bnd, ↓z_jn, z_bdc, z_bd2, z_opn, z_ops, z_z01, z_Bt, z_Bf]
theorem z_m_isForward (h : z_Q b W s g) {a : Int} (ha : zR a) : ∃ W', (bd2 (f_L_isForward W (zI a)) fun v2 W1 => bd2 (f_X10_isForward W1 (zI a)) fun v4 W3 => bdc (f_X10_thrown W3) fun v5 => if v5 = v2 then if v2 = 0 then if v4 = 0 then if lg_cmp (W3 31 0).toInt64 ((0 : Int32)).toInt64 = 0 then some W3 else none else if lg_cmp (W3 31 0).toInt64 ((1 : Int32)).toInt64 = 0 then some W3 else none else some W3 else none) = some W' ∧ z_EQ W W' := by
  obtain ⟨h0, hg, pi⟩ := id h
  obtain ⟨c0, c1, c2, c3, c4⟩ := pi.1.1
  unfold f_L_isForward
  refine z_getb (M := fun W1 => f_X10_isForward W1 (zI a)) (v := s (87 + 14 * a.toNat + 9)) (0 ≤ a ∧ a < s 3) (fun v => pi.1.2.1.2.2 a.toNat (by omega)) h ⟨fun v => ?_, fun v => ?_⟩ (fun W1 h1 => ⟨fun v => ?_, fun v => ?_⟩)
  · obtain ⟨n, rfl⟩ : ∃ n : Nat, a = n := ⟨a.toNat, by omega⟩
    have hb := pi.1.2.1.2.2 n (by omega)
    unfold z_bo at hb
    unfold f_X9_isForward
    rw [z_Ctn h0 c3 ha, if_pos v, z_btr, h0]
    simp (disch := omega) only [z_lit, z_n, z_add, z_sub, z_mul, z_neg, z_lt1, z_lt0, z_le1, z_le0, z_eq1, z_eq0, z_10, ↓reduceIte, z_v, z_upd, z_ue, z_un, z_ixn, z_ixo, z_ix0, z_ix1, z_ix2, z_ix3, z_ix4, z_ix5, z_ix6, Int.reduceToNat, z_inr, z_gd, ↓z_bnd, ↓z_jn, z_bdc, z_bd2, z_opn, z_ops, z_z01, z_Bt, z_Bf, Int.toNat_natCast]
  · unfold f_X9_isForward
    rw [z_Ctn h0 c3 ha, if_neg v, z_btl]
  · obtain ⟨n, rfl⟩ : ∃ n : Nat, a = n := ⟨a.toNat, by omega⟩
    have q := (pi.2.1.2.2.2.1 n (by omega)).2.2.2.2.1
    have hb := pi.1.2.1.2.2 n (by omega)
    have q2 := h1.2.1 (87 + 14 * n + 9) (by omega)
    rw [q] at q2
    unfold f_X10_isForward
    rw [z_l0, z_Qnt h1 ha, z_o0 (by omega)]
    rcases hb with e | e <;> simp (disch := omega) only [z_lit, z_n, z_add, z_sub, z_mul, z_neg, z_lt1, z_lt0, z_le1, z_le0, z_eq1, z_eq0, z_10, ↓reduceIte, z_v, z_upd, z_ue, z_un, z_ixn, z_ixo, z_ix0, z_ix1, z_ix2, z_ix3, z_ix4, z_ix5, z_ix6, Int.reduceToNat, z_inr, z_gd, ↓z_bnd, ↓z_jn, z_bdc, z_bd2, z_opn, z_ops, z_z01, z_Bt, z_Bf, z_ofT, z_thu, Nat.add_zero, q2, e, Int.toNat_natCast]
  · unfold f_X10_isForward
    rw [z_l0, z_Qnt h1 ha, z_o1 (by omega)]
    simp (disch := omega) only [z_lit, z_n, z_add, z_sub, z_mul, z_neg, z_lt1, z_lt0, z_le1, z_le0, z_eq1, z_eq0, z_10, ↓reduceIte, z_v, z_upd, z_ue, z_un, z_ixn, z_ixo, z_ix0, z_ix1, z_ix2, z_ix3, z_ix4, z_ix5, z_ix6, Int.reduceToNat, z_inr, z_gd, ↓z_bnd, ↓z_jn, z_bdc, z_bd2, z_opn, z_ops, z_z01, z_Bt, z_Bf]
theorem z_m_isHeld (hB : b ≤ 1000000000) (h : z_Q b W s g) {a : Int} (ha : zR a) : ∃ W', (bd2 (f_L_isHeld W (zI a)) fun v2 W1 => bd2 (f_X10_isHeld W1 (zI a)) fun v4 W3 => bdc (f_X10_thrown W3) fun v5 => if v5 = v2 then if v2 = 0 then if v4 = 0 then if lg_cmp (W3 31 0).toInt64 ((0 : Int32)).toInt64 = 0 then some W3 else none else if lg_cmp (W3 31 0).toInt64 ((1 : Int32)).toInt64 = 0 then some W3 else none else some W3 else none) = some W' ∧ z_EQ W W' := by
  obtain ⟨h0, hg, pi⟩ := id h
  obtain ⟨c0, c1, c2, c3, c4⟩ := pi.1.1
  unfold f_L_isHeld
  refine z_getb (M := fun W1 => f_X10_isHeld W1 (zI a)) (v := z_B (decide (s (143 + 9 * a.toNat + 3) ≠ -1 ∧ z_he s a.toNat = true))) (0 ≤ a ∧ a < s 4) (fun v => by cases decide (s (143 + 9 * a.toNat + 3) ≠ -1 ∧ z_he s a.toNat = true) <;> simp [z_B]) h ⟨fun v => ?_, fun v => ?_⟩ (fun W1 h1 => ⟨fun v => ?_, fun v => ?_⟩)
  · obtain ⟨n, rfl⟩ : ∃ n : Nat, a = n := ⟨a.toNat, by omega⟩
    unfold f_X9_isHeld
    rw [z_Cpl h0 c4 ha, if_pos v, z_btr, h0]
    simp (disch := omega) only [z_lit, z_n, z_add, z_sub, z_mul, z_neg, z_lt1, z_lt0, z_le1, z_le0, z_eq1, z_eq0, z_10, ↓reduceIte, z_v, z_upd, z_ue, z_un, z_ixn, z_ixo, z_ix0, z_ix1, z_ix2, z_ix3, z_ix4, z_ix5, z_ix6, Int.reduceToNat, z_inr, z_gd, ↓z_bnd, ↓z_jn, z_bdc, z_bd2, z_opn, z_ops, z_z01, z_Bt, z_Bf, Int.toNat_natCast, z_Che pi.1 hB (show (n : Int) < s 4 by omega)]
    cases decide (s (143 + 9 * n + 3) ≠ -1 ∧ z_he s n = true) <;> simp (disch := omega) only [z_lit, z_n, z_add, z_sub, z_mul, z_neg, z_lt1, z_lt0, z_le1, z_le0, z_eq1, z_eq0, z_10, ↓reduceIte, z_v, z_upd, z_ue, z_un, z_ixn, z_ixo, z_ix0, z_ix1, z_ix2, z_ix3, z_ix4, z_ix5, z_ix6, Int.reduceToNat, z_inr, z_gd, ↓z_bnd, ↓z_jn, z_bdc, z_bd2, z_opn, z_ops, z_z01, z_Bt, z_Bf]
  · unfold f_X9_isHeld
    rw [z_Cpl h0 c4 ha, if_neg v, z_btl]
  · obtain ⟨n, rfl⟩ : ∃ n : Nat, a = n := ⟨a.toNat, by omega⟩
    have q := pi.2.1.2.2.2.2 n (by omega) 3 (by omega)
    have pb := (pi.1.2.2.2.2.2.1 n (by omega)).2.2.2.1
    have q2 := h1.2.1 (143 + 9 * n + 3) (by omega)
    rw [q] at q2
    obtain ⟨g', e1, e2, e3⟩ := z_Q_pk (z_Q_th (c := 0) h1)
    rw [z_thu (by omega), z_thu (by omega)] at e1
    unfold f_X10_isHeld
    rw [z_l0, z_Qnp h1 ha, z_o0 (by omega)]
    by_cases c : s (143 + 9 * n + 3) = -1
    · rw [decide_eq_false (fun q => q.1 (by rw [Int.toNat_natCast]; exact c))]
      simp (disch := omega) only [z_lit, z_n, z_add, z_sub, z_mul, z_neg, z_lt1, z_lt0, z_le1, z_le0, z_eq1, z_eq0, z_10, ↓reduceIte, z_v, z_upd, z_ue, z_un, z_ixn, z_ixo, z_ix0, z_ix1, z_ix2, z_ix3, z_ix4, z_ix5, z_ix6, Int.reduceToNat, z_inr, z_gd, ↓z_bnd, ↓z_jn, z_bdc, z_bd2, z_opn, z_ops, z_z01, z_Bt, z_Bf, z_ofP, z_thu, q2, c]
    · simp (disch := omega) only [z_lit, z_n, z_add, z_sub, z_mul, z_neg, z_lt1, z_lt0, z_le1, z_le0, z_eq1, z_eq0, z_10, ↓reduceIte, z_v, z_upd, z_ue, z_un, z_ixn, z_ixo, z_ix0, z_ix1, z_ix2, z_ix3, z_ix4, z_ix5, z_ix6, Int.reduceToNat, z_inr, z_gd, ↓z_bnd, ↓z_jn, z_bdc, z_bd2, z_opn, z_ops, z_z01, z_Bt, z_Bf, z_ofP, z_thu, q2, e1, z_Ghe pi.1 hB e3 (show (n : Int) < s 4 by omega), Int.toNat_natCast]
      by_cases e : z_he s n = true
      · rw [decide_eq_true (p := s (143 + 9 * n + 3) ≠ -1 ∧ z_he s n = true) ⟨c, e⟩, e]
        simp (disch := omega) only [z_lit, z_n, z_add, z_sub, z_mul, z_neg, z_lt1, z_lt0, z_le1, z_le0, z_eq1, z_eq0, z_10, ↓reduceIte, z_v, z_upd, z_ue, z_un, z_ixn, z_ixo, z_ix0, z_ix1, z_ix2, z_ix3, z_ix4, z_ix5, z_ix6, Int.reduceToNat, z_inr, z_gd, ↓z_bnd, ↓z_jn, z_bdc, z_bd2, z_opn, z_ops, z_z01, z_Bt, z_Bf]
      · rw [decide_eq_false (p := s (143 + 9 * n + 3) ≠ -1 ∧ z_he s n = true) (fun q => e q.2), Bool.eq_false_iff.mpr e]
        simp (disch := omega) only [z_lit, z_n, z_add, z_sub, z_mul, z_neg, z_lt1, z_lt0, z_le1, z_le0, z_eq1, z_eq0, z_10, ↓reduceIte, z_v, z_upd, z_ue, z_un, z_ixn, z_ixo, z_ix0, z_ix1, z_ix2, z_ix3, z_ix4, z_ix5, z_ix6, Int.reduceToNat, z_inr, z_gd, ↓z_bnd, ↓z_jn, z_bdc, z_bd2, z_opn, z_ops, z_z01, z_Bt, z_Bf]
  · unfold f_X10_isHeld
    rw [z_l0, z_Qnp h1 ha, z_o1 (by omega)]
    simp (disch := omega) only [z_lit, z_n, z_add, z_sub, z_mul, z_neg, z_lt1, z_lt0, z_le1, z_le0, z_eq1, z_eq0, z_10, ↓reduceIte, z_v, z_upd, z_ue, z_un, z_ixn, z_ixo, z_ix0, z_ix1, z_ix2, z_ix3, z_ix4, z_ix5, z_ix6, Int.reduceToNat, z_inr, z_gd, ↓z_bnd, ↓z_jn, z_bdc, z_bd2, z_opn, z_ops, z_z01, z_Bt, z_Bf]
theorem z_m_waitingCount (h : z_Q b W s g) {a : Int} (ha : zR a) : z_AG (f_L_waitingCount W (zI a)) (fun W1 => f_X10_waitingCount W1 (zI a)) (z_EQ W) := by
  obtain ⟨h0, hg, pi⟩ := id h
  obtain ⟨c0, c1, c2, c3, c4⟩ := pi.1.1
  unfold f_L_waitingCount
  refine z_get (v := z_ct (z_wt s a) 0 (s 4).toNat) (0 ≤ a ∧ a < s 1) h ⟨fun v => ?_, fun v => ?_⟩ (fun W1 h1 => ⟨fun v => ?_, fun v => ?_⟩)
  · unfold f_X9_waitingCount
    rw [z_Cst h0 c1 ha, if_pos v, z_btr, h0, z_Cwa pi.1 ha, z_bdc]
  · unfold f_X9_waitingCount
    rw [z_Cst h0 c1 ha, if_neg v, z_btl]
  · obtain ⟨g', e1, e2, e3⟩ := z_Q_pk (z_Q_th (c := 0) h1)
    unfold f_X10_waitingCount
    rw [z_l0, z_Qns h1 ha, z_o0 (by omega), z_bd2, if_pos rfl, e1, z_Gwa pi.1 e3 ha, z_bdc]
  · unfold f_X10_waitingCount
    rw [z_l0, z_Qns h1 ha, z_o1 (by omega)]
    simp (disch := omega) only [z_lit, z_n, z_add, z_sub, z_mul, z_neg, z_lt1, z_lt0, z_le1, z_le0, z_eq1, z_eq0, z_10, ↓reduceIte, z_v, z_upd, z_ue, z_un, z_ixn, z_ixo, z_ix0, z_ix1, z_ix2, z_ix3, z_ix4, z_ix5, z_ix6, Int.reduceToNat, z_inr, z_gd, ↓z_bnd, ↓z_jn, z_bdc, z_bd2, z_opn, z_ops, z_z01, z_Bt, z_Bf]
theorem z_m_carriedCount (h : z_Q b W s g) {a : Int} (ha : zR a) : z_AG (f_L_carriedCount W (zI a)) (fun W1 => f_X10_carriedCount W1 (zI a)) (z_EQ W) := by
  obtain ⟨h0, hg, pi⟩ := id h
  obtain ⟨c0, c1, c2, c3, c4⟩ := pi.1.1
  unfold f_L_carriedCount
  refine z_get (v := z_ct (z_ca s a) 0 (s 4).toNat) (0 ≤ a ∧ a < s 3) h ⟨fun v => ?_, fun v => ?_⟩ (fun W1 h1 => ⟨fun v => ?_, fun v => ?_⟩)
  · unfold f_X9_carriedCount
    rw [z_Ctn h0 c3 ha, if_pos v, z_btr, h0, z_Cca pi.1 ha, z_bdc]
  · unfold f_X9_carriedCount
    rw [z_Ctn h0 c3 ha, if_neg v, z_btl]
  · obtain ⟨g', e1, e2, e3⟩ := z_Q_pk (z_Q_th (c := 0) h1)
    unfold f_X10_carriedCount
    rw [z_l0, z_Qnt h1 ha, z_o0 (by omega), z_bd2, if_pos rfl, e1, z_Gca pi.1 e3 ha, z_bdc]
  · unfold f_X10_carriedCount
    rw [z_l0, z_Qnt h1 ha, z_o1 (by omega)]
    simp (disch := omega) only [z_lit, z_n, z_add, z_sub, z_mul, z_neg, z_lt1, z_lt0, z_le1, z_le0, z_eq1, z_eq0, z_10, ↓reduceIte, z_v, z_upd, z_ue, z_un, z_ixn, z_ixo, z_ix0, z_ix1, z_ix2, z_ix3, z_ix4, z_ix5, z_ix6, Int.reduceToNat, z_inr, z_gd, ↓z_bnd, ↓z_jn, z_bdc, z_bd2, z_opn, z_ops, z_z01, z_Bt, z_Bf]
theorem z_m_nextStation (h : z_Q b W s g) {a : Int} (ha : zR a) : z_AG (f_L_nextStation W (zI a)) (fun W1 => f_X10_nextStation W1 (zI a)) (z_EQ W) := by
  obtain ⟨h0, hg, pi⟩ := id h
  obtain ⟨c0, c1, c2, c3, c4⟩ := pi.1.1
  unfold f_L_nextStation
  refine z_get (v := z_nx s a.toNat) (0 ≤ a ∧ a < s 3) h ⟨fun v => ?_, fun v => ?_⟩ (fun W1 h1 => ⟨fun v => ?_, fun v => ?_⟩)
  · obtain ⟨n, rfl⟩ : ∃ n : Nat, a = n := ⟨a.toNat, by omega⟩
    unfold f_X9_nextStation
    rw [z_Ctn h0 c3 ha, if_pos v, z_btr, h0]
    simp (disch := omega) only [z_lit, z_n, z_add, z_sub, z_mul, z_neg, z_lt1, z_lt0, z_le1, z_le0, z_eq1, z_eq0, z_10, ↓reduceIte, z_v, z_upd, z_ue, z_un, z_ixn, z_ixo, z_ix0, z_ix1, z_ix2, z_ix3, z_ix4, z_ix5, z_ix6, Int.reduceToNat, z_inr, z_gd, ↓z_bnd, ↓z_jn, z_bdc, z_bd2, z_opn, z_ops, z_z01, z_Bt, z_Bf, z_Cnx pi.1 (show (n : Int) < s 3 by omega), Int.toNat_natCast]
  · unfold f_X9_nextStation
    rw [z_Ctn h0 c3 ha, if_neg v, z_btl]
  · obtain ⟨n, rfl⟩ : ∃ n : Nat, a = n := ⟨a.toNat, by omega⟩
    obtain ⟨g', e1, e2, e3⟩ := z_Q_pk (z_Q_th (c := 0) h1)
    unfold f_X10_nextStation
    rw [z_l0, z_Qnt h1 ha, z_o0 (by omega), z_bd2, if_pos rfl, e1, z_Gnx pi.1 e3 (show (n : Int) < s 3 by omega), z_bdc, Int.toNat_natCast]
  · unfold f_X10_nextStation
    rw [z_l0, z_Qnt h1 ha, z_o1 (by omega)]
    simp (disch := omega) only [z_lit, z_n, z_add, z_sub, z_mul, z_neg, z_lt1, z_lt0, z_le1, z_le0, z_eq1, z_eq0, z_10, ↓reduceIte, z_v, z_upd, z_ue, z_un, z_ixn, z_ixo, z_ix0, z_ix1, z_ix2, z_ix3, z_ix4, z_ix5, z_ix6, Int.reduceToNat, z_inr, z_gd, ↓z_bnd, ↓z_jn, z_bdc, z_bd2, z_opn, z_ops, z_z01, z_Bt, z_Bf]
theorem z_Gsd (h : z_inv b s) (r : z_rel s g) {t : Nat} (ht : (t : Int) < s 3) : f_X10_stands (zV g) (zI t) = some (zI (z_B (decide (s (87 + 14 * t + 10) = 0)))) := by
  obtain ⟨⟨h0, h1, h2, h3, h4⟩, -, -, htk, -⟩ := id h
  have tv := (r.2.2.2.1 t ht).2.2.2.2.2.1
  unfold f_X10_stands
  rcases tv with ⟨v1, v2⟩ | ⟨v1, v2, k, v3, v4⟩
  · rw [decide_eq_true v1]
    simp (disch := omega) only [z_lit, z_n, z_add, z_sub, z_mul, z_neg, z_lt1, z_lt0, z_le1, z_le0, z_eq1, z_eq0, z_10, ↓reduceIte, z_v, z_upd, z_ue, z_un, z_ixn, z_ixo, z_ix0, z_ix1, z_ix2, z_ix3, z_ix4, z_ix5, z_ix6, Int.reduceToNat, z_inr, z_gd, ↓z_bnd, ↓z_jn, z_bdc, z_bd2, z_opn, z_ops, z_z01, z_Bt, z_Bf, z_ofT, v2]
  · rw [decide_eq_false (by omega)]
    have := z_ff_s _ _ _ v3
    have tm := (htk k (by omega)).2.2
    simp (disch := omega) only [z_lit, z_n, z_add, z_sub, z_mul, z_neg, z_lt1, z_lt0, z_le1, z_le0, z_eq1, z_eq0, z_10, ↓reduceIte, z_v, z_upd, z_ue, z_un, z_ixn, z_ixo, z_ix0, z_ix1, z_ix2, z_ix3, z_ix4, z_ix5, z_ix6, Int.reduceToNat, z_inr, z_gd, ↓z_bnd, ↓z_jn, z_bdc, z_bd2, z_opn, z_ops, z_z01, z_Bt, z_Bf, z_ofT]
theorem z_m_trainStation (h : z_Q b W s g) {a : Int} (ha : zR a) : z_AG (f_L_trainStation W (zI a)) (fun W1 => f_X10_trainStation W1 (zI a)) (z_EQ W) := by
  obtain ⟨h0, hg, pi⟩ := id h
  obtain ⟨c0, c1, c2, c3, c4⟩ := pi.1.1
  unfold f_L_trainStation
  refine z_get (v := if s (87 + 14 * a.toNat + 10) = 0 then z_cu s a.toNat else -1) (0 ≤ a ∧ a < s 3) h ⟨fun v => ?_, fun v => ?_⟩ (fun W1 h1 => ⟨fun v => ?_, fun v => ?_⟩)
  · obtain ⟨n, rfl⟩ : ∃ n : Nat, a = n := ⟨a.toNat, by omega⟩
    have lb := (pi.1.2.2.2.2.1 n (by omega)).2.2.2.2.2.2
    unfold f_X9_trainStation f_X8_standsAt f_X8_isStanding
    rw [z_Ctn h0 c3 ha, if_pos v, z_btr, h0, Int.toNat_natCast]
    by_cases c : s (87 + 14 * n + 10) = 0
    · rw [if_pos c]
      simp (disch := omega) only [z_lit, z_n, z_add, z_sub, z_mul, z_neg, z_lt1, z_lt0, z_le1, z_le0, z_eq1, z_eq0, z_10, ↓reduceIte, z_v, z_upd, z_ue, z_un, z_ixn, z_ixo, z_ix0, z_ix1, z_ix2, z_ix3, z_ix4, z_ix5, z_ix6, Int.reduceToNat, z_inr, z_gd, ↓z_bnd, ↓z_jn, z_bdc, z_bd2, z_opn, z_ops, z_z01, z_Bt, z_Bf, z_Ccu pi.1 (show (n : Int) < s 3 by omega), c]
    · rw [if_neg c]
      simp (disch := omega) only [z_lit, z_n, z_add, z_sub, z_mul, z_neg, z_lt1, z_lt0, z_le1, z_le0, z_eq1, z_eq0, z_10, ↓reduceIte, z_v, z_upd, z_ue, z_un, z_ixn, z_ixo, z_ix0, z_ix1, z_ix2, z_ix3, z_ix4, z_ix5, z_ix6, Int.reduceToNat, z_inr, z_gd, ↓z_bnd, ↓z_jn, z_bdc, z_bd2, z_opn, z_ops, z_z01, z_Bt, z_Bf]
  · unfold f_X9_trainStation
    rw [z_Ctn h0 c3 ha, if_neg v, z_btl]
  · obtain ⟨n, rfl⟩ : ∃ n : Nat, a = n := ⟨a.toNat, by omega⟩
    obtain ⟨g', e1, e2, e3⟩ := z_Q_pk (z_Q_th (c := 0) h1)
    unfold f_X10_trainStation
    rw [z_l0, z_Qnt h1 ha, z_o0 (by omega), z_bd2, if_pos rfl, e1, z_Gsd pi.1 e3 (show (n : Int) < s 3 by omega), z_bdc, Int.toNat_natCast]
    by_cases c : s (87 + 14 * n + 10) = 0
    · rw [if_pos c, decide_eq_true c]
      simp (disch := omega) only [z_lit, z_n, z_add, z_sub, z_mul, z_neg, z_lt1, z_lt0, z_le1, z_le0, z_eq1, z_eq0, z_10, ↓reduceIte, z_v, z_upd, z_ue, z_un, z_ixn, z_ixo, z_ix0, z_ix1, z_ix2, z_ix3, z_ix4, z_ix5, z_ix6, Int.reduceToNat, z_inr, z_gd, ↓z_bnd, ↓z_jn, z_bdc, z_bd2, z_opn, z_ops, z_z01, z_Bt, z_Bf, z_Gcu pi.1 e3 (show (n : Int) < s 3 by omega)]
    · rw [if_neg c, decide_eq_false c]
      simp (disch := omega) only [z_lit, z_n, z_add, z_sub, z_mul, z_neg, z_lt1, z_lt0, z_le1, z_le0, z_eq1, z_eq0, z_10, ↓reduceIte, z_v, z_upd, z_ue, z_un, z_ixn, z_ixo, z_ix0, z_ix1, z_ix2, z_ix3, z_ix4, z_ix5, z_ix6, Int.reduceToNat, z_inr, z_gd, ↓z_bnd, ↓z_jn, z_bdc, z_bd2, z_opn, z_ops, z_z01, z_Bt, z_Bf]
  · unfold f_X10_trainStation
    rw [z_l0, z_Qnt h1 ha, z_o1 (by omega)]
    simp (disch := omega) only [z_lit, z_n, z_add, z_sub, z_mul, z_neg, z_lt1, z_lt0, z_le1, z_le0, z_eq1, z_eq0, z_10, ↓reduceIte, z_v, z_upd, z_ue, z_un, z_ixn, z_ixo, z_ix0, z_ix1, z_ix2, z_ix3, z_ix4, z_ix5, z_ix6, Int.reduceToNat, z_inr, z_gd, ↓z_bnd, ↓z_jn, z_bdc, z_bd2, z_opn, z_ops, z_z01, z_Bt, z_Bf]
theorem z_m_minutesToNext (h : z_Q b W s g) {a : Int} (ha : zR a) : z_AG (f_L_minutesToNext W (zI a)) (fun W1 => f_X10_minutesToNext W1 (zI a)) (z_EQ W) := by
  obtain ⟨h0, hg, pi⟩ := id h
  obtain ⟨c0, c1, c2, c3, c4⟩ := pi.1.1
  unfold f_L_minutesToNext
  refine z_get (v := if s (87 + 14 * a.toNat + 10) = 0 then -1 else s (87 + 14 * a.toNat + 10)) (0 ≤ a ∧ a < s 3) h ⟨fun v => ?_, fun v => ?_⟩ (fun W1 h1 => ⟨fun v => ?_, fun v => ?_⟩)
  · obtain ⟨n, rfl⟩ : ∃ n : Nat, a = n := ⟨a.toNat, by omega⟩
    have lb := (pi.1.2.2.2.2.1 n (by omega)).2.2.2.2.2.2
    unfold f_X9_minutesToNext
    rw [z_Ctn h0 c3 ha, if_pos v, z_btr, h0, Int.toNat_natCast]
    by_cases c : s (87 + 14 * n + 10) = 0
    · rw [if_pos c]
      simp (disch := omega) only [z_lit, z_n, z_add, z_sub, z_mul, z_neg, z_lt1, z_lt0, z_le1, z_le0, z_eq1, z_eq0, z_10, ↓reduceIte, z_v, z_upd, z_ue, z_un, z_ixn, z_ixo, z_ix0, z_ix1, z_ix2, z_ix3, z_ix4, z_ix5, z_ix6, Int.reduceToNat, z_inr, z_gd, ↓z_bnd, ↓z_jn, z_bdc, z_bd2, z_opn, z_ops, z_z01, z_Bt, z_Bf, c]
    · rw [if_neg c]
      simp (disch := omega) only [z_lit, z_n, z_add, z_sub, z_mul, z_neg, z_lt1, z_lt0, z_le1, z_le0, z_eq1, z_eq0, z_10, ↓reduceIte, z_v, z_upd, z_ue, z_un, z_ixn, z_ixo, z_ix0, z_ix1, z_ix2, z_ix3, z_ix4, z_ix5, z_ix6, Int.reduceToNat, z_inr, z_gd, ↓z_bnd, ↓z_jn, z_bdc, z_bd2, z_opn, z_ops, z_z01, z_Bt, z_Bf]
  · unfold f_X9_minutesToNext
    rw [z_Ctn h0 c3 ha, if_neg v, z_btl]
  · obtain ⟨n, rfl⟩ : ∃ n : Nat, a = n := ⟨a.toNat, by omega⟩
    have hn : (n : Int) < s 3 := by omega
    obtain ⟨g', e1, e2, e3⟩ := z_Q_pk (z_Q_th (c := 0) h1)
    have tv := (pi.2.1.2.2.2.1 n hn).2.2.2.2.2.1
    have cu := z_cub pi.1 hn
    have nx := z_nxb pi.1 hn
    have gt := z_Gtk pi.1 e3 (x := z_cu s n) (y := z_nx s n) (by unfold zR; omega) (by unfold zR; omega)
    unfold f_X10_minutesToNext
    rw [z_l0, z_Qnt h1 ha, z_o0 (by omega), z_bd2, if_pos rfl, e1, z_Gsd pi.1 e3 hn, z_bdc, Int.toNat_natCast]
    rcases tv with ⟨v1, v2⟩ | ⟨v1, v2, k, v3, v4⟩
    · have e : (if s (87 + 14 * n + 10) = 0 then -1 else s (87 + 14 * n + 10)) = -1 := if_pos v1
      rw [e, decide_eq_true v1]
      simp (disch := omega) only [z_lit, z_n, z_add, z_sub, z_mul, z_neg, z_lt1, z_lt0, z_le1, z_le0, z_eq1, z_eq0, z_10, ↓reduceIte, z_v, z_upd, z_ue, z_un, z_ixn, z_ixo, z_ix0, z_ix1, z_ix2, z_ix3, z_ix4, z_ix5, z_ix6, Int.reduceToNat, z_inr, z_gd, ↓z_bnd, ↓z_jn, z_bdc, z_bd2, z_opn, z_ops, z_z01, z_Bt, z_Bf]
    · have e : (if s (87 + 14 * n + 10) = 0 then -1 else s (87 + 14 * n + 10)) = s (87 + 14 * n + 10) := if_neg (by omega)
      rw [e, decide_eq_false (by omega)]
      have tk := z_ff_s _ _ _ v3
      have q2 := h1.2.1 (87 + 14 * n + 10) (by omega)
      have q3 := h1.2.1 (39 + 4 * k + 2) (by omega)
      rw [pi.2.1.2.2.1 k (by omega) 2 (by omega)] at q3
      rw [v4] at q2
      rw [v3] at gt
      unfold z_oi at gt
      simp (disch := omega) only [z_lit, z_n, z_add, z_sub, z_mul, z_neg, z_lt1, z_lt0, z_le1, z_le0, z_eq1, z_eq0, z_10, ↓reduceIte, z_v, z_upd, z_ue, z_un, z_ixn, z_ixo, z_ix0, z_ix1, z_ix2, z_ix3, z_ix4, z_ix5, z_ix6, Int.reduceToNat, z_inr, z_gd, ↓z_bnd, ↓z_jn, z_bdc, z_bd2, z_opn, z_ops, z_z01, z_Bt, z_Bf, z_Gcu pi.1 e3 hn, z_Gnx pi.1 e3 hn, gt, z_ofK, z_ofT, z_thu, q2, q3]
      rw [show s (39 + 4 * k + 2) - (s (39 + 4 * k + 2) - s (87 + 14 * n + 10)) = s (87 + 14 * n + 10) by omega]
  · unfold f_X10_minutesToNext
    rw [z_l0, z_Qnt h1 ha, z_o1 (by omega)]
    simp (disch := omega) only [z_lit, z_n, z_add, z_sub, z_mul, z_neg, z_lt1, z_lt0, z_le1, z_le0, z_eq1, z_eq0, z_10, ↓reduceIte, z_v, z_upd, z_ue, z_un, z_ixn, z_ixo, z_ix0, z_ix1, z_ix2, z_ix3, z_ix4, z_ix5, z_ix6, Int.reduceToNat, z_inr, z_gd, ↓z_bnd, ↓z_jn, z_bdc, z_bd2, z_opn, z_ops, z_z01, z_Bt, z_Bf]
theorem z_tkb {x y : Int} {k : Nat} (h : z_tk s x y = some k) (h2 : 0 ≤ s 2 ∧ s 2 ≤ 12) : (k : Int) < s 2 ∧ k < 12 := by
  have := z_ff_s _ _ _ h
  omega
theorem z_m_travelTime (h : z_Q b W s g) {a c : Int} (ha : zR a) (hc : zR c) : z_AG (f_L_travelTime W (zI a) (zI c)) (fun W1 => f_X10_travelTime W1 (zI a) (zI c)) (z_EQ W) := by
  obtain ⟨h0, hg, pi⟩ := id h
  obtain ⟨c0, c1, c2, c3, c4⟩ := pi.1.1
  unfold f_L_travelTime
  refine z_get (v := match z_tk s a c with | none => -1 | some k => s (39 + 4 * k + 2)) ((0 ≤ a ∧ a < s 1) ∧ (0 ≤ c ∧ c < s 1)) h ⟨fun v => ?_, fun v => ?_⟩ (fun W1 h1 => ⟨fun v => ?_, fun v => ?_⟩)
  · have ct := z_Ctk pi.1 ha hc
    unfold f_X9_travelTime
    rw [z_Cst h0 c1 ha, z_Cst h0 c1 hc, if_pos v.1, z_btr, if_pos v.2, z_btr, h0, ct, z_bdc]
    cases e : z_tk s a c with
    | none =>
      unfold z_oi
      simp (disch := omega) only [z_lit, z_n, z_add, z_sub, z_mul, z_neg, z_lt1, z_lt0, z_le1, z_le0, z_eq1, z_eq0, z_10, ↓reduceIte, z_v, z_upd, z_ue, z_un, z_ixn, z_ixo, z_ix0, z_ix1, z_ix2, z_ix3, z_ix4, z_ix5, z_ix6, Int.reduceToNat, z_inr, z_gd, ↓z_bnd, ↓z_jn, z_bdc, z_bd2, z_opn, z_ops, z_z01, z_Bt, z_Bf]
    | some k =>
      have kb := z_tkb e c2
      unfold z_oi
      simp (disch := omega) only [z_lit, z_n, z_add, z_sub, z_mul, z_neg, z_lt1, z_lt0, z_le1, z_le0, z_eq1, z_eq0, z_10, ↓reduceIte, z_v, z_upd, z_ue, z_un, z_ixn, z_ixo, z_ix0, z_ix1, z_ix2, z_ix3, z_ix4, z_ix5, z_ix6, Int.reduceToNat, z_inr, z_gd, ↓z_bnd, ↓z_jn, z_bdc, z_bd2, z_opn, z_ops, z_z01, z_Bt, z_Bf]
  · unfold f_X9_travelTime
    rw [z_Cst h0 c1 ha, z_Cst h0 c1 hc]
    by_cases w : 0 ≤ a ∧ a < s 1
    · rw [if_pos w, z_btr, if_neg (fun q => v ⟨w, q⟩), z_btl]
    · rw [if_neg w, z_btl]
  · obtain ⟨g', e1, e2, e3⟩ := z_Q_pk (z_Q_th (c := 0) h1)
    have gt := z_Gtk pi.1 e3 ha hc
    unfold f_X10_travelTime
    rw [z_l0, z_Qnss h1 ha hc, if_pos v, z_bd2, if_pos rfl, e1, gt, z_bdc]
    cases e : z_tk s a c with
    | none =>
      unfold z_oi
      simp (disch := omega) only [z_lit, z_n, z_add, z_sub, z_mul, z_neg, z_lt1, z_lt0, z_le1, z_le0, z_eq1, z_eq0, z_10, ↓reduceIte, z_v, z_upd, z_ue, z_un, z_ixn, z_ixo, z_ix0, z_ix1, z_ix2, z_ix3, z_ix4, z_ix5, z_ix6, Int.reduceToNat, z_inr, z_gd, ↓z_bnd, ↓z_jn, z_bdc, z_bd2, z_opn, z_ops, z_z01, z_Bt, z_Bf]
    | some k =>
      have kb := z_tkb e c2
      have q3 := h1.2.1 (39 + 4 * k + 2) (by omega)
      rw [pi.2.1.2.2.1 k (by omega) 2 (by omega)] at q3
      unfold z_oi
      simp (disch := omega) only [z_lit, z_n, z_add, z_sub, z_mul, z_neg, z_lt1, z_lt0, z_le1, z_le0, z_eq1, z_eq0, z_10, ↓reduceIte, z_v, z_upd, z_ue, z_un, z_ixn, z_ixo, z_ix0, z_ix1, z_ix2, z_ix3, z_ix4, z_ix5, z_ix6, Int.reduceToNat, z_inr, z_gd, ↓z_bnd, ↓z_jn, z_bdc, z_bd2, z_opn, z_ops, z_z01, z_Bt, z_Bf, z_ofK, z_thu, q3]
  · unfold f_X10_travelTime
    rw [z_l0, z_Qnss h1 ha hc, if_neg v]
    simp (disch := omega) only [z_lit, z_n, z_add, z_sub, z_mul, z_neg, z_lt1, z_lt0, z_le1, z_le0, z_eq1, z_eq0, z_10, ↓reduceIte, z_v, z_upd, z_ue, z_un, z_ixn, z_ixo, z_ix0, z_ix1, z_ix2, z_ix3, z_ix4, z_ix5, z_ix6, Int.reduceToNat, z_inr, z_gd, ↓z_bnd, ↓z_jn, z_bdc, z_bd2, z_opn, z_ops, z_z01, z_Bt, z_Bf]
theorem z_m_isTrackOpen (h : z_Q b W s g) {a c : Int} (ha : zR a) (hc : zR c) : ∃ W', (bd2 (f_L_isTrackOpen W (zI a) (zI c)) fun v2 W1 => bd2 (f_X10_isTrackOpen W1 (zI a) (zI c)) fun v4 W3 => bdc (f_X10_thrown W3) fun v5 => if v5 = v2 then if v2 = 0 then if v4 = 0 then if lg_cmp (W3 31 0).toInt64 ((0 : Int32)).toInt64 = 0 then some W3 else none else if lg_cmp (W3 31 0).toInt64 ((1 : Int32)).toInt64 = 0 then some W3 else none else some W3 else none) = some W' ∧ z_EQ W W' := by
  obtain ⟨h0, hg, pi⟩ := id h
  obtain ⟨c0, c1, c2, c3, c4⟩ := pi.1.1
  unfold f_L_isTrackOpen
  refine z_getb (M := fun W1 => f_X10_isTrackOpen W1 (zI a) (zI c)) (v := match z_tk s a c with | none => 0 | some k => s (39 + 4 * k + 3)) ((0 ≤ a ∧ a < s 1) ∧ (0 ≤ c ∧ c < s 1)) (fun v => ?_) h ⟨fun v => ?_, fun v => ?_⟩ (fun W1 h1 => ⟨fun v => ?_, fun v => ?_⟩)
  · cases e : z_tk s a c with
    | none => exact Or.inl rfl
    | some k =>
      have kb := z_tkb e c2
      exact pi.1.2.1.2.1 k kb.2
  · have ct := z_Ctk pi.1 ha hc
    unfold f_X9_isTrackOpen
    rw [z_Cst h0 c1 ha, z_Cst h0 c1 hc, if_pos v.1, z_btr, if_pos v.2, z_btr, h0, ct, z_bdc]
    cases e : z_tk s a c with
    | none =>
      unfold z_oi
      simp (disch := omega) only [z_lit, z_n, z_add, z_sub, z_mul, z_neg, z_lt1, z_lt0, z_le1, z_le0, z_eq1, z_eq0, z_10, ↓reduceIte, z_v, z_upd, z_ue, z_un, z_ixn, z_ixo, z_ix0, z_ix1, z_ix2, z_ix3, z_ix4, z_ix5, z_ix6, Int.reduceToNat, z_inr, z_gd, ↓z_bnd, ↓z_jn, z_bdc, z_bd2, z_opn, z_ops, z_z01, z_Bt, z_Bf]
    | some k =>
      have kb := z_tkb e c2
      unfold z_oi
      rcases pi.1.2.1.2.1 k kb.2 with o | o <;> simp (disch := omega) only [z_lit, z_n, z_add, z_sub, z_mul, z_neg, z_lt1, z_lt0, z_le1, z_le0, z_eq1, z_eq0, z_10, ↓reduceIte, z_v, z_upd, z_ue, z_un, z_ixn, z_ixo, z_ix0, z_ix1, z_ix2, z_ix3, z_ix4, z_ix5, z_ix6, Int.reduceToNat, z_inr, z_gd, ↓z_bnd, ↓z_jn, z_bdc, z_bd2, z_opn, z_ops, z_z01, z_Bt, z_Bf, o]
  · unfold f_X9_isTrackOpen
    rw [z_Cst h0 c1 ha, z_Cst h0 c1 hc]
    by_cases w : 0 ≤ a ∧ a < s 1
    · rw [if_pos w, z_btr, if_neg (fun q => v ⟨w, q⟩), z_btl]
    · rw [if_neg w, z_btl]
  · obtain ⟨g', e1, e2, e3⟩ := z_Q_pk (z_Q_th (c := 0) h1)
    have gt := z_Gtk pi.1 e3 ha hc
    unfold f_X10_isTrackOpen f_X10_isOpen
    rw [z_l0, z_Qnss h1 ha hc, if_pos v, z_bd2, if_pos rfl, e1, gt, z_bdc]
    cases e : z_tk s a c with
    | none =>
      unfold z_oi
      simp (disch := omega) only [z_lit, z_n, z_add, z_sub, z_mul, z_neg, z_lt1, z_lt0, z_le1, z_le0, z_eq1, z_eq0, z_10, ↓reduceIte, z_v, z_upd, z_ue, z_un, z_ixn, z_ixo, z_ix0, z_ix1, z_ix2, z_ix3, z_ix4, z_ix5, z_ix6, Int.reduceToNat, z_inr, z_gd, ↓z_bnd, ↓z_jn, z_bdc, z_bd2, z_opn, z_ops, z_z01, z_Bt, z_Bf]
    | some k =>
      have kb := z_tkb e c2
      have q3 := e3.2.2.1 k (by omega) 3 (by omega)
      unfold z_oi
      rcases pi.1.2.1.2.1 k kb.2 with o | o <;> simp (disch := omega) only [z_lit, z_n, z_add, z_sub, z_mul, z_neg, z_lt1, z_lt0, z_le1, z_le0, z_eq1, z_eq0, z_10, ↓reduceIte, z_v, z_upd, z_ue, z_un, z_ixn, z_ixo, z_ix0, z_ix1, z_ix2, z_ix3, z_ix4, z_ix5, z_ix6, Int.reduceToNat, z_inr, z_gd, ↓z_bnd, ↓z_jn, z_bdc, z_bd2, z_opn, z_ops, z_z01, z_Bt, z_Bf, z_ofK, q3, o]
  · unfold f_X10_isTrackOpen
    rw [z_l0, z_Qnss h1 ha hc, if_neg v]
    simp (disch := omega) only [z_lit, z_n, z_add, z_sub, z_mul, z_neg, z_lt1, z_lt0, z_le1, z_le0, z_eq1, z_eq0, z_10, ↓reduceIte, z_v, z_upd, z_ue, z_un, z_ixn, z_ixo, z_ix0, z_ix1, z_ix2, z_ix3, z_ix4, z_ix5, z_ix6, Int.reduceToNat, z_inr, z_gd, ↓z_bnd, ↓z_jn, z_bdc, z_bd2, z_opn, z_ops, z_z01, z_Bt, z_Bf]
end Qry
