/-! the queries of one cell -/
section Get
variable {W W' : Nat → Nat → Int32} {b : Int} {s g : Nat → Int}
theorem z_btl {A R : Type} {e : String} {L : String → Option R} {K : A → Option R} : bdt (some (.inl e)) L K = L e := (rfl)
theorem z_btr {A R : Type} {a : A} {L : String → Option R} {K : A → Option R} : bdt (some (.inr a)) L K = K a := (rfl)
theorem z_b2l {A B R : Type} {e : String} {w : B} {L : String → B → Option R} {K : A → B → Option R} : bt2 (some (.inl e, w)) L K = L e w := (rfl)
theorem z_b2r {A B R : Type} {a : A} {w : B} {L : String → B → Option R} {K : A → B → Option R} : bt2 (some (.inr a, w)) L K = K a w := (rfl)
theorem z_Qns (h : z_Q b W s g) {a : Int} (ha : zR a) : f_X10_noStation W (zI a) = some (zI (z_out a 0 (s 1 - 1)), z_th W (z_out a 0 (s 1 - 1))) := z_Gns (by rw [h.2.1 1 (by omega), h.2.2.2.1.1 1 (by omega)]) h.2.2.1.1.2.1 ha
theorem z_Qnt (h : z_Q b W s g) {a : Int} (ha : zR a) : f_X10_noTrain W (zI a) = some (zI (z_out a 0 (s 3 - 1)), z_th W (z_out a 0 (s 3 - 1))) := z_Gnt (by rw [h.2.1 3 (by omega), h.2.2.2.1.1 3 (by omega)]) h.2.2.1.1.2.2.2.1 ha
theorem z_Qnp (h : z_Q b W s g) {a : Int} (ha : zR a) : f_X10_noParcel W (zI a) = some (zI (z_out a 0 (s 4 - 1)), z_th W (z_out a 0 (s 4 - 1))) := z_Gnp (by rw [h.2.1 4 (by omega), h.2.2.2.1.1 4 (by omega)]) h.2.2.1.1.2.2.2.2 ha
/-- a query that throws one thing or answers -/
theorem z_get {X : Option (String ⊕ Int32)} {M : (Nat → Nat → Int32) → Option (Int32 × (Nat → Nat → Int32))} {v : Int} (V : Prop) (h : z_Q b W s g)
    (hc : (V → X = some (.inr (zI v))) ∧ (¬ V → X = some (.inl "java/lang/IndexOutOfBoundsException")))
    (hr : ∀ W1, z_Q b W1 s g → (V → M W1 = some (zI v, z_th W1 0)) ∧ (¬ V → M W1 = some (zI 0, z_th W1 1))) :
    z_AG (bdt X (fun e => if e = "java/lang/IndexOutOfBoundsException" then some ((1 : Int32), W) else none) (fun v1 => bnd (w2 W 31 0 v1) (fun W2 => some ((0 : Int32), W2)))) M (z_EQ W) := by
  by_cases hV : V
  · refine ⟨0, zI v, w2 W 31 0 (zI v), z_th (w2 W 31 0 (zI v)) 0, ?_, (hr _ (z_Q_31 h)).1 hV, z_the, by omega, by omega, fun _ => ?_, z_EQ_t z_EQ_31 z_EQ_th⟩
    · rw [hc.1 hV, z_btr, z_bnd, z_l0]
    · rw [z_thu (by omega), z_w2e]
  · refine ⟨1, zI 0, W, z_th W 1, ?_, (hr _ h).2 hV, z_the, by omega, by omega, fun q => absurd q (by omega), z_EQ_th⟩
    rw [hc.2 hV, z_btl, if_pos rfl, z_l1]
/-- the same, with an answer of 0 or 1 -/
theorem z_getb {X : Option (String ⊕ Int32)} {M : (Nat → Nat → Int32) → Option (Int32 × (Nat → Nat → Int32))} {v : Int} (V : Prop) (hv : V → v = 0 ∨ v = 1) (h : z_Q b W s g)
    (hc : (V → X = some (.inr (zI v))) ∧ (¬ V → X = some (.inl "java/lang/IndexOutOfBoundsException")))
    (hr : ∀ W1, z_Q b W1 s g → (V → M W1 = some (zI v, z_th W1 0)) ∧ (¬ V → M W1 = some (zI 0, z_th W1 1))) :
    ∃ W', (bd2 (bdt X (fun e => if e = "java/lang/IndexOutOfBoundsException" then some ((1 : Int32), W) else none) (fun v1 => if v1 = 0 then bnd (w2 W 31 0 (0 : Int32)) (fun W3 => some ((0 : Int32), W3)) else bnd (w2 W 31 0 (1 : Int32)) (fun W4 => some ((0 : Int32), W4)))) fun v2 W1 => bd2 (M W1) fun v4 W3 => bdc (f_X10_thrown W3) fun v5 => if v5 = v2 then if v2 = 0 then if v4 = 0 then if lg_cmp (W3 31 0).toInt64 ((0 : Int32)).toInt64 = 0 then some W3 else none else if lg_cmp (W3 31 0).toInt64 ((1 : Int32)).toInt64 = 0 then some W3 else none else some W3 else none) = some W' ∧ z_EQ W W' := by
  refine z_tailb (P := z_EQ W) ?_ ?_
  · by_cases hV : V
    · refine ⟨0, zI v, w2 W 31 0 (zI v), z_th (w2 W 31 0 (zI v)) 0, ?_, (hr _ (z_Q_31 h)).1 hV, z_the, by omega, by omega, fun _ => ?_, z_EQ_t z_EQ_31 z_EQ_th⟩
      · rw [hc.1 hV, z_btr]
        rcases hv hV with q | q <;> rw [q] <;> rfl
      · rw [z_thu (by omega), z_w2e]
    · refine ⟨1, zI 0, W, z_th W 1, ?_, (hr _ h).2 hV, z_the, by omega, by omega, fun q => absurd q (by omega), z_EQ_th⟩
      rw [hc.2 hV, z_btl, if_pos rfl, z_l1]
  · intro c W1 u W3 e1 e2
    by_cases hV : V
    · rw [hc.1 hV, z_btr] at e1
      have : W1 = w2 W 31 0 (zI v) := by
        rcases hv hV with q | q <;> rw [q] at e1 ⊢
        · exact (Prod.mk.inj (Option.some.inj e1)).2.symm
        · exact (Prod.mk.inj (Option.some.inj e1)).2.symm
      rw [this, (hr _ (z_Q_31 h)).1 hV] at e2
      obtain ⟨rfl, -⟩ := Prod.mk.inj (Option.some.inj e2)
      rcases hv hV with q | q <;> rw [q]
      · exact Or.inl rfl
      · exact Or.inr rfl
    · rw [hc.2 hV, z_btl, if_pos rfl] at e1
      have : W1 = W := (Prod.mk.inj (Option.some.inj e1)).2.symm
      rw [this, (hr _ h).2 hV] at e2
      obtain ⟨rfl, -⟩ := Prod.mk.inj (Option.some.inj e2)
      exact Or.inl rfl
theorem z_m_inspectionTime (h : z_Q b W s g) {a : Int} (ha : zR a) : z_AG (f_L_inspectionTime W (zI a)) (fun W1 => f_X10_inspectionTime W1 (zI a)) (z_EQ W) := by
  obtain ⟨h0, hg, pi⟩ := id h
  obtain ⟨c0, c1, c2, c3, c4⟩ := pi.1.1
  unfold f_L_inspectionTime
  refine z_get (v := s (7 + 4 * a.toNat + 2)) (0 ≤ a ∧ a < s 1) h ⟨fun v => ?_, fun v => ?_⟩ (fun W1 h1 => ⟨fun v => ?_, fun v => ?_⟩)
  · obtain ⟨n, rfl⟩ : ∃ n : Nat, a = n := ⟨a.toNat, by omega⟩
    unfold f_X9_inspectionTime
    rw [z_Cst h0 c1 ha, if_pos v, z_btr, h0]
    simp (disch := omega) only [z_lit, z_n, z_add, z_sub, z_mul, z_neg, z_lt1, z_lt0, z_le1, z_le0, z_eq1, z_eq0, z_10, ↓reduceIte, z_v, z_upd, z_ue, z_un, z_ixn, z_ixo, z_ix0, z_ix1, z_ix2, z_ix3, z_ix4, z_ix5, z_ix6, Int.reduceToNat, z_inr, z_gd, ↓z_bnd, ↓z_jn, z_bdc, z_bd2, z_opn, z_ops, z_z01, z_Bt, z_Bf, Int.toNat_natCast]
  · unfold f_X9_inspectionTime
    rw [z_Cst h0 c1 ha, if_neg v, z_btl]
  · obtain ⟨n, rfl⟩ : ∃ n : Nat, a = n := ⟨a.toNat, by omega⟩
    have q := (pi.2.1.2.1 n (by omega)).2.2
    have q2 := h1.2.1 (7 + 4 * n + 2) (by omega)
    rw [q] at q2
    unfold f_X10_inspectionTime
    rw [z_l0, z_Qns h1 ha, z_o0 (by omega)]
    simp (disch := omega) only [z_lit, z_n, z_add, z_sub, z_mul, z_neg, z_lt1, z_lt0, z_le1, z_le0, z_eq1, z_eq0, z_10, ↓reduceIte, z_v, z_upd, z_ue, z_un, z_ixn, z_ixo, z_ix0, z_ix1, z_ix2, z_ix3, z_ix4, z_ix5, z_ix6, Int.reduceToNat, z_inr, z_gd, ↓z_bnd, ↓z_jn, z_bdc, z_bd2, z_opn, z_ops, z_z01, z_Bt, z_Bf, z_ofS, z_thu, Nat.add_zero, q2, Int.toNat_natCast]
  · unfold f_X10_inspectionTime
    rw [z_l0, z_Qns h1 ha, z_o1 (by omega)]
    simp (disch := omega) only [z_lit, z_n, z_add, z_sub, z_mul, z_neg, z_lt1, z_lt0, z_le1, z_le0, z_eq1, z_eq0, z_10, ↓reduceIte, z_v, z_upd, z_ue, z_un, z_ixn, z_ixo, z_ix0, z_ix1, z_ix2, z_ix3, z_ix4, z_ix5, z_ix6, Int.reduceToNat, z_inr, z_gd, ↓z_bnd, ↓z_jn, z_bdc, z_bd2, z_opn, z_ops, z_z01, z_Bt, z_Bf]
theorem z_m_capacity (h : z_Q b W s g) {a : Int} (ha : zR a) : z_AG (f_L_capacity W (zI a)) (fun W1 => f_X10_capacity W1 (zI a)) (z_EQ W) := by
  obtain ⟨h0, hg, pi⟩ := id h
  obtain ⟨c0, c1, c2, c3, c4⟩ := pi.1.1
  unfold f_L_capacity
  refine z_get (v := s (87 + 14 * a.toNat)) (0 ≤ a ∧ a < s 3) h ⟨fun v => ?_, fun v => ?_⟩ (fun W1 h1 => ⟨fun v => ?_, fun v => ?_⟩)
  · obtain ⟨n, rfl⟩ : ∃ n : Nat, a = n := ⟨a.toNat, by omega⟩
    unfold f_X9_capacity
    rw [z_Ctn h0 c3 ha, if_pos v, z_btr, h0]
    simp (disch := omega) only [z_lit, z_n, z_add, z_sub, z_mul, z_neg, z_lt1, z_lt0, z_le1, z_le0, z_eq1, z_eq0, z_10, ↓reduceIte, z_v, z_upd, z_ue, z_un, z_ixn, z_ixo, z_ix0, z_ix1, z_ix2, z_ix3, z_ix4, z_ix5, z_ix6, Int.reduceToNat, z_inr, z_gd, ↓z_bnd, ↓z_jn, z_bdc, z_bd2, z_opn, z_ops, z_z01, z_Bt, z_Bf, Int.toNat_natCast]
  · unfold f_X9_capacity
    rw [z_Ctn h0 c3 ha, if_neg v, z_btl]
  · obtain ⟨n, rfl⟩ : ∃ n : Nat, a = n := ⟨a.toNat, by omega⟩
    have q := (pi.2.1.2.2.2.1 n (by omega)).1
    have q2 := h1.2.1 (87 + 14 * n) (by omega)
    rw [q] at q2
    unfold f_X10_capacity
    rw [z_l0, z_Qnt h1 ha, z_o0 (by omega)]
    simp (disch := omega) only [z_lit, z_n, z_add, z_sub, z_mul, z_neg, z_lt1, z_lt0, z_le1, z_le0, z_eq1, z_eq0, z_10, ↓reduceIte, z_v, z_upd, z_ue, z_un, z_ixn, z_ixo, z_ix0, z_ix1, z_ix2, z_ix3, z_ix4, z_ix5, z_ix6, Int.reduceToNat, z_inr, z_gd, ↓z_bnd, ↓z_jn, z_bdc, z_bd2, z_opn, z_ops, z_z01, z_Bt, z_Bf, z_ofT, z_thu, Nat.add_zero, q2, Int.toNat_natCast]
  · unfold f_X10_capacity
    rw [z_l0, z_Qnt h1 ha, z_o1 (by omega)]
    simp (disch := omega) only [z_lit, z_n, z_add, z_sub, z_mul, z_neg, z_lt1, z_lt0, z_le1, z_le0, z_eq1, z_eq0, z_10, ↓reduceIte, z_v, z_upd, z_ue, z_un, z_ixn, z_ixo, z_ix0, z_ix1, z_ix2, z_ix3, z_ix4, z_ix5, z_ix6, Int.reduceToNat, z_inr, z_gd, ↓z_bnd, ↓z_jn, z_bdc, z_bd2, z_opn, z_ops, z_z01, z_Bt, z_Bf]
theorem z_m_routeLength (h : z_Q b W s g) {a : Int} (ha : zR a) : z_AG (f_L_routeLength W (zI a)) (fun W1 => f_X10_routeLength W1 (zI a)) (z_EQ W) := by
  obtain ⟨h0, hg, pi⟩ := id h
  obtain ⟨c0, c1, c2, c3, c4⟩ := pi.1.1
  unfold f_L_routeLength
  refine z_get (v := s (87 + 14 * a.toNat + 1)) (0 ≤ a ∧ a < s 3) h ⟨fun v => ?_, fun v => ?_⟩ (fun W1 h1 => ⟨fun v => ?_, fun v => ?_⟩)
  · obtain ⟨n, rfl⟩ : ∃ n : Nat, a = n := ⟨a.toNat, by omega⟩
    unfold f_X9_routeLength
    rw [z_Ctn h0 c3 ha, if_pos v, z_btr, h0]
    simp (disch := omega) only [z_lit, z_n, z_add, z_sub, z_mul, z_neg, z_lt1, z_lt0, z_le1, z_le0, z_eq1, z_eq0, z_10, ↓reduceIte, z_v, z_upd, z_ue, z_un, z_ixn, z_ixo, z_ix0, z_ix1, z_ix2, z_ix3, z_ix4, z_ix5, z_ix6, Int.reduceToNat, z_inr, z_gd, ↓z_bnd, ↓z_jn, z_bdc, z_bd2, z_opn, z_ops, z_z01, z_Bt, z_Bf, Int.toNat_natCast]
  · unfold f_X9_routeLength
    rw [z_Ctn h0 c3 ha, if_neg v, z_btl]
  · obtain ⟨n, rfl⟩ : ∃ n : Nat, a = n := ⟨a.toNat, by omega⟩
    have q := (pi.2.1.2.2.2.1 n (by omega)).2.1
    have q2 := h1.2.1 (87 + 14 * n + 1) (by omega)
    rw [q] at q2
    unfold f_X10_routeLength
    rw [z_l0, z_Qnt h1 ha, z_o0 (by omega)]
    simp (disch := omega) only [z_lit, z_n, z_add, z_sub, z_mul, z_neg, z_lt1, z_lt0, z_le1, z_le0, z_eq1, z_eq0, z_10, ↓reduceIte, z_v, z_upd, z_ue, z_un, z_ixn, z_ixo, z_ix0, z_ix1, z_ix2, z_ix3, z_ix4, z_ix5, z_ix6, Int.reduceToNat, z_inr, z_gd, ↓z_bnd, ↓z_jn, z_bdc, z_bd2, z_opn, z_ops, z_z01, z_Bt, z_Bf, z_ofT, z_thu, Nat.add_zero, q2, Int.toNat_natCast]
  · unfold f_X10_routeLength
    rw [z_l0, z_Qnt h1 ha, z_o1 (by omega)]
    simp (disch := omega) only [z_lit, z_n, z_add, z_sub, z_mul, z_neg, z_lt1, z_lt0, z_le1, z_le0, z_eq1, z_eq0, z_10, ↓reduceIte, z_v, z_upd, z_ue, z_un, z_ixn, z_ixo, z_ix0, z_ix1, z_ix2, z_ix3, z_ix4, z_ix5, z_ix6, Int.reduceToNat, z_inr, z_gd, ↓z_bnd, ↓z_jn, z_bdc, z_bd2, z_opn, z_ops, z_z01, z_Bt, z_Bf]
theorem z_m_delay (h : z_Q b W s g) {a : Int} (ha : zR a) : z_AG (f_L_delay W (zI a)) (fun W1 => f_X10_delay W1 (zI a)) (z_EQ W) := by
  obtain ⟨h0, hg, pi⟩ := id h
  obtain ⟨c0, c1, c2, c3, c4⟩ := pi.1.1
  unfold f_L_delay
  refine z_get (v := s (87 + 14 * a.toNat + 11)) (0 ≤ a ∧ a < s 3) h ⟨fun v => ?_, fun v => ?_⟩ (fun W1 h1 => ⟨fun v => ?_, fun v => ?_⟩)
  · obtain ⟨n, rfl⟩ : ∃ n : Nat, a = n := ⟨a.toNat, by omega⟩
    unfold f_X9_delay
    rw [z_Ctn h0 c3 ha, if_pos v, z_btr, h0]
    simp (disch := omega) only [z_lit, z_n, z_add, z_sub, z_mul, z_neg, z_lt1, z_lt0, z_le1, z_le0, z_eq1, z_eq0, z_10, ↓reduceIte, z_v, z_upd, z_ue, z_un, z_ixn, z_ixo, z_ix0, z_ix1, z_ix2, z_ix3, z_ix4, z_ix5, z_ix6, Int.reduceToNat, z_inr, z_gd, ↓z_bnd, ↓z_jn, z_bdc, z_bd2, z_opn, z_ops, z_z01, z_Bt, z_Bf, Int.toNat_natCast]
  · unfold f_X9_delay
    rw [z_Ctn h0 c3 ha, if_neg v, z_btl]
  · obtain ⟨n, rfl⟩ : ∃ n : Nat, a = n := ⟨a.toNat, by omega⟩
    have q := (pi.2.1.2.2.2.1 n (by omega)).2.2.2.2.2.2.1
    have q2 := h1.2.1 (87 + 14 * n + 11) (by omega)
    rw [q] at q2
    unfold f_X10_delay
    rw [z_l0, z_Qnt h1 ha, z_o0 (by omega)]
    simp (disch := omega) only [z_lit, z_n, z_add, z_sub, z_mul, z_neg, z_lt1, z_lt0, z_le1, z_le0, z_eq1, z_eq0, z_10, ↓reduceIte, z_v, z_upd, z_ue, z_un, z_ixn, z_ixo, z_ix0, z_ix1, z_ix2, z_ix3, z_ix4, z_ix5, z_ix6, Int.reduceToNat, z_inr, z_gd, ↓z_bnd, ↓z_jn, z_bdc, z_bd2, z_opn, z_ops, z_z01, z_Bt, z_Bf, z_ofT, z_thu, Nat.add_zero, q2, Int.toNat_natCast]
  · unfold f_X10_delay
    rw [z_l0, z_Qnt h1 ha, z_o1 (by omega)]
    simp (disch := omega) only [z_lit, z_n, z_add, z_sub, z_mul, z_neg, z_lt1, z_lt0, z_le1, z_le0, z_eq1, z_eq0, z_10, ↓reduceIte, z_v, z_upd, z_ue, z_un, z_ixn, z_ixo, z_ix0, z_ix1, z_ix2, z_ix3, z_ix4, z_ix5, z_ix6, Int.reduceToNat, z_inr, z_gd, ↓z_bnd, ↓z_jn, z_bdc, z_bd2, z_opn, z_ops, z_z01, z_Bt, z_Bf]
theorem z_m_stopsMade (h : z_Q b W s g) {a : Int} (ha : zR a) : z_AG (f_L_stopsMade W (zI a)) (fun W1 => f_X10_stopsMade W1 (zI a)) (z_EQ W) := by
  obtain ⟨h0, hg, pi⟩ := id h
  obtain ⟨c0, c1, c2, c3, c4⟩ := pi.1.1
  unfold f_L_stopsMade
  refine z_get (v := s (87 + 14 * a.toNat + 12)) (0 ≤ a ∧ a < s 3) h ⟨fun v => ?_, fun v => ?_⟩ (fun W1 h1 => ⟨fun v => ?_, fun v => ?_⟩)
  · obtain ⟨n, rfl⟩ : ∃ n : Nat, a = n := ⟨a.toNat, by omega⟩
    unfold f_X9_stopsMade
    rw [z_Ctn h0 c3 ha, if_pos v, z_btr, h0]
    simp (disch := omega) only [z_lit, z_n, z_add, z_sub, z_mul, z_neg, z_lt1, z_lt0, z_le1, z_le0, z_eq1, z_eq0, z_10, ↓reduceIte, z_v, z_upd, z_ue, z_un, z_ixn, z_ixo, z_ix0, z_ix1, z_ix2, z_ix3, z_ix4, z_ix5, z_ix6, Int.reduceToNat, z_inr, z_gd, ↓z_bnd, ↓z_jn, z_bdc, z_bd2, z_opn, z_ops, z_z01, z_Bt, z_Bf, Int.toNat_natCast]
  · unfold f_X9_stopsMade
    rw [z_Ctn h0 c3 ha, if_neg v, z_btl]
  · obtain ⟨n, rfl⟩ : ∃ n : Nat, a = n := ⟨a.toNat, by omega⟩
    have q := (pi.2.1.2.2.2.1 n (by omega)).2.2.2.2.2.2.2.1
    have q2 := h1.2.1 (87 + 14 * n + 12) (by omega)
    rw [q] at q2
    unfold f_X10_stopsMade
    rw [z_l0, z_Qnt h1 ha, z_o0 (by omega)]
    simp (disch := omega) only [z_lit, z_n, z_add, z_sub, z_mul, z_neg, z_lt1, z_lt0, z_le1, z_le0, z_eq1, z_eq0, z_10, ↓reduceIte, z_v, z_upd, z_ue, z_un, z_ixn, z_ixo, z_ix0, z_ix1, z_ix2, z_ix3, z_ix4, z_ix5, z_ix6, Int.reduceToNat, z_inr, z_gd, ↓z_bnd, ↓z_jn, z_bdc, z_bd2, z_opn, z_ops, z_z01, z_Bt, z_Bf, z_ofT, z_thu, Nat.add_zero, q2, Int.toNat_natCast]
  · unfold f_X10_stopsMade
    rw [z_l0, z_Qnt h1 ha, z_o1 (by omega)]
    simp (disch := omega) only [z_lit, z_n, z_add, z_sub, z_mul, z_neg, z_lt1, z_lt0, z_le1, z_le0, z_eq1, z_eq0, z_10, ↓reduceIte, z_v, z_upd, z_ue, z_un, z_ixn, z_ixo, z_ix0, z_ix1, z_ix2, z_ix3, z_ix4, z_ix5, z_ix6, Int.reduceToNat, z_inr, z_gd, ↓z_bnd, ↓z_jn, z_bdc, z_bd2, z_opn, z_ops, z_z01, z_Bt, z_Bf]
theorem z_m_stopsPassed (h : z_Q b W s g) {a : Int} (ha : zR a) : z_AG (f_L_stopsPassed W (zI a)) (fun W1 => f_X10_stopsPassed W1 (zI a)) (z_EQ W) := by
  obtain ⟨h0, hg, pi⟩ := id h
  obtain ⟨c0, c1, c2, c3, c4⟩ := pi.1.1
  unfold f_L_stopsPassed
  refine z_get (v := s (87 + 14 * a.toNat + 13)) (0 ≤ a ∧ a < s 3) h ⟨fun v => ?_, fun v => ?_⟩ (fun W1 h1 => ⟨fun v => ?_, fun v => ?_⟩)
  · obtain ⟨n, rfl⟩ : ∃ n : Nat, a = n := ⟨a.toNat, by omega⟩
    unfold f_X9_stopsPassed
    rw [z_Ctn h0 c3 ha, if_pos v, z_btr, h0]
    simp (disch := omega) only [z_lit, z_n, z_add, z_sub, z_mul, z_neg, z_lt1, z_lt0, z_le1, z_le0, z_eq1, z_eq0, z_10, ↓reduceIte, z_v, z_upd, z_ue, z_un, z_ixn, z_ixo, z_ix0, z_ix1, z_ix2, z_ix3, z_ix4, z_ix5, z_ix6, Int.reduceToNat, z_inr, z_gd, ↓z_bnd, ↓z_jn, z_bdc, z_bd2, z_opn, z_ops, z_z01, z_Bt, z_Bf, Int.toNat_natCast]
  · unfold f_X9_stopsPassed
    rw [z_Ctn h0 c3 ha, if_neg v, z_btl]
  · obtain ⟨n, rfl⟩ : ∃ n : Nat, a = n := ⟨a.toNat, by omega⟩
    have q := (pi.2.1.2.2.2.1 n (by omega)).2.2.2.2.2.2.2.2
    have q2 := h1.2.1 (87 + 14 * n + 13) (by omega)
    rw [q] at q2
    unfold f_X10_stopsPassed
    rw [z_l0, z_Qnt h1 ha, z_o0 (by omega)]
    simp (disch := omega) only [z_lit, z_n, z_add, z_sub, z_mul, z_neg, z_lt1, z_lt0, z_le1, z_le0, z_eq1, z_eq0, z_10, ↓reduceIte, z_v, z_upd, z_ue, z_un, z_ixn, z_ixo, z_ix0, z_ix1, z_ix2, z_ix3, z_ix4, z_ix5, z_ix6, Int.reduceToNat, z_inr, z_gd, ↓z_bnd, ↓z_jn, z_bdc, z_bd2, z_opn, z_ops, z_z01, z_Bt, z_Bf, z_ofT, z_thu, Nat.add_zero, q2, Int.toNat_natCast]
  · unfold f_X10_stopsPassed
    rw [z_l0, z_Qnt h1 ha, z_o1 (by omega)]
    simp (disch := omega) only [z_lit, z_n, z_add, z_sub, z_mul, z_neg, z_lt1, z_lt0, z_le1, z_le0, z_eq1, z_eq0, z_10, ↓reduceIte, z_v, z_upd, z_ue, z_un, z_ixn, z_ixo, z_ix0, z_ix1, z_ix2, z_ix3, z_ix4, z_ix5, z_ix6, Int.reduceToNat, z_inr, z_gd, ↓z_bnd, ↓z_jn, z_bdc, z_bd2, z_opn, z_ops, z_z01, z_Bt, z_Bf]
theorem z_m_origin (h : z_Q b W s g) {a : Int} (ha : zR a) : z_AG (f_L_origin W (zI a)) (fun W1 => f_X10_origin W1 (zI a)) (z_EQ W) := by
  obtain ⟨h0, hg, pi⟩ := id h
  obtain ⟨c0, c1, c2, c3, c4⟩ := pi.1.1
  unfold f_L_origin
  refine z_get (v := s (143 + 9 * a.toNat)) (0 ≤ a ∧ a < s 4) h ⟨fun v => ?_, fun v => ?_⟩ (fun W1 h1 => ⟨fun v => ?_, fun v => ?_⟩)
  · obtain ⟨n, rfl⟩ : ∃ n : Nat, a = n := ⟨a.toNat, by omega⟩
    unfold f_X9_origin
    rw [z_Cpl h0 c4 ha, if_pos v, z_btr, h0]
    simp (disch := omega) only [z_lit, z_n, z_add, z_sub, z_mul, z_neg, z_lt1, z_lt0, z_le1, z_le0, z_eq1, z_eq0, z_10, ↓reduceIte, z_v, z_upd, z_ue, z_un, z_ixn, z_ixo, z_ix0, z_ix1, z_ix2, z_ix3, z_ix4, z_ix5, z_ix6, Int.reduceToNat, z_inr, z_gd, ↓z_bnd, ↓z_jn, z_bdc, z_bd2, z_opn, z_ops, z_z01, z_Bt, z_Bf, Int.toNat_natCast]
  · unfold f_X9_origin
    rw [z_Cpl h0 c4 ha, if_neg v, z_btl]
  · obtain ⟨n, rfl⟩ : ∃ n : Nat, a = n := ⟨a.toNat, by omega⟩
    have q : g (143 + 9 * n) = s (143 + 9 * n) := pi.2.1.2.2.2.2 n (by omega) 0 (by omega)
    have q2 := h1.2.1 (143 + 9 * n) (by omega)
    rw [q] at q2
    unfold f_X10_origin f_X10_ofIt
    rw [z_l0, z_Qnp h1 ha, z_o0 (by omega)]
    simp (disch := omega) only [z_lit, z_n, z_add, z_sub, z_mul, z_neg, z_lt1, z_lt0, z_le1, z_le0, z_eq1, z_eq0, z_10, ↓reduceIte, z_v, z_upd, z_ue, z_un, z_ixn, z_ixo, z_ix0, z_ix1, z_ix2, z_ix3, z_ix4, z_ix5, z_ix6, Int.reduceToNat, z_inr, z_gd, ↓z_bnd, ↓z_jn, z_bdc, z_bd2, z_opn, z_ops, z_z01, z_Bt, z_Bf, z_ofP, z_thu, Nat.add_zero, q2, Int.toNat_natCast]
  · unfold f_X10_origin f_X10_ofIt
    rw [z_l0, z_Qnp h1 ha, z_o1 (by omega)]
    simp (disch := omega) only [z_lit, z_n, z_add, z_sub, z_mul, z_neg, z_lt1, z_lt0, z_le1, z_le0, z_eq1, z_eq0, z_10, ↓reduceIte, z_v, z_upd, z_ue, z_un, z_ixn, z_ixo, z_ix0, z_ix1, z_ix2, z_ix3, z_ix4, z_ix5, z_ix6, Int.reduceToNat, z_inr, z_gd, ↓z_bnd, ↓z_jn, z_bdc, z_bd2, z_opn, z_ops, z_z01, z_Bt, z_Bf]
theorem z_m_destination (h : z_Q b W s g) {a : Int} (ha : zR a) : z_AG (f_L_destination W (zI a)) (fun W1 => f_X10_destination W1 (zI a)) (z_EQ W) := by
  obtain ⟨h0, hg, pi⟩ := id h
  obtain ⟨c0, c1, c2, c3, c4⟩ := pi.1.1
  unfold f_L_destination
  refine z_get (v := s (143 + 9 * a.toNat + 1)) (0 ≤ a ∧ a < s 4) h ⟨fun v => ?_, fun v => ?_⟩ (fun W1 h1 => ⟨fun v => ?_, fun v => ?_⟩)
  · obtain ⟨n, rfl⟩ : ∃ n : Nat, a = n := ⟨a.toNat, by omega⟩
    unfold f_X9_destination
    rw [z_Cpl h0 c4 ha, if_pos v, z_btr, h0]
    simp (disch := omega) only [z_lit, z_n, z_add, z_sub, z_mul, z_neg, z_lt1, z_lt0, z_le1, z_le0, z_eq1, z_eq0, z_10, ↓reduceIte, z_v, z_upd, z_ue, z_un, z_ixn, z_ixo, z_ix0, z_ix1, z_ix2, z_ix3, z_ix4, z_ix5, z_ix6, Int.reduceToNat, z_inr, z_gd, ↓z_bnd, ↓z_jn, z_bdc, z_bd2, z_opn, z_ops, z_z01, z_Bt, z_Bf, Int.toNat_natCast]
  · unfold f_X9_destination
    rw [z_Cpl h0 c4 ha, if_neg v, z_btl]
  · obtain ⟨n, rfl⟩ : ∃ n : Nat, a = n := ⟨a.toNat, by omega⟩
    have q := pi.2.1.2.2.2.2 n (by omega) 1 (by omega)
    have q2 := h1.2.1 (143 + 9 * n + 1) (by omega)
    rw [q] at q2
    unfold f_X10_destination f_X10_ofIt
    rw [z_l0, z_Qnp h1 ha, z_o0 (by omega)]
    simp (disch := omega) only [z_lit, z_n, z_add, z_sub, z_mul, z_neg, z_lt1, z_lt0, z_le1, z_le0, z_eq1, z_eq0, z_10, ↓reduceIte, z_v, z_upd, z_ue, z_un, z_ixn, z_ixo, z_ix0, z_ix1, z_ix2, z_ix3, z_ix4, z_ix5, z_ix6, Int.reduceToNat, z_inr, z_gd, ↓z_bnd, ↓z_jn, z_bdc, z_bd2, z_opn, z_ops, z_z01, z_Bt, z_Bf, z_ofP, z_thu, Nat.add_zero, q2, Int.toNat_natCast]
  · unfold f_X10_destination f_X10_ofIt
    rw [z_l0, z_Qnp h1 ha, z_o1 (by omega)]
    simp (disch := omega) only [z_lit, z_n, z_add, z_sub, z_mul, z_neg, z_lt1, z_lt0, z_le1, z_le0, z_eq1, z_eq0, z_10, ↓reduceIte, z_v, z_upd, z_ue, z_un, z_ixn, z_ixo, z_ix0, z_ix1, z_ix2, z_ix3, z_ix4, z_ix5, z_ix6, Int.reduceToNat, z_inr, z_gd, ↓z_bnd, ↓z_jn, z_bdc, z_bd2, z_opn, z_ops, z_z01, z_Bt, z_Bf]
theorem z_m_priority (h : z_Q b W s g) {a : Int} (ha : zR a) : z_AG (f_L_priority W (zI a)) (fun W1 => f_X10_priority W1 (zI a)) (z_EQ W) := by
  obtain ⟨h0, hg, pi⟩ := id h
  obtain ⟨c0, c1, c2, c3, c4⟩ := pi.1.1
  unfold f_L_priority
  refine z_get (v := s (143 + 9 * a.toNat + 2)) (0 ≤ a ∧ a < s 4) h ⟨fun v => ?_, fun v => ?_⟩ (fun W1 h1 => ⟨fun v => ?_, fun v => ?_⟩)
  · obtain ⟨n, rfl⟩ : ∃ n : Nat, a = n := ⟨a.toNat, by omega⟩
    unfold f_X9_priority
    rw [z_Cpl h0 c4 ha, if_pos v, z_btr, h0]
    simp (disch := omega) only [z_lit, z_n, z_add, z_sub, z_mul, z_neg, z_lt1, z_lt0, z_le1, z_le0, z_eq1, z_eq0, z_10, ↓reduceIte, z_v, z_upd, z_ue, z_un, z_ixn, z_ixo, z_ix0, z_ix1, z_ix2, z_ix3, z_ix4, z_ix5, z_ix6, Int.reduceToNat, z_inr, z_gd, ↓z_bnd, ↓z_jn, z_bdc, z_bd2, z_opn, z_ops, z_z01, z_Bt, z_Bf, Int.toNat_natCast]
  · unfold f_X9_priority
    rw [z_Cpl h0 c4 ha, if_neg v, z_btl]
  · obtain ⟨n, rfl⟩ : ∃ n : Nat, a = n := ⟨a.toNat, by omega⟩
    have q := pi.2.1.2.2.2.2 n (by omega) 2 (by omega)
    have q2 := h1.2.1 (143 + 9 * n + 2) (by omega)
    rw [q] at q2
    unfold f_X10_priority f_X10_ofIt
    rw [z_l0, z_Qnp h1 ha, z_o0 (by omega)]
    simp (disch := omega) only [z_lit, z_n, z_add, z_sub, z_mul, z_neg, z_lt1, z_lt0, z_le1, z_le0, z_eq1, z_eq0, z_10, ↓reduceIte, z_v, z_upd, z_ue, z_un, z_ixn, z_ixo, z_ix0, z_ix1, z_ix2, z_ix3, z_ix4, z_ix5, z_ix6, Int.reduceToNat, z_inr, z_gd, ↓z_bnd, ↓z_jn, z_bdc, z_bd2, z_opn, z_ops, z_z01, z_Bt, z_Bf, z_ofP, z_thu, Nat.add_zero, q2, Int.toNat_natCast]
  · unfold f_X10_priority f_X10_ofIt
    rw [z_l0, z_Qnp h1 ha, z_o1 (by omega)]
    simp (disch := omega) only [z_lit, z_n, z_add, z_sub, z_mul, z_neg, z_lt1, z_lt0, z_le1, z_le0, z_eq1, z_eq0, z_10, ↓reduceIte, z_v, z_upd, z_ue, z_un, z_ixn, z_ixo, z_ix0, z_ix1, z_ix2, z_ix3, z_ix4, z_ix5, z_ix6, Int.reduceToNat, z_inr, z_gd, ↓z_bnd, ↓z_jn, z_bdc, z_bd2, z_opn, z_ops, z_z01, z_Bt, z_Bf]
theorem z_m_parcelStation (h : z_Q b W s g) {a : Int} (ha : zR a) : z_AG (f_L_parcelStation W (zI a)) (fun W1 => f_X10_parcelStation W1 (zI a)) (z_EQ W) := by
  obtain ⟨h0, hg, pi⟩ := id h
  obtain ⟨c0, c1, c2, c3, c4⟩ := pi.1.1
  unfold f_L_parcelStation
  refine z_get (v := s (143 + 9 * a.toNat + 3)) (0 ≤ a ∧ a < s 4) h ⟨fun v => ?_, fun v => ?_⟩ (fun W1 h1 => ⟨fun v => ?_, fun v => ?_⟩)
  · obtain ⟨n, rfl⟩ : ∃ n : Nat, a = n := ⟨a.toNat, by omega⟩
    unfold f_X9_parcelStation
    rw [z_Cpl h0 c4 ha, if_pos v, z_btr, h0]
    simp (disch := omega) only [z_lit, z_n, z_add, z_sub, z_mul, z_neg, z_lt1, z_lt0, z_le1, z_le0, z_eq1, z_eq0, z_10, ↓reduceIte, z_v, z_upd, z_ue, z_un, z_ixn, z_ixo, z_ix0, z_ix1, z_ix2, z_ix3, z_ix4, z_ix5, z_ix6, Int.reduceToNat, z_inr, z_gd, ↓z_bnd, ↓z_jn, z_bdc, z_bd2, z_opn, z_ops, z_z01, z_Bt, z_Bf, Int.toNat_natCast]
  · unfold f_X9_parcelStation
    rw [z_Cpl h0 c4 ha, if_neg v, z_btl]
  · obtain ⟨n, rfl⟩ : ∃ n : Nat, a = n := ⟨a.toNat, by omega⟩
    have q := pi.2.1.2.2.2.2 n (by omega) 3 (by omega)
    have q2 := h1.2.1 (143 + 9 * n + 3) (by omega)
    rw [q] at q2
    unfold f_X10_parcelStation f_X10_ofIt
    rw [z_l0, z_Qnp h1 ha, z_o0 (by omega)]
    simp (disch := omega) only [z_lit, z_n, z_add, z_sub, z_mul, z_neg, z_lt1, z_lt0, z_le1, z_le0, z_eq1, z_eq0, z_10, ↓reduceIte, z_v, z_upd, z_ue, z_un, z_ixn, z_ixo, z_ix0, z_ix1, z_ix2, z_ix3, z_ix4, z_ix5, z_ix6, Int.reduceToNat, z_inr, z_gd, ↓z_bnd, ↓z_jn, z_bdc, z_bd2, z_opn, z_ops, z_z01, z_Bt, z_Bf, z_ofP, z_thu, Nat.add_zero, q2, Int.toNat_natCast]
  · unfold f_X10_parcelStation f_X10_ofIt
    rw [z_l0, z_Qnp h1 ha, z_o1 (by omega)]
    simp (disch := omega) only [z_lit, z_n, z_add, z_sub, z_mul, z_neg, z_lt1, z_lt0, z_le1, z_le0, z_eq1, z_eq0, z_10, ↓reduceIte, z_v, z_upd, z_ue, z_un, z_ixn, z_ixo, z_ix0, z_ix1, z_ix2, z_ix3, z_ix4, z_ix5, z_ix6, Int.reduceToNat, z_inr, z_gd, ↓z_bnd, ↓z_jn, z_bdc, z_bd2, z_opn, z_ops, z_z01, z_Bt, z_Bf]
theorem z_m_parcelTrain (h : z_Q b W s g) {a : Int} (ha : zR a) : z_AG (f_L_parcelTrain W (zI a)) (fun W1 => f_X10_parcelTrain W1 (zI a)) (z_EQ W) := by
  obtain ⟨h0, hg, pi⟩ := id h
  obtain ⟨c0, c1, c2, c3, c4⟩ := pi.1.1
  unfold f_L_parcelTrain
  refine z_get (v := s (143 + 9 * a.toNat + 4)) (0 ≤ a ∧ a < s 4) h ⟨fun v => ?_, fun v => ?_⟩ (fun W1 h1 => ⟨fun v => ?_, fun v => ?_⟩)
  · obtain ⟨n, rfl⟩ : ∃ n : Nat, a = n := ⟨a.toNat, by omega⟩
    unfold f_X9_parcelTrain
    rw [z_Cpl h0 c4 ha, if_pos v, z_btr, h0]
    simp (disch := omega) only [z_lit, z_n, z_add, z_sub, z_mul, z_neg, z_lt1, z_lt0, z_le1, z_le0, z_eq1, z_eq0, z_10, ↓reduceIte, z_v, z_upd, z_ue, z_un, z_ixn, z_ixo, z_ix0, z_ix1, z_ix2, z_ix3, z_ix4, z_ix5, z_ix6, Int.reduceToNat, z_inr, z_gd, ↓z_bnd, ↓z_jn, z_bdc, z_bd2, z_opn, z_ops, z_z01, z_Bt, z_Bf, Int.toNat_natCast]
  · unfold f_X9_parcelTrain
    rw [z_Cpl h0 c4 ha, if_neg v, z_btl]
  · obtain ⟨n, rfl⟩ : ∃ n : Nat, a = n := ⟨a.toNat, by omega⟩
    have q := pi.2.1.2.2.2.2 n (by omega) 4 (by omega)
    have q2 := h1.2.1 (143 + 9 * n + 4) (by omega)
    rw [q] at q2
    unfold f_X10_parcelTrain f_X10_ofIt
    rw [z_l0, z_Qnp h1 ha, z_o0 (by omega)]
    simp (disch := omega) only [z_lit, z_n, z_add, z_sub, z_mul, z_neg, z_lt1, z_lt0, z_le1, z_le0, z_eq1, z_eq0, z_10, ↓reduceIte, z_v, z_upd, z_ue, z_un, z_ixn, z_ixo, z_ix0, z_ix1, z_ix2, z_ix3, z_ix4, z_ix5, z_ix6, Int.reduceToNat, z_inr, z_gd, ↓z_bnd, ↓z_jn, z_bdc, z_bd2, z_opn, z_ops, z_z01, z_Bt, z_Bf, z_ofP, z_thu, Nat.add_zero, q2, Int.toNat_natCast]
  · unfold f_X10_parcelTrain f_X10_ofIt
    rw [z_l0, z_Qnp h1 ha, z_o1 (by omega)]
    simp (disch := omega) only [z_lit, z_n, z_add, z_sub, z_mul, z_neg, z_lt1, z_lt0, z_le1, z_le0, z_eq1, z_eq0, z_10, ↓reduceIte, z_v, z_upd, z_ue, z_un, z_ixn, z_ixo, z_ix0, z_ix1, z_ix2, z_ix3, z_ix4, z_ix5, z_ix6, Int.reduceToNat, z_inr, z_gd, ↓z_bnd, ↓z_jn, z_bdc, z_bd2, z_opn, z_ops, z_z01, z_Bt, z_Bf]
theorem z_m_dropStation (h : z_Q b W s g) {a : Int} (ha : zR a) : z_AG (f_L_dropStation W (zI a)) (fun W1 => f_X10_dropStation W1 (zI a)) (z_EQ W) := by
  obtain ⟨h0, hg, pi⟩ := id h
  obtain ⟨c0, c1, c2, c3, c4⟩ := pi.1.1
  unfold f_L_dropStation
  refine z_get (v := s (143 + 9 * a.toNat + 5)) (0 ≤ a ∧ a < s 4) h ⟨fun v => ?_, fun v => ?_⟩ (fun W1 h1 => ⟨fun v => ?_, fun v => ?_⟩)
  · obtain ⟨n, rfl⟩ : ∃ n : Nat, a = n := ⟨a.toNat, by omega⟩
    unfold f_X9_dropStation
    rw [z_Cpl h0 c4 ha, if_pos v, z_btr, h0]
    simp (disch := omega) only [z_lit, z_n, z_add, z_sub, z_mul, z_neg, z_lt1, z_lt0, z_le1, z_le0, z_eq1, z_eq0, z_10, ↓reduceIte, z_v, z_upd, z_ue, z_un, z_ixn, z_ixo, z_ix0, z_ix1, z_ix2, z_ix3, z_ix4, z_ix5, z_ix6, Int.reduceToNat, z_inr, z_gd, ↓z_bnd, ↓z_jn, z_bdc, z_bd2, z_opn, z_ops, z_z01, z_Bt, z_Bf, Int.toNat_natCast]
  · unfold f_X9_dropStation
    rw [z_Cpl h0 c4 ha, if_neg v, z_btl]
  · obtain ⟨n, rfl⟩ : ∃ n : Nat, a = n := ⟨a.toNat, by omega⟩
    have q := pi.2.1.2.2.2.2 n (by omega) 5 (by omega)
    have q2 := h1.2.1 (143 + 9 * n + 5) (by omega)
    rw [q] at q2
    unfold f_X10_dropStation f_X10_ofIt
    rw [z_l0, z_Qnp h1 ha, z_o0 (by omega)]
    simp (disch := omega) only [z_lit, z_n, z_add, z_sub, z_mul, z_neg, z_lt1, z_lt0, z_le1, z_le0, z_eq1, z_eq0, z_10, ↓reduceIte, z_v, z_upd, z_ue, z_un, z_ixn, z_ixo, z_ix0, z_ix1, z_ix2, z_ix3, z_ix4, z_ix5, z_ix6, Int.reduceToNat, z_inr, z_gd, ↓z_bnd, ↓z_jn, z_bdc, z_bd2, z_opn, z_ops, z_z01, z_Bt, z_Bf, z_ofP, z_thu, Nat.add_zero, q2, Int.toNat_natCast]
  · unfold f_X10_dropStation f_X10_ofIt
    rw [z_l0, z_Qnp h1 ha, z_o1 (by omega)]
    simp (disch := omega) only [z_lit, z_n, z_add, z_sub, z_mul, z_neg, z_lt1, z_lt0, z_le1, z_le0, z_eq1, z_eq0, z_10, ↓reduceIte, z_v, z_upd, z_ue, z_un, z_ixn, z_ixo, z_ix0, z_ix1, z_ix2, z_ix3, z_ix4, z_ix5, z_ix6, Int.reduceToNat, z_inr, z_gd, ↓z_bnd, ↓z_jn, z_bdc, z_bd2, z_opn, z_ops, z_z01, z_Bt, z_Bf]
theorem z_m_transfers (h : z_Q b W s g) {a : Int} (ha : zR a) : z_AG (f_L_transfers W (zI a)) (fun W1 => f_X10_transfers W1 (zI a)) (z_EQ W) := by
  obtain ⟨h0, hg, pi⟩ := id h
  obtain ⟨c0, c1, c2, c3, c4⟩ := pi.1.1
  unfold f_L_transfers
  refine z_get (v := s (143 + 9 * a.toNat + 6)) (0 ≤ a ∧ a < s 4) h ⟨fun v => ?_, fun v => ?_⟩ (fun W1 h1 => ⟨fun v => ?_, fun v => ?_⟩)
  · obtain ⟨n, rfl⟩ : ∃ n : Nat, a = n := ⟨a.toNat, by omega⟩
    unfold f_X9_transfers
    rw [z_Cpl h0 c4 ha, if_pos v, z_btr, h0]
    simp (disch := omega) only [z_lit, z_n, z_add, z_sub, z_mul, z_neg, z_lt1, z_lt0, z_le1, z_le0, z_eq1, z_eq0, z_10, ↓reduceIte, z_v, z_upd, z_ue, z_un, z_ixn, z_ixo, z_ix0, z_ix1, z_ix2, z_ix3, z_ix4, z_ix5, z_ix6, Int.reduceToNat, z_inr, z_gd, ↓z_bnd, ↓z_jn, z_bdc, z_bd2, z_opn, z_ops, z_z01, z_Bt, z_Bf, Int.toNat_natCast]
  · unfold f_X9_transfers
    rw [z_Cpl h0 c4 ha, if_neg v, z_btl]
  · obtain ⟨n, rfl⟩ : ∃ n : Nat, a = n := ⟨a.toNat, by omega⟩
    have q := pi.2.1.2.2.2.2 n (by omega) 6 (by omega)
    have q2 := h1.2.1 (143 + 9 * n + 6) (by omega)
    rw [q] at q2
    unfold f_X10_transfers f_X10_ofIt
    rw [z_l0, z_Qnp h1 ha, z_o0 (by omega)]
    simp (disch := omega) only [z_lit, z_n, z_add, z_sub, z_mul, z_neg, z_lt1, z_lt0, z_le1, z_le0, z_eq1, z_eq0, z_10, ↓reduceIte, z_v, z_upd, z_ue, z_un, z_ixn, z_ixo, z_ix0, z_ix1, z_ix2, z_ix3, z_ix4, z_ix5, z_ix6, Int.reduceToNat, z_inr, z_gd, ↓z_bnd, ↓z_jn, z_bdc, z_bd2, z_opn, z_ops, z_z01, z_Bt, z_Bf, z_ofP, z_thu, Nat.add_zero, q2, Int.toNat_natCast]
  · unfold f_X10_transfers f_X10_ofIt
    rw [z_l0, z_Qnp h1 ha, z_o1 (by omega)]
    simp (disch := omega) only [z_lit, z_n, z_add, z_sub, z_mul, z_neg, z_lt1, z_lt0, z_le1, z_le0, z_eq1, z_eq0, z_10, ↓reduceIte, z_v, z_upd, z_ue, z_un, z_ixn, z_ixo, z_ix0, z_ix1, z_ix2, z_ix3, z_ix4, z_ix5, z_ix6, Int.reduceToNat, z_inr, z_gd, ↓z_bnd, ↓z_jn, z_bdc, z_bd2, z_opn, z_ops, z_z01, z_Bt, z_Bf]
theorem z_m_deliveryClock (h : z_Q b W s g) {a : Int} (ha : zR a) : z_AG (f_L_deliveryClock W (zI a)) (fun W1 => f_X10_deliveryClock W1 (zI a)) (z_EQ W) := by
  obtain ⟨h0, hg, pi⟩ := id h
  obtain ⟨c0, c1, c2, c3, c4⟩ := pi.1.1
  unfold f_L_deliveryClock
  refine z_get (v := s (143 + 9 * a.toNat + 8)) (0 ≤ a ∧ a < s 4) h ⟨fun v => ?_, fun v => ?_⟩ (fun W1 h1 => ⟨fun v => ?_, fun v => ?_⟩)
  · obtain ⟨n, rfl⟩ : ∃ n : Nat, a = n := ⟨a.toNat, by omega⟩
    unfold f_X9_deliveryClock
    rw [z_Cpl h0 c4 ha, if_pos v, z_btr, h0]
    simp (disch := omega) only [z_lit, z_n, z_add, z_sub, z_mul, z_neg, z_lt1, z_lt0, z_le1, z_le0, z_eq1, z_eq0, z_10, ↓reduceIte, z_v, z_upd, z_ue, z_un, z_ixn, z_ixo, z_ix0, z_ix1, z_ix2, z_ix3, z_ix4, z_ix5, z_ix6, Int.reduceToNat, z_inr, z_gd, ↓z_bnd, ↓z_jn, z_bdc, z_bd2, z_opn, z_ops, z_z01, z_Bt, z_Bf, Int.toNat_natCast]
  · unfold f_X9_deliveryClock
    rw [z_Cpl h0 c4 ha, if_neg v, z_btl]
  · obtain ⟨n, rfl⟩ : ∃ n : Nat, a = n := ⟨a.toNat, by omega⟩
    have q := pi.2.1.2.2.2.2 n (by omega) 8 (by omega)
    have q2 := h1.2.1 (143 + 9 * n + 8) (by omega)
    rw [q] at q2
    unfold f_X10_deliveryClock f_X10_ofIt
    rw [z_l0, z_Qnp h1 ha, z_o0 (by omega)]
    simp (disch := omega) only [z_lit, z_n, z_add, z_sub, z_mul, z_neg, z_lt1, z_lt0, z_le1, z_le0, z_eq1, z_eq0, z_10, ↓reduceIte, z_v, z_upd, z_ue, z_un, z_ixn, z_ixo, z_ix0, z_ix1, z_ix2, z_ix3, z_ix4, z_ix5, z_ix6, Int.reduceToNat, z_inr, z_gd, ↓z_bnd, ↓z_jn, z_bdc, z_bd2, z_opn, z_ops, z_z01, z_Bt, z_Bf, z_ofP, z_thu, Nat.add_zero, q2, Int.toNat_natCast]
  · unfold f_X10_deliveryClock f_X10_ofIt
    rw [z_l0, z_Qnp h1 ha, z_o1 (by omega)]
    simp (disch := omega) only [z_lit, z_n, z_add, z_sub, z_mul, z_neg, z_lt1, z_lt0, z_le1, z_le0, z_eq1, z_eq0, z_10, ↓reduceIte, z_v, z_upd, z_ue, z_un, z_ixn, z_ixo, z_ix0, z_ix1, z_ix2, z_ix3, z_ix4, z_ix5, z_ix6, Int.reduceToNat, z_inr, z_gd, ↓z_bnd, ↓z_jn, z_bdc, z_bd2, z_opn, z_ops, z_z01, z_Bt, z_Bf]
end Get
