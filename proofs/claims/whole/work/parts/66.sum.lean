section Sum
variable {W W' : Nat → Nat → Int32} {b : Int} {s g : Nat → Int}
def z_nt (p : Nat → Bool) : Nat → Nat → Int → Option Nat
  | _, 0, _ => none
  | i, d + 1, m => if p i then (if m = 0 then some i else z_nt p (i + 1) d (m - 1)) else z_nt p (i + 1) d m
theorem z_nt_o {p : Nat → Bool} : ∀ d i m, ¬ (0 ≤ m ∧ m < z_ct p i d) → z_nt p i d m = none
  | 0, i, m, _ => rfl
  | d + 1, i, m, h => by
    have cb := z_ct_b (p := p) d (i + 1)
    unfold z_ct at h
    unfold z_nt
    by_cases c : p i = true
    · rw [if_pos c] at h ⊢
      rw [if_neg (by omega)]
      exact z_nt_o d (i + 1) (m - 1) (by omega)
    · rw [if_neg c] at h ⊢
      exact z_nt_o d (i + 1) m (by omega)
theorem z_nt_i {p : Nat → Bool} : ∀ d i m, (0 ≤ m ∧ m < z_ct p i d) → ∃ k, z_nt p i d m = some k ∧ i ≤ k ∧ k < i + d
  | 0, i, m, h => absurd h (by unfold z_ct; omega)
  | d + 1, i, m, h => by
    unfold z_ct at h
    unfold z_nt
    by_cases c : p i = true
    · rw [if_pos c] at h ⊢
      by_cases z : m = 0
      · exact ⟨i, if_pos z, by omega, by omega⟩
      · rw [if_neg z]
        obtain ⟨k, k1, k2, k3⟩ := z_nt_i (p := p) d (i + 1) (m - 1) (by omega)
        exact ⟨k, k1, by omega, by omega⟩
    · rw [if_neg c] at h ⊢
      obtain ⟨k, k1, k2, k3⟩ := z_nt_i (p := p) d (i + 1) m (by omega)
      exact ⟨k, k1, by omega, by omega⟩
theorem z_Cfc (h : z_inv b s) {t n : Int} (ht : zR t) (hn : zR n) : f_X4_findCarried (zV s) (zI t) (zI n) = some (zI (z_oi (z_nt (z_ca s t) 0 (s 4).toNat n))) := by
  obtain ⟨⟨h0, h1, h2, h3, h4⟩, -, -, -, -, hp, -⟩ := id h
  unfold zR at ht hn
  have key : ∀ (d N : Nat) (y : Int) (i : Nat), i + d = (s 4).toNat → d < N → 0 ≤ y → y + d ≤ 12 → l_X4_findCarried_5 (zV s) (zI t) (zI n) N (zI y) (zI i) = some (zI (z_oi (z_nt (z_ca s t) i d (n - y)))) := by
    intro d
    induction d with
    | zero =>
      intro N y i h1 h2 h3 h4
      obtain ⟨N, rfl⟩ : ∃ m, N = m + 1 := ⟨N - 1, by omega⟩
      rw [l_X4_findCarried_5]
      simp (disch := omega) only [z_lit, z_n, z_add, z_sub, z_mul, z_neg, z_lt1, z_lt0, z_le1, z_le0, z_eq1, z_eq0, z_10, ↓reduceIte, z_v, z_upd, z_ue, z_un, z_ixn, z_ixo, z_ix0, z_ix1, z_ix2, z_ix3, z_ix4, z_ix5, z_ix6, Int.reduceToNat, z_inr, z_gd, ↓z_bnd, ↓z_jn, z_bdc, z_bd2, z_opn, z_ops, z_z01, z_Bt, z_Bf]
      rfl
    | succ d ih =>
      intro N y i h1 h2 h3 h4
      obtain ⟨N, rfl⟩ : ∃ m, N = m + 1 := ⟨N - 1, by omega⟩
      obtain ⟨-, -, -, -, p4, -⟩ := hp i (by omega)
      rw [l_X4_findCarried_5]
      unfold z_nt
      by_cases c : s (143 + 9 * i + 4) = t
      · rw [show z_ca s t i = true from decide_eq_true c]
        by_cases e : y = n
        · simp (disch := omega) only [z_lit, z_n, z_add, z_sub, z_mul, z_neg, z_lt1, z_lt0, z_le1, z_le0, z_eq1, z_eq0, z_10, ↓reduceIte, z_v, z_upd, z_ue, z_un, z_ixn, z_ixo, z_ix0, z_ix1, z_ix2, z_ix3, z_ix4, z_ix5, z_ix6, Int.reduceToNat, z_inr, z_gd, ↓z_bnd, ↓z_jn, z_bdc, z_bd2, z_opn, z_ops, z_z01, z_Bt, z_Bf]
          rw [if_pos (by omega)]
          rfl
        · simp (disch := omega) only [z_lit, z_n, z_add, z_sub, z_mul, z_neg, z_lt1, z_lt0, z_le1, z_le0, z_eq1, z_eq0, z_10, ↓reduceIte, z_v, z_upd, z_ue, z_un, z_ixn, z_ixo, z_ix0, z_ix1, z_ix2, z_ix3, z_ix4, z_ix5, z_ix6, Int.reduceToNat, z_inr, z_gd, ↓z_bnd, ↓z_jn, z_bdc, z_bd2, z_opn, z_ops, z_z01, z_Bt, z_Bf]
          rw [if_neg (by omega), ← z_cs, ih N (y + 1) (i + 1) (by omega) (by omega) (by omega) (by omega), show n - (y + 1) = n - y - 1 by omega]
      · rw [show z_ca s t i = false from decide_eq_false c]
        simp (disch := omega) only [z_lit, z_n, z_add, z_sub, z_mul, z_neg, z_lt1, z_lt0, z_le1, z_le0, z_eq1, z_eq0, z_10, ↓reduceIte, z_v, z_upd, z_ue, z_un, z_ixn, z_ixo, z_ix0, z_ix1, z_ix2, z_ix3, z_ix4, z_ix5, z_ix6, Int.reduceToNat, z_inr, z_gd, ↓z_bnd, ↓z_jn, z_bdc, z_bd2, z_opn, z_ops, z_z01, z_Bt, z_Bf, Bool.false_eq_true]
        rw [← z_cs, ih N y (i + 1) (by omega) (by omega) (by omega) (by omega)]
  unfold f_X4_findCarried
  rw [z_l0]
  have e := key (s 4).toNat FU 0 0 (by omega) (by unfold FU; omega) (by omega) (by omega)
  rw [Int.sub_zero] at e
  exact e
theorem z_Gcp (h : z_inv b s) (hg : ∀ k, k < 251 → W 21 k = zI (g k)) (r : z_rel s g) {t : Int} (ht : zR t) : ∀ (d N : Nat) (m : Int) (i k : Nat), i + d = (s 4).toNat → d < N → m < 100 → 0 ≤ m → z_nt (z_ca s t) i d m = some k → l_X10_carriedParcel_34 W (zI t) N (zI m) (zI i) = some (zI k, W) := by
  obtain ⟨⟨h0, h1, h2, h3, h4⟩, -, -, -, -, hp, -⟩ := id h
  unfold zR at ht
  intro d
  induction d with
  | zero =>
    intro N m i k h1 h2 h3 h4 h5
    cases h5
  | succ d ih =>
    intro N m i k h1 h2 h3 h4 h5
    obtain ⟨N, rfl⟩ : ∃ m, N = m + 1 := ⟨N - 1, by omega⟩
    obtain ⟨-, -, -, -, p4, -⟩ := hp i (by omega)
    have q := hg (143 + 9 * i + 4) (by omega)
    rw [r.2.2.2.2 i (by omega) 4 (by omega)] at q
    unfold z_nt at h5
    rw [l_X10_carriedParcel_34]
    by_cases c : s (143 + 9 * i + 4) = t
    · rw [show z_ca s t i = true from decide_eq_true c, if_pos rfl] at h5
      by_cases e : m = 0
      · rw [if_pos e] at h5
        obtain rfl := Option.some.inj h5
        simp (disch := omega) only [z_lit, z_n, z_add, z_sub, z_mul, z_neg, z_lt1, z_lt0, z_le1, z_le0, z_eq1, z_eq0, z_10, ↓reduceIte, z_v, z_upd, z_ue, z_un, z_ixn, z_ixo, z_ix0, z_ix1, z_ix2, z_ix3, z_ix4, z_ix5, z_ix6, Int.reduceToNat, z_inr, z_gd, ↓z_bnd, ↓z_jn, z_bdc, z_bd2, z_opn, z_ops, z_z01, z_Bt, z_Bf, z_ofP, q]
      · rw [if_neg e] at h5
        simp (disch := omega) only [z_lit, z_n, z_add, z_sub, z_mul, z_neg, z_lt1, z_lt0, z_le1, z_le0, z_eq1, z_eq0, z_10, ↓reduceIte, z_v, z_upd, z_ue, z_un, z_ixn, z_ixo, z_ix0, z_ix1, z_ix2, z_ix3, z_ix4, z_ix5, z_ix6, Int.reduceToNat, z_inr, z_gd, ↓z_bnd, ↓z_jn, z_bdc, z_bd2, z_opn, z_ops, z_z01, z_Bt, z_Bf, z_ofP, q]
        rw [← z_cs]
        exact ih N (m - 1) (i + 1) k (by omega) (by omega) (by omega) (by omega) h5
    · rw [show z_ca s t i = false from decide_eq_false c] at h5
      simp only [if_false, Bool.false_eq_true] at h5
      simp (disch := omega) only [z_lit, z_n, z_add, z_sub, z_mul, z_neg, z_lt1, z_lt0, z_le1, z_le0, z_eq1, z_eq0, z_10, ↓reduceIte, z_v, z_upd, z_ue, z_un, z_ixn, z_ixo, z_ix0, z_ix1, z_ix2, z_ix3, z_ix4, z_ix5, z_ix6, Int.reduceToNat, z_inr, z_gd, ↓z_bnd, ↓z_jn, z_bdc, z_bd2, z_opn, z_ops, z_z01, z_Bt, z_Bf, z_ofP, q, Int.sub_zero]
      rw [← z_cs]
      exact ih N m (i + 1) k (by omega) (by omega) (by omega) (by omega) h5
theorem z_m_carriedParcel (h : z_Q b W s g) {a n : Int} (ha : zR a) (hn : zR n) : z_AG (f_L_carriedParcel W (zI a) (zI n)) (fun W1 => f_X10_carriedParcel W1 (zI a) (zI n)) (z_EQ W) := by
  obtain ⟨h0, hg, pi⟩ := id h
  obtain ⟨c0, c1, c2, c3, c4⟩ := pi.1.1
  have cb := z_ct_b (p := z_ca s a) (s 4).toNat 0
  unfold f_L_carriedParcel
  refine z_get2 (v := z_oi (z_nt (z_ca s a) 0 (s 4).toNat n)) (E2 := "java/util/NoSuchElementException") (by decide) (0 ≤ a ∧ a < s 3) (0 ≤ n ∧ n < z_ct (z_ca s a) 0 (s 4).toNat) h ⟨fun v w => ?_, fun v w => ?_, fun v => ?_⟩ (fun W1 h1 => ⟨fun v w => ?_, fun v w => ?_, fun v => ?_⟩)
  · obtain ⟨k, hk, k1, k2⟩ := z_nt_i _ _ _ w
    unfold f_X9_carriedParcel
    rw [z_Ctn h0 c3 ha, if_pos v, z_btr, h0, z_Cfc pi.1 ha hn, z_bdc, hk]
    unfold z_oi
    simp (disch := omega) only [z_lit, z_n, z_add, z_sub, z_mul, z_neg, z_lt1, z_lt0, z_le1, z_le0, z_eq1, z_eq0, z_10, ↓reduceIte, z_v, z_upd, z_ue, z_un, z_ixn, z_ixo, z_ix0, z_ix1, z_ix2, z_ix3, z_ix4, z_ix5, z_ix6, Int.reduceToNat, z_inr, z_gd, ↓z_bnd, ↓z_jn, z_bdc, z_bd2, z_opn, z_ops, z_z01, z_Bt, z_Bf]
  · unfold f_X9_carriedParcel
    rw [z_Ctn h0 c3 ha, if_pos v, z_btr, h0, z_Cfc pi.1 ha hn, z_bdc, z_nt_o _ _ _ w]
    rfl
  · unfold f_X9_carriedParcel
    rw [z_Ctn h0 c3 ha, if_neg v, z_btl]
  · obtain ⟨g', e1, e2, e3⟩ := z_Q_pk (z_Q_th (c := 0) h1)
    obtain ⟨k, hk, k1, k2⟩ := z_nt_i _ _ _ w
    unfold f_X10_carriedParcel
    rw [z_l0, z_Qnt h1 ha, z_o0 (by omega), z_bd2, if_pos rfl, e1, z_Gca pi.1 e3 ha, z_bdc, z_l1, z_sub, z_Go0 hn (by unfold zR; omega) (by unfold zR; omega) z_the (by omega), z_bd2, if_pos rfl, hk]
    exact z_Gcp pi.1 (z_Q_th (c := 0) h1).2.1 pi.2.1 ha (s 4).toNat FU n 0 k (by omega) (by unfold FU; omega) (by omega) (by omega) hk
  · obtain ⟨g', e1, e2, e3⟩ := z_Q_pk (z_Q_th (c := 0) h1)
    unfold f_X10_carriedParcel
    rw [z_l0, z_Qnt h1 ha, z_o0 (by omega), z_bd2, if_pos rfl, e1, z_Gca pi.1 e3 ha, z_bdc, z_l1, z_sub, z_Go1 hn (by unfold zR; omega) (by unfold zR; omega) z_the (by omega), z_thth]
    simp (disch := omega) only [z_lit, z_n, z_add, z_sub, z_mul, z_neg, z_lt1, z_lt0, z_le1, z_le0, z_eq1, z_eq0, z_10, ↓reduceIte, z_v, z_upd, z_ue, z_un, z_ixn, z_ixo, z_ix0, z_ix1, z_ix2, z_ix3, z_ix4, z_ix5, z_ix6, Int.reduceToNat, z_inr, z_gd, ↓z_bnd, ↓z_jn, z_bdc, z_bd2, z_opn, z_ops, z_z01, z_Bt, z_Bf]
  · unfold f_X10_carriedParcel
    rw [z_l0, z_Qnt h1 ha, z_o1 (by omega)]
    simp (disch := omega) only [z_lit, z_n, z_add, z_sub, z_mul, z_neg, z_lt1, z_lt0, z_le1, z_le0, z_eq1, z_eq0, z_10, ↓reduceIte, z_v, z_upd, z_ue, z_un, z_ixn, z_ixo, z_ix0, z_ix1, z_ix2, z_ix3, z_ix4, z_ix5, z_ix6, Int.reduceToNat, z_inr, z_gd, ↓z_bnd, ↓z_jn, z_bdc, z_bd2, z_opn, z_ops, z_z01, z_Bt, z_Bf]
/-- a query whose reference leaves far changed -/
theorem z_getf {X : Option (String ⊕ Int32)} {M : (Nat → Nat → Int32) → Option (Int32 × (Nat → Nat → Int32))} {v : Int} (V : Prop) (h : z_Q b W s g)
    (hc : (V → X = some (.inr (zI v))) ∧ (¬ V → X = some (.inl "java/lang/IndexOutOfBoundsException")))
    (hr : ∀ W1, z_Q b W1 s g → (V → ∃ W3, M W1 = some (zI v, W3) ∧ z_EQ W1 W3 ∧ W3 30 2 = zI 0 ∧ W3 31 = W1 31) ∧ (¬ V → M W1 = some (zI 0, z_th W1 1))) :
    z_AG (bdt X (fun e => if e = "java/lang/IndexOutOfBoundsException" then some ((1 : Int32), W) else none) (fun v1 => bnd (w2 W 31 0 v1) (fun W2 => some ((0 : Int32), W2)))) M (z_EQ W) := by
  by_cases hV : V
  · obtain ⟨W3, r1, r2, r3, r4⟩ := (hr _ (z_Q_31 (v := zI v) h)).1 hV
    refine ⟨0, zI v, w2 W 31 0 (zI v), W3, ?_, r1, r3, by omega, by omega, fun _ => ?_, z_EQ_t z_EQ_31 r2⟩
    · rw [hc.1 hV, z_btr, z_bnd, z_l0]
    · rw [r4, z_w2e]
  · refine ⟨1, zI 0, W, z_th W 1, ?_, (hr _ h).2 hV, z_the, by omega, by omega, fun q => absurd q (by omega), z_EQ_th⟩
    rw [hc.2 hV, z_btl, if_pos rfl, z_l1]
theorem z_m_distance (h : z_Q b W s g) {a c : Int} (ha : zR a) (hc : zR c) : z_AG (f_L_distance W (zI a) (zI c)) (fun W1 => f_X10_distance W1 (zI a) (zI c)) (z_EQ W) := by
  obtain ⟨h0, hg, pi⟩ := id h
  obtain ⟨c0, c1, c2, c3, c4⟩ := pi.1.1
  unfold f_L_distance
  refine z_getf (v := if z_d s a c = 1000 then -1 else z_d s a c) ((0 ≤ a ∧ a < s 1) ∧ (0 ≤ c ∧ c < s 1)) h ⟨fun v => ?_, fun v => ?_⟩ (fun W1 h1 => ⟨fun v => ?_, fun v => ?_⟩)
  · have db := z_db pi.1 (x := a) (y := c)
    unfold f_X9_distance
    rw [z_Cst h0 c1 ha, z_Cst h0 c1 hc, if_pos v.1, z_btr, if_pos v.2, z_btr, h0, z_Cdi (by omega) (by omega), z_bdc]
    by_cases e : z_d s a c = 1000
    · rw [e]
      rfl
    · have e2 : (if z_d s a c = 1000 then -1 else z_d s a c) = z_d s a c := if_neg e
      rw [e2]
      simp (disch := omega) only [z_lit, z_n, z_add, z_sub, z_mul, z_neg, z_lt1, z_lt0, z_le1, z_le0, z_eq1, z_eq0, z_10, ↓reduceIte, z_v, z_upd, z_ue, z_un, z_ixn, z_ixo, z_ix0, z_ix1, z_ix2, z_ix3, z_ix4, z_ix5, z_ix6, Int.reduceToNat, z_inr, z_gd, ↓z_bnd, ↓z_jn, z_bdc, z_bd2, z_opn, z_ops, z_z01, z_Bt, z_Bf]
  · unfold f_X9_distance
    rw [z_Cst h0 c1 ha, z_Cst h0 c1 hc]
    by_cases w : 0 ≤ a ∧ a < s 1
    · rw [if_pos w, z_btr, if_neg (fun q => v ⟨w, q⟩), z_btl]
    · rw [if_neg w, z_btl]
  · obtain ⟨g', e1, e2, e3⟩ := z_Q_pk (z_Q_th (c := 0) h1)
    obtain ⟨n, rfl⟩ : ∃ n : Nat, a = n := ⟨a.toNat, by omega⟩
    obtain ⟨m, rfl⟩ : ∃ n : Nat, c = n := ⟨c.toNat, by omega⟩
    obtain ⟨v2, m1, m2, m3⟩ := z_Gme pi.1 e3 (z_PI_5 pi) (y := n) (by omega)
    have db := z_db pi.1 (x := (n : Int)) (y := (m : Int))
    have hv := m3 m (by omega)
    have hd : zT s n m = z_d s n m := rfl
    rw [hd] at hv
    have eq : z_EQ W1 (setQ (z_th W1 0) 21 (zV v2)) := z_EQ_t z_EQ_th (z_EQ_q21 (fun k hk => by
      rw [z_thu (by omega), z_v, m2 k hk, e2 k hk, h1.2.1 k hk]))
    refine ⟨setQ (z_th W1 0) 21 (zV v2), ?_, eq, by rw [z_sQx (by omega) (by omega)]; exact z_the, by rw [z_sQx (by omega) (by omega), z_thu (by omega)]⟩
    unfold f_X10_distance
    rw [z_l0, z_Qnss h1 ha hc, if_pos v, z_bd2, if_pos rfl, e1, m1, z_bdc, z_bnd, z_sQ7]
    unfold z_en at hv
    by_cases e : z_d s n m = 1000
    · rw [if_pos e] at hv ⊢
      simp (disch := omega) only [z_lit, z_n, z_add, z_sub, z_mul, z_neg, z_lt1, z_lt0, z_le1, z_le0, z_eq1, z_eq0, z_10, ↓reduceIte, z_v, z_upd, z_ue, z_un, z_ixn, z_ixo, z_ix0, z_ix1, z_ix2, z_ix3, z_ix4, z_ix5, z_ix6, Int.reduceToNat, z_inr, z_gd, ↓z_bnd, ↓z_jn, z_bdc, z_bd2, z_opn, z_ops, z_z01, z_Bt, z_Bf, hv]
    · rw [if_neg e] at hv
      have e2 : (if z_d s n m = 1000 then -1 else z_d s n m) = z_d s n m := if_neg e
      rw [e2]
      simp (disch := omega) only [z_lit, z_n, z_add, z_sub, z_mul, z_neg, z_lt1, z_lt0, z_le1, z_le0, z_eq1, z_eq0, z_10, ↓reduceIte, z_v, z_upd, z_ue, z_un, z_ixn, z_ixo, z_ix0, z_ix1, z_ix2, z_ix3, z_ix4, z_ix5, z_ix6, Int.reduceToNat, z_inr, z_gd, ↓z_bnd, ↓z_jn, z_bdc, z_bd2, z_opn, z_ops, z_z01, z_Bt, z_Bf, hv]
  · unfold f_X10_distance
    rw [z_l0, z_Qnss h1 ha hc, if_neg v]
    simp (disch := omega) only [z_lit, z_n, z_add, z_sub, z_mul, z_neg, z_lt1, z_lt0, z_le1, z_le0, z_eq1, z_eq0, z_10, ↓reduceIte, z_v, z_upd, z_ue, z_un, z_ixn, z_ixo, z_ix0, z_ix1, z_ix2, z_ix3, z_ix4, z_ix5, z_ix6, Int.reduceToNat, z_inr, z_gd, ↓z_bnd, ↓z_jn, z_bdc, z_bd2, z_opn, z_ops, z_z01, z_Bt, z_Bf]
/-! loadingObstacle -/
theorem z_Cfo (hB : b ≤ 1000000000) (h : z_inv b s) {t i : Nat} (ht : (t : Int) < s 3) (hi : (i : Int) < s 4) : ∃ v, f_X4_findObstacle (zV s) t i = some (zI v) ∧ v = (if s (87 + 14 * t + 10) = 0 ∧ s (143 + 9 * i + 3) = z_cu s t then (if z_he s i then 2 else if z_dp s t (s (143 + 9 * i + 1)) = -1 then 3 else if z_ct (z_ca s t) 0 (s 4).toNat + z_ct (fun k => z_cl s t k && z_bf s k i) 0 (s 4).toNat < s (87 + 14 * t) then 0 else 4) else 1) := by
  obtain ⟨⟨h0, h1, h2, h3, h4⟩, -, -, -, htn, hp, -⟩ := id h
  obtain ⟨a0, -, -, -, -, -, a6⟩ := htn t ht
  obtain ⟨p0, p1, p2, p3, -⟩ := hp i hi
  have cu := z_cub h ht
  have cb := z_ct_b (p := z_ca s t) (s 4).toNat 0
  have cb2 := z_ct_b (p := fun k => z_cl s t k && z_bf s k i) (s 4).toNat 0
  have hD := z_Cdp h ht (y := s (143 + 9 * i + 1)) (by omega)
  have hdb := z_dpb h ht (y := s (143 + 9 * i + 1))
  have hH := z_Che h hB hi
  refine ⟨_, ?_, rfl⟩
  unfold f_X4_findObstacle f_X8_standsAt f_X8_isStanding
  by_cases c : s (87 + 14 * t + 10) = 0
  · by_cases d : s (143 + 9 * i + 3) = z_cu s t
    · have e0 : (if s (87 + 14 * t + 10) = 0 ∧ s (143 + 9 * i + 3) = z_cu s t then (if z_he s i then (2 : Int) else if z_dp s t (s (143 + 9 * i + 1)) = -1 then 3 else if z_ct (z_ca s t) 0 (s 4).toNat + z_ct (fun k => z_cl s t k && z_bf s k i) 0 (s 4).toNat < s (87 + 14 * t) then 0 else 4) else 1) = (if z_he s i then (2 : Int) else if z_dp s t (s (143 + 9 * i + 1)) = -1 then 3 else if z_ct (z_ca s t) 0 (s 4).toNat + z_ct (fun k => z_cl s t k && z_bf s k i) 0 (s 4).toNat < s (87 + 14 * t) then 0 else 4) := if_pos ⟨c, d⟩
      rw [e0]
      by_cases e : z_he s i = true
      · rw [decide_eq_true (p := s (143 + 9 * i + 3) ≠ -1 ∧ z_he s i = true) ⟨by omega, e⟩] at hH
        rw [e, if_pos rfl]
        simp (disch := omega) only [z_lit, z_n, z_add, z_sub, z_mul, z_neg, z_lt1, z_lt0, z_le1, z_le0, z_eq1, z_eq0, z_10, ↓reduceIte, z_v, z_upd, z_ue, z_un, z_ixn, z_ixo, z_ix0, z_ix1, z_ix2, z_ix3, z_ix4, z_ix5, z_ix6, Int.reduceToNat, z_inr, z_gd, ↓z_bnd, ↓z_jn, z_bdc, z_bd2, z_opn, z_ops, z_z01, z_Bt, z_Bf, c, z_Ccu h ht, d, hH]
      · rw [decide_eq_false (p := s (143 + 9 * i + 3) ≠ -1 ∧ z_he s i = true) (fun q => e q.2)] at hH
        have e1 : (if z_he s i then (2 : Int) else if z_dp s t (s (143 + 9 * i + 1)) = -1 then 3 else if z_ct (z_ca s t) 0 (s 4).toNat + z_ct (fun k => z_cl s t k && z_bf s k i) 0 (s 4).toNat < s (87 + 14 * t) then 0 else 4) = (if z_dp s t (s (143 + 9 * i + 1)) = -1 then 3 else if z_ct (z_ca s t) 0 (s 4).toNat + z_ct (fun k => z_cl s t k && z_bf s k i) 0 (s 4).toNat < s (87 + 14 * t) then 0 else 4) := if_neg e
        rw [e1]
        by_cases f : z_dp s t (s (143 + 9 * i + 1)) = -1
        · rw [if_pos f]
          rw [f] at hD
          simp (disch := omega) only [z_lit, z_n, z_add, z_sub, z_mul, z_neg, z_lt1, z_lt0, z_le1, z_le0, z_eq1, z_eq0, z_10, ↓reduceIte, z_v, z_upd, z_ue, z_un, z_ixn, z_ixo, z_ix0, z_ix1, z_ix2, z_ix3, z_ix4, z_ix5, z_ix6, Int.reduceToNat, z_inr, z_gd, ↓z_bnd, ↓z_jn, z_bdc, z_bd2, z_opn, z_ops, z_z01, z_Bt, z_Bf, c, z_Ccu h ht, d, hH, hD]
        · rw [if_neg f]
          simp (disch := omega) only [z_lit, z_n, z_add, z_sub, z_mul, z_neg, z_lt1, z_lt0, z_le1, z_le0, z_eq1, z_eq0, z_10, ↓reduceIte, z_v, z_upd, z_ue, z_un, z_ixn, z_ixo, z_ix0, z_ix1, z_ix2, z_ix3, z_ix4, z_ix5, z_ix6, Int.reduceToNat, z_inr, z_gd, ↓z_bnd, ↓z_jn, z_bdc, z_bd2, z_opn, z_ops, z_z01, z_Bt, z_Bf, c, z_Ccu h ht, d, hH, hD, z_Cca h (show zR (t : Int) by unfold zR; omega)]
          have l := z_cnt (l := fun N x y => l_X4_findObstacle_61 (zV s) t i (zI (z_cu s t)) N x y) (K := fun y => if zI (s (87 + 14 * t)) ≤ zI y then some (zI 4) else some (zI 0)) (n := (s 4).toNat) (p := fun k => z_cl s t k && z_bf s k i) (fun N y j hj => ?_) (fun N y => ?_) (s 4).toNat 0 FU (z_ct (z_ca s t) 0 (s 4).toNat) (by omega) (by unfold FU; omega)
          · refine l.trans ?_
            by_cases q : z_ct (z_ca s t) 0 (s 4).toNat + z_ct (fun k => z_cl s t k && z_bf s k i) 0 (s 4).toNat < s (87 + 14 * t)
            · rw [z_leF q (by omega) (by omega), if_pos q]
            · rw [z_leT (by omega) (by omega) (by omega), if_neg q]
          · have hj2 : (j : Int) < s 4 := by omega
            obtain ⟨-, j1, -⟩ := hp j hj2
            have jD := z_Cdp h ht (y := s (143 + 9 * j + 1)) (by omega)
            have jb := z_dpb h ht (y := s (143 + 9 * j + 1))
            show l_X4_findObstacle_61 (zV s) t i (zI (z_cu s t)) (N + 1) (zI y) (zI j) = l_X4_findObstacle_61 (zV s) t i (zI (z_cu s t)) N _ _
            rw [l_X4_findObstacle_61]
            simp (disch := omega) only [z_lit, z_n, z_add, z_sub, z_mul, z_neg, z_lt1, z_lt0, z_le1, z_le0, z_eq1, z_eq0, z_10, ↓reduceIte, z_v, z_upd, z_ue, z_un, z_ixn, z_ixo, z_ix0, z_ix1, z_ix2, z_ix3, z_ix4, z_ix5, z_ix6, Int.reduceToNat, z_inr, z_gd, ↓z_bnd, ↓z_jn, z_bdc, z_bd2, z_opn, z_ops, z_z01, z_Bt, z_Bf, z_Crd h hB hj2 (x := z_cu s t) (by omega) (by omega), z_Cbf h hj2 hi, jD]
            unfold z_cl
            cases (z_wt s (z_cu s t) j && !z_he s j) with
            | false => simp (disch := omega) only [z_lit, z_n, z_add, z_sub, z_mul, z_neg, z_lt1, z_lt0, z_le1, z_le0, z_eq1, z_eq0, z_10, ↓reduceIte, z_v, z_upd, z_ue, z_un, z_ixn, z_ixo, z_ix0, z_ix1, z_ix2, z_ix3, z_ix4, z_ix5, z_ix6, Int.reduceToNat, z_inr, z_gd, ↓z_bnd, ↓z_jn, z_bdc, z_bd2, z_opn, z_ops, z_z01, z_Bt, z_Bf, Bool.false_and, Bool.false_eq_true, Int.add_zero]
            | true =>
              cases z_bf s j i with
              | false => simp (disch := omega) only [z_lit, z_n, z_add, z_sub, z_mul, z_neg, z_lt1, z_lt0, z_le1, z_le0, z_eq1, z_eq0, z_10, ↓reduceIte, z_v, z_upd, z_ue, z_un, z_ixn, z_ixo, z_ix0, z_ix1, z_ix2, z_ix3, z_ix4, z_ix5, z_ix6, Int.reduceToNat, z_inr, z_gd, ↓z_bnd, ↓z_jn, z_bdc, z_bd2, z_opn, z_ops, z_z01, z_Bt, z_Bf, Bool.and_false, Bool.false_eq_true, Int.add_zero]
              | true =>
                by_cases q : z_dp s t (s (143 + 9 * j + 1)) = -1
                · rw [decide_eq_false (fun z => z q)]
                  simp (disch := omega) only [z_lit, z_n, z_add, z_sub, z_mul, z_neg, z_lt1, z_lt0, z_le1, z_le0, z_eq1, z_eq0, z_10, ↓reduceIte, z_v, z_upd, z_ue, z_un, z_ixn, z_ixo, z_ix0, z_ix1, z_ix2, z_ix3, z_ix4, z_ix5, z_ix6, Int.reduceToNat, z_inr, z_gd, ↓z_bnd, ↓z_jn, z_bdc, z_bd2, z_opn, z_ops, z_z01, z_Bt, z_Bf, Bool.and_false, Bool.false_and, Bool.false_eq_true, Int.add_zero]
                · rw [decide_eq_true q]
                  simp (disch := omega) only [z_lit, z_n, z_add, z_sub, z_mul, z_neg, z_lt1, z_lt0, z_le1, z_le0, z_eq1, z_eq0, z_10, ↓reduceIte, z_v, z_upd, z_ue, z_un, z_ixn, z_ixo, z_ix0, z_ix1, z_ix2, z_ix3, z_ix4, z_ix5, z_ix6, Int.reduceToNat, z_inr, z_gd, ↓z_bnd, ↓z_jn, z_bdc, z_bd2, z_opn, z_ops, z_z01, z_Bt, z_Bf, Bool.true_and]
          · show l_X4_findObstacle_61 (zV s) t i (zI (z_cu s t)) (N + 1) (zI y) (zI ((s 4).toNat : Int)) = _
            rw [l_X4_findObstacle_61]
            simp (disch := omega) only [z_lit, z_n, z_add, z_sub, z_mul, z_neg, z_lt1, z_lt0, z_le1, z_le0, z_eq1, z_eq0, z_10, ↓reduceIte, z_v, z_upd, z_ue, z_un, z_ixn, z_ixo, z_ix0, z_ix1, z_ix2, z_ix3, z_ix4, z_ix5, z_ix6, Int.reduceToNat, z_inr, z_gd, ↓z_bnd, ↓z_jn, z_bdc, z_bd2, z_opn, z_ops, z_z01, z_Bt, z_Bf]
    · have e0 : (if s (87 + 14 * t + 10) = 0 ∧ s (143 + 9 * i + 3) = z_cu s t then (if z_he s i then (2 : Int) else if z_dp s t (s (143 + 9 * i + 1)) = -1 then 3 else if z_ct (z_ca s t) 0 (s 4).toNat + z_ct (fun k => z_cl s t k && z_bf s k i) 0 (s 4).toNat < s (87 + 14 * t) then 0 else 4) else 1) = 1 := if_neg (fun q => d q.2)
      rw [e0]
      simp (disch := omega) only [z_lit, z_n, z_add, z_sub, z_mul, z_neg, z_lt1, z_lt0, z_le1, z_le0, z_eq1, z_eq0, z_10, ↓reduceIte, z_v, z_upd, z_ue, z_un, z_ixn, z_ixo, z_ix0, z_ix1, z_ix2, z_ix3, z_ix4, z_ix5, z_ix6, Int.reduceToNat, z_inr, z_gd, ↓z_bnd, ↓z_jn, z_bdc, z_bd2, z_opn, z_ops, z_z01, z_Bt, z_Bf, c, z_Ccu h ht]
  · have e0 : (if s (87 + 14 * t + 10) = 0 ∧ s (143 + 9 * i + 3) = z_cu s t then (if z_he s i then (2 : Int) else if z_dp s t (s (143 + 9 * i + 1)) = -1 then 3 else if z_ct (z_ca s t) 0 (s 4).toNat + z_ct (fun k => z_cl s t k && z_bf s k i) 0 (s 4).toNat < s (87 + 14 * t) then 0 else 4) else 1) = 1 := if_neg (fun q => c q.1)
    rw [e0]
    simp (disch := omega) only [z_lit, z_n, z_add, z_sub, z_mul, z_neg, z_lt1, z_lt0, z_le1, z_le0, z_eq1, z_eq0, z_10, ↓reduceIte, z_v, z_upd, z_ue, z_un, z_ixn, z_ixo, z_ix0, z_ix1, z_ix2, z_ix3, z_ix4, z_ix5, z_ix6, Int.reduceToNat, z_inr, z_gd, ↓z_bnd, ↓z_jn, z_bdc, z_bd2, z_opn, z_ops, z_z01, z_Bt, z_Bf]
theorem z_Glo (hB : b ≤ 1000000000) (h : z_inv b s) {t i : Nat} (ht : (t : Int) < s 3) (hi : (i : Int) < s 4) {X : Int} (hX : z_cu s t = X) (hg : ∀ k, k < 251 → W 21 k = zI (g k)) (r : z_rel s g) : ∀ (d N : Nat) (W : Nat → Nat → Int32) (y : Int) (j : Nat), (∀ k, k < 251 → W 21 k = zI (g k)) → j + d = (s 4).toNat → d < N → 0 ≤ y → y + d < 100 → ∃ W3, l_X10_loadingObstacle_94 (zI t) (zI i) (zI X) N W (zI y) (zI j) = some (zI (if y + z_ct (fun k => z_cl s t k && z_bf s k i) j d < s (87 + 14 * t) then 0 else 4), W3) ∧ z_EQ W W3 ∧ W3 30 2 = W 30 2 ∧ W3 31 = W 31 := by
  obtain ⟨⟨h0, h1, h2, h3, h4⟩, -, -, -, htn, hp, -⟩ := id h
  obtain ⟨a0, -⟩ := htn t ht
  have cu := z_cub h ht
  rw [hX] at cu
  have g4 := r.1 4 (by omega)
  have g0 := (r.2.2.2.1 t ht).1
  intro d
  induction d with
  | zero =>
    intro N W y j hW hj hN hy hy2
    obtain ⟨N, rfl⟩ : ∃ m, N = m + 1 := ⟨N - 1, by omega⟩
    have w4 := hW 4 (by omega)
    have w0 := hW (87 + 14 * t) (by omega)
    rw [g4] at w4
    rw [g0] at w0
    refine ⟨W, ?_, z_EQ_r, rfl, rfl⟩
    rw [l_X10_loadingObstacle_94]
    simp (disch := omega) only [z_lit, z_n, z_add, z_sub, z_mul, z_neg, z_lt1, z_lt0, z_le1, z_le0, z_eq1, z_eq0, z_10, ↓reduceIte, z_v, z_upd, z_ue, z_un, z_ixn, z_ixo, z_ix0, z_ix1, z_ix2, z_ix3, z_ix4, z_ix5, z_ix6, Int.reduceToNat, z_inr, z_gd, ↓z_bnd, ↓z_jn, z_bdc, z_bd2, z_opn, z_ops, z_z01, z_Bt, z_Bf, w4, z_ofT, Nat.add_zero, w0]
    rw [show z_ct (fun k => z_cl s t k && z_bf s k i) j 0 = 0 from rfl, Int.add_zero]
    by_cases q : y < s (87 + 14 * t)
    · rw [if_pos q]
      simp (disch := omega) only [z_lit, z_n, z_add, z_sub, z_mul, z_neg, z_lt1, z_lt0, z_le1, z_le0, z_eq1, z_eq0, z_10, ↓reduceIte, z_v, z_upd, z_ue, z_un, z_ixn, z_ixo, z_ix0, z_ix1, z_ix2, z_ix3, z_ix4, z_ix5, z_ix6, Int.reduceToNat, z_inr, z_gd, ↓z_bnd, ↓z_jn, z_bdc, z_bd2, z_opn, z_ops, z_z01, z_Bt, z_Bf]
    · rw [if_neg q]
      simp (disch := omega) only [z_lit, z_n, z_add, z_sub, z_mul, z_neg, z_lt1, z_lt0, z_le1, z_le0, z_eq1, z_eq0, z_10, ↓reduceIte, z_v, z_upd, z_ue, z_un, z_ixn, z_ixo, z_ix0, z_ix1, z_ix2, z_ix3, z_ix4, z_ix5, z_ix6, Int.reduceToNat, z_inr, z_gd, ↓z_bnd, ↓z_jn, z_bdc, z_bd2, z_opn, z_ops, z_z01, z_Bt, z_Bf]
  | succ d ih =>
    intro N W y j hW hj hN hy hy2
    obtain ⟨N, rfl⟩ : ∃ m, N = m + 1 := ⟨N - 1, by omega⟩
    have hj2 : (j : Int) < s 4 := by omega
    have w4 := hW 4 (by omega)
    rw [g4] at w4
    obtain ⟨g', e1, e2⟩ := z_pkv (T := W 27) hW
    have r' := z_rel_c h r e2
    have ct : z_ct (fun k => z_cl s t k && z_bf s k i) j (d + 1) = (if (z_cl s t j && z_bf s j i) then 1 else 0) + z_ct (fun k => z_cl s t k && z_bf s k i) (j + 1) d := rfl
    have hw := z_Gwt h r' hj2 (x := X) (by unfold zR; omega)
    have hbf := z_Gbf h r' hj2 hi
    rw [ct, l_X10_loadingObstacle_94]
    simp (disch := omega) only [z_lit, z_n, z_add, z_sub, z_mul, z_neg, z_lt1, z_lt0, z_le1, z_le0, z_eq1, z_eq0, z_10, ↓reduceIte, z_v, z_upd, z_ue, z_un, z_ixn, z_ixo, z_ix0, z_ix1, z_ix2, z_ix3, z_ix4, z_ix5, z_ix6, Int.reduceToNat, z_inr, z_gd, ↓z_bnd, ↓z_jn, z_bdc, z_bd2, z_opn, z_ops, z_z01, z_Bt, z_Bf, w4, e1, hw]
    cases w : z_wt s X j with
    | false =>
      have cl : z_cl s t j = false := by
        unfold z_cl
        rw [hX, w]
        rfl
      obtain ⟨W3, k1, k2⟩ := ih N W y (j + 1) hW (by omega) (by omega) hy (by omega)
      refine ⟨W3, ?_, k2⟩
      rw [z_cs] at k1
      rw [cl]
      simp (disch := omega) only [z_lit, z_n, z_add, z_sub, z_mul, z_neg, z_lt1, z_lt0, z_le1, z_le0, z_eq1, z_eq0, z_10, ↓reduceIte, z_v, z_upd, z_ue, z_un, z_ixn, z_ixo, z_ix0, z_ix1, z_ix2, z_ix3, z_ix4, z_ix5, z_ix6, Int.reduceToNat, z_inr, z_gd, ↓z_bnd, ↓z_jn, z_bdc, z_bd2, z_opn, z_ops, z_z01, z_Bt, z_Bf, Bool.false_and, Bool.false_eq_true, Int.add_zero, Int.zero_add, k1]
    | true =>
      simp (disch := omega) only [z_lit, z_n, z_add, z_sub, z_mul, z_neg, z_lt1, z_lt0, z_le1, z_le0, z_eq1, z_eq0, z_10, ↓reduceIte, z_v, z_upd, z_ue, z_un, z_ixn, z_ixo, z_ix0, z_ix1, z_ix2, z_ix3, z_ix4, z_ix5, z_ix6, Int.reduceToNat, z_inr, z_gd, ↓z_bnd, ↓z_jn, z_bdc, z_bd2, z_opn, z_ops, z_z01, z_Bt, z_Bf, hbf]
      cases q : z_bf s j i with
      | false =>
        obtain ⟨W3, k1, k2⟩ := ih N W y (j + 1) hW (by omega) (by omega) hy (by omega)
        refine ⟨W3, ?_, k2⟩
        rw [z_cs] at k1
        simp (disch := omega) only [z_lit, z_n, z_add, z_sub, z_mul, z_neg, z_lt1, z_lt0, z_le1, z_le0, z_eq1, z_eq0, z_10, ↓reduceIte, z_v, z_upd, z_ue, z_un, z_ixn, z_ixo, z_ix0, z_ix1, z_ix2, z_ix3, z_ix4, z_ix5, z_ix6, Int.reduceToNat, z_inr, z_gd, ↓z_bnd, ↓z_jn, z_bdc, z_bd2, z_opn, z_ops, z_z01, z_Bt, z_Bf, Bool.and_false, Bool.false_eq_true, Int.add_zero, Int.zero_add, k1]
      | true =>
        obtain ⟨u, u1, u2⟩ := z_Gcl h hB r' ht hj2
        have cl : z_cl s t j = (!z_he s j && decide (z_dp s t (s (143 + 9 * j + 1)) ≠ -1)) := by
          unfold z_cl
          rw [hX, w, Bool.true_and]
        rw [← cl] at u1
        have hW2 : ∀ k, k < 251 → setQ W 21 (zV u) 21 k = zI (g k) := fun k hk => by rw [z_sQu (by omega), z_v, u2 k hk, e2 k hk]
        have eq : z_EQ W (setQ W 21 (zV u)) := z_EQ_q21 (fun k hk => by rw [z_v, u2 k hk, e2 k hk, hW k hk])
        simp (disch := omega) only [z_lit, z_n, z_add, z_sub, z_mul, z_neg, z_lt1, z_lt0, z_le1, z_le0, z_eq1, z_eq0, z_10, ↓reduceIte, z_v, z_upd, z_ue, z_un, z_ixn, z_ixo, z_ix0, z_ix1, z_ix2, z_ix3, z_ix4, z_ix5, z_ix6, Int.reduceToNat, z_inr, z_gd, ↓z_bnd, ↓z_jn, z_bdc, z_bd2, z_opn, z_ops, z_z01, z_Bt, z_Bf, u1]
        cases z_cl s t j with
        | false =>
          obtain ⟨W3, k1, k2, k3, k4⟩ := ih N (setQ W 21 (zV u)) y (j + 1) hW2 (by omega) (by omega) hy (by omega)
          refine ⟨W3, ?_, z_EQ_t eq k2, by rw [k3, z_sQx (by omega) (by omega)], by rw [k4, z_sQx (by omega) (by omega)]⟩
          rw [z_cs] at k1
          simp (disch := omega) only [z_lit, z_n, z_add, z_sub, z_mul, z_neg, z_lt1, z_lt0, z_le1, z_le0, z_eq1, z_eq0, z_10, ↓reduceIte, z_v, z_upd, z_ue, z_un, z_ixn, z_ixo, z_ix0, z_ix1, z_ix2, z_ix3, z_ix4, z_ix5, z_ix6, Int.reduceToNat, z_inr, z_gd, ↓z_bnd, ↓z_jn, z_bdc, z_bd2, z_opn, z_ops, z_z01, z_Bt, z_Bf, Bool.false_and, Bool.false_eq_true, Int.add_zero, Int.zero_add, k1]
        | true =>
          obtain ⟨W3, k1, k2, k3, k4⟩ := ih N (setQ W 21 (zV u)) (y + 1) (j + 1) hW2 (by omega) (by omega) (by omega) (by omega)
          refine ⟨W3, ?_, z_EQ_t eq k2, by rw [k3, z_sQx (by omega) (by omega)], by rw [k4, z_sQx (by omega) (by omega)]⟩
          rw [z_cs] at k1
          simp (disch := omega) only [z_lit, z_n, z_add, z_sub, z_mul, z_neg, z_lt1, z_lt0, z_le1, z_le0, z_eq1, z_eq0, z_10, ↓reduceIte, z_v, z_upd, z_ue, z_un, z_ixn, z_ixo, z_ix0, z_ix1, z_ix2, z_ix3, z_ix4, z_ix5, z_ix6, Int.reduceToNat, z_inr, z_gd, ↓z_bnd, ↓z_jn, z_bdc, z_bd2, z_opn, z_ops, z_z01, z_Bt, z_Bf, Bool.true_and, k1, Int.add_assoc]
theorem z_m_loadingObstacle (hB : b ≤ 1000000000) (h : z_Q b W s g) {a c : Int} (ha : zR a) (hc : zR c) : z_AG (f_L_loadingObstacle W (zI a) (zI c)) (fun W1 => f_X10_loadingObstacle W1 (zI a) (zI c)) (z_EQ W) := by
  obtain ⟨h0, hg, pi⟩ := id h
  obtain ⟨c0, c1, c2, c3, c4⟩ := pi.1.1
  unfold f_L_loadingObstacle
  refine z_getf (v := (if s (87 + 14 * a.toNat + 10) = 0 ∧ s (143 + 9 * c.toNat + 3) = z_cu s a.toNat then (if z_he s c.toNat then 2 else if z_dp s a.toNat (s (143 + 9 * c.toNat + 1)) = -1 then 3 else if z_ct (z_ca s a.toNat) 0 (s 4).toNat + z_ct (fun k => z_cl s a.toNat k && z_bf s k c.toNat) 0 (s 4).toNat < s (87 + 14 * a.toNat) then 0 else 4) else 1)) ((0 ≤ a ∧ a < s 3) ∧ (0 ≤ c ∧ c < s 4)) h ⟨fun v => ?_, fun v => ?_⟩ (fun W1 h1 => ⟨fun v => ?_, fun v => ?_⟩)
  · obtain ⟨t, rfl⟩ : ∃ n : Nat, a = n := ⟨a.toNat, by omega⟩
    obtain ⟨i, rfl⟩ : ∃ n : Nat, c = n := ⟨c.toNat, by omega⟩
    obtain ⟨u, u1, u2⟩ := z_Cfo hB pi.1 (t := t) (i := i) (by omega) (by omega)
    unfold f_X9_loadingObstacle
    rw [z_Ctn h0 c3 ha, if_pos v.1, z_btr, z_Cpl h0 c4 hc, if_pos v.2, z_btr, h0]
    simp (disch := omega) only [z_lit, z_n, z_add, z_sub, z_mul, z_neg, z_lt1, z_lt0, z_le1, z_le0, z_eq1, z_eq0, z_10, ↓reduceIte, z_v, z_upd, z_ue, z_un, z_ixn, z_ixo, z_ix0, z_ix1, z_ix2, z_ix3, z_ix4, z_ix5, z_ix6, Int.reduceToNat, z_inr, z_gd, ↓z_bnd, ↓z_jn, z_bdc, z_bd2, z_opn, z_ops, z_z01, z_Bt, z_Bf, u1]
    rw [u2, Int.toNat_natCast, Int.toNat_natCast]
  · unfold f_X9_loadingObstacle
    rw [z_Ctn h0 c3 ha, z_Cpl h0 c4 hc]
    by_cases w : 0 ≤ a ∧ a < s 3
    · rw [if_pos w, z_btr, if_neg (fun q => v ⟨w, q⟩), z_btl]
    · rw [if_neg w, z_btl]
  · obtain ⟨t, rfl⟩ : ∃ n : Nat, a = n := ⟨a.toNat, by omega⟩
    obtain ⟨i, rfl⟩ : ∃ n : Nat, c = n := ⟨c.toNat, by omega⟩
    rw [Int.toNat_natCast, Int.toNat_natCast]
    have ht : (t : Int) < s 3 := by omega
    have hi : (i : Int) < s 4 := by omega
    have h2 := z_Q_th (c := 0) h1
    obtain ⟨g', e1, e2, e3⟩ := z_Q_pk h2
    have cu := z_cub pi.1 ht
    have db := z_dpb pi.1 ht (y := s (143 + 9 * i + 1))
    have st := z_Gsd pi.1 e3 ht
    have wt := z_Gwt pi.1 e3 hi (x := z_cu s t) (by unfold zR; omega)
    unfold f_X10_loadingObstacle
    rw [z_l0, z_Qnt h1 ha, z_o0 (by omega), z_bd2, if_pos rfl, z_Qnp h2 hc, z_o0 (by omega), z_bd2, if_pos rfl, z_thth, e1, z_Gcu pi.1 e3 ht, z_bdc, st, z_bdc]
    by_cases c1' : s (87 + 14 * t + 10) = 0
    · rw [decide_eq_true c1', z_Bt, if_neg (by rw [z_10]; exact id), wt, z_bdc]
      by_cases c2' : s (143 + 9 * i + 3) = z_cu s t
      · rw [show z_wt s (z_cu s t) i = true from decide_eq_true c2', z_Bt, if_neg (by rw [z_10]; exact id), z_Ghe pi.1 hB e3 hi, z_bdc]
        by_cases c3' : z_he s i = true
        · refine ⟨z_th W1 0, ?_, z_EQ_th, z_the, z_thu (by omega)⟩
          have ev : (if s (87 + 14 * t + 10) = 0 ∧ s (143 + 9 * i + 3) = z_cu s t then (if z_he s i then (2 : Int) else if z_dp s t (s (143 + 9 * i + 1)) = -1 then 3 else if z_ct (z_ca s t) 0 (s 4).toNat + z_ct (fun k => z_cl s t k && z_bf s k i) 0 (s 4).toNat < s (87 + 14 * t) then 0 else 4) else 1) = 2 := by
            rw [if_pos ⟨c1', c2'⟩, if_pos c3']
          rw [ev, c3']
          simp (disch := omega) only [z_lit, z_n, z_add, z_sub, z_mul, z_neg, z_lt1, z_lt0, z_le1, z_le0, z_eq1, z_eq0, z_10, ↓reduceIte, z_v, z_upd, z_ue, z_un, z_ixn, z_ixo, z_ix0, z_ix1, z_ix2, z_ix3, z_ix4, z_ix5, z_ix6, Int.reduceToNat, z_inr, z_gd, ↓z_bnd, ↓z_jn, z_bdc, z_bd2, z_opn, z_ops, z_z01, z_Bt, z_Bf]
        · obtain ⟨u, u1, u2⟩ := z_Gdp pi.1 e3 ht hi
          have hf := Bool.eq_false_iff.mpr c3'
          have eq : z_EQ W1 (setQ (z_th W1 0) 21 (zV u)) := z_EQ_t z_EQ_th (z_EQ_q21 (fun k hk => by rw [z_v, u2 k hk, e2 k hk, h2.2.1 k hk]))
          have h3 := z_Q_EQ h1 eq
          by_cases c4' : z_dp s t (s (143 + 9 * i + 1)) = -1
          · refine ⟨setQ (z_th W1 0) 21 (zV u), ?_, eq, by rw [z_sQx (by omega) (by omega)]; exact z_the, by rw [z_sQx (by omega) (by omega), z_thu (by omega)]⟩
            have ev : (if s (87 + 14 * t + 10) = 0 ∧ s (143 + 9 * i + 3) = z_cu s t then (if z_he s i then (2 : Int) else if z_dp s t (s (143 + 9 * i + 1)) = -1 then 3 else if z_ct (z_ca s t) 0 (s 4).toNat + z_ct (fun k => z_cl s t k && z_bf s k i) 0 (s 4).toNat < s (87 + 14 * t) then 0 else 4) else 1) = 3 := by
              rw [if_pos ⟨c1', c2'⟩, if_neg c3', if_pos c4']
            rw [ev, hf]
            rw [c4'] at u1
            simp (disch := omega) only [z_lit, z_n, z_add, z_sub, z_mul, z_neg, z_lt1, z_lt0, z_le1, z_le0, z_eq1, z_eq0, z_10, ↓reduceIte, z_v, z_upd, z_ue, z_un, z_ixn, z_ixo, z_ix0, z_ix1, z_ix2, z_ix3, z_ix4, z_ix5, z_ix6, Int.reduceToNat, z_inr, z_gd, ↓z_bnd, ↓z_jn, z_bdc, z_bd2, z_opn, z_ops, z_z01, z_Bt, z_Bf, u1]
          · obtain ⟨g3, f1, f2, f3⟩ := z_Q_pk h3
            have cb := z_ct_b (p := z_ca s t) (s 4).toNat 0
            obtain ⟨W3, k1, k2, k3, k4⟩ := z_Glo (s := s) (g := g) (W := setQ (z_th W1 0) 21 (zV u)) hB pi.1 ht hi rfl h3.2.1 pi.2.1 (s 4).toNat FU (setQ (z_th W1 0) 21 (zV u)) (z_ct (z_ca s t) 0 (s 4).toNat) 0 h3.2.1 (by omega) (by unfold FU; omega) (by omega) (by omega)
            refine ⟨W3, ?_, z_EQ_t eq k2, by rw [k3, z_sQx (by omega) (by omega)]; exact z_the, by rw [k4, z_sQx (by omega) (by omega), z_thu (by omega)]⟩
            have ev : (if s (87 + 14 * t + 10) = 0 ∧ s (143 + 9 * i + 3) = z_cu s t then (if z_he s i then (2 : Int) else if z_dp s t (s (143 + 9 * i + 1)) = -1 then 3 else if z_ct (z_ca s t) 0 (s 4).toNat + z_ct (fun k => z_cl s t k && z_bf s k i) 0 (s 4).toNat < s (87 + 14 * t) then 0 else 4) else 1) = (if z_ct (z_ca s t) 0 (s 4).toNat + z_ct (fun k => z_cl s t k && z_bf s k i) 0 (s 4).toNat < s (87 + 14 * t) then 0 else 4) := by
              rw [if_pos ⟨c1', c2'⟩, if_neg c3', if_neg c4']
            rw [ev, hf]
            simp (disch := omega) only [z_lit, z_n, z_add, z_sub, z_mul, z_neg, z_lt1, z_lt0, z_le1, z_le0, z_eq1, z_eq0, z_10, ↓reduceIte, z_v, z_upd, z_ue, z_un, z_ixn, z_ixo, z_ix0, z_ix1, z_ix2, z_ix3, z_ix4, z_ix5, z_ix6, Int.reduceToNat, z_inr, z_gd, ↓z_bnd, ↓z_jn, z_bdc, z_bd2, z_opn, z_ops, z_z01, z_Bt, z_Bf, u1, f1, z_Gca pi.1 f3 (show zR (t : Int) by unfold zR; omega)]
            exact k1
      · refine ⟨z_th W1 0, ?_, z_EQ_th, z_the, z_thu (by omega)⟩
        have ev : (if s (87 + 14 * t + 10) = 0 ∧ s (143 + 9 * i + 3) = z_cu s t then (if z_he s i then (2 : Int) else if z_dp s t (s (143 + 9 * i + 1)) = -1 then 3 else if z_ct (z_ca s t) 0 (s 4).toNat + z_ct (fun k => z_cl s t k && z_bf s k i) 0 (s 4).toNat < s (87 + 14 * t) then 0 else 4) else 1) = 1 := if_neg (fun q => c2' q.2)
        rw [ev, show z_wt s (z_cu s t) i = false from decide_eq_false c2']
        simp (disch := omega) only [z_lit, z_n, z_add, z_sub, z_mul, z_neg, z_lt1, z_lt0, z_le1, z_le0, z_eq1, z_eq0, z_10, ↓reduceIte, z_v, z_upd, z_ue, z_un, z_ixn, z_ixo, z_ix0, z_ix1, z_ix2, z_ix3, z_ix4, z_ix5, z_ix6, Int.reduceToNat, z_inr, z_gd, ↓z_bnd, ↓z_jn, z_bdc, z_bd2, z_opn, z_ops, z_z01, z_Bt, z_Bf]
    · refine ⟨z_th W1 0, ?_, z_EQ_th, z_the, z_thu (by omega)⟩
      have ev : (if s (87 + 14 * t + 10) = 0 ∧ s (143 + 9 * i + 3) = z_cu s t then (if z_he s i then (2 : Int) else if z_dp s t (s (143 + 9 * i + 1)) = -1 then 3 else if z_ct (z_ca s t) 0 (s 4).toNat + z_ct (fun k => z_cl s t k && z_bf s k i) 0 (s 4).toNat < s (87 + 14 * t) then 0 else 4) else 1) = 1 := if_neg (fun q => c1' q.1)
      rw [ev, decide_eq_false c1']
      simp (disch := omega) only [z_lit, z_n, z_add, z_sub, z_mul, z_neg, z_lt1, z_lt0, z_le1, z_le0, z_eq1, z_eq0, z_10, ↓reduceIte, z_v, z_upd, z_ue, z_un, z_ixn, z_ixo, z_ix0, z_ix1, z_ix2, z_ix3, z_ix4, z_ix5, z_ix6, Int.reduceToNat, z_inr, z_gd, ↓z_bnd, ↓z_jn, z_bdc, z_bd2, z_opn, z_ops, z_z01, z_Bt, z_Bf]
  · unfold f_X10_loadingObstacle
    rw [z_l0, z_Qnt h1 ha]
    by_cases w : 0 ≤ a ∧ a < s 3
    · rw [z_o0 (by omega), z_bd2, if_pos rfl, z_Qnp (z_Q_th h1) hc, z_o1 (by omega), z_thth]
      simp (disch := omega) only [z_lit, z_n, z_add, z_sub, z_mul, z_neg, z_lt1, z_lt0, z_le1, z_le0, z_eq1, z_eq0, z_10, ↓reduceIte, z_v, z_upd, z_ue, z_un, z_ixn, z_ixo, z_ix0, z_ix1, z_ix2, z_ix3, z_ix4, z_ix5, z_ix6, Int.reduceToNat, z_inr, z_gd, ↓z_bnd, ↓z_jn, z_bdc, z_bd2, z_opn, z_ops, z_z01, z_Bt, z_Bf]
    · rw [z_o1 (by omega)]
      simp (disch := omega) only [z_lit, z_n, z_add, z_sub, z_mul, z_neg, z_lt1, z_lt0, z_le1, z_le0, z_eq1, z_eq0, z_10, ↓reduceIte, z_v, z_upd, z_ue, z_un, z_ixn, z_ixo, z_ix0, z_ix1, z_ix2, z_ix3, z_ix4, z_ix5, z_ix6, Int.reduceToNat, z_inr, z_gd, ↓z_bnd, ↓z_jn, z_bdc, z_bd2, z_opn, z_ops, z_z01, z_Bt, z_Bf]
end Sum
