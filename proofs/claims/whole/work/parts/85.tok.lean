/-! tokens -/
def z_bl (x : Int) : Prop := x = 32 ∨ x = 10
def z_in (lo hi x : Int) : Prop := lo ≤ x ∧ x ≤ hi
def z_rn (T : Nat → Int) (n : Nat) (lo hi : Int) (p q : Nat) : Prop := p < q ∧ q ≤ n ∧ (∀ k, p ≤ k → k < q → z_in lo hi (T k)) ∧ (q = n ∨ ¬ z_in lo hi (T q))
def z_tok (T : Nat → Int) (n r p q : Nat) (kd : Int) : Prop := r ≤ p ∧ (∀ k, r ≤ k → k < p → z_bl (T k)) ∧ ((p = n ∧ q = n ∧ kd = 0) ∨ (p < n ∧ ¬ z_bl (T p) ∧ ((kd = 1 ∧ z_rn T n 97 122 p q) ∨ (kd = 2 ∧ z_rn T n 48 57 p q) ∨ (kd = 3 ∧ T p = 59 ∧ q = p + 1) ∨ (kd = 4 ∧ ¬ z_in 97 122 (T p) ∧ ¬ z_in 48 57 (T p) ∧ T p ≠ 59 ∧ q = p + 1))))
section Tok
variable {W W' V V' : Nat → Nat → Int32} {T : Nat → Int} {n r p q : Nat} {kd : Int}
theorem z_rn_x {lo hi : Int} (hp : p < n) (h : z_in lo hi (T p)) : ∃ q, z_rn T n lo hi p q := by
  suffices H : ∀ d m, m + d = n → p < m → (∀ k, p ≤ k → k < m → z_in lo hi (T k)) → ∃ q, z_rn T n lo hi p q by
    exact H (n - (p + 1)) (p + 1) (by omega) (by omega) (fun k a b => by rw [show k = p by omega]; exact h)
  intro d
  induction d with
  | zero => exact fun m hm hp' ha => ⟨m, hp', by omega, ha, Or.inl (by omega)⟩
  | succ d ih =>
    intro m hm hp' ha
    by_cases c : z_in lo hi (T m)
    · refine ih (m + 1) (by omega) (by omega) (fun k a b => ?_)
      by_cases e : k = m
      · rw [e]; exact c
      · exact ha k a (by omega)
    · exact ⟨m, hp', by omega, ha, Or.inr c⟩
theorem z_tok_x (hr : r ≤ n) : ∃ p q kd, z_tok T n r p q kd := by
  suffices H : ∀ d m, m + d = n → r ≤ m → (∀ k, r ≤ k → k < m → z_bl (T k)) → ∃ p q kd, z_tok T n r p q kd by
    exact H (n - r) r (by omega) (by omega) (fun k a b => by omega)
  intro d
  induction d with
  | zero => exact fun m hm hp' ha => ⟨m, n, 0, hp', ha, Or.inl ⟨by omega, rfl, rfl⟩⟩
  | succ d ih =>
    intro m hm hp' ha
    by_cases c : z_bl (T m)
    · refine ih (m + 1) (by omega) (by omega) (fun k a b => ?_)
      by_cases e : k = m
      · rw [e]; exact c
      · exact ha k a (by omega)
    · by_cases e1 : z_in 97 122 (T m)
      · obtain ⟨q, hq⟩ := z_rn_x (n := n) (by omega) e1
        exact ⟨m, q, 1, hp', ha, Or.inr ⟨by omega, c, Or.inl ⟨rfl, hq⟩⟩⟩
      by_cases e2 : z_in 48 57 (T m)
      · obtain ⟨q, hq⟩ := z_rn_x (n := n) (by omega) e2
        exact ⟨m, q, 2, hp', ha, Or.inr ⟨by omega, c, Or.inr (Or.inl ⟨rfl, hq⟩)⟩⟩
      by_cases e3 : T m = 59
      · exact ⟨m, m + 1, 3, hp', ha, Or.inr ⟨by omega, c, Or.inr (Or.inr (Or.inl ⟨rfl, e3, rfl⟩))⟩⟩
      · exact ⟨m, m + 1, 4, hp', ha, Or.inr ⟨by omega, c, Or.inr (Or.inr (Or.inr ⟨rfl, e1, e2, e3, rfl⟩))⟩⟩
theorem z_w2i {u k : Nat} {v : Int32} (h : W u k = v) : w2 W u k v = W := by
  funext x j
  by_cases c : x = u
  · subst c
    by_cases d : j = k
    · subst d
      rw [z_w2e, h]
    · rw [z_w2k d]
  · rw [z_w2u c]
/-- the text, as the class and as the reference hold it -/
def z_CT (T : Nat → Int) (n : Nat) (W : Nat → Nat → Int32) : Prop := (∀ k, k < 600 → W 16 k &&& 255 = zI (T k)) ∧ (∀ k, 0 ≤ T k ∧ T k ≤ 255) ∧ n ≤ 600 ∧ W 15 0 = zI n
def z_GT (T : Nat → Int) (n : Nat) (V : Nat → Nat → Int32) : Prop := (∀ k, k < 600 → V 28 k = zI (T k)) ∧ (∀ k, 0 ≤ T k ∧ T k ≤ 255) ∧ n ≤ 600 ∧ V 30 3 = zI n
theorem z_Cby (h : z_CT T n W) {k : Nat} (hk : k < 600) : f_X6_byteAt W (zI (k : Int)) = some (zI (T k)) := by
  unfold f_X6_byteAt
  have e := h.1 k hk
  rw [show (255 : Int32) = zI 255 from z_lit 255] at e
  simp (disch := omega) only [z_lit, z_n, z_add, z_sub, z_mul, z_neg, z_lt1, z_lt0, z_le1, z_le0, z_eq1, z_eq0, z_10, ↓reduceIte, z_v, z_upd, z_ue, z_un, z_ixn, z_ixo, z_ix0, z_ix1, z_ix2, z_ix3, z_ix4, z_ix5, z_ix6, Int.reduceToNat, z_inr, z_gd, ↓z_bnd, ↓z_jn, z_bdc, z_bd2, z_opn, z_ops, z_z01, z_Bt, z_Bf, e]
theorem z_Cbx {k : Nat} (hk : 600 ≤ k) (hk2 : k < 1000000) : f_X6_byteAt W (zI (k : Int)) = some (zI 0) := by
  unfold f_X6_byteAt
  simp (disch := omega) only [z_lit, z_n, z_add, z_sub, z_mul, z_neg, z_lt1, z_lt0, z_le1, z_le0, z_eq1, z_eq0, z_10, ↓reduceIte, z_v, z_upd, z_ue, z_un, z_ixn, z_ixo, z_ix0, z_ix1, z_ix2, z_ix3, z_ix4, z_ix5, z_ix6, Int.reduceToNat, z_inr, z_gd, ↓z_bnd, ↓z_jn, z_bdc, z_bd2, z_opn, z_ops, z_z01, z_Bt, z_Bf]
theorem z_Gby (h : z_GT T n V) {k : Nat} (hk : k < n) : f_X10_byteAt V (zI (k : Int)) = some (zI (T k)) := by
  obtain ⟨h1, h2, h3, h4⟩ := h
  unfold f_X10_byteAt
  have e := h1 k (by omega)
  simp (disch := omega) only [z_lit, z_n, z_add, z_sub, z_mul, z_neg, z_lt1, z_lt0, z_le1, z_le0, z_eq1, z_eq0, z_10, ↓reduceIte, z_v, z_upd, z_ue, z_un, z_ixn, z_ixo, z_ix0, z_ix1, z_ix2, z_ix3, z_ix4, z_ix5, z_ix6, Int.reduceToNat, z_inr, z_gd, ↓z_bnd, ↓z_jn, z_bdc, z_bd2, z_opn, z_ops, z_z01, z_Bt, z_Bf, e, h4]
theorem z_Gbx (h : z_GT T n V) {k : Nat} (hk : n ≤ k) (hk2 : k < 1000000) : f_X10_byteAt V (zI (k : Int)) = some (zI (-1)) := by
  obtain ⟨h1, h2, h3, h4⟩ := h
  unfold f_X10_byteAt
  simp (disch := omega) only [z_lit, z_n, z_add, z_sub, z_mul, z_neg, z_lt1, z_lt0, z_le1, z_le0, z_eq1, z_eq0, z_10, ↓reduceIte, z_v, z_upd, z_ue, z_un, z_ixn, z_ixo, z_ix0, z_ix1, z_ix2, z_ix3, z_ix4, z_ix5, z_ix6, Int.reduceToNat, z_inr, z_gd, ↓z_bnd, ↓z_jn, z_bdc, z_bd2, z_opn, z_ops, z_z01, z_Bt, z_Bf, h4]
theorem z_Cib {x : Int} (hx : 0 ≤ x ∧ x ≤ 255) : (z_bl x → f_X6_isBlank (zI x) = some (zI 1)) ∧ (¬ z_bl x → f_X6_isBlank (zI x) = some (zI 0)) := by
  unfold z_bl f_X6_isBlank
  constructor
  · intro c
    by_cases e : x = 32
    · simp (disch := omega) only [z_lit, z_n, z_add, z_sub, z_mul, z_neg, z_lt1, z_lt0, z_le1, z_le0, z_eq1, z_eq0, z_10, ↓reduceIte, z_v, z_upd, z_ue, z_un, z_ixn, z_ixo, z_ix0, z_ix1, z_ix2, z_ix3, z_ix4, z_ix5, z_ix6, Int.reduceToNat, z_inr, z_gd, ↓z_bnd, ↓z_jn, z_bdc, z_bd2, z_opn, z_ops, z_z01, z_Bt, z_Bf]
    · simp (disch := omega) only [z_lit, z_n, z_add, z_sub, z_mul, z_neg, z_lt1, z_lt0, z_le1, z_le0, z_eq1, z_eq0, z_10, ↓reduceIte, z_v, z_upd, z_ue, z_un, z_ixn, z_ixo, z_ix0, z_ix1, z_ix2, z_ix3, z_ix4, z_ix5, z_ix6, Int.reduceToNat, z_inr, z_gd, ↓z_bnd, ↓z_jn, z_bdc, z_bd2, z_opn, z_ops, z_z01, z_Bt, z_Bf]
  · intro c
    simp (disch := omega) only [z_lit, z_n, z_add, z_sub, z_mul, z_neg, z_lt1, z_lt0, z_le1, z_le0, z_eq1, z_eq0, z_10, ↓reduceIte, z_v, z_upd, z_ue, z_un, z_ixn, z_ixo, z_ix0, z_ix1, z_ix2, z_ix3, z_ix4, z_ix5, z_ix6, Int.reduceToNat, z_inr, z_gd, ↓z_bnd, ↓z_jn, z_bdc, z_bd2, z_opn, z_ops, z_z01, z_Bt, z_Bf]
theorem z_Gib {x lo hi : Int} (hx : -1 ≤ x ∧ x ≤ 2000000000) (h1 : 0 ≤ lo ∧ lo ≤ 255) (h2 : 0 ≤ hi ∧ hi ≤ 255) : (z_in lo hi x → f_X10_isBetween (zI x) (zI lo) (zI hi) = some (zI 1)) ∧ (¬ z_in lo hi x → f_X10_isBetween (zI x) (zI lo) (zI hi) = some (zI 0)) := by
  unfold z_in f_X10_isBetween
  constructor
  · intro c
    simp (disch := omega) only [z_lit, z_n, z_add, z_sub, z_mul, z_neg, z_lt1, z_lt0, z_le1, z_le0, z_eq1, z_eq0, z_10, ↓reduceIte, z_v, z_upd, z_ue, z_un, z_ixn, z_ixo, z_ix0, z_ix1, z_ix2, z_ix3, z_ix4, z_ix5, z_ix6, Int.reduceToNat, z_inr, z_gd, ↓z_bnd, ↓z_jn, z_bdc, z_bd2, z_opn, z_ops, z_z01, z_Bt, z_Bf]
  · intro c
    by_cases e : lo ≤ x
    · simp (disch := omega) only [z_lit, z_n, z_add, z_sub, z_mul, z_neg, z_lt1, z_lt0, z_le1, z_le0, z_eq1, z_eq0, z_10, ↓reduceIte, z_v, z_upd, z_ue, z_un, z_ixn, z_ixo, z_ix0, z_ix1, z_ix2, z_ix3, z_ix4, z_ix5, z_ix6, Int.reduceToNat, z_inr, z_gd, ↓z_bnd, ↓z_jn, z_bdc, z_bd2, z_opn, z_ops, z_z01, z_Bt, z_Bf]
    · simp (disch := omega) only [z_lit, z_n, z_add, z_sub, z_mul, z_neg, z_lt1, z_lt0, z_le1, z_le0, z_eq1, z_eq0, z_10, ↓reduceIte, z_v, z_upd, z_ue, z_un, z_ixn, z_ixo, z_ix0, z_ix1, z_ix2, z_ix3, z_ix4, z_ix5, z_ix6, Int.reduceToNat, z_inr, z_gd, ↓z_bnd, ↓z_jn, z_bdc, z_bd2, z_opn, z_ops, z_z01, z_Bt, z_Bf]
theorem z_CT_2 (h : z_CT T n W) {k : Nat} (hk : k ≠ 0) {v : Int32} : z_CT T n (w2 W 15 k v) := ⟨fun j hj => by rw [z_w2u (by omega)]; exact h.1 j hj, h.2.1, h.2.2.1, by rw [z_w2k (by omega)]; exact h.2.2.2⟩
theorem z_GT_2 (h : z_GT T n V) {k : Nat} (hk : k ≠ 3) {v : Int32} : z_GT T n (w2 V 30 k v) := ⟨fun j hj => by rw [z_w2u (by omega)]; exact h.1 j hj, h.2.1, h.2.2.1, by rw [z_w2k (by omega)]; exact h.2.2.2⟩
theorem z_Cskip {K : (Nat → Nat → Int32) → Option (Nat → Nat → Int32)} (hp : p ≤ n) (hb : p = n ∨ ¬ z_bl (T p)) : ∀ d N (W : Nat → Nat → Int32) (m : Nat), z_CT T n W → m + d = p → W 15 2 = zI m → (∀ k, m ≤ k → k < p → z_bl (T k)) → d < N → l_X6_advance_8 K N W = K (w2 W 15 2 (zI p)) := by
  intro d
  induction d with
  | zero =>
    intro N W m h hm h2 hbl hN
    obtain ⟨M, rfl⟩ : ∃ M, N = M + 1 := ⟨N - 1, by omega⟩
    obtain rfl : m = p := by omega
    rw [l_X6_advance_8, z_w2i h2, h2, h.2.2.2]
    have hn := h.2.2.1
    by_cases c : m = n
    · simp (disch := omega) only [z_lit, z_n, z_add, z_sub, z_mul, z_neg, z_lt1, z_lt0, z_le1, z_le0, z_eq1, z_eq0, z_10, ↓reduceIte, z_v, z_upd, z_ue, z_un, z_ixn, z_ixo, z_ix0, z_ix1, z_ix2, z_ix3, z_ix4, z_ix5, z_ix6, Int.reduceToNat, z_inr, z_gd, ↓z_bnd, ↓z_jn, z_bdc, z_bd2, z_opn, z_ops, z_z01, z_Bt, z_Bf]
    · have e := (z_Cib (h.2.1 m)).2 (by rcases hb with q | q; exact absurd q c; exact q)
      simp (disch := omega) only [z_lit, z_n, z_add, z_sub, z_mul, z_neg, z_lt1, z_lt0, z_le1, z_le0, z_eq1, z_eq0, z_10, ↓reduceIte, z_v, z_upd, z_ue, z_un, z_ixn, z_ixo, z_ix0, z_ix1, z_ix2, z_ix3, z_ix4, z_ix5, z_ix6, Int.reduceToNat, z_inr, z_gd, ↓z_bnd, ↓z_jn, z_bdc, z_bd2, z_opn, z_ops, z_z01, z_Bt, z_Bf, z_Cby h (show m < 600 by omega), e]
  | succ d ih =>
    intro N W m h hm h2 hbl hN
    obtain ⟨M, rfl⟩ : ∃ M, N = M + 1 := ⟨N - 1, by omega⟩
    have hn := h.2.2.1
    rw [l_X6_advance_8, h2, h.2.2.2]
    have e := (z_Cib (h.2.1 m)).1 (hbl m (by omega) (by omega))
    simp (disch := omega) only [z_lit, z_n, z_add, z_sub, z_mul, z_neg, z_lt1, z_lt0, z_le1, z_le0, z_eq1, z_eq0, z_10, ↓reduceIte, z_v, z_upd, z_ue, z_un, z_ixn, z_ixo, z_ix0, z_ix1, z_ix2, z_ix3, z_ix4, z_ix5, z_ix6, Int.reduceToNat, z_inr, z_gd, ↓z_bnd, ↓z_jn, z_bdc, z_bd2, z_opn, z_ops, z_z01, z_Bt, z_Bf, z_Cby h (show m < 600 by omega), e]
    rw [ih M _ (m + 1) (z_CT_2 h (by omega)) (by omega) (by rw [z_w2e]; rfl) (fun k a b => hbl k (by omega) b) (by omega), z_w2w]
theorem z_Gskip {K : (Nat → Nat → Int32) → Option (Nat → Nat → Int32)} (hp : p ≤ n) (hb : p = n ∨ ¬ z_bl (T p)) : ∀ d N (V : Nat → Nat → Int32) (m : Nat), z_GT T n V → m + d = p → V 30 4 = zI m → (∀ k, m ≤ k → k < p → z_bl (T k)) → d < N → l_X10_advance_0 K N V = K (w2 V 30 4 (zI p)) := by
  intro d
  induction d with
  | zero =>
    intro N V m h hm h2 hbl hN
    obtain ⟨M, rfl⟩ : ∃ M, N = M + 1 := ⟨N - 1, by omega⟩
    obtain rfl : m = p := by omega
    have hn := h.2.2.1
    rw [l_X10_advance_0, z_w2i h2, h2]
    by_cases c : m = n
    · simp (disch := omega) only [z_lit, z_n, z_add, z_sub, z_mul, z_neg, z_lt1, z_lt0, z_le1, z_le0, z_eq1, z_eq0, z_10, ↓reduceIte, z_v, z_upd, z_ue, z_un, z_ixn, z_ixo, z_ix0, z_ix1, z_ix2, z_ix3, z_ix4, z_ix5, z_ix6, Int.reduceToNat, z_inr, z_gd, ↓z_bnd, ↓z_jn, z_bdc, z_bd2, z_opn, z_ops, z_z01, z_Bt, z_Bf, z_Gbx h (show n ≤ m by omega) (by omega)]
    · have e : ¬ z_bl (T m) := by rcases hb with q | q; exact absurd q c; exact q
      unfold z_bl at e
      have := h.2.1 m
      simp (disch := omega) only [z_lit, z_n, z_add, z_sub, z_mul, z_neg, z_lt1, z_lt0, z_le1, z_le0, z_eq1, z_eq0, z_10, ↓reduceIte, z_v, z_upd, z_ue, z_un, z_ixn, z_ixo, z_ix0, z_ix1, z_ix2, z_ix3, z_ix4, z_ix5, z_ix6, Int.reduceToNat, z_inr, z_gd, ↓z_bnd, ↓z_jn, z_bdc, z_bd2, z_opn, z_ops, z_z01, z_Bt, z_Bf, z_Gby h (show m < n by omega)]
  | succ d ih =>
    intro N V m h hm h2 hbl hN
    obtain ⟨M, rfl⟩ : ∃ M, N = M + 1 := ⟨N - 1, by omega⟩
    have hn := h.2.2.1
    rw [l_X10_advance_0, h2]
    have e := hbl m (by omega) (by omega)
    have hT := h.2.1 m
    have nx := fun M' (hM : d < M') => ih M' (w2 V 30 4 (zI ((m : Int) + 1))) (m + 1) (z_GT_2 h (by omega)) (by omega) (by rw [z_w2e]; rfl) (fun k a b => hbl k (by omega) b) hM
    unfold z_bl at e
    by_cases c : T m = 32
    · simp (disch := omega) only [z_lit, z_n, z_add, z_sub, z_mul, z_neg, z_lt1, z_lt0, z_le1, z_le0, z_eq1, z_eq0, z_10, ↓reduceIte, z_v, z_upd, z_ue, z_un, z_ixn, z_ixo, z_ix0, z_ix1, z_ix2, z_ix3, z_ix4, z_ix5, z_ix6, Int.reduceToNat, z_inr, z_gd, ↓z_bnd, ↓z_jn, z_bdc, z_bd2, z_opn, z_ops, z_z01, z_Bt, z_Bf, z_Gby h (show m < n by omega)]
      rw [nx M (by omega), z_w2w]
    · simp (disch := omega) only [z_lit, z_n, z_add, z_sub, z_mul, z_neg, z_lt1, z_lt0, z_le1, z_le0, z_eq1, z_eq0, z_10, ↓reduceIte, z_v, z_upd, z_ue, z_un, z_ixn, z_ixo, z_ix0, z_ix1, z_ix2, z_ix3, z_ix4, z_ix5, z_ix6, Int.reduceToNat, z_inr, z_gd, ↓z_bnd, ↓z_jn, z_bdc, z_bd2, z_opn, z_ops, z_z01, z_Bt, z_Bf, z_Gby h (show m < n by omega)]
      rw [nx M (by omega), z_w2w]
end Tok
