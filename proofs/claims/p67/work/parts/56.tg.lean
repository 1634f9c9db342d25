/-! tokens -/
def z_bl (x : Int) : Prop := x = 32 ∨ x = 10
def z_in (lo hi x : Int) : Prop := lo ≤ x ∧ x ≤ hi
def z_rn (T : Nat → Int) (n : Nat) (lo hi : Int) (p q : Nat) : Prop := p < q ∧ q ≤ n ∧ (∀ k, p ≤ k → k < q → z_in lo hi (T k)) ∧ (q = n ∨ ¬ z_in lo hi (T q))
def z_tok (T : Nat → Int) (n r p q : Nat) (kd : Int) : Prop := r ≤ p ∧ (∀ k, r ≤ k → k < p → z_bl (T k)) ∧ ((p = n ∧ q = n ∧ kd = 0) ∨ (p < n ∧ ¬ z_bl (T p) ∧ ((kd = 1 ∧ z_rn T n 97 122 p q) ∨ (kd = 2 ∧ z_rn T n 48 57 p q) ∨ (kd = 3 ∧ T p = 59 ∧ q = p + 1) ∨ (kd = 4 ∧ ¬ z_in 97 122 (T p) ∧ ¬ z_in 48 57 (T p) ∧ T p ≠ 59 ∧ q = p + 1))))
section Tok
variable {W W' V V' : Nat → Nat → Int32} {T : Nat → Int} {n r p q : Nat} {kd : Int}
theorem z_rn_x {lo hi : Int} (hp : p < n) (h : z_in lo hi (T p)) : ∃ q, z_rn T n lo hi p q := by
  suffices H : ∀ d m, m + d = n → p < m → (∀ k, p ≤ k → k < m → z_in lo hi (T k)) → ∃ q, z_rn T n lo hi p q by
    exact H (n - (p + 1)) (p + 1) (by omega) (by omega) (fun k a b => by rw [show k = p by omega]; exact h)
  intro d
  induction d with
  | zero => exact fun m hm hp' ha => ⟨m, hp', by omega, ha, Or.inl (by omega)⟩
  | succ d ih =>
    intro m hm hp' ha
    by_cases c : z_in lo hi (T m)
    · refine ih (m + 1) (by omega) (by omega) (fun k a b => ?_)
      by_cases e : k = m
      · rw [e]; exact c
      · exact ha k a (by omega)
    · exact ⟨m, hp', by omega, ha, Or.inr c⟩
theorem z_tok_x (hr : r ≤ n) : ∃ p q kd, z_tok T n r p q kd := by
  suffices H : ∀ d m, m + d = n → r ≤ m → (∀ k, r ≤ k → k < m → z_bl (T k)) → ∃ p q kd, z_tok T n r p q kd by
    exact H (n - r) r (by omega) (by omega) (fun k a b => by omega)
  intro d
  induction d with
  | zero => exact fun m hm hp' ha => ⟨m, n, 0, hp', ha, Or.inl ⟨by omega, rfl, rfl⟩⟩
  | succ d ih =>
    intro m hm hp' ha
    by_cases c : z_bl (T m)
    · refine ih (m + 1) (by omega) (by omega) (fun k a b => ?_)
      by_cases e : k = m
      · rw [e]; exact c
      · exact ha k a (by omega)
    · by_cases e1 : z_in 97 122 (T m)
      · obtain ⟨q, hq⟩ := z_rn_x (n := n) (by omega) e1
        exact ⟨m, q, 1, hp', ha, Or.inr ⟨by omega, c, Or.inl ⟨rfl, hq⟩⟩⟩
      by_cases e2 : z_in 48 57 (T m)
      · obtain ⟨q, hq⟩ := z_rn_x (n := n) (by omega) e2
        exact ⟨m, q, 2, hp', ha, Or.inr ⟨by omega, c, Or.inr (Or.inl ⟨rfl, hq⟩)⟩⟩
      by_cases e3 : T m = 59
      · exact ⟨m, m + 1, 3, hp', ha, Or.inr ⟨by omega, c, Or.inr (Or.inr (Or.inl ⟨rfl, e3, rfl⟩))⟩⟩
      · exact ⟨m, m + 1, 4, hp', ha, Or.inr ⟨by omega, c, Or.inr (Or.inr (Or.inr ⟨rfl, e1, e2, e3, rfl⟩))⟩⟩
theorem z_w2i {u k : Nat} {v : Int32} (h : W u k = v) : w2 W u k v = W := by
  funext x j
  by_cases c : x = u
  · subst c
    by_cases d : j = k
    · subst d
      rw [z_w2e, h]
    · rw [z_w2k d]
  · rw [z_w2u c]
/-- the text, as the class and as the reference hold it -/
def z_CT (T : Nat → Int) (n : Nat) (W : Nat → Nat → Int32) : Prop := (∀ k, k < 600 → W 16 k &&& 255 = zI (T k)) ∧ (∀ k, 0 ≤ T k ∧ T k ≤ 255) ∧ n ≤ 600 ∧ W 15 0 = zI n
def z_GT (T : Nat → Int) (n : Nat) (V : Nat → Nat → Int32) : Prop := (∀ k, k < 600 → V 28 k = zI (T k)) ∧ (∀ k, 0 ≤ T k ∧ T k ≤ 255) ∧ n ≤ 600 ∧ V 30 3 = zI n
theorem z_Cby (h : z_CT T n W) {k : Nat} (hk : k < 600) : f_X6_byteAt W (zI (k : Int)) = some (zI (T k)) := by
  unfold f_X6_byteAt
  have e := h.1 k hk
  rw [show (255 : Int32) = zI 255 from z_lit 255] at e
  simp (disch := omega) only [z_lit, z_n, z_add, z_sub, z_mul, z_neg, z_lt1, z_lt0, z_le1, z_le0, z_eq1, z_eq0, z_10, ↓reduceIte, z_v, z_upd, z_ue, z_un, z_ixn, z_ixo, z_ix0, z_ix1, z_ix2, z_ix3, z_ix4, z_ix5, z_ix6, Int.reduceToNat, z_inr, z_gd, ↓z_bnd, ↓z_jn, z_bdc, z_bd2, z_opn, z_ops, z_z01, z_Bt, z_Bf, e]
theorem z_Cbx {k : Nat} (hk : 600 ≤ k) (hk2 : k < 1000000) : f_X6_byteAt W (zI (k : Int)) = some (zI 0) := by
  unfold f_X6_byteAt
  simp (disch := omega) only [z_lit, z_n, z_add, z_sub, z_mul, z_neg, z_lt1, z_lt0, z_le1, z_le0, z_eq1, z_eq0, z_10, ↓reduceIte, z_v, z_upd, z_ue, z_un, z_ixn, z_ixo, z_ix0, z_ix1, z_ix2, z_ix3, z_ix4, z_ix5, z_ix6, Int.reduceToNat, z_inr, z_gd, ↓z_bnd, ↓z_jn, z_bdc, z_bd2, z_opn, z_ops, z_z01, z_Bt, z_Bf]
theorem z_Cib {x : Int} (hx : 0 ≤ x ∧ x ≤ 255) : (z_bl x → f_X6_isBlank (zI x) = some (zI 1)) ∧ (¬ z_bl x → f_X6_isBlank (zI x) = some (zI 0)) := by
  unfold z_bl f_X6_isBlank
  constructor
  · intro c
    by_cases e : x = 32
    · simp (disch := omega) only [z_lit, z_n, z_add, z_sub, z_mul, z_neg, z_lt1, z_lt0, z_le1, z_le0, z_eq1, z_eq0, z_10, ↓reduceIte, z_v, z_upd, z_ue, z_un, z_ixn, z_ixo, z_ix0, z_ix1, z_ix2, z_ix3, z_ix4, z_ix5, z_ix6, Int.reduceToNat, z_inr, z_gd, ↓z_bnd, ↓z_jn, z_bdc, z_bd2, z_opn, z_ops, z_z01, z_Bt, z_Bf]
    · simp (disch := omega) only [z_lit, z_n, z_add, z_sub, z_mul, z_neg, z_lt1, z_lt0, z_le1, z_le0, z_eq1, z_eq0, z_10, ↓reduceIte, z_v, z_upd, z_ue, z_un, z_ixn, z_ixo, z_ix0, z_ix1, z_ix2, z_ix3, z_ix4, z_ix5, z_ix6, Int.reduceToNat, z_inr, z_gd, ↓z_bnd, ↓z_jn, z_bdc, z_bd2, z_opn, z_ops, z_z01, z_Bt, z_Bf]
  · intro c
    simp (disch := omega) only [z_lit, z_n, z_add, z_sub, z_mul, z_neg, z_lt1, z_lt0, z_le1, z_le0, z_eq1, z_eq0, z_10, ↓reduceIte, z_v, z_upd, z_ue, z_un, z_ixn, z_ixo, z_ix0, z_ix1, z_ix2, z_ix3, z_ix4, z_ix5, z_ix6, Int.reduceToNat, z_inr, z_gd, ↓z_bnd, ↓z_jn, z_bdc, z_bd2, z_opn, z_ops, z_z01, z_Bt, z_Bf]
theorem z_CT_2 (h : z_CT T n W) {k : Nat} (hk : k ≠ 0) {v : Int32} : z_CT T n (w2 W 15 k v) := ⟨fun j hj => by rw [z_w2u (by omega)]; exact h.1 j hj, h.2.1, h.2.2.1, by rw [z_w2k (by omega)]; exact h.2.2.2⟩
theorem z_GT_2 (h : z_GT T n V) {k : Nat} (hk : k ≠ 3) {v : Int32} : z_GT T n (w2 V 30 k v) := ⟨fun j hj => by rw [z_w2u (by omega)]; exact h.1 j hj, h.2.1, h.2.2.1, by rw [z_w2k (by omega)]; exact h.2.2.2⟩
theorem z_Cskip {K : (Nat → Nat → Int32) → Option (Nat → Nat → Int32)} (hp : p ≤ n) (hb : p = n ∨ ¬ z_bl (T p)) : ∀ d N (W : Nat → Nat → Int32) (m : Nat), z_CT T n W → m + d = p → W 15 2 = zI m → (∀ k, m ≤ k → k < p → z_bl (T k)) → d < N → l_X6_advance_8 K N W = K (w2 W 15 2 (zI p)) := by
  intro d
  induction d with
  | zero =>
    intro N W m h hm h2 hbl hN
    obtain ⟨M, rfl⟩ : ∃ M, N = M + 1 := ⟨N - 1, by omega⟩
    obtain rfl : m = p := by omega
    rw [l_X6_advance_8, z_w2i h2, h2, h.2.2.2]
    have hn := h.2.2.1
    by_cases c : m = n
    · simp (disch := omega) only [z_lit, z_n, z_add, z_sub, z_mul, z_neg, z_lt1, z_lt0, z_le1, z_le0, z_eq1, z_eq0, z_10, ↓reduceIte, z_v, z_upd, z_ue, z_un, z_ixn, z_ixo, z_ix0, z_ix1, z_ix2, z_ix3, z_ix4, z_ix5, z_ix6, Int.reduceToNat, z_inr, z_gd, ↓z_bnd, ↓z_jn, z_bdc, z_bd2, z_opn, z_ops, z_z01, z_Bt, z_Bf]
    · have e := (z_Cib (h.2.1 m)).2 (by rcases hb with q | q; exact absurd q c; exact q)
      simp (disch := omega) only [z_lit, z_n, z_add, z_sub, z_mul, z_neg, z_lt1, z_lt0, z_le1, z_le0, z_eq1, z_eq0, z_10, ↓reduceIte, z_v, z_upd, z_ue, z_un, z_ixn, z_ixo, z_ix0, z_ix1, z_ix2, z_ix3, z_ix4, z_ix5, z_ix6, Int.reduceToNat, z_inr, z_gd, ↓z_bnd, ↓z_jn, z_bdc, z_bd2, z_opn, z_ops, z_z01, z_Bt, z_Bf, z_Cby h (show m < 600 by omega), e]
  | succ d ih =>
    intro N W m h hm h2 hbl hN
    obtain ⟨M, rfl⟩ : ∃ M, N = M + 1 := ⟨N - 1, by omega⟩
    have hn := h.2.2.1
    rw [l_X6_advance_8, h2, h.2.2.2]
    have e := (z_Cib (h.2.1 m)).1 (hbl m (by omega) (by omega))
    simp (disch := omega) only [z_lit, z_n, z_add, z_sub, z_mul, z_neg, z_lt1, z_lt0, z_le1, z_le0, z_eq1, z_eq0, z_10, ↓reduceIte, z_v, z_upd, z_ue, z_un, z_ixn, z_ixo, z_ix0, z_ix1, z_ix2, z_ix3, z_ix4, z_ix5, z_ix6, Int.reduceToNat, z_inr, z_gd, ↓z_bnd, ↓z_jn, z_bdc, z_bd2, z_opn, z_ops, z_z01, z_Bt, z_Bf, z_Cby h (show m < 600 by omega), e]
    rw [ih M _ (m + 1) (z_CT_2 h (by omega)) (by omega) (by rw [z_w2e]; rfl) (fun k a b => hbl k (by omega) b) (by omega), z_w2w]
end Tok
/-! the next token, both sides -/
section Adv
variable {W W' V V' : Nat → Nat → Int32} {T : Nat → Int} {n r p q : Nat} {kd : Int}
def y_Ctk (W : Nat → Nat → Int32) (p q : Nat) (kd : Int) : Nat → Nat → Int32 := w2 (w2 (w2 W 15 2 (zI p)) 15 1 (zI kd)) 15 3 (zI q)
theorem y_Cre {lo hi : Int} (hl : 0 ≤ lo ∧ lo ≤ 255) (hh : 0 ≤ hi ∧ hi ≤ 255) (h : z_CT T n W) (hr : z_rn T n lo hi p q) : ∀ d N m, m + d = q → p ≤ m → d < N → l_X6_findRunEnd_5 W (zI lo) (zI hi) N (zI (m : Nat)) = some (zI q) := by
  obtain ⟨r1, r2, r3, r4⟩ := hr
  have hn := h.2.2.1
  intro d
  induction d with
  | zero =>
    intro N m hm hp hN
    obtain ⟨M, rfl⟩ : ∃ M, N = M + 1 := ⟨N - 1, by omega⟩
    obtain rfl : m = q := by omega
    rw [l_X6_findRunEnd_5, h.2.2.2]
    rcases r4 with c | c
    · simp (disch := omega) only [z_lit, z_n, z_add, z_sub, z_mul, z_neg, z_lt1, z_lt0, z_le1, z_le0, z_eq1, z_eq0, z_10, ↓reduceIte, z_v, z_upd, z_ue, z_un, z_ixn, z_ixo, z_ix0, z_ix1, z_ix2, z_ix3, z_ix4, z_ix5, z_ix6, Int.reduceToNat, z_inr, z_gd, ↓z_bnd, ↓z_jn, z_bdc, z_bd2, z_opn, z_ops, z_z01, z_Bt, z_Bf]
    · by_cases e : m = n
      · simp (disch := omega) only [z_lit, z_n, z_add, z_sub, z_mul, z_neg, z_lt1, z_lt0, z_le1, z_le0, z_eq1, z_eq0, z_10, ↓reduceIte, z_v, z_upd, z_ue, z_un, z_ixn, z_ixo, z_ix0, z_ix1, z_ix2, z_ix3, z_ix4, z_ix5, z_ix6, Int.reduceToNat, z_inr, z_gd, ↓z_bnd, ↓z_jn, z_bdc, z_bd2, z_opn, z_ops, z_z01, z_Bt, z_Bf]
      · have hT := h.2.1 m
        unfold z_in at c
        by_cases f : T m < lo
        · simp (disch := omega) only [z_lit, z_n, z_add, z_sub, z_mul, z_neg, z_lt1, z_lt0, z_le1, z_le0, z_eq1, z_eq0, z_10, ↓reduceIte, z_v, z_upd, z_ue, z_un, z_ixn, z_ixo, z_ix0, z_ix1, z_ix2, z_ix3, z_ix4, z_ix5, z_ix6, Int.reduceToNat, z_inr, z_gd, ↓z_bnd, ↓z_jn, z_bdc, z_bd2, z_opn, z_ops, z_z01, z_Bt, z_Bf, z_Cby h (show m < 600 by omega)]
        · simp (disch := omega) only [z_lit, z_n, z_add, z_sub, z_mul, z_neg, z_lt1, z_lt0, z_le1, z_le0, z_eq1, z_eq0, z_10, ↓reduceIte, z_v, z_upd, z_ue, z_un, z_ixn, z_ixo, z_ix0, z_ix1, z_ix2, z_ix3, z_ix4, z_ix5, z_ix6, Int.reduceToNat, z_inr, z_gd, ↓z_bnd, ↓z_jn, z_bdc, z_bd2, z_opn, z_ops, z_z01, z_Bt, z_Bf, z_Cby h (show m < 600 by omega)]
  | succ d ih =>
    intro N m hm hp hN
    obtain ⟨M, rfl⟩ : ∃ M, N = M + 1 := ⟨N - 1, by omega⟩
    rw [l_X6_findRunEnd_5, h.2.2.2]
    have hT := h.2.1 m
    have c := r3 m hp (by omega)
    unfold z_in at c
    have nx := ih M (m + 1) (by omega) (by omega) (by omega)
    rw [z_cs] at nx
    simp (disch := omega) only [z_lit, z_n, z_add, z_sub, z_mul, z_neg, z_lt1, z_lt0, z_le1, z_le0, z_eq1, z_eq0, z_10, ↓reduceIte, z_v, z_upd, z_ue, z_un, z_ixn, z_ixo, z_ix0, z_ix1, z_ix2, z_ix3, z_ix4, z_ix5, z_ix6, Int.reduceToNat, z_inr, z_gd, ↓z_bnd, ↓z_jn, z_bdc, z_bd2, z_opn, z_ops, z_z01, z_Bt, z_Bf, z_Cby h (show m < 600 by omega), nx]
theorem y_Cadv (h : z_CT T n W) (h3 : W 15 3 = zI r) (t : z_tok T n r p q kd) : f_X6_advance W = some (y_Ctk W p q kd) := by
  obtain ⟨t1, t2, t3⟩ := t
  have hn := h.2.2.1
  have hp : p ≤ n := by rcases t3 with ⟨c, -⟩ | ⟨c, -⟩ <;> omega
  have hb : p = n ∨ ¬ z_bl (T p) := by
    rcases t3 with ⟨c, -⟩ | ⟨-, c, -⟩
    · exact Or.inl c
    · exact Or.inr c
  unfold f_X6_advance
  rw [z_bnd, h3, z_Cskip hp hb (p - r) FU _ r (z_CT_2 h (by omega)) (by omega) z_w2e t2 (by unfold FU; omega), z_w2w]
  have h' : z_CT T n (w2 W 15 2 (zI p)) := z_CT_2 h (by omega)
  have e2 : w2 W 15 2 (zI p) 15 2 = zI p := z_w2e
  unfold y_Ctk
  generalize w2 W 15 2 (zI p) = X at *
  have e0 : X 15 0 = zI n := h'.2.2.2
  simp only [e2, e0]
  rcases t3 with ⟨c1, c2, c3⟩ | ⟨c1, c2, c3⟩
  · have hB : ∃ x, f_X6_byteAt X (zI p) = some x := by
      by_cases e : p < 600
      · exact ⟨_, z_Cby h' e⟩
      · exact ⟨_, z_Cbx (by omega) (by omega)⟩
    obtain ⟨x, hx⟩ := hB
    rw [hx, z_bdc, z_ltF (by omega) (by omega) (by omega), z_bnd, z_bnd, z_w2k (by omega), e0, c3, c2, z_l0]
  · rw [z_Cby h' (by omega), z_bdc, z_ltT (by omega) (by omega) (by omega), z_jn, z_jn]
    have hT := h.2.1 p
    have h1 : ∀ v, z_CT T n (w2 X 15 1 v) := fun v => z_CT_2 h' (by omega)
    have e12 : ∀ v, w2 X 15 1 v 15 2 = zI p := fun v => by rw [z_w2k (by omega)]; exact e2
    rcases c3 with ⟨d1, d2⟩ | ⟨d1, d2⟩ | ⟨d1, d2, d3⟩ | ⟨d1, d2, d3, d4, d5⟩
    · have c := d2.2.2.1 p (by omega) d2.1
      unfold z_in at c
      have f := y_Cre (lo := 97) (hi := 122) (by omega) (by omega) (h1 (zI 1)) d2 (q - p) FU p (by have := d2.1; omega) (by omega) (by unfold FU; have := d2.2.1; omega)
      unfold f_X6_findRunEnd
      rw [d1]
      simp (disch := omega) only [z_lit, z_n, z_add, z_sub, z_mul, z_neg, z_lt1, z_lt0, z_le1, z_le0, z_eq1, z_eq0, z_10, ↓reduceIte, z_v, z_upd, z_ue, z_un, z_ixn, z_ixo, z_ix0, z_ix1, z_ix2, z_ix3, z_ix4, z_ix5, z_ix6, Int.reduceToNat, z_inr, z_gd, ↓z_bnd, ↓z_jn, z_bdc, z_bd2, z_opn, z_ops, z_z01, z_Bt, z_Bf, e12, f]
    · have c := d2.2.2.1 p (by omega) d2.1
      unfold z_in at c
      have f := y_Cre (lo := 48) (hi := 57) (by omega) (by omega) (h1 (zI 2)) d2 (q - p) FU p (by have := d2.1; omega) (by omega) (by unfold FU; have := d2.2.1; omega)
      unfold f_X6_findRunEnd
      rw [d1]
      simp (disch := omega) only [z_lit, z_n, z_add, z_sub, z_mul, z_neg, z_lt1, z_lt0, z_le1, z_le0, z_eq1, z_eq0, z_10, ↓reduceIte, z_v, z_upd, z_ue, z_un, z_ixn, z_ixo, z_ix0, z_ix1, z_ix2, z_ix3, z_ix4, z_ix5, z_ix6, Int.reduceToNat, z_inr, z_gd, ↓z_bnd, ↓z_jn, z_bdc, z_bd2, z_opn, z_ops, z_z01, z_Bt, z_Bf, e12, f]
    · rw [d1, d3, z_cs]
      simp (disch := omega) only [z_lit, z_n, z_add, z_sub, z_mul, z_neg, z_lt1, z_lt0, z_le1, z_le0, z_eq1, z_eq0, z_10, ↓reduceIte, z_v, z_upd, z_ue, z_un, z_ixn, z_ixo, z_ix0, z_ix1, z_ix2, z_ix3, z_ix4, z_ix5, z_ix6, Int.reduceToNat, z_inr, z_gd, ↓z_bnd, ↓z_jn, z_bdc, z_bd2, z_opn, z_ops, z_z01, z_Bt, z_Bf, e12, d2]
    · rw [d1, d5, z_cs]
      unfold z_in at d2 d3
      by_cases f : T p < 48
      · simp (disch := omega) only [z_lit, z_n, z_add, z_sub, z_mul, z_neg, z_lt1, z_lt0, z_le1, z_le0, z_eq1, z_eq0, z_10, ↓reduceIte, z_v, z_upd, z_ue, z_un, z_ixn, z_ixo, z_ix0, z_ix1, z_ix2, z_ix3, z_ix4, z_ix5, z_ix6, Int.reduceToNat, z_inr, z_gd, ↓z_bnd, ↓z_jn, z_bdc, z_bd2, z_opn, z_ops, z_z01, z_Bt, z_Bf, e12]
      · by_cases f2 : T p < 97
        · simp (disch := omega) only [z_lit, z_n, z_add, z_sub, z_mul, z_neg, z_lt1, z_lt0, z_le1, z_le0, z_eq1, z_eq0, z_10, ↓reduceIte, z_v, z_upd, z_ue, z_un, z_ixn, z_ixo, z_ix0, z_ix1, z_ix2, z_ix3, z_ix4, z_ix5, z_ix6, Int.reduceToNat, z_inr, z_gd, ↓z_bnd, ↓z_jn, z_bdc, z_bd2, z_opn, z_ops, z_z01, z_Bt, z_Bf, e12]
        · simp (disch := omega) only [z_lit, z_n, z_add, z_sub, z_mul, z_neg, z_lt1, z_lt0, z_le1, z_le0, z_eq1, z_eq0, z_10, ↓reduceIte, z_v, z_upd, z_ue, z_un, z_ixn, z_ixo, z_ix0, z_ix1, z_ix2, z_ix3, z_ix4, z_ix5, z_ix6, Int.reduceToNat, z_inr, z_gd, ↓z_bnd, ↓z_jn, z_bdc, z_bd2, z_opn, z_ops, z_z01, z_Bt, z_Bf, e12]
end Adv
def y_rk (kd : Int) : Int := if kd = 0 then 0 else if kd = 1 then 3 else if kd = 2 then 2 else 1
def y_rv (T : Nat → Int) (p : Nat) : Nat → Int
  | 0 => 0
  | m + 1 => if y_rv T p m ≤ 99999999 then 10 * y_rv T p m + T (p + m) - 48 else y_rv T p m
def y_cv (T : Nat → Int) (p : Nat) : Nat → Int
  | 0 => 0
  | m + 1 => if y_cv T p m * 10 + T (p + m) - 48 < 1000 then y_cv T p m * 10 + T (p + m) - 48 else 1000
def y_Gtk (T : Nat → Int) (V V' : Nat → Nat → Int32) (p q : Nat) (kd : Int) : Prop := (∀ u, u ≠ 30 → V' u = V u) ∧ (∀ k, k < 4 ∨ 8 < k → V' 30 k = V 30 k) ∧ V' 30 4 = zI q ∧ V' 30 5 = zI p ∧ V' 30 6 = zI (y_rk kd) ∧ V' 30 8 = zI (if kd = 1 then ((q - p : Nat) : Int) else 0) ∧ V' 30 7 = zI (if kd = 2 then y_rv T p (q - p) else 0)
section Adw
variable {W W' V V' : Nat → Nat → Int32} {T : Nat → Int} {n r p q : Nat} {kd : Int}
theorem y_rv_b : ∀ m, (∀ k, p ≤ k → k < p + m → z_in 48 57 (T k)) → 0 ≤ y_rv T p m ∧ y_rv T p m ≤ 999999999
  | 0, _ => by unfold y_rv; omega
  | m + 1, h => by
    have := y_rv_b m (fun k a b => h k a (by omega))
    have c := h (p + m) (by omega) (by omega)
    unfold z_in at c
    rw [y_rv]
    split <;> omega
theorem y_cv_b : ∀ m, (∀ k, p ≤ k → k < p + m → z_in 48 57 (T k)) → (0 ≤ y_cv T p m ∧ y_cv T p m ≤ 1000) ∧ ((y_cv T p m = y_rv T p m ∧ y_cv T p m < 1000) ∨ (y_cv T p m = 1000 ∧ 1000 ≤ y_rv T p m))
  | 0, _ => by unfold y_cv y_rv; omega
  | m + 1, h => by
    have a := y_cv_b m (fun k a b => h k a (by omega))
    have b := y_rv_b m (fun k a b => h k a (by omega))
    have c := h (p + m) (by omega) (by omega)
    unfold z_in at c
    rw [y_cv, y_rv]
    split <;> split <;> omega
end Adw
/-! names and keywords -/
def y_pf (T : Nat → Int) (p : Nat) : Nat → Int
  | 0 => 0
  | m + 1 => y_pf T p m * 256 + T (p + m)
def y_lt (T : Nat → Int) (p q j : Nat) : Int := if p + j < q then T (p + j) - 96 else 0
def y_nv (T : Nat → Int) (p q : Nat) : Nat → Int
  | 0 => 0
  | m + 1 => y_nv T p q m * 27 + y_lt T p q m
/-- what is read as a word here -/
def y_wd (T : Nat → Int) (n p q : Nat) : Prop := z_rn T n 97 122 p q
section Nme
variable {W W' V V' : Nat → Nat → Int32} {T : Nat → Int} {n r p q : Nat} {kd : Int} {s g : Nat → Int} {b : Int}
theorem y_shl {x y : Int} (hx : 0 ≤ x ∧ x < 8388608) (hy : 0 ≤ y ∧ y < 256) : (zI x <<< ((8 : Int32) &&& 31)) ||| zI y = zI (x * 256 + y) := by
  obtain ⟨m, rfl⟩ : ∃ m : Nat, x = m := ⟨x.toNat, by omega⟩
  obtain ⟨k, rfl⟩ : ∃ k : Nat, y = k := ⟨y.toNat, by omega⟩
  rw [show (m : Int) * 256 + (k : Int) = ((m * 256 + k : Nat) : Int) by omega]
  apply Int32.toBitVec.inj
  rw [z_bvn (by omega), Int32.toBitVec_or, Int32.toBitVec_shiftLeft, z_bvn (by omega), z_bvn (by omega)]
  rw [show (((8 : Int32) &&& 31).toBitVec.smod 32) = BitVec.ofNat 32 8 by decide]
  apply BitVec.eq_of_toNat_eq
  rw [BitVec.toNat_or, BitVec.shiftLeft_eq', BitVec.toNat_shiftLeft, BitVec.toNat_ofNat, BitVec.toNat_ofNat, BitVec.toNat_ofNat, BitVec.toNat_ofNat, Nat.mod_eq_of_lt (show m < 2 ^ 32 by omega), Nat.mod_eq_of_lt (show k < 2 ^ 32 by omega), Nat.mod_eq_of_lt (show 8 < 2 ^ 32 by omega), Nat.mod_eq_of_lt (show m * 256 + k < 2 ^ 32 by omega), Nat.shiftLeft_eq, Nat.mod_eq_of_lt (show m * 2 ^ 8 < 2 ^ 32 by omega)]
  have := Nat.two_pow_add_eq_or_of_lt (i := 8) (b := k) (by omega) m
  rw [Nat.mul_comm m, ← this]
theorem y_Cbt (h : z_CT T n W) {k : Nat} (hk : k < 1000000) : ∃ x, f_X6_byteAt W (zI (k : Int)) = some x := by
  by_cases e : k < 600
  · exact ⟨_, z_Cby h e⟩
  · exact ⟨_, z_Cbx (by omega) hk⟩
theorem y_Cpn (h : z_CT T n W) (h2 : W 15 2 = zI p) (h3 : W 15 3 = zI q) (hq : q ≤ n) (hp : p ≤ q) : (∃ v, f_X6_packName W = some v) ∧ (4 < q - p → f_X6_packName W = some (zI 0)) ∧ (q - p ≤ 4 → (∀ k, p ≤ k → k < q → z_in 97 122 (T k)) → f_X6_packName W = some (zI (y_pf T p (q - p)))) := by
  have hn := h.2.2.1
  have A : q - p ≤ 4 → ∀ d N m x, m + d = q → p ≤ m → d < N → ∃ v, l_X6_packName_22 W N x (zI (m : Nat)) = some v := by
    intro hle d
    induction d with
    | zero =>
      intro N m x hm hp' hN
      obtain ⟨M, rfl⟩ : ∃ M, N = M + 1 := ⟨N - 1, by omega⟩
      obtain rfl : m = q := by omega
      rw [l_X6_packName_22, h3, z_leT (by omega) (by omega) (by omega)]
      exact ⟨x, rfl⟩
    | succ d ih =>
      intro N m x hm hp' hN
      obtain ⟨M, rfl⟩ : ∃ M, N = M + 1 := ⟨N - 1, by omega⟩
      obtain ⟨v, hv⟩ := y_Cbt h (k := m) (by omega)
      rw [l_X6_packName_22, h3, z_leF (by omega) (by omega) (by omega), hv, z_bdc, z_bnd, z_l1, z_add]
      exact ih M (m + 1) _ (by omega) (by omega) (by omega)
  have B : q - p ≤ 4 → (∀ k, p ≤ k → k < q → z_in 97 122 (T k)) → ∀ d N m, m + d = q → p ≤ m → d < N → l_X6_packName_22 W N (zI (y_pf T p (m - p))) (zI (m : Nat)) = some (zI (y_pf T p (q - p))) := by
    intro hle hr d
    induction d with
    | zero =>
      intro N m hm hp' hN
      obtain ⟨M, rfl⟩ : ∃ M, N = M + 1 := ⟨N - 1, by omega⟩
      obtain rfl : m = q := by omega
      rw [l_X6_packName_22, h3, z_leT (by omega) (by omega) (by omega)]
    | succ d ih =>
      intro N m hm hp' hN
      obtain ⟨M, rfl⟩ : ∃ M, N = M + 1 := ⟨N - 1, by omega⟩
      have hT := h.2.1 m
      have hb : 0 ≤ y_pf T p (m - p) ∧ y_pf T p (m - p) < 8388608 := by
        have f : m - p = 0 ∨ m - p = 1 ∨ m - p = 2 ∨ m - p = 3 := by omega
        have t0 : p < q → z_in 97 122 (T (p + 0)) := fun c => hr _ (by omega) (by omega)
        have t1 : p + 1 < q → z_in 97 122 (T (p + 1)) := fun c => hr _ (by omega) (by omega)
        have t2 : p + 2 < q → z_in 97 122 (T (p + 2)) := fun c => hr _ (by omega) (by omega)
        unfold z_in at t0 t1 t2
        rcases f with f | f | f | f <;> rw [f] <;> simp only [y_pf] <;> omega
      rw [l_X6_packName_22, h3, z_leF (by omega) (by omega) (by omega), z_Cby h (by omega), z_bdc, z_bnd, y_shl hb ⟨by omega, by omega⟩, z_l1, z_add]
      have nx := ih M (m + 1) (by omega) (by omega) (by omega)
      rw [show m + 1 - p = (m - p) + 1 by omega, y_pf, show p + (m - p) = m by omega] at nx
      exact nx
  unfold f_X6_packName
  rw [h2, h3, z_sub, show (4 : Int32) = zI 4 from z_lit 4]
  by_cases c : q - p ≤ 4
  · rw [z_leT (by omega) (by omega) (by omega), z_bnd]
    refine ⟨A c (q - p) FU p _ (by omega) (by omega) (by unfold FU; omega), fun e => absurd c (by omega), fun _ hr => ?_⟩
    have := B c hr (q - p) FU p (by omega) (by omega) (by unfold FU; omega)
    rw [Nat.sub_self] at this
    exact this
  · rw [z_leF (by omega) (by omega) (by omega)]
    exact ⟨⟨_, rfl⟩, fun _ => by rw [z_l0], fun e => absurd e c⟩
theorem y_wlt (h : z_rn T n 97 122 p q) (hq : q - p ≤ 4) : z_ltr (y_lt T p q 0) (y_lt T p q 1) (y_lt T p q 2) (y_lt T p q 3) ∧ z_pk (y_lt T p q 0) (y_lt T p q 1) (y_lt T p q 2) (y_lt T p q 3) = y_pf T p (q - p) := by
  obtain ⟨r1, r2, r3, -⟩ := h
  have t0 : z_in 97 122 (T (p + 0)) := r3 _ (by omega) (by omega)
  have t1 : p + 1 < q → z_in 97 122 (T (p + 1)) := fun c => r3 _ (by omega) (by omega)
  have t2 : p + 2 < q → z_in 97 122 (T (p + 2)) := fun c => r3 _ (by omega) (by omega)
  have t3 : p + 3 < q → z_in 97 122 (T (p + 3)) := fun c => r3 _ (by omega) (by omega)
  have f : q - p = 1 ∨ q - p = 2 ∨ q - p = 3 ∨ q - p = 4 := by omega
  have e0 : y_lt T p q 0 = T (p + 0) - 96 := if_pos (by omega)
  have e1 : y_lt T p q 1 = if p + 1 < q then T (p + 1) - 96 else 0 := rfl
  have e2 : y_lt T p q 2 = if p + 2 < q then T (p + 2) - 96 else 0 := rfl
  have e3 : y_lt T p q 3 = if p + 3 < q then T (p + 3) - 96 else 0 := rfl
  generalize y_lt T p q 0 = a at *
  generalize y_lt T p q 1 = b at *
  generalize y_lt T p q 2 = c at *
  generalize y_lt T p q 3 = d at *
  unfold z_in at t0 t1 t2 t3
  unfold z_ltr z_pk
  rcases f with f | f | f | f
  · rw [if_neg (by omega)] at e1 e2 e3
    rw [f]
    simp only [y_pf]
    refine ⟨by omega, ?_⟩
    rw [if_pos e1]
    omega
  · rw [if_pos (by omega)] at e1
    rw [if_neg (by omega)] at e2 e3
    have t1 := t1 (by omega)
    rw [f]
    simp only [y_pf]
    refine ⟨by omega, ?_⟩
    rw [if_neg (by omega), if_pos e2]
    omega
  · rw [if_pos (by omega)] at e1 e2
    rw [if_neg (by omega)] at e3
    have t1 := t1 (by omega)
    have t2 := t2 (by omega)
    rw [f]
    simp only [y_pf]
    refine ⟨by omega, ?_⟩
    rw [if_neg (by omega), if_neg (by omega), if_pos e3]
    omega
  · rw [if_pos (by omega)] at e1 e2 e3
    have t1 := t1 (by omega)
    have t2 := t2 (by omega)
    have t3 := t3 (by omega)
    rw [f]
    simp only [y_pf]
    refine ⟨by omega, ?_⟩
    rw [if_neg (by omega), if_neg (by omega), if_neg (by omega)]
    omega
theorem y_pk_i {a b c d a' b' c' d' : Int} (h : z_ltr a b c d) (h' : z_ltr a' b' c' d') : z_pk a b c d = z_pk a' b' c' d' ↔ ((a * 27 + b) * 27 + c) * 27 + d = ((a' * 27 + b') * 27 + c') * 27 + d' := by
  obtain ⟨p1, p2, p3, p4, p5, p6⟩ := h
  obtain ⟨q1, q2, q3, q4, q5, q6⟩ := h'
  unfold z_pk
  constructor
  · intro e
    split at e <;> split at e <;> (try split at e) <;> (try split at e) <;> (try split at e) <;> (try split at e) <;> omega
  · intro e
    have : a = a' ∧ b = b' ∧ c = c' ∧ d = d' := by omega
    obtain ⟨rfl, rfl, rfl, rfl⟩ := this
    rfl
theorem y_pk_p {a b c d : Int} (h : z_ltr a b c d) : 0 < z_pk a b c d ∧ z_pk a b c d < 2147483648 := by
  obtain ⟨p1, p2, p3, p4, p5, p6⟩ := h
  unfold z_pk
  split <;> (try split) <;> (try split) <;> omega
end Nme
section Kwd
variable {W W' V V' : Nat → Nat → Int32} {T : Nat → Int} {n r p q : Nat} {kd : Int} {s g : Nat → Int} {b : Int}
def y_fs (s : Nat → Int) (v : Int) : Option Nat := z_ff (fun i => decide (s (7 + 4 * i) = v)) 0 (s 1).toNat
theorem y_Cfs (h : z_inv b s) (hn : ∀ i : Nat, (i : Int) < s 1 → 0 ≤ s (7 + 4 * i) ∧ s (7 + 4 * i) < 2147483648) {v : Int} (hv : zR v) : f_X4_findStation (zV s) (zI v) = some (zI (z_oi (y_fs s v))) := by
  obtain ⟨c0, c1, c2, c3, c4⟩ := h.1
  unfold zR at hv
  unfold f_X4_findStation
  have e := z_fnd (l := l_X4_findStation_2 (zV s) (zI v)) (H := fun k => some (zI (k : Int))) (E := some (zI (-1))) (n := (s 1).toNat) (p := fun i => decide (s (7 + 4 * i) = v)) (fun N i hi => ?_) (fun N => ?_) (s 1).toNat 0 FU (by omega) (by unfold FU; omega)
  · rw [z_l0, show zI 0 = zI ((0 : Nat) : Int) from rfl, e]
    unfold y_fs
    cases z_ff (fun i => decide (s (7 + 4 * i) = v)) 0 (s 1).toNat <;> rfl
  · have hi' := hn i (by omega)
    rw [l_X4_findStation_2]
    by_cases c : s (7 + 4 * i) = v
    · rw [if_pos (decide_eq_true c)]
      simp (disch := omega) only [z_lit, z_n, z_add, z_sub, z_mul, z_neg, z_lt1, z_lt0, z_le1, z_le0, z_eq1, z_eq0, z_10, ↓reduceIte, z_v, z_upd, z_ue, z_un, z_ixn, z_ixo, z_ix0, z_ix1, z_ix2, z_ix3, z_ix4, z_ix5, z_ix6, Int.reduceToNat, z_inr, z_gd, ↓z_bnd, ↓z_jn, z_bdc, z_bd2, z_opn, z_ops, z_z01, z_Bt, z_Bf]
    · conv => rhs; rw [if_neg (by simp [c])]
      simp (disch := omega) only [z_lit, z_n, z_add, z_sub, z_mul, z_neg, z_lt1, z_lt0, z_le1, z_le0, z_eq1, z_eq0, z_10, ↓reduceIte, z_v, z_upd, z_ue, z_un, z_ixn, z_ixo, z_ix0, z_ix1, z_ix2, z_ix3, z_ix4, z_ix5, z_ix6, Int.reduceToNat, z_inr, z_gd, ↓z_bnd, ↓z_jn, z_bdc, z_bd2, z_opn, z_ops, z_z01, z_Bt, z_Bf]
  · rw [l_X4_findStation_2]
    simp (disch := omega) only [z_lit, z_n, z_add, z_sub, z_mul, z_neg, z_lt1, z_lt0, z_le1, z_le0, z_eq1, z_eq0, z_10, ↓reduceIte, z_v, z_upd, z_ue, z_un, z_ixn, z_ixo, z_ix0, z_ix1, z_ix2, z_ix3, z_ix4, z_ix5, z_ix6, Int.reduceToNat, z_inr, z_gd, ↓z_bnd, ↓z_jn, z_bdc, z_bd2, z_opn, z_ops, z_z01, z_Bt, z_Bf]
theorem y_oi_b {p : Nat → Bool} {m : Nat} : -1 ≤ z_oi (z_ff p 0 m) ∧ z_oi (z_ff p 0 m) < m := by
  cases e : z_ff p 0 m with
  | none => exact ⟨Int.le_refl _, show (-1 : Int) < (m : Int) by omega⟩
  | some k =>
    have := z_ff_s _ _ _ e
    unfold z_oi
    simp only
    omega
/-- names in the class's table and in the reference's -/
def y_wn (T : Nat → Int) (p q : Nat) : Int := if q - p ≤ 4 then y_pf T p (q - p) else 0
/-- the keywords -/
def y_kw (T : Nat → Int) (p q j : Nat) : Prop := q - p = lenS j ∧ ∀ i, i < lenS j → zI (T (p + i)) = chS j i
theorem y_lens : ∀ j, 1 ≤ j → j ≤ 8 → 1 ≤ lenS j ∧ lenS j ≤ 7 := by
  have : ∀ j : Fin 9, 1 ≤ j.1 → 1 ≤ lenS j.1 ∧ lenS j.1 ≤ 7 := by decide
  exact fun j a b => this ⟨j, by omega⟩ a
theorem y_let : ∀ j i, 1 ≤ j → j ≤ 8 → i < lenS j → ∃ c : Int, chS j i = zI c ∧ 97 ≤ c ∧ c ≤ 122 := by
  have : ∀ j : Fin 9, ∀ i : Fin 8, 1 ≤ j.1 → i.1 < lenS j.1 → chS j.1 i.1 = zI (chS j.1 i.1).toInt ∧ 97 ≤ (chS j.1 i.1).toInt ∧ (chS j.1 i.1).toInt ≤ 122 := by decide
  intro j i a b c
  have l := y_lens j a b
  exact ⟨_, this ⟨j, by omega⟩ ⟨i, by omega⟩ a c⟩
theorem y_kw12 : ¬ (y_kw T p q 1 ∧ y_kw T p q 2) := fun ⟨a, b⟩ => by
  have e : lenS 1 ≠ lenS 2 := by decide
  exact e (a.1.symm.trans b.1)
theorem y_Cit (h : z_CT T n W) (h2 : W 15 2 = zI p) (h3 : W 15 3 = zI q) (hp : p ≤ q) (hq : q ≤ n) {j : Nat} (h1 : 1 ≤ j) (h8 : j ≤ 8) : (y_kw T p q j → f_X6_isText W j = some (zI 1)) ∧ (¬ y_kw T p q j → f_X6_isText W j = some (zI 0)) := by
  have hn := h.2.2.1
  have hl := y_lens j h1 h8
  unfold f_X6_isText
  rw [h2, h3, z_sub, z_n]
  by_cases c : q - p = lenS j
  · rw [z_eqT (by omega)]
    suffices H : ∀ d N m, m + d = lenS j → d < N → ((∀ i, m ≤ i → i < lenS j → zI (T (p + i)) = chS j i) → l_X6_isText_20 W j N (zI (m : Nat)) = some (zI 1)) ∧ (¬ (∀ i, m ≤ i → i < lenS j → zI (T (p + i)) = chS j i) → l_X6_isText_20 W j N (zI (m : Nat)) = some (zI 0)) by
      have e := H (lenS j) FU 0 (by omega) (by unfold FU; omega)
      rw [z_l0, show zI 0 = zI ((0 : Nat) : Int) from rfl]
      exact ⟨fun k => e.1 (fun i _ b => k.2 i b), fun k => e.2 (fun f => k ⟨c, fun i b => f i (by omega) b⟩)⟩
    intro d
    induction d with
    | zero =>
      intro N m hm hN
      obtain ⟨M, rfl⟩ : ∃ M, N = M + 1 := ⟨N - 1, by omega⟩
      rw [l_X6_isText_20, z_n, z_leT (by omega) (by omega) (by omega)]
      exact ⟨fun _ => by rw [z_l1], fun f => absurd (fun i a b => absurd b (by omega)) f⟩
    | succ d ih =>
      intro N m hm hN
      obtain ⟨M, rfl⟩ : ∃ M, N = M + 1 := ⟨N - 1, by omega⟩
      have nx := ih M (m + 1) (by omega) (by omega)
      rw [l_X6_isText_20, z_n, z_leF (by omega) (by omega) (by omega), h2, z_add, show (p : Int) + (m : Int) = ((p + m : Nat) : Int) by omega, z_Cby h (by omega), z_bdc, z_inr (by omega) (by omega) (by omega), z_gd, z_ixn (by omega)]
      by_cases e : zI (T (p + m)) = chS j m
      · rw [if_pos e, z_l1, z_add]
        refine ⟨fun f => nx.1 (fun i a b => f i (by omega) b), fun f => nx.2 (fun f' => f (fun i a b => ?_))⟩
        by_cases e2 : i = m
        · rw [e2]; exact e
        · exact f' i (by omega) b
      · rw [if_neg e]
        exact ⟨fun f => absurd (f m (by omega) (by omega)) e, fun _ => by rw [z_l0]⟩
  · rw [z_eqF (by omega) (by omega) (by omega) (by omega) (by omega)]
    exact ⟨fun k => absurd k.1 c, fun _ => by rw [z_l0]⟩
theorem y_kwk (t : z_tok T n r p q kd) {j : Nat} (h1 : 1 ≤ j) (h8 : j ≤ 8) (hT : ∀ k, 0 ≤ T k ∧ T k ≤ 255) (k : y_kw T p q j) : kd = 1 := by
  have hl := y_lens j h1 h8
  obtain ⟨c, c1, c2, c3⟩ := y_let j 0 h1 h8 (by omega)
  have e := k.2 0 (by omega)
  have hT' := hT p
  rw [c1, Nat.add_zero, z_eq (by unfold zR; omega) (by unfold zR; omega)] at e
  have l := k.1
  rcases t.2.2 with ⟨d1, d2, d3⟩ | ⟨d1, d2, d3⟩
  · omega
  · rcases d3 with ⟨f1, f2⟩ | ⟨f1, f2⟩ | ⟨f1, f2, f3⟩ | ⟨f1, f2, f3, f4, f5⟩
    · exact f1
    · have := f2.2.2.1 p (by omega) f2.1
      unfold z_in at this
      omega
    · omega
    · unfold z_in at f2
      omega
end Kwd
/-! the class's parser when a fault has been noted -/
section Pa
variable {W W' W0 V V' : Nat → Nat → Int32} {T : Nat → Int} {n r p q : Nat} {kd : Int} {s g : Nat → Int} {b : Int}
/-- what the class's parser leaves alone, and the text -/
def y_Cf (T : Nat → Int) (n : Nat) (W0 W : Nat → Nat → Int32) : Prop := (∀ u, u ≠ 2 → u ≠ 13 → u ≠ 14 → u ≠ 15 → W u = W0 u) ∧ z_CT T n W
def y_Ctk2 (T : Nat → Int) (n : Nat) (W : Nat → Nat → Int32) (p q : Nat) (kd : Int) : Prop := W 15 2 = zI p ∧ W 15 3 = zI q ∧ W 15 1 = zI kd ∧ ∃ r, z_tok T n r p q kd
def y_Ce (b : Int) (T : Nat → Int) (n : Nat) (W0 : Nat → Nat → Int32) (s g : Nat → Int) (c : Int) (x : Int32) (W : Nat → Nat → Int32) : Prop := y_Cf T n W0 W ∧ (∃ p q kd, y_Ctk2 T n W p q kd) ∧ W 13 0 = zI c ∧ W 13 1 = x ∧ (1 ≤ c ∧ c ≤ 6) ∧ W 2 = zV s ∧ z_PI b s g
theorem y_tkb (h : z_tok T n r p q kd) : p ≤ q ∧ q ≤ n ∧ (0 ≤ kd ∧ kd ≤ 4) ∧ (kd = 0 → p = n ∧ q = n) ∧ (kd ≠ 0 → p < q) := by
  rcases h.2.2 with ⟨d1, d2, d3⟩ | ⟨d1, d2, d3⟩
  · omega
  · rcases d3 with ⟨f1, f2⟩ | ⟨f1, f2⟩ | ⟨f1, f2, f3⟩ | ⟨f1, f2, f3, f4, f5⟩
    · have := f2.1; have := f2.2.1; omega
    · have := f2.1; have := f2.2.1; omega
    · omega
    · omega
theorem y_tkw (h : z_tok T n r p q 1) : z_rn T n 97 122 p q := by
  rcases h.2.2 with ⟨d1, d2, d3⟩ | ⟨d1, d2, d3⟩
  · omega
  · rcases d3 with ⟨f1, f2⟩ | ⟨f1, f2⟩ | ⟨f1, f2, f3⟩ | ⟨f1, f2, f3, f4, f5⟩
    · exact f2
    all_goals omega
theorem y_tkd (h : z_tok T n r p q 2) : z_rn T n 48 57 p q := by
  rcases h.2.2 with ⟨d1, d2, d3⟩ | ⟨d1, d2, d3⟩
  · omega
  · rcases d3 with ⟨f1, f2⟩ | ⟨f1, f2⟩ | ⟨f1, f2, f3⟩ | ⟨f1, f2, f3, f4, f5⟩
    · omega
    · exact f2
    all_goals omega
theorem y_Cf_tk (h : y_Cf T n W0 W) : y_Cf T n W0 (y_Ctk W p q kd) := by
  unfold y_Ctk
  exact ⟨fun u a b c d => by rw [z_w2u d, z_w2u d, z_w2u d]; exact h.1 u a b c d, z_CT_2 (z_CT_2 (z_CT_2 h.2 (by omega)) (by omega)) (by omega)⟩
theorem y_Ctk_u {u : Nat} (h : u ≠ 15) : y_Ctk W p q kd u = W u := by
  unfold y_Ctk
  rw [z_w2u h, z_w2u h, z_w2u h]
theorem y_Ctk_t (t : z_tok T n r p q kd) : y_Ctk2 T n (y_Ctk W p q kd) p q kd := by
  unfold y_Ctk
  exact ⟨by rw [z_w2k (by omega), z_w2k (by omega), z_w2e], z_w2e, by rw [z_w2k (by omega), z_w2e], r, t⟩
theorem y_Cf_13 (h : y_Cf T n W0 W) {k : Nat} {v : Int32} : y_Cf T n W0 (w2 W 13 k v) := ⟨fun u a b c d => by rw [z_w2u b]; exact h.1 u a b c d, fun k hk => by rw [z_w2u (by omega)]; exact h.2.1 k hk, h.2.2.1, h.2.2.2.1, by rw [z_w2u (by omega)]; exact h.2.2.2.2⟩
theorem y_Cf_14 (h : y_Cf T n W0 W) {k : Nat} {v : Int32} : y_Cf T n W0 (w2 W 14 k v) := ⟨fun u a b c d => by rw [z_w2u c]; exact h.1 u a b c d, fun k hk => by rw [z_w2u (by omega)]; exact h.2.1 k hk, h.2.2.1, h.2.2.2.1, by rw [z_w2u (by omega)]; exact h.2.2.2.2⟩
theorem y_Ctk2_u (h : y_Ctk2 T n W p q kd) (e : W' 15 = W 15) : y_Ctk2 T n W' p q kd := by
  unfold y_Ctk2
  rw [e]
  exact h
theorem y_Ce_13 {c : Int} {x : Int32} (h : y_Ce b T n W0 s g c x W) {k : Nat} (hk : 2 ≤ k) {v : Int32} : y_Ce b T n W0 s g c x (w2 W 13 k v) := by
  obtain ⟨a1, ⟨p, q, kd, a2⟩, a3, a4, a5, a6, a7⟩ := h
  exact ⟨y_Cf_13 a1, ⟨p, q, kd, y_Ctk2_u a2 (z_w2u (by omega))⟩, by rw [z_w2k (by omega)]; exact a3, by rw [z_w2k (by omega)]; exact a4, a5, by rw [z_w2u (by omega)]; exact a6, a7⟩
/-- total, and what is noted stays -/
def y_T (P : (Nat → Nat → Int32) → Prop) (f : (Nat → Nat → Int32) → Option (Nat → Nat → Int32)) : Prop := ∀ W, P W → ∃ W', f W = some W' ∧ P W'
def y_T2 (P : (Nat → Nat → Int32) → Prop) (f : (Nat → Nat → Int32) → Option (Int32 × (Nat → Nat → Int32))) : Prop := ∀ W, P W → ∃ v W', f W = some (v, W') ∧ P W'
variable {P : (Nat → Nat → Int32) → Prop}
theorem y_T_b {f K} (h : y_T P f) (k : y_T P K) : y_T P (fun W => bdc (f W) K) := fun W w => by
  obtain ⟨W1, e1, w1⟩ := h W w
  obtain ⟨W2, e2, w2'⟩ := k W1 w1
  refine ⟨W2, ?_, w2'⟩
  dsimp only
  rw [e1, z_bdc, e2]
theorem y_T_2 {f} {K : Int32 → (Nat → Nat → Int32) → Option (Nat → Nat → Int32)} (h : y_T2 P f) (k : ∀ v, y_T P (K v)) : y_T P (fun W => bd2 (f W) K) := fun W w => by
  obtain ⟨v, W1, e1, w1⟩ := h W w
  obtain ⟨W2, e2, w2'⟩ := k v W1 w1
  refine ⟨W2, ?_, w2'⟩
  dsimp only
  rw [e1, z_bd2, e2]
theorem y_T_s : y_T P (fun W => some W) := fun W w => ⟨W, rfl, w⟩
theorem y_T_n {f : (Nat → Nat → Int32) → (Nat → Nat → Int32)} {K} (h : ∀ W, P W → P (f W)) (k : y_T P K) : y_T P (fun W => bnd (f W) K) := fun W w => k (f W) (h W w)
variable {c : Int} {x : Int32}
theorem y_Ta : y_T (y_Ce b T n W0 s g c x) f_X6_advance := fun W w => by
  obtain ⟨a1, ⟨p, q, kd, a2⟩, a3, a4, a5, a6, a7⟩ := w
  obtain ⟨r, t⟩ := a2.2.2.2
  have tb := y_tkb t
  obtain ⟨p', q', kd', t'⟩ := z_tok_x (T := T) (n := n) (r := q) (by omega)
  refine ⟨_, y_Cadv a1.2 a2.2.1 t', y_Cf_tk a1, ⟨p', q', kd', y_Ctk_t t'⟩, ?_, ?_, a5, ?_, a7⟩
  · rw [y_Ctk_u (by omega)]; exact a3
  · rw [y_Ctk_u (by omega)]; exact a4
  · rw [y_Ctk_u (by omega)]; exact a6
theorem y_Tf (d : Int32) (W) (w : y_Ce b T n W0 s g c x W) : f_X3_fail W d = some W := by
  unfold f_X3_fail
  rw [w.2.2.1, z_l0, z_eqF (by have := w.2.2.2.2.1; omega) (by have := w.2.2.2.2.1; omega) (by have := w.2.2.2.2.1; omega) (by omega) (by omega)]
theorem y_Tf' (d : Int32) : y_T (y_Ce b T n W0 s g c x) (fun W => f_X3_fail W d) := fun W w => ⟨W, y_Tf d W w, w⟩
theorem y_nmb (h : z_PI b s g) : ∀ i : Nat, (i : Int) < s 1 → 0 ≤ s (7 + 4 * i) ∧ s (7 + 4 * i) < 2147483648 := fun i hi => by
  obtain ⟨⟨a, b', c', d, q1, q2, q3⟩, -⟩ := h.2.1.2.1 i hi
  have := y_pk_p q1
  rw [q2]
  omega
theorem y_Tfs (W) (w : y_Ce b T n W0 s g c x W) (v : Int32) : ∃ y, f_X4_findStation (W 2) v = some y := by
  obtain ⟨v', rfl, hv⟩ := z_arg v
  rw [w.2.2.2.2.2.1]
  exact ⟨_, y_Cfs w.2.2.2.2.2.2.1 (y_nmb w.2.2.2.2.2.2) hv⟩
theorem y_Tft (W) (w : y_Ce b T n W0 s g c x W) (v u : Int32) : ∃ y, f_X4_findTrack (W 2) v u = some y := by
  obtain ⟨v', rfl, hv⟩ := z_arg v
  obtain ⟨u', rfl, hu⟩ := z_arg u
  rw [w.2.2.2.2.2.1]
  exact ⟨_, z_Ctk w.2.2.2.2.2.2.1 hv hu⟩
theorem y_Tpn (W) (w : y_Ce b T n W0 s g c x W) : ∃ y, f_X6_packName W = some y := by
  obtain ⟨a1, ⟨p, q, kd, a2⟩, -⟩ := w
  obtain ⟨r, t⟩ := a2.2.2.2
  have tb := y_tkb t
  exact (y_Cpn a1.2 a2.1 a2.2.1 (by omega) (by omega)).1
theorem y_Tns : y_T2 (y_Ce b T n W0 s g c x) f_X3_findNamedStation := fun W w => by
  unfold f_X3_findNamedStation
  obtain ⟨v, e1⟩ := y_Tpn W w
  obtain ⟨y, e2⟩ := y_Tfs W w v
  rw [z_jn, e1, z_bdc, e2, z_bdc, y_Tf _ W w, y_Tf _ W w]
  by_cases c1 : W 15 1 = 1
  · rw [if_pos c1]
    dsimp only
    rw [if_pos c1]
    by_cases c2 : y = -1
    · rw [if_pos c2]
      exact ⟨y, W, rfl, w⟩
    · rw [if_neg c2]
      exact ⟨y, W, rfl, w⟩
  · rw [if_neg c1]
    dsimp only
    rw [if_neg c1]
    exact ⟨-1, W, rfl, w⟩
theorem y_Tfa (d v : Int32) : y_T2 (y_Ce b T n W0 s g c x) (fun W => bdc (f_X3_fail W d) (fun W1 => bdc (f_X6_advance W1) (fun W2 => some (v, W2)))) := fun W w => by
  obtain ⟨W1, e, w1⟩ := y_Ta W w
  refine ⟨v, W1, ?_, w1⟩
  dsimp only
  rw [y_Tf d W w, z_bdc, e, z_bdc]
theorem y_Taa (v : Int32) : y_T2 (y_Ce b T n W0 s g c x) (fun W => bdc (f_X6_advance W) (fun W2 => some (v, W2))) := fun W w => by
  obtain ⟨W1, e, w1⟩ := y_Ta W w
  refine ⟨v, W1, ?_, w1⟩
  dsimp only
  rw [e, z_bdc]
theorem y_Tst : y_T2 (y_Ce b T n W0 s g c x) f_X3_takeStation := fun W w => by
  unfold f_X3_takeStation
  obtain ⟨v, W1, e1, w1⟩ := y_Tns W w
  obtain ⟨W2, e2, w2'⟩ := y_Ta W1 w1
  rw [e1, z_bd2, e2, z_bdc]
  exact ⟨v, W2, rfl, w2'⟩
theorem y_Tnn : y_T2 (y_Ce b T n W0 s g c x) f_X3_takeNewName := fun W w => by
  unfold f_X3_takeNewName
  obtain ⟨v, e1⟩ := y_Tpn W w
  obtain ⟨y, e2⟩ := y_Tfs W w v
  rw [e1, z_bdc, e2, z_bdc]
  split
  · split
    · exact y_Tfa _ _ W w
    · split
      · exact y_Taa _ W w
      · exact y_Tfa _ _ W w
  · exact y_Tfa _ _ W w
theorem y_Tss : y_T2 (y_Ce b T n W0 s g c x) f_X3_takeSecondStation := fun W w => by
  unfold f_X3_takeSecondStation
  obtain ⟨v, W1, e1, w1⟩ := y_Tns W w
  obtain ⟨y, e2⟩ := y_Tft W1 w1 (W1 13 4) v
  rw [e1, z_bd2, e2, z_bdc, z_jn]
  suffices H : ∀ z : Int32, ∃ v' W', (if (W1 13 2) = (7 : Int32) then if z = 0 then bdc (f_X3_fail W1 (5 : Int32)) (fun W19 => bdc (f_X6_advance W19) (fun W20 => some (v, W20))) else bdc (f_X6_advance W1) (fun W18 => some (v, W18)) else if (W1 13 4) = v then bdc (f_X3_fail W1 (5 : Int32)) (fun W9 => bdc (f_X6_advance W9) (fun W10 => some (v, W10))) else if (W1 13 2) = (3 : Int32) then if z = 0 then bdc (f_X6_advance W1) (fun W14 => some (v, W14)) else bdc (f_X3_fail W1 (5 : Int32)) (fun W15 => bdc (f_X6_advance W15) (fun W16 => some (v, W16))) else bdc (f_X6_advance W1) (fun W12 => some (v, W12))) = some (v', W') ∧ y_Ce b T n W0 s g c x W' by
    split
    · exact H 0
    · exact H 1
  intro z
  split
  · split
    · exact y_Tfa _ _ W1 w1
    · exact y_Taa _ W1 w1
  · split
    · exact y_Tfa _ _ W1 w1
    · split
      · split
        · exact y_Taa _ W1 w1
        · exact y_Tfa _ _ W1 w1
      · exact y_Taa _ W1 w1
theorem y_Trt : y_T (y_Ce b T n W0 s g c x) f_X3_takeRoute := fun W w => by
  unfold f_X3_takeRoute FU
  have w1 : y_Ce b T n W0 s g c x (w2 W 13 7 0) := y_Ce_13 w (by omega)
  refine ⟨w2 W 13 7 0, ?_, w1⟩
  rw [z_bnd, l_X3_takeRoute_7, w1.2.2.1, z_l0, show (6 : Int32) = zI 6 from z_lit 6, z_ltF (by omega) (by omega) (by omega), z_eqF (by have := w1.2.2.2.2.1; omega) (by have := w1.2.2.2.2.1; omega) (by have := w1.2.2.2.2.1; omega) (by omega) (by omega)]
end Pa
/-! the class's parser while all is well -/
section Pb
variable {W W' W0 V V' : Nat → Nat → Int32} {T : Nat → Int} {n r p q p' q' : Nat} {kd kd' : Int} {s g : Nat → Int} {b : Int} {c : Int} {x : Int32}
theorem y_Crn (h : z_CT T n W) (h2 : W 15 2 = zI p) (h3 : W 15 3 = zI q) (hr : z_rn T n 48 57 p q) : f_X6_readNumber W = some (zI (y_cv T p (q - p))) := by
  have hn := h.2.2.1
  obtain ⟨r1, r2, r3, -⟩ := hr
  have B : ∀ d N m, m + d = q → p ≤ m → d < N → l_X6_readNumber_7 W N (zI (y_cv T p (m - p))) (zI (m : Nat)) = some (zI (y_cv T p (q - p))) := by
    intro d
    induction d with
    | zero =>
      intro N m hm hp' hN
      obtain ⟨M, rfl⟩ : ∃ M, N = M + 1 := ⟨N - 1, by omega⟩
      obtain rfl : m = q := by omega
      rw [l_X6_readNumber_7, h3, z_leT (by omega) (by omega) (by omega)]
    | succ d ih =>
      intro N m hm hp' hN
      obtain ⟨M, rfl⟩ : ∃ M, N = M + 1 := ⟨N - 1, by omega⟩
      have hT := h.2.1 m
      have vb := (y_cv_b (T := T) (p := p) (m - p) (fun k a b => r3 k a (by omega))).1
      have nx := ih M (m + 1) (by omega) (by omega) (by omega)
      rw [show m + 1 - p = (m - p) + 1 by omega, y_cv, show p + (m - p) = m by omega] at nx
      rw [l_X6_readNumber_7, h3, z_leF (by omega) (by omega) (by omega), z_Cby h (by omega), z_bdc, z_bnd, show (10 : Int32) = zI 10 from z_lit 10, show (48 : Int32) = zI 48 from z_lit 48, show (1000 : Int32) = zI 1000 from z_lit 1000, z_mul, z_add, z_sub, z_l1, z_add]
      by_cases e : y_cv T p (m - p) * 10 + T m - 48 < 1000
      · rw [if_pos e] at nx
        rw [z_ltT e (by omega) (by omega)]
        exact nx
      · rw [if_neg e] at nx
        rw [z_ltF (by omega) (by omega) (by omega)]
        exact nx
  unfold f_X6_readNumber
  have := B (q - p) FU p (by omega) (by omega) (by unfold FU; omega)
  rw [Nat.sub_self] at this
  rw [h2, z_bnd, z_l0]
  exact this
theorem y_Tnm (lo hi : Int32) : y_T2 (y_Ce b T n W0 s g c x) (fun W => f_X3_takeNumber W lo hi) := fun W w => by
  dsimp only
  unfold f_X3_takeNumber
  rw [z_jn]
  by_cases c1 : W 15 1 = 2
  · rw [if_pos c1]
    have e1 : ∃ v, f_X6_readNumber W = some v := by
      obtain ⟨a1, ⟨p, q, kd, a2⟩, -⟩ := w
      obtain ⟨r, t⟩ := a2.2.2.2
      have tb := y_tkb t
      have e := a2.2.2.1
      rw [c1, z_l2, z_eq (by unfold zR; omega) (by unfold zR; omega)] at e
      subst e
      exact ⟨_, y_Crn a1.2 a2.1 a2.2.1 (y_tkd t)⟩
    obtain ⟨v, e1⟩ := e1
    rw [e1, z_bdc]
    dsimp only
    rw [if_pos c1]
    split
    · exact y_Tfa _ _ W w
    · split
      · exact y_Taa _ W w
      · exact y_Tfa _ _ W w
  · rw [if_neg c1]
    dsimp only
    rw [if_neg c1]
    exact y_Tfa _ _ W w
noncomputable def y_end (W5 : Nat → Nat → Int32) : Option (Nat → Nat → Int32) := if (W5 15 1) = (3 : Int32) then bdc (f_X6_advance W5) (fun W58 => some W58) else bdc (f_X3_fail W5 (1 : Int32)) (fun W59 => bdc (f_X6_advance W59) (fun W60 => some W60))
theorem y_Ten : y_T (y_Ce b T n W0 s g c x) y_end := fun W w => by
  unfold y_end
  obtain ⟨W1, e, w1⟩ := y_Ta W w
  split
  · rw [e, z_bdc]
    exact ⟨W1, rfl, w1⟩
  · rw [y_Tf _ W w, z_bdc, e, z_bdc]
    exact ⟨W1, rfl, w1⟩
def y_Cg (b : Int) (T : Nat → Int) (n : Nat) (W0 : Nat → Nat → Int32) (s g : Nat → Int) (p q : Nat) (kd : Int) (W : Nat → Nat → Int32) : Prop := y_Cf T n W0 W ∧ y_Ctk2 T n W p q kd ∧ W 13 0 = zI 0 ∧ W 13 1 = zI (-1) ∧ W 2 = zV s ∧ z_PI b s g
theorem y_Cg_13 (h : y_Cg b T n W0 s g p q kd W) {k : Nat} (hk : 2 ≤ k) {v : Int32} : y_Cg b T n W0 s g p q kd (w2 W 13 k v) := by
  obtain ⟨a1, a2, a3, a4, a6, a7⟩ := h
  exact ⟨y_Cf_13 a1, y_Ctk2_u a2 (z_w2u (by omega)), by rw [z_w2k (by omega)]; exact a3, by rw [z_w2k (by omega)]; exact a4, by rw [z_w2u (by omega)]; exact a6, a7⟩
theorem y_Cg_14 (h : y_Cg b T n W0 s g p q kd W) {k : Nat} {v : Int32} : y_Cg b T n W0 s g p q kd (w2 W 14 k v) := by
  obtain ⟨a1, a2, a3, a4, a6, a7⟩ := h
  exact ⟨y_Cf_14 a1, y_Ctk2_u a2 (z_w2u (by omega)), by rw [z_w2u (by omega)]; exact a3, by rw [z_w2u (by omega)]; exact a4, by rw [z_w2u (by omega)]; exact a6, a7⟩
theorem y_Cg_b (h : y_Cg b T n W0 s g p q kd W) : p ≤ q ∧ q ≤ n ∧ n ≤ 600 ∧ (0 ≤ kd ∧ kd ≤ 4) ∧ (kd = 0 → p = n ∧ q = n) ∧ (kd ≠ 0 → p < q) := by
  obtain ⟨r, t⟩ := h.2.1.2.2.2
  have := y_tkb t
  exact ⟨this.1, this.2.1, h.1.2.2.2.1, this.2.2⟩
theorem y_ga (h : y_Cg b T n W0 s g p q kd W) (t : z_tok T n q p' q' kd') : f_X6_advance W = some (y_Ctk W p' q' kd') ∧ y_Cg b T n W0 s g p' q' kd' (y_Ctk W p' q' kd') := by
  obtain ⟨a1, a2, a3, a4, a6, a7⟩ := h
  refine ⟨y_Cadv a1.2 a2.2.1 t, y_Cf_tk a1, y_Ctk_t t, ?_, ?_, ?_, a7⟩
  · rw [y_Ctk_u (by omega)]; exact a3
  · rw [y_Ctk_u (by omega)]; exact a4
  · rw [y_Ctk_u (by omega)]; exact a6
theorem y_gf (h : y_Cg b T n W0 s g p q kd W) {c : Int} (hc : 1 ≤ c ∧ c ≤ 6) : ∃ W', f_X3_fail W (zI c) = some W' ∧ y_Ce b T n W0 s g c (zI p) W' ∧ (∀ k, 2 ≤ k → W' 13 k = W 13 k) := by
  obtain ⟨a1, a2, a3, a4, a6, a7⟩ := h
  refine ⟨w2 (w2 W 13 0 (zI c)) 13 1 (zI p), ?_, ⟨y_Cf_13 (y_Cf_13 a1), ⟨p, q, kd, y_Ctk2_u a2 (by rw [z_w2u (by omega), z_w2u (by omega)])⟩, by rw [z_w2k (by omega), z_w2e], z_w2e, hc, by rw [z_w2u (by omega), z_w2u (by omega)]; exact a6, a7⟩, fun k hk => by rw [z_w2k (by omega), z_w2k (by omega)]⟩
  unfold f_X3_fail
  rw [a3, z_l0, if_pos rfl, z_bnd, z_bnd, z_w2u (by omega), a2.1]
theorem y_gfa (h : y_Cg b T n W0 s g p q kd W) {c : Int} (hc : 1 ≤ c ∧ c ≤ 6) (v : Int32) : ∃ W', bdc (f_X3_fail W (zI c)) (fun W1 => bdc (f_X6_advance W1) (fun W2 => some (v, W2))) = some (v, W') ∧ y_Ce b T n W0 s g c (zI p) W' := by
  obtain ⟨W1, e1, w1, -⟩ := y_gf h hc
  obtain ⟨W2, e2, w2'⟩ := y_Ta W1 w1
  rw [e1, z_bdc, e2, z_bdc]
  exact ⟨W2, rfl, w2'⟩
/-- a number -/
theorem y_gn (h : y_Cg b T n W0 s g p q kd W) (t : z_tok T n q p' q' kd') {lo hi : Int} (hl : 0 ≤ lo ∧ lo ≤ 60) (hh : 0 ≤ hi ∧ hi ≤ 60) :
    (kd ≠ 2 → ∃ v W', f_X3_takeNumber W (zI lo) (zI hi) = some (v, W') ∧ y_Ce b T n W0 s g 1 (zI p) W') ∧
    (kd = 2 → ¬ (lo ≤ y_cv T p (q - p) ∧ y_cv T p (q - p) ≤ hi) → ∃ v W', f_X3_takeNumber W (zI lo) (zI hi) = some (v, W') ∧ y_Ce b T n W0 s g 2 (zI p) W') ∧
    (kd = 2 → (lo ≤ y_cv T p (q - p) ∧ y_cv T p (q - p) ≤ hi) → f_X3_takeNumber W (zI lo) (zI hi) = some (zI (y_cv T p (q - p)), y_Ctk W p' q' kd')) := by
  have hb := y_Cg_b h
  obtain ⟨r, t0⟩ := h.2.1.2.2.2
  unfold f_X3_takeNumber
  rw [z_jn, h.2.1.2.2.1, z_l2]
  refine ⟨fun c => ?_, fun c d => ?_, fun c d => ?_⟩
  · rw [z_eqF c (by omega) (by omega) (by omega) (by omega)]
    dsimp only
    rw [z_eqF c (by omega) (by omega) (by omega) (by omega), z_l1]
    obtain ⟨W1, e1, w1⟩ := y_gfa h (c := 1) (by omega) (-zI 1)
    exact ⟨_, W1, e1, w1⟩
  all_goals
    subst c
    have hr := y_tkd t0
    have vb := (y_cv_b (T := T) (p := p) (q - p) (fun k a b => hr.2.2.1 k a (by omega))).1
    rw [if_pos rfl, y_Crn h.1.2 h.2.1.1 h.2.1.2.1 hr, z_bdc]
    dsimp only
    rw [if_pos rfl]
  · obtain ⟨W1, e1, w1⟩ := y_gfa h (c := 2) (by omega) (zI (y_cv T p (q - p)))
    by_cases e : y_cv T p (q - p) < lo
    · rw [z_ltT e (by omega) (by omega)]
      exact ⟨_, W1, e1, w1⟩
    · rw [z_ltF (by omega) (by omega) (by omega), z_leF (by omega) (by omega) (by omega)]
      exact ⟨_, W1, e1, w1⟩
  · rw [z_ltF (by omega) (by omega) (by omega), z_leT (by omega) (by omega) (by omega), (y_ga h t).1, z_bdc]
def y_st (T : Nat → Int) (s : Nat → Int) (p q : Nat) : Int := z_oi (y_fs s (y_wn T p q))
theorem y_wn_b (hr : z_rn T n 97 122 p q) : 0 ≤ y_wn T p q ∧ y_wn T p q < 2147483648 := by
  unfold y_wn
  split
  · next c =>
    have := (y_wlt hr c)
    rw [← this.2]
    have := y_pk_p this.1
    omega
  · omega
theorem y_st_b (h : z_PI b s g) : -1 ≤ y_st T s p q ∧ y_st T s p q < s 1 := by
  have := y_oi_b (p := fun i => decide (s (7 + 4 * i) = y_wn T p q)) (m := (s 1).toNat)
  have c := h.1.1.2.1
  unfold y_st y_fs
  omega
/-- a station's name -/
theorem y_gpn (h : y_Cg b T n W0 s g p q kd W) : (∃ v, f_X6_packName W = some v) ∧ (kd = 1 → f_X6_packName W = some (zI (y_wn T p q))) := by
  have hb := y_Cg_b h
  obtain ⟨r, t0⟩ := h.2.1.2.2.2
  have e := y_Cpn h.1.2 h.2.1.1 h.2.1.2.1 (by omega) (by omega)
  refine ⟨e.1, fun c => ?_⟩
  subst c
  unfold y_wn
  by_cases d : q - p ≤ 4
  · rw [if_pos d, e.2.2 d (y_tkw t0).2.2.1]
  · rw [if_neg d, e.2.1 (by omega)]
theorem y_gs (h : y_Cg b T n W0 s g p q kd W) :
    (kd ≠ 1 → ∃ v W', f_X3_findNamedStation W = some (v, W') ∧ y_Ce b T n W0 s g 1 (zI p) W' ∧ (∀ k, 2 ≤ k → W' 13 k = W 13 k)) ∧
    (kd = 1 → y_st T s p q = -1 → ∃ v W', f_X3_findNamedStation W = some (v, W') ∧ y_Ce b T n W0 s g 4 (zI p) W' ∧ (∀ k, 2 ≤ k → W' 13 k = W 13 k)) ∧
    (kd = 1 → y_st T s p q ≠ -1 → f_X3_findNamedStation W = some (zI (y_st T s p q), W)) := by
  have hb := y_Cg_b h
  obtain ⟨r, t0⟩ := h.2.1.2.2.2
  have sb := y_st_b (T := T) (p := p) (q := q) h.2.2.2.2.2
  have c1 := h.2.2.2.2.2.1.1.2.1
  unfold f_X3_findNamedStation
  rw [z_jn, h.2.1.2.2.1, z_l1]
  refine ⟨fun c => ?_, fun c d => ?_, fun c d => ?_⟩
  · rw [z_eqF c (by omega) (by omega) (by omega) (by omega)]
    dsimp only
    rw [z_eqF c (by omega) (by omega) (by omega) (by omega)]
    obtain ⟨W1, e1, w1, k1⟩ := y_gf h (c := 1) (by omega)
    rw [e1, z_bdc]
    exact ⟨_, W1, rfl, w1, k1⟩
  all_goals
    have wb := y_wn_b (y_tkw (c ▸ t0))
    rw [if_pos (by rw [c]), (y_gpn h).2 c, z_bdc, h.2.2.2.2.1, y_Cfs h.2.2.2.2.2.1 (y_nmb h.2.2.2.2.2) (by unfold zR; omega), z_bdc]
    dsimp only
    rw [if_pos (by rw [c]), show (-zI 1 : Int32) = zI (-1) from rfl, show z_oi (y_fs s (y_wn T p q)) = y_st T s p q from rfl]
  · obtain ⟨W1, e1, w1, k1⟩ := y_gf h (c := 4) (by omega)
    rw [if_pos (by rw [d]), show (4 : Int32) = zI 4 from z_lit 4, e1, z_bdc]
    exact ⟨_, W1, rfl, w1, k1⟩
  · rw [z_eqF d (by omega) (by omega) (by omega) (by omega)]
end Pb
