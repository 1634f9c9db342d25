/-! names and keywords -/
def y_pf (T : Nat → Int) (p : Nat) : Nat → Int
  | 0 => 0
  | m + 1 => y_pf T p m * 256 + T (p + m)
def y_lt (T : Nat → Int) (p q j : Nat) : Int := if p + j < q then T (p + j) - 96 else 0
def y_nv (T : Nat → Int) (p q : Nat) : Nat → Int
  | 0 => 0
  | m + 1 => y_nv T p q m * 27 + y_lt T p q m
/-- what is read as a word here -/
def y_wd (T : Nat → Int) (n p q : Nat) : Prop := z_rn T n 97 122 p q
section Nme
variable {W W' V V' : Nat → Nat → Int32} {T : Nat → Int} {n r p q : Nat} {kd : Int} {s g : Nat → Int} {b : Int}
theorem y_shl {x y : Int} (hx : 0 ≤ x ∧ x < 8388608) (hy : 0 ≤ y ∧ y < 256) : (zI x <<< ((8 : Int32) &&& 31)) ||| zI y = zI (x * 256 + y) := by
  obtain ⟨m, rfl⟩ : ∃ m : Nat, x = m := ⟨x.toNat, by omega⟩
  obtain ⟨k, rfl⟩ : ∃ k : Nat, y = k := ⟨y.toNat, by omega⟩
  rw [show (m : Int) * 256 + (k : Int) = ((m * 256 + k : Nat) : Int) by omega]
  apply Int32.toBitVec.inj
  rw [z_bvn (by omega), Int32.toBitVec_or, Int32.toBitVec_shiftLeft, z_bvn (by omega), z_bvn (by omega)]
  rw [show (((8 : Int32) &&& 31).toBitVec.smod 32) = BitVec.ofNat 32 8 by decide]
  apply BitVec.eq_of_toNat_eq
  rw [BitVec.toNat_or, BitVec.shiftLeft_eq', BitVec.toNat_shiftLeft, BitVec.toNat_ofNat, BitVec.toNat_ofNat, BitVec.toNat_ofNat, BitVec.toNat_ofNat, Nat.mod_eq_of_lt (show m < 2 ^ 32 by omega), Nat.mod_eq_of_lt (show k < 2 ^ 32 by omega), Nat.mod_eq_of_lt (show 8 < 2 ^ 32 by omega), Nat.mod_eq_of_lt (show m * 256 + k < 2 ^ 32 by omega), Nat.shiftLeft_eq, Nat.mod_eq_of_lt (show m * 2 ^ 8 < 2 ^ 32 by omega)]
  have := Nat.two_pow_add_eq_or_of_lt (i := 8) (b := k) (by omega) m
  rw [Nat.mul_comm m, ← this]
theorem y_Cbt (h : z_CT T n W) {k : Nat} (hk : k < 1000000) : ∃ x, f_X6_byteAt W (zI (k : Int)) = some x := by
  by_cases e : k < 600
  · exact ⟨_, z_Cby h e⟩
  · exact ⟨_, z_Cbx (by omega) hk⟩
theorem y_Cpn (h : z_CT T n W) (h2 : W 15 2 = zI p) (h3 : W 15 3 = zI q) (hq : q ≤ n) (hp : p ≤ q) : (∃ v, f_X6_packName W = some v) ∧ (4 < q - p → f_X6_packName W = some (zI 0)) ∧ (q - p ≤ 4 → (∀ k, p ≤ k → k < q → z_in 97 122 (T k)) → f_X6_packName W = some (zI (y_pf T p (q - p)))) := by
  have hn := h.2.2.1
  have A : q - p ≤ 4 → ∀ d N m x, m + d = q → p ≤ m → d < N → ∃ v, l_X6_packName_22 W N x (zI (m : Nat)) = some v := by
    intro hle d
    induction d with
    | zero =>
      intro N m x hm hp' hN
      obtain ⟨M, rfl⟩ : ∃ M, N = M + 1 := ⟨N - 1, by omega⟩
      obtain rfl : m = q := by omega
      rw [l_X6_packName_22, h3, z_leT (by omega) (by omega) (by omega)]
      exact ⟨x, rfl⟩
    | succ d ih =>
      intro N m x hm hp' hN
      obtain ⟨M, rfl⟩ : ∃ M, N = M + 1 := ⟨N - 1, by omega⟩
      obtain ⟨v, hv⟩ := y_Cbt h (k := m) (by omega)
      rw [l_X6_packName_22, h3, z_leF (by omega) (by omega) (by omega), hv, z_bdc, z_bnd, z_l1, z_add]
      exact ih M (m + 1) _ (by omega) (by omega) (by omega)
  have B : q - p ≤ 4 → (∀ k, p ≤ k → k < q → z_in 97 122 (T k)) → ∀ d N m, m + d = q → p ≤ m → d < N → l_X6_packName_22 W N (zI (y_pf T p (m - p))) (zI (m : Nat)) = some (zI (y_pf T p (q - p))) := by
    intro hle hr d
    induction d with
    | zero =>
      intro N m hm hp' hN
      obtain ⟨M, rfl⟩ : ∃ M, N = M + 1 := ⟨N - 1, by omega⟩
      obtain rfl : m = q := by omega
      rw [l_X6_packName_22, h3, z_leT (by omega) (by omega) (by omega)]
    | succ d ih =>
      intro N m hm hp' hN
      obtain ⟨M, rfl⟩ : ∃ M, N = M + 1 := ⟨N - 1, by omega⟩
      have hT := h.2.1 m
      have hb : 0 ≤ y_pf T p (m - p) ∧ y_pf T p (m - p) < 8388608 := by
        have f : m - p = 0 ∨ m - p = 1 ∨ m - p = 2 ∨ m - p = 3 := by omega
        have t0 : p < q → z_in 97 122 (T (p + 0)) := fun c => hr _ (by omega) (by omega)
        have t1 : p + 1 < q → z_in 97 122 (T (p + 1)) := fun c => hr _ (by omega) (by omega)
        have t2 : p + 2 < q → z_in 97 122 (T (p + 2)) := fun c => hr _ (by omega) (by omega)
        unfold z_in at t0 t1 t2
        rcases f with f | f | f | f <;> rw [f] <;> simp only [y_pf] <;> omega
      rw [l_X6_packName_22, h3, z_leF (by omega) (by omega) (by omega), z_Cby h (by omega), z_bdc, z_bnd, y_shl hb ⟨by omega, by omega⟩, z_l1, z_add]
      have nx := ih M (m + 1) (by omega) (by omega) (by omega)
      rw [show m + 1 - p = (m - p) + 1 by omega, y_pf, show p + (m - p) = m by omega] at nx
      exact nx
  unfold f_X6_packName
  rw [h2, h3, z_sub, show (4 : Int32) = zI 4 from z_lit 4]
  by_cases c : q - p ≤ 4
  · rw [z_leT (by omega) (by omega) (by omega), z_bnd]
    refine ⟨A c (q - p) FU p _ (by omega) (by omega) (by unfold FU; omega), fun e => absurd c (by omega), fun _ hr => ?_⟩
    have := B c hr (q - p) FU p (by omega) (by omega) (by unfold FU; omega)
    rw [Nat.sub_self] at this
    exact this
  · rw [z_leF (by omega) (by omega) (by omega)]
    exact ⟨⟨_, rfl⟩, fun _ => by rw [z_l0], fun e => absurd e c⟩
theorem y_wlt (h : z_rn T n 97 122 p q) (hq : q - p ≤ 4) : z_ltr (y_lt T p q 0) (y_lt T p q 1) (y_lt T p q 2) (y_lt T p q 3) ∧ z_pk (y_lt T p q 0) (y_lt T p q 1) (y_lt T p q 2) (y_lt T p q 3) = y_pf T p (q - p) := by
  obtain ⟨r1, r2, r3, -⟩ := h
  have t0 : z_in 97 122 (T (p + 0)) := r3 _ (by omega) (by omega)
  have t1 : p + 1 < q → z_in 97 122 (T (p + 1)) := fun c => r3 _ (by omega) (by omega)
  have t2 : p + 2 < q → z_in 97 122 (T (p + 2)) := fun c => r3 _ (by omega) (by omega)
  have t3 : p + 3 < q → z_in 97 122 (T (p + 3)) := fun c => r3 _ (by omega) (by omega)
  have f : q - p = 1 ∨ q - p = 2 ∨ q - p = 3 ∨ q - p = 4 := by omega
  have e0 : y_lt T p q 0 = T (p + 0) - 96 := if_pos (by omega)
  have e1 : y_lt T p q 1 = if p + 1 < q then T (p + 1) - 96 else 0 := rfl
  have e2 : y_lt T p q 2 = if p + 2 < q then T (p + 2) - 96 else 0 := rfl
  have e3 : y_lt T p q 3 = if p + 3 < q then T (p + 3) - 96 else 0 := rfl
  generalize y_lt T p q 0 = a at *
  generalize y_lt T p q 1 = b at *
  generalize y_lt T p q 2 = c at *
  generalize y_lt T p q 3 = d at *
  unfold z_in at t0 t1 t2 t3
  unfold z_ltr z_pk
  rcases f with f | f | f | f
  · rw [if_neg (by omega)] at e1 e2 e3
    rw [f]
    simp only [y_pf]
    refine ⟨by omega, ?_⟩
    rw [if_pos e1]
    omega
  · rw [if_pos (by omega)] at e1
    rw [if_neg (by omega)] at e2 e3
    have t1 := t1 (by omega)
    rw [f]
    simp only [y_pf]
    refine ⟨by omega, ?_⟩
    rw [if_neg (by omega), if_pos e2]
    omega
  · rw [if_pos (by omega)] at e1 e2
    rw [if_neg (by omega)] at e3
    have t1 := t1 (by omega)
    have t2 := t2 (by omega)
    rw [f]
    simp only [y_pf]
    refine ⟨by omega, ?_⟩
    rw [if_neg (by omega), if_neg (by omega), if_pos e3]
    omega
  · rw [if_pos (by omega)] at e1 e2 e3
    have t1 := t1 (by omega)
    have t2 := t2 (by omega)
    have t3 := t3 (by omega)
    rw [f]
    simp only [y_pf]
    refine ⟨by omega, ?_⟩
    rw [if_neg (by omega), if_neg (by omega), if_neg (by omega)]
    omega
theorem y_pk_i {a b c d a' b' c' d' : Int} (h : z_ltr a b c d) (h' : z_ltr a' b' c' d') : z_pk a b c d = z_pk a' b' c' d' ↔ ((a * 27 + b) * 27 + c) * 27 + d = ((a' * 27 + b') * 27 + c') * 27 + d' := by
  obtain ⟨p1, p2, p3, p4, p5, p6⟩ := h
  obtain ⟨q1, q2, q3, q4, q5, q6⟩ := h'
  unfold z_pk
  constructor
  · intro e
    split at e <;> split at e <;> (try split at e) <;> (try split at e) <;> (try split at e) <;> (try split at e) <;> omega
  · intro e
    have : a = a' ∧ b = b' ∧ c = c' ∧ d = d' := by omega
    obtain ⟨rfl, rfl, rfl, rfl⟩ := this
    rfl
theorem y_pk_p {a b c d : Int} (h : z_ltr a b c d) : 0 < z_pk a b c d ∧ z_pk a b c d < 2147483648 := by
  obtain ⟨p1, p2, p3, p4, p5, p6⟩ := h
  unfold z_pk
  split <;> (try split) <;> (try split) <;> omega
end Nme
