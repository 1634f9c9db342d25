/-! the balances -/
def x_pr (v : Nat → Int) (i : Int) (k : Nat) : Bool := decide (0 ≤ v k ∧ v k < i)
section Bal
variable {b : Int} {s s' : Nat → Int} {W : Nat → Nat → Int32}
theorem x_ct_add {p q r : Nat → Bool} : ∀ d i, (∀ j, i ≤ j → j < i + d → r j = (p j || q j) ∧ (p j && q j) = false) → z_ct p i d + z_ct q i d = z_ct r i d
  | 0, _, _ => rfl
  | d + 1, i, h => by
    have e := x_ct_add d (i + 1) (fun j h1 h2 => h j (by omega) (by omega))
    obtain ⟨h1, h2⟩ := h i (by omega) (by omega)
    unfold z_ct
    rw [← e, h1]
    cases hp : p i <;> cases hq : q i
    · simp
    · simp; omega
    · simp; omega
    · rw [hp, hq] at h2; cases h2
theorem x_ct_t : ∀ d i, z_ct (fun _ => true) i d = d
  | 0, _ => rfl
  | d + 1, i => by
    unfold z_ct
    rw [x_ct_t d (i + 1), if_pos rfl]
    omega
theorem x_pr_s {v : Nat → Int} {i m : Nat} : z_ct (x_pr v i) 0 m + z_ct (fun k => decide (v k = i)) 0 m = z_ct (x_pr v ((i : Int) + 1)) 0 m := by
  refine x_ct_add _ _ fun j _ _ => ?_
  unfold x_pr
  by_cases c : v j = i
  · rw [decide_eq_true c, decide_eq_true (show 0 ≤ v j ∧ v j < (i : Int) + 1 by omega), decide_eq_false (show ¬ (0 ≤ v j ∧ v j < (i : Int)) by omega)]
    exact ⟨rfl, rfl⟩
  · rw [decide_eq_false c]
    by_cases d : 0 ≤ v j ∧ v j < (i : Int)
    · rw [decide_eq_true d, decide_eq_true (show 0 ≤ v j ∧ v j < (i : Int) + 1 by omega)]
      exact ⟨rfl, rfl⟩
    · rw [decide_eq_false d, decide_eq_false (show ¬ (0 ≤ v j ∧ v j < (i : Int) + 1) by omega)]
      exact ⟨rfl, rfl⟩
theorem x_pr_0 {v : Nat → Int} {m : Nat} : z_ct (x_pr v 0) 0 m = 0 := by
  have e : z_ct (x_pr v 0) 0 m = z_ct (fun _ => false) 0 m := z_ct_c _ _ fun j _ _ => by
    unfold x_pr
    exact decide_eq_false (by omega)
  rw [e]
  have : ∀ d i, z_ct (fun _ => false) i d = 0 := by
    intro d
    induction d with
    | zero => intro i; rfl
    | succ d ih =>
      intro i
      unfold z_ct
      rw [ih]
      rfl
  exact this _ _
theorem x_cc4 (h : z_inv b s) : ∀ d i N, i + d = (s 3).toNat → d < N → l_X4_countCarried_4 (zV s) N (zI (z_ct (x_pr (fun k => s (143 + 9 * k + 4)) i) 0 (s 4).toNat)) (zI (i : Int)) = some (zI (z_ct (x_pr (fun k => s (143 + 9 * k + 4)) (s 3)) 0 (s 4).toNat)) := by
  obtain ⟨c0, c1, c2, c3, c4⟩ := h.1
  intro d
  induction d with
  | zero =>
    intro i N h1 h2
    obtain ⟨N, rfl⟩ : ∃ m, N = m + 1 := ⟨N - 1, by omega⟩
    rw [l_X4_countCarried_4, z_v, z_leT (by omega) (by omega) (by omega), show (i : Int) = s 3 by omega]
  | succ d ih =>
    intro i N h1 h2
    obtain ⟨N, rfl⟩ : ∃ m, N = m + 1 := ⟨N - 1, by omega⟩
    have e := ih (i + 1) N (by omega) (by omega)
    rw [z_cs, ← x_pr_s] at e
    rw [l_X4_countCarried_4, z_v, z_leF (by omega) (by omega) (by omega), z_Cca h (show zR (i : Int) by unfold zR; omega), z_bdc, z_bnd, z_add, z_l1, z_add]
    exact e
theorem x_tr_eq (h : z_inv b s) : z_ct (x_pr (fun k => s (143 + 9 * k + 4)) (s 3)) 0 (s 4).toNat = z_ct (x_cq s) 0 (s 4).toNat := by
  have c4 := h.1.2.2.2.2
  refine z_ct_c _ _ fun j _ hj => ?_
  obtain ⟨-, -, -, -, p4, -⟩ := h.2.2.2.2.2.1 j (by omega)
  unfold x_pr x_cq
  exact decide_eq_decide.mpr (by dsimp only; omega)
theorem x_cc (h : z_inv b s) : f_X4_countCarried (zV s) = some (zI (z_ct (x_cq s) 0 (s 4).toNat)) := by
  have c3 := h.1.2.2.2.1
  have e := x_cc4 h (s 3).toNat 0 FU (by omega) (by unfold FU; omega)
  rw [x_tr_eq h, show ((0 : Nat) : Int) = 0 from rfl, x_pr_0] at e
  unfold f_X4_countCarried
  rw [z_l0]
  exact e
theorem x_lb (h0 : W 0 = zV s) (J : x_J b s) : f_X9_loadingBalance W = some (zI 0) := by
  have q := J.2.2
  unfold x_ba z_np at q
  unfold f_X9_loadingBalance
  rw [h0, x_cc J.1, z_bdc, z_v, z_v, z_sub, z_sub, q, Int.sub_self]
theorem x_pb18 (h0 : W 0 = zV s) (h : z_inv b s) {x : Int} : ∀ d i N, i + d = (s 1).toNat → d < N → l_X9_parcelBalance_18 W N (zI (x - z_ct (x_pr (fun k => s (143 + 9 * k + 3)) i) 0 (s 4).toNat)) (zI (i : Int)) = some (zI (x - z_ct (x_pr (fun k => s (143 + 9 * k + 3)) (s 1)) 0 (s 4).toNat - z_ct (x_cq s) 0 (s 4).toNat)) := by
  obtain ⟨c0, c1, c2, c3, c4⟩ := h.1
  intro d
  induction d with
  | zero =>
    intro i N h1 h2
    obtain ⟨N, rfl⟩ : ∃ m, N = m + 1 := ⟨N - 1, by omega⟩
    rw [l_X9_parcelBalance_18, h0, z_v, z_leT (by omega) (by omega) (by omega), x_cc h, z_bdc, z_sub, show (i : Int) = s 1 by omega]
  | succ d ih =>
    intro i N h1 h2
    obtain ⟨N, rfl⟩ : ∃ m, N = m + 1 := ⟨N - 1, by omega⟩
    have e := ih (i + 1) N (by omega) (by omega)
    rw [z_cs, ← x_pr_s] at e
    rw [l_X9_parcelBalance_18, h0, z_v, z_leF (by omega) (by omega) (by omega), z_Cwa h (show zR (i : Int) by unfold zR; omega), z_bdc, z_bnd, z_sub, z_l1, z_add, Int.sub_sub]
    exact e
theorem x_pb (hb : b ≤ 1000000000) (h0 : W 0 = zV s) (h : z_inv b s) : f_X9_parcelBalance W = some (zI 0) := by
  obtain ⟨c0, c1, c2, c3, c4⟩ := h.1
  have e := x_pb18 (x := s 4 - z_ct (z_de s) 0 (s 4).toNat) h0 h (s 1).toNat 0 FU (by omega) (by unfold FU; omega)
  have st : z_ct (x_pr (fun k => s (143 + 9 * k + 3)) (s 1)) 0 (s 4).toNat = z_ct (fun k => decide (s (143 + 9 * k + 3) ≠ -1)) 0 (s 4).toNat := z_ct_c _ _ fun j _ hj => by
    obtain ⟨-, -, -, p3, -⟩ := h.2.2.2.2.2.1 j (by omega)
    unfold x_pr
    exact decide_eq_decide.mpr (by dsimp only; omega)
  have a1 := x_ct_add (p := fun k => decide (s (143 + 9 * k + 3) ≠ -1)) (q := x_cq s) (r := fun k => decide (s (143 + 9 * k + 8) = -1)) (s 4).toNat 0 (fun j _ hj => by
    obtain ⟨-, -, -, p3, p4, p5, p7, p8, p9⟩ := h.2.2.2.2.2.1 j (by omega)
    unfold x_cq
    rcases p9 with ⟨q1, q2, q3, -⟩ | ⟨q1, q2, q3⟩ | ⟨q1, q2, q3⟩
    · simp [q1, q2, q3]
    · simp [q1, q2, q3]
    · simp [q1, q2, q3])
  have a2 := x_ct_add (p := fun k => decide (s (143 + 9 * k + 8) = -1)) (q := z_de s) (r := fun _ => true) (s 4).toNat 0 (fun j _ hj => by
    unfold z_de
    by_cases c : s (143 + 9 * j + 8) = -1 <;> simp [c])
  rw [x_ct_t] at a2
  rw [show ((0 : Nat) : Int) = 0 from rfl, x_pr_0, Int.sub_zero, st] at e
  unfold f_X9_parcelBalance
  rw [h0, z_Cde h hb, z_bdc, z_v, z_sub, z_bnd, z_l0, e]
  congr 2
  omega
end Bal
