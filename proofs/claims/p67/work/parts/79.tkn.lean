/-! the tokens of the law's texts -/
section Tkn
variable {TT : Nat → Int} {n r e k : Nat}
theorem x_tkw (hb : ∀ j, j < e → TT (r + j) = 32) (hk : 0 < k) (hl : ∀ j, j < k → 97 ≤ TT (r + e + j) ∧ TT (r + e + j) ≤ 122) (hn : r + e + k < n) (hx : TT (r + e + k) < 97) : z_tok TT n r (r + e) (r + e + k) 1 := by
  refine ⟨by omega, fun j h1 h2 => ?_, Or.inr ⟨by omega, ?_, Or.inl ⟨rfl, by omega, by omega, fun j h1 h2 => ?_, Or.inr ?_⟩⟩⟩
  · have := hb (j - r) (by omega)
    rw [show r + (j - r) = j by omega] at this
    exact Or.inl this
  · have := hl 0 hk
    rw [Nat.add_zero] at this
    unfold z_bl
    omega
  · have := hl (j - (r + e)) (by omega)
    rw [show r + e + (j - (r + e)) = j by omega] at this
    exact this
  · unfold z_in
    omega
theorem x_tkd (hb : ∀ j, j < e → TT (r + j) = 32) (hl : 48 ≤ TT (r + e) ∧ TT (r + e) ≤ 57) (hn : r + e + 1 < n) (hx : TT (r + e + 1) < 48 ∨ 57 < TT (r + e + 1)) : z_tok TT n r (r + e) (r + e + 1) 2 := by
  refine ⟨by omega, fun j h1 h2 => ?_, Or.inr ⟨by omega, ?_, Or.inr (Or.inl ⟨rfl, by omega, by omega, fun j h1 h2 => ?_, Or.inr ?_⟩)⟩⟩
  · have := hb (j - r) (by omega)
    rw [show r + (j - r) = j by omega] at this
    exact Or.inl this
  · unfold z_bl
    omega
  · rw [show j = r + e by omega]
    exact hl
  · unfold z_in
    omega
theorem x_tk3 (hl : TT r = 59) (hn : r < n) : z_tok TT n r r (r + 1) 3 := by
  refine ⟨by omega, fun j h1 h2 => absurd h2 (by omega), Or.inr ⟨hn, ?_, Or.inr (Or.inr (Or.inl ⟨rfl, hl, rfl⟩))⟩⟩
  unfold z_bl
  omega
/-- the number of one digit -/
theorem x_cv {p : Nat} {d : Int} (h : TT p = 48 + d) (hd : 0 ≤ d ∧ d ≤ 9) : y_cv TT p (p + 1 - p) = d := by
  rw [show p + 1 - p = 0 + 1 by omega, y_cv, y_cv, Nat.add_zero, h, if_pos (by omega)]
  omega
/-- a name of one letter -/
theorem x_wn {p : Nat} : y_wn TT p (p + 1) = TT p := by
  unfold y_wn
  rw [if_pos (by omega), show p + 1 - p = 0 + 1 by omega, y_pf, y_pf, Nat.add_zero]
  omega
/-- the stations are called a, b, .. -/
def x_nm (s : Nat → Int) : Prop := ∀ i : Nat, (i : Int) < s 1 → s (7 + 4 * i) = 97 + i
theorem x_sta {s : Nat → Int} {p i : Nat} (hs : x_nm s) (h1 : 0 ≤ s 1) (hi : (i : Int) < s 1) (h : TT p = 97 + i) : y_st TT s p (p + 1) = i := by
  unfold y_st y_fs
  rw [x_wn, h]
  cases g : z_ff (fun j => decide (s (7 + 4 * j) = 97 + (i : Int))) 0 (s 1).toNat with
  | none =>
    have := z_ff_n _ _ g i (by omega) (by omega)
    rw [decide_eq_true (hs i hi)] at this
    cases this
  | some j =>
    obtain ⟨-, j1, j2, -⟩ := z_ff_s _ _ _ g
    have a := of_decide_eq_true j2
    have b := hs j (by omega)
    show (j : Int) = i
    omega
theorem x_stn {s : Nat → Int} {p : Nat} (hs : x_nm s) (h1 : 0 ≤ s 1) (h : TT p = 97 + s 1) : y_st TT s p (p + 1) = -1 := by
  unfold y_st y_fs
  rw [x_wn, h]
  cases g : z_ff (fun j => decide (s (7 + 4 * j) = 97 + s 1)) 0 (s 1).toNat with
  | none => rfl
  | some j =>
    exfalso
    obtain ⟨-, j1, j2, -⟩ := z_ff_s _ _ _ g
    have a := of_decide_eq_true j2
    have b := hs j (by omega)
    omega
end Tkn
