/-! the quotients are numbers -/
section Flt
theorem z_enc_b {s : Bool} (hs : s = false) {c : Nat} {q : Int} (h : c < 2 ^ 53) (hq : q ≤ FP.Core.b64.qmax) (h0 : FP.Core.b64.qmin ≤ q) : FP.Core.encode FP.Core.b64 (.fin s c q) ≤ 2047 * 2 ^ 52 := by
  have e1 : FP.Core.b64.tails = 2 ^ 52 := rfl
  have e2 : FP.Core.b64.qmax = 971 := by decide
  have e3 : FP.Core.b64.qmin = -1074 := by decide
  have e4 : FP.Core.b64.exps = 2048 := by decide
  subst hs
  show (if c < FP.Core.b64.tails then FP.Core.assemble FP.Core.b64 false 0 c else FP.Core.assemble FP.Core.b64 false ((q - FP.Core.b64.qmin).toNat + 1) (c - FP.Core.b64.tails)) ≤ _
  unfold FP.Core.assemble
  rw [e1, e3, e4]
  split
  · simp only [Bool.toNat_false]
    omega
  · simp only [Bool.toNat_false]
    omega
theorem z_bound_b {c : Nat} {q : Int} (h : c < 2 ^ 53) (h0 : FP.Core.b64.qmin ≤ q) : FP.Core.encode FP.Core.b64 (FP.Core.bound FP.Core.b64 false c q) ≤ 2047 * 2 ^ 52 := by
  unfold FP.Core.bound
  split
  · rename_i hq
    exact z_enc_b rfl h hq h0
  · decide
theorem z_rr_b {num den : Nat} {e : Int} : FP.Core.encode FP.Core.b64 (FP.Core.roundRatio FP.Core.b64 false num den e) ≤ 2047 * 2 ^ 52 := by
  unfold FP.Core.roundRatio
  split
  · decide
  · unfold FP.Core.roundAt FP.Core.settle
    have hq : FP.Core.b64.qmin ≤ FP.Core.quantum FP.Core.b64 num den e := Int.le_max_left _ _
    split
    · rename_i hc
      exact z_bound_b hc hq
    · exact z_bound_b (by decide) (by omega)
theorem z_dec_b {n : Nat} (h : n ≤ 2047 * 2 ^ 52) : (∃ c q, FP.Core.decode FP.Core.b64 n = .fin false c q) ∨ FP.Core.decode FP.Core.b64 n = .inf false := by
  have e1 : FP.Core.b64.tails = 2 ^ 52 := rfl
  have e4 : FP.Core.b64.exps = 2048 := by decide
  have es : FP.Core.fieldS FP.Core.b64 n = false := by
    unfold FP.Core.fieldS
    rw [e1, e4]
    exact decide_eq_false (by omega)
  unfold FP.Core.decode
  rw [es]
  split
  · rename_i he
    have : FP.Core.fieldT FP.Core.b64 n = 0 := by
      unfold FP.Core.fieldE at he
      unfold FP.Core.fieldT
      rw [e1, e4] at he
      rw [e1]
      omega
    rw [if_pos this]
    exact Or.inr rfl
  · split
    · exact Or.inl ⟨_, _, rfl⟩
    · exact Or.inl ⟨_, _, rfl⟩
theorem z_i2d (x : Int) (h : 0 ≤ x) (h2 : x < 2147483648) : (FP.i2d (zI x)).toNat ≤ 2047 * 2 ^ 52 := by
  show (UInt64.ofNat (FP.Core.fromInt FP.Core.b64 (zI x).toInt)).toNat ≤ _
  rw [z_toInt ⟨by omega, h2⟩]
  have e : FP.Core.fromInt FP.Core.b64 x ≤ 2047 * 2 ^ 52 := by
    unfold FP.Core.fromInt FP.Core.round FP.Core.ofInt
    rw [decide_eq_false (by omega)]
    exact z_rr_b
  rw [UInt64.toNat_ofNat']
  exact Nat.le_trans (Nat.mod_le _ _) e
theorem z_i2d_12 : ∀ n : Nat, n < 13 → n ≠ 0 → ∃ c q, FP.Core.decode FP.Core.b64 (FP.i2d (zI n)).toNat = .fin false (c + 1) q := by
  intro n hn h0
  have : n = 1 ∨ n = 2 ∨ n = 3 ∨ n = 4 ∨ n = 5 ∨ n = 6 ∨ n = 7 ∨ n = 8 ∨ n = 9 ∨ n = 10 ∨ n = 11 ∨ n = 12 := by omega
  rcases this with rfl | rfl | rfl | rfl | rfl | rfl | rfl | rfl | rfl | rfl | rfl | rfl
  · exact ⟨4503599627370495, -52, by decide +kernel⟩
  · exact ⟨4503599627370495, -51, by decide +kernel⟩
  · exact ⟨6755399441055743, -51, by decide +kernel⟩
  · exact ⟨4503599627370495, -50, by decide +kernel⟩
  · exact ⟨5629499534213119, -50, by decide +kernel⟩
  · exact ⟨6755399441055743, -50, by decide +kernel⟩
  · exact ⟨7881299347898367, -50, by decide +kernel⟩
  · exact ⟨4503599627370495, -49, by decide +kernel⟩
  · exact ⟨5066549580791807, -49, by decide +kernel⟩
  · exact ⟨5629499534213119, -49, by decide +kernel⟩
  · exact ⟨6192449487634431, -49, by decide +kernel⟩
  · exact ⟨6755399441055743, -49, by decide +kernel⟩
theorem z_and_le (x y : UInt64) : (x &&& y).toNat ≤ x.toNat := by
  rw [UInt64.toNat_and]
  exact Nat.and_le_left
theorem z_ddiv {x : Int} {n : Nat} (h : 0 ≤ x) (h2 : x < 2147483648) (hn : n < 13) (h0 : n ≠ 0) : vf_n64 (FP.ddiv (FP.i2d (zI x)) (FP.i2d (zI n))) := by
  unfold vf_n64
  rw [UInt64.le_iff_toNat_le]
  refine Nat.le_trans (z_and_le _ _) ?_
  show (UInt64.ofNat (FP.Core.div FP.Core.b64 (FP.i2d (zI x)).toNat (FP.i2d (zI n)).toNat)).toNat ≤ 9218868437227405312
  rw [UInt64.toNat_ofNat']
  refine Nat.le_trans (Nat.mod_le _ _) ?_
  obtain ⟨c, q, e⟩ := z_i2d_12 n hn h0
  unfold FP.Core.div
  rw [e]
  rcases z_dec_b (z_i2d x h h2) with ⟨c2, q2, e2⟩ | e2
  · rw [e2]
    unfold FP.Core.quotient
    simp only []
    rw [if_neg (by omega)]
    exact z_rr_b
  · rw [e2]
    show FP.Core.encode FP.Core.b64 (.inf false) ≤ _
    decide
theorem z_fdiv : ∀ m : Nat, m < 13 → ∀ n : Nat, n < 13 → n ≠ 0 → vf_n32 (FP.fdiv (FP.i2f (zI m)) (FP.i2f (zI n))) ∧ vf_n64 (FP.f2d (FP.fdiv (FP.i2f (zI m)) (FP.i2f (zI n)))) := by
  unfold vf_n32 vf_n64
  decide +kernel
theorem z_f2d0 : vf_n64 (FP.f2d FP.fconst0) := by
  unfold vf_n64
  decide +kernel
theorem z_gdp {R : Type} {p : Prop} {K : Option R} (h : p) : gdp p K = K := by
  unfold gdp
  exact if_pos h
end Flt
