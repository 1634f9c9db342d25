/-! THE PURE PART: numbers -/
theorem ix_n {k : Nat} (h : k < 2 ^ 31) : ix (nI k) = k := nI_clamp h
theorem inr_n {k n : Nat} (h : k < n) (hn : n ≤ 5000) : inr (nI k) n = true := by
  unfold inr
  rw [ix_n (by omega), decide_eq_false (nI_pos (by omega))]
  exact Nat.blt_eq.mpr h
theorem n_mul (a b : Nat) : nI a * nI b = nI (a * b) := (Int32.ofNat_mul a b).symm
theorem gd_t {R : Type} {b : Bool} {K : Option R} (h : b = true) : gd b K = K := by rw [h]; rfl
theorem bnd_e {A R : Type} {x : A} {K : A → Option R} : bnd x K = K x := rfl
theorem bd2_s {A B R : Type} {a : A} {b : B} {K : A → B → Option R} : bd2 (some (a, b)) K = K a b := rfl
theorem jn_e {A R : Type} {x : A} {b : A → Option R} : jn x b = b x := rfl
theorem l_0 : (0 : Int32) = nI 0 := rfl
theorem l_1 : (1 : Int32) = nI 1 := rfl
theorem l_8 : (8 : Int32) = nI 8 := rfl
theorem l_1000 : (1000 : Int32) = nI 1000 := rfl
theorem l_99999 : (99999 : Int32) = nI 99999 := rfl
theorem upd_at {S : Nat → Int32} {k : Nat} {v : Int32} : upd S k v k = v := if_pos rfl
theorem upd_off {S : Nat → Int32} {k i : Nat} {v : Int32} (h : i ≠ k) : upd S k v i = S i := if_neg h
