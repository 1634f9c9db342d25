/-! the text is handed over, twenty bytes a call -/
section Say
variable {C : List Int} {W W' : Nat → Nat → Int32}
theorem x_shb {v k : Nat} (hv : v < 2147483648) (hk : k = 0 ∨ k = 8 ∨ k = 16 ∨ k = 24) : (zI (v : Int) >>> (zI (k : Int) &&& 31)) &&& 255 = zI ((v / 2 ^ k % 256 : Nat) : Int) := by
  apply Int32.toBitVec.inj
  rw [z_bvn (by omega), Int32.toBitVec_and, Int32.toBitVec_shiftRight, z_bvn hv]
  have e2 : ((zI (k : Int) &&& 31).toBitVec.smod 32) = BitVec.ofNat 32 k := by rcases hk with e | e | e | e <;> subst e <;> decide
  have e3 : (BitVec.ofNat 32 k).toNat = k := by rcases hk with e | e | e | e <;> subst e <;> decide
  have e4 : (BitVec.ofNat 32 v).msb = false := by
    rw [BitVec.msb_eq_false_iff_two_mul_lt, BitVec.toNat_ofNat]
    omega
  have e5 := z_bvs v k (by omega) hv
  rw [BitVec.ushiftRight_eq', e3] at e5
  rw [e2, BitVec.sshiftRight_eq', e3, BitVec.sshiftRight_eq_of_msb_false e4]
  exact e5
theorem x_wb {a b c d : Int} (ha : 0 ≤ a ∧ a < 128) (hb : 0 ≤ b ∧ b < 256) (hc : 0 ≤ c ∧ c < 256) (hd : 0 ≤ d ∧ d < 256) : z_wb (zI (((a * 256 + b) * 256 + c) * 256 + d)) = [zI a, zI b, zI c, zI d] := by
  obtain ⟨v, hv⟩ : ∃ v : Nat, (v : Int) = ((a * 256 + b) * 256 + c) * 256 + d := ⟨(((a * 256 + b) * 256 + c) * 256 + d).toNat, by omega⟩
  have f24 := x_shb (v := v) (k := 24) (by omega) (by omega)
  have f16 := x_shb (v := v) (k := 16) (by omega) (by omega)
  have f8 := x_shb (v := v) (k := 8) (by omega) (by omega)
  have f0 := x_shb (v := v) (k := 0) (by omega) (by omega)
  rw [show ((24 : Nat) : Int) = 24 from rfl, show ((v / 2 ^ 24 % 256 : Nat) : Int) = a by omega] at f24
  rw [show ((16 : Nat) : Int) = 16 from rfl, show ((v / 2 ^ 16 % 256 : Nat) : Int) = b by omega] at f16
  rw [show ((8 : Nat) : Int) = 8 from rfl, show ((v / 2 ^ 8 % 256 : Nat) : Int) = c by omega] at f8
  rw [show ((0 : Nat) : Int) = 0 from rfl, show ((v / 2 ^ 0 % 256 : Nat) : Int) = d by omega] at f0
  unfold z_wb
  rw [← hv, f24, f16, f8, f0]
  rfl
theorem x_getD {j : Nat} (hj : j < C.length) : C.getD j 32 = C.getD j 0 ∧ C.getD j 0 ∈ C := by
  rw [List.getD_eq_getElem?_getD, List.getD_eq_getElem?_getD, List.getElem?_eq_getElem hj]
  exact ⟨rfl, List.getElem_mem hj⟩
theorem x_gb (hC : ∀ x ∈ C, 0 ≤ x ∧ x < 128) (j : Nat) : 0 ≤ C.getD j 32 ∧ C.getD j 32 < 128 := by
  by_cases c : j < C.length
  · rw [(x_getD c).1]
    exact hC _ (x_getD c).2
  · rw [List.getD_eq_getElem?_getD, List.getElem?_eq_none (by omega)]
    exact ⟨by decide, by decide⟩
theorem x_sch {R : Type} {K : Int32 → Option R} (hC : ∀ x ∈ C, 0 ≤ x ∧ x < 128) (hl : C.length ≤ 300) {j : Nat} (hj : j < 10000) : f_sch (C.map zI) (zI (j : Int)) K = K (zI (C.getD j 32)) := by
  have b := x_gb hC j
  unfold f_sch
  rw [List.length_map, z_n]
  by_cases c : j < C.length
  · have e : (C.map zI).getD (ix (zI (j : Int))) 0 = zI (C.getD j 32) := by
      rw [z_ixn (by omega), List.getD_eq_getElem?_getD, List.getD_eq_getElem?_getD, List.getElem?_map, List.getElem?_eq_getElem c]
      rfl
    rw [z_leF (by omega) (by omega) (by omega), e, z_inr (by omega) (by omega) (by omega), z_inr (by omega) (by omega) (by omega)]
    rfl
  · rw [z_leT (by omega) (by omega) (by omega), List.getD_eq_getElem?_getD, List.getElem?_eq_none (by omega)]
    rfl
/-- five numbers hold twenty bytes -/
theorem x_s17 (hC : ∀ x ∈ C, 0 ≤ x ∧ x < 128) (hl : C.length ≤ 300) {i : Nat} (hi : i < 5000) : ∀ (d x N : Nat) (F : Nat → Int32), x + d = 20 → d < N → (∀ m, m < 5 → F m = zI (y_pf (fun j => C.getD j 32) (i + 4 * m) (min 4 (x - 4 * m)))) → ∃ F', (∀ K : (Nat → Int32) → Option (Nat → Nat → Int32), l_says_17 (C.map zI) (zI (i : Int)) K N F (zI (x : Int)) = K F') ∧ ∀ m, m < 5 → F' m = zI (y_pf (fun j => C.getD j 32) (i + 4 * m) 4) := by
  intro d
  induction d with
  | zero =>
    intro x N F h1 h2 hF
    obtain ⟨N, rfl⟩ : ∃ m, N = m + 1 := ⟨N - 1, by omega⟩
    refine ⟨F, fun K => ?_, fun m hm => by rw [hF m hm, show min 4 (x - 4 * m) = 4 by omega]⟩
    rw [l_says_17, show (20 : Int32) = zI 20 from z_lit 20, z_leT (by omega) (by omega) (by omega)]
  | succ d ih =>
    intro x N F h1 h2 hF
    obtain ⟨N, rfl⟩ : ∃ m, N = m + 1 := ⟨N - 1, by omega⟩
    have pb : ∀ p k : Nat, k < 4 → 0 ≤ y_pf (fun j => C.getD j 32) p k ∧ y_pf (fun j => C.getD j 32) p k < 8388608 := by
      intro p k hk
      have t0 := x_gb hC (p + 0)
      have t1 := x_gb hC (p + 1)
      have t2 := x_gb hC (p + 2)
      have f : k = 0 ∨ k = 1 ∨ k = 2 ∨ k = 3 := by omega
      rcases f with f | f | f | f <;> rw [f] <;> simp only [y_pf] <;> omega
    obtain ⟨F', f1, f2⟩ := ih (x + 1) N (upd F (x / 4) (zI (y_pf (fun j => C.getD j 32) (i + 4 * (x / 4)) (x % 4) * 256 + C.getD (i + x) 32))) (by omega) (by omega) (fun m hm => by
      by_cases c : m = x / 4
      · subst c
        rw [upd_at, show min 4 (x + 1 - 4 * (x / 4)) = x % 4 + 1 by omega, y_pf, show i + 4 * (x / 4) + x % 4 = i + x by omega]
      · rw [upd_off c, hF m hm]
        by_cases e : m < x / 4
        · rw [show min 4 (x - 4 * m) = 4 by omega, show min 4 (x + 1 - 4 * m) = 4 by omega]
        · rw [show min 4 (x - 4 * m) = 0 by omega, show min 4 (x + 1 - 4 * m) = 0 by omega])
    refine ⟨F', fun K => ?_, f2⟩
    have e4 : zI (x : Int) / (4 : Int32) = zI ((x / 4 : Nat) : Int) := by
      rw [show (4 : Int32) = zI 4 from z_lit 4, z_div (by omega) (by omega)]
      rfl
    rw [l_says_17, show (20 : Int32) = zI 20 from z_lit 20, z_leF (by omega) (by omega) (by omega), e4, z_inr (by omega) (by omega) (by omega), z_gd, z_add, show (i : Int) + (x : Int) = ((i + x : Nat) : Int) by omega, x_sch hC hl (by omega), z_ixn (by omega), z_bnd, hF _ (by omega), show min 4 (x - 4 * (x / 4)) = x % 4 by omega, y_shl (pb _ _ (by omega)) (by have := x_gb hC (i + x); omega), z_l1, z_add, ← z_cs]
    exact f1 K
theorem x_20b {p : Nat} (hC : ∀ x ∈ C, 0 ≤ x ∧ x < 128) : z_wb (zI (y_pf (fun j => C.getD j 32) p 4)) = [zI (C.getD p 32), zI (C.getD (p + 1) 32), zI (C.getD (p + 2) 32), zI (C.getD (p + 3) 32)] := by
  have t0 := x_gb hC p
  have t1 := x_gb hC (p + 1)
  have t2 := x_gb hC (p + 2)
  have t3 := x_gb hC (p + 3)
  rw [← x_wb t0 (by omega) (by omega) (by omega)]
  simp only [y_pf, Nat.add_zero, Int.zero_mul, Int.zero_add]
theorem x_s2 (hC : ∀ x ∈ C, 0 ≤ x ∧ x < 128) (hl : C.length ≤ 300) : ∀ (d k N : Nat) (W : Nat → Nat → Int32), k + d = 16 → d < N → W 15 0 = zI ((20 * k : Nat) : Int) → (∀ j, j < 20 * k → W 16 j &&& 255 = zI (C.getD j 32)) → 20 * k < C.length + 20 → ∃ W', l_says_2 (C.map zI) N W (zI ((20 * k : Nat) : Int)) = some W' ∧ (∀ u, u ≠ 15 → u ≠ 16 → W' u = W u) ∧ W' 15 0 = zI (C.length : Int) ∧ ∀ j, j < C.length → W' 16 j &&& 255 = zI (C.getD j 0) := by
  intro d
  induction d with
  | zero =>
    intro k N W h1 h2 h3 h4 h5
    omega
  | succ d ih =>
    intro k N W h1 h2 h3 h4 h5
    obtain ⟨N, rfl⟩ : ∃ m, N = m + 1 := ⟨N - 1, by omega⟩
    rw [l_says_2, List.length_map, z_n]
    by_cases c : C.length ≤ 20 * k
    · refine ⟨w2 W 15 0 (zI (C.length : Int)), ?_, fun u u1 u2 => z_w2u u1, z_w2e, fun j hj => by rw [z_w2u (by omega), h4 j (by omega), (x_getD hj).1]⟩
      rw [z_leT (by omega) (by omega) (by omega)]
      unfold f_X9_truncateInput
      rw [z_l0, z_ltF (by omega) (by omega) (by omega), h3, z_leT (by omega) (by omega) (by omega), z_bnd]
    · obtain ⟨F', f1, f2⟩ := x_s17 hC hl (i := 20 * k) (by omega) 20 0 21 (fun _ => 0) (by omega) (by omega) (fun m hm => by
        rw [show min 4 (0 - 4 * m) = 0 by omega]
        exact z_l0)
      rw [show zI ((0 : Nat) : Int) = (0 : Int32) by rw [z_l0]; rfl] at f1
      rw [z_leF (by omega) (by omega) (by omega), f1]
      obtain ⟨W1, e1, e2, e3, e4, e5⟩ := z_a20C (a1 := F' 0) (a2 := F' 1) (a3 := F' 2) (a4 := F' 3) (a5 := F' 4) h3 (by omega)
      rw [e1]
      dsimp only
      have ql : z_wb (F' 0) ++ (z_wb (F' 1) ++ (z_wb (F' 2) ++ (z_wb (F' 3) ++ z_wb (F' 4)))) = [zI (C.getD (20 * k + 0) 32), zI (C.getD (20 * k + 1) 32), zI (C.getD (20 * k + 2) 32), zI (C.getD (20 * k + 3) 32), zI (C.getD (20 * k + 4) 32), zI (C.getD (20 * k + 5) 32), zI (C.getD (20 * k + 6) 32), zI (C.getD (20 * k + 7) 32), zI (C.getD (20 * k + 8) 32), zI (C.getD (20 * k + 9) 32), zI (C.getD (20 * k + 10) 32), zI (C.getD (20 * k + 11) 32), zI (C.getD (20 * k + 12) 32), zI (C.getD (20 * k + 13) 32), zI (C.getD (20 * k + 14) 32), zI (C.getD (20 * k + 15) 32), zI (C.getD (20 * k + 16) 32), zI (C.getD (20 * k + 17) 32), zI (C.getD (20 * k + 18) 32), zI (C.getD (20 * k + 19) 32)] := by
        rw [f2 0 (by omega), f2 1 (by omega), f2 2 (by omega), f2 3 (by omega), f2 4 (by omega), x_20b hC, x_20b hC, x_20b hC, x_20b hC, x_20b hC]
        rfl
      rw [ql] at e3 e4 e5
      have bb : ∀ j, j < 20 → W1 16 (20 * k + j) &&& 255 = zI (C.getD (20 * k + j) 32) := by
        intro j h
        have w := e5 j h
        rw [w]
        have cc : j = 0 ∨ j = 1 ∨ j = 2 ∨ j = 3 ∨ j = 4 ∨ j = 5 ∨ j = 6 ∨ j = 7 ∨ j = 8 ∨ j = 9 ∨ j = 10 ∨ j = 11 ∨ j = 12 ∨ j = 13 ∨ j = 14 ∨ j = 15 ∨ j = 16 ∨ j = 17 ∨ j = 18 ∨ j = 19 := by omega
        rcases cc with c | c | c | c | c | c | c | c | c | c | c | c | c | c | c | c | c | c | c | c <;> subst c <;> rfl
      have e20 : zI ((20 * k : Nat) : Int) + (20 : Int32) = zI ((20 * (k + 1) : Nat) : Int) := by
        rw [show (20 : Int32) = zI 20 from z_lit 20, z_add, show ((20 * k : Nat) : Int) + 20 = ((20 * (k + 1) : Nat) : Int) by omega]
      obtain ⟨W', g1, g2, g3, g4⟩ := ih (k + 1) N W1 (by omega) (by omega) (by rw [e3, show 20 * (k + 1) = 20 * k + 20 by omega]; rfl) (fun j hj => by
        by_cases q : j < 20 * k
        · rw [e4 j (Or.inl q)]
          exact h4 j q
        · have w := bb (j - 20 * k) (by omega)
          rw [show 20 * k + (j - 20 * k) = j by omega] at w
          exact w) (by omega)
      refine ⟨W', ?_, fun u u1 u2 => by rw [g2 u u1 u2, e2 u u1 u2], g3, g4⟩
      rw [e20]
      exact g1
theorem x_says (hC : ∀ x ∈ C, 0 ≤ x ∧ x < 128) (hl : C.length ≤ 300) (h : W 15 0 = zI 0) : ∃ W', f_L_says W (C.map zI) = some W' ∧ (∀ u, u ≠ 15 → u ≠ 16 → W' u = W u) ∧ W' 15 0 = zI (C.length : Int) ∧ ∀ j, j < C.length → W' 16 j &&& 255 = zI (C.getD j 0) := by
  obtain ⟨W', g1, g2, g3, g4⟩ := x_s2 hC hl 16 0 17 W (by omega) (by omega) h (fun j hj => absurd hj (by omega)) (by omega)
  refine ⟨W', ?_, g2, g3, g4⟩
  unfold f_L_says
  rw [List.length_map, gd_t (Nat.ble_eq.mpr hl), show (0 : Int32) = zI ((20 * 0 : Nat) : Int) by rw [z_l0]; rfl]
  exact g1
end Say
