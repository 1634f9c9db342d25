/-! the text that comes in -/
theorem z_t255 (i : Nat) (hi : i < 32) : (255#32).getLsbD i = decide (i < 8) := by
  have : ∀ i : Fin 32, (255#32).getLsbD i = decide (i.1 < 8) := by decide
  exact this ⟨i, hi⟩
theorem z_bys (a : BitVec 32) (k : Nat) (hk : k ≤ 24) : ((a >>> k).signExtend 8).signExtend 32 &&& 255#32 = a.sshiftRight k &&& 255#32 := by
  apply BitVec.eq_of_getLsbD_eq
  intro i hi
  rw [BitVec.getLsbD_and, BitVec.getLsbD_and, z_t255 i hi]
  by_cases c : i < 8
  · rw [decide_eq_true c, Bool.and_true, Bool.and_true]
    rw [BitVec.getLsbD_signExtend, BitVec.getLsbD_signExtend, BitVec.getLsbD_ushiftRight, BitVec.getLsbD_sshiftRight]
    simp only [c, hi, decide_true, if_true, Bool.true_and]
    simp (disch := omega) [show i < 32 by omega, show k + i < 32 by omega]
  · rw [decide_eq_false c, Bool.and_false, Bool.and_false]
theorem z_by0 (a : Int32) : nb (a.toInt8.toInt32) &&& 255 = a &&& 255 := by
  show (a.toInt8.toInt32).toInt8.toInt32 &&& 255 = _
  rw [Int8.toInt8_toInt32]
  apply Int32.toBitVec.inj
  rw [Int32.toBitVec_and, Int32.toBitVec_and, Int8.toBitVec_toInt32, Int32.toBitVec_toInt8]
  have := z_bys a.toBitVec 0 (by omega)
  rw [BitVec.ushiftRight_zero, BitVec.sshiftRight_zero] at this
  exact this
theorem z_byk (a : Int32) (k : Nat) (hk : k = 8 ∨ k = 16 ∨ k = 24) : nb ((ushr a (Int32.ofNat k)).toInt8.toInt32) &&& 255 = (a >>> ((Int32.ofNat k) &&& 31)) &&& 255 := by
  show ((ushr a (Int32.ofNat k)).toInt8.toInt32).toInt8.toInt32 &&& 255 = _
  rw [Int8.toInt8_toInt32]
  apply Int32.toBitVec.inj
  rw [Int32.toBitVec_and, Int32.toBitVec_and, Int8.toBitVec_toInt32, Int32.toBitVec_toInt8, Int32.toBitVec_shiftRight]
  unfold ushr
  rw [UInt32.toBitVec_toInt32, UInt32.toBitVec_shiftRight, Int32.toBitVec_toUInt32]
  have e1 : (((Int32.ofNat k).toUInt32 &&& Int32.toUInt32 31).toBitVec % 32 : BitVec 32) = BitVec.ofNat 32 k := by rcases hk with e | e | e <;> subst e <;> decide
  have e2 : ((Int32.ofNat k &&& 31).toBitVec.smod 32) = BitVec.ofNat 32 k := by rcases hk with e | e | e <;> subst e <;> decide
  have e3 : (BitVec.ofNat 32 k).toNat = k := by rcases hk with e | e | e <;> subst e <;> decide
  have := z_bys a.toBitVec k (by omega)
  rw [← e3, ← BitVec.ushiftRight_eq', ← BitVec.sshiftRight_eq'] at this
  rw [e1, e2]
  exact this
def z_TA (n : Nat) (W : Nat → Nat → Int32) (xs : List Int32) (W' : Nat → Nat → Int32) : Prop := (∀ u, u ≠ 15 → u ≠ 16 → W' u = W u) ∧ W' 15 0 = zI ((n + xs.length : Nat) : Int) ∧ (∀ k, k < n ∨ n + xs.length ≤ k → W' 16 k = W 16 k) ∧ ∀ j (h : j < xs.length), W' 16 (n + j) &&& 255 = xs[j]
def z_TB (n : Nat) (W : Nat → Nat → Int32) (xs : List Int32) (W' : Nat → Nat → Int32) : Prop := (∀ u, u ≠ 28 → u ≠ 30 → W' u = W u) ∧ (∀ k, k ≠ 3 → W' 30 k = W 30 k) ∧ W' 30 3 = zI ((n + xs.length : Nat) : Int) ∧ (∀ k, k < n ∨ n + xs.length ≤ k → W' 28 k = W 28 k) ∧ ∀ j (h : j < xs.length), W' 28 (n + j) = xs[j]
section Inp
variable {W W' W'' : Nat → Nat → Int32} {b : Int} {s g : Nat → Int} {n : Nat} {xs ys : List Int32}
theorem z_TA_t (h1 : z_TA n W xs W') (h2 : z_TA (n + xs.length) W' ys W'') : z_TA n W (xs ++ ys) W'' := by
  obtain ⟨a1, a2, a3, a4⟩ := h1
  obtain ⟨b1, b2, b3, b4⟩ := h2
  refine ⟨fun u p q => by rw [b1 u p q, a1 u p q], ?_, fun k hk => ?_, fun j hj => ?_⟩
  · rw [b2, List.length_append, Nat.add_assoc]
  · rw [List.length_append] at hk
    rw [b3 k (by omega), a3 k (by omega)]
  · rw [List.getElem_append]
    split
    · next c => rw [b3 (n + j) (by omega), a4 j c]
    · next c =>
      have := b4 (j - xs.length) (by rw [List.length_append] at hj; omega)
      rw [← this]
      congr 2
      omega
theorem z_TB_t (h1 : z_TB n W xs W') (h2 : z_TB (n + xs.length) W' ys W'') : z_TB n W (xs ++ ys) W'' := by
  obtain ⟨a1, a0, a2, a3, a4⟩ := h1
  obtain ⟨b1, b0, b2, b3, b4⟩ := h2
  refine ⟨fun u p q => by rw [b1 u p q, a1 u p q], fun k hk => by rw [b0 k hk, a0 k hk], ?_, fun k hk => ?_, fun j hj => ?_⟩
  · rw [b2, List.length_append, Nat.add_assoc]
  · rw [List.length_append] at hk
    rw [b3 k (by omega), a3 k (by omega)]
  · rw [List.getElem_append]
    split
    · next c => rw [b3 (n + j) (by omega), a4 j c]
    · next c =>
      have := b4 (j - xs.length) (by rw [List.length_append] at hj; omega)
      rw [← this]
      congr 1
      omega
theorem z_apb {x y : Int32} (hx : nb (x.toInt8.toInt32) &&& 255 = y) (h : W 15 0 = zI n) (hn : n < 600) : ∃ W', f_X6_appendByte W x = some W' ∧ z_TA n W [y] W' := by
  have e : f_X6_appendByte W x = some (w2 (w2 W 16 n (nb (x.toInt8.toInt32))) 15 0 (zI ((n : Int) + 1))) := by
    unfold f_X6_appendByte
    rw [h]
    simp (disch := omega) only [z_lit, z_n, z_add, z_sub, z_mul, z_neg, z_lt1, z_lt0, z_le1, z_le0, z_eq1, z_eq0, z_10, ↓reduceIte, z_v, z_upd, z_ue, z_un, z_ixn, z_ixo, z_ix0, z_ix1, z_ix2, z_ix3, z_ix4, z_ix5, z_ix6, Int.reduceToNat, z_inr, z_gd, ↓z_bnd, ↓z_jn, z_bdc, z_bd2, z_opn, z_ops, z_z01, z_Bt, z_Bf]
    rw [z_w2u (by omega), h]
    simp (disch := omega) only [z_lit, z_n, z_add, z_sub, z_mul, z_neg, z_lt1, z_lt0, z_le1, z_le0, z_eq1, z_eq0, z_10, ↓reduceIte, z_v, z_upd, z_ue, z_un, z_ixn, z_ixo, z_ix0, z_ix1, z_ix2, z_ix3, z_ix4, z_ix5, z_ix6, Int.reduceToNat, z_inr, z_gd, ↓z_bnd, ↓z_jn, z_bdc, z_bd2, z_opn, z_ops, z_z01, z_Bt, z_Bf]
  refine ⟨_, e, fun u p q => ?_, ?_, fun k hk => ?_, fun j hj => ?_⟩
  · rw [z_w2u p, z_w2u q]
  · rw [z_w2e]
    rfl
  · rw [List.length_singleton] at hk
    rw [z_w2u (by omega), z_w2k (by omega)]
  · rw [List.length_singleton] at hj
    obtain rfl : j = 0 := by omega
    rw [z_w2u (by omega), Nat.add_zero, z_w2e]
    exact hx
theorem z_aww {c : Int32} {k : Int} {N : Nat} (hk : 0 ≤ k ∧ k < 32) (h : W 30 3 = zI n) (hn : n < 600) : ∃ W', l_X10_appendWord_3 c (N + 1) W (zI k) = l_X10_appendWord_3 c N W' (zI (k - 8)) ∧ z_TB n W [(c >>> (zI k &&& 31)) &&& 255] W' := by
  have e : l_X10_appendWord_3 c (N + 1) W (zI k) = l_X10_appendWord_3 c N (w2 (w2 W 28 n ((c >>> (zI k &&& 31)) &&& 255)) 30 3 (zI ((n : Int) + 1))) (zI (k - 8)) := by
    rw [l_X10_appendWord_3, h, z_l0, z_ltF (by omega) (by omega) (by omega), z_inr (by omega) (by omega) (by omega), z_gd, z_ixn (by omega), z_bnd, z_bnd, z_w2u (by omega), h, z_l1, z_add, show (-8 : Int32) = zI (-8) from rfl, z_add]
    rfl
  refine ⟨_, e, fun u p q => ?_, fun k hk => ?_, ?_, fun k hk => ?_, fun j hj => ?_⟩
  · rw [z_w2u q, z_w2u p]
  · rw [z_w2k hk, z_w2u (by omega)]
  · rw [z_w2e]
    rfl
  · rw [List.length_singleton] at hk
    rw [z_w2u (by omega), z_w2k (by omega)]
  · rw [List.length_singleton] at hj
    obtain rfl : j = 0 := by omega
    rw [z_w2u (by omega)]
    exact z_w2e
def z_wb (a : Int32) : List Int32 := [(a >>> (zI 24 &&& 31)) &&& 255] ++ ([(a >>> (zI 16 &&& 31)) &&& 255] ++ ([(a >>> (zI 8 &&& 31)) &&& 255] ++ [(a >>> (zI 0 &&& 31)) &&& 255]))
theorem z_wb_l {a : Int32} : (z_wb a).length = 4 := rfl
theorem z_sh0 (a : Int32) : a >>> (zI 0 &&& 31) = a := by
  apply Int32.toBitVec.inj
  rw [Int32.toBitVec_shiftRight, show ((zI 0 &&& 31).toBitVec.smod 32) = BitVec.ofNat 32 0 by decide, BitVec.sshiftRight_eq', show (BitVec.ofNat 32 0).toNat = 0 by decide, BitVec.sshiftRight_zero]
theorem z_a4C {a : Int32} (h : W 15 0 = zI n) (hn : n + 4 ≤ 600) : ∃ W', f_X6_appendFourBytes W a = some W' ∧ z_TA n W (z_wb a) W' := by
  unfold f_X6_appendFourBytes
  obtain ⟨W1, e1, k1⟩ := z_apb (z_byk a 24 (by omega)) h (by omega)
  obtain ⟨W2, e2, k2⟩ := z_apb (z_byk a 16 (by omega)) k1.2.1 (by simp only [List.length_singleton]; omega)
  obtain ⟨W3, e3, k3⟩ := z_apb (z_byk a 8 (by omega)) k2.2.1 (by simp only [List.length_singleton]; omega)
  obtain ⟨W4, e4, k4⟩ := z_apb (z_by0 a) k3.2.1 (by simp only [List.length_singleton]; omega)
  refine ⟨W4, ?_, ?_⟩
  · rw [show (24 : Int32) = Int32.ofNat 24 from rfl, e1, z_bdc, show (16 : Int32) = Int32.ofNat 16 from rfl, e2, z_bdc, show (8 : Int32) = Int32.ofNat 8 from rfl, e3, z_bdc, e4, z_bdc]
  · unfold z_wb
    rw [z_sh0]
    exact z_TA_t k1 (z_TA_t k2 (z_TA_t k3 k4))
theorem z_a4G {a : Int32} (h : W 30 3 = zI n) (hn : n + 4 ≤ 600) : ∃ W', f_X10_appendWord W a = some W' ∧ z_TB n W (z_wb a) W' := by
  unfold f_X10_appendWord FU
  obtain ⟨W1, e1, k1⟩ := z_aww (c := a) (k := 24) (N := 4095) (by omega) h (by omega)
  obtain ⟨W2, e2, k2⟩ := z_aww (c := a) (k := 16) (N := 4094) (by omega) k1.2.2.1 (by simp only [List.length_singleton]; omega)
  obtain ⟨W3, e3, k3⟩ := z_aww (c := a) (k := 8) (N := 4093) (by omega) k2.2.2.1 (by simp only [List.length_singleton]; omega)
  obtain ⟨W4, e4, k4⟩ := z_aww (c := a) (k := 0) (N := 4092) (by omega) k3.2.2.1 (by simp only [List.length_singleton]; omega)
  refine ⟨W4, ?_, z_TB_t k1 (z_TB_t k2 (z_TB_t k3 k4))⟩
  rw [show (24 : Int32) = zI 24 from z_lit 24, e1, show (24 : Int) - 8 = 16 from rfl, e2, show (16 : Int) - 8 = 8 from rfl, e3, show (8 : Int) - 8 = 0 from rfl, e4, l_X10_appendWord_3]
  simp (disch := omega) only [z_lit, z_n, z_add, z_sub, z_mul, z_neg, z_lt1, z_lt0, z_le1, z_le0, z_eq1, z_eq0, z_10, ↓reduceIte, z_v, z_upd, z_ue, z_un, z_ixn, z_ixo, z_ix0, z_ix1, z_ix2, z_ix3, z_ix4, z_ix5, z_ix6, Int.reduceToNat, z_inr, z_gd, ↓z_bnd, ↓z_jn, z_bdc, z_bd2, z_opn, z_ops, z_z01, z_Bt, z_Bf]
/-- after a change of the text alone, all units stand together again -/
theorem z_RW_tx (H : z_RW b W) (e : ∀ u, u ≠ 15 → u ≠ 16 → u ≠ 28 → u ≠ 30 → u ≠ 31 → W' u = W u) (e30 : ∀ k, k ≠ 2 → k ≠ 3 → W' 30 k = W 30 k) (t : z_rt W') : z_RW b W' := by
  obtain ⟨h1, h2, h3, h4, h5, h6, h7⟩ := H
  refine ⟨?_, ?_, ?_, t, ?_, ?_, ?_⟩
  · rw [e 0 (by omega) (by omega) (by omega) (by omega) (by omega), e 21 (by omega) (by omega) (by omega) (by omega) (by omega)]
    exact h1
  · obtain ⟨n, m, st, a1, a2, a3, a4, a5, a6, a7, a8⟩ := h2
    refine ⟨n, m, st, ?_, ?_, by rw [e30 0 (by omega) (by omega)]; exact a3, by rw [e30 1 (by omega) (by omega)]; exact a4, a5, a6, a7, fun j hj hm => ?_⟩
    · rw [e 17 (by omega) (by omega) (by omega) (by omega) (by omega)]; exact a1
    · rw [e 17 (by omega) (by omega) (by omega) (by omega) (by omega)]; exact a2
    · rw [e 24 (by omega) (by omega) (by omega) (by omega) (by omega), e (3 + j) (by omega) (by omega) (by omega) (by omega) (by omega)]
      exact a8 j hj hm
  · intro i hi
    rw [e 20 (by omega) (by omega) (by omega) (by omega) (by omega), e 26 (by omega) (by omega) (by omega) (by omega) (by omega), e 25 (by omega) (by omega) (by omega) (by omega) (by omega), e (11 + i) (by omega) (by omega) (by omega) (by omega) (by omega)]
    exact h3 i hi
  · exact ⟨by rw [e 13 (by omega) (by omega) (by omega) (by omega) (by omega), e30 9 (by omega) (by omega)]; exact h5.1, by rw [e 13 (by omega) (by omega) (by omega) (by omega) (by omega), e30 10 (by omega) (by omega)]; exact h5.2⟩
  · obtain ⟨n, q1, q2, q3, q4⟩ := h6
    exact ⟨n, by rw [e 18 (by omega) (by omega) (by omega) (by omega) (by omega)]; exact q1, by rw [e30 11 (by omega) (by omega)]; exact q2, q3, fun k hk => by rw [e 19 (by omega) (by omega) (by omega) (by omega) (by omega), e 29 (by omega) (by omega) (by omega) (by omega) (by omega)]; exact q4 k hk⟩
  · obtain ⟨f, q1, q2⟩ := h7
    exact ⟨f, by rw [e 2 (by omega) (by omega) (by omega) (by omega) (by omega)]; exact q1, q2⟩
end Inp
section Inq
variable {W W' W'' : Nat → Nat → Int32} {b : Int}
theorem z_a20C {a1 a2 a3 a4 a5 : Int32} {n : Nat} (h : W 15 0 = zI n) (hn : n + 20 ≤ 600) : ∃ W', f_X9_appendInput W a1 a2 a3 a4 a5 = some (.inr (zI ((n + 20 : Nat) : Int)), W') ∧ z_TA n W (z_wb a1 ++ (z_wb a2 ++ (z_wb a3 ++ (z_wb a4 ++ z_wb a5)))) W' := by
  obtain ⟨W1, e1, k1⟩ := z_a4C (a := a1) h (by omega)
  obtain ⟨W2, e2, k2⟩ := z_a4C (a := a2) k1.2.1 (by rw [z_wb_l]; omega)
  obtain ⟨W3, e3, k3⟩ := z_a4C (a := a3) k2.2.1 (by rw [z_wb_l, z_wb_l]; omega)
  obtain ⟨W4, e4, k4⟩ := z_a4C (a := a4) k3.2.1 (by rw [z_wb_l, z_wb_l, z_wb_l]; omega)
  obtain ⟨W5, e5, k5⟩ := z_a4C (a := a5) k4.2.1 (by rw [z_wb_l, z_wb_l, z_wb_l, z_wb_l]; omega)
  refine ⟨W5, ?_, z_TA_t k1 (z_TA_t k2 (z_TA_t k3 (z_TA_t k4 k5)))⟩
  unfold f_X9_appendInput
  rw [h]
  simp (disch := omega) only [z_lit, z_n, z_add, z_sub, z_mul, z_neg, z_lt1, z_lt0, z_le1, z_le0, z_eq1, z_eq0, z_10, ↓reduceIte, z_v, z_upd, z_ue, z_un, z_ixn, z_ixo, z_ix0, z_ix1, z_ix2, z_ix3, z_ix4, z_ix5, z_ix6, Int.reduceToNat, z_inr, z_gd, ↓z_bnd, ↓z_jn, z_bdc, z_bd2, z_opn, z_ops, z_z01, z_Bt, z_Bf, e1, e2, e3, e4, e5]
  rw [k5.2.1]
  simp only [z_wb_l, Nat.add_assoc, Nat.reduceAdd]
theorem z_a20G {a1 a2 a3 a4 a5 : Int32} {n : Nat} (h : W 30 3 = zI n) (hn : n + 20 ≤ 600) : ∃ W', f_X10_appendInput W a1 a2 a3 a4 a5 = some (zI ((n + 20 : Nat) : Int), W') ∧ z_TB n (z_th W 0) (z_wb a1 ++ (z_wb a2 ++ (z_wb a3 ++ (z_wb a4 ++ z_wb a5)))) W' := by
  have h' : z_th W 0 30 3 = zI n := by rw [z_thk (by omega)]; exact h
  obtain ⟨W1, e1, k1⟩ := z_a4G (a := a1) h' (by omega)
  obtain ⟨W2, e2, k2⟩ := z_a4G (a := a2) k1.2.2.1 (by rw [z_wb_l]; omega)
  obtain ⟨W3, e3, k3⟩ := z_a4G (a := a3) k2.2.2.1 (by rw [z_wb_l, z_wb_l]; omega)
  obtain ⟨W4, e4, k4⟩ := z_a4G (a := a4) k3.2.2.1 (by rw [z_wb_l, z_wb_l, z_wb_l]; omega)
  obtain ⟨W5, e5, k5⟩ := z_a4G (a := a5) k4.2.2.1 (by rw [z_wb_l, z_wb_l, z_wb_l, z_wb_l]; omega)
  refine ⟨W5, ?_, z_TB_t k1 (z_TB_t k2 (z_TB_t k3 (z_TB_t k4 k5)))⟩
  unfold f_X10_appendInput
  rw [z_bnd, z_l0, show w2 W 30 2 (zI 0) = z_th W 0 from rfl, h']
  have r0 : ∀ c : Int32, f_X10_refuses (z_th W 0) (zI 0) c = some (zI 0, z_th W 0) := fun c => z_Gr0 z_the
  simp (disch := omega) only [z_lit, z_n, z_add, z_sub, z_mul, z_neg, z_lt1, z_lt0, z_le1, z_le0, z_eq1, z_eq0, z_10, ↓reduceIte, z_v, z_upd, z_ue, z_un, z_ixn, z_ixo, z_ix0, z_ix1, z_ix2, z_ix3, z_ix4, z_ix5, z_ix6, Int.reduceToNat, z_inr, z_gd, ↓z_bnd, ↓z_jn, z_bdc, z_bd2, z_opn, z_ops, z_z01, z_Bt, z_Bf, r0, e1, e2, e3, e4, e5]
  rw [k5.2.2.1]
  simp only [z_wb_l, Nat.add_assoc, Nat.reduceAdd]
theorem z_m_0 (H : z_RW b W) {a1 a2 a3 a4 a5 : Int32} : z_AG (f_L_appendInput W a1 a2 a3 a4 a5) (fun W1 => f_X10_appendInput W1 a1 a2 a3 a4 a5) (z_RW b) := by
  obtain ⟨n, q1, q2, q3, q4⟩ := H.2.2.2.1
  obtain ⟨m, rfl⟩ : ∃ m : Nat, n = m := ⟨n.toNat, by omega⟩
  unfold f_L_appendInput
  by_cases c : m + 20 ≤ 600
  · obtain ⟨W1, e1, k1⟩ := z_a20C (a1 := a1) (a2 := a2) (a3 := a3) (a4 := a4) (a5 := a5) q1 c
    obtain ⟨W2, e2, k2⟩ := z_a20G (W := w2 W1 31 0 (zI ((m + 20 : Nat) : Int))) (a1 := a1) (a2 := a2) (a3 := a3) (a4 := a4) (a5 := a5) (n := m) (by rw [z_w2u (by omega), k1.1 30 (by omega) (by omega)]; exact q2) c
    generalize hxs : (z_wb a1 ++ (z_wb a2 ++ (z_wb a3 ++ (z_wb a4 ++ z_wb a5)))) = xs at *
    have hl : xs.length = 20 := by subst hxs; simp only [List.length_append, z_wb_l]
    have p : ∀ u, u ≠ 28 → u ≠ 30 → W2 u = w2 W1 31 0 (zI ((m + 20 : Nat) : Int)) u := fun u x y => by rw [k2.1 u x y, z_thu y]
    refine ⟨0, zI ((m + 20 : Nat) : Int), _, W2, ?_, e2, ?_, by omega, by omega, fun _ => ?_, ?_⟩
    · rw [e1]
      rfl
    · rw [k2.2.1 2 (by omega)]
      exact z_the
    · rw [p 31 (by omega) (by omega)]
      exact z_w2e
    · refine z_RW_tx H (fun u c1 c2 c3 c4 c5 => by rw [p u c3 c4, z_w2u c5, k1.1 u c1 c2]) (fun k c1 c2 => by rw [k2.2.1 k c2, z_thk c1, z_w2u (by omega), k1.1 30 (by omega) (by omega)]) ⟨((m + 20 : Nat) : Int), ?_, ?_, by omega, fun k hk => ?_⟩
      · rw [p 15 (by omega) (by omega), z_w2u (by omega), k1.2.1, hl]
      · rw [k2.2.2.1, hl]
      · rw [p 16 (by omega) (by omega), z_w2u (by omega)]
        by_cases d : k < m ∨ m + 20 ≤ k
        · rw [k1.2.2.1 k (by omega), k2.2.2.2.1 k (by omega), z_thu (by omega), z_w2u (by omega), k1.1 28 (by omega) (by omega)]
          exact q4 k hk
        · have a := k1.2.2.2 (k - m) (by omega)
          have c := k2.2.2.2.2 (k - m) (by omega)
          rw [show m + (k - m) = k by omega] at a c
          rw [a, c]
  · refine ⟨1, zI 0, W, z_th W 1, ?_, ?_, z_the, by omega, by omega, fun q => absurd q (by omega), z_RW_EQ H z_EQ_th⟩
    · unfold f_X9_appendInput
      rw [q1]
      simp (disch := omega) only [z_lit, z_n, z_add, z_sub, z_mul, z_neg, z_lt1, z_lt0, z_le1, z_le0, z_eq1, z_eq0, z_10, ↓reduceIte, z_v, z_upd, z_ue, z_un, z_ixn, z_ixo, z_ix0, z_ix1, z_ix2, z_ix3, z_ix4, z_ix5, z_ix6, Int.reduceToNat, z_inr, z_gd, ↓z_bnd, ↓z_jn, z_bdc, z_bd2, z_opn, z_ops, z_z01, z_Bt, z_Bf]
      rfl
    · show f_X10_appendInput W a1 a2 a3 a4 a5 = _
      unfold f_X10_appendInput
      have h' : z_th W 0 30 3 = zI m := by rw [z_thk (by omega)]; exact q2
      rw [z_bnd, z_l0, show w2 W 30 2 (zI 0) = z_th W 0 from rfl, h']
      have r1 : f_X10_refuses (z_th W 0) (zI 1) (zI 1) = some (zI 1, z_th (z_th W 0) 1) := z_Gr1 z_the (by omega)
      simp (disch := omega) only [z_lit, z_n, z_add, z_sub, z_mul, z_neg, z_lt1, z_lt0, z_le1, z_le0, z_eq1, z_eq0, z_10, ↓reduceIte, z_v, z_upd, z_ue, z_un, z_ixn, z_ixo, z_ix0, z_ix1, z_ix2, z_ix3, z_ix4, z_ix5, z_ix6, Int.reduceToNat, z_inr, z_gd, ↓z_bnd, ↓z_jn, z_bdc, z_bd2, z_opn, z_ops, z_z01, z_Bt, z_Bf, r1, z_thth]
theorem z_m_1 (H : z_RW b W) {a : Int} (ha : zR a) : z_AG (f_L_truncateInput W (zI a)) (fun W1 => f_X10_truncateInput W1 (zI a)) (z_RW b) := by
  obtain ⟨n, q1, q2, q3, q4⟩ := H.2.2.2.1
  unfold f_L_truncateInput
  have eR : ∀ W1 : Nat → Nat → Int32, W1 30 3 = zI n → f_X10_truncateInput W1 (zI a) = if 0 ≤ a ∧ a ≤ n then some (zI a, w2 (z_th W1 0) 30 3 (zI a)) else some (zI 0, z_th W1 1) := by
    intro W1 e
    unfold f_X10_truncateInput
    rw [e, z_l0, z_Gnn ha (by unfold zR; omega) (by unfold zR; omega), z_bd2]
    by_cases c : 0 ≤ a ∧ a ≤ n
    · rw [if_pos c, z_o0 (by omega), if_pos rfl, z_bnd]
    · rw [if_neg c, z_o1 (by omega)]
      simp (disch := omega) only [z_lit, z_n, z_add, z_sub, z_mul, z_neg, z_lt1, z_lt0, z_le1, z_le0, z_eq1, z_eq0, z_10, ↓reduceIte, z_v, z_upd, z_ue, z_un, z_ixn, z_ixo, z_ix0, z_ix1, z_ix2, z_ix3, z_ix4, z_ix5, z_ix6, Int.reduceToNat, z_inr, z_gd, ↓z_bnd, ↓z_jn, z_bdc, z_bd2, z_opn, z_ops, z_z01, z_Bt, z_Bf]
  by_cases c : 0 ≤ a ∧ a ≤ n
  · have eC : f_X9_truncateInput W (zI a) = some (.inr (zI a), w2 W 15 0 (zI a)) := by
      unfold f_X9_truncateInput
      rw [q1]
      simp (disch := omega) only [z_lit, z_n, z_add, z_sub, z_mul, z_neg, z_lt1, z_lt0, z_le1, z_le0, z_eq1, z_eq0, z_10, ↓reduceIte, z_v, z_upd, z_ue, z_un, z_ixn, z_ixo, z_ix0, z_ix1, z_ix2, z_ix3, z_ix4, z_ix5, z_ix6, Int.reduceToNat, z_inr, z_gd, ↓z_bnd, ↓z_jn, z_bdc, z_bd2, z_opn, z_ops, z_z01, z_Bt, z_Bf]
    rw [eC]
    refine ⟨0, zI a, w2 (w2 W 15 0 (zI a)) 31 0 (zI a), w2 (z_th (w2 (w2 W 15 0 (zI a)) 31 0 (zI a)) 0) 30 3 (zI a), rfl, ?_, ?_, by omega, by omega, fun _ => ?_, ?_⟩
    · show f_X10_truncateInput _ _ = _
      rw [eR _ (by rw [z_w2u (by omega), z_w2u (by omega)]; exact q2), if_pos c]
    · rw [z_w2k (by omega)]
      exact z_the
    · rw [z_w2u (by omega), z_thu (by omega)]
      exact z_w2e
    · refine z_RW_tx H (fun u c1 c2 c3 c4 c5 => by rw [z_w2u c4, z_thu c4, z_w2u c5, z_w2u c1]) (fun k c1 c2 => by rw [z_w2k c2, z_thk c1, z_w2u (by omega), z_w2u (by omega)]) ⟨a, ?_, z_w2e, by omega, fun k hk => ?_⟩
      · rw [z_w2u (by omega), z_thu (by omega), z_w2u (by omega)]
        exact z_w2e
      · rw [z_w2u (by omega), z_thu (by omega), z_w2u (by omega), z_w2u (by omega), z_w2u (by omega), z_thu (by omega), z_w2u (by omega), z_w2u (by omega)]
        exact q4 k hk
  · refine ⟨1, zI 0, W, z_th W 1, ?_, ?_, z_the, by omega, by omega, fun q => absurd q (by omega), z_RW_EQ H z_EQ_th⟩
    · unfold zR at ha
      unfold f_X9_truncateInput
      rw [q1, z_l0]
      by_cases d : a < 0
      · rw [z_ltT d (by omega) (by omega)]
        rfl
      · rw [z_ltF (by omega) (by omega) (by omega), z_leF (by omega) (by omega) (by omega)]
        rfl
    · show f_X10_truncateInput _ _ = _
      rw [eR _ q2, if_neg c]
end Inq
