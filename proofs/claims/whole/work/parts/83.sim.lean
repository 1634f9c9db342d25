/-! single values that both sides read -/
section Sim
variable {W W' : Nat → Nat → Int32} {b : Int}
theorem z_sim {l : Option Int32} {m : Option (Int32 × (Nat → Nat → Int32))} {v : Int32} (H : z_RW b W) (h1 : l = some v) (h2 : m = some (v, z_th W 0)) : ∃ W', (bdc l (fun v1 => bd2 m (fun v3 W2 => if v1 = v3 then some W2 else none))) = some W' ∧ z_RW b W' := by
  subst h1 h2
  rw [z_bdc, z_bd2, if_pos rfl]
  exact ⟨_, rfl, z_RW_EQ H z_EQ_th⟩
theorem z_m_3 (H : z_RW b W) : ∃ W', (bdc (f_X9_errorCode W) (fun v1 => bd2 (f_X10_errorCode W) (fun v3 W2 => if v1 = v3 then some W2 else none))) = some W' ∧ z_RW b W' := by
  refine z_sim (v := W 13 0) H rfl ?_
  unfold f_X10_errorCode
  rw [z_bnd, z_l0, show w2 W 30 2 (zI 0) = z_th W 0 from rfl, z_thk (by omega), H.2.2.2.2.1.1]
theorem z_m_4 (H : z_RW b W) : ∃ W', (bdc (f_X9_errorPosition W) (fun v1 => bd2 (f_X10_errorPosition W) (fun v3 W2 => if v1 = v3 then some W2 else none))) = some W' ∧ z_RW b W' := by
  refine z_sim (v := W 13 1) H rfl ?_
  unfold f_X10_errorPosition
  rw [z_bnd, z_l0, show w2 W 30 2 (zI 0) = z_th W 0 from rfl, z_thk (by omega), H.2.2.2.2.1.2]
theorem z_m_63 (H : z_RW b W) : ∃ W', (bdc (f_X9_undoDepth W) (fun v1 => bd2 (f_X10_undoDepth W) (fun v3 W2 => if v1 = v3 then some W2 else none))) = some W' ∧ z_RW b W' := by
  obtain ⟨n, c, st, a1, a2, a3, -⟩ := id H.2.1
  refine z_sim (v := W 17 1) H rfl ?_
  unfold f_X10_undoDepth
  rw [z_bnd, z_l0, show w2 W 30 2 (zI 0) = z_th W 0 from rfl, z_thk (by omega), a2, a3]
theorem z_hd (H : z_RW b W) {k : Nat} (hk : k < 7) : z_th W 0 21 k = W 0 k := by
  obtain ⟨s, g, q0, q1, q2⟩ := z_Q_RW H
  rw [z_thu (by omega), q1 k (by omega), q0, z_v, q2.2.1.1 k (by omega)]
theorem z_m_5 (H : z_RW b W) : ∃ W', (bdc (f_X9_clock W) (fun v1 => bd2 (f_X10_clock W) (fun v3 W2 => if v1 = v3 then some W2 else none))) = some W' ∧ z_RW b W' := by
  refine z_sim (v := W 0 0) H rfl ?_
  unfold f_X10_clock
  have := z_hd H (k := 0) (by omega)
  rw [z_bnd, z_l0, z_inr (by omega) (by omega) (by omega), z_gd, z_ix0, show w2 W 30 2 (zI 0) = z_th W 0 from rfl, this]
theorem z_m_6 (H : z_RW b W) : ∃ W', (bdc (f_X9_stationCount W) (fun v1 => bd2 (f_X10_stationCount W) (fun v3 W2 => if v1 = v3 then some W2 else none))) = some W' ∧ z_RW b W' := by
  refine z_sim (v := W 0 1) H rfl ?_
  unfold f_X10_stationCount
  have := z_hd H (k := 1) (by omega)
  rw [z_bnd, z_l0, z_l1, z_inr (by omega) (by omega) (by omega), z_gd, z_ix1, show w2 W 30 2 (zI 0) = z_th W 0 from rfl, this]
theorem z_m_7 (H : z_RW b W) : ∃ W', (bdc (f_X9_trackCount W) (fun v1 => bd2 (f_X10_trackCount W) (fun v3 W2 => if v1 = v3 then some W2 else none))) = some W' ∧ z_RW b W' := by
  refine z_sim (v := W 0 2) H rfl ?_
  unfold f_X10_trackCount
  have := z_hd H (k := 2) (by omega)
  rw [z_bnd, z_l0, z_l2, z_inr (by omega) (by omega) (by omega), z_gd, z_ix2, show w2 W 30 2 (zI 0) = z_th W 0 from rfl, this]
theorem z_m_8 (H : z_RW b W) : ∃ W', (bdc (f_X9_trainCount W) (fun v1 => bd2 (f_X10_trainCount W) (fun v3 W2 => if v1 = v3 then some W2 else none))) = some W' ∧ z_RW b W' := by
  refine z_sim (v := W 0 3) H rfl ?_
  unfold f_X10_trainCount
  have := z_hd H (k := 3) (by omega)
  rw [z_bnd, z_l0, show (3 : Int32) = zI 3 from z_lit 3, z_inr (by omega) (by omega) (by omega), z_gd, z_ix3, show w2 W 30 2 (zI 0) = z_th W 0 from rfl, this]
theorem z_m_9 (H : z_RW b W) : ∃ W', (bdc (f_X9_parcelCount W) (fun v1 => bd2 (f_X10_parcelCount W) (fun v3 W2 => if v1 = v3 then some W2 else none))) = some W' ∧ z_RW b W' := by
  refine z_sim (v := W 0 4) H rfl ?_
  unfold f_X10_parcelCount
  have := z_hd H (k := 4) (by omega)
  rw [z_bnd, z_l0, show (4 : Int32) = zI 4 from z_lit 4, z_inr (by omega) (by omega) (by omega), z_gd, z_ix4, show w2 W 30 2 (zI 0) = z_th W 0 from rfl, this]
end Sim
