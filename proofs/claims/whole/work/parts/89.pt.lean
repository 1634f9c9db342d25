section Fc
variable {W : Nat → Nat → Int32} {xs : Nat → Int32} {L : Nat} {b i : Int}
theorem w_g (hi : 0 ≤ i) (hL : i + 6 ≤ L) (hM : L ≤ 3072) {c : Int} (hc : 0 ≤ c ∧ c ≤ 5) : inr (zI i + zI c) L = true := by
  rw [z_add]
  exact z_inr (by omega) (by omega) (by omega)
theorem w_fc_0 (hb : 0 ≤ b) (hB : b ≤ 90000000) (H : z_RW b W) (hi : 0 ≤ i) (hL : i + 6 ≤ L) (hM : L ≤ 3072) : ∃ W', fc_0 L xs (zI i) W = some W' ∧ z_RW (b + 36060) W' := by
  obtain ⟨s, g, hq⟩ := z_Q_RW H
  obtain ⟨a1, e1, h1⟩ := z_arg (xs (ix (zI i + (1 : Int32))))
  have g1 : inr (zI i + (1 : Int32)) L = true := w_g hi hL hM (c := 1) (by omega)
  obtain ⟨a2, e2, h2⟩ := z_arg (xs (ix (zI i + (2 : Int32))))
  have g2 : inr (zI i + (2 : Int32)) L = true := w_g hi hL hM (c := 2) (by omega)
  obtain ⟨a3, e3, h3⟩ := z_arg (xs (ix (zI i + (3 : Int32))))
  have g3 : inr (zI i + (3 : Int32)) L = true := w_g hi hL hM (c := 3) (by omega)
  obtain ⟨a4, e4, h4⟩ := z_arg (xs (ix (zI i + (4 : Int32))))
  have g4 : inr (zI i + (4 : Int32)) L = true := w_g hi hL hM (c := 4) (by omega)
  obtain ⟨a5, e5, h5⟩ := z_arg (xs (ix (zI i + (5 : Int32))))
  have g5 : inr (zI i + (5 : Int32)) L = true := w_g hi hL hM (c := 5) (by omega)
  obtain ⟨W', w1, w2⟩ := z_tail (z_m_0 H (a1 := zI a1) (a2 := zI a2) (a3 := zI a3) (a4 := zI a4) (a5 := zI a5))
  refine ⟨W', ?_, z_RW_le w2 (by omega)⟩
  unfold fc_0
  simp only [g1, g2, g3, g4, g5, z_gd, e1, e2, e3, e4, e5]
  exact w1
theorem w_fc_1 (hb : 0 ≤ b) (hB : b ≤ 90000000) (H : z_RW b W) (hi : 0 ≤ i) (hL : i + 6 ≤ L) (hM : L ≤ 3072) : ∃ W', fc_1 L xs (zI i) W = some W' ∧ z_RW (b + 36060) W' := by
  obtain ⟨s, g, hq⟩ := z_Q_RW H
  obtain ⟨a1, e1, h1⟩ := z_arg (xs (ix (zI i + (1 : Int32))))
  have g1 : inr (zI i + (1 : Int32)) L = true := w_g hi hL hM (c := 1) (by omega)
  obtain ⟨W', w1, w2⟩ := z_tail (z_m_1 H h1)
  refine ⟨W', ?_, z_RW_le w2 (by omega)⟩
  unfold fc_1
  simp only [g1, z_gd, e1]
  exact w1
theorem w_fc_2 (hb : 0 ≤ b) (hB : b ≤ 90000000) (H : z_RW b W) (hi : 0 ≤ i) (hL : i + 6 ≤ L) (hM : L ≤ 3072) : ∃ W', fc_2 L xs (zI i) W = some W' ∧ z_RW (b + 36060) W' := by
  obtain ⟨s, g, hq⟩ := z_Q_RW H
  obtain ⟨W', w1, w2⟩ := z_tail (z_m_2 (by omega) hb H)
  refine ⟨W', ?_, w2⟩
  unfold fc_2
  exact w1
theorem w_fc_3 (hb : 0 ≤ b) (hB : b ≤ 90000000) (H : z_RW b W) (hi : 0 ≤ i) (hL : i + 6 ≤ L) (hM : L ≤ 3072) : ∃ W', fc_3 L xs (zI i) W = some W' ∧ z_RW (b + 36060) W' := by
  obtain ⟨s, g, hq⟩ := z_Q_RW H
  obtain ⟨W', w1, w2⟩ := z_m_3 H
  refine ⟨W', ?_, z_RW_le w2 (by omega)⟩
  unfold fc_3
  exact w1
theorem w_fc_4 (hb : 0 ≤ b) (hB : b ≤ 90000000) (H : z_RW b W) (hi : 0 ≤ i) (hL : i + 6 ≤ L) (hM : L ≤ 3072) : ∃ W', fc_4 L xs (zI i) W = some W' ∧ z_RW (b + 36060) W' := by
  obtain ⟨s, g, hq⟩ := z_Q_RW H
  obtain ⟨W', w1, w2⟩ := z_m_4 H
  refine ⟨W', ?_, z_RW_le w2 (by omega)⟩
  unfold fc_4
  exact w1
theorem w_fc_5 (hb : 0 ≤ b) (hB : b ≤ 90000000) (H : z_RW b W) (hi : 0 ≤ i) (hL : i + 6 ≤ L) (hM : L ≤ 3072) : ∃ W', fc_5 L xs (zI i) W = some W' ∧ z_RW (b + 36060) W' := by
  obtain ⟨s, g, hq⟩ := z_Q_RW H
  obtain ⟨W', w1, w2⟩ := z_m_5 H
  refine ⟨W', ?_, z_RW_le w2 (by omega)⟩
  unfold fc_5
  exact w1
theorem w_fc_6 (hb : 0 ≤ b) (hB : b ≤ 90000000) (H : z_RW b W) (hi : 0 ≤ i) (hL : i + 6 ≤ L) (hM : L ≤ 3072) : ∃ W', fc_6 L xs (zI i) W = some W' ∧ z_RW (b + 36060) W' := by
  obtain ⟨s, g, hq⟩ := z_Q_RW H
  obtain ⟨W', w1, w2⟩ := z_m_6 H
  refine ⟨W', ?_, z_RW_le w2 (by omega)⟩
  unfold fc_6
  exact w1
theorem w_fc_7 (hb : 0 ≤ b) (hB : b ≤ 90000000) (H : z_RW b W) (hi : 0 ≤ i) (hL : i + 6 ≤ L) (hM : L ≤ 3072) : ∃ W', fc_7 L xs (zI i) W = some W' ∧ z_RW (b + 36060) W' := by
  obtain ⟨s, g, hq⟩ := z_Q_RW H
  obtain ⟨W', w1, w2⟩ := z_m_7 H
  refine ⟨W', ?_, z_RW_le w2 (by omega)⟩
  unfold fc_7
  exact w1
theorem w_fc_8 (hb : 0 ≤ b) (hB : b ≤ 90000000) (H : z_RW b W) (hi : 0 ≤ i) (hL : i + 6 ≤ L) (hM : L ≤ 3072) : ∃ W', fc_8 L xs (zI i) W = some W' ∧ z_RW (b + 36060) W' := by
  obtain ⟨s, g, hq⟩ := z_Q_RW H
  obtain ⟨W', w1, w2⟩ := z_m_8 H
  refine ⟨W', ?_, z_RW_le w2 (by omega)⟩
  unfold fc_8
  exact w1
theorem w_fc_9 (hb : 0 ≤ b) (hB : b ≤ 90000000) (H : z_RW b W) (hi : 0 ≤ i) (hL : i + 6 ≤ L) (hM : L ≤ 3072) : ∃ W', fc_9 L xs (zI i) W = some W' ∧ z_RW (b + 36060) W' := by
  obtain ⟨s, g, hq⟩ := z_Q_RW H
  obtain ⟨W', w1, w2⟩ := z_m_9 H
  refine ⟨W', ?_, z_RW_le w2 (by omega)⟩
  unfold fc_9
  exact w1
theorem w_fc_10 (hb : 0 ≤ b) (hB : b ≤ 90000000) (H : z_RW b W) (hi : 0 ≤ i) (hL : i + 6 ≤ L) (hM : L ≤ 3072) : ∃ W', fc_10 L xs (zI i) W = some W' ∧ z_RW (b + 36060) W' := by
  obtain ⟨s, g, hq⟩ := z_Q_RW H
  obtain ⟨a1, e1, h1⟩ := z_arg (xs (ix (zI i + (1 : Int32))))
  have g1 : inr (zI i + (1 : Int32)) L = true := w_g hi hL hM (c := 1) (by omega)
  obtain ⟨W', w1, w2⟩ := z_m_isRequestStop hq h1
  refine ⟨W', ?_, z_RW_le (z_RW_EQ H w2) (by omega)⟩
  unfold fc_10
  simp only [g1, z_gd, e1]
  exact w1
theorem w_fc_11 (hb : 0 ≤ b) (hB : b ≤ 90000000) (H : z_RW b W) (hi : 0 ≤ i) (hL : i + 6 ≤ L) (hM : L ≤ 3072) : ∃ W', fc_11 L xs (zI i) W = some W' ∧ z_RW (b + 36060) W' := by
  obtain ⟨s, g, hq⟩ := z_Q_RW H
  obtain ⟨a1, e1, h1⟩ := z_arg (xs (ix (zI i + (1 : Int32))))
  have g1 : inr (zI i + (1 : Int32)) L = true := w_g hi hL hM (c := 1) (by omega)
  obtain ⟨W', w1, w2⟩ := z_tail (z_m_inspectionTime hq h1)
  refine ⟨W', ?_, z_RW_le (z_RW_EQ H w2) (by omega)⟩
  unfold fc_11
  simp only [g1, z_gd, e1]
  exact w1
theorem w_fc_12 (hb : 0 ≤ b) (hB : b ≤ 90000000) (H : z_RW b W) (hi : 0 ≤ i) (hL : i + 6 ≤ L) (hM : L ≤ 3072) : ∃ W', fc_12 L xs (zI i) W = some W' ∧ z_RW (b + 36060) W' := by
  obtain ⟨s, g, hq⟩ := z_Q_RW H
  obtain ⟨a1, e1, h1⟩ := z_arg (xs (ix (zI i + (1 : Int32))))
  have g1 : inr (zI i + (1 : Int32)) L = true := w_g hi hL hM (c := 1) (by omega)
  obtain ⟨W', w1, w2⟩ := z_tail (z_m_waitingCount hq h1)
  refine ⟨W', ?_, z_RW_le (z_RW_EQ H w2) (by omega)⟩
  unfold fc_12
  simp only [g1, z_gd, e1]
  exact w1
theorem w_fc_13 (hb : 0 ≤ b) (hB : b ≤ 90000000) (H : z_RW b W) (hi : 0 ≤ i) (hL : i + 6 ≤ L) (hM : L ≤ 3072) : ∃ W', fc_13 L xs (zI i) W = some W' ∧ z_RW (b + 36060) W' := by
  obtain ⟨s, g, hq⟩ := z_Q_RW H
  obtain ⟨a1, e1, h1⟩ := z_arg (xs (ix (zI i + (1 : Int32))))
  have g1 : inr (zI i + (1 : Int32)) L = true := w_g hi hL hM (c := 1) (by omega)
  obtain ⟨a2, e2, h2⟩ := z_arg (xs (ix (zI i + (2 : Int32))))
  have g2 : inr (zI i + (2 : Int32)) L = true := w_g hi hL hM (c := 2) (by omega)
  obtain ⟨W', w1, w2⟩ := z_tail (z_m_waitingParcel hq h1 h2)
  refine ⟨W', ?_, z_RW_le (z_RW_EQ H w2) (by omega)⟩
  unfold fc_13
  simp only [g1, g2, z_gd, e1, e2]
  exact w1
theorem w_fc_14 (hb : 0 ≤ b) (hB : b ≤ 90000000) (H : z_RW b W) (hi : 0 ≤ i) (hL : i + 6 ≤ L) (hM : L ≤ 3072) : ∃ W', fc_14 L xs (zI i) W = some W' ∧ z_RW (b + 36060) W' := by
  obtain ⟨s, g, hq⟩ := z_Q_RW H
  obtain ⟨a1, e1, h1⟩ := z_arg (xs (ix (zI i + (1 : Int32))))
  have g1 : inr (zI i + (1 : Int32)) L = true := w_g hi hL hM (c := 1) (by omega)
  obtain ⟨a2, e2, h2⟩ := z_arg (xs (ix (zI i + (2 : Int32))))
  have g2 : inr (zI i + (2 : Int32)) L = true := w_g hi hL hM (c := 2) (by omega)
  obtain ⟨W', w1, w2⟩ := z_tail (z_m_travelTime hq h1 h2)
  refine ⟨W', ?_, z_RW_le (z_RW_EQ H w2) (by omega)⟩
  unfold fc_14
  simp only [g1, g2, z_gd, e1, e2]
  exact w1
theorem w_fc_15 (hb : 0 ≤ b) (hB : b ≤ 90000000) (H : z_RW b W) (hi : 0 ≤ i) (hL : i + 6 ≤ L) (hM : L ≤ 3072) : ∃ W', fc_15 L xs (zI i) W = some W' ∧ z_RW (b + 36060) W' := by
  obtain ⟨s, g, hq⟩ := z_Q_RW H
  obtain ⟨a1, e1, h1⟩ := z_arg (xs (ix (zI i + (1 : Int32))))
  have g1 : inr (zI i + (1 : Int32)) L = true := w_g hi hL hM (c := 1) (by omega)
  obtain ⟨a2, e2, h2⟩ := z_arg (xs (ix (zI i + (2 : Int32))))
  have g2 : inr (zI i + (2 : Int32)) L = true := w_g hi hL hM (c := 2) (by omega)
  obtain ⟨W', w1, w2⟩ := z_m_isTrackOpen hq h1 h2
  refine ⟨W', ?_, z_RW_le (z_RW_EQ H w2) (by omega)⟩
  unfold fc_15
  simp only [g1, g2, z_gd, e1, e2]
  exact w1
theorem w_fc_16 (hb : 0 ≤ b) (hB : b ≤ 90000000) (H : z_RW b W) (hi : 0 ≤ i) (hL : i + 6 ≤ L) (hM : L ≤ 3072) : ∃ W', fc_16 L xs (zI i) W = some W' ∧ z_RW (b + 36060) W' := by
  obtain ⟨s, g, hq⟩ := z_Q_RW H
  obtain ⟨a1, e1, h1⟩ := z_arg (xs (ix (zI i + (1 : Int32))))
  have g1 : inr (zI i + (1 : Int32)) L = true := w_g hi hL hM (c := 1) (by omega)
  obtain ⟨a2, e2, h2⟩ := z_arg (xs (ix (zI i + (2 : Int32))))
  have g2 : inr (zI i + (2 : Int32)) L = true := w_g hi hL hM (c := 2) (by omega)
  obtain ⟨W', w1, w2⟩ := z_tail (z_m_distance hq h1 h2)
  refine ⟨W', ?_, z_RW_le (z_RW_EQ H w2) (by omega)⟩
  unfold fc_16
  simp only [g1, g2, z_gd, e1, e2]
  exact w1
theorem w_fc_17 (hb : 0 ≤ b) (hB : b ≤ 90000000) (H : z_RW b W) (hi : 0 ≤ i) (hL : i + 6 ≤ L) (hM : L ≤ 3072) : ∃ W', fc_17 L xs (zI i) W = some W' ∧ z_RW (b + 36060) W' := by
  obtain ⟨s, g, hq⟩ := z_Q_RW H
  obtain ⟨a1, e1, h1⟩ := z_arg (xs (ix (zI i + (1 : Int32))))
  have g1 : inr (zI i + (1 : Int32)) L = true := w_g hi hL hM (c := 1) (by omega)
  obtain ⟨W', w1, w2⟩ := z_tail (z_m_capacity hq h1)
  refine ⟨W', ?_, z_RW_le (z_RW_EQ H w2) (by omega)⟩
  unfold fc_17
  simp only [g1, z_gd, e1]
  exact w1
theorem w_fc_18 (hb : 0 ≤ b) (hB : b ≤ 90000000) (H : z_RW b W) (hi : 0 ≤ i) (hL : i + 6 ≤ L) (hM : L ≤ 3072) : ∃ W', fc_18 L xs (zI i) W = some W' ∧ z_RW (b + 36060) W' := by
  obtain ⟨s, g, hq⟩ := z_Q_RW H
  obtain ⟨a1, e1, h1⟩ := z_arg (xs (ix (zI i + (1 : Int32))))
  have g1 : inr (zI i + (1 : Int32)) L = true := w_g hi hL hM (c := 1) (by omega)
  obtain ⟨W', w1, w2⟩ := z_tail (z_m_routeLength hq h1)
  refine ⟨W', ?_, z_RW_le (z_RW_EQ H w2) (by omega)⟩
  unfold fc_18
  simp only [g1, z_gd, e1]
  exact w1
theorem w_fc_19 (hb : 0 ≤ b) (hB : b ≤ 90000000) (H : z_RW b W) (hi : 0 ≤ i) (hL : i + 6 ≤ L) (hM : L ≤ 3072) : ∃ W', fc_19 L xs (zI i) W = some W' ∧ z_RW (b + 36060) W' := by
  obtain ⟨s, g, hq⟩ := z_Q_RW H
  obtain ⟨a1, e1, h1⟩ := z_arg (xs (ix (zI i + (1 : Int32))))
  have g1 : inr (zI i + (1 : Int32)) L = true := w_g hi hL hM (c := 1) (by omega)
  obtain ⟨a2, e2, h2⟩ := z_arg (xs (ix (zI i + (2 : Int32))))
  have g2 : inr (zI i + (2 : Int32)) L = true := w_g hi hL hM (c := 2) (by omega)
  obtain ⟨W', w1, w2⟩ := z_tail (z_m_routeStation hq h1 h2)
  refine ⟨W', ?_, z_RW_le (z_RW_EQ H w2) (by omega)⟩
  unfold fc_19
  simp only [g1, g2, z_gd, e1, e2]
  exact w1
theorem w_fc_20 (hb : 0 ≤ b) (hB : b ≤ 90000000) (H : z_RW b W) (hi : 0 ≤ i) (hL : i + 6 ≤ L) (hM : L ≤ 3072) : ∃ W', fc_20 L xs (zI i) W = some W' ∧ z_RW (b + 36060) W' := by
  obtain ⟨s, g, hq⟩ := z_Q_RW H
  obtain ⟨a1, e1, h1⟩ := z_arg (xs (ix (zI i + (1 : Int32))))
  have g1 : inr (zI i + (1 : Int32)) L = true := w_g hi hL hM (c := 1) (by omega)
  obtain ⟨W', w1, w2⟩ := z_tail (z_m_carriedCount hq h1)
  refine ⟨W', ?_, z_RW_le (z_RW_EQ H w2) (by omega)⟩
  unfold fc_20
  simp only [g1, z_gd, e1]
  exact w1
theorem w_fc_21 (hb : 0 ≤ b) (hB : b ≤ 90000000) (H : z_RW b W) (hi : 0 ≤ i) (hL : i + 6 ≤ L) (hM : L ≤ 3072) : ∃ W', fc_21 L xs (zI i) W = some W' ∧ z_RW (b + 36060) W' := by
  obtain ⟨s, g, hq⟩ := z_Q_RW H
  obtain ⟨a1, e1, h1⟩ := z_arg (xs (ix (zI i + (1 : Int32))))
  have g1 : inr (zI i + (1 : Int32)) L = true := w_g hi hL hM (c := 1) (by omega)
  obtain ⟨a2, e2, h2⟩ := z_arg (xs (ix (zI i + (2 : Int32))))
  have g2 : inr (zI i + (2 : Int32)) L = true := w_g hi hL hM (c := 2) (by omega)
  obtain ⟨W', w1, w2⟩ := z_tail (z_m_carriedParcel hq h1 h2)
  refine ⟨W', ?_, z_RW_le (z_RW_EQ H w2) (by omega)⟩
  unfold fc_21
  simp only [g1, g2, z_gd, e1, e2]
  exact w1
theorem w_fc_22 (hb : 0 ≤ b) (hB : b ≤ 90000000) (H : z_RW b W) (hi : 0 ≤ i) (hL : i + 6 ≤ L) (hM : L ≤ 3072) : ∃ W', fc_22 L xs (zI i) W = some W' ∧ z_RW (b + 36060) W' := by
  obtain ⟨s, g, hq⟩ := z_Q_RW H
  obtain ⟨a1, e1, h1⟩ := z_arg (xs (ix (zI i + (1 : Int32))))
  have g1 : inr (zI i + (1 : Int32)) L = true := w_g hi hL hM (c := 1) (by omega)
  obtain ⟨W', w1, w2⟩ := z_tail (z_m_trainStation hq h1)
  refine ⟨W', ?_, z_RW_le (z_RW_EQ H w2) (by omega)⟩
  unfold fc_22
  simp only [g1, z_gd, e1]
  exact w1
theorem w_fc_23 (hb : 0 ≤ b) (hB : b ≤ 90000000) (H : z_RW b W) (hi : 0 ≤ i) (hL : i + 6 ≤ L) (hM : L ≤ 3072) : ∃ W', fc_23 L xs (zI i) W = some W' ∧ z_RW (b + 36060) W' := by
  obtain ⟨s, g, hq⟩ := z_Q_RW H
  obtain ⟨a1, e1, h1⟩ := z_arg (xs (ix (zI i + (1 : Int32))))
  have g1 : inr (zI i + (1 : Int32)) L = true := w_g hi hL hM (c := 1) (by omega)
  obtain ⟨W', w1, w2⟩ := z_tail (z_m_nextStation hq h1)
  refine ⟨W', ?_, z_RW_le (z_RW_EQ H w2) (by omega)⟩
  unfold fc_23
  simp only [g1, z_gd, e1]
  exact w1
theorem w_fc_24 (hb : 0 ≤ b) (hB : b ≤ 90000000) (H : z_RW b W) (hi : 0 ≤ i) (hL : i + 6 ≤ L) (hM : L ≤ 3072) : ∃ W', fc_24 L xs (zI i) W = some W' ∧ z_RW (b + 36060) W' := by
  obtain ⟨s, g, hq⟩ := z_Q_RW H
  obtain ⟨a1, e1, h1⟩ := z_arg (xs (ix (zI i + (1 : Int32))))
  have g1 : inr (zI i + (1 : Int32)) L = true := w_g hi hL hM (c := 1) (by omega)
  obtain ⟨W', w1, w2⟩ := z_m_isForward hq h1
  refine ⟨W', ?_, z_RW_le (z_RW_EQ H w2) (by omega)⟩
  unfold fc_24
  simp only [g1, z_gd, e1]
  exact w1
theorem w_fc_25 (hb : 0 ≤ b) (hB : b ≤ 90000000) (H : z_RW b W) (hi : 0 ≤ i) (hL : i + 6 ≤ L) (hM : L ≤ 3072) : ∃ W', fc_25 L xs (zI i) W = some W' ∧ z_RW (b + 36060) W' := by
  obtain ⟨s, g, hq⟩ := z_Q_RW H
  obtain ⟨a1, e1, h1⟩ := z_arg (xs (ix (zI i + (1 : Int32))))
  have g1 : inr (zI i + (1 : Int32)) L = true := w_g hi hL hM (c := 1) (by omega)
  obtain ⟨W', w1, w2⟩ := z_tail (z_m_minutesToNext hq h1)
  refine ⟨W', ?_, z_RW_le (z_RW_EQ H w2) (by omega)⟩
  unfold fc_25
  simp only [g1, z_gd, e1]
  exact w1
theorem w_fc_26 (hb : 0 ≤ b) (hB : b ≤ 90000000) (H : z_RW b W) (hi : 0 ≤ i) (hL : i + 6 ≤ L) (hM : L ≤ 3072) : ∃ W', fc_26 L xs (zI i) W = some W' ∧ z_RW (b + 36060) W' := by
  obtain ⟨s, g, hq⟩ := z_Q_RW H
  obtain ⟨a1, e1, h1⟩ := z_arg (xs (ix (zI i + (1 : Int32))))
  have g1 : inr (zI i + (1 : Int32)) L = true := w_g hi hL hM (c := 1) (by omega)
  obtain ⟨W', w1, w2⟩ := z_tail (z_m_delay hq h1)
  refine ⟨W', ?_, z_RW_le (z_RW_EQ H w2) (by omega)⟩
  unfold fc_26
  simp only [g1, z_gd, e1]
  exact w1
theorem w_fc_27 (hb : 0 ≤ b) (hB : b ≤ 90000000) (H : z_RW b W) (hi : 0 ≤ i) (hL : i + 6 ≤ L) (hM : L ≤ 3072) : ∃ W', fc_27 L xs (zI i) W = some W' ∧ z_RW (b + 36060) W' := by
  obtain ⟨s, g, hq⟩ := z_Q_RW H
  obtain ⟨a1, e1, h1⟩ := z_arg (xs (ix (zI i + (1 : Int32))))
  have g1 : inr (zI i + (1 : Int32)) L = true := w_g hi hL hM (c := 1) (by omega)
  obtain ⟨W', w1, w2⟩ := z_tail (z_m_stopsMade hq h1)
  refine ⟨W', ?_, z_RW_le (z_RW_EQ H w2) (by omega)⟩
  unfold fc_27
  simp only [g1, z_gd, e1]
  exact w1
theorem w_fc_28 (hb : 0 ≤ b) (hB : b ≤ 90000000) (H : z_RW b W) (hi : 0 ≤ i) (hL : i + 6 ≤ L) (hM : L ≤ 3072) : ∃ W', fc_28 L xs (zI i) W = some W' ∧ z_RW (b + 36060) W' := by
  obtain ⟨s, g, hq⟩ := z_Q_RW H
  obtain ⟨a1, e1, h1⟩ := z_arg (xs (ix (zI i + (1 : Int32))))
  have g1 : inr (zI i + (1 : Int32)) L = true := w_g hi hL hM (c := 1) (by omega)
  obtain ⟨W', w1, w2⟩ := z_tail (z_m_stopsPassed hq h1)
  refine ⟨W', ?_, z_RW_le (z_RW_EQ H w2) (by omega)⟩
  unfold fc_28
  simp only [g1, z_gd, e1]
  exact w1
theorem w_fc_29 (hb : 0 ≤ b) (hB : b ≤ 90000000) (H : z_RW b W) (hi : 0 ≤ i) (hL : i + 6 ≤ L) (hM : L ≤ 3072) : ∃ W', fc_29 L xs (zI i) W = some W' ∧ z_RW (b + 36060) W' := by
  obtain ⟨s, g, hq⟩ := z_Q_RW H
  obtain ⟨a1, e1, h1⟩ := z_arg (xs (ix (zI i + (1 : Int32))))
  have g1 : inr (zI i + (1 : Int32)) L = true := w_g hi hL hM (c := 1) (by omega)
  obtain ⟨W', w1, w2⟩ := z_tail (z_m_origin hq h1)
  refine ⟨W', ?_, z_RW_le (z_RW_EQ H w2) (by omega)⟩
  unfold fc_29
  simp only [g1, z_gd, e1]
  exact w1
theorem w_fc_30 (hb : 0 ≤ b) (hB : b ≤ 90000000) (H : z_RW b W) (hi : 0 ≤ i) (hL : i + 6 ≤ L) (hM : L ≤ 3072) : ∃ W', fc_30 L xs (zI i) W = some W' ∧ z_RW (b + 36060) W' := by
  obtain ⟨s, g, hq⟩ := z_Q_RW H
  obtain ⟨a1, e1, h1⟩ := z_arg (xs (ix (zI i + (1 : Int32))))
  have g1 : inr (zI i + (1 : Int32)) L = true := w_g hi hL hM (c := 1) (by omega)
  obtain ⟨W', w1, w2⟩ := z_tail (z_m_destination hq h1)
  refine ⟨W', ?_, z_RW_le (z_RW_EQ H w2) (by omega)⟩
  unfold fc_30
  simp only [g1, z_gd, e1]
  exact w1
theorem w_fc_31 (hb : 0 ≤ b) (hB : b ≤ 90000000) (H : z_RW b W) (hi : 0 ≤ i) (hL : i + 6 ≤ L) (hM : L ≤ 3072) : ∃ W', fc_31 L xs (zI i) W = some W' ∧ z_RW (b + 36060) W' := by
  obtain ⟨s, g, hq⟩ := z_Q_RW H
  obtain ⟨a1, e1, h1⟩ := z_arg (xs (ix (zI i + (1 : Int32))))
  have g1 : inr (zI i + (1 : Int32)) L = true := w_g hi hL hM (c := 1) (by omega)
  obtain ⟨W', w1, w2⟩ := z_tail (z_m_priority hq h1)
  refine ⟨W', ?_, z_RW_le (z_RW_EQ H w2) (by omega)⟩
  unfold fc_31
  simp only [g1, z_gd, e1]
  exact w1
theorem w_fc_32 (hb : 0 ≤ b) (hB : b ≤ 90000000) (H : z_RW b W) (hi : 0 ≤ i) (hL : i + 6 ≤ L) (hM : L ≤ 3072) : ∃ W', fc_32 L xs (zI i) W = some W' ∧ z_RW (b + 36060) W' := by
  obtain ⟨s, g, hq⟩ := z_Q_RW H
  obtain ⟨a1, e1, h1⟩ := z_arg (xs (ix (zI i + (1 : Int32))))
  have g1 : inr (zI i + (1 : Int32)) L = true := w_g hi hL hM (c := 1) (by omega)
  obtain ⟨W', w1, w2⟩ := z_tail (z_m_parcelStation hq h1)
  refine ⟨W', ?_, z_RW_le (z_RW_EQ H w2) (by omega)⟩
  unfold fc_32
  simp only [g1, z_gd, e1]
  exact w1
theorem w_fc_33 (hb : 0 ≤ b) (hB : b ≤ 90000000) (H : z_RW b W) (hi : 0 ≤ i) (hL : i + 6 ≤ L) (hM : L ≤ 3072) : ∃ W', fc_33 L xs (zI i) W = some W' ∧ z_RW (b + 36060) W' := by
  obtain ⟨s, g, hq⟩ := z_Q_RW H
  obtain ⟨a1, e1, h1⟩ := z_arg (xs (ix (zI i + (1 : Int32))))
  have g1 : inr (zI i + (1 : Int32)) L = true := w_g hi hL hM (c := 1) (by omega)
  obtain ⟨W', w1, w2⟩ := z_tail (z_m_parcelTrain hq h1)
  refine ⟨W', ?_, z_RW_le (z_RW_EQ H w2) (by omega)⟩
  unfold fc_33
  simp only [g1, z_gd, e1]
  exact w1
theorem w_fc_34 (hb : 0 ≤ b) (hB : b ≤ 90000000) (H : z_RW b W) (hi : 0 ≤ i) (hL : i + 6 ≤ L) (hM : L ≤ 3072) : ∃ W', fc_34 L xs (zI i) W = some W' ∧ z_RW (b + 36060) W' := by
  obtain ⟨s, g, hq⟩ := z_Q_RW H
  obtain ⟨a1, e1, h1⟩ := z_arg (xs (ix (zI i + (1 : Int32))))
  have g1 : inr (zI i + (1 : Int32)) L = true := w_g hi hL hM (c := 1) (by omega)
  obtain ⟨W', w1, w2⟩ := z_tail (z_m_dropStation hq h1)
  refine ⟨W', ?_, z_RW_le (z_RW_EQ H w2) (by omega)⟩
  unfold fc_34
  simp only [g1, z_gd, e1]
  exact w1
theorem w_fc_35 (hb : 0 ≤ b) (hB : b ≤ 90000000) (H : z_RW b W) (hi : 0 ≤ i) (hL : i + 6 ≤ L) (hM : L ≤ 3072) : ∃ W', fc_35 L xs (zI i) W = some W' ∧ z_RW (b + 36060) W' := by
  obtain ⟨s, g, hq⟩ := z_Q_RW H
  obtain ⟨a1, e1, h1⟩ := z_arg (xs (ix (zI i + (1 : Int32))))
  have g1 : inr (zI i + (1 : Int32)) L = true := w_g hi hL hM (c := 1) (by omega)
  obtain ⟨W', w1, w2⟩ := z_tail (z_m_transfers hq h1)
  refine ⟨W', ?_, z_RW_le (z_RW_EQ H w2) (by omega)⟩
  unfold fc_35
  simp only [g1, z_gd, e1]
  exact w1
theorem w_fc_36 (hb : 0 ≤ b) (hB : b ≤ 90000000) (H : z_RW b W) (hi : 0 ≤ i) (hL : i + 6 ≤ L) (hM : L ≤ 3072) : ∃ W', fc_36 L xs (zI i) W = some W' ∧ z_RW (b + 36060) W' := by
  obtain ⟨s, g, hq⟩ := z_Q_RW H
  obtain ⟨a1, e1, h1⟩ := z_arg (xs (ix (zI i + (1 : Int32))))
  have g1 : inr (zI i + (1 : Int32)) L = true := w_g hi hL hM (c := 1) (by omega)
  obtain ⟨W', w1, w2⟩ := z_m_isHeld (by omega) hq h1
  refine ⟨W', ?_, z_RW_le (z_RW_EQ H w2) (by omega)⟩
  unfold fc_36
  simp only [g1, z_gd, e1]
  exact w1
theorem w_fc_37 (hb : 0 ≤ b) (hB : b ≤ 90000000) (H : z_RW b W) (hi : 0 ≤ i) (hL : i + 6 ≤ L) (hM : L ≤ 3072) : ∃ W', fc_37 L xs (zI i) W = some W' ∧ z_RW (b + 36060) W' := by
  obtain ⟨s, g, hq⟩ := z_Q_RW H
  obtain ⟨a1, e1, h1⟩ := z_arg (xs (ix (zI i + (1 : Int32))))
  have g1 : inr (zI i + (1 : Int32)) L = true := w_g hi hL hM (c := 1) (by omega)
  obtain ⟨W', w1, w2⟩ := z_tail (z_m_deliveryClock hq h1)
  refine ⟨W', ?_, z_RW_le (z_RW_EQ H w2) (by omega)⟩
  unfold fc_37
  simp only [g1, z_gd, e1]
  exact w1
theorem w_fc_38 (hb : 0 ≤ b) (hB : b ≤ 90000000) (H : z_RW b W) (hi : 0 ≤ i) (hL : i + 6 ≤ L) (hM : L ≤ 3072) : ∃ W', fc_38 L xs (zI i) W = some W' ∧ z_RW (b + 36060) W' := by
  obtain ⟨s, g, hq⟩ := z_Q_RW H
  obtain ⟨a1, e1, h1⟩ := z_arg (xs (ix (zI i + (1 : Int32))))
  have g1 : inr (zI i + (1 : Int32)) L = true := w_g hi hL hM (c := 1) (by omega)
  obtain ⟨a2, e2, h2⟩ := z_arg (xs (ix (zI i + (2 : Int32))))
  have g2 : inr (zI i + (2 : Int32)) L = true := w_g hi hL hM (c := 2) (by omega)
  obtain ⟨W', w1, w2⟩ := z_tail (z_m_loadingObstacle (by omega) hq h1 h2)
  refine ⟨W', ?_, z_RW_le (z_RW_EQ H w2) (by omega)⟩
  unfold fc_38
  simp only [g1, g2, z_gd, e1, e2]
  exact w1
theorem w_fc_39 (hb : 0 ≤ b) (hB : b ≤ 90000000) (H : z_RW b W) (hi : 0 ≤ i) (hL : i + 6 ≤ L) (hM : L ≤ 3072) : ∃ W', fc_39 L xs (zI i) W = some W' ∧ z_RW (b + 36060) W' := by
  obtain ⟨s, g, hq⟩ := z_Q_RW H
  obtain ⟨W', w1, w2⟩ := z_m_deliveredCount (by omega) hq
  refine ⟨W', ?_, z_RW_le (z_RW_EQ H w2) (by omega)⟩
  unfold fc_39
  exact w1
theorem w_fc_40 (hb : 0 ≤ b) (hB : b ≤ 90000000) (H : z_RW b W) (hi : 0 ≤ i) (hL : i + 6 ≤ L) (hM : L ≤ 3072) : ∃ W', fc_40 L xs (zI i) W = some W' ∧ z_RW (b + 36060) W' := by
  obtain ⟨s, g, hq⟩ := z_Q_RW H
  obtain ⟨W', w1, w2⟩ := z_m_parcelBalance (by omega) hq
  refine ⟨W', ?_, z_RW_le (z_RW_EQ H w2) (by omega)⟩
  unfold fc_40
  exact w1
theorem w_fc_41 (hb : 0 ≤ b) (hB : b ≤ 90000000) (H : z_RW b W) (hi : 0 ≤ i) (hL : i + 6 ≤ L) (hM : L ≤ 3072) : ∃ W', fc_41 L xs (zI i) W = some W' ∧ z_RW (b + 36060) W' := by
  obtain ⟨s, g, hq⟩ := z_Q_RW H
  obtain ⟨W', w1, w2⟩ := z_m_loadingBalance hq
  refine ⟨W', ?_, z_RW_le (z_RW_EQ H w2) (by omega)⟩
  unfold fc_41
  exact w1
theorem w_fc_42 (hb : 0 ≤ b) (hB : b ≤ 90000000) (H : z_RW b W) (hi : 0 ≤ i) (hL : i + 6 ≤ L) (hM : L ≤ 3072) : ∃ W', fc_42 L xs (zI i) W = some W' ∧ z_RW (b + 36060) W' := by
  obtain ⟨s, g, hq⟩ := z_Q_RW H
  obtain ⟨W', w1, w2⟩ := z_m_mean (by omega) hq
  refine ⟨W', ?_, z_RW_le (z_RW_EQ H w2) (by omega)⟩
  unfold fc_42
  exact w1
theorem w_fc_43 (hb : 0 ≤ b) (hB : b ≤ 90000000) (H : z_RW b W) (hi : 0 ≤ i) (hL : i + 6 ≤ L) (hM : L ≤ 3072) : ∃ W', fc_43 L xs (zI i) W = some W' ∧ z_RW (b + 36060) W' := by
  obtain ⟨s, g, hq⟩ := z_Q_RW H
  obtain ⟨W', w1, w2⟩ := z_m_share (by omega) hq
  refine ⟨W', ?_, z_RW_le (z_RW_EQ H w2) (by omega)⟩
  unfold fc_43
  exact w1
theorem w_fc_44 (hb : 0 ≤ b) (hB : b ≤ 90000000) (H : z_RW b W) (hi : 0 ≤ i) (hL : i + 6 ≤ L) (hM : L ≤ 3072) : ∃ W', fc_44 L xs (zI i) W = some W' ∧ z_RW (b + 36060) W' := by
  obtain ⟨s, g, hq⟩ := z_Q_RW H
  obtain ⟨a1, e1, h1⟩ := z_arg (xs (ix (zI i + (1 : Int32))))
  have g1 : inr (zI i + (1 : Int32)) L = true := w_g hi hL hM (c := 1) (by omega)
  obtain ⟨W', w1, w2⟩ := z_tail (z_m_minutesToDelivery (by omega) hq h1)
  refine ⟨W', ?_, z_RW_le (z_RW_EQ H w2) (by omega)⟩
  unfold fc_44
  simp only [g1, z_gd, e1]
  exact w1
theorem w_fc_45 (hb : 0 ≤ b) (hB : b ≤ 90000000) (H : z_RW b W) (hi : 0 ≤ i) (hL : i + 6 ≤ L) (hM : L ≤ 3072) : ∃ W', fc_45 L xs (zI i) W = some W' ∧ z_RW (b + 36060) W' := by
  obtain ⟨s, g, hq⟩ := z_Q_RW H
  obtain ⟨W', w1, w2⟩ := z_m_minutesToFinish (by omega) hq
  refine ⟨W', ?_, z_RW_le (z_RW_EQ H w2) (by omega)⟩
  unfold fc_45
  exact w1
theorem w_fc_46 (hb : 0 ≤ b) (hB : b ≤ 90000000) (H : z_RW b W) (hi : 0 ≤ i) (hL : i + 6 ≤ L) (hM : L ≤ 3072) : ∃ W', fc_46 L xs (zI i) W = some W' ∧ z_RW (b + 36060) W' := by
  obtain ⟨s, g, hq⟩ := z_Q_RW H
  obtain ⟨a1, e1, h1⟩ := z_arg (xs (ix (zI i + (1 : Int32))))
  have g1 : inr (zI i + (1 : Int32)) L = true := w_g hi hL hM (c := 1) (by omega)
  obtain ⟨W', w1, w2⟩ := z_tail (z_m_minutesToStop (by omega) hq h1)
  refine ⟨W', ?_, z_RW_le (z_RW_EQ H w2) (by omega)⟩
  unfold fc_46
  simp only [g1, z_gd, e1]
  exact w1
theorem w_fc_47 (hb : 0 ≤ b) (hB : b ≤ 90000000) (H : z_RW b W) (hi : 0 ≤ i) (hL : i + 6 ≤ L) (hM : L ≤ 3072) : ∃ W', fc_47 L xs (zI i) W = some W' ∧ z_RW (b + 36060) W' := by
  obtain ⟨s, g, hq⟩ := z_Q_RW H
  obtain ⟨a1, e1, h1⟩ := z_arg (xs (ix (zI i + (1 : Int32))))
  have g1 : inr (zI i + (1 : Int32)) L = true := w_g hi hL hM (c := 1) (by omega)
  obtain ⟨a2, e2, h2⟩ := z_arg (xs (ix (zI i + (2 : Int32))))
  have g2 : inr (zI i + (2 : Int32)) L = true := w_g hi hL hM (c := 2) (by omega)
  obtain ⟨W', w1, w2⟩ := z_tail (z_m_trainStationAfter (by omega) hq h1 h2)
  refine ⟨W', ?_, z_RW_le (z_RW_EQ H w2) (by omega)⟩
  unfold fc_47
  simp only [g1, g2, z_gd, e1, e2]
  exact w1
theorem w_fc_48 (hb : 0 ≤ b) (hB : b ≤ 90000000) (H : z_RW b W) (hi : 0 ≤ i) (hL : i + 6 ≤ L) (hM : L ≤ 3072) : ∃ W', fc_48 L xs (zI i) W = some W' ∧ z_RW (b + 36060) W' := by
  obtain ⟨s, g, hq⟩ := z_Q_RW H
  obtain ⟨a1, e1, h1⟩ := z_arg (xs (ix (zI i + (1 : Int32))))
  have g1 : inr (zI i + (1 : Int32)) L = true := w_g hi hL hM (c := 1) (by omega)
  obtain ⟨W', w1, w2⟩ := z_tail (z_m_deliveredAfter (by omega) hq h1)
  refine ⟨W', ?_, z_RW_le (z_RW_EQ H w2) (by omega)⟩
  unfold fc_48
  simp only [g1, z_gd, e1]
  exact w1
theorem w_fc_49 (hb : 0 ≤ b) (hB : b ≤ 90000000) (H : z_RW b W) (hi : 0 ≤ i) (hL : i + 6 ≤ L) (hM : L ≤ 3072) : ∃ W', fc_49 L xs (zI i) W = some W' ∧ z_RW (b + 36060) W' := by
  obtain ⟨s, g, hq⟩ := z_Q_RW H
  obtain ⟨a1, e1, h1⟩ := z_arg (xs (ix (zI i + (1 : Int32))))
  have g1 : inr (zI i + (1 : Int32)) L = true := w_g hi hL hM (c := 1) (by omega)
  obtain ⟨a2, e2, h2⟩ := z_arg (xs (ix (zI i + (2 : Int32))))
  have g2 : inr (zI i + (2 : Int32)) L = true := w_g hi hL hM (c := 2) (by omega)
  obtain ⟨a3, e3, h3⟩ := z_arg (xs (ix (zI i + (3 : Int32))))
  have g3 : inr (zI i + (3 : Int32)) L = true := w_g hi hL hM (c := 3) (by omega)
  obtain ⟨W', w1, w2⟩ := z_tail (z_m_deliveredIfClosed (by omega) hq h1 h2 h3)
  refine ⟨W', ?_, z_RW_le (z_RW_EQ H w2) (by omega)⟩
  unfold fc_49
  simp only [g1, g2, g3, z_gd, e1, e2, e3]
  exact w1
theorem w_fc_50 (hb : 0 ≤ b) (hB : b ≤ 90000000) (H : z_RW b W) (hi : 0 ≤ i) (hL : i + 6 ≤ L) (hM : L ≤ 3072) : ∃ W', fc_50 L xs (zI i) W = some W' ∧ z_RW (b + 36060) W' := by
  obtain ⟨s, g, hq⟩ := z_Q_RW H
  obtain ⟨W', w1, w2⟩ := z_m_worstClosure (by omega) hq
  refine ⟨W', ?_, z_RW_le (z_RW_EQ H w2) (by omega)⟩
  unfold fc_50
  exact w1
theorem w_fc_51 (hb : 0 ≤ b) (hB : b ≤ 90000000) (H : z_RW b W) (hi : 0 ≤ i) (hL : i + 6 ≤ L) (hM : L ≤ 3072) : ∃ W', fc_51 L xs (zI i) W = some W' ∧ z_RW (b + 36060) W' := by
  obtain ⟨s, g, hq⟩ := z_Q_RW H
  obtain ⟨a1, e1, h1⟩ := z_arg (xs (ix (zI i + (1 : Int32))))
  have g1 : inr (zI i + (1 : Int32)) L = true := w_g hi hL hM (c := 1) (by omega)
  obtain ⟨W', w1, w2⟩ := z_tail (z_m_pass (by omega) H h1)
  refine ⟨W', ?_, z_RW_le w2 (by omega)⟩
  unfold fc_51
  simp only [g1, z_gd, e1]
  exact w1
theorem w_fc_52 (hb : 0 ≤ b) (hB : b ≤ 90000000) (H : z_RW b W) (hi : 0 ≤ i) (hL : i + 6 ≤ L) (hM : L ≤ 3072) : ∃ W', fc_52 L xs (zI i) W = some W' ∧ z_RW (b + 36060) W' := by
  obtain ⟨s, g, hq⟩ := z_Q_RW H
  obtain ⟨a1, e1, h1⟩ := z_arg (xs (ix (zI i + (1 : Int32))))
  have g1 : inr (zI i + (1 : Int32)) L = true := w_g hi hL hM (c := 1) (by omega)
  obtain ⟨a2, e2, h2⟩ := z_arg (xs (ix (zI i + (2 : Int32))))
  have g2 : inr (zI i + (2 : Int32)) L = true := w_g hi hL hM (c := 2) (by omega)
  obtain ⟨a3, e3, h3⟩ := z_arg (xs (ix (zI i + (3 : Int32))))
  have g3 : inr (zI i + (3 : Int32)) L = true := w_g hi hL hM (c := 3) (by omega)
  obtain ⟨W', w1, w2⟩ := z_tail (z_m_addParcel H h1 h2 h3)
  refine ⟨W', ?_, z_RW_le w2 (by omega)⟩
  unfold fc_52
  simp only [g1, g2, g3, z_gd, e1, e2, e3]
  exact w1
theorem w_fc_54 (hb : 0 ≤ b) (hB : b ≤ 90000000) (H : z_RW b W) (hi : 0 ≤ i) (hL : i + 6 ≤ L) (hM : L ≤ 3072) : ∃ W', fc_54 L xs (zI i) W = some W' ∧ z_RW (b + 36060) W' := by
  obtain ⟨s, g, hq⟩ := z_Q_RW H
  obtain ⟨a1, e1, h1⟩ := z_arg (xs (ix (zI i + (1 : Int32))))
  have g1 : inr (zI i + (1 : Int32)) L = true := w_g hi hL hM (c := 1) (by omega)
  obtain ⟨a2, e2, h2⟩ := z_arg (xs (ix (zI i + (2 : Int32))))
  have g2 : inr (zI i + (2 : Int32)) L = true := w_g hi hL hM (c := 2) (by omega)
  obtain ⟨W', w1, w2⟩ := z_tail (z_m_setPriority H h1 h2)
  refine ⟨W', ?_, z_RW_le w2 (by omega)⟩
  unfold fc_54
  simp only [g1, g2, z_gd, e1, e2]
  exact w1
theorem w_fc_55 (hb : 0 ≤ b) (hB : b ≤ 90000000) (H : z_RW b W) (hi : 0 ≤ i) (hL : i + 6 ≤ L) (hM : L ≤ 3072) : ∃ W', fc_55 L xs (zI i) W = some W' ∧ z_RW (b + 36060) W' := by
  obtain ⟨s, g, hq⟩ := z_Q_RW H
  obtain ⟨a1, e1, h1⟩ := z_arg (xs (ix (zI i + (1 : Int32))))
  have g1 : inr (zI i + (1 : Int32)) L = true := w_g hi hL hM (c := 1) (by omega)
  obtain ⟨a2, e2, h2⟩ := z_arg (xs (ix (zI i + (2 : Int32))))
  have g2 : inr (zI i + (2 : Int32)) L = true := w_g hi hL hM (c := 2) (by omega)
  obtain ⟨W', w1, w2⟩ := z_tail (z_m_setInspection H h1 h2)
  refine ⟨W', ?_, z_RW_le w2 (by omega)⟩
  unfold fc_55
  simp only [g1, g2, z_gd, e1, e2]
  exact w1
theorem w_fc_56 (hb : 0 ≤ b) (hB : b ≤ 90000000) (H : z_RW b W) (hi : 0 ≤ i) (hL : i + 6 ≤ L) (hM : L ≤ 3072) : ∃ W', fc_56 L xs (zI i) W = some W' ∧ z_RW (b + 36060) W' := by
  obtain ⟨s, g, hq⟩ := z_Q_RW H
  obtain ⟨a1, e1, h1⟩ := z_arg (xs (ix (zI i + (1 : Int32))))
  have g1 : inr (zI i + (1 : Int32)) L = true := w_g hi hL hM (c := 1) (by omega)
  obtain ⟨W', w1, w2⟩ := z_tail (z_m_withdraw (by omega) H h1)
  refine ⟨W', ?_, z_RW_le w2 (by omega)⟩
  unfold fc_56
  simp only [g1, z_gd, e1]
  exact w1
theorem w_fc_57 (hb : 0 ≤ b) (hB : b ≤ 90000000) (H : z_RW b W) (hi : 0 ≤ i) (hL : i + 6 ≤ L) (hM : L ≤ 3072) : ∃ W', fc_57 L xs (zI i) W = some W' ∧ z_RW (b + 36060) W' := by
  obtain ⟨s, g, hq⟩ := z_Q_RW H
  obtain ⟨W', w1, w2⟩ := z_m_57 (by omega) H
  refine ⟨W', ?_, z_RW_le w2 (by omega)⟩
  unfold fc_57
  exact w1
theorem w_fc_58 (hb : 0 ≤ b) (hB : b ≤ 90000000) (H : z_RW b W) (hi : 0 ≤ i) (hL : i + 6 ≤ L) (hM : L ≤ 3072) : ∃ W', fc_58 L xs (zI i) W = some W' ∧ z_RW (b + 36060) W' := by
  obtain ⟨s, g, hq⟩ := z_Q_RW H
  obtain ⟨W', w1, w2⟩ := z_m_58 (by omega) H
  refine ⟨W', ?_, z_RW_le w2 (by omega)⟩
  unfold fc_58
  exact w1
theorem w_fc_59 (hb : 0 ≤ b) (hB : b ≤ 90000000) (H : z_RW b W) (hi : 0 ≤ i) (hL : i + 6 ≤ L) (hM : L ≤ 3072) : ∃ W', fc_59 L xs (zI i) W = some W' ∧ z_RW (b + 36060) W' := by
  obtain ⟨s, g, hq⟩ := z_Q_RW H
  obtain ⟨a1, e1, h1⟩ := z_arg (xs (ix (zI i + (1 : Int32))))
  have g1 : inr (zI i + (1 : Int32)) L = true := w_g hi hL hM (c := 1) (by omega)
  obtain ⟨W', w1, w2⟩ := z_tail (z_m_59 H h1)
  refine ⟨W', ?_, z_RW_le (z_RW_EQ H w2) (by omega)⟩
  unfold fc_59
  simp only [g1, z_gd, e1]
  exact w1
theorem w_fc_60 (hb : 0 ≤ b) (hB : b ≤ 90000000) (H : z_RW b W) (hi : 0 ≤ i) (hL : i + 6 ≤ L) (hM : L ≤ 3072) : ∃ W', fc_60 L xs (zI i) W = some W' ∧ z_RW (b + 36060) W' := by
  obtain ⟨s, g, hq⟩ := z_Q_RW H
  obtain ⟨a1, e1, h1⟩ := z_arg (xs (ix (zI i + (1 : Int32))))
  have g1 : inr (zI i + (1 : Int32)) L = true := w_g hi hL hM (c := 1) (by omega)
  obtain ⟨W', w1, w2⟩ := z_tail (z_m_save H h1)
  refine ⟨W', ?_, z_RW_le w2 (by omega)⟩
  unfold fc_60
  simp only [g1, z_gd, e1]
  exact w1
theorem w_fc_61 (hb : 0 ≤ b) (hB : b ≤ 90000000) (H : z_RW b W) (hi : 0 ≤ i) (hL : i + 6 ≤ L) (hM : L ≤ 3072) : ∃ W', fc_61 L xs (zI i) W = some W' ∧ z_RW (b + 36060) W' := by
  obtain ⟨s, g, hq⟩ := z_Q_RW H
  obtain ⟨a1, e1, h1⟩ := z_arg (xs (ix (zI i + (1 : Int32))))
  have g1 : inr (zI i + (1 : Int32)) L = true := w_g hi hL hM (c := 1) (by omega)
  obtain ⟨W', w1, w2⟩ := z_tail (z_m_restore H h1)
  refine ⟨W', ?_, z_RW_le w2 (by omega)⟩
  unfold fc_61
  simp only [g1, z_gd, e1]
  exact w1
theorem w_fc_62 (hb : 0 ≤ b) (hB : b ≤ 90000000) (H : z_RW b W) (hi : 0 ≤ i) (hL : i + 6 ≤ L) (hM : L ≤ 3072) : ∃ W', fc_62 L xs (zI i) W = some W' ∧ z_RW (b + 36060) W' := by
  obtain ⟨s, g, hq⟩ := z_Q_RW H
  obtain ⟨W', w1, w2⟩ := z_tail (z_m_undo H)
  refine ⟨W', ?_, z_RW_le w2 (by omega)⟩
  unfold fc_62
  exact w1
theorem w_fc_63 (hb : 0 ≤ b) (hB : b ≤ 90000000) (H : z_RW b W) (hi : 0 ≤ i) (hL : i + 6 ≤ L) (hM : L ≤ 3072) : ∃ W', fc_63 L xs (zI i) W = some W' ∧ z_RW (b + 36060) W' := by
  obtain ⟨s, g, hq⟩ := z_Q_RW H
  obtain ⟨W', w1, w2⟩ := z_m_63 H
  refine ⟨W', ?_, z_RW_le w2 (by omega)⟩
  unfold fc_63
  exact w1
theorem w_fc_53 (hb : 0 ≤ b) (hB : b ≤ 90000000) (H : z_RW b W) (hi : 0 ≤ i) (hL : i + 6 ≤ L) (hM : L ≤ 3072) : ∃ W', fc_53 L xs (zI i) W = some W' ∧ z_RW (b + 36060) W' := by
  obtain ⟨a1, e1, h1⟩ := z_arg (xs (ix (zI i + (1 : Int32))))
  have g1 : inr (zI i + (1 : Int32)) L = true := w_g hi hL hM (c := 1) (by omega)
  obtain ⟨a2, e2, h2⟩ := z_arg (xs (ix (zI i + (2 : Int32))))
  have g2 : inr (zI i + (2 : Int32)) L = true := w_g hi hL hM (c := 2) (by omega)
  have g3 : inr (zI i + (3 : Int32)) L = true := w_g hi hL hM (c := 3) (by omega)
  unfold fc_53
  simp only [g1, g2, g3, z_gd, e1, e2, z_jn]
  by_cases c : xs (ix (zI i + (3 : Int32))) = 0
  · obtain ⟨W', w1, w2⟩ := z_m_setTrackOpen H h1 h2 (o := 0) (Or.inl rfl)
    refine ⟨W', ?_, z_RW_le w2 (by omega)⟩
    simp only [if_pos c]
    exact w1
  · obtain ⟨W', w1, w2⟩ := z_m_setTrackOpen H h1 h2 (o := 1) (Or.inr rfl)
    refine ⟨W', ?_, z_RW_le w2 (by omega)⟩
    simp only [if_neg c]
    exact w1
theorem w_63 (a : Int32) : ∃ t : Int, (0 ≤ t ∧ t ≤ 63) ∧ a &&& 63 = zI t := by
  refine ⟨((a.toBitVec.toNat % 64 : Nat) : Int), by omega, ?_⟩
  apply Int32.toBitVec.inj
  rw [z_bvn (by omega), Int32.toBitVec_and]
  apply BitVec.eq_of_toNat_eq
  rw [BitVec.toNat_and, BitVec.toNat_ofNat, show (Int32.toBitVec 63).toNat = 63 by decide, Nat.and_two_pow_sub_one_eq_mod _ 6]
  omega
end Fc
