/-! the Hand's constructor: from a fresh state its numbers are the state's -/
def x_ft (s : Nat → Int) (t : Nat) : Prop := s (87 + 14 * t + 8) = 0 ∧ s (87 + 14 * t + 9) = 1 ∧ s (87 + 14 * t + 10) = 0 ∧ s (87 + 14 * t + 11) = 0 ∧ s (87 + 14 * t + 12) = 0 ∧ s (87 + 14 * t + 13) = 0
def x_fp (s : Nat → Int) (i : Nat) : Prop := s (143 + 9 * i + 3) = s (143 + 9 * i) ∧ s (143 + 9 * i + 4) = -1 ∧ s (143 + 9 * i + 5) = -1 ∧ s (143 + 9 * i + 6) = 0 ∧ s (143 + 9 * i + 7) = 0 ∧ s (143 + 9 * i + 8) = -1
/-- a state as a text makes it in which no minutes ran -/
def x_fs (s : Nat → Int) : Prop := s 0 = 0 ∧ s 5 = 0 ∧ s 6 = 0 ∧ (∀ t : Nat, (t : Int) < s 3 → x_ft s t) ∧ (∀ i : Nat, (i : Int) < s 4 → x_fp s i)
def x_b0 (s : Nat → Int) (Y : Nat → Nat → Int32) : Prop := Y 60 0 = zI (s 1) ∧ Y 60 1 = zI (s 3) ∧ Y 60 15 = zI 0 ∧ Y 60 16 = zI 0
def x_iA (s : Nat → Int) (Y : Nat → Nat → Int32) (i j : Nat) : Prop := x_b0 s Y ∧ (∀ a : Nat, (a < i ∨ (a = i ∧ 0 < j)) → Y 4 a = zI (s (7 + 4 * a + 1)) ∧ Y 5 a = zI (s (7 + 4 * a + 2))) ∧ (∀ a c : Nat, (c : Int) < s 1 → (a < i ∨ (a = i ∧ c + 1 < j)) → Y (16 + a) c = zI (x_tm s a c) ∧ Y (24 + a) c = zI (x_op s a c))
section Hin
variable {b : Int} {s s' : Nat → Int} {W : Nat → Nat → Int32} {Y Y' : Nat → Nat → Int32}
theorem x_b0N (h : z_inv b s) (q : x_b0 s Y) : hN Y = (s 1).toNat := by
  have c := h.1.2.1
  unfold hN
  rw [q.1, z_ixz (by omega) (by omega)]
theorem x_b0T (h : z_inv b s) (q : x_b0 s Y) : hT Y = (s 3).toNat := by
  have c := h.1.2.2.2.1
  unfold hT
  rw [q.2.1, z_ixz (by omega) (by omega)]
theorem x_b0w (q : x_b0 s Y) {u k : Nat} {v : Int32} (hu : u ≠ 60) : x_b0 s (w2 Y u k v) := by
  unfold x_b0
  rw [z_w2u (Ne.symm hu)]
  exact q
theorem x_nzb {v : Int} (h : z_bo v) : nz (zI v) = zI v := by
  rcases h with q | q <;> subst q
  · exact x_nz0'
  · exact z_nz1
theorem x_i118 (h0 : W 0 = zV s) (h : z_inv b s) {i : Nat} (hi : (i : Int) < s 1) : ∀ (d j N : Nat) (Y : Nat → Nat → Int32), j + d = (s 1).toNat → d < N → x_iA s Y i (j + 1) → ∃ Y', x_iA s Y' i ((s 1).toNat + 1) ∧ ∀ {R : Type} (K : (Nat → Nat → Int32) → Option R), l_ini_118 W (zI (i : Int)) K N Y (zI (j : Int)) = K Y' := by
  obtain ⟨c0, c1, c2, c3, c4⟩ := h.1
  intro d
  induction d with
  | zero =>
    intro j N Y h1 h2 A
    obtain ⟨N, rfl⟩ : ∃ m, N = m + 1 := ⟨N - 1, by omega⟩
    refine ⟨Y, by rw [show (s 1).toNat = j by omega]; exact A, fun K => ?_⟩
    rw [l_ini_118, A.1.1, z_leT (by omega) (by omega) (by omega)]
  | succ d ih =>
    intro j N Y h1 h2 A
    obtain ⟨N, rfl⟩ : ∃ m, N = m + 1 := ⟨N - 1, by omega⟩
    have hj : (j : Int) < s 1 := by omega
    have hN' := x_b0N h A.1
    have ob : z_bo (x_op s i j) := x_opb h
    obtain ⟨Y', e1, e2⟩ := ih (j + 1) N (w2 (w2 Y (16 + i) j (zI (x_tm s i j))) (24 + i) j (zI (x_op s i j))) (by omega) (by omega) (by
      refine ⟨x_b0w (x_b0w A.1 (by omega)) (by omega), fun a ha => ?_, fun a c hc ha => ?_⟩
      · rw [z_w2u (by omega), z_w2u (by omega), z_w2u (by omega), z_w2u (by omega)]
        exact A.2.1 a (by omega)
      · by_cases q : a = i ∧ c = j
        · obtain ⟨q1, q2⟩ := q
          subst q1 q2
          refine ⟨?_, z_w2e⟩
          rw [z_w2u (by omega), z_w2e]
        · have g := A.2.2 a c hc (by omega)
          refine ⟨?_, ?_⟩
          · rw [z_w2u (by omega), ← g.1]
            by_cases q1 : a = i
            · subst q1
              rw [z_w2k (fun z => q ⟨rfl, z⟩)]
            · rw [z_w2u (by omega)]
          · rw [← g.2]
            by_cases q1 : a = i
            · subst q1
              rw [z_w2k (fun z => q ⟨rfl, z⟩), z_w2u (by omega)]
            · rw [z_w2u (by omega), z_w2u (by omega)])
    refine ⟨Y', e1, fun K => ?_⟩
    rw [l_ini_118, A.1.1, z_leF (by omega) (by omega) (by omega), hN', z_inr (by omega) (by omega) (by omega), z_gd, z_inr (by omega) (by omega) (by omega), z_gd, x_q_travelTime h0 h hi hj, x_bdv, z_ixn (by omega), z_ixn (by omega), z_bnd, x_q_isTrackOpen h0 h hi hj, x_bdv, x_nzb ob, z_bnd, z_l1, z_add]
    exact e2 K
theorem x_i86 (h0 : W 0 = zV s) (h : z_inv b s) (h6 : s 1 ≤ 6) : ∀ (d i N : Nat) (Y : Nat → Nat → Int32), i + d = (s 1).toNat → d < N → x_iA s Y i 0 → ∃ Y', x_iA s Y' (s 1).toNat 0 ∧ ∀ {R : Type} (K : (Nat → Nat → Int32) → Option R), l_ini_86 W K N Y (zI (i : Int)) = K Y' := by
  obtain ⟨⟨c0, c1, c2, c3, c4⟩, ⟨b1, b2, b3⟩, -⟩ := id h
  intro d
  induction d with
  | zero =>
    intro i N Y h1 h2 A
    obtain ⟨N, rfl⟩ : ∃ m, N = m + 1 := ⟨N - 1, by omega⟩
    refine ⟨Y, by rw [show (s 1).toNat = i by omega]; exact A, fun K => ?_⟩
    rw [l_ini_86, A.1.1, z_leT (by omega) (by omega) (by omega)]
  | succ d ih =>
    intro i N Y h1 h2 A
    obtain ⟨N, rfl⟩ : ∃ m, N = m + 1 := ⟨N - 1, by omega⟩
    have hi : (i : Int) < s 1 := by omega
    have hN' := x_b0N h A.1
    obtain ⟨Y1, e1, e2⟩ := x_i118 h0 h hi (s 1).toNat 0 8 (w2 (w2 Y 4 i (zI (s (7 + 4 * i + 1)))) 5 i (zI (s (7 + 4 * i + 2)))) (by omega) (by omega) (by
      refine ⟨x_b0w (x_b0w A.1 (by omega)) (by omega), fun a ha => ?_, fun a c hc ha => ?_⟩
      · by_cases q : a = i
        · subst q
          refine ⟨?_, z_w2e⟩
          rw [z_w2u (by omega), z_w2e]
        · have g := A.2.1 a (by omega)
          rw [z_w2u (by omega), z_w2k q, z_w2k q, z_w2u (by omega)]
          exact g
      · rw [z_w2u (by omega), z_w2u (by omega), z_w2u (by omega), z_w2u (by omega)]
        exact A.2.2 a c hc (by omega))
    obtain ⟨Y', f1, f2⟩ := ih (i + 1) N Y1 (by omega) (by omega) ⟨e1.1, fun a ha => e1.2.1 a (by omega), fun a c hc ha => e1.2.2 a c hc (by omega)⟩
    refine ⟨Y', f1, fun K => ?_⟩
    rw [l_ini_86, A.1.1, z_leF (by omega) (by omega) (by omega), hN', z_inr (by omega) (by omega) (by omega), z_gd, x_q_isRequestStop h0 h hi, x_bdv, z_ixn (by omega), x_nzb (b1 i (by omega)), z_bnd, x_q_inspectionTime h0 h hi, x_bdv, z_bnd, z_l0, show zI 0 = zI ((0 : Nat) : Int) from rfl, e2, z_l1, z_add]
    exact f2 K
theorem x_i272 (h0 : W 0 = zV s) (h : z_inv b s) {t : Nat} (ht : (t : Int) < s 3) : ∀ (d j N : Nat) (Y : Nat → Nat → Int32), j + d = (s (87 + 14 * t + 1)).toNat → d < N → Y 61 t = zI (s (87 + 14 * t + 1)) → (∀ q, q < j → Y (32 + t) q = zI (s (87 + 14 * t + 2 + q))) → ∃ Y', (∀ u, u ≠ 32 + t → Y' u = Y u) ∧ (∀ q : Nat, (q : Int) < s (87 + 14 * t + 1) → Y' (32 + t) q = zI (s (87 + 14 * t + 2 + q))) ∧ ∀ {R : Type} (K : (Nat → Nat → Int32) → Option R), l_ini_272 W t K N Y (zI (j : Int)) = K Y' := by
  obtain ⟨c0, c1, c2, c3, c4⟩ := h.1
  have tl := (h.2.2.2.2.1 t ht).2.1
  intro d
  induction d with
  | zero =>
    intro j N Y h1 h2 hl hq
    obtain ⟨N, rfl⟩ : ∃ m, N = m + 1 := ⟨N - 1, by omega⟩
    have hL' : hL Y t = (s (87 + 14 * t + 1)).toNat := by unfold hL; rw [hl, z_ixz (by omega) (by omega)]
    refine ⟨Y, fun _ _ => rfl, fun q q1 => hq q (by omega), fun K => ?_⟩
    rw [l_ini_272, hL', z_n, z_leT (by omega) (by omega) (by omega)]
  | succ d ih =>
    intro j N Y h1 h2 hl hq
    obtain ⟨N, rfl⟩ : ∃ m, N = m + 1 := ⟨N - 1, by omega⟩
    have hL' : hL Y t = (s (87 + 14 * t + 1)).toNat := by unfold hL; rw [hl, z_ixz (by omega) (by omega)]
    obtain ⟨Y', e1, e2, e3⟩ := ih (j + 1) N (w2 Y (32 + t) j (zI (s (87 + 14 * t + 2 + j)))) (by omega) (by omega) (by rw [z_w2u (by omega)]; exact hl) (fun q q1 => by
      by_cases c : q = j
      · subst c
        rw [z_w2e]
      · rw [z_w2k c]
        exact hq q (by omega))
    refine ⟨Y', fun u hu => by rw [e1 u hu, z_w2u hu], e2, fun K => ?_⟩
    rw [l_ini_272, hL', z_n, z_leF (by omega) (by omega) (by omega), z_inr (by omega) (by omega) (by omega), z_gd, z_n, x_q_routeStation h0 h ht (by omega), x_bdv, z_ixn (by omega), z_bnd, z_l1, z_add]
    exact e3 K
def x_iB (s : Nat → Int) (Y : Nat → Nat → Int32) (i : Nat) : Prop := x_b0 s Y ∧ x_r1 s Y ∧ x_r2 s Y ∧ (∀ t : Nat, t < i → x_rt s Y t) ∧ (∀ t : Nat, i ≤ t → Y 8 t = zI 0 ∧ Y 10 t = zI 0 ∧ Y 11 t = zI 0 ∧ Y 12 t = zI 0 ∧ Y 13 t = zI 0)
theorem x_i249 (h0 : W 0 = zV s) (h : z_inv b s) (hf : x_fs s) : ∀ (d i N : Nat) (Y : Nat → Nat → Int32), i + d = (s 3).toNat → d < N → x_iB s Y i → ∃ Y', x_iB s Y' (s 3).toNat ∧ ∀ {R : Type} (K : (Nat → Nat → Int32) → Option R), l_ini_249 W K N Y i = K Y' := by
  obtain ⟨c0, c1, c2, c3, c4⟩ := h.1
  intro d
  induction d with
  | zero =>
    intro i N Y h1 h2 A
    obtain ⟨N, rfl⟩ : ∃ m, N = m + 1 := ⟨N - 1, by omega⟩
    have hT' := x_b0T h A.1
    refine ⟨Y, by rw [show (s 3).toNat = i by omega]; exact A, fun K => ?_⟩
    rw [l_ini_249, A.1.2.1, z_n, z_leT (by omega) (by omega) (by omega), hT', Nat.ble_eq.mpr (show (s 3).toNat ≤ i by omega), z_gd]
  | succ d ih =>
    intro i N Y h1 h2 A
    obtain ⟨N, rfl⟩ : ∃ m, N = m + 1 := ⟨N - 1, by omega⟩
    have hi : (i : Int) < s 3 := by omega
    have hT' := x_b0T h A.1
    have tl := (h.2.2.2.2.1 i hi).2.1
    obtain ⟨f8, f9, f10, f11, f12, f13⟩ := hf.2.2.2.1 i hi
    have yr : ∀ u, u ≠ 61 → u ≠ 32 + i → Yr Y i (zI (s (87 + 14 * i + 1))) u = Y u := fun u u1 u2 => by
      unfold Yr
      rw [z_sUu u2, z_w2u u1]
    have yr61 : Yr Y i (zI (s (87 + 14 * i + 1))) 61 = fun k => if k = i then zI (s (87 + 14 * i + 1)) else Y 61 k := by
      unfold Yr
      rw [z_sUu (by omega)]
      funext k
      by_cases c : k = i
      · subst c
        rw [z_w2e, if_pos rfl]
      · rw [z_w2k c, if_neg c]
    obtain ⟨Y1, e1, e2, e3⟩ := x_i272 h0 h hi (s (87 + 14 * i + 1)).toNat 0 7 (Yr Y i (zI (s (87 + 14 * i + 1)))) (by omega) (by omega) (by rw [yr61]; exact if_pos rfl) (fun q hq => absurd hq (by omega))
    have g : ∀ u, u ≠ 61 → u ≠ 32 + i → u ≠ 7 → u ≠ 9 → w2 (w2 Y1 7 i (zI (s (87 + 14 * i)))) 9 i (zI 1) u = Y u := fun u u1 u2 u3 u4 => by
      rw [z_w2u u4, z_w2u u3, e1 u u2, yr u u1 u2]
    have g61 : ∀ k, w2 (w2 Y1 7 i (zI (s (87 + 14 * i)))) 9 i (zI 1) 61 k = if k = i then zI (s (87 + 14 * i + 1)) else Y 61 k := fun k => by
      rw [z_w2u (by omega), z_w2u (by omega), e1 61 (by omega), yr61]
    have g32 : w2 (w2 Y1 7 i (zI (s (87 + 14 * i)))) 9 i (zI 1) (32 + i) = Y1 (32 + i) := by
      rw [z_w2u (by omega), z_w2u (by omega)]
    have g7 : ∀ k, w2 (w2 Y1 7 i (zI (s (87 + 14 * i)))) 9 i (zI 1) 7 k = if k = i then zI (s (87 + 14 * i)) else Y 7 k := fun k => by
      rw [z_w2u (by omega)]
      by_cases c : k = i
      · subst c
        rw [z_w2e, if_pos rfl]
      · rw [z_w2k c, if_neg c, e1 7 (by omega), yr 7 (by omega) (by omega)]
    have g9 : ∀ k, w2 (w2 Y1 7 i (zI (s (87 + 14 * i)))) 9 i (zI 1) 9 k = if k = i then zI 1 else Y 9 k := fun k => by
      by_cases c : k = i
      · subst c
        rw [z_w2e, if_pos rfl]
      · rw [z_w2k c, if_neg c, z_w2u (by omega), e1 9 (by omega), yr 9 (by omega) (by omega)]
    obtain ⟨Y2, hY2⟩ : ∃ Z, Z = w2 (w2 Y1 7 i (zI (s (87 + 14 * i)))) 9 i (zI 1) := ⟨_, rfl⟩
    rw [← hY2] at g g61 g32 g7 g9
    obtain ⟨Y', f1, f2⟩ := ih (i + 1) N Y2 (by omega) (by omega) (by
      obtain ⟨B0, B1, B2, B3, B4⟩ := A
      refine ⟨?_, fun a ha => ?_, fun a c ha hc => ?_, fun t ht => ?_, fun t ht => ?_⟩
      · unfold x_b0
        rw [g 60 (by omega) (by omega) (by omega) (by omega)]
        exact B0
      · rw [g 4 (by omega) (by omega) (by omega) (by omega), g 5 (by omega) (by omega) (by omega) (by omega)]
        exact B1 a ha
      · rw [g (16 + a) (by omega) (by omega) (by omega) (by omega), g (24 + a) (by omega) (by omega) (by omega) (by omega)]
        exact B2 a c ha hc
      · by_cases q : t = i
        · subst q
          obtain ⟨z8, z10, z11, z12, z13⟩ := B4 t (Nat.le_refl _)
          unfold x_rt
          rw [g61, g7, g9, if_pos rfl, if_pos rfl, if_pos rfl, g32, g 8 (by omega) (by omega) (by omega) (by omega), g 10 (by omega) (by omega) (by omega) (by omega), g 11 (by omega) (by omega) (by omega) (by omega), g 12 (by omega) (by omega) (by omega) (by omega), g 13 (by omega) (by omega) (by omega) (by omega), f8, f9, f10, f11, f12, f13]
          exact ⟨⟨rfl, rfl, e2⟩, z8, rfl, z10, z11, z12, z13⟩
        · have w := B3 t (by omega)
          unfold x_rt at w ⊢
          rw [g61, g7, g9, if_neg q, if_neg q, if_neg q, g (32 + t) (by omega) (by omega) (by omega) (by omega), g 8 (by omega) (by omega) (by omega) (by omega), g 10 (by omega) (by omega) (by omega) (by omega), g 11 (by omega) (by omega) (by omega) (by omega), g 12 (by omega) (by omega) (by omega) (by omega), g 13 (by omega) (by omega) (by omega) (by omega)]
          exact w
      · rw [g 8 (by omega) (by omega) (by omega) (by omega), g 10 (by omega) (by omega) (by omega) (by omega), g 11 (by omega) (by omega) (by omega) (by omega), g 12 (by omega) (by omega) (by omega) (by omega), g 13 (by omega) (by omega) (by omega) (by omega)]
        exact B4 t (by omega))
    refine ⟨Y', f1, fun K => ?_⟩
    have ok : iok (zI (s (87 + 14 * i + 1))) 6 = true := by
      unfold iok
      rw [z_l0, decide_eq_false (by rw [z_lt ⟨by omega, by omega⟩ ⟨by omega, by omega⟩]; omega), z_ixz (by omega) (by omega), Nat.ble_eq.mpr (show (s (87 + 14 * i + 1)).toNat ≤ 6 by omega)]
      rfl
    rw [l_ini_249, A.1.2.1, z_n, z_leF (by omega) (by omega) (by omega), hT', Nat.blt_eq.mpr (show i < (s 3).toNat by omega), z_gd, x_q_routeLength h0 h hi, x_bdv, ok, z_gd, z_bnd, z_l0, show zI 0 = zI ((0 : Nat) : Int) from rfl, e3, x_q_capacity h0 h hi, x_bdv, z_bnd, z_bnd, z_l1, ← hY2]
    exact f2 K
end Hin
