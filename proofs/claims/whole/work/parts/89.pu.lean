section Fd
variable {W : Nat → Nat → Int32} {xs : Nat → Int32} {L : Nat} {b i : Int}
theorem w_disp (hb : 0 ≤ b) (hB : b ≤ 90000000) (H : z_RW b W) (hi : 0 ≤ i) (hL : i + 6 ≤ L) (hM : L ≤ 3072) {t : Int} (ht : 0 ≤ t ∧ t ≤ 63) : ∃ W', f_disp L xs (zI i) W (zI t) = some W' ∧ z_RW (b + 36060) W' := by
  unfold f_disp
  by_cases c : t = 0
  · rw [if_pos (by rw [c]; rfl)]
    exact w_fc_0 hb hB H hi hL hM
  rw [show (0 : Int32) = zI 0 from z_lit 0, z_eqF c (by omega) (by omega) (by omega) (by omega)]
  by_cases c : t = 1
  · rw [if_pos (by rw [c]; rfl)]
    exact w_fc_1 hb hB H hi hL hM
  rw [show (1 : Int32) = zI 1 from z_lit 1, z_eqF c (by omega) (by omega) (by omega) (by omega)]
  by_cases c : t = 2
  · rw [if_pos (by rw [c]; rfl)]
    exact w_fc_2 hb hB H hi hL hM
  rw [show (2 : Int32) = zI 2 from z_lit 2, z_eqF c (by omega) (by omega) (by omega) (by omega)]
  by_cases c : t = 3
  · rw [if_pos (by rw [c]; rfl)]
    exact w_fc_3 hb hB H hi hL hM
  rw [show (3 : Int32) = zI 3 from z_lit 3, z_eqF c (by omega) (by omega) (by omega) (by omega)]
  by_cases c : t = 4
  · rw [if_pos (by rw [c]; rfl)]
    exact w_fc_4 hb hB H hi hL hM
  rw [show (4 : Int32) = zI 4 from z_lit 4, z_eqF c (by omega) (by omega) (by omega) (by omega)]
  by_cases c : t = 5
  · rw [if_pos (by rw [c]; rfl)]
    exact w_fc_5 hb hB H hi hL hM
  rw [show (5 : Int32) = zI 5 from z_lit 5, z_eqF c (by omega) (by omega) (by omega) (by omega)]
  by_cases c : t = 6
  · rw [if_pos (by rw [c]; rfl)]
    exact w_fc_6 hb hB H hi hL hM
  rw [show (6 : Int32) = zI 6 from z_lit 6, z_eqF c (by omega) (by omega) (by omega) (by omega)]
  by_cases c : t = 7
  · rw [if_pos (by rw [c]; rfl)]
    exact w_fc_7 hb hB H hi hL hM
  rw [show (7 : Int32) = zI 7 from z_lit 7, z_eqF c (by omega) (by omega) (by omega) (by omega)]
  by_cases c : t = 8
  · rw [if_pos (by rw [c]; rfl)]
    exact w_fc_8 hb hB H hi hL hM
  rw [show (8 : Int32) = zI 8 from z_lit 8, z_eqF c (by omega) (by omega) (by omega) (by omega)]
  by_cases c : t = 9
  · rw [if_pos (by rw [c]; rfl)]
    exact w_fc_9 hb hB H hi hL hM
  rw [show (9 : Int32) = zI 9 from z_lit 9, z_eqF c (by omega) (by omega) (by omega) (by omega)]
  by_cases c : t = 10
  · rw [if_pos (by rw [c]; rfl)]
    exact w_fc_10 hb hB H hi hL hM
  rw [show (10 : Int32) = zI 10 from z_lit 10, z_eqF c (by omega) (by omega) (by omega) (by omega)]
  by_cases c : t = 11
  · rw [if_pos (by rw [c]; rfl)]
    exact w_fc_11 hb hB H hi hL hM
  rw [show (11 : Int32) = zI 11 from z_lit 11, z_eqF c (by omega) (by omega) (by omega) (by omega)]
  by_cases c : t = 12
  · rw [if_pos (by rw [c]; rfl)]
    exact w_fc_12 hb hB H hi hL hM
  rw [show (12 : Int32) = zI 12 from z_lit 12, z_eqF c (by omega) (by omega) (by omega) (by omega)]
  by_cases c : t = 13
  · rw [if_pos (by rw [c]; rfl)]
    exact w_fc_13 hb hB H hi hL hM
  rw [show (13 : Int32) = zI 13 from z_lit 13, z_eqF c (by omega) (by omega) (by omega) (by omega)]
  by_cases c : t = 14
  · rw [if_pos (by rw [c]; rfl)]
    exact w_fc_14 hb hB H hi hL hM
  rw [show (14 : Int32) = zI 14 from z_lit 14, z_eqF c (by omega) (by omega) (by omega) (by omega)]
  by_cases c : t = 15
  · rw [if_pos (by rw [c]; rfl)]
    exact w_fc_15 hb hB H hi hL hM
  rw [show (15 : Int32) = zI 15 from z_lit 15, z_eqF c (by omega) (by omega) (by omega) (by omega)]
  by_cases c : t = 16
  · rw [if_pos (by rw [c]; rfl)]
    exact w_fc_16 hb hB H hi hL hM
  rw [show (16 : Int32) = zI 16 from z_lit 16, z_eqF c (by omega) (by omega) (by omega) (by omega)]
  by_cases c : t = 17
  · rw [if_pos (by rw [c]; rfl)]
    exact w_fc_17 hb hB H hi hL hM
  rw [show (17 : Int32) = zI 17 from z_lit 17, z_eqF c (by omega) (by omega) (by omega) (by omega)]
  by_cases c : t = 18
  · rw [if_pos (by rw [c]; rfl)]
    exact w_fc_18 hb hB H hi hL hM
  rw [show (18 : Int32) = zI 18 from z_lit 18, z_eqF c (by omega) (by omega) (by omega) (by omega)]
  by_cases c : t = 19
  · rw [if_pos (by rw [c]; rfl)]
    exact w_fc_19 hb hB H hi hL hM
  rw [show (19 : Int32) = zI 19 from z_lit 19, z_eqF c (by omega) (by omega) (by omega) (by omega)]
  by_cases c : t = 20
  · rw [if_pos (by rw [c]; rfl)]
    exact w_fc_20 hb hB H hi hL hM
  rw [show (20 : Int32) = zI 20 from z_lit 20, z_eqF c (by omega) (by omega) (by omega) (by omega)]
  by_cases c : t = 21
  · rw [if_pos (by rw [c]; rfl)]
    exact w_fc_21 hb hB H hi hL hM
  rw [show (21 : Int32) = zI 21 from z_lit 21, z_eqF c (by omega) (by omega) (by omega) (by omega)]
  by_cases c : t = 22
  · rw [if_pos (by rw [c]; rfl)]
    exact w_fc_22 hb hB H hi hL hM
  rw [show (22 : Int32) = zI 22 from z_lit 22, z_eqF c (by omega) (by omega) (by omega) (by omega)]
  by_cases c : t = 23
  · rw [if_pos (by rw [c]; rfl)]
    exact w_fc_23 hb hB H hi hL hM
  rw [show (23 : Int32) = zI 23 from z_lit 23, z_eqF c (by omega) (by omega) (by omega) (by omega)]
  by_cases c : t = 24
  · rw [if_pos (by rw [c]; rfl)]
    exact w_fc_24 hb hB H hi hL hM
  rw [show (24 : Int32) = zI 24 from z_lit 24, z_eqF c (by omega) (by omega) (by omega) (by omega)]
  by_cases c : t = 25
  · rw [if_pos (by rw [c]; rfl)]
    exact w_fc_25 hb hB H hi hL hM
  rw [show (25 : Int32) = zI 25 from z_lit 25, z_eqF c (by omega) (by omega) (by omega) (by omega)]
  by_cases c : t = 26
  · rw [if_pos (by rw [c]; rfl)]
    exact w_fc_26 hb hB H hi hL hM
  rw [show (26 : Int32) = zI 26 from z_lit 26, z_eqF c (by omega) (by omega) (by omega) (by omega)]
  by_cases c : t = 27
  · rw [if_pos (by rw [c]; rfl)]
    exact w_fc_27 hb hB H hi hL hM
  rw [show (27 : Int32) = zI 27 from z_lit 27, z_eqF c (by omega) (by omega) (by omega) (by omega)]
  by_cases c : t = 28
  · rw [if_pos (by rw [c]; rfl)]
    exact w_fc_28 hb hB H hi hL hM
  rw [show (28 : Int32) = zI 28 from z_lit 28, z_eqF c (by omega) (by omega) (by omega) (by omega)]
  by_cases c : t = 29
  · rw [if_pos (by rw [c]; rfl)]
    exact w_fc_29 hb hB H hi hL hM
  rw [show (29 : Int32) = zI 29 from z_lit 29, z_eqF c (by omega) (by omega) (by omega) (by omega)]
  by_cases c : t = 30
  · rw [if_pos (by rw [c]; rfl)]
    exact w_fc_30 hb hB H hi hL hM
  rw [show (30 : Int32) = zI 30 from z_lit 30, z_eqF c (by omega) (by omega) (by omega) (by omega)]
  by_cases c : t = 31
  · rw [if_pos (by rw [c]; rfl)]
    exact w_fc_31 hb hB H hi hL hM
  rw [show (31 : Int32) = zI 31 from z_lit 31, z_eqF c (by omega) (by omega) (by omega) (by omega)]
  by_cases c : t = 32
  · rw [if_pos (by rw [c]; rfl)]
    exact w_fc_32 hb hB H hi hL hM
  rw [show (32 : Int32) = zI 32 from z_lit 32, z_eqF c (by omega) (by omega) (by omega) (by omega)]
  by_cases c : t = 33
  · rw [if_pos (by rw [c]; rfl)]
    exact w_fc_33 hb hB H hi hL hM
  rw [show (33 : Int32) = zI 33 from z_lit 33, z_eqF c (by omega) (by omega) (by omega) (by omega)]
  by_cases c : t = 34
  · rw [if_pos (by rw [c]; rfl)]
    exact w_fc_34 hb hB H hi hL hM
  rw [show (34 : Int32) = zI 34 from z_lit 34, z_eqF c (by omega) (by omega) (by omega) (by omega)]
  by_cases c : t = 35
  · rw [if_pos (by rw [c]; rfl)]
    exact w_fc_35 hb hB H hi hL hM
  rw [show (35 : Int32) = zI 35 from z_lit 35, z_eqF c (by omega) (by omega) (by omega) (by omega)]
  by_cases c : t = 36
  · rw [if_pos (by rw [c]; rfl)]
    exact w_fc_36 hb hB H hi hL hM
  rw [show (36 : Int32) = zI 36 from z_lit 36, z_eqF c (by omega) (by omega) (by omega) (by omega)]
  by_cases c : t = 37
  · rw [if_pos (by rw [c]; rfl)]
    exact w_fc_37 hb hB H hi hL hM
  rw [show (37 : Int32) = zI 37 from z_lit 37, z_eqF c (by omega) (by omega) (by omega) (by omega)]
  by_cases c : t = 38
  · rw [if_pos (by rw [c]; rfl)]
    exact w_fc_38 hb hB H hi hL hM
  rw [show (38 : Int32) = zI 38 from z_lit 38, z_eqF c (by omega) (by omega) (by omega) (by omega)]
  by_cases c : t = 39
  · rw [if_pos (by rw [c]; rfl)]
    exact w_fc_39 hb hB H hi hL hM
  rw [show (39 : Int32) = zI 39 from z_lit 39, z_eqF c (by omega) (by omega) (by omega) (by omega)]
  by_cases c : t = 40
  · rw [if_pos (by rw [c]; rfl)]
    exact w_fc_40 hb hB H hi hL hM
  rw [show (40 : Int32) = zI 40 from z_lit 40, z_eqF c (by omega) (by omega) (by omega) (by omega)]
  by_cases c : t = 41
  · rw [if_pos (by rw [c]; rfl)]
    exact w_fc_41 hb hB H hi hL hM
  rw [show (41 : Int32) = zI 41 from z_lit 41, z_eqF c (by omega) (by omega) (by omega) (by omega)]
  by_cases c : t = 42
  · rw [if_pos (by rw [c]; rfl)]
    exact w_fc_42 hb hB H hi hL hM
  rw [show (42 : Int32) = zI 42 from z_lit 42, z_eqF c (by omega) (by omega) (by omega) (by omega)]
  by_cases c : t = 43
  · rw [if_pos (by rw [c]; rfl)]
    exact w_fc_43 hb hB H hi hL hM
  rw [show (43 : Int32) = zI 43 from z_lit 43, z_eqF c (by omega) (by omega) (by omega) (by omega)]
  by_cases c : t = 44
  · rw [if_pos (by rw [c]; rfl)]
    exact w_fc_44 hb hB H hi hL hM
  rw [show (44 : Int32) = zI 44 from z_lit 44, z_eqF c (by omega) (by omega) (by omega) (by omega)]
  by_cases c : t = 45
  · rw [if_pos (by rw [c]; rfl)]
    exact w_fc_45 hb hB H hi hL hM
  rw [show (45 : Int32) = zI 45 from z_lit 45, z_eqF c (by omega) (by omega) (by omega) (by omega)]
  by_cases c : t = 46
  · rw [if_pos (by rw [c]; rfl)]
    exact w_fc_46 hb hB H hi hL hM
  rw [show (46 : Int32) = zI 46 from z_lit 46, z_eqF c (by omega) (by omega) (by omega) (by omega)]
  by_cases c : t = 47
  · rw [if_pos (by rw [c]; rfl)]
    exact w_fc_47 hb hB H hi hL hM
  rw [show (47 : Int32) = zI 47 from z_lit 47, z_eqF c (by omega) (by omega) (by omega) (by omega)]
  by_cases c : t = 48
  · rw [if_pos (by rw [c]; rfl)]
    exact w_fc_48 hb hB H hi hL hM
  rw [show (48 : Int32) = zI 48 from z_lit 48, z_eqF c (by omega) (by omega) (by omega) (by omega)]
  by_cases c : t = 49
  · rw [if_pos (by rw [c]; rfl)]
    exact w_fc_49 hb hB H hi hL hM
  rw [show (49 : Int32) = zI 49 from z_lit 49, z_eqF c (by omega) (by omega) (by omega) (by omega)]
  by_cases c : t = 50
  · rw [if_pos (by rw [c]; rfl)]
    exact w_fc_50 hb hB H hi hL hM
  rw [show (50 : Int32) = zI 50 from z_lit 50, z_eqF c (by omega) (by omega) (by omega) (by omega)]
  by_cases c : t = 51
  · rw [if_pos (by rw [c]; rfl)]
    exact w_fc_51 hb hB H hi hL hM
  rw [show (51 : Int32) = zI 51 from z_lit 51, z_eqF c (by omega) (by omega) (by omega) (by omega)]
  by_cases c : t = 52
  · rw [if_pos (by rw [c]; rfl)]
    exact w_fc_52 hb hB H hi hL hM
  rw [show (52 : Int32) = zI 52 from z_lit 52, z_eqF c (by omega) (by omega) (by omega) (by omega)]
  by_cases c : t = 53
  · rw [if_pos (by rw [c]; rfl)]
    exact w_fc_53 hb hB H hi hL hM
  rw [show (53 : Int32) = zI 53 from z_lit 53, z_eqF c (by omega) (by omega) (by omega) (by omega)]
  by_cases c : t = 54
  · rw [if_pos (by rw [c]; rfl)]
    exact w_fc_54 hb hB H hi hL hM
  rw [show (54 : Int32) = zI 54 from z_lit 54, z_eqF c (by omega) (by omega) (by omega) (by omega)]
  by_cases c : t = 55
  · rw [if_pos (by rw [c]; rfl)]
    exact w_fc_55 hb hB H hi hL hM
  rw [show (55 : Int32) = zI 55 from z_lit 55, z_eqF c (by omega) (by omega) (by omega) (by omega)]
  by_cases c : t = 56
  · rw [if_pos (by rw [c]; rfl)]
    exact w_fc_56 hb hB H hi hL hM
  rw [show (56 : Int32) = zI 56 from z_lit 56, z_eqF c (by omega) (by omega) (by omega) (by omega)]
  by_cases c : t = 57
  · rw [if_pos (by rw [c]; rfl)]
    exact w_fc_57 hb hB H hi hL hM
  rw [show (57 : Int32) = zI 57 from z_lit 57, z_eqF c (by omega) (by omega) (by omega) (by omega)]
  by_cases c : t = 58
  · rw [if_pos (by rw [c]; rfl)]
    exact w_fc_58 hb hB H hi hL hM
  rw [show (58 : Int32) = zI 58 from z_lit 58, z_eqF c (by omega) (by omega) (by omega) (by omega)]
  by_cases c : t = 59
  · rw [if_pos (by rw [c]; rfl)]
    exact w_fc_59 hb hB H hi hL hM
  rw [show (59 : Int32) = zI 59 from z_lit 59, z_eqF c (by omega) (by omega) (by omega) (by omega)]
  by_cases c : t = 60
  · rw [if_pos (by rw [c]; rfl)]
    exact w_fc_60 hb hB H hi hL hM
  rw [show (60 : Int32) = zI 60 from z_lit 60, z_eqF c (by omega) (by omega) (by omega) (by omega)]
  by_cases c : t = 61
  · rw [if_pos (by rw [c]; rfl)]
    exact w_fc_61 hb hB H hi hL hM
  rw [show (61 : Int32) = zI 61 from z_lit 61, z_eqF c (by omega) (by omega) (by omega) (by omega)]
  by_cases c : t = 62
  · rw [if_pos (by rw [c]; rfl)]
    exact w_fc_62 hb hB H hi hL hM
  rw [show (62 : Int32) = zI 62 from z_lit 62, z_eqF c (by omega) (by omega) (by omega) (by omega)]
  by_cases c : t = 63
  · rw [if_pos (by rw [c]; rfl)]
    exact w_fc_63 hb hB H hi hL hM
  omega
theorem w_lp1 {N : Nat} (hi : 0 ≤ i) (hM : L ≤ 3072) (hi2 : i < 1000000) : f_loop L xs (N + 1) (zI i) W = if (L : Int) - 6 < i then some () else bdc (f_disp L xs (zI i) W (xs (ix (zI i)) &&& (63 : Int32))) (fun W1 => f_loop L xs N (zI (i + 6)) W1) := by
  rw [f_loop, show Int32.ofNat L = zI (L : Int) from z_n L, show (6 : Int32) = zI 6 from z_lit 6, z_sub, z_add]
  by_cases c : (L : Int) - 6 < i
  · rw [if_pos c, z_ltT c (by omega) (by omega)]
  · rw [if_neg c, z_ltF (by omega) (by omega) (by omega), z_inr (by omega) (by omega) (by omega), z_gd]
theorem w_loop (hM : L ≤ 3072) : ∀ (d N : Nat) (i : Int) (b : Int) (W : Nat → Nat → Int32), (L : Int) - i < 6 * d + 6 → d < N → 0 ≤ i → i < 100000 - 6 * d → 0 ≤ b → b + 36060 * d ≤ 90000000 → z_RW b W → f_loop L xs N (zI i) W = some () := by
  intro d
  induction d with
  | zero =>
    intro N i b W h1 hN hi hi2 hb hB H
    obtain ⟨N, rfl⟩ : ∃ k, N = k + 1 := ⟨N - 1, by omega⟩
    rw [w_lp1 hi hM (by omega), if_pos (by omega)]
  | succ d ih =>
    intro N i b W h1 hN hi hi2 hb hB H
    obtain ⟨N, rfl⟩ : ∃ k, N = k + 1 := ⟨N - 1, by omega⟩
    rw [w_lp1 hi hM (by omega)]
    by_cases c : (L : Int) - 6 < i
    · rw [if_pos c]
    · obtain ⟨t, t1, t2⟩ := w_63 (xs (ix (zI i)))
      obtain ⟨W1, e1, e2⟩ := w_disp (xs := xs) hb (by omega) H hi (by omega) hM t1
      rw [if_neg c, t2, e1, z_bdc]
      exact ih N (i + 6) (b + 36060) W1 (by omega) (by omega) (by omega) (by omega) (by omega) (by omega) e2
/-- what is left: the start -/
theorem w_law (hM : L ≤ 3072) {W1 W2 : Nat → Nat → Int32} (h1 : f_X9_init W00 = some W1) (h2 : f_X10_init (WR W1) = some W2) (H : z_RW 36060 (setU W2 31 (fun _ => (0 : Int32)))) : f_law L xs = some () := by
  unfold f_law
  rw [h1, z_bdc, h2, z_bdc]
  exact w_loop hM 512 FU 0 36060 _ (by omega) (by unfold FU; omega) (by omega) (by omega) (by omega) (by omega) H
end Fd
