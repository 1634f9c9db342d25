/-! THE CONSTRUCTORS -/
theorem mset_mset {M : MM} {a : Nat} {e e2 : va_E} : mset (mset M a e) a e2 = mset M a e2 := by
  funext q
  unfold mset
  by_cases h : q = a
  · rw [if_pos h, if_pos h]
  · rw [if_neg h, if_neg h, if_neg h]
theorem mset_comm {M : MM} {a q : Nat} {e e2 : va_E} (h : a ≠ q) : mset (mset M a e) q e2 = mset (mset M q e2) a e := by
  funext x
  unfold mset
  by_cases h1 : x = a
  · rw [if_pos h1, if_neg (by omega), if_pos h1]
  · rw [if_neg h1, if_neg h1]
def AR (t N n : Nat) (g : Nat → Nat) : va_E := .inl (t, N, .inr (.inr (.inr (.inr (refs n g)))))
theorem refs_0 {g : Nat → Nat} : refs 0 g = fun _ => none := by
  funext i
  exact if_neg (by omega)
theorem refs_up {n : Nat} {g : Nat → Nat} : va_up (refs n g) n (some (g n)) = refs (n + 1) g := by
  funext i
  unfold va_up refs
  by_cases h : i = n
  · rw [if_pos h, if_pos (by omega), h]
  · rw [if_neg h]
    by_cases h2 : i < n
    · rw [if_pos h2, if_pos (by omega)]
    · rw [if_neg h2, if_neg (by omega)]
theorem refs_ue {n v : Nat} {g : Nat → Nat} (h : v = g n) : va_up (refs n g) n (some v) = refs (n + 1) g := h ▸ refs_up
theorem ints_Z {N : Nat} : ints N (fun _ => (0 : Int32)) = (fun _ => (0 : Int32)) := by
  funext i
  unfold ints
  split <;> rfl
/-- a State under construction: t cells stand, the four arrays hold so many -/
def stp (p n1 n2 n3 n4 j : Nat) : va_E :=
  if j = 1 then AR 6 8 n1 (fun i => p + 6 + i) else if j = 2 then AR 7 12 n2 (fun i => p + 14 + i) else if j = 3 then AR 8 4 n3 (fun i => p + 26 + 2 * i) else if j = 4 then AR 4 12 n4 (fun i => p + 34 + i) else stc p (fun _ => (0 : Int32)) j
def SM (p t n1 n2 n3 n4 : Nat) (M : MM) : MM := fun a => if p ≤ a ∧ a < p + t then some (stp p n1 n2 n3 n4 (a - p)) else M a
theorem stp_full {p j : Nat} : stp p 8 12 4 12 j = stc p (fun _ => (0 : Int32)) j := by
  unfold stp
  by_cases h1 : j = 1
  · rw [if_pos h1, h1]; rfl
  by_cases h2 : j = 2
  · rw [if_neg h1, if_pos h2, h2]; rfl
  by_cases h3 : j = 3
  · rw [if_neg h1, if_neg h2, if_pos h3, h3]; rfl
  by_cases h4 : j = 4
  · rw [if_neg h1, if_neg h2, if_neg h3, if_pos h4, h4]; rfl
  · rw [if_neg h1, if_neg h2, if_neg h3, if_neg h4]
theorem SM_full {p : Nat} {M : MM} : SM p 46 8 12 4 12 M = wr p (fun _ => (0 : Int32)) M := by
  funext a
  unfold SM wr
  by_cases h : p ≤ a ∧ a < p + 46
  · rw [if_pos h, if_pos h, stp_full]
  · rw [if_neg h, if_neg h]
theorem SM_at {p t n1 n2 n3 n4 j : Nat} {M : MM} (h : j < t) : SM p t n1 n2 n3 n4 M (p + j) = some (stp p n1 n2 n3 n4 j) := by
  unfold SM
  rw [if_pos ⟨by omega, by omega⟩, Nat.add_sub_cancel_left]
theorem SM_o {p t n1 n2 n3 n4 : Nat} {M : MM} (h : 0 < t) : SM p t n1 n2 n3 n4 M p = some (.inr (4, stO p (fun _ => (0 : Int32)))) := SM_at (j := 0) h
theorem SM_st {p i : Nat} {M : MM} (h : i < 8) : mset (mset (SM p (6 + i) i 0 0 0 M) (p + (6 + i)) (.inr (5, [.int 0, .int 0, .int 0, .int 0]))) (p + 1) (AR 6 8 (i + 1) (fun q => p + 6 + q)) = SM p (6 + i + 1) (i + 1) 0 0 0 M := by
  funext a
  by_cases h1 : a = p + 1
  · rw [h1, mset_eq, SM_at (by omega)]
    rfl
  · rw [mset_ne h1]
    by_cases h2 : a = p + (6 + i)
    · rw [h2, mset_eq, SM_at (by omega)]
      unfold stp
      rw [if_neg (by omega), if_neg (by omega), if_neg (by omega), if_neg (by omega), stc_st h]
      rfl
    · rw [mset_ne h2]
      unfold SM
      by_cases h3 : p ≤ a ∧ a < p + (6 + i)
      · rw [if_pos h3, if_pos (by omega)]
        unfold stp
        by_cases q1 : a - p = 1
        · exact absurd q1 (by omega)
        by_cases q2 : a - p = 2
        · simp [q2]
        by_cases q3 : a - p = 3
        · simp [q3]
        by_cases q4 : a - p = 4
        · simp [q4]
        · simp [q1, q2, q3, q4]
      · rw [if_neg h3, if_neg (by omega)]
theorem SM_tk {p i : Nat} {M : MM} (h : i < 12) : mset (mset (SM p (14 + i) 8 i 0 0 M) (p + (14 + i)) (.inr (7, [.int 0, .int 0, .int 0, .int 0]))) (p + 2) (AR 7 12 (i + 1) (fun q => p + 14 + q)) = SM p (14 + i + 1) 8 (i + 1) 0 0 M := by
  funext a
  by_cases h1 : a = p + 2
  · rw [h1, mset_eq, SM_at (by omega)]
    rfl
  · rw [mset_ne h1]
    by_cases h2 : a = p + (14 + i)
    · rw [h2, mset_eq, SM_at (by omega)]
      unfold stp
      rw [if_neg (by omega), if_neg (by omega), if_neg (by omega), if_neg (by omega), stc_tk h]
      rfl
    · rw [mset_ne h2]
      unfold SM
      by_cases h3 : p ≤ a ∧ a < p + (14 + i)
      · rw [if_pos h3, if_pos (by omega)]
        unfold stp
        by_cases q1 : a - p = 1
        · simp [q1]
        by_cases q2 : a - p = 2
        · exact absurd q2 (by omega)
        by_cases q3 : a - p = 3
        · simp [q3]
        by_cases q4 : a - p = 4
        · simp [q4]
        · simp [q1, q2, q3, q4]
      · rw [if_neg h3, if_neg (by omega)]
theorem SM_pc {p i : Nat} {M : MM} (h : i < 12) : mset (mset (SM p (34 + i) 8 12 4 i M) (p + (34 + i)) (.inr (2, [.int (nI i), .int 0, .int 0, .int 0, .int 0, .int 0, .int 0, .int 0, .int 0, .int 0]))) (p + 4) (AR 4 12 (i + 1) (fun q => p + 34 + q)) = SM p (34 + i + 1) 8 12 4 (i + 1) M := by
  funext a
  by_cases h1 : a = p + 4
  · rw [h1, mset_eq, SM_at (by omega)]
    rfl
  · rw [mset_ne h1]
    by_cases h2 : a = p + (34 + i)
    · rw [h2, mset_eq, SM_at (by omega)]
      unfold stp
      rw [if_neg (by omega), if_neg (by omega), if_neg (by omega), if_neg (by omega), stc_pc]
      rfl
    · rw [mset_ne h2]
      unfold SM
      by_cases h3 : p ≤ a ∧ a < p + (34 + i)
      · rw [if_pos h3, if_pos (by omega)]
        unfold stp
        by_cases q1 : a - p = 1
        · simp [q1]
        by_cases q2 : a - p = 2
        · simp [q2]
        by_cases q3 : a - p = 3
        · simp [q3]
        by_cases q4 : a - p = 4
        · exact absurd q4 (by omega)
        · simp [q1, q2, q3, q4]
      · rw [if_neg h3, if_neg (by omega)]
theorem SM_tr {p i : Nat} {M : MM} (h : i < 4) : mset (mset (mset (SM p (26 + 2 * i) 8 12 i 0 M) (p + (26 + 2 * i)) (.inr (8, [.int (nI i), .int 0, .ref (p + (26 + 2 * i) + 1), .int 0, .int 0, .int 0, .int 0, .int 0, .int 0, .int 0]))) (p + (26 + 2 * i) + 1) (.inl (1, 6, .inl (fun _ => (0 : Int32))))) (p + 3) (AR 8 4 (i + 1) (fun q => p + 26 + 2 * q)) = SM p (26 + 2 * (i + 1)) 8 12 (i + 1) 0 M := by
  funext a
  by_cases h1 : a = p + 3
  · rw [h1, mset_eq, SM_at (by omega)]
    rfl
  · rw [mset_ne h1]
    by_cases h2 : a = p + (26 + 2 * i) + 1
    · rw [h2, mset_eq, show p + (26 + 2 * i) + 1 = p + (27 + 2 * i) by omega, SM_at (by omega)]
      unfold stp
      rw [if_neg (by omega), if_neg (by omega), if_neg (by omega), if_neg (by omega), stc_sp h, ints_Z]
    · rw [mset_ne h2]
      by_cases h5 : a = p + (26 + 2 * i)
      · rw [h5, mset_eq, SM_at (by omega)]
        unfold stp
        rw [if_neg (by omega), if_neg (by omega), if_neg (by omega), if_neg (by omega), stc_tr h]
        unfold stTr
        rw [show p + (26 + 2 * i) + 1 = p + 27 + 2 * i by omega]
      · rw [mset_ne h5]
        unfold SM
        by_cases h3 : p ≤ a ∧ a < p + (26 + 2 * i)
        · rw [if_pos h3, if_pos (by omega)]
          unfold stp
          by_cases q1 : a - p = 1
          · simp [q1]
          by_cases q2 : a - p = 2
          · simp [q2]
          by_cases q3 : a - p = 3
          · exact absurd q3 (by omega)
          by_cases q4 : a - p = 4
          · simp [q4]
          · simp [q1, q2, q3, q4]
        · rw [if_neg h3, if_neg (by omega)]
theorem nI_nge {i n : Nat} (h : i < n) (hn : n < 2 ^ 31) : ¬ nI n ≤ nI i := nI_ge h hn
section Ctor
variable {G : GT} {f0 f : Nat} {M Mx : MM} {hi k n p i : Nat} {P0 : PS}
theorem V_mem {call : CT} {md : MD} {pc : Nat} {lv : List (Nat × Value)} {st : List Value} {M2 : MM} (e : M = M2) (kk : V G f call md P0 pc lv st M2 hi k n) : V G f call md P0 pc lv st M hi k n := e ▸ kk
theorem e_X5_init {a : Nat} (hf0 : 2 ≤ f0) : Ex G f0 mX5_init [.ref a] M hi k n (RH (.inl none) M hi) := by
  obtain ⟨f, rfl, hf⟩ := suc_of hf0
  refine ⟨Nat.le_of_ble_eq_true rfl, ?_⟩
  refine V_aload_n (i := 0) dX5_init_0 rfl rfl ?_
  refine V_objInit dX5_init_1 tw_57 (Nat.le_of_ble_eq_true rfl) hf ?_
  exact V_return dX5_init_4 rfl ⟨rfl, rfl, rfl⟩
theorem e_X7_init {a : Nat} (hf0 : 2 ≤ f0) : Ex G f0 mX7_init [.ref a] M hi k n (RH (.inl none) M hi) := by
  obtain ⟨f, rfl, hf⟩ := suc_of hf0
  refine ⟨Nat.le_of_ble_eq_true rfl, ?_⟩
  refine V_aload_n (i := 0) dX7_init_0 rfl rfl ?_
  refine V_objInit dX7_init_1 tw_82 (Nat.le_of_ble_eq_true rfl) hf ?_
  exact V_return dX7_init_4 rfl ⟨rfl, rfl, rfl⟩
theorem e_X2_init {a : Nat} {x : Int32} (hf0 : 2 ≤ f0) : Ex G f0 mX2_init [.ref a, .int x] (mset M a (.inr (2, [.int 0, .int 0, .int 0, .int 0, .int 0, .int 0, .int 0, .int 0, .int 0, .int 0]))) hi k n (RH (.inl none) (mset M a (.inr (2, [.int x, .int 0, .int 0, .int 0, .int 0, .int 0, .int 0, .int 0, .int 0, .int 0]))) hi) := by
  obtain ⟨f, rfl, hf⟩ := suc_of hf0
  refine ⟨Nat.le_of_ble_eq_true rfl, ?_⟩
  refine V_aload_n (i := 0) dX2_init_0 rfl rfl ?_
  refine V_objInit dX2_init_1 tw_159 (Nat.le_of_ble_eq_true rfl) hf ?_
  refine V_aload_n (i := 0) dX2_init_4 rfl rfl ?_
  refine V_iload_n (i := 1) dX2_init_5 rfl rfl ?_
  refine V_putfield dX2_init_6 mset_eq (fp_X2_9 rfl rfl) rfl rfl (Nat.le_of_ble_eq_true rfl) ?_
  refine V_mem mset_mset ?_
  exact V_return dX2_init_9 rfl ⟨rfl, rfl, rfl⟩
theorem e_X8_init {a : Nat} {x : Int32} (hf0 : 2 ≤ f0) (ha : a < hi) : Ex G f0 mX8_init [.ref a, .int x] (mset M a (.inr (8, [.int 0, .int 0, .null, .int 0, .int 0, .int 0, .int 0, .int 0, .int 0, .int 0]))) hi 1 6 (RH (.inl none) (mset (mset M a (.inr (8, [.int x, .int 0, .ref hi, .int 0, .int 0, .int 0, .int 0, .int 0, .int 0, .int 0]))) hi (.inl (1, 6, .inl (fun _ => (0 : Int32))))) (hi + 1)) := by
  obtain ⟨f, rfl, hf⟩ := suc_of hf0
  refine ⟨Nat.le_of_ble_eq_true rfl, ?_⟩
  refine V_aload_n (i := 0) dX8_init_0 rfl rfl ?_
  refine V_objInit dX8_init_1 tw_106 (Nat.le_of_ble_eq_true rfl) hf ?_
  refine V_aload_n (i := 0) dX8_init_4 rfl rfl ?_
  refine V_bipush (v := 6) dX8_init_5 (by decide) ?_
  refine V_newarray (aty := .int) (N0 := 6) (len := 6) (k := 0) (n := 0) (t := 1) (x := (6, .inl (fun _ => (0 : Int32)))) dX8_init_7 tw_77 rfl (by decide) (fun _ => rfl) (by decide) (by decide) (by decide) ?_
  refine V_putfield dX8_init_9 ((mset_ne (by omega)).trans mset_eq) (fp_X8_9 rfl rfl) rfl rfl (Nat.le_of_ble_eq_true rfl) ?_
  refine V_mem ((mset_comm (M := mset M a (.inr (8, [.int 0, .int 0, .null, .int 0, .int 0, .int 0, .int 0, .int 0, .int 0, .int 0]))) (a := hi) (q := a) (by omega)).trans (by rw [mset_mset])) ?_
  refine V_aload_n (i := 0) dX8_init_12 rfl rfl ?_
  refine V_iload_n (i := 1) dX8_init_13 rfl rfl ?_
  refine V_putfield dX8_init_14 ((mset_ne (by omega)).trans mset_eq) (fp_X8_15 rfl rfl) rfl rfl (Nat.le_of_ble_eq_true rfl) ?_
  refine V_mem ((mset_comm (a := hi) (q := a) (by omega)).trans (by rw [mset_mset])) ?_
  exact V_return dX8_init_17 rfl ⟨rfl, rfl, rfl⟩
theorem it_st (hf : 2 ≤ f) (h : i < 8) (kk : V G f (Ex G f) mX4_init P0 49 [(0, .ref p), (1, .int (nI (i + 1)))] [] (SM p (6 + i + 1) (i + 1) 0 0 0 M) (p + (6 + i + 1)) k n) : V G f (Ex G f) mX4_init P0 49 [(0, .ref p), (1, .int (nI i))] [] (SM p (6 + i) i 0 0 0 M) (p + (6 + i)) (k + 1) (n + 4) := by
  refine V_iload_n (i := 1) dX4_init_49 rfl rfl ?_
  refine V_aload_n (i := 0) dX4_init_50 rfl rfl ?_
  refine V_getfield dX4_init_51 (SM_o (by omega)) fl_X4_11 rfl ?_
  refine V_alen (t := 6) (v := nI 8) dX4_init_54 (SM_at (j := 1) (by omega)) (by decide) rfl ?_
  refine V_icmp_ge (tgt := 77) dX4_init_55 rfl (fun q => absurd q (nI_nge h (by decide))) (fun _ => ?_)
  refine V_aload_n (i := 0) dX4_init_58 rfl rfl ?_
  refine V_getfield dX4_init_59 (SM_o (by omega)) fl_X4_11 rfl ?_
  refine V_iload_n (i := 1) dX4_init_62 rfl rfl ?_
  refine V_new dX4_init_63 nw_X4_9 ?_
  refine V_dup dX4_init_66 rfl ?_
  refine V_callN (As := []) (k2 := 0) (n2 := 0) dX4_init_67 cn_X4_39 rfl rfl (Nat.le_of_ble_eq_true rfl) (e_X5_init hf) (fun v M2 hi2 hp => ?_) (fun E M2 hi2 hp => by obtain ⟨h1, -⟩ := hp; cases h1)
  obtain ⟨h1, rfl, rfl⟩ := hp
  cases h1
  refine V_aastore (t := 6) (n0 := 8) (g := refs i (fun q => p + 6 + q)) (r := _) dX4_init_70 ((mset_ne (by omega)).trans (SM_at (j := 1) (by omega))) rfl (by decide) (vp_in_nI h (by decide)) mset_eq rfl ?_
  rw [nI_clamp (by omega), refs_ue (g := fun q => p + 6 + q) (show p + (6 + i) = p + 6 + i by omega)]
  refine V_mem (SM_st h) ?_
  refine V_iinc (i := 1) dX4_init_71 rfl (nI_1 i) (Nat.le_of_ble_eq_true rfl) ?_
  refine V_goto (tgt := 49) dX4_init_74 rfl ?_
  exact V_sub (ks := [1, 0]) rfl kk
theorem it_tk (hf : 2 ≤ f) (h : i < 12) (kk : V G f (Ex G f) mX4_init P0 79 [(0, .ref p), (1, .int (nI (i + 1)))] [] (SM p (14 + i + 1) 8 (i + 1) 0 0 M) (p + (14 + i + 1)) k n) : V G f (Ex G f) mX4_init P0 79 [(0, .ref p), (1, .int (nI i))] [] (SM p (14 + i) 8 i 0 0 M) (p + (14 + i)) (k + 1) (n + 4) := by
  refine V_iload_n (i := 1) dX4_init_79 rfl rfl ?_
  refine V_aload_n (i := 0) dX4_init_80 rfl rfl ?_
  refine V_getfield dX4_init_81 (SM_o (by omega)) fl_X4_19 rfl ?_
  refine V_alen (t := 7) (v := nI 12) dX4_init_84 (SM_at (j := 2) (by omega)) (by decide) rfl ?_
  refine V_icmp_ge (tgt := 107) dX4_init_85 rfl (fun q => absurd q (nI_nge h (by decide))) (fun _ => ?_)
  refine V_aload_n (i := 0) dX4_init_88 rfl rfl ?_
  refine V_getfield dX4_init_89 (SM_o (by omega)) fl_X4_19 rfl ?_
  refine V_iload_n (i := 1) dX4_init_92 rfl rfl ?_
  refine V_new dX4_init_93 nw_X4_17 ?_
  refine V_dup dX4_init_96 rfl ?_
  refine V_callN (As := []) (k2 := 0) (n2 := 0) dX4_init_97 cn_X4_40 rfl rfl (Nat.le_of_ble_eq_true rfl) (e_X7_init hf) (fun v M2 hi2 hp => ?_) (fun E M2 hi2 hp => by obtain ⟨h1, -⟩ := hp; cases h1)
  obtain ⟨h1, rfl, rfl⟩ := hp
  cases h1
  refine V_aastore (t := 7) (n0 := 12) (g := refs i (fun q => p + 14 + q)) (r := _) dX4_init_100 ((mset_ne (by omega)).trans (SM_at (j := 2) (by omega))) rfl (by decide) (vp_in_nI h (by decide)) mset_eq rfl ?_
  rw [nI_clamp (by omega), refs_ue (g := fun q => p + 14 + q) (show p + (14 + i) = p + 14 + i by omega)]
  refine V_mem (SM_tk h) ?_
  refine V_iinc (i := 1) dX4_init_101 rfl (nI_1 i) (Nat.le_of_ble_eq_true rfl) ?_
  refine V_goto (tgt := 79) dX4_init_104 rfl ?_
  exact V_sub (ks := [1, 0]) rfl kk
theorem it_tr (hf : 2 ≤ f) (h : i < 4) (kk : V G f (Ex G f) mX4_init P0 109 [(0, .ref p), (1, .int (nI (i + 1)))] [] (SM p (26 + 2 * (i + 1)) 8 12 (i + 1) 0 M) (p + (26 + 2 * (i + 1))) k n) : V G f (Ex G f) mX4_init P0 109 [(0, .ref p), (1, .int (nI i))] [] (SM p (26 + 2 * i) 8 12 i 0 M) (p + (26 + 2 * i)) (k + 2) (n + 16) := by
  refine V_iload_n (i := 1) dX4_init_109 rfl rfl ?_
  refine V_aload_n (i := 0) dX4_init_110 rfl rfl ?_
  refine V_getfield dX4_init_111 (SM_o (by omega)) fl_X4_25 rfl ?_
  refine V_alen (t := 8) (v := nI 4) dX4_init_114 (SM_at (j := 3) (by omega)) (by decide) rfl ?_
  refine V_icmp_ge (tgt := 138) dX4_init_115 rfl (fun q => absurd q (nI_nge h (by decide))) (fun _ => ?_)
  refine V_aload_n (i := 0) dX4_init_118 rfl rfl ?_
  refine V_getfield dX4_init_119 (SM_o (by omega)) fl_X4_25 rfl ?_
  refine V_iload_n (i := 1) dX4_init_122 rfl rfl ?_
  refine V_new (N0 := 10) (k := k + 1) (n := n + 6) dX4_init_123 nw_X4_23 ?_
  refine V_dup dX4_init_126 rfl ?_
  refine V_iload_n (i := 1) dX4_init_127 rfl rfl ?_
  refine V_callI (As := [_]) (k2 := 1) (n2 := 6) dX4_init_128 ci_X4_41 rfl rfl (Nat.le_of_ble_eq_true rfl) (e_X8_init hf (by omega)) (fun v M2 hi2 hp => ?_) (fun E M2 hi2 hp => by obtain ⟨h1, -⟩ := hp; cases h1)
  obtain ⟨h1, rfl, rfl⟩ := hp
  cases h1
  refine V_aastore (t := 8) (n0 := 4) (g := refs i (fun q => p + 26 + 2 * q)) (r := _) dX4_init_131 ((mset_ne (by omega)).trans ((mset_ne (by omega)).trans (SM_at (j := 3) (by omega)))) rfl (by decide) (vp_in_nI h (by decide)) ((mset_ne (by omega)).trans mset_eq) rfl ?_
  rw [nI_clamp (by omega), refs_ue (g := fun q => p + 26 + 2 * q) (show p + (26 + 2 * i) = p + 26 + 2 * i by omega)]
  refine V_mem (SM_tr h) ?_
  refine V_iinc (i := 1) dX4_init_132 rfl (nI_1 i) (Nat.le_of_ble_eq_true rfl) ?_
  refine V_goto (tgt := 109) dX4_init_135 rfl ?_
  exact V_sub (ks := [1, 0]) rfl kk
theorem it_pc (hf : 2 ≤ f) (h : i < 12) (kk : V G f (Ex G f) mX4_init P0 140 [(0, .ref p), (1, .int (nI (i + 1)))] [] (SM p (34 + i + 1) 8 12 4 (i + 1) M) (p + (34 + i + 1)) k n) : V G f (Ex G f) mX4_init P0 140 [(0, .ref p), (1, .int (nI i))] [] (SM p (34 + i) 8 12 4 i M) (p + (34 + i)) (k + 1) (n + 10) := by
  refine V_iload_n (i := 1) dX4_init_140 rfl rfl ?_
  refine V_aload_n (i := 0) dX4_init_141 rfl rfl ?_
  refine V_getfield dX4_init_142 (SM_o (by omega)) fl_X4_31 rfl ?_
  refine V_alen (t := 4) (v := nI 12) dX4_init_145 (SM_at (j := 4) (by omega)) (by decide) rfl ?_
  refine V_icmp_ge (tgt := 169) dX4_init_146 rfl (fun q => absurd q (nI_nge h (by decide))) (fun _ => ?_)
  refine V_aload_n (i := 0) dX4_init_149 rfl rfl ?_
  refine V_getfield dX4_init_150 (SM_o (by omega)) fl_X4_31 rfl ?_
  refine V_iload_n (i := 1) dX4_init_153 rfl rfl ?_
  refine V_new dX4_init_154 nw_X4_29 ?_
  refine V_dup dX4_init_157 rfl ?_
  refine V_iload_n (i := 1) dX4_init_158 rfl rfl ?_
  refine V_callI (As := [_]) (k2 := 0) (n2 := 0) dX4_init_159 ci_X4_44 rfl rfl (Nat.le_of_ble_eq_true rfl) (e_X2_init hf) (fun v M2 hi2 hp => ?_) (fun E M2 hi2 hp => by obtain ⟨h1, -⟩ := hp; cases h1)
  obtain ⟨h1, rfl, rfl⟩ := hp
  cases h1
  refine V_aastore (t := 4) (n0 := 12) (g := refs i (fun q => p + 34 + q)) (r := _) dX4_init_162 ((mset_ne (by omega)).trans (SM_at (j := 4) (by omega))) rfl (by decide) (vp_in_nI h (by decide)) mset_eq rfl ?_
  rw [nI_clamp (by omega), refs_ue (g := fun q => p + 34 + q) (show p + (34 + i) = p + 34 + i by omega)]
  refine V_mem (SM_pc h) ?_
  refine V_iinc (i := 1) dX4_init_163 rfl (nI_1 i) (Nat.le_of_ble_eq_true rfl) ?_
  refine V_goto (tgt := 140) dX4_init_166 rfl ?_
  exact V_sub (ks := [1, 0]) rfl kk
theorem SM_six : mset (mset (mset (mset (mset (mset M (p + 1) (.inl (6, 8, .inr (.inr (.inr (.inr (fun _ => none))))))) (p + 1 + 1) (.inl (7, 12, .inr (.inr (.inr (.inr (fun _ => none))))))) (p + 1 + 1 + 1) (.inl (8, 4, .inr (.inr (.inr (.inr (fun _ => none))))))) (p + 1 + 1 + 1 + 1) (.inl (4, 12, .inr (.inr (.inr (.inr (fun _ => none))))))) (p + 1 + 1 + 1 + 1 + 1) (.inl (1, 64, .inl (fun _ => (0 : Int32))))) p (.inr (4, stO p (fun _ => (0 : Int32)))) = SM p 6 0 0 0 0 M := by
  funext a
  by_cases h0 : a = p
  · rw [h0, mset_eq, SM_o (by omega)]
  rw [mset_ne h0]
  by_cases h5 : a = p + 5
  · rw [h5, mset_eq, SM_at (by omega)]
    unfold stp
    rw [if_neg (by omega), if_neg (by omega), if_neg (by omega), if_neg (by omega), stc_5, ints_Z]
  rw [mset_ne h5]
  by_cases h4 : a = p + 4
  · rw [h4, mset_eq, SM_at (by omega)]
    unfold stp AR
    rw [if_neg (by omega), if_neg (by omega), if_neg (by omega), if_pos rfl, refs_0]
  rw [mset_ne h4]
  by_cases h3 : a = p + 3
  · rw [h3, mset_eq, SM_at (by omega)]
    unfold stp AR
    rw [if_neg (by omega), if_neg (by omega), if_pos rfl, refs_0]
  rw [mset_ne h3]
  by_cases h2 : a = p + 2
  · rw [h2, mset_eq, SM_at (by omega)]
    unfold stp AR
    rw [if_neg (by omega), if_pos rfl, refs_0]
  rw [mset_ne h2]
  by_cases h1 : a = p + 1
  · rw [h1, mset_eq, SM_at (by omega)]
    unfold stp AR
    rw [if_pos rfl, refs_0]
  rw [mset_ne h1]
  unfold SM
  rw [if_neg (by omega)]
theorem e_X4_init (hf0 : 3 ≤ f0) : Ex G f0 mX4_init [.ref p] (mset M p (.inr (4, [.null, .null, .null, .null, .null, .int 0, .int 0, .int 0, .int 0, .int 0, .int 0, .int 0]))) (p + 1) 45 364 (RH (.inl none) (wr p (fun _ => (0 : Int32)) M) (p + 46)) := by
  obtain ⟨f, rfl, hf⟩ := suc_of hf0
  refine ⟨Nat.le_of_ble_eq_true rfl, ?_⟩
  refine V_aload_n (i := 0) dX4_init_0 rfl rfl ?_
  refine V_objInit dX4_init_1 tw_44 (Nat.le_of_ble_eq_true rfl) (Nat.le_trans (Nat.le_of_ble_eq_true rfl) hf) ?_
  refine V_aload_n (i := 0) dX4_init_4 rfl rfl ?_
  refine V_bipush (v := 8) dX4_init_5 (by decide) ?_
  refine V_anew (N0 := 8) (len := 8) (k := 44) (n := 356) (t := 6) (CC := RX5) dX4_init_7 tw_45 (by decide +kernel) rfl (by decide) (by decide) (by decide) (by decide) ?_
  refine V_mem (mset_comm (by omega)) ?_
  refine V_putfield dX4_init_10 mset_eq (fp_X4_11 rfl rfl) rfl rfl (Nat.le_of_ble_eq_true rfl) ?_
  refine V_mem mset_mset ?_
  refine V_aload_n (i := 0) dX4_init_13 rfl rfl ?_
  refine V_bipush (v := 12) dX4_init_14 (by decide) ?_
  refine V_anew (N0 := 12) (len := 12) (k := 43) (n := 344) (t := 7) (CC := RX7) dX4_init_16 tw_47 (by decide +kernel) rfl (by decide) (by decide) (by decide) (by decide) ?_
  refine V_mem (mset_comm (by omega)) ?_
  refine V_putfield dX4_init_19 mset_eq (fp_X4_19 rfl rfl) rfl rfl (Nat.le_of_ble_eq_true rfl) ?_
  refine V_mem mset_mset ?_
  refine V_aload_n (i := 0) dX4_init_22 rfl rfl ?_
  refine V_iconst (v := 4) dX4_init_23 (by decide) ?_
  refine V_anew (N0 := 4) (len := 4) (k := 42) (n := 340) (t := 8) (CC := RX8) dX4_init_24 tw_49 (by decide +kernel) rfl (by decide) (by decide) (by decide) (by decide) ?_
  refine V_mem (mset_comm (by omega)) ?_
  refine V_putfield dX4_init_27 mset_eq (fp_X4_25 rfl rfl) rfl rfl (Nat.le_of_ble_eq_true rfl) ?_
  refine V_mem mset_mset ?_
  refine V_aload_n (i := 0) dX4_init_30 rfl rfl ?_
  refine V_bipush (v := 12) dX4_init_31 (by decide) ?_
  refine V_anew (N0 := 12) (len := 12) (k := 41) (n := 328) (t := 4) (CC := RX2) dX4_init_33 tw_51 (by decide +kernel) rfl (by decide) (by decide) (by decide) (by decide) ?_
  refine V_mem (mset_comm (by omega)) ?_
  refine V_putfield dX4_init_36 mset_eq (fp_X4_31 rfl rfl) rfl rfl (Nat.le_of_ble_eq_true rfl) ?_
  refine V_mem mset_mset ?_
  refine V_aload_n (i := 0) dX4_init_39 rfl rfl ?_
  refine V_bipush (v := 64) dX4_init_40 (by decide) ?_
  refine V_newarray (aty := .int) (N0 := 64) (len := 64) (k := 40) (n := 264) (t := 1) (x := (64, .inl (fun _ => (0 : Int32)))) dX4_init_42 tw_77 rfl (by decide) (fun _ => rfl) (by decide) (by decide) (by decide) ?_
  refine V_mem (mset_comm (by omega)) ?_
  refine V_putfield dX4_init_44 mset_eq (fp_X4_35 rfl rfl) rfl rfl (Nat.le_of_ble_eq_true rfl) ?_
  refine V_mem mset_mset ?_
  refine V_mem (SM_six (p := p) (M := M)) ?_
  refine V_iconst (v := 0) dX4_init_47 (by decide) ?_
  refine V_istore_n (i := 1) dX4_init_48 rfl (Nat.le_of_ble_eq_true rfl) ?_
  refine V_sub (ks := [1, 0]) (lv2 := [(0, .ref p), (1, .int (nI 0))]) rfl ?_
  refine it_st (i := 0) (k := 39) (n := 260) hf (by decide) ?_
  refine it_st (i := 1) (k := 38) (n := 256) hf (by decide) ?_
  refine it_st (i := 2) (k := 37) (n := 252) hf (by decide) ?_
  refine it_st (i := 3) (k := 36) (n := 248) hf (by decide) ?_
  refine it_st (i := 4) (k := 35) (n := 244) hf (by decide) ?_
  refine it_st (i := 5) (k := 34) (n := 240) hf (by decide) ?_
  refine it_st (i := 6) (k := 33) (n := 236) hf (by decide) ?_
  refine it_st (i := 7) (k := 32) (n := 232) hf (by decide) ?_
  refine V_iload_n (i := 1) dX4_init_49 rfl rfl ?_
  refine V_aload_n (i := 0) dX4_init_50 rfl rfl ?_
  refine V_getfield dX4_init_51 (SM_o (by omega)) fl_X4_11 rfl ?_
  refine V_alen (t := 6) (v := nI 8) dX4_init_54 (SM_at (j := 1) (by omega)) (by decide) rfl ?_
  refine V_icmp_ge (tgt := 77) dX4_init_55 rfl (fun _ => ?_) (fun q => absurd (nI_le (Nat.le_refl 8) (by decide)) q)
  refine V_iconst (v := 0) dX4_init_77 (by decide) ?_
  refine V_istore_n (i := 1) dX4_init_78 rfl (Nat.le_of_ble_eq_true rfl) ?_
  refine V_sub (ks := [1, 0]) (lv2 := [(0, .ref p), (1, .int (nI 0))]) rfl ?_
  refine it_tk (i := 0) (k := 31) (n := 228) hf (by decide) ?_
  refine it_tk (i := 1) (k := 30) (n := 224) hf (by decide) ?_
  refine it_tk (i := 2) (k := 29) (n := 220) hf (by decide) ?_
  refine it_tk (i := 3) (k := 28) (n := 216) hf (by decide) ?_
  refine it_tk (i := 4) (k := 27) (n := 212) hf (by decide) ?_
  refine it_tk (i := 5) (k := 26) (n := 208) hf (by decide) ?_
  refine it_tk (i := 6) (k := 25) (n := 204) hf (by decide) ?_
  refine it_tk (i := 7) (k := 24) (n := 200) hf (by decide) ?_
  refine it_tk (i := 8) (k := 23) (n := 196) hf (by decide) ?_
  refine it_tk (i := 9) (k := 22) (n := 192) hf (by decide) ?_
  refine it_tk (i := 10) (k := 21) (n := 188) hf (by decide) ?_
  refine it_tk (i := 11) (k := 20) (n := 184) hf (by decide) ?_
  refine V_iload_n (i := 1) dX4_init_79 rfl rfl ?_
  refine V_aload_n (i := 0) dX4_init_80 rfl rfl ?_
  refine V_getfield dX4_init_81 (SM_o (by omega)) fl_X4_19 rfl ?_
  refine V_alen (t := 7) (v := nI 12) dX4_init_84 (SM_at (j := 2) (by omega)) (by decide) rfl ?_
  refine V_icmp_ge (tgt := 107) dX4_init_85 rfl (fun _ => ?_) (fun q => absurd (nI_le (Nat.le_refl 12) (by decide)) q)
  refine V_iconst (v := 0) dX4_init_107 (by decide) ?_
  refine V_istore_n (i := 1) dX4_init_108 rfl (Nat.le_of_ble_eq_true rfl) ?_
  refine V_sub (ks := [1, 0]) (lv2 := [(0, .ref p), (1, .int (nI 0))]) rfl ?_
  refine it_tr (i := 0) (k := 18) (n := 168) hf (by decide) ?_
  refine it_tr (i := 1) (k := 16) (n := 152) hf (by decide) ?_
  refine it_tr (i := 2) (k := 14) (n := 136) hf (by decide) ?_
  refine it_tr (i := 3) (k := 12) (n := 120) hf (by decide) ?_
  refine V_iload_n (i := 1) dX4_init_109 rfl rfl ?_
  refine V_aload_n (i := 0) dX4_init_110 rfl rfl ?_
  refine V_getfield dX4_init_111 (SM_o (by omega)) fl_X4_25 rfl ?_
  refine V_alen (t := 8) (v := nI 4) dX4_init_114 (SM_at (j := 3) (by omega)) (by decide) rfl ?_
  refine V_icmp_ge (tgt := 138) dX4_init_115 rfl (fun _ => ?_) (fun q => absurd (nI_le (Nat.le_refl 4) (by decide)) q)
  refine V_iconst (v := 0) dX4_init_138 (by decide) ?_
  refine V_istore_n (i := 1) dX4_init_139 rfl (Nat.le_of_ble_eq_true rfl) ?_
  refine V_sub (ks := [1, 0]) (lv2 := [(0, .ref p), (1, .int (nI 0))]) rfl ?_
  refine it_pc (i := 0) (k := 11) (n := 110) hf (by decide) ?_
  refine it_pc (i := 1) (k := 10) (n := 100) hf (by decide) ?_
  refine it_pc (i := 2) (k := 9) (n := 90) hf (by decide) ?_
  refine it_pc (i := 3) (k := 8) (n := 80) hf (by decide) ?_
  refine it_pc (i := 4) (k := 7) (n := 70) hf (by decide) ?_
  refine it_pc (i := 5) (k := 6) (n := 60) hf (by decide) ?_
  refine it_pc (i := 6) (k := 5) (n := 50) hf (by decide) ?_
  refine it_pc (i := 7) (k := 4) (n := 40) hf (by decide) ?_
  refine it_pc (i := 8) (k := 3) (n := 30) hf (by decide) ?_
  refine it_pc (i := 9) (k := 2) (n := 20) hf (by decide) ?_
  refine it_pc (i := 10) (k := 1) (n := 10) hf (by decide) ?_
  refine it_pc (i := 11) (k := 0) (n := 0) hf (by decide) ?_
  refine V_iload_n (i := 1) dX4_init_140 rfl rfl ?_
  refine V_aload_n (i := 0) dX4_init_141 rfl rfl ?_
  refine V_getfield dX4_init_142 (SM_o (by omega)) fl_X4_31 rfl ?_
  refine V_alen (t := 4) (v := nI 12) dX4_init_145 (SM_at (j := 4) (by omega)) (by decide) rfl ?_
  refine V_icmp_ge (tgt := 169) dX4_init_146 rfl (fun _ => ?_) (fun q => absurd (nI_le (Nat.le_refl 12) (by decide)) q)
  refine V_return dX4_init_169 rfl ⟨rfl, SM_full, rfl⟩
end Ctor
