noncomputable def l_X6_packName_22 (W : Nat → Nat → Int32) : Nat → Int32 → Int32 → Option Int32
  | 0, _, _ => none
  | N + 1, x1, x2 => if (W 15 3) ≤ x2 then some x1 else bdc (f_X6_byteAt W x2) (fun v4 => bnd ((x1 <<< ((8 : Int32) &&& 31)) ||| v4) (fun v5 => l_X6_packName_22 W N v5 (x2 + (1 : Int32))))
theorem lv_X6_packName_22 {G : GT} {f : Nat} {b c : Nat} {M : MM} {hi k n : Nat} {W : Nat → Nat → Int32} {r : Int32} (hf : 1 ≤ f) (hc1 : 609 ≤ c) : ∀ (N : Nat) (x1 : Int32) (x2 : Int32) , l_X6_packName_22 W N x1 x2 = some r → V G f (Ex G f) mX6_packName (RH (.inl (some (.int r))) (MEM b c W M) hi) 22 [(0, .ref (b + 94)), (1, .int x1), (2, .int x2)] [] (MEM b c W M) hi k n := by
  intro N
  induction N with
  | zero => intro x1 x2 h; cases h
  | succ N ih =>
    intro x1 x2 h
    rw [l_X6_packName_22] at h
    refine V_iload_n (i := 2) dX6_packName_22 rfl rfl ?_
    refine V_aload_n (i := 0) dX6_packName_23 rfl rfl ?_
    refine V_getfield dX6_packName_24 (mem_15 hc1) fl_X6_32 rfl ?_
    refine D_icmp_ge (tgt := 47) h dX6_packName_27 rfl (fun b3 h => ?_) (fun b3 h => ?_)
    · refine V_iload_n (i := 1) dX6_packName_47 rfl rfl ?_
      obtain rfl := Option.some.inj h
      exact V_ireturn dX6_packName_48 ⟨_, rfl, rfl⟩ ⟨rfl, rfl, rfl⟩
    · refine V_iload_n (i := 1) dX6_packName_30 rfl rfl ?_
      refine V_bipush (v := 8) dX6_packName_31 (by decide) ?_
      refine V_ishl dX6_packName_33 ?_
      refine V_aload_n (i := 0) dX6_packName_34 rfl rfl ?_
      refine V_iload_n (i := 2) dX6_packName_35 rfl rfl ?_
      refine D_cVI (As := [_]) h dX6_packName_36 cv_X6_41 rfl ⟨_, _, _, (mem_15 hc1), rfl, rfl⟩ rfl (Nat.le_of_ble_eq_true rfl) (fun x hx => e_X6_byteAt (Nat.le_trans (Nat.le_of_ble_eq_true rfl) hf) hc1 hx) fun v4 h => ?_
      refine V_ior dX6_packName_39 ?_
      refine D_istore_n (i := 1) h dX6_packName_40 rfl (Nat.le_of_ble_eq_true rfl) fun v5 h => ?_
      refine D_iinc (i := 2) (w := 1) dX6_packName_41 rfl (by decide) (Nat.le_of_ble_eq_true rfl) ?_
      refine V_goto (tgt := 22) dX6_packName_44 rfl ?_
      exact V_sub (ks := [2, 1, 0]) rfl (ih _ _ h)
noncomputable def f_X6_packName (W : Nat → Nat → Int32) : Option Int32 :=
  if ((W 15 3) - (W 15 2)) ≤ (4 : Int32) then bnd (W 15 2) (fun v2 => l_X6_packName_22 W FU (0 : Int32) v2) else some (0 : Int32)
theorem e_X6_packName {G : GT} {f0 : Nat} {b c : Nat} {M : MM} {hi k n : Nat} {W : Nat → Nat → Int32} {r : Int32} (hf0 : 2 ≤ f0) (hc1 : 609 ≤ c) (h : f_X6_packName W = some r) : Ex G f0 mX6_packName [.ref (b + 94)] (MEM b c W M) hi k n (RH (.inl (some (.int r))) (MEM b c W M) hi) := by
  obtain ⟨f, rfl, hf⟩ := suc_of hf0
  unfold f_X6_packName at h
  refine ⟨Nat.le_of_ble_eq_true rfl, ?_⟩
  refine V_aload_n (i := 0) dX6_packName_0 rfl rfl ?_
  refine V_getfield dX6_packName_1 (mem_15 hc1) fl_X6_32 rfl ?_
  refine V_aload_n (i := 0) dX6_packName_4 rfl rfl ?_
  refine V_getfield dX6_packName_5 (mem_15 hc1) fl_X6_38 rfl ?_
  refine V_isub dX6_packName_8 ?_
  refine V_iconst (v := 4) dX6_packName_9 (by decide) ?_
  refine D_icmp_le (tgt := 15) h dX6_packName_10 rfl (fun b1 h => ?_) (fun b1 h => ?_)
  · refine V_iconst (v := 0) dX6_packName_15 (by decide) ?_
    refine V_istore_n (i := 1) dX6_packName_16 rfl (Nat.le_of_ble_eq_true rfl) ?_
    refine V_aload_n (i := 0) dX6_packName_17 rfl rfl ?_
    refine V_getfield dX6_packName_18 (mem_15 hc1) fl_X6_38 rfl ?_
    refine D_istore_n (i := 2) h dX6_packName_21 rfl (Nat.le_of_ble_eq_true rfl) fun v2 h => ?_
    refine V_sub (ks := [2, 1, 0]) rfl (lv_X6_packName_22 hf hc1 FU _ _ h)
  · refine V_iconst (v := 0) dX6_packName_13 (by decide) ?_
    obtain rfl := Option.some.inj h
    exact V_ireturn dX6_packName_14 ⟨_, rfl, rfl⟩ ⟨rfl, rfl, rfl⟩
noncomputable def f_X3_findNamedStation (W : Nat → Nat → Int32) : Option (Int32 × (Nat → Nat → Int32)) :=
  jn (fun (v2 : Int32) => if (W 15 1) = (1 : Int32) then if v2 = (-1 : Int32) then bdc (f_X3_fail W (4 : Int32)) (fun W8 => some (v2, W8)) else some (v2, W) else bdc (f_X3_fail W (1 : Int32)) (fun W9 => some (v2, W9))) (fun j1 => if (W 15 1) = (1 : Int32) then bdc (f_X6_packName W) (fun v4 => bdc (f_X4_findStation (W 2) v4) (fun v5 => j1 v5)) else j1 (-1 : Int32))
theorem e_X3_findNamedStation {G : GT} {f0 : Nat} {b c : Nat} {M : MM} {hi k n : Nat} {W : Nat → Nat → Int32} {r : (Int32 × (Nat → Nat → Int32))} (hf0 : 3 ≤ f0) (hc1 : 609 ≤ c) (h : f_X3_findNamedStation W = some r) : Ex G f0 mX3_findNamedStation [.ref (b + 93)] (MEM b c W M) hi k n (RH (.inl (some (.int r.1))) (MEM b c r.2 M) hi) := by
  obtain ⟨f, rfl, hf⟩ := suc_of hf0
  unfold f_X3_findNamedStation at h
  refine ⟨Nat.le_of_ble_eq_true rfl, ?_⟩
  refine V_aload_n (i := 0) dX3_findNamedStation_0 rfl rfl ?_
  refine V_getfield dX3_findNamedStation_1 (mem_13 hc1) fl_X3_12 rfl ?_
  refine V_getfield dX3_findNamedStation_4 (mem_15 hc1) fl_X3_42 rfl ?_
  refine V_iconst (v := 1) dX3_findNamedStation_7 (by decide) ?_
  refine D_jn (fun (j : Int32 → Option (Int32 × (Nat → Nat → Int32))) => ∀ (v2 : Int32), j v2 = some r → V G f (Ex G f) mX3_findNamedStation (RH (.inl (some (.int r.1))) (MEM b c r.2 M) hi) 29 [(0, .ref (b + 93))] [.int v2] (MEM b c W M) hi k n) h (fun j1 hj1 h => ?_) ?_
  · refine D_icmp_ne (tgt := 28) h dX3_findNamedStation_8 rfl (fun b3 h => ?_) (fun b3 h => ?_)
    · refine V_iconst (v := -1) dX3_findNamedStation_28 (by decide) ?_
      exact V_sub (ks := [0]) rfl (hj1 _ h)
    · refine V_aload_n (i := 0) dX3_findNamedStation_11 rfl rfl ?_
      refine V_getfield dX3_findNamedStation_12 (mem_13 hc1) fl_X3_21 rfl ?_
      refine V_aload_n (i := 0) dX3_findNamedStation_15 rfl rfl ?_
      refine V_getfield dX3_findNamedStation_16 (mem_13 hc1) fl_X3_12 rfl ?_
      refine D_cVI (As := []) h dX3_findNamedStation_19 cv_X3_169 rfl ⟨_, _, _, (mem_15 hc1), rfl, rfl⟩ rfl (Nat.le_of_ble_eq_true rfl) (fun x hx => e_X6_packName (Nat.le_trans (Nat.le_of_ble_eq_true rfl) hf) hc1 hx) fun v4 h => ?_
      refine D_cVI (As := [_]) h dX3_findNamedStation_22 cv_X3_172 rfl ⟨_, _, _, (mst_o (u := 2) hc1 (by decide) rfl), rfl, rfl⟩ rfl (Nat.le_of_ble_eq_true rfl) (fun x hx => lift0 (u := 2) hc1 (by decide) rfl (e_X4_findStation (Nat.le_trans (Nat.le_of_ble_eq_true rfl) hf) hx)) fun v5 h => ?_
      refine V_goto (tgt := 29) dX3_findNamedStation_25 rfl ?_
      exact V_sub (ks := [0]) rfl (hj1 _ h)
  · intro v2 h
    refine V_istore_n (i := 1) dX3_findNamedStation_29 rfl (Nat.le_of_ble_eq_true rfl) ?_
    refine V_aload_n (i := 0) dX3_findNamedStation_30 rfl rfl ?_
    refine V_getfield dX3_findNamedStation_31 (mem_13 hc1) fl_X3_12 rfl ?_
    refine V_getfield dX3_findNamedStation_34 (mem_15 hc1) fl_X3_42 rfl ?_
    refine V_iconst (v := 1) dX3_findNamedStation_37 (by decide) ?_
    refine D_icmp_eq (tgt := 49) h dX3_findNamedStation_38 rfl (fun b6 h => ?_) (fun b6 h => ?_)
    · refine V_iload_n (i := 1) dX3_findNamedStation_49 rfl rfl ?_
      refine V_iconst (v := -1) dX3_findNamedStation_50 (by decide) ?_
      refine D_icmp_ne (tgt := 59) h dX3_findNamedStation_51 rfl (fun b7 h => ?_) (fun b7 h => ?_)
      · refine V_iload_n (i := 1) dX3_findNamedStation_59 rfl rfl ?_
        obtain rfl := Option.some.inj h
        exact V_ireturn dX3_findNamedStation_60 ⟨_, rfl, rfl⟩ ⟨rfl, rfl, rfl⟩
      · refine V_aload_n (i := 0) dX3_findNamedStation_54 rfl rfl ?_
        refine V_iconst (v := 4) dX3_findNamedStation_55 (by decide) ?_
        refine D_cVU (As := [_]) (μ := fun W8 => (MEM b c W8 M)) h dX3_findNamedStation_56 cv_X3_95 rfl ⟨_, _, _, (mem_13 hc1), rfl, rfl⟩ rfl (Nat.le_of_ble_eq_true rfl) (fun y hx => e_X3_fail (Nat.le_trans (Nat.le_of_ble_eq_true rfl) hf) hc1 hx) fun W8 h => ?_
        refine V_iload_n (i := 1) dX3_findNamedStation_59 rfl rfl ?_
        obtain rfl := Option.some.inj h
        exact V_ireturn dX3_findNamedStation_60 ⟨_, rfl, rfl⟩ ⟨rfl, rfl, rfl⟩
    · refine V_aload_n (i := 0) dX3_findNamedStation_41 rfl rfl ?_
      refine V_iconst (v := 1) dX3_findNamedStation_42 (by decide) ?_
      refine D_cVU (As := [_]) (μ := fun W9 => (MEM b c W9 M)) h dX3_findNamedStation_43 cv_X3_95 rfl ⟨_, _, _, (mem_13 hc1), rfl, rfl⟩ rfl (Nat.le_of_ble_eq_true rfl) (fun y hx => e_X3_fail (Nat.le_trans (Nat.le_of_ble_eq_true rfl) hf) hc1 hx) fun W9 h => ?_
      refine V_goto (tgt := 59) dX3_findNamedStation_46 rfl ?_
      refine V_iload_n (i := 1) dX3_findNamedStation_59 rfl rfl ?_
      obtain rfl := Option.some.inj h
      exact V_ireturn dX3_findNamedStation_60 ⟨_, rfl, rfl⟩ ⟨rfl, rfl, rfl⟩
noncomputable def f_X3_isFull (W : Nat → Nat → Int32) (a1 : Int32) : Option Int32 :=
  if a1 = (1 : Int32) then if (W 2 1) < (8 : Int32) then some (0 : Int32) else some (1 : Int32) else if a1 = (2 : Int32) then if (W 2 1) < (8 : Int32) then some (0 : Int32) else some (1 : Int32) else if a1 = (3 : Int32) then if (W 2 2) < (12 : Int32) then some (0 : Int32) else some (1 : Int32) else if a1 = (4 : Int32) then if (W 2 3) < (4 : Int32) then some (0 : Int32) else some (1 : Int32) else if a1 = (5 : Int32) then if (W 2 4) < (12 : Int32) then some (0 : Int32) else some (1 : Int32) else gd (tso a1 1 5) (some (0 : Int32))
theorem e_X3_isFull {G : GT} {f0 : Nat} {b c : Nat} {M : MM} {hi k n : Nat} {W : Nat → Nat → Int32} {a1 : Int32} {r : Int32} (hf0 : 1 ≤ f0) (hc1 : 609 ≤ c) (h : f_X3_isFull W a1 = some r) : Ex G f0 mX3_isFull [.ref (b + 93), .int a1] (MEM b c W M) hi k n (RH (.inl (some (.int r))) (MEM b c W M) hi) := by
  obtain ⟨f, rfl, hf⟩ := suc_of hf0
  unfold f_X3_isFull at h
  refine ⟨Nat.le_of_ble_eq_true rfl, ?_⟩
  refine V_iload_n (i := 1) dX3_isFull_0 rfl rfl ?_
  refine D_ite h (fun b1 h => ?_) (fun b1 h => ?_)
  · refine V_tsIn (c := 1) (off := 35) (tgt := 36) b1 dX3_isFull_1 (by decide) (by decide) (by decide) rfl ?_
    refine V_aload_n (i := 0) dX3_isFull_36 rfl rfl ?_
    refine V_getfield dX3_isFull_37 (mem_13 hc1) fl_X3_21 rfl ?_
    refine V_getfield dX3_isFull_40 (mst_o (u := 2) hc1 (by decide) rfl) fl_X3_157 rfl ?_
    refine V_bipush (v := 8) dX3_isFull_43 (by decide) ?_
    refine D_icmp_lt (tgt := 52) h dX3_isFull_45 rfl (fun b2 h => ?_) (fun b2 h => ?_)
    · refine V_iconst (v := 0) dX3_isFull_52 (by decide) ?_
      obtain rfl := Option.some.inj h
      exact V_ireturn dX3_isFull_53 ⟨_, rfl, rfl⟩ ⟨rfl, rfl, rfl⟩
    · refine V_iconst (v := 1) dX3_isFull_48 (by decide) ?_
      refine V_goto (tgt := 53) dX3_isFull_49 rfl ?_
      obtain rfl := Option.some.inj h
      exact V_ireturn dX3_isFull_53 ⟨_, rfl, rfl⟩ ⟨rfl, rfl, rfl⟩
  refine D_ite h (fun b3 h => ?_) (fun b3 h => ?_)
  · refine V_tsIn (c := 2) (off := 35) (tgt := 36) b3 dX3_isFull_1 (by decide) (by decide) (by decide) rfl ?_
    refine V_aload_n (i := 0) dX3_isFull_36 rfl rfl ?_
    refine V_getfield dX3_isFull_37 (mem_13 hc1) fl_X3_21 rfl ?_
    refine V_getfield dX3_isFull_40 (mst_o (u := 2) hc1 (by decide) rfl) fl_X3_157 rfl ?_
    refine V_bipush (v := 8) dX3_isFull_43 (by decide) ?_
    refine D_icmp_lt (tgt := 52) h dX3_isFull_45 rfl (fun b4 h => ?_) (fun b4 h => ?_)
    · refine V_iconst (v := 0) dX3_isFull_52 (by decide) ?_
      obtain rfl := Option.some.inj h
      exact V_ireturn dX3_isFull_53 ⟨_, rfl, rfl⟩ ⟨rfl, rfl, rfl⟩
    · refine V_iconst (v := 1) dX3_isFull_48 (by decide) ?_
      refine V_goto (tgt := 53) dX3_isFull_49 rfl ?_
      obtain rfl := Option.some.inj h
      exact V_ireturn dX3_isFull_53 ⟨_, rfl, rfl⟩ ⟨rfl, rfl, rfl⟩
  refine D_ite h (fun b5 h => ?_) (fun b5 h => ?_)
  · refine V_tsIn (c := 3) (off := 53) (tgt := 54) b5 dX3_isFull_1 (by decide) (by decide) (by decide) rfl ?_
    refine V_aload_n (i := 0) dX3_isFull_54 rfl rfl ?_
    refine V_getfield dX3_isFull_55 (mem_13 hc1) fl_X3_21 rfl ?_
    refine V_getfield dX3_isFull_58 (mst_o (u := 2) hc1 (by decide) rfl) fl_X3_160 rfl ?_
    refine V_bipush (v := 12) dX3_isFull_61 (by decide) ?_
    refine D_icmp_lt (tgt := 70) h dX3_isFull_63 rfl (fun b6 h => ?_) (fun b6 h => ?_)
    · refine V_iconst (v := 0) dX3_isFull_70 (by decide) ?_
      obtain rfl := Option.some.inj h
      exact V_ireturn dX3_isFull_71 ⟨_, rfl, rfl⟩ ⟨rfl, rfl, rfl⟩
    · refine V_iconst (v := 1) dX3_isFull_66 (by decide) ?_
      refine V_goto (tgt := 71) dX3_isFull_67 rfl ?_
      obtain rfl := Option.some.inj h
      exact V_ireturn dX3_isFull_71 ⟨_, rfl, rfl⟩ ⟨rfl, rfl, rfl⟩
  refine D_ite h (fun b7 h => ?_) (fun b7 h => ?_)
  · refine V_tsIn (c := 4) (off := 71) (tgt := 72) b7 dX3_isFull_1 (by decide) (by decide) (by decide) rfl ?_
    refine V_aload_n (i := 0) dX3_isFull_72 rfl rfl ?_
    refine V_getfield dX3_isFull_73 (mem_13 hc1) fl_X3_21 rfl ?_
    refine V_getfield dX3_isFull_76 (mst_o (u := 2) hc1 (by decide) rfl) fl_X3_163 rfl ?_
    refine V_iconst (v := 4) dX3_isFull_79 (by decide) ?_
    refine D_icmp_lt (tgt := 87) h dX3_isFull_80 rfl (fun b8 h => ?_) (fun b8 h => ?_)
    · refine V_iconst (v := 0) dX3_isFull_87 (by decide) ?_
      obtain rfl := Option.some.inj h
      exact V_ireturn dX3_isFull_88 ⟨_, rfl, rfl⟩ ⟨rfl, rfl, rfl⟩
    · refine V_iconst (v := 1) dX3_isFull_83 (by decide) ?_
      refine V_goto (tgt := 88) dX3_isFull_84 rfl ?_
      obtain rfl := Option.some.inj h
      exact V_ireturn dX3_isFull_88 ⟨_, rfl, rfl⟩ ⟨rfl, rfl, rfl⟩
  refine D_ite h (fun b9 h => ?_) (fun b9 h => ?_)
  · refine V_tsIn (c := 5) (off := 88) (tgt := 89) b9 dX3_isFull_1 (by decide) (by decide) (by decide) rfl ?_
    refine V_aload_n (i := 0) dX3_isFull_89 rfl rfl ?_
    refine V_getfield dX3_isFull_90 (mem_13 hc1) fl_X3_21 rfl ?_
    refine V_getfield dX3_isFull_93 (mst_o (u := 2) hc1 (by decide) rfl) fl_X3_166 rfl ?_
    refine V_bipush (v := 12) dX3_isFull_96 (by decide) ?_
    refine D_icmp_lt (tgt := 105) h dX3_isFull_98 rfl (fun b10 h => ?_) (fun b10 h => ?_)
    · refine V_iconst (v := 0) dX3_isFull_105 (by decide) ?_
      obtain rfl := Option.some.inj h
      exact V_ireturn dX3_isFull_106 ⟨_, rfl, rfl⟩ ⟨rfl, rfl, rfl⟩
    · refine V_iconst (v := 1) dX3_isFull_101 (by decide) ?_
      refine V_goto (tgt := 106) dX3_isFull_102 rfl ?_
      obtain rfl := Option.some.inj h
      exact V_ireturn dX3_isFull_106 ⟨_, rfl, rfl⟩ ⟨rfl, rfl, rfl⟩
  refine V_tsOut (tgt := 107) h dX3_isFull_1 rfl fun h => ?_
  refine V_iconst (v := 0) dX3_isFull_107 (by decide) ?_
  obtain rfl := Option.some.inj h
  exact V_ireturn dX3_isFull_108 ⟨_, rfl, rfl⟩ ⟨rfl, rfl, rfl⟩
noncomputable def l_X6_findRunEnd_5 (W : Nat → Nat → Int32) (c1 : Int32) (c2 : Int32) : Nat → Int32 → Option Int32
  | 0, _ => none
  | N + 1, x3 => if (W 15 0) ≤ x3 then some x3 else bdc (f_X6_byteAt W x3) (fun v3 => if v3 < c1 then some x3 else bdc (f_X6_byteAt W x3) (fun v5 => if c2 < v5 then some x3 else l_X6_findRunEnd_5 W c1 c2 N (x3 + (1 : Int32))))
theorem lv_X6_findRunEnd_5 {G : GT} {f : Nat} {b c : Nat} {M : MM} {hi k n : Nat} {W : Nat → Nat → Int32} {c1 : Int32} {c2 : Int32} {r : Int32} (hf : 1 ≤ f) (hc1 : 609 ≤ c) : ∀ (N : Nat) (x3 : Int32) , l_X6_findRunEnd_5 W c1 c2 N x3 = some r → V G f (Ex G f) mX6_findRunEnd (RH (.inl (some (.int r))) (MEM b c W M) hi) 5 [(0, .ref (b + 94)), (1, .int c1), (2, .int c2), (3, .int x3)] [] (MEM b c W M) hi k n := by
  intro N
  induction N with
  | zero => intro x3 h; cases h
  | succ N ih =>
    intro x3 h
    rw [l_X6_findRunEnd_5] at h
    refine V_iload_n (i := 3) dX6_findRunEnd_5 rfl rfl ?_
    refine V_aload_n (i := 0) dX6_findRunEnd_6 rfl rfl ?_
    refine V_getfield dX6_findRunEnd_7 (mem_15 hc1) fl_X6_15 rfl ?_
    refine D_icmp_ge (tgt := 37) h dX6_findRunEnd_10 rfl (fun b2 h => ?_) (fun b2 h => ?_)
    · refine V_iload_n (i := 3) dX6_findRunEnd_37 rfl rfl ?_
      obtain rfl := Option.some.inj h
      exact V_ireturn dX6_findRunEnd_38 ⟨_, rfl, rfl⟩ ⟨rfl, rfl, rfl⟩
    · refine V_aload_n (i := 0) dX6_findRunEnd_13 rfl rfl ?_
      refine V_iload_n (i := 3) dX6_findRunEnd_14 rfl rfl ?_
      refine D_cVI (As := [_]) h dX6_findRunEnd_15 cv_X6_41 rfl ⟨_, _, _, (mem_15 hc1), rfl, rfl⟩ rfl (Nat.le_of_ble_eq_true rfl) (fun x hx => e_X6_byteAt (Nat.le_trans (Nat.le_of_ble_eq_true rfl) hf) hc1 hx) fun v3 h => ?_
      refine V_iload_n (i := 1) dX6_findRunEnd_18 rfl rfl ?_
      refine D_icmp_lt (tgt := 37) h dX6_findRunEnd_19 rfl (fun b4 h => ?_) (fun b4 h => ?_)
      · refine V_iload_n (i := 3) dX6_findRunEnd_37 rfl rfl ?_
        obtain rfl := Option.some.inj h
        exact V_ireturn dX6_findRunEnd_38 ⟨_, rfl, rfl⟩ ⟨rfl, rfl, rfl⟩
      · refine V_aload_n (i := 0) dX6_findRunEnd_22 rfl rfl ?_
        refine V_iload_n (i := 3) dX6_findRunEnd_23 rfl rfl ?_
        refine D_cVI (As := [_]) h dX6_findRunEnd_24 cv_X6_41 rfl ⟨_, _, _, (mem_15 hc1), rfl, rfl⟩ rfl (Nat.le_of_ble_eq_true rfl) (fun x hx => e_X6_byteAt (Nat.le_trans (Nat.le_of_ble_eq_true rfl) hf) hc1 hx) fun v5 h => ?_
        refine V_iload_n (i := 2) dX6_findRunEnd_27 rfl rfl ?_
        refine D_icmp_gt (tgt := 37) h dX6_findRunEnd_28 rfl (fun b6 h => ?_) (fun b6 h => ?_)
        · refine V_iload_n (i := 3) dX6_findRunEnd_37 rfl rfl ?_
          obtain rfl := Option.some.inj h
          exact V_ireturn dX6_findRunEnd_38 ⟨_, rfl, rfl⟩ ⟨rfl, rfl, rfl⟩
        · refine D_iinc (i := 3) (w := 1) dX6_findRunEnd_31 rfl (by decide) (Nat.le_of_ble_eq_true rfl) ?_
          refine V_goto (tgt := 5) dX6_findRunEnd_34 rfl ?_
          exact V_sub (ks := [1, 2, 3, 0]) rfl (ih _ h)
noncomputable def f_X6_findRunEnd (W : Nat → Nat → Int32) (a1 : Int32) (a2 : Int32) : Option Int32 :=
  bnd (W 15 2) (fun v1 => l_X6_findRunEnd_5 W a1 a2 FU v1)
theorem e_X6_findRunEnd {G : GT} {f0 : Nat} {b c : Nat} {M : MM} {hi k n : Nat} {W : Nat → Nat → Int32} {a1 : Int32} {a2 : Int32} {r : Int32} (hf0 : 2 ≤ f0) (hc1 : 609 ≤ c) (h : f_X6_findRunEnd W a1 a2 = some r) : Ex G f0 mX6_findRunEnd [.ref (b + 94), .int a1, .int a2] (MEM b c W M) hi k n (RH (.inl (some (.int r))) (MEM b c W M) hi) := by
  obtain ⟨f, rfl, hf⟩ := suc_of hf0
  unfold f_X6_findRunEnd at h
  refine ⟨Nat.le_of_ble_eq_true rfl, ?_⟩
  refine V_aload_n (i := 0) dX6_findRunEnd_0 rfl rfl ?_
  refine V_getfield dX6_findRunEnd_1 (mem_15 hc1) fl_X6_38 rfl ?_
  refine D_istore_n (i := 3) h dX6_findRunEnd_4 rfl (Nat.le_of_ble_eq_true rfl) fun v1 h => ?_
  refine V_sub (ks := [1, 2, 3, 0]) rfl (lv_X6_findRunEnd_5 hf hc1 FU _ h)
noncomputable def l_X6_advance_8 (K46 : (Nat → Nat → Int32) → Option (Nat → Nat → Int32)) : Nat → (Nat → Nat → Int32) → Option (Nat → Nat → Int32)
  | 0, _ => none
  | N + 1, W => if (W 15 0) ≤ (W 15 2) then K46 W else bdc (f_X6_byteAt W (W 15 2)) (fun v3 => bdc (f_X6_isBlank v3) (fun v4 => if v4 = 0 then K46 W else bnd (w2 W 15 2 ((W 15 2) + (1 : Int32))) (fun W6 => l_X6_advance_8 K46 N W6)))
theorem lv_X6_advance_8 {G : GT} {f : Nat} {b c : Nat} {M : MM} {hi k n : Nat} {K46 : (Nat → Nat → Int32) → Option (Nat → Nat → Int32)} {r : (Nat → Nat → Int32)} (hf : 2 ≤ f) (hc1 : 609 ≤ c) (hK46 : ∀ (Wk : Nat → Nat → Int32), K46 Wk = some r → V G f (Ex G f) mX6_advance (RH (.inl none) (MEM b c r M) hi) 46 [(0, .ref (b + 94))] [] (MEM b c Wk M) hi k n) : ∀ (N : Nat) (W : Nat → Nat → Int32) , l_X6_advance_8 K46 N W = some r → V G f (Ex G f) mX6_advance (RH (.inl none) (MEM b c r M) hi) 8 [(0, .ref (b + 94))] [] (MEM b c W M) hi k n := by
  intro N
  induction N with
  | zero => intro W h; cases h
  | succ N ih =>
    intro W h
    rw [l_X6_advance_8] at h
    refine V_aload_n (i := 0) dX6_advance_8 rfl rfl ?_
    refine V_getfield dX6_advance_9 (mem_15 hc1) fl_X6_38 rfl ?_
    refine V_aload_n (i := 0) dX6_advance_12 rfl rfl ?_
    refine V_getfield dX6_advance_13 (mem_15 hc1) fl_X6_15 rfl ?_
    refine D_icmp_ge (tgt := 46) h dX6_advance_16 rfl (fun b2 h => ?_) (fun b2 h => ?_)
    · exact V_sub (ks := [0]) rfl (hK46 _ h)
    · refine V_aload_n (i := 0) dX6_advance_19 rfl rfl ?_
      refine V_aload_n (i := 0) dX6_advance_20 rfl rfl ?_
      refine V_getfield dX6_advance_21 (mem_15 hc1) fl_X6_38 rfl ?_
      refine D_cVI (As := [_]) h dX6_advance_24 cv_X6_41 rfl ⟨_, _, _, (mem_15 hc1), rfl, rfl⟩ rfl (Nat.le_of_ble_eq_true rfl) (fun x hx => e_X6_byteAt (Nat.le_trans (Nat.le_of_ble_eq_true rfl) hf) hc1 hx) fun v3 h => ?_
      refine D_cSI (As := [_]) h dX6_advance_27 cs_X6_45 rfl rfl (Nat.le_of_ble_eq_true rfl) (fun x hx => e_X6_isBlank (Nat.le_trans (Nat.le_of_ble_eq_true rfl) hf) hx) fun v4 h => ?_
      refine D_if_eq (tgt := 46) h dX6_advance_30 rfl (fun b5 h => ?_) (fun b5 h => ?_)
      · exact V_sub (ks := [0]) rfl (hK46 _ h)
      · refine V_aload_n (i := 0) dX6_advance_33 rfl rfl ?_
        refine V_dup dX6_advance_34 rfl ?_
        refine V_getfield dX6_advance_35 (mem_15 hc1) fl_X6_38 rfl ?_
        refine V_iconst (v := 1) dX6_advance_38 (by decide) ?_
        refine V_iadd dX6_advance_39 ?_
        refine D3_put h dX6_advance_40 (mem_15 hc1) (fp_X6_38 rfl) (Nat.le_of_ble_eq_true rfl) (psc_15_2 hc1) fun W6 h => ?_
        refine V_goto (tgt := 8) dX6_advance_43 rfl ?_
        exact V_sub (ks := [0]) rfl (ih _ h)
noncomputable def f_X6_advance (W : Nat → Nat → Int32) : Option (Nat → Nat → Int32) :=
  bnd (w2 W 15 2 (W 15 3)) (fun W1 => l_X6_advance_8 (fun (x7 : Nat → Nat → Int32) => bdc (f_X6_byteAt x7 (x7 15 2)) (fun v8 => if (x7 15 2) < (x7 15 0) then jn (jn (if v8 = (59 : Int32) then bnd (w2 x7 15 1 (3 : Int32)) (fun W25 => bnd (w2 W25 15 3 ((W25 15 2) + (1 : Int32))) (fun W26 => some W26)) else bnd (w2 x7 15 1 (4 : Int32)) (fun W23 => bnd (w2 W23 15 3 ((W23 15 2) + (1 : Int32))) (fun W24 => some W24))) (fun j16 => if v8 < (48 : Int32) then j16 else if (57 : Int32) < v8 then j16 else bnd (w2 x7 15 1 (2 : Int32)) (fun W19 => bdc (f_X6_findRunEnd W19 (48 : Int32) (57 : Int32)) (fun v20 => bnd (w2 W19 15 3 v20) (fun W21 => some W21))))) (fun j10 => if v8 < (97 : Int32) then j10 else if (122 : Int32) < v8 then j10 else bnd (w2 x7 15 1 (1 : Int32)) (fun W13 => bdc (f_X6_findRunEnd W13 (97 : Int32) (122 : Int32)) (fun v14 => bnd (w2 W13 15 3 v14) (fun W15 => some W15)))) else bnd (w2 x7 15 1 (0 : Int32)) (fun W27 => bnd (w2 W27 15 3 (W27 15 0)) (fun W28 => some W28)))) FU W1)
theorem e_X6_advance {G : GT} {f0 : Nat} {b c : Nat} {M : MM} {hi k n : Nat} {W : Nat → Nat → Int32} {r : (Nat → Nat → Int32)} (hf0 : 3 ≤ f0) (hc1 : 609 ≤ c) (h : f_X6_advance W = some r) : Ex G f0 mX6_advance [.ref (b + 94)] (MEM b c W M) hi k n (RH (.inl none) (MEM b c r M) hi) := by
  obtain ⟨f, rfl, hf⟩ := suc_of hf0
  unfold f_X6_advance at h
  refine ⟨Nat.le_of_ble_eq_true rfl, ?_⟩
  refine V_aload_n (i := 0) dX6_advance_0 rfl rfl ?_
  refine V_aload_n (i := 0) dX6_advance_1 rfl rfl ?_
  refine V_getfield dX6_advance_2 (mem_15 hc1) fl_X6_32 rfl ?_
  refine D3_put h dX6_advance_5 (mem_15 hc1) (fp_X6_38 rfl) (Nat.le_of_ble_eq_true rfl) (psc_15_2 hc1) fun W1 h => ?_
  refine V_sub (ks := [0]) rfl (lv_X6_advance_8 hf hc1 ?_ FU _ h)
  · intro x7 h
    refine V_aload_n (i := 0) dX6_advance_46 rfl rfl ?_
    refine V_aload_n (i := 0) dX6_advance_47 rfl rfl ?_
    refine V_getfield dX6_advance_48 (mem_15 hc1) fl_X6_38 rfl ?_
    refine D_cVI (As := [_]) h dX6_advance_51 cv_X6_41 rfl ⟨_, _, _, (mem_15 hc1), rfl, rfl⟩ rfl (Nat.le_of_ble_eq_true rfl) (fun x hx => e_X6_byteAt (Nat.le_trans (Nat.le_of_ble_eq_true rfl) hf) hc1 hx) fun v8 h => ?_
    refine V_istore_n (i := 1) dX6_advance_54 rfl (Nat.le_of_ble_eq_true rfl) ?_
    refine V_aload_n (i := 0) dX6_advance_55 rfl rfl ?_
    refine V_getfield dX6_advance_56 (mem_15 hc1) fl_X6_38 rfl ?_
    refine V_aload_n (i := 0) dX6_advance_59 rfl rfl ?_
    refine V_getfield dX6_advance_60 (mem_15 hc1) fl_X6_15 rfl ?_
    refine D_icmp_lt (tgt := 82) h dX6_advance_63 rfl (fun b9 h => ?_) (fun b9 h => ?_)
    · refine V_iload_n (i := 1) dX6_advance_82 rfl rfl ?_
      refine V_bipush (v := 97) dX6_advance_83 (by decide) ?_
      refine D_jn (fun (j : Option (Nat → Nat → Int32)) =>  j = some r → V G f (Ex G f) mX6_advance (RH (.inl none) (MEM b c r M) hi) 114 [(0, .ref (b + 94)), (1, .int v8)] [] (MEM b c x7 M) hi k n) h (fun j10 hj10 h => ?_) ?_
      · refine D_icmp_lt (tgt := 114) h dX6_advance_85 rfl (fun b11 h => ?_) (fun b11 h => ?_)
        · exact V_sub (ks := [1, 0]) rfl (hj10 h)
        · refine V_iload_n (i := 1) dX6_advance_88 rfl rfl ?_
          refine V_bipush (v := 122) dX6_advance_89 (by decide) ?_
          refine D_icmp_gt (tgt := 114) h dX6_advance_91 rfl (fun b12 h => ?_) (fun b12 h => ?_)
          · exact V_sub (ks := [1, 0]) rfl (hj10 h)
          · refine V_aload_n (i := 0) dX6_advance_94 rfl rfl ?_
            refine V_iconst (v := 1) dX6_advance_95 (by decide) ?_
            refine D3_put h dX6_advance_96 (mem_15 hc1) (fp_X6_49 rfl) (Nat.le_of_ble_eq_true rfl) (psc_15_1 hc1) fun W13 h => ?_
            refine V_aload_n (i := 0) dX6_advance_99 rfl rfl ?_
            refine V_aload_n (i := 0) dX6_advance_100 rfl rfl ?_
            refine V_bipush (v := 97) dX6_advance_101 (by decide) ?_
            refine V_bipush (v := 122) dX6_advance_103 (by decide) ?_
            refine D_cVI (As := [_, _]) h dX6_advance_105 cv_X6_52 rfl ⟨_, _, _, (mem_15 hc1), rfl, rfl⟩ rfl (Nat.le_of_ble_eq_true rfl) (fun x hx => e_X6_findRunEnd (Nat.le_trans (Nat.le_of_ble_eq_true rfl) hf) hc1 hx) fun v14 h => ?_
            refine D3_put h dX6_advance_108 (mem_15 hc1) (fp_X6_32 rfl) (Nat.le_of_ble_eq_true rfl) (psc_15_3 hc1) fun W15 h => ?_
            refine V_goto (tgt := 171) dX6_advance_111 rfl ?_
            obtain rfl := Option.some.inj h
            exact V_return dX6_advance_171 rfl ⟨rfl, rfl, rfl⟩
      · intro  h
        refine V_iload_n (i := 1) dX6_advance_114 rfl rfl ?_
        refine V_bipush (v := 48) dX6_advance_115 (by decide) ?_
        refine D_jn (fun (j : Option (Nat → Nat → Int32)) =>  j = some r → V G f (Ex G f) mX6_advance (RH (.inl none) (MEM b c r M) hi) 146 [(0, .ref (b + 94)), (1, .int v8)] [] (MEM b c x7 M) hi k n) h (fun j16 hj16 h => ?_) ?_
        · refine D_icmp_lt (tgt := 146) h dX6_advance_117 rfl (fun b17 h => ?_) (fun b17 h => ?_)
          · exact V_sub (ks := [0, 1]) rfl (hj16 h)
          · refine V_iload_n (i := 1) dX6_advance_120 rfl rfl ?_
            refine V_bipush (v := 57) dX6_advance_121 (by decide) ?_
            refine D_icmp_gt (tgt := 146) h dX6_advance_123 rfl (fun b18 h => ?_) (fun b18 h => ?_)
            · exact V_sub (ks := [0, 1]) rfl (hj16 h)
            · refine V_aload_n (i := 0) dX6_advance_126 rfl rfl ?_
              refine V_iconst (v := 2) dX6_advance_127 (by decide) ?_
              refine D3_put h dX6_advance_128 (mem_15 hc1) (fp_X6_49 rfl) (Nat.le_of_ble_eq_true rfl) (psc_15_1 hc1) fun W19 h => ?_
              refine V_aload_n (i := 0) dX6_advance_131 rfl rfl ?_
              refine V_aload_n (i := 0) dX6_advance_132 rfl rfl ?_
              refine V_bipush (v := 48) dX6_advance_133 (by decide) ?_
              refine V_bipush (v := 57) dX6_advance_135 (by decide) ?_
              refine D_cVI (As := [_, _]) h dX6_advance_137 cv_X6_52 rfl ⟨_, _, _, (mem_15 hc1), rfl, rfl⟩ rfl (Nat.le_of_ble_eq_true rfl) (fun x hx => e_X6_findRunEnd (Nat.le_trans (Nat.le_of_ble_eq_true rfl) hf) hc1 hx) fun v20 h => ?_
              refine D3_put h dX6_advance_140 (mem_15 hc1) (fp_X6_32 rfl) (Nat.le_of_ble_eq_true rfl) (psc_15_3 hc1) fun W21 h => ?_
              refine V_goto (tgt := 171) dX6_advance_143 rfl ?_
              obtain rfl := Option.some.inj h
              exact V_return dX6_advance_171 rfl ⟨rfl, rfl, rfl⟩
        · intro  h
          refine V_aload_n (i := 0) dX6_advance_146 rfl rfl ?_
          refine V_iload_n (i := 1) dX6_advance_147 rfl rfl ?_
          refine V_bipush (v := 59) dX6_advance_148 (by decide) ?_
          refine D_icmp_ne (tgt := 157) h dX6_advance_150 rfl (fun b22 h => ?_) (fun b22 h => ?_)
          · refine V_iconst (v := 4) dX6_advance_157 (by decide) ?_
            refine D3_put h dX6_advance_158 (mem_15 hc1) (fp_X6_49 rfl) (Nat.le_of_ble_eq_true rfl) (psc_15_1 hc1) fun W23 h => ?_
            refine V_aload_n (i := 0) dX6_advance_161 rfl rfl ?_
            refine V_aload_n (i := 0) dX6_advance_162 rfl rfl ?_
            refine V_getfield dX6_advance_163 (mem_15 hc1) fl_X6_38 rfl ?_
            refine V_iconst (v := 1) dX6_advance_166 (by decide) ?_
            refine V_iadd dX6_advance_167 ?_
            refine D3_put h dX6_advance_168 (mem_15 hc1) (fp_X6_32 rfl) (Nat.le_of_ble_eq_true rfl) (psc_15_3 hc1) fun W24 h => ?_
            obtain rfl := Option.some.inj h
            exact V_return dX6_advance_171 rfl ⟨rfl, rfl, rfl⟩
          · refine V_iconst (v := 3) dX6_advance_153 (by decide) ?_
            refine V_goto (tgt := 158) dX6_advance_154 rfl ?_
            refine D3_put h dX6_advance_158 (mem_15 hc1) (fp_X6_49 rfl) (Nat.le_of_ble_eq_true rfl) (psc_15_1 hc1) fun W25 h => ?_
            refine V_aload_n (i := 0) dX6_advance_161 rfl rfl ?_
            refine V_aload_n (i := 0) dX6_advance_162 rfl rfl ?_
            refine V_getfield dX6_advance_163 (mem_15 hc1) fl_X6_38 rfl ?_
            refine V_iconst (v := 1) dX6_advance_166 (by decide) ?_
            refine V_iadd dX6_advance_167 ?_
            refine D3_put h dX6_advance_168 (mem_15 hc1) (fp_X6_32 rfl) (Nat.le_of_ble_eq_true rfl) (psc_15_3 hc1) fun W26 h => ?_
            obtain rfl := Option.some.inj h
            exact V_return dX6_advance_171 rfl ⟨rfl, rfl, rfl⟩
    · refine V_aload_n (i := 0) dX6_advance_66 rfl rfl ?_
      refine V_iconst (v := 0) dX6_advance_67 (by decide) ?_
      refine D3_put h dX6_advance_68 (mem_15 hc1) (fp_X6_49 rfl) (Nat.le_of_ble_eq_true rfl) (psc_15_1 hc1) fun W27 h => ?_
      refine V_aload_n (i := 0) dX6_advance_71 rfl rfl ?_
      refine V_aload_n (i := 0) dX6_advance_72 rfl rfl ?_
      refine V_getfield dX6_advance_73 (mem_15 hc1) fl_X6_15 rfl ?_
      refine D3_put h dX6_advance_76 (mem_15 hc1) (fp_X6_32 rfl) (Nat.le_of_ble_eq_true rfl) (psc_15_3 hc1) fun W28 h => ?_
      refine V_goto (tgt := 171) dX6_advance_79 rfl ?_
      obtain rfl := Option.some.inj h
      exact V_return dX6_advance_171 rfl ⟨rfl, rfl, rfl⟩
noncomputable def f_X6_begin (W : Nat → Nat → Int32) : Option (Nat → Nat → Int32) :=
  bnd (w2 W 15 3 (0 : Int32)) (fun W1 => bdc (f_X6_advance W1) (fun W2 => some W2))
theorem e_X6_begin {G : GT} {f0 : Nat} {b c : Nat} {M : MM} {hi k n : Nat} {W : Nat → Nat → Int32} {r : (Nat → Nat → Int32)} (hf0 : 4 ≤ f0) (hc1 : 609 ≤ c) (h : f_X6_begin W = some r) : Ex G f0 mX6_begin [.ref (b + 94)] (MEM b c W M) hi k n (RH (.inl none) (MEM b c r M) hi) := by
  obtain ⟨f, rfl, hf⟩ := suc_of hf0
  unfold f_X6_begin at h
  refine ⟨Nat.le_of_ble_eq_true rfl, ?_⟩
  refine V_aload_n (i := 0) dX6_begin_0 rfl rfl ?_
  refine V_iconst (v := 0) dX6_begin_1 (by decide) ?_
  refine D3_put h dX6_begin_2 (mem_15 hc1) (fp_X6_32 rfl) (Nat.le_of_ble_eq_true rfl) (psc_15_3 hc1) fun W1 h => ?_
  refine V_aload_n (i := 0) dX6_begin_5 rfl rfl ?_
  refine D_cVU (As := []) (μ := fun W2 => (MEM b c W2 M)) h dX6_begin_6 cv_X6_35 rfl ⟨_, _, _, (mem_15 hc1), rfl, rfl⟩ rfl (Nat.le_of_ble_eq_true rfl) (fun y hx => e_X6_advance (Nat.le_trans (Nat.le_of_ble_eq_true rfl) hf) hc1 hx) fun W2 h => ?_
  obtain rfl := Option.some.inj h
  exact V_return dX6_begin_9 rfl ⟨rfl, rfl, rfl⟩
noncomputable def f_X3_takeKeyword (W : Nat → Nat → Int32) : Option (Int32 × (Nat → Nat → Int32)) :=
  bdc (f_X3_findKeyword W) (fun v1 => if v1 = (-1 : Int32) then bdc (f_X3_fail W (1 : Int32)) (fun W8 => bdc (f_X6_advance W8) (fun W9 => some (v1, W9))) else bdc (f_X3_isFull W v1) (fun v3 => if v3 = 0 then bdc (f_X6_advance W) (fun W5 => some (v1, W5)) else bdc (f_X3_fail W (6 : Int32)) (fun W6 => bdc (f_X6_advance W6) (fun W7 => some (v1, W7)))))
theorem e_X3_takeKeyword {G : GT} {f0 : Nat} {b c : Nat} {M : MM} {hi k n : Nat} {W : Nat → Nat → Int32} {r : (Int32 × (Nat → Nat → Int32))} (hf0 : 7 ≤ f0) (hc1 : 609 ≤ c) (h : f_X3_takeKeyword W = some r) : Ex G f0 mX3_takeKeyword [.ref (b + 93)] (MEM b c W M) hi k n (RH (.inl (some (.int r.1))) (MEM b c r.2 M) hi) := by
  obtain ⟨f, rfl, hf⟩ := suc_of hf0
  unfold f_X3_takeKeyword at h
  refine ⟨Nat.le_of_ble_eq_true rfl, ?_⟩
  refine V_aload_n (i := 0) dX3_takeKeyword_0 rfl rfl ?_
  refine D_cVI (As := []) h dX3_takeKeyword_1 cv_X3_130 rfl ⟨_, _, _, (mem_13 hc1), rfl, rfl⟩ rfl (Nat.le_of_ble_eq_true rfl) (fun x hx => e_X3_findKeyword (Nat.le_trans (Nat.le_of_ble_eq_true rfl) hf) hc1 hx) fun v1 h => ?_
  refine V_istore_n (i := 1) dX3_takeKeyword_4 rfl (Nat.le_of_ble_eq_true rfl) ?_
  refine V_iload_n (i := 1) dX3_takeKeyword_5 rfl rfl ?_
  refine V_iconst (v := -1) dX3_takeKeyword_6 (by decide) ?_
  refine D_icmp_ne (tgt := 18) h dX3_takeKeyword_7 rfl (fun b2 h => ?_) (fun b2 h => ?_)
  · refine V_aload_n (i := 0) dX3_takeKeyword_18 rfl rfl ?_
    refine V_iload_n (i := 1) dX3_takeKeyword_19 rfl rfl ?_
    refine D_cVI (As := [_]) h dX3_takeKeyword_20 cv_X3_133 rfl ⟨_, _, _, (mem_13 hc1), rfl, rfl⟩ rfl (Nat.le_of_ble_eq_true rfl) (fun x hx => e_X3_isFull (Nat.le_trans (Nat.le_of_ble_eq_true rfl) hf) hc1 hx) fun v3 h => ?_
    refine D_if_eq (tgt := 32) h dX3_takeKeyword_23 rfl (fun b4 h => ?_) (fun b4 h => ?_)
    · refine V_aload_n (i := 0) dX3_takeKeyword_32 rfl rfl ?_
      refine V_getfield dX3_takeKeyword_33 (mem_13 hc1) fl_X3_12 rfl ?_
      refine D_cVU (As := []) (μ := fun W5 => (MEM b c W5 M)) h dX3_takeKeyword_36 cv_X3_99 rfl ⟨_, _, _, (mem_15 hc1), rfl, rfl⟩ rfl (Nat.le_of_ble_eq_true rfl) (fun y hx => e_X6_advance (Nat.le_trans (Nat.le_of_ble_eq_true rfl) hf) hc1 hx) fun W5 h => ?_
      refine V_iload_n (i := 1) dX3_takeKeyword_39 rfl rfl ?_
      obtain rfl := Option.some.inj h
      exact V_ireturn dX3_takeKeyword_40 ⟨_, rfl, rfl⟩ ⟨rfl, rfl, rfl⟩
    · refine V_aload_n (i := 0) dX3_takeKeyword_26 rfl rfl ?_
      refine V_bipush (v := 6) dX3_takeKeyword_27 (by decide) ?_
      refine D_cVU (As := [_]) (μ := fun W6 => (MEM b c W6 M)) h dX3_takeKeyword_29 cv_X3_95 rfl ⟨_, _, _, (mem_13 hc1), rfl, rfl⟩ rfl (Nat.le_of_ble_eq_true rfl) (fun y hx => e_X3_fail (Nat.le_trans (Nat.le_of_ble_eq_true rfl) hf) hc1 hx) fun W6 h => ?_
      refine V_aload_n (i := 0) dX3_takeKeyword_32 rfl rfl ?_
      refine V_getfield dX3_takeKeyword_33 (mem_13 hc1) fl_X3_12 rfl ?_
      refine D_cVU (As := []) (μ := fun W7 => (MEM b c W7 M)) h dX3_takeKeyword_36 cv_X3_99 rfl ⟨_, _, _, (mem_15 hc1), rfl, rfl⟩ rfl (Nat.le_of_ble_eq_true rfl) (fun y hx => e_X6_advance (Nat.le_trans (Nat.le_of_ble_eq_true rfl) hf) hc1 hx) fun W7 h => ?_
      refine V_iload_n (i := 1) dX3_takeKeyword_39 rfl rfl ?_
      obtain rfl := Option.some.inj h
      exact V_ireturn dX3_takeKeyword_40 ⟨_, rfl, rfl⟩ ⟨rfl, rfl, rfl⟩
  · refine V_aload_n (i := 0) dX3_takeKeyword_10 rfl rfl ?_
    refine V_iconst (v := 1) dX3_takeKeyword_11 (by decide) ?_
    refine D_cVU (As := [_]) (μ := fun W8 => (MEM b c W8 M)) h dX3_takeKeyword_12 cv_X3_95 rfl ⟨_, _, _, (mem_13 hc1), rfl, rfl⟩ rfl (Nat.le_of_ble_eq_true rfl) (fun y hx => e_X3_fail (Nat.le_trans (Nat.le_of_ble_eq_true rfl) hf) hc1 hx) fun W8 h => ?_
    refine V_goto (tgt := 32) dX3_takeKeyword_15 rfl ?_
    refine V_aload_n (i := 0) dX3_takeKeyword_32 rfl rfl ?_
    refine V_getfield dX3_takeKeyword_33 (mem_13 hc1) fl_X3_12 rfl ?_
    refine D_cVU (As := []) (μ := fun W9 => (MEM b c W9 M)) h dX3_takeKeyword_36 cv_X3_99 rfl ⟨_, _, _, (mem_15 hc1), rfl, rfl⟩ rfl (Nat.le_of_ble_eq_true rfl) (fun y hx => e_X6_advance (Nat.le_trans (Nat.le_of_ble_eq_true rfl) hf) hc1 hx) fun W9 h => ?_
    refine V_iload_n (i := 1) dX3_takeKeyword_39 rfl rfl ?_
    obtain rfl := Option.some.inj h
    exact V_ireturn dX3_takeKeyword_40 ⟨_, rfl, rfl⟩ ⟨rfl, rfl, rfl⟩
noncomputable def f_X3_takeNewName (W : Nat → Nat → Int32) : Option (Int32 × (Nat → Nat → Int32)) :=
  bdc (f_X6_packName W) (fun v1 => if (W 15 1) = (1 : Int32) then if v1 = 0 then bdc (f_X3_fail W (2 : Int32)) (fun W9 => bdc (f_X6_advance W9) (fun W10 => some (v1, W10))) else bdc (f_X4_findStation (W 2) v1) (fun v4 => if v4 = (-1 : Int32) then bdc (f_X6_advance W) (fun W6 => some (v1, W6)) else bdc (f_X3_fail W (3 : Int32)) (fun W7 => bdc (f_X6_advance W7) (fun W8 => some (v1, W8)))) else bdc (f_X3_fail W (1 : Int32)) (fun W11 => bdc (f_X6_advance W11) (fun W12 => some (v1, W12))))
theorem e_X3_takeNewName {G : GT} {f0 : Nat} {b c : Nat} {M : MM} {hi k n : Nat} {W : Nat → Nat → Int32} {r : (Int32 × (Nat → Nat → Int32))} (hf0 : 4 ≤ f0) (hc1 : 609 ≤ c) (h : f_X3_takeNewName W = some r) : Ex G f0 mX3_takeNewName [.ref (b + 93)] (MEM b c W M) hi k n (RH (.inl (some (.int r.1))) (MEM b c r.2 M) hi) := by
  obtain ⟨f, rfl, hf⟩ := suc_of hf0
  unfold f_X3_takeNewName at h
  refine ⟨Nat.le_of_ble_eq_true rfl, ?_⟩
  refine V_aload_n (i := 0) dX3_takeNewName_0 rfl rfl ?_
  refine V_getfield dX3_takeNewName_1 (mem_13 hc1) fl_X3_12 rfl ?_
  refine D_cVI (As := []) h dX3_takeNewName_4 cv_X3_169 rfl ⟨_, _, _, (mem_15 hc1), rfl, rfl⟩ rfl (Nat.le_of_ble_eq_true rfl) (fun x hx => e_X6_packName (Nat.le_trans (Nat.le_of_ble_eq_true rfl) hf) hc1 hx) fun v1 h => ?_
  refine V_istore_n (i := 1) dX3_takeNewName_7 rfl (Nat.le_of_ble_eq_true rfl) ?_
  refine V_aload_n (i := 0) dX3_takeNewName_8 rfl rfl ?_
  refine V_getfield dX3_takeNewName_9 (mem_13 hc1) fl_X3_12 rfl ?_
  refine V_getfield dX3_takeNewName_12 (mem_15 hc1) fl_X3_42 rfl ?_
  refine V_iconst (v := 1) dX3_takeNewName_15 (by decide) ?_
  refine D_icmp_eq (tgt := 27) h dX3_takeNewName_16 rfl (fun b2 h => ?_) (fun b2 h => ?_)
  · refine V_iload_n (i := 1) dX3_takeNewName_27 rfl rfl ?_
    refine D_if_ne (tgt := 39) h dX3_takeNewName_28 rfl (fun b3 h => ?_) (fun b3 h => ?_)
    · refine V_aload_n (i := 0) dX3_takeNewName_39 rfl rfl ?_
      refine V_getfield dX3_takeNewName_40 (mem_13 hc1) fl_X3_21 rfl ?_
      refine V_iload_n (i := 1) dX3_takeNewName_43 rfl rfl ?_
      refine D_cVI (As := [_]) h dX3_takeNewName_44 cv_X3_172 rfl ⟨_, _, _, (mst_o (u := 2) hc1 (by decide) rfl), rfl, rfl⟩ rfl (Nat.le_of_ble_eq_true rfl) (fun x hx => lift0 (u := 2) hc1 (by decide) rfl (e_X4_findStation (Nat.le_trans (Nat.le_of_ble_eq_true rfl) hf) hx)) fun v4 h => ?_
      refine V_iconst (v := -1) dX3_takeNewName_47 (by decide) ?_
      refine D_icmp_eq (tgt := 56) h dX3_takeNewName_48 rfl (fun b5 h => ?_) (fun b5 h => ?_)
      · refine V_aload_n (i := 0) dX3_takeNewName_56 rfl rfl ?_
        refine V_getfield dX3_takeNewName_57 (mem_13 hc1) fl_X3_12 rfl ?_
        refine D_cVU (As := []) (μ := fun W6 => (MEM b c W6 M)) h dX3_takeNewName_60 cv_X3_99 rfl ⟨_, _, _, (mem_15 hc1), rfl, rfl⟩ rfl (Nat.le_of_ble_eq_true rfl) (fun y hx => e_X6_advance (Nat.le_trans (Nat.le_of_ble_eq_true rfl) hf) hc1 hx) fun W6 h => ?_
        refine V_iload_n (i := 1) dX3_takeNewName_63 rfl rfl ?_
        obtain rfl := Option.some.inj h
        exact V_ireturn dX3_takeNewName_64 ⟨_, rfl, rfl⟩ ⟨rfl, rfl, rfl⟩
      · refine V_aload_n (i := 0) dX3_takeNewName_51 rfl rfl ?_
        refine V_iconst (v := 3) dX3_takeNewName_52 (by decide) ?_
        refine D_cVU (As := [_]) (μ := fun W7 => (MEM b c W7 M)) h dX3_takeNewName_53 cv_X3_95 rfl ⟨_, _, _, (mem_13 hc1), rfl, rfl⟩ rfl (Nat.le_of_ble_eq_true rfl) (fun y hx => e_X3_fail (Nat.le_trans (Nat.le_of_ble_eq_true rfl) hf) hc1 hx) fun W7 h => ?_
        refine V_aload_n (i := 0) dX3_takeNewName_56 rfl rfl ?_
        refine V_getfield dX3_takeNewName_57 (mem_13 hc1) fl_X3_12 rfl ?_
        refine D_cVU (As := []) (μ := fun W8 => (MEM b c W8 M)) h dX3_takeNewName_60 cv_X3_99 rfl ⟨_, _, _, (mem_15 hc1), rfl, rfl⟩ rfl (Nat.le_of_ble_eq_true rfl) (fun y hx => e_X6_advance (Nat.le_trans (Nat.le_of_ble_eq_true rfl) hf) hc1 hx) fun W8 h => ?_
        refine V_iload_n (i := 1) dX3_takeNewName_63 rfl rfl ?_
        obtain rfl := Option.some.inj h
        exact V_ireturn dX3_takeNewName_64 ⟨_, rfl, rfl⟩ ⟨rfl, rfl, rfl⟩
    · refine V_aload_n (i := 0) dX3_takeNewName_31 rfl rfl ?_
      refine V_iconst (v := 2) dX3_takeNewName_32 (by decide) ?_
      refine D_cVU (As := [_]) (μ := fun W9 => (MEM b c W9 M)) h dX3_takeNewName_33 cv_X3_95 rfl ⟨_, _, _, (mem_13 hc1), rfl, rfl⟩ rfl (Nat.le_of_ble_eq_true rfl) (fun y hx => e_X3_fail (Nat.le_trans (Nat.le_of_ble_eq_true rfl) hf) hc1 hx) fun W9 h => ?_
      refine V_goto (tgt := 56) dX3_takeNewName_36 rfl ?_
      refine V_aload_n (i := 0) dX3_takeNewName_56 rfl rfl ?_
      refine V_getfield dX3_takeNewName_57 (mem_13 hc1) fl_X3_12 rfl ?_
      refine D_cVU (As := []) (μ := fun W10 => (MEM b c W10 M)) h dX3_takeNewName_60 cv_X3_99 rfl ⟨_, _, _, (mem_15 hc1), rfl, rfl⟩ rfl (Nat.le_of_ble_eq_true rfl) (fun y hx => e_X6_advance (Nat.le_trans (Nat.le_of_ble_eq_true rfl) hf) hc1 hx) fun W10 h => ?_
      refine V_iload_n (i := 1) dX3_takeNewName_63 rfl rfl ?_
      obtain rfl := Option.some.inj h
      exact V_ireturn dX3_takeNewName_64 ⟨_, rfl, rfl⟩ ⟨rfl, rfl, rfl⟩
  · refine V_aload_n (i := 0) dX3_takeNewName_19 rfl rfl ?_
    refine V_iconst (v := 1) dX3_takeNewName_20 (by decide) ?_
    refine D_cVU (As := [_]) (μ := fun W11 => (MEM b c W11 M)) h dX3_takeNewName_21 cv_X3_95 rfl ⟨_, _, _, (mem_13 hc1), rfl, rfl⟩ rfl (Nat.le_of_ble_eq_true rfl) (fun y hx => e_X3_fail (Nat.le_trans (Nat.le_of_ble_eq_true rfl) hf) hc1 hx) fun W11 h => ?_
    refine V_goto (tgt := 56) dX3_takeNewName_24 rfl ?_
    refine V_aload_n (i := 0) dX3_takeNewName_56 rfl rfl ?_
    refine V_getfield dX3_takeNewName_57 (mem_13 hc1) fl_X3_12 rfl ?_
    refine D_cVU (As := []) (μ := fun W12 => (MEM b c W12 M)) h dX3_takeNewName_60 cv_X3_99 rfl ⟨_, _, _, (mem_15 hc1), rfl, rfl⟩ rfl (Nat.le_of_ble_eq_true rfl) (fun y hx => e_X6_advance (Nat.le_trans (Nat.le_of_ble_eq_true rfl) hf) hc1 hx) fun W12 h => ?_
    refine V_iload_n (i := 1) dX3_takeNewName_63 rfl rfl ?_
    obtain rfl := Option.some.inj h
    exact V_ireturn dX3_takeNewName_64 ⟨_, rfl, rfl⟩ ⟨rfl, rfl, rfl⟩
noncomputable def f_X3_takeStation (W : Nat → Nat → Int32) : Option (Int32 × (Nat → Nat → Int32)) :=
  bd2 (f_X3_findNamedStation W) (fun v2 W1 => bdc (f_X6_advance W1) (fun W3 => some (v2, W3)))
theorem e_X3_takeStation {G : GT} {f0 : Nat} {b c : Nat} {M : MM} {hi k n : Nat} {W : Nat → Nat → Int32} {r : (Int32 × (Nat → Nat → Int32))} (hf0 : 4 ≤ f0) (hc1 : 609 ≤ c) (h : f_X3_takeStation W = some r) : Ex G f0 mX3_takeStation [.ref (b + 93)] (MEM b c W M) hi k n (RH (.inl (some (.int r.1))) (MEM b c r.2 M) hi) := by
  obtain ⟨f, rfl, hf⟩ := suc_of hf0
  unfold f_X3_takeStation at h
  refine ⟨Nat.le_of_ble_eq_true rfl, ?_⟩
  refine V_aload_n (i := 0) dX3_takeStation_0 rfl rfl ?_
  refine D_cVIW (As := []) (μ := fun W1 => (MEM b c W1 M)) h dX3_takeStation_1 cv_X3_179 rfl ⟨_, _, _, (mem_13 hc1), rfl, rfl⟩ rfl (Nat.le_of_ble_eq_true rfl) (fun x y hx => e_X3_findNamedStation (Nat.le_trans (Nat.le_of_ble_eq_true rfl) hf) hc1 hx) fun v2 W1 h => ?_
  refine V_istore_n (i := 1) dX3_takeStation_4 rfl (Nat.le_of_ble_eq_true rfl) ?_
  refine V_aload_n (i := 0) dX3_takeStation_5 rfl rfl ?_
  refine V_getfield dX3_takeStation_6 (mem_13 hc1) fl_X3_12 rfl ?_
  refine D_cVU (As := []) (μ := fun W3 => (MEM b c W3 M)) h dX3_takeStation_9 cv_X3_99 rfl ⟨_, _, _, (mem_15 hc1), rfl, rfl⟩ rfl (Nat.le_of_ble_eq_true rfl) (fun y hx => e_X6_advance (Nat.le_trans (Nat.le_of_ble_eq_true rfl) hf) hc1 hx) fun W3 h => ?_
  refine V_iload_n (i := 1) dX3_takeStation_12 rfl rfl ?_
  obtain rfl := Option.some.inj h
  exact V_ireturn dX3_takeStation_13 ⟨_, rfl, rfl⟩ ⟨rfl, rfl, rfl⟩
noncomputable def f_X3_takeSecondStation (W : Nat → Nat → Int32) : Option (Int32 × (Nat → Nat → Int32)) :=
  bd2 (f_X3_findNamedStation W) (fun v2 W1 => bdc (f_X4_findTrack (W1 2) (W1 13 4) v2) (fun v3 => jn (fun (v5 : Int32) => if (W1 13 2) = (7 : Int32) then if v5 = 0 then bdc (f_X3_fail W1 (5 : Int32)) (fun W19 => bdc (f_X6_advance W19) (fun W20 => some (v2, W20))) else bdc (f_X6_advance W1) (fun W18 => some (v2, W18)) else if (W1 13 4) = v2 then bdc (f_X3_fail W1 (5 : Int32)) (fun W9 => bdc (f_X6_advance W9) (fun W10 => some (v2, W10))) else if (W1 13 2) = (3 : Int32) then if v5 = 0 then bdc (f_X6_advance W1) (fun W14 => some (v2, W14)) else bdc (f_X3_fail W1 (5 : Int32)) (fun W15 => bdc (f_X6_advance W15) (fun W16 => some (v2, W16))) else bdc (f_X6_advance W1) (fun W12 => some (v2, W12))) (fun j4 => if v3 = (-1 : Int32) then j4 (0 : Int32) else j4 (1 : Int32))))
theorem e_X3_takeSecondStation {G : GT} {f0 : Nat} {b c : Nat} {M : MM} {hi k n : Nat} {W : Nat → Nat → Int32} {r : (Int32 × (Nat → Nat → Int32))} (hf0 : 4 ≤ f0) (hc1 : 609 ≤ c) (h : f_X3_takeSecondStation W = some r) : Ex G f0 mX3_takeSecondStation [.ref (b + 93)] (MEM b c W M) hi k n (RH (.inl (some (.int r.1))) (MEM b c r.2 M) hi) := by
  obtain ⟨f, rfl, hf⟩ := suc_of hf0
  unfold f_X3_takeSecondStation at h
  refine ⟨Nat.le_of_ble_eq_true rfl, ?_⟩
  refine V_aload_n (i := 0) dX3_takeSecondStation_0 rfl rfl ?_
  refine D_cVIW (As := []) (μ := fun W1 => (MEM b c W1 M)) h dX3_takeSecondStation_1 cv_X3_179 rfl ⟨_, _, _, (mem_13 hc1), rfl, rfl⟩ rfl (Nat.le_of_ble_eq_true rfl) (fun x y hx => e_X3_findNamedStation (Nat.le_trans (Nat.le_of_ble_eq_true rfl) hf) hc1 hx) fun v2 W1 h => ?_
  refine V_istore_n (i := 1) dX3_takeSecondStation_4 rfl (Nat.le_of_ble_eq_true rfl) ?_
  refine V_aload_n (i := 0) dX3_takeSecondStation_5 rfl rfl ?_
  refine V_getfield dX3_takeSecondStation_6 (mem_13 hc1) fl_X3_21 rfl ?_
  refine V_aload_n (i := 0) dX3_takeSecondStation_9 rfl rfl ?_
  refine V_getfield dX3_takeSecondStation_10 (mem_13 hc1) fl_X3_76 rfl ?_
  refine V_iload_n (i := 1) dX3_takeSecondStation_13 rfl rfl ?_
  refine D_cVI (As := [_, _]) h dX3_takeSecondStation_14 cv_X3_124 rfl ⟨_, _, _, (mst_o (u := 2) hc1 (by decide) rfl), rfl, rfl⟩ rfl (Nat.le_of_ble_eq_true rfl) (fun x hx => lift0 (u := 2) hc1 (by decide) rfl (e_X4_findTrack (Nat.le_trans (Nat.le_of_ble_eq_true rfl) hf) hx)) fun v3 h => ?_
  refine V_iconst (v := -1) dX3_takeSecondStation_17 (by decide) ?_
  refine D_jn (fun (j : Int32 → Option (Int32 × (Nat → Nat → Int32))) => ∀ (v5 : Int32), j v5 = some r → V G f (Ex G f) mX3_takeSecondStation (RH (.inl (some (.int r.1))) (MEM b c r.2 M) hi) 26 [(0, .ref (b + 93)), (1, .int v2)] [.int v5] (MEM b c W1 M) hi k n) h (fun j4 hj4 h => ?_) ?_
  · refine D_icmp_eq (tgt := 25) h dX3_takeSecondStation_18 rfl (fun b6 h => ?_) (fun b6 h => ?_)
    · refine V_iconst (v := 0) dX3_takeSecondStation_25 (by decide) ?_
      exact V_sub (ks := [1, 0]) rfl (hj4 _ h)
    · refine V_iconst (v := 1) dX3_takeSecondStation_21 (by decide) ?_
      refine V_goto (tgt := 26) dX3_takeSecondStation_22 rfl ?_
      exact V_sub (ks := [1, 0]) rfl (hj4 _ h)
  · intro v5 h
    refine V_istore_n (i := 2) dX3_takeSecondStation_26 rfl (Nat.le_of_ble_eq_true rfl) ?_
    refine V_aload_n (i := 0) dX3_takeSecondStation_27 rfl rfl ?_
    refine V_getfield dX3_takeSecondStation_28 (mem_13 hc1) fl_X3_64 rfl ?_
    refine V_bipush (v := 7) dX3_takeSecondStation_31 (by decide) ?_
    refine D_icmp_ne (tgt := 43) h dX3_takeSecondStation_33 rfl (fun b7 h => ?_) (fun b7 h => ?_)
    · refine V_aload_n (i := 0) dX3_takeSecondStation_43 rfl rfl ?_
      refine V_getfield dX3_takeSecondStation_44 (mem_13 hc1) fl_X3_76 rfl ?_
      refine V_iload_n (i := 1) dX3_takeSecondStation_47 rfl rfl ?_
      refine D_icmp_eq (tgt := 63) h dX3_takeSecondStation_48 rfl (fun b8 h => ?_) (fun b8 h => ?_)
      · refine V_aload_n (i := 0) dX3_takeSecondStation_63 rfl rfl ?_
        refine V_iconst (v := 5) dX3_takeSecondStation_64 (by decide) ?_
        refine D_cVU (As := [_]) (μ := fun W9 => (MEM b c W9 M)) h dX3_takeSecondStation_65 cv_X3_95 rfl ⟨_, _, _, (mem_13 hc1), rfl, rfl⟩ rfl (Nat.le_of_ble_eq_true rfl) (fun y hx => e_X3_fail (Nat.le_trans (Nat.le_of_ble_eq_true rfl) hf) hc1 hx) fun W9 h => ?_
        refine V_aload_n (i := 0) dX3_takeSecondStation_68 rfl rfl ?_
        refine V_getfield dX3_takeSecondStation_69 (mem_13 hc1) fl_X3_12 rfl ?_
        refine D_cVU (As := []) (μ := fun W10 => (MEM b c W10 M)) h dX3_takeSecondStation_72 cv_X3_99 rfl ⟨_, _, _, (mem_15 hc1), rfl, rfl⟩ rfl (Nat.le_of_ble_eq_true rfl) (fun y hx => e_X6_advance (Nat.le_trans (Nat.le_of_ble_eq_true rfl) hf) hc1 hx) fun W10 h => ?_
        refine V_iload_n (i := 1) dX3_takeSecondStation_75 rfl rfl ?_
        obtain rfl := Option.some.inj h
        exact V_ireturn dX3_takeSecondStation_76 ⟨_, rfl, rfl⟩ ⟨rfl, rfl, rfl⟩
      · refine V_aload_n (i := 0) dX3_takeSecondStation_51 rfl rfl ?_
        refine V_getfield dX3_takeSecondStation_52 (mem_13 hc1) fl_X3_64 rfl ?_
        refine V_iconst (v := 3) dX3_takeSecondStation_55 (by decide) ?_
        refine D_icmp_ne (tgt := 68) h dX3_takeSecondStation_56 rfl (fun b11 h => ?_) (fun b11 h => ?_)
        · refine V_aload_n (i := 0) dX3_takeSecondStation_68 rfl rfl ?_
          refine V_getfield dX3_takeSecondStation_69 (mem_13 hc1) fl_X3_12 rfl ?_
          refine D_cVU (As := []) (μ := fun W12 => (MEM b c W12 M)) h dX3_takeSecondStation_72 cv_X3_99 rfl ⟨_, _, _, (mem_15 hc1), rfl, rfl⟩ rfl (Nat.le_of_ble_eq_true rfl) (fun y hx => e_X6_advance (Nat.le_trans (Nat.le_of_ble_eq_true rfl) hf) hc1 hx) fun W12 h => ?_
          refine V_iload_n (i := 1) dX3_takeSecondStation_75 rfl rfl ?_
          obtain rfl := Option.some.inj h
          exact V_ireturn dX3_takeSecondStation_76 ⟨_, rfl, rfl⟩ ⟨rfl, rfl, rfl⟩
        · refine V_iload_n (i := 2) dX3_takeSecondStation_59 rfl rfl ?_
          refine D_if_eq (tgt := 68) h dX3_takeSecondStation_60 rfl (fun b13 h => ?_) (fun b13 h => ?_)
          · refine V_aload_n (i := 0) dX3_takeSecondStation_68 rfl rfl ?_
            refine V_getfield dX3_takeSecondStation_69 (mem_13 hc1) fl_X3_12 rfl ?_
            refine D_cVU (As := []) (μ := fun W14 => (MEM b c W14 M)) h dX3_takeSecondStation_72 cv_X3_99 rfl ⟨_, _, _, (mem_15 hc1), rfl, rfl⟩ rfl (Nat.le_of_ble_eq_true rfl) (fun y hx => e_X6_advance (Nat.le_trans (Nat.le_of_ble_eq_true rfl) hf) hc1 hx) fun W14 h => ?_
            refine V_iload_n (i := 1) dX3_takeSecondStation_75 rfl rfl ?_
            obtain rfl := Option.some.inj h
            exact V_ireturn dX3_takeSecondStation_76 ⟨_, rfl, rfl⟩ ⟨rfl, rfl, rfl⟩
          · refine V_aload_n (i := 0) dX3_takeSecondStation_63 rfl rfl ?_
            refine V_iconst (v := 5) dX3_takeSecondStation_64 (by decide) ?_
            refine D_cVU (As := [_]) (μ := fun W15 => (MEM b c W15 M)) h dX3_takeSecondStation_65 cv_X3_95 rfl ⟨_, _, _, (mem_13 hc1), rfl, rfl⟩ rfl (Nat.le_of_ble_eq_true rfl) (fun y hx => e_X3_fail (Nat.le_trans (Nat.le_of_ble_eq_true rfl) hf) hc1 hx) fun W15 h => ?_
            refine V_aload_n (i := 0) dX3_takeSecondStation_68 rfl rfl ?_
            refine V_getfield dX3_takeSecondStation_69 (mem_13 hc1) fl_X3_12 rfl ?_
            refine D_cVU (As := []) (μ := fun W16 => (MEM b c W16 M)) h dX3_takeSecondStation_72 cv_X3_99 rfl ⟨_, _, _, (mem_15 hc1), rfl, rfl⟩ rfl (Nat.le_of_ble_eq_true rfl) (fun y hx => e_X6_advance (Nat.le_trans (Nat.le_of_ble_eq_true rfl) hf) hc1 hx) fun W16 h => ?_
            refine V_iload_n (i := 1) dX3_takeSecondStation_75 rfl rfl ?_
            obtain rfl := Option.some.inj h
            exact V_ireturn dX3_takeSecondStation_76 ⟨_, rfl, rfl⟩ ⟨rfl, rfl, rfl⟩
    · refine V_iload_n (i := 2) dX3_takeSecondStation_36 rfl rfl ?_
      refine D_if_ne (tgt := 68) h dX3_takeSecondStation_37 rfl (fun b17 h => ?_) (fun b17 h => ?_)
      · refine V_aload_n (i := 0) dX3_takeSecondStation_68 rfl rfl ?_
        refine V_getfield dX3_takeSecondStation_69 (mem_13 hc1) fl_X3_12 rfl ?_
        refine D_cVU (As := []) (μ := fun W18 => (MEM b c W18 M)) h dX3_takeSecondStation_72 cv_X3_99 rfl ⟨_, _, _, (mem_15 hc1), rfl, rfl⟩ rfl (Nat.le_of_ble_eq_true rfl) (fun y hx => e_X6_advance (Nat.le_trans (Nat.le_of_ble_eq_true rfl) hf) hc1 hx) fun W18 h => ?_
        refine V_iload_n (i := 1) dX3_takeSecondStation_75 rfl rfl ?_
        obtain rfl := Option.some.inj h
        exact V_ireturn dX3_takeSecondStation_76 ⟨_, rfl, rfl⟩ ⟨rfl, rfl, rfl⟩
      · refine V_goto (tgt := 63) dX3_takeSecondStation_40 rfl ?_
        refine V_aload_n (i := 0) dX3_takeSecondStation_63 rfl rfl ?_
        refine V_iconst (v := 5) dX3_takeSecondStation_64 (by decide) ?_
        refine D_cVU (As := [_]) (μ := fun W19 => (MEM b c W19 M)) h dX3_takeSecondStation_65 cv_X3_95 rfl ⟨_, _, _, (mem_13 hc1), rfl, rfl⟩ rfl (Nat.le_of_ble_eq_true rfl) (fun y hx => e_X3_fail (Nat.le_trans (Nat.le_of_ble_eq_true rfl) hf) hc1 hx) fun W19 h => ?_
        refine V_aload_n (i := 0) dX3_takeSecondStation_68 rfl rfl ?_
        refine V_getfield dX3_takeSecondStation_69 (mem_13 hc1) fl_X3_12 rfl ?_
        refine D_cVU (As := []) (μ := fun W20 => (MEM b c W20 M)) h dX3_takeSecondStation_72 cv_X3_99 rfl ⟨_, _, _, (mem_15 hc1), rfl, rfl⟩ rfl (Nat.le_of_ble_eq_true rfl) (fun y hx => e_X6_advance (Nat.le_trans (Nat.le_of_ble_eq_true rfl) hf) hc1 hx) fun W20 h => ?_
        refine V_iload_n (i := 1) dX3_takeSecondStation_75 rfl rfl ?_
        obtain rfl := Option.some.inj h
        exact V_ireturn dX3_takeSecondStation_76 ⟨_, rfl, rfl⟩ ⟨rfl, rfl, rfl⟩
noncomputable def l_X6_readNumber_7 (W : Nat → Nat → Int32) : Nat → Int32 → Int32 → Option Int32
  | 0, _, _ => none
  | N + 1, x1, x2 => if (W 15 3) ≤ x2 then some x1 else bdc (f_X6_byteAt W x2) (fun v3 => bnd (if (((x1 * (10 : Int32)) + v3) - (48 : Int32)) < (1000 : Int32) then (((x1 * (10 : Int32)) + v3) - (48 : Int32)) else (1000 : Int32)) (fun v4 => l_X6_readNumber_7 W N v4 (x2 + (1 : Int32))))
theorem lv_X6_readNumber_7 {G : GT} {f : Nat} {b c : Nat} {M : MM} {hi k n : Nat} {W : Nat → Nat → Int32} {r : Int32} (hf : 1 ≤ f) (hc1 : 609 ≤ c) : ∀ (N : Nat) (x1 : Int32) (x2 : Int32) , l_X6_readNumber_7 W N x1 x2 = some r → V G f (Ex G f) mX6_readNumber (RH (.inl (some (.int r))) (MEM b c W M) hi) 7 [(0, .ref (b + 94)), (1, .int x1), (2, .int x2)] [] (MEM b c W M) hi k n := by
  intro N
  induction N with
  | zero => intro x1 x2 h; cases h
  | succ N ih =>
    intro x1 x2 h
    rw [l_X6_readNumber_7] at h
    refine V_iload_n (i := 2) dX6_readNumber_7 rfl rfl ?_
    refine V_aload_n (i := 0) dX6_readNumber_8 rfl rfl ?_
    refine V_getfield dX6_readNumber_9 (mem_15 hc1) fl_X6_32 rfl ?_
    refine D_icmp_ge (tgt := 41) h dX6_readNumber_12 rfl (fun b2 h => ?_) (fun b2 h => ?_)
    · refine V_iload_n (i := 1) dX6_readNumber_41 rfl rfl ?_
      obtain rfl := Option.some.inj h
      exact V_ireturn dX6_readNumber_42 ⟨_, rfl, rfl⟩ ⟨rfl, rfl, rfl⟩
    · refine V_sipush (v := 1000) dX6_readNumber_15 (by decide) ?_
      refine V_iload_n (i := 1) dX6_readNumber_18 rfl rfl ?_
      refine V_bipush (v := 10) dX6_readNumber_19 (by decide) ?_
      refine V_imul dX6_readNumber_21 ?_
      refine V_aload_n (i := 0) dX6_readNumber_22 rfl rfl ?_
      refine V_iload_n (i := 2) dX6_readNumber_23 rfl rfl ?_
      refine D_cVI (As := [_]) h dX6_readNumber_24 cv_X6_41 rfl ⟨_, _, _, (mem_15 hc1), rfl, rfl⟩ rfl (Nat.le_of_ble_eq_true rfl) (fun x hx => e_X6_byteAt (Nat.le_trans (Nat.le_of_ble_eq_true rfl) hf) hc1 hx) fun v3 h => ?_
      refine V_iadd dX6_readNumber_27 ?_
      refine V_bipush (v := 48) dX6_readNumber_28 (by decide) ?_
      refine V_isub dX6_readNumber_30 ?_
      refine V_mmin dX6_readNumber_31 tw_531 (Nat.le_of_ble_eq_true rfl) (Nat.le_trans (Nat.le_of_ble_eq_true rfl) hf) ?_
      refine D_istore_n (i := 1) h dX6_readNumber_34 rfl (Nat.le_of_ble_eq_true rfl) fun v4 h => ?_
      refine D_iinc (i := 2) (w := 1) dX6_readNumber_35 rfl (by decide) (Nat.le_of_ble_eq_true rfl) ?_
      refine V_goto (tgt := 7) dX6_readNumber_38 rfl ?_
      exact V_sub (ks := [2, 1, 0]) rfl (ih _ _ h)
noncomputable def f_X6_readNumber (W : Nat → Nat → Int32) : Option Int32 :=
  bnd (W 15 2) (fun v1 => l_X6_readNumber_7 W FU (0 : Int32) v1)
theorem e_X6_readNumber {G : GT} {f0 : Nat} {b c : Nat} {M : MM} {hi k n : Nat} {W : Nat → Nat → Int32} {r : Int32} (hf0 : 2 ≤ f0) (hc1 : 609 ≤ c) (h : f_X6_readNumber W = some r) : Ex G f0 mX6_readNumber [.ref (b + 94)] (MEM b c W M) hi k n (RH (.inl (some (.int r))) (MEM b c W M) hi) := by
  obtain ⟨f, rfl, hf⟩ := suc_of hf0
  unfold f_X6_readNumber at h
  refine ⟨Nat.le_of_ble_eq_true rfl, ?_⟩
  refine V_iconst (v := 0) dX6_readNumber_0 (by decide) ?_
  refine V_istore_n (i := 1) dX6_readNumber_1 rfl (Nat.le_of_ble_eq_true rfl) ?_
  refine V_aload_n (i := 0) dX6_readNumber_2 rfl rfl ?_
  refine V_getfield dX6_readNumber_3 (mem_15 hc1) fl_X6_38 rfl ?_
  refine D_istore_n (i := 2) h dX6_readNumber_6 rfl (Nat.le_of_ble_eq_true rfl) fun v1 h => ?_
  refine V_sub (ks := [2, 1, 0]) rfl (lv_X6_readNumber_7 hf hc1 FU _ _ h)
noncomputable def f_X3_takeNumber (W : Nat → Nat → Int32) (a1 : Int32) (a2 : Int32) : Option (Int32 × (Nat → Nat → Int32)) :=
  jn (fun (v2 : Int32) => if (W 15 1) = (2 : Int32) then if v2 < a1 then bdc (f_X3_fail W (2 : Int32)) (fun W7 => bdc (f_X6_advance W7) (fun W8 => some (v2, W8))) else if v2 ≤ a2 then bdc (f_X6_advance W) (fun W10 => some (v2, W10)) else bdc (f_X3_fail W (2 : Int32)) (fun W11 => bdc (f_X6_advance W11) (fun W12 => some (v2, W12))) else bdc (f_X3_fail W (1 : Int32)) (fun W13 => bdc (f_X6_advance W13) (fun W14 => some (v2, W14)))) (fun j1 => if (W 15 1) = (2 : Int32) then bdc (f_X6_readNumber W) (fun v4 => j1 v4) else j1 (-1 : Int32))
theorem e_X3_takeNumber {G : GT} {f0 : Nat} {b c : Nat} {M : MM} {hi k n : Nat} {W : Nat → Nat → Int32} {a1 : Int32} {a2 : Int32} {r : (Int32 × (Nat → Nat → Int32))} (hf0 : 4 ≤ f0) (hc1 : 609 ≤ c) (h : f_X3_takeNumber W a1 a2 = some r) : Ex G f0 mX3_takeNumber [.ref (b + 93), .int a1, .int a2] (MEM b c W M) hi k n (RH (.inl (some (.int r.1))) (MEM b c r.2 M) hi) := by
  obtain ⟨f, rfl, hf⟩ := suc_of hf0
  unfold f_X3_takeNumber at h
  refine ⟨Nat.le_of_ble_eq_true rfl, ?_⟩
  refine V_aload_n (i := 0) dX3_takeNumber_0 rfl rfl ?_
  refine V_getfield dX3_takeNumber_1 (mem_13 hc1) fl_X3_12 rfl ?_
  refine V_getfield dX3_takeNumber_4 (mem_15 hc1) fl_X3_42 rfl ?_
  refine V_iconst (v := 2) dX3_takeNumber_7 (by decide) ?_
  refine D_jn (fun (j : Int32 → Option (Int32 × (Nat → Nat → Int32))) => ∀ (v2 : Int32), j v2 = some r → V G f (Ex G f) mX3_takeNumber (RH (.inl (some (.int r.1))) (MEM b c r.2 M) hi) 22 [(0, .ref (b + 93)), (1, .int a1), (2, .int a2)] [.int v2] (MEM b c W M) hi k n) h (fun j1 hj1 h => ?_) ?_
  · refine D_icmp_ne (tgt := 21) h dX3_takeNumber_8 rfl (fun b3 h => ?_) (fun b3 h => ?_)
    · refine V_iconst (v := -1) dX3_takeNumber_21 (by decide) ?_
      exact V_sub (ks := [0, 1, 2]) rfl (hj1 _ h)
    · refine V_aload_n (i := 0) dX3_takeNumber_11 rfl rfl ?_
      refine V_getfield dX3_takeNumber_12 (mem_13 hc1) fl_X3_12 rfl ?_
      refine D_cVI (As := []) h dX3_takeNumber_15 cv_X3_176 rfl ⟨_, _, _, (mem_15 hc1), rfl, rfl⟩ rfl (Nat.le_of_ble_eq_true rfl) (fun x hx => e_X6_readNumber (Nat.le_trans (Nat.le_of_ble_eq_true rfl) hf) hc1 hx) fun v4 h => ?_
      refine V_goto (tgt := 22) dX3_takeNumber_18 rfl ?_
      exact V_sub (ks := [0, 1, 2]) rfl (hj1 _ h)
  · intro v2 h
    refine V_istore_n (i := 3) dX3_takeNumber_22 rfl (Nat.le_of_ble_eq_true rfl) ?_
    refine V_aload_n (i := 0) dX3_takeNumber_23 rfl rfl ?_
    refine V_getfield dX3_takeNumber_24 (mem_13 hc1) fl_X3_12 rfl ?_
    refine V_getfield dX3_takeNumber_27 (mem_15 hc1) fl_X3_42 rfl ?_
    refine V_iconst (v := 2) dX3_takeNumber_30 (by decide) ?_
    refine D_icmp_eq (tgt := 42) h dX3_takeNumber_31 rfl (fun b5 h => ?_) (fun b5 h => ?_)
    · refine V_iload_n (i := 3) dX3_takeNumber_42 rfl rfl ?_
      refine V_iload_n (i := 1) dX3_takeNumber_43 rfl rfl ?_
      refine D_icmp_lt (tgt := 52) h dX3_takeNumber_44 rfl (fun b6 h => ?_) (fun b6 h => ?_)
      · refine V_aload_n (i := 0) dX3_takeNumber_52 rfl rfl ?_
        refine V_iconst (v := 2) dX3_takeNumber_53 (by decide) ?_
        refine D_cVU (As := [_]) (μ := fun W7 => (MEM b c W7 M)) h dX3_takeNumber_54 cv_X3_95 rfl ⟨_, _, _, (mem_13 hc1), rfl, rfl⟩ rfl (Nat.le_of_ble_eq_true rfl) (fun y hx => e_X3_fail (Nat.le_trans (Nat.le_of_ble_eq_true rfl) hf) hc1 hx) fun W7 h => ?_
        refine V_aload_n (i := 0) dX3_takeNumber_57 rfl rfl ?_
        refine V_getfield dX3_takeNumber_58 (mem_13 hc1) fl_X3_12 rfl ?_
        refine D_cVU (As := []) (μ := fun W8 => (MEM b c W8 M)) h dX3_takeNumber_61 cv_X3_99 rfl ⟨_, _, _, (mem_15 hc1), rfl, rfl⟩ rfl (Nat.le_of_ble_eq_true rfl) (fun y hx => e_X6_advance (Nat.le_trans (Nat.le_of_ble_eq_true rfl) hf) hc1 hx) fun W8 h => ?_
        refine V_iload_n (i := 3) dX3_takeNumber_64 rfl rfl ?_
        obtain rfl := Option.some.inj h
        exact V_ireturn dX3_takeNumber_65 ⟨_, rfl, rfl⟩ ⟨rfl, rfl, rfl⟩
      · refine V_iload_n (i := 3) dX3_takeNumber_47 rfl rfl ?_
        refine V_iload_n (i := 2) dX3_takeNumber_48 rfl rfl ?_
        refine D_icmp_le (tgt := 57) h dX3_takeNumber_49 rfl (fun b9 h => ?_) (fun b9 h => ?_)
        · refine V_aload_n (i := 0) dX3_takeNumber_57 rfl rfl ?_
          refine V_getfield dX3_takeNumber_58 (mem_13 hc1) fl_X3_12 rfl ?_
          refine D_cVU (As := []) (μ := fun W10 => (MEM b c W10 M)) h dX3_takeNumber_61 cv_X3_99 rfl ⟨_, _, _, (mem_15 hc1), rfl, rfl⟩ rfl (Nat.le_of_ble_eq_true rfl) (fun y hx => e_X6_advance (Nat.le_trans (Nat.le_of_ble_eq_true rfl) hf) hc1 hx) fun W10 h => ?_
          refine V_iload_n (i := 3) dX3_takeNumber_64 rfl rfl ?_
          obtain rfl := Option.some.inj h
          exact V_ireturn dX3_takeNumber_65 ⟨_, rfl, rfl⟩ ⟨rfl, rfl, rfl⟩
        · refine V_aload_n (i := 0) dX3_takeNumber_52 rfl rfl ?_
          refine V_iconst (v := 2) dX3_takeNumber_53 (by decide) ?_
          refine D_cVU (As := [_]) (μ := fun W11 => (MEM b c W11 M)) h dX3_takeNumber_54 cv_X3_95 rfl ⟨_, _, _, (mem_13 hc1), rfl, rfl⟩ rfl (Nat.le_of_ble_eq_true rfl) (fun y hx => e_X3_fail (Nat.le_trans (Nat.le_of_ble_eq_true rfl) hf) hc1 hx) fun W11 h => ?_
          refine V_aload_n (i := 0) dX3_takeNumber_57 rfl rfl ?_
          refine V_getfield dX3_takeNumber_58 (mem_13 hc1) fl_X3_12 rfl ?_
          refine D_cVU (As := []) (μ := fun W12 => (MEM b c W12 M)) h dX3_takeNumber_61 cv_X3_99 rfl ⟨_, _, _, (mem_15 hc1), rfl, rfl⟩ rfl (Nat.le_of_ble_eq_true rfl) (fun y hx => e_X6_advance (Nat.le_trans (Nat.le_of_ble_eq_true rfl) hf) hc1 hx) fun W12 h => ?_
          refine V_iload_n (i := 3) dX3_takeNumber_64 rfl rfl ?_
          obtain rfl := Option.some.inj h
          exact V_ireturn dX3_takeNumber_65 ⟨_, rfl, rfl⟩ ⟨rfl, rfl, rfl⟩
    · refine V_aload_n (i := 0) dX3_takeNumber_34 rfl rfl ?_
      refine V_iconst (v := 1) dX3_takeNumber_35 (by decide) ?_
      refine D_cVU (As := [_]) (μ := fun W13 => (MEM b c W13 M)) h dX3_takeNumber_36 cv_X3_95 rfl ⟨_, _, _, (mem_13 hc1), rfl, rfl⟩ rfl (Nat.le_of_ble_eq_true rfl) (fun y hx => e_X3_fail (Nat.le_trans (Nat.le_of_ble_eq_true rfl) hf) hc1 hx) fun W13 h => ?_
      refine V_goto (tgt := 57) dX3_takeNumber_39 rfl ?_
      refine V_aload_n (i := 0) dX3_takeNumber_57 rfl rfl ?_
      refine V_getfield dX3_takeNumber_58 (mem_13 hc1) fl_X3_12 rfl ?_
      refine D_cVU (As := []) (μ := fun W14 => (MEM b c W14 M)) h dX3_takeNumber_61 cv_X3_99 rfl ⟨_, _, _, (mem_15 hc1), rfl, rfl⟩ rfl (Nat.le_of_ble_eq_true rfl) (fun y hx => e_X6_advance (Nat.le_trans (Nat.le_of_ble_eq_true rfl) hf) hc1 hx) fun W14 h => ?_
      refine V_iload_n (i := 3) dX3_takeNumber_64 rfl rfl ?_
      obtain rfl := Option.some.inj h
      exact V_ireturn dX3_takeNumber_65 ⟨_, rfl, rfl⟩ ⟨rfl, rfl, rfl⟩
noncomputable def l_X3_takeRoute_7  : Nat → (Nat → Nat → Int32) → Int32 → Option (Nat → Nat → Int32)
  | 0, _, _ => none
  | N + 1, W, x1 => if (6 : Int32) < x1 then some W else if (W 13 0) = 0 then jn (bd2 (f_X3_findNamedStation W) (fun v8 W7 => jn (fun (W10 : Nat → Nat → Int32) => if (6 : Int32) ≤ x1 then bdc (f_X3_fail W10 (6 : Int32)) (fun W16 => bdc (f_X6_advance W16) (fun W17 => l_X3_takeRoute_7 N W17 (x1 + (1 : Int32)))) else gd (inr x1 6) (bnd (w2 W10 14 (ix x1) v8) (fun W18 => bnd (w2 W18 13 7 (x1 + (1 : Int32))) (fun W19 => bdc (f_X6_advance W19) (fun W20 => l_X3_takeRoute_7 N W20 (x1 + (1 : Int32))))))) (fun j9 => if x1 ≤ 0 then j9 W7 else gd (inr (x1 - (1 : Int32)) 6) (bdc (f_X4_findTrack (W7 2) (W7 14 (ix (x1 - (1 : Int32)))) v8) (fun v12 => if v12 = (-1 : Int32) then bdc (f_X3_fail W7 (5 : Int32)) (fun W14 => j9 W14) else j9 W7))))) (fun j4 => if x1 < (2 : Int32) then j4 else if (W 15 1) = (3 : Int32) then some W else j4) else some W
theorem lv_X3_takeRoute_7 {G : GT} {f : Nat} {b c : Nat} {M : MM} {hi k n : Nat}  {r : (Nat → Nat → Int32)} (hf : 3 ≤ f) (hc1 : 609 ≤ c) : ∀ (N : Nat) (W : Nat → Nat → Int32) (x1 : Int32) , l_X3_takeRoute_7 N W x1 = some r → V G f (Ex G f) mX3_takeRoute (RH (.inl none) (MEM b c r M) hi) 7 [(0, .ref (b + 93)), (1, .int x1)] [] (MEM b c W M) hi k n := by
  intro N
  induction N with
  | zero => intro W x1 h; cases h
  | succ N ih =>
    intro W x1 h
    rw [l_X3_takeRoute_7] at h
    refine V_iload_n (i := 1) dX3_takeRoute_7 rfl rfl ?_
    refine V_bipush (v := 6) dX3_takeRoute_8 (by decide) ?_
    refine D_icmp_gt (tgt := 113) h dX3_takeRoute_10 rfl (fun b2 h => ?_) (fun b2 h => ?_)
    · obtain rfl := Option.some.inj h
      exact V_return dX3_takeRoute_113 rfl ⟨rfl, rfl, rfl⟩
    · refine V_aload_n (i := 0) dX3_takeRoute_13 rfl rfl ?_
      refine V_getfield dX3_takeRoute_14 (mem_13 hc1) fl_X3_36 rfl ?_
      refine D_if_ne (tgt := 113) h dX3_takeRoute_17 rfl (fun b3 h => ?_) (fun b3 h => ?_)
      · obtain rfl := Option.some.inj h
        exact V_return dX3_takeRoute_113 rfl ⟨rfl, rfl, rfl⟩
      · refine V_iload_n (i := 1) dX3_takeRoute_20 rfl rfl ?_
        refine V_iconst (v := 2) dX3_takeRoute_21 (by decide) ?_
        refine D_jn (fun (j : Option (Nat → Nat → Int32)) =>  j = some r → V G f (Ex G f) mX3_takeRoute (RH (.inl none) (MEM b c r M) hi) 37 [(0, .ref (b + 93)), (1, .int x1)] [] (MEM b c W M) hi k n) h (fun j4 hj4 h => ?_) ?_
        · refine D_icmp_lt (tgt := 37) h dX3_takeRoute_22 rfl (fun b5 h => ?_) (fun b5 h => ?_)
          · exact V_sub (ks := [0, 1]) rfl (hj4 h)
          · refine V_aload_n (i := 0) dX3_takeRoute_25 rfl rfl ?_
            refine V_getfield dX3_takeRoute_26 (mem_13 hc1) fl_X3_12 rfl ?_
            refine V_getfield dX3_takeRoute_29 (mem_15 hc1) fl_X3_42 rfl ?_
            refine V_iconst (v := 3) dX3_takeRoute_32 (by decide) ?_
            refine D_icmp_ne (tgt := 37) h dX3_takeRoute_33 rfl (fun b6 h => ?_) (fun b6 h => ?_)
            · exact V_sub (ks := [0, 1]) rfl (hj4 h)
            · obtain rfl := Option.some.inj h
              exact V_return dX3_takeRoute_36 rfl ⟨rfl, rfl, rfl⟩
        · intro  h
          refine V_aload_n (i := 0) dX3_takeRoute_37 rfl rfl ?_
          refine D_cVIW (As := []) (μ := fun W7 => (MEM b c W7 M)) h dX3_takeRoute_38 cv_X3_179 rfl ⟨_, _, _, (mem_13 hc1), rfl, rfl⟩ rfl (Nat.le_of_ble_eq_true rfl) (fun x y hx => e_X3_findNamedStation (Nat.le_trans (Nat.le_of_ble_eq_true rfl) hf) hc1 hx) fun v8 W7 h => ?_
          refine V_istore_n (i := 2) dX3_takeRoute_41 rfl (Nat.le_of_ble_eq_true rfl) ?_
          refine V_iload_n (i := 1) dX3_takeRoute_42 rfl rfl ?_
          refine D_jn (fun (j : (Nat → Nat → Int32) → Option (Nat → Nat → Int32)) => ∀ (W10 : Nat → Nat → Int32), j W10 = some r → V G f (Ex G f) mX3_takeRoute (RH (.inl none) (MEM b c r M) hi) 71 [(0, .ref (b + 93)), (1, .int x1), (2, .int v8)] [] (MEM b c W10 M) hi k n) h (fun j9 hj9 h => ?_) ?_
          · refine D_if_le (tgt := 71) h dX3_takeRoute_43 rfl (fun b11 h => ?_) (fun b11 h => ?_)
            · exact V_sub (ks := [1, 2, 0]) rfl (hj9 _ h)
            · refine V_aload_n (i := 0) dX3_takeRoute_46 rfl rfl ?_
              refine V_getfield dX3_takeRoute_47 (mem_13 hc1) fl_X3_21 rfl ?_
              refine V_aload_n (i := 0) dX3_takeRoute_50 rfl rfl ?_
              refine V_getfield dX3_takeRoute_51 (mem_13 hc1) fl_X3_29 rfl ?_
              refine V_iload_n (i := 1) dX3_takeRoute_54 rfl rfl ?_
              refine V_iconst (v := 1) dX3_takeRoute_55 (by decide) ?_
              refine V_isub dX3_takeRoute_56 ?_
              refine D3_ild h (mem_14 hc1) dX3_takeRoute_57 fun h => ?_
              refine V_iload_n (i := 2) dX3_takeRoute_58 rfl rfl ?_
              refine D_cVI (As := [_, _]) h dX3_takeRoute_59 cv_X3_124 rfl ⟨_, _, _, (mst_o (u := 2) hc1 (by decide) rfl), rfl, rfl⟩ rfl (Nat.le_of_ble_eq_true rfl) (fun x hx => lift0 (u := 2) hc1 (by decide) rfl (e_X4_findTrack (Nat.le_trans (Nat.le_of_ble_eq_true rfl) hf) hx)) fun v12 h => ?_
              refine V_iconst (v := -1) dX3_takeRoute_62 (by decide) ?_
              refine D_icmp_ne (tgt := 71) h dX3_takeRoute_63 rfl (fun b13 h => ?_) (fun b13 h => ?_)
              · exact V_sub (ks := [1, 2, 0]) rfl (hj9 _ h)
              · refine V_aload_n (i := 0) dX3_takeRoute_66 rfl rfl ?_
                refine V_iconst (v := 5) dX3_takeRoute_67 (by decide) ?_
                refine D_cVU (As := [_]) (μ := fun W14 => (MEM b c W14 M)) h dX3_takeRoute_68 cv_X3_95 rfl ⟨_, _, _, (mem_13 hc1), rfl, rfl⟩ rfl (Nat.le_of_ble_eq_true rfl) (fun y hx => e_X3_fail (Nat.le_trans (Nat.le_of_ble_eq_true rfl) hf) hc1 hx) fun W14 h => ?_
                exact V_sub (ks := [1, 2, 0]) rfl (hj9 _ h)
          · intro W10 h
            refine V_iload_n (i := 1) dX3_takeRoute_71 rfl rfl ?_
            refine V_bipush (v := 6) dX3_takeRoute_72 (by decide) ?_
            refine D_icmp_ge (tgt := 94) h dX3_takeRoute_74 rfl (fun b15 h => ?_) (fun b15 h => ?_)
            · refine V_aload_n (i := 0) dX3_takeRoute_94 rfl rfl ?_
              refine V_bipush (v := 6) dX3_takeRoute_95 (by decide) ?_
              refine D_cVU (As := [_]) (μ := fun W16 => (MEM b c W16 M)) h dX3_takeRoute_97 cv_X3_95 rfl ⟨_, _, _, (mem_13 hc1), rfl, rfl⟩ rfl (Nat.le_of_ble_eq_true rfl) (fun y hx => e_X3_fail (Nat.le_trans (Nat.le_of_ble_eq_true rfl) hf) hc1 hx) fun W16 h => ?_
              refine V_aload_n (i := 0) dX3_takeRoute_100 rfl rfl ?_
              refine V_getfield dX3_takeRoute_101 (mem_13 hc1) fl_X3_12 rfl ?_
              refine D_cVU (As := []) (μ := fun W17 => (MEM b c W17 M)) h dX3_takeRoute_104 cv_X3_99 rfl ⟨_, _, _, (mem_15 hc1), rfl, rfl⟩ rfl (Nat.le_of_ble_eq_true rfl) (fun y hx => e_X6_advance (Nat.le_trans (Nat.le_of_ble_eq_true rfl) hf) hc1 hx) fun W17 h => ?_
              refine D_iinc (i := 1) (w := 1) dX3_takeRoute_107 rfl (by decide) (Nat.le_of_ble_eq_true rfl) ?_
              refine V_goto (tgt := 7) dX3_takeRoute_110 rfl ?_
              exact V_sub (ks := [1, 0]) rfl (ih _ _ h)
            · refine V_aload_n (i := 0) dX3_takeRoute_77 rfl rfl ?_
              refine V_getfield dX3_takeRoute_78 (mem_13 hc1) fl_X3_29 rfl ?_
              refine V_iload_n (i := 1) dX3_takeRoute_81 rfl rfl ?_
              refine V_iload_n (i := 2) dX3_takeRoute_82 rfl rfl ?_
              refine D3_ist (u := 14) h (mem_14 hc1) (pst_14 hc1) dX3_takeRoute_83 fun W18 h => ?_
              refine V_aload_n (i := 0) dX3_takeRoute_84 rfl rfl ?_
              refine V_iload_n (i := 1) dX3_takeRoute_85 rfl rfl ?_
              refine V_iconst (v := 1) dX3_takeRoute_86 (by decide) ?_
              refine V_iadd dX3_takeRoute_87 ?_
              refine D3_put h dX3_takeRoute_88 (mem_13 hc1) (fp_X3_110 rfl) (Nat.le_of_ble_eq_true rfl) (psc_13_7 hc1) fun W19 h => ?_
              refine V_goto (tgt := 100) dX3_takeRoute_91 rfl ?_
              refine V_aload_n (i := 0) dX3_takeRoute_100 rfl rfl ?_
              refine V_getfield dX3_takeRoute_101 (mem_13 hc1) fl_X3_12 rfl ?_
              refine D_cVU (As := []) (μ := fun W20 => (MEM b c W20 M)) h dX3_takeRoute_104 cv_X3_99 rfl ⟨_, _, _, (mem_15 hc1), rfl, rfl⟩ rfl (Nat.le_of_ble_eq_true rfl) (fun y hx => e_X6_advance (Nat.le_trans (Nat.le_of_ble_eq_true rfl) hf) hc1 hx) fun W20 h => ?_
              refine D_iinc (i := 1) (w := 1) dX3_takeRoute_107 rfl (by decide) (Nat.le_of_ble_eq_true rfl) ?_
              refine V_goto (tgt := 7) dX3_takeRoute_110 rfl ?_
              exact V_sub (ks := [1, 0]) rfl (ih _ _ h)
noncomputable def f_X3_takeRoute (W : Nat → Nat → Int32) : Option (Nat → Nat → Int32) :=
  bnd (w2 W 13 7 (0 : Int32)) (fun W1 => l_X3_takeRoute_7 FU W1 (0 : Int32))
theorem e_X3_takeRoute {G : GT} {f0 : Nat} {b c : Nat} {M : MM} {hi k n : Nat} {W : Nat → Nat → Int32} {r : (Nat → Nat → Int32)} (hf0 : 4 ≤ f0) (hc1 : 609 ≤ c) (h : f_X3_takeRoute W = some r) : Ex G f0 mX3_takeRoute [.ref (b + 93)] (MEM b c W M) hi k n (RH (.inl none) (MEM b c r M) hi) := by
  obtain ⟨f, rfl, hf⟩ := suc_of hf0
  unfold f_X3_takeRoute at h
  refine ⟨Nat.le_of_ble_eq_true rfl, ?_⟩
  refine V_aload_n (i := 0) dX3_takeRoute_0 rfl rfl ?_
  refine V_iconst (v := 0) dX3_takeRoute_1 (by decide) ?_
  refine D3_put h dX3_takeRoute_2 (mem_13 hc1) (fp_X3_110 rfl) (Nat.le_of_ble_eq_true rfl) (psc_13_7 hc1) fun W1 h => ?_
  refine V_iconst (v := 0) dX3_takeRoute_5 (by decide) ?_
  refine V_istore_n (i := 1) dX3_takeRoute_6 rfl (Nat.le_of_ble_eq_true rfl) ?_
  refine V_sub (ks := [1, 0]) rfl (lv_X3_takeRoute_7 hf hc1 FU _ _ h)
noncomputable def f_X3_readStatement (W : Nat → Nat → Int32) : Option (Nat → Nat → Int32) :=
  bd2 (f_X3_takeKeyword W) (fun v2 W1 => bnd (w2 W1 13 2 v2) (fun W3 => jn (fun (W5 : Nat → Nat → Int32) => if (W5 15 1) = (3 : Int32) then bdc (f_X6_advance W5) (fun W58 => some W58) else bdc (f_X3_fail W5 (1 : Int32)) (fun W59 => bdc (f_X6_advance W59) (fun W60 => some W60))) (fun j4 => if (W3 13 2) = (1 : Int32) then bd2 (f_X3_takeNewName W3) (fun v8 W7 => bnd (w2 W7 13 3 v8) (fun W9 => j4 W9)) else if (W3 13 2) = (2 : Int32) then bd2 (f_X3_takeNewName W3) (fun v12 W11 => bnd (w2 W11 13 3 v12) (fun W13 => j4 W13)) else if (W3 13 2) = (3 : Int32) then bd2 (f_X3_takeStation W3) (fun v16 W15 => bnd (w2 W15 13 4 v16) (fun W17 => bd2 (f_X3_takeSecondStation W17) (fun v19 W18 => bnd (w2 W18 13 5 v19) (fun W20 => bd2 (f_X3_takeNumber W20 (1 : Int32) (9 : Int32)) (fun v22 W21 => bnd (w2 W21 13 6 v22) (fun W23 => j4 W23)))))) else if (W3 13 2) = (4 : Int32) then bd2 (f_X3_takeNumber W3 (1 : Int32) (4 : Int32)) (fun v26 W25 => bnd (w2 W25 13 6 v26) (fun W27 => bdc (f_X3_takeRoute W27) (fun W28 => j4 W28))) else if (W3 13 2) = (5 : Int32) then bd2 (f_X3_takeStation W3) (fun v31 W30 => bnd (w2 W30 13 4 v31) (fun W32 => bd2 (f_X3_takeSecondStation W32) (fun v34 W33 => bnd (w2 W33 13 5 v34) (fun W35 => bd2 (f_X3_takeNumber W35 (1 : Int32) (9 : Int32)) (fun v37 W36 => bnd (w2 W36 13 6 v37) (fun W38 => j4 W38)))))) else if (W3 13 2) = (6 : Int32) then bd2 (f_X3_takeStation W3) (fun v41 W40 => bnd (w2 W40 13 4 v41) (fun W42 => bd2 (f_X3_takeNumber W42 (0 : Int32) (9 : Int32)) (fun v44 W43 => bnd (w2 W43 13 6 v44) (fun W45 => j4 W45)))) else if (W3 13 2) = (7 : Int32) then bd2 (f_X3_takeStation W3) (fun v48 W47 => bnd (w2 W47 13 4 v48) (fun W49 => bd2 (f_X3_takeSecondStation W49) (fun v51 W50 => bnd (w2 W50 13 5 v51) (fun W52 => j4 W52)))) else if (W3 13 2) = (8 : Int32) then bd2 (f_X3_takeNumber W3 (0 : Int32) (60 : Int32)) (fun v55 W54 => bnd (w2 W54 13 6 v55) (fun W56 => j4 W56)) else gd (tso (W3 13 2) 1 8) (j4 W3))))
theorem e_X3_readStatement {G : GT} {f0 : Nat} {b c : Nat} {M : MM} {hi k n : Nat} {W : Nat → Nat → Int32} {r : (Nat → Nat → Int32)} (hf0 : 8 ≤ f0) (hc1 : 609 ≤ c) (h : f_X3_readStatement W = some r) : Ex G f0 mX3_readStatement [.ref (b + 93)] (MEM b c W M) hi k n (RH (.inl none) (MEM b c r M) hi) := by
  obtain ⟨f, rfl, hf⟩ := suc_of hf0
  unfold f_X3_readStatement at h
  refine ⟨Nat.le_of_ble_eq_true rfl, ?_⟩
  refine V_aload_n (i := 0) dX3_readStatement_0 rfl rfl ?_
  refine V_aload_n (i := 0) dX3_readStatement_1 rfl rfl ?_
  refine D_cVIW (As := []) (μ := fun W1 => (MEM b c W1 M)) h dX3_readStatement_2 cv_X3_61 rfl ⟨_, _, _, (mem_13 hc1), rfl, rfl⟩ rfl (Nat.le_of_ble_eq_true rfl) (fun x y hx => e_X3_takeKeyword (Nat.le_trans (Nat.le_of_ble_eq_true rfl) hf) hc1 hx) fun v2 W1 h => ?_
  refine D3_put h dX3_readStatement_5 (mem_13 hc1) (fp_X3_64 rfl) (Nat.le_of_ble_eq_true rfl) (psc_13_2 hc1) fun W3 h => ?_
  refine V_aload_n (i := 0) dX3_readStatement_8 rfl rfl ?_
  refine V_getfield dX3_readStatement_9 (mem_13 hc1) fl_X3_64 rfl ?_
  refine D_jn (fun (j : (Nat → Nat → Int32) → Option (Nat → Nat → Int32)) => ∀ (W5 : Nat → Nat → Int32), j W5 = some r → V G f (Ex G f) mX3_readStatement (RH (.inl none) (MEM b c r M) hi) 203 [(0, .ref (b + 93))] [] (MEM b c W5 M) hi k n) h (fun j4 hj4 h => ?_) ?_
  · refine D_ite h (fun b6 h => ?_) (fun b6 h => ?_)
    · refine V_tsIn (c := 1) (off := 48) (tgt := 60) b6 dX3_readStatement_12 (by decide) (by decide) (by decide) rfl ?_
      refine V_aload_n (i := 0) dX3_readStatement_60 rfl rfl ?_
      refine V_aload_n (i := 0) dX3_readStatement_61 rfl rfl ?_
      refine D_cVIW (As := []) (μ := fun W7 => (MEM b c W7 M)) h dX3_readStatement_62 cv_X3_67 rfl ⟨_, _, _, (mem_13 hc1), rfl, rfl⟩ rfl (Nat.le_of_ble_eq_true rfl) (fun x y hx => e_X3_takeNewName (Nat.le_trans (Nat.le_of_ble_eq_true rfl) hf) hc1 hx) fun v8 W7 h => ?_
      refine D3_put h dX3_readStatement_65 (mem_13 hc1) (fp_X3_70 rfl) (Nat.le_of_ble_eq_true rfl) (psc_13_3 hc1) fun W9 h => ?_
      refine V_goto (tgt := 203) dX3_readStatement_68 rfl ?_
      exact V_sub (ks := [0]) rfl (hj4 _ h)
    refine D_ite h (fun b10 h => ?_) (fun b10 h => ?_)
    · refine V_tsIn (c := 2) (off := 48) (tgt := 60) b10 dX3_readStatement_12 (by decide) (by decide) (by decide) rfl ?_
      refine V_aload_n (i := 0) dX3_readStatement_60 rfl rfl ?_
      refine V_aload_n (i := 0) dX3_readStatement_61 rfl rfl ?_
      refine D_cVIW (As := []) (μ := fun W11 => (MEM b c W11 M)) h dX3_readStatement_62 cv_X3_67 rfl ⟨_, _, _, (mem_13 hc1), rfl, rfl⟩ rfl (Nat.le_of_ble_eq_true rfl) (fun x y hx => e_X3_takeNewName (Nat.le_trans (Nat.le_of_ble_eq_true rfl) hf) hc1 hx) fun v12 W11 h => ?_
      refine D3_put h dX3_readStatement_65 (mem_13 hc1) (fp_X3_70 rfl) (Nat.le_of_ble_eq_true rfl) (psc_13_3 hc1) fun W13 h => ?_
      refine V_goto (tgt := 203) dX3_readStatement_68 rfl ?_
      exact V_sub (ks := [0]) rfl (hj4 _ h)
    refine D_ite h (fun b14 h => ?_) (fun b14 h => ?_)
    · refine V_tsIn (c := 3) (off := 59) (tgt := 71) b14 dX3_readStatement_12 (by decide) (by decide) (by decide) rfl ?_
      refine V_aload_n (i := 0) dX3_readStatement_71 rfl rfl ?_
      refine V_aload_n (i := 0) dX3_readStatement_72 rfl rfl ?_
      refine D_cVIW (As := []) (μ := fun W15 => (MEM b c W15 M)) h dX3_readStatement_73 cv_X3_73 rfl ⟨_, _, _, (mem_13 hc1), rfl, rfl⟩ rfl (Nat.le_of_ble_eq_true rfl) (fun x y hx => e_X3_takeStation (Nat.le_trans (Nat.le_of_ble_eq_true rfl) hf) hc1 hx) fun v16 W15 h => ?_
      refine D3_put h dX3_readStatement_76 (mem_13 hc1) (fp_X3_76 rfl) (Nat.le_of_ble_eq_true rfl) (psc_13_4 hc1) fun W17 h => ?_
      refine V_aload_n (i := 0) dX3_readStatement_79 rfl rfl ?_
      refine V_aload_n (i := 0) dX3_readStatement_80 rfl rfl ?_
      refine D_cVIW (As := []) (μ := fun W18 => (MEM b c W18 M)) h dX3_readStatement_81 cv_X3_79 rfl ⟨_, _, _, (mem_13 hc1), rfl, rfl⟩ rfl (Nat.le_of_ble_eq_true rfl) (fun x y hx => e_X3_takeSecondStation (Nat.le_trans (Nat.le_of_ble_eq_true rfl) hf) hc1 hx) fun v19 W18 h => ?_
      refine D3_put h dX3_readStatement_84 (mem_13 hc1) (fp_X3_82 rfl) (Nat.le_of_ble_eq_true rfl) (psc_13_5 hc1) fun W20 h => ?_
      refine V_aload_n (i := 0) dX3_readStatement_87 rfl rfl ?_
      refine V_aload_n (i := 0) dX3_readStatement_88 rfl rfl ?_
      refine V_iconst (v := 1) dX3_readStatement_89 (by decide) ?_
      refine V_bipush (v := 9) dX3_readStatement_90 (by decide) ?_
      refine D_cVIW (As := [_, _]) (μ := fun W21 => (MEM b c W21 M)) h dX3_readStatement_92 cv_X3_85 rfl ⟨_, _, _, (mem_13 hc1), rfl, rfl⟩ rfl (Nat.le_of_ble_eq_true rfl) (fun x y hx => e_X3_takeNumber (Nat.le_trans (Nat.le_of_ble_eq_true rfl) hf) hc1 hx) fun v22 W21 h => ?_
      refine D3_put h dX3_readStatement_95 (mem_13 hc1) (fp_X3_89 rfl) (Nat.le_of_ble_eq_true rfl) (psc_13_6 hc1) fun W23 h => ?_
      refine V_goto (tgt := 203) dX3_readStatement_98 rfl ?_
      exact V_sub (ks := [0]) rfl (hj4 _ h)
    refine D_ite h (fun b24 h => ?_) (fun b24 h => ?_)
    · refine V_tsIn (c := 4) (off := 89) (tgt := 101) b24 dX3_readStatement_12 (by decide) (by decide) (by decide) rfl ?_
      refine V_aload_n (i := 0) dX3_readStatement_101 rfl rfl ?_
      refine V_aload_n (i := 0) dX3_readStatement_102 rfl rfl ?_
      refine V_iconst (v := 1) dX3_readStatement_103 (by decide) ?_
      refine V_iconst (v := 4) dX3_readStatement_104 (by decide) ?_
      refine D_cVIW (As := [_, _]) (μ := fun W25 => (MEM b c W25 M)) h dX3_readStatement_105 cv_X3_85 rfl ⟨_, _, _, (mem_13 hc1), rfl, rfl⟩ rfl (Nat.le_of_ble_eq_true rfl) (fun x y hx => e_X3_takeNumber (Nat.le_trans (Nat.le_of_ble_eq_true rfl) hf) hc1 hx) fun v26 W25 h => ?_
      refine D3_put h dX3_readStatement_108 (mem_13 hc1) (fp_X3_89 rfl) (Nat.le_of_ble_eq_true rfl) (psc_13_6 hc1) fun W27 h => ?_
      refine V_aload_n (i := 0) dX3_readStatement_111 rfl rfl ?_
      refine D_cVU (As := []) (μ := fun W28 => (MEM b c W28 M)) h dX3_readStatement_112 cv_X3_92 rfl ⟨_, _, _, (mem_13 hc1), rfl, rfl⟩ rfl (Nat.le_of_ble_eq_true rfl) (fun y hx => e_X3_takeRoute (Nat.le_trans (Nat.le_of_ble_eq_true rfl) hf) hc1 hx) fun W28 h => ?_
      refine V_goto (tgt := 203) dX3_readStatement_115 rfl ?_
      exact V_sub (ks := [0]) rfl (hj4 _ h)
    refine D_ite h (fun b29 h => ?_) (fun b29 h => ?_)
    · refine V_tsIn (c := 5) (off := 106) (tgt := 118) b29 dX3_readStatement_12 (by decide) (by decide) (by decide) rfl ?_
      refine V_aload_n (i := 0) dX3_readStatement_118 rfl rfl ?_
      refine V_aload_n (i := 0) dX3_readStatement_119 rfl rfl ?_
      refine D_cVIW (As := []) (μ := fun W30 => (MEM b c W30 M)) h dX3_readStatement_120 cv_X3_73 rfl ⟨_, _, _, (mem_13 hc1), rfl, rfl⟩ rfl (Nat.le_of_ble_eq_true rfl) (fun x y hx => e_X3_takeStation (Nat.le_trans (Nat.le_of_ble_eq_true rfl) hf) hc1 hx) fun v31 W30 h => ?_
      refine D3_put h dX3_readStatement_123 (mem_13 hc1) (fp_X3_76 rfl) (Nat.le_of_ble_eq_true rfl) (psc_13_4 hc1) fun W32 h => ?_
      refine V_aload_n (i := 0) dX3_readStatement_126 rfl rfl ?_
      refine V_aload_n (i := 0) dX3_readStatement_127 rfl rfl ?_
      refine D_cVIW (As := []) (μ := fun W33 => (MEM b c W33 M)) h dX3_readStatement_128 cv_X3_79 rfl ⟨_, _, _, (mem_13 hc1), rfl, rfl⟩ rfl (Nat.le_of_ble_eq_true rfl) (fun x y hx => e_X3_takeSecondStation (Nat.le_trans (Nat.le_of_ble_eq_true rfl) hf) hc1 hx) fun v34 W33 h => ?_
      refine D3_put h dX3_readStatement_131 (mem_13 hc1) (fp_X3_82 rfl) (Nat.le_of_ble_eq_true rfl) (psc_13_5 hc1) fun W35 h => ?_
      refine V_aload_n (i := 0) dX3_readStatement_134 rfl rfl ?_
      refine V_aload_n (i := 0) dX3_readStatement_135 rfl rfl ?_
      refine V_iconst (v := 1) dX3_readStatement_136 (by decide) ?_
      refine V_bipush (v := 9) dX3_readStatement_137 (by decide) ?_
      refine D_cVIW (As := [_, _]) (μ := fun W36 => (MEM b c W36 M)) h dX3_readStatement_139 cv_X3_85 rfl ⟨_, _, _, (mem_13 hc1), rfl, rfl⟩ rfl (Nat.le_of_ble_eq_true rfl) (fun x y hx => e_X3_takeNumber (Nat.le_trans (Nat.le_of_ble_eq_true rfl) hf) hc1 hx) fun v37 W36 h => ?_
      refine D3_put h dX3_readStatement_142 (mem_13 hc1) (fp_X3_89 rfl) (Nat.le_of_ble_eq_true rfl) (psc_13_6 hc1) fun W38 h => ?_
      refine V_goto (tgt := 203) dX3_readStatement_145 rfl ?_
      exact V_sub (ks := [0]) rfl (hj4 _ h)
    refine D_ite h (fun b39 h => ?_) (fun b39 h => ?_)
    · refine V_tsIn (c := 6) (off := 136) (tgt := 148) b39 dX3_readStatement_12 (by decide) (by decide) (by decide) rfl ?_
      refine V_aload_n (i := 0) dX3_readStatement_148 rfl rfl ?_
      refine V_aload_n (i := 0) dX3_readStatement_149 rfl rfl ?_
      refine D_cVIW (As := []) (μ := fun W40 => (MEM b c W40 M)) h dX3_readStatement_150 cv_X3_73 rfl ⟨_, _, _, (mem_13 hc1), rfl, rfl⟩ rfl (Nat.le_of_ble_eq_true rfl) (fun x y hx => e_X3_takeStation (Nat.le_trans (Nat.le_of_ble_eq_true rfl) hf) hc1 hx) fun v41 W40 h => ?_
      refine D3_put h dX3_readStatement_153 (mem_13 hc1) (fp_X3_76 rfl) (Nat.le_of_ble_eq_true rfl) (psc_13_4 hc1) fun W42 h => ?_
      refine V_aload_n (i := 0) dX3_readStatement_156 rfl rfl ?_
      refine V_aload_n (i := 0) dX3_readStatement_157 rfl rfl ?_
      refine V_iconst (v := 0) dX3_readStatement_158 (by decide) ?_
      refine V_bipush (v := 9) dX3_readStatement_159 (by decide) ?_
      refine D_cVIW (As := [_, _]) (μ := fun W43 => (MEM b c W43 M)) h dX3_readStatement_161 cv_X3_85 rfl ⟨_, _, _, (mem_13 hc1), rfl, rfl⟩ rfl (Nat.le_of_ble_eq_true rfl) (fun x y hx => e_X3_takeNumber (Nat.le_trans (Nat.le_of_ble_eq_true rfl) hf) hc1 hx) fun v44 W43 h => ?_
      refine D3_put h dX3_readStatement_164 (mem_13 hc1) (fp_X3_89 rfl) (Nat.le_of_ble_eq_true rfl) (psc_13_6 hc1) fun W45 h => ?_
      refine V_goto (tgt := 203) dX3_readStatement_167 rfl ?_
      exact V_sub (ks := [0]) rfl (hj4 _ h)
    refine D_ite h (fun b46 h => ?_) (fun b46 h => ?_)
    · refine V_tsIn (c := 7) (off := 158) (tgt := 170) b46 dX3_readStatement_12 (by decide) (by decide) (by decide) rfl ?_
      refine V_aload_n (i := 0) dX3_readStatement_170 rfl rfl ?_
      refine V_aload_n (i := 0) dX3_readStatement_171 rfl rfl ?_
      refine D_cVIW (As := []) (μ := fun W47 => (MEM b c W47 M)) h dX3_readStatement_172 cv_X3_73 rfl ⟨_, _, _, (mem_13 hc1), rfl, rfl⟩ rfl (Nat.le_of_ble_eq_true rfl) (fun x y hx => e_X3_takeStation (Nat.le_trans (Nat.le_of_ble_eq_true rfl) hf) hc1 hx) fun v48 W47 h => ?_
      refine D3_put h dX3_readStatement_175 (mem_13 hc1) (fp_X3_76 rfl) (Nat.le_of_ble_eq_true rfl) (psc_13_4 hc1) fun W49 h => ?_
      refine V_aload_n (i := 0) dX3_readStatement_178 rfl rfl ?_
      refine V_aload_n (i := 0) dX3_readStatement_179 rfl rfl ?_
      refine D_cVIW (As := []) (μ := fun W50 => (MEM b c W50 M)) h dX3_readStatement_180 cv_X3_79 rfl ⟨_, _, _, (mem_13 hc1), rfl, rfl⟩ rfl (Nat.le_of_ble_eq_true rfl) (fun x y hx => e_X3_takeSecondStation (Nat.le_trans (Nat.le_of_ble_eq_true rfl) hf) hc1 hx) fun v51 W50 h => ?_
      refine D3_put h dX3_readStatement_183 (mem_13 hc1) (fp_X3_82 rfl) (Nat.le_of_ble_eq_true rfl) (psc_13_5 hc1) fun W52 h => ?_
      refine V_goto (tgt := 203) dX3_readStatement_186 rfl ?_
      exact V_sub (ks := [0]) rfl (hj4 _ h)
    refine D_ite h (fun b53 h => ?_) (fun b53 h => ?_)
    · refine V_tsIn (c := 8) (off := 177) (tgt := 189) b53 dX3_readStatement_12 (by decide) (by decide) (by decide) rfl ?_
      refine V_aload_n (i := 0) dX3_readStatement_189 rfl rfl ?_
      refine V_aload_n (i := 0) dX3_readStatement_190 rfl rfl ?_
      refine V_iconst (v := 0) dX3_readStatement_191 (by decide) ?_
      refine V_bipush (v := 60) dX3_readStatement_192 (by decide) ?_
      refine D_cVIW (As := [_, _]) (μ := fun W54 => (MEM b c W54 M)) h dX3_readStatement_194 cv_X3_85 rfl ⟨_, _, _, (mem_13 hc1), rfl, rfl⟩ rfl (Nat.le_of_ble_eq_true rfl) (fun x y hx => e_X3_takeNumber (Nat.le_trans (Nat.le_of_ble_eq_true rfl) hf) hc1 hx) fun v55 W54 h => ?_
      refine D3_put h dX3_readStatement_197 (mem_13 hc1) (fp_X3_89 rfl) (Nat.le_of_ble_eq_true rfl) (psc_13_6 hc1) fun W56 h => ?_
      refine V_goto (tgt := 203) dX3_readStatement_200 rfl ?_
      exact V_sub (ks := [0]) rfl (hj4 _ h)
    refine V_tsOut (tgt := 203) h dX3_readStatement_12 rfl fun h => ?_
    exact V_sub (ks := [0]) rfl (hj4 _ h)
  · intro W5 h
    refine V_aload_n (i := 0) dX3_readStatement_203 rfl rfl ?_
    refine V_getfield dX3_readStatement_204 (mem_13 hc1) fl_X3_12 rfl ?_
    refine V_getfield dX3_readStatement_207 (mem_15 hc1) fl_X3_42 rfl ?_
    refine V_iconst (v := 3) dX3_readStatement_210 (by decide) ?_
    refine D_icmp_eq (tgt := 219) h dX3_readStatement_211 rfl (fun b57 h => ?_) (fun b57 h => ?_)
    · refine V_aload_n (i := 0) dX3_readStatement_219 rfl rfl ?_
      refine V_getfield dX3_readStatement_220 (mem_13 hc1) fl_X3_12 rfl ?_
      refine D_cVU (As := []) (μ := fun W58 => (MEM b c W58 M)) h dX3_readStatement_223 cv_X3_99 rfl ⟨_, _, _, (mem_15 hc1), rfl, rfl⟩ rfl (Nat.le_of_ble_eq_true rfl) (fun y hx => e_X6_advance (Nat.le_trans (Nat.le_of_ble_eq_true rfl) hf) hc1 hx) fun W58 h => ?_
      obtain rfl := Option.some.inj h
      exact V_return dX3_readStatement_226 rfl ⟨rfl, rfl, rfl⟩
    · refine V_aload_n (i := 0) dX3_readStatement_214 rfl rfl ?_
      refine V_iconst (v := 1) dX3_readStatement_215 (by decide) ?_
      refine D_cVU (As := [_]) (μ := fun W59 => (MEM b c W59 M)) h dX3_readStatement_216 cv_X3_95 rfl ⟨_, _, _, (mem_13 hc1), rfl, rfl⟩ rfl (Nat.le_of_ble_eq_true rfl) (fun y hx => e_X3_fail (Nat.le_trans (Nat.le_of_ble_eq_true rfl) hf) hc1 hx) fun W59 h => ?_
      refine V_aload_n (i := 0) dX3_readStatement_219 rfl rfl ?_
      refine V_getfield dX3_readStatement_220 (mem_13 hc1) fl_X3_12 rfl ?_
      refine D_cVU (As := []) (μ := fun W60 => (MEM b c W60 M)) h dX3_readStatement_223 cv_X3_99 rfl ⟨_, _, _, (mem_15 hc1), rfl, rfl⟩ rfl (Nat.le_of_ble_eq_true rfl) (fun y hx => e_X6_advance (Nat.le_trans (Nat.le_of_ble_eq_true rfl) hf) hc1 hx) fun W60 h => ?_
      obtain rfl := Option.some.inj h
      exact V_return dX3_readStatement_226 rfl ⟨rfl, rfl, rfl⟩
noncomputable def l_X3_parse_72 (c1 : Int32) (c2 : Int32) (K90 : (Nat → Nat → Int32) → Option (Nat → Nat → Int32)) : Nat → (Nat → Nat → Int32) → Int32 → Option (Nat → Nat → Int32)
  | 0, _, _ => none
  | N + 1, W, x3 => if c2 ≤ x3 then K90 W else bdc (f_X4_passMinute (W 2)) (fun S21 => bnd (setU W 2 S21) (fun W20 => l_X3_parse_72 c1 c2 K90 N W20 (x3 + (1 : Int32))))
theorem lv_X3_parse_72 {G : GT} {f : Nat} {b c : Nat} {M : MM} {hi k n : Nat} {c1 : Int32} {c2 : Int32} {K90 : (Nat → Nat → Int32) → Option (Nat → Nat → Int32)} {r : (Nat → Nat → Int32)} (hf : 8 ≤ f) (hc1 : 609 ≤ c) (hK90 : ∀ (Wk : Nat → Nat → Int32), K90 Wk = some r → V G f (Ex G f) mX3_parse (RH (.inl none) (MEM b c r M) hi) 90 [(0, .ref (b + 93)), (1, .int c1)] [] (MEM b c Wk M) hi k n) : ∀ (N : Nat) (W : Nat → Nat → Int32) (x3 : Int32) , l_X3_parse_72 c1 c2 K90 N W x3 = some r → V G f (Ex G f) mX3_parse (RH (.inl none) (MEM b c r M) hi) 72 [(0, .ref (b + 93)), (1, .int c1), (2, .int c2), (3, .int x3)] [] (MEM b c W M) hi k n := by
  intro N
  induction N with
  | zero => intro W x3 h; cases h
  | succ N ih =>
    intro W x3 h
    rw [l_X3_parse_72] at h
    refine V_iload_n (i := 3) dX3_parse_72 rfl rfl ?_
    refine V_iload_n (i := 2) dX3_parse_73 rfl rfl ?_
    refine D_icmp_ge (tgt := 90) h dX3_parse_74 rfl (fun b19 h => ?_) (fun b19 h => ?_)
    · exact V_sub (ks := [0, 1]) rfl (hK90 _ h)
    · refine V_aload_n (i := 0) dX3_parse_77 rfl rfl ?_
      refine V_getfield dX3_parse_78 (mem_13 hc1) fl_X3_21 rfl ?_
      refine D_cVU (As := []) (μ := fun S21 => (MEM b c (setU W 2 S21) M)) h dX3_parse_81 cv_X3_52 rfl ⟨_, _, _, (mst_o (u := 2) hc1 (by decide) rfl), rfl, rfl⟩ rfl (Nat.le_of_ble_eq_true rfl) (fun y hx => lift1 (u := 2) hc1 (by decide) rfl (e_X4_passMinute (Nat.le_trans (Nat.le_of_ble_eq_true rfl) hf) hx)) fun S21 h => ?_
      refine D3_gen (μ := fun W => (MEM b c W M)) h fun W20 h => ?_
      refine D_iinc (i := 3) (w := 1) dX3_parse_84 rfl (by decide) (Nat.le_of_ble_eq_true rfl) ?_
      refine V_goto (tgt := 72) dX3_parse_87 rfl ?_
      exact V_sub (ks := [1, 2, 3, 0]) rfl (ih _ _ h)
noncomputable def l_X3_parse_26  : Nat → (Nat → Nat → Int32) → Int32 → Option (Nat → Nat → Int32)
  | 0, _, _ => none
  | N + 1, W, x1 => if (600 : Int32) ≤ x1 then bnd (w2 W 15 0 (0 : Int32)) (fun W7 => some W7) else if (W 13 0) = 0 then if (W 15 1) = 0 then bnd (w2 W 15 0 (0 : Int32)) (fun W11 => some W11) else bdc (f_X3_readStatement W) (fun W12 => jn (fun (W14 : Nat → Nat → Int32) (v15 : Int32) => l_X3_parse_72 x1 v15 (fun (x22 : Nat → Nat → Int32) => l_X3_parse_26 N x22 (x1 + (1 : Int32))) FU W14 (0 : Int32)) (fun j13 => if (W12 13 0) = 0 then bd2 (f_X3_execute W12) (fun v18 W17 => j13 W17 v18) else j13 W12 (0 : Int32))) else bnd (w2 W 15 0 (0 : Int32)) (fun W9 => some W9)
theorem lv_X3_parse_26 {G : GT} {f : Nat} {b c : Nat} {M : MM} {hi k n : Nat}  {r : (Nat → Nat → Int32)} (hf : 8 ≤ f) (hc1 : 609 ≤ c) : ∀ (N : Nat) (W : Nat → Nat → Int32) (x1 : Int32) , l_X3_parse_26 N W x1 = some r → V G f (Ex G f) mX3_parse (RH (.inl none) (MEM b c r M) hi) 26 [(0, .ref (b + 93)), (1, .int x1)] [] (MEM b c W M) hi k n := by
  intro N
  induction N with
  | zero => intro W x1 h; cases h
  | succ N ih =>
    intro W x1 h
    rw [l_X3_parse_26] at h
    refine V_iload_n (i := 1) dX3_parse_26 rfl rfl ?_
    refine V_sipush (v := 600) dX3_parse_27 (by decide) ?_
    refine D_icmp_ge (tgt := 96) h dX3_parse_30 rfl (fun b6 h => ?_) (fun b6 h => ?_)
    · refine V_aload_n (i := 0) dX3_parse_96 rfl rfl ?_
      refine V_getfield dX3_parse_97 (mem_13 hc1) fl_X3_12 rfl ?_
      refine V_iconst (v := 0) dX3_parse_100 (by decide) ?_
      refine D3_put h dX3_parse_101 (mem_15 hc1) (fp_X3_55 rfl) (Nat.le_of_ble_eq_true rfl) (psc_15_0 hc1) fun W7 h => ?_
      obtain rfl := Option.some.inj h
      exact V_return dX3_parse_104 rfl ⟨rfl, rfl, rfl⟩
    · refine V_aload_n (i := 0) dX3_parse_33 rfl rfl ?_
      refine V_getfield dX3_parse_34 (mem_13 hc1) fl_X3_36 rfl ?_
      refine D_if_ne (tgt := 96) h dX3_parse_37 rfl (fun b8 h => ?_) (fun b8 h => ?_)
      · refine V_aload_n (i := 0) dX3_parse_96 rfl rfl ?_
        refine V_getfield dX3_parse_97 (mem_13 hc1) fl_X3_12 rfl ?_
        refine V_iconst (v := 0) dX3_parse_100 (by decide) ?_
        refine D3_put h dX3_parse_101 (mem_15 hc1) (fp_X3_55 rfl) (Nat.le_of_ble_eq_true rfl) (psc_15_0 hc1) fun W9 h => ?_
        obtain rfl := Option.some.inj h
        exact V_return dX3_parse_104 rfl ⟨rfl, rfl, rfl⟩
      · refine V_aload_n (i := 0) dX3_parse_40 rfl rfl ?_
        refine V_getfield dX3_parse_41 (mem_13 hc1) fl_X3_12 rfl ?_
        refine V_getfield dX3_parse_44 (mem_15 hc1) fl_X3_42 rfl ?_
        refine D_if_eq (tgt := 96) h dX3_parse_47 rfl (fun b10 h => ?_) (fun b10 h => ?_)
        · refine V_aload_n (i := 0) dX3_parse_96 rfl rfl ?_
          refine V_getfield dX3_parse_97 (mem_13 hc1) fl_X3_12 rfl ?_
          refine V_iconst (v := 0) dX3_parse_100 (by decide) ?_
          refine D3_put h dX3_parse_101 (mem_15 hc1) (fp_X3_55 rfl) (Nat.le_of_ble_eq_true rfl) (psc_15_0 hc1) fun W11 h => ?_
          obtain rfl := Option.some.inj h
          exact V_return dX3_parse_104 rfl ⟨rfl, rfl, rfl⟩
        · refine V_aload_n (i := 0) dX3_parse_50 rfl rfl ?_
          refine D_cVU (As := []) (μ := fun W12 => (MEM b c W12 M)) h dX3_parse_51 cv_X3_45 rfl ⟨_, _, _, (mem_13 hc1), rfl, rfl⟩ rfl (Nat.le_of_ble_eq_true rfl) (fun y hx => e_X3_readStatement (Nat.le_trans (Nat.le_of_ble_eq_true rfl) hf) hc1 hx) fun W12 h => ?_
          refine V_aload_n (i := 0) dX3_parse_54 rfl rfl ?_
          refine V_getfield dX3_parse_55 (mem_13 hc1) fl_X3_36 rfl ?_
          refine D_jn (fun (j : (Nat → Nat → Int32) → Int32 → Option (Nat → Nat → Int32)) => ∀ (W14 : Nat → Nat → Int32) (v15 : Int32), j W14 v15 = some r → V G f (Ex G f) mX3_parse (RH (.inl none) (MEM b c r M) hi) 69 [(0, .ref (b + 93)), (1, .int x1)] [.int v15] (MEM b c W14 M) hi k n) h (fun j13 hj13 h => ?_) ?_
          · refine D_if_ne (tgt := 68) h dX3_parse_58 rfl (fun b16 h => ?_) (fun b16 h => ?_)
            · refine V_iconst (v := 0) dX3_parse_68 (by decide) ?_
              exact V_sub (ks := [0, 1]) rfl (hj13 _ _ h)
            · refine V_aload_n (i := 0) dX3_parse_61 rfl rfl ?_
              refine D_cVIW (As := []) (μ := fun W17 => (MEM b c W17 M)) h dX3_parse_62 cv_X3_48 rfl ⟨_, _, _, (mem_13 hc1), rfl, rfl⟩ rfl (Nat.le_of_ble_eq_true rfl) (fun x y hx => e_X3_execute (Nat.le_trans (Nat.le_of_ble_eq_true rfl) hf) hc1 hx) fun v18 W17 h => ?_
              refine V_goto (tgt := 69) dX3_parse_65 rfl ?_
              exact V_sub (ks := [0, 1]) rfl (hj13 _ _ h)
          · intro W14 v15 h
            refine V_istore_n (i := 2) dX3_parse_69 rfl (Nat.le_of_ble_eq_true rfl) ?_
            refine V_iconst (v := 0) dX3_parse_70 (by decide) ?_
            refine V_istore_n (i := 3) dX3_parse_71 rfl (Nat.le_of_ble_eq_true rfl) ?_
            refine V_sub (ks := [2, 3, 1, 0]) rfl (lv_X3_parse_72 hf hc1 ?_ FU _ _ h)
            · intro x22 h
              refine D_iinc (i := 1) (w := 1) dX3_parse_90 rfl (by decide) (Nat.le_of_ble_eq_true rfl) ?_
              refine V_goto (tgt := 26) dX3_parse_93 rfl ?_
              exact V_sub (ks := [1, 0]) rfl (ih _ _ h)
noncomputable def f_X3_parse (W : Nat → Nat → Int32) : Option (Nat → Nat → Int32) :=
  bdc (f_X4_clear (W 2)) (fun S2 => bnd (setU W 2 S2) (fun W1 => bnd (w2 W1 13 0 (0 : Int32)) (fun W3 => bnd (w2 W3 13 1 (-1 : Int32)) (fun W4 => bdc (f_X6_begin W4) (fun W5 => l_X3_parse_26 FU W5 (0 : Int32))))))
theorem e_X3_parse {G : GT} {f0 : Nat} {b c : Nat} {M : MM} {hi k n : Nat} {W : Nat → Nat → Int32} {r : (Nat → Nat → Int32)} (hf0 : 9 ≤ f0) (hc1 : 609 ≤ c) (h : f_X3_parse W = some r) : Ex G f0 mX3_parse [.ref (b + 93)] (MEM b c W M) hi k n (RH (.inl none) (MEM b c r M) hi) := by
  obtain ⟨f, rfl, hf⟩ := suc_of hf0
  unfold f_X3_parse at h
  refine ⟨Nat.le_of_ble_eq_true rfl, ?_⟩
  refine V_aload_n (i := 0) dX3_parse_0 rfl rfl ?_
  refine V_getfield dX3_parse_1 (mem_13 hc1) fl_X3_21 rfl ?_
  refine D_cVU (As := []) (μ := fun S2 => (MEM b c (setU W 2 S2) M)) h dX3_parse_4 cv_X3_33 rfl ⟨_, _, _, (mst_o (u := 2) hc1 (by decide) rfl), rfl, rfl⟩ rfl (Nat.le_of_ble_eq_true rfl) (fun y hx => lift1 (u := 2) hc1 (by decide) rfl (e_X4_clear (Nat.le_trans (Nat.le_of_ble_eq_true rfl) hf) hx)) fun S2 h => ?_
  refine D3_gen (μ := fun W => (MEM b c W M)) h fun W1 h => ?_
  refine V_aload_n (i := 0) dX3_parse_7 rfl rfl ?_
  refine V_iconst (v := 0) dX3_parse_8 (by decide) ?_
  refine D3_put h dX3_parse_9 (mem_13 hc1) (fp_X3_36 rfl) (Nat.le_of_ble_eq_true rfl) (psc_13_0 hc1) fun W3 h => ?_
  refine V_aload_n (i := 0) dX3_parse_12 rfl rfl ?_
  refine V_iconst (v := -1) dX3_parse_13 (by decide) ?_
  refine D3_put h dX3_parse_14 (mem_13 hc1) (fp_X3_25 rfl) (Nat.le_of_ble_eq_true rfl) (psc_13_1 hc1) fun W4 h => ?_
  refine V_aload_n (i := 0) dX3_parse_17 rfl rfl ?_
  refine V_getfield dX3_parse_18 (mem_13 hc1) fl_X3_12 rfl ?_
  refine D_cVU (As := []) (μ := fun W5 => (MEM b c W5 M)) h dX3_parse_21 cv_X3_39 rfl ⟨_, _, _, (mem_15 hc1), rfl, rfl⟩ rfl (Nat.le_of_ble_eq_true rfl) (fun y hx => e_X6_begin (Nat.le_trans (Nat.le_of_ble_eq_true rfl) hf) hc1 hx) fun W5 h => ?_
  refine V_iconst (v := 0) dX3_parse_24 (by decide) ?_
  refine V_istore_n (i := 1) dX3_parse_25 rfl (Nat.le_of_ble_eq_true rfl) ?_
  refine V_sub (ks := [1, 0]) rfl (lv_X3_parse_26 hf hc1 FU _ _ h)
noncomputable def f_X6_appendByte (W : Nat → Nat → Int32) (a1 : Int32) : Option (Nat → Nat → Int32) :=
  if (W 15 0) < 0 then some W else if (600 : Int32) ≤ (W 15 0) then some W else gd (inr (W 15 0) 600) (bnd (w2 W 16 (ix (W 15 0)) (nb ((a1).toInt8.toInt32))) (fun W3 => bnd (w2 W3 15 0 ((W3 15 0) + (1 : Int32))) (fun W4 => some W4)))
theorem e_X6_appendByte {G : GT} {f0 : Nat} {b c : Nat} {M : MM} {hi k n : Nat} {W : Nat → Nat → Int32} {a1 : Int32} {r : (Nat → Nat → Int32)} (hf0 : 1 ≤ f0) (hc1 : 609 ≤ c) (h : f_X6_appendByte W a1 = some r) : Ex G f0 mX6_appendByte [.ref (b + 94), .int a1] (MEM b c W M) hi k n (RH (.inl none) (MEM b c r M) hi) := by
  obtain ⟨f, rfl, hf⟩ := suc_of hf0
  unfold f_X6_appendByte at h
  refine ⟨Nat.le_of_ble_eq_true rfl, ?_⟩
  refine V_aload_n (i := 0) dX6_appendByte_0 rfl rfl ?_
  refine V_getfield dX6_appendByte_1 (mem_15 hc1) fl_X6_15 rfl ?_
  refine D_if_lt (tgt := 40) h dX6_appendByte_4 rfl (fun b1 h => ?_) (fun b1 h => ?_)
  · obtain rfl := Option.some.inj h
    exact V_return dX6_appendByte_40 rfl ⟨rfl, rfl, rfl⟩
  · refine V_aload_n (i := 0) dX6_appendByte_7 rfl rfl ?_
    refine V_getfield dX6_appendByte_8 (mem_15 hc1) fl_X6_15 rfl ?_
    refine V_aload_n (i := 0) dX6_appendByte_11 rfl rfl ?_
    refine V_getfield dX6_appendByte_12 (mem_15 hc1) fl_X6_9 rfl ?_
    refine V_alen (t := 0) (v := 600) dX6_appendByte_15 (mem_16 hc1) (by decide) rfl ?_
    refine D_icmp_ge (tgt := 40) h dX6_appendByte_16 rfl (fun b2 h => ?_) (fun b2 h => ?_)
    · obtain rfl := Option.some.inj h
      exact V_return dX6_appendByte_40 rfl ⟨rfl, rfl, rfl⟩
    · refine V_aload_n (i := 0) dX6_appendByte_19 rfl rfl ?_
      refine V_getfield dX6_appendByte_20 (mem_15 hc1) fl_X6_9 rfl ?_
      refine V_aload_n (i := 0) dX6_appendByte_23 rfl rfl ?_
      refine V_getfield dX6_appendByte_24 (mem_15 hc1) fl_X6_15 rfl ?_
      refine V_iload_n (i := 1) dX6_appendByte_27 rfl rfl ?_
      refine V_i2b dX6_appendByte_28 rfl ?_
      refine D3_bst (u := 16) h (mem_16 hc1) (pst_16 hc1) dX6_appendByte_29 fun W3 h => ?_
      refine V_aload_n (i := 0) dX6_appendByte_30 rfl rfl ?_
      refine V_dup dX6_appendByte_31 rfl ?_
      refine V_getfield dX6_appendByte_32 (mem_15 hc1) fl_X6_15 rfl ?_
      refine V_iconst (v := 1) dX6_appendByte_35 (by decide) ?_
      refine V_iadd dX6_appendByte_36 ?_
      refine D3_put h dX6_appendByte_37 (mem_15 hc1) (fp_X6_15 rfl) (Nat.le_of_ble_eq_true rfl) (psc_15_0 hc1) fun W4 h => ?_
      obtain rfl := Option.some.inj h
      exact V_return dX6_appendByte_40 rfl ⟨rfl, rfl, rfl⟩
noncomputable def f_X6_appendFourBytes (W : Nat → Nat → Int32) (a1 : Int32) : Option (Nat → Nat → Int32) :=
  bdc (f_X6_appendByte W (ushr a1 (24 : Int32))) (fun W1 => bdc (f_X6_appendByte W1 (ushr a1 (16 : Int32))) (fun W2 => bdc (f_X6_appendByte W2 (ushr a1 (8 : Int32))) (fun W3 => bdc (f_X6_appendByte W3 a1) (fun W4 => some W4))))
theorem e_X6_appendFourBytes {G : GT} {f0 : Nat} {b c : Nat} {M : MM} {hi k n : Nat} {W : Nat → Nat → Int32} {a1 : Int32} {r : (Nat → Nat → Int32)} (hf0 : 2 ≤ f0) (hc1 : 609 ≤ c) (h : f_X6_appendFourBytes W a1 = some r) : Ex G f0 mX6_appendFourBytes [.ref (b + 94), .int a1] (MEM b c W M) hi k n (RH (.inl none) (MEM b c r M) hi) := by
  obtain ⟨f, rfl, hf⟩ := suc_of hf0
  unfold f_X6_appendFourBytes at h
  refine ⟨Nat.le_of_ble_eq_true rfl, ?_⟩
  refine V_aload_n (i := 0) dX6_appendFourBytes_0 rfl rfl ?_
  refine V_iload_n (i := 1) dX6_appendFourBytes_1 rfl rfl ?_
  refine V_bipush (v := 24) dX6_appendFourBytes_2 (by decide) ?_
  refine V_iushr (v := ushr a1 (24 : Int32)) dX6_appendFourBytes_4 rfl ?_
  refine D_cVU (As := [_]) (μ := fun W1 => (MEM b c W1 M)) h dX6_appendFourBytes_5 cv_X6_19 rfl ⟨_, _, _, (mem_15 hc1), rfl, rfl⟩ rfl (Nat.le_of_ble_eq_true rfl) (fun y hx => e_X6_appendByte (Nat.le_trans (Nat.le_of_ble_eq_true rfl) hf) hc1 hx) fun W1 h => ?_
  refine V_aload_n (i := 0) dX6_appendFourBytes_8 rfl rfl ?_
  refine V_iload_n (i := 1) dX6_appendFourBytes_9 rfl rfl ?_
  refine V_bipush (v := 16) dX6_appendFourBytes_10 (by decide) ?_
  refine V_iushr (v := ushr a1 (16 : Int32)) dX6_appendFourBytes_12 rfl ?_
  refine D_cVU (As := [_]) (μ := fun W2 => (MEM b c W2 M)) h dX6_appendFourBytes_13 cv_X6_19 rfl ⟨_, _, _, (mem_15 hc1), rfl, rfl⟩ rfl (Nat.le_of_ble_eq_true rfl) (fun y hx => e_X6_appendByte (Nat.le_trans (Nat.le_of_ble_eq_true rfl) hf) hc1 hx) fun W2 h => ?_
  refine V_aload_n (i := 0) dX6_appendFourBytes_16 rfl rfl ?_
  refine V_iload_n (i := 1) dX6_appendFourBytes_17 rfl rfl ?_
  refine V_bipush (v := 8) dX6_appendFourBytes_18 (by decide) ?_
  refine V_iushr (v := ushr a1 (8 : Int32)) dX6_appendFourBytes_20 rfl ?_
  refine D_cVU (As := [_]) (μ := fun W3 => (MEM b c W3 M)) h dX6_appendFourBytes_21 cv_X6_19 rfl ⟨_, _, _, (mem_15 hc1), rfl, rfl⟩ rfl (Nat.le_of_ble_eq_true rfl) (fun y hx => e_X6_appendByte (Nat.le_trans (Nat.le_of_ble_eq_true rfl) hf) hc1 hx) fun W3 h => ?_
  refine V_aload_n (i := 0) dX6_appendFourBytes_24 rfl rfl ?_
  refine V_iload_n (i := 1) dX6_appendFourBytes_25 rfl rfl ?_
  refine D_cVU (As := [_]) (μ := fun W4 => (MEM b c W4 M)) h dX6_appendFourBytes_26 cv_X6_19 rfl ⟨_, _, _, (mem_15 hc1), rfl, rfl⟩ rfl (Nat.le_of_ble_eq_true rfl) (fun y hx => e_X6_appendByte (Nat.le_trans (Nat.le_of_ble_eq_true rfl) hf) hc1 hx) fun W4 h => ?_
  obtain rfl := Option.some.inj h
  exact V_return dX6_appendFourBytes_29 rfl ⟨rfl, rfl, rfl⟩
noncomputable def l_X6_appendText_2 (c1 : Nat) : Nat → (Nat → Nat → Int32) → Int32 → Option (Nat → Nat → Int32)
  | 0, _, _ => none
  | N + 1, W, x2 => if (nI (lenS c1)) ≤ x2 then some W else gd (inr x2 (lenS c1)) (bdc (f_X6_appendByte W (chS c1 (ix x2))) (fun W2 => l_X6_appendText_2 c1 N W2 (x2 + (1 : Int32))))
theorem lv_X6_appendText_2 {G : GT} {f : Nat} {b c : Nat} {M : MM} {hi k n : Nat} {c1 : Nat} {r : (Nat → Nat → Int32)} (hf : 4 ≤ f) (hc1 : 609 ≤ c) (u1 : c1 < nSTR) : ∀ (N : Nat) (W : Nat → Nat → Int32) (x2 : Int32) , l_X6_appendText_2 c1 N W x2 = some r → V G f (Ex G f) mX6_appendText (RH (.inl none) (MEM b c r M) hi) 2 [(0, .ref (b + 94)), (1, .ref (G.2.2.2.1 c1)), (2, .int x2)] [] (MEM b c W M) hi k n := by
  intro N
  induction N with
  | zero => intro W x2 h; cases h
  | succ N ih =>
    intro W x2 h
    rw [l_X6_appendText_2] at h
    refine V_iload_n (i := 2) dX6_appendText_2 rfl rfl ?_
    refine V_aload_n (i := 1) dX6_appendText_3 rfl rfl ?_
    refine D_slen dX6_appendText_4 cv_X6_23 u1 (Nat.le_of_ble_eq_true rfl) (Nat.le_trans (Nat.le_of_ble_eq_true rfl) hf) ?_
    refine D_icmp_ge (tgt := 25) h dX6_appendText_7 rfl (fun b1 h => ?_) (fun b1 h => ?_)
    · obtain rfl := Option.some.inj h
      exact V_return dX6_appendText_25 rfl ⟨rfl, rfl, rfl⟩
    · refine V_aload_n (i := 0) dX6_appendText_10 rfl rfl ?_
      refine V_aload_n (i := 1) dX6_appendText_11 rfl rfl ?_
      refine V_iload_n (i := 2) dX6_appendText_12 rfl rfl ?_
      refine D_schar h dX6_appendText_13 cv_X6_28 u1 (Nat.le_of_ble_eq_true rfl) (Nat.le_trans (Nat.le_of_ble_eq_true rfl) hf) fun h => ?_
      refine D_cVU (As := [_]) (μ := fun W2 => (MEM b c W2 M)) h dX6_appendText_16 cv_X6_19 rfl ⟨_, _, _, (mem_15 hc1), rfl, rfl⟩ rfl (Nat.le_of_ble_eq_true rfl) (fun y hx => e_X6_appendByte (Nat.le_trans (Nat.le_of_ble_eq_true rfl) hf) hc1 hx) fun W2 h => ?_
      refine D_iinc (i := 2) (w := 1) dX6_appendText_19 rfl (by decide) (Nat.le_of_ble_eq_true rfl) ?_
      refine V_goto (tgt := 2) dX6_appendText_22 rfl ?_
      exact V_sub (ks := [1, 2, 0]) rfl (ih _ _ h)
noncomputable def f_X6_appendText (W : Nat → Nat → Int32) (j1 : Nat) : Option (Nat → Nat → Int32) :=
  l_X6_appendText_2 j1 FU W (0 : Int32)
theorem e_X6_appendText {G : GT} {f0 : Nat} {b c : Nat} {M : MM} {hi k n : Nat} {W : Nat → Nat → Int32} {j1 : Nat} {r : (Nat → Nat → Int32)} (hf0 : 5 ≤ f0) (hc1 : 609 ≤ c) (t1 : j1 < nSTR) (h : f_X6_appendText W j1 = some r) : Ex G f0 mX6_appendText [.ref (b + 94), .ref (G.2.2.2.1 j1)] (MEM b c W M) hi k n (RH (.inl none) (MEM b c r M) hi) := by
  obtain ⟨f, rfl, hf⟩ := suc_of hf0
  unfold f_X6_appendText at h
  refine ⟨Nat.le_of_ble_eq_true rfl, ?_⟩
  refine V_iconst (v := 0) dX6_appendText_0 (by decide) ?_
  refine V_istore_n (i := 2) dX6_appendText_1 rfl (Nat.le_of_ble_eq_true rfl) ?_
  refine V_sub (ks := [1, 2, 0]) rfl (lv_X6_appendText_2 hf hc1 t1 FU _ _ h)
noncomputable def f_X9_checkStation (W : Nat → Nat → Int32) (a1 : Int32) : Option (String ⊕ Unit) :=
  if a1 < 0 then some (.inl "java/lang/IndexOutOfBoundsException") else if a1 < (W 0 1) then some (.inr ()) else some (.inl "java/lang/IndexOutOfBoundsException")
theorem e_X9_checkStation {G : GT} {f0 : Nat} {b c : Nat} {M : MM} {hi : Nat} {W : Nat → Nat → Int32} {a1 : Int32} {r : (String ⊕ Unit)} (hf0 : 8 ≤ f0) (hc1 : 609 ≤ c) (h : f_X9_checkStation W a1 = some r) : Ex G f0 mX9_checkStation [.ref (b), .int a1] (MEM b c W M) hi 1 6 (RP (rhoU r) (MEM b c W M)) := by
  obtain ⟨f, rfl, hf⟩ := suc_of hf0
  unfold f_X9_checkStation at h
  refine ⟨Nat.le_of_ble_eq_true rfl, ?_⟩
  refine V_iload_n (i := 1) dX9_checkStation_0 rfl rfl ?_
  refine D_if_lt (tgt := 15) h dX9_checkStation_1 rfl (fun b1 h => ?_) (fun b1 h => ?_)
  · obtain rfl := Option.some.inj h
    exact V_throwSW (j := 12) dX9_checkStation_15 dX9_checkStation_18 dX9_checkStation_19 dX9_checkStation_22 dX9_checkStation_25 (by decide) tw_931 tw_941 (by decide +kernel) (Nat.le_of_ble_eq_true rfl) (Nat.le_trans (Nat.le_of_ble_eq_true rfl) hf) rfl (fun _ _ => ⟨rfl, rfl⟩)
  · refine V_iload_n (i := 1) dX9_checkStation_4 rfl rfl ?_
    refine V_aload_n (i := 0) dX9_checkStation_5 rfl rfl ?_
    refine V_getfield dX9_checkStation_6 (mem_x9 hc1) fl_X9_10 rfl ?_
    refine V_getfield dX9_checkStation_9 (mst_o (u := 0) hc1 (by decide) rfl) fl_X9_97 rfl ?_
    refine D_icmp_lt (tgt := 26) h dX9_checkStation_12 rfl (fun b2 h => ?_) (fun b2 h => ?_)
    · obtain rfl := Option.some.inj h
      exact V_return dX9_checkStation_26 rfl ⟨rfl, rfl⟩
    · obtain rfl := Option.some.inj h
      exact V_throwSW (j := 12) dX9_checkStation_15 dX9_checkStation_18 dX9_checkStation_19 dX9_checkStation_22 dX9_checkStation_25 (by decide) tw_931 tw_941 (by decide +kernel) (Nat.le_of_ble_eq_true rfl) (Nat.le_trans (Nat.le_of_ble_eq_true rfl) hf) rfl (fun _ _ => ⟨rfl, rfl⟩)
noncomputable def f_X9_addParcel (W : Nat → Nat → Int32) (a1 : Int32) (a2 : Int32) (a3 : Int32) : Option ((String ⊕ Int32) × (Nat → Nat → Int32)) :=
  bdt (f_X9_checkStation W a1) (fun e => some (.inl e, W)) (fun _ => bdt (f_X9_checkStation W a2) (fun e => some (.inl e, W)) (fun _ => if a1 = a2 then some (.inl "java/lang/IllegalArgumentException", W) else bdt (f_X9_checkRange a3 (1 : Int32) (9 : Int32)) (fun e => some (.inl e, W)) (fun _ => if (W 0 4) < (12 : Int32) then bdc (f_X0_remember W) (fun W3 => bdc (f_X4_makeParcel (W3 0) a1 a2 a3) (fun S5 => bnd (setU W3 0 S5) (fun W4 => some (.inr ((W4 0 4) - (1 : Int32)), W4)))) else some (.inl "java/lang/IllegalStateException", W))))
theorem e_X9_addParcel {G : GT} {f0 : Nat} {b c : Nat} {M : MM} {hi : Nat} {W : Nat → Nat → Int32} {a1 : Int32} {a2 : Int32} {a3 : Int32} {r : ((String ⊕ Int32) × (Nat → Nat → Int32))} (hf0 : 9 ≤ f0) (hc1 : 609 ≤ c) (h : f_X9_addParcel W a1 a2 a3 = some r) : Ex G f0 mX9_addParcel [.ref (b), .int a1, .int a2, .int a3] (MEM b c W M) hi 4 24 (RP (rhoI r.1) (MEM b c r.2 M)) := by
  obtain ⟨f, rfl, hf⟩ := suc_of hf0
  unfold f_X9_addParcel at h
  refine ⟨Nat.le_of_ble_eq_true rfl, ?_⟩
  refine V_aload_n (i := 0) dX9_addParcel_0 rfl rfl ?_
  refine V_iload_n (i := 1) dX9_addParcel_1 rfl rfl ?_
  refine D_tVU (As := [_]) (k2 := 1) (n2 := 6) h dX9_addParcel_2 cv_X9_115 rfl ⟨_, _, _, (mem_x9 hc1), rfl, rfl⟩ rfl (Nat.le_of_ble_eq_true rfl) (fun x hx => e_X9_checkStation (Nat.le_trans (Nat.le_of_ble_eq_true rfl) hf) hc1 hx) (fun e hi h => Or.inl ⟨rfl, by obtain rfl := Option.some.inj h; exact ⟨rfl, rfl⟩⟩) fun hi h => ?_
  refine V_aload_n (i := 0) dX9_addParcel_5 rfl rfl ?_
  refine V_iload_n (i := 2) dX9_addParcel_6 rfl rfl ?_
  refine D_tVU (As := [_]) (k2 := 1) (n2 := 6) h dX9_addParcel_7 cv_X9_115 rfl ⟨_, _, _, (mem_x9 hc1), rfl, rfl⟩ rfl (Nat.le_of_ble_eq_true rfl) (fun x hx => e_X9_checkStation (Nat.le_trans (Nat.le_of_ble_eq_true rfl) hf) hc1 hx) (fun e hi h => Or.inl ⟨rfl, by obtain rfl := Option.some.inj h; exact ⟨rfl, rfl⟩⟩) fun hi h => ?_
  refine V_iload_n (i := 1) dX9_addParcel_10 rfl rfl ?_
  refine V_iload_n (i := 2) dX9_addParcel_11 rfl rfl ?_
  refine D_icmp_ne (tgt := 26) h dX9_addParcel_12 rfl (fun b1 h => ?_) (fun b1 h => ?_)
  · refine V_iload_n (i := 3) dX9_addParcel_26 rfl rfl ?_
    refine V_iconst (v := 1) dX9_addParcel_27 (by decide) ?_
    refine V_bipush (v := 9) dX9_addParcel_28 (by decide) ?_
    refine D_tSU (As := [_, _, _]) (k2 := 1) (n2 := 6) h dX9_addParcel_30 cs_X9_274 rfl rfl (Nat.le_of_ble_eq_true rfl) (fun x hx => e_X9_checkRange (Nat.le_trans (Nat.le_of_ble_eq_true rfl) hf) hx) (fun e hi h => Or.inl ⟨rfl, by obtain rfl := Option.some.inj h; exact ⟨rfl, rfl⟩⟩) fun hi h => ?_
    refine V_aload_n (i := 0) dX9_addParcel_33 rfl rfl ?_
    refine V_getfield dX9_addParcel_34 (mem_x9 hc1) fl_X9_10 rfl ?_
    refine V_getfield dX9_addParcel_37 (mst_o (u := 0) hc1 (by decide) rfl) fl_X9_112 rfl ?_
    refine V_bipush (v := 12) dX9_addParcel_40 (by decide) ?_
    refine D_icmp_lt (tgt := 56) h dX9_addParcel_42 rfl (fun b2 h => ?_) (fun b2 h => ?_)
    · refine V_aload_n (i := 0) dX9_addParcel_56 rfl rfl ?_
      refine V_getfield dX9_addParcel_57 (mem_x9 hc1) fl_X9_29 rfl ?_
      refine V_aload_n (i := 0) dX9_addParcel_60 rfl rfl ?_
      refine V_getfield dX9_addParcel_61 (mem_x9 hc1) fl_X9_10 rfl ?_
      refine D_cVU (As := [_]) (μ := fun W3 => (MEM b c W3 M)) h dX9_addParcel_64 cv_X9_94 rfl ⟨_, _, _, (mem_17 hc1), rfl, rfl⟩ rfl (Nat.le_of_ble_eq_true rfl) (fun y hx => e_X0_remember (Nat.le_trans (Nat.le_of_ble_eq_true rfl) hf) hc1 hx) fun W3 h => ?_
      refine V_aload_n (i := 0) dX9_addParcel_67 rfl rfl ?_
      refine V_getfield dX9_addParcel_68 (mem_x9 hc1) fl_X9_10 rfl ?_
      refine V_iload_n (i := 1) dX9_addParcel_71 rfl rfl ?_
      refine V_iload_n (i := 2) dX9_addParcel_72 rfl rfl ?_
      refine V_iload_n (i := 3) dX9_addParcel_73 rfl rfl ?_
      refine D_cVU (As := [_, _, _]) (μ := fun S5 => (MEM b c (setU W3 0 S5) M)) h dX9_addParcel_74 cv_X9_291 rfl ⟨_, _, _, (mst_o (u := 0) hc1 (by decide) rfl), rfl, rfl⟩ rfl (Nat.le_of_ble_eq_true rfl) (fun y hx => lift1 (u := 0) hc1 (by decide) rfl (e_X4_makeParcel (Nat.le_trans (Nat.le_of_ble_eq_true rfl) hf) hx)) fun S5 h => ?_
      refine D3_gen (μ := fun W => (MEM b c W M)) h fun W4 h => ?_
      refine V_aload_n (i := 0) dX9_addParcel_77 rfl rfl ?_
      refine V_getfield dX9_addParcel_78 (mem_x9 hc1) fl_X9_10 rfl ?_
      refine V_getfield dX9_addParcel_81 (mst_o (u := 0) hc1 (by decide) rfl) fl_X9_112 rfl ?_
      refine V_iconst (v := 1) dX9_addParcel_84 (by decide) ?_
      refine V_isub dX9_addParcel_85 ?_
      obtain rfl := Option.some.inj h
      exact V_ireturn dX9_addParcel_86 ⟨_, rfl, rfl⟩ ⟨rfl, rfl⟩
    · obtain rfl := Option.some.inj h
      exact V_throwSW (j := 19) dX9_addParcel_45 dX9_addParcel_48 dX9_addParcel_49 dX9_addParcel_52 dX9_addParcel_55 (by decide) tw_810 tw_853 (by decide +kernel) (Nat.le_of_ble_eq_true rfl) (Nat.le_trans (Nat.le_of_ble_eq_true rfl) hf) rfl (fun _ _ => ⟨rfl, rfl⟩)
  · obtain rfl := Option.some.inj h
    exact V_throwSW (j := 18) dX9_addParcel_15 dX9_addParcel_18 dX9_addParcel_19 dX9_addParcel_22 dX9_addParcel_25 (by decide) tw_890 tw_900 (by decide +kernel) (Nat.le_of_ble_eq_true rfl) (Nat.le_trans (Nat.le_of_ble_eq_true rfl) hf) rfl (fun _ _ => ⟨rfl, rfl⟩)
noncomputable def f_X9_appendInput (W : Nat → Nat → Int32) (a1 : Int32) (a2 : Int32) (a3 : Int32) (a4 : Int32) (a5 : Int32) : Option ((String ⊕ Int32) × (Nat → Nat → Int32)) :=
  if ((W 15 0) + (20 : Int32)) ≤ (600 : Int32) then bdc (f_X6_appendFourBytes W a1) (fun W2 => bdc (f_X6_appendFourBytes W2 a2) (fun W3 => bdc (f_X6_appendFourBytes W3 a3) (fun W4 => bdc (f_X6_appendFourBytes W4 a4) (fun W5 => bdc (f_X6_appendFourBytes W5 a5) (fun W6 => some (.inr (W6 15 0), W6)))))) else some (.inl "java/lang/IllegalStateException", W)
theorem e_X9_appendInput {G : GT} {f0 : Nat} {b c : Nat} {M : MM} {hi : Nat} {W : Nat → Nat → Int32} {a1 : Int32} {a2 : Int32} {a3 : Int32} {a4 : Int32} {a5 : Int32} {r : ((String ⊕ Int32) × (Nat → Nat → Int32))} (hf0 : 8 ≤ f0) (hc1 : 609 ≤ c) (h : f_X9_appendInput W a1 a2 a3 a4 a5 = some r) : Ex G f0 mX9_appendInput [.ref (b), .int a1, .int a2, .int a3, .int a4, .int a5] (MEM b c W M) hi 1 6 (RP (rhoI r.1) (MEM b c r.2 M)) := by
  obtain ⟨f, rfl, hf⟩ := suc_of hf0
  unfold f_X9_appendInput at h
  refine ⟨Nat.le_of_ble_eq_true rfl, ?_⟩
  refine V_aload_n (i := 0) dX9_appendInput_0 rfl rfl ?_
  refine V_getfield dX9_appendInput_1 (mem_x9 hc1) fl_X9_22 rfl ?_
  refine V_getfield dX9_appendInput_4 (mem_13 hc1) fl_X9_48 rfl ?_
  refine V_astore (i := 6) dX9_appendInput_7 (Nat.le_of_ble_eq_true rfl) ?_
  refine V_aload (i := 6) dX9_appendInput_9 rfl ?_
  refine V_getfield dX9_appendInput_11 (mem_15 hc1) fl_X9_70 rfl ?_
  refine V_bipush (v := 20) dX9_appendInput_14 (by decide) ?_
  refine V_iadd dX9_appendInput_16 ?_
  refine V_sipush (v := 600) dX9_appendInput_17 (by decide) ?_
  refine D_icmp_le (tgt := 33) h dX9_appendInput_20 rfl (fun b1 h => ?_) (fun b1 h => ?_)
  · refine V_aload (i := 6) dX9_appendInput_33 rfl ?_
    refine V_iload_n (i := 1) dX9_appendInput_35 rfl rfl ?_
    refine D_cVU (As := [_]) (μ := fun W2 => (MEM b c W2 M)) h dX9_appendInput_36 cv_X9_80 rfl ⟨_, _, _, (mem_15 hc1), rfl, rfl⟩ rfl (Nat.le_of_ble_eq_true rfl) (fun y hx => e_X6_appendFourBytes (Nat.le_trans (Nat.le_of_ble_eq_true rfl) hf) hc1 hx) fun W2 h => ?_
    refine V_aload (i := 6) dX9_appendInput_39 rfl ?_
    refine V_iload_n (i := 2) dX9_appendInput_41 rfl rfl ?_
    refine D_cVU (As := [_]) (μ := fun W3 => (MEM b c W3 M)) h dX9_appendInput_42 cv_X9_80 rfl ⟨_, _, _, (mem_15 hc1), rfl, rfl⟩ rfl (Nat.le_of_ble_eq_true rfl) (fun y hx => e_X6_appendFourBytes (Nat.le_trans (Nat.le_of_ble_eq_true rfl) hf) hc1 hx) fun W3 h => ?_
    refine V_aload (i := 6) dX9_appendInput_45 rfl ?_
    refine V_iload_n (i := 3) dX9_appendInput_47 rfl rfl ?_
    refine D_cVU (As := [_]) (μ := fun W4 => (MEM b c W4 M)) h dX9_appendInput_48 cv_X9_80 rfl ⟨_, _, _, (mem_15 hc1), rfl, rfl⟩ rfl (Nat.le_of_ble_eq_true rfl) (fun y hx => e_X6_appendFourBytes (Nat.le_trans (Nat.le_of_ble_eq_true rfl) hf) hc1 hx) fun W4 h => ?_
    refine V_aload (i := 6) dX9_appendInput_51 rfl ?_
    refine V_iload (i := 4) dX9_appendInput_53 rfl ?_
    refine D_cVU (As := [_]) (μ := fun W5 => (MEM b c W5 M)) h dX9_appendInput_55 cv_X9_80 rfl ⟨_, _, _, (mem_15 hc1), rfl, rfl⟩ rfl (Nat.le_of_ble_eq_true rfl) (fun y hx => e_X6_appendFourBytes (Nat.le_trans (Nat.le_of_ble_eq_true rfl) hf) hc1 hx) fun W5 h => ?_
    refine V_aload (i := 6) dX9_appendInput_58 rfl ?_
    refine V_iload (i := 5) dX9_appendInput_60 rfl ?_
    refine D_cVU (As := [_]) (μ := fun W6 => (MEM b c W6 M)) h dX9_appendInput_62 cv_X9_80 rfl ⟨_, _, _, (mem_15 hc1), rfl, rfl⟩ rfl (Nat.le_of_ble_eq_true rfl) (fun y hx => e_X6_appendFourBytes (Nat.le_trans (Nat.le_of_ble_eq_true rfl) hf) hc1 hx) fun W6 h => ?_
    refine V_aload (i := 6) dX9_appendInput_65 rfl ?_
    refine V_getfield dX9_appendInput_67 (mem_15 hc1) fl_X9_70 rfl ?_
    obtain rfl := Option.some.inj h
    exact V_ireturn dX9_appendInput_70 ⟨_, rfl, rfl⟩ ⟨rfl, rfl⟩
  · obtain rfl := Option.some.inj h
    exact V_throwS (j := 9) dX9_appendInput_23 dX9_appendInput_26 dX9_appendInput_27 dX9_appendInput_29 dX9_appendInput_32 (by decide) tw_810 tw_853 (by decide +kernel) (Nat.le_of_ble_eq_true rfl) (Nat.le_trans (Nat.le_of_ble_eq_true rfl) hf) rfl (fun _ _ => ⟨rfl, rfl⟩)
noncomputable def f_X9_checkTrain (W : Nat → Nat → Int32) (a1 : Int32) : Option (String ⊕ Unit) :=
  if a1 < 0 then some (.inl "java/lang/IndexOutOfBoundsException") else if a1 < (W 0 3) then some (.inr ()) else some (.inl "java/lang/IndexOutOfBoundsException")
theorem e_X9_checkTrain {G : GT} {f0 : Nat} {b c : Nat} {M : MM} {hi : Nat} {W : Nat → Nat → Int32} {a1 : Int32} {r : (String ⊕ Unit)} (hf0 : 8 ≤ f0) (hc1 : 609 ≤ c) (h : f_X9_checkTrain W a1 = some r) : Ex G f0 mX9_checkTrain [.ref (b), .int a1] (MEM b c W M) hi 1 6 (RP (rhoU r) (MEM b c W M)) := by
  obtain ⟨f, rfl, hf⟩ := suc_of hf0
  unfold f_X9_checkTrain at h
  refine ⟨Nat.le_of_ble_eq_true rfl, ?_⟩
  refine V_iload_n (i := 1) dX9_checkTrain_0 rfl rfl ?_
  refine D_if_lt (tgt := 15) h dX9_checkTrain_1 rfl (fun b1 h => ?_) (fun b1 h => ?_)
  · obtain rfl := Option.some.inj h
    exact V_throwSW (j := 14) dX9_checkTrain_15 dX9_checkTrain_18 dX9_checkTrain_19 dX9_checkTrain_22 dX9_checkTrain_25 (by decide) tw_931 tw_941 (by decide +kernel) (Nat.le_of_ble_eq_true rfl) (Nat.le_trans (Nat.le_of_ble_eq_true rfl) hf) rfl (fun _ _ => ⟨rfl, rfl⟩)
  · refine V_iload_n (i := 1) dX9_checkTrain_4 rfl rfl ?_
    refine V_aload_n (i := 0) dX9_checkTrain_5 rfl rfl ?_
    refine V_getfield dX9_checkTrain_6 (mem_x9 hc1) fl_X9_10 rfl ?_
    refine V_getfield dX9_checkTrain_9 (mst_o (u := 0) hc1 (by decide) rfl) fl_X9_109 rfl ?_
    refine D_icmp_lt (tgt := 26) h dX9_checkTrain_12 rfl (fun b2 h => ?_) (fun b2 h => ?_)
    · obtain rfl := Option.some.inj h
      exact V_return dX9_checkTrain_26 rfl ⟨rfl, rfl⟩
    · obtain rfl := Option.some.inj h
      exact V_throwSW (j := 14) dX9_checkTrain_15 dX9_checkTrain_18 dX9_checkTrain_19 dX9_checkTrain_22 dX9_checkTrain_25 (by decide) tw_931 tw_941 (by decide +kernel) (Nat.le_of_ble_eq_true rfl) (Nat.le_trans (Nat.le_of_ble_eq_true rfl) hf) rfl (fun _ _ => ⟨rfl, rfl⟩)
noncomputable def f_X9_capacity (W : Nat → Nat → Int32) (a1 : Int32) : Option (String ⊕ Int32) :=
  bdt (f_X9_checkTrain W a1) (fun e => some (.inl e)) (fun _ => gd (inr a1 4) (some (.inr (W 0 (87 + 14 * ix a1)))))
theorem e_X9_capacity {G : GT} {f0 : Nat} {b c : Nat} {M : MM} {hi : Nat} {W : Nat → Nat → Int32} {a1 : Int32} {r : (String ⊕ Int32)} (hf0 : 9 ≤ f0) (hc1 : 609 ≤ c) (h : f_X9_capacity W a1 = some r) : Ex G f0 mX9_capacity [.ref (b), .int a1] (MEM b c W M) hi 1 6 (RP (rhoI r) (MEM b c W M)) := by
  obtain ⟨f, rfl, hf⟩ := suc_of hf0
  unfold f_X9_capacity at h
  refine ⟨Nat.le_of_ble_eq_true rfl, ?_⟩
  refine V_aload_n (i := 0) dX9_capacity_0 rfl rfl ?_
  refine V_iload_n (i := 1) dX9_capacity_1 rfl rfl ?_
  refine D_tVU (As := [_]) (k2 := 1) (n2 := 6) h dX9_capacity_2 cv_X9_162 rfl ⟨_, _, _, (mem_x9 hc1), rfl, rfl⟩ rfl (Nat.le_of_ble_eq_true rfl) (fun x hx => e_X9_checkTrain (Nat.le_trans (Nat.le_of_ble_eq_true rfl) hf) hc1 hx) (fun e hi h => Or.inl ⟨rfl, by obtain rfl := Option.some.inj h; exact ⟨rfl, rfl⟩⟩) fun hi h => ?_
  refine V_aload_n (i := 0) dX9_capacity_5 rfl rfl ?_
  refine V_getfield dX9_capacity_6 (mem_x9 hc1) fl_X9_10 rfl ?_
  refine V_getfield dX9_capacity_9 (mst_o (u := 0) hc1 (by decide) rfl) fl_X9_165 rfl ?_
  refine V_iload_n (i := 1) dX9_capacity_12 rfl rfl ?_
  refine D_aldTr h (mst (u := 0) hc1 (by decide) rfl) dX9_capacity_13 fun g1 h => ?_
  refine V_getfield dX9_capacity_14 (mst_tr (u := 0) hc1 (by decide) rfl g1) fl_X9_169 rfl ?_
  obtain rfl := Option.some.inj h
  exact V_ireturn dX9_capacity_17 ⟨_, rfl, rfl⟩ ⟨rfl, rfl⟩
noncomputable def f_X9_carriedCount (W : Nat → Nat → Int32) (a1 : Int32) : Option (String ⊕ Int32) :=
  bdt (f_X9_checkTrain W a1) (fun e => some (.inl e)) (fun _ => bdc (f_X4_countCarriedBy (W 0) a1) (fun v1 => some (.inr v1)))
theorem e_X9_carriedCount {G : GT} {f0 : Nat} {b c : Nat} {M : MM} {hi : Nat} {W : Nat → Nat → Int32} {a1 : Int32} {r : (String ⊕ Int32)} (hf0 : 9 ≤ f0) (hc1 : 609 ≤ c) (h : f_X9_carriedCount W a1 = some r) : Ex G f0 mX9_carriedCount [.ref (b), .int a1] (MEM b c W M) hi 1 6 (RP (rhoI r) (MEM b c W M)) := by
  obtain ⟨f, rfl, hf⟩ := suc_of hf0
  unfold f_X9_carriedCount at h
  refine ⟨Nat.le_of_ble_eq_true rfl, ?_⟩
  refine V_aload_n (i := 0) dX9_carriedCount_0 rfl rfl ?_
  refine V_iload_n (i := 1) dX9_carriedCount_1 rfl rfl ?_
  refine D_tVU (As := [_]) (k2 := 1) (n2 := 6) h dX9_carriedCount_2 cv_X9_162 rfl ⟨_, _, _, (mem_x9 hc1), rfl, rfl⟩ rfl (Nat.le_of_ble_eq_true rfl) (fun x hx => e_X9_checkTrain (Nat.le_trans (Nat.le_of_ble_eq_true rfl) hf) hc1 hx) (fun e hi h => Or.inl ⟨rfl, by obtain rfl := Option.some.inj h; exact ⟨rfl, rfl⟩⟩) fun hi h => ?_
  refine V_aload_n (i := 0) dX9_carriedCount_5 rfl rfl ?_
  refine V_getfield dX9_carriedCount_6 (mem_x9 hc1) fl_X9_10 rfl ?_
  refine V_iload_n (i := 1) dX9_carriedCount_9 rfl rfl ?_
  refine D_cVI (As := [_]) h dX9_carriedCount_10 cv_X9_180 rfl ⟨_, _, _, (mst_o (u := 0) hc1 (by decide) rfl), rfl, rfl⟩ rfl (Nat.le_of_ble_eq_true rfl) (fun x hx => lift0 (u := 0) hc1 (by decide) rfl (e_X4_countCarriedBy (Nat.le_trans (Nat.le_of_ble_eq_true rfl) hf) hx)) fun v1 h => ?_
  obtain rfl := Option.some.inj h
  exact V_ireturn dX9_carriedCount_13 ⟨_, rfl, rfl⟩ ⟨rfl, rfl⟩
noncomputable def f_X9_carriedParcel (W : Nat → Nat → Int32) (a1 : Int32) (a2 : Int32) : Option (String ⊕ Int32) :=
  bdt (f_X9_checkTrain W a1) (fun e => some (.inl e)) (fun _ => bdc (f_X4_findCarried (W 0) a1 a2) (fun v1 => if v1 = (-1 : Int32) then some (.inl NSE) else some (.inr v1)))
theorem e_X9_carriedParcel {G : GT} {f0 : Nat} {b c : Nat} {M : MM} {hi : Nat} {W : Nat → Nat → Int32} {a1 : Int32} {a2 : Int32} {r : (String ⊕ Int32)} (hf0 : 9 ≤ f0) (hc1 : 609 ≤ c) (h : f_X9_carriedParcel W a1 a2 = some r) : Ex G f0 mX9_carriedParcel [.ref (b), .int a1, .int a2] (MEM b c W M) hi 2 12 (RP (rhoI r) (MEM b c W M)) := by
  obtain ⟨f, rfl, hf⟩ := suc_of hf0
  unfold f_X9_carriedParcel at h
  refine ⟨Nat.le_of_ble_eq_true rfl, ?_⟩
  refine V_aload_n (i := 0) dX9_carriedParcel_0 rfl rfl ?_
  refine V_iload_n (i := 1) dX9_carriedParcel_1 rfl rfl ?_
  refine D_tVU (As := [_]) (k2 := 1) (n2 := 6) h dX9_carriedParcel_2 cv_X9_162 rfl ⟨_, _, _, (mem_x9 hc1), rfl, rfl⟩ rfl (Nat.le_of_ble_eq_true rfl) (fun x hx => e_X9_checkTrain (Nat.le_trans (Nat.le_of_ble_eq_true rfl) hf) hc1 hx) (fun e hi h => Or.inl ⟨rfl, by obtain rfl := Option.some.inj h; exact ⟨rfl, rfl⟩⟩) fun hi h => ?_
  refine V_aload_n (i := 0) dX9_carriedParcel_5 rfl rfl ?_
  refine V_getfield dX9_carriedParcel_6 (mem_x9 hc1) fl_X9_10 rfl ?_
  refine V_iload_n (i := 1) dX9_carriedParcel_9 rfl rfl ?_
  refine V_iload_n (i := 2) dX9_carriedParcel_10 rfl rfl ?_
  refine D_cVI (As := [_, _]) h dX9_carriedParcel_11 cv_X9_183 rfl ⟨_, _, _, (mst_o (u := 0) hc1 (by decide) rfl), rfl, rfl⟩ rfl (Nat.le_of_ble_eq_true rfl) (fun x hx => lift0 (u := 0) hc1 (by decide) rfl (e_X4_findCarried (Nat.le_trans (Nat.le_of_ble_eq_true rfl) hf) hx)) fun v1 h => ?_
  refine V_istore_n (i := 3) dX9_carriedParcel_14 rfl (Nat.le_of_ble_eq_true rfl) ?_
  refine V_iload_n (i := 3) dX9_carriedParcel_15 rfl rfl ?_
  refine V_iconst (v := -1) dX9_carriedParcel_16 (by decide) ?_
  refine D_icmp_ne (tgt := 30) h dX9_carriedParcel_17 rfl (fun b2 h => ?_) (fun b2 h => ?_)
  · refine V_iload_n (i := 3) dX9_carriedParcel_30 rfl rfl ?_
    obtain rfl := Option.some.inj h
    exact V_ireturn dX9_carriedParcel_31 ⟨_, rfl, rfl⟩ ⟨rfl, rfl⟩
  · obtain rfl := Option.some.inj h
    exact V_throwN (j := 13) dX9_carriedParcel_20 dX9_carriedParcel_23 dX9_carriedParcel_24 dX9_carriedParcel_26 dX9_carriedParcel_29 tw_977 tw_987 (by decide +kernel) (Nat.le_of_ble_eq_true rfl) (Nat.le_trans (Nat.le_of_ble_eq_true rfl) hf) rfl (fun _ _ => ⟨rfl, rfl⟩)
noncomputable def f_X9_checkParcel (W : Nat → Nat → Int32) (a1 : Int32) : Option (String ⊕ Unit) :=
  if a1 < 0 then some (.inl "java/lang/IndexOutOfBoundsException") else if a1 < (W 0 4) then some (.inr ()) else some (.inl "java/lang/IndexOutOfBoundsException")
theorem e_X9_checkParcel {G : GT} {f0 : Nat} {b c : Nat} {M : MM} {hi : Nat} {W : Nat → Nat → Int32} {a1 : Int32} {r : (String ⊕ Unit)} (hf0 : 8 ≤ f0) (hc1 : 609 ≤ c) (h : f_X9_checkParcel W a1 = some r) : Ex G f0 mX9_checkParcel [.ref (b), .int a1] (MEM b c W M) hi 1 6 (RP (rhoU r) (MEM b c W M)) := by
  obtain ⟨f, rfl, hf⟩ := suc_of hf0
  unfold f_X9_checkParcel at h
  refine ⟨Nat.le_of_ble_eq_true rfl, ?_⟩
  refine V_iload_n (i := 1) dX9_checkParcel_0 rfl rfl ?_
  refine D_if_lt (tgt := 15) h dX9_checkParcel_1 rfl (fun b1 h => ?_) (fun b1 h => ?_)
  · obtain rfl := Option.some.inj h
    exact V_throwSW (j := 15) dX9_checkParcel_15 dX9_checkParcel_18 dX9_checkParcel_19 dX9_checkParcel_22 dX9_checkParcel_25 (by decide) tw_931 tw_941 (by decide +kernel) (Nat.le_of_ble_eq_true rfl) (Nat.le_trans (Nat.le_of_ble_eq_true rfl) hf) rfl (fun _ _ => ⟨rfl, rfl⟩)
  · refine V_iload_n (i := 1) dX9_checkParcel_4 rfl rfl ?_
    refine V_aload_n (i := 0) dX9_checkParcel_5 rfl rfl ?_
    refine V_getfield dX9_checkParcel_6 (mem_x9 hc1) fl_X9_10 rfl ?_
    refine V_getfield dX9_checkParcel_9 (mst_o (u := 0) hc1 (by decide) rfl) fl_X9_112 rfl ?_
    refine D_icmp_lt (tgt := 26) h dX9_checkParcel_12 rfl (fun b2 h => ?_) (fun b2 h => ?_)
    · obtain rfl := Option.some.inj h
      exact V_return dX9_checkParcel_26 rfl ⟨rfl, rfl⟩
    · obtain rfl := Option.some.inj h
      exact V_throwSW (j := 15) dX9_checkParcel_15 dX9_checkParcel_18 dX9_checkParcel_19 dX9_checkParcel_22 dX9_checkParcel_25 (by decide) tw_931 tw_941 (by decide +kernel) (Nat.le_of_ble_eq_true rfl) (Nat.le_trans (Nat.le_of_ble_eq_true rfl) hf) rfl (fun _ _ => ⟨rfl, rfl⟩)
noncomputable def f_X9_clock (W : Nat → Nat → Int32) : Option Int32 :=
  some (W 0 0)
theorem e_X9_clock {G : GT} {f0 : Nat} {b c : Nat} {M : MM} {hi k n : Nat} {W : Nat → Nat → Int32} {r : Int32} (hf0 : 1 ≤ f0) (hc1 : 609 ≤ c) (h : f_X9_clock W = some r) : Ex G f0 mX9_clock [.ref (b)] (MEM b c W M) hi k n (RH (.inl (some (.int r))) (MEM b c W M) hi) := by
  obtain ⟨f, rfl, hf⟩ := suc_of hf0
  unfold f_X9_clock at h
  refine ⟨Nat.le_of_ble_eq_true rfl, ?_⟩
  refine V_aload_n (i := 0) dX9_clock_0 rfl rfl ?_
  refine V_getfield dX9_clock_1 (mem_x9 hc1) fl_X9_10 rfl ?_
  refine V_getfield dX9_clock_4 (mst_o (u := 0) hc1 (by decide) rfl) fl_X9_103 rfl ?_
  obtain rfl := Option.some.inj h
  exact V_ireturn dX9_clock_7 ⟨_, rfl, rfl⟩ ⟨rfl, rfl, rfl⟩
noncomputable def l_X9_countDeliveredWithout_22 (c2 : Int32) : Nat → (Nat → Nat → Int32) → Int32 → Option (Int32 × (Nat → Nat → Int32))
  | 0, _, _ => none
  | N + 1, W, x3 => if c2 ≤ x3 then bdc (f_X4_countDelivered (W 1)) (fun v6 => some (v6, W)) else bdc (f_X4_passMinute (W 1)) (fun S8 => bnd (setU W 1 S8) (fun W7 => l_X9_countDeliveredWithout_22 c2 N W7 (x3 + (1 : Int32))))
theorem lv_X9_countDeliveredWithout_22 {G : GT} {f : Nat} {b c : Nat} {M : MM} {hi k n : Nat} {c2 : Int32} {r : (Int32 × (Nat → Nat → Int32))} (hf : 5 ≤ f) (hc1 : 609 ≤ c) : ∀ (N : Nat) (W : Nat → Nat → Int32) (x3 : Int32) , l_X9_countDeliveredWithout_22 c2 N W x3 = some r → V G f (Ex G f) mX9_countDeliveredWithout (RH (.inl (some (.int r.1))) (MEM b c r.2 M) hi) 22 [(0, .ref (b)), (2, .int c2), (3, .int x3)] [] (MEM b c W M) hi k n := by
  intro N
  induction N with
  | zero => intro W x3 h; cases h
  | succ N ih =>
    intro W x3 h
    rw [l_X9_countDeliveredWithout_22] at h
    refine V_iload_n (i := 3) dX9_countDeliveredWithout_22 rfl rfl ?_
    refine V_iload_n (i := 2) dX9_countDeliveredWithout_23 rfl rfl ?_
    refine D_icmp_ge (tgt := 40) h dX9_countDeliveredWithout_24 rfl (fun b5 h => ?_) (fun b5 h => ?_)
    · refine V_aload_n (i := 0) dX9_countDeliveredWithout_40 rfl rfl ?_
      refine V_getfield dX9_countDeliveredWithout_41 (mem_x9 hc1) fl_X9_16 rfl ?_
      refine D_cVI (As := []) h dX9_countDeliveredWithout_44 cv_X9_249 rfl ⟨_, _, _, (mst_o (u := 1) hc1 (by decide) rfl), rfl, rfl⟩ rfl (Nat.le_of_ble_eq_true rfl) (fun x hx => lift0 (u := 1) hc1 (by decide) rfl (e_X4_countDelivered (Nat.le_trans (Nat.le_of_ble_eq_true rfl) hf) hx)) fun v6 h => ?_
      obtain rfl := Option.some.inj h
      exact V_ireturn dX9_countDeliveredWithout_47 ⟨_, rfl, rfl⟩ ⟨rfl, rfl, rfl⟩
    · refine V_aload_n (i := 0) dX9_countDeliveredWithout_27 rfl rfl ?_
      refine V_getfield dX9_countDeliveredWithout_28 (mem_x9 hc1) fl_X9_16 rfl ?_
      refine D_cVU (As := []) (μ := fun S8 => (MEM b c (setU W 1 S8) M)) h dX9_countDeliveredWithout_31 cv_X9_268 rfl ⟨_, _, _, (mst_o (u := 1) hc1 (by decide) rfl), rfl, rfl⟩ rfl (Nat.le_of_ble_eq_true rfl) (fun y hx => lift1 (u := 1) hc1 (by decide) rfl (e_X4_passMinute (Nat.le_trans (Nat.le_of_ble_eq_true rfl) hf) hx)) fun S8 h => ?_
      refine D3_gen (μ := fun W => (MEM b c W M)) h fun W7 h => ?_
      refine D_iinc (i := 3) (w := 1) dX9_countDeliveredWithout_34 rfl (by decide) (Nat.le_of_ble_eq_true rfl) ?_
      refine V_goto (tgt := 22) dX9_countDeliveredWithout_37 rfl ?_
      exact V_sub (ks := [1, 2, 0]) rfl (ih _ _ h)
noncomputable def f_X9_countDeliveredWithout (W : Nat → Nat → Int32) (a1 : Int32) (a2 : Int32) : Option (Int32 × (Nat → Nat → Int32)) :=
  bdc (f_X4_copyFrom (W 1) (W 0)) (fun S2 => bnd (setU W 1 S2) (fun W1 => bdc (f_X4_openTrack (W1 1) a1 (0 : Int32)) (fun S4 => bnd (setU W1 1 S4) (fun W3 => l_X9_countDeliveredWithout_22 a2 FU W3 (0 : Int32)))))
theorem e_X9_countDeliveredWithout {G : GT} {f0 : Nat} {b c : Nat} {M : MM} {hi k n : Nat} {W : Nat → Nat → Int32} {a1 : Int32} {a2 : Int32} {r : (Int32 × (Nat → Nat → Int32))} (hf0 : 6 ≤ f0) (hc1 : 609 ≤ c) (h : f_X9_countDeliveredWithout W a1 a2 = some r) : Ex G f0 mX9_countDeliveredWithout [.ref (b), .int a1, .int a2] (MEM b c W M) hi k n (RH (.inl (some (.int r.1))) (MEM b c r.2 M) hi) := by
  obtain ⟨f, rfl, hf⟩ := suc_of hf0
  unfold f_X9_countDeliveredWithout at h
  refine ⟨Nat.le_of_ble_eq_true rfl, ?_⟩
  refine V_aload_n (i := 0) dX9_countDeliveredWithout_0 rfl rfl ?_
  refine V_getfield dX9_countDeliveredWithout_1 (mem_x9 hc1) fl_X9_16 rfl ?_
  refine V_aload_n (i := 0) dX9_countDeliveredWithout_4 rfl rfl ?_
  refine V_getfield dX9_countDeliveredWithout_5 (mem_x9 hc1) fl_X9_10 rfl ?_
  refine D_cVU (As := [_]) (μ := fun S2 => (MEM b c (setU W 1 S2) M)) h dX9_countDeliveredWithout_8 cv_X9_66 rfl ⟨_, _, _, (mst_o (u := 1) hc1 (by decide) rfl), rfl, rfl⟩ rfl (Nat.le_of_ble_eq_true rfl) (fun y hx => lift2 (u := 1) (v := 0) hc1 (by decide) (by decide) rfl rfl (e_X4_copyFrom (Nat.le_trans (Nat.le_of_ble_eq_true rfl) hf) (show apt (b + 47) (b + 1) by unfold apt; omega) hx)) fun S2 h => ?_
  refine D3_gen (μ := fun W => (MEM b c W M)) h fun W1 h => ?_
  refine V_aload_n (i := 0) dX9_countDeliveredWithout_11 rfl rfl ?_
  refine V_getfield dX9_countDeliveredWithout_12 (mem_x9 hc1) fl_X9_16 rfl ?_
  refine V_iload_n (i := 1) dX9_countDeliveredWithout_15 rfl rfl ?_
  refine V_iconst (v := 0) dX9_countDeliveredWithout_16 (by decide) ?_
  refine D_cVU (As := [_, _]) (μ := fun S4 => (MEM b c (setU W1 1 S4) M)) h dX9_countDeliveredWithout_17 cv_X9_294 rfl ⟨_, _, _, (mst_o (u := 1) hc1 (by decide) rfl), rfl, rfl⟩ rfl (Nat.le_of_ble_eq_true rfl) (fun y hx => lift1 (u := 1) hc1 (by decide) rfl (e_X4_openTrack (Nat.le_trans (Nat.le_of_ble_eq_true rfl) hf) hx)) fun S4 h => ?_
  refine D3_gen (μ := fun W => (MEM b c W M)) h fun W3 h => ?_
  refine V_iconst (v := 0) dX9_countDeliveredWithout_20 (by decide) ?_
  refine V_istore_n (i := 3) dX9_countDeliveredWithout_21 rfl (Nat.le_of_ble_eq_true rfl) ?_
  refine V_sub (ks := [1, 3, 0]) rfl (lv_X9_countDeliveredWithout_22 hf hc1 FU _ _ h)
noncomputable def f_X9_delay (W : Nat → Nat → Int32) (a1 : Int32) : Option (String ⊕ Int32) :=
  bdt (f_X9_checkTrain W a1) (fun e => some (.inl e)) (fun _ => gd (inr a1 4) (some (.inr (W 0 (87 + 14 * ix a1 + 11)))))
theorem e_X9_delay {G : GT} {f0 : Nat} {b c : Nat} {M : MM} {hi : Nat} {W : Nat → Nat → Int32} {a1 : Int32} {r : (String ⊕ Int32)} (hf0 : 9 ≤ f0) (hc1 : 609 ≤ c) (h : f_X9_delay W a1 = some r) : Ex G f0 mX9_delay [.ref (b), .int a1] (MEM b c W M) hi 1 6 (RP (rhoI r) (MEM b c W M)) := by
  obtain ⟨f, rfl, hf⟩ := suc_of hf0
  unfold f_X9_delay at h
  refine ⟨Nat.le_of_ble_eq_true rfl, ?_⟩
  refine V_aload_n (i := 0) dX9_delay_0 rfl rfl ?_
  refine V_iload_n (i := 1) dX9_delay_1 rfl rfl ?_
  refine D_tVU (As := [_]) (k2 := 1) (n2 := 6) h dX9_delay_2 cv_X9_162 rfl ⟨_, _, _, (mem_x9 hc1), rfl, rfl⟩ rfl (Nat.le_of_ble_eq_true rfl) (fun x hx => e_X9_checkTrain (Nat.le_trans (Nat.le_of_ble_eq_true rfl) hf) hc1 hx) (fun e hi h => Or.inl ⟨rfl, by obtain rfl := Option.some.inj h; exact ⟨rfl, rfl⟩⟩) fun hi h => ?_
  refine V_aload_n (i := 0) dX9_delay_5 rfl rfl ?_
  refine V_getfield dX9_delay_6 (mem_x9 hc1) fl_X9_10 rfl ?_
  refine V_getfield dX9_delay_9 (mst_o (u := 0) hc1 (by decide) rfl) fl_X9_165 rfl ?_
  refine V_iload_n (i := 1) dX9_delay_12 rfl rfl ?_
  refine D_aldTr h (mst (u := 0) hc1 (by decide) rfl) dX9_delay_13 fun g1 h => ?_
  refine V_getfield dX9_delay_14 (mst_tr (u := 0) hc1 (by decide) rfl g1) fl_X9_199 rfl ?_
  obtain rfl := Option.some.inj h
  exact V_ireturn dX9_delay_17 ⟨_, rfl, rfl⟩ ⟨rfl, rfl⟩
noncomputable def f_X9_deliveredAfter (W : Nat → Nat → Int32) (a1 : Int32) : Option ((String ⊕ Int32) × (Nat → Nat → Int32)) :=
  bdt (f_X9_checkRange a1 (0 : Int32) (120 : Int32)) (fun e => some (.inl e, W)) (fun _ => bdc (f_X4_copyFrom (W 1) (W 0)) (fun S2 => bnd (setU W 1 S2) (fun W1 => bdc (f_X4_passMinutes (W1 1) a1) (fun S4 => bnd (setU W1 1 S4) (fun W3 => bdc (f_X4_countDelivered (W3 1)) (fun v5 => some (.inr v5, W3)))))))
theorem e_X9_deliveredAfter {G : GT} {f0 : Nat} {b c : Nat} {M : MM} {hi : Nat} {W : Nat → Nat → Int32} {a1 : Int32} {r : ((String ⊕ Int32) × (Nat → Nat → Int32))} (hf0 : 9 ≤ f0) (hc1 : 609 ≤ c) (h : f_X9_deliveredAfter W a1 = some r) : Ex G f0 mX9_deliveredAfter [.ref (b), .int a1] (MEM b c W M) hi 1 6 (RP (rhoI r.1) (MEM b c r.2 M)) := by
  obtain ⟨f, rfl, hf⟩ := suc_of hf0
  unfold f_X9_deliveredAfter at h
  refine ⟨Nat.le_of_ble_eq_true rfl, ?_⟩
  refine V_iload_n (i := 1) dX9_deliveredAfter_0 rfl rfl ?_
  refine V_iconst (v := 0) dX9_deliveredAfter_1 (by decide) ?_
  refine V_bipush (v := 120) dX9_deliveredAfter_2 (by decide) ?_
  refine D_tSU (As := [_, _, _]) (k2 := 1) (n2 := 6) h dX9_deliveredAfter_4 cs_X9_274 rfl rfl (Nat.le_of_ble_eq_true rfl) (fun x hx => e_X9_checkRange (Nat.le_trans (Nat.le_of_ble_eq_true rfl) hf) hx) (fun e hi h => Or.inl ⟨rfl, by obtain rfl := Option.some.inj h; exact ⟨rfl, rfl⟩⟩) fun hi h => ?_
  refine V_aload_n (i := 0) dX9_deliveredAfter_7 rfl rfl ?_
  refine V_getfield dX9_deliveredAfter_8 (mem_x9 hc1) fl_X9_16 rfl ?_
  refine V_aload_n (i := 0) dX9_deliveredAfter_11 rfl rfl ?_
  refine V_getfield dX9_deliveredAfter_12 (mem_x9 hc1) fl_X9_10 rfl ?_
  refine D_cVU (As := [_]) (μ := fun S2 => (MEM b c (setU W 1 S2) M)) h dX9_deliveredAfter_15 cv_X9_66 rfl ⟨_, _, _, (mst_o (u := 1) hc1 (by decide) rfl), rfl, rfl⟩ rfl (Nat.le_of_ble_eq_true rfl) (fun y hx => lift2 (u := 1) (v := 0) hc1 (by decide) (by decide) rfl rfl (e_X4_copyFrom (Nat.le_trans (Nat.le_of_ble_eq_true rfl) hf) (show apt (b + 47) (b + 1) by unfold apt; omega) hx)) fun S2 h => ?_
  refine D3_gen (μ := fun W => (MEM b c W M)) h fun W1 h => ?_
  refine V_aload_n (i := 0) dX9_deliveredAfter_18 rfl rfl ?_
  refine V_getfield dX9_deliveredAfter_19 (mem_x9 hc1) fl_X9_16 rfl ?_
  refine V_iload_n (i := 1) dX9_deliveredAfter_22 rfl rfl ?_
  refine D_cVU (As := [_]) (μ := fun S4 => (MEM b c (setU W1 1 S4) M)) h dX9_deliveredAfter_23 cv_X9_278 rfl ⟨_, _, _, (mst_o (u := 1) hc1 (by decide) rfl), rfl, rfl⟩ rfl (Nat.le_of_ble_eq_true rfl) (fun y hx => lift1 (u := 1) hc1 (by decide) rfl (e_X4_passMinutes (Nat.le_trans (Nat.le_of_ble_eq_true rfl) hf) hx)) fun S4 h => ?_
  refine D3_gen (μ := fun W => (MEM b c W M)) h fun W3 h => ?_
  refine V_aload_n (i := 0) dX9_deliveredAfter_26 rfl rfl ?_
  refine V_getfield dX9_deliveredAfter_27 (mem_x9 hc1) fl_X9_16 rfl ?_
  refine D_cVI (As := []) h dX9_deliveredAfter_30 cv_X9_249 rfl ⟨_, _, _, (mst_o (u := 1) hc1 (by decide) rfl), rfl, rfl⟩ rfl (Nat.le_of_ble_eq_true rfl) (fun x hx => lift0 (u := 1) hc1 (by decide) rfl (e_X4_countDelivered (Nat.le_trans (Nat.le_of_ble_eq_true rfl) hf) hx)) fun v5 h => ?_
  obtain rfl := Option.some.inj h
  exact V_ireturn dX9_deliveredAfter_33 ⟨_, rfl, rfl⟩ ⟨rfl, rfl⟩
noncomputable def f_X9_deliveredCount (W : Nat → Nat → Int32) : Option Int32 :=
  bdc (f_X4_countDelivered (W 0)) (fun v1 => some v1)
theorem e_X9_deliveredCount {G : GT} {f0 : Nat} {b c : Nat} {M : MM} {hi k n : Nat} {W : Nat → Nat → Int32} {r : Int32} (hf0 : 3 ≤ f0) (hc1 : 609 ≤ c) (h : f_X9_deliveredCount W = some r) : Ex G f0 mX9_deliveredCount [.ref (b)] (MEM b c W M) hi k n (RH (.inl (some (.int r))) (MEM b c W M) hi) := by
  obtain ⟨f, rfl, hf⟩ := suc_of hf0
  unfold f_X9_deliveredCount at h
  refine ⟨Nat.le_of_ble_eq_true rfl, ?_⟩
  refine V_aload_n (i := 0) dX9_deliveredCount_0 rfl rfl ?_
  refine V_getfield dX9_deliveredCount_1 (mem_x9 hc1) fl_X9_10 rfl ?_
  refine D_cVI (As := []) h dX9_deliveredCount_4 cv_X9_249 rfl ⟨_, _, _, (mst_o (u := 0) hc1 (by decide) rfl), rfl, rfl⟩ rfl (Nat.le_of_ble_eq_true rfl) (fun x hx => lift0 (u := 0) hc1 (by decide) rfl (e_X4_countDelivered (Nat.le_trans (Nat.le_of_ble_eq_true rfl) hf) hx)) fun v1 h => ?_
  obtain rfl := Option.some.inj h
  exact V_ireturn dX9_deliveredCount_7 ⟨_, rfl, rfl⟩ ⟨rfl, rfl, rfl⟩
noncomputable def f_X9_requireTrack (W : Nat → Nat → Int32) (a1 : Int32) (a2 : Int32) : Option (String ⊕ Int32) :=
  bdc (f_X4_findTrack (W 0) a1 a2) (fun v1 => if v1 = (-1 : Int32) then some (.inl "java/lang/IllegalArgumentException") else some (.inr v1))
theorem e_X9_requireTrack {G : GT} {f0 : Nat} {b c : Nat} {M : MM} {hi : Nat} {W : Nat → Nat → Int32} {a1 : Int32} {a2 : Int32} {r : (String ⊕ Int32)} (hf0 : 8 ≤ f0) (hc1 : 609 ≤ c) (h : f_X9_requireTrack W a1 a2 = some r) : Ex G f0 mX9_requireTrack [.ref (b), .int a1, .int a2] (MEM b c W M) hi 1 6 (RP (rhoI r) (MEM b c W M)) := by
  obtain ⟨f, rfl, hf⟩ := suc_of hf0
  unfold f_X9_requireTrack at h
  refine ⟨Nat.le_of_ble_eq_true rfl, ?_⟩
  refine V_aload_n (i := 0) dX9_requireTrack_0 rfl rfl ?_
  refine V_getfield dX9_requireTrack_1 (mem_x9 hc1) fl_X9_10 rfl ?_
  refine V_iload_n (i := 1) dX9_requireTrack_4 rfl rfl ?_
  refine V_iload_n (i := 2) dX9_requireTrack_5 rfl rfl ?_
  refine D_cVI (As := [_, _]) h dX9_requireTrack_6 cv_X9_144 rfl ⟨_, _, _, (mst_o (u := 0) hc1 (by decide) rfl), rfl, rfl⟩ rfl (Nat.le_of_ble_eq_true rfl) (fun x hx => lift0 (u := 0) hc1 (by decide) rfl (e_X4_findTrack (Nat.le_trans (Nat.le_of_ble_eq_true rfl) hf) hx)) fun v1 h => ?_
  refine V_istore_n (i := 3) dX9_requireTrack_9 rfl (Nat.le_of_ble_eq_true rfl) ?_
  refine V_iload_n (i := 3) dX9_requireTrack_10 rfl rfl ?_
  refine V_iconst (v := -1) dX9_requireTrack_11 (by decide) ?_
  refine D_icmp_ne (tgt := 26) h dX9_requireTrack_12 rfl (fun b2 h => ?_) (fun b2 h => ?_)
  · refine V_iload_n (i := 3) dX9_requireTrack_26 rfl rfl ?_
    obtain rfl := Option.some.inj h
    exact V_ireturn dX9_requireTrack_27 ⟨_, rfl, rfl⟩ ⟨rfl, rfl⟩
  · obtain rfl := Option.some.inj h
    exact V_throwSW (j := 17) dX9_requireTrack_15 dX9_requireTrack_18 dX9_requireTrack_19 dX9_requireTrack_22 dX9_requireTrack_25 (by decide) tw_890 tw_900 (by decide +kernel) (Nat.le_of_ble_eq_true rfl) (Nat.le_trans (Nat.le_of_ble_eq_true rfl) hf) rfl (fun _ _ => ⟨rfl, rfl⟩)
noncomputable def f_X9_deliveredIfClosed (W : Nat → Nat → Int32) (a1 : Int32) (a2 : Int32) (a3 : Int32) : Option ((String ⊕ Int32) × (Nat → Nat → Int32)) :=
  bdt (f_X9_checkStation W a1) (fun e => some (.inl e, W)) (fun _ => bdt (f_X9_checkStation W a2) (fun e => some (.inl e, W)) (fun _ => bdt (f_X9_requireTrack W a1 a2) (fun e => some (.inl e, W)) (fun v1 => bdt (f_X9_checkRange a3 (0 : Int32) (120 : Int32)) (fun e => some (.inl e, W)) (fun _ => bd2 (f_X9_countDeliveredWithout W v1 a3) (fun v3 W2 => some (.inr v3, W2))))))
theorem e_X9_deliveredIfClosed {G : GT} {f0 : Nat} {b c : Nat} {M : MM} {hi : Nat} {W : Nat → Nat → Int32} {a1 : Int32} {a2 : Int32} {a3 : Int32} {r : ((String ⊕ Int32) × (Nat → Nat → Int32))} (hf0 : 9 ≤ f0) (hc1 : 609 ≤ c) (h : f_X9_deliveredIfClosed W a1 a2 a3 = some r) : Ex G f0 mX9_deliveredIfClosed [.ref (b), .int a1, .int a2, .int a3] (MEM b c W M) hi 4 24 (RP (rhoI r.1) (MEM b c r.2 M)) := by
  obtain ⟨f, rfl, hf⟩ := suc_of hf0
  unfold f_X9_deliveredIfClosed at h
  refine ⟨Nat.le_of_ble_eq_true rfl, ?_⟩
  refine V_aload_n (i := 0) dX9_deliveredIfClosed_0 rfl rfl ?_
  refine V_iload_n (i := 1) dX9_deliveredIfClosed_1 rfl rfl ?_
  refine D_tVU (As := [_]) (k2 := 1) (n2 := 6) h dX9_deliveredIfClosed_2 cv_X9_115 rfl ⟨_, _, _, (mem_x9 hc1), rfl, rfl⟩ rfl (Nat.le_of_ble_eq_true rfl) (fun x hx => e_X9_checkStation (Nat.le_trans (Nat.le_of_ble_eq_true rfl) hf) hc1 hx) (fun e hi h => Or.inl ⟨rfl, by obtain rfl := Option.some.inj h; exact ⟨rfl, rfl⟩⟩) fun hi h => ?_
  refine V_aload_n (i := 0) dX9_deliveredIfClosed_5 rfl rfl ?_
  refine V_iload_n (i := 2) dX9_deliveredIfClosed_6 rfl rfl ?_
  refine D_tVU (As := [_]) (k2 := 1) (n2 := 6) h dX9_deliveredIfClosed_7 cv_X9_115 rfl ⟨_, _, _, (mem_x9 hc1), rfl, rfl⟩ rfl (Nat.le_of_ble_eq_true rfl) (fun x hx => e_X9_checkStation (Nat.le_trans (Nat.le_of_ble_eq_true rfl) hf) hc1 hx) (fun e hi h => Or.inl ⟨rfl, by obtain rfl := Option.some.inj h; exact ⟨rfl, rfl⟩⟩) fun hi h => ?_
  refine V_aload_n (i := 0) dX9_deliveredIfClosed_10 rfl rfl ?_
  refine V_iload_n (i := 1) dX9_deliveredIfClosed_11 rfl rfl ?_
  refine V_iload_n (i := 2) dX9_deliveredIfClosed_12 rfl rfl ?_
  refine D_tVI (As := [_, _]) (k2 := 1) (n2 := 6) h dX9_deliveredIfClosed_13 cv_X9_281 rfl ⟨_, _, _, (mem_x9 hc1), rfl, rfl⟩ rfl (Nat.le_of_ble_eq_true rfl) (fun x hx => e_X9_requireTrack (Nat.le_trans (Nat.le_of_ble_eq_true rfl) hf) hc1 hx) (fun e hi h => Or.inl ⟨rfl, by obtain rfl := Option.some.inj h; exact ⟨rfl, rfl⟩⟩) fun v1 hi h => ?_
  refine V_istore (i := 4) dX9_deliveredIfClosed_16 (Nat.le_of_ble_eq_true rfl) ?_
  refine V_iload_n (i := 3) dX9_deliveredIfClosed_18 rfl rfl ?_
  refine V_iconst (v := 0) dX9_deliveredIfClosed_19 (by decide) ?_
  refine V_bipush (v := 120) dX9_deliveredIfClosed_20 (by decide) ?_
  refine D_tSU (As := [_, _, _]) (k2 := 1) (n2 := 6) h dX9_deliveredIfClosed_22 cs_X9_274 rfl rfl (Nat.le_of_ble_eq_true rfl) (fun x hx => e_X9_checkRange (Nat.le_trans (Nat.le_of_ble_eq_true rfl) hf) hx) (fun e hi h => Or.inl ⟨rfl, by obtain rfl := Option.some.inj h; exact ⟨rfl, rfl⟩⟩) fun hi h => ?_
  refine V_aload_n (i := 0) dX9_deliveredIfClosed_25 rfl rfl ?_
  refine V_iload (i := 4) dX9_deliveredIfClosed_26 rfl ?_
  refine V_iload_n (i := 3) dX9_deliveredIfClosed_28 rfl rfl ?_
  refine D_cVIW (As := [_, _]) (μ := fun W2 => (MEM b c W2 M)) h dX9_deliveredIfClosed_29 cv_X9_284 rfl ⟨_, _, _, (mem_x9 hc1), rfl, rfl⟩ rfl (Nat.le_of_ble_eq_true rfl) (fun x y hx => e_X9_countDeliveredWithout (Nat.le_trans (Nat.le_of_ble_eq_true rfl) hf) hc1 hx) fun v3 W2 h => ?_
  obtain rfl := Option.some.inj h
  exact V_ireturn dX9_deliveredIfClosed_32 ⟨_, rfl, rfl⟩ ⟨rfl, rfl⟩
noncomputable def f_X9_deliveredShare (W : Nat → Nat → Int32) : Option UInt32 :=
  if (W 0 4) = 0 then some FP.fconst0 else bdc (f_X4_countDelivered (W 0)) (fun v2 => gdp (vf_n32 (FP.fdiv (FP.i2f v2) (FP.i2f (W 0 4)))) (some (FP.fdiv (FP.i2f v2) (FP.i2f (W 0 4)))))
theorem e_X9_deliveredShare {G : GT} {f0 : Nat} {b c : Nat} {M : MM} {hi k n : Nat} {W : Nat → Nat → Int32} {r : UInt32} (hf0 : 3 ≤ f0) (hc1 : 609 ≤ c) (h : f_X9_deliveredShare W = some r) : Ex G f0 mX9_deliveredShare [.ref (b)] (MEM b c W M) hi k n (RH (.inl (some (.float r))) (MEM b c W M) hi) := by
  obtain ⟨f, rfl, hf⟩ := suc_of hf0
  unfold f_X9_deliveredShare at h
  refine ⟨Nat.le_of_ble_eq_true rfl, ?_⟩
  refine V_aload_n (i := 0) dX9_deliveredShare_0 rfl rfl ?_
  refine V_getfield dX9_deliveredShare_1 (mem_x9 hc1) fl_X9_10 rfl ?_
  refine V_getfield dX9_deliveredShare_4 (mst_o (u := 0) hc1 (by decide) rfl) fl_X9_112 rfl ?_
  refine D_if_ne (tgt := 12) h dX9_deliveredShare_7 rfl (fun b1 h => ?_) (fun b1 h => ?_)
  · refine V_aload_n (i := 0) dX9_deliveredShare_12 rfl rfl ?_
    refine V_getfield dX9_deliveredShare_13 (mem_x9 hc1) fl_X9_10 rfl ?_
    refine D_cVI (As := []) h dX9_deliveredShare_16 cv_X9_249 rfl ⟨_, _, _, (mst_o (u := 0) hc1 (by decide) rfl), rfl, rfl⟩ rfl (Nat.le_of_ble_eq_true rfl) (fun x hx => lift0 (u := 0) hc1 (by decide) rfl (e_X4_countDelivered (Nat.le_trans (Nat.le_of_ble_eq_true rfl) hf) hx)) fun v2 h => ?_
    refine V_i2f dX9_deliveredShare_19 ?_
    refine V_aload_n (i := 0) dX9_deliveredShare_20 rfl rfl ?_
    refine V_getfield dX9_deliveredShare_21 (mem_x9 hc1) fl_X9_10 rfl ?_
    refine V_getfield dX9_deliveredShare_24 (mst_o (u := 0) hc1 (by decide) rfl) fl_X9_112 rfl ?_
    refine V_i2f dX9_deliveredShare_27 ?_
    refine D_gdp h fun g3 h => ?_
    refine V_fdiv dX9_deliveredShare_28 g3 ?_
    obtain rfl := Option.some.inj h
    exact V_freturn dX9_deliveredShare_29 rfl ⟨rfl, rfl, rfl⟩
  · refine V_fconst0 dX9_deliveredShare_10 ?_
    obtain rfl := Option.some.inj h
    exact V_freturn dX9_deliveredShare_11 rfl ⟨rfl, rfl, rfl⟩
noncomputable def f_X9_deliveryClock (W : Nat → Nat → Int32) (a1 : Int32) : Option (String ⊕ Int32) :=
  bdt (f_X9_checkParcel W a1) (fun e => some (.inl e)) (fun _ => gd (inr a1 12) (some (.inr (W 0 (143 + 9 * ix a1 + 8)))))
theorem e_X9_deliveryClock {G : GT} {f0 : Nat} {b c : Nat} {M : MM} {hi : Nat} {W : Nat → Nat → Int32} {a1 : Int32} {r : (String ⊕ Int32)} (hf0 : 9 ≤ f0) (hc1 : 609 ≤ c) (h : f_X9_deliveryClock W a1 = some r) : Ex G f0 mX9_deliveryClock [.ref (b), .int a1] (MEM b c W M) hi 1 6 (RP (rhoI r) (MEM b c W M)) := by
  obtain ⟨f, rfl, hf⟩ := suc_of hf0
  unfold f_X9_deliveryClock at h
  refine ⟨Nat.le_of_ble_eq_true rfl, ?_⟩
  refine V_aload_n (i := 0) dX9_deliveryClock_0 rfl rfl ?_
  refine V_iload_n (i := 1) dX9_deliveryClock_1 rfl rfl ?_
  refine D_tVU (As := [_]) (k2 := 1) (n2 := 6) h dX9_deliveryClock_2 cv_X9_208 rfl ⟨_, _, _, (mem_x9 hc1), rfl, rfl⟩ rfl (Nat.le_of_ble_eq_true rfl) (fun x hx => e_X9_checkParcel (Nat.le_trans (Nat.le_of_ble_eq_true rfl) hf) hc1 hx) (fun e hi h => Or.inl ⟨rfl, by obtain rfl := Option.some.inj h; exact ⟨rfl, rfl⟩⟩) fun hi h => ?_
  refine V_aload_n (i := 0) dX9_deliveryClock_5 rfl rfl ?_
  refine V_getfield dX9_deliveryClock_6 (mem_x9 hc1) fl_X9_10 rfl ?_
  refine V_getfield dX9_deliveryClock_9 (mst_o (u := 0) hc1 (by decide) rfl) fl_X9_211 rfl ?_
  refine V_iload_n (i := 1) dX9_deliveryClock_12 rfl rfl ?_
  refine D_aldPc h (mst (u := 0) hc1 (by decide) rfl) dX9_deliveryClock_13 fun g1 h => ?_
  refine V_getfield dX9_deliveryClock_14 (mst_pc (u := 0) hc1 (by decide) rfl g1) fl_X9_242 rfl ?_
  obtain rfl := Option.some.inj h
  exact V_ireturn dX9_deliveryClock_17 ⟨_, rfl, rfl⟩ ⟨rfl, rfl⟩
noncomputable def f_X9_destination (W : Nat → Nat → Int32) (a1 : Int32) : Option (String ⊕ Int32) :=
  bdt (f_X9_checkParcel W a1) (fun e => some (.inl e)) (fun _ => gd (inr a1 12) (some (.inr (W 0 (143 + 9 * ix a1 + 1)))))
theorem e_X9_destination {G : GT} {f0 : Nat} {b c : Nat} {M : MM} {hi : Nat} {W : Nat → Nat → Int32} {a1 : Int32} {r : (String ⊕ Int32)} (hf0 : 9 ≤ f0) (hc1 : 609 ≤ c) (h : f_X9_destination W a1 = some r) : Ex G f0 mX9_destination [.ref (b), .int a1] (MEM b c W M) hi 1 6 (RP (rhoI r) (MEM b c W M)) := by
  obtain ⟨f, rfl, hf⟩ := suc_of hf0
  unfold f_X9_destination at h
  refine ⟨Nat.le_of_ble_eq_true rfl, ?_⟩
  refine V_aload_n (i := 0) dX9_destination_0 rfl rfl ?_
  refine V_iload_n (i := 1) dX9_destination_1 rfl rfl ?_
  refine D_tVU (As := [_]) (k2 := 1) (n2 := 6) h dX9_destination_2 cv_X9_208 rfl ⟨_, _, _, (mem_x9 hc1), rfl, rfl⟩ rfl (Nat.le_of_ble_eq_true rfl) (fun x hx => e_X9_checkParcel (Nat.le_trans (Nat.le_of_ble_eq_true rfl) hf) hc1 hx) (fun e hi h => Or.inl ⟨rfl, by obtain rfl := Option.some.inj h; exact ⟨rfl, rfl⟩⟩) fun hi h => ?_
  refine V_aload_n (i := 0) dX9_destination_5 rfl rfl ?_
  refine V_getfield dX9_destination_6 (mem_x9 hc1) fl_X9_10 rfl ?_
  refine V_getfield dX9_destination_9 (mst_o (u := 0) hc1 (by decide) rfl) fl_X9_211 rfl ?_
  refine V_iload_n (i := 1) dX9_destination_12 rfl rfl ?_
  refine D_aldPc h (mst (u := 0) hc1 (by decide) rfl) dX9_destination_13 fun g1 h => ?_
  refine V_getfield dX9_destination_14 (mst_pc (u := 0) hc1 (by decide) rfl g1) fl_X9_220 rfl ?_
  obtain rfl := Option.some.inj h
  exact V_ireturn dX9_destination_17 ⟨_, rfl, rfl⟩ ⟨rfl, rfl⟩
noncomputable def f_X9_distance (W : Nat → Nat → Int32) (a1 : Int32) (a2 : Int32) : Option (String ⊕ Int32) :=
  bdt (f_X9_checkStation W a1) (fun e => some (.inl e)) (fun _ => bdt (f_X9_checkStation W a2) (fun e => some (.inl e)) (fun _ => bdc (f_X4_distanceBetween (W 0) a1 a2) (fun v1 => if v1 = (1000 : Int32) then some (.inr (-1 : Int32)) else some (.inr v1))))
theorem e_X9_distance {G : GT} {f0 : Nat} {b c : Nat} {M : MM} {hi : Nat} {W : Nat → Nat → Int32} {a1 : Int32} {a2 : Int32} {r : (String ⊕ Int32)} (hf0 : 9 ≤ f0) (hc1 : 609 ≤ c) (h : f_X9_distance W a1 a2 = some r) : Ex G f0 mX9_distance [.ref (b), .int a1, .int a2] (MEM b c W M) hi 2 12 (RP (rhoI r) (MEM b c W M)) := by
  obtain ⟨f, rfl, hf⟩ := suc_of hf0
  unfold f_X9_distance at h
  refine ⟨Nat.le_of_ble_eq_true rfl, ?_⟩
  refine V_aload_n (i := 0) dX9_distance_0 rfl rfl ?_
  refine V_iload_n (i := 1) dX9_distance_1 rfl rfl ?_
  refine D_tVU (As := [_]) (k2 := 1) (n2 := 6) h dX9_distance_2 cv_X9_115 rfl ⟨_, _, _, (mem_x9 hc1), rfl, rfl⟩ rfl (Nat.le_of_ble_eq_true rfl) (fun x hx => e_X9_checkStation (Nat.le_trans (Nat.le_of_ble_eq_true rfl) hf) hc1 hx) (fun e hi h => Or.inl ⟨rfl, by obtain rfl := Option.some.inj h; exact ⟨rfl, rfl⟩⟩) fun hi h => ?_
  refine V_aload_n (i := 0) dX9_distance_5 rfl rfl ?_
  refine V_iload_n (i := 2) dX9_distance_6 rfl rfl ?_
  refine D_tVU (As := [_]) (k2 := 1) (n2 := 6) h dX9_distance_7 cv_X9_115 rfl ⟨_, _, _, (mem_x9 hc1), rfl, rfl⟩ rfl (Nat.le_of_ble_eq_true rfl) (fun x hx => e_X9_checkStation (Nat.le_trans (Nat.le_of_ble_eq_true rfl) hf) hc1 hx) (fun e hi h => Or.inl ⟨rfl, by obtain rfl := Option.some.inj h; exact ⟨rfl, rfl⟩⟩) fun hi h => ?_
  refine V_aload_n (i := 0) dX9_distance_10 rfl rfl ?_
  refine V_getfield dX9_distance_11 (mem_x9 hc1) fl_X9_10 rfl ?_
  refine V_iload_n (i := 1) dX9_distance_14 rfl rfl ?_
  refine V_iload_n (i := 2) dX9_distance_15 rfl rfl ?_
  refine D_cVI (As := [_, _]) h dX9_distance_16 cv_X9_159 rfl ⟨_, _, _, (mst_o (u := 0) hc1 (by decide) rfl), rfl, rfl⟩ rfl (Nat.le_of_ble_eq_true rfl) (fun x hx => lift0 (u := 0) hc1 (by decide) rfl (e_X4_distanceBetween (Nat.le_trans (Nat.le_of_ble_eq_true rfl) hf) hx)) fun v1 h => ?_
  refine V_istore_n (i := 3) dX9_distance_19 rfl (Nat.le_of_ble_eq_true rfl) ?_
  refine V_iload_n (i := 3) dX9_distance_20 rfl rfl ?_
  refine V_sipush (v := 1000) dX9_distance_21 (by decide) ?_
  refine D_icmp_ne (tgt := 31) h dX9_distance_24 rfl (fun b2 h => ?_) (fun b2 h => ?_)
  · refine V_iload_n (i := 3) dX9_distance_31 rfl rfl ?_
    obtain rfl := Option.some.inj h
    exact V_ireturn dX9_distance_32 ⟨_, rfl, rfl⟩ ⟨rfl, rfl⟩
  · refine V_iconst (v := -1) dX9_distance_27 (by decide) ?_
    refine V_goto (tgt := 32) dX9_distance_28 rfl ?_
    obtain rfl := Option.some.inj h
    exact V_ireturn dX9_distance_32 ⟨_, rfl, rfl⟩ ⟨rfl, rfl⟩
