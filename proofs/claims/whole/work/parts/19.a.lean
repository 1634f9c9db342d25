noncomputable def f_X9_checkSlot (a0 : Int32) : Option (String ⊕ Unit) :=
  if a0 < 0 then some (.inl "java/lang/IndexOutOfBoundsException") else if a0 < (2 : Int32) then some (.inr ()) else some (.inl "java/lang/IndexOutOfBoundsException")
theorem e_X9_checkSlot {G : GT} {f0 : Nat}  {M : MM} {hi : Nat} {a0 : Int32} {r : (String ⊕ Unit)} (hf0 : 8 ≤ f0) (h : f_X9_checkSlot a0 = some r) : Ex G f0 mX9_checkSlot [.int a0] M hi 1 6 (RP (rhoU r) M) := by
  obtain ⟨f, rfl, hf⟩ := suc_of hf0
  unfold f_X9_checkSlot at h
  refine ⟨Nat.le_of_ble_eq_true rfl, ?_⟩
  refine V_iload_n (i := 0) dX9_checkSlot_0 rfl rfl ?_
  refine D_if_lt (tgt := 9) h dX9_checkSlot_1 rfl (fun b1 h => ?_) (fun b1 h => ?_)
  · obtain rfl := Option.some.inj h
    exact V_throwSW (j := 22) dX9_checkSlot_9 dX9_checkSlot_12 dX9_checkSlot_13 dX9_checkSlot_16 dX9_checkSlot_19 (by decide) tw_931 tw_941 (by decide +kernel) (Nat.le_of_ble_eq_true rfl) (Nat.le_trans (Nat.le_of_ble_eq_true rfl) hf) rfl (fun _ _ => ⟨rfl, rfl⟩)
  · refine V_iload_n (i := 0) dX9_checkSlot_4 rfl rfl ?_
    refine V_iconst (v := 2) dX9_checkSlot_5 (by decide) ?_
    refine D_icmp_lt (tgt := 20) h dX9_checkSlot_6 rfl (fun b2 h => ?_) (fun b2 h => ?_)
    · obtain rfl := Option.some.inj h
      exact V_return dX9_checkSlot_20 rfl ⟨rfl, rfl⟩
    · obtain rfl := Option.some.inj h
      exact V_throwSW (j := 22) dX9_checkSlot_9 dX9_checkSlot_12 dX9_checkSlot_13 dX9_checkSlot_16 dX9_checkSlot_19 (by decide) tw_931 tw_941 (by decide +kernel) (Nat.le_of_ble_eq_true rfl) (Nat.le_trans (Nat.le_of_ble_eq_true rfl) hf) rfl (fun _ _ => ⟨rfl, rfl⟩)
noncomputable def f_X9_checkRange (a0 : Int32) (a1 : Int32) (a2 : Int32) : Option (String ⊕ Unit) :=
  if a0 < a1 then some (.inl "java/lang/IllegalArgumentException") else if a0 ≤ a2 then some (.inr ()) else some (.inl "java/lang/IllegalArgumentException")
theorem e_X9_checkRange {G : GT} {f0 : Nat}  {M : MM} {hi : Nat} {a0 : Int32} {a1 : Int32} {a2 : Int32} {r : (String ⊕ Unit)} (hf0 : 8 ≤ f0) (h : f_X9_checkRange a0 a1 a2 = some r) : Ex G f0 mX9_checkRange [.int a0, .int a1, .int a2] M hi 1 6 (RP (rhoU r) M) := by
  obtain ⟨f, rfl, hf⟩ := suc_of hf0
  unfold f_X9_checkRange at h
  refine ⟨Nat.le_of_ble_eq_true rfl, ?_⟩
  refine V_iload_n (i := 0) dX9_checkRange_0 rfl rfl ?_
  refine V_iload_n (i := 1) dX9_checkRange_1 rfl rfl ?_
  refine D_icmp_lt (tgt := 10) h dX9_checkRange_2 rfl (fun b1 h => ?_) (fun b1 h => ?_)
  · obtain rfl := Option.some.inj h
    exact V_throwSW (j := 16) dX9_checkRange_10 dX9_checkRange_13 dX9_checkRange_14 dX9_checkRange_17 dX9_checkRange_20 (by decide) tw_890 tw_900 (by decide +kernel) (Nat.le_of_ble_eq_true rfl) (Nat.le_trans (Nat.le_of_ble_eq_true rfl) hf) rfl (fun _ _ => ⟨rfl, rfl⟩)
  · refine V_iload_n (i := 0) dX9_checkRange_5 rfl rfl ?_
    refine V_iload_n (i := 2) dX9_checkRange_6 rfl rfl ?_
    refine D_icmp_le (tgt := 21) h dX9_checkRange_7 rfl (fun b2 h => ?_) (fun b2 h => ?_)
    · obtain rfl := Option.some.inj h
      exact V_return dX9_checkRange_21 rfl ⟨rfl, rfl⟩
    · obtain rfl := Option.some.inj h
      exact V_throwSW (j := 16) dX9_checkRange_10 dX9_checkRange_13 dX9_checkRange_14 dX9_checkRange_17 dX9_checkRange_20 (by decide) tw_890 tw_900 (by decide +kernel) (Nat.le_of_ble_eq_true rfl) (Nat.le_trans (Nat.le_of_ble_eq_true rfl) hf) rfl (fun _ _ => ⟨rfl, rfl⟩)
noncomputable def f_X0_remember (W : Nat → Nat → Int32) : Option (Nat → Nat → Int32) :=
  if (W 17 0) < 0 then some W else if (W 17 0) < (8 : Int32) then gd (inr (W 17 0) 8) (bdc (f_X4_copyFrom (W (3 + ix (W 17 0))) (W 0)) (fun S5 => bnd (setU W (3 + ix (W 17 0)) S5) (fun W4 => jn (fun (v7 : Int32) => bnd (w2 W4 17 0 v7) (fun W9 => if (W9 17 1) = (8 : Int32) then bnd (w2 W9 17 1 (8 : Int32)) (fun W12 => some W12) else bnd (w2 W9 17 1 ((W9 17 1) + (1 : Int32))) (fun W11 => some W11))) (fun j6 => if (W4 17 0) = (7 : Int32) then j6 (0 : Int32) else j6 ((W4 17 0) + (1 : Int32)))))) else some W
theorem e_X0_remember {G : GT} {f0 : Nat} {b c : Nat} {M : MM} {hi k n : Nat} {W : Nat → Nat → Int32} {r : (Nat → Nat → Int32)} (hf0 : 3 ≤ f0) (hc1 : 609 ≤ c) (h : f_X0_remember W = some r) : Ex G f0 mX0_remember [.ref (b + 143), .ref (b + 1)] (MEM b c W M) hi k n (RH (.inl none) (MEM b c r M) hi) := by
  obtain ⟨f, rfl, hf⟩ := suc_of hf0
  unfold f_X0_remember at h
  refine ⟨Nat.le_of_ble_eq_true rfl, ?_⟩
  refine V_aload_n (i := 0) dX0_remember_0 rfl rfl ?_
  refine V_getfield dX0_remember_1 (mem_17 hc1) fl_X0_18 rfl ?_
  refine D_if_lt (tgt := 16) h dX0_remember_4 rfl (fun b1 h => ?_) (fun b1 h => ?_)
  · obtain rfl := Option.some.inj h
    exact V_return dX0_remember_16 rfl ⟨rfl, rfl, rfl⟩
  · refine V_aload_n (i := 0) dX0_remember_7 rfl rfl ?_
    refine V_getfield dX0_remember_8 (mem_17 hc1) fl_X0_18 rfl ?_
    refine V_bipush (v := 8) dX0_remember_11 (by decide) ?_
    refine D_icmp_lt (tgt := 17) h dX0_remember_13 rfl (fun b2 h => ?_) (fun b2 h => ?_)
    · refine V_aload_n (i := 0) dX0_remember_17 rfl rfl ?_
      refine V_getfield dX0_remember_18 (mem_17 hc1) fl_X0_11 rfl ?_
      refine V_aload_n (i := 0) dX0_remember_21 rfl rfl ?_
      refine V_getfield dX0_remember_22 (mem_17 hc1) fl_X0_18 rfl ?_
      refine D3_qld8 hc1 h dX0_remember_25 fun g3 h => ?_
      refine V_aload_n (i := 1) dX0_remember_26 rfl rfl ?_
      refine D_cVU (As := [_]) (μ := fun S5 => (MEM b c (setU W (3 + ix (W 17 0)) S5) M)) h dX0_remember_27 cv_X0_22 rfl ⟨_, _, _, (mst_o (u := (3 + ix (W 17 0))) hc1 (by omega) (PA_hs g3)), rfl, rfl⟩ rfl (Nat.le_of_ble_eq_true rfl) (fun y hx => lift2 (u := (3 + ix (W 17 0))) (v := 0) hc1 (by omega) (by decide) (PA_hs g3) rfl (e_X4_copyFrom (Nat.le_trans (Nat.le_of_ble_eq_true rfl) hf) (show apt (b + 145 + 46 * ix (W 17 0)) (b + 1) by unfold apt; omega) hx)) fun S5 h => ?_
      refine D3_gen (μ := fun W => (MEM b c W M)) h fun W4 h => ?_
      refine V_aload_n (i := 0) dX0_remember_30 rfl rfl ?_
      refine V_aload_n (i := 0) dX0_remember_31 rfl rfl ?_
      refine V_getfield dX0_remember_32 (mem_17 hc1) fl_X0_18 rfl ?_
      refine V_bipush (v := 7) dX0_remember_35 (by decide) ?_
      refine D_jn (fun (j : Int32 → Option (Nat → Nat → Int32)) => ∀ (v7 : Int32), j v7 = some r → V G f (Ex G f) mX0_remember (RH (.inl none) (MEM b c r M) hi) 50 [(0, .ref (b + 143))] [.int v7, .ref (b + 143)] (MEM b c W4 M) hi k n) h (fun j6 hj6 h => ?_) ?_
      · refine D_icmp_ne (tgt := 44) h dX0_remember_37 rfl (fun b8 h => ?_) (fun b8 h => ?_)
        · refine V_aload_n (i := 0) dX0_remember_44 rfl rfl ?_
          refine V_getfield dX0_remember_45 (mem_17 hc1) fl_X0_18 rfl ?_
          refine V_iconst (v := 1) dX0_remember_48 (by decide) ?_
          refine V_iadd dX0_remember_49 ?_
          exact V_sub (ks := [0]) rfl (hj6 _ h)
        · refine V_iconst (v := 0) dX0_remember_40 (by decide) ?_
          refine V_goto (tgt := 50) dX0_remember_41 rfl ?_
          exact V_sub (ks := [0]) rfl (hj6 _ h)
      · intro v7 h
        refine D3_put h dX0_remember_50 (mem_17 hc1) (fp_X0_18 rfl) (Nat.le_of_ble_eq_true rfl) (psc_17_0 hc1) fun W9 h => ?_
        refine V_aload_n (i := 0) dX0_remember_53 rfl rfl ?_
        refine V_aload_n (i := 0) dX0_remember_54 rfl rfl ?_
        refine V_getfield dX0_remember_55 (mem_17 hc1) fl_X0_26 rfl ?_
        refine V_bipush (v := 8) dX0_remember_58 (by decide) ?_
        refine D_icmp_ne (tgt := 68) h dX0_remember_60 rfl (fun b10 h => ?_) (fun b10 h => ?_)
        · refine V_aload_n (i := 0) dX0_remember_68 rfl rfl ?_
          refine V_getfield dX0_remember_69 (mem_17 hc1) fl_X0_26 rfl ?_
          refine V_iconst (v := 1) dX0_remember_72 (by decide) ?_
          refine V_iadd dX0_remember_73 ?_
          refine D3_put h dX0_remember_74 (mem_17 hc1) (fp_X0_26 rfl) (Nat.le_of_ble_eq_true rfl) (psc_17_1 hc1) fun W11 h => ?_
          obtain rfl := Option.some.inj h
          exact V_return dX0_remember_77 rfl ⟨rfl, rfl, rfl⟩
        · refine V_bipush (v := 8) dX0_remember_63 (by decide) ?_
          refine V_goto (tgt := 74) dX0_remember_65 rfl ?_
          refine D3_put h dX0_remember_74 (mem_17 hc1) (fp_X0_26 rfl) (Nat.le_of_ble_eq_true rfl) (psc_17_1 hc1) fun W12 h => ?_
          obtain rfl := Option.some.inj h
          exact V_return dX0_remember_77 rfl ⟨rfl, rfl, rfl⟩
    · obtain rfl := Option.some.inj h
      exact V_return dX0_remember_16 rfl ⟨rfl, rfl, rfl⟩
noncomputable def f_X0_takeBack (W : Nat → Nat → Int32) : Option (Nat → Nat → Int32) :=
  jn (fun (v2 : Int32) => if (W 17 1) = 0 then some W else if v2 < 0 then some W else if v2 < (8 : Int32) then gd (inr v2 8) (bdc (f_X4_copyFrom (W 0) (W (3 + ix v2))) (fun S9 => bnd (setU W 0 S9) (fun W8 => bnd (w2 W8 17 0 v2) (fun W10 => bnd (w2 W10 17 1 ((W10 17 1) - (1 : Int32))) (fun W11 => some W11))))) else some W) (fun j1 => if (W 17 0) = 0 then j1 (7 : Int32) else j1 ((W 17 0) - (1 : Int32)))
theorem e_X0_takeBack {G : GT} {f0 : Nat} {b c : Nat} {M : MM} {hi k n : Nat} {W : Nat → Nat → Int32} {r : (Nat → Nat → Int32)} (hf0 : 3 ≤ f0) (hc1 : 609 ≤ c) (h : f_X0_takeBack W = some r) : Ex G f0 mX0_takeBack [.ref (b + 143), .ref (b + 1)] (MEM b c W M) hi k n (RH (.inl none) (MEM b c r M) hi) := by
  obtain ⟨f, rfl, hf⟩ := suc_of hf0
  unfold f_X0_takeBack at h
  refine ⟨Nat.le_of_ble_eq_true rfl, ?_⟩
  refine V_aload_n (i := 0) dX0_takeBack_0 rfl rfl ?_
  refine V_getfield dX0_takeBack_1 (mem_17 hc1) fl_X0_18 rfl ?_
  refine D_jn (fun (j : Int32 → Option (Nat → Nat → Int32)) => ∀ (v2 : Int32), j v2 = some r → V G f (Ex G f) mX0_takeBack (RH (.inl none) (MEM b c r M) hi) 18 [(0, .ref (b + 143)), (1, .ref (b + 1))] [.int v2] (MEM b c W M) hi k n) h (fun j1 hj1 h => ?_) ?_
  · refine D_if_ne (tgt := 12) h dX0_takeBack_4 rfl (fun b3 h => ?_) (fun b3 h => ?_)
    · refine V_aload_n (i := 0) dX0_takeBack_12 rfl rfl ?_
      refine V_getfield dX0_takeBack_13 (mem_17 hc1) fl_X0_18 rfl ?_
      refine V_iconst (v := 1) dX0_takeBack_16 (by decide) ?_
      refine V_isub dX0_takeBack_17 ?_
      exact V_sub (ks := [0, 1]) rfl (hj1 _ h)
    · refine V_bipush (v := 7) dX0_takeBack_7 (by decide) ?_
      refine V_goto (tgt := 18) dX0_takeBack_9 rfl ?_
      exact V_sub (ks := [0, 1]) rfl (hj1 _ h)
  · intro v2 h
    refine V_istore_n (i := 2) dX0_takeBack_18 rfl (Nat.le_of_ble_eq_true rfl) ?_
    refine V_aload_n (i := 0) dX0_takeBack_19 rfl rfl ?_
    refine V_getfield dX0_takeBack_20 (mem_17 hc1) fl_X0_26 rfl ?_
    refine D_if_eq (tgt := 36) h dX0_takeBack_23 rfl (fun b4 h => ?_) (fun b4 h => ?_)
    · obtain rfl := Option.some.inj h
      exact V_return dX0_takeBack_36 rfl ⟨rfl, rfl, rfl⟩
    · refine V_iload_n (i := 2) dX0_takeBack_26 rfl rfl ?_
      refine D_if_lt (tgt := 36) h dX0_takeBack_27 rfl (fun b5 h => ?_) (fun b5 h => ?_)
      · obtain rfl := Option.some.inj h
        exact V_return dX0_takeBack_36 rfl ⟨rfl, rfl, rfl⟩
      · refine V_iload_n (i := 2) dX0_takeBack_30 rfl rfl ?_
        refine V_bipush (v := 8) dX0_takeBack_31 (by decide) ?_
        refine D_icmp_lt (tgt := 37) h dX0_takeBack_33 rfl (fun b6 h => ?_) (fun b6 h => ?_)
        · refine V_aload_n (i := 1) dX0_takeBack_37 rfl rfl ?_
          refine V_aload_n (i := 0) dX0_takeBack_38 rfl rfl ?_
          refine V_getfield dX0_takeBack_39 (mem_17 hc1) fl_X0_11 rfl ?_
          refine V_iload_n (i := 2) dX0_takeBack_42 rfl rfl ?_
          refine D3_qld8 hc1 h dX0_takeBack_43 fun g7 h => ?_
          refine D_cVU (As := [_]) (μ := fun S9 => (MEM b c (setU W 0 S9) M)) h dX0_takeBack_44 cv_X0_22 rfl ⟨_, _, _, (mst_o (u := 0) hc1 (by decide) rfl), rfl, rfl⟩ rfl (Nat.le_of_ble_eq_true rfl) (fun y hx => lift2 (u := 0) (v := (3 + ix v2)) hc1 (by decide) (by omega) rfl (PA_hs g7) (e_X4_copyFrom (Nat.le_trans (Nat.le_of_ble_eq_true rfl) hf) (show apt (b + 1) (b + 145 + 46 * ix v2) by unfold apt; omega) hx)) fun S9 h => ?_
          refine D3_gen (μ := fun W => (MEM b c W M)) h fun W8 h => ?_
          refine V_aload_n (i := 0) dX0_takeBack_47 rfl rfl ?_
          refine V_iload_n (i := 2) dX0_takeBack_48 rfl rfl ?_
          refine D3_put h dX0_takeBack_49 (mem_17 hc1) (fp_X0_18 rfl) (Nat.le_of_ble_eq_true rfl) (psc_17_0 hc1) fun W10 h => ?_
          refine V_aload_n (i := 0) dX0_takeBack_52 rfl rfl ?_
          refine V_dup dX0_takeBack_53 rfl ?_
          refine V_getfield dX0_takeBack_54 (mem_17 hc1) fl_X0_26 rfl ?_
          refine V_iconst (v := 1) dX0_takeBack_57 (by decide) ?_
          refine V_isub dX0_takeBack_58 ?_
          refine D3_put h dX0_takeBack_59 (mem_17 hc1) (fp_X0_26 rfl) (Nat.le_of_ble_eq_true rfl) (psc_17_1 hc1) fun W11 h => ?_
          obtain rfl := Option.some.inj h
          exact V_return dX0_takeBack_62 rfl ⟨rfl, rfl, rfl⟩
        · obtain rfl := Option.some.inj h
          exact V_return dX0_takeBack_36 rfl ⟨rfl, rfl, rfl⟩
noncomputable def f_X10_refuses (W : Nat → Nat → Int32) (a1 : Int32) (a2 : Int32) : Option (Int32 × (Nat → Nat → Int32)) :=
  if a1 = 0 then if (W 30 2) = 0 then some ((0 : Int32), W) else some ((1 : Int32), W) else if (W 30 2) = 0 then bnd (w2 W 30 2 a2) (fun W5 => if (W5 30 2) = 0 then some ((0 : Int32), W5) else some ((1 : Int32), W5)) else if (W 30 2) = 0 then some ((0 : Int32), W) else some ((1 : Int32), W)
theorem e_X10_refuses {G : GT} {f0 : Nat} {b c : Nat} {M : MM} {hi k n : Nat} {W : Nat → Nat → Int32} {a1 : Int32} {a2 : Int32} {r : (Int32 × (Nat → Nat → Int32))} (hf0 : 1 ≤ f0) (hc2 : 619 ≤ c) (h : f_X10_refuses W a1 a2 = some r) : Ex G f0 mX10_refuses [.ref (b + 609), .int a1, .int a2] (MEM b c W M) hi k n (RH (.inl (some (.int r.1))) (MEM b c r.2 M) hi) := by
  obtain ⟨f, rfl, hf⟩ := suc_of hf0
  unfold f_X10_refuses at h
  refine ⟨Nat.le_of_ble_eq_true rfl, ?_⟩
  refine V_iload_n (i := 1) dX10_refuses_0 rfl rfl ?_
  refine D_if_eq (tgt := 16) h dX10_refuses_1 rfl (fun b1 h => ?_) (fun b1 h => ?_)
  · refine V_aload_n (i := 0) dX10_refuses_16 rfl rfl ?_
    refine V_getfield dX10_refuses_17 (mem_30 hc2) fl_X10_69 rfl ?_
    refine D_if_eq (tgt := 27) h dX10_refuses_20 rfl (fun b2 h => ?_) (fun b2 h => ?_)
    · refine V_iconst (v := 0) dX10_refuses_27 (by decide) ?_
      obtain rfl := Option.some.inj h
      exact V_ireturn dX10_refuses_28 ⟨_, rfl, rfl⟩ ⟨rfl, rfl, rfl⟩
    · refine V_iconst (v := 1) dX10_refuses_23 (by decide) ?_
      refine V_goto (tgt := 28) dX10_refuses_24 rfl ?_
      obtain rfl := Option.some.inj h
      exact V_ireturn dX10_refuses_28 ⟨_, rfl, rfl⟩ ⟨rfl, rfl, rfl⟩
  · refine V_aload_n (i := 0) dX10_refuses_4 rfl rfl ?_
    refine V_getfield dX10_refuses_5 (mem_30 hc2) fl_X10_69 rfl ?_
    refine D_if_ne (tgt := 16) h dX10_refuses_8 rfl (fun b3 h => ?_) (fun b3 h => ?_)
    · refine V_aload_n (i := 0) dX10_refuses_16 rfl rfl ?_
      refine V_getfield dX10_refuses_17 (mem_30 hc2) fl_X10_69 rfl ?_
      refine D_if_eq (tgt := 27) h dX10_refuses_20 rfl (fun b4 h => ?_) (fun b4 h => ?_)
      · refine V_iconst (v := 0) dX10_refuses_27 (by decide) ?_
        obtain rfl := Option.some.inj h
        exact V_ireturn dX10_refuses_28 ⟨_, rfl, rfl⟩ ⟨rfl, rfl, rfl⟩
      · refine V_iconst (v := 1) dX10_refuses_23 (by decide) ?_
        refine V_goto (tgt := 28) dX10_refuses_24 rfl ?_
        obtain rfl := Option.some.inj h
        exact V_ireturn dX10_refuses_28 ⟨_, rfl, rfl⟩ ⟨rfl, rfl, rfl⟩
    · refine V_aload_n (i := 0) dX10_refuses_11 rfl rfl ?_
      refine V_iload_n (i := 2) dX10_refuses_12 rfl rfl ?_
      refine D3_put h dX10_refuses_13 (mem_30 hc2) (fp_X10_69 rfl) (Nat.le_of_ble_eq_true rfl) (psc_30_2 hc2) fun W5 h => ?_
      refine V_aload_n (i := 0) dX10_refuses_16 rfl rfl ?_
      refine V_getfield dX10_refuses_17 (mem_30 hc2) fl_X10_69 rfl ?_
      refine D_if_eq (tgt := 27) h dX10_refuses_20 rfl (fun b6 h => ?_) (fun b6 h => ?_)
      · refine V_iconst (v := 0) dX10_refuses_27 (by decide) ?_
        obtain rfl := Option.some.inj h
        exact V_ireturn dX10_refuses_28 ⟨_, rfl, rfl⟩ ⟨rfl, rfl, rfl⟩
      · refine V_iconst (v := 1) dX10_refuses_23 (by decide) ?_
        refine V_goto (tgt := 28) dX10_refuses_24 rfl ?_
        obtain rfl := Option.some.inj h
        exact V_ireturn dX10_refuses_28 ⟨_, rfl, rfl⟩ ⟨rfl, rfl, rfl⟩
noncomputable def f_X10_noNumber (W : Nat → Nat → Int32) (a1 : Int32) (a2 : Int32) (a3 : Int32) : Option (Int32 × (Nat → Nat → Int32)) :=
  bnd (w2 W 30 2 (0 : Int32)) (fun W1 => bdc (f_X10_isBetween a1 a2 a3) (fun v2 => if v2 = 0 then bd2 (f_X10_refuses W1 (1 : Int32) (1 : Int32)) (fun v7 W6 => gd (z01 v7) (some (v7, W6))) else bd2 (f_X10_refuses W1 (0 : Int32) (1 : Int32)) (fun v5 W4 => gd (z01 v5) (some (v5, W4)))))
theorem e_X10_noNumber {G : GT} {f0 : Nat} {b c : Nat} {M : MM} {hi k n : Nat} {W : Nat → Nat → Int32} {a1 : Int32} {a2 : Int32} {a3 : Int32} {r : (Int32 × (Nat → Nat → Int32))} (hf0 : 2 ≤ f0) (hc2 : 619 ≤ c) (h : f_X10_noNumber W a1 a2 a3 = some r) : Ex G f0 mX10_noNumber [.ref (b + 609), .int a1, .int a2, .int a3] (MEM b c W M) hi k n (RH (.inl (some (.int r.1))) (MEM b c r.2 M) hi) := by
  obtain ⟨f, rfl, hf⟩ := suc_of hf0
  unfold f_X10_noNumber at h
  refine ⟨Nat.le_of_ble_eq_true rfl, ?_⟩
  refine V_aload_n (i := 0) dX10_noNumber_0 rfl rfl ?_
  refine V_iconst (v := 0) dX10_noNumber_1 (by decide) ?_
  refine D3_put h dX10_noNumber_2 (mem_30 hc2) (fp_X10_69 rfl) (Nat.le_of_ble_eq_true rfl) (psc_30_2 hc2) fun W1 h => ?_
  refine V_aload_n (i := 0) dX10_noNumber_5 rfl rfl ?_
  refine V_iload_n (i := 1) dX10_noNumber_6 rfl rfl ?_
  refine V_iload_n (i := 2) dX10_noNumber_7 rfl rfl ?_
  refine V_iload_n (i := 3) dX10_noNumber_8 rfl rfl ?_
  refine D_cSI (As := [_, _, _]) h dX10_noNumber_9 cs_X10_99 rfl rfl (Nat.le_of_ble_eq_true rfl) (fun x hx => e_X10_isBetween (Nat.le_trans (Nat.le_of_ble_eq_true rfl) hf) hx) fun v2 h => ?_
  refine D_if_ne (tgt := 19) h dX10_noNumber_12 rfl (fun b3 h => ?_) (fun b3 h => ?_)
  · refine V_iconst (v := 0) dX10_noNumber_19 (by decide) ?_
    refine V_iconst (v := 1) dX10_noNumber_20 (by decide) ?_
    refine D_cVIW (As := [_, _]) (μ := fun W4 => (MEM b c W4 M)) h dX10_noNumber_21 cv_X10_165 rfl ⟨_, _, _, (mem_30 hc2), rfl, rfl⟩ rfl (Nat.le_of_ble_eq_true rfl) (fun x y hx => e_X10_refuses (Nat.le_trans (Nat.le_of_ble_eq_true rfl) hf) hc2 hx) fun v5 W4 h => ?_
    refine D_gd h fun g h => ?_
    obtain rfl := Option.some.inj h
    exact V_ireturn dX10_noNumber_24 ⟨_, rfl, z01_nar g⟩ ⟨rfl, rfl, rfl⟩
  · refine V_iconst (v := 1) dX10_noNumber_15 (by decide) ?_
    refine V_goto (tgt := 20) dX10_noNumber_16 rfl ?_
    refine V_iconst (v := 1) dX10_noNumber_20 (by decide) ?_
    refine D_cVIW (As := [_, _]) (μ := fun W6 => (MEM b c W6 M)) h dX10_noNumber_21 cv_X10_165 rfl ⟨_, _, _, (mem_30 hc2), rfl, rfl⟩ rfl (Nat.le_of_ble_eq_true rfl) (fun x y hx => e_X10_refuses (Nat.le_trans (Nat.le_of_ble_eq_true rfl) hf) hc2 hx) fun v7 W6 h => ?_
    refine D_gd h fun g h => ?_
    obtain rfl := Option.some.inj h
    exact V_ireturn dX10_noNumber_24 ⟨_, rfl, z01_nar g⟩ ⟨rfl, rfl, rfl⟩
noncomputable def f_X10_noStation (W : Nat → Nat → Int32) (a1 : Int32) : Option (Int32 × (Nat → Nat → Int32)) :=
  gd (inr (1 : Int32) 251) (bd2 (f_X10_noNumber W a1 (0 : Int32) ((W 21 (ix (1 : Int32))) - (1 : Int32))) (fun v2 W1 => gd (z01 v2) (some (v2, W1))))
theorem e_X10_noStation {G : GT} {f0 : Nat} {b c : Nat} {M : MM} {hi k n : Nat} {W : Nat → Nat → Int32} {a1 : Int32} {r : (Int32 × (Nat → Nat → Int32))} (hf0 : 3 ≤ f0) (hc2 : 619 ≤ c) (h : f_X10_noStation W a1 = some r) : Ex G f0 mX10_noStation [.ref (b + 609), .int a1] (MEM b c W M) hi k n (RH (.inl (some (.int r.1))) (MEM b c r.2 M) hi) := by
  obtain ⟨f, rfl, hf⟩ := suc_of hf0
  unfold f_X10_noStation at h
  refine ⟨Nat.le_of_ble_eq_true rfl, ?_⟩
  refine V_aload_n (i := 0) dX10_noStation_0 rfl rfl ?_
  refine V_iload_n (i := 1) dX10_noStation_1 rfl rfl ?_
  refine V_iconst (v := 0) dX10_noStation_2 (by decide) ?_
  refine V_aload_n (i := 0) dX10_noStation_3 rfl rfl ?_
  refine V_getfield dX10_noStation_4 (mem_30 hc2) fl_X10_7 rfl ?_
  refine V_iconst (v := 1) dX10_noStation_7 (by decide) ?_
  refine D3_ild h (mem_21 hc2) dX10_noStation_8 fun h => ?_
  refine V_iconst (v := 1) dX10_noStation_9 (by decide) ?_
  refine V_isub dX10_noStation_10 ?_
  refine D_cVIW (As := [_, _, _]) (μ := fun W1 => (MEM b c W1 M)) h dX10_noStation_11 cv_X10_173 rfl ⟨_, _, _, (mem_30 hc2), rfl, rfl⟩ rfl (Nat.le_of_ble_eq_true rfl) (fun x y hx => e_X10_noNumber (Nat.le_trans (Nat.le_of_ble_eq_true rfl) hf) hc2 hx) fun v2 W1 h => ?_
  refine D_gd h fun g h => ?_
  obtain rfl := Option.some.inj h
  exact V_ireturn dX10_noStation_14 ⟨_, rfl, z01_nar g⟩ ⟨rfl, rfl, rfl⟩
noncomputable def f_X10_noStations (W : Nat → Nat → Int32) (a1 : Int32) (a2 : Int32) : Option (Int32 × (Nat → Nat → Int32)) :=
  bd2 (f_X10_noStation W a1) (fun v2 W1 => if v2 = 0 then bd2 (f_X10_noStation W1 a2) (fun v5 W4 => if v5 = 0 then some ((0 : Int32), W4) else some ((1 : Int32), W4)) else some ((1 : Int32), W1))
theorem e_X10_noStations {G : GT} {f0 : Nat} {b c : Nat} {M : MM} {hi k n : Nat} {W : Nat → Nat → Int32} {a1 : Int32} {a2 : Int32} {r : (Int32 × (Nat → Nat → Int32))} (hf0 : 4 ≤ f0) (hc2 : 619 ≤ c) (h : f_X10_noStations W a1 a2 = some r) : Ex G f0 mX10_noStations [.ref (b + 609), .int a1, .int a2] (MEM b c W M) hi k n (RH (.inl (some (.int r.1))) (MEM b c r.2 M) hi) := by
  obtain ⟨f, rfl, hf⟩ := suc_of hf0
  unfold f_X10_noStations at h
  refine ⟨Nat.le_of_ble_eq_true rfl, ?_⟩
  refine V_aload_n (i := 0) dX10_noStations_0 rfl rfl ?_
  refine V_iload_n (i := 1) dX10_noStations_1 rfl rfl ?_
  refine D_cVIW (As := [_]) (μ := fun W1 => (MEM b c W1 M)) h dX10_noStations_2 cv_X10_286 rfl ⟨_, _, _, (mem_30 hc2), rfl, rfl⟩ rfl (Nat.le_of_ble_eq_true rfl) (fun x y hx => e_X10_noStation (Nat.le_trans (Nat.le_of_ble_eq_true rfl) hf) hc2 hx) fun v2 W1 h => ?_
  refine D_if_ne (tgt := 16) h dX10_noStations_5 rfl (fun b3 h => ?_) (fun b3 h => ?_)
  · refine V_iconst (v := 1) dX10_noStations_16 (by decide) ?_
    refine V_goto (tgt := 21) dX10_noStations_17 rfl ?_
    obtain rfl := Option.some.inj h
    exact V_ireturn dX10_noStations_21 ⟨_, rfl, rfl⟩ ⟨rfl, rfl, rfl⟩
  · refine V_aload_n (i := 0) dX10_noStations_8 rfl rfl ?_
    refine V_iload_n (i := 2) dX10_noStations_9 rfl rfl ?_
    refine D_cVIW (As := [_]) (μ := fun W4 => (MEM b c W4 M)) h dX10_noStations_10 cv_X10_286 rfl ⟨_, _, _, (mem_30 hc2), rfl, rfl⟩ rfl (Nat.le_of_ble_eq_true rfl) (fun x y hx => e_X10_noStation (Nat.le_trans (Nat.le_of_ble_eq_true rfl) hf) hc2 hx) fun v5 W4 h => ?_
    refine D_if_eq (tgt := 20) h dX10_noStations_13 rfl (fun b6 h => ?_) (fun b6 h => ?_)
    · refine V_iconst (v := 0) dX10_noStations_20 (by decide) ?_
      obtain rfl := Option.some.inj h
      exact V_ireturn dX10_noStations_21 ⟨_, rfl, rfl⟩ ⟨rfl, rfl, rfl⟩
    · refine V_iconst (v := 1) dX10_noStations_16 (by decide) ?_
      refine V_goto (tgt := 21) dX10_noStations_17 rfl ?_
      obtain rfl := Option.some.inj h
      exact V_ireturn dX10_noStations_21 ⟨_, rfl, rfl⟩ ⟨rfl, rfl, rfl⟩
noncomputable def f_X10_out (W : Nat → Nat → Int32) (a1 : Int32) (a2 : Int32) (a3 : Int32) : Option (Int32 × (Nat → Nat → Int32)) :=
  bdc (f_X10_isBetween a1 a2 a3) (fun v1 => if v1 = 0 then bd2 (f_X10_refuses W (1 : Int32) (2 : Int32)) (fun v6 W5 => gd (z01 v6) (some (v6, W5))) else bd2 (f_X10_refuses W (0 : Int32) (2 : Int32)) (fun v4 W3 => gd (z01 v4) (some (v4, W3))))
theorem e_X10_out {G : GT} {f0 : Nat} {b c : Nat} {M : MM} {hi k n : Nat} {W : Nat → Nat → Int32} {a1 : Int32} {a2 : Int32} {a3 : Int32} {r : (Int32 × (Nat → Nat → Int32))} (hf0 : 2 ≤ f0) (hc2 : 619 ≤ c) (h : f_X10_out W a1 a2 a3 = some r) : Ex G f0 mX10_out [.ref (b + 609), .int a1, .int a2, .int a3] (MEM b c W M) hi k n (RH (.inl (some (.int r.1))) (MEM b c r.2 M) hi) := by
  obtain ⟨f, rfl, hf⟩ := suc_of hf0
  unfold f_X10_out at h
  refine ⟨Nat.le_of_ble_eq_true rfl, ?_⟩
  refine V_aload_n (i := 0) dX10_out_0 rfl rfl ?_
  refine V_iload_n (i := 1) dX10_out_1 rfl rfl ?_
  refine V_iload_n (i := 2) dX10_out_2 rfl rfl ?_
  refine V_iload_n (i := 3) dX10_out_3 rfl rfl ?_
  refine D_cSI (As := [_, _, _]) h dX10_out_4 cs_X10_99 rfl rfl (Nat.le_of_ble_eq_true rfl) (fun x hx => e_X10_isBetween (Nat.le_trans (Nat.le_of_ble_eq_true rfl) hf) hx) fun v1 h => ?_
  refine D_if_ne (tgt := 14) h dX10_out_7 rfl (fun b2 h => ?_) (fun b2 h => ?_)
  · refine V_iconst (v := 0) dX10_out_14 (by decide) ?_
    refine V_iconst (v := 2) dX10_out_15 (by decide) ?_
    refine D_cVIW (As := [_, _]) (μ := fun W3 => (MEM b c W3 M)) h dX10_out_16 cv_X10_165 rfl ⟨_, _, _, (mem_30 hc2), rfl, rfl⟩ rfl (Nat.le_of_ble_eq_true rfl) (fun x y hx => e_X10_refuses (Nat.le_trans (Nat.le_of_ble_eq_true rfl) hf) hc2 hx) fun v4 W3 h => ?_
    refine D_gd h fun g h => ?_
    obtain rfl := Option.some.inj h
    exact V_ireturn dX10_out_19 ⟨_, rfl, z01_nar g⟩ ⟨rfl, rfl, rfl⟩
  · refine V_iconst (v := 1) dX10_out_10 (by decide) ?_
    refine V_goto (tgt := 15) dX10_out_11 rfl ?_
    refine V_iconst (v := 2) dX10_out_15 (by decide) ?_
    refine D_cVIW (As := [_, _]) (μ := fun W5 => (MEM b c W5 M)) h dX10_out_16 cv_X10_165 rfl ⟨_, _, _, (mem_30 hc2), rfl, rfl⟩ rfl (Nat.le_of_ble_eq_true rfl) (fun x y hx => e_X10_refuses (Nat.le_trans (Nat.le_of_ble_eq_true rfl) hf) hc2 hx) fun v6 W5 h => ?_
    refine D_gd h fun g h => ?_
    obtain rfl := Option.some.inj h
    exact V_ireturn dX10_out_19 ⟨_, rfl, z01_nar g⟩ ⟨rfl, rfl, rfl⟩
noncomputable def l_X10_copyRow_3 (c0 : Nat) (c1 : Int32) (c2 : Nat) (c3 : Int32) : Nat → (Nat → Nat → Int32) → Int32 → Option (Nat → Nat → Int32)
  | 0, _, _ => none
  | N + 1, W, x4 => if (251 : Int32) ≤ x4 then some W else gd (inr (c1 + x4) (LN c0)) (gd (inr (c3 + x4) (LN c2)) (bnd (w2 W c2 (ix (c3 + x4)) (W c0 (ix (c1 + x4)))) (fun W2 => l_X10_copyRow_3 c0 c1 c2 c3 N W2 (x4 + (1 : Int32)))))
theorem lv_X10_copyRow_3 {G : GT} {f : Nat} {b c : Nat} {M : MM} {hi k n : Nat} {c0 : Nat} {c1 : Int32} {c2 : Nat} {c3 : Int32} {r : (Nat → Nat → Int32)} (hf : 0 ≤ f) (hc2 : 619 ≤ c) (u0 : 21 ≤ c0 ∧ c0 < 26) (u2 : 21 ≤ c2 ∧ c2 < 26) : ∀ (N : Nat) (W : Nat → Nat → Int32) (x4 : Int32) , l_X10_copyRow_3 c0 c1 c2 c3 N W x4 = some r → V G f (Ex G f) mX10_copyRow (RH (.inl none) (MEM b c r M) hi) 3 [(0, .ref (b + 589 + c0)), (1, .int c1), (2, .ref (b + 589 + c2)), (3, .int c3), (4, .int x4)] [] (MEM b c W M) hi k n := by
  intro N
  induction N with
  | zero => intro W x4 h; cases h
  | succ N ih =>
    intro W x4 h
    rw [l_X10_copyRow_3] at h
    refine V_iload (i := 4) dX10_copyRow_3 rfl ?_
    refine V_sipush (v := 251) dX10_copyRow_5 (by decide) ?_
    refine D_icmp_ge (tgt := 29) h dX10_copyRow_8 rfl (fun b1 h => ?_) (fun b1 h => ?_)
    · obtain rfl := Option.some.inj h
      exact V_return dX10_copyRow_29 rfl ⟨rfl, rfl, rfl⟩
    · refine V_aload_n (i := 2) dX10_copyRow_11 rfl rfl ?_
      refine V_iload_n (i := 3) dX10_copyRow_12 rfl rfl ?_
      refine V_iload (i := 4) dX10_copyRow_13 rfl ?_
      refine V_iadd dX10_copyRow_15 ?_
      refine V_aload_n (i := 0) dX10_copyRow_16 rfl rfl ?_
      refine V_iload_n (i := 1) dX10_copyRow_17 rfl rfl ?_
      refine V_iload (i := 4) dX10_copyRow_18 rfl ?_
      refine V_iadd dX10_copyRow_20 ?_
      refine D3_ild h (mem_iu hc2 u0) dX10_copyRow_21 fun h => ?_
      refine D3_ist (u := c2) h (mem_iu hc2 u2) (pst_iu hc2 u2) dX10_copyRow_22 fun W2 h => ?_
      refine D_iinc (i := 4) (w := 1) dX10_copyRow_23 rfl (by decide) (Nat.le_of_ble_eq_true rfl) ?_
      refine V_goto (tgt := 3) dX10_copyRow_26 rfl ?_
      exact V_sub (ks := [1, 2, 3, 4, 0]) rfl (ih _ _ h)
noncomputable def f_X10_copyRow (W : Nat → Nat → Int32) (u0 : Nat) (a1 : Int32) (u2 : Nat) (a3 : Int32) : Option (Nat → Nat → Int32) :=
  l_X10_copyRow_3 u0 a1 u2 a3 FU W (0 : Int32)
theorem e_X10_copyRow {G : GT} {f0 : Nat} {b c : Nat} {M : MM} {hi k n : Nat} {W : Nat → Nat → Int32} {u0 : Nat} {a1 : Int32} {u2 : Nat} {a3 : Int32} {r : (Nat → Nat → Int32)} (hf0 : 1 ≤ f0) (hc2 : 619 ≤ c) (t0 : 21 ≤ u0 ∧ u0 < 26) (t2 : 21 ≤ u2 ∧ u2 < 26) (h : f_X10_copyRow W u0 a1 u2 a3 = some r) : Ex G f0 mX10_copyRow [.ref (b + 589 + u0), .int a1, .ref (b + 589 + u2), .int a3] (MEM b c W M) hi k n (RH (.inl none) (MEM b c r M) hi) := by
  obtain ⟨f, rfl, hf⟩ := suc_of hf0
  unfold f_X10_copyRow at h
  refine ⟨Nat.le_of_ble_eq_true rfl, ?_⟩
  refine V_iconst (v := 0) dX10_copyRow_0 (by decide) ?_
  refine V_istore (i := 4) dX10_copyRow_1 (Nat.le_of_ble_eq_true rfl) ?_
  refine V_sub (ks := [1, 2, 3, 4, 0]) rfl (lv_X10_copyRow_3 hf hc2 t0 t2 FU _ _ h)
noncomputable def f_X10_remember (W : Nat → Nat → Int32) : Option (Nat → Nat → Int32) :=
  jn (fun (W2 : Nat → Nat → Int32) => bdc (f_X10_copyRow W2 21 (0 : Int32) 24 ((251 : Int32) * (((W2 30 1) + (W2 30 0)) - ((W2 30 1) + (W2 30 0)) / (8 : Int32) * (8 : Int32)))) (fun W6 => bnd (w2 W6 30 0 ((W6 30 0) + (1 : Int32))) (fun W7 => some W7))) (fun j1 => if (W 30 0) = (8 : Int32) then bnd (w2 W 30 1 (((W 30 1) + (1 : Int32)) - ((W 30 1) + (1 : Int32)) / (8 : Int32) * (8 : Int32))) (fun W4 => bnd (w2 W4 30 0 ((W4 30 0) - (1 : Int32))) (fun W5 => j1 W5)) else j1 W)
theorem e_X10_remember {G : GT} {f0 : Nat} {b c : Nat} {M : MM} {hi k n : Nat} {W : Nat → Nat → Int32} {r : (Nat → Nat → Int32)} (hf0 : 2 ≤ f0) (hc2 : 619 ≤ c) (h : f_X10_remember W = some r) : Ex G f0 mX10_remember [.ref (b + 609)] (MEM b c W M) hi k n (RH (.inl none) (MEM b c r M) hi) := by
  obtain ⟨f, rfl, hf⟩ := suc_of hf0
  unfold f_X10_remember at h
  refine ⟨Nat.le_of_ble_eq_true rfl, ?_⟩
  refine V_aload_n (i := 0) dX10_remember_0 rfl rfl ?_
  refine V_getfield dX10_remember_1 (mem_30 hc2) fl_X10_280 rfl ?_
  refine V_bipush (v := 8) dX10_remember_4 (by decide) ?_
  refine D_jn (fun (j : (Nat → Nat → Int32) → Option (Nat → Nat → Int32)) => ∀ (W2 : Nat → Nat → Int32), j W2 = some r → V G f (Ex G f) mX10_remember (RH (.inl none) (MEM b c r M) hi) 32 [(0, .ref (b + 609))] [] (MEM b c W2 M) hi k n) h (fun j1 hj1 h => ?_) ?_
  · refine D_icmp_ne (tgt := 32) h dX10_remember_6 rfl (fun b3 h => ?_) (fun b3 h => ?_)
    · exact V_sub (ks := [0]) rfl (hj1 _ h)
    · refine V_aload_n (i := 0) dX10_remember_9 rfl rfl ?_
      refine V_aload_n (i := 0) dX10_remember_10 rfl rfl ?_
      refine V_getfield dX10_remember_11 (mem_30 hc2) fl_X10_283 rfl ?_
      refine V_iconst (v := 1) dX10_remember_14 (by decide) ?_
      refine V_iadd dX10_remember_15 ?_
      refine V_bipush (v := 8) dX10_remember_16 (by decide) ?_
      refine V_irem dX10_remember_18 (by decide) ?_
      refine D3_put h dX10_remember_19 (mem_30 hc2) (fp_X10_283 rfl) (Nat.le_of_ble_eq_true rfl) (psc_30_1 hc2) fun W4 h => ?_
      refine V_aload_n (i := 0) dX10_remember_22 rfl rfl ?_
      refine V_dup dX10_remember_23 rfl ?_
      refine V_getfield dX10_remember_24 (mem_30 hc2) fl_X10_280 rfl ?_
      refine V_iconst (v := 1) dX10_remember_27 (by decide) ?_
      refine V_isub dX10_remember_28 ?_
      refine D3_put h dX10_remember_29 (mem_30 hc2) (fp_X10_280 rfl) (Nat.le_of_ble_eq_true rfl) (psc_30_0 hc2) fun W5 h => ?_
      exact V_sub (ks := [0]) rfl (hj1 _ h)
  · intro W2 h
    refine V_aload_n (i := 0) dX10_remember_32 rfl rfl ?_
    refine V_getfield dX10_remember_33 (mem_30 hc2) fl_X10_7 rfl ?_
    refine V_iconst (v := 0) dX10_remember_36 (by decide) ?_
    refine V_aload_n (i := 0) dX10_remember_37 rfl rfl ?_
    refine V_getfield dX10_remember_38 (mem_30 hc2) fl_X10_19 rfl ?_
    refine V_sipush (v := 251) dX10_remember_41 (by decide) ?_
    refine V_aload_n (i := 0) dX10_remember_44 rfl rfl ?_
    refine V_getfield dX10_remember_45 (mem_30 hc2) fl_X10_283 rfl ?_
    refine V_aload_n (i := 0) dX10_remember_48 rfl rfl ?_
    refine V_getfield dX10_remember_49 (mem_30 hc2) fl_X10_280 rfl ?_
    refine V_iadd dX10_remember_52 ?_
    refine V_bipush (v := 8) dX10_remember_53 (by decide) ?_
    refine V_irem dX10_remember_55 (by decide) ?_
    refine V_imul dX10_remember_56 ?_
    refine D_cSU (As := [_, _, _, _]) (μ := fun W6 => (MEM b c W6 M)) h dX10_remember_57 cs_X10_55 rfl rfl (Nat.le_of_ble_eq_true rfl) (fun y hx => e_X10_copyRow (u0 := 21) (u2 := 24) (Nat.le_trans (Nat.le_of_ble_eq_true rfl) hf) hc2 ⟨by decide, by decide⟩ ⟨by decide, by decide⟩ hx) fun W6 h => ?_
    refine V_aload_n (i := 0) dX10_remember_60 rfl rfl ?_
    refine V_dup dX10_remember_61 rfl ?_
    refine V_getfield dX10_remember_62 (mem_30 hc2) fl_X10_280 rfl ?_
    refine V_iconst (v := 1) dX10_remember_65 (by decide) ?_
    refine V_iadd dX10_remember_66 ?_
    refine D3_put h dX10_remember_67 (mem_30 hc2) (fp_X10_280 rfl) (Nat.le_of_ble_eq_true rfl) (psc_30_0 hc2) fun W7 h => ?_
    obtain rfl := Option.some.inj h
    exact V_return dX10_remember_70 rfl ⟨rfl, rfl, rfl⟩
noncomputable def f_X10_addParcel (W : Nat → Nat → Int32) (a1 : Int32) (a2 : Int32) (a3 : Int32) : Option (Int32 × (Nat → Nat → Int32)) :=
  bd2 (f_X10_noStations W a1 a2) (fun v2 W1 => if v2 = 0 then jn (fun (v5 : Int32) => bd2 (f_X10_refuses W1 v5 (2 : Int32)) (fun v8 W7 => if v8 = 0 then bd2 (f_X10_out W7 a3 (1 : Int32) (9 : Int32)) (fun v11 W10 => if v11 = 0 then gd (inr (4 : Int32) 251) (jn (fun (v14 : Int32) => bd2 (f_X10_refuses W10 v14 (3 : Int32)) (fun v17 W16 => if v17 = 0 then bdc (f_X10_remember W16) (fun W19 => bd2 (f_X10_layParcel (pk (W19 21) (W19 27)) a1 a2 a3) (fun v22 S21 => bnd (setQ W19 21 S21) (fun W20 => some (v22, W20)))) else some ((0 : Int32), W16))) (fun j13 => if (W10 21 (ix (4 : Int32))) = (12 : Int32) then j13 (1 : Int32) else j13 (0 : Int32))) else some ((0 : Int32), W10)) else some ((0 : Int32), W7))) (fun j4 => if a1 = a2 then j4 (1 : Int32) else j4 (0 : Int32)) else some ((0 : Int32), W1))
theorem e_X10_addParcel {G : GT} {f0 : Nat} {b c : Nat} {M : MM} {hi k n : Nat} {W : Nat → Nat → Int32} {a1 : Int32} {a2 : Int32} {a3 : Int32} {r : (Int32 × (Nat → Nat → Int32))} (hf0 : 5 ≤ f0) (hc2 : 619 ≤ c) (h : f_X10_addParcel W a1 a2 a3 = some r) : Ex G f0 mX10_addParcel [.ref (b + 609), .int a1, .int a2, .int a3] (MEM b c W M) hi k n (RH (.inl (some (.int r.1))) (MEM b c r.2 M) hi) := by
  obtain ⟨f, rfl, hf⟩ := suc_of hf0
  unfold f_X10_addParcel at h
  refine ⟨Nat.le_of_ble_eq_true rfl, ?_⟩
  refine V_aload_n (i := 0) dX10_addParcel_0 rfl rfl ?_
  refine V_iload_n (i := 1) dX10_addParcel_1 rfl rfl ?_
  refine V_iload_n (i := 2) dX10_addParcel_2 rfl rfl ?_
  refine D_cVIW (As := [_, _]) (μ := fun W1 => (MEM b c W1 M)) h dX10_addParcel_3 cv_X10_296 rfl ⟨_, _, _, (mem_30 hc2), rfl, rfl⟩ rfl (Nat.le_of_ble_eq_true rfl) (fun x y hx => e_X10_noStations (Nat.le_trans (Nat.le_of_ble_eq_true rfl) hf) hc2 hx) fun v2 W1 h => ?_
  refine D_if_ne (tgt := 62) h dX10_addParcel_6 rfl (fun b3 h => ?_) (fun b3 h => ?_)
  · refine V_iconst (v := 0) dX10_addParcel_62 (by decide) ?_
    obtain rfl := Option.some.inj h
    exact V_ireturn dX10_addParcel_63 ⟨_, rfl, rfl⟩ ⟨rfl, rfl, rfl⟩
  · refine V_aload_n (i := 0) dX10_addParcel_9 rfl rfl ?_
    refine V_iload_n (i := 1) dX10_addParcel_10 rfl rfl ?_
    refine V_iload_n (i := 2) dX10_addParcel_11 rfl rfl ?_
    refine D_jn (fun (j : Int32 → Option (Int32 × (Nat → Nat → Int32))) => ∀ (v5 : Int32), j v5 = some r → V G f (Ex G f) mX10_addParcel (RH (.inl (some (.int r.1))) (MEM b c r.2 M) hi) 20 [(0, .ref (b + 609)), (1, .int a1), (2, .int a2), (3, .int a3)] [.int v5, .ref (b + 609)] (MEM b c W1 M) hi k n) h (fun j4 hj4 h => ?_) ?_
    · refine D_icmp_ne (tgt := 19) h dX10_addParcel_12 rfl (fun b6 h => ?_) (fun b6 h => ?_)
      · refine V_iconst (v := 0) dX10_addParcel_19 (by decide) ?_
        exact V_sub (ks := [0, 1, 2, 3]) rfl (hj4 _ h)
      · refine V_iconst (v := 1) dX10_addParcel_15 (by decide) ?_
        refine V_goto (tgt := 20) dX10_addParcel_16 rfl ?_
        exact V_sub (ks := [0, 1, 2, 3]) rfl (hj4 _ h)
    · intro v5 h
      refine V_iconst (v := 2) dX10_addParcel_20 (by decide) ?_
      refine D_cVIW (As := [_, _]) (μ := fun W7 => (MEM b c W7 M)) h dX10_addParcel_21 cv_X10_165 rfl ⟨_, _, _, (mem_30 hc2), rfl, rfl⟩ rfl (Nat.le_of_ble_eq_true rfl) (fun x y hx => e_X10_refuses (Nat.le_trans (Nat.le_of_ble_eq_true rfl) hf) hc2 hx) fun v8 W7 h => ?_
      refine D_if_ne (tgt := 62) h dX10_addParcel_24 rfl (fun b9 h => ?_) (fun b9 h => ?_)
      · refine V_iconst (v := 0) dX10_addParcel_62 (by decide) ?_
        obtain rfl := Option.some.inj h
        exact V_ireturn dX10_addParcel_63 ⟨_, rfl, rfl⟩ ⟨rfl, rfl, rfl⟩
      · refine V_aload_n (i := 0) dX10_addParcel_27 rfl rfl ?_
        refine V_iload_n (i := 3) dX10_addParcel_28 rfl rfl ?_
        refine V_iconst (v := 1) dX10_addParcel_29 (by decide) ?_
        refine V_bipush (v := 9) dX10_addParcel_30 (by decide) ?_
        refine D_cVIW (As := [_, _, _]) (μ := fun W10 => (MEM b c W10 M)) h dX10_addParcel_32 cv_X10_293 rfl ⟨_, _, _, (mem_30 hc2), rfl, rfl⟩ rfl (Nat.le_of_ble_eq_true rfl) (fun x y hx => e_X10_out (Nat.le_trans (Nat.le_of_ble_eq_true rfl) hf) hc2 hx) fun v11 W10 h => ?_
        refine D_if_ne (tgt := 62) h dX10_addParcel_35 rfl (fun b12 h => ?_) (fun b12 h => ?_)
        · refine V_iconst (v := 0) dX10_addParcel_62 (by decide) ?_
          obtain rfl := Option.some.inj h
          exact V_ireturn dX10_addParcel_63 ⟨_, rfl, rfl⟩ ⟨rfl, rfl, rfl⟩
        · refine V_aload_n (i := 0) dX10_addParcel_38 rfl rfl ?_
          refine V_aload_n (i := 0) dX10_addParcel_39 rfl rfl ?_
          refine V_getfield dX10_addParcel_40 (mem_30 hc2) fl_X10_7 rfl ?_
          refine V_iconst (v := 4) dX10_addParcel_43 (by decide) ?_
          refine D3_ild h (mem_21 hc2) dX10_addParcel_44 fun h => ?_
          refine V_bipush (v := 12) dX10_addParcel_45 (by decide) ?_
          refine D_jn (fun (j : Int32 → Option (Int32 × (Nat → Nat → Int32))) => ∀ (v14 : Int32), j v14 = some r → V G f (Ex G f) mX10_addParcel (RH (.inl (some (.int r.1))) (MEM b c r.2 M) hi) 55 [(0, .ref (b + 609)), (1, .int a1), (2, .int a2), (3, .int a3)] [.int v14, .ref (b + 609)] (MEM b c W10 M) hi k n) h (fun j13 hj13 h => ?_) ?_
          · refine D_icmp_ne (tgt := 54) h dX10_addParcel_47 rfl (fun b15 h => ?_) (fun b15 h => ?_)
            · refine V_iconst (v := 0) dX10_addParcel_54 (by decide) ?_
              exact V_sub (ks := [0, 1, 2, 3]) rfl (hj13 _ h)
            · refine V_iconst (v := 1) dX10_addParcel_50 (by decide) ?_
              refine V_goto (tgt := 55) dX10_addParcel_51 rfl ?_
              exact V_sub (ks := [0, 1, 2, 3]) rfl (hj13 _ h)
          · intro v14 h
            refine V_iconst (v := 3) dX10_addParcel_55 (by decide) ?_
            refine D_cVIW (As := [_, _]) (μ := fun W16 => (MEM b c W16 M)) h dX10_addParcel_56 cv_X10_165 rfl ⟨_, _, _, (mem_30 hc2), rfl, rfl⟩ rfl (Nat.le_of_ble_eq_true rfl) (fun x y hx => e_X10_refuses (Nat.le_trans (Nat.le_of_ble_eq_true rfl) hf) hc2 hx) fun v17 W16 h => ?_
            refine D_if_eq (tgt := 64) h dX10_addParcel_59 rfl (fun b18 h => ?_) (fun b18 h => ?_)
            · refine V_aload_n (i := 0) dX10_addParcel_64 rfl rfl ?_
              refine D_cVU (As := []) (μ := fun W19 => (MEM b c W19 M)) h dX10_addParcel_65 cv_X10_277 rfl ⟨_, _, _, (mem_30 hc2), rfl, rfl⟩ rfl (Nat.le_of_ble_eq_true rfl) (fun y hx => e_X10_remember (Nat.le_trans (Nat.le_of_ble_eq_true rfl) hf) hc2 hx) fun W19 h => ?_
              refine V_aload_n (i := 0) dX10_addParcel_68 rfl rfl ?_
              refine V_getfield dX10_addParcel_69 (mem_30 hc2) fl_X10_7 rfl ?_
              refine V_iload_n (i := 1) dX10_addParcel_72 rfl rfl ?_
              refine V_iload_n (i := 2) dX10_addParcel_73 rfl rfl ?_
              refine V_iload_n (i := 3) dX10_addParcel_74 rfl rfl ?_
              refine D_cSIW (As := [_, _, _, _]) (μ := fun S21 => (MEM b c (setQ W19 21 S21) M)) h dX10_addParcel_75 cs_X10_226 rfl rfl (Nat.le_of_ble_eq_true rfl) (fun x y hx => liftq1 (u := 21) hc2 ⟨by decide, by decide⟩ rfl (e_X10_layParcel (Nat.le_trans (Nat.le_of_ble_eq_true rfl) hf) hx)) fun v22 S21 h => ?_
              refine D3_gen (μ := fun W => (MEM b c W M)) h fun W20 h => ?_
              obtain rfl := Option.some.inj h
              exact V_ireturn dX10_addParcel_78 ⟨_, rfl, rfl⟩ ⟨rfl, rfl, rfl⟩
            · refine V_iconst (v := 0) dX10_addParcel_62 (by decide) ?_
              obtain rfl := Option.some.inj h
              exact V_ireturn dX10_addParcel_63 ⟨_, rfl, rfl⟩ ⟨rfl, rfl, rfl⟩
noncomputable def f_X10_byteAt (W : Nat → Nat → Int32) (a1 : Int32) : Option Int32 :=
  if (W 30 3) ≤ a1 then some (-1 : Int32) else gd (inr a1 600) (some (W 28 (ix a1)))
theorem e_X10_byteAt {G : GT} {f0 : Nat} {b c : Nat} {M : MM} {hi k n : Nat} {W : Nat → Nat → Int32} {a1 : Int32} {r : Int32} (hf0 : 1 ≤ f0) (hc2 : 619 ≤ c) (h : f_X10_byteAt W a1 = some r) : Ex G f0 mX10_byteAt [.ref (b + 609), .int a1] (MEM b c W M) hi k n (RH (.inl (some (.int r))) (MEM b c W M) hi) := by
  obtain ⟨f, rfl, hf⟩ := suc_of hf0
  unfold f_X10_byteAt at h
  refine ⟨Nat.le_of_ble_eq_true rfl, ?_⟩
  refine V_iload_n (i := 1) dX10_byteAt_0 rfl rfl ?_
  refine V_aload_n (i := 0) dX10_byteAt_1 rfl rfl ?_
  refine V_getfield dX10_byteAt_2 (mem_30 hc2) fl_X10_52 rfl ?_
  refine D_icmp_ge (tgt := 17) h dX10_byteAt_5 rfl (fun b1 h => ?_) (fun b1 h => ?_)
  · refine V_iconst (v := -1) dX10_byteAt_17 (by decide) ?_
    obtain rfl := Option.some.inj h
    exact V_ireturn dX10_byteAt_18 ⟨_, rfl, rfl⟩ ⟨rfl, rfl, rfl⟩
  · refine V_aload_n (i := 0) dX10_byteAt_8 rfl rfl ?_
    refine V_getfield dX10_byteAt_9 (mem_30 hc2) fl_X10_32 rfl ?_
    refine V_iload_n (i := 1) dX10_byteAt_12 rfl rfl ?_
    refine D3_ild h (mem_28 hc2) dX10_byteAt_13 fun h => ?_
    refine V_goto (tgt := 18) dX10_byteAt_14 rfl ?_
    obtain rfl := Option.some.inj h
    exact V_ireturn dX10_byteAt_18 ⟨_, rfl, rfl⟩ ⟨rfl, rfl, rfl⟩
noncomputable def l_X10_advance_0 (K39 : (Nat → Nat → Int32) → Option (Nat → Nat → Int32)) : Nat → (Nat → Nat → Int32) → Option (Nat → Nat → Int32)
  | 0, _ => none
  | N + 1, W => bdc (f_X10_byteAt W (W 30 4)) (fun v1 => if v1 = (32 : Int32) then bnd (w2 W 30 4 ((W 30 4) + (1 : Int32))) (fun W3 => l_X10_advance_0 K39 N W3) else bdc (f_X10_byteAt W (W 30 4)) (fun v4 => if v4 = (10 : Int32) then bnd (w2 W 30 4 ((W 30 4) + (1 : Int32))) (fun W6 => l_X10_advance_0 K39 N W6) else K39 W))
theorem lv_X10_advance_0 {G : GT} {f : Nat} {b c : Nat} {M : MM} {hi k n : Nat} {K39 : (Nat → Nat → Int32) → Option (Nat → Nat → Int32)} {r : (Nat → Nat → Int32)} (hf : 1 ≤ f) (hc2 : 619 ≤ c) (hK39 : ∀ (Wk : Nat → Nat → Int32), K39 Wk = some r → V G f (Ex G f) mX10_advance (RH (.inl none) (MEM b c r M) hi) 39 [(0, .ref (b + 609))] [] (MEM b c Wk M) hi k n) : ∀ (N : Nat) (W : Nat → Nat → Int32) , l_X10_advance_0 K39 N W = some r → V G f (Ex G f) mX10_advance (RH (.inl none) (MEM b c r M) hi) 0 [(0, .ref (b + 609))] [] (MEM b c W M) hi k n := by
  intro N
  induction N with
  | zero => intro W h; cases h
  | succ N ih =>
    intro W h
    rw [l_X10_advance_0] at h
    refine V_aload_n (i := 0) dX10_advance_0 rfl rfl ?_
    refine V_aload_n (i := 0) dX10_advance_1 rfl rfl ?_
    refine V_getfield dX10_advance_2 (mem_30 hc2) fl_X10_179 rfl ?_
    refine D_cVI (As := [_]) h dX10_advance_5 cv_X10_182 rfl ⟨_, _, _, (mem_30 hc2), rfl, rfl⟩ rfl (Nat.le_of_ble_eq_true rfl) (fun x hx => e_X10_byteAt (Nat.le_trans (Nat.le_of_ble_eq_true rfl) hf) hc2 hx) fun v1 h => ?_
    refine V_bipush (v := 32) dX10_advance_8 (by decide) ?_
    refine D_icmp_eq (tgt := 26) h dX10_advance_10 rfl (fun b2 h => ?_) (fun b2 h => ?_)
    · refine V_aload_n (i := 0) dX10_advance_26 rfl rfl ?_
      refine V_dup dX10_advance_27 rfl ?_
      refine V_getfield dX10_advance_28 (mem_30 hc2) fl_X10_179 rfl ?_
      refine V_iconst (v := 1) dX10_advance_31 (by decide) ?_
      refine V_iadd dX10_advance_32 ?_
      refine D3_put h dX10_advance_33 (mem_30 hc2) (fp_X10_179 rfl) (Nat.le_of_ble_eq_true rfl) (psc_30_4 hc2) fun W3 h => ?_
      refine V_goto (tgt := 0) dX10_advance_36 rfl ?_
      exact V_sub (ks := [0]) rfl (ih _ h)
    · refine V_aload_n (i := 0) dX10_advance_13 rfl rfl ?_
      refine V_aload_n (i := 0) dX10_advance_14 rfl rfl ?_
      refine V_getfield dX10_advance_15 (mem_30 hc2) fl_X10_179 rfl ?_
      refine D_cVI (As := [_]) h dX10_advance_18 cv_X10_182 rfl ⟨_, _, _, (mem_30 hc2), rfl, rfl⟩ rfl (Nat.le_of_ble_eq_true rfl) (fun x hx => e_X10_byteAt (Nat.le_trans (Nat.le_of_ble_eq_true rfl) hf) hc2 hx) fun v4 h => ?_
      refine V_bipush (v := 10) dX10_advance_21 (by decide) ?_
      refine D_icmp_ne (tgt := 39) h dX10_advance_23 rfl (fun b5 h => ?_) (fun b5 h => ?_)
      · exact V_sub (ks := [0]) rfl (hK39 _ h)
      · refine V_aload_n (i := 0) dX10_advance_26 rfl rfl ?_
        refine V_dup dX10_advance_27 rfl ?_
        refine V_getfield dX10_advance_28 (mem_30 hc2) fl_X10_179 rfl ?_
        refine V_iconst (v := 1) dX10_advance_31 (by decide) ?_
        refine V_iadd dX10_advance_32 ?_
        refine D3_put h dX10_advance_33 (mem_30 hc2) (fp_X10_179 rfl) (Nat.le_of_ble_eq_true rfl) (psc_30_4 hc2) fun W6 h => ?_
        refine V_goto (tgt := 0) dX10_advance_36 rfl ?_
        exact V_sub (ks := [0]) rfl (ih _ h)
noncomputable def l_X10_advance_152  : Nat → (Nat → Nat → Int32) → Option (Nat → Nat → Int32)
  | 0, _ => none
  | N + 1, W => bdc (f_X10_byteAt W (W 30 4)) (fun v20 => bdc (f_X10_isBetween v20 (48 : Int32) (57 : Int32)) (fun v21 => if v21 = 0 then some W else if (W 30 7) ≤ (99999999 : Int32) then bdc (f_X10_byteAt W (W 30 4)) (fun v24 => bnd (w2 W 30 7 ((((10 : Int32) * (W 30 7)) + v24) - (48 : Int32))) (fun W25 => bnd (w2 W25 30 4 ((W25 30 4) + (1 : Int32))) (fun W26 => l_X10_advance_152 N W26))) else bnd (w2 W 30 7 (W 30 7)) (fun W27 => bnd (w2 W27 30 4 ((W27 30 4) + (1 : Int32))) (fun W28 => l_X10_advance_152 N W28))))
theorem lv_X10_advance_152 {G : GT} {f : Nat} {b c : Nat} {M : MM} {hi k n : Nat}  {r : (Nat → Nat → Int32)} (hf : 1 ≤ f) (hc2 : 619 ≤ c) : ∀ (N : Nat) (W : Nat → Nat → Int32) , l_X10_advance_152 N W = some r → V G f (Ex G f) mX10_advance (RH (.inl none) (MEM b c r M) hi) 152 [(0, .ref (b + 609))] [] (MEM b c W M) hi k n := by
  intro N
  induction N with
  | zero => intro W h; cases h
  | succ N ih =>
    intro W h
    rw [l_X10_advance_152] at h
    refine V_aload_n (i := 0) dX10_advance_152 rfl rfl ?_
    refine V_aload_n (i := 0) dX10_advance_153 rfl rfl ?_
    refine V_getfield dX10_advance_154 (mem_30 hc2) fl_X10_179 rfl ?_
    refine D_cVI (As := [_]) h dX10_advance_157 cv_X10_182 rfl ⟨_, _, _, (mem_30 hc2), rfl, rfl⟩ rfl (Nat.le_of_ble_eq_true rfl) (fun x hx => e_X10_byteAt (Nat.le_trans (Nat.le_of_ble_eq_true rfl) hf) hc2 hx) fun v20 h => ?_
    refine V_bipush (v := 48) dX10_advance_160 (by decide) ?_
    refine V_bipush (v := 57) dX10_advance_162 (by decide) ?_
    refine D_cSI (As := [_, _, _]) h dX10_advance_164 cs_X10_99 rfl rfl (Nat.le_of_ble_eq_true rfl) (fun x hx => e_X10_isBetween (Nat.le_trans (Nat.le_of_ble_eq_true rfl) hf) hx) fun v21 h => ?_
    refine D_if_eq (tgt := 237) h dX10_advance_167 rfl (fun b22 h => ?_) (fun b22 h => ?_)
    · obtain rfl := Option.some.inj h
      exact V_return dX10_advance_237 rfl ⟨rfl, rfl, rfl⟩
    · refine V_aload_n (i := 0) dX10_advance_170 rfl rfl ?_
      refine V_aload_n (i := 0) dX10_advance_171 rfl rfl ?_
      refine V_getfield dX10_advance_172 (mem_30 hc2) fl_X10_191 rfl ?_
      refine V_ldcI (v := 99999999) dX10_advance_175 tw_1371 ?_
      refine D_icmp_le (tgt := 187) h dX10_advance_177 rfl (fun b23 h => ?_) (fun b23 h => ?_)
      · refine V_bipush (v := 10) dX10_advance_187 (by decide) ?_
        refine V_aload_n (i := 0) dX10_advance_189 rfl rfl ?_
        refine V_getfield dX10_advance_190 (mem_30 hc2) fl_X10_191 rfl ?_
        refine V_imul dX10_advance_193 ?_
        refine V_aload_n (i := 0) dX10_advance_194 rfl rfl ?_
        refine V_aload_n (i := 0) dX10_advance_195 rfl rfl ?_
        refine V_getfield dX10_advance_196 (mem_30 hc2) fl_X10_179 rfl ?_
        refine D_cVI (As := [_]) h dX10_advance_199 cv_X10_182 rfl ⟨_, _, _, (mem_30 hc2), rfl, rfl⟩ rfl (Nat.le_of_ble_eq_true rfl) (fun x hx => e_X10_byteAt (Nat.le_trans (Nat.le_of_ble_eq_true rfl) hf) hc2 hx) fun v24 h => ?_
        refine V_iadd dX10_advance_202 ?_
        refine V_bipush (v := 48) dX10_advance_203 (by decide) ?_
        refine V_isub dX10_advance_205 ?_
        refine D3_put h dX10_advance_206 (mem_30 hc2) (fp_X10_191 rfl) (Nat.le_of_ble_eq_true rfl) (psc_30_7 hc2) fun W25 h => ?_
        refine V_aload_n (i := 0) dX10_advance_209 rfl rfl ?_
        refine V_dup dX10_advance_210 rfl ?_
        refine V_getfield dX10_advance_211 (mem_30 hc2) fl_X10_179 rfl ?_
        refine V_iconst (v := 1) dX10_advance_214 (by decide) ?_
        refine V_iadd dX10_advance_215 ?_
        refine D3_put h dX10_advance_216 (mem_30 hc2) (fp_X10_179 rfl) (Nat.le_of_ble_eq_true rfl) (psc_30_4 hc2) fun W26 h => ?_
        refine V_goto (tgt := 152) dX10_advance_219 rfl ?_
        exact V_sub (ks := [0]) rfl (ih _ h)
      · refine V_aload_n (i := 0) dX10_advance_180 rfl rfl ?_
        refine V_getfield dX10_advance_181 (mem_30 hc2) fl_X10_191 rfl ?_
        refine V_goto (tgt := 206) dX10_advance_184 rfl ?_
        refine D3_put h dX10_advance_206 (mem_30 hc2) (fp_X10_191 rfl) (Nat.le_of_ble_eq_true rfl) (psc_30_7 hc2) fun W27 h => ?_
        refine V_aload_n (i := 0) dX10_advance_209 rfl rfl ?_
        refine V_dup dX10_advance_210 rfl ?_
        refine V_getfield dX10_advance_211 (mem_30 hc2) fl_X10_179 rfl ?_
        refine V_iconst (v := 1) dX10_advance_214 (by decide) ?_
        refine V_iadd dX10_advance_215 ?_
        refine D3_put h dX10_advance_216 (mem_30 hc2) (fp_X10_179 rfl) (Nat.le_of_ble_eq_true rfl) (psc_30_4 hc2) fun W28 h => ?_
        refine V_goto (tgt := 152) dX10_advance_219 rfl ?_
        exact V_sub (ks := [0]) rfl (ih _ h)
noncomputable def l_X10_advance_95  : Nat → (Nat → Nat → Int32) → Option (Nat → Nat → Int32)
  | 0, _ => none
  | N + 1, W => bdc (f_X10_byteAt W (W 30 4)) (fun v30 => bdc (f_X10_isBetween v30 (97 : Int32) (122 : Int32)) (fun v31 => if v31 = 0 then some W else bnd (w2 W 30 8 ((W 30 8) + (1 : Int32))) (fun W33 => bnd (w2 W33 30 4 ((W33 30 4) + (1 : Int32))) (fun W34 => l_X10_advance_95 N W34))))
theorem lv_X10_advance_95 {G : GT} {f : Nat} {b c : Nat} {M : MM} {hi k n : Nat}  {r : (Nat → Nat → Int32)} (hf : 1 ≤ f) (hc2 : 619 ≤ c) : ∀ (N : Nat) (W : Nat → Nat → Int32) , l_X10_advance_95 N W = some r → V G f (Ex G f) mX10_advance (RH (.inl none) (MEM b c r M) hi) 95 [(0, .ref (b + 609))] [] (MEM b c W M) hi k n := by
  intro N
  induction N with
  | zero => intro W h; cases h
  | succ N ih =>
    intro W h
    rw [l_X10_advance_95] at h
    refine V_aload_n (i := 0) dX10_advance_95 rfl rfl ?_
    refine V_aload_n (i := 0) dX10_advance_96 rfl rfl ?_
    refine V_getfield dX10_advance_97 (mem_30 hc2) fl_X10_179 rfl ?_
    refine D_cVI (As := [_]) h dX10_advance_100 cv_X10_182 rfl ⟨_, _, _, (mem_30 hc2), rfl, rfl⟩ rfl (Nat.le_of_ble_eq_true rfl) (fun x hx => e_X10_byteAt (Nat.le_trans (Nat.le_of_ble_eq_true rfl) hf) hc2 hx) fun v30 h => ?_
    refine V_bipush (v := 97) dX10_advance_103 (by decide) ?_
    refine V_bipush (v := 122) dX10_advance_105 (by decide) ?_
    refine D_cSI (As := [_, _, _]) h dX10_advance_107 cs_X10_99 rfl rfl (Nat.le_of_ble_eq_true rfl) (fun x hx => e_X10_isBetween (Nat.le_trans (Nat.le_of_ble_eq_true rfl) hf) hx) fun v31 h => ?_
    refine D_if_eq (tgt := 237) h dX10_advance_110 rfl (fun b32 h => ?_) (fun b32 h => ?_)
    · obtain rfl := Option.some.inj h
      exact V_return dX10_advance_237 rfl ⟨rfl, rfl, rfl⟩
    · refine V_aload_n (i := 0) dX10_advance_113 rfl rfl ?_
      refine V_dup dX10_advance_114 rfl ?_
      refine V_getfield dX10_advance_115 (mem_30 hc2) fl_X10_188 rfl ?_
      refine V_iconst (v := 1) dX10_advance_118 (by decide) ?_
      refine V_iadd dX10_advance_119 ?_
      refine D3_put h dX10_advance_120 (mem_30 hc2) (fp_X10_188 rfl) (Nat.le_of_ble_eq_true rfl) (psc_30_8 hc2) fun W33 h => ?_
      refine V_aload_n (i := 0) dX10_advance_123 rfl rfl ?_
      refine V_dup dX10_advance_124 rfl ?_
      refine V_getfield dX10_advance_125 (mem_30 hc2) fl_X10_179 rfl ?_
      refine V_iconst (v := 1) dX10_advance_128 (by decide) ?_
      refine V_iadd dX10_advance_129 ?_
      refine D3_put h dX10_advance_130 (mem_30 hc2) (fp_X10_179 rfl) (Nat.le_of_ble_eq_true rfl) (psc_30_4 hc2) fun W34 h => ?_
      refine V_goto (tgt := 95) dX10_advance_133 rfl ?_
      exact V_sub (ks := [0]) rfl (ih _ h)
noncomputable def f_X10_advance (W : Nat → Nat → Int32) : Option (Nat → Nat → Int32) :=
  l_X10_advance_0 (fun (x7 : Nat → Nat → Int32) => bnd (w2 x7 30 5 (x7 30 4)) (fun W8 => bnd (w2 W8 30 8 (0 : Int32)) (fun W9 => bnd (w2 W9 30 7 (0 : Int32)) (fun W10 => bdc (f_X10_byteAt W10 (W10 30 4)) (fun v11 => if v11 = (-1 : Int32) then bnd (w2 W10 30 6 (0 : Int32)) (fun W35 => some W35) else bdc (f_X10_isBetween v11 (97 : Int32) (122 : Int32)) (fun v13 => if v13 = 0 then bdc (f_X10_isBetween v11 (48 : Int32) (57 : Int32)) (fun v15 => if v15 = 0 then bnd (w2 W10 30 6 (1 : Int32)) (fun W17 => bnd (w2 W17 30 4 ((W17 30 4) + (1 : Int32))) (fun W18 => some W18)) else bnd (w2 W10 30 6 (2 : Int32)) (fun W19 => l_X10_advance_152 FU W19)) else bnd (w2 W10 30 6 (3 : Int32)) (fun W29 => l_X10_advance_95 FU W29))))))) FU W
theorem e_X10_advance {G : GT} {f0 : Nat} {b c : Nat} {M : MM} {hi k n : Nat} {W : Nat → Nat → Int32} {r : (Nat → Nat → Int32)} (hf0 : 2 ≤ f0) (hc2 : 619 ≤ c) (h : f_X10_advance W = some r) : Ex G f0 mX10_advance [.ref (b + 609)] (MEM b c W M) hi k n (RH (.inl none) (MEM b c r M) hi) := by
  obtain ⟨f, rfl, hf⟩ := suc_of hf0
  unfold f_X10_advance at h
  refine ⟨Nat.le_of_ble_eq_true rfl, ?_⟩
  refine V_sub (ks := [0]) rfl (lv_X10_advance_0 hf hc2 ?_ FU _ h)
  · intro x7 h
    refine V_aload_n (i := 0) dX10_advance_39 rfl rfl ?_
    refine V_aload_n (i := 0) dX10_advance_40 rfl rfl ?_
    refine V_getfield dX10_advance_41 (mem_30 hc2) fl_X10_179 rfl ?_
    refine D3_put h dX10_advance_44 (mem_30 hc2) (fp_X10_185 rfl) (Nat.le_of_ble_eq_true rfl) (psc_30_5 hc2) fun W8 h => ?_
    refine V_aload_n (i := 0) dX10_advance_47 rfl rfl ?_
    refine V_iconst (v := 0) dX10_advance_48 (by decide) ?_
    refine D3_put h dX10_advance_49 (mem_30 hc2) (fp_X10_188 rfl) (Nat.le_of_ble_eq_true rfl) (psc_30_8 hc2) fun W9 h => ?_
    refine V_aload_n (i := 0) dX10_advance_52 rfl rfl ?_
    refine V_iconst (v := 0) dX10_advance_53 (by decide) ?_
    refine D3_put h dX10_advance_54 (mem_30 hc2) (fp_X10_191 rfl) (Nat.le_of_ble_eq_true rfl) (psc_30_7 hc2) fun W10 h => ?_
    refine V_aload_n (i := 0) dX10_advance_57 rfl rfl ?_
    refine V_aload_n (i := 0) dX10_advance_58 rfl rfl ?_
    refine V_getfield dX10_advance_59 (mem_30 hc2) fl_X10_179 rfl ?_
    refine D_cVI (As := [_]) h dX10_advance_62 cv_X10_182 rfl ⟨_, _, _, (mem_30 hc2), rfl, rfl⟩ rfl (Nat.le_of_ble_eq_true rfl) (fun x hx => e_X10_byteAt (Nat.le_trans (Nat.le_of_ble_eq_true rfl) hf) hc2 hx) fun v11 h => ?_
    refine V_istore_n (i := 1) dX10_advance_65 rfl (Nat.le_of_ble_eq_true rfl) ?_
    refine V_iload_n (i := 1) dX10_advance_66 rfl rfl ?_
    refine V_iconst (v := -1) dX10_advance_67 (by decide) ?_
    refine D_icmp_ne (tgt := 79) h dX10_advance_68 rfl (fun b12 h => ?_) (fun b12 h => ?_)
    · refine V_iload_n (i := 1) dX10_advance_79 rfl rfl ?_
      refine V_bipush (v := 97) dX10_advance_80 (by decide) ?_
      refine V_bipush (v := 122) dX10_advance_82 (by decide) ?_
      refine D_cSI (As := [_, _, _]) h dX10_advance_84 cs_X10_99 rfl rfl (Nat.le_of_ble_eq_true rfl) (fun x hx => e_X10_isBetween (Nat.le_trans (Nat.le_of_ble_eq_true rfl) hf) hx) fun v13 h => ?_
      refine D_if_eq (tgt := 136) h dX10_advance_87 rfl (fun b14 h => ?_) (fun b14 h => ?_)
      · refine V_iload_n (i := 1) dX10_advance_136 rfl rfl ?_
        refine V_bipush (v := 48) dX10_advance_137 (by decide) ?_
        refine V_bipush (v := 57) dX10_advance_139 (by decide) ?_
        refine D_cSI (As := [_, _, _]) h dX10_advance_141 cs_X10_99 rfl rfl (Nat.le_of_ble_eq_true rfl) (fun x hx => e_X10_isBetween (Nat.le_trans (Nat.le_of_ble_eq_true rfl) hf) hx) fun v15 h => ?_
        refine D_if_eq (tgt := 222) h dX10_advance_144 rfl (fun b16 h => ?_) (fun b16 h => ?_)
        · refine V_aload_n (i := 0) dX10_advance_222 rfl rfl ?_
          refine V_iconst (v := 1) dX10_advance_223 (by decide) ?_
          refine D3_put h dX10_advance_224 (mem_30 hc2) (fp_X10_194 rfl) (Nat.le_of_ble_eq_true rfl) (psc_30_6 hc2) fun W17 h => ?_
          refine V_aload_n (i := 0) dX10_advance_227 rfl rfl ?_
          refine V_dup dX10_advance_228 rfl ?_
          refine V_getfield dX10_advance_229 (mem_30 hc2) fl_X10_179 rfl ?_
          refine V_iconst (v := 1) dX10_advance_232 (by decide) ?_
          refine V_iadd dX10_advance_233 ?_
          refine D3_put h dX10_advance_234 (mem_30 hc2) (fp_X10_179 rfl) (Nat.le_of_ble_eq_true rfl) (psc_30_4 hc2) fun W18 h => ?_
          obtain rfl := Option.some.inj h
          exact V_return dX10_advance_237 rfl ⟨rfl, rfl, rfl⟩
        · refine V_aload_n (i := 0) dX10_advance_147 rfl rfl ?_
          refine V_iconst (v := 2) dX10_advance_148 (by decide) ?_
          refine D3_put h dX10_advance_149 (mem_30 hc2) (fp_X10_194 rfl) (Nat.le_of_ble_eq_true rfl) (psc_30_6 hc2) fun W19 h => ?_
          refine V_sub (ks := [1]) rfl (lv_X10_advance_152 hf hc2 FU _ h)
      · refine V_aload_n (i := 0) dX10_advance_90 rfl rfl ?_
        refine V_iconst (v := 3) dX10_advance_91 (by decide) ?_
        refine D3_put h dX10_advance_92 (mem_30 hc2) (fp_X10_194 rfl) (Nat.le_of_ble_eq_true rfl) (psc_30_6 hc2) fun W29 h => ?_
        refine V_sub (ks := [1]) rfl (lv_X10_advance_95 hf hc2 FU _ h)
    · refine V_aload_n (i := 0) dX10_advance_71 rfl rfl ?_
      refine V_iconst (v := 0) dX10_advance_72 (by decide) ?_
      refine D3_put h dX10_advance_73 (mem_30 hc2) (fp_X10_194 rfl) (Nat.le_of_ble_eq_true rfl) (psc_30_6 hc2) fun W35 h => ?_
      refine V_goto (tgt := 237) dX10_advance_76 rfl ?_
      obtain rfl := Option.some.inj h
      exact V_return dX10_advance_237 rfl ⟨rfl, rfl, rfl⟩
noncomputable def l_X10_appendWord_3 (c1 : Int32) : Nat → (Nat → Nat → Int32) → Int32 → Option (Nat → Nat → Int32)
  | 0, _, _ => none
  | N + 1, W, x2 => if x2 < 0 then some W else gd (inr (W 30 3) 600) (bnd (w2 W 28 (ix (W 30 3)) ((c1 >>> (x2 &&& 31)) &&& (255 : Int32))) (fun W2 => bnd (w2 W2 30 3 ((W2 30 3) + (1 : Int32))) (fun W3 => l_X10_appendWord_3 c1 N W3 (x2 + (-8 : Int32)))))
theorem lv_X10_appendWord_3 {G : GT} {f : Nat} {b c : Nat} {M : MM} {hi k n : Nat} {c1 : Int32} {r : (Nat → Nat → Int32)} (hf : 0 ≤ f) (hc2 : 619 ≤ c) : ∀ (N : Nat) (W : Nat → Nat → Int32) (x2 : Int32) , l_X10_appendWord_3 c1 N W x2 = some r → V G f (Ex G f) mX10_appendWord (RH (.inl none) (MEM b c r M) hi) 3 [(0, .ref (b + 609)), (1, .int c1), (2, .int x2)] [] (MEM b c W M) hi k n := by
  intro N
  induction N with
  | zero => intro W x2 h; cases h
  | succ N ih =>
    intro W x2 h
    rw [l_X10_appendWord_3] at h
    refine V_iload_n (i := 2) dX10_appendWord_3 rfl rfl ?_
    refine D_if_lt (tgt := 39) h dX10_appendWord_4 rfl (fun b1 h => ?_) (fun b1 h => ?_)
    · obtain rfl := Option.some.inj h
      exact V_return dX10_appendWord_39 rfl ⟨rfl, rfl, rfl⟩
    · refine V_aload_n (i := 0) dX10_appendWord_7 rfl rfl ?_
      refine V_getfield dX10_appendWord_8 (mem_30 hc2) fl_X10_32 rfl ?_
      refine V_aload_n (i := 0) dX10_appendWord_11 rfl rfl ?_
      refine V_getfield dX10_appendWord_12 (mem_30 hc2) fl_X10_52 rfl ?_
      refine V_iload_n (i := 1) dX10_appendWord_15 rfl rfl ?_
      refine V_iload_n (i := 2) dX10_appendWord_16 rfl rfl ?_
      refine V_ishr dX10_appendWord_17 ?_
      refine V_sipush (v := 255) dX10_appendWord_18 (by decide) ?_
      refine V_iand dX10_appendWord_21 ?_
      refine D3_ist (u := 28) h (mem_28 hc2) (pst_28 hc2) dX10_appendWord_22 fun W2 h => ?_
      refine V_aload_n (i := 0) dX10_appendWord_23 rfl rfl ?_
      refine V_dup dX10_appendWord_24 rfl ?_
      refine V_getfield dX10_appendWord_25 (mem_30 hc2) fl_X10_52 rfl ?_
      refine V_iconst (v := 1) dX10_appendWord_28 (by decide) ?_
      refine V_iadd dX10_appendWord_29 ?_
      refine D3_put h dX10_appendWord_30 (mem_30 hc2) (fp_X10_52 rfl) (Nat.le_of_ble_eq_true rfl) (psc_30_3 hc2) fun W3 h => ?_
      refine D_iinc (i := 2) (w := -8) dX10_appendWord_33 rfl (by decide) (Nat.le_of_ble_eq_true rfl) ?_
      refine V_goto (tgt := 3) dX10_appendWord_36 rfl ?_
      exact V_sub (ks := [1, 2, 0]) rfl (ih _ _ h)
noncomputable def f_X10_appendWord (W : Nat → Nat → Int32) (a1 : Int32) : Option (Nat → Nat → Int32) :=
  l_X10_appendWord_3 a1 FU W (24 : Int32)
theorem e_X10_appendWord {G : GT} {f0 : Nat} {b c : Nat} {M : MM} {hi k n : Nat} {W : Nat → Nat → Int32} {a1 : Int32} {r : (Nat → Nat → Int32)} (hf0 : 1 ≤ f0) (hc2 : 619 ≤ c) (h : f_X10_appendWord W a1 = some r) : Ex G f0 mX10_appendWord [.ref (b + 609), .int a1] (MEM b c W M) hi k n (RH (.inl none) (MEM b c r M) hi) := by
  obtain ⟨f, rfl, hf⟩ := suc_of hf0
  unfold f_X10_appendWord at h
  refine ⟨Nat.le_of_ble_eq_true rfl, ?_⟩
  refine V_bipush (v := 24) dX10_appendWord_0 (by decide) ?_
  refine V_istore_n (i := 2) dX10_appendWord_2 rfl (Nat.le_of_ble_eq_true rfl) ?_
  refine V_sub (ks := [1, 2, 0]) rfl (lv_X10_appendWord_3 hf hc2 FU _ _ h)
noncomputable def f_X10_appendInput (W : Nat → Nat → Int32) (a1 : Int32) (a2 : Int32) (a3 : Int32) (a4 : Int32) (a5 : Int32) : Option (Int32 × (Nat → Nat → Int32)) :=
  bnd (w2 W 30 2 (0 : Int32)) (fun W1 => jn (fun (v3 : Int32) => bd2 (f_X10_refuses W1 v3 (1 : Int32)) (fun v6 W5 => if v6 = 0 then bdc (f_X10_appendWord W5 a1) (fun W8 => bdc (f_X10_appendWord W8 a2) (fun W9 => bdc (f_X10_appendWord W9 a3) (fun W10 => bdc (f_X10_appendWord W10 a4) (fun W11 => bdc (f_X10_appendWord W11 a5) (fun W12 => some (W12 30 3, W12)))))) else some ((0 : Int32), W5))) (fun j2 => if ((W1 30 3) + (20 : Int32)) ≤ (600 : Int32) then j2 (0 : Int32) else j2 (1 : Int32)))
theorem e_X10_appendInput {G : GT} {f0 : Nat} {b c : Nat} {M : MM} {hi k n : Nat} {W : Nat → Nat → Int32} {a1 : Int32} {a2 : Int32} {a3 : Int32} {a4 : Int32} {a5 : Int32} {r : (Int32 × (Nat → Nat → Int32))} (hf0 : 2 ≤ f0) (hc2 : 619 ≤ c) (h : f_X10_appendInput W a1 a2 a3 a4 a5 = some r) : Ex G f0 mX10_appendInput [.ref (b + 609), .int a1, .int a2, .int a3, .int a4, .int a5] (MEM b c W M) hi k n (RH (.inl (some (.int r.1))) (MEM b c r.2 M) hi) := by
  obtain ⟨f, rfl, hf⟩ := suc_of hf0
  unfold f_X10_appendInput at h
  refine ⟨Nat.le_of_ble_eq_true rfl, ?_⟩
  refine V_aload_n (i := 0) dX10_appendInput_0 rfl rfl ?_
  refine V_iconst (v := 0) dX10_appendInput_1 (by decide) ?_
  refine D3_put h dX10_appendInput_2 (mem_30 hc2) (fp_X10_69 rfl) (Nat.le_of_ble_eq_true rfl) (psc_30_2 hc2) fun W1 h => ?_
  refine V_aload_n (i := 0) dX10_appendInput_5 rfl rfl ?_
  refine V_aload_n (i := 0) dX10_appendInput_6 rfl rfl ?_
  refine V_getfield dX10_appendInput_7 (mem_30 hc2) fl_X10_52 rfl ?_
  refine V_bipush (v := 20) dX10_appendInput_10 (by decide) ?_
  refine V_iadd dX10_appendInput_12 ?_
  refine V_sipush (v := 600) dX10_appendInput_13 (by decide) ?_
  refine D_jn (fun (j : Int32 → Option (Int32 × (Nat → Nat → Int32))) => ∀ (v3 : Int32), j v3 = some r → V G f (Ex G f) mX10_appendInput (RH (.inl (some (.int r.1))) (MEM b c r.2 M) hi) 24 [(0, .ref (b + 609)), (1, .int a1), (2, .int a2), (3, .int a3), (4, .int a4), (5, .int a5)] [.int v3, .ref (b + 609)] (MEM b c W1 M) hi k n) h (fun j2 hj2 h => ?_) ?_
  · refine D_icmp_le (tgt := 23) h dX10_appendInput_16 rfl (fun b4 h => ?_) (fun b4 h => ?_)
    · refine V_iconst (v := 0) dX10_appendInput_23 (by decide) ?_
      exact V_sub (ks := [0, 1, 2, 3, 4, 5]) rfl (hj2 _ h)
    · refine V_iconst (v := 1) dX10_appendInput_19 (by decide) ?_
      refine V_goto (tgt := 24) dX10_appendInput_20 rfl ?_
      exact V_sub (ks := [0, 1, 2, 3, 4, 5]) rfl (hj2 _ h)
  · intro v3 h
    refine V_iconst (v := 1) dX10_appendInput_24 (by decide) ?_
    refine D_cVIW (As := [_, _]) (μ := fun W5 => (MEM b c W5 M)) h dX10_appendInput_25 cv_X10_165 rfl ⟨_, _, _, (mem_30 hc2), rfl, rfl⟩ rfl (Nat.le_of_ble_eq_true rfl) (fun x y hx => e_X10_refuses (Nat.le_trans (Nat.le_of_ble_eq_true rfl) hf) hc2 hx) fun v6 W5 h => ?_
    refine D_if_eq (tgt := 33) h dX10_appendInput_28 rfl (fun b7 h => ?_) (fun b7 h => ?_)
    · refine V_aload_n (i := 0) dX10_appendInput_33 rfl rfl ?_
      refine V_iload_n (i := 1) dX10_appendInput_34 rfl rfl ?_
      refine D_cVU (As := [_]) (μ := fun W8 => (MEM b c W8 M)) h dX10_appendInput_35 cv_X10_169 rfl ⟨_, _, _, (mem_30 hc2), rfl, rfl⟩ rfl (Nat.le_of_ble_eq_true rfl) (fun y hx => e_X10_appendWord (Nat.le_trans (Nat.le_of_ble_eq_true rfl) hf) hc2 hx) fun W8 h => ?_
      refine V_aload_n (i := 0) dX10_appendInput_38 rfl rfl ?_
      refine V_iload_n (i := 2) dX10_appendInput_39 rfl rfl ?_
      refine D_cVU (As := [_]) (μ := fun W9 => (MEM b c W9 M)) h dX10_appendInput_40 cv_X10_169 rfl ⟨_, _, _, (mem_30 hc2), rfl, rfl⟩ rfl (Nat.le_of_ble_eq_true rfl) (fun y hx => e_X10_appendWord (Nat.le_trans (Nat.le_of_ble_eq_true rfl) hf) hc2 hx) fun W9 h => ?_
      refine V_aload_n (i := 0) dX10_appendInput_43 rfl rfl ?_
      refine V_iload_n (i := 3) dX10_appendInput_44 rfl rfl ?_
      refine D_cVU (As := [_]) (μ := fun W10 => (MEM b c W10 M)) h dX10_appendInput_45 cv_X10_169 rfl ⟨_, _, _, (mem_30 hc2), rfl, rfl⟩ rfl (Nat.le_of_ble_eq_true rfl) (fun y hx => e_X10_appendWord (Nat.le_trans (Nat.le_of_ble_eq_true rfl) hf) hc2 hx) fun W10 h => ?_
      refine V_aload_n (i := 0) dX10_appendInput_48 rfl rfl ?_
      refine V_iload (i := 4) dX10_appendInput_49 rfl ?_
      refine D_cVU (As := [_]) (μ := fun W11 => (MEM b c W11 M)) h dX10_appendInput_51 cv_X10_169 rfl ⟨_, _, _, (mem_30 hc2), rfl, rfl⟩ rfl (Nat.le_of_ble_eq_true rfl) (fun y hx => e_X10_appendWord (Nat.le_trans (Nat.le_of_ble_eq_true rfl) hf) hc2 hx) fun W11 h => ?_
      refine V_aload_n (i := 0) dX10_appendInput_54 rfl rfl ?_
      refine V_iload (i := 5) dX10_appendInput_55 rfl ?_
      refine D_cVU (As := [_]) (μ := fun W12 => (MEM b c W12 M)) h dX10_appendInput_57 cv_X10_169 rfl ⟨_, _, _, (mem_30 hc2), rfl, rfl⟩ rfl (Nat.le_of_ble_eq_true rfl) (fun y hx => e_X10_appendWord (Nat.le_trans (Nat.le_of_ble_eq_true rfl) hf) hc2 hx) fun W12 h => ?_
      refine V_aload_n (i := 0) dX10_appendInput_60 rfl rfl ?_
      refine V_getfield dX10_appendInput_61 (mem_30 hc2) fl_X10_52 rfl ?_
      obtain rfl := Option.some.inj h
      exact V_ireturn dX10_appendInput_64 ⟨_, rfl, rfl⟩ ⟨rfl, rfl, rfl⟩
    · refine V_iconst (v := 0) dX10_appendInput_31 (by decide) ?_
      obtain rfl := Option.some.inj h
      exact V_ireturn dX10_appendInput_32 ⟨_, rfl, rfl⟩ ⟨rfl, rfl, rfl⟩
noncomputable def f_X10_noTrain (W : Nat → Nat → Int32) (a1 : Int32) : Option (Int32 × (Nat → Nat → Int32)) :=
  gd (inr (3 : Int32) 251) (bd2 (f_X10_noNumber W a1 (0 : Int32) ((W 21 (ix (3 : Int32))) - (1 : Int32))) (fun v2 W1 => gd (z01 v2) (some (v2, W1))))
theorem e_X10_noTrain {G : GT} {f0 : Nat} {b c : Nat} {M : MM} {hi k n : Nat} {W : Nat → Nat → Int32} {a1 : Int32} {r : (Int32 × (Nat → Nat → Int32))} (hf0 : 3 ≤ f0) (hc2 : 619 ≤ c) (h : f_X10_noTrain W a1 = some r) : Ex G f0 mX10_noTrain [.ref (b + 609), .int a1] (MEM b c W M) hi k n (RH (.inl (some (.int r.1))) (MEM b c r.2 M) hi) := by
  obtain ⟨f, rfl, hf⟩ := suc_of hf0
  unfold f_X10_noTrain at h
  refine ⟨Nat.le_of_ble_eq_true rfl, ?_⟩
  refine V_aload_n (i := 0) dX10_noTrain_0 rfl rfl ?_
  refine V_iload_n (i := 1) dX10_noTrain_1 rfl rfl ?_
  refine V_iconst (v := 0) dX10_noTrain_2 (by decide) ?_
  refine V_aload_n (i := 0) dX10_noTrain_3 rfl rfl ?_
  refine V_getfield dX10_noTrain_4 (mem_30 hc2) fl_X10_7 rfl ?_
  refine V_iconst (v := 3) dX10_noTrain_7 (by decide) ?_
  refine D3_ild h (mem_21 hc2) dX10_noTrain_8 fun h => ?_
  refine V_iconst (v := 1) dX10_noTrain_9 (by decide) ?_
  refine V_isub dX10_noTrain_10 ?_
  refine D_cVIW (As := [_, _, _]) (μ := fun W1 => (MEM b c W1 M)) h dX10_noTrain_11 cv_X10_173 rfl ⟨_, _, _, (mem_30 hc2), rfl, rfl⟩ rfl (Nat.le_of_ble_eq_true rfl) (fun x y hx => e_X10_noNumber (Nat.le_trans (Nat.le_of_ble_eq_true rfl) hf) hc2 hx) fun v2 W1 h => ?_
  refine D_gd h fun g h => ?_
  obtain rfl := Option.some.inj h
  exact V_ireturn dX10_noTrain_14 ⟨_, rfl, z01_nar g⟩ ⟨rfl, rfl, rfl⟩
noncomputable def f_X10_capacity (W : Nat → Nat → Int32) (a1 : Int32) : Option (Int32 × (Nat → Nat → Int32)) :=
  bd2 (f_X10_noTrain W a1) (fun v2 W1 => if v2 = 0 then bdc (f_X10_ofTrain a1) (fun v4 => gd (inr (v4 + (0 : Int32)) 251) (some (W1 21 (ix (v4 + (0 : Int32))), W1))) else some ((0 : Int32), W1))
theorem e_X10_capacity {G : GT} {f0 : Nat} {b c : Nat} {M : MM} {hi k n : Nat} {W : Nat → Nat → Int32} {a1 : Int32} {r : (Int32 × (Nat → Nat → Int32))} (hf0 : 4 ≤ f0) (hc2 : 619 ≤ c) (h : f_X10_capacity W a1 = some r) : Ex G f0 mX10_capacity [.ref (b + 609), .int a1] (MEM b c W M) hi k n (RH (.inl (some (.int r.1))) (MEM b c r.2 M) hi) := by
  obtain ⟨f, rfl, hf⟩ := suc_of hf0
  unfold f_X10_capacity at h
  refine ⟨Nat.le_of_ble_eq_true rfl, ?_⟩
  refine V_aload_n (i := 0) dX10_capacity_0 rfl rfl ?_
  refine V_iload_n (i := 1) dX10_capacity_1 rfl rfl ?_
  refine D_cVIW (As := [_]) (μ := fun W1 => (MEM b c W1 M)) h dX10_capacity_2 cv_X10_300 rfl ⟨_, _, _, (mem_30 hc2), rfl, rfl⟩ rfl (Nat.le_of_ble_eq_true rfl) (fun x y hx => e_X10_noTrain (Nat.le_trans (Nat.le_of_ble_eq_true rfl) hf) hc2 hx) fun v2 W1 h => ?_
  refine D_if_eq (tgt := 12) h dX10_capacity_5 rfl (fun b3 h => ?_) (fun b3 h => ?_)
  · refine V_aload_n (i := 0) dX10_capacity_12 rfl rfl ?_
    refine V_getfield dX10_capacity_13 (mem_30 hc2) fl_X10_7 rfl ?_
    refine V_iload_n (i := 1) dX10_capacity_16 rfl rfl ?_
    refine D_cSI (As := [_]) h dX10_capacity_17 cs_X10_81 rfl rfl (Nat.le_of_ble_eq_true rfl) (fun x hx => e_X10_ofTrain (Nat.le_trans (Nat.le_of_ble_eq_true rfl) hf) hx) fun v4 h => ?_
    refine V_iconst (v := 0) dX10_capacity_20 (by decide) ?_
    refine V_iadd dX10_capacity_21 ?_
    refine D3_ild h (mem_21 hc2) dX10_capacity_22 fun h => ?_
    obtain rfl := Option.some.inj h
    exact V_ireturn dX10_capacity_23 ⟨_, rfl, rfl⟩ ⟨rfl, rfl, rfl⟩
  · refine V_iconst (v := 0) dX10_capacity_8 (by decide) ?_
    refine V_goto (tgt := 23) dX10_capacity_9 rfl ?_
    obtain rfl := Option.some.inj h
    exact V_ireturn dX10_capacity_23 ⟨_, rfl, rfl⟩ ⟨rfl, rfl, rfl⟩
noncomputable def f_X10_carriedCount (W : Nat → Nat → Int32) (a1 : Int32) : Option (Int32 × (Nat → Nat → Int32)) :=
  bd2 (f_X10_noTrain W a1) (fun v2 W1 => if v2 = 0 then bdc (f_X10_carried (pk (W1 21) (W1 27)) a1) (fun v4 => some (v4, W1)) else some ((0 : Int32), W1))
theorem e_X10_carriedCount {G : GT} {f0 : Nat} {b c : Nat} {M : MM} {hi k n : Nat} {W : Nat → Nat → Int32} {a1 : Int32} {r : (Int32 × (Nat → Nat → Int32))} (hf0 : 4 ≤ f0) (hc2 : 619 ≤ c) (h : f_X10_carriedCount W a1 = some r) : Ex G f0 mX10_carriedCount [.ref (b + 609), .int a1] (MEM b c W M) hi k n (RH (.inl (some (.int r.1))) (MEM b c r.2 M) hi) := by
  obtain ⟨f, rfl, hf⟩ := suc_of hf0
  unfold f_X10_carriedCount at h
  refine ⟨Nat.le_of_ble_eq_true rfl, ?_⟩
  refine V_aload_n (i := 0) dX10_carriedCount_0 rfl rfl ?_
  refine V_iload_n (i := 1) dX10_carriedCount_1 rfl rfl ?_
  refine D_cVIW (As := [_]) (μ := fun W1 => (MEM b c W1 M)) h dX10_carriedCount_2 cv_X10_300 rfl ⟨_, _, _, (mem_30 hc2), rfl, rfl⟩ rfl (Nat.le_of_ble_eq_true rfl) (fun x y hx => e_X10_noTrain (Nat.le_trans (Nat.le_of_ble_eq_true rfl) hf) hc2 hx) fun v2 W1 h => ?_
  refine D_if_eq (tgt := 12) h dX10_carriedCount_5 rfl (fun b3 h => ?_) (fun b3 h => ?_)
  · refine V_aload_n (i := 0) dX10_carriedCount_12 rfl rfl ?_
    refine V_getfield dX10_carriedCount_13 (mem_30 hc2) fl_X10_7 rfl ?_
    refine V_iload_n (i := 1) dX10_carriedCount_16 rfl rfl ?_
    refine D_cSI (As := [_, _]) h dX10_carriedCount_17 cs_X10_116 rfl rfl (Nat.le_of_ble_eq_true rfl) (fun x hx => liftq0 (u := 21) hc2 ⟨by decide, by decide⟩ rfl (e_X10_carried (Nat.le_trans (Nat.le_of_ble_eq_true rfl) hf) hx)) fun v4 h => ?_
    obtain rfl := Option.some.inj h
    exact V_ireturn dX10_carriedCount_20 ⟨_, rfl, rfl⟩ ⟨rfl, rfl, rfl⟩
  · refine V_iconst (v := 0) dX10_carriedCount_8 (by decide) ?_
    refine V_goto (tgt := 20) dX10_carriedCount_9 rfl ?_
    obtain rfl := Option.some.inj h
    exact V_ireturn dX10_carriedCount_20 ⟨_, rfl, rfl⟩ ⟨rfl, rfl, rfl⟩
noncomputable def l_X10_carriedParcel_34 (W : Nat → Nat → Int32) (c1 : Int32) : Nat → Int32 → Int32 → Option (Int32 × (Nat → Nat → Int32))
  | 0, _, _ => none
  | N + 1, x3, x4 => bdc (f_X10_ofParcel x4) (fun v8 => gd (inr (v8 + (4 : Int32)) 251) (jn (bdc (f_X10_ofParcel x4) (fun v12 => gd (inr (v12 + (4 : Int32)) 251) (if (W 21 (ix (v12 + (4 : Int32)))) = c1 then bnd (x3 - (1 : Int32)) (fun v15 => l_X10_carriedParcel_34 W c1 N v15 (x4 + (1 : Int32))) else bnd (x3 - (0 : Int32)) (fun v14 => l_X10_carriedParcel_34 W c1 N v14 (x4 + (1 : Int32)))))) (fun j9 => if (W 21 (ix (v8 + (4 : Int32)))) = c1 then if x3 ≤ 0 then some (x4, W) else j9 else j9)))
theorem lv_X10_carriedParcel_34 {G : GT} {f : Nat} {b c : Nat} {M : MM} {hi k n : Nat} {W : Nat → Nat → Int32} {c1 : Int32} {r : (Int32 × (Nat → Nat → Int32))} (hf : 3 ≤ f) (hc2 : 619 ≤ c) : ∀ (N : Nat) (x3 : Int32) (x4 : Int32) , l_X10_carriedParcel_34 W c1 N x3 x4 = some r → V G f (Ex G f) mX10_carriedParcel (RH (.inl (some (.int r.1))) (MEM b c r.2 M) hi) 34 [(0, .ref (b + 609)), (1, .int c1), (3, .int x3), (4, .int x4)] [] (MEM b c W M) hi k n := by
  intro N
  induction N with
  | zero => intro x3 x4 h; cases h
  | succ N ih =>
    intro x3 x4 h
    rw [l_X10_carriedParcel_34] at h
    refine V_aload_n (i := 0) dX10_carriedParcel_34 rfl rfl ?_
    refine V_getfield dX10_carriedParcel_35 (mem_30 hc2) fl_X10_7 rfl ?_
    refine V_iload (i := 4) dX10_carriedParcel_38 rfl ?_
    refine D_cSI (As := [_]) h dX10_carriedParcel_40 cs_X10_88 rfl rfl (Nat.le_of_ble_eq_true rfl) (fun x hx => e_X10_ofParcel (Nat.le_trans (Nat.le_of_ble_eq_true rfl) hf) hx) fun v8 h => ?_
    refine V_iconst (v := 4) dX10_carriedParcel_43 (by decide) ?_
    refine V_iadd dX10_carriedParcel_44 ?_
    refine D3_ild h (mem_21 hc2) dX10_carriedParcel_45 fun h => ?_
    refine V_iload_n (i := 1) dX10_carriedParcel_46 rfl rfl ?_
    refine D_jn (fun (j : Option (Int32 × (Nat → Nat → Int32))) =>  j = some r → V G f (Ex G f) mX10_carriedParcel (RH (.inl (some (.int r.1))) (MEM b c r.2 M) hi) 54 [(0, .ref (b + 609)), (1, .int c1), (3, .int x3), (4, .int x4)] [] (MEM b c W M) hi k n) h (fun j9 hj9 h => ?_) ?_
    · refine D_icmp_ne (tgt := 54) h dX10_carriedParcel_47 rfl (fun b10 h => ?_) (fun b10 h => ?_)
      · exact V_sub (ks := [0, 1, 2, 3]) rfl (hj9 h)
      · refine V_iload_n (i := 3) dX10_carriedParcel_50 rfl rfl ?_
        refine D_if_le (tgt := 84) h dX10_carriedParcel_51 rfl (fun b11 h => ?_) (fun b11 h => ?_)
        · refine V_iload (i := 4) dX10_carriedParcel_84 rfl ?_
          obtain rfl := Option.some.inj h
          exact V_ireturn dX10_carriedParcel_86 ⟨_, rfl, rfl⟩ ⟨rfl, rfl, rfl⟩
        · exact V_sub (ks := [0, 1, 2, 3]) rfl (hj9 h)
    · intro  h
      refine V_iload_n (i := 3) dX10_carriedParcel_54 rfl rfl ?_
      refine V_aload_n (i := 0) dX10_carriedParcel_55 rfl rfl ?_
      refine V_getfield dX10_carriedParcel_56 (mem_30 hc2) fl_X10_7 rfl ?_
      refine V_iload (i := 4) dX10_carriedParcel_59 rfl ?_
      refine D_cSI (As := [_]) h dX10_carriedParcel_61 cs_X10_88 rfl rfl (Nat.le_of_ble_eq_true rfl) (fun x hx => e_X10_ofParcel (Nat.le_trans (Nat.le_of_ble_eq_true rfl) hf) hx) fun v12 h => ?_
      refine V_iconst (v := 4) dX10_carriedParcel_64 (by decide) ?_
      refine V_iadd dX10_carriedParcel_65 ?_
      refine D3_ild h (mem_21 hc2) dX10_carriedParcel_66 fun h => ?_
      refine V_iload_n (i := 1) dX10_carriedParcel_67 rfl rfl ?_
      refine D_icmp_ne (tgt := 75) h dX10_carriedParcel_68 rfl (fun b13 h => ?_) (fun b13 h => ?_)
      · refine V_iconst (v := 0) dX10_carriedParcel_75 (by decide) ?_
        refine V_isub dX10_carriedParcel_76 ?_
        refine D_istore_n (i := 3) h dX10_carriedParcel_77 rfl (Nat.le_of_ble_eq_true rfl) fun v14 h => ?_
        refine D_iinc (i := 4) (w := 1) dX10_carriedParcel_78 rfl (by decide) (Nat.le_of_ble_eq_true rfl) ?_
        refine V_goto (tgt := 34) dX10_carriedParcel_81 rfl ?_
        exact V_sub (ks := [2, 3, 1, 0]) rfl (ih _ _ h)
      · refine V_iconst (v := 1) dX10_carriedParcel_71 (by decide) ?_
        refine V_goto (tgt := 76) dX10_carriedParcel_72 rfl ?_
        refine V_isub dX10_carriedParcel_76 ?_
        refine D_istore_n (i := 3) h dX10_carriedParcel_77 rfl (Nat.le_of_ble_eq_true rfl) fun v15 h => ?_
        refine D_iinc (i := 4) (w := 1) dX10_carriedParcel_78 rfl (by decide) (Nat.le_of_ble_eq_true rfl) ?_
        refine V_goto (tgt := 34) dX10_carriedParcel_81 rfl ?_
        exact V_sub (ks := [2, 3, 1, 0]) rfl (ih _ _ h)
noncomputable def f_X10_carriedParcel (W : Nat → Nat → Int32) (a1 : Int32) (a2 : Int32) : Option (Int32 × (Nat → Nat → Int32)) :=
  bd2 (f_X10_noTrain W a1) (fun v2 W1 => if v2 = 0 then bdc (f_X10_carried (pk (W1 21) (W1 27)) a1) (fun v4 => bd2 (f_X10_out W1 a2 (0 : Int32) (v4 - (1 : Int32))) (fun v6 W5 => if v6 = 0 then l_X10_carriedParcel_34 W5 a1 FU a2 (0 : Int32) else some ((0 : Int32), W5))) else some ((0 : Int32), W1))
theorem e_X10_carriedParcel {G : GT} {f0 : Nat} {b c : Nat} {M : MM} {hi k n : Nat} {W : Nat → Nat → Int32} {a1 : Int32} {a2 : Int32} {r : (Int32 × (Nat → Nat → Int32))} (hf0 : 4 ≤ f0) (hc2 : 619 ≤ c) (h : f_X10_carriedParcel W a1 a2 = some r) : Ex G f0 mX10_carriedParcel [.ref (b + 609), .int a1, .int a2] (MEM b c W M) hi k n (RH (.inl (some (.int r.1))) (MEM b c r.2 M) hi) := by
  obtain ⟨f, rfl, hf⟩ := suc_of hf0
  unfold f_X10_carriedParcel at h
  refine ⟨Nat.le_of_ble_eq_true rfl, ?_⟩
  refine V_aload_n (i := 0) dX10_carriedParcel_0 rfl rfl ?_
  refine V_iload_n (i := 1) dX10_carriedParcel_1 rfl rfl ?_
  refine D_cVIW (As := [_]) (μ := fun W1 => (MEM b c W1 M)) h dX10_carriedParcel_2 cv_X10_300 rfl ⟨_, _, _, (mem_30 hc2), rfl, rfl⟩ rfl (Nat.le_of_ble_eq_true rfl) (fun x y hx => e_X10_noTrain (Nat.le_trans (Nat.le_of_ble_eq_true rfl) hf) hc2 hx) fun v2 W1 h => ?_
  refine D_if_ne (tgt := 27) h dX10_carriedParcel_5 rfl (fun b3 h => ?_) (fun b3 h => ?_)
  · refine V_iconst (v := 0) dX10_carriedParcel_27 (by decide) ?_
    obtain rfl := Option.some.inj h
    exact V_ireturn dX10_carriedParcel_28 ⟨_, rfl, rfl⟩ ⟨rfl, rfl, rfl⟩
  · refine V_aload_n (i := 0) dX10_carriedParcel_8 rfl rfl ?_
    refine V_iload_n (i := 2) dX10_carriedParcel_9 rfl rfl ?_
    refine V_iconst (v := 0) dX10_carriedParcel_10 (by decide) ?_
    refine V_aload_n (i := 0) dX10_carriedParcel_11 rfl rfl ?_
    refine V_getfield dX10_carriedParcel_12 (mem_30 hc2) fl_X10_7 rfl ?_
    refine V_iload_n (i := 1) dX10_carriedParcel_15 rfl rfl ?_
    refine D_cSI (As := [_, _]) h dX10_carriedParcel_16 cs_X10_116 rfl rfl (Nat.le_of_ble_eq_true rfl) (fun x hx => liftq0 (u := 21) hc2 ⟨by decide, by decide⟩ rfl (e_X10_carried (Nat.le_trans (Nat.le_of_ble_eq_true rfl) hf) hx)) fun v4 h => ?_
    refine V_iconst (v := 1) dX10_carriedParcel_19 (by decide) ?_
    refine V_isub dX10_carriedParcel_20 ?_
    refine D_cVIW (As := [_, _, _]) (μ := fun W5 => (MEM b c W5 M)) h dX10_carriedParcel_21 cv_X10_293 rfl ⟨_, _, _, (mem_30 hc2), rfl, rfl⟩ rfl (Nat.le_of_ble_eq_true rfl) (fun x y hx => e_X10_out (Nat.le_trans (Nat.le_of_ble_eq_true rfl) hf) hc2 hx) fun v6 W5 h => ?_
    refine D_if_eq (tgt := 29) h dX10_carriedParcel_24 rfl (fun b7 h => ?_) (fun b7 h => ?_)
    · refine V_iload_n (i := 2) dX10_carriedParcel_29 rfl rfl ?_
      refine V_istore_n (i := 3) dX10_carriedParcel_30 rfl (Nat.le_of_ble_eq_true rfl) ?_
      refine V_iconst (v := 0) dX10_carriedParcel_31 (by decide) ?_
      refine V_istore (i := 4) dX10_carriedParcel_32 (Nat.le_of_ble_eq_true rfl) ?_
      refine V_sub (ks := [2, 3, 1, 0]) rfl (lv_X10_carriedParcel_34 hf hc2 FU _ _ h)
    · refine V_iconst (v := 0) dX10_carriedParcel_27 (by decide) ?_
      obtain rfl := Option.some.inj h
      exact V_ireturn dX10_carriedParcel_28 ⟨_, rfl, rfl⟩ ⟨rfl, rfl, rfl⟩
noncomputable def f_X10_check (W : Nat → Nat → Int32) (a1 : Int32) (a2 : Int32) : Option (Int32 × (Nat → Nat → Int32)) :=
  if (W 30 9) = 0 then if a1 = 0 then bnd (w2 W 30 9 a2) (fun W5 => bnd (w2 W5 30 10 (W5 30 5)) (fun W6 => if (W6 30 9) = 0 then some ((1 : Int32), W6) else some ((0 : Int32), W6))) else if (W 30 9) = 0 then some ((1 : Int32), W) else some ((0 : Int32), W) else if (W 30 9) = 0 then some ((1 : Int32), W) else some ((0 : Int32), W)
theorem e_X10_check {G : GT} {f0 : Nat} {b c : Nat} {M : MM} {hi k n : Nat} {W : Nat → Nat → Int32} {a1 : Int32} {a2 : Int32} {r : (Int32 × (Nat → Nat → Int32))} (hf0 : 1 ≤ f0) (hc2 : 619 ≤ c) (h : f_X10_check W a1 a2 = some r) : Ex G f0 mX10_check [.ref (b + 609), .int a1, .int a2] (MEM b c W M) hi k n (RH (.inl (some (.int r.1))) (MEM b c r.2 M) hi) := by
  obtain ⟨f, rfl, hf⟩ := suc_of hf0
  unfold f_X10_check at h
  refine ⟨Nat.le_of_ble_eq_true rfl, ?_⟩
  refine V_aload_n (i := 0) dX10_check_0 rfl rfl ?_
  refine V_getfield dX10_check_1 (mem_30 hc2) fl_X10_176 rfl ?_
  refine D_if_ne (tgt := 24) h dX10_check_4 rfl (fun b1 h => ?_) (fun b1 h => ?_)
  · refine V_aload_n (i := 0) dX10_check_24 rfl rfl ?_
    refine V_getfield dX10_check_25 (mem_30 hc2) fl_X10_176 rfl ?_
    refine D_if_ne (tgt := 35) h dX10_check_28 rfl (fun b2 h => ?_) (fun b2 h => ?_)
    · refine V_iconst (v := 0) dX10_check_35 (by decide) ?_
      obtain rfl := Option.some.inj h
      exact V_ireturn dX10_check_36 ⟨_, rfl, rfl⟩ ⟨rfl, rfl, rfl⟩
    · refine V_iconst (v := 1) dX10_check_31 (by decide) ?_
      refine V_goto (tgt := 36) dX10_check_32 rfl ?_
      obtain rfl := Option.some.inj h
      exact V_ireturn dX10_check_36 ⟨_, rfl, rfl⟩ ⟨rfl, rfl, rfl⟩
  · refine V_iload_n (i := 1) dX10_check_7 rfl rfl ?_
    refine D_if_ne (tgt := 24) h dX10_check_8 rfl (fun b3 h => ?_) (fun b3 h => ?_)
    · refine V_aload_n (i := 0) dX10_check_24 rfl rfl ?_
      refine V_getfield dX10_check_25 (mem_30 hc2) fl_X10_176 rfl ?_
      refine D_if_ne (tgt := 35) h dX10_check_28 rfl (fun b4 h => ?_) (fun b4 h => ?_)
      · refine V_iconst (v := 0) dX10_check_35 (by decide) ?_
        obtain rfl := Option.some.inj h
        exact V_ireturn dX10_check_36 ⟨_, rfl, rfl⟩ ⟨rfl, rfl, rfl⟩
      · refine V_iconst (v := 1) dX10_check_31 (by decide) ?_
        refine V_goto (tgt := 36) dX10_check_32 rfl ?_
        obtain rfl := Option.some.inj h
        exact V_ireturn dX10_check_36 ⟨_, rfl, rfl⟩ ⟨rfl, rfl, rfl⟩
    · refine V_aload_n (i := 0) dX10_check_11 rfl rfl ?_
      refine V_iload_n (i := 2) dX10_check_12 rfl rfl ?_
      refine D3_put h dX10_check_13 (mem_30 hc2) (fp_X10_176 rfl) (Nat.le_of_ble_eq_true rfl) (psc_30_9 hc2) fun W5 h => ?_
      refine V_aload_n (i := 0) dX10_check_16 rfl rfl ?_
      refine V_aload_n (i := 0) dX10_check_17 rfl rfl ?_
      refine V_getfield dX10_check_18 (mem_30 hc2) fl_X10_185 rfl ?_
      refine D3_put h dX10_check_21 (mem_30 hc2) (fp_X10_35 rfl) (Nat.le_of_ble_eq_true rfl) (psc_30_10 hc2) fun W6 h => ?_
      refine V_aload_n (i := 0) dX10_check_24 rfl rfl ?_
      refine V_getfield dX10_check_25 (mem_30 hc2) fl_X10_176 rfl ?_
      refine D_if_ne (tgt := 35) h dX10_check_28 rfl (fun b7 h => ?_) (fun b7 h => ?_)
      · refine V_iconst (v := 0) dX10_check_35 (by decide) ?_
        obtain rfl := Option.some.inj h
        exact V_ireturn dX10_check_36 ⟨_, rfl, rfl⟩ ⟨rfl, rfl, rfl⟩
      · refine V_iconst (v := 1) dX10_check_31 (by decide) ?_
        refine V_goto (tgt := 36) dX10_check_32 rfl ?_
        obtain rfl := Option.some.inj h
        exact V_ireturn dX10_check_36 ⟨_, rfl, rfl⟩ ⟨rfl, rfl, rfl⟩
noncomputable def f_X10_clock (W : Nat → Nat → Int32) : Option (Int32 × (Nat → Nat → Int32)) :=
  bnd (w2 W 30 2 (0 : Int32)) (fun W1 => gd (inr (0 : Int32) 251) (some (W1 21 (ix (0 : Int32)), W1)))
theorem e_X10_clock {G : GT} {f0 : Nat} {b c : Nat} {M : MM} {hi k n : Nat} {W : Nat → Nat → Int32} {r : (Int32 × (Nat → Nat → Int32))} (hf0 : 1 ≤ f0) (hc2 : 619 ≤ c) (h : f_X10_clock W = some r) : Ex G f0 mX10_clock [.ref (b + 609)] (MEM b c W M) hi k n (RH (.inl (some (.int r.1))) (MEM b c r.2 M) hi) := by
  obtain ⟨f, rfl, hf⟩ := suc_of hf0
  unfold f_X10_clock at h
  refine ⟨Nat.le_of_ble_eq_true rfl, ?_⟩
  refine V_aload_n (i := 0) dX10_clock_0 rfl rfl ?_
  refine V_iconst (v := 0) dX10_clock_1 (by decide) ?_
  refine D3_put h dX10_clock_2 (mem_30 hc2) (fp_X10_69 rfl) (Nat.le_of_ble_eq_true rfl) (psc_30_2 hc2) fun W1 h => ?_
  refine V_aload_n (i := 0) dX10_clock_5 rfl rfl ?_
  refine V_getfield dX10_clock_6 (mem_30 hc2) fl_X10_7 rfl ?_
  refine V_iconst (v := 0) dX10_clock_9 (by decide) ?_
  refine D3_ild h (mem_21 hc2) dX10_clock_10 fun h => ?_
  obtain rfl := Option.some.inj h
  exact V_ireturn dX10_clock_11 ⟨_, rfl, rfl⟩ ⟨rfl, rfl, rfl⟩
noncomputable def f_X10_delay (W : Nat → Nat → Int32) (a1 : Int32) : Option (Int32 × (Nat → Nat → Int32)) :=
  bd2 (f_X10_noTrain W a1) (fun v2 W1 => if v2 = 0 then bdc (f_X10_ofTrain a1) (fun v4 => gd (inr (v4 + (11 : Int32)) 251) (some (W1 21 (ix (v4 + (11 : Int32))), W1))) else some ((0 : Int32), W1))
theorem e_X10_delay {G : GT} {f0 : Nat} {b c : Nat} {M : MM} {hi k n : Nat} {W : Nat → Nat → Int32} {a1 : Int32} {r : (Int32 × (Nat → Nat → Int32))} (hf0 : 4 ≤ f0) (hc2 : 619 ≤ c) (h : f_X10_delay W a1 = some r) : Ex G f0 mX10_delay [.ref (b + 609), .int a1] (MEM b c W M) hi k n (RH (.inl (some (.int r.1))) (MEM b c r.2 M) hi) := by
  obtain ⟨f, rfl, hf⟩ := suc_of hf0
  unfold f_X10_delay at h
  refine ⟨Nat.le_of_ble_eq_true rfl, ?_⟩
  refine V_aload_n (i := 0) dX10_delay_0 rfl rfl ?_
  refine V_iload_n (i := 1) dX10_delay_1 rfl rfl ?_
  refine D_cVIW (As := [_]) (μ := fun W1 => (MEM b c W1 M)) h dX10_delay_2 cv_X10_300 rfl ⟨_, _, _, (mem_30 hc2), rfl, rfl⟩ rfl (Nat.le_of_ble_eq_true rfl) (fun x y hx => e_X10_noTrain (Nat.le_trans (Nat.le_of_ble_eq_true rfl) hf) hc2 hx) fun v2 W1 h => ?_
  refine D_if_eq (tgt := 12) h dX10_delay_5 rfl (fun b3 h => ?_) (fun b3 h => ?_)
  · refine V_aload_n (i := 0) dX10_delay_12 rfl rfl ?_
    refine V_getfield dX10_delay_13 (mem_30 hc2) fl_X10_7 rfl ?_
    refine V_iload_n (i := 1) dX10_delay_16 rfl rfl ?_
    refine D_cSI (As := [_]) h dX10_delay_17 cs_X10_81 rfl rfl (Nat.le_of_ble_eq_true rfl) (fun x hx => e_X10_ofTrain (Nat.le_trans (Nat.le_of_ble_eq_true rfl) hf) hx) fun v4 h => ?_
    refine V_bipush (v := 11) dX10_delay_20 (by decide) ?_
    refine V_iadd dX10_delay_22 ?_
    refine D3_ild h (mem_21 hc2) dX10_delay_23 fun h => ?_
    obtain rfl := Option.some.inj h
    exact V_ireturn dX10_delay_24 ⟨_, rfl, rfl⟩ ⟨rfl, rfl, rfl⟩
  · refine V_iconst (v := 0) dX10_delay_8 (by decide) ?_
    refine V_goto (tgt := 24) dX10_delay_9 rfl ?_
    obtain rfl := Option.some.inj h
    exact V_ireturn dX10_delay_24 ⟨_, rfl, rfl⟩ ⟨rfl, rfl, rfl⟩
noncomputable def f_X10_tries (W : Nat → Nat → Int32) : Option (Nat → Nat → Int32) :=
  bdc (f_X10_copyRow W 21 (0 : Int32) 23 (0 : Int32)) (fun W1 => some W1)
theorem e_X10_tries {G : GT} {f0 : Nat} {b c : Nat} {M : MM} {hi k n : Nat} {W : Nat → Nat → Int32} {r : (Nat → Nat → Int32)} (hf0 : 2 ≤ f0) (hc2 : 619 ≤ c) (h : f_X10_tries W = some r) : Ex G f0 mX10_tries [.ref (b + 609)] (MEM b c W M) hi k n (RH (.inl none) (MEM b c r M) hi) := by
  obtain ⟨f, rfl, hf⟩ := suc_of hf0
  unfold f_X10_tries at h
  refine ⟨Nat.le_of_ble_eq_true rfl, ?_⟩
  refine V_aload_n (i := 0) dX10_tries_0 rfl rfl ?_
  refine V_getfield dX10_tries_1 (mem_30 hc2) fl_X10_7 rfl ?_
  refine V_iconst (v := 0) dX10_tries_4 (by decide) ?_
  refine V_aload_n (i := 0) dX10_tries_5 rfl rfl ?_
  refine V_getfield dX10_tries_6 (mem_30 hc2) fl_X10_16 rfl ?_
  refine V_iconst (v := 0) dX10_tries_9 (by decide) ?_
  refine D_cSU (As := [_, _, _, _]) (μ := fun W1 => (MEM b c W1 M)) h dX10_tries_10 cs_X10_55 rfl rfl (Nat.le_of_ble_eq_true rfl) (fun y hx => e_X10_copyRow (u0 := 21) (u2 := 23) (Nat.le_trans (Nat.le_of_ble_eq_true rfl) hf) hc2 ⟨by decide, by decide⟩ ⟨by decide, by decide⟩ hx) fun W1 h => ?_
  obtain rfl := Option.some.inj h
  exact V_return dX10_tries_13 rfl ⟨rfl, rfl, rfl⟩
noncomputable def f_X10_deliveredAfter (W : Nat → Nat → Int32) (a1 : Int32) : Option (Int32 × (Nat → Nat → Int32)) :=
  bd2 (f_X10_noNumber W a1 (0 : Int32) (120 : Int32)) (fun v2 W1 => if v2 = 0 then bdc (f_X10_tries W1) (fun W4 => bdc (f_X10_minutes (pk (W4 23) (W4 27)) a1) (fun S6 => bnd (setQ W4 23 S6) (fun W5 => bdc (f_X10_deliveredIn (pk (W5 23) (W5 27))) (fun v7 => some (v7, W5))))) else some ((0 : Int32), W1))
theorem e_X10_deliveredAfter {G : GT} {f0 : Nat} {b c : Nat} {M : MM} {hi k n : Nat} {W : Nat → Nat → Int32} {a1 : Int32} {r : (Int32 × (Nat → Nat → Int32))} (hf0 : 11 ≤ f0) (hc2 : 619 ≤ c) (h : f_X10_deliveredAfter W a1 = some r) : Ex G f0 mX10_deliveredAfter [.ref (b + 609), .int a1] (MEM b c W M) hi k n (RH (.inl (some (.int r.1))) (MEM b c r.2 M) hi) := by
  obtain ⟨f, rfl, hf⟩ := suc_of hf0
  unfold f_X10_deliveredAfter at h
  refine ⟨Nat.le_of_ble_eq_true rfl, ?_⟩
  refine V_aload_n (i := 0) dX10_deliveredAfter_0 rfl rfl ?_
  refine V_iload_n (i := 1) dX10_deliveredAfter_1 rfl rfl ?_
  refine V_iconst (v := 0) dX10_deliveredAfter_2 (by decide) ?_
  refine V_bipush (v := 120) dX10_deliveredAfter_3 (by decide) ?_
  refine D_cVIW (As := [_, _, _]) (μ := fun W1 => (MEM b c W1 M)) h dX10_deliveredAfter_5 cv_X10_173 rfl ⟨_, _, _, (mem_30 hc2), rfl, rfl⟩ rfl (Nat.le_of_ble_eq_true rfl) (fun x y hx => e_X10_noNumber (Nat.le_trans (Nat.le_of_ble_eq_true rfl) hf) hc2 hx) fun v2 W1 h => ?_
  refine D_if_eq (tgt := 13) h dX10_deliveredAfter_8 rfl (fun b3 h => ?_) (fun b3 h => ?_)
  · refine V_aload_n (i := 0) dX10_deliveredAfter_13 rfl rfl ?_
    refine D_cVU (As := []) (μ := fun W4 => (MEM b c W4 M)) h dX10_deliveredAfter_14 cv_X10_313 rfl ⟨_, _, _, (mem_30 hc2), rfl, rfl⟩ rfl (Nat.le_of_ble_eq_true rfl) (fun y hx => e_X10_tries (Nat.le_trans (Nat.le_of_ble_eq_true rfl) hf) hc2 hx) fun W4 h => ?_
    refine V_aload_n (i := 0) dX10_deliveredAfter_17 rfl rfl ?_
    refine V_aload_n (i := 0) dX10_deliveredAfter_18 rfl rfl ?_
    refine V_getfield dX10_deliveredAfter_19 (mem_30 hc2) fl_X10_16 rfl ?_
    refine V_iload_n (i := 1) dX10_deliveredAfter_22 rfl rfl ?_
    refine D_cVU (As := [_, _]) (μ := fun S6 => (MEM b c (setQ W4 23 S6) M)) h dX10_deliveredAfter_23 cv_X10_230 rfl ⟨_, _, _, (mem_30 hc2), rfl, rfl⟩ rfl (Nat.le_of_ble_eq_true rfl) (fun y hx => liftq1 (u := 23) hc2 ⟨by decide, by decide⟩ rfl (e_X10_minutes (Nat.le_trans (Nat.le_of_ble_eq_true rfl) hf) (RQ_m (u := 23) hc2 ⟨by decide, by decide⟩) hx)) fun S6 h => ?_
    refine D3_gen (μ := fun W => (MEM b c W M)) h fun W5 h => ?_
    refine V_aload_n (i := 0) dX10_deliveredAfter_26 rfl rfl ?_
    refine V_getfield dX10_deliveredAfter_27 (mem_30 hc2) fl_X10_16 rfl ?_
    refine D_cSI (As := [_]) h dX10_deliveredAfter_30 cs_X10_309 rfl rfl (Nat.le_of_ble_eq_true rfl) (fun x hx => liftq0 (u := 23) hc2 ⟨by decide, by decide⟩ rfl (e_X10_deliveredIn (Nat.le_trans (Nat.le_of_ble_eq_true rfl) hf) hx)) fun v7 h => ?_
    obtain rfl := Option.some.inj h
    exact V_ireturn dX10_deliveredAfter_33 ⟨_, rfl, rfl⟩ ⟨rfl, rfl, rfl⟩
  · refine V_iconst (v := 0) dX10_deliveredAfter_11 (by decide) ?_
    obtain rfl := Option.some.inj h
    exact V_ireturn dX10_deliveredAfter_12 ⟨_, rfl, rfl⟩ ⟨rfl, rfl, rfl⟩
noncomputable def f_X10_deliveredCount (W : Nat → Nat → Int32) : Option (Int32 × (Nat → Nat → Int32)) :=
  bnd (w2 W 30 2 (0 : Int32)) (fun W1 => bdc (f_X10_deliveredIn (pk (W1 21) (W1 27))) (fun v2 => some (v2, W1)))
theorem e_X10_deliveredCount {G : GT} {f0 : Nat} {b c : Nat} {M : MM} {hi k n : Nat} {W : Nat → Nat → Int32} {r : (Int32 × (Nat → Nat → Int32))} (hf0 : 3 ≤ f0) (hc2 : 619 ≤ c) (h : f_X10_deliveredCount W = some r) : Ex G f0 mX10_deliveredCount [.ref (b + 609)] (MEM b c W M) hi k n (RH (.inl (some (.int r.1))) (MEM b c r.2 M) hi) := by
  obtain ⟨f, rfl, hf⟩ := suc_of hf0
  unfold f_X10_deliveredCount at h
  refine ⟨Nat.le_of_ble_eq_true rfl, ?_⟩
  refine V_aload_n (i := 0) dX10_deliveredCount_0 rfl rfl ?_
  refine V_iconst (v := 0) dX10_deliveredCount_1 (by decide) ?_
  refine D3_put h dX10_deliveredCount_2 (mem_30 hc2) (fp_X10_69 rfl) (Nat.le_of_ble_eq_true rfl) (psc_30_2 hc2) fun W1 h => ?_
  refine V_aload_n (i := 0) dX10_deliveredCount_5 rfl rfl ?_
  refine V_getfield dX10_deliveredCount_6 (mem_30 hc2) fl_X10_7 rfl ?_
  refine D_cSI (As := [_]) h dX10_deliveredCount_9 cs_X10_309 rfl rfl (Nat.le_of_ble_eq_true rfl) (fun x hx => liftq0 (u := 21) hc2 ⟨by decide, by decide⟩ rfl (e_X10_deliveredIn (Nat.le_trans (Nat.le_of_ble_eq_true rfl) hf) hx)) fun v2 h => ?_
  obtain rfl := Option.some.inj h
  exact V_ireturn dX10_deliveredCount_12 ⟨_, rfl, rfl⟩ ⟨rfl, rfl, rfl⟩
noncomputable def f_X10_deliveredWithout (W : Nat → Nat → Int32) (a1 : Int32) (a2 : Int32) : Option (Int32 × (Nat → Nat → Int32)) :=
  bdc (f_X10_tries W) (fun W1 => bdc (f_X10_ofTrack a1) (fun v2 => gd (inr (v2 + (3 : Int32)) 251) (bnd (w2 W1 23 (ix (v2 + (3 : Int32))) (0 : Int32)) (fun W3 => bdc (f_X10_minutes (pk (W3 23) (W3 27)) a2) (fun S5 => bnd (setQ W3 23 S5) (fun W4 => bdc (f_X10_deliveredIn (pk (W4 23) (W4 27))) (fun v6 => some (v6, W4))))))))
theorem e_X10_deliveredWithout {G : GT} {f0 : Nat} {b c : Nat} {M : MM} {hi k n : Nat} {W : Nat → Nat → Int32} {a1 : Int32} {a2 : Int32} {r : (Int32 × (Nat → Nat → Int32))} (hf0 : 11 ≤ f0) (hc2 : 619 ≤ c) (h : f_X10_deliveredWithout W a1 a2 = some r) : Ex G f0 mX10_deliveredWithout [.ref (b + 609), .int a1, .int a2] (MEM b c W M) hi k n (RH (.inl (some (.int r.1))) (MEM b c r.2 M) hi) := by
  obtain ⟨f, rfl, hf⟩ := suc_of hf0
  unfold f_X10_deliveredWithout at h
  refine ⟨Nat.le_of_ble_eq_true rfl, ?_⟩
  refine V_aload_n (i := 0) dX10_deliveredWithout_0 rfl rfl ?_
  refine D_cVU (As := []) (μ := fun W1 => (MEM b c W1 M)) h dX10_deliveredWithout_1 cv_X10_313 rfl ⟨_, _, _, (mem_30 hc2), rfl, rfl⟩ rfl (Nat.le_of_ble_eq_true rfl) (fun y hx => e_X10_tries (Nat.le_trans (Nat.le_of_ble_eq_true rfl) hf) hc2 hx) fun W1 h => ?_
  refine V_aload_n (i := 0) dX10_deliveredWithout_4 rfl rfl ?_
  refine V_getfield dX10_deliveredWithout_5 (mem_30 hc2) fl_X10_16 rfl ?_
  refine V_iload_n (i := 1) dX10_deliveredWithout_8 rfl rfl ?_
  refine D_cSI (As := [_]) h dX10_deliveredWithout_9 cs_X10_72 rfl rfl (Nat.le_of_ble_eq_true rfl) (fun x hx => e_X10_ofTrack (Nat.le_trans (Nat.le_of_ble_eq_true rfl) hf) hx) fun v2 h => ?_
  refine V_iconst (v := 3) dX10_deliveredWithout_12 (by decide) ?_
  refine V_iadd dX10_deliveredWithout_13 ?_
  refine V_iconst (v := 0) dX10_deliveredWithout_14 (by decide) ?_
  refine D3_ist (u := 23) h (mem_23 hc2) (pst_23 hc2) dX10_deliveredWithout_15 fun W3 h => ?_
  refine V_aload_n (i := 0) dX10_deliveredWithout_16 rfl rfl ?_
  refine V_aload_n (i := 0) dX10_deliveredWithout_17 rfl rfl ?_
  refine V_getfield dX10_deliveredWithout_18 (mem_30 hc2) fl_X10_16 rfl ?_
  refine V_iload_n (i := 2) dX10_deliveredWithout_21 rfl rfl ?_
  refine D_cVU (As := [_, _]) (μ := fun S5 => (MEM b c (setQ W3 23 S5) M)) h dX10_deliveredWithout_22 cv_X10_230 rfl ⟨_, _, _, (mem_30 hc2), rfl, rfl⟩ rfl (Nat.le_of_ble_eq_true rfl) (fun y hx => liftq1 (u := 23) hc2 ⟨by decide, by decide⟩ rfl (e_X10_minutes (Nat.le_trans (Nat.le_of_ble_eq_true rfl) hf) (RQ_m (u := 23) hc2 ⟨by decide, by decide⟩) hx)) fun S5 h => ?_
  refine D3_gen (μ := fun W => (MEM b c W M)) h fun W4 h => ?_
  refine V_aload_n (i := 0) dX10_deliveredWithout_25 rfl rfl ?_
  refine V_getfield dX10_deliveredWithout_26 (mem_30 hc2) fl_X10_16 rfl ?_
  refine D_cSI (As := [_]) h dX10_deliveredWithout_29 cs_X10_309 rfl rfl (Nat.le_of_ble_eq_true rfl) (fun x hx => liftq0 (u := 23) hc2 ⟨by decide, by decide⟩ rfl (e_X10_deliveredIn (Nat.le_trans (Nat.le_of_ble_eq_true rfl) hf) hx)) fun v6 h => ?_
  obtain rfl := Option.some.inj h
  exact V_ireturn dX10_deliveredWithout_32 ⟨_, rfl, rfl⟩ ⟨rfl, rfl, rfl⟩
noncomputable def f_X10_deliveredIfClosed (W : Nat → Nat → Int32) (a1 : Int32) (a2 : Int32) (a3 : Int32) : Option (Int32 × (Nat → Nat → Int32)) :=
  bd2 (f_X10_noStations W a1 a2) (fun v2 W1 => if v2 = 0 then bdc (f_X10_between (pk (W1 21) (W1 27)) a1 a2) (fun v4 => jn (fun (v6 : Int32) => bd2 (f_X10_refuses W1 v6 (2 : Int32)) (fun v9 W8 => if v9 = 0 then bd2 (f_X10_out W8 a3 (0 : Int32) (120 : Int32)) (fun v12 W11 => if v12 = 0 then bd2 (f_X10_deliveredWithout W11 v4 a3) (fun v15 W14 => some (v15, W14)) else some ((0 : Int32), W11)) else some ((0 : Int32), W8))) (fun j5 => if v4 = (-1 : Int32) then j5 (1 : Int32) else j5 (0 : Int32))) else some ((0 : Int32), W1))
theorem e_X10_deliveredIfClosed {G : GT} {f0 : Nat} {b c : Nat} {M : MM} {hi k n : Nat} {W : Nat → Nat → Int32} {a1 : Int32} {a2 : Int32} {a3 : Int32} {r : (Int32 × (Nat → Nat → Int32))} (hf0 : 12 ≤ f0) (hc2 : 619 ≤ c) (h : f_X10_deliveredIfClosed W a1 a2 a3 = some r) : Ex G f0 mX10_deliveredIfClosed [.ref (b + 609), .int a1, .int a2, .int a3] (MEM b c W M) hi k n (RH (.inl (some (.int r.1))) (MEM b c r.2 M) hi) := by
  obtain ⟨f, rfl, hf⟩ := suc_of hf0
  unfold f_X10_deliveredIfClosed at h
  refine ⟨Nat.le_of_ble_eq_true rfl, ?_⟩
  refine V_aload_n (i := 0) dX10_deliveredIfClosed_0 rfl rfl ?_
  refine V_iload_n (i := 1) dX10_deliveredIfClosed_1 rfl rfl ?_
  refine V_iload_n (i := 2) dX10_deliveredIfClosed_2 rfl rfl ?_
  refine D_cVIW (As := [_, _]) (μ := fun W1 => (MEM b c W1 M)) h dX10_deliveredIfClosed_3 cv_X10_296 rfl ⟨_, _, _, (mem_30 hc2), rfl, rfl⟩ rfl (Nat.le_of_ble_eq_true rfl) (fun x y hx => e_X10_noStations (Nat.le_trans (Nat.le_of_ble_eq_true rfl) hf) hc2 hx) fun v2 W1 h => ?_
  refine D_if_eq (tgt := 11) h dX10_deliveredIfClosed_6 rfl (fun b3 h => ?_) (fun b3 h => ?_)
  · refine V_aload_n (i := 0) dX10_deliveredIfClosed_11 rfl rfl ?_
    refine V_getfield dX10_deliveredIfClosed_12 (mem_30 hc2) fl_X10_7 rfl ?_
    refine V_iload_n (i := 1) dX10_deliveredIfClosed_15 rfl rfl ?_
    refine V_iload_n (i := 2) dX10_deliveredIfClosed_16 rfl rfl ?_
    refine D_cSI (As := [_, _, _]) h dX10_deliveredIfClosed_17 cs_X10_128 rfl rfl (Nat.le_of_ble_eq_true rfl) (fun x hx => liftq0 (u := 21) hc2 ⟨by decide, by decide⟩ rfl (e_X10_between (Nat.le_trans (Nat.le_of_ble_eq_true rfl) hf) hx)) fun v4 h => ?_
    refine V_istore (i := 4) dX10_deliveredIfClosed_20 (Nat.le_of_ble_eq_true rfl) ?_
    refine V_aload_n (i := 0) dX10_deliveredIfClosed_22 rfl rfl ?_
    refine V_iload (i := 4) dX10_deliveredIfClosed_23 rfl ?_
    refine V_iconst (v := -1) dX10_deliveredIfClosed_25 (by decide) ?_
    refine D_jn (fun (j : Int32 → Option (Int32 × (Nat → Nat → Int32))) => ∀ (v6 : Int32), j v6 = some r → V G f (Ex G f) mX10_deliveredIfClosed (RH (.inl (some (.int r.1))) (MEM b c r.2 M) hi) 34 [(0, .ref (b + 609)), (3, .int a3), (4, .int v4)] [.int v6, .ref (b + 609)] (MEM b c W1 M) hi k n) h (fun j5 hj5 h => ?_) ?_
    · refine D_icmp_ne (tgt := 33) h dX10_deliveredIfClosed_26 rfl (fun b7 h => ?_) (fun b7 h => ?_)
      · refine V_iconst (v := 0) dX10_deliveredIfClosed_33 (by decide) ?_
        exact V_sub (ks := [1, 4, 0]) rfl (hj5 _ h)
      · refine V_iconst (v := 1) dX10_deliveredIfClosed_29 (by decide) ?_
        refine V_goto (tgt := 34) dX10_deliveredIfClosed_30 rfl ?_
        exact V_sub (ks := [1, 4, 0]) rfl (hj5 _ h)
    · intro v6 h
      refine V_iconst (v := 2) dX10_deliveredIfClosed_34 (by decide) ?_
      refine D_cVIW (As := [_, _]) (μ := fun W8 => (MEM b c W8 M)) h dX10_deliveredIfClosed_35 cv_X10_165 rfl ⟨_, _, _, (mem_30 hc2), rfl, rfl⟩ rfl (Nat.le_of_ble_eq_true rfl) (fun x y hx => e_X10_refuses (Nat.le_trans (Nat.le_of_ble_eq_true rfl) hf) hc2 hx) fun v9 W8 h => ?_
      refine D_if_ne (tgt := 52) h dX10_deliveredIfClosed_38 rfl (fun b10 h => ?_) (fun b10 h => ?_)
      · refine V_iconst (v := 0) dX10_deliveredIfClosed_52 (by decide) ?_
        refine V_goto (tgt := 63) dX10_deliveredIfClosed_53 rfl ?_
        obtain rfl := Option.some.inj h
        exact V_ireturn dX10_deliveredIfClosed_63 ⟨_, rfl, rfl⟩ ⟨rfl, rfl, rfl⟩
      · refine V_aload_n (i := 0) dX10_deliveredIfClosed_41 rfl rfl ?_
        refine V_iload_n (i := 3) dX10_deliveredIfClosed_42 rfl rfl ?_
        refine V_iconst (v := 0) dX10_deliveredIfClosed_43 (by decide) ?_
        refine V_bipush (v := 120) dX10_deliveredIfClosed_44 (by decide) ?_
        refine D_cVIW (As := [_, _, _]) (μ := fun W11 => (MEM b c W11 M)) h dX10_deliveredIfClosed_46 cv_X10_293 rfl ⟨_, _, _, (mem_30 hc2), rfl, rfl⟩ rfl (Nat.le_of_ble_eq_true rfl) (fun x y hx => e_X10_out (Nat.le_trans (Nat.le_of_ble_eq_true rfl) hf) hc2 hx) fun v12 W11 h => ?_
        refine D_if_eq (tgt := 56) h dX10_deliveredIfClosed_49 rfl (fun b13 h => ?_) (fun b13 h => ?_)
        · refine V_aload_n (i := 0) dX10_deliveredIfClosed_56 rfl rfl ?_
          refine V_iload (i := 4) dX10_deliveredIfClosed_57 rfl ?_
          refine V_iload_n (i := 3) dX10_deliveredIfClosed_59 rfl rfl ?_
          refine D_cVIW (As := [_, _]) (μ := fun W14 => (MEM b c W14 M)) h dX10_deliveredIfClosed_60 cv_X10_316 rfl ⟨_, _, _, (mem_30 hc2), rfl, rfl⟩ rfl (Nat.le_of_ble_eq_true rfl) (fun x y hx => e_X10_deliveredWithout (Nat.le_trans (Nat.le_of_ble_eq_true rfl) hf) hc2 hx) fun v15 W14 h => ?_
          obtain rfl := Option.some.inj h
          exact V_ireturn dX10_deliveredIfClosed_63 ⟨_, rfl, rfl⟩ ⟨rfl, rfl, rfl⟩
        · refine V_iconst (v := 0) dX10_deliveredIfClosed_52 (by decide) ?_
          refine V_goto (tgt := 63) dX10_deliveredIfClosed_53 rfl ?_
          obtain rfl := Option.some.inj h
          exact V_ireturn dX10_deliveredIfClosed_63 ⟨_, rfl, rfl⟩ ⟨rfl, rfl, rfl⟩
  · refine V_iconst (v := 0) dX10_deliveredIfClosed_9 (by decide) ?_
    obtain rfl := Option.some.inj h
    exact V_ireturn dX10_deliveredIfClosed_10 ⟨_, rfl, rfl⟩ ⟨rfl, rfl, rfl⟩
noncomputable def f_X10_deliveredShare (W : Nat → Nat → Int32) : Option (UInt32 × (Nat → Nat → Int32)) :=
  bnd (w2 W 30 2 (0 : Int32)) (fun W1 => gd (inr (4 : Int32) 251) (if (W1 21 (ix (4 : Int32))) = 0 then some (FP.fconst0, W1) else bdc (f_X10_deliveredIn (pk (W1 21) (W1 27))) (fun v3 => gd (inr (4 : Int32) 251) (gdp (vf_n32 (FP.fdiv (FP.i2f v3) (FP.i2f (W1 21 (ix (4 : Int32)))))) (some (FP.fdiv (FP.i2f v3) (FP.i2f (W1 21 (ix (4 : Int32)))), W1))))))
theorem e_X10_deliveredShare {G : GT} {f0 : Nat} {b c : Nat} {M : MM} {hi k n : Nat} {W : Nat → Nat → Int32} {r : (UInt32 × (Nat → Nat → Int32))} (hf0 : 3 ≤ f0) (hc2 : 619 ≤ c) (h : f_X10_deliveredShare W = some r) : Ex G f0 mX10_deliveredShare [.ref (b + 609)] (MEM b c W M) hi k n (RH (.inl (some (.float r.1))) (MEM b c r.2 M) hi) := by
  obtain ⟨f, rfl, hf⟩ := suc_of hf0
  unfold f_X10_deliveredShare at h
  refine ⟨Nat.le_of_ble_eq_true rfl, ?_⟩
  refine V_aload_n (i := 0) dX10_deliveredShare_0 rfl rfl ?_
  refine V_iconst (v := 0) dX10_deliveredShare_1 (by decide) ?_
  refine D3_put h dX10_deliveredShare_2 (mem_30 hc2) (fp_X10_69 rfl) (Nat.le_of_ble_eq_true rfl) (psc_30_2 hc2) fun W1 h => ?_
  refine V_aload_n (i := 0) dX10_deliveredShare_5 rfl rfl ?_
  refine V_getfield dX10_deliveredShare_6 (mem_30 hc2) fl_X10_7 rfl ?_
  refine V_iconst (v := 4) dX10_deliveredShare_9 (by decide) ?_
  refine D3_ild h (mem_21 hc2) dX10_deliveredShare_10 fun h => ?_
  refine D_if_ne (tgt := 18) h dX10_deliveredShare_11 rfl (fun b2 h => ?_) (fun b2 h => ?_)
  · refine V_aload_n (i := 0) dX10_deliveredShare_18 rfl rfl ?_
    refine V_getfield dX10_deliveredShare_19 (mem_30 hc2) fl_X10_7 rfl ?_
    refine D_cSI (As := [_]) h dX10_deliveredShare_22 cs_X10_309 rfl rfl (Nat.le_of_ble_eq_true rfl) (fun x hx => liftq0 (u := 21) hc2 ⟨by decide, by decide⟩ rfl (e_X10_deliveredIn (Nat.le_trans (Nat.le_of_ble_eq_true rfl) hf) hx)) fun v3 h => ?_
    refine V_i2f dX10_deliveredShare_25 ?_
    refine V_aload_n (i := 0) dX10_deliveredShare_26 rfl rfl ?_
    refine V_getfield dX10_deliveredShare_27 (mem_30 hc2) fl_X10_7 rfl ?_
    refine V_iconst (v := 4) dX10_deliveredShare_30 (by decide) ?_
    refine D3_ild h (mem_21 hc2) dX10_deliveredShare_31 fun h => ?_
    refine V_i2f dX10_deliveredShare_32 ?_
    refine D_gdp h fun g4 h => ?_
    refine V_fdiv dX10_deliveredShare_33 g4 ?_
    obtain rfl := Option.some.inj h
    exact V_freturn dX10_deliveredShare_34 rfl ⟨rfl, rfl, rfl⟩
  · refine V_fconst0 dX10_deliveredShare_14 ?_
    refine V_goto (tgt := 34) dX10_deliveredShare_15 rfl ?_
    obtain rfl := Option.some.inj h
    exact V_freturn dX10_deliveredShare_34 rfl ⟨rfl, rfl, rfl⟩
noncomputable def f_X10_noParcel (W : Nat → Nat → Int32) (a1 : Int32) : Option (Int32 × (Nat → Nat → Int32)) :=
  gd (inr (4 : Int32) 251) (bd2 (f_X10_noNumber W a1 (0 : Int32) ((W 21 (ix (4 : Int32))) - (1 : Int32))) (fun v2 W1 => gd (z01 v2) (some (v2, W1))))
theorem e_X10_noParcel {G : GT} {f0 : Nat} {b c : Nat} {M : MM} {hi k n : Nat} {W : Nat → Nat → Int32} {a1 : Int32} {r : (Int32 × (Nat → Nat → Int32))} (hf0 : 3 ≤ f0) (hc2 : 619 ≤ c) (h : f_X10_noParcel W a1 = some r) : Ex G f0 mX10_noParcel [.ref (b + 609), .int a1] (MEM b c W M) hi k n (RH (.inl (some (.int r.1))) (MEM b c r.2 M) hi) := by
  obtain ⟨f, rfl, hf⟩ := suc_of hf0
  unfold f_X10_noParcel at h
  refine ⟨Nat.le_of_ble_eq_true rfl, ?_⟩
  refine V_aload_n (i := 0) dX10_noParcel_0 rfl rfl ?_
  refine V_iload_n (i := 1) dX10_noParcel_1 rfl rfl ?_
  refine V_iconst (v := 0) dX10_noParcel_2 (by decide) ?_
  refine V_aload_n (i := 0) dX10_noParcel_3 rfl rfl ?_
  refine V_getfield dX10_noParcel_4 (mem_30 hc2) fl_X10_7 rfl ?_
  refine V_iconst (v := 4) dX10_noParcel_7 (by decide) ?_
  refine D3_ild h (mem_21 hc2) dX10_noParcel_8 fun h => ?_
  refine V_iconst (v := 1) dX10_noParcel_9 (by decide) ?_
  refine V_isub dX10_noParcel_10 ?_
  refine D_cVIW (As := [_, _, _]) (μ := fun W1 => (MEM b c W1 M)) h dX10_noParcel_11 cv_X10_173 rfl ⟨_, _, _, (mem_30 hc2), rfl, rfl⟩ rfl (Nat.le_of_ble_eq_true rfl) (fun x y hx => e_X10_noNumber (Nat.le_trans (Nat.le_of_ble_eq_true rfl) hf) hc2 hx) fun v2 W1 h => ?_
  refine D_gd h fun g h => ?_
  obtain rfl := Option.some.inj h
  exact V_ireturn dX10_noParcel_14 ⟨_, rfl, z01_nar g⟩ ⟨rfl, rfl, rfl⟩
noncomputable def f_X10_ofIt (W : Nat → Nat → Int32) (a1 : Int32) (a2 : Int32) : Option (Int32 × (Nat → Nat → Int32)) :=
  bd2 (f_X10_noParcel W a1) (fun v2 W1 => if v2 = 0 then bdc (f_X10_ofParcel a1) (fun v4 => gd (inr (v4 + a2) 251) (some (W1 21 (ix (v4 + a2)), W1))) else some ((0 : Int32), W1))
theorem e_X10_ofIt {G : GT} {f0 : Nat} {b c : Nat} {M : MM} {hi k n : Nat} {W : Nat → Nat → Int32} {a1 : Int32} {a2 : Int32} {r : (Int32 × (Nat → Nat → Int32))} (hf0 : 4 ≤ f0) (hc2 : 619 ≤ c) (h : f_X10_ofIt W a1 a2 = some r) : Ex G f0 mX10_ofIt [.ref (b + 609), .int a1, .int a2] (MEM b c W M) hi k n (RH (.inl (some (.int r.1))) (MEM b c r.2 M) hi) := by
  obtain ⟨f, rfl, hf⟩ := suc_of hf0
  unfold f_X10_ofIt at h
  refine ⟨Nat.le_of_ble_eq_true rfl, ?_⟩
  refine V_aload_n (i := 0) dX10_ofIt_0 rfl rfl ?_
  refine V_iload_n (i := 1) dX10_ofIt_1 rfl rfl ?_
  refine D_cVIW (As := [_]) (μ := fun W1 => (MEM b c W1 M)) h dX10_ofIt_2 cv_X10_303 rfl ⟨_, _, _, (mem_30 hc2), rfl, rfl⟩ rfl (Nat.le_of_ble_eq_true rfl) (fun x y hx => e_X10_noParcel (Nat.le_trans (Nat.le_of_ble_eq_true rfl) hf) hc2 hx) fun v2 W1 h => ?_
  refine D_if_eq (tgt := 12) h dX10_ofIt_5 rfl (fun b3 h => ?_) (fun b3 h => ?_)
  · refine V_aload_n (i := 0) dX10_ofIt_12 rfl rfl ?_
    refine V_getfield dX10_ofIt_13 (mem_30 hc2) fl_X10_7 rfl ?_
    refine V_iload_n (i := 1) dX10_ofIt_16 rfl rfl ?_
    refine D_cSI (As := [_]) h dX10_ofIt_17 cs_X10_88 rfl rfl (Nat.le_of_ble_eq_true rfl) (fun x hx => e_X10_ofParcel (Nat.le_trans (Nat.le_of_ble_eq_true rfl) hf) hx) fun v4 h => ?_
    refine V_iload_n (i := 2) dX10_ofIt_20 rfl rfl ?_
    refine V_iadd dX10_ofIt_21 ?_
    refine D3_ild h (mem_21 hc2) dX10_ofIt_22 fun h => ?_
    obtain rfl := Option.some.inj h
    exact V_ireturn dX10_ofIt_23 ⟨_, rfl, rfl⟩ ⟨rfl, rfl, rfl⟩
  · refine V_iconst (v := 0) dX10_ofIt_8 (by decide) ?_
    refine V_goto (tgt := 23) dX10_ofIt_9 rfl ?_
    obtain rfl := Option.some.inj h
    exact V_ireturn dX10_ofIt_23 ⟨_, rfl, rfl⟩ ⟨rfl, rfl, rfl⟩
noncomputable def f_X10_deliveryClock (W : Nat → Nat → Int32) (a1 : Int32) : Option (Int32 × (Nat → Nat → Int32)) :=
  bd2 (f_X10_ofIt W a1 (8 : Int32)) (fun v2 W1 => some (v2, W1))
theorem e_X10_deliveryClock {G : GT} {f0 : Nat} {b c : Nat} {M : MM} {hi k n : Nat} {W : Nat → Nat → Int32} {a1 : Int32} {r : (Int32 × (Nat → Nat → Int32))} (hf0 : 5 ≤ f0) (hc2 : 619 ≤ c) (h : f_X10_deliveryClock W a1 = some r) : Ex G f0 mX10_deliveryClock [.ref (b + 609), .int a1] (MEM b c W M) hi k n (RH (.inl (some (.int r.1))) (MEM b c r.2 M) hi) := by
  obtain ⟨f, rfl, hf⟩ := suc_of hf0
  unfold f_X10_deliveryClock at h
  refine ⟨Nat.le_of_ble_eq_true rfl, ?_⟩
  refine V_aload_n (i := 0) dX10_deliveryClock_0 rfl rfl ?_
  refine V_iload_n (i := 1) dX10_deliveryClock_1 rfl rfl ?_
  refine V_bipush (v := 8) dX10_deliveryClock_2 (by decide) ?_
  refine D_cVIW (As := [_, _]) (μ := fun W1 => (MEM b c W1 M)) h dX10_deliveryClock_4 cv_X10_306 rfl ⟨_, _, _, (mem_30 hc2), rfl, rfl⟩ rfl (Nat.le_of_ble_eq_true rfl) (fun x y hx => e_X10_ofIt (Nat.le_trans (Nat.le_of_ble_eq_true rfl) hf) hc2 hx) fun v2 W1 h => ?_
  obtain rfl := Option.some.inj h
  exact V_ireturn dX10_deliveryClock_7 ⟨_, rfl, rfl⟩ ⟨rfl, rfl, rfl⟩
noncomputable def f_X10_destination (W : Nat → Nat → Int32) (a1 : Int32) : Option (Int32 × (Nat → Nat → Int32)) :=
  bd2 (f_X10_ofIt W a1 (1 : Int32)) (fun v2 W1 => some (v2, W1))
theorem e_X10_destination {G : GT} {f0 : Nat} {b c : Nat} {M : MM} {hi k n : Nat} {W : Nat → Nat → Int32} {a1 : Int32} {r : (Int32 × (Nat → Nat → Int32))} (hf0 : 5 ≤ f0) (hc2 : 619 ≤ c) (h : f_X10_destination W a1 = some r) : Ex G f0 mX10_destination [.ref (b + 609), .int a1] (MEM b c W M) hi k n (RH (.inl (some (.int r.1))) (MEM b c r.2 M) hi) := by
  obtain ⟨f, rfl, hf⟩ := suc_of hf0
  unfold f_X10_destination at h
  refine ⟨Nat.le_of_ble_eq_true rfl, ?_⟩
  refine V_aload_n (i := 0) dX10_destination_0 rfl rfl ?_
  refine V_iload_n (i := 1) dX10_destination_1 rfl rfl ?_
  refine V_iconst (v := 1) dX10_destination_2 (by decide) ?_
  refine D_cVIW (As := [_, _]) (μ := fun W1 => (MEM b c W1 M)) h dX10_destination_3 cv_X10_306 rfl ⟨_, _, _, (mem_30 hc2), rfl, rfl⟩ rfl (Nat.le_of_ble_eq_true rfl) (fun x y hx => e_X10_ofIt (Nat.le_trans (Nat.le_of_ble_eq_true rfl) hf) hc2 hx) fun v2 W1 h => ?_
  obtain rfl := Option.some.inj h
  exact V_ireturn dX10_destination_6 ⟨_, rfl, rfl⟩ ⟨rfl, rfl, rfl⟩
noncomputable def f_X10_distance (W : Nat → Nat → Int32) (a1 : Int32) (a2 : Int32) : Option (Int32 × (Nat → Nat → Int32)) :=
  bd2 (f_X10_noStations W a1 a2) (fun v2 W1 => if v2 = 0 then bdc (f_X10_measure (pk (W1 21) (W1 27)) a1) (fun S5 => bnd (setQ W1 21 S5) (fun W4 => gd (inr a2 8) (if (W4 27 (ix a2)) = (99999 : Int32) then some ((-1 : Int32), W4) else gd (inr a2 8) (some (W4 27 (ix a2), W4))))) else some ((0 : Int32), W1))
theorem e_X10_distance {G : GT} {f0 : Nat} {b c : Nat} {M : MM} {hi k n : Nat} {W : Nat → Nat → Int32} {a1 : Int32} {a2 : Int32} {r : (Int32 × (Nat → Nat → Int32))} (hf0 : 5 ≤ f0) (hc2 : 619 ≤ c) (h : f_X10_distance W a1 a2 = some r) : Ex G f0 mX10_distance [.ref (b + 609), .int a1, .int a2] (MEM b c W M) hi k n (RH (.inl (some (.int r.1))) (MEM b c r.2 M) hi) := by
  obtain ⟨f, rfl, hf⟩ := suc_of hf0
  unfold f_X10_distance at h
  refine ⟨Nat.le_of_ble_eq_true rfl, ?_⟩
  refine V_aload_n (i := 0) dX10_distance_0 rfl rfl ?_
  refine V_iload_n (i := 1) dX10_distance_1 rfl rfl ?_
  refine V_iload_n (i := 2) dX10_distance_2 rfl rfl ?_
  refine D_cVIW (As := [_, _]) (μ := fun W1 => (MEM b c W1 M)) h dX10_distance_3 cv_X10_296 rfl ⟨_, _, _, (mem_30 hc2), rfl, rfl⟩ rfl (Nat.le_of_ble_eq_true rfl) (fun x y hx => e_X10_noStations (Nat.le_trans (Nat.le_of_ble_eq_true rfl) hf) hc2 hx) fun v2 W1 h => ?_
  refine D_if_eq (tgt := 11) h dX10_distance_6 rfl (fun b3 h => ?_) (fun b3 h => ?_)
  · refine V_aload_n (i := 0) dX10_distance_11 rfl rfl ?_
    refine V_aload_n (i := 0) dX10_distance_12 rfl rfl ?_
    refine V_getfield dX10_distance_13 (mem_30 hc2) fl_X10_7 rfl ?_
    refine V_iload_n (i := 1) dX10_distance_16 rfl rfl ?_
    refine D_cVU (As := [_, _]) (μ := fun S5 => (MEM b c (setQ W1 21 S5) M)) h dX10_distance_17 cv_X10_91 rfl ⟨_, _, _, (mem_30 hc2), rfl, rfl⟩ rfl (Nat.le_of_ble_eq_true rfl) (fun y hx => liftq1 (u := 21) hc2 ⟨by decide, by decide⟩ rfl (e_X10_measure (Nat.le_trans (Nat.le_of_ble_eq_true rfl) hf) (RQ_m (u := 21) hc2 ⟨by decide, by decide⟩) hx)) fun S5 h => ?_
    refine D3_gen (μ := fun W => (MEM b c W M)) h fun W4 h => ?_
    refine V_aload_n (i := 0) dX10_distance_20 rfl rfl ?_
    refine V_getfield dX10_distance_21 (mem_30 hc2) fl_X10_29 rfl ?_
    refine V_iload_n (i := 2) dX10_distance_24 rfl rfl ?_
    refine D3_ild h (mem_27 hc2) dX10_distance_25 fun h => ?_
    refine V_ldcI (v := 99999) dX10_distance_26 tw_1518 ?_
    refine D_icmp_ne (tgt := 35) h dX10_distance_28 rfl (fun b6 h => ?_) (fun b6 h => ?_)
    · refine V_aload_n (i := 0) dX10_distance_35 rfl rfl ?_
      refine V_getfield dX10_distance_36 (mem_30 hc2) fl_X10_29 rfl ?_
      refine V_iload_n (i := 2) dX10_distance_39 rfl rfl ?_
      refine D3_ild h (mem_27 hc2) dX10_distance_40 fun h => ?_
      obtain rfl := Option.some.inj h
      exact V_ireturn dX10_distance_41 ⟨_, rfl, rfl⟩ ⟨rfl, rfl, rfl⟩
    · refine V_iconst (v := -1) dX10_distance_31 (by decide) ?_
      refine V_goto (tgt := 41) dX10_distance_32 rfl ?_
      obtain rfl := Option.some.inj h
      exact V_ireturn dX10_distance_41 ⟨_, rfl, rfl⟩ ⟨rfl, rfl, rfl⟩
  · refine V_iconst (v := 0) dX10_distance_9 (by decide) ?_
    obtain rfl := Option.some.inj h
    exact V_ireturn dX10_distance_10 ⟨_, rfl, rfl⟩ ⟨rfl, rfl, rfl⟩
noncomputable def f_X10_dropStation (W : Nat → Nat → Int32) (a1 : Int32) : Option (Int32 × (Nat → Nat → Int32)) :=
  bd2 (f_X10_ofIt W a1 (5 : Int32)) (fun v2 W1 => some (v2, W1))
theorem e_X10_dropStation {G : GT} {f0 : Nat} {b c : Nat} {M : MM} {hi k n : Nat} {W : Nat → Nat → Int32} {a1 : Int32} {r : (Int32 × (Nat → Nat → Int32))} (hf0 : 5 ≤ f0) (hc2 : 619 ≤ c) (h : f_X10_dropStation W a1 = some r) : Ex G f0 mX10_dropStation [.ref (b + 609), .int a1] (MEM b c W M) hi k n (RH (.inl (some (.int r.1))) (MEM b c r.2 M) hi) := by
  obtain ⟨f, rfl, hf⟩ := suc_of hf0
  unfold f_X10_dropStation at h
  refine ⟨Nat.le_of_ble_eq_true rfl, ?_⟩
  refine V_aload_n (i := 0) dX10_dropStation_0 rfl rfl ?_
  refine V_iload_n (i := 1) dX10_dropStation_1 rfl rfl ?_
  refine V_iconst (v := 5) dX10_dropStation_2 (by decide) ?_
  refine D_cVIW (As := [_, _]) (μ := fun W1 => (MEM b c W1 M)) h dX10_dropStation_3 cv_X10_306 rfl ⟨_, _, _, (mem_30 hc2), rfl, rfl⟩ rfl (Nat.le_of_ble_eq_true rfl) (fun x y hx => e_X10_ofIt (Nat.le_trans (Nat.le_of_ble_eq_true rfl) hf) hc2 hx) fun v2 W1 h => ?_
  obtain rfl := Option.some.inj h
  exact V_ireturn dX10_dropStation_6 ⟨_, rfl, rfl⟩ ⟨rfl, rfl, rfl⟩
noncomputable def f_X10_errorCode (W : Nat → Nat → Int32) : Option (Int32 × (Nat → Nat → Int32)) :=
  bnd (w2 W 30 2 (0 : Int32)) (fun W1 => some (W1 30 9, W1))
theorem e_X10_errorCode {G : GT} {f0 : Nat} {b c : Nat} {M : MM} {hi k n : Nat} {W : Nat → Nat → Int32} {r : (Int32 × (Nat → Nat → Int32))} (hf0 : 1 ≤ f0) (hc2 : 619 ≤ c) (h : f_X10_errorCode W = some r) : Ex G f0 mX10_errorCode [.ref (b + 609)] (MEM b c W M) hi k n (RH (.inl (some (.int r.1))) (MEM b c r.2 M) hi) := by
  obtain ⟨f, rfl, hf⟩ := suc_of hf0
  unfold f_X10_errorCode at h
  refine ⟨Nat.le_of_ble_eq_true rfl, ?_⟩
  refine V_aload_n (i := 0) dX10_errorCode_0 rfl rfl ?_
  refine V_iconst (v := 0) dX10_errorCode_1 (by decide) ?_
  refine D3_put h dX10_errorCode_2 (mem_30 hc2) (fp_X10_69 rfl) (Nat.le_of_ble_eq_true rfl) (psc_30_2 hc2) fun W1 h => ?_
  refine V_aload_n (i := 0) dX10_errorCode_5 rfl rfl ?_
  refine V_getfield dX10_errorCode_6 (mem_30 hc2) fl_X10_176 rfl ?_
  obtain rfl := Option.some.inj h
  exact V_ireturn dX10_errorCode_9 ⟨_, rfl, rfl⟩ ⟨rfl, rfl, rfl⟩
noncomputable def f_X10_errorPosition (W : Nat → Nat → Int32) : Option (Int32 × (Nat → Nat → Int32)) :=
  bnd (w2 W 30 2 (0 : Int32)) (fun W1 => some (W1 30 10, W1))
theorem e_X10_errorPosition {G : GT} {f0 : Nat} {b c : Nat} {M : MM} {hi k n : Nat} {W : Nat → Nat → Int32} {r : (Int32 × (Nat → Nat → Int32))} (hf0 : 1 ≤ f0) (hc2 : 619 ≤ c) (h : f_X10_errorPosition W = some r) : Ex G f0 mX10_errorPosition [.ref (b + 609)] (MEM b c W M) hi k n (RH (.inl (some (.int r.1))) (MEM b c r.2 M) hi) := by
  obtain ⟨f, rfl, hf⟩ := suc_of hf0
  unfold f_X10_errorPosition at h
  refine ⟨Nat.le_of_ble_eq_true rfl, ?_⟩
  refine V_aload_n (i := 0) dX10_errorPosition_0 rfl rfl ?_
  refine V_iconst (v := 0) dX10_errorPosition_1 (by decide) ?_
  refine D3_put h dX10_errorPosition_2 (mem_30 hc2) (fp_X10_69 rfl) (Nat.le_of_ble_eq_true rfl) (psc_30_2 hc2) fun W1 h => ?_
  refine V_aload_n (i := 0) dX10_errorPosition_5 rfl rfl ?_
  refine V_getfield dX10_errorPosition_6 (mem_30 hc2) fl_X10_35 rfl ?_
  obtain rfl := Option.some.inj h
  exact V_ireturn dX10_errorPosition_9 ⟨_, rfl, rfl⟩ ⟨rfl, rfl, rfl⟩
noncomputable def f_X10_next (W : Nat → Nat → Int32) : Option (Nat → Nat → Int32) :=
  if (W 30 9) = 0 then bdc (f_X10_advance W) (fun W2 => some W2) else some W
theorem e_X10_next {G : GT} {f0 : Nat} {b c : Nat} {M : MM} {hi k n : Nat} {W : Nat → Nat → Int32} {r : (Nat → Nat → Int32)} (hf0 : 3 ≤ f0) (hc2 : 619 ≤ c) (h : f_X10_next W = some r) : Ex G f0 mX10_next [.ref (b + 609)] (MEM b c W M) hi k n (RH (.inl none) (MEM b c r M) hi) := by
  obtain ⟨f, rfl, hf⟩ := suc_of hf0
  unfold f_X10_next at h
  refine ⟨Nat.le_of_ble_eq_true rfl, ?_⟩
  refine V_aload_n (i := 0) dX10_next_0 rfl rfl ?_
  refine V_getfield dX10_next_1 (mem_30 hc2) fl_X10_176 rfl ?_
  refine D_if_ne (tgt := 11) h dX10_next_4 rfl (fun b1 h => ?_) (fun b1 h => ?_)
  · obtain rfl := Option.some.inj h
    exact V_return dX10_next_11 rfl ⟨rfl, rfl, rfl⟩
  · refine V_aload_n (i := 0) dX10_next_7 rfl rfl ?_
    refine D_cVU (As := []) (μ := fun W2 => (MEM b c W2 M)) h dX10_next_8 cv_X10_198 rfl ⟨_, _, _, (mem_30 hc2), rfl, rfl⟩ rfl (Nat.le_of_ble_eq_true rfl) (fun y hx => e_X10_advance (Nat.le_trans (Nat.le_of_ble_eq_true rfl) hf) hc2 hx) fun W2 h => ?_
    obtain rfl := Option.some.inj h
    exact V_return dX10_next_11 rfl ⟨rfl, rfl, rfl⟩
noncomputable def f_X10_finish (W : Nat → Nat → Int32) : Option (Nat → Nat → Int32) :=
  if (W 30 6) = (1 : Int32) then gd (inr (W 30 5) 600) (if (W 28 (ix (W 30 5))) = (59 : Int32) then bd2 (f_X10_check W (1 : Int32) (1 : Int32)) (fun v10 W9 => bdc (f_X10_next W9) (fun W11 => some W11)) else bd2 (f_X10_check W (0 : Int32) (1 : Int32)) (fun v7 W6 => bdc (f_X10_next W6) (fun W8 => some W8))) else bd2 (f_X10_check W (0 : Int32) (1 : Int32)) (fun v3 W2 => bdc (f_X10_next W2) (fun W4 => some W4))
theorem e_X10_finish {G : GT} {f0 : Nat} {b c : Nat} {M : MM} {hi k n : Nat} {W : Nat → Nat → Int32} {r : (Nat → Nat → Int32)} (hf0 : 4 ≤ f0) (hc2 : 619 ≤ c) (h : f_X10_finish W = some r) : Ex G f0 mX10_finish [.ref (b + 609)] (MEM b c W M) hi k n (RH (.inl none) (MEM b c r M) hi) := by
  obtain ⟨f, rfl, hf⟩ := suc_of hf0
  unfold f_X10_finish at h
  refine ⟨Nat.le_of_ble_eq_true rfl, ?_⟩
  refine V_aload_n (i := 0) dX10_finish_0 rfl rfl ?_
  refine V_aload_n (i := 0) dX10_finish_1 rfl rfl ?_
  refine V_getfield dX10_finish_2 (mem_30 hc2) fl_X10_194 rfl ?_
  refine V_iconst (v := 1) dX10_finish_5 (by decide) ?_
  refine D_icmp_ne (tgt := 27) h dX10_finish_6 rfl (fun b1 h => ?_) (fun b1 h => ?_)
  · refine V_iconst (v := 0) dX10_finish_27 (by decide) ?_
    refine V_iconst (v := 1) dX10_finish_28 (by decide) ?_
    refine D_cVIW (As := [_, _]) (μ := fun W2 => (MEM b c W2 M)) h dX10_finish_29 cv_X10_201 rfl ⟨_, _, _, (mem_30 hc2), rfl, rfl⟩ rfl (Nat.le_of_ble_eq_true rfl) (fun x y hx => e_X10_check (Nat.le_trans (Nat.le_of_ble_eq_true rfl) hf) hc2 hx) fun v3 W2 h => ?_
    refine V_pop dX10_finish_32 rfl ?_
    refine V_aload_n (i := 0) dX10_finish_33 rfl rfl ?_
    refine D_cVU (As := []) (μ := fun W4 => (MEM b c W4 M)) h dX10_finish_34 cv_X10_204 rfl ⟨_, _, _, (mem_30 hc2), rfl, rfl⟩ rfl (Nat.le_of_ble_eq_true rfl) (fun y hx => e_X10_next (Nat.le_trans (Nat.le_of_ble_eq_true rfl) hf) hc2 hx) fun W4 h => ?_
    obtain rfl := Option.some.inj h
    exact V_return dX10_finish_37 rfl ⟨rfl, rfl, rfl⟩
  · refine V_aload_n (i := 0) dX10_finish_9 rfl rfl ?_
    refine V_getfield dX10_finish_10 (mem_30 hc2) fl_X10_32 rfl ?_
    refine V_aload_n (i := 0) dX10_finish_13 rfl rfl ?_
    refine V_getfield dX10_finish_14 (mem_30 hc2) fl_X10_185 rfl ?_
    refine D3_ild h (mem_28 hc2) dX10_finish_17 fun h => ?_
    refine V_bipush (v := 59) dX10_finish_18 (by decide) ?_
    refine D_icmp_ne (tgt := 27) h dX10_finish_20 rfl (fun b5 h => ?_) (fun b5 h => ?_)
    · refine V_iconst (v := 0) dX10_finish_27 (by decide) ?_
      refine V_iconst (v := 1) dX10_finish_28 (by decide) ?_
      refine D_cVIW (As := [_, _]) (μ := fun W6 => (MEM b c W6 M)) h dX10_finish_29 cv_X10_201 rfl ⟨_, _, _, (mem_30 hc2), rfl, rfl⟩ rfl (Nat.le_of_ble_eq_true rfl) (fun x y hx => e_X10_check (Nat.le_trans (Nat.le_of_ble_eq_true rfl) hf) hc2 hx) fun v7 W6 h => ?_
      refine V_pop dX10_finish_32 rfl ?_
      refine V_aload_n (i := 0) dX10_finish_33 rfl rfl ?_
      refine D_cVU (As := []) (μ := fun W8 => (MEM b c W8 M)) h dX10_finish_34 cv_X10_204 rfl ⟨_, _, _, (mem_30 hc2), rfl, rfl⟩ rfl (Nat.le_of_ble_eq_true rfl) (fun y hx => e_X10_next (Nat.le_trans (Nat.le_of_ble_eq_true rfl) hf) hc2 hx) fun W8 h => ?_
      obtain rfl := Option.some.inj h
      exact V_return dX10_finish_37 rfl ⟨rfl, rfl, rfl⟩
    · refine V_iconst (v := 1) dX10_finish_23 (by decide) ?_
      refine V_goto (tgt := 28) dX10_finish_24 rfl ?_
      refine V_iconst (v := 1) dX10_finish_28 (by decide) ?_
      refine D_cVIW (As := [_, _]) (μ := fun W9 => (MEM b c W9 M)) h dX10_finish_29 cv_X10_201 rfl ⟨_, _, _, (mem_30 hc2), rfl, rfl⟩ rfl (Nat.le_of_ble_eq_true rfl) (fun x y hx => e_X10_check (Nat.le_trans (Nat.le_of_ble_eq_true rfl) hf) hc2 hx) fun v10 W9 h => ?_
      refine V_pop dX10_finish_32 rfl ?_
      refine V_aload_n (i := 0) dX10_finish_33 rfl rfl ?_
      refine D_cVU (As := []) (μ := fun W11 => (MEM b c W11 M)) h dX10_finish_34 cv_X10_204 rfl ⟨_, _, _, (mem_30 hc2), rfl, rfl⟩ rfl (Nat.le_of_ble_eq_true rfl) (fun y hx => e_X10_next (Nat.le_trans (Nat.le_of_ble_eq_true rfl) hf) hc2 hx) fun W11 h => ?_
      obtain rfl := Option.some.inj h
      exact V_return dX10_finish_37 rfl ⟨rfl, rfl, rfl⟩
noncomputable def f_X10_inspectionTime (W : Nat → Nat → Int32) (a1 : Int32) : Option (Int32 × (Nat → Nat → Int32)) :=
  bd2 (f_X10_noStation W a1) (fun v2 W1 => if v2 = 0 then bdc (f_X10_ofStation a1) (fun v4 => gd (inr (v4 + (2 : Int32)) 251) (some (W1 21 (ix (v4 + (2 : Int32))), W1))) else some ((0 : Int32), W1))
theorem e_X10_inspectionTime {G : GT} {f0 : Nat} {b c : Nat} {M : MM} {hi k n : Nat} {W : Nat → Nat → Int32} {a1 : Int32} {r : (Int32 × (Nat → Nat → Int32))} (hf0 : 4 ≤ f0) (hc2 : 619 ≤ c) (h : f_X10_inspectionTime W a1 = some r) : Ex G f0 mX10_inspectionTime [.ref (b + 609), .int a1] (MEM b c W M) hi k n (RH (.inl (some (.int r.1))) (MEM b c r.2 M) hi) := by
  obtain ⟨f, rfl, hf⟩ := suc_of hf0
  unfold f_X10_inspectionTime at h
  refine ⟨Nat.le_of_ble_eq_true rfl, ?_⟩
  refine V_aload_n (i := 0) dX10_inspectionTime_0 rfl rfl ?_
  refine V_iload_n (i := 1) dX10_inspectionTime_1 rfl rfl ?_
  refine D_cVIW (As := [_]) (μ := fun W1 => (MEM b c W1 M)) h dX10_inspectionTime_2 cv_X10_286 rfl ⟨_, _, _, (mem_30 hc2), rfl, rfl⟩ rfl (Nat.le_of_ble_eq_true rfl) (fun x y hx => e_X10_noStation (Nat.le_trans (Nat.le_of_ble_eq_true rfl) hf) hc2 hx) fun v2 W1 h => ?_
  refine D_if_eq (tgt := 12) h dX10_inspectionTime_5 rfl (fun b3 h => ?_) (fun b3 h => ?_)
  · refine V_aload_n (i := 0) dX10_inspectionTime_12 rfl rfl ?_
    refine V_getfield dX10_inspectionTime_13 (mem_30 hc2) fl_X10_7 rfl ?_
    refine V_iload_n (i := 1) dX10_inspectionTime_16 rfl rfl ?_
    refine D_cSI (As := [_]) h dX10_inspectionTime_17 cs_X10_134 rfl rfl (Nat.le_of_ble_eq_true rfl) (fun x hx => e_X10_ofStation (Nat.le_trans (Nat.le_of_ble_eq_true rfl) hf) hx) fun v4 h => ?_
    refine V_iconst (v := 2) dX10_inspectionTime_20 (by decide) ?_
    refine V_iadd dX10_inspectionTime_21 ?_
    refine D3_ild h (mem_21 hc2) dX10_inspectionTime_22 fun h => ?_
    obtain rfl := Option.some.inj h
    exact V_ireturn dX10_inspectionTime_23 ⟨_, rfl, rfl⟩ ⟨rfl, rfl, rfl⟩
  · refine V_iconst (v := 0) dX10_inspectionTime_8 (by decide) ?_
    refine V_goto (tgt := 23) dX10_inspectionTime_9 rfl ?_
    obtain rfl := Option.some.inj h
    exact V_ireturn dX10_inspectionTime_23 ⟨_, rfl, rfl⟩ ⟨rfl, rfl, rfl⟩
noncomputable def l_X10_is_23 (W : Nat → Nat → Int32) (c1 : Nat) : Nat → Int32 → Option Int32
  | 0, _ => none
  | N + 1, x2 => if (W 30 8) ≤ x2 then some (1 : Int32) else gd (inr ((W 30 5) + x2) 600) (gd (inr x2 (lenS c1)) (if (W 28 (ix ((W 30 5) + x2))) = (chS c1 (ix x2)) then l_X10_is_23 W c1 N (x2 + (1 : Int32)) else some (0 : Int32)))
theorem lv_X10_is_23 {G : GT} {f : Nat} {b c : Nat} {M : MM} {hi k n : Nat} {W : Nat → Nat → Int32} {c1 : Nat} {r : Int32} (hf : 4 ≤ f) (hc2 : 619 ≤ c) (u1 : c1 < nSTR) : ∀ (N : Nat) (x2 : Int32) , l_X10_is_23 W c1 N x2 = some r → V G f (Ex G f) mX10_is (RH (.inl (some (.int r))) (MEM b c W M) hi) 23 [(0, .ref (b + 609)), (1, .ref (G.2.2.2.1 c1)), (2, .int x2)] [] (MEM b c W M) hi k n := by
  intro N
  induction N with
  | zero => intro x2 h; cases h
  | succ N ih =>
    intro x2 h
    rw [l_X10_is_23] at h
    refine V_iload_n (i := 2) dX10_is_23 rfl rfl ?_
    refine V_aload_n (i := 0) dX10_is_24 rfl rfl ?_
    refine V_getfield dX10_is_25 (mem_30 hc2) fl_X10_188 rfl ?_
    refine D_icmp_ge (tgt := 58) h dX10_is_28 rfl (fun b3 h => ?_) (fun b3 h => ?_)
    · refine V_iconst (v := 1) dX10_is_58 (by decide) ?_
      obtain rfl := Option.some.inj h
      exact V_ireturn dX10_is_59 ⟨_, rfl, rfl⟩ ⟨rfl, rfl, rfl⟩
    · refine V_aload_n (i := 0) dX10_is_31 rfl rfl ?_
      refine V_getfield dX10_is_32 (mem_30 hc2) fl_X10_32 rfl ?_
      refine V_aload_n (i := 0) dX10_is_35 rfl rfl ?_
      refine V_getfield dX10_is_36 (mem_30 hc2) fl_X10_185 rfl ?_
      refine V_iload_n (i := 2) dX10_is_39 rfl rfl ?_
      refine V_iadd dX10_is_40 ?_
      refine D3_ild h (mem_28 hc2) dX10_is_41 fun h => ?_
      refine V_aload_n (i := 1) dX10_is_42 rfl rfl ?_
      refine V_iload_n (i := 2) dX10_is_43 rfl rfl ?_
      refine D_schar h dX10_is_44 cv_X10_65 u1 (Nat.le_of_ble_eq_true rfl) (Nat.le_trans (Nat.le_of_ble_eq_true rfl) hf) fun h => ?_
      refine D_icmp_eq (tgt := 52) h dX10_is_47 rfl (fun b4 h => ?_) (fun b4 h => ?_)
      · refine D_iinc (i := 2) (w := 1) dX10_is_52 rfl (by decide) (Nat.le_of_ble_eq_true rfl) ?_
        refine V_goto (tgt := 23) dX10_is_55 rfl ?_
        exact V_sub (ks := [1, 2, 0]) rfl (ih _ h)
      · refine V_iconst (v := 0) dX10_is_50 (by decide) ?_
        obtain rfl := Option.some.inj h
        exact V_ireturn dX10_is_51 ⟨_, rfl, rfl⟩ ⟨rfl, rfl, rfl⟩
noncomputable def f_X10_is (W : Nat → Nat → Int32) (j1 : Nat) : Option Int32 :=
  if (W 30 6) = (3 : Int32) then if (W 30 8) = (nI (lenS j1)) then l_X10_is_23 W j1 FU (0 : Int32) else some (0 : Int32) else some (0 : Int32)
theorem e_X10_is {G : GT} {f0 : Nat} {b c : Nat} {M : MM} {hi k n : Nat} {W : Nat → Nat → Int32} {j1 : Nat} {r : Int32} (hf0 : 5 ≤ f0) (hc2 : 619 ≤ c) (t1 : j1 < nSTR) (h : f_X10_is W j1 = some r) : Ex G f0 mX10_is [.ref (b + 609), .ref (G.2.2.2.1 j1)] (MEM b c W M) hi k n (RH (.inl (some (.int r))) (MEM b c W M) hi) := by
  obtain ⟨f, rfl, hf⟩ := suc_of hf0
  unfold f_X10_is at h
  refine ⟨Nat.le_of_ble_eq_true rfl, ?_⟩
  refine V_aload_n (i := 0) dX10_is_0 rfl rfl ?_
  refine V_getfield dX10_is_1 (mem_30 hc2) fl_X10_194 rfl ?_
  refine V_iconst (v := 3) dX10_is_4 (by decide) ?_
  refine D_icmp_ne (tgt := 19) h dX10_is_5 rfl (fun b1 h => ?_) (fun b1 h => ?_)
  · refine V_iconst (v := 0) dX10_is_19 (by decide) ?_
    obtain rfl := Option.some.inj h
    exact V_ireturn dX10_is_20 ⟨_, rfl, rfl⟩ ⟨rfl, rfl, rfl⟩
  · refine V_aload_n (i := 0) dX10_is_8 rfl rfl ?_
    refine V_getfield dX10_is_9 (mem_30 hc2) fl_X10_188 rfl ?_
    refine V_aload_n (i := 1) dX10_is_12 rfl rfl ?_
    refine D_slen dX10_is_13 cv_X10_59 t1 (Nat.le_of_ble_eq_true rfl) (Nat.le_trans (Nat.le_of_ble_eq_true rfl) hf) ?_
    refine D_icmp_eq (tgt := 21) h dX10_is_16 rfl (fun b2 h => ?_) (fun b2 h => ?_)
    · refine V_iconst (v := 0) dX10_is_21 (by decide) ?_
      refine V_istore_n (i := 2) dX10_is_22 rfl (Nat.le_of_ble_eq_true rfl) ?_
      refine V_sub (ks := [1, 2, 0]) rfl (lv_X10_is_23 hf hc2 t1 FU _ h)
    · refine V_iconst (v := 0) dX10_is_19 (by decide) ?_
      obtain rfl := Option.some.inj h
      exact V_ireturn dX10_is_20 ⟨_, rfl, rfl⟩ ⟨rfl, rfl, rfl⟩
noncomputable def f_X10_isForward (W : Nat → Nat → Int32) (a1 : Int32) : Option (Int32 × (Nat → Nat → Int32)) :=
  bd2 (f_X10_noTrain W a1) (fun v2 W1 => if v2 = 0 then bdc (f_X10_ofTrain a1) (fun v4 => gd (inr (v4 + (9 : Int32)) 251) (if (W1 21 (ix (v4 + (9 : Int32)))) = (1 : Int32) then some ((1 : Int32), W1) else some ((0 : Int32), W1))) else some ((0 : Int32), W1))
theorem e_X10_isForward {G : GT} {f0 : Nat} {b c : Nat} {M : MM} {hi k n : Nat} {W : Nat → Nat → Int32} {a1 : Int32} {r : (Int32 × (Nat → Nat → Int32))} (hf0 : 4 ≤ f0) (hc2 : 619 ≤ c) (h : f_X10_isForward W a1 = some r) : Ex G f0 mX10_isForward [.ref (b + 609), .int a1] (MEM b c W M) hi k n (RH (.inl (some (.int r.1))) (MEM b c r.2 M) hi) := by
  obtain ⟨f, rfl, hf⟩ := suc_of hf0
  unfold f_X10_isForward at h
  refine ⟨Nat.le_of_ble_eq_true rfl, ?_⟩
  refine V_aload_n (i := 0) dX10_isForward_0 rfl rfl ?_
  refine V_iload_n (i := 1) dX10_isForward_1 rfl rfl ?_
  refine D_cVIW (As := [_]) (μ := fun W1 => (MEM b c W1 M)) h dX10_isForward_2 cv_X10_300 rfl ⟨_, _, _, (mem_30 hc2), rfl, rfl⟩ rfl (Nat.le_of_ble_eq_true rfl) (fun x y hx => e_X10_noTrain (Nat.le_trans (Nat.le_of_ble_eq_true rfl) hf) hc2 hx) fun v2 W1 h => ?_
  refine D_if_ne (tgt := 28) h dX10_isForward_5 rfl (fun b3 h => ?_) (fun b3 h => ?_)
  · refine V_iconst (v := 0) dX10_isForward_28 (by decide) ?_
    obtain rfl := Option.some.inj h
    exact V_ireturn dX10_isForward_29 ⟨_, rfl, rfl⟩ ⟨rfl, rfl, rfl⟩
  · refine V_aload_n (i := 0) dX10_isForward_8 rfl rfl ?_
    refine V_getfield dX10_isForward_9 (mem_30 hc2) fl_X10_7 rfl ?_
    refine V_iload_n (i := 1) dX10_isForward_12 rfl rfl ?_
    refine D_cSI (As := [_]) h dX10_isForward_13 cs_X10_81 rfl rfl (Nat.le_of_ble_eq_true rfl) (fun x hx => e_X10_ofTrain (Nat.le_trans (Nat.le_of_ble_eq_true rfl) hf) hx) fun v4 h => ?_
    refine V_bipush (v := 9) dX10_isForward_16 (by decide) ?_
    refine V_iadd dX10_isForward_18 ?_
    refine D3_ild h (mem_21 hc2) dX10_isForward_19 fun h => ?_
    refine V_iconst (v := 1) dX10_isForward_20 (by decide) ?_
    refine D_icmp_ne (tgt := 28) h dX10_isForward_21 rfl (fun b5 h => ?_) (fun b5 h => ?_)
    · refine V_iconst (v := 0) dX10_isForward_28 (by decide) ?_
      obtain rfl := Option.some.inj h
      exact V_ireturn dX10_isForward_29 ⟨_, rfl, rfl⟩ ⟨rfl, rfl, rfl⟩
    · refine V_iconst (v := 1) dX10_isForward_24 (by decide) ?_
      refine V_goto (tgt := 29) dX10_isForward_25 rfl ?_
      obtain rfl := Option.some.inj h
      exact V_ireturn dX10_isForward_29 ⟨_, rfl, rfl⟩ ⟨rfl, rfl, rfl⟩
noncomputable def f_X10_isHeld (W : Nat → Nat → Int32) (a1 : Int32) : Option (Int32 × (Nat → Nat → Int32)) :=
  bd2 (f_X10_noParcel W a1) (fun v2 W1 => if v2 = 0 then bdc (f_X10_ofParcel a1) (fun v4 => gd (inr (v4 + (3 : Int32)) 251) (if (W1 21 (ix (v4 + (3 : Int32)))) = (-1 : Int32) then some ((0 : Int32), W1) else bdc (f_X10_isHeldNow (pk (W1 21) (W1 27)) a1) (fun v6 => if v6 = 0 then some ((0 : Int32), W1) else some ((1 : Int32), W1)))) else some ((0 : Int32), W1))
theorem e_X10_isHeld {G : GT} {f0 : Nat} {b c : Nat} {M : MM} {hi k n : Nat} {W : Nat → Nat → Int32} {a1 : Int32} {r : (Int32 × (Nat → Nat → Int32))} (hf0 : 4 ≤ f0) (hc2 : 619 ≤ c) (h : f_X10_isHeld W a1 = some r) : Ex G f0 mX10_isHeld [.ref (b + 609), .int a1] (MEM b c W M) hi k n (RH (.inl (some (.int r.1))) (MEM b c r.2 M) hi) := by
  obtain ⟨f, rfl, hf⟩ := suc_of hf0
  unfold f_X10_isHeld at h
  refine ⟨Nat.le_of_ble_eq_true rfl, ?_⟩
  refine V_aload_n (i := 0) dX10_isHeld_0 rfl rfl ?_
  refine V_iload_n (i := 1) dX10_isHeld_1 rfl rfl ?_
  refine D_cVIW (As := [_]) (μ := fun W1 => (MEM b c W1 M)) h dX10_isHeld_2 cv_X10_303 rfl ⟨_, _, _, (mem_30 hc2), rfl, rfl⟩ rfl (Nat.le_of_ble_eq_true rfl) (fun x y hx => e_X10_noParcel (Nat.le_trans (Nat.le_of_ble_eq_true rfl) hf) hc2 hx) fun v2 W1 h => ?_
  refine D_if_ne (tgt := 38) h dX10_isHeld_5 rfl (fun b3 h => ?_) (fun b3 h => ?_)
  · refine V_iconst (v := 0) dX10_isHeld_38 (by decide) ?_
    obtain rfl := Option.some.inj h
    exact V_ireturn dX10_isHeld_39 ⟨_, rfl, rfl⟩ ⟨rfl, rfl, rfl⟩
  · refine V_aload_n (i := 0) dX10_isHeld_8 rfl rfl ?_
    refine V_getfield dX10_isHeld_9 (mem_30 hc2) fl_X10_7 rfl ?_
    refine V_iload_n (i := 1) dX10_isHeld_12 rfl rfl ?_
    refine D_cSI (As := [_]) h dX10_isHeld_13 cs_X10_88 rfl rfl (Nat.le_of_ble_eq_true rfl) (fun x hx => e_X10_ofParcel (Nat.le_trans (Nat.le_of_ble_eq_true rfl) hf) hx) fun v4 h => ?_
    refine V_iconst (v := 3) dX10_isHeld_16 (by decide) ?_
    refine V_iadd dX10_isHeld_17 ?_
    refine D3_ild h (mem_21 hc2) dX10_isHeld_18 fun h => ?_
    refine V_iconst (v := -1) dX10_isHeld_19 (by decide) ?_
    refine D_icmp_eq (tgt := 38) h dX10_isHeld_20 rfl (fun b5 h => ?_) (fun b5 h => ?_)
    · refine V_iconst (v := 0) dX10_isHeld_38 (by decide) ?_
      obtain rfl := Option.some.inj h
      exact V_ireturn dX10_isHeld_39 ⟨_, rfl, rfl⟩ ⟨rfl, rfl, rfl⟩
    · refine V_aload_n (i := 0) dX10_isHeld_23 rfl rfl ?_
      refine V_getfield dX10_isHeld_24 (mem_30 hc2) fl_X10_7 rfl ?_
      refine V_iload_n (i := 1) dX10_isHeld_27 rfl rfl ?_
      refine D_cSI (As := [_, _]) h dX10_isHeld_28 cs_X10_109 rfl rfl (Nat.le_of_ble_eq_true rfl) (fun x hx => liftq0 (u := 21) hc2 ⟨by decide, by decide⟩ rfl (e_X10_isHeldNow (Nat.le_trans (Nat.le_of_ble_eq_true rfl) hf) hx)) fun v6 h => ?_
      refine D_if_eq (tgt := 38) h dX10_isHeld_31 rfl (fun b7 h => ?_) (fun b7 h => ?_)
      · refine V_iconst (v := 0) dX10_isHeld_38 (by decide) ?_
        obtain rfl := Option.some.inj h
        exact V_ireturn dX10_isHeld_39 ⟨_, rfl, rfl⟩ ⟨rfl, rfl, rfl⟩
      · refine V_iconst (v := 1) dX10_isHeld_34 (by decide) ?_
        refine V_goto (tgt := 39) dX10_isHeld_35 rfl ?_
        obtain rfl := Option.some.inj h
        exact V_ireturn dX10_isHeld_39 ⟨_, rfl, rfl⟩ ⟨rfl, rfl, rfl⟩
noncomputable def f_X10_isRequestStop (W : Nat → Nat → Int32) (a1 : Int32) : Option (Int32 × (Nat → Nat → Int32)) :=
  bd2 (f_X10_noStation W a1) (fun v2 W1 => if v2 = 0 then bdc (f_X10_ofStation a1) (fun v4 => gd (inr (v4 + (1 : Int32)) 251) (if (W1 21 (ix (v4 + (1 : Int32)))) = (1 : Int32) then some ((1 : Int32), W1) else some ((0 : Int32), W1))) else some ((0 : Int32), W1))
theorem e_X10_isRequestStop {G : GT} {f0 : Nat} {b c : Nat} {M : MM} {hi k n : Nat} {W : Nat → Nat → Int32} {a1 : Int32} {r : (Int32 × (Nat → Nat → Int32))} (hf0 : 4 ≤ f0) (hc2 : 619 ≤ c) (h : f_X10_isRequestStop W a1 = some r) : Ex G f0 mX10_isRequestStop [.ref (b + 609), .int a1] (MEM b c W M) hi k n (RH (.inl (some (.int r.1))) (MEM b c r.2 M) hi) := by
  obtain ⟨f, rfl, hf⟩ := suc_of hf0
  unfold f_X10_isRequestStop at h
  refine ⟨Nat.le_of_ble_eq_true rfl, ?_⟩
  refine V_aload_n (i := 0) dX10_isRequestStop_0 rfl rfl ?_
  refine V_iload_n (i := 1) dX10_isRequestStop_1 rfl rfl ?_
  refine D_cVIW (As := [_]) (μ := fun W1 => (MEM b c W1 M)) h dX10_isRequestStop_2 cv_X10_286 rfl ⟨_, _, _, (mem_30 hc2), rfl, rfl⟩ rfl (Nat.le_of_ble_eq_true rfl) (fun x y hx => e_X10_noStation (Nat.le_trans (Nat.le_of_ble_eq_true rfl) hf) hc2 hx) fun v2 W1 h => ?_
  refine D_if_ne (tgt := 27) h dX10_isRequestStop_5 rfl (fun b3 h => ?_) (fun b3 h => ?_)
  · refine V_iconst (v := 0) dX10_isRequestStop_27 (by decide) ?_
    obtain rfl := Option.some.inj h
    exact V_ireturn dX10_isRequestStop_28 ⟨_, rfl, rfl⟩ ⟨rfl, rfl, rfl⟩
  · refine V_aload_n (i := 0) dX10_isRequestStop_8 rfl rfl ?_
    refine V_getfield dX10_isRequestStop_9 (mem_30 hc2) fl_X10_7 rfl ?_
    refine V_iload_n (i := 1) dX10_isRequestStop_12 rfl rfl ?_
    refine D_cSI (As := [_]) h dX10_isRequestStop_13 cs_X10_134 rfl rfl (Nat.le_of_ble_eq_true rfl) (fun x hx => e_X10_ofStation (Nat.le_trans (Nat.le_of_ble_eq_true rfl) hf) hx) fun v4 h => ?_
    refine V_iconst (v := 1) dX10_isRequestStop_16 (by decide) ?_
    refine V_iadd dX10_isRequestStop_17 ?_
    refine D3_ild h (mem_21 hc2) dX10_isRequestStop_18 fun h => ?_
    refine V_iconst (v := 1) dX10_isRequestStop_19 (by decide) ?_
    refine D_icmp_ne (tgt := 27) h dX10_isRequestStop_20 rfl (fun b5 h => ?_) (fun b5 h => ?_)
    · refine V_iconst (v := 0) dX10_isRequestStop_27 (by decide) ?_
      obtain rfl := Option.some.inj h
      exact V_ireturn dX10_isRequestStop_28 ⟨_, rfl, rfl⟩ ⟨rfl, rfl, rfl⟩
    · refine V_iconst (v := 1) dX10_isRequestStop_23 (by decide) ?_
      refine V_goto (tgt := 28) dX10_isRequestStop_24 rfl ?_
      obtain rfl := Option.some.inj h
      exact V_ireturn dX10_isRequestStop_28 ⟨_, rfl, rfl⟩ ⟨rfl, rfl, rfl⟩
noncomputable def f_X10_isTrackOpen (W : Nat → Nat → Int32) (a1 : Int32) (a2 : Int32) : Option (Int32 × (Nat → Nat → Int32)) :=
  bd2 (f_X10_noStations W a1 a2) (fun v2 W1 => if v2 = 0 then bdc (f_X10_between (pk (W1 21) (W1 27)) a1 a2) (fun v4 => bdc (f_X10_isOpen (pk (W1 21) (W1 27)) v4) (fun v5 => if v5 = 0 then some ((0 : Int32), W1) else some ((1 : Int32), W1))) else some ((0 : Int32), W1))
theorem e_X10_isTrackOpen {G : GT} {f0 : Nat} {b c : Nat} {M : MM} {hi k n : Nat} {W : Nat → Nat → Int32} {a1 : Int32} {a2 : Int32} {r : (Int32 × (Nat → Nat → Int32))} (hf0 : 5 ≤ f0) (hc2 : 619 ≤ c) (h : f_X10_isTrackOpen W a1 a2 = some r) : Ex G f0 mX10_isTrackOpen [.ref (b + 609), .int a1, .int a2] (MEM b c W M) hi k n (RH (.inl (some (.int r.1))) (MEM b c r.2 M) hi) := by
  obtain ⟨f, rfl, hf⟩ := suc_of hf0
  unfold f_X10_isTrackOpen at h
  refine ⟨Nat.le_of_ble_eq_true rfl, ?_⟩
  refine V_aload_n (i := 0) dX10_isTrackOpen_0 rfl rfl ?_
  refine V_iload_n (i := 1) dX10_isTrackOpen_1 rfl rfl ?_
  refine V_iload_n (i := 2) dX10_isTrackOpen_2 rfl rfl ?_
  refine D_cVIW (As := [_, _]) (μ := fun W1 => (MEM b c W1 M)) h dX10_isTrackOpen_3 cv_X10_296 rfl ⟨_, _, _, (mem_30 hc2), rfl, rfl⟩ rfl (Nat.le_of_ble_eq_true rfl) (fun x y hx => e_X10_noStations (Nat.le_trans (Nat.le_of_ble_eq_true rfl) hf) hc2 hx) fun v2 W1 h => ?_
  refine D_if_ne (tgt := 32) h dX10_isTrackOpen_6 rfl (fun b3 h => ?_) (fun b3 h => ?_)
  · refine V_iconst (v := 0) dX10_isTrackOpen_32 (by decide) ?_
    obtain rfl := Option.some.inj h
    exact V_ireturn dX10_isTrackOpen_33 ⟨_, rfl, rfl⟩ ⟨rfl, rfl, rfl⟩
  · refine V_aload_n (i := 0) dX10_isTrackOpen_9 rfl rfl ?_
    refine V_getfield dX10_isTrackOpen_10 (mem_30 hc2) fl_X10_7 rfl ?_
    refine V_aload_n (i := 0) dX10_isTrackOpen_13 rfl rfl ?_
    refine V_getfield dX10_isTrackOpen_14 (mem_30 hc2) fl_X10_7 rfl ?_
    refine V_iload_n (i := 1) dX10_isTrackOpen_17 rfl rfl ?_
    refine V_iload_n (i := 2) dX10_isTrackOpen_18 rfl rfl ?_
    refine D_cSI (As := [_, _, _]) h dX10_isTrackOpen_19 cs_X10_128 rfl rfl (Nat.le_of_ble_eq_true rfl) (fun x hx => liftq0 (u := 21) hc2 ⟨by decide, by decide⟩ rfl (e_X10_between (Nat.le_trans (Nat.le_of_ble_eq_true rfl) hf) hx)) fun v4 h => ?_
    refine D_cSI (As := [_, _]) h dX10_isTrackOpen_22 cs_X10_131 rfl rfl (Nat.le_of_ble_eq_true rfl) (fun x hx => liftq0 (u := 21) hc2 ⟨by decide, by decide⟩ rfl (e_X10_isOpen (Nat.le_trans (Nat.le_of_ble_eq_true rfl) hf) hx)) fun v5 h => ?_
    refine D_if_eq (tgt := 32) h dX10_isTrackOpen_25 rfl (fun b6 h => ?_) (fun b6 h => ?_)
    · refine V_iconst (v := 0) dX10_isTrackOpen_32 (by decide) ?_
      obtain rfl := Option.some.inj h
      exact V_ireturn dX10_isTrackOpen_33 ⟨_, rfl, rfl⟩ ⟨rfl, rfl, rfl⟩
    · refine V_iconst (v := 1) dX10_isTrackOpen_28 (by decide) ?_
      refine V_goto (tgt := 33) dX10_isTrackOpen_29 rfl ?_
      obtain rfl := Option.some.inj h
      exact V_ireturn dX10_isTrackOpen_33 ⟨_, rfl, rfl⟩ ⟨rfl, rfl, rfl⟩
noncomputable def f_X10_lay (W : Nat → Nat → Int32) (a1 : Int32) (a2 : Int32) : Option (Int32 × (Nat → Nat → Int32)) :=
  bdc (f_X10_remember W) (fun W1 => gd (inr a1 251) (bnd (W1 21 (ix a1)) (fun v2 => gd (inr a1 251) (bnd (w2 W1 21 (ix a1) a2) (fun W3 => some (v2, W3))))))
theorem e_X10_lay {G : GT} {f0 : Nat} {b c : Nat} {M : MM} {hi k n : Nat} {W : Nat → Nat → Int32} {a1 : Int32} {a2 : Int32} {r : (Int32 × (Nat → Nat → Int32))} (hf0 : 3 ≤ f0) (hc2 : 619 ≤ c) (h : f_X10_lay W a1 a2 = some r) : Ex G f0 mX10_lay [.ref (b + 609), .int a1, .int a2] (MEM b c W M) hi k n (RH (.inl (some (.int r.1))) (MEM b c r.2 M) hi) := by
  obtain ⟨f, rfl, hf⟩ := suc_of hf0
  unfold f_X10_lay at h
  refine ⟨Nat.le_of_ble_eq_true rfl, ?_⟩
  refine V_aload_n (i := 0) dX10_lay_0 rfl rfl ?_
  refine D_cVU (As := []) (μ := fun W1 => (MEM b c W1 M)) h dX10_lay_1 cv_X10_277 rfl ⟨_, _, _, (mem_30 hc2), rfl, rfl⟩ rfl (Nat.le_of_ble_eq_true rfl) (fun y hx => e_X10_remember (Nat.le_trans (Nat.le_of_ble_eq_true rfl) hf) hc2 hx) fun W1 h => ?_
  refine V_aload_n (i := 0) dX10_lay_4 rfl rfl ?_
  refine V_getfield dX10_lay_5 (mem_30 hc2) fl_X10_7 rfl ?_
  refine V_iload_n (i := 1) dX10_lay_8 rfl rfl ?_
  refine D3_ild h (mem_21 hc2) dX10_lay_9 fun h => ?_
  refine D_istore_n (i := 3) h dX10_lay_10 rfl (Nat.le_of_ble_eq_true rfl) fun v2 h => ?_
  refine V_aload_n (i := 0) dX10_lay_11 rfl rfl ?_
  refine V_getfield dX10_lay_12 (mem_30 hc2) fl_X10_7 rfl ?_
  refine V_iload_n (i := 1) dX10_lay_15 rfl rfl ?_
  refine V_iload_n (i := 2) dX10_lay_16 rfl rfl ?_
  refine D3_ist (u := 21) h (mem_21 hc2) (pst_21 hc2) dX10_lay_17 fun W3 h => ?_
  refine V_iload_n (i := 3) dX10_lay_18 rfl rfl ?_
  obtain rfl := Option.some.inj h
  exact V_ireturn dX10_lay_19 ⟨_, rfl, rfl⟩ ⟨rfl, rfl, rfl⟩
noncomputable def l_X10_layInput_2 (c1 : Nat) : Nat → (Nat → Nat → Int32) → Int32 → Option (Nat → Nat → Int32)
  | 0, _, _ => none
  | N + 1, W, x2 => if (nI (lenS c1)) ≤ x2 then bnd (w2 W 30 3 (nI (lenS c1))) (fun W2 => some W2) else gd (inr x2 (lenS c1)) (gd (inr x2 600) (bnd (w2 W 28 (ix x2) (chS c1 (ix x2))) (fun W3 => l_X10_layInput_2 c1 N W3 (x2 + (1 : Int32)))))
theorem lv_X10_layInput_2 {G : GT} {f : Nat} {b c : Nat} {M : MM} {hi k n : Nat} {c1 : Nat} {r : (Nat → Nat → Int32)} (hf : 4 ≤ f) (hc2 : 619 ≤ c) (u1 : c1 < nSTR) : ∀ (N : Nat) (W : Nat → Nat → Int32) (x2 : Int32) , l_X10_layInput_2 c1 N W x2 = some r → V G f (Ex G f) mX10_layInput (RH (.inl none) (MEM b c r M) hi) 2 [(0, .ref (b + 609)), (1, .ref (G.2.2.2.1 c1)), (2, .int x2)] [] (MEM b c W M) hi k n := by
  intro N
  induction N with
  | zero => intro W x2 h; cases h
  | succ N ih =>
    intro W x2 h
    rw [l_X10_layInput_2] at h
    refine V_iload_n (i := 2) dX10_layInput_2 rfl rfl ?_
    refine V_aload_n (i := 1) dX10_layInput_3 rfl rfl ?_
    refine D_slen dX10_layInput_4 cv_X10_59 u1 (Nat.le_of_ble_eq_true rfl) (Nat.le_trans (Nat.le_of_ble_eq_true rfl) hf) ?_
    refine D_icmp_ge (tgt := 27) h dX10_layInput_7 rfl (fun b1 h => ?_) (fun b1 h => ?_)
    · refine V_aload_n (i := 0) dX10_layInput_27 rfl rfl ?_
      refine V_aload_n (i := 1) dX10_layInput_28 rfl rfl ?_
      refine D_slen dX10_layInput_29 cv_X10_59 u1 (Nat.le_of_ble_eq_true rfl) (Nat.le_trans (Nat.le_of_ble_eq_true rfl) hf) ?_
      refine D3_put h dX10_layInput_32 (mem_30 hc2) (fp_X10_52 rfl) (Nat.le_of_ble_eq_true rfl) (psc_30_3 hc2) fun W2 h => ?_
      obtain rfl := Option.some.inj h
      exact V_return dX10_layInput_35 rfl ⟨rfl, rfl, rfl⟩
    · refine V_aload_n (i := 0) dX10_layInput_10 rfl rfl ?_
      refine V_getfield dX10_layInput_11 (mem_30 hc2) fl_X10_32 rfl ?_
      refine V_iload_n (i := 2) dX10_layInput_14 rfl rfl ?_
      refine V_aload_n (i := 1) dX10_layInput_15 rfl rfl ?_
      refine V_iload_n (i := 2) dX10_layInput_16 rfl rfl ?_
      refine D_schar h dX10_layInput_17 cv_X10_65 u1 (Nat.le_of_ble_eq_true rfl) (Nat.le_trans (Nat.le_of_ble_eq_true rfl) hf) fun h => ?_
      refine D3_ist (u := 28) h (mem_28 hc2) (pst_28 hc2) dX10_layInput_20 fun W3 h => ?_
      refine D_iinc (i := 2) (w := 1) dX10_layInput_21 rfl (by decide) (Nat.le_of_ble_eq_true rfl) ?_
      refine V_goto (tgt := 2) dX10_layInput_24 rfl ?_
      exact V_sub (ks := [1, 2, 0]) rfl (ih _ _ h)
noncomputable def f_X10_layInput (W : Nat → Nat → Int32) (j1 : Nat) : Option (Nat → Nat → Int32) :=
  l_X10_layInput_2 j1 FU W (0 : Int32)
theorem e_X10_layInput {G : GT} {f0 : Nat} {b c : Nat} {M : MM} {hi k n : Nat} {W : Nat → Nat → Int32} {j1 : Nat} {r : (Nat → Nat → Int32)} (hf0 : 5 ≤ f0) (hc2 : 619 ≤ c) (t1 : j1 < nSTR) (h : f_X10_layInput W j1 = some r) : Ex G f0 mX10_layInput [.ref (b + 609), .ref (G.2.2.2.1 j1)] (MEM b c W M) hi k n (RH (.inl none) (MEM b c r M) hi) := by
  obtain ⟨f, rfl, hf⟩ := suc_of hf0
  unfold f_X10_layInput at h
  refine ⟨Nat.le_of_ble_eq_true rfl, ?_⟩
  refine V_iconst (v := 0) dX10_layInput_0 (by decide) ?_
  refine V_istore_n (i := 2) dX10_layInput_1 rfl (Nat.le_of_ble_eq_true rfl) ?_
  refine V_sub (ks := [1, 2, 0]) rfl (lv_X10_layInput_2 hf hc2 t1 FU _ _ h)
noncomputable def l_X10_nameHere_4 (W : Nat → Nat → Int32) : Nat → Int32 → Int32 → Option Int32
  | 0, _, _ => none
  | N + 1, x1, x2 => if (4 : Int32) ≤ x2 then some x1 else if (W 30 8) ≤ x2 then bnd ((x1 * (27 : Int32)) + (0 : Int32)) (fun v3 => l_X10_nameHere_4 W N v3 (x2 + (1 : Int32))) else gd (inr ((W 30 5) + x2) 600) (bnd ((x1 * (27 : Int32)) + ((W 28 (ix ((W 30 5) + x2))) - (96 : Int32))) (fun v4 => l_X10_nameHere_4 W N v4 (x2 + (1 : Int32))))
theorem lv_X10_nameHere_4 {G : GT} {f : Nat} {b c : Nat} {M : MM} {hi k n : Nat} {W : Nat → Nat → Int32} {r : Int32} (hf : 0 ≤ f) (hc2 : 619 ≤ c) : ∀ (N : Nat) (x1 : Int32) (x2 : Int32) , l_X10_nameHere_4 W N x1 x2 = some r → V G f (Ex G f) mX10_nameHere (RH (.inl (some (.int r))) (MEM b c W M) hi) 4 [(0, .ref (b + 609)), (1, .int x1), (2, .int x2)] [] (MEM b c W M) hi k n := by
  intro N
  induction N with
  | zero => intro x1 x2 h; cases h
  | succ N ih =>
    intro x1 x2 h
    rw [l_X10_nameHere_4] at h
    refine V_iload_n (i := 2) dX10_nameHere_4 rfl rfl ?_
    refine V_iconst (v := 4) dX10_nameHere_5 (by decide) ?_
    refine D_icmp_ge (tgt := 47) h dX10_nameHere_6 rfl (fun b1 h => ?_) (fun b1 h => ?_)
    · refine V_iload_n (i := 1) dX10_nameHere_47 rfl rfl ?_
      obtain rfl := Option.some.inj h
      exact V_ireturn dX10_nameHere_48 ⟨_, rfl, rfl⟩ ⟨rfl, rfl, rfl⟩
    · refine V_iload_n (i := 1) dX10_nameHere_9 rfl rfl ?_
      refine V_bipush (v := 27) dX10_nameHere_10 (by decide) ?_
      refine V_imul dX10_nameHere_12 ?_
      refine V_iload_n (i := 2) dX10_nameHere_13 rfl rfl ?_
      refine V_aload_n (i := 0) dX10_nameHere_14 rfl rfl ?_
      refine V_getfield dX10_nameHere_15 (mem_30 hc2) fl_X10_188 rfl ?_
      refine D_icmp_ge (tgt := 38) h dX10_nameHere_18 rfl (fun b2 h => ?_) (fun b2 h => ?_)
      · refine V_iconst (v := 0) dX10_nameHere_38 (by decide) ?_
        refine V_iadd dX10_nameHere_39 ?_
        refine D_istore_n (i := 1) h dX10_nameHere_40 rfl (Nat.le_of_ble_eq_true rfl) fun v3 h => ?_
        refine D_iinc (i := 2) (w := 1) dX10_nameHere_41 rfl (by decide) (Nat.le_of_ble_eq_true rfl) ?_
        refine V_goto (tgt := 4) dX10_nameHere_44 rfl ?_
        exact V_sub (ks := [2, 1, 0]) rfl (ih _ _ h)
      · refine V_aload_n (i := 0) dX10_nameHere_21 rfl rfl ?_
        refine V_getfield dX10_nameHere_22 (mem_30 hc2) fl_X10_32 rfl ?_
        refine V_aload_n (i := 0) dX10_nameHere_25 rfl rfl ?_
        refine V_getfield dX10_nameHere_26 (mem_30 hc2) fl_X10_185 rfl ?_
        refine V_iload_n (i := 2) dX10_nameHere_29 rfl rfl ?_
        refine V_iadd dX10_nameHere_30 ?_
        refine D3_ild h (mem_28 hc2) dX10_nameHere_31 fun h => ?_
        refine V_bipush (v := 96) dX10_nameHere_32 (by decide) ?_
        refine V_isub dX10_nameHere_34 ?_
        refine V_goto (tgt := 39) dX10_nameHere_35 rfl ?_
        refine V_iadd dX10_nameHere_39 ?_
        refine D_istore_n (i := 1) h dX10_nameHere_40 rfl (Nat.le_of_ble_eq_true rfl) fun v4 h => ?_
        refine D_iinc (i := 2) (w := 1) dX10_nameHere_41 rfl (by decide) (Nat.le_of_ble_eq_true rfl) ?_
        refine V_goto (tgt := 4) dX10_nameHere_44 rfl ?_
        exact V_sub (ks := [2, 1, 0]) rfl (ih _ _ h)
noncomputable def f_X10_nameHere (W : Nat → Nat → Int32) : Option Int32 :=
  l_X10_nameHere_4 W FU (0 : Int32) (0 : Int32)
theorem e_X10_nameHere {G : GT} {f0 : Nat} {b c : Nat} {M : MM} {hi k n : Nat} {W : Nat → Nat → Int32} {r : Int32} (hf0 : 1 ≤ f0) (hc2 : 619 ≤ c) (h : f_X10_nameHere W = some r) : Ex G f0 mX10_nameHere [.ref (b + 609)] (MEM b c W M) hi k n (RH (.inl (some (.int r))) (MEM b c W M) hi) := by
  obtain ⟨f, rfl, hf⟩ := suc_of hf0
  unfold f_X10_nameHere at h
  refine ⟨Nat.le_of_ble_eq_true rfl, ?_⟩
  refine V_iconst (v := 0) dX10_nameHere_0 (by decide) ?_
  refine V_istore_n (i := 1) dX10_nameHere_1 rfl (Nat.le_of_ble_eq_true rfl) ?_
  refine V_iconst (v := 0) dX10_nameHere_2 (by decide) ?_
  refine V_istore_n (i := 2) dX10_nameHere_3 rfl (Nat.le_of_ble_eq_true rfl) ?_
  refine V_sub (ks := [2, 1, 0]) rfl (lv_X10_nameHere_4 hf hc2 FU _ _ h)
noncomputable def l_X10_named_19 (W : Nat → Nat → Int32) (c1 : Int32) : Nat → Int32 → Option Int32
  | 0, _ => none
  | N + 1, x2 => gd (inr (1 : Int32) 251) (if (W 22 (ix (1 : Int32))) ≤ x2 then some (-1 : Int32) else bdc (f_X10_ofStation x2) (fun v6 => gd (inr (v6 + (0 : Int32)) 251) (if (W 22 (ix (v6 + (0 : Int32)))) = c1 then some x2 else l_X10_named_19 W c1 N (x2 + (1 : Int32)))))
theorem lv_X10_named_19 {G : GT} {f : Nat} {b c : Nat} {M : MM} {hi k n : Nat} {W : Nat → Nat → Int32} {c1 : Int32} {r : Int32} (hf : 1 ≤ f) (hc2 : 619 ≤ c) : ∀ (N : Nat) (x2 : Int32) , l_X10_named_19 W c1 N x2 = some r → V G f (Ex G f) mX10_named (RH (.inl (some (.int r))) (MEM b c W M) hi) 19 [(0, .ref (b + 609)), (1, .int c1), (2, .int x2)] [] (MEM b c W M) hi k n := by
  intro N
  induction N with
  | zero => intro x2 h; cases h
  | succ N ih =>
    intro x2 h
    rw [l_X10_named_19] at h
    refine V_iload_n (i := 2) dX10_named_19 rfl rfl ?_
    refine V_aload_n (i := 0) dX10_named_20 rfl rfl ?_
    refine V_getfield dX10_named_21 (mem_30 hc2) fl_X10_13 rfl ?_
    refine V_iconst (v := 1) dX10_named_24 (by decide) ?_
    refine D3_ild h (mem_22 hc2) dX10_named_25 fun h => ?_
    refine D_icmp_ge (tgt := 52) h dX10_named_26 rfl (fun b5 h => ?_) (fun b5 h => ?_)
    · refine V_iconst (v := -1) dX10_named_52 (by decide) ?_
      obtain rfl := Option.some.inj h
      exact V_ireturn dX10_named_53 ⟨_, rfl, rfl⟩ ⟨rfl, rfl, rfl⟩
    · refine V_aload_n (i := 0) dX10_named_29 rfl rfl ?_
      refine V_getfield dX10_named_30 (mem_30 hc2) fl_X10_13 rfl ?_
      refine V_iload_n (i := 2) dX10_named_33 rfl rfl ?_
      refine D_cSI (As := [_]) h dX10_named_34 cs_X10_134 rfl rfl (Nat.le_of_ble_eq_true rfl) (fun x hx => e_X10_ofStation (Nat.le_trans (Nat.le_of_ble_eq_true rfl) hf) hx) fun v6 h => ?_
      refine V_iconst (v := 0) dX10_named_37 (by decide) ?_
      refine V_iadd dX10_named_38 ?_
      refine D3_ild h (mem_22 hc2) dX10_named_39 fun h => ?_
      refine V_iload_n (i := 1) dX10_named_40 rfl rfl ?_
      refine D_icmp_ne (tgt := 46) h dX10_named_41 rfl (fun b7 h => ?_) (fun b7 h => ?_)
      · refine D_iinc (i := 2) (w := 1) dX10_named_46 rfl (by decide) (Nat.le_of_ble_eq_true rfl) ?_
        refine V_goto (tgt := 19) dX10_named_49 rfl ?_
        exact V_sub (ks := [1, 2, 0]) rfl (ih _ h)
      · refine V_iload_n (i := 2) dX10_named_44 rfl rfl ?_
        obtain rfl := Option.some.inj h
        exact V_ireturn dX10_named_45 ⟨_, rfl, rfl⟩ ⟨rfl, rfl, rfl⟩
noncomputable def f_X10_named (W : Nat → Nat → Int32) : Option Int32 :=
  jn (fun (v2 : Int32) => l_X10_named_19 W v2 FU (0 : Int32)) (fun j1 => if (W 30 8) ≤ (4 : Int32) then bdc (f_X10_nameHere W) (fun v4 => j1 v4) else j1 (-1 : Int32))
theorem e_X10_named {G : GT} {f0 : Nat} {b c : Nat} {M : MM} {hi k n : Nat} {W : Nat → Nat → Int32} {r : Int32} (hf0 : 2 ≤ f0) (hc2 : 619 ≤ c) (h : f_X10_named W = some r) : Ex G f0 mX10_named [.ref (b + 609)] (MEM b c W M) hi k n (RH (.inl (some (.int r))) (MEM b c W M) hi) := by
  obtain ⟨f, rfl, hf⟩ := suc_of hf0
  unfold f_X10_named at h
  refine ⟨Nat.le_of_ble_eq_true rfl, ?_⟩
  refine V_aload_n (i := 0) dX10_named_0 rfl rfl ?_
  refine V_getfield dX10_named_1 (mem_30 hc2) fl_X10_188 rfl ?_
  refine V_iconst (v := 4) dX10_named_4 (by decide) ?_
  refine D_jn (fun (j : Int32 → Option Int32) => ∀ (v2 : Int32), j v2 = some r → V G f (Ex G f) mX10_named (RH (.inl (some (.int r))) (MEM b c W M) hi) 16 [(0, .ref (b + 609))] [.int v2] (MEM b c W M) hi k n) h (fun j1 hj1 h => ?_) ?_
  · refine D_icmp_le (tgt := 12) h dX10_named_5 rfl (fun b3 h => ?_) (fun b3 h => ?_)
    · refine V_aload_n (i := 0) dX10_named_12 rfl rfl ?_
      refine D_cVI (As := []) h dX10_named_13 cv_X10_207 rfl ⟨_, _, _, (mem_30 hc2), rfl, rfl⟩ rfl (Nat.le_of_ble_eq_true rfl) (fun x hx => e_X10_nameHere (Nat.le_trans (Nat.le_of_ble_eq_true rfl) hf) hc2 hx) fun v4 h => ?_
      exact V_sub (ks := [0]) rfl (hj1 _ h)
    · refine V_iconst (v := -1) dX10_named_8 (by decide) ?_
      refine V_goto (tgt := 16) dX10_named_9 rfl ?_
      exact V_sub (ks := [0]) rfl (hj1 _ h)
  · intro v2 h
    refine V_istore_n (i := 1) dX10_named_16 rfl (Nat.le_of_ble_eq_true rfl) ?_
    refine V_iconst (v := 0) dX10_named_17 (by decide) ?_
    refine V_istore_n (i := 2) dX10_named_18 rfl (Nat.le_of_ble_eq_true rfl) ?_
    refine V_sub (ks := [2, 1, 0]) rfl (lv_X10_named_19 hf hc2 FU _ h)
