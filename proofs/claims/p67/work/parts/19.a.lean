noncomputable def f_X9_checkRange (a0 : Int32) (a1 : Int32) (a2 : Int32) : Option (String ⊕ Unit) :=
  if a0 < a1 then some (.inl "java/lang/IllegalArgumentException") else if a0 ≤ a2 then some (.inr ()) else some (.inl "java/lang/IllegalArgumentException")
theorem e_X9_checkRange {G : GT} {f0 : Nat}  {M : MM} {hi : Nat} {a0 : Int32} {a1 : Int32} {a2 : Int32} {r : (String ⊕ Unit)} (hf0 : 8 ≤ f0) (h : f_X9_checkRange a0 a1 a2 = some r) : Ex G f0 mX9_checkRange [.int a0, .int a1, .int a2] M hi 1 6 (RP (rhoU r) M) := by
  obtain ⟨f, rfl, hf⟩ := suc_of hf0
  unfold f_X9_checkRange at h
  refine ⟨Nat.le_of_ble_eq_true rfl, ?_⟩
  refine V_iload_n (i := 0) dX9_checkRange_0 rfl rfl ?_
  refine V_iload_n (i := 1) dX9_checkRange_1 rfl rfl ?_
  refine D_icmp_lt (tgt := 10) h dX9_checkRange_2 rfl (fun b1 h => ?_) (fun b1 h => ?_)
  · obtain rfl := Option.some.inj h
    exact V_throwSW (j := 26) dX9_checkRange_10 dX9_checkRange_13 dX9_checkRange_14 dX9_checkRange_17 dX9_checkRange_20 (by decide) tw_1098 tw_1108 (by decide +kernel) (Nat.le_of_ble_eq_true rfl) (Nat.le_trans (Nat.le_of_ble_eq_true rfl) hf) rfl (fun _ _ => ⟨rfl, rfl⟩)
  · refine V_iload_n (i := 0) dX9_checkRange_5 rfl rfl ?_
    refine V_iload_n (i := 2) dX9_checkRange_6 rfl rfl ?_
    refine D_icmp_le (tgt := 21) h dX9_checkRange_7 rfl (fun b2 h => ?_) (fun b2 h => ?_)
    · obtain rfl := Option.some.inj h
      exact V_return dX9_checkRange_21 rfl ⟨rfl, rfl⟩
    · obtain rfl := Option.some.inj h
      exact V_throwSW (j := 26) dX9_checkRange_10 dX9_checkRange_13 dX9_checkRange_14 dX9_checkRange_17 dX9_checkRange_20 (by decide) tw_1098 tw_1108 (by decide +kernel) (Nat.le_of_ble_eq_true rfl) (Nat.le_trans (Nat.le_of_ble_eq_true rfl) hf) rfl (fun _ _ => ⟨rfl, rfl⟩)
noncomputable def f_X0_remember (W : Nat → Nat → Int32) : Option (Nat → Nat → Int32) :=
  if (W 17 0) < 0 then some W else if (W 17 0) < (8 : Int32) then gd (inr (W 17 0) 8) (bdc (f_X4_copyFrom (W (3 + ix (W 17 0))) (W 0)) (fun S5 => bnd (setU W (3 + ix (W 17 0)) S5) (fun W4 => jn (fun (v7 : Int32) => bnd (w2 W4 17 0 v7) (fun W9 => if (W9 17 1) = (8 : Int32) then bnd (w2 W9 17 1 (8 : Int32)) (fun W12 => some W12) else bnd (w2 W9 17 1 ((W9 17 1) + (1 : Int32))) (fun W11 => some W11))) (fun j6 => if (W4 17 0) = (7 : Int32) then j6 (0 : Int32) else j6 ((W4 17 0) + (1 : Int32)))))) else some W
theorem e_X0_remember {G : GT} {f0 : Nat} {b c : Nat} {M : MM} {hi k n : Nat} {W : Nat → Nat → Int32} {r : (Nat → Nat → Int32)} (hf0 : 3 ≤ f0) (hc1 : 609 ≤ c) (h : f_X0_remember W = some r) : Ex G f0 mX0_remember [.ref (b + 143), .ref (b + 1)] (MEM b c W M) hi k n (RH (.inl none) (MEM b c r M) hi) := by
  obtain ⟨f, rfl, hf⟩ := suc_of hf0
  unfold f_X0_remember at h
  refine ⟨Nat.le_of_ble_eq_true rfl, ?_⟩
  refine V_aload_n (i := 0) dX0_remember_0 rfl rfl ?_
  refine V_getfield dX0_remember_1 (mem_17 hc1) fl_X0_18 rfl ?_
  refine D_if_lt (tgt := 16) h dX0_remember_4 rfl (fun b1 h => ?_) (fun b1 h => ?_)
  · obtain rfl := Option.some.inj h
    exact V_return dX0_remember_16 rfl ⟨rfl, rfl, rfl⟩
  · refine V_aload_n (i := 0) dX0_remember_7 rfl rfl ?_
    refine V_getfield dX0_remember_8 (mem_17 hc1) fl_X0_18 rfl ?_
    refine V_bipush (v := 8) dX0_remember_11 (by decide) ?_
    refine D_icmp_lt (tgt := 17) h dX0_remember_13 rfl (fun b2 h => ?_) (fun b2 h => ?_)
    · refine V_aload_n (i := 0) dX0_remember_17 rfl rfl ?_
      refine V_getfield dX0_remember_18 (mem_17 hc1) fl_X0_11 rfl ?_
      refine V_aload_n (i := 0) dX0_remember_21 rfl rfl ?_
      refine V_getfield dX0_remember_22 (mem_17 hc1) fl_X0_18 rfl ?_
      refine D3_qld8 hc1 h dX0_remember_25 fun g3 h => ?_
      refine V_aload_n (i := 1) dX0_remember_26 rfl rfl ?_
      refine D_cVU (As := [_]) (μ := fun S5 => (MEM b c (setU W (3 + ix (W 17 0)) S5) M)) h dX0_remember_27 cv_X0_22 rfl ⟨_, _, _, (mst_o (u := (3 + ix (W 17 0))) hc1 (by omega) (PA_hs g3)), rfl, rfl⟩ rfl (Nat.le_of_ble_eq_true rfl) (fun y hx => lift2 (u := (3 + ix (W 17 0))) (v := 0) hc1 (by omega) (by decide) (PA_hs g3) rfl (e_X4_copyFrom (Nat.le_trans (Nat.le_of_ble_eq_true rfl) hf) (show apt (b + 145 + 46 * ix (W 17 0)) (b + 1) by unfold apt; omega) hx)) fun S5 h => ?_
      refine D3_gen (μ := fun W => (MEM b c W M)) h fun W4 h => ?_
      refine V_aload_n (i := 0) dX0_remember_30 rfl rfl ?_
      refine V_aload_n (i := 0) dX0_remember_31 rfl rfl ?_
      refine V_getfield dX0_remember_32 (mem_17 hc1) fl_X0_18 rfl ?_
      refine V_bipush (v := 7) dX0_remember_35 (by decide) ?_
      refine D_jn (fun (j : Int32 → Option (Nat → Nat → Int32)) => ∀ (v7 : Int32), j v7 = some r → V G f (Ex G f) mX0_remember (RH (.inl none) (MEM b c r M) hi) 50 [(0, .ref (b + 143))] [.int v7, .ref (b + 143)] (MEM b c W4 M) hi k n) h (fun j6 hj6 h => ?_) ?_
      · refine D_icmp_ne (tgt := 44) h dX0_remember_37 rfl (fun b8 h => ?_) (fun b8 h => ?_)
        · refine V_aload_n (i := 0) dX0_remember_44 rfl rfl ?_
          refine V_getfield dX0_remember_45 (mem_17 hc1) fl_X0_18 rfl ?_
          refine V_iconst (v := 1) dX0_remember_48 (by decide) ?_
          refine V_iadd dX0_remember_49 ?_
          exact V_sub (ks := [0]) rfl (hj6 _ h)
        · refine V_iconst (v := 0) dX0_remember_40 (by decide) ?_
          refine V_goto (tgt := 50) dX0_remember_41 rfl ?_
          exact V_sub (ks := [0]) rfl (hj6 _ h)
      · intro v7 h
        refine D3_put h dX0_remember_50 (mem_17 hc1) (fp_X0_18 rfl) (Nat.le_of_ble_eq_true rfl) (psc_17_0 hc1) fun W9 h => ?_
        refine V_aload_n (i := 0) dX0_remember_53 rfl rfl ?_
        refine V_aload_n (i := 0) dX0_remember_54 rfl rfl ?_
        refine V_getfield dX0_remember_55 (mem_17 hc1) fl_X0_26 rfl ?_
        refine V_bipush (v := 8) dX0_remember_58 (by decide) ?_
        refine D_icmp_ne (tgt := 68) h dX0_remember_60 rfl (fun b10 h => ?_) (fun b10 h => ?_)
        · refine V_aload_n (i := 0) dX0_remember_68 rfl rfl ?_
          refine V_getfield dX0_remember_69 (mem_17 hc1) fl_X0_26 rfl ?_
          refine V_iconst (v := 1) dX0_remember_72 (by decide) ?_
          refine V_iadd dX0_remember_73 ?_
          refine D3_put h dX0_remember_74 (mem_17 hc1) (fp_X0_26 rfl) (Nat.le_of_ble_eq_true rfl) (psc_17_1 hc1) fun W11 h => ?_
          obtain rfl := Option.some.inj h
          exact V_return dX0_remember_77 rfl ⟨rfl, rfl, rfl⟩
        · refine V_bipush (v := 8) dX0_remember_63 (by decide) ?_
          refine V_goto (tgt := 74) dX0_remember_65 rfl ?_
          refine D3_put h dX0_remember_74 (mem_17 hc1) (fp_X0_26 rfl) (Nat.le_of_ble_eq_true rfl) (psc_17_1 hc1) fun W12 h => ?_
          obtain rfl := Option.some.inj h
          exact V_return dX0_remember_77 rfl ⟨rfl, rfl, rfl⟩
    · obtain rfl := Option.some.inj h
      exact V_return dX0_remember_16 rfl ⟨rfl, rfl, rfl⟩
noncomputable def f_X3_execute (W : Nat → Nat → Int32) : Option (Int32 × (Nat → Nat → Int32)) :=
  jn (fun (W2 : Nat → Nat → Int32) => if (W2 13 2) = (8 : Int32) then some (W2 13 6, W2) else some ((0 : Int32), W2)) (fun j1 => if (W 13 2) = (1 : Int32) then if (W 13 2) = (2 : Int32) then bdc (f_X4_makeStation (W 2) (W 13 3) (1 : Int32)) (fun S8 => bnd (setU W 2 S8) (fun W7 => j1 W7)) else bdc (f_X4_makeStation (W 2) (W 13 3) (0 : Int32)) (fun S6 => bnd (setU W 2 S6) (fun W5 => j1 W5)) else if (W 13 2) = (2 : Int32) then if (W 13 2) = (2 : Int32) then bdc (f_X4_makeStation (W 2) (W 13 3) (1 : Int32)) (fun S14 => bnd (setU W 2 S14) (fun W13 => j1 W13)) else bdc (f_X4_makeStation (W 2) (W 13 3) (0 : Int32)) (fun S12 => bnd (setU W 2 S12) (fun W11 => j1 W11)) else if (W 13 2) = (3 : Int32) then bdc (f_X4_makeTrack (W 2) (W 13 4) (W 13 5) (W 13 6)) (fun S17 => bnd (setU W 2 S17) (fun W16 => j1 W16)) else if (W 13 2) = (4 : Int32) then bdc (f_X4_makeTrain (W 2) (W 13 6) (ints 6 (W 14)) (W 13 7)) (fun S20 => bnd (setU W 2 S20) (fun W19 => j1 W19)) else if (W 13 2) = (5 : Int32) then bdc (f_X4_makeParcel (W 2) (W 13 4) (W 13 5) (W 13 6)) (fun S23 => bnd (setU W 2 S23) (fun W22 => j1 W22)) else if (W 13 2) = (6 : Int32) then bdc (f_X4_setInspectionOf (W 2) (W 13 4) (W 13 6)) (fun S26 => bnd (setU W 2 S26) (fun W25 => j1 W25)) else if (W 13 2) = (7 : Int32) then bdc (f_X4_findTrack (W 2) (W 13 4) (W 13 5)) (fun v28 => bdc (f_X4_openTrack (W 2) v28 (0 : Int32)) (fun S30 => bnd (setU W 2 S30) (fun W29 => j1 W29))) else gd (tso (W 13 2) 1 7) (j1 W))
theorem e_X3_execute {G : GT} {f0 : Nat} {b c : Nat} {M : MM} {hi k n : Nat} {W : Nat → Nat → Int32} {r : (Int32 × (Nat → Nat → Int32))} (hf0 : 4 ≤ f0) (hc1 : 609 ≤ c) (h : f_X3_execute W = some r) : Ex G f0 mX3_execute [.ref (b + 93)] (MEM b c W M) hi k n (RH (.inl (some (.int r.1))) (MEM b c r.2 M) hi) := by
  obtain ⟨f, rfl, hf⟩ := suc_of hf0
  unfold f_X3_execute at h
  refine ⟨Nat.le_of_ble_eq_true rfl, ?_⟩
  refine V_aload_n (i := 0) dX3_execute_0 rfl rfl ?_
  refine V_getfield dX3_execute_1 (mem_13 hc1) fl_X3_64 rfl ?_
  refine D_jn (fun (j : (Nat → Nat → Int32) → Option (Int32 × (Nat → Nat → Int32))) => ∀ (W2 : Nat → Nat → Int32), j W2 = some r → V G f (Ex G f) mX3_execute (RH (.inl (some (.int r.1))) (MEM b c r.2 M) hi) 185 [(0, .ref (b + 93))] [] (MEM b c W2 M) hi k n) h (fun j1 hj1 h => ?_) ?_
  · refine D_ite h (fun b3 h => ?_) (fun b3 h => ?_)
    · refine V_tsIn (c := 1) (off := 44) (tgt := 48) b3 dX3_execute_4 (by decide) (by decide) (by decide) rfl ?_
      refine V_aload_n (i := 0) dX3_execute_48 rfl rfl ?_
      refine V_getfield dX3_execute_49 (mem_13 hc1) fl_X3_21 rfl ?_
      refine V_aload_n (i := 0) dX3_execute_52 rfl rfl ?_
      refine V_getfield dX3_execute_53 (mem_13 hc1) fl_X3_70 rfl ?_
      refine V_aload_n (i := 0) dX3_execute_56 rfl rfl ?_
      refine V_getfield dX3_execute_57 (mem_13 hc1) fl_X3_64 rfl ?_
      refine V_iconst (v := 2) dX3_execute_60 (by decide) ?_
      refine D_icmp_ne (tgt := 68) h dX3_execute_61 rfl (fun b4 h => ?_) (fun b4 h => ?_)
      · refine V_iconst (v := 0) dX3_execute_68 (by decide) ?_
        refine D_cVU (As := [_, _]) (μ := fun S6 => (MEM b c (setU W 2 S6) M)) h dX3_execute_69 cv_X3_102 rfl ⟨_, _, _, (mst_o (u := 2) hc1 (by decide) rfl), rfl, rfl⟩ rfl (Nat.le_of_ble_eq_true rfl) (fun y hx => lift1 (u := 2) hc1 (by decide) rfl (e_X4_makeStation (Nat.le_trans (Nat.le_of_ble_eq_true rfl) hf) hx)) fun S6 h => ?_
        refine D3_gen (μ := fun W => (MEM b c W M)) h fun W5 h => ?_
        refine V_goto (tgt := 185) dX3_execute_72 rfl ?_
        exact V_sub (ks := [0]) rfl (hj1 _ h)
      · refine V_iconst (v := 1) dX3_execute_64 (by decide) ?_
        refine V_goto (tgt := 69) dX3_execute_65 rfl ?_
        refine D_cVU (As := [_, _]) (μ := fun S8 => (MEM b c (setU W 2 S8) M)) h dX3_execute_69 cv_X3_102 rfl ⟨_, _, _, (mst_o (u := 2) hc1 (by decide) rfl), rfl, rfl⟩ rfl (Nat.le_of_ble_eq_true rfl) (fun y hx => lift1 (u := 2) hc1 (by decide) rfl (e_X4_makeStation (Nat.le_trans (Nat.le_of_ble_eq_true rfl) hf) hx)) fun S8 h => ?_
        refine D3_gen (μ := fun W => (MEM b c W M)) h fun W7 h => ?_
        refine V_goto (tgt := 185) dX3_execute_72 rfl ?_
        exact V_sub (ks := [0]) rfl (hj1 _ h)
    refine D_ite h (fun b9 h => ?_) (fun b9 h => ?_)
    · refine V_tsIn (c := 2) (off := 44) (tgt := 48) b9 dX3_execute_4 (by decide) (by decide) (by decide) rfl ?_
      refine V_aload_n (i := 0) dX3_execute_48 rfl rfl ?_
      refine V_getfield dX3_execute_49 (mem_13 hc1) fl_X3_21 rfl ?_
      refine V_aload_n (i := 0) dX3_execute_52 rfl rfl ?_
      refine V_getfield dX3_execute_53 (mem_13 hc1) fl_X3_70 rfl ?_
      refine V_aload_n (i := 0) dX3_execute_56 rfl rfl ?_
      refine V_getfield dX3_execute_57 (mem_13 hc1) fl_X3_64 rfl ?_
      refine V_iconst (v := 2) dX3_execute_60 (by decide) ?_
      refine D_icmp_ne (tgt := 68) h dX3_execute_61 rfl (fun b10 h => ?_) (fun b10 h => ?_)
      · refine V_iconst (v := 0) dX3_execute_68 (by decide) ?_
        refine D_cVU (As := [_, _]) (μ := fun S12 => (MEM b c (setU W 2 S12) M)) h dX3_execute_69 cv_X3_102 rfl ⟨_, _, _, (mst_o (u := 2) hc1 (by decide) rfl), rfl, rfl⟩ rfl (Nat.le_of_ble_eq_true rfl) (fun y hx => lift1 (u := 2) hc1 (by decide) rfl (e_X4_makeStation (Nat.le_trans (Nat.le_of_ble_eq_true rfl) hf) hx)) fun S12 h => ?_
        refine D3_gen (μ := fun W => (MEM b c W M)) h fun W11 h => ?_
        refine V_goto (tgt := 185) dX3_execute_72 rfl ?_
        exact V_sub (ks := [0]) rfl (hj1 _ h)
      · refine V_iconst (v := 1) dX3_execute_64 (by decide) ?_
        refine V_goto (tgt := 69) dX3_execute_65 rfl ?_
        refine D_cVU (As := [_, _]) (μ := fun S14 => (MEM b c (setU W 2 S14) M)) h dX3_execute_69 cv_X3_102 rfl ⟨_, _, _, (mst_o (u := 2) hc1 (by decide) rfl), rfl, rfl⟩ rfl (Nat.le_of_ble_eq_true rfl) (fun y hx => lift1 (u := 2) hc1 (by decide) rfl (e_X4_makeStation (Nat.le_trans (Nat.le_of_ble_eq_true rfl) hf) hx)) fun S14 h => ?_
        refine D3_gen (μ := fun W => (MEM b c W M)) h fun W13 h => ?_
        refine V_goto (tgt := 185) dX3_execute_72 rfl ?_
        exact V_sub (ks := [0]) rfl (hj1 _ h)
    refine D_ite h (fun b15 h => ?_) (fun b15 h => ?_)
    · refine V_tsIn (c := 3) (off := 71) (tgt := 75) b15 dX3_execute_4 (by decide) (by decide) (by decide) rfl ?_
      refine V_aload_n (i := 0) dX3_execute_75 rfl rfl ?_
      refine V_getfield dX3_execute_76 (mem_13 hc1) fl_X3_21 rfl ?_
      refine V_aload_n (i := 0) dX3_execute_79 rfl rfl ?_
      refine V_getfield dX3_execute_80 (mem_13 hc1) fl_X3_76 rfl ?_
      refine V_aload_n (i := 0) dX3_execute_83 rfl rfl ?_
      refine V_getfield dX3_execute_84 (mem_13 hc1) fl_X3_82 rfl ?_
      refine V_aload_n (i := 0) dX3_execute_87 rfl rfl ?_
      refine V_getfield dX3_execute_88 (mem_13 hc1) fl_X3_89 rfl ?_
      refine D_cVU (As := [_, _, _]) (μ := fun S17 => (MEM b c (setU W 2 S17) M)) h dX3_execute_91 cv_X3_106 rfl ⟨_, _, _, (mst_o (u := 2) hc1 (by decide) rfl), rfl, rfl⟩ rfl (Nat.le_of_ble_eq_true rfl) (fun y hx => lift1 (u := 2) hc1 (by decide) rfl (e_X4_makeTrack (Nat.le_trans (Nat.le_of_ble_eq_true rfl) hf) hx)) fun S17 h => ?_
      refine D3_gen (μ := fun W => (MEM b c W M)) h fun W16 h => ?_
      refine V_goto (tgt := 185) dX3_execute_94 rfl ?_
      exact V_sub (ks := [0]) rfl (hj1 _ h)
    refine D_ite h (fun b18 h => ?_) (fun b18 h => ?_)
    · refine V_tsIn (c := 4) (off := 93) (tgt := 97) b18 dX3_execute_4 (by decide) (by decide) (by decide) rfl ?_
      refine V_aload_n (i := 0) dX3_execute_97 rfl rfl ?_
      refine V_getfield dX3_execute_98 (mem_13 hc1) fl_X3_21 rfl ?_
      refine V_aload_n (i := 0) dX3_execute_101 rfl rfl ?_
      refine V_getfield dX3_execute_102 (mem_13 hc1) fl_X3_89 rfl ?_
      refine V_aload_n (i := 0) dX3_execute_105 rfl rfl ?_
      refine V_getfield dX3_execute_106 (mem_13 hc1) fl_X3_29 rfl ?_
      refine V_aload_n (i := 0) dX3_execute_109 rfl rfl ?_
      refine V_getfield dX3_execute_110 (mem_13 hc1) fl_X3_110 rfl ?_
      refine D_cVU (As := [_, _, _]) (μ := fun S20 => (MEM b c (setU W 2 S20) M)) h dX3_execute_113 cv_X3_113 rfl ⟨_, _, _, (mst_o (u := 2) hc1 (by decide) rfl), rfl, rfl⟩ rfl (Nat.le_of_ble_eq_true rfl) (fun y hx => lift1 (u := 2) hc1 (by decide) rfl (e_X4_makeTrain (Nat.le_trans (Nat.le_of_ble_eq_true rfl) hf) ⟨mem_14 hc1, (show b + 142 < b + 96 ∨ b + 96 + 46 ≤ b + 142 by omega)⟩ hx)) fun S20 h => ?_
      refine D3_gen (μ := fun W => (MEM b c W M)) h fun W19 h => ?_
      refine V_goto (tgt := 185) dX3_execute_116 rfl ?_
      exact V_sub (ks := [0]) rfl (hj1 _ h)
    refine D_ite h (fun b21 h => ?_) (fun b21 h => ?_)
    · refine V_tsIn (c := 5) (off := 115) (tgt := 119) b21 dX3_execute_4 (by decide) (by decide) (by decide) rfl ?_
      refine V_aload_n (i := 0) dX3_execute_119 rfl rfl ?_
      refine V_getfield dX3_execute_120 (mem_13 hc1) fl_X3_21 rfl ?_
      refine V_aload_n (i := 0) dX3_execute_123 rfl rfl ?_
      refine V_getfield dX3_execute_124 (mem_13 hc1) fl_X3_76 rfl ?_
      refine V_aload_n (i := 0) dX3_execute_127 rfl rfl ?_
      refine V_getfield dX3_execute_128 (mem_13 hc1) fl_X3_82 rfl ?_
      refine V_aload_n (i := 0) dX3_execute_131 rfl rfl ?_
      refine V_getfield dX3_execute_132 (mem_13 hc1) fl_X3_89 rfl ?_
      refine D_cVU (As := [_, _, _]) (μ := fun S23 => (MEM b c (setU W 2 S23) M)) h dX3_execute_135 cv_X3_117 rfl ⟨_, _, _, (mst_o (u := 2) hc1 (by decide) rfl), rfl, rfl⟩ rfl (Nat.le_of_ble_eq_true rfl) (fun y hx => lift1 (u := 2) hc1 (by decide) rfl (e_X4_makeParcel (Nat.le_trans (Nat.le_of_ble_eq_true rfl) hf) hx)) fun S23 h => ?_
      refine D3_gen (μ := fun W => (MEM b c W M)) h fun W22 h => ?_
      refine V_goto (tgt := 185) dX3_execute_138 rfl ?_
      exact V_sub (ks := [0]) rfl (hj1 _ h)
    refine D_ite h (fun b24 h => ?_) (fun b24 h => ?_)
    · refine V_tsIn (c := 6) (off := 137) (tgt := 141) b24 dX3_execute_4 (by decide) (by decide) (by decide) rfl ?_
      refine V_aload_n (i := 0) dX3_execute_141 rfl rfl ?_
      refine V_getfield dX3_execute_142 (mem_13 hc1) fl_X3_21 rfl ?_
      refine V_aload_n (i := 0) dX3_execute_145 rfl rfl ?_
      refine V_getfield dX3_execute_146 (mem_13 hc1) fl_X3_76 rfl ?_
      refine V_aload_n (i := 0) dX3_execute_149 rfl rfl ?_
      refine V_getfield dX3_execute_150 (mem_13 hc1) fl_X3_89 rfl ?_
      refine D_cVU (As := [_, _]) (μ := fun S26 => (MEM b c (setU W 2 S26) M)) h dX3_execute_153 cv_X3_120 rfl ⟨_, _, _, (mst_o (u := 2) hc1 (by decide) rfl), rfl, rfl⟩ rfl (Nat.le_of_ble_eq_true rfl) (fun y hx => lift1 (u := 2) hc1 (by decide) rfl (e_X4_setInspectionOf (Nat.le_trans (Nat.le_of_ble_eq_true rfl) hf) hx)) fun S26 h => ?_
      refine D3_gen (μ := fun W => (MEM b c W M)) h fun W25 h => ?_
      refine V_goto (tgt := 185) dX3_execute_156 rfl ?_
      exact V_sub (ks := [0]) rfl (hj1 _ h)
    refine D_ite h (fun b27 h => ?_) (fun b27 h => ?_)
    · refine V_tsIn (c := 7) (off := 155) (tgt := 159) b27 dX3_execute_4 (by decide) (by decide) (by decide) rfl ?_
      refine V_aload_n (i := 0) dX3_execute_159 rfl rfl ?_
      refine V_getfield dX3_execute_160 (mem_13 hc1) fl_X3_21 rfl ?_
      refine V_aload_n (i := 0) dX3_execute_163 rfl rfl ?_
      refine V_getfield dX3_execute_164 (mem_13 hc1) fl_X3_21 rfl ?_
      refine V_aload_n (i := 0) dX3_execute_167 rfl rfl ?_
      refine V_getfield dX3_execute_168 (mem_13 hc1) fl_X3_76 rfl ?_
      refine V_aload_n (i := 0) dX3_execute_171 rfl rfl ?_
      refine V_getfield dX3_execute_172 (mem_13 hc1) fl_X3_82 rfl ?_
      refine D_cVI (As := [_, _]) h dX3_execute_175 cv_X3_124 rfl ⟨_, _, _, (mst_o (u := 2) hc1 (by decide) rfl), rfl, rfl⟩ rfl (Nat.le_of_ble_eq_true rfl) (fun x hx => lift0 (u := 2) hc1 (by decide) rfl (e_X4_findTrack (Nat.le_trans (Nat.le_of_ble_eq_true rfl) hf) hx)) fun v28 h => ?_
      refine V_iconst (v := 0) dX3_execute_178 (by decide) ?_
      refine D_cVU (As := [_, _]) (μ := fun S30 => (MEM b c (setU W 2 S30) M)) h dX3_execute_179 cv_X3_127 rfl ⟨_, _, _, (mst_o (u := 2) hc1 (by decide) rfl), rfl, rfl⟩ rfl (Nat.le_of_ble_eq_true rfl) (fun y hx => lift1 (u := 2) hc1 (by decide) rfl (e_X4_openTrack (Nat.le_trans (Nat.le_of_ble_eq_true rfl) hf) hx)) fun S30 h => ?_
      refine D3_gen (μ := fun W => (MEM b c W M)) h fun W29 h => ?_
      refine V_goto (tgt := 185) dX3_execute_182 rfl ?_
      exact V_sub (ks := [0]) rfl (hj1 _ h)
    refine V_tsOut (tgt := 185) h dX3_execute_4 rfl fun h => ?_
    exact V_sub (ks := [0]) rfl (hj1 _ h)
  · intro W2 h
    refine V_aload_n (i := 0) dX3_execute_185 rfl rfl ?_
    refine V_getfield dX3_execute_186 (mem_13 hc1) fl_X3_64 rfl ?_
    refine V_bipush (v := 8) dX3_execute_189 (by decide) ?_
    refine D_icmp_ne (tgt := 201) h dX3_execute_191 rfl (fun b31 h => ?_) (fun b31 h => ?_)
    · refine V_iconst (v := 0) dX3_execute_201 (by decide) ?_
      obtain rfl := Option.some.inj h
      exact V_ireturn dX3_execute_202 ⟨_, rfl, rfl⟩ ⟨rfl, rfl, rfl⟩
    · refine V_aload_n (i := 0) dX3_execute_194 rfl rfl ?_
      refine V_getfield dX3_execute_195 (mem_13 hc1) fl_X3_89 rfl ?_
      refine V_goto (tgt := 202) dX3_execute_198 rfl ?_
      obtain rfl := Option.some.inj h
      exact V_ireturn dX3_execute_202 ⟨_, rfl, rfl⟩ ⟨rfl, rfl, rfl⟩
noncomputable def f_X3_fail (W : Nat → Nat → Int32) (a1 : Int32) : Option (Nat → Nat → Int32) :=
  if (W 13 0) = 0 then bnd (w2 W 13 0 a1) (fun W2 => bnd (w2 W2 13 1 (W2 15 2)) (fun W3 => some W3)) else some W
theorem e_X3_fail {G : GT} {f0 : Nat} {b c : Nat} {M : MM} {hi k n : Nat} {W : Nat → Nat → Int32} {a1 : Int32} {r : (Nat → Nat → Int32)} (hf0 : 1 ≤ f0) (hc1 : 609 ≤ c) (h : f_X3_fail W a1 = some r) : Ex G f0 mX3_fail [.ref (b + 93), .int a1] (MEM b c W M) hi k n (RH (.inl none) (MEM b c r M) hi) := by
  obtain ⟨f, rfl, hf⟩ := suc_of hf0
  unfold f_X3_fail at h
  refine ⟨Nat.le_of_ble_eq_true rfl, ?_⟩
  refine V_aload_n (i := 0) dX3_fail_0 rfl rfl ?_
  refine V_getfield dX3_fail_1 (mem_13 hc1) fl_X3_36 rfl ?_
  refine D_if_ne (tgt := 23) h dX3_fail_4 rfl (fun b1 h => ?_) (fun b1 h => ?_)
  · obtain rfl := Option.some.inj h
    exact V_return dX3_fail_23 rfl ⟨rfl, rfl, rfl⟩
  · refine V_aload_n (i := 0) dX3_fail_7 rfl rfl ?_
    refine V_iload_n (i := 1) dX3_fail_8 rfl rfl ?_
    refine D3_put h dX3_fail_9 (mem_13 hc1) (fp_X3_36 rfl) (Nat.le_of_ble_eq_true rfl) (psc_13_0 hc1) fun W2 h => ?_
    refine V_aload_n (i := 0) dX3_fail_12 rfl rfl ?_
    refine V_aload_n (i := 0) dX3_fail_13 rfl rfl ?_
    refine V_getfield dX3_fail_14 (mem_13 hc1) fl_X3_12 rfl ?_
    refine V_getfield dX3_fail_17 (mem_15 hc1) fl_X3_58 rfl ?_
    refine D3_put h dX3_fail_20 (mem_13 hc1) (fp_X3_25 rfl) (Nat.le_of_ble_eq_true rfl) (psc_13_1 hc1) fun W3 h => ?_
    obtain rfl := Option.some.inj h
    exact V_return dX3_fail_23 rfl ⟨rfl, rfl, rfl⟩
noncomputable def f_X6_byteAt (W : Nat → Nat → Int32) (a1 : Int32) : Option Int32 :=
  if a1 < 0 then some (0 : Int32) else if (600 : Int32) ≤ a1 then some (0 : Int32) else gd (inr a1 600) (some ((W 16 (ix a1)) &&& (255 : Int32)))
theorem e_X6_byteAt {G : GT} {f0 : Nat} {b c : Nat} {M : MM} {hi k n : Nat} {W : Nat → Nat → Int32} {a1 : Int32} {r : Int32} (hf0 : 1 ≤ f0) (hc1 : 609 ≤ c) (h : f_X6_byteAt W a1 = some r) : Ex G f0 mX6_byteAt [.ref (b + 94), .int a1] (MEM b c W M) hi k n (RH (.inl (some (.int r))) (MEM b c W M) hi) := by
  obtain ⟨f, rfl, hf⟩ := suc_of hf0
  unfold f_X6_byteAt at h
  refine ⟨Nat.le_of_ble_eq_true rfl, ?_⟩
  refine V_iload_n (i := 1) dX6_byteAt_0 rfl rfl ?_
  refine D_if_lt (tgt := 26) h dX6_byteAt_1 rfl (fun b1 h => ?_) (fun b1 h => ?_)
  · refine V_iconst (v := 0) dX6_byteAt_26 (by decide) ?_
    obtain rfl := Option.some.inj h
    exact V_ireturn dX6_byteAt_27 ⟨_, rfl, rfl⟩ ⟨rfl, rfl, rfl⟩
  · refine V_iload_n (i := 1) dX6_byteAt_4 rfl rfl ?_
    refine V_aload_n (i := 0) dX6_byteAt_5 rfl rfl ?_
    refine V_getfield dX6_byteAt_6 (mem_15 hc1) fl_X6_9 rfl ?_
    refine V_alen (t := 0) (v := 600) dX6_byteAt_9 (mem_16 hc1) (by decide) rfl ?_
    refine D_icmp_ge (tgt := 26) h dX6_byteAt_10 rfl (fun b2 h => ?_) (fun b2 h => ?_)
    · refine V_iconst (v := 0) dX6_byteAt_26 (by decide) ?_
      obtain rfl := Option.some.inj h
      exact V_ireturn dX6_byteAt_27 ⟨_, rfl, rfl⟩ ⟨rfl, rfl, rfl⟩
    · refine V_aload_n (i := 0) dX6_byteAt_13 rfl rfl ?_
      refine V_getfield dX6_byteAt_14 (mem_15 hc1) fl_X6_9 rfl ?_
      refine V_iload_n (i := 1) dX6_byteAt_17 rfl rfl ?_
      refine D3_bld h (mem_16 hc1) dX6_byteAt_18 fun h => ?_
      refine V_sipush (v := 255) dX6_byteAt_19 (by decide) ?_
      refine V_iand dX6_byteAt_22 ?_
      refine V_goto (tgt := 27) dX6_byteAt_23 rfl ?_
      obtain rfl := Option.some.inj h
      exact V_ireturn dX6_byteAt_27 ⟨_, rfl, rfl⟩ ⟨rfl, rfl, rfl⟩
noncomputable def l_X6_isText_20 (W : Nat → Nat → Int32) (c1 : Nat) : Nat → Int32 → Option Int32
  | 0, _ => none
  | N + 1, x2 => if (nI (lenS c1)) ≤ x2 then some (1 : Int32) else bdc (f_X6_byteAt W ((W 15 2) + x2)) (fun v3 => gd (inr x2 (lenS c1)) (if v3 = (chS c1 (ix x2)) then l_X6_isText_20 W c1 N (x2 + (1 : Int32)) else some (0 : Int32)))
theorem lv_X6_isText_20 {G : GT} {f : Nat} {b c : Nat} {M : MM} {hi k n : Nat} {W : Nat → Nat → Int32} {c1 : Nat} {r : Int32} (hf : 4 ≤ f) (hc1 : 609 ≤ c) (u1 : c1 < nSTR) : ∀ (N : Nat) (x2 : Int32) , l_X6_isText_20 W c1 N x2 = some r → V G f (Ex G f) mX6_isText (RH (.inl (some (.int r))) (MEM b c W M) hi) 20 [(0, .ref (b + 94)), (1, .ref (G.2.2.2.1 c1)), (2, .int x2)] [] (MEM b c W M) hi k n := by
  intro N
  induction N with
  | zero => intro x2 h; cases h
  | succ N ih =>
    intro x2 h
    rw [l_X6_isText_20] at h
    refine V_iload_n (i := 2) dX6_isText_20 rfl rfl ?_
    refine V_aload_n (i := 1) dX6_isText_21 rfl rfl ?_
    refine D_slen dX6_isText_22 cv_X6_23 u1 (Nat.le_of_ble_eq_true rfl) (Nat.le_trans (Nat.le_of_ble_eq_true rfl) hf) ?_
    refine D_icmp_ge (tgt := 54) h dX6_isText_25 rfl (fun b2 h => ?_) (fun b2 h => ?_)
    · refine V_iconst (v := 1) dX6_isText_54 (by decide) ?_
      obtain rfl := Option.some.inj h
      exact V_ireturn dX6_isText_55 ⟨_, rfl, rfl⟩ ⟨rfl, rfl, rfl⟩
    · refine V_aload_n (i := 0) dX6_isText_28 rfl rfl ?_
      refine V_aload_n (i := 0) dX6_isText_29 rfl rfl ?_
      refine V_getfield dX6_isText_30 (mem_15 hc1) fl_X6_38 rfl ?_
      refine V_iload_n (i := 2) dX6_isText_33 rfl rfl ?_
      refine V_iadd dX6_isText_34 ?_
      refine D_cVI (As := [_]) h dX6_isText_35 cv_X6_41 rfl ⟨_, _, _, (mem_15 hc1), rfl, rfl⟩ rfl (Nat.le_of_ble_eq_true rfl) (fun x hx => e_X6_byteAt (Nat.le_trans (Nat.le_of_ble_eq_true rfl) hf) hc1 hx) fun v3 h => ?_
      refine V_aload_n (i := 1) dX6_isText_38 rfl rfl ?_
      refine V_iload_n (i := 2) dX6_isText_39 rfl rfl ?_
      refine D_schar h dX6_isText_40 cv_X6_28 u1 (Nat.le_of_ble_eq_true rfl) (Nat.le_trans (Nat.le_of_ble_eq_true rfl) hf) fun h => ?_
      refine D_icmp_eq (tgt := 48) h dX6_isText_43 rfl (fun b4 h => ?_) (fun b4 h => ?_)
      · refine D_iinc (i := 2) (w := 1) dX6_isText_48 rfl (by decide) (Nat.le_of_ble_eq_true rfl) ?_
        refine V_goto (tgt := 20) dX6_isText_51 rfl ?_
        exact V_sub (ks := [1, 2, 0]) rfl (ih _ h)
      · refine V_iconst (v := 0) dX6_isText_46 (by decide) ?_
        obtain rfl := Option.some.inj h
        exact V_ireturn dX6_isText_47 ⟨_, rfl, rfl⟩ ⟨rfl, rfl, rfl⟩
noncomputable def f_X6_isText (W : Nat → Nat → Int32) (j1 : Nat) : Option Int32 :=
  if ((W 15 3) - (W 15 2)) = (nI (lenS j1)) then l_X6_isText_20 W j1 FU (0 : Int32) else some (0 : Int32)
theorem e_X6_isText {G : GT} {f0 : Nat} {b c : Nat} {M : MM} {hi k n : Nat} {W : Nat → Nat → Int32} {j1 : Nat} {r : Int32} (hf0 : 5 ≤ f0) (hc1 : 609 ≤ c) (t1 : j1 < nSTR) (h : f_X6_isText W j1 = some r) : Ex G f0 mX6_isText [.ref (b + 94), .ref (G.2.2.2.1 j1)] (MEM b c W M) hi k n (RH (.inl (some (.int r))) (MEM b c W M) hi) := by
  obtain ⟨f, rfl, hf⟩ := suc_of hf0
  unfold f_X6_isText at h
  refine ⟨Nat.le_of_ble_eq_true rfl, ?_⟩
  refine V_aload_n (i := 0) dX6_isText_0 rfl rfl ?_
  refine V_getfield dX6_isText_1 (mem_15 hc1) fl_X6_32 rfl ?_
  refine V_aload_n (i := 0) dX6_isText_4 rfl rfl ?_
  refine V_getfield dX6_isText_5 (mem_15 hc1) fl_X6_38 rfl ?_
  refine V_isub dX6_isText_8 ?_
  refine V_aload_n (i := 1) dX6_isText_9 rfl rfl ?_
  refine D_slen dX6_isText_10 cv_X6_23 t1 (Nat.le_of_ble_eq_true rfl) (Nat.le_trans (Nat.le_of_ble_eq_true rfl) hf) ?_
  refine D_icmp_eq (tgt := 18) h dX6_isText_13 rfl (fun b1 h => ?_) (fun b1 h => ?_)
  · refine V_iconst (v := 0) dX6_isText_18 (by decide) ?_
    refine V_istore_n (i := 2) dX6_isText_19 rfl (Nat.le_of_ble_eq_true rfl) ?_
    refine V_sub (ks := [1, 2, 0]) rfl (lv_X6_isText_20 hf hc1 t1 FU _ h)
  · refine V_iconst (v := 0) dX6_isText_16 (by decide) ?_
    obtain rfl := Option.some.inj h
    exact V_ireturn dX6_isText_17 ⟨_, rfl, rfl⟩ ⟨rfl, rfl, rfl⟩
noncomputable def f_X3_findKeyword (W : Nat → Nat → Int32) : Option Int32 :=
  bdc (f_X6_isText W 1) (fun v1 => if v1 = 0 then bdc (f_X6_isText W 2) (fun v3 => if v3 = 0 then bdc (f_X6_isText W 3) (fun v5 => if v5 = 0 then bdc (f_X6_isText W 4) (fun v7 => if v7 = 0 then bdc (f_X6_isText W 5) (fun v9 => if v9 = 0 then bdc (f_X6_isText W 6) (fun v11 => if v11 = 0 then bdc (f_X6_isText W 7) (fun v13 => if v13 = 0 then bdc (f_X6_isText W 8) (fun v15 => if v15 = 0 then some (-1 : Int32) else some (8 : Int32)) else some (7 : Int32)) else some (6 : Int32)) else some (5 : Int32)) else some (4 : Int32)) else some (3 : Int32)) else some (2 : Int32)) else some (1 : Int32))
theorem e_X3_findKeyword {G : GT} {f0 : Nat} {b c : Nat} {M : MM} {hi k n : Nat} {W : Nat → Nat → Int32} {r : Int32} (hf0 : 6 ≤ f0) (hc1 : 609 ≤ c) (h : f_X3_findKeyword W = some r) : Ex G f0 mX3_findKeyword [.ref (b + 93)] (MEM b c W M) hi k n (RH (.inl (some (.int r))) (MEM b c W M) hi) := by
  obtain ⟨f, rfl, hf⟩ := suc_of hf0
  unfold f_X3_findKeyword at h
  refine ⟨Nat.le_of_ble_eq_true rfl, ?_⟩
  refine V_aload_n (i := 0) dX3_findKeyword_0 rfl rfl ?_
  refine V_getfield dX3_findKeyword_1 (mem_13 hc1) fl_X3_12 rfl ?_
  refine V_ldcS (j := 1) dX3_findKeyword_4 (by decide +kernel) ?_
  refine D_cVI (As := [_]) h dX3_findKeyword_6 cv_X3_139 rfl ⟨_, _, _, (mem_15 hc1), rfl, rfl⟩ rfl (Nat.le_of_ble_eq_true rfl) (fun x hx => e_X6_isText (Nat.le_trans (Nat.le_of_ble_eq_true rfl) hf) hc1 (by decide) hx) fun v1 h => ?_
  refine D_if_eq (tgt := 14) h dX3_findKeyword_9 rfl (fun b2 h => ?_) (fun b2 h => ?_)
  · refine V_aload_n (i := 0) dX3_findKeyword_14 rfl rfl ?_
    refine V_getfield dX3_findKeyword_15 (mem_13 hc1) fl_X3_12 rfl ?_
    refine V_ldcS (j := 2) dX3_findKeyword_18 (by decide +kernel) ?_
    refine D_cVI (As := [_]) h dX3_findKeyword_20 cv_X3_139 rfl ⟨_, _, _, (mem_15 hc1), rfl, rfl⟩ rfl (Nat.le_of_ble_eq_true rfl) (fun x hx => e_X6_isText (Nat.le_trans (Nat.le_of_ble_eq_true rfl) hf) hc1 (by decide) hx) fun v3 h => ?_
    refine D_if_eq (tgt := 28) h dX3_findKeyword_23 rfl (fun b4 h => ?_) (fun b4 h => ?_)
    · refine V_aload_n (i := 0) dX3_findKeyword_28 rfl rfl ?_
      refine V_getfield dX3_findKeyword_29 (mem_13 hc1) fl_X3_12 rfl ?_
      refine V_ldcS (j := 3) dX3_findKeyword_32 (by decide +kernel) ?_
      refine D_cVI (As := [_]) h dX3_findKeyword_34 cv_X3_139 rfl ⟨_, _, _, (mem_15 hc1), rfl, rfl⟩ rfl (Nat.le_of_ble_eq_true rfl) (fun x hx => e_X6_isText (Nat.le_trans (Nat.le_of_ble_eq_true rfl) hf) hc1 (by decide) hx) fun v5 h => ?_
      refine D_if_eq (tgt := 42) h dX3_findKeyword_37 rfl (fun b6 h => ?_) (fun b6 h => ?_)
      · refine V_aload_n (i := 0) dX3_findKeyword_42 rfl rfl ?_
        refine V_getfield dX3_findKeyword_43 (mem_13 hc1) fl_X3_12 rfl ?_
        refine V_ldcS (j := 4) dX3_findKeyword_46 (by decide +kernel) ?_
        refine D_cVI (As := [_]) h dX3_findKeyword_48 cv_X3_139 rfl ⟨_, _, _, (mem_15 hc1), rfl, rfl⟩ rfl (Nat.le_of_ble_eq_true rfl) (fun x hx => e_X6_isText (Nat.le_trans (Nat.le_of_ble_eq_true rfl) hf) hc1 (by decide) hx) fun v7 h => ?_
        refine D_if_eq (tgt := 56) h dX3_findKeyword_51 rfl (fun b8 h => ?_) (fun b8 h => ?_)
        · refine V_aload_n (i := 0) dX3_findKeyword_56 rfl rfl ?_
          refine V_getfield dX3_findKeyword_57 (mem_13 hc1) fl_X3_12 rfl ?_
          refine V_ldcS (j := 5) dX3_findKeyword_60 (by decide +kernel) ?_
          refine D_cVI (As := [_]) h dX3_findKeyword_62 cv_X3_139 rfl ⟨_, _, _, (mem_15 hc1), rfl, rfl⟩ rfl (Nat.le_of_ble_eq_true rfl) (fun x hx => e_X6_isText (Nat.le_trans (Nat.le_of_ble_eq_true rfl) hf) hc1 (by decide) hx) fun v9 h => ?_
          refine D_if_eq (tgt := 70) h dX3_findKeyword_65 rfl (fun b10 h => ?_) (fun b10 h => ?_)
          · refine V_aload_n (i := 0) dX3_findKeyword_70 rfl rfl ?_
            refine V_getfield dX3_findKeyword_71 (mem_13 hc1) fl_X3_12 rfl ?_
            refine V_ldcS (j := 6) dX3_findKeyword_74 (by decide +kernel) ?_
            refine D_cVI (As := [_]) h dX3_findKeyword_76 cv_X3_139 rfl ⟨_, _, _, (mem_15 hc1), rfl, rfl⟩ rfl (Nat.le_of_ble_eq_true rfl) (fun x hx => e_X6_isText (Nat.le_trans (Nat.le_of_ble_eq_true rfl) hf) hc1 (by decide) hx) fun v11 h => ?_
            refine D_if_eq (tgt := 85) h dX3_findKeyword_79 rfl (fun b12 h => ?_) (fun b12 h => ?_)
            · refine V_aload_n (i := 0) dX3_findKeyword_85 rfl rfl ?_
              refine V_getfield dX3_findKeyword_86 (mem_13 hc1) fl_X3_12 rfl ?_
              refine V_ldcS (j := 7) dX3_findKeyword_89 (by decide +kernel) ?_
              refine D_cVI (As := [_]) h dX3_findKeyword_91 cv_X3_139 rfl ⟨_, _, _, (mem_15 hc1), rfl, rfl⟩ rfl (Nat.le_of_ble_eq_true rfl) (fun x hx => e_X6_isText (Nat.le_trans (Nat.le_of_ble_eq_true rfl) hf) hc1 (by decide) hx) fun v13 h => ?_
              refine D_if_eq (tgt := 100) h dX3_findKeyword_94 rfl (fun b14 h => ?_) (fun b14 h => ?_)
              · refine V_aload_n (i := 0) dX3_findKeyword_100 rfl rfl ?_
                refine V_getfield dX3_findKeyword_101 (mem_13 hc1) fl_X3_12 rfl ?_
                refine V_ldcS (j := 8) dX3_findKeyword_104 (by decide +kernel) ?_
                refine D_cVI (As := [_]) h dX3_findKeyword_106 cv_X3_139 rfl ⟨_, _, _, (mem_15 hc1), rfl, rfl⟩ rfl (Nat.le_of_ble_eq_true rfl) (fun x hx => e_X6_isText (Nat.le_trans (Nat.le_of_ble_eq_true rfl) hf) hc1 (by decide) hx) fun v15 h => ?_
                refine D_if_eq (tgt := 117) h dX3_findKeyword_109 rfl (fun b16 h => ?_) (fun b16 h => ?_)
                · refine V_iconst (v := -1) dX3_findKeyword_117 (by decide) ?_
                  obtain rfl := Option.some.inj h
                  exact V_ireturn dX3_findKeyword_118 ⟨_, rfl, rfl⟩ ⟨rfl, rfl, rfl⟩
                · refine V_bipush (v := 8) dX3_findKeyword_112 (by decide) ?_
                  refine V_goto (tgt := 118) dX3_findKeyword_114 rfl ?_
                  obtain rfl := Option.some.inj h
                  exact V_ireturn dX3_findKeyword_118 ⟨_, rfl, rfl⟩ ⟨rfl, rfl, rfl⟩
              · refine V_bipush (v := 7) dX3_findKeyword_97 (by decide) ?_
                obtain rfl := Option.some.inj h
                exact V_ireturn dX3_findKeyword_99 ⟨_, rfl, rfl⟩ ⟨rfl, rfl, rfl⟩
            · refine V_bipush (v := 6) dX3_findKeyword_82 (by decide) ?_
              obtain rfl := Option.some.inj h
              exact V_ireturn dX3_findKeyword_84 ⟨_, rfl, rfl⟩ ⟨rfl, rfl, rfl⟩
          · refine V_iconst (v := 5) dX3_findKeyword_68 (by decide) ?_
            obtain rfl := Option.some.inj h
            exact V_ireturn dX3_findKeyword_69 ⟨_, rfl, rfl⟩ ⟨rfl, rfl, rfl⟩
        · refine V_iconst (v := 4) dX3_findKeyword_54 (by decide) ?_
          obtain rfl := Option.some.inj h
          exact V_ireturn dX3_findKeyword_55 ⟨_, rfl, rfl⟩ ⟨rfl, rfl, rfl⟩
      · refine V_iconst (v := 3) dX3_findKeyword_40 (by decide) ?_
        obtain rfl := Option.some.inj h
        exact V_ireturn dX3_findKeyword_41 ⟨_, rfl, rfl⟩ ⟨rfl, rfl, rfl⟩
    · refine V_iconst (v := 2) dX3_findKeyword_26 (by decide) ?_
      obtain rfl := Option.some.inj h
      exact V_ireturn dX3_findKeyword_27 ⟨_, rfl, rfl⟩ ⟨rfl, rfl, rfl⟩
  · refine V_iconst (v := 1) dX3_findKeyword_12 (by decide) ?_
    obtain rfl := Option.some.inj h
    exact V_ireturn dX3_findKeyword_13 ⟨_, rfl, rfl⟩ ⟨rfl, rfl, rfl⟩
noncomputable def l_X6_packName_22 (W : Nat → Nat → Int32) : Nat → Int32 → Int32 → Option Int32
  | 0, _, _ => none
  | N + 1, x1, x2 => if (W 15 3) ≤ x2 then some x1 else bdc (f_X6_byteAt W x2) (fun v4 => bnd ((x1 <<< ((8 : Int32) &&& 31)) ||| v4) (fun v5 => l_X6_packName_22 W N v5 (x2 + (1 : Int32))))
theorem lv_X6_packName_22 {G : GT} {f : Nat} {b c : Nat} {M : MM} {hi k n : Nat} {W : Nat → Nat → Int32} {r : Int32} (hf : 1 ≤ f) (hc1 : 609 ≤ c) : ∀ (N : Nat) (x1 : Int32) (x2 : Int32) , l_X6_packName_22 W N x1 x2 = some r → V G f (Ex G f) mX6_packName (RH (.inl (some (.int r))) (MEM b c W M) hi) 22 [(0, .ref (b + 94)), (1, .int x1), (2, .int x2)] [] (MEM b c W M) hi k n := by
  intro N
  induction N with
  | zero => intro x1 x2 h; cases h
  | succ N ih =>
    intro x1 x2 h
    rw [l_X6_packName_22] at h
    refine V_iload_n (i := 2) dX6_packName_22 rfl rfl ?_
    refine V_aload_n (i := 0) dX6_packName_23 rfl rfl ?_
    refine V_getfield dX6_packName_24 (mem_15 hc1) fl_X6_32 rfl ?_
    refine D_icmp_ge (tgt := 47) h dX6_packName_27 rfl (fun b3 h => ?_) (fun b3 h => ?_)
    · refine V_iload_n (i := 1) dX6_packName_47 rfl rfl ?_
      obtain rfl := Option.some.inj h
      exact V_ireturn dX6_packName_48 ⟨_, rfl, rfl⟩ ⟨rfl, rfl, rfl⟩
    · refine V_iload_n (i := 1) dX6_packName_30 rfl rfl ?_
      refine V_bipush (v := 8) dX6_packName_31 (by decide) ?_
      refine V_ishl dX6_packName_33 ?_
      refine V_aload_n (i := 0) dX6_packName_34 rfl rfl ?_
      refine V_iload_n (i := 2) dX6_packName_35 rfl rfl ?_
      refine D_cVI (As := [_]) h dX6_packName_36 cv_X6_41 rfl ⟨_, _, _, (mem_15 hc1), rfl, rfl⟩ rfl (Nat.le_of_ble_eq_true rfl) (fun x hx => e_X6_byteAt (Nat.le_trans (Nat.le_of_ble_eq_true rfl) hf) hc1 hx) fun v4 h => ?_
      refine V_ior dX6_packName_39 ?_
      refine D_istore_n (i := 1) h dX6_packName_40 rfl (Nat.le_of_ble_eq_true rfl) fun v5 h => ?_
      refine D_iinc (i := 2) (w := 1) dX6_packName_41 rfl (by decide) (Nat.le_of_ble_eq_true rfl) ?_
      refine V_goto (tgt := 22) dX6_packName_44 rfl ?_
      exact V_sub (ks := [2, 1, 0]) rfl (ih _ _ h)
noncomputable def f_X6_packName (W : Nat → Nat → Int32) : Option Int32 :=
  if ((W 15 3) - (W 15 2)) ≤ (4 : Int32) then bnd (W 15 2) (fun v2 => l_X6_packName_22 W FU (0 : Int32) v2) else some (0 : Int32)
theorem e_X6_packName {G : GT} {f0 : Nat} {b c : Nat} {M : MM} {hi k n : Nat} {W : Nat → Nat → Int32} {r : Int32} (hf0 : 2 ≤ f0) (hc1 : 609 ≤ c) (h : f_X6_packName W = some r) : Ex G f0 mX6_packName [.ref (b + 94)] (MEM b c W M) hi k n (RH (.inl (some (.int r))) (MEM b c W M) hi) := by
  obtain ⟨f, rfl, hf⟩ := suc_of hf0
  unfold f_X6_packName at h
  refine ⟨Nat.le_of_ble_eq_true rfl, ?_⟩
  refine V_aload_n (i := 0) dX6_packName_0 rfl rfl ?_
  refine V_getfield dX6_packName_1 (mem_15 hc1) fl_X6_32 rfl ?_
  refine V_aload_n (i := 0) dX6_packName_4 rfl rfl ?_
  refine V_getfield dX6_packName_5 (mem_15 hc1) fl_X6_38 rfl ?_
  refine V_isub dX6_packName_8 ?_
  refine V_iconst (v := 4) dX6_packName_9 (by decide) ?_
  refine D_icmp_le (tgt := 15) h dX6_packName_10 rfl (fun b1 h => ?_) (fun b1 h => ?_)
  · refine V_iconst (v := 0) dX6_packName_15 (by decide) ?_
    refine V_istore_n (i := 1) dX6_packName_16 rfl (Nat.le_of_ble_eq_true rfl) ?_
    refine V_aload_n (i := 0) dX6_packName_17 rfl rfl ?_
    refine V_getfield dX6_packName_18 (mem_15 hc1) fl_X6_38 rfl ?_
    refine D_istore_n (i := 2) h dX6_packName_21 rfl (Nat.le_of_ble_eq_true rfl) fun v2 h => ?_
    refine V_sub (ks := [2, 1, 0]) rfl (lv_X6_packName_22 hf hc1 FU _ _ h)
  · refine V_iconst (v := 0) dX6_packName_13 (by decide) ?_
    obtain rfl := Option.some.inj h
    exact V_ireturn dX6_packName_14 ⟨_, rfl, rfl⟩ ⟨rfl, rfl, rfl⟩
noncomputable def f_X3_findNamedStation (W : Nat → Nat → Int32) : Option (Int32 × (Nat → Nat → Int32)) :=
  jn (fun (v2 : Int32) => if (W 15 1) = (1 : Int32) then if v2 = (-1 : Int32) then bdc (f_X3_fail W (4 : Int32)) (fun W8 => some (v2, W8)) else some (v2, W) else bdc (f_X3_fail W (1 : Int32)) (fun W9 => some (v2, W9))) (fun j1 => if (W 15 1) = (1 : Int32) then bdc (f_X6_packName W) (fun v4 => bdc (f_X4_findStation (W 2) v4) (fun v5 => j1 v5)) else j1 (-1 : Int32))
theorem e_X3_findNamedStation {G : GT} {f0 : Nat} {b c : Nat} {M : MM} {hi k n : Nat} {W : Nat → Nat → Int32} {r : (Int32 × (Nat → Nat → Int32))} (hf0 : 3 ≤ f0) (hc1 : 609 ≤ c) (h : f_X3_findNamedStation W = some r) : Ex G f0 mX3_findNamedStation [.ref (b + 93)] (MEM b c W M) hi k n (RH (.inl (some (.int r.1))) (MEM b c r.2 M) hi) := by
  obtain ⟨f, rfl, hf⟩ := suc_of hf0
  unfold f_X3_findNamedStation at h
  refine ⟨Nat.le_of_ble_eq_true rfl, ?_⟩
  refine V_aload_n (i := 0) dX3_findNamedStation_0 rfl rfl ?_
  refine V_getfield dX3_findNamedStation_1 (mem_13 hc1) fl_X3_12 rfl ?_
  refine V_getfield dX3_findNamedStation_4 (mem_15 hc1) fl_X3_42 rfl ?_
  refine V_iconst (v := 1) dX3_findNamedStation_7 (by decide) ?_
  refine D_jn (fun (j : Int32 → Option (Int32 × (Nat → Nat → Int32))) => ∀ (v2 : Int32), j v2 = some r → V G f (Ex G f) mX3_findNamedStation (RH (.inl (some (.int r.1))) (MEM b c r.2 M) hi) 29 [(0, .ref (b + 93))] [.int v2] (MEM b c W M) hi k n) h (fun j1 hj1 h => ?_) ?_
  · refine D_icmp_ne (tgt := 28) h dX3_findNamedStation_8 rfl (fun b3 h => ?_) (fun b3 h => ?_)
    · refine V_iconst (v := -1) dX3_findNamedStation_28 (by decide) ?_
      exact V_sub (ks := [0]) rfl (hj1 _ h)
    · refine V_aload_n (i := 0) dX3_findNamedStation_11 rfl rfl ?_
      refine V_getfield dX3_findNamedStation_12 (mem_13 hc1) fl_X3_21 rfl ?_
      refine V_aload_n (i := 0) dX3_findNamedStation_15 rfl rfl ?_
      refine V_getfield dX3_findNamedStation_16 (mem_13 hc1) fl_X3_12 rfl ?_
      refine D_cVI (As := []) h dX3_findNamedStation_19 cv_X3_169 rfl ⟨_, _, _, (mem_15 hc1), rfl, rfl⟩ rfl (Nat.le_of_ble_eq_true rfl) (fun x hx => e_X6_packName (Nat.le_trans (Nat.le_of_ble_eq_true rfl) hf) hc1 hx) fun v4 h => ?_
      refine D_cVI (As := [_]) h dX3_findNamedStation_22 cv_X3_172 rfl ⟨_, _, _, (mst_o (u := 2) hc1 (by decide) rfl), rfl, rfl⟩ rfl (Nat.le_of_ble_eq_true rfl) (fun x hx => lift0 (u := 2) hc1 (by decide) rfl (e_X4_findStation (Nat.le_trans (Nat.le_of_ble_eq_true rfl) hf) hx)) fun v5 h => ?_
      refine V_goto (tgt := 29) dX3_findNamedStation_25 rfl ?_
      exact V_sub (ks := [0]) rfl (hj1 _ h)
  · intro v2 h
    refine V_istore_n (i := 1) dX3_findNamedStation_29 rfl (Nat.le_of_ble_eq_true rfl) ?_
    refine V_aload_n (i := 0) dX3_findNamedStation_30 rfl rfl ?_
    refine V_getfield dX3_findNamedStation_31 (mem_13 hc1) fl_X3_12 rfl ?_
    refine V_getfield dX3_findNamedStation_34 (mem_15 hc1) fl_X3_42 rfl ?_
    refine V_iconst (v := 1) dX3_findNamedStation_37 (by decide) ?_
    refine D_icmp_eq (tgt := 49) h dX3_findNamedStation_38 rfl (fun b6 h => ?_) (fun b6 h => ?_)
    · refine V_iload_n (i := 1) dX3_findNamedStation_49 rfl rfl ?_
      refine V_iconst (v := -1) dX3_findNamedStation_50 (by decide) ?_
      refine D_icmp_ne (tgt := 59) h dX3_findNamedStation_51 rfl (fun b7 h => ?_) (fun b7 h => ?_)
      · refine V_iload_n (i := 1) dX3_findNamedStation_59 rfl rfl ?_
        obtain rfl := Option.some.inj h
        exact V_ireturn dX3_findNamedStation_60 ⟨_, rfl, rfl⟩ ⟨rfl, rfl, rfl⟩
      · refine V_aload_n (i := 0) dX3_findNamedStation_54 rfl rfl ?_
        refine V_iconst (v := 4) dX3_findNamedStation_55 (by decide) ?_
        refine D_cVU (As := [_]) (μ := fun W8 => (MEM b c W8 M)) h dX3_findNamedStation_56 cv_X3_95 rfl ⟨_, _, _, (mem_13 hc1), rfl, rfl⟩ rfl (Nat.le_of_ble_eq_true rfl) (fun y hx => e_X3_fail (Nat.le_trans (Nat.le_of_ble_eq_true rfl) hf) hc1 hx) fun W8 h => ?_
        refine V_iload_n (i := 1) dX3_findNamedStation_59 rfl rfl ?_
        obtain rfl := Option.some.inj h
        exact V_ireturn dX3_findNamedStation_60 ⟨_, rfl, rfl⟩ ⟨rfl, rfl, rfl⟩
    · refine V_aload_n (i := 0) dX3_findNamedStation_41 rfl rfl ?_
      refine V_iconst (v := 1) dX3_findNamedStation_42 (by decide) ?_
      refine D_cVU (As := [_]) (μ := fun W9 => (MEM b c W9 M)) h dX3_findNamedStation_43 cv_X3_95 rfl ⟨_, _, _, (mem_13 hc1), rfl, rfl⟩ rfl (Nat.le_of_ble_eq_true rfl) (fun y hx => e_X3_fail (Nat.le_trans (Nat.le_of_ble_eq_true rfl) hf) hc1 hx) fun W9 h => ?_
      refine V_goto (tgt := 59) dX3_findNamedStation_46 rfl ?_
      refine V_iload_n (i := 1) dX3_findNamedStation_59 rfl rfl ?_
      obtain rfl := Option.some.inj h
      exact V_ireturn dX3_findNamedStation_60 ⟨_, rfl, rfl⟩ ⟨rfl, rfl, rfl⟩
noncomputable def f_X3_isFull (W : Nat → Nat → Int32) (a1 : Int32) : Option Int32 :=
  if a1 = (1 : Int32) then if (W 2 1) < (8 : Int32) then some (0 : Int32) else some (1 : Int32) else if a1 = (2 : Int32) then if (W 2 1) < (8 : Int32) then some (0 : Int32) else some (1 : Int32) else if a1 = (3 : Int32) then if (W 2 2) < (12 : Int32) then some (0 : Int32) else some (1 : Int32) else if a1 = (4 : Int32) then if (W 2 3) < (4 : Int32) then some (0 : Int32) else some (1 : Int32) else if a1 = (5 : Int32) then if (W 2 4) < (12 : Int32) then some (0 : Int32) else some (1 : Int32) else gd (tso a1 1 5) (some (0 : Int32))
theorem e_X3_isFull {G : GT} {f0 : Nat} {b c : Nat} {M : MM} {hi k n : Nat} {W : Nat → Nat → Int32} {a1 : Int32} {r : Int32} (hf0 : 1 ≤ f0) (hc1 : 609 ≤ c) (h : f_X3_isFull W a1 = some r) : Ex G f0 mX3_isFull [.ref (b + 93), .int a1] (MEM b c W M) hi k n (RH (.inl (some (.int r))) (MEM b c W M) hi) := by
  obtain ⟨f, rfl, hf⟩ := suc_of hf0
  unfold f_X3_isFull at h
  refine ⟨Nat.le_of_ble_eq_true rfl, ?_⟩
  refine V_iload_n (i := 1) dX3_isFull_0 rfl rfl ?_
  refine D_ite h (fun b1 h => ?_) (fun b1 h => ?_)
  · refine V_tsIn (c := 1) (off := 35) (tgt := 36) b1 dX3_isFull_1 (by decide) (by decide) (by decide) rfl ?_
    refine V_aload_n (i := 0) dX3_isFull_36 rfl rfl ?_
    refine V_getfield dX3_isFull_37 (mem_13 hc1) fl_X3_21 rfl ?_
    refine V_getfield dX3_isFull_40 (mst_o (u := 2) hc1 (by decide) rfl) fl_X3_157 rfl ?_
    refine V_bipush (v := 8) dX3_isFull_43 (by decide) ?_
    refine D_icmp_lt (tgt := 52) h dX3_isFull_45 rfl (fun b2 h => ?_) (fun b2 h => ?_)
    · refine V_iconst (v := 0) dX3_isFull_52 (by decide) ?_
      obtain rfl := Option.some.inj h
      exact V_ireturn dX3_isFull_53 ⟨_, rfl, rfl⟩ ⟨rfl, rfl, rfl⟩
    · refine V_iconst (v := 1) dX3_isFull_48 (by decide) ?_
      refine V_goto (tgt := 53) dX3_isFull_49 rfl ?_
      obtain rfl := Option.some.inj h
      exact V_ireturn dX3_isFull_53 ⟨_, rfl, rfl⟩ ⟨rfl, rfl, rfl⟩
  refine D_ite h (fun b3 h => ?_) (fun b3 h => ?_)
  · refine V_tsIn (c := 2) (off := 35) (tgt := 36) b3 dX3_isFull_1 (by decide) (by decide) (by decide) rfl ?_
    refine V_aload_n (i := 0) dX3_isFull_36 rfl rfl ?_
    refine V_getfield dX3_isFull_37 (mem_13 hc1) fl_X3_21 rfl ?_
    refine V_getfield dX3_isFull_40 (mst_o (u := 2) hc1 (by decide) rfl) fl_X3_157 rfl ?_
    refine V_bipush (v := 8) dX3_isFull_43 (by decide) ?_
    refine D_icmp_lt (tgt := 52) h dX3_isFull_45 rfl (fun b4 h => ?_) (fun b4 h => ?_)
    · refine V_iconst (v := 0) dX3_isFull_52 (by decide) ?_
      obtain rfl := Option.some.inj h
      exact V_ireturn dX3_isFull_53 ⟨_, rfl, rfl⟩ ⟨rfl, rfl, rfl⟩
    · refine V_iconst (v := 1) dX3_isFull_48 (by decide) ?_
      refine V_goto (tgt := 53) dX3_isFull_49 rfl ?_
      obtain rfl := Option.some.inj h
      exact V_ireturn dX3_isFull_53 ⟨_, rfl, rfl⟩ ⟨rfl, rfl, rfl⟩
  refine D_ite h (fun b5 h => ?_) (fun b5 h => ?_)
  · refine V_tsIn (c := 3) (off := 53) (tgt := 54) b5 dX3_isFull_1 (by decide) (by decide) (by decide) rfl ?_
    refine V_aload_n (i := 0) dX3_isFull_54 rfl rfl ?_
    refine V_getfield dX3_isFull_55 (mem_13 hc1) fl_X3_21 rfl ?_
    refine V_getfield dX3_isFull_58 (mst_o (u := 2) hc1 (by decide) rfl) fl_X3_160 rfl ?_
    refine V_bipush (v := 12) dX3_isFull_61 (by decide) ?_
    refine D_icmp_lt (tgt := 70) h dX3_isFull_63 rfl (fun b6 h => ?_) (fun b6 h => ?_)
    · refine V_iconst (v := 0) dX3_isFull_70 (by decide) ?_
      obtain rfl := Option.some.inj h
      exact V_ireturn dX3_isFull_71 ⟨_, rfl, rfl⟩ ⟨rfl, rfl, rfl⟩
    · refine V_iconst (v := 1) dX3_isFull_66 (by decide) ?_
      refine V_goto (tgt := 71) dX3_isFull_67 rfl ?_
      obtain rfl := Option.some.inj h
      exact V_ireturn dX3_isFull_71 ⟨_, rfl, rfl⟩ ⟨rfl, rfl, rfl⟩
  refine D_ite h (fun b7 h => ?_) (fun b7 h => ?_)
  · refine V_tsIn (c := 4) (off := 71) (tgt := 72) b7 dX3_isFull_1 (by decide) (by decide) (by decide) rfl ?_
    refine V_aload_n (i := 0) dX3_isFull_72 rfl rfl ?_
    refine V_getfield dX3_isFull_73 (mem_13 hc1) fl_X3_21 rfl ?_
    refine V_getfield dX3_isFull_76 (mst_o (u := 2) hc1 (by decide) rfl) fl_X3_163 rfl ?_
    refine V_iconst (v := 4) dX3_isFull_79 (by decide) ?_
    refine D_icmp_lt (tgt := 87) h dX3_isFull_80 rfl (fun b8 h => ?_) (fun b8 h => ?_)
    · refine V_iconst (v := 0) dX3_isFull_87 (by decide) ?_
      obtain rfl := Option.some.inj h
      exact V_ireturn dX3_isFull_88 ⟨_, rfl, rfl⟩ ⟨rfl, rfl, rfl⟩
    · refine V_iconst (v := 1) dX3_isFull_83 (by decide) ?_
      refine V_goto (tgt := 88) dX3_isFull_84 rfl ?_
      obtain rfl := Option.some.inj h
      exact V_ireturn dX3_isFull_88 ⟨_, rfl, rfl⟩ ⟨rfl, rfl, rfl⟩
  refine D_ite h (fun b9 h => ?_) (fun b9 h => ?_)
  · refine V_tsIn (c := 5) (off := 88) (tgt := 89) b9 dX3_isFull_1 (by decide) (by decide) (by decide) rfl ?_
    refine V_aload_n (i := 0) dX3_isFull_89 rfl rfl ?_
    refine V_getfield dX3_isFull_90 (mem_13 hc1) fl_X3_21 rfl ?_
    refine V_getfield dX3_isFull_93 (mst_o (u := 2) hc1 (by decide) rfl) fl_X3_166 rfl ?_
    refine V_bipush (v := 12) dX3_isFull_96 (by decide) ?_
    refine D_icmp_lt (tgt := 105) h dX3_isFull_98 rfl (fun b10 h => ?_) (fun b10 h => ?_)
    · refine V_iconst (v := 0) dX3_isFull_105 (by decide) ?_
      obtain rfl := Option.some.inj h
      exact V_ireturn dX3_isFull_106 ⟨_, rfl, rfl⟩ ⟨rfl, rfl, rfl⟩
    · refine V_iconst (v := 1) dX3_isFull_101 (by decide) ?_
      refine V_goto (tgt := 106) dX3_isFull_102 rfl ?_
      obtain rfl := Option.some.inj h
      exact V_ireturn dX3_isFull_106 ⟨_, rfl, rfl⟩ ⟨rfl, rfl, rfl⟩
  refine V_tsOut (tgt := 107) h dX3_isFull_1 rfl fun h => ?_
  refine V_iconst (v := 0) dX3_isFull_107 (by decide) ?_
  obtain rfl := Option.some.inj h
  exact V_ireturn dX3_isFull_108 ⟨_, rfl, rfl⟩ ⟨rfl, rfl, rfl⟩
noncomputable def l_X6_findRunEnd_5 (W : Nat → Nat → Int32) (c1 : Int32) (c2 : Int32) : Nat → Int32 → Option Int32
  | 0, _ => none
  | N + 1, x3 => if (W 15 0) ≤ x3 then some x3 else bdc (f_X6_byteAt W x3) (fun v3 => if v3 < c1 then some x3 else bdc (f_X6_byteAt W x3) (fun v5 => if c2 < v5 then some x3 else l_X6_findRunEnd_5 W c1 c2 N (x3 + (1 : Int32))))
theorem lv_X6_findRunEnd_5 {G : GT} {f : Nat} {b c : Nat} {M : MM} {hi k n : Nat} {W : Nat → Nat → Int32} {c1 : Int32} {c2 : Int32} {r : Int32} (hf : 1 ≤ f) (hc1 : 609 ≤ c) : ∀ (N : Nat) (x3 : Int32) , l_X6_findRunEnd_5 W c1 c2 N x3 = some r → V G f (Ex G f) mX6_findRunEnd (RH (.inl (some (.int r))) (MEM b c W M) hi) 5 [(0, .ref (b + 94)), (1, .int c1), (2, .int c2), (3, .int x3)] [] (MEM b c W M) hi k n := by
  intro N
  induction N with
  | zero => intro x3 h; cases h
  | succ N ih =>
    intro x3 h
    rw [l_X6_findRunEnd_5] at h
    refine V_iload_n (i := 3) dX6_findRunEnd_5 rfl rfl ?_
    refine V_aload_n (i := 0) dX6_findRunEnd_6 rfl rfl ?_
    refine V_getfield dX6_findRunEnd_7 (mem_15 hc1) fl_X6_15 rfl ?_
    refine D_icmp_ge (tgt := 37) h dX6_findRunEnd_10 rfl (fun b2 h => ?_) (fun b2 h => ?_)
    · refine V_iload_n (i := 3) dX6_findRunEnd_37 rfl rfl ?_
      obtain rfl := Option.some.inj h
      exact V_ireturn dX6_findRunEnd_38 ⟨_, rfl, rfl⟩ ⟨rfl, rfl, rfl⟩
    · refine V_aload_n (i := 0) dX6_findRunEnd_13 rfl rfl ?_
      refine V_iload_n (i := 3) dX6_findRunEnd_14 rfl rfl ?_
      refine D_cVI (As := [_]) h dX6_findRunEnd_15 cv_X6_41 rfl ⟨_, _, _, (mem_15 hc1), rfl, rfl⟩ rfl (Nat.le_of_ble_eq_true rfl) (fun x hx => e_X6_byteAt (Nat.le_trans (Nat.le_of_ble_eq_true rfl) hf) hc1 hx) fun v3 h => ?_
      refine V_iload_n (i := 1) dX6_findRunEnd_18 rfl rfl ?_
      refine D_icmp_lt (tgt := 37) h dX6_findRunEnd_19 rfl (fun b4 h => ?_) (fun b4 h => ?_)
      · refine V_iload_n (i := 3) dX6_findRunEnd_37 rfl rfl ?_
        obtain rfl := Option.some.inj h
        exact V_ireturn dX6_findRunEnd_38 ⟨_, rfl, rfl⟩ ⟨rfl, rfl, rfl⟩
      · refine V_aload_n (i := 0) dX6_findRunEnd_22 rfl rfl ?_
        refine V_iload_n (i := 3) dX6_findRunEnd_23 rfl rfl ?_
        refine D_cVI (As := [_]) h dX6_findRunEnd_24 cv_X6_41 rfl ⟨_, _, _, (mem_15 hc1), rfl, rfl⟩ rfl (Nat.le_of_ble_eq_true rfl) (fun x hx => e_X6_byteAt (Nat.le_trans (Nat.le_of_ble_eq_true rfl) hf) hc1 hx) fun v5 h => ?_
        refine V_iload_n (i := 2) dX6_findRunEnd_27 rfl rfl ?_
        refine D_icmp_gt (tgt := 37) h dX6_findRunEnd_28 rfl (fun b6 h => ?_) (fun b6 h => ?_)
        · refine V_iload_n (i := 3) dX6_findRunEnd_37 rfl rfl ?_
          obtain rfl := Option.some.inj h
          exact V_ireturn dX6_findRunEnd_38 ⟨_, rfl, rfl⟩ ⟨rfl, rfl, rfl⟩
        · refine D_iinc (i := 3) (w := 1) dX6_findRunEnd_31 rfl (by decide) (Nat.le_of_ble_eq_true rfl) ?_
          refine V_goto (tgt := 5) dX6_findRunEnd_34 rfl ?_
          exact V_sub (ks := [1, 2, 3, 0]) rfl (ih _ h)
noncomputable def f_X6_findRunEnd (W : Nat → Nat → Int32) (a1 : Int32) (a2 : Int32) : Option Int32 :=
  bnd (W 15 2) (fun v1 => l_X6_findRunEnd_5 W a1 a2 FU v1)
theorem e_X6_findRunEnd {G : GT} {f0 : Nat} {b c : Nat} {M : MM} {hi k n : Nat} {W : Nat → Nat → Int32} {a1 : Int32} {a2 : Int32} {r : Int32} (hf0 : 2 ≤ f0) (hc1 : 609 ≤ c) (h : f_X6_findRunEnd W a1 a2 = some r) : Ex G f0 mX6_findRunEnd [.ref (b + 94), .int a1, .int a2] (MEM b c W M) hi k n (RH (.inl (some (.int r))) (MEM b c W M) hi) := by
  obtain ⟨f, rfl, hf⟩ := suc_of hf0
  unfold f_X6_findRunEnd at h
  refine ⟨Nat.le_of_ble_eq_true rfl, ?_⟩
  refine V_aload_n (i := 0) dX6_findRunEnd_0 rfl rfl ?_
  refine V_getfield dX6_findRunEnd_1 (mem_15 hc1) fl_X6_38 rfl ?_
  refine D_istore_n (i := 3) h dX6_findRunEnd_4 rfl (Nat.le_of_ble_eq_true rfl) fun v1 h => ?_
  refine V_sub (ks := [1, 2, 3, 0]) rfl (lv_X6_findRunEnd_5 hf hc1 FU _ h)
noncomputable def l_X6_advance_8 (K46 : (Nat → Nat → Int32) → Option (Nat → Nat → Int32)) : Nat → (Nat → Nat → Int32) → Option (Nat → Nat → Int32)
  | 0, _ => none
  | N + 1, W => if (W 15 0) ≤ (W 15 2) then K46 W else bdc (f_X6_byteAt W (W 15 2)) (fun v3 => bdc (f_X6_isBlank v3) (fun v4 => if v4 = 0 then K46 W else bnd (w2 W 15 2 ((W 15 2) + (1 : Int32))) (fun W6 => l_X6_advance_8 K46 N W6)))
theorem lv_X6_advance_8 {G : GT} {f : Nat} {b c : Nat} {M : MM} {hi k n : Nat} {K46 : (Nat → Nat → Int32) → Option (Nat → Nat → Int32)} {r : (Nat → Nat → Int32)} (hf : 2 ≤ f) (hc1 : 609 ≤ c) (hK46 : ∀ (Wk : Nat → Nat → Int32), K46 Wk = some r → V G f (Ex G f) mX6_advance (RH (.inl none) (MEM b c r M) hi) 46 [(0, .ref (b + 94))] [] (MEM b c Wk M) hi k n) : ∀ (N : Nat) (W : Nat → Nat → Int32) , l_X6_advance_8 K46 N W = some r → V G f (Ex G f) mX6_advance (RH (.inl none) (MEM b c r M) hi) 8 [(0, .ref (b + 94))] [] (MEM b c W M) hi k n := by
  intro N
  induction N with
  | zero => intro W h; cases h
  | succ N ih =>
    intro W h
    rw [l_X6_advance_8] at h
    refine V_aload_n (i := 0) dX6_advance_8 rfl rfl ?_
    refine V_getfield dX6_advance_9 (mem_15 hc1) fl_X6_38 rfl ?_
    refine V_aload_n (i := 0) dX6_advance_12 rfl rfl ?_
    refine V_getfield dX6_advance_13 (mem_15 hc1) fl_X6_15 rfl ?_
    refine D_icmp_ge (tgt := 46) h dX6_advance_16 rfl (fun b2 h => ?_) (fun b2 h => ?_)
    · exact V_sub (ks := [0]) rfl (hK46 _ h)
    · refine V_aload_n (i := 0) dX6_advance_19 rfl rfl ?_
      refine V_aload_n (i := 0) dX6_advance_20 rfl rfl ?_
      refine V_getfield dX6_advance_21 (mem_15 hc1) fl_X6_38 rfl ?_
      refine D_cVI (As := [_]) h dX6_advance_24 cv_X6_41 rfl ⟨_, _, _, (mem_15 hc1), rfl, rfl⟩ rfl (Nat.le_of_ble_eq_true rfl) (fun x hx => e_X6_byteAt (Nat.le_trans (Nat.le_of_ble_eq_true rfl) hf) hc1 hx) fun v3 h => ?_
      refine D_cSI (As := [_]) h dX6_advance_27 cs_X6_45 rfl rfl (Nat.le_of_ble_eq_true rfl) (fun x hx => e_X6_isBlank (Nat.le_trans (Nat.le_of_ble_eq_true rfl) hf) hx) fun v4 h => ?_
      refine D_if_eq (tgt := 46) h dX6_advance_30 rfl (fun b5 h => ?_) (fun b5 h => ?_)
      · exact V_sub (ks := [0]) rfl (hK46 _ h)
      · refine V_aload_n (i := 0) dX6_advance_33 rfl rfl ?_
        refine V_dup dX6_advance_34 rfl ?_
        refine V_getfield dX6_advance_35 (mem_15 hc1) fl_X6_38 rfl ?_
        refine V_iconst (v := 1) dX6_advance_38 (by decide) ?_
        refine V_iadd dX6_advance_39 ?_
        refine D3_put h dX6_advance_40 (mem_15 hc1) (fp_X6_38 rfl) (Nat.le_of_ble_eq_true rfl) (psc_15_2 hc1) fun W6 h => ?_
        refine V_goto (tgt := 8) dX6_advance_43 rfl ?_
        exact V_sub (ks := [0]) rfl (ih _ h)
noncomputable def f_X6_advance (W : Nat → Nat → Int32) : Option (Nat → Nat → Int32) :=
  bnd (w2 W 15 2 (W 15 3)) (fun W1 => l_X6_advance_8 (fun (x7 : Nat → Nat → Int32) => bdc (f_X6_byteAt x7 (x7 15 2)) (fun v8 => if (x7 15 2) < (x7 15 0) then jn (jn (if v8 = (59 : Int32) then bnd (w2 x7 15 1 (3 : Int32)) (fun W25 => bnd (w2 W25 15 3 ((W25 15 2) + (1 : Int32))) (fun W26 => some W26)) else bnd (w2 x7 15 1 (4 : Int32)) (fun W23 => bnd (w2 W23 15 3 ((W23 15 2) + (1 : Int32))) (fun W24 => some W24))) (fun j16 => if v8 < (48 : Int32) then j16 else if (57 : Int32) < v8 then j16 else bnd (w2 x7 15 1 (2 : Int32)) (fun W19 => bdc (f_X6_findRunEnd W19 (48 : Int32) (57 : Int32)) (fun v20 => bnd (w2 W19 15 3 v20) (fun W21 => some W21))))) (fun j10 => if v8 < (97 : Int32) then j10 else if (122 : Int32) < v8 then j10 else bnd (w2 x7 15 1 (1 : Int32)) (fun W13 => bdc (f_X6_findRunEnd W13 (97 : Int32) (122 : Int32)) (fun v14 => bnd (w2 W13 15 3 v14) (fun W15 => some W15)))) else bnd (w2 x7 15 1 (0 : Int32)) (fun W27 => bnd (w2 W27 15 3 (W27 15 0)) (fun W28 => some W28)))) FU W1)
theorem e_X6_advance {G : GT} {f0 : Nat} {b c : Nat} {M : MM} {hi k n : Nat} {W : Nat → Nat → Int32} {r : (Nat → Nat → Int32)} (hf0 : 3 ≤ f0) (hc1 : 609 ≤ c) (h : f_X6_advance W = some r) : Ex G f0 mX6_advance [.ref (b + 94)] (MEM b c W M) hi k n (RH (.inl none) (MEM b c r M) hi) := by
  obtain ⟨f, rfl, hf⟩ := suc_of hf0
  unfold f_X6_advance at h
  refine ⟨Nat.le_of_ble_eq_true rfl, ?_⟩
  refine V_aload_n (i := 0) dX6_advance_0 rfl rfl ?_
  refine V_aload_n (i := 0) dX6_advance_1 rfl rfl ?_
  refine V_getfield dX6_advance_2 (mem_15 hc1) fl_X6_32 rfl ?_
  refine D3_put h dX6_advance_5 (mem_15 hc1) (fp_X6_38 rfl) (Nat.le_of_ble_eq_true rfl) (psc_15_2 hc1) fun W1 h => ?_
  refine V_sub (ks := [0]) rfl (lv_X6_advance_8 hf hc1 ?_ FU _ h)
  · intro x7 h
    refine V_aload_n (i := 0) dX6_advance_46 rfl rfl ?_
    refine V_aload_n (i := 0) dX6_advance_47 rfl rfl ?_
    refine V_getfield dX6_advance_48 (mem_15 hc1) fl_X6_38 rfl ?_
    refine D_cVI (As := [_]) h dX6_advance_51 cv_X6_41 rfl ⟨_, _, _, (mem_15 hc1), rfl, rfl⟩ rfl (Nat.le_of_ble_eq_true rfl) (fun x hx => e_X6_byteAt (Nat.le_trans (Nat.le_of_ble_eq_true rfl) hf) hc1 hx) fun v8 h => ?_
    refine V_istore_n (i := 1) dX6_advance_54 rfl (Nat.le_of_ble_eq_true rfl) ?_
    refine V_aload_n (i := 0) dX6_advance_55 rfl rfl ?_
    refine V_getfield dX6_advance_56 (mem_15 hc1) fl_X6_38 rfl ?_
    refine V_aload_n (i := 0) dX6_advance_59 rfl rfl ?_
    refine V_getfield dX6_advance_60 (mem_15 hc1) fl_X6_15 rfl ?_
    refine D_icmp_lt (tgt := 82) h dX6_advance_63 rfl (fun b9 h => ?_) (fun b9 h => ?_)
    · refine V_iload_n (i := 1) dX6_advance_82 rfl rfl ?_
      refine V_bipush (v := 97) dX6_advance_83 (by decide) ?_
      refine D_jn (fun (j : Option (Nat → Nat → Int32)) =>  j = some r → V G f (Ex G f) mX6_advance (RH (.inl none) (MEM b c r M) hi) 114 [(0, .ref (b + 94)), (1, .int v8)] [] (MEM b c x7 M) hi k n) h (fun j10 hj10 h => ?_) ?_
      · refine D_icmp_lt (tgt := 114) h dX6_advance_85 rfl (fun b11 h => ?_) (fun b11 h => ?_)
        · exact V_sub (ks := [1, 0]) rfl (hj10 h)
        · refine V_iload_n (i := 1) dX6_advance_88 rfl rfl ?_
          refine V_bipush (v := 122) dX6_advance_89 (by decide) ?_
          refine D_icmp_gt (tgt := 114) h dX6_advance_91 rfl (fun b12 h => ?_) (fun b12 h => ?_)
          · exact V_sub (ks := [1, 0]) rfl (hj10 h)
          · refine V_aload_n (i := 0) dX6_advance_94 rfl rfl ?_
            refine V_iconst (v := 1) dX6_advance_95 (by decide) ?_
            refine D3_put h dX6_advance_96 (mem_15 hc1) (fp_X6_49 rfl) (Nat.le_of_ble_eq_true rfl) (psc_15_1 hc1) fun W13 h => ?_
            refine V_aload_n (i := 0) dX6_advance_99 rfl rfl ?_
            refine V_aload_n (i := 0) dX6_advance_100 rfl rfl ?_
            refine V_bipush (v := 97) dX6_advance_101 (by decide) ?_
            refine V_bipush (v := 122) dX6_advance_103 (by decide) ?_
            refine D_cVI (As := [_, _]) h dX6_advance_105 cv_X6_52 rfl ⟨_, _, _, (mem_15 hc1), rfl, rfl⟩ rfl (Nat.le_of_ble_eq_true rfl) (fun x hx => e_X6_findRunEnd (Nat.le_trans (Nat.le_of_ble_eq_true rfl) hf) hc1 hx) fun v14 h => ?_
            refine D3_put h dX6_advance_108 (mem_15 hc1) (fp_X6_32 rfl) (Nat.le_of_ble_eq_true rfl) (psc_15_3 hc1) fun W15 h => ?_
            refine V_goto (tgt := 171) dX6_advance_111 rfl ?_
            obtain rfl := Option.some.inj h
            exact V_return dX6_advance_171 rfl ⟨rfl, rfl, rfl⟩
      · intro  h
        refine V_iload_n (i := 1) dX6_advance_114 rfl rfl ?_
        refine V_bipush (v := 48) dX6_advance_115 (by decide) ?_
        refine D_jn (fun (j : Option (Nat → Nat → Int32)) =>  j = some r → V G f (Ex G f) mX6_advance (RH (.inl none) (MEM b c r M) hi) 146 [(0, .ref (b + 94)), (1, .int v8)] [] (MEM b c x7 M) hi k n) h (fun j16 hj16 h => ?_) ?_
        · refine D_icmp_lt (tgt := 146) h dX6_advance_117 rfl (fun b17 h => ?_) (fun b17 h => ?_)
          · exact V_sub (ks := [0, 1]) rfl (hj16 h)
          · refine V_iload_n (i := 1) dX6_advance_120 rfl rfl ?_
            refine V_bipush (v := 57) dX6_advance_121 (by decide) ?_
            refine D_icmp_gt (tgt := 146) h dX6_advance_123 rfl (fun b18 h => ?_) (fun b18 h => ?_)
            · exact V_sub (ks := [0, 1]) rfl (hj16 h)
            · refine V_aload_n (i := 0) dX6_advance_126 rfl rfl ?_
              refine V_iconst (v := 2) dX6_advance_127 (by decide) ?_
              refine D3_put h dX6_advance_128 (mem_15 hc1) (fp_X6_49 rfl) (Nat.le_of_ble_eq_true rfl) (psc_15_1 hc1) fun W19 h => ?_
              refine V_aload_n (i := 0) dX6_advance_131 rfl rfl ?_
              refine V_aload_n (i := 0) dX6_advance_132 rfl rfl ?_
              refine V_bipush (v := 48) dX6_advance_133 (by decide) ?_
              refine V_bipush (v := 57) dX6_advance_135 (by decide) ?_
              refine D_cVI (As := [_, _]) h dX6_advance_137 cv_X6_52 rfl ⟨_, _, _, (mem_15 hc1), rfl, rfl⟩ rfl (Nat.le_of_ble_eq_true rfl) (fun x hx => e_X6_findRunEnd (Nat.le_trans (Nat.le_of_ble_eq_true rfl) hf) hc1 hx) fun v20 h => ?_
              refine D3_put h dX6_advance_140 (mem_15 hc1) (fp_X6_32 rfl) (Nat.le_of_ble_eq_true rfl) (psc_15_3 hc1) fun W21 h => ?_
              refine V_goto (tgt := 171) dX6_advance_143 rfl ?_
              obtain rfl := Option.some.inj h
              exact V_return dX6_advance_171 rfl ⟨rfl, rfl, rfl⟩
        · intro  h
          refine V_aload_n (i := 0) dX6_advance_146 rfl rfl ?_
          refine V_iload_n (i := 1) dX6_advance_147 rfl rfl ?_
          refine V_bipush (v := 59) dX6_advance_148 (by decide) ?_
          refine D_icmp_ne (tgt := 157) h dX6_advance_150 rfl (fun b22 h => ?_) (fun b22 h => ?_)
          · refine V_iconst (v := 4) dX6_advance_157 (by decide) ?_
            refine D3_put h dX6_advance_158 (mem_15 hc1) (fp_X6_49 rfl) (Nat.le_of_ble_eq_true rfl) (psc_15_1 hc1) fun W23 h => ?_
            refine V_aload_n (i := 0) dX6_advance_161 rfl rfl ?_
            refine V_aload_n (i := 0) dX6_advance_162 rfl rfl ?_
            refine V_getfield dX6_advance_163 (mem_15 hc1) fl_X6_38 rfl ?_
            refine V_iconst (v := 1) dX6_advance_166 (by decide) ?_
            refine V_iadd dX6_advance_167 ?_
            refine D3_put h dX6_advance_168 (mem_15 hc1) (fp_X6_32 rfl) (Nat.le_of_ble_eq_true rfl) (psc_15_3 hc1) fun W24 h => ?_
            obtain rfl := Option.some.inj h
            exact V_return dX6_advance_171 rfl ⟨rfl, rfl, rfl⟩
          · refine V_iconst (v := 3) dX6_advance_153 (by decide) ?_
            refine V_goto (tgt := 158) dX6_advance_154 rfl ?_
            refine D3_put h dX6_advance_158 (mem_15 hc1) (fp_X6_49 rfl) (Nat.le_of_ble_eq_true rfl) (psc_15_1 hc1) fun W25 h => ?_
            refine V_aload_n (i := 0) dX6_advance_161 rfl rfl ?_
            refine V_aload_n (i := 0) dX6_advance_162 rfl rfl ?_
            refine V_getfield dX6_advance_163 (mem_15 hc1) fl_X6_38 rfl ?_
            refine V_iconst (v := 1) dX6_advance_166 (by decide) ?_
            refine V_iadd dX6_advance_167 ?_
            refine D3_put h dX6_advance_168 (mem_15 hc1) (fp_X6_32 rfl) (Nat.le_of_ble_eq_true rfl) (psc_15_3 hc1) fun W26 h => ?_
            obtain rfl := Option.some.inj h
            exact V_return dX6_advance_171 rfl ⟨rfl, rfl, rfl⟩
    · refine V_aload_n (i := 0) dX6_advance_66 rfl rfl ?_
      refine V_iconst (v := 0) dX6_advance_67 (by decide) ?_
      refine D3_put h dX6_advance_68 (mem_15 hc1) (fp_X6_49 rfl) (Nat.le_of_ble_eq_true rfl) (psc_15_1 hc1) fun W27 h => ?_
      refine V_aload_n (i := 0) dX6_advance_71 rfl rfl ?_
      refine V_aload_n (i := 0) dX6_advance_72 rfl rfl ?_
      refine V_getfield dX6_advance_73 (mem_15 hc1) fl_X6_15 rfl ?_
      refine D3_put h dX6_advance_76 (mem_15 hc1) (fp_X6_32 rfl) (Nat.le_of_ble_eq_true rfl) (psc_15_3 hc1) fun W28 h => ?_
      refine V_goto (tgt := 171) dX6_advance_79 rfl ?_
      obtain rfl := Option.some.inj h
      exact V_return dX6_advance_171 rfl ⟨rfl, rfl, rfl⟩
noncomputable def f_X6_begin (W : Nat → Nat → Int32) : Option (Nat → Nat → Int32) :=
  bnd (w2 W 15 3 (0 : Int32)) (fun W1 => bdc (f_X6_advance W1) (fun W2 => some W2))
theorem e_X6_begin {G : GT} {f0 : Nat} {b c : Nat} {M : MM} {hi k n : Nat} {W : Nat → Nat → Int32} {r : (Nat → Nat → Int32)} (hf0 : 4 ≤ f0) (hc1 : 609 ≤ c) (h : f_X6_begin W = some r) : Ex G f0 mX6_begin [.ref (b + 94)] (MEM b c W M) hi k n (RH (.inl none) (MEM b c r M) hi) := by
  obtain ⟨f, rfl, hf⟩ := suc_of hf0
  unfold f_X6_begin at h
  refine ⟨Nat.le_of_ble_eq_true rfl, ?_⟩
  refine V_aload_n (i := 0) dX6_begin_0 rfl rfl ?_
  refine V_iconst (v := 0) dX6_begin_1 (by decide) ?_
  refine D3_put h dX6_begin_2 (mem_15 hc1) (fp_X6_32 rfl) (Nat.le_of_ble_eq_true rfl) (psc_15_3 hc1) fun W1 h => ?_
  refine V_aload_n (i := 0) dX6_begin_5 rfl rfl ?_
  refine D_cVU (As := []) (μ := fun W2 => (MEM b c W2 M)) h dX6_begin_6 cv_X6_35 rfl ⟨_, _, _, (mem_15 hc1), rfl, rfl⟩ rfl (Nat.le_of_ble_eq_true rfl) (fun y hx => e_X6_advance (Nat.le_trans (Nat.le_of_ble_eq_true rfl) hf) hc1 hx) fun W2 h => ?_
  obtain rfl := Option.some.inj h
  exact V_return dX6_begin_9 rfl ⟨rfl, rfl, rfl⟩
noncomputable def f_X3_takeKeyword (W : Nat → Nat → Int32) : Option (Int32 × (Nat → Nat → Int32)) :=
  bdc (f_X3_findKeyword W) (fun v1 => if v1 = (-1 : Int32) then bdc (f_X3_fail W (1 : Int32)) (fun W8 => bdc (f_X6_advance W8) (fun W9 => some (v1, W9))) else bdc (f_X3_isFull W v1) (fun v3 => if v3 = 0 then bdc (f_X6_advance W) (fun W5 => some (v1, W5)) else bdc (f_X3_fail W (6 : Int32)) (fun W6 => bdc (f_X6_advance W6) (fun W7 => some (v1, W7)))))
theorem e_X3_takeKeyword {G : GT} {f0 : Nat} {b c : Nat} {M : MM} {hi k n : Nat} {W : Nat → Nat → Int32} {r : (Int32 × (Nat → Nat → Int32))} (hf0 : 7 ≤ f0) (hc1 : 609 ≤ c) (h : f_X3_takeKeyword W = some r) : Ex G f0 mX3_takeKeyword [.ref (b + 93)] (MEM b c W M) hi k n (RH (.inl (some (.int r.1))) (MEM b c r.2 M) hi) := by
  obtain ⟨f, rfl, hf⟩ := suc_of hf0
  unfold f_X3_takeKeyword at h
  refine ⟨Nat.le_of_ble_eq_true rfl, ?_⟩
  refine V_aload_n (i := 0) dX3_takeKeyword_0 rfl rfl ?_
  refine D_cVI (As := []) h dX3_takeKeyword_1 cv_X3_130 rfl ⟨_, _, _, (mem_13 hc1), rfl, rfl⟩ rfl (Nat.le_of_ble_eq_true rfl) (fun x hx => e_X3_findKeyword (Nat.le_trans (Nat.le_of_ble_eq_true rfl) hf) hc1 hx) fun v1 h => ?_
  refine V_istore_n (i := 1) dX3_takeKeyword_4 rfl (Nat.le_of_ble_eq_true rfl) ?_
  refine V_iload_n (i := 1) dX3_takeKeyword_5 rfl rfl ?_
  refine V_iconst (v := -1) dX3_takeKeyword_6 (by decide) ?_
  refine D_icmp_ne (tgt := 18) h dX3_takeKeyword_7 rfl (fun b2 h => ?_) (fun b2 h => ?_)
  · refine V_aload_n (i := 0) dX3_takeKeyword_18 rfl rfl ?_
    refine V_iload_n (i := 1) dX3_takeKeyword_19 rfl rfl ?_
    refine D_cVI (As := [_]) h dX3_takeKeyword_20 cv_X3_133 rfl ⟨_, _, _, (mem_13 hc1), rfl, rfl⟩ rfl (Nat.le_of_ble_eq_true rfl) (fun x hx => e_X3_isFull (Nat.le_trans (Nat.le_of_ble_eq_true rfl) hf) hc1 hx) fun v3 h => ?_
    refine D_if_eq (tgt := 32) h dX3_takeKeyword_23 rfl (fun b4 h => ?_) (fun b4 h => ?_)
    · refine V_aload_n (i := 0) dX3_takeKeyword_32 rfl rfl ?_
      refine V_getfield dX3_takeKeyword_33 (mem_13 hc1) fl_X3_12 rfl ?_
      refine D_cVU (As := []) (μ := fun W5 => (MEM b c W5 M)) h dX3_takeKeyword_36 cv_X3_99 rfl ⟨_, _, _, (mem_15 hc1), rfl, rfl⟩ rfl (Nat.le_of_ble_eq_true rfl) (fun y hx => e_X6_advance (Nat.le_trans (Nat.le_of_ble_eq_true rfl) hf) hc1 hx) fun W5 h => ?_
      refine V_iload_n (i := 1) dX3_takeKeyword_39 rfl rfl ?_
      obtain rfl := Option.some.inj h
      exact V_ireturn dX3_takeKeyword_40 ⟨_, rfl, rfl⟩ ⟨rfl, rfl, rfl⟩
    · refine V_aload_n (i := 0) dX3_takeKeyword_26 rfl rfl ?_
      refine V_bipush (v := 6) dX3_takeKeyword_27 (by decide) ?_
      refine D_cVU (As := [_]) (μ := fun W6 => (MEM b c W6 M)) h dX3_takeKeyword_29 cv_X3_95 rfl ⟨_, _, _, (mem_13 hc1), rfl, rfl⟩ rfl (Nat.le_of_ble_eq_true rfl) (fun y hx => e_X3_fail (Nat.le_trans (Nat.le_of_ble_eq_true rfl) hf) hc1 hx) fun W6 h => ?_
      refine V_aload_n (i := 0) dX3_takeKeyword_32 rfl rfl ?_
      refine V_getfield dX3_takeKeyword_33 (mem_13 hc1) fl_X3_12 rfl ?_
      refine D_cVU (As := []) (μ := fun W7 => (MEM b c W7 M)) h dX3_takeKeyword_36 cv_X3_99 rfl ⟨_, _, _, (mem_15 hc1), rfl, rfl⟩ rfl (Nat.le_of_ble_eq_true rfl) (fun y hx => e_X6_advance (Nat.le_trans (Nat.le_of_ble_eq_true rfl) hf) hc1 hx) fun W7 h => ?_
      refine V_iload_n (i := 1) dX3_takeKeyword_39 rfl rfl ?_
      obtain rfl := Option.some.inj h
      exact V_ireturn dX3_takeKeyword_40 ⟨_, rfl, rfl⟩ ⟨rfl, rfl, rfl⟩
  · refine V_aload_n (i := 0) dX3_takeKeyword_10 rfl rfl ?_
    refine V_iconst (v := 1) dX3_takeKeyword_11 (by decide) ?_
    refine D_cVU (As := [_]) (μ := fun W8 => (MEM b c W8 M)) h dX3_takeKeyword_12 cv_X3_95 rfl ⟨_, _, _, (mem_13 hc1), rfl, rfl⟩ rfl (Nat.le_of_ble_eq_true rfl) (fun y hx => e_X3_fail (Nat.le_trans (Nat.le_of_ble_eq_true rfl) hf) hc1 hx) fun W8 h => ?_
    refine V_goto (tgt := 32) dX3_takeKeyword_15 rfl ?_
    refine V_aload_n (i := 0) dX3_takeKeyword_32 rfl rfl ?_
    refine V_getfield dX3_takeKeyword_33 (mem_13 hc1) fl_X3_12 rfl ?_
    refine D_cVU (As := []) (μ := fun W9 => (MEM b c W9 M)) h dX3_takeKeyword_36 cv_X3_99 rfl ⟨_, _, _, (mem_15 hc1), rfl, rfl⟩ rfl (Nat.le_of_ble_eq_true rfl) (fun y hx => e_X6_advance (Nat.le_trans (Nat.le_of_ble_eq_true rfl) hf) hc1 hx) fun W9 h => ?_
    refine V_iload_n (i := 1) dX3_takeKeyword_39 rfl rfl ?_
    obtain rfl := Option.some.inj h
    exact V_ireturn dX3_takeKeyword_40 ⟨_, rfl, rfl⟩ ⟨rfl, rfl, rfl⟩
noncomputable def f_X3_takeNewName (W : Nat → Nat → Int32) : Option (Int32 × (Nat → Nat → Int32)) :=
  bdc (f_X6_packName W) (fun v1 => if (W 15 1) = (1 : Int32) then if v1 = 0 then bdc (f_X3_fail W (2 : Int32)) (fun W9 => bdc (f_X6_advance W9) (fun W10 => some (v1, W10))) else bdc (f_X4_findStation (W 2) v1) (fun v4 => if v4 = (-1 : Int32) then bdc (f_X6_advance W) (fun W6 => some (v1, W6)) else bdc (f_X3_fail W (3 : Int32)) (fun W7 => bdc (f_X6_advance W7) (fun W8 => some (v1, W8)))) else bdc (f_X3_fail W (1 : Int32)) (fun W11 => bdc (f_X6_advance W11) (fun W12 => some (v1, W12))))
theorem e_X3_takeNewName {G : GT} {f0 : Nat} {b c : Nat} {M : MM} {hi k n : Nat} {W : Nat → Nat → Int32} {r : (Int32 × (Nat → Nat → Int32))} (hf0 : 4 ≤ f0) (hc1 : 609 ≤ c) (h : f_X3_takeNewName W = some r) : Ex G f0 mX3_takeNewName [.ref (b + 93)] (MEM b c W M) hi k n (RH (.inl (some (.int r.1))) (MEM b c r.2 M) hi) := by
  obtain ⟨f, rfl, hf⟩ := suc_of hf0
  unfold f_X3_takeNewName at h
  refine ⟨Nat.le_of_ble_eq_true rfl, ?_⟩
  refine V_aload_n (i := 0) dX3_takeNewName_0 rfl rfl ?_
  refine V_getfield dX3_takeNewName_1 (mem_13 hc1) fl_X3_12 rfl ?_
  refine D_cVI (As := []) h dX3_takeNewName_4 cv_X3_169 rfl ⟨_, _, _, (mem_15 hc1), rfl, rfl⟩ rfl (Nat.le_of_ble_eq_true rfl) (fun x hx => e_X6_packName (Nat.le_trans (Nat.le_of_ble_eq_true rfl) hf) hc1 hx) fun v1 h => ?_
  refine V_istore_n (i := 1) dX3_takeNewName_7 rfl (Nat.le_of_ble_eq_true rfl) ?_
  refine V_aload_n (i := 0) dX3_takeNewName_8 rfl rfl ?_
  refine V_getfield dX3_takeNewName_9 (mem_13 hc1) fl_X3_12 rfl ?_
  refine V_getfield dX3_takeNewName_12 (mem_15 hc1) fl_X3_42 rfl ?_
  refine V_iconst (v := 1) dX3_takeNewName_15 (by decide) ?_
  refine D_icmp_eq (tgt := 27) h dX3_takeNewName_16 rfl (fun b2 h => ?_) (fun b2 h => ?_)
  · refine V_iload_n (i := 1) dX3_takeNewName_27 rfl rfl ?_
    refine D_if_ne (tgt := 39) h dX3_takeNewName_28 rfl (fun b3 h => ?_) (fun b3 h => ?_)
    · refine V_aload_n (i := 0) dX3_takeNewName_39 rfl rfl ?_
      refine V_getfield dX3_takeNewName_40 (mem_13 hc1) fl_X3_21 rfl ?_
      refine V_iload_n (i := 1) dX3_takeNewName_43 rfl rfl ?_
      refine D_cVI (As := [_]) h dX3_takeNewName_44 cv_X3_172 rfl ⟨_, _, _, (mst_o (u := 2) hc1 (by decide) rfl), rfl, rfl⟩ rfl (Nat.le_of_ble_eq_true rfl) (fun x hx => lift0 (u := 2) hc1 (by decide) rfl (e_X4_findStation (Nat.le_trans (Nat.le_of_ble_eq_true rfl) hf) hx)) fun v4 h => ?_
      refine V_iconst (v := -1) dX3_takeNewName_47 (by decide) ?_
      refine D_icmp_eq (tgt := 56) h dX3_takeNewName_48 rfl (fun b5 h => ?_) (fun b5 h => ?_)
      · refine V_aload_n (i := 0) dX3_takeNewName_56 rfl rfl ?_
        refine V_getfield dX3_takeNewName_57 (mem_13 hc1) fl_X3_12 rfl ?_
        refine D_cVU (As := []) (μ := fun W6 => (MEM b c W6 M)) h dX3_takeNewName_60 cv_X3_99 rfl ⟨_, _, _, (mem_15 hc1), rfl, rfl⟩ rfl (Nat.le_of_ble_eq_true rfl) (fun y hx => e_X6_advance (Nat.le_trans (Nat.le_of_ble_eq_true rfl) hf) hc1 hx) fun W6 h => ?_
        refine V_iload_n (i := 1) dX3_takeNewName_63 rfl rfl ?_
        obtain rfl := Option.some.inj h
        exact V_ireturn dX3_takeNewName_64 ⟨_, rfl, rfl⟩ ⟨rfl, rfl, rfl⟩
      · refine V_aload_n (i := 0) dX3_takeNewName_51 rfl rfl ?_
        refine V_iconst (v := 3) dX3_takeNewName_52 (by decide) ?_
        refine D_cVU (As := [_]) (μ := fun W7 => (MEM b c W7 M)) h dX3_takeNewName_53 cv_X3_95 rfl ⟨_, _, _, (mem_13 hc1), rfl, rfl⟩ rfl (Nat.le_of_ble_eq_true rfl) (fun y hx => e_X3_fail (Nat.le_trans (Nat.le_of_ble_eq_true rfl) hf) hc1 hx) fun W7 h => ?_
        refine V_aload_n (i := 0) dX3_takeNewName_56 rfl rfl ?_
        refine V_getfield dX3_takeNewName_57 (mem_13 hc1) fl_X3_12 rfl ?_
        refine D_cVU (As := []) (μ := fun W8 => (MEM b c W8 M)) h dX3_takeNewName_60 cv_X3_99 rfl ⟨_, _, _, (mem_15 hc1), rfl, rfl⟩ rfl (Nat.le_of_ble_eq_true rfl) (fun y hx => e_X6_advance (Nat.le_trans (Nat.le_of_ble_eq_true rfl) hf) hc1 hx) fun W8 h => ?_
        refine V_iload_n (i := 1) dX3_takeNewName_63 rfl rfl ?_
        obtain rfl := Option.some.inj h
        exact V_ireturn dX3_takeNewName_64 ⟨_, rfl, rfl⟩ ⟨rfl, rfl, rfl⟩
    · refine V_aload_n (i := 0) dX3_takeNewName_31 rfl rfl ?_
      refine V_iconst (v := 2) dX3_takeNewName_32 (by decide) ?_
      refine D_cVU (As := [_]) (μ := fun W9 => (MEM b c W9 M)) h dX3_takeNewName_33 cv_X3_95 rfl ⟨_, _, _, (mem_13 hc1), rfl, rfl⟩ rfl (Nat.le_of_ble_eq_true rfl) (fun y hx => e_X3_fail (Nat.le_trans (Nat.le_of_ble_eq_true rfl) hf) hc1 hx) fun W9 h => ?_
      refine V_goto (tgt := 56) dX3_takeNewName_36 rfl ?_
      refine V_aload_n (i := 0) dX3_takeNewName_56 rfl rfl ?_
      refine V_getfield dX3_takeNewName_57 (mem_13 hc1) fl_X3_12 rfl ?_
      refine D_cVU (As := []) (μ := fun W10 => (MEM b c W10 M)) h dX3_takeNewName_60 cv_X3_99 rfl ⟨_, _, _, (mem_15 hc1), rfl, rfl⟩ rfl (Nat.le_of_ble_eq_true rfl) (fun y hx => e_X6_advance (Nat.le_trans (Nat.le_of_ble_eq_true rfl) hf) hc1 hx) fun W10 h => ?_
      refine V_iload_n (i := 1) dX3_takeNewName_63 rfl rfl ?_
      obtain rfl := Option.some.inj h
      exact V_ireturn dX3_takeNewName_64 ⟨_, rfl, rfl⟩ ⟨rfl, rfl, rfl⟩
  · refine V_aload_n (i := 0) dX3_takeNewName_19 rfl rfl ?_
    refine V_iconst (v := 1) dX3_takeNewName_20 (by decide) ?_
    refine D_cVU (As := [_]) (μ := fun W11 => (MEM b c W11 M)) h dX3_takeNewName_21 cv_X3_95 rfl ⟨_, _, _, (mem_13 hc1), rfl, rfl⟩ rfl (Nat.le_of_ble_eq_true rfl) (fun y hx => e_X3_fail (Nat.le_trans (Nat.le_of_ble_eq_true rfl) hf) hc1 hx) fun W11 h => ?_
    refine V_goto (tgt := 56) dX3_takeNewName_24 rfl ?_
    refine V_aload_n (i := 0) dX3_takeNewName_56 rfl rfl ?_
    refine V_getfield dX3_takeNewName_57 (mem_13 hc1) fl_X3_12 rfl ?_
    refine D_cVU (As := []) (μ := fun W12 => (MEM b c W12 M)) h dX3_takeNewName_60 cv_X3_99 rfl ⟨_, _, _, (mem_15 hc1), rfl, rfl⟩ rfl (Nat.le_of_ble_eq_true rfl) (fun y hx => e_X6_advance (Nat.le_trans (Nat.le_of_ble_eq_true rfl) hf) hc1 hx) fun W12 h => ?_
    refine V_iload_n (i := 1) dX3_takeNewName_63 rfl rfl ?_
    obtain rfl := Option.some.inj h
    exact V_ireturn dX3_takeNewName_64 ⟨_, rfl, rfl⟩ ⟨rfl, rfl, rfl⟩
noncomputable def f_X3_takeStation (W : Nat → Nat → Int32) : Option (Int32 × (Nat → Nat → Int32)) :=
  bd2 (f_X3_findNamedStation W) (fun v2 W1 => bdc (f_X6_advance W1) (fun W3 => some (v2, W3)))
theorem e_X3_takeStation {G : GT} {f0 : Nat} {b c : Nat} {M : MM} {hi k n : Nat} {W : Nat → Nat → Int32} {r : (Int32 × (Nat → Nat → Int32))} (hf0 : 4 ≤ f0) (hc1 : 609 ≤ c) (h : f_X3_takeStation W = some r) : Ex G f0 mX3_takeStation [.ref (b + 93)] (MEM b c W M) hi k n (RH (.inl (some (.int r.1))) (MEM b c r.2 M) hi) := by
  obtain ⟨f, rfl, hf⟩ := suc_of hf0
  unfold f_X3_takeStation at h
  refine ⟨Nat.le_of_ble_eq_true rfl, ?_⟩
  refine V_aload_n (i := 0) dX3_takeStation_0 rfl rfl ?_
  refine D_cVIW (As := []) (μ := fun W1 => (MEM b c W1 M)) h dX3_takeStation_1 cv_X3_179 rfl ⟨_, _, _, (mem_13 hc1), rfl, rfl⟩ rfl (Nat.le_of_ble_eq_true rfl) (fun x y hx => e_X3_findNamedStation (Nat.le_trans (Nat.le_of_ble_eq_true rfl) hf) hc1 hx) fun v2 W1 h => ?_
  refine V_istore_n (i := 1) dX3_takeStation_4 rfl (Nat.le_of_ble_eq_true rfl) ?_
  refine V_aload_n (i := 0) dX3_takeStation_5 rfl rfl ?_
  refine V_getfield dX3_takeStation_6 (mem_13 hc1) fl_X3_12 rfl ?_
  refine D_cVU (As := []) (μ := fun W3 => (MEM b c W3 M)) h dX3_takeStation_9 cv_X3_99 rfl ⟨_, _, _, (mem_15 hc1), rfl, rfl⟩ rfl (Nat.le_of_ble_eq_true rfl) (fun y hx => e_X6_advance (Nat.le_trans (Nat.le_of_ble_eq_true rfl) hf) hc1 hx) fun W3 h => ?_
  refine V_iload_n (i := 1) dX3_takeStation_12 rfl rfl ?_
  obtain rfl := Option.some.inj h
  exact V_ireturn dX3_takeStation_13 ⟨_, rfl, rfl⟩ ⟨rfl, rfl, rfl⟩
noncomputable def f_X3_takeSecondStation (W : Nat → Nat → Int32) : Option (Int32 × (Nat → Nat → Int32)) :=
  bd2 (f_X3_findNamedStation W) (fun v2 W1 => bdc (f_X4_findTrack (W1 2) (W1 13 4) v2) (fun v3 => jn (fun (v5 : Int32) => if (W1 13 2) = (7 : Int32) then if v5 = 0 then bdc (f_X3_fail W1 (5 : Int32)) (fun W19 => bdc (f_X6_advance W19) (fun W20 => some (v2, W20))) else bdc (f_X6_advance W1) (fun W18 => some (v2, W18)) else if (W1 13 4) = v2 then bdc (f_X3_fail W1 (5 : Int32)) (fun W9 => bdc (f_X6_advance W9) (fun W10 => some (v2, W10))) else if (W1 13 2) = (3 : Int32) then if v5 = 0 then bdc (f_X6_advance W1) (fun W14 => some (v2, W14)) else bdc (f_X3_fail W1 (5 : Int32)) (fun W15 => bdc (f_X6_advance W15) (fun W16 => some (v2, W16))) else bdc (f_X6_advance W1) (fun W12 => some (v2, W12))) (fun j4 => if v3 = (-1 : Int32) then j4 (0 : Int32) else j4 (1 : Int32))))
theorem e_X3_takeSecondStation {G : GT} {f0 : Nat} {b c : Nat} {M : MM} {hi k n : Nat} {W : Nat → Nat → Int32} {r : (Int32 × (Nat → Nat → Int32))} (hf0 : 4 ≤ f0) (hc1 : 609 ≤ c) (h : f_X3_takeSecondStation W = some r) : Ex G f0 mX3_takeSecondStation [.ref (b + 93)] (MEM b c W M) hi k n (RH (.inl (some (.int r.1))) (MEM b c r.2 M) hi) := by
  obtain ⟨f, rfl, hf⟩ := suc_of hf0
  unfold f_X3_takeSecondStation at h
  refine ⟨Nat.le_of_ble_eq_true rfl, ?_⟩
  refine V_aload_n (i := 0) dX3_takeSecondStation_0 rfl rfl ?_
  refine D_cVIW (As := []) (μ := fun W1 => (MEM b c W1 M)) h dX3_takeSecondStation_1 cv_X3_179 rfl ⟨_, _, _, (mem_13 hc1), rfl, rfl⟩ rfl (Nat.le_of_ble_eq_true rfl) (fun x y hx => e_X3_findNamedStation (Nat.le_trans (Nat.le_of_ble_eq_true rfl) hf) hc1 hx) fun v2 W1 h => ?_
  refine V_istore_n (i := 1) dX3_takeSecondStation_4 rfl (Nat.le_of_ble_eq_true rfl) ?_
  refine V_aload_n (i := 0) dX3_takeSecondStation_5 rfl rfl ?_
  refine V_getfield dX3_takeSecondStation_6 (mem_13 hc1) fl_X3_21 rfl ?_
  refine V_aload_n (i := 0) dX3_takeSecondStation_9 rfl rfl ?_
  refine V_getfield dX3_takeSecondStation_10 (mem_13 hc1) fl_X3_76 rfl ?_
  refine V_iload_n (i := 1) dX3_takeSecondStation_13 rfl rfl ?_
  refine D_cVI (As := [_, _]) h dX3_takeSecondStation_14 cv_X3_124 rfl ⟨_, _, _, (mst_o (u := 2) hc1 (by decide) rfl), rfl, rfl⟩ rfl (Nat.le_of_ble_eq_true rfl) (fun x hx => lift0 (u := 2) hc1 (by decide) rfl (e_X4_findTrack (Nat.le_trans (Nat.le_of_ble_eq_true rfl) hf) hx)) fun v3 h => ?_
  refine V_iconst (v := -1) dX3_takeSecondStation_17 (by decide) ?_
  refine D_jn (fun (j : Int32 → Option (Int32 × (Nat → Nat → Int32))) => ∀ (v5 : Int32), j v5 = some r → V G f (Ex G f) mX3_takeSecondStation (RH (.inl (some (.int r.1))) (MEM b c r.2 M) hi) 26 [(0, .ref (b + 93)), (1, .int v2)] [.int v5] (MEM b c W1 M) hi k n) h (fun j4 hj4 h => ?_) ?_
  · refine D_icmp_eq (tgt := 25) h dX3_takeSecondStation_18 rfl (fun b6 h => ?_) (fun b6 h => ?_)
    · refine V_iconst (v := 0) dX3_takeSecondStation_25 (by decide) ?_
      exact V_sub (ks := [1, 0]) rfl (hj4 _ h)
    · refine V_iconst (v := 1) dX3_takeSecondStation_21 (by decide) ?_
      refine V_goto (tgt := 26) dX3_takeSecondStation_22 rfl ?_
      exact V_sub (ks := [1, 0]) rfl (hj4 _ h)
  · intro v5 h
    refine V_istore_n (i := 2) dX3_takeSecondStation_26 rfl (Nat.le_of_ble_eq_true rfl) ?_
    refine V_aload_n (i := 0) dX3_takeSecondStation_27 rfl rfl ?_
    refine V_getfield dX3_takeSecondStation_28 (mem_13 hc1) fl_X3_64 rfl ?_
    refine V_bipush (v := 7) dX3_takeSecondStation_31 (by decide) ?_
    refine D_icmp_ne (tgt := 43) h dX3_takeSecondStation_33 rfl (fun b7 h => ?_) (fun b7 h => ?_)
    · refine V_aload_n (i := 0) dX3_takeSecondStation_43 rfl rfl ?_
      refine V_getfield dX3_takeSecondStation_44 (mem_13 hc1) fl_X3_76 rfl ?_
      refine V_iload_n (i := 1) dX3_takeSecondStation_47 rfl rfl ?_
      refine D_icmp_eq (tgt := 63) h dX3_takeSecondStation_48 rfl (fun b8 h => ?_) (fun b8 h => ?_)
      · refine V_aload_n (i := 0) dX3_takeSecondStation_63 rfl rfl ?_
        refine V_iconst (v := 5) dX3_takeSecondStation_64 (by decide) ?_
        refine D_cVU (As := [_]) (μ := fun W9 => (MEM b c W9 M)) h dX3_takeSecondStation_65 cv_X3_95 rfl ⟨_, _, _, (mem_13 hc1), rfl, rfl⟩ rfl (Nat.le_of_ble_eq_true rfl) (fun y hx => e_X3_fail (Nat.le_trans (Nat.le_of_ble_eq_true rfl) hf) hc1 hx) fun W9 h => ?_
        refine V_aload_n (i := 0) dX3_takeSecondStation_68 rfl rfl ?_
        refine V_getfield dX3_takeSecondStation_69 (mem_13 hc1) fl_X3_12 rfl ?_
        refine D_cVU (As := []) (μ := fun W10 => (MEM b c W10 M)) h dX3_takeSecondStation_72 cv_X3_99 rfl ⟨_, _, _, (mem_15 hc1), rfl, rfl⟩ rfl (Nat.le_of_ble_eq_true rfl) (fun y hx => e_X6_advance (Nat.le_trans (Nat.le_of_ble_eq_true rfl) hf) hc1 hx) fun W10 h => ?_
        refine V_iload_n (i := 1) dX3_takeSecondStation_75 rfl rfl ?_
        obtain rfl := Option.some.inj h
        exact V_ireturn dX3_takeSecondStation_76 ⟨_, rfl, rfl⟩ ⟨rfl, rfl, rfl⟩
      · refine V_aload_n (i := 0) dX3_takeSecondStation_51 rfl rfl ?_
        refine V_getfield dX3_takeSecondStation_52 (mem_13 hc1) fl_X3_64 rfl ?_
        refine V_iconst (v := 3) dX3_takeSecondStation_55 (by decide) ?_
        refine D_icmp_ne (tgt := 68) h dX3_takeSecondStation_56 rfl (fun b11 h => ?_) (fun b11 h => ?_)
        · refine V_aload_n (i := 0) dX3_takeSecondStation_68 rfl rfl ?_
          refine V_getfield dX3_takeSecondStation_69 (mem_13 hc1) fl_X3_12 rfl ?_
          refine D_cVU (As := []) (μ := fun W12 => (MEM b c W12 M)) h dX3_takeSecondStation_72 cv_X3_99 rfl ⟨_, _, _, (mem_15 hc1), rfl, rfl⟩ rfl (Nat.le_of_ble_eq_true rfl) (fun y hx => e_X6_advance (Nat.le_trans (Nat.le_of_ble_eq_true rfl) hf) hc1 hx) fun W12 h => ?_
          refine V_iload_n (i := 1) dX3_takeSecondStation_75 rfl rfl ?_
          obtain rfl := Option.some.inj h
          exact V_ireturn dX3_takeSecondStation_76 ⟨_, rfl, rfl⟩ ⟨rfl, rfl, rfl⟩
        · refine V_iload_n (i := 2) dX3_takeSecondStation_59 rfl rfl ?_
          refine D_if_eq (tgt := 68) h dX3_takeSecondStation_60 rfl (fun b13 h => ?_) (fun b13 h => ?_)
          · refine V_aload_n (i := 0) dX3_takeSecondStation_68 rfl rfl ?_
            refine V_getfield dX3_takeSecondStation_69 (mem_13 hc1) fl_X3_12 rfl ?_
            refine D_cVU (As := []) (μ := fun W14 => (MEM b c W14 M)) h dX3_takeSecondStation_72 cv_X3_99 rfl ⟨_, _, _, (mem_15 hc1), rfl, rfl⟩ rfl (Nat.le_of_ble_eq_true rfl) (fun y hx => e_X6_advance (Nat.le_trans (Nat.le_of_ble_eq_true rfl) hf) hc1 hx) fun W14 h => ?_
            refine V_iload_n (i := 1) dX3_takeSecondStation_75 rfl rfl ?_
            obtain rfl := Option.some.inj h
            exact V_ireturn dX3_takeSecondStation_76 ⟨_, rfl, rfl⟩ ⟨rfl, rfl, rfl⟩
          · refine V_aload_n (i := 0) dX3_takeSecondStation_63 rfl rfl ?_
            refine V_iconst (v := 5) dX3_takeSecondStation_64 (by decide) ?_
            refine D_cVU (As := [_]) (μ := fun W15 => (MEM b c W15 M)) h dX3_takeSecondStation_65 cv_X3_95 rfl ⟨_, _, _, (mem_13 hc1), rfl, rfl⟩ rfl (Nat.le_of_ble_eq_true rfl) (fun y hx => e_X3_fail (Nat.le_trans (Nat.le_of_ble_eq_true rfl) hf) hc1 hx) fun W15 h => ?_
            refine V_aload_n (i := 0) dX3_takeSecondStation_68 rfl rfl ?_
            refine V_getfield dX3_takeSecondStation_69 (mem_13 hc1) fl_X3_12 rfl ?_
            refine D_cVU (As := []) (μ := fun W16 => (MEM b c W16 M)) h dX3_takeSecondStation_72 cv_X3_99 rfl ⟨_, _, _, (mem_15 hc1), rfl, rfl⟩ rfl (Nat.le_of_ble_eq_true rfl) (fun y hx => e_X6_advance (Nat.le_trans (Nat.le_of_ble_eq_true rfl) hf) hc1 hx) fun W16 h => ?_
            refine V_iload_n (i := 1) dX3_takeSecondStation_75 rfl rfl ?_
            obtain rfl := Option.some.inj h
            exact V_ireturn dX3_takeSecondStation_76 ⟨_, rfl, rfl⟩ ⟨rfl, rfl, rfl⟩
    · refine V_iload_n (i := 2) dX3_takeSecondStation_36 rfl rfl ?_
      refine D_if_ne (tgt := 68) h dX3_takeSecondStation_37 rfl (fun b17 h => ?_) (fun b17 h => ?_)
      · refine V_aload_n (i := 0) dX3_takeSecondStation_68 rfl rfl ?_
        refine V_getfield dX3_takeSecondStation_69 (mem_13 hc1) fl_X3_12 rfl ?_
        refine D_cVU (As := []) (μ := fun W18 => (MEM b c W18 M)) h dX3_takeSecondStation_72 cv_X3_99 rfl ⟨_, _, _, (mem_15 hc1), rfl, rfl⟩ rfl (Nat.le_of_ble_eq_true rfl) (fun y hx => e_X6_advance (Nat.le_trans (Nat.le_of_ble_eq_true rfl) hf) hc1 hx) fun W18 h => ?_
        refine V_iload_n (i := 1) dX3_takeSecondStation_75 rfl rfl ?_
        obtain rfl := Option.some.inj h
        exact V_ireturn dX3_takeSecondStation_76 ⟨_, rfl, rfl⟩ ⟨rfl, rfl, rfl⟩
      · refine V_goto (tgt := 63) dX3_takeSecondStation_40 rfl ?_
        refine V_aload_n (i := 0) dX3_takeSecondStation_63 rfl rfl ?_
        refine V_iconst (v := 5) dX3_takeSecondStation_64 (by decide) ?_
        refine D_cVU (As := [_]) (μ := fun W19 => (MEM b c W19 M)) h dX3_takeSecondStation_65 cv_X3_95 rfl ⟨_, _, _, (mem_13 hc1), rfl, rfl⟩ rfl (Nat.le_of_ble_eq_true rfl) (fun y hx => e_X3_fail (Nat.le_trans (Nat.le_of_ble_eq_true rfl) hf) hc1 hx) fun W19 h => ?_
        refine V_aload_n (i := 0) dX3_takeSecondStation_68 rfl rfl ?_
        refine V_getfield dX3_takeSecondStation_69 (mem_13 hc1) fl_X3_12 rfl ?_
        refine D_cVU (As := []) (μ := fun W20 => (MEM b c W20 M)) h dX3_takeSecondStation_72 cv_X3_99 rfl ⟨_, _, _, (mem_15 hc1), rfl, rfl⟩ rfl (Nat.le_of_ble_eq_true rfl) (fun y hx => e_X6_advance (Nat.le_trans (Nat.le_of_ble_eq_true rfl) hf) hc1 hx) fun W20 h => ?_
        refine V_iload_n (i := 1) dX3_takeSecondStation_75 rfl rfl ?_
        obtain rfl := Option.some.inj h
        exact V_ireturn dX3_takeSecondStation_76 ⟨_, rfl, rfl⟩ ⟨rfl, rfl, rfl⟩
noncomputable def l_X6_readNumber_7 (W : Nat → Nat → Int32) : Nat → Int32 → Int32 → Option Int32
  | 0, _, _ => none
  | N + 1, x1, x2 => if (W 15 3) ≤ x2 then some x1 else bdc (f_X6_byteAt W x2) (fun v3 => bnd (if (((x1 * (10 : Int32)) + v3) - (48 : Int32)) < (1000 : Int32) then (((x1 * (10 : Int32)) + v3) - (48 : Int32)) else (1000 : Int32)) (fun v4 => l_X6_readNumber_7 W N v4 (x2 + (1 : Int32))))
theorem lv_X6_readNumber_7 {G : GT} {f : Nat} {b c : Nat} {M : MM} {hi k n : Nat} {W : Nat → Nat → Int32} {r : Int32} (hf : 1 ≤ f) (hc1 : 609 ≤ c) : ∀ (N : Nat) (x1 : Int32) (x2 : Int32) , l_X6_readNumber_7 W N x1 x2 = some r → V G f (Ex G f) mX6_readNumber (RH (.inl (some (.int r))) (MEM b c W M) hi) 7 [(0, .ref (b + 94)), (1, .int x1), (2, .int x2)] [] (MEM b c W M) hi k n := by
  intro N
  induction N with
  | zero => intro x1 x2 h; cases h
  | succ N ih =>
    intro x1 x2 h
    rw [l_X6_readNumber_7] at h
    refine V_iload_n (i := 2) dX6_readNumber_7 rfl rfl ?_
    refine V_aload_n (i := 0) dX6_readNumber_8 rfl rfl ?_
    refine V_getfield dX6_readNumber_9 (mem_15 hc1) fl_X6_32 rfl ?_
    refine D_icmp_ge (tgt := 41) h dX6_readNumber_12 rfl (fun b2 h => ?_) (fun b2 h => ?_)
    · refine V_iload_n (i := 1) dX6_readNumber_41 rfl rfl ?_
      obtain rfl := Option.some.inj h
      exact V_ireturn dX6_readNumber_42 ⟨_, rfl, rfl⟩ ⟨rfl, rfl, rfl⟩
    · refine V_sipush (v := 1000) dX6_readNumber_15 (by decide) ?_
      refine V_iload_n (i := 1) dX6_readNumber_18 rfl rfl ?_
      refine V_bipush (v := 10) dX6_readNumber_19 (by decide) ?_
      refine V_imul dX6_readNumber_21 ?_
      refine V_aload_n (i := 0) dX6_readNumber_22 rfl rfl ?_
      refine V_iload_n (i := 2) dX6_readNumber_23 rfl rfl ?_
      refine D_cVI (As := [_]) h dX6_readNumber_24 cv_X6_41 rfl ⟨_, _, _, (mem_15 hc1), rfl, rfl⟩ rfl (Nat.le_of_ble_eq_true rfl) (fun x hx => e_X6_byteAt (Nat.le_trans (Nat.le_of_ble_eq_true rfl) hf) hc1 hx) fun v3 h => ?_
      refine V_iadd dX6_readNumber_27 ?_
      refine V_bipush (v := 48) dX6_readNumber_28 (by decide) ?_
      refine V_isub dX6_readNumber_30 ?_
      refine V_mmin dX6_readNumber_31 tw_531 (Nat.le_of_ble_eq_true rfl) (Nat.le_trans (Nat.le_of_ble_eq_true rfl) hf) ?_
      refine D_istore_n (i := 1) h dX6_readNumber_34 rfl (Nat.le_of_ble_eq_true rfl) fun v4 h => ?_
      refine D_iinc (i := 2) (w := 1) dX6_readNumber_35 rfl (by decide) (Nat.le_of_ble_eq_true rfl) ?_
      refine V_goto (tgt := 7) dX6_readNumber_38 rfl ?_
      exact V_sub (ks := [2, 1, 0]) rfl (ih _ _ h)
noncomputable def f_X6_readNumber (W : Nat → Nat → Int32) : Option Int32 :=
  bnd (W 15 2) (fun v1 => l_X6_readNumber_7 W FU (0 : Int32) v1)
theorem e_X6_readNumber {G : GT} {f0 : Nat} {b c : Nat} {M : MM} {hi k n : Nat} {W : Nat → Nat → Int32} {r : Int32} (hf0 : 2 ≤ f0) (hc1 : 609 ≤ c) (h : f_X6_readNumber W = some r) : Ex G f0 mX6_readNumber [.ref (b + 94)] (MEM b c W M) hi k n (RH (.inl (some (.int r))) (MEM b c W M) hi) := by
  obtain ⟨f, rfl, hf⟩ := suc_of hf0
  unfold f_X6_readNumber at h
  refine ⟨Nat.le_of_ble_eq_true rfl, ?_⟩
  refine V_iconst (v := 0) dX6_readNumber_0 (by decide) ?_
  refine V_istore_n (i := 1) dX6_readNumber_1 rfl (Nat.le_of_ble_eq_true rfl) ?_
  refine V_aload_n (i := 0) dX6_readNumber_2 rfl rfl ?_
  refine V_getfield dX6_readNumber_3 (mem_15 hc1) fl_X6_38 rfl ?_
  refine D_istore_n (i := 2) h dX6_readNumber_6 rfl (Nat.le_of_ble_eq_true rfl) fun v1 h => ?_
  refine V_sub (ks := [2, 1, 0]) rfl (lv_X6_readNumber_7 hf hc1 FU _ _ h)
noncomputable def f_X3_takeNumber (W : Nat → Nat → Int32) (a1 : Int32) (a2 : Int32) : Option (Int32 × (Nat → Nat → Int32)) :=
  jn (fun (v2 : Int32) => if (W 15 1) = (2 : Int32) then if v2 < a1 then bdc (f_X3_fail W (2 : Int32)) (fun W7 => bdc (f_X6_advance W7) (fun W8 => some (v2, W8))) else if v2 ≤ a2 then bdc (f_X6_advance W) (fun W10 => some (v2, W10)) else bdc (f_X3_fail W (2 : Int32)) (fun W11 => bdc (f_X6_advance W11) (fun W12 => some (v2, W12))) else bdc (f_X3_fail W (1 : Int32)) (fun W13 => bdc (f_X6_advance W13) (fun W14 => some (v2, W14)))) (fun j1 => if (W 15 1) = (2 : Int32) then bdc (f_X6_readNumber W) (fun v4 => j1 v4) else j1 (-1 : Int32))
theorem e_X3_takeNumber {G : GT} {f0 : Nat} {b c : Nat} {M : MM} {hi k n : Nat} {W : Nat → Nat → Int32} {a1 : Int32} {a2 : Int32} {r : (Int32 × (Nat → Nat → Int32))} (hf0 : 4 ≤ f0) (hc1 : 609 ≤ c) (h : f_X3_takeNumber W a1 a2 = some r) : Ex G f0 mX3_takeNumber [.ref (b + 93), .int a1, .int a2] (MEM b c W M) hi k n (RH (.inl (some (.int r.1))) (MEM b c r.2 M) hi) := by
  obtain ⟨f, rfl, hf⟩ := suc_of hf0
  unfold f_X3_takeNumber at h
  refine ⟨Nat.le_of_ble_eq_true rfl, ?_⟩
  refine V_aload_n (i := 0) dX3_takeNumber_0 rfl rfl ?_
  refine V_getfield dX3_takeNumber_1 (mem_13 hc1) fl_X3_12 rfl ?_
  refine V_getfield dX3_takeNumber_4 (mem_15 hc1) fl_X3_42 rfl ?_
  refine V_iconst (v := 2) dX3_takeNumber_7 (by decide) ?_
  refine D_jn (fun (j : Int32 → Option (Int32 × (Nat → Nat → Int32))) => ∀ (v2 : Int32), j v2 = some r → V G f (Ex G f) mX3_takeNumber (RH (.inl (some (.int r.1))) (MEM b c r.2 M) hi) 22 [(0, .ref (b + 93)), (1, .int a1), (2, .int a2)] [.int v2] (MEM b c W M) hi k n) h (fun j1 hj1 h => ?_) ?_
  · refine D_icmp_ne (tgt := 21) h dX3_takeNumber_8 rfl (fun b3 h => ?_) (fun b3 h => ?_)
    · refine V_iconst (v := -1) dX3_takeNumber_21 (by decide) ?_
      exact V_sub (ks := [0, 1, 2]) rfl (hj1 _ h)
    · refine V_aload_n (i := 0) dX3_takeNumber_11 rfl rfl ?_
      refine V_getfield dX3_takeNumber_12 (mem_13 hc1) fl_X3_12 rfl ?_
      refine D_cVI (As := []) h dX3_takeNumber_15 cv_X3_176 rfl ⟨_, _, _, (mem_15 hc1), rfl, rfl⟩ rfl (Nat.le_of_ble_eq_true rfl) (fun x hx => e_X6_readNumber (Nat.le_trans (Nat.le_of_ble_eq_true rfl) hf) hc1 hx) fun v4 h => ?_
      refine V_goto (tgt := 22) dX3_takeNumber_18 rfl ?_
      exact V_sub (ks := [0, 1, 2]) rfl (hj1 _ h)
  · intro v2 h
    refine V_istore_n (i := 3) dX3_takeNumber_22 rfl (Nat.le_of_ble_eq_true rfl) ?_
    refine V_aload_n (i := 0) dX3_takeNumber_23 rfl rfl ?_
    refine V_getfield dX3_takeNumber_24 (mem_13 hc1) fl_X3_12 rfl ?_
    refine V_getfield dX3_takeNumber_27 (mem_15 hc1) fl_X3_42 rfl ?_
    refine V_iconst (v := 2) dX3_takeNumber_30 (by decide) ?_
    refine D_icmp_eq (tgt := 42) h dX3_takeNumber_31 rfl (fun b5 h => ?_) (fun b5 h => ?_)
    · refine V_iload_n (i := 3) dX3_takeNumber_42 rfl rfl ?_
      refine V_iload_n (i := 1) dX3_takeNumber_43 rfl rfl ?_
      refine D_icmp_lt (tgt := 52) h dX3_takeNumber_44 rfl (fun b6 h => ?_) (fun b6 h => ?_)
      · refine V_aload_n (i := 0) dX3_takeNumber_52 rfl rfl ?_
        refine V_iconst (v := 2) dX3_takeNumber_53 (by decide) ?_
        refine D_cVU (As := [_]) (μ := fun W7 => (MEM b c W7 M)) h dX3_takeNumber_54 cv_X3_95 rfl ⟨_, _, _, (mem_13 hc1), rfl, rfl⟩ rfl (Nat.le_of_ble_eq_true rfl) (fun y hx => e_X3_fail (Nat.le_trans (Nat.le_of_ble_eq_true rfl) hf) hc1 hx) fun W7 h => ?_
        refine V_aload_n (i := 0) dX3_takeNumber_57 rfl rfl ?_
        refine V_getfield dX3_takeNumber_58 (mem_13 hc1) fl_X3_12 rfl ?_
        refine D_cVU (As := []) (μ := fun W8 => (MEM b c W8 M)) h dX3_takeNumber_61 cv_X3_99 rfl ⟨_, _, _, (mem_15 hc1), rfl, rfl⟩ rfl (Nat.le_of_ble_eq_true rfl) (fun y hx => e_X6_advance (Nat.le_trans (Nat.le_of_ble_eq_true rfl) hf) hc1 hx) fun W8 h => ?_
        refine V_iload_n (i := 3) dX3_takeNumber_64 rfl rfl ?_
        obtain rfl := Option.some.inj h
        exact V_ireturn dX3_takeNumber_65 ⟨_, rfl, rfl⟩ ⟨rfl, rfl, rfl⟩
      · refine V_iload_n (i := 3) dX3_takeNumber_47 rfl rfl ?_
        refine V_iload_n (i := 2) dX3_takeNumber_48 rfl rfl ?_
        refine D_icmp_le (tgt := 57) h dX3_takeNumber_49 rfl (fun b9 h => ?_) (fun b9 h => ?_)
        · refine V_aload_n (i := 0) dX3_takeNumber_57 rfl rfl ?_
          refine V_getfield dX3_takeNumber_58 (mem_13 hc1) fl_X3_12 rfl ?_
          refine D_cVU (As := []) (μ := fun W10 => (MEM b c W10 M)) h dX3_takeNumber_61 cv_X3_99 rfl ⟨_, _, _, (mem_15 hc1), rfl, rfl⟩ rfl (Nat.le_of_ble_eq_true rfl) (fun y hx => e_X6_advance (Nat.le_trans (Nat.le_of_ble_eq_true rfl) hf) hc1 hx) fun W10 h => ?_
          refine V_iload_n (i := 3) dX3_takeNumber_64 rfl rfl ?_
          obtain rfl := Option.some.inj h
          exact V_ireturn dX3_takeNumber_65 ⟨_, rfl, rfl⟩ ⟨rfl, rfl, rfl⟩
        · refine V_aload_n (i := 0) dX3_takeNumber_52 rfl rfl ?_
          refine V_iconst (v := 2) dX3_takeNumber_53 (by decide) ?_
          refine D_cVU (As := [_]) (μ := fun W11 => (MEM b c W11 M)) h dX3_takeNumber_54 cv_X3_95 rfl ⟨_, _, _, (mem_13 hc1), rfl, rfl⟩ rfl (Nat.le_of_ble_eq_true rfl) (fun y hx => e_X3_fail (Nat.le_trans (Nat.le_of_ble_eq_true rfl) hf) hc1 hx) fun W11 h => ?_
          refine V_aload_n (i := 0) dX3_takeNumber_57 rfl rfl ?_
          refine V_getfield dX3_takeNumber_58 (mem_13 hc1) fl_X3_12 rfl ?_
          refine D_cVU (As := []) (μ := fun W12 => (MEM b c W12 M)) h dX3_takeNumber_61 cv_X3_99 rfl ⟨_, _, _, (mem_15 hc1), rfl, rfl⟩ rfl (Nat.le_of_ble_eq_true rfl) (fun y hx => e_X6_advance (Nat.le_trans (Nat.le_of_ble_eq_true rfl) hf) hc1 hx) fun W12 h => ?_
          refine V_iload_n (i := 3) dX3_takeNumber_64 rfl rfl ?_
          obtain rfl := Option.some.inj h
          exact V_ireturn dX3_takeNumber_65 ⟨_, rfl, rfl⟩ ⟨rfl, rfl, rfl⟩
    · refine V_aload_n (i := 0) dX3_takeNumber_34 rfl rfl ?_
      refine V_iconst (v := 1) dX3_takeNumber_35 (by decide) ?_
      refine D_cVU (As := [_]) (μ := fun W13 => (MEM b c W13 M)) h dX3_takeNumber_36 cv_X3_95 rfl ⟨_, _, _, (mem_13 hc1), rfl, rfl⟩ rfl (Nat.le_of_ble_eq_true rfl) (fun y hx => e_X3_fail (Nat.le_trans (Nat.le_of_ble_eq_true rfl) hf) hc1 hx) fun W13 h => ?_
      refine V_goto (tgt := 57) dX3_takeNumber_39 rfl ?_
      refine V_aload_n (i := 0) dX3_takeNumber_57 rfl rfl ?_
      refine V_getfield dX3_takeNumber_58 (mem_13 hc1) fl_X3_12 rfl ?_
      refine D_cVU (As := []) (μ := fun W14 => (MEM b c W14 M)) h dX3_takeNumber_61 cv_X3_99 rfl ⟨_, _, _, (mem_15 hc1), rfl, rfl⟩ rfl (Nat.le_of_ble_eq_true rfl) (fun y hx => e_X6_advance (Nat.le_trans (Nat.le_of_ble_eq_true rfl) hf) hc1 hx) fun W14 h => ?_
      refine V_iload_n (i := 3) dX3_takeNumber_64 rfl rfl ?_
      obtain rfl := Option.some.inj h
      exact V_ireturn dX3_takeNumber_65 ⟨_, rfl, rfl⟩ ⟨rfl, rfl, rfl⟩
noncomputable def l_X3_takeRoute_7  : Nat → (Nat → Nat → Int32) → Int32 → Option (Nat → Nat → Int32)
  | 0, _, _ => none
  | N + 1, W, x1 => if (6 : Int32) < x1 then some W else if (W 13 0) = 0 then jn (bd2 (f_X3_findNamedStation W) (fun v8 W7 => jn (fun (W10 : Nat → Nat → Int32) => if (6 : Int32) ≤ x1 then bdc (f_X3_fail W10 (6 : Int32)) (fun W16 => bdc (f_X6_advance W16) (fun W17 => l_X3_takeRoute_7 N W17 (x1 + (1 : Int32)))) else gd (inr x1 6) (bnd (w2 W10 14 (ix x1) v8) (fun W18 => bnd (w2 W18 13 7 (x1 + (1 : Int32))) (fun W19 => bdc (f_X6_advance W19) (fun W20 => l_X3_takeRoute_7 N W20 (x1 + (1 : Int32))))))) (fun j9 => if x1 ≤ 0 then j9 W7 else gd (inr (x1 - (1 : Int32)) 6) (bdc (f_X4_findTrack (W7 2) (W7 14 (ix (x1 - (1 : Int32)))) v8) (fun v12 => if v12 = (-1 : Int32) then bdc (f_X3_fail W7 (5 : Int32)) (fun W14 => j9 W14) else j9 W7))))) (fun j4 => if x1 < (2 : Int32) then j4 else if (W 15 1) = (3 : Int32) then some W else j4) else some W
theorem lv_X3_takeRoute_7 {G : GT} {f : Nat} {b c : Nat} {M : MM} {hi k n : Nat}  {r : (Nat → Nat → Int32)} (hf : 3 ≤ f) (hc1 : 609 ≤ c) : ∀ (N : Nat) (W : Nat → Nat → Int32) (x1 : Int32) , l_X3_takeRoute_7 N W x1 = some r → V G f (Ex G f) mX3_takeRoute (RH (.inl none) (MEM b c r M) hi) 7 [(0, .ref (b + 93)), (1, .int x1)] [] (MEM b c W M) hi k n := by
  intro N
  induction N with
  | zero => intro W x1 h; cases h
  | succ N ih =>
    intro W x1 h
    rw [l_X3_takeRoute_7] at h
    refine V_iload_n (i := 1) dX3_takeRoute_7 rfl rfl ?_
    refine V_bipush (v := 6) dX3_takeRoute_8 (by decide) ?_
    refine D_icmp_gt (tgt := 113) h dX3_takeRoute_10 rfl (fun b2 h => ?_) (fun b2 h => ?_)
    · obtain rfl := Option.some.inj h
      exact V_return dX3_takeRoute_113 rfl ⟨rfl, rfl, rfl⟩
    · refine V_aload_n (i := 0) dX3_takeRoute_13 rfl rfl ?_
      refine V_getfield dX3_takeRoute_14 (mem_13 hc1) fl_X3_36 rfl ?_
      refine D_if_ne (tgt := 113) h dX3_takeRoute_17 rfl (fun b3 h => ?_) (fun b3 h => ?_)
      · obtain rfl := Option.some.inj h
        exact V_return dX3_takeRoute_113 rfl ⟨rfl, rfl, rfl⟩
      · refine V_iload_n (i := 1) dX3_takeRoute_20 rfl rfl ?_
        refine V_iconst (v := 2) dX3_takeRoute_21 (by decide) ?_
        refine D_jn (fun (j : Option (Nat → Nat → Int32)) =>  j = some r → V G f (Ex G f) mX3_takeRoute (RH (.inl none) (MEM b c r M) hi) 37 [(0, .ref (b + 93)), (1, .int x1)] [] (MEM b c W M) hi k n) h (fun j4 hj4 h => ?_) ?_
        · refine D_icmp_lt (tgt := 37) h dX3_takeRoute_22 rfl (fun b5 h => ?_) (fun b5 h => ?_)
          · exact V_sub (ks := [0, 1]) rfl (hj4 h)
          · refine V_aload_n (i := 0) dX3_takeRoute_25 rfl rfl ?_
            refine V_getfield dX3_takeRoute_26 (mem_13 hc1) fl_X3_12 rfl ?_
            refine V_getfield dX3_takeRoute_29 (mem_15 hc1) fl_X3_42 rfl ?_
            refine V_iconst (v := 3) dX3_takeRoute_32 (by decide) ?_
            refine D_icmp_ne (tgt := 37) h dX3_takeRoute_33 rfl (fun b6 h => ?_) (fun b6 h => ?_)
            · exact V_sub (ks := [0, 1]) rfl (hj4 h)
            · obtain rfl := Option.some.inj h
              exact V_return dX3_takeRoute_36 rfl ⟨rfl, rfl, rfl⟩
        · intro  h
          refine V_aload_n (i := 0) dX3_takeRoute_37 rfl rfl ?_
          refine D_cVIW (As := []) (μ := fun W7 => (MEM b c W7 M)) h dX3_takeRoute_38 cv_X3_179 rfl ⟨_, _, _, (mem_13 hc1), rfl, rfl⟩ rfl (Nat.le_of_ble_eq_true rfl) (fun x y hx => e_X3_findNamedStation (Nat.le_trans (Nat.le_of_ble_eq_true rfl) hf) hc1 hx) fun v8 W7 h => ?_
          refine V_istore_n (i := 2) dX3_takeRoute_41 rfl (Nat.le_of_ble_eq_true rfl) ?_
          refine V_iload_n (i := 1) dX3_takeRoute_42 rfl rfl ?_
          refine D_jn (fun (j : (Nat → Nat → Int32) → Option (Nat → Nat → Int32)) => ∀ (W10 : Nat → Nat → Int32), j W10 = some r → V G f (Ex G f) mX3_takeRoute (RH (.inl none) (MEM b c r M) hi) 71 [(0, .ref (b + 93)), (1, .int x1), (2, .int v8)] [] (MEM b c W10 M) hi k n) h (fun j9 hj9 h => ?_) ?_
          · refine D_if_le (tgt := 71) h dX3_takeRoute_43 rfl (fun b11 h => ?_) (fun b11 h => ?_)
            · exact V_sub (ks := [1, 2, 0]) rfl (hj9 _ h)
            · refine V_aload_n (i := 0) dX3_takeRoute_46 rfl rfl ?_
              refine V_getfield dX3_takeRoute_47 (mem_13 hc1) fl_X3_21 rfl ?_
              refine V_aload_n (i := 0) dX3_takeRoute_50 rfl rfl ?_
              refine V_getfield dX3_takeRoute_51 (mem_13 hc1) fl_X3_29 rfl ?_
              refine V_iload_n (i := 1) dX3_takeRoute_54 rfl rfl ?_
              refine V_iconst (v := 1) dX3_takeRoute_55 (by decide) ?_
              refine V_isub dX3_takeRoute_56 ?_
              refine D3_ild h (mem_14 hc1) dX3_takeRoute_57 fun h => ?_
              refine V_iload_n (i := 2) dX3_takeRoute_58 rfl rfl ?_
              refine D_cVI (As := [_, _]) h dX3_takeRoute_59 cv_X3_124 rfl ⟨_, _, _, (mst_o (u := 2) hc1 (by decide) rfl), rfl, rfl⟩ rfl (Nat.le_of_ble_eq_true rfl) (fun x hx => lift0 (u := 2) hc1 (by decide) rfl (e_X4_findTrack (Nat.le_trans (Nat.le_of_ble_eq_true rfl) hf) hx)) fun v12 h => ?_
              refine V_iconst (v := -1) dX3_takeRoute_62 (by decide) ?_
              refine D_icmp_ne (tgt := 71) h dX3_takeRoute_63 rfl (fun b13 h => ?_) (fun b13 h => ?_)
              · exact V_sub (ks := [1, 2, 0]) rfl (hj9 _ h)
              · refine V_aload_n (i := 0) dX3_takeRoute_66 rfl rfl ?_
                refine V_iconst (v := 5) dX3_takeRoute_67 (by decide) ?_
                refine D_cVU (As := [_]) (μ := fun W14 => (MEM b c W14 M)) h dX3_takeRoute_68 cv_X3_95 rfl ⟨_, _, _, (mem_13 hc1), rfl, rfl⟩ rfl (Nat.le_of_ble_eq_true rfl) (fun y hx => e_X3_fail (Nat.le_trans (Nat.le_of_ble_eq_true rfl) hf) hc1 hx) fun W14 h => ?_
                exact V_sub (ks := [1, 2, 0]) rfl (hj9 _ h)
          · intro W10 h
            refine V_iload_n (i := 1) dX3_takeRoute_71 rfl rfl ?_
            refine V_bipush (v := 6) dX3_takeRoute_72 (by decide) ?_
            refine D_icmp_ge (tgt := 94) h dX3_takeRoute_74 rfl (fun b15 h => ?_) (fun b15 h => ?_)
            · refine V_aload_n (i := 0) dX3_takeRoute_94 rfl rfl ?_
              refine V_bipush (v := 6) dX3_takeRoute_95 (by decide) ?_
              refine D_cVU (As := [_]) (μ := fun W16 => (MEM b c W16 M)) h dX3_takeRoute_97 cv_X3_95 rfl ⟨_, _, _, (mem_13 hc1), rfl, rfl⟩ rfl (Nat.le_of_ble_eq_true rfl) (fun y hx => e_X3_fail (Nat.le_trans (Nat.le_of_ble_eq_true rfl) hf) hc1 hx) fun W16 h => ?_
              refine V_aload_n (i := 0) dX3_takeRoute_100 rfl rfl ?_
              refine V_getfield dX3_takeRoute_101 (mem_13 hc1) fl_X3_12 rfl ?_
              refine D_cVU (As := []) (μ := fun W17 => (MEM b c W17 M)) h dX3_takeRoute_104 cv_X3_99 rfl ⟨_, _, _, (mem_15 hc1), rfl, rfl⟩ rfl (Nat.le_of_ble_eq_true rfl) (fun y hx => e_X6_advance (Nat.le_trans (Nat.le_of_ble_eq_true rfl) hf) hc1 hx) fun W17 h => ?_
              refine D_iinc (i := 1) (w := 1) dX3_takeRoute_107 rfl (by decide) (Nat.le_of_ble_eq_true rfl) ?_
              refine V_goto (tgt := 7) dX3_takeRoute_110 rfl ?_
              exact V_sub (ks := [1, 0]) rfl (ih _ _ h)
            · refine V_aload_n (i := 0) dX3_takeRoute_77 rfl rfl ?_
              refine V_getfield dX3_takeRoute_78 (mem_13 hc1) fl_X3_29 rfl ?_
              refine V_iload_n (i := 1) dX3_takeRoute_81 rfl rfl ?_
              refine V_iload_n (i := 2) dX3_takeRoute_82 rfl rfl ?_
              refine D3_ist (u := 14) h (mem_14 hc1) (pst_14 hc1) dX3_takeRoute_83 fun W18 h => ?_
              refine V_aload_n (i := 0) dX3_takeRoute_84 rfl rfl ?_
              refine V_iload_n (i := 1) dX3_takeRoute_85 rfl rfl ?_
              refine V_iconst (v := 1) dX3_takeRoute_86 (by decide) ?_
              refine V_iadd dX3_takeRoute_87 ?_
              refine D3_put h dX3_takeRoute_88 (mem_13 hc1) (fp_X3_110 rfl) (Nat.le_of_ble_eq_true rfl) (psc_13_7 hc1) fun W19 h => ?_
              refine V_goto (tgt := 100) dX3_takeRoute_91 rfl ?_
              refine V_aload_n (i := 0) dX3_takeRoute_100 rfl rfl ?_
              refine V_getfield dX3_takeRoute_101 (mem_13 hc1) fl_X3_12 rfl ?_
              refine D_cVU (As := []) (μ := fun W20 => (MEM b c W20 M)) h dX3_takeRoute_104 cv_X3_99 rfl ⟨_, _, _, (mem_15 hc1), rfl, rfl⟩ rfl (Nat.le_of_ble_eq_true rfl) (fun y hx => e_X6_advance (Nat.le_trans (Nat.le_of_ble_eq_true rfl) hf) hc1 hx) fun W20 h => ?_
              refine D_iinc (i := 1) (w := 1) dX3_takeRoute_107 rfl (by decide) (Nat.le_of_ble_eq_true rfl) ?_
              refine V_goto (tgt := 7) dX3_takeRoute_110 rfl ?_
              exact V_sub (ks := [1, 0]) rfl (ih _ _ h)
noncomputable def f_X3_takeRoute (W : Nat → Nat → Int32) : Option (Nat → Nat → Int32) :=
  bnd (w2 W 13 7 (0 : Int32)) (fun W1 => l_X3_takeRoute_7 FU W1 (0 : Int32))
theorem e_X3_takeRoute {G : GT} {f0 : Nat} {b c : Nat} {M : MM} {hi k n : Nat} {W : Nat → Nat → Int32} {r : (Nat → Nat → Int32)} (hf0 : 4 ≤ f0) (hc1 : 609 ≤ c) (h : f_X3_takeRoute W = some r) : Ex G f0 mX3_takeRoute [.ref (b + 93)] (MEM b c W M) hi k n (RH (.inl none) (MEM b c r M) hi) := by
  obtain ⟨f, rfl, hf⟩ := suc_of hf0
  unfold f_X3_takeRoute at h
  refine ⟨Nat.le_of_ble_eq_true rfl, ?_⟩
  refine V_aload_n (i := 0) dX3_takeRoute_0 rfl rfl ?_
  refine V_iconst (v := 0) dX3_takeRoute_1 (by decide) ?_
  refine D3_put h dX3_takeRoute_2 (mem_13 hc1) (fp_X3_110 rfl) (Nat.le_of_ble_eq_true rfl) (psc_13_7 hc1) fun W1 h => ?_
  refine V_iconst (v := 0) dX3_takeRoute_5 (by decide) ?_
  refine V_istore_n (i := 1) dX3_takeRoute_6 rfl (Nat.le_of_ble_eq_true rfl) ?_
  refine V_sub (ks := [1, 0]) rfl (lv_X3_takeRoute_7 hf hc1 FU _ _ h)
noncomputable def f_X3_readStatement (W : Nat → Nat → Int32) : Option (Nat → Nat → Int32) :=
  bd2 (f_X3_takeKeyword W) (fun v2 W1 => bnd (w2 W1 13 2 v2) (fun W3 => jn (fun (W5 : Nat → Nat → Int32) => if (W5 15 1) = (3 : Int32) then bdc (f_X6_advance W5) (fun W58 => some W58) else bdc (f_X3_fail W5 (1 : Int32)) (fun W59 => bdc (f_X6_advance W59) (fun W60 => some W60))) (fun j4 => if (W3 13 2) = (1 : Int32) then bd2 (f_X3_takeNewName W3) (fun v8 W7 => bnd (w2 W7 13 3 v8) (fun W9 => j4 W9)) else if (W3 13 2) = (2 : Int32) then bd2 (f_X3_takeNewName W3) (fun v12 W11 => bnd (w2 W11 13 3 v12) (fun W13 => j4 W13)) else if (W3 13 2) = (3 : Int32) then bd2 (f_X3_takeStation W3) (fun v16 W15 => bnd (w2 W15 13 4 v16) (fun W17 => bd2 (f_X3_takeSecondStation W17) (fun v19 W18 => bnd (w2 W18 13 5 v19) (fun W20 => bd2 (f_X3_takeNumber W20 (1 : Int32) (9 : Int32)) (fun v22 W21 => bnd (w2 W21 13 6 v22) (fun W23 => j4 W23)))))) else if (W3 13 2) = (4 : Int32) then bd2 (f_X3_takeNumber W3 (1 : Int32) (4 : Int32)) (fun v26 W25 => bnd (w2 W25 13 6 v26) (fun W27 => bdc (f_X3_takeRoute W27) (fun W28 => j4 W28))) else if (W3 13 2) = (5 : Int32) then bd2 (f_X3_takeStation W3) (fun v31 W30 => bnd (w2 W30 13 4 v31) (fun W32 => bd2 (f_X3_takeSecondStation W32) (fun v34 W33 => bnd (w2 W33 13 5 v34) (fun W35 => bd2 (f_X3_takeNumber W35 (1 : Int32) (9 : Int32)) (fun v37 W36 => bnd (w2 W36 13 6 v37) (fun W38 => j4 W38)))))) else if (W3 13 2) = (6 : Int32) then bd2 (f_X3_takeStation W3) (fun v41 W40 => bnd (w2 W40 13 4 v41) (fun W42 => bd2 (f_X3_takeNumber W42 (0 : Int32) (9 : Int32)) (fun v44 W43 => bnd (w2 W43 13 6 v44) (fun W45 => j4 W45)))) else if (W3 13 2) = (7 : Int32) then bd2 (f_X3_takeStation W3) (fun v48 W47 => bnd (w2 W47 13 4 v48) (fun W49 => bd2 (f_X3_takeSecondStation W49) (fun v51 W50 => bnd (w2 W50 13 5 v51) (fun W52 => j4 W52)))) else if (W3 13 2) = (8 : Int32) then bd2 (f_X3_takeNumber W3 (0 : Int32) (60 : Int32)) (fun v55 W54 => bnd (w2 W54 13 6 v55) (fun W56 => j4 W56)) else gd (tso (W3 13 2) 1 8) (j4 W3))))
theorem e_X3_readStatement {G : GT} {f0 : Nat} {b c : Nat} {M : MM} {hi k n : Nat} {W : Nat → Nat → Int32} {r : (Nat → Nat → Int32)} (hf0 : 8 ≤ f0) (hc1 : 609 ≤ c) (h : f_X3_readStatement W = some r) : Ex G f0 mX3_readStatement [.ref (b + 93)] (MEM b c W M) hi k n (RH (.inl none) (MEM b c r M) hi) := by
  obtain ⟨f, rfl, hf⟩ := suc_of hf0
  unfold f_X3_readStatement at h
  refine ⟨Nat.le_of_ble_eq_true rfl, ?_⟩
  refine V_aload_n (i := 0) dX3_readStatement_0 rfl rfl ?_
  refine V_aload_n (i := 0) dX3_readStatement_1 rfl rfl ?_
  refine D_cVIW (As := []) (μ := fun W1 => (MEM b c W1 M)) h dX3_readStatement_2 cv_X3_61 rfl ⟨_, _, _, (mem_13 hc1), rfl, rfl⟩ rfl (Nat.le_of_ble_eq_true rfl) (fun x y hx => e_X3_takeKeyword (Nat.le_trans (Nat.le_of_ble_eq_true rfl) hf) hc1 hx) fun v2 W1 h => ?_
  refine D3_put h dX3_readStatement_5 (mem_13 hc1) (fp_X3_64 rfl) (Nat.le_of_ble_eq_true rfl) (psc_13_2 hc1) fun W3 h => ?_
  refine V_aload_n (i := 0) dX3_readStatement_8 rfl rfl ?_
  refine V_getfield dX3_readStatement_9 (mem_13 hc1) fl_X3_64 rfl ?_
  refine D_jn (fun (j : (Nat → Nat → Int32) → Option (Nat → Nat → Int32)) => ∀ (W5 : Nat → Nat → Int32), j W5 = some r → V G f (Ex G f) mX3_readStatement (RH (.inl none) (MEM b c r M) hi) 203 [(0, .ref (b + 93))] [] (MEM b c W5 M) hi k n) h (fun j4 hj4 h => ?_) ?_
  · refine D_ite h (fun b6 h => ?_) (fun b6 h => ?_)
    · refine V_tsIn (c := 1) (off := 48) (tgt := 60) b6 dX3_readStatement_12 (by decide) (by decide) (by decide) rfl ?_
      refine V_aload_n (i := 0) dX3_readStatement_60 rfl rfl ?_
      refine V_aload_n (i := 0) dX3_readStatement_61 rfl rfl ?_
      refine D_cVIW (As := []) (μ := fun W7 => (MEM b c W7 M)) h dX3_readStatement_62 cv_X3_67 rfl ⟨_, _, _, (mem_13 hc1), rfl, rfl⟩ rfl (Nat.le_of_ble_eq_true rfl) (fun x y hx => e_X3_takeNewName (Nat.le_trans (Nat.le_of_ble_eq_true rfl) hf) hc1 hx) fun v8 W7 h => ?_
      refine D3_put h dX3_readStatement_65 (mem_13 hc1) (fp_X3_70 rfl) (Nat.le_of_ble_eq_true rfl) (psc_13_3 hc1) fun W9 h => ?_
      refine V_goto (tgt := 203) dX3_readStatement_68 rfl ?_
      exact V_sub (ks := [0]) rfl (hj4 _ h)
    refine D_ite h (fun b10 h => ?_) (fun b10 h => ?_)
    · refine V_tsIn (c := 2) (off := 48) (tgt := 60) b10 dX3_readStatement_12 (by decide) (by decide) (by decide) rfl ?_
      refine V_aload_n (i := 0) dX3_readStatement_60 rfl rfl ?_
      refine V_aload_n (i := 0) dX3_readStatement_61 rfl rfl ?_
      refine D_cVIW (As := []) (μ := fun W11 => (MEM b c W11 M)) h dX3_readStatement_62 cv_X3_67 rfl ⟨_, _, _, (mem_13 hc1), rfl, rfl⟩ rfl (Nat.le_of_ble_eq_true rfl) (fun x y hx => e_X3_takeNewName (Nat.le_trans (Nat.le_of_ble_eq_true rfl) hf) hc1 hx) fun v12 W11 h => ?_
      refine D3_put h dX3_readStatement_65 (mem_13 hc1) (fp_X3_70 rfl) (Nat.le_of_ble_eq_true rfl) (psc_13_3 hc1) fun W13 h => ?_
      refine V_goto (tgt := 203) dX3_readStatement_68 rfl ?_
      exact V_sub (ks := [0]) rfl (hj4 _ h)
    refine D_ite h (fun b14 h => ?_) (fun b14 h => ?_)
    · refine V_tsIn (c := 3) (off := 59) (tgt := 71) b14 dX3_readStatement_12 (by decide) (by decide) (by decide) rfl ?_
      refine V_aload_n (i := 0) dX3_readStatement_71 rfl rfl ?_
      refine V_aload_n (i := 0) dX3_readStatement_72 rfl rfl ?_
      refine D_cVIW (As := []) (μ := fun W15 => (MEM b c W15 M)) h dX3_readStatement_73 cv_X3_73 rfl ⟨_, _, _, (mem_13 hc1), rfl, rfl⟩ rfl (Nat.le_of_ble_eq_true rfl) (fun x y hx => e_X3_takeStation (Nat.le_trans (Nat.le_of_ble_eq_true rfl) hf) hc1 hx) fun v16 W15 h => ?_
      refine D3_put h dX3_readStatement_76 (mem_13 hc1) (fp_X3_76 rfl) (Nat.le_of_ble_eq_true rfl) (psc_13_4 hc1) fun W17 h => ?_
      refine V_aload_n (i := 0) dX3_readStatement_79 rfl rfl ?_
      refine V_aload_n (i := 0) dX3_readStatement_80 rfl rfl ?_
      refine D_cVIW (As := []) (μ := fun W18 => (MEM b c W18 M)) h dX3_readStatement_81 cv_X3_79 rfl ⟨_, _, _, (mem_13 hc1), rfl, rfl⟩ rfl (Nat.le_of_ble_eq_true rfl) (fun x y hx => e_X3_takeSecondStation (Nat.le_trans (Nat.le_of_ble_eq_true rfl) hf) hc1 hx) fun v19 W18 h => ?_
      refine D3_put h dX3_readStatement_84 (mem_13 hc1) (fp_X3_82 rfl) (Nat.le_of_ble_eq_true rfl) (psc_13_5 hc1) fun W20 h => ?_
      refine V_aload_n (i := 0) dX3_readStatement_87 rfl rfl ?_
      refine V_aload_n (i := 0) dX3_readStatement_88 rfl rfl ?_
      refine V_iconst (v := 1) dX3_readStatement_89 (by decide) ?_
      refine V_bipush (v := 9) dX3_readStatement_90 (by decide) ?_
      refine D_cVIW (As := [_, _]) (μ := fun W21 => (MEM b c W21 M)) h dX3_readStatement_92 cv_X3_85 rfl ⟨_, _, _, (mem_13 hc1), rfl, rfl⟩ rfl (Nat.le_of_ble_eq_true rfl) (fun x y hx => e_X3_takeNumber (Nat.le_trans (Nat.le_of_ble_eq_true rfl) hf) hc1 hx) fun v22 W21 h => ?_
      refine D3_put h dX3_readStatement_95 (mem_13 hc1) (fp_X3_89 rfl) (Nat.le_of_ble_eq_true rfl) (psc_13_6 hc1) fun W23 h => ?_
      refine V_goto (tgt := 203) dX3_readStatement_98 rfl ?_
      exact V_sub (ks := [0]) rfl (hj4 _ h)
    refine D_ite h (fun b24 h => ?_) (fun b24 h => ?_)
    · refine V_tsIn (c := 4) (off := 89) (tgt := 101) b24 dX3_readStatement_12 (by decide) (by decide) (by decide) rfl ?_
      refine V_aload_n (i := 0) dX3_readStatement_101 rfl rfl ?_
      refine V_aload_n (i := 0) dX3_readStatement_102 rfl rfl ?_
      refine V_iconst (v := 1) dX3_readStatement_103 (by decide) ?_
      refine V_iconst (v := 4) dX3_readStatement_104 (by decide) ?_
      refine D_cVIW (As := [_, _]) (μ := fun W25 => (MEM b c W25 M)) h dX3_readStatement_105 cv_X3_85 rfl ⟨_, _, _, (mem_13 hc1), rfl, rfl⟩ rfl (Nat.le_of_ble_eq_true rfl) (fun x y hx => e_X3_takeNumber (Nat.le_trans (Nat.le_of_ble_eq_true rfl) hf) hc1 hx) fun v26 W25 h => ?_
      refine D3_put h dX3_readStatement_108 (mem_13 hc1) (fp_X3_89 rfl) (Nat.le_of_ble_eq_true rfl) (psc_13_6 hc1) fun W27 h => ?_
      refine V_aload_n (i := 0) dX3_readStatement_111 rfl rfl ?_
      refine D_cVU (As := []) (μ := fun W28 => (MEM b c W28 M)) h dX3_readStatement_112 cv_X3_92 rfl ⟨_, _, _, (mem_13 hc1), rfl, rfl⟩ rfl (Nat.le_of_ble_eq_true rfl) (fun y hx => e_X3_takeRoute (Nat.le_trans (Nat.le_of_ble_eq_true rfl) hf) hc1 hx) fun W28 h => ?_
      refine V_goto (tgt := 203) dX3_readStatement_115 rfl ?_
      exact V_sub (ks := [0]) rfl (hj4 _ h)
    refine D_ite h (fun b29 h => ?_) (fun b29 h => ?_)
    · refine V_tsIn (c := 5) (off := 106) (tgt := 118) b29 dX3_readStatement_12 (by decide) (by decide) (by decide) rfl ?_
      refine V_aload_n (i := 0) dX3_readStatement_118 rfl rfl ?_
      refine V_aload_n (i := 0) dX3_readStatement_119 rfl rfl ?_
      refine D_cVIW (As := []) (μ := fun W30 => (MEM b c W30 M)) h dX3_readStatement_120 cv_X3_73 rfl ⟨_, _, _, (mem_13 hc1), rfl, rfl⟩ rfl (Nat.le_of_ble_eq_true rfl) (fun x y hx => e_X3_takeStation (Nat.le_trans (Nat.le_of_ble_eq_true rfl) hf) hc1 hx) fun v31 W30 h => ?_
      refine D3_put h dX3_readStatement_123 (mem_13 hc1) (fp_X3_76 rfl) (Nat.le_of_ble_eq_true rfl) (psc_13_4 hc1) fun W32 h => ?_
      refine V_aload_n (i := 0) dX3_readStatement_126 rfl rfl ?_
      refine V_aload_n (i := 0) dX3_readStatement_127 rfl rfl ?_
      refine D_cVIW (As := []) (μ := fun W33 => (MEM b c W33 M)) h dX3_readStatement_128 cv_X3_79 rfl ⟨_, _, _, (mem_13 hc1), rfl, rfl⟩ rfl (Nat.le_of_ble_eq_true rfl) (fun x y hx => e_X3_takeSecondStation (Nat.le_trans (Nat.le_of_ble_eq_true rfl) hf) hc1 hx) fun v34 W33 h => ?_
      refine D3_put h dX3_readStatement_131 (mem_13 hc1) (fp_X3_82 rfl) (Nat.le_of_ble_eq_true rfl) (psc_13_5 hc1) fun W35 h => ?_
      refine V_aload_n (i := 0) dX3_readStatement_134 rfl rfl ?_
      refine V_aload_n (i := 0) dX3_readStatement_135 rfl rfl ?_
      refine V_iconst (v := 1) dX3_readStatement_136 (by decide) ?_
      refine V_bipush (v := 9) dX3_readStatement_137 (by decide) ?_
      refine D_cVIW (As := [_, _]) (μ := fun W36 => (MEM b c W36 M)) h dX3_readStatement_139 cv_X3_85 rfl ⟨_, _, _, (mem_13 hc1), rfl, rfl⟩ rfl (Nat.le_of_ble_eq_true rfl) (fun x y hx => e_X3_takeNumber (Nat.le_trans (Nat.le_of_ble_eq_true rfl) hf) hc1 hx) fun v37 W36 h => ?_
      refine D3_put h dX3_readStatement_142 (mem_13 hc1) (fp_X3_89 rfl) (Nat.le_of_ble_eq_true rfl) (psc_13_6 hc1) fun W38 h => ?_
      refine V_goto (tgt := 203) dX3_readStatement_145 rfl ?_
      exact V_sub (ks := [0]) rfl (hj4 _ h)
    refine D_ite h (fun b39 h => ?_) (fun b39 h => ?_)
    · refine V_tsIn (c := 6) (off := 136) (tgt := 148) b39 dX3_readStatement_12 (by decide) (by decide) (by decide) rfl ?_
      refine V_aload_n (i := 0) dX3_readStatement_148 rfl rfl ?_
      refine V_aload_n (i := 0) dX3_readStatement_149 rfl rfl ?_
      refine D_cVIW (As := []) (μ := fun W40 => (MEM b c W40 M)) h dX3_readStatement_150 cv_X3_73 rfl ⟨_, _, _, (mem_13 hc1), rfl, rfl⟩ rfl (Nat.le_of_ble_eq_true rfl) (fun x y hx => e_X3_takeStation (Nat.le_trans (Nat.le_of_ble_eq_true rfl) hf) hc1 hx) fun v41 W40 h => ?_
      refine D3_put h dX3_readStatement_153 (mem_13 hc1) (fp_X3_76 rfl) (Nat.le_of_ble_eq_true rfl) (psc_13_4 hc1) fun W42 h => ?_
      refine V_aload_n (i := 0) dX3_readStatement_156 rfl rfl ?_
      refine V_aload_n (i := 0) dX3_readStatement_157 rfl rfl ?_
      refine V_iconst (v := 0) dX3_readStatement_158 (by decide) ?_
      refine V_bipush (v := 9) dX3_readStatement_159 (by decide) ?_
      refine D_cVIW (As := [_, _]) (μ := fun W43 => (MEM b c W43 M)) h dX3_readStatement_161 cv_X3_85 rfl ⟨_, _, _, (mem_13 hc1), rfl, rfl⟩ rfl (Nat.le_of_ble_eq_true rfl) (fun x y hx => e_X3_takeNumber (Nat.le_trans (Nat.le_of_ble_eq_true rfl) hf) hc1 hx) fun v44 W43 h => ?_
      refine D3_put h dX3_readStatement_164 (mem_13 hc1) (fp_X3_89 rfl) (Nat.le_of_ble_eq_true rfl) (psc_13_6 hc1) fun W45 h => ?_
      refine V_goto (tgt := 203) dX3_readStatement_167 rfl ?_
      exact V_sub (ks := [0]) rfl (hj4 _ h)
    refine D_ite h (fun b46 h => ?_) (fun b46 h => ?_)
    · refine V_tsIn (c := 7) (off := 158) (tgt := 170) b46 dX3_readStatement_12 (by decide) (by decide) (by decide) rfl ?_
      refine V_aload_n (i := 0) dX3_readStatement_170 rfl rfl ?_
      refine V_aload_n (i := 0) dX3_readStatement_171 rfl rfl ?_
      refine D_cVIW (As := []) (μ := fun W47 => (MEM b c W47 M)) h dX3_readStatement_172 cv_X3_73 rfl ⟨_, _, _, (mem_13 hc1), rfl, rfl⟩ rfl (Nat.le_of_ble_eq_true rfl) (fun x y hx => e_X3_takeStation (Nat.le_trans (Nat.le_of_ble_eq_true rfl) hf) hc1 hx) fun v48 W47 h => ?_
      refine D3_put h dX3_readStatement_175 (mem_13 hc1) (fp_X3_76 rfl) (Nat.le_of_ble_eq_true rfl) (psc_13_4 hc1) fun W49 h => ?_
      refine V_aload_n (i := 0) dX3_readStatement_178 rfl rfl ?_
      refine V_aload_n (i := 0) dX3_readStatement_179 rfl rfl ?_
      refine D_cVIW (As := []) (μ := fun W50 => (MEM b c W50 M)) h dX3_readStatement_180 cv_X3_79 rfl ⟨_, _, _, (mem_13 hc1), rfl, rfl⟩ rfl (Nat.le_of_ble_eq_true rfl) (fun x y hx => e_X3_takeSecondStation (Nat.le_trans (Nat.le_of_ble_eq_true rfl) hf) hc1 hx) fun v51 W50 h => ?_
      refine D3_put h dX3_readStatement_183 (mem_13 hc1) (fp_X3_82 rfl) (Nat.le_of_ble_eq_true rfl) (psc_13_5 hc1) fun W52 h => ?_
      refine V_goto (tgt := 203) dX3_readStatement_186 rfl ?_
      exact V_sub (ks := [0]) rfl (hj4 _ h)
    refine D_ite h (fun b53 h => ?_) (fun b53 h => ?_)
    · refine V_tsIn (c := 8) (off := 177) (tgt := 189) b53 dX3_readStatement_12 (by decide) (by decide) (by decide) rfl ?_
      refine V_aload_n (i := 0) dX3_readStatement_189 rfl rfl ?_
      refine V_aload_n (i := 0) dX3_readStatement_190 rfl rfl ?_
      refine V_iconst (v := 0) dX3_readStatement_191 (by decide) ?_
      refine V_bipush (v := 60) dX3_readStatement_192 (by decide) ?_
      refine D_cVIW (As := [_, _]) (μ := fun W54 => (MEM b c W54 M)) h dX3_readStatement_194 cv_X3_85 rfl ⟨_, _, _, (mem_13 hc1), rfl, rfl⟩ rfl (Nat.le_of_ble_eq_true rfl) (fun x y hx => e_X3_takeNumber (Nat.le_trans (Nat.le_of_ble_eq_true rfl) hf) hc1 hx) fun v55 W54 h => ?_
      refine D3_put h dX3_readStatement_197 (mem_13 hc1) (fp_X3_89 rfl) (Nat.le_of_ble_eq_true rfl) (psc_13_6 hc1) fun W56 h => ?_
      refine V_goto (tgt := 203) dX3_readStatement_200 rfl ?_
      exact V_sub (ks := [0]) rfl (hj4 _ h)
    refine V_tsOut (tgt := 203) h dX3_readStatement_12 rfl fun h => ?_
    exact V_sub (ks := [0]) rfl (hj4 _ h)
  · intro W5 h
    refine V_aload_n (i := 0) dX3_readStatement_203 rfl rfl ?_
    refine V_getfield dX3_readStatement_204 (mem_13 hc1) fl_X3_12 rfl ?_
    refine V_getfield dX3_readStatement_207 (mem_15 hc1) fl_X3_42 rfl ?_
    refine V_iconst (v := 3) dX3_readStatement_210 (by decide) ?_
    refine D_icmp_eq (tgt := 219) h dX3_readStatement_211 rfl (fun b57 h => ?_) (fun b57 h => ?_)
    · refine V_aload_n (i := 0) dX3_readStatement_219 rfl rfl ?_
      refine V_getfield dX3_readStatement_220 (mem_13 hc1) fl_X3_12 rfl ?_
      refine D_cVU (As := []) (μ := fun W58 => (MEM b c W58 M)) h dX3_readStatement_223 cv_X3_99 rfl ⟨_, _, _, (mem_15 hc1), rfl, rfl⟩ rfl (Nat.le_of_ble_eq_true rfl) (fun y hx => e_X6_advance (Nat.le_trans (Nat.le_of_ble_eq_true rfl) hf) hc1 hx) fun W58 h => ?_
      obtain rfl := Option.some.inj h
      exact V_return dX3_readStatement_226 rfl ⟨rfl, rfl, rfl⟩
    · refine V_aload_n (i := 0) dX3_readStatement_214 rfl rfl ?_
      refine V_iconst (v := 1) dX3_readStatement_215 (by decide) ?_
      refine D_cVU (As := [_]) (μ := fun W59 => (MEM b c W59 M)) h dX3_readStatement_216 cv_X3_95 rfl ⟨_, _, _, (mem_13 hc1), rfl, rfl⟩ rfl (Nat.le_of_ble_eq_true rfl) (fun y hx => e_X3_fail (Nat.le_trans (Nat.le_of_ble_eq_true rfl) hf) hc1 hx) fun W59 h => ?_
      refine V_aload_n (i := 0) dX3_readStatement_219 rfl rfl ?_
      refine V_getfield dX3_readStatement_220 (mem_13 hc1) fl_X3_12 rfl ?_
      refine D_cVU (As := []) (μ := fun W60 => (MEM b c W60 M)) h dX3_readStatement_223 cv_X3_99 rfl ⟨_, _, _, (mem_15 hc1), rfl, rfl⟩ rfl (Nat.le_of_ble_eq_true rfl) (fun y hx => e_X6_advance (Nat.le_trans (Nat.le_of_ble_eq_true rfl) hf) hc1 hx) fun W60 h => ?_
      obtain rfl := Option.some.inj h
      exact V_return dX3_readStatement_226 rfl ⟨rfl, rfl, rfl⟩
noncomputable def l_X3_parse_72 (c1 : Int32) (c2 : Int32) (K90 : (Nat → Nat → Int32) → Option (Nat → Nat → Int32)) : Nat → (Nat → Nat → Int32) → Int32 → Option (Nat → Nat → Int32)
  | 0, _, _ => none
  | N + 1, W, x3 => if c2 ≤ x3 then K90 W else bdc (f_X4_passMinute (W 2)) (fun S21 => bnd (setU W 2 S21) (fun W20 => l_X3_parse_72 c1 c2 K90 N W20 (x3 + (1 : Int32))))
theorem lv_X3_parse_72 {G : GT} {f : Nat} {b c : Nat} {M : MM} {hi k n : Nat} {c1 : Int32} {c2 : Int32} {K90 : (Nat → Nat → Int32) → Option (Nat → Nat → Int32)} {r : (Nat → Nat → Int32)} (hf : 8 ≤ f) (hc1 : 609 ≤ c) (hK90 : ∀ (Wk : Nat → Nat → Int32), K90 Wk = some r → V G f (Ex G f) mX3_parse (RH (.inl none) (MEM b c r M) hi) 90 [(0, .ref (b + 93)), (1, .int c1)] [] (MEM b c Wk M) hi k n) : ∀ (N : Nat) (W : Nat → Nat → Int32) (x3 : Int32) , l_X3_parse_72 c1 c2 K90 N W x3 = some r → V G f (Ex G f) mX3_parse (RH (.inl none) (MEM b c r M) hi) 72 [(0, .ref (b + 93)), (1, .int c1), (2, .int c2), (3, .int x3)] [] (MEM b c W M) hi k n := by
  intro N
  induction N with
  | zero => intro W x3 h; cases h
  | succ N ih =>
    intro W x3 h
    rw [l_X3_parse_72] at h
    refine V_iload_n (i := 3) dX3_parse_72 rfl rfl ?_
    refine V_iload_n (i := 2) dX3_parse_73 rfl rfl ?_
    refine D_icmp_ge (tgt := 90) h dX3_parse_74 rfl (fun b19 h => ?_) (fun b19 h => ?_)
    · exact V_sub (ks := [0, 1]) rfl (hK90 _ h)
    · refine V_aload_n (i := 0) dX3_parse_77 rfl rfl ?_
      refine V_getfield dX3_parse_78 (mem_13 hc1) fl_X3_21 rfl ?_
      refine D_cVU (As := []) (μ := fun S21 => (MEM b c (setU W 2 S21) M)) h dX3_parse_81 cv_X3_52 rfl ⟨_, _, _, (mst_o (u := 2) hc1 (by decide) rfl), rfl, rfl⟩ rfl (Nat.le_of_ble_eq_true rfl) (fun y hx => lift1 (u := 2) hc1 (by decide) rfl (e_X4_passMinute (Nat.le_trans (Nat.le_of_ble_eq_true rfl) hf) hx)) fun S21 h => ?_
      refine D3_gen (μ := fun W => (MEM b c W M)) h fun W20 h => ?_
      refine D_iinc (i := 3) (w := 1) dX3_parse_84 rfl (by decide) (Nat.le_of_ble_eq_true rfl) ?_
      refine V_goto (tgt := 72) dX3_parse_87 rfl ?_
      exact V_sub (ks := [1, 2, 3, 0]) rfl (ih _ _ h)
noncomputable def l_X3_parse_26  : Nat → (Nat → Nat → Int32) → Int32 → Option (Nat → Nat → Int32)
  | 0, _, _ => none
  | N + 1, W, x1 => if (600 : Int32) ≤ x1 then bnd (w2 W 15 0 (0 : Int32)) (fun W7 => some W7) else if (W 13 0) = 0 then if (W 15 1) = 0 then bnd (w2 W 15 0 (0 : Int32)) (fun W11 => some W11) else bdc (f_X3_readStatement W) (fun W12 => jn (fun (W14 : Nat → Nat → Int32) (v15 : Int32) => l_X3_parse_72 x1 v15 (fun (x22 : Nat → Nat → Int32) => l_X3_parse_26 N x22 (x1 + (1 : Int32))) FU W14 (0 : Int32)) (fun j13 => if (W12 13 0) = 0 then bd2 (f_X3_execute W12) (fun v18 W17 => j13 W17 v18) else j13 W12 (0 : Int32))) else bnd (w2 W 15 0 (0 : Int32)) (fun W9 => some W9)
theorem lv_X3_parse_26 {G : GT} {f : Nat} {b c : Nat} {M : MM} {hi k n : Nat}  {r : (Nat → Nat → Int32)} (hf : 8 ≤ f) (hc1 : 609 ≤ c) : ∀ (N : Nat) (W : Nat → Nat → Int32) (x1 : Int32) , l_X3_parse_26 N W x1 = some r → V G f (Ex G f) mX3_parse (RH (.inl none) (MEM b c r M) hi) 26 [(0, .ref (b + 93)), (1, .int x1)] [] (MEM b c W M) hi k n := by
  intro N
  induction N with
  | zero => intro W x1 h; cases h
  | succ N ih =>
    intro W x1 h
    rw [l_X3_parse_26] at h
    refine V_iload_n (i := 1) dX3_parse_26 rfl rfl ?_
    refine V_sipush (v := 600) dX3_parse_27 (by decide) ?_
    refine D_icmp_ge (tgt := 96) h dX3_parse_30 rfl (fun b6 h => ?_) (fun b6 h => ?_)
    · refine V_aload_n (i := 0) dX3_parse_96 rfl rfl ?_
      refine V_getfield dX3_parse_97 (mem_13 hc1) fl_X3_12 rfl ?_
      refine V_iconst (v := 0) dX3_parse_100 (by decide) ?_
      refine D3_put h dX3_parse_101 (mem_15 hc1) (fp_X3_55 rfl) (Nat.le_of_ble_eq_true rfl) (psc_15_0 hc1) fun W7 h => ?_
      obtain rfl := Option.some.inj h
      exact V_return dX3_parse_104 rfl ⟨rfl, rfl, rfl⟩
    · refine V_aload_n (i := 0) dX3_parse_33 rfl rfl ?_
      refine V_getfield dX3_parse_34 (mem_13 hc1) fl_X3_36 rfl ?_
      refine D_if_ne (tgt := 96) h dX3_parse_37 rfl (fun b8 h => ?_) (fun b8 h => ?_)
      · refine V_aload_n (i := 0) dX3_parse_96 rfl rfl ?_
        refine V_getfield dX3_parse_97 (mem_13 hc1) fl_X3_12 rfl ?_
        refine V_iconst (v := 0) dX3_parse_100 (by decide) ?_
        refine D3_put h dX3_parse_101 (mem_15 hc1) (fp_X3_55 rfl) (Nat.le_of_ble_eq_true rfl) (psc_15_0 hc1) fun W9 h => ?_
        obtain rfl := Option.some.inj h
        exact V_return dX3_parse_104 rfl ⟨rfl, rfl, rfl⟩
      · refine V_aload_n (i := 0) dX3_parse_40 rfl rfl ?_
        refine V_getfield dX3_parse_41 (mem_13 hc1) fl_X3_12 rfl ?_
        refine V_getfield dX3_parse_44 (mem_15 hc1) fl_X3_42 rfl ?_
        refine D_if_eq (tgt := 96) h dX3_parse_47 rfl (fun b10 h => ?_) (fun b10 h => ?_)
        · refine V_aload_n (i := 0) dX3_parse_96 rfl rfl ?_
          refine V_getfield dX3_parse_97 (mem_13 hc1) fl_X3_12 rfl ?_
          refine V_iconst (v := 0) dX3_parse_100 (by decide) ?_
          refine D3_put h dX3_parse_101 (mem_15 hc1) (fp_X3_55 rfl) (Nat.le_of_ble_eq_true rfl) (psc_15_0 hc1) fun W11 h => ?_
          obtain rfl := Option.some.inj h
          exact V_return dX3_parse_104 rfl ⟨rfl, rfl, rfl⟩
        · refine V_aload_n (i := 0) dX3_parse_50 rfl rfl ?_
          refine D_cVU (As := []) (μ := fun W12 => (MEM b c W12 M)) h dX3_parse_51 cv_X3_45 rfl ⟨_, _, _, (mem_13 hc1), rfl, rfl⟩ rfl (Nat.le_of_ble_eq_true rfl) (fun y hx => e_X3_readStatement (Nat.le_trans (Nat.le_of_ble_eq_true rfl) hf) hc1 hx) fun W12 h => ?_
          refine V_aload_n (i := 0) dX3_parse_54 rfl rfl ?_
          refine V_getfield dX3_parse_55 (mem_13 hc1) fl_X3_36 rfl ?_
          refine D_jn (fun (j : (Nat → Nat → Int32) → Int32 → Option (Nat → Nat → Int32)) => ∀ (W14 : Nat → Nat → Int32) (v15 : Int32), j W14 v15 = some r → V G f (Ex G f) mX3_parse (RH (.inl none) (MEM b c r M) hi) 69 [(0, .ref (b + 93)), (1, .int x1)] [.int v15] (MEM b c W14 M) hi k n) h (fun j13 hj13 h => ?_) ?_
          · refine D_if_ne (tgt := 68) h dX3_parse_58 rfl (fun b16 h => ?_) (fun b16 h => ?_)
            · refine V_iconst (v := 0) dX3_parse_68 (by decide) ?_
              exact V_sub (ks := [0, 1]) rfl (hj13 _ _ h)
            · refine V_aload_n (i := 0) dX3_parse_61 rfl rfl ?_
              refine D_cVIW (As := []) (μ := fun W17 => (MEM b c W17 M)) h dX3_parse_62 cv_X3_48 rfl ⟨_, _, _, (mem_13 hc1), rfl, rfl⟩ rfl (Nat.le_of_ble_eq_true rfl) (fun x y hx => e_X3_execute (Nat.le_trans (Nat.le_of_ble_eq_true rfl) hf) hc1 hx) fun v18 W17 h => ?_
              refine V_goto (tgt := 69) dX3_parse_65 rfl ?_
              exact V_sub (ks := [0, 1]) rfl (hj13 _ _ h)
          · intro W14 v15 h
            refine V_istore_n (i := 2) dX3_parse_69 rfl (Nat.le_of_ble_eq_true rfl) ?_
            refine V_iconst (v := 0) dX3_parse_70 (by decide) ?_
            refine V_istore_n (i := 3) dX3_parse_71 rfl (Nat.le_of_ble_eq_true rfl) ?_
            refine V_sub (ks := [2, 3, 1, 0]) rfl (lv_X3_parse_72 hf hc1 ?_ FU _ _ h)
            · intro x22 h
              refine D_iinc (i := 1) (w := 1) dX3_parse_90 rfl (by decide) (Nat.le_of_ble_eq_true rfl) ?_
              refine V_goto (tgt := 26) dX3_parse_93 rfl ?_
              exact V_sub (ks := [1, 0]) rfl (ih _ _ h)
noncomputable def f_X3_parse (W : Nat → Nat → Int32) : Option (Nat → Nat → Int32) :=
  bdc (f_X4_clear (W 2)) (fun S2 => bnd (setU W 2 S2) (fun W1 => bnd (w2 W1 13 0 (0 : Int32)) (fun W3 => bnd (w2 W3 13 1 (-1 : Int32)) (fun W4 => bdc (f_X6_begin W4) (fun W5 => l_X3_parse_26 FU W5 (0 : Int32))))))
theorem e_X3_parse {G : GT} {f0 : Nat} {b c : Nat} {M : MM} {hi k n : Nat} {W : Nat → Nat → Int32} {r : (Nat → Nat → Int32)} (hf0 : 9 ≤ f0) (hc1 : 609 ≤ c) (h : f_X3_parse W = some r) : Ex G f0 mX3_parse [.ref (b + 93)] (MEM b c W M) hi k n (RH (.inl none) (MEM b c r M) hi) := by
  obtain ⟨f, rfl, hf⟩ := suc_of hf0
  unfold f_X3_parse at h
  refine ⟨Nat.le_of_ble_eq_true rfl, ?_⟩
  refine V_aload_n (i := 0) dX3_parse_0 rfl rfl ?_
  refine V_getfield dX3_parse_1 (mem_13 hc1) fl_X3_21 rfl ?_
  refine D_cVU (As := []) (μ := fun S2 => (MEM b c (setU W 2 S2) M)) h dX3_parse_4 cv_X3_33 rfl ⟨_, _, _, (mst_o (u := 2) hc1 (by decide) rfl), rfl, rfl⟩ rfl (Nat.le_of_ble_eq_true rfl) (fun y hx => lift1 (u := 2) hc1 (by decide) rfl (e_X4_clear (Nat.le_trans (Nat.le_of_ble_eq_true rfl) hf) hx)) fun S2 h => ?_
  refine D3_gen (μ := fun W => (MEM b c W M)) h fun W1 h => ?_
  refine V_aload_n (i := 0) dX3_parse_7 rfl rfl ?_
  refine V_iconst (v := 0) dX3_parse_8 (by decide) ?_
  refine D3_put h dX3_parse_9 (mem_13 hc1) (fp_X3_36 rfl) (Nat.le_of_ble_eq_true rfl) (psc_13_0 hc1) fun W3 h => ?_
  refine V_aload_n (i := 0) dX3_parse_12 rfl rfl ?_
  refine V_iconst (v := -1) dX3_parse_13 (by decide) ?_
  refine D3_put h dX3_parse_14 (mem_13 hc1) (fp_X3_25 rfl) (Nat.le_of_ble_eq_true rfl) (psc_13_1 hc1) fun W4 h => ?_
  refine V_aload_n (i := 0) dX3_parse_17 rfl rfl ?_
  refine V_getfield dX3_parse_18 (mem_13 hc1) fl_X3_12 rfl ?_
  refine D_cVU (As := []) (μ := fun W5 => (MEM b c W5 M)) h dX3_parse_21 cv_X3_39 rfl ⟨_, _, _, (mem_15 hc1), rfl, rfl⟩ rfl (Nat.le_of_ble_eq_true rfl) (fun y hx => e_X6_begin (Nat.le_trans (Nat.le_of_ble_eq_true rfl) hf) hc1 hx) fun W5 h => ?_
  refine V_iconst (v := 0) dX3_parse_24 (by decide) ?_
  refine V_istore_n (i := 1) dX3_parse_25 rfl (Nat.le_of_ble_eq_true rfl) ?_
  refine V_sub (ks := [1, 0]) rfl (lv_X3_parse_26 hf hc1 FU _ _ h)
noncomputable def f_X6_appendByte (W : Nat → Nat → Int32) (a1 : Int32) : Option (Nat → Nat → Int32) :=
  if (W 15 0) < 0 then some W else if (600 : Int32) ≤ (W 15 0) then some W else gd (inr (W 15 0) 600) (bnd (w2 W 16 (ix (W 15 0)) (nb ((a1).toInt8.toInt32))) (fun W3 => bnd (w2 W3 15 0 ((W3 15 0) + (1 : Int32))) (fun W4 => some W4)))
theorem e_X6_appendByte {G : GT} {f0 : Nat} {b c : Nat} {M : MM} {hi k n : Nat} {W : Nat → Nat → Int32} {a1 : Int32} {r : (Nat → Nat → Int32)} (hf0 : 1 ≤ f0) (hc1 : 609 ≤ c) (h : f_X6_appendByte W a1 = some r) : Ex G f0 mX6_appendByte [.ref (b + 94), .int a1] (MEM b c W M) hi k n (RH (.inl none) (MEM b c r M) hi) := by
  obtain ⟨f, rfl, hf⟩ := suc_of hf0
  unfold f_X6_appendByte at h
  refine ⟨Nat.le_of_ble_eq_true rfl, ?_⟩
  refine V_aload_n (i := 0) dX6_appendByte_0 rfl rfl ?_
  refine V_getfield dX6_appendByte_1 (mem_15 hc1) fl_X6_15 rfl ?_
  refine D_if_lt (tgt := 40) h dX6_appendByte_4 rfl (fun b1 h => ?_) (fun b1 h => ?_)
  · obtain rfl := Option.some.inj h
    exact V_return dX6_appendByte_40 rfl ⟨rfl, rfl, rfl⟩
  · refine V_aload_n (i := 0) dX6_appendByte_7 rfl rfl ?_
    refine V_getfield dX6_appendByte_8 (mem_15 hc1) fl_X6_15 rfl ?_
    refine V_aload_n (i := 0) dX6_appendByte_11 rfl rfl ?_
    refine V_getfield dX6_appendByte_12 (mem_15 hc1) fl_X6_9 rfl ?_
    refine V_alen (t := 0) (v := 600) dX6_appendByte_15 (mem_16 hc1) (by decide) rfl ?_
    refine D_icmp_ge (tgt := 40) h dX6_appendByte_16 rfl (fun b2 h => ?_) (fun b2 h => ?_)
    · obtain rfl := Option.some.inj h
      exact V_return dX6_appendByte_40 rfl ⟨rfl, rfl, rfl⟩
    · refine V_aload_n (i := 0) dX6_appendByte_19 rfl rfl ?_
      refine V_getfield dX6_appendByte_20 (mem_15 hc1) fl_X6_9 rfl ?_
      refine V_aload_n (i := 0) dX6_appendByte_23 rfl rfl ?_
      refine V_getfield dX6_appendByte_24 (mem_15 hc1) fl_X6_15 rfl ?_
      refine V_iload_n (i := 1) dX6_appendByte_27 rfl rfl ?_
      refine V_i2b dX6_appendByte_28 rfl ?_
      refine D3_bst (u := 16) h (mem_16 hc1) (pst_16 hc1) dX6_appendByte_29 fun W3 h => ?_
      refine V_aload_n (i := 0) dX6_appendByte_30 rfl rfl ?_
      refine V_dup dX6_appendByte_31 rfl ?_
      refine V_getfield dX6_appendByte_32 (mem_15 hc1) fl_X6_15 rfl ?_
      refine V_iconst (v := 1) dX6_appendByte_35 (by decide) ?_
      refine V_iadd dX6_appendByte_36 ?_
      refine D3_put h dX6_appendByte_37 (mem_15 hc1) (fp_X6_15 rfl) (Nat.le_of_ble_eq_true rfl) (psc_15_0 hc1) fun W4 h => ?_
      obtain rfl := Option.some.inj h
      exact V_return dX6_appendByte_40 rfl ⟨rfl, rfl, rfl⟩
noncomputable def f_X6_appendFourBytes (W : Nat → Nat → Int32) (a1 : Int32) : Option (Nat → Nat → Int32) :=
  bdc (f_X6_appendByte W (ushr a1 (24 : Int32))) (fun W1 => bdc (f_X6_appendByte W1 (ushr a1 (16 : Int32))) (fun W2 => bdc (f_X6_appendByte W2 (ushr a1 (8 : Int32))) (fun W3 => bdc (f_X6_appendByte W3 a1) (fun W4 => some W4))))
theorem e_X6_appendFourBytes {G : GT} {f0 : Nat} {b c : Nat} {M : MM} {hi k n : Nat} {W : Nat → Nat → Int32} {a1 : Int32} {r : (Nat → Nat → Int32)} (hf0 : 2 ≤ f0) (hc1 : 609 ≤ c) (h : f_X6_appendFourBytes W a1 = some r) : Ex G f0 mX6_appendFourBytes [.ref (b + 94), .int a1] (MEM b c W M) hi k n (RH (.inl none) (MEM b c r M) hi) := by
  obtain ⟨f, rfl, hf⟩ := suc_of hf0
  unfold f_X6_appendFourBytes at h
  refine ⟨Nat.le_of_ble_eq_true rfl, ?_⟩
  refine V_aload_n (i := 0) dX6_appendFourBytes_0 rfl rfl ?_
  refine V_iload_n (i := 1) dX6_appendFourBytes_1 rfl rfl ?_
  refine V_bipush (v := 24) dX6_appendFourBytes_2 (by decide) ?_
  refine V_iushr (v := ushr a1 (24 : Int32)) dX6_appendFourBytes_4 rfl ?_
  refine D_cVU (As := [_]) (μ := fun W1 => (MEM b c W1 M)) h dX6_appendFourBytes_5 cv_X6_19 rfl ⟨_, _, _, (mem_15 hc1), rfl, rfl⟩ rfl (Nat.le_of_ble_eq_true rfl) (fun y hx => e_X6_appendByte (Nat.le_trans (Nat.le_of_ble_eq_true rfl) hf) hc1 hx) fun W1 h => ?_
  refine V_aload_n (i := 0) dX6_appendFourBytes_8 rfl rfl ?_
  refine V_iload_n (i := 1) dX6_appendFourBytes_9 rfl rfl ?_
  refine V_bipush (v := 16) dX6_appendFourBytes_10 (by decide) ?_
  refine V_iushr (v := ushr a1 (16 : Int32)) dX6_appendFourBytes_12 rfl ?_
  refine D_cVU (As := [_]) (μ := fun W2 => (MEM b c W2 M)) h dX6_appendFourBytes_13 cv_X6_19 rfl ⟨_, _, _, (mem_15 hc1), rfl, rfl⟩ rfl (Nat.le_of_ble_eq_true rfl) (fun y hx => e_X6_appendByte (Nat.le_trans (Nat.le_of_ble_eq_true rfl) hf) hc1 hx) fun W2 h => ?_
  refine V_aload_n (i := 0) dX6_appendFourBytes_16 rfl rfl ?_
  refine V_iload_n (i := 1) dX6_appendFourBytes_17 rfl rfl ?_
  refine V_bipush (v := 8) dX6_appendFourBytes_18 (by decide) ?_
  refine V_iushr (v := ushr a1 (8 : Int32)) dX6_appendFourBytes_20 rfl ?_
  refine D_cVU (As := [_]) (μ := fun W3 => (MEM b c W3 M)) h dX6_appendFourBytes_21 cv_X6_19 rfl ⟨_, _, _, (mem_15 hc1), rfl, rfl⟩ rfl (Nat.le_of_ble_eq_true rfl) (fun y hx => e_X6_appendByte (Nat.le_trans (Nat.le_of_ble_eq_true rfl) hf) hc1 hx) fun W3 h => ?_
  refine V_aload_n (i := 0) dX6_appendFourBytes_24 rfl rfl ?_
  refine V_iload_n (i := 1) dX6_appendFourBytes_25 rfl rfl ?_
  refine D_cVU (As := [_]) (μ := fun W4 => (MEM b c W4 M)) h dX6_appendFourBytes_26 cv_X6_19 rfl ⟨_, _, _, (mem_15 hc1), rfl, rfl⟩ rfl (Nat.le_of_ble_eq_true rfl) (fun y hx => e_X6_appendByte (Nat.le_trans (Nat.le_of_ble_eq_true rfl) hf) hc1 hx) fun W4 h => ?_
  obtain rfl := Option.some.inj h
  exact V_return dX6_appendFourBytes_29 rfl ⟨rfl, rfl, rfl⟩
noncomputable def l_X6_appendText_2 (c1 : Nat) : Nat → (Nat → Nat → Int32) → Int32 → Option (Nat → Nat → Int32)
  | 0, _, _ => none
  | N + 1, W, x2 => if (nI (lenS c1)) ≤ x2 then some W else gd (inr x2 (lenS c1)) (bdc (f_X6_appendByte W (chS c1 (ix x2))) (fun W2 => l_X6_appendText_2 c1 N W2 (x2 + (1 : Int32))))
theorem lv_X6_appendText_2 {G : GT} {f : Nat} {b c : Nat} {M : MM} {hi k n : Nat} {c1 : Nat} {r : (Nat → Nat → Int32)} (hf : 4 ≤ f) (hc1 : 609 ≤ c) (u1 : c1 < nSTR) : ∀ (N : Nat) (W : Nat → Nat → Int32) (x2 : Int32) , l_X6_appendText_2 c1 N W x2 = some r → V G f (Ex G f) mX6_appendText (RH (.inl none) (MEM b c r M) hi) 2 [(0, .ref (b + 94)), (1, .ref (G.2.2.2.1 c1)), (2, .int x2)] [] (MEM b c W M) hi k n := by
  intro N
  induction N with
  | zero => intro W x2 h; cases h
  | succ N ih =>
    intro W x2 h
    rw [l_X6_appendText_2] at h
    refine V_iload_n (i := 2) dX6_appendText_2 rfl rfl ?_
    refine V_aload_n (i := 1) dX6_appendText_3 rfl rfl ?_
    refine D_slen dX6_appendText_4 cv_X6_23 u1 (Nat.le_of_ble_eq_true rfl) (Nat.le_trans (Nat.le_of_ble_eq_true rfl) hf) ?_
    refine D_icmp_ge (tgt := 25) h dX6_appendText_7 rfl (fun b1 h => ?_) (fun b1 h => ?_)
    · obtain rfl := Option.some.inj h
      exact V_return dX6_appendText_25 rfl ⟨rfl, rfl, rfl⟩
    · refine V_aload_n (i := 0) dX6_appendText_10 rfl rfl ?_
      refine V_aload_n (i := 1) dX6_appendText_11 rfl rfl ?_
      refine V_iload_n (i := 2) dX6_appendText_12 rfl rfl ?_
      refine D_schar h dX6_appendText_13 cv_X6_28 u1 (Nat.le_of_ble_eq_true rfl) (Nat.le_trans (Nat.le_of_ble_eq_true rfl) hf) fun h => ?_
      refine D_cVU (As := [_]) (μ := fun W2 => (MEM b c W2 M)) h dX6_appendText_16 cv_X6_19 rfl ⟨_, _, _, (mem_15 hc1), rfl, rfl⟩ rfl (Nat.le_of_ble_eq_true rfl) (fun y hx => e_X6_appendByte (Nat.le_trans (Nat.le_of_ble_eq_true rfl) hf) hc1 hx) fun W2 h => ?_
      refine D_iinc (i := 2) (w := 1) dX6_appendText_19 rfl (by decide) (Nat.le_of_ble_eq_true rfl) ?_
      refine V_goto (tgt := 2) dX6_appendText_22 rfl ?_
      exact V_sub (ks := [1, 2, 0]) rfl (ih _ _ h)
noncomputable def f_X6_appendText (W : Nat → Nat → Int32) (j1 : Nat) : Option (Nat → Nat → Int32) :=
  l_X6_appendText_2 j1 FU W (0 : Int32)
theorem e_X6_appendText {G : GT} {f0 : Nat} {b c : Nat} {M : MM} {hi k n : Nat} {W : Nat → Nat → Int32} {j1 : Nat} {r : (Nat → Nat → Int32)} (hf0 : 5 ≤ f0) (hc1 : 609 ≤ c) (t1 : j1 < nSTR) (h : f_X6_appendText W j1 = some r) : Ex G f0 mX6_appendText [.ref (b + 94), .ref (G.2.2.2.1 j1)] (MEM b c W M) hi k n (RH (.inl none) (MEM b c r M) hi) := by
  obtain ⟨f, rfl, hf⟩ := suc_of hf0
  unfold f_X6_appendText at h
  refine ⟨Nat.le_of_ble_eq_true rfl, ?_⟩
  refine V_iconst (v := 0) dX6_appendText_0 (by decide) ?_
  refine V_istore_n (i := 2) dX6_appendText_1 rfl (Nat.le_of_ble_eq_true rfl) ?_
  refine V_sub (ks := [1, 2, 0]) rfl (lv_X6_appendText_2 hf hc1 t1 FU _ _ h)
noncomputable def f_X9_checkStation (W : Nat → Nat → Int32) (a1 : Int32) : Option (String ⊕ Unit) :=
  if a1 < 0 then some (.inl "java/lang/IndexOutOfBoundsException") else if a1 < (W 0 1) then some (.inr ()) else some (.inl "java/lang/IndexOutOfBoundsException")
theorem e_X9_checkStation {G : GT} {f0 : Nat} {b c : Nat} {M : MM} {hi : Nat} {W : Nat → Nat → Int32} {a1 : Int32} {r : (String ⊕ Unit)} (hf0 : 8 ≤ f0) (hc1 : 609 ≤ c) (h : f_X9_checkStation W a1 = some r) : Ex G f0 mX9_checkStation [.ref (b), .int a1] (MEM b c W M) hi 1 6 (RP (rhoU r) (MEM b c W M)) := by
  obtain ⟨f, rfl, hf⟩ := suc_of hf0
  unfold f_X9_checkStation at h
  refine ⟨Nat.le_of_ble_eq_true rfl, ?_⟩
  refine V_iload_n (i := 1) dX9_checkStation_0 rfl rfl ?_
  refine D_if_lt (tgt := 15) h dX9_checkStation_1 rfl (fun b1 h => ?_) (fun b1 h => ?_)
  · obtain rfl := Option.some.inj h
    exact V_throwSW (j := 9) dX9_checkStation_15 dX9_checkStation_18 dX9_checkStation_19 dX9_checkStation_22 dX9_checkStation_25 (by decide) tw_738 tw_781 (by decide +kernel) (Nat.le_of_ble_eq_true rfl) (Nat.le_trans (Nat.le_of_ble_eq_true rfl) hf) rfl (fun _ _ => ⟨rfl, rfl⟩)
  · refine V_iload_n (i := 1) dX9_checkStation_4 rfl rfl ?_
    refine V_aload_n (i := 0) dX9_checkStation_5 rfl rfl ?_
    refine V_getfield dX9_checkStation_6 (mem_x9 hc1) fl_X9_10 rfl ?_
    refine V_getfield dX9_checkStation_9 (mst_o (u := 0) hc1 (by decide) rfl) fl_X9_97 rfl ?_
    refine D_icmp_lt (tgt := 26) h dX9_checkStation_12 rfl (fun b2 h => ?_) (fun b2 h => ?_)
    · obtain rfl := Option.some.inj h
      exact V_return dX9_checkStation_26 rfl ⟨rfl, rfl⟩
    · obtain rfl := Option.some.inj h
      exact V_throwSW (j := 9) dX9_checkStation_15 dX9_checkStation_18 dX9_checkStation_19 dX9_checkStation_22 dX9_checkStation_25 (by decide) tw_738 tw_781 (by decide +kernel) (Nat.le_of_ble_eq_true rfl) (Nat.le_trans (Nat.le_of_ble_eq_true rfl) hf) rfl (fun _ _ => ⟨rfl, rfl⟩)
noncomputable def f_X9_addParcel (W : Nat → Nat → Int32) (a1 : Int32) (a2 : Int32) (a3 : Int32) : Option ((String ⊕ Int32) × (Nat → Nat → Int32)) :=
  bdt (f_X9_checkStation W a1) (fun e => some (.inl e, W)) (fun _ => bdt (f_X9_checkStation W a2) (fun e => some (.inl e, W)) (fun _ => if a1 = a2 then some (.inl "java/lang/IllegalArgumentException", W) else bdt (f_X9_checkRange a3 (1 : Int32) (9 : Int32)) (fun e => some (.inl e, W)) (fun _ => if (W 0 4) < (12 : Int32) then bdc (f_X0_remember W) (fun W3 => bdc (f_X4_makeParcel (W3 0) a1 a2 a3) (fun S5 => bnd (setU W3 0 S5) (fun W4 => some (.inr ((W4 0 4) - (1 : Int32)), W4)))) else some (.inl "java/lang/IllegalStateException", W))))
theorem e_X9_addParcel {G : GT} {f0 : Nat} {b c : Nat} {M : MM} {hi : Nat} {W : Nat → Nat → Int32} {a1 : Int32} {a2 : Int32} {a3 : Int32} {r : ((String ⊕ Int32) × (Nat → Nat → Int32))} (hf0 : 9 ≤ f0) (hc1 : 609 ≤ c) (h : f_X9_addParcel W a1 a2 a3 = some r) : Ex G f0 mX9_addParcel [.ref (b), .int a1, .int a2, .int a3] (MEM b c W M) hi 4 24 (RP (rhoI r.1) (MEM b c r.2 M)) := by
  obtain ⟨f, rfl, hf⟩ := suc_of hf0
  unfold f_X9_addParcel at h
  refine ⟨Nat.le_of_ble_eq_true rfl, ?_⟩
  refine V_aload_n (i := 0) dX9_addParcel_0 rfl rfl ?_
  refine V_iload_n (i := 1) dX9_addParcel_1 rfl rfl ?_
  refine D_tVU (As := [_]) (k2 := 1) (n2 := 6) h dX9_addParcel_2 cv_X9_115 rfl ⟨_, _, _, (mem_x9 hc1), rfl, rfl⟩ rfl (Nat.le_of_ble_eq_true rfl) (fun x hx => e_X9_checkStation (Nat.le_trans (Nat.le_of_ble_eq_true rfl) hf) hc1 hx) (fun e hi h => Or.inl ⟨rfl, by obtain rfl := Option.some.inj h; exact ⟨rfl, rfl⟩⟩) fun hi h => ?_
  refine V_aload_n (i := 0) dX9_addParcel_5 rfl rfl ?_
  refine V_iload_n (i := 2) dX9_addParcel_6 rfl rfl ?_
  refine D_tVU (As := [_]) (k2 := 1) (n2 := 6) h dX9_addParcel_7 cv_X9_115 rfl ⟨_, _, _, (mem_x9 hc1), rfl, rfl⟩ rfl (Nat.le_of_ble_eq_true rfl) (fun x hx => e_X9_checkStation (Nat.le_trans (Nat.le_of_ble_eq_true rfl) hf) hc1 hx) (fun e hi h => Or.inl ⟨rfl, by obtain rfl := Option.some.inj h; exact ⟨rfl, rfl⟩⟩) fun hi h => ?_
  refine V_iload_n (i := 1) dX9_addParcel_10 rfl rfl ?_
  refine V_iload_n (i := 2) dX9_addParcel_11 rfl rfl ?_
  refine D_icmp_ne (tgt := 26) h dX9_addParcel_12 rfl (fun b1 h => ?_) (fun b1 h => ?_)
  · refine V_iload_n (i := 3) dX9_addParcel_26 rfl rfl ?_
    refine V_iconst (v := 1) dX9_addParcel_27 (by decide) ?_
    refine V_bipush (v := 9) dX9_addParcel_28 (by decide) ?_
    refine D_tSU (As := [_, _, _]) (k2 := 1) (n2 := 6) h dX9_addParcel_30 cs_X9_274 rfl rfl (Nat.le_of_ble_eq_true rfl) (fun x hx => e_X9_checkRange (Nat.le_trans (Nat.le_of_ble_eq_true rfl) hf) hx) (fun e hi h => Or.inl ⟨rfl, by obtain rfl := Option.some.inj h; exact ⟨rfl, rfl⟩⟩) fun hi h => ?_
    refine V_aload_n (i := 0) dX9_addParcel_33 rfl rfl ?_
    refine V_getfield dX9_addParcel_34 (mem_x9 hc1) fl_X9_10 rfl ?_
    refine V_getfield dX9_addParcel_37 (mst_o (u := 0) hc1 (by decide) rfl) fl_X9_112 rfl ?_
    refine V_bipush (v := 12) dX9_addParcel_40 (by decide) ?_
    refine D_icmp_lt (tgt := 56) h dX9_addParcel_42 rfl (fun b2 h => ?_) (fun b2 h => ?_)
    · refine V_aload_n (i := 0) dX9_addParcel_56 rfl rfl ?_
      refine V_getfield dX9_addParcel_57 (mem_x9 hc1) fl_X9_29 rfl ?_
      refine V_aload_n (i := 0) dX9_addParcel_60 rfl rfl ?_
      refine V_getfield dX9_addParcel_61 (mem_x9 hc1) fl_X9_10 rfl ?_
      refine D_cVU (As := [_]) (μ := fun W3 => (MEM b c W3 M)) h dX9_addParcel_64 cv_X9_94 rfl ⟨_, _, _, (mem_17 hc1), rfl, rfl⟩ rfl (Nat.le_of_ble_eq_true rfl) (fun y hx => e_X0_remember (Nat.le_trans (Nat.le_of_ble_eq_true rfl) hf) hc1 hx) fun W3 h => ?_
      refine V_aload_n (i := 0) dX9_addParcel_67 rfl rfl ?_
      refine V_getfield dX9_addParcel_68 (mem_x9 hc1) fl_X9_10 rfl ?_
      refine V_iload_n (i := 1) dX9_addParcel_71 rfl rfl ?_
      refine V_iload_n (i := 2) dX9_addParcel_72 rfl rfl ?_
      refine V_iload_n (i := 3) dX9_addParcel_73 rfl rfl ?_
      refine D_cVU (As := [_, _, _]) (μ := fun S5 => (MEM b c (setU W3 0 S5) M)) h dX9_addParcel_74 cv_X9_291 rfl ⟨_, _, _, (mst_o (u := 0) hc1 (by decide) rfl), rfl, rfl⟩ rfl (Nat.le_of_ble_eq_true rfl) (fun y hx => lift1 (u := 0) hc1 (by decide) rfl (e_X4_makeParcel (Nat.le_trans (Nat.le_of_ble_eq_true rfl) hf) hx)) fun S5 h => ?_
      refine D3_gen (μ := fun W => (MEM b c W M)) h fun W4 h => ?_
      refine V_aload_n (i := 0) dX9_addParcel_77 rfl rfl ?_
      refine V_getfield dX9_addParcel_78 (mem_x9 hc1) fl_X9_10 rfl ?_
      refine V_getfield dX9_addParcel_81 (mst_o (u := 0) hc1 (by decide) rfl) fl_X9_112 rfl ?_
      refine V_iconst (v := 1) dX9_addParcel_84 (by decide) ?_
      refine V_isub dX9_addParcel_85 ?_
      obtain rfl := Option.some.inj h
      exact V_ireturn dX9_addParcel_86 ⟨_, rfl, rfl⟩ ⟨rfl, rfl⟩
    · obtain rfl := Option.some.inj h
      exact V_throwSW (j := 27) dX9_addParcel_45 dX9_addParcel_48 dX9_addParcel_49 dX9_addParcel_52 dX9_addParcel_55 (by decide) tw_1074 tw_1084 (by decide +kernel) (Nat.le_of_ble_eq_true rfl) (Nat.le_trans (Nat.le_of_ble_eq_true rfl) hf) rfl (fun _ _ => ⟨rfl, rfl⟩)
  · obtain rfl := Option.some.inj h
    exact V_throwSW (j := 25) dX9_addParcel_15 dX9_addParcel_18 dX9_addParcel_19 dX9_addParcel_22 dX9_addParcel_25 (by decide) tw_1098 tw_1108 (by decide +kernel) (Nat.le_of_ble_eq_true rfl) (Nat.le_trans (Nat.le_of_ble_eq_true rfl) hf) rfl (fun _ _ => ⟨rfl, rfl⟩)
noncomputable def f_X9_appendInput (W : Nat → Nat → Int32) (a1 : Int32) (a2 : Int32) (a3 : Int32) (a4 : Int32) (a5 : Int32) : Option ((String ⊕ Int32) × (Nat → Nat → Int32)) :=
  if ((W 15 0) + (20 : Int32)) ≤ (600 : Int32) then bdc (f_X6_appendFourBytes W a1) (fun W2 => bdc (f_X6_appendFourBytes W2 a2) (fun W3 => bdc (f_X6_appendFourBytes W3 a3) (fun W4 => bdc (f_X6_appendFourBytes W4 a4) (fun W5 => bdc (f_X6_appendFourBytes W5 a5) (fun W6 => some (.inr (W6 15 0), W6)))))) else some (.inl "java/lang/IllegalStateException", W)
theorem e_X9_appendInput {G : GT} {f0 : Nat} {b c : Nat} {M : MM} {hi : Nat} {W : Nat → Nat → Int32} {a1 : Int32} {a2 : Int32} {a3 : Int32} {a4 : Int32} {a5 : Int32} {r : ((String ⊕ Int32) × (Nat → Nat → Int32))} (hf0 : 8 ≤ f0) (hc1 : 609 ≤ c) (h : f_X9_appendInput W a1 a2 a3 a4 a5 = some r) : Ex G f0 mX9_appendInput [.ref (b), .int a1, .int a2, .int a3, .int a4, .int a5] (MEM b c W M) hi 1 6 (RP (rhoI r.1) (MEM b c r.2 M)) := by
  obtain ⟨f, rfl, hf⟩ := suc_of hf0
  unfold f_X9_appendInput at h
  refine ⟨Nat.le_of_ble_eq_true rfl, ?_⟩
  refine V_aload_n (i := 0) dX9_appendInput_0 rfl rfl ?_
  refine V_getfield dX9_appendInput_1 (mem_x9 hc1) fl_X9_22 rfl ?_
  refine V_getfield dX9_appendInput_4 (mem_13 hc1) fl_X9_48 rfl ?_
  refine V_astore (i := 6) dX9_appendInput_7 (Nat.le_of_ble_eq_true rfl) ?_
  refine V_aload (i := 6) dX9_appendInput_9 rfl ?_
  refine V_getfield dX9_appendInput_11 (mem_15 hc1) fl_X9_70 rfl ?_
  refine V_bipush (v := 20) dX9_appendInput_14 (by decide) ?_
  refine V_iadd dX9_appendInput_16 ?_
  refine V_sipush (v := 600) dX9_appendInput_17 (by decide) ?_
  refine D_icmp_le (tgt := 33) h dX9_appendInput_20 rfl (fun b1 h => ?_) (fun b1 h => ?_)
  · refine V_aload (i := 6) dX9_appendInput_33 rfl ?_
    refine V_iload_n (i := 1) dX9_appendInput_35 rfl rfl ?_
    refine D_cVU (As := [_]) (μ := fun W2 => (MEM b c W2 M)) h dX9_appendInput_36 cv_X9_80 rfl ⟨_, _, _, (mem_15 hc1), rfl, rfl⟩ rfl (Nat.le_of_ble_eq_true rfl) (fun y hx => e_X6_appendFourBytes (Nat.le_trans (Nat.le_of_ble_eq_true rfl) hf) hc1 hx) fun W2 h => ?_
    refine V_aload (i := 6) dX9_appendInput_39 rfl ?_
    refine V_iload_n (i := 2) dX9_appendInput_41 rfl rfl ?_
    refine D_cVU (As := [_]) (μ := fun W3 => (MEM b c W3 M)) h dX9_appendInput_42 cv_X9_80 rfl ⟨_, _, _, (mem_15 hc1), rfl, rfl⟩ rfl (Nat.le_of_ble_eq_true rfl) (fun y hx => e_X6_appendFourBytes (Nat.le_trans (Nat.le_of_ble_eq_true rfl) hf) hc1 hx) fun W3 h => ?_
    refine V_aload (i := 6) dX9_appendInput_45 rfl ?_
    refine V_iload_n (i := 3) dX9_appendInput_47 rfl rfl ?_
    refine D_cVU (As := [_]) (μ := fun W4 => (MEM b c W4 M)) h dX9_appendInput_48 cv_X9_80 rfl ⟨_, _, _, (mem_15 hc1), rfl, rfl⟩ rfl (Nat.le_of_ble_eq_true rfl) (fun y hx => e_X6_appendFourBytes (Nat.le_trans (Nat.le_of_ble_eq_true rfl) hf) hc1 hx) fun W4 h => ?_
    refine V_aload (i := 6) dX9_appendInput_51 rfl ?_
    refine V_iload (i := 4) dX9_appendInput_53 rfl ?_
    refine D_cVU (As := [_]) (μ := fun W5 => (MEM b c W5 M)) h dX9_appendInput_55 cv_X9_80 rfl ⟨_, _, _, (mem_15 hc1), rfl, rfl⟩ rfl (Nat.le_of_ble_eq_true rfl) (fun y hx => e_X6_appendFourBytes (Nat.le_trans (Nat.le_of_ble_eq_true rfl) hf) hc1 hx) fun W5 h => ?_
    refine V_aload (i := 6) dX9_appendInput_58 rfl ?_
    refine V_iload (i := 5) dX9_appendInput_60 rfl ?_
    refine D_cVU (As := [_]) (μ := fun W6 => (MEM b c W6 M)) h dX9_appendInput_62 cv_X9_80 rfl ⟨_, _, _, (mem_15 hc1), rfl, rfl⟩ rfl (Nat.le_of_ble_eq_true rfl) (fun y hx => e_X6_appendFourBytes (Nat.le_trans (Nat.le_of_ble_eq_true rfl) hf) hc1 hx) fun W6 h => ?_
    refine V_aload (i := 6) dX9_appendInput_65 rfl ?_
    refine V_getfield dX9_appendInput_67 (mem_15 hc1) fl_X9_70 rfl ?_
    obtain rfl := Option.some.inj h
    exact V_ireturn dX9_appendInput_70 ⟨_, rfl, rfl⟩ ⟨rfl, rfl⟩
  · obtain rfl := Option.some.inj h
    exact V_throwS (j := 13) dX9_appendInput_23 dX9_appendInput_26 dX9_appendInput_27 dX9_appendInput_29 dX9_appendInput_32 (by decide) tw_1074 tw_1084 (by decide +kernel) (Nat.le_of_ble_eq_true rfl) (Nat.le_trans (Nat.le_of_ble_eq_true rfl) hf) rfl (fun _ _ => ⟨rfl, rfl⟩)
