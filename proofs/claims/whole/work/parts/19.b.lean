noncomputable def f_X10_readStation (W : Nat → Nat → Int32) (a1 : Int32) : Option (Nat → Nat → Int32) :=
  gd (inr (1 : Int32) 251) (jn (fun (v2 : Int32) => bd2 (f_X10_check W v2 (6 : Int32)) (fun v5 W4 => bdc (f_X10_next W4) (fun W6 => jn (fun (v8 : Int32) => bd2 (f_X10_check W6 v8 (1 : Int32)) (fun v11 W10 => jn (fun (v13 : Int32) => bd2 (f_X10_check W10 v13 (2 : Int32)) (fun v16 W15 => jn (fun (v18 : Int32) => bd2 (f_X10_check W15 v18 (3 : Int32)) (fun v23 W22 => jn (fun (v25 : Int32) => bdc (f_X10_next W22) (fun W28 => bdc (f_X10_finish W28) (fun W29 => if (W29 30 9) = 0 then gd (inr (1 : Int32) 251) (bdc (f_X10_ofStation (W29 22 (ix (1 : Int32)))) (fun v31 => gd (inr (v31 + (0 : Int32)) 251) (bnd (w2 W29 22 (ix (v31 + (0 : Int32))) v25) (fun W32 => gd (inr (v31 + (1 : Int32)) 251) (bnd (w2 W32 22 (ix (v31 + (1 : Int32))) a1) (fun W33 => gd (inr (1 : Int32) 251) (gd (inr (1 : Int32) 251) (bnd (w2 W33 22 (ix (1 : Int32)) ((W33 22 (ix (1 : Int32))) + (1 : Int32))) (fun W34 => some W34))))))))) else some W29))) (fun j24 => if (W22 30 9) = 0 then bdc (f_X10_nameHere W22) (fun v27 => j24 v27) else j24 (0 : Int32)))) (fun j17 => if (W15 30 9) = 0 then bdc (f_X10_named W15) (fun v20 => if v20 = (-1 : Int32) then j17 (1 : Int32) else j17 (0 : Int32)) else j17 (1 : Int32)))) (fun j12 => if (4 : Int32) < (W10 30 8) then j12 (0 : Int32) else j12 (1 : Int32)))) (fun j7 => if (W6 30 6) = (3 : Int32) then j7 (1 : Int32) else j7 (0 : Int32))))) (fun j1 => if (8 : Int32) ≤ (W 22 (ix (1 : Int32))) then j1 (0 : Int32) else j1 (1 : Int32)))
theorem e_X10_readStation {G : GT} {f0 : Nat} {b c : Nat} {M : MM} {hi k n : Nat} {W : Nat → Nat → Int32} {a1 : Int32} {r : (Nat → Nat → Int32)} (hf0 : 5 ≤ f0) (hc2 : 619 ≤ c) (h : f_X10_readStation W a1 = some r) : Ex G f0 mX10_readStation [.ref (b + 609), .int a1] (MEM b c W M) hi k n (RH (.inl none) (MEM b c r M) hi) := by
  obtain ⟨f, rfl, hf⟩ := suc_of hf0
  unfold f_X10_readStation at h
  refine ⟨Nat.le_of_ble_eq_true rfl, ?_⟩
  refine V_aload_n (i := 0) dX10_readStation_0 rfl rfl ?_
  refine V_aload_n (i := 0) dX10_readStation_1 rfl rfl ?_
  refine V_getfield dX10_readStation_2 (mem_30 hc2) fl_X10_13 rfl ?_
  refine V_iconst (v := 1) dX10_readStation_5 (by decide) ?_
  refine D3_ild h (mem_22 hc2) dX10_readStation_6 fun h => ?_
  refine V_bipush (v := 8) dX10_readStation_7 (by decide) ?_
  refine D_jn (fun (j : Int32 → Option (Nat → Nat → Int32)) => ∀ (v2 : Int32), j v2 = some r → V G f (Ex G f) mX10_readStation (RH (.inl none) (MEM b c r M) hi) 17 [(0, .ref (b + 609)), (1, .int a1)] [.int v2, .ref (b + 609)] (MEM b c W M) hi k n) h (fun j1 hj1 h => ?_) ?_
  · refine D_icmp_ge (tgt := 16) h dX10_readStation_9 rfl (fun b3 h => ?_) (fun b3 h => ?_)
    · refine V_iconst (v := 0) dX10_readStation_16 (by decide) ?_
      exact V_sub (ks := [0, 1]) rfl (hj1 _ h)
    · refine V_iconst (v := 1) dX10_readStation_12 (by decide) ?_
      refine V_goto (tgt := 17) dX10_readStation_13 rfl ?_
      exact V_sub (ks := [0, 1]) rfl (hj1 _ h)
  · intro v2 h
    refine V_bipush (v := 6) dX10_readStation_17 (by decide) ?_
    refine D_cVIW (As := [_, _]) (μ := fun W4 => (MEM b c W4 M)) h dX10_readStation_19 cv_X10_201 rfl ⟨_, _, _, (mem_30 hc2), rfl, rfl⟩ rfl (Nat.le_of_ble_eq_true rfl) (fun x y hx => e_X10_check (Nat.le_trans (Nat.le_of_ble_eq_true rfl) hf) hc2 hx) fun v5 W4 h => ?_
    refine V_pop dX10_readStation_22 rfl ?_
    refine V_aload_n (i := 0) dX10_readStation_23 rfl rfl ?_
    refine D_cVU (As := []) (μ := fun W6 => (MEM b c W6 M)) h dX10_readStation_24 cv_X10_204 rfl ⟨_, _, _, (mem_30 hc2), rfl, rfl⟩ rfl (Nat.le_of_ble_eq_true rfl) (fun y hx => e_X10_next (Nat.le_trans (Nat.le_of_ble_eq_true rfl) hf) hc2 hx) fun W6 h => ?_
    refine V_aload_n (i := 0) dX10_readStation_27 rfl rfl ?_
    refine V_aload_n (i := 0) dX10_readStation_28 rfl rfl ?_
    refine V_getfield dX10_readStation_29 (mem_30 hc2) fl_X10_194 rfl ?_
    refine V_iconst (v := 3) dX10_readStation_32 (by decide) ?_
    refine D_jn (fun (j : Int32 → Option (Nat → Nat → Int32)) => ∀ (v8 : Int32), j v8 = some r → V G f (Ex G f) mX10_readStation (RH (.inl none) (MEM b c r M) hi) 41 [(0, .ref (b + 609)), (1, .int a1)] [.int v8, .ref (b + 609)] (MEM b c W6 M) hi k n) h (fun j7 hj7 h => ?_) ?_
    · refine D_icmp_ne (tgt := 40) h dX10_readStation_33 rfl (fun b9 h => ?_) (fun b9 h => ?_)
      · refine V_iconst (v := 0) dX10_readStation_40 (by decide) ?_
        exact V_sub (ks := [0, 1]) rfl (hj7 _ h)
      · refine V_iconst (v := 1) dX10_readStation_36 (by decide) ?_
        refine V_goto (tgt := 41) dX10_readStation_37 rfl ?_
        exact V_sub (ks := [0, 1]) rfl (hj7 _ h)
    · intro v8 h
      refine V_iconst (v := 1) dX10_readStation_41 (by decide) ?_
      refine D_cVIW (As := [_, _]) (μ := fun W10 => (MEM b c W10 M)) h dX10_readStation_42 cv_X10_201 rfl ⟨_, _, _, (mem_30 hc2), rfl, rfl⟩ rfl (Nat.le_of_ble_eq_true rfl) (fun x y hx => e_X10_check (Nat.le_trans (Nat.le_of_ble_eq_true rfl) hf) hc2 hx) fun v11 W10 h => ?_
      refine V_pop dX10_readStation_45 rfl ?_
      refine V_aload_n (i := 0) dX10_readStation_46 rfl rfl ?_
      refine V_aload_n (i := 0) dX10_readStation_47 rfl rfl ?_
      refine V_getfield dX10_readStation_48 (mem_30 hc2) fl_X10_188 rfl ?_
      refine V_iconst (v := 4) dX10_readStation_51 (by decide) ?_
      refine D_jn (fun (j : Int32 → Option (Nat → Nat → Int32)) => ∀ (v13 : Int32), j v13 = some r → V G f (Ex G f) mX10_readStation (RH (.inl none) (MEM b c r M) hi) 60 [(0, .ref (b + 609)), (1, .int a1)] [.int v13, .ref (b + 609)] (MEM b c W10 M) hi k n) h (fun j12 hj12 h => ?_) ?_
      · refine D_icmp_gt (tgt := 59) h dX10_readStation_52 rfl (fun b14 h => ?_) (fun b14 h => ?_)
        · refine V_iconst (v := 0) dX10_readStation_59 (by decide) ?_
          exact V_sub (ks := [0, 1]) rfl (hj12 _ h)
        · refine V_iconst (v := 1) dX10_readStation_55 (by decide) ?_
          refine V_goto (tgt := 60) dX10_readStation_56 rfl ?_
          exact V_sub (ks := [0, 1]) rfl (hj12 _ h)
      · intro v13 h
        refine V_iconst (v := 2) dX10_readStation_60 (by decide) ?_
        refine D_cVIW (As := [_, _]) (μ := fun W15 => (MEM b c W15 M)) h dX10_readStation_61 cv_X10_201 rfl ⟨_, _, _, (mem_30 hc2), rfl, rfl⟩ rfl (Nat.le_of_ble_eq_true rfl) (fun x y hx => e_X10_check (Nat.le_trans (Nat.le_of_ble_eq_true rfl) hf) hc2 hx) fun v16 W15 h => ?_
        refine V_pop dX10_readStation_64 rfl ?_
        refine V_aload_n (i := 0) dX10_readStation_65 rfl rfl ?_
        refine V_aload_n (i := 0) dX10_readStation_66 rfl rfl ?_
        refine V_getfield dX10_readStation_67 (mem_30 hc2) fl_X10_176 rfl ?_
        refine D_jn (fun (j : Int32 → Option (Nat → Nat → Int32)) => ∀ (v18 : Int32), j v18 = some r → V G f (Ex G f) mX10_readStation (RH (.inl none) (MEM b c r M) hi) 86 [(0, .ref (b + 609)), (1, .int a1)] [.int v18, .ref (b + 609)] (MEM b c W15 M) hi k n) h (fun j17 hj17 h => ?_) ?_
        · refine D_if_ne (tgt := 81) h dX10_readStation_70 rfl (fun b19 h => ?_) (fun b19 h => ?_)
          · refine V_iconst (v := 1) dX10_readStation_81 (by decide) ?_
            refine V_goto (tgt := 86) dX10_readStation_82 rfl ?_
            exact V_sub (ks := [0, 1]) rfl (hj17 _ h)
          · refine V_aload_n (i := 0) dX10_readStation_73 rfl rfl ?_
            refine D_cVI (As := []) h dX10_readStation_74 cv_X10_210 rfl ⟨_, _, _, (mem_30 hc2), rfl, rfl⟩ rfl (Nat.le_of_ble_eq_true rfl) (fun x hx => e_X10_named (Nat.le_trans (Nat.le_of_ble_eq_true rfl) hf) hc2 hx) fun v20 h => ?_
            refine V_iconst (v := -1) dX10_readStation_77 (by decide) ?_
            refine D_icmp_ne (tgt := 85) h dX10_readStation_78 rfl (fun b21 h => ?_) (fun b21 h => ?_)
            · refine V_iconst (v := 0) dX10_readStation_85 (by decide) ?_
              exact V_sub (ks := [0, 1]) rfl (hj17 _ h)
            · refine V_iconst (v := 1) dX10_readStation_81 (by decide) ?_
              refine V_goto (tgt := 86) dX10_readStation_82 rfl ?_
              exact V_sub (ks := [0, 1]) rfl (hj17 _ h)
        · intro v18 h
          refine V_iconst (v := 3) dX10_readStation_86 (by decide) ?_
          refine D_cVIW (As := [_, _]) (μ := fun W22 => (MEM b c W22 M)) h dX10_readStation_87 cv_X10_201 rfl ⟨_, _, _, (mem_30 hc2), rfl, rfl⟩ rfl (Nat.le_of_ble_eq_true rfl) (fun x y hx => e_X10_check (Nat.le_trans (Nat.le_of_ble_eq_true rfl) hf) hc2 hx) fun v23 W22 h => ?_
          refine V_pop dX10_readStation_90 rfl ?_
          refine V_aload_n (i := 0) dX10_readStation_91 rfl rfl ?_
          refine V_getfield dX10_readStation_92 (mem_30 hc2) fl_X10_176 rfl ?_
          refine D_jn (fun (j : Int32 → Option (Nat → Nat → Int32)) => ∀ (v25 : Int32), j v25 = some r → V G f (Ex G f) mX10_readStation (RH (.inl none) (MEM b c r M) hi) 106 [(0, .ref (b + 609)), (1, .int a1)] [.int v25] (MEM b c W22 M) hi k n) h (fun j24 hj24 h => ?_) ?_
          · refine D_if_ne (tgt := 105) h dX10_readStation_95 rfl (fun b26 h => ?_) (fun b26 h => ?_)
            · refine V_iconst (v := 0) dX10_readStation_105 (by decide) ?_
              exact V_sub (ks := [0, 1]) rfl (hj24 _ h)
            · refine V_aload_n (i := 0) dX10_readStation_98 rfl rfl ?_
              refine D_cVI (As := []) h dX10_readStation_99 cv_X10_207 rfl ⟨_, _, _, (mem_30 hc2), rfl, rfl⟩ rfl (Nat.le_of_ble_eq_true rfl) (fun x hx => e_X10_nameHere (Nat.le_trans (Nat.le_of_ble_eq_true rfl) hf) hc2 hx) fun v27 h => ?_
              refine V_goto (tgt := 106) dX10_readStation_102 rfl ?_
              exact V_sub (ks := [0, 1]) rfl (hj24 _ h)
          · intro v25 h
            refine V_istore_n (i := 2) dX10_readStation_106 rfl (Nat.le_of_ble_eq_true rfl) ?_
            refine V_aload_n (i := 0) dX10_readStation_107 rfl rfl ?_
            refine D_cVU (As := []) (μ := fun W28 => (MEM b c W28 M)) h dX10_readStation_108 cv_X10_204 rfl ⟨_, _, _, (mem_30 hc2), rfl, rfl⟩ rfl (Nat.le_of_ble_eq_true rfl) (fun y hx => e_X10_next (Nat.le_trans (Nat.le_of_ble_eq_true rfl) hf) hc2 hx) fun W28 h => ?_
            refine V_aload_n (i := 0) dX10_readStation_111 rfl rfl ?_
            refine D_cVU (As := []) (μ := fun W29 => (MEM b c W29 M)) h dX10_readStation_112 cv_X10_216 rfl ⟨_, _, _, (mem_30 hc2), rfl, rfl⟩ rfl (Nat.le_of_ble_eq_true rfl) (fun y hx => e_X10_finish (Nat.le_trans (Nat.le_of_ble_eq_true rfl) hf) hc2 hx) fun W29 h => ?_
            refine V_aload_n (i := 0) dX10_readStation_115 rfl rfl ?_
            refine V_getfield dX10_readStation_116 (mem_30 hc2) fl_X10_176 rfl ?_
            refine D_if_ne (tgt := 160) h dX10_readStation_119 rfl (fun b30 h => ?_) (fun b30 h => ?_)
            · obtain rfl := Option.some.inj h
              exact V_return dX10_readStation_160 rfl ⟨rfl, rfl, rfl⟩
            · refine V_aload_n (i := 0) dX10_readStation_122 rfl rfl ?_
              refine V_getfield dX10_readStation_123 (mem_30 hc2) fl_X10_13 rfl ?_
              refine V_iconst (v := 1) dX10_readStation_126 (by decide) ?_
              refine D3_ild h (mem_22 hc2) dX10_readStation_127 fun h => ?_
              refine D_cSI (As := [_]) h dX10_readStation_128 cs_X10_134 rfl rfl (Nat.le_of_ble_eq_true rfl) (fun x hx => e_X10_ofStation (Nat.le_trans (Nat.le_of_ble_eq_true rfl) hf) hx) fun v31 h => ?_
              refine V_istore_n (i := 3) dX10_readStation_131 rfl (Nat.le_of_ble_eq_true rfl) ?_
              refine V_aload_n (i := 0) dX10_readStation_132 rfl rfl ?_
              refine V_getfield dX10_readStation_133 (mem_30 hc2) fl_X10_13 rfl ?_
              refine V_iload_n (i := 3) dX10_readStation_136 rfl rfl ?_
              refine V_iconst (v := 0) dX10_readStation_137 (by decide) ?_
              refine V_iadd dX10_readStation_138 ?_
              refine V_iload_n (i := 2) dX10_readStation_139 rfl rfl ?_
              refine D3_ist (u := 22) h (mem_22 hc2) (pst_22 hc2) dX10_readStation_140 fun W32 h => ?_
              refine V_aload_n (i := 0) dX10_readStation_141 rfl rfl ?_
              refine V_getfield dX10_readStation_142 (mem_30 hc2) fl_X10_13 rfl ?_
              refine V_iload_n (i := 3) dX10_readStation_145 rfl rfl ?_
              refine V_iconst (v := 1) dX10_readStation_146 (by decide) ?_
              refine V_iadd dX10_readStation_147 ?_
              refine V_iload_n (i := 1) dX10_readStation_148 rfl rfl ?_
              refine D3_ist (u := 22) h (mem_22 hc2) (pst_22 hc2) dX10_readStation_149 fun W33 h => ?_
              refine V_aload_n (i := 0) dX10_readStation_150 rfl rfl ?_
              refine V_getfield dX10_readStation_151 (mem_30 hc2) fl_X10_13 rfl ?_
              refine V_iconst (v := 1) dX10_readStation_154 (by decide) ?_
              refine V_dup2_11 dX10_readStation_155 rfl rfl ?_
              refine D3_ild h (mem_22 hc2) dX10_readStation_156 fun h => ?_
              refine V_iconst (v := 1) dX10_readStation_157 (by decide) ?_
              refine V_iadd dX10_readStation_158 ?_
              refine D3_ist (u := 22) h (mem_22 hc2) (pst_22 hc2) dX10_readStation_159 fun W34 h => ?_
              obtain rfl := Option.some.inj h
              exact V_return dX10_readStation_160 rfl ⟨rfl, rfl, rfl⟩
noncomputable def f_X10_look (W : Nat → Nat → Int32) : Option (Int32 × (Nat → Nat → Int32)) :=
  jn (fun (v2 : Int32) => bd2 (f_X10_check W v2 (1 : Int32)) (fun v5 W4 => jn (fun (v7 : Int32) => jn (fun (v11 : Int32) => bd2 (f_X10_check W4 v11 (4 : Int32)) (fun v15 W14 => if (W14 30 9) = 0 then some (v7, W14) else some ((0 : Int32), W14))) (fun j10 => if (W4 30 9) = 0 then if v7 = (-1 : Int32) then j10 (0 : Int32) else j10 (1 : Int32) else j10 (1 : Int32))) (fun j6 => if (W4 30 9) = 0 then bdc (f_X10_named W4) (fun v9 => j6 v9) else j6 (0 : Int32)))) (fun j1 => if (W 30 6) = (3 : Int32) then j1 (1 : Int32) else j1 (0 : Int32))
theorem e_X10_look {G : GT} {f0 : Nat} {b c : Nat} {M : MM} {hi k n : Nat} {W : Nat → Nat → Int32} {r : (Int32 × (Nat → Nat → Int32))} (hf0 : 3 ≤ f0) (hc2 : 619 ≤ c) (h : f_X10_look W = some r) : Ex G f0 mX10_look [.ref (b + 609)] (MEM b c W M) hi k n (RH (.inl (some (.int r.1))) (MEM b c r.2 M) hi) := by
  obtain ⟨f, rfl, hf⟩ := suc_of hf0
  unfold f_X10_look at h
  refine ⟨Nat.le_of_ble_eq_true rfl, ?_⟩
  refine V_aload_n (i := 0) dX10_look_0 rfl rfl ?_
  refine V_aload_n (i := 0) dX10_look_1 rfl rfl ?_
  refine V_getfield dX10_look_2 (mem_30 hc2) fl_X10_194 rfl ?_
  refine V_iconst (v := 3) dX10_look_5 (by decide) ?_
  refine D_jn (fun (j : Int32 → Option (Int32 × (Nat → Nat → Int32))) => ∀ (v2 : Int32), j v2 = some r → V G f (Ex G f) mX10_look (RH (.inl (some (.int r.1))) (MEM b c r.2 M) hi) 14 [(0, .ref (b + 609))] [.int v2, .ref (b + 609)] (MEM b c W M) hi k n) h (fun j1 hj1 h => ?_) ?_
  · refine D_icmp_ne (tgt := 13) h dX10_look_6 rfl (fun b3 h => ?_) (fun b3 h => ?_)
    · refine V_iconst (v := 0) dX10_look_13 (by decide) ?_
      exact V_sub (ks := [0]) rfl (hj1 _ h)
    · refine V_iconst (v := 1) dX10_look_9 (by decide) ?_
      refine V_goto (tgt := 14) dX10_look_10 rfl ?_
      exact V_sub (ks := [0]) rfl (hj1 _ h)
  · intro v2 h
    refine V_iconst (v := 1) dX10_look_14 (by decide) ?_
    refine D_cVIW (As := [_, _]) (μ := fun W4 => (MEM b c W4 M)) h dX10_look_15 cv_X10_201 rfl ⟨_, _, _, (mem_30 hc2), rfl, rfl⟩ rfl (Nat.le_of_ble_eq_true rfl) (fun x y hx => e_X10_check (Nat.le_trans (Nat.le_of_ble_eq_true rfl) hf) hc2 hx) fun v5 W4 h => ?_
    refine V_pop dX10_look_18 rfl ?_
    refine V_aload_n (i := 0) dX10_look_19 rfl rfl ?_
    refine V_getfield dX10_look_20 (mem_30 hc2) fl_X10_176 rfl ?_
    refine D_jn (fun (j : Int32 → Option (Int32 × (Nat → Nat → Int32))) => ∀ (v7 : Int32), j v7 = some r → V G f (Ex G f) mX10_look (RH (.inl (some (.int r.1))) (MEM b c r.2 M) hi) 34 [(0, .ref (b + 609))] [.int v7] (MEM b c W4 M) hi k n) h (fun j6 hj6 h => ?_) ?_
    · refine D_if_ne (tgt := 33) h dX10_look_23 rfl (fun b8 h => ?_) (fun b8 h => ?_)
      · refine V_iconst (v := 0) dX10_look_33 (by decide) ?_
        exact V_sub (ks := [0]) rfl (hj6 _ h)
      · refine V_aload_n (i := 0) dX10_look_26 rfl rfl ?_
        refine D_cVI (As := []) h dX10_look_27 cv_X10_210 rfl ⟨_, _, _, (mem_30 hc2), rfl, rfl⟩ rfl (Nat.le_of_ble_eq_true rfl) (fun x hx => e_X10_named (Nat.le_trans (Nat.le_of_ble_eq_true rfl) hf) hc2 hx) fun v9 h => ?_
        refine V_goto (tgt := 34) dX10_look_30 rfl ?_
        exact V_sub (ks := [0]) rfl (hj6 _ h)
    · intro v7 h
      refine V_istore_n (i := 1) dX10_look_34 rfl (Nat.le_of_ble_eq_true rfl) ?_
      refine V_aload_n (i := 0) dX10_look_35 rfl rfl ?_
      refine V_aload_n (i := 0) dX10_look_36 rfl rfl ?_
      refine V_getfield dX10_look_37 (mem_30 hc2) fl_X10_176 rfl ?_
      refine D_jn (fun (j : Int32 → Option (Int32 × (Nat → Nat → Int32))) => ∀ (v11 : Int32), j v11 = some r → V G f (Ex G f) mX10_look (RH (.inl (some (.int r.1))) (MEM b c r.2 M) hi) 53 [(0, .ref (b + 609)), (1, .int v7)] [.int v11, .ref (b + 609)] (MEM b c W4 M) hi k n) h (fun j10 hj10 h => ?_) ?_
      · refine D_if_ne (tgt := 48) h dX10_look_40 rfl (fun b12 h => ?_) (fun b12 h => ?_)
        · refine V_iconst (v := 1) dX10_look_48 (by decide) ?_
          refine V_goto (tgt := 53) dX10_look_49 rfl ?_
          exact V_sub (ks := [1, 0]) rfl (hj10 _ h)
        · refine V_iload_n (i := 1) dX10_look_43 rfl rfl ?_
          refine V_iconst (v := -1) dX10_look_44 (by decide) ?_
          refine D_icmp_eq (tgt := 52) h dX10_look_45 rfl (fun b13 h => ?_) (fun b13 h => ?_)
          · refine V_iconst (v := 0) dX10_look_52 (by decide) ?_
            exact V_sub (ks := [1, 0]) rfl (hj10 _ h)
          · refine V_iconst (v := 1) dX10_look_48 (by decide) ?_
            refine V_goto (tgt := 53) dX10_look_49 rfl ?_
            exact V_sub (ks := [1, 0]) rfl (hj10 _ h)
      · intro v11 h
        refine V_iconst (v := 4) dX10_look_53 (by decide) ?_
        refine D_cVIW (As := [_, _]) (μ := fun W14 => (MEM b c W14 M)) h dX10_look_54 cv_X10_201 rfl ⟨_, _, _, (mem_30 hc2), rfl, rfl⟩ rfl (Nat.le_of_ble_eq_true rfl) (fun x y hx => e_X10_check (Nat.le_trans (Nat.le_of_ble_eq_true rfl) hf) hc2 hx) fun v15 W14 h => ?_
        refine V_pop dX10_look_57 rfl ?_
        refine V_aload_n (i := 0) dX10_look_58 rfl rfl ?_
        refine V_getfield dX10_look_59 (mem_30 hc2) fl_X10_176 rfl ?_
        refine D_if_ne (tgt := 69) h dX10_look_62 rfl (fun b16 h => ?_) (fun b16 h => ?_)
        · refine V_iconst (v := 0) dX10_look_69 (by decide) ?_
          obtain rfl := Option.some.inj h
          exact V_ireturn dX10_look_70 ⟨_, rfl, rfl⟩ ⟨rfl, rfl, rfl⟩
        · refine V_iload_n (i := 1) dX10_look_65 rfl rfl ?_
          refine V_goto (tgt := 70) dX10_look_66 rfl ?_
          obtain rfl := Option.some.inj h
          exact V_ireturn dX10_look_70 ⟨_, rfl, rfl⟩ ⟨rfl, rfl, rfl⟩
noncomputable def f_X10_station (W : Nat → Nat → Int32) : Option (Int32 × (Nat → Nat → Int32)) :=
  bd2 (f_X10_look W) (fun v2 W1 => bdc (f_X10_next W1) (fun W3 => some (v2, W3)))
theorem e_X10_station {G : GT} {f0 : Nat} {b c : Nat} {M : MM} {hi k n : Nat} {W : Nat → Nat → Int32} {r : (Int32 × (Nat → Nat → Int32))} (hf0 : 4 ≤ f0) (hc2 : 619 ≤ c) (h : f_X10_station W = some r) : Ex G f0 mX10_station [.ref (b + 609)] (MEM b c W M) hi k n (RH (.inl (some (.int r.1))) (MEM b c r.2 M) hi) := by
  obtain ⟨f, rfl, hf⟩ := suc_of hf0
  unfold f_X10_station at h
  refine ⟨Nat.le_of_ble_eq_true rfl, ?_⟩
  refine V_aload_n (i := 0) dX10_station_0 rfl rfl ?_
  refine D_cVIW (As := []) (μ := fun W1 => (MEM b c W1 M)) h dX10_station_1 cv_X10_213 rfl ⟨_, _, _, (mem_30 hc2), rfl, rfl⟩ rfl (Nat.le_of_ble_eq_true rfl) (fun x y hx => e_X10_look (Nat.le_trans (Nat.le_of_ble_eq_true rfl) hf) hc2 hx) fun v2 W1 h => ?_
  refine V_istore_n (i := 1) dX10_station_4 rfl (Nat.le_of_ble_eq_true rfl) ?_
  refine V_aload_n (i := 0) dX10_station_5 rfl rfl ?_
  refine D_cVU (As := []) (μ := fun W3 => (MEM b c W3 M)) h dX10_station_6 cv_X10_204 rfl ⟨_, _, _, (mem_30 hc2), rfl, rfl⟩ rfl (Nat.le_of_ble_eq_true rfl) (fun y hx => e_X10_next (Nat.le_trans (Nat.le_of_ble_eq_true rfl) hf) hc2 hx) fun W3 h => ?_
  refine V_iload_n (i := 1) dX10_station_9 rfl rfl ?_
  obtain rfl := Option.some.inj h
  exact V_ireturn dX10_station_10 ⟨_, rfl, rfl⟩ ⟨rfl, rfl, rfl⟩
noncomputable def f_X10_number (W : Nat → Nat → Int32) (a1 : Int32) (a2 : Int32) : Option (Int32 × (Nat → Nat → Int32)) :=
  jn (fun (v2 : Int32) => bd2 (f_X10_check W v2 (1 : Int32)) (fun v5 W4 => bdc (f_X10_isBetween (W4 30 7) a1 a2) (fun v6 => bd2 (f_X10_check W4 v6 (2 : Int32)) (fun v8 W7 => if (W7 30 9) = 0 then bnd (W7 30 7) (fun v11 => bdc (f_X10_next W7) (fun W12 => some (v11, W12))) else bdc (f_X10_next W7) (fun W10 => some (a1, W10)))))) (fun j1 => if (W 30 6) = (2 : Int32) then j1 (1 : Int32) else j1 (0 : Int32))
theorem e_X10_number {G : GT} {f0 : Nat} {b c : Nat} {M : MM} {hi k n : Nat} {W : Nat → Nat → Int32} {a1 : Int32} {a2 : Int32} {r : (Int32 × (Nat → Nat → Int32))} (hf0 : 4 ≤ f0) (hc2 : 619 ≤ c) (h : f_X10_number W a1 a2 = some r) : Ex G f0 mX10_number [.ref (b + 609), .int a1, .int a2] (MEM b c W M) hi k n (RH (.inl (some (.int r.1))) (MEM b c r.2 M) hi) := by
  obtain ⟨f, rfl, hf⟩ := suc_of hf0
  unfold f_X10_number at h
  refine ⟨Nat.le_of_ble_eq_true rfl, ?_⟩
  refine V_aload_n (i := 0) dX10_number_0 rfl rfl ?_
  refine V_aload_n (i := 0) dX10_number_1 rfl rfl ?_
  refine V_getfield dX10_number_2 (mem_30 hc2) fl_X10_194 rfl ?_
  refine V_iconst (v := 2) dX10_number_5 (by decide) ?_
  refine D_jn (fun (j : Int32 → Option (Int32 × (Nat → Nat → Int32))) => ∀ (v2 : Int32), j v2 = some r → V G f (Ex G f) mX10_number (RH (.inl (some (.int r.1))) (MEM b c r.2 M) hi) 14 [(0, .ref (b + 609)), (1, .int a1), (2, .int a2)] [.int v2, .ref (b + 609)] (MEM b c W M) hi k n) h (fun j1 hj1 h => ?_) ?_
  · refine D_icmp_ne (tgt := 13) h dX10_number_6 rfl (fun b3 h => ?_) (fun b3 h => ?_)
    · refine V_iconst (v := 0) dX10_number_13 (by decide) ?_
      exact V_sub (ks := [0, 1, 2]) rfl (hj1 _ h)
    · refine V_iconst (v := 1) dX10_number_9 (by decide) ?_
      refine V_goto (tgt := 14) dX10_number_10 rfl ?_
      exact V_sub (ks := [0, 1, 2]) rfl (hj1 _ h)
  · intro v2 h
    refine V_iconst (v := 1) dX10_number_14 (by decide) ?_
    refine D_cVIW (As := [_, _]) (μ := fun W4 => (MEM b c W4 M)) h dX10_number_15 cv_X10_201 rfl ⟨_, _, _, (mem_30 hc2), rfl, rfl⟩ rfl (Nat.le_of_ble_eq_true rfl) (fun x y hx => e_X10_check (Nat.le_trans (Nat.le_of_ble_eq_true rfl) hf) hc2 hx) fun v5 W4 h => ?_
    refine V_pop dX10_number_18 rfl ?_
    refine V_aload_n (i := 0) dX10_number_19 rfl rfl ?_
    refine V_aload_n (i := 0) dX10_number_20 rfl rfl ?_
    refine V_getfield dX10_number_21 (mem_30 hc2) fl_X10_191 rfl ?_
    refine V_iload_n (i := 1) dX10_number_24 rfl rfl ?_
    refine V_iload_n (i := 2) dX10_number_25 rfl rfl ?_
    refine D_cSI (As := [_, _, _]) h dX10_number_26 cs_X10_99 rfl rfl (Nat.le_of_ble_eq_true rfl) (fun x hx => e_X10_isBetween (Nat.le_trans (Nat.le_of_ble_eq_true rfl) hf) hx) fun v6 h => ?_
    refine V_iconst (v := 2) dX10_number_29 (by decide) ?_
    refine D_cVIW (As := [_, _]) (μ := fun W7 => (MEM b c W7 M)) h dX10_number_30 cv_X10_201 rfl ⟨_, _, _, (mem_30 hc2), rfl, rfl⟩ rfl (Nat.le_of_ble_eq_true rfl) (fun x y hx => e_X10_check (Nat.le_trans (Nat.le_of_ble_eq_true rfl) hf) hc2 hx) fun v8 W7 h => ?_
    refine V_pop dX10_number_33 rfl ?_
    refine V_aload_n (i := 0) dX10_number_34 rfl rfl ?_
    refine V_getfield dX10_number_35 (mem_30 hc2) fl_X10_176 rfl ?_
    refine D_if_ne (tgt := 48) h dX10_number_38 rfl (fun b9 h => ?_) (fun b9 h => ?_)
    · refine V_iload_n (i := 1) dX10_number_48 rfl rfl ?_
      refine V_istore_n (i := 3) dX10_number_49 rfl (Nat.le_of_ble_eq_true rfl) ?_
      refine V_aload_n (i := 0) dX10_number_50 rfl rfl ?_
      refine D_cVU (As := []) (μ := fun W10 => (MEM b c W10 M)) h dX10_number_51 cv_X10_204 rfl ⟨_, _, _, (mem_30 hc2), rfl, rfl⟩ rfl (Nat.le_of_ble_eq_true rfl) (fun y hx => e_X10_next (Nat.le_trans (Nat.le_of_ble_eq_true rfl) hf) hc2 hx) fun W10 h => ?_
      refine V_iload_n (i := 3) dX10_number_54 rfl rfl ?_
      obtain rfl := Option.some.inj h
      exact V_ireturn dX10_number_55 ⟨_, rfl, rfl⟩ ⟨rfl, rfl, rfl⟩
    · refine V_aload_n (i := 0) dX10_number_41 rfl rfl ?_
      refine V_getfield dX10_number_42 (mem_30 hc2) fl_X10_191 rfl ?_
      refine V_goto (tgt := 49) dX10_number_45 rfl ?_
      refine D_istore_n (i := 3) h dX10_number_49 rfl (Nat.le_of_ble_eq_true rfl) fun v11 h => ?_
      refine V_aload_n (i := 0) dX10_number_50 rfl rfl ?_
      refine D_cVU (As := []) (μ := fun W12 => (MEM b c W12 M)) h dX10_number_51 cv_X10_204 rfl ⟨_, _, _, (mem_30 hc2), rfl, rfl⟩ rfl (Nat.le_of_ble_eq_true rfl) (fun y hx => e_X10_next (Nat.le_trans (Nat.le_of_ble_eq_true rfl) hf) hc2 hx) fun W12 h => ?_
      refine V_iload_n (i := 3) dX10_number_54 rfl rfl ?_
      obtain rfl := Option.some.inj h
      exact V_ireturn dX10_number_55 ⟨_, rfl, rfl⟩ ⟨rfl, rfl, rfl⟩
noncomputable def f_X10_readTrack (W : Nat → Nat → Int32) : Option (Nat → Nat → Int32) :=
  gd (inr (2 : Int32) 251) (jn (fun (v2 : Int32) => bd2 (f_X10_check W v2 (6 : Int32)) (fun v5 W4 => bdc (f_X10_next W4) (fun W6 => bd2 (f_X10_station W6) (fun v8 W7 => bd2 (f_X10_look W7) (fun v10 W9 => jn (fun (v12 : Int32) => bd2 (f_X10_check W9 v12 (5 : Int32)) (fun v18 W17 => bdc (f_X10_next W17) (fun W19 => bd2 (f_X10_number W19 (1 : Int32) (9 : Int32)) (fun v21 W20 => bdc (f_X10_finish W20) (fun W22 => if (W22 30 9) = 0 then gd (inr (2 : Int32) 251) (bdc (f_X10_ofTrack (W22 22 (ix (2 : Int32)))) (fun v24 => gd (inr (v24 + (0 : Int32)) 251) (bnd (w2 W22 22 (ix (v24 + (0 : Int32))) v8) (fun W25 => gd (inr (v24 + (1 : Int32)) 251) (bnd (w2 W25 22 (ix (v24 + (1 : Int32))) v10) (fun W26 => gd (inr (v24 + (2 : Int32)) 251) (bnd (w2 W26 22 (ix (v24 + (2 : Int32))) v21) (fun W27 => gd (inr (v24 + (3 : Int32)) 251) (bnd (w2 W27 22 (ix (v24 + (3 : Int32))) (1 : Int32)) (fun W28 => gd (inr (2 : Int32) 251) (gd (inr (2 : Int32) 251) (bnd (w2 W28 22 (ix (2 : Int32)) ((W28 22 (ix (2 : Int32))) + (1 : Int32))) (fun W29 => some W29))))))))))))) else some W22))))) (fun j11 => if (W9 30 9) = 0 then if v8 = v10 then j11 (0 : Int32) else bdc (f_X10_between (pk (W9 22) (W9 27)) v8 v10) (fun v15 => if v15 = (-1 : Int32) then j11 (1 : Int32) else j11 (0 : Int32)) else j11 (1 : Int32))))))) (fun j1 => if (12 : Int32) ≤ (W 22 (ix (2 : Int32))) then j1 (0 : Int32) else j1 (1 : Int32)))
theorem e_X10_readTrack {G : GT} {f0 : Nat} {b c : Nat} {M : MM} {hi k n : Nat} {W : Nat → Nat → Int32} {r : (Nat → Nat → Int32)} (hf0 : 5 ≤ f0) (hc2 : 619 ≤ c) (h : f_X10_readTrack W = some r) : Ex G f0 mX10_readTrack [.ref (b + 609)] (MEM b c W M) hi k n (RH (.inl none) (MEM b c r M) hi) := by
  obtain ⟨f, rfl, hf⟩ := suc_of hf0
  unfold f_X10_readTrack at h
  refine ⟨Nat.le_of_ble_eq_true rfl, ?_⟩
  refine V_aload_n (i := 0) dX10_readTrack_0 rfl rfl ?_
  refine V_aload_n (i := 0) dX10_readTrack_1 rfl rfl ?_
  refine V_getfield dX10_readTrack_2 (mem_30 hc2) fl_X10_13 rfl ?_
  refine V_iconst (v := 2) dX10_readTrack_5 (by decide) ?_
  refine D3_ild h (mem_22 hc2) dX10_readTrack_6 fun h => ?_
  refine V_bipush (v := 12) dX10_readTrack_7 (by decide) ?_
  refine D_jn (fun (j : Int32 → Option (Nat → Nat → Int32)) => ∀ (v2 : Int32), j v2 = some r → V G f (Ex G f) mX10_readTrack (RH (.inl none) (MEM b c r M) hi) 17 [(0, .ref (b + 609))] [.int v2, .ref (b + 609)] (MEM b c W M) hi k n) h (fun j1 hj1 h => ?_) ?_
  · refine D_icmp_ge (tgt := 16) h dX10_readTrack_9 rfl (fun b3 h => ?_) (fun b3 h => ?_)
    · refine V_iconst (v := 0) dX10_readTrack_16 (by decide) ?_
      exact V_sub (ks := [0]) rfl (hj1 _ h)
    · refine V_iconst (v := 1) dX10_readTrack_12 (by decide) ?_
      refine V_goto (tgt := 17) dX10_readTrack_13 rfl ?_
      exact V_sub (ks := [0]) rfl (hj1 _ h)
  · intro v2 h
    refine V_bipush (v := 6) dX10_readTrack_17 (by decide) ?_
    refine D_cVIW (As := [_, _]) (μ := fun W4 => (MEM b c W4 M)) h dX10_readTrack_19 cv_X10_201 rfl ⟨_, _, _, (mem_30 hc2), rfl, rfl⟩ rfl (Nat.le_of_ble_eq_true rfl) (fun x y hx => e_X10_check (Nat.le_trans (Nat.le_of_ble_eq_true rfl) hf) hc2 hx) fun v5 W4 h => ?_
    refine V_pop dX10_readTrack_22 rfl ?_
    refine V_aload_n (i := 0) dX10_readTrack_23 rfl rfl ?_
    refine D_cVU (As := []) (μ := fun W6 => (MEM b c W6 M)) h dX10_readTrack_24 cv_X10_204 rfl ⟨_, _, _, (mem_30 hc2), rfl, rfl⟩ rfl (Nat.le_of_ble_eq_true rfl) (fun y hx => e_X10_next (Nat.le_trans (Nat.le_of_ble_eq_true rfl) hf) hc2 hx) fun W6 h => ?_
    refine V_aload_n (i := 0) dX10_readTrack_27 rfl rfl ?_
    refine D_cVIW (As := []) (μ := fun W7 => (MEM b c W7 M)) h dX10_readTrack_28 cv_X10_219 rfl ⟨_, _, _, (mem_30 hc2), rfl, rfl⟩ rfl (Nat.le_of_ble_eq_true rfl) (fun x y hx => e_X10_station (Nat.le_trans (Nat.le_of_ble_eq_true rfl) hf) hc2 hx) fun v8 W7 h => ?_
    refine V_istore_n (i := 1) dX10_readTrack_31 rfl (Nat.le_of_ble_eq_true rfl) ?_
    refine V_aload_n (i := 0) dX10_readTrack_32 rfl rfl ?_
    refine D_cVIW (As := []) (μ := fun W9 => (MEM b c W9 M)) h dX10_readTrack_33 cv_X10_213 rfl ⟨_, _, _, (mem_30 hc2), rfl, rfl⟩ rfl (Nat.le_of_ble_eq_true rfl) (fun x y hx => e_X10_look (Nat.le_trans (Nat.le_of_ble_eq_true rfl) hf) hc2 hx) fun v10 W9 h => ?_
    refine V_istore_n (i := 2) dX10_readTrack_36 rfl (Nat.le_of_ble_eq_true rfl) ?_
    refine V_aload_n (i := 0) dX10_readTrack_37 rfl rfl ?_
    refine V_aload_n (i := 0) dX10_readTrack_38 rfl rfl ?_
    refine V_getfield dX10_readTrack_39 (mem_30 hc2) fl_X10_176 rfl ?_
    refine D_jn (fun (j : Int32 → Option (Nat → Nat → Int32)) => ∀ (v12 : Int32), j v12 = some r → V G f (Ex G f) mX10_readTrack (RH (.inl none) (MEM b c r M) hi) 68 [(0, .ref (b + 609)), (1, .int v8), (2, .int v10)] [.int v12, .ref (b + 609)] (MEM b c W9 M) hi k n) h (fun j11 hj11 h => ?_) ?_
    · refine D_if_ne (tgt := 63) h dX10_readTrack_42 rfl (fun b13 h => ?_) (fun b13 h => ?_)
      · refine V_iconst (v := 1) dX10_readTrack_63 (by decide) ?_
        refine V_goto (tgt := 68) dX10_readTrack_64 rfl ?_
        exact V_sub (ks := [2, 1, 0]) rfl (hj11 _ h)
      · refine V_iload_n (i := 1) dX10_readTrack_45 rfl rfl ?_
        refine V_iload_n (i := 2) dX10_readTrack_46 rfl rfl ?_
        refine D_icmp_eq (tgt := 67) h dX10_readTrack_47 rfl (fun b14 h => ?_) (fun b14 h => ?_)
        · refine V_iconst (v := 0) dX10_readTrack_67 (by decide) ?_
          exact V_sub (ks := [2, 1, 0]) rfl (hj11 _ h)
        · refine V_aload_n (i := 0) dX10_readTrack_50 rfl rfl ?_
          refine V_getfield dX10_readTrack_51 (mem_30 hc2) fl_X10_13 rfl ?_
          refine V_iload_n (i := 1) dX10_readTrack_54 rfl rfl ?_
          refine V_iload_n (i := 2) dX10_readTrack_55 rfl rfl ?_
          refine D_cSI (As := [_, _, _]) h dX10_readTrack_56 cs_X10_128 rfl rfl (Nat.le_of_ble_eq_true rfl) (fun x hx => liftq0 (u := 22) hc2 ⟨by decide, by decide⟩ rfl (e_X10_between (Nat.le_trans (Nat.le_of_ble_eq_true rfl) hf) hx)) fun v15 h => ?_
          refine V_iconst (v := -1) dX10_readTrack_59 (by decide) ?_
          refine D_icmp_ne (tgt := 67) h dX10_readTrack_60 rfl (fun b16 h => ?_) (fun b16 h => ?_)
          · refine V_iconst (v := 0) dX10_readTrack_67 (by decide) ?_
            exact V_sub (ks := [2, 1, 0]) rfl (hj11 _ h)
          · refine V_iconst (v := 1) dX10_readTrack_63 (by decide) ?_
            refine V_goto (tgt := 68) dX10_readTrack_64 rfl ?_
            exact V_sub (ks := [2, 1, 0]) rfl (hj11 _ h)
    · intro v12 h
      refine V_iconst (v := 5) dX10_readTrack_68 (by decide) ?_
      refine D_cVIW (As := [_, _]) (μ := fun W17 => (MEM b c W17 M)) h dX10_readTrack_69 cv_X10_201 rfl ⟨_, _, _, (mem_30 hc2), rfl, rfl⟩ rfl (Nat.le_of_ble_eq_true rfl) (fun x y hx => e_X10_check (Nat.le_trans (Nat.le_of_ble_eq_true rfl) hf) hc2 hx) fun v18 W17 h => ?_
      refine V_pop dX10_readTrack_72 rfl ?_
      refine V_aload_n (i := 0) dX10_readTrack_73 rfl rfl ?_
      refine D_cVU (As := []) (μ := fun W19 => (MEM b c W19 M)) h dX10_readTrack_74 cv_X10_204 rfl ⟨_, _, _, (mem_30 hc2), rfl, rfl⟩ rfl (Nat.le_of_ble_eq_true rfl) (fun y hx => e_X10_next (Nat.le_trans (Nat.le_of_ble_eq_true rfl) hf) hc2 hx) fun W19 h => ?_
      refine V_aload_n (i := 0) dX10_readTrack_77 rfl rfl ?_
      refine V_iconst (v := 1) dX10_readTrack_78 (by decide) ?_
      refine V_bipush (v := 9) dX10_readTrack_79 (by decide) ?_
      refine D_cVIW (As := [_, _]) (μ := fun W20 => (MEM b c W20 M)) h dX10_readTrack_81 cv_X10_222 rfl ⟨_, _, _, (mem_30 hc2), rfl, rfl⟩ rfl (Nat.le_of_ble_eq_true rfl) (fun x y hx => e_X10_number (Nat.le_trans (Nat.le_of_ble_eq_true rfl) hf) hc2 hx) fun v21 W20 h => ?_
      refine V_istore_n (i := 3) dX10_readTrack_84 rfl (Nat.le_of_ble_eq_true rfl) ?_
      refine V_aload_n (i := 0) dX10_readTrack_85 rfl rfl ?_
      refine D_cVU (As := []) (μ := fun W22 => (MEM b c W22 M)) h dX10_readTrack_86 cv_X10_216 rfl ⟨_, _, _, (mem_30 hc2), rfl, rfl⟩ rfl (Nat.le_of_ble_eq_true rfl) (fun y hx => e_X10_finish (Nat.le_trans (Nat.le_of_ble_eq_true rfl) hf) hc2 hx) fun W22 h => ?_
      refine V_aload_n (i := 0) dX10_readTrack_89 rfl rfl ?_
      refine V_getfield dX10_readTrack_90 (mem_30 hc2) fl_X10_176 rfl ?_
      refine D_if_ne (tgt := 157) h dX10_readTrack_93 rfl (fun b23 h => ?_) (fun b23 h => ?_)
      · obtain rfl := Option.some.inj h
        exact V_return dX10_readTrack_157 rfl ⟨rfl, rfl, rfl⟩
      · refine V_aload_n (i := 0) dX10_readTrack_96 rfl rfl ?_
        refine V_getfield dX10_readTrack_97 (mem_30 hc2) fl_X10_13 rfl ?_
        refine V_iconst (v := 2) dX10_readTrack_100 (by decide) ?_
        refine D3_ild h (mem_22 hc2) dX10_readTrack_101 fun h => ?_
        refine D_cSI (As := [_]) h dX10_readTrack_102 cs_X10_72 rfl rfl (Nat.le_of_ble_eq_true rfl) (fun x hx => e_X10_ofTrack (Nat.le_trans (Nat.le_of_ble_eq_true rfl) hf) hx) fun v24 h => ?_
        refine V_istore (i := 4) dX10_readTrack_105 (Nat.le_of_ble_eq_true rfl) ?_
        refine V_aload_n (i := 0) dX10_readTrack_107 rfl rfl ?_
        refine V_getfield dX10_readTrack_108 (mem_30 hc2) fl_X10_13 rfl ?_
        refine V_iload (i := 4) dX10_readTrack_111 rfl ?_
        refine V_iconst (v := 0) dX10_readTrack_113 (by decide) ?_
        refine V_iadd dX10_readTrack_114 ?_
        refine V_iload_n (i := 1) dX10_readTrack_115 rfl rfl ?_
        refine D3_ist (u := 22) h (mem_22 hc2) (pst_22 hc2) dX10_readTrack_116 fun W25 h => ?_
        refine V_aload_n (i := 0) dX10_readTrack_117 rfl rfl ?_
        refine V_getfield dX10_readTrack_118 (mem_30 hc2) fl_X10_13 rfl ?_
        refine V_iload (i := 4) dX10_readTrack_121 rfl ?_
        refine V_iconst (v := 1) dX10_readTrack_123 (by decide) ?_
        refine V_iadd dX10_readTrack_124 ?_
        refine V_iload_n (i := 2) dX10_readTrack_125 rfl rfl ?_
        refine D3_ist (u := 22) h (mem_22 hc2) (pst_22 hc2) dX10_readTrack_126 fun W26 h => ?_
        refine V_aload_n (i := 0) dX10_readTrack_127 rfl rfl ?_
        refine V_getfield dX10_readTrack_128 (mem_30 hc2) fl_X10_13 rfl ?_
        refine V_iload (i := 4) dX10_readTrack_131 rfl ?_
        refine V_iconst (v := 2) dX10_readTrack_133 (by decide) ?_
        refine V_iadd dX10_readTrack_134 ?_
        refine V_iload_n (i := 3) dX10_readTrack_135 rfl rfl ?_
        refine D3_ist (u := 22) h (mem_22 hc2) (pst_22 hc2) dX10_readTrack_136 fun W27 h => ?_
        refine V_aload_n (i := 0) dX10_readTrack_137 rfl rfl ?_
        refine V_getfield dX10_readTrack_138 (mem_30 hc2) fl_X10_13 rfl ?_
        refine V_iload (i := 4) dX10_readTrack_141 rfl ?_
        refine V_iconst (v := 3) dX10_readTrack_143 (by decide) ?_
        refine V_iadd dX10_readTrack_144 ?_
        refine V_iconst (v := 1) dX10_readTrack_145 (by decide) ?_
        refine D3_ist (u := 22) h (mem_22 hc2) (pst_22 hc2) dX10_readTrack_146 fun W28 h => ?_
        refine V_aload_n (i := 0) dX10_readTrack_147 rfl rfl ?_
        refine V_getfield dX10_readTrack_148 (mem_30 hc2) fl_X10_13 rfl ?_
        refine V_iconst (v := 2) dX10_readTrack_151 (by decide) ?_
        refine V_dup2_11 dX10_readTrack_152 rfl rfl ?_
        refine D3_ild h (mem_22 hc2) dX10_readTrack_153 fun h => ?_
        refine V_iconst (v := 1) dX10_readTrack_154 (by decide) ?_
        refine V_iadd dX10_readTrack_155 ?_
        refine D3_ist (u := 22) h (mem_22 hc2) (pst_22 hc2) dX10_readTrack_156 fun W29 h => ?_
        obtain rfl := Option.some.inj h
        exact V_return dX10_readTrack_157 rfl ⟨rfl, rfl, rfl⟩
noncomputable def l_X10_readTrain_59 (c1 : Int32) (c2 : Int32) (K186 : (Nat → Nat → Int32) → Int32 → Option (Nat → Nat → Int32)) : Nat → (Nat → Nat → Int32) → Int32 → Option (Nat → Nat → Int32)
  | 0, _, _ => none
  | N + 1, W, x3 => if (W 30 9) = 0 then jn (bd2 (f_X10_look W) (fun v18 W17 => jn (fun (v20 : Int32) => bd2 (f_X10_check W17 v20 (5 : Int32)) (fun v26 W25 => jn (fun (v28 : Int32) => bd2 (f_X10_check W25 v28 (6 : Int32)) (fun v32 W31 => if (W31 30 9) = 0 then gd (inr ((c1 + (2 : Int32)) + x3) 251) (bnd (w2 W31 22 (ix ((c1 + (2 : Int32)) + x3)) v18) (fun W35 => bdc (f_X10_next W35) (fun W36 => l_X10_readTrain_59 c1 c2 K186 N W36 (x3 + (1 : Int32))))) else bdc (f_X10_next W31) (fun W34 => l_X10_readTrain_59 c1 c2 K186 N W34 x3))) (fun j27 => if (W25 30 9) = 0 then if (6 : Int32) ≤ x3 then j27 (0 : Int32) else j27 (1 : Int32) else j27 (1 : Int32)))) (fun j19 => if (W17 30 9) = 0 then if x3 = 0 then j19 (1 : Int32) else gd (inr (((c1 + (2 : Int32)) + x3) - (1 : Int32)) 251) (bdc (f_X10_between (pk (W17 22) (W17 27)) (W17 22 (ix (((c1 + (2 : Int32)) + x3) - (1 : Int32)))) v18) (fun v23 => if v23 = (-1 : Int32) then j19 (0 : Int32) else j19 (1 : Int32))) else j19 (1 : Int32)))) (fun j14 => if x3 < (2 : Int32) then j14 else if (W 30 6) = (3 : Int32) then j14 else K186 W x3) else K186 W x3
theorem lv_X10_readTrain_59 {G : GT} {f : Nat} {b c : Nat} {M : MM} {hi k n : Nat} {c1 : Int32} {c2 : Int32} {K186 : (Nat → Nat → Int32) → Int32 → Option (Nat → Nat → Int32)} {r : (Nat → Nat → Int32)} (hf : 4 ≤ f) (hc2 : 619 ≤ c) (hK186 : ∀ (Wk : Nat → Nat → Int32) (y3 : Int32), K186 Wk y3 = some r → V G f (Ex G f) mX10_readTrain (RH (.inl none) (MEM b c r M) hi) 186 [(0, .ref (b + 609)), (1, .int c1), (2, .int c2), (3, .int y3)] [] (MEM b c Wk M) hi k n) : ∀ (N : Nat) (W : Nat → Nat → Int32) (x3 : Int32) , l_X10_readTrain_59 c1 c2 K186 N W x3 = some r → V G f (Ex G f) mX10_readTrain (RH (.inl none) (MEM b c r M) hi) 59 [(0, .ref (b + 609)), (1, .int c1), (2, .int c2), (3, .int x3)] [] (MEM b c W M) hi k n := by
  intro N
  induction N with
  | zero => intro W x3 h; cases h
  | succ N ih =>
    intro W x3 h
    rw [l_X10_readTrain_59] at h
    refine V_aload_n (i := 0) dX10_readTrain_59 rfl rfl ?_
    refine V_getfield dX10_readTrain_60 (mem_30 hc2) fl_X10_176 rfl ?_
    refine D_if_ne (tgt := 186) h dX10_readTrain_63 rfl (fun b13 h => ?_) (fun b13 h => ?_)
    · exact V_sub (ks := [0, 1, 2, 3]) rfl (hK186 _ _ h)
    · refine V_iload_n (i := 3) dX10_readTrain_66 rfl rfl ?_
      refine V_iconst (v := 2) dX10_readTrain_67 (by decide) ?_
      refine D_jn (fun (j : Option (Nat → Nat → Int32)) =>  j = some r → V G f (Ex G f) mX10_readTrain (RH (.inl none) (MEM b c r M) hi) 79 [(0, .ref (b + 609)), (1, .int c1), (2, .int c2), (3, .int x3)] [] (MEM b c W M) hi k n) h (fun j14 hj14 h => ?_) ?_
      · refine D_icmp_lt (tgt := 79) h dX10_readTrain_68 rfl (fun b15 h => ?_) (fun b15 h => ?_)
        · exact V_sub (ks := [0, 1, 2, 3]) rfl (hj14 h)
        · refine V_aload_n (i := 0) dX10_readTrain_71 rfl rfl ?_
          refine V_getfield dX10_readTrain_72 (mem_30 hc2) fl_X10_194 rfl ?_
          refine V_iconst (v := 3) dX10_readTrain_75 (by decide) ?_
          refine D_icmp_ne (tgt := 186) h dX10_readTrain_76 rfl (fun b16 h => ?_) (fun b16 h => ?_)
          · exact V_sub (ks := [0, 1, 2, 3]) rfl (hK186 _ _ h)
          · exact V_sub (ks := [0, 1, 2, 3]) rfl (hj14 h)
      · intro  h
        refine V_aload_n (i := 0) dX10_readTrain_79 rfl rfl ?_
        refine D_cVIW (As := []) (μ := fun W17 => (MEM b c W17 M)) h dX10_readTrain_80 cv_X10_213 rfl ⟨_, _, _, (mem_30 hc2), rfl, rfl⟩ rfl (Nat.le_of_ble_eq_true rfl) (fun x y hx => e_X10_look (Nat.le_trans (Nat.le_of_ble_eq_true rfl) hf) hc2 hx) fun v18 W17 h => ?_
        refine V_istore (i := 4) dX10_readTrain_83 (Nat.le_of_ble_eq_true rfl) ?_
        refine V_aload_n (i := 0) dX10_readTrain_85 rfl rfl ?_
        refine V_aload_n (i := 0) dX10_readTrain_86 rfl rfl ?_
        refine V_getfield dX10_readTrain_87 (mem_30 hc2) fl_X10_176 rfl ?_
        refine D_jn (fun (j : Int32 → Option (Nat → Nat → Int32)) => ∀ (v20 : Int32), j v20 = some r → V G f (Ex G f) mX10_readTrain (RH (.inl none) (MEM b c r M) hi) 127 [(0, .ref (b + 609)), (1, .int c1), (2, .int c2), (3, .int x3), (4, .int v18)] [.int v20, .ref (b + 609)] (MEM b c W17 M) hi k n) h (fun j19 hj19 h => ?_) ?_
        · refine D_if_ne (tgt := 122) h dX10_readTrain_90 rfl (fun b21 h => ?_) (fun b21 h => ?_)
          · refine V_iconst (v := 1) dX10_readTrain_122 (by decide) ?_
            refine V_goto (tgt := 127) dX10_readTrain_123 rfl ?_
            exact V_sub (ks := [1, 2, 3, 4, 0]) rfl (hj19 _ h)
          · refine V_iload_n (i := 3) dX10_readTrain_93 rfl rfl ?_
            refine D_if_eq (tgt := 122) h dX10_readTrain_94 rfl (fun b22 h => ?_) (fun b22 h => ?_)
            · refine V_iconst (v := 1) dX10_readTrain_122 (by decide) ?_
              refine V_goto (tgt := 127) dX10_readTrain_123 rfl ?_
              exact V_sub (ks := [1, 2, 3, 4, 0]) rfl (hj19 _ h)
            · refine V_aload_n (i := 0) dX10_readTrain_97 rfl rfl ?_
              refine V_getfield dX10_readTrain_98 (mem_30 hc2) fl_X10_13 rfl ?_
              refine V_aload_n (i := 0) dX10_readTrain_101 rfl rfl ?_
              refine V_getfield dX10_readTrain_102 (mem_30 hc2) fl_X10_13 rfl ?_
              refine V_iload_n (i := 1) dX10_readTrain_105 rfl rfl ?_
              refine V_iconst (v := 2) dX10_readTrain_106 (by decide) ?_
              refine V_iadd dX10_readTrain_107 ?_
              refine V_iload_n (i := 3) dX10_readTrain_108 rfl rfl ?_
              refine V_iadd dX10_readTrain_109 ?_
              refine V_iconst (v := 1) dX10_readTrain_110 (by decide) ?_
              refine V_isub dX10_readTrain_111 ?_
              refine D3_ild h (mem_22 hc2) dX10_readTrain_112 fun h => ?_
              refine V_iload (i := 4) dX10_readTrain_113 rfl ?_
              refine D_cSI (As := [_, _, _]) h dX10_readTrain_115 cs_X10_128 rfl rfl (Nat.le_of_ble_eq_true rfl) (fun x hx => liftq0 (u := 22) hc2 ⟨by decide, by decide⟩ rfl (e_X10_between (Nat.le_trans (Nat.le_of_ble_eq_true rfl) hf) hx)) fun v23 h => ?_
              refine V_iconst (v := -1) dX10_readTrain_118 (by decide) ?_
              refine D_icmp_eq (tgt := 126) h dX10_readTrain_119 rfl (fun b24 h => ?_) (fun b24 h => ?_)
              · refine V_iconst (v := 0) dX10_readTrain_126 (by decide) ?_
                exact V_sub (ks := [1, 2, 3, 4, 0]) rfl (hj19 _ h)
              · refine V_iconst (v := 1) dX10_readTrain_122 (by decide) ?_
                refine V_goto (tgt := 127) dX10_readTrain_123 rfl ?_
                exact V_sub (ks := [1, 2, 3, 4, 0]) rfl (hj19 _ h)
        · intro v20 h
          refine V_iconst (v := 5) dX10_readTrain_127 (by decide) ?_
          refine D_cVIW (As := [_, _]) (μ := fun W25 => (MEM b c W25 M)) h dX10_readTrain_128 cv_X10_201 rfl ⟨_, _, _, (mem_30 hc2), rfl, rfl⟩ rfl (Nat.le_of_ble_eq_true rfl) (fun x y hx => e_X10_check (Nat.le_trans (Nat.le_of_ble_eq_true rfl) hf) hc2 hx) fun v26 W25 h => ?_
          refine V_pop dX10_readTrain_131 rfl ?_
          refine V_aload_n (i := 0) dX10_readTrain_132 rfl rfl ?_
          refine V_aload_n (i := 0) dX10_readTrain_133 rfl rfl ?_
          refine V_getfield dX10_readTrain_134 (mem_30 hc2) fl_X10_176 rfl ?_
          refine D_jn (fun (j : Int32 → Option (Nat → Nat → Int32)) => ∀ (v28 : Int32), j v28 = some r → V G f (Ex G f) mX10_readTrain (RH (.inl none) (MEM b c r M) hi) 151 [(0, .ref (b + 609)), (1, .int c1), (2, .int c2), (3, .int x3), (4, .int v18)] [.int v28, .ref (b + 609)] (MEM b c W25 M) hi k n) h (fun j27 hj27 h => ?_) ?_
          · refine D_if_ne (tgt := 146) h dX10_readTrain_137 rfl (fun b29 h => ?_) (fun b29 h => ?_)
            · refine V_iconst (v := 1) dX10_readTrain_146 (by decide) ?_
              refine V_goto (tgt := 151) dX10_readTrain_147 rfl ?_
              exact V_sub (ks := [0, 1, 2, 3, 4]) rfl (hj27 _ h)
            · refine V_iload_n (i := 3) dX10_readTrain_140 rfl rfl ?_
              refine V_bipush (v := 6) dX10_readTrain_141 (by decide) ?_
              refine D_icmp_ge (tgt := 150) h dX10_readTrain_143 rfl (fun b30 h => ?_) (fun b30 h => ?_)
              · refine V_iconst (v := 0) dX10_readTrain_150 (by decide) ?_
                exact V_sub (ks := [0, 1, 2, 3, 4]) rfl (hj27 _ h)
              · refine V_iconst (v := 1) dX10_readTrain_146 (by decide) ?_
                refine V_goto (tgt := 151) dX10_readTrain_147 rfl ?_
                exact V_sub (ks := [0, 1, 2, 3, 4]) rfl (hj27 _ h)
          · intro v28 h
            refine V_bipush (v := 6) dX10_readTrain_151 (by decide) ?_
            refine D_cVIW (As := [_, _]) (μ := fun W31 => (MEM b c W31 M)) h dX10_readTrain_153 cv_X10_201 rfl ⟨_, _, _, (mem_30 hc2), rfl, rfl⟩ rfl (Nat.le_of_ble_eq_true rfl) (fun x y hx => e_X10_check (Nat.le_trans (Nat.le_of_ble_eq_true rfl) hf) hc2 hx) fun v32 W31 h => ?_
            refine V_pop dX10_readTrain_156 rfl ?_
            refine V_aload_n (i := 0) dX10_readTrain_157 rfl rfl ?_
            refine V_getfield dX10_readTrain_158 (mem_30 hc2) fl_X10_176 rfl ?_
            refine D_if_ne (tgt := 179) h dX10_readTrain_161 rfl (fun b33 h => ?_) (fun b33 h => ?_)
            · refine V_aload_n (i := 0) dX10_readTrain_179 rfl rfl ?_
              refine D_cVU (As := []) (μ := fun W34 => (MEM b c W34 M)) h dX10_readTrain_180 cv_X10_204 rfl ⟨_, _, _, (mem_30 hc2), rfl, rfl⟩ rfl (Nat.le_of_ble_eq_true rfl) (fun y hx => e_X10_next (Nat.le_trans (Nat.le_of_ble_eq_true rfl) hf) hc2 hx) fun W34 h => ?_
              refine V_goto (tgt := 59) dX10_readTrain_183 rfl ?_
              exact V_sub (ks := [0, 1, 2, 3]) rfl (ih _ _ h)
            · refine V_aload_n (i := 0) dX10_readTrain_164 rfl rfl ?_
              refine V_getfield dX10_readTrain_165 (mem_30 hc2) fl_X10_13 rfl ?_
              refine V_iload_n (i := 1) dX10_readTrain_168 rfl rfl ?_
              refine V_iconst (v := 2) dX10_readTrain_169 (by decide) ?_
              refine V_iadd dX10_readTrain_170 ?_
              refine V_iload_n (i := 3) dX10_readTrain_171 rfl rfl ?_
              refine V_iadd dX10_readTrain_172 ?_
              refine V_iload (i := 4) dX10_readTrain_173 rfl ?_
              refine D3_ist (u := 22) h (mem_22 hc2) (pst_22 hc2) dX10_readTrain_175 fun W35 h => ?_
              refine D_iinc (i := 3) (w := 1) dX10_readTrain_176 rfl (by decide) (Nat.le_of_ble_eq_true rfl) ?_
              refine V_aload_n (i := 0) dX10_readTrain_179 rfl rfl ?_
              refine D_cVU (As := []) (μ := fun W36 => (MEM b c W36 M)) h dX10_readTrain_180 cv_X10_204 rfl ⟨_, _, _, (mem_30 hc2), rfl, rfl⟩ rfl (Nat.le_of_ble_eq_true rfl) (fun y hx => e_X10_next (Nat.le_trans (Nat.le_of_ble_eq_true rfl) hf) hc2 hx) fun W36 h => ?_
              refine V_goto (tgt := 59) dX10_readTrain_183 rfl ?_
              exact V_sub (ks := [1, 2, 3, 0]) rfl (ih _ _ h)
noncomputable def f_X10_readTrain (W : Nat → Nat → Int32) : Option (Nat → Nat → Int32) :=
  gd (inr (3 : Int32) 251) (jn (fun (v2 : Int32) => bd2 (f_X10_check W v2 (6 : Int32)) (fun v5 W4 => bdc (f_X10_next W4) (fun W6 => gd (inr (3 : Int32) 251) (jn (fun (v8 : Int32) => bdc (f_X10_ofTrain v8) (fun v10 => bd2 (f_X10_number W6 (1 : Int32) (4 : Int32)) (fun v12 W11 => l_X10_readTrain_59 v10 v12 (fun (x37 : Nat → Nat → Int32) (x38 : Int32) => bdc (f_X10_finish x37) (fun W39 => if (W39 30 9) = 0 then gd (inr (v10 + (0 : Int32)) 251) (bnd (w2 W39 22 (ix (v10 + (0 : Int32))) v12) (fun W41 => gd (inr (v10 + (1 : Int32)) 251) (bnd (w2 W41 22 (ix (v10 + (1 : Int32))) x38) (fun W42 => gd (inr (v10 + (9 : Int32)) 251) (bnd (w2 W42 22 (ix (v10 + (9 : Int32))) (1 : Int32)) (fun W43 => gd (inr (v10 + (10 : Int32)) 251) (bnd (w2 W43 22 (ix (v10 + (10 : Int32))) (-1 : Int32)) (fun W44 => gd (inr (3 : Int32) 251) (gd (inr (3 : Int32) 251) (bnd (w2 W44 22 (ix (3 : Int32)) ((W44 22 (ix (3 : Int32))) + (1 : Int32))) (fun W45 => some W45))))))))))) else some W39)) FU W11 (0 : Int32)))) (fun j7 => if (4 : Int32) ≤ (W6 22 (ix (3 : Int32))) then j7 (0 : Int32) else gd (inr (3 : Int32) 251) (j7 (W6 22 (ix (3 : Int32))))))))) (fun j1 => if (4 : Int32) ≤ (W 22 (ix (3 : Int32))) then j1 (0 : Int32) else j1 (1 : Int32)))
theorem e_X10_readTrain {G : GT} {f0 : Nat} {b c : Nat} {M : MM} {hi k n : Nat} {W : Nat → Nat → Int32} {r : (Nat → Nat → Int32)} (hf0 : 5 ≤ f0) (hc2 : 619 ≤ c) (h : f_X10_readTrain W = some r) : Ex G f0 mX10_readTrain [.ref (b + 609)] (MEM b c W M) hi k n (RH (.inl none) (MEM b c r M) hi) := by
  obtain ⟨f, rfl, hf⟩ := suc_of hf0
  unfold f_X10_readTrain at h
  refine ⟨Nat.le_of_ble_eq_true rfl, ?_⟩
  refine V_aload_n (i := 0) dX10_readTrain_0 rfl rfl ?_
  refine V_aload_n (i := 0) dX10_readTrain_1 rfl rfl ?_
  refine V_getfield dX10_readTrain_2 (mem_30 hc2) fl_X10_13 rfl ?_
  refine V_iconst (v := 3) dX10_readTrain_5 (by decide) ?_
  refine D3_ild h (mem_22 hc2) dX10_readTrain_6 fun h => ?_
  refine V_iconst (v := 4) dX10_readTrain_7 (by decide) ?_
  refine D_jn (fun (j : Int32 → Option (Nat → Nat → Int32)) => ∀ (v2 : Int32), j v2 = some r → V G f (Ex G f) mX10_readTrain (RH (.inl none) (MEM b c r M) hi) 16 [(0, .ref (b + 609))] [.int v2, .ref (b + 609)] (MEM b c W M) hi k n) h (fun j1 hj1 h => ?_) ?_
  · refine D_icmp_ge (tgt := 15) h dX10_readTrain_8 rfl (fun b3 h => ?_) (fun b3 h => ?_)
    · refine V_iconst (v := 0) dX10_readTrain_15 (by decide) ?_
      exact V_sub (ks := [0]) rfl (hj1 _ h)
    · refine V_iconst (v := 1) dX10_readTrain_11 (by decide) ?_
      refine V_goto (tgt := 16) dX10_readTrain_12 rfl ?_
      exact V_sub (ks := [0]) rfl (hj1 _ h)
  · intro v2 h
    refine V_bipush (v := 6) dX10_readTrain_16 (by decide) ?_
    refine D_cVIW (As := [_, _]) (μ := fun W4 => (MEM b c W4 M)) h dX10_readTrain_18 cv_X10_201 rfl ⟨_, _, _, (mem_30 hc2), rfl, rfl⟩ rfl (Nat.le_of_ble_eq_true rfl) (fun x y hx => e_X10_check (Nat.le_trans (Nat.le_of_ble_eq_true rfl) hf) hc2 hx) fun v5 W4 h => ?_
    refine V_pop dX10_readTrain_21 rfl ?_
    refine V_aload_n (i := 0) dX10_readTrain_22 rfl rfl ?_
    refine D_cVU (As := []) (μ := fun W6 => (MEM b c W6 M)) h dX10_readTrain_23 cv_X10_204 rfl ⟨_, _, _, (mem_30 hc2), rfl, rfl⟩ rfl (Nat.le_of_ble_eq_true rfl) (fun y hx => e_X10_next (Nat.le_trans (Nat.le_of_ble_eq_true rfl) hf) hc2 hx) fun W6 h => ?_
    refine V_aload_n (i := 0) dX10_readTrain_26 rfl rfl ?_
    refine V_getfield dX10_readTrain_27 (mem_30 hc2) fl_X10_13 rfl ?_
    refine V_iconst (v := 3) dX10_readTrain_30 (by decide) ?_
    refine D3_ild h (mem_22 hc2) dX10_readTrain_31 fun h => ?_
    refine V_iconst (v := 4) dX10_readTrain_32 (by decide) ?_
    refine D_jn (fun (j : Int32 → Option (Nat → Nat → Int32)) => ∀ (v8 : Int32), j v8 = some r → V G f (Ex G f) mX10_readTrain (RH (.inl none) (MEM b c r M) hi) 46 [(0, .ref (b + 609))] [.int v8] (MEM b c W6 M) hi k n) h (fun j7 hj7 h => ?_) ?_
    · refine D_icmp_ge (tgt := 45) h dX10_readTrain_33 rfl (fun b9 h => ?_) (fun b9 h => ?_)
      · refine V_iconst (v := 0) dX10_readTrain_45 (by decide) ?_
        exact V_sub (ks := [0]) rfl (hj7 _ h)
      · refine V_aload_n (i := 0) dX10_readTrain_36 rfl rfl ?_
        refine V_getfield dX10_readTrain_37 (mem_30 hc2) fl_X10_13 rfl ?_
        refine V_iconst (v := 3) dX10_readTrain_40 (by decide) ?_
        refine D3_ild h (mem_22 hc2) dX10_readTrain_41 fun h => ?_
        refine V_goto (tgt := 46) dX10_readTrain_42 rfl ?_
        exact V_sub (ks := [0]) rfl (hj7 _ h)
    · intro v8 h
      refine D_cSI (As := [_]) h dX10_readTrain_46 cs_X10_81 rfl rfl (Nat.le_of_ble_eq_true rfl) (fun x hx => e_X10_ofTrain (Nat.le_trans (Nat.le_of_ble_eq_true rfl) hf) hx) fun v10 h => ?_
      refine V_istore_n (i := 1) dX10_readTrain_49 rfl (Nat.le_of_ble_eq_true rfl) ?_
      refine V_aload_n (i := 0) dX10_readTrain_50 rfl rfl ?_
      refine V_iconst (v := 1) dX10_readTrain_51 (by decide) ?_
      refine V_iconst (v := 4) dX10_readTrain_52 (by decide) ?_
      refine D_cVIW (As := [_, _]) (μ := fun W11 => (MEM b c W11 M)) h dX10_readTrain_53 cv_X10_222 rfl ⟨_, _, _, (mem_30 hc2), rfl, rfl⟩ rfl (Nat.le_of_ble_eq_true rfl) (fun x y hx => e_X10_number (Nat.le_trans (Nat.le_of_ble_eq_true rfl) hf) hc2 hx) fun v12 W11 h => ?_
      refine V_istore_n (i := 2) dX10_readTrain_56 rfl (Nat.le_of_ble_eq_true rfl) ?_
      refine V_iconst (v := 0) dX10_readTrain_57 (by decide) ?_
      refine V_istore_n (i := 3) dX10_readTrain_58 rfl (Nat.le_of_ble_eq_true rfl) ?_
      refine V_sub (ks := [3, 2, 1, 0]) rfl (lv_X10_readTrain_59 hf hc2 ?_ FU _ _ h)
      · intro x37 x38 h
        refine V_aload_n (i := 0) dX10_readTrain_186 rfl rfl ?_
        refine D_cVU (As := []) (μ := fun W39 => (MEM b c W39 M)) h dX10_readTrain_187 cv_X10_216 rfl ⟨_, _, _, (mem_30 hc2), rfl, rfl⟩ rfl (Nat.le_of_ble_eq_true rfl) (fun y hx => e_X10_finish (Nat.le_trans (Nat.le_of_ble_eq_true rfl) hf) hc2 hx) fun W39 h => ?_
        refine V_aload_n (i := 0) dX10_readTrain_190 rfl rfl ?_
        refine V_getfield dX10_readTrain_191 (mem_30 hc2) fl_X10_176 rfl ?_
        refine D_if_ne (tgt := 245) h dX10_readTrain_194 rfl (fun b40 h => ?_) (fun b40 h => ?_)
        · obtain rfl := Option.some.inj h
          exact V_return dX10_readTrain_245 rfl ⟨rfl, rfl, rfl⟩
        · refine V_aload_n (i := 0) dX10_readTrain_197 rfl rfl ?_
          refine V_getfield dX10_readTrain_198 (mem_30 hc2) fl_X10_13 rfl ?_
          refine V_iload_n (i := 1) dX10_readTrain_201 rfl rfl ?_
          refine V_iconst (v := 0) dX10_readTrain_202 (by decide) ?_
          refine V_iadd dX10_readTrain_203 ?_
          refine V_iload_n (i := 2) dX10_readTrain_204 rfl rfl ?_
          refine D3_ist (u := 22) h (mem_22 hc2) (pst_22 hc2) dX10_readTrain_205 fun W41 h => ?_
          refine V_aload_n (i := 0) dX10_readTrain_206 rfl rfl ?_
          refine V_getfield dX10_readTrain_207 (mem_30 hc2) fl_X10_13 rfl ?_
          refine V_iload_n (i := 1) dX10_readTrain_210 rfl rfl ?_
          refine V_iconst (v := 1) dX10_readTrain_211 (by decide) ?_
          refine V_iadd dX10_readTrain_212 ?_
          refine V_iload_n (i := 3) dX10_readTrain_213 rfl rfl ?_
          refine D3_ist (u := 22) h (mem_22 hc2) (pst_22 hc2) dX10_readTrain_214 fun W42 h => ?_
          refine V_aload_n (i := 0) dX10_readTrain_215 rfl rfl ?_
          refine V_getfield dX10_readTrain_216 (mem_30 hc2) fl_X10_13 rfl ?_
          refine V_iload_n (i := 1) dX10_readTrain_219 rfl rfl ?_
          refine V_bipush (v := 9) dX10_readTrain_220 (by decide) ?_
          refine V_iadd dX10_readTrain_222 ?_
          refine V_iconst (v := 1) dX10_readTrain_223 (by decide) ?_
          refine D3_ist (u := 22) h (mem_22 hc2) (pst_22 hc2) dX10_readTrain_224 fun W43 h => ?_
          refine V_aload_n (i := 0) dX10_readTrain_225 rfl rfl ?_
          refine V_getfield dX10_readTrain_226 (mem_30 hc2) fl_X10_13 rfl ?_
          refine V_iload_n (i := 1) dX10_readTrain_229 rfl rfl ?_
          refine V_bipush (v := 10) dX10_readTrain_230 (by decide) ?_
          refine V_iadd dX10_readTrain_232 ?_
          refine V_iconst (v := -1) dX10_readTrain_233 (by decide) ?_
          refine D3_ist (u := 22) h (mem_22 hc2) (pst_22 hc2) dX10_readTrain_234 fun W44 h => ?_
          refine V_aload_n (i := 0) dX10_readTrain_235 rfl rfl ?_
          refine V_getfield dX10_readTrain_236 (mem_30 hc2) fl_X10_13 rfl ?_
          refine V_iconst (v := 3) dX10_readTrain_239 (by decide) ?_
          refine V_dup2_11 dX10_readTrain_240 rfl rfl ?_
          refine D3_ild h (mem_22 hc2) dX10_readTrain_241 fun h => ?_
          refine V_iconst (v := 1) dX10_readTrain_242 (by decide) ?_
          refine V_iadd dX10_readTrain_243 ?_
          refine D3_ist (u := 22) h (mem_22 hc2) (pst_22 hc2) dX10_readTrain_244 fun W45 h => ?_
          obtain rfl := Option.some.inj h
          exact V_return dX10_readTrain_245 rfl ⟨rfl, rfl, rfl⟩
noncomputable def f_X10_readParcel (W : Nat → Nat → Int32) : Option (Nat → Nat → Int32) :=
  gd (inr (4 : Int32) 251) (jn (fun (v2 : Int32) => bd2 (f_X10_check W v2 (6 : Int32)) (fun v5 W4 => bdc (f_X10_next W4) (fun W6 => bd2 (f_X10_station W6) (fun v8 W7 => bd2 (f_X10_look W7) (fun v10 W9 => jn (fun (v12 : Int32) => bd2 (f_X10_check W9 v12 (5 : Int32)) (fun v16 W15 => bdc (f_X10_next W15) (fun W17 => bd2 (f_X10_number W17 (1 : Int32) (9 : Int32)) (fun v19 W18 => bdc (f_X10_finish W18) (fun W20 => if (W20 30 9) = 0 then bd2 (f_X10_layParcel (pk (W20 22) (W20 27)) v8 v10 v19) (fun v24 S23 => bnd (setQ W20 22 S23) (fun W22 => if 0 ≤ v24 then some W22 else bnd (w2 W22 30 9 (1 : Int32)) (fun W26 => some W26))) else some W20))))) (fun j11 => if (W9 30 9) = 0 then if v8 = v10 then j11 (0 : Int32) else j11 (1 : Int32) else j11 (1 : Int32))))))) (fun j1 => if (12 : Int32) ≤ (W 22 (ix (4 : Int32))) then j1 (0 : Int32) else j1 (1 : Int32)))
theorem e_X10_readParcel {G : GT} {f0 : Nat} {b c : Nat} {M : MM} {hi k n : Nat} {W : Nat → Nat → Int32} {r : (Nat → Nat → Int32)} (hf0 : 5 ≤ f0) (hc2 : 619 ≤ c) (h : f_X10_readParcel W = some r) : Ex G f0 mX10_readParcel [.ref (b + 609)] (MEM b c W M) hi k n (RH (.inl none) (MEM b c r M) hi) := by
  obtain ⟨f, rfl, hf⟩ := suc_of hf0
  unfold f_X10_readParcel at h
  refine ⟨Nat.le_of_ble_eq_true rfl, ?_⟩
  refine V_aload_n (i := 0) dX10_readParcel_0 rfl rfl ?_
  refine V_aload_n (i := 0) dX10_readParcel_1 rfl rfl ?_
  refine V_getfield dX10_readParcel_2 (mem_30 hc2) fl_X10_13 rfl ?_
  refine V_iconst (v := 4) dX10_readParcel_5 (by decide) ?_
  refine D3_ild h (mem_22 hc2) dX10_readParcel_6 fun h => ?_
  refine V_bipush (v := 12) dX10_readParcel_7 (by decide) ?_
  refine D_jn (fun (j : Int32 → Option (Nat → Nat → Int32)) => ∀ (v2 : Int32), j v2 = some r → V G f (Ex G f) mX10_readParcel (RH (.inl none) (MEM b c r M) hi) 17 [(0, .ref (b + 609))] [.int v2, .ref (b + 609)] (MEM b c W M) hi k n) h (fun j1 hj1 h => ?_) ?_
  · refine D_icmp_ge (tgt := 16) h dX10_readParcel_9 rfl (fun b3 h => ?_) (fun b3 h => ?_)
    · refine V_iconst (v := 0) dX10_readParcel_16 (by decide) ?_
      exact V_sub (ks := [0]) rfl (hj1 _ h)
    · refine V_iconst (v := 1) dX10_readParcel_12 (by decide) ?_
      refine V_goto (tgt := 17) dX10_readParcel_13 rfl ?_
      exact V_sub (ks := [0]) rfl (hj1 _ h)
  · intro v2 h
    refine V_bipush (v := 6) dX10_readParcel_17 (by decide) ?_
    refine D_cVIW (As := [_, _]) (μ := fun W4 => (MEM b c W4 M)) h dX10_readParcel_19 cv_X10_201 rfl ⟨_, _, _, (mem_30 hc2), rfl, rfl⟩ rfl (Nat.le_of_ble_eq_true rfl) (fun x y hx => e_X10_check (Nat.le_trans (Nat.le_of_ble_eq_true rfl) hf) hc2 hx) fun v5 W4 h => ?_
    refine V_pop dX10_readParcel_22 rfl ?_
    refine V_aload_n (i := 0) dX10_readParcel_23 rfl rfl ?_
    refine D_cVU (As := []) (μ := fun W6 => (MEM b c W6 M)) h dX10_readParcel_24 cv_X10_204 rfl ⟨_, _, _, (mem_30 hc2), rfl, rfl⟩ rfl (Nat.le_of_ble_eq_true rfl) (fun y hx => e_X10_next (Nat.le_trans (Nat.le_of_ble_eq_true rfl) hf) hc2 hx) fun W6 h => ?_
    refine V_aload_n (i := 0) dX10_readParcel_27 rfl rfl ?_
    refine D_cVIW (As := []) (μ := fun W7 => (MEM b c W7 M)) h dX10_readParcel_28 cv_X10_219 rfl ⟨_, _, _, (mem_30 hc2), rfl, rfl⟩ rfl (Nat.le_of_ble_eq_true rfl) (fun x y hx => e_X10_station (Nat.le_trans (Nat.le_of_ble_eq_true rfl) hf) hc2 hx) fun v8 W7 h => ?_
    refine V_istore_n (i := 1) dX10_readParcel_31 rfl (Nat.le_of_ble_eq_true rfl) ?_
    refine V_aload_n (i := 0) dX10_readParcel_32 rfl rfl ?_
    refine D_cVIW (As := []) (μ := fun W9 => (MEM b c W9 M)) h dX10_readParcel_33 cv_X10_213 rfl ⟨_, _, _, (mem_30 hc2), rfl, rfl⟩ rfl (Nat.le_of_ble_eq_true rfl) (fun x y hx => e_X10_look (Nat.le_trans (Nat.le_of_ble_eq_true rfl) hf) hc2 hx) fun v10 W9 h => ?_
    refine V_istore_n (i := 2) dX10_readParcel_36 rfl (Nat.le_of_ble_eq_true rfl) ?_
    refine V_aload_n (i := 0) dX10_readParcel_37 rfl rfl ?_
    refine V_aload_n (i := 0) dX10_readParcel_38 rfl rfl ?_
    refine V_getfield dX10_readParcel_39 (mem_30 hc2) fl_X10_176 rfl ?_
    refine D_jn (fun (j : Int32 → Option (Nat → Nat → Int32)) => ∀ (v12 : Int32), j v12 = some r → V G f (Ex G f) mX10_readParcel (RH (.inl none) (MEM b c r M) hi) 55 [(0, .ref (b + 609)), (1, .int v8), (2, .int v10)] [.int v12, .ref (b + 609)] (MEM b c W9 M) hi k n) h (fun j11 hj11 h => ?_) ?_
    · refine D_if_ne (tgt := 50) h dX10_readParcel_42 rfl (fun b13 h => ?_) (fun b13 h => ?_)
      · refine V_iconst (v := 1) dX10_readParcel_50 (by decide) ?_
        refine V_goto (tgt := 55) dX10_readParcel_51 rfl ?_
        exact V_sub (ks := [2, 1, 0]) rfl (hj11 _ h)
      · refine V_iload_n (i := 1) dX10_readParcel_45 rfl rfl ?_
        refine V_iload_n (i := 2) dX10_readParcel_46 rfl rfl ?_
        refine D_icmp_eq (tgt := 54) h dX10_readParcel_47 rfl (fun b14 h => ?_) (fun b14 h => ?_)
        · refine V_iconst (v := 0) dX10_readParcel_54 (by decide) ?_
          exact V_sub (ks := [2, 1, 0]) rfl (hj11 _ h)
        · refine V_iconst (v := 1) dX10_readParcel_50 (by decide) ?_
          refine V_goto (tgt := 55) dX10_readParcel_51 rfl ?_
          exact V_sub (ks := [2, 1, 0]) rfl (hj11 _ h)
    · intro v12 h
      refine V_iconst (v := 5) dX10_readParcel_55 (by decide) ?_
      refine D_cVIW (As := [_, _]) (μ := fun W15 => (MEM b c W15 M)) h dX10_readParcel_56 cv_X10_201 rfl ⟨_, _, _, (mem_30 hc2), rfl, rfl⟩ rfl (Nat.le_of_ble_eq_true rfl) (fun x y hx => e_X10_check (Nat.le_trans (Nat.le_of_ble_eq_true rfl) hf) hc2 hx) fun v16 W15 h => ?_
      refine V_pop dX10_readParcel_59 rfl ?_
      refine V_aload_n (i := 0) dX10_readParcel_60 rfl rfl ?_
      refine D_cVU (As := []) (μ := fun W17 => (MEM b c W17 M)) h dX10_readParcel_61 cv_X10_204 rfl ⟨_, _, _, (mem_30 hc2), rfl, rfl⟩ rfl (Nat.le_of_ble_eq_true rfl) (fun y hx => e_X10_next (Nat.le_trans (Nat.le_of_ble_eq_true rfl) hf) hc2 hx) fun W17 h => ?_
      refine V_aload_n (i := 0) dX10_readParcel_64 rfl rfl ?_
      refine V_iconst (v := 1) dX10_readParcel_65 (by decide) ?_
      refine V_bipush (v := 9) dX10_readParcel_66 (by decide) ?_
      refine D_cVIW (As := [_, _]) (μ := fun W18 => (MEM b c W18 M)) h dX10_readParcel_68 cv_X10_222 rfl ⟨_, _, _, (mem_30 hc2), rfl, rfl⟩ rfl (Nat.le_of_ble_eq_true rfl) (fun x y hx => e_X10_number (Nat.le_trans (Nat.le_of_ble_eq_true rfl) hf) hc2 hx) fun v19 W18 h => ?_
      refine V_istore_n (i := 3) dX10_readParcel_71 rfl (Nat.le_of_ble_eq_true rfl) ?_
      refine V_aload_n (i := 0) dX10_readParcel_72 rfl rfl ?_
      refine D_cVU (As := []) (μ := fun W20 => (MEM b c W20 M)) h dX10_readParcel_73 cv_X10_216 rfl ⟨_, _, _, (mem_30 hc2), rfl, rfl⟩ rfl (Nat.le_of_ble_eq_true rfl) (fun y hx => e_X10_finish (Nat.le_trans (Nat.le_of_ble_eq_true rfl) hf) hc2 hx) fun W20 h => ?_
      refine V_aload_n (i := 0) dX10_readParcel_76 rfl rfl ?_
      refine V_getfield dX10_readParcel_77 (mem_30 hc2) fl_X10_176 rfl ?_
      refine D_if_ne (tgt := 101) h dX10_readParcel_80 rfl (fun b21 h => ?_) (fun b21 h => ?_)
      · obtain rfl := Option.some.inj h
        exact V_return dX10_readParcel_101 rfl ⟨rfl, rfl, rfl⟩
      · refine V_aload_n (i := 0) dX10_readParcel_83 rfl rfl ?_
        refine V_getfield dX10_readParcel_84 (mem_30 hc2) fl_X10_13 rfl ?_
        refine V_iload_n (i := 1) dX10_readParcel_87 rfl rfl ?_
        refine V_iload_n (i := 2) dX10_readParcel_88 rfl rfl ?_
        refine V_iload_n (i := 3) dX10_readParcel_89 rfl rfl ?_
        refine D_cSIW (As := [_, _, _, _]) (μ := fun S23 => (MEM b c (setQ W20 22 S23) M)) h dX10_readParcel_90 cs_X10_226 rfl rfl (Nat.le_of_ble_eq_true rfl) (fun x y hx => liftq1 (u := 22) hc2 ⟨by decide, by decide⟩ rfl (e_X10_layParcel (Nat.le_trans (Nat.le_of_ble_eq_true rfl) hf) hx)) fun v24 S23 h => ?_
        refine D3_gen (μ := fun W => (MEM b c W M)) h fun W22 h => ?_
        refine D_if_ge (tgt := 101) h dX10_readParcel_93 rfl (fun b25 h => ?_) (fun b25 h => ?_)
        · obtain rfl := Option.some.inj h
          exact V_return dX10_readParcel_101 rfl ⟨rfl, rfl, rfl⟩
        · refine V_aload_n (i := 0) dX10_readParcel_96 rfl rfl ?_
          refine V_iconst (v := 1) dX10_readParcel_97 (by decide) ?_
          refine D3_put h dX10_readParcel_98 (mem_30 hc2) (fp_X10_176 rfl) (Nat.le_of_ble_eq_true rfl) (psc_30_9 hc2) fun W26 h => ?_
          obtain rfl := Option.some.inj h
          exact V_return dX10_readParcel_101 rfl ⟨rfl, rfl, rfl⟩
noncomputable def f_X10_readInspect (W : Nat → Nat → Int32) : Option (Nat → Nat → Int32) :=
  bdc (f_X10_next W) (fun W1 => bd2 (f_X10_station W1) (fun v3 W2 => bd2 (f_X10_number W2 (0 : Int32) (9 : Int32)) (fun v5 W4 => bdc (f_X10_finish W4) (fun W6 => if (W6 30 9) = 0 then bdc (f_X10_ofStation v3) (fun v8 => gd (inr (v8 + (2 : Int32)) 251) (bnd (w2 W6 22 (ix (v8 + (2 : Int32))) v5) (fun W9 => some W9))) else some W6))))
theorem e_X10_readInspect {G : GT} {f0 : Nat} {b c : Nat} {M : MM} {hi k n : Nat} {W : Nat → Nat → Int32} {r : (Nat → Nat → Int32)} (hf0 : 5 ≤ f0) (hc2 : 619 ≤ c) (h : f_X10_readInspect W = some r) : Ex G f0 mX10_readInspect [.ref (b + 609)] (MEM b c W M) hi k n (RH (.inl none) (MEM b c r M) hi) := by
  obtain ⟨f, rfl, hf⟩ := suc_of hf0
  unfold f_X10_readInspect at h
  refine ⟨Nat.le_of_ble_eq_true rfl, ?_⟩
  refine V_aload_n (i := 0) dX10_readInspect_0 rfl rfl ?_
  refine D_cVU (As := []) (μ := fun W1 => (MEM b c W1 M)) h dX10_readInspect_1 cv_X10_204 rfl ⟨_, _, _, (mem_30 hc2), rfl, rfl⟩ rfl (Nat.le_of_ble_eq_true rfl) (fun y hx => e_X10_next (Nat.le_trans (Nat.le_of_ble_eq_true rfl) hf) hc2 hx) fun W1 h => ?_
  refine V_aload_n (i := 0) dX10_readInspect_4 rfl rfl ?_
  refine D_cVIW (As := []) (μ := fun W2 => (MEM b c W2 M)) h dX10_readInspect_5 cv_X10_219 rfl ⟨_, _, _, (mem_30 hc2), rfl, rfl⟩ rfl (Nat.le_of_ble_eq_true rfl) (fun x y hx => e_X10_station (Nat.le_trans (Nat.le_of_ble_eq_true rfl) hf) hc2 hx) fun v3 W2 h => ?_
  refine V_istore_n (i := 1) dX10_readInspect_8 rfl (Nat.le_of_ble_eq_true rfl) ?_
  refine V_aload_n (i := 0) dX10_readInspect_9 rfl rfl ?_
  refine V_iconst (v := 0) dX10_readInspect_10 (by decide) ?_
  refine V_bipush (v := 9) dX10_readInspect_11 (by decide) ?_
  refine D_cVIW (As := [_, _]) (μ := fun W4 => (MEM b c W4 M)) h dX10_readInspect_13 cv_X10_222 rfl ⟨_, _, _, (mem_30 hc2), rfl, rfl⟩ rfl (Nat.le_of_ble_eq_true rfl) (fun x y hx => e_X10_number (Nat.le_trans (Nat.le_of_ble_eq_true rfl) hf) hc2 hx) fun v5 W4 h => ?_
  refine V_istore_n (i := 2) dX10_readInspect_16 rfl (Nat.le_of_ble_eq_true rfl) ?_
  refine V_aload_n (i := 0) dX10_readInspect_17 rfl rfl ?_
  refine D_cVU (As := []) (μ := fun W6 => (MEM b c W6 M)) h dX10_readInspect_18 cv_X10_216 rfl ⟨_, _, _, (mem_30 hc2), rfl, rfl⟩ rfl (Nat.le_of_ble_eq_true rfl) (fun y hx => e_X10_finish (Nat.le_trans (Nat.le_of_ble_eq_true rfl) hf) hc2 hx) fun W6 h => ?_
  refine V_aload_n (i := 0) dX10_readInspect_21 rfl rfl ?_
  refine V_getfield dX10_readInspect_22 (mem_30 hc2) fl_X10_176 rfl ?_
  refine D_if_ne (tgt := 40) h dX10_readInspect_25 rfl (fun b7 h => ?_) (fun b7 h => ?_)
  · obtain rfl := Option.some.inj h
    exact V_return dX10_readInspect_40 rfl ⟨rfl, rfl, rfl⟩
  · refine V_aload_n (i := 0) dX10_readInspect_28 rfl rfl ?_
    refine V_getfield dX10_readInspect_29 (mem_30 hc2) fl_X10_13 rfl ?_
    refine V_iload_n (i := 1) dX10_readInspect_32 rfl rfl ?_
    refine D_cSI (As := [_]) h dX10_readInspect_33 cs_X10_134 rfl rfl (Nat.le_of_ble_eq_true rfl) (fun x hx => e_X10_ofStation (Nat.le_trans (Nat.le_of_ble_eq_true rfl) hf) hx) fun v8 h => ?_
    refine V_iconst (v := 2) dX10_readInspect_36 (by decide) ?_
    refine V_iadd dX10_readInspect_37 ?_
    refine V_iload_n (i := 2) dX10_readInspect_38 rfl rfl ?_
    refine D3_ist (u := 22) h (mem_22 hc2) (pst_22 hc2) dX10_readInspect_39 fun W9 h => ?_
    obtain rfl := Option.some.inj h
    exact V_return dX10_readInspect_40 rfl ⟨rfl, rfl, rfl⟩
noncomputable def f_X10_readClose (W : Nat → Nat → Int32) : Option (Nat → Nat → Int32) :=
  bdc (f_X10_next W) (fun W1 => bd2 (f_X10_station W1) (fun v3 W2 => bd2 (f_X10_look W2) (fun v5 W4 => jn (fun (v7 : Int32) => jn (fun (v11 : Int32) => bd2 (f_X10_check W4 v11 (5 : Int32)) (fun v15 W14 => bdc (f_X10_next W14) (fun W16 => bdc (f_X10_finish W16) (fun W17 => if (W17 30 9) = 0 then bdc (f_X10_ofTrack v7) (fun v19 => gd (inr (v19 + (3 : Int32)) 251) (bnd (w2 W17 22 (ix (v19 + (3 : Int32))) (0 : Int32)) (fun W20 => some W20))) else some W17)))) (fun j10 => if (W4 30 9) = 0 then if v7 = (-1 : Int32) then j10 (0 : Int32) else j10 (1 : Int32) else j10 (1 : Int32))) (fun j6 => if (W4 30 9) = 0 then bdc (f_X10_between (pk (W4 22) (W4 27)) v3 v5) (fun v9 => j6 v9) else j6 (0 : Int32)))))
theorem e_X10_readClose {G : GT} {f0 : Nat} {b c : Nat} {M : MM} {hi k n : Nat} {W : Nat → Nat → Int32} {r : (Nat → Nat → Int32)} (hf0 : 5 ≤ f0) (hc2 : 619 ≤ c) (h : f_X10_readClose W = some r) : Ex G f0 mX10_readClose [.ref (b + 609)] (MEM b c W M) hi k n (RH (.inl none) (MEM b c r M) hi) := by
  obtain ⟨f, rfl, hf⟩ := suc_of hf0
  unfold f_X10_readClose at h
  refine ⟨Nat.le_of_ble_eq_true rfl, ?_⟩
  refine V_aload_n (i := 0) dX10_readClose_0 rfl rfl ?_
  refine D_cVU (As := []) (μ := fun W1 => (MEM b c W1 M)) h dX10_readClose_1 cv_X10_204 rfl ⟨_, _, _, (mem_30 hc2), rfl, rfl⟩ rfl (Nat.le_of_ble_eq_true rfl) (fun y hx => e_X10_next (Nat.le_trans (Nat.le_of_ble_eq_true rfl) hf) hc2 hx) fun W1 h => ?_
  refine V_aload_n (i := 0) dX10_readClose_4 rfl rfl ?_
  refine D_cVIW (As := []) (μ := fun W2 => (MEM b c W2 M)) h dX10_readClose_5 cv_X10_219 rfl ⟨_, _, _, (mem_30 hc2), rfl, rfl⟩ rfl (Nat.le_of_ble_eq_true rfl) (fun x y hx => e_X10_station (Nat.le_trans (Nat.le_of_ble_eq_true rfl) hf) hc2 hx) fun v3 W2 h => ?_
  refine V_istore_n (i := 1) dX10_readClose_8 rfl (Nat.le_of_ble_eq_true rfl) ?_
  refine V_aload_n (i := 0) dX10_readClose_9 rfl rfl ?_
  refine D_cVIW (As := []) (μ := fun W4 => (MEM b c W4 M)) h dX10_readClose_10 cv_X10_213 rfl ⟨_, _, _, (mem_30 hc2), rfl, rfl⟩ rfl (Nat.le_of_ble_eq_true rfl) (fun x y hx => e_X10_look (Nat.le_trans (Nat.le_of_ble_eq_true rfl) hf) hc2 hx) fun v5 W4 h => ?_
  refine V_istore_n (i := 2) dX10_readClose_13 rfl (Nat.le_of_ble_eq_true rfl) ?_
  refine V_aload_n (i := 0) dX10_readClose_14 rfl rfl ?_
  refine V_getfield dX10_readClose_15 (mem_30 hc2) fl_X10_176 rfl ?_
  refine D_jn (fun (j : Int32 → Option (Nat → Nat → Int32)) => ∀ (v7 : Int32), j v7 = some r → V G f (Ex G f) mX10_readClose (RH (.inl none) (MEM b c r M) hi) 34 [(0, .ref (b + 609))] [.int v7] (MEM b c W4 M) hi k n) h (fun j6 hj6 h => ?_) ?_
  · refine D_if_ne (tgt := 33) h dX10_readClose_18 rfl (fun b8 h => ?_) (fun b8 h => ?_)
    · refine V_iconst (v := 0) dX10_readClose_33 (by decide) ?_
      exact V_sub (ks := [2]) rfl (hj6 _ h)
    · refine V_aload_n (i := 0) dX10_readClose_21 rfl rfl ?_
      refine V_getfield dX10_readClose_22 (mem_30 hc2) fl_X10_13 rfl ?_
      refine V_iload_n (i := 1) dX10_readClose_25 rfl rfl ?_
      refine V_iload_n (i := 2) dX10_readClose_26 rfl rfl ?_
      refine D_cSI (As := [_, _, _]) h dX10_readClose_27 cs_X10_128 rfl rfl (Nat.le_of_ble_eq_true rfl) (fun x hx => liftq0 (u := 22) hc2 ⟨by decide, by decide⟩ rfl (e_X10_between (Nat.le_trans (Nat.le_of_ble_eq_true rfl) hf) hx)) fun v9 h => ?_
      refine V_goto (tgt := 34) dX10_readClose_30 rfl ?_
      exact V_sub (ks := [2]) rfl (hj6 _ h)
  · intro v7 h
    refine V_istore_n (i := 3) dX10_readClose_34 rfl (Nat.le_of_ble_eq_true rfl) ?_
    refine V_aload_n (i := 0) dX10_readClose_35 rfl rfl ?_
    refine V_aload_n (i := 0) dX10_readClose_36 rfl rfl ?_
    refine V_getfield dX10_readClose_37 (mem_30 hc2) fl_X10_176 rfl ?_
    refine D_jn (fun (j : Int32 → Option (Nat → Nat → Int32)) => ∀ (v11 : Int32), j v11 = some r → V G f (Ex G f) mX10_readClose (RH (.inl none) (MEM b c r M) hi) 53 [(0, .ref (b + 609)), (3, .int v7)] [.int v11, .ref (b + 609)] (MEM b c W4 M) hi k n) h (fun j10 hj10 h => ?_) ?_
    · refine D_if_ne (tgt := 48) h dX10_readClose_40 rfl (fun b12 h => ?_) (fun b12 h => ?_)
      · refine V_iconst (v := 1) dX10_readClose_48 (by decide) ?_
        refine V_goto (tgt := 53) dX10_readClose_49 rfl ?_
        exact V_sub (ks := [1, 0]) rfl (hj10 _ h)
      · refine V_iload_n (i := 3) dX10_readClose_43 rfl rfl ?_
        refine V_iconst (v := -1) dX10_readClose_44 (by decide) ?_
        refine D_icmp_eq (tgt := 52) h dX10_readClose_45 rfl (fun b13 h => ?_) (fun b13 h => ?_)
        · refine V_iconst (v := 0) dX10_readClose_52 (by decide) ?_
          exact V_sub (ks := [1, 0]) rfl (hj10 _ h)
        · refine V_iconst (v := 1) dX10_readClose_48 (by decide) ?_
          refine V_goto (tgt := 53) dX10_readClose_49 rfl ?_
          exact V_sub (ks := [1, 0]) rfl (hj10 _ h)
    · intro v11 h
      refine V_iconst (v := 5) dX10_readClose_53 (by decide) ?_
      refine D_cVIW (As := [_, _]) (μ := fun W14 => (MEM b c W14 M)) h dX10_readClose_54 cv_X10_201 rfl ⟨_, _, _, (mem_30 hc2), rfl, rfl⟩ rfl (Nat.le_of_ble_eq_true rfl) (fun x y hx => e_X10_check (Nat.le_trans (Nat.le_of_ble_eq_true rfl) hf) hc2 hx) fun v15 W14 h => ?_
      refine V_pop dX10_readClose_57 rfl ?_
      refine V_aload_n (i := 0) dX10_readClose_58 rfl rfl ?_
      refine D_cVU (As := []) (μ := fun W16 => (MEM b c W16 M)) h dX10_readClose_59 cv_X10_204 rfl ⟨_, _, _, (mem_30 hc2), rfl, rfl⟩ rfl (Nat.le_of_ble_eq_true rfl) (fun y hx => e_X10_next (Nat.le_trans (Nat.le_of_ble_eq_true rfl) hf) hc2 hx) fun W16 h => ?_
      refine V_aload_n (i := 0) dX10_readClose_62 rfl rfl ?_
      refine D_cVU (As := []) (μ := fun W17 => (MEM b c W17 M)) h dX10_readClose_63 cv_X10_216 rfl ⟨_, _, _, (mem_30 hc2), rfl, rfl⟩ rfl (Nat.le_of_ble_eq_true rfl) (fun y hx => e_X10_finish (Nat.le_trans (Nat.le_of_ble_eq_true rfl) hf) hc2 hx) fun W17 h => ?_
      refine V_aload_n (i := 0) dX10_readClose_66 rfl rfl ?_
      refine V_getfield dX10_readClose_67 (mem_30 hc2) fl_X10_176 rfl ?_
      refine D_if_ne (tgt := 85) h dX10_readClose_70 rfl (fun b18 h => ?_) (fun b18 h => ?_)
      · obtain rfl := Option.some.inj h
        exact V_return dX10_readClose_85 rfl ⟨rfl, rfl, rfl⟩
      · refine V_aload_n (i := 0) dX10_readClose_73 rfl rfl ?_
        refine V_getfield dX10_readClose_74 (mem_30 hc2) fl_X10_13 rfl ?_
        refine V_iload_n (i := 3) dX10_readClose_77 rfl rfl ?_
        refine D_cSI (As := [_]) h dX10_readClose_78 cs_X10_72 rfl rfl (Nat.le_of_ble_eq_true rfl) (fun x hx => e_X10_ofTrack (Nat.le_trans (Nat.le_of_ble_eq_true rfl) hf) hx) fun v19 h => ?_
        refine V_iconst (v := 3) dX10_readClose_81 (by decide) ?_
        refine V_iadd dX10_readClose_82 ?_
        refine V_iconst (v := 0) dX10_readClose_83 (by decide) ?_
        refine D3_ist (u := 22) h (mem_22 hc2) (pst_22 hc2) dX10_readClose_84 fun W20 h => ?_
        obtain rfl := Option.some.inj h
        exact V_return dX10_readClose_85 rfl ⟨rfl, rfl, rfl⟩
noncomputable def f_X10_readRun (W : Nat → Nat → Int32) : Option (Nat → Nat → Int32) :=
  bdc (f_X10_next W) (fun W1 => bd2 (f_X10_number W1 (0 : Int32) (60 : Int32)) (fun v3 W2 => bdc (f_X10_finish W2) (fun W4 => if (W4 30 9) = 0 then bdc (f_X10_minutes (pk (W4 22) (W4 27)) v3) (fun S9 => bnd (setQ W4 22 S9) (fun W8 => some W8)) else bdc (f_X10_minutes (pk (W4 22) (W4 27)) (0 : Int32)) (fun S7 => bnd (setQ W4 22 S7) (fun W6 => some W6)))))
theorem e_X10_readRun {G : GT} {f0 : Nat} {b c : Nat} {M : MM} {hi k n : Nat} {W : Nat → Nat → Int32} {r : (Nat → Nat → Int32)} (hf0 : 11 ≤ f0) (hc2 : 619 ≤ c) (h : f_X10_readRun W = some r) : Ex G f0 mX10_readRun [.ref (b + 609)] (MEM b c W M) hi k n (RH (.inl none) (MEM b c r M) hi) := by
  obtain ⟨f, rfl, hf⟩ := suc_of hf0
  unfold f_X10_readRun at h
  refine ⟨Nat.le_of_ble_eq_true rfl, ?_⟩
  refine V_aload_n (i := 0) dX10_readRun_0 rfl rfl ?_
  refine D_cVU (As := []) (μ := fun W1 => (MEM b c W1 M)) h dX10_readRun_1 cv_X10_204 rfl ⟨_, _, _, (mem_30 hc2), rfl, rfl⟩ rfl (Nat.le_of_ble_eq_true rfl) (fun y hx => e_X10_next (Nat.le_trans (Nat.le_of_ble_eq_true rfl) hf) hc2 hx) fun W1 h => ?_
  refine V_aload_n (i := 0) dX10_readRun_4 rfl rfl ?_
  refine V_iconst (v := 0) dX10_readRun_5 (by decide) ?_
  refine V_bipush (v := 60) dX10_readRun_6 (by decide) ?_
  refine D_cVIW (As := [_, _]) (μ := fun W2 => (MEM b c W2 M)) h dX10_readRun_8 cv_X10_222 rfl ⟨_, _, _, (mem_30 hc2), rfl, rfl⟩ rfl (Nat.le_of_ble_eq_true rfl) (fun x y hx => e_X10_number (Nat.le_trans (Nat.le_of_ble_eq_true rfl) hf) hc2 hx) fun v3 W2 h => ?_
  refine V_istore_n (i := 1) dX10_readRun_11 rfl (Nat.le_of_ble_eq_true rfl) ?_
  refine V_aload_n (i := 0) dX10_readRun_12 rfl rfl ?_
  refine D_cVU (As := []) (μ := fun W4 => (MEM b c W4 M)) h dX10_readRun_13 cv_X10_216 rfl ⟨_, _, _, (mem_30 hc2), rfl, rfl⟩ rfl (Nat.le_of_ble_eq_true rfl) (fun y hx => e_X10_finish (Nat.le_trans (Nat.le_of_ble_eq_true rfl) hf) hc2 hx) fun W4 h => ?_
  refine V_aload_n (i := 0) dX10_readRun_16 rfl rfl ?_
  refine V_aload_n (i := 0) dX10_readRun_17 rfl rfl ?_
  refine V_getfield dX10_readRun_18 (mem_30 hc2) fl_X10_13 rfl ?_
  refine V_aload_n (i := 0) dX10_readRun_21 rfl rfl ?_
  refine V_getfield dX10_readRun_22 (mem_30 hc2) fl_X10_176 rfl ?_
  refine D_if_ne (tgt := 32) h dX10_readRun_25 rfl (fun b5 h => ?_) (fun b5 h => ?_)
  · refine V_iconst (v := 0) dX10_readRun_32 (by decide) ?_
    refine D_cVU (As := [_, _]) (μ := fun S7 => (MEM b c (setQ W4 22 S7) M)) h dX10_readRun_33 cv_X10_230 rfl ⟨_, _, _, (mem_30 hc2), rfl, rfl⟩ rfl (Nat.le_of_ble_eq_true rfl) (fun y hx => liftq1 (u := 22) hc2 ⟨by decide, by decide⟩ rfl (e_X10_minutes (Nat.le_trans (Nat.le_of_ble_eq_true rfl) hf) (RQ_m (u := 22) hc2 ⟨by decide, by decide⟩) hx)) fun S7 h => ?_
    refine D3_gen (μ := fun W => (MEM b c W M)) h fun W6 h => ?_
    obtain rfl := Option.some.inj h
    exact V_return dX10_readRun_36 rfl ⟨rfl, rfl, rfl⟩
  · refine V_iload_n (i := 1) dX10_readRun_28 rfl rfl ?_
    refine V_goto (tgt := 33) dX10_readRun_29 rfl ?_
    refine D_cVU (As := [_, _]) (μ := fun S9 => (MEM b c (setQ W4 22 S9) M)) h dX10_readRun_33 cv_X10_230 rfl ⟨_, _, _, (mem_30 hc2), rfl, rfl⟩ rfl (Nat.le_of_ble_eq_true rfl) (fun y hx => liftq1 (u := 22) hc2 ⟨by decide, by decide⟩ rfl (e_X10_minutes (Nat.le_trans (Nat.le_of_ble_eq_true rfl) hf) (RQ_m (u := 22) hc2 ⟨by decide, by decide⟩) hx)) fun S9 h => ?_
    refine D3_gen (μ := fun W => (MEM b c W M)) h fun W8 h => ?_
    obtain rfl := Option.some.inj h
    exact V_return dX10_readRun_36 rfl ⟨rfl, rfl, rfl⟩
noncomputable def f_X10_readStatement (W : Nat → Nat → Int32) : Option (Nat → Nat → Int32) :=
  bdc (f_X10_is W 1) (fun v1 => jn (bdc (f_X10_is W 2) (fun v26 => if v26 = 0 then bdc (f_X10_readStation W (0 : Int32)) (fun W28 => some W28) else bdc (f_X10_readStation W (1 : Int32)) (fun W29 => some W29))) (fun j2 => if v1 = 0 then bdc (f_X10_is W 2) (fun v4 => if v4 = 0 then bdc (f_X10_is W 3) (fun v6 => if v6 = 0 then bdc (f_X10_is W 4) (fun v8 => if v8 = 0 then bdc (f_X10_is W 5) (fun v10 => if v10 = 0 then bdc (f_X10_is W 6) (fun v12 => if v12 = 0 then bdc (f_X10_is W 7) (fun v14 => if v14 = 0 then bdc (f_X10_is W 8) (fun v16 => if v16 = 0 then bd2 (f_X10_check W (0 : Int32) (1 : Int32)) (fun v19 W18 => some W18) else bdc (f_X10_readRun W) (fun W20 => some W20)) else bdc (f_X10_readClose W) (fun W21 => some W21)) else bdc (f_X10_readInspect W) (fun W22 => some W22)) else bdc (f_X10_readParcel W) (fun W23 => some W23)) else bdc (f_X10_readTrain W) (fun W24 => some W24)) else bdc (f_X10_readTrack W) (fun W25 => some W25)) else j2) else j2))
theorem e_X10_readStatement {G : GT} {f0 : Nat} {b c : Nat} {M : MM} {hi k n : Nat} {W : Nat → Nat → Int32} {r : (Nat → Nat → Int32)} (hf0 : 12 ≤ f0) (hc2 : 619 ≤ c) (h : f_X10_readStatement W = some r) : Ex G f0 mX10_readStatement [.ref (b + 609)] (MEM b c W M) hi k n (RH (.inl none) (MEM b c r M) hi) := by
  obtain ⟨f, rfl, hf⟩ := suc_of hf0
  unfold f_X10_readStatement at h
  refine ⟨Nat.le_of_ble_eq_true rfl, ?_⟩
  refine V_aload_n (i := 0) dX10_readStatement_0 rfl rfl ?_
  refine V_ldcS (j := 1) dX10_readStatement_1 (by decide +kernel) ?_
  refine D_cVI (As := [_]) h dX10_readStatement_3 cv_X10_235 rfl ⟨_, _, _, (mem_30 hc2), rfl, rfl⟩ rfl (Nat.le_of_ble_eq_true rfl) (fun x hx => e_X10_is (Nat.le_trans (Nat.le_of_ble_eq_true rfl) hf) hc2 (by decide) hx) fun v1 h => ?_
  refine D_jn (fun (j : Option (Nat → Nat → Int32)) =>  j = some r → V G f (Ex G f) mX10_readStatement (RH (.inl none) (MEM b c r M) hi) 18 [(0, .ref (b + 609))] [] (MEM b c W M) hi k n) h (fun j2 hj2 h => ?_) ?_
  · refine D_if_ne (tgt := 18) h dX10_readStatement_6 rfl (fun b3 h => ?_) (fun b3 h => ?_)
    · exact V_sub (ks := [0]) rfl (hj2 h)
    · refine V_aload_n (i := 0) dX10_readStatement_9 rfl rfl ?_
      refine V_ldcS (j := 2) dX10_readStatement_10 (by decide +kernel) ?_
      refine D_cVI (As := [_]) h dX10_readStatement_12 cv_X10_235 rfl ⟨_, _, _, (mem_30 hc2), rfl, rfl⟩ rfl (Nat.le_of_ble_eq_true rfl) (fun x hx => e_X10_is (Nat.le_trans (Nat.le_of_ble_eq_true rfl) hf) hc2 (by decide) hx) fun v4 h => ?_
      refine D_if_eq (tgt := 39) h dX10_readStatement_15 rfl (fun b5 h => ?_) (fun b5 h => ?_)
      · refine V_aload_n (i := 0) dX10_readStatement_39 rfl rfl ?_
        refine V_ldcS (j := 3) dX10_readStatement_40 (by decide +kernel) ?_
        refine D_cVI (As := [_]) h dX10_readStatement_42 cv_X10_235 rfl ⟨_, _, _, (mem_30 hc2), rfl, rfl⟩ rfl (Nat.le_of_ble_eq_true rfl) (fun x hx => e_X10_is (Nat.le_trans (Nat.le_of_ble_eq_true rfl) hf) hc2 (by decide) hx) fun v6 h => ?_
        refine D_if_eq (tgt := 55) h dX10_readStatement_45 rfl (fun b7 h => ?_) (fun b7 h => ?_)
        · refine V_aload_n (i := 0) dX10_readStatement_55 rfl rfl ?_
          refine V_ldcS (j := 4) dX10_readStatement_56 (by decide +kernel) ?_
          refine D_cVI (As := [_]) h dX10_readStatement_58 cv_X10_235 rfl ⟨_, _, _, (mem_30 hc2), rfl, rfl⟩ rfl (Nat.le_of_ble_eq_true rfl) (fun x hx => e_X10_is (Nat.le_trans (Nat.le_of_ble_eq_true rfl) hf) hc2 (by decide) hx) fun v8 h => ?_
          refine D_if_eq (tgt := 71) h dX10_readStatement_61 rfl (fun b9 h => ?_) (fun b9 h => ?_)
          · refine V_aload_n (i := 0) dX10_readStatement_71 rfl rfl ?_
            refine V_ldcS (j := 5) dX10_readStatement_72 (by decide +kernel) ?_
            refine D_cVI (As := [_]) h dX10_readStatement_74 cv_X10_235 rfl ⟨_, _, _, (mem_30 hc2), rfl, rfl⟩ rfl (Nat.le_of_ble_eq_true rfl) (fun x hx => e_X10_is (Nat.le_trans (Nat.le_of_ble_eq_true rfl) hf) hc2 (by decide) hx) fun v10 h => ?_
            refine D_if_eq (tgt := 87) h dX10_readStatement_77 rfl (fun b11 h => ?_) (fun b11 h => ?_)
            · refine V_aload_n (i := 0) dX10_readStatement_87 rfl rfl ?_
              refine V_ldcSW (j := 6) dX10_readStatement_88 (by decide +kernel) ?_
              refine D_cVI (As := [_]) h dX10_readStatement_91 cv_X10_235 rfl ⟨_, _, _, (mem_30 hc2), rfl, rfl⟩ rfl (Nat.le_of_ble_eq_true rfl) (fun x hx => e_X10_is (Nat.le_trans (Nat.le_of_ble_eq_true rfl) hf) hc2 (by decide) hx) fun v12 h => ?_
              refine D_if_eq (tgt := 104) h dX10_readStatement_94 rfl (fun b13 h => ?_) (fun b13 h => ?_)
              · refine V_aload_n (i := 0) dX10_readStatement_104 rfl rfl ?_
                refine V_ldcSW (j := 7) dX10_readStatement_105 (by decide +kernel) ?_
                refine D_cVI (As := [_]) h dX10_readStatement_108 cv_X10_235 rfl ⟨_, _, _, (mem_30 hc2), rfl, rfl⟩ rfl (Nat.le_of_ble_eq_true rfl) (fun x hx => e_X10_is (Nat.le_trans (Nat.le_of_ble_eq_true rfl) hf) hc2 (by decide) hx) fun v14 h => ?_
                refine D_if_eq (tgt := 121) h dX10_readStatement_111 rfl (fun b15 h => ?_) (fun b15 h => ?_)
                · refine V_aload_n (i := 0) dX10_readStatement_121 rfl rfl ?_
                  refine V_ldcSW (j := 8) dX10_readStatement_122 (by decide +kernel) ?_
                  refine D_cVI (As := [_]) h dX10_readStatement_125 cv_X10_235 rfl ⟨_, _, _, (mem_30 hc2), rfl, rfl⟩ rfl (Nat.le_of_ble_eq_true rfl) (fun x hx => e_X10_is (Nat.le_trans (Nat.le_of_ble_eq_true rfl) hf) hc2 (by decide) hx) fun v16 h => ?_
                  refine D_if_eq (tgt := 138) h dX10_readStatement_128 rfl (fun b17 h => ?_) (fun b17 h => ?_)
                  · refine V_aload_n (i := 0) dX10_readStatement_138 rfl rfl ?_
                    refine V_iconst (v := 0) dX10_readStatement_139 (by decide) ?_
                    refine V_iconst (v := 1) dX10_readStatement_140 (by decide) ?_
                    refine D_cVIW (As := [_, _]) (μ := fun W18 => (MEM b c W18 M)) h dX10_readStatement_141 cv_X10_201 rfl ⟨_, _, _, (mem_30 hc2), rfl, rfl⟩ rfl (Nat.le_of_ble_eq_true rfl) (fun x y hx => e_X10_check (Nat.le_trans (Nat.le_of_ble_eq_true rfl) hf) hc2 hx) fun v19 W18 h => ?_
                    refine V_pop dX10_readStatement_144 rfl ?_
                    obtain rfl := Option.some.inj h
                    exact V_return dX10_readStatement_145 rfl ⟨rfl, rfl, rfl⟩
                  · refine V_aload_n (i := 0) dX10_readStatement_131 rfl rfl ?_
                    refine D_cVU (As := []) (μ := fun W20 => (MEM b c W20 M)) h dX10_readStatement_132 cv_X10_271 rfl ⟨_, _, _, (mem_30 hc2), rfl, rfl⟩ rfl (Nat.le_of_ble_eq_true rfl) (fun y hx => e_X10_readRun (Nat.le_trans (Nat.le_of_ble_eq_true rfl) hf) hc2 hx) fun W20 h => ?_
                    refine V_goto (tgt := 145) dX10_readStatement_135 rfl ?_
                    obtain rfl := Option.some.inj h
                    exact V_return dX10_readStatement_145 rfl ⟨rfl, rfl, rfl⟩
                · refine V_aload_n (i := 0) dX10_readStatement_114 rfl rfl ?_
                  refine D_cVU (As := []) (μ := fun W21 => (MEM b c W21 M)) h dX10_readStatement_115 cv_X10_266 rfl ⟨_, _, _, (mem_30 hc2), rfl, rfl⟩ rfl (Nat.le_of_ble_eq_true rfl) (fun y hx => e_X10_readClose (Nat.le_trans (Nat.le_of_ble_eq_true rfl) hf) hc2 hx) fun W21 h => ?_
                  refine V_goto (tgt := 145) dX10_readStatement_118 rfl ?_
                  obtain rfl := Option.some.inj h
                  exact V_return dX10_readStatement_145 rfl ⟨rfl, rfl, rfl⟩
              · refine V_aload_n (i := 0) dX10_readStatement_97 rfl rfl ?_
                refine D_cVU (As := []) (μ := fun W22 => (MEM b c W22 M)) h dX10_readStatement_98 cv_X10_261 rfl ⟨_, _, _, (mem_30 hc2), rfl, rfl⟩ rfl (Nat.le_of_ble_eq_true rfl) (fun y hx => e_X10_readInspect (Nat.le_trans (Nat.le_of_ble_eq_true rfl) hf) hc2 hx) fun W22 h => ?_
                refine V_goto (tgt := 145) dX10_readStatement_101 rfl ?_
                obtain rfl := Option.some.inj h
                exact V_return dX10_readStatement_145 rfl ⟨rfl, rfl, rfl⟩
            · refine V_aload_n (i := 0) dX10_readStatement_80 rfl rfl ?_
              refine D_cVU (As := []) (μ := fun W23 => (MEM b c W23 M)) h dX10_readStatement_81 cv_X10_256 rfl ⟨_, _, _, (mem_30 hc2), rfl, rfl⟩ rfl (Nat.le_of_ble_eq_true rfl) (fun y hx => e_X10_readParcel (Nat.le_trans (Nat.le_of_ble_eq_true rfl) hf) hc2 hx) fun W23 h => ?_
              refine V_goto (tgt := 145) dX10_readStatement_84 rfl ?_
              obtain rfl := Option.some.inj h
              exact V_return dX10_readStatement_145 rfl ⟨rfl, rfl, rfl⟩
          · refine V_aload_n (i := 0) dX10_readStatement_64 rfl rfl ?_
            refine D_cVU (As := []) (μ := fun W24 => (MEM b c W24 M)) h dX10_readStatement_65 cv_X10_251 rfl ⟨_, _, _, (mem_30 hc2), rfl, rfl⟩ rfl (Nat.le_of_ble_eq_true rfl) (fun y hx => e_X10_readTrain (Nat.le_trans (Nat.le_of_ble_eq_true rfl) hf) hc2 hx) fun W24 h => ?_
            refine V_goto (tgt := 145) dX10_readStatement_68 rfl ?_
            obtain rfl := Option.some.inj h
            exact V_return dX10_readStatement_145 rfl ⟨rfl, rfl, rfl⟩
        · refine V_aload_n (i := 0) dX10_readStatement_48 rfl rfl ?_
          refine D_cVU (As := []) (μ := fun W25 => (MEM b c W25 M)) h dX10_readStatement_49 cv_X10_246 rfl ⟨_, _, _, (mem_30 hc2), rfl, rfl⟩ rfl (Nat.le_of_ble_eq_true rfl) (fun y hx => e_X10_readTrack (Nat.le_trans (Nat.le_of_ble_eq_true rfl) hf) hc2 hx) fun W25 h => ?_
          refine V_goto (tgt := 145) dX10_readStatement_52 rfl ?_
          obtain rfl := Option.some.inj h
          exact V_return dX10_readStatement_145 rfl ⟨rfl, rfl, rfl⟩
      · exact V_sub (ks := [0]) rfl (hj2 h)
  · intro  h
    refine V_aload_n (i := 0) dX10_readStatement_18 rfl rfl ?_
    refine V_aload_n (i := 0) dX10_readStatement_19 rfl rfl ?_
    refine V_ldcS (j := 2) dX10_readStatement_20 (by decide +kernel) ?_
    refine D_cVI (As := [_]) h dX10_readStatement_22 cv_X10_235 rfl ⟨_, _, _, (mem_30 hc2), rfl, rfl⟩ rfl (Nat.le_of_ble_eq_true rfl) (fun x hx => e_X10_is (Nat.le_trans (Nat.le_of_ble_eq_true rfl) hf) hc2 (by decide) hx) fun v26 h => ?_
    refine D_if_eq (tgt := 32) h dX10_readStatement_25 rfl (fun b27 h => ?_) (fun b27 h => ?_)
    · refine V_iconst (v := 0) dX10_readStatement_32 (by decide) ?_
      refine D_cVU (As := [_]) (μ := fun W28 => (MEM b c W28 M)) h dX10_readStatement_33 cv_X10_241 rfl ⟨_, _, _, (mem_30 hc2), rfl, rfl⟩ rfl (Nat.le_of_ble_eq_true rfl) (fun y hx => e_X10_readStation (Nat.le_trans (Nat.le_of_ble_eq_true rfl) hf) hc2 hx) fun W28 h => ?_
      refine V_goto (tgt := 145) dX10_readStatement_36 rfl ?_
      obtain rfl := Option.some.inj h
      exact V_return dX10_readStatement_145 rfl ⟨rfl, rfl, rfl⟩
    · refine V_iconst (v := 1) dX10_readStatement_28 (by decide) ?_
      refine V_goto (tgt := 33) dX10_readStatement_29 rfl ?_
      refine D_cVU (As := [_]) (μ := fun W29 => (MEM b c W29 M)) h dX10_readStatement_33 cv_X10_241 rfl ⟨_, _, _, (mem_30 hc2), rfl, rfl⟩ rfl (Nat.le_of_ble_eq_true rfl) (fun y hx => e_X10_readStation (Nat.le_trans (Nat.le_of_ble_eq_true rfl) hf) hc2 hx) fun W29 h => ?_
      refine V_goto (tgt := 145) dX10_readStatement_36 rfl ?_
      obtain rfl := Option.some.inj h
      exact V_return dX10_readStatement_145 rfl ⟨rfl, rfl, rfl⟩
noncomputable def l_X10_read_17 (K37 : (Nat → Nat → Int32) → Option (Nat → Nat → Int32)) : Nat → (Nat → Nat → Int32) → Int32 → Option (Nat → Nat → Int32)
  | 0, _, _ => none
  | N + 1, W, x1 => if (251 : Int32) ≤ x1 then K37 W else gd (inr x1 251) (bnd (w2 W 22 (ix x1) (0 : Int32)) (fun W5 => l_X10_read_17 K37 N W5 (x1 + (1 : Int32))))
theorem lv_X10_read_17 {G : GT} {f : Nat} {b c : Nat} {M : MM} {hi k n : Nat} {K37 : (Nat → Nat → Int32) → Option (Nat → Nat → Int32)} {r : (Nat → Nat → Int32)} (hf : 12 ≤ f) (hc2 : 619 ≤ c) (hK37 : ∀ (Wk : Nat → Nat → Int32), K37 Wk = some r → V G f (Ex G f) mX10_read (RH (.inl none) (MEM b c r M) hi) 37 [(0, .ref (b + 609))] [] (MEM b c Wk M) hi k n) : ∀ (N : Nat) (W : Nat → Nat → Int32) (x1 : Int32) , l_X10_read_17 K37 N W x1 = some r → V G f (Ex G f) mX10_read (RH (.inl none) (MEM b c r M) hi) 17 [(0, .ref (b + 609)), (1, .int x1)] [] (MEM b c W M) hi k n := by
  intro N
  induction N with
  | zero => intro W x1 h; cases h
  | succ N ih =>
    intro W x1 h
    rw [l_X10_read_17] at h
    refine V_iload_n (i := 1) dX10_read_17 rfl rfl ?_
    refine V_sipush (v := 251) dX10_read_18 (by decide) ?_
    refine D_icmp_ge (tgt := 37) h dX10_read_21 rfl (fun b4 h => ?_) (fun b4 h => ?_)
    · exact V_sub (ks := [0]) rfl (hK37 _ h)
    · refine V_aload_n (i := 0) dX10_read_24 rfl rfl ?_
      refine V_getfield dX10_read_25 (mem_30 hc2) fl_X10_13 rfl ?_
      refine V_iload_n (i := 1) dX10_read_28 rfl rfl ?_
      refine V_iconst (v := 0) dX10_read_29 (by decide) ?_
      refine D3_ist (u := 22) h (mem_22 hc2) (pst_22 hc2) dX10_read_30 fun W5 h => ?_
      refine D_iinc (i := 1) (w := 1) dX10_read_31 rfl (by decide) (Nat.le_of_ble_eq_true rfl) ?_
      refine V_goto (tgt := 17) dX10_read_34 rfl ?_
      exact V_sub (ks := [1, 0]) rfl (ih _ _ h)
noncomputable def l_X10_read_41  : Nat → (Nat → Nat → Int32) → Option (Nat → Nat → Int32)
  | 0, _ => none
  | N + 1, W => if (W 30 9) = 0 then if (W 30 6) = 0 then some W else bdc (f_X10_readStatement W) (fun W10 => l_X10_read_41 N W10) else some W
theorem lv_X10_read_41 {G : GT} {f : Nat} {b c : Nat} {M : MM} {hi k n : Nat}  {r : (Nat → Nat → Int32)} (hf : 12 ≤ f) (hc2 : 619 ≤ c) : ∀ (N : Nat) (W : Nat → Nat → Int32) , l_X10_read_41 N W = some r → V G f (Ex G f) mX10_read (RH (.inl none) (MEM b c r M) hi) 41 [(0, .ref (b + 609))] [] (MEM b c W M) hi k n := by
  intro N
  induction N with
  | zero => intro W h; cases h
  | succ N ih =>
    intro W h
    rw [l_X10_read_41] at h
    refine V_aload_n (i := 0) dX10_read_41 rfl rfl ?_
    refine V_getfield dX10_read_42 (mem_30 hc2) fl_X10_176 rfl ?_
    refine D_if_ne (tgt := 62) h dX10_read_45 rfl (fun b8 h => ?_) (fun b8 h => ?_)
    · obtain rfl := Option.some.inj h
      exact V_return dX10_read_62 rfl ⟨rfl, rfl, rfl⟩
    · refine V_aload_n (i := 0) dX10_read_48 rfl rfl ?_
      refine V_getfield dX10_read_49 (mem_30 hc2) fl_X10_194 rfl ?_
      refine D_if_eq (tgt := 62) h dX10_read_52 rfl (fun b9 h => ?_) (fun b9 h => ?_)
      · obtain rfl := Option.some.inj h
        exact V_return dX10_read_62 rfl ⟨rfl, rfl, rfl⟩
      · refine V_aload_n (i := 0) dX10_read_55 rfl rfl ?_
        refine D_cVU (As := []) (μ := fun W10 => (MEM b c W10 M)) h dX10_read_56 cv_X10_274 rfl ⟨_, _, _, (mem_30 hc2), rfl, rfl⟩ rfl (Nat.le_of_ble_eq_true rfl) (fun y hx => e_X10_readStatement (Nat.le_trans (Nat.le_of_ble_eq_true rfl) hf) hc2 hx) fun W10 h => ?_
        refine V_goto (tgt := 41) dX10_read_59 rfl ?_
        exact V_sub (ks := [0]) rfl (ih _ h)
noncomputable def f_X10_read (W : Nat → Nat → Int32) : Option (Nat → Nat → Int32) :=
  bnd (w2 W 30 9 (0 : Int32)) (fun W1 => bnd (w2 W1 30 10 (-1 : Int32)) (fun W2 => bnd (w2 W2 30 4 (0 : Int32)) (fun W3 => l_X10_read_17 (fun (x6 : Nat → Nat → Int32) => bdc (f_X10_advance x6) (fun W7 => l_X10_read_41 FU W7)) FU W3 (0 : Int32))))
theorem e_X10_read {G : GT} {f0 : Nat} {b c : Nat} {M : MM} {hi k n : Nat} {W : Nat → Nat → Int32} {r : (Nat → Nat → Int32)} (hf0 : 13 ≤ f0) (hc2 : 619 ≤ c) (h : f_X10_read W = some r) : Ex G f0 mX10_read [.ref (b + 609)] (MEM b c W M) hi k n (RH (.inl none) (MEM b c r M) hi) := by
  obtain ⟨f, rfl, hf⟩ := suc_of hf0
  unfold f_X10_read at h
  refine ⟨Nat.le_of_ble_eq_true rfl, ?_⟩
  refine V_aload_n (i := 0) dX10_read_0 rfl rfl ?_
  refine V_iconst (v := 0) dX10_read_1 (by decide) ?_
  refine D3_put h dX10_read_2 (mem_30 hc2) (fp_X10_176 rfl) (Nat.le_of_ble_eq_true rfl) (psc_30_9 hc2) fun W1 h => ?_
  refine V_aload_n (i := 0) dX10_read_5 rfl rfl ?_
  refine V_iconst (v := -1) dX10_read_6 (by decide) ?_
  refine D3_put h dX10_read_7 (mem_30 hc2) (fp_X10_35 rfl) (Nat.le_of_ble_eq_true rfl) (psc_30_10 hc2) fun W2 h => ?_
  refine V_aload_n (i := 0) dX10_read_10 rfl rfl ?_
  refine V_iconst (v := 0) dX10_read_11 (by decide) ?_
  refine D3_put h dX10_read_12 (mem_30 hc2) (fp_X10_179 rfl) (Nat.le_of_ble_eq_true rfl) (psc_30_4 hc2) fun W3 h => ?_
  refine V_iconst (v := 0) dX10_read_15 (by decide) ?_
  refine V_istore_n (i := 1) dX10_read_16 rfl (Nat.le_of_ble_eq_true rfl) ?_
  refine V_sub (ks := [1, 0]) rfl (lv_X10_read_17 hf hc2 ?_ FU _ _ h)
  · intro x6 h
    refine V_aload_n (i := 0) dX10_read_37 rfl rfl ?_
    refine D_cVU (As := []) (μ := fun W7 => (MEM b c W7 M)) h dX10_read_38 cv_X10_198 rfl ⟨_, _, _, (mem_30 hc2), rfl, rfl⟩ rfl (Nat.le_of_ble_eq_true rfl) (fun y hx => e_X10_advance (Nat.le_trans (Nat.le_of_ble_eq_true rfl) hf) hc2 hx) fun W7 h => ?_
    refine V_sub (ks := [0]) rfl (lv_X10_read_41 hf hc2 FU _ h)
noncomputable def f_X10_load (W : Nat → Nat → Int32) : Option (Int32 × (Nat → Nat → Int32)) :=
  bnd (w2 W 30 2 (0 : Int32)) (fun W1 => bdc (f_X10_read W1) (fun W2 => bnd (w2 W2 30 3 (0 : Int32)) (fun W3 => jn (fun (v5 : Int32) => bd2 (f_X10_refuses W3 v5 (1 : Int32)) (fun v8 W7 => if v8 = 0 then bdc (f_X10_remember W7) (fun W10 => bdc (f_X10_copyRow W10 22 (0 : Int32) 21 (0 : Int32)) (fun W11 => gd (inr (1 : Int32) 251) (some (W11 21 (ix (1 : Int32)), W11)))) else some ((0 : Int32), W7))) (fun j4 => if (W3 30 9) = 0 then j4 (0 : Int32) else j4 (1 : Int32)))))
theorem e_X10_load {G : GT} {f0 : Nat} {b c : Nat} {M : MM} {hi k n : Nat} {W : Nat → Nat → Int32} {r : (Int32 × (Nat → Nat → Int32))} (hf0 : 14 ≤ f0) (hc2 : 619 ≤ c) (h : f_X10_load W = some r) : Ex G f0 mX10_load [.ref (b + 609)] (MEM b c W M) hi k n (RH (.inl (some (.int r.1))) (MEM b c r.2 M) hi) := by
  obtain ⟨f, rfl, hf⟩ := suc_of hf0
  unfold f_X10_load at h
  refine ⟨Nat.le_of_ble_eq_true rfl, ?_⟩
  refine V_aload_n (i := 0) dX10_load_0 rfl rfl ?_
  refine V_iconst (v := 0) dX10_load_1 (by decide) ?_
  refine D3_put h dX10_load_2 (mem_30 hc2) (fp_X10_69 rfl) (Nat.le_of_ble_eq_true rfl) (psc_30_2 hc2) fun W1 h => ?_
  refine V_aload_n (i := 0) dX10_load_5 rfl rfl ?_
  refine D_cVU (As := []) (μ := fun W2 => (MEM b c W2 M)) h dX10_load_6 cv_X10_49 rfl ⟨_, _, _, (mem_30 hc2), rfl, rfl⟩ rfl (Nat.le_of_ble_eq_true rfl) (fun y hx => e_X10_read (Nat.le_trans (Nat.le_of_ble_eq_true rfl) hf) hc2 hx) fun W2 h => ?_
  refine V_aload_n (i := 0) dX10_load_9 rfl rfl ?_
  refine V_iconst (v := 0) dX10_load_10 (by decide) ?_
  refine D3_put h dX10_load_11 (mem_30 hc2) (fp_X10_52 rfl) (Nat.le_of_ble_eq_true rfl) (psc_30_3 hc2) fun W3 h => ?_
  refine V_aload_n (i := 0) dX10_load_14 rfl rfl ?_
  refine V_aload_n (i := 0) dX10_load_15 rfl rfl ?_
  refine V_getfield dX10_load_16 (mem_30 hc2) fl_X10_176 rfl ?_
  refine D_jn (fun (j : Int32 → Option (Int32 × (Nat → Nat → Int32))) => ∀ (v5 : Int32), j v5 = some r → V G f (Ex G f) mX10_load (RH (.inl (some (.int r.1))) (MEM b c r.2 M) hi) 27 [(0, .ref (b + 609))] [.int v5, .ref (b + 609)] (MEM b c W3 M) hi k n) h (fun j4 hj4 h => ?_) ?_
  · refine D_if_eq (tgt := 26) h dX10_load_19 rfl (fun b6 h => ?_) (fun b6 h => ?_)
    · refine V_iconst (v := 0) dX10_load_26 (by decide) ?_
      exact V_sub (ks := [0]) rfl (hj4 _ h)
    · refine V_iconst (v := 1) dX10_load_22 (by decide) ?_
      refine V_goto (tgt := 27) dX10_load_23 rfl ?_
      exact V_sub (ks := [0]) rfl (hj4 _ h)
  · intro v5 h
    refine V_iconst (v := 1) dX10_load_27 (by decide) ?_
    refine D_cVIW (As := [_, _]) (μ := fun W7 => (MEM b c W7 M)) h dX10_load_28 cv_X10_165 rfl ⟨_, _, _, (mem_30 hc2), rfl, rfl⟩ rfl (Nat.le_of_ble_eq_true rfl) (fun x y hx => e_X10_refuses (Nat.le_trans (Nat.le_of_ble_eq_true rfl) hf) hc2 hx) fun v8 W7 h => ?_
    refine D_if_eq (tgt := 36) h dX10_load_31 rfl (fun b9 h => ?_) (fun b9 h => ?_)
    · refine V_aload_n (i := 0) dX10_load_36 rfl rfl ?_
      refine D_cVU (As := []) (μ := fun W10 => (MEM b c W10 M)) h dX10_load_37 cv_X10_277 rfl ⟨_, _, _, (mem_30 hc2), rfl, rfl⟩ rfl (Nat.le_of_ble_eq_true rfl) (fun y hx => e_X10_remember (Nat.le_trans (Nat.le_of_ble_eq_true rfl) hf) hc2 hx) fun W10 h => ?_
      refine V_aload_n (i := 0) dX10_load_40 rfl rfl ?_
      refine V_getfield dX10_load_41 (mem_30 hc2) fl_X10_13 rfl ?_
      refine V_iconst (v := 0) dX10_load_44 (by decide) ?_
      refine V_aload_n (i := 0) dX10_load_45 rfl rfl ?_
      refine V_getfield dX10_load_46 (mem_30 hc2) fl_X10_7 rfl ?_
      refine V_iconst (v := 0) dX10_load_49 (by decide) ?_
      refine D_cSU (As := [_, _, _, _]) (μ := fun W11 => (MEM b c W11 M)) h dX10_load_50 cs_X10_55 rfl rfl (Nat.le_of_ble_eq_true rfl) (fun y hx => e_X10_copyRow (u0 := 22) (u2 := 21) (Nat.le_trans (Nat.le_of_ble_eq_true rfl) hf) hc2 ⟨by decide, by decide⟩ ⟨by decide, by decide⟩ hx) fun W11 h => ?_
      refine V_aload_n (i := 0) dX10_load_53 rfl rfl ?_
      refine V_getfield dX10_load_54 (mem_30 hc2) fl_X10_7 rfl ?_
      refine V_iconst (v := 1) dX10_load_57 (by decide) ?_
      refine D3_ild h (mem_21 hc2) dX10_load_58 fun h => ?_
      obtain rfl := Option.some.inj h
      exact V_ireturn dX10_load_59 ⟨_, rfl, rfl⟩ ⟨rfl, rfl, rfl⟩
    · refine V_iconst (v := 0) dX10_load_34 (by decide) ?_
      obtain rfl := Option.some.inj h
      exact V_ireturn dX10_load_35 ⟨_, rfl, rfl⟩ ⟨rfl, rfl, rfl⟩
noncomputable def l_X10_loadingBalance_22 (W : Nat → Nat → Int32) : Nat → Int32 → Int32 → Option (Int32 × (Nat → Nat → Int32))
  | 0, _, _ => none
  | N + 1, x1, x2 => gd (inr (3 : Int32) 251) (if (W 21 (ix (3 : Int32))) ≤ x2 then some (x1, W) else bdc (f_X10_carried (pk (W 21) (W 27)) x2) (fun v4 => bnd (x1 - v4) (fun v5 => l_X10_loadingBalance_22 W N v5 (x2 + (1 : Int32)))))
theorem lv_X10_loadingBalance_22 {G : GT} {f : Nat} {b c : Nat} {M : MM} {hi k n : Nat} {W : Nat → Nat → Int32} {r : (Int32 × (Nat → Nat → Int32))} (hf : 2 ≤ f) (hc2 : 619 ≤ c) : ∀ (N : Nat) (x1 : Int32) (x2 : Int32) , l_X10_loadingBalance_22 W N x1 x2 = some r → V G f (Ex G f) mX10_loadingBalance (RH (.inl (some (.int r.1))) (MEM b c r.2 M) hi) 22 [(0, .ref (b + 609)), (1, .int x1), (2, .int x2)] [] (MEM b c W M) hi k n := by
  intro N
  induction N with
  | zero => intro x1 x2 h; cases h
  | succ N ih =>
    intro x1 x2 h
    rw [l_X10_loadingBalance_22] at h
    refine V_iload_n (i := 2) dX10_loadingBalance_22 rfl rfl ?_
    refine V_aload_n (i := 0) dX10_loadingBalance_23 rfl rfl ?_
    refine V_getfield dX10_loadingBalance_24 (mem_30 hc2) fl_X10_7 rfl ?_
    refine V_iconst (v := 3) dX10_loadingBalance_27 (by decide) ?_
    refine D3_ild h (mem_21 hc2) dX10_loadingBalance_28 fun h => ?_
    refine D_icmp_ge (tgt := 49) h dX10_loadingBalance_29 rfl (fun b3 h => ?_) (fun b3 h => ?_)
    · refine V_iload_n (i := 1) dX10_loadingBalance_49 rfl rfl ?_
      obtain rfl := Option.some.inj h
      exact V_ireturn dX10_loadingBalance_50 ⟨_, rfl, rfl⟩ ⟨rfl, rfl, rfl⟩
    · refine V_iload_n (i := 1) dX10_loadingBalance_32 rfl rfl ?_
      refine V_aload_n (i := 0) dX10_loadingBalance_33 rfl rfl ?_
      refine V_getfield dX10_loadingBalance_34 (mem_30 hc2) fl_X10_7 rfl ?_
      refine V_iload_n (i := 2) dX10_loadingBalance_37 rfl rfl ?_
      refine D_cSI (As := [_, _]) h dX10_loadingBalance_38 cs_X10_116 rfl rfl (Nat.le_of_ble_eq_true rfl) (fun x hx => liftq0 (u := 21) hc2 ⟨by decide, by decide⟩ rfl (e_X10_carried (Nat.le_trans (Nat.le_of_ble_eq_true rfl) hf) hx)) fun v4 h => ?_
      refine V_isub dX10_loadingBalance_41 ?_
      refine D_istore_n (i := 1) h dX10_loadingBalance_42 rfl (Nat.le_of_ble_eq_true rfl) fun v5 h => ?_
      refine D_iinc (i := 2) (w := 1) dX10_loadingBalance_43 rfl (by decide) (Nat.le_of_ble_eq_true rfl) ?_
      refine V_goto (tgt := 22) dX10_loadingBalance_46 rfl ?_
      exact V_sub (ks := [2, 1, 0]) rfl (ih _ _ h)
noncomputable def f_X10_loadingBalance (W : Nat → Nat → Int32) : Option (Int32 × (Nat → Nat → Int32)) :=
  bnd (w2 W 30 2 (0 : Int32)) (fun W1 => gd (inr (5 : Int32) 251) (gd (inr (6 : Int32) 251) (bnd ((W1 21 (ix (5 : Int32))) - (W1 21 (ix (6 : Int32)))) (fun v2 => l_X10_loadingBalance_22 W1 FU v2 (0 : Int32)))))
theorem e_X10_loadingBalance {G : GT} {f0 : Nat} {b c : Nat} {M : MM} {hi k n : Nat} {W : Nat → Nat → Int32} {r : (Int32 × (Nat → Nat → Int32))} (hf0 : 3 ≤ f0) (hc2 : 619 ≤ c) (h : f_X10_loadingBalance W = some r) : Ex G f0 mX10_loadingBalance [.ref (b + 609)] (MEM b c W M) hi k n (RH (.inl (some (.int r.1))) (MEM b c r.2 M) hi) := by
  obtain ⟨f, rfl, hf⟩ := suc_of hf0
  unfold f_X10_loadingBalance at h
  refine ⟨Nat.le_of_ble_eq_true rfl, ?_⟩
  refine V_aload_n (i := 0) dX10_loadingBalance_0 rfl rfl ?_
  refine V_iconst (v := 0) dX10_loadingBalance_1 (by decide) ?_
  refine D3_put h dX10_loadingBalance_2 (mem_30 hc2) (fp_X10_69 rfl) (Nat.le_of_ble_eq_true rfl) (psc_30_2 hc2) fun W1 h => ?_
  refine V_aload_n (i := 0) dX10_loadingBalance_5 rfl rfl ?_
  refine V_getfield dX10_loadingBalance_6 (mem_30 hc2) fl_X10_7 rfl ?_
  refine V_iconst (v := 5) dX10_loadingBalance_9 (by decide) ?_
  refine D3_ild h (mem_21 hc2) dX10_loadingBalance_10 fun h => ?_
  refine V_aload_n (i := 0) dX10_loadingBalance_11 rfl rfl ?_
  refine V_getfield dX10_loadingBalance_12 (mem_30 hc2) fl_X10_7 rfl ?_
  refine V_bipush (v := 6) dX10_loadingBalance_15 (by decide) ?_
  refine D3_ild h (mem_21 hc2) dX10_loadingBalance_17 fun h => ?_
  refine V_isub dX10_loadingBalance_18 ?_
  refine D_istore_n (i := 1) h dX10_loadingBalance_19 rfl (Nat.le_of_ble_eq_true rfl) fun v2 h => ?_
  refine V_iconst (v := 0) dX10_loadingBalance_20 (by decide) ?_
  refine V_istore_n (i := 2) dX10_loadingBalance_21 rfl (Nat.le_of_ble_eq_true rfl) ?_
  refine V_sub (ks := [2, 1, 0]) rfl (lv_X10_loadingBalance_22 hf hc2 FU _ _ h)
noncomputable def l_X10_loadingObstacle_94 (c1 : Int32) (c2 : Int32) (c3 : Int32) : Nat → (Nat → Nat → Int32) → Int32 → Int32 → Option (Int32 × (Nat → Nat → Int32))
  | 0, _, _, _ => none
  | N + 1, W, x4, x5 => gd (inr (4 : Int32) 251) (if (W 21 (ix (4 : Int32))) ≤ x5 then bdc (f_X10_ofTrain c1) (fun v20 => gd (inr (v20 + (0 : Int32)) 251) (if x4 < (W 21 (ix (v20 + (0 : Int32)))) then some ((0 : Int32), W) else some ((4 : Int32), W))) else bdc (f_X10_waitsAt (pk (W 21) (W 27)) x5 c3) (fun v22 => if v22 = 0 then bnd (x4 + (0 : Int32)) (fun v24 => l_X10_loadingObstacle_94 c1 c2 c3 N W v24 (x5 + (1 : Int32))) else bdc (f_X10_isAhead (pk (W 21) (W 27)) x5 c2) (fun v25 => if v25 = 0 then bnd (x4 + (0 : Int32)) (fun v27 => l_X10_loadingObstacle_94 c1 c2 c3 N W v27 (x5 + (1 : Int32))) else bd2 (f_X10_canLoad (pk (W 21) (W 27)) c1 x5) (fun v30 S29 => bnd (setQ W 21 S29) (fun W28 => if v30 = 0 then bnd (x4 + (0 : Int32)) (fun v32 => l_X10_loadingObstacle_94 c1 c2 c3 N W28 v32 (x5 + (1 : Int32))) else bnd (x4 + (1 : Int32)) (fun v33 => l_X10_loadingObstacle_94 c1 c2 c3 N W28 v33 (x5 + (1 : Int32))))))))
theorem lv_X10_loadingObstacle_94 {G : GT} {f : Nat} {b c : Nat} {M : MM} {hi k n : Nat} {c1 : Int32} {c2 : Int32} {c3 : Int32} {r : (Int32 × (Nat → Nat → Int32))} (hf : 5 ≤ f) (hc2 : 619 ≤ c) : ∀ (N : Nat) (W : Nat → Nat → Int32) (x4 : Int32) (x5 : Int32) , l_X10_loadingObstacle_94 c1 c2 c3 N W x4 x5 = some r → V G f (Ex G f) mX10_loadingObstacle (RH (.inl (some (.int r.1))) (MEM b c r.2 M) hi) 94 [(0, .ref (b + 609)), (1, .int c1), (2, .int c2), (3, .int c3), (4, .int x4), (5, .int x5)] [] (MEM b c W M) hi k n := by
  intro N
  induction N with
  | zero => intro W x4 x5 h; cases h
  | succ N ih =>
    intro W x4 x5 h
    rw [l_X10_loadingObstacle_94] at h
    refine V_iload (i := 5) dX10_loadingObstacle_94 rfl ?_
    refine V_aload_n (i := 0) dX10_loadingObstacle_96 rfl rfl ?_
    refine V_getfield dX10_loadingObstacle_97 (mem_30 hc2) fl_X10_7 rfl ?_
    refine V_iconst (v := 4) dX10_loadingObstacle_100 (by decide) ?_
    refine D3_ild h (mem_21 hc2) dX10_loadingObstacle_101 fun h => ?_
    refine D_icmp_ge (tgt := 161) h dX10_loadingObstacle_102 rfl (fun b19 h => ?_) (fun b19 h => ?_)
    · refine V_iload (i := 4) dX10_loadingObstacle_161 rfl ?_
      refine V_aload_n (i := 0) dX10_loadingObstacle_163 rfl rfl ?_
      refine V_getfield dX10_loadingObstacle_164 (mem_30 hc2) fl_X10_7 rfl ?_
      refine V_iload_n (i := 1) dX10_loadingObstacle_167 rfl rfl ?_
      refine D_cSI (As := [_]) h dX10_loadingObstacle_168 cs_X10_81 rfl rfl (Nat.le_of_ble_eq_true rfl) (fun x hx => e_X10_ofTrain (Nat.le_trans (Nat.le_of_ble_eq_true rfl) hf) hx) fun v20 h => ?_
      refine V_iconst (v := 0) dX10_loadingObstacle_171 (by decide) ?_
      refine V_iadd dX10_loadingObstacle_172 ?_
      refine D3_ild h (mem_21 hc2) dX10_loadingObstacle_173 fun h => ?_
      refine D_icmp_lt (tgt := 181) h dX10_loadingObstacle_174 rfl (fun b21 h => ?_) (fun b21 h => ?_)
      · refine V_iconst (v := 0) dX10_loadingObstacle_181 (by decide) ?_
        obtain rfl := Option.some.inj h
        exact V_ireturn dX10_loadingObstacle_182 ⟨_, rfl, rfl⟩ ⟨rfl, rfl, rfl⟩
      · refine V_iconst (v := 4) dX10_loadingObstacle_177 (by decide) ?_
        refine V_goto (tgt := 182) dX10_loadingObstacle_178 rfl ?_
        obtain rfl := Option.some.inj h
        exact V_ireturn dX10_loadingObstacle_182 ⟨_, rfl, rfl⟩ ⟨rfl, rfl, rfl⟩
    · refine V_iload (i := 4) dX10_loadingObstacle_105 rfl ?_
      refine V_aload_n (i := 0) dX10_loadingObstacle_107 rfl rfl ?_
      refine V_getfield dX10_loadingObstacle_108 (mem_30 hc2) fl_X10_7 rfl ?_
      refine V_iload (i := 5) dX10_loadingObstacle_111 rfl ?_
      refine V_iload_n (i := 3) dX10_loadingObstacle_113 rfl rfl ?_
      refine D_cSI (As := [_, _, _]) h dX10_loadingObstacle_114 cs_X10_102 rfl rfl (Nat.le_of_ble_eq_true rfl) (fun x hx => liftq0 (u := 21) hc2 ⟨by decide, by decide⟩ rfl (e_X10_waitsAt (Nat.le_trans (Nat.le_of_ble_eq_true rfl) hf) hx)) fun v22 h => ?_
      refine D_if_eq (tgt := 151) h dX10_loadingObstacle_117 rfl (fun b23 h => ?_) (fun b23 h => ?_)
      · refine V_iconst (v := 0) dX10_loadingObstacle_151 (by decide) ?_
        refine V_iadd dX10_loadingObstacle_152 ?_
        refine D_istore (i := 4) h dX10_loadingObstacle_153 (Nat.le_of_ble_eq_true rfl) fun v24 h => ?_
        refine D_iinc (i := 5) (w := 1) dX10_loadingObstacle_155 rfl (by decide) (Nat.le_of_ble_eq_true rfl) ?_
        refine V_goto (tgt := 94) dX10_loadingObstacle_158 rfl ?_
        exact V_sub (ks := [2, 3, 4, 5, 1, 0]) rfl (ih _ _ _ h)
      · refine V_aload_n (i := 0) dX10_loadingObstacle_120 rfl rfl ?_
        refine V_getfield dX10_loadingObstacle_121 (mem_30 hc2) fl_X10_7 rfl ?_
        refine V_iload (i := 5) dX10_loadingObstacle_124 rfl ?_
        refine V_iload_n (i := 2) dX10_loadingObstacle_126 rfl rfl ?_
        refine D_cSI (As := [_, _, _]) h dX10_loadingObstacle_127 cs_X10_106 rfl rfl (Nat.le_of_ble_eq_true rfl) (fun x hx => liftq0 (u := 21) hc2 ⟨by decide, by decide⟩ rfl (e_X10_isAhead (Nat.le_trans (Nat.le_of_ble_eq_true rfl) hf) hx)) fun v25 h => ?_
        refine D_if_eq (tgt := 151) h dX10_loadingObstacle_130 rfl (fun b26 h => ?_) (fun b26 h => ?_)
        · refine V_iconst (v := 0) dX10_loadingObstacle_151 (by decide) ?_
          refine V_iadd dX10_loadingObstacle_152 ?_
          refine D_istore (i := 4) h dX10_loadingObstacle_153 (Nat.le_of_ble_eq_true rfl) fun v27 h => ?_
          refine D_iinc (i := 5) (w := 1) dX10_loadingObstacle_155 rfl (by decide) (Nat.le_of_ble_eq_true rfl) ?_
          refine V_goto (tgt := 94) dX10_loadingObstacle_158 rfl ?_
          exact V_sub (ks := [2, 3, 4, 5, 1, 0]) rfl (ih _ _ _ h)
        · refine V_aload_n (i := 0) dX10_loadingObstacle_133 rfl rfl ?_
          refine V_aload_n (i := 0) dX10_loadingObstacle_134 rfl rfl ?_
          refine V_getfield dX10_loadingObstacle_135 (mem_30 hc2) fl_X10_7 rfl ?_
          refine V_iload_n (i := 1) dX10_loadingObstacle_138 rfl rfl ?_
          refine V_iload (i := 5) dX10_loadingObstacle_139 rfl ?_
          refine D_cVIW (As := [_, _, _]) (μ := fun S29 => (MEM b c (setQ W 21 S29) M)) h dX10_loadingObstacle_141 cv_X10_119 rfl ⟨_, _, _, (mem_30 hc2), rfl, rfl⟩ rfl (Nat.le_of_ble_eq_true rfl) (fun x y hx => liftq1 (u := 21) hc2 ⟨by decide, by decide⟩ rfl (e_X10_canLoad (Nat.le_trans (Nat.le_of_ble_eq_true rfl) hf) (RQ_m (u := 21) hc2 ⟨by decide, by decide⟩) hx)) fun v30 S29 h => ?_
          refine D3_gen (μ := fun W => (MEM b c W M)) h fun W28 h => ?_
          refine D_if_eq (tgt := 151) h dX10_loadingObstacle_144 rfl (fun b31 h => ?_) (fun b31 h => ?_)
          · refine V_iconst (v := 0) dX10_loadingObstacle_151 (by decide) ?_
            refine V_iadd dX10_loadingObstacle_152 ?_
            refine D_istore (i := 4) h dX10_loadingObstacle_153 (Nat.le_of_ble_eq_true rfl) fun v32 h => ?_
            refine D_iinc (i := 5) (w := 1) dX10_loadingObstacle_155 rfl (by decide) (Nat.le_of_ble_eq_true rfl) ?_
            refine V_goto (tgt := 94) dX10_loadingObstacle_158 rfl ?_
            exact V_sub (ks := [2, 3, 4, 5, 1, 0]) rfl (ih _ _ _ h)
          · refine V_iconst (v := 1) dX10_loadingObstacle_147 (by decide) ?_
            refine V_goto (tgt := 152) dX10_loadingObstacle_148 rfl ?_
            refine V_iadd dX10_loadingObstacle_152 ?_
            refine D_istore (i := 4) h dX10_loadingObstacle_153 (Nat.le_of_ble_eq_true rfl) fun v33 h => ?_
            refine D_iinc (i := 5) (w := 1) dX10_loadingObstacle_155 rfl (by decide) (Nat.le_of_ble_eq_true rfl) ?_
            refine V_goto (tgt := 94) dX10_loadingObstacle_158 rfl ?_
            exact V_sub (ks := [2, 3, 4, 5, 1, 0]) rfl (ih _ _ _ h)
noncomputable def f_X10_loadingObstacle (W : Nat → Nat → Int32) (a1 : Int32) (a2 : Int32) : Option (Int32 × (Nat → Nat → Int32)) :=
  bd2 (f_X10_noTrain W a1) (fun v2 W1 => if v2 = 0 then bd2 (f_X10_noParcel W1 a2) (fun v5 W4 => if v5 = 0 then bdc (f_X10_stationOf (pk (W4 21) (W4 27)) a1) (fun v7 => bdc (f_X10_stands (pk (W4 21) (W4 27)) a1) (fun v8 => if v8 = 0 then some ((1 : Int32), W4) else bdc (f_X10_waitsAt (pk (W4 21) (W4 27)) a2 v7) (fun v10 => if v10 = 0 then some ((1 : Int32), W4) else bdc (f_X10_isHeldNow (pk (W4 21) (W4 27)) a2) (fun v12 => if v12 = 0 then bd2 (f_X10_dropOf (pk (W4 21) (W4 27)) a1 a2) (fun v16 S15 => bnd (setQ W4 21 S15) (fun W14 => if v16 = (-1 : Int32) then some ((3 : Int32), W14) else bdc (f_X10_carried (pk (W14 21) (W14 27)) a1) (fun v18 => l_X10_loadingObstacle_94 a1 a2 v7 FU W14 v18 (0 : Int32)))) else some ((2 : Int32), W4))))) else some ((0 : Int32), W4)) else some ((0 : Int32), W1))
theorem e_X10_loadingObstacle {G : GT} {f0 : Nat} {b c : Nat} {M : MM} {hi k n : Nat} {W : Nat → Nat → Int32} {a1 : Int32} {a2 : Int32} {r : (Int32 × (Nat → Nat → Int32))} (hf0 : 6 ≤ f0) (hc2 : 619 ≤ c) (h : f_X10_loadingObstacle W a1 a2 = some r) : Ex G f0 mX10_loadingObstacle [.ref (b + 609), .int a1, .int a2] (MEM b c W M) hi k n (RH (.inl (some (.int r.1))) (MEM b c r.2 M) hi) := by
  obtain ⟨f, rfl, hf⟩ := suc_of hf0
  unfold f_X10_loadingObstacle at h
  refine ⟨Nat.le_of_ble_eq_true rfl, ?_⟩
  refine V_aload_n (i := 0) dX10_loadingObstacle_0 rfl rfl ?_
  refine V_iload_n (i := 1) dX10_loadingObstacle_1 rfl rfl ?_
  refine D_cVIW (As := [_]) (μ := fun W1 => (MEM b c W1 M)) h dX10_loadingObstacle_2 cv_X10_300 rfl ⟨_, _, _, (mem_30 hc2), rfl, rfl⟩ rfl (Nat.le_of_ble_eq_true rfl) (fun x y hx => e_X10_noTrain (Nat.le_trans (Nat.le_of_ble_eq_true rfl) hf) hc2 hx) fun v2 W1 h => ?_
  refine D_if_ne (tgt := 16) h dX10_loadingObstacle_5 rfl (fun b3 h => ?_) (fun b3 h => ?_)
  · refine V_iconst (v := 0) dX10_loadingObstacle_16 (by decide) ?_
    obtain rfl := Option.some.inj h
    exact V_ireturn dX10_loadingObstacle_17 ⟨_, rfl, rfl⟩ ⟨rfl, rfl, rfl⟩
  · refine V_aload_n (i := 0) dX10_loadingObstacle_8 rfl rfl ?_
    refine V_iload_n (i := 2) dX10_loadingObstacle_9 rfl rfl ?_
    refine D_cVIW (As := [_]) (μ := fun W4 => (MEM b c W4 M)) h dX10_loadingObstacle_10 cv_X10_303 rfl ⟨_, _, _, (mem_30 hc2), rfl, rfl⟩ rfl (Nat.le_of_ble_eq_true rfl) (fun x y hx => e_X10_noParcel (Nat.le_trans (Nat.le_of_ble_eq_true rfl) hf) hc2 hx) fun v5 W4 h => ?_
    refine D_if_eq (tgt := 18) h dX10_loadingObstacle_13 rfl (fun b6 h => ?_) (fun b6 h => ?_)
    · refine V_aload_n (i := 0) dX10_loadingObstacle_18 rfl rfl ?_
      refine V_getfield dX10_loadingObstacle_19 (mem_30 hc2) fl_X10_7 rfl ?_
      refine V_iload_n (i := 1) dX10_loadingObstacle_22 rfl rfl ?_
      refine D_cSI (As := [_, _]) h dX10_loadingObstacle_23 cs_X10_95 rfl rfl (Nat.le_of_ble_eq_true rfl) (fun x hx => liftq0 (u := 21) hc2 ⟨by decide, by decide⟩ rfl (e_X10_stationOf (Nat.le_trans (Nat.le_of_ble_eq_true rfl) hf) hx)) fun v7 h => ?_
      refine V_istore_n (i := 3) dX10_loadingObstacle_26 rfl (Nat.le_of_ble_eq_true rfl) ?_
      refine V_aload_n (i := 0) dX10_loadingObstacle_27 rfl rfl ?_
      refine V_getfield dX10_loadingObstacle_28 (mem_30 hc2) fl_X10_7 rfl ?_
      refine V_iload_n (i := 1) dX10_loadingObstacle_31 rfl rfl ?_
      refine D_cSI (As := [_, _]) h dX10_loadingObstacle_32 cs_X10_149 rfl rfl (Nat.le_of_ble_eq_true rfl) (fun x hx => liftq0 (u := 21) hc2 ⟨by decide, by decide⟩ rfl (e_X10_stands (Nat.le_trans (Nat.le_of_ble_eq_true rfl) hf) hx)) fun v8 h => ?_
      refine D_if_eq (tgt := 50) h dX10_loadingObstacle_35 rfl (fun b9 h => ?_) (fun b9 h => ?_)
      · refine V_iconst (v := 1) dX10_loadingObstacle_50 (by decide) ?_
        obtain rfl := Option.some.inj h
        exact V_ireturn dX10_loadingObstacle_51 ⟨_, rfl, rfl⟩ ⟨rfl, rfl, rfl⟩
      · refine V_aload_n (i := 0) dX10_loadingObstacle_38 rfl rfl ?_
        refine V_getfield dX10_loadingObstacle_39 (mem_30 hc2) fl_X10_7 rfl ?_
        refine V_iload_n (i := 2) dX10_loadingObstacle_42 rfl rfl ?_
        refine V_iload_n (i := 3) dX10_loadingObstacle_43 rfl rfl ?_
        refine D_cSI (As := [_, _, _]) h dX10_loadingObstacle_44 cs_X10_102 rfl rfl (Nat.le_of_ble_eq_true rfl) (fun x hx => liftq0 (u := 21) hc2 ⟨by decide, by decide⟩ rfl (e_X10_waitsAt (Nat.le_trans (Nat.le_of_ble_eq_true rfl) hf) hx)) fun v10 h => ?_
        refine D_if_ne (tgt := 52) h dX10_loadingObstacle_47 rfl (fun b11 h => ?_) (fun b11 h => ?_)
        · refine V_aload_n (i := 0) dX10_loadingObstacle_52 rfl rfl ?_
          refine V_getfield dX10_loadingObstacle_53 (mem_30 hc2) fl_X10_7 rfl ?_
          refine V_iload_n (i := 2) dX10_loadingObstacle_56 rfl rfl ?_
          refine D_cSI (As := [_, _]) h dX10_loadingObstacle_57 cs_X10_109 rfl rfl (Nat.le_of_ble_eq_true rfl) (fun x hx => liftq0 (u := 21) hc2 ⟨by decide, by decide⟩ rfl (e_X10_isHeldNow (Nat.le_trans (Nat.le_of_ble_eq_true rfl) hf) hx)) fun v12 h => ?_
          refine D_if_eq (tgt := 65) h dX10_loadingObstacle_60 rfl (fun b13 h => ?_) (fun b13 h => ?_)
          · refine V_aload_n (i := 0) dX10_loadingObstacle_65 rfl rfl ?_
            refine V_aload_n (i := 0) dX10_loadingObstacle_66 rfl rfl ?_
            refine V_getfield dX10_loadingObstacle_67 (mem_30 hc2) fl_X10_7 rfl ?_
            refine V_iload_n (i := 1) dX10_loadingObstacle_70 rfl rfl ?_
            refine V_iload_n (i := 2) dX10_loadingObstacle_71 rfl rfl ?_
            refine D_cVIW (As := [_, _, _]) (μ := fun S15 => (MEM b c (setQ W4 21 S15) M)) h dX10_loadingObstacle_72 cv_X10_113 rfl ⟨_, _, _, (mem_30 hc2), rfl, rfl⟩ rfl (Nat.le_of_ble_eq_true rfl) (fun x y hx => liftq1 (u := 21) hc2 ⟨by decide, by decide⟩ rfl (e_X10_dropOf (Nat.le_trans (Nat.le_of_ble_eq_true rfl) hf) (RQ_m (u := 21) hc2 ⟨by decide, by decide⟩) hx)) fun v16 S15 h => ?_
            refine D3_gen (μ := fun W => (MEM b c W M)) h fun W14 h => ?_
            refine V_iconst (v := -1) dX10_loadingObstacle_75 (by decide) ?_
            refine D_icmp_ne (tgt := 81) h dX10_loadingObstacle_76 rfl (fun b17 h => ?_) (fun b17 h => ?_)
            · refine V_aload_n (i := 0) dX10_loadingObstacle_81 rfl rfl ?_
              refine V_getfield dX10_loadingObstacle_82 (mem_30 hc2) fl_X10_7 rfl ?_
              refine V_iload_n (i := 1) dX10_loadingObstacle_85 rfl rfl ?_
              refine D_cSI (As := [_, _]) h dX10_loadingObstacle_86 cs_X10_116 rfl rfl (Nat.le_of_ble_eq_true rfl) (fun x hx => liftq0 (u := 21) hc2 ⟨by decide, by decide⟩ rfl (e_X10_carried (Nat.le_trans (Nat.le_of_ble_eq_true rfl) hf) hx)) fun v18 h => ?_
              refine V_istore (i := 4) dX10_loadingObstacle_89 (Nat.le_of_ble_eq_true rfl) ?_
              refine V_iconst (v := 0) dX10_loadingObstacle_91 (by decide) ?_
              refine V_istore (i := 5) dX10_loadingObstacle_92 (Nat.le_of_ble_eq_true rfl) ?_
              refine V_sub (ks := [3, 4, 5, 2, 1, 0]) rfl (lv_X10_loadingObstacle_94 hf hc2 FU _ _ _ h)
            · refine V_iconst (v := 3) dX10_loadingObstacle_79 (by decide) ?_
              obtain rfl := Option.some.inj h
              exact V_ireturn dX10_loadingObstacle_80 ⟨_, rfl, rfl⟩ ⟨rfl, rfl, rfl⟩
          · refine V_iconst (v := 2) dX10_loadingObstacle_63 (by decide) ?_
            obtain rfl := Option.some.inj h
            exact V_ireturn dX10_loadingObstacle_64 ⟨_, rfl, rfl⟩ ⟨rfl, rfl, rfl⟩
        · refine V_iconst (v := 1) dX10_loadingObstacle_50 (by decide) ?_
          obtain rfl := Option.some.inj h
          exact V_ireturn dX10_loadingObstacle_51 ⟨_, rfl, rfl⟩ ⟨rfl, rfl, rfl⟩
    · refine V_iconst (v := 0) dX10_loadingObstacle_16 (by decide) ?_
      obtain rfl := Option.some.inj h
      exact V_ireturn dX10_loadingObstacle_17 ⟨_, rfl, rfl⟩ ⟨rfl, rfl, rfl⟩
noncomputable def l_X10_meanDeliveryClock_9 (W : Nat → Nat → Int32) : Nat → Int32 → Int32 → Option (UInt64 × (Nat → Nat → Int32))
  | 0, _, _ => none
  | N + 1, x1, x2 => gd (inr (4 : Int32) 251) (if (W 21 (ix (4 : Int32))) ≤ x2 then bdc (f_X10_deliveredIn (pk (W 21) (W 27))) (fun v3 => if v3 = 0 then some (FP.dconst0, W) else bdc (f_X10_deliveredIn (pk (W 21) (W 27))) (fun v5 => gdp (vf_n64 (FP.ddiv (FP.i2d x1) (FP.i2d v5))) (some (FP.ddiv (FP.i2d x1) (FP.i2d v5), W)))) else bdc (f_X10_ofParcel x2) (fun v7 => gd (inr (v7 + (8 : Int32)) 251) (bnd (W 21 (ix (v7 + (8 : Int32)))) (fun v8 => if v8 = (-1 : Int32) then bnd (x1 + (0 : Int32)) (fun v11 => l_X10_meanDeliveryClock_9 W N v11 (x2 + (1 : Int32))) else bnd (x1 + v8) (fun v10 => l_X10_meanDeliveryClock_9 W N v10 (x2 + (1 : Int32)))))))
theorem lv_X10_meanDeliveryClock_9 {G : GT} {f : Nat} {b c : Nat} {M : MM} {hi k n : Nat} {W : Nat → Nat → Int32} {r : (UInt64 × (Nat → Nat → Int32))} (hf : 2 ≤ f) (hc2 : 619 ≤ c) : ∀ (N : Nat) (x1 : Int32) (x2 : Int32) , l_X10_meanDeliveryClock_9 W N x1 x2 = some r → V G f (Ex G f) mX10_meanDeliveryClock (RH (.inl (some (.double r.1))) (MEM b c r.2 M) hi) 9 [(0, .ref (b + 609)), (1, .int x1), (2, .int x2)] [] (MEM b c W M) hi k n := by
  intro N
  induction N with
  | zero => intro x1 x2 h; cases h
  | succ N ih =>
    intro x1 x2 h
    rw [l_X10_meanDeliveryClock_9] at h
    refine V_iload_n (i := 2) dX10_meanDeliveryClock_9 rfl rfl ?_
    refine V_aload_n (i := 0) dX10_meanDeliveryClock_10 rfl rfl ?_
    refine V_getfield dX10_meanDeliveryClock_11 (mem_30 hc2) fl_X10_7 rfl ?_
    refine V_iconst (v := 4) dX10_meanDeliveryClock_14 (by decide) ?_
    refine D3_ild h (mem_21 hc2) dX10_meanDeliveryClock_15 fun h => ?_
    refine D_icmp_ge (tgt := 51) h dX10_meanDeliveryClock_16 rfl (fun b2 h => ?_) (fun b2 h => ?_)
    · refine V_aload_n (i := 0) dX10_meanDeliveryClock_51 rfl rfl ?_
      refine V_getfield dX10_meanDeliveryClock_52 (mem_30 hc2) fl_X10_7 rfl ?_
      refine D_cSI (As := [_]) h dX10_meanDeliveryClock_55 cs_X10_309 rfl rfl (Nat.le_of_ble_eq_true rfl) (fun x hx => liftq0 (u := 21) hc2 ⟨by decide, by decide⟩ rfl (e_X10_deliveredIn (Nat.le_trans (Nat.le_of_ble_eq_true rfl) hf) hx)) fun v3 h => ?_
      refine D_if_ne (tgt := 65) h dX10_meanDeliveryClock_58 rfl (fun b4 h => ?_) (fun b4 h => ?_)
      · refine V_iload_n (i := 1) dX10_meanDeliveryClock_65 rfl rfl ?_
        refine V_i2d dX10_meanDeliveryClock_66 ?_
        refine V_aload_n (i := 0) dX10_meanDeliveryClock_67 rfl rfl ?_
        refine V_getfield dX10_meanDeliveryClock_68 (mem_30 hc2) fl_X10_7 rfl ?_
        refine D_cSI (As := [_]) h dX10_meanDeliveryClock_71 cs_X10_309 rfl rfl (Nat.le_of_ble_eq_true rfl) (fun x hx => liftq0 (u := 21) hc2 ⟨by decide, by decide⟩ rfl (e_X10_deliveredIn (Nat.le_trans (Nat.le_of_ble_eq_true rfl) hf) hx)) fun v5 h => ?_
        refine V_i2d dX10_meanDeliveryClock_74 ?_
        refine D_gdp h fun g6 h => ?_
        refine V_ddiv dX10_meanDeliveryClock_75 g6 ?_
        obtain rfl := Option.some.inj h
        exact V_dreturn dX10_meanDeliveryClock_76 rfl ⟨rfl, rfl, rfl⟩
      · refine V_dconst0 dX10_meanDeliveryClock_61 ?_
        refine V_goto (tgt := 76) dX10_meanDeliveryClock_62 rfl ?_
        obtain rfl := Option.some.inj h
        exact V_dreturn dX10_meanDeliveryClock_76 rfl ⟨rfl, rfl, rfl⟩
    · refine V_aload_n (i := 0) dX10_meanDeliveryClock_19 rfl rfl ?_
      refine V_getfield dX10_meanDeliveryClock_20 (mem_30 hc2) fl_X10_7 rfl ?_
      refine V_iload_n (i := 2) dX10_meanDeliveryClock_23 rfl rfl ?_
      refine D_cSI (As := [_]) h dX10_meanDeliveryClock_24 cs_X10_88 rfl rfl (Nat.le_of_ble_eq_true rfl) (fun x hx => e_X10_ofParcel (Nat.le_trans (Nat.le_of_ble_eq_true rfl) hf) hx) fun v7 h => ?_
      refine V_bipush (v := 8) dX10_meanDeliveryClock_27 (by decide) ?_
      refine V_iadd dX10_meanDeliveryClock_29 ?_
      refine D3_ild h (mem_21 hc2) dX10_meanDeliveryClock_30 fun h => ?_
      refine D_istore_n (i := 3) h dX10_meanDeliveryClock_31 rfl (Nat.le_of_ble_eq_true rfl) fun v8 h => ?_
      refine V_iload_n (i := 1) dX10_meanDeliveryClock_32 rfl rfl ?_
      refine V_iload_n (i := 3) dX10_meanDeliveryClock_33 rfl rfl ?_
      refine V_iconst (v := -1) dX10_meanDeliveryClock_34 (by decide) ?_
      refine D_icmp_ne (tgt := 42) h dX10_meanDeliveryClock_35 rfl (fun b9 h => ?_) (fun b9 h => ?_)
      · refine V_iload_n (i := 3) dX10_meanDeliveryClock_42 rfl rfl ?_
        refine V_iadd dX10_meanDeliveryClock_43 ?_
        refine D_istore_n (i := 1) h dX10_meanDeliveryClock_44 rfl (Nat.le_of_ble_eq_true rfl) fun v10 h => ?_
        refine D_iinc (i := 2) (w := 1) dX10_meanDeliveryClock_45 rfl (by decide) (Nat.le_of_ble_eq_true rfl) ?_
        refine V_goto (tgt := 9) dX10_meanDeliveryClock_48 rfl ?_
        exact V_sub (ks := [3, 1, 0]) rfl (ih _ _ h)
      · refine V_iconst (v := 0) dX10_meanDeliveryClock_38 (by decide) ?_
        refine V_goto (tgt := 43) dX10_meanDeliveryClock_39 rfl ?_
        refine V_iadd dX10_meanDeliveryClock_43 ?_
        refine D_istore_n (i := 1) h dX10_meanDeliveryClock_44 rfl (Nat.le_of_ble_eq_true rfl) fun v11 h => ?_
        refine D_iinc (i := 2) (w := 1) dX10_meanDeliveryClock_45 rfl (by decide) (Nat.le_of_ble_eq_true rfl) ?_
        refine V_goto (tgt := 9) dX10_meanDeliveryClock_48 rfl ?_
        exact V_sub (ks := [3, 1, 0]) rfl (ih _ _ h)
noncomputable def f_X10_meanDeliveryClock (W : Nat → Nat → Int32) : Option (UInt64 × (Nat → Nat → Int32)) :=
  bnd (w2 W 30 2 (0 : Int32)) (fun W1 => l_X10_meanDeliveryClock_9 W1 FU (0 : Int32) (0 : Int32))
theorem e_X10_meanDeliveryClock {G : GT} {f0 : Nat} {b c : Nat} {M : MM} {hi k n : Nat} {W : Nat → Nat → Int32} {r : (UInt64 × (Nat → Nat → Int32))} (hf0 : 3 ≤ f0) (hc2 : 619 ≤ c) (h : f_X10_meanDeliveryClock W = some r) : Ex G f0 mX10_meanDeliveryClock [.ref (b + 609)] (MEM b c W M) hi k n (RH (.inl (some (.double r.1))) (MEM b c r.2 M) hi) := by
  obtain ⟨f, rfl, hf⟩ := suc_of hf0
  unfold f_X10_meanDeliveryClock at h
  refine ⟨Nat.le_of_ble_eq_true rfl, ?_⟩
  refine V_aload_n (i := 0) dX10_meanDeliveryClock_0 rfl rfl ?_
  refine V_iconst (v := 0) dX10_meanDeliveryClock_1 (by decide) ?_
  refine D3_put h dX10_meanDeliveryClock_2 (mem_30 hc2) (fp_X10_69 rfl) (Nat.le_of_ble_eq_true rfl) (psc_30_2 hc2) fun W1 h => ?_
  refine V_iconst (v := 0) dX10_meanDeliveryClock_5 (by decide) ?_
  refine V_istore_n (i := 1) dX10_meanDeliveryClock_6 rfl (Nat.le_of_ble_eq_true rfl) ?_
  refine V_iconst (v := 0) dX10_meanDeliveryClock_7 (by decide) ?_
  refine V_istore_n (i := 2) dX10_meanDeliveryClock_8 rfl (Nat.le_of_ble_eq_true rfl) ?_
  refine V_sub (ks := [2, 1, 0]) rfl (lv_X10_meanDeliveryClock_9 hf hc2 FU _ _ h)
noncomputable def l_X10_minutesToDelivery_16 (c1 : Int32) : Nat → (Nat → Nat → Int32) → Int32 → Option (Int32 × (Nat → Nat → Int32))
  | 0, _, _ => none
  | N + 1, W, x2 => if (120 : Int32) < x2 then some ((-1 : Int32), W) else bdc (f_X10_ofParcel c1) (fun v6 => gd (inr (v6 + (8 : Int32)) 251) (if (W 23 (ix (v6 + (8 : Int32)))) = (-1 : Int32) then bdc (f_X10_minute (pk (W 23) (W 27))) (fun S9 => bnd (setQ W 23 S9) (fun W8 => l_X10_minutesToDelivery_16 c1 N W8 (x2 + (1 : Int32)))) else some (x2, W)))
theorem lv_X10_minutesToDelivery_16 {G : GT} {f : Nat} {b c : Nat} {M : MM} {hi k n : Nat} {c1 : Int32} {r : (Int32 × (Nat → Nat → Int32))} (hf : 9 ≤ f) (hc2 : 619 ≤ c) : ∀ (N : Nat) (W : Nat → Nat → Int32) (x2 : Int32) , l_X10_minutesToDelivery_16 c1 N W x2 = some r → V G f (Ex G f) mX10_minutesToDelivery (RH (.inl (some (.int r.1))) (MEM b c r.2 M) hi) 16 [(0, .ref (b + 609)), (1, .int c1), (2, .int x2)] [] (MEM b c W M) hi k n := by
  intro N
  induction N with
  | zero => intro W x2 h; cases h
  | succ N ih =>
    intro W x2 h
    rw [l_X10_minutesToDelivery_16] at h
    refine V_iload_n (i := 2) dX10_minutesToDelivery_16 rfl rfl ?_
    refine V_bipush (v := 120) dX10_minutesToDelivery_17 (by decide) ?_
    refine D_icmp_gt (tgt := 54) h dX10_minutesToDelivery_19 rfl (fun b5 h => ?_) (fun b5 h => ?_)
    · refine V_iconst (v := -1) dX10_minutesToDelivery_54 (by decide) ?_
      obtain rfl := Option.some.inj h
      exact V_ireturn dX10_minutesToDelivery_55 ⟨_, rfl, rfl⟩ ⟨rfl, rfl, rfl⟩
    · refine V_aload_n (i := 0) dX10_minutesToDelivery_22 rfl rfl ?_
      refine V_getfield dX10_minutesToDelivery_23 (mem_30 hc2) fl_X10_16 rfl ?_
      refine V_iload_n (i := 1) dX10_minutesToDelivery_26 rfl rfl ?_
      refine D_cSI (As := [_]) h dX10_minutesToDelivery_27 cs_X10_88 rfl rfl (Nat.le_of_ble_eq_true rfl) (fun x hx => e_X10_ofParcel (Nat.le_trans (Nat.le_of_ble_eq_true rfl) hf) hx) fun v6 h => ?_
      refine V_bipush (v := 8) dX10_minutesToDelivery_30 (by decide) ?_
      refine V_iadd dX10_minutesToDelivery_32 ?_
      refine D3_ild h (mem_23 hc2) dX10_minutesToDelivery_33 fun h => ?_
      refine V_iconst (v := -1) dX10_minutesToDelivery_34 (by decide) ?_
      refine D_icmp_eq (tgt := 40) h dX10_minutesToDelivery_35 rfl (fun b7 h => ?_) (fun b7 h => ?_)
      · refine V_aload_n (i := 0) dX10_minutesToDelivery_40 rfl rfl ?_
        refine V_aload_n (i := 0) dX10_minutesToDelivery_41 rfl rfl ?_
        refine V_getfield dX10_minutesToDelivery_42 (mem_30 hc2) fl_X10_16 rfl ?_
        refine D_cVU (As := [_]) (μ := fun S9 => (MEM b c (setQ W 23 S9) M)) h dX10_minutesToDelivery_45 cv_X10_161 rfl ⟨_, _, _, (mem_30 hc2), rfl, rfl⟩ rfl (Nat.le_of_ble_eq_true rfl) (fun y hx => liftq1 (u := 23) hc2 ⟨by decide, by decide⟩ rfl (e_X10_minute (Nat.le_trans (Nat.le_of_ble_eq_true rfl) hf) (RQ_m (u := 23) hc2 ⟨by decide, by decide⟩) hx)) fun S9 h => ?_
        refine D3_gen (μ := fun W => (MEM b c W M)) h fun W8 h => ?_
        refine D_iinc (i := 2) (w := 1) dX10_minutesToDelivery_48 rfl (by decide) (Nat.le_of_ble_eq_true rfl) ?_
        refine V_goto (tgt := 16) dX10_minutesToDelivery_51 rfl ?_
        exact V_sub (ks := [1, 2, 0]) rfl (ih _ _ h)
      · refine V_iload_n (i := 2) dX10_minutesToDelivery_38 rfl rfl ?_
        obtain rfl := Option.some.inj h
        exact V_ireturn dX10_minutesToDelivery_39 ⟨_, rfl, rfl⟩ ⟨rfl, rfl, rfl⟩
noncomputable def f_X10_minutesToDelivery (W : Nat → Nat → Int32) (a1 : Int32) : Option (Int32 × (Nat → Nat → Int32)) :=
  bd2 (f_X10_noParcel W a1) (fun v2 W1 => if v2 = 0 then bdc (f_X10_tries W1) (fun W4 => l_X10_minutesToDelivery_16 a1 FU W4 (0 : Int32)) else some ((0 : Int32), W1))
theorem e_X10_minutesToDelivery {G : GT} {f0 : Nat} {b c : Nat} {M : MM} {hi k n : Nat} {W : Nat → Nat → Int32} {a1 : Int32} {r : (Int32 × (Nat → Nat → Int32))} (hf0 : 10 ≤ f0) (hc2 : 619 ≤ c) (h : f_X10_minutesToDelivery W a1 = some r) : Ex G f0 mX10_minutesToDelivery [.ref (b + 609), .int a1] (MEM b c W M) hi k n (RH (.inl (some (.int r.1))) (MEM b c r.2 M) hi) := by
  obtain ⟨f, rfl, hf⟩ := suc_of hf0
  unfold f_X10_minutesToDelivery at h
  refine ⟨Nat.le_of_ble_eq_true rfl, ?_⟩
  refine V_aload_n (i := 0) dX10_minutesToDelivery_0 rfl rfl ?_
  refine V_iload_n (i := 1) dX10_minutesToDelivery_1 rfl rfl ?_
  refine D_cVIW (As := [_]) (μ := fun W1 => (MEM b c W1 M)) h dX10_minutesToDelivery_2 cv_X10_303 rfl ⟨_, _, _, (mem_30 hc2), rfl, rfl⟩ rfl (Nat.le_of_ble_eq_true rfl) (fun x y hx => e_X10_noParcel (Nat.le_trans (Nat.le_of_ble_eq_true rfl) hf) hc2 hx) fun v2 W1 h => ?_
  refine D_if_eq (tgt := 10) h dX10_minutesToDelivery_5 rfl (fun b3 h => ?_) (fun b3 h => ?_)
  · refine V_aload_n (i := 0) dX10_minutesToDelivery_10 rfl rfl ?_
    refine D_cVU (As := []) (μ := fun W4 => (MEM b c W4 M)) h dX10_minutesToDelivery_11 cv_X10_313 rfl ⟨_, _, _, (mem_30 hc2), rfl, rfl⟩ rfl (Nat.le_of_ble_eq_true rfl) (fun y hx => e_X10_tries (Nat.le_trans (Nat.le_of_ble_eq_true rfl) hf) hc2 hx) fun W4 h => ?_
    refine V_iconst (v := 0) dX10_minutesToDelivery_14 (by decide) ?_
    refine V_istore_n (i := 2) dX10_minutesToDelivery_15 rfl (Nat.le_of_ble_eq_true rfl) ?_
    refine V_sub (ks := [1, 2, 0]) rfl (lv_X10_minutesToDelivery_16 hf hc2 FU _ _ h)
  · refine V_iconst (v := 0) dX10_minutesToDelivery_8 (by decide) ?_
    obtain rfl := Option.some.inj h
    exact V_ireturn dX10_minutesToDelivery_9 ⟨_, rfl, rfl⟩ ⟨rfl, rfl, rfl⟩
noncomputable def l_X10_minutesToFinish_11  : Nat → (Nat → Nat → Int32) → Int32 → Option (Int32 × (Nat → Nat → Int32))
  | 0, _, _ => none
  | N + 1, W, x1 => if (120 : Int32) < x1 then some ((-1 : Int32), W) else bdc (f_X10_deliveredIn (pk (W 23) (W 27))) (fun v4 => gd (inr (4 : Int32) 251) (if v4 = (W 23 (ix (4 : Int32))) then some (x1, W) else bdc (f_X10_minute (pk (W 23) (W 27))) (fun S7 => bnd (setQ W 23 S7) (fun W6 => l_X10_minutesToFinish_11 N W6 (x1 + (1 : Int32))))))
theorem lv_X10_minutesToFinish_11 {G : GT} {f : Nat} {b c : Nat} {M : MM} {hi k n : Nat}  {r : (Int32 × (Nat → Nat → Int32))} (hf : 9 ≤ f) (hc2 : 619 ≤ c) : ∀ (N : Nat) (W : Nat → Nat → Int32) (x1 : Int32) , l_X10_minutesToFinish_11 N W x1 = some r → V G f (Ex G f) mX10_minutesToFinish (RH (.inl (some (.int r.1))) (MEM b c r.2 M) hi) 11 [(0, .ref (b + 609)), (1, .int x1)] [] (MEM b c W M) hi k n := by
  intro N
  induction N with
  | zero => intro W x1 h; cases h
  | succ N ih =>
    intro W x1 h
    rw [l_X10_minutesToFinish_11] at h
    refine V_iload_n (i := 1) dX10_minutesToFinish_11 rfl rfl ?_
    refine V_bipush (v := 120) dX10_minutesToFinish_12 (by decide) ?_
    refine D_icmp_gt (tgt := 49) h dX10_minutesToFinish_14 rfl (fun b3 h => ?_) (fun b3 h => ?_)
    · refine V_iconst (v := -1) dX10_minutesToFinish_49 (by decide) ?_
      obtain rfl := Option.some.inj h
      exact V_ireturn dX10_minutesToFinish_50 ⟨_, rfl, rfl⟩ ⟨rfl, rfl, rfl⟩
    · refine V_aload_n (i := 0) dX10_minutesToFinish_17 rfl rfl ?_
      refine V_getfield dX10_minutesToFinish_18 (mem_30 hc2) fl_X10_16 rfl ?_
      refine D_cSI (As := [_]) h dX10_minutesToFinish_21 cs_X10_309 rfl rfl (Nat.le_of_ble_eq_true rfl) (fun x hx => liftq0 (u := 23) hc2 ⟨by decide, by decide⟩ rfl (e_X10_deliveredIn (Nat.le_trans (Nat.le_of_ble_eq_true rfl) hf) hx)) fun v4 h => ?_
      refine V_aload_n (i := 0) dX10_minutesToFinish_24 rfl rfl ?_
      refine V_getfield dX10_minutesToFinish_25 (mem_30 hc2) fl_X10_16 rfl ?_
      refine V_iconst (v := 4) dX10_minutesToFinish_28 (by decide) ?_
      refine D3_ild h (mem_23 hc2) dX10_minutesToFinish_29 fun h => ?_
      refine D_icmp_ne (tgt := 35) h dX10_minutesToFinish_30 rfl (fun b5 h => ?_) (fun b5 h => ?_)
      · refine V_aload_n (i := 0) dX10_minutesToFinish_35 rfl rfl ?_
        refine V_aload_n (i := 0) dX10_minutesToFinish_36 rfl rfl ?_
        refine V_getfield dX10_minutesToFinish_37 (mem_30 hc2) fl_X10_16 rfl ?_
        refine D_cVU (As := [_]) (μ := fun S7 => (MEM b c (setQ W 23 S7) M)) h dX10_minutesToFinish_40 cv_X10_161 rfl ⟨_, _, _, (mem_30 hc2), rfl, rfl⟩ rfl (Nat.le_of_ble_eq_true rfl) (fun y hx => liftq1 (u := 23) hc2 ⟨by decide, by decide⟩ rfl (e_X10_minute (Nat.le_trans (Nat.le_of_ble_eq_true rfl) hf) (RQ_m (u := 23) hc2 ⟨by decide, by decide⟩) hx)) fun S7 h => ?_
        refine D3_gen (μ := fun W => (MEM b c W M)) h fun W6 h => ?_
        refine D_iinc (i := 1) (w := 1) dX10_minutesToFinish_43 rfl (by decide) (Nat.le_of_ble_eq_true rfl) ?_
        refine V_goto (tgt := 11) dX10_minutesToFinish_46 rfl ?_
        exact V_sub (ks := [1, 0]) rfl (ih _ _ h)
      · refine V_iload_n (i := 1) dX10_minutesToFinish_33 rfl rfl ?_
        obtain rfl := Option.some.inj h
        exact V_ireturn dX10_minutesToFinish_34 ⟨_, rfl, rfl⟩ ⟨rfl, rfl, rfl⟩
noncomputable def f_X10_minutesToFinish (W : Nat → Nat → Int32) : Option (Int32 × (Nat → Nat → Int32)) :=
  bnd (w2 W 30 2 (0 : Int32)) (fun W1 => bdc (f_X10_tries W1) (fun W2 => l_X10_minutesToFinish_11 FU W2 (0 : Int32)))
theorem e_X10_minutesToFinish {G : GT} {f0 : Nat} {b c : Nat} {M : MM} {hi k n : Nat} {W : Nat → Nat → Int32} {r : (Int32 × (Nat → Nat → Int32))} (hf0 : 10 ≤ f0) (hc2 : 619 ≤ c) (h : f_X10_minutesToFinish W = some r) : Ex G f0 mX10_minutesToFinish [.ref (b + 609)] (MEM b c W M) hi k n (RH (.inl (some (.int r.1))) (MEM b c r.2 M) hi) := by
  obtain ⟨f, rfl, hf⟩ := suc_of hf0
  unfold f_X10_minutesToFinish at h
  refine ⟨Nat.le_of_ble_eq_true rfl, ?_⟩
  refine V_aload_n (i := 0) dX10_minutesToFinish_0 rfl rfl ?_
  refine V_iconst (v := 0) dX10_minutesToFinish_1 (by decide) ?_
  refine D3_put h dX10_minutesToFinish_2 (mem_30 hc2) (fp_X10_69 rfl) (Nat.le_of_ble_eq_true rfl) (psc_30_2 hc2) fun W1 h => ?_
  refine V_aload_n (i := 0) dX10_minutesToFinish_5 rfl rfl ?_
  refine D_cVU (As := []) (μ := fun W2 => (MEM b c W2 M)) h dX10_minutesToFinish_6 cv_X10_313 rfl ⟨_, _, _, (mem_30 hc2), rfl, rfl⟩ rfl (Nat.le_of_ble_eq_true rfl) (fun y hx => e_X10_tries (Nat.le_trans (Nat.le_of_ble_eq_true rfl) hf) hc2 hx) fun W2 h => ?_
  refine V_iconst (v := 0) dX10_minutesToFinish_9 (by decide) ?_
  refine V_istore_n (i := 1) dX10_minutesToFinish_10 rfl (Nat.le_of_ble_eq_true rfl) ?_
  refine V_sub (ks := [1, 0]) rfl (lv_X10_minutesToFinish_11 hf hc2 FU _ _ h)
noncomputable def f_X10_minutesToNext (W : Nat → Nat → Int32) (a1 : Int32) : Option (Int32 × (Nat → Nat → Int32)) :=
  bd2 (f_X10_noTrain W a1) (fun v2 W1 => if v2 = 0 then bdc (f_X10_stands (pk (W1 21) (W1 27)) a1) (fun v4 => if v4 = 0 then bdc (f_X10_stationOf (pk (W1 21) (W1 27)) a1) (fun v6 => bdc (f_X10_nextOf (pk (W1 21) (W1 27)) a1) (fun v7 => bdc (f_X10_between (pk (W1 21) (W1 27)) v6 v7) (fun v8 => bdc (f_X10_ofTrack v8) (fun v9 => gd (inr (v9 + (2 : Int32)) 251) (bdc (f_X10_ofTrain a1) (fun v10 => gd (inr (v10 + (10 : Int32)) 251) (some ((W1 21 (ix (v9 + (2 : Int32)))) - (W1 21 (ix (v10 + (10 : Int32)))), W1)))))))) else some ((-1 : Int32), W1)) else some ((0 : Int32), W1))
theorem e_X10_minutesToNext {G : GT} {f0 : Nat} {b c : Nat} {M : MM} {hi k n : Nat} {W : Nat → Nat → Int32} {a1 : Int32} {r : (Int32 × (Nat → Nat → Int32))} (hf0 : 4 ≤ f0) (hc2 : 619 ≤ c) (h : f_X10_minutesToNext W a1 = some r) : Ex G f0 mX10_minutesToNext [.ref (b + 609), .int a1] (MEM b c W M) hi k n (RH (.inl (some (.int r.1))) (MEM b c r.2 M) hi) := by
  obtain ⟨f, rfl, hf⟩ := suc_of hf0
  unfold f_X10_minutesToNext at h
  refine ⟨Nat.le_of_ble_eq_true rfl, ?_⟩
  refine V_aload_n (i := 0) dX10_minutesToNext_0 rfl rfl ?_
  refine V_iload_n (i := 1) dX10_minutesToNext_1 rfl rfl ?_
  refine D_cVIW (As := [_]) (μ := fun W1 => (MEM b c W1 M)) h dX10_minutesToNext_2 cv_X10_300 rfl ⟨_, _, _, (mem_30 hc2), rfl, rfl⟩ rfl (Nat.le_of_ble_eq_true rfl) (fun x y hx => e_X10_noTrain (Nat.le_trans (Nat.le_of_ble_eq_true rfl) hf) hc2 hx) fun v2 W1 h => ?_
  refine D_if_eq (tgt := 10) h dX10_minutesToNext_5 rfl (fun b3 h => ?_) (fun b3 h => ?_)
  · refine V_aload_n (i := 0) dX10_minutesToNext_10 rfl rfl ?_
    refine V_getfield dX10_minutesToNext_11 (mem_30 hc2) fl_X10_7 rfl ?_
    refine V_iload_n (i := 1) dX10_minutesToNext_14 rfl rfl ?_
    refine D_cSI (As := [_, _]) h dX10_minutesToNext_15 cs_X10_149 rfl rfl (Nat.le_of_ble_eq_true rfl) (fun x hx => liftq0 (u := 21) hc2 ⟨by decide, by decide⟩ rfl (e_X10_stands (Nat.le_trans (Nat.le_of_ble_eq_true rfl) hf) hx)) fun v4 h => ?_
    refine D_if_eq (tgt := 23) h dX10_minutesToNext_18 rfl (fun b5 h => ?_) (fun b5 h => ?_)
    · refine V_aload_n (i := 0) dX10_minutesToNext_23 rfl rfl ?_
      refine V_getfield dX10_minutesToNext_24 (mem_30 hc2) fl_X10_7 rfl ?_
      refine V_aload_n (i := 0) dX10_minutesToNext_27 rfl rfl ?_
      refine V_getfield dX10_minutesToNext_28 (mem_30 hc2) fl_X10_7 rfl ?_
      refine V_iload_n (i := 1) dX10_minutesToNext_31 rfl rfl ?_
      refine D_cSI (As := [_, _]) h dX10_minutesToNext_32 cs_X10_95 rfl rfl (Nat.le_of_ble_eq_true rfl) (fun x hx => liftq0 (u := 21) hc2 ⟨by decide, by decide⟩ rfl (e_X10_stationOf (Nat.le_trans (Nat.le_of_ble_eq_true rfl) hf) hx)) fun v6 h => ?_
      refine V_aload_n (i := 0) dX10_minutesToNext_35 rfl rfl ?_
      refine V_getfield dX10_minutesToNext_36 (mem_30 hc2) fl_X10_7 rfl ?_
      refine V_iload_n (i := 1) dX10_minutesToNext_39 rfl rfl ?_
      refine D_cSI (As := [_, _]) h dX10_minutesToNext_40 cs_X10_125 rfl rfl (Nat.le_of_ble_eq_true rfl) (fun x hx => liftq0 (u := 21) hc2 ⟨by decide, by decide⟩ rfl (e_X10_nextOf (Nat.le_trans (Nat.le_of_ble_eq_true rfl) hf) hx)) fun v7 h => ?_
      refine D_cSI (As := [_, _, _]) h dX10_minutesToNext_43 cs_X10_128 rfl rfl (Nat.le_of_ble_eq_true rfl) (fun x hx => liftq0 (u := 21) hc2 ⟨by decide, by decide⟩ rfl (e_X10_between (Nat.le_trans (Nat.le_of_ble_eq_true rfl) hf) hx)) fun v8 h => ?_
      refine V_istore_n (i := 2) dX10_minutesToNext_46 rfl (Nat.le_of_ble_eq_true rfl) ?_
      refine V_aload_n (i := 0) dX10_minutesToNext_47 rfl rfl ?_
      refine V_getfield dX10_minutesToNext_48 (mem_30 hc2) fl_X10_7 rfl ?_
      refine V_iload_n (i := 2) dX10_minutesToNext_51 rfl rfl ?_
      refine D_cSI (As := [_]) h dX10_minutesToNext_52 cs_X10_72 rfl rfl (Nat.le_of_ble_eq_true rfl) (fun x hx => e_X10_ofTrack (Nat.le_trans (Nat.le_of_ble_eq_true rfl) hf) hx) fun v9 h => ?_
      refine V_iconst (v := 2) dX10_minutesToNext_55 (by decide) ?_
      refine V_iadd dX10_minutesToNext_56 ?_
      refine D3_ild h (mem_21 hc2) dX10_minutesToNext_57 fun h => ?_
      refine V_aload_n (i := 0) dX10_minutesToNext_58 rfl rfl ?_
      refine V_getfield dX10_minutesToNext_59 (mem_30 hc2) fl_X10_7 rfl ?_
      refine V_iload_n (i := 1) dX10_minutesToNext_62 rfl rfl ?_
      refine D_cSI (As := [_]) h dX10_minutesToNext_63 cs_X10_81 rfl rfl (Nat.le_of_ble_eq_true rfl) (fun x hx => e_X10_ofTrain (Nat.le_trans (Nat.le_of_ble_eq_true rfl) hf) hx) fun v10 h => ?_
      refine V_bipush (v := 10) dX10_minutesToNext_66 (by decide) ?_
      refine V_iadd dX10_minutesToNext_68 ?_
      refine D3_ild h (mem_21 hc2) dX10_minutesToNext_69 fun h => ?_
      refine V_isub dX10_minutesToNext_70 ?_
      obtain rfl := Option.some.inj h
      exact V_ireturn dX10_minutesToNext_71 ⟨_, rfl, rfl⟩ ⟨rfl, rfl, rfl⟩
    · refine V_iconst (v := -1) dX10_minutesToNext_21 (by decide) ?_
      obtain rfl := Option.some.inj h
      exact V_ireturn dX10_minutesToNext_22 ⟨_, rfl, rfl⟩ ⟨rfl, rfl, rfl⟩
  · refine V_iconst (v := 0) dX10_minutesToNext_8 (by decide) ?_
    obtain rfl := Option.some.inj h
    exact V_ireturn dX10_minutesToNext_9 ⟨_, rfl, rfl⟩ ⟨rfl, rfl, rfl⟩
noncomputable def l_X10_minutesToStop_16 (c1 : Int32) : Nat → (Nat → Nat → Int32) → Int32 → Option (Int32 × (Nat → Nat → Int32))
  | 0, _, _ => none
  | N + 1, W, x2 => if (120 : Int32) < x2 then some ((-1 : Int32), W) else bdc (f_X10_minute (pk (W 23) (W 27))) (fun S7 => bnd (setQ W 23 S7) (fun W6 => bdc (f_X10_ofStation c1) (fun v8 => gd (inr (v8 + (3 : Int32)) 251) (bdc (f_X10_ofStation c1) (fun v9 => gd (inr (v9 + (3 : Int32)) 251) (if (W6 23 (ix (v8 + (3 : Int32)))) ≤ (W6 21 (ix (v9 + (3 : Int32)))) then l_X10_minutesToStop_16 c1 N W6 (x2 + (1 : Int32)) else some (x2, W6)))))))
theorem lv_X10_minutesToStop_16 {G : GT} {f : Nat} {b c : Nat} {M : MM} {hi k n : Nat} {c1 : Int32} {r : (Int32 × (Nat → Nat → Int32))} (hf : 9 ≤ f) (hc2 : 619 ≤ c) : ∀ (N : Nat) (W : Nat → Nat → Int32) (x2 : Int32) , l_X10_minutesToStop_16 c1 N W x2 = some r → V G f (Ex G f) mX10_minutesToStop (RH (.inl (some (.int r.1))) (MEM b c r.2 M) hi) 16 [(0, .ref (b + 609)), (1, .int c1), (2, .int x2)] [] (MEM b c W M) hi k n := by
  intro N
  induction N with
  | zero => intro W x2 h; cases h
  | succ N ih =>
    intro W x2 h
    rw [l_X10_minutesToStop_16] at h
    refine V_iload_n (i := 2) dX10_minutesToStop_16 rfl rfl ?_
    refine V_bipush (v := 120) dX10_minutesToStop_17 (by decide) ?_
    refine D_icmp_gt (tgt := 63) h dX10_minutesToStop_19 rfl (fun b5 h => ?_) (fun b5 h => ?_)
    · refine V_iconst (v := -1) dX10_minutesToStop_63 (by decide) ?_
      obtain rfl := Option.some.inj h
      exact V_ireturn dX10_minutesToStop_64 ⟨_, rfl, rfl⟩ ⟨rfl, rfl, rfl⟩
    · refine V_aload_n (i := 0) dX10_minutesToStop_22 rfl rfl ?_
      refine V_aload_n (i := 0) dX10_minutesToStop_23 rfl rfl ?_
      refine V_getfield dX10_minutesToStop_24 (mem_30 hc2) fl_X10_16 rfl ?_
      refine D_cVU (As := [_]) (μ := fun S7 => (MEM b c (setQ W 23 S7) M)) h dX10_minutesToStop_27 cv_X10_161 rfl ⟨_, _, _, (mem_30 hc2), rfl, rfl⟩ rfl (Nat.le_of_ble_eq_true rfl) (fun y hx => liftq1 (u := 23) hc2 ⟨by decide, by decide⟩ rfl (e_X10_minute (Nat.le_trans (Nat.le_of_ble_eq_true rfl) hf) (RQ_m (u := 23) hc2 ⟨by decide, by decide⟩) hx)) fun S7 h => ?_
      refine D3_gen (μ := fun W => (MEM b c W M)) h fun W6 h => ?_
      refine V_aload_n (i := 0) dX10_minutesToStop_30 rfl rfl ?_
      refine V_getfield dX10_minutesToStop_31 (mem_30 hc2) fl_X10_16 rfl ?_
      refine V_iload_n (i := 1) dX10_minutesToStop_34 rfl rfl ?_
      refine D_cSI (As := [_]) h dX10_minutesToStop_35 cs_X10_134 rfl rfl (Nat.le_of_ble_eq_true rfl) (fun x hx => e_X10_ofStation (Nat.le_trans (Nat.le_of_ble_eq_true rfl) hf) hx) fun v8 h => ?_
      refine V_iconst (v := 3) dX10_minutesToStop_38 (by decide) ?_
      refine V_iadd dX10_minutesToStop_39 ?_
      refine D3_ild h (mem_23 hc2) dX10_minutesToStop_40 fun h => ?_
      refine V_aload_n (i := 0) dX10_minutesToStop_41 rfl rfl ?_
      refine V_getfield dX10_minutesToStop_42 (mem_30 hc2) fl_X10_7 rfl ?_
      refine V_iload_n (i := 1) dX10_minutesToStop_45 rfl rfl ?_
      refine D_cSI (As := [_]) h dX10_minutesToStop_46 cs_X10_134 rfl rfl (Nat.le_of_ble_eq_true rfl) (fun x hx => e_X10_ofStation (Nat.le_trans (Nat.le_of_ble_eq_true rfl) hf) hx) fun v9 h => ?_
      refine V_iconst (v := 3) dX10_minutesToStop_49 (by decide) ?_
      refine V_iadd dX10_minutesToStop_50 ?_
      refine D3_ild h (mem_21 hc2) dX10_minutesToStop_51 fun h => ?_
      refine D_icmp_le (tgt := 57) h dX10_minutesToStop_52 rfl (fun b10 h => ?_) (fun b10 h => ?_)
      · refine D_iinc (i := 2) (w := 1) dX10_minutesToStop_57 rfl (by decide) (Nat.le_of_ble_eq_true rfl) ?_
        refine V_goto (tgt := 16) dX10_minutesToStop_60 rfl ?_
        exact V_sub (ks := [1, 2, 0]) rfl (ih _ _ h)
      · refine V_iload_n (i := 2) dX10_minutesToStop_55 rfl rfl ?_
        obtain rfl := Option.some.inj h
        exact V_ireturn dX10_minutesToStop_56 ⟨_, rfl, rfl⟩ ⟨rfl, rfl, rfl⟩
noncomputable def f_X10_minutesToStop (W : Nat → Nat → Int32) (a1 : Int32) : Option (Int32 × (Nat → Nat → Int32)) :=
  bd2 (f_X10_noStation W a1) (fun v2 W1 => if v2 = 0 then bdc (f_X10_tries W1) (fun W4 => l_X10_minutesToStop_16 a1 FU W4 (1 : Int32)) else some ((0 : Int32), W1))
theorem e_X10_minutesToStop {G : GT} {f0 : Nat} {b c : Nat} {M : MM} {hi k n : Nat} {W : Nat → Nat → Int32} {a1 : Int32} {r : (Int32 × (Nat → Nat → Int32))} (hf0 : 10 ≤ f0) (hc2 : 619 ≤ c) (h : f_X10_minutesToStop W a1 = some r) : Ex G f0 mX10_minutesToStop [.ref (b + 609), .int a1] (MEM b c W M) hi k n (RH (.inl (some (.int r.1))) (MEM b c r.2 M) hi) := by
  obtain ⟨f, rfl, hf⟩ := suc_of hf0
  unfold f_X10_minutesToStop at h
  refine ⟨Nat.le_of_ble_eq_true rfl, ?_⟩
  refine V_aload_n (i := 0) dX10_minutesToStop_0 rfl rfl ?_
  refine V_iload_n (i := 1) dX10_minutesToStop_1 rfl rfl ?_
  refine D_cVIW (As := [_]) (μ := fun W1 => (MEM b c W1 M)) h dX10_minutesToStop_2 cv_X10_286 rfl ⟨_, _, _, (mem_30 hc2), rfl, rfl⟩ rfl (Nat.le_of_ble_eq_true rfl) (fun x y hx => e_X10_noStation (Nat.le_trans (Nat.le_of_ble_eq_true rfl) hf) hc2 hx) fun v2 W1 h => ?_
  refine D_if_eq (tgt := 10) h dX10_minutesToStop_5 rfl (fun b3 h => ?_) (fun b3 h => ?_)
  · refine V_aload_n (i := 0) dX10_minutesToStop_10 rfl rfl ?_
    refine D_cVU (As := []) (μ := fun W4 => (MEM b c W4 M)) h dX10_minutesToStop_11 cv_X10_313 rfl ⟨_, _, _, (mem_30 hc2), rfl, rfl⟩ rfl (Nat.le_of_ble_eq_true rfl) (fun y hx => e_X10_tries (Nat.le_trans (Nat.le_of_ble_eq_true rfl) hf) hc2 hx) fun W4 h => ?_
    refine V_iconst (v := 1) dX10_minutesToStop_14 (by decide) ?_
    refine V_istore_n (i := 2) dX10_minutesToStop_15 rfl (Nat.le_of_ble_eq_true rfl) ?_
    refine V_sub (ks := [1, 2, 0]) rfl (lv_X10_minutesToStop_16 hf hc2 FU _ _ h)
  · refine V_iconst (v := 0) dX10_minutesToStop_8 (by decide) ?_
    obtain rfl := Option.some.inj h
    exact V_ireturn dX10_minutesToStop_9 ⟨_, rfl, rfl⟩ ⟨rfl, rfl, rfl⟩
noncomputable def f_X10_nextStation (W : Nat → Nat → Int32) (a1 : Int32) : Option (Int32 × (Nat → Nat → Int32)) :=
  bd2 (f_X10_noTrain W a1) (fun v2 W1 => if v2 = 0 then bdc (f_X10_nextOf (pk (W1 21) (W1 27)) a1) (fun v4 => some (v4, W1)) else some ((0 : Int32), W1))
theorem e_X10_nextStation {G : GT} {f0 : Nat} {b c : Nat} {M : MM} {hi k n : Nat} {W : Nat → Nat → Int32} {a1 : Int32} {r : (Int32 × (Nat → Nat → Int32))} (hf0 : 4 ≤ f0) (hc2 : 619 ≤ c) (h : f_X10_nextStation W a1 = some r) : Ex G f0 mX10_nextStation [.ref (b + 609), .int a1] (MEM b c W M) hi k n (RH (.inl (some (.int r.1))) (MEM b c r.2 M) hi) := by
  obtain ⟨f, rfl, hf⟩ := suc_of hf0
  unfold f_X10_nextStation at h
  refine ⟨Nat.le_of_ble_eq_true rfl, ?_⟩
  refine V_aload_n (i := 0) dX10_nextStation_0 rfl rfl ?_
  refine V_iload_n (i := 1) dX10_nextStation_1 rfl rfl ?_
  refine D_cVIW (As := [_]) (μ := fun W1 => (MEM b c W1 M)) h dX10_nextStation_2 cv_X10_300 rfl ⟨_, _, _, (mem_30 hc2), rfl, rfl⟩ rfl (Nat.le_of_ble_eq_true rfl) (fun x y hx => e_X10_noTrain (Nat.le_trans (Nat.le_of_ble_eq_true rfl) hf) hc2 hx) fun v2 W1 h => ?_
  refine D_if_eq (tgt := 12) h dX10_nextStation_5 rfl (fun b3 h => ?_) (fun b3 h => ?_)
  · refine V_aload_n (i := 0) dX10_nextStation_12 rfl rfl ?_
    refine V_getfield dX10_nextStation_13 (mem_30 hc2) fl_X10_7 rfl ?_
    refine V_iload_n (i := 1) dX10_nextStation_16 rfl rfl ?_
    refine D_cSI (As := [_, _]) h dX10_nextStation_17 cs_X10_125 rfl rfl (Nat.le_of_ble_eq_true rfl) (fun x hx => liftq0 (u := 21) hc2 ⟨by decide, by decide⟩ rfl (e_X10_nextOf (Nat.le_trans (Nat.le_of_ble_eq_true rfl) hf) hx)) fun v4 h => ?_
    obtain rfl := Option.some.inj h
    exact V_ireturn dX10_nextStation_20 ⟨_, rfl, rfl⟩ ⟨rfl, rfl, rfl⟩
  · refine V_iconst (v := 0) dX10_nextStation_8 (by decide) ?_
    refine V_goto (tgt := 20) dX10_nextStation_9 rfl ?_
    obtain rfl := Option.some.inj h
    exact V_ireturn dX10_nextStation_20 ⟨_, rfl, rfl⟩ ⟨rfl, rfl, rfl⟩
noncomputable def f_X10_origin (W : Nat → Nat → Int32) (a1 : Int32) : Option (Int32 × (Nat → Nat → Int32)) :=
  bd2 (f_X10_ofIt W a1 (0 : Int32)) (fun v2 W1 => some (v2, W1))
theorem e_X10_origin {G : GT} {f0 : Nat} {b c : Nat} {M : MM} {hi k n : Nat} {W : Nat → Nat → Int32} {a1 : Int32} {r : (Int32 × (Nat → Nat → Int32))} (hf0 : 5 ≤ f0) (hc2 : 619 ≤ c) (h : f_X10_origin W a1 = some r) : Ex G f0 mX10_origin [.ref (b + 609), .int a1] (MEM b c W M) hi k n (RH (.inl (some (.int r.1))) (MEM b c r.2 M) hi) := by
  obtain ⟨f, rfl, hf⟩ := suc_of hf0
  unfold f_X10_origin at h
  refine ⟨Nat.le_of_ble_eq_true rfl, ?_⟩
  refine V_aload_n (i := 0) dX10_origin_0 rfl rfl ?_
  refine V_iload_n (i := 1) dX10_origin_1 rfl rfl ?_
  refine V_iconst (v := 0) dX10_origin_2 (by decide) ?_
  refine D_cVIW (As := [_, _]) (μ := fun W1 => (MEM b c W1 M)) h dX10_origin_3 cv_X10_306 rfl ⟨_, _, _, (mem_30 hc2), rfl, rfl⟩ rfl (Nat.le_of_ble_eq_true rfl) (fun x y hx => e_X10_ofIt (Nat.le_trans (Nat.le_of_ble_eq_true rfl) hf) hc2 hx) fun v2 W1 h => ?_
  obtain rfl := Option.some.inj h
  exact V_ireturn dX10_origin_6 ⟨_, rfl, rfl⟩ ⟨rfl, rfl, rfl⟩
