noncomputable def f_X10_outputByte (W : Nat → Nat → Int32) (a1 : Int32) : Option (Int32 × (Nat → Nat → Int32)) :=
  bd2 (f_X10_noNumber W a1 (0 : Int32) ((W 30 11) - (1 : Int32))) (fun v2 W1 => if v2 = 0 then gd (inr a1 200) (some (W1 29 (ix a1), W1)) else some ((0 : Int32), W1))
theorem e_X10_outputByte {G : GT} {f0 : Nat} {b c : Nat} {M : MM} {hi k n : Nat} {W : Nat → Nat → Int32} {a1 : Int32} {r : (Int32 × (Nat → Nat → Int32))} (hf0 : 3 ≤ f0) (hc2 : 619 ≤ c) (h : f_X10_outputByte W a1 = some r) : Ex G f0 mX10_outputByte [.ref (b + 609), .int a1] (MEM b c W M) hi k n (RH (.inl (some (.int r.1))) (MEM b c r.2 M) hi) := by
  obtain ⟨f, rfl, hf⟩ := suc_of hf0
  unfold f_X10_outputByte at h
  refine ⟨Nat.le_of_ble_eq_true rfl, ?_⟩
  refine V_aload_n (i := 0) dX10_outputByte_0 rfl rfl ?_
  refine V_iload_n (i := 1) dX10_outputByte_1 rfl rfl ?_
  refine V_iconst (v := 0) dX10_outputByte_2 (by decide) ?_
  refine V_aload_n (i := 0) dX10_outputByte_3 rfl rfl ?_
  refine V_getfield dX10_outputByte_4 (mem_30 hc2) fl_X10_322 rfl ?_
  refine V_iconst (v := 1) dX10_outputByte_7 (by decide) ?_
  refine V_isub dX10_outputByte_8 ?_
  refine D_cVIW (As := [_, _, _]) (μ := fun W1 => (MEM b c W1 M)) h dX10_outputByte_9 cv_X10_173 rfl ⟨_, _, _, (mem_30 hc2), rfl, rfl⟩ rfl (Nat.le_of_ble_eq_true rfl) (fun x y hx => e_X10_noNumber (Nat.le_trans (Nat.le_of_ble_eq_true rfl) hf) hc2 hx) fun v2 W1 h => ?_
  refine D_if_eq (tgt := 19) h dX10_outputByte_12 rfl (fun b3 h => ?_) (fun b3 h => ?_)
  · refine V_aload_n (i := 0) dX10_outputByte_19 rfl rfl ?_
    refine V_getfield dX10_outputByte_20 (mem_30 hc2) fl_X10_39 rfl ?_
    refine V_iload_n (i := 1) dX10_outputByte_23 rfl rfl ?_
    refine D3_bld h (mem_29 hc2) dX10_outputByte_24 fun h => ?_
    obtain rfl := Option.some.inj h
    exact V_ireturn dX10_outputByte_25 ⟨_, rfl, rfl⟩ ⟨rfl, rfl, rfl⟩
  · refine V_iconst (v := 0) dX10_outputByte_15 (by decide) ?_
    refine V_goto (tgt := 25) dX10_outputByte_16 rfl ?_
    obtain rfl := Option.some.inj h
    exact V_ireturn dX10_outputByte_25 ⟨_, rfl, rfl⟩ ⟨rfl, rfl, rfl⟩
noncomputable def l_X10_parcelBalance_22 (W : Nat → Nat → Int32) (K49 : Int32 → Option (Int32 × (Nat → Nat → Int32))) : Nat → Int32 → Int32 → Option (Int32 × (Nat → Nat → Int32))
  | 0, _, _ => none
  | N + 1, x1, x2 => gd (inr (1 : Int32) 251) (if (W 21 (ix (1 : Int32))) ≤ x2 then K49 x1 else bdc (f_X10_waitingAt (pk (W 21) (W 27)) x2) (fun v5 => bnd (x1 - v5) (fun v6 => l_X10_parcelBalance_22 W K49 N v6 (x2 + (1 : Int32)))))
theorem lv_X10_parcelBalance_22 {G : GT} {f : Nat} {b c : Nat} {M : MM} {hi k n : Nat} {W : Nat → Nat → Int32} {K49 : Int32 → Option (Int32 × (Nat → Nat → Int32))} {r : (Int32 × (Nat → Nat → Int32))} (hf : 3 ≤ f) (hc2 : 619 ≤ c) (hK49 : ∀ (y1 : Int32), K49 y1 = some r → V G f (Ex G f) mX10_parcelBalance (RH (.inl (some (.int r.1))) (MEM b c r.2 M) hi) 49 [(0, .ref (b + 609)), (1, .int y1)] [] (MEM b c W M) hi k n) : ∀ (N : Nat) (x1 : Int32) (x2 : Int32) , l_X10_parcelBalance_22 W K49 N x1 x2 = some r → V G f (Ex G f) mX10_parcelBalance (RH (.inl (some (.int r.1))) (MEM b c r.2 M) hi) 22 [(0, .ref (b + 609)), (1, .int x1), (2, .int x2)] [] (MEM b c W M) hi k n := by
  intro N
  induction N with
  | zero => intro x1 x2 h; cases h
  | succ N ih =>
    intro x1 x2 h
    rw [l_X10_parcelBalance_22] at h
    refine V_iload_n (i := 2) dX10_parcelBalance_22 rfl rfl ?_
    refine V_aload_n (i := 0) dX10_parcelBalance_23 rfl rfl ?_
    refine V_getfield dX10_parcelBalance_24 (mem_30 hc2) fl_X10_7 rfl ?_
    refine V_iconst (v := 1) dX10_parcelBalance_27 (by decide) ?_
    refine D3_ild h (mem_21 hc2) dX10_parcelBalance_28 fun h => ?_
    refine D_icmp_ge (tgt := 49) h dX10_parcelBalance_29 rfl (fun b4 h => ?_) (fun b4 h => ?_)
    · exact V_sub (ks := [0, 1]) rfl (hK49 _ h)
    · refine V_iload_n (i := 1) dX10_parcelBalance_32 rfl rfl ?_
      refine V_aload_n (i := 0) dX10_parcelBalance_33 rfl rfl ?_
      refine V_getfield dX10_parcelBalance_34 (mem_30 hc2) fl_X10_7 rfl ?_
      refine V_iload_n (i := 2) dX10_parcelBalance_37 rfl rfl ?_
      refine D_cSI (As := [_, _]) h dX10_parcelBalance_38 cs_X10_290 rfl rfl (Nat.le_of_ble_eq_true rfl) (fun x hx => liftq0 (u := 21) hc2 ⟨by decide, by decide⟩ rfl (e_X10_waitingAt (Nat.le_trans (Nat.le_of_ble_eq_true rfl) hf) hx)) fun v5 h => ?_
      refine V_isub dX10_parcelBalance_41 ?_
      refine D_istore_n (i := 1) h dX10_parcelBalance_42 rfl (Nat.le_of_ble_eq_true rfl) fun v6 h => ?_
      refine D_iinc (i := 2) (w := 1) dX10_parcelBalance_43 rfl (by decide) (Nat.le_of_ble_eq_true rfl) ?_
      refine V_goto (tgt := 22) dX10_parcelBalance_46 rfl ?_
      exact V_sub (ks := [2, 1, 0]) rfl (ih _ _ h)
noncomputable def l_X10_parcelBalance_51 (W : Nat → Nat → Int32) : Nat → Int32 → Int32 → Option (Int32 × (Nat → Nat → Int32))
  | 0, _, _ => none
  | N + 1, x1, x2 => gd (inr (3 : Int32) 251) (if (W 21 (ix (3 : Int32))) ≤ x2 then some (x1, W) else bdc (f_X10_carried (pk (W 21) (W 27)) x2) (fun v9 => bnd (x1 - v9) (fun v10 => l_X10_parcelBalance_51 W N v10 (x2 + (1 : Int32)))))
theorem lv_X10_parcelBalance_51 {G : GT} {f : Nat} {b c : Nat} {M : MM} {hi k n : Nat} {W : Nat → Nat → Int32} {r : (Int32 × (Nat → Nat → Int32))} (hf : 3 ≤ f) (hc2 : 619 ≤ c) : ∀ (N : Nat) (x1 : Int32) (x2 : Int32) , l_X10_parcelBalance_51 W N x1 x2 = some r → V G f (Ex G f) mX10_parcelBalance (RH (.inl (some (.int r.1))) (MEM b c r.2 M) hi) 51 [(0, .ref (b + 609)), (1, .int x1), (2, .int x2)] [] (MEM b c W M) hi k n := by
  intro N
  induction N with
  | zero => intro x1 x2 h; cases h
  | succ N ih =>
    intro x1 x2 h
    rw [l_X10_parcelBalance_51] at h
    refine V_iload_n (i := 2) dX10_parcelBalance_51 rfl rfl ?_
    refine V_aload_n (i := 0) dX10_parcelBalance_52 rfl rfl ?_
    refine V_getfield dX10_parcelBalance_53 (mem_30 hc2) fl_X10_7 rfl ?_
    refine V_iconst (v := 3) dX10_parcelBalance_56 (by decide) ?_
    refine D3_ild h (mem_21 hc2) dX10_parcelBalance_57 fun h => ?_
    refine D_icmp_ge (tgt := 78) h dX10_parcelBalance_58 rfl (fun b8 h => ?_) (fun b8 h => ?_)
    · refine V_iload_n (i := 1) dX10_parcelBalance_78 rfl rfl ?_
      obtain rfl := Option.some.inj h
      exact V_ireturn dX10_parcelBalance_79 ⟨_, rfl, rfl⟩ ⟨rfl, rfl, rfl⟩
    · refine V_iload_n (i := 1) dX10_parcelBalance_61 rfl rfl ?_
      refine V_aload_n (i := 0) dX10_parcelBalance_62 rfl rfl ?_
      refine V_getfield dX10_parcelBalance_63 (mem_30 hc2) fl_X10_7 rfl ?_
      refine V_iload_n (i := 2) dX10_parcelBalance_66 rfl rfl ?_
      refine D_cSI (As := [_, _]) h dX10_parcelBalance_67 cs_X10_116 rfl rfl (Nat.le_of_ble_eq_true rfl) (fun x hx => liftq0 (u := 21) hc2 ⟨by decide, by decide⟩ rfl (e_X10_carried (Nat.le_trans (Nat.le_of_ble_eq_true rfl) hf) hx)) fun v9 h => ?_
      refine V_isub dX10_parcelBalance_70 ?_
      refine D_istore_n (i := 1) h dX10_parcelBalance_71 rfl (Nat.le_of_ble_eq_true rfl) fun v10 h => ?_
      refine D_iinc (i := 2) (w := 1) dX10_parcelBalance_72 rfl (by decide) (Nat.le_of_ble_eq_true rfl) ?_
      refine V_goto (tgt := 51) dX10_parcelBalance_75 rfl ?_
      exact V_sub (ks := [2, 1, 0]) rfl (ih _ _ h)
noncomputable def f_X10_parcelBalance (W : Nat → Nat → Int32) : Option (Int32 × (Nat → Nat → Int32)) :=
  bnd (w2 W 30 2 (0 : Int32)) (fun W1 => gd (inr (4 : Int32) 251) (bdc (f_X10_deliveredIn (pk (W1 21) (W1 27))) (fun v2 => bnd ((W1 21 (ix (4 : Int32))) - v2) (fun v3 => l_X10_parcelBalance_22 W1 (fun (x7 : Int32) => l_X10_parcelBalance_51 W1 FU x7 (0 : Int32)) FU v3 (0 : Int32)))))
theorem e_X10_parcelBalance {G : GT} {f0 : Nat} {b c : Nat} {M : MM} {hi k n : Nat} {W : Nat → Nat → Int32} {r : (Int32 × (Nat → Nat → Int32))} (hf0 : 4 ≤ f0) (hc2 : 619 ≤ c) (h : f_X10_parcelBalance W = some r) : Ex G f0 mX10_parcelBalance [.ref (b + 609)] (MEM b c W M) hi k n (RH (.inl (some (.int r.1))) (MEM b c r.2 M) hi) := by
  obtain ⟨f, rfl, hf⟩ := suc_of hf0
  unfold f_X10_parcelBalance at h
  refine ⟨Nat.le_of_ble_eq_true rfl, ?_⟩
  refine V_aload_n (i := 0) dX10_parcelBalance_0 rfl rfl ?_
  refine V_iconst (v := 0) dX10_parcelBalance_1 (by decide) ?_
  refine D3_put h dX10_parcelBalance_2 (mem_30 hc2) (fp_X10_69 rfl) (Nat.le_of_ble_eq_true rfl) (psc_30_2 hc2) fun W1 h => ?_
  refine V_aload_n (i := 0) dX10_parcelBalance_5 rfl rfl ?_
  refine V_getfield dX10_parcelBalance_6 (mem_30 hc2) fl_X10_7 rfl ?_
  refine V_iconst (v := 4) dX10_parcelBalance_9 (by decide) ?_
  refine D3_ild h (mem_21 hc2) dX10_parcelBalance_10 fun h => ?_
  refine V_aload_n (i := 0) dX10_parcelBalance_11 rfl rfl ?_
  refine V_getfield dX10_parcelBalance_12 (mem_30 hc2) fl_X10_7 rfl ?_
  refine D_cSI (As := [_]) h dX10_parcelBalance_15 cs_X10_309 rfl rfl (Nat.le_of_ble_eq_true rfl) (fun x hx => liftq0 (u := 21) hc2 ⟨by decide, by decide⟩ rfl (e_X10_deliveredIn (Nat.le_trans (Nat.le_of_ble_eq_true rfl) hf) hx)) fun v2 h => ?_
  refine V_isub dX10_parcelBalance_18 ?_
  refine D_istore_n (i := 1) h dX10_parcelBalance_19 rfl (Nat.le_of_ble_eq_true rfl) fun v3 h => ?_
  refine V_iconst (v := 0) dX10_parcelBalance_20 (by decide) ?_
  refine V_istore_n (i := 2) dX10_parcelBalance_21 rfl (Nat.le_of_ble_eq_true rfl) ?_
  refine V_sub (ks := [2, 1, 0]) rfl (lv_X10_parcelBalance_22 hf hc2 ?_ FU _ _ h)
  · intro x7 h
    refine V_iconst (v := 0) dX10_parcelBalance_49 (by decide) ?_
    refine V_istore_n (i := 2) dX10_parcelBalance_50 rfl (Nat.le_of_ble_eq_true rfl) ?_
    refine V_sub (ks := [1, 2, 0]) rfl (lv_X10_parcelBalance_51 hf hc2 FU _ _ h)
noncomputable def f_X10_parcelCount (W : Nat → Nat → Int32) : Option (Int32 × (Nat → Nat → Int32)) :=
  bnd (w2 W 30 2 (0 : Int32)) (fun W1 => gd (inr (4 : Int32) 251) (some (W1 21 (ix (4 : Int32)), W1)))
theorem e_X10_parcelCount {G : GT} {f0 : Nat} {b c : Nat} {M : MM} {hi k n : Nat} {W : Nat → Nat → Int32} {r : (Int32 × (Nat → Nat → Int32))} (hf0 : 1 ≤ f0) (hc2 : 619 ≤ c) (h : f_X10_parcelCount W = some r) : Ex G f0 mX10_parcelCount [.ref (b + 609)] (MEM b c W M) hi k n (RH (.inl (some (.int r.1))) (MEM b c r.2 M) hi) := by
  obtain ⟨f, rfl, hf⟩ := suc_of hf0
  unfold f_X10_parcelCount at h
  refine ⟨Nat.le_of_ble_eq_true rfl, ?_⟩
  refine V_aload_n (i := 0) dX10_parcelCount_0 rfl rfl ?_
  refine V_iconst (v := 0) dX10_parcelCount_1 (by decide) ?_
  refine D3_put h dX10_parcelCount_2 (mem_30 hc2) (fp_X10_69 rfl) (Nat.le_of_ble_eq_true rfl) (psc_30_2 hc2) fun W1 h => ?_
  refine V_aload_n (i := 0) dX10_parcelCount_5 rfl rfl ?_
  refine V_getfield dX10_parcelCount_6 (mem_30 hc2) fl_X10_7 rfl ?_
  refine V_iconst (v := 4) dX10_parcelCount_9 (by decide) ?_
  refine D3_ild h (mem_21 hc2) dX10_parcelCount_10 fun h => ?_
  obtain rfl := Option.some.inj h
  exact V_ireturn dX10_parcelCount_11 ⟨_, rfl, rfl⟩ ⟨rfl, rfl, rfl⟩
noncomputable def f_X10_parcelStation (W : Nat → Nat → Int32) (a1 : Int32) : Option (Int32 × (Nat → Nat → Int32)) :=
  bd2 (f_X10_ofIt W a1 (3 : Int32)) (fun v2 W1 => some (v2, W1))
theorem e_X10_parcelStation {G : GT} {f0 : Nat} {b c : Nat} {M : MM} {hi k n : Nat} {W : Nat → Nat → Int32} {a1 : Int32} {r : (Int32 × (Nat → Nat → Int32))} (hf0 : 5 ≤ f0) (hc2 : 619 ≤ c) (h : f_X10_parcelStation W a1 = some r) : Ex G f0 mX10_parcelStation [.ref (b + 609), .int a1] (MEM b c W M) hi k n (RH (.inl (some (.int r.1))) (MEM b c r.2 M) hi) := by
  obtain ⟨f, rfl, hf⟩ := suc_of hf0
  unfold f_X10_parcelStation at h
  refine ⟨Nat.le_of_ble_eq_true rfl, ?_⟩
  refine V_aload_n (i := 0) dX10_parcelStation_0 rfl rfl ?_
  refine V_iload_n (i := 1) dX10_parcelStation_1 rfl rfl ?_
  refine V_iconst (v := 3) dX10_parcelStation_2 (by decide) ?_
  refine D_cVIW (As := [_, _]) (μ := fun W1 => (MEM b c W1 M)) h dX10_parcelStation_3 cv_X10_306 rfl ⟨_, _, _, (mem_30 hc2), rfl, rfl⟩ rfl (Nat.le_of_ble_eq_true rfl) (fun x y hx => e_X10_ofIt (Nat.le_trans (Nat.le_of_ble_eq_true rfl) hf) hc2 hx) fun v2 W1 h => ?_
  obtain rfl := Option.some.inj h
  exact V_ireturn dX10_parcelStation_6 ⟨_, rfl, rfl⟩ ⟨rfl, rfl, rfl⟩
noncomputable def f_X10_parcelTrain (W : Nat → Nat → Int32) (a1 : Int32) : Option (Int32 × (Nat → Nat → Int32)) :=
  bd2 (f_X10_ofIt W a1 (4 : Int32)) (fun v2 W1 => some (v2, W1))
theorem e_X10_parcelTrain {G : GT} {f0 : Nat} {b c : Nat} {M : MM} {hi k n : Nat} {W : Nat → Nat → Int32} {a1 : Int32} {r : (Int32 × (Nat → Nat → Int32))} (hf0 : 5 ≤ f0) (hc2 : 619 ≤ c) (h : f_X10_parcelTrain W a1 = some r) : Ex G f0 mX10_parcelTrain [.ref (b + 609), .int a1] (MEM b c W M) hi k n (RH (.inl (some (.int r.1))) (MEM b c r.2 M) hi) := by
  obtain ⟨f, rfl, hf⟩ := suc_of hf0
  unfold f_X10_parcelTrain at h
  refine ⟨Nat.le_of_ble_eq_true rfl, ?_⟩
  refine V_aload_n (i := 0) dX10_parcelTrain_0 rfl rfl ?_
  refine V_iload_n (i := 1) dX10_parcelTrain_1 rfl rfl ?_
  refine V_iconst (v := 4) dX10_parcelTrain_2 (by decide) ?_
  refine D_cVIW (As := [_, _]) (μ := fun W1 => (MEM b c W1 M)) h dX10_parcelTrain_3 cv_X10_306 rfl ⟨_, _, _, (mem_30 hc2), rfl, rfl⟩ rfl (Nat.le_of_ble_eq_true rfl) (fun x y hx => e_X10_ofIt (Nat.le_trans (Nat.le_of_ble_eq_true rfl) hf) hc2 hx) fun v2 W1 h => ?_
  obtain rfl := Option.some.inj h
  exact V_ireturn dX10_parcelTrain_6 ⟨_, rfl, rfl⟩ ⟨rfl, rfl, rfl⟩
noncomputable def f_X10_pass (W : Nat → Nat → Int32) (a1 : Int32) : Option (Int32 × (Nat → Nat → Int32)) :=
  bd2 (f_X10_noNumber W a1 (1 : Int32) (60 : Int32)) (fun v2 W1 => if v2 = 0 then bdc (f_X10_remember W1) (fun W4 => bdc (f_X10_deliveredIn (pk (W4 21) (W4 27))) (fun v5 => bdc (f_X10_minutes (pk (W4 21) (W4 27)) a1) (fun S7 => bnd (setQ W4 21 S7) (fun W6 => bdc (f_X10_deliveredIn (pk (W6 21) (W6 27))) (fun v8 => some (v8 - v5, W6)))))) else some ((0 : Int32), W1))
theorem e_X10_pass {G : GT} {f0 : Nat} {b c : Nat} {M : MM} {hi k n : Nat} {W : Nat → Nat → Int32} {a1 : Int32} {r : (Int32 × (Nat → Nat → Int32))} (hf0 : 11 ≤ f0) (hc2 : 619 ≤ c) (h : f_X10_pass W a1 = some r) : Ex G f0 mX10_pass [.ref (b + 609), .int a1] (MEM b c W M) hi k n (RH (.inl (some (.int r.1))) (MEM b c r.2 M) hi) := by
  obtain ⟨f, rfl, hf⟩ := suc_of hf0
  unfold f_X10_pass at h
  refine ⟨Nat.le_of_ble_eq_true rfl, ?_⟩
  refine V_aload_n (i := 0) dX10_pass_0 rfl rfl ?_
  refine V_iload_n (i := 1) dX10_pass_1 rfl rfl ?_
  refine V_iconst (v := 1) dX10_pass_2 (by decide) ?_
  refine V_bipush (v := 60) dX10_pass_3 (by decide) ?_
  refine D_cVIW (As := [_, _, _]) (μ := fun W1 => (MEM b c W1 M)) h dX10_pass_5 cv_X10_173 rfl ⟨_, _, _, (mem_30 hc2), rfl, rfl⟩ rfl (Nat.le_of_ble_eq_true rfl) (fun x y hx => e_X10_noNumber (Nat.le_trans (Nat.le_of_ble_eq_true rfl) hf) hc2 hx) fun v2 W1 h => ?_
  refine D_if_eq (tgt := 13) h dX10_pass_8 rfl (fun b3 h => ?_) (fun b3 h => ?_)
  · refine V_aload_n (i := 0) dX10_pass_13 rfl rfl ?_
    refine D_cVU (As := []) (μ := fun W4 => (MEM b c W4 M)) h dX10_pass_14 cv_X10_277 rfl ⟨_, _, _, (mem_30 hc2), rfl, rfl⟩ rfl (Nat.le_of_ble_eq_true rfl) (fun y hx => e_X10_remember (Nat.le_trans (Nat.le_of_ble_eq_true rfl) hf) hc2 hx) fun W4 h => ?_
    refine V_aload_n (i := 0) dX10_pass_17 rfl rfl ?_
    refine V_getfield dX10_pass_18 (mem_30 hc2) fl_X10_7 rfl ?_
    refine D_cSI (As := [_]) h dX10_pass_21 cs_X10_309 rfl rfl (Nat.le_of_ble_eq_true rfl) (fun x hx => liftq0 (u := 21) hc2 ⟨by decide, by decide⟩ rfl (e_X10_deliveredIn (Nat.le_trans (Nat.le_of_ble_eq_true rfl) hf) hx)) fun v5 h => ?_
    refine V_istore_n (i := 2) dX10_pass_24 rfl (Nat.le_of_ble_eq_true rfl) ?_
    refine V_aload_n (i := 0) dX10_pass_25 rfl rfl ?_
    refine V_aload_n (i := 0) dX10_pass_26 rfl rfl ?_
    refine V_getfield dX10_pass_27 (mem_30 hc2) fl_X10_7 rfl ?_
    refine V_iload_n (i := 1) dX10_pass_30 rfl rfl ?_
    refine D_cVU (As := [_, _]) (μ := fun S7 => (MEM b c (setQ W4 21 S7) M)) h dX10_pass_31 cv_X10_230 rfl ⟨_, _, _, (mem_30 hc2), rfl, rfl⟩ rfl (Nat.le_of_ble_eq_true rfl) (fun y hx => liftq1 (u := 21) hc2 ⟨by decide, by decide⟩ rfl (e_X10_minutes (Nat.le_trans (Nat.le_of_ble_eq_true rfl) hf) (RQ_m (u := 21) hc2 ⟨by decide, by decide⟩) hx)) fun S7 h => ?_
    refine D3_gen (μ := fun W => (MEM b c W M)) h fun W6 h => ?_
    refine V_aload_n (i := 0) dX10_pass_34 rfl rfl ?_
    refine V_getfield dX10_pass_35 (mem_30 hc2) fl_X10_7 rfl ?_
    refine D_cSI (As := [_]) h dX10_pass_38 cs_X10_309 rfl rfl (Nat.le_of_ble_eq_true rfl) (fun x hx => liftq0 (u := 21) hc2 ⟨by decide, by decide⟩ rfl (e_X10_deliveredIn (Nat.le_trans (Nat.le_of_ble_eq_true rfl) hf) hx)) fun v8 h => ?_
    refine V_iload_n (i := 2) dX10_pass_41 rfl rfl ?_
    refine V_isub dX10_pass_42 ?_
    obtain rfl := Option.some.inj h
    exact V_ireturn dX10_pass_43 ⟨_, rfl, rfl⟩ ⟨rfl, rfl, rfl⟩
  · refine V_iconst (v := 0) dX10_pass_11 (by decide) ?_
    obtain rfl := Option.some.inj h
    exact V_ireturn dX10_pass_12 ⟨_, rfl, rfl⟩ ⟨rfl, rfl, rfl⟩
noncomputable def f_X10_print (W : Nat → Nat → Int32) (a1 : Int32) : Option (Nat → Nat → Int32) :=
  gd (inr (W 30 11) 200) (bnd (w2 W 29 (ix (W 30 11)) (nb ((a1).toInt8.toInt32))) (fun W1 => bnd (w2 W1 30 11 ((W1 30 11) + (1 : Int32))) (fun W2 => some W2)))
theorem e_X10_print {G : GT} {f0 : Nat} {b c : Nat} {M : MM} {hi k n : Nat} {W : Nat → Nat → Int32} {a1 : Int32} {r : (Nat → Nat → Int32)} (hf0 : 1 ≤ f0) (hc2 : 619 ≤ c) (h : f_X10_print W a1 = some r) : Ex G f0 mX10_print [.ref (b + 609), .int a1] (MEM b c W M) hi k n (RH (.inl none) (MEM b c r M) hi) := by
  obtain ⟨f, rfl, hf⟩ := suc_of hf0
  unfold f_X10_print at h
  refine ⟨Nat.le_of_ble_eq_true rfl, ?_⟩
  refine V_aload_n (i := 0) dX10_print_0 rfl rfl ?_
  refine V_getfield dX10_print_1 (mem_30 hc2) fl_X10_39 rfl ?_
  refine V_aload_n (i := 0) dX10_print_4 rfl rfl ?_
  refine V_getfield dX10_print_5 (mem_30 hc2) fl_X10_322 rfl ?_
  refine V_iload_n (i := 1) dX10_print_8 rfl rfl ?_
  refine V_i2b dX10_print_9 rfl ?_
  refine D3_bst (u := 29) h (mem_29 hc2) (pst_29 hc2) dX10_print_10 fun W1 h => ?_
  refine V_aload_n (i := 0) dX10_print_11 rfl rfl ?_
  refine V_dup dX10_print_12 rfl ?_
  refine V_getfield dX10_print_13 (mem_30 hc2) fl_X10_322 rfl ?_
  refine V_iconst (v := 1) dX10_print_16 (by decide) ?_
  refine V_iadd dX10_print_17 ?_
  refine D3_put h dX10_print_18 (mem_30 hc2) (fp_X10_322 rfl) (Nat.le_of_ble_eq_true rfl) (psc_30_11 hc2) fun W2 h => ?_
  obtain rfl := Option.some.inj h
  exact V_return dX10_print_21 rfl ⟨rfl, rfl, rfl⟩
noncomputable def l_X10_printName_14 (c2 : Int32) : Nat → (Nat → Nat → Int32) → Int32 → Option (Nat → Nat → Int32)
  | 0, _, _ => none
  | N + 1, W, x3 => if (4 : Int32) ≤ x3 then some W else bdc (f_X10_letterOf c2 x3) (fun v4 => if v4 ≤ 0 then some W else bdc (f_X10_letterOf c2 x3) (fun v6 => bdc (f_X10_print W ((96 : Int32) + v6)) (fun W7 => l_X10_printName_14 c2 N W7 (x3 + (1 : Int32)))))
theorem lv_X10_printName_14 {G : GT} {f : Nat} {b c : Nat} {M : MM} {hi k n : Nat} {c2 : Int32} {r : (Nat → Nat → Int32)} (hf : 1 ≤ f) (hc2 : 619 ≤ c) : ∀ (N : Nat) (W : Nat → Nat → Int32) (x3 : Int32) , l_X10_printName_14 c2 N W x3 = some r → V G f (Ex G f) mX10_printName (RH (.inl none) (MEM b c r M) hi) 14 [(0, .ref (b + 609)), (2, .int c2), (3, .int x3)] [] (MEM b c W M) hi k n := by
  intro N
  induction N with
  | zero => intro W x3 h; cases h
  | succ N ih =>
    intro W x3 h
    rw [l_X10_printName_14] at h
    refine V_iload_n (i := 3) dX10_printName_14 rfl rfl ?_
    refine V_iconst (v := 4) dX10_printName_15 (by decide) ?_
    refine D_icmp_ge (tgt := 45) h dX10_printName_16 rfl (fun b3 h => ?_) (fun b3 h => ?_)
    · obtain rfl := Option.some.inj h
      exact V_return dX10_printName_45 rfl ⟨rfl, rfl, rfl⟩
    · refine V_iload_n (i := 2) dX10_printName_19 rfl rfl ?_
      refine V_iload_n (i := 3) dX10_printName_20 rfl rfl ?_
      refine D_cSI (As := [_, _]) h dX10_printName_21 cs_X10_325 rfl rfl (Nat.le_of_ble_eq_true rfl) (fun x hx => e_X10_letterOf (Nat.le_trans (Nat.le_of_ble_eq_true rfl) hf) hx) fun v4 h => ?_
      refine D_if_le (tgt := 45) h dX10_printName_24 rfl (fun b5 h => ?_) (fun b5 h => ?_)
      · obtain rfl := Option.some.inj h
        exact V_return dX10_printName_45 rfl ⟨rfl, rfl, rfl⟩
      · refine V_aload_n (i := 0) dX10_printName_27 rfl rfl ?_
        refine V_bipush (v := 96) dX10_printName_28 (by decide) ?_
        refine V_iload_n (i := 2) dX10_printName_30 rfl rfl ?_
        refine V_iload_n (i := 3) dX10_printName_31 rfl rfl ?_
        refine D_cSI (As := [_, _]) h dX10_printName_32 cs_X10_325 rfl rfl (Nat.le_of_ble_eq_true rfl) (fun x hx => e_X10_letterOf (Nat.le_trans (Nat.le_of_ble_eq_true rfl) hf) hx) fun v6 h => ?_
        refine V_iadd dX10_printName_35 ?_
        refine D_cVU (As := [_]) (μ := fun W7 => (MEM b c W7 M)) h dX10_printName_36 cv_X10_328 rfl ⟨_, _, _, (mem_30 hc2), rfl, rfl⟩ rfl (Nat.le_of_ble_eq_true rfl) (fun y hx => e_X10_print (Nat.le_trans (Nat.le_of_ble_eq_true rfl) hf) hc2 hx) fun W7 h => ?_
        refine D_iinc (i := 3) (w := 1) dX10_printName_39 rfl (by decide) (Nat.le_of_ble_eq_true rfl) ?_
        refine V_goto (tgt := 14) dX10_printName_42 rfl ?_
        exact V_sub (ks := [1, 2, 0]) rfl (ih _ _ h)
noncomputable def f_X10_printName (W : Nat → Nat → Int32) (a1 : Int32) : Option (Nat → Nat → Int32) :=
  bdc (f_X10_ofStation a1) (fun v1 => gd (inr (v1 + (0 : Int32)) 251) (bnd (W 21 (ix (v1 + (0 : Int32)))) (fun v2 => l_X10_printName_14 v2 FU W (0 : Int32))))
theorem e_X10_printName {G : GT} {f0 : Nat} {b c : Nat} {M : MM} {hi k n : Nat} {W : Nat → Nat → Int32} {a1 : Int32} {r : (Nat → Nat → Int32)} (hf0 : 2 ≤ f0) (hc2 : 619 ≤ c) (h : f_X10_printName W a1 = some r) : Ex G f0 mX10_printName [.ref (b + 609), .int a1] (MEM b c W M) hi k n (RH (.inl none) (MEM b c r M) hi) := by
  obtain ⟨f, rfl, hf⟩ := suc_of hf0
  unfold f_X10_printName at h
  refine ⟨Nat.le_of_ble_eq_true rfl, ?_⟩
  refine V_aload_n (i := 0) dX10_printName_0 rfl rfl ?_
  refine V_getfield dX10_printName_1 (mem_30 hc2) fl_X10_7 rfl ?_
  refine V_iload_n (i := 1) dX10_printName_4 rfl rfl ?_
  refine D_cSI (As := [_]) h dX10_printName_5 cs_X10_134 rfl rfl (Nat.le_of_ble_eq_true rfl) (fun x hx => e_X10_ofStation (Nat.le_trans (Nat.le_of_ble_eq_true rfl) hf) hx) fun v1 h => ?_
  refine V_iconst (v := 0) dX10_printName_8 (by decide) ?_
  refine V_iadd dX10_printName_9 ?_
  refine D3_ild h (mem_21 hc2) dX10_printName_10 fun h => ?_
  refine D_istore_n (i := 2) h dX10_printName_11 rfl (Nat.le_of_ble_eq_true rfl) fun v2 h => ?_
  refine V_iconst (v := 0) dX10_printName_12 (by decide) ?_
  refine V_istore_n (i := 3) dX10_printName_13 rfl (Nat.le_of_ble_eq_true rfl) ?_
  refine V_sub (ks := [2, 1, 0]) rfl (lv_X10_printName_14 hf hc2 FU _ _ h)
noncomputable def f_X10_priority (W : Nat → Nat → Int32) (a1 : Int32) : Option (Int32 × (Nat → Nat → Int32)) :=
  bd2 (f_X10_ofIt W a1 (2 : Int32)) (fun v2 W1 => some (v2, W1))
theorem e_X10_priority {G : GT} {f0 : Nat} {b c : Nat} {M : MM} {hi k n : Nat} {W : Nat → Nat → Int32} {a1 : Int32} {r : (Int32 × (Nat → Nat → Int32))} (hf0 : 5 ≤ f0) (hc2 : 619 ≤ c) (h : f_X10_priority W a1 = some r) : Ex G f0 mX10_priority [.ref (b + 609), .int a1] (MEM b c W M) hi k n (RH (.inl (some (.int r.1))) (MEM b c r.2 M) hi) := by
  obtain ⟨f, rfl, hf⟩ := suc_of hf0
  unfold f_X10_priority at h
  refine ⟨Nat.le_of_ble_eq_true rfl, ?_⟩
  refine V_aload_n (i := 0) dX10_priority_0 rfl rfl ?_
  refine V_iload_n (i := 1) dX10_priority_1 rfl rfl ?_
  refine V_iconst (v := 2) dX10_priority_2 (by decide) ?_
  refine D_cVIW (As := [_, _]) (μ := fun W1 => (MEM b c W1 M)) h dX10_priority_3 cv_X10_306 rfl ⟨_, _, _, (mem_30 hc2), rfl, rfl⟩ rfl (Nat.le_of_ble_eq_true rfl) (fun x y hx => e_X10_ofIt (Nat.le_trans (Nat.le_of_ble_eq_true rfl) hf) hc2 hx) fun v2 W1 h => ?_
  obtain rfl := Option.some.inj h
  exact V_ireturn dX10_priority_6 ⟨_, rfl, rfl⟩ ⟨rfl, rfl, rfl⟩
noncomputable def f_X10_restore (W : Nat → Nat → Int32) (a1 : Int32) : Option (Int32 × (Nat → Nat → Int32)) :=
  bd2 (f_X10_noNumber W a1 (0 : Int32) (1 : Int32)) (fun v2 W1 => if v2 = 0 then gd (inr a1 2) (jn (fun (v5 : Int32) => bd2 (f_X10_refuses W1 v5 (2 : Int32)) (fun v8 W7 => if v8 = 0 then bdc (f_X10_remember W7) (fun W10 => bdc (f_X10_copyRow W10 25 ((251 : Int32) * a1) 21 (0 : Int32)) (fun W11 => gd (inr (0 : Int32) 251) (some (W11 21 (ix (0 : Int32)), W11)))) else some ((0 : Int32), W7))) (fun j4 => if (W1 26 (ix a1)) = 0 then j4 (1 : Int32) else j4 (0 : Int32))) else some ((0 : Int32), W1))
theorem e_X10_restore {G : GT} {f0 : Nat} {b c : Nat} {M : MM} {hi k n : Nat} {W : Nat → Nat → Int32} {a1 : Int32} {r : (Int32 × (Nat → Nat → Int32))} (hf0 : 3 ≤ f0) (hc2 : 619 ≤ c) (h : f_X10_restore W a1 = some r) : Ex G f0 mX10_restore [.ref (b + 609), .int a1] (MEM b c W M) hi k n (RH (.inl (some (.int r.1))) (MEM b c r.2 M) hi) := by
  obtain ⟨f, rfl, hf⟩ := suc_of hf0
  unfold f_X10_restore at h
  refine ⟨Nat.le_of_ble_eq_true rfl, ?_⟩
  refine V_aload_n (i := 0) dX10_restore_0 rfl rfl ?_
  refine V_iload_n (i := 1) dX10_restore_1 rfl rfl ?_
  refine V_iconst (v := 0) dX10_restore_2 (by decide) ?_
  refine V_iconst (v := 1) dX10_restore_3 (by decide) ?_
  refine D_cVIW (As := [_, _, _]) (μ := fun W1 => (MEM b c W1 M)) h dX10_restore_4 cv_X10_173 rfl ⟨_, _, _, (mem_30 hc2), rfl, rfl⟩ rfl (Nat.le_of_ble_eq_true rfl) (fun x y hx => e_X10_noNumber (Nat.le_trans (Nat.le_of_ble_eq_true rfl) hf) hc2 hx) fun v2 W1 h => ?_
  refine D_if_ne (tgt := 32) h dX10_restore_7 rfl (fun b3 h => ?_) (fun b3 h => ?_)
  · refine V_iconst (v := 0) dX10_restore_32 (by decide) ?_
    obtain rfl := Option.some.inj h
    exact V_ireturn dX10_restore_33 ⟨_, rfl, rfl⟩ ⟨rfl, rfl, rfl⟩
  · refine V_aload_n (i := 0) dX10_restore_10 rfl rfl ?_
    refine V_aload_n (i := 0) dX10_restore_11 rfl rfl ?_
    refine V_getfield dX10_restore_12 (mem_30 hc2) fl_X10_25 rfl ?_
    refine V_iload_n (i := 1) dX10_restore_15 rfl rfl ?_
    refine D3_zld h (mem_26 hc2) dX10_restore_16 fun h => ?_
    refine D_jn (fun (j : Int32 → Option (Int32 × (Nat → Nat → Int32))) => ∀ (v5 : Int32), j v5 = some r → V G f (Ex G f) mX10_restore (RH (.inl (some (.int r.1))) (MEM b c r.2 M) hi) 25 [(0, .ref (b + 609)), (1, .int a1)] [.int v5, .ref (b + 609)] (MEM b c W1 M) hi k n) h (fun j4 hj4 h => ?_) ?_
    · refine D_if_ne (tgt := 24) h dX10_restore_17 rfl (fun b6 h => ?_) (fun b6 h => ?_)
      · refine V_iconst (v := 0) dX10_restore_24 (by decide) ?_
        exact V_sub (ks := [0, 1]) rfl (hj4 _ h)
      · refine V_iconst (v := 1) dX10_restore_20 (by decide) ?_
        refine V_goto (tgt := 25) dX10_restore_21 rfl ?_
        exact V_sub (ks := [0, 1]) rfl (hj4 _ h)
    · intro v5 h
      refine V_iconst (v := 2) dX10_restore_25 (by decide) ?_
      refine D_cVIW (As := [_, _]) (μ := fun W7 => (MEM b c W7 M)) h dX10_restore_26 cv_X10_165 rfl ⟨_, _, _, (mem_30 hc2), rfl, rfl⟩ rfl (Nat.le_of_ble_eq_true rfl) (fun x y hx => e_X10_refuses (Nat.le_trans (Nat.le_of_ble_eq_true rfl) hf) hc2 hx) fun v8 W7 h => ?_
      refine D_if_eq (tgt := 34) h dX10_restore_29 rfl (fun b9 h => ?_) (fun b9 h => ?_)
      · refine V_aload_n (i := 0) dX10_restore_34 rfl rfl ?_
        refine D_cVU (As := []) (μ := fun W10 => (MEM b c W10 M)) h dX10_restore_35 cv_X10_277 rfl ⟨_, _, _, (mem_30 hc2), rfl, rfl⟩ rfl (Nat.le_of_ble_eq_true rfl) (fun y hx => e_X10_remember (Nat.le_trans (Nat.le_of_ble_eq_true rfl) hf) hc2 hx) fun W10 h => ?_
        refine V_aload_n (i := 0) dX10_restore_38 rfl rfl ?_
        refine V_getfield dX10_restore_39 (mem_30 hc2) fl_X10_22 rfl ?_
        refine V_sipush (v := 251) dX10_restore_42 (by decide) ?_
        refine V_iload_n (i := 1) dX10_restore_45 rfl rfl ?_
        refine V_imul dX10_restore_46 ?_
        refine V_aload_n (i := 0) dX10_restore_47 rfl rfl ?_
        refine V_getfield dX10_restore_48 (mem_30 hc2) fl_X10_7 rfl ?_
        refine V_iconst (v := 0) dX10_restore_51 (by decide) ?_
        refine D_cSU (As := [_, _, _, _]) (μ := fun W11 => (MEM b c W11 M)) h dX10_restore_52 cs_X10_55 rfl rfl (Nat.le_of_ble_eq_true rfl) (fun y hx => e_X10_copyRow (u0 := 25) (u2 := 21) (Nat.le_trans (Nat.le_of_ble_eq_true rfl) hf) hc2 ⟨by decide, by decide⟩ ⟨by decide, by decide⟩ hx) fun W11 h => ?_
        refine V_aload_n (i := 0) dX10_restore_55 rfl rfl ?_
        refine V_getfield dX10_restore_56 (mem_30 hc2) fl_X10_7 rfl ?_
        refine V_iconst (v := 0) dX10_restore_59 (by decide) ?_
        refine D3_ild h (mem_21 hc2) dX10_restore_60 fun h => ?_
        obtain rfl := Option.some.inj h
        exact V_ireturn dX10_restore_61 ⟨_, rfl, rfl⟩ ⟨rfl, rfl, rfl⟩
      · refine V_iconst (v := 0) dX10_restore_32 (by decide) ?_
        obtain rfl := Option.some.inj h
        exact V_ireturn dX10_restore_33 ⟨_, rfl, rfl⟩ ⟨rfl, rfl, rfl⟩
noncomputable def f_X10_routeLength (W : Nat → Nat → Int32) (a1 : Int32) : Option (Int32 × (Nat → Nat → Int32)) :=
  bd2 (f_X10_noTrain W a1) (fun v2 W1 => if v2 = 0 then bdc (f_X10_ofTrain a1) (fun v4 => gd (inr (v4 + (1 : Int32)) 251) (some (W1 21 (ix (v4 + (1 : Int32))), W1))) else some ((0 : Int32), W1))
theorem e_X10_routeLength {G : GT} {f0 : Nat} {b c : Nat} {M : MM} {hi k n : Nat} {W : Nat → Nat → Int32} {a1 : Int32} {r : (Int32 × (Nat → Nat → Int32))} (hf0 : 4 ≤ f0) (hc2 : 619 ≤ c) (h : f_X10_routeLength W a1 = some r) : Ex G f0 mX10_routeLength [.ref (b + 609), .int a1] (MEM b c W M) hi k n (RH (.inl (some (.int r.1))) (MEM b c r.2 M) hi) := by
  obtain ⟨f, rfl, hf⟩ := suc_of hf0
  unfold f_X10_routeLength at h
  refine ⟨Nat.le_of_ble_eq_true rfl, ?_⟩
  refine V_aload_n (i := 0) dX10_routeLength_0 rfl rfl ?_
  refine V_iload_n (i := 1) dX10_routeLength_1 rfl rfl ?_
  refine D_cVIW (As := [_]) (μ := fun W1 => (MEM b c W1 M)) h dX10_routeLength_2 cv_X10_300 rfl ⟨_, _, _, (mem_30 hc2), rfl, rfl⟩ rfl (Nat.le_of_ble_eq_true rfl) (fun x y hx => e_X10_noTrain (Nat.le_trans (Nat.le_of_ble_eq_true rfl) hf) hc2 hx) fun v2 W1 h => ?_
  refine D_if_eq (tgt := 12) h dX10_routeLength_5 rfl (fun b3 h => ?_) (fun b3 h => ?_)
  · refine V_aload_n (i := 0) dX10_routeLength_12 rfl rfl ?_
    refine V_getfield dX10_routeLength_13 (mem_30 hc2) fl_X10_7 rfl ?_
    refine V_iload_n (i := 1) dX10_routeLength_16 rfl rfl ?_
    refine D_cSI (As := [_]) h dX10_routeLength_17 cs_X10_81 rfl rfl (Nat.le_of_ble_eq_true rfl) (fun x hx => e_X10_ofTrain (Nat.le_trans (Nat.le_of_ble_eq_true rfl) hf) hx) fun v4 h => ?_
    refine V_iconst (v := 1) dX10_routeLength_20 (by decide) ?_
    refine V_iadd dX10_routeLength_21 ?_
    refine D3_ild h (mem_21 hc2) dX10_routeLength_22 fun h => ?_
    obtain rfl := Option.some.inj h
    exact V_ireturn dX10_routeLength_23 ⟨_, rfl, rfl⟩ ⟨rfl, rfl, rfl⟩
  · refine V_iconst (v := 0) dX10_routeLength_8 (by decide) ?_
    refine V_goto (tgt := 23) dX10_routeLength_9 rfl ?_
    obtain rfl := Option.some.inj h
    exact V_ireturn dX10_routeLength_23 ⟨_, rfl, rfl⟩ ⟨rfl, rfl, rfl⟩
noncomputable def f_X10_routeStation (W : Nat → Nat → Int32) (a1 : Int32) (a2 : Int32) : Option (Int32 × (Nat → Nat → Int32)) :=
  bd2 (f_X10_noTrain W a1) (fun v2 W1 => if v2 = 0 then bdc (f_X10_ofTrain a1) (fun v4 => gd (inr (v4 + (1 : Int32)) 251) (bd2 (f_X10_out W1 a2 (0 : Int32) ((W1 21 (ix (v4 + (1 : Int32)))) - (1 : Int32))) (fun v6 W5 => if v6 = 0 then bdc (f_X10_routeAt (pk (W5 21) (W5 27)) a1 a2) (fun v8 => some (v8, W5)) else some ((0 : Int32), W5)))) else some ((0 : Int32), W1))
theorem e_X10_routeStation {G : GT} {f0 : Nat} {b c : Nat} {M : MM} {hi k n : Nat} {W : Nat → Nat → Int32} {a1 : Int32} {a2 : Int32} {r : (Int32 × (Nat → Nat → Int32))} (hf0 : 4 ≤ f0) (hc2 : 619 ≤ c) (h : f_X10_routeStation W a1 a2 = some r) : Ex G f0 mX10_routeStation [.ref (b + 609), .int a1, .int a2] (MEM b c W M) hi k n (RH (.inl (some (.int r.1))) (MEM b c r.2 M) hi) := by
  obtain ⟨f, rfl, hf⟩ := suc_of hf0
  unfold f_X10_routeStation at h
  refine ⟨Nat.le_of_ble_eq_true rfl, ?_⟩
  refine V_aload_n (i := 0) dX10_routeStation_0 rfl rfl ?_
  refine V_iload_n (i := 1) dX10_routeStation_1 rfl rfl ?_
  refine D_cVIW (As := [_]) (μ := fun W1 => (MEM b c W1 M)) h dX10_routeStation_2 cv_X10_300 rfl ⟨_, _, _, (mem_30 hc2), rfl, rfl⟩ rfl (Nat.le_of_ble_eq_true rfl) (fun x y hx => e_X10_noTrain (Nat.le_trans (Nat.le_of_ble_eq_true rfl) hf) hc2 hx) fun v2 W1 h => ?_
  refine D_if_ne (tgt := 30) h dX10_routeStation_5 rfl (fun b3 h => ?_) (fun b3 h => ?_)
  · refine V_iconst (v := 0) dX10_routeStation_30 (by decide) ?_
    refine V_goto (tgt := 43) dX10_routeStation_31 rfl ?_
    obtain rfl := Option.some.inj h
    exact V_ireturn dX10_routeStation_43 ⟨_, rfl, rfl⟩ ⟨rfl, rfl, rfl⟩
  · refine V_aload_n (i := 0) dX10_routeStation_8 rfl rfl ?_
    refine V_iload_n (i := 2) dX10_routeStation_9 rfl rfl ?_
    refine V_iconst (v := 0) dX10_routeStation_10 (by decide) ?_
    refine V_aload_n (i := 0) dX10_routeStation_11 rfl rfl ?_
    refine V_getfield dX10_routeStation_12 (mem_30 hc2) fl_X10_7 rfl ?_
    refine V_iload_n (i := 1) dX10_routeStation_15 rfl rfl ?_
    refine D_cSI (As := [_]) h dX10_routeStation_16 cs_X10_81 rfl rfl (Nat.le_of_ble_eq_true rfl) (fun x hx => e_X10_ofTrain (Nat.le_trans (Nat.le_of_ble_eq_true rfl) hf) hx) fun v4 h => ?_
    refine V_iconst (v := 1) dX10_routeStation_19 (by decide) ?_
    refine V_iadd dX10_routeStation_20 ?_
    refine D3_ild h (mem_21 hc2) dX10_routeStation_21 fun h => ?_
    refine V_iconst (v := 1) dX10_routeStation_22 (by decide) ?_
    refine V_isub dX10_routeStation_23 ?_
    refine D_cVIW (As := [_, _, _]) (μ := fun W5 => (MEM b c W5 M)) h dX10_routeStation_24 cv_X10_293 rfl ⟨_, _, _, (mem_30 hc2), rfl, rfl⟩ rfl (Nat.le_of_ble_eq_true rfl) (fun x y hx => e_X10_out (Nat.le_trans (Nat.le_of_ble_eq_true rfl) hf) hc2 hx) fun v6 W5 h => ?_
    refine D_if_eq (tgt := 34) h dX10_routeStation_27 rfl (fun b7 h => ?_) (fun b7 h => ?_)
    · refine V_aload_n (i := 0) dX10_routeStation_34 rfl rfl ?_
      refine V_getfield dX10_routeStation_35 (mem_30 hc2) fl_X10_7 rfl ?_
      refine V_iload_n (i := 1) dX10_routeStation_38 rfl rfl ?_
      refine V_iload_n (i := 2) dX10_routeStation_39 rfl rfl ?_
      refine D_cSI (As := [_, _, _]) h dX10_routeStation_40 cs_X10_84 rfl rfl (Nat.le_of_ble_eq_true rfl) (fun x hx => liftq0 (u := 21) hc2 ⟨by decide, by decide⟩ rfl (e_X10_routeAt (Nat.le_trans (Nat.le_of_ble_eq_true rfl) hf) hx)) fun v8 h => ?_
      obtain rfl := Option.some.inj h
      exact V_ireturn dX10_routeStation_43 ⟨_, rfl, rfl⟩ ⟨rfl, rfl, rfl⟩
    · refine V_iconst (v := 0) dX10_routeStation_30 (by decide) ?_
      refine V_goto (tgt := 43) dX10_routeStation_31 rfl ?_
      obtain rfl := Option.some.inj h
      exact V_ireturn dX10_routeStation_43 ⟨_, rfl, rfl⟩ ⟨rfl, rfl, rfl⟩
noncomputable def f_X10_save (W : Nat → Nat → Int32) (a1 : Int32) : Option (Int32 × (Nat → Nat → Int32)) :=
  bd2 (f_X10_noNumber W a1 (0 : Int32) (1 : Int32)) (fun v2 W1 => if v2 = 0 then bdc (f_X10_copyRow W1 21 (0 : Int32) 25 ((251 : Int32) * a1)) (fun W4 => gd (inr a1 2) (bnd (w2 W4 26 (ix a1) (nz (1 : Int32))) (fun W5 => gd (inr (0 : Int32) 251) (some (W5 21 (ix (0 : Int32)), W5))))) else some ((0 : Int32), W1))
theorem e_X10_save {G : GT} {f0 : Nat} {b c : Nat} {M : MM} {hi k n : Nat} {W : Nat → Nat → Int32} {a1 : Int32} {r : (Int32 × (Nat → Nat → Int32))} (hf0 : 3 ≤ f0) (hc2 : 619 ≤ c) (h : f_X10_save W a1 = some r) : Ex G f0 mX10_save [.ref (b + 609), .int a1] (MEM b c W M) hi k n (RH (.inl (some (.int r.1))) (MEM b c r.2 M) hi) := by
  obtain ⟨f, rfl, hf⟩ := suc_of hf0
  unfold f_X10_save at h
  refine ⟨Nat.le_of_ble_eq_true rfl, ?_⟩
  refine V_aload_n (i := 0) dX10_save_0 rfl rfl ?_
  refine V_iload_n (i := 1) dX10_save_1 rfl rfl ?_
  refine V_iconst (v := 0) dX10_save_2 (by decide) ?_
  refine V_iconst (v := 1) dX10_save_3 (by decide) ?_
  refine D_cVIW (As := [_, _, _]) (μ := fun W1 => (MEM b c W1 M)) h dX10_save_4 cv_X10_173 rfl ⟨_, _, _, (mem_30 hc2), rfl, rfl⟩ rfl (Nat.le_of_ble_eq_true rfl) (fun x y hx => e_X10_noNumber (Nat.le_trans (Nat.le_of_ble_eq_true rfl) hf) hc2 hx) fun v2 W1 h => ?_
  refine D_if_eq (tgt := 12) h dX10_save_7 rfl (fun b3 h => ?_) (fun b3 h => ?_)
  · refine V_aload_n (i := 0) dX10_save_12 rfl rfl ?_
    refine V_getfield dX10_save_13 (mem_30 hc2) fl_X10_7 rfl ?_
    refine V_iconst (v := 0) dX10_save_16 (by decide) ?_
    refine V_aload_n (i := 0) dX10_save_17 rfl rfl ?_
    refine V_getfield dX10_save_18 (mem_30 hc2) fl_X10_22 rfl ?_
    refine V_sipush (v := 251) dX10_save_21 (by decide) ?_
    refine V_iload_n (i := 1) dX10_save_24 rfl rfl ?_
    refine V_imul dX10_save_25 ?_
    refine D_cSU (As := [_, _, _, _]) (μ := fun W4 => (MEM b c W4 M)) h dX10_save_26 cs_X10_55 rfl rfl (Nat.le_of_ble_eq_true rfl) (fun y hx => e_X10_copyRow (u0 := 21) (u2 := 25) (Nat.le_trans (Nat.le_of_ble_eq_true rfl) hf) hc2 ⟨by decide, by decide⟩ ⟨by decide, by decide⟩ hx) fun W4 h => ?_
    refine V_aload_n (i := 0) dX10_save_29 rfl rfl ?_
    refine V_getfield dX10_save_30 (mem_30 hc2) fl_X10_25 rfl ?_
    refine V_iload_n (i := 1) dX10_save_33 rfl rfl ?_
    refine V_iconst (v := 1) dX10_save_34 (by decide) ?_
    refine D3_zst (u := 26) h (mem_26 hc2) (pst_26 hc2) dX10_save_35 fun W5 h => ?_
    refine V_aload_n (i := 0) dX10_save_36 rfl rfl ?_
    refine V_getfield dX10_save_37 (mem_30 hc2) fl_X10_7 rfl ?_
    refine V_iconst (v := 0) dX10_save_40 (by decide) ?_
    refine D3_ild h (mem_21 hc2) dX10_save_41 fun h => ?_
    obtain rfl := Option.some.inj h
    exact V_ireturn dX10_save_42 ⟨_, rfl, rfl⟩ ⟨rfl, rfl, rfl⟩
  · refine V_iconst (v := 0) dX10_save_10 (by decide) ?_
    obtain rfl := Option.some.inj h
    exact V_ireturn dX10_save_11 ⟨_, rfl, rfl⟩ ⟨rfl, rfl, rfl⟩
noncomputable def f_X10_setInspection (W : Nat → Nat → Int32) (a1 : Int32) (a2 : Int32) : Option (Int32 × (Nat → Nat → Int32)) :=
  bd2 (f_X10_noStation W a1) (fun v2 W1 => if v2 = 0 then bd2 (f_X10_out W1 a2 (0 : Int32) (9 : Int32)) (fun v5 W4 => if v5 = 0 then bdc (f_X10_ofStation a1) (fun v7 => bd2 (f_X10_lay W4 (v7 + (2 : Int32)) a2) (fun v9 W8 => some (v9, W8))) else some ((0 : Int32), W4)) else some ((0 : Int32), W1))
theorem e_X10_setInspection {G : GT} {f0 : Nat} {b c : Nat} {M : MM} {hi k n : Nat} {W : Nat → Nat → Int32} {a1 : Int32} {a2 : Int32} {r : (Int32 × (Nat → Nat → Int32))} (hf0 : 4 ≤ f0) (hc2 : 619 ≤ c) (h : f_X10_setInspection W a1 a2 = some r) : Ex G f0 mX10_setInspection [.ref (b + 609), .int a1, .int a2] (MEM b c W M) hi k n (RH (.inl (some (.int r.1))) (MEM b c r.2 M) hi) := by
  obtain ⟨f, rfl, hf⟩ := suc_of hf0
  unfold f_X10_setInspection at h
  refine ⟨Nat.le_of_ble_eq_true rfl, ?_⟩
  refine V_aload_n (i := 0) dX10_setInspection_0 rfl rfl ?_
  refine V_iload_n (i := 1) dX10_setInspection_1 rfl rfl ?_
  refine D_cVIW (As := [_]) (μ := fun W1 => (MEM b c W1 M)) h dX10_setInspection_2 cv_X10_286 rfl ⟨_, _, _, (mem_30 hc2), rfl, rfl⟩ rfl (Nat.le_of_ble_eq_true rfl) (fun x y hx => e_X10_noStation (Nat.le_trans (Nat.le_of_ble_eq_true rfl) hf) hc2 hx) fun v2 W1 h => ?_
  refine D_if_ne (tgt := 19) h dX10_setInspection_5 rfl (fun b3 h => ?_) (fun b3 h => ?_)
  · refine V_iconst (v := 0) dX10_setInspection_19 (by decide) ?_
    refine V_goto (tgt := 34) dX10_setInspection_20 rfl ?_
    obtain rfl := Option.some.inj h
    exact V_ireturn dX10_setInspection_34 ⟨_, rfl, rfl⟩ ⟨rfl, rfl, rfl⟩
  · refine V_aload_n (i := 0) dX10_setInspection_8 rfl rfl ?_
    refine V_iload_n (i := 2) dX10_setInspection_9 rfl rfl ?_
    refine V_iconst (v := 0) dX10_setInspection_10 (by decide) ?_
    refine V_bipush (v := 9) dX10_setInspection_11 (by decide) ?_
    refine D_cVIW (As := [_, _, _]) (μ := fun W4 => (MEM b c W4 M)) h dX10_setInspection_13 cv_X10_293 rfl ⟨_, _, _, (mem_30 hc2), rfl, rfl⟩ rfl (Nat.le_of_ble_eq_true rfl) (fun x y hx => e_X10_out (Nat.le_trans (Nat.le_of_ble_eq_true rfl) hf) hc2 hx) fun v5 W4 h => ?_
    refine D_if_eq (tgt := 23) h dX10_setInspection_16 rfl (fun b6 h => ?_) (fun b6 h => ?_)
    · refine V_aload_n (i := 0) dX10_setInspection_23 rfl rfl ?_
      refine V_iload_n (i := 1) dX10_setInspection_24 rfl rfl ?_
      refine D_cSI (As := [_]) h dX10_setInspection_25 cs_X10_134 rfl rfl (Nat.le_of_ble_eq_true rfl) (fun x hx => e_X10_ofStation (Nat.le_trans (Nat.le_of_ble_eq_true rfl) hf) hx) fun v7 h => ?_
      refine V_iconst (v := 2) dX10_setInspection_28 (by decide) ?_
      refine V_iadd dX10_setInspection_29 ?_
      refine V_iload_n (i := 2) dX10_setInspection_30 rfl rfl ?_
      refine D_cVIW (As := [_, _]) (μ := fun W8 => (MEM b c W8 M)) h dX10_setInspection_31 cv_X10_319 rfl ⟨_, _, _, (mem_30 hc2), rfl, rfl⟩ rfl (Nat.le_of_ble_eq_true rfl) (fun x y hx => e_X10_lay (Nat.le_trans (Nat.le_of_ble_eq_true rfl) hf) hc2 hx) fun v9 W8 h => ?_
      obtain rfl := Option.some.inj h
      exact V_ireturn dX10_setInspection_34 ⟨_, rfl, rfl⟩ ⟨rfl, rfl, rfl⟩
    · refine V_iconst (v := 0) dX10_setInspection_19 (by decide) ?_
      refine V_goto (tgt := 34) dX10_setInspection_20 rfl ?_
      obtain rfl := Option.some.inj h
      exact V_ireturn dX10_setInspection_34 ⟨_, rfl, rfl⟩ ⟨rfl, rfl, rfl⟩
noncomputable def f_X10_setPriority (W : Nat → Nat → Int32) (a1 : Int32) (a2 : Int32) : Option (Int32 × (Nat → Nat → Int32)) :=
  bd2 (f_X10_noParcel W a1) (fun v2 W1 => if v2 = 0 then bd2 (f_X10_out W1 a2 (1 : Int32) (9 : Int32)) (fun v5 W4 => if v5 = 0 then bdc (f_X10_ofParcel a1) (fun v7 => bd2 (f_X10_lay W4 (v7 + (2 : Int32)) a2) (fun v9 W8 => some (v9, W8))) else some ((0 : Int32), W4)) else some ((0 : Int32), W1))
theorem e_X10_setPriority {G : GT} {f0 : Nat} {b c : Nat} {M : MM} {hi k n : Nat} {W : Nat → Nat → Int32} {a1 : Int32} {a2 : Int32} {r : (Int32 × (Nat → Nat → Int32))} (hf0 : 4 ≤ f0) (hc2 : 619 ≤ c) (h : f_X10_setPriority W a1 a2 = some r) : Ex G f0 mX10_setPriority [.ref (b + 609), .int a1, .int a2] (MEM b c W M) hi k n (RH (.inl (some (.int r.1))) (MEM b c r.2 M) hi) := by
  obtain ⟨f, rfl, hf⟩ := suc_of hf0
  unfold f_X10_setPriority at h
  refine ⟨Nat.le_of_ble_eq_true rfl, ?_⟩
  refine V_aload_n (i := 0) dX10_setPriority_0 rfl rfl ?_
  refine V_iload_n (i := 1) dX10_setPriority_1 rfl rfl ?_
  refine D_cVIW (As := [_]) (μ := fun W1 => (MEM b c W1 M)) h dX10_setPriority_2 cv_X10_303 rfl ⟨_, _, _, (mem_30 hc2), rfl, rfl⟩ rfl (Nat.le_of_ble_eq_true rfl) (fun x y hx => e_X10_noParcel (Nat.le_trans (Nat.le_of_ble_eq_true rfl) hf) hc2 hx) fun v2 W1 h => ?_
  refine D_if_ne (tgt := 19) h dX10_setPriority_5 rfl (fun b3 h => ?_) (fun b3 h => ?_)
  · refine V_iconst (v := 0) dX10_setPriority_19 (by decide) ?_
    refine V_goto (tgt := 34) dX10_setPriority_20 rfl ?_
    obtain rfl := Option.some.inj h
    exact V_ireturn dX10_setPriority_34 ⟨_, rfl, rfl⟩ ⟨rfl, rfl, rfl⟩
  · refine V_aload_n (i := 0) dX10_setPriority_8 rfl rfl ?_
    refine V_iload_n (i := 2) dX10_setPriority_9 rfl rfl ?_
    refine V_iconst (v := 1) dX10_setPriority_10 (by decide) ?_
    refine V_bipush (v := 9) dX10_setPriority_11 (by decide) ?_
    refine D_cVIW (As := [_, _, _]) (μ := fun W4 => (MEM b c W4 M)) h dX10_setPriority_13 cv_X10_293 rfl ⟨_, _, _, (mem_30 hc2), rfl, rfl⟩ rfl (Nat.le_of_ble_eq_true rfl) (fun x y hx => e_X10_out (Nat.le_trans (Nat.le_of_ble_eq_true rfl) hf) hc2 hx) fun v5 W4 h => ?_
    refine D_if_eq (tgt := 23) h dX10_setPriority_16 rfl (fun b6 h => ?_) (fun b6 h => ?_)
    · refine V_aload_n (i := 0) dX10_setPriority_23 rfl rfl ?_
      refine V_iload_n (i := 1) dX10_setPriority_24 rfl rfl ?_
      refine D_cSI (As := [_]) h dX10_setPriority_25 cs_X10_88 rfl rfl (Nat.le_of_ble_eq_true rfl) (fun x hx => e_X10_ofParcel (Nat.le_trans (Nat.le_of_ble_eq_true rfl) hf) hx) fun v7 h => ?_
      refine V_iconst (v := 2) dX10_setPriority_28 (by decide) ?_
      refine V_iadd dX10_setPriority_29 ?_
      refine V_iload_n (i := 2) dX10_setPriority_30 rfl rfl ?_
      refine D_cVIW (As := [_, _]) (μ := fun W8 => (MEM b c W8 M)) h dX10_setPriority_31 cv_X10_319 rfl ⟨_, _, _, (mem_30 hc2), rfl, rfl⟩ rfl (Nat.le_of_ble_eq_true rfl) (fun x y hx => e_X10_lay (Nat.le_trans (Nat.le_of_ble_eq_true rfl) hf) hc2 hx) fun v9 W8 h => ?_
      obtain rfl := Option.some.inj h
      exact V_ireturn dX10_setPriority_34 ⟨_, rfl, rfl⟩ ⟨rfl, rfl, rfl⟩
    · refine V_iconst (v := 0) dX10_setPriority_19 (by decide) ?_
      refine V_goto (tgt := 34) dX10_setPriority_20 rfl ?_
      obtain rfl := Option.some.inj h
      exact V_ireturn dX10_setPriority_34 ⟨_, rfl, rfl⟩ ⟨rfl, rfl, rfl⟩
noncomputable def f_X10_setTrackOpen (W : Nat → Nat → Int32) (a1 : Int32) (a2 : Int32) (a3 : Int32) : Option (Int32 × (Nat → Nat → Int32)) :=
  bd2 (f_X10_noStations W a1 a2) (fun v2 W1 => if v2 = 0 then bdc (f_X10_between (pk (W1 21) (W1 27)) a1 a2) (fun v4 => jn (fun (v6 : Int32) => bd2 (f_X10_refuses W1 v6 (2 : Int32)) (fun v9 W8 => if v9 = 0 then bdc (f_X10_remember W8) (fun W11 => bdc (f_X10_isOpen (pk (W11 21) (W11 27)) v4) (fun v12 => bdc (f_X10_ofTrack v4) (fun v13 => if a3 = 0 then gd (inr (v13 + (3 : Int32)) 251) (bnd (w2 W11 21 (ix (v13 + (3 : Int32))) (0 : Int32)) (fun W15 => gd (z01 v12) (some (v12, W15)))) else gd (inr (v13 + (3 : Int32)) 251) (bnd (w2 W11 21 (ix (v13 + (3 : Int32))) (1 : Int32)) (fun W16 => gd (z01 v12) (some (v12, W16))))))) else some ((0 : Int32), W8))) (fun j5 => if v4 = (-1 : Int32) then j5 (1 : Int32) else j5 (0 : Int32))) else some ((0 : Int32), W1))
theorem e_X10_setTrackOpen {G : GT} {f0 : Nat} {b c : Nat} {M : MM} {hi k n : Nat} {W : Nat → Nat → Int32} {a1 : Int32} {a2 : Int32} {a3 : Int32} {r : (Int32 × (Nat → Nat → Int32))} (hf0 : 5 ≤ f0) (hc2 : 619 ≤ c) (h : f_X10_setTrackOpen W a1 a2 a3 = some r) : Ex G f0 mX10_setTrackOpen [.ref (b + 609), .int a1, .int a2, .int a3] (MEM b c W M) hi k n (RH (.inl (some (.int r.1))) (MEM b c r.2 M) hi) := by
  obtain ⟨f, rfl, hf⟩ := suc_of hf0
  unfold f_X10_setTrackOpen at h
  refine ⟨Nat.le_of_ble_eq_true rfl, ?_⟩
  refine V_aload_n (i := 0) dX10_setTrackOpen_0 rfl rfl ?_
  refine V_iload_n (i := 1) dX10_setTrackOpen_1 rfl rfl ?_
  refine V_iload_n (i := 2) dX10_setTrackOpen_2 rfl rfl ?_
  refine D_cVIW (As := [_, _]) (μ := fun W1 => (MEM b c W1 M)) h dX10_setTrackOpen_3 cv_X10_296 rfl ⟨_, _, _, (mem_30 hc2), rfl, rfl⟩ rfl (Nat.le_of_ble_eq_true rfl) (fun x y hx => e_X10_noStations (Nat.le_trans (Nat.le_of_ble_eq_true rfl) hf) hc2 hx) fun v2 W1 h => ?_
  refine D_if_eq (tgt := 11) h dX10_setTrackOpen_6 rfl (fun b3 h => ?_) (fun b3 h => ?_)
  · refine V_aload_n (i := 0) dX10_setTrackOpen_11 rfl rfl ?_
    refine V_getfield dX10_setTrackOpen_12 (mem_30 hc2) fl_X10_7 rfl ?_
    refine V_iload_n (i := 1) dX10_setTrackOpen_15 rfl rfl ?_
    refine V_iload_n (i := 2) dX10_setTrackOpen_16 rfl rfl ?_
    refine D_cSI (As := [_, _, _]) h dX10_setTrackOpen_17 cs_X10_128 rfl rfl (Nat.le_of_ble_eq_true rfl) (fun x hx => liftq0 (u := 21) hc2 ⟨by decide, by decide⟩ rfl (e_X10_between (Nat.le_trans (Nat.le_of_ble_eq_true rfl) hf) hx)) fun v4 h => ?_
    refine V_istore (i := 4) dX10_setTrackOpen_20 (Nat.le_of_ble_eq_true rfl) ?_
    refine V_aload_n (i := 0) dX10_setTrackOpen_22 rfl rfl ?_
    refine V_iload (i := 4) dX10_setTrackOpen_23 rfl ?_
    refine V_iconst (v := -1) dX10_setTrackOpen_25 (by decide) ?_
    refine D_jn (fun (j : Int32 → Option (Int32 × (Nat → Nat → Int32))) => ∀ (v6 : Int32), j v6 = some r → V G f (Ex G f) mX10_setTrackOpen (RH (.inl (some (.int r.1))) (MEM b c r.2 M) hi) 34 [(0, .ref (b + 609)), (3, .int a3), (4, .int v4)] [.int v6, .ref (b + 609)] (MEM b c W1 M) hi k n) h (fun j5 hj5 h => ?_) ?_
    · refine D_icmp_ne (tgt := 33) h dX10_setTrackOpen_26 rfl (fun b7 h => ?_) (fun b7 h => ?_)
      · refine V_iconst (v := 0) dX10_setTrackOpen_33 (by decide) ?_
        exact V_sub (ks := [1, 4, 0]) rfl (hj5 _ h)
      · refine V_iconst (v := 1) dX10_setTrackOpen_29 (by decide) ?_
        refine V_goto (tgt := 34) dX10_setTrackOpen_30 rfl ?_
        exact V_sub (ks := [1, 4, 0]) rfl (hj5 _ h)
    · intro v6 h
      refine V_iconst (v := 2) dX10_setTrackOpen_34 (by decide) ?_
      refine D_cVIW (As := [_, _]) (μ := fun W8 => (MEM b c W8 M)) h dX10_setTrackOpen_35 cv_X10_165 rfl ⟨_, _, _, (mem_30 hc2), rfl, rfl⟩ rfl (Nat.le_of_ble_eq_true rfl) (fun x y hx => e_X10_refuses (Nat.le_trans (Nat.le_of_ble_eq_true rfl) hf) hc2 hx) fun v9 W8 h => ?_
      refine D_if_eq (tgt := 43) h dX10_setTrackOpen_38 rfl (fun b10 h => ?_) (fun b10 h => ?_)
      · refine V_aload_n (i := 0) dX10_setTrackOpen_43 rfl rfl ?_
        refine D_cVU (As := []) (μ := fun W11 => (MEM b c W11 M)) h dX10_setTrackOpen_44 cv_X10_277 rfl ⟨_, _, _, (mem_30 hc2), rfl, rfl⟩ rfl (Nat.le_of_ble_eq_true rfl) (fun y hx => e_X10_remember (Nat.le_trans (Nat.le_of_ble_eq_true rfl) hf) hc2 hx) fun W11 h => ?_
        refine V_aload_n (i := 0) dX10_setTrackOpen_47 rfl rfl ?_
        refine V_getfield dX10_setTrackOpen_48 (mem_30 hc2) fl_X10_7 rfl ?_
        refine V_iload (i := 4) dX10_setTrackOpen_51 rfl ?_
        refine D_cSI (As := [_, _]) h dX10_setTrackOpen_53 cs_X10_131 rfl rfl (Nat.le_of_ble_eq_true rfl) (fun x hx => liftq0 (u := 21) hc2 ⟨by decide, by decide⟩ rfl (e_X10_isOpen (Nat.le_trans (Nat.le_of_ble_eq_true rfl) hf) hx)) fun v12 h => ?_
        refine V_istore (i := 5) dX10_setTrackOpen_56 (Nat.le_of_ble_eq_true rfl) ?_
        refine V_aload_n (i := 0) dX10_setTrackOpen_58 rfl rfl ?_
        refine V_getfield dX10_setTrackOpen_59 (mem_30 hc2) fl_X10_7 rfl ?_
        refine V_iload (i := 4) dX10_setTrackOpen_62 rfl ?_
        refine D_cSI (As := [_]) h dX10_setTrackOpen_64 cs_X10_72 rfl rfl (Nat.le_of_ble_eq_true rfl) (fun x hx => e_X10_ofTrack (Nat.le_trans (Nat.le_of_ble_eq_true rfl) hf) hx) fun v13 h => ?_
        refine V_iconst (v := 3) dX10_setTrackOpen_67 (by decide) ?_
        refine V_iadd dX10_setTrackOpen_68 ?_
        refine V_iload_n (i := 3) dX10_setTrackOpen_69 rfl rfl ?_
        refine D_if_eq (tgt := 77) h dX10_setTrackOpen_70 rfl (fun b14 h => ?_) (fun b14 h => ?_)
        · refine V_iconst (v := 0) dX10_setTrackOpen_77 (by decide) ?_
          refine D3_ist (u := 21) h (mem_21 hc2) (pst_21 hc2) dX10_setTrackOpen_78 fun W15 h => ?_
          refine V_iload (i := 5) dX10_setTrackOpen_79 rfl ?_
          refine D_gd h fun g h => ?_
          obtain rfl := Option.some.inj h
          exact V_ireturn dX10_setTrackOpen_81 ⟨_, rfl, z01_nar g⟩ ⟨rfl, rfl, rfl⟩
        · refine V_iconst (v := 1) dX10_setTrackOpen_73 (by decide) ?_
          refine V_goto (tgt := 78) dX10_setTrackOpen_74 rfl ?_
          refine D3_ist (u := 21) h (mem_21 hc2) (pst_21 hc2) dX10_setTrackOpen_78 fun W16 h => ?_
          refine V_iload (i := 5) dX10_setTrackOpen_79 rfl ?_
          refine D_gd h fun g h => ?_
          obtain rfl := Option.some.inj h
          exact V_ireturn dX10_setTrackOpen_81 ⟨_, rfl, z01_nar g⟩ ⟨rfl, rfl, rfl⟩
      · refine V_iconst (v := 0) dX10_setTrackOpen_41 (by decide) ?_
        obtain rfl := Option.some.inj h
        exact V_ireturn dX10_setTrackOpen_42 ⟨_, rfl, rfl⟩ ⟨rfl, rfl, rfl⟩
  · refine V_iconst (v := 0) dX10_setTrackOpen_9 (by decide) ?_
    obtain rfl := Option.some.inj h
    exact V_ireturn dX10_setTrackOpen_10 ⟨_, rfl, rfl⟩ ⟨rfl, rfl, rfl⟩
noncomputable def f_X10_space (W : Nat → Nat → Int32) : Option (Nat → Nat → Int32) :=
  if (W 30 11) ≤ 0 then some W else bdc (f_X10_print W (32 : Int32)) (fun W2 => some W2)
theorem e_X10_space {G : GT} {f0 : Nat} {b c : Nat} {M : MM} {hi k n : Nat} {W : Nat → Nat → Int32} {r : (Nat → Nat → Int32)} (hf0 : 2 ≤ f0) (hc2 : 619 ≤ c) (h : f_X10_space W = some r) : Ex G f0 mX10_space [.ref (b + 609)] (MEM b c W M) hi k n (RH (.inl none) (MEM b c r M) hi) := by
  obtain ⟨f, rfl, hf⟩ := suc_of hf0
  unfold f_X10_space at h
  refine ⟨Nat.le_of_ble_eq_true rfl, ?_⟩
  refine V_aload_n (i := 0) dX10_space_0 rfl rfl ?_
  refine V_getfield dX10_space_1 (mem_30 hc2) fl_X10_322 rfl ?_
  refine D_if_le (tgt := 13) h dX10_space_4 rfl (fun b1 h => ?_) (fun b1 h => ?_)
  · obtain rfl := Option.some.inj h
    exact V_return dX10_space_13 rfl ⟨rfl, rfl, rfl⟩
  · refine V_aload_n (i := 0) dX10_space_7 rfl rfl ?_
    refine V_bipush (v := 32) dX10_space_8 (by decide) ?_
    refine D_cVU (As := [_]) (μ := fun W2 => (MEM b c W2 M)) h dX10_space_10 cv_X10_328 rfl ⟨_, _, _, (mem_30 hc2), rfl, rfl⟩ rfl (Nat.le_of_ble_eq_true rfl) (fun y hx => e_X10_print (Nat.le_trans (Nat.le_of_ble_eq_true rfl) hf) hc2 hx) fun W2 h => ?_
    obtain rfl := Option.some.inj h
    exact V_return dX10_space_13 rfl ⟨rfl, rfl, rfl⟩
noncomputable def f_X10_stationCount (W : Nat → Nat → Int32) : Option (Int32 × (Nat → Nat → Int32)) :=
  bnd (w2 W 30 2 (0 : Int32)) (fun W1 => gd (inr (1 : Int32) 251) (some (W1 21 (ix (1 : Int32)), W1)))
theorem e_X10_stationCount {G : GT} {f0 : Nat} {b c : Nat} {M : MM} {hi k n : Nat} {W : Nat → Nat → Int32} {r : (Int32 × (Nat → Nat → Int32))} (hf0 : 1 ≤ f0) (hc2 : 619 ≤ c) (h : f_X10_stationCount W = some r) : Ex G f0 mX10_stationCount [.ref (b + 609)] (MEM b c W M) hi k n (RH (.inl (some (.int r.1))) (MEM b c r.2 M) hi) := by
  obtain ⟨f, rfl, hf⟩ := suc_of hf0
  unfold f_X10_stationCount at h
  refine ⟨Nat.le_of_ble_eq_true rfl, ?_⟩
  refine V_aload_n (i := 0) dX10_stationCount_0 rfl rfl ?_
  refine V_iconst (v := 0) dX10_stationCount_1 (by decide) ?_
  refine D3_put h dX10_stationCount_2 (mem_30 hc2) (fp_X10_69 rfl) (Nat.le_of_ble_eq_true rfl) (psc_30_2 hc2) fun W1 h => ?_
  refine V_aload_n (i := 0) dX10_stationCount_5 rfl rfl ?_
  refine V_getfield dX10_stationCount_6 (mem_30 hc2) fl_X10_7 rfl ?_
  refine V_iconst (v := 1) dX10_stationCount_9 (by decide) ?_
  refine D3_ild h (mem_21 hc2) dX10_stationCount_10 fun h => ?_
  obtain rfl := Option.some.inj h
  exact V_ireturn dX10_stationCount_11 ⟨_, rfl, rfl⟩ ⟨rfl, rfl, rfl⟩
noncomputable def f_X10_stopsMade (W : Nat → Nat → Int32) (a1 : Int32) : Option (Int32 × (Nat → Nat → Int32)) :=
  bd2 (f_X10_noTrain W a1) (fun v2 W1 => if v2 = 0 then bdc (f_X10_ofTrain a1) (fun v4 => gd (inr (v4 + (12 : Int32)) 251) (some (W1 21 (ix (v4 + (12 : Int32))), W1))) else some ((0 : Int32), W1))
theorem e_X10_stopsMade {G : GT} {f0 : Nat} {b c : Nat} {M : MM} {hi k n : Nat} {W : Nat → Nat → Int32} {a1 : Int32} {r : (Int32 × (Nat → Nat → Int32))} (hf0 : 4 ≤ f0) (hc2 : 619 ≤ c) (h : f_X10_stopsMade W a1 = some r) : Ex G f0 mX10_stopsMade [.ref (b + 609), .int a1] (MEM b c W M) hi k n (RH (.inl (some (.int r.1))) (MEM b c r.2 M) hi) := by
  obtain ⟨f, rfl, hf⟩ := suc_of hf0
  unfold f_X10_stopsMade at h
  refine ⟨Nat.le_of_ble_eq_true rfl, ?_⟩
  refine V_aload_n (i := 0) dX10_stopsMade_0 rfl rfl ?_
  refine V_iload_n (i := 1) dX10_stopsMade_1 rfl rfl ?_
  refine D_cVIW (As := [_]) (μ := fun W1 => (MEM b c W1 M)) h dX10_stopsMade_2 cv_X10_300 rfl ⟨_, _, _, (mem_30 hc2), rfl, rfl⟩ rfl (Nat.le_of_ble_eq_true rfl) (fun x y hx => e_X10_noTrain (Nat.le_trans (Nat.le_of_ble_eq_true rfl) hf) hc2 hx) fun v2 W1 h => ?_
  refine D_if_eq (tgt := 12) h dX10_stopsMade_5 rfl (fun b3 h => ?_) (fun b3 h => ?_)
  · refine V_aload_n (i := 0) dX10_stopsMade_12 rfl rfl ?_
    refine V_getfield dX10_stopsMade_13 (mem_30 hc2) fl_X10_7 rfl ?_
    refine V_iload_n (i := 1) dX10_stopsMade_16 rfl rfl ?_
    refine D_cSI (As := [_]) h dX10_stopsMade_17 cs_X10_81 rfl rfl (Nat.le_of_ble_eq_true rfl) (fun x hx => e_X10_ofTrain (Nat.le_trans (Nat.le_of_ble_eq_true rfl) hf) hx) fun v4 h => ?_
    refine V_bipush (v := 12) dX10_stopsMade_20 (by decide) ?_
    refine V_iadd dX10_stopsMade_22 ?_
    refine D3_ild h (mem_21 hc2) dX10_stopsMade_23 fun h => ?_
    obtain rfl := Option.some.inj h
    exact V_ireturn dX10_stopsMade_24 ⟨_, rfl, rfl⟩ ⟨rfl, rfl, rfl⟩
  · refine V_iconst (v := 0) dX10_stopsMade_8 (by decide) ?_
    refine V_goto (tgt := 24) dX10_stopsMade_9 rfl ?_
    obtain rfl := Option.some.inj h
    exact V_ireturn dX10_stopsMade_24 ⟨_, rfl, rfl⟩ ⟨rfl, rfl, rfl⟩
noncomputable def f_X10_stopsPassed (W : Nat → Nat → Int32) (a1 : Int32) : Option (Int32 × (Nat → Nat → Int32)) :=
  bd2 (f_X10_noTrain W a1) (fun v2 W1 => if v2 = 0 then bdc (f_X10_ofTrain a1) (fun v4 => gd (inr (v4 + (13 : Int32)) 251) (some (W1 21 (ix (v4 + (13 : Int32))), W1))) else some ((0 : Int32), W1))
theorem e_X10_stopsPassed {G : GT} {f0 : Nat} {b c : Nat} {M : MM} {hi k n : Nat} {W : Nat → Nat → Int32} {a1 : Int32} {r : (Int32 × (Nat → Nat → Int32))} (hf0 : 4 ≤ f0) (hc2 : 619 ≤ c) (h : f_X10_stopsPassed W a1 = some r) : Ex G f0 mX10_stopsPassed [.ref (b + 609), .int a1] (MEM b c W M) hi k n (RH (.inl (some (.int r.1))) (MEM b c r.2 M) hi) := by
  obtain ⟨f, rfl, hf⟩ := suc_of hf0
  unfold f_X10_stopsPassed at h
  refine ⟨Nat.le_of_ble_eq_true rfl, ?_⟩
  refine V_aload_n (i := 0) dX10_stopsPassed_0 rfl rfl ?_
  refine V_iload_n (i := 1) dX10_stopsPassed_1 rfl rfl ?_
  refine D_cVIW (As := [_]) (μ := fun W1 => (MEM b c W1 M)) h dX10_stopsPassed_2 cv_X10_300 rfl ⟨_, _, _, (mem_30 hc2), rfl, rfl⟩ rfl (Nat.le_of_ble_eq_true rfl) (fun x y hx => e_X10_noTrain (Nat.le_trans (Nat.le_of_ble_eq_true rfl) hf) hc2 hx) fun v2 W1 h => ?_
  refine D_if_eq (tgt := 12) h dX10_stopsPassed_5 rfl (fun b3 h => ?_) (fun b3 h => ?_)
  · refine V_aload_n (i := 0) dX10_stopsPassed_12 rfl rfl ?_
    refine V_getfield dX10_stopsPassed_13 (mem_30 hc2) fl_X10_7 rfl ?_
    refine V_iload_n (i := 1) dX10_stopsPassed_16 rfl rfl ?_
    refine D_cSI (As := [_]) h dX10_stopsPassed_17 cs_X10_81 rfl rfl (Nat.le_of_ble_eq_true rfl) (fun x hx => e_X10_ofTrain (Nat.le_trans (Nat.le_of_ble_eq_true rfl) hf) hx) fun v4 h => ?_
    refine V_bipush (v := 13) dX10_stopsPassed_20 (by decide) ?_
    refine V_iadd dX10_stopsPassed_22 ?_
    refine D3_ild h (mem_21 hc2) dX10_stopsPassed_23 fun h => ?_
    obtain rfl := Option.some.inj h
    exact V_ireturn dX10_stopsPassed_24 ⟨_, rfl, rfl⟩ ⟨rfl, rfl, rfl⟩
  · refine V_iconst (v := 0) dX10_stopsPassed_8 (by decide) ?_
    refine V_goto (tgt := 24) dX10_stopsPassed_9 rfl ?_
    obtain rfl := Option.some.inj h
    exact V_ireturn dX10_stopsPassed_24 ⟨_, rfl, rfl⟩ ⟨rfl, rfl, rfl⟩
noncomputable def f_X10_thrown (W : Nat → Nat → Int32) : Option Int32 :=
  some (W 30 2)
theorem e_X10_thrown {G : GT} {f0 : Nat} {b c : Nat} {M : MM} {hi k n : Nat} {W : Nat → Nat → Int32} {r : Int32} (hf0 : 1 ≤ f0) (hc2 : 619 ≤ c) (h : f_X10_thrown W = some r) : Ex G f0 mX10_thrown [.ref (b + 609)] (MEM b c W M) hi k n (RH (.inl (some (.int r))) (MEM b c W M) hi) := by
  obtain ⟨f, rfl, hf⟩ := suc_of hf0
  unfold f_X10_thrown at h
  refine ⟨Nat.le_of_ble_eq_true rfl, ?_⟩
  refine V_aload_n (i := 0) dX10_thrown_0 rfl rfl ?_
  refine V_getfield dX10_thrown_1 (mem_30 hc2) fl_X10_69 rfl ?_
  obtain rfl := Option.some.inj h
  exact V_ireturn dX10_thrown_4 ⟨_, rfl, rfl⟩ ⟨rfl, rfl, rfl⟩
noncomputable def f_X10_trackCount (W : Nat → Nat → Int32) : Option (Int32 × (Nat → Nat → Int32)) :=
  bnd (w2 W 30 2 (0 : Int32)) (fun W1 => gd (inr (2 : Int32) 251) (some (W1 21 (ix (2 : Int32)), W1)))
theorem e_X10_trackCount {G : GT} {f0 : Nat} {b c : Nat} {M : MM} {hi k n : Nat} {W : Nat → Nat → Int32} {r : (Int32 × (Nat → Nat → Int32))} (hf0 : 1 ≤ f0) (hc2 : 619 ≤ c) (h : f_X10_trackCount W = some r) : Ex G f0 mX10_trackCount [.ref (b + 609)] (MEM b c W M) hi k n (RH (.inl (some (.int r.1))) (MEM b c r.2 M) hi) := by
  obtain ⟨f, rfl, hf⟩ := suc_of hf0
  unfold f_X10_trackCount at h
  refine ⟨Nat.le_of_ble_eq_true rfl, ?_⟩
  refine V_aload_n (i := 0) dX10_trackCount_0 rfl rfl ?_
  refine V_iconst (v := 0) dX10_trackCount_1 (by decide) ?_
  refine D3_put h dX10_trackCount_2 (mem_30 hc2) (fp_X10_69 rfl) (Nat.le_of_ble_eq_true rfl) (psc_30_2 hc2) fun W1 h => ?_
  refine V_aload_n (i := 0) dX10_trackCount_5 rfl rfl ?_
  refine V_getfield dX10_trackCount_6 (mem_30 hc2) fl_X10_7 rfl ?_
  refine V_iconst (v := 2) dX10_trackCount_9 (by decide) ?_
  refine D3_ild h (mem_21 hc2) dX10_trackCount_10 fun h => ?_
  obtain rfl := Option.some.inj h
  exact V_ireturn dX10_trackCount_11 ⟨_, rfl, rfl⟩ ⟨rfl, rfl, rfl⟩
noncomputable def f_X10_trainCount (W : Nat → Nat → Int32) : Option (Int32 × (Nat → Nat → Int32)) :=
  bnd (w2 W 30 2 (0 : Int32)) (fun W1 => gd (inr (3 : Int32) 251) (some (W1 21 (ix (3 : Int32)), W1)))
theorem e_X10_trainCount {G : GT} {f0 : Nat} {b c : Nat} {M : MM} {hi k n : Nat} {W : Nat → Nat → Int32} {r : (Int32 × (Nat → Nat → Int32))} (hf0 : 1 ≤ f0) (hc2 : 619 ≤ c) (h : f_X10_trainCount W = some r) : Ex G f0 mX10_trainCount [.ref (b + 609)] (MEM b c W M) hi k n (RH (.inl (some (.int r.1))) (MEM b c r.2 M) hi) := by
  obtain ⟨f, rfl, hf⟩ := suc_of hf0
  unfold f_X10_trainCount at h
  refine ⟨Nat.le_of_ble_eq_true rfl, ?_⟩
  refine V_aload_n (i := 0) dX10_trainCount_0 rfl rfl ?_
  refine V_iconst (v := 0) dX10_trainCount_1 (by decide) ?_
  refine D3_put h dX10_trainCount_2 (mem_30 hc2) (fp_X10_69 rfl) (Nat.le_of_ble_eq_true rfl) (psc_30_2 hc2) fun W1 h => ?_
  refine V_aload_n (i := 0) dX10_trainCount_5 rfl rfl ?_
  refine V_getfield dX10_trainCount_6 (mem_30 hc2) fl_X10_7 rfl ?_
  refine V_iconst (v := 3) dX10_trainCount_9 (by decide) ?_
  refine D3_ild h (mem_21 hc2) dX10_trainCount_10 fun h => ?_
  obtain rfl := Option.some.inj h
  exact V_ireturn dX10_trainCount_11 ⟨_, rfl, rfl⟩ ⟨rfl, rfl, rfl⟩
noncomputable def f_X10_trainStation (W : Nat → Nat → Int32) (a1 : Int32) : Option (Int32 × (Nat → Nat → Int32)) :=
  bd2 (f_X10_noTrain W a1) (fun v2 W1 => if v2 = 0 then bdc (f_X10_stands (pk (W1 21) (W1 27)) a1) (fun v4 => if v4 = 0 then some ((-1 : Int32), W1) else bdc (f_X10_stationOf (pk (W1 21) (W1 27)) a1) (fun v6 => some (v6, W1))) else some ((0 : Int32), W1))
theorem e_X10_trainStation {G : GT} {f0 : Nat} {b c : Nat} {M : MM} {hi k n : Nat} {W : Nat → Nat → Int32} {a1 : Int32} {r : (Int32 × (Nat → Nat → Int32))} (hf0 : 4 ≤ f0) (hc2 : 619 ≤ c) (h : f_X10_trainStation W a1 = some r) : Ex G f0 mX10_trainStation [.ref (b + 609), .int a1] (MEM b c W M) hi k n (RH (.inl (some (.int r.1))) (MEM b c r.2 M) hi) := by
  obtain ⟨f, rfl, hf⟩ := suc_of hf0
  unfold f_X10_trainStation at h
  refine ⟨Nat.le_of_ble_eq_true rfl, ?_⟩
  refine V_aload_n (i := 0) dX10_trainStation_0 rfl rfl ?_
  refine V_iload_n (i := 1) dX10_trainStation_1 rfl rfl ?_
  refine D_cVIW (As := [_]) (μ := fun W1 => (MEM b c W1 M)) h dX10_trainStation_2 cv_X10_300 rfl ⟨_, _, _, (mem_30 hc2), rfl, rfl⟩ rfl (Nat.le_of_ble_eq_true rfl) (fun x y hx => e_X10_noTrain (Nat.le_trans (Nat.le_of_ble_eq_true rfl) hf) hc2 hx) fun v2 W1 h => ?_
  refine D_if_eq (tgt := 12) h dX10_trainStation_5 rfl (fun b3 h => ?_) (fun b3 h => ?_)
  · refine V_aload_n (i := 0) dX10_trainStation_12 rfl rfl ?_
    refine V_getfield dX10_trainStation_13 (mem_30 hc2) fl_X10_7 rfl ?_
    refine V_iload_n (i := 1) dX10_trainStation_16 rfl rfl ?_
    refine D_cSI (As := [_, _]) h dX10_trainStation_17 cs_X10_149 rfl rfl (Nat.le_of_ble_eq_true rfl) (fun x hx => liftq0 (u := 21) hc2 ⟨by decide, by decide⟩ rfl (e_X10_stands (Nat.le_trans (Nat.le_of_ble_eq_true rfl) hf) hx)) fun v4 h => ?_
    refine D_if_eq (tgt := 34) h dX10_trainStation_20 rfl (fun b5 h => ?_) (fun b5 h => ?_)
    · refine V_iconst (v := -1) dX10_trainStation_34 (by decide) ?_
      obtain rfl := Option.some.inj h
      exact V_ireturn dX10_trainStation_35 ⟨_, rfl, rfl⟩ ⟨rfl, rfl, rfl⟩
    · refine V_aload_n (i := 0) dX10_trainStation_23 rfl rfl ?_
      refine V_getfield dX10_trainStation_24 (mem_30 hc2) fl_X10_7 rfl ?_
      refine V_iload_n (i := 1) dX10_trainStation_27 rfl rfl ?_
      refine D_cSI (As := [_, _]) h dX10_trainStation_28 cs_X10_95 rfl rfl (Nat.le_of_ble_eq_true rfl) (fun x hx => liftq0 (u := 21) hc2 ⟨by decide, by decide⟩ rfl (e_X10_stationOf (Nat.le_trans (Nat.le_of_ble_eq_true rfl) hf) hx)) fun v6 h => ?_
      refine V_goto (tgt := 35) dX10_trainStation_31 rfl ?_
      obtain rfl := Option.some.inj h
      exact V_ireturn dX10_trainStation_35 ⟨_, rfl, rfl⟩ ⟨rfl, rfl, rfl⟩
  · refine V_iconst (v := 0) dX10_trainStation_8 (by decide) ?_
    refine V_goto (tgt := 35) dX10_trainStation_9 rfl ?_
    obtain rfl := Option.some.inj h
    exact V_ireturn dX10_trainStation_35 ⟨_, rfl, rfl⟩ ⟨rfl, rfl, rfl⟩
noncomputable def f_X10_trainStationAfter (W : Nat → Nat → Int32) (a1 : Int32) (a2 : Int32) : Option (Int32 × (Nat → Nat → Int32)) :=
  bd2 (f_X10_noTrain W a1) (fun v2 W1 => if v2 = 0 then bd2 (f_X10_out W1 a2 (0 : Int32) (120 : Int32)) (fun v5 W4 => if v5 = 0 then bdc (f_X10_tries W4) (fun W7 => bdc (f_X10_minutes (pk (W7 23) (W7 27)) a2) (fun S9 => bnd (setQ W7 23 S9) (fun W8 => bdc (f_X10_stands (pk (W8 23) (W8 27)) a1) (fun v10 => if v10 = 0 then some ((-1 : Int32), W8) else bdc (f_X10_stationOf (pk (W8 23) (W8 27)) a1) (fun v12 => some (v12, W8)))))) else some ((0 : Int32), W4)) else some ((0 : Int32), W1))
theorem e_X10_trainStationAfter {G : GT} {f0 : Nat} {b c : Nat} {M : MM} {hi k n : Nat} {W : Nat → Nat → Int32} {a1 : Int32} {a2 : Int32} {r : (Int32 × (Nat → Nat → Int32))} (hf0 : 11 ≤ f0) (hc2 : 619 ≤ c) (h : f_X10_trainStationAfter W a1 a2 = some r) : Ex G f0 mX10_trainStationAfter [.ref (b + 609), .int a1, .int a2] (MEM b c W M) hi k n (RH (.inl (some (.int r.1))) (MEM b c r.2 M) hi) := by
  obtain ⟨f, rfl, hf⟩ := suc_of hf0
  unfold f_X10_trainStationAfter at h
  refine ⟨Nat.le_of_ble_eq_true rfl, ?_⟩
  refine V_aload_n (i := 0) dX10_trainStationAfter_0 rfl rfl ?_
  refine V_iload_n (i := 1) dX10_trainStationAfter_1 rfl rfl ?_
  refine D_cVIW (As := [_]) (μ := fun W1 => (MEM b c W1 M)) h dX10_trainStationAfter_2 cv_X10_300 rfl ⟨_, _, _, (mem_30 hc2), rfl, rfl⟩ rfl (Nat.le_of_ble_eq_true rfl) (fun x y hx => e_X10_noTrain (Nat.le_trans (Nat.le_of_ble_eq_true rfl) hf) hc2 hx) fun v2 W1 h => ?_
  refine D_if_ne (tgt := 19) h dX10_trainStationAfter_5 rfl (fun b3 h => ?_) (fun b3 h => ?_)
  · refine V_iconst (v := 0) dX10_trainStationAfter_19 (by decide) ?_
    obtain rfl := Option.some.inj h
    exact V_ireturn dX10_trainStationAfter_20 ⟨_, rfl, rfl⟩ ⟨rfl, rfl, rfl⟩
  · refine V_aload_n (i := 0) dX10_trainStationAfter_8 rfl rfl ?_
    refine V_iload_n (i := 2) dX10_trainStationAfter_9 rfl rfl ?_
    refine V_iconst (v := 0) dX10_trainStationAfter_10 (by decide) ?_
    refine V_bipush (v := 120) dX10_trainStationAfter_11 (by decide) ?_
    refine D_cVIW (As := [_, _, _]) (μ := fun W4 => (MEM b c W4 M)) h dX10_trainStationAfter_13 cv_X10_293 rfl ⟨_, _, _, (mem_30 hc2), rfl, rfl⟩ rfl (Nat.le_of_ble_eq_true rfl) (fun x y hx => e_X10_out (Nat.le_trans (Nat.le_of_ble_eq_true rfl) hf) hc2 hx) fun v5 W4 h => ?_
    refine D_if_eq (tgt := 21) h dX10_trainStationAfter_16 rfl (fun b6 h => ?_) (fun b6 h => ?_)
    · refine V_aload_n (i := 0) dX10_trainStationAfter_21 rfl rfl ?_
      refine D_cVU (As := []) (μ := fun W7 => (MEM b c W7 M)) h dX10_trainStationAfter_22 cv_X10_313 rfl ⟨_, _, _, (mem_30 hc2), rfl, rfl⟩ rfl (Nat.le_of_ble_eq_true rfl) (fun y hx => e_X10_tries (Nat.le_trans (Nat.le_of_ble_eq_true rfl) hf) hc2 hx) fun W7 h => ?_
      refine V_aload_n (i := 0) dX10_trainStationAfter_25 rfl rfl ?_
      refine V_aload_n (i := 0) dX10_trainStationAfter_26 rfl rfl ?_
      refine V_getfield dX10_trainStationAfter_27 (mem_30 hc2) fl_X10_16 rfl ?_
      refine V_iload_n (i := 2) dX10_trainStationAfter_30 rfl rfl ?_
      refine D_cVU (As := [_, _]) (μ := fun S9 => (MEM b c (setQ W7 23 S9) M)) h dX10_trainStationAfter_31 cv_X10_230 rfl ⟨_, _, _, (mem_30 hc2), rfl, rfl⟩ rfl (Nat.le_of_ble_eq_true rfl) (fun y hx => liftq1 (u := 23) hc2 ⟨by decide, by decide⟩ rfl (e_X10_minutes (Nat.le_trans (Nat.le_of_ble_eq_true rfl) hf) (RQ_m (u := 23) hc2 ⟨by decide, by decide⟩) hx)) fun S9 h => ?_
      refine D3_gen (μ := fun W => (MEM b c W M)) h fun W8 h => ?_
      refine V_aload_n (i := 0) dX10_trainStationAfter_34 rfl rfl ?_
      refine V_getfield dX10_trainStationAfter_35 (mem_30 hc2) fl_X10_16 rfl ?_
      refine V_iload_n (i := 1) dX10_trainStationAfter_38 rfl rfl ?_
      refine D_cSI (As := [_, _]) h dX10_trainStationAfter_39 cs_X10_149 rfl rfl (Nat.le_of_ble_eq_true rfl) (fun x hx => liftq0 (u := 23) hc2 ⟨by decide, by decide⟩ rfl (e_X10_stands (Nat.le_trans (Nat.le_of_ble_eq_true rfl) hf) hx)) fun v10 h => ?_
      refine D_if_eq (tgt := 56) h dX10_trainStationAfter_42 rfl (fun b11 h => ?_) (fun b11 h => ?_)
      · refine V_iconst (v := -1) dX10_trainStationAfter_56 (by decide) ?_
        obtain rfl := Option.some.inj h
        exact V_ireturn dX10_trainStationAfter_57 ⟨_, rfl, rfl⟩ ⟨rfl, rfl, rfl⟩
      · refine V_aload_n (i := 0) dX10_trainStationAfter_45 rfl rfl ?_
        refine V_getfield dX10_trainStationAfter_46 (mem_30 hc2) fl_X10_16 rfl ?_
        refine V_iload_n (i := 1) dX10_trainStationAfter_49 rfl rfl ?_
        refine D_cSI (As := [_, _]) h dX10_trainStationAfter_50 cs_X10_95 rfl rfl (Nat.le_of_ble_eq_true rfl) (fun x hx => liftq0 (u := 23) hc2 ⟨by decide, by decide⟩ rfl (e_X10_stationOf (Nat.le_trans (Nat.le_of_ble_eq_true rfl) hf) hx)) fun v12 h => ?_
        refine V_goto (tgt := 57) dX10_trainStationAfter_53 rfl ?_
        obtain rfl := Option.some.inj h
        exact V_ireturn dX10_trainStationAfter_57 ⟨_, rfl, rfl⟩ ⟨rfl, rfl, rfl⟩
    · refine V_iconst (v := 0) dX10_trainStationAfter_19 (by decide) ?_
      obtain rfl := Option.some.inj h
      exact V_ireturn dX10_trainStationAfter_20 ⟨_, rfl, rfl⟩ ⟨rfl, rfl, rfl⟩
noncomputable def f_X10_transfers (W : Nat → Nat → Int32) (a1 : Int32) : Option (Int32 × (Nat → Nat → Int32)) :=
  bd2 (f_X10_ofIt W a1 (6 : Int32)) (fun v2 W1 => some (v2, W1))
theorem e_X10_transfers {G : GT} {f0 : Nat} {b c : Nat} {M : MM} {hi k n : Nat} {W : Nat → Nat → Int32} {a1 : Int32} {r : (Int32 × (Nat → Nat → Int32))} (hf0 : 5 ≤ f0) (hc2 : 619 ≤ c) (h : f_X10_transfers W a1 = some r) : Ex G f0 mX10_transfers [.ref (b + 609), .int a1] (MEM b c W M) hi k n (RH (.inl (some (.int r.1))) (MEM b c r.2 M) hi) := by
  obtain ⟨f, rfl, hf⟩ := suc_of hf0
  unfold f_X10_transfers at h
  refine ⟨Nat.le_of_ble_eq_true rfl, ?_⟩
  refine V_aload_n (i := 0) dX10_transfers_0 rfl rfl ?_
  refine V_iload_n (i := 1) dX10_transfers_1 rfl rfl ?_
  refine V_bipush (v := 6) dX10_transfers_2 (by decide) ?_
  refine D_cVIW (As := [_, _]) (μ := fun W1 => (MEM b c W1 M)) h dX10_transfers_4 cv_X10_306 rfl ⟨_, _, _, (mem_30 hc2), rfl, rfl⟩ rfl (Nat.le_of_ble_eq_true rfl) (fun x y hx => e_X10_ofIt (Nat.le_trans (Nat.le_of_ble_eq_true rfl) hf) hc2 hx) fun v2 W1 h => ?_
  obtain rfl := Option.some.inj h
  exact V_ireturn dX10_transfers_7 ⟨_, rfl, rfl⟩ ⟨rfl, rfl, rfl⟩
noncomputable def f_X10_travelTime (W : Nat → Nat → Int32) (a1 : Int32) (a2 : Int32) : Option (Int32 × (Nat → Nat → Int32)) :=
  bd2 (f_X10_noStations W a1 a2) (fun v2 W1 => if v2 = 0 then bdc (f_X10_between (pk (W1 21) (W1 27)) a1 a2) (fun v4 => if v4 = (-1 : Int32) then some ((-1 : Int32), W1) else bdc (f_X10_ofTrack v4) (fun v6 => gd (inr (v6 + (2 : Int32)) 251) (some (W1 21 (ix (v6 + (2 : Int32))), W1)))) else some ((0 : Int32), W1))
theorem e_X10_travelTime {G : GT} {f0 : Nat} {b c : Nat} {M : MM} {hi k n : Nat} {W : Nat → Nat → Int32} {a1 : Int32} {a2 : Int32} {r : (Int32 × (Nat → Nat → Int32))} (hf0 : 5 ≤ f0) (hc2 : 619 ≤ c) (h : f_X10_travelTime W a1 a2 = some r) : Ex G f0 mX10_travelTime [.ref (b + 609), .int a1, .int a2] (MEM b c W M) hi k n (RH (.inl (some (.int r.1))) (MEM b c r.2 M) hi) := by
  obtain ⟨f, rfl, hf⟩ := suc_of hf0
  unfold f_X10_travelTime at h
  refine ⟨Nat.le_of_ble_eq_true rfl, ?_⟩
  refine V_aload_n (i := 0) dX10_travelTime_0 rfl rfl ?_
  refine V_iload_n (i := 1) dX10_travelTime_1 rfl rfl ?_
  refine V_iload_n (i := 2) dX10_travelTime_2 rfl rfl ?_
  refine D_cVIW (As := [_, _]) (μ := fun W1 => (MEM b c W1 M)) h dX10_travelTime_3 cv_X10_296 rfl ⟨_, _, _, (mem_30 hc2), rfl, rfl⟩ rfl (Nat.le_of_ble_eq_true rfl) (fun x y hx => e_X10_noStations (Nat.le_trans (Nat.le_of_ble_eq_true rfl) hf) hc2 hx) fun v2 W1 h => ?_
  refine D_if_eq (tgt := 11) h dX10_travelTime_6 rfl (fun b3 h => ?_) (fun b3 h => ?_)
  · refine V_aload_n (i := 0) dX10_travelTime_11 rfl rfl ?_
    refine V_getfield dX10_travelTime_12 (mem_30 hc2) fl_X10_7 rfl ?_
    refine V_iload_n (i := 1) dX10_travelTime_15 rfl rfl ?_
    refine V_iload_n (i := 2) dX10_travelTime_16 rfl rfl ?_
    refine D_cSI (As := [_, _, _]) h dX10_travelTime_17 cs_X10_128 rfl rfl (Nat.le_of_ble_eq_true rfl) (fun x hx => liftq0 (u := 21) hc2 ⟨by decide, by decide⟩ rfl (e_X10_between (Nat.le_trans (Nat.le_of_ble_eq_true rfl) hf) hx)) fun v4 h => ?_
    refine V_istore_n (i := 3) dX10_travelTime_20 rfl (Nat.le_of_ble_eq_true rfl) ?_
    refine V_iload_n (i := 3) dX10_travelTime_21 rfl rfl ?_
    refine V_iconst (v := -1) dX10_travelTime_22 (by decide) ?_
    refine D_icmp_ne (tgt := 30) h dX10_travelTime_23 rfl (fun b5 h => ?_) (fun b5 h => ?_)
    · refine V_aload_n (i := 0) dX10_travelTime_30 rfl rfl ?_
      refine V_getfield dX10_travelTime_31 (mem_30 hc2) fl_X10_7 rfl ?_
      refine V_iload_n (i := 3) dX10_travelTime_34 rfl rfl ?_
      refine D_cSI (As := [_]) h dX10_travelTime_35 cs_X10_72 rfl rfl (Nat.le_of_ble_eq_true rfl) (fun x hx => e_X10_ofTrack (Nat.le_trans (Nat.le_of_ble_eq_true rfl) hf) hx) fun v6 h => ?_
      refine V_iconst (v := 2) dX10_travelTime_38 (by decide) ?_
      refine V_iadd dX10_travelTime_39 ?_
      refine D3_ild h (mem_21 hc2) dX10_travelTime_40 fun h => ?_
      obtain rfl := Option.some.inj h
      exact V_ireturn dX10_travelTime_41 ⟨_, rfl, rfl⟩ ⟨rfl, rfl, rfl⟩
    · refine V_iconst (v := -1) dX10_travelTime_26 (by decide) ?_
      refine V_goto (tgt := 41) dX10_travelTime_27 rfl ?_
      obtain rfl := Option.some.inj h
      exact V_ireturn dX10_travelTime_41 ⟨_, rfl, rfl⟩ ⟨rfl, rfl, rfl⟩
  · refine V_iconst (v := 0) dX10_travelTime_9 (by decide) ?_
    obtain rfl := Option.some.inj h
    exact V_ireturn dX10_travelTime_10 ⟨_, rfl, rfl⟩ ⟨rfl, rfl, rfl⟩
noncomputable def f_X10_truncateInput (W : Nat → Nat → Int32) (a1 : Int32) : Option (Int32 × (Nat → Nat → Int32)) :=
  bd2 (f_X10_noNumber W a1 (0 : Int32) (W 30 3)) (fun v2 W1 => if v2 = 0 then bnd (w2 W1 30 3 a1) (fun W4 => some (a1, W4)) else some ((0 : Int32), W1))
theorem e_X10_truncateInput {G : GT} {f0 : Nat} {b c : Nat} {M : MM} {hi k n : Nat} {W : Nat → Nat → Int32} {a1 : Int32} {r : (Int32 × (Nat → Nat → Int32))} (hf0 : 3 ≤ f0) (hc2 : 619 ≤ c) (h : f_X10_truncateInput W a1 = some r) : Ex G f0 mX10_truncateInput [.ref (b + 609), .int a1] (MEM b c W M) hi k n (RH (.inl (some (.int r.1))) (MEM b c r.2 M) hi) := by
  obtain ⟨f, rfl, hf⟩ := suc_of hf0
  unfold f_X10_truncateInput at h
  refine ⟨Nat.le_of_ble_eq_true rfl, ?_⟩
  refine V_aload_n (i := 0) dX10_truncateInput_0 rfl rfl ?_
  refine V_iload_n (i := 1) dX10_truncateInput_1 rfl rfl ?_
  refine V_iconst (v := 0) dX10_truncateInput_2 (by decide) ?_
  refine V_aload_n (i := 0) dX10_truncateInput_3 rfl rfl ?_
  refine V_getfield dX10_truncateInput_4 (mem_30 hc2) fl_X10_52 rfl ?_
  refine D_cVIW (As := [_, _, _]) (μ := fun W1 => (MEM b c W1 M)) h dX10_truncateInput_7 cv_X10_173 rfl ⟨_, _, _, (mem_30 hc2), rfl, rfl⟩ rfl (Nat.le_of_ble_eq_true rfl) (fun x y hx => e_X10_noNumber (Nat.le_trans (Nat.le_of_ble_eq_true rfl) hf) hc2 hx) fun v2 W1 h => ?_
  refine D_if_eq (tgt := 15) h dX10_truncateInput_10 rfl (fun b3 h => ?_) (fun b3 h => ?_)
  · refine V_aload_n (i := 0) dX10_truncateInput_15 rfl rfl ?_
    refine V_iload_n (i := 1) dX10_truncateInput_16 rfl rfl ?_
    refine D3_put h dX10_truncateInput_17 (mem_30 hc2) (fp_X10_52 rfl) (Nat.le_of_ble_eq_true rfl) (psc_30_3 hc2) fun W4 h => ?_
    refine V_iload_n (i := 1) dX10_truncateInput_20 rfl rfl ?_
    obtain rfl := Option.some.inj h
    exact V_ireturn dX10_truncateInput_21 ⟨_, rfl, rfl⟩ ⟨rfl, rfl, rfl⟩
  · refine V_iconst (v := 0) dX10_truncateInput_13 (by decide) ?_
    obtain rfl := Option.some.inj h
    exact V_ireturn dX10_truncateInput_14 ⟨_, rfl, rfl⟩ ⟨rfl, rfl, rfl⟩
noncomputable def f_X10_undo (W : Nat → Nat → Int32) : Option (Int32 × (Nat → Nat → Int32)) :=
  bnd (w2 W 30 2 (0 : Int32)) (fun W1 => jn (fun (v3 : Int32) => bd2 (f_X10_refuses W1 v3 (1 : Int32)) (fun v6 W5 => if v6 = 0 then bnd (w2 W5 30 0 ((W5 30 0) - (1 : Int32))) (fun W8 => bdc (f_X10_copyRow W8 24 ((251 : Int32) * (((W8 30 1) + (W8 30 0)) - ((W8 30 1) + (W8 30 0)) / (8 : Int32) * (8 : Int32))) 21 (0 : Int32)) (fun W9 => some (W9 30 0, W9))) else some ((0 : Int32), W5))) (fun j2 => if (W1 30 0) = 0 then j2 (1 : Int32) else j2 (0 : Int32)))
theorem e_X10_undo {G : GT} {f0 : Nat} {b c : Nat} {M : MM} {hi k n : Nat} {W : Nat → Nat → Int32} {r : (Int32 × (Nat → Nat → Int32))} (hf0 : 2 ≤ f0) (hc2 : 619 ≤ c) (h : f_X10_undo W = some r) : Ex G f0 mX10_undo [.ref (b + 609)] (MEM b c W M) hi k n (RH (.inl (some (.int r.1))) (MEM b c r.2 M) hi) := by
  obtain ⟨f, rfl, hf⟩ := suc_of hf0
  unfold f_X10_undo at h
  refine ⟨Nat.le_of_ble_eq_true rfl, ?_⟩
  refine V_aload_n (i := 0) dX10_undo_0 rfl rfl ?_
  refine V_iconst (v := 0) dX10_undo_1 (by decide) ?_
  refine D3_put h dX10_undo_2 (mem_30 hc2) (fp_X10_69 rfl) (Nat.le_of_ble_eq_true rfl) (psc_30_2 hc2) fun W1 h => ?_
  refine V_aload_n (i := 0) dX10_undo_5 rfl rfl ?_
  refine V_aload_n (i := 0) dX10_undo_6 rfl rfl ?_
  refine V_getfield dX10_undo_7 (mem_30 hc2) fl_X10_280 rfl ?_
  refine D_jn (fun (j : Int32 → Option (Int32 × (Nat → Nat → Int32))) => ∀ (v3 : Int32), j v3 = some r → V G f (Ex G f) mX10_undo (RH (.inl (some (.int r.1))) (MEM b c r.2 M) hi) 18 [(0, .ref (b + 609))] [.int v3, .ref (b + 609)] (MEM b c W1 M) hi k n) h (fun j2 hj2 h => ?_) ?_
  · refine D_if_ne (tgt := 17) h dX10_undo_10 rfl (fun b4 h => ?_) (fun b4 h => ?_)
    · refine V_iconst (v := 0) dX10_undo_17 (by decide) ?_
      exact V_sub (ks := [0]) rfl (hj2 _ h)
    · refine V_iconst (v := 1) dX10_undo_13 (by decide) ?_
      refine V_goto (tgt := 18) dX10_undo_14 rfl ?_
      exact V_sub (ks := [0]) rfl (hj2 _ h)
  · intro v3 h
    refine V_iconst (v := 1) dX10_undo_18 (by decide) ?_
    refine D_cVIW (As := [_, _]) (μ := fun W5 => (MEM b c W5 M)) h dX10_undo_19 cv_X10_165 rfl ⟨_, _, _, (mem_30 hc2), rfl, rfl⟩ rfl (Nat.le_of_ble_eq_true rfl) (fun x y hx => e_X10_refuses (Nat.le_trans (Nat.le_of_ble_eq_true rfl) hf) hc2 hx) fun v6 W5 h => ?_
    refine D_if_eq (tgt := 27) h dX10_undo_22 rfl (fun b7 h => ?_) (fun b7 h => ?_)
    · refine V_aload_n (i := 0) dX10_undo_27 rfl rfl ?_
      refine V_dup dX10_undo_28 rfl ?_
      refine V_getfield dX10_undo_29 (mem_30 hc2) fl_X10_280 rfl ?_
      refine V_iconst (v := 1) dX10_undo_32 (by decide) ?_
      refine V_isub dX10_undo_33 ?_
      refine D3_put h dX10_undo_34 (mem_30 hc2) (fp_X10_280 rfl) (Nat.le_of_ble_eq_true rfl) (psc_30_0 hc2) fun W8 h => ?_
      refine V_aload_n (i := 0) dX10_undo_37 rfl rfl ?_
      refine V_getfield dX10_undo_38 (mem_30 hc2) fl_X10_19 rfl ?_
      refine V_sipush (v := 251) dX10_undo_41 (by decide) ?_
      refine V_aload_n (i := 0) dX10_undo_44 rfl rfl ?_
      refine V_getfield dX10_undo_45 (mem_30 hc2) fl_X10_283 rfl ?_
      refine V_aload_n (i := 0) dX10_undo_48 rfl rfl ?_
      refine V_getfield dX10_undo_49 (mem_30 hc2) fl_X10_280 rfl ?_
      refine V_iadd dX10_undo_52 ?_
      refine V_bipush (v := 8) dX10_undo_53 (by decide) ?_
      refine V_irem dX10_undo_55 (by decide) ?_
      refine V_imul dX10_undo_56 ?_
      refine V_aload_n (i := 0) dX10_undo_57 rfl rfl ?_
      refine V_getfield dX10_undo_58 (mem_30 hc2) fl_X10_7 rfl ?_
      refine V_iconst (v := 0) dX10_undo_61 (by decide) ?_
      refine D_cSU (As := [_, _, _, _]) (μ := fun W9 => (MEM b c W9 M)) h dX10_undo_62 cs_X10_55 rfl rfl (Nat.le_of_ble_eq_true rfl) (fun y hx => e_X10_copyRow (u0 := 24) (u2 := 21) (Nat.le_trans (Nat.le_of_ble_eq_true rfl) hf) hc2 ⟨by decide, by decide⟩ ⟨by decide, by decide⟩ hx) fun W9 h => ?_
      refine V_aload_n (i := 0) dX10_undo_65 rfl rfl ?_
      refine V_getfield dX10_undo_66 (mem_30 hc2) fl_X10_280 rfl ?_
      obtain rfl := Option.some.inj h
      exact V_ireturn dX10_undo_69 ⟨_, rfl, rfl⟩ ⟨rfl, rfl, rfl⟩
    · refine V_iconst (v := 0) dX10_undo_25 (by decide) ?_
      obtain rfl := Option.some.inj h
      exact V_ireturn dX10_undo_26 ⟨_, rfl, rfl⟩ ⟨rfl, rfl, rfl⟩
noncomputable def f_X10_undoDepth (W : Nat → Nat → Int32) : Option (Int32 × (Nat → Nat → Int32)) :=
  bnd (w2 W 30 2 (0 : Int32)) (fun W1 => some (W1 30 0, W1))
theorem e_X10_undoDepth {G : GT} {f0 : Nat} {b c : Nat} {M : MM} {hi k n : Nat} {W : Nat → Nat → Int32} {r : (Int32 × (Nat → Nat → Int32))} (hf0 : 1 ≤ f0) (hc2 : 619 ≤ c) (h : f_X10_undoDepth W = some r) : Ex G f0 mX10_undoDepth [.ref (b + 609)] (MEM b c W M) hi k n (RH (.inl (some (.int r.1))) (MEM b c r.2 M) hi) := by
  obtain ⟨f, rfl, hf⟩ := suc_of hf0
  unfold f_X10_undoDepth at h
  refine ⟨Nat.le_of_ble_eq_true rfl, ?_⟩
  refine V_aload_n (i := 0) dX10_undoDepth_0 rfl rfl ?_
  refine V_iconst (v := 0) dX10_undoDepth_1 (by decide) ?_
  refine D3_put h dX10_undoDepth_2 (mem_30 hc2) (fp_X10_69 rfl) (Nat.le_of_ble_eq_true rfl) (psc_30_2 hc2) fun W1 h => ?_
  refine V_aload_n (i := 0) dX10_undoDepth_5 rfl rfl ?_
  refine V_getfield dX10_undoDepth_6 (mem_30 hc2) fl_X10_280 rfl ?_
  obtain rfl := Option.some.inj h
  exact V_ireturn dX10_undoDepth_9 ⟨_, rfl, rfl⟩ ⟨rfl, rfl, rfl⟩
noncomputable def f_X10_waitingCount (W : Nat → Nat → Int32) (a1 : Int32) : Option (Int32 × (Nat → Nat → Int32)) :=
  bd2 (f_X10_noStation W a1) (fun v2 W1 => if v2 = 0 then bdc (f_X10_waitingAt (pk (W1 21) (W1 27)) a1) (fun v4 => some (v4, W1)) else some ((0 : Int32), W1))
theorem e_X10_waitingCount {G : GT} {f0 : Nat} {b c : Nat} {M : MM} {hi k n : Nat} {W : Nat → Nat → Int32} {a1 : Int32} {r : (Int32 × (Nat → Nat → Int32))} (hf0 : 4 ≤ f0) (hc2 : 619 ≤ c) (h : f_X10_waitingCount W a1 = some r) : Ex G f0 mX10_waitingCount [.ref (b + 609), .int a1] (MEM b c W M) hi k n (RH (.inl (some (.int r.1))) (MEM b c r.2 M) hi) := by
  obtain ⟨f, rfl, hf⟩ := suc_of hf0
  unfold f_X10_waitingCount at h
  refine ⟨Nat.le_of_ble_eq_true rfl, ?_⟩
  refine V_aload_n (i := 0) dX10_waitingCount_0 rfl rfl ?_
  refine V_iload_n (i := 1) dX10_waitingCount_1 rfl rfl ?_
  refine D_cVIW (As := [_]) (μ := fun W1 => (MEM b c W1 M)) h dX10_waitingCount_2 cv_X10_286 rfl ⟨_, _, _, (mem_30 hc2), rfl, rfl⟩ rfl (Nat.le_of_ble_eq_true rfl) (fun x y hx => e_X10_noStation (Nat.le_trans (Nat.le_of_ble_eq_true rfl) hf) hc2 hx) fun v2 W1 h => ?_
  refine D_if_eq (tgt := 12) h dX10_waitingCount_5 rfl (fun b3 h => ?_) (fun b3 h => ?_)
  · refine V_aload_n (i := 0) dX10_waitingCount_12 rfl rfl ?_
    refine V_getfield dX10_waitingCount_13 (mem_30 hc2) fl_X10_7 rfl ?_
    refine V_iload_n (i := 1) dX10_waitingCount_16 rfl rfl ?_
    refine D_cSI (As := [_, _]) h dX10_waitingCount_17 cs_X10_290 rfl rfl (Nat.le_of_ble_eq_true rfl) (fun x hx => liftq0 (u := 21) hc2 ⟨by decide, by decide⟩ rfl (e_X10_waitingAt (Nat.le_trans (Nat.le_of_ble_eq_true rfl) hf) hx)) fun v4 h => ?_
    obtain rfl := Option.some.inj h
    exact V_ireturn dX10_waitingCount_20 ⟨_, rfl, rfl⟩ ⟨rfl, rfl, rfl⟩
  · refine V_iconst (v := 0) dX10_waitingCount_8 (by decide) ?_
    refine V_goto (tgt := 20) dX10_waitingCount_9 rfl ?_
    obtain rfl := Option.some.inj h
    exact V_ireturn dX10_waitingCount_20 ⟨_, rfl, rfl⟩ ⟨rfl, rfl, rfl⟩
noncomputable def f_X10_waitingParcel (W : Nat → Nat → Int32) (a1 : Int32) (a2 : Int32) : Option (Int32 × (Nat → Nat → Int32)) :=
  bd2 (f_X10_noStation W a1) (fun v2 W1 => if v2 = 0 then bdc (f_X10_waitingAt (pk (W1 21) (W1 27)) a1) (fun v4 => bd2 (f_X10_out W1 a2 (0 : Int32) (v4 - (1 : Int32))) (fun v6 W5 => if v6 = 0 then bdc (f_X10_considered (pk (W5 21) (W5 27)) a1 a2) (fun v8 => some (v8, W5)) else some ((0 : Int32), W5))) else some ((0 : Int32), W1))
theorem e_X10_waitingParcel {G : GT} {f0 : Nat} {b c : Nat} {M : MM} {hi k n : Nat} {W : Nat → Nat → Int32} {a1 : Int32} {a2 : Int32} {r : (Int32 × (Nat → Nat → Int32))} (hf0 : 4 ≤ f0) (hc2 : 619 ≤ c) (h : f_X10_waitingParcel W a1 a2 = some r) : Ex G f0 mX10_waitingParcel [.ref (b + 609), .int a1, .int a2] (MEM b c W M) hi k n (RH (.inl (some (.int r.1))) (MEM b c r.2 M) hi) := by
  obtain ⟨f, rfl, hf⟩ := suc_of hf0
  unfold f_X10_waitingParcel at h
  refine ⟨Nat.le_of_ble_eq_true rfl, ?_⟩
  refine V_aload_n (i := 0) dX10_waitingParcel_0 rfl rfl ?_
  refine V_iload_n (i := 1) dX10_waitingParcel_1 rfl rfl ?_
  refine D_cVIW (As := [_]) (μ := fun W1 => (MEM b c W1 M)) h dX10_waitingParcel_2 cv_X10_286 rfl ⟨_, _, _, (mem_30 hc2), rfl, rfl⟩ rfl (Nat.le_of_ble_eq_true rfl) (fun x y hx => e_X10_noStation (Nat.le_trans (Nat.le_of_ble_eq_true rfl) hf) hc2 hx) fun v2 W1 h => ?_
  refine D_if_ne (tgt := 27) h dX10_waitingParcel_5 rfl (fun b3 h => ?_) (fun b3 h => ?_)
  · refine V_iconst (v := 0) dX10_waitingParcel_27 (by decide) ?_
    refine V_goto (tgt := 40) dX10_waitingParcel_28 rfl ?_
    obtain rfl := Option.some.inj h
    exact V_ireturn dX10_waitingParcel_40 ⟨_, rfl, rfl⟩ ⟨rfl, rfl, rfl⟩
  · refine V_aload_n (i := 0) dX10_waitingParcel_8 rfl rfl ?_
    refine V_iload_n (i := 2) dX10_waitingParcel_9 rfl rfl ?_
    refine V_iconst (v := 0) dX10_waitingParcel_10 (by decide) ?_
    refine V_aload_n (i := 0) dX10_waitingParcel_11 rfl rfl ?_
    refine V_getfield dX10_waitingParcel_12 (mem_30 hc2) fl_X10_7 rfl ?_
    refine V_iload_n (i := 1) dX10_waitingParcel_15 rfl rfl ?_
    refine D_cSI (As := [_, _]) h dX10_waitingParcel_16 cs_X10_290 rfl rfl (Nat.le_of_ble_eq_true rfl) (fun x hx => liftq0 (u := 21) hc2 ⟨by decide, by decide⟩ rfl (e_X10_waitingAt (Nat.le_trans (Nat.le_of_ble_eq_true rfl) hf) hx)) fun v4 h => ?_
    refine V_iconst (v := 1) dX10_waitingParcel_19 (by decide) ?_
    refine V_isub dX10_waitingParcel_20 ?_
    refine D_cVIW (As := [_, _, _]) (μ := fun W5 => (MEM b c W5 M)) h dX10_waitingParcel_21 cv_X10_293 rfl ⟨_, _, _, (mem_30 hc2), rfl, rfl⟩ rfl (Nat.le_of_ble_eq_true rfl) (fun x y hx => e_X10_out (Nat.le_trans (Nat.le_of_ble_eq_true rfl) hf) hc2 hx) fun v6 W5 h => ?_
    refine D_if_eq (tgt := 31) h dX10_waitingParcel_24 rfl (fun b7 h => ?_) (fun b7 h => ?_)
    · refine V_aload_n (i := 0) dX10_waitingParcel_31 rfl rfl ?_
      refine V_getfield dX10_waitingParcel_32 (mem_30 hc2) fl_X10_7 rfl ?_
      refine V_iload_n (i := 1) dX10_waitingParcel_35 rfl rfl ?_
      refine V_iload_n (i := 2) dX10_waitingParcel_36 rfl rfl ?_
      refine D_cSI (As := [_, _, _]) h dX10_waitingParcel_37 cs_X10_122 rfl rfl (Nat.le_of_ble_eq_true rfl) (fun x hx => liftq0 (u := 21) hc2 ⟨by decide, by decide⟩ rfl (e_X10_considered (Nat.le_trans (Nat.le_of_ble_eq_true rfl) hf) hx)) fun v8 h => ?_
      obtain rfl := Option.some.inj h
      exact V_ireturn dX10_waitingParcel_40 ⟨_, rfl, rfl⟩ ⟨rfl, rfl, rfl⟩
    · refine V_iconst (v := 0) dX10_waitingParcel_27 (by decide) ?_
      refine V_goto (tgt := 40) dX10_waitingParcel_28 rfl ?_
      obtain rfl := Option.some.inj h
      exact V_ireturn dX10_waitingParcel_40 ⟨_, rfl, rfl⟩ ⟨rfl, rfl, rfl⟩
noncomputable def f_X10_withdraw (W : Nat → Nat → Int32) (a1 : Int32) : Option (Int32 × (Nat → Nat → Int32)) :=
  bd2 (f_X10_noParcel W a1) (fun v2 W1 => if v2 = 0 then bdc (f_X10_ofParcel a1) (fun v4 => gd (inr (v4 + (3 : Int32)) 251) (jn (fun (v6 : Int32) => bd2 (f_X10_refuses W1 v6 (2 : Int32)) (fun v9 W8 => if v9 = 0 then bdc (f_X10_remember W8) (fun W11 => bdc (f_X10_ofParcel a1) (fun v12 => gd (inr (v12 + (3 : Int32)) 251) (bnd (W11 21 (ix (v12 + (3 : Int32)))) (fun v13 => gd (inr (v12 + (0 : Int32)) 251) (if v13 = (W11 21 (ix (v12 + (0 : Int32)))) then gd (inr (v12 + (3 : Int32)) 251) (bnd (w2 W11 21 (ix (v12 + (3 : Int32))) (-1 : Int32)) (fun W18 => gd (inr (0 : Int32) 251) (gd (inr (v12 + (8 : Int32)) 251) (bnd (w2 W18 21 (ix (v12 + (8 : Int32))) (W18 21 (ix (0 : Int32)))) (fun W19 => some ((-1 : Int32), W19)))))) else gd (inr (v12 + (0 : Int32)) 251) (gd (inr (v12 + (1 : Int32)) 251) (bnd (w2 W11 21 (ix (v12 + (1 : Int32))) (W11 21 (ix (v12 + (0 : Int32))))) (fun W15 => gd (inr (v12 + (0 : Int32)) 251) (bnd (w2 W15 21 (ix (v12 + (0 : Int32))) v13) (fun W16 => gd (inr (v12 + (7 : Int32)) 251) (bnd (w2 W16 21 (ix (v12 + (7 : Int32))) (0 : Int32)) (fun W17 => gd (inr (v12 + (1 : Int32)) 251) (some (W17 21 (ix (v12 + (1 : Int32))), W17)))))))))))))) else some ((0 : Int32), W8))) (fun j5 => if (W1 21 (ix (v4 + (3 : Int32)))) = (-1 : Int32) then j5 (1 : Int32) else j5 (0 : Int32)))) else some ((0 : Int32), W1))
theorem e_X10_withdraw {G : GT} {f0 : Nat} {b c : Nat} {M : MM} {hi k n : Nat} {W : Nat → Nat → Int32} {a1 : Int32} {r : (Int32 × (Nat → Nat → Int32))} (hf0 : 4 ≤ f0) (hc2 : 619 ≤ c) (h : f_X10_withdraw W a1 = some r) : Ex G f0 mX10_withdraw [.ref (b + 609), .int a1] (MEM b c W M) hi k n (RH (.inl (some (.int r.1))) (MEM b c r.2 M) hi) := by
  obtain ⟨f, rfl, hf⟩ := suc_of hf0
  unfold f_X10_withdraw at h
  refine ⟨Nat.le_of_ble_eq_true rfl, ?_⟩
  refine V_aload_n (i := 0) dX10_withdraw_0 rfl rfl ?_
  refine V_iload_n (i := 1) dX10_withdraw_1 rfl rfl ?_
  refine D_cVIW (As := [_]) (μ := fun W1 => (MEM b c W1 M)) h dX10_withdraw_2 cv_X10_303 rfl ⟨_, _, _, (mem_30 hc2), rfl, rfl⟩ rfl (Nat.le_of_ble_eq_true rfl) (fun x y hx => e_X10_noParcel (Nat.le_trans (Nat.le_of_ble_eq_true rfl) hf) hc2 hx) fun v2 W1 h => ?_
  refine D_if_ne (tgt := 36) h dX10_withdraw_5 rfl (fun b3 h => ?_) (fun b3 h => ?_)
  · refine V_iconst (v := 0) dX10_withdraw_36 (by decide) ?_
    obtain rfl := Option.some.inj h
    exact V_ireturn dX10_withdraw_37 ⟨_, rfl, rfl⟩ ⟨rfl, rfl, rfl⟩
  · refine V_aload_n (i := 0) dX10_withdraw_8 rfl rfl ?_
    refine V_aload_n (i := 0) dX10_withdraw_9 rfl rfl ?_
    refine V_getfield dX10_withdraw_10 (mem_30 hc2) fl_X10_7 rfl ?_
    refine V_iload_n (i := 1) dX10_withdraw_13 rfl rfl ?_
    refine D_cSI (As := [_]) h dX10_withdraw_14 cs_X10_88 rfl rfl (Nat.le_of_ble_eq_true rfl) (fun x hx => e_X10_ofParcel (Nat.le_trans (Nat.le_of_ble_eq_true rfl) hf) hx) fun v4 h => ?_
    refine V_iconst (v := 3) dX10_withdraw_17 (by decide) ?_
    refine V_iadd dX10_withdraw_18 ?_
    refine D3_ild h (mem_21 hc2) dX10_withdraw_19 fun h => ?_
    refine V_iconst (v := -1) dX10_withdraw_20 (by decide) ?_
    refine D_jn (fun (j : Int32 → Option (Int32 × (Nat → Nat → Int32))) => ∀ (v6 : Int32), j v6 = some r → V G f (Ex G f) mX10_withdraw (RH (.inl (some (.int r.1))) (MEM b c r.2 M) hi) 29 [(0, .ref (b + 609)), (1, .int a1)] [.int v6, .ref (b + 609)] (MEM b c W1 M) hi k n) h (fun j5 hj5 h => ?_) ?_
    · refine D_icmp_ne (tgt := 28) h dX10_withdraw_21 rfl (fun b7 h => ?_) (fun b7 h => ?_)
      · refine V_iconst (v := 0) dX10_withdraw_28 (by decide) ?_
        exact V_sub (ks := [0, 1]) rfl (hj5 _ h)
      · refine V_iconst (v := 1) dX10_withdraw_24 (by decide) ?_
        refine V_goto (tgt := 29) dX10_withdraw_25 rfl ?_
        exact V_sub (ks := [0, 1]) rfl (hj5 _ h)
    · intro v6 h
      refine V_iconst (v := 2) dX10_withdraw_29 (by decide) ?_
      refine D_cVIW (As := [_, _]) (μ := fun W8 => (MEM b c W8 M)) h dX10_withdraw_30 cv_X10_165 rfl ⟨_, _, _, (mem_30 hc2), rfl, rfl⟩ rfl (Nat.le_of_ble_eq_true rfl) (fun x y hx => e_X10_refuses (Nat.le_trans (Nat.le_of_ble_eq_true rfl) hf) hc2 hx) fun v9 W8 h => ?_
      refine D_if_eq (tgt := 38) h dX10_withdraw_33 rfl (fun b10 h => ?_) (fun b10 h => ?_)
      · refine V_aload_n (i := 0) dX10_withdraw_38 rfl rfl ?_
        refine D_cVU (As := []) (μ := fun W11 => (MEM b c W11 M)) h dX10_withdraw_39 cv_X10_277 rfl ⟨_, _, _, (mem_30 hc2), rfl, rfl⟩ rfl (Nat.le_of_ble_eq_true rfl) (fun y hx => e_X10_remember (Nat.le_trans (Nat.le_of_ble_eq_true rfl) hf) hc2 hx) fun W11 h => ?_
        refine V_iload_n (i := 1) dX10_withdraw_42 rfl rfl ?_
        refine D_cSI (As := [_]) h dX10_withdraw_43 cs_X10_88 rfl rfl (Nat.le_of_ble_eq_true rfl) (fun x hx => e_X10_ofParcel (Nat.le_trans (Nat.le_of_ble_eq_true rfl) hf) hx) fun v12 h => ?_
        refine V_istore_n (i := 2) dX10_withdraw_46 rfl (Nat.le_of_ble_eq_true rfl) ?_
        refine V_aload_n (i := 0) dX10_withdraw_47 rfl rfl ?_
        refine V_getfield dX10_withdraw_48 (mem_30 hc2) fl_X10_7 rfl ?_
        refine V_iload_n (i := 2) dX10_withdraw_51 rfl rfl ?_
        refine V_iconst (v := 3) dX10_withdraw_52 (by decide) ?_
        refine V_iadd dX10_withdraw_53 ?_
        refine D3_ild h (mem_21 hc2) dX10_withdraw_54 fun h => ?_
        refine D_istore_n (i := 3) h dX10_withdraw_55 rfl (Nat.le_of_ble_eq_true rfl) fun v13 h => ?_
        refine V_iload_n (i := 3) dX10_withdraw_56 rfl rfl ?_
        refine V_aload_n (i := 0) dX10_withdraw_57 rfl rfl ?_
        refine V_getfield dX10_withdraw_58 (mem_30 hc2) fl_X10_7 rfl ?_
        refine V_iload_n (i := 2) dX10_withdraw_61 rfl rfl ?_
        refine V_iconst (v := 0) dX10_withdraw_62 (by decide) ?_
        refine V_iadd dX10_withdraw_63 ?_
        refine D3_ild h (mem_21 hc2) dX10_withdraw_64 fun h => ?_
        refine D_icmp_ne (tgt := 94) h dX10_withdraw_65 rfl (fun b14 h => ?_) (fun b14 h => ?_)
        · refine V_aload_n (i := 0) dX10_withdraw_94 rfl rfl ?_
          refine V_getfield dX10_withdraw_95 (mem_30 hc2) fl_X10_7 rfl ?_
          refine V_iload_n (i := 2) dX10_withdraw_98 rfl rfl ?_
          refine V_iconst (v := 1) dX10_withdraw_99 (by decide) ?_
          refine V_iadd dX10_withdraw_100 ?_
          refine V_aload_n (i := 0) dX10_withdraw_101 rfl rfl ?_
          refine V_getfield dX10_withdraw_102 (mem_30 hc2) fl_X10_7 rfl ?_
          refine V_iload_n (i := 2) dX10_withdraw_105 rfl rfl ?_
          refine V_iconst (v := 0) dX10_withdraw_106 (by decide) ?_
          refine V_iadd dX10_withdraw_107 ?_
          refine D3_ild h (mem_21 hc2) dX10_withdraw_108 fun h => ?_
          refine D3_ist (u := 21) h (mem_21 hc2) (pst_21 hc2) dX10_withdraw_109 fun W15 h => ?_
          refine V_aload_n (i := 0) dX10_withdraw_110 rfl rfl ?_
          refine V_getfield dX10_withdraw_111 (mem_30 hc2) fl_X10_7 rfl ?_
          refine V_iload_n (i := 2) dX10_withdraw_114 rfl rfl ?_
          refine V_iconst (v := 0) dX10_withdraw_115 (by decide) ?_
          refine V_iadd dX10_withdraw_116 ?_
          refine V_iload_n (i := 3) dX10_withdraw_117 rfl rfl ?_
          refine D3_ist (u := 21) h (mem_21 hc2) (pst_21 hc2) dX10_withdraw_118 fun W16 h => ?_
          refine V_aload_n (i := 0) dX10_withdraw_119 rfl rfl ?_
          refine V_getfield dX10_withdraw_120 (mem_30 hc2) fl_X10_7 rfl ?_
          refine V_iload_n (i := 2) dX10_withdraw_123 rfl rfl ?_
          refine V_bipush (v := 7) dX10_withdraw_124 (by decide) ?_
          refine V_iadd dX10_withdraw_126 ?_
          refine V_iconst (v := 0) dX10_withdraw_127 (by decide) ?_
          refine D3_ist (u := 21) h (mem_21 hc2) (pst_21 hc2) dX10_withdraw_128 fun W17 h => ?_
          refine V_aload_n (i := 0) dX10_withdraw_129 rfl rfl ?_
          refine V_getfield dX10_withdraw_130 (mem_30 hc2) fl_X10_7 rfl ?_
          refine V_iload_n (i := 2) dX10_withdraw_133 rfl rfl ?_
          refine V_iconst (v := 1) dX10_withdraw_134 (by decide) ?_
          refine V_iadd dX10_withdraw_135 ?_
          refine D3_ild h (mem_21 hc2) dX10_withdraw_136 fun h => ?_
          obtain rfl := Option.some.inj h
          exact V_ireturn dX10_withdraw_137 ⟨_, rfl, rfl⟩ ⟨rfl, rfl, rfl⟩
        · refine V_aload_n (i := 0) dX10_withdraw_68 rfl rfl ?_
          refine V_getfield dX10_withdraw_69 (mem_30 hc2) fl_X10_7 rfl ?_
          refine V_iload_n (i := 2) dX10_withdraw_72 rfl rfl ?_
          refine V_iconst (v := 3) dX10_withdraw_73 (by decide) ?_
          refine V_iadd dX10_withdraw_74 ?_
          refine V_iconst (v := -1) dX10_withdraw_75 (by decide) ?_
          refine D3_ist (u := 21) h (mem_21 hc2) (pst_21 hc2) dX10_withdraw_76 fun W18 h => ?_
          refine V_aload_n (i := 0) dX10_withdraw_77 rfl rfl ?_
          refine V_getfield dX10_withdraw_78 (mem_30 hc2) fl_X10_7 rfl ?_
          refine V_iload_n (i := 2) dX10_withdraw_81 rfl rfl ?_
          refine V_bipush (v := 8) dX10_withdraw_82 (by decide) ?_
          refine V_iadd dX10_withdraw_84 ?_
          refine V_aload_n (i := 0) dX10_withdraw_85 rfl rfl ?_
          refine V_getfield dX10_withdraw_86 (mem_30 hc2) fl_X10_7 rfl ?_
          refine V_iconst (v := 0) dX10_withdraw_89 (by decide) ?_
          refine D3_ild h (mem_21 hc2) dX10_withdraw_90 fun h => ?_
          refine D3_ist (u := 21) h (mem_21 hc2) (pst_21 hc2) dX10_withdraw_91 fun W19 h => ?_
          refine V_iconst (v := -1) dX10_withdraw_92 (by decide) ?_
          obtain rfl := Option.some.inj h
          exact V_ireturn dX10_withdraw_93 ⟨_, rfl, rfl⟩ ⟨rfl, rfl, rfl⟩
      · refine V_iconst (v := 0) dX10_withdraw_36 (by decide) ?_
        obtain rfl := Option.some.inj h
        exact V_ireturn dX10_withdraw_37 ⟨_, rfl, rfl⟩ ⟨rfl, rfl, rfl⟩
noncomputable def l_X10_worstClosure_11  : Nat → (Nat → Nat → Int32) → Int32 → Int32 → Int32 → Option (Int32 × (Nat → Nat → Int32))
  | 0, _, _, _, _ => none
  | N + 1, W, x1, x2, x3 => gd (inr (2 : Int32) 251) (if (W 21 (ix (2 : Int32))) ≤ x3 then some (x1, W) else bd2 (f_X10_deliveredWithout W x3 (60 : Int32)) (fun v4 W3 => if x1 = (-1 : Int32) then l_X10_worstClosure_11 N W3 x3 v4 (x3 + (1 : Int32)) else if x2 ≤ v4 then l_X10_worstClosure_11 N W3 x1 x2 (x3 + (1 : Int32)) else l_X10_worstClosure_11 N W3 x3 v4 (x3 + (1 : Int32))))
theorem lv_X10_worstClosure_11 {G : GT} {f : Nat} {b c : Nat} {M : MM} {hi k n : Nat}  {r : (Int32 × (Nat → Nat → Int32))} (hf : 11 ≤ f) (hc2 : 619 ≤ c) : ∀ (N : Nat) (W : Nat → Nat → Int32) (x1 : Int32) (x2 : Int32) (x3 : Int32) , l_X10_worstClosure_11 N W x1 x2 x3 = some r → V G f (Ex G f) mX10_worstClosure (RH (.inl (some (.int r.1))) (MEM b c r.2 M) hi) 11 [(0, .ref (b + 609)), (1, .int x1), (2, .int x2), (3, .int x3)] [] (MEM b c W M) hi k n := by
  intro N
  induction N with
  | zero => intro W x1 x2 x3 h; cases h
  | succ N ih =>
    intro W x1 x2 x3 h
    rw [l_X10_worstClosure_11] at h
    refine V_iload_n (i := 3) dX10_worstClosure_11 rfl rfl ?_
    refine V_aload_n (i := 0) dX10_worstClosure_12 rfl rfl ?_
    refine V_getfield dX10_worstClosure_13 (mem_30 hc2) fl_X10_7 rfl ?_
    refine V_iconst (v := 2) dX10_worstClosure_16 (by decide) ?_
    refine D3_ild h (mem_21 hc2) dX10_worstClosure_17 fun h => ?_
    refine D_icmp_ge (tgt := 52) h dX10_worstClosure_18 rfl (fun b2 h => ?_) (fun b2 h => ?_)
    · refine V_iload_n (i := 1) dX10_worstClosure_52 rfl rfl ?_
      obtain rfl := Option.some.inj h
      exact V_ireturn dX10_worstClosure_53 ⟨_, rfl, rfl⟩ ⟨rfl, rfl, rfl⟩
    · refine V_aload_n (i := 0) dX10_worstClosure_21 rfl rfl ?_
      refine V_iload_n (i := 3) dX10_worstClosure_22 rfl rfl ?_
      refine V_bipush (v := 60) dX10_worstClosure_23 (by decide) ?_
      refine D_cVIW (As := [_, _]) (μ := fun W3 => (MEM b c W3 M)) h dX10_worstClosure_25 cv_X10_316 rfl ⟨_, _, _, (mem_30 hc2), rfl, rfl⟩ rfl (Nat.le_of_ble_eq_true rfl) (fun x y hx => e_X10_deliveredWithout (Nat.le_trans (Nat.le_of_ble_eq_true rfl) hf) hc2 hx) fun v4 W3 h => ?_
      refine V_istore (i := 4) dX10_worstClosure_28 (Nat.le_of_ble_eq_true rfl) ?_
      refine V_iload_n (i := 1) dX10_worstClosure_30 rfl rfl ?_
      refine V_iconst (v := -1) dX10_worstClosure_31 (by decide) ?_
      refine D_icmp_eq (tgt := 41) h dX10_worstClosure_32 rfl (fun b5 h => ?_) (fun b5 h => ?_)
      · refine V_iload_n (i := 3) dX10_worstClosure_41 rfl rfl ?_
        refine V_istore_n (i := 1) dX10_worstClosure_42 rfl (Nat.le_of_ble_eq_true rfl) ?_
        refine V_iload (i := 4) dX10_worstClosure_43 rfl ?_
        refine V_istore_n (i := 2) dX10_worstClosure_45 rfl (Nat.le_of_ble_eq_true rfl) ?_
        refine D_iinc (i := 3) (w := 1) dX10_worstClosure_46 rfl (by decide) (Nat.le_of_ble_eq_true rfl) ?_
        refine V_goto (tgt := 11) dX10_worstClosure_49 rfl ?_
        exact V_sub (ks := [4, 2, 1, 0]) rfl (ih _ _ _ _ h)
      · refine V_iload (i := 4) dX10_worstClosure_35 rfl ?_
        refine V_iload_n (i := 2) dX10_worstClosure_37 rfl rfl ?_
        refine D_icmp_ge (tgt := 46) h dX10_worstClosure_38 rfl (fun b6 h => ?_) (fun b6 h => ?_)
        · refine D_iinc (i := 3) (w := 1) dX10_worstClosure_46 rfl (by decide) (Nat.le_of_ble_eq_true rfl) ?_
          refine V_goto (tgt := 11) dX10_worstClosure_49 rfl ?_
          exact V_sub (ks := [2, 3, 4, 0]) rfl (ih _ _ _ _ h)
        · refine V_iload_n (i := 3) dX10_worstClosure_41 rfl rfl ?_
          refine V_istore_n (i := 1) dX10_worstClosure_42 rfl (Nat.le_of_ble_eq_true rfl) ?_
          refine V_iload (i := 4) dX10_worstClosure_43 rfl ?_
          refine V_istore_n (i := 2) dX10_worstClosure_45 rfl (Nat.le_of_ble_eq_true rfl) ?_
          refine D_iinc (i := 3) (w := 1) dX10_worstClosure_46 rfl (by decide) (Nat.le_of_ble_eq_true rfl) ?_
          refine V_goto (tgt := 11) dX10_worstClosure_49 rfl ?_
          exact V_sub (ks := [4, 2, 1, 0]) rfl (ih _ _ _ _ h)
noncomputable def f_X10_worstClosure (W : Nat → Nat → Int32) : Option (Int32 × (Nat → Nat → Int32)) :=
  bnd (w2 W 30 2 (0 : Int32)) (fun W1 => l_X10_worstClosure_11 FU W1 (-1 : Int32) (0 : Int32) (0 : Int32))
theorem e_X10_worstClosure {G : GT} {f0 : Nat} {b c : Nat} {M : MM} {hi k n : Nat} {W : Nat → Nat → Int32} {r : (Int32 × (Nat → Nat → Int32))} (hf0 : 12 ≤ f0) (hc2 : 619 ≤ c) (h : f_X10_worstClosure W = some r) : Ex G f0 mX10_worstClosure [.ref (b + 609)] (MEM b c W M) hi k n (RH (.inl (some (.int r.1))) (MEM b c r.2 M) hi) := by
  obtain ⟨f, rfl, hf⟩ := suc_of hf0
  unfold f_X10_worstClosure at h
  refine ⟨Nat.le_of_ble_eq_true rfl, ?_⟩
  refine V_aload_n (i := 0) dX10_worstClosure_0 rfl rfl ?_
  refine V_iconst (v := 0) dX10_worstClosure_1 (by decide) ?_
  refine D3_put h dX10_worstClosure_2 (mem_30 hc2) (fp_X10_69 rfl) (Nat.le_of_ble_eq_true rfl) (psc_30_2 hc2) fun W1 h => ?_
  refine V_iconst (v := -1) dX10_worstClosure_5 (by decide) ?_
  refine V_istore_n (i := 1) dX10_worstClosure_6 rfl (Nat.le_of_ble_eq_true rfl) ?_
  refine V_iconst (v := 0) dX10_worstClosure_7 (by decide) ?_
  refine V_istore_n (i := 2) dX10_worstClosure_8 rfl (Nat.le_of_ble_eq_true rfl) ?_
  refine V_iconst (v := 0) dX10_worstClosure_9 (by decide) ?_
  refine V_istore_n (i := 3) dX10_worstClosure_10 rfl (Nat.le_of_ble_eq_true rfl) ?_
  refine V_sub (ks := [3, 2, 1, 0]) rfl (lv_X10_worstClosure_11 hf hc2 FU _ _ _ _ h)
noncomputable def l_X10_writeParcels_12  : Nat → (Nat → Nat → Int32) → Int32 → Option (Int32 × (Nat → Nat → Int32))
  | 0, _, _ => none
  | N + 1, W, x1 => gd (inr (4 : Int32) 251) (if (W 21 (ix (4 : Int32))) ≤ x1 then some (W 30 11, W) else bdc (f_X10_ofParcel x1) (fun v4 => bdc (f_X10_space W) (fun W5 => gd (inr (v4 + (3 : Int32)) 251) (if (W5 21 (ix (v4 + (3 : Int32)))) = (-1 : Int32) then gd (inr (v4 + (4 : Int32)) 251) (if (W5 21 (ix (v4 + (4 : Int32)))) = (-1 : Int32) then bdc (f_X10_print W5 (61 : Int32)) (fun W8 => l_X10_writeParcels_12 N W8 (x1 + (1 : Int32))) else bdc (f_X10_print W5 (35 : Int32)) (fun W9 => gd (inr (v4 + (4 : Int32)) 251) (bdc (f_X10_print W9 ((48 : Int32) + (W9 21 (ix (v4 + (4 : Int32)))))) (fun W10 => l_X10_writeParcels_12 N W10 (x1 + (1 : Int32)))))) else bdc (f_X10_print W5 (64 : Int32)) (fun W11 => gd (inr (v4 + (3 : Int32)) 251) (bdc (f_X10_printName W11 (W11 21 (ix (v4 + (3 : Int32))))) (fun W12 => l_X10_writeParcels_12 N W12 (x1 + (1 : Int32)))))))))
theorem lv_X10_writeParcels_12 {G : GT} {f : Nat} {b c : Nat} {M : MM} {hi k n : Nat}  {r : (Int32 × (Nat → Nat → Int32))} (hf : 2 ≤ f) (hc2 : 619 ≤ c) : ∀ (N : Nat) (W : Nat → Nat → Int32) (x1 : Int32) , l_X10_writeParcels_12 N W x1 = some r → V G f (Ex G f) mX10_writeParcels (RH (.inl (some (.int r.1))) (MEM b c r.2 M) hi) 12 [(0, .ref (b + 609)), (1, .int x1)] [] (MEM b c W M) hi k n := by
  intro N
  induction N with
  | zero => intro W x1 h; cases h
  | succ N ih =>
    intro W x1 h
    rw [l_X10_writeParcels_12] at h
    refine V_iload_n (i := 1) dX10_writeParcels_12 rfl rfl ?_
    refine V_aload_n (i := 0) dX10_writeParcels_13 rfl rfl ?_
    refine V_getfield dX10_writeParcels_14 (mem_30 hc2) fl_X10_7 rfl ?_
    refine V_iconst (v := 4) dX10_writeParcels_17 (by decide) ?_
    refine D3_ild h (mem_21 hc2) dX10_writeParcels_18 fun h => ?_
    refine D_icmp_ge (tgt := 112) h dX10_writeParcels_19 rfl (fun b3 h => ?_) (fun b3 h => ?_)
    · refine V_aload_n (i := 0) dX10_writeParcels_112 rfl rfl ?_
      refine V_getfield dX10_writeParcels_113 (mem_30 hc2) fl_X10_322 rfl ?_
      obtain rfl := Option.some.inj h
      exact V_ireturn dX10_writeParcels_116 ⟨_, rfl, rfl⟩ ⟨rfl, rfl, rfl⟩
    · refine V_iload_n (i := 1) dX10_writeParcels_22 rfl rfl ?_
      refine D_cSI (As := [_]) h dX10_writeParcels_23 cs_X10_88 rfl rfl (Nat.le_of_ble_eq_true rfl) (fun x hx => e_X10_ofParcel (Nat.le_trans (Nat.le_of_ble_eq_true rfl) hf) hx) fun v4 h => ?_
      refine V_istore_n (i := 2) dX10_writeParcels_26 rfl (Nat.le_of_ble_eq_true rfl) ?_
      refine V_aload_n (i := 0) dX10_writeParcels_27 rfl rfl ?_
      refine D_cVU (As := []) (μ := fun W5 => (MEM b c W5 M)) h dX10_writeParcels_28 cv_X10_331 rfl ⟨_, _, _, (mem_30 hc2), rfl, rfl⟩ rfl (Nat.le_of_ble_eq_true rfl) (fun y hx => e_X10_space (Nat.le_trans (Nat.le_of_ble_eq_true rfl) hf) hc2 hx) fun W5 h => ?_
      refine V_aload_n (i := 0) dX10_writeParcels_31 rfl rfl ?_
      refine V_getfield dX10_writeParcels_32 (mem_30 hc2) fl_X10_7 rfl ?_
      refine V_iload_n (i := 2) dX10_writeParcels_35 rfl rfl ?_
      refine V_iconst (v := 3) dX10_writeParcels_36 (by decide) ?_
      refine V_iadd dX10_writeParcels_37 ?_
      refine D3_ild h (mem_21 hc2) dX10_writeParcels_38 fun h => ?_
      refine V_iconst (v := -1) dX10_writeParcels_39 (by decide) ?_
      refine D_icmp_eq (tgt := 64) h dX10_writeParcels_40 rfl (fun b6 h => ?_) (fun b6 h => ?_)
      · refine V_aload_n (i := 0) dX10_writeParcels_64 rfl rfl ?_
        refine V_getfield dX10_writeParcels_65 (mem_30 hc2) fl_X10_7 rfl ?_
        refine V_iload_n (i := 2) dX10_writeParcels_68 rfl rfl ?_
        refine V_iconst (v := 4) dX10_writeParcels_69 (by decide) ?_
        refine V_iadd dX10_writeParcels_70 ?_
        refine D3_ild h (mem_21 hc2) dX10_writeParcels_71 fun h => ?_
        refine V_iconst (v := -1) dX10_writeParcels_72 (by decide) ?_
        refine D_icmp_eq (tgt := 100) h dX10_writeParcels_73 rfl (fun b7 h => ?_) (fun b7 h => ?_)
        · refine V_aload_n (i := 0) dX10_writeParcels_100 rfl rfl ?_
          refine V_bipush (v := 61) dX10_writeParcels_101 (by decide) ?_
          refine D_cVU (As := [_]) (μ := fun W8 => (MEM b c W8 M)) h dX10_writeParcels_103 cv_X10_328 rfl ⟨_, _, _, (mem_30 hc2), rfl, rfl⟩ rfl (Nat.le_of_ble_eq_true rfl) (fun y hx => e_X10_print (Nat.le_trans (Nat.le_of_ble_eq_true rfl) hf) hc2 hx) fun W8 h => ?_
          refine D_iinc (i := 1) (w := 1) dX10_writeParcels_106 rfl (by decide) (Nat.le_of_ble_eq_true rfl) ?_
          refine V_goto (tgt := 12) dX10_writeParcels_109 rfl ?_
          exact V_sub (ks := [2, 0]) rfl (ih _ _ h)
        · refine V_aload_n (i := 0) dX10_writeParcels_76 rfl rfl ?_
          refine V_bipush (v := 35) dX10_writeParcels_77 (by decide) ?_
          refine D_cVU (As := [_]) (μ := fun W9 => (MEM b c W9 M)) h dX10_writeParcels_79 cv_X10_328 rfl ⟨_, _, _, (mem_30 hc2), rfl, rfl⟩ rfl (Nat.le_of_ble_eq_true rfl) (fun y hx => e_X10_print (Nat.le_trans (Nat.le_of_ble_eq_true rfl) hf) hc2 hx) fun W9 h => ?_
          refine V_aload_n (i := 0) dX10_writeParcels_82 rfl rfl ?_
          refine V_bipush (v := 48) dX10_writeParcels_83 (by decide) ?_
          refine V_aload_n (i := 0) dX10_writeParcels_85 rfl rfl ?_
          refine V_getfield dX10_writeParcels_86 (mem_30 hc2) fl_X10_7 rfl ?_
          refine V_iload_n (i := 2) dX10_writeParcels_89 rfl rfl ?_
          refine V_iconst (v := 4) dX10_writeParcels_90 (by decide) ?_
          refine V_iadd dX10_writeParcels_91 ?_
          refine D3_ild h (mem_21 hc2) dX10_writeParcels_92 fun h => ?_
          refine V_iadd dX10_writeParcels_93 ?_
          refine D_cVU (As := [_]) (μ := fun W10 => (MEM b c W10 M)) h dX10_writeParcels_94 cv_X10_328 rfl ⟨_, _, _, (mem_30 hc2), rfl, rfl⟩ rfl (Nat.le_of_ble_eq_true rfl) (fun y hx => e_X10_print (Nat.le_trans (Nat.le_of_ble_eq_true rfl) hf) hc2 hx) fun W10 h => ?_
          refine V_goto (tgt := 106) dX10_writeParcels_97 rfl ?_
          refine D_iinc (i := 1) (w := 1) dX10_writeParcels_106 rfl (by decide) (Nat.le_of_ble_eq_true rfl) ?_
          refine V_goto (tgt := 12) dX10_writeParcels_109 rfl ?_
          exact V_sub (ks := [2, 0]) rfl (ih _ _ h)
      · refine V_aload_n (i := 0) dX10_writeParcels_43 rfl rfl ?_
        refine V_bipush (v := 64) dX10_writeParcels_44 (by decide) ?_
        refine D_cVU (As := [_]) (μ := fun W11 => (MEM b c W11 M)) h dX10_writeParcels_46 cv_X10_328 rfl ⟨_, _, _, (mem_30 hc2), rfl, rfl⟩ rfl (Nat.le_of_ble_eq_true rfl) (fun y hx => e_X10_print (Nat.le_trans (Nat.le_of_ble_eq_true rfl) hf) hc2 hx) fun W11 h => ?_
        refine V_aload_n (i := 0) dX10_writeParcels_49 rfl rfl ?_
        refine V_aload_n (i := 0) dX10_writeParcels_50 rfl rfl ?_
        refine V_getfield dX10_writeParcels_51 (mem_30 hc2) fl_X10_7 rfl ?_
        refine V_iload_n (i := 2) dX10_writeParcels_54 rfl rfl ?_
        refine V_iconst (v := 3) dX10_writeParcels_55 (by decide) ?_
        refine V_iadd dX10_writeParcels_56 ?_
        refine D3_ild h (mem_21 hc2) dX10_writeParcels_57 fun h => ?_
        refine D_cVU (As := [_]) (μ := fun W12 => (MEM b c W12 M)) h dX10_writeParcels_58 cv_X10_334 rfl ⟨_, _, _, (mem_30 hc2), rfl, rfl⟩ rfl (Nat.le_of_ble_eq_true rfl) (fun y hx => e_X10_printName (Nat.le_trans (Nat.le_of_ble_eq_true rfl) hf) hc2 hx) fun W12 h => ?_
        refine V_goto (tgt := 106) dX10_writeParcels_61 rfl ?_
        refine D_iinc (i := 1) (w := 1) dX10_writeParcels_106 rfl (by decide) (Nat.le_of_ble_eq_true rfl) ?_
        refine V_goto (tgt := 12) dX10_writeParcels_109 rfl ?_
        exact V_sub (ks := [2, 0]) rfl (ih _ _ h)
noncomputable def f_X10_writeParcels (W : Nat → Nat → Int32) : Option (Int32 × (Nat → Nat → Int32)) :=
  bnd (w2 W 30 2 (0 : Int32)) (fun W1 => bnd (w2 W1 30 11 (0 : Int32)) (fun W2 => l_X10_writeParcels_12 FU W2 (0 : Int32)))
theorem e_X10_writeParcels {G : GT} {f0 : Nat} {b c : Nat} {M : MM} {hi k n : Nat} {W : Nat → Nat → Int32} {r : (Int32 × (Nat → Nat → Int32))} (hf0 : 3 ≤ f0) (hc2 : 619 ≤ c) (h : f_X10_writeParcels W = some r) : Ex G f0 mX10_writeParcels [.ref (b + 609)] (MEM b c W M) hi k n (RH (.inl (some (.int r.1))) (MEM b c r.2 M) hi) := by
  obtain ⟨f, rfl, hf⟩ := suc_of hf0
  unfold f_X10_writeParcels at h
  refine ⟨Nat.le_of_ble_eq_true rfl, ?_⟩
  refine V_aload_n (i := 0) dX10_writeParcels_0 rfl rfl ?_
  refine V_iconst (v := 0) dX10_writeParcels_1 (by decide) ?_
  refine D3_put h dX10_writeParcels_2 (mem_30 hc2) (fp_X10_69 rfl) (Nat.le_of_ble_eq_true rfl) (psc_30_2 hc2) fun W1 h => ?_
  refine V_aload_n (i := 0) dX10_writeParcels_5 rfl rfl ?_
  refine V_iconst (v := 0) dX10_writeParcels_6 (by decide) ?_
  refine D3_put h dX10_writeParcels_7 (mem_30 hc2) (fp_X10_322 rfl) (Nat.le_of_ble_eq_true rfl) (psc_30_11 hc2) fun W2 h => ?_
  refine V_iconst (v := 0) dX10_writeParcels_10 (by decide) ?_
  refine V_istore_n (i := 1) dX10_writeParcels_11 rfl (Nat.le_of_ble_eq_true rfl) ?_
  refine V_sub (ks := [1, 0]) rfl (lv_X10_writeParcels_12 hf hc2 FU _ _ h)
noncomputable def l_X10_writeTrains_12  : Nat → (Nat → Nat → Int32) → Int32 → Option (Int32 × (Nat → Nat → Int32))
  | 0, _, _ => none
  | N + 1, W, x1 => gd (inr (3 : Int32) 251) (if (W 21 (ix (3 : Int32))) ≤ x1 then some (W 30 11, W) else bdc (f_X10_space W) (fun W4 => bdc (f_X10_stationOf (pk (W4 21) (W4 27)) x1) (fun v5 => bdc (f_X10_printName W4 v5) (fun W6 => bdc (f_X10_stands (pk (W6 21) (W6 27)) x1) (fun v7 => jn (fun (W9 : Nat → Nat → Int32) => bdc (f_X10_print W9 (58 : Int32)) (fun W14 => bdc (f_X10_carried (pk (W14 21) (W14 27)) x1) (fun v15 => bdc (f_X10_print W14 ((48 : Int32) + v15)) (fun W16 => l_X10_writeTrains_12 N W16 (x1 + (1 : Int32)))))) (fun j8 => if v7 = 0 then bdc (f_X10_print W6 (62 : Int32)) (fun W11 => bdc (f_X10_nextOf (pk (W11 21) (W11 27)) x1) (fun v12 => bdc (f_X10_printName W11 v12) (fun W13 => j8 W13))) else j8 W6))))))
theorem lv_X10_writeTrains_12 {G : GT} {f : Nat} {b c : Nat} {M : MM} {hi k n : Nat}  {r : (Int32 × (Nat → Nat → Int32))} (hf : 3 ≤ f) (hc2 : 619 ≤ c) : ∀ (N : Nat) (W : Nat → Nat → Int32) (x1 : Int32) , l_X10_writeTrains_12 N W x1 = some r → V G f (Ex G f) mX10_writeTrains (RH (.inl (some (.int r.1))) (MEM b c r.2 M) hi) 12 [(0, .ref (b + 609)), (1, .int x1)] [] (MEM b c W M) hi k n := by
  intro N
  induction N with
  | zero => intro W x1 h; cases h
  | succ N ih =>
    intro W x1 h
    rw [l_X10_writeTrains_12] at h
    refine V_iload_n (i := 1) dX10_writeTrains_12 rfl rfl ?_
    refine V_aload_n (i := 0) dX10_writeTrains_13 rfl rfl ?_
    refine V_getfield dX10_writeTrains_14 (mem_30 hc2) fl_X10_7 rfl ?_
    refine V_iconst (v := 3) dX10_writeTrains_17 (by decide) ?_
    refine D3_ild h (mem_21 hc2) dX10_writeTrains_18 fun h => ?_
    refine D_icmp_ge (tgt := 94) h dX10_writeTrains_19 rfl (fun b3 h => ?_) (fun b3 h => ?_)
    · refine V_aload_n (i := 0) dX10_writeTrains_94 rfl rfl ?_
      refine V_getfield dX10_writeTrains_95 (mem_30 hc2) fl_X10_322 rfl ?_
      obtain rfl := Option.some.inj h
      exact V_ireturn dX10_writeTrains_98 ⟨_, rfl, rfl⟩ ⟨rfl, rfl, rfl⟩
    · refine V_aload_n (i := 0) dX10_writeTrains_22 rfl rfl ?_
      refine D_cVU (As := []) (μ := fun W4 => (MEM b c W4 M)) h dX10_writeTrains_23 cv_X10_331 rfl ⟨_, _, _, (mem_30 hc2), rfl, rfl⟩ rfl (Nat.le_of_ble_eq_true rfl) (fun y hx => e_X10_space (Nat.le_trans (Nat.le_of_ble_eq_true rfl) hf) hc2 hx) fun W4 h => ?_
      refine V_aload_n (i := 0) dX10_writeTrains_26 rfl rfl ?_
      refine V_aload_n (i := 0) dX10_writeTrains_27 rfl rfl ?_
      refine V_getfield dX10_writeTrains_28 (mem_30 hc2) fl_X10_7 rfl ?_
      refine V_iload_n (i := 1) dX10_writeTrains_31 rfl rfl ?_
      refine D_cSI (As := [_, _]) h dX10_writeTrains_32 cs_X10_95 rfl rfl (Nat.le_of_ble_eq_true rfl) (fun x hx => liftq0 (u := 21) hc2 ⟨by decide, by decide⟩ rfl (e_X10_stationOf (Nat.le_trans (Nat.le_of_ble_eq_true rfl) hf) hx)) fun v5 h => ?_
      refine D_cVU (As := [_]) (μ := fun W6 => (MEM b c W6 M)) h dX10_writeTrains_35 cv_X10_334 rfl ⟨_, _, _, (mem_30 hc2), rfl, rfl⟩ rfl (Nat.le_of_ble_eq_true rfl) (fun y hx => e_X10_printName (Nat.le_trans (Nat.le_of_ble_eq_true rfl) hf) hc2 hx) fun W6 h => ?_
      refine V_aload_n (i := 0) dX10_writeTrains_38 rfl rfl ?_
      refine V_getfield dX10_writeTrains_39 (mem_30 hc2) fl_X10_7 rfl ?_
      refine V_iload_n (i := 1) dX10_writeTrains_42 rfl rfl ?_
      refine D_cSI (As := [_, _]) h dX10_writeTrains_43 cs_X10_149 rfl rfl (Nat.le_of_ble_eq_true rfl) (fun x hx => liftq0 (u := 21) hc2 ⟨by decide, by decide⟩ rfl (e_X10_stands (Nat.le_trans (Nat.le_of_ble_eq_true rfl) hf) hx)) fun v7 h => ?_
      refine D_jn (fun (j : (Nat → Nat → Int32) → Option (Int32 × (Nat → Nat → Int32))) => ∀ (W9 : Nat → Nat → Int32), j W9 = some r → V G f (Ex G f) mX10_writeTrains (RH (.inl (some (.int r.1))) (MEM b c r.2 M) hi) 67 [(0, .ref (b + 609)), (1, .int x1)] [] (MEM b c W9 M) hi k n) h (fun j8 hj8 h => ?_) ?_
      · refine D_if_ne (tgt := 67) h dX10_writeTrains_46 rfl (fun b10 h => ?_) (fun b10 h => ?_)
        · exact V_sub (ks := [0, 1]) rfl (hj8 _ h)
        · refine V_aload_n (i := 0) dX10_writeTrains_49 rfl rfl ?_
          refine V_bipush (v := 62) dX10_writeTrains_50 (by decide) ?_
          refine D_cVU (As := [_]) (μ := fun W11 => (MEM b c W11 M)) h dX10_writeTrains_52 cv_X10_328 rfl ⟨_, _, _, (mem_30 hc2), rfl, rfl⟩ rfl (Nat.le_of_ble_eq_true rfl) (fun y hx => e_X10_print (Nat.le_trans (Nat.le_of_ble_eq_true rfl) hf) hc2 hx) fun W11 h => ?_
          refine V_aload_n (i := 0) dX10_writeTrains_55 rfl rfl ?_
          refine V_aload_n (i := 0) dX10_writeTrains_56 rfl rfl ?_
          refine V_getfield dX10_writeTrains_57 (mem_30 hc2) fl_X10_7 rfl ?_
          refine V_iload_n (i := 1) dX10_writeTrains_60 rfl rfl ?_
          refine D_cSI (As := [_, _]) h dX10_writeTrains_61 cs_X10_125 rfl rfl (Nat.le_of_ble_eq_true rfl) (fun x hx => liftq0 (u := 21) hc2 ⟨by decide, by decide⟩ rfl (e_X10_nextOf (Nat.le_trans (Nat.le_of_ble_eq_true rfl) hf) hx)) fun v12 h => ?_
          refine D_cVU (As := [_]) (μ := fun W13 => (MEM b c W13 M)) h dX10_writeTrains_64 cv_X10_334 rfl ⟨_, _, _, (mem_30 hc2), rfl, rfl⟩ rfl (Nat.le_of_ble_eq_true rfl) (fun y hx => e_X10_printName (Nat.le_trans (Nat.le_of_ble_eq_true rfl) hf) hc2 hx) fun W13 h => ?_
          exact V_sub (ks := [0, 1]) rfl (hj8 _ h)
      · intro W9 h
        refine V_aload_n (i := 0) dX10_writeTrains_67 rfl rfl ?_
        refine V_bipush (v := 58) dX10_writeTrains_68 (by decide) ?_
        refine D_cVU (As := [_]) (μ := fun W14 => (MEM b c W14 M)) h dX10_writeTrains_70 cv_X10_328 rfl ⟨_, _, _, (mem_30 hc2), rfl, rfl⟩ rfl (Nat.le_of_ble_eq_true rfl) (fun y hx => e_X10_print (Nat.le_trans (Nat.le_of_ble_eq_true rfl) hf) hc2 hx) fun W14 h => ?_
        refine V_aload_n (i := 0) dX10_writeTrains_73 rfl rfl ?_
        refine V_bipush (v := 48) dX10_writeTrains_74 (by decide) ?_
        refine V_aload_n (i := 0) dX10_writeTrains_76 rfl rfl ?_
        refine V_getfield dX10_writeTrains_77 (mem_30 hc2) fl_X10_7 rfl ?_
        refine V_iload_n (i := 1) dX10_writeTrains_80 rfl rfl ?_
        refine D_cSI (As := [_, _]) h dX10_writeTrains_81 cs_X10_116 rfl rfl (Nat.le_of_ble_eq_true rfl) (fun x hx => liftq0 (u := 21) hc2 ⟨by decide, by decide⟩ rfl (e_X10_carried (Nat.le_trans (Nat.le_of_ble_eq_true rfl) hf) hx)) fun v15 h => ?_
        refine V_iadd dX10_writeTrains_84 ?_
        refine D_cVU (As := [_]) (μ := fun W16 => (MEM b c W16 M)) h dX10_writeTrains_85 cv_X10_328 rfl ⟨_, _, _, (mem_30 hc2), rfl, rfl⟩ rfl (Nat.le_of_ble_eq_true rfl) (fun y hx => e_X10_print (Nat.le_trans (Nat.le_of_ble_eq_true rfl) hf) hc2 hx) fun W16 h => ?_
        refine D_iinc (i := 1) (w := 1) dX10_writeTrains_88 rfl (by decide) (Nat.le_of_ble_eq_true rfl) ?_
        refine V_goto (tgt := 12) dX10_writeTrains_91 rfl ?_
        exact V_sub (ks := [1, 0]) rfl (ih _ _ h)
noncomputable def f_X10_writeTrains (W : Nat → Nat → Int32) : Option (Int32 × (Nat → Nat → Int32)) :=
  bnd (w2 W 30 2 (0 : Int32)) (fun W1 => bnd (w2 W1 30 11 (0 : Int32)) (fun W2 => l_X10_writeTrains_12 FU W2 (0 : Int32)))
theorem e_X10_writeTrains {G : GT} {f0 : Nat} {b c : Nat} {M : MM} {hi k n : Nat} {W : Nat → Nat → Int32} {r : (Int32 × (Nat → Nat → Int32))} (hf0 : 4 ≤ f0) (hc2 : 619 ≤ c) (h : f_X10_writeTrains W = some r) : Ex G f0 mX10_writeTrains [.ref (b + 609)] (MEM b c W M) hi k n (RH (.inl (some (.int r.1))) (MEM b c r.2 M) hi) := by
  obtain ⟨f, rfl, hf⟩ := suc_of hf0
  unfold f_X10_writeTrains at h
  refine ⟨Nat.le_of_ble_eq_true rfl, ?_⟩
  refine V_aload_n (i := 0) dX10_writeTrains_0 rfl rfl ?_
  refine V_iconst (v := 0) dX10_writeTrains_1 (by decide) ?_
  refine D3_put h dX10_writeTrains_2 (mem_30 hc2) (fp_X10_69 rfl) (Nat.le_of_ble_eq_true rfl) (psc_30_2 hc2) fun W1 h => ?_
  refine V_aload_n (i := 0) dX10_writeTrains_5 rfl rfl ?_
  refine V_iconst (v := 0) dX10_writeTrains_6 (by decide) ?_
  refine D3_put h dX10_writeTrains_7 (mem_30 hc2) (fp_X10_322 rfl) (Nat.le_of_ble_eq_true rfl) (psc_30_11 hc2) fun W2 h => ?_
  refine V_iconst (v := 0) dX10_writeTrains_10 (by decide) ?_
  refine V_istore_n (i := 1) dX10_writeTrains_11 rfl (Nat.le_of_ble_eq_true rfl) ?_
  refine V_sub (ks := [1, 0]) rfl (lv_X10_writeTrains_12 hf hc2 FU _ _ h)
noncomputable def f_X1_put (W : Nat → Nat → Int32) (a1 : Int32) : Option (Nat → Nat → Int32) :=
  if (W 18 0) < 0 then some W else if (71 : Int32) ≤ (W 18 0) then some W else gd (inr (W 18 0) 71) (bnd (w2 W 19 (ix (W 18 0)) (nb ((a1).toInt8.toInt32))) (fun W3 => bnd (w2 W3 18 0 ((W3 18 0) + (1 : Int32))) (fun W4 => some W4)))
theorem e_X1_put {G : GT} {f0 : Nat} {b c : Nat} {M : MM} {hi k n : Nat} {W : Nat → Nat → Int32} {a1 : Int32} {r : (Nat → Nat → Int32)} (hf0 : 1 ≤ f0) (hc1 : 609 ≤ c) (h : f_X1_put W a1 = some r) : Ex G f0 mX1_put [.ref (b + 513), .int a1] (MEM b c W M) hi k n (RH (.inl none) (MEM b c r M) hi) := by
  obtain ⟨f, rfl, hf⟩ := suc_of hf0
  unfold f_X1_put at h
  refine ⟨Nat.le_of_ble_eq_true rfl, ?_⟩
  refine V_aload_n (i := 0) dX1_put_0 rfl rfl ?_
  refine V_getfield dX1_put_1 (mem_18 hc1) fl_X1_15 rfl ?_
  refine D_if_lt (tgt := 40) h dX1_put_4 rfl (fun b1 h => ?_) (fun b1 h => ?_)
  · obtain rfl := Option.some.inj h
    exact V_return dX1_put_40 rfl ⟨rfl, rfl, rfl⟩
  · refine V_aload_n (i := 0) dX1_put_7 rfl rfl ?_
    refine V_getfield dX1_put_8 (mem_18 hc1) fl_X1_15 rfl ?_
    refine V_aload_n (i := 0) dX1_put_11 rfl rfl ?_
    refine V_getfield dX1_put_12 (mem_18 hc1) fl_X1_9 rfl ?_
    refine V_alen (t := 0) (v := 71) dX1_put_15 (mem_19 hc1) (by decide) rfl ?_
    refine D_icmp_ge (tgt := 40) h dX1_put_16 rfl (fun b2 h => ?_) (fun b2 h => ?_)
    · obtain rfl := Option.some.inj h
      exact V_return dX1_put_40 rfl ⟨rfl, rfl, rfl⟩
    · refine V_aload_n (i := 0) dX1_put_19 rfl rfl ?_
      refine V_getfield dX1_put_20 (mem_18 hc1) fl_X1_9 rfl ?_
      refine V_aload_n (i := 0) dX1_put_23 rfl rfl ?_
      refine V_getfield dX1_put_24 (mem_18 hc1) fl_X1_15 rfl ?_
      refine V_iload_n (i := 1) dX1_put_27 rfl rfl ?_
      refine V_i2b dX1_put_28 rfl ?_
      refine D3_bst (u := 19) h (mem_19 hc1) (pst_19 hc1) dX1_put_29 fun W3 h => ?_
      refine V_aload_n (i := 0) dX1_put_30 rfl rfl ?_
      refine V_dup dX1_put_31 rfl ?_
      refine V_getfield dX1_put_32 (mem_18 hc1) fl_X1_15 rfl ?_
      refine V_iconst (v := 1) dX1_put_35 (by decide) ?_
      refine V_iadd dX1_put_36 ?_
      refine D3_put h dX1_put_37 (mem_18 hc1) (fp_X1_15 rfl) (Nat.le_of_ble_eq_true rfl) (psc_18_0 hc1) fun W4 h => ?_
      obtain rfl := Option.some.inj h
      exact V_return dX1_put_40 rfl ⟨rfl, rfl, rfl⟩
noncomputable def l_X1_putName_3 (c1 : Int32) : Nat → (Nat → Nat → Int32) → Int32 → Option (Nat → Nat → Int32)
  | 0, _, _ => none
  | N + 1, W, x2 => if x2 < 0 then some W else bnd ((ushr c1 x2) &&& (255 : Int32)) (fun v2 => if v2 = 0 then l_X1_putName_3 c1 N W (x2 + (-8 : Int32)) else bdc (f_X1_put W v2) (fun W4 => l_X1_putName_3 c1 N W4 (x2 + (-8 : Int32))))
theorem lv_X1_putName_3 {G : GT} {f : Nat} {b c : Nat} {M : MM} {hi k n : Nat} {c1 : Int32} {r : (Nat → Nat → Int32)} (hf : 1 ≤ f) (hc1 : 609 ≤ c) : ∀ (N : Nat) (W : Nat → Nat → Int32) (x2 : Int32) , l_X1_putName_3 c1 N W x2 = some r → V G f (Ex G f) mX1_putName (RH (.inl none) (MEM b c r M) hi) 3 [(0, .ref (b + 513)), (1, .int c1), (2, .int x2)] [] (MEM b c W M) hi k n := by
  intro N
  induction N with
  | zero => intro W x2 h; cases h
  | succ N ih =>
    intro W x2 h
    rw [l_X1_putName_3] at h
    refine V_iload_n (i := 2) dX1_putName_3 rfl rfl ?_
    refine D_if_lt (tgt := 30) h dX1_putName_4 rfl (fun b1 h => ?_) (fun b1 h => ?_)
    · obtain rfl := Option.some.inj h
      exact V_return dX1_putName_30 rfl ⟨rfl, rfl, rfl⟩
    · refine V_iload_n (i := 1) dX1_putName_7 rfl rfl ?_
      refine V_iload_n (i := 2) dX1_putName_8 rfl rfl ?_
      refine V_iushr (v := ushr c1 x2) dX1_putName_9 rfl ?_
      refine V_sipush (v := 255) dX1_putName_10 (by decide) ?_
      refine V_iand dX1_putName_13 ?_
      refine D_istore_n (i := 3) h dX1_putName_14 rfl (Nat.le_of_ble_eq_true rfl) fun v2 h => ?_
      refine V_iload_n (i := 3) dX1_putName_15 rfl rfl ?_
      refine D_if_eq (tgt := 24) h dX1_putName_16 rfl (fun b3 h => ?_) (fun b3 h => ?_)
      · refine D_iinc (i := 2) (w := -8) dX1_putName_24 rfl (by decide) (Nat.le_of_ble_eq_true rfl) ?_
        refine V_goto (tgt := 3) dX1_putName_27 rfl ?_
        exact V_sub (ks := [2, 3, 0]) rfl (ih _ _ h)
      · refine V_aload_n (i := 0) dX1_putName_19 rfl rfl ?_
        refine V_iload_n (i := 3) dX1_putName_20 rfl rfl ?_
        refine D_cVU (As := [_]) (μ := fun W4 => (MEM b c W4 M)) h dX1_putName_21 cv_X1_19 rfl ⟨_, _, _, (mem_18 hc1), rfl, rfl⟩ rfl (Nat.le_of_ble_eq_true rfl) (fun y hx => e_X1_put (Nat.le_trans (Nat.le_of_ble_eq_true rfl) hf) hc1 hx) fun W4 h => ?_
        refine D_iinc (i := 2) (w := -8) dX1_putName_24 rfl (by decide) (Nat.le_of_ble_eq_true rfl) ?_
        refine V_goto (tgt := 3) dX1_putName_27 rfl ?_
        exact V_sub (ks := [2, 3, 0]) rfl (ih _ _ h)
noncomputable def f_X1_putName (W : Nat → Nat → Int32) (a1 : Int32) : Option (Nat → Nat → Int32) :=
  l_X1_putName_3 a1 FU W (24 : Int32)
theorem e_X1_putName {G : GT} {f0 : Nat} {b c : Nat} {M : MM} {hi k n : Nat} {W : Nat → Nat → Int32} {a1 : Int32} {r : (Nat → Nat → Int32)} (hf0 : 2 ≤ f0) (hc1 : 609 ≤ c) (h : f_X1_putName W a1 = some r) : Ex G f0 mX1_putName [.ref (b + 513), .int a1] (MEM b c W M) hi k n (RH (.inl none) (MEM b c r M) hi) := by
  obtain ⟨f, rfl, hf⟩ := suc_of hf0
  unfold f_X1_putName at h
  refine ⟨Nat.le_of_ble_eq_true rfl, ?_⟩
  refine V_bipush (v := 24) dX1_putName_0 (by decide) ?_
  refine V_istore_n (i := 2) dX1_putName_2 rfl (Nat.le_of_ble_eq_true rfl) ?_
  refine V_sub (ks := [1, 2, 0]) rfl (lv_X1_putName_3 hf hc1 FU _ _ h)
noncomputable def f_X3_execute (W : Nat → Nat → Int32) : Option (Int32 × (Nat → Nat → Int32)) :=
  jn (fun (W2 : Nat → Nat → Int32) => if (W2 13 2) = (8 : Int32) then some (W2 13 6, W2) else some ((0 : Int32), W2)) (fun j1 => if (W 13 2) = (1 : Int32) then if (W 13 2) = (2 : Int32) then bdc (f_X4_makeStation (W 2) (W 13 3) (1 : Int32)) (fun S8 => bnd (setU W 2 S8) (fun W7 => j1 W7)) else bdc (f_X4_makeStation (W 2) (W 13 3) (0 : Int32)) (fun S6 => bnd (setU W 2 S6) (fun W5 => j1 W5)) else if (W 13 2) = (2 : Int32) then if (W 13 2) = (2 : Int32) then bdc (f_X4_makeStation (W 2) (W 13 3) (1 : Int32)) (fun S14 => bnd (setU W 2 S14) (fun W13 => j1 W13)) else bdc (f_X4_makeStation (W 2) (W 13 3) (0 : Int32)) (fun S12 => bnd (setU W 2 S12) (fun W11 => j1 W11)) else if (W 13 2) = (3 : Int32) then bdc (f_X4_makeTrack (W 2) (W 13 4) (W 13 5) (W 13 6)) (fun S17 => bnd (setU W 2 S17) (fun W16 => j1 W16)) else if (W 13 2) = (4 : Int32) then bdc (f_X4_makeTrain (W 2) (W 13 6) (ints 6 (W 14)) (W 13 7)) (fun S20 => bnd (setU W 2 S20) (fun W19 => j1 W19)) else if (W 13 2) = (5 : Int32) then bdc (f_X4_makeParcel (W 2) (W 13 4) (W 13 5) (W 13 6)) (fun S23 => bnd (setU W 2 S23) (fun W22 => j1 W22)) else if (W 13 2) = (6 : Int32) then bdc (f_X4_setInspectionOf (W 2) (W 13 4) (W 13 6)) (fun S26 => bnd (setU W 2 S26) (fun W25 => j1 W25)) else if (W 13 2) = (7 : Int32) then bdc (f_X4_findTrack (W 2) (W 13 4) (W 13 5)) (fun v28 => bdc (f_X4_openTrack (W 2) v28 (0 : Int32)) (fun S30 => bnd (setU W 2 S30) (fun W29 => j1 W29))) else gd (tso (W 13 2) 1 7) (j1 W))
theorem e_X3_execute {G : GT} {f0 : Nat} {b c : Nat} {M : MM} {hi k n : Nat} {W : Nat → Nat → Int32} {r : (Int32 × (Nat → Nat → Int32))} (hf0 : 4 ≤ f0) (hc1 : 609 ≤ c) (h : f_X3_execute W = some r) : Ex G f0 mX3_execute [.ref (b + 93)] (MEM b c W M) hi k n (RH (.inl (some (.int r.1))) (MEM b c r.2 M) hi) := by
  obtain ⟨f, rfl, hf⟩ := suc_of hf0
  unfold f_X3_execute at h
  refine ⟨Nat.le_of_ble_eq_true rfl, ?_⟩
  refine V_aload_n (i := 0) dX3_execute_0 rfl rfl ?_
  refine V_getfield dX3_execute_1 (mem_13 hc1) fl_X3_64 rfl ?_
  refine D_jn (fun (j : (Nat → Nat → Int32) → Option (Int32 × (Nat → Nat → Int32))) => ∀ (W2 : Nat → Nat → Int32), j W2 = some r → V G f (Ex G f) mX3_execute (RH (.inl (some (.int r.1))) (MEM b c r.2 M) hi) 185 [(0, .ref (b + 93))] [] (MEM b c W2 M) hi k n) h (fun j1 hj1 h => ?_) ?_
  · refine D_ite h (fun b3 h => ?_) (fun b3 h => ?_)
    · refine V_tsIn (c := 1) (off := 44) (tgt := 48) b3 dX3_execute_4 (by decide) (by decide) (by decide) rfl ?_
      refine V_aload_n (i := 0) dX3_execute_48 rfl rfl ?_
      refine V_getfield dX3_execute_49 (mem_13 hc1) fl_X3_21 rfl ?_
      refine V_aload_n (i := 0) dX3_execute_52 rfl rfl ?_
      refine V_getfield dX3_execute_53 (mem_13 hc1) fl_X3_70 rfl ?_
      refine V_aload_n (i := 0) dX3_execute_56 rfl rfl ?_
      refine V_getfield dX3_execute_57 (mem_13 hc1) fl_X3_64 rfl ?_
      refine V_iconst (v := 2) dX3_execute_60 (by decide) ?_
      refine D_icmp_ne (tgt := 68) h dX3_execute_61 rfl (fun b4 h => ?_) (fun b4 h => ?_)
      · refine V_iconst (v := 0) dX3_execute_68 (by decide) ?_
        refine D_cVU (As := [_, _]) (μ := fun S6 => (MEM b c (setU W 2 S6) M)) h dX3_execute_69 cv_X3_102 rfl ⟨_, _, _, (mst_o (u := 2) hc1 (by decide) rfl), rfl, rfl⟩ rfl (Nat.le_of_ble_eq_true rfl) (fun y hx => lift1 (u := 2) hc1 (by decide) rfl (e_X4_makeStation (Nat.le_trans (Nat.le_of_ble_eq_true rfl) hf) hx)) fun S6 h => ?_
        refine D3_gen (μ := fun W => (MEM b c W M)) h fun W5 h => ?_
        refine V_goto (tgt := 185) dX3_execute_72 rfl ?_
        exact V_sub (ks := [0]) rfl (hj1 _ h)
      · refine V_iconst (v := 1) dX3_execute_64 (by decide) ?_
        refine V_goto (tgt := 69) dX3_execute_65 rfl ?_
        refine D_cVU (As := [_, _]) (μ := fun S8 => (MEM b c (setU W 2 S8) M)) h dX3_execute_69 cv_X3_102 rfl ⟨_, _, _, (mst_o (u := 2) hc1 (by decide) rfl), rfl, rfl⟩ rfl (Nat.le_of_ble_eq_true rfl) (fun y hx => lift1 (u := 2) hc1 (by decide) rfl (e_X4_makeStation (Nat.le_trans (Nat.le_of_ble_eq_true rfl) hf) hx)) fun S8 h => ?_
        refine D3_gen (μ := fun W => (MEM b c W M)) h fun W7 h => ?_
        refine V_goto (tgt := 185) dX3_execute_72 rfl ?_
        exact V_sub (ks := [0]) rfl (hj1 _ h)
    refine D_ite h (fun b9 h => ?_) (fun b9 h => ?_)
    · refine V_tsIn (c := 2) (off := 44) (tgt := 48) b9 dX3_execute_4 (by decide) (by decide) (by decide) rfl ?_
      refine V_aload_n (i := 0) dX3_execute_48 rfl rfl ?_
      refine V_getfield dX3_execute_49 (mem_13 hc1) fl_X3_21 rfl ?_
      refine V_aload_n (i := 0) dX3_execute_52 rfl rfl ?_
      refine V_getfield dX3_execute_53 (mem_13 hc1) fl_X3_70 rfl ?_
      refine V_aload_n (i := 0) dX3_execute_56 rfl rfl ?_
      refine V_getfield dX3_execute_57 (mem_13 hc1) fl_X3_64 rfl ?_
      refine V_iconst (v := 2) dX3_execute_60 (by decide) ?_
      refine D_icmp_ne (tgt := 68) h dX3_execute_61 rfl (fun b10 h => ?_) (fun b10 h => ?_)
      · refine V_iconst (v := 0) dX3_execute_68 (by decide) ?_
        refine D_cVU (As := [_, _]) (μ := fun S12 => (MEM b c (setU W 2 S12) M)) h dX3_execute_69 cv_X3_102 rfl ⟨_, _, _, (mst_o (u := 2) hc1 (by decide) rfl), rfl, rfl⟩ rfl (Nat.le_of_ble_eq_true rfl) (fun y hx => lift1 (u := 2) hc1 (by decide) rfl (e_X4_makeStation (Nat.le_trans (Nat.le_of_ble_eq_true rfl) hf) hx)) fun S12 h => ?_
        refine D3_gen (μ := fun W => (MEM b c W M)) h fun W11 h => ?_
        refine V_goto (tgt := 185) dX3_execute_72 rfl ?_
        exact V_sub (ks := [0]) rfl (hj1 _ h)
      · refine V_iconst (v := 1) dX3_execute_64 (by decide) ?_
        refine V_goto (tgt := 69) dX3_execute_65 rfl ?_
        refine D_cVU (As := [_, _]) (μ := fun S14 => (MEM b c (setU W 2 S14) M)) h dX3_execute_69 cv_X3_102 rfl ⟨_, _, _, (mst_o (u := 2) hc1 (by decide) rfl), rfl, rfl⟩ rfl (Nat.le_of_ble_eq_true rfl) (fun y hx => lift1 (u := 2) hc1 (by decide) rfl (e_X4_makeStation (Nat.le_trans (Nat.le_of_ble_eq_true rfl) hf) hx)) fun S14 h => ?_
        refine D3_gen (μ := fun W => (MEM b c W M)) h fun W13 h => ?_
        refine V_goto (tgt := 185) dX3_execute_72 rfl ?_
        exact V_sub (ks := [0]) rfl (hj1 _ h)
    refine D_ite h (fun b15 h => ?_) (fun b15 h => ?_)
    · refine V_tsIn (c := 3) (off := 71) (tgt := 75) b15 dX3_execute_4 (by decide) (by decide) (by decide) rfl ?_
      refine V_aload_n (i := 0) dX3_execute_75 rfl rfl ?_
      refine V_getfield dX3_execute_76 (mem_13 hc1) fl_X3_21 rfl ?_
      refine V_aload_n (i := 0) dX3_execute_79 rfl rfl ?_
      refine V_getfield dX3_execute_80 (mem_13 hc1) fl_X3_76 rfl ?_
      refine V_aload_n (i := 0) dX3_execute_83 rfl rfl ?_
      refine V_getfield dX3_execute_84 (mem_13 hc1) fl_X3_82 rfl ?_
      refine V_aload_n (i := 0) dX3_execute_87 rfl rfl ?_
      refine V_getfield dX3_execute_88 (mem_13 hc1) fl_X3_89 rfl ?_
      refine D_cVU (As := [_, _, _]) (μ := fun S17 => (MEM b c (setU W 2 S17) M)) h dX3_execute_91 cv_X3_106 rfl ⟨_, _, _, (mst_o (u := 2) hc1 (by decide) rfl), rfl, rfl⟩ rfl (Nat.le_of_ble_eq_true rfl) (fun y hx => lift1 (u := 2) hc1 (by decide) rfl (e_X4_makeTrack (Nat.le_trans (Nat.le_of_ble_eq_true rfl) hf) hx)) fun S17 h => ?_
      refine D3_gen (μ := fun W => (MEM b c W M)) h fun W16 h => ?_
      refine V_goto (tgt := 185) dX3_execute_94 rfl ?_
      exact V_sub (ks := [0]) rfl (hj1 _ h)
    refine D_ite h (fun b18 h => ?_) (fun b18 h => ?_)
    · refine V_tsIn (c := 4) (off := 93) (tgt := 97) b18 dX3_execute_4 (by decide) (by decide) (by decide) rfl ?_
      refine V_aload_n (i := 0) dX3_execute_97 rfl rfl ?_
      refine V_getfield dX3_execute_98 (mem_13 hc1) fl_X3_21 rfl ?_
      refine V_aload_n (i := 0) dX3_execute_101 rfl rfl ?_
      refine V_getfield dX3_execute_102 (mem_13 hc1) fl_X3_89 rfl ?_
      refine V_aload_n (i := 0) dX3_execute_105 rfl rfl ?_
      refine V_getfield dX3_execute_106 (mem_13 hc1) fl_X3_29 rfl ?_
      refine V_aload_n (i := 0) dX3_execute_109 rfl rfl ?_
      refine V_getfield dX3_execute_110 (mem_13 hc1) fl_X3_110 rfl ?_
      refine D_cVU (As := [_, _, _]) (μ := fun S20 => (MEM b c (setU W 2 S20) M)) h dX3_execute_113 cv_X3_113 rfl ⟨_, _, _, (mst_o (u := 2) hc1 (by decide) rfl), rfl, rfl⟩ rfl (Nat.le_of_ble_eq_true rfl) (fun y hx => lift1 (u := 2) hc1 (by decide) rfl (e_X4_makeTrain (Nat.le_trans (Nat.le_of_ble_eq_true rfl) hf) ⟨mem_14 hc1, (show b + 142 < b + 96 ∨ b + 96 + 46 ≤ b + 142 by omega)⟩ hx)) fun S20 h => ?_
      refine D3_gen (μ := fun W => (MEM b c W M)) h fun W19 h => ?_
      refine V_goto (tgt := 185) dX3_execute_116 rfl ?_
      exact V_sub (ks := [0]) rfl (hj1 _ h)
    refine D_ite h (fun b21 h => ?_) (fun b21 h => ?_)
    · refine V_tsIn (c := 5) (off := 115) (tgt := 119) b21 dX3_execute_4 (by decide) (by decide) (by decide) rfl ?_
      refine V_aload_n (i := 0) dX3_execute_119 rfl rfl ?_
      refine V_getfield dX3_execute_120 (mem_13 hc1) fl_X3_21 rfl ?_
      refine V_aload_n (i := 0) dX3_execute_123 rfl rfl ?_
      refine V_getfield dX3_execute_124 (mem_13 hc1) fl_X3_76 rfl ?_
      refine V_aload_n (i := 0) dX3_execute_127 rfl rfl ?_
      refine V_getfield dX3_execute_128 (mem_13 hc1) fl_X3_82 rfl ?_
      refine V_aload_n (i := 0) dX3_execute_131 rfl rfl ?_
      refine V_getfield dX3_execute_132 (mem_13 hc1) fl_X3_89 rfl ?_
      refine D_cVU (As := [_, _, _]) (μ := fun S23 => (MEM b c (setU W 2 S23) M)) h dX3_execute_135 cv_X3_117 rfl ⟨_, _, _, (mst_o (u := 2) hc1 (by decide) rfl), rfl, rfl⟩ rfl (Nat.le_of_ble_eq_true rfl) (fun y hx => lift1 (u := 2) hc1 (by decide) rfl (e_X4_makeParcel (Nat.le_trans (Nat.le_of_ble_eq_true rfl) hf) hx)) fun S23 h => ?_
      refine D3_gen (μ := fun W => (MEM b c W M)) h fun W22 h => ?_
      refine V_goto (tgt := 185) dX3_execute_138 rfl ?_
      exact V_sub (ks := [0]) rfl (hj1 _ h)
    refine D_ite h (fun b24 h => ?_) (fun b24 h => ?_)
    · refine V_tsIn (c := 6) (off := 137) (tgt := 141) b24 dX3_execute_4 (by decide) (by decide) (by decide) rfl ?_
      refine V_aload_n (i := 0) dX3_execute_141 rfl rfl ?_
      refine V_getfield dX3_execute_142 (mem_13 hc1) fl_X3_21 rfl ?_
      refine V_aload_n (i := 0) dX3_execute_145 rfl rfl ?_
      refine V_getfield dX3_execute_146 (mem_13 hc1) fl_X3_76 rfl ?_
      refine V_aload_n (i := 0) dX3_execute_149 rfl rfl ?_
      refine V_getfield dX3_execute_150 (mem_13 hc1) fl_X3_89 rfl ?_
      refine D_cVU (As := [_, _]) (μ := fun S26 => (MEM b c (setU W 2 S26) M)) h dX3_execute_153 cv_X3_120 rfl ⟨_, _, _, (mst_o (u := 2) hc1 (by decide) rfl), rfl, rfl⟩ rfl (Nat.le_of_ble_eq_true rfl) (fun y hx => lift1 (u := 2) hc1 (by decide) rfl (e_X4_setInspectionOf (Nat.le_trans (Nat.le_of_ble_eq_true rfl) hf) hx)) fun S26 h => ?_
      refine D3_gen (μ := fun W => (MEM b c W M)) h fun W25 h => ?_
      refine V_goto (tgt := 185) dX3_execute_156 rfl ?_
      exact V_sub (ks := [0]) rfl (hj1 _ h)
    refine D_ite h (fun b27 h => ?_) (fun b27 h => ?_)
    · refine V_tsIn (c := 7) (off := 155) (tgt := 159) b27 dX3_execute_4 (by decide) (by decide) (by decide) rfl ?_
      refine V_aload_n (i := 0) dX3_execute_159 rfl rfl ?_
      refine V_getfield dX3_execute_160 (mem_13 hc1) fl_X3_21 rfl ?_
      refine V_aload_n (i := 0) dX3_execute_163 rfl rfl ?_
      refine V_getfield dX3_execute_164 (mem_13 hc1) fl_X3_21 rfl ?_
      refine V_aload_n (i := 0) dX3_execute_167 rfl rfl ?_
      refine V_getfield dX3_execute_168 (mem_13 hc1) fl_X3_76 rfl ?_
      refine V_aload_n (i := 0) dX3_execute_171 rfl rfl ?_
      refine V_getfield dX3_execute_172 (mem_13 hc1) fl_X3_82 rfl ?_
      refine D_cVI (As := [_, _]) h dX3_execute_175 cv_X3_124 rfl ⟨_, _, _, (mst_o (u := 2) hc1 (by decide) rfl), rfl, rfl⟩ rfl (Nat.le_of_ble_eq_true rfl) (fun x hx => lift0 (u := 2) hc1 (by decide) rfl (e_X4_findTrack (Nat.le_trans (Nat.le_of_ble_eq_true rfl) hf) hx)) fun v28 h => ?_
      refine V_iconst (v := 0) dX3_execute_178 (by decide) ?_
      refine D_cVU (As := [_, _]) (μ := fun S30 => (MEM b c (setU W 2 S30) M)) h dX3_execute_179 cv_X3_127 rfl ⟨_, _, _, (mst_o (u := 2) hc1 (by decide) rfl), rfl, rfl⟩ rfl (Nat.le_of_ble_eq_true rfl) (fun y hx => lift1 (u := 2) hc1 (by decide) rfl (e_X4_openTrack (Nat.le_trans (Nat.le_of_ble_eq_true rfl) hf) hx)) fun S30 h => ?_
      refine D3_gen (μ := fun W => (MEM b c W M)) h fun W29 h => ?_
      refine V_goto (tgt := 185) dX3_execute_182 rfl ?_
      exact V_sub (ks := [0]) rfl (hj1 _ h)
    refine V_tsOut (tgt := 185) h dX3_execute_4 rfl fun h => ?_
    exact V_sub (ks := [0]) rfl (hj1 _ h)
  · intro W2 h
    refine V_aload_n (i := 0) dX3_execute_185 rfl rfl ?_
    refine V_getfield dX3_execute_186 (mem_13 hc1) fl_X3_64 rfl ?_
    refine V_bipush (v := 8) dX3_execute_189 (by decide) ?_
    refine D_icmp_ne (tgt := 201) h dX3_execute_191 rfl (fun b31 h => ?_) (fun b31 h => ?_)
    · refine V_iconst (v := 0) dX3_execute_201 (by decide) ?_
      obtain rfl := Option.some.inj h
      exact V_ireturn dX3_execute_202 ⟨_, rfl, rfl⟩ ⟨rfl, rfl, rfl⟩
    · refine V_aload_n (i := 0) dX3_execute_194 rfl rfl ?_
      refine V_getfield dX3_execute_195 (mem_13 hc1) fl_X3_89 rfl ?_
      refine V_goto (tgt := 202) dX3_execute_198 rfl ?_
      obtain rfl := Option.some.inj h
      exact V_ireturn dX3_execute_202 ⟨_, rfl, rfl⟩ ⟨rfl, rfl, rfl⟩
noncomputable def f_X3_fail (W : Nat → Nat → Int32) (a1 : Int32) : Option (Nat → Nat → Int32) :=
  if (W 13 0) = 0 then bnd (w2 W 13 0 a1) (fun W2 => bnd (w2 W2 13 1 (W2 15 2)) (fun W3 => some W3)) else some W
theorem e_X3_fail {G : GT} {f0 : Nat} {b c : Nat} {M : MM} {hi k n : Nat} {W : Nat → Nat → Int32} {a1 : Int32} {r : (Nat → Nat → Int32)} (hf0 : 1 ≤ f0) (hc1 : 609 ≤ c) (h : f_X3_fail W a1 = some r) : Ex G f0 mX3_fail [.ref (b + 93), .int a1] (MEM b c W M) hi k n (RH (.inl none) (MEM b c r M) hi) := by
  obtain ⟨f, rfl, hf⟩ := suc_of hf0
  unfold f_X3_fail at h
  refine ⟨Nat.le_of_ble_eq_true rfl, ?_⟩
  refine V_aload_n (i := 0) dX3_fail_0 rfl rfl ?_
  refine V_getfield dX3_fail_1 (mem_13 hc1) fl_X3_36 rfl ?_
  refine D_if_ne (tgt := 23) h dX3_fail_4 rfl (fun b1 h => ?_) (fun b1 h => ?_)
  · obtain rfl := Option.some.inj h
    exact V_return dX3_fail_23 rfl ⟨rfl, rfl, rfl⟩
  · refine V_aload_n (i := 0) dX3_fail_7 rfl rfl ?_
    refine V_iload_n (i := 1) dX3_fail_8 rfl rfl ?_
    refine D3_put h dX3_fail_9 (mem_13 hc1) (fp_X3_36 rfl) (Nat.le_of_ble_eq_true rfl) (psc_13_0 hc1) fun W2 h => ?_
    refine V_aload_n (i := 0) dX3_fail_12 rfl rfl ?_
    refine V_aload_n (i := 0) dX3_fail_13 rfl rfl ?_
    refine V_getfield dX3_fail_14 (mem_13 hc1) fl_X3_12 rfl ?_
    refine V_getfield dX3_fail_17 (mem_15 hc1) fl_X3_58 rfl ?_
    refine D3_put h dX3_fail_20 (mem_13 hc1) (fp_X3_25 rfl) (Nat.le_of_ble_eq_true rfl) (psc_13_1 hc1) fun W3 h => ?_
    obtain rfl := Option.some.inj h
    exact V_return dX3_fail_23 rfl ⟨rfl, rfl, rfl⟩
noncomputable def f_X6_byteAt (W : Nat → Nat → Int32) (a1 : Int32) : Option Int32 :=
  if a1 < 0 then some (0 : Int32) else if (600 : Int32) ≤ a1 then some (0 : Int32) else gd (inr a1 600) (some ((W 16 (ix a1)) &&& (255 : Int32)))
theorem e_X6_byteAt {G : GT} {f0 : Nat} {b c : Nat} {M : MM} {hi k n : Nat} {W : Nat → Nat → Int32} {a1 : Int32} {r : Int32} (hf0 : 1 ≤ f0) (hc1 : 609 ≤ c) (h : f_X6_byteAt W a1 = some r) : Ex G f0 mX6_byteAt [.ref (b + 94), .int a1] (MEM b c W M) hi k n (RH (.inl (some (.int r))) (MEM b c W M) hi) := by
  obtain ⟨f, rfl, hf⟩ := suc_of hf0
  unfold f_X6_byteAt at h
  refine ⟨Nat.le_of_ble_eq_true rfl, ?_⟩
  refine V_iload_n (i := 1) dX6_byteAt_0 rfl rfl ?_
  refine D_if_lt (tgt := 26) h dX6_byteAt_1 rfl (fun b1 h => ?_) (fun b1 h => ?_)
  · refine V_iconst (v := 0) dX6_byteAt_26 (by decide) ?_
    obtain rfl := Option.some.inj h
    exact V_ireturn dX6_byteAt_27 ⟨_, rfl, rfl⟩ ⟨rfl, rfl, rfl⟩
  · refine V_iload_n (i := 1) dX6_byteAt_4 rfl rfl ?_
    refine V_aload_n (i := 0) dX6_byteAt_5 rfl rfl ?_
    refine V_getfield dX6_byteAt_6 (mem_15 hc1) fl_X6_9 rfl ?_
    refine V_alen (t := 0) (v := 600) dX6_byteAt_9 (mem_16 hc1) (by decide) rfl ?_
    refine D_icmp_ge (tgt := 26) h dX6_byteAt_10 rfl (fun b2 h => ?_) (fun b2 h => ?_)
    · refine V_iconst (v := 0) dX6_byteAt_26 (by decide) ?_
      obtain rfl := Option.some.inj h
      exact V_ireturn dX6_byteAt_27 ⟨_, rfl, rfl⟩ ⟨rfl, rfl, rfl⟩
    · refine V_aload_n (i := 0) dX6_byteAt_13 rfl rfl ?_
      refine V_getfield dX6_byteAt_14 (mem_15 hc1) fl_X6_9 rfl ?_
      refine V_iload_n (i := 1) dX6_byteAt_17 rfl rfl ?_
      refine D3_bld h (mem_16 hc1) dX6_byteAt_18 fun h => ?_
      refine V_sipush (v := 255) dX6_byteAt_19 (by decide) ?_
      refine V_iand dX6_byteAt_22 ?_
      refine V_goto (tgt := 27) dX6_byteAt_23 rfl ?_
      obtain rfl := Option.some.inj h
      exact V_ireturn dX6_byteAt_27 ⟨_, rfl, rfl⟩ ⟨rfl, rfl, rfl⟩
noncomputable def l_X6_isText_20 (W : Nat → Nat → Int32) (c1 : Nat) : Nat → Int32 → Option Int32
  | 0, _ => none
  | N + 1, x2 => if (nI (lenS c1)) ≤ x2 then some (1 : Int32) else bdc (f_X6_byteAt W ((W 15 2) + x2)) (fun v3 => gd (inr x2 (lenS c1)) (if v3 = (chS c1 (ix x2)) then l_X6_isText_20 W c1 N (x2 + (1 : Int32)) else some (0 : Int32)))
theorem lv_X6_isText_20 {G : GT} {f : Nat} {b c : Nat} {M : MM} {hi k n : Nat} {W : Nat → Nat → Int32} {c1 : Nat} {r : Int32} (hf : 4 ≤ f) (hc1 : 609 ≤ c) (u1 : c1 < nSTR) : ∀ (N : Nat) (x2 : Int32) , l_X6_isText_20 W c1 N x2 = some r → V G f (Ex G f) mX6_isText (RH (.inl (some (.int r))) (MEM b c W M) hi) 20 [(0, .ref (b + 94)), (1, .ref (G.2.2.2.1 c1)), (2, .int x2)] [] (MEM b c W M) hi k n := by
  intro N
  induction N with
  | zero => intro x2 h; cases h
  | succ N ih =>
    intro x2 h
    rw [l_X6_isText_20] at h
    refine V_iload_n (i := 2) dX6_isText_20 rfl rfl ?_
    refine V_aload_n (i := 1) dX6_isText_21 rfl rfl ?_
    refine D_slen dX6_isText_22 cv_X6_23 u1 (Nat.le_of_ble_eq_true rfl) (Nat.le_trans (Nat.le_of_ble_eq_true rfl) hf) ?_
    refine D_icmp_ge (tgt := 54) h dX6_isText_25 rfl (fun b2 h => ?_) (fun b2 h => ?_)
    · refine V_iconst (v := 1) dX6_isText_54 (by decide) ?_
      obtain rfl := Option.some.inj h
      exact V_ireturn dX6_isText_55 ⟨_, rfl, rfl⟩ ⟨rfl, rfl, rfl⟩
    · refine V_aload_n (i := 0) dX6_isText_28 rfl rfl ?_
      refine V_aload_n (i := 0) dX6_isText_29 rfl rfl ?_
      refine V_getfield dX6_isText_30 (mem_15 hc1) fl_X6_38 rfl ?_
      refine V_iload_n (i := 2) dX6_isText_33 rfl rfl ?_
      refine V_iadd dX6_isText_34 ?_
      refine D_cVI (As := [_]) h dX6_isText_35 cv_X6_41 rfl ⟨_, _, _, (mem_15 hc1), rfl, rfl⟩ rfl (Nat.le_of_ble_eq_true rfl) (fun x hx => e_X6_byteAt (Nat.le_trans (Nat.le_of_ble_eq_true rfl) hf) hc1 hx) fun v3 h => ?_
      refine V_aload_n (i := 1) dX6_isText_38 rfl rfl ?_
      refine V_iload_n (i := 2) dX6_isText_39 rfl rfl ?_
      refine D_schar h dX6_isText_40 cv_X6_28 u1 (Nat.le_of_ble_eq_true rfl) (Nat.le_trans (Nat.le_of_ble_eq_true rfl) hf) fun h => ?_
      refine D_icmp_eq (tgt := 48) h dX6_isText_43 rfl (fun b4 h => ?_) (fun b4 h => ?_)
      · refine D_iinc (i := 2) (w := 1) dX6_isText_48 rfl (by decide) (Nat.le_of_ble_eq_true rfl) ?_
        refine V_goto (tgt := 20) dX6_isText_51 rfl ?_
        exact V_sub (ks := [1, 2, 0]) rfl (ih _ h)
      · refine V_iconst (v := 0) dX6_isText_46 (by decide) ?_
        obtain rfl := Option.some.inj h
        exact V_ireturn dX6_isText_47 ⟨_, rfl, rfl⟩ ⟨rfl, rfl, rfl⟩
noncomputable def f_X6_isText (W : Nat → Nat → Int32) (j1 : Nat) : Option Int32 :=
  if ((W 15 3) - (W 15 2)) = (nI (lenS j1)) then l_X6_isText_20 W j1 FU (0 : Int32) else some (0 : Int32)
theorem e_X6_isText {G : GT} {f0 : Nat} {b c : Nat} {M : MM} {hi k n : Nat} {W : Nat → Nat → Int32} {j1 : Nat} {r : Int32} (hf0 : 5 ≤ f0) (hc1 : 609 ≤ c) (t1 : j1 < nSTR) (h : f_X6_isText W j1 = some r) : Ex G f0 mX6_isText [.ref (b + 94), .ref (G.2.2.2.1 j1)] (MEM b c W M) hi k n (RH (.inl (some (.int r))) (MEM b c W M) hi) := by
  obtain ⟨f, rfl, hf⟩ := suc_of hf0
  unfold f_X6_isText at h
  refine ⟨Nat.le_of_ble_eq_true rfl, ?_⟩
  refine V_aload_n (i := 0) dX6_isText_0 rfl rfl ?_
  refine V_getfield dX6_isText_1 (mem_15 hc1) fl_X6_32 rfl ?_
  refine V_aload_n (i := 0) dX6_isText_4 rfl rfl ?_
  refine V_getfield dX6_isText_5 (mem_15 hc1) fl_X6_38 rfl ?_
  refine V_isub dX6_isText_8 ?_
  refine V_aload_n (i := 1) dX6_isText_9 rfl rfl ?_
  refine D_slen dX6_isText_10 cv_X6_23 t1 (Nat.le_of_ble_eq_true rfl) (Nat.le_trans (Nat.le_of_ble_eq_true rfl) hf) ?_
  refine D_icmp_eq (tgt := 18) h dX6_isText_13 rfl (fun b1 h => ?_) (fun b1 h => ?_)
  · refine V_iconst (v := 0) dX6_isText_18 (by decide) ?_
    refine V_istore_n (i := 2) dX6_isText_19 rfl (Nat.le_of_ble_eq_true rfl) ?_
    refine V_sub (ks := [1, 2, 0]) rfl (lv_X6_isText_20 hf hc1 t1 FU _ h)
  · refine V_iconst (v := 0) dX6_isText_16 (by decide) ?_
    obtain rfl := Option.some.inj h
    exact V_ireturn dX6_isText_17 ⟨_, rfl, rfl⟩ ⟨rfl, rfl, rfl⟩
noncomputable def f_X3_findKeyword (W : Nat → Nat → Int32) : Option Int32 :=
  bdc (f_X6_isText W 1) (fun v1 => if v1 = 0 then bdc (f_X6_isText W 2) (fun v3 => if v3 = 0 then bdc (f_X6_isText W 3) (fun v5 => if v5 = 0 then bdc (f_X6_isText W 4) (fun v7 => if v7 = 0 then bdc (f_X6_isText W 5) (fun v9 => if v9 = 0 then bdc (f_X6_isText W 6) (fun v11 => if v11 = 0 then bdc (f_X6_isText W 7) (fun v13 => if v13 = 0 then bdc (f_X6_isText W 8) (fun v15 => if v15 = 0 then some (-1 : Int32) else some (8 : Int32)) else some (7 : Int32)) else some (6 : Int32)) else some (5 : Int32)) else some (4 : Int32)) else some (3 : Int32)) else some (2 : Int32)) else some (1 : Int32))
theorem e_X3_findKeyword {G : GT} {f0 : Nat} {b c : Nat} {M : MM} {hi k n : Nat} {W : Nat → Nat → Int32} {r : Int32} (hf0 : 6 ≤ f0) (hc1 : 609 ≤ c) (h : f_X3_findKeyword W = some r) : Ex G f0 mX3_findKeyword [.ref (b + 93)] (MEM b c W M) hi k n (RH (.inl (some (.int r))) (MEM b c W M) hi) := by
  obtain ⟨f, rfl, hf⟩ := suc_of hf0
  unfold f_X3_findKeyword at h
  refine ⟨Nat.le_of_ble_eq_true rfl, ?_⟩
  refine V_aload_n (i := 0) dX3_findKeyword_0 rfl rfl ?_
  refine V_getfield dX3_findKeyword_1 (mem_13 hc1) fl_X3_12 rfl ?_
  refine V_ldcS (j := 1) dX3_findKeyword_4 (by decide +kernel) ?_
  refine D_cVI (As := [_]) h dX3_findKeyword_6 cv_X3_139 rfl ⟨_, _, _, (mem_15 hc1), rfl, rfl⟩ rfl (Nat.le_of_ble_eq_true rfl) (fun x hx => e_X6_isText (Nat.le_trans (Nat.le_of_ble_eq_true rfl) hf) hc1 (by decide) hx) fun v1 h => ?_
  refine D_if_eq (tgt := 14) h dX3_findKeyword_9 rfl (fun b2 h => ?_) (fun b2 h => ?_)
  · refine V_aload_n (i := 0) dX3_findKeyword_14 rfl rfl ?_
    refine V_getfield dX3_findKeyword_15 (mem_13 hc1) fl_X3_12 rfl ?_
    refine V_ldcS (j := 2) dX3_findKeyword_18 (by decide +kernel) ?_
    refine D_cVI (As := [_]) h dX3_findKeyword_20 cv_X3_139 rfl ⟨_, _, _, (mem_15 hc1), rfl, rfl⟩ rfl (Nat.le_of_ble_eq_true rfl) (fun x hx => e_X6_isText (Nat.le_trans (Nat.le_of_ble_eq_true rfl) hf) hc1 (by decide) hx) fun v3 h => ?_
    refine D_if_eq (tgt := 28) h dX3_findKeyword_23 rfl (fun b4 h => ?_) (fun b4 h => ?_)
    · refine V_aload_n (i := 0) dX3_findKeyword_28 rfl rfl ?_
      refine V_getfield dX3_findKeyword_29 (mem_13 hc1) fl_X3_12 rfl ?_
      refine V_ldcS (j := 3) dX3_findKeyword_32 (by decide +kernel) ?_
      refine D_cVI (As := [_]) h dX3_findKeyword_34 cv_X3_139 rfl ⟨_, _, _, (mem_15 hc1), rfl, rfl⟩ rfl (Nat.le_of_ble_eq_true rfl) (fun x hx => e_X6_isText (Nat.le_trans (Nat.le_of_ble_eq_true rfl) hf) hc1 (by decide) hx) fun v5 h => ?_
      refine D_if_eq (tgt := 42) h dX3_findKeyword_37 rfl (fun b6 h => ?_) (fun b6 h => ?_)
      · refine V_aload_n (i := 0) dX3_findKeyword_42 rfl rfl ?_
        refine V_getfield dX3_findKeyword_43 (mem_13 hc1) fl_X3_12 rfl ?_
        refine V_ldcS (j := 4) dX3_findKeyword_46 (by decide +kernel) ?_
        refine D_cVI (As := [_]) h dX3_findKeyword_48 cv_X3_139 rfl ⟨_, _, _, (mem_15 hc1), rfl, rfl⟩ rfl (Nat.le_of_ble_eq_true rfl) (fun x hx => e_X6_isText (Nat.le_trans (Nat.le_of_ble_eq_true rfl) hf) hc1 (by decide) hx) fun v7 h => ?_
        refine D_if_eq (tgt := 56) h dX3_findKeyword_51 rfl (fun b8 h => ?_) (fun b8 h => ?_)
        · refine V_aload_n (i := 0) dX3_findKeyword_56 rfl rfl ?_
          refine V_getfield dX3_findKeyword_57 (mem_13 hc1) fl_X3_12 rfl ?_
          refine V_ldcS (j := 5) dX3_findKeyword_60 (by decide +kernel) ?_
          refine D_cVI (As := [_]) h dX3_findKeyword_62 cv_X3_139 rfl ⟨_, _, _, (mem_15 hc1), rfl, rfl⟩ rfl (Nat.le_of_ble_eq_true rfl) (fun x hx => e_X6_isText (Nat.le_trans (Nat.le_of_ble_eq_true rfl) hf) hc1 (by decide) hx) fun v9 h => ?_
          refine D_if_eq (tgt := 70) h dX3_findKeyword_65 rfl (fun b10 h => ?_) (fun b10 h => ?_)
          · refine V_aload_n (i := 0) dX3_findKeyword_70 rfl rfl ?_
            refine V_getfield dX3_findKeyword_71 (mem_13 hc1) fl_X3_12 rfl ?_
            refine V_ldcS (j := 6) dX3_findKeyword_74 (by decide +kernel) ?_
            refine D_cVI (As := [_]) h dX3_findKeyword_76 cv_X3_139 rfl ⟨_, _, _, (mem_15 hc1), rfl, rfl⟩ rfl (Nat.le_of_ble_eq_true rfl) (fun x hx => e_X6_isText (Nat.le_trans (Nat.le_of_ble_eq_true rfl) hf) hc1 (by decide) hx) fun v11 h => ?_
            refine D_if_eq (tgt := 85) h dX3_findKeyword_79 rfl (fun b12 h => ?_) (fun b12 h => ?_)
            · refine V_aload_n (i := 0) dX3_findKeyword_85 rfl rfl ?_
              refine V_getfield dX3_findKeyword_86 (mem_13 hc1) fl_X3_12 rfl ?_
              refine V_ldcS (j := 7) dX3_findKeyword_89 (by decide +kernel) ?_
              refine D_cVI (As := [_]) h dX3_findKeyword_91 cv_X3_139 rfl ⟨_, _, _, (mem_15 hc1), rfl, rfl⟩ rfl (Nat.le_of_ble_eq_true rfl) (fun x hx => e_X6_isText (Nat.le_trans (Nat.le_of_ble_eq_true rfl) hf) hc1 (by decide) hx) fun v13 h => ?_
              refine D_if_eq (tgt := 100) h dX3_findKeyword_94 rfl (fun b14 h => ?_) (fun b14 h => ?_)
              · refine V_aload_n (i := 0) dX3_findKeyword_100 rfl rfl ?_
                refine V_getfield dX3_findKeyword_101 (mem_13 hc1) fl_X3_12 rfl ?_
                refine V_ldcS (j := 8) dX3_findKeyword_104 (by decide +kernel) ?_
                refine D_cVI (As := [_]) h dX3_findKeyword_106 cv_X3_139 rfl ⟨_, _, _, (mem_15 hc1), rfl, rfl⟩ rfl (Nat.le_of_ble_eq_true rfl) (fun x hx => e_X6_isText (Nat.le_trans (Nat.le_of_ble_eq_true rfl) hf) hc1 (by decide) hx) fun v15 h => ?_
                refine D_if_eq (tgt := 117) h dX3_findKeyword_109 rfl (fun b16 h => ?_) (fun b16 h => ?_)
                · refine V_iconst (v := -1) dX3_findKeyword_117 (by decide) ?_
                  obtain rfl := Option.some.inj h
                  exact V_ireturn dX3_findKeyword_118 ⟨_, rfl, rfl⟩ ⟨rfl, rfl, rfl⟩
                · refine V_bipush (v := 8) dX3_findKeyword_112 (by decide) ?_
                  refine V_goto (tgt := 118) dX3_findKeyword_114 rfl ?_
                  obtain rfl := Option.some.inj h
                  exact V_ireturn dX3_findKeyword_118 ⟨_, rfl, rfl⟩ ⟨rfl, rfl, rfl⟩
              · refine V_bipush (v := 7) dX3_findKeyword_97 (by decide) ?_
                obtain rfl := Option.some.inj h
                exact V_ireturn dX3_findKeyword_99 ⟨_, rfl, rfl⟩ ⟨rfl, rfl, rfl⟩
            · refine V_bipush (v := 6) dX3_findKeyword_82 (by decide) ?_
              obtain rfl := Option.some.inj h
              exact V_ireturn dX3_findKeyword_84 ⟨_, rfl, rfl⟩ ⟨rfl, rfl, rfl⟩
          · refine V_iconst (v := 5) dX3_findKeyword_68 (by decide) ?_
            obtain rfl := Option.some.inj h
            exact V_ireturn dX3_findKeyword_69 ⟨_, rfl, rfl⟩ ⟨rfl, rfl, rfl⟩
        · refine V_iconst (v := 4) dX3_findKeyword_54 (by decide) ?_
          obtain rfl := Option.some.inj h
          exact V_ireturn dX3_findKeyword_55 ⟨_, rfl, rfl⟩ ⟨rfl, rfl, rfl⟩
      · refine V_iconst (v := 3) dX3_findKeyword_40 (by decide) ?_
        obtain rfl := Option.some.inj h
        exact V_ireturn dX3_findKeyword_41 ⟨_, rfl, rfl⟩ ⟨rfl, rfl, rfl⟩
    · refine V_iconst (v := 2) dX3_findKeyword_26 (by decide) ?_
      obtain rfl := Option.some.inj h
      exact V_ireturn dX3_findKeyword_27 ⟨_, rfl, rfl⟩ ⟨rfl, rfl, rfl⟩
  · refine V_iconst (v := 1) dX3_findKeyword_12 (by decide) ?_
    obtain rfl := Option.some.inj h
    exact V_ireturn dX3_findKeyword_13 ⟨_, rfl, rfl⟩ ⟨rfl, rfl, rfl⟩
