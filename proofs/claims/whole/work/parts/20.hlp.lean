noncomputable def f_L_addParcel (W : Nat → Nat → Int32) (a1 : Int32) (a2 : Int32) (a3 : Int32) : Option (Int32 × (Nat → Nat → Int32)) :=
  bt2 (f_X9_addParcel W a1 a2 a3) (fun e W3 => if e = "java/lang/IndexOutOfBoundsException" then some ((1 : Int32), W3) else if e = "java/lang/IllegalArgumentException" then some ((2 : Int32), W3) else if e = "java/lang/IllegalStateException" then some ((3 : Int32), W3) else none) (fun v2 W1 => bnd (w2 W1 31 0 v2) (fun W4 => some ((0 : Int32), W4)))
theorem e_L_addParcel {G : GT} {f0 : Nat} {b c : Nat} {M : MM} {hi : Nat} {W : Nat → Nat → Int32} {a1 : Int32} {a2 : Int32} {a3 : Int32} {r : (Int32 × (Nat → Nat → Int32))} (hf0 : 10 ≤ f0) (hc3 : 620 ≤ c) (h : f_L_addParcel W a1 a2 a3 = some r) : Ex G f0 mL_addParcel [.ref (b), .int a1, .int a2, .int a3, .ref (b + 619)] (MEM b c W M) hi 4 24 (RP (.inl (some (.int r.1))) (MEM b c r.2 M)) := by
  obtain ⟨f, rfl, hf⟩ := suc_of hf0
  have hc1 : 609 ≤ c := Nat.le_trans (Nat.le_of_ble_eq_true rfl) hc3
  have hc2 : 619 ≤ c := Nat.le_trans (Nat.le_of_ble_eq_true rfl) hc3
  unfold f_L_addParcel at h
  refine ⟨Nat.le_of_ble_eq_true rfl, ?_⟩
  refine V_aload (i := 4) dL_addParcel_0 rfl ?_
  refine V_iconst (v := 0) dL_addParcel_2 (by decide) ?_
  refine V_aload_n (i := 0) dL_addParcel_3 rfl rfl ?_
  refine V_iload_n (i := 1) dL_addParcel_4 rfl rfl ?_
  refine V_iload_n (i := 2) dL_addParcel_5 rfl rfl ?_
  refine V_iload_n (i := 3) dL_addParcel_6 rfl rfl ?_
  refine D_tVIW (As := [_, _, _]) (μ := fun W1 => (MEM b c W1 M)) (k2 := 4) (n2 := 24) h dL_addParcel_7 cv_L_138 rfl ⟨_, _, _, (mem_x9 hc1), rfl, rfl⟩ rfl (Nat.le_of_ble_eq_true rfl) (fun x y hx => e_X9_addParcel (Nat.le_trans (Nat.le_of_ble_eq_true rfl) hf) hc1 hx) (fun e W3 hi h => ?_) (fun v2 W1 hi h => ?_)
  · refine D_ite h (fun q h => ?_) (fun _ h => ?_)
    · subst q
      refine Or.inr ⟨[], (0, 12, 15, 29), [(0, 12, 19, 19), (0, 12, 23, 13)], "java/lang/IndexOutOfBoundsException", rfl, (fun z hz => by cases hz), by decide, by decide, tw_922, by decide +kernel, fun ex => ?_⟩
      refine V_astore (i := 5) dL_addParcel_15 (Nat.le_of_ble_eq_true rfl) ?_
      refine V_iconst (v := 1) dL_addParcel_17 (by decide) ?_
      obtain rfl := Option.some.inj h
      exact V_ireturn dL_addParcel_18 ⟨_, rfl, rfl⟩ ⟨rfl, rfl⟩
    refine D_ite h (fun q h => ?_) (fun _ h => ?_)
    · subst q
      refine Or.inr ⟨[(0, 12, 15, 29)], (0, 12, 19, 19), [(0, 12, 23, 13)], "java/lang/IllegalArgumentException", rfl, (fun z hz => by simp only [List.mem_cons, List.not_mem_nil, or_false] at hz; rcases hz with rfl <;> exact Or.inr ⟨by decide, _, tw_922, by decide +kernel⟩), by decide, by decide, tw_885, by decide +kernel, fun ex => ?_⟩
      refine V_astore (i := 5) dL_addParcel_19 (Nat.le_of_ble_eq_true rfl) ?_
      refine V_iconst (v := 2) dL_addParcel_21 (by decide) ?_
      obtain rfl := Option.some.inj h
      exact V_ireturn dL_addParcel_22 ⟨_, rfl, rfl⟩ ⟨rfl, rfl⟩
    refine D_ite h (fun q h => ?_) (fun _ h => ?_)
    · subst q
      refine Or.inr ⟨[(0, 12, 15, 29), (0, 12, 19, 19)], (0, 12, 23, 13), [], "java/lang/IllegalStateException", rfl, (fun z hz => by
          simp only [List.mem_cons, List.not_mem_nil, or_false] at hz
          rcases hz with rfl | rfl
          · exact Or.inr ⟨by decide, _, tw_922, by decide +kernel⟩
          · exact Or.inr ⟨by decide, _, tw_885, by decide +kernel⟩), by decide, by decide, tw_805, by decide +kernel, fun ex => ?_⟩
      refine V_astore (i := 5) dL_addParcel_23 (Nat.le_of_ble_eq_true rfl) ?_
      refine V_iconst (v := 3) dL_addParcel_25 (by decide) ?_
      obtain rfl := Option.some.inj h
      exact V_ireturn dL_addParcel_26 ⟨_, rfl, rfl⟩ ⟨rfl, rfl⟩
    cases h
  · refine V_i2l dL_addParcel_10 rfl ?_
    refine D3_lst hc3 h dL_addParcel_11 fun W4 h => ?_
    refine V_goto (tgt := 27) dL_addParcel_12 rfl ?_
    refine V_iconst (v := 0) dL_addParcel_27 (by decide) ?_
    obtain rfl := Option.some.inj h
    exact V_ireturn dL_addParcel_28 ⟨_, rfl, rfl⟩ ⟨rfl, rfl⟩
noncomputable def f_L_appendInput (W : Nat → Nat → Int32) (a1 : Int32) (a2 : Int32) (a3 : Int32) (a4 : Int32) (a5 : Int32) : Option (Int32 × (Nat → Nat → Int32)) :=
  bt2 (f_X9_appendInput W a1 a2 a3 a4 a5) (fun e W3 => if e = "java/lang/IllegalStateException" then some ((1 : Int32), W3) else none) (fun v2 W1 => bnd (w2 W1 31 0 v2) (fun W4 => some ((0 : Int32), W4)))
theorem e_L_appendInput {G : GT} {f0 : Nat} {b c : Nat} {M : MM} {hi : Nat} {W : Nat → Nat → Int32} {a1 : Int32} {a2 : Int32} {a3 : Int32} {a4 : Int32} {a5 : Int32} {r : (Int32 × (Nat → Nat → Int32))} (hf0 : 9 ≤ f0) (hc3 : 620 ≤ c) (h : f_L_appendInput W a1 a2 a3 a4 a5 = some r) : Ex G f0 mL_appendInput [.ref (b), .int a1, .int a2, .int a3, .int a4, .int a5, .ref (b + 619)] (MEM b c W M) hi 1 6 (RP (.inl (some (.int r.1))) (MEM b c r.2 M)) := by
  obtain ⟨f, rfl, hf⟩ := suc_of hf0
  have hc1 : 609 ≤ c := Nat.le_trans (Nat.le_of_ble_eq_true rfl) hc3
  have hc2 : 619 ≤ c := Nat.le_trans (Nat.le_of_ble_eq_true rfl) hc3
  unfold f_L_appendInput at h
  refine ⟨Nat.le_of_ble_eq_true rfl, ?_⟩
  refine V_aload (i := 6) dL_appendInput_0 rfl ?_
  refine V_iconst (v := 0) dL_appendInput_2 (by decide) ?_
  refine V_aload_n (i := 0) dL_appendInput_3 rfl rfl ?_
  refine V_iload_n (i := 1) dL_appendInput_4 rfl rfl ?_
  refine V_iload_n (i := 2) dL_appendInput_5 rfl rfl ?_
  refine V_iload_n (i := 3) dL_appendInput_6 rfl rfl ?_
  refine V_iload (i := 4) dL_appendInput_7 rfl ?_
  refine V_iload (i := 5) dL_appendInput_9 rfl ?_
  refine D_tVIW (As := [_, _, _, _, _]) (μ := fun W1 => (MEM b c W1 M)) (k2 := 1) (n2 := 6) h dL_appendInput_11 cv_L_7 rfl ⟨_, _, _, (mem_x9 hc1), rfl, rfl⟩ rfl (Nat.le_of_ble_eq_true rfl) (fun x y hx => e_X9_appendInput (Nat.le_trans (Nat.le_of_ble_eq_true rfl) hf) hc1 hx) (fun e W3 hi h => ?_) (fun v2 W1 hi h => ?_)
  · refine D_ite h (fun q h => ?_) (fun _ h => ?_)
    · subst q
      refine Or.inr ⟨[], (0, 16, 19, 13), [], "java/lang/IllegalStateException", rfl, (fun z hz => by cases hz), by decide, by decide, tw_805, by decide +kernel, fun ex => ?_⟩
      refine V_astore (i := 7) dL_appendInput_19 (Nat.le_of_ble_eq_true rfl) ?_
      refine V_iconst (v := 1) dL_appendInput_21 (by decide) ?_
      obtain rfl := Option.some.inj h
      exact V_ireturn dL_appendInput_22 ⟨_, rfl, rfl⟩ ⟨rfl, rfl⟩
    cases h
  · refine V_i2l dL_appendInput_14 rfl ?_
    refine D3_lst hc3 h dL_appendInput_15 fun W4 h => ?_
    refine V_goto (tgt := 23) dL_appendInput_16 rfl ?_
    refine V_iconst (v := 0) dL_appendInput_23 (by decide) ?_
    obtain rfl := Option.some.inj h
    exact V_ireturn dL_appendInput_24 ⟨_, rfl, rfl⟩ ⟨rfl, rfl⟩
noncomputable def f_L_capacity (W : Nat → Nat → Int32) (a1 : Int32) : Option (Int32 × (Nat → Nat → Int32)) :=
  bdt (f_X9_capacity W a1) (fun e => if e = "java/lang/IndexOutOfBoundsException" then some ((1 : Int32), W) else none) (fun v1 => bnd (w2 W 31 0 v1) (fun W2 => some ((0 : Int32), W2)))
theorem e_L_capacity {G : GT} {f0 : Nat} {b c : Nat} {M : MM} {hi : Nat} {W : Nat → Nat → Int32} {a1 : Int32} {r : (Int32 × (Nat → Nat → Int32))} (hf0 : 10 ≤ f0) (hc3 : 620 ≤ c) (h : f_L_capacity W a1 = some r) : Ex G f0 mL_capacity [.ref (b), .int a1, .ref (b + 619)] (MEM b c W M) hi 1 6 (RP (.inl (some (.int r.1))) (MEM b c r.2 M)) := by
  obtain ⟨f, rfl, hf⟩ := suc_of hf0
  have hc1 : 609 ≤ c := Nat.le_trans (Nat.le_of_ble_eq_true rfl) hc3
  have hc2 : 619 ≤ c := Nat.le_trans (Nat.le_of_ble_eq_true rfl) hc3
  unfold f_L_capacity at h
  refine ⟨Nat.le_of_ble_eq_true rfl, ?_⟩
  refine V_aload_n (i := 2) dL_capacity_0 rfl rfl ?_
  refine V_iconst (v := 0) dL_capacity_1 (by decide) ?_
  refine V_aload_n (i := 0) dL_capacity_2 rfl rfl ?_
  refine V_iload_n (i := 1) dL_capacity_3 rfl rfl ?_
  refine D_tVI (As := [_]) (k2 := 1) (n2 := 6) h dL_capacity_4 cv_L_53 rfl ⟨_, _, _, (mem_x9 hc1), rfl, rfl⟩ rfl (Nat.le_of_ble_eq_true rfl) (fun x hx => e_X9_capacity (Nat.le_trans (Nat.le_of_ble_eq_true rfl) hf) hc1 hx) (fun e hi h => ?_) (fun v1 hi h => ?_)
  · refine D_ite h (fun q h => ?_) (fun _ h => ?_)
    · subst q
      refine Or.inr ⟨[], (0, 9, 12, 29), [], "java/lang/IndexOutOfBoundsException", rfl, (fun z hz => by cases hz), by decide, by decide, tw_922, by decide +kernel, fun ex => ?_⟩
      refine V_astore_n (i := 3) dL_capacity_12 rfl (Nat.le_of_ble_eq_true rfl) ?_
      refine V_iconst (v := 1) dL_capacity_13 (by decide) ?_
      obtain rfl := Option.some.inj h
      exact V_ireturn dL_capacity_14 ⟨_, rfl, rfl⟩ ⟨rfl, rfl⟩
    cases h
  · refine V_i2l dL_capacity_7 rfl ?_
    refine D3_lst hc3 h dL_capacity_8 fun W2 h => ?_
    refine V_goto (tgt := 15) dL_capacity_9 rfl ?_
    refine V_iconst (v := 0) dL_capacity_15 (by decide) ?_
    obtain rfl := Option.some.inj h
    exact V_ireturn dL_capacity_16 ⟨_, rfl, rfl⟩ ⟨rfl, rfl⟩
noncomputable def f_L_carriedCount (W : Nat → Nat → Int32) (a1 : Int32) : Option (Int32 × (Nat → Nat → Int32)) :=
  bdt (f_X9_carriedCount W a1) (fun e => if e = "java/lang/IndexOutOfBoundsException" then some ((1 : Int32), W) else none) (fun v1 => bnd (w2 W 31 0 v1) (fun W2 => some ((0 : Int32), W2)))
theorem e_L_carriedCount {G : GT} {f0 : Nat} {b c : Nat} {M : MM} {hi : Nat} {W : Nat → Nat → Int32} {a1 : Int32} {r : (Int32 × (Nat → Nat → Int32))} (hf0 : 10 ≤ f0) (hc3 : 620 ≤ c) (h : f_L_carriedCount W a1 = some r) : Ex G f0 mL_carriedCount [.ref (b), .int a1, .ref (b + 619)] (MEM b c W M) hi 1 6 (RP (.inl (some (.int r.1))) (MEM b c r.2 M)) := by
  obtain ⟨f, rfl, hf⟩ := suc_of hf0
  have hc1 : 609 ≤ c := Nat.le_trans (Nat.le_of_ble_eq_true rfl) hc3
  have hc2 : 619 ≤ c := Nat.le_trans (Nat.le_of_ble_eq_true rfl) hc3
  unfold f_L_carriedCount at h
  refine ⟨Nat.le_of_ble_eq_true rfl, ?_⟩
  refine V_aload_n (i := 2) dL_carriedCount_0 rfl rfl ?_
  refine V_iconst (v := 0) dL_carriedCount_1 (by decide) ?_
  refine V_aload_n (i := 0) dL_carriedCount_2 rfl rfl ?_
  refine V_iload_n (i := 1) dL_carriedCount_3 rfl rfl ?_
  refine D_tVI (As := [_]) (k2 := 1) (n2 := 6) h dL_carriedCount_4 cv_L_62 rfl ⟨_, _, _, (mem_x9 hc1), rfl, rfl⟩ rfl (Nat.le_of_ble_eq_true rfl) (fun x hx => e_X9_carriedCount (Nat.le_trans (Nat.le_of_ble_eq_true rfl) hf) hc1 hx) (fun e hi h => ?_) (fun v1 hi h => ?_)
  · refine D_ite h (fun q h => ?_) (fun _ h => ?_)
    · subst q
      refine Or.inr ⟨[], (0, 9, 12, 29), [], "java/lang/IndexOutOfBoundsException", rfl, (fun z hz => by cases hz), by decide, by decide, tw_922, by decide +kernel, fun ex => ?_⟩
      refine V_astore_n (i := 3) dL_carriedCount_12 rfl (Nat.le_of_ble_eq_true rfl) ?_
      refine V_iconst (v := 1) dL_carriedCount_13 (by decide) ?_
      obtain rfl := Option.some.inj h
      exact V_ireturn dL_carriedCount_14 ⟨_, rfl, rfl⟩ ⟨rfl, rfl⟩
    cases h
  · refine V_i2l dL_carriedCount_7 rfl ?_
    refine D3_lst hc3 h dL_carriedCount_8 fun W2 h => ?_
    refine V_goto (tgt := 15) dL_carriedCount_9 rfl ?_
    refine V_iconst (v := 0) dL_carriedCount_15 (by decide) ?_
    obtain rfl := Option.some.inj h
    exact V_ireturn dL_carriedCount_16 ⟨_, rfl, rfl⟩ ⟨rfl, rfl⟩
noncomputable def f_L_carriedParcel (W : Nat → Nat → Int32) (a1 : Int32) (a2 : Int32) : Option (Int32 × (Nat → Nat → Int32)) :=
  bdt (f_X9_carriedParcel W a1 a2) (fun e => if e = "java/lang/IndexOutOfBoundsException" then some ((1 : Int32), W) else if e = "java/util/NoSuchElementException" then some ((2 : Int32), W) else none) (fun v1 => bnd (w2 W 31 0 v1) (fun W2 => some ((0 : Int32), W2)))
theorem e_L_carriedParcel {G : GT} {f0 : Nat} {b c : Nat} {M : MM} {hi : Nat} {W : Nat → Nat → Int32} {a1 : Int32} {a2 : Int32} {r : (Int32 × (Nat → Nat → Int32))} (hf0 : 10 ≤ f0) (hc3 : 620 ≤ c) (h : f_L_carriedParcel W a1 a2 = some r) : Ex G f0 mL_carriedParcel [.ref (b), .int a1, .int a2, .ref (b + 619)] (MEM b c W M) hi 2 12 (RP (.inl (some (.int r.1))) (MEM b c r.2 M)) := by
  obtain ⟨f, rfl, hf⟩ := suc_of hf0
  have hc1 : 609 ≤ c := Nat.le_trans (Nat.le_of_ble_eq_true rfl) hc3
  have hc2 : 619 ≤ c := Nat.le_trans (Nat.le_of_ble_eq_true rfl) hc3
  unfold f_L_carriedParcel at h
  refine ⟨Nat.le_of_ble_eq_true rfl, ?_⟩
  refine V_aload_n (i := 3) dL_carriedParcel_0 rfl rfl ?_
  refine V_iconst (v := 0) dL_carriedParcel_1 (by decide) ?_
  refine V_aload_n (i := 0) dL_carriedParcel_2 rfl rfl ?_
  refine V_iload_n (i := 1) dL_carriedParcel_3 rfl rfl ?_
  refine V_iload_n (i := 2) dL_carriedParcel_4 rfl rfl ?_
  refine D_tVI (As := [_, _]) (k2 := 2) (n2 := 12) h dL_carriedParcel_5 cv_L_65 rfl ⟨_, _, _, (mem_x9 hc1), rfl, rfl⟩ rfl (Nat.le_of_ble_eq_true rfl) (fun x hx => e_X9_carriedParcel (Nat.le_trans (Nat.le_of_ble_eq_true rfl) hf) hc1 hx) (fun e hi h => ?_) (fun v1 hi h => ?_)
  · refine D_ite h (fun q h => ?_) (fun _ h => ?_)
    · subst q
      refine Or.inr ⟨[], (0, 10, 13, 29), [(0, 10, 17, 41)], "java/lang/IndexOutOfBoundsException", rfl, (fun z hz => by cases hz), by decide, by decide, tw_922, by decide +kernel, fun ex => ?_⟩
      refine V_astore (i := 4) dL_carriedParcel_13 (Nat.le_of_ble_eq_true rfl) ?_
      refine V_iconst (v := 1) dL_carriedParcel_15 (by decide) ?_
      obtain rfl := Option.some.inj h
      exact V_ireturn dL_carriedParcel_16 ⟨_, rfl, rfl⟩ ⟨rfl, rfl⟩
    refine D_ite h (fun q h => ?_) (fun _ h => ?_)
    · subst q
      refine Or.inr ⟨[(0, 10, 13, 29)], (0, 10, 17, 41), [], "java/util/NoSuchElementException", rfl, (fun z hz => by simp only [List.mem_cons, List.not_mem_nil, or_false] at hz; rcases hz with rfl <;> exact Or.inr ⟨by decide, _, tw_922, by decide +kernel⟩), by decide, by decide, tw_964, by decide +kernel, fun ex => ?_⟩
      refine V_astore (i := 4) dL_carriedParcel_17 (Nat.le_of_ble_eq_true rfl) ?_
      refine V_iconst (v := 2) dL_carriedParcel_19 (by decide) ?_
      obtain rfl := Option.some.inj h
      exact V_ireturn dL_carriedParcel_20 ⟨_, rfl, rfl⟩ ⟨rfl, rfl⟩
    cases h
  · refine V_i2l dL_carriedParcel_8 rfl ?_
    refine D3_lst hc3 h dL_carriedParcel_9 fun W2 h => ?_
    refine V_goto (tgt := 21) dL_carriedParcel_10 rfl ?_
    refine V_iconst (v := 0) dL_carriedParcel_21 (by decide) ?_
    obtain rfl := Option.some.inj h
    exact V_ireturn dL_carriedParcel_22 ⟨_, rfl, rfl⟩ ⟨rfl, rfl⟩
noncomputable def f_L_delay (W : Nat → Nat → Int32) (a1 : Int32) : Option (Int32 × (Nat → Nat → Int32)) :=
  bdt (f_X9_delay W a1) (fun e => if e = "java/lang/IndexOutOfBoundsException" then some ((1 : Int32), W) else none) (fun v1 => bnd (w2 W 31 0 v1) (fun W2 => some ((0 : Int32), W2)))
theorem e_L_delay {G : GT} {f0 : Nat} {b c : Nat} {M : MM} {hi : Nat} {W : Nat → Nat → Int32} {a1 : Int32} {r : (Int32 × (Nat → Nat → Int32))} (hf0 : 10 ≤ f0) (hc3 : 620 ≤ c) (h : f_L_delay W a1 = some r) : Ex G f0 mL_delay [.ref (b), .int a1, .ref (b + 619)] (MEM b c W M) hi 1 6 (RP (.inl (some (.int r.1))) (MEM b c r.2 M)) := by
  obtain ⟨f, rfl, hf⟩ := suc_of hf0
  have hc1 : 609 ≤ c := Nat.le_trans (Nat.le_of_ble_eq_true rfl) hc3
  have hc2 : 619 ≤ c := Nat.le_trans (Nat.le_of_ble_eq_true rfl) hc3
  unfold f_L_delay at h
  refine ⟨Nat.le_of_ble_eq_true rfl, ?_⟩
  refine V_aload_n (i := 2) dL_delay_0 rfl rfl ?_
  refine V_iconst (v := 0) dL_delay_1 (by decide) ?_
  refine V_aload_n (i := 0) dL_delay_2 rfl rfl ?_
  refine V_iload_n (i := 1) dL_delay_3 rfl rfl ?_
  refine D_tVI (As := [_]) (k2 := 1) (n2 := 6) h dL_delay_4 cv_L_80 rfl ⟨_, _, _, (mem_x9 hc1), rfl, rfl⟩ rfl (Nat.le_of_ble_eq_true rfl) (fun x hx => e_X9_delay (Nat.le_trans (Nat.le_of_ble_eq_true rfl) hf) hc1 hx) (fun e hi h => ?_) (fun v1 hi h => ?_)
  · refine D_ite h (fun q h => ?_) (fun _ h => ?_)
    · subst q
      refine Or.inr ⟨[], (0, 9, 12, 29), [], "java/lang/IndexOutOfBoundsException", rfl, (fun z hz => by cases hz), by decide, by decide, tw_922, by decide +kernel, fun ex => ?_⟩
      refine V_astore_n (i := 3) dL_delay_12 rfl (Nat.le_of_ble_eq_true rfl) ?_
      refine V_iconst (v := 1) dL_delay_13 (by decide) ?_
      obtain rfl := Option.some.inj h
      exact V_ireturn dL_delay_14 ⟨_, rfl, rfl⟩ ⟨rfl, rfl⟩
    cases h
  · refine V_i2l dL_delay_7 rfl ?_
    refine D3_lst hc3 h dL_delay_8 fun W2 h => ?_
    refine V_goto (tgt := 15) dL_delay_9 rfl ?_
    refine V_iconst (v := 0) dL_delay_15 (by decide) ?_
    obtain rfl := Option.some.inj h
    exact V_ireturn dL_delay_16 ⟨_, rfl, rfl⟩ ⟨rfl, rfl⟩
noncomputable def f_L_deliveredAfter (W : Nat → Nat → Int32) (a1 : Int32) : Option (Int32 × (Nat → Nat → Int32)) :=
  bt2 (f_X9_deliveredAfter W a1) (fun e W3 => if e = "java/lang/IllegalArgumentException" then some ((1 : Int32), W3) else none) (fun v2 W1 => bnd (w2 W1 31 0 v2) (fun W4 => some ((0 : Int32), W4)))
theorem e_L_deliveredAfter {G : GT} {f0 : Nat} {b c : Nat} {M : MM} {hi : Nat} {W : Nat → Nat → Int32} {a1 : Int32} {r : (Int32 × (Nat → Nat → Int32))} (hf0 : 10 ≤ f0) (hc3 : 620 ≤ c) (h : f_L_deliveredAfter W a1 = some r) : Ex G f0 mL_deliveredAfter [.ref (b), .int a1, .ref (b + 619)] (MEM b c W M) hi 1 6 (RP (.inl (some (.int r.1))) (MEM b c r.2 M)) := by
  obtain ⟨f, rfl, hf⟩ := suc_of hf0
  have hc1 : 609 ≤ c := Nat.le_trans (Nat.le_of_ble_eq_true rfl) hc3
  have hc2 : 619 ≤ c := Nat.le_trans (Nat.le_of_ble_eq_true rfl) hc3
  unfold f_L_deliveredAfter at h
  refine ⟨Nat.le_of_ble_eq_true rfl, ?_⟩
  refine V_aload_n (i := 2) dL_deliveredAfter_0 rfl rfl ?_
  refine V_iconst (v := 0) dL_deliveredAfter_1 (by decide) ?_
  refine V_aload_n (i := 0) dL_deliveredAfter_2 rfl rfl ?_
  refine V_iload_n (i := 1) dL_deliveredAfter_3 rfl rfl ?_
  refine D_tVIW (As := [_]) (μ := fun W1 => (MEM b c W1 M)) (k2 := 1) (n2 := 6) h dL_deliveredAfter_4 cv_L_128 rfl ⟨_, _, _, (mem_x9 hc1), rfl, rfl⟩ rfl (Nat.le_of_ble_eq_true rfl) (fun x y hx => e_X9_deliveredAfter (Nat.le_trans (Nat.le_of_ble_eq_true rfl) hf) hc1 hx) (fun e W3 hi h => ?_) (fun v2 W1 hi h => ?_)
  · refine D_ite h (fun q h => ?_) (fun _ h => ?_)
    · subst q
      refine Or.inr ⟨[], (0, 9, 12, 19), [], "java/lang/IllegalArgumentException", rfl, (fun z hz => by cases hz), by decide, by decide, tw_885, by decide +kernel, fun ex => ?_⟩
      refine V_astore_n (i := 3) dL_deliveredAfter_12 rfl (Nat.le_of_ble_eq_true rfl) ?_
      refine V_iconst (v := 1) dL_deliveredAfter_13 (by decide) ?_
      obtain rfl := Option.some.inj h
      exact V_ireturn dL_deliveredAfter_14 ⟨_, rfl, rfl⟩ ⟨rfl, rfl⟩
    cases h
  · refine V_i2l dL_deliveredAfter_7 rfl ?_
    refine D3_lst hc3 h dL_deliveredAfter_8 fun W4 h => ?_
    refine V_goto (tgt := 15) dL_deliveredAfter_9 rfl ?_
    refine V_iconst (v := 0) dL_deliveredAfter_15 (by decide) ?_
    obtain rfl := Option.some.inj h
    exact V_ireturn dL_deliveredAfter_16 ⟨_, rfl, rfl⟩ ⟨rfl, rfl⟩
noncomputable def f_L_deliveredIfClosed (W : Nat → Nat → Int32) (a1 : Int32) (a2 : Int32) (a3 : Int32) : Option (Int32 × (Nat → Nat → Int32)) :=
  bt2 (f_X9_deliveredIfClosed W a1 a2 a3) (fun e W3 => if e = "java/lang/IndexOutOfBoundsException" then some ((1 : Int32), W3) else if e = "java/lang/IllegalArgumentException" then some ((2 : Int32), W3) else none) (fun v2 W1 => bnd (w2 W1 31 0 v2) (fun W4 => some ((0 : Int32), W4)))
theorem e_L_deliveredIfClosed {G : GT} {f0 : Nat} {b c : Nat} {M : MM} {hi : Nat} {W : Nat → Nat → Int32} {a1 : Int32} {a2 : Int32} {a3 : Int32} {r : (Int32 × (Nat → Nat → Int32))} (hf0 : 10 ≤ f0) (hc3 : 620 ≤ c) (h : f_L_deliveredIfClosed W a1 a2 a3 = some r) : Ex G f0 mL_deliveredIfClosed [.ref (b), .int a1, .int a2, .int a3, .ref (b + 619)] (MEM b c W M) hi 4 24 (RP (.inl (some (.int r.1))) (MEM b c r.2 M)) := by
  obtain ⟨f, rfl, hf⟩ := suc_of hf0
  have hc1 : 609 ≤ c := Nat.le_trans (Nat.le_of_ble_eq_true rfl) hc3
  have hc2 : 619 ≤ c := Nat.le_trans (Nat.le_of_ble_eq_true rfl) hc3
  unfold f_L_deliveredIfClosed at h
  refine ⟨Nat.le_of_ble_eq_true rfl, ?_⟩
  refine V_aload (i := 4) dL_deliveredIfClosed_0 rfl ?_
  refine V_iconst (v := 0) dL_deliveredIfClosed_2 (by decide) ?_
  refine V_aload_n (i := 0) dL_deliveredIfClosed_3 rfl rfl ?_
  refine V_iload_n (i := 1) dL_deliveredIfClosed_4 rfl rfl ?_
  refine V_iload_n (i := 2) dL_deliveredIfClosed_5 rfl rfl ?_
  refine V_iload_n (i := 3) dL_deliveredIfClosed_6 rfl rfl ?_
  refine D_tVIW (As := [_, _, _]) (μ := fun W1 => (MEM b c W1 M)) (k2 := 4) (n2 := 24) h dL_deliveredIfClosed_7 cv_L_131 rfl ⟨_, _, _, (mem_x9 hc1), rfl, rfl⟩ rfl (Nat.le_of_ble_eq_true rfl) (fun x y hx => e_X9_deliveredIfClosed (Nat.le_trans (Nat.le_of_ble_eq_true rfl) hf) hc1 hx) (fun e W3 hi h => ?_) (fun v2 W1 hi h => ?_)
  · refine D_ite h (fun q h => ?_) (fun _ h => ?_)
    · subst q
      refine Or.inr ⟨[], (0, 12, 15, 29), [(0, 12, 19, 19)], "java/lang/IndexOutOfBoundsException", rfl, (fun z hz => by cases hz), by decide, by decide, tw_922, by decide +kernel, fun ex => ?_⟩
      refine V_astore (i := 5) dL_deliveredIfClosed_15 (Nat.le_of_ble_eq_true rfl) ?_
      refine V_iconst (v := 1) dL_deliveredIfClosed_17 (by decide) ?_
      obtain rfl := Option.some.inj h
      exact V_ireturn dL_deliveredIfClosed_18 ⟨_, rfl, rfl⟩ ⟨rfl, rfl⟩
    refine D_ite h (fun q h => ?_) (fun _ h => ?_)
    · subst q
      refine Or.inr ⟨[(0, 12, 15, 29)], (0, 12, 19, 19), [], "java/lang/IllegalArgumentException", rfl, (fun z hz => by simp only [List.mem_cons, List.not_mem_nil, or_false] at hz; rcases hz with rfl <;> exact Or.inr ⟨by decide, _, tw_922, by decide +kernel⟩), by decide, by decide, tw_885, by decide +kernel, fun ex => ?_⟩
      refine V_astore (i := 5) dL_deliveredIfClosed_19 (Nat.le_of_ble_eq_true rfl) ?_
      refine V_iconst (v := 2) dL_deliveredIfClosed_21 (by decide) ?_
      obtain rfl := Option.some.inj h
      exact V_ireturn dL_deliveredIfClosed_22 ⟨_, rfl, rfl⟩ ⟨rfl, rfl⟩
    cases h
  · refine V_i2l dL_deliveredIfClosed_10 rfl ?_
    refine D3_lst hc3 h dL_deliveredIfClosed_11 fun W4 h => ?_
    refine V_goto (tgt := 23) dL_deliveredIfClosed_12 rfl ?_
    refine V_iconst (v := 0) dL_deliveredIfClosed_23 (by decide) ?_
    obtain rfl := Option.some.inj h
    exact V_ireturn dL_deliveredIfClosed_24 ⟨_, rfl, rfl⟩ ⟨rfl, rfl⟩
noncomputable def f_L_deliveryClock (W : Nat → Nat → Int32) (a1 : Int32) : Option (Int32 × (Nat → Nat → Int32)) :=
  bdt (f_X9_deliveryClock W a1) (fun e => if e = "java/lang/IndexOutOfBoundsException" then some ((1 : Int32), W) else none) (fun v1 => bnd (w2 W 31 0 v1) (fun W2 => some ((0 : Int32), W2)))
theorem e_L_deliveryClock {G : GT} {f0 : Nat} {b c : Nat} {M : MM} {hi : Nat} {W : Nat → Nat → Int32} {a1 : Int32} {r : (Int32 × (Nat → Nat → Int32))} (hf0 : 10 ≤ f0) (hc3 : 620 ≤ c) (h : f_L_deliveryClock W a1 = some r) : Ex G f0 mL_deliveryClock [.ref (b), .int a1, .ref (b + 619)] (MEM b c W M) hi 1 6 (RP (.inl (some (.int r.1))) (MEM b c r.2 M)) := by
  obtain ⟨f, rfl, hf⟩ := suc_of hf0
  have hc1 : 609 ≤ c := Nat.le_trans (Nat.le_of_ble_eq_true rfl) hc3
  have hc2 : 619 ≤ c := Nat.le_trans (Nat.le_of_ble_eq_true rfl) hc3
  unfold f_L_deliveryClock at h
  refine ⟨Nat.le_of_ble_eq_true rfl, ?_⟩
  refine V_aload_n (i := 2) dL_deliveryClock_0 rfl rfl ?_
  refine V_iconst (v := 0) dL_deliveryClock_1 (by decide) ?_
  refine V_aload_n (i := 0) dL_deliveryClock_2 rfl rfl ?_
  refine V_iload_n (i := 1) dL_deliveryClock_3 rfl rfl ?_
  refine D_tVI (As := [_]) (k2 := 1) (n2 := 6) h dL_deliveryClock_4 cv_L_113 rfl ⟨_, _, _, (mem_x9 hc1), rfl, rfl⟩ rfl (Nat.le_of_ble_eq_true rfl) (fun x hx => e_X9_deliveryClock (Nat.le_trans (Nat.le_of_ble_eq_true rfl) hf) hc1 hx) (fun e hi h => ?_) (fun v1 hi h => ?_)
  · refine D_ite h (fun q h => ?_) (fun _ h => ?_)
    · subst q
      refine Or.inr ⟨[], (0, 9, 12, 29), [], "java/lang/IndexOutOfBoundsException", rfl, (fun z hz => by cases hz), by decide, by decide, tw_922, by decide +kernel, fun ex => ?_⟩
      refine V_astore_n (i := 3) dL_deliveryClock_12 rfl (Nat.le_of_ble_eq_true rfl) ?_
      refine V_iconst (v := 1) dL_deliveryClock_13 (by decide) ?_
      obtain rfl := Option.some.inj h
      exact V_ireturn dL_deliveryClock_14 ⟨_, rfl, rfl⟩ ⟨rfl, rfl⟩
    cases h
  · refine V_i2l dL_deliveryClock_7 rfl ?_
    refine D3_lst hc3 h dL_deliveryClock_8 fun W2 h => ?_
    refine V_goto (tgt := 15) dL_deliveryClock_9 rfl ?_
    refine V_iconst (v := 0) dL_deliveryClock_15 (by decide) ?_
    obtain rfl := Option.some.inj h
    exact V_ireturn dL_deliveryClock_16 ⟨_, rfl, rfl⟩ ⟨rfl, rfl⟩
noncomputable def f_L_destination (W : Nat → Nat → Int32) (a1 : Int32) : Option (Int32 × (Nat → Nat → Int32)) :=
  bdt (f_X9_destination W a1) (fun e => if e = "java/lang/IndexOutOfBoundsException" then some ((1 : Int32), W) else none) (fun v1 => bnd (w2 W 31 0 v1) (fun W2 => some ((0 : Int32), W2)))
theorem e_L_destination {G : GT} {f0 : Nat} {b c : Nat} {M : MM} {hi : Nat} {W : Nat → Nat → Int32} {a1 : Int32} {r : (Int32 × (Nat → Nat → Int32))} (hf0 : 10 ≤ f0) (hc3 : 620 ≤ c) (h : f_L_destination W a1 = some r) : Ex G f0 mL_destination [.ref (b), .int a1, .ref (b + 619)] (MEM b c W M) hi 1 6 (RP (.inl (some (.int r.1))) (MEM b c r.2 M)) := by
  obtain ⟨f, rfl, hf⟩ := suc_of hf0
  have hc1 : 609 ≤ c := Nat.le_trans (Nat.le_of_ble_eq_true rfl) hc3
  have hc2 : 619 ≤ c := Nat.le_trans (Nat.le_of_ble_eq_true rfl) hc3
  unfold f_L_destination at h
  refine ⟨Nat.le_of_ble_eq_true rfl, ?_⟩
  refine V_aload_n (i := 2) dL_destination_0 rfl rfl ?_
  refine V_iconst (v := 0) dL_destination_1 (by decide) ?_
  refine V_aload_n (i := 0) dL_destination_2 rfl rfl ?_
  refine V_iload_n (i := 1) dL_destination_3 rfl rfl ?_
  refine D_tVI (As := [_]) (k2 := 1) (n2 := 6) h dL_destination_4 cv_L_92 rfl ⟨_, _, _, (mem_x9 hc1), rfl, rfl⟩ rfl (Nat.le_of_ble_eq_true rfl) (fun x hx => e_X9_destination (Nat.le_trans (Nat.le_of_ble_eq_true rfl) hf) hc1 hx) (fun e hi h => ?_) (fun v1 hi h => ?_)
  · refine D_ite h (fun q h => ?_) (fun _ h => ?_)
    · subst q
      refine Or.inr ⟨[], (0, 9, 12, 29), [], "java/lang/IndexOutOfBoundsException", rfl, (fun z hz => by cases hz), by decide, by decide, tw_922, by decide +kernel, fun ex => ?_⟩
      refine V_astore_n (i := 3) dL_destination_12 rfl (Nat.le_of_ble_eq_true rfl) ?_
      refine V_iconst (v := 1) dL_destination_13 (by decide) ?_
      obtain rfl := Option.some.inj h
      exact V_ireturn dL_destination_14 ⟨_, rfl, rfl⟩ ⟨rfl, rfl⟩
    cases h
  · refine V_i2l dL_destination_7 rfl ?_
    refine D3_lst hc3 h dL_destination_8 fun W2 h => ?_
    refine V_goto (tgt := 15) dL_destination_9 rfl ?_
    refine V_iconst (v := 0) dL_destination_15 (by decide) ?_
    obtain rfl := Option.some.inj h
    exact V_ireturn dL_destination_16 ⟨_, rfl, rfl⟩ ⟨rfl, rfl⟩
noncomputable def f_L_distance (W : Nat → Nat → Int32) (a1 : Int32) (a2 : Int32) : Option (Int32 × (Nat → Nat → Int32)) :=
  bdt (f_X9_distance W a1 a2) (fun e => if e = "java/lang/IndexOutOfBoundsException" then some ((1 : Int32), W) else none) (fun v1 => bnd (w2 W 31 0 v1) (fun W2 => some ((0 : Int32), W2)))
theorem e_L_distance {G : GT} {f0 : Nat} {b c : Nat} {M : MM} {hi : Nat} {W : Nat → Nat → Int32} {a1 : Int32} {a2 : Int32} {r : (Int32 × (Nat → Nat → Int32))} (hf0 : 10 ≤ f0) (hc3 : 620 ≤ c) (h : f_L_distance W a1 a2 = some r) : Ex G f0 mL_distance [.ref (b), .int a1, .int a2, .ref (b + 619)] (MEM b c W M) hi 2 12 (RP (.inl (some (.int r.1))) (MEM b c r.2 M)) := by
  obtain ⟨f, rfl, hf⟩ := suc_of hf0
  have hc1 : 609 ≤ c := Nat.le_trans (Nat.le_of_ble_eq_true rfl) hc3
  have hc2 : 619 ≤ c := Nat.le_trans (Nat.le_of_ble_eq_true rfl) hc3
  unfold f_L_distance at h
  refine ⟨Nat.le_of_ble_eq_true rfl, ?_⟩
  refine V_aload_n (i := 3) dL_distance_0 rfl rfl ?_
  refine V_iconst (v := 0) dL_distance_1 (by decide) ?_
  refine V_aload_n (i := 0) dL_distance_2 rfl rfl ?_
  refine V_iload_n (i := 1) dL_distance_3 rfl rfl ?_
  refine V_iload_n (i := 2) dL_distance_4 rfl rfl ?_
  refine D_tVI (As := [_, _]) (k2 := 2) (n2 := 12) h dL_distance_5 cv_L_50 rfl ⟨_, _, _, (mem_x9 hc1), rfl, rfl⟩ rfl (Nat.le_of_ble_eq_true rfl) (fun x hx => e_X9_distance (Nat.le_trans (Nat.le_of_ble_eq_true rfl) hf) hc1 hx) (fun e hi h => ?_) (fun v1 hi h => ?_)
  · refine D_ite h (fun q h => ?_) (fun _ h => ?_)
    · subst q
      refine Or.inr ⟨[], (0, 10, 13, 29), [], "java/lang/IndexOutOfBoundsException", rfl, (fun z hz => by cases hz), by decide, by decide, tw_922, by decide +kernel, fun ex => ?_⟩
      refine V_astore (i := 4) dL_distance_13 (Nat.le_of_ble_eq_true rfl) ?_
      refine V_iconst (v := 1) dL_distance_15 (by decide) ?_
      obtain rfl := Option.some.inj h
      exact V_ireturn dL_distance_16 ⟨_, rfl, rfl⟩ ⟨rfl, rfl⟩
    cases h
  · refine V_i2l dL_distance_8 rfl ?_
    refine D3_lst hc3 h dL_distance_9 fun W2 h => ?_
    refine V_goto (tgt := 17) dL_distance_10 rfl ?_
    refine V_iconst (v := 0) dL_distance_17 (by decide) ?_
    obtain rfl := Option.some.inj h
    exact V_ireturn dL_distance_18 ⟨_, rfl, rfl⟩ ⟨rfl, rfl⟩
noncomputable def f_L_dropStation (W : Nat → Nat → Int32) (a1 : Int32) : Option (Int32 × (Nat → Nat → Int32)) :=
  bdt (f_X9_dropStation W a1) (fun e => if e = "java/lang/IndexOutOfBoundsException" then some ((1 : Int32), W) else none) (fun v1 => bnd (w2 W 31 0 v1) (fun W2 => some ((0 : Int32), W2)))
theorem e_L_dropStation {G : GT} {f0 : Nat} {b c : Nat} {M : MM} {hi : Nat} {W : Nat → Nat → Int32} {a1 : Int32} {r : (Int32 × (Nat → Nat → Int32))} (hf0 : 10 ≤ f0) (hc3 : 620 ≤ c) (h : f_L_dropStation W a1 = some r) : Ex G f0 mL_dropStation [.ref (b), .int a1, .ref (b + 619)] (MEM b c W M) hi 1 6 (RP (.inl (some (.int r.1))) (MEM b c r.2 M)) := by
  obtain ⟨f, rfl, hf⟩ := suc_of hf0
  have hc1 : 609 ≤ c := Nat.le_trans (Nat.le_of_ble_eq_true rfl) hc3
  have hc2 : 619 ≤ c := Nat.le_trans (Nat.le_of_ble_eq_true rfl) hc3
  unfold f_L_dropStation at h
  refine ⟨Nat.le_of_ble_eq_true rfl, ?_⟩
  refine V_aload_n (i := 2) dL_dropStation_0 rfl rfl ?_
  refine V_iconst (v := 0) dL_dropStation_1 (by decide) ?_
  refine V_aload_n (i := 0) dL_dropStation_2 rfl rfl ?_
  refine V_iload_n (i := 1) dL_dropStation_3 rfl rfl ?_
  refine D_tVI (As := [_]) (k2 := 1) (n2 := 6) h dL_dropStation_4 cv_L_104 rfl ⟨_, _, _, (mem_x9 hc1), rfl, rfl⟩ rfl (Nat.le_of_ble_eq_true rfl) (fun x hx => e_X9_dropStation (Nat.le_trans (Nat.le_of_ble_eq_true rfl) hf) hc1 hx) (fun e hi h => ?_) (fun v1 hi h => ?_)
  · refine D_ite h (fun q h => ?_) (fun _ h => ?_)
    · subst q
      refine Or.inr ⟨[], (0, 9, 12, 29), [], "java/lang/IndexOutOfBoundsException", rfl, (fun z hz => by cases hz), by decide, by decide, tw_922, by decide +kernel, fun ex => ?_⟩
      refine V_astore_n (i := 3) dL_dropStation_12 rfl (Nat.le_of_ble_eq_true rfl) ?_
      refine V_iconst (v := 1) dL_dropStation_13 (by decide) ?_
      obtain rfl := Option.some.inj h
      exact V_ireturn dL_dropStation_14 ⟨_, rfl, rfl⟩ ⟨rfl, rfl⟩
    cases h
  · refine V_i2l dL_dropStation_7 rfl ?_
    refine D3_lst hc3 h dL_dropStation_8 fun W2 h => ?_
    refine V_goto (tgt := 15) dL_dropStation_9 rfl ?_
    refine V_iconst (v := 0) dL_dropStation_15 (by decide) ?_
    obtain rfl := Option.some.inj h
    exact V_ireturn dL_dropStation_16 ⟨_, rfl, rfl⟩ ⟨rfl, rfl⟩
noncomputable def f_L_inspectionTime (W : Nat → Nat → Int32) (a1 : Int32) : Option (Int32 × (Nat → Nat → Int32)) :=
  bdt (f_X9_inspectionTime W a1) (fun e => if e = "java/lang/IndexOutOfBoundsException" then some ((1 : Int32), W) else none) (fun v1 => bnd (w2 W 31 0 v1) (fun W2 => some ((0 : Int32), W2)))
theorem e_L_inspectionTime {G : GT} {f0 : Nat} {b c : Nat} {M : MM} {hi : Nat} {W : Nat → Nat → Int32} {a1 : Int32} {r : (Int32 × (Nat → Nat → Int32))} (hf0 : 10 ≤ f0) (hc3 : 620 ≤ c) (h : f_L_inspectionTime W a1 = some r) : Ex G f0 mL_inspectionTime [.ref (b), .int a1, .ref (b + 619)] (MEM b c W M) hi 1 6 (RP (.inl (some (.int r.1))) (MEM b c r.2 M)) := by
  obtain ⟨f, rfl, hf⟩ := suc_of hf0
  have hc1 : 609 ≤ c := Nat.le_trans (Nat.le_of_ble_eq_true rfl) hc3
  have hc2 : 619 ≤ c := Nat.le_trans (Nat.le_of_ble_eq_true rfl) hc3
  unfold f_L_inspectionTime at h
  refine ⟨Nat.le_of_ble_eq_true rfl, ?_⟩
  refine V_aload_n (i := 2) dL_inspectionTime_0 rfl rfl ?_
  refine V_iconst (v := 0) dL_inspectionTime_1 (by decide) ?_
  refine V_aload_n (i := 0) dL_inspectionTime_2 rfl rfl ?_
  refine V_iload_n (i := 1) dL_inspectionTime_3 rfl rfl ?_
  refine D_tVI (As := [_]) (k2 := 1) (n2 := 6) h dL_inspectionTime_4 cv_L_31 rfl ⟨_, _, _, (mem_x9 hc1), rfl, rfl⟩ rfl (Nat.le_of_ble_eq_true rfl) (fun x hx => e_X9_inspectionTime (Nat.le_trans (Nat.le_of_ble_eq_true rfl) hf) hc1 hx) (fun e hi h => ?_) (fun v1 hi h => ?_)
  · refine D_ite h (fun q h => ?_) (fun _ h => ?_)
    · subst q
      refine Or.inr ⟨[], (0, 9, 12, 29), [], "java/lang/IndexOutOfBoundsException", rfl, (fun z hz => by cases hz), by decide, by decide, tw_922, by decide +kernel, fun ex => ?_⟩
      refine V_astore_n (i := 3) dL_inspectionTime_12 rfl (Nat.le_of_ble_eq_true rfl) ?_
      refine V_iconst (v := 1) dL_inspectionTime_13 (by decide) ?_
      obtain rfl := Option.some.inj h
      exact V_ireturn dL_inspectionTime_14 ⟨_, rfl, rfl⟩ ⟨rfl, rfl⟩
    cases h
  · refine V_i2l dL_inspectionTime_7 rfl ?_
    refine D3_lst hc3 h dL_inspectionTime_8 fun W2 h => ?_
    refine V_goto (tgt := 15) dL_inspectionTime_9 rfl ?_
    refine V_iconst (v := 0) dL_inspectionTime_15 (by decide) ?_
    obtain rfl := Option.some.inj h
    exact V_ireturn dL_inspectionTime_16 ⟨_, rfl, rfl⟩ ⟨rfl, rfl⟩
noncomputable def f_L_isForward (W : Nat → Nat → Int32) (a1 : Int32) : Option (Int32 × (Nat → Nat → Int32)) :=
  bdt (f_X9_isForward W a1) (fun e => if e = "java/lang/IndexOutOfBoundsException" then some ((1 : Int32), W) else none) (fun v1 => if v1 = 0 then bnd (w2 W 31 0 (0 : Int32)) (fun W3 => some ((0 : Int32), W3)) else bnd (w2 W 31 0 (1 : Int32)) (fun W4 => some ((0 : Int32), W4)))
theorem e_L_isForward {G : GT} {f0 : Nat} {b c : Nat} {M : MM} {hi : Nat} {W : Nat → Nat → Int32} {a1 : Int32} {r : (Int32 × (Nat → Nat → Int32))} (hf0 : 10 ≤ f0) (hc3 : 620 ≤ c) (h : f_L_isForward W a1 = some r) : Ex G f0 mL_isForward [.ref (b), .int a1, .ref (b + 619)] (MEM b c W M) hi 1 6 (RP (.inl (some (.int r.1))) (MEM b c r.2 M)) := by
  obtain ⟨f, rfl, hf⟩ := suc_of hf0
  have hc1 : 609 ≤ c := Nat.le_trans (Nat.le_of_ble_eq_true rfl) hc3
  have hc2 : 619 ≤ c := Nat.le_trans (Nat.le_of_ble_eq_true rfl) hc3
  unfold f_L_isForward at h
  refine ⟨Nat.le_of_ble_eq_true rfl, ?_⟩
  refine V_aload_n (i := 2) dL_isForward_0 rfl rfl ?_
  refine V_iconst (v := 0) dL_isForward_1 (by decide) ?_
  refine V_aload_n (i := 0) dL_isForward_2 rfl rfl ?_
  refine V_iload_n (i := 1) dL_isForward_3 rfl rfl ?_
  refine D_tVI (As := [_]) (k2 := 1) (n2 := 6) h dL_isForward_4 cv_L_74 rfl ⟨_, _, _, (mem_x9 hc1), rfl, rfl⟩ rfl (Nat.le_of_ble_eq_true rfl) (fun x hx => e_X9_isForward (Nat.le_trans (Nat.le_of_ble_eq_true rfl) hf) hc1 hx) (fun e hi h => ?_) (fun v1 hi h => ?_)
  · refine D_ite h (fun q h => ?_) (fun _ h => ?_)
    · subst q
      refine Or.inr ⟨[], (0, 16, 19, 29), [], "java/lang/IndexOutOfBoundsException", rfl, (fun z hz => by cases hz), by decide, by decide, tw_922, by decide +kernel, fun ex => ?_⟩
      refine V_astore_n (i := 3) dL_isForward_19 rfl (Nat.le_of_ble_eq_true rfl) ?_
      refine V_iconst (v := 1) dL_isForward_20 (by decide) ?_
      obtain rfl := Option.some.inj h
      exact V_ireturn dL_isForward_21 ⟨_, rfl, rfl⟩ ⟨rfl, rfl⟩
    cases h
  · refine D_if_eq (tgt := 14) h dL_isForward_7 rfl (fun b2 h => ?_) (fun b2 h => ?_)
    · refine V_lconst (v := (0 : Int32).toInt64) dL_isForward_14 (by decide) ?_
      refine D3_lst hc3 h dL_isForward_15 fun W3 h => ?_
      refine V_goto (tgt := 22) dL_isForward_16 rfl ?_
      refine V_iconst (v := 0) dL_isForward_22 (by decide) ?_
      obtain rfl := Option.some.inj h
      exact V_ireturn dL_isForward_23 ⟨_, rfl, rfl⟩ ⟨rfl, rfl⟩
    · refine V_lconst (v := (1 : Int32).toInt64) dL_isForward_10 (by decide) ?_
      refine V_goto (tgt := 15) dL_isForward_11 rfl ?_
      refine D3_lst hc3 h dL_isForward_15 fun W4 h => ?_
      refine V_goto (tgt := 22) dL_isForward_16 rfl ?_
      refine V_iconst (v := 0) dL_isForward_22 (by decide) ?_
      obtain rfl := Option.some.inj h
      exact V_ireturn dL_isForward_23 ⟨_, rfl, rfl⟩ ⟨rfl, rfl⟩
noncomputable def f_L_isHeld (W : Nat → Nat → Int32) (a1 : Int32) : Option (Int32 × (Nat → Nat → Int32)) :=
  bdt (f_X9_isHeld W a1) (fun e => if e = "java/lang/IndexOutOfBoundsException" then some ((1 : Int32), W) else none) (fun v1 => if v1 = 0 then bnd (w2 W 31 0 (0 : Int32)) (fun W3 => some ((0 : Int32), W3)) else bnd (w2 W 31 0 (1 : Int32)) (fun W4 => some ((0 : Int32), W4)))
theorem e_L_isHeld {G : GT} {f0 : Nat} {b c : Nat} {M : MM} {hi : Nat} {W : Nat → Nat → Int32} {a1 : Int32} {r : (Int32 × (Nat → Nat → Int32))} (hf0 : 10 ≤ f0) (hc3 : 620 ≤ c) (h : f_L_isHeld W a1 = some r) : Ex G f0 mL_isHeld [.ref (b), .int a1, .ref (b + 619)] (MEM b c W M) hi 1 6 (RP (.inl (some (.int r.1))) (MEM b c r.2 M)) := by
  obtain ⟨f, rfl, hf⟩ := suc_of hf0
  have hc1 : 609 ≤ c := Nat.le_trans (Nat.le_of_ble_eq_true rfl) hc3
  have hc2 : 619 ≤ c := Nat.le_trans (Nat.le_of_ble_eq_true rfl) hc3
  unfold f_L_isHeld at h
  refine ⟨Nat.le_of_ble_eq_true rfl, ?_⟩
  refine V_aload_n (i := 2) dL_isHeld_0 rfl rfl ?_
  refine V_iconst (v := 0) dL_isHeld_1 (by decide) ?_
  refine V_aload_n (i := 0) dL_isHeld_2 rfl rfl ?_
  refine V_iload_n (i := 1) dL_isHeld_3 rfl rfl ?_
  refine D_tVI (As := [_]) (k2 := 1) (n2 := 6) h dL_isHeld_4 cv_L_110 rfl ⟨_, _, _, (mem_x9 hc1), rfl, rfl⟩ rfl (Nat.le_of_ble_eq_true rfl) (fun x hx => e_X9_isHeld (Nat.le_trans (Nat.le_of_ble_eq_true rfl) hf) hc1 hx) (fun e hi h => ?_) (fun v1 hi h => ?_)
  · refine D_ite h (fun q h => ?_) (fun _ h => ?_)
    · subst q
      refine Or.inr ⟨[], (0, 16, 19, 29), [], "java/lang/IndexOutOfBoundsException", rfl, (fun z hz => by cases hz), by decide, by decide, tw_922, by decide +kernel, fun ex => ?_⟩
      refine V_astore_n (i := 3) dL_isHeld_19 rfl (Nat.le_of_ble_eq_true rfl) ?_
      refine V_iconst (v := 1) dL_isHeld_20 (by decide) ?_
      obtain rfl := Option.some.inj h
      exact V_ireturn dL_isHeld_21 ⟨_, rfl, rfl⟩ ⟨rfl, rfl⟩
    cases h
  · refine D_if_eq (tgt := 14) h dL_isHeld_7 rfl (fun b2 h => ?_) (fun b2 h => ?_)
    · refine V_lconst (v := (0 : Int32).toInt64) dL_isHeld_14 (by decide) ?_
      refine D3_lst hc3 h dL_isHeld_15 fun W3 h => ?_
      refine V_goto (tgt := 22) dL_isHeld_16 rfl ?_
      refine V_iconst (v := 0) dL_isHeld_22 (by decide) ?_
      obtain rfl := Option.some.inj h
      exact V_ireturn dL_isHeld_23 ⟨_, rfl, rfl⟩ ⟨rfl, rfl⟩
    · refine V_lconst (v := (1 : Int32).toInt64) dL_isHeld_10 (by decide) ?_
      refine V_goto (tgt := 15) dL_isHeld_11 rfl ?_
      refine D3_lst hc3 h dL_isHeld_15 fun W4 h => ?_
      refine V_goto (tgt := 22) dL_isHeld_16 rfl ?_
      refine V_iconst (v := 0) dL_isHeld_22 (by decide) ?_
      obtain rfl := Option.some.inj h
      exact V_ireturn dL_isHeld_23 ⟨_, rfl, rfl⟩ ⟨rfl, rfl⟩
noncomputable def f_L_isRequestStop (W : Nat → Nat → Int32) (a1 : Int32) : Option (Int32 × (Nat → Nat → Int32)) :=
  bdt (f_X9_isRequestStop W a1) (fun e => if e = "java/lang/IndexOutOfBoundsException" then some ((1 : Int32), W) else none) (fun v1 => if v1 = 0 then bnd (w2 W 31 0 (0 : Int32)) (fun W3 => some ((0 : Int32), W3)) else bnd (w2 W 31 0 (1 : Int32)) (fun W4 => some ((0 : Int32), W4)))
theorem e_L_isRequestStop {G : GT} {f0 : Nat} {b c : Nat} {M : MM} {hi : Nat} {W : Nat → Nat → Int32} {a1 : Int32} {r : (Int32 × (Nat → Nat → Int32))} (hf0 : 10 ≤ f0) (hc3 : 620 ≤ c) (h : f_L_isRequestStop W a1 = some r) : Ex G f0 mL_isRequestStop [.ref (b), .int a1, .ref (b + 619)] (MEM b c W M) hi 1 6 (RP (.inl (some (.int r.1))) (MEM b c r.2 M)) := by
  obtain ⟨f, rfl, hf⟩ := suc_of hf0
  have hc1 : 609 ≤ c := Nat.le_trans (Nat.le_of_ble_eq_true rfl) hc3
  have hc2 : 619 ≤ c := Nat.le_trans (Nat.le_of_ble_eq_true rfl) hc3
  unfold f_L_isRequestStop at h
  refine ⟨Nat.le_of_ble_eq_true rfl, ?_⟩
  refine V_aload_n (i := 2) dL_isRequestStop_0 rfl rfl ?_
  refine V_iconst (v := 0) dL_isRequestStop_1 (by decide) ?_
  refine V_aload_n (i := 0) dL_isRequestStop_2 rfl rfl ?_
  refine V_iload_n (i := 1) dL_isRequestStop_3 rfl rfl ?_
  refine D_tVI (As := [_]) (k2 := 1) (n2 := 6) h dL_isRequestStop_4 cv_L_25 rfl ⟨_, _, _, (mem_x9 hc1), rfl, rfl⟩ rfl (Nat.le_of_ble_eq_true rfl) (fun x hx => e_X9_isRequestStop (Nat.le_trans (Nat.le_of_ble_eq_true rfl) hf) hc1 hx) (fun e hi h => ?_) (fun v1 hi h => ?_)
  · refine D_ite h (fun q h => ?_) (fun _ h => ?_)
    · subst q
      refine Or.inr ⟨[], (0, 16, 19, 29), [], "java/lang/IndexOutOfBoundsException", rfl, (fun z hz => by cases hz), by decide, by decide, tw_922, by decide +kernel, fun ex => ?_⟩
      refine V_astore_n (i := 3) dL_isRequestStop_19 rfl (Nat.le_of_ble_eq_true rfl) ?_
      refine V_iconst (v := 1) dL_isRequestStop_20 (by decide) ?_
      obtain rfl := Option.some.inj h
      exact V_ireturn dL_isRequestStop_21 ⟨_, rfl, rfl⟩ ⟨rfl, rfl⟩
    cases h
  · refine D_if_eq (tgt := 14) h dL_isRequestStop_7 rfl (fun b2 h => ?_) (fun b2 h => ?_)
    · refine V_lconst (v := (0 : Int32).toInt64) dL_isRequestStop_14 (by decide) ?_
      refine D3_lst hc3 h dL_isRequestStop_15 fun W3 h => ?_
      refine V_goto (tgt := 22) dL_isRequestStop_16 rfl ?_
      refine V_iconst (v := 0) dL_isRequestStop_22 (by decide) ?_
      obtain rfl := Option.some.inj h
      exact V_ireturn dL_isRequestStop_23 ⟨_, rfl, rfl⟩ ⟨rfl, rfl⟩
    · refine V_lconst (v := (1 : Int32).toInt64) dL_isRequestStop_10 (by decide) ?_
      refine V_goto (tgt := 15) dL_isRequestStop_11 rfl ?_
      refine D3_lst hc3 h dL_isRequestStop_15 fun W4 h => ?_
      refine V_goto (tgt := 22) dL_isRequestStop_16 rfl ?_
      refine V_iconst (v := 0) dL_isRequestStop_22 (by decide) ?_
      obtain rfl := Option.some.inj h
      exact V_ireturn dL_isRequestStop_23 ⟨_, rfl, rfl⟩ ⟨rfl, rfl⟩
noncomputable def f_L_isTrackOpen (W : Nat → Nat → Int32) (a1 : Int32) (a2 : Int32) : Option (Int32 × (Nat → Nat → Int32)) :=
  bdt (f_X9_isTrackOpen W a1 a2) (fun e => if e = "java/lang/IndexOutOfBoundsException" then some ((1 : Int32), W) else none) (fun v1 => if v1 = 0 then bnd (w2 W 31 0 (0 : Int32)) (fun W3 => some ((0 : Int32), W3)) else bnd (w2 W 31 0 (1 : Int32)) (fun W4 => some ((0 : Int32), W4)))
theorem e_L_isTrackOpen {G : GT} {f0 : Nat} {b c : Nat} {M : MM} {hi : Nat} {W : Nat → Nat → Int32} {a1 : Int32} {a2 : Int32} {r : (Int32 × (Nat → Nat → Int32))} (hf0 : 10 ≤ f0) (hc3 : 620 ≤ c) (h : f_L_isTrackOpen W a1 a2 = some r) : Ex G f0 mL_isTrackOpen [.ref (b), .int a1, .int a2, .ref (b + 619)] (MEM b c W M) hi 2 12 (RP (.inl (some (.int r.1))) (MEM b c r.2 M)) := by
  obtain ⟨f, rfl, hf⟩ := suc_of hf0
  have hc1 : 609 ≤ c := Nat.le_trans (Nat.le_of_ble_eq_true rfl) hc3
  have hc2 : 619 ≤ c := Nat.le_trans (Nat.le_of_ble_eq_true rfl) hc3
  unfold f_L_isTrackOpen at h
  refine ⟨Nat.le_of_ble_eq_true rfl, ?_⟩
  refine V_aload_n (i := 3) dL_isTrackOpen_0 rfl rfl ?_
  refine V_iconst (v := 0) dL_isTrackOpen_1 (by decide) ?_
  refine V_aload_n (i := 0) dL_isTrackOpen_2 rfl rfl ?_
  refine V_iload_n (i := 1) dL_isTrackOpen_3 rfl rfl ?_
  refine V_iload_n (i := 2) dL_isTrackOpen_4 rfl rfl ?_
  refine D_tVI (As := [_, _]) (k2 := 2) (n2 := 12) h dL_isTrackOpen_5 cv_L_46 rfl ⟨_, _, _, (mem_x9 hc1), rfl, rfl⟩ rfl (Nat.le_of_ble_eq_true rfl) (fun x hx => e_X9_isTrackOpen (Nat.le_trans (Nat.le_of_ble_eq_true rfl) hf) hc1 hx) (fun e hi h => ?_) (fun v1 hi h => ?_)
  · refine D_ite h (fun q h => ?_) (fun _ h => ?_)
    · subst q
      refine Or.inr ⟨[], (0, 17, 20, 29), [], "java/lang/IndexOutOfBoundsException", rfl, (fun z hz => by cases hz), by decide, by decide, tw_922, by decide +kernel, fun ex => ?_⟩
      refine V_astore (i := 4) dL_isTrackOpen_20 (Nat.le_of_ble_eq_true rfl) ?_
      refine V_iconst (v := 1) dL_isTrackOpen_22 (by decide) ?_
      obtain rfl := Option.some.inj h
      exact V_ireturn dL_isTrackOpen_23 ⟨_, rfl, rfl⟩ ⟨rfl, rfl⟩
    cases h
  · refine D_if_eq (tgt := 15) h dL_isTrackOpen_8 rfl (fun b2 h => ?_) (fun b2 h => ?_)
    · refine V_lconst (v := (0 : Int32).toInt64) dL_isTrackOpen_15 (by decide) ?_
      refine D3_lst hc3 h dL_isTrackOpen_16 fun W3 h => ?_
      refine V_goto (tgt := 24) dL_isTrackOpen_17 rfl ?_
      refine V_iconst (v := 0) dL_isTrackOpen_24 (by decide) ?_
      obtain rfl := Option.some.inj h
      exact V_ireturn dL_isTrackOpen_25 ⟨_, rfl, rfl⟩ ⟨rfl, rfl⟩
    · refine V_lconst (v := (1 : Int32).toInt64) dL_isTrackOpen_11 (by decide) ?_
      refine V_goto (tgt := 16) dL_isTrackOpen_12 rfl ?_
      refine D3_lst hc3 h dL_isTrackOpen_16 fun W4 h => ?_
      refine V_goto (tgt := 24) dL_isTrackOpen_17 rfl ?_
      refine V_iconst (v := 0) dL_isTrackOpen_24 (by decide) ?_
      obtain rfl := Option.some.inj h
      exact V_ireturn dL_isTrackOpen_25 ⟨_, rfl, rfl⟩ ⟨rfl, rfl⟩
noncomputable def f_L_load (W : Nat → Nat → Int32) : Option (Int32 × (Nat → Nat → Int32)) :=
  bt2 (f_X9_load W) (fun e W3 => if e = "java/lang/IllegalArgumentException" then some ((1 : Int32), W3) else none) (fun v2 W1 => bnd (w2 W1 31 0 v2) (fun W4 => some ((0 : Int32), W4)))
theorem e_L_load {G : GT} {f0 : Nat} {b c : Nat} {M : MM} {hi : Nat} {W : Nat → Nat → Int32} {r : (Int32 × (Nat → Nat → Int32))} (hf0 : 11 ≤ f0) (hc3 : 620 ≤ c) (h : f_L_load W = some r) : Ex G f0 mL_load [.ref (b), .ref (b + 619)] (MEM b c W M) hi 1 6 (RP (.inl (some (.int r.1))) (MEM b c r.2 M)) := by
  obtain ⟨f, rfl, hf⟩ := suc_of hf0
  have hc1 : 609 ≤ c := Nat.le_trans (Nat.le_of_ble_eq_true rfl) hc3
  have hc2 : 619 ≤ c := Nat.le_trans (Nat.le_of_ble_eq_true rfl) hc3
  unfold f_L_load at h
  refine ⟨Nat.le_of_ble_eq_true rfl, ?_⟩
  refine V_aload_n (i := 1) dL_load_0 rfl rfl ?_
  refine V_iconst (v := 0) dL_load_1 (by decide) ?_
  refine V_aload_n (i := 0) dL_load_2 rfl rfl ?_
  refine D_tVIW (As := []) (μ := fun W1 => (MEM b c W1 M)) (k2 := 1) (n2 := 6) h dL_load_3 cv_L_21 rfl ⟨_, _, _, (mem_x9 hc1), rfl, rfl⟩ rfl (Nat.le_of_ble_eq_true rfl) (fun x y hx => e_X9_load (Nat.le_trans (Nat.le_of_ble_eq_true rfl) hf) hc1 hx) (fun e W3 hi h => ?_) (fun v2 W1 hi h => ?_)
  · refine D_ite h (fun q h => ?_) (fun _ h => ?_)
    · subst q
      refine Or.inr ⟨[], (0, 8, 11, 19), [], "java/lang/IllegalArgumentException", rfl, (fun z hz => by cases hz), by decide, by decide, tw_885, by decide +kernel, fun ex => ?_⟩
      refine V_astore_n (i := 2) dL_load_11 rfl (Nat.le_of_ble_eq_true rfl) ?_
      refine V_iconst (v := 1) dL_load_12 (by decide) ?_
      obtain rfl := Option.some.inj h
      exact V_ireturn dL_load_13 ⟨_, rfl, rfl⟩ ⟨rfl, rfl⟩
    cases h
  · refine V_i2l dL_load_6 rfl ?_
    refine D3_lst hc3 h dL_load_7 fun W4 h => ?_
    refine V_goto (tgt := 14) dL_load_8 rfl ?_
    refine V_iconst (v := 0) dL_load_14 (by decide) ?_
    obtain rfl := Option.some.inj h
    exact V_ireturn dL_load_15 ⟨_, rfl, rfl⟩ ⟨rfl, rfl⟩
noncomputable def f_L_loadingObstacle (W : Nat → Nat → Int32) (a1 : Int32) (a2 : Int32) : Option (Int32 × (Nat → Nat → Int32)) :=
  bdt (f_X9_loadingObstacle W a1 a2) (fun e => if e = "java/lang/IndexOutOfBoundsException" then some ((1 : Int32), W) else none) (fun v1 => bnd (w2 W 31 0 v1) (fun W2 => some ((0 : Int32), W2)))
theorem e_L_loadingObstacle {G : GT} {f0 : Nat} {b c : Nat} {M : MM} {hi : Nat} {W : Nat → Nat → Int32} {a1 : Int32} {a2 : Int32} {r : (Int32 × (Nat → Nat → Int32))} (hf0 : 10 ≤ f0) (hc3 : 620 ≤ c) (h : f_L_loadingObstacle W a1 a2 = some r) : Ex G f0 mL_loadingObstacle [.ref (b), .int a1, .int a2, .ref (b + 619)] (MEM b c W M) hi 2 12 (RP (.inl (some (.int r.1))) (MEM b c r.2 M)) := by
  obtain ⟨f, rfl, hf⟩ := suc_of hf0
  have hc1 : 609 ≤ c := Nat.le_trans (Nat.le_of_ble_eq_true rfl) hc3
  have hc2 : 619 ≤ c := Nat.le_trans (Nat.le_of_ble_eq_true rfl) hc3
  unfold f_L_loadingObstacle at h
  refine ⟨Nat.le_of_ble_eq_true rfl, ?_⟩
  refine V_aload_n (i := 3) dL_loadingObstacle_0 rfl rfl ?_
  refine V_iconst (v := 0) dL_loadingObstacle_1 (by decide) ?_
  refine V_aload_n (i := 0) dL_loadingObstacle_2 rfl rfl ?_
  refine V_iload_n (i := 1) dL_loadingObstacle_3 rfl rfl ?_
  refine V_iload_n (i := 2) dL_loadingObstacle_4 rfl rfl ?_
  refine D_tVI (As := [_, _]) (k2 := 2) (n2 := 12) h dL_loadingObstacle_5 cv_L_116 rfl ⟨_, _, _, (mem_x9 hc1), rfl, rfl⟩ rfl (Nat.le_of_ble_eq_true rfl) (fun x hx => e_X9_loadingObstacle (Nat.le_trans (Nat.le_of_ble_eq_true rfl) hf) hc1 hx) (fun e hi h => ?_) (fun v1 hi h => ?_)
  · refine D_ite h (fun q h => ?_) (fun _ h => ?_)
    · subst q
      refine Or.inr ⟨[], (0, 10, 13, 29), [], "java/lang/IndexOutOfBoundsException", rfl, (fun z hz => by cases hz), by decide, by decide, tw_922, by decide +kernel, fun ex => ?_⟩
      refine V_astore (i := 4) dL_loadingObstacle_13 (Nat.le_of_ble_eq_true rfl) ?_
      refine V_iconst (v := 1) dL_loadingObstacle_15 (by decide) ?_
      obtain rfl := Option.some.inj h
      exact V_ireturn dL_loadingObstacle_16 ⟨_, rfl, rfl⟩ ⟨rfl, rfl⟩
    cases h
  · refine V_i2l dL_loadingObstacle_8 rfl ?_
    refine D3_lst hc3 h dL_loadingObstacle_9 fun W2 h => ?_
    refine V_goto (tgt := 17) dL_loadingObstacle_10 rfl ?_
    refine V_iconst (v := 0) dL_loadingObstacle_17 (by decide) ?_
    obtain rfl := Option.some.inj h
    exact V_ireturn dL_loadingObstacle_18 ⟨_, rfl, rfl⟩ ⟨rfl, rfl⟩
noncomputable def f_L_minutesToDelivery (W : Nat → Nat → Int32) (a1 : Int32) : Option (Int32 × (Nat → Nat → Int32)) :=
  bt2 (f_X9_minutesToDelivery W a1) (fun e W3 => if e = "java/lang/IndexOutOfBoundsException" then some ((1 : Int32), W3) else none) (fun v2 W1 => bnd (w2 W1 31 0 v2) (fun W4 => some ((0 : Int32), W4)))
theorem e_L_minutesToDelivery {G : GT} {f0 : Nat} {b c : Nat} {M : MM} {hi : Nat} {W : Nat → Nat → Int32} {a1 : Int32} {r : (Int32 × (Nat → Nat → Int32))} (hf0 : 10 ≤ f0) (hc3 : 620 ≤ c) (h : f_L_minutesToDelivery W a1 = some r) : Ex G f0 mL_minutesToDelivery [.ref (b), .int a1, .ref (b + 619)] (MEM b c W M) hi 1 6 (RP (.inl (some (.int r.1))) (MEM b c r.2 M)) := by
  obtain ⟨f, rfl, hf⟩ := suc_of hf0
  have hc1 : 609 ≤ c := Nat.le_trans (Nat.le_of_ble_eq_true rfl) hc3
  have hc2 : 619 ≤ c := Nat.le_trans (Nat.le_of_ble_eq_true rfl) hc3
  unfold f_L_minutesToDelivery at h
  refine ⟨Nat.le_of_ble_eq_true rfl, ?_⟩
  refine V_aload_n (i := 2) dL_minutesToDelivery_0 rfl rfl ?_
  refine V_iconst (v := 0) dL_minutesToDelivery_1 (by decide) ?_
  refine V_aload_n (i := 0) dL_minutesToDelivery_2 rfl rfl ?_
  refine V_iload_n (i := 1) dL_minutesToDelivery_3 rfl rfl ?_
  refine D_tVIW (As := [_]) (μ := fun W1 => (MEM b c W1 M)) (k2 := 1) (n2 := 6) h dL_minutesToDelivery_4 cv_L_119 rfl ⟨_, _, _, (mem_x9 hc1), rfl, rfl⟩ rfl (Nat.le_of_ble_eq_true rfl) (fun x y hx => e_X9_minutesToDelivery (Nat.le_trans (Nat.le_of_ble_eq_true rfl) hf) hc1 hx) (fun e W3 hi h => ?_) (fun v2 W1 hi h => ?_)
  · refine D_ite h (fun q h => ?_) (fun _ h => ?_)
    · subst q
      refine Or.inr ⟨[], (0, 9, 12, 29), [], "java/lang/IndexOutOfBoundsException", rfl, (fun z hz => by cases hz), by decide, by decide, tw_922, by decide +kernel, fun ex => ?_⟩
      refine V_astore_n (i := 3) dL_minutesToDelivery_12 rfl (Nat.le_of_ble_eq_true rfl) ?_
      refine V_iconst (v := 1) dL_minutesToDelivery_13 (by decide) ?_
      obtain rfl := Option.some.inj h
      exact V_ireturn dL_minutesToDelivery_14 ⟨_, rfl, rfl⟩ ⟨rfl, rfl⟩
    cases h
  · refine V_i2l dL_minutesToDelivery_7 rfl ?_
    refine D3_lst hc3 h dL_minutesToDelivery_8 fun W4 h => ?_
    refine V_goto (tgt := 15) dL_minutesToDelivery_9 rfl ?_
    refine V_iconst (v := 0) dL_minutesToDelivery_15 (by decide) ?_
    obtain rfl := Option.some.inj h
    exact V_ireturn dL_minutesToDelivery_16 ⟨_, rfl, rfl⟩ ⟨rfl, rfl⟩
noncomputable def f_L_minutesToNext (W : Nat → Nat → Int32) (a1 : Int32) : Option (Int32 × (Nat → Nat → Int32)) :=
  bdt (f_X9_minutesToNext W a1) (fun e => if e = "java/lang/IndexOutOfBoundsException" then some ((1 : Int32), W) else none) (fun v1 => bnd (w2 W 31 0 v1) (fun W2 => some ((0 : Int32), W2)))
theorem e_L_minutesToNext {G : GT} {f0 : Nat} {b c : Nat} {M : MM} {hi : Nat} {W : Nat → Nat → Int32} {a1 : Int32} {r : (Int32 × (Nat → Nat → Int32))} (hf0 : 10 ≤ f0) (hc3 : 620 ≤ c) (h : f_L_minutesToNext W a1 = some r) : Ex G f0 mL_minutesToNext [.ref (b), .int a1, .ref (b + 619)] (MEM b c W M) hi 1 6 (RP (.inl (some (.int r.1))) (MEM b c r.2 M)) := by
  obtain ⟨f, rfl, hf⟩ := suc_of hf0
  have hc1 : 609 ≤ c := Nat.le_trans (Nat.le_of_ble_eq_true rfl) hc3
  have hc2 : 619 ≤ c := Nat.le_trans (Nat.le_of_ble_eq_true rfl) hc3
  unfold f_L_minutesToNext at h
  refine ⟨Nat.le_of_ble_eq_true rfl, ?_⟩
  refine V_aload_n (i := 2) dL_minutesToNext_0 rfl rfl ?_
  refine V_iconst (v := 0) dL_minutesToNext_1 (by decide) ?_
  refine V_aload_n (i := 0) dL_minutesToNext_2 rfl rfl ?_
  refine V_iload_n (i := 1) dL_minutesToNext_3 rfl rfl ?_
  refine D_tVI (As := [_]) (k2 := 1) (n2 := 6) h dL_minutesToNext_4 cv_L_77 rfl ⟨_, _, _, (mem_x9 hc1), rfl, rfl⟩ rfl (Nat.le_of_ble_eq_true rfl) (fun x hx => e_X9_minutesToNext (Nat.le_trans (Nat.le_of_ble_eq_true rfl) hf) hc1 hx) (fun e hi h => ?_) (fun v1 hi h => ?_)
  · refine D_ite h (fun q h => ?_) (fun _ h => ?_)
    · subst q
      refine Or.inr ⟨[], (0, 9, 12, 29), [], "java/lang/IndexOutOfBoundsException", rfl, (fun z hz => by cases hz), by decide, by decide, tw_922, by decide +kernel, fun ex => ?_⟩
      refine V_astore_n (i := 3) dL_minutesToNext_12 rfl (Nat.le_of_ble_eq_true rfl) ?_
      refine V_iconst (v := 1) dL_minutesToNext_13 (by decide) ?_
      obtain rfl := Option.some.inj h
      exact V_ireturn dL_minutesToNext_14 ⟨_, rfl, rfl⟩ ⟨rfl, rfl⟩
    cases h
  · refine V_i2l dL_minutesToNext_7 rfl ?_
    refine D3_lst hc3 h dL_minutesToNext_8 fun W2 h => ?_
    refine V_goto (tgt := 15) dL_minutesToNext_9 rfl ?_
    refine V_iconst (v := 0) dL_minutesToNext_15 (by decide) ?_
    obtain rfl := Option.some.inj h
    exact V_ireturn dL_minutesToNext_16 ⟨_, rfl, rfl⟩ ⟨rfl, rfl⟩
noncomputable def f_L_minutesToStop (W : Nat → Nat → Int32) (a1 : Int32) : Option (Int32 × (Nat → Nat → Int32)) :=
  bt2 (f_X9_minutesToStop W a1) (fun e W3 => if e = "java/lang/IndexOutOfBoundsException" then some ((1 : Int32), W3) else none) (fun v2 W1 => bnd (w2 W1 31 0 v2) (fun W4 => some ((0 : Int32), W4)))
theorem e_L_minutesToStop {G : GT} {f0 : Nat} {b c : Nat} {M : MM} {hi : Nat} {W : Nat → Nat → Int32} {a1 : Int32} {r : (Int32 × (Nat → Nat → Int32))} (hf0 : 10 ≤ f0) (hc3 : 620 ≤ c) (h : f_L_minutesToStop W a1 = some r) : Ex G f0 mL_minutesToStop [.ref (b), .int a1, .ref (b + 619)] (MEM b c W M) hi 1 6 (RP (.inl (some (.int r.1))) (MEM b c r.2 M)) := by
  obtain ⟨f, rfl, hf⟩ := suc_of hf0
  have hc1 : 609 ≤ c := Nat.le_trans (Nat.le_of_ble_eq_true rfl) hc3
  have hc2 : 619 ≤ c := Nat.le_trans (Nat.le_of_ble_eq_true rfl) hc3
  unfold f_L_minutesToStop at h
  refine ⟨Nat.le_of_ble_eq_true rfl, ?_⟩
  refine V_aload_n (i := 2) dL_minutesToStop_0 rfl rfl ?_
  refine V_iconst (v := 0) dL_minutesToStop_1 (by decide) ?_
  refine V_aload_n (i := 0) dL_minutesToStop_2 rfl rfl ?_
  refine V_iload_n (i := 1) dL_minutesToStop_3 rfl rfl ?_
  refine D_tVIW (As := [_]) (μ := fun W1 => (MEM b c W1 M)) (k2 := 1) (n2 := 6) h dL_minutesToStop_4 cv_L_122 rfl ⟨_, _, _, (mem_x9 hc1), rfl, rfl⟩ rfl (Nat.le_of_ble_eq_true rfl) (fun x y hx => e_X9_minutesToStop (Nat.le_trans (Nat.le_of_ble_eq_true rfl) hf) hc1 hx) (fun e W3 hi h => ?_) (fun v2 W1 hi h => ?_)
  · refine D_ite h (fun q h => ?_) (fun _ h => ?_)
    · subst q
      refine Or.inr ⟨[], (0, 9, 12, 29), [], "java/lang/IndexOutOfBoundsException", rfl, (fun z hz => by cases hz), by decide, by decide, tw_922, by decide +kernel, fun ex => ?_⟩
      refine V_astore_n (i := 3) dL_minutesToStop_12 rfl (Nat.le_of_ble_eq_true rfl) ?_
      refine V_iconst (v := 1) dL_minutesToStop_13 (by decide) ?_
      obtain rfl := Option.some.inj h
      exact V_ireturn dL_minutesToStop_14 ⟨_, rfl, rfl⟩ ⟨rfl, rfl⟩
    cases h
  · refine V_i2l dL_minutesToStop_7 rfl ?_
    refine D3_lst hc3 h dL_minutesToStop_8 fun W4 h => ?_
    refine V_goto (tgt := 15) dL_minutesToStop_9 rfl ?_
    refine V_iconst (v := 0) dL_minutesToStop_15 (by decide) ?_
    obtain rfl := Option.some.inj h
    exact V_ireturn dL_minutesToStop_16 ⟨_, rfl, rfl⟩ ⟨rfl, rfl⟩
noncomputable def f_L_nextStation (W : Nat → Nat → Int32) (a1 : Int32) : Option (Int32 × (Nat → Nat → Int32)) :=
  bdt (f_X9_nextStation W a1) (fun e => if e = "java/lang/IndexOutOfBoundsException" then some ((1 : Int32), W) else none) (fun v1 => bnd (w2 W 31 0 v1) (fun W2 => some ((0 : Int32), W2)))
theorem e_L_nextStation {G : GT} {f0 : Nat} {b c : Nat} {M : MM} {hi : Nat} {W : Nat → Nat → Int32} {a1 : Int32} {r : (Int32 × (Nat → Nat → Int32))} (hf0 : 10 ≤ f0) (hc3 : 620 ≤ c) (h : f_L_nextStation W a1 = some r) : Ex G f0 mL_nextStation [.ref (b), .int a1, .ref (b + 619)] (MEM b c W M) hi 1 6 (RP (.inl (some (.int r.1))) (MEM b c r.2 M)) := by
  obtain ⟨f, rfl, hf⟩ := suc_of hf0
  have hc1 : 609 ≤ c := Nat.le_trans (Nat.le_of_ble_eq_true rfl) hc3
  have hc2 : 619 ≤ c := Nat.le_trans (Nat.le_of_ble_eq_true rfl) hc3
  unfold f_L_nextStation at h
  refine ⟨Nat.le_of_ble_eq_true rfl, ?_⟩
  refine V_aload_n (i := 2) dL_nextStation_0 rfl rfl ?_
  refine V_iconst (v := 0) dL_nextStation_1 (by decide) ?_
  refine V_aload_n (i := 0) dL_nextStation_2 rfl rfl ?_
  refine V_iload_n (i := 1) dL_nextStation_3 rfl rfl ?_
  refine D_tVI (As := [_]) (k2 := 1) (n2 := 6) h dL_nextStation_4 cv_L_71 rfl ⟨_, _, _, (mem_x9 hc1), rfl, rfl⟩ rfl (Nat.le_of_ble_eq_true rfl) (fun x hx => e_X9_nextStation (Nat.le_trans (Nat.le_of_ble_eq_true rfl) hf) hc1 hx) (fun e hi h => ?_) (fun v1 hi h => ?_)
  · refine D_ite h (fun q h => ?_) (fun _ h => ?_)
    · subst q
      refine Or.inr ⟨[], (0, 9, 12, 29), [], "java/lang/IndexOutOfBoundsException", rfl, (fun z hz => by cases hz), by decide, by decide, tw_922, by decide +kernel, fun ex => ?_⟩
      refine V_astore_n (i := 3) dL_nextStation_12 rfl (Nat.le_of_ble_eq_true rfl) ?_
      refine V_iconst (v := 1) dL_nextStation_13 (by decide) ?_
      obtain rfl := Option.some.inj h
      exact V_ireturn dL_nextStation_14 ⟨_, rfl, rfl⟩ ⟨rfl, rfl⟩
    cases h
  · refine V_i2l dL_nextStation_7 rfl ?_
    refine D3_lst hc3 h dL_nextStation_8 fun W2 h => ?_
    refine V_goto (tgt := 15) dL_nextStation_9 rfl ?_
    refine V_iconst (v := 0) dL_nextStation_15 (by decide) ?_
    obtain rfl := Option.some.inj h
    exact V_ireturn dL_nextStation_16 ⟨_, rfl, rfl⟩ ⟨rfl, rfl⟩
noncomputable def f_L_origin (W : Nat → Nat → Int32) (a1 : Int32) : Option (Int32 × (Nat → Nat → Int32)) :=
  bdt (f_X9_origin W a1) (fun e => if e = "java/lang/IndexOutOfBoundsException" then some ((1 : Int32), W) else none) (fun v1 => bnd (w2 W 31 0 v1) (fun W2 => some ((0 : Int32), W2)))
theorem e_L_origin {G : GT} {f0 : Nat} {b c : Nat} {M : MM} {hi : Nat} {W : Nat → Nat → Int32} {a1 : Int32} {r : (Int32 × (Nat → Nat → Int32))} (hf0 : 10 ≤ f0) (hc3 : 620 ≤ c) (h : f_L_origin W a1 = some r) : Ex G f0 mL_origin [.ref (b), .int a1, .ref (b + 619)] (MEM b c W M) hi 1 6 (RP (.inl (some (.int r.1))) (MEM b c r.2 M)) := by
  obtain ⟨f, rfl, hf⟩ := suc_of hf0
  have hc1 : 609 ≤ c := Nat.le_trans (Nat.le_of_ble_eq_true rfl) hc3
  have hc2 : 619 ≤ c := Nat.le_trans (Nat.le_of_ble_eq_true rfl) hc3
  unfold f_L_origin at h
  refine ⟨Nat.le_of_ble_eq_true rfl, ?_⟩
  refine V_aload_n (i := 2) dL_origin_0 rfl rfl ?_
  refine V_iconst (v := 0) dL_origin_1 (by decide) ?_
  refine V_aload_n (i := 0) dL_origin_2 rfl rfl ?_
  refine V_iload_n (i := 1) dL_origin_3 rfl rfl ?_
  refine D_tVI (As := [_]) (k2 := 1) (n2 := 6) h dL_origin_4 cv_L_89 rfl ⟨_, _, _, (mem_x9 hc1), rfl, rfl⟩ rfl (Nat.le_of_ble_eq_true rfl) (fun x hx => e_X9_origin (Nat.le_trans (Nat.le_of_ble_eq_true rfl) hf) hc1 hx) (fun e hi h => ?_) (fun v1 hi h => ?_)
  · refine D_ite h (fun q h => ?_) (fun _ h => ?_)
    · subst q
      refine Or.inr ⟨[], (0, 9, 12, 29), [], "java/lang/IndexOutOfBoundsException", rfl, (fun z hz => by cases hz), by decide, by decide, tw_922, by decide +kernel, fun ex => ?_⟩
      refine V_astore_n (i := 3) dL_origin_12 rfl (Nat.le_of_ble_eq_true rfl) ?_
      refine V_iconst (v := 1) dL_origin_13 (by decide) ?_
      obtain rfl := Option.some.inj h
      exact V_ireturn dL_origin_14 ⟨_, rfl, rfl⟩ ⟨rfl, rfl⟩
    cases h
  · refine V_i2l dL_origin_7 rfl ?_
    refine D3_lst hc3 h dL_origin_8 fun W2 h => ?_
    refine V_goto (tgt := 15) dL_origin_9 rfl ?_
    refine V_iconst (v := 0) dL_origin_15 (by decide) ?_
    obtain rfl := Option.some.inj h
    exact V_ireturn dL_origin_16 ⟨_, rfl, rfl⟩ ⟨rfl, rfl⟩
noncomputable def f_L_outputByte (W : Nat → Nat → Int32) (a1 : Int32) : Option (Int32 × (Nat → Nat → Int32)) :=
  bdt (f_X9_outputByte W a1) (fun e => if e = "java/util/NoSuchElementException" then some ((1 : Int32), W) else none) (fun v1 => bnd (w2 W 31 0 v1) (fun W2 => some ((0 : Int32), W2)))
theorem e_L_outputByte {G : GT} {f0 : Nat} {b c : Nat} {M : MM} {hi : Nat} {W : Nat → Nat → Int32} {a1 : Int32} {r : (Int32 × (Nat → Nat → Int32))} (hf0 : 9 ≤ f0) (hc3 : 620 ≤ c) (h : f_L_outputByte W a1 = some r) : Ex G f0 mL_outputByte [.ref (b), .int a1, .ref (b + 619)] (MEM b c W M) hi 1 6 (RP (.inl (some (.int r.1))) (MEM b c r.2 M)) := by
  obtain ⟨f, rfl, hf⟩ := suc_of hf0
  have hc1 : 609 ≤ c := Nat.le_trans (Nat.le_of_ble_eq_true rfl) hc3
  have hc2 : 619 ≤ c := Nat.le_trans (Nat.le_of_ble_eq_true rfl) hc3
  unfold f_L_outputByte at h
  refine ⟨Nat.le_of_ble_eq_true rfl, ?_⟩
  refine V_aload_n (i := 2) dL_outputByte_0 rfl rfl ?_
  refine V_iconst (v := 0) dL_outputByte_1 (by decide) ?_
  refine V_aload_n (i := 0) dL_outputByte_2 rfl rfl ?_
  refine V_iload_n (i := 1) dL_outputByte_3 rfl rfl ?_
  refine D_tVI (As := [_]) (k2 := 1) (n2 := 6) h dL_outputByte_4 cv_L_154 rfl ⟨_, _, _, (mem_x9 hc1), rfl, rfl⟩ rfl (Nat.le_of_ble_eq_true rfl) (fun x hx => e_X9_outputByte (Nat.le_trans (Nat.le_of_ble_eq_true rfl) hf) hc1 hx) (fun e hi h => ?_) (fun v1 hi h => ?_)
  · refine D_ite h (fun q h => ?_) (fun _ h => ?_)
    · subst q
      refine Or.inr ⟨[], (0, 9, 12, 41), [], "java/util/NoSuchElementException", rfl, (fun z hz => by cases hz), by decide, by decide, tw_964, by decide +kernel, fun ex => ?_⟩
      refine V_astore_n (i := 3) dL_outputByte_12 rfl (Nat.le_of_ble_eq_true rfl) ?_
      refine V_iconst (v := 1) dL_outputByte_13 (by decide) ?_
      obtain rfl := Option.some.inj h
      exact V_ireturn dL_outputByte_14 ⟨_, rfl, rfl⟩ ⟨rfl, rfl⟩
    cases h
  · refine V_i2l dL_outputByte_7 rfl ?_
    refine D3_lst hc3 h dL_outputByte_8 fun W2 h => ?_
    refine V_goto (tgt := 15) dL_outputByte_9 rfl ?_
    refine V_iconst (v := 0) dL_outputByte_15 (by decide) ?_
    obtain rfl := Option.some.inj h
    exact V_ireturn dL_outputByte_16 ⟨_, rfl, rfl⟩ ⟨rfl, rfl⟩
noncomputable def f_L_parcelStation (W : Nat → Nat → Int32) (a1 : Int32) : Option (Int32 × (Nat → Nat → Int32)) :=
  bdt (f_X9_parcelStation W a1) (fun e => if e = "java/lang/IndexOutOfBoundsException" then some ((1 : Int32), W) else none) (fun v1 => bnd (w2 W 31 0 v1) (fun W2 => some ((0 : Int32), W2)))
theorem e_L_parcelStation {G : GT} {f0 : Nat} {b c : Nat} {M : MM} {hi : Nat} {W : Nat → Nat → Int32} {a1 : Int32} {r : (Int32 × (Nat → Nat → Int32))} (hf0 : 10 ≤ f0) (hc3 : 620 ≤ c) (h : f_L_parcelStation W a1 = some r) : Ex G f0 mL_parcelStation [.ref (b), .int a1, .ref (b + 619)] (MEM b c W M) hi 1 6 (RP (.inl (some (.int r.1))) (MEM b c r.2 M)) := by
  obtain ⟨f, rfl, hf⟩ := suc_of hf0
  have hc1 : 609 ≤ c := Nat.le_trans (Nat.le_of_ble_eq_true rfl) hc3
  have hc2 : 619 ≤ c := Nat.le_trans (Nat.le_of_ble_eq_true rfl) hc3
  unfold f_L_parcelStation at h
  refine ⟨Nat.le_of_ble_eq_true rfl, ?_⟩
  refine V_aload_n (i := 2) dL_parcelStation_0 rfl rfl ?_
  refine V_iconst (v := 0) dL_parcelStation_1 (by decide) ?_
  refine V_aload_n (i := 0) dL_parcelStation_2 rfl rfl ?_
  refine V_iload_n (i := 1) dL_parcelStation_3 rfl rfl ?_
  refine D_tVI (As := [_]) (k2 := 1) (n2 := 6) h dL_parcelStation_4 cv_L_98 rfl ⟨_, _, _, (mem_x9 hc1), rfl, rfl⟩ rfl (Nat.le_of_ble_eq_true rfl) (fun x hx => e_X9_parcelStation (Nat.le_trans (Nat.le_of_ble_eq_true rfl) hf) hc1 hx) (fun e hi h => ?_) (fun v1 hi h => ?_)
  · refine D_ite h (fun q h => ?_) (fun _ h => ?_)
    · subst q
      refine Or.inr ⟨[], (0, 9, 12, 29), [], "java/lang/IndexOutOfBoundsException", rfl, (fun z hz => by cases hz), by decide, by decide, tw_922, by decide +kernel, fun ex => ?_⟩
      refine V_astore_n (i := 3) dL_parcelStation_12 rfl (Nat.le_of_ble_eq_true rfl) ?_
      refine V_iconst (v := 1) dL_parcelStation_13 (by decide) ?_
      obtain rfl := Option.some.inj h
      exact V_ireturn dL_parcelStation_14 ⟨_, rfl, rfl⟩ ⟨rfl, rfl⟩
    cases h
  · refine V_i2l dL_parcelStation_7 rfl ?_
    refine D3_lst hc3 h dL_parcelStation_8 fun W2 h => ?_
    refine V_goto (tgt := 15) dL_parcelStation_9 rfl ?_
    refine V_iconst (v := 0) dL_parcelStation_15 (by decide) ?_
    obtain rfl := Option.some.inj h
    exact V_ireturn dL_parcelStation_16 ⟨_, rfl, rfl⟩ ⟨rfl, rfl⟩
noncomputable def f_L_parcelTrain (W : Nat → Nat → Int32) (a1 : Int32) : Option (Int32 × (Nat → Nat → Int32)) :=
  bdt (f_X9_parcelTrain W a1) (fun e => if e = "java/lang/IndexOutOfBoundsException" then some ((1 : Int32), W) else none) (fun v1 => bnd (w2 W 31 0 v1) (fun W2 => some ((0 : Int32), W2)))
theorem e_L_parcelTrain {G : GT} {f0 : Nat} {b c : Nat} {M : MM} {hi : Nat} {W : Nat → Nat → Int32} {a1 : Int32} {r : (Int32 × (Nat → Nat → Int32))} (hf0 : 10 ≤ f0) (hc3 : 620 ≤ c) (h : f_L_parcelTrain W a1 = some r) : Ex G f0 mL_parcelTrain [.ref (b), .int a1, .ref (b + 619)] (MEM b c W M) hi 1 6 (RP (.inl (some (.int r.1))) (MEM b c r.2 M)) := by
  obtain ⟨f, rfl, hf⟩ := suc_of hf0
  have hc1 : 609 ≤ c := Nat.le_trans (Nat.le_of_ble_eq_true rfl) hc3
  have hc2 : 619 ≤ c := Nat.le_trans (Nat.le_of_ble_eq_true rfl) hc3
  unfold f_L_parcelTrain at h
  refine ⟨Nat.le_of_ble_eq_true rfl, ?_⟩
  refine V_aload_n (i := 2) dL_parcelTrain_0 rfl rfl ?_
  refine V_iconst (v := 0) dL_parcelTrain_1 (by decide) ?_
  refine V_aload_n (i := 0) dL_parcelTrain_2 rfl rfl ?_
  refine V_iload_n (i := 1) dL_parcelTrain_3 rfl rfl ?_
  refine D_tVI (As := [_]) (k2 := 1) (n2 := 6) h dL_parcelTrain_4 cv_L_101 rfl ⟨_, _, _, (mem_x9 hc1), rfl, rfl⟩ rfl (Nat.le_of_ble_eq_true rfl) (fun x hx => e_X9_parcelTrain (Nat.le_trans (Nat.le_of_ble_eq_true rfl) hf) hc1 hx) (fun e hi h => ?_) (fun v1 hi h => ?_)
  · refine D_ite h (fun q h => ?_) (fun _ h => ?_)
    · subst q
      refine Or.inr ⟨[], (0, 9, 12, 29), [], "java/lang/IndexOutOfBoundsException", rfl, (fun z hz => by cases hz), by decide, by decide, tw_922, by decide +kernel, fun ex => ?_⟩
      refine V_astore_n (i := 3) dL_parcelTrain_12 rfl (Nat.le_of_ble_eq_true rfl) ?_
      refine V_iconst (v := 1) dL_parcelTrain_13 (by decide) ?_
      obtain rfl := Option.some.inj h
      exact V_ireturn dL_parcelTrain_14 ⟨_, rfl, rfl⟩ ⟨rfl, rfl⟩
    cases h
  · refine V_i2l dL_parcelTrain_7 rfl ?_
    refine D3_lst hc3 h dL_parcelTrain_8 fun W2 h => ?_
    refine V_goto (tgt := 15) dL_parcelTrain_9 rfl ?_
    refine V_iconst (v := 0) dL_parcelTrain_15 (by decide) ?_
    obtain rfl := Option.some.inj h
    exact V_ireturn dL_parcelTrain_16 ⟨_, rfl, rfl⟩ ⟨rfl, rfl⟩
noncomputable def f_L_pass (W : Nat → Nat → Int32) (a1 : Int32) : Option (Int32 × (Nat → Nat → Int32)) :=
  bt2 (f_X9_pass W a1) (fun e W3 => if e = "java/lang/IllegalArgumentException" then some ((1 : Int32), W3) else none) (fun v2 W1 => bnd (w2 W1 31 0 v2) (fun W4 => some ((0 : Int32), W4)))
theorem e_L_pass {G : GT} {f0 : Nat} {b c : Nat} {M : MM} {hi : Nat} {W : Nat → Nat → Int32} {a1 : Int32} {r : (Int32 × (Nat → Nat → Int32))} (hf0 : 10 ≤ f0) (hc3 : 620 ≤ c) (h : f_L_pass W a1 = some r) : Ex G f0 mL_pass [.ref (b), .int a1, .ref (b + 619)] (MEM b c W M) hi 1 6 (RP (.inl (some (.int r.1))) (MEM b c r.2 M)) := by
  obtain ⟨f, rfl, hf⟩ := suc_of hf0
  have hc1 : 609 ≤ c := Nat.le_trans (Nat.le_of_ble_eq_true rfl) hc3
  have hc2 : 619 ≤ c := Nat.le_trans (Nat.le_of_ble_eq_true rfl) hc3
  unfold f_L_pass at h
  refine ⟨Nat.le_of_ble_eq_true rfl, ?_⟩
  refine V_aload_n (i := 2) dL_pass_0 rfl rfl ?_
  refine V_iconst (v := 0) dL_pass_1 (by decide) ?_
  refine V_aload_n (i := 0) dL_pass_2 rfl rfl ?_
  refine V_iload_n (i := 1) dL_pass_3 rfl rfl ?_
  refine D_tVIW (As := [_]) (μ := fun W1 => (MEM b c W1 M)) (k2 := 1) (n2 := 6) h dL_pass_4 cv_L_135 rfl ⟨_, _, _, (mem_x9 hc1), rfl, rfl⟩ rfl (Nat.le_of_ble_eq_true rfl) (fun x y hx => e_X9_pass (Nat.le_trans (Nat.le_of_ble_eq_true rfl) hf) hc1 hx) (fun e W3 hi h => ?_) (fun v2 W1 hi h => ?_)
  · refine D_ite h (fun q h => ?_) (fun _ h => ?_)
    · subst q
      refine Or.inr ⟨[], (0, 9, 12, 19), [], "java/lang/IllegalArgumentException", rfl, (fun z hz => by cases hz), by decide, by decide, tw_885, by decide +kernel, fun ex => ?_⟩
      refine V_astore_n (i := 3) dL_pass_12 rfl (Nat.le_of_ble_eq_true rfl) ?_
      refine V_iconst (v := 1) dL_pass_13 (by decide) ?_
      obtain rfl := Option.some.inj h
      exact V_ireturn dL_pass_14 ⟨_, rfl, rfl⟩ ⟨rfl, rfl⟩
    cases h
  · refine V_i2l dL_pass_7 rfl ?_
    refine D3_lst hc3 h dL_pass_8 fun W4 h => ?_
    refine V_goto (tgt := 15) dL_pass_9 rfl ?_
    refine V_iconst (v := 0) dL_pass_15 (by decide) ?_
    obtain rfl := Option.some.inj h
    exact V_ireturn dL_pass_16 ⟨_, rfl, rfl⟩ ⟨rfl, rfl⟩
noncomputable def f_L_priority (W : Nat → Nat → Int32) (a1 : Int32) : Option (Int32 × (Nat → Nat → Int32)) :=
  bdt (f_X9_priority W a1) (fun e => if e = "java/lang/IndexOutOfBoundsException" then some ((1 : Int32), W) else none) (fun v1 => bnd (w2 W 31 0 v1) (fun W2 => some ((0 : Int32), W2)))
theorem e_L_priority {G : GT} {f0 : Nat} {b c : Nat} {M : MM} {hi : Nat} {W : Nat → Nat → Int32} {a1 : Int32} {r : (Int32 × (Nat → Nat → Int32))} (hf0 : 10 ≤ f0) (hc3 : 620 ≤ c) (h : f_L_priority W a1 = some r) : Ex G f0 mL_priority [.ref (b), .int a1, .ref (b + 619)] (MEM b c W M) hi 1 6 (RP (.inl (some (.int r.1))) (MEM b c r.2 M)) := by
  obtain ⟨f, rfl, hf⟩ := suc_of hf0
  have hc1 : 609 ≤ c := Nat.le_trans (Nat.le_of_ble_eq_true rfl) hc3
  have hc2 : 619 ≤ c := Nat.le_trans (Nat.le_of_ble_eq_true rfl) hc3
  unfold f_L_priority at h
  refine ⟨Nat.le_of_ble_eq_true rfl, ?_⟩
  refine V_aload_n (i := 2) dL_priority_0 rfl rfl ?_
  refine V_iconst (v := 0) dL_priority_1 (by decide) ?_
  refine V_aload_n (i := 0) dL_priority_2 rfl rfl ?_
  refine V_iload_n (i := 1) dL_priority_3 rfl rfl ?_
  refine D_tVI (As := [_]) (k2 := 1) (n2 := 6) h dL_priority_4 cv_L_95 rfl ⟨_, _, _, (mem_x9 hc1), rfl, rfl⟩ rfl (Nat.le_of_ble_eq_true rfl) (fun x hx => e_X9_priority (Nat.le_trans (Nat.le_of_ble_eq_true rfl) hf) hc1 hx) (fun e hi h => ?_) (fun v1 hi h => ?_)
  · refine D_ite h (fun q h => ?_) (fun _ h => ?_)
    · subst q
      refine Or.inr ⟨[], (0, 9, 12, 29), [], "java/lang/IndexOutOfBoundsException", rfl, (fun z hz => by cases hz), by decide, by decide, tw_922, by decide +kernel, fun ex => ?_⟩
      refine V_astore_n (i := 3) dL_priority_12 rfl (Nat.le_of_ble_eq_true rfl) ?_
      refine V_iconst (v := 1) dL_priority_13 (by decide) ?_
      obtain rfl := Option.some.inj h
      exact V_ireturn dL_priority_14 ⟨_, rfl, rfl⟩ ⟨rfl, rfl⟩
    cases h
  · refine V_i2l dL_priority_7 rfl ?_
    refine D3_lst hc3 h dL_priority_8 fun W2 h => ?_
    refine V_goto (tgt := 15) dL_priority_9 rfl ?_
    refine V_iconst (v := 0) dL_priority_15 (by decide) ?_
    obtain rfl := Option.some.inj h
    exact V_ireturn dL_priority_16 ⟨_, rfl, rfl⟩ ⟨rfl, rfl⟩
noncomputable def f_L_restore (W : Nat → Nat → Int32) (a1 : Int32) : Option (Int32 × (Nat → Nat → Int32)) :=
  bt2 (f_X9_restore W a1) (fun e W3 => if e = "java/lang/IndexOutOfBoundsException" then some ((1 : Int32), W3) else if e = "java/lang/IllegalStateException" then some ((2 : Int32), W3) else none) (fun v2 W1 => bnd (w2 W1 31 0 v2) (fun W4 => some ((0 : Int32), W4)))
theorem e_L_restore {G : GT} {f0 : Nat} {b c : Nat} {M : MM} {hi : Nat} {W : Nat → Nat → Int32} {a1 : Int32} {r : (Int32 × (Nat → Nat → Int32))} (hf0 : 10 ≤ f0) (hc3 : 620 ≤ c) (h : f_L_restore W a1 = some r) : Ex G f0 mL_restore [.ref (b), .int a1, .ref (b + 619)] (MEM b c W M) hi 2 12 (RP (.inl (some (.int r.1))) (MEM b c r.2 M)) := by
  obtain ⟨f, rfl, hf⟩ := suc_of hf0
  have hc1 : 609 ≤ c := Nat.le_trans (Nat.le_of_ble_eq_true rfl) hc3
  have hc2 : 619 ≤ c := Nat.le_trans (Nat.le_of_ble_eq_true rfl) hc3
  unfold f_L_restore at h
  refine ⟨Nat.le_of_ble_eq_true rfl, ?_⟩
  refine V_aload_n (i := 2) dL_restore_0 rfl rfl ?_
  refine V_iconst (v := 0) dL_restore_1 (by decide) ?_
  refine V_aload_n (i := 0) dL_restore_2 rfl rfl ?_
  refine V_iload_n (i := 1) dL_restore_3 rfl rfl ?_
  refine D_tVIW (As := [_]) (μ := fun W1 => (MEM b c W1 M)) (k2 := 2) (n2 := 12) h dL_restore_4 cv_L_160 rfl ⟨_, _, _, (mem_x9 hc1), rfl, rfl⟩ rfl (Nat.le_of_ble_eq_true rfl) (fun x y hx => e_X9_restore (Nat.le_trans (Nat.le_of_ble_eq_true rfl) hf) hc1 hx) (fun e W3 hi h => ?_) (fun v2 W1 hi h => ?_)
  · refine D_ite h (fun q h => ?_) (fun _ h => ?_)
    · subst q
      refine Or.inr ⟨[], (0, 9, 12, 29), [(0, 9, 15, 13)], "java/lang/IndexOutOfBoundsException", rfl, (fun z hz => by cases hz), by decide, by decide, tw_922, by decide +kernel, fun ex => ?_⟩
      refine V_astore_n (i := 3) dL_restore_12 rfl (Nat.le_of_ble_eq_true rfl) ?_
      refine V_iconst (v := 1) dL_restore_13 (by decide) ?_
      obtain rfl := Option.some.inj h
      exact V_ireturn dL_restore_14 ⟨_, rfl, rfl⟩ ⟨rfl, rfl⟩
    refine D_ite h (fun q h => ?_) (fun _ h => ?_)
    · subst q
      refine Or.inr ⟨[(0, 9, 12, 29)], (0, 9, 15, 13), [], "java/lang/IllegalStateException", rfl, (fun z hz => by simp only [List.mem_cons, List.not_mem_nil, or_false] at hz; rcases hz with rfl <;> exact Or.inr ⟨by decide, _, tw_922, by decide +kernel⟩), by decide, by decide, tw_805, by decide +kernel, fun ex => ?_⟩
      refine V_astore_n (i := 3) dL_restore_15 rfl (Nat.le_of_ble_eq_true rfl) ?_
      refine V_iconst (v := 2) dL_restore_16 (by decide) ?_
      obtain rfl := Option.some.inj h
      exact V_ireturn dL_restore_17 ⟨_, rfl, rfl⟩ ⟨rfl, rfl⟩
    cases h
  · refine V_i2l dL_restore_7 rfl ?_
    refine D3_lst hc3 h dL_restore_8 fun W4 h => ?_
    refine V_goto (tgt := 18) dL_restore_9 rfl ?_
    refine V_iconst (v := 0) dL_restore_18 (by decide) ?_
    obtain rfl := Option.some.inj h
    exact V_ireturn dL_restore_19 ⟨_, rfl, rfl⟩ ⟨rfl, rfl⟩
noncomputable def f_L_routeLength (W : Nat → Nat → Int32) (a1 : Int32) : Option (Int32 × (Nat → Nat → Int32)) :=
  bdt (f_X9_routeLength W a1) (fun e => if e = "java/lang/IndexOutOfBoundsException" then some ((1 : Int32), W) else none) (fun v1 => bnd (w2 W 31 0 v1) (fun W2 => some ((0 : Int32), W2)))
theorem e_L_routeLength {G : GT} {f0 : Nat} {b c : Nat} {M : MM} {hi : Nat} {W : Nat → Nat → Int32} {a1 : Int32} {r : (Int32 × (Nat → Nat → Int32))} (hf0 : 10 ≤ f0) (hc3 : 620 ≤ c) (h : f_L_routeLength W a1 = some r) : Ex G f0 mL_routeLength [.ref (b), .int a1, .ref (b + 619)] (MEM b c W M) hi 1 6 (RP (.inl (some (.int r.1))) (MEM b c r.2 M)) := by
  obtain ⟨f, rfl, hf⟩ := suc_of hf0
  have hc1 : 609 ≤ c := Nat.le_trans (Nat.le_of_ble_eq_true rfl) hc3
  have hc2 : 619 ≤ c := Nat.le_trans (Nat.le_of_ble_eq_true rfl) hc3
  unfold f_L_routeLength at h
  refine ⟨Nat.le_of_ble_eq_true rfl, ?_⟩
  refine V_aload_n (i := 2) dL_routeLength_0 rfl rfl ?_
  refine V_iconst (v := 0) dL_routeLength_1 (by decide) ?_
  refine V_aload_n (i := 0) dL_routeLength_2 rfl rfl ?_
  refine V_iload_n (i := 1) dL_routeLength_3 rfl rfl ?_
  refine D_tVI (As := [_]) (k2 := 1) (n2 := 6) h dL_routeLength_4 cv_L_56 rfl ⟨_, _, _, (mem_x9 hc1), rfl, rfl⟩ rfl (Nat.le_of_ble_eq_true rfl) (fun x hx => e_X9_routeLength (Nat.le_trans (Nat.le_of_ble_eq_true rfl) hf) hc1 hx) (fun e hi h => ?_) (fun v1 hi h => ?_)
  · refine D_ite h (fun q h => ?_) (fun _ h => ?_)
    · subst q
      refine Or.inr ⟨[], (0, 9, 12, 29), [], "java/lang/IndexOutOfBoundsException", rfl, (fun z hz => by cases hz), by decide, by decide, tw_922, by decide +kernel, fun ex => ?_⟩
      refine V_astore_n (i := 3) dL_routeLength_12 rfl (Nat.le_of_ble_eq_true rfl) ?_
      refine V_iconst (v := 1) dL_routeLength_13 (by decide) ?_
      obtain rfl := Option.some.inj h
      exact V_ireturn dL_routeLength_14 ⟨_, rfl, rfl⟩ ⟨rfl, rfl⟩
    cases h
  · refine V_i2l dL_routeLength_7 rfl ?_
    refine D3_lst hc3 h dL_routeLength_8 fun W2 h => ?_
    refine V_goto (tgt := 15) dL_routeLength_9 rfl ?_
    refine V_iconst (v := 0) dL_routeLength_15 (by decide) ?_
    obtain rfl := Option.some.inj h
    exact V_ireturn dL_routeLength_16 ⟨_, rfl, rfl⟩ ⟨rfl, rfl⟩
noncomputable def f_L_routeStation (W : Nat → Nat → Int32) (a1 : Int32) (a2 : Int32) : Option (Int32 × (Nat → Nat → Int32)) :=
  bdt (f_X9_routeStation W a1 a2) (fun e => if e = "java/lang/IndexOutOfBoundsException" then some ((1 : Int32), W) else if e = "java/util/NoSuchElementException" then some ((2 : Int32), W) else none) (fun v1 => bnd (w2 W 31 0 v1) (fun W2 => some ((0 : Int32), W2)))
theorem e_L_routeStation {G : GT} {f0 : Nat} {b c : Nat} {M : MM} {hi : Nat} {W : Nat → Nat → Int32} {a1 : Int32} {a2 : Int32} {r : (Int32 × (Nat → Nat → Int32))} (hf0 : 10 ≤ f0) (hc3 : 620 ≤ c) (h : f_L_routeStation W a1 a2 = some r) : Ex G f0 mL_routeStation [.ref (b), .int a1, .int a2, .ref (b + 619)] (MEM b c W M) hi 2 12 (RP (.inl (some (.int r.1))) (MEM b c r.2 M)) := by
  obtain ⟨f, rfl, hf⟩ := suc_of hf0
  have hc1 : 609 ≤ c := Nat.le_trans (Nat.le_of_ble_eq_true rfl) hc3
  have hc2 : 619 ≤ c := Nat.le_trans (Nat.le_of_ble_eq_true rfl) hc3
  unfold f_L_routeStation at h
  refine ⟨Nat.le_of_ble_eq_true rfl, ?_⟩
  refine V_aload_n (i := 3) dL_routeStation_0 rfl rfl ?_
  refine V_iconst (v := 0) dL_routeStation_1 (by decide) ?_
  refine V_aload_n (i := 0) dL_routeStation_2 rfl rfl ?_
  refine V_iload_n (i := 1) dL_routeStation_3 rfl rfl ?_
  refine V_iload_n (i := 2) dL_routeStation_4 rfl rfl ?_
  refine D_tVI (As := [_, _]) (k2 := 2) (n2 := 12) h dL_routeStation_5 cv_L_59 rfl ⟨_, _, _, (mem_x9 hc1), rfl, rfl⟩ rfl (Nat.le_of_ble_eq_true rfl) (fun x hx => e_X9_routeStation (Nat.le_trans (Nat.le_of_ble_eq_true rfl) hf) hc1 hx) (fun e hi h => ?_) (fun v1 hi h => ?_)
  · refine D_ite h (fun q h => ?_) (fun _ h => ?_)
    · subst q
      refine Or.inr ⟨[], (0, 10, 13, 29), [(0, 10, 17, 41)], "java/lang/IndexOutOfBoundsException", rfl, (fun z hz => by cases hz), by decide, by decide, tw_922, by decide +kernel, fun ex => ?_⟩
      refine V_astore (i := 4) dL_routeStation_13 (Nat.le_of_ble_eq_true rfl) ?_
      refine V_iconst (v := 1) dL_routeStation_15 (by decide) ?_
      obtain rfl := Option.some.inj h
      exact V_ireturn dL_routeStation_16 ⟨_, rfl, rfl⟩ ⟨rfl, rfl⟩
    refine D_ite h (fun q h => ?_) (fun _ h => ?_)
    · subst q
      refine Or.inr ⟨[(0, 10, 13, 29)], (0, 10, 17, 41), [], "java/util/NoSuchElementException", rfl, (fun z hz => by simp only [List.mem_cons, List.not_mem_nil, or_false] at hz; rcases hz with rfl <;> exact Or.inr ⟨by decide, _, tw_922, by decide +kernel⟩), by decide, by decide, tw_964, by decide +kernel, fun ex => ?_⟩
      refine V_astore (i := 4) dL_routeStation_17 (Nat.le_of_ble_eq_true rfl) ?_
      refine V_iconst (v := 2) dL_routeStation_19 (by decide) ?_
      obtain rfl := Option.some.inj h
      exact V_ireturn dL_routeStation_20 ⟨_, rfl, rfl⟩ ⟨rfl, rfl⟩
    cases h
  · refine V_i2l dL_routeStation_8 rfl ?_
    refine D3_lst hc3 h dL_routeStation_9 fun W2 h => ?_
    refine V_goto (tgt := 21) dL_routeStation_10 rfl ?_
    refine V_iconst (v := 0) dL_routeStation_21 (by decide) ?_
    obtain rfl := Option.some.inj h
    exact V_ireturn dL_routeStation_22 ⟨_, rfl, rfl⟩ ⟨rfl, rfl⟩
noncomputable def f_L_save (W : Nat → Nat → Int32) (a1 : Int32) : Option (Int32 × (Nat → Nat → Int32)) :=
  bt2 (f_X9_save W a1) (fun e W3 => if e = "java/lang/IndexOutOfBoundsException" then some ((1 : Int32), W3) else none) (fun v2 W1 => bnd (w2 W1 31 0 v2) (fun W4 => some ((0 : Int32), W4)))
theorem e_L_save {G : GT} {f0 : Nat} {b c : Nat} {M : MM} {hi : Nat} {W : Nat → Nat → Int32} {a1 : Int32} {r : (Int32 × (Nat → Nat → Int32))} (hf0 : 10 ≤ f0) (hc3 : 620 ≤ c) (h : f_L_save W a1 = some r) : Ex G f0 mL_save [.ref (b), .int a1, .ref (b + 619)] (MEM b c W M) hi 1 6 (RP (.inl (some (.int r.1))) (MEM b c r.2 M)) := by
  obtain ⟨f, rfl, hf⟩ := suc_of hf0
  have hc1 : 609 ≤ c := Nat.le_trans (Nat.le_of_ble_eq_true rfl) hc3
  have hc2 : 619 ≤ c := Nat.le_trans (Nat.le_of_ble_eq_true rfl) hc3
  unfold f_L_save at h
  refine ⟨Nat.le_of_ble_eq_true rfl, ?_⟩
  refine V_aload_n (i := 2) dL_save_0 rfl rfl ?_
  refine V_iconst (v := 0) dL_save_1 (by decide) ?_
  refine V_aload_n (i := 0) dL_save_2 rfl rfl ?_
  refine V_iload_n (i := 1) dL_save_3 rfl rfl ?_
  refine D_tVIW (As := [_]) (μ := fun W1 => (MEM b c W1 M)) (k2 := 1) (n2 := 6) h dL_save_4 cv_L_157 rfl ⟨_, _, _, (mem_x9 hc1), rfl, rfl⟩ rfl (Nat.le_of_ble_eq_true rfl) (fun x y hx => e_X9_save (Nat.le_trans (Nat.le_of_ble_eq_true rfl) hf) hc1 hx) (fun e W3 hi h => ?_) (fun v2 W1 hi h => ?_)
  · refine D_ite h (fun q h => ?_) (fun _ h => ?_)
    · subst q
      refine Or.inr ⟨[], (0, 9, 12, 29), [], "java/lang/IndexOutOfBoundsException", rfl, (fun z hz => by cases hz), by decide, by decide, tw_922, by decide +kernel, fun ex => ?_⟩
      refine V_astore_n (i := 3) dL_save_12 rfl (Nat.le_of_ble_eq_true rfl) ?_
      refine V_iconst (v := 1) dL_save_13 (by decide) ?_
      obtain rfl := Option.some.inj h
      exact V_ireturn dL_save_14 ⟨_, rfl, rfl⟩ ⟨rfl, rfl⟩
    cases h
  · refine V_i2l dL_save_7 rfl ?_
    refine D3_lst hc3 h dL_save_8 fun W4 h => ?_
    refine V_goto (tgt := 15) dL_save_9 rfl ?_
    refine V_iconst (v := 0) dL_save_15 (by decide) ?_
    obtain rfl := Option.some.inj h
    exact V_ireturn dL_save_16 ⟨_, rfl, rfl⟩ ⟨rfl, rfl⟩
noncomputable def f_L_setInspection (W : Nat → Nat → Int32) (a1 : Int32) (a2 : Int32) : Option (Int32 × (Nat → Nat → Int32)) :=
  bt2 (f_X9_setInspection W a1 a2) (fun e W3 => if e = "java/lang/IndexOutOfBoundsException" then some ((1 : Int32), W3) else if e = "java/lang/IllegalArgumentException" then some ((2 : Int32), W3) else none) (fun v2 W1 => bnd (w2 W1 31 0 v2) (fun W4 => some ((0 : Int32), W4)))
theorem e_L_setInspection {G : GT} {f0 : Nat} {b c : Nat} {M : MM} {hi : Nat} {W : Nat → Nat → Int32} {a1 : Int32} {a2 : Int32} {r : (Int32 × (Nat → Nat → Int32))} (hf0 : 10 ≤ f0) (hc3 : 620 ≤ c) (h : f_L_setInspection W a1 a2 = some r) : Ex G f0 mL_setInspection [.ref (b), .int a1, .int a2, .ref (b + 619)] (MEM b c W M) hi 2 12 (RP (.inl (some (.int r.1))) (MEM b c r.2 M)) := by
  obtain ⟨f, rfl, hf⟩ := suc_of hf0
  have hc1 : 609 ≤ c := Nat.le_trans (Nat.le_of_ble_eq_true rfl) hc3
  have hc2 : 619 ≤ c := Nat.le_trans (Nat.le_of_ble_eq_true rfl) hc3
  unfold f_L_setInspection at h
  refine ⟨Nat.le_of_ble_eq_true rfl, ?_⟩
  refine V_aload_n (i := 3) dL_setInspection_0 rfl rfl ?_
  refine V_iconst (v := 0) dL_setInspection_1 (by decide) ?_
  refine V_aload_n (i := 0) dL_setInspection_2 rfl rfl ?_
  refine V_iload_n (i := 1) dL_setInspection_3 rfl rfl ?_
  refine V_iload_n (i := 2) dL_setInspection_4 rfl rfl ?_
  refine D_tVIW (As := [_, _]) (μ := fun W1 => (MEM b c W1 M)) (k2 := 2) (n2 := 12) h dL_setInspection_5 cv_L_148 rfl ⟨_, _, _, (mem_x9 hc1), rfl, rfl⟩ rfl (Nat.le_of_ble_eq_true rfl) (fun x y hx => e_X9_setInspection (Nat.le_trans (Nat.le_of_ble_eq_true rfl) hf) hc1 hx) (fun e W3 hi h => ?_) (fun v2 W1 hi h => ?_)
  · refine D_ite h (fun q h => ?_) (fun _ h => ?_)
    · subst q
      refine Or.inr ⟨[], (0, 10, 13, 29), [(0, 10, 17, 19)], "java/lang/IndexOutOfBoundsException", rfl, (fun z hz => by cases hz), by decide, by decide, tw_922, by decide +kernel, fun ex => ?_⟩
      refine V_astore (i := 4) dL_setInspection_13 (Nat.le_of_ble_eq_true rfl) ?_
      refine V_iconst (v := 1) dL_setInspection_15 (by decide) ?_
      obtain rfl := Option.some.inj h
      exact V_ireturn dL_setInspection_16 ⟨_, rfl, rfl⟩ ⟨rfl, rfl⟩
    refine D_ite h (fun q h => ?_) (fun _ h => ?_)
    · subst q
      refine Or.inr ⟨[(0, 10, 13, 29)], (0, 10, 17, 19), [], "java/lang/IllegalArgumentException", rfl, (fun z hz => by simp only [List.mem_cons, List.not_mem_nil, or_false] at hz; rcases hz with rfl <;> exact Or.inr ⟨by decide, _, tw_922, by decide +kernel⟩), by decide, by decide, tw_885, by decide +kernel, fun ex => ?_⟩
      refine V_astore (i := 4) dL_setInspection_17 (Nat.le_of_ble_eq_true rfl) ?_
      refine V_iconst (v := 2) dL_setInspection_19 (by decide) ?_
      obtain rfl := Option.some.inj h
      exact V_ireturn dL_setInspection_20 ⟨_, rfl, rfl⟩ ⟨rfl, rfl⟩
    cases h
  · refine V_i2l dL_setInspection_8 rfl ?_
    refine D3_lst hc3 h dL_setInspection_9 fun W4 h => ?_
    refine V_goto (tgt := 21) dL_setInspection_10 rfl ?_
    refine V_iconst (v := 0) dL_setInspection_21 (by decide) ?_
    obtain rfl := Option.some.inj h
    exact V_ireturn dL_setInspection_22 ⟨_, rfl, rfl⟩ ⟨rfl, rfl⟩
noncomputable def f_L_setPriority (W : Nat → Nat → Int32) (a1 : Int32) (a2 : Int32) : Option (Int32 × (Nat → Nat → Int32)) :=
  bt2 (f_X9_setPriority W a1 a2) (fun e W3 => if e = "java/lang/IndexOutOfBoundsException" then some ((1 : Int32), W3) else if e = "java/lang/IllegalArgumentException" then some ((2 : Int32), W3) else none) (fun v2 W1 => bnd (w2 W1 31 0 v2) (fun W4 => some ((0 : Int32), W4)))
theorem e_L_setPriority {G : GT} {f0 : Nat} {b c : Nat} {M : MM} {hi : Nat} {W : Nat → Nat → Int32} {a1 : Int32} {a2 : Int32} {r : (Int32 × (Nat → Nat → Int32))} (hf0 : 10 ≤ f0) (hc3 : 620 ≤ c) (h : f_L_setPriority W a1 a2 = some r) : Ex G f0 mL_setPriority [.ref (b), .int a1, .int a2, .ref (b + 619)] (MEM b c W M) hi 2 12 (RP (.inl (some (.int r.1))) (MEM b c r.2 M)) := by
  obtain ⟨f, rfl, hf⟩ := suc_of hf0
  have hc1 : 609 ≤ c := Nat.le_trans (Nat.le_of_ble_eq_true rfl) hc3
  have hc2 : 619 ≤ c := Nat.le_trans (Nat.le_of_ble_eq_true rfl) hc3
  unfold f_L_setPriority at h
  refine ⟨Nat.le_of_ble_eq_true rfl, ?_⟩
  refine V_aload_n (i := 3) dL_setPriority_0 rfl rfl ?_
  refine V_iconst (v := 0) dL_setPriority_1 (by decide) ?_
  refine V_aload_n (i := 0) dL_setPriority_2 rfl rfl ?_
  refine V_iload_n (i := 1) dL_setPriority_3 rfl rfl ?_
  refine V_iload_n (i := 2) dL_setPriority_4 rfl rfl ?_
  refine D_tVIW (As := [_, _]) (μ := fun W1 => (MEM b c W1 M)) (k2 := 2) (n2 := 12) h dL_setPriority_5 cv_L_145 rfl ⟨_, _, _, (mem_x9 hc1), rfl, rfl⟩ rfl (Nat.le_of_ble_eq_true rfl) (fun x y hx => e_X9_setPriority (Nat.le_trans (Nat.le_of_ble_eq_true rfl) hf) hc1 hx) (fun e W3 hi h => ?_) (fun v2 W1 hi h => ?_)
  · refine D_ite h (fun q h => ?_) (fun _ h => ?_)
    · subst q
      refine Or.inr ⟨[], (0, 10, 13, 29), [(0, 10, 17, 19)], "java/lang/IndexOutOfBoundsException", rfl, (fun z hz => by cases hz), by decide, by decide, tw_922, by decide +kernel, fun ex => ?_⟩
      refine V_astore (i := 4) dL_setPriority_13 (Nat.le_of_ble_eq_true rfl) ?_
      refine V_iconst (v := 1) dL_setPriority_15 (by decide) ?_
      obtain rfl := Option.some.inj h
      exact V_ireturn dL_setPriority_16 ⟨_, rfl, rfl⟩ ⟨rfl, rfl⟩
    refine D_ite h (fun q h => ?_) (fun _ h => ?_)
    · subst q
      refine Or.inr ⟨[(0, 10, 13, 29)], (0, 10, 17, 19), [], "java/lang/IllegalArgumentException", rfl, (fun z hz => by simp only [List.mem_cons, List.not_mem_nil, or_false] at hz; rcases hz with rfl <;> exact Or.inr ⟨by decide, _, tw_922, by decide +kernel⟩), by decide, by decide, tw_885, by decide +kernel, fun ex => ?_⟩
      refine V_astore (i := 4) dL_setPriority_17 (Nat.le_of_ble_eq_true rfl) ?_
      refine V_iconst (v := 2) dL_setPriority_19 (by decide) ?_
      obtain rfl := Option.some.inj h
      exact V_ireturn dL_setPriority_20 ⟨_, rfl, rfl⟩ ⟨rfl, rfl⟩
    cases h
  · refine V_i2l dL_setPriority_8 rfl ?_
    refine D3_lst hc3 h dL_setPriority_9 fun W4 h => ?_
    refine V_goto (tgt := 21) dL_setPriority_10 rfl ?_
    refine V_iconst (v := 0) dL_setPriority_21 (by decide) ?_
    obtain rfl := Option.some.inj h
    exact V_ireturn dL_setPriority_22 ⟨_, rfl, rfl⟩ ⟨rfl, rfl⟩
noncomputable def f_L_setTrackOpen (W : Nat → Nat → Int32) (a1 : Int32) (a2 : Int32) (a3 : Int32) : Option (Int32 × (Nat → Nat → Int32)) :=
  bt2 (f_X9_setTrackOpen W a1 a2 a3) (fun e W3 => if e = "java/lang/IndexOutOfBoundsException" then some ((1 : Int32), W3) else if e = "java/lang/IllegalArgumentException" then some ((2 : Int32), W3) else none) (fun v2 W1 => if v2 = 0 then bnd (w2 W1 31 0 (0 : Int32)) (fun W5 => some ((0 : Int32), W5)) else bnd (w2 W1 31 0 (1 : Int32)) (fun W6 => some ((0 : Int32), W6)))
theorem e_L_setTrackOpen {G : GT} {f0 : Nat} {b c : Nat} {M : MM} {hi : Nat} {W : Nat → Nat → Int32} {a1 : Int32} {a2 : Int32} {a3 : Int32} {r : (Int32 × (Nat → Nat → Int32))} (hf0 : 10 ≤ f0) (hc3 : 620 ≤ c) (h : f_L_setTrackOpen W a1 a2 a3 = some r) : Ex G f0 mL_setTrackOpen [.ref (b), .int a1, .int a2, .int a3, .ref (b + 619)] (MEM b c W M) hi 3 18 (RP (.inl (some (.int r.1))) (MEM b c r.2 M)) := by
  obtain ⟨f, rfl, hf⟩ := suc_of hf0
  have hc1 : 609 ≤ c := Nat.le_trans (Nat.le_of_ble_eq_true rfl) hc3
  have hc2 : 619 ≤ c := Nat.le_trans (Nat.le_of_ble_eq_true rfl) hc3
  unfold f_L_setTrackOpen at h
  refine ⟨Nat.le_of_ble_eq_true rfl, ?_⟩
  refine V_aload (i := 4) dL_setTrackOpen_0 rfl ?_
  refine V_iconst (v := 0) dL_setTrackOpen_2 (by decide) ?_
  refine V_aload_n (i := 0) dL_setTrackOpen_3 rfl rfl ?_
  refine V_iload_n (i := 1) dL_setTrackOpen_4 rfl rfl ?_
  refine V_iload_n (i := 2) dL_setTrackOpen_5 rfl rfl ?_
  refine V_iload_n (i := 3) dL_setTrackOpen_6 rfl rfl ?_
  refine D_tVIW (As := [_, _, _]) (μ := fun W1 => (MEM b c W1 M)) (k2 := 3) (n2 := 18) h dL_setTrackOpen_7 cv_L_141 rfl ⟨_, _, _, (mem_x9 hc1), rfl, rfl⟩ rfl (Nat.le_of_ble_eq_true rfl) (fun x y hx => e_X9_setTrackOpen (Nat.le_trans (Nat.le_of_ble_eq_true rfl) hf) hc1 hx) (fun e W3 hi h => ?_) (fun v2 W1 hi h => ?_)
  · refine D_ite h (fun q h => ?_) (fun _ h => ?_)
    · subst q
      refine Or.inr ⟨[], (0, 19, 22, 29), [(0, 19, 26, 19)], "java/lang/IndexOutOfBoundsException", rfl, (fun z hz => by cases hz), by decide, by decide, tw_922, by decide +kernel, fun ex => ?_⟩
      refine V_astore (i := 5) dL_setTrackOpen_22 (Nat.le_of_ble_eq_true rfl) ?_
      refine V_iconst (v := 1) dL_setTrackOpen_24 (by decide) ?_
      obtain rfl := Option.some.inj h
      exact V_ireturn dL_setTrackOpen_25 ⟨_, rfl, rfl⟩ ⟨rfl, rfl⟩
    refine D_ite h (fun q h => ?_) (fun _ h => ?_)
    · subst q
      refine Or.inr ⟨[(0, 19, 22, 29)], (0, 19, 26, 19), [], "java/lang/IllegalArgumentException", rfl, (fun z hz => by simp only [List.mem_cons, List.not_mem_nil, or_false] at hz; rcases hz with rfl <;> exact Or.inr ⟨by decide, _, tw_922, by decide +kernel⟩), by decide, by decide, tw_885, by decide +kernel, fun ex => ?_⟩
      refine V_astore (i := 5) dL_setTrackOpen_26 (Nat.le_of_ble_eq_true rfl) ?_
      refine V_iconst (v := 2) dL_setTrackOpen_28 (by decide) ?_
      obtain rfl := Option.some.inj h
      exact V_ireturn dL_setTrackOpen_29 ⟨_, rfl, rfl⟩ ⟨rfl, rfl⟩
    cases h
  · refine D_if_eq (tgt := 17) h dL_setTrackOpen_10 rfl (fun b4 h => ?_) (fun b4 h => ?_)
    · refine V_lconst (v := (0 : Int32).toInt64) dL_setTrackOpen_17 (by decide) ?_
      refine D3_lst hc3 h dL_setTrackOpen_18 fun W5 h => ?_
      refine V_goto (tgt := 30) dL_setTrackOpen_19 rfl ?_
      refine V_iconst (v := 0) dL_setTrackOpen_30 (by decide) ?_
      obtain rfl := Option.some.inj h
      exact V_ireturn dL_setTrackOpen_31 ⟨_, rfl, rfl⟩ ⟨rfl, rfl⟩
    · refine V_lconst (v := (1 : Int32).toInt64) dL_setTrackOpen_13 (by decide) ?_
      refine V_goto (tgt := 18) dL_setTrackOpen_14 rfl ?_
      refine D3_lst hc3 h dL_setTrackOpen_18 fun W6 h => ?_
      refine V_goto (tgt := 30) dL_setTrackOpen_19 rfl ?_
      refine V_iconst (v := 0) dL_setTrackOpen_30 (by decide) ?_
      obtain rfl := Option.some.inj h
      exact V_ireturn dL_setTrackOpen_31 ⟨_, rfl, rfl⟩ ⟨rfl, rfl⟩
noncomputable def f_L_stopsMade (W : Nat → Nat → Int32) (a1 : Int32) : Option (Int32 × (Nat → Nat → Int32)) :=
  bdt (f_X9_stopsMade W a1) (fun e => if e = "java/lang/IndexOutOfBoundsException" then some ((1 : Int32), W) else none) (fun v1 => bnd (w2 W 31 0 v1) (fun W2 => some ((0 : Int32), W2)))
theorem e_L_stopsMade {G : GT} {f0 : Nat} {b c : Nat} {M : MM} {hi : Nat} {W : Nat → Nat → Int32} {a1 : Int32} {r : (Int32 × (Nat → Nat → Int32))} (hf0 : 10 ≤ f0) (hc3 : 620 ≤ c) (h : f_L_stopsMade W a1 = some r) : Ex G f0 mL_stopsMade [.ref (b), .int a1, .ref (b + 619)] (MEM b c W M) hi 1 6 (RP (.inl (some (.int r.1))) (MEM b c r.2 M)) := by
  obtain ⟨f, rfl, hf⟩ := suc_of hf0
  have hc1 : 609 ≤ c := Nat.le_trans (Nat.le_of_ble_eq_true rfl) hc3
  have hc2 : 619 ≤ c := Nat.le_trans (Nat.le_of_ble_eq_true rfl) hc3
  unfold f_L_stopsMade at h
  refine ⟨Nat.le_of_ble_eq_true rfl, ?_⟩
  refine V_aload_n (i := 2) dL_stopsMade_0 rfl rfl ?_
  refine V_iconst (v := 0) dL_stopsMade_1 (by decide) ?_
  refine V_aload_n (i := 0) dL_stopsMade_2 rfl rfl ?_
  refine V_iload_n (i := 1) dL_stopsMade_3 rfl rfl ?_
  refine D_tVI (As := [_]) (k2 := 1) (n2 := 6) h dL_stopsMade_4 cv_L_83 rfl ⟨_, _, _, (mem_x9 hc1), rfl, rfl⟩ rfl (Nat.le_of_ble_eq_true rfl) (fun x hx => e_X9_stopsMade (Nat.le_trans (Nat.le_of_ble_eq_true rfl) hf) hc1 hx) (fun e hi h => ?_) (fun v1 hi h => ?_)
  · refine D_ite h (fun q h => ?_) (fun _ h => ?_)
    · subst q
      refine Or.inr ⟨[], (0, 9, 12, 29), [], "java/lang/IndexOutOfBoundsException", rfl, (fun z hz => by cases hz), by decide, by decide, tw_922, by decide +kernel, fun ex => ?_⟩
      refine V_astore_n (i := 3) dL_stopsMade_12 rfl (Nat.le_of_ble_eq_true rfl) ?_
      refine V_iconst (v := 1) dL_stopsMade_13 (by decide) ?_
      obtain rfl := Option.some.inj h
      exact V_ireturn dL_stopsMade_14 ⟨_, rfl, rfl⟩ ⟨rfl, rfl⟩
    cases h
  · refine V_i2l dL_stopsMade_7 rfl ?_
    refine D3_lst hc3 h dL_stopsMade_8 fun W2 h => ?_
    refine V_goto (tgt := 15) dL_stopsMade_9 rfl ?_
    refine V_iconst (v := 0) dL_stopsMade_15 (by decide) ?_
    obtain rfl := Option.some.inj h
    exact V_ireturn dL_stopsMade_16 ⟨_, rfl, rfl⟩ ⟨rfl, rfl⟩
noncomputable def f_L_stopsPassed (W : Nat → Nat → Int32) (a1 : Int32) : Option (Int32 × (Nat → Nat → Int32)) :=
  bdt (f_X9_stopsPassed W a1) (fun e => if e = "java/lang/IndexOutOfBoundsException" then some ((1 : Int32), W) else none) (fun v1 => bnd (w2 W 31 0 v1) (fun W2 => some ((0 : Int32), W2)))
theorem e_L_stopsPassed {G : GT} {f0 : Nat} {b c : Nat} {M : MM} {hi : Nat} {W : Nat → Nat → Int32} {a1 : Int32} {r : (Int32 × (Nat → Nat → Int32))} (hf0 : 10 ≤ f0) (hc3 : 620 ≤ c) (h : f_L_stopsPassed W a1 = some r) : Ex G f0 mL_stopsPassed [.ref (b), .int a1, .ref (b + 619)] (MEM b c W M) hi 1 6 (RP (.inl (some (.int r.1))) (MEM b c r.2 M)) := by
  obtain ⟨f, rfl, hf⟩ := suc_of hf0
  have hc1 : 609 ≤ c := Nat.le_trans (Nat.le_of_ble_eq_true rfl) hc3
  have hc2 : 619 ≤ c := Nat.le_trans (Nat.le_of_ble_eq_true rfl) hc3
  unfold f_L_stopsPassed at h
  refine ⟨Nat.le_of_ble_eq_true rfl, ?_⟩
  refine V_aload_n (i := 2) dL_stopsPassed_0 rfl rfl ?_
  refine V_iconst (v := 0) dL_stopsPassed_1 (by decide) ?_
  refine V_aload_n (i := 0) dL_stopsPassed_2 rfl rfl ?_
  refine V_iload_n (i := 1) dL_stopsPassed_3 rfl rfl ?_
  refine D_tVI (As := [_]) (k2 := 1) (n2 := 6) h dL_stopsPassed_4 cv_L_86 rfl ⟨_, _, _, (mem_x9 hc1), rfl, rfl⟩ rfl (Nat.le_of_ble_eq_true rfl) (fun x hx => e_X9_stopsPassed (Nat.le_trans (Nat.le_of_ble_eq_true rfl) hf) hc1 hx) (fun e hi h => ?_) (fun v1 hi h => ?_)
  · refine D_ite h (fun q h => ?_) (fun _ h => ?_)
    · subst q
      refine Or.inr ⟨[], (0, 9, 12, 29), [], "java/lang/IndexOutOfBoundsException", rfl, (fun z hz => by cases hz), by decide, by decide, tw_922, by decide +kernel, fun ex => ?_⟩
      refine V_astore_n (i := 3) dL_stopsPassed_12 rfl (Nat.le_of_ble_eq_true rfl) ?_
      refine V_iconst (v := 1) dL_stopsPassed_13 (by decide) ?_
      obtain rfl := Option.some.inj h
      exact V_ireturn dL_stopsPassed_14 ⟨_, rfl, rfl⟩ ⟨rfl, rfl⟩
    cases h
  · refine V_i2l dL_stopsPassed_7 rfl ?_
    refine D3_lst hc3 h dL_stopsPassed_8 fun W2 h => ?_
    refine V_goto (tgt := 15) dL_stopsPassed_9 rfl ?_
    refine V_iconst (v := 0) dL_stopsPassed_15 (by decide) ?_
    obtain rfl := Option.some.inj h
    exact V_ireturn dL_stopsPassed_16 ⟨_, rfl, rfl⟩ ⟨rfl, rfl⟩
noncomputable def f_L_trainStation (W : Nat → Nat → Int32) (a1 : Int32) : Option (Int32 × (Nat → Nat → Int32)) :=
  bdt (f_X9_trainStation W a1) (fun e => if e = "java/lang/IndexOutOfBoundsException" then some ((1 : Int32), W) else none) (fun v1 => bnd (w2 W 31 0 v1) (fun W2 => some ((0 : Int32), W2)))
theorem e_L_trainStation {G : GT} {f0 : Nat} {b c : Nat} {M : MM} {hi : Nat} {W : Nat → Nat → Int32} {a1 : Int32} {r : (Int32 × (Nat → Nat → Int32))} (hf0 : 10 ≤ f0) (hc3 : 620 ≤ c) (h : f_L_trainStation W a1 = some r) : Ex G f0 mL_trainStation [.ref (b), .int a1, .ref (b + 619)] (MEM b c W M) hi 1 6 (RP (.inl (some (.int r.1))) (MEM b c r.2 M)) := by
  obtain ⟨f, rfl, hf⟩ := suc_of hf0
  have hc1 : 609 ≤ c := Nat.le_trans (Nat.le_of_ble_eq_true rfl) hc3
  have hc2 : 619 ≤ c := Nat.le_trans (Nat.le_of_ble_eq_true rfl) hc3
  unfold f_L_trainStation at h
  refine ⟨Nat.le_of_ble_eq_true rfl, ?_⟩
  refine V_aload_n (i := 2) dL_trainStation_0 rfl rfl ?_
  refine V_iconst (v := 0) dL_trainStation_1 (by decide) ?_
  refine V_aload_n (i := 0) dL_trainStation_2 rfl rfl ?_
  refine V_iload_n (i := 1) dL_trainStation_3 rfl rfl ?_
  refine D_tVI (As := [_]) (k2 := 1) (n2 := 6) h dL_trainStation_4 cv_L_68 rfl ⟨_, _, _, (mem_x9 hc1), rfl, rfl⟩ rfl (Nat.le_of_ble_eq_true rfl) (fun x hx => e_X9_trainStation (Nat.le_trans (Nat.le_of_ble_eq_true rfl) hf) hc1 hx) (fun e hi h => ?_) (fun v1 hi h => ?_)
  · refine D_ite h (fun q h => ?_) (fun _ h => ?_)
    · subst q
      refine Or.inr ⟨[], (0, 9, 12, 29), [], "java/lang/IndexOutOfBoundsException", rfl, (fun z hz => by cases hz), by decide, by decide, tw_922, by decide +kernel, fun ex => ?_⟩
      refine V_astore_n (i := 3) dL_trainStation_12 rfl (Nat.le_of_ble_eq_true rfl) ?_
      refine V_iconst (v := 1) dL_trainStation_13 (by decide) ?_
      obtain rfl := Option.some.inj h
      exact V_ireturn dL_trainStation_14 ⟨_, rfl, rfl⟩ ⟨rfl, rfl⟩
    cases h
  · refine V_i2l dL_trainStation_7 rfl ?_
    refine D3_lst hc3 h dL_trainStation_8 fun W2 h => ?_
    refine V_goto (tgt := 15) dL_trainStation_9 rfl ?_
    refine V_iconst (v := 0) dL_trainStation_15 (by decide) ?_
    obtain rfl := Option.some.inj h
    exact V_ireturn dL_trainStation_16 ⟨_, rfl, rfl⟩ ⟨rfl, rfl⟩
noncomputable def f_L_trainStationAfter (W : Nat → Nat → Int32) (a1 : Int32) (a2 : Int32) : Option (Int32 × (Nat → Nat → Int32)) :=
  bt2 (f_X9_trainStationAfter W a1 a2) (fun e W3 => if e = "java/lang/IndexOutOfBoundsException" then some ((1 : Int32), W3) else if e = "java/lang/IllegalArgumentException" then some ((2 : Int32), W3) else none) (fun v2 W1 => bnd (w2 W1 31 0 v2) (fun W4 => some ((0 : Int32), W4)))
theorem e_L_trainStationAfter {G : GT} {f0 : Nat} {b c : Nat} {M : MM} {hi : Nat} {W : Nat → Nat → Int32} {a1 : Int32} {a2 : Int32} {r : (Int32 × (Nat → Nat → Int32))} (hf0 : 10 ≤ f0) (hc3 : 620 ≤ c) (h : f_L_trainStationAfter W a1 a2 = some r) : Ex G f0 mL_trainStationAfter [.ref (b), .int a1, .int a2, .ref (b + 619)] (MEM b c W M) hi 2 12 (RP (.inl (some (.int r.1))) (MEM b c r.2 M)) := by
  obtain ⟨f, rfl, hf⟩ := suc_of hf0
  have hc1 : 609 ≤ c := Nat.le_trans (Nat.le_of_ble_eq_true rfl) hc3
  have hc2 : 619 ≤ c := Nat.le_trans (Nat.le_of_ble_eq_true rfl) hc3
  unfold f_L_trainStationAfter at h
  refine ⟨Nat.le_of_ble_eq_true rfl, ?_⟩
  refine V_aload_n (i := 3) dL_trainStationAfter_0 rfl rfl ?_
  refine V_iconst (v := 0) dL_trainStationAfter_1 (by decide) ?_
  refine V_aload_n (i := 0) dL_trainStationAfter_2 rfl rfl ?_
  refine V_iload_n (i := 1) dL_trainStationAfter_3 rfl rfl ?_
  refine V_iload_n (i := 2) dL_trainStationAfter_4 rfl rfl ?_
  refine D_tVIW (As := [_, _]) (μ := fun W1 => (MEM b c W1 M)) (k2 := 2) (n2 := 12) h dL_trainStationAfter_5 cv_L_125 rfl ⟨_, _, _, (mem_x9 hc1), rfl, rfl⟩ rfl (Nat.le_of_ble_eq_true rfl) (fun x y hx => e_X9_trainStationAfter (Nat.le_trans (Nat.le_of_ble_eq_true rfl) hf) hc1 hx) (fun e W3 hi h => ?_) (fun v2 W1 hi h => ?_)
  · refine D_ite h (fun q h => ?_) (fun _ h => ?_)
    · subst q
      refine Or.inr ⟨[], (0, 10, 13, 29), [(0, 10, 17, 19)], "java/lang/IndexOutOfBoundsException", rfl, (fun z hz => by cases hz), by decide, by decide, tw_922, by decide +kernel, fun ex => ?_⟩
      refine V_astore (i := 4) dL_trainStationAfter_13 (Nat.le_of_ble_eq_true rfl) ?_
      refine V_iconst (v := 1) dL_trainStationAfter_15 (by decide) ?_
      obtain rfl := Option.some.inj h
      exact V_ireturn dL_trainStationAfter_16 ⟨_, rfl, rfl⟩ ⟨rfl, rfl⟩
    refine D_ite h (fun q h => ?_) (fun _ h => ?_)
    · subst q
      refine Or.inr ⟨[(0, 10, 13, 29)], (0, 10, 17, 19), [], "java/lang/IllegalArgumentException", rfl, (fun z hz => by simp only [List.mem_cons, List.not_mem_nil, or_false] at hz; rcases hz with rfl <;> exact Or.inr ⟨by decide, _, tw_922, by decide +kernel⟩), by decide, by decide, tw_885, by decide +kernel, fun ex => ?_⟩
      refine V_astore (i := 4) dL_trainStationAfter_17 (Nat.le_of_ble_eq_true rfl) ?_
      refine V_iconst (v := 2) dL_trainStationAfter_19 (by decide) ?_
      obtain rfl := Option.some.inj h
      exact V_ireturn dL_trainStationAfter_20 ⟨_, rfl, rfl⟩ ⟨rfl, rfl⟩
    cases h
  · refine V_i2l dL_trainStationAfter_8 rfl ?_
    refine D3_lst hc3 h dL_trainStationAfter_9 fun W4 h => ?_
    refine V_goto (tgt := 21) dL_trainStationAfter_10 rfl ?_
    refine V_iconst (v := 0) dL_trainStationAfter_21 (by decide) ?_
    obtain rfl := Option.some.inj h
    exact V_ireturn dL_trainStationAfter_22 ⟨_, rfl, rfl⟩ ⟨rfl, rfl⟩
noncomputable def f_L_transfers (W : Nat → Nat → Int32) (a1 : Int32) : Option (Int32 × (Nat → Nat → Int32)) :=
  bdt (f_X9_transfers W a1) (fun e => if e = "java/lang/IndexOutOfBoundsException" then some ((1 : Int32), W) else none) (fun v1 => bnd (w2 W 31 0 v1) (fun W2 => some ((0 : Int32), W2)))
theorem e_L_transfers {G : GT} {f0 : Nat} {b c : Nat} {M : MM} {hi : Nat} {W : Nat → Nat → Int32} {a1 : Int32} {r : (Int32 × (Nat → Nat → Int32))} (hf0 : 10 ≤ f0) (hc3 : 620 ≤ c) (h : f_L_transfers W a1 = some r) : Ex G f0 mL_transfers [.ref (b), .int a1, .ref (b + 619)] (MEM b c W M) hi 1 6 (RP (.inl (some (.int r.1))) (MEM b c r.2 M)) := by
  obtain ⟨f, rfl, hf⟩ := suc_of hf0
  have hc1 : 609 ≤ c := Nat.le_trans (Nat.le_of_ble_eq_true rfl) hc3
  have hc2 : 619 ≤ c := Nat.le_trans (Nat.le_of_ble_eq_true rfl) hc3
  unfold f_L_transfers at h
  refine ⟨Nat.le_of_ble_eq_true rfl, ?_⟩
  refine V_aload_n (i := 2) dL_transfers_0 rfl rfl ?_
  refine V_iconst (v := 0) dL_transfers_1 (by decide) ?_
  refine V_aload_n (i := 0) dL_transfers_2 rfl rfl ?_
  refine V_iload_n (i := 1) dL_transfers_3 rfl rfl ?_
  refine D_tVI (As := [_]) (k2 := 1) (n2 := 6) h dL_transfers_4 cv_L_107 rfl ⟨_, _, _, (mem_x9 hc1), rfl, rfl⟩ rfl (Nat.le_of_ble_eq_true rfl) (fun x hx => e_X9_transfers (Nat.le_trans (Nat.le_of_ble_eq_true rfl) hf) hc1 hx) (fun e hi h => ?_) (fun v1 hi h => ?_)
  · refine D_ite h (fun q h => ?_) (fun _ h => ?_)
    · subst q
      refine Or.inr ⟨[], (0, 9, 12, 29), [], "java/lang/IndexOutOfBoundsException", rfl, (fun z hz => by cases hz), by decide, by decide, tw_922, by decide +kernel, fun ex => ?_⟩
      refine V_astore_n (i := 3) dL_transfers_12 rfl (Nat.le_of_ble_eq_true rfl) ?_
      refine V_iconst (v := 1) dL_transfers_13 (by decide) ?_
      obtain rfl := Option.some.inj h
      exact V_ireturn dL_transfers_14 ⟨_, rfl, rfl⟩ ⟨rfl, rfl⟩
    cases h
  · refine V_i2l dL_transfers_7 rfl ?_
    refine D3_lst hc3 h dL_transfers_8 fun W2 h => ?_
    refine V_goto (tgt := 15) dL_transfers_9 rfl ?_
    refine V_iconst (v := 0) dL_transfers_15 (by decide) ?_
    obtain rfl := Option.some.inj h
    exact V_ireturn dL_transfers_16 ⟨_, rfl, rfl⟩ ⟨rfl, rfl⟩
noncomputable def f_L_travelTime (W : Nat → Nat → Int32) (a1 : Int32) (a2 : Int32) : Option (Int32 × (Nat → Nat → Int32)) :=
  bdt (f_X9_travelTime W a1 a2) (fun e => if e = "java/lang/IndexOutOfBoundsException" then some ((1 : Int32), W) else none) (fun v1 => bnd (w2 W 31 0 v1) (fun W2 => some ((0 : Int32), W2)))
theorem e_L_travelTime {G : GT} {f0 : Nat} {b c : Nat} {M : MM} {hi : Nat} {W : Nat → Nat → Int32} {a1 : Int32} {a2 : Int32} {r : (Int32 × (Nat → Nat → Int32))} (hf0 : 10 ≤ f0) (hc3 : 620 ≤ c) (h : f_L_travelTime W a1 a2 = some r) : Ex G f0 mL_travelTime [.ref (b), .int a1, .int a2, .ref (b + 619)] (MEM b c W M) hi 2 12 (RP (.inl (some (.int r.1))) (MEM b c r.2 M)) := by
  obtain ⟨f, rfl, hf⟩ := suc_of hf0
  have hc1 : 609 ≤ c := Nat.le_trans (Nat.le_of_ble_eq_true rfl) hc3
  have hc2 : 619 ≤ c := Nat.le_trans (Nat.le_of_ble_eq_true rfl) hc3
  unfold f_L_travelTime at h
  refine ⟨Nat.le_of_ble_eq_true rfl, ?_⟩
  refine V_aload_n (i := 3) dL_travelTime_0 rfl rfl ?_
  refine V_iconst (v := 0) dL_travelTime_1 (by decide) ?_
  refine V_aload_n (i := 0) dL_travelTime_2 rfl rfl ?_
  refine V_iload_n (i := 1) dL_travelTime_3 rfl rfl ?_
  refine V_iload_n (i := 2) dL_travelTime_4 rfl rfl ?_
  refine D_tVI (As := [_, _]) (k2 := 2) (n2 := 12) h dL_travelTime_5 cv_L_43 rfl ⟨_, _, _, (mem_x9 hc1), rfl, rfl⟩ rfl (Nat.le_of_ble_eq_true rfl) (fun x hx => e_X9_travelTime (Nat.le_trans (Nat.le_of_ble_eq_true rfl) hf) hc1 hx) (fun e hi h => ?_) (fun v1 hi h => ?_)
  · refine D_ite h (fun q h => ?_) (fun _ h => ?_)
    · subst q
      refine Or.inr ⟨[], (0, 10, 13, 29), [], "java/lang/IndexOutOfBoundsException", rfl, (fun z hz => by cases hz), by decide, by decide, tw_922, by decide +kernel, fun ex => ?_⟩
      refine V_astore (i := 4) dL_travelTime_13 (Nat.le_of_ble_eq_true rfl) ?_
      refine V_iconst (v := 1) dL_travelTime_15 (by decide) ?_
      obtain rfl := Option.some.inj h
      exact V_ireturn dL_travelTime_16 ⟨_, rfl, rfl⟩ ⟨rfl, rfl⟩
    cases h
  · refine V_i2l dL_travelTime_8 rfl ?_
    refine D3_lst hc3 h dL_travelTime_9 fun W2 h => ?_
    refine V_goto (tgt := 17) dL_travelTime_10 rfl ?_
    refine V_iconst (v := 0) dL_travelTime_17 (by decide) ?_
    obtain rfl := Option.some.inj h
    exact V_ireturn dL_travelTime_18 ⟨_, rfl, rfl⟩ ⟨rfl, rfl⟩
noncomputable def f_L_truncateInput (W : Nat → Nat → Int32) (a1 : Int32) : Option (Int32 × (Nat → Nat → Int32)) :=
  bt2 (f_X9_truncateInput W a1) (fun e W3 => if e = "java/lang/IllegalArgumentException" then some ((1 : Int32), W3) else none) (fun v2 W1 => bnd (w2 W1 31 0 v2) (fun W4 => some ((0 : Int32), W4)))
theorem e_L_truncateInput {G : GT} {f0 : Nat} {b c : Nat} {M : MM} {hi : Nat} {W : Nat → Nat → Int32} {a1 : Int32} {r : (Int32 × (Nat → Nat → Int32))} (hf0 : 9 ≤ f0) (hc3 : 620 ≤ c) (h : f_L_truncateInput W a1 = some r) : Ex G f0 mL_truncateInput [.ref (b), .int a1, .ref (b + 619)] (MEM b c W M) hi 1 6 (RP (.inl (some (.int r.1))) (MEM b c r.2 M)) := by
  obtain ⟨f, rfl, hf⟩ := suc_of hf0
  have hc1 : 609 ≤ c := Nat.le_trans (Nat.le_of_ble_eq_true rfl) hc3
  have hc2 : 619 ≤ c := Nat.le_trans (Nat.le_of_ble_eq_true rfl) hc3
  unfold f_L_truncateInput at h
  refine ⟨Nat.le_of_ble_eq_true rfl, ?_⟩
  refine V_aload_n (i := 2) dL_truncateInput_0 rfl rfl ?_
  refine V_iconst (v := 0) dL_truncateInput_1 (by decide) ?_
  refine V_aload_n (i := 0) dL_truncateInput_2 rfl rfl ?_
  refine V_iload_n (i := 1) dL_truncateInput_3 rfl rfl ?_
  refine D_tVIW (As := [_]) (μ := fun W1 => (MEM b c W1 M)) (k2 := 1) (n2 := 6) h dL_truncateInput_4 cv_L_15 rfl ⟨_, _, _, (mem_x9 hc1), rfl, rfl⟩ rfl (Nat.le_of_ble_eq_true rfl) (fun x y hx => e_X9_truncateInput (Nat.le_trans (Nat.le_of_ble_eq_true rfl) hf) hc1 hx) (fun e W3 hi h => ?_) (fun v2 W1 hi h => ?_)
  · refine D_ite h (fun q h => ?_) (fun _ h => ?_)
    · subst q
      refine Or.inr ⟨[], (0, 9, 12, 19), [], "java/lang/IllegalArgumentException", rfl, (fun z hz => by cases hz), by decide, by decide, tw_885, by decide +kernel, fun ex => ?_⟩
      refine V_astore_n (i := 3) dL_truncateInput_12 rfl (Nat.le_of_ble_eq_true rfl) ?_
      refine V_iconst (v := 1) dL_truncateInput_13 (by decide) ?_
      obtain rfl := Option.some.inj h
      exact V_ireturn dL_truncateInput_14 ⟨_, rfl, rfl⟩ ⟨rfl, rfl⟩
    cases h
  · refine V_i2l dL_truncateInput_7 rfl ?_
    refine D3_lst hc3 h dL_truncateInput_8 fun W4 h => ?_
    refine V_goto (tgt := 15) dL_truncateInput_9 rfl ?_
    refine V_iconst (v := 0) dL_truncateInput_15 (by decide) ?_
    obtain rfl := Option.some.inj h
    exact V_ireturn dL_truncateInput_16 ⟨_, rfl, rfl⟩ ⟨rfl, rfl⟩
noncomputable def f_L_undo (W : Nat → Nat → Int32) : Option (Int32 × (Nat → Nat → Int32)) :=
  bt2 (f_X9_undo W) (fun e W3 => if e = "java/lang/IllegalStateException" then some ((1 : Int32), W3) else none) (fun v2 W1 => bnd (w2 W1 31 0 v2) (fun W4 => some ((0 : Int32), W4)))
theorem e_L_undo {G : GT} {f0 : Nat} {b c : Nat} {M : MM} {hi : Nat} {W : Nat → Nat → Int32} {r : (Int32 × (Nat → Nat → Int32))} (hf0 : 9 ≤ f0) (hc3 : 620 ≤ c) (h : f_L_undo W = some r) : Ex G f0 mL_undo [.ref (b), .ref (b + 619)] (MEM b c W M) hi 1 6 (RP (.inl (some (.int r.1))) (MEM b c r.2 M)) := by
  obtain ⟨f, rfl, hf⟩ := suc_of hf0
  have hc1 : 609 ≤ c := Nat.le_trans (Nat.le_of_ble_eq_true rfl) hc3
  have hc2 : 619 ≤ c := Nat.le_trans (Nat.le_of_ble_eq_true rfl) hc3
  unfold f_L_undo at h
  refine ⟨Nat.le_of_ble_eq_true rfl, ?_⟩
  refine V_aload_n (i := 1) dL_undo_0 rfl rfl ?_
  refine V_iconst (v := 0) dL_undo_1 (by decide) ?_
  refine V_aload_n (i := 0) dL_undo_2 rfl rfl ?_
  refine D_tVIW (As := []) (μ := fun W1 => (MEM b c W1 M)) (k2 := 1) (n2 := 6) h dL_undo_3 cv_L_163 rfl ⟨_, _, _, (mem_x9 hc1), rfl, rfl⟩ rfl (Nat.le_of_ble_eq_true rfl) (fun x y hx => e_X9_undo (Nat.le_trans (Nat.le_of_ble_eq_true rfl) hf) hc1 hx) (fun e W3 hi h => ?_) (fun v2 W1 hi h => ?_)
  · refine D_ite h (fun q h => ?_) (fun _ h => ?_)
    · subst q
      refine Or.inr ⟨[], (0, 8, 11, 13), [], "java/lang/IllegalStateException", rfl, (fun z hz => by cases hz), by decide, by decide, tw_805, by decide +kernel, fun ex => ?_⟩
      refine V_astore_n (i := 2) dL_undo_11 rfl (Nat.le_of_ble_eq_true rfl) ?_
      refine V_iconst (v := 1) dL_undo_12 (by decide) ?_
      obtain rfl := Option.some.inj h
      exact V_ireturn dL_undo_13 ⟨_, rfl, rfl⟩ ⟨rfl, rfl⟩
    cases h
  · refine V_i2l dL_undo_6 rfl ?_
    refine D3_lst hc3 h dL_undo_7 fun W4 h => ?_
    refine V_goto (tgt := 14) dL_undo_8 rfl ?_
    refine V_iconst (v := 0) dL_undo_14 (by decide) ?_
    obtain rfl := Option.some.inj h
    exact V_ireturn dL_undo_15 ⟨_, rfl, rfl⟩ ⟨rfl, rfl⟩
noncomputable def f_L_waitingCount (W : Nat → Nat → Int32) (a1 : Int32) : Option (Int32 × (Nat → Nat → Int32)) :=
  bdt (f_X9_waitingCount W a1) (fun e => if e = "java/lang/IndexOutOfBoundsException" then some ((1 : Int32), W) else none) (fun v1 => bnd (w2 W 31 0 v1) (fun W2 => some ((0 : Int32), W2)))
theorem e_L_waitingCount {G : GT} {f0 : Nat} {b c : Nat} {M : MM} {hi : Nat} {W : Nat → Nat → Int32} {a1 : Int32} {r : (Int32 × (Nat → Nat → Int32))} (hf0 : 10 ≤ f0) (hc3 : 620 ≤ c) (h : f_L_waitingCount W a1 = some r) : Ex G f0 mL_waitingCount [.ref (b), .int a1, .ref (b + 619)] (MEM b c W M) hi 1 6 (RP (.inl (some (.int r.1))) (MEM b c r.2 M)) := by
  obtain ⟨f, rfl, hf⟩ := suc_of hf0
  have hc1 : 609 ≤ c := Nat.le_trans (Nat.le_of_ble_eq_true rfl) hc3
  have hc2 : 619 ≤ c := Nat.le_trans (Nat.le_of_ble_eq_true rfl) hc3
  unfold f_L_waitingCount at h
  refine ⟨Nat.le_of_ble_eq_true rfl, ?_⟩
  refine V_aload_n (i := 2) dL_waitingCount_0 rfl rfl ?_
  refine V_iconst (v := 0) dL_waitingCount_1 (by decide) ?_
  refine V_aload_n (i := 0) dL_waitingCount_2 rfl rfl ?_
  refine V_iload_n (i := 1) dL_waitingCount_3 rfl rfl ?_
  refine D_tVI (As := [_]) (k2 := 1) (n2 := 6) h dL_waitingCount_4 cv_L_34 rfl ⟨_, _, _, (mem_x9 hc1), rfl, rfl⟩ rfl (Nat.le_of_ble_eq_true rfl) (fun x hx => e_X9_waitingCount (Nat.le_trans (Nat.le_of_ble_eq_true rfl) hf) hc1 hx) (fun e hi h => ?_) (fun v1 hi h => ?_)
  · refine D_ite h (fun q h => ?_) (fun _ h => ?_)
    · subst q
      refine Or.inr ⟨[], (0, 9, 12, 29), [], "java/lang/IndexOutOfBoundsException", rfl, (fun z hz => by cases hz), by decide, by decide, tw_922, by decide +kernel, fun ex => ?_⟩
      refine V_astore_n (i := 3) dL_waitingCount_12 rfl (Nat.le_of_ble_eq_true rfl) ?_
      refine V_iconst (v := 1) dL_waitingCount_13 (by decide) ?_
      obtain rfl := Option.some.inj h
      exact V_ireturn dL_waitingCount_14 ⟨_, rfl, rfl⟩ ⟨rfl, rfl⟩
    cases h
  · refine V_i2l dL_waitingCount_7 rfl ?_
    refine D3_lst hc3 h dL_waitingCount_8 fun W2 h => ?_
    refine V_goto (tgt := 15) dL_waitingCount_9 rfl ?_
    refine V_iconst (v := 0) dL_waitingCount_15 (by decide) ?_
    obtain rfl := Option.some.inj h
    exact V_ireturn dL_waitingCount_16 ⟨_, rfl, rfl⟩ ⟨rfl, rfl⟩
noncomputable def f_L_waitingParcel (W : Nat → Nat → Int32) (a1 : Int32) (a2 : Int32) : Option (Int32 × (Nat → Nat → Int32)) :=
  bdt (f_X9_waitingParcel W a1 a2) (fun e => if e = "java/lang/IndexOutOfBoundsException" then some ((1 : Int32), W) else if e = "java/util/NoSuchElementException" then some ((2 : Int32), W) else none) (fun v1 => bnd (w2 W 31 0 v1) (fun W2 => some ((0 : Int32), W2)))
theorem e_L_waitingParcel {G : GT} {f0 : Nat} {b c : Nat} {M : MM} {hi : Nat} {W : Nat → Nat → Int32} {a1 : Int32} {a2 : Int32} {r : (Int32 × (Nat → Nat → Int32))} (hf0 : 10 ≤ f0) (hc3 : 620 ≤ c) (h : f_L_waitingParcel W a1 a2 = some r) : Ex G f0 mL_waitingParcel [.ref (b), .int a1, .int a2, .ref (b + 619)] (MEM b c W M) hi 2 12 (RP (.inl (some (.int r.1))) (MEM b c r.2 M)) := by
  obtain ⟨f, rfl, hf⟩ := suc_of hf0
  have hc1 : 609 ≤ c := Nat.le_trans (Nat.le_of_ble_eq_true rfl) hc3
  have hc2 : 619 ≤ c := Nat.le_trans (Nat.le_of_ble_eq_true rfl) hc3
  unfold f_L_waitingParcel at h
  refine ⟨Nat.le_of_ble_eq_true rfl, ?_⟩
  refine V_aload_n (i := 3) dL_waitingParcel_0 rfl rfl ?_
  refine V_iconst (v := 0) dL_waitingParcel_1 (by decide) ?_
  refine V_aload_n (i := 0) dL_waitingParcel_2 rfl rfl ?_
  refine V_iload_n (i := 1) dL_waitingParcel_3 rfl rfl ?_
  refine V_iload_n (i := 2) dL_waitingParcel_4 rfl rfl ?_
  refine D_tVI (As := [_, _]) (k2 := 2) (n2 := 12) h dL_waitingParcel_5 cv_L_37 rfl ⟨_, _, _, (mem_x9 hc1), rfl, rfl⟩ rfl (Nat.le_of_ble_eq_true rfl) (fun x hx => e_X9_waitingParcel (Nat.le_trans (Nat.le_of_ble_eq_true rfl) hf) hc1 hx) (fun e hi h => ?_) (fun v1 hi h => ?_)
  · refine D_ite h (fun q h => ?_) (fun _ h => ?_)
    · subst q
      refine Or.inr ⟨[], (0, 10, 13, 29), [(0, 10, 17, 41)], "java/lang/IndexOutOfBoundsException", rfl, (fun z hz => by cases hz), by decide, by decide, tw_922, by decide +kernel, fun ex => ?_⟩
      refine V_astore (i := 4) dL_waitingParcel_13 (Nat.le_of_ble_eq_true rfl) ?_
      refine V_iconst (v := 1) dL_waitingParcel_15 (by decide) ?_
      obtain rfl := Option.some.inj h
      exact V_ireturn dL_waitingParcel_16 ⟨_, rfl, rfl⟩ ⟨rfl, rfl⟩
    refine D_ite h (fun q h => ?_) (fun _ h => ?_)
    · subst q
      refine Or.inr ⟨[(0, 10, 13, 29)], (0, 10, 17, 41), [], "java/util/NoSuchElementException", rfl, (fun z hz => by simp only [List.mem_cons, List.not_mem_nil, or_false] at hz; rcases hz with rfl <;> exact Or.inr ⟨by decide, _, tw_922, by decide +kernel⟩), by decide, by decide, tw_964, by decide +kernel, fun ex => ?_⟩
      refine V_astore (i := 4) dL_waitingParcel_17 (Nat.le_of_ble_eq_true rfl) ?_
      refine V_iconst (v := 2) dL_waitingParcel_19 (by decide) ?_
      obtain rfl := Option.some.inj h
      exact V_ireturn dL_waitingParcel_20 ⟨_, rfl, rfl⟩ ⟨rfl, rfl⟩
    cases h
  · refine V_i2l dL_waitingParcel_8 rfl ?_
    refine D3_lst hc3 h dL_waitingParcel_9 fun W2 h => ?_
    refine V_goto (tgt := 21) dL_waitingParcel_10 rfl ?_
    refine V_iconst (v := 0) dL_waitingParcel_21 (by decide) ?_
    obtain rfl := Option.some.inj h
    exact V_ireturn dL_waitingParcel_22 ⟨_, rfl, rfl⟩ ⟨rfl, rfl⟩
noncomputable def f_L_withdraw (W : Nat → Nat → Int32) (a1 : Int32) : Option (Int32 × (Nat → Nat → Int32)) :=
  bt2 (f_X9_withdraw W a1) (fun e W3 => if e = "java/lang/IndexOutOfBoundsException" then some ((1 : Int32), W3) else if e = "java/lang/IllegalStateException" then some ((2 : Int32), W3) else none) (fun v2 W1 => bnd (w2 W1 31 0 v2) (fun W4 => some ((0 : Int32), W4)))
theorem e_L_withdraw {G : GT} {f0 : Nat} {b c : Nat} {M : MM} {hi : Nat} {W : Nat → Nat → Int32} {a1 : Int32} {r : (Int32 × (Nat → Nat → Int32))} (hf0 : 10 ≤ f0) (hc3 : 620 ≤ c) (h : f_L_withdraw W a1 = some r) : Ex G f0 mL_withdraw [.ref (b), .int a1, .ref (b + 619)] (MEM b c W M) hi 2 12 (RP (.inl (some (.int r.1))) (MEM b c r.2 M)) := by
  obtain ⟨f, rfl, hf⟩ := suc_of hf0
  have hc1 : 609 ≤ c := Nat.le_trans (Nat.le_of_ble_eq_true rfl) hc3
  have hc2 : 619 ≤ c := Nat.le_trans (Nat.le_of_ble_eq_true rfl) hc3
  unfold f_L_withdraw at h
  refine ⟨Nat.le_of_ble_eq_true rfl, ?_⟩
  refine V_aload_n (i := 2) dL_withdraw_0 rfl rfl ?_
  refine V_iconst (v := 0) dL_withdraw_1 (by decide) ?_
  refine V_aload_n (i := 0) dL_withdraw_2 rfl rfl ?_
  refine V_iload_n (i := 1) dL_withdraw_3 rfl rfl ?_
  refine D_tVIW (As := [_]) (μ := fun W1 => (MEM b c W1 M)) (k2 := 2) (n2 := 12) h dL_withdraw_4 cv_L_151 rfl ⟨_, _, _, (mem_x9 hc1), rfl, rfl⟩ rfl (Nat.le_of_ble_eq_true rfl) (fun x y hx => e_X9_withdraw (Nat.le_trans (Nat.le_of_ble_eq_true rfl) hf) hc1 hx) (fun e W3 hi h => ?_) (fun v2 W1 hi h => ?_)
  · refine D_ite h (fun q h => ?_) (fun _ h => ?_)
    · subst q
      refine Or.inr ⟨[], (0, 9, 12, 29), [(0, 9, 15, 13)], "java/lang/IndexOutOfBoundsException", rfl, (fun z hz => by cases hz), by decide, by decide, tw_922, by decide +kernel, fun ex => ?_⟩
      refine V_astore_n (i := 3) dL_withdraw_12 rfl (Nat.le_of_ble_eq_true rfl) ?_
      refine V_iconst (v := 1) dL_withdraw_13 (by decide) ?_
      obtain rfl := Option.some.inj h
      exact V_ireturn dL_withdraw_14 ⟨_, rfl, rfl⟩ ⟨rfl, rfl⟩
    refine D_ite h (fun q h => ?_) (fun _ h => ?_)
    · subst q
      refine Or.inr ⟨[(0, 9, 12, 29)], (0, 9, 15, 13), [], "java/lang/IllegalStateException", rfl, (fun z hz => by simp only [List.mem_cons, List.not_mem_nil, or_false] at hz; rcases hz with rfl <;> exact Or.inr ⟨by decide, _, tw_922, by decide +kernel⟩), by decide, by decide, tw_805, by decide +kernel, fun ex => ?_⟩
      refine V_astore_n (i := 3) dL_withdraw_15 rfl (Nat.le_of_ble_eq_true rfl) ?_
      refine V_iconst (v := 2) dL_withdraw_16 (by decide) ?_
      obtain rfl := Option.some.inj h
      exact V_ireturn dL_withdraw_17 ⟨_, rfl, rfl⟩ ⟨rfl, rfl⟩
    cases h
  · refine V_i2l dL_withdraw_7 rfl ?_
    refine D3_lst hc3 h dL_withdraw_8 fun W4 h => ?_
    refine V_goto (tgt := 18) dL_withdraw_9 rfl ?_
    refine V_iconst (v := 0) dL_withdraw_18 (by decide) ?_
    obtain rfl := Option.some.inj h
    exact V_ireturn dL_withdraw_19 ⟨_, rfl, rfl⟩ ⟨rfl, rfl⟩
