noncomputable def f_X9_checkTrain (W : Nat → Nat → Int32) (a1 : Int32) : Option (String ⊕ Unit) :=
  if a1 < 0 then some (.inl "java/lang/IndexOutOfBoundsException") else if a1 < (W 0 3) then some (.inr ()) else some (.inl "java/lang/IndexOutOfBoundsException")
theorem e_X9_checkTrain {G : GT} {f0 : Nat} {b c : Nat} {M : MM} {hi : Nat} {W : Nat → Nat → Int32} {a1 : Int32} {r : (String ⊕ Unit)} (hf0 : 8 ≤ f0) (hc1 : 609 ≤ c) (h : f_X9_checkTrain W a1 = some r) : Ex G f0 mX9_checkTrain [.ref (b), .int a1] (MEM b c W M) hi 1 6 (RP (rhoU r) (MEM b c W M)) := by
  obtain ⟨f, rfl, hf⟩ := suc_of hf0
  unfold f_X9_checkTrain at h
  refine ⟨Nat.le_of_ble_eq_true rfl, ?_⟩
  refine V_iload_n (i := 1) dX9_checkTrain_0 rfl rfl ?_
  refine D_if_lt (tgt := 15) h dX9_checkTrain_1 rfl (fun b1 h => ?_) (fun b1 h => ?_)
  · obtain rfl := Option.some.inj h
    exact V_throwSW (j := 10) dX9_checkTrain_15 dX9_checkTrain_18 dX9_checkTrain_19 dX9_checkTrain_22 dX9_checkTrain_25 (by decide) tw_738 tw_781 (by decide +kernel) (Nat.le_of_ble_eq_true rfl) (Nat.le_trans (Nat.le_of_ble_eq_true rfl) hf) rfl (fun _ _ => ⟨rfl, rfl⟩)
  · refine V_iload_n (i := 1) dX9_checkTrain_4 rfl rfl ?_
    refine V_aload_n (i := 0) dX9_checkTrain_5 rfl rfl ?_
    refine V_getfield dX9_checkTrain_6 (mem_x9 hc1) fl_X9_10 rfl ?_
    refine V_getfield dX9_checkTrain_9 (mst_o (u := 0) hc1 (by decide) rfl) fl_X9_109 rfl ?_
    refine D_icmp_lt (tgt := 26) h dX9_checkTrain_12 rfl (fun b2 h => ?_) (fun b2 h => ?_)
    · obtain rfl := Option.some.inj h
      exact V_return dX9_checkTrain_26 rfl ⟨rfl, rfl⟩
    · obtain rfl := Option.some.inj h
      exact V_throwSW (j := 10) dX9_checkTrain_15 dX9_checkTrain_18 dX9_checkTrain_19 dX9_checkTrain_22 dX9_checkTrain_25 (by decide) tw_738 tw_781 (by decide +kernel) (Nat.le_of_ble_eq_true rfl) (Nat.le_trans (Nat.le_of_ble_eq_true rfl) hf) rfl (fun _ _ => ⟨rfl, rfl⟩)
noncomputable def f_X9_capacity (W : Nat → Nat → Int32) (a1 : Int32) : Option (String ⊕ Int32) :=
  bdt (f_X9_checkTrain W a1) (fun e => some (.inl e)) (fun _ => gd (inr a1 4) (some (.inr (W 0 (87 + 14 * ix a1)))))
theorem e_X9_capacity {G : GT} {f0 : Nat} {b c : Nat} {M : MM} {hi : Nat} {W : Nat → Nat → Int32} {a1 : Int32} {r : (String ⊕ Int32)} (hf0 : 9 ≤ f0) (hc1 : 609 ≤ c) (h : f_X9_capacity W a1 = some r) : Ex G f0 mX9_capacity [.ref (b), .int a1] (MEM b c W M) hi 1 6 (RP (rhoI r) (MEM b c W M)) := by
  obtain ⟨f, rfl, hf⟩ := suc_of hf0
  unfold f_X9_capacity at h
  refine ⟨Nat.le_of_ble_eq_true rfl, ?_⟩
  refine V_aload_n (i := 0) dX9_capacity_0 rfl rfl ?_
  refine V_iload_n (i := 1) dX9_capacity_1 rfl rfl ?_
  refine D_tVU (As := [_]) (k2 := 1) (n2 := 6) h dX9_capacity_2 cv_X9_162 rfl ⟨_, _, _, (mem_x9 hc1), rfl, rfl⟩ rfl (Nat.le_of_ble_eq_true rfl) (fun x hx => e_X9_checkTrain (Nat.le_trans (Nat.le_of_ble_eq_true rfl) hf) hc1 hx) (fun e hi h => Or.inl ⟨rfl, by obtain rfl := Option.some.inj h; exact ⟨rfl, rfl⟩⟩) fun hi h => ?_
  refine V_aload_n (i := 0) dX9_capacity_5 rfl rfl ?_
  refine V_getfield dX9_capacity_6 (mem_x9 hc1) fl_X9_10 rfl ?_
  refine V_getfield dX9_capacity_9 (mst_o (u := 0) hc1 (by decide) rfl) fl_X9_165 rfl ?_
  refine V_iload_n (i := 1) dX9_capacity_12 rfl rfl ?_
  refine D_aldTr h (mst (u := 0) hc1 (by decide) rfl) dX9_capacity_13 fun g1 h => ?_
  refine V_getfield dX9_capacity_14 (mst_tr (u := 0) hc1 (by decide) rfl g1) fl_X9_169 rfl ?_
  obtain rfl := Option.some.inj h
  exact V_ireturn dX9_capacity_17 ⟨_, rfl, rfl⟩ ⟨rfl, rfl⟩
noncomputable def f_X9_carriedCount (W : Nat → Nat → Int32) (a1 : Int32) : Option (String ⊕ Int32) :=
  bdt (f_X9_checkTrain W a1) (fun e => some (.inl e)) (fun _ => bdc (f_X4_countCarriedBy (W 0) a1) (fun v1 => some (.inr v1)))
theorem e_X9_carriedCount {G : GT} {f0 : Nat} {b c : Nat} {M : MM} {hi : Nat} {W : Nat → Nat → Int32} {a1 : Int32} {r : (String ⊕ Int32)} (hf0 : 9 ≤ f0) (hc1 : 609 ≤ c) (h : f_X9_carriedCount W a1 = some r) : Ex G f0 mX9_carriedCount [.ref (b), .int a1] (MEM b c W M) hi 1 6 (RP (rhoI r) (MEM b c W M)) := by
  obtain ⟨f, rfl, hf⟩ := suc_of hf0
  unfold f_X9_carriedCount at h
  refine ⟨Nat.le_of_ble_eq_true rfl, ?_⟩
  refine V_aload_n (i := 0) dX9_carriedCount_0 rfl rfl ?_
  refine V_iload_n (i := 1) dX9_carriedCount_1 rfl rfl ?_
  refine D_tVU (As := [_]) (k2 := 1) (n2 := 6) h dX9_carriedCount_2 cv_X9_162 rfl ⟨_, _, _, (mem_x9 hc1), rfl, rfl⟩ rfl (Nat.le_of_ble_eq_true rfl) (fun x hx => e_X9_checkTrain (Nat.le_trans (Nat.le_of_ble_eq_true rfl) hf) hc1 hx) (fun e hi h => Or.inl ⟨rfl, by obtain rfl := Option.some.inj h; exact ⟨rfl, rfl⟩⟩) fun hi h => ?_
  refine V_aload_n (i := 0) dX9_carriedCount_5 rfl rfl ?_
  refine V_getfield dX9_carriedCount_6 (mem_x9 hc1) fl_X9_10 rfl ?_
  refine V_iload_n (i := 1) dX9_carriedCount_9 rfl rfl ?_
  refine D_cVI (As := [_]) h dX9_carriedCount_10 cv_X9_180 rfl ⟨_, _, _, (mst_o (u := 0) hc1 (by decide) rfl), rfl, rfl⟩ rfl (Nat.le_of_ble_eq_true rfl) (fun x hx => lift0 (u := 0) hc1 (by decide) rfl (e_X4_countCarriedBy (Nat.le_trans (Nat.le_of_ble_eq_true rfl) hf) hx)) fun v1 h => ?_
  obtain rfl := Option.some.inj h
  exact V_ireturn dX9_carriedCount_13 ⟨_, rfl, rfl⟩ ⟨rfl, rfl⟩
noncomputable def f_X9_checkParcel (W : Nat → Nat → Int32) (a1 : Int32) : Option (String ⊕ Unit) :=
  if a1 < 0 then some (.inl "java/lang/IndexOutOfBoundsException") else if a1 < (W 0 4) then some (.inr ()) else some (.inl "java/lang/IndexOutOfBoundsException")
theorem e_X9_checkParcel {G : GT} {f0 : Nat} {b c : Nat} {M : MM} {hi : Nat} {W : Nat → Nat → Int32} {a1 : Int32} {r : (String ⊕ Unit)} (hf0 : 8 ≤ f0) (hc1 : 609 ≤ c) (h : f_X9_checkParcel W a1 = some r) : Ex G f0 mX9_checkParcel [.ref (b), .int a1] (MEM b c W M) hi 1 6 (RP (rhoU r) (MEM b c W M)) := by
  obtain ⟨f, rfl, hf⟩ := suc_of hf0
  unfold f_X9_checkParcel at h
  refine ⟨Nat.le_of_ble_eq_true rfl, ?_⟩
  refine V_iload_n (i := 1) dX9_checkParcel_0 rfl rfl ?_
  refine D_if_lt (tgt := 15) h dX9_checkParcel_1 rfl (fun b1 h => ?_) (fun b1 h => ?_)
  · obtain rfl := Option.some.inj h
    exact V_throwSW (j := 12) dX9_checkParcel_15 dX9_checkParcel_18 dX9_checkParcel_19 dX9_checkParcel_22 dX9_checkParcel_25 (by decide) tw_738 tw_781 (by decide +kernel) (Nat.le_of_ble_eq_true rfl) (Nat.le_trans (Nat.le_of_ble_eq_true rfl) hf) rfl (fun _ _ => ⟨rfl, rfl⟩)
  · refine V_iload_n (i := 1) dX9_checkParcel_4 rfl rfl ?_
    refine V_aload_n (i := 0) dX9_checkParcel_5 rfl rfl ?_
    refine V_getfield dX9_checkParcel_6 (mem_x9 hc1) fl_X9_10 rfl ?_
    refine V_getfield dX9_checkParcel_9 (mst_o (u := 0) hc1 (by decide) rfl) fl_X9_112 rfl ?_
    refine D_icmp_lt (tgt := 26) h dX9_checkParcel_12 rfl (fun b2 h => ?_) (fun b2 h => ?_)
    · obtain rfl := Option.some.inj h
      exact V_return dX9_checkParcel_26 rfl ⟨rfl, rfl⟩
    · obtain rfl := Option.some.inj h
      exact V_throwSW (j := 12) dX9_checkParcel_15 dX9_checkParcel_18 dX9_checkParcel_19 dX9_checkParcel_22 dX9_checkParcel_25 (by decide) tw_738 tw_781 (by decide +kernel) (Nat.le_of_ble_eq_true rfl) (Nat.le_trans (Nat.le_of_ble_eq_true rfl) hf) rfl (fun _ _ => ⟨rfl, rfl⟩)
noncomputable def f_X9_clock (W : Nat → Nat → Int32) : Option Int32 :=
  some (W 0 0)
theorem e_X9_clock {G : GT} {f0 : Nat} {b c : Nat} {M : MM} {hi k n : Nat} {W : Nat → Nat → Int32} {r : Int32} (hf0 : 1 ≤ f0) (hc1 : 609 ≤ c) (h : f_X9_clock W = some r) : Ex G f0 mX9_clock [.ref (b)] (MEM b c W M) hi k n (RH (.inl (some (.int r))) (MEM b c W M) hi) := by
  obtain ⟨f, rfl, hf⟩ := suc_of hf0
  unfold f_X9_clock at h
  refine ⟨Nat.le_of_ble_eq_true rfl, ?_⟩
  refine V_aload_n (i := 0) dX9_clock_0 rfl rfl ?_
  refine V_getfield dX9_clock_1 (mem_x9 hc1) fl_X9_10 rfl ?_
  refine V_getfield dX9_clock_4 (mst_o (u := 0) hc1 (by decide) rfl) fl_X9_103 rfl ?_
  obtain rfl := Option.some.inj h
  exact V_ireturn dX9_clock_7 ⟨_, rfl, rfl⟩ ⟨rfl, rfl, rfl⟩
noncomputable def f_X9_delay (W : Nat → Nat → Int32) (a1 : Int32) : Option (String ⊕ Int32) :=
  bdt (f_X9_checkTrain W a1) (fun e => some (.inl e)) (fun _ => gd (inr a1 4) (some (.inr (W 0 (87 + 14 * ix a1 + 11)))))
theorem e_X9_delay {G : GT} {f0 : Nat} {b c : Nat} {M : MM} {hi : Nat} {W : Nat → Nat → Int32} {a1 : Int32} {r : (String ⊕ Int32)} (hf0 : 9 ≤ f0) (hc1 : 609 ≤ c) (h : f_X9_delay W a1 = some r) : Ex G f0 mX9_delay [.ref (b), .int a1] (MEM b c W M) hi 1 6 (RP (rhoI r) (MEM b c W M)) := by
  obtain ⟨f, rfl, hf⟩ := suc_of hf0
  unfold f_X9_delay at h
  refine ⟨Nat.le_of_ble_eq_true rfl, ?_⟩
  refine V_aload_n (i := 0) dX9_delay_0 rfl rfl ?_
  refine V_iload_n (i := 1) dX9_delay_1 rfl rfl ?_
  refine D_tVU (As := [_]) (k2 := 1) (n2 := 6) h dX9_delay_2 cv_X9_162 rfl ⟨_, _, _, (mem_x9 hc1), rfl, rfl⟩ rfl (Nat.le_of_ble_eq_true rfl) (fun x hx => e_X9_checkTrain (Nat.le_trans (Nat.le_of_ble_eq_true rfl) hf) hc1 hx) (fun e hi h => Or.inl ⟨rfl, by obtain rfl := Option.some.inj h; exact ⟨rfl, rfl⟩⟩) fun hi h => ?_
  refine V_aload_n (i := 0) dX9_delay_5 rfl rfl ?_
  refine V_getfield dX9_delay_6 (mem_x9 hc1) fl_X9_10 rfl ?_
  refine V_getfield dX9_delay_9 (mst_o (u := 0) hc1 (by decide) rfl) fl_X9_165 rfl ?_
  refine V_iload_n (i := 1) dX9_delay_12 rfl rfl ?_
  refine D_aldTr h (mst (u := 0) hc1 (by decide) rfl) dX9_delay_13 fun g1 h => ?_
  refine V_getfield dX9_delay_14 (mst_tr (u := 0) hc1 (by decide) rfl g1) fl_X9_199 rfl ?_
  obtain rfl := Option.some.inj h
  exact V_ireturn dX9_delay_17 ⟨_, rfl, rfl⟩ ⟨rfl, rfl⟩
noncomputable def f_X9_deliveredCount (W : Nat → Nat → Int32) : Option Int32 :=
  bdc (f_X4_countDelivered (W 0)) (fun v1 => some v1)
theorem e_X9_deliveredCount {G : GT} {f0 : Nat} {b c : Nat} {M : MM} {hi k n : Nat} {W : Nat → Nat → Int32} {r : Int32} (hf0 : 3 ≤ f0) (hc1 : 609 ≤ c) (h : f_X9_deliveredCount W = some r) : Ex G f0 mX9_deliveredCount [.ref (b)] (MEM b c W M) hi k n (RH (.inl (some (.int r))) (MEM b c W M) hi) := by
  obtain ⟨f, rfl, hf⟩ := suc_of hf0
  unfold f_X9_deliveredCount at h
  refine ⟨Nat.le_of_ble_eq_true rfl, ?_⟩
  refine V_aload_n (i := 0) dX9_deliveredCount_0 rfl rfl ?_
  refine V_getfield dX9_deliveredCount_1 (mem_x9 hc1) fl_X9_10 rfl ?_
  refine D_cVI (As := []) h dX9_deliveredCount_4 cv_X9_249 rfl ⟨_, _, _, (mst_o (u := 0) hc1 (by decide) rfl), rfl, rfl⟩ rfl (Nat.le_of_ble_eq_true rfl) (fun x hx => lift0 (u := 0) hc1 (by decide) rfl (e_X4_countDelivered (Nat.le_trans (Nat.le_of_ble_eq_true rfl) hf) hx)) fun v1 h => ?_
  obtain rfl := Option.some.inj h
  exact V_ireturn dX9_deliveredCount_7 ⟨_, rfl, rfl⟩ ⟨rfl, rfl, rfl⟩
noncomputable def f_X9_deliveryClock (W : Nat → Nat → Int32) (a1 : Int32) : Option (String ⊕ Int32) :=
  bdt (f_X9_checkParcel W a1) (fun e => some (.inl e)) (fun _ => gd (inr a1 12) (some (.inr (W 0 (143 + 9 * ix a1 + 8)))))
theorem e_X9_deliveryClock {G : GT} {f0 : Nat} {b c : Nat} {M : MM} {hi : Nat} {W : Nat → Nat → Int32} {a1 : Int32} {r : (String ⊕ Int32)} (hf0 : 9 ≤ f0) (hc1 : 609 ≤ c) (h : f_X9_deliveryClock W a1 = some r) : Ex G f0 mX9_deliveryClock [.ref (b), .int a1] (MEM b c W M) hi 1 6 (RP (rhoI r) (MEM b c W M)) := by
  obtain ⟨f, rfl, hf⟩ := suc_of hf0
  unfold f_X9_deliveryClock at h
  refine ⟨Nat.le_of_ble_eq_true rfl, ?_⟩
  refine V_aload_n (i := 0) dX9_deliveryClock_0 rfl rfl ?_
  refine V_iload_n (i := 1) dX9_deliveryClock_1 rfl rfl ?_
  refine D_tVU (As := [_]) (k2 := 1) (n2 := 6) h dX9_deliveryClock_2 cv_X9_208 rfl ⟨_, _, _, (mem_x9 hc1), rfl, rfl⟩ rfl (Nat.le_of_ble_eq_true rfl) (fun x hx => e_X9_checkParcel (Nat.le_trans (Nat.le_of_ble_eq_true rfl) hf) hc1 hx) (fun e hi h => Or.inl ⟨rfl, by obtain rfl := Option.some.inj h; exact ⟨rfl, rfl⟩⟩) fun hi h => ?_
  refine V_aload_n (i := 0) dX9_deliveryClock_5 rfl rfl ?_
  refine V_getfield dX9_deliveryClock_6 (mem_x9 hc1) fl_X9_10 rfl ?_
  refine V_getfield dX9_deliveryClock_9 (mst_o (u := 0) hc1 (by decide) rfl) fl_X9_211 rfl ?_
  refine V_iload_n (i := 1) dX9_deliveryClock_12 rfl rfl ?_
  refine D_aldPc h (mst (u := 0) hc1 (by decide) rfl) dX9_deliveryClock_13 fun g1 h => ?_
  refine V_getfield dX9_deliveryClock_14 (mst_pc (u := 0) hc1 (by decide) rfl g1) fl_X9_242 rfl ?_
  obtain rfl := Option.some.inj h
  exact V_ireturn dX9_deliveryClock_17 ⟨_, rfl, rfl⟩ ⟨rfl, rfl⟩
noncomputable def f_X9_destination (W : Nat → Nat → Int32) (a1 : Int32) : Option (String ⊕ Int32) :=
  bdt (f_X9_checkParcel W a1) (fun e => some (.inl e)) (fun _ => gd (inr a1 12) (some (.inr (W 0 (143 + 9 * ix a1 + 1)))))
theorem e_X9_destination {G : GT} {f0 : Nat} {b c : Nat} {M : MM} {hi : Nat} {W : Nat → Nat → Int32} {a1 : Int32} {r : (String ⊕ Int32)} (hf0 : 9 ≤ f0) (hc1 : 609 ≤ c) (h : f_X9_destination W a1 = some r) : Ex G f0 mX9_destination [.ref (b), .int a1] (MEM b c W M) hi 1 6 (RP (rhoI r) (MEM b c W M)) := by
  obtain ⟨f, rfl, hf⟩ := suc_of hf0
  unfold f_X9_destination at h
  refine ⟨Nat.le_of_ble_eq_true rfl, ?_⟩
  refine V_aload_n (i := 0) dX9_destination_0 rfl rfl ?_
  refine V_iload_n (i := 1) dX9_destination_1 rfl rfl ?_
  refine D_tVU (As := [_]) (k2 := 1) (n2 := 6) h dX9_destination_2 cv_X9_208 rfl ⟨_, _, _, (mem_x9 hc1), rfl, rfl⟩ rfl (Nat.le_of_ble_eq_true rfl) (fun x hx => e_X9_checkParcel (Nat.le_trans (Nat.le_of_ble_eq_true rfl) hf) hc1 hx) (fun e hi h => Or.inl ⟨rfl, by obtain rfl := Option.some.inj h; exact ⟨rfl, rfl⟩⟩) fun hi h => ?_
  refine V_aload_n (i := 0) dX9_destination_5 rfl rfl ?_
  refine V_getfield dX9_destination_6 (mem_x9 hc1) fl_X9_10 rfl ?_
  refine V_getfield dX9_destination_9 (mst_o (u := 0) hc1 (by decide) rfl) fl_X9_211 rfl ?_
  refine V_iload_n (i := 1) dX9_destination_12 rfl rfl ?_
  refine D_aldPc h (mst (u := 0) hc1 (by decide) rfl) dX9_destination_13 fun g1 h => ?_
  refine V_getfield dX9_destination_14 (mst_pc (u := 0) hc1 (by decide) rfl g1) fl_X9_220 rfl ?_
  obtain rfl := Option.some.inj h
  exact V_ireturn dX9_destination_17 ⟨_, rfl, rfl⟩ ⟨rfl, rfl⟩
noncomputable def f_X9_distance (W : Nat → Nat → Int32) (a1 : Int32) (a2 : Int32) : Option (String ⊕ Int32) :=
  bdt (f_X9_checkStation W a1) (fun e => some (.inl e)) (fun _ => bdt (f_X9_checkStation W a2) (fun e => some (.inl e)) (fun _ => bdc (f_X4_distanceBetween (W 0) a1 a2) (fun v1 => if v1 = (1000 : Int32) then some (.inr (-1 : Int32)) else some (.inr v1))))
theorem e_X9_distance {G : GT} {f0 : Nat} {b c : Nat} {M : MM} {hi : Nat} {W : Nat → Nat → Int32} {a1 : Int32} {a2 : Int32} {r : (String ⊕ Int32)} (hf0 : 9 ≤ f0) (hc1 : 609 ≤ c) (h : f_X9_distance W a1 a2 = some r) : Ex G f0 mX9_distance [.ref (b), .int a1, .int a2] (MEM b c W M) hi 2 12 (RP (rhoI r) (MEM b c W M)) := by
  obtain ⟨f, rfl, hf⟩ := suc_of hf0
  unfold f_X9_distance at h
  refine ⟨Nat.le_of_ble_eq_true rfl, ?_⟩
  refine V_aload_n (i := 0) dX9_distance_0 rfl rfl ?_
  refine V_iload_n (i := 1) dX9_distance_1 rfl rfl ?_
  refine D_tVU (As := [_]) (k2 := 1) (n2 := 6) h dX9_distance_2 cv_X9_115 rfl ⟨_, _, _, (mem_x9 hc1), rfl, rfl⟩ rfl (Nat.le_of_ble_eq_true rfl) (fun x hx => e_X9_checkStation (Nat.le_trans (Nat.le_of_ble_eq_true rfl) hf) hc1 hx) (fun e hi h => Or.inl ⟨rfl, by obtain rfl := Option.some.inj h; exact ⟨rfl, rfl⟩⟩) fun hi h => ?_
  refine V_aload_n (i := 0) dX9_distance_5 rfl rfl ?_
  refine V_iload_n (i := 2) dX9_distance_6 rfl rfl ?_
  refine D_tVU (As := [_]) (k2 := 1) (n2 := 6) h dX9_distance_7 cv_X9_115 rfl ⟨_, _, _, (mem_x9 hc1), rfl, rfl⟩ rfl (Nat.le_of_ble_eq_true rfl) (fun x hx => e_X9_checkStation (Nat.le_trans (Nat.le_of_ble_eq_true rfl) hf) hc1 hx) (fun e hi h => Or.inl ⟨rfl, by obtain rfl := Option.some.inj h; exact ⟨rfl, rfl⟩⟩) fun hi h => ?_
  refine V_aload_n (i := 0) dX9_distance_10 rfl rfl ?_
  refine V_getfield dX9_distance_11 (mem_x9 hc1) fl_X9_10 rfl ?_
  refine V_iload_n (i := 1) dX9_distance_14 rfl rfl ?_
  refine V_iload_n (i := 2) dX9_distance_15 rfl rfl ?_
  refine D_cVI (As := [_, _]) h dX9_distance_16 cv_X9_159 rfl ⟨_, _, _, (mst_o (u := 0) hc1 (by decide) rfl), rfl, rfl⟩ rfl (Nat.le_of_ble_eq_true rfl) (fun x hx => lift0 (u := 0) hc1 (by decide) rfl (e_X4_distanceBetween (Nat.le_trans (Nat.le_of_ble_eq_true rfl) hf) hx)) fun v1 h => ?_
  refine V_istore_n (i := 3) dX9_distance_19 rfl (Nat.le_of_ble_eq_true rfl) ?_
  refine V_iload_n (i := 3) dX9_distance_20 rfl rfl ?_
  refine V_sipush (v := 1000) dX9_distance_21 (by decide) ?_
  refine D_icmp_ne (tgt := 31) h dX9_distance_24 rfl (fun b2 h => ?_) (fun b2 h => ?_)
  · refine V_iload_n (i := 3) dX9_distance_31 rfl rfl ?_
    obtain rfl := Option.some.inj h
    exact V_ireturn dX9_distance_32 ⟨_, rfl, rfl⟩ ⟨rfl, rfl⟩
  · refine V_iconst (v := -1) dX9_distance_27 (by decide) ?_
    refine V_goto (tgt := 32) dX9_distance_28 rfl ?_
    obtain rfl := Option.some.inj h
    exact V_ireturn dX9_distance_32 ⟨_, rfl, rfl⟩ ⟨rfl, rfl⟩
noncomputable def f_X9_dropStation (W : Nat → Nat → Int32) (a1 : Int32) : Option (String ⊕ Int32) :=
  bdt (f_X9_checkParcel W a1) (fun e => some (.inl e)) (fun _ => gd (inr a1 12) (some (.inr (W 0 (143 + 9 * ix a1 + 5)))))
theorem e_X9_dropStation {G : GT} {f0 : Nat} {b c : Nat} {M : MM} {hi : Nat} {W : Nat → Nat → Int32} {a1 : Int32} {r : (String ⊕ Int32)} (hf0 : 9 ≤ f0) (hc1 : 609 ≤ c) (h : f_X9_dropStation W a1 = some r) : Ex G f0 mX9_dropStation [.ref (b), .int a1] (MEM b c W M) hi 1 6 (RP (rhoI r) (MEM b c W M)) := by
  obtain ⟨f, rfl, hf⟩ := suc_of hf0
  unfold f_X9_dropStation at h
  refine ⟨Nat.le_of_ble_eq_true rfl, ?_⟩
  refine V_aload_n (i := 0) dX9_dropStation_0 rfl rfl ?_
  refine V_iload_n (i := 1) dX9_dropStation_1 rfl rfl ?_
  refine D_tVU (As := [_]) (k2 := 1) (n2 := 6) h dX9_dropStation_2 cv_X9_208 rfl ⟨_, _, _, (mem_x9 hc1), rfl, rfl⟩ rfl (Nat.le_of_ble_eq_true rfl) (fun x hx => e_X9_checkParcel (Nat.le_trans (Nat.le_of_ble_eq_true rfl) hf) hc1 hx) (fun e hi h => Or.inl ⟨rfl, by obtain rfl := Option.some.inj h; exact ⟨rfl, rfl⟩⟩) fun hi h => ?_
  refine V_aload_n (i := 0) dX9_dropStation_5 rfl rfl ?_
  refine V_getfield dX9_dropStation_6 (mem_x9 hc1) fl_X9_10 rfl ?_
  refine V_getfield dX9_dropStation_9 (mst_o (u := 0) hc1 (by decide) rfl) fl_X9_211 rfl ?_
  refine V_iload_n (i := 1) dX9_dropStation_12 rfl rfl ?_
  refine D_aldPc h (mst (u := 0) hc1 (by decide) rfl) dX9_dropStation_13 fun g1 h => ?_
  refine V_getfield dX9_dropStation_14 (mst_pc (u := 0) hc1 (by decide) rfl g1) fl_X9_232 rfl ?_
  obtain rfl := Option.some.inj h
  exact V_ireturn dX9_dropStation_17 ⟨_, rfl, rfl⟩ ⟨rfl, rfl⟩
noncomputable def f_X9_errorCode (W : Nat → Nat → Int32) : Option Int32 :=
  some (W 13 0)
theorem e_X9_errorCode {G : GT} {f0 : Nat} {b c : Nat} {M : MM} {hi k n : Nat} {W : Nat → Nat → Int32} {r : Int32} (hf0 : 1 ≤ f0) (hc1 : 609 ≤ c) (h : f_X9_errorCode W = some r) : Ex G f0 mX9_errorCode [.ref (b)] (MEM b c W M) hi k n (RH (.inl (some (.int r))) (MEM b c W M) hi) := by
  obtain ⟨f, rfl, hf⟩ := suc_of hf0
  unfold f_X9_errorCode at h
  refine ⟨Nat.le_of_ble_eq_true rfl, ?_⟩
  refine V_aload_n (i := 0) dX9_errorCode_0 rfl rfl ?_
  refine V_getfield dX9_errorCode_1 (mem_x9 hc1) fl_X9_22 rfl ?_
  refine V_getfield dX9_errorCode_4 (mem_13 hc1) fl_X9_89 rfl ?_
  obtain rfl := Option.some.inj h
  exact V_ireturn dX9_errorCode_7 ⟨_, rfl, rfl⟩ ⟨rfl, rfl, rfl⟩
noncomputable def f_X9_inspectionTime (W : Nat → Nat → Int32) (a1 : Int32) : Option (String ⊕ Int32) :=
  bdt (f_X9_checkStation W a1) (fun e => some (.inl e)) (fun _ => gd (inr a1 8) (some (.inr (W 0 (7 + 4 * ix a1 + 2)))))
theorem e_X9_inspectionTime {G : GT} {f0 : Nat} {b c : Nat} {M : MM} {hi : Nat} {W : Nat → Nat → Int32} {a1 : Int32} {r : (String ⊕ Int32)} (hf0 : 9 ≤ f0) (hc1 : 609 ≤ c) (h : f_X9_inspectionTime W a1 = some r) : Ex G f0 mX9_inspectionTime [.ref (b), .int a1] (MEM b c W M) hi 1 6 (RP (rhoI r) (MEM b c W M)) := by
  obtain ⟨f, rfl, hf⟩ := suc_of hf0
  unfold f_X9_inspectionTime at h
  refine ⟨Nat.le_of_ble_eq_true rfl, ?_⟩
  refine V_aload_n (i := 0) dX9_inspectionTime_0 rfl rfl ?_
  refine V_iload_n (i := 1) dX9_inspectionTime_1 rfl rfl ?_
  refine D_tVU (As := [_]) (k2 := 1) (n2 := 6) h dX9_inspectionTime_2 cv_X9_115 rfl ⟨_, _, _, (mem_x9 hc1), rfl, rfl⟩ rfl (Nat.le_of_ble_eq_true rfl) (fun x hx => e_X9_checkStation (Nat.le_trans (Nat.le_of_ble_eq_true rfl) hf) hc1 hx) (fun e hi h => Or.inl ⟨rfl, by obtain rfl := Option.some.inj h; exact ⟨rfl, rfl⟩⟩) fun hi h => ?_
  refine V_aload_n (i := 0) dX9_inspectionTime_5 rfl rfl ?_
  refine V_getfield dX9_inspectionTime_6 (mem_x9 hc1) fl_X9_10 rfl ?_
  refine V_getfield dX9_inspectionTime_9 (mst_o (u := 0) hc1 (by decide) rfl) fl_X9_118 rfl ?_
  refine V_iload_n (i := 1) dX9_inspectionTime_12 rfl rfl ?_
  refine D_aldSt h (mst (u := 0) hc1 (by decide) rfl) dX9_inspectionTime_13 fun g1 h => ?_
  refine V_getfield dX9_inspectionTime_14 (mst_st (u := 0) hc1 (by decide) rfl g1) fl_X9_128 rfl ?_
  obtain rfl := Option.some.inj h
  exact V_ireturn dX9_inspectionTime_17 ⟨_, rfl, rfl⟩ ⟨rfl, rfl⟩
noncomputable def f_X9_isForward (W : Nat → Nat → Int32) (a1 : Int32) : Option (String ⊕ Int32) :=
  bdt (f_X9_checkTrain W a1) (fun e => some (.inl e)) (fun _ => gd (inr a1 4) (gd (z01 (W 0 (87 + 14 * ix a1 + 9))) (some (.inr (W 0 (87 + 14 * ix a1 + 9))))))
theorem e_X9_isForward {G : GT} {f0 : Nat} {b c : Nat} {M : MM} {hi : Nat} {W : Nat → Nat → Int32} {a1 : Int32} {r : (String ⊕ Int32)} (hf0 : 9 ≤ f0) (hc1 : 609 ≤ c) (h : f_X9_isForward W a1 = some r) : Ex G f0 mX9_isForward [.ref (b), .int a1] (MEM b c W M) hi 1 6 (RP (rhoI r) (MEM b c W M)) := by
  obtain ⟨f, rfl, hf⟩ := suc_of hf0
  unfold f_X9_isForward at h
  refine ⟨Nat.le_of_ble_eq_true rfl, ?_⟩
  refine V_aload_n (i := 0) dX9_isForward_0 rfl rfl ?_
  refine V_iload_n (i := 1) dX9_isForward_1 rfl rfl ?_
  refine D_tVU (As := [_]) (k2 := 1) (n2 := 6) h dX9_isForward_2 cv_X9_162 rfl ⟨_, _, _, (mem_x9 hc1), rfl, rfl⟩ rfl (Nat.le_of_ble_eq_true rfl) (fun x hx => e_X9_checkTrain (Nat.le_trans (Nat.le_of_ble_eq_true rfl) hf) hc1 hx) (fun e hi h => Or.inl ⟨rfl, by obtain rfl := Option.some.inj h; exact ⟨rfl, rfl⟩⟩) fun hi h => ?_
  refine V_aload_n (i := 0) dX9_isForward_5 rfl rfl ?_
  refine V_getfield dX9_isForward_6 (mem_x9 hc1) fl_X9_10 rfl ?_
  refine V_getfield dX9_isForward_9 (mst_o (u := 0) hc1 (by decide) rfl) fl_X9_165 rfl ?_
  refine V_iload_n (i := 1) dX9_isForward_12 rfl rfl ?_
  refine D_aldTr h (mst (u := 0) hc1 (by decide) rfl) dX9_isForward_13 fun g1 h => ?_
  refine V_getfield dX9_isForward_14 (mst_tr (u := 0) hc1 (by decide) rfl g1) fl_X9_193 rfl ?_
  refine D_gd h fun g h => ?_
  obtain rfl := Option.some.inj h
  exact V_ireturn dX9_isForward_17 ⟨_, rfl, z01_nar g⟩ ⟨rfl, rfl⟩
noncomputable def f_X9_isHeld (W : Nat → Nat → Int32) (a1 : Int32) : Option (String ⊕ Int32) :=
  bdt (f_X9_checkParcel W a1) (fun e => some (.inl e)) (fun _ => gd (inr a1 12) (bdc (f_X2_isHeldAt (W 0) (ix a1) (W 0 0)) (fun v2 => gd (z01 v2) (some (.inr v2)))))
theorem e_X9_isHeld {G : GT} {f0 : Nat} {b c : Nat} {M : MM} {hi : Nat} {W : Nat → Nat → Int32} {a1 : Int32} {r : (String ⊕ Int32)} (hf0 : 9 ≤ f0) (hc1 : 609 ≤ c) (h : f_X9_isHeld W a1 = some r) : Ex G f0 mX9_isHeld [.ref (b), .int a1] (MEM b c W M) hi 1 6 (RP (rhoI r) (MEM b c W M)) := by
  obtain ⟨f, rfl, hf⟩ := suc_of hf0
  unfold f_X9_isHeld at h
  refine ⟨Nat.le_of_ble_eq_true rfl, ?_⟩
  refine V_aload_n (i := 0) dX9_isHeld_0 rfl rfl ?_
  refine V_iload_n (i := 1) dX9_isHeld_1 rfl rfl ?_
  refine D_tVU (As := [_]) (k2 := 1) (n2 := 6) h dX9_isHeld_2 cv_X9_208 rfl ⟨_, _, _, (mem_x9 hc1), rfl, rfl⟩ rfl (Nat.le_of_ble_eq_true rfl) (fun x hx => e_X9_checkParcel (Nat.le_trans (Nat.le_of_ble_eq_true rfl) hf) hc1 hx) (fun e hi h => Or.inl ⟨rfl, by obtain rfl := Option.some.inj h; exact ⟨rfl, rfl⟩⟩) fun hi h => ?_
  refine V_aload_n (i := 0) dX9_isHeld_5 rfl rfl ?_
  refine V_getfield dX9_isHeld_6 (mem_x9 hc1) fl_X9_10 rfl ?_
  refine V_getfield dX9_isHeld_9 (mst_o (u := 0) hc1 (by decide) rfl) fl_X9_211 rfl ?_
  refine V_iload_n (i := 1) dX9_isHeld_12 rfl rfl ?_
  refine D_aldPc h (mst (u := 0) hc1 (by decide) rfl) dX9_isHeld_13 fun g1 h => ?_
  refine V_aload_n (i := 0) dX9_isHeld_14 rfl rfl ?_
  refine V_getfield dX9_isHeld_15 (mem_x9 hc1) fl_X9_10 rfl ?_
  refine V_getfield dX9_isHeld_18 (mst_o (u := 0) hc1 (by decide) rfl) fl_X9_103 rfl ?_
  refine D_cVI (As := [_]) h dX9_isHeld_21 cv_X9_238 rfl ⟨_, _, _, (mst_pc (u := 0) hc1 (by decide) rfl g1), rfl, rfl⟩ rfl (Nat.le_of_ble_eq_true rfl) (fun x hx => lift0 (u := 0) hc1 (by decide) rfl (e_X2_isHeldAt (Nat.le_trans (Nat.le_of_ble_eq_true rfl) hf) g1 hx)) fun v2 h => ?_
  refine D_gd h fun g h => ?_
  obtain rfl := Option.some.inj h
  exact V_ireturn dX9_isHeld_24 ⟨_, rfl, z01_nar g⟩ ⟨rfl, rfl⟩
noncomputable def f_X9_isRequestStop (W : Nat → Nat → Int32) (a1 : Int32) : Option (String ⊕ Int32) :=
  bdt (f_X9_checkStation W a1) (fun e => some (.inl e)) (fun _ => gd (inr a1 8) (gd (z01 (W 0 (7 + 4 * ix a1 + 1))) (some (.inr (W 0 (7 + 4 * ix a1 + 1))))))
theorem e_X9_isRequestStop {G : GT} {f0 : Nat} {b c : Nat} {M : MM} {hi : Nat} {W : Nat → Nat → Int32} {a1 : Int32} {r : (String ⊕ Int32)} (hf0 : 9 ≤ f0) (hc1 : 609 ≤ c) (h : f_X9_isRequestStop W a1 = some r) : Ex G f0 mX9_isRequestStop [.ref (b), .int a1] (MEM b c W M) hi 1 6 (RP (rhoI r) (MEM b c W M)) := by
  obtain ⟨f, rfl, hf⟩ := suc_of hf0
  unfold f_X9_isRequestStop at h
  refine ⟨Nat.le_of_ble_eq_true rfl, ?_⟩
  refine V_aload_n (i := 0) dX9_isRequestStop_0 rfl rfl ?_
  refine V_iload_n (i := 1) dX9_isRequestStop_1 rfl rfl ?_
  refine D_tVU (As := [_]) (k2 := 1) (n2 := 6) h dX9_isRequestStop_2 cv_X9_115 rfl ⟨_, _, _, (mem_x9 hc1), rfl, rfl⟩ rfl (Nat.le_of_ble_eq_true rfl) (fun x hx => e_X9_checkStation (Nat.le_trans (Nat.le_of_ble_eq_true rfl) hf) hc1 hx) (fun e hi h => Or.inl ⟨rfl, by obtain rfl := Option.some.inj h; exact ⟨rfl, rfl⟩⟩) fun hi h => ?_
  refine V_aload_n (i := 0) dX9_isRequestStop_5 rfl rfl ?_
  refine V_getfield dX9_isRequestStop_6 (mem_x9 hc1) fl_X9_10 rfl ?_
  refine V_getfield dX9_isRequestStop_9 (mst_o (u := 0) hc1 (by decide) rfl) fl_X9_118 rfl ?_
  refine V_iload_n (i := 1) dX9_isRequestStop_12 rfl rfl ?_
  refine D_aldSt h (mst (u := 0) hc1 (by decide) rfl) dX9_isRequestStop_13 fun g1 h => ?_
  refine V_getfield dX9_isRequestStop_14 (mst_st (u := 0) hc1 (by decide) rfl g1) fl_X9_122 rfl ?_
  refine D_gd h fun g h => ?_
  obtain rfl := Option.some.inj h
  exact V_ireturn dX9_isRequestStop_17 ⟨_, rfl, z01_nar g⟩ ⟨rfl, rfl⟩
noncomputable def f_X9_isTrackOpen (W : Nat → Nat → Int32) (a1 : Int32) (a2 : Int32) : Option (String ⊕ Int32) :=
  bdt (f_X9_checkStation W a1) (fun e => some (.inl e)) (fun _ => bdt (f_X9_checkStation W a2) (fun e => some (.inl e)) (fun _ => bdc (f_X4_findTrack (W 0) a1 a2) (fun v1 => if v1 = (-1 : Int32) then some (.inr (0 : Int32)) else gd (inr v1 12) (if (W 0 (39 + 4 * ix v1 + 3)) = 0 then some (.inr (0 : Int32)) else some (.inr (1 : Int32))))))
theorem e_X9_isTrackOpen {G : GT} {f0 : Nat} {b c : Nat} {M : MM} {hi : Nat} {W : Nat → Nat → Int32} {a1 : Int32} {a2 : Int32} {r : (String ⊕ Int32)} (hf0 : 9 ≤ f0) (hc1 : 609 ≤ c) (h : f_X9_isTrackOpen W a1 a2 = some r) : Ex G f0 mX9_isTrackOpen [.ref (b), .int a1, .int a2] (MEM b c W M) hi 2 12 (RP (rhoI r) (MEM b c W M)) := by
  obtain ⟨f, rfl, hf⟩ := suc_of hf0
  unfold f_X9_isTrackOpen at h
  refine ⟨Nat.le_of_ble_eq_true rfl, ?_⟩
  refine V_aload_n (i := 0) dX9_isTrackOpen_0 rfl rfl ?_
  refine V_iload_n (i := 1) dX9_isTrackOpen_1 rfl rfl ?_
  refine D_tVU (As := [_]) (k2 := 1) (n2 := 6) h dX9_isTrackOpen_2 cv_X9_115 rfl ⟨_, _, _, (mem_x9 hc1), rfl, rfl⟩ rfl (Nat.le_of_ble_eq_true rfl) (fun x hx => e_X9_checkStation (Nat.le_trans (Nat.le_of_ble_eq_true rfl) hf) hc1 hx) (fun e hi h => Or.inl ⟨rfl, by obtain rfl := Option.some.inj h; exact ⟨rfl, rfl⟩⟩) fun hi h => ?_
  refine V_aload_n (i := 0) dX9_isTrackOpen_5 rfl rfl ?_
  refine V_iload_n (i := 2) dX9_isTrackOpen_6 rfl rfl ?_
  refine D_tVU (As := [_]) (k2 := 1) (n2 := 6) h dX9_isTrackOpen_7 cv_X9_115 rfl ⟨_, _, _, (mem_x9 hc1), rfl, rfl⟩ rfl (Nat.le_of_ble_eq_true rfl) (fun x hx => e_X9_checkStation (Nat.le_trans (Nat.le_of_ble_eq_true rfl) hf) hc1 hx) (fun e hi h => Or.inl ⟨rfl, by obtain rfl := Option.some.inj h; exact ⟨rfl, rfl⟩⟩) fun hi h => ?_
  refine V_aload_n (i := 0) dX9_isTrackOpen_10 rfl rfl ?_
  refine V_getfield dX9_isTrackOpen_11 (mem_x9 hc1) fl_X9_10 rfl ?_
  refine V_iload_n (i := 1) dX9_isTrackOpen_14 rfl rfl ?_
  refine V_iload_n (i := 2) dX9_isTrackOpen_15 rfl rfl ?_
  refine D_cVI (As := [_, _]) h dX9_isTrackOpen_16 cv_X9_144 rfl ⟨_, _, _, (mst_o (u := 0) hc1 (by decide) rfl), rfl, rfl⟩ rfl (Nat.le_of_ble_eq_true rfl) (fun x hx => lift0 (u := 0) hc1 (by decide) rfl (e_X4_findTrack (Nat.le_trans (Nat.le_of_ble_eq_true rfl) hf) hx)) fun v1 h => ?_
  refine V_istore_n (i := 3) dX9_isTrackOpen_19 rfl (Nat.le_of_ble_eq_true rfl) ?_
  refine V_iload_n (i := 3) dX9_isTrackOpen_20 rfl rfl ?_
  refine V_iconst (v := -1) dX9_isTrackOpen_21 (by decide) ?_
  refine D_icmp_eq (tgt := 44) h dX9_isTrackOpen_22 rfl (fun b2 h => ?_) (fun b2 h => ?_)
  · refine V_iconst (v := 0) dX9_isTrackOpen_44 (by decide) ?_
    obtain rfl := Option.some.inj h
    exact V_ireturn dX9_isTrackOpen_45 ⟨_, rfl, rfl⟩ ⟨rfl, rfl⟩
  · refine V_aload_n (i := 0) dX9_isTrackOpen_25 rfl rfl ?_
    refine V_getfield dX9_isTrackOpen_26 (mem_x9 hc1) fl_X9_10 rfl ?_
    refine V_getfield dX9_isTrackOpen_29 (mst_o (u := 0) hc1 (by decide) rfl) fl_X9_147 rfl ?_
    refine V_iload_n (i := 3) dX9_isTrackOpen_32 rfl rfl ?_
    refine D_aldTk h (mst (u := 0) hc1 (by decide) rfl) dX9_isTrackOpen_33 fun g3 h => ?_
    refine V_getfield dX9_isTrackOpen_34 (mst_tk (u := 0) hc1 (by decide) rfl g3) fl_X9_156 rfl ?_
    refine D_if_eq (tgt := 44) h dX9_isTrackOpen_37 rfl (fun b4 h => ?_) (fun b4 h => ?_)
    · refine V_iconst (v := 0) dX9_isTrackOpen_44 (by decide) ?_
      obtain rfl := Option.some.inj h
      exact V_ireturn dX9_isTrackOpen_45 ⟨_, rfl, rfl⟩ ⟨rfl, rfl⟩
    · refine V_iconst (v := 1) dX9_isTrackOpen_40 (by decide) ?_
      refine V_goto (tgt := 45) dX9_isTrackOpen_41 rfl ?_
      obtain rfl := Option.some.inj h
      exact V_ireturn dX9_isTrackOpen_45 ⟨_, rfl, rfl⟩ ⟨rfl, rfl⟩
noncomputable def f_X9_load (W : Nat → Nat → Int32) : Option ((String ⊕ Int32) × (Nat → Nat → Int32)) :=
  bdc (f_X3_parse W) (fun W1 => if (W1 13 0) = 0 then bdc (f_X0_remember W1) (fun W3 => bdc (f_X4_copyFrom (W3 0) (W3 2)) (fun S5 => bnd (setU W3 0 S5) (fun W4 => some (.inr (W4 0 1), W4)))) else some (.inl "java/lang/IllegalArgumentException", W1))
theorem e_X9_load {G : GT} {f0 : Nat} {b c : Nat} {M : MM} {hi : Nat} {W : Nat → Nat → Int32} {r : ((String ⊕ Int32) × (Nat → Nat → Int32))} (hf0 : 10 ≤ f0) (hc1 : 609 ≤ c) (h : f_X9_load W = some r) : Ex G f0 mX9_load [.ref (b)] (MEM b c W M) hi 1 6 (RP (rhoI r.1) (MEM b c r.2 M)) := by
  obtain ⟨f, rfl, hf⟩ := suc_of hf0
  unfold f_X9_load at h
  refine ⟨Nat.le_of_ble_eq_true rfl, ?_⟩
  refine V_aload_n (i := 0) dX9_load_0 rfl rfl ?_
  refine V_getfield dX9_load_1 (mem_x9 hc1) fl_X9_22 rfl ?_
  refine D_cVU (As := []) (μ := fun W1 => (MEM b c W1 M)) h dX9_load_4 cv_X9_60 rfl ⟨_, _, _, (mem_13 hc1), rfl, rfl⟩ rfl (Nat.le_of_ble_eq_true rfl) (fun y hx => e_X3_parse (Nat.le_trans (Nat.le_of_ble_eq_true rfl) hf) hc1 hx) fun W1 h => ?_
  refine V_aload_n (i := 0) dX9_load_7 rfl rfl ?_
  refine V_getfield dX9_load_8 (mem_x9 hc1) fl_X9_22 rfl ?_
  refine V_getfield dX9_load_11 (mem_13 hc1) fl_X9_89 rfl ?_
  refine D_if_eq (tgt := 27) h dX9_load_14 rfl (fun b2 h => ?_) (fun b2 h => ?_)
  · refine V_aload_n (i := 0) dX9_load_27 rfl rfl ?_
    refine V_getfield dX9_load_28 (mem_x9 hc1) fl_X9_29 rfl ?_
    refine V_aload_n (i := 0) dX9_load_31 rfl rfl ?_
    refine V_getfield dX9_load_32 (mem_x9 hc1) fl_X9_10 rfl ?_
    refine D_cVU (As := [_]) (μ := fun W3 => (MEM b c W3 M)) h dX9_load_35 cv_X9_94 rfl ⟨_, _, _, (mem_17 hc1), rfl, rfl⟩ rfl (Nat.le_of_ble_eq_true rfl) (fun y hx => e_X0_remember (Nat.le_trans (Nat.le_of_ble_eq_true rfl) hf) hc1 hx) fun W3 h => ?_
    refine V_aload_n (i := 0) dX9_load_38 rfl rfl ?_
    refine V_getfield dX9_load_39 (mem_x9 hc1) fl_X9_10 rfl ?_
    refine V_aload_n (i := 0) dX9_load_42 rfl rfl ?_
    refine V_getfield dX9_load_43 (mem_x9 hc1) fl_X9_22 rfl ?_
    refine V_getfield dX9_load_46 (mem_13 hc1) fl_X9_63 rfl ?_
    refine D_cVU (As := [_]) (μ := fun S5 => (MEM b c (setU W3 0 S5) M)) h dX9_load_49 cv_X9_66 rfl ⟨_, _, _, (mst_o (u := 0) hc1 (by decide) rfl), rfl, rfl⟩ rfl (Nat.le_of_ble_eq_true rfl) (fun y hx => lift2 (u := 0) (v := 2) hc1 (by decide) (by decide) rfl rfl (e_X4_copyFrom (Nat.le_trans (Nat.le_of_ble_eq_true rfl) hf) (show apt (b + 1) (b + 96) by unfold apt; omega) hx)) fun S5 h => ?_
    refine D3_gen (μ := fun W => (MEM b c W M)) h fun W4 h => ?_
    refine V_aload_n (i := 0) dX9_load_52 rfl rfl ?_
    refine V_getfield dX9_load_53 (mem_x9 hc1) fl_X9_10 rfl ?_
    refine V_getfield dX9_load_56 (mst_o (u := 0) hc1 (by decide) rfl) fl_X9_97 rfl ?_
    obtain rfl := Option.some.inj h
    exact V_ireturn dX9_load_59 ⟨_, rfl, rfl⟩ ⟨rfl, rfl⟩
  · obtain rfl := Option.some.inj h
    exact V_throwS (j := 15) dX9_load_17 dX9_load_20 dX9_load_21 dX9_load_23 dX9_load_26 (by decide) tw_1098 tw_1108 (by decide +kernel) (Nat.le_of_ble_eq_true rfl) (Nat.le_trans (Nat.le_of_ble_eq_true rfl) hf) rfl (fun _ _ => ⟨rfl, rfl⟩)
noncomputable def f_X9_loadingBalance (W : Nat → Nat → Int32) : Option Int32 :=
  bdc (f_X4_countCarried (W 0)) (fun v1 => some (((W 0 5) - (W 0 6)) - v1))
theorem e_X9_loadingBalance {G : GT} {f0 : Nat} {b c : Nat} {M : MM} {hi k n : Nat} {W : Nat → Nat → Int32} {r : Int32} (hf0 : 3 ≤ f0) (hc1 : 609 ≤ c) (h : f_X9_loadingBalance W = some r) : Ex G f0 mX9_loadingBalance [.ref (b)] (MEM b c W M) hi k n (RH (.inl (some (.int r))) (MEM b c W M) hi) := by
  obtain ⟨f, rfl, hf⟩ := suc_of hf0
  unfold f_X9_loadingBalance at h
  refine ⟨Nat.le_of_ble_eq_true rfl, ?_⟩
  refine V_aload_n (i := 0) dX9_loadingBalance_0 rfl rfl ?_
  refine V_getfield dX9_loadingBalance_1 (mem_x9 hc1) fl_X9_10 rfl ?_
  refine V_getfield dX9_loadingBalance_4 (mst_o (u := 0) hc1 (by decide) rfl) fl_X9_255 rfl ?_
  refine V_aload_n (i := 0) dX9_loadingBalance_7 rfl rfl ?_
  refine V_getfield dX9_loadingBalance_8 (mem_x9 hc1) fl_X9_10 rfl ?_
  refine V_getfield dX9_loadingBalance_11 (mst_o (u := 0) hc1 (by decide) rfl) fl_X9_258 rfl ?_
  refine V_isub dX9_loadingBalance_14 ?_
  refine V_aload_n (i := 0) dX9_loadingBalance_15 rfl rfl ?_
  refine V_getfield dX9_loadingBalance_16 (mem_x9 hc1) fl_X9_10 rfl ?_
  refine D_cVI (As := []) h dX9_loadingBalance_19 cv_X9_252 rfl ⟨_, _, _, (mst_o (u := 0) hc1 (by decide) rfl), rfl, rfl⟩ rfl (Nat.le_of_ble_eq_true rfl) (fun x hx => lift0 (u := 0) hc1 (by decide) rfl (e_X4_countCarried (Nat.le_trans (Nat.le_of_ble_eq_true rfl) hf) hx)) fun v1 h => ?_
  refine V_isub dX9_loadingBalance_22 ?_
  obtain rfl := Option.some.inj h
  exact V_ireturn dX9_loadingBalance_23 ⟨_, rfl, rfl⟩ ⟨rfl, rfl, rfl⟩
noncomputable def f_X9_minutesToNext (W : Nat → Nat → Int32) (a1 : Int32) : Option (String ⊕ Int32) :=
  bdt (f_X9_checkTrain W a1) (fun e => some (.inl e)) (fun _ => gd (inr a1 4) (bnd (W 0 (87 + 14 * ix a1 + 10)) (fun v2 => if v2 = 0 then some (.inr (-1 : Int32)) else some (.inr v2))))
theorem e_X9_minutesToNext {G : GT} {f0 : Nat} {b c : Nat} {M : MM} {hi : Nat} {W : Nat → Nat → Int32} {a1 : Int32} {r : (String ⊕ Int32)} (hf0 : 9 ≤ f0) (hc1 : 609 ≤ c) (h : f_X9_minutesToNext W a1 = some r) : Ex G f0 mX9_minutesToNext [.ref (b), .int a1] (MEM b c W M) hi 1 6 (RP (rhoI r) (MEM b c W M)) := by
  obtain ⟨f, rfl, hf⟩ := suc_of hf0
  unfold f_X9_minutesToNext at h
  refine ⟨Nat.le_of_ble_eq_true rfl, ?_⟩
  refine V_aload_n (i := 0) dX9_minutesToNext_0 rfl rfl ?_
  refine V_iload_n (i := 1) dX9_minutesToNext_1 rfl rfl ?_
  refine D_tVU (As := [_]) (k2 := 1) (n2 := 6) h dX9_minutesToNext_2 cv_X9_162 rfl ⟨_, _, _, (mem_x9 hc1), rfl, rfl⟩ rfl (Nat.le_of_ble_eq_true rfl) (fun x hx => e_X9_checkTrain (Nat.le_trans (Nat.le_of_ble_eq_true rfl) hf) hc1 hx) (fun e hi h => Or.inl ⟨rfl, by obtain rfl := Option.some.inj h; exact ⟨rfl, rfl⟩⟩) fun hi h => ?_
  refine V_aload_n (i := 0) dX9_minutesToNext_5 rfl rfl ?_
  refine V_getfield dX9_minutesToNext_6 (mem_x9 hc1) fl_X9_10 rfl ?_
  refine V_getfield dX9_minutesToNext_9 (mst_o (u := 0) hc1 (by decide) rfl) fl_X9_165 rfl ?_
  refine V_iload_n (i := 1) dX9_minutesToNext_12 rfl rfl ?_
  refine D_aldTr h (mst (u := 0) hc1 (by decide) rfl) dX9_minutesToNext_13 fun g1 h => ?_
  refine V_getfield dX9_minutesToNext_14 (mst_tr (u := 0) hc1 (by decide) rfl g1) fl_X9_196 rfl ?_
  refine D_istore_n (i := 2) h dX9_minutesToNext_17 rfl (Nat.le_of_ble_eq_true rfl) fun v2 h => ?_
  refine V_iload_n (i := 2) dX9_minutesToNext_18 rfl rfl ?_
  refine D_if_ne (tgt := 26) h dX9_minutesToNext_19 rfl (fun b3 h => ?_) (fun b3 h => ?_)
  · refine V_iload_n (i := 2) dX9_minutesToNext_26 rfl rfl ?_
    obtain rfl := Option.some.inj h
    exact V_ireturn dX9_minutesToNext_27 ⟨_, rfl, rfl⟩ ⟨rfl, rfl⟩
  · refine V_iconst (v := -1) dX9_minutesToNext_22 (by decide) ?_
    refine V_goto (tgt := 27) dX9_minutesToNext_23 rfl ?_
    obtain rfl := Option.some.inj h
    exact V_ireturn dX9_minutesToNext_27 ⟨_, rfl, rfl⟩ ⟨rfl, rfl⟩
noncomputable def f_X9_nextStation (W : Nat → Nat → Int32) (a1 : Int32) : Option (String ⊕ Int32) :=
  bdt (f_X9_checkTrain W a1) (fun e => some (.inl e)) (fun _ => gd (inr a1 4) (bdc (f_X8_stationAhead (W 0) (ix a1) (1 : Int32)) (fun v2 => some (.inr v2))))
theorem e_X9_nextStation {G : GT} {f0 : Nat} {b c : Nat} {M : MM} {hi : Nat} {W : Nat → Nat → Int32} {a1 : Int32} {r : (String ⊕ Int32)} (hf0 : 9 ≤ f0) (hc1 : 609 ≤ c) (h : f_X9_nextStation W a1 = some r) : Ex G f0 mX9_nextStation [.ref (b), .int a1] (MEM b c W M) hi 1 6 (RP (rhoI r) (MEM b c W M)) := by
  obtain ⟨f, rfl, hf⟩ := suc_of hf0
  unfold f_X9_nextStation at h
  refine ⟨Nat.le_of_ble_eq_true rfl, ?_⟩
  refine V_aload_n (i := 0) dX9_nextStation_0 rfl rfl ?_
  refine V_iload_n (i := 1) dX9_nextStation_1 rfl rfl ?_
  refine D_tVU (As := [_]) (k2 := 1) (n2 := 6) h dX9_nextStation_2 cv_X9_162 rfl ⟨_, _, _, (mem_x9 hc1), rfl, rfl⟩ rfl (Nat.le_of_ble_eq_true rfl) (fun x hx => e_X9_checkTrain (Nat.le_trans (Nat.le_of_ble_eq_true rfl) hf) hc1 hx) (fun e hi h => Or.inl ⟨rfl, by obtain rfl := Option.some.inj h; exact ⟨rfl, rfl⟩⟩) fun hi h => ?_
  refine V_aload_n (i := 0) dX9_nextStation_5 rfl rfl ?_
  refine V_getfield dX9_nextStation_6 (mem_x9 hc1) fl_X9_10 rfl ?_
  refine V_getfield dX9_nextStation_9 (mst_o (u := 0) hc1 (by decide) rfl) fl_X9_165 rfl ?_
  refine V_iload_n (i := 1) dX9_nextStation_12 rfl rfl ?_
  refine D_aldTr h (mst (u := 0) hc1 (by decide) rfl) dX9_nextStation_13 fun g1 h => ?_
  refine V_iconst (v := 1) dX9_nextStation_14 (by decide) ?_
  refine D_cVI (As := [_]) h dX9_nextStation_15 cv_X9_190 rfl ⟨_, _, _, (mst_tr (u := 0) hc1 (by decide) rfl g1), rfl, rfl⟩ rfl (Nat.le_of_ble_eq_true rfl) (fun x hx => lift0 (u := 0) hc1 (by decide) rfl (e_X8_stationAhead (Nat.le_trans (Nat.le_of_ble_eq_true rfl) hf) g1 hx)) fun v2 h => ?_
  obtain rfl := Option.some.inj h
  exact V_ireturn dX9_nextStation_18 ⟨_, rfl, rfl⟩ ⟨rfl, rfl⟩
noncomputable def f_X9_origin (W : Nat → Nat → Int32) (a1 : Int32) : Option (String ⊕ Int32) :=
  bdt (f_X9_checkParcel W a1) (fun e => some (.inl e)) (fun _ => gd (inr a1 12) (some (.inr (W 0 (143 + 9 * ix a1)))))
theorem e_X9_origin {G : GT} {f0 : Nat} {b c : Nat} {M : MM} {hi : Nat} {W : Nat → Nat → Int32} {a1 : Int32} {r : (String ⊕ Int32)} (hf0 : 9 ≤ f0) (hc1 : 609 ≤ c) (h : f_X9_origin W a1 = some r) : Ex G f0 mX9_origin [.ref (b), .int a1] (MEM b c W M) hi 1 6 (RP (rhoI r) (MEM b c W M)) := by
  obtain ⟨f, rfl, hf⟩ := suc_of hf0
  unfold f_X9_origin at h
  refine ⟨Nat.le_of_ble_eq_true rfl, ?_⟩
  refine V_aload_n (i := 0) dX9_origin_0 rfl rfl ?_
  refine V_iload_n (i := 1) dX9_origin_1 rfl rfl ?_
  refine D_tVU (As := [_]) (k2 := 1) (n2 := 6) h dX9_origin_2 cv_X9_208 rfl ⟨_, _, _, (mem_x9 hc1), rfl, rfl⟩ rfl (Nat.le_of_ble_eq_true rfl) (fun x hx => e_X9_checkParcel (Nat.le_trans (Nat.le_of_ble_eq_true rfl) hf) hc1 hx) (fun e hi h => Or.inl ⟨rfl, by obtain rfl := Option.some.inj h; exact ⟨rfl, rfl⟩⟩) fun hi h => ?_
  refine V_aload_n (i := 0) dX9_origin_5 rfl rfl ?_
  refine V_getfield dX9_origin_6 (mem_x9 hc1) fl_X9_10 rfl ?_
  refine V_getfield dX9_origin_9 (mst_o (u := 0) hc1 (by decide) rfl) fl_X9_211 rfl ?_
  refine V_iload_n (i := 1) dX9_origin_12 rfl rfl ?_
  refine D_aldPc h (mst (u := 0) hc1 (by decide) rfl) dX9_origin_13 fun g1 h => ?_
  refine V_getfield dX9_origin_14 (mst_pc (u := 0) hc1 (by decide) rfl g1) fl_X9_215 rfl ?_
  obtain rfl := Option.some.inj h
  exact V_ireturn dX9_origin_17 ⟨_, rfl, rfl⟩ ⟨rfl, rfl⟩
noncomputable def l_X9_parcelBalance_18 (W : Nat → Nat → Int32) : Nat → Int32 → Int32 → Option Int32
  | 0, _, _ => none
  | N + 1, x1, x2 => if (W 0 1) ≤ x2 then bdc (f_X4_countCarried (W 0)) (fun v4 => some (x1 - v4)) else bdc (f_X4_countWaitingAt (W 0) x2) (fun v5 => bnd (x1 - v5) (fun v6 => l_X9_parcelBalance_18 W N v6 (x2 + (1 : Int32))))
theorem lv_X9_parcelBalance_18 {G : GT} {f : Nat} {b c : Nat} {M : MM} {hi k n : Nat} {W : Nat → Nat → Int32} {r : Int32} (hf : 2 ≤ f) (hc1 : 609 ≤ c) : ∀ (N : Nat) (x1 : Int32) (x2 : Int32) , l_X9_parcelBalance_18 W N x1 x2 = some r → V G f (Ex G f) mX9_parcelBalance (RH (.inl (some (.int r))) (MEM b c W M) hi) 18 [(0, .ref (b)), (1, .int x1), (2, .int x2)] [] (MEM b c W M) hi k n := by
  intro N
  induction N with
  | zero => intro x1 x2 h; cases h
  | succ N ih =>
    intro x1 x2 h
    rw [l_X9_parcelBalance_18] at h
    refine V_iload_n (i := 2) dX9_parcelBalance_18 rfl rfl ?_
    refine V_aload_n (i := 0) dX9_parcelBalance_19 rfl rfl ?_
    refine V_getfield dX9_parcelBalance_20 (mem_x9 hc1) fl_X9_10 rfl ?_
    refine V_getfield dX9_parcelBalance_23 (mst_o (u := 0) hc1 (by decide) rfl) fl_X9_97 rfl ?_
    refine D_icmp_ge (tgt := 46) h dX9_parcelBalance_26 rfl (fun b3 h => ?_) (fun b3 h => ?_)
    · refine V_iload_n (i := 1) dX9_parcelBalance_46 rfl rfl ?_
      refine V_aload_n (i := 0) dX9_parcelBalance_47 rfl rfl ?_
      refine V_getfield dX9_parcelBalance_48 (mem_x9 hc1) fl_X9_10 rfl ?_
      refine D_cVI (As := []) h dX9_parcelBalance_51 cv_X9_252 rfl ⟨_, _, _, (mst_o (u := 0) hc1 (by decide) rfl), rfl, rfl⟩ rfl (Nat.le_of_ble_eq_true rfl) (fun x hx => lift0 (u := 0) hc1 (by decide) rfl (e_X4_countCarried (Nat.le_trans (Nat.le_of_ble_eq_true rfl) hf) hx)) fun v4 h => ?_
      refine V_isub dX9_parcelBalance_54 ?_
      obtain rfl := Option.some.inj h
      exact V_ireturn dX9_parcelBalance_55 ⟨_, rfl, rfl⟩ ⟨rfl, rfl, rfl⟩
    · refine V_iload_n (i := 1) dX9_parcelBalance_29 rfl rfl ?_
      refine V_aload_n (i := 0) dX9_parcelBalance_30 rfl rfl ?_
      refine V_getfield dX9_parcelBalance_31 (mem_x9 hc1) fl_X9_10 rfl ?_
      refine V_iload_n (i := 2) dX9_parcelBalance_34 rfl rfl ?_
      refine D_cVI (As := [_]) h dX9_parcelBalance_35 cv_X9_131 rfl ⟨_, _, _, (mst_o (u := 0) hc1 (by decide) rfl), rfl, rfl⟩ rfl (Nat.le_of_ble_eq_true rfl) (fun x hx => lift0 (u := 0) hc1 (by decide) rfl (e_X4_countWaitingAt (Nat.le_trans (Nat.le_of_ble_eq_true rfl) hf) hx)) fun v5 h => ?_
      refine V_isub dX9_parcelBalance_38 ?_
      refine D_istore_n (i := 1) h dX9_parcelBalance_39 rfl (Nat.le_of_ble_eq_true rfl) fun v6 h => ?_
      refine D_iinc (i := 2) (w := 1) dX9_parcelBalance_40 rfl (by decide) (Nat.le_of_ble_eq_true rfl) ?_
      refine V_goto (tgt := 18) dX9_parcelBalance_43 rfl ?_
      exact V_sub (ks := [2, 1, 0]) rfl (ih _ _ h)
noncomputable def f_X9_parcelBalance (W : Nat → Nat → Int32) : Option Int32 :=
  bdc (f_X4_countDelivered (W 0)) (fun v1 => bnd ((W 0 4) - v1) (fun v2 => l_X9_parcelBalance_18 W FU v2 (0 : Int32)))
theorem e_X9_parcelBalance {G : GT} {f0 : Nat} {b c : Nat} {M : MM} {hi k n : Nat} {W : Nat → Nat → Int32} {r : Int32} (hf0 : 3 ≤ f0) (hc1 : 609 ≤ c) (h : f_X9_parcelBalance W = some r) : Ex G f0 mX9_parcelBalance [.ref (b)] (MEM b c W M) hi k n (RH (.inl (some (.int r))) (MEM b c W M) hi) := by
  obtain ⟨f, rfl, hf⟩ := suc_of hf0
  unfold f_X9_parcelBalance at h
  refine ⟨Nat.le_of_ble_eq_true rfl, ?_⟩
  refine V_aload_n (i := 0) dX9_parcelBalance_0 rfl rfl ?_
  refine V_getfield dX9_parcelBalance_1 (mem_x9 hc1) fl_X9_10 rfl ?_
  refine V_getfield dX9_parcelBalance_4 (mst_o (u := 0) hc1 (by decide) rfl) fl_X9_112 rfl ?_
  refine V_aload_n (i := 0) dX9_parcelBalance_7 rfl rfl ?_
  refine V_getfield dX9_parcelBalance_8 (mem_x9 hc1) fl_X9_10 rfl ?_
  refine D_cVI (As := []) h dX9_parcelBalance_11 cv_X9_249 rfl ⟨_, _, _, (mst_o (u := 0) hc1 (by decide) rfl), rfl, rfl⟩ rfl (Nat.le_of_ble_eq_true rfl) (fun x hx => lift0 (u := 0) hc1 (by decide) rfl (e_X4_countDelivered (Nat.le_trans (Nat.le_of_ble_eq_true rfl) hf) hx)) fun v1 h => ?_
  refine V_isub dX9_parcelBalance_14 ?_
  refine D_istore_n (i := 1) h dX9_parcelBalance_15 rfl (Nat.le_of_ble_eq_true rfl) fun v2 h => ?_
  refine V_iconst (v := 0) dX9_parcelBalance_16 (by decide) ?_
  refine V_istore_n (i := 2) dX9_parcelBalance_17 rfl (Nat.le_of_ble_eq_true rfl) ?_
  refine V_sub (ks := [2, 1, 0]) rfl (lv_X9_parcelBalance_18 hf hc1 FU _ _ h)
noncomputable def f_X9_parcelCount (W : Nat → Nat → Int32) : Option Int32 :=
  some (W 0 4)
theorem e_X9_parcelCount {G : GT} {f0 : Nat} {b c : Nat} {M : MM} {hi k n : Nat} {W : Nat → Nat → Int32} {r : Int32} (hf0 : 1 ≤ f0) (hc1 : 609 ≤ c) (h : f_X9_parcelCount W = some r) : Ex G f0 mX9_parcelCount [.ref (b)] (MEM b c W M) hi k n (RH (.inl (some (.int r))) (MEM b c W M) hi) := by
  obtain ⟨f, rfl, hf⟩ := suc_of hf0
  unfold f_X9_parcelCount at h
  refine ⟨Nat.le_of_ble_eq_true rfl, ?_⟩
  refine V_aload_n (i := 0) dX9_parcelCount_0 rfl rfl ?_
  refine V_getfield dX9_parcelCount_1 (mem_x9 hc1) fl_X9_10 rfl ?_
  refine V_getfield dX9_parcelCount_4 (mst_o (u := 0) hc1 (by decide) rfl) fl_X9_112 rfl ?_
  obtain rfl := Option.some.inj h
  exact V_ireturn dX9_parcelCount_7 ⟨_, rfl, rfl⟩ ⟨rfl, rfl, rfl⟩
noncomputable def f_X9_parcelStation (W : Nat → Nat → Int32) (a1 : Int32) : Option (String ⊕ Int32) :=
  bdt (f_X9_checkParcel W a1) (fun e => some (.inl e)) (fun _ => gd (inr a1 12) (some (.inr (W 0 (143 + 9 * ix a1 + 3)))))
theorem e_X9_parcelStation {G : GT} {f0 : Nat} {b c : Nat} {M : MM} {hi : Nat} {W : Nat → Nat → Int32} {a1 : Int32} {r : (String ⊕ Int32)} (hf0 : 9 ≤ f0) (hc1 : 609 ≤ c) (h : f_X9_parcelStation W a1 = some r) : Ex G f0 mX9_parcelStation [.ref (b), .int a1] (MEM b c W M) hi 1 6 (RP (rhoI r) (MEM b c W M)) := by
  obtain ⟨f, rfl, hf⟩ := suc_of hf0
  unfold f_X9_parcelStation at h
  refine ⟨Nat.le_of_ble_eq_true rfl, ?_⟩
  refine V_aload_n (i := 0) dX9_parcelStation_0 rfl rfl ?_
  refine V_iload_n (i := 1) dX9_parcelStation_1 rfl rfl ?_
  refine D_tVU (As := [_]) (k2 := 1) (n2 := 6) h dX9_parcelStation_2 cv_X9_208 rfl ⟨_, _, _, (mem_x9 hc1), rfl, rfl⟩ rfl (Nat.le_of_ble_eq_true rfl) (fun x hx => e_X9_checkParcel (Nat.le_trans (Nat.le_of_ble_eq_true rfl) hf) hc1 hx) (fun e hi h => Or.inl ⟨rfl, by obtain rfl := Option.some.inj h; exact ⟨rfl, rfl⟩⟩) fun hi h => ?_
  refine V_aload_n (i := 0) dX9_parcelStation_5 rfl rfl ?_
  refine V_getfield dX9_parcelStation_6 (mem_x9 hc1) fl_X9_10 rfl ?_
  refine V_getfield dX9_parcelStation_9 (mst_o (u := 0) hc1 (by decide) rfl) fl_X9_211 rfl ?_
  refine V_iload_n (i := 1) dX9_parcelStation_12 rfl rfl ?_
  refine D_aldPc h (mst (u := 0) hc1 (by decide) rfl) dX9_parcelStation_13 fun g1 h => ?_
  refine V_getfield dX9_parcelStation_14 (mst_pc (u := 0) hc1 (by decide) rfl g1) fl_X9_226 rfl ?_
  obtain rfl := Option.some.inj h
  exact V_ireturn dX9_parcelStation_17 ⟨_, rfl, rfl⟩ ⟨rfl, rfl⟩
noncomputable def f_X9_parcelTrain (W : Nat → Nat → Int32) (a1 : Int32) : Option (String ⊕ Int32) :=
  bdt (f_X9_checkParcel W a1) (fun e => some (.inl e)) (fun _ => gd (inr a1 12) (some (.inr (W 0 (143 + 9 * ix a1 + 4)))))
theorem e_X9_parcelTrain {G : GT} {f0 : Nat} {b c : Nat} {M : MM} {hi : Nat} {W : Nat → Nat → Int32} {a1 : Int32} {r : (String ⊕ Int32)} (hf0 : 9 ≤ f0) (hc1 : 609 ≤ c) (h : f_X9_parcelTrain W a1 = some r) : Ex G f0 mX9_parcelTrain [.ref (b), .int a1] (MEM b c W M) hi 1 6 (RP (rhoI r) (MEM b c W M)) := by
  obtain ⟨f, rfl, hf⟩ := suc_of hf0
  unfold f_X9_parcelTrain at h
  refine ⟨Nat.le_of_ble_eq_true rfl, ?_⟩
  refine V_aload_n (i := 0) dX9_parcelTrain_0 rfl rfl ?_
  refine V_iload_n (i := 1) dX9_parcelTrain_1 rfl rfl ?_
  refine D_tVU (As := [_]) (k2 := 1) (n2 := 6) h dX9_parcelTrain_2 cv_X9_208 rfl ⟨_, _, _, (mem_x9 hc1), rfl, rfl⟩ rfl (Nat.le_of_ble_eq_true rfl) (fun x hx => e_X9_checkParcel (Nat.le_trans (Nat.le_of_ble_eq_true rfl) hf) hc1 hx) (fun e hi h => Or.inl ⟨rfl, by obtain rfl := Option.some.inj h; exact ⟨rfl, rfl⟩⟩) fun hi h => ?_
  refine V_aload_n (i := 0) dX9_parcelTrain_5 rfl rfl ?_
  refine V_getfield dX9_parcelTrain_6 (mem_x9 hc1) fl_X9_10 rfl ?_
  refine V_getfield dX9_parcelTrain_9 (mst_o (u := 0) hc1 (by decide) rfl) fl_X9_211 rfl ?_
  refine V_iload_n (i := 1) dX9_parcelTrain_12 rfl rfl ?_
  refine D_aldPc h (mst (u := 0) hc1 (by decide) rfl) dX9_parcelTrain_13 fun g1 h => ?_
  refine V_getfield dX9_parcelTrain_14 (mst_pc (u := 0) hc1 (by decide) rfl g1) fl_X9_229 rfl ?_
  obtain rfl := Option.some.inj h
  exact V_ireturn dX9_parcelTrain_17 ⟨_, rfl, rfl⟩ ⟨rfl, rfl⟩
noncomputable def f_X9_pass (W : Nat → Nat → Int32) (a1 : Int32) : Option ((String ⊕ Int32) × (Nat → Nat → Int32)) :=
  bdt (f_X9_checkRange a1 (1 : Int32) (60 : Int32)) (fun e => some (.inl e, W)) (fun _ => bdc (f_X0_remember W) (fun W1 => bdc (f_X4_countDelivered (W1 0)) (fun v2 => bdc (f_X4_passMinutes (W1 0) a1) (fun S4 => bnd (setU W1 0 S4) (fun W3 => bdc (f_X4_countDelivered (W3 0)) (fun v5 => some (.inr (v5 - v2), W3)))))))
theorem e_X9_pass {G : GT} {f0 : Nat} {b c : Nat} {M : MM} {hi : Nat} {W : Nat → Nat → Int32} {a1 : Int32} {r : ((String ⊕ Int32) × (Nat → Nat → Int32))} (hf0 : 9 ≤ f0) (hc1 : 609 ≤ c) (h : f_X9_pass W a1 = some r) : Ex G f0 mX9_pass [.ref (b), .int a1] (MEM b c W M) hi 1 6 (RP (rhoI r.1) (MEM b c r.2 M)) := by
  obtain ⟨f, rfl, hf⟩ := suc_of hf0
  unfold f_X9_pass at h
  refine ⟨Nat.le_of_ble_eq_true rfl, ?_⟩
  refine V_iload_n (i := 1) dX9_pass_0 rfl rfl ?_
  refine V_iconst (v := 1) dX9_pass_1 (by decide) ?_
  refine V_bipush (v := 60) dX9_pass_2 (by decide) ?_
  refine D_tSU (As := [_, _, _]) (k2 := 1) (n2 := 6) h dX9_pass_4 cs_X9_274 rfl rfl (Nat.le_of_ble_eq_true rfl) (fun x hx => e_X9_checkRange (Nat.le_trans (Nat.le_of_ble_eq_true rfl) hf) hx) (fun e hi h => Or.inl ⟨rfl, by obtain rfl := Option.some.inj h; exact ⟨rfl, rfl⟩⟩) fun hi h => ?_
  refine V_aload_n (i := 0) dX9_pass_7 rfl rfl ?_
  refine V_getfield dX9_pass_8 (mem_x9 hc1) fl_X9_29 rfl ?_
  refine V_aload_n (i := 0) dX9_pass_11 rfl rfl ?_
  refine V_getfield dX9_pass_12 (mem_x9 hc1) fl_X9_10 rfl ?_
  refine D_cVU (As := [_]) (μ := fun W1 => (MEM b c W1 M)) h dX9_pass_15 cv_X9_94 rfl ⟨_, _, _, (mem_17 hc1), rfl, rfl⟩ rfl (Nat.le_of_ble_eq_true rfl) (fun y hx => e_X0_remember (Nat.le_trans (Nat.le_of_ble_eq_true rfl) hf) hc1 hx) fun W1 h => ?_
  refine V_aload_n (i := 0) dX9_pass_18 rfl rfl ?_
  refine V_getfield dX9_pass_19 (mem_x9 hc1) fl_X9_10 rfl ?_
  refine D_cVI (As := []) h dX9_pass_22 cv_X9_249 rfl ⟨_, _, _, (mst_o (u := 0) hc1 (by decide) rfl), rfl, rfl⟩ rfl (Nat.le_of_ble_eq_true rfl) (fun x hx => lift0 (u := 0) hc1 (by decide) rfl (e_X4_countDelivered (Nat.le_trans (Nat.le_of_ble_eq_true rfl) hf) hx)) fun v2 h => ?_
  refine V_istore_n (i := 2) dX9_pass_25 rfl (Nat.le_of_ble_eq_true rfl) ?_
  refine V_aload_n (i := 0) dX9_pass_26 rfl rfl ?_
  refine V_getfield dX9_pass_27 (mem_x9 hc1) fl_X9_10 rfl ?_
  refine V_iload_n (i := 1) dX9_pass_30 rfl rfl ?_
  refine D_cVU (As := [_]) (μ := fun S4 => (MEM b c (setU W1 0 S4) M)) h dX9_pass_31 cv_X9_278 rfl ⟨_, _, _, (mst_o (u := 0) hc1 (by decide) rfl), rfl, rfl⟩ rfl (Nat.le_of_ble_eq_true rfl) (fun y hx => lift1 (u := 0) hc1 (by decide) rfl (e_X4_passMinutes (Nat.le_trans (Nat.le_of_ble_eq_true rfl) hf) hx)) fun S4 h => ?_
  refine D3_gen (μ := fun W => (MEM b c W M)) h fun W3 h => ?_
  refine V_aload_n (i := 0) dX9_pass_34 rfl rfl ?_
  refine V_getfield dX9_pass_35 (mem_x9 hc1) fl_X9_10 rfl ?_
  refine D_cVI (As := []) h dX9_pass_38 cv_X9_249 rfl ⟨_, _, _, (mst_o (u := 0) hc1 (by decide) rfl), rfl, rfl⟩ rfl (Nat.le_of_ble_eq_true rfl) (fun x hx => lift0 (u := 0) hc1 (by decide) rfl (e_X4_countDelivered (Nat.le_trans (Nat.le_of_ble_eq_true rfl) hf) hx)) fun v5 h => ?_
  refine V_iload_n (i := 2) dX9_pass_41 rfl rfl ?_
  refine V_isub dX9_pass_42 ?_
  obtain rfl := Option.some.inj h
  exact V_ireturn dX9_pass_43 ⟨_, rfl, rfl⟩ ⟨rfl, rfl⟩
noncomputable def f_X9_priority (W : Nat → Nat → Int32) (a1 : Int32) : Option (String ⊕ Int32) :=
  bdt (f_X9_checkParcel W a1) (fun e => some (.inl e)) (fun _ => gd (inr a1 12) (some (.inr (W 0 (143 + 9 * ix a1 + 2)))))
theorem e_X9_priority {G : GT} {f0 : Nat} {b c : Nat} {M : MM} {hi : Nat} {W : Nat → Nat → Int32} {a1 : Int32} {r : (String ⊕ Int32)} (hf0 : 9 ≤ f0) (hc1 : 609 ≤ c) (h : f_X9_priority W a1 = some r) : Ex G f0 mX9_priority [.ref (b), .int a1] (MEM b c W M) hi 1 6 (RP (rhoI r) (MEM b c W M)) := by
  obtain ⟨f, rfl, hf⟩ := suc_of hf0
  unfold f_X9_priority at h
  refine ⟨Nat.le_of_ble_eq_true rfl, ?_⟩
  refine V_aload_n (i := 0) dX9_priority_0 rfl rfl ?_
  refine V_iload_n (i := 1) dX9_priority_1 rfl rfl ?_
  refine D_tVU (As := [_]) (k2 := 1) (n2 := 6) h dX9_priority_2 cv_X9_208 rfl ⟨_, _, _, (mem_x9 hc1), rfl, rfl⟩ rfl (Nat.le_of_ble_eq_true rfl) (fun x hx => e_X9_checkParcel (Nat.le_trans (Nat.le_of_ble_eq_true rfl) hf) hc1 hx) (fun e hi h => Or.inl ⟨rfl, by obtain rfl := Option.some.inj h; exact ⟨rfl, rfl⟩⟩) fun hi h => ?_
  refine V_aload_n (i := 0) dX9_priority_5 rfl rfl ?_
  refine V_getfield dX9_priority_6 (mem_x9 hc1) fl_X9_10 rfl ?_
  refine V_getfield dX9_priority_9 (mst_o (u := 0) hc1 (by decide) rfl) fl_X9_211 rfl ?_
  refine V_iload_n (i := 1) dX9_priority_12 rfl rfl ?_
  refine D_aldPc h (mst (u := 0) hc1 (by decide) rfl) dX9_priority_13 fun g1 h => ?_
  refine V_getfield dX9_priority_14 (mst_pc (u := 0) hc1 (by decide) rfl g1) fl_X9_223 rfl ?_
  obtain rfl := Option.some.inj h
  exact V_ireturn dX9_priority_17 ⟨_, rfl, rfl⟩ ⟨rfl, rfl⟩
noncomputable def f_X9_requireTrack (W : Nat → Nat → Int32) (a1 : Int32) (a2 : Int32) : Option (String ⊕ Int32) :=
  bdc (f_X4_findTrack (W 0) a1 a2) (fun v1 => if v1 = (-1 : Int32) then some (.inl "java/lang/IllegalArgumentException") else some (.inr v1))
theorem e_X9_requireTrack {G : GT} {f0 : Nat} {b c : Nat} {M : MM} {hi : Nat} {W : Nat → Nat → Int32} {a1 : Int32} {a2 : Int32} {r : (String ⊕ Int32)} (hf0 : 8 ≤ f0) (hc1 : 609 ≤ c) (h : f_X9_requireTrack W a1 a2 = some r) : Ex G f0 mX9_requireTrack [.ref (b), .int a1, .int a2] (MEM b c W M) hi 1 6 (RP (rhoI r) (MEM b c W M)) := by
  obtain ⟨f, rfl, hf⟩ := suc_of hf0
  unfold f_X9_requireTrack at h
  refine ⟨Nat.le_of_ble_eq_true rfl, ?_⟩
  refine V_aload_n (i := 0) dX9_requireTrack_0 rfl rfl ?_
  refine V_getfield dX9_requireTrack_1 (mem_x9 hc1) fl_X9_10 rfl ?_
  refine V_iload_n (i := 1) dX9_requireTrack_4 rfl rfl ?_
  refine V_iload_n (i := 2) dX9_requireTrack_5 rfl rfl ?_
  refine D_cVI (As := [_, _]) h dX9_requireTrack_6 cv_X9_144 rfl ⟨_, _, _, (mst_o (u := 0) hc1 (by decide) rfl), rfl, rfl⟩ rfl (Nat.le_of_ble_eq_true rfl) (fun x hx => lift0 (u := 0) hc1 (by decide) rfl (e_X4_findTrack (Nat.le_trans (Nat.le_of_ble_eq_true rfl) hf) hx)) fun v1 h => ?_
  refine V_istore_n (i := 3) dX9_requireTrack_9 rfl (Nat.le_of_ble_eq_true rfl) ?_
  refine V_iload_n (i := 3) dX9_requireTrack_10 rfl rfl ?_
  refine V_iconst (v := -1) dX9_requireTrack_11 (by decide) ?_
  refine D_icmp_ne (tgt := 26) h dX9_requireTrack_12 rfl (fun b2 h => ?_) (fun b2 h => ?_)
  · refine V_iload_n (i := 3) dX9_requireTrack_26 rfl rfl ?_
    obtain rfl := Option.some.inj h
    exact V_ireturn dX9_requireTrack_27 ⟨_, rfl, rfl⟩ ⟨rfl, rfl⟩
  · obtain rfl := Option.some.inj h
    exact V_throwSW (j := 29) dX9_requireTrack_15 dX9_requireTrack_18 dX9_requireTrack_19 dX9_requireTrack_22 dX9_requireTrack_25 (by decide) tw_1098 tw_1108 (by decide +kernel) (Nat.le_of_ble_eq_true rfl) (Nat.le_trans (Nat.le_of_ble_eq_true rfl) hf) rfl (fun _ _ => ⟨rfl, rfl⟩)
noncomputable def f_X9_routeLength (W : Nat → Nat → Int32) (a1 : Int32) : Option (String ⊕ Int32) :=
  bdt (f_X9_checkTrain W a1) (fun e => some (.inl e)) (fun _ => gd (inr a1 4) (some (.inr (W 0 (87 + 14 * ix a1 + 1)))))
theorem e_X9_routeLength {G : GT} {f0 : Nat} {b c : Nat} {M : MM} {hi : Nat} {W : Nat → Nat → Int32} {a1 : Int32} {r : (String ⊕ Int32)} (hf0 : 9 ≤ f0) (hc1 : 609 ≤ c) (h : f_X9_routeLength W a1 = some r) : Ex G f0 mX9_routeLength [.ref (b), .int a1] (MEM b c W M) hi 1 6 (RP (rhoI r) (MEM b c W M)) := by
  obtain ⟨f, rfl, hf⟩ := suc_of hf0
  unfold f_X9_routeLength at h
  refine ⟨Nat.le_of_ble_eq_true rfl, ?_⟩
  refine V_aload_n (i := 0) dX9_routeLength_0 rfl rfl ?_
  refine V_iload_n (i := 1) dX9_routeLength_1 rfl rfl ?_
  refine D_tVU (As := [_]) (k2 := 1) (n2 := 6) h dX9_routeLength_2 cv_X9_162 rfl ⟨_, _, _, (mem_x9 hc1), rfl, rfl⟩ rfl (Nat.le_of_ble_eq_true rfl) (fun x hx => e_X9_checkTrain (Nat.le_trans (Nat.le_of_ble_eq_true rfl) hf) hc1 hx) (fun e hi h => Or.inl ⟨rfl, by obtain rfl := Option.some.inj h; exact ⟨rfl, rfl⟩⟩) fun hi h => ?_
  refine V_aload_n (i := 0) dX9_routeLength_5 rfl rfl ?_
  refine V_getfield dX9_routeLength_6 (mem_x9 hc1) fl_X9_10 rfl ?_
  refine V_getfield dX9_routeLength_9 (mst_o (u := 0) hc1 (by decide) rfl) fl_X9_165 rfl ?_
  refine V_iload_n (i := 1) dX9_routeLength_12 rfl rfl ?_
  refine D_aldTr h (mst (u := 0) hc1 (by decide) rfl) dX9_routeLength_13 fun g1 h => ?_
  refine V_getfield dX9_routeLength_14 (mst_tr (u := 0) hc1 (by decide) rfl g1) fl_X9_174 rfl ?_
  obtain rfl := Option.some.inj h
  exact V_ireturn dX9_routeLength_17 ⟨_, rfl, rfl⟩ ⟨rfl, rfl⟩
noncomputable def f_X9_routeStation (W : Nat → Nat → Int32) (a1 : Int32) (a2 : Int32) : Option (String ⊕ Int32) :=
  bdt (f_X9_checkTrain W a1) (fun e => some (.inl e)) (fun _ => gd (inr a1 4) (bdc (f_X8_stationAt (W 0) (ix a1) a2) (fun v2 => if v2 = (-1 : Int32) then some (.inl NSE) else some (.inr v2))))
theorem e_X9_routeStation {G : GT} {f0 : Nat} {b c : Nat} {M : MM} {hi : Nat} {W : Nat → Nat → Int32} {a1 : Int32} {a2 : Int32} {r : (String ⊕ Int32)} (hf0 : 9 ≤ f0) (hc1 : 609 ≤ c) (h : f_X9_routeStation W a1 a2 = some r) : Ex G f0 mX9_routeStation [.ref (b), .int a1, .int a2] (MEM b c W M) hi 2 12 (RP (rhoI r) (MEM b c W M)) := by
  obtain ⟨f, rfl, hf⟩ := suc_of hf0
  unfold f_X9_routeStation at h
  refine ⟨Nat.le_of_ble_eq_true rfl, ?_⟩
  refine V_aload_n (i := 0) dX9_routeStation_0 rfl rfl ?_
  refine V_iload_n (i := 1) dX9_routeStation_1 rfl rfl ?_
  refine D_tVU (As := [_]) (k2 := 1) (n2 := 6) h dX9_routeStation_2 cv_X9_162 rfl ⟨_, _, _, (mem_x9 hc1), rfl, rfl⟩ rfl (Nat.le_of_ble_eq_true rfl) (fun x hx => e_X9_checkTrain (Nat.le_trans (Nat.le_of_ble_eq_true rfl) hf) hc1 hx) (fun e hi h => Or.inl ⟨rfl, by obtain rfl := Option.some.inj h; exact ⟨rfl, rfl⟩⟩) fun hi h => ?_
  refine V_aload_n (i := 0) dX9_routeStation_5 rfl rfl ?_
  refine V_getfield dX9_routeStation_6 (mem_x9 hc1) fl_X9_10 rfl ?_
  refine V_getfield dX9_routeStation_9 (mst_o (u := 0) hc1 (by decide) rfl) fl_X9_165 rfl ?_
  refine V_iload_n (i := 1) dX9_routeStation_12 rfl rfl ?_
  refine D_aldTr h (mst (u := 0) hc1 (by decide) rfl) dX9_routeStation_13 fun g1 h => ?_
  refine V_iload_n (i := 2) dX9_routeStation_14 rfl rfl ?_
  refine D_cVI (As := [_]) h dX9_routeStation_15 cv_X9_177 rfl ⟨_, _, _, (mst_tr (u := 0) hc1 (by decide) rfl g1), rfl, rfl⟩ rfl (Nat.le_of_ble_eq_true rfl) (fun x hx => lift0 (u := 0) hc1 (by decide) rfl (e_X8_stationAt (Nat.le_trans (Nat.le_of_ble_eq_true rfl) hf) g1 hx)) fun v2 h => ?_
  refine V_istore_n (i := 3) dX9_routeStation_18 rfl (Nat.le_of_ble_eq_true rfl) ?_
  refine V_iload_n (i := 3) dX9_routeStation_19 rfl rfl ?_
  refine V_iconst (v := -1) dX9_routeStation_20 (by decide) ?_
  refine D_icmp_ne (tgt := 34) h dX9_routeStation_21 rfl (fun b3 h => ?_) (fun b3 h => ?_)
  · refine V_iload_n (i := 3) dX9_routeStation_34 rfl rfl ?_
    obtain rfl := Option.some.inj h
    exact V_ireturn dX9_routeStation_35 ⟨_, rfl, rfl⟩ ⟨rfl, rfl⟩
  · obtain rfl := Option.some.inj h
    exact V_throwN (j := 11) dX9_routeStation_24 dX9_routeStation_27 dX9_routeStation_28 dX9_routeStation_30 dX9_routeStation_33 tw_837 tw_847 (by decide +kernel) (Nat.le_of_ble_eq_true rfl) (Nat.le_trans (Nat.le_of_ble_eq_true rfl) hf) rfl (fun _ _ => ⟨rfl, rfl⟩)
noncomputable def f_X9_setInspection (W : Nat → Nat → Int32) (a1 : Int32) (a2 : Int32) : Option ((String ⊕ Int32) × (Nat → Nat → Int32)) :=
  bdt (f_X9_checkStation W a1) (fun e => some (.inl e, W)) (fun _ => bdt (f_X9_checkRange a2 (0 : Int32) (9 : Int32)) (fun e => some (.inl e, W)) (fun _ => gd (inr a1 8) (bnd (W 0 (7 + 4 * ix a1 + 2)) (fun v2 => bdc (f_X0_remember W) (fun W3 => gd (inr a1 8) (bnd (w2 W3 0 (7 + 4 * ix a1 + 2) a2) (fun W5 => some (.inr v2, W5))))))))
theorem e_X9_setInspection {G : GT} {f0 : Nat} {b c : Nat} {M : MM} {hi : Nat} {W : Nat → Nat → Int32} {a1 : Int32} {a2 : Int32} {r : ((String ⊕ Int32) × (Nat → Nat → Int32))} (hf0 : 9 ≤ f0) (hc1 : 609 ≤ c) (h : f_X9_setInspection W a1 a2 = some r) : Ex G f0 mX9_setInspection [.ref (b), .int a1, .int a2] (MEM b c W M) hi 2 12 (RP (rhoI r.1) (MEM b c r.2 M)) := by
  obtain ⟨f, rfl, hf⟩ := suc_of hf0
  unfold f_X9_setInspection at h
  refine ⟨Nat.le_of_ble_eq_true rfl, ?_⟩
  refine V_aload_n (i := 0) dX9_setInspection_0 rfl rfl ?_
  refine V_iload_n (i := 1) dX9_setInspection_1 rfl rfl ?_
  refine D_tVU (As := [_]) (k2 := 1) (n2 := 6) h dX9_setInspection_2 cv_X9_115 rfl ⟨_, _, _, (mem_x9 hc1), rfl, rfl⟩ rfl (Nat.le_of_ble_eq_true rfl) (fun x hx => e_X9_checkStation (Nat.le_trans (Nat.le_of_ble_eq_true rfl) hf) hc1 hx) (fun e hi h => Or.inl ⟨rfl, by obtain rfl := Option.some.inj h; exact ⟨rfl, rfl⟩⟩) fun hi h => ?_
  refine V_iload_n (i := 2) dX9_setInspection_5 rfl rfl ?_
  refine V_iconst (v := 0) dX9_setInspection_6 (by decide) ?_
  refine V_bipush (v := 9) dX9_setInspection_7 (by decide) ?_
  refine D_tSU (As := [_, _, _]) (k2 := 1) (n2 := 6) h dX9_setInspection_9 cs_X9_274 rfl rfl (Nat.le_of_ble_eq_true rfl) (fun x hx => e_X9_checkRange (Nat.le_trans (Nat.le_of_ble_eq_true rfl) hf) hx) (fun e hi h => Or.inl ⟨rfl, by obtain rfl := Option.some.inj h; exact ⟨rfl, rfl⟩⟩) fun hi h => ?_
  refine V_aload_n (i := 0) dX9_setInspection_12 rfl rfl ?_
  refine V_getfield dX9_setInspection_13 (mem_x9 hc1) fl_X9_10 rfl ?_
  refine V_getfield dX9_setInspection_16 (mst_o (u := 0) hc1 (by decide) rfl) fl_X9_118 rfl ?_
  refine V_iload_n (i := 1) dX9_setInspection_19 rfl rfl ?_
  refine D_aldSt h (mst (u := 0) hc1 (by decide) rfl) dX9_setInspection_20 fun g1 h => ?_
  refine V_getfield dX9_setInspection_21 (mst_st (u := 0) hc1 (by decide) rfl g1) fl_X9_128 rfl ?_
  refine D_istore_n (i := 3) h dX9_setInspection_24 rfl (Nat.le_of_ble_eq_true rfl) fun v2 h => ?_
  refine V_aload_n (i := 0) dX9_setInspection_25 rfl rfl ?_
  refine V_getfield dX9_setInspection_26 (mem_x9 hc1) fl_X9_29 rfl ?_
  refine V_aload_n (i := 0) dX9_setInspection_29 rfl rfl ?_
  refine V_getfield dX9_setInspection_30 (mem_x9 hc1) fl_X9_10 rfl ?_
  refine D_cVU (As := [_]) (μ := fun W3 => (MEM b c W3 M)) h dX9_setInspection_33 cv_X9_94 rfl ⟨_, _, _, (mem_17 hc1), rfl, rfl⟩ rfl (Nat.le_of_ble_eq_true rfl) (fun y hx => e_X0_remember (Nat.le_trans (Nat.le_of_ble_eq_true rfl) hf) hc1 hx) fun W3 h => ?_
  refine V_aload_n (i := 0) dX9_setInspection_36 rfl rfl ?_
  refine V_getfield dX9_setInspection_37 (mem_x9 hc1) fl_X9_10 rfl ?_
  refine V_getfield dX9_setInspection_40 (mst_o (u := 0) hc1 (by decide) rfl) fl_X9_118 rfl ?_
  refine V_iload_n (i := 1) dX9_setInspection_43 rfl rfl ?_
  refine D_aldSt h (mst (u := 0) hc1 (by decide) rfl) dX9_setInspection_44 fun g4 h => ?_
  refine V_iload_n (i := 2) dX9_setInspection_45 rfl rfl ?_
  refine D3_pf_X5_2 (u := 0) hc1 h dX9_setInspection_46 (fp_X9_128 rfl) g4 (by decide) rfl fun W5 h => ?_
  refine V_iload_n (i := 3) dX9_setInspection_49 rfl rfl ?_
  obtain rfl := Option.some.inj h
  exact V_ireturn dX9_setInspection_50 ⟨_, rfl, rfl⟩ ⟨rfl, rfl⟩
noncomputable def f_X9_setPriority (W : Nat → Nat → Int32) (a1 : Int32) (a2 : Int32) : Option ((String ⊕ Int32) × (Nat → Nat → Int32)) :=
  bdt (f_X9_checkParcel W a1) (fun e => some (.inl e, W)) (fun _ => bdt (f_X9_checkRange a2 (1 : Int32) (9 : Int32)) (fun e => some (.inl e, W)) (fun _ => gd (inr a1 12) (bnd (W 0 (143 + 9 * ix a1 + 2)) (fun v2 => bdc (f_X0_remember W) (fun W3 => gd (inr a1 12) (bnd (w2 W3 0 (143 + 9 * ix a1 + 2) a2) (fun W5 => some (.inr v2, W5))))))))
theorem e_X9_setPriority {G : GT} {f0 : Nat} {b c : Nat} {M : MM} {hi : Nat} {W : Nat → Nat → Int32} {a1 : Int32} {a2 : Int32} {r : ((String ⊕ Int32) × (Nat → Nat → Int32))} (hf0 : 9 ≤ f0) (hc1 : 609 ≤ c) (h : f_X9_setPriority W a1 a2 = some r) : Ex G f0 mX9_setPriority [.ref (b), .int a1, .int a2] (MEM b c W M) hi 2 12 (RP (rhoI r.1) (MEM b c r.2 M)) := by
  obtain ⟨f, rfl, hf⟩ := suc_of hf0
  unfold f_X9_setPriority at h
  refine ⟨Nat.le_of_ble_eq_true rfl, ?_⟩
  refine V_aload_n (i := 0) dX9_setPriority_0 rfl rfl ?_
  refine V_iload_n (i := 1) dX9_setPriority_1 rfl rfl ?_
  refine D_tVU (As := [_]) (k2 := 1) (n2 := 6) h dX9_setPriority_2 cv_X9_208 rfl ⟨_, _, _, (mem_x9 hc1), rfl, rfl⟩ rfl (Nat.le_of_ble_eq_true rfl) (fun x hx => e_X9_checkParcel (Nat.le_trans (Nat.le_of_ble_eq_true rfl) hf) hc1 hx) (fun e hi h => Or.inl ⟨rfl, by obtain rfl := Option.some.inj h; exact ⟨rfl, rfl⟩⟩) fun hi h => ?_
  refine V_iload_n (i := 2) dX9_setPriority_5 rfl rfl ?_
  refine V_iconst (v := 1) dX9_setPriority_6 (by decide) ?_
  refine V_bipush (v := 9) dX9_setPriority_7 (by decide) ?_
  refine D_tSU (As := [_, _, _]) (k2 := 1) (n2 := 6) h dX9_setPriority_9 cs_X9_274 rfl rfl (Nat.le_of_ble_eq_true rfl) (fun x hx => e_X9_checkRange (Nat.le_trans (Nat.le_of_ble_eq_true rfl) hf) hx) (fun e hi h => Or.inl ⟨rfl, by obtain rfl := Option.some.inj h; exact ⟨rfl, rfl⟩⟩) fun hi h => ?_
  refine V_aload_n (i := 0) dX9_setPriority_12 rfl rfl ?_
  refine V_getfield dX9_setPriority_13 (mem_x9 hc1) fl_X9_10 rfl ?_
  refine V_getfield dX9_setPriority_16 (mst_o (u := 0) hc1 (by decide) rfl) fl_X9_211 rfl ?_
  refine V_iload_n (i := 1) dX9_setPriority_19 rfl rfl ?_
  refine D_aldPc h (mst (u := 0) hc1 (by decide) rfl) dX9_setPriority_20 fun g1 h => ?_
  refine V_getfield dX9_setPriority_21 (mst_pc (u := 0) hc1 (by decide) rfl g1) fl_X9_223 rfl ?_
  refine D_istore_n (i := 3) h dX9_setPriority_24 rfl (Nat.le_of_ble_eq_true rfl) fun v2 h => ?_
  refine V_aload_n (i := 0) dX9_setPriority_25 rfl rfl ?_
  refine V_getfield dX9_setPriority_26 (mem_x9 hc1) fl_X9_29 rfl ?_
  refine V_aload_n (i := 0) dX9_setPriority_29 rfl rfl ?_
  refine V_getfield dX9_setPriority_30 (mem_x9 hc1) fl_X9_10 rfl ?_
  refine D_cVU (As := [_]) (μ := fun W3 => (MEM b c W3 M)) h dX9_setPriority_33 cv_X9_94 rfl ⟨_, _, _, (mem_17 hc1), rfl, rfl⟩ rfl (Nat.le_of_ble_eq_true rfl) (fun y hx => e_X0_remember (Nat.le_trans (Nat.le_of_ble_eq_true rfl) hf) hc1 hx) fun W3 h => ?_
  refine V_aload_n (i := 0) dX9_setPriority_36 rfl rfl ?_
  refine V_getfield dX9_setPriority_37 (mem_x9 hc1) fl_X9_10 rfl ?_
  refine V_getfield dX9_setPriority_40 (mst_o (u := 0) hc1 (by decide) rfl) fl_X9_211 rfl ?_
  refine V_iload_n (i := 1) dX9_setPriority_43 rfl rfl ?_
  refine D_aldPc h (mst (u := 0) hc1 (by decide) rfl) dX9_setPriority_44 fun g4 h => ?_
  refine V_iload_n (i := 2) dX9_setPriority_45 rfl rfl ?_
  refine D3_pf_X2_3 (u := 0) hc1 h dX9_setPriority_46 (fp_X9_223 rfl) g4 (by decide) rfl fun W5 h => ?_
  refine V_iload_n (i := 3) dX9_setPriority_49 rfl rfl ?_
  obtain rfl := Option.some.inj h
  exact V_ireturn dX9_setPriority_50 ⟨_, rfl, rfl⟩ ⟨rfl, rfl⟩
noncomputable def f_X9_setTrackOpen (W : Nat → Nat → Int32) (a1 : Int32) (a2 : Int32) (a3 : Int32) : Option ((String ⊕ Int32) × (Nat → Nat → Int32)) :=
  bdt (f_X9_checkStation W a1) (fun e => some (.inl e, W)) (fun _ => bdt (f_X9_checkStation W a2) (fun e => some (.inl e, W)) (fun _ => bdt (f_X9_requireTrack W a1 a2) (fun e => some (.inl e, W)) (fun v1 => gd (inr v1 12) (bnd (W 0 (39 + 4 * ix v1 + 3)) (fun v3 => bdc (f_X0_remember W) (fun W4 => bdc (f_X4_openTrack (W4 0) v1 a3) (fun S6 => bnd (setU W4 0 S6) (fun W5 => gd (z01 v3) (some (.inr v3, W5))))))))))
theorem e_X9_setTrackOpen {G : GT} {f0 : Nat} {b c : Nat} {M : MM} {hi : Nat} {W : Nat → Nat → Int32} {a1 : Int32} {a2 : Int32} {a3 : Int32} {r : ((String ⊕ Int32) × (Nat → Nat → Int32))} (hf0 : 9 ≤ f0) (hc1 : 609 ≤ c) (h : f_X9_setTrackOpen W a1 a2 a3 = some r) : Ex G f0 mX9_setTrackOpen [.ref (b), .int a1, .int a2, .int a3] (MEM b c W M) hi 3 18 (RP (rhoI r.1) (MEM b c r.2 M)) := by
  obtain ⟨f, rfl, hf⟩ := suc_of hf0
  unfold f_X9_setTrackOpen at h
  refine ⟨Nat.le_of_ble_eq_true rfl, ?_⟩
  refine V_aload_n (i := 0) dX9_setTrackOpen_0 rfl rfl ?_
  refine V_iload_n (i := 1) dX9_setTrackOpen_1 rfl rfl ?_
  refine D_tVU (As := [_]) (k2 := 1) (n2 := 6) h dX9_setTrackOpen_2 cv_X9_115 rfl ⟨_, _, _, (mem_x9 hc1), rfl, rfl⟩ rfl (Nat.le_of_ble_eq_true rfl) (fun x hx => e_X9_checkStation (Nat.le_trans (Nat.le_of_ble_eq_true rfl) hf) hc1 hx) (fun e hi h => Or.inl ⟨rfl, by obtain rfl := Option.some.inj h; exact ⟨rfl, rfl⟩⟩) fun hi h => ?_
  refine V_aload_n (i := 0) dX9_setTrackOpen_5 rfl rfl ?_
  refine V_iload_n (i := 2) dX9_setTrackOpen_6 rfl rfl ?_
  refine D_tVU (As := [_]) (k2 := 1) (n2 := 6) h dX9_setTrackOpen_7 cv_X9_115 rfl ⟨_, _, _, (mem_x9 hc1), rfl, rfl⟩ rfl (Nat.le_of_ble_eq_true rfl) (fun x hx => e_X9_checkStation (Nat.le_trans (Nat.le_of_ble_eq_true rfl) hf) hc1 hx) (fun e hi h => Or.inl ⟨rfl, by obtain rfl := Option.some.inj h; exact ⟨rfl, rfl⟩⟩) fun hi h => ?_
  refine V_aload_n (i := 0) dX9_setTrackOpen_10 rfl rfl ?_
  refine V_iload_n (i := 1) dX9_setTrackOpen_11 rfl rfl ?_
  refine V_iload_n (i := 2) dX9_setTrackOpen_12 rfl rfl ?_
  refine D_tVI (As := [_, _]) (k2 := 1) (n2 := 6) h dX9_setTrackOpen_13 cv_X9_281 rfl ⟨_, _, _, (mem_x9 hc1), rfl, rfl⟩ rfl (Nat.le_of_ble_eq_true rfl) (fun x hx => e_X9_requireTrack (Nat.le_trans (Nat.le_of_ble_eq_true rfl) hf) hc1 hx) (fun e hi h => Or.inl ⟨rfl, by obtain rfl := Option.some.inj h; exact ⟨rfl, rfl⟩⟩) fun v1 hi h => ?_
  refine V_istore (i := 4) dX9_setTrackOpen_16 (Nat.le_of_ble_eq_true rfl) ?_
  refine V_aload_n (i := 0) dX9_setTrackOpen_18 rfl rfl ?_
  refine V_getfield dX9_setTrackOpen_19 (mem_x9 hc1) fl_X9_10 rfl ?_
  refine V_getfield dX9_setTrackOpen_22 (mst_o (u := 0) hc1 (by decide) rfl) fl_X9_147 rfl ?_
  refine V_iload (i := 4) dX9_setTrackOpen_25 rfl ?_
  refine D_aldTk h (mst (u := 0) hc1 (by decide) rfl) dX9_setTrackOpen_27 fun g2 h => ?_
  refine V_getfield dX9_setTrackOpen_28 (mst_tk (u := 0) hc1 (by decide) rfl g2) fl_X9_156 rfl ?_
  refine D_istore (i := 5) h dX9_setTrackOpen_31 (Nat.le_of_ble_eq_true rfl) fun v3 h => ?_
  refine V_aload_n (i := 0) dX9_setTrackOpen_33 rfl rfl ?_
  refine V_getfield dX9_setTrackOpen_34 (mem_x9 hc1) fl_X9_29 rfl ?_
  refine V_aload_n (i := 0) dX9_setTrackOpen_37 rfl rfl ?_
  refine V_getfield dX9_setTrackOpen_38 (mem_x9 hc1) fl_X9_10 rfl ?_
  refine D_cVU (As := [_]) (μ := fun W4 => (MEM b c W4 M)) h dX9_setTrackOpen_41 cv_X9_94 rfl ⟨_, _, _, (mem_17 hc1), rfl, rfl⟩ rfl (Nat.le_of_ble_eq_true rfl) (fun y hx => e_X0_remember (Nat.le_trans (Nat.le_of_ble_eq_true rfl) hf) hc1 hx) fun W4 h => ?_
  refine V_aload_n (i := 0) dX9_setTrackOpen_44 rfl rfl ?_
  refine V_getfield dX9_setTrackOpen_45 (mem_x9 hc1) fl_X9_10 rfl ?_
  refine V_iload (i := 4) dX9_setTrackOpen_48 rfl ?_
  refine V_iload_n (i := 3) dX9_setTrackOpen_50 rfl rfl ?_
  refine D_cVU (As := [_, _]) (μ := fun S6 => (MEM b c (setU W4 0 S6) M)) h dX9_setTrackOpen_51 cv_X9_294 rfl ⟨_, _, _, (mst_o (u := 0) hc1 (by decide) rfl), rfl, rfl⟩ rfl (Nat.le_of_ble_eq_true rfl) (fun y hx => lift1 (u := 0) hc1 (by decide) rfl (e_X4_openTrack (Nat.le_trans (Nat.le_of_ble_eq_true rfl) hf) hx)) fun S6 h => ?_
  refine D3_gen (μ := fun W => (MEM b c W M)) h fun W5 h => ?_
  refine V_iload (i := 5) dX9_setTrackOpen_54 rfl ?_
  refine D_gd h fun g h => ?_
  obtain rfl := Option.some.inj h
  exact V_ireturn dX9_setTrackOpen_56 ⟨_, rfl, z01_nar g⟩ ⟨rfl, rfl⟩
noncomputable def f_X9_stationCount (W : Nat → Nat → Int32) : Option Int32 :=
  some (W 0 1)
theorem e_X9_stationCount {G : GT} {f0 : Nat} {b c : Nat} {M : MM} {hi k n : Nat} {W : Nat → Nat → Int32} {r : Int32} (hf0 : 1 ≤ f0) (hc1 : 609 ≤ c) (h : f_X9_stationCount W = some r) : Ex G f0 mX9_stationCount [.ref (b)] (MEM b c W M) hi k n (RH (.inl (some (.int r))) (MEM b c W M) hi) := by
  obtain ⟨f, rfl, hf⟩ := suc_of hf0
  unfold f_X9_stationCount at h
  refine ⟨Nat.le_of_ble_eq_true rfl, ?_⟩
  refine V_aload_n (i := 0) dX9_stationCount_0 rfl rfl ?_
  refine V_getfield dX9_stationCount_1 (mem_x9 hc1) fl_X9_10 rfl ?_
  refine V_getfield dX9_stationCount_4 (mst_o (u := 0) hc1 (by decide) rfl) fl_X9_97 rfl ?_
  obtain rfl := Option.some.inj h
  exact V_ireturn dX9_stationCount_7 ⟨_, rfl, rfl⟩ ⟨rfl, rfl, rfl⟩
noncomputable def f_X9_stopsMade (W : Nat → Nat → Int32) (a1 : Int32) : Option (String ⊕ Int32) :=
  bdt (f_X9_checkTrain W a1) (fun e => some (.inl e)) (fun _ => gd (inr a1 4) (some (.inr (W 0 (87 + 14 * ix a1 + 12)))))
theorem e_X9_stopsMade {G : GT} {f0 : Nat} {b c : Nat} {M : MM} {hi : Nat} {W : Nat → Nat → Int32} {a1 : Int32} {r : (String ⊕ Int32)} (hf0 : 9 ≤ f0) (hc1 : 609 ≤ c) (h : f_X9_stopsMade W a1 = some r) : Ex G f0 mX9_stopsMade [.ref (b), .int a1] (MEM b c W M) hi 1 6 (RP (rhoI r) (MEM b c W M)) := by
  obtain ⟨f, rfl, hf⟩ := suc_of hf0
  unfold f_X9_stopsMade at h
  refine ⟨Nat.le_of_ble_eq_true rfl, ?_⟩
  refine V_aload_n (i := 0) dX9_stopsMade_0 rfl rfl ?_
  refine V_iload_n (i := 1) dX9_stopsMade_1 rfl rfl ?_
  refine D_tVU (As := [_]) (k2 := 1) (n2 := 6) h dX9_stopsMade_2 cv_X9_162 rfl ⟨_, _, _, (mem_x9 hc1), rfl, rfl⟩ rfl (Nat.le_of_ble_eq_true rfl) (fun x hx => e_X9_checkTrain (Nat.le_trans (Nat.le_of_ble_eq_true rfl) hf) hc1 hx) (fun e hi h => Or.inl ⟨rfl, by obtain rfl := Option.some.inj h; exact ⟨rfl, rfl⟩⟩) fun hi h => ?_
  refine V_aload_n (i := 0) dX9_stopsMade_5 rfl rfl ?_
  refine V_getfield dX9_stopsMade_6 (mem_x9 hc1) fl_X9_10 rfl ?_
  refine V_getfield dX9_stopsMade_9 (mst_o (u := 0) hc1 (by decide) rfl) fl_X9_165 rfl ?_
  refine V_iload_n (i := 1) dX9_stopsMade_12 rfl rfl ?_
  refine D_aldTr h (mst (u := 0) hc1 (by decide) rfl) dX9_stopsMade_13 fun g1 h => ?_
  refine V_getfield dX9_stopsMade_14 (mst_tr (u := 0) hc1 (by decide) rfl g1) fl_X9_202 rfl ?_
  obtain rfl := Option.some.inj h
  exact V_ireturn dX9_stopsMade_17 ⟨_, rfl, rfl⟩ ⟨rfl, rfl⟩
noncomputable def f_X9_stopsPassed (W : Nat → Nat → Int32) (a1 : Int32) : Option (String ⊕ Int32) :=
  bdt (f_X9_checkTrain W a1) (fun e => some (.inl e)) (fun _ => gd (inr a1 4) (some (.inr (W 0 (87 + 14 * ix a1 + 13)))))
theorem e_X9_stopsPassed {G : GT} {f0 : Nat} {b c : Nat} {M : MM} {hi : Nat} {W : Nat → Nat → Int32} {a1 : Int32} {r : (String ⊕ Int32)} (hf0 : 9 ≤ f0) (hc1 : 609 ≤ c) (h : f_X9_stopsPassed W a1 = some r) : Ex G f0 mX9_stopsPassed [.ref (b), .int a1] (MEM b c W M) hi 1 6 (RP (rhoI r) (MEM b c W M)) := by
  obtain ⟨f, rfl, hf⟩ := suc_of hf0
  unfold f_X9_stopsPassed at h
  refine ⟨Nat.le_of_ble_eq_true rfl, ?_⟩
  refine V_aload_n (i := 0) dX9_stopsPassed_0 rfl rfl ?_
  refine V_iload_n (i := 1) dX9_stopsPassed_1 rfl rfl ?_
  refine D_tVU (As := [_]) (k2 := 1) (n2 := 6) h dX9_stopsPassed_2 cv_X9_162 rfl ⟨_, _, _, (mem_x9 hc1), rfl, rfl⟩ rfl (Nat.le_of_ble_eq_true rfl) (fun x hx => e_X9_checkTrain (Nat.le_trans (Nat.le_of_ble_eq_true rfl) hf) hc1 hx) (fun e hi h => Or.inl ⟨rfl, by obtain rfl := Option.some.inj h; exact ⟨rfl, rfl⟩⟩) fun hi h => ?_
  refine V_aload_n (i := 0) dX9_stopsPassed_5 rfl rfl ?_
  refine V_getfield dX9_stopsPassed_6 (mem_x9 hc1) fl_X9_10 rfl ?_
  refine V_getfield dX9_stopsPassed_9 (mst_o (u := 0) hc1 (by decide) rfl) fl_X9_165 rfl ?_
  refine V_iload_n (i := 1) dX9_stopsPassed_12 rfl rfl ?_
  refine D_aldTr h (mst (u := 0) hc1 (by decide) rfl) dX9_stopsPassed_13 fun g1 h => ?_
  refine V_getfield dX9_stopsPassed_14 (mst_tr (u := 0) hc1 (by decide) rfl g1) fl_X9_205 rfl ?_
  obtain rfl := Option.some.inj h
  exact V_ireturn dX9_stopsPassed_17 ⟨_, rfl, rfl⟩ ⟨rfl, rfl⟩
noncomputable def f_X9_trainCount (W : Nat → Nat → Int32) : Option Int32 :=
  some (W 0 3)
theorem e_X9_trainCount {G : GT} {f0 : Nat} {b c : Nat} {M : MM} {hi k n : Nat} {W : Nat → Nat → Int32} {r : Int32} (hf0 : 1 ≤ f0) (hc1 : 609 ≤ c) (h : f_X9_trainCount W = some r) : Ex G f0 mX9_trainCount [.ref (b)] (MEM b c W M) hi k n (RH (.inl (some (.int r))) (MEM b c W M) hi) := by
  obtain ⟨f, rfl, hf⟩ := suc_of hf0
  unfold f_X9_trainCount at h
  refine ⟨Nat.le_of_ble_eq_true rfl, ?_⟩
  refine V_aload_n (i := 0) dX9_trainCount_0 rfl rfl ?_
  refine V_getfield dX9_trainCount_1 (mem_x9 hc1) fl_X9_10 rfl ?_
  refine V_getfield dX9_trainCount_4 (mst_o (u := 0) hc1 (by decide) rfl) fl_X9_109 rfl ?_
  obtain rfl := Option.some.inj h
  exact V_ireturn dX9_trainCount_7 ⟨_, rfl, rfl⟩ ⟨rfl, rfl, rfl⟩
noncomputable def f_X9_trainStation (W : Nat → Nat → Int32) (a1 : Int32) : Option (String ⊕ Int32) :=
  bdt (f_X9_checkTrain W a1) (fun e => some (.inl e)) (fun _ => gd (inr a1 4) (bdc (f_X8_standsAt (W 0) (ix a1)) (fun v2 => some (.inr v2))))
theorem e_X9_trainStation {G : GT} {f0 : Nat} {b c : Nat} {M : MM} {hi : Nat} {W : Nat → Nat → Int32} {a1 : Int32} {r : (String ⊕ Int32)} (hf0 : 9 ≤ f0) (hc1 : 609 ≤ c) (h : f_X9_trainStation W a1 = some r) : Ex G f0 mX9_trainStation [.ref (b), .int a1] (MEM b c W M) hi 1 6 (RP (rhoI r) (MEM b c W M)) := by
  obtain ⟨f, rfl, hf⟩ := suc_of hf0
  unfold f_X9_trainStation at h
  refine ⟨Nat.le_of_ble_eq_true rfl, ?_⟩
  refine V_aload_n (i := 0) dX9_trainStation_0 rfl rfl ?_
  refine V_iload_n (i := 1) dX9_trainStation_1 rfl rfl ?_
  refine D_tVU (As := [_]) (k2 := 1) (n2 := 6) h dX9_trainStation_2 cv_X9_162 rfl ⟨_, _, _, (mem_x9 hc1), rfl, rfl⟩ rfl (Nat.le_of_ble_eq_true rfl) (fun x hx => e_X9_checkTrain (Nat.le_trans (Nat.le_of_ble_eq_true rfl) hf) hc1 hx) (fun e hi h => Or.inl ⟨rfl, by obtain rfl := Option.some.inj h; exact ⟨rfl, rfl⟩⟩) fun hi h => ?_
  refine V_aload_n (i := 0) dX9_trainStation_5 rfl rfl ?_
  refine V_getfield dX9_trainStation_6 (mem_x9 hc1) fl_X9_10 rfl ?_
  refine V_getfield dX9_trainStation_9 (mst_o (u := 0) hc1 (by decide) rfl) fl_X9_165 rfl ?_
  refine V_iload_n (i := 1) dX9_trainStation_12 rfl rfl ?_
  refine D_aldTr h (mst (u := 0) hc1 (by decide) rfl) dX9_trainStation_13 fun g1 h => ?_
  refine D_cVI (As := []) h dX9_trainStation_14 cv_X9_186 rfl ⟨_, _, _, (mst_tr (u := 0) hc1 (by decide) rfl g1), rfl, rfl⟩ rfl (Nat.le_of_ble_eq_true rfl) (fun x hx => lift0 (u := 0) hc1 (by decide) rfl (e_X8_standsAt (Nat.le_trans (Nat.le_of_ble_eq_true rfl) hf) g1 hx)) fun v2 h => ?_
  obtain rfl := Option.some.inj h
  exact V_ireturn dX9_trainStation_17 ⟨_, rfl, rfl⟩ ⟨rfl, rfl⟩
noncomputable def f_X9_transfers (W : Nat → Nat → Int32) (a1 : Int32) : Option (String ⊕ Int32) :=
  bdt (f_X9_checkParcel W a1) (fun e => some (.inl e)) (fun _ => gd (inr a1 12) (some (.inr (W 0 (143 + 9 * ix a1 + 6)))))
theorem e_X9_transfers {G : GT} {f0 : Nat} {b c : Nat} {M : MM} {hi : Nat} {W : Nat → Nat → Int32} {a1 : Int32} {r : (String ⊕ Int32)} (hf0 : 9 ≤ f0) (hc1 : 609 ≤ c) (h : f_X9_transfers W a1 = some r) : Ex G f0 mX9_transfers [.ref (b), .int a1] (MEM b c W M) hi 1 6 (RP (rhoI r) (MEM b c W M)) := by
  obtain ⟨f, rfl, hf⟩ := suc_of hf0
  unfold f_X9_transfers at h
  refine ⟨Nat.le_of_ble_eq_true rfl, ?_⟩
  refine V_aload_n (i := 0) dX9_transfers_0 rfl rfl ?_
  refine V_iload_n (i := 1) dX9_transfers_1 rfl rfl ?_
  refine D_tVU (As := [_]) (k2 := 1) (n2 := 6) h dX9_transfers_2 cv_X9_208 rfl ⟨_, _, _, (mem_x9 hc1), rfl, rfl⟩ rfl (Nat.le_of_ble_eq_true rfl) (fun x hx => e_X9_checkParcel (Nat.le_trans (Nat.le_of_ble_eq_true rfl) hf) hc1 hx) (fun e hi h => Or.inl ⟨rfl, by obtain rfl := Option.some.inj h; exact ⟨rfl, rfl⟩⟩) fun hi h => ?_
  refine V_aload_n (i := 0) dX9_transfers_5 rfl rfl ?_
  refine V_getfield dX9_transfers_6 (mem_x9 hc1) fl_X9_10 rfl ?_
  refine V_getfield dX9_transfers_9 (mst_o (u := 0) hc1 (by decide) rfl) fl_X9_211 rfl ?_
  refine V_iload_n (i := 1) dX9_transfers_12 rfl rfl ?_
  refine D_aldPc h (mst (u := 0) hc1 (by decide) rfl) dX9_transfers_13 fun g1 h => ?_
  refine V_getfield dX9_transfers_14 (mst_pc (u := 0) hc1 (by decide) rfl g1) fl_X9_235 rfl ?_
  obtain rfl := Option.some.inj h
  exact V_ireturn dX9_transfers_17 ⟨_, rfl, rfl⟩ ⟨rfl, rfl⟩
noncomputable def f_X9_travelTime (W : Nat → Nat → Int32) (a1 : Int32) (a2 : Int32) : Option (String ⊕ Int32) :=
  bdt (f_X9_checkStation W a1) (fun e => some (.inl e)) (fun _ => bdt (f_X9_checkStation W a2) (fun e => some (.inl e)) (fun _ => bdc (f_X4_findTrack (W 0) a1 a2) (fun v1 => if v1 = (-1 : Int32) then some (.inr (-1 : Int32)) else gd (inr v1 12) (some (.inr (W 0 (39 + 4 * ix v1 + 2)))))))
theorem e_X9_travelTime {G : GT} {f0 : Nat} {b c : Nat} {M : MM} {hi : Nat} {W : Nat → Nat → Int32} {a1 : Int32} {a2 : Int32} {r : (String ⊕ Int32)} (hf0 : 9 ≤ f0) (hc1 : 609 ≤ c) (h : f_X9_travelTime W a1 a2 = some r) : Ex G f0 mX9_travelTime [.ref (b), .int a1, .int a2] (MEM b c W M) hi 2 12 (RP (rhoI r) (MEM b c W M)) := by
  obtain ⟨f, rfl, hf⟩ := suc_of hf0
  unfold f_X9_travelTime at h
  refine ⟨Nat.le_of_ble_eq_true rfl, ?_⟩
  refine V_aload_n (i := 0) dX9_travelTime_0 rfl rfl ?_
  refine V_iload_n (i := 1) dX9_travelTime_1 rfl rfl ?_
  refine D_tVU (As := [_]) (k2 := 1) (n2 := 6) h dX9_travelTime_2 cv_X9_115 rfl ⟨_, _, _, (mem_x9 hc1), rfl, rfl⟩ rfl (Nat.le_of_ble_eq_true rfl) (fun x hx => e_X9_checkStation (Nat.le_trans (Nat.le_of_ble_eq_true rfl) hf) hc1 hx) (fun e hi h => Or.inl ⟨rfl, by obtain rfl := Option.some.inj h; exact ⟨rfl, rfl⟩⟩) fun hi h => ?_
  refine V_aload_n (i := 0) dX9_travelTime_5 rfl rfl ?_
  refine V_iload_n (i := 2) dX9_travelTime_6 rfl rfl ?_
  refine D_tVU (As := [_]) (k2 := 1) (n2 := 6) h dX9_travelTime_7 cv_X9_115 rfl ⟨_, _, _, (mem_x9 hc1), rfl, rfl⟩ rfl (Nat.le_of_ble_eq_true rfl) (fun x hx => e_X9_checkStation (Nat.le_trans (Nat.le_of_ble_eq_true rfl) hf) hc1 hx) (fun e hi h => Or.inl ⟨rfl, by obtain rfl := Option.some.inj h; exact ⟨rfl, rfl⟩⟩) fun hi h => ?_
  refine V_aload_n (i := 0) dX9_travelTime_10 rfl rfl ?_
  refine V_getfield dX9_travelTime_11 (mem_x9 hc1) fl_X9_10 rfl ?_
  refine V_iload_n (i := 1) dX9_travelTime_14 rfl rfl ?_
  refine V_iload_n (i := 2) dX9_travelTime_15 rfl rfl ?_
  refine D_cVI (As := [_, _]) h dX9_travelTime_16 cv_X9_144 rfl ⟨_, _, _, (mst_o (u := 0) hc1 (by decide) rfl), rfl, rfl⟩ rfl (Nat.le_of_ble_eq_true rfl) (fun x hx => lift0 (u := 0) hc1 (by decide) rfl (e_X4_findTrack (Nat.le_trans (Nat.le_of_ble_eq_true rfl) hf) hx)) fun v1 h => ?_
  refine V_istore_n (i := 3) dX9_travelTime_19 rfl (Nat.le_of_ble_eq_true rfl) ?_
  refine V_iload_n (i := 3) dX9_travelTime_20 rfl rfl ?_
  refine V_iconst (v := -1) dX9_travelTime_21 (by decide) ?_
  refine D_icmp_ne (tgt := 29) h dX9_travelTime_22 rfl (fun b2 h => ?_) (fun b2 h => ?_)
  · refine V_aload_n (i := 0) dX9_travelTime_29 rfl rfl ?_
    refine V_getfield dX9_travelTime_30 (mem_x9 hc1) fl_X9_10 rfl ?_
    refine V_getfield dX9_travelTime_33 (mst_o (u := 0) hc1 (by decide) rfl) fl_X9_147 rfl ?_
    refine V_iload_n (i := 3) dX9_travelTime_36 rfl rfl ?_
    refine D_aldTk h (mst (u := 0) hc1 (by decide) rfl) dX9_travelTime_37 fun g3 h => ?_
    refine V_getfield dX9_travelTime_38 (mst_tk (u := 0) hc1 (by decide) rfl g3) fl_X9_151 rfl ?_
    obtain rfl := Option.some.inj h
    exact V_ireturn dX9_travelTime_41 ⟨_, rfl, rfl⟩ ⟨rfl, rfl⟩
  · refine V_iconst (v := -1) dX9_travelTime_25 (by decide) ?_
    refine V_goto (tgt := 41) dX9_travelTime_26 rfl ?_
    obtain rfl := Option.some.inj h
    exact V_ireturn dX9_travelTime_41 ⟨_, rfl, rfl⟩ ⟨rfl, rfl⟩
noncomputable def f_X9_truncateInput (W : Nat → Nat → Int32) (a1 : Int32) : Option ((String ⊕ Int32) × (Nat → Nat → Int32)) :=
  if a1 < 0 then some (.inl "java/lang/IllegalArgumentException", W) else if a1 ≤ (W 15 0) then bnd (w2 W 15 0 a1) (fun W3 => some (.inr a1, W3)) else some (.inl "java/lang/IllegalArgumentException", W)
theorem e_X9_truncateInput {G : GT} {f0 : Nat} {b c : Nat} {M : MM} {hi : Nat} {W : Nat → Nat → Int32} {a1 : Int32} {r : ((String ⊕ Int32) × (Nat → Nat → Int32))} (hf0 : 8 ≤ f0) (hc1 : 609 ≤ c) (h : f_X9_truncateInput W a1 = some r) : Ex G f0 mX9_truncateInput [.ref (b), .int a1] (MEM b c W M) hi 1 6 (RP (rhoI r.1) (MEM b c r.2 M)) := by
  obtain ⟨f, rfl, hf⟩ := suc_of hf0
  unfold f_X9_truncateInput at h
  refine ⟨Nat.le_of_ble_eq_true rfl, ?_⟩
  refine V_iload_n (i := 1) dX9_truncateInput_0 rfl rfl ?_
  refine D_if_lt (tgt := 18) h dX9_truncateInput_1 rfl (fun b1 h => ?_) (fun b1 h => ?_)
  · obtain rfl := Option.some.inj h
    exact V_throwS (j := 14) dX9_truncateInput_18 dX9_truncateInput_21 dX9_truncateInput_22 dX9_truncateInput_24 dX9_truncateInput_27 (by decide) tw_1098 tw_1108 (by decide +kernel) (Nat.le_of_ble_eq_true rfl) (Nat.le_trans (Nat.le_of_ble_eq_true rfl) hf) rfl (fun _ _ => ⟨rfl, rfl⟩)
  · refine V_iload_n (i := 1) dX9_truncateInput_4 rfl rfl ?_
    refine V_aload_n (i := 0) dX9_truncateInput_5 rfl rfl ?_
    refine V_getfield dX9_truncateInput_6 (mem_x9 hc1) fl_X9_22 rfl ?_
    refine V_getfield dX9_truncateInput_9 (mem_13 hc1) fl_X9_48 rfl ?_
    refine V_getfield dX9_truncateInput_12 (mem_15 hc1) fl_X9_70 rfl ?_
    refine D_icmp_le (tgt := 28) h dX9_truncateInput_15 rfl (fun b2 h => ?_) (fun b2 h => ?_)
    · refine V_aload_n (i := 0) dX9_truncateInput_28 rfl rfl ?_
      refine V_getfield dX9_truncateInput_29 (mem_x9 hc1) fl_X9_22 rfl ?_
      refine V_getfield dX9_truncateInput_32 (mem_13 hc1) fl_X9_48 rfl ?_
      refine V_iload_n (i := 1) dX9_truncateInput_35 rfl rfl ?_
      refine D3_put h dX9_truncateInput_36 (mem_15 hc1) (fp_X9_70 rfl) (Nat.le_of_ble_eq_true rfl) (psc_15_0 hc1) fun W3 h => ?_
      refine V_iload_n (i := 1) dX9_truncateInput_39 rfl rfl ?_
      obtain rfl := Option.some.inj h
      exact V_ireturn dX9_truncateInput_40 ⟨_, rfl, rfl⟩ ⟨rfl, rfl⟩
    · obtain rfl := Option.some.inj h
      exact V_throwS (j := 14) dX9_truncateInput_18 dX9_truncateInput_21 dX9_truncateInput_22 dX9_truncateInput_24 dX9_truncateInput_27 (by decide) tw_1098 tw_1108 (by decide +kernel) (Nat.le_of_ble_eq_true rfl) (Nat.le_trans (Nat.le_of_ble_eq_true rfl) hf) rfl (fun _ _ => ⟨rfl, rfl⟩)
noncomputable def f_X9_withdraw (W : Nat → Nat → Int32) (a1 : Int32) : Option ((String ⊕ Int32) × (Nat → Nat → Int32)) :=
  bdt (f_X9_checkParcel W a1) (fun e => some (.inl e, W)) (fun _ => gd (inr a1 12) (if (W 0 (143 + 9 * ix a1 + 3)) = (-1 : Int32) then some (.inl "java/lang/IllegalStateException", W) else bdc (f_X0_remember W) (fun W3 => bdc (f_X2_returnToSender (W3 0) (ix a1) (W3 0 0)) (fun S5 => bnd (setU W3 0 S5) (fun W4 => bdc (f_X2_isDelivered (W4 0) (ix a1)) (fun v6 => if v6 = 0 then some (.inr (W4 0 (143 + 9 * ix a1 + 1)), W4) else some (.inr (-1 : Int32), W4)))))))
theorem e_X9_withdraw {G : GT} {f0 : Nat} {b c : Nat} {M : MM} {hi : Nat} {W : Nat → Nat → Int32} {a1 : Int32} {r : ((String ⊕ Int32) × (Nat → Nat → Int32))} (hf0 : 9 ≤ f0) (hc1 : 609 ≤ c) (h : f_X9_withdraw W a1 = some r) : Ex G f0 mX9_withdraw [.ref (b), .int a1] (MEM b c W M) hi 2 12 (RP (rhoI r.1) (MEM b c r.2 M)) := by
  obtain ⟨f, rfl, hf⟩ := suc_of hf0
  unfold f_X9_withdraw at h
  refine ⟨Nat.le_of_ble_eq_true rfl, ?_⟩
  refine V_aload_n (i := 0) dX9_withdraw_0 rfl rfl ?_
  refine V_iload_n (i := 1) dX9_withdraw_1 rfl rfl ?_
  refine D_tVU (As := [_]) (k2 := 1) (n2 := 6) h dX9_withdraw_2 cv_X9_208 rfl ⟨_, _, _, (mem_x9 hc1), rfl, rfl⟩ rfl (Nat.le_of_ble_eq_true rfl) (fun x hx => e_X9_checkParcel (Nat.le_trans (Nat.le_of_ble_eq_true rfl) hf) hc1 hx) (fun e hi h => Or.inl ⟨rfl, by obtain rfl := Option.some.inj h; exact ⟨rfl, rfl⟩⟩) fun hi h => ?_
  refine V_aload_n (i := 0) dX9_withdraw_5 rfl rfl ?_
  refine V_getfield dX9_withdraw_6 (mem_x9 hc1) fl_X9_10 rfl ?_
  refine V_getfield dX9_withdraw_9 (mst_o (u := 0) hc1 (by decide) rfl) fl_X9_211 rfl ?_
  refine V_iload_n (i := 1) dX9_withdraw_12 rfl rfl ?_
  refine D_aldPc h (mst (u := 0) hc1 (by decide) rfl) dX9_withdraw_13 fun g1 h => ?_
  refine V_astore_n (i := 2) dX9_withdraw_14 rfl (Nat.le_of_ble_eq_true rfl) ?_
  refine V_aload_n (i := 2) dX9_withdraw_15 rfl rfl ?_
  refine V_getfield dX9_withdraw_16 (mst_pc (u := 0) hc1 (by decide) rfl g1) fl_X9_226 rfl ?_
  refine V_iconst (v := -1) dX9_withdraw_19 (by decide) ?_
  refine D_icmp_ne (tgt := 34) h dX9_withdraw_20 rfl (fun b2 h => ?_) (fun b2 h => ?_)
  · refine V_aload_n (i := 0) dX9_withdraw_34 rfl rfl ?_
    refine V_getfield dX9_withdraw_35 (mem_x9 hc1) fl_X9_29 rfl ?_
    refine V_aload_n (i := 0) dX9_withdraw_38 rfl rfl ?_
    refine V_getfield dX9_withdraw_39 (mem_x9 hc1) fl_X9_10 rfl ?_
    refine D_cVU (As := [_]) (μ := fun W3 => (MEM b c W3 M)) h dX9_withdraw_42 cv_X9_94 rfl ⟨_, _, _, (mem_17 hc1), rfl, rfl⟩ rfl (Nat.le_of_ble_eq_true rfl) (fun y hx => e_X0_remember (Nat.le_trans (Nat.le_of_ble_eq_true rfl) hf) hc1 hx) fun W3 h => ?_
    refine V_aload_n (i := 2) dX9_withdraw_45 rfl rfl ?_
    refine V_aload_n (i := 0) dX9_withdraw_46 rfl rfl ?_
    refine V_getfield dX9_withdraw_47 (mem_x9 hc1) fl_X9_10 rfl ?_
    refine V_getfield dX9_withdraw_50 (mst_o (u := 0) hc1 (by decide) rfl) fl_X9_103 rfl ?_
    refine D_cVU (As := [_]) (μ := fun S5 => (MEM b c (setU W3 0 S5) M)) h dX9_withdraw_53 cv_X9_300 rfl ⟨_, _, _, (mst_pc (u := 0) hc1 (by decide) rfl g1), rfl, rfl⟩ rfl (Nat.le_of_ble_eq_true rfl) (fun y hx => lift1 (u := 0) hc1 (by decide) rfl (e_X2_returnToSender (Nat.le_trans (Nat.le_of_ble_eq_true rfl) hf) g1 hx)) fun S5 h => ?_
    refine D3_gen (μ := fun W => (MEM b c W M)) h fun W4 h => ?_
    refine V_aload_n (i := 2) dX9_withdraw_56 rfl rfl ?_
    refine D_cVI (As := []) h dX9_withdraw_57 cv_X9_264 rfl ⟨_, _, _, (mst_pc (u := 0) hc1 (by decide) rfl g1), rfl, rfl⟩ rfl (Nat.le_of_ble_eq_true rfl) (fun x hx => lift0 (u := 0) hc1 (by decide) rfl (e_X2_isDelivered (Nat.le_trans (Nat.le_of_ble_eq_true rfl) hf) g1 hx)) fun v6 h => ?_
    refine D_if_eq (tgt := 67) h dX9_withdraw_60 rfl (fun b7 h => ?_) (fun b7 h => ?_)
    · refine V_aload_n (i := 2) dX9_withdraw_67 rfl rfl ?_
      refine V_getfield dX9_withdraw_68 (mst_pc (u := 0) hc1 (by decide) rfl g1) fl_X9_220 rfl ?_
      obtain rfl := Option.some.inj h
      exact V_ireturn dX9_withdraw_71 ⟨_, rfl, rfl⟩ ⟨rfl, rfl⟩
    · refine V_iconst (v := -1) dX9_withdraw_63 (by decide) ?_
      refine V_goto (tgt := 71) dX9_withdraw_64 rfl ?_
      obtain rfl := Option.some.inj h
      exact V_ireturn dX9_withdraw_71 ⟨_, rfl, rfl⟩ ⟨rfl, rfl⟩
  · obtain rfl := Option.some.inj h
    exact V_throwSW (j := 28) dX9_withdraw_23 dX9_withdraw_26 dX9_withdraw_27 dX9_withdraw_30 dX9_withdraw_33 (by decide) tw_1074 tw_1084 (by decide +kernel) (Nat.le_of_ble_eq_true rfl) (Nat.le_trans (Nat.le_of_ble_eq_true rfl) hf) rfl (fun _ _ => ⟨rfl, rfl⟩)
