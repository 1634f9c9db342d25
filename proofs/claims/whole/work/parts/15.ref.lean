noncomputable def f_X10_ofTrain (a0 : Int32) : Option Int32 :=
  some ((87 : Int32) + ((14 : Int32) * a0))
theorem e_X10_ofTrain {G : GT} {f0 : Nat}  {M : MM} {hi k n : Nat} {a0 : Int32} {r : Int32} (hf0 : 1 ≤ f0) (h : f_X10_ofTrain a0 = some r) : Ex G f0 mX10_ofTrain [.int a0] M hi k n (RH (.inl (some (.int r))) M hi) := by
  obtain ⟨f, rfl, hf⟩ := suc_of hf0
  unfold f_X10_ofTrain at h
  refine ⟨Nat.le_of_ble_eq_true rfl, ?_⟩
  refine V_bipush (v := 87) dX10_ofTrain_0 (by decide) ?_
  refine V_bipush (v := 14) dX10_ofTrain_2 (by decide) ?_
  refine V_iload_n (i := 0) dX10_ofTrain_4 rfl rfl ?_
  refine V_imul dX10_ofTrain_5 ?_
  refine V_iadd dX10_ofTrain_6 ?_
  obtain rfl := Option.some.inj h
  exact V_ireturn dX10_ofTrain_7 ⟨_, rfl, rfl⟩ ⟨rfl, rfl, rfl⟩
noncomputable def f_X10_stands (F : Nat → Int32) (a1 : Int32) : Option Int32 :=
  bdc (f_X10_ofTrain a1) (fun v1 => gd (inr (v1 + (10 : Int32)) 251) (if (F (ix (v1 + (10 : Int32)))) = (-1 : Int32) then some (1 : Int32) else some (0 : Int32)))
theorem e_X10_stands {G : GT} {f0 : Nat} {ga fa : Nat} {M : MM} {hi k n : Nat} {F : Nat → Int32} {a1 : Int32} {r : Int32} (hf0 : 2 ≤ f0) (h : f_X10_stands F a1 = some r) : Ex G f0 mX10_stands [.ref (ga), .int a1] (wq ga fa F M) hi k n (RH (.inl (some (.int r))) (wq ga fa F M) hi) := by
  obtain ⟨f, rfl, hf⟩ := suc_of hf0
  unfold f_X10_stands at h
  refine ⟨Nat.le_of_ble_eq_true rfl, ?_⟩
  refine V_aload_n (i := 0) dX10_stands_0 rfl rfl ?_
  refine V_iload_n (i := 1) dX10_stands_1 rfl rfl ?_
  refine D_cSI (As := [_]) h dX10_stands_2 cs_X10_81 rfl rfl (Nat.le_of_ble_eq_true rfl) (fun x hx => e_X10_ofTrain (Nat.le_trans (Nat.le_of_ble_eq_true rfl) hf) hx) fun v1 h => ?_
  refine V_bipush (v := 10) dX10_stands_5 (by decide) ?_
  refine V_iadd dX10_stands_7 ?_
  refine D_ildG h dX10_stands_8 fun h => ?_
  refine V_iconst (v := -1) dX10_stands_9 (by decide) ?_
  refine D_icmp_ne (tgt := 17) h dX10_stands_10 rfl (fun b2 h => ?_) (fun b2 h => ?_)
  · refine V_iconst (v := 0) dX10_stands_17 (by decide) ?_
    obtain rfl := Option.some.inj h
    exact V_ireturn dX10_stands_18 ⟨_, rfl, rfl⟩ ⟨rfl, rfl, rfl⟩
  · refine V_iconst (v := 1) dX10_stands_13 (by decide) ?_
    refine V_goto (tgt := 18) dX10_stands_14 rfl ?_
    obtain rfl := Option.some.inj h
    exact V_ireturn dX10_stands_18 ⟨_, rfl, rfl⟩ ⟨rfl, rfl, rfl⟩
noncomputable def f_X10_routeAt (F : Nat → Int32) (a1 : Int32) (a2 : Int32) : Option Int32 :=
  bdc (f_X10_ofTrain a1) (fun v1 => gd (inr ((v1 + (2 : Int32)) + a2) 251) (some (F (ix ((v1 + (2 : Int32)) + a2)))))
theorem e_X10_routeAt {G : GT} {f0 : Nat} {ga fa : Nat} {M : MM} {hi k n : Nat} {F : Nat → Int32} {a1 : Int32} {a2 : Int32} {r : Int32} (hf0 : 2 ≤ f0) (h : f_X10_routeAt F a1 a2 = some r) : Ex G f0 mX10_routeAt [.ref (ga), .int a1, .int a2] (wq ga fa F M) hi k n (RH (.inl (some (.int r))) (wq ga fa F M) hi) := by
  obtain ⟨f, rfl, hf⟩ := suc_of hf0
  unfold f_X10_routeAt at h
  refine ⟨Nat.le_of_ble_eq_true rfl, ?_⟩
  refine V_aload_n (i := 0) dX10_routeAt_0 rfl rfl ?_
  refine V_iload_n (i := 1) dX10_routeAt_1 rfl rfl ?_
  refine D_cSI (As := [_]) h dX10_routeAt_2 cs_X10_81 rfl rfl (Nat.le_of_ble_eq_true rfl) (fun x hx => e_X10_ofTrain (Nat.le_trans (Nat.le_of_ble_eq_true rfl) hf) hx) fun v1 h => ?_
  refine V_iconst (v := 2) dX10_routeAt_5 (by decide) ?_
  refine V_iadd dX10_routeAt_6 ?_
  refine V_iload_n (i := 2) dX10_routeAt_7 rfl rfl ?_
  refine V_iadd dX10_routeAt_8 ?_
  refine D_ildG h dX10_routeAt_9 fun h => ?_
  obtain rfl := Option.some.inj h
  exact V_ireturn dX10_routeAt_10 ⟨_, rfl, rfl⟩ ⟨rfl, rfl, rfl⟩
noncomputable def f_X10_stationOf (F : Nat → Int32) (a1 : Int32) : Option Int32 :=
  bdc (f_X10_ofTrain a1) (fun v1 => gd (inr (v1 + (8 : Int32)) 251) (bdc (f_X10_routeAt F a1 (F (ix (v1 + (8 : Int32))))) (fun v2 => some v2)))
theorem e_X10_stationOf {G : GT} {f0 : Nat} {ga fa : Nat} {M : MM} {hi k n : Nat} {F : Nat → Int32} {a1 : Int32} {r : Int32} (hf0 : 3 ≤ f0) (h : f_X10_stationOf F a1 = some r) : Ex G f0 mX10_stationOf [.ref (ga), .int a1] (wq ga fa F M) hi k n (RH (.inl (some (.int r))) (wq ga fa F M) hi) := by
  obtain ⟨f, rfl, hf⟩ := suc_of hf0
  unfold f_X10_stationOf at h
  refine ⟨Nat.le_of_ble_eq_true rfl, ?_⟩
  refine V_aload_n (i := 0) dX10_stationOf_0 rfl rfl ?_
  refine V_iload_n (i := 1) dX10_stationOf_1 rfl rfl ?_
  refine V_aload_n (i := 0) dX10_stationOf_2 rfl rfl ?_
  refine V_iload_n (i := 1) dX10_stationOf_3 rfl rfl ?_
  refine D_cSI (As := [_]) h dX10_stationOf_4 cs_X10_81 rfl rfl (Nat.le_of_ble_eq_true rfl) (fun x hx => e_X10_ofTrain (Nat.le_trans (Nat.le_of_ble_eq_true rfl) hf) hx) fun v1 h => ?_
  refine V_bipush (v := 8) dX10_stationOf_7 (by decide) ?_
  refine V_iadd dX10_stationOf_9 ?_
  refine D_ildG h dX10_stationOf_10 fun h => ?_
  refine D_cSI (As := [_, _, _]) h dX10_stationOf_11 cs_X10_84 rfl rfl (Nat.le_of_ble_eq_true rfl) (fun x hx => e_X10_routeAt (Nat.le_trans (Nat.le_of_ble_eq_true rfl) hf) hx) fun v2 h => ?_
  obtain rfl := Option.some.inj h
  exact V_ireturn dX10_stationOf_14 ⟨_, rfl, rfl⟩ ⟨rfl, rfl, rfl⟩
noncomputable def f_X10_ofParcel (a0 : Int32) : Option Int32 :=
  some ((143 : Int32) + ((9 : Int32) * a0))
theorem e_X10_ofParcel {G : GT} {f0 : Nat}  {M : MM} {hi k n : Nat} {a0 : Int32} {r : Int32} (hf0 : 1 ≤ f0) (h : f_X10_ofParcel a0 = some r) : Ex G f0 mX10_ofParcel [.int a0] M hi k n (RH (.inl (some (.int r))) M hi) := by
  obtain ⟨f, rfl, hf⟩ := suc_of hf0
  unfold f_X10_ofParcel at h
  refine ⟨Nat.le_of_ble_eq_true rfl, ?_⟩
  refine V_sipush (v := 143) dX10_ofParcel_0 (by decide) ?_
  refine V_bipush (v := 9) dX10_ofParcel_3 (by decide) ?_
  refine V_iload_n (i := 0) dX10_ofParcel_5 rfl rfl ?_
  refine V_imul dX10_ofParcel_6 ?_
  refine V_iadd dX10_ofParcel_7 ?_
  obtain rfl := Option.some.inj h
  exact V_ireturn dX10_ofParcel_8 ⟨_, rfl, rfl⟩ ⟨rfl, rfl, rfl⟩
noncomputable def l_X10_carried_4 (F : Nat → Int32) (c1 : Int32) : Nat → Int32 → Int32 → Option Int32
  | 0, _, _ => none
  | N + 1, x2, x3 => gd (inr (4 : Int32) 251) (if (F (ix (4 : Int32))) ≤ x3 then some x2 else bdc (f_X10_ofParcel x3) (fun v2 => gd (inr (v2 + (4 : Int32)) 251) (if (F (ix (v2 + (4 : Int32)))) = c1 then bnd (x2 + (1 : Int32)) (fun v5 => l_X10_carried_4 F c1 N v5 (x3 + (1 : Int32))) else bnd (x2 + (0 : Int32)) (fun v4 => l_X10_carried_4 F c1 N v4 (x3 + (1 : Int32))))))
theorem lv_X10_carried_4 {G : GT} {f : Nat} {ga fa : Nat} {M : MM} {hi k n : Nat} {F : Nat → Int32} {c1 : Int32} {r : Int32} (hf : 1 ≤ f) : ∀ (N : Nat) (x2 : Int32) (x3 : Int32) , l_X10_carried_4 F c1 N x2 x3 = some r → V G f (Ex G f) mX10_carried (RH (.inl (some (.int r))) (wq ga fa F M) hi) 4 [(0, .ref (ga)), (1, .int c1), (2, .int x2), (3, .int x3)] [] (wq ga fa F M) hi k n := by
  intro N
  induction N with
  | zero => intro x2 x3 h; cases h
  | succ N ih =>
    intro x2 x3 h
    rw [l_X10_carried_4] at h
    refine V_iload_n (i := 3) dX10_carried_4 rfl rfl ?_
    refine V_aload_n (i := 0) dX10_carried_5 rfl rfl ?_
    refine V_iconst (v := 4) dX10_carried_6 (by decide) ?_
    refine D_ildG h dX10_carried_7 fun h => ?_
    refine D_icmp_ge (tgt := 37) h dX10_carried_8 rfl (fun b1 h => ?_) (fun b1 h => ?_)
    · refine V_iload_n (i := 2) dX10_carried_37 rfl rfl ?_
      obtain rfl := Option.some.inj h
      exact V_ireturn dX10_carried_38 ⟨_, rfl, rfl⟩ ⟨rfl, rfl, rfl⟩
    · refine V_iload_n (i := 2) dX10_carried_11 rfl rfl ?_
      refine V_aload_n (i := 0) dX10_carried_12 rfl rfl ?_
      refine V_iload_n (i := 3) dX10_carried_13 rfl rfl ?_
      refine D_cSI (As := [_]) h dX10_carried_14 cs_X10_88 rfl rfl (Nat.le_of_ble_eq_true rfl) (fun x hx => e_X10_ofParcel (Nat.le_trans (Nat.le_of_ble_eq_true rfl) hf) hx) fun v2 h => ?_
      refine V_iconst (v := 4) dX10_carried_17 (by decide) ?_
      refine V_iadd dX10_carried_18 ?_
      refine D_ildG h dX10_carried_19 fun h => ?_
      refine V_iload_n (i := 1) dX10_carried_20 rfl rfl ?_
      refine D_icmp_ne (tgt := 28) h dX10_carried_21 rfl (fun b3 h => ?_) (fun b3 h => ?_)
      · refine V_iconst (v := 0) dX10_carried_28 (by decide) ?_
        refine V_iadd dX10_carried_29 ?_
        refine D_istore_n (i := 2) h dX10_carried_30 rfl (Nat.le_of_ble_eq_true rfl) fun v4 h => ?_
        refine D_iinc (i := 3) (w := 1) dX10_carried_31 rfl (by decide) (Nat.le_of_ble_eq_true rfl) ?_
        refine V_goto (tgt := 4) dX10_carried_34 rfl ?_
        exact V_sub (ks := [2, 3, 1, 0]) rfl (ih _ _ h)
      · refine V_iconst (v := 1) dX10_carried_24 (by decide) ?_
        refine V_goto (tgt := 29) dX10_carried_25 rfl ?_
        refine V_iadd dX10_carried_29 ?_
        refine D_istore_n (i := 2) h dX10_carried_30 rfl (Nat.le_of_ble_eq_true rfl) fun v5 h => ?_
        refine D_iinc (i := 3) (w := 1) dX10_carried_31 rfl (by decide) (Nat.le_of_ble_eq_true rfl) ?_
        refine V_goto (tgt := 4) dX10_carried_34 rfl ?_
        exact V_sub (ks := [2, 3, 1, 0]) rfl (ih _ _ h)
noncomputable def f_X10_carried (F : Nat → Int32) (a1 : Int32) : Option Int32 :=
  l_X10_carried_4 F a1 FU (0 : Int32) (0 : Int32)
theorem e_X10_carried {G : GT} {f0 : Nat} {ga fa : Nat} {M : MM} {hi k n : Nat} {F : Nat → Int32} {a1 : Int32} {r : Int32} (hf0 : 2 ≤ f0) (h : f_X10_carried F a1 = some r) : Ex G f0 mX10_carried [.ref (ga), .int a1] (wq ga fa F M) hi k n (RH (.inl (some (.int r))) (wq ga fa F M) hi) := by
  obtain ⟨f, rfl, hf⟩ := suc_of hf0
  unfold f_X10_carried at h
  refine ⟨Nat.le_of_ble_eq_true rfl, ?_⟩
  refine V_iconst (v := 0) dX10_carried_0 (by decide) ?_
  refine V_istore_n (i := 2) dX10_carried_1 rfl (Nat.le_of_ble_eq_true rfl) ?_
  refine V_iconst (v := 0) dX10_carried_2 (by decide) ?_
  refine V_istore_n (i := 3) dX10_carried_3 rfl (Nat.le_of_ble_eq_true rfl) ?_
  refine V_sub (ks := [2, 3, 1, 0]) rfl (lv_X10_carried_4 hf FU _ _ h)
noncomputable def f_X10_waitsAt (F : Nat → Int32) (a1 : Int32) (a2 : Int32) : Option Int32 :=
  bdc (f_X10_ofParcel a1) (fun v1 => gd (inr (v1 + (3 : Int32)) 251) (if (F (ix (v1 + (3 : Int32)))) = a2 then some (1 : Int32) else some (0 : Int32)))
theorem e_X10_waitsAt {G : GT} {f0 : Nat} {ga fa : Nat} {M : MM} {hi k n : Nat} {F : Nat → Int32} {a1 : Int32} {a2 : Int32} {r : Int32} (hf0 : 2 ≤ f0) (h : f_X10_waitsAt F a1 a2 = some r) : Ex G f0 mX10_waitsAt [.ref (ga), .int a1, .int a2] (wq ga fa F M) hi k n (RH (.inl (some (.int r))) (wq ga fa F M) hi) := by
  obtain ⟨f, rfl, hf⟩ := suc_of hf0
  unfold f_X10_waitsAt at h
  refine ⟨Nat.le_of_ble_eq_true rfl, ?_⟩
  refine V_aload_n (i := 0) dX10_waitsAt_0 rfl rfl ?_
  refine V_iload_n (i := 1) dX10_waitsAt_1 rfl rfl ?_
  refine D_cSI (As := [_]) h dX10_waitsAt_2 cs_X10_88 rfl rfl (Nat.le_of_ble_eq_true rfl) (fun x hx => e_X10_ofParcel (Nat.le_trans (Nat.le_of_ble_eq_true rfl) hf) hx) fun v1 h => ?_
  refine V_iconst (v := 3) dX10_waitsAt_5 (by decide) ?_
  refine V_iadd dX10_waitsAt_6 ?_
  refine D_ildG h dX10_waitsAt_7 fun h => ?_
  refine V_iload_n (i := 2) dX10_waitsAt_8 rfl rfl ?_
  refine D_icmp_ne (tgt := 16) h dX10_waitsAt_9 rfl (fun b2 h => ?_) (fun b2 h => ?_)
  · refine V_iconst (v := 0) dX10_waitsAt_16 (by decide) ?_
    obtain rfl := Option.some.inj h
    exact V_ireturn dX10_waitsAt_17 ⟨_, rfl, rfl⟩ ⟨rfl, rfl, rfl⟩
  · refine V_iconst (v := 1) dX10_waitsAt_12 (by decide) ?_
    refine V_goto (tgt := 17) dX10_waitsAt_13 rfl ?_
    obtain rfl := Option.some.inj h
    exact V_ireturn dX10_waitsAt_17 ⟨_, rfl, rfl⟩ ⟨rfl, rfl, rfl⟩
noncomputable def f_X10_isAhead (F : Nat → Int32) (a1 : Int32) (a2 : Int32) : Option Int32 :=
  bdc (f_X10_ofParcel a1) (fun v1 => gd (inr (v1 + (2 : Int32)) 251) (bdc (f_X10_ofParcel a2) (fun v2 => gd (inr (v2 + (2 : Int32)) 251) (bnd ((F (ix (v1 + (2 : Int32)))) - (F (ix (v2 + (2 : Int32))))) (fun v3 => if 0 < v3 then some (1 : Int32) else if v3 = 0 then if a2 ≤ a1 then some (0 : Int32) else some (1 : Int32) else some (0 : Int32))))))
theorem e_X10_isAhead {G : GT} {f0 : Nat} {ga fa : Nat} {M : MM} {hi k n : Nat} {F : Nat → Int32} {a1 : Int32} {a2 : Int32} {r : Int32} (hf0 : 2 ≤ f0) (h : f_X10_isAhead F a1 a2 = some r) : Ex G f0 mX10_isAhead [.ref (ga), .int a1, .int a2] (wq ga fa F M) hi k n (RH (.inl (some (.int r))) (wq ga fa F M) hi) := by
  obtain ⟨f, rfl, hf⟩ := suc_of hf0
  unfold f_X10_isAhead at h
  refine ⟨Nat.le_of_ble_eq_true rfl, ?_⟩
  refine V_aload_n (i := 0) dX10_isAhead_0 rfl rfl ?_
  refine V_iload_n (i := 1) dX10_isAhead_1 rfl rfl ?_
  refine D_cSI (As := [_]) h dX10_isAhead_2 cs_X10_88 rfl rfl (Nat.le_of_ble_eq_true rfl) (fun x hx => e_X10_ofParcel (Nat.le_trans (Nat.le_of_ble_eq_true rfl) hf) hx) fun v1 h => ?_
  refine V_iconst (v := 2) dX10_isAhead_5 (by decide) ?_
  refine V_iadd dX10_isAhead_6 ?_
  refine D_ildG h dX10_isAhead_7 fun h => ?_
  refine V_aload_n (i := 0) dX10_isAhead_8 rfl rfl ?_
  refine V_iload_n (i := 2) dX10_isAhead_9 rfl rfl ?_
  refine D_cSI (As := [_]) h dX10_isAhead_10 cs_X10_88 rfl rfl (Nat.le_of_ble_eq_true rfl) (fun x hx => e_X10_ofParcel (Nat.le_trans (Nat.le_of_ble_eq_true rfl) hf) hx) fun v2 h => ?_
  refine V_iconst (v := 2) dX10_isAhead_13 (by decide) ?_
  refine V_iadd dX10_isAhead_14 ?_
  refine D_ildG h dX10_isAhead_15 fun h => ?_
  refine V_isub dX10_isAhead_16 ?_
  refine D_istore_n (i := 3) h dX10_isAhead_17 rfl (Nat.le_of_ble_eq_true rfl) fun v3 h => ?_
  refine V_iload_n (i := 3) dX10_isAhead_18 rfl rfl ?_
  refine D_if_gt (tgt := 31) h dX10_isAhead_19 rfl (fun b4 h => ?_) (fun b4 h => ?_)
  · refine V_iconst (v := 1) dX10_isAhead_31 (by decide) ?_
    refine V_goto (tgt := 36) dX10_isAhead_32 rfl ?_
    obtain rfl := Option.some.inj h
    exact V_ireturn dX10_isAhead_36 ⟨_, rfl, rfl⟩ ⟨rfl, rfl, rfl⟩
  · refine V_iload_n (i := 3) dX10_isAhead_22 rfl rfl ?_
    refine D_if_ne (tgt := 35) h dX10_isAhead_23 rfl (fun b5 h => ?_) (fun b5 h => ?_)
    · refine V_iconst (v := 0) dX10_isAhead_35 (by decide) ?_
      obtain rfl := Option.some.inj h
      exact V_ireturn dX10_isAhead_36 ⟨_, rfl, rfl⟩ ⟨rfl, rfl, rfl⟩
    · refine V_iload_n (i := 1) dX10_isAhead_26 rfl rfl ?_
      refine V_iload_n (i := 2) dX10_isAhead_27 rfl rfl ?_
      refine D_icmp_ge (tgt := 35) h dX10_isAhead_28 rfl (fun b6 h => ?_) (fun b6 h => ?_)
      · refine V_iconst (v := 0) dX10_isAhead_35 (by decide) ?_
        obtain rfl := Option.some.inj h
        exact V_ireturn dX10_isAhead_36 ⟨_, rfl, rfl⟩ ⟨rfl, rfl, rfl⟩
      · refine V_iconst (v := 1) dX10_isAhead_31 (by decide) ?_
        refine V_goto (tgt := 36) dX10_isAhead_32 rfl ?_
        obtain rfl := Option.some.inj h
        exact V_ireturn dX10_isAhead_36 ⟨_, rfl, rfl⟩ ⟨rfl, rfl, rfl⟩
noncomputable def l_X10_considered_15 (F : Nat → Int32) (c1 : Int32) (c2 : Int32) (c3 : Int32) (K59 : Int32 → Option Int32) : Nat → Int32 → Int32 → Option Int32
  | 0, _, _ => none
  | N + 1, x4, x5 => gd (inr (4 : Int32) 251) (if (F (ix (4 : Int32))) ≤ x5 then K59 x4 else bdc (f_X10_waitsAt F x5 c1) (fun v3 => if v3 = 0 then bnd (x4 + (0 : Int32)) (fun v5 => l_X10_considered_15 F c1 c2 c3 K59 N v5 (x5 + (1 : Int32))) else bdc (f_X10_isAhead F x5 c3) (fun v6 => if v6 = 0 then bnd (x4 + (0 : Int32)) (fun v8 => l_X10_considered_15 F c1 c2 c3 K59 N v8 (x5 + (1 : Int32))) else bnd (x4 + (1 : Int32)) (fun v9 => l_X10_considered_15 F c1 c2 c3 K59 N v9 (x5 + (1 : Int32))))))
theorem lv_X10_considered_15 {G : GT} {f : Nat} {ga fa : Nat} {M : MM} {hi k n : Nat} {F : Nat → Int32} {c1 : Int32} {c2 : Int32} {c3 : Int32} {K59 : Int32 → Option Int32} {r : Int32} (hf : 2 ≤ f) (hK59 : ∀ (y4 : Int32), K59 y4 = some r → V G f (Ex G f) mX10_considered (RH (.inl (some (.int r))) (wq ga fa F M) hi) 59 [(0, .ref (ga)), (1, .int c1), (2, .int c2), (3, .int c3), (4, .int y4)] [] (wq ga fa F M) hi k n) : ∀ (N : Nat) (x4 : Int32) (x5 : Int32) , l_X10_considered_15 F c1 c2 c3 K59 N x4 x5 = some r → V G f (Ex G f) mX10_considered (RH (.inl (some (.int r))) (wq ga fa F M) hi) 15 [(0, .ref (ga)), (1, .int c1), (2, .int c2), (3, .int c3), (4, .int x4), (5, .int x5)] [] (wq ga fa F M) hi k n := by
  intro N
  induction N with
  | zero => intro x4 x5 h; cases h
  | succ N ih =>
    intro x4 x5 h
    rw [l_X10_considered_15] at h
    refine V_iload (i := 5) dX10_considered_15 rfl ?_
    refine V_aload_n (i := 0) dX10_considered_17 rfl rfl ?_
    refine V_iconst (v := 4) dX10_considered_18 (by decide) ?_
    refine D_ildG h dX10_considered_19 fun h => ?_
    refine D_icmp_ge (tgt := 59) h dX10_considered_20 rfl (fun b2 h => ?_) (fun b2 h => ?_)
    · exact V_sub (ks := [0, 1, 2, 3, 4]) rfl (hK59 _ h)
    · refine V_iload (i := 4) dX10_considered_23 rfl ?_
      refine V_aload_n (i := 0) dX10_considered_25 rfl rfl ?_
      refine V_iload (i := 5) dX10_considered_26 rfl ?_
      refine V_iload_n (i := 1) dX10_considered_28 rfl rfl ?_
      refine D_cSI (As := [_, _, _]) h dX10_considered_29 cs_X10_102 rfl rfl (Nat.le_of_ble_eq_true rfl) (fun x hx => e_X10_waitsAt (Nat.le_trans (Nat.le_of_ble_eq_true rfl) hf) hx) fun v3 h => ?_
      refine D_if_eq (tgt := 49) h dX10_considered_32 rfl (fun b4 h => ?_) (fun b4 h => ?_)
      · refine V_iconst (v := 0) dX10_considered_49 (by decide) ?_
        refine V_iadd dX10_considered_50 ?_
        refine D_istore (i := 4) h dX10_considered_51 (Nat.le_of_ble_eq_true rfl) fun v5 h => ?_
        refine D_iinc (i := 5) (w := 1) dX10_considered_53 rfl (by decide) (Nat.le_of_ble_eq_true rfl) ?_
        refine V_goto (tgt := 15) dX10_considered_56 rfl ?_
        exact V_sub (ks := [2, 3, 4, 5, 1, 0]) rfl (ih _ _ h)
      · refine V_aload_n (i := 0) dX10_considered_35 rfl rfl ?_
        refine V_iload (i := 5) dX10_considered_36 rfl ?_
        refine V_iload_n (i := 3) dX10_considered_38 rfl rfl ?_
        refine D_cSI (As := [_, _, _]) h dX10_considered_39 cs_X10_106 rfl rfl (Nat.le_of_ble_eq_true rfl) (fun x hx => e_X10_isAhead (Nat.le_trans (Nat.le_of_ble_eq_true rfl) hf) hx) fun v6 h => ?_
        refine D_if_eq (tgt := 49) h dX10_considered_42 rfl (fun b7 h => ?_) (fun b7 h => ?_)
        · refine V_iconst (v := 0) dX10_considered_49 (by decide) ?_
          refine V_iadd dX10_considered_50 ?_
          refine D_istore (i := 4) h dX10_considered_51 (Nat.le_of_ble_eq_true rfl) fun v8 h => ?_
          refine D_iinc (i := 5) (w := 1) dX10_considered_53 rfl (by decide) (Nat.le_of_ble_eq_true rfl) ?_
          refine V_goto (tgt := 15) dX10_considered_56 rfl ?_
          exact V_sub (ks := [2, 3, 4, 5, 1, 0]) rfl (ih _ _ h)
        · refine V_iconst (v := 1) dX10_considered_45 (by decide) ?_
          refine V_goto (tgt := 50) dX10_considered_46 rfl ?_
          refine V_iadd dX10_considered_50 ?_
          refine D_istore (i := 4) h dX10_considered_51 (Nat.le_of_ble_eq_true rfl) fun v9 h => ?_
          refine D_iinc (i := 5) (w := 1) dX10_considered_53 rfl (by decide) (Nat.le_of_ble_eq_true rfl) ?_
          refine V_goto (tgt := 15) dX10_considered_56 rfl ?_
          exact V_sub (ks := [2, 3, 4, 5, 1, 0]) rfl (ih _ _ h)
noncomputable def l_X10_considered_2 (F : Nat → Int32) (c1 : Int32) (c2 : Int32) : Nat → Int32 → Option Int32
  | 0, _ => none
  | N + 1, x3 => gd (inr (4 : Int32) 251) (if (F (ix (4 : Int32))) ≤ x3 then some (-1 : Int32) else l_X10_considered_15 F c1 c2 x3 (fun (x10 : Int32) => bdc (f_X10_waitsAt F x3 c1) (fun v11 => if v11 = 0 then l_X10_considered_2 F c1 c2 N (x3 + (1 : Int32)) else if x10 = c2 then some x3 else l_X10_considered_2 F c1 c2 N (x3 + (1 : Int32)))) FU (0 : Int32) (0 : Int32))
theorem lv_X10_considered_2 {G : GT} {f : Nat} {ga fa : Nat} {M : MM} {hi k n : Nat} {F : Nat → Int32} {c1 : Int32} {c2 : Int32} {r : Int32} (hf : 2 ≤ f) : ∀ (N : Nat) (x3 : Int32) , l_X10_considered_2 F c1 c2 N x3 = some r → V G f (Ex G f) mX10_considered (RH (.inl (some (.int r))) (wq ga fa F M) hi) 2 [(0, .ref (ga)), (1, .int c1), (2, .int c2), (3, .int x3)] [] (wq ga fa F M) hi k n := by
  intro N
  induction N with
  | zero => intro x3 h; cases h
  | succ N ih =>
    intro x3 h
    rw [l_X10_considered_2] at h
    refine V_iload_n (i := 3) dX10_considered_2 rfl rfl ?_
    refine V_aload_n (i := 0) dX10_considered_3 rfl rfl ?_
    refine V_iconst (v := 4) dX10_considered_4 (by decide) ?_
    refine D_ildG h dX10_considered_5 fun h => ?_
    refine D_icmp_ge (tgt := 82) h dX10_considered_6 rfl (fun b1 h => ?_) (fun b1 h => ?_)
    · refine V_iconst (v := -1) dX10_considered_82 (by decide) ?_
      obtain rfl := Option.some.inj h
      exact V_ireturn dX10_considered_83 ⟨_, rfl, rfl⟩ ⟨rfl, rfl, rfl⟩
    · refine V_iconst (v := 0) dX10_considered_9 (by decide) ?_
      refine V_istore (i := 4) dX10_considered_10 (Nat.le_of_ble_eq_true rfl) ?_
      refine V_iconst (v := 0) dX10_considered_12 (by decide) ?_
      refine V_istore (i := 5) dX10_considered_13 (Nat.le_of_ble_eq_true rfl) ?_
      refine V_sub (ks := [2, 3, 4, 5, 1, 0]) rfl (lv_X10_considered_15 hf ?_ FU _ _ h)
      · intro x10 h
        refine V_aload_n (i := 0) dX10_considered_59 rfl rfl ?_
        refine V_iload_n (i := 3) dX10_considered_60 rfl rfl ?_
        refine V_iload_n (i := 1) dX10_considered_61 rfl rfl ?_
        refine D_cSI (As := [_, _, _]) h dX10_considered_62 cs_X10_102 rfl rfl (Nat.le_of_ble_eq_true rfl) (fun x hx => e_X10_waitsAt (Nat.le_trans (Nat.le_of_ble_eq_true rfl) hf) hx) fun v11 h => ?_
        refine D_if_eq (tgt := 76) h dX10_considered_65 rfl (fun b12 h => ?_) (fun b12 h => ?_)
        · refine D_iinc (i := 3) (w := 1) dX10_considered_76 rfl (by decide) (Nat.le_of_ble_eq_true rfl) ?_
          refine V_goto (tgt := 2) dX10_considered_79 rfl ?_
          exact V_sub (ks := [1, 2, 3, 0]) rfl (ih _ h)
        · refine V_iload (i := 4) dX10_considered_68 rfl ?_
          refine V_iload_n (i := 2) dX10_considered_70 rfl rfl ?_
          refine D_icmp_ne (tgt := 76) h dX10_considered_71 rfl (fun b13 h => ?_) (fun b13 h => ?_)
          · refine D_iinc (i := 3) (w := 1) dX10_considered_76 rfl (by decide) (Nat.le_of_ble_eq_true rfl) ?_
            refine V_goto (tgt := 2) dX10_considered_79 rfl ?_
            exact V_sub (ks := [1, 2, 3, 0]) rfl (ih _ h)
          · refine V_iload_n (i := 3) dX10_considered_74 rfl rfl ?_
            obtain rfl := Option.some.inj h
            exact V_ireturn dX10_considered_75 ⟨_, rfl, rfl⟩ ⟨rfl, rfl, rfl⟩
noncomputable def f_X10_considered (F : Nat → Int32) (a1 : Int32) (a2 : Int32) : Option Int32 :=
  l_X10_considered_2 F a1 a2 FU (0 : Int32)
theorem e_X10_considered {G : GT} {f0 : Nat} {ga fa : Nat} {M : MM} {hi k n : Nat} {F : Nat → Int32} {a1 : Int32} {a2 : Int32} {r : Int32} (hf0 : 3 ≤ f0) (h : f_X10_considered F a1 a2 = some r) : Ex G f0 mX10_considered [.ref (ga), .int a1, .int a2] (wq ga fa F M) hi k n (RH (.inl (some (.int r))) (wq ga fa F M) hi) := by
  obtain ⟨f, rfl, hf⟩ := suc_of hf0
  unfold f_X10_considered at h
  refine ⟨Nat.le_of_ble_eq_true rfl, ?_⟩
  refine V_iconst (v := 0) dX10_considered_0 (by decide) ?_
  refine V_istore_n (i := 3) dX10_considered_1 rfl (Nat.le_of_ble_eq_true rfl) ?_
  refine V_sub (ks := [1, 2, 3, 0]) rfl (lv_X10_considered_2 hf FU _ h)
noncomputable def f_X10_isHeldNow (F : Nat → Int32) (a1 : Int32) : Option Int32 :=
  gd (inr (0 : Int32) 251) (bdc (f_X10_ofParcel a1) (fun v1 => gd (inr (v1 + (7 : Int32)) 251) (if (F (ix (v1 + (7 : Int32)))) ≤ (F (ix (0 : Int32))) then some (0 : Int32) else some (1 : Int32))))
theorem e_X10_isHeldNow {G : GT} {f0 : Nat} {ga fa : Nat} {M : MM} {hi k n : Nat} {F : Nat → Int32} {a1 : Int32} {r : Int32} (hf0 : 2 ≤ f0) (h : f_X10_isHeldNow F a1 = some r) : Ex G f0 mX10_isHeldNow [.ref (ga), .int a1] (wq ga fa F M) hi k n (RH (.inl (some (.int r))) (wq ga fa F M) hi) := by
  obtain ⟨f, rfl, hf⟩ := suc_of hf0
  unfold f_X10_isHeldNow at h
  refine ⟨Nat.le_of_ble_eq_true rfl, ?_⟩
  refine V_aload_n (i := 0) dX10_isHeldNow_0 rfl rfl ?_
  refine V_iconst (v := 0) dX10_isHeldNow_1 (by decide) ?_
  refine D_ildG h dX10_isHeldNow_2 fun h => ?_
  refine V_aload_n (i := 0) dX10_isHeldNow_3 rfl rfl ?_
  refine V_iload_n (i := 1) dX10_isHeldNow_4 rfl rfl ?_
  refine D_cSI (As := [_]) h dX10_isHeldNow_5 cs_X10_88 rfl rfl (Nat.le_of_ble_eq_true rfl) (fun x hx => e_X10_ofParcel (Nat.le_trans (Nat.le_of_ble_eq_true rfl) hf) hx) fun v1 h => ?_
  refine V_bipush (v := 7) dX10_isHeldNow_8 (by decide) ?_
  refine V_iadd dX10_isHeldNow_10 ?_
  refine D_ildG h dX10_isHeldNow_11 fun h => ?_
  refine D_icmp_ge (tgt := 19) h dX10_isHeldNow_12 rfl (fun b2 h => ?_) (fun b2 h => ?_)
  · refine V_iconst (v := 0) dX10_isHeldNow_19 (by decide) ?_
    obtain rfl := Option.some.inj h
    exact V_ireturn dX10_isHeldNow_20 ⟨_, rfl, rfl⟩ ⟨rfl, rfl, rfl⟩
  · refine V_iconst (v := 1) dX10_isHeldNow_15 (by decide) ?_
    refine V_goto (tgt := 20) dX10_isHeldNow_16 rfl ?_
    obtain rfl := Option.some.inj h
    exact V_ireturn dX10_isHeldNow_20 ⟨_, rfl, rfl⟩ ⟨rfl, rfl, rfl⟩
noncomputable def f_X10_ofTrack (a0 : Int32) : Option Int32 :=
  some ((39 : Int32) + ((4 : Int32) * a0))
theorem e_X10_ofTrack {G : GT} {f0 : Nat}  {M : MM} {hi k n : Nat} {a0 : Int32} {r : Int32} (hf0 : 1 ≤ f0) (h : f_X10_ofTrack a0 = some r) : Ex G f0 mX10_ofTrack [.int a0] M hi k n (RH (.inl (some (.int r))) M hi) := by
  obtain ⟨f, rfl, hf⟩ := suc_of hf0
  unfold f_X10_ofTrack at h
  refine ⟨Nat.le_of_ble_eq_true rfl, ?_⟩
  refine V_bipush (v := 39) dX10_ofTrack_0 (by decide) ?_
  refine V_iconst (v := 4) dX10_ofTrack_2 (by decide) ?_
  refine V_iload_n (i := 0) dX10_ofTrack_3 rfl rfl ?_
  refine V_imul dX10_ofTrack_4 ?_
  refine V_iadd dX10_ofTrack_5 ?_
  obtain rfl := Option.some.inj h
  exact V_ireturn dX10_ofTrack_6 ⟨_, rfl, rfl⟩ ⟨rfl, rfl, rfl⟩
noncomputable def f_X10_shorten (F : Nat → Int32) (a1 : Int32) (a2 : Int32) (a3 : Int32) : Option (Int32 × (Nat → Int32)) :=
  gd (inr a1 8) (gd (inr a2 8) (jn (fun (v2 : Int32) => if v2 = 0 then gd (inr a2 8) (gd (inr a2 8) (bnd (upd F (251 + ix a2) (F (251 + ix a2))) (fun F5 => gd (z01 v2) (some (v2, F5))))) else gd (inr a1 8) (gd (inr a2 8) (bnd (upd F (251 + ix a2) ((F (251 + ix a1)) + a3)) (fun F6 => gd (z01 v2) (some (v2, F6)))))) (fun j1 => if (F (251 + ix a2)) ≤ ((F (251 + ix a1)) + a3) then j1 (0 : Int32) else j1 (1 : Int32))))
theorem e_X10_shorten {G : GT} {f0 : Nat} {ga fa q : Nat} {M : MM} {hi k n : Nat} {F : Nat → Int32} {a1 : Int32} {a2 : Int32} {a3 : Int32} {r : (Int32 × (Nat → Int32))} (hf0 : 1 ≤ f0) (hq : RQ M q ga fa) (h : f_X10_shorten F a1 a2 a3 = some r) : Ex G f0 mX10_shorten [.ref (q), .int a1, .int a2, .int a3] (wq ga fa F M) hi k n (RH (.inl (some (.int r.1))) (wq ga fa r.2 M) hi) := by
  obtain ⟨f, rfl, hf⟩ := suc_of hf0
  unfold f_X10_shorten at h
  refine ⟨Nat.le_of_ble_eq_true rfl, ?_⟩
  refine V_aload_n (i := 0) dX10_shorten_0 rfl rfl ?_
  refine V_gfar hq dX10_shorten_1 fl_X10_29 ?_
  refine V_iload_n (i := 1) dX10_shorten_4 rfl rfl ?_
  refine D_ildF h hq dX10_shorten_5 fun h => ?_
  refine V_iload_n (i := 3) dX10_shorten_6 rfl rfl ?_
  refine V_iadd dX10_shorten_7 ?_
  refine V_aload_n (i := 0) dX10_shorten_8 rfl rfl ?_
  refine V_gfar hq dX10_shorten_9 fl_X10_29 ?_
  refine V_iload_n (i := 2) dX10_shorten_12 rfl rfl ?_
  refine D_ildF h hq dX10_shorten_13 fun h => ?_
  refine D_jn (fun (j : Int32 → Option (Int32 × (Nat → Int32))) => ∀ (v2 : Int32), j v2 = some r → V G f (Ex G f) mX10_shorten (RH (.inl (some (.int r.1))) (wq ga fa r.2 M) hi) 22 [(0, .ref (q)), (1, .int a1), (2, .int a2), (3, .int a3)] [.int v2] (wq ga fa F M) hi k n) h (fun j1 hj1 h => ?_) ?_
  · refine D_icmp_ge (tgt := 21) h dX10_shorten_14 rfl (fun b3 h => ?_) (fun b3 h => ?_)
    · refine V_iconst (v := 0) dX10_shorten_21 (by decide) ?_
      exact V_sub (ks := [0, 1, 2, 3]) rfl (hj1 _ h)
    · refine V_iconst (v := 1) dX10_shorten_17 (by decide) ?_
      refine V_goto (tgt := 22) dX10_shorten_18 rfl ?_
      exact V_sub (ks := [0, 1, 2, 3]) rfl (hj1 _ h)
  · intro v2 h
    refine V_istore (i := 4) dX10_shorten_22 (Nat.le_of_ble_eq_true rfl) ?_
    refine V_aload_n (i := 0) dX10_shorten_24 rfl rfl ?_
    refine V_gfar hq dX10_shorten_25 fl_X10_29 ?_
    refine V_iload_n (i := 2) dX10_shorten_28 rfl rfl ?_
    refine V_iload (i := 4) dX10_shorten_29 rfl ?_
    refine D_if_eq (tgt := 45) h dX10_shorten_31 rfl (fun b4 h => ?_) (fun b4 h => ?_)
    · refine V_aload_n (i := 0) dX10_shorten_45 rfl rfl ?_
      refine V_gfar hq dX10_shorten_46 fl_X10_29 ?_
      refine V_iload_n (i := 2) dX10_shorten_49 rfl rfl ?_
      refine D_ildF h hq dX10_shorten_50 fun h => ?_
      refine D_istF h hq dX10_shorten_51 fun F5 h => ?_
      refine V_iload (i := 4) dX10_shorten_52 rfl ?_
      refine D_gd h fun g h => ?_
      obtain rfl := Option.some.inj h
      exact V_ireturn dX10_shorten_54 ⟨_, rfl, z01_nar g⟩ ⟨rfl, rfl, rfl⟩
    · refine V_aload_n (i := 0) dX10_shorten_34 rfl rfl ?_
      refine V_gfar hq dX10_shorten_35 fl_X10_29 ?_
      refine V_iload_n (i := 1) dX10_shorten_38 rfl rfl ?_
      refine D_ildF h hq dX10_shorten_39 fun h => ?_
      refine V_iload_n (i := 3) dX10_shorten_40 rfl rfl ?_
      refine V_iadd dX10_shorten_41 ?_
      refine V_goto (tgt := 51) dX10_shorten_42 rfl ?_
      refine D_istF h hq dX10_shorten_51 fun F6 h => ?_
      refine V_iload (i := 4) dX10_shorten_52 rfl ?_
      refine D_gd h fun g h => ?_
      obtain rfl := Option.some.inj h
      exact V_ireturn dX10_shorten_54 ⟨_, rfl, z01_nar g⟩ ⟨rfl, rfl, rfl⟩
noncomputable def l_X10_measure_2 (c2 : Int32) (K31 : (Nat → Int32) → Option (Nat → Int32)) : Nat → (Nat → Int32) → Int32 → Option (Nat → Int32)
  | 0, _, _ => none
  | N + 1, F, x3 => if (8 : Int32) ≤ x3 then K31 F else if x3 = c2 then gd (inr x3 8) (bnd (upd F (251 + ix x3) (0 : Int32)) (fun F4 => l_X10_measure_2 c2 K31 N F4 (x3 + (1 : Int32)))) else gd (inr x3 8) (bnd (upd F (251 + ix x3) (99999 : Int32)) (fun F3 => l_X10_measure_2 c2 K31 N F3 (x3 + (1 : Int32))))
theorem lv_X10_measure_2 {G : GT} {f : Nat} {ga fa q : Nat} {M : MM} {hi k n : Nat} {c2 : Int32} {K31 : (Nat → Int32) → Option (Nat → Int32)} {r : (Nat → Int32)} (hf : 1 ≤ f) (hq : RQ M q ga fa) (hK31 : ∀ (Fk : Nat → Int32), K31 Fk = some r → V G f (Ex G f) mX10_measure (RH (.inl none) (wq ga fa r M) hi) 31 [(0, .ref (q)), (1, .ref (ga))] [] (wq ga fa Fk M) hi k n) : ∀ (N : Nat) (F : Nat → Int32) (x3 : Int32) , l_X10_measure_2 c2 K31 N F x3 = some r → V G f (Ex G f) mX10_measure (RH (.inl none) (wq ga fa r M) hi) 2 [(0, .ref (q)), (1, .ref (ga)), (2, .int c2), (3, .int x3)] [] (wq ga fa F M) hi k n := by
  intro N
  induction N with
  | zero => intro F x3 h; cases h
  | succ N ih =>
    intro F x3 h
    rw [l_X10_measure_2] at h
    refine V_iload_n (i := 3) dX10_measure_2 rfl rfl ?_
    refine V_bipush (v := 8) dX10_measure_3 (by decide) ?_
    refine D_icmp_ge (tgt := 31) h dX10_measure_5 rfl (fun b1 h => ?_) (fun b1 h => ?_)
    · exact V_sub (ks := [0, 1]) rfl (hK31 _ h)
    · refine V_aload_n (i := 0) dX10_measure_8 rfl rfl ?_
      refine V_gfar hq dX10_measure_9 fl_X10_29 ?_
      refine V_iload_n (i := 3) dX10_measure_12 rfl rfl ?_
      refine V_iload_n (i := 3) dX10_measure_13 rfl rfl ?_
      refine V_iload_n (i := 2) dX10_measure_14 rfl rfl ?_
      refine D_icmp_ne (tgt := 22) h dX10_measure_15 rfl (fun b2 h => ?_) (fun b2 h => ?_)
      · refine V_ldcI (v := 99999) dX10_measure_22 tw_1518 ?_
        refine D_istF h hq dX10_measure_24 fun F3 h => ?_
        refine D_iinc (i := 3) (w := 1) dX10_measure_25 rfl (by decide) (Nat.le_of_ble_eq_true rfl) ?_
        refine V_goto (tgt := 2) dX10_measure_28 rfl ?_
        exact V_sub (ks := [1, 2, 3, 0]) rfl (ih _ _ h)
      · refine V_iconst (v := 0) dX10_measure_18 (by decide) ?_
        refine V_goto (tgt := 24) dX10_measure_19 rfl ?_
        refine D_istF h hq dX10_measure_24 fun F4 h => ?_
        refine D_iinc (i := 3) (w := 1) dX10_measure_25 rfl (by decide) (Nat.le_of_ble_eq_true rfl) ?_
        refine V_goto (tgt := 2) dX10_measure_28 rfl ?_
        exact V_sub (ks := [1, 2, 3, 0]) rfl (ih _ _ h)
noncomputable def l_X10_measure_42 (K141 : (Nat → Int32) → Int32 → Option (Nat → Int32)) : Nat → (Nat → Int32) → Int32 → Int32 → Option (Nat → Int32)
  | 0, _, _, _ => none
  | N + 1, F, x3, x4 => gd (inr (2 : Int32) 251) (if (F (ix (2 : Int32))) ≤ x4 then K141 F x3 else bdc (f_X10_ofTrack x4) (fun v8 => gd (inr (v8 + (3 : Int32)) 251) (if (F (ix (v8 + (3 : Int32)))) = (1 : Int32) then gd (inr (v8 + (0 : Int32)) 251) (gd (inr (v8 + (1 : Int32)) 251) (gd (inr (v8 + (2 : Int32)) 251) (bd2 (f_X10_shorten F (F (ix (v8 + (0 : Int32)))) (F (ix (v8 + (1 : Int32)))) (F (ix (v8 + (2 : Int32))))) (fun v11 F10 => gd (inr (v8 + (1 : Int32)) 251) (gd (inr (v8 + (0 : Int32)) 251) (gd (inr (v8 + (2 : Int32)) 251) (bd2 (f_X10_shorten F10 (F10 (ix (v8 + (1 : Int32)))) (F10 (ix (v8 + (0 : Int32)))) (F10 (ix (v8 + (2 : Int32))))) (fun v13 F12 => if x3 = 0 then if v11 = 0 then if v13 = 0 then l_X10_measure_42 K141 N F12 (0 : Int32) (x4 + (1 : Int32)) else l_X10_measure_42 K141 N F12 (1 : Int32) (x4 + (1 : Int32)) else l_X10_measure_42 K141 N F12 (1 : Int32) (x4 + (1 : Int32)) else l_X10_measure_42 K141 N F12 (1 : Int32) (x4 + (1 : Int32)))))))))) else l_X10_measure_42 K141 N F x3 (x4 + (1 : Int32)))))
theorem lv_X10_measure_42 {G : GT} {f : Nat} {ga fa q : Nat} {M : MM} {hi k n : Nat} {K141 : (Nat → Int32) → Int32 → Option (Nat → Int32)} {r : (Nat → Int32)} (hf : 1 ≤ f) (hq : RQ M q ga fa) (hK141 : ∀ (Fk : Nat → Int32) (y3 : Int32), K141 Fk y3 = some r → V G f (Ex G f) mX10_measure (RH (.inl none) (wq ga fa r M) hi) 141 [(0, .ref (q)), (1, .ref (ga)), (3, .int y3)] [] (wq ga fa Fk M) hi k n) : ∀ (N : Nat) (F : Nat → Int32) (x3 : Int32) (x4 : Int32) , l_X10_measure_42 K141 N F x3 x4 = some r → V G f (Ex G f) mX10_measure (RH (.inl none) (wq ga fa r M) hi) 42 [(0, .ref (q)), (1, .ref (ga)), (3, .int x3), (4, .int x4)] [] (wq ga fa F M) hi k n := by
  intro N
  induction N with
  | zero => intro F x3 x4 h; cases h
  | succ N ih =>
    intro F x3 x4 h
    rw [l_X10_measure_42] at h
    refine V_iload (i := 4) dX10_measure_42 rfl ?_
    refine V_aload_n (i := 1) dX10_measure_44 rfl rfl ?_
    refine V_iconst (v := 2) dX10_measure_45 (by decide) ?_
    refine D_ildG h dX10_measure_46 fun h => ?_
    refine D_icmp_ge (tgt := 141) h dX10_measure_47 rfl (fun b7 h => ?_) (fun b7 h => ?_)
    · exact V_sub (ks := [0, 1, 2]) rfl (hK141 _ _ h)
    · refine V_iload (i := 4) dX10_measure_50 rfl ?_
      refine D_cSI (As := [_]) h dX10_measure_52 cs_X10_72 rfl rfl (Nat.le_of_ble_eq_true rfl) (fun x hx => e_X10_ofTrack (Nat.le_trans (Nat.le_of_ble_eq_true rfl) hf) hx) fun v8 h => ?_
      refine V_istore (i := 5) dX10_measure_55 (Nat.le_of_ble_eq_true rfl) ?_
      refine V_aload_n (i := 1) dX10_measure_57 rfl rfl ?_
      refine V_iload (i := 5) dX10_measure_58 rfl ?_
      refine V_iconst (v := 3) dX10_measure_60 (by decide) ?_
      refine V_iadd dX10_measure_61 ?_
      refine D_ildG h dX10_measure_62 fun h => ?_
      refine V_iconst (v := 1) dX10_measure_63 (by decide) ?_
      refine D_icmp_ne (tgt := 135) h dX10_measure_64 rfl (fun b9 h => ?_) (fun b9 h => ?_)
      · refine D_iinc (i := 4) (w := 1) dX10_measure_135 rfl (by decide) (Nat.le_of_ble_eq_true rfl) ?_
        refine V_goto (tgt := 42) dX10_measure_138 rfl ?_
        exact V_sub (ks := [2, 3, 4, 0]) rfl (ih _ _ _ h)
      · refine V_aload_n (i := 0) dX10_measure_67 rfl rfl ?_
        refine V_aload_n (i := 1) dX10_measure_68 rfl rfl ?_
        refine V_iload (i := 5) dX10_measure_69 rfl ?_
        refine V_iconst (v := 0) dX10_measure_71 (by decide) ?_
        refine V_iadd dX10_measure_72 ?_
        refine D_ildG h dX10_measure_73 fun h => ?_
        refine V_aload_n (i := 1) dX10_measure_74 rfl rfl ?_
        refine V_iload (i := 5) dX10_measure_75 rfl ?_
        refine V_iconst (v := 1) dX10_measure_77 (by decide) ?_
        refine V_iadd dX10_measure_78 ?_
        refine D_ildG h dX10_measure_79 fun h => ?_
        refine V_aload_n (i := 1) dX10_measure_80 rfl rfl ?_
        refine V_iload (i := 5) dX10_measure_81 rfl ?_
        refine V_iconst (v := 2) dX10_measure_83 (by decide) ?_
        refine V_iadd dX10_measure_84 ?_
        refine D_ildG h dX10_measure_85 fun h => ?_
        refine D_cVIW (As := [_, _, _]) (μ := fun F10 => (wq ga fa F10 M)) h dX10_measure_86 cv_X10_77 rfl (wq_recv hq) rfl (Nat.le_of_ble_eq_true rfl) (fun x y hx => e_X10_shorten (Nat.le_trans (Nat.le_of_ble_eq_true rfl) hf) hq hx) fun v11 F10 h => ?_
        refine V_istore (i := 6) dX10_measure_89 (Nat.le_of_ble_eq_true rfl) ?_
        refine V_aload_n (i := 0) dX10_measure_91 rfl rfl ?_
        refine V_aload_n (i := 1) dX10_measure_92 rfl rfl ?_
        refine V_iload (i := 5) dX10_measure_93 rfl ?_
        refine V_iconst (v := 1) dX10_measure_95 (by decide) ?_
        refine V_iadd dX10_measure_96 ?_
        refine D_ildG h dX10_measure_97 fun h => ?_
        refine V_aload_n (i := 1) dX10_measure_98 rfl rfl ?_
        refine V_iload (i := 5) dX10_measure_99 rfl ?_
        refine V_iconst (v := 0) dX10_measure_101 (by decide) ?_
        refine V_iadd dX10_measure_102 ?_
        refine D_ildG h dX10_measure_103 fun h => ?_
        refine V_aload_n (i := 1) dX10_measure_104 rfl rfl ?_
        refine V_iload (i := 5) dX10_measure_105 rfl ?_
        refine V_iconst (v := 2) dX10_measure_107 (by decide) ?_
        refine V_iadd dX10_measure_108 ?_
        refine D_ildG h dX10_measure_109 fun h => ?_
        refine D_cVIW (As := [_, _, _]) (μ := fun F12 => (wq ga fa F12 M)) h dX10_measure_110 cv_X10_77 rfl (wq_recv hq) rfl (Nat.le_of_ble_eq_true rfl) (fun x y hx => e_X10_shorten (Nat.le_trans (Nat.le_of_ble_eq_true rfl) hf) hq hx) fun v13 F12 h => ?_
        refine V_istore (i := 7) dX10_measure_113 (Nat.le_of_ble_eq_true rfl) ?_
        refine V_iload_n (i := 3) dX10_measure_115 rfl rfl ?_
        refine D_if_ne (tgt := 129) h dX10_measure_116 rfl (fun b14 h => ?_) (fun b14 h => ?_)
        · refine V_iconst (v := 1) dX10_measure_129 (by decide) ?_
          refine V_goto (tgt := 134) dX10_measure_130 rfl ?_
          refine V_istore_n (i := 3) dX10_measure_134 rfl (Nat.le_of_ble_eq_true rfl) ?_
          refine D_iinc (i := 4) (w := 1) dX10_measure_135 rfl (by decide) (Nat.le_of_ble_eq_true rfl) ?_
          refine V_goto (tgt := 42) dX10_measure_138 rfl ?_
          exact V_sub (ks := [5, 6, 1, 0]) rfl (ih _ _ _ h)
        · refine V_iload (i := 6) dX10_measure_119 rfl ?_
          refine D_if_ne (tgt := 129) h dX10_measure_121 rfl (fun b15 h => ?_) (fun b15 h => ?_)
          · refine V_iconst (v := 1) dX10_measure_129 (by decide) ?_
            refine V_goto (tgt := 134) dX10_measure_130 rfl ?_
            refine V_istore_n (i := 3) dX10_measure_134 rfl (Nat.le_of_ble_eq_true rfl) ?_
            refine D_iinc (i := 4) (w := 1) dX10_measure_135 rfl (by decide) (Nat.le_of_ble_eq_true rfl) ?_
            refine V_goto (tgt := 42) dX10_measure_138 rfl ?_
            exact V_sub (ks := [5, 6, 1, 0]) rfl (ih _ _ _ h)
          · refine V_iload (i := 7) dX10_measure_124 rfl ?_
            refine D_if_eq (tgt := 133) h dX10_measure_126 rfl (fun b16 h => ?_) (fun b16 h => ?_)
            · refine V_iconst (v := 0) dX10_measure_133 (by decide) ?_
              refine V_istore_n (i := 3) dX10_measure_134 rfl (Nat.le_of_ble_eq_true rfl) ?_
              refine D_iinc (i := 4) (w := 1) dX10_measure_135 rfl (by decide) (Nat.le_of_ble_eq_true rfl) ?_
              refine V_goto (tgt := 42) dX10_measure_138 rfl ?_
              exact V_sub (ks := [5, 6, 1, 0]) rfl (ih _ _ _ h)
            · refine V_iconst (v := 1) dX10_measure_129 (by decide) ?_
              refine V_goto (tgt := 134) dX10_measure_130 rfl ?_
              refine V_istore_n (i := 3) dX10_measure_134 rfl (Nat.le_of_ble_eq_true rfl) ?_
              refine D_iinc (i := 4) (w := 1) dX10_measure_135 rfl (by decide) (Nat.le_of_ble_eq_true rfl) ?_
              refine V_goto (tgt := 42) dX10_measure_138 rfl ?_
              exact V_sub (ks := [5, 6, 1, 0]) rfl (ih _ _ _ h)
noncomputable def l_X10_measure_33  : Nat → (Nat → Int32) → Int32 → Option (Nat → Int32)
  | 0, _, _ => none
  | N + 1, F, x3 => if x3 = 0 then some F else l_X10_measure_42 (fun (F17 : Nat → Int32) (x18 : Int32) => l_X10_measure_33 N F17 x18) FU F (0 : Int32) (0 : Int32)
theorem lv_X10_measure_33 {G : GT} {f : Nat} {ga fa q : Nat} {M : MM} {hi k n : Nat}  {r : (Nat → Int32)} (hf : 1 ≤ f) (hq : RQ M q ga fa) : ∀ (N : Nat) (F : Nat → Int32) (x3 : Int32) , l_X10_measure_33 N F x3 = some r → V G f (Ex G f) mX10_measure (RH (.inl none) (wq ga fa r M) hi) 33 [(0, .ref (q)), (1, .ref (ga)), (3, .int x3)] [] (wq ga fa F M) hi k n := by
  intro N
  induction N with
  | zero => intro F x3 h; cases h
  | succ N ih =>
    intro F x3 h
    rw [l_X10_measure_33] at h
    refine V_iload_n (i := 3) dX10_measure_33 rfl rfl ?_
    refine D_if_eq (tgt := 144) h dX10_measure_34 rfl (fun b6 h => ?_) (fun b6 h => ?_)
    · obtain rfl := Option.some.inj h
      exact V_return dX10_measure_144 rfl ⟨rfl, rfl, rfl⟩
    · refine V_iconst (v := 0) dX10_measure_37 (by decide) ?_
      refine V_istore_n (i := 3) dX10_measure_38 rfl (Nat.le_of_ble_eq_true rfl) ?_
      refine V_iconst (v := 0) dX10_measure_39 (by decide) ?_
      refine V_istore (i := 4) dX10_measure_40 (Nat.le_of_ble_eq_true rfl) ?_
      refine V_sub (ks := [2, 3, 1, 0]) rfl (lv_X10_measure_42 hf hq ?_ FU _ _ _ h)
      · intro F17 x18 h
        refine V_goto (tgt := 33) dX10_measure_141 rfl ?_
        exact V_sub (ks := [0, 1, 2]) rfl (ih _ _ h)
noncomputable def f_X10_measure (F : Nat → Int32) (a2 : Int32) : Option (Nat → Int32) :=
  l_X10_measure_2 a2 (fun (F5 : Nat → Int32) => l_X10_measure_33 FU F5 (1 : Int32)) FU F (0 : Int32)
theorem e_X10_measure {G : GT} {f0 : Nat} {ga fa q : Nat} {M : MM} {hi k n : Nat} {F : Nat → Int32} {a2 : Int32} {r : (Nat → Int32)} (hf0 : 2 ≤ f0) (hq : RQ M q ga fa) (h : f_X10_measure F a2 = some r) : Ex G f0 mX10_measure [.ref (q), .ref (ga), .int a2] (wq ga fa F M) hi k n (RH (.inl none) (wq ga fa r M) hi) := by
  obtain ⟨f, rfl, hf⟩ := suc_of hf0
  unfold f_X10_measure at h
  refine ⟨Nat.le_of_ble_eq_true rfl, ?_⟩
  refine V_iconst (v := 0) dX10_measure_0 (by decide) ?_
  refine V_istore_n (i := 3) dX10_measure_1 rfl (Nat.le_of_ble_eq_true rfl) ?_
  refine V_sub (ks := [1, 2, 3, 0]) rfl (lv_X10_measure_2 hf hq ?_ FU _ _ h)
  · intro F5 h
    refine V_iconst (v := 1) dX10_measure_31 (by decide) ?_
    refine V_istore_n (i := 3) dX10_measure_32 rfl (Nat.le_of_ble_eq_true rfl) ?_
    refine V_sub (ks := [1, 2, 0]) rfl (lv_X10_measure_33 hf hq FU _ _ h)
noncomputable def f_X10_isBetween (a0 : Int32) (a1 : Int32) (a2 : Int32) : Option Int32 :=
  if a0 < a1 then some (0 : Int32) else if a2 < a0 then some (0 : Int32) else some (1 : Int32)
theorem e_X10_isBetween {G : GT} {f0 : Nat}  {M : MM} {hi k n : Nat} {a0 : Int32} {a1 : Int32} {a2 : Int32} {r : Int32} (hf0 : 1 ≤ f0) (h : f_X10_isBetween a0 a1 a2 = some r) : Ex G f0 mX10_isBetween [.int a0, .int a1, .int a2] M hi k n (RH (.inl (some (.int r))) M hi) := by
  obtain ⟨f, rfl, hf⟩ := suc_of hf0
  unfold f_X10_isBetween at h
  refine ⟨Nat.le_of_ble_eq_true rfl, ?_⟩
  refine V_iload_n (i := 0) dX10_isBetween_0 rfl rfl ?_
  refine V_iload_n (i := 1) dX10_isBetween_1 rfl rfl ?_
  refine D_icmp_lt (tgt := 14) h dX10_isBetween_2 rfl (fun b1 h => ?_) (fun b1 h => ?_)
  · refine V_iconst (v := 0) dX10_isBetween_14 (by decide) ?_
    obtain rfl := Option.some.inj h
    exact V_ireturn dX10_isBetween_15 ⟨_, rfl, rfl⟩ ⟨rfl, rfl, rfl⟩
  · refine V_iload_n (i := 0) dX10_isBetween_5 rfl rfl ?_
    refine V_iload_n (i := 2) dX10_isBetween_6 rfl rfl ?_
    refine D_icmp_gt (tgt := 14) h dX10_isBetween_7 rfl (fun b2 h => ?_) (fun b2 h => ?_)
    · refine V_iconst (v := 0) dX10_isBetween_14 (by decide) ?_
      obtain rfl := Option.some.inj h
      exact V_ireturn dX10_isBetween_15 ⟨_, rfl, rfl⟩ ⟨rfl, rfl, rfl⟩
    · refine V_iconst (v := 1) dX10_isBetween_10 (by decide) ?_
      refine V_goto (tgt := 15) dX10_isBetween_11 rfl ?_
      obtain rfl := Option.some.inj h
      exact V_ireturn dX10_isBetween_15 ⟨_, rfl, rfl⟩ ⟨rfl, rfl, rfl⟩
noncomputable def l_X10_dropOf_51 (F : Nat → Int32) (c2 : Int32) (c4 : Int32) : Nat → Int32 → Int32 → Int32 → Option (Int32 × (Nat → Int32))
  | 0, _, _, _ => none
  | N + 1, x5, x6, x7 => gd (inr (c4 + (1 : Int32)) 251) (bdc (f_X10_isBetween x7 (0 : Int32) ((F (ix (c4 + (1 : Int32)))) - (1 : Int32))) (fun v7 => if v7 = 0 then some (x5, F) else bdc (f_X10_routeAt F c2 x7) (fun v9 => gd (inr v9 8) (if x6 ≤ (F (251 + ix v9)) then gd (inr (c4 + (9 : Int32)) 251) (bnd (x7 + (F (ix (c4 + (9 : Int32))))) (fun v11 => l_X10_dropOf_51 F c2 c4 N x5 x6 v11)) else gd (inr v9 8) (bnd (F (251 + ix v9)) (fun v12 => gd (inr (c4 + (9 : Int32)) 251) (bnd (x7 + (F (ix (c4 + (9 : Int32))))) (fun v13 => l_X10_dropOf_51 F c2 c4 N v9 v12 v13))))))))
theorem lv_X10_dropOf_51 {G : GT} {f : Nat} {ga fa q : Nat} {M : MM} {hi k n : Nat} {F : Nat → Int32} {c2 : Int32} {c4 : Int32} {r : (Int32 × (Nat → Int32))} (hf : 3 ≤ f) (hq : RQ M q ga fa) : ∀ (N : Nat) (x5 : Int32) (x6 : Int32) (x7 : Int32) , l_X10_dropOf_51 F c2 c4 N x5 x6 x7 = some r → V G f (Ex G f) mX10_dropOf (RH (.inl (some (.int r.1))) (wq ga fa r.2 M) hi) 51 [(0, .ref (q)), (1, .ref (ga)), (2, .int c2), (4, .int c4), (5, .int x5), (6, .int x6), (7, .int x7)] [] (wq ga fa F M) hi k n := by
  intro N
  induction N with
  | zero => intro x5 x6 x7 h; cases h
  | succ N ih =>
    intro x5 x6 x7 h
    rw [l_X10_dropOf_51] at h
    refine V_iload (i := 7) dX10_dropOf_51 rfl ?_
    refine V_iconst (v := 0) dX10_dropOf_53 (by decide) ?_
    refine V_aload_n (i := 1) dX10_dropOf_54 rfl rfl ?_
    refine V_iload (i := 4) dX10_dropOf_55 rfl ?_
    refine V_iconst (v := 1) dX10_dropOf_57 (by decide) ?_
    refine V_iadd dX10_dropOf_58 ?_
    refine D_ildG h dX10_dropOf_59 fun h => ?_
    refine V_iconst (v := 1) dX10_dropOf_60 (by decide) ?_
    refine V_isub dX10_dropOf_61 ?_
    refine D_cSI (As := [_, _, _]) h dX10_dropOf_62 cs_X10_99 rfl rfl (Nat.le_of_ble_eq_true rfl) (fun x hx => e_X10_isBetween (Nat.le_trans (Nat.le_of_ble_eq_true rfl) hf) hx) fun v7 h => ?_
    refine D_if_eq (tgt := 117) h dX10_dropOf_65 rfl (fun b8 h => ?_) (fun b8 h => ?_)
    · refine V_iload (i := 5) dX10_dropOf_117 rfl ?_
      obtain rfl := Option.some.inj h
      exact V_ireturn dX10_dropOf_119 ⟨_, rfl, rfl⟩ ⟨rfl, rfl, rfl⟩
    · refine V_aload_n (i := 1) dX10_dropOf_68 rfl rfl ?_
      refine V_iload_n (i := 2) dX10_dropOf_69 rfl rfl ?_
      refine V_iload (i := 7) dX10_dropOf_70 rfl ?_
      refine D_cSI (As := [_, _, _]) h dX10_dropOf_72 cs_X10_84 rfl rfl (Nat.le_of_ble_eq_true rfl) (fun x hx => e_X10_routeAt (Nat.le_trans (Nat.le_of_ble_eq_true rfl) hf) hx) fun v9 h => ?_
      refine V_istore (i := 8) dX10_dropOf_75 (Nat.le_of_ble_eq_true rfl) ?_
      refine V_aload_n (i := 0) dX10_dropOf_77 rfl rfl ?_
      refine V_gfar hq dX10_dropOf_78 fl_X10_29 ?_
      refine V_iload (i := 8) dX10_dropOf_81 rfl ?_
      refine D_ildF h hq dX10_dropOf_83 fun h => ?_
      refine V_iload (i := 6) dX10_dropOf_84 rfl ?_
      refine D_icmp_ge (tgt := 102) h dX10_dropOf_86 rfl (fun b10 h => ?_) (fun b10 h => ?_)
      · refine V_iload (i := 7) dX10_dropOf_102 rfl ?_
        refine V_aload_n (i := 1) dX10_dropOf_104 rfl rfl ?_
        refine V_iload (i := 4) dX10_dropOf_105 rfl ?_
        refine V_bipush (v := 9) dX10_dropOf_107 (by decide) ?_
        refine V_iadd dX10_dropOf_109 ?_
        refine D_ildG h dX10_dropOf_110 fun h => ?_
        refine V_iadd dX10_dropOf_111 ?_
        refine D_istore (i := 7) h dX10_dropOf_112 (Nat.le_of_ble_eq_true rfl) fun v11 h => ?_
        refine V_goto (tgt := 51) dX10_dropOf_114 rfl ?_
        exact V_sub (ks := [2, 3, 4, 5, 6, 7, 0]) rfl (ih _ _ _ h)
      · refine V_iload (i := 8) dX10_dropOf_89 rfl ?_
        refine V_istore (i := 5) dX10_dropOf_91 (Nat.le_of_ble_eq_true rfl) ?_
        refine V_aload_n (i := 0) dX10_dropOf_93 rfl rfl ?_
        refine V_gfar hq dX10_dropOf_94 fl_X10_29 ?_
        refine V_iload (i := 8) dX10_dropOf_97 rfl ?_
        refine D_ildF h hq dX10_dropOf_99 fun h => ?_
        refine D_istore (i := 6) h dX10_dropOf_100 (Nat.le_of_ble_eq_true rfl) fun v12 h => ?_
        refine V_iload (i := 7) dX10_dropOf_102 rfl ?_
        refine V_aload_n (i := 1) dX10_dropOf_104 rfl rfl ?_
        refine V_iload (i := 4) dX10_dropOf_105 rfl ?_
        refine V_bipush (v := 9) dX10_dropOf_107 (by decide) ?_
        refine V_iadd dX10_dropOf_109 ?_
        refine D_ildG h dX10_dropOf_110 fun h => ?_
        refine V_iadd dX10_dropOf_111 ?_
        refine D_istore (i := 7) h dX10_dropOf_112 (Nat.le_of_ble_eq_true rfl) fun v13 h => ?_
        refine V_goto (tgt := 51) dX10_dropOf_114 rfl ?_
        exact V_sub (ks := [4, 5, 6, 7, 2, 1, 0]) rfl (ih _ _ _ h)
noncomputable def f_X10_dropOf (F : Nat → Int32) (a2 : Int32) (a3 : Int32) : Option (Int32 × (Nat → Int32)) :=
  bdc (f_X10_ofParcel a3) (fun v1 => gd (inr (v1 + (1 : Int32)) 251) (bdc (f_X10_measure F (F (ix (v1 + (1 : Int32))))) (fun F2 => bdc (f_X10_ofTrain a2) (fun v3 => bdc (f_X10_stationOf F2 a2) (fun v4 => gd (inr v4 8) (bnd (F2 (251 + ix v4)) (fun v5 => gd (inr (v3 + (8 : Int32)) 251) (gd (inr (v3 + (9 : Int32)) 251) (bnd ((F2 (ix (v3 + (8 : Int32)))) + (F2 (ix (v3 + (9 : Int32))))) (fun v6 => l_X10_dropOf_51 F2 a2 v3 FU (-1 : Int32) v5 v6))))))))))
theorem e_X10_dropOf {G : GT} {f0 : Nat} {ga fa q : Nat} {M : MM} {hi k n : Nat} {F : Nat → Int32} {a2 : Int32} {a3 : Int32} {r : (Int32 × (Nat → Int32))} (hf0 : 4 ≤ f0) (hq : RQ M q ga fa) (h : f_X10_dropOf F a2 a3 = some r) : Ex G f0 mX10_dropOf [.ref (q), .ref (ga), .int a2, .int a3] (wq ga fa F M) hi k n (RH (.inl (some (.int r.1))) (wq ga fa r.2 M) hi) := by
  obtain ⟨f, rfl, hf⟩ := suc_of hf0
  unfold f_X10_dropOf at h
  refine ⟨Nat.le_of_ble_eq_true rfl, ?_⟩
  refine V_aload_n (i := 0) dX10_dropOf_0 rfl rfl ?_
  refine V_aload_n (i := 1) dX10_dropOf_1 rfl rfl ?_
  refine V_aload_n (i := 1) dX10_dropOf_2 rfl rfl ?_
  refine V_iload_n (i := 3) dX10_dropOf_3 rfl rfl ?_
  refine D_cSI (As := [_]) h dX10_dropOf_4 cs_X10_88 rfl rfl (Nat.le_of_ble_eq_true rfl) (fun x hx => e_X10_ofParcel (Nat.le_trans (Nat.le_of_ble_eq_true rfl) hf) hx) fun v1 h => ?_
  refine V_iconst (v := 1) dX10_dropOf_7 (by decide) ?_
  refine V_iadd dX10_dropOf_8 ?_
  refine D_ildG h dX10_dropOf_9 fun h => ?_
  refine D_cVU (As := [_, _]) (μ := fun F2 => (wq ga fa F2 M)) h dX10_dropOf_10 cv_X10_91 rfl (wq_recv hq) rfl (Nat.le_of_ble_eq_true rfl) (fun y hx => e_X10_measure (Nat.le_trans (Nat.le_of_ble_eq_true rfl) hf) hq hx) fun F2 h => ?_
  refine V_iload_n (i := 2) dX10_dropOf_13 rfl rfl ?_
  refine D_cSI (As := [_]) h dX10_dropOf_14 cs_X10_81 rfl rfl (Nat.le_of_ble_eq_true rfl) (fun x hx => e_X10_ofTrain (Nat.le_trans (Nat.le_of_ble_eq_true rfl) hf) hx) fun v3 h => ?_
  refine V_istore (i := 4) dX10_dropOf_17 (Nat.le_of_ble_eq_true rfl) ?_
  refine V_iconst (v := -1) dX10_dropOf_19 (by decide) ?_
  refine V_istore (i := 5) dX10_dropOf_20 (Nat.le_of_ble_eq_true rfl) ?_
  refine V_aload_n (i := 0) dX10_dropOf_22 rfl rfl ?_
  refine V_gfar hq dX10_dropOf_23 fl_X10_29 ?_
  refine V_aload_n (i := 1) dX10_dropOf_26 rfl rfl ?_
  refine V_iload_n (i := 2) dX10_dropOf_27 rfl rfl ?_
  refine D_cSI (As := [_, _]) h dX10_dropOf_28 cs_X10_95 rfl rfl (Nat.le_of_ble_eq_true rfl) (fun x hx => e_X10_stationOf (Nat.le_trans (Nat.le_of_ble_eq_true rfl) hf) hx) fun v4 h => ?_
  refine D_ildF h hq dX10_dropOf_31 fun h => ?_
  refine D_istore (i := 6) h dX10_dropOf_32 (Nat.le_of_ble_eq_true rfl) fun v5 h => ?_
  refine V_aload_n (i := 1) dX10_dropOf_34 rfl rfl ?_
  refine V_iload (i := 4) dX10_dropOf_35 rfl ?_
  refine V_bipush (v := 8) dX10_dropOf_37 (by decide) ?_
  refine V_iadd dX10_dropOf_39 ?_
  refine D_ildG h dX10_dropOf_40 fun h => ?_
  refine V_aload_n (i := 1) dX10_dropOf_41 rfl rfl ?_
  refine V_iload (i := 4) dX10_dropOf_42 rfl ?_
  refine V_bipush (v := 9) dX10_dropOf_44 (by decide) ?_
  refine V_iadd dX10_dropOf_46 ?_
  refine D_ildG h dX10_dropOf_47 fun h => ?_
  refine V_iadd dX10_dropOf_48 ?_
  refine D_istore (i := 7) h dX10_dropOf_49 (Nat.le_of_ble_eq_true rfl) fun v6 h => ?_
  refine V_sub (ks := [4, 5, 6, 3, 2, 1, 0]) rfl (lv_X10_dropOf_51 hf hq FU _ _ _ h)
noncomputable def f_X10_canLoad (F : Nat → Int32) (a2 : Int32) (a3 : Int32) : Option (Int32 × (Nat → Int32)) :=
  bdc (f_X10_isHeldNow F a3) (fun v1 => if v1 = 0 then bd2 (f_X10_dropOf F a2 a3) (fun v4 F3 => if v4 = (-1 : Int32) then some ((0 : Int32), F3) else some ((1 : Int32), F3)) else some ((0 : Int32), F))
theorem e_X10_canLoad {G : GT} {f0 : Nat} {ga fa q : Nat} {M : MM} {hi k n : Nat} {F : Nat → Int32} {a2 : Int32} {a3 : Int32} {r : (Int32 × (Nat → Int32))} (hf0 : 5 ≤ f0) (hq : RQ M q ga fa) (h : f_X10_canLoad F a2 a3 = some r) : Ex G f0 mX10_canLoad [.ref (q), .ref (ga), .int a2, .int a3] (wq ga fa F M) hi k n (RH (.inl (some (.int r.1))) (wq ga fa r.2 M) hi) := by
  obtain ⟨f, rfl, hf⟩ := suc_of hf0
  unfold f_X10_canLoad at h
  refine ⟨Nat.le_of_ble_eq_true rfl, ?_⟩
  refine V_aload_n (i := 1) dX10_canLoad_0 rfl rfl ?_
  refine V_iload_n (i := 3) dX10_canLoad_1 rfl rfl ?_
  refine D_cSI (As := [_, _]) h dX10_canLoad_2 cs_X10_109 rfl rfl (Nat.le_of_ble_eq_true rfl) (fun x hx => e_X10_isHeldNow (Nat.le_trans (Nat.le_of_ble_eq_true rfl) hf) hx) fun v1 h => ?_
  refine D_if_ne (tgt := 23) h dX10_canLoad_5 rfl (fun b2 h => ?_) (fun b2 h => ?_)
  · refine V_iconst (v := 0) dX10_canLoad_23 (by decide) ?_
    obtain rfl := Option.some.inj h
    exact V_ireturn dX10_canLoad_24 ⟨_, rfl, rfl⟩ ⟨rfl, rfl, rfl⟩
  · refine V_aload_n (i := 0) dX10_canLoad_8 rfl rfl ?_
    refine V_aload_n (i := 1) dX10_canLoad_9 rfl rfl ?_
    refine V_iload_n (i := 2) dX10_canLoad_10 rfl rfl ?_
    refine V_iload_n (i := 3) dX10_canLoad_11 rfl rfl ?_
    refine D_cVIW (As := [_, _, _]) (μ := fun F3 => (wq ga fa F3 M)) h dX10_canLoad_12 cv_X10_113 rfl (wq_recv hq) rfl (Nat.le_of_ble_eq_true rfl) (fun x y hx => e_X10_dropOf (Nat.le_trans (Nat.le_of_ble_eq_true rfl) hf) hq hx) fun v4 F3 h => ?_
    refine V_iconst (v := -1) dX10_canLoad_15 (by decide) ?_
    refine D_icmp_eq (tgt := 23) h dX10_canLoad_16 rfl (fun b5 h => ?_) (fun b5 h => ?_)
    · refine V_iconst (v := 0) dX10_canLoad_23 (by decide) ?_
      obtain rfl := Option.some.inj h
      exact V_ireturn dX10_canLoad_24 ⟨_, rfl, rfl⟩ ⟨rfl, rfl, rfl⟩
    · refine V_iconst (v := 1) dX10_canLoad_19 (by decide) ?_
      refine V_goto (tgt := 24) dX10_canLoad_20 rfl ?_
      obtain rfl := Option.some.inj h
      exact V_ireturn dX10_canLoad_24 ⟨_, rfl, rfl⟩ ⟨rfl, rfl, rfl⟩
noncomputable def l_X10_loadAll_33 (c2 : Int32) (c3 : Int32) : Nat → (Nat → Int32) → Int32 → Int32 → Int32 → Option (Nat → Int32)
  | 0, _, _, _, _ => none
  | N + 1, F, x4, x5, x6 => if x6 = (-1 : Int32) then some F else if x4 ≤ 0 then some F else bd2 (f_X10_canLoad F c2 x6) (fun v9 F8 => if v9 = 0 then bdc (f_X10_considered F8 c3 (x5 + (1 : Int32))) (fun v11 => l_X10_loadAll_33 c2 c3 N F8 x4 (x5 + (1 : Int32)) v11) else bdc (f_X10_ofParcel x6) (fun v12 => bd2 (f_X10_dropOf F8 c2 x6) (fun v14 F13 => gd (inr (v12 + (5 : Int32)) 251) (bnd (upd F13 (ix (v12 + (5 : Int32))) v14) (fun F15 => gd (inr (v12 + (3 : Int32)) 251) (bnd (upd F15 (ix (v12 + (3 : Int32))) (-1 : Int32)) (fun F16 => gd (inr (v12 + (4 : Int32)) 251) (bnd (upd F16 (ix (v12 + (4 : Int32))) c2) (fun F17 => gd (inr (5 : Int32) 251) (gd (inr (5 : Int32) 251) (bnd (upd F17 (ix (5 : Int32)) ((F17 (ix (5 : Int32))) + (1 : Int32))) (fun F18 => bdc (f_X10_considered F18 c3 x5) (fun v19 => l_X10_loadAll_33 c2 c3 N F18 (x4 + (-1 : Int32)) x5 v19)))))))))))))
theorem lv_X10_loadAll_33 {G : GT} {f : Nat} {ga fa q : Nat} {M : MM} {hi k n : Nat} {c2 : Int32} {c3 : Int32} {r : (Nat → Int32)} (hf : 5 ≤ f) (hq : RQ M q ga fa) : ∀ (N : Nat) (F : Nat → Int32) (x4 : Int32) (x5 : Int32) (x6 : Int32) , l_X10_loadAll_33 c2 c3 N F x4 x5 x6 = some r → V G f (Ex G f) mX10_loadAll (RH (.inl none) (wq ga fa r M) hi) 33 [(0, .ref (q)), (1, .ref (ga)), (2, .int c2), (3, .int c3), (4, .int x4), (5, .int x5), (6, .int x6)] [] (wq ga fa F M) hi k n := by
  intro N
  induction N with
  | zero => intro F x4 x5 x6 h; cases h
  | succ N ih =>
    intro F x4 x5 x6 h
    rw [l_X10_loadAll_33] at h
    refine V_iload (i := 6) dX10_loadAll_33 rfl ?_
    refine V_iconst (v := -1) dX10_loadAll_35 (by decide) ?_
    refine D_icmp_eq (tgt := 118) h dX10_loadAll_36 rfl (fun b6 h => ?_) (fun b6 h => ?_)
    · obtain rfl := Option.some.inj h
      exact V_return dX10_loadAll_118 rfl ⟨rfl, rfl, rfl⟩
    · refine V_iload (i := 4) dX10_loadAll_39 rfl ?_
      refine D_if_le (tgt := 118) h dX10_loadAll_41 rfl (fun b7 h => ?_) (fun b7 h => ?_)
      · obtain rfl := Option.some.inj h
        exact V_return dX10_loadAll_118 rfl ⟨rfl, rfl, rfl⟩
      · refine V_aload_n (i := 0) dX10_loadAll_44 rfl rfl ?_
        refine V_aload_n (i := 1) dX10_loadAll_45 rfl rfl ?_
        refine V_iload_n (i := 2) dX10_loadAll_46 rfl rfl ?_
        refine V_iload (i := 6) dX10_loadAll_47 rfl ?_
        refine D_cVIW (As := [_, _, _]) (μ := fun F8 => (wq ga fa F8 M)) h dX10_loadAll_49 cv_X10_119 rfl (wq_recv hq) rfl (Nat.le_of_ble_eq_true rfl) (fun x y hx => e_X10_canLoad (Nat.le_trans (Nat.le_of_ble_eq_true rfl) hf) hq hx) fun v9 F8 h => ?_
        refine D_if_eq (tgt := 103) h dX10_loadAll_52 rfl (fun b10 h => ?_) (fun b10 h => ?_)
        · refine D_iinc (i := 5) (w := 1) dX10_loadAll_103 rfl (by decide) (Nat.le_of_ble_eq_true rfl) ?_
          refine V_aload_n (i := 1) dX10_loadAll_106 rfl rfl ?_
          refine V_iload_n (i := 3) dX10_loadAll_107 rfl rfl ?_
          refine V_iload (i := 5) dX10_loadAll_108 rfl ?_
          refine D_cSI (As := [_, _, _]) h dX10_loadAll_110 cs_X10_122 rfl rfl (Nat.le_of_ble_eq_true rfl) (fun x hx => e_X10_considered (Nat.le_trans (Nat.le_of_ble_eq_true rfl) hf) hx) fun v11 h => ?_
          refine V_istore (i := 6) dX10_loadAll_113 (Nat.le_of_ble_eq_true rfl) ?_
          refine V_goto (tgt := 33) dX10_loadAll_115 rfl ?_
          exact V_sub (ks := [2, 3, 4, 5, 6, 1, 0]) rfl (ih _ _ _ _ h)
        · refine V_iload (i := 6) dX10_loadAll_55 rfl ?_
          refine D_cSI (As := [_]) h dX10_loadAll_57 cs_X10_88 rfl rfl (Nat.le_of_ble_eq_true rfl) (fun x hx => e_X10_ofParcel (Nat.le_trans (Nat.le_of_ble_eq_true rfl) hf) hx) fun v12 h => ?_
          refine V_istore (i := 7) dX10_loadAll_60 (Nat.le_of_ble_eq_true rfl) ?_
          refine V_aload_n (i := 1) dX10_loadAll_62 rfl rfl ?_
          refine V_iload (i := 7) dX10_loadAll_63 rfl ?_
          refine V_iconst (v := 5) dX10_loadAll_65 (by decide) ?_
          refine V_iadd dX10_loadAll_66 ?_
          refine V_aload_n (i := 0) dX10_loadAll_67 rfl rfl ?_
          refine V_aload_n (i := 1) dX10_loadAll_68 rfl rfl ?_
          refine V_iload_n (i := 2) dX10_loadAll_69 rfl rfl ?_
          refine V_iload (i := 6) dX10_loadAll_70 rfl ?_
          refine D_cVIW (As := [_, _, _]) (μ := fun F13 => (wq ga fa F13 M)) h dX10_loadAll_72 cv_X10_113 rfl (wq_recv hq) rfl (Nat.le_of_ble_eq_true rfl) (fun x y hx => e_X10_dropOf (Nat.le_trans (Nat.le_of_ble_eq_true rfl) hf) hq hx) fun v14 F13 h => ?_
          refine D_istG h dX10_loadAll_75 fun F15 h => ?_
          refine V_aload_n (i := 1) dX10_loadAll_76 rfl rfl ?_
          refine V_iload (i := 7) dX10_loadAll_77 rfl ?_
          refine V_iconst (v := 3) dX10_loadAll_79 (by decide) ?_
          refine V_iadd dX10_loadAll_80 ?_
          refine V_iconst (v := -1) dX10_loadAll_81 (by decide) ?_
          refine D_istG h dX10_loadAll_82 fun F16 h => ?_
          refine V_aload_n (i := 1) dX10_loadAll_83 rfl rfl ?_
          refine V_iload (i := 7) dX10_loadAll_84 rfl ?_
          refine V_iconst (v := 4) dX10_loadAll_86 (by decide) ?_
          refine V_iadd dX10_loadAll_87 ?_
          refine V_iload_n (i := 2) dX10_loadAll_88 rfl rfl ?_
          refine D_istG h dX10_loadAll_89 fun F17 h => ?_
          refine V_aload_n (i := 1) dX10_loadAll_90 rfl rfl ?_
          refine V_iconst (v := 5) dX10_loadAll_91 (by decide) ?_
          refine V_dup2_11 dX10_loadAll_92 rfl rfl ?_
          refine D_ildG h dX10_loadAll_93 fun h => ?_
          refine V_iconst (v := 1) dX10_loadAll_94 (by decide) ?_
          refine V_iadd dX10_loadAll_95 ?_
          refine D_istG h dX10_loadAll_96 fun F18 h => ?_
          refine D_iinc (i := 4) (w := -1) dX10_loadAll_97 rfl (by decide) (Nat.le_of_ble_eq_true rfl) ?_
          refine V_goto (tgt := 106) dX10_loadAll_100 rfl ?_
          refine V_aload_n (i := 1) dX10_loadAll_106 rfl rfl ?_
          refine V_iload_n (i := 3) dX10_loadAll_107 rfl rfl ?_
          refine V_iload (i := 5) dX10_loadAll_108 rfl ?_
          refine D_cSI (As := [_, _, _]) h dX10_loadAll_110 cs_X10_122 rfl rfl (Nat.le_of_ble_eq_true rfl) (fun x hx => e_X10_considered (Nat.le_trans (Nat.le_of_ble_eq_true rfl) hf) hx) fun v19 h => ?_
          refine V_istore (i := 6) dX10_loadAll_113 (Nat.le_of_ble_eq_true rfl) ?_
          refine V_goto (tgt := 33) dX10_loadAll_115 rfl ?_
          exact V_sub (ks := [3, 4, 5, 6, 1, 7, 0]) rfl (ih _ _ _ _ h)
noncomputable def f_X10_loadAll (F : Nat → Int32) (a2 : Int32) : Option (Nat → Int32) :=
  bdc (f_X10_stationOf F a2) (fun v1 => bdc (f_X10_ofTrain a2) (fun v2 => gd (inr (v2 + (0 : Int32)) 251) (bdc (f_X10_carried F a2) (fun v3 => bnd ((F (ix (v2 + (0 : Int32)))) - v3) (fun v4 => bdc (f_X10_considered F v1 (0 : Int32)) (fun v5 => l_X10_loadAll_33 a2 v1 FU F v4 (0 : Int32) v5))))))
theorem e_X10_loadAll {G : GT} {f0 : Nat} {ga fa q : Nat} {M : MM} {hi k n : Nat} {F : Nat → Int32} {a2 : Int32} {r : (Nat → Int32)} (hf0 : 6 ≤ f0) (hq : RQ M q ga fa) (h : f_X10_loadAll F a2 = some r) : Ex G f0 mX10_loadAll [.ref (q), .ref (ga), .int a2] (wq ga fa F M) hi k n (RH (.inl none) (wq ga fa r M) hi) := by
  obtain ⟨f, rfl, hf⟩ := suc_of hf0
  unfold f_X10_loadAll at h
  refine ⟨Nat.le_of_ble_eq_true rfl, ?_⟩
  refine V_aload_n (i := 1) dX10_loadAll_0 rfl rfl ?_
  refine V_iload_n (i := 2) dX10_loadAll_1 rfl rfl ?_
  refine D_cSI (As := [_, _]) h dX10_loadAll_2 cs_X10_95 rfl rfl (Nat.le_of_ble_eq_true rfl) (fun x hx => e_X10_stationOf (Nat.le_trans (Nat.le_of_ble_eq_true rfl) hf) hx) fun v1 h => ?_
  refine V_istore_n (i := 3) dX10_loadAll_5 rfl (Nat.le_of_ble_eq_true rfl) ?_
  refine V_aload_n (i := 1) dX10_loadAll_6 rfl rfl ?_
  refine V_iload_n (i := 2) dX10_loadAll_7 rfl rfl ?_
  refine D_cSI (As := [_]) h dX10_loadAll_8 cs_X10_81 rfl rfl (Nat.le_of_ble_eq_true rfl) (fun x hx => e_X10_ofTrain (Nat.le_trans (Nat.le_of_ble_eq_true rfl) hf) hx) fun v2 h => ?_
  refine V_iconst (v := 0) dX10_loadAll_11 (by decide) ?_
  refine V_iadd dX10_loadAll_12 ?_
  refine D_ildG h dX10_loadAll_13 fun h => ?_
  refine V_aload_n (i := 1) dX10_loadAll_14 rfl rfl ?_
  refine V_iload_n (i := 2) dX10_loadAll_15 rfl rfl ?_
  refine D_cSI (As := [_, _]) h dX10_loadAll_16 cs_X10_116 rfl rfl (Nat.le_of_ble_eq_true rfl) (fun x hx => e_X10_carried (Nat.le_trans (Nat.le_of_ble_eq_true rfl) hf) hx) fun v3 h => ?_
  refine V_isub dX10_loadAll_19 ?_
  refine D_istore (i := 4) h dX10_loadAll_20 (Nat.le_of_ble_eq_true rfl) fun v4 h => ?_
  refine V_iconst (v := 0) dX10_loadAll_22 (by decide) ?_
  refine V_istore (i := 5) dX10_loadAll_23 (Nat.le_of_ble_eq_true rfl) ?_
  refine V_aload_n (i := 1) dX10_loadAll_25 rfl rfl ?_
  refine V_iload_n (i := 3) dX10_loadAll_26 rfl rfl ?_
  refine V_iconst (v := 0) dX10_loadAll_27 (by decide) ?_
  refine D_cSI (As := [_, _, _]) h dX10_loadAll_28 cs_X10_122 rfl rfl (Nat.le_of_ble_eq_true rfl) (fun x hx => e_X10_considered (Nat.le_trans (Nat.le_of_ble_eq_true rfl) hf) hx) fun v5 h => ?_
  refine V_istore (i := 6) dX10_loadAll_31 (Nat.le_of_ble_eq_true rfl) ?_
  refine V_sub (ks := [4, 5, 6, 3, 2, 1, 0]) rfl (lv_X10_loadAll_33 hf hq FU _ _ _ _ h)
noncomputable def f_X10_nextOf (F : Nat → Int32) (a1 : Int32) : Option Int32 :=
  bdc (f_X10_ofTrain a1) (fun v1 => gd (inr (v1 + (8 : Int32)) 251) (gd (inr (v1 + (9 : Int32)) 251) (bdc (f_X10_routeAt F a1 ((F (ix (v1 + (8 : Int32)))) + (F (ix (v1 + (9 : Int32)))))) (fun v2 => some v2))))
theorem e_X10_nextOf {G : GT} {f0 : Nat} {ga fa : Nat} {M : MM} {hi k n : Nat} {F : Nat → Int32} {a1 : Int32} {r : Int32} (hf0 : 3 ≤ f0) (h : f_X10_nextOf F a1 = some r) : Ex G f0 mX10_nextOf [.ref (ga), .int a1] (wq ga fa F M) hi k n (RH (.inl (some (.int r))) (wq ga fa F M) hi) := by
  obtain ⟨f, rfl, hf⟩ := suc_of hf0
  unfold f_X10_nextOf at h
  refine ⟨Nat.le_of_ble_eq_true rfl, ?_⟩
  refine V_iload_n (i := 1) dX10_nextOf_0 rfl rfl ?_
  refine D_cSI (As := [_]) h dX10_nextOf_1 cs_X10_81 rfl rfl (Nat.le_of_ble_eq_true rfl) (fun x hx => e_X10_ofTrain (Nat.le_trans (Nat.le_of_ble_eq_true rfl) hf) hx) fun v1 h => ?_
  refine V_istore_n (i := 2) dX10_nextOf_4 rfl (Nat.le_of_ble_eq_true rfl) ?_
  refine V_aload_n (i := 0) dX10_nextOf_5 rfl rfl ?_
  refine V_iload_n (i := 1) dX10_nextOf_6 rfl rfl ?_
  refine V_aload_n (i := 0) dX10_nextOf_7 rfl rfl ?_
  refine V_iload_n (i := 2) dX10_nextOf_8 rfl rfl ?_
  refine V_bipush (v := 8) dX10_nextOf_9 (by decide) ?_
  refine V_iadd dX10_nextOf_11 ?_
  refine D_ildG h dX10_nextOf_12 fun h => ?_
  refine V_aload_n (i := 0) dX10_nextOf_13 rfl rfl ?_
  refine V_iload_n (i := 2) dX10_nextOf_14 rfl rfl ?_
  refine V_bipush (v := 9) dX10_nextOf_15 (by decide) ?_
  refine V_iadd dX10_nextOf_17 ?_
  refine D_ildG h dX10_nextOf_18 fun h => ?_
  refine V_iadd dX10_nextOf_19 ?_
  refine D_cSI (As := [_, _, _]) h dX10_nextOf_20 cs_X10_84 rfl rfl (Nat.le_of_ble_eq_true rfl) (fun x hx => e_X10_routeAt (Nat.le_trans (Nat.le_of_ble_eq_true rfl) hf) hx) fun v2 h => ?_
  obtain rfl := Option.some.inj h
  exact V_ireturn dX10_nextOf_23 ⟨_, rfl, rfl⟩ ⟨rfl, rfl, rfl⟩
noncomputable def l_X10_between_2 (F : Nat → Int32) (c1 : Int32) (c2 : Int32) : Nat → Int32 → Option Int32
  | 0, _ => none
  | N + 1, x3 => gd (inr (2 : Int32) 251) (if (F (ix (2 : Int32))) ≤ x3 then some (-1 : Int32) else bdc (f_X10_ofTrack x3) (fun v2 => gd (inr (v2 + (0 : Int32)) 251) (bnd (F (ix (v2 + (0 : Int32)))) (fun v3 => bdc (f_X10_ofTrack x3) (fun v4 => gd (inr (v4 + (1 : Int32)) 251) (bnd (F (ix (v4 + (1 : Int32)))) (fun v5 => jn (if v3 = c2 then if v5 = c1 then some x3 else l_X10_between_2 F c1 c2 N (x3 + (1 : Int32)) else l_X10_between_2 F c1 c2 N (x3 + (1 : Int32))) (fun j6 => if v3 = c1 then if v5 = c2 then some x3 else j6 else j6))))))))
theorem lv_X10_between_2 {G : GT} {f : Nat} {ga fa : Nat} {M : MM} {hi k n : Nat} {F : Nat → Int32} {c1 : Int32} {c2 : Int32} {r : Int32} (hf : 1 ≤ f) : ∀ (N : Nat) (x3 : Int32) , l_X10_between_2 F c1 c2 N x3 = some r → V G f (Ex G f) mX10_between (RH (.inl (some (.int r))) (wq ga fa F M) hi) 2 [(0, .ref (ga)), (1, .int c1), (2, .int c2), (3, .int x3)] [] (wq ga fa F M) hi k n := by
  intro N
  induction N with
  | zero => intro x3 h; cases h
  | succ N ih =>
    intro x3 h
    rw [l_X10_between_2] at h
    refine V_iload_n (i := 3) dX10_between_2 rfl rfl ?_
    refine V_aload_n (i := 0) dX10_between_3 rfl rfl ?_
    refine V_iconst (v := 2) dX10_between_4 (by decide) ?_
    refine D_ildG h dX10_between_5 fun h => ?_
    refine D_icmp_ge (tgt := 61) h dX10_between_6 rfl (fun b1 h => ?_) (fun b1 h => ?_)
    · refine V_iconst (v := -1) dX10_between_61 (by decide) ?_
      obtain rfl := Option.some.inj h
      exact V_ireturn dX10_between_62 ⟨_, rfl, rfl⟩ ⟨rfl, rfl, rfl⟩
    · refine V_aload_n (i := 0) dX10_between_9 rfl rfl ?_
      refine V_iload_n (i := 3) dX10_between_10 rfl rfl ?_
      refine D_cSI (As := [_]) h dX10_between_11 cs_X10_72 rfl rfl (Nat.le_of_ble_eq_true rfl) (fun x hx => e_X10_ofTrack (Nat.le_trans (Nat.le_of_ble_eq_true rfl) hf) hx) fun v2 h => ?_
      refine V_iconst (v := 0) dX10_between_14 (by decide) ?_
      refine V_iadd dX10_between_15 ?_
      refine D_ildG h dX10_between_16 fun h => ?_
      refine D_istore (i := 4) h dX10_between_17 (Nat.le_of_ble_eq_true rfl) fun v3 h => ?_
      refine V_aload_n (i := 0) dX10_between_19 rfl rfl ?_
      refine V_iload_n (i := 3) dX10_between_20 rfl rfl ?_
      refine D_cSI (As := [_]) h dX10_between_21 cs_X10_72 rfl rfl (Nat.le_of_ble_eq_true rfl) (fun x hx => e_X10_ofTrack (Nat.le_trans (Nat.le_of_ble_eq_true rfl) hf) hx) fun v4 h => ?_
      refine V_iconst (v := 1) dX10_between_24 (by decide) ?_
      refine V_iadd dX10_between_25 ?_
      refine D_ildG h dX10_between_26 fun h => ?_
      refine D_istore (i := 5) h dX10_between_27 (Nat.le_of_ble_eq_true rfl) fun v5 h => ?_
      refine V_iload (i := 4) dX10_between_29 rfl ?_
      refine V_iload_n (i := 1) dX10_between_31 rfl rfl ?_
      refine D_jn (fun (j : Option Int32) =>  j = some r → V G f (Ex G f) mX10_between (RH (.inl (some (.int r))) (wq ga fa F M) hi) 41 [(0, .ref (ga)), (1, .int c1), (2, .int c2), (3, .int x3), (4, .int v3), (5, .int v5)] [] (wq ga fa F M) hi k n) h (fun j6 hj6 h => ?_) ?_
      · refine D_icmp_ne (tgt := 41) h dX10_between_32 rfl (fun b7 h => ?_) (fun b7 h => ?_)
        · exact V_sub (ks := [2, 3, 4, 5, 1, 0]) rfl (hj6 h)
        · refine V_iload (i := 5) dX10_between_35 rfl ?_
          refine V_iload_n (i := 2) dX10_between_37 rfl rfl ?_
          refine D_icmp_eq (tgt := 53) h dX10_between_38 rfl (fun b8 h => ?_) (fun b8 h => ?_)
          · refine V_iload_n (i := 3) dX10_between_53 rfl rfl ?_
            obtain rfl := Option.some.inj h
            exact V_ireturn dX10_between_54 ⟨_, rfl, rfl⟩ ⟨rfl, rfl, rfl⟩
          · exact V_sub (ks := [2, 3, 4, 5, 1, 0]) rfl (hj6 h)
      · intro  h
        refine V_iload (i := 4) dX10_between_41 rfl ?_
        refine V_iload_n (i := 2) dX10_between_43 rfl rfl ?_
        refine D_icmp_ne (tgt := 55) h dX10_between_44 rfl (fun b9 h => ?_) (fun b9 h => ?_)
        · refine D_iinc (i := 3) (w := 1) dX10_between_55 rfl (by decide) (Nat.le_of_ble_eq_true rfl) ?_
          refine V_goto (tgt := 2) dX10_between_58 rfl ?_
          exact V_sub (ks := [1, 2, 3, 0]) rfl (ih _ h)
        · refine V_iload (i := 5) dX10_between_47 rfl ?_
          refine V_iload_n (i := 1) dX10_between_49 rfl rfl ?_
          refine D_icmp_ne (tgt := 55) h dX10_between_50 rfl (fun b10 h => ?_) (fun b10 h => ?_)
          · refine D_iinc (i := 3) (w := 1) dX10_between_55 rfl (by decide) (Nat.le_of_ble_eq_true rfl) ?_
            refine V_goto (tgt := 2) dX10_between_58 rfl ?_
            exact V_sub (ks := [1, 2, 3, 0]) rfl (ih _ h)
          · refine V_iload_n (i := 3) dX10_between_53 rfl rfl ?_
            obtain rfl := Option.some.inj h
            exact V_ireturn dX10_between_54 ⟨_, rfl, rfl⟩ ⟨rfl, rfl, rfl⟩
noncomputable def f_X10_between (F : Nat → Int32) (a1 : Int32) (a2 : Int32) : Option Int32 :=
  l_X10_between_2 F a1 a2 FU (0 : Int32)
theorem e_X10_between {G : GT} {f0 : Nat} {ga fa : Nat} {M : MM} {hi k n : Nat} {F : Nat → Int32} {a1 : Int32} {a2 : Int32} {r : Int32} (hf0 : 2 ≤ f0) (h : f_X10_between F a1 a2 = some r) : Ex G f0 mX10_between [.ref (ga), .int a1, .int a2] (wq ga fa F M) hi k n (RH (.inl (some (.int r))) (wq ga fa F M) hi) := by
  obtain ⟨f, rfl, hf⟩ := suc_of hf0
  unfold f_X10_between at h
  refine ⟨Nat.le_of_ble_eq_true rfl, ?_⟩
  refine V_iconst (v := 0) dX10_between_0 (by decide) ?_
  refine V_istore_n (i := 3) dX10_between_1 rfl (Nat.le_of_ble_eq_true rfl) ?_
  refine V_sub (ks := [1, 2, 3, 0]) rfl (lv_X10_between_2 hf FU _ h)
noncomputable def f_X10_isOpen (F : Nat → Int32) (a1 : Int32) : Option Int32 :=
  if a1 = (-1 : Int32) then some (0 : Int32) else bdc (f_X10_ofTrack a1) (fun v2 => gd (inr (v2 + (3 : Int32)) 251) (if (F (ix (v2 + (3 : Int32)))) = (1 : Int32) then some (1 : Int32) else some (0 : Int32)))
theorem e_X10_isOpen {G : GT} {f0 : Nat} {ga fa : Nat} {M : MM} {hi k n : Nat} {F : Nat → Int32} {a1 : Int32} {r : Int32} (hf0 : 2 ≤ f0) (h : f_X10_isOpen F a1 = some r) : Ex G f0 mX10_isOpen [.ref (ga), .int a1] (wq ga fa F M) hi k n (RH (.inl (some (.int r))) (wq ga fa F M) hi) := by
  obtain ⟨f, rfl, hf⟩ := suc_of hf0
  unfold f_X10_isOpen at h
  refine ⟨Nat.le_of_ble_eq_true rfl, ?_⟩
  refine V_iload_n (i := 1) dX10_isOpen_0 rfl rfl ?_
  refine V_iconst (v := -1) dX10_isOpen_1 (by decide) ?_
  refine D_icmp_eq (tgt := 21) h dX10_isOpen_2 rfl (fun b1 h => ?_) (fun b1 h => ?_)
  · refine V_iconst (v := 0) dX10_isOpen_21 (by decide) ?_
    obtain rfl := Option.some.inj h
    exact V_ireturn dX10_isOpen_22 ⟨_, rfl, rfl⟩ ⟨rfl, rfl, rfl⟩
  · refine V_aload_n (i := 0) dX10_isOpen_5 rfl rfl ?_
    refine V_iload_n (i := 1) dX10_isOpen_6 rfl rfl ?_
    refine D_cSI (As := [_]) h dX10_isOpen_7 cs_X10_72 rfl rfl (Nat.le_of_ble_eq_true rfl) (fun x hx => e_X10_ofTrack (Nat.le_trans (Nat.le_of_ble_eq_true rfl) hf) hx) fun v2 h => ?_
    refine V_iconst (v := 3) dX10_isOpen_10 (by decide) ?_
    refine V_iadd dX10_isOpen_11 ?_
    refine D_ildG h dX10_isOpen_12 fun h => ?_
    refine V_iconst (v := 1) dX10_isOpen_13 (by decide) ?_
    refine D_icmp_ne (tgt := 21) h dX10_isOpen_14 rfl (fun b3 h => ?_) (fun b3 h => ?_)
    · refine V_iconst (v := 0) dX10_isOpen_21 (by decide) ?_
      obtain rfl := Option.some.inj h
      exact V_ireturn dX10_isOpen_22 ⟨_, rfl, rfl⟩ ⟨rfl, rfl, rfl⟩
    · refine V_iconst (v := 1) dX10_isOpen_17 (by decide) ?_
      refine V_goto (tgt := 22) dX10_isOpen_18 rfl ?_
      obtain rfl := Option.some.inj h
      exact V_ireturn dX10_isOpen_22 ⟨_, rfl, rfl⟩ ⟨rfl, rfl, rfl⟩
noncomputable def f_X10_depart (F : Nat → Int32) (a1 : Int32) : Option (Nat → Int32) :=
  bdc (f_X10_ofTrain a1) (fun v1 => bdc (f_X10_stationOf F a1) (fun v2 => bdc (f_X10_nextOf F a1) (fun v3 => bdc (f_X10_between F v2 v3) (fun v4 => bdc (f_X10_isOpen F v4) (fun v5 => jn (fun (v7 : Int32) => gd (inr (v1 + (10 : Int32)) 251) (bnd (upd F (ix (v1 + (10 : Int32))) v7) (fun F9 => gd (inr (v1 + (11 : Int32)) 251) (if v5 = 0 then gd (inr (v1 + (11 : Int32)) 251) (bnd (upd F9 (ix (v1 + (11 : Int32))) ((F9 (ix (v1 + (11 : Int32)))) + (1 : Int32))) (fun F11 => some F11)) else gd (inr (v1 + (11 : Int32)) 251) (bnd (upd F9 (ix (v1 + (11 : Int32))) ((F9 (ix (v1 + (11 : Int32)))) + (0 : Int32))) (fun F12 => some F12)))))) (fun j6 => if v5 = 0 then j6 (-1 : Int32) else j6 (0 : Int32)))))))
theorem e_X10_depart {G : GT} {f0 : Nat} {ga fa : Nat} {M : MM} {hi k n : Nat} {F : Nat → Int32} {a1 : Int32} {r : (Nat → Int32)} (hf0 : 4 ≤ f0) (h : f_X10_depart F a1 = some r) : Ex G f0 mX10_depart [.ref (ga), .int a1] (wq ga fa F M) hi k n (RH (.inl none) (wq ga fa r M) hi) := by
  obtain ⟨f, rfl, hf⟩ := suc_of hf0
  unfold f_X10_depart at h
  refine ⟨Nat.le_of_ble_eq_true rfl, ?_⟩
  refine V_iload_n (i := 1) dX10_depart_0 rfl rfl ?_
  refine D_cSI (As := [_]) h dX10_depart_1 cs_X10_81 rfl rfl (Nat.le_of_ble_eq_true rfl) (fun x hx => e_X10_ofTrain (Nat.le_trans (Nat.le_of_ble_eq_true rfl) hf) hx) fun v1 h => ?_
  refine V_istore_n (i := 2) dX10_depart_4 rfl (Nat.le_of_ble_eq_true rfl) ?_
  refine V_aload_n (i := 0) dX10_depart_5 rfl rfl ?_
  refine V_aload_n (i := 0) dX10_depart_6 rfl rfl ?_
  refine V_aload_n (i := 0) dX10_depart_7 rfl rfl ?_
  refine V_iload_n (i := 1) dX10_depart_8 rfl rfl ?_
  refine D_cSI (As := [_, _]) h dX10_depart_9 cs_X10_95 rfl rfl (Nat.le_of_ble_eq_true rfl) (fun x hx => e_X10_stationOf (Nat.le_trans (Nat.le_of_ble_eq_true rfl) hf) hx) fun v2 h => ?_
  refine V_aload_n (i := 0) dX10_depart_12 rfl rfl ?_
  refine V_iload_n (i := 1) dX10_depart_13 rfl rfl ?_
  refine D_cSI (As := [_, _]) h dX10_depart_14 cs_X10_125 rfl rfl (Nat.le_of_ble_eq_true rfl) (fun x hx => e_X10_nextOf (Nat.le_trans (Nat.le_of_ble_eq_true rfl) hf) hx) fun v3 h => ?_
  refine D_cSI (As := [_, _, _]) h dX10_depart_17 cs_X10_128 rfl rfl (Nat.le_of_ble_eq_true rfl) (fun x hx => e_X10_between (Nat.le_trans (Nat.le_of_ble_eq_true rfl) hf) hx) fun v4 h => ?_
  refine D_cSI (As := [_, _]) h dX10_depart_20 cs_X10_131 rfl rfl (Nat.le_of_ble_eq_true rfl) (fun x hx => e_X10_isOpen (Nat.le_trans (Nat.le_of_ble_eq_true rfl) hf) hx) fun v5 h => ?_
  refine V_istore_n (i := 3) dX10_depart_23 rfl (Nat.le_of_ble_eq_true rfl) ?_
  refine V_aload_n (i := 0) dX10_depart_24 rfl rfl ?_
  refine V_iload_n (i := 2) dX10_depart_25 rfl rfl ?_
  refine V_bipush (v := 10) dX10_depart_26 (by decide) ?_
  refine V_iadd dX10_depart_28 ?_
  refine V_iload_n (i := 3) dX10_depart_29 rfl rfl ?_
  refine D_jn (fun (j : Int32 → Option (Nat → Int32)) => ∀ (v7 : Int32), j v7 = some r → V G f (Ex G f) mX10_depart (RH (.inl none) (wq ga fa r M) hi) 38 [(0, .ref (ga)), (2, .int v1), (3, .int v5)] [.int v7, .int (v1 + (10 : Int32)), .ref (ga)] (wq ga fa F M) hi k n) h (fun j6 hj6 h => ?_) ?_
  · refine D_if_eq (tgt := 37) h dX10_depart_30 rfl (fun b8 h => ?_) (fun b8 h => ?_)
    · refine V_iconst (v := -1) dX10_depart_37 (by decide) ?_
      exact V_sub (ks := [2, 1, 0]) rfl (hj6 _ h)
    · refine V_iconst (v := 0) dX10_depart_33 (by decide) ?_
      refine V_goto (tgt := 38) dX10_depart_34 rfl ?_
      exact V_sub (ks := [2, 1, 0]) rfl (hj6 _ h)
  · intro v7 h
    refine D_istG h dX10_depart_38 fun F9 h => ?_
    refine V_aload_n (i := 0) dX10_depart_39 rfl rfl ?_
    refine V_iload_n (i := 2) dX10_depart_40 rfl rfl ?_
    refine V_bipush (v := 11) dX10_depart_41 (by decide) ?_
    refine V_iadd dX10_depart_43 ?_
    refine V_dup2_11 dX10_depart_44 rfl rfl ?_
    refine D_ildG h dX10_depart_45 fun h => ?_
    refine V_iload_n (i := 3) dX10_depart_46 rfl rfl ?_
    refine D_if_eq (tgt := 54) h dX10_depart_47 rfl (fun b10 h => ?_) (fun b10 h => ?_)
    · refine V_iconst (v := 1) dX10_depart_54 (by decide) ?_
      refine V_iadd dX10_depart_55 ?_
      refine D_istG h dX10_depart_56 fun F11 h => ?_
      obtain rfl := Option.some.inj h
      exact V_return dX10_depart_57 rfl ⟨rfl, rfl, rfl⟩
    · refine V_iconst (v := 0) dX10_depart_50 (by decide) ?_
      refine V_goto (tgt := 55) dX10_depart_51 rfl ?_
      refine V_iadd dX10_depart_55 ?_
      refine D_istG h dX10_depart_56 fun F12 h => ?_
      obtain rfl := Option.some.inj h
      exact V_return dX10_depart_57 rfl ⟨rfl, rfl, rfl⟩
noncomputable def f_X10_ofStation (a0 : Int32) : Option Int32 :=
  some ((7 : Int32) + ((4 : Int32) * a0))
theorem e_X10_ofStation {G : GT} {f0 : Nat}  {M : MM} {hi k n : Nat} {a0 : Int32} {r : Int32} (hf0 : 1 ≤ f0) (h : f_X10_ofStation a0 = some r) : Ex G f0 mX10_ofStation [.int a0] M hi k n (RH (.inl (some (.int r))) M hi) := by
  obtain ⟨f, rfl, hf⟩ := suc_of hf0
  unfold f_X10_ofStation at h
  refine ⟨Nat.le_of_ble_eq_true rfl, ?_⟩
  refine V_bipush (v := 7) dX10_ofStation_0 (by decide) ?_
  refine V_iconst (v := 4) dX10_ofStation_2 (by decide) ?_
  refine V_iload_n (i := 0) dX10_ofStation_3 rfl rfl ?_
  refine V_imul dX10_ofStation_4 ?_
  refine V_iadd dX10_ofStation_5 ?_
  obtain rfl := Option.some.inj h
  exact V_ireturn dX10_ofStation_6 ⟨_, rfl, rfl⟩ ⟨rfl, rfl, rfl⟩
noncomputable def l_X10_hasDropHere_8 (F : Nat → Int32) (c1 : Int32) (c2 : Int32) : Nat → Int32 → Option Int32
  | 0, _ => none
  | N + 1, x3 => gd (inr (4 : Int32) 251) (if (F (ix (4 : Int32))) ≤ x3 then some (0 : Int32) else bdc (f_X10_ofParcel x3) (fun v3 => gd (inr (v3 + (4 : Int32)) 251) (if (F (ix (v3 + (4 : Int32)))) = c1 then bdc (f_X10_ofParcel x3) (fun v5 => gd (inr (v5 + (5 : Int32)) 251) (if (F (ix (v5 + (5 : Int32)))) = c2 then some (1 : Int32) else l_X10_hasDropHere_8 F c1 c2 N (x3 + (1 : Int32)))) else l_X10_hasDropHere_8 F c1 c2 N (x3 + (1 : Int32)))))
theorem lv_X10_hasDropHere_8 {G : GT} {f : Nat} {ga fa : Nat} {M : MM} {hi k n : Nat} {F : Nat → Int32} {c1 : Int32} {c2 : Int32} {r : Int32} (hf : 3 ≤ f) : ∀ (N : Nat) (x3 : Int32) , l_X10_hasDropHere_8 F c1 c2 N x3 = some r → V G f (Ex G f) mX10_hasDropHere (RH (.inl (some (.int r))) (wq ga fa F M) hi) 8 [(0, .ref (ga)), (1, .int c1), (2, .int c2), (3, .int x3)] [] (wq ga fa F M) hi k n := by
  intro N
  induction N with
  | zero => intro x3 h; cases h
  | succ N ih =>
    intro x3 h
    rw [l_X10_hasDropHere_8] at h
    refine V_iload_n (i := 3) dX10_hasDropHere_8 rfl rfl ?_
    refine V_aload_n (i := 0) dX10_hasDropHere_9 rfl rfl ?_
    refine V_iconst (v := 4) dX10_hasDropHere_10 (by decide) ?_
    refine D_ildG h dX10_hasDropHere_11 fun h => ?_
    refine D_icmp_ge (tgt := 47) h dX10_hasDropHere_12 rfl (fun b2 h => ?_) (fun b2 h => ?_)
    · refine V_iconst (v := 0) dX10_hasDropHere_47 (by decide) ?_
      obtain rfl := Option.some.inj h
      exact V_ireturn dX10_hasDropHere_48 ⟨_, rfl, rfl⟩ ⟨rfl, rfl, rfl⟩
    · refine V_aload_n (i := 0) dX10_hasDropHere_15 rfl rfl ?_
      refine V_iload_n (i := 3) dX10_hasDropHere_16 rfl rfl ?_
      refine D_cSI (As := [_]) h dX10_hasDropHere_17 cs_X10_88 rfl rfl (Nat.le_of_ble_eq_true rfl) (fun x hx => e_X10_ofParcel (Nat.le_trans (Nat.le_of_ble_eq_true rfl) hf) hx) fun v3 h => ?_
      refine V_iconst (v := 4) dX10_hasDropHere_20 (by decide) ?_
      refine V_iadd dX10_hasDropHere_21 ?_
      refine D_ildG h dX10_hasDropHere_22 fun h => ?_
      refine V_iload_n (i := 1) dX10_hasDropHere_23 rfl rfl ?_
      refine D_icmp_ne (tgt := 41) h dX10_hasDropHere_24 rfl (fun b4 h => ?_) (fun b4 h => ?_)
      · refine D_iinc (i := 3) (w := 1) dX10_hasDropHere_41 rfl (by decide) (Nat.le_of_ble_eq_true rfl) ?_
        refine V_goto (tgt := 8) dX10_hasDropHere_44 rfl ?_
        exact V_sub (ks := [1, 2, 3, 0]) rfl (ih _ h)
      · refine V_aload_n (i := 0) dX10_hasDropHere_27 rfl rfl ?_
        refine V_iload_n (i := 3) dX10_hasDropHere_28 rfl rfl ?_
        refine D_cSI (As := [_]) h dX10_hasDropHere_29 cs_X10_88 rfl rfl (Nat.le_of_ble_eq_true rfl) (fun x hx => e_X10_ofParcel (Nat.le_trans (Nat.le_of_ble_eq_true rfl) hf) hx) fun v5 h => ?_
        refine V_iconst (v := 5) dX10_hasDropHere_32 (by decide) ?_
        refine V_iadd dX10_hasDropHere_33 ?_
        refine D_ildG h dX10_hasDropHere_34 fun h => ?_
        refine V_iload_n (i := 2) dX10_hasDropHere_35 rfl rfl ?_
        refine D_icmp_ne (tgt := 41) h dX10_hasDropHere_36 rfl (fun b6 h => ?_) (fun b6 h => ?_)
        · refine D_iinc (i := 3) (w := 1) dX10_hasDropHere_41 rfl (by decide) (Nat.le_of_ble_eq_true rfl) ?_
          refine V_goto (tgt := 8) dX10_hasDropHere_44 rfl ?_
          exact V_sub (ks := [1, 2, 3, 0]) rfl (ih _ h)
        · refine V_iconst (v := 1) dX10_hasDropHere_39 (by decide) ?_
          obtain rfl := Option.some.inj h
          exact V_ireturn dX10_hasDropHere_40 ⟨_, rfl, rfl⟩ ⟨rfl, rfl, rfl⟩
noncomputable def f_X10_hasDropHere (F : Nat → Int32) (a1 : Int32) : Option Int32 :=
  bdc (f_X10_stationOf F a1) (fun v1 => l_X10_hasDropHere_8 F a1 v1 FU (0 : Int32))
theorem e_X10_hasDropHere {G : GT} {f0 : Nat} {ga fa : Nat} {M : MM} {hi k n : Nat} {F : Nat → Int32} {a1 : Int32} {r : Int32} (hf0 : 4 ≤ f0) (h : f_X10_hasDropHere F a1 = some r) : Ex G f0 mX10_hasDropHere [.ref (ga), .int a1] (wq ga fa F M) hi k n (RH (.inl (some (.int r))) (wq ga fa F M) hi) := by
  obtain ⟨f, rfl, hf⟩ := suc_of hf0
  unfold f_X10_hasDropHere at h
  refine ⟨Nat.le_of_ble_eq_true rfl, ?_⟩
  refine V_aload_n (i := 0) dX10_hasDropHere_0 rfl rfl ?_
  refine V_iload_n (i := 1) dX10_hasDropHere_1 rfl rfl ?_
  refine D_cSI (As := [_, _]) h dX10_hasDropHere_2 cs_X10_95 rfl rfl (Nat.le_of_ble_eq_true rfl) (fun x hx => e_X10_stationOf (Nat.le_trans (Nat.le_of_ble_eq_true rfl) hf) hx) fun v1 h => ?_
  refine V_istore_n (i := 2) dX10_hasDropHere_5 rfl (Nat.le_of_ble_eq_true rfl) ?_
  refine V_iconst (v := 0) dX10_hasDropHere_6 (by decide) ?_
  refine V_istore_n (i := 3) dX10_hasDropHere_7 rfl (Nat.le_of_ble_eq_true rfl) ?_
  refine V_sub (ks := [2, 3, 1, 0]) rfl (lv_X10_hasDropHere_8 hf FU _ h)
noncomputable def l_X10_wouldLoad_12 (c2 : Int32) (c3 : Int32) : Nat → (Nat → Int32) → Int32 → Int32 → Option (Int32 × (Nat → Int32))
  | 0, _, _, _ => none
  | N + 1, F, x4, x5 => gd (inr (4 : Int32) 251) (if (F (ix (4 : Int32))) ≤ x5 then gd (z01 x4) (some (x4, F)) else bdc (f_X10_carried F c2) (fun v3 => bdc (f_X10_ofTrain c2) (fun v4 => gd (inr (v4 + (0 : Int32)) 251) (if (F (ix (v4 + (0 : Int32)))) ≤ v3 then gd (z01 x4) (some (x4, F)) else if x4 = 0 then bdc (f_X10_waitsAt F x5 c3) (fun v7 => if v7 = 0 then l_X10_wouldLoad_12 c2 c3 N F (0 : Int32) (x5 + (1 : Int32)) else bd2 (f_X10_canLoad F c2 x5) (fun v10 F9 => if v10 = 0 then l_X10_wouldLoad_12 c2 c3 N F9 (0 : Int32) (x5 + (1 : Int32)) else l_X10_wouldLoad_12 c2 c3 N F9 (1 : Int32) (x5 + (1 : Int32)))) else l_X10_wouldLoad_12 c2 c3 N F (1 : Int32) (x5 + (1 : Int32))))))
theorem lv_X10_wouldLoad_12 {G : GT} {f : Nat} {ga fa q : Nat} {M : MM} {hi k n : Nat} {c2 : Int32} {c3 : Int32} {r : (Int32 × (Nat → Int32))} (hf : 5 ≤ f) (hq : RQ M q ga fa) : ∀ (N : Nat) (F : Nat → Int32) (x4 : Int32) (x5 : Int32) , l_X10_wouldLoad_12 c2 c3 N F x4 x5 = some r → V G f (Ex G f) mX10_wouldLoad (RH (.inl (some (.int r.1))) (wq ga fa r.2 M) hi) 12 [(0, .ref (q)), (1, .ref (ga)), (2, .int c2), (3, .int c3), (4, .int x4), (5, .int x5)] [] (wq ga fa F M) hi k n := by
  intro N
  induction N with
  | zero => intro F x4 x5 h; cases h
  | succ N ih =>
    intro F x4 x5 h
    rw [l_X10_wouldLoad_12] at h
    refine V_iload (i := 5) dX10_wouldLoad_12 rfl ?_
    refine V_aload_n (i := 1) dX10_wouldLoad_14 rfl rfl ?_
    refine V_iconst (v := 4) dX10_wouldLoad_15 (by decide) ?_
    refine D_ildG h dX10_wouldLoad_16 fun h => ?_
    refine D_icmp_ge (tgt := 75) h dX10_wouldLoad_17 rfl (fun b2 h => ?_) (fun b2 h => ?_)
    · refine V_iload (i := 4) dX10_wouldLoad_75 rfl ?_
      refine D_gd h fun g h => ?_
      obtain rfl := Option.some.inj h
      exact V_ireturn dX10_wouldLoad_77 ⟨_, rfl, z01_nar g⟩ ⟨rfl, rfl, rfl⟩
    · refine V_aload_n (i := 1) dX10_wouldLoad_20 rfl rfl ?_
      refine V_iload_n (i := 2) dX10_wouldLoad_21 rfl rfl ?_
      refine D_cSI (As := [_, _]) h dX10_wouldLoad_22 cs_X10_116 rfl rfl (Nat.le_of_ble_eq_true rfl) (fun x hx => e_X10_carried (Nat.le_trans (Nat.le_of_ble_eq_true rfl) hf) hx) fun v3 h => ?_
      refine V_aload_n (i := 1) dX10_wouldLoad_25 rfl rfl ?_
      refine V_iload_n (i := 2) dX10_wouldLoad_26 rfl rfl ?_
      refine D_cSI (As := [_]) h dX10_wouldLoad_27 cs_X10_81 rfl rfl (Nat.le_of_ble_eq_true rfl) (fun x hx => e_X10_ofTrain (Nat.le_trans (Nat.le_of_ble_eq_true rfl) hf) hx) fun v4 h => ?_
      refine V_iconst (v := 0) dX10_wouldLoad_30 (by decide) ?_
      refine V_iadd dX10_wouldLoad_31 ?_
      refine D_ildG h dX10_wouldLoad_32 fun h => ?_
      refine D_icmp_ge (tgt := 75) h dX10_wouldLoad_33 rfl (fun b5 h => ?_) (fun b5 h => ?_)
      · refine V_iload (i := 4) dX10_wouldLoad_75 rfl ?_
        refine D_gd h fun g h => ?_
        obtain rfl := Option.some.inj h
        exact V_ireturn dX10_wouldLoad_77 ⟨_, rfl, z01_nar g⟩ ⟨rfl, rfl, rfl⟩
      · refine V_iload (i := 4) dX10_wouldLoad_36 rfl ?_
        refine D_if_ne (tgt := 62) h dX10_wouldLoad_38 rfl (fun b6 h => ?_) (fun b6 h => ?_)
        · refine V_iconst (v := 1) dX10_wouldLoad_62 (by decide) ?_
          refine V_goto (tgt := 67) dX10_wouldLoad_63 rfl ?_
          refine V_istore (i := 4) dX10_wouldLoad_67 (Nat.le_of_ble_eq_true rfl) ?_
          refine D_iinc (i := 5) (w := 1) dX10_wouldLoad_69 rfl (by decide) (Nat.le_of_ble_eq_true rfl) ?_
          refine V_goto (tgt := 12) dX10_wouldLoad_72 rfl ?_
          exact V_sub (ks := [2, 3, 4, 5, 1, 0]) rfl (ih _ _ _ h)
        · refine V_aload_n (i := 1) dX10_wouldLoad_41 rfl rfl ?_
          refine V_iload (i := 5) dX10_wouldLoad_42 rfl ?_
          refine V_iload_n (i := 3) dX10_wouldLoad_44 rfl rfl ?_
          refine D_cSI (As := [_, _, _]) h dX10_wouldLoad_45 cs_X10_102 rfl rfl (Nat.le_of_ble_eq_true rfl) (fun x hx => e_X10_waitsAt (Nat.le_trans (Nat.le_of_ble_eq_true rfl) hf) hx) fun v7 h => ?_
          refine D_if_eq (tgt := 66) h dX10_wouldLoad_48 rfl (fun b8 h => ?_) (fun b8 h => ?_)
          · refine V_iconst (v := 0) dX10_wouldLoad_66 (by decide) ?_
            refine V_istore (i := 4) dX10_wouldLoad_67 (Nat.le_of_ble_eq_true rfl) ?_
            refine D_iinc (i := 5) (w := 1) dX10_wouldLoad_69 rfl (by decide) (Nat.le_of_ble_eq_true rfl) ?_
            refine V_goto (tgt := 12) dX10_wouldLoad_72 rfl ?_
            exact V_sub (ks := [2, 3, 4, 5, 1, 0]) rfl (ih _ _ _ h)
          · refine V_aload_n (i := 0) dX10_wouldLoad_51 rfl rfl ?_
            refine V_aload_n (i := 1) dX10_wouldLoad_52 rfl rfl ?_
            refine V_iload_n (i := 2) dX10_wouldLoad_53 rfl rfl ?_
            refine V_iload (i := 5) dX10_wouldLoad_54 rfl ?_
            refine D_cVIW (As := [_, _, _]) (μ := fun F9 => (wq ga fa F9 M)) h dX10_wouldLoad_56 cv_X10_119 rfl (wq_recv hq) rfl (Nat.le_of_ble_eq_true rfl) (fun x y hx => e_X10_canLoad (Nat.le_trans (Nat.le_of_ble_eq_true rfl) hf) hq hx) fun v10 F9 h => ?_
            refine D_if_eq (tgt := 66) h dX10_wouldLoad_59 rfl (fun b11 h => ?_) (fun b11 h => ?_)
            · refine V_iconst (v := 0) dX10_wouldLoad_66 (by decide) ?_
              refine V_istore (i := 4) dX10_wouldLoad_67 (Nat.le_of_ble_eq_true rfl) ?_
              refine D_iinc (i := 5) (w := 1) dX10_wouldLoad_69 rfl (by decide) (Nat.le_of_ble_eq_true rfl) ?_
              refine V_goto (tgt := 12) dX10_wouldLoad_72 rfl ?_
              exact V_sub (ks := [2, 3, 4, 5, 1, 0]) rfl (ih _ _ _ h)
            · refine V_iconst (v := 1) dX10_wouldLoad_62 (by decide) ?_
              refine V_goto (tgt := 67) dX10_wouldLoad_63 rfl ?_
              refine V_istore (i := 4) dX10_wouldLoad_67 (Nat.le_of_ble_eq_true rfl) ?_
              refine D_iinc (i := 5) (w := 1) dX10_wouldLoad_69 rfl (by decide) (Nat.le_of_ble_eq_true rfl) ?_
              refine V_goto (tgt := 12) dX10_wouldLoad_72 rfl ?_
              exact V_sub (ks := [2, 3, 4, 5, 1, 0]) rfl (ih _ _ _ h)
noncomputable def f_X10_wouldLoad (F : Nat → Int32) (a2 : Int32) : Option (Int32 × (Nat → Int32)) :=
  bdc (f_X10_stationOf F a2) (fun v1 => l_X10_wouldLoad_12 a2 v1 FU F (0 : Int32) (0 : Int32))
theorem e_X10_wouldLoad {G : GT} {f0 : Nat} {ga fa q : Nat} {M : MM} {hi k n : Nat} {F : Nat → Int32} {a2 : Int32} {r : (Int32 × (Nat → Int32))} (hf0 : 6 ≤ f0) (hq : RQ M q ga fa) (h : f_X10_wouldLoad F a2 = some r) : Ex G f0 mX10_wouldLoad [.ref (q), .ref (ga), .int a2] (wq ga fa F M) hi k n (RH (.inl (some (.int r.1))) (wq ga fa r.2 M) hi) := by
  obtain ⟨f, rfl, hf⟩ := suc_of hf0
  unfold f_X10_wouldLoad at h
  refine ⟨Nat.le_of_ble_eq_true rfl, ?_⟩
  refine V_aload_n (i := 1) dX10_wouldLoad_0 rfl rfl ?_
  refine V_iload_n (i := 2) dX10_wouldLoad_1 rfl rfl ?_
  refine D_cSI (As := [_, _]) h dX10_wouldLoad_2 cs_X10_95 rfl rfl (Nat.le_of_ble_eq_true rfl) (fun x hx => e_X10_stationOf (Nat.le_trans (Nat.le_of_ble_eq_true rfl) hf) hx) fun v1 h => ?_
  refine V_istore_n (i := 3) dX10_wouldLoad_5 rfl (Nat.le_of_ble_eq_true rfl) ?_
  refine V_iconst (v := 0) dX10_wouldLoad_6 (by decide) ?_
  refine V_istore (i := 4) dX10_wouldLoad_7 (Nat.le_of_ble_eq_true rfl) ?_
  refine V_iconst (v := 0) dX10_wouldLoad_9 (by decide) ?_
  refine V_istore (i := 5) dX10_wouldLoad_10 (Nat.le_of_ble_eq_true rfl) ?_
  refine V_sub (ks := [3, 4, 5, 2, 1, 0]) rfl (lv_X10_wouldLoad_12 hf hq FU _ _ _ h)
noncomputable def l_X10_unload_8 (c1 : Int32) (c2 : Int32) : Nat → (Nat → Int32) → Int32 → Option (Nat → Int32)
  | 0, _, _ => none
  | N + 1, F, x3 => gd (inr (4 : Int32) 251) (if (F (ix (4 : Int32))) ≤ x3 then some F else bdc (f_X10_ofParcel x3) (fun v3 => gd (inr (v3 + (4 : Int32)) 251) (if (F (ix (v3 + (4 : Int32)))) = c1 then gd (inr (v3 + (5 : Int32)) 251) (if (F (ix (v3 + (5 : Int32)))) = c2 then gd (inr (v3 + (4 : Int32)) 251) (bnd (upd F (ix (v3 + (4 : Int32))) (-1 : Int32)) (fun F6 => gd (inr (v3 + (5 : Int32)) 251) (bnd (upd F6 (ix (v3 + (5 : Int32))) (-1 : Int32)) (fun F7 => gd (inr (6 : Int32) 251) (gd (inr (6 : Int32) 251) (bnd (upd F7 (ix (6 : Int32)) ((F7 (ix (6 : Int32))) + (1 : Int32))) (fun F8 => gd (inr (v3 + (1 : Int32)) 251) (if (F8 (ix (v3 + (1 : Int32)))) = c2 then gd (inr (0 : Int32) 251) (gd (inr (v3 + (8 : Int32)) 251) (bnd (upd F8 (ix (v3 + (8 : Int32))) (F8 (ix (0 : Int32)))) (fun F14 => l_X10_unload_8 c1 c2 N F14 (x3 + (1 : Int32))))) else gd (inr (v3 + (3 : Int32)) 251) (bnd (upd F8 (ix (v3 + (3 : Int32))) c2) (fun F10 => gd (inr (v3 + (6 : Int32)) 251) (gd (inr (v3 + (6 : Int32)) 251) (bnd (upd F10 (ix (v3 + (6 : Int32))) ((F10 (ix (v3 + (6 : Int32)))) + (1 : Int32))) (fun F11 => gd (inr (0 : Int32) 251) (bdc (f_X10_ofStation c2) (fun v12 => gd (inr (v12 + (2 : Int32)) 251) (gd (inr (v3 + (7 : Int32)) 251) (bnd (upd F11 (ix (v3 + (7 : Int32))) ((F11 (ix (0 : Int32))) + (F11 (ix (v12 + (2 : Int32)))))) (fun F13 => l_X10_unload_8 c1 c2 N F13 (x3 + (1 : Int32)))))))))))))))))))) else l_X10_unload_8 c1 c2 N F (x3 + (1 : Int32))) else l_X10_unload_8 c1 c2 N F (x3 + (1 : Int32)))))
theorem lv_X10_unload_8 {G : GT} {f : Nat} {ga fa : Nat} {M : MM} {hi k n : Nat} {c1 : Int32} {c2 : Int32} {r : (Nat → Int32)} (hf : 3 ≤ f) : ∀ (N : Nat) (F : Nat → Int32) (x3 : Int32) , l_X10_unload_8 c1 c2 N F x3 = some r → V G f (Ex G f) mX10_unload (RH (.inl none) (wq ga fa r M) hi) 8 [(0, .ref (ga)), (1, .int c1), (2, .int c2), (3, .int x3)] [] (wq ga fa F M) hi k n := by
  intro N
  induction N with
  | zero => intro F x3 h; cases h
  | succ N ih =>
    intro F x3 h
    rw [l_X10_unload_8] at h
    refine V_iload_n (i := 3) dX10_unload_8 rfl rfl ?_
    refine V_aload_n (i := 0) dX10_unload_9 rfl rfl ?_
    refine V_iconst (v := 4) dX10_unload_10 (by decide) ?_
    refine D_ildG h dX10_unload_11 fun h => ?_
    refine D_icmp_ge (tgt := 129) h dX10_unload_12 rfl (fun b2 h => ?_) (fun b2 h => ?_)
    · obtain rfl := Option.some.inj h
      exact V_return dX10_unload_129 rfl ⟨rfl, rfl, rfl⟩
    · refine V_iload_n (i := 3) dX10_unload_15 rfl rfl ?_
      refine D_cSI (As := [_]) h dX10_unload_16 cs_X10_88 rfl rfl (Nat.le_of_ble_eq_true rfl) (fun x hx => e_X10_ofParcel (Nat.le_trans (Nat.le_of_ble_eq_true rfl) hf) hx) fun v3 h => ?_
      refine V_istore (i := 4) dX10_unload_19 (Nat.le_of_ble_eq_true rfl) ?_
      refine V_aload_n (i := 0) dX10_unload_21 rfl rfl ?_
      refine V_iload (i := 4) dX10_unload_22 rfl ?_
      refine V_iconst (v := 4) dX10_unload_24 (by decide) ?_
      refine V_iadd dX10_unload_25 ?_
      refine D_ildG h dX10_unload_26 fun h => ?_
      refine V_iload_n (i := 1) dX10_unload_27 rfl rfl ?_
      refine D_icmp_ne (tgt := 123) h dX10_unload_28 rfl (fun b4 h => ?_) (fun b4 h => ?_)
      · refine D_iinc (i := 3) (w := 1) dX10_unload_123 rfl (by decide) (Nat.le_of_ble_eq_true rfl) ?_
        refine V_goto (tgt := 8) dX10_unload_126 rfl ?_
        exact V_sub (ks := [2, 3, 4, 0]) rfl (ih _ _ h)
      · refine V_aload_n (i := 0) dX10_unload_31 rfl rfl ?_
        refine V_iload (i := 4) dX10_unload_32 rfl ?_
        refine V_iconst (v := 5) dX10_unload_34 (by decide) ?_
        refine V_iadd dX10_unload_35 ?_
        refine D_ildG h dX10_unload_36 fun h => ?_
        refine V_iload_n (i := 2) dX10_unload_37 rfl rfl ?_
        refine D_icmp_ne (tgt := 123) h dX10_unload_38 rfl (fun b5 h => ?_) (fun b5 h => ?_)
        · refine D_iinc (i := 3) (w := 1) dX10_unload_123 rfl (by decide) (Nat.le_of_ble_eq_true rfl) ?_
          refine V_goto (tgt := 8) dX10_unload_126 rfl ?_
          exact V_sub (ks := [2, 3, 4, 0]) rfl (ih _ _ h)
        · refine V_aload_n (i := 0) dX10_unload_41 rfl rfl ?_
          refine V_iload (i := 4) dX10_unload_42 rfl ?_
          refine V_iconst (v := 4) dX10_unload_44 (by decide) ?_
          refine V_iadd dX10_unload_45 ?_
          refine V_iconst (v := -1) dX10_unload_46 (by decide) ?_
          refine D_istG h dX10_unload_47 fun F6 h => ?_
          refine V_aload_n (i := 0) dX10_unload_48 rfl rfl ?_
          refine V_iload (i := 4) dX10_unload_49 rfl ?_
          refine V_iconst (v := 5) dX10_unload_51 (by decide) ?_
          refine V_iadd dX10_unload_52 ?_
          refine V_iconst (v := -1) dX10_unload_53 (by decide) ?_
          refine D_istG h dX10_unload_54 fun F7 h => ?_
          refine V_aload_n (i := 0) dX10_unload_55 rfl rfl ?_
          refine V_bipush (v := 6) dX10_unload_56 (by decide) ?_
          refine V_dup2_11 dX10_unload_58 rfl rfl ?_
          refine D_ildG h dX10_unload_59 fun h => ?_
          refine V_iconst (v := 1) dX10_unload_60 (by decide) ?_
          refine V_iadd dX10_unload_61 ?_
          refine D_istG h dX10_unload_62 fun F8 h => ?_
          refine V_aload_n (i := 0) dX10_unload_63 rfl rfl ?_
          refine V_iload (i := 4) dX10_unload_64 rfl ?_
          refine V_iconst (v := 1) dX10_unload_66 (by decide) ?_
          refine V_iadd dX10_unload_67 ?_
          refine D_ildG h dX10_unload_68 fun h => ?_
          refine V_iload_n (i := 2) dX10_unload_69 rfl rfl ?_
          refine D_icmp_ne (tgt := 86) h dX10_unload_70 rfl (fun b9 h => ?_) (fun b9 h => ?_)
          · refine V_aload_n (i := 0) dX10_unload_86 rfl rfl ?_
            refine V_iload (i := 4) dX10_unload_87 rfl ?_
            refine V_iconst (v := 3) dX10_unload_89 (by decide) ?_
            refine V_iadd dX10_unload_90 ?_
            refine V_iload_n (i := 2) dX10_unload_91 rfl rfl ?_
            refine D_istG h dX10_unload_92 fun F10 h => ?_
            refine V_aload_n (i := 0) dX10_unload_93 rfl rfl ?_
            refine V_iload (i := 4) dX10_unload_94 rfl ?_
            refine V_bipush (v := 6) dX10_unload_96 (by decide) ?_
            refine V_iadd dX10_unload_98 ?_
            refine V_dup2_11 dX10_unload_99 rfl rfl ?_
            refine D_ildG h dX10_unload_100 fun h => ?_
            refine V_iconst (v := 1) dX10_unload_101 (by decide) ?_
            refine V_iadd dX10_unload_102 ?_
            refine D_istG h dX10_unload_103 fun F11 h => ?_
            refine V_aload_n (i := 0) dX10_unload_104 rfl rfl ?_
            refine V_iload (i := 4) dX10_unload_105 rfl ?_
            refine V_bipush (v := 7) dX10_unload_107 (by decide) ?_
            refine V_iadd dX10_unload_109 ?_
            refine V_aload_n (i := 0) dX10_unload_110 rfl rfl ?_
            refine V_iconst (v := 0) dX10_unload_111 (by decide) ?_
            refine D_ildG h dX10_unload_112 fun h => ?_
            refine V_aload_n (i := 0) dX10_unload_113 rfl rfl ?_
            refine V_iload_n (i := 2) dX10_unload_114 rfl rfl ?_
            refine D_cSI (As := [_]) h dX10_unload_115 cs_X10_134 rfl rfl (Nat.le_of_ble_eq_true rfl) (fun x hx => e_X10_ofStation (Nat.le_trans (Nat.le_of_ble_eq_true rfl) hf) hx) fun v12 h => ?_
            refine V_iconst (v := 2) dX10_unload_118 (by decide) ?_
            refine V_iadd dX10_unload_119 ?_
            refine D_ildG h dX10_unload_120 fun h => ?_
            refine V_iadd dX10_unload_121 ?_
            refine D_istG h dX10_unload_122 fun F13 h => ?_
            refine D_iinc (i := 3) (w := 1) dX10_unload_123 rfl (by decide) (Nat.le_of_ble_eq_true rfl) ?_
            refine V_goto (tgt := 8) dX10_unload_126 rfl ?_
            exact V_sub (ks := [2, 3, 4, 0]) rfl (ih _ _ h)
          · refine V_aload_n (i := 0) dX10_unload_73 rfl rfl ?_
            refine V_iload (i := 4) dX10_unload_74 rfl ?_
            refine V_bipush (v := 8) dX10_unload_76 (by decide) ?_
            refine V_iadd dX10_unload_78 ?_
            refine V_aload_n (i := 0) dX10_unload_79 rfl rfl ?_
            refine V_iconst (v := 0) dX10_unload_80 (by decide) ?_
            refine D_ildG h dX10_unload_81 fun h => ?_
            refine D_istG h dX10_unload_82 fun F14 h => ?_
            refine V_goto (tgt := 123) dX10_unload_83 rfl ?_
            refine D_iinc (i := 3) (w := 1) dX10_unload_123 rfl (by decide) (Nat.le_of_ble_eq_true rfl) ?_
            refine V_goto (tgt := 8) dX10_unload_126 rfl ?_
            exact V_sub (ks := [2, 3, 4, 0]) rfl (ih _ _ h)
noncomputable def f_X10_unload (F : Nat → Int32) (a1 : Int32) : Option (Nat → Int32) :=
  bdc (f_X10_stationOf F a1) (fun v1 => l_X10_unload_8 a1 v1 FU F (0 : Int32))
theorem e_X10_unload {G : GT} {f0 : Nat} {ga fa : Nat} {M : MM} {hi k n : Nat} {F : Nat → Int32} {a1 : Int32} {r : (Nat → Int32)} (hf0 : 4 ≤ f0) (h : f_X10_unload F a1 = some r) : Ex G f0 mX10_unload [.ref (ga), .int a1] (wq ga fa F M) hi k n (RH (.inl none) (wq ga fa r M) hi) := by
  obtain ⟨f, rfl, hf⟩ := suc_of hf0
  unfold f_X10_unload at h
  refine ⟨Nat.le_of_ble_eq_true rfl, ?_⟩
  refine V_aload_n (i := 0) dX10_unload_0 rfl rfl ?_
  refine V_iload_n (i := 1) dX10_unload_1 rfl rfl ?_
  refine D_cSI (As := [_, _]) h dX10_unload_2 cs_X10_95 rfl rfl (Nat.le_of_ble_eq_true rfl) (fun x hx => e_X10_stationOf (Nat.le_trans (Nat.le_of_ble_eq_true rfl) hf) hx) fun v1 h => ?_
  refine V_istore_n (i := 2) dX10_unload_5 rfl (Nat.le_of_ble_eq_true rfl) ?_
  refine V_iconst (v := 0) dX10_unload_6 (by decide) ?_
  refine V_istore_n (i := 3) dX10_unload_7 rfl (Nat.le_of_ble_eq_true rfl) ?_
  refine V_sub (ks := [2, 3, 1, 0]) rfl (lv_X10_unload_8 hf FU _ _ h)
noncomputable def f_X10_arrive (F : Nat → Int32) (a2 : Int32) : Option (Nat → Int32) :=
  bdc (f_X10_ofTrain a2) (fun v1 => gd (inr (v1 + (8 : Int32)) 251) (gd (inr (v1 + (9 : Int32)) 251) (gd (inr (v1 + (8 : Int32)) 251) (bnd (upd F (ix (v1 + (8 : Int32))) ((F (ix (v1 + (8 : Int32)))) + (F (ix (v1 + (9 : Int32)))))) (fun F2 => gd (inr (v1 + (10 : Int32)) 251) (bnd (upd F2 (ix (v1 + (10 : Int32))) (-1 : Int32)) (fun F3 => gd (inr (v1 + (8 : Int32)) 251) (jn (fun (v5 : Int32) => jn (fun (v9 : Int32) => gd (inr (v1 + (9 : Int32)) 251) (bnd (upd F3 (ix (v1 + (9 : Int32))) v9) (fun F11 => bdc (f_X10_stationOf F11 a2) (fun v12 => bdc (f_X10_ofStation v12) (fun v13 => gd (inr (v13 + (1 : Int32)) 251) (jn (fun (F15 : Nat → Int32) => gd (inr (v1 + (12 : Int32)) 251) (gd (inr (v1 + (12 : Int32)) 251) (bnd (upd F15 (ix (v1 + (12 : Int32))) ((F15 (ix (v1 + (12 : Int32)))) + (1 : Int32))) (fun F25 => gd (inr (v13 + (3 : Int32)) 251) (gd (inr (v13 + (3 : Int32)) 251) (bnd (upd F25 (ix (v13 + (3 : Int32))) ((F25 (ix (v13 + (3 : Int32)))) + (1 : Int32))) (fun F26 => bdc (f_X10_unload F26 a2) (fun F27 => some F27)))))))) (fun j14 => if (F11 (ix (v13 + (1 : Int32)))) = 0 then j14 F11 else if v5 = 0 then bdc (f_X10_hasDropHere F11 a2) (fun v18 => if v18 = 0 then bd2 (f_X10_wouldLoad F11 a2) (fun v21 F20 => if v21 = 0 then gd (inr (v1 + (13 : Int32)) 251) (gd (inr (v1 + (13 : Int32)) 251) (bnd (upd F20 (ix (v1 + (13 : Int32))) ((F20 (ix (v1 + (13 : Int32)))) + (1 : Int32))) (fun F23 => bdc (f_X10_depart F23 a2) (fun F24 => some F24)))) else j14 F20) else j14 F11) else j14 F11))))))) (fun j8 => if v5 = 0 then gd (inr (v1 + (9 : Int32)) 251) (j8 (F3 (ix (v1 + (9 : Int32))))) else gd (inr (v1 + (9 : Int32)) 251) (j8 (-(F3 (ix (v1 + (9 : Int32)))))))) (fun j4 => if (F3 (ix (v1 + (8 : Int32)))) = 0 then j4 (1 : Int32) else gd (inr (v1 + (8 : Int32)) 251) (gd (inr (v1 + (1 : Int32)) 251) (if (F3 (ix (v1 + (8 : Int32)))) = ((F3 (ix (v1 + (1 : Int32)))) - (1 : Int32)) then j4 (1 : Int32) else j4 (0 : Int32))))))))))))
theorem e_X10_arrive {G : GT} {f0 : Nat} {ga fa q : Nat} {M : MM} {hi k n : Nat} {F : Nat → Int32} {a2 : Int32} {r : (Nat → Int32)} (hf0 : 7 ≤ f0) (hq : RQ M q ga fa) (h : f_X10_arrive F a2 = some r) : Ex G f0 mX10_arrive [.ref (q), .ref (ga), .int a2] (wq ga fa F M) hi k n (RH (.inl none) (wq ga fa r M) hi) := by
  obtain ⟨f, rfl, hf⟩ := suc_of hf0
  unfold f_X10_arrive at h
  refine ⟨Nat.le_of_ble_eq_true rfl, ?_⟩
  refine V_iload_n (i := 2) dX10_arrive_0 rfl rfl ?_
  refine D_cSI (As := [_]) h dX10_arrive_1 cs_X10_81 rfl rfl (Nat.le_of_ble_eq_true rfl) (fun x hx => e_X10_ofTrain (Nat.le_trans (Nat.le_of_ble_eq_true rfl) hf) hx) fun v1 h => ?_
  refine V_istore_n (i := 3) dX10_arrive_4 rfl (Nat.le_of_ble_eq_true rfl) ?_
  refine V_aload_n (i := 1) dX10_arrive_5 rfl rfl ?_
  refine V_iload_n (i := 3) dX10_arrive_6 rfl rfl ?_
  refine V_bipush (v := 8) dX10_arrive_7 (by decide) ?_
  refine V_iadd dX10_arrive_9 ?_
  refine V_dup2_11 dX10_arrive_10 rfl rfl ?_
  refine D_ildG h dX10_arrive_11 fun h => ?_
  refine V_aload_n (i := 1) dX10_arrive_12 rfl rfl ?_
  refine V_iload_n (i := 3) dX10_arrive_13 rfl rfl ?_
  refine V_bipush (v := 9) dX10_arrive_14 (by decide) ?_
  refine V_iadd dX10_arrive_16 ?_
  refine D_ildG h dX10_arrive_17 fun h => ?_
  refine V_iadd dX10_arrive_18 ?_
  refine D_istG h dX10_arrive_19 fun F2 h => ?_
  refine V_aload_n (i := 1) dX10_arrive_20 rfl rfl ?_
  refine V_iload_n (i := 3) dX10_arrive_21 rfl rfl ?_
  refine V_bipush (v := 10) dX10_arrive_22 (by decide) ?_
  refine V_iadd dX10_arrive_24 ?_
  refine V_iconst (v := -1) dX10_arrive_25 (by decide) ?_
  refine D_istG h dX10_arrive_26 fun F3 h => ?_
  refine V_aload_n (i := 1) dX10_arrive_27 rfl rfl ?_
  refine V_iload_n (i := 3) dX10_arrive_28 rfl rfl ?_
  refine V_bipush (v := 8) dX10_arrive_29 (by decide) ?_
  refine V_iadd dX10_arrive_31 ?_
  refine D_ildG h dX10_arrive_32 fun h => ?_
  refine D_jn (fun (j : Int32 → Option (Nat → Int32)) => ∀ (v5 : Int32), j v5 = some r → V G f (Ex G f) mX10_arrive (RH (.inl none) (wq ga fa r M) hi) 57 [(0, .ref (q)), (1, .ref (ga)), (2, .int a2), (3, .int v1)] [.int v5] (wq ga fa F3 M) hi k n) h (fun j4 hj4 h => ?_) ?_
  · refine D_if_eq (tgt := 52) h dX10_arrive_33 rfl (fun b6 h => ?_) (fun b6 h => ?_)
    · refine V_iconst (v := 1) dX10_arrive_52 (by decide) ?_
      refine V_goto (tgt := 57) dX10_arrive_53 rfl ?_
      exact V_sub (ks := [1, 2, 3, 0]) rfl (hj4 _ h)
    · refine V_aload_n (i := 1) dX10_arrive_36 rfl rfl ?_
      refine V_iload_n (i := 3) dX10_arrive_37 rfl rfl ?_
      refine V_bipush (v := 8) dX10_arrive_38 (by decide) ?_
      refine V_iadd dX10_arrive_40 ?_
      refine D_ildG h dX10_arrive_41 fun h => ?_
      refine V_aload_n (i := 1) dX10_arrive_42 rfl rfl ?_
      refine V_iload_n (i := 3) dX10_arrive_43 rfl rfl ?_
      refine V_iconst (v := 1) dX10_arrive_44 (by decide) ?_
      refine V_iadd dX10_arrive_45 ?_
      refine D_ildG h dX10_arrive_46 fun h => ?_
      refine V_iconst (v := 1) dX10_arrive_47 (by decide) ?_
      refine V_isub dX10_arrive_48 ?_
      refine D_icmp_ne (tgt := 56) h dX10_arrive_49 rfl (fun b7 h => ?_) (fun b7 h => ?_)
      · refine V_iconst (v := 0) dX10_arrive_56 (by decide) ?_
        exact V_sub (ks := [1, 2, 3, 0]) rfl (hj4 _ h)
      · refine V_iconst (v := 1) dX10_arrive_52 (by decide) ?_
        refine V_goto (tgt := 57) dX10_arrive_53 rfl ?_
        exact V_sub (ks := [1, 2, 3, 0]) rfl (hj4 _ h)
  · intro v5 h
    refine V_istore (i := 4) dX10_arrive_57 (Nat.le_of_ble_eq_true rfl) ?_
    refine V_aload_n (i := 1) dX10_arrive_59 rfl rfl ?_
    refine V_iload_n (i := 3) dX10_arrive_60 rfl rfl ?_
    refine V_bipush (v := 9) dX10_arrive_61 (by decide) ?_
    refine V_iadd dX10_arrive_63 ?_
    refine V_iload (i := 4) dX10_arrive_64 rfl ?_
    refine D_jn (fun (j : Int32 → Option (Nat → Int32)) => ∀ (v9 : Int32), j v9 = some r → V G f (Ex G f) mX10_arrive (RH (.inl none) (wq ga fa r M) hi) 85 [(0, .ref (q)), (1, .ref (ga)), (2, .int a2), (3, .int v1), (4, .int v5)] [.int v9, .int (v1 + (9 : Int32)), .ref (ga)] (wq ga fa F3 M) hi k n) h (fun j8 hj8 h => ?_) ?_
    · refine D_if_eq (tgt := 79) h dX10_arrive_66 rfl (fun b10 h => ?_) (fun b10 h => ?_)
      · refine V_aload_n (i := 1) dX10_arrive_79 rfl rfl ?_
        refine V_iload_n (i := 3) dX10_arrive_80 rfl rfl ?_
        refine V_bipush (v := 9) dX10_arrive_81 (by decide) ?_
        refine V_iadd dX10_arrive_83 ?_
        refine D_ildG h dX10_arrive_84 fun h => ?_
        exact V_sub (ks := [1, 2, 3, 4, 0]) rfl (hj8 _ h)
      · refine V_aload_n (i := 1) dX10_arrive_69 rfl rfl ?_
        refine V_iload_n (i := 3) dX10_arrive_70 rfl rfl ?_
        refine V_bipush (v := 9) dX10_arrive_71 (by decide) ?_
        refine V_iadd dX10_arrive_73 ?_
        refine D_ildG h dX10_arrive_74 fun h => ?_
        refine V_ineg dX10_arrive_75 ?_
        refine V_goto (tgt := 85) dX10_arrive_76 rfl ?_
        exact V_sub (ks := [1, 2, 3, 4, 0]) rfl (hj8 _ h)
    · intro v9 h
      refine D_istG h dX10_arrive_85 fun F11 h => ?_
      refine V_aload_n (i := 1) dX10_arrive_86 rfl rfl ?_
      refine V_iload_n (i := 2) dX10_arrive_87 rfl rfl ?_
      refine D_cSI (As := [_, _]) h dX10_arrive_88 cs_X10_95 rfl rfl (Nat.le_of_ble_eq_true rfl) (fun x hx => e_X10_stationOf (Nat.le_trans (Nat.le_of_ble_eq_true rfl) hf) hx) fun v12 h => ?_
      refine D_cSI (As := [_]) h dX10_arrive_91 cs_X10_134 rfl rfl (Nat.le_of_ble_eq_true rfl) (fun x hx => e_X10_ofStation (Nat.le_trans (Nat.le_of_ble_eq_true rfl) hf) hx) fun v13 h => ?_
      refine V_istore (i := 5) dX10_arrive_94 (Nat.le_of_ble_eq_true rfl) ?_
      refine V_aload_n (i := 1) dX10_arrive_96 rfl rfl ?_
      refine V_iload (i := 5) dX10_arrive_97 rfl ?_
      refine V_iconst (v := 1) dX10_arrive_99 (by decide) ?_
      refine V_iadd dX10_arrive_100 ?_
      refine D_ildG h dX10_arrive_101 fun h => ?_
      refine D_jn (fun (j : (Nat → Int32) → Option (Nat → Int32)) => ∀ (F15 : Nat → Int32), j F15 = some r → V G f (Ex G f) mX10_arrive (RH (.inl none) (wq ga fa r M) hi) 127 [(1, .ref (ga)), (2, .int a2), (3, .int v1), (5, .int v13)] [] (wq ga fa F15 M) hi k n) h (fun j14 hj14 h => ?_) ?_
      · refine D_if_eq (tgt := 127) h dX10_arrive_102 rfl (fun b16 h => ?_) (fun b16 h => ?_)
        · exact V_sub (ks := [2, 3, 4, 0]) rfl (hj14 _ h)
        · refine V_iload (i := 4) dX10_arrive_105 rfl ?_
          refine D_if_ne (tgt := 127) h dX10_arrive_107 rfl (fun b17 h => ?_) (fun b17 h => ?_)
          · exact V_sub (ks := [2, 3, 4, 0]) rfl (hj14 _ h)
          · refine V_aload_n (i := 1) dX10_arrive_110 rfl rfl ?_
            refine V_iload_n (i := 2) dX10_arrive_111 rfl rfl ?_
            refine D_cSI (As := [_, _]) h dX10_arrive_112 cs_X10_137 rfl rfl (Nat.le_of_ble_eq_true rfl) (fun x hx => e_X10_hasDropHere (Nat.le_trans (Nat.le_of_ble_eq_true rfl) hf) hx) fun v18 h => ?_
            refine D_if_ne (tgt := 127) h dX10_arrive_115 rfl (fun b19 h => ?_) (fun b19 h => ?_)
            · exact V_sub (ks := [2, 3, 4, 0]) rfl (hj14 _ h)
            · refine V_aload_n (i := 0) dX10_arrive_118 rfl rfl ?_
              refine V_aload_n (i := 1) dX10_arrive_119 rfl rfl ?_
              refine V_iload_n (i := 2) dX10_arrive_120 rfl rfl ?_
              refine D_cVIW (As := [_, _]) (μ := fun F20 => (wq ga fa F20 M)) h dX10_arrive_121 cv_X10_140 rfl (wq_recv hq) rfl (Nat.le_of_ble_eq_true rfl) (fun x y hx => e_X10_wouldLoad (Nat.le_trans (Nat.le_of_ble_eq_true rfl) hf) hq hx) fun v21 F20 h => ?_
              refine D_if_eq (tgt := 155) h dX10_arrive_124 rfl (fun b22 h => ?_) (fun b22 h => ?_)
              · refine V_aload_n (i := 1) dX10_arrive_155 rfl rfl ?_
                refine V_iload_n (i := 3) dX10_arrive_156 rfl rfl ?_
                refine V_bipush (v := 13) dX10_arrive_157 (by decide) ?_
                refine V_iadd dX10_arrive_159 ?_
                refine V_dup2_11 dX10_arrive_160 rfl rfl ?_
                refine D_ildG h dX10_arrive_161 fun h => ?_
                refine V_iconst (v := 1) dX10_arrive_162 (by decide) ?_
                refine V_iadd dX10_arrive_163 ?_
                refine D_istG h dX10_arrive_164 fun F23 h => ?_
                refine V_aload_n (i := 1) dX10_arrive_165 rfl rfl ?_
                refine V_iload_n (i := 2) dX10_arrive_166 rfl rfl ?_
                refine D_cSU (As := [_, _]) (μ := fun F24 => (wq ga fa F24 M)) h dX10_arrive_167 cs_X10_146 rfl rfl (Nat.le_of_ble_eq_true rfl) (fun y hx => e_X10_depart (Nat.le_trans (Nat.le_of_ble_eq_true rfl) hf) hx) fun F24 h => ?_
                obtain rfl := Option.some.inj h
                exact V_return dX10_arrive_170 rfl ⟨rfl, rfl, rfl⟩
              · exact V_sub (ks := [2, 3, 4, 0]) rfl (hj14 _ h)
      · intro F15 h
        refine V_aload_n (i := 1) dX10_arrive_127 rfl rfl ?_
        refine V_iload_n (i := 3) dX10_arrive_128 rfl rfl ?_
        refine V_bipush (v := 12) dX10_arrive_129 (by decide) ?_
        refine V_iadd dX10_arrive_131 ?_
        refine V_dup2_11 dX10_arrive_132 rfl rfl ?_
        refine D_ildG h dX10_arrive_133 fun h => ?_
        refine V_iconst (v := 1) dX10_arrive_134 (by decide) ?_
        refine V_iadd dX10_arrive_135 ?_
        refine D_istG h dX10_arrive_136 fun F25 h => ?_
        refine V_aload_n (i := 1) dX10_arrive_137 rfl rfl ?_
        refine V_iload (i := 5) dX10_arrive_138 rfl ?_
        refine V_iconst (v := 3) dX10_arrive_140 (by decide) ?_
        refine V_iadd dX10_arrive_141 ?_
        refine V_dup2_11 dX10_arrive_142 rfl rfl ?_
        refine D_ildG h dX10_arrive_143 fun h => ?_
        refine V_iconst (v := 1) dX10_arrive_144 (by decide) ?_
        refine V_iadd dX10_arrive_145 ?_
        refine D_istG h dX10_arrive_146 fun F26 h => ?_
        refine V_aload_n (i := 1) dX10_arrive_147 rfl rfl ?_
        refine V_iload_n (i := 2) dX10_arrive_148 rfl rfl ?_
        refine D_cSU (As := [_, _]) (μ := fun F27 => (wq ga fa F27 M)) h dX10_arrive_149 cs_X10_143 rfl rfl (Nat.le_of_ble_eq_true rfl) (fun y hx => e_X10_unload (Nat.le_trans (Nat.le_of_ble_eq_true rfl) hf) hx) fun F27 h => ?_
        refine V_goto (tgt := 170) dX10_arrive_152 rfl ?_
        obtain rfl := Option.some.inj h
        exact V_return dX10_arrive_170 rfl ⟨rfl, rfl, rfl⟩
noncomputable def f_X10_act (F : Nat → Int32) (a2 : Int32) : Option (Nat → Int32) :=
  bdc (f_X10_ofTrain a2) (fun v1 => bdc (f_X10_stands F a2) (fun v2 => if v2 = 0 then gd (inr (v1 + (10 : Int32)) 251) (gd (inr (v1 + (10 : Int32)) 251) (bnd (upd F (ix (v1 + (10 : Int32))) ((F (ix (v1 + (10 : Int32)))) + (1 : Int32))) (fun F4 => bdc (f_X10_stationOf F4 a2) (fun v5 => bdc (f_X10_nextOf F4 a2) (fun v6 => bdc (f_X10_between F4 v5 v6) (fun v7 => gd (inr (v1 + (10 : Int32)) 251) (bdc (f_X10_ofTrack v7) (fun v8 => gd (inr (v8 + (2 : Int32)) 251) (if (F4 (ix (v1 + (10 : Int32)))) < (F4 (ix (v8 + (2 : Int32)))) then some F4 else bdc (f_X10_arrive F4 a2) (fun F10 => some F10)))))))))) else bdc (f_X10_loadAll F a2) (fun F11 => bdc (f_X10_depart F11 a2) (fun F12 => some F12))))
theorem e_X10_act {G : GT} {f0 : Nat} {ga fa q : Nat} {M : MM} {hi k n : Nat} {F : Nat → Int32} {a2 : Int32} {r : (Nat → Int32)} (hf0 : 8 ≤ f0) (hq : RQ M q ga fa) (h : f_X10_act F a2 = some r) : Ex G f0 mX10_act [.ref (q), .ref (ga), .int a2] (wq ga fa F M) hi k n (RH (.inl none) (wq ga fa r M) hi) := by
  obtain ⟨f, rfl, hf⟩ := suc_of hf0
  unfold f_X10_act at h
  refine ⟨Nat.le_of_ble_eq_true rfl, ?_⟩
  refine V_iload_n (i := 2) dX10_act_0 rfl rfl ?_
  refine D_cSI (As := [_]) h dX10_act_1 cs_X10_81 rfl rfl (Nat.le_of_ble_eq_true rfl) (fun x hx => e_X10_ofTrain (Nat.le_trans (Nat.le_of_ble_eq_true rfl) hf) hx) fun v1 h => ?_
  refine V_istore_n (i := 3) dX10_act_4 rfl (Nat.le_of_ble_eq_true rfl) ?_
  refine V_aload_n (i := 1) dX10_act_5 rfl rfl ?_
  refine V_iload_n (i := 2) dX10_act_6 rfl rfl ?_
  refine D_cSI (As := [_, _]) h dX10_act_7 cs_X10_149 rfl rfl (Nat.le_of_ble_eq_true rfl) (fun x hx => e_X10_stands (Nat.le_trans (Nat.le_of_ble_eq_true rfl) hf) hx) fun v2 h => ?_
  refine D_if_eq (tgt := 27) h dX10_act_10 rfl (fun b3 h => ?_) (fun b3 h => ?_)
  · refine V_aload_n (i := 1) dX10_act_27 rfl rfl ?_
    refine V_iload_n (i := 3) dX10_act_28 rfl rfl ?_
    refine V_bipush (v := 10) dX10_act_29 (by decide) ?_
    refine V_iadd dX10_act_31 ?_
    refine V_dup2_11 dX10_act_32 rfl rfl ?_
    refine D_ildG h dX10_act_33 fun h => ?_
    refine V_iconst (v := 1) dX10_act_34 (by decide) ?_
    refine V_iadd dX10_act_35 ?_
    refine D_istG h dX10_act_36 fun F4 h => ?_
    refine V_aload_n (i := 1) dX10_act_37 rfl rfl ?_
    refine V_aload_n (i := 1) dX10_act_38 rfl rfl ?_
    refine V_iload_n (i := 2) dX10_act_39 rfl rfl ?_
    refine D_cSI (As := [_, _]) h dX10_act_40 cs_X10_95 rfl rfl (Nat.le_of_ble_eq_true rfl) (fun x hx => e_X10_stationOf (Nat.le_trans (Nat.le_of_ble_eq_true rfl) hf) hx) fun v5 h => ?_
    refine V_aload_n (i := 1) dX10_act_43 rfl rfl ?_
    refine V_iload_n (i := 2) dX10_act_44 rfl rfl ?_
    refine D_cSI (As := [_, _]) h dX10_act_45 cs_X10_125 rfl rfl (Nat.le_of_ble_eq_true rfl) (fun x hx => e_X10_nextOf (Nat.le_trans (Nat.le_of_ble_eq_true rfl) hf) hx) fun v6 h => ?_
    refine D_cSI (As := [_, _, _]) h dX10_act_48 cs_X10_128 rfl rfl (Nat.le_of_ble_eq_true rfl) (fun x hx => e_X10_between (Nat.le_trans (Nat.le_of_ble_eq_true rfl) hf) hx) fun v7 h => ?_
    refine V_istore (i := 4) dX10_act_51 (Nat.le_of_ble_eq_true rfl) ?_
    refine V_aload_n (i := 1) dX10_act_53 rfl rfl ?_
    refine V_iload_n (i := 3) dX10_act_54 rfl rfl ?_
    refine V_bipush (v := 10) dX10_act_55 (by decide) ?_
    refine V_iadd dX10_act_57 ?_
    refine D_ildG h dX10_act_58 fun h => ?_
    refine V_aload_n (i := 1) dX10_act_59 rfl rfl ?_
    refine V_iload (i := 4) dX10_act_60 rfl ?_
    refine D_cSI (As := [_]) h dX10_act_62 cs_X10_72 rfl rfl (Nat.le_of_ble_eq_true rfl) (fun x hx => e_X10_ofTrack (Nat.le_trans (Nat.le_of_ble_eq_true rfl) hf) hx) fun v8 h => ?_
    refine V_iconst (v := 2) dX10_act_65 (by decide) ?_
    refine V_iadd dX10_act_66 ?_
    refine D_ildG h dX10_act_67 fun h => ?_
    refine D_icmp_lt (tgt := 77) h dX10_act_68 rfl (fun b9 h => ?_) (fun b9 h => ?_)
    · obtain rfl := Option.some.inj h
      exact V_return dX10_act_77 rfl ⟨rfl, rfl, rfl⟩
    · refine V_aload_n (i := 0) dX10_act_71 rfl rfl ?_
      refine V_aload_n (i := 1) dX10_act_72 rfl rfl ?_
      refine V_iload_n (i := 2) dX10_act_73 rfl rfl ?_
      refine D_cVU (As := [_, _]) (μ := fun F10 => (wq ga fa F10 M)) h dX10_act_74 cv_X10_155 rfl (wq_recv hq) rfl (Nat.le_of_ble_eq_true rfl) (fun y hx => e_X10_arrive (Nat.le_trans (Nat.le_of_ble_eq_true rfl) hf) hq hx) fun F10 h => ?_
      obtain rfl := Option.some.inj h
      exact V_return dX10_act_77 rfl ⟨rfl, rfl, rfl⟩
  · refine V_aload_n (i := 0) dX10_act_13 rfl rfl ?_
    refine V_aload_n (i := 1) dX10_act_14 rfl rfl ?_
    refine V_iload_n (i := 2) dX10_act_15 rfl rfl ?_
    refine D_cVU (As := [_, _]) (μ := fun F11 => (wq ga fa F11 M)) h dX10_act_16 cv_X10_152 rfl (wq_recv hq) rfl (Nat.le_of_ble_eq_true rfl) (fun y hx => e_X10_loadAll (Nat.le_trans (Nat.le_of_ble_eq_true rfl) hf) hq hx) fun F11 h => ?_
    refine V_aload_n (i := 1) dX10_act_19 rfl rfl ?_
    refine V_iload_n (i := 2) dX10_act_20 rfl rfl ?_
    refine D_cSU (As := [_, _]) (μ := fun F12 => (wq ga fa F12 M)) h dX10_act_21 cs_X10_146 rfl rfl (Nat.le_of_ble_eq_true rfl) (fun y hx => e_X10_depart (Nat.le_trans (Nat.le_of_ble_eq_true rfl) hf) hx) fun F12 h => ?_
    refine V_goto (tgt := 77) dX10_act_24 rfl ?_
    obtain rfl := Option.some.inj h
    exact V_return dX10_act_77 rfl ⟨rfl, rfl, rfl⟩
noncomputable def l_X10_deliveredIn_4 (F : Nat → Int32) : Nat → Int32 → Int32 → Option Int32
  | 0, _, _ => none
  | N + 1, x1, x2 => gd (inr (4 : Int32) 251) (if (F (ix (4 : Int32))) ≤ x2 then some x1 else bdc (f_X10_ofParcel x2) (fun v2 => gd (inr (v2 + (8 : Int32)) 251) (if (F (ix (v2 + (8 : Int32)))) = (-1 : Int32) then bnd (x1 + (0 : Int32)) (fun v5 => l_X10_deliveredIn_4 F N v5 (x2 + (1 : Int32))) else bnd (x1 + (1 : Int32)) (fun v4 => l_X10_deliveredIn_4 F N v4 (x2 + (1 : Int32))))))
theorem lv_X10_deliveredIn_4 {G : GT} {f : Nat} {ga fa : Nat} {M : MM} {hi k n : Nat} {F : Nat → Int32} {r : Int32} (hf : 1 ≤ f) : ∀ (N : Nat) (x1 : Int32) (x2 : Int32) , l_X10_deliveredIn_4 F N x1 x2 = some r → V G f (Ex G f) mX10_deliveredIn (RH (.inl (some (.int r))) (wq ga fa F M) hi) 4 [(0, .ref (ga)), (1, .int x1), (2, .int x2)] [] (wq ga fa F M) hi k n := by
  intro N
  induction N with
  | zero => intro x1 x2 h; cases h
  | succ N ih =>
    intro x1 x2 h
    rw [l_X10_deliveredIn_4] at h
    refine V_iload_n (i := 2) dX10_deliveredIn_4 rfl rfl ?_
    refine V_aload_n (i := 0) dX10_deliveredIn_5 rfl rfl ?_
    refine V_iconst (v := 4) dX10_deliveredIn_6 (by decide) ?_
    refine D_ildG h dX10_deliveredIn_7 fun h => ?_
    refine D_icmp_ge (tgt := 38) h dX10_deliveredIn_8 rfl (fun b1 h => ?_) (fun b1 h => ?_)
    · refine V_iload_n (i := 1) dX10_deliveredIn_38 rfl rfl ?_
      obtain rfl := Option.some.inj h
      exact V_ireturn dX10_deliveredIn_39 ⟨_, rfl, rfl⟩ ⟨rfl, rfl, rfl⟩
    · refine V_iload_n (i := 1) dX10_deliveredIn_11 rfl rfl ?_
      refine V_aload_n (i := 0) dX10_deliveredIn_12 rfl rfl ?_
      refine V_iload_n (i := 2) dX10_deliveredIn_13 rfl rfl ?_
      refine D_cSI (As := [_]) h dX10_deliveredIn_14 cs_X10_88 rfl rfl (Nat.le_of_ble_eq_true rfl) (fun x hx => e_X10_ofParcel (Nat.le_trans (Nat.le_of_ble_eq_true rfl) hf) hx) fun v2 h => ?_
      refine V_bipush (v := 8) dX10_deliveredIn_17 (by decide) ?_
      refine V_iadd dX10_deliveredIn_19 ?_
      refine D_ildG h dX10_deliveredIn_20 fun h => ?_
      refine V_iconst (v := -1) dX10_deliveredIn_21 (by decide) ?_
      refine D_icmp_ne (tgt := 29) h dX10_deliveredIn_22 rfl (fun b3 h => ?_) (fun b3 h => ?_)
      · refine V_iconst (v := 1) dX10_deliveredIn_29 (by decide) ?_
        refine V_iadd dX10_deliveredIn_30 ?_
        refine D_istore_n (i := 1) h dX10_deliveredIn_31 rfl (Nat.le_of_ble_eq_true rfl) fun v4 h => ?_
        refine D_iinc (i := 2) (w := 1) dX10_deliveredIn_32 rfl (by decide) (Nat.le_of_ble_eq_true rfl) ?_
        refine V_goto (tgt := 4) dX10_deliveredIn_35 rfl ?_
        exact V_sub (ks := [2, 1, 0]) rfl (ih _ _ h)
      · refine V_iconst (v := 0) dX10_deliveredIn_25 (by decide) ?_
        refine V_goto (tgt := 30) dX10_deliveredIn_26 rfl ?_
        refine V_iadd dX10_deliveredIn_30 ?_
        refine D_istore_n (i := 1) h dX10_deliveredIn_31 rfl (Nat.le_of_ble_eq_true rfl) fun v5 h => ?_
        refine D_iinc (i := 2) (w := 1) dX10_deliveredIn_32 rfl (by decide) (Nat.le_of_ble_eq_true rfl) ?_
        refine V_goto (tgt := 4) dX10_deliveredIn_35 rfl ?_
        exact V_sub (ks := [2, 1, 0]) rfl (ih _ _ h)
noncomputable def f_X10_deliveredIn (F : Nat → Int32) : Option Int32 :=
  l_X10_deliveredIn_4 F FU (0 : Int32) (0 : Int32)
theorem e_X10_deliveredIn {G : GT} {f0 : Nat} {ga fa : Nat} {M : MM} {hi k n : Nat} {F : Nat → Int32} {r : Int32} (hf0 : 2 ≤ f0) (h : f_X10_deliveredIn F = some r) : Ex G f0 mX10_deliveredIn [.ref (ga)] (wq ga fa F M) hi k n (RH (.inl (some (.int r))) (wq ga fa F M) hi) := by
  obtain ⟨f, rfl, hf⟩ := suc_of hf0
  unfold f_X10_deliveredIn at h
  refine ⟨Nat.le_of_ble_eq_true rfl, ?_⟩
  refine V_iconst (v := 0) dX10_deliveredIn_0 (by decide) ?_
  refine V_istore_n (i := 1) dX10_deliveredIn_1 rfl (Nat.le_of_ble_eq_true rfl) ?_
  refine V_iconst (v := 0) dX10_deliveredIn_2 (by decide) ?_
  refine V_istore_n (i := 2) dX10_deliveredIn_3 rfl (Nat.le_of_ble_eq_true rfl) ?_
  refine V_sub (ks := [2, 1, 0]) rfl (lv_X10_deliveredIn_4 hf FU _ _ h)
noncomputable def f_X10_layParcel (F : Nat → Int32) (a1 : Int32) (a2 : Int32) (a3 : Int32) : Option (Int32 × (Nat → Int32)) :=
  gd (inr (4 : Int32) 251) (bdc (f_X10_ofParcel (F (ix (4 : Int32)))) (fun v1 => gd (inr (v1 + (0 : Int32)) 251) (bnd (upd F (ix (v1 + (0 : Int32))) a1) (fun F2 => gd (inr (v1 + (1 : Int32)) 251) (bnd (upd F2 (ix (v1 + (1 : Int32))) a2) (fun F3 => gd (inr (v1 + (2 : Int32)) 251) (bnd (upd F3 (ix (v1 + (2 : Int32))) a3) (fun F4 => gd (inr (v1 + (3 : Int32)) 251) (bnd (upd F4 (ix (v1 + (3 : Int32))) a1) (fun F5 => gd (inr (v1 + (4 : Int32)) 251) (bnd (upd F5 (ix (v1 + (4 : Int32))) (-1 : Int32)) (fun F6 => gd (inr (v1 + (5 : Int32)) 251) (bnd (upd F6 (ix (v1 + (5 : Int32))) (-1 : Int32)) (fun F7 => gd (inr (v1 + (6 : Int32)) 251) (bnd (upd F7 (ix (v1 + (6 : Int32))) (0 : Int32)) (fun F8 => gd (inr (v1 + (7 : Int32)) 251) (bnd (upd F8 (ix (v1 + (7 : Int32))) (0 : Int32)) (fun F9 => gd (inr (v1 + (8 : Int32)) 251) (bnd (upd F9 (ix (v1 + (8 : Int32))) (-1 : Int32)) (fun F10 => gd (inr (4 : Int32) 251) (gd (inr (4 : Int32) 251) (bnd (upd F10 (ix (4 : Int32)) ((F10 (ix (4 : Int32))) + (1 : Int32))) (fun F11 => gd (inr (4 : Int32) 251) (some ((F11 (ix (4 : Int32))) - (1 : Int32), F11)))))))))))))))))))))))))
theorem e_X10_layParcel {G : GT} {f0 : Nat} {ga fa : Nat} {M : MM} {hi k n : Nat} {F : Nat → Int32} {a1 : Int32} {a2 : Int32} {a3 : Int32} {r : (Int32 × (Nat → Int32))} (hf0 : 2 ≤ f0) (h : f_X10_layParcel F a1 a2 a3 = some r) : Ex G f0 mX10_layParcel [.ref (ga), .int a1, .int a2, .int a3] (wq ga fa F M) hi k n (RH (.inl (some (.int r.1))) (wq ga fa r.2 M) hi) := by
  obtain ⟨f, rfl, hf⟩ := suc_of hf0
  unfold f_X10_layParcel at h
  refine ⟨Nat.le_of_ble_eq_true rfl, ?_⟩
  refine V_aload_n (i := 0) dX10_layParcel_0 rfl rfl ?_
  refine V_iconst (v := 4) dX10_layParcel_1 (by decide) ?_
  refine D_ildG h dX10_layParcel_2 fun h => ?_
  refine D_cSI (As := [_]) h dX10_layParcel_3 cs_X10_88 rfl rfl (Nat.le_of_ble_eq_true rfl) (fun x hx => e_X10_ofParcel (Nat.le_trans (Nat.le_of_ble_eq_true rfl) hf) hx) fun v1 h => ?_
  refine V_istore (i := 4) dX10_layParcel_6 (Nat.le_of_ble_eq_true rfl) ?_
  refine V_aload_n (i := 0) dX10_layParcel_8 rfl rfl ?_
  refine V_iload (i := 4) dX10_layParcel_9 rfl ?_
  refine V_iconst (v := 0) dX10_layParcel_11 (by decide) ?_
  refine V_iadd dX10_layParcel_12 ?_
  refine V_iload_n (i := 1) dX10_layParcel_13 rfl rfl ?_
  refine D_istG h dX10_layParcel_14 fun F2 h => ?_
  refine V_aload_n (i := 0) dX10_layParcel_15 rfl rfl ?_
  refine V_iload (i := 4) dX10_layParcel_16 rfl ?_
  refine V_iconst (v := 1) dX10_layParcel_18 (by decide) ?_
  refine V_iadd dX10_layParcel_19 ?_
  refine V_iload_n (i := 2) dX10_layParcel_20 rfl rfl ?_
  refine D_istG h dX10_layParcel_21 fun F3 h => ?_
  refine V_aload_n (i := 0) dX10_layParcel_22 rfl rfl ?_
  refine V_iload (i := 4) dX10_layParcel_23 rfl ?_
  refine V_iconst (v := 2) dX10_layParcel_25 (by decide) ?_
  refine V_iadd dX10_layParcel_26 ?_
  refine V_iload_n (i := 3) dX10_layParcel_27 rfl rfl ?_
  refine D_istG h dX10_layParcel_28 fun F4 h => ?_
  refine V_aload_n (i := 0) dX10_layParcel_29 rfl rfl ?_
  refine V_iload (i := 4) dX10_layParcel_30 rfl ?_
  refine V_iconst (v := 3) dX10_layParcel_32 (by decide) ?_
  refine V_iadd dX10_layParcel_33 ?_
  refine V_iload_n (i := 1) dX10_layParcel_34 rfl rfl ?_
  refine D_istG h dX10_layParcel_35 fun F5 h => ?_
  refine V_aload_n (i := 0) dX10_layParcel_36 rfl rfl ?_
  refine V_iload (i := 4) dX10_layParcel_37 rfl ?_
  refine V_iconst (v := 4) dX10_layParcel_39 (by decide) ?_
  refine V_iadd dX10_layParcel_40 ?_
  refine V_iconst (v := -1) dX10_layParcel_41 (by decide) ?_
  refine D_istG h dX10_layParcel_42 fun F6 h => ?_
  refine V_aload_n (i := 0) dX10_layParcel_43 rfl rfl ?_
  refine V_iload (i := 4) dX10_layParcel_44 rfl ?_
  refine V_iconst (v := 5) dX10_layParcel_46 (by decide) ?_
  refine V_iadd dX10_layParcel_47 ?_
  refine V_iconst (v := -1) dX10_layParcel_48 (by decide) ?_
  refine D_istG h dX10_layParcel_49 fun F7 h => ?_
  refine V_aload_n (i := 0) dX10_layParcel_50 rfl rfl ?_
  refine V_iload (i := 4) dX10_layParcel_51 rfl ?_
  refine V_bipush (v := 6) dX10_layParcel_53 (by decide) ?_
  refine V_iadd dX10_layParcel_55 ?_
  refine V_iconst (v := 0) dX10_layParcel_56 (by decide) ?_
  refine D_istG h dX10_layParcel_57 fun F8 h => ?_
  refine V_aload_n (i := 0) dX10_layParcel_58 rfl rfl ?_
  refine V_iload (i := 4) dX10_layParcel_59 rfl ?_
  refine V_bipush (v := 7) dX10_layParcel_61 (by decide) ?_
  refine V_iadd dX10_layParcel_63 ?_
  refine V_iconst (v := 0) dX10_layParcel_64 (by decide) ?_
  refine D_istG h dX10_layParcel_65 fun F9 h => ?_
  refine V_aload_n (i := 0) dX10_layParcel_66 rfl rfl ?_
  refine V_iload (i := 4) dX10_layParcel_67 rfl ?_
  refine V_bipush (v := 8) dX10_layParcel_69 (by decide) ?_
  refine V_iadd dX10_layParcel_71 ?_
  refine V_iconst (v := -1) dX10_layParcel_72 (by decide) ?_
  refine D_istG h dX10_layParcel_73 fun F10 h => ?_
  refine V_aload_n (i := 0) dX10_layParcel_74 rfl rfl ?_
  refine V_iconst (v := 4) dX10_layParcel_75 (by decide) ?_
  refine V_dup2_11 dX10_layParcel_76 rfl rfl ?_
  refine D_ildG h dX10_layParcel_77 fun h => ?_
  refine V_iconst (v := 1) dX10_layParcel_78 (by decide) ?_
  refine V_iadd dX10_layParcel_79 ?_
  refine D_istG h dX10_layParcel_80 fun F11 h => ?_
  refine V_aload_n (i := 0) dX10_layParcel_81 rfl rfl ?_
  refine V_iconst (v := 4) dX10_layParcel_82 (by decide) ?_
  refine D_ildG h dX10_layParcel_83 fun h => ?_
  refine V_iconst (v := 1) dX10_layParcel_84 (by decide) ?_
  refine V_isub dX10_layParcel_85 ?_
  obtain rfl := Option.some.inj h
  exact V_ireturn dX10_layParcel_86 ⟨_, rfl, rfl⟩ ⟨rfl, rfl, rfl⟩
noncomputable def l_X10_letterOf_4 (c1 : Int32) : Nat → Int32 → Int32 → Option Int32
  | 0, _, _ => none
  | N + 1, x2, x3 => if x3 ≤ c1 then some (x2 - x2 / (27 : Int32) * (27 : Int32)) else bnd (x2 / (27 : Int32)) (fun v2 => l_X10_letterOf_4 c1 N v2 (x3 + (-1 : Int32)))
theorem lv_X10_letterOf_4 {G : GT} {f : Nat}  {M : MM} {hi k n : Nat} {c1 : Int32} {r : Int32} (hf : 0 ≤ f) : ∀ (N : Nat) (x2 : Int32) (x3 : Int32) , l_X10_letterOf_4 c1 N x2 x3 = some r → V G f (Ex G f) mX10_letterOf (RH (.inl (some (.int r))) M hi) 4 [(1, .int c1), (2, .int x2), (3, .int x3)] [] M hi k n := by
  intro N
  induction N with
  | zero => intro x2 x3 h; cases h
  | succ N ih =>
    intro x2 x3 h
    rw [l_X10_letterOf_4] at h
    refine V_iload_n (i := 3) dX10_letterOf_4 rfl rfl ?_
    refine V_iload_n (i := 1) dX10_letterOf_5 rfl rfl ?_
    refine D_icmp_le (tgt := 20) h dX10_letterOf_6 rfl (fun b1 h => ?_) (fun b1 h => ?_)
    · refine V_iload_n (i := 2) dX10_letterOf_20 rfl rfl ?_
      refine V_bipush (v := 27) dX10_letterOf_21 (by decide) ?_
      refine V_irem dX10_letterOf_23 (by decide) ?_
      obtain rfl := Option.some.inj h
      exact V_ireturn dX10_letterOf_24 ⟨_, rfl, rfl⟩ ⟨rfl, rfl, rfl⟩
    · refine V_iload_n (i := 2) dX10_letterOf_9 rfl rfl ?_
      refine V_bipush (v := 27) dX10_letterOf_10 (by decide) ?_
      refine V_idiv dX10_letterOf_12 (by decide) ?_
      refine D_istore_n (i := 2) h dX10_letterOf_13 rfl (Nat.le_of_ble_eq_true rfl) fun v2 h => ?_
      refine D_iinc (i := 3) (w := -1) dX10_letterOf_14 rfl (by decide) (Nat.le_of_ble_eq_true rfl) ?_
      refine V_goto (tgt := 4) dX10_letterOf_17 rfl ?_
      exact V_sub (ks := [2, 1, 0]) rfl (ih _ _ h)
noncomputable def f_X10_letterOf (a0 : Int32) (a1 : Int32) : Option Int32 :=
  l_X10_letterOf_4 a1 FU a0 (3 : Int32)
theorem e_X10_letterOf {G : GT} {f0 : Nat}  {M : MM} {hi k n : Nat} {a0 : Int32} {a1 : Int32} {r : Int32} (hf0 : 1 ≤ f0) (h : f_X10_letterOf a0 a1 = some r) : Ex G f0 mX10_letterOf [.int a0, .int a1] M hi k n (RH (.inl (some (.int r))) M hi) := by
  obtain ⟨f, rfl, hf⟩ := suc_of hf0
  unfold f_X10_letterOf at h
  refine ⟨Nat.le_of_ble_eq_true rfl, ?_⟩
  refine V_iload_n (i := 0) dX10_letterOf_0 rfl rfl ?_
  refine V_istore_n (i := 2) dX10_letterOf_1 rfl (Nat.le_of_ble_eq_true rfl) ?_
  refine V_iconst (v := 3) dX10_letterOf_2 (by decide) ?_
  refine V_istore_n (i := 3) dX10_letterOf_3 rfl (Nat.le_of_ble_eq_true rfl) ?_
  refine V_sub (ks := [3, 1, 0]) rfl (lv_X10_letterOf_4 hf FU _ _ h)
noncomputable def l_X10_minute_9  : Nat → (Nat → Int32) → Int32 → Option (Nat → Int32)
  | 0, _, _ => none
  | N + 1, F, x2 => gd (inr (3 : Int32) 251) (if (F (ix (3 : Int32))) ≤ x2 then some F else bdc (f_X10_act F x2) (fun F3 => l_X10_minute_9 N F3 (x2 + (1 : Int32))))
theorem lv_X10_minute_9 {G : GT} {f : Nat} {ga fa q : Nat} {M : MM} {hi k n : Nat}  {r : (Nat → Int32)} (hf : 8 ≤ f) (hq : RQ M q ga fa) : ∀ (N : Nat) (F : Nat → Int32) (x2 : Int32) , l_X10_minute_9 N F x2 = some r → V G f (Ex G f) mX10_minute (RH (.inl none) (wq ga fa r M) hi) 9 [(0, .ref (q)), (1, .ref (ga)), (2, .int x2)] [] (wq ga fa F M) hi k n := by
  intro N
  induction N with
  | zero => intro F x2 h; cases h
  | succ N ih =>
    intro F x2 h
    rw [l_X10_minute_9] at h
    refine V_iload_n (i := 2) dX10_minute_9 rfl rfl ?_
    refine V_aload_n (i := 1) dX10_minute_10 rfl rfl ?_
    refine V_iconst (v := 3) dX10_minute_11 (by decide) ?_
    refine D_ildG h dX10_minute_12 fun h => ?_
    refine D_icmp_ge (tgt := 28) h dX10_minute_13 rfl (fun b2 h => ?_) (fun b2 h => ?_)
    · obtain rfl := Option.some.inj h
      exact V_return dX10_minute_28 rfl ⟨rfl, rfl, rfl⟩
    · refine V_aload_n (i := 0) dX10_minute_16 rfl rfl ?_
      refine V_aload_n (i := 1) dX10_minute_17 rfl rfl ?_
      refine V_iload_n (i := 2) dX10_minute_18 rfl rfl ?_
      refine D_cVU (As := [_, _]) (μ := fun F3 => (wq ga fa F3 M)) h dX10_minute_19 cv_X10_158 rfl (wq_recv hq) rfl (Nat.le_of_ble_eq_true rfl) (fun y hx => e_X10_act (Nat.le_trans (Nat.le_of_ble_eq_true rfl) hf) hq hx) fun F3 h => ?_
      refine D_iinc (i := 2) (w := 1) dX10_minute_22 rfl (by decide) (Nat.le_of_ble_eq_true rfl) ?_
      refine V_goto (tgt := 9) dX10_minute_25 rfl ?_
      exact V_sub (ks := [1, 2, 0]) rfl (ih _ _ h)
noncomputable def f_X10_minute (F : Nat → Int32) : Option (Nat → Int32) :=
  gd (inr (0 : Int32) 251) (gd (inr (0 : Int32) 251) (bnd (upd F (ix (0 : Int32)) ((F (ix (0 : Int32))) + (1 : Int32))) (fun F1 => l_X10_minute_9 FU F1 (0 : Int32))))
theorem e_X10_minute {G : GT} {f0 : Nat} {ga fa q : Nat} {M : MM} {hi k n : Nat} {F : Nat → Int32} {r : (Nat → Int32)} (hf0 : 9 ≤ f0) (hq : RQ M q ga fa) (h : f_X10_minute F = some r) : Ex G f0 mX10_minute [.ref (q), .ref (ga)] (wq ga fa F M) hi k n (RH (.inl none) (wq ga fa r M) hi) := by
  obtain ⟨f, rfl, hf⟩ := suc_of hf0
  unfold f_X10_minute at h
  refine ⟨Nat.le_of_ble_eq_true rfl, ?_⟩
  refine V_aload_n (i := 1) dX10_minute_0 rfl rfl ?_
  refine V_iconst (v := 0) dX10_minute_1 (by decide) ?_
  refine V_dup2_11 dX10_minute_2 rfl rfl ?_
  refine D_ildG h dX10_minute_3 fun h => ?_
  refine V_iconst (v := 1) dX10_minute_4 (by decide) ?_
  refine V_iadd dX10_minute_5 ?_
  refine D_istG h dX10_minute_6 fun F1 h => ?_
  refine V_iconst (v := 0) dX10_minute_7 (by decide) ?_
  refine V_istore_n (i := 2) dX10_minute_8 rfl (Nat.le_of_ble_eq_true rfl) ?_
  refine V_sub (ks := [1, 2, 0]) rfl (lv_X10_minute_9 hf hq FU _ _ h)
noncomputable def l_X10_minutes_2 (c2 : Int32) : Nat → (Nat → Int32) → Int32 → Option (Nat → Int32)
  | 0, _, _ => none
  | N + 1, F, x3 => if c2 ≤ x3 then some F else bdc (f_X10_minute F) (fun F2 => l_X10_minutes_2 c2 N F2 (x3 + (1 : Int32)))
theorem lv_X10_minutes_2 {G : GT} {f : Nat} {ga fa q : Nat} {M : MM} {hi k n : Nat} {c2 : Int32} {r : (Nat → Int32)} (hf : 9 ≤ f) (hq : RQ M q ga fa) : ∀ (N : Nat) (F : Nat → Int32) (x3 : Int32) , l_X10_minutes_2 c2 N F x3 = some r → V G f (Ex G f) mX10_minutes (RH (.inl none) (wq ga fa r M) hi) 2 [(0, .ref (q)), (1, .ref (ga)), (2, .int c2), (3, .int x3)] [] (wq ga fa F M) hi k n := by
  intro N
  induction N with
  | zero => intro F x3 h; cases h
  | succ N ih =>
    intro F x3 h
    rw [l_X10_minutes_2] at h
    refine V_iload_n (i := 3) dX10_minutes_2 rfl rfl ?_
    refine V_iload_n (i := 2) dX10_minutes_3 rfl rfl ?_
    refine D_icmp_ge (tgt := 18) h dX10_minutes_4 rfl (fun b1 h => ?_) (fun b1 h => ?_)
    · obtain rfl := Option.some.inj h
      exact V_return dX10_minutes_18 rfl ⟨rfl, rfl, rfl⟩
    · refine V_aload_n (i := 0) dX10_minutes_7 rfl rfl ?_
      refine V_aload_n (i := 1) dX10_minutes_8 rfl rfl ?_
      refine D_cVU (As := [_]) (μ := fun F2 => (wq ga fa F2 M)) h dX10_minutes_9 cv_X10_161 rfl (wq_recv hq) rfl (Nat.le_of_ble_eq_true rfl) (fun y hx => e_X10_minute (Nat.le_trans (Nat.le_of_ble_eq_true rfl) hf) hq hx) fun F2 h => ?_
      refine D_iinc (i := 3) (w := 1) dX10_minutes_12 rfl (by decide) (Nat.le_of_ble_eq_true rfl) ?_
      refine V_goto (tgt := 2) dX10_minutes_15 rfl ?_
      exact V_sub (ks := [1, 2, 3, 0]) rfl (ih _ _ h)
noncomputable def f_X10_minutes (F : Nat → Int32) (a2 : Int32) : Option (Nat → Int32) :=
  l_X10_minutes_2 a2 FU F (0 : Int32)
theorem e_X10_minutes {G : GT} {f0 : Nat} {ga fa q : Nat} {M : MM} {hi k n : Nat} {F : Nat → Int32} {a2 : Int32} {r : (Nat → Int32)} (hf0 : 10 ≤ f0) (hq : RQ M q ga fa) (h : f_X10_minutes F a2 = some r) : Ex G f0 mX10_minutes [.ref (q), .ref (ga), .int a2] (wq ga fa F M) hi k n (RH (.inl none) (wq ga fa r M) hi) := by
  obtain ⟨f, rfl, hf⟩ := suc_of hf0
  unfold f_X10_minutes at h
  refine ⟨Nat.le_of_ble_eq_true rfl, ?_⟩
  refine V_iconst (v := 0) dX10_minutes_0 (by decide) ?_
  refine V_istore_n (i := 3) dX10_minutes_1 rfl (Nat.le_of_ble_eq_true rfl) ?_
  refine V_sub (ks := [1, 2, 3, 0]) rfl (lv_X10_minutes_2 hf hq FU _ _ h)
noncomputable def l_X10_waitingAt_4 (F : Nat → Int32) (c1 : Int32) : Nat → Int32 → Int32 → Option Int32
  | 0, _, _ => none
  | N + 1, x2, x3 => gd (inr (4 : Int32) 251) (if (F (ix (4 : Int32))) ≤ x3 then some x2 else bdc (f_X10_waitsAt F x3 c1) (fun v2 => if v2 = 0 then bnd (x2 + (0 : Int32)) (fun v4 => l_X10_waitingAt_4 F c1 N v4 (x3 + (1 : Int32))) else bnd (x2 + (1 : Int32)) (fun v5 => l_X10_waitingAt_4 F c1 N v5 (x3 + (1 : Int32)))))
theorem lv_X10_waitingAt_4 {G : GT} {f : Nat} {ga fa : Nat} {M : MM} {hi k n : Nat} {F : Nat → Int32} {c1 : Int32} {r : Int32} (hf : 2 ≤ f) : ∀ (N : Nat) (x2 : Int32) (x3 : Int32) , l_X10_waitingAt_4 F c1 N x2 x3 = some r → V G f (Ex G f) mX10_waitingAt (RH (.inl (some (.int r))) (wq ga fa F M) hi) 4 [(0, .ref (ga)), (1, .int c1), (2, .int x2), (3, .int x3)] [] (wq ga fa F M) hi k n := by
  intro N
  induction N with
  | zero => intro x2 x3 h; cases h
  | succ N ih =>
    intro x2 x3 h
    rw [l_X10_waitingAt_4] at h
    refine V_iload_n (i := 3) dX10_waitingAt_4 rfl rfl ?_
    refine V_aload_n (i := 0) dX10_waitingAt_5 rfl rfl ?_
    refine V_iconst (v := 4) dX10_waitingAt_6 (by decide) ?_
    refine D_ildG h dX10_waitingAt_7 fun h => ?_
    refine D_icmp_ge (tgt := 34) h dX10_waitingAt_8 rfl (fun b1 h => ?_) (fun b1 h => ?_)
    · refine V_iload_n (i := 2) dX10_waitingAt_34 rfl rfl ?_
      obtain rfl := Option.some.inj h
      exact V_ireturn dX10_waitingAt_35 ⟨_, rfl, rfl⟩ ⟨rfl, rfl, rfl⟩
    · refine V_iload_n (i := 2) dX10_waitingAt_11 rfl rfl ?_
      refine V_aload_n (i := 0) dX10_waitingAt_12 rfl rfl ?_
      refine V_iload_n (i := 3) dX10_waitingAt_13 rfl rfl ?_
      refine V_iload_n (i := 1) dX10_waitingAt_14 rfl rfl ?_
      refine D_cSI (As := [_, _, _]) h dX10_waitingAt_15 cs_X10_102 rfl rfl (Nat.le_of_ble_eq_true rfl) (fun x hx => e_X10_waitsAt (Nat.le_trans (Nat.le_of_ble_eq_true rfl) hf) hx) fun v2 h => ?_
      refine D_if_eq (tgt := 25) h dX10_waitingAt_18 rfl (fun b3 h => ?_) (fun b3 h => ?_)
      · refine V_iconst (v := 0) dX10_waitingAt_25 (by decide) ?_
        refine V_iadd dX10_waitingAt_26 ?_
        refine D_istore_n (i := 2) h dX10_waitingAt_27 rfl (Nat.le_of_ble_eq_true rfl) fun v4 h => ?_
        refine D_iinc (i := 3) (w := 1) dX10_waitingAt_28 rfl (by decide) (Nat.le_of_ble_eq_true rfl) ?_
        refine V_goto (tgt := 4) dX10_waitingAt_31 rfl ?_
        exact V_sub (ks := [2, 3, 1, 0]) rfl (ih _ _ h)
      · refine V_iconst (v := 1) dX10_waitingAt_21 (by decide) ?_
        refine V_goto (tgt := 26) dX10_waitingAt_22 rfl ?_
        refine V_iadd dX10_waitingAt_26 ?_
        refine D_istore_n (i := 2) h dX10_waitingAt_27 rfl (Nat.le_of_ble_eq_true rfl) fun v5 h => ?_
        refine D_iinc (i := 3) (w := 1) dX10_waitingAt_28 rfl (by decide) (Nat.le_of_ble_eq_true rfl) ?_
        refine V_goto (tgt := 4) dX10_waitingAt_31 rfl ?_
        exact V_sub (ks := [2, 3, 1, 0]) rfl (ih _ _ h)
noncomputable def f_X10_waitingAt (F : Nat → Int32) (a1 : Int32) : Option Int32 :=
  l_X10_waitingAt_4 F a1 FU (0 : Int32) (0 : Int32)
theorem e_X10_waitingAt {G : GT} {f0 : Nat} {ga fa : Nat} {M : MM} {hi k n : Nat} {F : Nat → Int32} {a1 : Int32} {r : Int32} (hf0 : 3 ≤ f0) (h : f_X10_waitingAt F a1 = some r) : Ex G f0 mX10_waitingAt [.ref (ga), .int a1] (wq ga fa F M) hi k n (RH (.inl (some (.int r))) (wq ga fa F M) hi) := by
  obtain ⟨f, rfl, hf⟩ := suc_of hf0
  unfold f_X10_waitingAt at h
  refine ⟨Nat.le_of_ble_eq_true rfl, ?_⟩
  refine V_iconst (v := 0) dX10_waitingAt_0 (by decide) ?_
  refine V_istore_n (i := 2) dX10_waitingAt_1 rfl (Nat.le_of_ble_eq_true rfl) ?_
  refine V_iconst (v := 0) dX10_waitingAt_2 (by decide) ?_
  refine V_istore_n (i := 3) dX10_waitingAt_3 rfl (Nat.le_of_ble_eq_true rfl) ?_
  refine V_sub (ks := [2, 3, 1, 0]) rfl (lv_X10_waitingAt_4 hf FU _ _ h)
noncomputable def f_X6_isBlank (a0 : Int32) : Option Int32 :=
  if a0 = (32 : Int32) then some (1 : Int32) else if a0 = (10 : Int32) then some (1 : Int32) else some (0 : Int32)
theorem e_X6_isBlank {G : GT} {f0 : Nat}  {M : MM} {hi k n : Nat} {a0 : Int32} {r : Int32} (hf0 : 1 ≤ f0) (h : f_X6_isBlank a0 = some r) : Ex G f0 mX6_isBlank [.int a0] M hi k n (RH (.inl (some (.int r))) M hi) := by
  obtain ⟨f, rfl, hf⟩ := suc_of hf0
  unfold f_X6_isBlank at h
  refine ⟨Nat.le_of_ble_eq_true rfl, ?_⟩
  refine V_iload_n (i := 0) dX6_isBlank_0 rfl rfl ?_
  refine V_bipush (v := 32) dX6_isBlank_1 (by decide) ?_
  refine D_icmp_eq (tgt := 12) h dX6_isBlank_3 rfl (fun b1 h => ?_) (fun b1 h => ?_)
  · refine V_iconst (v := 1) dX6_isBlank_12 (by decide) ?_
    refine V_goto (tgt := 17) dX6_isBlank_13 rfl ?_
    obtain rfl := Option.some.inj h
    exact V_ireturn dX6_isBlank_17 ⟨_, rfl, rfl⟩ ⟨rfl, rfl, rfl⟩
  · refine V_iload_n (i := 0) dX6_isBlank_6 rfl rfl ?_
    refine V_bipush (v := 10) dX6_isBlank_7 (by decide) ?_
    refine D_icmp_ne (tgt := 16) h dX6_isBlank_9 rfl (fun b2 h => ?_) (fun b2 h => ?_)
    · refine V_iconst (v := 0) dX6_isBlank_16 (by decide) ?_
      obtain rfl := Option.some.inj h
      exact V_ireturn dX6_isBlank_17 ⟨_, rfl, rfl⟩ ⟨rfl, rfl, rfl⟩
    · refine V_iconst (v := 1) dX6_isBlank_12 (by decide) ?_
      refine V_goto (tgt := 17) dX6_isBlank_13 rfl ?_
      obtain rfl := Option.some.inj h
      exact V_ireturn dX6_isBlank_17 ⟨_, rfl, rfl⟩ ⟨rfl, rfl, rfl⟩
