noncomputable def f_X2_board (S : Nat → Int32) (i0 : Nat) (a1 : Int32) (a2 : Int32) : Option (Nat → Int32) :=
  bnd (upd S (143 + 9 * i0 + 3) (-1 : Int32)) (fun S1 => bnd (upd S1 (143 + 9 * i0 + 4) a1) (fun S2 => bnd (upd S2 (143 + 9 * i0 + 5) a2) (fun S3 => some S3)))
theorem e_X2_board {G : GT} {f0 : Nat} {p : Nat} {M : MM} {hi k n : Nat} {S : Nat → Int32} {i0 : Nat} {a1 : Int32} {a2 : Int32} {r : (Nat → Int32)} (hf0 : 1 ≤ f0) (t0 : i0 < 12) (h : f_X2_board S i0 a1 a2 = some r) : Ex G f0 mX2_board [.ref (p + 34 + i0), .int a1, .int a2] (wr p S M) hi k n (RH (.inl none) (wr p r M) hi) := by
  obtain ⟨f, rfl, hf⟩ := suc_of hf0
  unfold f_X2_board at h
  refine ⟨Nat.le_of_ble_eq_true rfl, ?_⟩
  refine V_aload_n (i := 0) dX2_board_0 rfl rfl ?_
  refine V_iconst (v := -1) dX2_board_1 (by decide) ?_
  refine D_pf_X2_4 h dX2_board_2 (fp_X2_24 rfl) t0 fun S1 h => ?_
  refine V_aload_n (i := 0) dX2_board_5 rfl rfl ?_
  refine V_iload_n (i := 1) dX2_board_6 rfl rfl ?_
  refine D_pf_X2_5 h dX2_board_7 (fp_X2_27 rfl) t0 fun S2 h => ?_
  refine V_aload_n (i := 0) dX2_board_10 rfl rfl ?_
  refine V_iload_n (i := 2) dX2_board_11 rfl rfl ?_
  refine D_pf_X2_7 h dX2_board_12 (fp_X2_33 rfl) t0 fun S3 h => ?_
  obtain rfl := Option.some.inj h
  exact V_return dX2_board_15 rfl ⟨rfl, rfl, rfl⟩
noncomputable def f_X2_copyFrom (S : Nat → Int32) (T : Nat → Int32) (i0 : Nat) (i1 : Nat) : Option (Nat → Int32) :=
  bnd (upd S (143 + 9 * i0) (T (143 + 9 * i1))) (fun S1 => bnd (upd S1 (143 + 9 * i0 + 1) (T (143 + 9 * i1 + 1))) (fun S2 => bnd (upd S2 (143 + 9 * i0 + 2) (T (143 + 9 * i1 + 2))) (fun S3 => bnd (upd S3 (143 + 9 * i0 + 3) (T (143 + 9 * i1 + 3))) (fun S4 => bnd (upd S4 (143 + 9 * i0 + 4) (T (143 + 9 * i1 + 4))) (fun S5 => bnd (upd S5 (143 + 9 * i0 + 8) (T (143 + 9 * i1 + 8))) (fun S6 => bnd (upd S6 (143 + 9 * i0 + 5) (T (143 + 9 * i1 + 5))) (fun S7 => bnd (upd S7 (143 + 9 * i0 + 6) (T (143 + 9 * i1 + 6))) (fun S8 => bnd (upd S8 (143 + 9 * i0 + 7) (T (143 + 9 * i1 + 7))) (fun S9 => some S9)))))))))
theorem e_X2_copyFrom {G : GT} {f0 : Nat} {p q : Nat} {M : MM} {hi k n : Nat} {S : Nat → Int32} {T : Nat → Int32} {i0 : Nat} {i1 : Nat} {r : (Nat → Int32)} (hf0 : 1 ≤ f0) (hpq : apt p q) (t0 : i0 < 12) (t1 : i1 < 12) (h : f_X2_copyFrom S T i0 i1 = some r) : Ex G f0 mX2_copyFrom [.ref (p + 34 + i0), .ref (q + 34 + i1)] (wr p S (wr q T M)) hi k n (RH (.inl none) (wr p r (wr q T M)) hi) := by
  obtain ⟨f, rfl, hf⟩ := suc_of hf0
  unfold f_X2_copyFrom at h
  refine ⟨Nat.le_of_ble_eq_true rfl, ?_⟩
  refine V_aload_n (i := 0) dX2_copyFrom_0 rfl rfl ?_
  refine V_aload_n (i := 1) dX2_copyFrom_1 rfl rfl ?_
  refine V_getfield dX2_copyFrom_2 (wr2_pc hpq t1) fl_X2_15 rfl ?_
  refine D_pf_X2_1 h dX2_copyFrom_5 (fp_X2_15 rfl) t0 fun S1 h => ?_
  refine V_aload_n (i := 0) dX2_copyFrom_8 rfl rfl ?_
  refine V_aload_n (i := 1) dX2_copyFrom_9 rfl rfl ?_
  refine V_getfield dX2_copyFrom_10 (wr2_pc hpq t1) fl_X2_18 rfl ?_
  refine D_pf_X2_2 h dX2_copyFrom_13 (fp_X2_18 rfl) t0 fun S2 h => ?_
  refine V_aload_n (i := 0) dX2_copyFrom_16 rfl rfl ?_
  refine V_aload_n (i := 1) dX2_copyFrom_17 rfl rfl ?_
  refine V_getfield dX2_copyFrom_18 (wr2_pc hpq t1) fl_X2_21 rfl ?_
  refine D_pf_X2_3 h dX2_copyFrom_21 (fp_X2_21 rfl) t0 fun S3 h => ?_
  refine V_aload_n (i := 0) dX2_copyFrom_24 rfl rfl ?_
  refine V_aload_n (i := 1) dX2_copyFrom_25 rfl rfl ?_
  refine V_getfield dX2_copyFrom_26 (wr2_pc hpq t1) fl_X2_24 rfl ?_
  refine D_pf_X2_4 h dX2_copyFrom_29 (fp_X2_24 rfl) t0 fun S4 h => ?_
  refine V_aload_n (i := 0) dX2_copyFrom_32 rfl rfl ?_
  refine V_aload_n (i := 1) dX2_copyFrom_33 rfl rfl ?_
  refine V_getfield dX2_copyFrom_34 (wr2_pc hpq t1) fl_X2_27 rfl ?_
  refine D_pf_X2_5 h dX2_copyFrom_37 (fp_X2_27 rfl) t0 fun S5 h => ?_
  refine V_aload_n (i := 0) dX2_copyFrom_40 rfl rfl ?_
  refine V_aload_n (i := 1) dX2_copyFrom_41 rfl rfl ?_
  refine V_getfield dX2_copyFrom_42 (wr2_pc hpq t1) fl_X2_30 rfl ?_
  refine D_pf_X2_6 h dX2_copyFrom_45 (fp_X2_30 rfl) t0 fun S6 h => ?_
  refine V_aload_n (i := 0) dX2_copyFrom_48 rfl rfl ?_
  refine V_aload_n (i := 1) dX2_copyFrom_49 rfl rfl ?_
  refine V_getfield dX2_copyFrom_50 (wr2_pc hpq t1) fl_X2_33 rfl ?_
  refine D_pf_X2_7 h dX2_copyFrom_53 (fp_X2_33 rfl) t0 fun S7 h => ?_
  refine V_aload_n (i := 0) dX2_copyFrom_56 rfl rfl ?_
  refine V_aload_n (i := 1) dX2_copyFrom_57 rfl rfl ?_
  refine V_getfield dX2_copyFrom_58 (wr2_pc hpq t1) fl_X2_36 rfl ?_
  refine D_pf_X2_8 h dX2_copyFrom_61 (fp_X2_36 rfl) t0 fun S8 h => ?_
  refine V_aload_n (i := 0) dX2_copyFrom_64 rfl rfl ?_
  refine V_aload_n (i := 1) dX2_copyFrom_65 rfl rfl ?_
  refine V_getfield dX2_copyFrom_66 (wr2_pc hpq t1) fl_X2_39 rfl ?_
  refine D_pf_X2_9 h dX2_copyFrom_69 (fp_X2_39 rfl) t0 fun S9 h => ?_
  obtain rfl := Option.some.inj h
  exact V_return dX2_copyFrom_72 rfl ⟨rfl, rfl, rfl⟩
noncomputable def f_X2_deliver (S : Nat → Int32) (i0 : Nat) (a1 : Int32) : Option (Nat → Int32) :=
  bnd (upd S (143 + 9 * i0 + 3) (-1 : Int32)) (fun S1 => bnd (upd S1 (143 + 9 * i0 + 4) (-1 : Int32)) (fun S2 => bnd (upd S2 (143 + 9 * i0 + 5) (-1 : Int32)) (fun S3 => bnd (upd S3 (143 + 9 * i0 + 8) a1) (fun S4 => some S4))))
theorem e_X2_deliver {G : GT} {f0 : Nat} {p : Nat} {M : MM} {hi k n : Nat} {S : Nat → Int32} {i0 : Nat} {a1 : Int32} {r : (Nat → Int32)} (hf0 : 1 ≤ f0) (t0 : i0 < 12) (h : f_X2_deliver S i0 a1 = some r) : Ex G f0 mX2_deliver [.ref (p + 34 + i0), .int a1] (wr p S M) hi k n (RH (.inl none) (wr p r M) hi) := by
  obtain ⟨f, rfl, hf⟩ := suc_of hf0
  unfold f_X2_deliver at h
  refine ⟨Nat.le_of_ble_eq_true rfl, ?_⟩
  refine V_aload_n (i := 0) dX2_deliver_0 rfl rfl ?_
  refine V_iconst (v := -1) dX2_deliver_1 (by decide) ?_
  refine D_pf_X2_4 h dX2_deliver_2 (fp_X2_24 rfl) t0 fun S1 h => ?_
  refine V_aload_n (i := 0) dX2_deliver_5 rfl rfl ?_
  refine V_iconst (v := -1) dX2_deliver_6 (by decide) ?_
  refine D_pf_X2_5 h dX2_deliver_7 (fp_X2_27 rfl) t0 fun S2 h => ?_
  refine V_aload_n (i := 0) dX2_deliver_10 rfl rfl ?_
  refine V_iconst (v := -1) dX2_deliver_11 (by decide) ?_
  refine D_pf_X2_7 h dX2_deliver_12 (fp_X2_33 rfl) t0 fun S3 h => ?_
  refine V_aload_n (i := 0) dX2_deliver_15 rfl rfl ?_
  refine V_iload_n (i := 1) dX2_deliver_16 rfl rfl ?_
  refine D_pf_X2_6 h dX2_deliver_17 (fp_X2_30 rfl) t0 fun S4 h => ?_
  obtain rfl := Option.some.inj h
  exact V_return dX2_deliver_20 rfl ⟨rfl, rfl, rfl⟩
noncomputable def f_X2_isConsideredBefore (S : Nat → Int32) (i0 : Nat) (i1 : Nat) : Option Int32 :=
  if (S (143 + 9 * i1 + 2)) < (S (143 + 9 * i0 + 2)) then some (1 : Int32) else if (S (143 + 9 * i0 + 2)) = (S (143 + 9 * i1 + 2)) then if (nI i1) ≤ (nI i0) then some (0 : Int32) else some (1 : Int32) else some (0 : Int32)
theorem e_X2_isConsideredBefore {G : GT} {f0 : Nat} {p : Nat} {M : MM} {hi k n : Nat} {S : Nat → Int32} {i0 : Nat} {i1 : Nat} {r : Int32} (hf0 : 1 ≤ f0) (t0 : i0 < 12) (t1 : i1 < 12) (h : f_X2_isConsideredBefore S i0 i1 = some r) : Ex G f0 mX2_isConsideredBefore [.ref (p + 34 + i0), .ref (p + 34 + i1)] (wr p S M) hi k n (RH (.inl (some (.int r))) (wr p S M) hi) := by
  obtain ⟨f, rfl, hf⟩ := suc_of hf0
  unfold f_X2_isConsideredBefore at h
  refine ⟨Nat.le_of_ble_eq_true rfl, ?_⟩
  refine V_aload_n (i := 0) dX2_isConsideredBefore_0 rfl rfl ?_
  refine V_getfield dX2_isConsideredBefore_1 (wr_pc t0) fl_X2_21 rfl ?_
  refine V_aload_n (i := 1) dX2_isConsideredBefore_4 rfl rfl ?_
  refine V_getfield dX2_isConsideredBefore_5 (wr_pc t1) fl_X2_21 rfl ?_
  refine D_icmp_gt (tgt := 33) h dX2_isConsideredBefore_8 rfl (fun b1 h => ?_) (fun b1 h => ?_)
  · refine V_iconst (v := 1) dX2_isConsideredBefore_33 (by decide) ?_
    refine V_goto (tgt := 38) dX2_isConsideredBefore_34 rfl ?_
    obtain rfl := Option.some.inj h
    exact V_ireturn dX2_isConsideredBefore_38 ⟨_, rfl, rfl⟩ ⟨rfl, rfl, rfl⟩
  · refine V_aload_n (i := 0) dX2_isConsideredBefore_11 rfl rfl ?_
    refine V_getfield dX2_isConsideredBefore_12 (wr_pc t0) fl_X2_21 rfl ?_
    refine V_aload_n (i := 1) dX2_isConsideredBefore_15 rfl rfl ?_
    refine V_getfield dX2_isConsideredBefore_16 (wr_pc t1) fl_X2_21 rfl ?_
    refine D_icmp_ne (tgt := 37) h dX2_isConsideredBefore_19 rfl (fun b2 h => ?_) (fun b2 h => ?_)
    · refine V_iconst (v := 0) dX2_isConsideredBefore_37 (by decide) ?_
      obtain rfl := Option.some.inj h
      exact V_ireturn dX2_isConsideredBefore_38 ⟨_, rfl, rfl⟩ ⟨rfl, rfl, rfl⟩
    · refine V_aload_n (i := 0) dX2_isConsideredBefore_22 rfl rfl ?_
      refine V_getfield dX2_isConsideredBefore_23 (wr_pc t0) fl_X2_9 rfl ?_
      refine V_aload_n (i := 1) dX2_isConsideredBefore_26 rfl rfl ?_
      refine V_getfield dX2_isConsideredBefore_27 (wr_pc t1) fl_X2_9 rfl ?_
      refine D_icmp_ge (tgt := 37) h dX2_isConsideredBefore_30 rfl (fun b3 h => ?_) (fun b3 h => ?_)
      · refine V_iconst (v := 0) dX2_isConsideredBefore_37 (by decide) ?_
        obtain rfl := Option.some.inj h
        exact V_ireturn dX2_isConsideredBefore_38 ⟨_, rfl, rfl⟩ ⟨rfl, rfl, rfl⟩
      · refine V_iconst (v := 1) dX2_isConsideredBefore_33 (by decide) ?_
        refine V_goto (tgt := 38) dX2_isConsideredBefore_34 rfl ?_
        obtain rfl := Option.some.inj h
        exact V_ireturn dX2_isConsideredBefore_38 ⟨_, rfl, rfl⟩ ⟨rfl, rfl, rfl⟩
noncomputable def f_X2_isDelivered (S : Nat → Int32) (i0 : Nat) : Option Int32 :=
  if (S (143 + 9 * i0 + 8)) = (-1 : Int32) then some (0 : Int32) else some (1 : Int32)
theorem e_X2_isDelivered {G : GT} {f0 : Nat} {p : Nat} {M : MM} {hi k n : Nat} {S : Nat → Int32} {i0 : Nat} {r : Int32} (hf0 : 1 ≤ f0) (t0 : i0 < 12) (h : f_X2_isDelivered S i0 = some r) : Ex G f0 mX2_isDelivered [.ref (p + 34 + i0)] (wr p S M) hi k n (RH (.inl (some (.int r))) (wr p S M) hi) := by
  obtain ⟨f, rfl, hf⟩ := suc_of hf0
  unfold f_X2_isDelivered at h
  refine ⟨Nat.le_of_ble_eq_true rfl, ?_⟩
  refine V_aload_n (i := 0) dX2_isDelivered_0 rfl rfl ?_
  refine V_getfield dX2_isDelivered_1 (wr_pc t0) fl_X2_30 rfl ?_
  refine V_iconst (v := -1) dX2_isDelivered_4 (by decide) ?_
  refine D_icmp_eq (tgt := 12) h dX2_isDelivered_5 rfl (fun b1 h => ?_) (fun b1 h => ?_)
  · refine V_iconst (v := 0) dX2_isDelivered_12 (by decide) ?_
    obtain rfl := Option.some.inj h
    exact V_ireturn dX2_isDelivered_13 ⟨_, rfl, rfl⟩ ⟨rfl, rfl, rfl⟩
  · refine V_iconst (v := 1) dX2_isDelivered_8 (by decide) ?_
    refine V_goto (tgt := 13) dX2_isDelivered_9 rfl ?_
    obtain rfl := Option.some.inj h
    exact V_ireturn dX2_isDelivered_13 ⟨_, rfl, rfl⟩ ⟨rfl, rfl, rfl⟩
noncomputable def f_X2_isHeldAt (S : Nat → Int32) (i0 : Nat) (a1 : Int32) : Option Int32 :=
  if (S (143 + 9 * i0 + 3)) = (-1 : Int32) then some (0 : Int32) else if (S (143 + 9 * i0 + 7)) ≤ a1 then some (0 : Int32) else some (1 : Int32)
theorem e_X2_isHeldAt {G : GT} {f0 : Nat} {p : Nat} {M : MM} {hi k n : Nat} {S : Nat → Int32} {i0 : Nat} {a1 : Int32} {r : Int32} (hf0 : 1 ≤ f0) (t0 : i0 < 12) (h : f_X2_isHeldAt S i0 a1 = some r) : Ex G f0 mX2_isHeldAt [.ref (p + 34 + i0), .int a1] (wr p S M) hi k n (RH (.inl (some (.int r))) (wr p S M) hi) := by
  obtain ⟨f, rfl, hf⟩ := suc_of hf0
  unfold f_X2_isHeldAt at h
  refine ⟨Nat.le_of_ble_eq_true rfl, ?_⟩
  refine V_aload_n (i := 0) dX2_isHeldAt_0 rfl rfl ?_
  refine V_getfield dX2_isHeldAt_1 (wr_pc t0) fl_X2_24 rfl ?_
  refine V_iconst (v := -1) dX2_isHeldAt_4 (by decide) ?_
  refine D_icmp_eq (tgt := 20) h dX2_isHeldAt_5 rfl (fun b1 h => ?_) (fun b1 h => ?_)
  · refine V_iconst (v := 0) dX2_isHeldAt_20 (by decide) ?_
    obtain rfl := Option.some.inj h
    exact V_ireturn dX2_isHeldAt_21 ⟨_, rfl, rfl⟩ ⟨rfl, rfl, rfl⟩
  · refine V_iload_n (i := 1) dX2_isHeldAt_8 rfl rfl ?_
    refine V_aload_n (i := 0) dX2_isHeldAt_9 rfl rfl ?_
    refine V_getfield dX2_isHeldAt_10 (wr_pc t0) fl_X2_39 rfl ?_
    refine D_icmp_ge (tgt := 20) h dX2_isHeldAt_13 rfl (fun b2 h => ?_) (fun b2 h => ?_)
    · refine V_iconst (v := 0) dX2_isHeldAt_20 (by decide) ?_
      obtain rfl := Option.some.inj h
      exact V_ireturn dX2_isHeldAt_21 ⟨_, rfl, rfl⟩ ⟨rfl, rfl, rfl⟩
    · refine V_iconst (v := 1) dX2_isHeldAt_16 (by decide) ?_
      refine V_goto (tgt := 21) dX2_isHeldAt_17 rfl ?_
      obtain rfl := Option.some.inj h
      exact V_ireturn dX2_isHeldAt_21 ⟨_, rfl, rfl⟩ ⟨rfl, rfl, rfl⟩
noncomputable def f_X2_isReadyAt (S : Nat → Int32) (i0 : Nat) (a1 : Int32) (a2 : Int32) : Option Int32 :=
  if (S (143 + 9 * i0 + 3)) = (-1 : Int32) then some (0 : Int32) else if (S (143 + 9 * i0 + 3)) = a1 then if a2 < (S (143 + 9 * i0 + 7)) then some (0 : Int32) else some (1 : Int32) else some (0 : Int32)
theorem e_X2_isReadyAt {G : GT} {f0 : Nat} {p : Nat} {M : MM} {hi k n : Nat} {S : Nat → Int32} {i0 : Nat} {a1 : Int32} {a2 : Int32} {r : Int32} (hf0 : 1 ≤ f0) (t0 : i0 < 12) (h : f_X2_isReadyAt S i0 a1 a2 = some r) : Ex G f0 mX2_isReadyAt [.ref (p + 34 + i0), .int a1, .int a2] (wr p S M) hi k n (RH (.inl (some (.int r))) (wr p S M) hi) := by
  obtain ⟨f, rfl, hf⟩ := suc_of hf0
  unfold f_X2_isReadyAt at h
  refine ⟨Nat.le_of_ble_eq_true rfl, ?_⟩
  refine V_aload_n (i := 0) dX2_isReadyAt_0 rfl rfl ?_
  refine V_getfield dX2_isReadyAt_1 (wr_pc t0) fl_X2_24 rfl ?_
  refine V_iconst (v := -1) dX2_isReadyAt_4 (by decide) ?_
  refine D_icmp_eq (tgt := 28) h dX2_isReadyAt_5 rfl (fun b1 h => ?_) (fun b1 h => ?_)
  · refine V_iconst (v := 0) dX2_isReadyAt_28 (by decide) ?_
    obtain rfl := Option.some.inj h
    exact V_ireturn dX2_isReadyAt_29 ⟨_, rfl, rfl⟩ ⟨rfl, rfl, rfl⟩
  · refine V_aload_n (i := 0) dX2_isReadyAt_8 rfl rfl ?_
    refine V_getfield dX2_isReadyAt_9 (wr_pc t0) fl_X2_24 rfl ?_
    refine V_iload_n (i := 1) dX2_isReadyAt_12 rfl rfl ?_
    refine D_icmp_ne (tgt := 28) h dX2_isReadyAt_13 rfl (fun b2 h => ?_) (fun b2 h => ?_)
    · refine V_iconst (v := 0) dX2_isReadyAt_28 (by decide) ?_
      obtain rfl := Option.some.inj h
      exact V_ireturn dX2_isReadyAt_29 ⟨_, rfl, rfl⟩ ⟨rfl, rfl, rfl⟩
    · refine V_iload_n (i := 2) dX2_isReadyAt_16 rfl rfl ?_
      refine V_aload_n (i := 0) dX2_isReadyAt_17 rfl rfl ?_
      refine V_getfield dX2_isReadyAt_18 (wr_pc t0) fl_X2_39 rfl ?_
      refine D_icmp_lt (tgt := 28) h dX2_isReadyAt_21 rfl (fun b3 h => ?_) (fun b3 h => ?_)
      · refine V_iconst (v := 0) dX2_isReadyAt_28 (by decide) ?_
        obtain rfl := Option.some.inj h
        exact V_ireturn dX2_isReadyAt_29 ⟨_, rfl, rfl⟩ ⟨rfl, rfl, rfl⟩
      · refine V_iconst (v := 1) dX2_isReadyAt_24 (by decide) ?_
        refine V_goto (tgt := 29) dX2_isReadyAt_25 rfl ?_
        obtain rfl := Option.some.inj h
        exact V_ireturn dX2_isReadyAt_29 ⟨_, rfl, rfl⟩ ⟨rfl, rfl, rfl⟩
noncomputable def f_X2_returnToSender (S : Nat → Int32) (i0 : Nat) (a1 : Int32) : Option (Nat → Int32) :=
  if (S (143 + 9 * i0 + 3)) = (S (143 + 9 * i0)) then bdc (f_X2_deliver S i0 a1) (fun S5 => some S5) else bnd (upd S (143 + 9 * i0 + 1) (S (143 + 9 * i0))) (fun S2 => bnd (upd S2 (143 + 9 * i0) (S2 (143 + 9 * i0 + 3))) (fun S3 => bnd (upd S3 (143 + 9 * i0 + 7) (0 : Int32)) (fun S4 => some S4)))
theorem e_X2_returnToSender {G : GT} {f0 : Nat} {p : Nat} {M : MM} {hi k n : Nat} {S : Nat → Int32} {i0 : Nat} {a1 : Int32} {r : (Nat → Int32)} (hf0 : 2 ≤ f0) (t0 : i0 < 12) (h : f_X2_returnToSender S i0 a1 = some r) : Ex G f0 mX2_returnToSender [.ref (p + 34 + i0), .int a1] (wr p S M) hi k n (RH (.inl none) (wr p r M) hi) := by
  obtain ⟨f, rfl, hf⟩ := suc_of hf0
  unfold f_X2_returnToSender at h
  refine ⟨Nat.le_of_ble_eq_true rfl, ?_⟩
  refine V_aload_n (i := 0) dX2_returnToSender_0 rfl rfl ?_
  refine V_getfield dX2_returnToSender_1 (wr_pc t0) fl_X2_24 rfl ?_
  refine V_aload_n (i := 0) dX2_returnToSender_4 rfl rfl ?_
  refine V_getfield dX2_returnToSender_5 (wr_pc t0) fl_X2_15 rfl ?_
  refine D_icmp_ne (tgt := 17) h dX2_returnToSender_8 rfl (fun b1 h => ?_) (fun b1 h => ?_)
  · refine V_aload_n (i := 0) dX2_returnToSender_17 rfl rfl ?_
    refine V_aload_n (i := 0) dX2_returnToSender_18 rfl rfl ?_
    refine V_getfield dX2_returnToSender_19 (wr_pc t0) fl_X2_15 rfl ?_
    refine D_pf_X2_2 h dX2_returnToSender_22 (fp_X2_18 rfl) t0 fun S2 h => ?_
    refine V_aload_n (i := 0) dX2_returnToSender_25 rfl rfl ?_
    refine V_aload_n (i := 0) dX2_returnToSender_26 rfl rfl ?_
    refine V_getfield dX2_returnToSender_27 (wr_pc t0) fl_X2_24 rfl ?_
    refine D_pf_X2_1 h dX2_returnToSender_30 (fp_X2_15 rfl) t0 fun S3 h => ?_
    refine V_aload_n (i := 0) dX2_returnToSender_33 rfl rfl ?_
    refine V_iconst (v := 0) dX2_returnToSender_34 (by decide) ?_
    refine D_pf_X2_9 h dX2_returnToSender_35 (fp_X2_39 rfl) t0 fun S4 h => ?_
    obtain rfl := Option.some.inj h
    exact V_return dX2_returnToSender_38 rfl ⟨rfl, rfl, rfl⟩
  · refine V_aload_n (i := 0) dX2_returnToSender_11 rfl rfl ?_
    refine V_iload_n (i := 1) dX2_returnToSender_12 rfl rfl ?_
    refine D_cVU (As := [_]) (μ := fun S5 => (wr p S5 M)) h dX2_returnToSender_13 cv_X2_42 rfl ⟨_, _, _, (wr_pc t0), rfl, rfl⟩ rfl (Nat.le_of_ble_eq_true rfl) (fun y hx => e_X2_deliver (Nat.le_trans (Nat.le_of_ble_eq_true rfl) hf) t0 hx) fun S5 h => ?_
    obtain rfl := Option.some.inj h
    exact V_return dX2_returnToSender_16 rfl ⟨rfl, rfl, rfl⟩
noncomputable def f_X2_transferTo (S : Nat → Int32) (i0 : Nat) (a1 : Int32) (a2 : Int32) : Option (Nat → Int32) :=
  bnd (upd S (143 + 9 * i0 + 3) a1) (fun S1 => bnd (upd S1 (143 + 9 * i0 + 4) (-1 : Int32)) (fun S2 => bnd (upd S2 (143 + 9 * i0 + 5) (-1 : Int32)) (fun S3 => bnd (upd S3 (143 + 9 * i0 + 6) ((S3 (143 + 9 * i0 + 6)) + (1 : Int32))) (fun S4 => bnd (upd S4 (143 + 9 * i0 + 7) a2) (fun S5 => some S5)))))
theorem e_X2_transferTo {G : GT} {f0 : Nat} {p : Nat} {M : MM} {hi k n : Nat} {S : Nat → Int32} {i0 : Nat} {a1 : Int32} {a2 : Int32} {r : (Nat → Int32)} (hf0 : 1 ≤ f0) (t0 : i0 < 12) (h : f_X2_transferTo S i0 a1 a2 = some r) : Ex G f0 mX2_transferTo [.ref (p + 34 + i0), .int a1, .int a2] (wr p S M) hi k n (RH (.inl none) (wr p r M) hi) := by
  obtain ⟨f, rfl, hf⟩ := suc_of hf0
  unfold f_X2_transferTo at h
  refine ⟨Nat.le_of_ble_eq_true rfl, ?_⟩
  refine V_aload_n (i := 0) dX2_transferTo_0 rfl rfl ?_
  refine V_iload_n (i := 1) dX2_transferTo_1 rfl rfl ?_
  refine D_pf_X2_4 h dX2_transferTo_2 (fp_X2_24 rfl) t0 fun S1 h => ?_
  refine V_aload_n (i := 0) dX2_transferTo_5 rfl rfl ?_
  refine V_iconst (v := -1) dX2_transferTo_6 (by decide) ?_
  refine D_pf_X2_5 h dX2_transferTo_7 (fp_X2_27 rfl) t0 fun S2 h => ?_
  refine V_aload_n (i := 0) dX2_transferTo_10 rfl rfl ?_
  refine V_iconst (v := -1) dX2_transferTo_11 (by decide) ?_
  refine D_pf_X2_7 h dX2_transferTo_12 (fp_X2_33 rfl) t0 fun S3 h => ?_
  refine V_aload_n (i := 0) dX2_transferTo_15 rfl rfl ?_
  refine V_dup dX2_transferTo_16 rfl ?_
  refine V_getfield dX2_transferTo_17 (wr_pc t0) fl_X2_36 rfl ?_
  refine V_iconst (v := 1) dX2_transferTo_20 (by decide) ?_
  refine V_iadd dX2_transferTo_21 ?_
  refine D_pf_X2_8 h dX2_transferTo_22 (fp_X2_36 rfl) t0 fun S4 h => ?_
  refine V_aload_n (i := 0) dX2_transferTo_25 rfl rfl ?_
  refine V_iload_n (i := 2) dX2_transferTo_26 rfl rfl ?_
  refine D_pf_X2_9 h dX2_transferTo_27 (fp_X2_39 rfl) t0 fun S5 h => ?_
  obtain rfl := Option.some.inj h
  exact V_return dX2_transferTo_30 rfl ⟨rfl, rfl, rfl⟩
noncomputable def f_X8_isAtEnd (S : Nat → Int32) (i0 : Nat) : Option Int32 :=
  if (S (87 + 14 * i0 + 8)) ≤ 0 then some (1 : Int32) else if (S (87 + 14 * i0 + 8)) < ((S (87 + 14 * i0 + 1)) - (1 : Int32)) then some (0 : Int32) else some (1 : Int32)
theorem e_X8_isAtEnd {G : GT} {f0 : Nat} {p : Nat} {M : MM} {hi k n : Nat} {S : Nat → Int32} {i0 : Nat} {r : Int32} (hf0 : 1 ≤ f0) (t0 : i0 < 4) (h : f_X8_isAtEnd S i0 = some r) : Ex G f0 mX8_isAtEnd [.ref (p + 26 + 2 * i0)] (wr p S M) hi k n (RH (.inl (some (.int r))) (wr p S M) hi) := by
  obtain ⟨f, rfl, hf⟩ := suc_of hf0
  unfold f_X8_isAtEnd at h
  refine ⟨Nat.le_of_ble_eq_true rfl, ?_⟩
  refine V_aload_n (i := 0) dX8_isAtEnd_0 rfl rfl ?_
  refine V_getfield dX8_isAtEnd_1 (wr_tr t0) fl_X8_25 rfl ?_
  refine D_if_le (tgt := 20) h dX8_isAtEnd_4 rfl (fun b1 h => ?_) (fun b1 h => ?_)
  · refine V_iconst (v := 1) dX8_isAtEnd_20 (by decide) ?_
    refine V_goto (tgt := 25) dX8_isAtEnd_21 rfl ?_
    obtain rfl := Option.some.inj h
    exact V_ireturn dX8_isAtEnd_25 ⟨_, rfl, rfl⟩ ⟨rfl, rfl, rfl⟩
  · refine V_aload_n (i := 0) dX8_isAtEnd_7 rfl rfl ?_
    refine V_getfield dX8_isAtEnd_8 (wr_tr t0) fl_X8_25 rfl ?_
    refine V_aload_n (i := 0) dX8_isAtEnd_11 rfl rfl ?_
    refine V_getfield dX8_isAtEnd_12 (wr_tr t0) fl_X8_22 rfl ?_
    refine V_iconst (v := 1) dX8_isAtEnd_15 (by decide) ?_
    refine V_isub dX8_isAtEnd_16 ?_
    refine D_icmp_lt (tgt := 24) h dX8_isAtEnd_17 rfl (fun b2 h => ?_) (fun b2 h => ?_)
    · refine V_iconst (v := 0) dX8_isAtEnd_24 (by decide) ?_
      obtain rfl := Option.some.inj h
      exact V_ireturn dX8_isAtEnd_25 ⟨_, rfl, rfl⟩ ⟨rfl, rfl, rfl⟩
    · refine V_iconst (v := 1) dX8_isAtEnd_20 (by decide) ?_
      refine V_goto (tgt := 25) dX8_isAtEnd_21 rfl ?_
      obtain rfl := Option.some.inj h
      exact V_ireturn dX8_isAtEnd_25 ⟨_, rfl, rfl⟩ ⟨rfl, rfl, rfl⟩
noncomputable def f_X8_reachNextStop (S : Nat → Int32) (i0 : Nat) : Option (Nat → Int32) :=
  jn (fun (v2 : Int32) => bnd (upd S (87 + 14 * i0 + 8) v2) (fun S4 => bdc (f_X8_isAtEnd S4 i0) (fun v5 => if v5 = 0 then some S4 else if 0 < (S4 (87 + 14 * i0 + 8)) then bnd (upd S4 (87 + 14 * i0 + 9) (0 : Int32)) (fun S8 => some S8) else bnd (upd S4 (87 + 14 * i0 + 9) (1 : Int32)) (fun S9 => some S9)))) (fun j1 => if (S (87 + 14 * i0 + 9)) = 0 then j1 ((S (87 + 14 * i0 + 8)) - (1 : Int32)) else j1 ((S (87 + 14 * i0 + 8)) + (1 : Int32)))
theorem e_X8_reachNextStop {G : GT} {f0 : Nat} {p : Nat} {M : MM} {hi k n : Nat} {S : Nat → Int32} {i0 : Nat} {r : (Nat → Int32)} (hf0 : 2 ≤ f0) (t0 : i0 < 4) (h : f_X8_reachNextStop S i0 = some r) : Ex G f0 mX8_reachNextStop [.ref (p + 26 + 2 * i0)] (wr p S M) hi k n (RH (.inl none) (wr p r M) hi) := by
  obtain ⟨f, rfl, hf⟩ := suc_of hf0
  unfold f_X8_reachNextStop at h
  refine ⟨Nat.le_of_ble_eq_true rfl, ?_⟩
  refine V_aload_n (i := 0) dX8_reachNextStop_0 rfl rfl ?_
  refine V_aload_n (i := 0) dX8_reachNextStop_1 rfl rfl ?_
  refine V_getfield dX8_reachNextStop_2 (wr_tr t0) fl_X8_28 rfl ?_
  refine D_jn (fun (j : Int32 → Option (Nat → Int32)) => ∀ (v2 : Int32), j v2 = some r → V G f (Ex G f) mX8_reachNextStop (RH (.inl none) (wr p r M) hi) 23 [(0, .ref (p + 26 + 2 * i0))] [.int v2, .ref (p + 26 + 2 * i0)] (wr p S M) hi k n) h (fun j1 hj1 h => ?_) ?_
  · refine D_if_eq (tgt := 17) h dX8_reachNextStop_5 rfl (fun b3 h => ?_) (fun b3 h => ?_)
    · refine V_aload_n (i := 0) dX8_reachNextStop_17 rfl rfl ?_
      refine V_getfield dX8_reachNextStop_18 (wr_tr t0) fl_X8_25 rfl ?_
      refine V_iconst (v := 1) dX8_reachNextStop_21 (by decide) ?_
      refine V_isub dX8_reachNextStop_22 ?_
      exact V_sub (ks := [0]) rfl (hj1 _ h)
    · refine V_aload_n (i := 0) dX8_reachNextStop_8 rfl rfl ?_
      refine V_getfield dX8_reachNextStop_9 (wr_tr t0) fl_X8_25 rfl ?_
      refine V_iconst (v := 1) dX8_reachNextStop_12 (by decide) ?_
      refine V_iadd dX8_reachNextStop_13 ?_
      refine V_goto (tgt := 23) dX8_reachNextStop_14 rfl ?_
      exact V_sub (ks := [0]) rfl (hj1 _ h)
  · intro v2 h
    refine D_pf_X8_4 h dX8_reachNextStop_23 (fp_X8_25 rfl) t0 fun S4 h => ?_
    refine V_aload_n (i := 0) dX8_reachNextStop_26 rfl rfl ?_
    refine D_cVI (As := []) h dX8_reachNextStop_27 cv_X8_52 rfl ⟨_, _, _, (wr_tr t0), rfl, rfl⟩ rfl (Nat.le_of_ble_eq_true rfl) (fun x hx => e_X8_isAtEnd (Nat.le_trans (Nat.le_of_ble_eq_true rfl) hf) t0 hx) fun v5 h => ?_
    refine D_if_eq (tgt := 49) h dX8_reachNextStop_30 rfl (fun b6 h => ?_) (fun b6 h => ?_)
    · obtain rfl := Option.some.inj h
      exact V_return dX8_reachNextStop_49 rfl ⟨rfl, rfl, rfl⟩
    · refine V_aload_n (i := 0) dX8_reachNextStop_33 rfl rfl ?_
      refine V_aload_n (i := 0) dX8_reachNextStop_34 rfl rfl ?_
      refine V_getfield dX8_reachNextStop_35 (wr_tr t0) fl_X8_25 rfl ?_
      refine D_if_gt (tgt := 45) h dX8_reachNextStop_38 rfl (fun b7 h => ?_) (fun b7 h => ?_)
      · refine V_iconst (v := 0) dX8_reachNextStop_45 (by decide) ?_
        refine D_pf_X8_5 h dX8_reachNextStop_46 (fp_X8_28 rfl) (by decide) t0 fun S8 h => ?_
        obtain rfl := Option.some.inj h
        exact V_return dX8_reachNextStop_49 rfl ⟨rfl, rfl, rfl⟩
      · refine V_iconst (v := 1) dX8_reachNextStop_41 (by decide) ?_
        refine V_goto (tgt := 46) dX8_reachNextStop_42 rfl ?_
        refine D_pf_X8_5 h dX8_reachNextStop_46 (fp_X8_28 rfl) (by decide) t0 fun S9 h => ?_
        obtain rfl := Option.some.inj h
        exact V_return dX8_reachNextStop_49 rfl ⟨rfl, rfl, rfl⟩
noncomputable def f_X8_stationAhead (S : Nat → Int32) (i0 : Nat) (a1 : Int32) : Option Int32 :=
  jn (fun (v2 : Int32) => if v2 < 0 then some (-1 : Int32) else if (S (87 + 14 * i0 + 1)) ≤ v2 then some (-1 : Int32) else if (6 : Int32) ≤ v2 then some (-1 : Int32) else gd (inr v2 6) (some (S (87 + 14 * i0 + 2 + ix v2)))) (fun j1 => if (S (87 + 14 * i0 + 9)) = 0 then j1 ((S (87 + 14 * i0 + 8)) - a1) else j1 ((S (87 + 14 * i0 + 8)) + a1))
theorem e_X8_stationAhead {G : GT} {f0 : Nat} {p : Nat} {M : MM} {hi k n : Nat} {S : Nat → Int32} {i0 : Nat} {a1 : Int32} {r : Int32} (hf0 : 1 ≤ f0) (t0 : i0 < 4) (h : f_X8_stationAhead S i0 a1 = some r) : Ex G f0 mX8_stationAhead [.ref (p + 26 + 2 * i0), .int a1] (wr p S M) hi k n (RH (.inl (some (.int r))) (wr p S M) hi) := by
  obtain ⟨f, rfl, hf⟩ := suc_of hf0
  unfold f_X8_stationAhead at h
  refine ⟨Nat.le_of_ble_eq_true rfl, ?_⟩
  refine V_aload_n (i := 0) dX8_stationAhead_0 rfl rfl ?_
  refine V_getfield dX8_stationAhead_1 (wr_tr t0) fl_X8_28 rfl ?_
  refine D_jn (fun (j : Int32 → Option Int32) => ∀ (v2 : Int32), j v2 = some r → V G f (Ex G f) mX8_stationAhead (RH (.inl (some (.int r))) (wr p S M) hi) 22 [(0, .ref (p + 26 + 2 * i0))] [.int v2] (wr p S M) hi k n) h (fun j1 hj1 h => ?_) ?_
  · refine D_if_eq (tgt := 16) h dX8_stationAhead_4 rfl (fun b3 h => ?_) (fun b3 h => ?_)
    · refine V_aload_n (i := 0) dX8_stationAhead_16 rfl rfl ?_
      refine V_getfield dX8_stationAhead_17 (wr_tr t0) fl_X8_25 rfl ?_
      refine V_iload_n (i := 1) dX8_stationAhead_20 rfl rfl ?_
      refine V_isub dX8_stationAhead_21 ?_
      exact V_sub (ks := [0]) rfl (hj1 _ h)
    · refine V_aload_n (i := 0) dX8_stationAhead_7 rfl rfl ?_
      refine V_getfield dX8_stationAhead_8 (wr_tr t0) fl_X8_25 rfl ?_
      refine V_iload_n (i := 1) dX8_stationAhead_11 rfl rfl ?_
      refine V_iadd dX8_stationAhead_12 ?_
      refine V_goto (tgt := 22) dX8_stationAhead_13 rfl ?_
      exact V_sub (ks := [0]) rfl (hj1 _ h)
  · intro v2 h
    refine V_istore_n (i := 2) dX8_stationAhead_22 rfl (Nat.le_of_ble_eq_true rfl) ?_
    refine V_iload_n (i := 2) dX8_stationAhead_23 rfl rfl ?_
    refine D_if_lt (tgt := 53) h dX8_stationAhead_24 rfl (fun b4 h => ?_) (fun b4 h => ?_)
    · refine V_iconst (v := -1) dX8_stationAhead_53 (by decide) ?_
      obtain rfl := Option.some.inj h
      exact V_ireturn dX8_stationAhead_54 ⟨_, rfl, rfl⟩ ⟨rfl, rfl, rfl⟩
    · refine V_iload_n (i := 2) dX8_stationAhead_27 rfl rfl ?_
      refine V_aload_n (i := 0) dX8_stationAhead_28 rfl rfl ?_
      refine V_getfield dX8_stationAhead_29 (wr_tr t0) fl_X8_22 rfl ?_
      refine D_icmp_ge (tgt := 53) h dX8_stationAhead_32 rfl (fun b5 h => ?_) (fun b5 h => ?_)
      · refine V_iconst (v := -1) dX8_stationAhead_53 (by decide) ?_
        obtain rfl := Option.some.inj h
        exact V_ireturn dX8_stationAhead_54 ⟨_, rfl, rfl⟩ ⟨rfl, rfl, rfl⟩
      · refine V_iload_n (i := 2) dX8_stationAhead_35 rfl rfl ?_
        refine V_aload_n (i := 0) dX8_stationAhead_36 rfl rfl ?_
        refine V_getfield dX8_stationAhead_37 (wr_tr t0) fl_X8_9 rfl ?_
        refine V_alen (t := 1) (v := 6) dX8_stationAhead_40 (wr_sp t0) (by decide) rfl ?_
        refine D_icmp_ge (tgt := 53) h dX8_stationAhead_41 rfl (fun b6 h => ?_) (fun b6 h => ?_)
        · refine V_iconst (v := -1) dX8_stationAhead_53 (by decide) ?_
          obtain rfl := Option.some.inj h
          exact V_ireturn dX8_stationAhead_54 ⟨_, rfl, rfl⟩ ⟨rfl, rfl, rfl⟩
        · refine V_aload_n (i := 0) dX8_stationAhead_44 rfl rfl ?_
          refine V_getfield dX8_stationAhead_45 (wr_tr t0) fl_X8_9 rfl ?_
          refine V_iload_n (i := 2) dX8_stationAhead_48 rfl rfl ?_
          refine D_ildR h t0 rfl dX8_stationAhead_49 fun h => ?_
          refine V_goto (tgt := 54) dX8_stationAhead_50 rfl ?_
          obtain rfl := Option.some.inj h
          exact V_ireturn dX8_stationAhead_54 ⟨_, rfl, rfl⟩ ⟨rfl, rfl, rfl⟩
noncomputable def l_X4_isDropOf_2 (S : Nat → Int32) (c1 : Nat) (c2 : Int32) : Nat → Int32 → Option Int32
  | 0, _ => none
  | N + 1, x3 => if (S 4) ≤ x3 then some (0 : Int32) else gd (inr x3 12) (if (S (143 + 9 * ix x3 + 4)) = (nI c1) then gd (inr x3 12) (if (S (143 + 9 * ix x3 + 5)) = c2 then some (1 : Int32) else l_X4_isDropOf_2 S c1 c2 N (x3 + (1 : Int32))) else l_X4_isDropOf_2 S c1 c2 N (x3 + (1 : Int32)))
theorem lv_X4_isDropOf_2 {G : GT} {f : Nat} {p : Nat} {M : MM} {hi k n : Nat} {S : Nat → Int32} {c1 : Nat} {c2 : Int32} {r : Int32} (hf : 0 ≤ f) (u1 : c1 < 4) : ∀ (N : Nat) (x3 : Int32) , l_X4_isDropOf_2 S c1 c2 N x3 = some r → V G f (Ex G f) mX4_isDropOf (RH (.inl (some (.int r))) (wr p S M) hi) 2 [(0, .ref (p)), (1, .ref (p + 26 + 2 * c1)), (2, .int c2), (3, .int x3)] [] (wr p S M) hi k n := by
  intro N
  induction N with
  | zero => intro x3 h; cases h
  | succ N ih =>
    intro x3 h
    rw [l_X4_isDropOf_2] at h
    refine V_iload_n (i := 3) dX4_isDropOf_2 rfl rfl ?_
    refine V_aload_n (i := 0) dX4_isDropOf_3 rfl rfl ?_
    refine V_getfield dX4_isDropOf_4 wr_o fl_X4_68 rfl ?_
    refine D_icmp_ge (tgt := 47) h dX4_isDropOf_7 rfl (fun b1 h => ?_) (fun b1 h => ?_)
    · refine V_iconst (v := 0) dX4_isDropOf_47 (by decide) ?_
      obtain rfl := Option.some.inj h
      exact V_ireturn dX4_isDropOf_48 ⟨_, rfl, rfl⟩ ⟨rfl, rfl, rfl⟩
    · refine V_aload_n (i := 0) dX4_isDropOf_10 rfl rfl ?_
      refine V_getfield dX4_isDropOf_11 wr_o fl_X4_31 rfl ?_
      refine V_iload_n (i := 3) dX4_isDropOf_14 rfl rfl ?_
      refine D_aldPc h rfl dX4_isDropOf_15 fun g2 h => ?_
      refine V_getfield dX4_isDropOf_16 (wr_pc g2) fl_X4_143 rfl ?_
      refine V_aload_n (i := 1) dX4_isDropOf_19 rfl rfl ?_
      refine V_getfield dX4_isDropOf_20 (wr_tr u1) fl_X4_189 rfl ?_
      refine D_icmp_ne (tgt := 41) h dX4_isDropOf_23 rfl (fun b3 h => ?_) (fun b3 h => ?_)
      · refine D_iinc (i := 3) (w := 1) dX4_isDropOf_41 rfl (by decide) (Nat.le_of_ble_eq_true rfl) ?_
        refine V_goto (tgt := 2) dX4_isDropOf_44 rfl ?_
        exact V_sub (ks := [1, 2, 3, 0]) rfl (ih _ h)
      · refine V_aload_n (i := 0) dX4_isDropOf_26 rfl rfl ?_
        refine V_getfield dX4_isDropOf_27 wr_o fl_X4_31 rfl ?_
        refine V_iload_n (i := 3) dX4_isDropOf_30 rfl rfl ?_
        refine D_aldPc h rfl dX4_isDropOf_31 fun g4 h => ?_
        refine V_getfield dX4_isDropOf_32 (wr_pc g4) fl_X4_149 rfl ?_
        refine V_iload_n (i := 2) dX4_isDropOf_35 rfl rfl ?_
        refine D_icmp_ne (tgt := 41) h dX4_isDropOf_36 rfl (fun b5 h => ?_) (fun b5 h => ?_)
        · refine D_iinc (i := 3) (w := 1) dX4_isDropOf_41 rfl (by decide) (Nat.le_of_ble_eq_true rfl) ?_
          refine V_goto (tgt := 2) dX4_isDropOf_44 rfl ?_
          exact V_sub (ks := [1, 2, 3, 0]) rfl (ih _ h)
        · refine V_iconst (v := 1) dX4_isDropOf_39 (by decide) ?_
          obtain rfl := Option.some.inj h
          exact V_ireturn dX4_isDropOf_40 ⟨_, rfl, rfl⟩ ⟨rfl, rfl, rfl⟩
noncomputable def f_X4_isDropOf (S : Nat → Int32) (i1 : Nat) (a2 : Int32) : Option Int32 :=
  l_X4_isDropOf_2 S i1 a2 FU (0 : Int32)
theorem e_X4_isDropOf {G : GT} {f0 : Nat} {p : Nat} {M : MM} {hi k n : Nat} {S : Nat → Int32} {i1 : Nat} {a2 : Int32} {r : Int32} (hf0 : 1 ≤ f0) (t1 : i1 < 4) (h : f_X4_isDropOf S i1 a2 = some r) : Ex G f0 mX4_isDropOf [.ref (p), .ref (p + 26 + 2 * i1), .int a2] (wr p S M) hi k n (RH (.inl (some (.int r))) (wr p S M) hi) := by
  obtain ⟨f, rfl, hf⟩ := suc_of hf0
  unfold f_X4_isDropOf at h
  refine ⟨Nat.le_of_ble_eq_true rfl, ?_⟩
  refine V_iconst (v := 0) dX4_isDropOf_0 (by decide) ?_
  refine V_istore_n (i := 3) dX4_isDropOf_1 rfl (Nat.le_of_ble_eq_true rfl) ?_
  refine V_sub (ks := [1, 2, 3, 0]) rfl (lv_X4_isDropOf_2 hf t1 FU _ h)
noncomputable def l_X4_countCarriedBy_4 (S : Nat → Int32) (c1 : Int32) : Nat → Int32 → Int32 → Option Int32
  | 0, _, _ => none
  | N + 1, x2, x3 => if (S 4) ≤ x3 then some x2 else gd (inr x3 12) (if (S (143 + 9 * ix x3 + 4)) = c1 then l_X4_countCarriedBy_4 S c1 N (x2 + (1 : Int32)) (x3 + (1 : Int32)) else l_X4_countCarriedBy_4 S c1 N x2 (x3 + (1 : Int32)))
theorem lv_X4_countCarriedBy_4 {G : GT} {f : Nat} {p : Nat} {M : MM} {hi k n : Nat} {S : Nat → Int32} {c1 : Int32} {r : Int32} (hf : 0 ≤ f) : ∀ (N : Nat) (x2 : Int32) (x3 : Int32) , l_X4_countCarriedBy_4 S c1 N x2 x3 = some r → V G f (Ex G f) mX4_countCarriedBy (RH (.inl (some (.int r))) (wr p S M) hi) 4 [(0, .ref (p)), (1, .int c1), (2, .int x2), (3, .int x3)] [] (wr p S M) hi k n := by
  intro N
  induction N with
  | zero => intro x2 x3 h; cases h
  | succ N ih =>
    intro x2 x3 h
    rw [l_X4_countCarriedBy_4] at h
    refine V_iload_n (i := 3) dX4_countCarriedBy_4 rfl rfl ?_
    refine V_aload_n (i := 0) dX4_countCarriedBy_5 rfl rfl ?_
    refine V_getfield dX4_countCarriedBy_6 wr_o fl_X4_68 rfl ?_
    refine D_icmp_ge (tgt := 34) h dX4_countCarriedBy_9 rfl (fun b1 h => ?_) (fun b1 h => ?_)
    · refine V_iload_n (i := 2) dX4_countCarriedBy_34 rfl rfl ?_
      obtain rfl := Option.some.inj h
      exact V_ireturn dX4_countCarriedBy_35 ⟨_, rfl, rfl⟩ ⟨rfl, rfl, rfl⟩
    · refine V_aload_n (i := 0) dX4_countCarriedBy_12 rfl rfl ?_
      refine V_getfield dX4_countCarriedBy_13 wr_o fl_X4_31 rfl ?_
      refine V_iload_n (i := 3) dX4_countCarriedBy_16 rfl rfl ?_
      refine D_aldPc h rfl dX4_countCarriedBy_17 fun g2 h => ?_
      refine V_getfield dX4_countCarriedBy_18 (wr_pc g2) fl_X4_143 rfl ?_
      refine V_iload_n (i := 1) dX4_countCarriedBy_21 rfl rfl ?_
      refine D_icmp_ne (tgt := 28) h dX4_countCarriedBy_22 rfl (fun b3 h => ?_) (fun b3 h => ?_)
      · refine D_iinc (i := 3) (w := 1) dX4_countCarriedBy_28 rfl (by decide) (Nat.le_of_ble_eq_true rfl) ?_
        refine V_goto (tgt := 4) dX4_countCarriedBy_31 rfl ?_
        exact V_sub (ks := [1, 2, 3, 0]) rfl (ih _ _ h)
      · refine D_iinc (i := 2) (w := 1) dX4_countCarriedBy_25 rfl (by decide) (Nat.le_of_ble_eq_true rfl) ?_
        refine D_iinc (i := 3) (w := 1) dX4_countCarriedBy_28 rfl (by decide) (Nat.le_of_ble_eq_true rfl) ?_
        refine V_goto (tgt := 4) dX4_countCarriedBy_31 rfl ?_
        exact V_sub (ks := [2, 3, 1, 0]) rfl (ih _ _ h)
noncomputable def f_X4_countCarriedBy (S : Nat → Int32) (a1 : Int32) : Option Int32 :=
  l_X4_countCarriedBy_4 S a1 FU (0 : Int32) (0 : Int32)
theorem e_X4_countCarriedBy {G : GT} {f0 : Nat} {p : Nat} {M : MM} {hi k n : Nat} {S : Nat → Int32} {a1 : Int32} {r : Int32} (hf0 : 1 ≤ f0) (h : f_X4_countCarriedBy S a1 = some r) : Ex G f0 mX4_countCarriedBy [.ref (p), .int a1] (wr p S M) hi k n (RH (.inl (some (.int r))) (wr p S M) hi) := by
  obtain ⟨f, rfl, hf⟩ := suc_of hf0
  unfold f_X4_countCarriedBy at h
  refine ⟨Nat.le_of_ble_eq_true rfl, ?_⟩
  refine V_iconst (v := 0) dX4_countCarriedBy_0 (by decide) ?_
  refine V_istore_n (i := 2) dX4_countCarriedBy_1 rfl (Nat.le_of_ble_eq_true rfl) ?_
  refine V_iconst (v := 0) dX4_countCarriedBy_2 (by decide) ?_
  refine V_istore_n (i := 3) dX4_countCarriedBy_3 rfl (Nat.le_of_ble_eq_true rfl) ?_
  refine V_sub (ks := [2, 3, 1, 0]) rfl (lv_X4_countCarriedBy_4 hf FU _ _ h)
noncomputable def f_X4_distanceBetween (S : Nat → Int32) (a1 : Int32) (a2 : Int32) : Option Int32 :=
  if a1 < 0 then some (1000 : Int32) else if (8 : Int32) ≤ a1 then some (1000 : Int32) else if a2 < 0 then some (1000 : Int32) else if a2 < (8 : Int32) then gd (inr ((a1 * (8 : Int32)) + a2) 64) (some (S (251 + ix ((a1 * (8 : Int32)) + a2)))) else some (1000 : Int32)
theorem e_X4_distanceBetween {G : GT} {f0 : Nat} {p : Nat} {M : MM} {hi k n : Nat} {S : Nat → Int32} {a1 : Int32} {a2 : Int32} {r : Int32} (hf0 : 1 ≤ f0) (h : f_X4_distanceBetween S a1 a2 = some r) : Ex G f0 mX4_distanceBetween [.ref (p), .int a1, .int a2] (wr p S M) hi k n (RH (.inl (some (.int r))) (wr p S M) hi) := by
  obtain ⟨f, rfl, hf⟩ := suc_of hf0
  unfold f_X4_distanceBetween at h
  refine ⟨Nat.le_of_ble_eq_true rfl, ?_⟩
  refine V_iload_n (i := 1) dX4_distanceBetween_0 rfl rfl ?_
  refine D_if_lt (tgt := 20) h dX4_distanceBetween_1 rfl (fun b1 h => ?_) (fun b1 h => ?_)
  · refine V_sipush (v := 1000) dX4_distanceBetween_20 (by decide) ?_
    obtain rfl := Option.some.inj h
    exact V_ireturn dX4_distanceBetween_23 ⟨_, rfl, rfl⟩ ⟨rfl, rfl, rfl⟩
  · refine V_iload_n (i := 1) dX4_distanceBetween_4 rfl rfl ?_
    refine V_bipush (v := 8) dX4_distanceBetween_5 (by decide) ?_
    refine D_icmp_ge (tgt := 20) h dX4_distanceBetween_7 rfl (fun b2 h => ?_) (fun b2 h => ?_)
    · refine V_sipush (v := 1000) dX4_distanceBetween_20 (by decide) ?_
      obtain rfl := Option.some.inj h
      exact V_ireturn dX4_distanceBetween_23 ⟨_, rfl, rfl⟩ ⟨rfl, rfl, rfl⟩
    · refine V_iload_n (i := 2) dX4_distanceBetween_10 rfl rfl ?_
      refine D_if_lt (tgt := 20) h dX4_distanceBetween_11 rfl (fun b3 h => ?_) (fun b3 h => ?_)
      · refine V_sipush (v := 1000) dX4_distanceBetween_20 (by decide) ?_
        obtain rfl := Option.some.inj h
        exact V_ireturn dX4_distanceBetween_23 ⟨_, rfl, rfl⟩ ⟨rfl, rfl, rfl⟩
      · refine V_iload_n (i := 2) dX4_distanceBetween_14 rfl rfl ?_
        refine V_bipush (v := 8) dX4_distanceBetween_15 (by decide) ?_
        refine D_icmp_lt (tgt := 24) h dX4_distanceBetween_17 rfl (fun b4 h => ?_) (fun b4 h => ?_)
        · refine V_aload_n (i := 0) dX4_distanceBetween_24 rfl rfl ?_
          refine V_getfield dX4_distanceBetween_25 wr_o fl_X4_35 rfl ?_
          refine V_iload_n (i := 1) dX4_distanceBetween_28 rfl rfl ?_
          refine V_bipush (v := 8) dX4_distanceBetween_29 (by decide) ?_
          refine V_imul dX4_distanceBetween_31 ?_
          refine V_iload_n (i := 2) dX4_distanceBetween_32 rfl rfl ?_
          refine V_iadd dX4_distanceBetween_33 ?_
          refine D_ildD h rfl dX4_distanceBetween_34 fun h => ?_
          obtain rfl := Option.some.inj h
          exact V_ireturn dX4_distanceBetween_35 ⟨_, rfl, rfl⟩ ⟨rfl, rfl, rfl⟩
        · refine V_sipush (v := 1000) dX4_distanceBetween_20 (by decide) ?_
          obtain rfl := Option.some.inj h
          exact V_ireturn dX4_distanceBetween_23 ⟨_, rfl, rfl⟩ ⟨rfl, rfl, rfl⟩
noncomputable def l_X4_findDrop_17 (S : Nat → Int32) (c1 : Nat) (c2 : Int32) : Nat → Int32 → Int32 → Int32 → Option Int32
  | 0, _, _, _ => none
  | N + 1, x3, x4, x5 => if (6 : Int32) ≤ x5 then some x3 else bdc (f_X8_stationAhead S c1 x5) (fun v4 => bdc (f_X4_distanceBetween S v4 c2) (fun v5 => if x4 ≤ v5 then l_X4_findDrop_17 S c1 c2 N x3 x4 (x5 + (1 : Int32)) else l_X4_findDrop_17 S c1 c2 N v4 v5 (x5 + (1 : Int32))))
theorem lv_X4_findDrop_17 {G : GT} {f : Nat} {p : Nat} {M : MM} {hi k n : Nat} {S : Nat → Int32} {c1 : Nat} {c2 : Int32} {r : Int32} (hf : 1 ≤ f) (u1 : c1 < 4) : ∀ (N : Nat) (x3 : Int32) (x4 : Int32) (x5 : Int32) , l_X4_findDrop_17 S c1 c2 N x3 x4 x5 = some r → V G f (Ex G f) mX4_findDrop (RH (.inl (some (.int r))) (wr p S M) hi) 17 [(0, .ref (p)), (1, .ref (p + 26 + 2 * c1)), (2, .int c2), (3, .int x3), (4, .int x4), (5, .int x5)] [] (wr p S M) hi k n := by
  intro N
  induction N with
  | zero => intro x3 x4 x5 h; cases h
  | succ N ih =>
    intro x3 x4 x5 h
    rw [l_X4_findDrop_17] at h
    refine V_iload (i := 5) dX4_findDrop_17 rfl ?_
    refine V_bipush (v := 6) dX4_findDrop_19 (by decide) ?_
    refine D_icmp_ge (tgt := 61) h dX4_findDrop_21 rfl (fun b3 h => ?_) (fun b3 h => ?_)
    · refine V_iload_n (i := 3) dX4_findDrop_61 rfl rfl ?_
      obtain rfl := Option.some.inj h
      exact V_ireturn dX4_findDrop_62 ⟨_, rfl, rfl⟩ ⟨rfl, rfl, rfl⟩
    · refine V_aload_n (i := 1) dX4_findDrop_24 rfl rfl ?_
      refine V_iload (i := 5) dX4_findDrop_25 rfl ?_
      refine D_cVI (As := [_]) h dX4_findDrop_27 cv_X4_186 rfl ⟨_, _, _, (wr_tr u1), rfl, rfl⟩ rfl (Nat.le_of_ble_eq_true rfl) (fun x hx => e_X8_stationAhead (Nat.le_trans (Nat.le_of_ble_eq_true rfl) hf) u1 hx) fun v4 h => ?_
      refine V_istore (i := 6) dX4_findDrop_30 (Nat.le_of_ble_eq_true rfl) ?_
      refine V_aload_n (i := 0) dX4_findDrop_32 rfl rfl ?_
      refine V_iload (i := 6) dX4_findDrop_33 rfl ?_
      refine V_iload_n (i := 2) dX4_findDrop_35 rfl rfl ?_
      refine D_cVI (As := [_, _]) h dX4_findDrop_36 cv_X4_166 rfl ⟨_, _, _, wr_o, rfl, rfl⟩ rfl (Nat.le_of_ble_eq_true rfl) (fun x hx => e_X4_distanceBetween (Nat.le_trans (Nat.le_of_ble_eq_true rfl) hf) hx) fun v5 h => ?_
      refine V_istore (i := 7) dX4_findDrop_39 (Nat.le_of_ble_eq_true rfl) ?_
      refine V_iload (i := 7) dX4_findDrop_41 rfl ?_
      refine V_iload (i := 4) dX4_findDrop_43 rfl ?_
      refine D_icmp_ge (tgt := 55) h dX4_findDrop_45 rfl (fun b6 h => ?_) (fun b6 h => ?_)
      · refine D_iinc (i := 5) (w := 1) dX4_findDrop_55 rfl (by decide) (Nat.le_of_ble_eq_true rfl) ?_
        refine V_goto (tgt := 17) dX4_findDrop_58 rfl ?_
        exact V_sub (ks := [3, 4, 5, 6, 7, 0]) rfl (ih _ _ _ h)
      · refine V_iload (i := 6) dX4_findDrop_48 rfl ?_
        refine V_istore_n (i := 3) dX4_findDrop_50 rfl (Nat.le_of_ble_eq_true rfl) ?_
        refine V_iload (i := 7) dX4_findDrop_51 rfl ?_
        refine V_istore (i := 4) dX4_findDrop_53 (Nat.le_of_ble_eq_true rfl) ?_
        refine D_iinc (i := 5) (w := 1) dX4_findDrop_55 rfl (by decide) (Nat.le_of_ble_eq_true rfl) ?_
        refine V_goto (tgt := 17) dX4_findDrop_58 rfl ?_
        exact V_sub (ks := [5, 6, 7, 2, 1, 0]) rfl (ih _ _ _ h)
noncomputable def f_X4_findDrop (S : Nat → Int32) (i1 : Nat) (a2 : Int32) : Option Int32 :=
  bdc (f_X8_stationAhead S i1 (0 : Int32)) (fun v1 => bdc (f_X4_distanceBetween S v1 a2) (fun v2 => l_X4_findDrop_17 S i1 a2 FU (-1 : Int32) v2 (1 : Int32)))
theorem e_X4_findDrop {G : GT} {f0 : Nat} {p : Nat} {M : MM} {hi k n : Nat} {S : Nat → Int32} {i1 : Nat} {a2 : Int32} {r : Int32} (hf0 : 2 ≤ f0) (t1 : i1 < 4) (h : f_X4_findDrop S i1 a2 = some r) : Ex G f0 mX4_findDrop [.ref (p), .ref (p + 26 + 2 * i1), .int a2] (wr p S M) hi k n (RH (.inl (some (.int r))) (wr p S M) hi) := by
  obtain ⟨f, rfl, hf⟩ := suc_of hf0
  unfold f_X4_findDrop at h
  refine ⟨Nat.le_of_ble_eq_true rfl, ?_⟩
  refine V_iconst (v := -1) dX4_findDrop_0 (by decide) ?_
  refine V_istore_n (i := 3) dX4_findDrop_1 rfl (Nat.le_of_ble_eq_true rfl) ?_
  refine V_aload_n (i := 0) dX4_findDrop_2 rfl rfl ?_
  refine V_aload_n (i := 1) dX4_findDrop_3 rfl rfl ?_
  refine V_iconst (v := 0) dX4_findDrop_4 (by decide) ?_
  refine D_cVI (As := [_]) h dX4_findDrop_5 cv_X4_186 rfl ⟨_, _, _, (wr_tr t1), rfl, rfl⟩ rfl (Nat.le_of_ble_eq_true rfl) (fun x hx => e_X8_stationAhead (Nat.le_trans (Nat.le_of_ble_eq_true rfl) hf) t1 hx) fun v1 h => ?_
  refine V_iload_n (i := 2) dX4_findDrop_8 rfl rfl ?_
  refine D_cVI (As := [_, _]) h dX4_findDrop_9 cv_X4_166 rfl ⟨_, _, _, wr_o, rfl, rfl⟩ rfl (Nat.le_of_ble_eq_true rfl) (fun x hx => e_X4_distanceBetween (Nat.le_trans (Nat.le_of_ble_eq_true rfl) hf) hx) fun v2 h => ?_
  refine V_istore (i := 4) dX4_findDrop_12 (Nat.le_of_ble_eq_true rfl) ?_
  refine V_iconst (v := 1) dX4_findDrop_14 (by decide) ?_
  refine V_istore (i := 5) dX4_findDrop_15 (Nat.le_of_ble_eq_true rfl) ?_
  refine V_sub (ks := [3, 4, 5, 2, 1, 0]) rfl (lv_X4_findDrop_17 hf t1 FU _ _ _ h)
noncomputable def l_X4_findNextToLoad_28 (S : Nat → Int32) (c1 : Nat) (c2 : Int32) : Nat → (Option Nat) → Int32 → Option (Option Nat)
  | 0, _, _ => none
  | N + 1, x3, x4 => opc x3 (if (S 4) ≤ x4 then some none else gd (inr x4 12) (bdc (f_X2_isReadyAt S (ix x4) c2 (S 0)) (fun v8 => if v8 = 0 then l_X4_findNextToLoad_28 S c1 c2 N none (x4 + (1 : Int32)) else jn (bdc (f_X4_findDrop S c1 (S (143 + 9 * ix x4 + 1))) (fun v11 => if v11 = (-1 : Int32) then l_X4_findNextToLoad_28 S c1 c2 N none (x4 + (1 : Int32)) else l_X4_findNextToLoad_28 S c1 c2 N (some (ix x4)) (x4 + (1 : Int32)))) (fun j10 => j10)))) (fun w4 => gd (Nat.blt w4 12) (if (S 4) ≤ x4 then some (some w4) else gd (inr x4 12) (bdc (f_X2_isReadyAt S (ix x4) c2 (S 0)) (fun v15 => if v15 = 0 then l_X4_findNextToLoad_28 S c1 c2 N (some w4) (x4 + (1 : Int32)) else jn (bdc (f_X4_findDrop S c1 (S (143 + 9 * ix x4 + 1))) (fun v20 => if v20 = (-1 : Int32) then l_X4_findNextToLoad_28 S c1 c2 N (some w4) (x4 + (1 : Int32)) else l_X4_findNextToLoad_28 S c1 c2 N (some (ix x4)) (x4 + (1 : Int32)))) (fun j17 => bdc (f_X2_isConsideredBefore S (ix x4) w4) (fun v18 => if v18 = 0 then l_X4_findNextToLoad_28 S c1 c2 N (some w4) (x4 + (1 : Int32)) else j17))))))
theorem lv_X4_findNextToLoad_28 {G : GT} {f : Nat} {p : Nat} {M : MM} {hi k n : Nat} {S : Nat → Int32} {c1 : Nat} {c2 : Int32} {r : (Option Nat)} (hf : 2 ≤ f) (u1 : c1 < 4) : ∀ (N : Nat) (x3 : Option Nat) (x4 : Int32) , l_X4_findNextToLoad_28 S c1 c2 N x3 x4 = some r → V G f (Ex G f) mX4_findNextToLoad (RH (.inl (some (orf (p + 34) r))) (wr p S M) hi) 28 [(0, .ref (p)), (1, .ref (p + 26 + 2 * c1)), (2, .int c2), (3, orf (p + 34) x3), (4, .int x4)] [] (wr p S M) hi k n := by
  intro N
  induction N with
  | zero => intro x3 x4 h; cases h
  | succ N ih =>
    intro x3 x4 h
    rw [l_X4_findNextToLoad_28] at h
    cases x3 with
    | none =>
      replace h := opc_n h
      refine V_iload (i := 4) dX4_findNextToLoad_28 rfl ?_
      refine V_aload_n (i := 0) dX4_findNextToLoad_30 rfl rfl ?_
      refine V_getfield dX4_findNextToLoad_31 wr_o fl_X4_68 rfl ?_
      refine D_icmp_ge (tgt := 95) h dX4_findNextToLoad_34 rfl (fun b6 h => ?_) (fun b6 h => ?_)
      · refine V_aload_nN (i := 3) dX4_findNextToLoad_95 rfl rfl ?_
        obtain rfl := Option.some.inj h
        exact V_areturn dX4_findNextToLoad_96 rfl (Or.inl rfl) ⟨rfl, rfl, rfl⟩
      · refine V_aload_n (i := 0) dX4_findNextToLoad_37 rfl rfl ?_
        refine V_getfield dX4_findNextToLoad_38 wr_o fl_X4_31 rfl ?_
        refine V_iload (i := 4) dX4_findNextToLoad_41 rfl ?_
        refine D_aldPc h rfl dX4_findNextToLoad_43 fun g7 h => ?_
        refine V_astore (i := 5) dX4_findNextToLoad_44 (Nat.le_of_ble_eq_true rfl) ?_
        refine V_aload (i := 5) dX4_findNextToLoad_46 rfl ?_
        refine V_iload_n (i := 2) dX4_findNextToLoad_48 rfl rfl ?_
        refine V_aload_n (i := 0) dX4_findNextToLoad_49 rfl rfl ?_
        refine V_getfield dX4_findNextToLoad_50 wr_o fl_X4_71 rfl ?_
        refine D_cVI (As := [_, _]) h dX4_findNextToLoad_53 cv_X4_192 rfl ⟨_, _, _, (wr_pc g7), rfl, rfl⟩ rfl (Nat.le_of_ble_eq_true rfl) (fun x hx => e_X2_isReadyAt (Nat.le_trans (Nat.le_of_ble_eq_true rfl) hf) g7 hx) fun v8 h => ?_
        refine D_if_eq (tgt := 89) h dX4_findNextToLoad_56 rfl (fun b9 h => ?_) (fun b9 h => ?_)
        · refine D_iinc (i := 4) (w := 1) dX4_findNextToLoad_89 rfl (by decide) (Nat.le_of_ble_eq_true rfl) ?_
          refine V_goto (tgt := 28) dX4_findNextToLoad_92 rfl ?_
          exact V_sub (ks := [2, 3, 4, 5, 0]) rfl (ih _ _ h)
        · refine V_aload_nN (i := 3) dX4_findNextToLoad_59 rfl rfl ?_
          refine D_jn (fun (j : Option (Option Nat)) =>  j = some r → V G f (Ex G f) mX4_findNextToLoad (RH (.inl (some (orf (p + 34) r))) (wr p S M) hi) 72 [(0, .ref (p)), (1, .ref (p + 26 + 2 * c1)), (2, .int c2), (3, .null), (4, .int x4), (5, .ref (p + 34 + ix x4))] [] (wr p S M) hi k n) h (fun j10 hj10 h => ?_) ?_
          · refine V_ifnullN (tgt := 72) dX4_findNextToLoad_60 rfl ?_
            exact V_sub (ks := [1, 2, 3, 4, 5, 0]) rfl (hj10 h)
          · intro  h
            refine V_aload_n (i := 0) dX4_findNextToLoad_72 rfl rfl ?_
            refine V_aload_n (i := 1) dX4_findNextToLoad_73 rfl rfl ?_
            refine V_aload (i := 5) dX4_findNextToLoad_74 rfl ?_
            refine V_getfield dX4_findNextToLoad_76 (wr_pc g7) fl_X4_136 rfl ?_
            refine D_cVI (As := [_, _]) h dX4_findNextToLoad_79 cv_X4_195 rfl ⟨_, _, _, wr_o, rfl, rfl⟩ rfl (Nat.le_of_ble_eq_true rfl) (fun x hx => e_X4_findDrop (Nat.le_trans (Nat.le_of_ble_eq_true rfl) hf) u1 hx) fun v11 h => ?_
            refine V_iconst (v := -1) dX4_findNextToLoad_82 (by decide) ?_
            refine D_icmp_eq (tgt := 89) h dX4_findNextToLoad_83 rfl (fun b12 h => ?_) (fun b12 h => ?_)
            · refine D_iinc (i := 4) (w := 1) dX4_findNextToLoad_89 rfl (by decide) (Nat.le_of_ble_eq_true rfl) ?_
              refine V_goto (tgt := 28) dX4_findNextToLoad_92 rfl ?_
              exact V_sub (ks := [1, 2, 3, 4, 0]) rfl (ih _ _ h)
            · refine V_aload (i := 5) dX4_findNextToLoad_86 rfl ?_
              refine V_astore_n (i := 3) dX4_findNextToLoad_88 rfl (Nat.le_of_ble_eq_true rfl) ?_
              refine D_iinc (i := 4) (w := 1) dX4_findNextToLoad_89 rfl (by decide) (Nat.le_of_ble_eq_true rfl) ?_
              refine V_goto (tgt := 28) dX4_findNextToLoad_92 rfl ?_
              exact V_sub (ks := [2, 3, 4, 1, 0]) rfl (ih _ _ h)
    | some w4 =>
      replace h := opc_s h
      refine D_gd h fun g5 h => ?_
      refine V_iload (i := 4) dX4_findNextToLoad_28 rfl ?_
      refine V_aload_n (i := 0) dX4_findNextToLoad_30 rfl rfl ?_
      refine V_getfield dX4_findNextToLoad_31 wr_o fl_X4_68 rfl ?_
      refine D_icmp_ge (tgt := 95) h dX4_findNextToLoad_34 rfl (fun b13 h => ?_) (fun b13 h => ?_)
      · refine V_aload_n (i := 3) dX4_findNextToLoad_95 rfl rfl ?_
        obtain rfl := Option.some.inj h
        exact V_areturn dX4_findNextToLoad_96 rfl (Or.inr ⟨_, rfl⟩) ⟨rfl, rfl, rfl⟩
      · refine V_aload_n (i := 0) dX4_findNextToLoad_37 rfl rfl ?_
        refine V_getfield dX4_findNextToLoad_38 wr_o fl_X4_31 rfl ?_
        refine V_iload (i := 4) dX4_findNextToLoad_41 rfl ?_
        refine D_aldPc h rfl dX4_findNextToLoad_43 fun g14 h => ?_
        refine V_astore (i := 5) dX4_findNextToLoad_44 (Nat.le_of_ble_eq_true rfl) ?_
        refine V_aload (i := 5) dX4_findNextToLoad_46 rfl ?_
        refine V_iload_n (i := 2) dX4_findNextToLoad_48 rfl rfl ?_
        refine V_aload_n (i := 0) dX4_findNextToLoad_49 rfl rfl ?_
        refine V_getfield dX4_findNextToLoad_50 wr_o fl_X4_71 rfl ?_
        refine D_cVI (As := [_, _]) h dX4_findNextToLoad_53 cv_X4_192 rfl ⟨_, _, _, (wr_pc g14), rfl, rfl⟩ rfl (Nat.le_of_ble_eq_true rfl) (fun x hx => e_X2_isReadyAt (Nat.le_trans (Nat.le_of_ble_eq_true rfl) hf) g14 hx) fun v15 h => ?_
        refine D_if_eq (tgt := 89) h dX4_findNextToLoad_56 rfl (fun b16 h => ?_) (fun b16 h => ?_)
        · refine D_iinc (i := 4) (w := 1) dX4_findNextToLoad_89 rfl (by decide) (Nat.le_of_ble_eq_true rfl) ?_
          refine V_goto (tgt := 28) dX4_findNextToLoad_92 rfl ?_
          exact V_sub (ks := [2, 3, 4, 5, 0]) rfl (ih _ _ h)
        · refine V_aload_n (i := 3) dX4_findNextToLoad_59 rfl rfl ?_
          refine D_jn (fun (j : Option (Option Nat)) =>  j = some r → V G f (Ex G f) mX4_findNextToLoad (RH (.inl (some (orf (p + 34) r))) (wr p S M) hi) 72 [(0, .ref (p)), (1, .ref (p + 26 + 2 * c1)), (2, .int c2), (3, .ref (p + 34 + w4)), (4, .int x4), (5, .ref (p + 34 + ix x4))] [] (wr p S M) hi k n) h (fun j17 hj17 h => ?_) ?_
          · refine V_ifnull dX4_findNextToLoad_60 ?_
            refine V_aload (i := 5) dX4_findNextToLoad_63 rfl ?_
            refine V_aload_n (i := 3) dX4_findNextToLoad_65 rfl rfl ?_
            refine D_cVI (As := [_]) h dX4_findNextToLoad_66 cv_X4_182 rfl ⟨_, _, _, (wr_pc g14), rfl, rfl⟩ rfl (Nat.le_of_ble_eq_true rfl) (fun x hx => e_X2_isConsideredBefore (Nat.le_trans (Nat.le_of_ble_eq_true rfl) hf) g14 (Nat.blt_eq.mp g5) hx) fun v18 h => ?_
            refine D_if_eq (tgt := 89) h dX4_findNextToLoad_69 rfl (fun b19 h => ?_) (fun b19 h => ?_)
            · refine D_iinc (i := 4) (w := 1) dX4_findNextToLoad_89 rfl (by decide) (Nat.le_of_ble_eq_true rfl) ?_
              refine V_goto (tgt := 28) dX4_findNextToLoad_92 rfl ?_
              exact V_sub (ks := [2, 3, 4, 5, 0]) rfl (ih _ _ h)
            · exact V_sub (ks := [1, 2, 3, 4, 5, 0]) rfl (hj17 h)
          · intro  h
            refine V_aload_n (i := 0) dX4_findNextToLoad_72 rfl rfl ?_
            refine V_aload_n (i := 1) dX4_findNextToLoad_73 rfl rfl ?_
            refine V_aload (i := 5) dX4_findNextToLoad_74 rfl ?_
            refine V_getfield dX4_findNextToLoad_76 (wr_pc g14) fl_X4_136 rfl ?_
            refine D_cVI (As := [_, _]) h dX4_findNextToLoad_79 cv_X4_195 rfl ⟨_, _, _, wr_o, rfl, rfl⟩ rfl (Nat.le_of_ble_eq_true rfl) (fun x hx => e_X4_findDrop (Nat.le_trans (Nat.le_of_ble_eq_true rfl) hf) u1 hx) fun v20 h => ?_
            refine V_iconst (v := -1) dX4_findNextToLoad_82 (by decide) ?_
            refine D_icmp_eq (tgt := 89) h dX4_findNextToLoad_83 rfl (fun b21 h => ?_) (fun b21 h => ?_)
            · refine D_iinc (i := 4) (w := 1) dX4_findNextToLoad_89 rfl (by decide) (Nat.le_of_ble_eq_true rfl) ?_
              refine V_goto (tgt := 28) dX4_findNextToLoad_92 rfl ?_
              exact V_sub (ks := [1, 2, 3, 4, 0]) rfl (ih _ _ h)
            · refine V_aload (i := 5) dX4_findNextToLoad_86 rfl ?_
              refine V_astore_n (i := 3) dX4_findNextToLoad_88 rfl (Nat.le_of_ble_eq_true rfl) ?_
              refine D_iinc (i := 4) (w := 1) dX4_findNextToLoad_89 rfl (by decide) (Nat.le_of_ble_eq_true rfl) ?_
              refine V_goto (tgt := 28) dX4_findNextToLoad_92 rfl ?_
              exact V_sub (ks := [2, 3, 4, 1, 0]) rfl (ih _ _ h)
noncomputable def f_X4_findNextToLoad (S : Nat → Int32) (i1 : Nat) : Option (Option Nat) :=
  bdc (f_X4_countCarriedBy S (nI i1)) (fun v1 => if v1 < (S (87 + 14 * i1)) then bdc (f_X8_stationAhead S i1 (0 : Int32)) (fun v3 => l_X4_findNextToLoad_28 S i1 v3 FU none (0 : Int32)) else some none)
theorem e_X4_findNextToLoad {G : GT} {f0 : Nat} {p : Nat} {M : MM} {hi k n : Nat} {S : Nat → Int32} {i1 : Nat} {r : (Option Nat)} (hf0 : 3 ≤ f0) (t1 : i1 < 4) (h : f_X4_findNextToLoad S i1 = some r) : Ex G f0 mX4_findNextToLoad [.ref (p), .ref (p + 26 + 2 * i1)] (wr p S M) hi k n (RH (.inl (some (orf (p + 34) r))) (wr p S M) hi) := by
  obtain ⟨f, rfl, hf⟩ := suc_of hf0
  unfold f_X4_findNextToLoad at h
  refine ⟨Nat.le_of_ble_eq_true rfl, ?_⟩
  refine V_aload_n (i := 0) dX4_findNextToLoad_0 rfl rfl ?_
  refine V_aload_n (i := 1) dX4_findNextToLoad_1 rfl rfl ?_
  refine V_getfield dX4_findNextToLoad_2 (wr_tr t1) fl_X4_189 rfl ?_
  refine D_cVI (As := [_]) h dX4_findNextToLoad_5 cv_X4_170 rfl ⟨_, _, _, wr_o, rfl, rfl⟩ rfl (Nat.le_of_ble_eq_true rfl) (fun x hx => e_X4_countCarriedBy (Nat.le_trans (Nat.le_of_ble_eq_true rfl) hf) hx) fun v1 h => ?_
  refine V_aload_n (i := 1) dX4_findNextToLoad_8 rfl rfl ?_
  refine V_getfield dX4_findNextToLoad_9 (wr_tr t1) fl_X4_108 rfl ?_
  refine D_icmp_lt (tgt := 17) h dX4_findNextToLoad_12 rfl (fun b2 h => ?_) (fun b2 h => ?_)
  · refine V_aload_n (i := 1) dX4_findNextToLoad_17 rfl rfl ?_
    refine V_iconst (v := 0) dX4_findNextToLoad_18 (by decide) ?_
    refine D_cVI (As := [_]) h dX4_findNextToLoad_19 cv_X4_186 rfl ⟨_, _, _, (wr_tr t1), rfl, rfl⟩ rfl (Nat.le_of_ble_eq_true rfl) (fun x hx => e_X8_stationAhead (Nat.le_trans (Nat.le_of_ble_eq_true rfl) hf) t1 hx) fun v3 h => ?_
    refine V_istore_n (i := 2) dX4_findNextToLoad_22 rfl (Nat.le_of_ble_eq_true rfl) ?_
    refine V_null dX4_findNextToLoad_23 ?_
    refine V_astore_nN (i := 3) dX4_findNextToLoad_24 rfl (Nat.le_of_ble_eq_true rfl) ?_
    refine V_iconst (v := 0) dX4_findNextToLoad_25 (by decide) ?_
    refine V_istore (i := 4) dX4_findNextToLoad_26 (Nat.le_of_ble_eq_true rfl) ?_
    refine V_sub (ks := [3, 4, 2, 1, 0]) rfl (lv_X4_findNextToLoad_28 hf t1 FU _ _ h)
  · refine V_null dX4_findNextToLoad_15 ?_
    obtain rfl := Option.some.inj h
    exact V_areturn dX4_findNextToLoad_16 rfl (Or.inl rfl) ⟨rfl, rfl, rfl⟩
noncomputable def l_X4_unload_31 (c1 : Nat) (c2 : Int32) (c3 : Int32) : Nat → (Nat → Int32) → Int32 → Option (Nat → Int32)
  | 0, _, _ => none
  | N + 1, S, x4 => if (S 4) ≤ x4 then some S else gd (inr x4 12) (if (S (143 + 9 * ix x4 + 4)) = (nI c1) then if (S (143 + 9 * ix x4 + 5)) = c2 then bnd (upd S 6 ((S 6) + (1 : Int32))) (fun S9 => if (S9 (143 + 9 * ix x4 + 1)) = c2 then bdc (f_X2_deliver S9 (ix x4) (S9 0)) (fun S12 => l_X4_unload_31 c1 c2 c3 N S12 (x4 + (1 : Int32))) else bdc (f_X2_transferTo S9 (ix x4) c2 c3) (fun S11 => l_X4_unload_31 c1 c2 c3 N S11 (x4 + (1 : Int32)))) else l_X4_unload_31 c1 c2 c3 N S (x4 + (1 : Int32)) else l_X4_unload_31 c1 c2 c3 N S (x4 + (1 : Int32)))
theorem lv_X4_unload_31 {G : GT} {f : Nat} {p : Nat} {M : MM} {hi k n : Nat} {c1 : Nat} {c2 : Int32} {c3 : Int32} {r : (Nat → Int32)} (hf : 1 ≤ f) (u1 : c1 < 4) : ∀ (N : Nat) (S : Nat → Int32) (x4 : Int32) , l_X4_unload_31 c1 c2 c3 N S x4 = some r → V G f (Ex G f) mX4_unload (RH (.inl none) (wr p r M) hi) 31 [(0, .ref (p)), (1, .ref (p + 26 + 2 * c1)), (2, .int c2), (3, .int c3), (4, .int x4)] [] (wr p S M) hi k n := by
  intro N
  induction N with
  | zero => intro S x4 h; cases h
  | succ N ih =>
    intro S x4 h
    rw [l_X4_unload_31] at h
    refine V_iload (i := 4) dX4_unload_31 rfl ?_
    refine V_aload_n (i := 0) dX4_unload_33 rfl rfl ?_
    refine V_getfield dX4_unload_34 wr_o fl_X4_68 rfl ?_
    refine D_icmp_ge (tgt := 117) h dX4_unload_37 rfl (fun b5 h => ?_) (fun b5 h => ?_)
    · obtain rfl := Option.some.inj h
      exact V_return dX4_unload_117 rfl ⟨rfl, rfl, rfl⟩
    · refine V_aload_n (i := 0) dX4_unload_40 rfl rfl ?_
      refine V_getfield dX4_unload_41 wr_o fl_X4_31 rfl ?_
      refine V_iload (i := 4) dX4_unload_44 rfl ?_
      refine D_aldPc h rfl dX4_unload_46 fun g6 h => ?_
      refine V_astore (i := 5) dX4_unload_47 (Nat.le_of_ble_eq_true rfl) ?_
      refine V_aload (i := 5) dX4_unload_49 rfl ?_
      refine V_getfield dX4_unload_51 (wr_pc g6) fl_X4_143 rfl ?_
      refine V_aload_n (i := 1) dX4_unload_54 rfl rfl ?_
      refine V_getfield dX4_unload_55 (wr_tr u1) fl_X4_189 rfl ?_
      refine D_icmp_ne (tgt := 111) h dX4_unload_58 rfl (fun b7 h => ?_) (fun b7 h => ?_)
      · refine D_iinc (i := 4) (w := 1) dX4_unload_111 rfl (by decide) (Nat.le_of_ble_eq_true rfl) ?_
        refine V_goto (tgt := 31) dX4_unload_114 rfl ?_
        exact V_sub (ks := [2, 3, 4, 5, 0]) rfl (ih _ _ h)
      · refine V_aload (i := 5) dX4_unload_61 rfl ?_
        refine V_getfield dX4_unload_63 (wr_pc g6) fl_X4_149 rfl ?_
        refine V_iload_n (i := 2) dX4_unload_66 rfl rfl ?_
        refine D_icmp_eq (tgt := 73) h dX4_unload_67 rfl (fun b8 h => ?_) (fun b8 h => ?_)
        · refine V_aload_n (i := 0) dX4_unload_73 rfl rfl ?_
          refine V_dup dX4_unload_74 rfl ?_
          refine V_getfield dX4_unload_75 wr_o fl_X4_77 rfl ?_
          refine V_iconst (v := 1) dX4_unload_78 (by decide) ?_
          refine V_iadd dX4_unload_79 ?_
          refine D_pf_X4_11 h dX4_unload_80 (fp_X4_77 rfl) fun S9 h => ?_
          refine V_aload (i := 5) dX4_unload_83 rfl ?_
          refine V_getfield dX4_unload_85 (wr_pc g6) fl_X4_136 rfl ?_
          refine V_iload_n (i := 2) dX4_unload_88 rfl rfl ?_
          refine D_icmp_ne (tgt := 104) h dX4_unload_89 rfl (fun b10 h => ?_) (fun b10 h => ?_)
          · refine V_aload (i := 5) dX4_unload_104 rfl ?_
            refine V_iload_n (i := 2) dX4_unload_106 rfl rfl ?_
            refine V_iload_n (i := 3) dX4_unload_107 rfl rfl ?_
            refine D_cVU (As := [_, _]) (μ := fun S11 => (wr p S11 M)) h dX4_unload_108 cv_X4_250 rfl ⟨_, _, _, (wr_pc g6), rfl, rfl⟩ rfl (Nat.le_of_ble_eq_true rfl) (fun y hx => e_X2_transferTo (Nat.le_trans (Nat.le_of_ble_eq_true rfl) hf) g6 hx) fun S11 h => ?_
            refine D_iinc (i := 4) (w := 1) dX4_unload_111 rfl (by decide) (Nat.le_of_ble_eq_true rfl) ?_
            refine V_goto (tgt := 31) dX4_unload_114 rfl ?_
            exact V_sub (ks := [2, 3, 4, 5, 0]) rfl (ih _ _ h)
          · refine V_aload (i := 5) dX4_unload_92 rfl ?_
            refine V_aload_n (i := 0) dX4_unload_94 rfl rfl ?_
            refine V_getfield dX4_unload_95 wr_o fl_X4_71 rfl ?_
            refine D_cVU (As := [_]) (μ := fun S12 => (wr p S12 M)) h dX4_unload_98 cv_X4_247 rfl ⟨_, _, _, (wr_pc g6), rfl, rfl⟩ rfl (Nat.le_of_ble_eq_true rfl) (fun y hx => e_X2_deliver (Nat.le_trans (Nat.le_of_ble_eq_true rfl) hf) g6 hx) fun S12 h => ?_
            refine V_goto (tgt := 111) dX4_unload_101 rfl ?_
            refine D_iinc (i := 4) (w := 1) dX4_unload_111 rfl (by decide) (Nat.le_of_ble_eq_true rfl) ?_
            refine V_goto (tgt := 31) dX4_unload_114 rfl ?_
            exact V_sub (ks := [2, 3, 4, 5, 0]) rfl (ih _ _ h)
        · refine V_goto (tgt := 111) dX4_unload_70 rfl ?_
          refine D_iinc (i := 4) (w := 1) dX4_unload_111 rfl (by decide) (Nat.le_of_ble_eq_true rfl) ?_
          refine V_goto (tgt := 31) dX4_unload_114 rfl ?_
          exact V_sub (ks := [2, 3, 4, 5, 0]) rfl (ih _ _ h)
noncomputable def f_X4_unload (S : Nat → Int32) (i1 : Nat) (a2 : Int32) : Option (Nat → Int32) :=
  if a2 < 0 then some S else if a2 < (S 1) then gd (inr a2 8) (bnd ((S 0) + (S (7 + 4 * ix a2 + 2))) (fun v4 => l_X4_unload_31 i1 a2 v4 FU S (0 : Int32))) else some S
theorem e_X4_unload {G : GT} {f0 : Nat} {p : Nat} {M : MM} {hi k n : Nat} {S : Nat → Int32} {i1 : Nat} {a2 : Int32} {r : (Nat → Int32)} (hf0 : 2 ≤ f0) (t1 : i1 < 4) (h : f_X4_unload S i1 a2 = some r) : Ex G f0 mX4_unload [.ref (p), .ref (p + 26 + 2 * i1), .int a2] (wr p S M) hi k n (RH (.inl none) (wr p r M) hi) := by
  obtain ⟨f, rfl, hf⟩ := suc_of hf0
  unfold f_X4_unload at h
  refine ⟨Nat.le_of_ble_eq_true rfl, ?_⟩
  refine V_iload_n (i := 2) dX4_unload_0 rfl rfl ?_
  refine D_if_lt (tgt := 12) h dX4_unload_1 rfl (fun b1 h => ?_) (fun b1 h => ?_)
  · obtain rfl := Option.some.inj h
    exact V_return dX4_unload_12 rfl ⟨rfl, rfl, rfl⟩
  · refine V_iload_n (i := 2) dX4_unload_4 rfl rfl ?_
    refine V_aload_n (i := 0) dX4_unload_5 rfl rfl ?_
    refine V_getfield dX4_unload_6 wr_o fl_X4_58 rfl ?_
    refine D_icmp_lt (tgt := 13) h dX4_unload_9 rfl (fun b2 h => ?_) (fun b2 h => ?_)
    · refine V_aload_n (i := 0) dX4_unload_13 rfl rfl ?_
      refine V_getfield dX4_unload_14 wr_o fl_X4_71 rfl ?_
      refine V_aload_n (i := 0) dX4_unload_17 rfl rfl ?_
      refine V_getfield dX4_unload_18 wr_o fl_X4_11 rfl ?_
      refine V_iload_n (i := 2) dX4_unload_21 rfl rfl ?_
      refine D_aldSt h rfl dX4_unload_22 fun g3 h => ?_
      refine V_getfield dX4_unload_23 (wr_st g3) fl_X4_90 rfl ?_
      refine V_iadd dX4_unload_26 ?_
      refine D_istore_n (i := 3) h dX4_unload_27 rfl (Nat.le_of_ble_eq_true rfl) fun v4 h => ?_
      refine V_iconst (v := 0) dX4_unload_28 (by decide) ?_
      refine V_istore (i := 4) dX4_unload_29 (Nat.le_of_ble_eq_true rfl) ?_
      refine V_sub (ks := [2, 3, 4, 1, 0]) rfl (lv_X4_unload_31 hf t1 FU _ _ h)
    · obtain rfl := Option.some.inj h
      exact V_return dX4_unload_12 rfl ⟨rfl, rfl, rfl⟩
noncomputable def f_X7_connects (S : Nat → Int32) (i0 : Nat) (a1 : Int32) (a2 : Int32) : Option Int32 :=
  jn (if (S (39 + 4 * i0)) = a2 then if (S (39 + 4 * i0 + 1)) = a1 then some (1 : Int32) else some (0 : Int32) else some (0 : Int32)) (fun j1 => if (S (39 + 4 * i0)) = a1 then if (S (39 + 4 * i0 + 1)) = a2 then some (1 : Int32) else j1 else j1)
theorem e_X7_connects {G : GT} {f0 : Nat} {p : Nat} {M : MM} {hi k n : Nat} {S : Nat → Int32} {i0 : Nat} {a1 : Int32} {a2 : Int32} {r : Int32} (hf0 : 1 ≤ f0) (t0 : i0 < 12) (h : f_X7_connects S i0 a1 a2 = some r) : Ex G f0 mX7_connects [.ref (p + 14 + i0), .int a1, .int a2] (wr p S M) hi k n (RH (.inl (some (.int r))) (wr p S M) hi) := by
  obtain ⟨f, rfl, hf⟩ := suc_of hf0
  unfold f_X7_connects at h
  refine ⟨Nat.le_of_ble_eq_true rfl, ?_⟩
  refine V_aload_n (i := 0) dX7_connects_0 rfl rfl ?_
  refine V_getfield dX7_connects_1 (wr_tk t0) fl_X7_7 rfl ?_
  refine V_iload_n (i := 1) dX7_connects_4 rfl rfl ?_
  refine D_jn (fun (j : Option Int32) =>  j = some r → V G f (Ex G f) mX7_connects (RH (.inl (some (.int r))) (wr p S M) hi) 16 [(0, .ref (p + 14 + i0)), (1, .int a1), (2, .int a2)] [] (wr p S M) hi k n) h (fun j1 hj1 h => ?_) ?_
  · refine D_icmp_ne (tgt := 16) h dX7_connects_5 rfl (fun b2 h => ?_) (fun b2 h => ?_)
    · exact V_sub (ks := [0, 1, 2]) rfl (hj1 h)
    · refine V_aload_n (i := 0) dX7_connects_8 rfl rfl ?_
      refine V_getfield dX7_connects_9 (wr_tk t0) fl_X7_13 rfl ?_
      refine V_iload_n (i := 2) dX7_connects_12 rfl rfl ?_
      refine D_icmp_eq (tgt := 32) h dX7_connects_13 rfl (fun b3 h => ?_) (fun b3 h => ?_)
      · refine V_iconst (v := 1) dX7_connects_32 (by decide) ?_
        refine V_goto (tgt := 37) dX7_connects_33 rfl ?_
        obtain rfl := Option.some.inj h
        exact V_ireturn dX7_connects_37 ⟨_, rfl, rfl⟩ ⟨rfl, rfl, rfl⟩
      · exact V_sub (ks := [0, 1, 2]) rfl (hj1 h)
  · intro  h
    refine V_aload_n (i := 0) dX7_connects_16 rfl rfl ?_
    refine V_getfield dX7_connects_17 (wr_tk t0) fl_X7_7 rfl ?_
    refine V_iload_n (i := 2) dX7_connects_20 rfl rfl ?_
    refine D_icmp_ne (tgt := 36) h dX7_connects_21 rfl (fun b4 h => ?_) (fun b4 h => ?_)
    · refine V_iconst (v := 0) dX7_connects_36 (by decide) ?_
      obtain rfl := Option.some.inj h
      exact V_ireturn dX7_connects_37 ⟨_, rfl, rfl⟩ ⟨rfl, rfl, rfl⟩
    · refine V_aload_n (i := 0) dX7_connects_24 rfl rfl ?_
      refine V_getfield dX7_connects_25 (wr_tk t0) fl_X7_13 rfl ?_
      refine V_iload_n (i := 1) dX7_connects_28 rfl rfl ?_
      refine D_icmp_ne (tgt := 36) h dX7_connects_29 rfl (fun b5 h => ?_) (fun b5 h => ?_)
      · refine V_iconst (v := 0) dX7_connects_36 (by decide) ?_
        obtain rfl := Option.some.inj h
        exact V_ireturn dX7_connects_37 ⟨_, rfl, rfl⟩ ⟨rfl, rfl, rfl⟩
      · refine V_iconst (v := 1) dX7_connects_32 (by decide) ?_
        refine V_goto (tgt := 37) dX7_connects_33 rfl ?_
        obtain rfl := Option.some.inj h
        exact V_ireturn dX7_connects_37 ⟨_, rfl, rfl⟩ ⟨rfl, rfl, rfl⟩
noncomputable def l_X4_findTrack_2 (S : Nat → Int32) (c1 : Int32) (c2 : Int32) : Nat → Int32 → Option Int32
  | 0, _ => none
  | N + 1, x3 => if (S 2) ≤ x3 then some (-1 : Int32) else gd (inr x3 12) (bdc (f_X7_connects S (ix x3) c1 c2) (fun v3 => if v3 = 0 then l_X4_findTrack_2 S c1 c2 N (x3 + (1 : Int32)) else some x3))
theorem lv_X4_findTrack_2 {G : GT} {f : Nat} {p : Nat} {M : MM} {hi k n : Nat} {S : Nat → Int32} {c1 : Int32} {c2 : Int32} {r : Int32} (hf : 1 ≤ f) : ∀ (N : Nat) (x3 : Int32) , l_X4_findTrack_2 S c1 c2 N x3 = some r → V G f (Ex G f) mX4_findTrack (RH (.inl (some (.int r))) (wr p S M) hi) 2 [(0, .ref (p)), (1, .int c1), (2, .int c2), (3, .int x3)] [] (wr p S M) hi k n := by
  intro N
  induction N with
  | zero => intro x3 h; cases h
  | succ N ih =>
    intro x3 h
    rw [l_X4_findTrack_2] at h
    refine V_iload_n (i := 3) dX4_findTrack_2 rfl rfl ?_
    refine V_aload_n (i := 0) dX4_findTrack_3 rfl rfl ?_
    refine V_getfield dX4_findTrack_4 wr_o fl_X4_62 rfl ?_
    refine D_icmp_ge (tgt := 32) h dX4_findTrack_7 rfl (fun b1 h => ?_) (fun b1 h => ?_)
    · refine V_iconst (v := -1) dX4_findTrack_32 (by decide) ?_
      obtain rfl := Option.some.inj h
      exact V_ireturn dX4_findTrack_33 ⟨_, rfl, rfl⟩ ⟨rfl, rfl, rfl⟩
    · refine V_aload_n (i := 0) dX4_findTrack_10 rfl rfl ?_
      refine V_getfield dX4_findTrack_11 wr_o fl_X4_19 rfl ?_
      refine V_iload_n (i := 3) dX4_findTrack_14 rfl rfl ?_
      refine D_aldTk h rfl dX4_findTrack_15 fun g2 h => ?_
      refine V_iload_n (i := 1) dX4_findTrack_16 rfl rfl ?_
      refine V_iload_n (i := 2) dX4_findTrack_17 rfl rfl ?_
      refine D_cVI (As := [_, _]) h dX4_findTrack_18 cv_X4_158 rfl ⟨_, _, _, (wr_tk g2), rfl, rfl⟩ rfl (Nat.le_of_ble_eq_true rfl) (fun x hx => e_X7_connects (Nat.le_trans (Nat.le_of_ble_eq_true rfl) hf) g2 hx) fun v3 h => ?_
      refine D_if_eq (tgt := 26) h dX4_findTrack_21 rfl (fun b4 h => ?_) (fun b4 h => ?_)
      · refine D_iinc (i := 3) (w := 1) dX4_findTrack_26 rfl (by decide) (Nat.le_of_ble_eq_true rfl) ?_
        refine V_goto (tgt := 2) dX4_findTrack_29 rfl ?_
        exact V_sub (ks := [1, 2, 3, 0]) rfl (ih _ h)
      · refine V_iload_n (i := 3) dX4_findTrack_24 rfl rfl ?_
        obtain rfl := Option.some.inj h
        exact V_ireturn dX4_findTrack_25 ⟨_, rfl, rfl⟩ ⟨rfl, rfl, rfl⟩
noncomputable def f_X4_findTrack (S : Nat → Int32) (a1 : Int32) (a2 : Int32) : Option Int32 :=
  l_X4_findTrack_2 S a1 a2 FU (0 : Int32)
theorem e_X4_findTrack {G : GT} {f0 : Nat} {p : Nat} {M : MM} {hi k n : Nat} {S : Nat → Int32} {a1 : Int32} {a2 : Int32} {r : Int32} (hf0 : 2 ≤ f0) (h : f_X4_findTrack S a1 a2 = some r) : Ex G f0 mX4_findTrack [.ref (p), .int a1, .int a2] (wr p S M) hi k n (RH (.inl (some (.int r))) (wr p S M) hi) := by
  obtain ⟨f, rfl, hf⟩ := suc_of hf0
  unfold f_X4_findTrack at h
  refine ⟨Nat.le_of_ble_eq_true rfl, ?_⟩
  refine V_iconst (v := 0) dX4_findTrack_0 (by decide) ?_
  refine V_istore_n (i := 3) dX4_findTrack_1 rfl (Nat.le_of_ble_eq_true rfl) ?_
  refine V_sub (ks := [1, 2, 3, 0]) rfl (lv_X4_findTrack_2 hf FU _ h)
noncomputable def f_X4_depart (S : Nat → Int32) (i1 : Nat) : Option (Nat → Int32) :=
  bdc (f_X8_stationAhead S i1 (0 : Int32)) (fun v1 => bdc (f_X8_stationAhead S i1 (1 : Int32)) (fun v2 => bdc (f_X4_findTrack S v1 v2) (fun v3 => if v3 = (-1 : Int32) then bnd (upd S (87 + 14 * i1 + 11) ((S (87 + 14 * i1 + 11)) + (1 : Int32))) (fun S5 => some S5) else gd (inr v3 12) (if (S (39 + 4 * ix v3 + 3)) = 0 then bnd (upd S (87 + 14 * i1 + 11) ((S (87 + 14 * i1 + 11)) + (1 : Int32))) (fun S8 => some S8) else gd (inr v3 12) (bnd (upd S (87 + 14 * i1 + 10) (S (39 + 4 * ix v3 + 2))) (fun S10 => some S10))))))
theorem e_X4_depart {G : GT} {f0 : Nat} {p : Nat} {M : MM} {hi k n : Nat} {S : Nat → Int32} {i1 : Nat} {r : (Nat → Int32)} (hf0 : 3 ≤ f0) (t1 : i1 < 4) (h : f_X4_depart S i1 = some r) : Ex G f0 mX4_depart [.ref (p), .ref (p + 26 + 2 * i1)] (wr p S M) hi k n (RH (.inl none) (wr p r M) hi) := by
  obtain ⟨f, rfl, hf⟩ := suc_of hf0
  unfold f_X4_depart at h
  refine ⟨Nat.le_of_ble_eq_true rfl, ?_⟩
  refine V_aload_n (i := 0) dX4_depart_0 rfl rfl ?_
  refine V_aload_n (i := 1) dX4_depart_1 rfl rfl ?_
  refine V_iconst (v := 0) dX4_depart_2 (by decide) ?_
  refine D_cVI (As := [_]) h dX4_depart_3 cv_X4_186 rfl ⟨_, _, _, (wr_tr t1), rfl, rfl⟩ rfl (Nat.le_of_ble_eq_true rfl) (fun x hx => e_X8_stationAhead (Nat.le_trans (Nat.le_of_ble_eq_true rfl) hf) t1 hx) fun v1 h => ?_
  refine V_aload_n (i := 1) dX4_depart_6 rfl rfl ?_
  refine V_iconst (v := 1) dX4_depart_7 (by decide) ?_
  refine D_cVI (As := [_]) h dX4_depart_8 cv_X4_186 rfl ⟨_, _, _, (wr_tr t1), rfl, rfl⟩ rfl (Nat.le_of_ble_eq_true rfl) (fun x hx => e_X8_stationAhead (Nat.le_trans (Nat.le_of_ble_eq_true rfl) hf) t1 hx) fun v2 h => ?_
  refine D_cVI (As := [_, _]) h dX4_depart_11 cv_X4_230 rfl ⟨_, _, _, wr_o, rfl, rfl⟩ rfl (Nat.le_of_ble_eq_true rfl) (fun x hx => e_X4_findTrack (Nat.le_trans (Nat.le_of_ble_eq_true rfl) hf) hx) fun v3 h => ?_
  refine V_istore_n (i := 2) dX4_depart_14 rfl (Nat.le_of_ble_eq_true rfl) ?_
  refine V_iload_n (i := 2) dX4_depart_15 rfl rfl ?_
  refine V_iconst (v := -1) dX4_depart_16 (by decide) ?_
  refine D_icmp_eq (tgt := 48) h dX4_depart_17 rfl (fun b4 h => ?_) (fun b4 h => ?_)
  · refine V_aload_n (i := 1) dX4_depart_48 rfl rfl ?_
    refine V_dup dX4_depart_49 rfl ?_
    refine V_getfield dX4_depart_50 (wr_tr t1) fl_X4_126 rfl ?_
    refine V_iconst (v := 1) dX4_depart_53 (by decide) ?_
    refine V_iadd dX4_depart_54 ?_
    refine D_pf_X8_7 h dX4_depart_55 (fp_X4_126 rfl) t1 fun S5 h => ?_
    obtain rfl := Option.some.inj h
    exact V_return dX4_depart_58 rfl ⟨rfl, rfl, rfl⟩
  · refine V_aload_n (i := 0) dX4_depart_20 rfl rfl ?_
    refine V_getfield dX4_depart_21 wr_o fl_X4_19 rfl ?_
    refine V_iload_n (i := 2) dX4_depart_24 rfl rfl ?_
    refine D_aldTk h rfl dX4_depart_25 fun g6 h => ?_
    refine V_getfield dX4_depart_26 (wr_tk g6) fl_X4_105 rfl ?_
    refine D_if_eq (tgt := 48) h dX4_depart_29 rfl (fun b7 h => ?_) (fun b7 h => ?_)
    · refine V_aload_n (i := 1) dX4_depart_48 rfl rfl ?_
      refine V_dup dX4_depart_49 rfl ?_
      refine V_getfield dX4_depart_50 (wr_tr t1) fl_X4_126 rfl ?_
      refine V_iconst (v := 1) dX4_depart_53 (by decide) ?_
      refine V_iadd dX4_depart_54 ?_
      refine D_pf_X8_7 h dX4_depart_55 (fp_X4_126 rfl) t1 fun S8 h => ?_
      obtain rfl := Option.some.inj h
      exact V_return dX4_depart_58 rfl ⟨rfl, rfl, rfl⟩
    · refine V_aload_n (i := 1) dX4_depart_32 rfl rfl ?_
      refine V_aload_n (i := 0) dX4_depart_33 rfl rfl ?_
      refine V_getfield dX4_depart_34 wr_o fl_X4_19 rfl ?_
      refine V_iload_n (i := 2) dX4_depart_37 rfl rfl ?_
      refine D_aldTk h rfl dX4_depart_38 fun g9 h => ?_
      refine V_getfield dX4_depart_39 (wr_tk g9) fl_X4_102 rfl ?_
      refine D_pf_X8_6 h dX4_depart_42 (fp_X4_123 rfl) t1 fun S10 h => ?_
      refine V_goto (tgt := 58) dX4_depart_45 rfl ?_
      obtain rfl := Option.some.inj h
      exact V_return dX4_depart_58 rfl ⟨rfl, rfl, rfl⟩
noncomputable def f_X4_arrive (S : Nat → Int32) (i1 : Nat) : Option (Nat → Int32) :=
  bdc (f_X8_reachNextStop S i1) (fun S1 => bdc (f_X8_stationAhead S1 i1 (0 : Int32)) (fun v2 => if v2 < 0 then some S1 else if v2 < (S1 1) then bdc (f_X8_isAtEnd S1 i1) (fun v5 => jn (bnd (upd S1 (87 + 14 * i1 + 12) ((S1 (87 + 14 * i1 + 12)) + (1 : Int32))) (fun S17 => gd (inr v2 8) (bnd (upd S17 (7 + 4 * ix v2 + 3) (S17 0)) (fun S19 => bdc (f_X4_unload S19 i1 v2) (fun S20 => some S20))))) (fun j6 => if v5 = 0 then gd (inr v2 8) (if (S1 (7 + 4 * ix v2 + 1)) = 0 then j6 else bdc (f_X4_isDropOf S1 i1 v2) (fun v10 => if v10 = 0 then bdc (f_X4_findNextToLoad S1 i1) (fun v12 => opc v12 (bnd (upd S1 (87 + 14 * i1 + 13) ((S1 (87 + 14 * i1 + 13)) + (1 : Int32))) (fun S15 => bdc (f_X4_depart S15 i1) (fun S16 => some S16))) (fun w13 => gd (Nat.blt w13 12) (j6))) else j6)) else j6)) else some S1))
theorem e_X4_arrive {G : GT} {f0 : Nat} {p : Nat} {M : MM} {hi k n : Nat} {S : Nat → Int32} {i1 : Nat} {r : (Nat → Int32)} (hf0 : 4 ≤ f0) (t1 : i1 < 4) (h : f_X4_arrive S i1 = some r) : Ex G f0 mX4_arrive [.ref (p), .ref (p + 26 + 2 * i1)] (wr p S M) hi k n (RH (.inl none) (wr p r M) hi) := by
  obtain ⟨f, rfl, hf⟩ := suc_of hf0
  unfold f_X4_arrive at h
  refine ⟨Nat.le_of_ble_eq_true rfl, ?_⟩
  refine V_aload_n (i := 1) dX4_arrive_0 rfl rfl ?_
  refine D_cVU (As := []) (μ := fun S1 => (wr p S1 M)) h dX4_arrive_1 cv_X4_233 rfl ⟨_, _, _, (wr_tr t1), rfl, rfl⟩ rfl (Nat.le_of_ble_eq_true rfl) (fun y hx => e_X8_reachNextStop (Nat.le_trans (Nat.le_of_ble_eq_true rfl) hf) t1 hx) fun S1 h => ?_
  refine V_aload_n (i := 1) dX4_arrive_4 rfl rfl ?_
  refine V_iconst (v := 0) dX4_arrive_5 (by decide) ?_
  refine D_cVI (As := [_]) h dX4_arrive_6 cv_X4_186 rfl ⟨_, _, _, (wr_tr t1), rfl, rfl⟩ rfl (Nat.le_of_ble_eq_true rfl) (fun x hx => e_X8_stationAhead (Nat.le_trans (Nat.le_of_ble_eq_true rfl) hf) t1 hx) fun v2 h => ?_
  refine V_istore_n (i := 2) dX4_arrive_9 rfl (Nat.le_of_ble_eq_true rfl) ?_
  refine V_iload_n (i := 2) dX4_arrive_10 rfl rfl ?_
  refine D_if_lt (tgt := 22) h dX4_arrive_11 rfl (fun b3 h => ?_) (fun b3 h => ?_)
  · obtain rfl := Option.some.inj h
    exact V_return dX4_arrive_22 rfl ⟨rfl, rfl, rfl⟩
  · refine V_iload_n (i := 2) dX4_arrive_14 rfl rfl ?_
    refine V_aload_n (i := 0) dX4_arrive_15 rfl rfl ?_
    refine V_getfield dX4_arrive_16 wr_o fl_X4_58 rfl ?_
    refine D_icmp_lt (tgt := 23) h dX4_arrive_19 rfl (fun b4 h => ?_) (fun b4 h => ?_)
    · refine V_aload_n (i := 1) dX4_arrive_23 rfl rfl ?_
      refine D_cVI (As := []) h dX4_arrive_24 cv_X4_236 rfl ⟨_, _, _, (wr_tr t1), rfl, rfl⟩ rfl (Nat.le_of_ble_eq_true rfl) (fun x hx => e_X8_isAtEnd (Nat.le_trans (Nat.le_of_ble_eq_true rfl) hf) t1 hx) fun v5 h => ?_
      refine D_jn (fun (j : Option (Nat → Int32)) =>  j = some r → V G f (Ex G f) mX4_arrive (RH (.inl none) (wr p r M) hi) 59 [(0, .ref (p)), (1, .ref (p + 26 + 2 * i1)), (2, .int v2)] [] (wr p S1 M) hi k n) h (fun j6 hj6 h => ?_) ?_
      · refine D_if_ne (tgt := 59) h dX4_arrive_27 rfl (fun b7 h => ?_) (fun b7 h => ?_)
        · exact V_sub (ks := [1, 2, 0]) rfl (hj6 h)
        · refine V_aload_n (i := 0) dX4_arrive_30 rfl rfl ?_
          refine V_getfield dX4_arrive_31 wr_o fl_X4_11 rfl ?_
          refine V_iload_n (i := 2) dX4_arrive_34 rfl rfl ?_
          refine D_aldSt h rfl dX4_arrive_35 fun g8 h => ?_
          refine V_getfield dX4_arrive_36 (wr_st g8) fl_X4_86 rfl ?_
          refine D_if_eq (tgt := 59) h dX4_arrive_39 rfl (fun b9 h => ?_) (fun b9 h => ?_)
          · exact V_sub (ks := [1, 2, 0]) rfl (hj6 h)
          · refine V_aload_n (i := 0) dX4_arrive_42 rfl rfl ?_
            refine V_aload_n (i := 1) dX4_arrive_43 rfl rfl ?_
            refine V_iload_n (i := 2) dX4_arrive_44 rfl rfl ?_
            refine D_cVI (As := [_, _]) h dX4_arrive_45 cv_X4_239 rfl ⟨_, _, _, wr_o, rfl, rfl⟩ rfl (Nat.le_of_ble_eq_true rfl) (fun x hx => e_X4_isDropOf (Nat.le_trans (Nat.le_of_ble_eq_true rfl) hf) t1 hx) fun v10 h => ?_
            refine D_if_ne (tgt := 59) h dX4_arrive_48 rfl (fun b11 h => ?_) (fun b11 h => ?_)
            · exact V_sub (ks := [1, 2, 0]) rfl (hj6 h)
            · refine V_aload_n (i := 0) dX4_arrive_51 rfl rfl ?_
              refine V_aload_n (i := 1) dX4_arrive_52 rfl rfl ?_
              refine D_cVP (q := p + 34) (As := [_]) h dX4_arrive_53 cv_X4_222 rfl ⟨_, _, _, wr_o, rfl, rfl⟩ rfl (Nat.le_of_ble_eq_true rfl) (fun x hx => e_X4_findNextToLoad (Nat.le_trans (Nat.le_of_ble_eq_true rfl) hf) t1 hx) fun v12 h => ?_
              cases v12 with
              | none =>
                replace h := opc_n h
                refine V_ifnullN (tgt := 91) dX4_arrive_56 rfl ?_
                refine V_aload_n (i := 1) dX4_arrive_91 rfl rfl ?_
                refine V_dup dX4_arrive_92 rfl ?_
                refine V_getfield dX4_arrive_93 (wr_tr t1) fl_X4_132 rfl ?_
                refine V_iconst (v := 1) dX4_arrive_96 (by decide) ?_
                refine V_iadd dX4_arrive_97 ?_
                refine D_pf_X8_9 h dX4_arrive_98 (fp_X4_132 rfl) t1 fun S15 h => ?_
                refine V_aload_n (i := 0) dX4_arrive_101 rfl rfl ?_
                refine V_aload_n (i := 1) dX4_arrive_102 rfl rfl ?_
                refine D_cVU (As := [_]) (μ := fun S16 => (wr p S16 M)) h dX4_arrive_103 cv_X4_216 rfl ⟨_, _, _, wr_o, rfl, rfl⟩ rfl (Nat.le_of_ble_eq_true rfl) (fun y hx => e_X4_depart (Nat.le_trans (Nat.le_of_ble_eq_true rfl) hf) t1 hx) fun S16 h => ?_
                obtain rfl := Option.some.inj h
                exact V_return dX4_arrive_106 rfl ⟨rfl, rfl, rfl⟩
              | some w13 =>
                replace h := opc_s h
                refine D_gd h fun g14 h => ?_
                refine V_ifnull dX4_arrive_56 ?_
                exact V_sub (ks := [1, 2, 0]) rfl (hj6 h)
      · intro  h
        refine V_aload_n (i := 1) dX4_arrive_59 rfl rfl ?_
        refine V_dup dX4_arrive_60 rfl ?_
        refine V_getfield dX4_arrive_61 (wr_tr t1) fl_X4_129 rfl ?_
        refine V_iconst (v := 1) dX4_arrive_64 (by decide) ?_
        refine V_iadd dX4_arrive_65 ?_
        refine D_pf_X8_8 h dX4_arrive_66 (fp_X4_129 rfl) t1 fun S17 h => ?_
        refine V_aload_n (i := 0) dX4_arrive_69 rfl rfl ?_
        refine V_getfield dX4_arrive_70 wr_o fl_X4_11 rfl ?_
        refine V_iload_n (i := 2) dX4_arrive_73 rfl rfl ?_
        refine D_aldSt h rfl dX4_arrive_74 fun g18 h => ?_
        refine V_aload_n (i := 0) dX4_arrive_75 rfl rfl ?_
        refine V_getfield dX4_arrive_76 wr_o fl_X4_71 rfl ?_
        refine D_pf_X5_3 h dX4_arrive_79 (fp_X4_93 rfl) g18 fun S19 h => ?_
        refine V_aload_n (i := 0) dX4_arrive_82 rfl rfl ?_
        refine V_aload_n (i := 1) dX4_arrive_83 rfl rfl ?_
        refine V_iload_n (i := 2) dX4_arrive_84 rfl rfl ?_
        refine D_cVU (As := [_, _]) (μ := fun S20 => (wr p S20 M)) h dX4_arrive_85 cv_X4_243 rfl ⟨_, _, _, wr_o, rfl, rfl⟩ rfl (Nat.le_of_ble_eq_true rfl) (fun y hx => e_X4_unload (Nat.le_trans (Nat.le_of_ble_eq_true rfl) hf) t1 hx) fun S20 h => ?_
        refine V_goto (tgt := 106) dX4_arrive_88 rfl ?_
        obtain rfl := Option.some.inj h
        exact V_return dX4_arrive_106 rfl ⟨rfl, rfl, rfl⟩
    · obtain rfl := Option.some.inj h
      exact V_return dX4_arrive_22 rfl ⟨rfl, rfl, rfl⟩
noncomputable def f_X4_shorten (S : Nat → Int32) (a1 : Int32) (a2 : Int32) (a3 : Int32) : Option (Nat → Int32) :=
  bnd ((a1 * (8 : Int32)) + a2) (fun v1 => if v1 < 0 then some S else if (64 : Int32) ≤ v1 then some S else gd (inr v1 64) (if (S (251 + ix v1)) ≤ a3 then some S else gd (inr v1 64) (bnd (upd S (251 + ix v1) a3) (fun S5 => some S5))))
theorem e_X4_shorten {G : GT} {f0 : Nat} {p : Nat} {M : MM} {hi k n : Nat} {S : Nat → Int32} {a1 : Int32} {a2 : Int32} {a3 : Int32} {r : (Nat → Int32)} (hf0 : 1 ≤ f0) (h : f_X4_shorten S a1 a2 a3 = some r) : Ex G f0 mX4_shorten [.ref (p), .int a1, .int a2, .int a3] (wr p S M) hi k n (RH (.inl none) (wr p r M) hi) := by
  obtain ⟨f, rfl, hf⟩ := suc_of hf0
  unfold f_X4_shorten at h
  refine ⟨Nat.le_of_ble_eq_true rfl, ?_⟩
  refine V_iload_n (i := 1) dX4_shorten_0 rfl rfl ?_
  refine V_bipush (v := 8) dX4_shorten_1 (by decide) ?_
  refine V_imul dX4_shorten_3 ?_
  refine V_iload_n (i := 2) dX4_shorten_4 rfl rfl ?_
  refine V_iadd dX4_shorten_5 ?_
  refine D_istore (i := 4) h dX4_shorten_6 (Nat.le_of_ble_eq_true rfl) fun v1 h => ?_
  refine V_iload (i := 4) dX4_shorten_8 rfl ?_
  refine D_if_lt (tgt := 42) h dX4_shorten_10 rfl (fun b2 h => ?_) (fun b2 h => ?_)
  · obtain rfl := Option.some.inj h
    exact V_return dX4_shorten_42 rfl ⟨rfl, rfl, rfl⟩
  · refine V_iload (i := 4) dX4_shorten_13 rfl ?_
    refine V_aload_n (i := 0) dX4_shorten_15 rfl rfl ?_
    refine V_getfield dX4_shorten_16 wr_o fl_X4_35 rfl ?_
    refine V_alen (t := 1) (v := 64) dX4_shorten_19 wr_a5 (by decide) rfl ?_
    refine D_icmp_ge (tgt := 42) h dX4_shorten_20 rfl (fun b3 h => ?_) (fun b3 h => ?_)
    · obtain rfl := Option.some.inj h
      exact V_return dX4_shorten_42 rfl ⟨rfl, rfl, rfl⟩
    · refine V_iload_n (i := 3) dX4_shorten_23 rfl rfl ?_
      refine V_aload_n (i := 0) dX4_shorten_24 rfl rfl ?_
      refine V_getfield dX4_shorten_25 wr_o fl_X4_35 rfl ?_
      refine V_iload (i := 4) dX4_shorten_28 rfl ?_
      refine D_ildD h rfl dX4_shorten_30 fun h => ?_
      refine D_icmp_ge (tgt := 42) h dX4_shorten_31 rfl (fun b4 h => ?_) (fun b4 h => ?_)
      · obtain rfl := Option.some.inj h
        exact V_return dX4_shorten_42 rfl ⟨rfl, rfl, rfl⟩
      · refine V_aload_n (i := 0) dX4_shorten_34 rfl rfl ?_
        refine V_getfield dX4_shorten_35 wr_o fl_X4_35 rfl ?_
        refine V_iload (i := 4) dX4_shorten_38 rfl ?_
        refine V_iload_n (i := 3) dX4_shorten_40 rfl rfl ?_
        refine D_istD h dX4_shorten_41 fun S5 h => ?_
        obtain rfl := Option.some.inj h
        exact V_return dX4_shorten_42 rfl ⟨rfl, rfl, rfl⟩
noncomputable def l_X4_measureDistances_10 (c1 : Int32) (K45 : (Nat → Int32) → Option (Nat → Int32)) : Nat → (Nat → Int32) → Int32 → Option (Nat → Int32)
  | 0, _, _ => none
  | N + 1, S, x2 => if (8 : Int32) ≤ x2 then K45 S else if c1 = x2 then gd (inr ((c1 * (8 : Int32)) + x2) 64) (bnd (upd S (251 + ix ((c1 * (8 : Int32)) + x2)) (0 : Int32)) (fun S5 => l_X4_measureDistances_10 c1 K45 N S5 (x2 + (1 : Int32)))) else gd (inr ((c1 * (8 : Int32)) + x2) 64) (bnd (upd S (251 + ix ((c1 * (8 : Int32)) + x2)) (1000 : Int32)) (fun S4 => l_X4_measureDistances_10 c1 K45 N S4 (x2 + (1 : Int32))))
theorem lv_X4_measureDistances_10 {G : GT} {f : Nat} {p : Nat} {M : MM} {hi k n : Nat} {c1 : Int32} {K45 : (Nat → Int32) → Option (Nat → Int32)} {r : (Nat → Int32)} (hf : 1 ≤ f) (hK45 : ∀ (Sk : Nat → Int32), K45 Sk = some r → V G f (Ex G f) mX4_measureDistances (RH (.inl none) (wr p r M) hi) 45 [(0, .ref (p)), (1, .int c1)] [] (wr p Sk M) hi k n) : ∀ (N : Nat) (S : Nat → Int32) (x2 : Int32) , l_X4_measureDistances_10 c1 K45 N S x2 = some r → V G f (Ex G f) mX4_measureDistances (RH (.inl none) (wr p r M) hi) 10 [(0, .ref (p)), (1, .int c1), (2, .int x2)] [] (wr p S M) hi k n := by
  intro N
  induction N with
  | zero => intro S x2 h; cases h
  | succ N ih =>
    intro S x2 h
    rw [l_X4_measureDistances_10] at h
    refine V_iload_n (i := 2) dX4_measureDistances_10 rfl rfl ?_
    refine V_bipush (v := 8) dX4_measureDistances_11 (by decide) ?_
    refine D_icmp_ge (tgt := 45) h dX4_measureDistances_13 rfl (fun b2 h => ?_) (fun b2 h => ?_)
    · exact V_sub (ks := [0, 1]) rfl (hK45 _ h)
    · refine V_aload_n (i := 0) dX4_measureDistances_16 rfl rfl ?_
      refine V_getfield dX4_measureDistances_17 wr_o fl_X4_35 rfl ?_
      refine V_iload_n (i := 1) dX4_measureDistances_20 rfl rfl ?_
      refine V_bipush (v := 8) dX4_measureDistances_21 (by decide) ?_
      refine V_imul dX4_measureDistances_23 ?_
      refine V_iload_n (i := 2) dX4_measureDistances_24 rfl rfl ?_
      refine V_iadd dX4_measureDistances_25 ?_
      refine V_iload_n (i := 1) dX4_measureDistances_26 rfl rfl ?_
      refine V_iload_n (i := 2) dX4_measureDistances_27 rfl rfl ?_
      refine D_icmp_ne (tgt := 35) h dX4_measureDistances_28 rfl (fun b3 h => ?_) (fun b3 h => ?_)
      · refine V_sipush (v := 1000) dX4_measureDistances_35 (by decide) ?_
        refine D_istD h dX4_measureDistances_38 fun S4 h => ?_
        refine D_iinc (i := 2) (w := 1) dX4_measureDistances_39 rfl (by decide) (Nat.le_of_ble_eq_true rfl) ?_
        refine V_goto (tgt := 10) dX4_measureDistances_42 rfl ?_
        exact V_sub (ks := [1, 2, 0]) rfl (ih _ _ h)
      · refine V_iconst (v := 0) dX4_measureDistances_31 (by decide) ?_
        refine V_goto (tgt := 38) dX4_measureDistances_32 rfl ?_
        refine D_istD h dX4_measureDistances_38 fun S5 h => ?_
        refine D_iinc (i := 2) (w := 1) dX4_measureDistances_39 rfl (by decide) (Nat.le_of_ble_eq_true rfl) ?_
        refine V_goto (tgt := 10) dX4_measureDistances_42 rfl ?_
        exact V_sub (ks := [1, 2, 0]) rfl (ih _ _ h)
noncomputable def l_X4_measureDistances_2 (K51 : (Nat → Int32) → Option (Nat → Int32)) : Nat → (Nat → Int32) → Int32 → Option (Nat → Int32)
  | 0, _, _ => none
  | N + 1, S, x1 => if (8 : Int32) ≤ x1 then K51 S else l_X4_measureDistances_10 x1 (fun (S6 : Nat → Int32) => l_X4_measureDistances_2 K51 N S6 (x1 + (1 : Int32))) FU S (0 : Int32)
theorem lv_X4_measureDistances_2 {G : GT} {f : Nat} {p : Nat} {M : MM} {hi k n : Nat} {K51 : (Nat → Int32) → Option (Nat → Int32)} {r : (Nat → Int32)} (hf : 1 ≤ f) (hK51 : ∀ (Sk : Nat → Int32), K51 Sk = some r → V G f (Ex G f) mX4_measureDistances (RH (.inl none) (wr p r M) hi) 51 [(0, .ref (p))] [] (wr p Sk M) hi k n) : ∀ (N : Nat) (S : Nat → Int32) (x1 : Int32) , l_X4_measureDistances_2 K51 N S x1 = some r → V G f (Ex G f) mX4_measureDistances (RH (.inl none) (wr p r M) hi) 2 [(0, .ref (p)), (1, .int x1)] [] (wr p S M) hi k n := by
  intro N
  induction N with
  | zero => intro S x1 h; cases h
  | succ N ih =>
    intro S x1 h
    rw [l_X4_measureDistances_2] at h
    refine V_iload_n (i := 1) dX4_measureDistances_2 rfl rfl ?_
    refine V_bipush (v := 8) dX4_measureDistances_3 (by decide) ?_
    refine D_icmp_ge (tgt := 51) h dX4_measureDistances_5 rfl (fun b1 h => ?_) (fun b1 h => ?_)
    · exact V_sub (ks := [0]) rfl (hK51 _ h)
    · refine V_iconst (v := 0) dX4_measureDistances_8 (by decide) ?_
      refine V_istore_n (i := 2) dX4_measureDistances_9 rfl (Nat.le_of_ble_eq_true rfl) ?_
      refine V_sub (ks := [1, 2, 0]) rfl (lv_X4_measureDistances_10 hf ?_ FU _ _ h)
      · intro S6 h
        refine D_iinc (i := 1) (w := 1) dX4_measureDistances_45 rfl (by decide) (Nat.le_of_ble_eq_true rfl) ?_
        refine V_goto (tgt := 2) dX4_measureDistances_48 rfl ?_
        exact V_sub (ks := [1, 0]) rfl (ih _ _ h)
noncomputable def l_X4_measureDistances_53 (K141 : (Nat → Int32) → Option (Nat → Int32)) : Nat → (Nat → Int32) → Int32 → Option (Nat → Int32)
  | 0, _, _ => none
  | N + 1, S, x1 => if (S 2) ≤ x1 then K141 S else gd (inr x1 12) (if (S (39 + 4 * ix x1 + 3)) = 0 then l_X4_measureDistances_53 K141 N S (x1 + (1 : Int32)) else gd (inr x1 12) (gd (inr x1 12) (gd (inr x1 12) (bdc (f_X4_shorten S (S (39 + 4 * ix x1)) (S (39 + 4 * ix x1 + 1)) (S (39 + 4 * ix x1 + 2))) (fun S14 => gd (inr x1 12) (gd (inr x1 12) (gd (inr x1 12) (bdc (f_X4_shorten S14 (S14 (39 + 4 * ix x1 + 1)) (S14 (39 + 4 * ix x1)) (S14 (39 + 4 * ix x1 + 2))) (fun S18 => l_X4_measureDistances_53 K141 N S18 (x1 + (1 : Int32)))))))))))
theorem lv_X4_measureDistances_53 {G : GT} {f : Nat} {p : Nat} {M : MM} {hi k n : Nat} {K141 : (Nat → Int32) → Option (Nat → Int32)} {r : (Nat → Int32)} (hf : 1 ≤ f) (hK141 : ∀ (Sk : Nat → Int32), K141 Sk = some r → V G f (Ex G f) mX4_measureDistances (RH (.inl none) (wr p r M) hi) 141 [(0, .ref (p))] [] (wr p Sk M) hi k n) : ∀ (N : Nat) (S : Nat → Int32) (x1 : Int32) , l_X4_measureDistances_53 K141 N S x1 = some r → V G f (Ex G f) mX4_measureDistances (RH (.inl none) (wr p r M) hi) 53 [(0, .ref (p)), (1, .int x1)] [] (wr p S M) hi k n := by
  intro N
  induction N with
  | zero => intro S x1 h; cases h
  | succ N ih =>
    intro S x1 h
    rw [l_X4_measureDistances_53] at h
    refine V_iload_n (i := 1) dX4_measureDistances_53 rfl rfl ?_
    refine V_aload_n (i := 0) dX4_measureDistances_54 rfl rfl ?_
    refine V_getfield dX4_measureDistances_55 wr_o fl_X4_62 rfl ?_
    refine D_icmp_ge (tgt := 141) h dX4_measureDistances_58 rfl (fun b8 h => ?_) (fun b8 h => ?_)
    · exact V_sub (ks := [0]) rfl (hK141 _ h)
    · refine V_aload_n (i := 0) dX4_measureDistances_61 rfl rfl ?_
      refine V_getfield dX4_measureDistances_62 wr_o fl_X4_19 rfl ?_
      refine V_iload_n (i := 1) dX4_measureDistances_65 rfl rfl ?_
      refine D_aldTk h rfl dX4_measureDistances_66 fun g9 h => ?_
      refine V_getfield dX4_measureDistances_67 (wr_tk g9) fl_X4_105 rfl ?_
      refine D_if_eq (tgt := 135) h dX4_measureDistances_70 rfl (fun b10 h => ?_) (fun b10 h => ?_)
      · refine D_iinc (i := 1) (w := 1) dX4_measureDistances_135 rfl (by decide) (Nat.le_of_ble_eq_true rfl) ?_
        refine V_goto (tgt := 53) dX4_measureDistances_138 rfl ?_
        exact V_sub (ks := [1, 0]) rfl (ih _ _ h)
      · refine V_aload_n (i := 0) dX4_measureDistances_73 rfl rfl ?_
        refine V_aload_n (i := 0) dX4_measureDistances_74 rfl rfl ?_
        refine V_getfield dX4_measureDistances_75 wr_o fl_X4_19 rfl ?_
        refine V_iload_n (i := 1) dX4_measureDistances_78 rfl rfl ?_
        refine D_aldTk h rfl dX4_measureDistances_79 fun g11 h => ?_
        refine V_getfield dX4_measureDistances_80 (wr_tk g11) fl_X4_96 rfl ?_
        refine V_aload_n (i := 0) dX4_measureDistances_83 rfl rfl ?_
        refine V_getfield dX4_measureDistances_84 wr_o fl_X4_19 rfl ?_
        refine V_iload_n (i := 1) dX4_measureDistances_87 rfl rfl ?_
        refine D_aldTk h rfl dX4_measureDistances_88 fun g12 h => ?_
        refine V_getfield dX4_measureDistances_89 (wr_tk g12) fl_X4_99 rfl ?_
        refine V_aload_n (i := 0) dX4_measureDistances_92 rfl rfl ?_
        refine V_getfield dX4_measureDistances_93 wr_o fl_X4_19 rfl ?_
        refine V_iload_n (i := 1) dX4_measureDistances_96 rfl rfl ?_
        refine D_aldTk h rfl dX4_measureDistances_97 fun g13 h => ?_
        refine V_getfield dX4_measureDistances_98 (wr_tk g13) fl_X4_102 rfl ?_
        refine D_cVU (As := [_, _, _]) (μ := fun S14 => (wr p S14 M)) h dX4_measureDistances_101 cv_X4_162 rfl ⟨_, _, _, wr_o, rfl, rfl⟩ rfl (Nat.le_of_ble_eq_true rfl) (fun y hx => e_X4_shorten (Nat.le_trans (Nat.le_of_ble_eq_true rfl) hf) hx) fun S14 h => ?_
        refine V_aload_n (i := 0) dX4_measureDistances_104 rfl rfl ?_
        refine V_aload_n (i := 0) dX4_measureDistances_105 rfl rfl ?_
        refine V_getfield dX4_measureDistances_106 wr_o fl_X4_19 rfl ?_
        refine V_iload_n (i := 1) dX4_measureDistances_109 rfl rfl ?_
        refine D_aldTk h rfl dX4_measureDistances_110 fun g15 h => ?_
        refine V_getfield dX4_measureDistances_111 (wr_tk g15) fl_X4_99 rfl ?_
        refine V_aload_n (i := 0) dX4_measureDistances_114 rfl rfl ?_
        refine V_getfield dX4_measureDistances_115 wr_o fl_X4_19 rfl ?_
        refine V_iload_n (i := 1) dX4_measureDistances_118 rfl rfl ?_
        refine D_aldTk h rfl dX4_measureDistances_119 fun g16 h => ?_
        refine V_getfield dX4_measureDistances_120 (wr_tk g16) fl_X4_96 rfl ?_
        refine V_aload_n (i := 0) dX4_measureDistances_123 rfl rfl ?_
        refine V_getfield dX4_measureDistances_124 wr_o fl_X4_19 rfl ?_
        refine V_iload_n (i := 1) dX4_measureDistances_127 rfl rfl ?_
        refine D_aldTk h rfl dX4_measureDistances_128 fun g17 h => ?_
        refine V_getfield dX4_measureDistances_129 (wr_tk g17) fl_X4_102 rfl ?_
        refine D_cVU (As := [_, _, _]) (μ := fun S18 => (wr p S18 M)) h dX4_measureDistances_132 cv_X4_162 rfl ⟨_, _, _, wr_o, rfl, rfl⟩ rfl (Nat.le_of_ble_eq_true rfl) (fun y hx => e_X4_shorten (Nat.le_trans (Nat.le_of_ble_eq_true rfl) hf) hx) fun S18 h => ?_
        refine D_iinc (i := 1) (w := 1) dX4_measureDistances_135 rfl (by decide) (Nat.le_of_ble_eq_true rfl) ?_
        refine V_goto (tgt := 53) dX4_measureDistances_138 rfl ?_
        exact V_sub (ks := [1, 0]) rfl (ih _ _ h)
noncomputable def l_X4_measureDistances_163 (c1 : Int32) (c2 : Int32) (K196 : (Nat → Int32) → Option (Nat → Int32)) : Nat → (Nat → Int32) → Int32 → Option (Nat → Int32)
  | 0, _, _ => none
  | N + 1, S, x3 => if (S 1) ≤ x3 then K196 S else bdc (f_X4_distanceBetween S c2 c1) (fun v23 => bdc (f_X4_distanceBetween S c1 x3) (fun v24 => bdc (f_X4_shorten S c2 x3 (v23 + v24)) (fun S25 => l_X4_measureDistances_163 c1 c2 K196 N S25 (x3 + (1 : Int32)))))
theorem lv_X4_measureDistances_163 {G : GT} {f : Nat} {p : Nat} {M : MM} {hi k n : Nat} {c1 : Int32} {c2 : Int32} {K196 : (Nat → Int32) → Option (Nat → Int32)} {r : (Nat → Int32)} (hf : 1 ≤ f) (hK196 : ∀ (Sk : Nat → Int32), K196 Sk = some r → V G f (Ex G f) mX4_measureDistances (RH (.inl none) (wr p r M) hi) 196 [(0, .ref (p)), (1, .int c1), (2, .int c2)] [] (wr p Sk M) hi k n) : ∀ (N : Nat) (S : Nat → Int32) (x3 : Int32) , l_X4_measureDistances_163 c1 c2 K196 N S x3 = some r → V G f (Ex G f) mX4_measureDistances (RH (.inl none) (wr p r M) hi) 163 [(0, .ref (p)), (1, .int c1), (2, .int c2), (3, .int x3)] [] (wr p S M) hi k n := by
  intro N
  induction N with
  | zero => intro S x3 h; cases h
  | succ N ih =>
    intro S x3 h
    rw [l_X4_measureDistances_163] at h
    refine V_iload_n (i := 3) dX4_measureDistances_163 rfl rfl ?_
    refine V_aload_n (i := 0) dX4_measureDistances_164 rfl rfl ?_
    refine V_getfield dX4_measureDistances_165 wr_o fl_X4_58 rfl ?_
    refine D_icmp_ge (tgt := 196) h dX4_measureDistances_168 rfl (fun b22 h => ?_) (fun b22 h => ?_)
    · exact V_sub (ks := [0, 1, 2]) rfl (hK196 _ h)
    · refine V_aload_n (i := 0) dX4_measureDistances_171 rfl rfl ?_
      refine V_iload_n (i := 2) dX4_measureDistances_172 rfl rfl ?_
      refine V_iload_n (i := 3) dX4_measureDistances_173 rfl rfl ?_
      refine V_aload_n (i := 0) dX4_measureDistances_174 rfl rfl ?_
      refine V_iload_n (i := 2) dX4_measureDistances_175 rfl rfl ?_
      refine V_iload_n (i := 1) dX4_measureDistances_176 rfl rfl ?_
      refine D_cVI (As := [_, _]) h dX4_measureDistances_177 cv_X4_166 rfl ⟨_, _, _, wr_o, rfl, rfl⟩ rfl (Nat.le_of_ble_eq_true rfl) (fun x hx => e_X4_distanceBetween (Nat.le_trans (Nat.le_of_ble_eq_true rfl) hf) hx) fun v23 h => ?_
      refine V_aload_n (i := 0) dX4_measureDistances_180 rfl rfl ?_
      refine V_iload_n (i := 1) dX4_measureDistances_181 rfl rfl ?_
      refine V_iload_n (i := 3) dX4_measureDistances_182 rfl rfl ?_
      refine D_cVI (As := [_, _]) h dX4_measureDistances_183 cv_X4_166 rfl ⟨_, _, _, wr_o, rfl, rfl⟩ rfl (Nat.le_of_ble_eq_true rfl) (fun x hx => e_X4_distanceBetween (Nat.le_trans (Nat.le_of_ble_eq_true rfl) hf) hx) fun v24 h => ?_
      refine V_iadd dX4_measureDistances_186 ?_
      refine D_cVU (As := [_, _, _]) (μ := fun S25 => (wr p S25 M)) h dX4_measureDistances_187 cv_X4_162 rfl ⟨_, _, _, wr_o, rfl, rfl⟩ rfl (Nat.le_of_ble_eq_true rfl) (fun y hx => e_X4_shorten (Nat.le_trans (Nat.le_of_ble_eq_true rfl) hf) hx) fun S25 h => ?_
      refine D_iinc (i := 3) (w := 1) dX4_measureDistances_190 rfl (by decide) (Nat.le_of_ble_eq_true rfl) ?_
      refine V_goto (tgt := 163) dX4_measureDistances_193 rfl ?_
      exact V_sub (ks := [1, 2, 3, 0]) rfl (ih _ _ h)
noncomputable def l_X4_measureDistances_153 (c1 : Int32) (K202 : (Nat → Int32) → Option (Nat → Int32)) : Nat → (Nat → Int32) → Int32 → Option (Nat → Int32)
  | 0, _, _ => none
  | N + 1, S, x2 => if (S 1) ≤ x2 then K202 S else l_X4_measureDistances_163 c1 x2 (fun (S26 : Nat → Int32) => l_X4_measureDistances_153 c1 K202 N S26 (x2 + (1 : Int32))) FU S (0 : Int32)
theorem lv_X4_measureDistances_153 {G : GT} {f : Nat} {p : Nat} {M : MM} {hi k n : Nat} {c1 : Int32} {K202 : (Nat → Int32) → Option (Nat → Int32)} {r : (Nat → Int32)} (hf : 1 ≤ f) (hK202 : ∀ (Sk : Nat → Int32), K202 Sk = some r → V G f (Ex G f) mX4_measureDistances (RH (.inl none) (wr p r M) hi) 202 [(0, .ref (p)), (1, .int c1)] [] (wr p Sk M) hi k n) : ∀ (N : Nat) (S : Nat → Int32) (x2 : Int32) , l_X4_measureDistances_153 c1 K202 N S x2 = some r → V G f (Ex G f) mX4_measureDistances (RH (.inl none) (wr p r M) hi) 153 [(0, .ref (p)), (1, .int c1), (2, .int x2)] [] (wr p S M) hi k n := by
  intro N
  induction N with
  | zero => intro S x2 h; cases h
  | succ N ih =>
    intro S x2 h
    rw [l_X4_measureDistances_153] at h
    refine V_iload_n (i := 2) dX4_measureDistances_153 rfl rfl ?_
    refine V_aload_n (i := 0) dX4_measureDistances_154 rfl rfl ?_
    refine V_getfield dX4_measureDistances_155 wr_o fl_X4_58 rfl ?_
    refine D_icmp_ge (tgt := 202) h dX4_measureDistances_158 rfl (fun b21 h => ?_) (fun b21 h => ?_)
    · exact V_sub (ks := [0, 1]) rfl (hK202 _ h)
    · refine V_iconst (v := 0) dX4_measureDistances_161 (by decide) ?_
      refine V_istore_n (i := 3) dX4_measureDistances_162 rfl (Nat.le_of_ble_eq_true rfl) ?_
      refine V_sub (ks := [1, 2, 3, 0]) rfl (lv_X4_measureDistances_163 hf ?_ FU _ _ h)
      · intro S26 h
        refine D_iinc (i := 2) (w := 1) dX4_measureDistances_196 rfl (by decide) (Nat.le_of_ble_eq_true rfl) ?_
        refine V_goto (tgt := 153) dX4_measureDistances_199 rfl ?_
        exact V_sub (ks := [1, 2, 0]) rfl (ih _ _ h)
noncomputable def l_X4_measureDistances_143  : Nat → (Nat → Int32) → Int32 → Option (Nat → Int32)
  | 0, _, _ => none
  | N + 1, S, x1 => if (S 1) ≤ x1 then some S else l_X4_measureDistances_153 x1 (fun (S27 : Nat → Int32) => l_X4_measureDistances_143 N S27 (x1 + (1 : Int32))) FU S (0 : Int32)
theorem lv_X4_measureDistances_143 {G : GT} {f : Nat} {p : Nat} {M : MM} {hi k n : Nat}  {r : (Nat → Int32)} (hf : 1 ≤ f) : ∀ (N : Nat) (S : Nat → Int32) (x1 : Int32) , l_X4_measureDistances_143 N S x1 = some r → V G f (Ex G f) mX4_measureDistances (RH (.inl none) (wr p r M) hi) 143 [(0, .ref (p)), (1, .int x1)] [] (wr p S M) hi k n := by
  intro N
  induction N with
  | zero => intro S x1 h; cases h
  | succ N ih =>
    intro S x1 h
    rw [l_X4_measureDistances_143] at h
    refine V_iload_n (i := 1) dX4_measureDistances_143 rfl rfl ?_
    refine V_aload_n (i := 0) dX4_measureDistances_144 rfl rfl ?_
    refine V_getfield dX4_measureDistances_145 wr_o fl_X4_58 rfl ?_
    refine D_icmp_ge (tgt := 208) h dX4_measureDistances_148 rfl (fun b20 h => ?_) (fun b20 h => ?_)
    · obtain rfl := Option.some.inj h
      exact V_return dX4_measureDistances_208 rfl ⟨rfl, rfl, rfl⟩
    · refine V_iconst (v := 0) dX4_measureDistances_151 (by decide) ?_
      refine V_istore_n (i := 2) dX4_measureDistances_152 rfl (Nat.le_of_ble_eq_true rfl) ?_
      refine V_sub (ks := [1, 2, 0]) rfl (lv_X4_measureDistances_153 hf ?_ FU _ _ h)
      · intro S27 h
        refine D_iinc (i := 1) (w := 1) dX4_measureDistances_202 rfl (by decide) (Nat.le_of_ble_eq_true rfl) ?_
        refine V_goto (tgt := 143) dX4_measureDistances_205 rfl ?_
        exact V_sub (ks := [1, 0]) rfl (ih _ _ h)
noncomputable def f_X4_measureDistances (S : Nat → Int32) : Option (Nat → Int32) :=
  l_X4_measureDistances_2 (fun (S7 : Nat → Int32) => l_X4_measureDistances_53 (fun (S19 : Nat → Int32) => l_X4_measureDistances_143 FU S19 (0 : Int32)) FU S7 (0 : Int32)) FU S (0 : Int32)
theorem e_X4_measureDistances {G : GT} {f0 : Nat} {p : Nat} {M : MM} {hi k n : Nat} {S : Nat → Int32} {r : (Nat → Int32)} (hf0 : 2 ≤ f0) (h : f_X4_measureDistances S = some r) : Ex G f0 mX4_measureDistances [.ref (p)] (wr p S M) hi k n (RH (.inl none) (wr p r M) hi) := by
  obtain ⟨f, rfl, hf⟩ := suc_of hf0
  unfold f_X4_measureDistances at h
  refine ⟨Nat.le_of_ble_eq_true rfl, ?_⟩
  refine V_iconst (v := 0) dX4_measureDistances_0 (by decide) ?_
  refine V_istore_n (i := 1) dX4_measureDistances_1 rfl (Nat.le_of_ble_eq_true rfl) ?_
  refine V_sub (ks := [1, 0]) rfl (lv_X4_measureDistances_2 hf ?_ FU _ _ h)
  · intro S7 h
    refine V_iconst (v := 0) dX4_measureDistances_51 (by decide) ?_
    refine V_istore_n (i := 1) dX4_measureDistances_52 rfl (Nat.le_of_ble_eq_true rfl) ?_
    refine V_sub (ks := [1, 0]) rfl (lv_X4_measureDistances_53 hf ?_ FU _ _ h)
    · intro S19 h
      refine V_iconst (v := 0) dX4_measureDistances_141 (by decide) ?_
      refine V_istore_n (i := 1) dX4_measureDistances_142 rfl (Nat.le_of_ble_eq_true rfl) ?_
      refine V_sub (ks := [1, 0]) rfl (lv_X4_measureDistances_143 hf FU _ _ h)
noncomputable def f_X4_clear (S : Nat → Int32) : Option (Nat → Int32) :=
  bnd (upd S 1 (0 : Int32)) (fun S1 => bnd (upd S1 2 (0 : Int32)) (fun S2 => bnd (upd S2 3 (0 : Int32)) (fun S3 => bnd (upd S3 4 (0 : Int32)) (fun S4 => bnd (upd S4 0 (0 : Int32)) (fun S5 => bnd (upd S5 5 (0 : Int32)) (fun S6 => bnd (upd S6 6 (0 : Int32)) (fun S7 => bdc (f_X4_measureDistances S7) (fun S8 => some S8))))))))
theorem e_X4_clear {G : GT} {f0 : Nat} {p : Nat} {M : MM} {hi k n : Nat} {S : Nat → Int32} {r : (Nat → Int32)} (hf0 : 3 ≤ f0) (h : f_X4_clear S = some r) : Ex G f0 mX4_clear [.ref (p)] (wr p S M) hi k n (RH (.inl none) (wr p r M) hi) := by
  obtain ⟨f, rfl, hf⟩ := suc_of hf0
  unfold f_X4_clear at h
  refine ⟨Nat.le_of_ble_eq_true rfl, ?_⟩
  refine V_aload_n (i := 0) dX4_clear_0 rfl rfl ?_
  refine V_iconst (v := 0) dX4_clear_1 (by decide) ?_
  refine D_pf_X4_5 h dX4_clear_2 (fp_X4_58 rfl) fun S1 h => ?_
  refine V_aload_n (i := 0) dX4_clear_5 rfl rfl ?_
  refine V_iconst (v := 0) dX4_clear_6 (by decide) ?_
  refine D_pf_X4_6 h dX4_clear_7 (fp_X4_62 rfl) fun S2 h => ?_
  refine V_aload_n (i := 0) dX4_clear_10 rfl rfl ?_
  refine V_iconst (v := 0) dX4_clear_11 (by decide) ?_
  refine D_pf_X4_7 h dX4_clear_12 (fp_X4_65 rfl) fun S3 h => ?_
  refine V_aload_n (i := 0) dX4_clear_15 rfl rfl ?_
  refine V_iconst (v := 0) dX4_clear_16 (by decide) ?_
  refine D_pf_X4_8 h dX4_clear_17 (fp_X4_68 rfl) fun S4 h => ?_
  refine V_aload_n (i := 0) dX4_clear_20 rfl rfl ?_
  refine V_iconst (v := 0) dX4_clear_21 (by decide) ?_
  refine D_pf_X4_9 h dX4_clear_22 (fp_X4_71 rfl) fun S5 h => ?_
  refine V_aload_n (i := 0) dX4_clear_25 rfl rfl ?_
  refine V_iconst (v := 0) dX4_clear_26 (by decide) ?_
  refine D_pf_X4_10 h dX4_clear_27 (fp_X4_74 rfl) fun S6 h => ?_
  refine V_aload_n (i := 0) dX4_clear_30 rfl rfl ?_
  refine V_iconst (v := 0) dX4_clear_31 (by decide) ?_
  refine D_pf_X4_11 h dX4_clear_32 (fp_X4_77 rfl) fun S7 h => ?_
  refine V_aload_n (i := 0) dX4_clear_35 rfl rfl ?_
  refine D_cVU (As := []) (μ := fun S8 => (wr p S8 M)) h dX4_clear_36 cv_X4_80 rfl ⟨_, _, _, wr_o, rfl, rfl⟩ rfl (Nat.le_of_ble_eq_true rfl) (fun y hx => e_X4_measureDistances (Nat.le_trans (Nat.le_of_ble_eq_true rfl) hf) hx) fun S8 h => ?_
  obtain rfl := Option.some.inj h
  exact V_return dX4_clear_39 rfl ⟨rfl, rfl, rfl⟩
noncomputable def f_X5_copyFrom (S : Nat → Int32) (T : Nat → Int32) (i0 : Nat) (i1 : Nat) : Option (Nat → Int32) :=
  bnd (upd S (7 + 4 * i0) (T (7 + 4 * i1))) (fun S1 => gd (z01 (T (7 + 4 * i1 + 1))) (bnd (upd S1 (7 + 4 * i0 + 1) (T (7 + 4 * i1 + 1))) (fun S2 => bnd (upd S2 (7 + 4 * i0 + 2) (T (7 + 4 * i1 + 2))) (fun S4 => bnd (upd S4 (7 + 4 * i0 + 3) (T (7 + 4 * i1 + 3))) (fun S5 => some S5)))))
theorem e_X5_copyFrom {G : GT} {f0 : Nat} {p q : Nat} {M : MM} {hi k n : Nat} {S : Nat → Int32} {T : Nat → Int32} {i0 : Nat} {i1 : Nat} {r : (Nat → Int32)} (hf0 : 1 ≤ f0) (hpq : apt p q) (t0 : i0 < 8) (t1 : i1 < 8) (h : f_X5_copyFrom S T i0 i1 = some r) : Ex G f0 mX5_copyFrom [.ref (p + 6 + i0), .ref (q + 6 + i1)] (wr p S (wr q T M)) hi k n (RH (.inl none) (wr p r (wr q T M)) hi) := by
  obtain ⟨f, rfl, hf⟩ := suc_of hf0
  unfold f_X5_copyFrom at h
  refine ⟨Nat.le_of_ble_eq_true rfl, ?_⟩
  refine V_aload_n (i := 0) dX5_copyFrom_0 rfl rfl ?_
  refine V_aload_n (i := 1) dX5_copyFrom_1 rfl rfl ?_
  refine V_getfield dX5_copyFrom_2 (wr2_st hpq t1) fl_X5_7 rfl ?_
  refine D_pf_X5_0 h dX5_copyFrom_5 (fp_X5_7 rfl) t0 fun S1 h => ?_
  refine V_aload_n (i := 0) dX5_copyFrom_8 rfl rfl ?_
  refine V_aload_n (i := 1) dX5_copyFrom_9 rfl rfl ?_
  refine V_getfield dX5_copyFrom_10 (wr2_st hpq t1) fl_X5_13 rfl ?_
  refine D_gd h fun g3 h => ?_
  refine D_pf_X5_1 h dX5_copyFrom_13 (fp_X5_13 rfl) (z01_ok g3) t0 fun S2 h => ?_
  refine V_aload_n (i := 0) dX5_copyFrom_16 rfl rfl ?_
  refine V_aload_n (i := 1) dX5_copyFrom_17 rfl rfl ?_
  refine V_getfield dX5_copyFrom_18 (wr2_st hpq t1) fl_X5_17 rfl ?_
  refine D_pf_X5_2 h dX5_copyFrom_21 (fp_X5_17 rfl) t0 fun S4 h => ?_
  refine V_aload_n (i := 0) dX5_copyFrom_24 rfl rfl ?_
  refine V_aload_n (i := 1) dX5_copyFrom_25 rfl rfl ?_
  refine V_getfield dX5_copyFrom_26 (wr2_st hpq t1) fl_X5_20 rfl ?_
  refine D_pf_X5_3 h dX5_copyFrom_29 (fp_X5_20 rfl) t0 fun S5 h => ?_
  obtain rfl := Option.some.inj h
  exact V_return dX5_copyFrom_32 rfl ⟨rfl, rfl, rfl⟩
noncomputable def f_X7_copyFrom (S : Nat → Int32) (T : Nat → Int32) (i0 : Nat) (i1 : Nat) : Option (Nat → Int32) :=
  bnd (upd S (39 + 4 * i0) (T (39 + 4 * i1))) (fun S1 => bnd (upd S1 (39 + 4 * i0 + 1) (T (39 + 4 * i1 + 1))) (fun S2 => bnd (upd S2 (39 + 4 * i0 + 2) (T (39 + 4 * i1 + 2))) (fun S3 => gd (z01 (T (39 + 4 * i1 + 3))) (bnd (upd S3 (39 + 4 * i0 + 3) (T (39 + 4 * i1 + 3))) (fun S4 => some S4)))))
theorem e_X7_copyFrom {G : GT} {f0 : Nat} {p q : Nat} {M : MM} {hi k n : Nat} {S : Nat → Int32} {T : Nat → Int32} {i0 : Nat} {i1 : Nat} {r : (Nat → Int32)} (hf0 : 1 ≤ f0) (hpq : apt p q) (t0 : i0 < 12) (t1 : i1 < 12) (h : f_X7_copyFrom S T i0 i1 = some r) : Ex G f0 mX7_copyFrom [.ref (p + 14 + i0), .ref (q + 14 + i1)] (wr p S (wr q T M)) hi k n (RH (.inl none) (wr p r (wr q T M)) hi) := by
  obtain ⟨f, rfl, hf⟩ := suc_of hf0
  unfold f_X7_copyFrom at h
  refine ⟨Nat.le_of_ble_eq_true rfl, ?_⟩
  refine V_aload_n (i := 0) dX7_copyFrom_0 rfl rfl ?_
  refine V_aload_n (i := 1) dX7_copyFrom_1 rfl rfl ?_
  refine V_getfield dX7_copyFrom_2 (wr2_tk hpq t1) fl_X7_7 rfl ?_
  refine D_pf_X7_0 h dX7_copyFrom_5 (fp_X7_7 rfl) t0 fun S1 h => ?_
  refine V_aload_n (i := 0) dX7_copyFrom_8 rfl rfl ?_
  refine V_aload_n (i := 1) dX7_copyFrom_9 rfl rfl ?_
  refine V_getfield dX7_copyFrom_10 (wr2_tk hpq t1) fl_X7_13 rfl ?_
  refine D_pf_X7_1 h dX7_copyFrom_13 (fp_X7_13 rfl) t0 fun S2 h => ?_
  refine V_aload_n (i := 0) dX7_copyFrom_16 rfl rfl ?_
  refine V_aload_n (i := 1) dX7_copyFrom_17 rfl rfl ?_
  refine V_getfield dX7_copyFrom_18 (wr2_tk hpq t1) fl_X7_16 rfl ?_
  refine D_pf_X7_2 h dX7_copyFrom_21 (fp_X7_16 rfl) t0 fun S3 h => ?_
  refine V_aload_n (i := 0) dX7_copyFrom_24 rfl rfl ?_
  refine V_aload_n (i := 1) dX7_copyFrom_25 rfl rfl ?_
  refine V_getfield dX7_copyFrom_26 (wr2_tk hpq t1) fl_X7_19 rfl ?_
  refine D_gd h fun g5 h => ?_
  refine D_pf_X7_3 h dX7_copyFrom_29 (fp_X7_19 rfl) (z01_ok g5) t0 fun S4 h => ?_
  obtain rfl := Option.some.inj h
  exact V_return dX7_copyFrom_32 rfl ⟨rfl, rfl, rfl⟩
noncomputable def l_X8_copyFrom_10 (T : Nat → Int32) (c0 : Nat) (c1 : Nat) (K34 : (Nat → Int32) → Option (Nat → Int32)) : Nat → (Nat → Int32) → Int32 → Option (Nat → Int32)
  | 0, _, _ => none
  | N + 1, S, x2 => if (6 : Int32) ≤ x2 then K34 S else gd (inr x2 6) (gd (inr x2 6) (bnd (upd S (87 + 14 * c0 + 2 + ix x2) (T (87 + 14 * c1 + 2 + ix x2))) (fun S3 => l_X8_copyFrom_10 T c0 c1 K34 N S3 (x2 + (1 : Int32)))))
theorem lv_X8_copyFrom_10 {G : GT} {f : Nat} {p q : Nat} {M : MM} {hi k n : Nat} {T : Nat → Int32} {c0 : Nat} {c1 : Nat} {K34 : (Nat → Int32) → Option (Nat → Int32)} {r : (Nat → Int32)} (hf : 0 ≤ f) (hpq : apt p q) (u0 : c0 < 4) (u1 : c1 < 4) (hK34 : ∀ (Sk : Nat → Int32), K34 Sk = some r → V G f (Ex G f) mX8_copyFrom (RH (.inl none) (wr p r (wr q T M)) hi) 34 [(0, .ref (p + 26 + 2 * c0)), (1, .ref (q + 26 + 2 * c1))] [] (wr p Sk (wr q T M)) hi k n) : ∀ (N : Nat) (S : Nat → Int32) (x2 : Int32) , l_X8_copyFrom_10 T c0 c1 K34 N S x2 = some r → V G f (Ex G f) mX8_copyFrom (RH (.inl none) (wr p r (wr q T M)) hi) 10 [(0, .ref (p + 26 + 2 * c0)), (1, .ref (q + 26 + 2 * c1)), (2, .int x2)] [] (wr p S (wr q T M)) hi k n := by
  intro N
  induction N with
  | zero => intro S x2 h; cases h
  | succ N ih =>
    intro S x2 h
    rw [l_X8_copyFrom_10] at h
    refine V_iload_n (i := 2) dX8_copyFrom_10 rfl rfl ?_
    refine V_bipush (v := 6) dX8_copyFrom_11 (by decide) ?_
    refine D_icmp_ge (tgt := 34) h dX8_copyFrom_13 rfl (fun b2 h => ?_) (fun b2 h => ?_)
    · exact V_sub (ks := [0, 1]) rfl (hK34 _ h)
    · refine V_aload_n (i := 0) dX8_copyFrom_16 rfl rfl ?_
      refine V_getfield dX8_copyFrom_17 (wr_tr u0) fl_X8_9 rfl ?_
      refine V_iload_n (i := 2) dX8_copyFrom_20 rfl rfl ?_
      refine V_aload_n (i := 1) dX8_copyFrom_21 rfl rfl ?_
      refine V_getfield dX8_copyFrom_22 (wr2_tr hpq u1) fl_X8_9 rfl ?_
      refine V_iload_n (i := 2) dX8_copyFrom_25 rfl rfl ?_
      refine D_ildR2 h u1 hpq dX8_copyFrom_26 fun h => ?_
      refine D_istR h u0 dX8_copyFrom_27 fun S3 h => ?_
      refine D_iinc (i := 2) (w := 1) dX8_copyFrom_28 rfl (by decide) (Nat.le_of_ble_eq_true rfl) ?_
      refine V_goto (tgt := 10) dX8_copyFrom_31 rfl ?_
      exact V_sub (ks := [1, 2, 0]) rfl (ih _ _ h)
noncomputable def f_X8_copyFrom (S : Nat → Int32) (T : Nat → Int32) (i0 : Nat) (i1 : Nat) : Option (Nat → Int32) :=
  bnd (upd S (87 + 14 * i0) (T (87 + 14 * i1))) (fun S1 => l_X8_copyFrom_10 T i0 i1 (fun (S4 : Nat → Int32) => bnd (upd S4 (87 + 14 * i0 + 1) (T (87 + 14 * i1 + 1))) (fun S5 => bnd (upd S5 (87 + 14 * i0 + 8) (T (87 + 14 * i1 + 8))) (fun S6 => gd (z01 (T (87 + 14 * i1 + 9))) (bnd (upd S6 (87 + 14 * i0 + 9) (T (87 + 14 * i1 + 9))) (fun S7 => bnd (upd S7 (87 + 14 * i0 + 10) (T (87 + 14 * i1 + 10))) (fun S9 => bnd (upd S9 (87 + 14 * i0 + 11) (T (87 + 14 * i1 + 11))) (fun S10 => bnd (upd S10 (87 + 14 * i0 + 12) (T (87 + 14 * i1 + 12))) (fun S11 => bnd (upd S11 (87 + 14 * i0 + 13) (T (87 + 14 * i1 + 13))) (fun S12 => some S12))))))))) FU S1 (0 : Int32))
theorem e_X8_copyFrom {G : GT} {f0 : Nat} {p q : Nat} {M : MM} {hi k n : Nat} {S : Nat → Int32} {T : Nat → Int32} {i0 : Nat} {i1 : Nat} {r : (Nat → Int32)} (hf0 : 1 ≤ f0) (hpq : apt p q) (t0 : i0 < 4) (t1 : i1 < 4) (h : f_X8_copyFrom S T i0 i1 = some r) : Ex G f0 mX8_copyFrom [.ref (p + 26 + 2 * i0), .ref (q + 26 + 2 * i1)] (wr p S (wr q T M)) hi k n (RH (.inl none) (wr p r (wr q T M)) hi) := by
  obtain ⟨f, rfl, hf⟩ := suc_of hf0
  unfold f_X8_copyFrom at h
  refine ⟨Nat.le_of_ble_eq_true rfl, ?_⟩
  refine V_aload_n (i := 0) dX8_copyFrom_0 rfl rfl ?_
  refine V_aload_n (i := 1) dX8_copyFrom_1 rfl rfl ?_
  refine V_getfield dX8_copyFrom_2 (wr2_tr hpq t1) fl_X8_19 rfl ?_
  refine D_pf_X8_1 h dX8_copyFrom_5 (fp_X8_19 rfl) t0 fun S1 h => ?_
  refine V_iconst (v := 0) dX8_copyFrom_8 (by decide) ?_
  refine V_istore_n (i := 2) dX8_copyFrom_9 rfl (Nat.le_of_ble_eq_true rfl) ?_
  refine V_sub (ks := [1, 2, 0]) rfl (lv_X8_copyFrom_10 hf hpq t0 t1 ?_ FU _ _ h)
  · intro S4 h
    refine V_aload_n (i := 0) dX8_copyFrom_34 rfl rfl ?_
    refine V_aload_n (i := 1) dX8_copyFrom_35 rfl rfl ?_
    refine V_getfield dX8_copyFrom_36 (wr2_tr hpq t1) fl_X8_22 rfl ?_
    refine D_pf_X8_3 h dX8_copyFrom_39 (fp_X8_22 rfl) t0 fun S5 h => ?_
    refine V_aload_n (i := 0) dX8_copyFrom_42 rfl rfl ?_
    refine V_aload_n (i := 1) dX8_copyFrom_43 rfl rfl ?_
    refine V_getfield dX8_copyFrom_44 (wr2_tr hpq t1) fl_X8_25 rfl ?_
    refine D_pf_X8_4 h dX8_copyFrom_47 (fp_X8_25 rfl) t0 fun S6 h => ?_
    refine V_aload_n (i := 0) dX8_copyFrom_50 rfl rfl ?_
    refine V_aload_n (i := 1) dX8_copyFrom_51 rfl rfl ?_
    refine V_getfield dX8_copyFrom_52 (wr2_tr hpq t1) fl_X8_28 rfl ?_
    refine D_gd h fun g8 h => ?_
    refine D_pf_X8_5 h dX8_copyFrom_55 (fp_X8_28 rfl) (z01_ok g8) t0 fun S7 h => ?_
    refine V_aload_n (i := 0) dX8_copyFrom_58 rfl rfl ?_
    refine V_aload_n (i := 1) dX8_copyFrom_59 rfl rfl ?_
    refine V_getfield dX8_copyFrom_60 (wr2_tr hpq t1) fl_X8_32 rfl ?_
    refine D_pf_X8_6 h dX8_copyFrom_63 (fp_X8_32 rfl) t0 fun S9 h => ?_
    refine V_aload_n (i := 0) dX8_copyFrom_66 rfl rfl ?_
    refine V_aload_n (i := 1) dX8_copyFrom_67 rfl rfl ?_
    refine V_getfield dX8_copyFrom_68 (wr2_tr hpq t1) fl_X8_35 rfl ?_
    refine D_pf_X8_7 h dX8_copyFrom_71 (fp_X8_35 rfl) t0 fun S10 h => ?_
    refine V_aload_n (i := 0) dX8_copyFrom_74 rfl rfl ?_
    refine V_aload_n (i := 1) dX8_copyFrom_75 rfl rfl ?_
    refine V_getfield dX8_copyFrom_76 (wr2_tr hpq t1) fl_X8_38 rfl ?_
    refine D_pf_X8_8 h dX8_copyFrom_79 (fp_X8_38 rfl) t0 fun S11 h => ?_
    refine V_aload_n (i := 0) dX8_copyFrom_82 rfl rfl ?_
    refine V_aload_n (i := 1) dX8_copyFrom_83 rfl rfl ?_
    refine V_getfield dX8_copyFrom_84 (wr2_tr hpq t1) fl_X8_41 rfl ?_
    refine D_pf_X8_9 h dX8_copyFrom_87 (fp_X8_41 rfl) t0 fun S12 h => ?_
    obtain rfl := Option.some.inj h
    exact V_return dX8_copyFrom_90 rfl ⟨rfl, rfl, rfl⟩
noncomputable def l_X4_copyFrom_2 (T : Nat → Int32) (K29 : (Nat → Int32) → Option (Nat → Int32)) : Nat → (Nat → Int32) → Int32 → Option (Nat → Int32)
  | 0, _, _ => none
  | N + 1, S, x2 => if (8 : Int32) ≤ x2 then K29 S else gd (inr x2 8) (gd (inr x2 8) (bdc (f_X5_copyFrom S T (ix x2) (ix x2)) (fun S4 => l_X4_copyFrom_2 T K29 N S4 (x2 + (1 : Int32)))))
theorem lv_X4_copyFrom_2 {G : GT} {f : Nat} {p q : Nat} {M : MM} {hi k n : Nat} {T : Nat → Int32} {K29 : (Nat → Int32) → Option (Nat → Int32)} {r : (Nat → Int32)} (hf : 1 ≤ f) (hpq : apt p q) (hK29 : ∀ (Sk : Nat → Int32), K29 Sk = some r → V G f (Ex G f) mX4_copyFrom (RH (.inl none) (wr p r (wr q T M)) hi) 29 [(0, .ref (p)), (1, .ref (q))] [] (wr p Sk (wr q T M)) hi k n) : ∀ (N : Nat) (S : Nat → Int32) (x2 : Int32) , l_X4_copyFrom_2 T K29 N S x2 = some r → V G f (Ex G f) mX4_copyFrom (RH (.inl none) (wr p r (wr q T M)) hi) 2 [(0, .ref (p)), (1, .ref (q)), (2, .int x2)] [] (wr p S (wr q T M)) hi k n := by
  intro N
  induction N with
  | zero => intro S x2 h; cases h
  | succ N ih =>
    intro S x2 h
    rw [l_X4_copyFrom_2] at h
    refine V_iload_n (i := 2) dX4_copyFrom_2 rfl rfl ?_
    refine V_bipush (v := 8) dX4_copyFrom_3 (by decide) ?_
    refine D_icmp_ge (tgt := 29) h dX4_copyFrom_5 rfl (fun b1 h => ?_) (fun b1 h => ?_)
    · exact V_sub (ks := [0, 1]) rfl (hK29 _ h)
    · refine V_aload_n (i := 0) dX4_copyFrom_8 rfl rfl ?_
      refine V_getfield dX4_copyFrom_9 wr_o fl_X4_11 rfl ?_
      refine V_iload_n (i := 2) dX4_copyFrom_12 rfl rfl ?_
      refine D_aldSt h rfl dX4_copyFrom_13 fun g2 h => ?_
      refine V_aload_n (i := 1) dX4_copyFrom_14 rfl rfl ?_
      refine V_getfield dX4_copyFrom_15 (wr2_o hpq) fl_X4_11 rfl ?_
      refine V_iload_n (i := 2) dX4_copyFrom_18 rfl rfl ?_
      refine D_aldSt2 h hpq dX4_copyFrom_19 fun g3 h => ?_
      refine D_cVU (As := [_]) (μ := fun S4 => (wr p S4 (wr q T M))) h dX4_copyFrom_20 cv_X4_45 rfl ⟨_, _, _, (wr_st g2), rfl, rfl⟩ rfl (Nat.le_of_ble_eq_true rfl) (fun y hx => e_X5_copyFrom (Nat.le_trans (Nat.le_of_ble_eq_true rfl) hf) hpq g2 g3 hx) fun S4 h => ?_
      refine D_iinc (i := 2) (w := 1) dX4_copyFrom_23 rfl (by decide) (Nat.le_of_ble_eq_true rfl) ?_
      refine V_goto (tgt := 2) dX4_copyFrom_26 rfl ?_
      exact V_sub (ks := [1, 2, 0]) rfl (ih _ _ h)
noncomputable def l_X4_copyFrom_31 (T : Nat → Int32) (K58 : (Nat → Int32) → Option (Nat → Int32)) : Nat → (Nat → Int32) → Int32 → Option (Nat → Int32)
  | 0, _, _ => none
  | N + 1, S, x2 => if (12 : Int32) ≤ x2 then K58 S else gd (inr x2 12) (gd (inr x2 12) (bdc (f_X7_copyFrom S T (ix x2) (ix x2)) (fun S9 => l_X4_copyFrom_31 T K58 N S9 (x2 + (1 : Int32)))))
theorem lv_X4_copyFrom_31 {G : GT} {f : Nat} {p q : Nat} {M : MM} {hi k n : Nat} {T : Nat → Int32} {K58 : (Nat → Int32) → Option (Nat → Int32)} {r : (Nat → Int32)} (hf : 1 ≤ f) (hpq : apt p q) (hK58 : ∀ (Sk : Nat → Int32), K58 Sk = some r → V G f (Ex G f) mX4_copyFrom (RH (.inl none) (wr p r (wr q T M)) hi) 58 [(0, .ref (p)), (1, .ref (q))] [] (wr p Sk (wr q T M)) hi k n) : ∀ (N : Nat) (S : Nat → Int32) (x2 : Int32) , l_X4_copyFrom_31 T K58 N S x2 = some r → V G f (Ex G f) mX4_copyFrom (RH (.inl none) (wr p r (wr q T M)) hi) 31 [(0, .ref (p)), (1, .ref (q)), (2, .int x2)] [] (wr p S (wr q T M)) hi k n := by
  intro N
  induction N with
  | zero => intro S x2 h; cases h
  | succ N ih =>
    intro S x2 h
    rw [l_X4_copyFrom_31] at h
    refine V_iload_n (i := 2) dX4_copyFrom_31 rfl rfl ?_
    refine V_bipush (v := 12) dX4_copyFrom_32 (by decide) ?_
    refine D_icmp_ge (tgt := 58) h dX4_copyFrom_34 rfl (fun b6 h => ?_) (fun b6 h => ?_)
    · exact V_sub (ks := [0, 1]) rfl (hK58 _ h)
    · refine V_aload_n (i := 0) dX4_copyFrom_37 rfl rfl ?_
      refine V_getfield dX4_copyFrom_38 wr_o fl_X4_19 rfl ?_
      refine V_iload_n (i := 2) dX4_copyFrom_41 rfl rfl ?_
      refine D_aldTk h rfl dX4_copyFrom_42 fun g7 h => ?_
      refine V_aload_n (i := 1) dX4_copyFrom_43 rfl rfl ?_
      refine V_getfield dX4_copyFrom_44 (wr2_o hpq) fl_X4_19 rfl ?_
      refine V_iload_n (i := 2) dX4_copyFrom_47 rfl rfl ?_
      refine D_aldTk2 h hpq dX4_copyFrom_48 fun g8 h => ?_
      refine D_cVU (As := [_]) (μ := fun S9 => (wr p S9 (wr q T M))) h dX4_copyFrom_49 cv_X4_49 rfl ⟨_, _, _, (wr_tk g7), rfl, rfl⟩ rfl (Nat.le_of_ble_eq_true rfl) (fun y hx => e_X7_copyFrom (Nat.le_trans (Nat.le_of_ble_eq_true rfl) hf) hpq g7 g8 hx) fun S9 h => ?_
      refine D_iinc (i := 2) (w := 1) dX4_copyFrom_52 rfl (by decide) (Nat.le_of_ble_eq_true rfl) ?_
      refine V_goto (tgt := 31) dX4_copyFrom_55 rfl ?_
      exact V_sub (ks := [1, 2, 0]) rfl (ih _ _ h)
noncomputable def l_X4_copyFrom_60 (T : Nat → Int32) (K86 : (Nat → Int32) → Option (Nat → Int32)) : Nat → (Nat → Int32) → Int32 → Option (Nat → Int32)
  | 0, _, _ => none
  | N + 1, S, x2 => if (4 : Int32) ≤ x2 then K86 S else gd (inr x2 4) (gd (inr x2 4) (bdc (f_X8_copyFrom S T (ix x2) (ix x2)) (fun S14 => l_X4_copyFrom_60 T K86 N S14 (x2 + (1 : Int32)))))
theorem lv_X4_copyFrom_60 {G : GT} {f : Nat} {p q : Nat} {M : MM} {hi k n : Nat} {T : Nat → Int32} {K86 : (Nat → Int32) → Option (Nat → Int32)} {r : (Nat → Int32)} (hf : 1 ≤ f) (hpq : apt p q) (hK86 : ∀ (Sk : Nat → Int32), K86 Sk = some r → V G f (Ex G f) mX4_copyFrom (RH (.inl none) (wr p r (wr q T M)) hi) 86 [(0, .ref (p)), (1, .ref (q))] [] (wr p Sk (wr q T M)) hi k n) : ∀ (N : Nat) (S : Nat → Int32) (x2 : Int32) , l_X4_copyFrom_60 T K86 N S x2 = some r → V G f (Ex G f) mX4_copyFrom (RH (.inl none) (wr p r (wr q T M)) hi) 60 [(0, .ref (p)), (1, .ref (q)), (2, .int x2)] [] (wr p S (wr q T M)) hi k n := by
  intro N
  induction N with
  | zero => intro S x2 h; cases h
  | succ N ih =>
    intro S x2 h
    rw [l_X4_copyFrom_60] at h
    refine V_iload_n (i := 2) dX4_copyFrom_60 rfl rfl ?_
    refine V_iconst (v := 4) dX4_copyFrom_61 (by decide) ?_
    refine D_icmp_ge (tgt := 86) h dX4_copyFrom_62 rfl (fun b11 h => ?_) (fun b11 h => ?_)
    · exact V_sub (ks := [0, 1]) rfl (hK86 _ h)
    · refine V_aload_n (i := 0) dX4_copyFrom_65 rfl rfl ?_
      refine V_getfield dX4_copyFrom_66 wr_o fl_X4_25 rfl ?_
      refine V_iload_n (i := 2) dX4_copyFrom_69 rfl rfl ?_
      refine D_aldTr h rfl dX4_copyFrom_70 fun g12 h => ?_
      refine V_aload_n (i := 1) dX4_copyFrom_71 rfl rfl ?_
      refine V_getfield dX4_copyFrom_72 (wr2_o hpq) fl_X4_25 rfl ?_
      refine V_iload_n (i := 2) dX4_copyFrom_75 rfl rfl ?_
      refine D_aldTr2 h hpq dX4_copyFrom_76 fun g13 h => ?_
      refine D_cVU (As := [_]) (μ := fun S14 => (wr p S14 (wr q T M))) h dX4_copyFrom_77 cv_X4_52 rfl ⟨_, _, _, (wr_tr g12), rfl, rfl⟩ rfl (Nat.le_of_ble_eq_true rfl) (fun y hx => e_X8_copyFrom (Nat.le_trans (Nat.le_of_ble_eq_true rfl) hf) hpq g12 g13 hx) fun S14 h => ?_
      refine D_iinc (i := 2) (w := 1) dX4_copyFrom_80 rfl (by decide) (Nat.le_of_ble_eq_true rfl) ?_
      refine V_goto (tgt := 60) dX4_copyFrom_83 rfl ?_
      exact V_sub (ks := [1, 2, 0]) rfl (ih _ _ h)
noncomputable def l_X4_copyFrom_88 (T : Nat → Int32) (K115 : (Nat → Int32) → Option (Nat → Int32)) : Nat → (Nat → Int32) → Int32 → Option (Nat → Int32)
  | 0, _, _ => none
  | N + 1, S, x2 => if (12 : Int32) ≤ x2 then K115 S else gd (inr x2 12) (gd (inr x2 12) (bdc (f_X2_copyFrom S T (ix x2) (ix x2)) (fun S19 => l_X4_copyFrom_88 T K115 N S19 (x2 + (1 : Int32)))))
theorem lv_X4_copyFrom_88 {G : GT} {f : Nat} {p q : Nat} {M : MM} {hi k n : Nat} {T : Nat → Int32} {K115 : (Nat → Int32) → Option (Nat → Int32)} {r : (Nat → Int32)} (hf : 1 ≤ f) (hpq : apt p q) (hK115 : ∀ (Sk : Nat → Int32), K115 Sk = some r → V G f (Ex G f) mX4_copyFrom (RH (.inl none) (wr p r (wr q T M)) hi) 115 [(0, .ref (p)), (1, .ref (q))] [] (wr p Sk (wr q T M)) hi k n) : ∀ (N : Nat) (S : Nat → Int32) (x2 : Int32) , l_X4_copyFrom_88 T K115 N S x2 = some r → V G f (Ex G f) mX4_copyFrom (RH (.inl none) (wr p r (wr q T M)) hi) 88 [(0, .ref (p)), (1, .ref (q)), (2, .int x2)] [] (wr p S (wr q T M)) hi k n := by
  intro N
  induction N with
  | zero => intro S x2 h; cases h
  | succ N ih =>
    intro S x2 h
    rw [l_X4_copyFrom_88] at h
    refine V_iload_n (i := 2) dX4_copyFrom_88 rfl rfl ?_
    refine V_bipush (v := 12) dX4_copyFrom_89 (by decide) ?_
    refine D_icmp_ge (tgt := 115) h dX4_copyFrom_91 rfl (fun b16 h => ?_) (fun b16 h => ?_)
    · exact V_sub (ks := [0, 1]) rfl (hK115 _ h)
    · refine V_aload_n (i := 0) dX4_copyFrom_94 rfl rfl ?_
      refine V_getfield dX4_copyFrom_95 wr_o fl_X4_31 rfl ?_
      refine V_iload_n (i := 2) dX4_copyFrom_98 rfl rfl ?_
      refine D_aldPc h rfl dX4_copyFrom_99 fun g17 h => ?_
      refine V_aload_n (i := 1) dX4_copyFrom_100 rfl rfl ?_
      refine V_getfield dX4_copyFrom_101 (wr2_o hpq) fl_X4_31 rfl ?_
      refine V_iload_n (i := 2) dX4_copyFrom_104 rfl rfl ?_
      refine D_aldPc2 h hpq dX4_copyFrom_105 fun g18 h => ?_
      refine D_cVU (As := [_]) (μ := fun S19 => (wr p S19 (wr q T M))) h dX4_copyFrom_106 cv_X4_55 rfl ⟨_, _, _, (wr_pc g17), rfl, rfl⟩ rfl (Nat.le_of_ble_eq_true rfl) (fun y hx => e_X2_copyFrom (Nat.le_trans (Nat.le_of_ble_eq_true rfl) hf) hpq g17 g18 hx) fun S19 h => ?_
      refine D_iinc (i := 2) (w := 1) dX4_copyFrom_109 rfl (by decide) (Nat.le_of_ble_eq_true rfl) ?_
      refine V_goto (tgt := 88) dX4_copyFrom_112 rfl ?_
      exact V_sub (ks := [1, 2, 0]) rfl (ih _ _ h)
noncomputable def l_X4_copyFrom_117 (T : Nat → Int32) (K141 : (Nat → Int32) → Option (Nat → Int32)) : Nat → (Nat → Int32) → Int32 → Option (Nat → Int32)
  | 0, _, _ => none
  | N + 1, S, x2 => if (64 : Int32) ≤ x2 then K141 S else gd (inr x2 64) (gd (inr x2 64) (bnd (upd S (251 + ix x2) (T (251 + ix x2))) (fun S22 => l_X4_copyFrom_117 T K141 N S22 (x2 + (1 : Int32)))))
theorem lv_X4_copyFrom_117 {G : GT} {f : Nat} {p q : Nat} {M : MM} {hi k n : Nat} {T : Nat → Int32} {K141 : (Nat → Int32) → Option (Nat → Int32)} {r : (Nat → Int32)} (hf : 1 ≤ f) (hpq : apt p q) (hK141 : ∀ (Sk : Nat → Int32), K141 Sk = some r → V G f (Ex G f) mX4_copyFrom (RH (.inl none) (wr p r (wr q T M)) hi) 141 [(0, .ref (p)), (1, .ref (q))] [] (wr p Sk (wr q T M)) hi k n) : ∀ (N : Nat) (S : Nat → Int32) (x2 : Int32) , l_X4_copyFrom_117 T K141 N S x2 = some r → V G f (Ex G f) mX4_copyFrom (RH (.inl none) (wr p r (wr q T M)) hi) 117 [(0, .ref (p)), (1, .ref (q)), (2, .int x2)] [] (wr p S (wr q T M)) hi k n := by
  intro N
  induction N with
  | zero => intro S x2 h; cases h
  | succ N ih =>
    intro S x2 h
    rw [l_X4_copyFrom_117] at h
    refine V_iload_n (i := 2) dX4_copyFrom_117 rfl rfl ?_
    refine V_bipush (v := 64) dX4_copyFrom_118 (by decide) ?_
    refine D_icmp_ge (tgt := 141) h dX4_copyFrom_120 rfl (fun b21 h => ?_) (fun b21 h => ?_)
    · exact V_sub (ks := [0, 1]) rfl (hK141 _ h)
    · refine V_aload_n (i := 0) dX4_copyFrom_123 rfl rfl ?_
      refine V_getfield dX4_copyFrom_124 wr_o fl_X4_35 rfl ?_
      refine V_iload_n (i := 2) dX4_copyFrom_127 rfl rfl ?_
      refine V_aload_n (i := 1) dX4_copyFrom_128 rfl rfl ?_
      refine V_getfield dX4_copyFrom_129 (wr2_o hpq) fl_X4_35 rfl ?_
      refine V_iload_n (i := 2) dX4_copyFrom_132 rfl rfl ?_
      refine D_ildD2 h hpq dX4_copyFrom_133 fun h => ?_
      refine D_istD h dX4_copyFrom_134 fun S22 h => ?_
      refine D_iinc (i := 2) (w := 1) dX4_copyFrom_135 rfl (by decide) (Nat.le_of_ble_eq_true rfl) ?_
      refine V_goto (tgt := 117) dX4_copyFrom_138 rfl ?_
      exact V_sub (ks := [1, 2, 0]) rfl (ih _ _ h)
noncomputable def f_X4_copyFrom (S : Nat → Int32) (T : Nat → Int32) : Option (Nat → Int32) :=
  l_X4_copyFrom_2 T (fun (S5 : Nat → Int32) => l_X4_copyFrom_31 T (fun (S10 : Nat → Int32) => l_X4_copyFrom_60 T (fun (S15 : Nat → Int32) => l_X4_copyFrom_88 T (fun (S20 : Nat → Int32) => l_X4_copyFrom_117 T (fun (S23 : Nat → Int32) => bnd (upd S23 1 (T 1)) (fun S24 => bnd (upd S24 2 (T 2)) (fun S25 => bnd (upd S25 3 (T 3)) (fun S26 => bnd (upd S26 4 (T 4)) (fun S27 => bnd (upd S27 0 (T 0)) (fun S28 => bnd (upd S28 5 (T 5)) (fun S29 => bnd (upd S29 6 (T 6)) (fun S30 => some S30)))))))) FU S20 (0 : Int32)) FU S15 (0 : Int32)) FU S10 (0 : Int32)) FU S5 (0 : Int32)) FU S (0 : Int32)
theorem e_X4_copyFrom {G : GT} {f0 : Nat} {p q : Nat} {M : MM} {hi k n : Nat} {S : Nat → Int32} {T : Nat → Int32} {r : (Nat → Int32)} (hf0 : 2 ≤ f0) (hpq : apt p q) (h : f_X4_copyFrom S T = some r) : Ex G f0 mX4_copyFrom [.ref (p), .ref (q)] (wr p S (wr q T M)) hi k n (RH (.inl none) (wr p r (wr q T M)) hi) := by
  obtain ⟨f, rfl, hf⟩ := suc_of hf0
  unfold f_X4_copyFrom at h
  refine ⟨Nat.le_of_ble_eq_true rfl, ?_⟩
  refine V_iconst (v := 0) dX4_copyFrom_0 (by decide) ?_
  refine V_istore_n (i := 2) dX4_copyFrom_1 rfl (Nat.le_of_ble_eq_true rfl) ?_
  refine V_sub (ks := [1, 2, 0]) rfl (lv_X4_copyFrom_2 hf hpq ?_ FU _ _ h)
  · intro S5 h
    refine V_iconst (v := 0) dX4_copyFrom_29 (by decide) ?_
    refine V_istore_n (i := 2) dX4_copyFrom_30 rfl (Nat.le_of_ble_eq_true rfl) ?_
    refine V_sub (ks := [1, 2, 0]) rfl (lv_X4_copyFrom_31 hf hpq ?_ FU _ _ h)
    · intro S10 h
      refine V_iconst (v := 0) dX4_copyFrom_58 (by decide) ?_
      refine V_istore_n (i := 2) dX4_copyFrom_59 rfl (Nat.le_of_ble_eq_true rfl) ?_
      refine V_sub (ks := [1, 2, 0]) rfl (lv_X4_copyFrom_60 hf hpq ?_ FU _ _ h)
      · intro S15 h
        refine V_iconst (v := 0) dX4_copyFrom_86 (by decide) ?_
        refine V_istore_n (i := 2) dX4_copyFrom_87 rfl (Nat.le_of_ble_eq_true rfl) ?_
        refine V_sub (ks := [1, 2, 0]) rfl (lv_X4_copyFrom_88 hf hpq ?_ FU _ _ h)
        · intro S20 h
          refine V_iconst (v := 0) dX4_copyFrom_115 (by decide) ?_
          refine V_istore_n (i := 2) dX4_copyFrom_116 rfl (Nat.le_of_ble_eq_true rfl) ?_
          refine V_sub (ks := [1, 2, 0]) rfl (lv_X4_copyFrom_117 hf hpq ?_ FU _ _ h)
          · intro S23 h
            refine V_aload_n (i := 0) dX4_copyFrom_141 rfl rfl ?_
            refine V_aload_n (i := 1) dX4_copyFrom_142 rfl rfl ?_
            refine V_getfield dX4_copyFrom_143 (wr2_o hpq) fl_X4_58 rfl ?_
            refine D_pf_X4_5 h dX4_copyFrom_146 (fp_X4_58 rfl) fun S24 h => ?_
            refine V_aload_n (i := 0) dX4_copyFrom_149 rfl rfl ?_
            refine V_aload_n (i := 1) dX4_copyFrom_150 rfl rfl ?_
            refine V_getfield dX4_copyFrom_151 (wr2_o hpq) fl_X4_62 rfl ?_
            refine D_pf_X4_6 h dX4_copyFrom_154 (fp_X4_62 rfl) fun S25 h => ?_
            refine V_aload_n (i := 0) dX4_copyFrom_157 rfl rfl ?_
            refine V_aload_n (i := 1) dX4_copyFrom_158 rfl rfl ?_
            refine V_getfield dX4_copyFrom_159 (wr2_o hpq) fl_X4_65 rfl ?_
            refine D_pf_X4_7 h dX4_copyFrom_162 (fp_X4_65 rfl) fun S26 h => ?_
            refine V_aload_n (i := 0) dX4_copyFrom_165 rfl rfl ?_
            refine V_aload_n (i := 1) dX4_copyFrom_166 rfl rfl ?_
            refine V_getfield dX4_copyFrom_167 (wr2_o hpq) fl_X4_68 rfl ?_
            refine D_pf_X4_8 h dX4_copyFrom_170 (fp_X4_68 rfl) fun S27 h => ?_
            refine V_aload_n (i := 0) dX4_copyFrom_173 rfl rfl ?_
            refine V_aload_n (i := 1) dX4_copyFrom_174 rfl rfl ?_
            refine V_getfield dX4_copyFrom_175 (wr2_o hpq) fl_X4_71 rfl ?_
            refine D_pf_X4_9 h dX4_copyFrom_178 (fp_X4_71 rfl) fun S28 h => ?_
            refine V_aload_n (i := 0) dX4_copyFrom_181 rfl rfl ?_
            refine V_aload_n (i := 1) dX4_copyFrom_182 rfl rfl ?_
            refine V_getfield dX4_copyFrom_183 (wr2_o hpq) fl_X4_74 rfl ?_
            refine D_pf_X4_10 h dX4_copyFrom_186 (fp_X4_74 rfl) fun S29 h => ?_
            refine V_aload_n (i := 0) dX4_copyFrom_189 rfl rfl ?_
            refine V_aload_n (i := 1) dX4_copyFrom_190 rfl rfl ?_
            refine V_getfield dX4_copyFrom_191 (wr2_o hpq) fl_X4_77 rfl ?_
            refine D_pf_X4_11 h dX4_copyFrom_194 (fp_X4_77 rfl) fun S30 h => ?_
            obtain rfl := Option.some.inj h
            exact V_return dX4_copyFrom_197 rfl ⟨rfl, rfl, rfl⟩
noncomputable def l_X4_countCarried_4 (S : Nat → Int32) : Nat → Int32 → Int32 → Option Int32
  | 0, _, _ => none
  | N + 1, x1, x2 => if (S 3) ≤ x2 then some x1 else bdc (f_X4_countCarriedBy S x2) (fun v2 => bnd (x1 + v2) (fun v3 => l_X4_countCarried_4 S N v3 (x2 + (1 : Int32))))
theorem lv_X4_countCarried_4 {G : GT} {f : Nat} {p : Nat} {M : MM} {hi k n : Nat} {S : Nat → Int32} {r : Int32} (hf : 1 ≤ f) : ∀ (N : Nat) (x1 : Int32) (x2 : Int32) , l_X4_countCarried_4 S N x1 x2 = some r → V G f (Ex G f) mX4_countCarried (RH (.inl (some (.int r))) (wr p S M) hi) 4 [(0, .ref (p)), (1, .int x1), (2, .int x2)] [] (wr p S M) hi k n := by
  intro N
  induction N with
  | zero => intro x1 x2 h; cases h
  | succ N ih =>
    intro x1 x2 h
    rw [l_X4_countCarried_4] at h
    refine V_iload_n (i := 2) dX4_countCarried_4 rfl rfl ?_
    refine V_aload_n (i := 0) dX4_countCarried_5 rfl rfl ?_
    refine V_getfield dX4_countCarried_6 wr_o fl_X4_65 rfl ?_
    refine D_icmp_ge (tgt := 26) h dX4_countCarried_9 rfl (fun b1 h => ?_) (fun b1 h => ?_)
    · refine V_iload_n (i := 1) dX4_countCarried_26 rfl rfl ?_
      obtain rfl := Option.some.inj h
      exact V_ireturn dX4_countCarried_27 ⟨_, rfl, rfl⟩ ⟨rfl, rfl, rfl⟩
    · refine V_iload_n (i := 1) dX4_countCarried_12 rfl rfl ?_
      refine V_aload_n (i := 0) dX4_countCarried_13 rfl rfl ?_
      refine V_iload_n (i := 2) dX4_countCarried_14 rfl rfl ?_
      refine D_cVI (As := [_]) h dX4_countCarried_15 cv_X4_170 rfl ⟨_, _, _, wr_o, rfl, rfl⟩ rfl (Nat.le_of_ble_eq_true rfl) (fun x hx => e_X4_countCarriedBy (Nat.le_trans (Nat.le_of_ble_eq_true rfl) hf) hx) fun v2 h => ?_
      refine V_iadd dX4_countCarried_18 ?_
      refine D_istore_n (i := 1) h dX4_countCarried_19 rfl (Nat.le_of_ble_eq_true rfl) fun v3 h => ?_
      refine D_iinc (i := 2) (w := 1) dX4_countCarried_20 rfl (by decide) (Nat.le_of_ble_eq_true rfl) ?_
      refine V_goto (tgt := 4) dX4_countCarried_23 rfl ?_
      exact V_sub (ks := [2, 1, 0]) rfl (ih _ _ h)
noncomputable def f_X4_countCarried (S : Nat → Int32) : Option Int32 :=
  l_X4_countCarried_4 S FU (0 : Int32) (0 : Int32)
theorem e_X4_countCarried {G : GT} {f0 : Nat} {p : Nat} {M : MM} {hi k n : Nat} {S : Nat → Int32} {r : Int32} (hf0 : 2 ≤ f0) (h : f_X4_countCarried S = some r) : Ex G f0 mX4_countCarried [.ref (p)] (wr p S M) hi k n (RH (.inl (some (.int r))) (wr p S M) hi) := by
  obtain ⟨f, rfl, hf⟩ := suc_of hf0
  unfold f_X4_countCarried at h
  refine ⟨Nat.le_of_ble_eq_true rfl, ?_⟩
  refine V_iconst (v := 0) dX4_countCarried_0 (by decide) ?_
  refine V_istore_n (i := 1) dX4_countCarried_1 rfl (Nat.le_of_ble_eq_true rfl) ?_
  refine V_iconst (v := 0) dX4_countCarried_2 (by decide) ?_
  refine V_istore_n (i := 2) dX4_countCarried_3 rfl (Nat.le_of_ble_eq_true rfl) ?_
  refine V_sub (ks := [2, 1, 0]) rfl (lv_X4_countCarried_4 hf FU _ _ h)
noncomputable def l_X4_countDelivered_4 (S : Nat → Int32) : Nat → Int32 → Int32 → Option Int32
  | 0, _, _ => none
  | N + 1, x1, x2 => if (S 4) ≤ x2 then some x1 else gd (inr x2 12) (bdc (f_X2_isDelivered S (ix x2)) (fun v3 => if v3 = 0 then l_X4_countDelivered_4 S N x1 (x2 + (1 : Int32)) else l_X4_countDelivered_4 S N (x1 + (1 : Int32)) (x2 + (1 : Int32))))
theorem lv_X4_countDelivered_4 {G : GT} {f : Nat} {p : Nat} {M : MM} {hi k n : Nat} {S : Nat → Int32} {r : Int32} (hf : 1 ≤ f) : ∀ (N : Nat) (x1 : Int32) (x2 : Int32) , l_X4_countDelivered_4 S N x1 x2 = some r → V G f (Ex G f) mX4_countDelivered (RH (.inl (some (.int r))) (wr p S M) hi) 4 [(0, .ref (p)), (1, .int x1), (2, .int x2)] [] (wr p S M) hi k n := by
  intro N
  induction N with
  | zero => intro x1 x2 h; cases h
  | succ N ih =>
    intro x1 x2 h
    rw [l_X4_countDelivered_4] at h
    refine V_iload_n (i := 2) dX4_countDelivered_4 rfl rfl ?_
    refine V_aload_n (i := 0) dX4_countDelivered_5 rfl rfl ?_
    refine V_getfield dX4_countDelivered_6 wr_o fl_X4_68 rfl ?_
    refine D_icmp_ge (tgt := 33) h dX4_countDelivered_9 rfl (fun b1 h => ?_) (fun b1 h => ?_)
    · refine V_iload_n (i := 1) dX4_countDelivered_33 rfl rfl ?_
      obtain rfl := Option.some.inj h
      exact V_ireturn dX4_countDelivered_34 ⟨_, rfl, rfl⟩ ⟨rfl, rfl, rfl⟩
    · refine V_aload_n (i := 0) dX4_countDelivered_12 rfl rfl ?_
      refine V_getfield dX4_countDelivered_13 wr_o fl_X4_31 rfl ?_
      refine V_iload_n (i := 2) dX4_countDelivered_16 rfl rfl ?_
      refine D_aldPc h rfl dX4_countDelivered_17 fun g2 h => ?_
      refine D_cVI (As := []) h dX4_countDelivered_18 cv_X4_174 rfl ⟨_, _, _, (wr_pc g2), rfl, rfl⟩ rfl (Nat.le_of_ble_eq_true rfl) (fun x hx => e_X2_isDelivered (Nat.le_trans (Nat.le_of_ble_eq_true rfl) hf) g2 hx) fun v3 h => ?_
      refine D_if_eq (tgt := 27) h dX4_countDelivered_21 rfl (fun b4 h => ?_) (fun b4 h => ?_)
      · refine D_iinc (i := 2) (w := 1) dX4_countDelivered_27 rfl (by decide) (Nat.le_of_ble_eq_true rfl) ?_
        refine V_goto (tgt := 4) dX4_countDelivered_30 rfl ?_
        exact V_sub (ks := [1, 2, 0]) rfl (ih _ _ h)
      · refine D_iinc (i := 1) (w := 1) dX4_countDelivered_24 rfl (by decide) (Nat.le_of_ble_eq_true rfl) ?_
        refine D_iinc (i := 2) (w := 1) dX4_countDelivered_27 rfl (by decide) (Nat.le_of_ble_eq_true rfl) ?_
        refine V_goto (tgt := 4) dX4_countDelivered_30 rfl ?_
        exact V_sub (ks := [2, 1, 0]) rfl (ih _ _ h)
noncomputable def f_X4_countDelivered (S : Nat → Int32) : Option Int32 :=
  l_X4_countDelivered_4 S FU (0 : Int32) (0 : Int32)
theorem e_X4_countDelivered {G : GT} {f0 : Nat} {p : Nat} {M : MM} {hi k n : Nat} {S : Nat → Int32} {r : Int32} (hf0 : 2 ≤ f0) (h : f_X4_countDelivered S = some r) : Ex G f0 mX4_countDelivered [.ref (p)] (wr p S M) hi k n (RH (.inl (some (.int r))) (wr p S M) hi) := by
  obtain ⟨f, rfl, hf⟩ := suc_of hf0
  unfold f_X4_countDelivered at h
  refine ⟨Nat.le_of_ble_eq_true rfl, ?_⟩
  refine V_iconst (v := 0) dX4_countDelivered_0 (by decide) ?_
  refine V_istore_n (i := 1) dX4_countDelivered_1 rfl (Nat.le_of_ble_eq_true rfl) ?_
  refine V_iconst (v := 0) dX4_countDelivered_2 (by decide) ?_
  refine V_istore_n (i := 2) dX4_countDelivered_3 rfl (Nat.le_of_ble_eq_true rfl) ?_
  refine V_sub (ks := [2, 1, 0]) rfl (lv_X4_countDelivered_4 hf FU _ _ h)
noncomputable def l_X4_countWaitingAt_4 (S : Nat → Int32) (c1 : Int32) : Nat → Int32 → Int32 → Option Int32
  | 0, _, _ => none
  | N + 1, x2, x3 => if (S 4) ≤ x3 then some x2 else gd (inr x3 12) (if (S (143 + 9 * ix x3 + 3)) = c1 then l_X4_countWaitingAt_4 S c1 N (x2 + (1 : Int32)) (x3 + (1 : Int32)) else l_X4_countWaitingAt_4 S c1 N x2 (x3 + (1 : Int32)))
theorem lv_X4_countWaitingAt_4 {G : GT} {f : Nat} {p : Nat} {M : MM} {hi k n : Nat} {S : Nat → Int32} {c1 : Int32} {r : Int32} (hf : 0 ≤ f) : ∀ (N : Nat) (x2 : Int32) (x3 : Int32) , l_X4_countWaitingAt_4 S c1 N x2 x3 = some r → V G f (Ex G f) mX4_countWaitingAt (RH (.inl (some (.int r))) (wr p S M) hi) 4 [(0, .ref (p)), (1, .int c1), (2, .int x2), (3, .int x3)] [] (wr p S M) hi k n := by
  intro N
  induction N with
  | zero => intro x2 x3 h; cases h
  | succ N ih =>
    intro x2 x3 h
    rw [l_X4_countWaitingAt_4] at h
    refine V_iload_n (i := 3) dX4_countWaitingAt_4 rfl rfl ?_
    refine V_aload_n (i := 0) dX4_countWaitingAt_5 rfl rfl ?_
    refine V_getfield dX4_countWaitingAt_6 wr_o fl_X4_68 rfl ?_
    refine D_icmp_ge (tgt := 34) h dX4_countWaitingAt_9 rfl (fun b1 h => ?_) (fun b1 h => ?_)
    · refine V_iload_n (i := 2) dX4_countWaitingAt_34 rfl rfl ?_
      obtain rfl := Option.some.inj h
      exact V_ireturn dX4_countWaitingAt_35 ⟨_, rfl, rfl⟩ ⟨rfl, rfl, rfl⟩
    · refine V_aload_n (i := 0) dX4_countWaitingAt_12 rfl rfl ?_
      refine V_getfield dX4_countWaitingAt_13 wr_o fl_X4_31 rfl ?_
      refine V_iload_n (i := 3) dX4_countWaitingAt_16 rfl rfl ?_
      refine D_aldPc h rfl dX4_countWaitingAt_17 fun g2 h => ?_
      refine V_getfield dX4_countWaitingAt_18 (wr_pc g2) fl_X4_140 rfl ?_
      refine V_iload_n (i := 1) dX4_countWaitingAt_21 rfl rfl ?_
      refine D_icmp_ne (tgt := 28) h dX4_countWaitingAt_22 rfl (fun b3 h => ?_) (fun b3 h => ?_)
      · refine D_iinc (i := 3) (w := 1) dX4_countWaitingAt_28 rfl (by decide) (Nat.le_of_ble_eq_true rfl) ?_
        refine V_goto (tgt := 4) dX4_countWaitingAt_31 rfl ?_
        exact V_sub (ks := [1, 2, 3, 0]) rfl (ih _ _ h)
      · refine D_iinc (i := 2) (w := 1) dX4_countWaitingAt_25 rfl (by decide) (Nat.le_of_ble_eq_true rfl) ?_
        refine D_iinc (i := 3) (w := 1) dX4_countWaitingAt_28 rfl (by decide) (Nat.le_of_ble_eq_true rfl) ?_
        refine V_goto (tgt := 4) dX4_countWaitingAt_31 rfl ?_
        exact V_sub (ks := [2, 3, 1, 0]) rfl (ih _ _ h)
noncomputable def f_X4_countWaitingAt (S : Nat → Int32) (a1 : Int32) : Option Int32 :=
  l_X4_countWaitingAt_4 S a1 FU (0 : Int32) (0 : Int32)
theorem e_X4_countWaitingAt {G : GT} {f0 : Nat} {p : Nat} {M : MM} {hi k n : Nat} {S : Nat → Int32} {a1 : Int32} {r : Int32} (hf0 : 1 ≤ f0) (h : f_X4_countWaitingAt S a1 = some r) : Ex G f0 mX4_countWaitingAt [.ref (p), .int a1] (wr p S M) hi k n (RH (.inl (some (.int r))) (wr p S M) hi) := by
  obtain ⟨f, rfl, hf⟩ := suc_of hf0
  unfold f_X4_countWaitingAt at h
  refine ⟨Nat.le_of_ble_eq_true rfl, ?_⟩
  refine V_iconst (v := 0) dX4_countWaitingAt_0 (by decide) ?_
  refine V_istore_n (i := 2) dX4_countWaitingAt_1 rfl (Nat.le_of_ble_eq_true rfl) ?_
  refine V_iconst (v := 0) dX4_countWaitingAt_2 (by decide) ?_
  refine V_istore_n (i := 3) dX4_countWaitingAt_3 rfl (Nat.le_of_ble_eq_true rfl) ?_
  refine V_sub (ks := [2, 3, 1, 0]) rfl (lv_X4_countWaitingAt_4 hf FU _ _ h)
noncomputable def l_X4_findStation_2 (S : Nat → Int32) (c1 : Int32) : Nat → Int32 → Option Int32
  | 0, _ => none
  | N + 1, x2 => if (S 1) ≤ x2 then some (-1 : Int32) else gd (inr x2 8) (if (S (7 + 4 * ix x2)) = c1 then some x2 else l_X4_findStation_2 S c1 N (x2 + (1 : Int32)))
theorem lv_X4_findStation_2 {G : GT} {f : Nat} {p : Nat} {M : MM} {hi k n : Nat} {S : Nat → Int32} {c1 : Int32} {r : Int32} (hf : 0 ≤ f) : ∀ (N : Nat) (x2 : Int32) , l_X4_findStation_2 S c1 N x2 = some r → V G f (Ex G f) mX4_findStation (RH (.inl (some (.int r))) (wr p S M) hi) 2 [(0, .ref (p)), (1, .int c1), (2, .int x2)] [] (wr p S M) hi k n := by
  intro N
  induction N with
  | zero => intro x2 h; cases h
  | succ N ih =>
    intro x2 h
    rw [l_X4_findStation_2] at h
    refine V_iload_n (i := 2) dX4_findStation_2 rfl rfl ?_
    refine V_aload_n (i := 0) dX4_findStation_3 rfl rfl ?_
    refine V_getfield dX4_findStation_4 wr_o fl_X4_58 rfl ?_
    refine D_icmp_ge (tgt := 31) h dX4_findStation_7 rfl (fun b1 h => ?_) (fun b1 h => ?_)
    · refine V_iconst (v := -1) dX4_findStation_31 (by decide) ?_
      obtain rfl := Option.some.inj h
      exact V_ireturn dX4_findStation_32 ⟨_, rfl, rfl⟩ ⟨rfl, rfl, rfl⟩
    · refine V_aload_n (i := 0) dX4_findStation_10 rfl rfl ?_
      refine V_getfield dX4_findStation_11 wr_o fl_X4_11 rfl ?_
      refine V_iload_n (i := 2) dX4_findStation_14 rfl rfl ?_
      refine D_aldSt h rfl dX4_findStation_15 fun g2 h => ?_
      refine V_getfield dX4_findStation_16 (wr_st g2) fl_X4_83 rfl ?_
      refine V_iload_n (i := 1) dX4_findStation_19 rfl rfl ?_
      refine D_icmp_ne (tgt := 25) h dX4_findStation_20 rfl (fun b3 h => ?_) (fun b3 h => ?_)
      · refine D_iinc (i := 2) (w := 1) dX4_findStation_25 rfl (by decide) (Nat.le_of_ble_eq_true rfl) ?_
        refine V_goto (tgt := 2) dX4_findStation_28 rfl ?_
        exact V_sub (ks := [1, 2, 0]) rfl (ih _ h)
      · refine V_iload_n (i := 2) dX4_findStation_23 rfl rfl ?_
        obtain rfl := Option.some.inj h
        exact V_ireturn dX4_findStation_24 ⟨_, rfl, rfl⟩ ⟨rfl, rfl, rfl⟩
noncomputable def f_X4_findStation (S : Nat → Int32) (a1 : Int32) : Option Int32 :=
  l_X4_findStation_2 S a1 FU (0 : Int32)
theorem e_X4_findStation {G : GT} {f0 : Nat} {p : Nat} {M : MM} {hi k n : Nat} {S : Nat → Int32} {a1 : Int32} {r : Int32} (hf0 : 1 ≤ f0) (h : f_X4_findStation S a1 = some r) : Ex G f0 mX4_findStation [.ref (p), .int a1] (wr p S M) hi k n (RH (.inl (some (.int r))) (wr p S M) hi) := by
  obtain ⟨f, rfl, hf⟩ := suc_of hf0
  unfold f_X4_findStation at h
  refine ⟨Nat.le_of_ble_eq_true rfl, ?_⟩
  refine V_iconst (v := 0) dX4_findStation_0 (by decide) ?_
  refine V_istore_n (i := 2) dX4_findStation_1 rfl (Nat.le_of_ble_eq_true rfl) ?_
  refine V_sub (ks := [1, 2, 0]) rfl (lv_X4_findStation_2 hf FU _ h)
noncomputable def l_X4_loadTrain_2 (c1 : Nat) : Nat → (Nat → Int32) → Int32 → Option (Nat → Int32)
  | 0, _, _ => none
  | N + 1, S, x2 => if (4 : Int32) ≤ x2 then some S else bdc (f_X4_findNextToLoad S c1) (fun v2 => opc v2 (some S) (fun w3 => gd (Nat.blt w3 12) (bdc (f_X4_findDrop S c1 (S (143 + 9 * w3 + 1))) (fun v5 => bdc (f_X2_board S w3 (nI c1) v5) (fun S6 => bnd (upd S6 5 ((S6 5) + (1 : Int32))) (fun S7 => l_X4_loadTrain_2 c1 N S7 (x2 + (1 : Int32))))))))
theorem lv_X4_loadTrain_2 {G : GT} {f : Nat} {p : Nat} {M : MM} {hi k n : Nat} {c1 : Nat} {r : (Nat → Int32)} (hf : 3 ≤ f) (u1 : c1 < 4) : ∀ (N : Nat) (S : Nat → Int32) (x2 : Int32) , l_X4_loadTrain_2 c1 N S x2 = some r → V G f (Ex G f) mX4_loadTrain (RH (.inl none) (wr p r M) hi) 2 [(0, .ref (p)), (1, .ref (p + 26 + 2 * c1)), (2, .int x2)] [] (wr p S M) hi k n := by
  intro N
  induction N with
  | zero => intro S x2 h; cases h
  | succ N ih =>
    intro S x2 h
    rw [l_X4_loadTrain_2] at h
    refine V_iload_n (i := 2) dX4_loadTrain_2 rfl rfl ?_
    refine V_iconst (v := 4) dX4_loadTrain_3 (by decide) ?_
    refine D_icmp_ge (tgt := 51) h dX4_loadTrain_4 rfl (fun b1 h => ?_) (fun b1 h => ?_)
    · obtain rfl := Option.some.inj h
      exact V_return dX4_loadTrain_51 rfl ⟨rfl, rfl, rfl⟩
    · refine V_aload_n (i := 0) dX4_loadTrain_7 rfl rfl ?_
      refine V_aload_n (i := 1) dX4_loadTrain_8 rfl rfl ?_
      refine D_cVP (q := p + 34) (As := [_]) h dX4_loadTrain_9 cv_X4_222 rfl ⟨_, _, _, wr_o, rfl, rfl⟩ rfl (Nat.le_of_ble_eq_true rfl) (fun x hx => e_X4_findNextToLoad (Nat.le_trans (Nat.le_of_ble_eq_true rfl) hf) u1 hx) fun v2 h => ?_
      cases v2 with
      | none =>
        replace h := opc_n h
        refine V_astore_nN (i := 3) dX4_loadTrain_12 rfl (Nat.le_of_ble_eq_true rfl) ?_
        refine V_aload_nN (i := 3) dX4_loadTrain_13 rfl rfl ?_
        refine V_ifnonnullN dX4_loadTrain_14 ?_
        obtain rfl := Option.some.inj h
        exact V_return dX4_loadTrain_17 rfl ⟨rfl, rfl, rfl⟩
      | some w3 =>
        replace h := opc_s h
        refine D_gd h fun g4 h => ?_
        refine V_astore_n (i := 3) dX4_loadTrain_12 rfl (Nat.le_of_ble_eq_true rfl) ?_
        refine V_aload_n (i := 3) dX4_loadTrain_13 rfl rfl ?_
        refine V_ifnonnull (tgt := 18) dX4_loadTrain_14 rfl ?_
        refine V_aload_n (i := 3) dX4_loadTrain_18 rfl rfl ?_
        refine V_aload_n (i := 1) dX4_loadTrain_19 rfl rfl ?_
        refine V_getfield dX4_loadTrain_20 (wr_tr u1) fl_X4_189 rfl ?_
        refine V_aload_n (i := 0) dX4_loadTrain_23 rfl rfl ?_
        refine V_aload_n (i := 1) dX4_loadTrain_24 rfl rfl ?_
        refine V_aload_n (i := 3) dX4_loadTrain_25 rfl rfl ?_
        refine V_getfield dX4_loadTrain_26 (wr_pc (Nat.blt_eq.mp g4)) fl_X4_136 rfl ?_
        refine D_cVI (As := [_, _]) h dX4_loadTrain_29 cv_X4_195 rfl ⟨_, _, _, wr_o, rfl, rfl⟩ rfl (Nat.le_of_ble_eq_true rfl) (fun x hx => e_X4_findDrop (Nat.le_trans (Nat.le_of_ble_eq_true rfl) hf) u1 hx) fun v5 h => ?_
        refine D_cVU (As := [_, _]) (μ := fun S6 => (wr p S6 M)) h dX4_loadTrain_32 cv_X4_226 rfl ⟨_, _, _, (wr_pc (Nat.blt_eq.mp g4)), rfl, rfl⟩ rfl (Nat.le_of_ble_eq_true rfl) (fun y hx => e_X2_board (Nat.le_trans (Nat.le_of_ble_eq_true rfl) hf) (Nat.blt_eq.mp g4) hx) fun S6 h => ?_
        refine V_aload_n (i := 0) dX4_loadTrain_35 rfl rfl ?_
        refine V_dup dX4_loadTrain_36 rfl ?_
        refine V_getfield dX4_loadTrain_37 wr_o fl_X4_74 rfl ?_
        refine V_iconst (v := 1) dX4_loadTrain_40 (by decide) ?_
        refine V_iadd dX4_loadTrain_41 ?_
        refine D_pf_X4_10 h dX4_loadTrain_42 (fp_X4_74 rfl) fun S7 h => ?_
        refine D_iinc (i := 2) (w := 1) dX4_loadTrain_45 rfl (by decide) (Nat.le_of_ble_eq_true rfl) ?_
        refine V_goto (tgt := 2) dX4_loadTrain_48 rfl ?_
        exact V_sub (ks := [2, 3, 0]) rfl (ih _ _ h)
noncomputable def f_X4_loadTrain (S : Nat → Int32) (i1 : Nat) : Option (Nat → Int32) :=
  l_X4_loadTrain_2 i1 FU S (0 : Int32)
theorem e_X4_loadTrain {G : GT} {f0 : Nat} {p : Nat} {M : MM} {hi k n : Nat} {S : Nat → Int32} {i1 : Nat} {r : (Nat → Int32)} (hf0 : 4 ≤ f0) (t1 : i1 < 4) (h : f_X4_loadTrain S i1 = some r) : Ex G f0 mX4_loadTrain [.ref (p), .ref (p + 26 + 2 * i1)] (wr p S M) hi k n (RH (.inl none) (wr p r M) hi) := by
  obtain ⟨f, rfl, hf⟩ := suc_of hf0
  unfold f_X4_loadTrain at h
  refine ⟨Nat.le_of_ble_eq_true rfl, ?_⟩
  refine V_iconst (v := 0) dX4_loadTrain_0 (by decide) ?_
  refine V_istore_n (i := 2) dX4_loadTrain_1 rfl (Nat.le_of_ble_eq_true rfl) ?_
  refine V_sub (ks := [1, 2, 0]) rfl (lv_X4_loadTrain_2 hf t1 FU _ _ h)
noncomputable def f_X4_makeParcel (S : Nat → Int32) (a1 : Int32) (a2 : Int32) (a3 : Int32) : Option (Nat → Int32) :=
  if (S 4) < (12 : Int32) then gd (inr (S 4) 12) (bnd (upd S (143 + 9 * ix (S 4)) a1) (fun S3 => bnd (upd S3 (143 + 9 * ix (S 4) + 1) a2) (fun S4 => bnd (upd S4 (143 + 9 * ix (S 4) + 2) a3) (fun S5 => bnd (upd S5 (143 + 9 * ix (S 4) + 3) a1) (fun S6 => bnd (upd S6 (143 + 9 * ix (S 4) + 4) (-1 : Int32)) (fun S7 => bnd (upd S7 (143 + 9 * ix (S 4) + 8) (-1 : Int32)) (fun S8 => bnd (upd S8 (143 + 9 * ix (S 4) + 5) (-1 : Int32)) (fun S9 => bnd (upd S9 (143 + 9 * ix (S 4) + 6) (0 : Int32)) (fun S10 => bnd (upd S10 (143 + 9 * ix (S 4) + 7) (0 : Int32)) (fun S11 => bnd (upd S11 4 ((S11 4) + (1 : Int32))) (fun S12 => some S12))))))))))) else some S
theorem e_X4_makeParcel {G : GT} {f0 : Nat} {p : Nat} {M : MM} {hi k n : Nat} {S : Nat → Int32} {a1 : Int32} {a2 : Int32} {a3 : Int32} {r : (Nat → Int32)} (hf0 : 1 ≤ f0) (h : f_X4_makeParcel S a1 a2 a3 = some r) : Ex G f0 mX4_makeParcel [.ref (p), .int a1, .int a2, .int a3] (wr p S M) hi k n (RH (.inl none) (wr p r M) hi) := by
  obtain ⟨f, rfl, hf⟩ := suc_of hf0
  unfold f_X4_makeParcel at h
  refine ⟨Nat.le_of_ble_eq_true rfl, ?_⟩
  refine V_aload_n (i := 0) dX4_makeParcel_0 rfl rfl ?_
  refine V_getfield dX4_makeParcel_1 wr_o fl_X4_68 rfl ?_
  refine V_bipush (v := 12) dX4_makeParcel_4 (by decide) ?_
  refine D_icmp_lt (tgt := 10) h dX4_makeParcel_6 rfl (fun b1 h => ?_) (fun b1 h => ?_)
  · refine V_aload_n (i := 0) dX4_makeParcel_10 rfl rfl ?_
    refine V_getfield dX4_makeParcel_11 wr_o fl_X4_31 rfl ?_
    refine V_aload_n (i := 0) dX4_makeParcel_14 rfl rfl ?_
    refine V_getfield dX4_makeParcel_15 wr_o fl_X4_68 rfl ?_
    refine D_aldPc h rfl dX4_makeParcel_18 fun g2 h => ?_
    refine V_astore (i := 4) dX4_makeParcel_19 (Nat.le_of_ble_eq_true rfl) ?_
    refine V_aload (i := 4) dX4_makeParcel_21 rfl ?_
    refine V_iload_n (i := 1) dX4_makeParcel_23 rfl rfl ?_
    refine D_pf_X2_1 h dX4_makeParcel_24 (fp_X4_135 rfl) g2 fun S3 h => ?_
    refine V_aload (i := 4) dX4_makeParcel_27 rfl ?_
    refine V_iload_n (i := 2) dX4_makeParcel_29 rfl rfl ?_
    refine D_pf_X2_2 h dX4_makeParcel_30 (fp_X4_136 rfl) g2 fun S4 h => ?_
    refine V_aload (i := 4) dX4_makeParcel_33 rfl ?_
    refine V_iload_n (i := 3) dX4_makeParcel_35 rfl rfl ?_
    refine D_pf_X2_3 h dX4_makeParcel_36 (fp_X4_137 rfl) g2 fun S5 h => ?_
    refine V_aload (i := 4) dX4_makeParcel_39 rfl ?_
    refine V_iload_n (i := 1) dX4_makeParcel_41 rfl rfl ?_
    refine D_pf_X2_4 h dX4_makeParcel_42 (fp_X4_140 rfl) g2 fun S6 h => ?_
    refine V_aload (i := 4) dX4_makeParcel_45 rfl ?_
    refine V_iconst (v := -1) dX4_makeParcel_47 (by decide) ?_
    refine D_pf_X2_5 h dX4_makeParcel_48 (fp_X4_143 rfl) g2 fun S7 h => ?_
    refine V_aload (i := 4) dX4_makeParcel_51 rfl ?_
    refine V_iconst (v := -1) dX4_makeParcel_53 (by decide) ?_
    refine D_pf_X2_6 h dX4_makeParcel_54 (fp_X4_146 rfl) g2 fun S8 h => ?_
    refine V_aload (i := 4) dX4_makeParcel_57 rfl ?_
    refine V_iconst (v := -1) dX4_makeParcel_59 (by decide) ?_
    refine D_pf_X2_7 h dX4_makeParcel_60 (fp_X4_149 rfl) g2 fun S9 h => ?_
    refine V_aload (i := 4) dX4_makeParcel_63 rfl ?_
    refine V_iconst (v := 0) dX4_makeParcel_65 (by decide) ?_
    refine D_pf_X2_8 h dX4_makeParcel_66 (fp_X4_152 rfl) g2 fun S10 h => ?_
    refine V_aload (i := 4) dX4_makeParcel_69 rfl ?_
    refine V_iconst (v := 0) dX4_makeParcel_71 (by decide) ?_
    refine D_pf_X2_9 h dX4_makeParcel_72 (fp_X4_155 rfl) g2 fun S11 h => ?_
    refine V_aload_n (i := 0) dX4_makeParcel_75 rfl rfl ?_
    refine V_dup dX4_makeParcel_76 rfl ?_
    refine V_getfield dX4_makeParcel_77 wr_o fl_X4_68 rfl ?_
    refine V_iconst (v := 1) dX4_makeParcel_80 (by decide) ?_
    refine V_iadd dX4_makeParcel_81 ?_
    refine D_pf_X4_8 h dX4_makeParcel_82 (fp_X4_68 rfl) fun S12 h => ?_
    obtain rfl := Option.some.inj h
    exact V_return dX4_makeParcel_85 rfl ⟨rfl, rfl, rfl⟩
  · obtain rfl := Option.some.inj h
    exact V_return dX4_makeParcel_9 rfl ⟨rfl, rfl, rfl⟩
noncomputable def f_X4_makeStation (S : Nat → Int32) (a1 : Int32) (a2 : Int32) : Option (Nat → Int32) :=
  if (S 1) < (8 : Int32) then gd (inr (S 1) 8) (bnd (upd S (7 + 4 * ix (S 1)) a1) (fun S3 => gd (z01 a2) (bnd (upd S3 (7 + 4 * ix (S 1) + 1) a2) (fun S4 => bnd (upd S4 (7 + 4 * ix (S 1) + 2) (0 : Int32)) (fun S6 => bnd (upd S6 (7 + 4 * ix (S 1) + 3) (-1 : Int32)) (fun S7 => bnd (upd S7 1 ((S7 1) + (1 : Int32))) (fun S8 => some S8))))))) else some S
theorem e_X4_makeStation {G : GT} {f0 : Nat} {p : Nat} {M : MM} {hi k n : Nat} {S : Nat → Int32} {a1 : Int32} {a2 : Int32} {r : (Nat → Int32)} (hf0 : 1 ≤ f0) (h : f_X4_makeStation S a1 a2 = some r) : Ex G f0 mX4_makeStation [.ref (p), .int a1, .int a2] (wr p S M) hi k n (RH (.inl none) (wr p r M) hi) := by
  obtain ⟨f, rfl, hf⟩ := suc_of hf0
  unfold f_X4_makeStation at h
  refine ⟨Nat.le_of_ble_eq_true rfl, ?_⟩
  refine V_aload_n (i := 0) dX4_makeStation_0 rfl rfl ?_
  refine V_getfield dX4_makeStation_1 wr_o fl_X4_58 rfl ?_
  refine V_bipush (v := 8) dX4_makeStation_4 (by decide) ?_
  refine D_icmp_lt (tgt := 10) h dX4_makeStation_6 rfl (fun b1 h => ?_) (fun b1 h => ?_)
  · refine V_aload_n (i := 0) dX4_makeStation_10 rfl rfl ?_
    refine V_getfield dX4_makeStation_11 wr_o fl_X4_11 rfl ?_
    refine V_aload_n (i := 0) dX4_makeStation_14 rfl rfl ?_
    refine V_getfield dX4_makeStation_15 wr_o fl_X4_58 rfl ?_
    refine D_aldSt h rfl dX4_makeStation_18 fun g2 h => ?_
    refine V_astore_n (i := 3) dX4_makeStation_19 rfl (Nat.le_of_ble_eq_true rfl) ?_
    refine V_aload_n (i := 3) dX4_makeStation_20 rfl rfl ?_
    refine V_iload_n (i := 1) dX4_makeStation_21 rfl rfl ?_
    refine D_pf_X5_0 h dX4_makeStation_22 (fp_X4_83 rfl) g2 fun S3 h => ?_
    refine V_aload_n (i := 3) dX4_makeStation_25 rfl rfl ?_
    refine V_iload_n (i := 2) dX4_makeStation_26 rfl rfl ?_
    refine D_gd h fun g5 h => ?_
    refine D_pf_X5_1 h dX4_makeStation_27 (fp_X4_86 rfl) (z01_ok g5) g2 fun S4 h => ?_
    refine V_aload_n (i := 3) dX4_makeStation_30 rfl rfl ?_
    refine V_iconst (v := 0) dX4_makeStation_31 (by decide) ?_
    refine D_pf_X5_2 h dX4_makeStation_32 (fp_X4_90 rfl) g2 fun S6 h => ?_
    refine V_aload_n (i := 3) dX4_makeStation_35 rfl rfl ?_
    refine V_iconst (v := -1) dX4_makeStation_36 (by decide) ?_
    refine D_pf_X5_3 h dX4_makeStation_37 (fp_X4_93 rfl) g2 fun S7 h => ?_
    refine V_aload_n (i := 0) dX4_makeStation_40 rfl rfl ?_
    refine V_dup dX4_makeStation_41 rfl ?_
    refine V_getfield dX4_makeStation_42 wr_o fl_X4_58 rfl ?_
    refine V_iconst (v := 1) dX4_makeStation_45 (by decide) ?_
    refine V_iadd dX4_makeStation_46 ?_
    refine D_pf_X4_5 h dX4_makeStation_47 (fp_X4_58 rfl) fun S8 h => ?_
    obtain rfl := Option.some.inj h
    exact V_return dX4_makeStation_50 rfl ⟨rfl, rfl, rfl⟩
  · obtain rfl := Option.some.inj h
    exact V_return dX4_makeStation_9 rfl ⟨rfl, rfl, rfl⟩
noncomputable def f_X4_makeTrack (S : Nat → Int32) (a1 : Int32) (a2 : Int32) (a3 : Int32) : Option (Nat → Int32) :=
  if (S 2) < (12 : Int32) then gd (inr (S 2) 12) (bnd (upd S (39 + 4 * ix (S 2)) a1) (fun S3 => bnd (upd S3 (39 + 4 * ix (S 2) + 1) a2) (fun S4 => bnd (upd S4 (39 + 4 * ix (S 2) + 2) a3) (fun S5 => bnd (upd S5 (39 + 4 * ix (S 2) + 3) (1 : Int32)) (fun S6 => bnd (upd S6 2 ((S6 2) + (1 : Int32))) (fun S7 => bdc (f_X4_measureDistances S7) (fun S8 => some S8))))))) else some S
theorem e_X4_makeTrack {G : GT} {f0 : Nat} {p : Nat} {M : MM} {hi k n : Nat} {S : Nat → Int32} {a1 : Int32} {a2 : Int32} {a3 : Int32} {r : (Nat → Int32)} (hf0 : 3 ≤ f0) (h : f_X4_makeTrack S a1 a2 a3 = some r) : Ex G f0 mX4_makeTrack [.ref (p), .int a1, .int a2, .int a3] (wr p S M) hi k n (RH (.inl none) (wr p r M) hi) := by
  obtain ⟨f, rfl, hf⟩ := suc_of hf0
  unfold f_X4_makeTrack at h
  refine ⟨Nat.le_of_ble_eq_true rfl, ?_⟩
  refine V_aload_n (i := 0) dX4_makeTrack_0 rfl rfl ?_
  refine V_getfield dX4_makeTrack_1 wr_o fl_X4_62 rfl ?_
  refine V_bipush (v := 12) dX4_makeTrack_4 (by decide) ?_
  refine D_icmp_lt (tgt := 10) h dX4_makeTrack_6 rfl (fun b1 h => ?_) (fun b1 h => ?_)
  · refine V_aload_n (i := 0) dX4_makeTrack_10 rfl rfl ?_
    refine V_getfield dX4_makeTrack_11 wr_o fl_X4_19 rfl ?_
    refine V_aload_n (i := 0) dX4_makeTrack_14 rfl rfl ?_
    refine V_getfield dX4_makeTrack_15 wr_o fl_X4_62 rfl ?_
    refine D_aldTk h rfl dX4_makeTrack_18 fun g2 h => ?_
    refine V_astore (i := 4) dX4_makeTrack_19 (Nat.le_of_ble_eq_true rfl) ?_
    refine V_aload (i := 4) dX4_makeTrack_21 rfl ?_
    refine V_iload_n (i := 1) dX4_makeTrack_23 rfl rfl ?_
    refine D_pf_X7_0 h dX4_makeTrack_24 (fp_X4_96 rfl) g2 fun S3 h => ?_
    refine V_aload (i := 4) dX4_makeTrack_27 rfl ?_
    refine V_iload_n (i := 2) dX4_makeTrack_29 rfl rfl ?_
    refine D_pf_X7_1 h dX4_makeTrack_30 (fp_X4_99 rfl) g2 fun S4 h => ?_
    refine V_aload (i := 4) dX4_makeTrack_33 rfl ?_
    refine V_iload_n (i := 3) dX4_makeTrack_35 rfl rfl ?_
    refine D_pf_X7_2 h dX4_makeTrack_36 (fp_X4_102 rfl) g2 fun S5 h => ?_
    refine V_aload (i := 4) dX4_makeTrack_39 rfl ?_
    refine V_iconst (v := 1) dX4_makeTrack_41 (by decide) ?_
    refine D_pf_X7_3 h dX4_makeTrack_42 (fp_X4_105 rfl) (by decide) g2 fun S6 h => ?_
    refine V_aload_n (i := 0) dX4_makeTrack_45 rfl rfl ?_
    refine V_dup dX4_makeTrack_46 rfl ?_
    refine V_getfield dX4_makeTrack_47 wr_o fl_X4_62 rfl ?_
    refine V_iconst (v := 1) dX4_makeTrack_50 (by decide) ?_
    refine V_iadd dX4_makeTrack_51 ?_
    refine D_pf_X4_6 h dX4_makeTrack_52 (fp_X4_62 rfl) fun S7 h => ?_
    refine V_aload_n (i := 0) dX4_makeTrack_55 rfl rfl ?_
    refine D_cVU (As := []) (μ := fun S8 => (wr p S8 M)) h dX4_makeTrack_56 cv_X4_80 rfl ⟨_, _, _, wr_o, rfl, rfl⟩ rfl (Nat.le_of_ble_eq_true rfl) (fun y hx => e_X4_measureDistances (Nat.le_trans (Nat.le_of_ble_eq_true rfl) hf) hx) fun S8 h => ?_
    obtain rfl := Option.some.inj h
    exact V_return dX4_makeTrack_59 rfl ⟨rfl, rfl, rfl⟩
  · obtain rfl := Option.some.inj h
    exact V_return dX4_makeTrack_9 rfl ⟨rfl, rfl, rfl⟩
noncomputable def l_X4_makeTrain_35 (R0 : Nat → Int32) (c3 : Int32) (c4 : Nat) (K84 : (Nat → Int32) → Option (Nat → Int32)) : Nat → (Nat → Int32) → Int32 → Option (Nat → Int32)
  | 0, _, _ => none
  | N + 1, S, x5 => if c3 ≤ x5 then K84 S else if (6 : Int32) ≤ x5 then K84 S else if (6 : Int32) ≤ x5 then K84 S else gd (inr x5 6) (gd (inr x5 6) (bnd (upd S (87 + 14 * c4 + 2 + ix x5) (R0 (ix x5))) (fun S8 => bnd (upd S8 (87 + 14 * c4 + 1) ((S8 (87 + 14 * c4 + 1)) + (1 : Int32))) (fun S9 => l_X4_makeTrain_35 R0 c3 c4 K84 N S9 (x5 + (1 : Int32))))))
theorem lv_X4_makeTrain_35 {G : GT} {f : Nat} {p : Nat} {ra : Nat} {M : MM} {hi k n : Nat} {R0 : Nat → Int32} {c3 : Int32} {c4 : Nat} {K84 : (Nat → Int32) → Option (Nat → Int32)} {r : (Nat → Int32)} (hf : 0 ≤ f) (hrt : M ra = some (.inl (1, 6, .inl R0)) ∧ (ra < p ∨ p + 46 ≤ ra)) (u4 : c4 < 4) (hK84 : ∀ (Sk : Nat → Int32), K84 Sk = some r → V G f (Ex G f) mX4_makeTrain (RH (.inl none) (wr p r M) hi) 84 [(0, .ref (p)), (4, .ref (p + 26 + 2 * c4))] [] (wr p Sk M) hi k n) : ∀ (N : Nat) (S : Nat → Int32) (x5 : Int32) , l_X4_makeTrain_35 R0 c3 c4 K84 N S x5 = some r → V G f (Ex G f) mX4_makeTrain (RH (.inl none) (wr p r M) hi) 35 [(0, .ref (p)), (2, .ref (ra)), (3, .int c3), (4, .ref (p + 26 + 2 * c4)), (5, .int x5)] [] (wr p S M) hi k n := by
  intro N
  induction N with
  | zero => intro S x5 h; cases h
  | succ N ih =>
    intro S x5 h
    rw [l_X4_makeTrain_35] at h
    refine V_iload (i := 5) dX4_makeTrain_35 rfl ?_
    refine V_iload_n (i := 3) dX4_makeTrain_37 rfl rfl ?_
    refine D_icmp_ge (tgt := 84) h dX4_makeTrain_38 rfl (fun b5 h => ?_) (fun b5 h => ?_)
    · exact V_sub (ks := [0, 3]) rfl (hK84 _ h)
    · refine V_iload (i := 5) dX4_makeTrain_41 rfl ?_
      refine V_aload_n (i := 2) dX4_makeTrain_43 rfl rfl ?_
      refine V_alen (t := 1) (v := 6) dX4_makeTrain_44 ((wr_out hrt.2).trans hrt.1) (by decide) rfl ?_
      refine D_icmp_ge (tgt := 84) h dX4_makeTrain_45 rfl (fun b6 h => ?_) (fun b6 h => ?_)
      · exact V_sub (ks := [0, 3]) rfl (hK84 _ h)
      · refine V_iload (i := 5) dX4_makeTrain_48 rfl ?_
        refine V_bipush (v := 6) dX4_makeTrain_50 (by decide) ?_
        refine D_icmp_ge (tgt := 84) h dX4_makeTrain_52 rfl (fun b7 h => ?_) (fun b7 h => ?_)
        · exact V_sub (ks := [0, 3]) rfl (hK84 _ h)
        · refine V_aload (i := 4) dX4_makeTrain_55 rfl ?_
          refine V_getfield dX4_makeTrain_57 (wr_tr u4) fl_X4_114 rfl ?_
          refine V_iload (i := 5) dX4_makeTrain_60 rfl ?_
          refine V_aload_n (i := 2) dX4_makeTrain_62 rfl rfl ?_
          refine V_iload (i := 5) dX4_makeTrain_63 rfl ?_
          refine D_ild h ((wr_out hrt.2).trans hrt.1) dX4_makeTrain_65 fun h => ?_
          refine D_istR h u4 dX4_makeTrain_66 fun S8 h => ?_
          refine V_aload (i := 4) dX4_makeTrain_67 rfl ?_
          refine V_dup dX4_makeTrain_69 rfl ?_
          refine V_getfield dX4_makeTrain_70 (wr_tr u4) fl_X4_111 rfl ?_
          refine V_iconst (v := 1) dX4_makeTrain_73 (by decide) ?_
          refine V_iadd dX4_makeTrain_74 ?_
          refine D_pf_X8_3 h dX4_makeTrain_75 (fp_X4_111 rfl) u4 fun S9 h => ?_
          refine D_iinc (i := 5) (w := 1) dX4_makeTrain_78 rfl (by decide) (Nat.le_of_ble_eq_true rfl) ?_
          refine V_goto (tgt := 35) dX4_makeTrain_81 rfl ?_
          exact V_sub (ks := [1, 2, 3, 4, 0]) rfl (ih _ _ h)
noncomputable def f_X4_makeTrain (S : Nat → Int32) (a1 : Int32) (R0 : Nat → Int32) (a3 : Int32) : Option (Nat → Int32) :=
  if (S 3) < (4 : Int32) then gd (inr (S 3) 4) (bnd (upd S (87 + 14 * ix (S 3)) a1) (fun S3 => bnd (upd S3 (87 + 14 * ix (S 3) + 1) (0 : Int32)) (fun S4 => l_X4_makeTrain_35 R0 a3 (ix (S 3)) (fun (S10 : Nat → Int32) => bnd (upd S10 (87 + 14 * ix (S 3) + 8) (0 : Int32)) (fun S11 => bnd (upd S11 (87 + 14 * ix (S 3) + 9) (1 : Int32)) (fun S12 => bnd (upd S12 (87 + 14 * ix (S 3) + 10) (0 : Int32)) (fun S13 => bnd (upd S13 (87 + 14 * ix (S 3) + 11) (0 : Int32)) (fun S14 => bnd (upd S14 (87 + 14 * ix (S 3) + 12) (0 : Int32)) (fun S15 => bnd (upd S15 (87 + 14 * ix (S 3) + 13) (0 : Int32)) (fun S16 => bnd (upd S16 3 ((S16 3) + (1 : Int32))) (fun S17 => some S17)))))))) FU S4 (0 : Int32)))) else some S
theorem e_X4_makeTrain {G : GT} {f0 : Nat} {p : Nat} {ra : Nat} {M : MM} {hi k n : Nat} {S : Nat → Int32} {a1 : Int32} {R0 : Nat → Int32} {a3 : Int32} {r : (Nat → Int32)} (hf0 : 1 ≤ f0) (hrt : M ra = some (.inl (1, 6, .inl R0)) ∧ (ra < p ∨ p + 46 ≤ ra)) (h : f_X4_makeTrain S a1 R0 a3 = some r) : Ex G f0 mX4_makeTrain [.ref (p), .int a1, .ref (ra), .int a3] (wr p S M) hi k n (RH (.inl none) (wr p r M) hi) := by
  obtain ⟨f, rfl, hf⟩ := suc_of hf0
  unfold f_X4_makeTrain at h
  refine ⟨Nat.le_of_ble_eq_true rfl, ?_⟩
  refine V_aload_n (i := 0) dX4_makeTrain_0 rfl rfl ?_
  refine V_getfield dX4_makeTrain_1 wr_o fl_X4_65 rfl ?_
  refine V_iconst (v := 4) dX4_makeTrain_4 (by decide) ?_
  refine D_icmp_lt (tgt := 9) h dX4_makeTrain_5 rfl (fun b1 h => ?_) (fun b1 h => ?_)
  · refine V_aload_n (i := 0) dX4_makeTrain_9 rfl rfl ?_
    refine V_getfield dX4_makeTrain_10 wr_o fl_X4_25 rfl ?_
    refine V_aload_n (i := 0) dX4_makeTrain_13 rfl rfl ?_
    refine V_getfield dX4_makeTrain_14 wr_o fl_X4_65 rfl ?_
    refine D_aldTr h rfl dX4_makeTrain_17 fun g2 h => ?_
    refine V_astore (i := 4) dX4_makeTrain_18 (Nat.le_of_ble_eq_true rfl) ?_
    refine V_aload (i := 4) dX4_makeTrain_20 rfl ?_
    refine V_iload_n (i := 1) dX4_makeTrain_22 rfl rfl ?_
    refine D_pf_X8_1 h dX4_makeTrain_23 (fp_X4_108 rfl) g2 fun S3 h => ?_
    refine V_aload (i := 4) dX4_makeTrain_26 rfl ?_
    refine V_iconst (v := 0) dX4_makeTrain_28 (by decide) ?_
    refine D_pf_X8_3 h dX4_makeTrain_29 (fp_X4_111 rfl) g2 fun S4 h => ?_
    refine V_iconst (v := 0) dX4_makeTrain_32 (by decide) ?_
    refine V_istore (i := 5) dX4_makeTrain_33 (Nat.le_of_ble_eq_true rfl) ?_
    refine V_sub (ks := [2, 4, 5, 1, 0]) rfl (lv_X4_makeTrain_35 hf hrt g2 ?_ FU _ _ h)
    · intro S10 h
      refine V_aload (i := 4) dX4_makeTrain_84 rfl ?_
      refine V_iconst (v := 0) dX4_makeTrain_86 (by decide) ?_
      refine D_pf_X8_4 h dX4_makeTrain_87 (fp_X4_117 rfl) g2 fun S11 h => ?_
      refine V_aload (i := 4) dX4_makeTrain_90 rfl ?_
      refine V_iconst (v := 1) dX4_makeTrain_92 (by decide) ?_
      refine D_pf_X8_5 h dX4_makeTrain_93 (fp_X4_120 rfl) (by decide) g2 fun S12 h => ?_
      refine V_aload (i := 4) dX4_makeTrain_96 rfl ?_
      refine V_iconst (v := 0) dX4_makeTrain_98 (by decide) ?_
      refine D_pf_X8_6 h dX4_makeTrain_99 (fp_X4_123 rfl) g2 fun S13 h => ?_
      refine V_aload (i := 4) dX4_makeTrain_102 rfl ?_
      refine V_iconst (v := 0) dX4_makeTrain_104 (by decide) ?_
      refine D_pf_X8_7 h dX4_makeTrain_105 (fp_X4_126 rfl) g2 fun S14 h => ?_
      refine V_aload (i := 4) dX4_makeTrain_108 rfl ?_
      refine V_iconst (v := 0) dX4_makeTrain_110 (by decide) ?_
      refine D_pf_X8_8 h dX4_makeTrain_111 (fp_X4_129 rfl) g2 fun S15 h => ?_
      refine V_aload (i := 4) dX4_makeTrain_114 rfl ?_
      refine V_iconst (v := 0) dX4_makeTrain_116 (by decide) ?_
      refine D_pf_X8_9 h dX4_makeTrain_117 (fp_X4_132 rfl) g2 fun S16 h => ?_
      refine V_aload_n (i := 0) dX4_makeTrain_120 rfl rfl ?_
      refine V_dup dX4_makeTrain_121 rfl ?_
      refine V_getfield dX4_makeTrain_122 wr_o fl_X4_65 rfl ?_
      refine V_iconst (v := 1) dX4_makeTrain_125 (by decide) ?_
      refine V_iadd dX4_makeTrain_126 ?_
      refine D_pf_X4_7 h dX4_makeTrain_127 (fp_X4_65 rfl) fun S17 h => ?_
      obtain rfl := Option.some.inj h
      exact V_return dX4_makeTrain_130 rfl ⟨rfl, rfl, rfl⟩
  · obtain rfl := Option.some.inj h
    exact V_return dX4_makeTrain_8 rfl ⟨rfl, rfl, rfl⟩
noncomputable def f_X4_openTrack (S : Nat → Int32) (a1 : Int32) (a2 : Int32) : Option (Nat → Int32) :=
  if a1 < 0 then some S else if a1 < (S 2) then gd (inr a1 12) (gd (z01 a2) (bnd (upd S (39 + 4 * ix a1 + 3) a2) (fun S4 => bdc (f_X4_measureDistances S4) (fun S6 => some S6)))) else some S
theorem e_X4_openTrack {G : GT} {f0 : Nat} {p : Nat} {M : MM} {hi k n : Nat} {S : Nat → Int32} {a1 : Int32} {a2 : Int32} {r : (Nat → Int32)} (hf0 : 3 ≤ f0) (h : f_X4_openTrack S a1 a2 = some r) : Ex G f0 mX4_openTrack [.ref (p), .int a1, .int a2] (wr p S M) hi k n (RH (.inl none) (wr p r M) hi) := by
  obtain ⟨f, rfl, hf⟩ := suc_of hf0
  unfold f_X4_openTrack at h
  refine ⟨Nat.le_of_ble_eq_true rfl, ?_⟩
  refine V_iload_n (i := 1) dX4_openTrack_0 rfl rfl ?_
  refine D_if_lt (tgt := 12) h dX4_openTrack_1 rfl (fun b1 h => ?_) (fun b1 h => ?_)
  · obtain rfl := Option.some.inj h
    exact V_return dX4_openTrack_12 rfl ⟨rfl, rfl, rfl⟩
  · refine V_iload_n (i := 1) dX4_openTrack_4 rfl rfl ?_
    refine V_aload_n (i := 0) dX4_openTrack_5 rfl rfl ?_
    refine V_getfield dX4_openTrack_6 wr_o fl_X4_62 rfl ?_
    refine D_icmp_lt (tgt := 13) h dX4_openTrack_9 rfl (fun b2 h => ?_) (fun b2 h => ?_)
    · refine V_aload_n (i := 0) dX4_openTrack_13 rfl rfl ?_
      refine V_getfield dX4_openTrack_14 wr_o fl_X4_19 rfl ?_
      refine V_iload_n (i := 1) dX4_openTrack_17 rfl rfl ?_
      refine D_aldTk h rfl dX4_openTrack_18 fun g3 h => ?_
      refine V_iload_n (i := 2) dX4_openTrack_19 rfl rfl ?_
      refine D_gd h fun g5 h => ?_
      refine D_pf_X7_3 h dX4_openTrack_20 (fp_X4_105 rfl) (z01_ok g5) g3 fun S4 h => ?_
      refine V_aload_n (i := 0) dX4_openTrack_23 rfl rfl ?_
      refine D_cVU (As := []) (μ := fun S6 => (wr p S6 M)) h dX4_openTrack_24 cv_X4_80 rfl ⟨_, _, _, wr_o, rfl, rfl⟩ rfl (Nat.le_of_ble_eq_true rfl) (fun y hx => e_X4_measureDistances (Nat.le_trans (Nat.le_of_ble_eq_true rfl) hf) hx) fun S6 h => ?_
      obtain rfl := Option.some.inj h
      exact V_return dX4_openTrack_27 rfl ⟨rfl, rfl, rfl⟩
    · obtain rfl := Option.some.inj h
      exact V_return dX4_openTrack_12 rfl ⟨rfl, rfl, rfl⟩
noncomputable def f_X8_isStanding (S : Nat → Int32) (i0 : Nat) : Option Int32 :=
  if (S (87 + 14 * i0 + 10)) = 0 then some (1 : Int32) else some (0 : Int32)
theorem e_X8_isStanding {G : GT} {f0 : Nat} {p : Nat} {M : MM} {hi k n : Nat} {S : Nat → Int32} {i0 : Nat} {r : Int32} (hf0 : 1 ≤ f0) (t0 : i0 < 4) (h : f_X8_isStanding S i0 = some r) : Ex G f0 mX8_isStanding [.ref (p + 26 + 2 * i0)] (wr p S M) hi k n (RH (.inl (some (.int r))) (wr p S M) hi) := by
  obtain ⟨f, rfl, hf⟩ := suc_of hf0
  unfold f_X8_isStanding at h
  refine ⟨Nat.le_of_ble_eq_true rfl, ?_⟩
  refine V_aload_n (i := 0) dX8_isStanding_0 rfl rfl ?_
  refine V_getfield dX8_isStanding_1 (wr_tr t0) fl_X8_32 rfl ?_
  refine D_if_ne (tgt := 11) h dX8_isStanding_4 rfl (fun b1 h => ?_) (fun b1 h => ?_)
  · refine V_iconst (v := 0) dX8_isStanding_11 (by decide) ?_
    obtain rfl := Option.some.inj h
    exact V_ireturn dX8_isStanding_12 ⟨_, rfl, rfl⟩ ⟨rfl, rfl, rfl⟩
  · refine V_iconst (v := 1) dX8_isStanding_7 (by decide) ?_
    refine V_goto (tgt := 12) dX8_isStanding_8 rfl ?_
    obtain rfl := Option.some.inj h
    exact V_ireturn dX8_isStanding_12 ⟨_, rfl, rfl⟩ ⟨rfl, rfl, rfl⟩
noncomputable def l_X4_passMinute_12  : Nat → (Nat → Int32) → Int32 → Option (Nat → Int32)
  | 0, _, _ => none
  | N + 1, S, x1 => if (S 3) ≤ x1 then some S else gd (inr x1 4) (bdc (f_X8_isStanding S (ix x1)) (fun v4 => if v4 = 0 then bnd (upd S (87 + 14 * ix x1 + 10) ((S (87 + 14 * ix x1 + 10)) - (1 : Int32))) (fun S6 => bdc (f_X8_isStanding S6 (ix x1)) (fun v7 => if v7 = 0 then l_X4_passMinute_12 N S6 (x1 + (1 : Int32)) else bdc (f_X4_arrive S6 (ix x1)) (fun S9 => l_X4_passMinute_12 N S9 (x1 + (1 : Int32))))) else bdc (f_X4_loadTrain S (ix x1)) (fun S10 => bdc (f_X4_depart S10 (ix x1)) (fun S11 => l_X4_passMinute_12 N S11 (x1 + (1 : Int32))))))
theorem lv_X4_passMinute_12 {G : GT} {f : Nat} {p : Nat} {M : MM} {hi k n : Nat}  {r : (Nat → Int32)} (hf : 4 ≤ f) : ∀ (N : Nat) (S : Nat → Int32) (x1 : Int32) , l_X4_passMinute_12 N S x1 = some r → V G f (Ex G f) mX4_passMinute (RH (.inl none) (wr p r M) hi) 12 [(0, .ref (p)), (1, .int x1)] [] (wr p S M) hi k n := by
  intro N
  induction N with
  | zero => intro S x1 h; cases h
  | succ N ih =>
    intro S x1 h
    rw [l_X4_passMinute_12] at h
    refine V_iload_n (i := 1) dX4_passMinute_12 rfl rfl ?_
    refine V_aload_n (i := 0) dX4_passMinute_13 rfl rfl ?_
    refine V_getfield dX4_passMinute_14 wr_o fl_X4_65 rfl ?_
    refine D_icmp_ge (tgt := 75) h dX4_passMinute_17 rfl (fun b2 h => ?_) (fun b2 h => ?_)
    · obtain rfl := Option.some.inj h
      exact V_return dX4_passMinute_75 rfl ⟨rfl, rfl, rfl⟩
    · refine V_aload_n (i := 0) dX4_passMinute_20 rfl rfl ?_
      refine V_getfield dX4_passMinute_21 wr_o fl_X4_25 rfl ?_
      refine V_iload_n (i := 1) dX4_passMinute_24 rfl rfl ?_
      refine D_aldTr h rfl dX4_passMinute_25 fun g3 h => ?_
      refine V_astore_n (i := 2) dX4_passMinute_26 rfl (Nat.le_of_ble_eq_true rfl) ?_
      refine V_aload_n (i := 2) dX4_passMinute_27 rfl rfl ?_
      refine D_cVI (As := []) h dX4_passMinute_28 cv_X4_210 rfl ⟨_, _, _, (wr_tr g3), rfl, rfl⟩ rfl (Nat.le_of_ble_eq_true rfl) (fun x hx => e_X8_isStanding (Nat.le_trans (Nat.le_of_ble_eq_true rfl) hf) g3 hx) fun v4 h => ?_
      refine D_if_eq (tgt := 47) h dX4_passMinute_31 rfl (fun b5 h => ?_) (fun b5 h => ?_)
      · refine V_aload_n (i := 2) dX4_passMinute_47 rfl rfl ?_
        refine V_dup dX4_passMinute_48 rfl ?_
        refine V_getfield dX4_passMinute_49 (wr_tr g3) fl_X4_123 rfl ?_
        refine V_iconst (v := 1) dX4_passMinute_52 (by decide) ?_
        refine V_isub dX4_passMinute_53 ?_
        refine D_pf_X8_6 h dX4_passMinute_54 (fp_X4_123 rfl) g3 fun S6 h => ?_
        refine V_aload_n (i := 2) dX4_passMinute_57 rfl rfl ?_
        refine D_cVI (As := []) h dX4_passMinute_58 cv_X4_210 rfl ⟨_, _, _, (wr_tr g3), rfl, rfl⟩ rfl (Nat.le_of_ble_eq_true rfl) (fun x hx => e_X8_isStanding (Nat.le_trans (Nat.le_of_ble_eq_true rfl) hf) g3 hx) fun v7 h => ?_
        refine D_if_eq (tgt := 69) h dX4_passMinute_61 rfl (fun b8 h => ?_) (fun b8 h => ?_)
        · refine D_iinc (i := 1) (w := 1) dX4_passMinute_69 rfl (by decide) (Nat.le_of_ble_eq_true rfl) ?_
          refine V_goto (tgt := 12) dX4_passMinute_72 rfl ?_
          exact V_sub (ks := [2, 0]) rfl (ih _ _ h)
        · refine V_aload_n (i := 0) dX4_passMinute_64 rfl rfl ?_
          refine V_aload_n (i := 2) dX4_passMinute_65 rfl rfl ?_
          refine D_cVU (As := [_]) (μ := fun S9 => (wr p S9 M)) h dX4_passMinute_66 cv_X4_219 rfl ⟨_, _, _, wr_o, rfl, rfl⟩ rfl (Nat.le_of_ble_eq_true rfl) (fun y hx => e_X4_arrive (Nat.le_trans (Nat.le_of_ble_eq_true rfl) hf) g3 hx) fun S9 h => ?_
          refine D_iinc (i := 1) (w := 1) dX4_passMinute_69 rfl (by decide) (Nat.le_of_ble_eq_true rfl) ?_
          refine V_goto (tgt := 12) dX4_passMinute_72 rfl ?_
          exact V_sub (ks := [2, 0]) rfl (ih _ _ h)
      · refine V_aload_n (i := 0) dX4_passMinute_34 rfl rfl ?_
        refine V_aload_n (i := 2) dX4_passMinute_35 rfl rfl ?_
        refine D_cVU (As := [_]) (μ := fun S10 => (wr p S10 M)) h dX4_passMinute_36 cv_X4_213 rfl ⟨_, _, _, wr_o, rfl, rfl⟩ rfl (Nat.le_of_ble_eq_true rfl) (fun y hx => e_X4_loadTrain (Nat.le_trans (Nat.le_of_ble_eq_true rfl) hf) g3 hx) fun S10 h => ?_
        refine V_aload_n (i := 0) dX4_passMinute_39 rfl rfl ?_
        refine V_aload_n (i := 2) dX4_passMinute_40 rfl rfl ?_
        refine D_cVU (As := [_]) (μ := fun S11 => (wr p S11 M)) h dX4_passMinute_41 cv_X4_216 rfl ⟨_, _, _, wr_o, rfl, rfl⟩ rfl (Nat.le_of_ble_eq_true rfl) (fun y hx => e_X4_depart (Nat.le_trans (Nat.le_of_ble_eq_true rfl) hf) g3 hx) fun S11 h => ?_
        refine V_goto (tgt := 69) dX4_passMinute_44 rfl ?_
        refine D_iinc (i := 1) (w := 1) dX4_passMinute_69 rfl (by decide) (Nat.le_of_ble_eq_true rfl) ?_
        refine V_goto (tgt := 12) dX4_passMinute_72 rfl ?_
        exact V_sub (ks := [2, 0]) rfl (ih _ _ h)
noncomputable def f_X4_passMinute (S : Nat → Int32) : Option (Nat → Int32) :=
  bnd (upd S 0 ((S 0) + (1 : Int32))) (fun S1 => l_X4_passMinute_12 FU S1 (0 : Int32))
theorem e_X4_passMinute {G : GT} {f0 : Nat} {p : Nat} {M : MM} {hi k n : Nat} {S : Nat → Int32} {r : (Nat → Int32)} (hf0 : 5 ≤ f0) (h : f_X4_passMinute S = some r) : Ex G f0 mX4_passMinute [.ref (p)] (wr p S M) hi k n (RH (.inl none) (wr p r M) hi) := by
  obtain ⟨f, rfl, hf⟩ := suc_of hf0
  unfold f_X4_passMinute at h
  refine ⟨Nat.le_of_ble_eq_true rfl, ?_⟩
  refine V_aload_n (i := 0) dX4_passMinute_0 rfl rfl ?_
  refine V_dup dX4_passMinute_1 rfl ?_
  refine V_getfield dX4_passMinute_2 wr_o fl_X4_71 rfl ?_
  refine V_iconst (v := 1) dX4_passMinute_5 (by decide) ?_
  refine V_iadd dX4_passMinute_6 ?_
  refine D_pf_X4_9 h dX4_passMinute_7 (fp_X4_71 rfl) fun S1 h => ?_
  refine V_iconst (v := 0) dX4_passMinute_10 (by decide) ?_
  refine V_istore_n (i := 1) dX4_passMinute_11 rfl (Nat.le_of_ble_eq_true rfl) ?_
  refine V_sub (ks := [1, 0]) rfl (lv_X4_passMinute_12 hf FU _ _ h)
noncomputable def l_X4_passMinutes_2 (c1 : Int32) : Nat → (Nat → Int32) → Int32 → Option (Nat → Int32)
  | 0, _, _ => none
  | N + 1, S, x2 => if c1 ≤ x2 then some S else bdc (f_X4_passMinute S) (fun S2 => l_X4_passMinutes_2 c1 N S2 (x2 + (1 : Int32)))
theorem lv_X4_passMinutes_2 {G : GT} {f : Nat} {p : Nat} {M : MM} {hi k n : Nat} {c1 : Int32} {r : (Nat → Int32)} (hf : 5 ≤ f) : ∀ (N : Nat) (S : Nat → Int32) (x2 : Int32) , l_X4_passMinutes_2 c1 N S x2 = some r → V G f (Ex G f) mX4_passMinutes (RH (.inl none) (wr p r M) hi) 2 [(0, .ref (p)), (1, .int c1), (2, .int x2)] [] (wr p S M) hi k n := by
  intro N
  induction N with
  | zero => intro S x2 h; cases h
  | succ N ih =>
    intro S x2 h
    rw [l_X4_passMinutes_2] at h
    refine V_iload_n (i := 2) dX4_passMinutes_2 rfl rfl ?_
    refine V_iload_n (i := 1) dX4_passMinutes_3 rfl rfl ?_
    refine D_icmp_ge (tgt := 17) h dX4_passMinutes_4 rfl (fun b1 h => ?_) (fun b1 h => ?_)
    · obtain rfl := Option.some.inj h
      exact V_return dX4_passMinutes_17 rfl ⟨rfl, rfl, rfl⟩
    · refine V_aload_n (i := 0) dX4_passMinutes_7 rfl rfl ?_
      refine D_cVU (As := []) (μ := fun S2 => (wr p S2 M)) h dX4_passMinutes_8 cv_X4_207 rfl ⟨_, _, _, wr_o, rfl, rfl⟩ rfl (Nat.le_of_ble_eq_true rfl) (fun y hx => e_X4_passMinute (Nat.le_trans (Nat.le_of_ble_eq_true rfl) hf) hx) fun S2 h => ?_
      refine D_iinc (i := 2) (w := 1) dX4_passMinutes_11 rfl (by decide) (Nat.le_of_ble_eq_true rfl) ?_
      refine V_goto (tgt := 2) dX4_passMinutes_14 rfl ?_
      exact V_sub (ks := [1, 2, 0]) rfl (ih _ _ h)
noncomputable def f_X4_passMinutes (S : Nat → Int32) (a1 : Int32) : Option (Nat → Int32) :=
  l_X4_passMinutes_2 a1 FU S (0 : Int32)
theorem e_X4_passMinutes {G : GT} {f0 : Nat} {p : Nat} {M : MM} {hi k n : Nat} {S : Nat → Int32} {a1 : Int32} {r : (Nat → Int32)} (hf0 : 6 ≤ f0) (h : f_X4_passMinutes S a1 = some r) : Ex G f0 mX4_passMinutes [.ref (p), .int a1] (wr p S M) hi k n (RH (.inl none) (wr p r M) hi) := by
  obtain ⟨f, rfl, hf⟩ := suc_of hf0
  unfold f_X4_passMinutes at h
  refine ⟨Nat.le_of_ble_eq_true rfl, ?_⟩
  refine V_iconst (v := 0) dX4_passMinutes_0 (by decide) ?_
  refine V_istore_n (i := 2) dX4_passMinutes_1 rfl (Nat.le_of_ble_eq_true rfl) ?_
  refine V_sub (ks := [1, 2, 0]) rfl (lv_X4_passMinutes_2 hf FU _ _ h)
noncomputable def f_X4_setInspectionOf (S : Nat → Int32) (a1 : Int32) (a2 : Int32) : Option (Nat → Int32) :=
  if a1 < 0 then some S else if (S 1) ≤ a1 then some S else gd (inr a1 8) (bnd (upd S (7 + 4 * ix a1 + 2) a2) (fun S4 => some S4))
theorem e_X4_setInspectionOf {G : GT} {f0 : Nat} {p : Nat} {M : MM} {hi k n : Nat} {S : Nat → Int32} {a1 : Int32} {a2 : Int32} {r : (Nat → Int32)} (hf0 : 1 ≤ f0) (h : f_X4_setInspectionOf S a1 a2 = some r) : Ex G f0 mX4_setInspectionOf [.ref (p), .int a1, .int a2] (wr p S M) hi k n (RH (.inl none) (wr p r M) hi) := by
  obtain ⟨f, rfl, hf⟩ := suc_of hf0
  unfold f_X4_setInspectionOf at h
  refine ⟨Nat.le_of_ble_eq_true rfl, ?_⟩
  refine V_iload_n (i := 1) dX4_setInspectionOf_0 rfl rfl ?_
  refine D_if_lt (tgt := 22) h dX4_setInspectionOf_1 rfl (fun b1 h => ?_) (fun b1 h => ?_)
  · obtain rfl := Option.some.inj h
    exact V_return dX4_setInspectionOf_22 rfl ⟨rfl, rfl, rfl⟩
  · refine V_iload_n (i := 1) dX4_setInspectionOf_4 rfl rfl ?_
    refine V_aload_n (i := 0) dX4_setInspectionOf_5 rfl rfl ?_
    refine V_getfield dX4_setInspectionOf_6 wr_o fl_X4_58 rfl ?_
    refine D_icmp_ge (tgt := 22) h dX4_setInspectionOf_9 rfl (fun b2 h => ?_) (fun b2 h => ?_)
    · obtain rfl := Option.some.inj h
      exact V_return dX4_setInspectionOf_22 rfl ⟨rfl, rfl, rfl⟩
    · refine V_aload_n (i := 0) dX4_setInspectionOf_12 rfl rfl ?_
      refine V_getfield dX4_setInspectionOf_13 wr_o fl_X4_11 rfl ?_
      refine V_iload_n (i := 1) dX4_setInspectionOf_16 rfl rfl ?_
      refine D_aldSt h rfl dX4_setInspectionOf_17 fun g3 h => ?_
      refine V_iload_n (i := 2) dX4_setInspectionOf_18 rfl rfl ?_
      refine D_pf_X5_2 h dX4_setInspectionOf_19 (fp_X4_90 rfl) g3 fun S4 h => ?_
      obtain rfl := Option.some.inj h
      exact V_return dX4_setInspectionOf_22 rfl ⟨rfl, rfl, rfl⟩
noncomputable def f_X8_standsAt (S : Nat → Int32) (i0 : Nat) : Option Int32 :=
  bdc (f_X8_isStanding S i0) (fun v1 => if v1 = 0 then some (-1 : Int32) else bdc (f_X8_stationAhead S i0 (0 : Int32)) (fun v3 => some v3))
theorem e_X8_standsAt {G : GT} {f0 : Nat} {p : Nat} {M : MM} {hi k n : Nat} {S : Nat → Int32} {i0 : Nat} {r : Int32} (hf0 : 2 ≤ f0) (t0 : i0 < 4) (h : f_X8_standsAt S i0 = some r) : Ex G f0 mX8_standsAt [.ref (p + 26 + 2 * i0)] (wr p S M) hi k n (RH (.inl (some (.int r))) (wr p S M) hi) := by
  obtain ⟨f, rfl, hf⟩ := suc_of hf0
  unfold f_X8_standsAt at h
  refine ⟨Nat.le_of_ble_eq_true rfl, ?_⟩
  refine V_aload_n (i := 0) dX8_standsAt_0 rfl rfl ?_
  refine D_cVI (As := []) h dX8_standsAt_1 cv_X8_44 rfl ⟨_, _, _, (wr_tr t0), rfl, rfl⟩ rfl (Nat.le_of_ble_eq_true rfl) (fun x hx => e_X8_isStanding (Nat.le_trans (Nat.le_of_ble_eq_true rfl) hf) t0 hx) fun v1 h => ?_
  refine D_if_eq (tgt := 15) h dX8_standsAt_4 rfl (fun b2 h => ?_) (fun b2 h => ?_)
  · refine V_iconst (v := -1) dX8_standsAt_15 (by decide) ?_
    obtain rfl := Option.some.inj h
    exact V_ireturn dX8_standsAt_16 ⟨_, rfl, rfl⟩ ⟨rfl, rfl, rfl⟩
  · refine V_aload_n (i := 0) dX8_standsAt_7 rfl rfl ?_
    refine V_iconst (v := 0) dX8_standsAt_8 (by decide) ?_
    refine D_cVI (As := [_]) h dX8_standsAt_9 cv_X8_48 rfl ⟨_, _, _, (wr_tr t0), rfl, rfl⟩ rfl (Nat.le_of_ble_eq_true rfl) (fun x hx => e_X8_stationAhead (Nat.le_trans (Nat.le_of_ble_eq_true rfl) hf) t0 hx) fun v3 h => ?_
    refine V_goto (tgt := 16) dX8_standsAt_12 rfl ?_
    obtain rfl := Option.some.inj h
    exact V_ireturn dX8_standsAt_16 ⟨_, rfl, rfl⟩ ⟨rfl, rfl, rfl⟩
noncomputable def f_X8_stationAt (S : Nat → Int32) (i0 : Nat) (a1 : Int32) : Option Int32 :=
  if a1 < 0 then some (-1 : Int32) else if (S (87 + 14 * i0 + 1)) ≤ a1 then some (-1 : Int32) else if (6 : Int32) ≤ a1 then some (-1 : Int32) else gd (inr a1 6) (some (S (87 + 14 * i0 + 2 + ix a1)))
theorem e_X8_stationAt {G : GT} {f0 : Nat} {p : Nat} {M : MM} {hi k n : Nat} {S : Nat → Int32} {i0 : Nat} {a1 : Int32} {r : Int32} (hf0 : 1 ≤ f0) (t0 : i0 < 4) (h : f_X8_stationAt S i0 a1 = some r) : Ex G f0 mX8_stationAt [.ref (p + 26 + 2 * i0), .int a1] (wr p S M) hi k n (RH (.inl (some (.int r))) (wr p S M) hi) := by
  obtain ⟨f, rfl, hf⟩ := suc_of hf0
  unfold f_X8_stationAt at h
  refine ⟨Nat.le_of_ble_eq_true rfl, ?_⟩
  refine V_iload_n (i := 1) dX8_stationAt_0 rfl rfl ?_
  refine D_if_lt (tgt := 30) h dX8_stationAt_1 rfl (fun b1 h => ?_) (fun b1 h => ?_)
  · refine V_iconst (v := -1) dX8_stationAt_30 (by decide) ?_
    obtain rfl := Option.some.inj h
    exact V_ireturn dX8_stationAt_31 ⟨_, rfl, rfl⟩ ⟨rfl, rfl, rfl⟩
  · refine V_iload_n (i := 1) dX8_stationAt_4 rfl rfl ?_
    refine V_aload_n (i := 0) dX8_stationAt_5 rfl rfl ?_
    refine V_getfield dX8_stationAt_6 (wr_tr t0) fl_X8_22 rfl ?_
    refine D_icmp_ge (tgt := 30) h dX8_stationAt_9 rfl (fun b2 h => ?_) (fun b2 h => ?_)
    · refine V_iconst (v := -1) dX8_stationAt_30 (by decide) ?_
      obtain rfl := Option.some.inj h
      exact V_ireturn dX8_stationAt_31 ⟨_, rfl, rfl⟩ ⟨rfl, rfl, rfl⟩
    · refine V_iload_n (i := 1) dX8_stationAt_12 rfl rfl ?_
      refine V_aload_n (i := 0) dX8_stationAt_13 rfl rfl ?_
      refine V_getfield dX8_stationAt_14 (wr_tr t0) fl_X8_9 rfl ?_
      refine V_alen (t := 1) (v := 6) dX8_stationAt_17 (wr_sp t0) (by decide) rfl ?_
      refine D_icmp_ge (tgt := 30) h dX8_stationAt_18 rfl (fun b3 h => ?_) (fun b3 h => ?_)
      · refine V_iconst (v := -1) dX8_stationAt_30 (by decide) ?_
        obtain rfl := Option.some.inj h
        exact V_ireturn dX8_stationAt_31 ⟨_, rfl, rfl⟩ ⟨rfl, rfl, rfl⟩
      · refine V_aload_n (i := 0) dX8_stationAt_21 rfl rfl ?_
        refine V_getfield dX8_stationAt_22 (wr_tr t0) fl_X8_9 rfl ?_
        refine V_iload_n (i := 1) dX8_stationAt_25 rfl rfl ?_
        refine D_ildR h t0 rfl dX8_stationAt_26 fun h => ?_
        refine V_goto (tgt := 31) dX8_stationAt_27 rfl ?_
        obtain rfl := Option.some.inj h
        exact V_ireturn dX8_stationAt_31 ⟨_, rfl, rfl⟩ ⟨rfl, rfl, rfl⟩
