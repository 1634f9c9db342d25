noncomputable def l_X10_delivered_4 (Y : Nat → Nat → Int32) : Nat → Int32 → Int32 → Option Int32
  | 0, _, _ => none
  | N + 1, x1, x2 => if (Y 60 15) ≤ x2 then some x1 else gd (inr x2 (12)) (gd (inr (8 : Int32) (9)) (if (Y (40 + ix x2) (ix (8 : Int32))) < 0 then l_X10_delivered_4 Y N x1 (x2 + (1 : Int32)) else l_X10_delivered_4 Y N (x1 + (1 : Int32)) (x2 + (1 : Int32))))
theorem lv_X10_delivered_4 {G : GT} {f : Nat} {oh : Nat} {A : Nat → Nat} {M0 : MM} {hi0 : Nat} {Y : Nat → Nat → Int32} {k : Nat} {r : Int32} (hf : 0 ≤ f) : ∀ (N : Nat) (x1 : Int32) (x2 : Int32) (M : MM) (hi : Nat), HS oh A M0 hi0 Y M hi → l_X10_delivered_4 Y N x1 x2 = some r → V G f (Ex G f) mX10_delivered (PH oh A M0 hi0 (.inl (some (.int r))) Y) 4 [(0, .ref (oh)), (1, .int x1), (2, .int x2)] [] M hi (k) (8 * (k)) := by
  intro N
  induction N with
  | zero => intro x1 x2 M hi hq h; cases h
  | succ N ih =>
    intro x1 x2 M hi hq h
    rw [l_X10_delivered_4] at h
    refine V_iload_n (i := 2) dX10_delivered_4 rfl rfl ?_
    refine V_aload_n (i := 0) dX10_delivered_5 rfl rfl ?_
    refine V_getfield dX10_delivered_6 hq.o fl_X10_111 rfl ?_
    refine D_icmp_ge (tgt := 33) h dX10_delivered_9 rfl (fun b1 h => ?_) (fun b1 h => ?_)
    · refine V_iload_n (i := 1) dX10_delivered_33 rfl rfl ?_
      obtain rfl := Option.some.inj h
      exact V_ireturn dX10_delivered_34 ⟨_, rfl, rfl⟩ ⟨rfl, hq⟩
    · refine V_aload_n (i := 0) dX10_delivered_12 rfl rfl ?_
      refine V_getfield dX10_delivered_13 hq.o fl_X10_9 rfl ?_
      refine V_iload_n (i := 2) dX10_delivered_16 rfl rfl ?_
      refine H_ald h hq ho_14 rfl (by decide) dX10_delivered_17 fun g2 h => ?_
      refine V_bipush (v := 8) dX10_delivered_18 (by decide) ?_
      refine D3_ild h (hq.t (ht_40 g2)) dX10_delivered_20 fun h => ?_
      refine D_if_lt (tgt := 27) h dX10_delivered_21 rfl (fun b3 h => ?_) (fun b3 h => ?_)
      · refine D_iinc (i := 2) (w := 1) dX10_delivered_27 rfl (by decide) (Nat.le_of_ble_eq_true rfl) ?_
        refine V_goto (tgt := 4) dX10_delivered_30 rfl ?_
        exact V_sub (ks := [1, 2, 0]) rfl (ih _ _ _ _ hq h)
      · refine D_iinc (i := 1) (w := 1) dX10_delivered_24 rfl (by decide) (Nat.le_of_ble_eq_true rfl) ?_
        refine D_iinc (i := 2) (w := 1) dX10_delivered_27 rfl (by decide) (Nat.le_of_ble_eq_true rfl) ?_
        refine V_goto (tgt := 4) dX10_delivered_30 rfl ?_
        exact V_sub (ks := [2, 1, 0]) rfl (ih _ _ _ _ hq h)
noncomputable def f_X10_delivered (Y : Nat → Nat → Int32) : Option Int32 :=
  l_X10_delivered_4 Y FU (0 : Int32) (0 : Int32)
theorem e_X10_delivered {G : GT} {f0 : Nat} {oh : Nat} {A : Nat → Nat} {M0 : MM} {hi0 : Nat} {Y : Nat → Nat → Int32} {r : Int32} (hf0 : 1 ≤ f0) (hq : HQ oh A Y M0 hi0) (h : f_X10_delivered Y = some r) : Ex G f0 mX10_delivered [.ref (oh)] M0 hi0 0 (8 * 0) (PH oh A M0 hi0 (.inl (some (.int r))) Y) := by
  obtain ⟨f, rfl, hf⟩ := suc_of hf0
  unfold f_X10_delivered at h
  replace hq := HS.here hq
  refine ⟨Nat.le_of_ble_eq_true rfl, ?_⟩
  refine V_iconst (v := 0) dX10_delivered_0 (by decide) ?_
  refine V_istore_n (i := 1) dX10_delivered_1 rfl (Nat.le_of_ble_eq_true rfl) ?_
  refine V_iconst (v := 0) dX10_delivered_2 (by decide) ?_
  refine V_istore_n (i := 2) dX10_delivered_3 rfl (Nat.le_of_ble_eq_true rfl) ?_
  refine V_spare (k2 := 0) (n2 := 8 * (0)) (by omega) (by omega) ?_
  refine V_sub (ks := [2, 1, 0]) rfl (lv_X10_delivered_4 (k := 0) hf FU _ _ _ _ hq h)
noncomputable def l_X10_far_10 (Y : Nat → Nat → Int32) (c1 : Int32) (c2 : Int32) (K42 : (Nat → Int32) → Option Int32) : Nat → (Nat → Int32) → Int32 → Option Int32
  | 0, _, _ => none
  | N + 1, B, x4 => if (Y 60 0) ≤ x4 then K42 B else if x4 = c1 then gd (inr x4 (hN Y)) (bnd (upd B (ix x4) (0 : Int32)) (fun B5 => l_X10_far_10 Y c1 c2 K42 N B5 (x4 + (1 : Int32)))) else gd (inr x4 (hN Y)) (bnd (upd B (ix x4) (9999 : Int32)) (fun B4 => l_X10_far_10 Y c1 c2 K42 N B4 (x4 + (1 : Int32))))
theorem lv_X10_far_10 {G : GT} {f : Nat} {oh : Nat} {A : Nat → Nat} {M0 : MM} {hi0 : Nat} {bb : Nat} {Y : Nat → Nat → Int32} {c1 : Int32} {c2 : Int32} {K42 : (Nat → Int32) → Option Int32} {k : Nat} {r : Int32} (hf : 1 ≤ f) (hK42 : ∀ (Bk : Nat → Int32) (M : MM) (hi : Nat), HB oh A M0 hi0 Y Bk bb M hi → K42 Bk = some r → V G f (Ex G f) mX10_far (PH oh A M0 hi0 (.inl (some (.int r))) Y) 42 [(0, .ref (oh)), (2, .int c2), (3, .ref (bb))] [] M hi (k) (8 * (k))) : ∀ (N : Nat) (B : Nat → Int32) (x4 : Int32) (M : MM) (hi : Nat), HB oh A M0 hi0 Y B bb M hi → l_X10_far_10 Y c1 c2 K42 N B x4 = some r → V G f (Ex G f) mX10_far (PH oh A M0 hi0 (.inl (some (.int r))) Y) 10 [(0, .ref (oh)), (1, .int c1), (2, .int c2), (3, .ref (bb)), (4, .int x4)] [] M hi (k) (8 * (k)) := by
  intro N
  induction N with
  | zero => intro B x4 M hi hq h; cases h
  | succ N ih =>
    intro B x4 M hi hq h
    rw [l_X10_far_10] at h
    refine V_iload (i := 4) dX10_far_10 rfl ?_
    refine V_aload_n (i := 0) dX10_far_12 rfl rfl ?_
    refine V_getfield dX10_far_13 hq.1.o fl_X10_20 rfl ?_
    refine D_icmp_ge (tgt := 42) h dX10_far_16 rfl (fun b2 h => ?_) (fun b2 h => ?_)
    · exact V_sub (ks := [0, 2, 3]) rfl (hK42 _ _ _ hq h)
    · refine V_aload_n (i := 3) dX10_far_19 rfl rfl ?_
      refine V_iload (i := 4) dX10_far_20 rfl ?_
      refine V_iload (i := 4) dX10_far_22 rfl ?_
      refine V_iload_n (i := 1) dX10_far_24 rfl rfl ?_
      refine D_icmp_ne (tgt := 32) h dX10_far_25 rfl (fun b3 h => ?_) (fun b3 h => ?_)
      · refine V_sipush (v := 9999) dX10_far_32 (by decide) ?_
        refine H_bst h hq dX10_far_35 fun B4 M hq h => ?_
        refine D_iinc (i := 4) (w := 1) dX10_far_36 rfl (by decide) (Nat.le_of_ble_eq_true rfl) ?_
        refine V_goto (tgt := 10) dX10_far_39 rfl ?_
        exact V_sub (ks := [1, 2, 3, 4, 0]) rfl (ih _ _ _ _ hq h)
      · refine V_iconst (v := 0) dX10_far_28 (by decide) ?_
        refine V_goto (tgt := 35) dX10_far_29 rfl ?_
        refine H_bst h hq dX10_far_35 fun B5 M hq h => ?_
        refine D_iinc (i := 4) (w := 1) dX10_far_36 rfl (by decide) (Nat.le_of_ble_eq_true rfl) ?_
        refine V_goto (tgt := 10) dX10_far_39 rfl ?_
        exact V_sub (ks := [1, 2, 3, 4, 0]) rfl (ih _ _ _ _ hq h)
noncomputable def l_X10_far_69 (Y : Nat → Nat → Int32) (c2 : Int32) (c4 : Int32) (c5 : Int32) (K123 : (Nat → Int32) → Option Int32) : Nat → (Nat → Int32) → Int32 → Option Int32
  | 0, _, _ => none
  | N + 1, B, x6 => if (Y 60 0) ≤ x6 then K123 B else gd (inr c5 (hN Y)) (gd (inr x6 (hN Y)) (if (Y (24 + ix c5) (ix x6)) = 0 then l_X10_far_69 Y c2 c4 c5 K123 N B (x6 + (1 : Int32)) else gd (inr x6 (hN Y)) (gd (inr c5 (hN Y)) (gd (inr c5 (hN Y)) (gd (inr x6 (hN Y)) (gd (inr x6 (hN Y)) (bnd (upd B (ix x6) (if ((B (ix c5)) + (Y (16 + ix c5) (ix x6))) < (B (ix x6)) then ((B (ix c5)) + (Y (16 + ix c5) (ix x6))) else (B (ix x6)))) (fun B13 => l_X10_far_69 Y c2 c4 c5 K123 N B13 (x6 + (1 : Int32))))))))))
theorem lv_X10_far_69 {G : GT} {f : Nat} {oh : Nat} {A : Nat → Nat} {M0 : MM} {hi0 : Nat} {bb : Nat} {Y : Nat → Nat → Int32} {c2 : Int32} {c4 : Int32} {c5 : Int32} {K123 : (Nat → Int32) → Option Int32} {k : Nat} {r : Int32} (hf : 1 ≤ f) (hK123 : ∀ (Bk : Nat → Int32) (M : MM) (hi : Nat), HB oh A M0 hi0 Y Bk bb M hi → K123 Bk = some r → V G f (Ex G f) mX10_far (PH oh A M0 hi0 (.inl (some (.int r))) Y) 123 [(0, .ref (oh)), (2, .int c2), (3, .ref (bb)), (4, .int c4), (5, .int c5)] [] M hi (k) (8 * (k))) : ∀ (N : Nat) (B : Nat → Int32) (x6 : Int32) (M : MM) (hi : Nat), HB oh A M0 hi0 Y B bb M hi → l_X10_far_69 Y c2 c4 c5 K123 N B x6 = some r → V G f (Ex G f) mX10_far (PH oh A M0 hi0 (.inl (some (.int r))) Y) 69 [(0, .ref (oh)), (2, .int c2), (3, .ref (bb)), (4, .int c4), (5, .int c5), (6, .int x6)] [] M hi (k) (8 * (k)) := by
  intro N
  induction N with
  | zero => intro B x6 M hi hq h; cases h
  | succ N ih =>
    intro B x6 M hi hq h
    rw [l_X10_far_69] at h
    refine V_iload (i := 6) dX10_far_69 rfl ?_
    refine V_aload_n (i := 0) dX10_far_71 rfl rfl ?_
    refine V_getfield dX10_far_72 hq.1.o fl_X10_20 rfl ?_
    refine D_icmp_ge (tgt := 123) h dX10_far_75 rfl (fun b9 h => ?_) (fun b9 h => ?_)
    · exact V_sub (ks := [0, 1, 2, 3, 4]) rfl (hK123 _ _ _ hq h)
    · refine V_aload_n (i := 0) dX10_far_78 rfl rfl ?_
      refine V_getfield dX10_far_79 hq.1.o fl_X10_35 rfl ?_
      refine V_iload (i := 5) dX10_far_82 rfl ?_
      refine H_ald h hq.1 ho_3 rfl (by decide) dX10_far_84 fun g10 h => ?_
      refine V_iload (i := 6) dX10_far_85 rfl ?_
      refine D3_zld h (hq.1.t (ht_24 hq.1 g10)) dX10_far_87 fun h => ?_
      refine D_if_eq (tgt := 117) h dX10_far_88 rfl (fun b11 h => ?_) (fun b11 h => ?_)
      · refine D_iinc (i := 6) (w := 1) dX10_far_117 rfl (by decide) (Nat.le_of_ble_eq_true rfl) ?_
        refine V_goto (tgt := 69) dX10_far_120 rfl ?_
        exact V_sub (ks := [1, 2, 3, 4, 5, 0]) rfl (ih _ _ _ _ hq h)
      · refine V_aload_n (i := 3) dX10_far_91 rfl rfl ?_
        refine V_iload (i := 6) dX10_far_92 rfl ?_
        refine V_aload_n (i := 3) dX10_far_94 rfl rfl ?_
        refine V_iload (i := 6) dX10_far_95 rfl ?_
        refine H_bld h hq dX10_far_97 fun h => ?_
        refine V_aload_n (i := 3) dX10_far_98 rfl rfl ?_
        refine V_iload (i := 5) dX10_far_99 rfl ?_
        refine H_bld h hq dX10_far_101 fun h => ?_
        refine V_aload_n (i := 0) dX10_far_102 rfl rfl ?_
        refine V_getfield dX10_far_103 hq.1.o fl_X10_30 rfl ?_
        refine V_iload (i := 5) dX10_far_106 rfl ?_
        refine H_ald h hq.1 ho_2 rfl (by decide) dX10_far_108 fun g12 h => ?_
        refine V_iload (i := 6) dX10_far_109 rfl ?_
        refine D3_ild h (hq.1.t (ht_16 hq.1 g12)) dX10_far_111 fun h => ?_
        refine V_iadd dX10_far_112 ?_
        refine V_mmin dX10_far_113 tw_966 (Nat.le_of_ble_eq_true rfl) (Nat.le_trans (Nat.le_of_ble_eq_true rfl) hf) ?_
        refine H_bst h hq dX10_far_116 fun B13 M hq h => ?_
        refine D_iinc (i := 6) (w := 1) dX10_far_117 rfl (by decide) (Nat.le_of_ble_eq_true rfl) ?_
        refine V_goto (tgt := 69) dX10_far_120 rfl ?_
        exact V_sub (ks := [1, 2, 3, 4, 5, 0]) rfl (ih _ _ _ _ hq h)
noncomputable def l_X10_far_57 (Y : Nat → Nat → Int32) (c2 : Int32) (c4 : Int32) (K129 : (Nat → Int32) → Option Int32) : Nat → (Nat → Int32) → Int32 → Option Int32
  | 0, _, _ => none
  | N + 1, B, x5 => if (Y 60 0) ≤ x5 then K129 B else l_X10_far_69 Y c2 c4 x5 (fun (B14 : Nat → Int32) => l_X10_far_57 Y c2 c4 K129 N B14 (x5 + (1 : Int32))) FU B (0 : Int32)
theorem lv_X10_far_57 {G : GT} {f : Nat} {oh : Nat} {A : Nat → Nat} {M0 : MM} {hi0 : Nat} {bb : Nat} {Y : Nat → Nat → Int32} {c2 : Int32} {c4 : Int32} {K129 : (Nat → Int32) → Option Int32} {k : Nat} {r : Int32} (hf : 1 ≤ f) (hK129 : ∀ (Bk : Nat → Int32) (M : MM) (hi : Nat), HB oh A M0 hi0 Y Bk bb M hi → K129 Bk = some r → V G f (Ex G f) mX10_far (PH oh A M0 hi0 (.inl (some (.int r))) Y) 129 [(0, .ref (oh)), (2, .int c2), (3, .ref (bb)), (4, .int c4)] [] M hi (k) (8 * (k))) : ∀ (N : Nat) (B : Nat → Int32) (x5 : Int32) (M : MM) (hi : Nat), HB oh A M0 hi0 Y B bb M hi → l_X10_far_57 Y c2 c4 K129 N B x5 = some r → V G f (Ex G f) mX10_far (PH oh A M0 hi0 (.inl (some (.int r))) Y) 57 [(0, .ref (oh)), (2, .int c2), (3, .ref (bb)), (4, .int c4), (5, .int x5)] [] M hi (k) (8 * (k)) := by
  intro N
  induction N with
  | zero => intro B x5 M hi hq h; cases h
  | succ N ih =>
    intro B x5 M hi hq h
    rw [l_X10_far_57] at h
    refine V_iload (i := 5) dX10_far_57 rfl ?_
    refine V_aload_n (i := 0) dX10_far_59 rfl rfl ?_
    refine V_getfield dX10_far_60 hq.1.o fl_X10_20 rfl ?_
    refine D_icmp_ge (tgt := 129) h dX10_far_63 rfl (fun b8 h => ?_) (fun b8 h => ?_)
    · exact V_sub (ks := [0, 1, 2, 3]) rfl (hK129 _ _ _ hq h)
    · refine V_iconst (v := 0) dX10_far_66 (by decide) ?_
      refine V_istore (i := 6) dX10_far_67 (Nat.le_of_ble_eq_true rfl) ?_
      refine V_spare (k2 := k) (n2 := 8 * (k)) (by omega) (by omega) ?_
      refine V_sub (ks := [1, 2, 3, 4, 5, 0]) rfl (lv_X10_far_69 (k := k) hf ?_ FU _ _ _ _ hq h)
      · intro B14 M hi hq h
        refine D_iinc (i := 5) (w := 1) dX10_far_123 rfl (by decide) (Nat.le_of_ble_eq_true rfl) ?_
        refine V_goto (tgt := 57) dX10_far_126 rfl ?_
        exact V_sub (ks := [1, 2, 3, 4, 0]) rfl (ih _ _ _ _ hq h)
noncomputable def l_X10_far_45 (Y : Nat → Nat → Int32) (c2 : Int32) : Nat → (Nat → Int32) → Int32 → Option Int32
  | 0, _, _ => none
  | N + 1, B, x4 => if (Y 60 0) ≤ x4 then gd (inr c2 (hN Y)) (some (B (ix c2))) else l_X10_far_57 Y c2 x4 (fun (B15 : Nat → Int32) => l_X10_far_45 Y c2 N B15 (x4 + (1 : Int32))) FU B (0 : Int32)
theorem lv_X10_far_45 {G : GT} {f : Nat} {oh : Nat} {A : Nat → Nat} {M0 : MM} {hi0 : Nat} {bb : Nat} {Y : Nat → Nat → Int32} {c2 : Int32} {k : Nat} {r : Int32} (hf : 1 ≤ f) : ∀ (N : Nat) (B : Nat → Int32) (x4 : Int32) (M : MM) (hi : Nat), HB oh A M0 hi0 Y B bb M hi → l_X10_far_45 Y c2 N B x4 = some r → V G f (Ex G f) mX10_far (PH oh A M0 hi0 (.inl (some (.int r))) Y) 45 [(0, .ref (oh)), (2, .int c2), (3, .ref (bb)), (4, .int x4)] [] M hi (k) (8 * (k)) := by
  intro N
  induction N with
  | zero => intro B x4 M hi hq h; cases h
  | succ N ih =>
    intro B x4 M hi hq h
    rw [l_X10_far_45] at h
    refine V_iload (i := 4) dX10_far_45 rfl ?_
    refine V_aload_n (i := 0) dX10_far_47 rfl rfl ?_
    refine V_getfield dX10_far_48 hq.1.o fl_X10_20 rfl ?_
    refine D_icmp_ge (tgt := 135) h dX10_far_51 rfl (fun b7 h => ?_) (fun b7 h => ?_)
    · refine V_aload_n (i := 3) dX10_far_135 rfl rfl ?_
      refine V_iload_n (i := 2) dX10_far_136 rfl rfl ?_
      refine H_bld h hq dX10_far_137 fun h => ?_
      obtain rfl := Option.some.inj h
      exact V_ireturn dX10_far_138 ⟨_, rfl, rfl⟩ ⟨rfl, hq.1⟩
    · refine V_iconst (v := 0) dX10_far_54 (by decide) ?_
      refine V_istore (i := 5) dX10_far_55 (Nat.le_of_ble_eq_true rfl) ?_
      refine V_spare (k2 := k) (n2 := 8 * (k)) (by omega) (by omega) ?_
      refine V_sub (ks := [1, 2, 3, 4, 0]) rfl (lv_X10_far_57 (k := k) hf ?_ FU _ _ _ _ hq h)
      · intro B15 M hi hq h
        refine D_iinc (i := 4) (w := 1) dX10_far_129 rfl (by decide) (Nat.le_of_ble_eq_true rfl) ?_
        refine V_goto (tgt := 45) dX10_far_132 rfl ?_
        exact V_sub (ks := [1, 2, 3, 0]) rfl (ih _ _ _ _ hq h)
noncomputable def f_X10_far (Y : Nat → Nat → Int32) (a1 : Int32) (a2 : Int32) : Option Int32 :=
  gd (!(decide ((Y 60 0) < 0))) (bnd (fun _ => (0 : Int32)) (fun B1 => l_X10_far_10 Y a1 a2 (fun (B6 : Nat → Int32) => l_X10_far_45 Y a2 FU B6 (0 : Int32)) FU B1 (0 : Int32)))
theorem e_X10_far {G : GT} {f0 : Nat} {oh : Nat} {A : Nat → Nat} {M0 : MM} {hi0 : Nat} {Y : Nat → Nat → Int32} {a1 : Int32} {a2 : Int32} {r : Int32} (hf0 : 2 ≤ f0) (hq : HQ oh A Y M0 hi0) (h : f_X10_far Y a1 a2 = some r) : Ex G f0 mX10_far [.ref (oh), .int a1, .int a2] M0 hi0 1 (8 * 1) (PH oh A M0 hi0 (.inl (some (.int r))) Y) := by
  obtain ⟨f, rfl, hf⟩ := suc_of hf0
  unfold f_X10_far at h
  replace hq := HS.here hq
  refine ⟨Nat.le_of_ble_eq_true rfl, ?_⟩
  refine V_aload_n (i := 0) dX10_far_0 rfl rfl ?_
  refine V_getfield dX10_far_1 hq.o fl_X10_20 rfl ?_
  refine V_spare (k2 := 0 + 1) (n2 := 8 * (0) + 8) (by omega) (by omega) ?_
  refine H_newB rfl h hq dX10_far_4 tw_77 fun B1 M hq h => ?_
  obtain ⟨bb, hbb⟩ : ∃ bb : Nat, bb = hi0 := ⟨_, rfl⟩
  rw [show (.ref hi0 : Value) = .ref bb by rw [hbb]]
  have hq : HB oh A M0 hi0 Y B1 bb M (hi0 + 1) := by rw [hbb]; exact hq
  refine V_astore_n (i := 3) dX10_far_6 rfl (Nat.le_of_ble_eq_true rfl) ?_
  refine V_iconst (v := 0) dX10_far_7 (by decide) ?_
  refine V_istore (i := 4) dX10_far_8 (Nat.le_of_ble_eq_true rfl) ?_
  refine V_spare (k2 := 0) (n2 := 8 * (0)) (by omega) (by omega) ?_
  refine V_sub (ks := [2, 3, 4, 1, 0]) rfl (lv_X10_far_10 (k := 0) hf ?_ FU _ _ _ _ hq h)
  · intro B6 M hi hq h
    refine V_iconst (v := 0) dX10_far_42 (by decide) ?_
    refine V_istore (i := 4) dX10_far_43 (Nat.le_of_ble_eq_true rfl) ?_
    refine V_spare (k2 := 0) (n2 := 8 * (0)) (by omega) (by omega) ?_
    refine V_sub (ks := [1, 2, 3, 0]) rfl (lv_X10_far_45 (k := 0) hf FU _ _ _ _ hq h)
noncomputable def l_X10_carried_4 (Y : Nat → Nat → Int32) (c1 : Int32) : Nat → Int32 → Int32 → Option Int32
  | 0, _, _ => none
  | N + 1, x2, x3 => if (Y 60 15) ≤ x3 then some x2 else gd (inr x3 (12)) (gd (inr (4 : Int32) (9)) (if (Y (40 + ix x3) (ix (4 : Int32))) = c1 then l_X10_carried_4 Y c1 N (x2 + (1 : Int32)) (x3 + (1 : Int32)) else l_X10_carried_4 Y c1 N x2 (x3 + (1 : Int32))))
theorem lv_X10_carried_4 {G : GT} {f : Nat} {oh : Nat} {A : Nat → Nat} {M0 : MM} {hi0 : Nat} {Y : Nat → Nat → Int32} {c1 : Int32} {k : Nat} {r : Int32} (hf : 0 ≤ f) : ∀ (N : Nat) (x2 : Int32) (x3 : Int32) (M : MM) (hi : Nat), HS oh A M0 hi0 Y M hi → l_X10_carried_4 Y c1 N x2 x3 = some r → V G f (Ex G f) mX10_carried (PH oh A M0 hi0 (.inl (some (.int r))) Y) 4 [(0, .ref (oh)), (1, .int c1), (2, .int x2), (3, .int x3)] [] M hi (k) (8 * (k)) := by
  intro N
  induction N with
  | zero => intro x2 x3 M hi hq h; cases h
  | succ N ih =>
    intro x2 x3 M hi hq h
    rw [l_X10_carried_4] at h
    refine V_iload_n (i := 3) dX10_carried_4 rfl rfl ?_
    refine V_aload_n (i := 0) dX10_carried_5 rfl rfl ?_
    refine V_getfield dX10_carried_6 hq.o fl_X10_111 rfl ?_
    refine D_icmp_ge (tgt := 33) h dX10_carried_9 rfl (fun b1 h => ?_) (fun b1 h => ?_)
    · refine V_iload_n (i := 2) dX10_carried_33 rfl rfl ?_
      obtain rfl := Option.some.inj h
      exact V_ireturn dX10_carried_34 ⟨_, rfl, rfl⟩ ⟨rfl, hq⟩
    · refine V_aload_n (i := 0) dX10_carried_12 rfl rfl ?_
      refine V_getfield dX10_carried_13 hq.o fl_X10_9 rfl ?_
      refine V_iload_n (i := 3) dX10_carried_16 rfl rfl ?_
      refine H_ald h hq ho_14 rfl (by decide) dX10_carried_17 fun g2 h => ?_
      refine V_iconst (v := 4) dX10_carried_18 (by decide) ?_
      refine D3_ild h (hq.t (ht_40 g2)) dX10_carried_19 fun h => ?_
      refine V_iload_n (i := 1) dX10_carried_20 rfl rfl ?_
      refine D_icmp_ne (tgt := 27) h dX10_carried_21 rfl (fun b3 h => ?_) (fun b3 h => ?_)
      · refine D_iinc (i := 3) (w := 1) dX10_carried_27 rfl (by decide) (Nat.le_of_ble_eq_true rfl) ?_
        refine V_goto (tgt := 4) dX10_carried_30 rfl ?_
        exact V_sub (ks := [1, 2, 3, 0]) rfl (ih _ _ _ _ hq h)
      · refine D_iinc (i := 2) (w := 1) dX10_carried_24 rfl (by decide) (Nat.le_of_ble_eq_true rfl) ?_
        refine D_iinc (i := 3) (w := 1) dX10_carried_27 rfl (by decide) (Nat.le_of_ble_eq_true rfl) ?_
        refine V_goto (tgt := 4) dX10_carried_30 rfl ?_
        exact V_sub (ks := [2, 3, 1, 0]) rfl (ih _ _ _ _ hq h)
noncomputable def f_X10_carried (Y : Nat → Nat → Int32) (a1 : Int32) : Option Int32 :=
  l_X10_carried_4 Y a1 FU (0 : Int32) (0 : Int32)
theorem e_X10_carried {G : GT} {f0 : Nat} {oh : Nat} {A : Nat → Nat} {M0 : MM} {hi0 : Nat} {Y : Nat → Nat → Int32} {a1 : Int32} {r : Int32} (hf0 : 1 ≤ f0) (hq : HQ oh A Y M0 hi0) (h : f_X10_carried Y a1 = some r) : Ex G f0 mX10_carried [.ref (oh), .int a1] M0 hi0 0 (8 * 0) (PH oh A M0 hi0 (.inl (some (.int r))) Y) := by
  obtain ⟨f, rfl, hf⟩ := suc_of hf0
  unfold f_X10_carried at h
  replace hq := HS.here hq
  refine ⟨Nat.le_of_ble_eq_true rfl, ?_⟩
  refine V_iconst (v := 0) dX10_carried_0 (by decide) ?_
  refine V_istore_n (i := 2) dX10_carried_1 rfl (Nat.le_of_ble_eq_true rfl) ?_
  refine V_iconst (v := 0) dX10_carried_2 (by decide) ?_
  refine V_istore_n (i := 3) dX10_carried_3 rfl (Nat.le_of_ble_eq_true rfl) ?_
  refine V_spare (k2 := 0) (n2 := 8 * (0)) (by omega) (by omega) ?_
  refine V_sub (ks := [2, 3, 1, 0]) rfl (lv_X10_carried_4 (k := 0) hf FU _ _ _ _ hq h)
noncomputable def l_X10_drop_44 (Y : Nat → Nat → Int32) (c1 : Int32) (c2 : Int32) : Nat → Int32 → Int32 → Int32 → Option Int32
  | 0, _, _, _ => none
  | N + 1, x3, x4, x5 => if x5 < 0 then some x3 else gd (inr c1 (hT Y)) (if (nI (hL Y (ix c1))) ≤ x5 then some x3 else gd (inr c1 (hT Y)) (gd (inr x5 (hL Y (ix c1))) (gd (inr c2 (12)) (gd (inr (1 : Int32) (9)) (gd (Nat.blt 0 N) (bdc (f_X10_far Y (Y (32 + ix c1) (ix x5)) (Y (40 + ix c2) (ix (1 : Int32)))) (fun v10 => if v10 < x4 then gd (inr c1 (hT Y)) (gd (inr x5 (hL Y (ix c1))) (bnd (Y (32 + ix c1) (ix x5)) (fun v13 => gd (inr c1 (hT Y)) (bnd (x5 + (Y 9 (ix c1))) (fun v14 => l_X10_drop_44 Y c1 c2 N v13 v10 v14))))) else gd (inr c1 (hT Y)) (bnd (x5 + (Y 9 (ix c1))) (fun v15 => l_X10_drop_44 Y c1 c2 N x3 x4 v15)))))))))
theorem lv_X10_drop_44 {G : GT} {f : Nat} {oh : Nat} {A : Nat → Nat} {M0 : MM} {hi0 : Nat} {Y : Nat → Nat → Int32} {c1 : Int32} {c2 : Int32} {k : Nat} {r : Int32} (hf : 2 ≤ f) : ∀ (N : Nat) (x3 : Int32) (x4 : Int32) (x5 : Int32) (M : MM) (hi : Nat), HS oh A M0 hi0 Y M hi → l_X10_drop_44 Y c1 c2 N x3 x4 x5 = some r → V G f (Ex G f) mX10_drop (PH oh A M0 hi0 (.inl (some (.int r))) Y) 44 [(0, .ref (oh)), (1, .int c1), (2, .int c2), (3, .int x3), (4, .int x4), (5, .int x5)] [] M hi (1 * (N - 1) + k) (8 * (1 * (N - 1) + k)) := by
  intro N
  induction N with
  | zero => intro x3 x4 x5 M hi hq h; cases h
  | succ N ih =>
    intro x3 x4 x5 M hi hq h
    rw [l_X10_drop_44] at h
    show V _ _ _ _ _ _ _ _ _ _ (1 * N + k) (8 * (1 * N + k))
    refine V_iload (i := 5) dX10_drop_44 rfl ?_
    refine D_if_lt (tgt := 122) h dX10_drop_46 rfl (fun b5 h => ?_) (fun b5 h => ?_)
    · refine V_iload_n (i := 3) dX10_drop_122 rfl rfl ?_
      obtain rfl := Option.some.inj h
      exact V_ireturn dX10_drop_123 ⟨_, rfl, rfl⟩ ⟨rfl, hq⟩
    · refine V_iload (i := 5) dX10_drop_49 rfl ?_
      refine V_aload_n (i := 0) dX10_drop_51 rfl rfl ?_
      refine V_getfield dX10_drop_52 hq.o fl_X10_63 rfl ?_
      refine V_iload_n (i := 1) dX10_drop_55 rfl rfl ?_
      refine H_ald h hq ho_6 rfl (by decide) dX10_drop_56 fun g6 h => ?_
      refine V_alen (t := 1) (v := nI (hL Y (ix c1))) dX10_drop_57 (hq.t (ht_32 hq g6)) (by decide) rfl ?_
      refine D_icmp_ge (tgt := 122) h dX10_drop_58 rfl (fun b7 h => ?_) (fun b7 h => ?_)
      · refine V_iload_n (i := 3) dX10_drop_122 rfl rfl ?_
        obtain rfl := Option.some.inj h
        exact V_ireturn dX10_drop_123 ⟨_, rfl, rfl⟩ ⟨rfl, hq⟩
      · refine V_aload_n (i := 0) dX10_drop_61 rfl rfl ?_
        refine V_aload_n (i := 0) dX10_drop_62 rfl rfl ?_
        refine V_getfield dX10_drop_63 hq.o fl_X10_63 rfl ?_
        refine V_iload_n (i := 1) dX10_drop_66 rfl rfl ?_
        refine H_ald h hq ho_6 rfl (by decide) dX10_drop_67 fun g8 h => ?_
        refine V_iload (i := 5) dX10_drop_68 rfl ?_
        refine D3_ild h (hq.t (ht_32 hq g8)) dX10_drop_70 fun h => ?_
        refine V_aload_n (i := 0) dX10_drop_71 rfl rfl ?_
        refine V_getfield dX10_drop_72 hq.o fl_X10_9 rfl ?_
        refine V_iload_n (i := 2) dX10_drop_75 rfl rfl ?_
        refine H_ald h hq ho_14 rfl (by decide) dX10_drop_76 fun g9 h => ?_
        refine V_iconst (v := 1) dX10_drop_77 (by decide) ?_
        refine D3_ild h (hq.t (ht_40 g9)) dX10_drop_78 fun h => ?_
        refine D_gd h fun gN h => ?_
        have gN := Nat.blt_eq.mp gN
        refine V_spare (k2 := 1 * (N - 1) + k + 1) (n2 := 8 * (1 * (N - 1) + k + 1)) (by omega) (by omega) ?_
        refine V_spare (k2 := 1 * (N - 1) + k + 1) (n2 := 8 * (1 * (N - 1) + k) + 8 * 1) (by omega) (by omega) ?_
        refine H_cI (As := [_, _]) h hq dX10_drop_79 cv_X10_122 rfl (H_recv hq) rfl (Nat.le_of_ble_eq_true rfl) (fun x hx => e_X10_far (Nat.le_trans (Nat.le_of_ble_eq_true rfl) hf) hq.1 hx) fun v10 M hi hq h => ?_
        refine V_istore (i := 6) dX10_drop_82 (Nat.le_of_ble_eq_true rfl) ?_
        refine V_iload (i := 6) dX10_drop_84 rfl ?_
        refine V_iload (i := 4) dX10_drop_86 rfl ?_
        refine D_icmp_lt (tgt := 94) h dX10_drop_88 rfl (fun b11 h => ?_) (fun b11 h => ?_)
        · refine V_iload (i := 6) dX10_drop_94 rfl ?_
          refine V_istore (i := 4) dX10_drop_96 (Nat.le_of_ble_eq_true rfl) ?_
          refine V_aload_n (i := 0) dX10_drop_98 rfl rfl ?_
          refine V_getfield dX10_drop_99 hq.o fl_X10_63 rfl ?_
          refine V_iload_n (i := 1) dX10_drop_102 rfl rfl ?_
          refine H_ald h hq ho_6 rfl (by decide) dX10_drop_103 fun g12 h => ?_
          refine V_iload (i := 5) dX10_drop_104 rfl ?_
          refine D3_ild h (hq.t (ht_32 hq g12)) dX10_drop_106 fun h => ?_
          refine D_istore_n (i := 3) h dX10_drop_107 rfl (Nat.le_of_ble_eq_true rfl) fun v13 h => ?_
          refine V_iload (i := 5) dX10_drop_108 rfl ?_
          refine V_aload_n (i := 0) dX10_drop_110 rfl rfl ?_
          refine V_getfield dX10_drop_111 hq.o fl_X10_72 rfl ?_
          refine V_iload_n (i := 1) dX10_drop_114 rfl rfl ?_
          refine D3_ild h (hq.t ht_9) dX10_drop_115 fun h => ?_
          refine V_iadd dX10_drop_116 ?_
          refine D_istore (i := 5) h dX10_drop_117 (Nat.le_of_ble_eq_true rfl) fun v14 h => ?_
          refine V_goto (tgt := 44) dX10_drop_119 rfl ?_
          exact V_sub (ks := [4, 5, 6, 1, 2, 0]) rfl (ih _ _ _ _ _ hq h)
        · refine V_goto (tgt := 108) dX10_drop_91 rfl ?_
          refine V_iload (i := 5) dX10_drop_108 rfl ?_
          refine V_aload_n (i := 0) dX10_drop_110 rfl rfl ?_
          refine V_getfield dX10_drop_111 hq.o fl_X10_72 rfl ?_
          refine V_iload_n (i := 1) dX10_drop_114 rfl rfl ?_
          refine D3_ild h (hq.t ht_9) dX10_drop_115 fun h => ?_
          refine V_iadd dX10_drop_116 ?_
          refine D_istore (i := 5) h dX10_drop_117 (Nat.le_of_ble_eq_true rfl) fun v15 h => ?_
          refine V_goto (tgt := 44) dX10_drop_119 rfl ?_
          exact V_sub (ks := [2, 3, 4, 5, 6, 0]) rfl (ih _ _ _ _ _ hq h)
noncomputable def f_X10_drop (Y : Nat → Nat → Int32) (a1 : Int32) (a2 : Int32) : Option Int32 :=
  gd (inr a1 (hT Y)) (gd (inr a1 (hT Y)) (gd (inr (Y 8 (ix a1)) (hL Y (ix a1))) (gd (inr a2 (12)) (gd (inr (1 : Int32) (9)) (bdc (f_X10_far Y (Y (32 + ix a1) (ix (Y 8 (ix a1)))) (Y (40 + ix a2) (ix (1 : Int32)))) (fun v3 => gd (inr a1 (hT Y)) (gd (inr a1 (hT Y)) (bnd ((Y 8 (ix a1)) + (Y 9 (ix a1))) (fun v4 => l_X10_drop_44 Y a1 a2 6 (-1 : Int32) v3 v4)))))))))
theorem e_X10_drop {G : GT} {f0 : Nat} {oh : Nat} {A : Nat → Nat} {M0 : MM} {hi0 : Nat} {Y : Nat → Nat → Int32} {a1 : Int32} {a2 : Int32} {r : Int32} (hf0 : 3 ≤ f0) (hq : HQ oh A Y M0 hi0) (h : f_X10_drop Y a1 a2 = some r) : Ex G f0 mX10_drop [.ref (oh), .int a1, .int a2] M0 hi0 6 (8 * 6) (PH oh A M0 hi0 (.inl (some (.int r))) Y) := by
  obtain ⟨f, rfl, hf⟩ := suc_of hf0
  unfold f_X10_drop at h
  replace hq := HS.here hq
  refine ⟨Nat.le_of_ble_eq_true rfl, ?_⟩
  refine V_iconst (v := -1) dX10_drop_0 (by decide) ?_
  refine V_istore_n (i := 3) dX10_drop_1 rfl (Nat.le_of_ble_eq_true rfl) ?_
  refine V_aload_n (i := 0) dX10_drop_2 rfl rfl ?_
  refine V_aload_n (i := 0) dX10_drop_3 rfl rfl ?_
  refine V_getfield dX10_drop_4 hq.o fl_X10_63 rfl ?_
  refine V_iload_n (i := 1) dX10_drop_7 rfl rfl ?_
  refine H_ald h hq ho_6 rfl (by decide) dX10_drop_8 fun g1 h => ?_
  refine V_aload_n (i := 0) dX10_drop_9 rfl rfl ?_
  refine V_getfield dX10_drop_10 hq.o fl_X10_69 rfl ?_
  refine V_iload_n (i := 1) dX10_drop_13 rfl rfl ?_
  refine D3_ild h (hq.t ht_8) dX10_drop_14 fun h => ?_
  refine D3_ild h (hq.t (ht_32 hq g1)) dX10_drop_15 fun h => ?_
  refine V_aload_n (i := 0) dX10_drop_16 rfl rfl ?_
  refine V_getfield dX10_drop_17 hq.o fl_X10_9 rfl ?_
  refine V_iload_n (i := 2) dX10_drop_20 rfl rfl ?_
  refine H_ald h hq ho_14 rfl (by decide) dX10_drop_21 fun g2 h => ?_
  refine V_iconst (v := 1) dX10_drop_22 (by decide) ?_
  refine D3_ild h (hq.t (ht_40 g2)) dX10_drop_23 fun h => ?_
  refine V_spare (k2 := 5 + 1) (n2 := 8 * (5) + 8 * 1) (by omega) (by omega) ?_
  refine H_cI (As := [_, _]) h hq dX10_drop_24 cv_X10_122 rfl (H_recv hq) rfl (Nat.le_of_ble_eq_true rfl) (fun x hx => e_X10_far (Nat.le_trans (Nat.le_of_ble_eq_true rfl) hf) hq.1 hx) fun v3 M hi hq h => ?_
  refine V_istore (i := 4) dX10_drop_27 (Nat.le_of_ble_eq_true rfl) ?_
  refine V_aload_n (i := 0) dX10_drop_29 rfl rfl ?_
  refine V_getfield dX10_drop_30 hq.o fl_X10_69 rfl ?_
  refine V_iload_n (i := 1) dX10_drop_33 rfl rfl ?_
  refine D3_ild h (hq.t ht_8) dX10_drop_34 fun h => ?_
  refine V_aload_n (i := 0) dX10_drop_35 rfl rfl ?_
  refine V_getfield dX10_drop_36 hq.o fl_X10_72 rfl ?_
  refine V_iload_n (i := 1) dX10_drop_39 rfl rfl ?_
  refine D3_ild h (hq.t ht_9) dX10_drop_40 fun h => ?_
  refine V_iadd dX10_drop_41 ?_
  refine D_istore (i := 5) h dX10_drop_42 (Nat.le_of_ble_eq_true rfl) fun v4 h => ?_
  refine V_spare (k2 := 1 * (6 - 1) + (0)) (n2 := 8 * (1 * (6 - 1) + (0))) (by omega) (by omega) ?_
  refine V_sub (ks := [3, 4, 5, 2, 1, 0]) rfl (lv_X10_drop_44 (k := 0) hf 6 _ _ _ _ _ hq h)
noncomputable def f_X10_fits (Y : Nat → Nat → Int32) (a1 : Int32) (a2 : Int32) : Option Int32 :=
  gd (inr a2 (12)) (gd (inr (3 : Int32) (9)) (gd (inr a1 (hT Y)) (gd (inr a1 (hT Y)) (gd (inr (Y 8 (ix a1)) (hL Y (ix a1))) (if (Y (40 + ix a2) (ix (3 : Int32))) = (Y (32 + ix a1) (ix (Y 8 (ix a1)))) then gd (inr a2 (12)) (gd (inr (7 : Int32) (9)) (if (Y 60 16) < (Y (40 + ix a2) (ix (7 : Int32))) then some (0 : Int32) else bdc (f_X10_carried Y a1) (fun v6 => gd (inr a1 (hT Y)) (if (Y 7 (ix a1)) ≤ v6 then some (0 : Int32) else bdc (f_X10_drop Y a1 a2) (fun v8 => if v8 < 0 then some (0 : Int32) else some (1 : Int32)))))) else some (0 : Int32))))))
theorem e_X10_fits {G : GT} {f0 : Nat} {oh : Nat} {A : Nat → Nat} {M0 : MM} {hi0 : Nat} {Y : Nat → Nat → Int32} {a1 : Int32} {a2 : Int32} {r : Int32} (hf0 : 4 ≤ f0) (hq : HQ oh A Y M0 hi0) (h : f_X10_fits Y a1 a2 = some r) : Ex G f0 mX10_fits [.ref (oh), .int a1, .int a2] M0 hi0 6 (8 * 6) (PH oh A M0 hi0 (.inl (some (.int r))) Y) := by
  obtain ⟨f, rfl, hf⟩ := suc_of hf0
  unfold f_X10_fits at h
  replace hq := HS.here hq
  refine ⟨Nat.le_of_ble_eq_true rfl, ?_⟩
  refine V_aload_n (i := 0) dX10_fits_0 rfl rfl ?_
  refine V_getfield dX10_fits_1 hq.o fl_X10_9 rfl ?_
  refine V_iload_n (i := 2) dX10_fits_4 rfl rfl ?_
  refine H_ald h hq ho_14 rfl (by decide) dX10_fits_5 fun g1 h => ?_
  refine V_iconst (v := 3) dX10_fits_6 (by decide) ?_
  refine D3_ild h (hq.t (ht_40 g1)) dX10_fits_7 fun h => ?_
  refine V_aload_n (i := 0) dX10_fits_8 rfl rfl ?_
  refine V_getfield dX10_fits_9 hq.o fl_X10_63 rfl ?_
  refine V_iload_n (i := 1) dX10_fits_12 rfl rfl ?_
  refine H_ald h hq ho_6 rfl (by decide) dX10_fits_13 fun g2 h => ?_
  refine V_aload_n (i := 0) dX10_fits_14 rfl rfl ?_
  refine V_getfield dX10_fits_15 hq.o fl_X10_69 rfl ?_
  refine V_iload_n (i := 1) dX10_fits_18 rfl rfl ?_
  refine D3_ild h (hq.t ht_8) dX10_fits_19 fun h => ?_
  refine D3_ild h (hq.t (ht_32 hq g2)) dX10_fits_20 fun h => ?_
  refine D_icmp_ne (tgt := 67) h dX10_fits_21 rfl (fun b3 h => ?_) (fun b3 h => ?_)
  · refine V_iconst (v := 0) dX10_fits_67 (by decide) ?_
    obtain rfl := Option.some.inj h
    exact V_ireturn dX10_fits_68 ⟨_, rfl, rfl⟩ ⟨rfl, hq⟩
  · refine V_aload_n (i := 0) dX10_fits_24 rfl rfl ?_
    refine V_getfield dX10_fits_25 hq.o fl_X10_114 rfl ?_
    refine V_aload_n (i := 0) dX10_fits_28 rfl rfl ?_
    refine V_getfield dX10_fits_29 hq.o fl_X10_9 rfl ?_
    refine V_iload_n (i := 2) dX10_fits_32 rfl rfl ?_
    refine H_ald h hq ho_14 rfl (by decide) dX10_fits_33 fun g4 h => ?_
    refine V_bipush (v := 7) dX10_fits_34 (by decide) ?_
    refine D3_ild h (hq.t (ht_40 g4)) dX10_fits_36 fun h => ?_
    refine D_icmp_lt (tgt := 67) h dX10_fits_37 rfl (fun b5 h => ?_) (fun b5 h => ?_)
    · refine V_iconst (v := 0) dX10_fits_67 (by decide) ?_
      obtain rfl := Option.some.inj h
      exact V_ireturn dX10_fits_68 ⟨_, rfl, rfl⟩ ⟨rfl, hq⟩
    · refine V_aload_n (i := 0) dX10_fits_40 rfl rfl ?_
      refine V_iload_n (i := 1) dX10_fits_41 rfl rfl ?_
      refine V_spare (k2 := 6 + 0) (n2 := 8 * (6) + 8 * 0) (by omega) (by omega) ?_
      refine H_cI (As := [_]) h hq dX10_fits_42 cv_X10_125 rfl (H_recv hq) rfl (Nat.le_of_ble_eq_true rfl) (fun x hx => e_X10_carried (Nat.le_trans (Nat.le_of_ble_eq_true rfl) hf) hq.1 hx) fun v6 M hi hq h => ?_
      refine V_aload_n (i := 0) dX10_fits_45 rfl rfl ?_
      refine V_getfield dX10_fits_46 hq.o fl_X10_66 rfl ?_
      refine V_iload_n (i := 1) dX10_fits_49 rfl rfl ?_
      refine D3_ild h (hq.t ht_7) dX10_fits_50 fun h => ?_
      refine D_icmp_ge (tgt := 67) h dX10_fits_51 rfl (fun b7 h => ?_) (fun b7 h => ?_)
      · refine V_iconst (v := 0) dX10_fits_67 (by decide) ?_
        obtain rfl := Option.some.inj h
        exact V_ireturn dX10_fits_68 ⟨_, rfl, rfl⟩ ⟨rfl, hq⟩
      · refine V_aload_n (i := 0) dX10_fits_54 rfl rfl ?_
        refine V_iload_n (i := 1) dX10_fits_55 rfl rfl ?_
        refine V_iload_n (i := 2) dX10_fits_56 rfl rfl ?_
        refine V_spare (k2 := 0 + 6) (n2 := 8 * (0) + 8 * 6) (by omega) (by omega) ?_
        refine H_cI (As := [_, _]) h hq dX10_fits_57 cv_X10_128 rfl (H_recv hq) rfl (Nat.le_of_ble_eq_true rfl) (fun x hx => e_X10_drop (Nat.le_trans (Nat.le_of_ble_eq_true rfl) hf) hq.1 hx) fun v8 M hi hq h => ?_
        refine D_if_lt (tgt := 67) h dX10_fits_60 rfl (fun b9 h => ?_) (fun b9 h => ?_)
        · refine V_iconst (v := 0) dX10_fits_67 (by decide) ?_
          obtain rfl := Option.some.inj h
          exact V_ireturn dX10_fits_68 ⟨_, rfl, rfl⟩ ⟨rfl, hq⟩
        · refine V_iconst (v := 1) dX10_fits_63 (by decide) ?_
          refine V_goto (tgt := 68) dX10_fits_64 rfl ?_
          obtain rfl := Option.some.inj h
          exact V_ireturn dX10_fits_68 ⟨_, rfl, rfl⟩ ⟨rfl, hq⟩
noncomputable def l_X10_loads_9 (c1 : Int32) (c2 : Int32) (K79 : (Nat → Nat → Int32) → Option (Nat → Nat → Int32)) : Nat → (Nat → Nat → Int32) → Int32 → Option (Nat → Nat → Int32)
  | 0, _, _ => none
  | N + 1, Y, x3 => if (Y 60 15) ≤ x3 then K79 Y else gd (inr x3 (12)) (gd (inr (2 : Int32) (9)) (if (Y (40 + ix x3) (ix (2 : Int32))) = c2 then gd (Nat.blt 0 N) (bdc (f_X10_fits Y c1 x3) (fun v5 => if v5 = 0 then l_X10_loads_9 c1 c2 K79 N Y (x3 + (1 : Int32)) else gd (inr x3 (12)) (bdc (f_X10_drop Y c1 x3) (fun v8 => gd (inr (5 : Int32) (9)) (bnd (w2 Y (40 + ix x3) (ix (5 : Int32)) v8) (fun Y9 => gd (inr x3 (12)) (gd (inr (3 : Int32) (9)) (bnd (w2 Y9 (40 + ix x3) (ix (3 : Int32)) (-1 : Int32)) (fun Y11 => gd (inr x3 (12)) (gd (inr (4 : Int32) (9)) (bnd (w2 Y11 (40 + ix x3) (ix (4 : Int32)) c1) (fun Y13 => l_X10_loads_9 c1 c2 K79 N Y13 (x3 + (1 : Int32)))))))))))))) else l_X10_loads_9 c1 c2 K79 N Y (x3 + (1 : Int32))))
theorem lv_X10_loads_9 {G : GT} {f : Nat} {oh : Nat} {A : Nat → Nat} {M0 : MM} {hi0 : Nat} {c1 : Int32} {c2 : Int32} {K79 : (Nat → Nat → Int32) → Option (Nat → Nat → Int32)} {k : Nat} {r : (Nat → Nat → Int32)} (hf : 4 ≤ f) (hK79 : ∀ (Yk : Nat → Nat → Int32) (M : MM) (hi : Nat), HS oh A M0 hi0 Yk M hi → K79 Yk = some r → V G f (Ex G f) mX10_loads (PH oh A M0 hi0 (.inl none) r) 79 [(0, .ref (oh)), (1, .int c1), (2, .int c2)] [] M hi (k) (8 * (k))) : ∀ (N : Nat) (Y : Nat → Nat → Int32) (x3 : Int32) (M : MM) (hi : Nat), HS oh A M0 hi0 Y M hi → l_X10_loads_9 c1 c2 K79 N Y x3 = some r → V G f (Ex G f) mX10_loads (PH oh A M0 hi0 (.inl none) r) 9 [(0, .ref (oh)), (1, .int c1), (2, .int c2), (3, .int x3)] [] M hi (12 * (N - 1) + k) (8 * (12 * (N - 1) + k)) := by
  intro N
  induction N with
  | zero => intro Y x3 M hi hq h; cases h
  | succ N ih =>
    intro Y x3 M hi hq h
    rw [l_X10_loads_9] at h
    show V _ _ _ _ _ _ _ _ _ _ (12 * N + k) (8 * (12 * N + k))
    refine V_iload_n (i := 3) dX10_loads_9 rfl rfl ?_
    refine V_aload_n (i := 0) dX10_loads_10 rfl rfl ?_
    refine V_getfield dX10_loads_11 hq.o fl_X10_111 rfl ?_
    refine D_icmp_ge (tgt := 79) h dX10_loads_14 rfl (fun b2 h => ?_) (fun b2 h => ?_)
    · refine V_spare (k2 := k) (n2 := 8 * (k)) (by omega) (by omega) ?_
      exact V_sub (ks := [0, 1, 2]) rfl (hK79 _ _ _ hq h)
    · refine V_aload_n (i := 0) dX10_loads_17 rfl rfl ?_
      refine V_getfield dX10_loads_18 hq.o fl_X10_9 rfl ?_
      refine V_iload_n (i := 3) dX10_loads_21 rfl rfl ?_
      refine H_ald h hq ho_14 rfl (by decide) dX10_loads_22 fun g3 h => ?_
      refine V_iconst (v := 2) dX10_loads_23 (by decide) ?_
      refine D3_ild h (hq.t (ht_40 g3)) dX10_loads_24 fun h => ?_
      refine V_iload_n (i := 2) dX10_loads_25 rfl rfl ?_
      refine D_icmp_ne (tgt := 73) h dX10_loads_26 rfl (fun b4 h => ?_) (fun b4 h => ?_)
      · refine D_iinc (i := 3) (w := 1) dX10_loads_73 rfl (by decide) (Nat.le_of_ble_eq_true rfl) ?_
        refine V_goto (tgt := 9) dX10_loads_76 rfl ?_
        refine V_spare (k2 := 12 * (N - 1) + k) (n2 := 8 * (12 * (N - 1) + k)) (by omega) (by omega) ?_
        exact V_sub (ks := [1, 2, 3, 0]) rfl (ih _ _ _ _ hq h)
      · refine V_aload_n (i := 0) dX10_loads_29 rfl rfl ?_
        refine V_iload_n (i := 1) dX10_loads_30 rfl rfl ?_
        refine V_iload_n (i := 3) dX10_loads_31 rfl rfl ?_
        refine D_gd h fun gN h => ?_
        have gN := Nat.blt_eq.mp gN
        refine V_spare (k2 := 12 * (N - 1) + k + 12) (n2 := 8 * (12 * (N - 1) + k + 12)) (by omega) (by omega) ?_
        refine V_spare (k2 := 12 * (N - 1) + k + 6 + 6) (n2 := 8 * (12 * (N - 1) + k + 6) + 8 * 6) (by omega) (by omega) ?_
        refine H_cI (As := [_, _]) h hq dX10_loads_32 cv_X10_131 rfl (H_recv hq) rfl (Nat.le_of_ble_eq_true rfl) (fun x hx => e_X10_fits (Nat.le_trans (Nat.le_of_ble_eq_true rfl) hf) hq.1 hx) fun v5 M hi hq h => ?_
        refine D_if_ne (tgt := 41) h dX10_loads_35 rfl (fun b6 h => ?_) (fun b6 h => ?_)
        · refine V_aload_n (i := 0) dX10_loads_41 rfl rfl ?_
          refine V_getfield dX10_loads_42 hq.o fl_X10_9 rfl ?_
          refine V_iload_n (i := 3) dX10_loads_45 rfl rfl ?_
          refine H_ald h hq ho_14 rfl (by decide) dX10_loads_46 fun g7 h => ?_
          refine V_iconst (v := 5) dX10_loads_47 (by decide) ?_
          refine V_aload_n (i := 0) dX10_loads_48 rfl rfl ?_
          refine V_iload_n (i := 1) dX10_loads_49 rfl rfl ?_
          refine V_iload_n (i := 3) dX10_loads_50 rfl rfl ?_
          refine V_spare (k2 := 12 * (N - 1) + k + 6) (n2 := 8 * (12 * (N - 1) + k) + 8 * 6) (by omega) (by omega) ?_
          refine H_cI (As := [_, _]) h hq dX10_loads_51 cv_X10_128 rfl (H_recv hq) rfl (Nat.le_of_ble_eq_true rfl) (fun x hx => e_X10_drop (Nat.le_trans (Nat.le_of_ble_eq_true rfl) hf) hq.1 hx) fun v8 M hi hq h => ?_
          refine H_ist h hq (ht_40 g7) dX10_loads_54 fun Y9 M hq h => ?_
          refine V_aload_n (i := 0) dX10_loads_55 rfl rfl ?_
          refine V_getfield dX10_loads_56 hq.o fl_X10_9 rfl ?_
          refine V_iload_n (i := 3) dX10_loads_59 rfl rfl ?_
          refine H_ald h hq ho_14 rfl (by decide) dX10_loads_60 fun g10 h => ?_
          refine V_iconst (v := 3) dX10_loads_61 (by decide) ?_
          refine V_iconst (v := -1) dX10_loads_62 (by decide) ?_
          refine H_ist h hq (ht_40 g10) dX10_loads_63 fun Y11 M hq h => ?_
          refine V_aload_n (i := 0) dX10_loads_64 rfl rfl ?_
          refine V_getfield dX10_loads_65 hq.o fl_X10_9 rfl ?_
          refine V_iload_n (i := 3) dX10_loads_68 rfl rfl ?_
          refine H_ald h hq ho_14 rfl (by decide) dX10_loads_69 fun g12 h => ?_
          refine V_iconst (v := 4) dX10_loads_70 (by decide) ?_
          refine V_iload_n (i := 1) dX10_loads_71 rfl rfl ?_
          refine H_ist h hq (ht_40 g12) dX10_loads_72 fun Y13 M hq h => ?_
          refine D_iinc (i := 3) (w := 1) dX10_loads_73 rfl (by decide) (Nat.le_of_ble_eq_true rfl) ?_
          refine V_goto (tgt := 9) dX10_loads_76 rfl ?_
          exact V_sub (ks := [1, 2, 3, 0]) rfl (ih _ _ _ _ hq h)
        · refine V_goto (tgt := 73) dX10_loads_38 rfl ?_
          refine D_iinc (i := 3) (w := 1) dX10_loads_73 rfl (by decide) (Nat.le_of_ble_eq_true rfl) ?_
          refine V_goto (tgt := 9) dX10_loads_76 rfl ?_
          refine V_spare (k2 := 12 * (N - 1) + k) (n2 := 8 * (12 * (N - 1) + k)) (by omega) (by omega) ?_
          exact V_sub (ks := [1, 2, 3, 0]) rfl (ih _ _ _ _ hq h)
noncomputable def l_X10_loads_3 (c1 : Int32) : Nat → (Nat → Nat → Int32) → Int32 → Option (Nat → Nat → Int32)
  | 0, _, _ => none
  | N + 1, Y, x2 => if x2 ≤ 0 then some Y else gd (Nat.blt 0 N) (l_X10_loads_9 c1 x2 (fun (Y14 : Nat → Nat → Int32) => l_X10_loads_3 c1 N Y14 (x2 + (-1 : Int32))) 13 Y (0 : Int32))
theorem lv_X10_loads_3 {G : GT} {f : Nat} {oh : Nat} {A : Nat → Nat} {M0 : MM} {hi0 : Nat} {c1 : Int32} {k : Nat} {r : (Nat → Nat → Int32)} (hf : 4 ≤ f) : ∀ (N : Nat) (Y : Nat → Nat → Int32) (x2 : Int32) (M : MM) (hi : Nat), HS oh A M0 hi0 Y M hi → l_X10_loads_3 c1 N Y x2 = some r → V G f (Ex G f) mX10_loads (PH oh A M0 hi0 (.inl none) r) 3 [(0, .ref (oh)), (1, .int c1), (2, .int x2)] [] M hi (144 * (N - 1) + k) (8 * (144 * (N - 1) + k)) := by
  intro N
  induction N with
  | zero => intro Y x2 M hi hq h; cases h
  | succ N ih =>
    intro Y x2 M hi hq h
    rw [l_X10_loads_3] at h
    show V _ _ _ _ _ _ _ _ _ _ (144 * N + k) (8 * (144 * N + k))
    refine V_iload_n (i := 2) dX10_loads_3 rfl rfl ?_
    refine D_if_le (tgt := 85) h dX10_loads_4 rfl (fun b1 h => ?_) (fun b1 h => ?_)
    · obtain rfl := Option.some.inj h
      exact V_return dX10_loads_85 rfl ⟨rfl, hq⟩
    · refine V_iconst (v := 0) dX10_loads_7 (by decide) ?_
      refine V_istore_n (i := 3) dX10_loads_8 rfl (Nat.le_of_ble_eq_true rfl) ?_
      refine D_gd h fun gN h => ?_
      have gN := Nat.blt_eq.mp gN
      refine V_spare (k2 := 144 * (N - 1) + k + 144) (n2 := 8 * (144 * (N - 1) + k + 144)) (by omega) (by omega) ?_
      refine V_spare (k2 := 12 * (13 - 1) + (144 * (N - 1) + k)) (n2 := 8 * (12 * (13 - 1) + (144 * (N - 1) + k))) (by omega) (by omega) ?_
      refine V_sub (ks := [1, 2, 3, 0]) rfl (lv_X10_loads_9 (k := 144 * (N - 1) + k) hf ?_ 13 _ _ _ _ hq h)
      · intro Y14 M hi hq h
        refine D_iinc (i := 2) (w := -1) dX10_loads_79 rfl (by decide) (Nat.le_of_ble_eq_true rfl) ?_
        refine V_goto (tgt := 3) dX10_loads_82 rfl ?_
        exact V_sub (ks := [1, 2, 0]) rfl (ih _ _ _ _ hq h)
noncomputable def f_X10_loads (Y : Nat → Nat → Int32) (a1 : Int32) : Option (Nat → Nat → Int32) :=
  l_X10_loads_3 a1 10 Y (9 : Int32)
theorem e_X10_loads {G : GT} {f0 : Nat} {oh : Nat} {A : Nat → Nat} {M0 : MM} {hi0 : Nat} {Y : Nat → Nat → Int32} {a1 : Int32} {r : (Nat → Nat → Int32)} (hf0 : 5 ≤ f0) (hq : HQ oh A Y M0 hi0) (h : f_X10_loads Y a1 = some r) : Ex G f0 mX10_loads [.ref (oh), .int a1] M0 hi0 1296 (8 * 1296) (PH oh A M0 hi0 (.inl none) r) := by
  obtain ⟨f, rfl, hf⟩ := suc_of hf0
  unfold f_X10_loads at h
  replace hq := HS.here hq
  refine ⟨Nat.le_of_ble_eq_true rfl, ?_⟩
  refine V_bipush (v := 9) dX10_loads_0 (by decide) ?_
  refine V_istore_n (i := 2) dX10_loads_2 rfl (Nat.le_of_ble_eq_true rfl) ?_
  refine V_spare (k2 := 144 * (10 - 1) + (0)) (n2 := 8 * (144 * (10 - 1) + (0))) (by omega) (by omega) ?_
  refine V_sub (ks := [1, 2, 0]) rfl (lv_X10_loads_3 (k := 0) hf 10 _ _ _ _ hq h)
noncomputable def f_X10_departs (Y : Nat → Nat → Int32) (a1 : Int32) : Option (Nat → Nat → Int32) :=
  gd (inr a1 (hT Y)) (gd (inr a1 (hT Y)) (gd (inr (Y 8 (ix a1)) (hL Y (ix a1))) (bnd (Y (32 + ix a1) (ix (Y 8 (ix a1)))) (fun v2 => gd (inr a1 (hT Y)) (gd (inr a1 (hT Y)) (gd (inr a1 (hT Y)) (gd (inr ((Y 8 (ix a1)) + (Y 9 (ix a1))) (hL Y (ix a1))) (bnd (Y (32 + ix a1) (ix ((Y 8 (ix a1)) + (Y 9 (ix a1))))) (fun v4 => gd (inr v2 (hN Y)) (gd (inr v4 (hN Y)) (if (Y (24 + ix v2) (ix v4)) = 0 then gd (inr a1 (hT Y)) (gd (inr a1 (hT Y)) (bnd (w2 Y 11 (ix a1) ((Y 11 (ix a1)) + (1 : Int32))) (fun Y7 => some Y7))) else gd (inr v2 (hN Y)) (gd (inr v4 (hN Y)) (gd (inr a1 (hT Y)) (bnd (w2 Y 10 (ix a1) (Y (16 + ix v2) (ix v4))) (fun Y9 => some Y9)))))))))))))))
theorem e_X10_departs {G : GT} {f0 : Nat} {oh : Nat} {A : Nat → Nat} {M0 : MM} {hi0 : Nat} {Y : Nat → Nat → Int32} {a1 : Int32} {r : (Nat → Nat → Int32)} (hf0 : 1 ≤ f0) (hq : HQ oh A Y M0 hi0) (h : f_X10_departs Y a1 = some r) : Ex G f0 mX10_departs [.ref (oh), .int a1] M0 hi0 0 (8 * 0) (PH oh A M0 hi0 (.inl none) r) := by
  obtain ⟨f, rfl, hf⟩ := suc_of hf0
  unfold f_X10_departs at h
  replace hq := HS.here hq
  refine ⟨Nat.le_of_ble_eq_true rfl, ?_⟩
  refine V_aload_n (i := 0) dX10_departs_0 rfl rfl ?_
  refine V_getfield dX10_departs_1 hq.o fl_X10_63 rfl ?_
  refine V_iload_n (i := 1) dX10_departs_4 rfl rfl ?_
  refine H_ald h hq ho_6 rfl (by decide) dX10_departs_5 fun g1 h => ?_
  refine V_aload_n (i := 0) dX10_departs_6 rfl rfl ?_
  refine V_getfield dX10_departs_7 hq.o fl_X10_69 rfl ?_
  refine V_iload_n (i := 1) dX10_departs_10 rfl rfl ?_
  refine D3_ild h (hq.t ht_8) dX10_departs_11 fun h => ?_
  refine D3_ild h (hq.t (ht_32 hq g1)) dX10_departs_12 fun h => ?_
  refine D_istore_n (i := 2) h dX10_departs_13 rfl (Nat.le_of_ble_eq_true rfl) fun v2 h => ?_
  refine V_aload_n (i := 0) dX10_departs_14 rfl rfl ?_
  refine V_getfield dX10_departs_15 hq.o fl_X10_63 rfl ?_
  refine V_iload_n (i := 1) dX10_departs_18 rfl rfl ?_
  refine H_ald h hq ho_6 rfl (by decide) dX10_departs_19 fun g3 h => ?_
  refine V_aload_n (i := 0) dX10_departs_20 rfl rfl ?_
  refine V_getfield dX10_departs_21 hq.o fl_X10_69 rfl ?_
  refine V_iload_n (i := 1) dX10_departs_24 rfl rfl ?_
  refine D3_ild h (hq.t ht_8) dX10_departs_25 fun h => ?_
  refine V_aload_n (i := 0) dX10_departs_26 rfl rfl ?_
  refine V_getfield dX10_departs_27 hq.o fl_X10_72 rfl ?_
  refine V_iload_n (i := 1) dX10_departs_30 rfl rfl ?_
  refine D3_ild h (hq.t ht_9) dX10_departs_31 fun h => ?_
  refine V_iadd dX10_departs_32 ?_
  refine D3_ild h (hq.t (ht_32 hq g3)) dX10_departs_33 fun h => ?_
  refine D_istore_n (i := 3) h dX10_departs_34 rfl (Nat.le_of_ble_eq_true rfl) fun v4 h => ?_
  refine V_aload_n (i := 0) dX10_departs_35 rfl rfl ?_
  refine V_getfield dX10_departs_36 hq.o fl_X10_35 rfl ?_
  refine V_iload_n (i := 2) dX10_departs_39 rfl rfl ?_
  refine H_ald h hq ho_3 rfl (by decide) dX10_departs_40 fun g5 h => ?_
  refine V_iload_n (i := 3) dX10_departs_41 rfl rfl ?_
  refine D3_zld h (hq.t (ht_24 hq g5)) dX10_departs_42 fun h => ?_
  refine D_if_eq (tgt := 63) h dX10_departs_43 rfl (fun b6 h => ?_) (fun b6 h => ?_)
  · refine V_aload_n (i := 0) dX10_departs_63 rfl rfl ?_
    refine V_getfield dX10_departs_64 hq.o fl_X10_78 rfl ?_
    refine V_iload_n (i := 1) dX10_departs_67 rfl rfl ?_
    refine V_dup2_11 dX10_departs_68 rfl rfl ?_
    refine D3_ild h (hq.t ht_11) dX10_departs_69 fun h => ?_
    refine V_iconst (v := 1) dX10_departs_70 (by decide) ?_
    refine V_iadd dX10_departs_71 ?_
    refine H_ist h hq ht_11 dX10_departs_72 fun Y7 M hq h => ?_
    obtain rfl := Option.some.inj h
    exact V_return dX10_departs_73 rfl ⟨rfl, hq⟩
  · refine V_aload_n (i := 0) dX10_departs_46 rfl rfl ?_
    refine V_getfield dX10_departs_47 hq.o fl_X10_75 rfl ?_
    refine V_iload_n (i := 1) dX10_departs_50 rfl rfl ?_
    refine V_aload_n (i := 0) dX10_departs_51 rfl rfl ?_
    refine V_getfield dX10_departs_52 hq.o fl_X10_30 rfl ?_
    refine V_iload_n (i := 2) dX10_departs_55 rfl rfl ?_
    refine H_ald h hq ho_2 rfl (by decide) dX10_departs_56 fun g8 h => ?_
    refine V_iload_n (i := 3) dX10_departs_57 rfl rfl ?_
    refine D3_ild h (hq.t (ht_16 hq g8)) dX10_departs_58 fun h => ?_
    refine H_ist h hq ht_10 dX10_departs_59 fun Y9 M hq h => ?_
    refine V_goto (tgt := 73) dX10_departs_60 rfl ?_
    obtain rfl := Option.some.inj h
    exact V_return dX10_departs_73 rfl ⟨rfl, hq⟩
noncomputable def l_X10_arrives_102 (c1 : Int32) (c3 : Int32) (K156 : (Nat → Nat → Int32) → Int32 → Option (Nat → Nat → Int32)) : Nat → (Nat → Nat → Int32) → Int32 → Int32 → Option (Nat → Nat → Int32)
  | 0, _, _, _ => none
  | N + 1, Y, x4, x5 => if (Y 60 15) ≤ x5 then K156 Y x4 else gd (inr x5 (12)) (gd (inr (4 : Int32) (9)) (gd (Nat.blt 0 N) (jn (bdc (f_X10_fits Y c1 x5) (fun v23 => if v23 = 0 then l_X10_arrives_102 c1 c3 K156 N Y x4 (x5 + (1 : Int32)) else l_X10_arrives_102 c1 c3 K156 N Y (1 : Int32) (x5 + (1 : Int32)))) (fun j19 => if (Y (40 + ix x5) (ix (4 : Int32))) = c1 then gd (inr x5 (12)) (gd (inr (5 : Int32) (9)) (if (Y (40 + ix x5) (ix (5 : Int32))) = c3 then l_X10_arrives_102 c1 c3 K156 N Y (1 : Int32) (x5 + (1 : Int32)) else j19)) else j19))))
theorem lv_X10_arrives_102 {G : GT} {f : Nat} {oh : Nat} {A : Nat → Nat} {M0 : MM} {hi0 : Nat} {c1 : Int32} {c3 : Int32} {K156 : (Nat → Nat → Int32) → Int32 → Option (Nat → Nat → Int32)} {k : Nat} {r : (Nat → Nat → Int32)} (hf : 4 ≤ f) (hK156 : ∀ (Yk : Nat → Nat → Int32) (y4 : Int32) (M : MM) (hi : Nat), HS oh A M0 hi0 Yk M hi → K156 Yk y4 = some r → V G f (Ex G f) mX10_arrives (PH oh A M0 hi0 (.inl none) r) 156 [(0, .ref (oh)), (1, .int c1), (3, .int c3), (4, .int y4)] [] M hi (k) (8 * (k))) : ∀ (N : Nat) (Y : Nat → Nat → Int32) (x4 : Int32) (x5 : Int32) (M : MM) (hi : Nat), HS oh A M0 hi0 Y M hi → l_X10_arrives_102 c1 c3 K156 N Y x4 x5 = some r → V G f (Ex G f) mX10_arrives (PH oh A M0 hi0 (.inl none) r) 102 [(0, .ref (oh)), (1, .int c1), (3, .int c3), (4, .int x4), (5, .int x5)] [] M hi (6 * (N - 1) + k) (8 * (6 * (N - 1) + k)) := by
  intro N
  induction N with
  | zero => intro Y x4 x5 M hi hq h; cases h
  | succ N ih =>
    intro Y x4 x5 M hi hq h
    rw [l_X10_arrives_102] at h
    show V _ _ _ _ _ _ _ _ _ _ (6 * N + k) (8 * (6 * N + k))
    refine V_iload (i := 5) dX10_arrives_102 rfl ?_
    refine V_aload_n (i := 0) dX10_arrives_104 rfl rfl ?_
    refine V_getfield dX10_arrives_105 hq.o fl_X10_111 rfl ?_
    refine D_icmp_ge (tgt := 156) h dX10_arrives_108 rfl (fun b17 h => ?_) (fun b17 h => ?_)
    · refine V_spare (k2 := k) (n2 := 8 * (k)) (by omega) (by omega) ?_
      exact V_sub (ks := [0, 1, 2, 3]) rfl (hK156 _ _ _ _ hq h)
    · refine V_aload_n (i := 0) dX10_arrives_111 rfl rfl ?_
      refine V_getfield dX10_arrives_112 hq.o fl_X10_9 rfl ?_
      refine V_iload (i := 5) dX10_arrives_115 rfl ?_
      refine H_ald h hq ho_14 rfl (by decide) dX10_arrives_117 fun g18 h => ?_
      refine V_iconst (v := 4) dX10_arrives_118 (by decide) ?_
      refine D3_ild h (hq.t (ht_40 g18)) dX10_arrives_119 fun h => ?_
      refine V_iload_n (i := 1) dX10_arrives_120 rfl rfl ?_
      refine D_gd h fun gN h => ?_
      have gN := Nat.blt_eq.mp gN
      refine V_spare (k2 := 6 * (N - 1) + k + 6) (n2 := 8 * (6 * (N - 1) + k + 6)) (by omega) (by omega) ?_
      refine D_jn (fun (j : Option (Nat → Nat → Int32)) => ∀ (M : MM) (hi : Nat), HS oh A M0 hi0 Y M hi → j = some r → V G f (Ex G f) mX10_arrives (PH oh A M0 hi0 (.inl none) r) 137 [(0, .ref (oh)), (1, .int c1), (3, .int c3), (4, .int x4), (5, .int x5)] [] M hi (6 * (N - 1) + k + 6) (8 * (6 * (N - 1) + k + 6))) h (fun j19 hj19 h => ?_) ?_
      · refine D_icmp_ne (tgt := 137) h dX10_arrives_121 rfl (fun b20 h => ?_) (fun b20 h => ?_)
        · exact V_sub (ks := [0, 1, 2, 3, 4]) rfl (hj19 _ _ hq h)
        · refine V_aload_n (i := 0) dX10_arrives_124 rfl rfl ?_
          refine V_getfield dX10_arrives_125 hq.o fl_X10_9 rfl ?_
          refine V_iload (i := 5) dX10_arrives_128 rfl ?_
          refine H_ald h hq ho_14 rfl (by decide) dX10_arrives_130 fun g21 h => ?_
          refine V_iconst (v := 5) dX10_arrives_131 (by decide) ?_
          refine D3_ild h (hq.t (ht_40 g21)) dX10_arrives_132 fun h => ?_
          refine V_iload_n (i := 3) dX10_arrives_133 rfl rfl ?_
          refine D_icmp_eq (tgt := 147) h dX10_arrives_134 rfl (fun b22 h => ?_) (fun b22 h => ?_)
          · refine V_iconst (v := 1) dX10_arrives_147 (by decide) ?_
            refine V_istore (i := 4) dX10_arrives_148 (Nat.le_of_ble_eq_true rfl) ?_
            refine D_iinc (i := 5) (w := 1) dX10_arrives_150 rfl (by decide) (Nat.le_of_ble_eq_true rfl) ?_
            refine V_goto (tgt := 102) dX10_arrives_153 rfl ?_
            refine V_spare (k2 := 6 * (N - 1) + k) (n2 := 8 * (6 * (N - 1) + k)) (by omega) (by omega) ?_
            exact V_sub (ks := [2, 3, 4, 1, 0]) rfl (ih _ _ _ _ _ hq h)
          · exact V_sub (ks := [0, 1, 2, 3, 4]) rfl (hj19 _ _ hq h)
      · intro M hi hq h
        refine V_aload_n (i := 0) dX10_arrives_137 rfl rfl ?_
        refine V_iload_n (i := 1) dX10_arrives_138 rfl rfl ?_
        refine V_iload (i := 5) dX10_arrives_139 rfl ?_
        refine V_spare (k2 := 6 * (N - 1) + k + 6) (n2 := 8 * (6 * (N - 1) + k) + 8 * 6) (by omega) (by omega) ?_
        refine H_cI (As := [_, _]) h hq dX10_arrives_141 cv_X10_131 rfl (H_recv hq) rfl (Nat.le_of_ble_eq_true rfl) (fun x hx => e_X10_fits (Nat.le_trans (Nat.le_of_ble_eq_true rfl) hf) hq.1 hx) fun v23 M hi hq h => ?_
        refine D_if_eq (tgt := 150) h dX10_arrives_144 rfl (fun b24 h => ?_) (fun b24 h => ?_)
        · refine D_iinc (i := 5) (w := 1) dX10_arrives_150 rfl (by decide) (Nat.le_of_ble_eq_true rfl) ?_
          refine V_goto (tgt := 102) dX10_arrives_153 rfl ?_
          exact V_sub (ks := [1, 2, 3, 4, 0]) rfl (ih _ _ _ _ _ hq h)
        · refine V_iconst (v := 1) dX10_arrives_147 (by decide) ?_
          refine V_istore (i := 4) dX10_arrives_148 (Nat.le_of_ble_eq_true rfl) ?_
          refine D_iinc (i := 5) (w := 1) dX10_arrives_150 rfl (by decide) (Nat.le_of_ble_eq_true rfl) ?_
          refine V_goto (tgt := 102) dX10_arrives_153 rfl ?_
          exact V_sub (ks := [2, 3, 4, 1, 0]) rfl (ih _ _ _ _ _ hq h)
noncomputable def l_X10_arrives_190 (c1 : Int32) (c3 : Int32) : Nat → (Nat → Nat → Int32) → Int32 → Option (Nat → Nat → Int32)
  | 0, _, _ => none
  | N + 1, Y, x5 => if (Y 60 15) ≤ x5 then some Y else gd (inr x5 (12)) (gd (inr (4 : Int32) (9)) (if (Y (40 + ix x5) (ix (4 : Int32))) = c1 then gd (inr x5 (12)) (gd (inr (5 : Int32) (9)) (if (Y (40 + ix x5) (ix (5 : Int32))) = c3 then gd (inr x5 (12)) (gd (inr (4 : Int32) (9)) (bnd (w2 Y (40 + ix x5) (ix (4 : Int32)) (-1 : Int32)) (fun Y35 => gd (inr x5 (12)) (gd (inr (5 : Int32) (9)) (bnd (w2 Y35 (40 + ix x5) (ix (5 : Int32)) (-1 : Int32)) (fun Y37 => gd (inr x5 (12)) (gd (inr (1 : Int32) (9)) (if (Y37 (40 + ix x5) (ix (1 : Int32))) = c3 then gd (inr x5 (12)) (gd (inr (8 : Int32) (9)) (bnd (w2 Y37 (40 + ix x5) (ix (8 : Int32)) (Y37 60 16)) (fun Y47 => l_X10_arrives_190 c1 c3 N Y47 (x5 + (1 : Int32))))) else gd (inr x5 (12)) (gd (inr (3 : Int32) (9)) (bnd (w2 Y37 (40 + ix x5) (ix (3 : Int32)) c3) (fun Y41 => gd (inr x5 (12)) (gd (inr (6 : Int32) (9)) (gd (inr (6 : Int32) (9)) (bnd (w2 Y41 (40 + ix x5) (ix (6 : Int32)) ((Y41 (40 + ix x5) (ix (6 : Int32))) + (1 : Int32))) (fun Y43 => gd (inr x5 (12)) (gd (inr c3 (hN Y43)) (gd (inr (7 : Int32) (9)) (bnd (w2 Y43 (40 + ix x5) (ix (7 : Int32)) ((Y43 60 16) + (Y43 5 (ix c3)))) (fun Y45 => l_X10_arrives_190 c1 c3 N Y45 (x5 + (1 : Int32))))))))))))))))))))) else l_X10_arrives_190 c1 c3 N Y (x5 + (1 : Int32)))) else l_X10_arrives_190 c1 c3 N Y (x5 + (1 : Int32))))
theorem lv_X10_arrives_190 {G : GT} {f : Nat} {oh : Nat} {A : Nat → Nat} {M0 : MM} {hi0 : Nat} {c1 : Int32} {c3 : Int32} {k : Nat} {r : (Nat → Nat → Int32)} (hf : 4 ≤ f) : ∀ (N : Nat) (Y : Nat → Nat → Int32) (x5 : Int32) (M : MM) (hi : Nat), HS oh A M0 hi0 Y M hi → l_X10_arrives_190 c1 c3 N Y x5 = some r → V G f (Ex G f) mX10_arrives (PH oh A M0 hi0 (.inl none) r) 190 [(0, .ref (oh)), (1, .int c1), (3, .int c3), (5, .int x5)] [] M hi (k) (8 * (k)) := by
  intro N
  induction N with
  | zero => intro Y x5 M hi hq h; cases h
  | succ N ih =>
    intro Y x5 M hi hq h
    rw [l_X10_arrives_190] at h
    refine V_iload (i := 5) dX10_arrives_190 rfl ?_
    refine V_aload_n (i := 0) dX10_arrives_192 rfl rfl ?_
    refine V_getfield dX10_arrives_193 hq.o fl_X10_111 rfl ?_
    refine D_icmp_ge (tgt := 329) h dX10_arrives_196 rfl (fun b29 h => ?_) (fun b29 h => ?_)
    · obtain rfl := Option.some.inj h
      exact V_return dX10_arrives_329 rfl ⟨rfl, hq⟩
    · refine V_aload_n (i := 0) dX10_arrives_199 rfl rfl ?_
      refine V_getfield dX10_arrives_200 hq.o fl_X10_9 rfl ?_
      refine V_iload (i := 5) dX10_arrives_203 rfl ?_
      refine H_ald h hq ho_14 rfl (by decide) dX10_arrives_205 fun g30 h => ?_
      refine V_iconst (v := 4) dX10_arrives_206 (by decide) ?_
      refine D3_ild h (hq.t (ht_40 g30)) dX10_arrives_207 fun h => ?_
      refine V_iload_n (i := 1) dX10_arrives_208 rfl rfl ?_
      refine D_icmp_ne (tgt := 323) h dX10_arrives_209 rfl (fun b31 h => ?_) (fun b31 h => ?_)
      · refine D_iinc (i := 5) (w := 1) dX10_arrives_323 rfl (by decide) (Nat.le_of_ble_eq_true rfl) ?_
        refine V_goto (tgt := 190) dX10_arrives_326 rfl ?_
        exact V_sub (ks := [1, 2, 3, 0]) rfl (ih _ _ _ _ hq h)
      · refine V_aload_n (i := 0) dX10_arrives_212 rfl rfl ?_
        refine V_getfield dX10_arrives_213 hq.o fl_X10_9 rfl ?_
        refine V_iload (i := 5) dX10_arrives_216 rfl ?_
        refine H_ald h hq ho_14 rfl (by decide) dX10_arrives_218 fun g32 h => ?_
        refine V_iconst (v := 5) dX10_arrives_219 (by decide) ?_
        refine D3_ild h (hq.t (ht_40 g32)) dX10_arrives_220 fun h => ?_
        refine V_iload_n (i := 3) dX10_arrives_221 rfl rfl ?_
        refine D_icmp_eq (tgt := 228) h dX10_arrives_222 rfl (fun b33 h => ?_) (fun b33 h => ?_)
        · refine V_aload_n (i := 0) dX10_arrives_228 rfl rfl ?_
          refine V_getfield dX10_arrives_229 hq.o fl_X10_9 rfl ?_
          refine V_iload (i := 5) dX10_arrives_232 rfl ?_
          refine H_ald h hq ho_14 rfl (by decide) dX10_arrives_234 fun g34 h => ?_
          refine V_iconst (v := 4) dX10_arrives_235 (by decide) ?_
          refine V_iconst (v := -1) dX10_arrives_236 (by decide) ?_
          refine H_ist h hq (ht_40 g34) dX10_arrives_237 fun Y35 M hq h => ?_
          refine V_aload_n (i := 0) dX10_arrives_238 rfl rfl ?_
          refine V_getfield dX10_arrives_239 hq.o fl_X10_9 rfl ?_
          refine V_iload (i := 5) dX10_arrives_242 rfl ?_
          refine H_ald h hq ho_14 rfl (by decide) dX10_arrives_244 fun g36 h => ?_
          refine V_iconst (v := 5) dX10_arrives_245 (by decide) ?_
          refine V_iconst (v := -1) dX10_arrives_246 (by decide) ?_
          refine H_ist h hq (ht_40 g36) dX10_arrives_247 fun Y37 M hq h => ?_
          refine V_aload_n (i := 0) dX10_arrives_248 rfl rfl ?_
          refine V_getfield dX10_arrives_249 hq.o fl_X10_9 rfl ?_
          refine V_iload (i := 5) dX10_arrives_252 rfl ?_
          refine H_ald h hq ho_14 rfl (by decide) dX10_arrives_254 fun g38 h => ?_
          refine V_iconst (v := 1) dX10_arrives_255 (by decide) ?_
          refine D3_ild h (hq.t (ht_40 g38)) dX10_arrives_256 fun h => ?_
          refine V_iload_n (i := 3) dX10_arrives_257 rfl rfl ?_
          refine D_icmp_ne (tgt := 278) h dX10_arrives_258 rfl (fun b39 h => ?_) (fun b39 h => ?_)
          · refine V_aload_n (i := 0) dX10_arrives_278 rfl rfl ?_
            refine V_getfield dX10_arrives_279 hq.o fl_X10_9 rfl ?_
            refine V_iload (i := 5) dX10_arrives_282 rfl ?_
            refine H_ald h hq ho_14 rfl (by decide) dX10_arrives_284 fun g40 h => ?_
            refine V_iconst (v := 3) dX10_arrives_285 (by decide) ?_
            refine V_iload_n (i := 3) dX10_arrives_286 rfl rfl ?_
            refine H_ist h hq (ht_40 g40) dX10_arrives_287 fun Y41 M hq h => ?_
            refine V_aload_n (i := 0) dX10_arrives_288 rfl rfl ?_
            refine V_getfield dX10_arrives_289 hq.o fl_X10_9 rfl ?_
            refine V_iload (i := 5) dX10_arrives_292 rfl ?_
            refine H_ald h hq ho_14 rfl (by decide) dX10_arrives_294 fun g42 h => ?_
            refine V_bipush (v := 6) dX10_arrives_295 (by decide) ?_
            refine V_dup2_11 dX10_arrives_297 rfl rfl ?_
            refine D3_ild h (hq.t (ht_40 g42)) dX10_arrives_298 fun h => ?_
            refine V_iconst (v := 1) dX10_arrives_299 (by decide) ?_
            refine V_iadd dX10_arrives_300 ?_
            refine H_ist h hq (ht_40 g42) dX10_arrives_301 fun Y43 M hq h => ?_
            refine V_aload_n (i := 0) dX10_arrives_302 rfl rfl ?_
            refine V_getfield dX10_arrives_303 hq.o fl_X10_9 rfl ?_
            refine V_iload (i := 5) dX10_arrives_306 rfl ?_
            refine H_ald h hq ho_14 rfl (by decide) dX10_arrives_308 fun g44 h => ?_
            refine V_bipush (v := 7) dX10_arrives_309 (by decide) ?_
            refine V_aload_n (i := 0) dX10_arrives_311 rfl rfl ?_
            refine V_getfield dX10_arrives_312 hq.o fl_X10_114 rfl ?_
            refine V_aload_n (i := 0) dX10_arrives_315 rfl rfl ?_
            refine V_getfield dX10_arrives_316 hq.o fl_X10_42 rfl ?_
            refine V_iload_n (i := 3) dX10_arrives_319 rfl rfl ?_
            refine D3_ild h (hq.t ht_5) dX10_arrives_320 fun h => ?_
            refine V_iadd dX10_arrives_321 ?_
            refine H_ist h hq (ht_40 g44) dX10_arrives_322 fun Y45 M hq h => ?_
            refine D_iinc (i := 5) (w := 1) dX10_arrives_323 rfl (by decide) (Nat.le_of_ble_eq_true rfl) ?_
            refine V_goto (tgt := 190) dX10_arrives_326 rfl ?_
            exact V_sub (ks := [1, 2, 3, 0]) rfl (ih _ _ _ _ hq h)
          · refine V_aload_n (i := 0) dX10_arrives_261 rfl rfl ?_
            refine V_getfield dX10_arrives_262 hq.o fl_X10_9 rfl ?_
            refine V_iload (i := 5) dX10_arrives_265 rfl ?_
            refine H_ald h hq ho_14 rfl (by decide) dX10_arrives_267 fun g46 h => ?_
            refine V_bipush (v := 8) dX10_arrives_268 (by decide) ?_
            refine V_aload_n (i := 0) dX10_arrives_270 rfl rfl ?_
            refine V_getfield dX10_arrives_271 hq.o fl_X10_114 rfl ?_
            refine H_ist h hq (ht_40 g46) dX10_arrives_274 fun Y47 M hq h => ?_
            refine V_goto (tgt := 323) dX10_arrives_275 rfl ?_
            refine D_iinc (i := 5) (w := 1) dX10_arrives_323 rfl (by decide) (Nat.le_of_ble_eq_true rfl) ?_
            refine V_goto (tgt := 190) dX10_arrives_326 rfl ?_
            exact V_sub (ks := [1, 2, 3, 0]) rfl (ih _ _ _ _ hq h)
        · refine V_goto (tgt := 323) dX10_arrives_225 rfl ?_
          refine D_iinc (i := 5) (w := 1) dX10_arrives_323 rfl (by decide) (Nat.le_of_ble_eq_true rfl) ?_
          refine V_goto (tgt := 190) dX10_arrives_326 rfl ?_
          exact V_sub (ks := [1, 2, 3, 0]) rfl (ih _ _ _ _ hq h)
noncomputable def f_X10_arrives (Y : Nat → Nat → Int32) (a1 : Int32) : Option (Nat → Nat → Int32) :=
  gd (inr a1 (hT Y)) (gd (inr a1 (hT Y)) (gd (inr a1 (hT Y)) (bnd (w2 Y 8 (ix a1) ((Y 8 (ix a1)) + (Y 9 (ix a1)))) (fun Y1 => gd (inr a1 (hT Y1)) (jn (fun (v3 : Int32) => jn (fun (Y8 : Nat → Nat → Int32) => gd (inr a1 (hT Y8)) (gd (inr a1 (hT Y8)) (gd (inr (Y8 8 (ix a1)) (hL Y8 (ix a1))) (bnd (Y8 (32 + ix a1) (ix (Y8 8 (ix a1)))) (fun v12 => jn (fun (v14 : Int32) => l_X10_arrives_102 a1 v12 (fun (Y25 : Nat → Nat → Int32) (x26 : Int32) => if x26 = 0 then gd (inr a1 (hT Y25)) (gd (inr a1 (hT Y25)) (bnd (w2 Y25 13 (ix a1) ((Y25 13 (ix a1)) + (1 : Int32))) (fun Y48 => bdc (f_X10_departs Y48 a1) (fun Y49 => some Y49)))) else gd (inr a1 (hT Y25)) (gd (inr a1 (hT Y25)) (bnd (w2 Y25 12 (ix a1) ((Y25 12 (ix a1)) + (1 : Int32))) (fun Y28 => l_X10_arrives_190 a1 v12 FU Y28 (0 : Int32))))) 13 Y8 v14 (0 : Int32)) (fun j13 => if v3 = 0 then gd (inr v12 (hN Y8)) (if (Y8 4 (ix v12)) = 0 then j13 (1 : Int32) else j13 (0 : Int32)) else j13 (1 : Int32))))))) (fun j7 => if v3 = 0 then j7 Y1 else gd (inr a1 (hT Y1)) (gd (inr a1 (hT Y1)) (bnd (w2 Y1 9 (ix a1) (-(Y1 9 (ix a1)))) (fun Y10 => j7 Y10))))) (fun j2 => if (Y1 8 (ix a1)) = 0 then j2 (1 : Int32) else gd (inr a1 (hT Y1)) (gd (inr a1 (hT Y1)) (if (Y1 8 (ix a1)) = ((nI (hL Y1 (ix a1))) - (1 : Int32)) then j2 (1 : Int32) else j2 (0 : Int32)))))))))
theorem e_X10_arrives {G : GT} {f0 : Nat} {oh : Nat} {A : Nat → Nat} {M0 : MM} {hi0 : Nat} {Y : Nat → Nat → Int32} {a1 : Int32} {r : (Nat → Nat → Int32)} (hf0 : 5 ≤ f0) (hq : HQ oh A Y M0 hi0) (h : f_X10_arrives Y a1 = some r) : Ex G f0 mX10_arrives [.ref (oh), .int a1] M0 hi0 72 (8 * 72) (PH oh A M0 hi0 (.inl none) r) := by
  obtain ⟨f, rfl, hf⟩ := suc_of hf0
  unfold f_X10_arrives at h
  replace hq := HS.here hq
  refine ⟨Nat.le_of_ble_eq_true rfl, ?_⟩
  refine V_aload_n (i := 0) dX10_arrives_0 rfl rfl ?_
  refine V_getfield dX10_arrives_1 hq.o fl_X10_69 rfl ?_
  refine V_iload_n (i := 1) dX10_arrives_4 rfl rfl ?_
  refine V_dup2_11 dX10_arrives_5 rfl rfl ?_
  refine D3_ild h (hq.t ht_8) dX10_arrives_6 fun h => ?_
  refine V_aload_n (i := 0) dX10_arrives_7 rfl rfl ?_
  refine V_getfield dX10_arrives_8 hq.o fl_X10_72 rfl ?_
  refine V_iload_n (i := 1) dX10_arrives_11 rfl rfl ?_
  refine D3_ild h (hq.t ht_9) dX10_arrives_12 fun h => ?_
  refine V_iadd dX10_arrives_13 ?_
  refine H_ist h hq ht_8 dX10_arrives_14 fun Y1 M hq h => ?_
  refine V_aload_n (i := 0) dX10_arrives_15 rfl rfl ?_
  refine V_getfield dX10_arrives_16 hq.o fl_X10_69 rfl ?_
  refine V_iload_n (i := 1) dX10_arrives_19 rfl rfl ?_
  refine D3_ild h (hq.t ht_8) dX10_arrives_20 fun h => ?_
  refine D_jn (fun (j : Int32 → Option (Nat → Nat → Int32)) => ∀ (v3 : Int32) (M : MM) (hi : Nat), HS oh A M0 hi0 Y1 M hi → j v3 = some r → V G f (Ex G f) mX10_arrives (PH oh A M0 hi0 (.inl none) r) 47 [(0, .ref (oh)), (1, .int a1)] [.int v3] M hi (72) (8 * (72))) h (fun j2 hj2 h => ?_) ?_
  · refine D_if_eq (tgt := 42) h dX10_arrives_21 rfl (fun b4 h => ?_) (fun b4 h => ?_)
    · refine V_iconst (v := 1) dX10_arrives_42 (by decide) ?_
      refine V_goto (tgt := 47) dX10_arrives_43 rfl ?_
      exact V_sub (ks := [0, 1]) rfl (hj2 _ _ _ hq h)
    · refine V_aload_n (i := 0) dX10_arrives_24 rfl rfl ?_
      refine V_getfield dX10_arrives_25 hq.o fl_X10_69 rfl ?_
      refine V_iload_n (i := 1) dX10_arrives_28 rfl rfl ?_
      refine D3_ild h (hq.t ht_8) dX10_arrives_29 fun h => ?_
      refine V_aload_n (i := 0) dX10_arrives_30 rfl rfl ?_
      refine V_getfield dX10_arrives_31 hq.o fl_X10_63 rfl ?_
      refine V_iload_n (i := 1) dX10_arrives_34 rfl rfl ?_
      refine H_ald h hq ho_6 rfl (by decide) dX10_arrives_35 fun g5 h => ?_
      refine V_alen (t := 1) (v := nI (hL Y1 (ix a1))) dX10_arrives_36 (hq.t (ht_32 hq g5)) (by decide) rfl ?_
      refine V_iconst (v := 1) dX10_arrives_37 (by decide) ?_
      refine V_isub dX10_arrives_38 ?_
      refine D_icmp_ne (tgt := 46) h dX10_arrives_39 rfl (fun b6 h => ?_) (fun b6 h => ?_)
      · refine V_iconst (v := 0) dX10_arrives_46 (by decide) ?_
        exact V_sub (ks := [0, 1]) rfl (hj2 _ _ _ hq h)
      · refine V_iconst (v := 1) dX10_arrives_42 (by decide) ?_
        refine V_goto (tgt := 47) dX10_arrives_43 rfl ?_
        exact V_sub (ks := [0, 1]) rfl (hj2 _ _ _ hq h)
  · intro v3 M hi hq h
    refine V_istore_n (i := 2) dX10_arrives_47 rfl (Nat.le_of_ble_eq_true rfl) ?_
    refine V_iload_n (i := 2) dX10_arrives_48 rfl rfl ?_
    refine D_jn (fun (j : (Nat → Nat → Int32) → Option (Nat → Nat → Int32)) => ∀ (Y8 : Nat → Nat → Int32) (M : MM) (hi : Nat), HS oh A M0 hi0 Y8 M hi → j Y8 = some r → V G f (Ex G f) mX10_arrives (PH oh A M0 hi0 (.inl none) r) 65 [(0, .ref (oh)), (1, .int a1), (2, .int v3)] [] M hi (72) (8 * (72))) h (fun j7 hj7 h => ?_) ?_
    · refine D_if_eq (tgt := 65) h dX10_arrives_49 rfl (fun b9 h => ?_) (fun b9 h => ?_)
      · exact V_sub (ks := [1, 2, 0]) rfl (hj7 _ _ _ hq h)
      · refine V_aload_n (i := 0) dX10_arrives_52 rfl rfl ?_
        refine V_getfield dX10_arrives_53 hq.o fl_X10_72 rfl ?_
        refine V_iload_n (i := 1) dX10_arrives_56 rfl rfl ?_
        refine V_aload_n (i := 0) dX10_arrives_57 rfl rfl ?_
        refine V_getfield dX10_arrives_58 hq.o fl_X10_72 rfl ?_
        refine V_iload_n (i := 1) dX10_arrives_61 rfl rfl ?_
        refine D3_ild h (hq.t ht_9) dX10_arrives_62 fun h => ?_
        refine V_ineg dX10_arrives_63 ?_
        refine H_ist h hq ht_9 dX10_arrives_64 fun Y10 M hq h => ?_
        exact V_sub (ks := [1, 2, 0]) rfl (hj7 _ _ _ hq h)
    · intro Y8 M hi hq h
      refine V_aload_n (i := 0) dX10_arrives_65 rfl rfl ?_
      refine V_getfield dX10_arrives_66 hq.o fl_X10_63 rfl ?_
      refine V_iload_n (i := 1) dX10_arrives_69 rfl rfl ?_
      refine H_ald h hq ho_6 rfl (by decide) dX10_arrives_70 fun g11 h => ?_
      refine V_aload_n (i := 0) dX10_arrives_71 rfl rfl ?_
      refine V_getfield dX10_arrives_72 hq.o fl_X10_69 rfl ?_
      refine V_iload_n (i := 1) dX10_arrives_75 rfl rfl ?_
      refine D3_ild h (hq.t ht_8) dX10_arrives_76 fun h => ?_
      refine D3_ild h (hq.t (ht_32 hq g11)) dX10_arrives_77 fun h => ?_
      refine D_istore_n (i := 3) h dX10_arrives_78 rfl (Nat.le_of_ble_eq_true rfl) fun v12 h => ?_
      refine V_iload_n (i := 2) dX10_arrives_79 rfl rfl ?_
      refine D_jn (fun (j : Int32 → Option (Nat → Nat → Int32)) => ∀ (v14 : Int32) (M : MM) (hi : Nat), HS oh A M0 hi0 Y8 M hi → j v14 = some r → V G f (Ex G f) mX10_arrives (PH oh A M0 hi0 (.inl none) r) 97 [(0, .ref (oh)), (1, .int a1), (3, .int v12)] [.int v14] M hi (72) (8 * (72))) h (fun j13 hj13 h => ?_) ?_
      · refine D_if_ne (tgt := 92) h dX10_arrives_80 rfl (fun b15 h => ?_) (fun b15 h => ?_)
        · refine V_iconst (v := 1) dX10_arrives_92 (by decide) ?_
          refine V_goto (tgt := 97) dX10_arrives_93 rfl ?_
          exact V_sub (ks := [1, 2, 0]) rfl (hj13 _ _ _ hq h)
        · refine V_aload_n (i := 0) dX10_arrives_83 rfl rfl ?_
          refine V_getfield dX10_arrives_84 hq.o fl_X10_38 rfl ?_
          refine V_iload_n (i := 3) dX10_arrives_87 rfl rfl ?_
          refine D3_zld h (hq.t ht_4) dX10_arrives_88 fun h => ?_
          refine D_if_ne (tgt := 96) h dX10_arrives_89 rfl (fun b16 h => ?_) (fun b16 h => ?_)
          · refine V_iconst (v := 0) dX10_arrives_96 (by decide) ?_
            exact V_sub (ks := [1, 2, 0]) rfl (hj13 _ _ _ hq h)
          · refine V_iconst (v := 1) dX10_arrives_92 (by decide) ?_
            refine V_goto (tgt := 97) dX10_arrives_93 rfl ?_
            exact V_sub (ks := [1, 2, 0]) rfl (hj13 _ _ _ hq h)
      · intro v14 M hi hq h
        refine V_istore (i := 4) dX10_arrives_97 (Nat.le_of_ble_eq_true rfl) ?_
        refine V_iconst (v := 0) dX10_arrives_99 (by decide) ?_
        refine V_istore (i := 5) dX10_arrives_100 (Nat.le_of_ble_eq_true rfl) ?_
        refine V_spare (k2 := 6 * (13 - 1) + (0)) (n2 := 8 * (6 * (13 - 1) + (0))) (by omega) (by omega) ?_
        refine V_sub (ks := [2, 3, 4, 1, 0]) rfl (lv_X10_arrives_102 (k := 0) hf ?_ 13 _ _ _ _ _ hq h)
        · intro Y25 x26 M hi hq h
          refine V_iload (i := 4) dX10_arrives_156 rfl ?_
          refine D_if_ne (tgt := 177) h dX10_arrives_158 rfl (fun b27 h => ?_) (fun b27 h => ?_)
          · refine V_aload_n (i := 0) dX10_arrives_177 rfl rfl ?_
            refine V_getfield dX10_arrives_178 hq.o fl_X10_81 rfl ?_
            refine V_iload_n (i := 1) dX10_arrives_181 rfl rfl ?_
            refine V_dup2_11 dX10_arrives_182 rfl rfl ?_
            refine D3_ild h (hq.t ht_12) dX10_arrives_183 fun h => ?_
            refine V_iconst (v := 1) dX10_arrives_184 (by decide) ?_
            refine V_iadd dX10_arrives_185 ?_
            refine H_ist h hq ht_12 dX10_arrives_186 fun Y28 M hq h => ?_
            refine V_iconst (v := 0) dX10_arrives_187 (by decide) ?_
            refine V_istore (i := 5) dX10_arrives_188 (Nat.le_of_ble_eq_true rfl) ?_
            refine V_spare (k2 := 0) (n2 := 8 * (0)) (by omega) (by omega) ?_
            refine V_sub (ks := [1, 2, 3, 0]) rfl (lv_X10_arrives_190 (k := 0) hf FU _ _ _ _ hq h)
          · refine V_aload_n (i := 0) dX10_arrives_161 rfl rfl ?_
            refine V_getfield dX10_arrives_162 hq.o fl_X10_84 rfl ?_
            refine V_iload_n (i := 1) dX10_arrives_165 rfl rfl ?_
            refine V_dup2_11 dX10_arrives_166 rfl rfl ?_
            refine D3_ild h (hq.t ht_13) dX10_arrives_167 fun h => ?_
            refine V_iconst (v := 1) dX10_arrives_168 (by decide) ?_
            refine V_iadd dX10_arrives_169 ?_
            refine H_ist h hq ht_13 dX10_arrives_170 fun Y48 M hq h => ?_
            refine V_aload_n (i := 0) dX10_arrives_171 rfl rfl ?_
            refine V_iload_n (i := 1) dX10_arrives_172 rfl rfl ?_
            refine V_spare (k2 := 0 + 0) (n2 := 8 * (0) + 8 * 0) (by omega) (by omega) ?_
            refine H_cU (As := [_]) h hq dX10_arrives_173 cv_X10_134 rfl (H_recv hq) rfl (Nat.le_of_ble_eq_true rfl) (fun x hx => e_X10_departs (Nat.le_trans (Nat.le_of_ble_eq_true rfl) hf) hq.1 hx) fun Y49 M hi hq h => ?_
            obtain rfl := Option.some.inj h
            exact V_return dX10_arrives_176 rfl ⟨rfl, hq⟩
noncomputable def l_X10_minute_12  : Nat → (Nat → Nat → Int32) → Int32 → Option (Nat → Nat → Int32)
  | 0, _, _ => none
  | N + 1, Y, x1 => if (Y 60 1) ≤ x1 then some Y else gd (inr x1 (hT Y)) (if (Y 10 (ix x1)) = 0 then gd (Nat.blt 0 N) (bdc (f_X10_loads Y x1) (fun Y7 => bdc (f_X10_departs Y7 x1) (fun Y8 => l_X10_minute_12 N Y8 (x1 + (1 : Int32))))) else gd (inr x1 (hT Y)) (gd (inr x1 (hT Y)) (bnd (w2 Y 10 (ix x1) ((Y 10 (ix x1)) - (1 : Int32))) (fun Y4 => gd (inr x1 (hT Y4)) (if (Y4 10 (ix x1)) = 0 then gd (Nat.blt 0 N) (bdc (f_X10_arrives Y4 x1) (fun Y6 => l_X10_minute_12 N Y6 (x1 + (1 : Int32)))) else l_X10_minute_12 N Y4 (x1 + (1 : Int32)))))))
theorem lv_X10_minute_12 {G : GT} {f : Nat} {oh : Nat} {A : Nat → Nat} {M0 : MM} {hi0 : Nat}  {k : Nat} {r : (Nat → Nat → Int32)} (hf : 5 ≤ f) : ∀ (N : Nat) (Y : Nat → Nat → Int32) (x1 : Int32) (M : MM) (hi : Nat), HS oh A M0 hi0 Y M hi → l_X10_minute_12 N Y x1 = some r → V G f (Ex G f) mX10_minute (PH oh A M0 hi0 (.inl none) r) 12 [(0, .ref (oh)), (1, .int x1)] [] M hi (1296 * (N - 1) + k) (8 * (1296 * (N - 1) + k)) := by
  intro N
  induction N with
  | zero => intro Y x1 M hi hq h; cases h
  | succ N ih =>
    intro Y x1 M hi hq h
    rw [l_X10_minute_12] at h
    show V _ _ _ _ _ _ _ _ _ _ (1296 * N + k) (8 * (1296 * N + k))
    refine V_iload_n (i := 1) dX10_minute_12 rfl rfl ?_
    refine V_aload_n (i := 0) dX10_minute_13 rfl rfl ?_
    refine V_getfield dX10_minute_14 hq.o fl_X10_27 rfl ?_
    refine D_icmp_ge (tgt := 72) h dX10_minute_17 rfl (fun b2 h => ?_) (fun b2 h => ?_)
    · obtain rfl := Option.some.inj h
      exact V_return dX10_minute_72 rfl ⟨rfl, hq⟩
    · refine V_aload_n (i := 0) dX10_minute_20 rfl rfl ?_
      refine V_getfield dX10_minute_21 hq.o fl_X10_75 rfl ?_
      refine V_iload_n (i := 1) dX10_minute_24 rfl rfl ?_
      refine D3_ild h (hq.t ht_10) dX10_minute_25 fun h => ?_
      refine D_if_ne (tgt := 42) h dX10_minute_26 rfl (fun b3 h => ?_) (fun b3 h => ?_)
      · refine V_aload_n (i := 0) dX10_minute_42 rfl rfl ?_
        refine V_getfield dX10_minute_43 hq.o fl_X10_75 rfl ?_
        refine V_iload_n (i := 1) dX10_minute_46 rfl rfl ?_
        refine V_dup2_11 dX10_minute_47 rfl rfl ?_
        refine D3_ild h (hq.t ht_10) dX10_minute_48 fun h => ?_
        refine V_iconst (v := 1) dX10_minute_49 (by decide) ?_
        refine V_isub dX10_minute_50 ?_
        refine H_ist h hq ht_10 dX10_minute_51 fun Y4 M hq h => ?_
        refine V_aload_n (i := 0) dX10_minute_52 rfl rfl ?_
        refine V_getfield dX10_minute_53 hq.o fl_X10_75 rfl ?_
        refine V_iload_n (i := 1) dX10_minute_56 rfl rfl ?_
        refine D3_ild h (hq.t ht_10) dX10_minute_57 fun h => ?_
        refine D_if_ne (tgt := 66) h dX10_minute_58 rfl (fun b5 h => ?_) (fun b5 h => ?_)
        · refine D_iinc (i := 1) (w := 1) dX10_minute_66 rfl (by decide) (Nat.le_of_ble_eq_true rfl) ?_
          refine V_goto (tgt := 12) dX10_minute_69 rfl ?_
          refine V_spare (k2 := 1296 * (N - 1) + k) (n2 := 8 * (1296 * (N - 1) + k)) (by omega) (by omega) ?_
          exact V_sub (ks := [1, 0]) rfl (ih _ _ _ _ hq h)
        · refine V_aload_n (i := 0) dX10_minute_61 rfl rfl ?_
          refine V_iload_n (i := 1) dX10_minute_62 rfl rfl ?_
          refine D_gd h fun gN h => ?_
          have gN := Nat.blt_eq.mp gN
          refine V_spare (k2 := 1296 * (N - 1) + k + 1296) (n2 := 8 * (1296 * (N - 1) + k + 1296)) (by omega) (by omega) ?_
          refine V_spare (k2 := 1296 * (N - 1) + k + 1224 + 72) (n2 := 8 * (1296 * (N - 1) + k + 1224) + 8 * 72) (by omega) (by omega) ?_
          refine H_cU (As := [_]) h hq dX10_minute_63 cv_X10_141 rfl (H_recv hq) rfl (Nat.le_of_ble_eq_true rfl) (fun x hx => e_X10_arrives (Nat.le_trans (Nat.le_of_ble_eq_true rfl) hf) hq.1 hx) fun Y6 M hi hq h => ?_
          refine D_iinc (i := 1) (w := 1) dX10_minute_66 rfl (by decide) (Nat.le_of_ble_eq_true rfl) ?_
          refine V_goto (tgt := 12) dX10_minute_69 rfl ?_
          refine V_spare (k2 := 1296 * (N - 1) + k) (n2 := 8 * (1296 * (N - 1) + k)) (by omega) (by omega) ?_
          exact V_sub (ks := [1, 0]) rfl (ih _ _ _ _ hq h)
      · refine V_aload_n (i := 0) dX10_minute_29 rfl rfl ?_
        refine V_iload_n (i := 1) dX10_minute_30 rfl rfl ?_
        refine D_gd h fun gN h => ?_
        have gN := Nat.blt_eq.mp gN
        refine V_spare (k2 := 1296 * (N - 1) + k + 1296) (n2 := 8 * (1296 * (N - 1) + k + 1296)) (by omega) (by omega) ?_
        refine V_spare (k2 := 1296 * (N - 1) + k + 1296) (n2 := 8 * (1296 * (N - 1) + k) + 8 * 1296) (by omega) (by omega) ?_
        refine H_cU (As := [_]) h hq dX10_minute_31 cv_X10_138 rfl (H_recv hq) rfl (Nat.le_of_ble_eq_true rfl) (fun x hx => e_X10_loads (Nat.le_trans (Nat.le_of_ble_eq_true rfl) hf) hq.1 hx) fun Y7 M hi hq h => ?_
        refine V_aload_n (i := 0) dX10_minute_34 rfl rfl ?_
        refine V_iload_n (i := 1) dX10_minute_35 rfl rfl ?_
        refine V_spare (k2 := 1296 * (N - 1) + k + 0) (n2 := 8 * (1296 * (N - 1) + k) + 8 * 0) (by omega) (by omega) ?_
        refine H_cU (As := [_]) h hq dX10_minute_36 cv_X10_134 rfl (H_recv hq) rfl (Nat.le_of_ble_eq_true rfl) (fun x hx => e_X10_departs (Nat.le_trans (Nat.le_of_ble_eq_true rfl) hf) hq.1 hx) fun Y8 M hi hq h => ?_
        refine V_goto (tgt := 66) dX10_minute_39 rfl ?_
        refine D_iinc (i := 1) (w := 1) dX10_minute_66 rfl (by decide) (Nat.le_of_ble_eq_true rfl) ?_
        refine V_goto (tgt := 12) dX10_minute_69 rfl ?_
        exact V_sub (ks := [1, 0]) rfl (ih _ _ _ _ hq h)
noncomputable def f_X10_minute (Y : Nat → Nat → Int32) : Option (Nat → Nat → Int32) :=
  bnd (w2 Y 60 16 ((Y 60 16) + (1 : Int32))) (fun Y1 => l_X10_minute_12 4 Y1 (0 : Int32))
theorem e_X10_minute {G : GT} {f0 : Nat} {oh : Nat} {A : Nat → Nat} {M0 : MM} {hi0 : Nat} {Y : Nat → Nat → Int32} {r : (Nat → Nat → Int32)} (hf0 : 6 ≤ f0) (hq : HQ oh A Y M0 hi0) (h : f_X10_minute Y = some r) : Ex G f0 mX10_minute [.ref (oh)] M0 hi0 3888 (8 * 3888) (PH oh A M0 hi0 (.inl none) r) := by
  obtain ⟨f, rfl, hf⟩ := suc_of hf0
  unfold f_X10_minute at h
  replace hq := HS.here hq
  refine ⟨Nat.le_of_ble_eq_true rfl, ?_⟩
  refine V_aload_n (i := 0) dX10_minute_0 rfl rfl ?_
  refine V_dup dX10_minute_1 rfl ?_
  refine V_getfield dX10_minute_2 hq.o fl_X10_114 rfl ?_
  refine V_iconst (v := 1) dX10_minute_5 (by decide) ?_
  refine V_iadd dX10_minute_6 ?_
  refine H_put (by decide) h hq dX10_minute_7 (fp_X10_114 rfl) fun Y1 M hq h => ?_
  refine V_iconst (v := 0) dX10_minute_10 (by decide) ?_
  refine V_istore_n (i := 1) dX10_minute_11 rfl (Nat.le_of_ble_eq_true rfl) ?_
  refine V_spare (k2 := 1296 * (4 - 1) + (0)) (n2 := 8 * (1296 * (4 - 1) + (0))) (by omega) (by omega) ?_
  refine V_sub (ks := [1, 0]) rfl (lv_X10_minute_12 (k := 0) hf 4 _ _ _ _ hq h)
noncomputable def l_X10_agrees_37 (Y : Nat → Nat → Int32) (W : Nat → Nat → Int32) (K222 : Option Int32) : Nat → Int32 → Option Int32
  | 0, _ => none
  | N + 1, x2 => if (Y 60 1) ≤ x2 then K222 else gd (Nat.blt 0 N) (bdv (f_X9_trainStation W x2) (fun v9 => gd (inr x2 (hT Y)) (jn (fun (v11 : Int32) => if v9 = v11 then bdv (f_X9_nextStation W x2) (fun v15 => gd (inr x2 (hT Y)) (gd (inr x2 (hT Y)) (gd (inr x2 (hT Y)) (gd (inr ((Y 8 (ix x2)) + (Y 9 (ix x2))) (hL Y (ix x2))) (if v15 = (Y (32 + ix x2) (ix ((Y 8 (ix x2)) + (Y 9 (ix x2))))) then bdv (f_X9_isForward W x2) (fun v18 => gd (inr x2 (hT Y)) (jn (fun (v20 : Int32) => if v18 = v20 then bdv (f_X9_minutesToNext W x2) (fun v23 => gd (inr x2 (hT Y)) (jn (fun (v25 : Int32) => if v23 = v25 then bdv (f_X9_delay W x2) (fun v28 => gd (inr x2 (hT Y)) (if v28 = (Y 11 (ix x2)) then bdv (f_X9_stopsMade W x2) (fun v30 => gd (inr x2 (hT Y)) (if v30 = (Y 12 (ix x2)) then bdv (f_X9_stopsPassed W x2) (fun v32 => gd (inr x2 (hT Y)) (if v32 = (Y 13 (ix x2)) then bdv (f_X9_carriedCount W x2) (fun v34 => bdc (f_X10_carried Y x2) (fun v35 => if v34 = v35 then l_X10_agrees_37 Y W K222 N (x2 + (1 : Int32)) else some (0 : Int32))) else some (0 : Int32))) else some (0 : Int32))) else some (0 : Int32))) else some (0 : Int32)) (fun j24 => if (Y 10 (ix x2)) = 0 then j24 (-1 : Int32) else gd (inr x2 (hT Y)) (j24 (Y 10 (ix x2)))))) else some (0 : Int32)) (fun j19 => if (Y 9 (ix x2)) = (1 : Int32) then j19 (1 : Int32) else j19 (0 : Int32)))) else some (0 : Int32)))))) else some (0 : Int32)) (fun j10 => if (Y 10 (ix x2)) = 0 then gd (inr x2 (hT Y)) (gd (inr x2 (hT Y)) (gd (inr (Y 8 (ix x2)) (hL Y (ix x2))) (j10 (Y (32 + ix x2) (ix (Y 8 (ix x2))))))) else j10 (-1 : Int32)))))
theorem lv_X10_agrees_37 {G : GT} {f : Nat} {oh : Nat} {b : Nat} {A : Nat → Nat} {M0 : MM} {hi0 : Nat} {Y : Nat → Nat → Int32} {W : Nat → Nat → Int32} {K222 : Option Int32} {k : Nat} {r : Int32} (hf : 9 ≤ f) (hb : b + 609 ≤ oh) (hcw : MEM b 609 W M0 = M0) (hK222 : ∀ (M : MM) (hi : Nat), HS oh A M0 hi0 Y M hi → K222 = some r → V G f (Ex G f) mX10_agrees (PH oh A M0 hi0 (.inl (some (.int r))) Y) 222 [(0, .ref (oh)), (1, .ref (b))] [] M hi (k) (8 * (k))) : ∀ (N : Nat) (x2 : Int32) (M : MM) (hi : Nat), HS oh A M0 hi0 Y M hi → l_X10_agrees_37 Y W K222 N x2 = some r → V G f (Ex G f) mX10_agrees (PH oh A M0 hi0 (.inl (some (.int r))) Y) 37 [(0, .ref (oh)), (1, .ref (b)), (2, .int x2)] [] M hi (8 * (N - 1) + k) (8 * (8 * (N - 1) + k)) := by
  intro N
  induction N with
  | zero => intro x2 M hi hq h; cases h
  | succ N ih =>
    intro x2 M hi hq h
    rw [l_X10_agrees_37] at h
    show V _ _ _ _ _ _ _ _ _ _ (8 * N + k) (8 * (8 * N + k))
    refine V_iload_n (i := 2) dX10_agrees_37 rfl rfl ?_
    refine V_aload_n (i := 0) dX10_agrees_38 rfl rfl ?_
    refine V_getfield dX10_agrees_39 hq.o fl_X10_27 rfl ?_
    refine D_icmp_ge (tgt := 222) h dX10_agrees_42 rfl (fun b8 h => ?_) (fun b8 h => ?_)
    · refine V_spare (k2 := k) (n2 := 8 * (k)) (by omega) (by omega) ?_
      exact V_sub (ks := [0, 1]) rfl (hK222 _ _ hq h)
    · refine V_aload_n (i := 1) dX10_agrees_45 rfl rfl ?_
      refine V_iload_n (i := 2) dX10_agrees_46 rfl rfl ?_
      refine D_gd h fun gN h => ?_
      have gN := Nat.blt_eq.mp gN
      refine V_spare (k2 := 8 * (N - 1) + k + 8) (n2 := 8 * (8 * (N - 1) + k + 8)) (by omega) (by omega) ?_
      refine V_spare (k2 := 8 * (N - 1) + k + 7 + 1) (n2 := 8 * (8 * (N - 1) + k + 7) + 6) (by omega) (by omega) ?_
      refine H_xI (As := [_]) h hq hb hcw dX10_agrees_47 cv_X10_152 rfl ⟨_, _, _, mem_x9 (Nat.le_refl _), rfl, rfl⟩ rfl (Nat.le_of_ble_eq_true rfl) (fun x hx => e_X9_trainStation (Nat.le_trans (Nat.le_of_ble_eq_true rfl) hf) (Nat.le_refl _) hx) fun v9 hi hq h => ?_
      refine V_aload_n (i := 0) dX10_agrees_50 rfl rfl ?_
      refine V_getfield dX10_agrees_51 hq.o fl_X10_75 rfl ?_
      refine V_iload_n (i := 2) dX10_agrees_54 rfl rfl ?_
      refine D3_ild h (hq.t ht_10) dX10_agrees_55 fun h => ?_
      refine D_jn (fun (j : Int32 → Option Int32) => ∀ (v11 : Int32) (M : MM) (hi : Nat), HS oh A M0 hi0 Y M hi → j v11 = some r → V G f (Ex G f) mX10_agrees (PH oh A M0 hi0 (.inl (some (.int r))) Y) 76 [(0, .ref (oh)), (1, .ref (b)), (2, .int x2)] [.int v11, .int v9] M hi (8 * (N - 1) + k + 7) (8 * (8 * (N - 1) + k + 7))) h (fun j10 hj10 h => ?_) ?_
      · refine D_if_ne (tgt := 75) h dX10_agrees_56 rfl (fun b12 h => ?_) (fun b12 h => ?_)
        · refine V_iconst (v := -1) dX10_agrees_75 (by decide) ?_
          exact V_sub (ks := [0, 1, 2]) rfl (hj10 _ _ _ hq h)
        · refine V_aload_n (i := 0) dX10_agrees_59 rfl rfl ?_
          refine V_getfield dX10_agrees_60 hq.o fl_X10_63 rfl ?_
          refine V_iload_n (i := 2) dX10_agrees_63 rfl rfl ?_
          refine H_ald h hq ho_6 rfl (by decide) dX10_agrees_64 fun g13 h => ?_
          refine V_aload_n (i := 0) dX10_agrees_65 rfl rfl ?_
          refine V_getfield dX10_agrees_66 hq.o fl_X10_69 rfl ?_
          refine V_iload_n (i := 2) dX10_agrees_69 rfl rfl ?_
          refine D3_ild h (hq.t ht_8) dX10_agrees_70 fun h => ?_
          refine D3_ild h (hq.t (ht_32 hq g13)) dX10_agrees_71 fun h => ?_
          refine V_goto (tgt := 76) dX10_agrees_72 rfl ?_
          exact V_sub (ks := [0, 1, 2]) rfl (hj10 _ _ _ hq h)
      · intro v11 M hi hq h
        refine D_icmp_ne (tgt := 157) h dX10_agrees_76 rfl (fun b14 h => ?_) (fun b14 h => ?_)
        · refine V_iconst (v := 0) dX10_agrees_157 (by decide) ?_
          obtain rfl := Option.some.inj h
          exact V_ireturn dX10_agrees_158 ⟨_, rfl, rfl⟩ ⟨rfl, hq⟩
        · refine V_aload_n (i := 1) dX10_agrees_79 rfl rfl ?_
          refine V_iload_n (i := 2) dX10_agrees_80 rfl rfl ?_
          refine V_spare (k2 := 8 * (N - 1) + k + 6 + 1) (n2 := 8 * (8 * (N - 1) + k + 6) + 6) (by omega) (by omega) ?_
          refine H_xI (As := [_]) h hq hb hcw dX10_agrees_81 cv_X10_155 rfl ⟨_, _, _, mem_x9 (Nat.le_refl _), rfl, rfl⟩ rfl (Nat.le_of_ble_eq_true rfl) (fun x hx => e_X9_nextStation (Nat.le_trans (Nat.le_of_ble_eq_true rfl) hf) (Nat.le_refl _) hx) fun v15 hi hq h => ?_
          refine V_aload_n (i := 0) dX10_agrees_84 rfl rfl ?_
          refine V_getfield dX10_agrees_85 hq.o fl_X10_63 rfl ?_
          refine V_iload_n (i := 2) dX10_agrees_88 rfl rfl ?_
          refine H_ald h hq ho_6 rfl (by decide) dX10_agrees_89 fun g16 h => ?_
          refine V_aload_n (i := 0) dX10_agrees_90 rfl rfl ?_
          refine V_getfield dX10_agrees_91 hq.o fl_X10_69 rfl ?_
          refine V_iload_n (i := 2) dX10_agrees_94 rfl rfl ?_
          refine D3_ild h (hq.t ht_8) dX10_agrees_95 fun h => ?_
          refine V_aload_n (i := 0) dX10_agrees_96 rfl rfl ?_
          refine V_getfield dX10_agrees_97 hq.o fl_X10_72 rfl ?_
          refine V_iload_n (i := 2) dX10_agrees_100 rfl rfl ?_
          refine D3_ild h (hq.t ht_9) dX10_agrees_101 fun h => ?_
          refine V_iadd dX10_agrees_102 ?_
          refine D3_ild h (hq.t (ht_32 hq g16)) dX10_agrees_103 fun h => ?_
          refine D_icmp_ne (tgt := 157) h dX10_agrees_104 rfl (fun b17 h => ?_) (fun b17 h => ?_)
          · refine V_iconst (v := 0) dX10_agrees_157 (by decide) ?_
            obtain rfl := Option.some.inj h
            exact V_ireturn dX10_agrees_158 ⟨_, rfl, rfl⟩ ⟨rfl, hq⟩
          · refine V_aload_n (i := 1) dX10_agrees_107 rfl rfl ?_
            refine V_iload_n (i := 2) dX10_agrees_108 rfl rfl ?_
            refine V_spare (k2 := 8 * (N - 1) + k + 5 + 1) (n2 := 8 * (8 * (N - 1) + k + 5) + 6) (by omega) (by omega) ?_
            refine H_xI (As := [_]) h hq hb hcw dX10_agrees_109 cv_X10_158 rfl ⟨_, _, _, mem_x9 (Nat.le_refl _), rfl, rfl⟩ rfl (Nat.le_of_ble_eq_true rfl) (fun x hx => e_X9_isForward (Nat.le_trans (Nat.le_of_ble_eq_true rfl) hf) (Nat.le_refl _) hx) fun v18 hi hq h => ?_
            refine V_aload_n (i := 0) dX10_agrees_112 rfl rfl ?_
            refine V_getfield dX10_agrees_113 hq.o fl_X10_72 rfl ?_
            refine V_iload_n (i := 2) dX10_agrees_116 rfl rfl ?_
            refine D3_ild h (hq.t ht_9) dX10_agrees_117 fun h => ?_
            refine V_iconst (v := 1) dX10_agrees_118 (by decide) ?_
            refine D_jn (fun (j : Int32 → Option Int32) => ∀ (v20 : Int32) (M : MM) (hi : Nat), HS oh A M0 hi0 Y M hi → j v20 = some r → V G f (Ex G f) mX10_agrees (PH oh A M0 hi0 (.inl (some (.int r))) Y) 127 [(0, .ref (oh)), (1, .ref (b)), (2, .int x2)] [.int v20, .int v18] M hi (8 * (N - 1) + k + 5) (8 * (8 * (N - 1) + k + 5))) h (fun j19 hj19 h => ?_) ?_
            · refine D_icmp_ne (tgt := 126) h dX10_agrees_119 rfl (fun b21 h => ?_) (fun b21 h => ?_)
              · refine V_iconst (v := 0) dX10_agrees_126 (by decide) ?_
                exact V_sub (ks := [0, 1, 2]) rfl (hj19 _ _ _ hq h)
              · refine V_iconst (v := 1) dX10_agrees_122 (by decide) ?_
                refine V_goto (tgt := 127) dX10_agrees_123 rfl ?_
                exact V_sub (ks := [0, 1, 2]) rfl (hj19 _ _ _ hq h)
            · intro v20 M hi hq h
              refine D_icmp_ne (tgt := 157) h dX10_agrees_127 rfl (fun b22 h => ?_) (fun b22 h => ?_)
              · refine V_iconst (v := 0) dX10_agrees_157 (by decide) ?_
                obtain rfl := Option.some.inj h
                exact V_ireturn dX10_agrees_158 ⟨_, rfl, rfl⟩ ⟨rfl, hq⟩
              · refine V_aload_n (i := 1) dX10_agrees_130 rfl rfl ?_
                refine V_iload_n (i := 2) dX10_agrees_131 rfl rfl ?_
                refine V_spare (k2 := 8 * (N - 1) + k + 4 + 1) (n2 := 8 * (8 * (N - 1) + k + 4) + 6) (by omega) (by omega) ?_
                refine H_xI (As := [_]) h hq hb hcw dX10_agrees_132 cv_X10_161 rfl ⟨_, _, _, mem_x9 (Nat.le_refl _), rfl, rfl⟩ rfl (Nat.le_of_ble_eq_true rfl) (fun x hx => e_X9_minutesToNext (Nat.le_trans (Nat.le_of_ble_eq_true rfl) hf) (Nat.le_refl _) hx) fun v23 hi hq h => ?_
                refine V_aload_n (i := 0) dX10_agrees_135 rfl rfl ?_
                refine V_getfield dX10_agrees_136 hq.o fl_X10_75 rfl ?_
                refine V_iload_n (i := 2) dX10_agrees_139 rfl rfl ?_
                refine D3_ild h (hq.t ht_10) dX10_agrees_140 fun h => ?_
                refine D_jn (fun (j : Int32 → Option Int32) => ∀ (v25 : Int32) (M : MM) (hi : Nat), HS oh A M0 hi0 Y M hi → j v25 = some r → V G f (Ex G f) mX10_agrees (PH oh A M0 hi0 (.inl (some (.int r))) Y) 154 [(0, .ref (oh)), (1, .ref (b)), (2, .int x2)] [.int v25, .int v23] M hi (8 * (N - 1) + k + 4) (8 * (8 * (N - 1) + k + 4))) h (fun j24 hj24 h => ?_) ?_
                · refine D_if_ne (tgt := 148) h dX10_agrees_141 rfl (fun b26 h => ?_) (fun b26 h => ?_)
                  · refine V_aload_n (i := 0) dX10_agrees_148 rfl rfl ?_
                    refine V_getfield dX10_agrees_149 hq.o fl_X10_75 rfl ?_
                    refine V_iload_n (i := 2) dX10_agrees_152 rfl rfl ?_
                    refine D3_ild h (hq.t ht_10) dX10_agrees_153 fun h => ?_
                    exact V_sub (ks := [0, 1, 2]) rfl (hj24 _ _ _ hq h)
                  · refine V_iconst (v := -1) dX10_agrees_144 (by decide) ?_
                    refine V_goto (tgt := 154) dX10_agrees_145 rfl ?_
                    exact V_sub (ks := [0, 1, 2]) rfl (hj24 _ _ _ hq h)
                · intro v25 M hi hq h
                  refine D_icmp_eq (tgt := 159) h dX10_agrees_154 rfl (fun b27 h => ?_) (fun b27 h => ?_)
                  · refine V_aload_n (i := 1) dX10_agrees_159 rfl rfl ?_
                    refine V_iload_n (i := 2) dX10_agrees_160 rfl rfl ?_
                    refine V_spare (k2 := 8 * (N - 1) + k + 3 + 1) (n2 := 8 * (8 * (N - 1) + k + 3) + 6) (by omega) (by omega) ?_
                    refine H_xI (As := [_]) h hq hb hcw dX10_agrees_161 cv_X10_164 rfl ⟨_, _, _, mem_x9 (Nat.le_refl _), rfl, rfl⟩ rfl (Nat.le_of_ble_eq_true rfl) (fun x hx => e_X9_delay (Nat.le_trans (Nat.le_of_ble_eq_true rfl) hf) (Nat.le_refl _) hx) fun v28 hi hq h => ?_
                    refine V_aload_n (i := 0) dX10_agrees_164 rfl rfl ?_
                    refine V_getfield dX10_agrees_165 hq.o fl_X10_78 rfl ?_
                    refine V_iload_n (i := 2) dX10_agrees_168 rfl rfl ?_
                    refine D3_ild h (hq.t ht_11) dX10_agrees_169 fun h => ?_
                    refine D_icmp_ne (tgt := 214) h dX10_agrees_170 rfl (fun b29 h => ?_) (fun b29 h => ?_)
                    · refine V_iconst (v := 0) dX10_agrees_214 (by decide) ?_
                      obtain rfl := Option.some.inj h
                      exact V_ireturn dX10_agrees_215 ⟨_, rfl, rfl⟩ ⟨rfl, hq⟩
                    · refine V_aload_n (i := 1) dX10_agrees_173 rfl rfl ?_
                      refine V_iload_n (i := 2) dX10_agrees_174 rfl rfl ?_
                      refine V_spare (k2 := 8 * (N - 1) + k + 2 + 1) (n2 := 8 * (8 * (N - 1) + k + 2) + 6) (by omega) (by omega) ?_
                      refine H_xI (As := [_]) h hq hb hcw dX10_agrees_175 cv_X10_166 rfl ⟨_, _, _, mem_x9 (Nat.le_refl _), rfl, rfl⟩ rfl (Nat.le_of_ble_eq_true rfl) (fun x hx => e_X9_stopsMade (Nat.le_trans (Nat.le_of_ble_eq_true rfl) hf) (Nat.le_refl _) hx) fun v30 hi hq h => ?_
                      refine V_aload_n (i := 0) dX10_agrees_178 rfl rfl ?_
                      refine V_getfield dX10_agrees_179 hq.o fl_X10_81 rfl ?_
                      refine V_iload_n (i := 2) dX10_agrees_182 rfl rfl ?_
                      refine D3_ild h (hq.t ht_12) dX10_agrees_183 fun h => ?_
                      refine D_icmp_ne (tgt := 214) h dX10_agrees_184 rfl (fun b31 h => ?_) (fun b31 h => ?_)
                      · refine V_iconst (v := 0) dX10_agrees_214 (by decide) ?_
                        obtain rfl := Option.some.inj h
                        exact V_ireturn dX10_agrees_215 ⟨_, rfl, rfl⟩ ⟨rfl, hq⟩
                      · refine V_aload_n (i := 1) dX10_agrees_187 rfl rfl ?_
                        refine V_iload_n (i := 2) dX10_agrees_188 rfl rfl ?_
                        refine V_spare (k2 := 8 * (N - 1) + k + 1 + 1) (n2 := 8 * (8 * (N - 1) + k + 1) + 6) (by omega) (by omega) ?_
                        refine H_xI (As := [_]) h hq hb hcw dX10_agrees_189 cv_X10_169 rfl ⟨_, _, _, mem_x9 (Nat.le_refl _), rfl, rfl⟩ rfl (Nat.le_of_ble_eq_true rfl) (fun x hx => e_X9_stopsPassed (Nat.le_trans (Nat.le_of_ble_eq_true rfl) hf) (Nat.le_refl _) hx) fun v32 hi hq h => ?_
                        refine V_aload_n (i := 0) dX10_agrees_192 rfl rfl ?_
                        refine V_getfield dX10_agrees_193 hq.o fl_X10_84 rfl ?_
                        refine V_iload_n (i := 2) dX10_agrees_196 rfl rfl ?_
                        refine D3_ild h (hq.t ht_13) dX10_agrees_197 fun h => ?_
                        refine D_icmp_ne (tgt := 214) h dX10_agrees_198 rfl (fun b33 h => ?_) (fun b33 h => ?_)
                        · refine V_iconst (v := 0) dX10_agrees_214 (by decide) ?_
                          obtain rfl := Option.some.inj h
                          exact V_ireturn dX10_agrees_215 ⟨_, rfl, rfl⟩ ⟨rfl, hq⟩
                        · refine V_aload_n (i := 1) dX10_agrees_201 rfl rfl ?_
                          refine V_iload_n (i := 2) dX10_agrees_202 rfl rfl ?_
                          refine V_spare (k2 := 8 * (N - 1) + k + 1) (n2 := 8 * (8 * (N - 1) + k) + 6) (by omega) (by omega) ?_
                          refine H_xI (As := [_]) h hq hb hcw dX10_agrees_203 cv_X10_172 rfl ⟨_, _, _, mem_x9 (Nat.le_refl _), rfl, rfl⟩ rfl (Nat.le_of_ble_eq_true rfl) (fun x hx => e_X9_carriedCount (Nat.le_trans (Nat.le_of_ble_eq_true rfl) hf) (Nat.le_refl _) hx) fun v34 hi hq h => ?_
                          refine V_aload_n (i := 0) dX10_agrees_206 rfl rfl ?_
                          refine V_iload_n (i := 2) dX10_agrees_207 rfl rfl ?_
                          refine V_spare (k2 := 8 * (N - 1) + k + 0) (n2 := 8 * (8 * (N - 1) + k) + 8 * 0) (by omega) (by omega) ?_
                          refine H_cI (As := [_]) h hq dX10_agrees_208 cv_X10_125 rfl (H_recv hq) rfl (Nat.le_of_ble_eq_true rfl) (fun x hx => e_X10_carried (Nat.le_trans (Nat.le_of_ble_eq_true rfl) hf) hq.1 hx) fun v35 M hi hq h => ?_
                          refine D_icmp_eq (tgt := 216) h dX10_agrees_211 rfl (fun b36 h => ?_) (fun b36 h => ?_)
                          · refine D_iinc (i := 2) (w := 1) dX10_agrees_216 rfl (by decide) (Nat.le_of_ble_eq_true rfl) ?_
                            refine V_goto (tgt := 37) dX10_agrees_219 rfl ?_
                            exact V_sub (ks := [1, 2, 0]) rfl (ih _ _ _ hq h)
                          · refine V_iconst (v := 0) dX10_agrees_214 (by decide) ?_
                            obtain rfl := Option.some.inj h
                            exact V_ireturn dX10_agrees_215 ⟨_, rfl, rfl⟩ ⟨rfl, hq⟩
                  · refine V_iconst (v := 0) dX10_agrees_157 (by decide) ?_
                    obtain rfl := Option.some.inj h
                    exact V_ireturn dX10_agrees_158 ⟨_, rfl, rfl⟩ ⟨rfl, hq⟩
noncomputable def l_X10_agrees_224 (Y : Nat → Nat → Int32) (W : Nat → Nat → Int32) (K369 : Option Int32) : Nat → Int32 → Option Int32
  | 0, _ => none
  | N + 1, x2 => if (Y 60 15) ≤ x2 then K369 else gd (inr x2 (12)) (gd (Nat.blt 0 N) (bdv (f_X9_origin W x2) (fun v39 => gd (inr (0 : Int32) (9)) (if v39 = (Y (40 + ix x2) (ix (0 : Int32))) then bdv (f_X9_destination W x2) (fun v41 => gd (inr (1 : Int32) (9)) (if v41 = (Y (40 + ix x2) (ix (1 : Int32))) then bdv (f_X9_priority W x2) (fun v43 => gd (inr (2 : Int32) (9)) (if v43 = (Y (40 + ix x2) (ix (2 : Int32))) then bdv (f_X9_parcelStation W x2) (fun v45 => gd (inr (3 : Int32) (9)) (if v45 = (Y (40 + ix x2) (ix (3 : Int32))) then bdv (f_X9_parcelTrain W x2) (fun v47 => gd (inr (4 : Int32) (9)) (if v47 = (Y (40 + ix x2) (ix (4 : Int32))) then bdv (f_X9_dropStation W x2) (fun v49 => gd (inr (5 : Int32) (9)) (if v49 = (Y (40 + ix x2) (ix (5 : Int32))) then bdv (f_X9_transfers W x2) (fun v51 => gd (inr (6 : Int32) (9)) (if v51 = (Y (40 + ix x2) (ix (6 : Int32))) then bdv (f_X9_deliveryClock W x2) (fun v53 => gd (inr (8 : Int32) (9)) (if v53 = (Y (40 + ix x2) (ix (8 : Int32))) then bdv (f_X9_isHeld W x2) (fun v55 => gd (inr (3 : Int32) (9)) (if (Y (40 + ix x2) (ix (3 : Int32))) < 0 then if v55 = (0 : Int32) then l_X10_agrees_224 Y W K369 N (x2 + (1 : Int32)) else some (0 : Int32) else gd (inr (7 : Int32) (9)) (if (Y (40 + ix x2) (ix (7 : Int32))) ≤ (Y 60 16) then if v55 = (0 : Int32) then l_X10_agrees_224 Y W K369 N (x2 + (1 : Int32)) else some (0 : Int32) else if v55 = (1 : Int32) then l_X10_agrees_224 Y W K369 N (x2 + (1 : Int32)) else some (0 : Int32)))) else some (0 : Int32))) else some (0 : Int32))) else some (0 : Int32))) else some (0 : Int32))) else some (0 : Int32))) else some (0 : Int32))) else some (0 : Int32))) else some (0 : Int32)))))
theorem lv_X10_agrees_224 {G : GT} {f : Nat} {oh : Nat} {b : Nat} {A : Nat → Nat} {M0 : MM} {hi0 : Nat} {Y : Nat → Nat → Int32} {W : Nat → Nat → Int32} {K369 : Option Int32} {k : Nat} {r : Int32} (hf : 9 ≤ f) (hb : b + 609 ≤ oh) (hcw : MEM b 609 W M0 = M0) (hK369 : ∀ (M : MM) (hi : Nat), HS oh A M0 hi0 Y M hi → K369 = some r → V G f (Ex G f) mX10_agrees (PH oh A M0 hi0 (.inl (some (.int r))) Y) 369 [(0, .ref (oh)), (1, .ref (b))] [] M hi (k) (8 * (k))) : ∀ (N : Nat) (x2 : Int32) (M : MM) (hi : Nat), HS oh A M0 hi0 Y M hi → l_X10_agrees_224 Y W K369 N x2 = some r → V G f (Ex G f) mX10_agrees (PH oh A M0 hi0 (.inl (some (.int r))) Y) 224 [(0, .ref (oh)), (1, .ref (b)), (2, .int x2)] [] M hi (9 * (N - 1) + k) (8 * (9 * (N - 1) + k)) := by
  intro N
  induction N with
  | zero => intro x2 M hi hq h; cases h
  | succ N ih =>
    intro x2 M hi hq h
    rw [l_X10_agrees_224] at h
    show V _ _ _ _ _ _ _ _ _ _ (9 * N + k) (8 * (9 * N + k))
    refine V_iload_n (i := 2) dX10_agrees_224 rfl rfl ?_
    refine V_aload_n (i := 0) dX10_agrees_225 rfl rfl ?_
    refine V_getfield dX10_agrees_226 hq.o fl_X10_111 rfl ?_
    refine D_icmp_ge (tgt := 369) h dX10_agrees_229 rfl (fun b37 h => ?_) (fun b37 h => ?_)
    · refine V_spare (k2 := k) (n2 := 8 * (k)) (by omega) (by omega) ?_
      exact V_sub (ks := [0, 1]) rfl (hK369 _ _ hq h)
    · refine V_aload_n (i := 0) dX10_agrees_232 rfl rfl ?_
      refine V_getfield dX10_agrees_233 hq.o fl_X10_9 rfl ?_
      refine V_iload_n (i := 2) dX10_agrees_236 rfl rfl ?_
      refine H_ald h hq ho_14 rfl (by decide) dX10_agrees_237 fun g38 h => ?_
      refine V_astore_n (i := 3) dX10_agrees_238 rfl (Nat.le_of_ble_eq_true rfl) ?_
      refine V_aload_n (i := 1) dX10_agrees_239 rfl rfl ?_
      refine V_iload_n (i := 2) dX10_agrees_240 rfl rfl ?_
      refine D_gd h fun gN h => ?_
      have gN := Nat.blt_eq.mp gN
      refine V_spare (k2 := 9 * (N - 1) + k + 9) (n2 := 8 * (9 * (N - 1) + k + 9)) (by omega) (by omega) ?_
      refine V_spare (k2 := 9 * (N - 1) + k + 8 + 1) (n2 := 8 * (9 * (N - 1) + k + 8) + 6) (by omega) (by omega) ?_
      refine H_xI (As := [_]) h hq hb hcw dX10_agrees_241 cv_X10_98 rfl ⟨_, _, _, mem_x9 (Nat.le_refl _), rfl, rfl⟩ rfl (Nat.le_of_ble_eq_true rfl) (fun x hx => e_X9_origin (Nat.le_trans (Nat.le_of_ble_eq_true rfl) hf) (Nat.le_refl _) hx) fun v39 hi hq h => ?_
      refine V_aload_n (i := 3) dX10_agrees_244 rfl rfl ?_
      refine V_iconst (v := 0) dX10_agrees_245 (by decide) ?_
      refine D3_ild h (hq.t (ht_40 g38)) dX10_agrees_246 fun h => ?_
      refine D_icmp_ne (tgt := 329) h dX10_agrees_247 rfl (fun b40 h => ?_) (fun b40 h => ?_)
      · refine V_iconst (v := 0) dX10_agrees_329 (by decide) ?_
        obtain rfl := Option.some.inj h
        exact V_ireturn dX10_agrees_330 ⟨_, rfl, rfl⟩ ⟨rfl, hq⟩
      · refine V_aload_n (i := 1) dX10_agrees_250 rfl rfl ?_
        refine V_iload_n (i := 2) dX10_agrees_251 rfl rfl ?_
        refine V_spare (k2 := 9 * (N - 1) + k + 7 + 1) (n2 := 8 * (9 * (N - 1) + k + 7) + 6) (by omega) (by omega) ?_
        refine H_xI (As := [_]) h hq hb hcw dX10_agrees_252 cv_X10_101 rfl ⟨_, _, _, mem_x9 (Nat.le_refl _), rfl, rfl⟩ rfl (Nat.le_of_ble_eq_true rfl) (fun x hx => e_X9_destination (Nat.le_trans (Nat.le_of_ble_eq_true rfl) hf) (Nat.le_refl _) hx) fun v41 hi hq h => ?_
        refine V_aload_n (i := 3) dX10_agrees_255 rfl rfl ?_
        refine V_iconst (v := 1) dX10_agrees_256 (by decide) ?_
        refine D3_ild h (hq.t (ht_40 g38)) dX10_agrees_257 fun h => ?_
        refine D_icmp_ne (tgt := 329) h dX10_agrees_258 rfl (fun b42 h => ?_) (fun b42 h => ?_)
        · refine V_iconst (v := 0) dX10_agrees_329 (by decide) ?_
          obtain rfl := Option.some.inj h
          exact V_ireturn dX10_agrees_330 ⟨_, rfl, rfl⟩ ⟨rfl, hq⟩
        · refine V_aload_n (i := 1) dX10_agrees_261 rfl rfl ?_
          refine V_iload_n (i := 2) dX10_agrees_262 rfl rfl ?_
          refine V_spare (k2 := 9 * (N - 1) + k + 6 + 1) (n2 := 8 * (9 * (N - 1) + k + 6) + 6) (by omega) (by omega) ?_
          refine H_xI (As := [_]) h hq hb hcw dX10_agrees_263 cv_X10_104 rfl ⟨_, _, _, mem_x9 (Nat.le_refl _), rfl, rfl⟩ rfl (Nat.le_of_ble_eq_true rfl) (fun x hx => e_X9_priority (Nat.le_trans (Nat.le_of_ble_eq_true rfl) hf) (Nat.le_refl _) hx) fun v43 hi hq h => ?_
          refine V_aload_n (i := 3) dX10_agrees_266 rfl rfl ?_
          refine V_iconst (v := 2) dX10_agrees_267 (by decide) ?_
          refine D3_ild h (hq.t (ht_40 g38)) dX10_agrees_268 fun h => ?_
          refine D_icmp_ne (tgt := 329) h dX10_agrees_269 rfl (fun b44 h => ?_) (fun b44 h => ?_)
          · refine V_iconst (v := 0) dX10_agrees_329 (by decide) ?_
            obtain rfl := Option.some.inj h
            exact V_ireturn dX10_agrees_330 ⟨_, rfl, rfl⟩ ⟨rfl, hq⟩
          · refine V_aload_n (i := 1) dX10_agrees_272 rfl rfl ?_
            refine V_iload_n (i := 2) dX10_agrees_273 rfl rfl ?_
            refine V_spare (k2 := 9 * (N - 1) + k + 5 + 1) (n2 := 8 * (9 * (N - 1) + k + 5) + 6) (by omega) (by omega) ?_
            refine H_xI (As := [_]) h hq hb hcw dX10_agrees_274 cv_X10_175 rfl ⟨_, _, _, mem_x9 (Nat.le_refl _), rfl, rfl⟩ rfl (Nat.le_of_ble_eq_true rfl) (fun x hx => e_X9_parcelStation (Nat.le_trans (Nat.le_of_ble_eq_true rfl) hf) (Nat.le_refl _) hx) fun v45 hi hq h => ?_
            refine V_aload_n (i := 3) dX10_agrees_277 rfl rfl ?_
            refine V_iconst (v := 3) dX10_agrees_278 (by decide) ?_
            refine D3_ild h (hq.t (ht_40 g38)) dX10_agrees_279 fun h => ?_
            refine D_icmp_ne (tgt := 329) h dX10_agrees_280 rfl (fun b46 h => ?_) (fun b46 h => ?_)
            · refine V_iconst (v := 0) dX10_agrees_329 (by decide) ?_
              obtain rfl := Option.some.inj h
              exact V_ireturn dX10_agrees_330 ⟨_, rfl, rfl⟩ ⟨rfl, hq⟩
            · refine V_aload_n (i := 1) dX10_agrees_283 rfl rfl ?_
              refine V_iload_n (i := 2) dX10_agrees_284 rfl rfl ?_
              refine V_spare (k2 := 9 * (N - 1) + k + 4 + 1) (n2 := 8 * (9 * (N - 1) + k + 4) + 6) (by omega) (by omega) ?_
              refine H_xI (As := [_]) h hq hb hcw dX10_agrees_285 cv_X10_178 rfl ⟨_, _, _, mem_x9 (Nat.le_refl _), rfl, rfl⟩ rfl (Nat.le_of_ble_eq_true rfl) (fun x hx => e_X9_parcelTrain (Nat.le_trans (Nat.le_of_ble_eq_true rfl) hf) (Nat.le_refl _) hx) fun v47 hi hq h => ?_
              refine V_aload_n (i := 3) dX10_agrees_288 rfl rfl ?_
              refine V_iconst (v := 4) dX10_agrees_289 (by decide) ?_
              refine D3_ild h (hq.t (ht_40 g38)) dX10_agrees_290 fun h => ?_
              refine D_icmp_ne (tgt := 329) h dX10_agrees_291 rfl (fun b48 h => ?_) (fun b48 h => ?_)
              · refine V_iconst (v := 0) dX10_agrees_329 (by decide) ?_
                obtain rfl := Option.some.inj h
                exact V_ireturn dX10_agrees_330 ⟨_, rfl, rfl⟩ ⟨rfl, hq⟩
              · refine V_aload_n (i := 1) dX10_agrees_294 rfl rfl ?_
                refine V_iload_n (i := 2) dX10_agrees_295 rfl rfl ?_
                refine V_spare (k2 := 9 * (N - 1) + k + 3 + 1) (n2 := 8 * (9 * (N - 1) + k + 3) + 6) (by omega) (by omega) ?_
                refine H_xI (As := [_]) h hq hb hcw dX10_agrees_296 cv_X10_181 rfl ⟨_, _, _, mem_x9 (Nat.le_refl _), rfl, rfl⟩ rfl (Nat.le_of_ble_eq_true rfl) (fun x hx => e_X9_dropStation (Nat.le_trans (Nat.le_of_ble_eq_true rfl) hf) (Nat.le_refl _) hx) fun v49 hi hq h => ?_
                refine V_aload_n (i := 3) dX10_agrees_299 rfl rfl ?_
                refine V_iconst (v := 5) dX10_agrees_300 (by decide) ?_
                refine D3_ild h (hq.t (ht_40 g38)) dX10_agrees_301 fun h => ?_
                refine D_icmp_ne (tgt := 329) h dX10_agrees_302 rfl (fun b50 h => ?_) (fun b50 h => ?_)
                · refine V_iconst (v := 0) dX10_agrees_329 (by decide) ?_
                  obtain rfl := Option.some.inj h
                  exact V_ireturn dX10_agrees_330 ⟨_, rfl, rfl⟩ ⟨rfl, hq⟩
                · refine V_aload_n (i := 1) dX10_agrees_305 rfl rfl ?_
                  refine V_iload_n (i := 2) dX10_agrees_306 rfl rfl ?_
                  refine V_spare (k2 := 9 * (N - 1) + k + 2 + 1) (n2 := 8 * (9 * (N - 1) + k + 2) + 6) (by omega) (by omega) ?_
                  refine H_xI (As := [_]) h hq hb hcw dX10_agrees_307 cv_X10_184 rfl ⟨_, _, _, mem_x9 (Nat.le_refl _), rfl, rfl⟩ rfl (Nat.le_of_ble_eq_true rfl) (fun x hx => e_X9_transfers (Nat.le_trans (Nat.le_of_ble_eq_true rfl) hf) (Nat.le_refl _) hx) fun v51 hi hq h => ?_
                  refine V_aload_n (i := 3) dX10_agrees_310 rfl rfl ?_
                  refine V_bipush (v := 6) dX10_agrees_311 (by decide) ?_
                  refine D3_ild h (hq.t (ht_40 g38)) dX10_agrees_313 fun h => ?_
                  refine D_icmp_ne (tgt := 329) h dX10_agrees_314 rfl (fun b52 h => ?_) (fun b52 h => ?_)
                  · refine V_iconst (v := 0) dX10_agrees_329 (by decide) ?_
                    obtain rfl := Option.some.inj h
                    exact V_ireturn dX10_agrees_330 ⟨_, rfl, rfl⟩ ⟨rfl, hq⟩
                  · refine V_aload_n (i := 1) dX10_agrees_317 rfl rfl ?_
                    refine V_iload_n (i := 2) dX10_agrees_318 rfl rfl ?_
                    refine V_spare (k2 := 9 * (N - 1) + k + 1 + 1) (n2 := 8 * (9 * (N - 1) + k + 1) + 6) (by omega) (by omega) ?_
                    refine H_xI (As := [_]) h hq hb hcw dX10_agrees_319 cv_X10_187 rfl ⟨_, _, _, mem_x9 (Nat.le_refl _), rfl, rfl⟩ rfl (Nat.le_of_ble_eq_true rfl) (fun x hx => e_X9_deliveryClock (Nat.le_trans (Nat.le_of_ble_eq_true rfl) hf) (Nat.le_refl _) hx) fun v53 hi hq h => ?_
                    refine V_aload_n (i := 3) dX10_agrees_322 rfl rfl ?_
                    refine V_bipush (v := 8) dX10_agrees_323 (by decide) ?_
                    refine D3_ild h (hq.t (ht_40 g38)) dX10_agrees_325 fun h => ?_
                    refine D_icmp_eq (tgt := 331) h dX10_agrees_326 rfl (fun b54 h => ?_) (fun b54 h => ?_)
                    · refine V_aload_n (i := 1) dX10_agrees_331 rfl rfl ?_
                      refine V_iload_n (i := 2) dX10_agrees_332 rfl rfl ?_
                      refine V_spare (k2 := 9 * (N - 1) + k + 1) (n2 := 8 * (9 * (N - 1) + k) + 6) (by omega) (by omega) ?_
                      refine H_xI (As := [_]) h hq hb hcw dX10_agrees_333 cv_X10_190 rfl ⟨_, _, _, mem_x9 (Nat.le_refl _), rfl, rfl⟩ rfl (Nat.le_of_ble_eq_true rfl) (fun x hx => e_X9_isHeld (Nat.le_trans (Nat.le_of_ble_eq_true rfl) hf) (Nat.le_refl _) hx) fun v55 hi hq h => ?_
                      refine V_aload_n (i := 3) dX10_agrees_336 rfl rfl ?_
                      refine V_iconst (v := 3) dX10_agrees_337 (by decide) ?_
                      refine D3_ild h (hq.t (ht_40 g38)) dX10_agrees_338 fun h => ?_
                      refine D_if_lt (tgt := 357) h dX10_agrees_339 rfl (fun b56 h => ?_) (fun b56 h => ?_)
                      · refine V_iconst (v := 0) dX10_agrees_357 (by decide) ?_
                        refine D_icmp_eq (tgt := 363) h dX10_agrees_358 rfl (fun b57 h => ?_) (fun b57 h => ?_)
                        · refine D_iinc (i := 2) (w := 1) dX10_agrees_363 rfl (by decide) (Nat.le_of_ble_eq_true rfl) ?_
                          refine V_goto (tgt := 224) dX10_agrees_366 rfl ?_
                          exact V_sub (ks := [2, 3, 0]) rfl (ih _ _ _ hq h)
                        · refine V_iconst (v := 0) dX10_agrees_361 (by decide) ?_
                          obtain rfl := Option.some.inj h
                          exact V_ireturn dX10_agrees_362 ⟨_, rfl, rfl⟩ ⟨rfl, hq⟩
                      · refine V_aload_n (i := 0) dX10_agrees_342 rfl rfl ?_
                        refine V_getfield dX10_agrees_343 hq.o fl_X10_114 rfl ?_
                        refine V_aload_n (i := 3) dX10_agrees_346 rfl rfl ?_
                        refine V_bipush (v := 7) dX10_agrees_347 (by decide) ?_
                        refine D3_ild h (hq.t (ht_40 g38)) dX10_agrees_349 fun h => ?_
                        refine D_icmp_ge (tgt := 357) h dX10_agrees_350 rfl (fun b58 h => ?_) (fun b58 h => ?_)
                        · refine V_iconst (v := 0) dX10_agrees_357 (by decide) ?_
                          refine D_icmp_eq (tgt := 363) h dX10_agrees_358 rfl (fun b59 h => ?_) (fun b59 h => ?_)
                          · refine D_iinc (i := 2) (w := 1) dX10_agrees_363 rfl (by decide) (Nat.le_of_ble_eq_true rfl) ?_
                            refine V_goto (tgt := 224) dX10_agrees_366 rfl ?_
                            exact V_sub (ks := [2, 3, 0]) rfl (ih _ _ _ hq h)
                          · refine V_iconst (v := 0) dX10_agrees_361 (by decide) ?_
                            obtain rfl := Option.some.inj h
                            exact V_ireturn dX10_agrees_362 ⟨_, rfl, rfl⟩ ⟨rfl, hq⟩
                        · refine V_iconst (v := 1) dX10_agrees_353 (by decide) ?_
                          refine V_goto (tgt := 358) dX10_agrees_354 rfl ?_
                          refine D_icmp_eq (tgt := 363) h dX10_agrees_358 rfl (fun b60 h => ?_) (fun b60 h => ?_)
                          · refine D_iinc (i := 2) (w := 1) dX10_agrees_363 rfl (by decide) (Nat.le_of_ble_eq_true rfl) ?_
                            refine V_goto (tgt := 224) dX10_agrees_366 rfl ?_
                            exact V_sub (ks := [2, 3, 0]) rfl (ih _ _ _ hq h)
                          · refine V_iconst (v := 0) dX10_agrees_361 (by decide) ?_
                            obtain rfl := Option.some.inj h
                            exact V_ireturn dX10_agrees_362 ⟨_, rfl, rfl⟩ ⟨rfl, hq⟩
                    · refine V_iconst (v := 0) dX10_agrees_329 (by decide) ?_
                      obtain rfl := Option.some.inj h
                      exact V_ireturn dX10_agrees_330 ⟨_, rfl, rfl⟩ ⟨rfl, hq⟩
noncomputable def l_X10_agrees_381 (Y : Nat → Nat → Int32) (W : Nat → Nat → Int32) (c2 : Int32) (K428 : Option Int32) : Nat → Int32 → Option Int32
  | 0, _ => none
  | N + 1, x3 => if (Y 60 0) ≤ x3 then K428 else gd (Nat.blt 0 N) (bdc (f_X10_far Y c2 x3) (fun v63 => bdv (f_X9_distance W c2 x3) (fun v64 => if v63 < (9999 : Int32) then if v64 = v63 then l_X10_agrees_381 Y W c2 K428 N (x3 + (1 : Int32)) else some (0 : Int32) else if v64 = (-1 : Int32) then l_X10_agrees_381 Y W c2 K428 N (x3 + (1 : Int32)) else some (0 : Int32))))
theorem lv_X10_agrees_381 {G : GT} {f : Nat} {oh : Nat} {b : Nat} {A : Nat → Nat} {M0 : MM} {hi0 : Nat} {Y : Nat → Nat → Int32} {W : Nat → Nat → Int32} {c2 : Int32} {K428 : Option Int32} {k : Nat} {r : Int32} (hf : 9 ≤ f) (hb : b + 609 ≤ oh) (hcw : MEM b 609 W M0 = M0) (hK428 : ∀ (M : MM) (hi : Nat), HS oh A M0 hi0 Y M hi → K428 = some r → V G f (Ex G f) mX10_agrees (PH oh A M0 hi0 (.inl (some (.int r))) Y) 428 [(0, .ref (oh)), (1, .ref (b)), (2, .int c2)] [] M hi (k) (8 * (k))) : ∀ (N : Nat) (x3 : Int32) (M : MM) (hi : Nat), HS oh A M0 hi0 Y M hi → l_X10_agrees_381 Y W c2 K428 N x3 = some r → V G f (Ex G f) mX10_agrees (PH oh A M0 hi0 (.inl (some (.int r))) Y) 381 [(0, .ref (oh)), (1, .ref (b)), (2, .int c2), (3, .int x3)] [] M hi (3 * (N - 1) + k) (8 * (3 * (N - 1) + k)) := by
  intro N
  induction N with
  | zero => intro x3 M hi hq h; cases h
  | succ N ih =>
    intro x3 M hi hq h
    rw [l_X10_agrees_381] at h
    show V _ _ _ _ _ _ _ _ _ _ (3 * N + k) (8 * (3 * N + k))
    refine V_iload_n (i := 3) dX10_agrees_381 rfl rfl ?_
    refine V_aload_n (i := 0) dX10_agrees_382 rfl rfl ?_
    refine V_getfield dX10_agrees_383 hq.o fl_X10_20 rfl ?_
    refine D_icmp_ge (tgt := 428) h dX10_agrees_386 rfl (fun b62 h => ?_) (fun b62 h => ?_)
    · refine V_spare (k2 := k) (n2 := 8 * (k)) (by omega) (by omega) ?_
      exact V_sub (ks := [0, 1, 2]) rfl (hK428 _ _ hq h)
    · refine V_aload_n (i := 0) dX10_agrees_389 rfl rfl ?_
      refine V_iload_n (i := 2) dX10_agrees_390 rfl rfl ?_
      refine V_iload_n (i := 3) dX10_agrees_391 rfl rfl ?_
      refine D_gd h fun gN h => ?_
      have gN := Nat.blt_eq.mp gN
      refine V_spare (k2 := 3 * (N - 1) + k + 3) (n2 := 8 * (3 * (N - 1) + k + 3)) (by omega) (by omega) ?_
      refine V_spare (k2 := 3 * (N - 1) + k + 2 + 1) (n2 := 8 * (3 * (N - 1) + k + 2) + 8 * 1) (by omega) (by omega) ?_
      refine H_cI (As := [_, _]) h hq dX10_agrees_392 cv_X10_122 rfl (H_recv hq) rfl (Nat.le_of_ble_eq_true rfl) (fun x hx => e_X10_far (Nat.le_trans (Nat.le_of_ble_eq_true rfl) hf) hq.1 hx) fun v63 M hi hq h => ?_
      refine V_istore (i := 4) dX10_agrees_395 (Nat.le_of_ble_eq_true rfl) ?_
      refine V_aload_n (i := 1) dX10_agrees_397 rfl rfl ?_
      refine V_iload_n (i := 2) dX10_agrees_398 rfl rfl ?_
      refine V_iload_n (i := 3) dX10_agrees_399 rfl rfl ?_
      refine V_spare (k2 := 3 * (N - 1) + k + 2) (n2 := 8 * (3 * (N - 1) + k) + 12) (by omega) (by omega) ?_
      refine H_xI (As := [_, _]) h hq hb hcw dX10_agrees_400 cv_X10_193 rfl ⟨_, _, _, mem_x9 (Nat.le_refl _), rfl, rfl⟩ rfl (Nat.le_of_ble_eq_true rfl) (fun x hx => e_X9_distance (Nat.le_trans (Nat.le_of_ble_eq_true rfl) hf) (Nat.le_refl _) hx) fun v64 hi hq h => ?_
      refine V_iload (i := 4) dX10_agrees_403 rfl ?_
      refine V_sipush (v := 9999) dX10_agrees_405 (by decide) ?_
      refine D_icmp_lt (tgt := 415) h dX10_agrees_408 rfl (fun b65 h => ?_) (fun b65 h => ?_)
      · refine V_iload (i := 4) dX10_agrees_415 rfl ?_
        refine D_icmp_eq (tgt := 422) h dX10_agrees_417 rfl (fun b66 h => ?_) (fun b66 h => ?_)
        · refine D_iinc (i := 3) (w := 1) dX10_agrees_422 rfl (by decide) (Nat.le_of_ble_eq_true rfl) ?_
          refine V_goto (tgt := 381) dX10_agrees_425 rfl ?_
          exact V_sub (ks := [2, 3, 4, 0]) rfl (ih _ _ _ hq h)
        · refine V_iconst (v := 0) dX10_agrees_420 (by decide) ?_
          obtain rfl := Option.some.inj h
          exact V_ireturn dX10_agrees_421 ⟨_, rfl, rfl⟩ ⟨rfl, hq⟩
      · refine V_iconst (v := -1) dX10_agrees_411 (by decide) ?_
        refine V_goto (tgt := 417) dX10_agrees_412 rfl ?_
        refine D_icmp_eq (tgt := 422) h dX10_agrees_417 rfl (fun b67 h => ?_) (fun b67 h => ?_)
        · refine D_iinc (i := 3) (w := 1) dX10_agrees_422 rfl (by decide) (Nat.le_of_ble_eq_true rfl) ?_
          refine V_goto (tgt := 381) dX10_agrees_425 rfl ?_
          exact V_sub (ks := [2, 3, 4, 0]) rfl (ih _ _ _ hq h)
        · refine V_iconst (v := 0) dX10_agrees_420 (by decide) ?_
          obtain rfl := Option.some.inj h
          exact V_ireturn dX10_agrees_421 ⟨_, rfl, rfl⟩ ⟨rfl, hq⟩
noncomputable def l_X10_agrees_371 (Y : Nat → Nat → Int32) (W : Nat → Nat → Int32) : Nat → Int32 → Option Int32
  | 0, _ => none
  | N + 1, x2 => if (Y 60 0) ≤ x2 then some (1 : Int32) else gd (Nat.blt 0 N) (l_X10_agrees_381 Y W x2 (l_X10_agrees_371 Y W N (x2 + (1 : Int32))) 7 (0 : Int32))
theorem lv_X10_agrees_371 {G : GT} {f : Nat} {oh : Nat} {b : Nat} {A : Nat → Nat} {M0 : MM} {hi0 : Nat} {Y : Nat → Nat → Int32} {W : Nat → Nat → Int32} {k : Nat} {r : Int32} (hf : 9 ≤ f) (hb : b + 609 ≤ oh) (hcw : MEM b 609 W M0 = M0) : ∀ (N : Nat) (x2 : Int32) (M : MM) (hi : Nat), HS oh A M0 hi0 Y M hi → l_X10_agrees_371 Y W N x2 = some r → V G f (Ex G f) mX10_agrees (PH oh A M0 hi0 (.inl (some (.int r))) Y) 371 [(0, .ref (oh)), (1, .ref (b)), (2, .int x2)] [] M hi (18 * (N - 1) + k) (8 * (18 * (N - 1) + k)) := by
  intro N
  induction N with
  | zero => intro x2 M hi hq h; cases h
  | succ N ih =>
    intro x2 M hi hq h
    rw [l_X10_agrees_371] at h
    show V _ _ _ _ _ _ _ _ _ _ (18 * N + k) (8 * (18 * N + k))
    refine V_iload_n (i := 2) dX10_agrees_371 rfl rfl ?_
    refine V_aload_n (i := 0) dX10_agrees_372 rfl rfl ?_
    refine V_getfield dX10_agrees_373 hq.o fl_X10_20 rfl ?_
    refine D_icmp_ge (tgt := 434) h dX10_agrees_376 rfl (fun b61 h => ?_) (fun b61 h => ?_)
    · refine V_iconst (v := 1) dX10_agrees_434 (by decide) ?_
      obtain rfl := Option.some.inj h
      exact V_ireturn dX10_agrees_435 ⟨_, rfl, rfl⟩ ⟨rfl, hq⟩
    · refine V_iconst (v := 0) dX10_agrees_379 (by decide) ?_
      refine V_istore_n (i := 3) dX10_agrees_380 rfl (Nat.le_of_ble_eq_true rfl) ?_
      refine D_gd h fun gN h => ?_
      have gN := Nat.blt_eq.mp gN
      refine V_spare (k2 := 18 * (N - 1) + k + 18) (n2 := 8 * (18 * (N - 1) + k + 18)) (by omega) (by omega) ?_
      refine V_spare (k2 := 3 * (7 - 1) + (18 * (N - 1) + k)) (n2 := 8 * (3 * (7 - 1) + (18 * (N - 1) + k))) (by omega) (by omega) ?_
      refine V_sub (ks := [1, 2, 3, 0]) rfl (lv_X10_agrees_381 (k := 18 * (N - 1) + k) hf hb hcw ?_ 7 _ _ _ hq h)
      · intro M hi hq h
        refine D_iinc (i := 2) (w := 1) dX10_agrees_428 rfl (by decide) (Nat.le_of_ble_eq_true rfl) ?_
        refine V_goto (tgt := 371) dX10_agrees_431 rfl ?_
        exact V_sub (ks := [1, 2, 0]) rfl (ih _ _ _ hq h)
noncomputable def f_X10_agrees (Y : Nat → Nat → Int32) (W : Nat → Nat → Int32) : Option Int32 :=
  bdc (f_X9_clock W) (fun v1 => if v1 = (Y 60 16) then bdc (f_X9_parcelCount W) (fun v3 => if v3 = (Y 60 15) then bdc (f_X9_deliveredCount W) (fun v5 => bdc (f_X10_delivered Y) (fun v6 => if v5 = v6 then l_X10_agrees_37 Y W (l_X10_agrees_224 Y W (l_X10_agrees_371 Y W 7 (0 : Int32)) 13 (0 : Int32)) 4 (0 : Int32) else some (0 : Int32))) else some (0 : Int32)) else some (0 : Int32))
theorem e_X10_agrees {G : GT} {f0 : Nat} {oh : Nat} {b : Nat} {A : Nat → Nat} {M0 : MM} {hi0 : Nat} {Y : Nat → Nat → Int32} {W : Nat → Nat → Int32} {r : Int32} (hf0 : 10 ≤ f0) (hq : HQ oh A Y M0 hi0) (hb : b + 609 ≤ oh) (hcw : MEM b 609 W M0 = M0) (h : f_X10_agrees Y W = some r) : Ex G f0 mX10_agrees [.ref (oh), .ref (b)] M0 hi0 240 (8 * 240) (PH oh A M0 hi0 (.inl (some (.int r))) Y) := by
  obtain ⟨f, rfl, hf⟩ := suc_of hf0
  unfold f_X10_agrees at h
  replace hq := HS.here hq
  refine ⟨Nat.le_of_ble_eq_true rfl, ?_⟩
  refine V_aload_n (i := 1) dX10_agrees_0 rfl rfl ?_
  refine V_spare (k2 := 240 + 0) (n2 := 8 * (240) + 0) (by omega) (by omega) ?_
  refine H_xN (As := []) h hq hb hcw dX10_agrees_1 cv_X10_144 rfl ⟨_, _, _, mem_x9 (Nat.le_refl _), rfl, rfl⟩ rfl (Nat.le_of_ble_eq_true rfl) (fun x hx => e_X9_clock (Nat.le_trans (Nat.le_of_ble_eq_true rfl) hf) (Nat.le_refl _) hx) fun v1 hi hq h => ?_
  refine V_aload_n (i := 0) dX10_agrees_4 rfl rfl ?_
  refine V_getfield dX10_agrees_5 hq.o fl_X10_114 rfl ?_
  refine D_icmp_ne (tgt := 33) h dX10_agrees_8 rfl (fun b2 h => ?_) (fun b2 h => ?_)
  · refine V_iconst (v := 0) dX10_agrees_33 (by decide) ?_
    obtain rfl := Option.some.inj h
    exact V_ireturn dX10_agrees_34 ⟨_, rfl, rfl⟩ ⟨rfl, hq⟩
  · refine V_aload_n (i := 1) dX10_agrees_11 rfl rfl ?_
    refine V_spare (k2 := 240 + 0) (n2 := 8 * (240) + 0) (by omega) (by omega) ?_
    refine H_xN (As := []) h hq hb hcw dX10_agrees_12 cv_X10_95 rfl ⟨_, _, _, mem_x9 (Nat.le_refl _), rfl, rfl⟩ rfl (Nat.le_of_ble_eq_true rfl) (fun x hx => e_X9_parcelCount (Nat.le_trans (Nat.le_of_ble_eq_true rfl) hf) (Nat.le_refl _) hx) fun v3 hi hq h => ?_
    refine V_aload_n (i := 0) dX10_agrees_15 rfl rfl ?_
    refine V_getfield dX10_agrees_16 hq.o fl_X10_111 rfl ?_
    refine D_icmp_ne (tgt := 33) h dX10_agrees_19 rfl (fun b4 h => ?_) (fun b4 h => ?_)
    · refine V_iconst (v := 0) dX10_agrees_33 (by decide) ?_
      obtain rfl := Option.some.inj h
      exact V_ireturn dX10_agrees_34 ⟨_, rfl, rfl⟩ ⟨rfl, hq⟩
    · refine V_aload_n (i := 1) dX10_agrees_22 rfl rfl ?_
      refine V_spare (k2 := 240 + 0) (n2 := 8 * (240) + 0) (by omega) (by omega) ?_
      refine H_xN (As := []) h hq hb hcw dX10_agrees_23 cv_X10_146 rfl ⟨_, _, _, mem_x9 (Nat.le_refl _), rfl, rfl⟩ rfl (Nat.le_of_ble_eq_true rfl) (fun x hx => e_X9_deliveredCount (Nat.le_trans (Nat.le_of_ble_eq_true rfl) hf) (Nat.le_refl _) hx) fun v5 hi hq h => ?_
      refine V_aload_n (i := 0) dX10_agrees_26 rfl rfl ?_
      refine V_spare (k2 := 240 + 0) (n2 := 8 * (240) + 8 * 0) (by omega) (by omega) ?_
      refine H_cI (As := []) h hq dX10_agrees_27 cv_X10_149 rfl (H_recv hq) rfl (Nat.le_of_ble_eq_true rfl) (fun x hx => e_X10_delivered (Nat.le_trans (Nat.le_of_ble_eq_true rfl) hf) hq.1 hx) fun v6 M hi hq h => ?_
      refine D_icmp_eq (tgt := 35) h dX10_agrees_30 rfl (fun b7 h => ?_) (fun b7 h => ?_)
      · refine V_iconst (v := 0) dX10_agrees_35 (by decide) ?_
        refine V_istore_n (i := 2) dX10_agrees_36 rfl (Nat.le_of_ble_eq_true rfl) ?_
        refine V_spare (k2 := 8 * (4 - 1) + (216)) (n2 := 8 * (8 * (4 - 1) + (216))) (by omega) (by omega) ?_
        refine V_sub (ks := [1, 2, 0]) rfl (lv_X10_agrees_37 (k := 216) hf hb hcw ?_ 4 _ _ _ hq h)
        · intro M hi hq h
          refine V_iconst (v := 0) dX10_agrees_222 (by decide) ?_
          refine V_istore_n (i := 2) dX10_agrees_223 rfl (Nat.le_of_ble_eq_true rfl) ?_
          refine V_spare (k2 := 9 * (13 - 1) + (108)) (n2 := 8 * (9 * (13 - 1) + (108))) (by omega) (by omega) ?_
          refine V_sub (ks := [1, 2, 0]) rfl (lv_X10_agrees_224 (k := 108) hf hb hcw ?_ 13 _ _ _ hq h)
          · intro M hi hq h
            refine V_iconst (v := 0) dX10_agrees_369 (by decide) ?_
            refine V_istore_n (i := 2) dX10_agrees_370 rfl (Nat.le_of_ble_eq_true rfl) ?_
            refine V_spare (k2 := 18 * (7 - 1) + (0)) (n2 := 8 * (18 * (7 - 1) + (0))) (by omega) (by omega) ?_
            refine V_sub (ks := [1, 2, 0]) rfl (lv_X10_agrees_371 (k := 0) hf hb hcw 7 _ _ _ hq h)
      · refine V_iconst (v := 0) dX10_agrees_33 (by decide) ?_
        obtain rfl := Option.some.inj h
        exact V_ireturn dX10_agrees_34 ⟨_, rfl, rfl⟩ ⟨rfl, hq⟩
