noncomputable def f_X10_follow (Y : Nat → Nat → Int32) (a2 : Int32) : Option (Nat → Nat → Int32) :=
  bnd (a2 / (16 : Int32)) (fun v1 => gd (nz0 (Y 60 0)) (bnd (v1 - v1 / (Y 60 0) * (Y 60 0)) (fun v3 => bnd (v1 / (64 : Int32)) (fun v4 => bnd (a2 - a2 / (16 : Int32) * (16 : Int32)) (fun v5 => jn (fun (Y7 : Nat → Nat → Int32) => jn (fun (Y13 : Nat → Nat → Int32) => jn (fun (Y19 : Nat → Nat → Int32) => jn (fun (Y23 : Nat → Nat → Int32) => if v5 = (4 : Int32) then gd (nz0 (Y23 60 15)) (gd (inr (v1 - v1 / (Y23 60 15) * (Y23 60 15)) (12)) (gd (inr (3 : Int32) (9)) (gd (inr (0 : Int32) (9)) (if (Y23 (40 + ix (v1 - v1 / (Y23 60 15) * (Y23 60 15))) (ix (3 : Int32))) = (Y23 (40 + ix (v1 - v1 / (Y23 60 15) * (Y23 60 15))) (ix (0 : Int32))) then gd (inr (3 : Int32) (9)) (bnd (w2 Y23 (40 + ix (v1 - v1 / (Y23 60 15) * (Y23 60 15))) (ix (3 : Int32)) (-1 : Int32)) (fun Y45 => gd (inr (8 : Int32) (9)) (bnd (w2 Y45 (40 + ix (v1 - v1 / (Y23 60 15) * (Y23 60 15))) (ix (8 : Int32)) (Y45 60 16)) (fun Y46 => some Y46)))) else gd (inr (0 : Int32) (9)) (gd (inr (1 : Int32) (9)) (bnd (w2 Y23 (40 + ix (v1 - v1 / (Y23 60 15) * (Y23 60 15))) (ix (1 : Int32)) (Y23 (40 + ix (v1 - v1 / (Y23 60 15) * (Y23 60 15))) (ix (0 : Int32)))) (fun Y42 => gd (inr (3 : Int32) (9)) (gd (inr (0 : Int32) (9)) (bnd (w2 Y42 (40 + ix (v1 - v1 / (Y23 60 15) * (Y23 60 15))) (ix (0 : Int32)) (Y42 (40 + ix (v1 - v1 / (Y23 60 15) * (Y23 60 15))) (ix (3 : Int32)))) (fun Y43 => gd (inr (7 : Int32) (9)) (bnd (w2 Y43 (40 + ix (v1 - v1 / (Y23 60 15) * (Y23 60 15))) (ix (7 : Int32)) (0 : Int32)) (fun Y44 => some Y44)))))))))))) else some Y23) (fun j22 => jn (gd (inr v3 (hN Y19)) (gd (nz0 (Y19 60 0)) (jn (fun (v30 : Int32) => gd (inr ((v3 + (1 : Int32)) - (v3 + (1 : Int32)) / (Y19 60 0) * (Y19 60 0)) (hN Y19)) (bnd (w2 Y19 (24 + ix v3) (ix ((v3 + (1 : Int32)) - (v3 + (1 : Int32)) / (Y19 60 0) * (Y19 60 0))) (nz v30)) (fun Y32 => gd (nz0 (Y32 60 0)) (gd (inr ((v3 + (1 : Int32)) - (v3 + (1 : Int32)) / (Y32 60 0) * (Y32 60 0)) (hN Y32)) (if (v4 - v4 / (3 : Int32) * (3 : Int32)) ≤ 0 then gd (inr v3 (hN Y32)) (bnd (w2 Y32 (24 + ix ((v3 + (1 : Int32)) - (v3 + (1 : Int32)) / (Y32 60 0) * (Y32 60 0))) (ix v3) (nz (0 : Int32))) (fun Y36 => j22 Y36)) else gd (inr v3 (hN Y32)) (bnd (w2 Y32 (24 + ix ((v3 + (1 : Int32)) - (v3 + (1 : Int32)) / (Y32 60 0) * (Y32 60 0))) (ix v3) (nz (1 : Int32))) (fun Y37 => j22 Y37))))))) (fun j29 => if (v4 - v4 / (3 : Int32) * (3 : Int32)) ≤ 0 then j29 (0 : Int32) else j29 (1 : Int32))))) (fun j24 => if v5 = (5 : Int32) then j24 else if v5 = (6 : Int32) then j24 else j22 Y19))) (fun j18 => if v5 = (3 : Int32) then gd (inr v3 (hN Y13)) (bnd (w2 Y13 5 (ix v3) (v4 - v4 / (6 : Int32) * (6 : Int32))) (fun Y21 => j18 Y21)) else j18 Y13)) (fun j12 => if v5 = (2 : Int32) then gd (nz0 (Y7 60 15)) (gd (inr (v1 - v1 / (Y7 60 15) * (Y7 60 15)) (12)) (gd (inr (2 : Int32) (9)) (bnd (w2 Y7 (40 + ix (v1 - v1 / (Y7 60 15) * (Y7 60 15))) (ix (2 : Int32)) ((1 : Int32) + (v4 - v4 / (9 : Int32) * (9 : Int32)))) (fun Y17 => j12 Y17)))) else j12 Y7)) (fun j6 => if (2 : Int32) ≤ v5 then j6 Y else gd (nz0 ((Y 60 0) - (1 : Int32))) (gd (nz0 (Y 60 0)) (gd (inr (Y 60 15) 12) (bnd (f_X10_add Y v3 (((v3 + (1 : Int32)) + ((v1 / (8 : Int32)) - (v1 / (8 : Int32)) / ((Y 60 0) - (1 : Int32)) * ((Y 60 0) - (1 : Int32)))) - ((v3 + (1 : Int32)) + ((v1 / (8 : Int32)) - (v1 / (8 : Int32)) / ((Y 60 0) - (1 : Int32)) * ((Y 60 0) - (1 : Int32)))) / (Y 60 0) * (Y 60 0)) ((1 : Int32) + (v4 - v4 / (9 : Int32) * (9 : Int32)))) (fun Y11 => j6 Y11))))))))))
theorem e_X10_follow {G : GT} {f0 : Nat} {oh : Nat} {b : Nat} {A : Nat → Nat} {M0 : MM} {hi0 : Nat} {Y : Nat → Nat → Int32} {a2 : Int32} {r : (Nat → Nat → Int32)} (hf0 : 2 ≤ f0) (hq : HQ oh A Y M0 hi0) (h : f_X10_follow Y a2 = some r) : Ex G f0 mX10_follow [.ref (oh), .ref (b), .int a2] M0 hi0 2 (8 * 2) (PHA oh M0 hi0 (.inl none) r) := by
  obtain ⟨f, rfl, hf⟩ := suc_of hf0
  unfold f_X10_follow at h
  replace hq := HS.here hq
  refine ⟨Nat.le_of_ble_eq_true rfl, ?_⟩
  refine V_iload_n (i := 2) dX10_follow_0 rfl rfl ?_
  refine V_bipush (v := 16) dX10_follow_1 (by decide) ?_
  refine V_idiv dX10_follow_3 (by decide) ?_
  refine D_istore_n (i := 3) h dX10_follow_4 rfl (Nat.le_of_ble_eq_true rfl) fun v1 h => ?_
  refine V_iload_n (i := 3) dX10_follow_5 rfl rfl ?_
  refine V_aload_n (i := 0) dX10_follow_6 rfl rfl ?_
  refine V_getfield dX10_follow_7 hq.o fl_X10_20 rfl ?_
  refine D_gd h fun g2 h => ?_
  refine V_irem dX10_follow_10 (nz0_ok g2) ?_
  refine D_istore (i := 4) h dX10_follow_11 (Nat.le_of_ble_eq_true rfl) fun v3 h => ?_
  refine V_iload_n (i := 3) dX10_follow_13 rfl rfl ?_
  refine V_bipush (v := 64) dX10_follow_14 (by decide) ?_
  refine V_idiv dX10_follow_16 (by decide) ?_
  refine D_istore (i := 5) h dX10_follow_17 (Nat.le_of_ble_eq_true rfl) fun v4 h => ?_
  refine V_iload_n (i := 2) dX10_follow_19 rfl rfl ?_
  refine V_bipush (v := 16) dX10_follow_20 (by decide) ?_
  refine V_irem dX10_follow_22 (by decide) ?_
  refine D_istore (i := 6) h dX10_follow_23 (Nat.le_of_ble_eq_true rfl) fun v5 h => ?_
  refine V_iload (i := 6) dX10_follow_25 rfl ?_
  refine V_iconst (v := 2) dX10_follow_27 (by decide) ?_
  refine D_jn (fun (j : (Nat → Nat → Int32) → Option (Nat → Nat → Int32)) => ∀ (Y7 : Nat → Nat → Int32) (A : Nat → Nat) (M : MM) (hi : Nat), HS oh A M0 hi0 Y7 M hi → j Y7 = some r → V G f (Ex G f) mX10_follow (PHA oh M0 hi0 (.inl none) r) 65 [(0, .ref (oh)), (3, .int v1), (4, .int v3), (5, .int v4), (6, .int v5)] [] M hi (0) (8 * (0))) h (fun j6 hj6 h => ?_) ?_
  · refine D_icmp_ge (tgt := 65) h dX10_follow_28 rfl (fun b8 h => ?_) (fun b8 h => ?_)
    · refine V_spare (k2 := 0) (n2 := 8 * (0)) (by omega) (by omega) ?_
      exact V_sub (ks := [4, 3, 2, 1, 0]) rfl (hj6 _ _ _ _ hq h)
    · refine V_aload_n (i := 0) dX10_follow_31 rfl rfl ?_
      refine V_iload (i := 4) dX10_follow_32 rfl ?_
      refine V_iload (i := 4) dX10_follow_34 rfl ?_
      refine V_iconst (v := 1) dX10_follow_36 (by decide) ?_
      refine V_iadd dX10_follow_37 ?_
      refine V_iload_n (i := 3) dX10_follow_38 rfl rfl ?_
      refine V_bipush (v := 8) dX10_follow_39 (by decide) ?_
      refine V_idiv dX10_follow_41 (by decide) ?_
      refine V_aload_n (i := 0) dX10_follow_42 rfl rfl ?_
      refine V_getfield dX10_follow_43 hq.o fl_X10_20 rfl ?_
      refine V_iconst (v := 1) dX10_follow_46 (by decide) ?_
      refine V_isub dX10_follow_47 ?_
      refine D_gd h fun g9 h => ?_
      refine V_irem dX10_follow_48 (nz0_ok g9) ?_
      refine V_iadd dX10_follow_49 ?_
      refine V_aload_n (i := 0) dX10_follow_50 rfl rfl ?_
      refine V_getfield dX10_follow_51 hq.o fl_X10_20 rfl ?_
      refine D_gd h fun g10 h => ?_
      refine V_irem dX10_follow_54 (nz0_ok g10) ?_
      refine V_iconst (v := 1) dX10_follow_55 (by decide) ?_
      refine V_iload (i := 5) dX10_follow_56 rfl ?_
      refine V_bipush (v := 9) dX10_follow_58 (by decide) ?_
      refine V_irem dX10_follow_60 (by decide) ?_
      refine V_iadd dX10_follow_61 ?_
      refine V_spare (k2 := 0 + 2) (n2 := 8 * (0) + 8 * 2) (by omega) (by omega) ?_
      refine H_cA h hq dX10_follow_62 cv_X10_107 (Nat.le_of_ble_eq_true rfl) (Nat.le_trans (Nat.le_of_ble_eq_true rfl) hf) fun Y11 A M hi hq h => ?_
      exact V_sub (ks := [4, 3, 2, 1, 0]) rfl (hj6 _ _ _ _ hq h)
  · intro Y7 A M hi hq h
    refine V_iload (i := 6) dX10_follow_65 rfl ?_
    refine V_iconst (v := 2) dX10_follow_67 (by decide) ?_
    refine D_jn (fun (j : (Nat → Nat → Int32) → Option (Nat → Nat → Int32)) => ∀ (Y13 : Nat → Nat → Int32) (A : Nat → Nat) (M : MM) (hi : Nat), HS oh A M0 hi0 Y13 M hi → j Y13 = some r → V G f (Ex G f) mX10_follow (PHA oh M0 hi0 (.inl none) r) 91 [(0, .ref (oh)), (3, .int v1), (4, .int v3), (5, .int v4), (6, .int v5)] [] M hi (0) (8 * (0))) h (fun j12 hj12 h => ?_) ?_
    · refine D_icmp_ne (tgt := 91) h dX10_follow_68 rfl (fun b14 h => ?_) (fun b14 h => ?_)
      · exact V_sub (ks := [0, 1, 2, 3, 4]) rfl (hj12 _ _ _ _ hq h)
      · refine V_aload_n (i := 0) dX10_follow_71 rfl rfl ?_
        refine V_getfield dX10_follow_72 hq.o fl_X10_9 rfl ?_
        refine V_iload_n (i := 3) dX10_follow_75 rfl rfl ?_
        refine V_aload_n (i := 0) dX10_follow_76 rfl rfl ?_
        refine V_getfield dX10_follow_77 hq.o fl_X10_111 rfl ?_
        refine D_gd h fun g15 h => ?_
        refine V_irem dX10_follow_80 (nz0_ok g15) ?_
        refine H_ald h hq ho_14 rfl (by decide) dX10_follow_81 fun g16 h => ?_
        refine V_iconst (v := 2) dX10_follow_82 (by decide) ?_
        refine V_iconst (v := 1) dX10_follow_83 (by decide) ?_
        refine V_iload (i := 5) dX10_follow_84 rfl ?_
        refine V_bipush (v := 9) dX10_follow_86 (by decide) ?_
        refine V_irem dX10_follow_88 (by decide) ?_
        refine V_iadd dX10_follow_89 ?_
        refine H_ist h hq (ht_40 g16) dX10_follow_90 fun Y17 M hq h => ?_
        exact V_sub (ks := [0, 1, 2, 3, 4]) rfl (hj12 _ _ _ _ hq h)
    · intro Y13 A M hi hq h
      refine V_iload (i := 6) dX10_follow_91 rfl ?_
      refine V_iconst (v := 3) dX10_follow_93 (by decide) ?_
      refine D_jn (fun (j : (Nat → Nat → Int32) → Option (Nat → Nat → Int32)) => ∀ (Y19 : Nat → Nat → Int32) (A : Nat → Nat) (M : MM) (hi : Nat), HS oh A M0 hi0 Y19 M hi → j Y19 = some r → V G f (Ex G f) mX10_follow (PHA oh M0 hi0 (.inl none) r) 109 [(0, .ref (oh)), (3, .int v1), (4, .int v3), (5, .int v4), (6, .int v5)] [] M hi (0) (8 * (0))) h (fun j18 hj18 h => ?_) ?_
      · refine D_icmp_ne (tgt := 109) h dX10_follow_94 rfl (fun b20 h => ?_) (fun b20 h => ?_)
        · exact V_sub (ks := [0, 1, 2, 3, 4]) rfl (hj18 _ _ _ _ hq h)
        · refine V_aload_n (i := 0) dX10_follow_97 rfl rfl ?_
          refine V_getfield dX10_follow_98 hq.o fl_X10_42 rfl ?_
          refine V_iload (i := 4) dX10_follow_101 rfl ?_
          refine V_iload (i := 5) dX10_follow_103 rfl ?_
          refine V_bipush (v := 6) dX10_follow_105 (by decide) ?_
          refine V_irem dX10_follow_107 (by decide) ?_
          refine H_ist h hq ht_5 dX10_follow_108 fun Y21 M hq h => ?_
          exact V_sub (ks := [0, 1, 2, 3, 4]) rfl (hj18 _ _ _ _ hq h)
      · intro Y19 A M hi hq h
        refine V_iload (i := 6) dX10_follow_109 rfl ?_
        refine V_iconst (v := 5) dX10_follow_111 (by decide) ?_
        refine D_jn (fun (j : (Nat → Nat → Int32) → Option (Nat → Nat → Int32)) => ∀ (Y23 : Nat → Nat → Int32) (A : Nat → Nat) (M : MM) (hi : Nat), HS oh A M0 hi0 Y23 M hi → j Y23 = some r → V G f (Ex G f) mX10_follow (PHA oh M0 hi0 (.inl none) r) 180 [(0, .ref (oh)), (3, .int v1), (6, .int v5)] [] M hi (0) (8 * (0))) h (fun j22 hj22 h => ?_) ?_
        · refine D_jn (fun (j : Option (Nat → Nat → Int32)) => ∀ (A : Nat → Nat) (M : MM) (hi : Nat), HS oh A M0 hi0 Y19 M hi → j = some r → V G f (Ex G f) mX10_follow (PHA oh M0 hi0 (.inl none) r) 122 [(0, .ref (oh)), (3, .int v1), (4, .int v3), (5, .int v4), (6, .int v5)] [] M hi (0) (8 * (0))) h (fun j24 hj24 h => ?_) ?_
          · refine D_icmp_eq (tgt := 122) h dX10_follow_112 rfl (fun b25 h => ?_) (fun b25 h => ?_)
            · exact V_sub (ks := [0, 1, 2, 3, 4]) rfl (hj24 _ _ _ hq h)
            · refine V_iload (i := 6) dX10_follow_115 rfl ?_
              refine V_bipush (v := 6) dX10_follow_117 (by decide) ?_
              refine D_icmp_ne (tgt := 180) h dX10_follow_119 rfl (fun b26 h => ?_) (fun b26 h => ?_)
              · exact V_sub (ks := [0, 1, 4]) rfl (hj22 _ _ _ _ hq h)
              · exact V_sub (ks := [0, 1, 2, 3, 4]) rfl (hj24 _ _ _ hq h)
          · intro A M hi hq h
            refine V_aload_n (i := 0) dX10_follow_122 rfl rfl ?_
            refine V_getfield dX10_follow_123 hq.o fl_X10_35 rfl ?_
            refine V_iload (i := 4) dX10_follow_126 rfl ?_
            refine H_ald h hq ho_3 rfl (by decide) dX10_follow_128 fun g27 h => ?_
            refine V_iload (i := 4) dX10_follow_129 rfl ?_
            refine V_iconst (v := 1) dX10_follow_131 (by decide) ?_
            refine V_iadd dX10_follow_132 ?_
            refine V_aload_n (i := 0) dX10_follow_133 rfl rfl ?_
            refine V_getfield dX10_follow_134 hq.o fl_X10_20 rfl ?_
            refine D_gd h fun g28 h => ?_
            refine V_irem dX10_follow_137 (nz0_ok g28) ?_
            refine V_iload (i := 5) dX10_follow_138 rfl ?_
            refine V_iconst (v := 3) dX10_follow_140 (by decide) ?_
            refine V_irem dX10_follow_141 (by decide) ?_
            refine D_jn (fun (j : Int32 → Option (Nat → Nat → Int32)) => ∀ (v30 : Int32) (A : Nat → Nat) (M : MM) (hi : Nat), HS oh A M0 hi0 Y19 M hi → j v30 = some r → V G f (Ex G f) mX10_follow (PHA oh M0 hi0 (.inl none) r) 150 [(0, .ref (oh)), (3, .int v1), (4, .int v3), (5, .int v4), (6, .int v5)] [.int v30, .int ((v3 + (1 : Int32)) - (v3 + (1 : Int32)) / (Y19 60 0) * (Y19 60 0)), .ref (A (24 + ix v3))] M hi (0) (8 * (0))) h (fun j29 hj29 h => ?_) ?_
            · refine D_if_le (tgt := 149) h dX10_follow_142 rfl (fun b31 h => ?_) (fun b31 h => ?_)
              · refine V_iconst (v := 0) dX10_follow_149 (by decide) ?_
                exact V_sub (ks := [0, 1, 2, 3, 4]) rfl (hj29 _ _ _ _ hq h)
              · refine V_iconst (v := 1) dX10_follow_145 (by decide) ?_
                refine V_goto (tgt := 150) dX10_follow_146 rfl ?_
                exact V_sub (ks := [0, 1, 2, 3, 4]) rfl (hj29 _ _ _ _ hq h)
            · intro v30 A M hi hq h
              refine H_zst h hq (ht_24 hq g27) dX10_follow_150 fun Y32 M hq h => ?_
              refine V_aload_n (i := 0) dX10_follow_151 rfl rfl ?_
              refine V_getfield dX10_follow_152 hq.o fl_X10_35 rfl ?_
              refine V_iload (i := 4) dX10_follow_155 rfl ?_
              refine V_iconst (v := 1) dX10_follow_157 (by decide) ?_
              refine V_iadd dX10_follow_158 ?_
              refine V_aload_n (i := 0) dX10_follow_159 rfl rfl ?_
              refine V_getfield dX10_follow_160 hq.o fl_X10_20 rfl ?_
              refine D_gd h fun g33 h => ?_
              refine V_irem dX10_follow_163 (nz0_ok g33) ?_
              refine H_ald h hq ho_3 rfl (by decide) dX10_follow_164 fun g34 h => ?_
              refine V_iload (i := 4) dX10_follow_165 rfl ?_
              refine V_iload (i := 5) dX10_follow_167 rfl ?_
              refine V_iconst (v := 3) dX10_follow_169 (by decide) ?_
              refine V_irem dX10_follow_170 (by decide) ?_
              refine D_if_le (tgt := 178) h dX10_follow_171 rfl (fun b35 h => ?_) (fun b35 h => ?_)
              · refine V_iconst (v := 0) dX10_follow_178 (by decide) ?_
                refine H_zst h hq (ht_24 hq g34) dX10_follow_179 fun Y36 M hq h => ?_
                exact V_sub (ks := [0, 1, 4]) rfl (hj22 _ _ _ _ hq h)
              · refine V_iconst (v := 1) dX10_follow_174 (by decide) ?_
                refine V_goto (tgt := 179) dX10_follow_175 rfl ?_
                refine H_zst h hq (ht_24 hq g34) dX10_follow_179 fun Y37 M hq h => ?_
                exact V_sub (ks := [0, 1, 4]) rfl (hj22 _ _ _ _ hq h)
        · intro Y23 A M hi hq h
          refine V_iload (i := 6) dX10_follow_180 rfl ?_
          refine V_iconst (v := 4) dX10_follow_182 (by decide) ?_
          refine D_icmp_eq (tgt := 187) h dX10_follow_183 rfl (fun b38 h => ?_) (fun b38 h => ?_)
          · refine V_aload_n (i := 0) dX10_follow_187 rfl rfl ?_
            refine V_getfield dX10_follow_188 hq.o fl_X10_9 rfl ?_
            refine V_iload_n (i := 3) dX10_follow_191 rfl rfl ?_
            refine V_aload_n (i := 0) dX10_follow_192 rfl rfl ?_
            refine V_getfield dX10_follow_193 hq.o fl_X10_111 rfl ?_
            refine D_gd h fun g39 h => ?_
            refine V_irem dX10_follow_196 (nz0_ok g39) ?_
            refine H_ald h hq ho_14 rfl (by decide) dX10_follow_197 fun g40 h => ?_
            refine V_astore (i := 7) dX10_follow_198 (Nat.le_of_ble_eq_true rfl) ?_
            refine V_aload (i := 7) dX10_follow_200 rfl ?_
            refine V_iconst (v := 3) dX10_follow_202 (by decide) ?_
            refine D3_ild h (hq.t (ht_40 g40)) dX10_follow_203 fun h => ?_
            refine V_aload (i := 7) dX10_follow_204 rfl ?_
            refine V_iconst (v := 0) dX10_follow_206 (by decide) ?_
            refine D3_ild h (hq.t (ht_40 g40)) dX10_follow_207 fun h => ?_
            refine D_icmp_ne (tgt := 228) h dX10_follow_208 rfl (fun b41 h => ?_) (fun b41 h => ?_)
            · refine V_aload (i := 7) dX10_follow_228 rfl ?_
              refine V_iconst (v := 1) dX10_follow_230 (by decide) ?_
              refine V_aload (i := 7) dX10_follow_231 rfl ?_
              refine V_iconst (v := 0) dX10_follow_233 (by decide) ?_
              refine D3_ild h (hq.t (ht_40 g40)) dX10_follow_234 fun h => ?_
              refine H_ist h hq (ht_40 g40) dX10_follow_235 fun Y42 M hq h => ?_
              refine V_aload (i := 7) dX10_follow_236 rfl ?_
              refine V_iconst (v := 0) dX10_follow_238 (by decide) ?_
              refine V_aload (i := 7) dX10_follow_239 rfl ?_
              refine V_iconst (v := 3) dX10_follow_241 (by decide) ?_
              refine D3_ild h (hq.t (ht_40 g40)) dX10_follow_242 fun h => ?_
              refine H_ist h hq (ht_40 g40) dX10_follow_243 fun Y43 M hq h => ?_
              refine V_aload (i := 7) dX10_follow_244 rfl ?_
              refine V_bipush (v := 7) dX10_follow_246 (by decide) ?_
              refine V_iconst (v := 0) dX10_follow_248 (by decide) ?_
              refine H_ist h hq (ht_40 g40) dX10_follow_249 fun Y44 M hq h => ?_
              obtain rfl := Option.some.inj h
              exact V_return dX10_follow_250 rfl ⟨rfl, _, hq⟩
            · refine V_aload (i := 7) dX10_follow_211 rfl ?_
              refine V_iconst (v := 3) dX10_follow_213 (by decide) ?_
              refine V_iconst (v := -1) dX10_follow_214 (by decide) ?_
              refine H_ist h hq (ht_40 g40) dX10_follow_215 fun Y45 M hq h => ?_
              refine V_aload (i := 7) dX10_follow_216 rfl ?_
              refine V_bipush (v := 8) dX10_follow_218 (by decide) ?_
              refine V_aload_n (i := 0) dX10_follow_220 rfl rfl ?_
              refine V_getfield dX10_follow_221 hq.o fl_X10_114 rfl ?_
              refine H_ist h hq (ht_40 g40) dX10_follow_224 fun Y46 M hq h => ?_
              refine V_goto (tgt := 250) dX10_follow_225 rfl ?_
              obtain rfl := Option.some.inj h
              exact V_return dX10_follow_250 rfl ⟨rfl, _, hq⟩
          · obtain rfl := Option.some.inj h
            exact V_return dX10_follow_186 rfl ⟨rfl, _, hq⟩
