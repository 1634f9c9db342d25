noncomputable def f_L_acts (W : Nat → Nat → Int32) (a1 : Int32) : Option (Int32 × (Nat → Nat → Int32)) :=
  bnd (a1 / (16 : Int32)) (fun v1 => bdc (f_X9_stationCount W) (fun v2 => gd (nz0 v2) (bnd (v1 - v1 / v2 * v2) (fun v4 => gd (nz0 (v2 - (1 : Int32))) (gd (nz0 v2) (bnd (((v4 + (1 : Int32)) + ((v1 / (8 : Int32)) - (v1 / (8 : Int32)) / (v2 - (1 : Int32)) * (v2 - (1 : Int32)))) - ((v4 + (1 : Int32)) + ((v1 / (8 : Int32)) - (v1 / (8 : Int32)) / (v2 - (1 : Int32)) * (v2 - (1 : Int32)))) / v2 * v2) (fun v7 => bnd (v1 / (64 : Int32)) (fun v8 => if (a1 - a1 / (16 : Int32) * (16 : Int32)) = (0 : Int32) then bt2 (f_X9_addParcel W v4 v7 ((1 : Int32) + (v8 - v8 / (9 : Int32) * (9 : Int32)))) (fun e W12 => if e = "java/lang/IllegalStateException" then some ((-9 : Int32), W12) else none) (fun v11 W10 => some (v11, W10)) else if (a1 - a1 / (16 : Int32) * (16 : Int32)) = (1 : Int32) then bt2 (f_X9_addParcel W v4 v7 ((1 : Int32) + (v8 - v8 / (9 : Int32) * (9 : Int32)))) (fun e W16 => if e = "java/lang/IllegalStateException" then some ((-9 : Int32), W16) else none) (fun v15 W14 => some (v15, W14)) else if (a1 - a1 / (16 : Int32) * (16 : Int32)) = (2 : Int32) then bdc (f_X9_parcelCount W) (fun v18 => if v18 = 0 then some ((-9 : Int32), W) else bdc (f_X9_parcelCount W) (fun v20 => gd (nz0 v20) (bt2 (f_X9_setPriority W (v1 - v1 / v20 * v20) ((1 : Int32) + (v8 - v8 / (9 : Int32) * (9 : Int32)))) (fun e W24 => if e = "java/lang/IllegalStateException" then some ((-9 : Int32), W24) else none) (fun v23 W22 => some (v23, W22))))) else if (a1 - a1 / (16 : Int32) * (16 : Int32)) = (3 : Int32) then bt2 (f_X9_setInspection W v4 (v8 - v8 / (6 : Int32) * (6 : Int32))) (fun e W28 => if e = "java/lang/IllegalStateException" then some ((-9 : Int32), W28) else none) (fun v27 W26 => some (v27, W26)) else if (a1 - a1 / (16 : Int32) * (16 : Int32)) = (4 : Int32) then bdc (f_X9_parcelCount W) (fun v30 => if v30 = 0 then some ((-9 : Int32), W) else if (v8 - v8 / (2 : Int32) * (2 : Int32)) = 0 then some ((-9 : Int32), W) else bdc (f_X9_parcelCount W) (fun v33 => gd (nz0 v33) (bt2 (f_X9_withdraw W (v1 - v1 / v33 * v33)) (fun e W37 => if e = "java/lang/IllegalStateException" then some ((-9 : Int32), W37) else none) (fun v36 W35 => some (v36, W35))))) else if (a1 - a1 / (16 : Int32) * (16 : Int32)) = (5 : Int32) then gd (nz0 v2) (bdt (f_X9_travelTime W v4 ((v4 + (1 : Int32)) - (v4 + (1 : Int32)) / v2 * v2)) (fun e => if e = "java/lang/IllegalStateException" then some ((-9 : Int32), W) else none) (fun v40 => if 0 ≤ v40 then gd (nz0 v2) (jn (fun (v44 : Int32) => bt2 (f_X9_setTrackOpen W v4 ((v4 + (1 : Int32)) - (v4 + (1 : Int32)) / v2 * v2) v44) (fun e W48 => if e = "java/lang/IllegalStateException" then some ((-9 : Int32), W48) else none) (fun v47 W46 => if v47 = 0 then some ((0 : Int32), W46) else some ((1 : Int32), W46))) (fun j43 => if (v8 - v8 / (3 : Int32) * (3 : Int32)) ≤ 0 then j43 (0 : Int32) else j43 (1 : Int32))) else some ((-9 : Int32), W))) else if (a1 - a1 / (16 : Int32) * (16 : Int32)) = (6 : Int32) then gd (nz0 v2) (bdt (f_X9_travelTime W v4 ((v4 + (1 : Int32)) - (v4 + (1 : Int32)) / v2 * v2)) (fun e => if e = "java/lang/IllegalStateException" then some ((-9 : Int32), W) else none) (fun v52 => if 0 ≤ v52 then gd (nz0 v2) (jn (fun (v56 : Int32) => bt2 (f_X9_setTrackOpen W v4 ((v4 + (1 : Int32)) - (v4 + (1 : Int32)) / v2 * v2) v56) (fun e W60 => if e = "java/lang/IllegalStateException" then some ((-9 : Int32), W60) else none) (fun v59 W58 => if v59 = 0 then some ((0 : Int32), W58) else some ((1 : Int32), W58))) (fun j55 => if (v8 - v8 / (3 : Int32) * (3 : Int32)) ≤ 0 then j55 (0 : Int32) else j55 (1 : Int32))) else some ((-9 : Int32), W))) else gd (tso (a1 - a1 / (16 : Int32) * (16 : Int32)) 0 6) (bt2 (f_X9_pass W ((1 : Int32) + (v1 - v1 / (3 : Int32) * (3 : Int32)))) (fun e W64 => if e = "java/lang/IllegalStateException" then some ((-9 : Int32), W64) else none) (fun v63 W62 => some (v63, W62)))))))))))
theorem e_L_acts {G : GT} {f0 : Nat} {b c : Nat} {M : MM} {hi : Nat} {W : Nat → Nat → Int32} {a1 : Int32} {r : (Int32 × (Nat → Nat → Int32))} (hf0 : 10 ≤ f0) (hc1 : 609 ≤ c) (h : f_L_acts W a1 = some r) : Ex G f0 mL_acts [.ref (b), .int a1] (MEM b c W M) hi 5 30 (RP (.inl (some (.int r.1))) (MEM b c r.2 M)) := by
  obtain ⟨f, rfl, hf⟩ := suc_of hf0
  unfold f_L_acts at h
  refine ⟨Nat.le_of_ble_eq_true rfl, ?_⟩
  refine V_iload_n (i := 1) dL_acts_0 rfl rfl ?_
  refine V_bipush (v := 16) dL_acts_1 (by decide) ?_
  refine V_idiv dL_acts_3 (by decide) ?_
  refine D_istore_n (i := 2) h dL_acts_4 rfl (Nat.le_of_ble_eq_true rfl) fun v1 h => ?_
  refine V_aload_n (i := 0) dL_acts_5 rfl rfl ?_
  refine D_cVI (As := []) h dL_acts_6 cv_L_75 rfl ⟨_, _, _, (mem_x9 hc1), rfl, rfl⟩ rfl (Nat.le_of_ble_eq_true rfl) (fun x hx => e_X9_stationCount (Nat.le_trans (Nat.le_of_ble_eq_true rfl) hf) hc1 hx) fun v2 h => ?_
  refine V_istore_n (i := 3) dL_acts_9 rfl (Nat.le_of_ble_eq_true rfl) ?_
  refine V_iload_n (i := 2) dL_acts_10 rfl rfl ?_
  refine V_iload_n (i := 3) dL_acts_11 rfl rfl ?_
  refine D_gd h fun g3 h => ?_
  refine V_irem dL_acts_12 (nz0_ok g3) ?_
  refine D_istore (i := 4) h dL_acts_13 (Nat.le_of_ble_eq_true rfl) fun v4 h => ?_
  refine V_iload (i := 4) dL_acts_15 rfl ?_
  refine V_iconst (v := 1) dL_acts_17 (by decide) ?_
  refine V_iadd dL_acts_18 ?_
  refine V_iload_n (i := 2) dL_acts_19 rfl rfl ?_
  refine V_bipush (v := 8) dL_acts_20 (by decide) ?_
  refine V_idiv dL_acts_22 (by decide) ?_
  refine V_iload_n (i := 3) dL_acts_23 rfl rfl ?_
  refine V_iconst (v := 1) dL_acts_24 (by decide) ?_
  refine V_isub dL_acts_25 ?_
  refine D_gd h fun g5 h => ?_
  refine V_irem dL_acts_26 (nz0_ok g5) ?_
  refine V_iadd dL_acts_27 ?_
  refine V_iload_n (i := 3) dL_acts_28 rfl rfl ?_
  refine D_gd h fun g6 h => ?_
  refine V_irem dL_acts_29 (nz0_ok g6) ?_
  refine D_istore (i := 5) h dL_acts_30 (Nat.le_of_ble_eq_true rfl) fun v7 h => ?_
  refine V_iload_n (i := 2) dL_acts_32 rfl rfl ?_
  refine V_bipush (v := 64) dL_acts_33 (by decide) ?_
  refine V_idiv dL_acts_35 (by decide) ?_
  refine D_istore (i := 6) h dL_acts_36 (Nat.le_of_ble_eq_true rfl) fun v8 h => ?_
  refine V_iload_n (i := 1) dL_acts_38 rfl rfl ?_
  refine V_bipush (v := 16) dL_acts_39 (by decide) ?_
  refine V_irem dL_acts_41 (by decide) ?_
  refine D_ite h (fun b9 h => ?_) (fun b9 h => ?_)
  · refine V_tsIn (c := 0) (off := 42) (tgt := 84) b9 dL_acts_42 (by decide) (by decide) (by decide) rfl ?_
    refine V_aload_n (i := 0) dL_acts_84 rfl rfl ?_
    refine V_iload (i := 4) dL_acts_85 rfl ?_
    refine V_iload (i := 5) dL_acts_87 rfl ?_
    refine V_iconst (v := 1) dL_acts_89 (by decide) ?_
    refine V_iload (i := 6) dL_acts_90 rfl ?_
    refine V_bipush (v := 9) dL_acts_92 (by decide) ?_
    refine V_irem dL_acts_94 (by decide) ?_
    refine V_iadd dL_acts_95 ?_
    refine D_tVIW (As := [_, _, _]) (μ := fun W10 => (MEM b c W10 M)) (k2 := 4) (n2 := 24) h dL_acts_96 cv_L_78 rfl ⟨_, _, _, (mem_x9 hc1), rfl, rfl⟩ rfl (Nat.le_of_ble_eq_true rfl) (fun x y hx => e_X9_addParcel (Nat.le_trans (Nat.le_of_ble_eq_true rfl) hf) hc1 hx) (fun e W12 hi h => ?_) (fun v11 W10 hi h => ?_)
    · refine D_ite h (fun q h => ?_) (fun _ h => ?_)
      · subst q
        refine Or.inr ⟨[], (38, 99, 235, 105), [(100, 129, 235, 105), (130, 141, 235, 105), (142, 171, 235, 105), (172, 224, 235, 105), (225, 234, 235, 105)], "java/lang/IllegalStateException", rfl, (fun z hz => by cases hz), by decide, by decide, tw_1377, by decide +kernel, fun ex => ?_⟩
        refine V_astore (i := 7) dL_acts_235 (Nat.le_of_ble_eq_true rfl) ?_
        refine V_bipush (v := -9) dL_acts_237 (by decide) ?_
        obtain rfl := Option.some.inj h
        exact V_ireturn dL_acts_239 ⟨_, rfl, rfl⟩ ⟨rfl, rfl⟩
      cases h
    · obtain rfl := Option.some.inj h
      exact V_ireturn dL_acts_99 ⟨_, rfl, rfl⟩ ⟨rfl, rfl⟩
  refine D_ite h (fun b13 h => ?_) (fun b13 h => ?_)
  · refine V_tsIn (c := 1) (off := 42) (tgt := 84) b13 dL_acts_42 (by decide) (by decide) (by decide) rfl ?_
    refine V_aload_n (i := 0) dL_acts_84 rfl rfl ?_
    refine V_iload (i := 4) dL_acts_85 rfl ?_
    refine V_iload (i := 5) dL_acts_87 rfl ?_
    refine V_iconst (v := 1) dL_acts_89 (by decide) ?_
    refine V_iload (i := 6) dL_acts_90 rfl ?_
    refine V_bipush (v := 9) dL_acts_92 (by decide) ?_
    refine V_irem dL_acts_94 (by decide) ?_
    refine V_iadd dL_acts_95 ?_
    refine D_tVIW (As := [_, _, _]) (μ := fun W14 => (MEM b c W14 M)) (k2 := 4) (n2 := 24) h dL_acts_96 cv_L_78 rfl ⟨_, _, _, (mem_x9 hc1), rfl, rfl⟩ rfl (Nat.le_of_ble_eq_true rfl) (fun x y hx => e_X9_addParcel (Nat.le_trans (Nat.le_of_ble_eq_true rfl) hf) hc1 hx) (fun e W16 hi h => ?_) (fun v15 W14 hi h => ?_)
    · refine D_ite h (fun q h => ?_) (fun _ h => ?_)
      · subst q
        refine Or.inr ⟨[], (38, 99, 235, 105), [(100, 129, 235, 105), (130, 141, 235, 105), (142, 171, 235, 105), (172, 224, 235, 105), (225, 234, 235, 105)], "java/lang/IllegalStateException", rfl, (fun z hz => by cases hz), by decide, by decide, tw_1377, by decide +kernel, fun ex => ?_⟩
        refine V_astore (i := 7) dL_acts_235 (Nat.le_of_ble_eq_true rfl) ?_
        refine V_bipush (v := -9) dL_acts_237 (by decide) ?_
        obtain rfl := Option.some.inj h
        exact V_ireturn dL_acts_239 ⟨_, rfl, rfl⟩ ⟨rfl, rfl⟩
      cases h
    · obtain rfl := Option.some.inj h
      exact V_ireturn dL_acts_99 ⟨_, rfl, rfl⟩ ⟨rfl, rfl⟩
  refine D_ite h (fun b17 h => ?_) (fun b17 h => ?_)
  · refine V_tsIn (c := 2) (off := 58) (tgt := 100) b17 dL_acts_42 (by decide) (by decide) (by decide) rfl ?_
    refine V_aload_n (i := 0) dL_acts_100 rfl rfl ?_
    refine D_cVI (As := []) h dL_acts_101 cv_L_82 rfl ⟨_, _, _, (mem_x9 hc1), rfl, rfl⟩ rfl (Nat.le_of_ble_eq_true rfl) (fun x hx => e_X9_parcelCount (Nat.le_trans (Nat.le_of_ble_eq_true rfl) hf) hc1 hx) fun v18 h => ?_
    refine D_if_ne (tgt := 112) h dL_acts_104 rfl (fun b19 h => ?_) (fun b19 h => ?_)
    · refine V_aload_n (i := 0) dL_acts_112 rfl rfl ?_
      refine V_iload_n (i := 2) dL_acts_113 rfl rfl ?_
      refine V_aload_n (i := 0) dL_acts_114 rfl rfl ?_
      refine D_cVI (As := []) h dL_acts_115 cv_L_82 rfl ⟨_, _, _, (mem_x9 hc1), rfl, rfl⟩ rfl (Nat.le_of_ble_eq_true rfl) (fun x hx => e_X9_parcelCount (Nat.le_trans (Nat.le_of_ble_eq_true rfl) hf) hc1 hx) fun v20 h => ?_
      refine D_gd h fun g21 h => ?_
      refine V_irem dL_acts_118 (nz0_ok g21) ?_
      refine V_iconst (v := 1) dL_acts_119 (by decide) ?_
      refine V_iload (i := 6) dL_acts_120 rfl ?_
      refine V_bipush (v := 9) dL_acts_122 (by decide) ?_
      refine V_irem dL_acts_124 (by decide) ?_
      refine V_iadd dL_acts_125 ?_
      refine D_tVIW (As := [_, _]) (μ := fun W22 => (MEM b c W22 M)) (k2 := 2) (n2 := 12) h dL_acts_126 cv_L_85 rfl ⟨_, _, _, (mem_x9 hc1), rfl, rfl⟩ rfl (Nat.le_of_ble_eq_true rfl) (fun x y hx => e_X9_setPriority (Nat.le_trans (Nat.le_of_ble_eq_true rfl) hf) hc1 hx) (fun e W24 hi h => ?_) (fun v23 W22 hi h => ?_)
      · refine D_ite h (fun q h => ?_) (fun _ h => ?_)
        · subst q
          refine Or.inr ⟨[(38, 99, 235, 105)], (100, 129, 235, 105), [(130, 141, 235, 105), (142, 171, 235, 105), (172, 224, 235, 105), (225, 234, 235, 105)], "java/lang/IllegalStateException", rfl, (fun z hz => by
              simp only [List.mem_cons, List.not_mem_nil, or_false] at hz
              rcases hz with rfl
              · exact Or.inl (by decide)), by decide, by decide, tw_1377, by decide +kernel, fun ex => ?_⟩
          refine V_astore (i := 7) dL_acts_235 (Nat.le_of_ble_eq_true rfl) ?_
          refine V_bipush (v := -9) dL_acts_237 (by decide) ?_
          obtain rfl := Option.some.inj h
          exact V_ireturn dL_acts_239 ⟨_, rfl, rfl⟩ ⟨rfl, rfl⟩
        cases h
      · obtain rfl := Option.some.inj h
        exact V_ireturn dL_acts_129 ⟨_, rfl, rfl⟩ ⟨rfl, rfl⟩
    · refine V_bipush (v := -9) dL_acts_107 (by decide) ?_
      refine V_goto (tgt := 129) dL_acts_109 rfl ?_
      obtain rfl := Option.some.inj h
      exact V_ireturn dL_acts_129 ⟨_, rfl, rfl⟩ ⟨rfl, rfl⟩
  refine D_ite h (fun b25 h => ?_) (fun b25 h => ?_)
  · refine V_tsIn (c := 3) (off := 88) (tgt := 130) b25 dL_acts_42 (by decide) (by decide) (by decide) rfl ?_
    refine V_aload_n (i := 0) dL_acts_130 rfl rfl ?_
    refine V_iload (i := 4) dL_acts_131 rfl ?_
    refine V_iload (i := 6) dL_acts_133 rfl ?_
    refine V_bipush (v := 6) dL_acts_135 (by decide) ?_
    refine V_irem dL_acts_137 (by decide) ?_
    refine D_tVIW (As := [_, _]) (μ := fun W26 => (MEM b c W26 M)) (k2 := 2) (n2 := 12) h dL_acts_138 cv_L_89 rfl ⟨_, _, _, (mem_x9 hc1), rfl, rfl⟩ rfl (Nat.le_of_ble_eq_true rfl) (fun x y hx => e_X9_setInspection (Nat.le_trans (Nat.le_of_ble_eq_true rfl) hf) hc1 hx) (fun e W28 hi h => ?_) (fun v27 W26 hi h => ?_)
    · refine D_ite h (fun q h => ?_) (fun _ h => ?_)
      · subst q
        refine Or.inr ⟨[(38, 99, 235, 105), (100, 129, 235, 105)], (130, 141, 235, 105), [(142, 171, 235, 105), (172, 224, 235, 105), (225, 234, 235, 105)], "java/lang/IllegalStateException", rfl, (fun z hz => by
            simp only [List.mem_cons, List.not_mem_nil, or_false] at hz
            rcases hz with rfl | rfl
            · exact Or.inl (by decide)
            · exact Or.inl (by decide)), by decide, by decide, tw_1377, by decide +kernel, fun ex => ?_⟩
        refine V_astore (i := 7) dL_acts_235 (Nat.le_of_ble_eq_true rfl) ?_
        refine V_bipush (v := -9) dL_acts_237 (by decide) ?_
        obtain rfl := Option.some.inj h
        exact V_ireturn dL_acts_239 ⟨_, rfl, rfl⟩ ⟨rfl, rfl⟩
      cases h
    · obtain rfl := Option.some.inj h
      exact V_ireturn dL_acts_141 ⟨_, rfl, rfl⟩ ⟨rfl, rfl⟩
  refine D_ite h (fun b29 h => ?_) (fun b29 h => ?_)
  · refine V_tsIn (c := 4) (off := 100) (tgt := 142) b29 dL_acts_42 (by decide) (by decide) (by decide) rfl ?_
    refine V_aload_n (i := 0) dL_acts_142 rfl rfl ?_
    refine D_cVI (As := []) h dL_acts_143 cv_L_82 rfl ⟨_, _, _, (mem_x9 hc1), rfl, rfl⟩ rfl (Nat.le_of_ble_eq_true rfl) (fun x hx => e_X9_parcelCount (Nat.le_trans (Nat.le_of_ble_eq_true rfl) hf) hc1 hx) fun v30 h => ?_
    refine D_if_eq (tgt := 156) h dL_acts_146 rfl (fun b31 h => ?_) (fun b31 h => ?_)
    · refine V_bipush (v := -9) dL_acts_156 (by decide) ?_
      refine V_goto (tgt := 171) dL_acts_158 rfl ?_
      obtain rfl := Option.some.inj h
      exact V_ireturn dL_acts_171 ⟨_, rfl, rfl⟩ ⟨rfl, rfl⟩
    · refine V_iload (i := 6) dL_acts_149 rfl ?_
      refine V_iconst (v := 2) dL_acts_151 (by decide) ?_
      refine V_irem dL_acts_152 (by decide) ?_
      refine D_if_ne (tgt := 161) h dL_acts_153 rfl (fun b32 h => ?_) (fun b32 h => ?_)
      · refine V_aload_n (i := 0) dL_acts_161 rfl rfl ?_
        refine V_iload_n (i := 2) dL_acts_162 rfl rfl ?_
        refine V_aload_n (i := 0) dL_acts_163 rfl rfl ?_
        refine D_cVI (As := []) h dL_acts_164 cv_L_82 rfl ⟨_, _, _, (mem_x9 hc1), rfl, rfl⟩ rfl (Nat.le_of_ble_eq_true rfl) (fun x hx => e_X9_parcelCount (Nat.le_trans (Nat.le_of_ble_eq_true rfl) hf) hc1 hx) fun v33 h => ?_
        refine D_gd h fun g34 h => ?_
        refine V_irem dL_acts_167 (nz0_ok g34) ?_
        refine D_tVIW (As := [_]) (μ := fun W35 => (MEM b c W35 M)) (k2 := 2) (n2 := 12) h dL_acts_168 cv_L_92 rfl ⟨_, _, _, (mem_x9 hc1), rfl, rfl⟩ rfl (Nat.le_of_ble_eq_true rfl) (fun x y hx => e_X9_withdraw (Nat.le_trans (Nat.le_of_ble_eq_true rfl) hf) hc1 hx) (fun e W37 hi h => ?_) (fun v36 W35 hi h => ?_)
        · refine D_ite h (fun q h => ?_) (fun _ h => ?_)
          · subst q
            refine Or.inr ⟨[(38, 99, 235, 105), (100, 129, 235, 105), (130, 141, 235, 105)], (142, 171, 235, 105), [(172, 224, 235, 105), (225, 234, 235, 105)], "java/lang/IllegalStateException", rfl, (fun z hz => by
                simp only [List.mem_cons, List.not_mem_nil, or_false] at hz
                rcases hz with rfl | rfl | rfl
                · exact Or.inl (by decide)
                · exact Or.inl (by decide)
                · exact Or.inl (by decide)), by decide, by decide, tw_1377, by decide +kernel, fun ex => ?_⟩
            refine V_astore (i := 7) dL_acts_235 (Nat.le_of_ble_eq_true rfl) ?_
            refine V_bipush (v := -9) dL_acts_237 (by decide) ?_
            obtain rfl := Option.some.inj h
            exact V_ireturn dL_acts_239 ⟨_, rfl, rfl⟩ ⟨rfl, rfl⟩
          cases h
        · obtain rfl := Option.some.inj h
          exact V_ireturn dL_acts_171 ⟨_, rfl, rfl⟩ ⟨rfl, rfl⟩
      · refine V_bipush (v := -9) dL_acts_156 (by decide) ?_
        refine V_goto (tgt := 171) dL_acts_158 rfl ?_
        obtain rfl := Option.some.inj h
        exact V_ireturn dL_acts_171 ⟨_, rfl, rfl⟩ ⟨rfl, rfl⟩
  refine D_ite h (fun b38 h => ?_) (fun b38 h => ?_)
  · refine V_tsIn (c := 5) (off := 130) (tgt := 172) b38 dL_acts_42 (by decide) (by decide) (by decide) rfl ?_
    refine V_aload_n (i := 0) dL_acts_172 rfl rfl ?_
    refine V_iload (i := 4) dL_acts_173 rfl ?_
    refine V_iload (i := 4) dL_acts_175 rfl ?_
    refine V_iconst (v := 1) dL_acts_177 (by decide) ?_
    refine V_iadd dL_acts_178 ?_
    refine V_iload_n (i := 3) dL_acts_179 rfl rfl ?_
    refine D_gd h fun g39 h => ?_
    refine V_irem dL_acts_180 (nz0_ok g39) ?_
    refine D_tVI (As := [_, _]) (k2 := 2) (n2 := 12) h dL_acts_181 cv_L_95 rfl ⟨_, _, _, (mem_x9 hc1), rfl, rfl⟩ rfl (Nat.le_of_ble_eq_true rfl) (fun x hx => e_X9_travelTime (Nat.le_trans (Nat.le_of_ble_eq_true rfl) hf) hc1 hx) (fun e hi h => ?_) (fun v40 hi h => ?_)
    · refine D_ite h (fun q h => ?_) (fun _ h => ?_)
      · subst q
        refine Or.inr ⟨[(38, 99, 235, 105), (100, 129, 235, 105), (130, 141, 235, 105), (142, 171, 235, 105)], (172, 224, 235, 105), [(225, 234, 235, 105)], "java/lang/IllegalStateException", rfl, (fun z hz => by
            simp only [List.mem_cons, List.not_mem_nil, or_false] at hz
            rcases hz with rfl | rfl | rfl | rfl
            · exact Or.inl (by decide)
            · exact Or.inl (by decide)
            · exact Or.inl (by decide)
            · exact Or.inl (by decide)), by decide, by decide, tw_1377, by decide +kernel, fun ex => ?_⟩
        refine V_astore (i := 7) dL_acts_235 (Nat.le_of_ble_eq_true rfl) ?_
        refine V_bipush (v := -9) dL_acts_237 (by decide) ?_
        obtain rfl := Option.some.inj h
        exact V_ireturn dL_acts_239 ⟨_, rfl, rfl⟩ ⟨rfl, rfl⟩
      cases h
    · refine D_if_ge (tgt := 192) h dL_acts_184 rfl (fun b41 h => ?_) (fun b41 h => ?_)
      · refine V_aload_n (i := 0) dL_acts_192 rfl rfl ?_
        refine V_iload (i := 4) dL_acts_193 rfl ?_
        refine V_iload (i := 4) dL_acts_195 rfl ?_
        refine V_iconst (v := 1) dL_acts_197 (by decide) ?_
        refine V_iadd dL_acts_198 ?_
        refine V_iload_n (i := 3) dL_acts_199 rfl rfl ?_
        refine D_gd h fun g42 h => ?_
        refine V_irem dL_acts_200 (nz0_ok g42) ?_
        refine V_iload (i := 6) dL_acts_201 rfl ?_
        refine V_iconst (v := 3) dL_acts_203 (by decide) ?_
        refine V_irem dL_acts_204 (by decide) ?_
        refine D_jn (fun (j : Int32 → Option (Int32 × (Nat → Nat → Int32))) => ∀ (v44 : Int32) (hi : Nat), j v44 = some r → V G f (Ex G f) mL_acts (RP (.inl (some (.int r.1))) (MEM b c r.2 M)) 213 [] [.int v44, .int ((v4 + (1 : Int32)) - (v4 + (1 : Int32)) / v2 * v2), .int v4, .ref (b)] (MEM b c W M) hi 3 18) h (fun j43 hj43 h => ?_) ?_
        · refine D_if_le (tgt := 212) h dL_acts_205 rfl (fun b45 h => ?_) (fun b45 h => ?_)
          · refine V_iconst (v := 0) dL_acts_212 (by decide) ?_
            exact V_sub (ks := []) rfl (hj43 _ _ h)
          · refine V_iconst (v := 1) dL_acts_208 (by decide) ?_
            refine V_goto (tgt := 213) dL_acts_209 rfl ?_
            exact V_sub (ks := []) rfl (hj43 _ _ h)
        · intro v44 hi h
          refine D_tVIW (As := [_, _, _]) (μ := fun W46 => (MEM b c W46 M)) (k2 := 3) (n2 := 18) h dL_acts_213 cv_L_98 rfl ⟨_, _, _, (mem_x9 hc1), rfl, rfl⟩ rfl (Nat.le_of_ble_eq_true rfl) (fun x y hx => e_X9_setTrackOpen (Nat.le_trans (Nat.le_of_ble_eq_true rfl) hf) hc1 hx) (fun e W48 hi h => ?_) (fun v47 W46 hi h => ?_)
          · refine D_ite h (fun q h => ?_) (fun _ h => ?_)
            · subst q
              refine Or.inr ⟨[(38, 99, 235, 105), (100, 129, 235, 105), (130, 141, 235, 105), (142, 171, 235, 105)], (172, 224, 235, 105), [(225, 234, 235, 105)], "java/lang/IllegalStateException", rfl, (fun z hz => by
                  simp only [List.mem_cons, List.not_mem_nil, or_false] at hz
                  rcases hz with rfl | rfl | rfl | rfl
                  · exact Or.inl (by decide)
                  · exact Or.inl (by decide)
                  · exact Or.inl (by decide)
                  · exact Or.inl (by decide)), by decide, by decide, tw_1377, by decide +kernel, fun ex => ?_⟩
              refine V_astore (i := 7) dL_acts_235 (Nat.le_of_ble_eq_true rfl) ?_
              refine V_bipush (v := -9) dL_acts_237 (by decide) ?_
              obtain rfl := Option.some.inj h
              exact V_ireturn dL_acts_239 ⟨_, rfl, rfl⟩ ⟨rfl, rfl⟩
            cases h
          · refine D_if_eq (tgt := 223) h dL_acts_216 rfl (fun b49 h => ?_) (fun b49 h => ?_)
            · refine V_iconst (v := 0) dL_acts_223 (by decide) ?_
              obtain rfl := Option.some.inj h
              exact V_ireturn dL_acts_224 ⟨_, rfl, rfl⟩ ⟨rfl, rfl⟩
            · refine V_iconst (v := 1) dL_acts_219 (by decide) ?_
              refine V_goto (tgt := 224) dL_acts_220 rfl ?_
              obtain rfl := Option.some.inj h
              exact V_ireturn dL_acts_224 ⟨_, rfl, rfl⟩ ⟨rfl, rfl⟩
      · refine V_bipush (v := -9) dL_acts_187 (by decide) ?_
        refine V_goto (tgt := 224) dL_acts_189 rfl ?_
        obtain rfl := Option.some.inj h
        exact V_ireturn dL_acts_224 ⟨_, rfl, rfl⟩ ⟨rfl, rfl⟩
  refine D_ite h (fun b50 h => ?_) (fun b50 h => ?_)
  · refine V_tsIn (c := 6) (off := 130) (tgt := 172) b50 dL_acts_42 (by decide) (by decide) (by decide) rfl ?_
    refine V_aload_n (i := 0) dL_acts_172 rfl rfl ?_
    refine V_iload (i := 4) dL_acts_173 rfl ?_
    refine V_iload (i := 4) dL_acts_175 rfl ?_
    refine V_iconst (v := 1) dL_acts_177 (by decide) ?_
    refine V_iadd dL_acts_178 ?_
    refine V_iload_n (i := 3) dL_acts_179 rfl rfl ?_
    refine D_gd h fun g51 h => ?_
    refine V_irem dL_acts_180 (nz0_ok g51) ?_
    refine D_tVI (As := [_, _]) (k2 := 2) (n2 := 12) h dL_acts_181 cv_L_95 rfl ⟨_, _, _, (mem_x9 hc1), rfl, rfl⟩ rfl (Nat.le_of_ble_eq_true rfl) (fun x hx => e_X9_travelTime (Nat.le_trans (Nat.le_of_ble_eq_true rfl) hf) hc1 hx) (fun e hi h => ?_) (fun v52 hi h => ?_)
    · refine D_ite h (fun q h => ?_) (fun _ h => ?_)
      · subst q
        refine Or.inr ⟨[(38, 99, 235, 105), (100, 129, 235, 105), (130, 141, 235, 105), (142, 171, 235, 105)], (172, 224, 235, 105), [(225, 234, 235, 105)], "java/lang/IllegalStateException", rfl, (fun z hz => by
            simp only [List.mem_cons, List.not_mem_nil, or_false] at hz
            rcases hz with rfl | rfl | rfl | rfl
            · exact Or.inl (by decide)
            · exact Or.inl (by decide)
            · exact Or.inl (by decide)
            · exact Or.inl (by decide)), by decide, by decide, tw_1377, by decide +kernel, fun ex => ?_⟩
        refine V_astore (i := 7) dL_acts_235 (Nat.le_of_ble_eq_true rfl) ?_
        refine V_bipush (v := -9) dL_acts_237 (by decide) ?_
        obtain rfl := Option.some.inj h
        exact V_ireturn dL_acts_239 ⟨_, rfl, rfl⟩ ⟨rfl, rfl⟩
      cases h
    · refine D_if_ge (tgt := 192) h dL_acts_184 rfl (fun b53 h => ?_) (fun b53 h => ?_)
      · refine V_aload_n (i := 0) dL_acts_192 rfl rfl ?_
        refine V_iload (i := 4) dL_acts_193 rfl ?_
        refine V_iload (i := 4) dL_acts_195 rfl ?_
        refine V_iconst (v := 1) dL_acts_197 (by decide) ?_
        refine V_iadd dL_acts_198 ?_
        refine V_iload_n (i := 3) dL_acts_199 rfl rfl ?_
        refine D_gd h fun g54 h => ?_
        refine V_irem dL_acts_200 (nz0_ok g54) ?_
        refine V_iload (i := 6) dL_acts_201 rfl ?_
        refine V_iconst (v := 3) dL_acts_203 (by decide) ?_
        refine V_irem dL_acts_204 (by decide) ?_
        refine D_jn (fun (j : Int32 → Option (Int32 × (Nat → Nat → Int32))) => ∀ (v56 : Int32) (hi : Nat), j v56 = some r → V G f (Ex G f) mL_acts (RP (.inl (some (.int r.1))) (MEM b c r.2 M)) 213 [] [.int v56, .int ((v4 + (1 : Int32)) - (v4 + (1 : Int32)) / v2 * v2), .int v4, .ref (b)] (MEM b c W M) hi 3 18) h (fun j55 hj55 h => ?_) ?_
        · refine D_if_le (tgt := 212) h dL_acts_205 rfl (fun b57 h => ?_) (fun b57 h => ?_)
          · refine V_iconst (v := 0) dL_acts_212 (by decide) ?_
            exact V_sub (ks := []) rfl (hj55 _ _ h)
          · refine V_iconst (v := 1) dL_acts_208 (by decide) ?_
            refine V_goto (tgt := 213) dL_acts_209 rfl ?_
            exact V_sub (ks := []) rfl (hj55 _ _ h)
        · intro v56 hi h
          refine D_tVIW (As := [_, _, _]) (μ := fun W58 => (MEM b c W58 M)) (k2 := 3) (n2 := 18) h dL_acts_213 cv_L_98 rfl ⟨_, _, _, (mem_x9 hc1), rfl, rfl⟩ rfl (Nat.le_of_ble_eq_true rfl) (fun x y hx => e_X9_setTrackOpen (Nat.le_trans (Nat.le_of_ble_eq_true rfl) hf) hc1 hx) (fun e W60 hi h => ?_) (fun v59 W58 hi h => ?_)
          · refine D_ite h (fun q h => ?_) (fun _ h => ?_)
            · subst q
              refine Or.inr ⟨[(38, 99, 235, 105), (100, 129, 235, 105), (130, 141, 235, 105), (142, 171, 235, 105)], (172, 224, 235, 105), [(225, 234, 235, 105)], "java/lang/IllegalStateException", rfl, (fun z hz => by
                  simp only [List.mem_cons, List.not_mem_nil, or_false] at hz
                  rcases hz with rfl | rfl | rfl | rfl
                  · exact Or.inl (by decide)
                  · exact Or.inl (by decide)
                  · exact Or.inl (by decide)
                  · exact Or.inl (by decide)), by decide, by decide, tw_1377, by decide +kernel, fun ex => ?_⟩
              refine V_astore (i := 7) dL_acts_235 (Nat.le_of_ble_eq_true rfl) ?_
              refine V_bipush (v := -9) dL_acts_237 (by decide) ?_
              obtain rfl := Option.some.inj h
              exact V_ireturn dL_acts_239 ⟨_, rfl, rfl⟩ ⟨rfl, rfl⟩
            cases h
          · refine D_if_eq (tgt := 223) h dL_acts_216 rfl (fun b61 h => ?_) (fun b61 h => ?_)
            · refine V_iconst (v := 0) dL_acts_223 (by decide) ?_
              obtain rfl := Option.some.inj h
              exact V_ireturn dL_acts_224 ⟨_, rfl, rfl⟩ ⟨rfl, rfl⟩
            · refine V_iconst (v := 1) dL_acts_219 (by decide) ?_
              refine V_goto (tgt := 224) dL_acts_220 rfl ?_
              obtain rfl := Option.some.inj h
              exact V_ireturn dL_acts_224 ⟨_, rfl, rfl⟩ ⟨rfl, rfl⟩
      · refine V_bipush (v := -9) dL_acts_187 (by decide) ?_
        refine V_goto (tgt := 224) dL_acts_189 rfl ?_
        obtain rfl := Option.some.inj h
        exact V_ireturn dL_acts_224 ⟨_, rfl, rfl⟩ ⟨rfl, rfl⟩
  refine V_tsOut (tgt := 225) h dL_acts_42 rfl fun h => ?_
  refine V_aload_n (i := 0) dL_acts_225 rfl rfl ?_
  refine V_iconst (v := 1) dL_acts_226 (by decide) ?_
  refine V_iload_n (i := 2) dL_acts_227 rfl rfl ?_
  refine V_iconst (v := 3) dL_acts_228 (by decide) ?_
  refine V_irem dL_acts_229 (by decide) ?_
  refine V_iadd dL_acts_230 ?_
  refine D_tVIW (As := [_]) (μ := fun W62 => (MEM b c W62 M)) (k2 := 1) (n2 := 6) h dL_acts_231 cv_L_102 rfl ⟨_, _, _, (mem_x9 hc1), rfl, rfl⟩ rfl (Nat.le_of_ble_eq_true rfl) (fun x y hx => e_X9_pass (Nat.le_trans (Nat.le_of_ble_eq_true rfl) hf) hc1 hx) (fun e W64 hi h => ?_) (fun v63 W62 hi h => ?_)
  · refine D_ite h (fun q h => ?_) (fun _ h => ?_)
    · subst q
      refine Or.inr ⟨[(38, 99, 235, 105), (100, 129, 235, 105), (130, 141, 235, 105), (142, 171, 235, 105), (172, 224, 235, 105)], (225, 234, 235, 105), [], "java/lang/IllegalStateException", rfl, (fun z hz => by
          simp only [List.mem_cons, List.not_mem_nil, or_false] at hz
          rcases hz with rfl | rfl | rfl | rfl | rfl
          · exact Or.inl (by decide)
          · exact Or.inl (by decide)
          · exact Or.inl (by decide)
          · exact Or.inl (by decide)
          · exact Or.inl (by decide)), by decide, by decide, tw_1377, by decide +kernel, fun ex => ?_⟩
      refine V_astore (i := 7) dL_acts_235 (Nat.le_of_ble_eq_true rfl) ?_
      refine V_bipush (v := -9) dL_acts_237 (by decide) ?_
      obtain rfl := Option.some.inj h
      exact V_ireturn dL_acts_239 ⟨_, rfl, rfl⟩ ⟨rfl, rfl⟩
    cases h
  · obtain rfl := Option.some.inj h
    exact V_ireturn dL_acts_234 ⟨_, rfl, rfl⟩ ⟨rfl, rfl⟩
noncomputable def f_L_loaded (W : Nat → Nat → Int32) : Option (Int32 × (Nat → Nat → Int32)) :=
  bt2 (f_X9_load W) (fun e W3 => if e = "java/lang/IllegalArgumentException" then some ((-9 : Int32), W3) else none) (fun v2 W1 => some (v2, W1))
theorem e_L_loaded {G : GT} {f0 : Nat} {b c : Nat} {M : MM} {hi : Nat} {W : Nat → Nat → Int32} {r : (Int32 × (Nat → Nat → Int32))} (hf0 : 11 ≤ f0) (hc1 : 609 ≤ c) (h : f_L_loaded W = some r) : Ex G f0 mL_loaded [.ref (b)] (MEM b c W M) hi 1 6 (RP (.inl (some (.int r.1))) (MEM b c r.2 M)) := by
  obtain ⟨f, rfl, hf⟩ := suc_of hf0
  unfold f_L_loaded at h
  refine ⟨Nat.le_of_ble_eq_true rfl, ?_⟩
  refine V_aload_n (i := 0) dL_loaded_0 rfl rfl ?_
  refine D_tVIW (As := []) (μ := fun W1 => (MEM b c W1 M)) (k2 := 1) (n2 := 6) h dL_loaded_1 cv_L_28 rfl ⟨_, _, _, (mem_x9 hc1), rfl, rfl⟩ rfl (Nat.le_of_ble_eq_true rfl) (fun x y hx => e_X9_load (Nat.le_trans (Nat.le_of_ble_eq_true rfl) hf) hc1 hx) (fun e W3 hi h => ?_) (fun v2 W1 hi h => ?_)
  · refine D_ite h (fun q h => ?_) (fun _ h => ?_)
    · subst q
      refine Or.inr ⟨[], (0, 4, 5, 31), [], "java/lang/IllegalArgumentException", rfl, (fun z hz => by cases hz), by decide, by decide, tw_1117, by decide +kernel, fun ex => ?_⟩
      refine V_astore_n (i := 1) dL_loaded_5 rfl (Nat.le_of_ble_eq_true rfl) ?_
      refine V_bipush (v := -9) dL_loaded_6 (by decide) ?_
      obtain rfl := Option.some.inj h
      exact V_ireturn dL_loaded_8 ⟨_, rfl, rfl⟩ ⟨rfl, rfl⟩
    cases h
  · obtain rfl := Option.some.inj h
    exact V_ireturn dL_loaded_4 ⟨_, rfl, rfl⟩ ⟨rfl, rfl⟩
