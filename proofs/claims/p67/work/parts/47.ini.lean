theorem wr_mset {p a : Nat} {S : Nat → Int32} {M : MM} {e : va_E} (h : a < p ∨ p + 46 ≤ a) : wr p S (mset M a e) = mset (wr p S M) a e := by
  funext q
  show (if p ≤ q ∧ q < p + 46 then some (stc p S (q - p)) else if q = a then some e else M q) = if q = a then some e else (if p ≤ q ∧ q < p + 46 then some (stc p S (q - p)) else M q)
  by_cases h1 : p ≤ q ∧ q < p + 46
  · rw [if_pos h1, if_neg (by omega), if_pos h1]
  · rw [if_neg h1, if_neg h1]
section Init
variable {G : GT} {f0 f : Nat} {M : MM} {hi k n p i b c : Nat} {P0 : PS}
theorem e_X6_init {a : Nat} (hf0 : 2 ≤ f0) (ha : a < hi) : Ex G f0 mX6_init [.ref a] (mset M a (.inr (6, [.null, .int 0, .int 0, .int 0, .int 0]))) hi 1 600 (RH (.inl none) (mset (mset M hi (.inl (0, 600, .inl (fun _ => (0 : Int32))))) a (.inr (6, [.ref hi, .int 0, .int 0, .int 0, .int 0]))) (hi + 1)) := by
  obtain ⟨f, rfl, hf⟩ := suc_of hf0
  refine ⟨Nat.le_of_ble_eq_true rfl, ?_⟩
  refine V_aload_n (i := 0) dX6_init_0 rfl rfl ?_
  refine V_objInit dX6_init_1 tw_270 (Nat.le_of_ble_eq_true rfl) hf ?_
  refine V_aload_n (i := 0) dX6_init_4 rfl rfl ?_
  refine V_sipush (v := 600) dX6_init_5 (by decide) ?_
  refine V_newarray (aty := .byte) (N0 := 600) (len := 600) (k := 0) (n := 0) (t := 0) (x := (600, .inl (fun _ => (0 : Int32)))) dX6_init_8 tw_291 rfl (by decide) (fun _ => rfl) (by decide) (by decide) (by decide) ?_
  refine V_mem (mset_comm (by omega)) ?_
  refine V_putfield dX6_init_10 mset_eq (fp_X6_9 rfl rfl) rfl rfl (Nat.le_of_ble_eq_true rfl) ?_
  refine V_mem mset_mset ?_
  exact V_return dX6_init_13 rfl ⟨rfl, rfl, rfl⟩
theorem e_X1_init {a : Nat} (hf0 : 2 ≤ f0) (ha : a < hi) : Ex G f0 mX1_init [.ref a] (mset M a (.inr (1, [.null, .int 0]))) hi 1 71 (RH (.inl none) (mset (mset M hi (.inl (0, 71, .inl (fun _ => (0 : Int32))))) a (.inr (1, [.ref hi, .int 0]))) (hi + 1)) := by
  obtain ⟨f, rfl, hf⟩ := suc_of hf0
  refine ⟨Nat.le_of_ble_eq_true rfl, ?_⟩
  refine V_aload_n (i := 0) dX1_init_0 rfl rfl ?_
  refine V_objInit dX1_init_1 tw_355 (Nat.le_of_ble_eq_true rfl) hf ?_
  refine V_aload_n (i := 0) dX1_init_4 rfl rfl ?_
  refine V_bipush (v := 71) dX1_init_5 (by decide) ?_
  refine V_newarray (aty := .byte) (N0 := 71) (len := 71) (k := 0) (n := 0) (t := 0) (x := (71, .inl (fun _ => (0 : Int32)))) dX1_init_7 tw_291 rfl (by decide) (fun _ => rfl) (by decide) (by decide) (by decide) ?_
  refine V_mem (mset_comm (by omega)) ?_
  refine V_putfield dX1_init_9 mset_eq (fp_X1_9 rfl rfl) rfl rfl (Nat.le_of_ble_eq_true rfl) ?_
  refine V_mem mset_mset ?_
  exact V_return dX1_init_12 rfl ⟨rfl, rfl, rfl⟩
def PRS (p : Nat) (M : MM) : MM := mset (mset (wr (p + 3) (fun _ => (0 : Int32)) (mset (mset M (p + 2) (.inl (0, 600, .inl (fun _ => (0 : Int32))))) (p + 1) (.inr (6, [.ref (p + 2), .int 0, .int 0, .int 0, .int 0])))) (p + 49) (.inl (1, 6, .inl (fun _ => (0 : Int32))))) p (.inr (3, [.ref (p + 1), .ref (p + 3), .int 0, .int (-1), .int 0, .int 0, .int 0, .int 0, .int 0, .ref (p + 49), .int 0]))
theorem e_X3_init (hf0 : 4 ≤ f0) : Ex G f0 mX3_init [.ref p] (mset M p (.inr (3, [.null, .null, .int 0, .int 0, .int 0, .int 0, .int 0, .int 0, .int 0, .null, .int 0]))) (p + 1) 49 987 (RH (.inl none) (PRS p M) (p + 50)) := by
  obtain ⟨f, rfl, hf⟩ := suc_of hf0
  refine ⟨Nat.le_of_ble_eq_true rfl, ?_⟩
  refine V_aload_n (i := 0) dX3_init_0 rfl rfl ?_
  refine V_objInit dX3_init_1 tw_264 (Nat.le_of_ble_eq_true rfl) (Nat.le_trans (Nat.le_of_ble_eq_true rfl) hf) ?_
  refine V_aload_n (i := 0) dX3_init_4 rfl rfl ?_
  refine V_new (N0 := 5) (k := 48) (n := 982) dX3_init_5 nw_X3_9 ?_
  refine V_dup dX3_init_8 rfl ?_
  refine V_callN (As := []) (k := 47) (n := 382) (k2 := 1) (n2 := 600) dX3_init_9 cn_X3_11 rfl rfl (Nat.le_of_ble_eq_true rfl) (e_X6_init (Nat.le_trans (Nat.le_of_ble_eq_true rfl) hf) (by omega)) (fun v M2 hi2 hp => ?_) (fun E M2 hi2 hp => by obtain ⟨h1, -⟩ := hp; cases h1)
  obtain ⟨h1, rfl, rfl⟩ := hp
  cases h1
  refine V_mem (show _ = mset (mset (mset M (p + 2) (.inl (0, 600, .inl (fun _ => (0 : Int32))))) (p + 1) (.inr (6, [.ref (p + 2), .int 0, .int 0, .int 0, .int 0]))) p (.inr (3, [.null, .null, .int 0, .int 0, .int 0, .int 0, .int 0, .int 0, .int 0, .null, .int 0])) from ?_) ?_
  · show mset (mset (mset M p (.inr (3, [.null, .null, .int 0, .int 0, .int 0, .int 0, .int 0, .int 0, .int 0, .null, .int 0]))) (p + 2) (.inl (0, 600, .inl (fun _ => (0 : Int32))))) (p + 1) (.inr (6, [.ref (p + 2), .int 0, .int 0, .int 0, .int 0])) = _
    rw [mset_comm (M := M) (a := p) (q := p + 2) (by omega), mset_comm (a := p) (q := p + 1) (by omega)]
  refine V_putfield dX3_init_12 mset_eq (fp_X3_12 rfl rfl) rfl rfl (Nat.le_of_ble_eq_true rfl) ?_
  refine V_mem mset_mset ?_
  refine V_aload_n (i := 0) dX3_init_15 rfl rfl ?_
  refine V_new (N0 := 12) (k := 46) (n := 370) dX3_init_16 nw_X3_18 ?_
  refine V_dup dX3_init_19 rfl ?_
  refine V_callI (As := []) (k := 1) (n := 6) (k2 := 45) (n2 := 364) dX3_init_20 ci_X3_20 rfl rfl (Nat.le_of_ble_eq_true rfl) (e_X4_init (p := p + 3) (Nat.le_trans (Nat.le_of_ble_eq_true rfl) hf)) (fun v M2 hi2 hp => ?_) (fun E M2 hi2 hp => by obtain ⟨h1, -⟩ := hp; cases h1)
  obtain ⟨h1, rfl, rfl⟩ := hp
  cases h1
  refine V_mem (wr_mset (by omega)) ?_
  refine V_putfield dX3_init_23 mset_eq (fp_X3_21 rfl rfl) rfl rfl (Nat.le_of_ble_eq_true rfl) ?_
  refine V_mem mset_mset ?_
  refine V_aload_n (i := 0) dX3_init_26 rfl rfl ?_
  refine V_iconst (v := -1) dX3_init_27 (by decide) ?_
  refine V_putfield dX3_init_28 mset_eq (fp_X3_25 rfl) rfl rfl (Nat.le_of_ble_eq_true rfl) ?_
  refine V_mem mset_mset ?_
  refine V_aload_n (i := 0) dX3_init_31 rfl rfl ?_
  refine V_bipush (v := 6) dX3_init_32 (by decide) ?_
  refine V_newarray (aty := .int) (N0 := 6) (len := 6) (k := 0) (n := 0) (t := 1) (x := (6, .inl (fun _ => (0 : Int32)))) dX3_init_34 tw_77 rfl (by decide) (fun _ => rfl) (by decide) (by decide) (by decide) ?_
  refine V_mem (mset_comm (by omega)) ?_
  refine V_putfield dX3_init_36 mset_eq (fp_X3_29 rfl rfl) rfl rfl (Nat.le_of_ble_eq_true rfl) ?_
  refine V_mem mset_mset ?_
  exact V_return dX3_init_39 rfl ⟨rfl, rfl, rfl⟩
theorem it_hs {B : MM} (hf : 3 ≤ f) (h : i < 8) (kk : V G f (Ex G f) mX0_init P0 15 [(0, .ref p), (1, .int (nI (i + 1)))] [] (mset (mset (wr (p + 2 + 46 * i) (fun _ => (0 : Int32)) B) (p + 1) (AR 5 8 (i + 1) (fun q => p + 2 + 46 * q))) p (.inr (0, [.ref (p + 1), .int 0, .int 0]))) (p + 2 + 46 * (i + 1)) k n) : V G f (Ex G f) mX0_init P0 15 [(0, .ref p), (1, .int (nI i))] [] (mset (mset B (p + 1) (AR 5 8 i (fun q => p + 2 + 46 * q))) p (.inr (0, [.ref (p + 1), .int 0, .int 0]))) (p + 2 + 46 * i) (k + 46) (n + 376) := by
  refine V_iload_n (i := 1) dX0_init_15 rfl rfl ?_
  refine V_aload_n (i := 0) dX0_init_16 rfl rfl ?_
  refine V_getfield dX0_init_17 mset_eq fl_X0_11 rfl ?_
  refine V_alen (t := 5) (v := nI 8) dX0_init_20 ((mset_ne (by omega)).trans mset_eq) (by decide) rfl ?_
  refine V_icmp_ge (tgt := 43) dX0_init_21 rfl (fun q => absurd q (nI_nge h (by decide))) (fun _ => ?_)
  refine V_aload_n (i := 0) dX0_init_24 rfl rfl ?_
  refine V_getfield dX0_init_25 mset_eq fl_X0_11 rfl ?_
  refine V_iload_n (i := 1) dX0_init_28 rfl rfl ?_
  refine V_new (N0 := 12) (k := k + 45) (n := n + 364) dX0_init_29 nw_X0_9 ?_
  refine V_dup dX0_init_32 rfl ?_
  refine V_callI (As := []) (k2 := 45) (n2 := 364) dX0_init_33 ci_X0_17 rfl rfl (Nat.le_of_ble_eq_true rfl) (e_X4_init (p := p + 2 + 46 * i) hf) (fun v M2 hi2 hp => ?_) (fun E M2 hi2 hp => by obtain ⟨h1, -⟩ := hp; cases h1)
  obtain ⟨h1, rfl, rfl⟩ := hp
  cases h1
  refine V_mem ((wr_mset (by omega)).trans (congrArg (fun z => mset z p _) (wr_mset (by omega)))) ?_
  refine V_aastore (t := 5) (n0 := 8) (g := refs i (fun q => p + 2 + 46 * q)) (r := _) dX0_init_36 ((mset_ne (by omega)).trans mset_eq) rfl (by decide) (vp_in_nI h (by decide)) ((mset_ne (by omega)).trans ((mset_ne (by omega)).trans (wr_at (j := 0) (by omega)))) rfl ?_
  rw [nI_clamp (by omega), refs_ue (g := fun q => p + 2 + 46 * q) rfl]
  refine V_mem ((mset_comm (by omega)).trans (congrArg (fun z => mset z p _) mset_mset)) ?_
  refine V_iinc (i := 1) dX0_init_37 rfl (nI_1 i) (Nat.le_of_ble_eq_true rfl) ?_
  refine V_goto (tgt := 15) dX0_init_40 rfl ?_
  exact V_sub (ks := [1, 0]) rfl kk
theorem it_sl {B : MM} (hf : 3 ≤ f) (h : i < 2) (kk : V G f (Ex G f) mX9_init P0 76 [(0, .ref p), (1, .int (nI (i + 1)))] [] (mset (mset (wr (p + 517 + 46 * i) (fun _ => (0 : Int32)) B) (p + 515) (AR 5 2 (i + 1) (fun q => p + 517 + 46 * q))) p (.inr (9, [.ref (p + 1), .ref (p + 47), .ref (p + 93), .ref (p + 143), .ref (p + 513), .ref (p + 515), .ref (p + 516)]))) (p + 517 + 46 * (i + 1)) k n) : V G f (Ex G f) mX9_init P0 76 [(0, .ref p), (1, .int (nI i))] [] (mset (mset B (p + 515) (AR 5 2 i (fun q => p + 517 + 46 * q))) p (.inr (9, [.ref (p + 1), .ref (p + 47), .ref (p + 93), .ref (p + 143), .ref (p + 513), .ref (p + 515), .ref (p + 516)]))) (p + 517 + 46 * i) (k + 46) (n + 376) := by
  refine V_iload_n (i := 1) dX9_init_76 rfl rfl ?_
  refine V_aload_n (i := 0) dX9_init_77 rfl rfl ?_
  refine V_getfield dX9_init_78 mset_eq fl_X9_40 rfl ?_
  refine V_alen (t := 5) (v := nI 2) dX9_init_81 ((mset_ne (by omega)).trans mset_eq) (by decide) rfl ?_
  refine V_icmp_ge (tgt := 104) dX9_init_82 rfl (fun q => absurd q (nI_nge h (by decide))) (fun _ => ?_)
  refine V_aload_n (i := 0) dX9_init_85 rfl rfl ?_
  refine V_getfield dX9_init_86 mset_eq fl_X9_40 rfl ?_
  refine V_iload_n (i := 1) dX9_init_89 rfl rfl ?_
  refine V_new (N0 := 12) (k := k + 45) (n := n + 364) dX9_init_90 nw_X9_7 ?_
  refine V_dup dX9_init_93 rfl ?_
  refine V_callI (As := []) (k2 := 45) (n2 := 364) dX9_init_94 ci_X9_9 rfl rfl (Nat.le_of_ble_eq_true rfl) (e_X4_init (p := p + 517 + 46 * i) hf) (fun v M2 hi2 hp => ?_) (fun E M2 hi2 hp => by obtain ⟨h1, -⟩ := hp; cases h1)
  obtain ⟨h1, rfl, rfl⟩ := hp
  cases h1
  refine V_mem ((wr_mset (by omega)).trans (congrArg (fun z => mset z p _) (wr_mset (by omega)))) ?_
  refine V_aastore (t := 5) (n0 := 2) (g := refs i (fun q => p + 517 + 46 * q)) (r := _) dX9_init_97 ((mset_ne (by omega)).trans mset_eq) rfl (by decide) (vp_in_nI h (by decide)) ((mset_ne (by omega)).trans ((mset_ne (by omega)).trans (wr_at (j := 0) (by omega)))) rfl ?_
  rw [nI_clamp (by omega), refs_ue (g := fun q => p + 517 + 46 * q) rfl]
  refine V_mem ((mset_comm (by omega)).trans (congrArg (fun z => mset z p _) mset_mset)) ?_
  refine V_iinc (i := 1) dX9_init_98 rfl (nI_1 i) (Nat.le_of_ble_eq_true rfl) ?_
  refine V_goto (tgt := 76) dX9_init_101 rfl ?_
  exact V_sub (ks := [1, 0]) rfl kk
def HIS (p : Nat) (M : MM) : MM := mset (mset (wr (p + 2 + 46 * 7) (fun _ => (0 : Int32)) (wr (p + 2 + 46 * 6) (fun _ => (0 : Int32)) (wr (p + 2 + 46 * 5) (fun _ => (0 : Int32)) (wr (p + 2 + 46 * 4) (fun _ => (0 : Int32)) (wr (p + 2 + 46 * 3) (fun _ => (0 : Int32)) (wr (p + 2 + 46 * 2) (fun _ => (0 : Int32)) (wr (p + 2 + 46 * 1) (fun _ => (0 : Int32)) (wr (p + 2 + 46 * 0) (fun _ => (0 : Int32)) M)))))))) (p + 1) (AR 5 8 8 (fun q => p + 2 + 46 * q))) p (.inr (0, [.ref (p + 1), .int 0, .int 0]))
theorem e_X0_init (hf0 : 4 ≤ f0) : Ex G f0 mX0_init [.ref p] (mset M p (.inr (0, [.null, .int 0, .int 0]))) (p + 1) 369 3016 (RH (.inl none) (HIS p M) (p + 370)) := by
  obtain ⟨f, rfl, hf⟩ := suc_of hf0
  refine ⟨Nat.le_of_ble_eq_true rfl, ?_⟩
  refine V_aload_n (i := 0) dX0_init_0 rfl rfl ?_
  refine V_objInit dX0_init_1 tw_336 (Nat.le_of_ble_eq_true rfl) (Nat.le_trans (Nat.le_of_ble_eq_true rfl) hf) ?_
  refine V_aload_n (i := 0) dX0_init_4 rfl rfl ?_
  refine V_bipush (v := 8) dX0_init_5 (by decide) ?_
  refine V_anew (N0 := 8) (len := 8) (k := 368) (n := 3008) (t := 5) (CC := RX4) dX0_init_7 tw_337 (by decide +kernel) rfl (by decide) (by decide) (by decide) (by decide) ?_
  refine V_mem (mset_comm (by omega)) ?_
  refine V_putfield dX0_init_10 mset_eq (fp_X0_11 rfl rfl) rfl rfl (Nat.le_of_ble_eq_true rfl) ?_
  refine V_mem mset_mset ?_
  refine V_mem (show _ = mset (mset M (p + 1) (AR 5 8 0 (fun q => p + 2 + 46 * q))) p (.inr (0, [.ref (p + 1), .int 0, .int 0])) by unfold AR; rw [refs_0]; rfl) ?_
  refine V_iconst (v := 0) dX0_init_13 (by decide) ?_
  refine V_istore_n (i := 1) dX0_init_14 rfl (Nat.le_of_ble_eq_true rfl) ?_
  refine V_sub (ks := [1, 0]) (lv2 := [(0, .ref p), (1, .int (nI 0))]) rfl ?_
  refine it_hs (i := 0) (k := 322) (n := 2632) hf (by decide) ?_
  refine it_hs (i := 1) (k := 276) (n := 2256) hf (by decide) ?_
  refine it_hs (i := 2) (k := 230) (n := 1880) hf (by decide) ?_
  refine it_hs (i := 3) (k := 184) (n := 1504) hf (by decide) ?_
  refine it_hs (i := 4) (k := 138) (n := 1128) hf (by decide) ?_
  refine it_hs (i := 5) (k := 92) (n := 752) hf (by decide) ?_
  refine it_hs (i := 6) (k := 46) (n := 376) hf (by decide) ?_
  refine it_hs (i := 7) (k := 0) (n := 0) hf (by decide) ?_
  refine V_iload_n (i := 1) dX0_init_15 rfl rfl ?_
  refine V_aload_n (i := 0) dX0_init_16 rfl rfl ?_
  refine V_getfield dX0_init_17 mset_eq fl_X0_11 rfl ?_
  refine V_alen (t := 5) (v := nI 8) dX0_init_20 ((mset_ne (by omega)).trans mset_eq) (by decide) rfl ?_
  refine V_icmp_ge (tgt := 43) dX0_init_21 rfl (fun _ => ?_) (fun q => absurd (nI_le (Nat.le_refl 8) (by decide)) q)
  exact V_return dX0_init_43 rfl ⟨rfl, rfl, rfl⟩
def W00 : Nat → Nat → Int32 := fun u k => if u = 13 ∧ k = 1 then -1 else 0
def OUT (p : Nat) (M : MM) : MM := mset (mset M (p + 1) (.inl (0, 71, .inl (fun _ => (0 : Int32))))) p (.inr (1, [.ref (p + 1), .int 0]))
theorem W00_Z {u : Nat} (h : u ≠ 13) : W00 u = (fun _ => (0 : Int32)) := by
  funext k
  unfold W00
  rw [if_neg (fun q => h q.1)]
theorem ini_mem : mset (mset (wr (p + 517 + 46 * 1) (fun _ => (0 : Int32)) (wr (p + 517 + 46 * 0) (fun _ => (0 : Int32)) (mset (OUT (p + 513) (HIS (p + 143) (PRS (p + 93) (wr (p + 47) (fun _ => (0 : Int32)) (wr (p + 1) (fun _ => (0 : Int32)) M))))) (p + 516) (.inl (2, 2, .inl (fun _ => (0 : Int32))))))) (p + 515) (AR 5 2 2 (fun q => p + 517 + 46 * q))) p (.inr (9, [.ref (p + 1), .ref (p + 47), .ref (p + 93), .ref (p + 143), .ref (p + 513), .ref (p + 515), .ref (p + 516)])) = MEM p 609 W00 M := by
  unfold OUT HIS PRS
  funext a
  by_cases o1 : a < p
  · rw [mset_ne (by omega), mset_ne (by omega), wr_out (by omega), wr_out (by omega), mset_ne (by omega), mset_ne (by omega), mset_ne (by omega), mset_ne (by omega), mset_ne (by omega), wr_out (by omega), wr_out (by omega), wr_out (by omega), wr_out (by omega), wr_out (by omega), wr_out (by omega), wr_out (by omega), wr_out (by omega), mset_ne (by omega), mset_ne (by omega), wr_out (by omega), mset_ne (by omega), mset_ne (by omega), wr_out (by omega), wr_out (by omega)]
    unfold MEM
    rw [if_neg (by omega)]
  by_cases c0 : a = p
  · rw [c0, mset_eq]
    exact (mem_x9 (b := p) (c := 609) (W := W00) (M := M) (Nat.le_refl _)).symm
  by_cases c1 : a < p + 47
  · obtain ⟨j, hj, rfl⟩ : ∃ j, j < 46 ∧ a = p + 1 + j := ⟨a - (p + 1), by omega, by omega⟩
    rw [mset_ne (by omega), mset_ne (by omega), wr_out (by omega), wr_out (by omega), mset_ne (by omega), mset_ne (by omega), mset_ne (by omega), mset_ne (by omega), mset_ne (by omega), wr_out (by omega), wr_out (by omega), wr_out (by omega), wr_out (by omega), wr_out (by omega), wr_out (by omega), wr_out (by omega), wr_out (by omega), mset_ne (by omega), mset_ne (by omega), wr_out (by omega), mset_ne (by omega), mset_ne (by omega), wr_out (by omega), wr_at hj]
    have e := congrFun (mst (b := p) (c := 609) (W := W00) (M := M) (u := 0) (p := p + 1) (Nat.le_refl _) (by decide) (by unfold PA; simp; try omega)) (p + 1 + j)
    rw [e, wr_at hj, W00_Z (by decide)]
  by_cases c47 : a < p + 93
  · obtain ⟨j, hj, rfl⟩ : ∃ j, j < 46 ∧ a = p + 47 + j := ⟨a - (p + 47), by omega, by omega⟩
    rw [mset_ne (by omega), mset_ne (by omega), wr_out (by omega), wr_out (by omega), mset_ne (by omega), mset_ne (by omega), mset_ne (by omega), mset_ne (by omega), mset_ne (by omega), wr_out (by omega), wr_out (by omega), wr_out (by omega), wr_out (by omega), wr_out (by omega), wr_out (by omega), wr_out (by omega), wr_out (by omega), mset_ne (by omega), mset_ne (by omega), wr_out (by omega), mset_ne (by omega), mset_ne (by omega), wr_at hj]
    have e := congrFun (mst (b := p) (c := 609) (W := W00) (M := M) (u := 1) (p := p + 47) (Nat.le_refl _) (by decide) (by unfold PA; simp; try omega)) (p + 47 + j)
    rw [e, wr_at hj, W00_Z (by decide)]
  by_cases c93 : a = p + 93
  · rw [mset_ne (by omega), mset_ne (by omega), wr_out (by omega), wr_out (by omega), mset_ne (by omega), mset_ne (by omega), mset_ne (by omega), mset_ne (by omega), mset_ne (by omega), wr_out (by omega), wr_out (by omega), wr_out (by omega), wr_out (by omega), wr_out (by omega), wr_out (by omega), wr_out (by omega), wr_out (by omega), c93, mset_eq]
    exact (mem_13 (b := p) (c := 609) (W := W00) (M := M) (Nat.le_refl _)).symm
  by_cases c94 : a = p + 94
  · rw [mset_ne (by omega), mset_ne (by omega), wr_out (by omega), wr_out (by omega), mset_ne (by omega), mset_ne (by omega), mset_ne (by omega), mset_ne (by omega), mset_ne (by omega), wr_out (by omega), wr_out (by omega), wr_out (by omega), wr_out (by omega), wr_out (by omega), wr_out (by omega), wr_out (by omega), wr_out (by omega), mset_ne (by omega), mset_ne (by omega), wr_out (by omega), c94, mset_eq]
    exact (mem_15 (b := p) (c := 609) (W := W00) (M := M) (Nat.le_refl _)).symm
  by_cases c95 : a = p + 95
  · rw [mset_ne (by omega), mset_ne (by omega), wr_out (by omega), wr_out (by omega), mset_ne (by omega), mset_ne (by omega), mset_ne (by omega), mset_ne (by omega), mset_ne (by omega), wr_out (by omega), wr_out (by omega), wr_out (by omega), wr_out (by omega), wr_out (by omega), wr_out (by omega), wr_out (by omega), wr_out (by omega), mset_ne (by omega), mset_ne (by omega), wr_out (by omega), mset_ne (by omega), c95, mset_eq]
    rw [mem_16 (b := p) (c := 609) (W := W00) (M := M) (Nat.le_refl _), W00_Z (u := 16) (by decide), ints_Z]
  by_cases c96 : a < p + 142
  · obtain ⟨j, hj, rfl⟩ : ∃ j, j < 46 ∧ a = p + 93 + 3 + j := ⟨a - (p + 93 + 3), by omega, by omega⟩
    rw [mset_ne (by omega), mset_ne (by omega), wr_out (by omega), wr_out (by omega), mset_ne (by omega), mset_ne (by omega), mset_ne (by omega), mset_ne (by omega), mset_ne (by omega), wr_out (by omega), wr_out (by omega), wr_out (by omega), wr_out (by omega), wr_out (by omega), wr_out (by omega), wr_out (by omega), wr_out (by omega), mset_ne (by omega), mset_ne (by omega), wr_at hj]
    have e := congrFun (mst (b := p) (c := 609) (W := W00) (M := M) (u := 2) (p := p + 93 + 3) (Nat.le_refl _) (by decide) (by unfold PA; simp; try omega)) (p + 93 + 3 + j)
    rw [e, wr_at hj, W00_Z (by decide)]
  by_cases c142 : a = p + 142
  · rw [mset_ne (by omega), mset_ne (by omega), wr_out (by omega), wr_out (by omega), mset_ne (by omega), mset_ne (by omega), mset_ne (by omega), mset_ne (by omega), mset_ne (by omega), wr_out (by omega), wr_out (by omega), wr_out (by omega), wr_out (by omega), wr_out (by omega), wr_out (by omega), wr_out (by omega), wr_out (by omega), mset_ne (by omega), c142, mset_eq]
    rw [mem_14 (b := p) (c := 609) (W := W00) (M := M) (Nat.le_refl _), W00_Z (u := 14) (by decide), ints_Z]
  by_cases c143 : a = p + 143
  · rw [mset_ne (by omega), mset_ne (by omega), wr_out (by omega), wr_out (by omega), mset_ne (by omega), mset_ne (by omega), mset_ne (by omega), c143, mset_eq]
    exact (mem_17 (b := p) (c := 609) (W := W00) (M := M) (Nat.le_refl _)).symm
  by_cases c144 : a = p + 144
  · rw [mset_ne (by omega), mset_ne (by omega), wr_out (by omega), wr_out (by omega), mset_ne (by omega), mset_ne (by omega), mset_ne (by omega), mset_ne (by omega), c144, mset_eq]
    exact (mem_hs (b := p) (c := 609) (W := W00) (M := M) (Nat.le_refl _)).symm
  by_cases c145 : a < p + 191
  · obtain ⟨j, hj, rfl⟩ : ∃ j, j < 46 ∧ a = p + 143 + 2 + 46 * 0 + j := ⟨a - (p + 143 + 2 + 46 * 0), by omega, by omega⟩
    rw [mset_ne (by omega), mset_ne (by omega), wr_out (by omega), wr_out (by omega), mset_ne (by omega), mset_ne (by omega), mset_ne (by omega), mset_ne (by omega), mset_ne (by omega), wr_out (by omega), wr_out (by omega), wr_out (by omega), wr_out (by omega), wr_out (by omega), wr_out (by omega), wr_out (by omega), wr_at hj]
    have e := congrFun (mst (b := p) (c := 609) (W := W00) (M := M) (u := 3) (p := p + 143 + 2 + 46 * 0) (Nat.le_refl _) (by decide) (by unfold PA; simp; try omega)) (p + 143 + 2 + 46 * 0 + j)
    rw [e, wr_at hj, W00_Z (by decide)]
  by_cases c191 : a < p + 237
  · obtain ⟨j, hj, rfl⟩ : ∃ j, j < 46 ∧ a = p + 143 + 2 + 46 * 1 + j := ⟨a - (p + 143 + 2 + 46 * 1), by omega, by omega⟩
    rw [mset_ne (by omega), mset_ne (by omega), wr_out (by omega), wr_out (by omega), mset_ne (by omega), mset_ne (by omega), mset_ne (by omega), mset_ne (by omega), mset_ne (by omega), wr_out (by omega), wr_out (by omega), wr_out (by omega), wr_out (by omega), wr_out (by omega), wr_out (by omega), wr_at hj]
    have e := congrFun (mst (b := p) (c := 609) (W := W00) (M := M) (u := 4) (p := p + 143 + 2 + 46 * 1) (Nat.le_refl _) (by decide) (by unfold PA; simp; try omega)) (p + 143 + 2 + 46 * 1 + j)
    rw [e, wr_at hj, W00_Z (by decide)]
  by_cases c237 : a < p + 283
  · obtain ⟨j, hj, rfl⟩ : ∃ j, j < 46 ∧ a = p + 143 + 2 + 46 * 2 + j := ⟨a - (p + 143 + 2 + 46 * 2), by omega, by omega⟩
    rw [mset_ne (by omega), mset_ne (by omega), wr_out (by omega), wr_out (by omega), mset_ne (by omega), mset_ne (by omega), mset_ne (by omega), mset_ne (by omega), mset_ne (by omega), wr_out (by omega), wr_out (by omega), wr_out (by omega), wr_out (by omega), wr_out (by omega), wr_at hj]
    have e := congrFun (mst (b := p) (c := 609) (W := W00) (M := M) (u := 5) (p := p + 143 + 2 + 46 * 2) (Nat.le_refl _) (by decide) (by unfold PA; simp; try omega)) (p + 143 + 2 + 46 * 2 + j)
    rw [e, wr_at hj, W00_Z (by decide)]
  by_cases c283 : a < p + 329
  · obtain ⟨j, hj, rfl⟩ : ∃ j, j < 46 ∧ a = p + 143 + 2 + 46 * 3 + j := ⟨a - (p + 143 + 2 + 46 * 3), by omega, by omega⟩
    rw [mset_ne (by omega), mset_ne (by omega), wr_out (by omega), wr_out (by omega), mset_ne (by omega), mset_ne (by omega), mset_ne (by omega), mset_ne (by omega), mset_ne (by omega), wr_out (by omega), wr_out (by omega), wr_out (by omega), wr_out (by omega), wr_at hj]
    have e := congrFun (mst (b := p) (c := 609) (W := W00) (M := M) (u := 6) (p := p + 143 + 2 + 46 * 3) (Nat.le_refl _) (by decide) (by unfold PA; simp; try omega)) (p + 143 + 2 + 46 * 3 + j)
    rw [e, wr_at hj, W00_Z (by decide)]
  by_cases c329 : a < p + 375
  · obtain ⟨j, hj, rfl⟩ : ∃ j, j < 46 ∧ a = p + 143 + 2 + 46 * 4 + j := ⟨a - (p + 143 + 2 + 46 * 4), by omega, by omega⟩
    rw [mset_ne (by omega), mset_ne (by omega), wr_out (by omega), wr_out (by omega), mset_ne (by omega), mset_ne (by omega), mset_ne (by omega), mset_ne (by omega), mset_ne (by omega), wr_out (by omega), wr_out (by omega), wr_out (by omega), wr_at hj]
    have e := congrFun (mst (b := p) (c := 609) (W := W00) (M := M) (u := 7) (p := p + 143 + 2 + 46 * 4) (Nat.le_refl _) (by decide) (by unfold PA; simp; try omega)) (p + 143 + 2 + 46 * 4 + j)
    rw [e, wr_at hj, W00_Z (by decide)]
  by_cases c375 : a < p + 421
  · obtain ⟨j, hj, rfl⟩ : ∃ j, j < 46 ∧ a = p + 143 + 2 + 46 * 5 + j := ⟨a - (p + 143 + 2 + 46 * 5), by omega, by omega⟩
    rw [mset_ne (by omega), mset_ne (by omega), wr_out (by omega), wr_out (by omega), mset_ne (by omega), mset_ne (by omega), mset_ne (by omega), mset_ne (by omega), mset_ne (by omega), wr_out (by omega), wr_out (by omega), wr_at hj]
    have e := congrFun (mst (b := p) (c := 609) (W := W00) (M := M) (u := 8) (p := p + 143 + 2 + 46 * 5) (Nat.le_refl _) (by decide) (by unfold PA; simp; try omega)) (p + 143 + 2 + 46 * 5 + j)
    rw [e, wr_at hj, W00_Z (by decide)]
  by_cases c421 : a < p + 467
  · obtain ⟨j, hj, rfl⟩ : ∃ j, j < 46 ∧ a = p + 143 + 2 + 46 * 6 + j := ⟨a - (p + 143 + 2 + 46 * 6), by omega, by omega⟩
    rw [mset_ne (by omega), mset_ne (by omega), wr_out (by omega), wr_out (by omega), mset_ne (by omega), mset_ne (by omega), mset_ne (by omega), mset_ne (by omega), mset_ne (by omega), wr_out (by omega), wr_at hj]
    have e := congrFun (mst (b := p) (c := 609) (W := W00) (M := M) (u := 9) (p := p + 143 + 2 + 46 * 6) (Nat.le_refl _) (by decide) (by unfold PA; simp; try omega)) (p + 143 + 2 + 46 * 6 + j)
    rw [e, wr_at hj, W00_Z (by decide)]
  by_cases c467 : a < p + 513
  · obtain ⟨j, hj, rfl⟩ : ∃ j, j < 46 ∧ a = p + 143 + 2 + 46 * 7 + j := ⟨a - (p + 143 + 2 + 46 * 7), by omega, by omega⟩
    rw [mset_ne (by omega), mset_ne (by omega), wr_out (by omega), wr_out (by omega), mset_ne (by omega), mset_ne (by omega), mset_ne (by omega), mset_ne (by omega), mset_ne (by omega), wr_at hj]
    have e := congrFun (mst (b := p) (c := 609) (W := W00) (M := M) (u := 10) (p := p + 143 + 2 + 46 * 7) (Nat.le_refl _) (by decide) (by unfold PA; simp; try omega)) (p + 143 + 2 + 46 * 7 + j)
    rw [e, wr_at hj, W00_Z (by decide)]
  by_cases c513 : a = p + 513
  · rw [mset_ne (by omega), mset_ne (by omega), wr_out (by omega), wr_out (by omega), mset_ne (by omega), c513, mset_eq]
    exact (mem_18 (b := p) (c := 609) (W := W00) (M := M) (Nat.le_refl _)).symm
  by_cases c514 : a = p + 514
  · rw [mset_ne (by omega), mset_ne (by omega), wr_out (by omega), wr_out (by omega), mset_ne (by omega), mset_ne (by omega), c514, mset_eq]
    rw [mem_19 (b := p) (c := 609) (W := W00) (M := M) (Nat.le_refl _), W00_Z (u := 19) (by decide), ints_Z]
  by_cases c515 : a = p + 515
  · rw [mset_ne (by omega), c515, mset_eq]
    exact (mem_sl (b := p) (c := 609) (W := W00) (M := M) (Nat.le_refl _)).symm
  by_cases c516 : a = p + 516
  · rw [mset_ne (by omega), mset_ne (by omega), wr_out (by omega), wr_out (by omega), c516, mset_eq]
    rw [mem_20 (b := p) (c := 609) (W := W00) (M := M) (Nat.le_refl _), W00_Z (u := 20) (by decide), ints_Z]
  by_cases c517 : a < p + 563
  · obtain ⟨j, hj, rfl⟩ : ∃ j, j < 46 ∧ a = p + 517 + 46 * 0 + j := ⟨a - (p + 517 + 46 * 0), by omega, by omega⟩
    rw [mset_ne (by omega), mset_ne (by omega), wr_out (by omega), wr_at hj]
    have e := congrFun (mst (b := p) (c := 609) (W := W00) (M := M) (u := 11) (p := p + 517 + 46 * 0) (Nat.le_refl _) (by decide) (by unfold PA; simp; try omega)) (p + 517 + 46 * 0 + j)
    rw [e, wr_at hj, W00_Z (by decide)]
  by_cases c563 : a < p + 609
  · obtain ⟨j, hj, rfl⟩ : ∃ j, j < 46 ∧ a = p + 517 + 46 * 1 + j := ⟨a - (p + 517 + 46 * 1), by omega, by omega⟩
    rw [mset_ne (by omega), mset_ne (by omega), wr_at hj]
    have e := congrFun (mst (b := p) (c := 609) (W := W00) (M := M) (u := 12) (p := p + 517 + 46 * 1) (Nat.le_refl _) (by decide) (by unfold PA; simp; try omega)) (p + 517 + 46 * 1 + j)
    rw [e, wr_at hj, W00_Z (by decide)]
  rw [mset_ne (by omega), mset_ne (by omega), wr_out (by omega), wr_out (by omega), mset_ne (by omega), mset_ne (by omega), mset_ne (by omega), mset_ne (by omega), mset_ne (by omega), wr_out (by omega), wr_out (by omega), wr_out (by omega), wr_out (by omega), wr_out (by omega), wr_out (by omega), wr_out (by omega), wr_out (by omega), mset_ne (by omega), mset_ne (by omega), wr_out (by omega), mset_ne (by omega), mset_ne (by omega), wr_out (by omega), wr_out (by omega)]
  unfold MEM
  rw [if_neg (by omega)]
theorem PRS_mset {a : Nat} {e : va_E} (h : a < p ∨ p + 50 ≤ a) : PRS p (mset M a e) = mset (PRS p M) a e := by
  unfold PRS
  rw [mset_comm (a := a) (q := p + 2) (by omega), mset_comm (a := a) (q := p + 1) (by omega), wr_mset (by omega), mset_comm (a := a) (q := p + 49) (by omega), mset_comm (a := a) (q := p) (by omega)]
theorem HIS_mset {a : Nat} {e : va_E} (h : a < p ∨ p + 370 ≤ a) : HIS p (mset M a e) = mset (HIS p M) a e := by
  unfold HIS
  rw [wr_mset (by omega), wr_mset (by omega), wr_mset (by omega), wr_mset (by omega), wr_mset (by omega), wr_mset (by omega), wr_mset (by omega), wr_mset (by omega), mset_comm (a := a) (q := p + 1) (by omega), mset_comm (a := a) (q := p) (by omega)]
theorem OUT_mset {a : Nat} {e : va_E} (h : a < p ∨ p + 2 ≤ a) : OUT p (mset M a e) = mset (OUT p M) a e := by
  unfold OUT
  rw [mset_comm (a := a) (q := p + 1) (by omega), mset_comm (a := a) (q := p) (by omega)]
noncomputable def f_X9_init (W : Nat → Nat → Int32) : Option (Nat → Nat → Int32) :=
  bdc (f_X6_appendText W 0) (fun W1 => bdc (f_X3_parse W1) (fun W2 => bdc (f_X4_copyFrom (W2 0) (W2 2)) (fun S4 => bnd (setU W2 0 S4) (fun W3 => some W3))))
theorem ev_X9_init {G : GT} {f b c : Nat} {M : MM} {hi k n : Nat} {W r : Nat → Nat → Int32} (hf : 13 ≤ f) (hc1 : 609 ≤ c) (h : f_X9_init W = some r) : V G f (Ex G f) mX9_init (RH (.inl none) (MEM b c r M) hi) 104 [(0, .ref (b))] [] (MEM b c W M) hi k n := by
  unfold f_X9_init at h
  refine V_aload_n (i := 0) dX9_init_104 rfl rfl ?_
  refine V_getfield dX9_init_105 (mem_x9 hc1) fl_X9_22 rfl ?_
  refine V_getfield dX9_init_108 (mem_13 hc1) fl_X9_48 rfl ?_
  refine V_ldcS (j := 0) dX9_init_111 (by decide +kernel) ?_
  refine D_cVU (As := [_]) (μ := fun W1 => (MEM b c W1 M)) h dX9_init_113 cv_X9_54 rfl ⟨_, _, _, (mem_15 hc1), rfl, rfl⟩ rfl (Nat.le_of_ble_eq_true rfl) (fun y hx => e_X6_appendText (Nat.le_trans (Nat.le_of_ble_eq_true rfl) hf) hc1 (by decide) hx) fun W1 h => ?_
  refine V_aload_n (i := 0) dX9_init_116 rfl rfl ?_
  refine V_getfield dX9_init_117 (mem_x9 hc1) fl_X9_22 rfl ?_
  refine D_cVU (As := []) (μ := fun W2 => (MEM b c W2 M)) h dX9_init_120 cv_X9_60 rfl ⟨_, _, _, (mem_13 hc1), rfl, rfl⟩ rfl (Nat.le_of_ble_eq_true rfl) (fun y hx => e_X3_parse (Nat.le_trans (Nat.le_of_ble_eq_true rfl) hf) hc1 hx) fun W2 h => ?_
  refine V_aload_n (i := 0) dX9_init_123 rfl rfl ?_
  refine V_getfield dX9_init_124 (mem_x9 hc1) fl_X9_10 rfl ?_
  refine V_aload_n (i := 0) dX9_init_127 rfl rfl ?_
  refine V_getfield dX9_init_128 (mem_x9 hc1) fl_X9_22 rfl ?_
  refine V_getfield dX9_init_131 (mem_13 hc1) fl_X9_63 rfl ?_
  refine D_cVU (As := [_]) (μ := fun S4 => (MEM b c (setU W2 0 S4) M)) h dX9_init_134 cv_X9_66 rfl ⟨_, _, _, (mst_o (u := 0) hc1 (by decide) rfl), rfl, rfl⟩ rfl (Nat.le_of_ble_eq_true rfl) (fun y hx => lift2 (u := 0) (v := 2) hc1 (by decide) (by decide) rfl rfl (e_X4_copyFrom (Nat.le_trans (Nat.le_of_ble_eq_true rfl) hf) (show apt (b + 1) (b + 96) by unfold apt; omega) hx)) fun S4 h => ?_
  refine D3_gen (μ := fun W => (MEM b c W M)) h fun W3 h => ?_
  obtain rfl := Option.some.inj h
  exact V_return dX9_init_137 rfl ⟨rfl, rfl, rfl⟩
theorem e_X9_init {r : Nat → Nat → Int32} (hf0 : 14 ≤ f0) (h : f_X9_init W00 = some r) : Ex G f0 mX9_init [.ref p] (mset M p (.inr (9, [.null, .null, .null, .null, .null, .null, .null]))) (p + 1) 608 5598 (RH (.inl none) (MEM p 609 r M) (p + 609)) := by
  obtain ⟨f, rfl, hf⟩ := suc_of hf0
  refine ⟨Nat.le_of_ble_eq_true rfl, ?_⟩
  refine V_aload_n (i := 0) dX9_init_0 rfl rfl ?_
  refine V_objInit dX9_init_1 tw_36 (Nat.le_of_ble_eq_true rfl) (Nat.le_trans (Nat.le_of_ble_eq_true rfl) hf) ?_
  refine V_aload_n (i := 0) dX9_init_4 rfl rfl ?_
  refine V_new (N0 := 12) (k := 607) (n := 5586) dX9_init_5 nw_X9_7 ?_
  refine V_dup dX9_init_8 rfl ?_
  refine V_callI (As := []) (k := 562) (n := 5222) (k2 := 45) (n2 := 364) dX9_init_9 ci_X9_9 rfl rfl (Nat.le_of_ble_eq_true rfl) (e_X4_init (p := p + 1) (Nat.le_trans (Nat.le_of_ble_eq_true rfl) hf)) (fun v M2 hi2 hp => ?_) (fun E M2 hi2 hp => by obtain ⟨h1, -⟩ := hp; cases h1)
  obtain ⟨h1, rfl, rfl⟩ := hp
  cases h1
  refine V_mem (wr_mset (by omega)) ?_
  refine V_putfield dX9_init_12 mset_eq (fp_X9_10 rfl rfl) rfl rfl (Nat.le_of_ble_eq_true rfl) ?_
  refine V_mem mset_mset ?_
  refine V_aload_n (i := 0) dX9_init_15 rfl rfl ?_
  refine V_new (N0 := 12) (k := 561) (n := 5210) dX9_init_16 nw_X9_7 ?_
  refine V_dup dX9_init_19 rfl ?_
  refine V_callI (As := []) (k := 516) (n := 4846) (k2 := 45) (n2 := 364) dX9_init_20 ci_X9_9 rfl rfl (Nat.le_of_ble_eq_true rfl) (e_X4_init (p := p + 47) (Nat.le_trans (Nat.le_of_ble_eq_true rfl) hf)) (fun v M2 hi2 hp => ?_) (fun E M2 hi2 hp => by obtain ⟨h1, -⟩ := hp; cases h1)
  obtain ⟨h1, rfl, rfl⟩ := hp
  cases h1
  refine V_mem (wr_mset (by omega)) ?_
  refine V_putfield dX9_init_23 mset_eq (fp_X9_16 rfl rfl) rfl rfl (Nat.le_of_ble_eq_true rfl) ?_
  refine V_mem mset_mset ?_
  refine V_aload_n (i := 0) dX9_init_26 rfl rfl ?_
  refine V_new (N0 := 11) (k := 515) (n := 4835) dX9_init_27 nw_X9_19 ?_
  refine V_dup dX9_init_30 rfl ?_
  refine V_callN (As := []) (k := 466) (n := 3848) (k2 := 49) (n2 := 987) dX9_init_31 cn_X9_21 rfl rfl (Nat.le_of_ble_eq_true rfl) (e_X3_init (p := p + 93) (Nat.le_trans (Nat.le_of_ble_eq_true rfl) hf)) (fun v M2 hi2 hp => ?_) (fun E M2 hi2 hp => by obtain ⟨h1, -⟩ := hp; cases h1)
  obtain ⟨h1, rfl, rfl⟩ := hp
  cases h1
  refine V_mem (PRS_mset (by omega)) ?_
  refine V_putfield dX9_init_34 mset_eq (fp_X9_22 rfl rfl) rfl rfl (Nat.le_of_ble_eq_true rfl) ?_
  refine V_mem mset_mset ?_
  refine V_aload_n (i := 0) dX9_init_37 rfl rfl ?_
  refine V_new (N0 := 3) (k := 465) (n := 3845) dX9_init_38 nw_X9_26 ?_
  refine V_dup dX9_init_41 rfl ?_
  refine V_callI (As := []) (k := 96) (n := 829) (k2 := 369) (n2 := 3016) dX9_init_42 ci_X9_28 rfl rfl (Nat.le_of_ble_eq_true rfl) (e_X0_init (p := p + 143) (Nat.le_trans (Nat.le_of_ble_eq_true rfl) hf)) (fun v M2 hi2 hp => ?_) (fun E M2 hi2 hp => by obtain ⟨h1, -⟩ := hp; cases h1)
  obtain ⟨h1, rfl, rfl⟩ := hp
  cases h1
  refine V_mem (HIS_mset (by omega)) ?_
  refine V_putfield dX9_init_45 mset_eq (fp_X9_29 rfl rfl) rfl rfl (Nat.le_of_ble_eq_true rfl) ?_
  refine V_mem mset_mset ?_
  refine V_aload_n (i := 0) dX9_init_48 rfl rfl ?_
  refine V_new (N0 := 2) (k := 95) (n := 827) dX9_init_49 nw_X9_33 ?_
  refine V_dup dX9_init_52 rfl ?_
  refine V_callN (As := []) (k := 94) (n := 756) (k2 := 1) (n2 := 71) dX9_init_53 cn_X9_35 rfl rfl (Nat.le_of_ble_eq_true rfl) (e_X1_init (Nat.le_trans (Nat.le_of_ble_eq_true rfl) hf) (by omega)) (fun v M2 hi2 hp => ?_) (fun E M2 hi2 hp => by obtain ⟨h1, -⟩ := hp; cases h1)
  obtain ⟨h1, rfl, rfl⟩ := hp
  cases h1
  refine V_mem (OUT_mset (p := p + 513) (by omega)) ?_
  refine V_putfield dX9_init_56 mset_eq (fp_X9_36 rfl rfl) rfl rfl (Nat.le_of_ble_eq_true rfl) ?_
  refine V_mem mset_mset ?_
  refine V_aload_n (i := 0) dX9_init_59 rfl rfl ?_
  refine V_iconst (v := 2) dX9_init_60 (by decide) ?_
  refine V_anew (N0 := 2) (len := 2) (k := 93) (n := 754) (t := 5) (CC := RX4) dX9_init_61 tw_39 (by decide +kernel) rfl (by decide) (by decide) (by decide) (by decide) ?_
  refine V_mem (mset_comm (by omega)) ?_
  refine V_putfield dX9_init_64 mset_eq (fp_X9_40 rfl rfl) rfl rfl (Nat.le_of_ble_eq_true rfl) ?_
  refine V_mem mset_mset ?_
  refine V_aload_n (i := 0) dX9_init_67 rfl rfl ?_
  refine V_iconst (v := 2) dX9_init_68 (by decide) ?_
  refine V_newarray (aty := .boolean) (N0 := 2) (len := 2) (k := 92) (n := 752) (t := 2) (x := (2, .inl (fun _ => (0 : Int32)))) dX9_init_69 tw_682 rfl (by decide) (fun _ => rfl) (by decide) (by decide) (by decide) ?_
  refine V_mem (mset_comm (by omega)) ?_
  refine V_mem (congrArg (fun z => mset z p _) (mset_comm (by omega))) ?_
  refine V_putfield dX9_init_71 mset_eq (fp_X9_44 rfl rfl) rfl rfl (Nat.le_of_ble_eq_true rfl) ?_
  refine V_mem mset_mset ?_
  refine V_mem (show _ = mset (mset (mset (OUT (p + 513) (HIS (p + 143) (PRS (p + 93) (wr (p + 47) (fun _ => (0 : Int32)) (wr (p + 1) (fun _ => (0 : Int32)) M))))) (p + 516) (.inl (2, 2, .inl (fun _ => (0 : Int32))))) (p + 515) (AR 5 2 0 (fun q => p + 517 + 46 * q))) p (.inr (9, [.ref (p + 1), .ref (p + 47), .ref (p + 93), .ref (p + 143), .ref (p + 513), .ref (p + 515), .ref (p + 516)])) by unfold AR; rw [refs_0]; rfl) ?_
  refine V_iconst (v := 0) dX9_init_74 (by decide) ?_
  refine V_istore_n (i := 1) dX9_init_75 rfl (Nat.le_of_ble_eq_true rfl) ?_
  refine V_sub (ks := [1, 0]) (lv2 := [(0, .ref p), (1, .int (nI 0))]) rfl ?_
  refine it_sl (i := 0) (k := 46) (n := 376) (Nat.le_trans (Nat.le_of_ble_eq_true rfl) hf) (by decide) ?_
  refine it_sl (i := 1) (k := 0) (n := 0) (Nat.le_trans (Nat.le_of_ble_eq_true rfl) hf) (by decide) ?_
  refine V_iload_n (i := 1) dX9_init_76 rfl rfl ?_
  refine V_aload_n (i := 0) dX9_init_77 rfl rfl ?_
  refine V_getfield dX9_init_78 mset_eq fl_X9_40 rfl ?_
  refine V_alen (t := 5) (v := nI 2) dX9_init_81 ((mset_ne (by omega)).trans mset_eq) (by decide) rfl ?_
  refine V_icmp_ge (tgt := 104) dX9_init_82 rfl (fun _ => ?_) (fun q => absurd (nI_le (Nat.le_refl 2) (by decide)) q)
  refine V_mem ini_mem ?_
  exact V_sub (ks := [0]) rfl (ev_X9_init hf (Nat.le_refl _) h)
end Init
