/-! String.length and String.charAt of the text constants -/
theorem chS_all : ∀ l ∈ bytsS, ∀ c ∈ l, ((c &&& 255).toUInt32 % 65536).toInt32 = c ∧ narrow .char (.int c) = .int c := by decide +kernel
theorem chS_ok (j i : Nat) : ((chS j i &&& 255).toUInt32 % 65536).toInt32 = chS j i ∧ narrow .char (.int (chS j i)) = .int (chS j i) := by
  unfold chS
  rw [List.getD_eq_getElem?_getD, List.getD_eq_getElem?_getD]
  cases h : bytsS[j]? with
  | none =>
    simp only [Option.getD_none, List.getElem?_nil]
    exact ⟨by decide, by decide⟩
  | some l =>
    show (((l[i]?.getD 0) &&& 255).toUInt32 % 65536).toInt32 = l[i]?.getD 0 ∧ narrow .char (.int (l[i]?.getD 0)) = .int (l[i]?.getD 0)
    cases h2 : l[i]? with
    | none => exact ⟨by decide, by decide⟩
    | some c => exact chS_all l (List.mem_of_getElem? h) c (List.mem_of_getElem? h2)
theorem lenS_all : ∀ c ∈ lensS, c ≤ 5000 := by decide +kernel
theorem lenS_le (j : Nat) : lenS j ≤ 5000 := by
  unfold lenS
  rw [List.getD_eq_getElem?_getD]
  cases h : lensS[j]? with
  | none => exact Nat.zero_le _
  | some c => exact lenS_all c (List.mem_of_getElem? h)
theorem inr_ge {x : Int32} {n : Nat} (h : inr x n = true) : ¬ x < 0 := by
  unfold inr at h
  rw [Bool.and_eq_true] at h
  intro q
  rw [decide_eq_true q] at h
  cases h.1
theorem inr_ltS {x : Int32} {n : Nat} (h : inr x n = true) (hn : n ≤ 5000) : x < nI n := by
  have e := nI_lt (inr_lt h) (show n < 2 ^ 31 by omega)
  rw [nI_ix h] at e
  exact e
section Str
variable {G : GT} {f0 f : Nat} {M : MM} {hi k n j : Nat}
theorem e_J0_coder (hf0 : 1 ≤ f0) (hj : j < nSTR) : Ex G f0 mJ0_coder_7d493 [.ref (G.2.2.2.1 j)] M hi k n (RH (.inl (some (.int 0))) M hi) := by
  obtain ⟨f, rfl, hf⟩ := suc_of hf0
  refine ⟨Nat.le_of_ble_eq_true rfl, ?_⟩
  refine V_getsC dJ0_coder_7d493_0 tw_375 ?_
  refine V_if_eq (tgt := 13) dJ0_coder_7d493_3 rfl (fun h => absurd h (by decide)) (fun _ => ?_)
  refine V_aload_n (i := 0) dJ0_coder_7d493_6 rfl rfl ?_
  refine V_gstrC dJ0_coder_7d493_7 tw_1364 hj ?_
  refine V_goto (tgt := 14) dJ0_coder_7d493_10 rfl ?_
  exact V_ireturn dJ0_coder_7d493_14 ⟨_, rfl, rfl⟩ ⟨rfl, rfl, rfl⟩
theorem e_J0_isLatin1 (hf0 : 1 ≤ f0) (hj : j < nSTR) : Ex G f0 mJ0_isLatin1_aae02 [.ref (G.2.2.2.1 j)] M hi k n (RH (.inl (some (.int 1))) M hi) := by
  obtain ⟨f, rfl, hf⟩ := suc_of hf0
  refine ⟨Nat.le_of_ble_eq_true rfl, ?_⟩
  refine V_getsC dJ0_isLatin1_aae02_0 tw_375 ?_
  refine V_if_eq (tgt := 17) dJ0_isLatin1_aae02_3 rfl (fun h => absurd h (by decide)) (fun _ => ?_)
  refine V_aload_n (i := 0) dJ0_isLatin1_aae02_6 rfl rfl ?_
  refine V_gstrC dJ0_isLatin1_aae02_7 tw_1364 hj ?_
  refine V_if_ne (tgt := 17) dJ0_isLatin1_aae02_10 rfl (fun h => absurd rfl h) (fun _ => ?_)
  refine V_iconst (v := 1) dJ0_isLatin1_aae02_13 (by decide) ?_
  refine V_goto (tgt := 18) dJ0_isLatin1_aae02_14 rfl ?_
  exact V_ireturn dJ0_isLatin1_aae02_18 ⟨_, rfl, rfl⟩ ⟨rfl, rfl, rfl⟩
theorem shr_0 (x : Int32) : x >>> ((0 : Int32) &&& 31) = x := by
  rw [show (0 : Int32) &&& 31 = 0 by decide]
  simp
theorem e_J0_length (hf0 : 2 ≤ f0) (hj : j < nSTR) : Ex G f0 mJ0_length_8abf5 [.ref (G.2.2.2.1 j)] M hi k n (RH (.inl (some (.int (nI (lenS j))))) M hi) := by
  obtain ⟨f, rfl, hf⟩ := suc_of hf0
  refine ⟨Nat.le_of_ble_eq_true rfl, ?_⟩
  refine V_aload_n (i := 0) dJ0_length_8abf5_0 rfl rfl ?_
  refine V_gstrV dJ0_length_8abf5_1 tw_1363 hj ?_
  refine V_strlen dJ0_length_8abf5_4 hj ?_
  refine V_aload_n (i := 0) dJ0_length_8abf5_5 rfl rfl ?_
  refine V_callVS (As := []) (k2 := 0) (n2 := 0) dJ0_length_8abf5_6 cv_J0_335 rfl ⟨rfl, hj, rfl⟩ rfl (Nat.le_of_ble_eq_true rfl) (e_J0_coder hf hj) (fun v M2 hi2 hp => ?_) (fun E M2 hi2 hp => by obtain ⟨h1, -⟩ := hp; cases h1)
  obtain ⟨h1, rfl, rfl⟩ := hp
  cases h1
  refine V_ishr dJ0_length_8abf5_9 ?_
  rw [shr_0]
  exact V_ireturn dJ0_length_8abf5_10 ⟨_, rfl, rfl⟩ ⟨rfl, rfl, rfl⟩
theorem e_J3_checkIndex {x y : Int32} {v : Value} (hf0 : 1 ≤ f0) (h1 : ¬ x < 0) (h2 : x < y) (hv : v = .null ∨ ∃ t, v = .ref t) : Ex G f0 mJ3_checkIndex_8e157 [.int x, .int y, v] M hi k n (RH (.inl (some (.int x))) M hi) := by
  obtain ⟨f, rfl, hf⟩ := suc_of hf0
  refine ⟨by rcases hv with rfl | ⟨t, rfl⟩ <;> exact Nat.le_of_ble_eq_true rfl, ?_⟩
  refine V_iload_n (i := 0) dJ3_checkIndex_8e157_0 rfl rfl ?_
  refine V_if_lt (tgt := 9) dJ3_checkIndex_8e157_1 rfl (fun h => absurd h h1) (fun _ => ?_)
  refine V_iload_n (i := 0) dJ3_checkIndex_8e157_4 rfl rfl ?_
  refine V_iload_n (i := 1) dJ3_checkIndex_8e157_5 rfl rfl ?_
  refine V_icmp_lt (tgt := 16) dJ3_checkIndex_8e157_6 rfl (fun _ => ?_) (fun h => absurd h2 h)
  refine V_iload_n (i := 0) dJ3_checkIndex_8e157_16 rfl rfl ?_
  exact V_ireturn dJ3_checkIndex_8e157_17 ⟨_, rfl, rfl⟩ ⟨rfl, rfl, rfl⟩
theorem e_J0_checkIndex {x y : Int32} (hf0 : 2 ≤ f0) (h1 : ¬ x < 0) (h2 : x < y) : Ex G f0 mJ0_checkIndex_df160 [.int x, .int y] M hi k n (RH (.inl none) M hi) := by
  obtain ⟨f, rfl, hf⟩ := suc_of hf0
  refine ⟨Nat.le_of_ble_eq_true rfl, ?_⟩
  refine V_iload_n (i := 0) dJ0_checkIndex_df160_0 rfl rfl ?_
  refine V_iload_n (i := 1) dJ0_checkIndex_df160_1 rfl rfl ?_
  refine V_getsF dJ0_checkIndex_df160_2 tw_391 ?_ (fun t => ?_)
  · refine V_callS (a := 0) (As := [_, _, _]) (k2 := 0) (n2 := 0) dJ0_checkIndex_df160_5 cs_J0_1059 rfl rfl (Nat.le_of_ble_eq_true rfl) (e_J3_checkIndex hf h1 h2 (Or.inl rfl)) (fun v M2 hi2 hp => ?_) (fun E M2 hi2 hp => by obtain ⟨h1, -⟩ := hp; cases h1)
    obtain ⟨h1, rfl, rfl⟩ := hp
    cases h1
    refine V_pop dJ0_checkIndex_df160_8 rfl ?_
    exact V_return dJ0_checkIndex_df160_9 rfl ⟨rfl, rfl, rfl⟩
  · refine V_callS (a := 0) (As := [_, _, _]) (k2 := 0) (n2 := 0) dJ0_checkIndex_df160_5 cs_J0_1059 rfl rfl (Nat.le_of_ble_eq_true rfl) (e_J3_checkIndex hf h1 h2 (Or.inr ⟨_, rfl⟩)) (fun v M2 hi2 hp => ?_) (fun E M2 hi2 hp => by obtain ⟨h1, -⟩ := hp; cases h1)
    obtain ⟨h1, rfl, rfl⟩ := hp
    cases h1
    refine V_pop dJ0_checkIndex_df160_8 rfl ?_
    exact V_return dJ0_checkIndex_df160_9 rfl ⟨rfl, rfl, rfl⟩
theorem e_J1_charAt {x : Int32} (hf0 : 3 ≤ f0) (hj : j < nSTR) (hx : inr x (lenS j) = true) : Ex G f0 mJ1_charAt_3b067 [.ref (G.2.2.2.2 j), .int x] M hi k n (RH (.inl (some (.int (chS j (ix x))))) M hi) := by
  obtain ⟨f, rfl, hf⟩ := suc_of hf0
  refine ⟨Nat.le_of_ble_eq_true rfl, ?_⟩
  refine V_iload_n (i := 1) dJ1_charAt_3b067_0 rfl rfl ?_
  refine V_aload_n (i := 0) dJ1_charAt_3b067_1 rfl rfl ?_
  refine V_strlen dJ1_charAt_3b067_2 hj ?_
  refine V_callS (a := 0) (As := [_, _]) (k2 := 0) (n2 := 0) dJ1_charAt_3b067_3 cs_J1_9 rfl rfl (Nat.le_of_ble_eq_true rfl) (e_J0_checkIndex hf (inr_ge hx) (inr_ltS hx (lenS_le j))) (fun v M2 hi2 hp => ?_) (fun E M2 hi2 hp => by obtain ⟨h1, -⟩ := hp; cases h1)
  obtain ⟨h1, rfl, rfl⟩ := hp
  cases h1
  refine V_aload_n (i := 0) dJ1_charAt_3b067_6 rfl rfl ?_
  refine V_iload_n (i := 1) dJ1_charAt_3b067_7 rfl rfl ?_
  refine V_strbyte dJ1_charAt_3b067_8 hj (inr_vp hx) ?_
  refine V_sipush (v := 255) dJ1_charAt_3b067_9 (by decide) ?_
  refine V_iand dJ1_charAt_3b067_12 ?_
  refine V_i2c dJ1_charAt_3b067_13 (chS_ok j _).1 ?_
  exact V_ireturn dJ1_charAt_3b067_14 ⟨_, rfl, (chS_ok j _).2⟩ ⟨rfl, rfl, rfl⟩
theorem e_J0_charAt {x : Int32} (hf0 : 4 ≤ f0) (hj : j < nSTR) (hx : inr x (lenS j) = true) : Ex G f0 mJ0_charAt_5068e [.ref (G.2.2.2.1 j), .int x] M hi k n (RH (.inl (some (.int (chS j (ix x))))) M hi) := by
  obtain ⟨f, rfl, hf⟩ := suc_of hf0
  refine ⟨Nat.le_of_ble_eq_true rfl, ?_⟩
  refine V_aload_n (i := 0) dJ0_charAt_5068e_0 rfl rfl ?_
  refine V_callVS (As := []) (k2 := 0) (n2 := 0) dJ0_charAt_5068e_1 cv_J0_492 rfl ⟨rfl, hj, rfl⟩ rfl (Nat.le_of_ble_eq_true rfl) (e_J0_isLatin1 (Nat.le_trans (Nat.le_of_ble_eq_true rfl) hf) hj) (fun v M2 hi2 hp => ?_) (fun E M2 hi2 hp => by obtain ⟨h1, -⟩ := hp; cases h1)
  obtain ⟨h1, rfl, rfl⟩ := hp
  cases h1
  refine V_if_eq (tgt := 16) dJ0_charAt_5068e_4 rfl (fun h => absurd h (by decide)) (fun _ => ?_)
  refine V_aload_n (i := 0) dJ0_charAt_5068e_7 rfl rfl ?_
  refine V_gstrV dJ0_charAt_5068e_8 tw_1363 hj ?_
  refine V_iload_n (i := 1) dJ0_charAt_5068e_11 rfl rfl ?_
  refine V_callS (a := 0) (As := [_, _]) (k2 := 0) (n2 := 0) dJ0_charAt_5068e_12 cs_J0_495 rfl rfl (Nat.le_of_ble_eq_true rfl) (e_J1_charAt hf hj hx) (fun v M2 hi2 hp => ?_) (fun E M2 hi2 hp => by obtain ⟨h1, -⟩ := hp; cases h1)
  obtain ⟨h1, rfl, rfl⟩ := hp
  cases h1
  exact V_ireturn dJ0_charAt_5068e_15 ⟨_, rfl, (chS_ok j _).2⟩ ⟨rfl, rfl, rfl⟩
variable {md : MD} {P0 : PS} {pc : Nat} {lv : List (Nat × Value)} {rest : List Value} {R : Type} {r : R}
theorem D_slen {idx : Nat} (hd : decode md.2.1 pc = .ok (.invokevirtual idx, 3)) (hc : CVr md.1.cls idx mJ0_length_8abf5 0) (hj : j < nSTR) (hcs : csum rest ≤ 8) (hf : 2 ≤ f) (kk : V G f (Ex G f) md P0 (pc + 3) lv (.int (nI (lenS j)) :: rest) M hi k n) : V G f (Ex G f) md P0 pc lv (.ref (G.2.2.2.1 j) :: rest) M hi k n :=
  V_callVS (As := []) (k2 := 0) (n2 := 0) hd hc rfl ⟨rfl, hj, rfl⟩ rfl hcs (e_J0_length hf hj) (fun v M2 hi2 hp => by obtain ⟨h1, rfl, rfl⟩ := hp; cases h1; exact kk) (fun E M2 hi2 hp => by obtain ⟨h1, -⟩ := hp; cases h1)
theorem D_schar {idx : Nat} {x : Int32} {K : Option R} (h : gd (inr x (lenS j)) K = some r) (hd : decode md.2.1 pc = .ok (.invokevirtual idx, 3)) (hc : CVr md.1.cls idx mJ0_charAt_5068e 1) (hj : j < nSTR) (hcs : csum rest ≤ 8) (hf : 4 ≤ f) (kk : K = some r → V G f (Ex G f) md P0 (pc + 3) lv (.int (chS j (ix x)) :: rest) M hi k n) : V G f (Ex G f) md P0 pc lv (.int x :: .ref (G.2.2.2.1 j) :: rest) M hi k n :=
  V_callVS (As := [_]) (k2 := 0) (n2 := 0) hd hc rfl ⟨rfl, hj, rfl⟩ rfl hcs (e_J0_charAt hf hj (gd_ok h).1) (fun v M2 hi2 hp => by obtain ⟨h1, rfl, rfl⟩ := hp; cases h1; exact kk (gd_ok h).2) (fun E M2 hi2 hp => by obtain ⟨h1, -⟩ := hp; cases h1)
end Str
