def dflB : List Value := [.null, .int 0, .int 0, .int 0]
theorem e_J5_init_d00df {G : GT} {f0 : Nat} {M : MM} {hi k n sb : Nat} (hs : M sb = some (.inr (12, dflB))) (hlt : sb < hi) (hf0 : 2 ≤ f0) : Ex G f0 mJ5_init_d00df [.ref sb, .int 16] M hi (k + 1) (n + 16) (SBp sb M hi (.inl none) []) := by
  obtain ⟨f, rfl, hf⟩ := suc_of hf0
  refine ⟨Nat.le_of_ble_eq_true rfl, ?_⟩
  refine V_aload_n (i := 0) dJ5_init_d00df_0 rfl rfl ?_
  refine V_objInit dJ5_init_d00df_1 tw_1139 (Nat.le_of_ble_eq_true rfl) (Nat.le_trans (Nat.le_of_ble_eq_true rfl) hf) ?_
  refine V_getsC dJ5_init_d00df_4 tw_1140 ?_
  refine V_if_eq (tgt := 25) dJ5_init_d00df_7 rfl (fun hcq => absurd hcq (by decide)) (fun _ => ?_)
  refine V_aload_n (i := 0) dJ5_init_d00df_10 rfl rfl ?_
  refine V_iload_n (i := 1) dJ5_init_d00df_11 rfl rfl ?_
  refine V_newarray (aty := .byte) (t := 0) (N0 := 16) (x := (16, .inl fun _ => 0)) dJ5_init_d00df_12 tw_291 rfl (by decide) (fun cA => rfl) (by decide) (by decide) (by decide) ?_
  refine V_putfield dJ5_init_d00df_14 ((mset_ne (by omega)).trans hs) (fp_J5_15 rfl) rfl rfl (Nat.le_of_ble_eq_true rfl) ?_
  refine V_aload_n (i := 0) dJ5_init_d00df_17 rfl rfl ?_
  refine V_iconst (v := 0) dJ5_init_d00df_18 (by decide) ?_
  refine V_putfield dJ5_init_d00df_19 mset_eq (fp_J5_22 rfl) rfl rfl (Nat.le_of_ble_eq_true rfl) ?_
  rw [mset_2]
  refine V_goto (tgt := 38) dJ5_init_d00df_22 rfl ?_
  exact V_return dJ5_init_d00df_38 rfl ⟨rfl, ⟨16, by decide, hi, 0, fun _ => 0, mset_eq, (mset_ne (by omega)).trans mset_eq, hlt, Nat.lt_succ_self _, fun _ => rfl, Nat.zero_le _, fun i hi => absurd hi (Nat.not_lt_zero _)⟩, fun a ha => by rw [mset_ne (by omega), mset_ne (by omega)], Nat.le_succ _⟩
theorem e_J4_init_da8c8 {G : GT} {f0 : Nat} {M : MM} {hi k n sb : Nat} (hs : M sb = some (.inr (12, dflB))) (hlt : sb < hi) (hf0 : 3 ≤ f0) : Ex G f0 mJ4_init_da8c8 [.ref sb] M hi (k + 1) (n + 16) (SBp sb M hi (.inl none) []) := by
  obtain ⟨f, rfl, hf⟩ := suc_of hf0
  refine ⟨Nat.le_of_ble_eq_true rfl, ?_⟩
  refine V_spare (k2 := 0 + (k + 1)) (n2 := 0 + (n + 16)) (by omega) (by omega) ?_
  refine V_aload_n (i := 0) dJ4_init_da8c8_0 rfl rfl ?_
  refine V_bipush (v := 16) dJ4_init_da8c8_1 (by decide) ?_
  refine V_callI (As := [_]) (k2 := k + 1) (n2 := n + 16) dJ4_init_da8c8_3 ci_J4_1 rfl rfl (Nat.le_of_ble_eq_true rfl) (e_J5_init_d00df hs hlt (Nat.le_trans (Nat.le_of_ble_eq_true rfl) hf)) (fun v M2 hi2 hp => ?_) (fun E M2 hi2 hp => by obtain ⟨h1, -⟩ := hp; cases h1)
  obtain ⟨h1, hrest⟩ := hp
  cases h1
  exact V_return dJ4_init_da8c8_6 rfl ⟨rfl, hrest⟩
theorem e_J7_checkLength_df160 {G : GT} {f0 : Nat} {M : MM} {hi k n : Nat} {x y : Int32} (hxy : x ≤ y) (hf0 : 1 ≤ f0) : Ex G f0 mJ7_checkLength_df160 [.int x, .int y] M hi k n (RH (.inl none) M hi) := by
  obtain ⟨f, rfl, hf⟩ := suc_of hf0
  refine ⟨Nat.le_of_ble_eq_true rfl, ?_⟩
  refine V_iload_n (i := 1) dJ7_checkLength_df160_0 rfl rfl ?_
  refine V_iload_n (i := 0) dJ7_checkLength_df160_1 rfl rfl ?_
  refine V_icmp_ge (tgt := 37) dJ7_checkLength_df160_2 rfl (fun _ => ?_) (fun hcq => absurd hxy hcq)
  exact V_return dJ7_checkLength_df160_37 rfl ⟨rfl, rfl, rfl⟩
theorem nI_nn {a : Nat} (h : a < 2 ^ 31) : (0 : Int32) ≤ nI a := Int32.not_lt.mp (nI_pos h)
theorem sub0 (x : Int32) : x - 0 = x := by
  apply Int32.toBitVec_inj.mp
  simp
theorem min_le {a b : Nat} (h : a ≤ b) (hb : b < 2 ^ 31) : (if nI a < nI b then nI a else nI b) = nI a := by
  by_cases q : nI a < nI b
  · rw [if_pos q]
  · rw [if_neg q]
    have e : a = b := by
      rw [z_n, z_n, z_lt ⟨by omega, by omega⟩ ⟨by omega, by omega⟩] at q
      omega
    rw [e]
theorem e_J7_copyOfRangeByte_39247 {G : GT} {f0 : Nat} {M : MM} {hi k n va cap len : Nat} {g : Nat → Int32} (hv : M va = some (.inl (0, cap, .inl g))) (hlt : va < hi) (hft : ∀ i, fits .byte (.int (g i)) = true) (hle : len ≤ cap) (hc : cap ≤ 5000) (hf0 : 3 ≤ f0) : Ex G f0 mJ7_copyOfRangeByte_39247 [.ref va, .int 0, .int (nI len)] M hi (k + 1) (n + len) (fun q M2 hi2 => ∃ g2 : Nat → Int32, q = .inl (some (.ref hi)) ∧ M2 = mset M hi (.inl (0, len, .inl g2)) ∧ hi2 = hi + 1 ∧ ∀ i, i < len → g2 i = g i) := by
  obtain ⟨f, rfl, hf⟩ := suc_of hf0
  refine ⟨Nat.le_of_ble_eq_true rfl, ?_⟩
  refine V_iload_n (i := 1) dJ7_copyOfRangeByte_39247_0 rfl rfl ?_
  refine V_iload_n (i := 2) dJ7_copyOfRangeByte_39247_1 rfl rfl ?_
  refine V_callS (a := 0) (As := [_, _]) (k2 := 0) (n2 := 0) dJ7_copyOfRangeByte_39247_2 cs_J7_343 rfl rfl (Nat.le_of_ble_eq_true rfl) (e_J7_checkLength_df160 (nI_nn (by omega)) (Nat.le_trans (Nat.le_of_ble_eq_true rfl) hf)) (fun v M2 hi2 hp => ?_) (fun E M2 hi2 hp => by obtain ⟨h1, -⟩ := hp; cases h1)
  obtain ⟨h1, rfl, rfl⟩ := hp
  cases h1
  refine V_iload_n (i := 2) dJ7_copyOfRangeByte_39247_5 rfl rfl ?_
  refine V_iload_n (i := 1) dJ7_copyOfRangeByte_39247_6 rfl rfl ?_
  refine V_isub dJ7_copyOfRangeByte_39247_7 ?_
  rw [sub0]
  refine V_istore_n (i := 3) dJ7_copyOfRangeByte_39247_8 rfl (Nat.le_of_ble_eq_true rfl) ?_
  refine V_iload_n (i := 3) dJ7_copyOfRangeByte_39247_9 rfl rfl ?_
  refine V_newarray (aty := .byte) (t := 0) (N0 := len) (x := (len, .inl fun _ => 0)) dJ7_copyOfRangeByte_39247_10 tw_291 rfl (by decide) (fun cA => rfl) (nI_pos (by omega)) (nI_clamp (by omega)) (by omega) ?_
  refine V_astore (i := 4) dJ7_copyOfRangeByte_39247_12 (Nat.le_of_ble_eq_true rfl) ?_
  refine V_aload_n (i := 0) dJ7_copyOfRangeByte_39247_14 rfl rfl ?_
  refine V_iload_n (i := 1) dJ7_copyOfRangeByte_39247_15 rfl rfl ?_
  refine V_aload (i := 4) dJ7_copyOfRangeByte_39247_16 rfl ?_
  refine V_iconst (v := 0) dJ7_copyOfRangeByte_39247_18 (by decide) ?_
  refine V_aload_n (i := 0) dJ7_copyOfRangeByte_39247_19 rfl rfl ?_
  refine V_alen (t := 0) (v := nI cap) dJ7_copyOfRangeByte_39247_20 ((mset_ne (by omega)).trans hv) (by decide) rfl ?_
  refine V_iload_n (i := 1) dJ7_copyOfRangeByte_39247_21 rfl rfl ?_
  refine V_isub dJ7_copyOfRangeByte_39247_22 ?_
  rw [sub0]
  refine V_iload_n (i := 3) dJ7_copyOfRangeByte_39247_23 rfl rfl ?_
  refine V_mmin dJ7_copyOfRangeByte_39247_24 tw_1203 (Nat.le_of_ble_eq_true rfl) (Nat.le_trans (Nat.le_of_ble_eq_true rfl) hf) ?_
  rw [min_le hle (by omega)]
  refine V_copyb (g0 := g) (g := fun _ => 0) (n0 := cap) (n1 := len) dJ7_copyOfRangeByte_39247_27 tw_1204 (Nat.le_of_ble_eq_true rfl) (Nat.le_trans (Nat.le_of_ble_eq_true rfl) hf) ((mset_ne (by omega)).trans hv) mset_eq (by omega) ⟨by decide, by decide, nI_pos (by omega)⟩ ?_ ?_ ?_
  · rw [nI_clamp (show len < 2 ^ 31 by omega)]; exact ⟨by show 0 + len ≤ cap; omega, by show 0 + len ≤ len; omega⟩
  · intro i _; exact hft _
  rw [nI_clamp (show len < 2 ^ 31 by omega), mset_2]
  refine V_aload (i := 4) dJ7_copyOfRangeByte_39247_30 rfl ?_
  refine V_areturnA dJ7_copyOfRangeByte_39247_32 rfl (Or.inr ⟨_, rfl⟩) ⟨_, rfl, rfl, rfl, fun i hi => ?_⟩
  have e0 : (0 : Int32).toNatClampNeg = 0 := by decide
  rw [e0]
  unfold va_cpy
  rw [if_pos ⟨by omega, by omega⟩, show 0 + (i - 0) = i by omega]
theorem e_J7_copyOfRange_39247 {G : GT} {f0 : Nat} {M : MM} {hi k n va cap len : Nat} {g : Nat → Int32} (hv : M va = some (.inl (0, cap, .inl g))) (hlt : va < hi) (hft : ∀ i, fits .byte (.int (g i)) = true) (hle : len ≤ cap) (hc : cap ≤ 5000) (hf0 : 4 ≤ f0) : Ex G f0 mJ7_copyOfRange_39247 [.ref va, .int 0, .int (nI len)] M hi (k + 1) (n + len) (fun q M2 hi2 => ∃ g2 : Nat → Int32, q = .inl (some (.ref hi)) ∧ M2 = mset M hi (.inl (0, len, .inl g2)) ∧ hi2 = hi + 1 ∧ ∀ i, i < len → g2 i = g i) := by
  obtain ⟨f, rfl, hf⟩ := suc_of hf0
  refine ⟨Nat.le_of_ble_eq_true rfl, ?_⟩
  by_cases he : len = cap
  · subst he
    refine V_iload_n (i := 1) dJ7_copyOfRange_39247_0 rfl rfl ?_
    refine V_if_ne (tgt := 10) dJ7_copyOfRange_39247_1 rfl (fun hcq => absurd hcq (fun h => h rfl)) (fun _ => ?_)
    refine V_iload_n (i := 2) dJ7_copyOfRange_39247_4 rfl rfl ?_
    refine V_aload_n (i := 0) dJ7_copyOfRange_39247_5 rfl rfl ?_
    refine V_alen (t := 0) (v := nI len) dJ7_copyOfRange_39247_6 hv (by decide) rfl ?_
    refine V_icmp_eq (tgt := 17) dJ7_copyOfRange_39247_7 rfl (fun _ => ?_) (fun hcq => absurd rfl hcq)
    refine V_aload_n (i := 0) dJ7_copyOfRange_39247_17 rfl rfl ?_
    refine V_cloneb dJ7_copyOfRange_39247_18 tw_1196 (Nat.le_of_ble_eq_true rfl) (Nat.le_trans (Nat.le_of_ble_eq_true rfl) hf) hv (fun i _ => hft i) ?_
    refine V_castb dJ7_copyOfRange_39247_21 tw_1202 mset_eq ?_
    exact V_areturnA dJ7_copyOfRange_39247_24 rfl (Or.inr ⟨_, rfl⟩) ⟨_, rfl, rfl, rfl, fun _ _ => rfl⟩
  · refine V_spare (k2 := k + (0 + 1)) (n2 := n + (0 + len)) (by omega) (by omega) ?_
    refine V_iload_n (i := 1) dJ7_copyOfRange_39247_0 rfl rfl ?_
    refine V_if_ne (tgt := 10) dJ7_copyOfRange_39247_1 rfl (fun hcq => absurd hcq (fun h => h rfl)) (fun _ => ?_)
    refine V_iload_n (i := 2) dJ7_copyOfRange_39247_4 rfl rfl ?_
    refine V_aload_n (i := 0) dJ7_copyOfRange_39247_5 rfl rfl ?_
    refine V_alen (t := 0) (v := nI cap) dJ7_copyOfRange_39247_6 hv (by decide) rfl ?_
    refine V_icmp_eq (tgt := 17) dJ7_copyOfRange_39247_7 rfl (fun hcq => absurd hcq (fun h => he (by rw [z_n, z_n, z_eq ⟨by omega, by omega⟩ ⟨by omega, by omega⟩] at h; omega))) (fun _ => ?_)
    refine V_aload_n (i := 0) dJ7_copyOfRange_39247_10 rfl rfl ?_
    refine V_iload_n (i := 1) dJ7_copyOfRange_39247_11 rfl rfl ?_
    refine V_iload_n (i := 2) dJ7_copyOfRange_39247_12 rfl rfl ?_
    refine V_callS (a := 0) (As := [_, _, _]) (k2 := 0 + 1) (n2 := 0 + len) dJ7_copyOfRange_39247_13 cs_J7_339 rfl rfl (Nat.le_of_ble_eq_true rfl) (e_J7_copyOfRangeByte_39247 hv hlt hft hle hc (Nat.le_trans (Nat.le_of_ble_eq_true rfl) hf)) (fun v M2 hi2 hp => ?_) (fun E M2 hi2 hp => by obtain ⟨g2, h1, -⟩ := hp; cases h1)
    obtain ⟨g2, h1, h2, h3, h4⟩ := hp
    cases h1
    exact V_areturnA dJ7_copyOfRange_39247_16 rfl (Or.inr ⟨_, rfl⟩) ⟨_, rfl, h2, h3, h4⟩
def STx (s : Nat) (T : List Int32) (M : MM) (hi : Nat) : Prop := ∃ (vb : Nat) (g : Nat → Int32), M s = some (.inr (11, [.ref vb, .int 0, .int 0, .int 0])) ∧ M vb = some (.inl (0, T.length, .inl g)) ∧ s < vb ∧ vb < hi ∧ ∀ i, i < T.length → g i = T.getD i 0
def STp (s : Nat) (M0 : MM) (hi0 : Nat) (q0 : RS) (T : List Int32) : PS := fun q M2 hi2 => q = q0 ∧ STx s T M2 hi2 ∧ (∀ a, a < s → M2 a = M0 a) ∧ hi0 ≤ hi2
theorem e_J0_init_db425 {G : GT} {f0 : Nat} {M : MM} {hi k n sb s cap : Nat} {T : List Int32} (hq : SBx sb T cap M hi) (hcap : cap ≤ 640) (ho : M s = some (.inr (11, dflB))) (hsb : sb < s) (hva : ∀ va mb c, M sb = some (.inr (12, [.ref va, .int 0, .int mb, .int c])) → va < s) (hlt : s < hi) (hf0 : 5 ≤ f0) : Ex G f0 mJ0_init_db425 [.ref s, .ref sb, .null] M hi (k + 1) (n + 640) (STp s M hi (.inl none) T) := by
  obtain ⟨f, rfl, hf⟩ := suc_of hf0
  refine ⟨Nat.le_of_ble_eq_true rfl, ?_⟩
  obtain ⟨va, mb, g, hs, hv, r1, r2, r3, r4, r5⟩ := hq
  have hvs := hva _ _ _ hs
  refine V_spare (k2 := k + (0 + 1)) (n2 := n + (0 + T.length)) (by omega) (by omega) ?_
  refine V_aload_n (i := 0) dJ0_init_db425_0 rfl rfl ?_
  refine V_objInit dJ0_init_db425_1 tw_1321 (Nat.le_of_ble_eq_true rfl) (Nat.le_trans (Nat.le_of_ble_eq_true rfl) hf) ?_
  refine V_aload_n (i := 1) dJ0_init_db425_4 rfl rfl ?_
  refine V_callU (CR := RJ4) (As := []) (k2 := 0) (n2 := 0) dJ0_init_db425_5 cu_J0_552 rfl ⟨_, _, _, hs, rfl, rfl⟩ rfl (Nat.le_of_ble_eq_true rfl) (e_J5_getValue_6d5f1 hs (Nat.le_trans (Nat.le_of_ble_eq_true rfl) hf)) (fun v M2 hi2 hp => ?_) (fun E M2 hi2 hp => by obtain ⟨h1, -⟩ := hp; cases h1)
  obtain ⟨h1, rfl, rfl⟩ := hp
  cases h1
  refine V_astore_n (i := 3) dJ0_init_db425_8 rfl (Nat.le_of_ble_eq_true rfl) ?_
  refine V_aload_n (i := 1) dJ0_init_db425_9 rfl rfl ?_
  refine V_callO (xn := yJ5_length_8abf5) (CR := RJ4) (As := []) (k2 := 0) (n2 := 0) dJ0_init_db425_10 co_J0_549 rfl ⟨_, _, _, hs, rfl, rfl⟩ rfl (Nat.le_of_ble_eq_true rfl) (e_J4_length_8abf5 hs (Nat.le_trans (Nat.le_of_ble_eq_true rfl) hf)) (fun v M2 hi2 hp => ?_) (fun E M2 hi2 hp => by obtain ⟨h1, -⟩ := hp; cases h1)
  obtain ⟨h1, rfl, rfl⟩ := hp
  cases h1
  refine V_istore (i := 4) dJ0_init_db425_13 (Nat.le_of_ble_eq_true rfl) ?_
  refine V_aload_n (i := 1) dJ0_init_db425_15 rfl rfl ?_
  refine V_callU (CR := RJ4) (As := []) (k2 := 0) (n2 := 0) dJ0_init_db425_16 cu_J0_1047 rfl ⟨_, _, _, hs, rfl, rfl⟩ rfl (Nat.le_of_ble_eq_true rfl) (e_J5_isLatin1_aae02 hs (Nat.le_trans (Nat.le_of_ble_eq_true rfl) hf)) (fun v M2 hi2 hp => ?_) (fun E M2 hi2 hp => by obtain ⟨h1, -⟩ := hp; cases h1)
  obtain ⟨h1, rfl, rfl⟩ := hp
  cases h1
  refine V_if_eq (tgt := 41) dJ0_init_db425_19 rfl (fun hcq => absurd hcq (by decide)) (fun _ => ?_)
  refine V_aload_n (i := 0) dJ0_init_db425_22 rfl rfl ?_
  refine V_iconst (v := 0) dJ0_init_db425_23 (by decide) ?_
  refine V_putfield dJ0_init_db425_24 ho (fp_J0_15 rfl rfl) rfl rfl (Nat.le_of_ble_eq_true rfl) ?_
  refine V_aload_n (i := 0) dJ0_init_db425_27 rfl rfl ?_
  refine V_aload_n (i := 3) dJ0_init_db425_28 rfl rfl ?_
  refine V_iconst (v := 0) dJ0_init_db425_29 (by decide) ?_
  refine V_iload (i := 4) dJ0_init_db425_30 rfl ?_
  refine V_callS (a := 0) (As := [_, _, _]) (k2 := 0 + 1) (n2 := 0 + T.length) dJ0_init_db425_32 cs_J0_54 rfl rfl (Nat.le_of_ble_eq_true rfl) (e_J7_copyOfRange_39247 ((mset_ne (Nat.ne_of_lt hvs)).trans hv) r2 r3 r4 (by omega) (Nat.le_trans (Nat.le_of_ble_eq_true rfl) hf)) (fun v M2 hi2 hp => ?_) (fun E M2 hi2 hp => by obtain ⟨g2, h1, -⟩ := hp; cases h1)
  obtain ⟨g2, h1, rfl, rfl, h4⟩ := hp
  cases h1
  refine V_putfield dJ0_init_db425_35 ((mset_ne (by omega)).trans mset_eq) (fp_J0_9 rfl rfl) rfl rfl (Nat.le_of_ble_eq_true rfl) ?_
  refine V_goto (tgt := 97) dJ0_init_db425_38 rfl ?_
  exact V_return dJ0_init_db425_97 rfl ⟨rfl, ⟨_, g2, mset_eq, (mset_ne (by omega)).trans mset_eq, hlt, Nat.lt_succ_self _, fun i hi => (h4 i hi).trans (r5 i hi)⟩, fun a ha => by rw [mset_ne (by omega), mset_ne (by omega), mset_ne (by omega)], Nat.le_succ _⟩
theorem e_J0_init_81219 {G : GT} {f0 : Nat} {M : MM} {hi k n sb s cap : Nat} {T : List Int32} (hq : SBx sb T cap M hi) (hcap : cap ≤ 640) (ho : M s = some (.inr (11, dflB))) (hsb : sb < s) (hva : ∀ va mb c, M sb = some (.inr (12, [.ref va, .int 0, .int mb, .int c])) → va < s) (hlt : s < hi) (hf0 : 6 ≤ f0) : Ex G f0 mJ0_init_81219 [.ref s, .ref sb] M hi (k + 1) (n + 640) (STp s M hi (.inl none) T) := by
  obtain ⟨f, rfl, hf⟩ := suc_of hf0
  refine ⟨Nat.le_of_ble_eq_true rfl, ?_⟩
  refine V_spare (k2 := k + (0 + 1)) (n2 := n + (0 + 640)) (by omega) (by omega) ?_
  refine V_aload_n (i := 0) dJ0_init_81219_0 rfl rfl ?_
  refine V_aload_n (i := 1) dJ0_init_81219_1 rfl rfl ?_
  refine V_null dJ0_init_81219_2 ?_
  refine V_callI (As := [_, _]) (k2 := 0 + 1) (n2 := 0 + 640) dJ0_init_81219_3 ci_J0_489 rfl rfl (Nat.le_of_ble_eq_true rfl) (e_J0_init_db425 hq hcap ho hsb hva hlt (Nat.le_trans (Nat.le_of_ble_eq_true rfl) hf)) (fun v M2 hi2 hp => ?_) (fun E M2 hi2 hp => by obtain ⟨h1, -⟩ := hp; cases h1)
  obtain ⟨h1, hrest⟩ := hp
  cases h1
  exact V_return dJ0_init_81219_6 rfl ⟨rfl, hrest⟩
theorem e_J4_toString_0e30d {G : GT} {f0 : Nat} {M : MM} {hi k n sb cap : Nat} {T : List Int32} (hq : SBx sb T cap M hi) (hcap : cap ≤ 640) (hf0 : 7 ≤ f0) : Ex G f0 mJ4_toString_0e30d [.ref sb] M hi (k + 2) (n + 644) (STp hi M hi (.inl (some (.ref hi))) T) := by
  obtain ⟨f, rfl, hf⟩ := suc_of hf0
  refine ⟨Nat.le_of_ble_eq_true rfl, ?_⟩
  have q1 := hq.wr
  have q2 : SBx sb T cap (mset M hi (.inr (11, dflB))) (hi + 1) := by
    obtain ⟨va, mb, g, hs, hv, r1, r2, r⟩ := hq
    exact ⟨va, mb, g, (mset_ne (by omega)).trans hs, (mset_ne (by omega)).trans hv, r1, by omega, r⟩
  have hva : ∀ va mb c, mset M hi (.inr (11, dflB)) sb = some (.inr (12, [.ref va, .int 0, .int mb, .int c])) → va < hi := by
    intro va mb c hh
    rw [mset_ne (by omega)] at hh
    obtain ⟨va2, mb2, g, hs, hv, r1, r2, r⟩ := hq
    rw [hs] at hh
    cases hh
    exact r2
  refine V_spare (k2 := (k + (0 + 1)) + 1) (n2 := (n + (0 + 640)) + 4) (by omega) (by omega) ?_
  refine V_new dJ4_toString_0e30d_0 nw_J4_18 ?_
  refine V_dup dJ4_toString_0e30d_3 rfl ?_
  refine V_aload_n (i := 0) dJ4_toString_0e30d_4 rfl rfl ?_
  refine V_callI (As := [_]) (k2 := 0 + 1) (n2 := 0 + 640) dJ4_toString_0e30d_5 ci_J4_137 rfl rfl (Nat.le_of_ble_eq_true rfl) (e_J0_init_81219 (M := mset M hi (.inr (11, dflB))) q2 hcap mset_eq q1 hva (Nat.lt_succ_self _) (Nat.le_trans (Nat.le_of_ble_eq_true rfl) hf)) (fun v M2 hi2 hp => ?_) (fun E M2 hi2 hp => by obtain ⟨h1, -⟩ := hp; cases h1)
  obtain ⟨h1, hst, hlow, hle⟩ := hp
  cases h1
  exact V_areturn dJ4_toString_0e30d_8 rfl (Or.inr ⟨_, rfl⟩) ⟨rfl, hst, fun a ha => (hlow a ha).trans (mset_ne (by omega)), by omega⟩
theorem h_J0_coder_7d493 {G : GT} {f0 : Nat} {M : MM} {hi k n s vb len : Nat} {g : Nat → Int32} (hs : M s = some (.inr (11, [.ref vb, .int 0, .int 0, .int 0]))) (hv : M vb = some (.inl (0, len, .inl g))) (hf0 : 1 ≤ f0) : Ex G f0 mJ0_coder_7d493 [.ref s] M hi k n (RH (.inl (some (.int 0))) M hi) := by
  obtain ⟨f, rfl, hf⟩ := suc_of hf0
  refine ⟨Nat.le_of_ble_eq_true rfl, ?_⟩
  refine V_getsC dJ0_coder_7d493_0 tw_375 ?_
  refine V_if_eq (tgt := 13) dJ0_coder_7d493_3 rfl (fun hcq => absurd hcq (by decide)) (fun _ => ?_)
  refine V_aload_n (i := 0) dJ0_coder_7d493_6 rfl rfl ?_
  refine V_getfield dJ0_coder_7d493_7 hs fl_J0_15 rfl ?_
  refine V_goto (tgt := 14) dJ0_coder_7d493_10 rfl ?_
  exact V_ireturn dJ0_coder_7d493_14 ⟨_, rfl, rfl⟩ ⟨rfl, rfl, rfl⟩
theorem h_J0_isLatin1_aae02 {G : GT} {f0 : Nat} {M : MM} {hi k n s vb len : Nat} {g : Nat → Int32} (hs : M s = some (.inr (11, [.ref vb, .int 0, .int 0, .int 0]))) (hv : M vb = some (.inl (0, len, .inl g))) (hf0 : 1 ≤ f0) : Ex G f0 mJ0_isLatin1_aae02 [.ref s] M hi k n (RH (.inl (some (.int 1))) M hi) := by
  obtain ⟨f, rfl, hf⟩ := suc_of hf0
  refine ⟨Nat.le_of_ble_eq_true rfl, ?_⟩
  refine V_getsC dJ0_isLatin1_aae02_0 tw_375 ?_
  refine V_if_eq (tgt := 17) dJ0_isLatin1_aae02_3 rfl (fun hcq => absurd hcq (by decide)) (fun _ => ?_)
  refine V_aload_n (i := 0) dJ0_isLatin1_aae02_6 rfl rfl ?_
  refine V_getfield dJ0_isLatin1_aae02_7 hs fl_J0_15 rfl ?_
  refine V_if_ne (tgt := 17) dJ0_isLatin1_aae02_10 rfl (fun hcq => absurd hcq (fun h => h rfl)) (fun _ => ?_)
  refine V_iconst (v := 1) dJ0_isLatin1_aae02_13 (by decide) ?_
  refine V_goto (tgt := 18) dJ0_isLatin1_aae02_14 rfl ?_
  exact V_ireturn dJ0_isLatin1_aae02_18 ⟨_, rfl, rfl⟩ ⟨rfl, rfl, rfl⟩
theorem h_J0_length_8abf5 {G : GT} {f0 : Nat} {M : MM} {hi k n s vb len : Nat} {g : Nat → Int32} (hs : M s = some (.inr (11, [.ref vb, .int 0, .int 0, .int 0]))) (hv : M vb = some (.inl (0, len, .inl g))) (hf0 : 2 ≤ f0) : Ex G f0 mJ0_length_8abf5 [.ref s] M hi k n (RH (.inl (some (.int (nI len)))) M hi) := by
  obtain ⟨f, rfl, hf⟩ := suc_of hf0
  refine ⟨Nat.le_of_ble_eq_true rfl, ?_⟩
  refine V_aload_n (i := 0) dJ0_length_8abf5_0 rfl rfl ?_
  refine V_getfield dJ0_length_8abf5_1 hs fl_J0_9 rfl ?_
  refine V_alen (t := 0) (v := nI len) dJ0_length_8abf5_4 hv (by decide) rfl ?_
  refine V_aload_n (i := 0) dJ0_length_8abf5_5 rfl rfl ?_
  refine V_callV (As := []) (k2 := 0) (n2 := 0) dJ0_length_8abf5_6 cv_J0_335 rfl ⟨_, _, _, hs, rfl, rfl⟩ rfl (Nat.le_of_ble_eq_true rfl) (h_J0_coder_7d493 hs hv (Nat.le_trans (Nat.le_of_ble_eq_true rfl) hf)) (fun v M2 hi2 hp => ?_) (fun E M2 hi2 hp => by obtain ⟨h1, -⟩ := hp; cases h1)
  obtain ⟨h1, rfl, rfl⟩ := hp
  cases h1
  refine V_ishr dJ0_length_8abf5_9 ?_
  rw [shr0]
  exact V_ireturn dJ0_length_8abf5_10 ⟨_, rfl, rfl⟩ ⟨rfl, rfl, rfl⟩
theorem asc2 : ∀ c, c < 128 → ((nI c &&& 255).toUInt32 % 65536).toInt32 = nI c ∧ narrow .char (.int (nI c)) = .int (nI c) := by decide +kernel
theorem h_J1_charAt_3b067 {G : GT} {f0 : Nat} {M : MM} {hi k n vb len c : Nat} {g : Nat → Int32} {x : Int32} (hv : M vb = some (.inl (0, len, .inl g))) (hx : inr x len = true) (hl5 : len ≤ 5000) (hc : c < 128) (hg : g (ix x) = nI c) (hf0 : 3 ≤ f0) : Ex G f0 mJ1_charAt_3b067 [.ref vb, .int x] M hi k n (RH (.inl (some (.int (nI c)))) M hi) := by
  obtain ⟨f, rfl, hf⟩ := suc_of hf0
  refine ⟨Nat.le_of_ble_eq_true rfl, ?_⟩
  refine V_iload_n (i := 1) dJ1_charAt_3b067_0 rfl rfl ?_
  refine V_aload_n (i := 0) dJ1_charAt_3b067_1 rfl rfl ?_
  refine V_alen (t := 0) (v := nI len) dJ1_charAt_3b067_2 hv (by decide) rfl ?_
  refine V_callS (a := 0) (As := [_, _]) (k2 := 0) (n2 := 0) dJ1_charAt_3b067_3 cs_J1_9 rfl rfl (Nat.le_of_ble_eq_true rfl) (e_J0_checkIndex (Nat.le_trans (Nat.le_of_ble_eq_true rfl) hf) (inr_ge hx) (inr_ltS hx hl5)) (fun v M2 hi2 hp => ?_) (fun E M2 hi2 hp => by obtain ⟨h1, -⟩ := hp; cases h1)
  obtain ⟨h1, rfl, rfl⟩ := hp
  cases h1
  refine V_aload_n (i := 0) dJ1_charAt_3b067_6 rfl rfl ?_
  refine V_iload_n (i := 1) dJ1_charAt_3b067_7 rfl rfl ?_
  refine V_baload (n0 := len) (g := g) dJ1_charAt_3b067_8 hv (inr_vp hx) ?_
  rw [show g x.toNatClampNeg = nI c from hg]
  refine V_sipush (v := 255) dJ1_charAt_3b067_9 (by decide) ?_
  refine V_iand dJ1_charAt_3b067_12 ?_
  refine V_i2c dJ1_charAt_3b067_13 (asc2 c hc).1 ?_
  exact V_ireturn dJ1_charAt_3b067_14 ⟨_, rfl, (asc2 c hc).2⟩ ⟨rfl, rfl, rfl⟩
theorem h_J0_charAt_5068e {G : GT} {f0 : Nat} {M : MM} {hi k n s vb len : Nat} {g : Nat → Int32} (hs : M s = some (.inr (11, [.ref vb, .int 0, .int 0, .int 0]))) (hv : M vb = some (.inl (0, len, .inl g))) {c : Nat} {x : Int32} (hx : inr x len = true) (hl5 : len ≤ 5000) (hc : c < 128) (hg : g (ix x) = nI c) (hf0 : 4 ≤ f0) : Ex G f0 mJ0_charAt_5068e [.ref s, .int x] M hi k n (RH (.inl (some (.int (nI c)))) M hi) := by
  obtain ⟨f, rfl, hf⟩ := suc_of hf0
  refine ⟨Nat.le_of_ble_eq_true rfl, ?_⟩
  refine V_aload_n (i := 0) dJ0_charAt_5068e_0 rfl rfl ?_
  refine V_callV (As := []) (k2 := 0) (n2 := 0) dJ0_charAt_5068e_1 cv_J0_492 rfl ⟨_, _, _, hs, rfl, rfl⟩ rfl (Nat.le_of_ble_eq_true rfl) (h_J0_isLatin1_aae02 hs hv (Nat.le_trans (Nat.le_of_ble_eq_true rfl) hf)) (fun v M2 hi2 hp => ?_) (fun E M2 hi2 hp => by obtain ⟨h1, -⟩ := hp; cases h1)
  obtain ⟨h1, rfl, rfl⟩ := hp
  cases h1
  refine V_if_eq (tgt := 16) dJ0_charAt_5068e_4 rfl (fun hcq => absurd hcq (by decide)) (fun _ => ?_)
  refine V_aload_n (i := 0) dJ0_charAt_5068e_7 rfl rfl ?_
  refine V_getfield dJ0_charAt_5068e_8 hs fl_J0_9 rfl ?_
  refine V_iload_n (i := 1) dJ0_charAt_5068e_11 rfl rfl ?_
  refine V_callS (a := 0) (As := [_, _]) (k2 := 0) (n2 := 0) dJ0_charAt_5068e_12 cs_J0_495 rfl rfl (Nat.le_of_ble_eq_true rfl) (h_J1_charAt_3b067 hv hx hl5 hc hg (Nat.le_trans (Nat.le_of_ble_eq_true rfl) hf)) (fun v M2 hi2 hp => ?_) (fun E M2 hi2 hp => by obtain ⟨h1, -⟩ := hp; cases h1)
  obtain ⟨h1, rfl, rfl⟩ := hp
  cases h1
  exact V_ireturn dJ0_charAt_5068e_15 ⟨_, rfl, (asc2 c hc).2⟩ ⟨rfl, rfl, rfl⟩
