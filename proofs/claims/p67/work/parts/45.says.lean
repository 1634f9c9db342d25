/-! THE LAW's says(..): the text twenty bytes a call -/
def SYx (b : Nat) (W : Nat → Nat → Int32) (s : Nat) (T : List Int32) (M : MM) (hi : Nat) : Prop := b + 609 ≤ s ∧ MEM b 609 W M = M ∧ STx s T M hi
/-- the byte at place j of the text, a blank behind its end -/
noncomputable def f_sch (T : List Int32) (x : Int32) {R : Type} (K : Int32 → Option R) : Option R := if nI T.length ≤ x then K 32 else gd (inr x T.length && inr (T.getD (ix x) 0) 128) (K (T.getD (ix x) 0))
noncomputable def l_says_17 (T : List Int32) (i : Int32) {R : Type} (K : (Nat → Int32) → Option R) : Nat → (Nat → Int32) → Int32 → Option R
  | 0, _, _ => none
  | N + 1, F, x => if 20 ≤ x then K F else gd (inr (x / 4) 5) (f_sch T (i + x) (fun c => bnd (upd F (ix (x / 4)) (F (ix (x / 4)) <<< (8 &&& 31) ||| c)) (fun F => l_says_17 T i K N F (x + 1))))
noncomputable def l_says_2 (T : List Int32) : Nat → (Nat → Nat → Int32) → Int32 → Option (Nat → Nat → Int32)
  | 0, _, _ => none
  | N + 1, W, i => if nI T.length ≤ i then (match f_X9_truncateInput W (nI T.length) with | some (.inr _, W2) => some W2 | _ => none) else l_says_17 T i (fun F => match f_X9_appendInput W (F 0) (F 1) (F 2) (F 3) (F 4) with | some (.inr _, W2) => l_says_2 T N W2 (i + 20) | _ => none) 21 (fun _ => 0) 0
noncomputable def f_L_says (W : Nat → Nat → Int32) (T : List Int32) : Option (Nat → Nat → Int32) := gd (Nat.ble T.length 300) (l_says_2 T 17 W 0)
theorem MEM_2 {b c : Nat} {W W2 : Nat → Nat → Int32} {M : MM} : MEM b c W (MEM b c W2 M) = MEM b c W M := by
  funext a
  unfold MEM
  by_cases h : b ≤ a ∧ a < b + c
  · rw [if_pos h, if_pos h]
  · rw [if_neg h, if_neg h, if_neg h]
theorem MEM_off {b c a : Nat} {W : Nat → Nat → Int32} {M : MM} (h : b + c ≤ a) : MEM b c W M a = M a := by
  unfold MEM
  rw [if_neg (by omega)]
theorem SYx.wr {b s hi hi2 : Nat} {W W2 : Nat → Nat → Int32} {T : List Int32} {M : MM} (q : SYx b W s T M hi) (hle : hi ≤ hi2) : SYx b W2 s T (MEM b 609 W2 M) hi2 := by
  obtain ⟨q1, q2, vb, g, q3, q4, q5, q6, q7⟩ := q
  exact ⟨q1, MEM_2, vb, g, (MEM_off q1).trans q3, (MEM_off (by omega)).trans q4, q5, by omega, q7⟩
theorem SYx.new {b s hi : Nat} {W : Nat → Nat → Int32} {T : List Int32} {M : MM} {e : va_E} {a : Nat} (q : SYx b W s T M hi) (ha : hi ≤ a) : SYx b W s T (mset M a e) (a + 1) := by
  obtain ⟨q1, q2, vb, g, q3, q4, q5, q6, q7⟩ := q
  refine ⟨q1, ?_, vb, g, (mset_ne (by omega)).trans q3, (mset_ne (by omega)).trans q4, q5, by omega, q7⟩
  funext x
  have ex := congrFun q2 x
  unfold MEM at ex ⊢
  unfold mset
  by_cases h : b ≤ x ∧ x < b + 609
  · rw [if_pos h] at ex ⊢
    rw [ex, if_neg (by omega)]
  · rw [if_neg h]
section Says
variable {G : GT} {f : Nat} {b s k n : Nat} {W : Nat → Nat → Int32} {T : List Int32}
/-- the String's length and its bytes, from the law's frame -/
theorem Y_len {md : MD} {P0 : PS} {pc : Nat} {lv : List (Nat × Value)} {rest : List Value} {M : MM} {hi idx : Nat} (q : SYx b W s T M hi) (hd : decode md.2.1 pc = .ok (.invokevirtual idx, 3)) (hc : CVr md.1.cls idx mJ0_length_8abf5 0) (hcs : csum rest ≤ 8) (hf : 2 ≤ f) (kk : V G f (Ex G f) md P0 (pc + 3) lv (.int (nI T.length) :: rest) M hi k n) : V G f (Ex G f) md P0 pc lv (.ref s :: rest) M hi k n := by
  obtain ⟨q1, q2, vb, g, q3, q4, q5, q6, q7⟩ := q
  exact V_callV (As := []) (k2 := 0) (n2 := 0) hd hc rfl ⟨_, _, _, q3, rfl, rfl⟩ rfl hcs (h_J0_length_8abf5 q3 q4 hf) (fun v M2 hi2 hp => by obtain ⟨h1, rfl, rfl⟩ := hp; cases h1; exact kk) (fun E M2 hi2 hp => by obtain ⟨h1, -⟩ := hp; cases h1)
theorem Y_chr {md : MD} {P0 : PS} {pc : Nat} {lv : List (Nat × Value)} {rest : List Value} {M : MM} {hi idx : Nat} {x : Int32} (q : SYx b W s T M hi) (h3 : T.length ≤ 300) (hx : inr x T.length = true) (h8 : inr (T.getD (ix x) 0) 128 = true) (hd : decode md.2.1 pc = .ok (.invokevirtual idx, 3)) (hc : CVr md.1.cls idx mJ0_charAt_5068e 1) (hcs : csum rest ≤ 8) (hf : 4 ≤ f) (kk : V G f (Ex G f) md P0 (pc + 3) lv (.int (T.getD (ix x) 0) :: rest) M hi k n) : V G f (Ex G f) md P0 pc lv (.int x :: .ref s :: rest) M hi k n := by
  obtain ⟨q1, q2, vb, g, q3, q4, q5, q6, q7⟩ := q
  have e : T.getD (ix x) 0 = nI (ix (T.getD (ix x) 0)) := (nI_ix h8).symm
  rw [e] at kk
  exact V_callV (As := [_]) (k2 := 0) (n2 := 0) hd hc rfl ⟨_, _, _, q3, rfl, rfl⟩ rfl hcs (h_J0_charAt_5068e q3 q4 hx (by omega) (inr_lt h8) ((q7 _ (inr_lt hx)).trans e) hf) (fun v M2 hi2 hp => by obtain ⟨h1, rfl, rfl⟩ := hp; cases h1; exact kk) (fun E M2 hi2 hp => by obtain ⟨h1, -⟩ := hp; cases h1)
theorem lv_says_17 {P0 : PS} {R : Type} {r : R} {i : Int32} {fa : Nat} {Mx : MM} {K : (Nat → Int32) → Option R} (hf : 8 ≤ f) (h3 : T.length ≤ 300) (hfa : SYx b W s T Mx fa) (hK : ∀ F : Nat → Int32, K F = some r → V G f (Ex G f) mL_says P0 70 [(0, .ref b), (1, .ref s), (2, .int i), (3, .ref fa)] [] (mset Mx fa (.inl (1, 5, .inl F))) (fa + 1) k n) : ∀ (N : Nat) (F : Nat → Int32) (x : Int32), l_says_17 T i K N F x = some r → V G f (Ex G f) mL_says P0 17 [(0, .ref b), (1, .ref s), (2, .int i), (3, .ref fa), (4, .int x)] [] (mset Mx fa (.inl (1, 5, .inl F))) (fa + 1) k n := by
  intro N
  induction N with
  | zero => intro F x h; cases h
  | succ N ih =>
    intro F x h
    rw [l_says_17] at h
    have hq : ∀ F : Nat → Int32, SYx b W s T (mset Mx fa (.inl (1, 5, .inl F))) (fa + 1) := fun F => hfa.new (Nat.le_refl _)
    refine V_iload (i := 4) dL_says_17 rfl ?_
    refine V_bipush (v := 20) dL_says_19 (by decide) ?_
    refine D_icmp_ge (tgt := 70) h dL_says_21 rfl (fun b1 h => ?_) (fun b1 h => ?_)
    · exact V_sub (ks := [0, 1, 2, 3]) rfl (hK _ h)
    · refine D_gd h fun g5 h => ?_
      refine V_aload_n (i := 3) dL_says_24 rfl rfl ?_
      refine V_iload (i := 4) dL_says_25 rfl ?_
      refine V_iconst (v := 4) dL_says_27 (by decide) ?_
      refine V_idiv dL_says_28 (by decide) ?_
      refine V_aload_n (i := 3) dL_says_29 rfl rfl ?_
      refine V_iload (i := 4) dL_says_30 rfl ?_
      refine V_iconst (v := 4) dL_says_32 (by decide) ?_
      refine V_idiv dL_says_33 (by decide) ?_
      refine V_iaload (n0 := 5) (g := F) dL_says_34 mset_eq (inr_vp g5) ?_
      refine V_bipush (v := 8) dL_says_35 (by decide) ?_
      refine V_ishl dL_says_37 ?_
      refine V_iload_n (i := 2) dL_says_38 rfl rfl ?_
      refine V_iload (i := 4) dL_says_39 rfl ?_
      refine V_iadd dL_says_41 ?_
      refine V_aload_n (i := 1) dL_says_42 rfl rfl ?_
      refine Y_len (hq F) dL_says_43 cv_L_8 (Nat.le_of_ble_eq_true rfl) (Nat.le_trans (Nat.le_of_ble_eq_true rfl) hf) ?_
      unfold f_sch at h
      refine D_icmp_ge (tgt := 60) h dL_says_46 rfl (fun b2 h => ?_) (fun b2 h => ?_)
      · refine V_bipush (v := 32) dL_says_60 (by decide) ?_
        refine V_ior dL_says_62 ?_
        refine V_iastore (n0 := 5) (g := F) dL_says_63 mset_eq (inr_vp g5) ?_
        rw [mset_2]
        refine V_iinc (i := 4) (v := x + 1) dL_says_64 rfl rfl (Nat.le_of_ble_eq_true rfl) ?_
        refine V_goto (tgt := 17) dL_says_67 rfl ?_
        exact V_sub (ks := [1, 2, 3, 4, 0]) rfl (ih _ _ h)
      · refine D_gd h fun g6 h => ?_
        rw [Bool.and_eq_true] at g6
        refine V_aload_n (i := 1) dL_says_49 rfl rfl ?_
        refine V_iload_n (i := 2) dL_says_50 rfl rfl ?_
        refine V_iload (i := 4) dL_says_51 rfl ?_
        refine V_iadd dL_says_53 ?_
        refine Y_chr (hq F) h3 g6.1 g6.2 dL_says_54 cv_L_14 (Nat.le_of_ble_eq_true rfl) (Nat.le_trans (Nat.le_of_ble_eq_true rfl) hf) ?_
        refine V_goto (tgt := 62) dL_says_57 rfl ?_
        refine V_ior dL_says_62 ?_
        refine V_iastore (n0 := 5) (g := F) dL_says_63 mset_eq (inr_vp g5) ?_
        rw [mset_2]
        refine V_iinc (i := 4) (v := x + 1) dL_says_64 rfl rfl (Nat.le_of_ble_eq_true rfl) ?_
        refine V_goto (tgt := 17) dL_says_67 rfl ?_
        exact V_sub (ks := [1, 2, 3, 4, 0]) rfl (ih _ _ h)
/-- what says hands back: the class's numbers are W2, what lies behind the class's cells is as it may be -/
def SAY (b hi0 : Nat) (W2 : Nat → Nat → Int32) : PS := fun q M2 hi2 => q = .inl none ∧ MEM b 609 W2 M2 = M2 ∧ hi0 ≤ hi2
theorem lv_says_2 {hi0 : Nat} {r : Nat → Nat → Int32} (hf : 8 ≤ f) (h3 : T.length ≤ 300) : ∀ (N : Nat) (W : Nat → Nat → Int32) (i : Int32) (M : MM) (hi : Nat), SYx b W s T M hi → hi0 ≤ hi → l_says_2 T N W i = some r → V G f (Ex G f) mL_says (SAY b hi0 r) 2 [(0, .ref b), (1, .ref s), (2, .int i)] [] M hi (3 * N) (8 * (3 * N)) := by
  intro N
  induction N with
  | zero => intro W i M hi hq hle h; cases h
  | succ N ih =>
    intro W i M hi hq hle h
    rw [l_says_2] at h
    refine V_iload_n (i := 2) dL_says_2 rfl rfl ?_
    refine V_aload_n (i := 1) dL_says_3 rfl rfl ?_
    refine Y_len hq dL_says_4 cv_L_8 (Nat.le_of_ble_eq_true rfl) (Nat.le_trans (Nat.le_of_ble_eq_true rfl) hf) ?_
    refine D_icmp_ge (tgt := 96) h dL_says_7 rfl (fun b1 h => ?_) (fun b1 h => ?_)
    · refine V_aload_n (i := 0) dL_says_96 rfl rfl ?_
      refine V_aload_n (i := 1) dL_says_97 rfl rfl ?_
      refine Y_len hq dL_says_98 cv_L_8 (Nat.le_of_ble_eq_true rfl) (Nat.le_trans (Nat.le_of_ble_eq_true rfl) hf) ?_
      refine V_spare (k2 := 0 + 1) (n2 := 0 + 6) (by omega) (by omega) ?_
      split at h
      · rename_i x1 W2 he
        obtain rfl := Option.some.inj h
        have hx := e_X9_truncateInput (G := G) (b := b) (c := 609) (M := M) (hi := hi) (f0 := f) (Nat.le_trans (Nat.le_of_ble_eq_true rfl) hf) (Nat.le_refl _) he
        rw [hq.2.1] at hx
        refine V_callVm (As := [_]) dL_says_101 cv_L_24 rfl (hq.2.1 ▸ ⟨_, _, _, mem_x9 (Nat.le_refl _), rfl, rfl⟩) rfl (Nat.le_of_ble_eq_true rfl) hx (fun v M2 hi2 hle2 hp => ?_) (fun E M2 hi2 hle2 hp => by obtain ⟨h1, -⟩ := hp; cases h1)
        obtain ⟨h1, rfl⟩ := hp
        cases h1
        refine V_pop dL_says_104 rfl ?_
        exact V_return dL_says_105 rfl ⟨rfl, MEM_2, Nat.le_trans hle hle2⟩
      · cases h
    · refine V_iconst (v := 5) dL_says_10 (by decide) ?_
      refine V_spare (k2 := (3 * N + 1) + 1) (n2 := (8 * (3 * N) + 6) + 5) (by omega) (by omega) ?_
      refine V_newarray (aty := .int) (t := 1) (N0 := 5) (x := (5, .inl fun _ => 0)) dL_says_11 tw_77 rfl (by decide) (fun cA => rfl) (by decide) (by decide) (by decide) ?_
      refine V_astore_n (i := 3) dL_says_13 rfl (Nat.le_of_ble_eq_true rfl) ?_
      refine V_iconst (v := 0) dL_says_14 (by decide) ?_
      refine V_istore (i := 4) dL_says_15 (Nat.le_of_ble_eq_true rfl) ?_
      refine V_sub (ks := [2, 3, 4, 1, 0]) rfl (lv_says_17 (k := 3 * N + 1) (n := 8 * (3 * N) + 6) hf h3 hq ?_ 21 _ _ h)
      clear h
      intro F h
      have hq2 : SYx b W s T (mset M hi (.inl (1, 5, .inl F))) (hi + 1) := hq.new (Nat.le_refl _)
      refine V_aload_n (i := 0) dL_says_70 rfl rfl ?_
      refine V_aload_n (i := 3) dL_says_71 rfl rfl ?_
      refine V_iconst (v := 0) dL_says_72 (by decide) ?_
      refine V_iaload (n0 := 5) (g := F) dL_says_73 mset_eq (inr_vp rfl) ?_
      refine V_aload_n (i := 3) dL_says_74 rfl rfl ?_
      refine V_iconst (v := 1) dL_says_75 (by decide) ?_
      refine V_iaload (n0 := 5) (g := F) dL_says_76 mset_eq (inr_vp rfl) ?_
      refine V_aload_n (i := 3) dL_says_77 rfl rfl ?_
      refine V_iconst (v := 2) dL_says_78 (by decide) ?_
      refine V_iaload (n0 := 5) (g := F) dL_says_79 mset_eq (inr_vp rfl) ?_
      refine V_aload_n (i := 3) dL_says_80 rfl rfl ?_
      refine V_iconst (v := 3) dL_says_81 (by decide) ?_
      refine V_iaload (n0 := 5) (g := F) dL_says_82 mset_eq (inr_vp rfl) ?_
      refine V_aload_n (i := 3) dL_says_83 rfl rfl ?_
      refine V_iconst (v := 4) dL_says_84 (by decide) ?_
      refine V_iaload (n0 := 5) (g := F) dL_says_85 mset_eq (inr_vp rfl) ?_
      split at h
      · rename_i x1 W2 he
        have hx := e_X9_appendInput (G := G) (b := b) (c := 609) (M := mset M hi (.inl (1, 5, .inl F))) (hi := hi + 1) (f0 := f) (Nat.le_trans (Nat.le_of_ble_eq_true rfl) hf) (Nat.le_refl _) he
        rw [hq2.2.1] at hx
        refine V_callVm (As := [_, _, _, _, _]) (k := 3 * N) (k2 := 1) (n := 8 * (3 * N)) (n2 := 6) dL_says_86 cv_L_18 rfl (hq2.2.1 ▸ ⟨_, _, _, mem_x9 (Nat.le_refl _), rfl, rfl⟩) rfl (Nat.le_of_ble_eq_true rfl) hx (fun v M2 hi2 hle2 hp => ?_) (fun E M2 hi2 hle2 hp => by obtain ⟨h1, -⟩ := hp; cases h1)
        obtain ⟨h1, rfl⟩ := hp
        cases h1
        refine V_pop dL_says_89 rfl ?_
        refine V_iinc (i := 2) (v := i + 20) dL_says_90 rfl rfl (Nat.le_of_ble_eq_true rfl) ?_
        refine V_goto (tgt := 2) dL_says_93 rfl ?_
        exact V_sub (ks := [1, 2, 0]) rfl (ih _ _ _ _ (hq2.wr hle2) (by omega) h)
      · cases h
theorem e_L_says {f0 hi0 : Nat} {M : MM} {r : Nat → Nat → Int32} (hf0 : 9 ≤ f0) (hq : SYx b W s T M hi0) (h : f_L_says W T = some r) : Ex G f0 mL_says [.ref b, .ref s] M hi0 51 (8 * 51) (SAY b hi0 r) := by
  obtain ⟨f, rfl, hf⟩ := suc_of hf0
  unfold f_L_says at h
  obtain ⟨g1, h⟩ := gd_ok h
  refine ⟨Nat.le_of_ble_eq_true rfl, ?_⟩
  refine V_iconst (v := 0) dL_says_0 (by decide) ?_
  refine V_istore_n (i := 2) dL_says_1 rfl (Nat.le_of_ble_eq_true rfl) ?_
  exact V_sub (ks := [1, 2, 0]) rfl (lv_says_2 hf (Nat.ble_eq.mp g1) 17 _ _ _ _ hq (Nat.le_refl _) h)
end Says
