/-! THE LAW's text(..) -/
/-- what cell(s, k) answers -/
def celG (G : GT) (x : Int32) : Int32 := if ix x < G.2.1 then G.2.2.1 (ix x) &&& 2147483647 else 0
def CLG (G : GT) (cl : Int32 → Int32) : Prop := cl = celG G ∧ G.2.1 ≤ 5000
def HTx (sb : Nat) (M0 : MM) (hi0 : Nat) (T : List Int32) (M : MM) (hi : Nat) : Prop := (∃ cap, cap ≤ 640 ∧ SBx sb T cap M hi) ∧ (∀ a, a < sb → M a = M0 a) ∧ hi0 ≤ hi
def STq (M0 : MM) (hi0 : Nat) (T : List Int32) : PS := fun q M2 hi2 => ∃ s, q = .inl (some (.ref s)) ∧ STx s T M2 hi2 ∧ hi0 ≤ s ∧ (∀ a, a < hi0 → M2 a = M0 a) ∧ hi0 ≤ hi2
section TRows
variable {G : GT} {f : Nat} {md : MD} {P0 : PS} {pc : Nat} {lv : List (Nat × Value)} {hi k n : Nat} {rest : List Value} {R : Type} {r : R}
variable {sb : Nat} {T : List Int32} {M M0 : MM} {hi0 : Nat}
theorem e_L_cell {f0 : Nat} {M : MM} {hi k n : Nat} {x : Int32} (hf0 : 1 ≤ f0) (hl : G.2.1 ≤ 5000) (hx : inr x 64 = true) : Ex G f0 mL_cell [.ref G.1, .int x] M hi k n (RH (.inl (some (.int (celG G x)))) M hi) := by
  obtain ⟨f, rfl, hf⟩ := suc_of hf0
  refine ⟨Nat.le_of_ble_eq_true rfl, ?_⟩
  refine V_iload_n (i := 1) dL_cell_0 rfl rfl ?_
  refine V_aload_n (i := 0) dL_cell_1 rfl rfl ?_
  refine V_slen dL_cell_2 ?_
  have e : x = nI (ix x) := (nI_ix hx).symm
  have h64 := inr_lt hx
  by_cases hlt : ix x < G.2.1
  · refine V_icmp_ge (tgt := 15) dL_cell_3 rfl (fun hq => absurd hq ?_) (fun _ => ?_)
    · rw [e]
      exact nI_ge hlt (by omega)
    · refine V_aload_n (i := 0) dL_cell_6 rfl rfl ?_
      refine V_iload_n (i := 1) dL_cell_7 rfl rfl ?_
      refine V_sld dL_cell_8 (fun q => ?_) ?_
      · rcases q with q | q
        · exact inr_ge hx q
        · exact absurd hlt (Nat.not_lt.mpr q)
      refine V_ldcI (v := 2147483647) dL_cell_9 tw_1064 ?_
      refine V_iand dL_cell_11 ?_
      refine V_goto (tgt := 16) dL_cell_12 rfl ?_
      refine V_ireturn dL_cell_16 ⟨_, rfl, rfl⟩ ⟨?_, rfl, rfl⟩
      unfold celG
      rw [if_pos hlt]
      rfl
  · refine V_icmp_ge (tgt := 15) dL_cell_3 rfl (fun _ => ?_) (fun hq => absurd ?_ hq)
    · refine V_iconst (v := 0) dL_cell_15 (by decide) ?_
      refine V_ireturn dL_cell_16 ⟨_, rfl, rfl⟩ ⟨?_, rfl, rfl⟩
      unfold celG
      rw [if_neg hlt]
    · rw [e]
      show nI G.2.1 ≤ nI (ix x)
      rw [z_n, z_n, z_le ⟨by omega, by omega⟩ ⟨by omega, by omega⟩]
      omega
theorem T_cell {cl : Int32 → Int32} {x : Int32} {idx : Nat} {K : Option R} (hcl : CLG G cl) (hh : gd (inr x 64) K = some r) (hd : decode md.2.1 pc = .ok (.invokestatic idx, 3)) (hc : CSr md.1.cls idx mL_cell 2) (hcs : csum rest ≤ 8) (hf : 1 ≤ f) (kk : K = some r → V G f (Ex G f) md P0 (pc + 3) lv (.int (cl x) :: rest) M hi k n) : V G f (Ex G f) md P0 pc lv (.int x :: .ref G.1 :: rest) M hi k n := by
  obtain ⟨g1, hh⟩ := gd_ok hh
  obtain ⟨rfl, hl⟩ := hcl
  exact V_callS (a := 0) (As := [_, _]) (k2 := 0) (n2 := 0) hd hc rfl rfl hcs (e_L_cell hf hl g1) (fun v M2 hi2 hp => by obtain ⟨h1, rfl, rfl⟩ := hp; cases h1; exact kk hh) (fun E M2 hi2 hp => by obtain ⟨h1, -⟩ := hp; cases h1)
theorem T_new {i1 i2 : Nat} (d0 : decode md.2.1 pc = .ok (.new i1, 3)) (d3 : decode md.2.1 (pc + 3) = .ok (.dup, 1)) (d4 : decode md.2.1 (pc + 3 + 1) = .ok (.invokespecial i2, 3)) (hn : NEW md.1.cls i1 12 4 [.null, .int 0, .int 0, .int 0]) (hc : CIr md.1.cls i2 mJ4_init_da8c8 0) (hcs : csum (.ref hi :: rest) ≤ 8) (hf : 3 ≤ f)
    (kk : ∀ (sb : Nat) (M2 : MM) (hi2 : Nat), hi ≤ sb → HTx sb M hi [] M2 hi2 → V G f (Ex G f) md P0 (pc + 3 + 1 + 3) lv (.ref sb :: rest) M2 hi2 k n) : V G f (Ex G f) md P0 pc lv rest M hi (k + 20) (n + 8 * 20) := by
  refine V_spare (k2 := (k + (0 + 1)) + 1) (n2 := (n + (0 + 16)) + 4) (by omega) (by omega) ?_
  refine V_new d0 hn ?_
  refine V_dup d3 rfl ?_
  refine V_callI (As := []) (k2 := 0 + 1) (n2 := 0 + 16) d4 hc rfl rfl hcs (e_J4_init_da8c8 mset_eq (Nat.lt_succ_self _) hf) (fun v M2 hi2 hp => ?_) (fun E M2 hi2 hp => by obtain ⟨h1, -⟩ := hp; cases h1)
  obtain ⟨h1, hsb, hlow, hle⟩ := hp
  cases h1
  exact kk hi M2 hi2 (Nat.le_refl _) ⟨hsb, fun a ha => (hlow a ha).trans (mset_ne (by omega)), by omega⟩
theorem HTx.go {T2 : List Int32} {M2 : MM} {hi2 cap : Nat} (q : HTx sb M0 hi0 T M hi) (h1 : ∃ cap, cap ≤ 640 ∧ SBx sb T2 cap M2 hi2) (h2 : ∀ a, a < sb → M2 a = M a) (h3 : hi ≤ hi2) : HTx sb M0 hi0 T2 M2 hi2 := ⟨h1, fun a ha => (h2 a ha).trans (q.2.1 a ha), Nat.le_trans q.2.2 h3⟩
theorem T_aS {j idx : Nat} {K : List Int32 → Option R} (hh : gd (Nat.ble (List.length T + lenS j) 300) (bnd (T ++ TXb j) K) = some r) (q : HTx sb M0 hi0 T M hi) (hd : decode md.2.1 pc = .ok (.invokevirtual idx, 3)) (hc : CVr md.1.cls idx mJ4_append_15ec4 1) (hj : j < nSTR) (hcs : csum rest ≤ 8) (hf : 6 ≤ f)
    (kk : ∀ (T : List Int32) (M : MM) (hi : Nat), HTx sb M0 hi0 T M hi → K T = some r → V G f (Ex G f) md P0 (pc + 3) lv (.ref sb :: rest) M hi k n) : V G f (Ex G f) md P0 pc lv (.ref (G.2.2.2.1 j) :: .ref sb :: rest) M hi (k + 80) (n + 8 * 80) := by
  obtain ⟨g1, hh⟩ := gd_ok hh
  obtain ⟨cap, hcap, hsb⟩ := q.1
  obtain ⟨va, mb, g, hs, hv, -⟩ := id hsb
  refine V_spare (k2 := k + (0 + 1)) (n2 := n + (0 + 640)) (by omega) (by omega) ?_
  refine V_callV (As := [_]) (k2 := 0 + 1) (n2 := 0 + 640) hd hc rfl ⟨_, _, _, hs, rfl, rfl⟩ rfl hcs (e_J4_append_15ec4 hsb hcap hj (Nat.ble_eq.mp g1) hf) (fun v M2 hi2 hp => ?_) (fun E M2 hi2 hp => by obtain ⟨h1, -⟩ := hp; cases h1)
  obtain ⟨h1, h2, h3, h4⟩ := hp
  cases h1
  exact kk _ _ _ (q.go (cap := cap) h2 h3 h4) hh
theorem T_aC {idx : Nat} {x : Int32} {K : List Int32 → Option R} (hh : gd (inr x 128 && Nat.ble (List.length T + 1) 300) (bnd (T ++ [x]) K) = some r) (q : HTx sb M0 hi0 T M hi) (hd : decode md.2.1 pc = .ok (.invokevirtual idx, 3)) (hc : CVr md.1.cls idx mJ4_append_cf468 1) (hcs : csum rest ≤ 8) (hf : 6 ≤ f)
    (kk : ∀ (T : List Int32) (M : MM) (hi : Nat), HTx sb M0 hi0 T M hi → K T = some r → V G f (Ex G f) md P0 (pc + 3) lv (.ref sb :: rest) M hi k n) : V G f (Ex G f) md P0 pc lv (.int x :: .ref sb :: rest) M hi (k + 80) (n + 8 * 80) := by
  obtain ⟨g1, hh⟩ := gd_ok hh
  rw [Bool.and_eq_true] at g1
  obtain ⟨cap, hcap, hsb⟩ := q.1
  obtain ⟨va, mb, g, hs, hv, -⟩ := id hsb
  have e : x = nI (ix x) := (nI_ix g1.1).symm
  rw [e] at hh ⊢
  refine V_spare (k2 := k + (0 + 1)) (n2 := n + (0 + 640)) (by omega) (by omega) ?_
  refine V_callV (As := [_]) (k2 := 0 + 1) (n2 := 0 + 640) hd hc rfl ⟨_, _, _, hs, rfl, rfl⟩ rfl hcs (e_J4_append_cf468 hsb hcap (inr_lt g1.1) (Nat.ble_eq.mp g1.2) hf) (fun v M2 hi2 hp => ?_) (fun E M2 hi2 hp => by obtain ⟨h1, -⟩ := hp; cases h1)
  obtain ⟨h1, h2, h3, h4⟩ := hp
  cases h1
  exact kk _ _ _ (q.go (cap := cap) h2 h3 h4) hh
theorem T_aI {idx : Nat} {x : Int32} {K : List Int32 → Option R} (hh : gd (inr x 10 && Nat.ble (List.length T + 1) 300) (bnd (T ++ [nI (48 + ix x)]) K) = some r) (q : HTx sb M0 hi0 T M hi) (hd : decode md.2.1 pc = .ok (.invokevirtual idx, 3)) (hc : CVr md.1.cls idx mJ4_append_bf812 1) (hcs : csum rest ≤ 8) (hf : 6 ≤ f)
    (kk : ∀ (T : List Int32) (M : MM) (hi : Nat), HTx sb M0 hi0 T M hi → K T = some r → V G f (Ex G f) md P0 (pc + 3) lv (.ref sb :: rest) M hi k n) : V G f (Ex G f) md P0 pc lv (.int x :: .ref sb :: rest) M hi (k + 80) (n + 8 * 80) := by
  obtain ⟨g1, hh⟩ := gd_ok hh
  rw [Bool.and_eq_true] at g1
  obtain ⟨cap, hcap, hsb⟩ := q.1
  obtain ⟨va, mb, g, hs, hv, -⟩ := id hsb
  have e : x = nI (ix x) := (nI_ix g1.1).symm
  rw [show V G f (Ex G f) md P0 pc lv (.int x :: .ref sb :: rest) M hi (k + 80) (n + 8 * 80) = V G f (Ex G f) md P0 pc lv (.int (nI (ix x)) :: .ref sb :: rest) M hi (k + 80) (n + 8 * 80) by rw [← e]]
  refine V_spare (k2 := k + (0 + 1)) (n2 := n + (0 + 640)) (by omega) (by omega) ?_
  refine V_callV (As := [_]) (k2 := 0 + 1) (n2 := 0 + 640) hd hc rfl ⟨_, _, _, hs, rfl, rfl⟩ rfl hcs (e_J4_append_bf812 hsb hcap (inr_lt g1.1) (Nat.ble_eq.mp g1.2) hf) (fun v M2 hi2 hp => ?_) (fun E M2 hi2 hp => by obtain ⟨h1, -⟩ := hp; cases h1)
  obtain ⟨h1, h2, h3, h4⟩ := hp
  cases h1
  exact kk _ _ _ (q.go (cap := cap) h2 h3 h4) hh
theorem T_toS {idx : Nat} (q : HTx sb M0 hi0 T M hi) (hsb : hi0 ≤ sb) (hd : decode md.2.1 pc = .ok (.invokevirtual idx, 3)) (hc : CVr md.1.cls idx mJ4_toString_0e30d 0) (hcs : csum rest ≤ 8) (hf : 7 ≤ f)
    (kk : ∀ (s : Nat) (M : MM) (hi : Nat), STq M0 hi0 T (.inl (some (.ref s))) M hi → V G f (Ex G f) md P0 (pc + 3) lv (.ref s :: rest) M hi k n) : V G f (Ex G f) md P0 pc lv (.ref sb :: rest) M hi (k + 100) (n + 8 * 100) := by
  obtain ⟨cap, hcap, hsq⟩ := q.1
  have hw := hsq.wr
  obtain ⟨va, mb, g, hs, hv, -⟩ := id hsq
  refine V_spare (k2 := k + (0 + 2)) (n2 := n + (0 + 644)) (by omega) (by omega) ?_
  refine V_callV (As := []) (k2 := 0 + 2) (n2 := 0 + 644) hd hc rfl ⟨_, _, _, hs, rfl, rfl⟩ rfl hcs (e_J4_toString_0e30d hsq hcap hf) (fun v M2 hi2 hp => ?_) (fun E M2 hi2 hp => by obtain ⟨h1, -⟩ := hp; cases h1)
  obtain ⟨h1, h2, h3, h4⟩ := hp
  cases h1
  exact kk _ _ _ ⟨_, rfl, h2, q.2.2, fun a ha => (h3 a (by omega)).trans (q.2.1 a (by omega)), by have := q.2.2; omega⟩
end TRows
noncomputable def l_L_text_23 (cl : Int32 → Int32) (c1 : Int32) (c2 : Int32) (K74 : (List Int32) → Option (List Int32)) : Nat → (List Int32) → Int32 → Option (List Int32)
  | 0, _, _ => none
  | N + 1, T, x4 => if c2 ≤ x4 then K74 T else if ((c1 >>> (((3 : Int32) + x4) &&& 31)) &&& (1 : Int32)) = (1 : Int32) then gd (Nat.blt 0 N) (gd (Nat.ble (List.length T + lenS 16) 300) (bnd (T ++ TXb 16) (fun T9 => gd (inr x4 (lenS 18)) (gd (inr (chS 18 (ix x4)) 128 && Nat.ble (List.length T9 + 1) 300) (bnd (T9 ++ [chS 18 (ix x4)]) (fun T10 => gd (inr (59 : Int32) 128 && Nat.ble (List.length T10 + 1) 300) (bnd (T10 ++ [(59 : Int32)]) (fun T11 => l_L_text_23 cl c1 c2 K74 N T11 (x4 + (1 : Int32)))))))))) else gd (Nat.blt 0 N) (gd (Nat.ble (List.length T + lenS 17) 300) (bnd (T ++ TXb 17) (fun T6 => gd (inr x4 (lenS 18)) (gd (inr (chS 18 (ix x4)) 128 && Nat.ble (List.length T6 + 1) 300) (bnd (T6 ++ [chS 18 (ix x4)]) (fun T7 => gd (inr (59 : Int32) 128 && Nat.ble (List.length T7 + 1) 300) (bnd (T7 ++ [(59 : Int32)]) (fun T8 => l_L_text_23 cl c1 c2 K74 N T8 (x4 + (1 : Int32))))))))))
theorem lv_L_text_23 {G : GT} {f : Nat} {sb : Nat} {M0 : MM} {hi0 : Nat} {cl : Int32 → Int32} {c1 : Int32} {c2 : Int32} {K74 : (List Int32) → Option (List Int32)} {k : Nat} {r : (List Int32)} (hf : 7 ≤ f) (hsb : hi0 ≤ sb) (hcl : CLG G cl) (hK74 : ∀ (Tk : List Int32) (M : MM) (hi : Nat), HTx sb M0 hi0 Tk M hi → K74 Tk = some r → V G f (Ex G f) mL_text (STq M0 hi0 r) 74 [(0, .ref (G.1)), (1, .int c1), (2, .int c2), (3, .ref (sb))] [] M hi (k) (8 * (k))) : ∀ (N : Nat) (T : List Int32) (x4 : Int32) (M : MM) (hi : Nat), HTx sb M0 hi0 T M hi → l_L_text_23 cl c1 c2 K74 N T x4 = some r → V G f (Ex G f) mL_text (STq M0 hi0 r) 23 [(0, .ref (G.1)), (1, .int c1), (2, .int c2), (3, .ref (sb)), (4, .int x4)] [] M hi (240 * (N - 1) + k) (8 * (240 * (N - 1) + k)) := by
  intro N
  induction N with
  | zero => intro T x4 M hi hq h; cases h
  | succ N ih =>
    intro T x4 M hi hq h
    rw [l_L_text_23] at h
    show V _ _ _ _ _ _ _ _ _ _ (240 * N + k) (8 * (240 * N + k))
    refine V_iload (i := 4) dL_text_23 rfl ?_
    refine V_iload_n (i := 2) dL_text_25 rfl rfl ?_
    refine D_icmp_ge (tgt := 74) h dL_text_26 rfl (fun b4 h => ?_) (fun b4 h => ?_)
    · refine V_spare (k2 := k) (n2 := 8 * (k)) (by omega) (by omega) ?_
      exact V_sub (ks := [0, 1, 2, 3]) rfl (hK74 _ _ _ hq h)
    · refine V_aload_n (i := 3) dL_text_29 rfl rfl ?_
      refine V_iload_n (i := 1) dL_text_30 rfl rfl ?_
      refine V_iconst (v := 3) dL_text_31 (by decide) ?_
      refine V_iload (i := 4) dL_text_32 rfl ?_
      refine V_iadd dL_text_34 ?_
      refine V_ishr dL_text_35 ?_
      refine V_iconst (v := 1) dL_text_36 (by decide) ?_
      refine V_iand dL_text_37 ?_
      refine V_iconst (v := 1) dL_text_38 (by decide) ?_
      refine D_icmp_ne (tgt := 47) h dL_text_39 rfl (fun b5 h => ?_) (fun b5 h => ?_)
      · refine V_ldcS (j := 17) dL_text_47 (by decide +kernel) ?_
        refine D_gd h fun gN h => ?_
        have gN := Nat.blt_eq.mp gN
        refine V_spare (k2 := 240 * (N - 1) + k + 240) (n2 := 8 * (240 * (N - 1) + k + 240)) (by omega) (by omega) ?_
        refine V_spare (k2 := 240 * (N - 1) + k + 160 + 80) (n2 := 8 * (240 * (N - 1) + k + 160) + 8 * 80) (by omega) (by omega) ?_
        refine T_aS h hq dL_text_49 cv_L_46 (by decide) (Nat.le_of_ble_eq_true rfl) (Nat.le_trans (Nat.le_of_ble_eq_true rfl) hf) fun T6 M hi hq h => ?_
        refine V_ldcS (j := 18) dL_text_52 (by decide +kernel) ?_
        refine V_iload (i := 4) dL_text_54 rfl ?_
        refine D_schar h dL_text_56 cv_L_14 (by decide) (Nat.le_of_ble_eq_true rfl) (Nat.le_trans (Nat.le_of_ble_eq_true rfl) hf) fun h => ?_
        refine V_spare (k2 := 240 * (N - 1) + k + 80 + 80) (n2 := 8 * (240 * (N - 1) + k + 80) + 8 * 80) (by omega) (by omega) ?_
        refine T_aC h hq dL_text_59 cv_L_52 (Nat.le_of_ble_eq_true rfl) (Nat.le_trans (Nat.le_of_ble_eq_true rfl) hf) fun T7 M hi hq h => ?_
        refine V_bipush (v := 59) dL_text_62 (by decide) ?_
        refine V_spare (k2 := 240 * (N - 1) + k + 80) (n2 := 8 * (240 * (N - 1) + k) + 8 * 80) (by omega) (by omega) ?_
        refine T_aC h hq dL_text_64 cv_L_52 (Nat.le_of_ble_eq_true rfl) (Nat.le_trans (Nat.le_of_ble_eq_true rfl) hf) fun T8 M hi hq h => ?_
        refine V_pop dL_text_67 rfl ?_
        refine D_iinc (i := 4) (w := 1) dL_text_68 rfl (by decide) (Nat.le_of_ble_eq_true rfl) ?_
        refine V_goto (tgt := 23) dL_text_71 rfl ?_
        exact V_sub (ks := [1, 2, 3, 4, 0]) rfl (ih _ _ _ _ hq h)
      · refine V_ldcS (j := 16) dL_text_42 (by decide +kernel) ?_
        refine V_goto (tgt := 49) dL_text_44 rfl ?_
        refine D_gd h fun gN h => ?_
        have gN := Nat.blt_eq.mp gN
        refine V_spare (k2 := 240 * (N - 1) + k + 240) (n2 := 8 * (240 * (N - 1) + k + 240)) (by omega) (by omega) ?_
        refine V_spare (k2 := 240 * (N - 1) + k + 160 + 80) (n2 := 8 * (240 * (N - 1) + k + 160) + 8 * 80) (by omega) (by omega) ?_
        refine T_aS h hq dL_text_49 cv_L_46 (by decide) (Nat.le_of_ble_eq_true rfl) (Nat.le_trans (Nat.le_of_ble_eq_true rfl) hf) fun T9 M hi hq h => ?_
        refine V_ldcS (j := 18) dL_text_52 (by decide +kernel) ?_
        refine V_iload (i := 4) dL_text_54 rfl ?_
        refine D_schar h dL_text_56 cv_L_14 (by decide) (Nat.le_of_ble_eq_true rfl) (Nat.le_trans (Nat.le_of_ble_eq_true rfl) hf) fun h => ?_
        refine V_spare (k2 := 240 * (N - 1) + k + 80 + 80) (n2 := 8 * (240 * (N - 1) + k + 80) + 8 * 80) (by omega) (by omega) ?_
        refine T_aC h hq dL_text_59 cv_L_52 (Nat.le_of_ble_eq_true rfl) (Nat.le_trans (Nat.le_of_ble_eq_true rfl) hf) fun T10 M hi hq h => ?_
        refine V_bipush (v := 59) dL_text_62 (by decide) ?_
        refine V_spare (k2 := 240 * (N - 1) + k + 80) (n2 := 8 * (240 * (N - 1) + k) + 8 * 80) (by omega) (by omega) ?_
        refine T_aC h hq dL_text_64 cv_L_52 (Nat.le_of_ble_eq_true rfl) (Nat.le_trans (Nat.le_of_ble_eq_true rfl) hf) fun T11 M hi hq h => ?_
        refine V_pop dL_text_67 rfl ?_
        refine D_iinc (i := 4) (w := 1) dL_text_68 rfl (by decide) (Nat.le_of_ble_eq_true rfl) ?_
        refine V_goto (tgt := 23) dL_text_71 rfl ?_
        exact V_sub (ks := [1, 2, 3, 4, 0]) rfl (ih _ _ _ _ hq h)
noncomputable def l_L_text_77 (cl : Int32 → Int32) (c1 : Int32) (c2 : Int32) (K155 : (List Int32) → Option (List Int32)) : Nat → (List Int32) → Int32 → Option (List Int32)
  | 0, _, _ => none
  | N + 1, T, x4 => if c2 ≤ (x4 + (1 : Int32)) then K155 T else gd (Nat.blt 0 N) (gd (Nat.ble (List.length T + lenS 19) 300) (bnd (T ++ TXb 19) (fun T14 => gd (inr x4 (lenS 18)) (gd (inr (chS 18 (ix x4)) 128 && Nat.ble (List.length T14 + 1) 300) (bnd (T14 ++ [chS 18 (ix x4)]) (fun T15 => gd (inr (32 : Int32) 128 && Nat.ble (List.length T15 + 1) 300) (bnd (T15 ++ [(32 : Int32)]) (fun T16 => gd (inr (x4 + (1 : Int32)) (lenS 18)) (gd (inr (chS 18 (ix (x4 + (1 : Int32)))) 128 && Nat.ble (List.length T16 + 1) 300) (bnd (T16 ++ [chS 18 (ix (x4 + (1 : Int32)))]) (fun T17 => gd (inr (32 : Int32) 128 && Nat.ble (List.length T17 + 1) 300) (bnd (T17 ++ [(32 : Int32)]) (fun T18 => gd (inr (1 : Int32) 64) (gd (nz0 ((1 : Int32) + ((7 : Int32) * x4))) (gd (inr ((1 : Int32) + (((cl (1 : Int32)) / ((1 : Int32) + ((7 : Int32) * x4))) - ((cl (1 : Int32)) / ((1 : Int32) + ((7 : Int32) * x4))) / (4 : Int32) * (4 : Int32))) 10 && Nat.ble (List.length T18 + 1) 300) (bnd (T18 ++ [nI (48 + ix ((1 : Int32) + (((cl (1 : Int32)) / ((1 : Int32) + ((7 : Int32) * x4))) - ((cl (1 : Int32)) / ((1 : Int32) + ((7 : Int32) * x4))) / (4 : Int32) * (4 : Int32))))]) (fun T21 => gd (inr (59 : Int32) 128 && Nat.ble (List.length T21 + 1) 300) (bnd (T21 ++ [(59 : Int32)]) (fun T22 => l_L_text_77 cl c1 c2 K155 N T22 (x4 + (1 : Int32)))))))))))))))))))))
theorem lv_L_text_77 {G : GT} {f : Nat} {sb : Nat} {M0 : MM} {hi0 : Nat} {cl : Int32 → Int32} {c1 : Int32} {c2 : Int32} {K155 : (List Int32) → Option (List Int32)} {k : Nat} {r : (List Int32)} (hf : 7 ≤ f) (hsb : hi0 ≤ sb) (hcl : CLG G cl) (hK155 : ∀ (Tk : List Int32) (M : MM) (hi : Nat), HTx sb M0 hi0 Tk M hi → K155 Tk = some r → V G f (Ex G f) mL_text (STq M0 hi0 r) 155 [(0, .ref (G.1)), (1, .int c1), (2, .int c2), (3, .ref (sb))] [] M hi (k) (8 * (k))) : ∀ (N : Nat) (T : List Int32) (x4 : Int32) (M : MM) (hi : Nat), HTx sb M0 hi0 T M hi → l_L_text_77 cl c1 c2 K155 N T x4 = some r → V G f (Ex G f) mL_text (STq M0 hi0 r) 77 [(0, .ref (G.1)), (1, .int c1), (2, .int c2), (3, .ref (sb)), (4, .int x4)] [] M hi (560 * (N - 1) + k) (8 * (560 * (N - 1) + k)) := by
  intro N
  induction N with
  | zero => intro T x4 M hi hq h; cases h
  | succ N ih =>
    intro T x4 M hi hq h
    rw [l_L_text_77] at h
    show V _ _ _ _ _ _ _ _ _ _ (560 * N + k) (8 * (560 * N + k))
    refine V_iload (i := 4) dL_text_77 rfl ?_
    refine V_iconst (v := 1) dL_text_79 (by decide) ?_
    refine V_iadd dL_text_80 ?_
    refine V_iload_n (i := 2) dL_text_81 rfl rfl ?_
    refine D_icmp_ge (tgt := 155) h dL_text_82 rfl (fun b13 h => ?_) (fun b13 h => ?_)
    · refine V_spare (k2 := k) (n2 := 8 * (k)) (by omega) (by omega) ?_
      exact V_sub (ks := [0, 1, 2, 3]) rfl (hK155 _ _ _ hq h)
    · refine V_aload_n (i := 3) dL_text_85 rfl rfl ?_
      refine V_ldcS (j := 19) dL_text_86 (by decide +kernel) ?_
      refine D_gd h fun gN h => ?_
      have gN := Nat.blt_eq.mp gN
      refine V_spare (k2 := 560 * (N - 1) + k + 560) (n2 := 8 * (560 * (N - 1) + k + 560)) (by omega) (by omega) ?_
      refine V_spare (k2 := 560 * (N - 1) + k + 480 + 80) (n2 := 8 * (560 * (N - 1) + k + 480) + 8 * 80) (by omega) (by omega) ?_
      refine T_aS h hq dL_text_88 cv_L_46 (by decide) (Nat.le_of_ble_eq_true rfl) (Nat.le_trans (Nat.le_of_ble_eq_true rfl) hf) fun T14 M hi hq h => ?_
      refine V_ldcS (j := 18) dL_text_91 (by decide +kernel) ?_
      refine V_iload (i := 4) dL_text_93 rfl ?_
      refine D_schar h dL_text_95 cv_L_14 (by decide) (Nat.le_of_ble_eq_true rfl) (Nat.le_trans (Nat.le_of_ble_eq_true rfl) hf) fun h => ?_
      refine V_spare (k2 := 560 * (N - 1) + k + 400 + 80) (n2 := 8 * (560 * (N - 1) + k + 400) + 8 * 80) (by omega) (by omega) ?_
      refine T_aC h hq dL_text_98 cv_L_52 (Nat.le_of_ble_eq_true rfl) (Nat.le_trans (Nat.le_of_ble_eq_true rfl) hf) fun T15 M hi hq h => ?_
      refine V_bipush (v := 32) dL_text_101 (by decide) ?_
      refine V_spare (k2 := 560 * (N - 1) + k + 320 + 80) (n2 := 8 * (560 * (N - 1) + k + 320) + 8 * 80) (by omega) (by omega) ?_
      refine T_aC h hq dL_text_103 cv_L_52 (Nat.le_of_ble_eq_true rfl) (Nat.le_trans (Nat.le_of_ble_eq_true rfl) hf) fun T16 M hi hq h => ?_
      refine V_ldcS (j := 18) dL_text_106 (by decide +kernel) ?_
      refine V_iload (i := 4) dL_text_108 rfl ?_
      refine V_iconst (v := 1) dL_text_110 (by decide) ?_
      refine V_iadd dL_text_111 ?_
      refine D_schar h dL_text_112 cv_L_14 (by decide) (Nat.le_of_ble_eq_true rfl) (Nat.le_trans (Nat.le_of_ble_eq_true rfl) hf) fun h => ?_
      refine V_spare (k2 := 560 * (N - 1) + k + 240 + 80) (n2 := 8 * (560 * (N - 1) + k + 240) + 8 * 80) (by omega) (by omega) ?_
      refine T_aC h hq dL_text_115 cv_L_52 (Nat.le_of_ble_eq_true rfl) (Nat.le_trans (Nat.le_of_ble_eq_true rfl) hf) fun T17 M hi hq h => ?_
      refine V_bipush (v := 32) dL_text_118 (by decide) ?_
      refine V_spare (k2 := 560 * (N - 1) + k + 160 + 80) (n2 := 8 * (560 * (N - 1) + k + 160) + 8 * 80) (by omega) (by omega) ?_
      refine T_aC h hq dL_text_120 cv_L_52 (Nat.le_of_ble_eq_true rfl) (Nat.le_trans (Nat.le_of_ble_eq_true rfl) hf) fun T18 M hi hq h => ?_
      refine V_iconst (v := 1) dL_text_123 (by decide) ?_
      refine V_aload_n (i := 0) dL_text_124 rfl rfl ?_
      refine V_iconst (v := 1) dL_text_125 (by decide) ?_
      refine T_cell (cl := cl) hcl h dL_text_126 cs_L_33 (Nat.le_of_ble_eq_true rfl) (Nat.le_trans (Nat.le_of_ble_eq_true rfl) hf) fun h => ?_
      refine V_iconst (v := 1) dL_text_129 (by decide) ?_
      refine V_bipush (v := 7) dL_text_130 (by decide) ?_
      refine V_iload (i := 4) dL_text_132 rfl ?_
      refine V_imul dL_text_134 ?_
      refine V_iadd dL_text_135 ?_
      refine D_gd h fun g20 h => ?_
      refine V_idiv dL_text_136 (nz0_ok g20) ?_
      refine V_iconst (v := 4) dL_text_137 (by decide) ?_
      refine V_irem dL_text_138 (by decide) ?_
      refine V_iadd dL_text_139 ?_
      refine V_spare (k2 := 560 * (N - 1) + k + 80 + 80) (n2 := 8 * (560 * (N - 1) + k + 80) + 8 * 80) (by omega) (by omega) ?_
      refine T_aI h hq dL_text_140 cv_L_57 (Nat.le_of_ble_eq_true rfl) (Nat.le_trans (Nat.le_of_ble_eq_true rfl) hf) fun T21 M hi hq h => ?_
      refine V_bipush (v := 59) dL_text_143 (by decide) ?_
      refine V_spare (k2 := 560 * (N - 1) + k + 80) (n2 := 8 * (560 * (N - 1) + k) + 8 * 80) (by omega) (by omega) ?_
      refine T_aC h hq dL_text_145 cv_L_52 (Nat.le_of_ble_eq_true rfl) (Nat.le_trans (Nat.le_of_ble_eq_true rfl) hf) fun T22 M hi hq h => ?_
      refine V_pop dL_text_148 rfl ?_
      refine D_iinc (i := 4) (w := 1) dL_text_149 rfl (by decide) (Nat.le_of_ble_eq_true rfl) ?_
      refine V_goto (tgt := 77) dL_text_152 rfl ?_
      exact V_sub (ks := [1, 2, 3, 4, 0]) rfl (ih _ _ _ _ hq h)
noncomputable def l_L_text_302 (cl : Int32 → Int32) (c1 : Int32) (c2 : Int32) (c4 : Int32) (c5 : Int32) (c7 : Int32) (c8 : Int32) (c9 : Int32) (K353 : (List Int32) → Option (List Int32)) : Nat → (List Int32) → Int32 → Option (List Int32)
  | 0, _, _ => none
  | N + 1, T, x10 => if c7 ≤ x10 then K353 T else gd (Nat.blt 0 N) (gd (inr (32 : Int32) 128 && Nat.ble (List.length T + 1) 300) (bnd (T ++ [(32 : Int32)]) (fun T46 => if c9 = 0 then gd (inr (c8 + x10) (lenS 18)) (gd (inr (chS 18 (ix (c8 + x10))) 128 && Nat.ble (List.length T46 + 1) 300) (bnd (T46 ++ [chS 18 (ix (c8 + x10))]) (fun T48 => l_L_text_302 cl c1 c2 c4 c5 c7 c8 c9 K353 N T48 (x10 + (1 : Int32))))) else gd (inr (((c8 + c7) - (1 : Int32)) - x10) (lenS 18)) (gd (inr (chS 18 (ix (((c8 + c7) - (1 : Int32)) - x10))) 128 && Nat.ble (List.length T46 + 1) 300) (bnd (T46 ++ [chS 18 (ix (((c8 + c7) - (1 : Int32)) - x10))]) (fun T49 => l_L_text_302 cl c1 c2 c4 c5 c7 c8 c9 K353 N T49 (x10 + (1 : Int32))))))))
theorem lv_L_text_302 {G : GT} {f : Nat} {sb : Nat} {M0 : MM} {hi0 : Nat} {cl : Int32 → Int32} {c1 : Int32} {c2 : Int32} {c4 : Int32} {c5 : Int32} {c7 : Int32} {c8 : Int32} {c9 : Int32} {K353 : (List Int32) → Option (List Int32)} {k : Nat} {r : (List Int32)} (hf : 7 ≤ f) (hsb : hi0 ≤ sb) (hcl : CLG G cl) (hK353 : ∀ (Tk : List Int32) (M : MM) (hi : Nat), HTx sb M0 hi0 Tk M hi → K353 Tk = some r → V G f (Ex G f) mL_text (STq M0 hi0 r) 353 [(0, .ref (G.1)), (1, .int c1), (2, .int c2), (3, .ref (sb)), (4, .int c4), (5, .int c5)] [] M hi (k) (8 * (k))) : ∀ (N : Nat) (T : List Int32) (x10 : Int32) (M : MM) (hi : Nat), HTx sb M0 hi0 T M hi → l_L_text_302 cl c1 c2 c4 c5 c7 c8 c9 K353 N T x10 = some r → V G f (Ex G f) mL_text (STq M0 hi0 r) 302 [(0, .ref (G.1)), (1, .int c1), (2, .int c2), (3, .ref (sb)), (4, .int c4), (5, .int c5), (7, .int c7), (8, .int c8), (9, .int c9), (10, .int x10)] [] M hi (160 * (N - 1) + k) (8 * (160 * (N - 1) + k)) := by
  intro N
  induction N with
  | zero => intro T x10 M hi hq h; cases h
  | succ N ih =>
    intro T x10 M hi hq h
    rw [l_L_text_302] at h
    show V _ _ _ _ _ _ _ _ _ _ (160 * N + k) (8 * (160 * N + k))
    refine V_iload (i := 10) dL_text_302 rfl ?_
    refine V_iload (i := 7) dL_text_304 rfl ?_
    refine D_icmp_ge (tgt := 353) h dL_text_306 rfl (fun b45 h => ?_) (fun b45 h => ?_)
    · refine V_spare (k2 := k) (n2 := 8 * (k)) (by omega) (by omega) ?_
      exact V_sub (ks := [0, 1, 2, 3, 4, 5]) rfl (hK353 _ _ _ hq h)
    · refine V_aload_n (i := 3) dL_text_309 rfl rfl ?_
      refine V_bipush (v := 32) dL_text_310 (by decide) ?_
      refine D_gd h fun gN h => ?_
      have gN := Nat.blt_eq.mp gN
      refine V_spare (k2 := 160 * (N - 1) + k + 160) (n2 := 8 * (160 * (N - 1) + k + 160)) (by omega) (by omega) ?_
      refine V_spare (k2 := 160 * (N - 1) + k + 80 + 80) (n2 := 8 * (160 * (N - 1) + k + 80) + 8 * 80) (by omega) (by omega) ?_
      refine T_aC h hq dL_text_312 cv_L_52 (Nat.le_of_ble_eq_true rfl) (Nat.le_trans (Nat.le_of_ble_eq_true rfl) hf) fun T46 M hi hq h => ?_
      refine V_ldcS (j := 18) dL_text_315 (by decide +kernel) ?_
      refine V_iload (i := 9) dL_text_317 rfl ?_
      refine D_if_eq (tgt := 335) h dL_text_319 rfl (fun b47 h => ?_) (fun b47 h => ?_)
      · refine V_iload (i := 8) dL_text_335 rfl ?_
        refine V_iload (i := 10) dL_text_337 rfl ?_
        refine V_iadd dL_text_339 ?_
        refine D_schar h dL_text_340 cv_L_14 (by decide) (Nat.le_of_ble_eq_true rfl) (Nat.le_trans (Nat.le_of_ble_eq_true rfl) hf) fun h => ?_
        refine V_spare (k2 := 160 * (N - 1) + k + 80) (n2 := 8 * (160 * (N - 1) + k) + 8 * 80) (by omega) (by omega) ?_
        refine T_aC h hq dL_text_343 cv_L_52 (Nat.le_of_ble_eq_true rfl) (Nat.le_trans (Nat.le_of_ble_eq_true rfl) hf) fun T48 M hi hq h => ?_
        refine V_pop dL_text_346 rfl ?_
        refine D_iinc (i := 10) (w := 1) dL_text_347 rfl (by decide) (Nat.le_of_ble_eq_true rfl) ?_
        refine V_goto (tgt := 302) dL_text_350 rfl ?_
        exact V_sub (ks := [1, 2, 3, 4, 5, 6, 7, 8, 9, 0]) rfl (ih _ _ _ _ hq h)
      · refine V_iload (i := 8) dL_text_322 rfl ?_
        refine V_iload (i := 7) dL_text_324 rfl ?_
        refine V_iadd dL_text_326 ?_
        refine V_iconst (v := 1) dL_text_327 (by decide) ?_
        refine V_isub dL_text_328 ?_
        refine V_iload (i := 10) dL_text_329 rfl ?_
        refine V_isub dL_text_331 ?_
        refine V_goto (tgt := 340) dL_text_332 rfl ?_
        refine D_schar h dL_text_340 cv_L_14 (by decide) (Nat.le_of_ble_eq_true rfl) (Nat.le_trans (Nat.le_of_ble_eq_true rfl) hf) fun h => ?_
        refine V_spare (k2 := 160 * (N - 1) + k + 80) (n2 := 8 * (160 * (N - 1) + k) + 8 * 80) (by omega) (by omega) ?_
        refine T_aC h hq dL_text_343 cv_L_52 (Nat.le_of_ble_eq_true rfl) (Nat.le_trans (Nat.le_of_ble_eq_true rfl) hf) fun T49 M hi hq h => ?_
        refine V_pop dL_text_346 rfl ?_
        refine D_iinc (i := 10) (w := 1) dL_text_347 rfl (by decide) (Nat.le_of_ble_eq_true rfl) ?_
        refine V_goto (tgt := 302) dL_text_350 rfl ?_
        exact V_sub (ks := [1, 2, 3, 4, 5, 6, 7, 8, 9, 0]) rfl (ih _ _ _ _ hq h)
noncomputable def l_L_text_220 (cl : Int32 → Int32) (c1 : Int32) (c2 : Int32) (c4 : Int32) (K366 : (List Int32) → Option (List Int32)) : Nat → (List Int32) → Int32 → Option (List Int32)
  | 0, _, _ => none
  | N + 1, T, x5 => if c4 ≤ x5 then K366 T else gd (inr ((2 : Int32) + x5) 64) (bnd (cl ((2 : Int32) + x5)) (fun v35 => gd (nz0 (c2 - (1 : Int32))) (bnd ((2 : Int32) + (v35 - v35 / (c2 - (1 : Int32)) * (c2 - (1 : Int32)))) (fun v37 => gd (nz0 ((c2 - v37) + (1 : Int32))) (bnd ((v35 / (8 : Int32)) - (v35 / (8 : Int32)) / ((c2 - v37) + (1 : Int32)) * ((c2 - v37) + (1 : Int32))) (fun v39 => gd (Nat.blt 0 N) (jn (fun (v41 : Int32) => gd (Nat.ble (List.length T + lenS 21) 300) (bnd (T ++ TXb 21) (fun T43 => gd (inr ((1 : Int32) + ((v35 / (128 : Int32)) - (v35 / (128 : Int32)) / (3 : Int32) * (3 : Int32))) 10 && Nat.ble (List.length T43 + 1) 300) (bnd (T43 ++ [nI (48 + ix ((1 : Int32) + ((v35 / (128 : Int32)) - (v35 / (128 : Int32)) / (3 : Int32) * (3 : Int32))))]) (fun T44 => l_L_text_302 cl c1 c2 c4 x5 v37 v39 v41 (fun (T50 : List Int32) => gd (inr (59 : Int32) 128 && Nat.ble (List.length T50 + 1) 300) (bnd (T50 ++ [(59 : Int32)]) (fun T51 => l_L_text_220 cl c1 c2 c4 K366 N T51 (x5 + (1 : Int32))))) 7 T44 (0 : Int32)))))) (fun j40 => if ((v35 / (64 : Int32)) - (v35 / (64 : Int32)) / (2 : Int32) * (2 : Int32)) = (1 : Int32) then j40 (1 : Int32) else j40 (0 : Int32)))))))))
theorem lv_L_text_220 {G : GT} {f : Nat} {sb : Nat} {M0 : MM} {hi0 : Nat} {cl : Int32 → Int32} {c1 : Int32} {c2 : Int32} {c4 : Int32} {K366 : (List Int32) → Option (List Int32)} {k : Nat} {r : (List Int32)} (hf : 7 ≤ f) (hsb : hi0 ≤ sb) (hcl : CLG G cl) (hK366 : ∀ (Tk : List Int32) (M : MM) (hi : Nat), HTx sb M0 hi0 Tk M hi → K366 Tk = some r → V G f (Ex G f) mL_text (STq M0 hi0 r) 366 [(0, .ref (G.1)), (1, .int c1), (2, .int c2), (3, .ref (sb))] [] M hi (k) (8 * (k))) : ∀ (N : Nat) (T : List Int32) (x5 : Int32) (M : MM) (hi : Nat), HTx sb M0 hi0 T M hi → l_L_text_220 cl c1 c2 c4 K366 N T x5 = some r → V G f (Ex G f) mL_text (STq M0 hi0 r) 220 [(0, .ref (G.1)), (1, .int c1), (2, .int c2), (3, .ref (sb)), (4, .int c4), (5, .int x5)] [] M hi (1200 * (N - 1) + k) (8 * (1200 * (N - 1) + k)) := by
  intro N
  induction N with
  | zero => intro T x5 M hi hq h; cases h
  | succ N ih =>
    intro T x5 M hi hq h
    rw [l_L_text_220] at h
    show V _ _ _ _ _ _ _ _ _ _ (1200 * N + k) (8 * (1200 * N + k))
    refine V_iload (i := 5) dL_text_220 rfl ?_
    refine V_iload (i := 4) dL_text_222 rfl ?_
    refine D_icmp_ge (tgt := 366) h dL_text_224 rfl (fun b33 h => ?_) (fun b33 h => ?_)
    · refine V_spare (k2 := k) (n2 := 8 * (k)) (by omega) (by omega) ?_
      exact V_sub (ks := [0, 1, 2, 3]) rfl (hK366 _ _ _ hq h)
    · refine V_aload_n (i := 0) dL_text_227 rfl rfl ?_
      refine V_iconst (v := 2) dL_text_228 (by decide) ?_
      refine V_iload (i := 5) dL_text_229 rfl ?_
      refine V_iadd dL_text_231 ?_
      refine T_cell (cl := cl) hcl h dL_text_232 cs_L_33 (Nat.le_of_ble_eq_true rfl) (Nat.le_trans (Nat.le_of_ble_eq_true rfl) hf) fun h => ?_
      refine D_istore (i := 6) h dL_text_235 (Nat.le_of_ble_eq_true rfl) fun v35 h => ?_
      refine V_iconst (v := 2) dL_text_237 (by decide) ?_
      refine V_iload (i := 6) dL_text_238 rfl ?_
      refine V_iload_n (i := 2) dL_text_240 rfl rfl ?_
      refine V_iconst (v := 1) dL_text_241 (by decide) ?_
      refine V_isub dL_text_242 ?_
      refine D_gd h fun g36 h => ?_
      refine V_irem dL_text_243 (nz0_ok g36) ?_
      refine V_iadd dL_text_244 ?_
      refine D_istore (i := 7) h dL_text_245 (Nat.le_of_ble_eq_true rfl) fun v37 h => ?_
      refine V_iload (i := 6) dL_text_247 rfl ?_
      refine V_bipush (v := 8) dL_text_249 (by decide) ?_
      refine V_idiv dL_text_251 (by decide) ?_
      refine V_iload_n (i := 2) dL_text_252 rfl rfl ?_
      refine V_iload (i := 7) dL_text_253 rfl ?_
      refine V_isub dL_text_255 ?_
      refine V_iconst (v := 1) dL_text_256 (by decide) ?_
      refine V_iadd dL_text_257 ?_
      refine D_gd h fun g38 h => ?_
      refine V_irem dL_text_258 (nz0_ok g38) ?_
      refine D_istore (i := 8) h dL_text_259 (Nat.le_of_ble_eq_true rfl) fun v39 h => ?_
      refine V_iload (i := 6) dL_text_261 rfl ?_
      refine V_bipush (v := 64) dL_text_263 (by decide) ?_
      refine V_idiv dL_text_265 (by decide) ?_
      refine V_iconst (v := 2) dL_text_266 (by decide) ?_
      refine V_irem dL_text_267 (by decide) ?_
      refine V_iconst (v := 1) dL_text_268 (by decide) ?_
      refine D_gd h fun gN h => ?_
      have gN := Nat.blt_eq.mp gN
      refine V_spare (k2 := 1200 * (N - 1) + k + 1200) (n2 := 8 * (1200 * (N - 1) + k + 1200)) (by omega) (by omega) ?_
      refine D_jn (fun (j : Int32 → Option (List Int32)) => ∀ (v41 : Int32) (M : MM) (hi : Nat), HTx sb M0 hi0 T M hi → j v41 = some r → V G f (Ex G f) mL_text (STq M0 hi0 r) 277 [(0, .ref (G.1)), (1, .int c1), (2, .int c2), (3, .ref (sb)), (4, .int c4), (5, .int x5), (6, .int v35), (7, .int v37), (8, .int v39)] [.int v41] M hi (1200 * (N - 1) + k + 1200) (8 * (1200 * (N - 1) + k + 1200))) h (fun j40 hj40 h => ?_) ?_
      · refine D_icmp_ne (tgt := 276) h dL_text_269 rfl (fun b42 h => ?_) (fun b42 h => ?_)
        · refine V_iconst (v := 0) dL_text_276 (by decide) ?_
          exact V_sub (ks := [3, 4, 5, 6, 7, 8, 2, 1, 0]) rfl (hj40 _ _ _ hq h)
        · refine V_iconst (v := 1) dL_text_272 (by decide) ?_
          refine V_goto (tgt := 277) dL_text_273 rfl ?_
          exact V_sub (ks := [3, 4, 5, 6, 7, 8, 2, 1, 0]) rfl (hj40 _ _ _ hq h)
      · intro v41 M hi hq h
        refine V_istore (i := 9) dL_text_277 (Nat.le_of_ble_eq_true rfl) ?_
        refine V_aload_n (i := 3) dL_text_279 rfl rfl ?_
        refine V_ldcS (j := 21) dL_text_280 (by decide +kernel) ?_
        refine V_spare (k2 := 1200 * (N - 1) + k + 1120 + 80) (n2 := 8 * (1200 * (N - 1) + k + 1120) + 8 * 80) (by omega) (by omega) ?_
        refine T_aS h hq dL_text_282 cv_L_46 (by decide) (Nat.le_of_ble_eq_true rfl) (Nat.le_trans (Nat.le_of_ble_eq_true rfl) hf) fun T43 M hi hq h => ?_
        refine V_iconst (v := 1) dL_text_285 (by decide) ?_
        refine V_iload (i := 6) dL_text_286 rfl ?_
        refine V_sipush (v := 128) dL_text_288 (by decide) ?_
        refine V_idiv dL_text_291 (by decide) ?_
        refine V_iconst (v := 3) dL_text_292 (by decide) ?_
        refine V_irem dL_text_293 (by decide) ?_
        refine V_iadd dL_text_294 ?_
        refine V_spare (k2 := 1200 * (N - 1) + k + 1040 + 80) (n2 := 8 * (1200 * (N - 1) + k + 1040) + 8 * 80) (by omega) (by omega) ?_
        refine T_aI h hq dL_text_295 cv_L_57 (Nat.le_of_ble_eq_true rfl) (Nat.le_trans (Nat.le_of_ble_eq_true rfl) hf) fun T44 M hi hq h => ?_
        refine V_pop dL_text_298 rfl ?_
        refine V_iconst (v := 0) dL_text_299 (by decide) ?_
        refine V_istore (i := 10) dL_text_300 (Nat.le_of_ble_eq_true rfl) ?_
        refine V_spare (k2 := 160 * (7 - 1) + (1200 * (N - 1) + k + 80)) (n2 := 8 * (160 * (7 - 1) + (1200 * (N - 1) + k + 80))) (by omega) (by omega) ?_
        refine V_sub (ks := [2, 3, 4, 5, 6, 7, 9, 10, 1, 0]) rfl (lv_L_text_302 (k := 1200 * (N - 1) + k + 80) hf hsb hcl ?_ 7 _ _ _ _ hq h)
        · intro T50 M hi hq h
          refine V_aload_n (i := 3) dL_text_353 rfl rfl ?_
          refine V_bipush (v := 59) dL_text_354 (by decide) ?_
          refine V_spare (k2 := 1200 * (N - 1) + k + 80) (n2 := 8 * (1200 * (N - 1) + k) + 8 * 80) (by omega) (by omega) ?_
          refine T_aC h hq dL_text_356 cv_L_52 (Nat.le_of_ble_eq_true rfl) (Nat.le_trans (Nat.le_of_ble_eq_true rfl) hf) fun T51 M hi hq h => ?_
          refine V_pop dL_text_359 rfl ?_
          refine D_iinc (i := 5) (w := 1) dL_text_360 rfl (by decide) (Nat.le_of_ble_eq_true rfl) ?_
          refine V_goto (tgt := 220) dL_text_363 rfl ?_
          exact V_sub (ks := [1, 2, 3, 4, 5, 0]) rfl (ih _ _ _ _ hq h)
noncomputable def l_L_text_369 (cl : Int32 → Int32) (c1 : Int32) (c2 : Int32) (K481 : (List Int32) → Option (List Int32)) : Nat → (List Int32) → Int32 → Option (List Int32)
  | 0, _, _ => none
  | N + 1, T, x5 => if (5 : Int32) ≤ x5 then K481 T else gd (inr ((5 : Int32) + x5) 64) (bnd (cl ((5 : Int32) + x5)) (fun v55 => gd (nz0 c2) (bnd (v55 - v55 / c2 * c2) (fun v57 => gd (nz0 (c2 - (1 : Int32))) (gd (nz0 c2) (bnd (((v57 + (1 : Int32)) + ((v55 / (8 : Int32)) - (v55 / (8 : Int32)) / (c2 - (1 : Int32)) * (c2 - (1 : Int32)))) - ((v57 + (1 : Int32)) + ((v55 / (8 : Int32)) - (v55 / (8 : Int32)) / (c2 - (1 : Int32)) * (c2 - (1 : Int32)))) / c2 * c2) (fun v60 => if ((v55 / (64 : Int32)) - (v55 / (64 : Int32)) / (5 : Int32) * (5 : Int32)) ≤ 0 then l_L_text_369 cl c1 c2 K481 N T (x5 + (1 : Int32)) else gd (Nat.blt 0 N) (gd (Nat.ble (List.length T + lenS 22) 300) (bnd (T ++ TXb 22) (fun T62 => gd (inr v57 (lenS 18)) (gd (inr (chS 18 (ix v57)) 128 && Nat.ble (List.length T62 + 1) 300) (bnd (T62 ++ [chS 18 (ix v57)]) (fun T63 => gd (inr (32 : Int32) 128 && Nat.ble (List.length T63 + 1) 300) (bnd (T63 ++ [(32 : Int32)]) (fun T64 => gd (inr v60 (lenS 18)) (gd (inr (chS 18 (ix v60)) 128 && Nat.ble (List.length T64 + 1) 300) (bnd (T64 ++ [chS 18 (ix v60)]) (fun T65 => gd (inr (32 : Int32) 128 && Nat.ble (List.length T65 + 1) 300) (bnd (T65 ++ [(32 : Int32)]) (fun T66 => gd (inr ((1 : Int32) + ((v55 / (512 : Int32)) - (v55 / (512 : Int32)) / (9 : Int32) * (9 : Int32))) 10 && Nat.ble (List.length T66 + 1) 300) (bnd (T66 ++ [nI (48 + ix ((1 : Int32) + ((v55 / (512 : Int32)) - (v55 / (512 : Int32)) / (9 : Int32) * (9 : Int32))))]) (fun T67 => gd (inr (59 : Int32) 128 && Nat.ble (List.length T67 + 1) 300) (bnd (T67 ++ [(59 : Int32)]) (fun T68 => l_L_text_369 cl c1 c2 K481 N T68 (x5 + (1 : Int32))))))))))))))))))))))))))
theorem lv_L_text_369 {G : GT} {f : Nat} {sb : Nat} {M0 : MM} {hi0 : Nat} {cl : Int32 → Int32} {c1 : Int32} {c2 : Int32} {K481 : (List Int32) → Option (List Int32)} {k : Nat} {r : (List Int32)} (hf : 7 ≤ f) (hsb : hi0 ≤ sb) (hcl : CLG G cl) (hK481 : ∀ (Tk : List Int32) (M : MM) (hi : Nat), HTx sb M0 hi0 Tk M hi → K481 Tk = some r → V G f (Ex G f) mL_text (STq M0 hi0 r) 481 [(1, .int c1), (2, .int c2), (3, .ref (sb))] [] M hi (k) (8 * (k))) : ∀ (N : Nat) (T : List Int32) (x5 : Int32) (M : MM) (hi : Nat), HTx sb M0 hi0 T M hi → l_L_text_369 cl c1 c2 K481 N T x5 = some r → V G f (Ex G f) mL_text (STq M0 hi0 r) 369 [(0, .ref (G.1)), (1, .int c1), (2, .int c2), (3, .ref (sb)), (5, .int x5)] [] M hi (560 * (N - 1) + k) (8 * (560 * (N - 1) + k)) := by
  intro N
  induction N with
  | zero => intro T x5 M hi hq h; cases h
  | succ N ih =>
    intro T x5 M hi hq h
    rw [l_L_text_369] at h
    show V _ _ _ _ _ _ _ _ _ _ (560 * N + k) (8 * (560 * N + k))
    refine V_iload (i := 5) dL_text_369 rfl ?_
    refine V_iconst (v := 5) dL_text_371 (by decide) ?_
    refine D_icmp_ge (tgt := 481) h dL_text_372 rfl (fun b53 h => ?_) (fun b53 h => ?_)
    · refine V_spare (k2 := k) (n2 := 8 * (k)) (by omega) (by omega) ?_
      exact V_sub (ks := [1, 2, 3]) rfl (hK481 _ _ _ hq h)
    · refine V_aload_n (i := 0) dL_text_375 rfl rfl ?_
      refine V_iconst (v := 5) dL_text_376 (by decide) ?_
      refine V_iload (i := 5) dL_text_377 rfl ?_
      refine V_iadd dL_text_379 ?_
      refine T_cell (cl := cl) hcl h dL_text_380 cs_L_33 (Nat.le_of_ble_eq_true rfl) (Nat.le_trans (Nat.le_of_ble_eq_true rfl) hf) fun h => ?_
      refine D_istore (i := 6) h dL_text_383 (Nat.le_of_ble_eq_true rfl) fun v55 h => ?_
      refine V_iload (i := 6) dL_text_385 rfl ?_
      refine V_iload_n (i := 2) dL_text_387 rfl rfl ?_
      refine D_gd h fun g56 h => ?_
      refine V_irem dL_text_388 (nz0_ok g56) ?_
      refine D_istore (i := 7) h dL_text_389 (Nat.le_of_ble_eq_true rfl) fun v57 h => ?_
      refine V_iload (i := 7) dL_text_391 rfl ?_
      refine V_iconst (v := 1) dL_text_393 (by decide) ?_
      refine V_iadd dL_text_394 ?_
      refine V_iload (i := 6) dL_text_395 rfl ?_
      refine V_bipush (v := 8) dL_text_397 (by decide) ?_
      refine V_idiv dL_text_399 (by decide) ?_
      refine V_iload_n (i := 2) dL_text_400 rfl rfl ?_
      refine V_iconst (v := 1) dL_text_401 (by decide) ?_
      refine V_isub dL_text_402 ?_
      refine D_gd h fun g58 h => ?_
      refine V_irem dL_text_403 (nz0_ok g58) ?_
      refine V_iadd dL_text_404 ?_
      refine V_iload_n (i := 2) dL_text_405 rfl rfl ?_
      refine D_gd h fun g59 h => ?_
      refine V_irem dL_text_406 (nz0_ok g59) ?_
      refine D_istore (i := 8) h dL_text_407 (Nat.le_of_ble_eq_true rfl) fun v60 h => ?_
      refine V_iload (i := 6) dL_text_409 rfl ?_
      refine V_bipush (v := 64) dL_text_411 (by decide) ?_
      refine V_idiv dL_text_413 (by decide) ?_
      refine V_iconst (v := 5) dL_text_414 (by decide) ?_
      refine V_irem dL_text_415 (by decide) ?_
      refine D_if_le (tgt := 475) h dL_text_416 rfl (fun b61 h => ?_) (fun b61 h => ?_)
      · refine D_iinc (i := 5) (w := 1) dL_text_475 rfl (by decide) (Nat.le_of_ble_eq_true rfl) ?_
        refine V_goto (tgt := 369) dL_text_478 rfl ?_
        refine V_spare (k2 := 560 * (N - 1) + k) (n2 := 8 * (560 * (N - 1) + k)) (by omega) (by omega) ?_
        exact V_sub (ks := [4, 5, 6, 7, 0]) rfl (ih _ _ _ _ hq h)
      · refine V_aload_n (i := 3) dL_text_419 rfl rfl ?_
        refine V_ldcS (j := 22) dL_text_420 (by decide +kernel) ?_
        refine D_gd h fun gN h => ?_
        have gN := Nat.blt_eq.mp gN
        refine V_spare (k2 := 560 * (N - 1) + k + 560) (n2 := 8 * (560 * (N - 1) + k + 560)) (by omega) (by omega) ?_
        refine V_spare (k2 := 560 * (N - 1) + k + 480 + 80) (n2 := 8 * (560 * (N - 1) + k + 480) + 8 * 80) (by omega) (by omega) ?_
        refine T_aS h hq dL_text_422 cv_L_46 (by decide) (Nat.le_of_ble_eq_true rfl) (Nat.le_trans (Nat.le_of_ble_eq_true rfl) hf) fun T62 M hi hq h => ?_
        refine V_ldcS (j := 18) dL_text_425 (by decide +kernel) ?_
        refine V_iload (i := 7) dL_text_427 rfl ?_
        refine D_schar h dL_text_429 cv_L_14 (by decide) (Nat.le_of_ble_eq_true rfl) (Nat.le_trans (Nat.le_of_ble_eq_true rfl) hf) fun h => ?_
        refine V_spare (k2 := 560 * (N - 1) + k + 400 + 80) (n2 := 8 * (560 * (N - 1) + k + 400) + 8 * 80) (by omega) (by omega) ?_
        refine T_aC h hq dL_text_432 cv_L_52 (Nat.le_of_ble_eq_true rfl) (Nat.le_trans (Nat.le_of_ble_eq_true rfl) hf) fun T63 M hi hq h => ?_
        refine V_bipush (v := 32) dL_text_435 (by decide) ?_
        refine V_spare (k2 := 560 * (N - 1) + k + 320 + 80) (n2 := 8 * (560 * (N - 1) + k + 320) + 8 * 80) (by omega) (by omega) ?_
        refine T_aC h hq dL_text_437 cv_L_52 (Nat.le_of_ble_eq_true rfl) (Nat.le_trans (Nat.le_of_ble_eq_true rfl) hf) fun T64 M hi hq h => ?_
        refine V_ldcS (j := 18) dL_text_440 (by decide +kernel) ?_
        refine V_iload (i := 8) dL_text_442 rfl ?_
        refine D_schar h dL_text_444 cv_L_14 (by decide) (Nat.le_of_ble_eq_true rfl) (Nat.le_trans (Nat.le_of_ble_eq_true rfl) hf) fun h => ?_
        refine V_spare (k2 := 560 * (N - 1) + k + 240 + 80) (n2 := 8 * (560 * (N - 1) + k + 240) + 8 * 80) (by omega) (by omega) ?_
        refine T_aC h hq dL_text_447 cv_L_52 (Nat.le_of_ble_eq_true rfl) (Nat.le_trans (Nat.le_of_ble_eq_true rfl) hf) fun T65 M hi hq h => ?_
        refine V_bipush (v := 32) dL_text_450 (by decide) ?_
        refine V_spare (k2 := 560 * (N - 1) + k + 160 + 80) (n2 := 8 * (560 * (N - 1) + k + 160) + 8 * 80) (by omega) (by omega) ?_
        refine T_aC h hq dL_text_452 cv_L_52 (Nat.le_of_ble_eq_true rfl) (Nat.le_trans (Nat.le_of_ble_eq_true rfl) hf) fun T66 M hi hq h => ?_
        refine V_iconst (v := 1) dL_text_455 (by decide) ?_
        refine V_iload (i := 6) dL_text_456 rfl ?_
        refine V_sipush (v := 512) dL_text_458 (by decide) ?_
        refine V_idiv dL_text_461 (by decide) ?_
        refine V_bipush (v := 9) dL_text_462 (by decide) ?_
        refine V_irem dL_text_464 (by decide) ?_
        refine V_iadd dL_text_465 ?_
        refine V_spare (k2 := 560 * (N - 1) + k + 80 + 80) (n2 := 8 * (560 * (N - 1) + k + 80) + 8 * 80) (by omega) (by omega) ?_
        refine T_aI h hq dL_text_466 cv_L_57 (Nat.le_of_ble_eq_true rfl) (Nat.le_trans (Nat.le_of_ble_eq_true rfl) hf) fun T67 M hi hq h => ?_
        refine V_bipush (v := 59) dL_text_469 (by decide) ?_
        refine V_spare (k2 := 560 * (N - 1) + k + 80) (n2 := 8 * (560 * (N - 1) + k) + 8 * 80) (by omega) (by omega) ?_
        refine T_aC h hq dL_text_471 cv_L_52 (Nat.le_of_ble_eq_true rfl) (Nat.le_trans (Nat.le_of_ble_eq_true rfl) hf) fun T68 M hi hq h => ?_
        refine V_pop dL_text_474 rfl ?_
        refine D_iinc (i := 5) (w := 1) dL_text_475 rfl (by decide) (Nat.le_of_ble_eq_true rfl) ?_
        refine V_goto (tgt := 369) dL_text_478 rfl ?_
        exact V_sub (ks := [4, 5, 6, 7, 0]) rfl (ih _ _ _ _ hq h)
noncomputable def f_L_text (cl : Int32 → Int32) : Option (List Int32) :=
  gd (inr (0 : Int32) 64) (bnd (cl (0 : Int32)) (fun v2 => bnd ((3 : Int32) + (v2 - v2 / (4 : Int32) * (4 : Int32))) (fun v3 => l_L_text_23 cl v2 v3 (fun (T12 : List Int32) => l_L_text_77 cl v2 v3 (fun (T23 : List Int32) => jn (fun (T25 : List Int32) => bnd ((1 : Int32) + ((v2 / (8192 : Int32)) - (v2 / (8192 : Int32)) / (3 : Int32) * (3 : Int32))) (fun v32 => l_L_text_220 cl v2 v3 v32 (fun (T52 : List Int32) => l_L_text_369 cl v2 v3 (fun (T69 : List Int32) => if ((v2 / (32768 : Int32)) - (v2 / (32768 : Int32)) / (2 : Int32) * (2 : Int32)) = 0 then gd (Nat.ble (List.length T69 + lenS 23) 300) (bnd (T69 ++ TXb 23) (fun T71 => gd (nz0 v3) (gd (inr ((v2 / (65536 : Int32)) - (v2 / (65536 : Int32)) / v3 * v3) (lenS 18)) (gd (inr (chS 18 (ix ((v2 / (65536 : Int32)) - (v2 / (65536 : Int32)) / v3 * v3))) 128 && Nat.ble (List.length T71 + 1) 300) (bnd (T71 ++ [chS 18 (ix ((v2 / (65536 : Int32)) - (v2 / (65536 : Int32)) / v3 * v3))]) (fun T73 => gd (inr (32 : Int32) 128 && Nat.ble (List.length T73 + 1) 300) (bnd (T73 ++ [(32 : Int32)]) (fun T74 => gd (inr ((v2 / (1048576 : Int32)) - (v2 / (1048576 : Int32)) / (5 : Int32) * (5 : Int32)) 10 && Nat.ble (List.length T74 + 1) 300) (bnd (T74 ++ [nI (48 + ix ((v2 / (1048576 : Int32)) - (v2 / (1048576 : Int32)) / (5 : Int32) * (5 : Int32)))]) (fun T75 => gd (inr (59 : Int32) 128 && Nat.ble (List.length T75 + 1) 300) (bnd (T75 ++ [(59 : Int32)]) (fun T76 => some T76)))))))))))) else some T69) 6 T52 (0 : Int32)) 4 T25 (0 : Int32))) (fun j24 => if ((v2 / (512 : Int32)) - (v2 / (512 : Int32)) / (2 : Int32) * (2 : Int32)) = 0 then gd (Nat.ble (List.length T23 + lenS 20) 300) (bnd (T23 ++ TXb 20) (fun T27 => gd (inr (v3 - (1 : Int32)) (lenS 18)) (gd (inr (chS 18 (ix (v3 - (1 : Int32)))) 128 && Nat.ble (List.length T27 + 1) 300) (bnd (T27 ++ [chS 18 (ix (v3 - (1 : Int32)))]) (fun T28 => gd (inr (32 : Int32) 128 && Nat.ble (List.length T28 + 1) 300) (bnd (T28 ++ [(32 : Int32)]) (fun T29 => gd (inr ((1 : Int32) + ((v2 / (1024 : Int32)) - (v2 / (1024 : Int32)) / (6 : Int32) * (6 : Int32))) 10 && Nat.ble (List.length T29 + 1) 300) (bnd (T29 ++ [nI (48 + ix ((1 : Int32) + ((v2 / (1024 : Int32)) - (v2 / (1024 : Int32)) / (6 : Int32) * (6 : Int32))))]) (fun T30 => gd (inr (59 : Int32) 128 && Nat.ble (List.length T30 + 1) 300) (bnd (T30 ++ [(59 : Int32)]) (fun T31 => j24 T31))))))))))) else j24 T23)) 6 T12 (0 : Int32)) 7 [] (0 : Int32))))
theorem e_L_text {G : GT} {f0 : Nat} {M0 : MM} {hi0 : Nat} {cl : Int32 → Int32} {r : List Int32} (hf0 : 8 ≤ f0) (hcl : CLG G cl) (h : f_L_text cl = some r) : Ex G f0 mL_text [.ref G.1] M0 hi0 11560 (8 * 11560) (STq M0 hi0 r) := by
  obtain ⟨f, rfl, hf⟩ := suc_of hf0
  unfold f_L_text at h
  refine ⟨Nat.le_of_ble_eq_true rfl, ?_⟩
  refine V_aload_n (i := 0) dL_text_0 rfl rfl ?_
  refine V_iconst (v := 0) dL_text_1 (by decide) ?_
  refine T_cell (cl := cl) hcl h dL_text_2 cs_L_33 (Nat.le_of_ble_eq_true rfl) (Nat.le_trans (Nat.le_of_ble_eq_true rfl) hf) fun h => ?_
  refine D_istore_n (i := 1) h dL_text_5 rfl (Nat.le_of_ble_eq_true rfl) fun v2 h => ?_
  refine V_iconst (v := 3) dL_text_6 (by decide) ?_
  refine V_iload_n (i := 1) dL_text_7 rfl rfl ?_
  refine V_iconst (v := 4) dL_text_8 (by decide) ?_
  refine V_irem dL_text_9 (by decide) ?_
  refine V_iadd dL_text_10 ?_
  refine D_istore_n (i := 2) h dL_text_11 rfl (Nat.le_of_ble_eq_true rfl) fun v3 h => ?_
  refine V_spare (k2 := 11540 + 20) (n2 := 8 * (11540) + 8 * 20) (by omega) (by omega) ?_
  refine T_new dL_text_12 dL_text_15 dL_text_16 nw_L_39 ci_L_41 (Nat.le_of_ble_eq_true rfl) (Nat.le_trans (Nat.le_of_ble_eq_true rfl) hf) fun sb M hi hsb hq => ?_
  refine V_astore_n (i := 3) dL_text_19 rfl (Nat.le_of_ble_eq_true rfl) ?_
  refine V_iconst (v := 0) dL_text_20 (by decide) ?_
  refine V_istore (i := 4) dL_text_21 (Nat.le_of_ble_eq_true rfl) ?_
  refine V_spare (k2 := 240 * (7 - 1) + (10100)) (n2 := 8 * (240 * (7 - 1) + (10100))) (by omega) (by omega) ?_
  refine V_sub (ks := [4, 3, 2, 1, 0]) rfl (lv_L_text_23 (k := 10100) hf hsb hcl ?_ 7 _ _ _ _ hq h)
  · intro T12 M hi hq h
    refine V_iconst (v := 0) dL_text_74 (by decide) ?_
    refine V_istore (i := 4) dL_text_75 (Nat.le_of_ble_eq_true rfl) ?_
    refine V_spare (k2 := 560 * (6 - 1) + (7300)) (n2 := 8 * (560 * (6 - 1) + (7300))) (by omega) (by omega) ?_
    refine V_sub (ks := [1, 2, 3, 4, 0]) rfl (lv_L_text_77 (k := 7300) hf hsb hcl ?_ 6 _ _ _ _ hq h)
    · intro T23 M hi hq h
      refine V_iload_n (i := 1) dL_text_155 rfl rfl ?_
      refine V_sipush (v := 512) dL_text_156 (by decide) ?_
      refine V_idiv dL_text_159 (by decide) ?_
      refine V_iconst (v := 2) dL_text_160 (by decide) ?_
      refine V_irem dL_text_161 (by decide) ?_
      refine D_jn (fun (j : (List Int32) → Option (List Int32)) => ∀ (T25 : List Int32) (M : MM) (hi : Nat), HTx sb M0 hi0 T25 M hi → j T25 = some r → V G f (Ex G f) mL_text (STq M0 hi0 r) 206 [(0, .ref (G.1)), (1, .int v2), (2, .int v3), (3, .ref (sb))] [] M hi (6900) (8 * (6900))) h (fun j24 hj24 h => ?_) ?_
      · refine D_if_ne (tgt := 206) h dL_text_162 rfl (fun b26 h => ?_) (fun b26 h => ?_)
        · refine V_spare (k2 := 6900) (n2 := 8 * (6900)) (by omega) (by omega) ?_
          exact V_sub (ks := [0, 1, 2, 3]) rfl (hj24 _ _ _ hq h)
        · refine V_aload_n (i := 3) dL_text_165 rfl rfl ?_
          refine V_ldcS (j := 20) dL_text_166 (by decide +kernel) ?_
          refine V_spare (k2 := 7220 + 80) (n2 := 8 * (7220) + 8 * 80) (by omega) (by omega) ?_
          refine T_aS h hq dL_text_168 cv_L_46 (by decide) (Nat.le_of_ble_eq_true rfl) (Nat.le_trans (Nat.le_of_ble_eq_true rfl) hf) fun T27 M hi hq h => ?_
          refine V_ldcS (j := 18) dL_text_171 (by decide +kernel) ?_
          refine V_iload_n (i := 2) dL_text_173 rfl rfl ?_
          refine V_iconst (v := 1) dL_text_174 (by decide) ?_
          refine V_isub dL_text_175 ?_
          refine D_schar h dL_text_176 cv_L_14 (by decide) (Nat.le_of_ble_eq_true rfl) (Nat.le_trans (Nat.le_of_ble_eq_true rfl) hf) fun h => ?_
          refine V_spare (k2 := 7140 + 80) (n2 := 8 * (7140) + 8 * 80) (by omega) (by omega) ?_
          refine T_aC h hq dL_text_179 cv_L_52 (Nat.le_of_ble_eq_true rfl) (Nat.le_trans (Nat.le_of_ble_eq_true rfl) hf) fun T28 M hi hq h => ?_
          refine V_bipush (v := 32) dL_text_182 (by decide) ?_
          refine V_spare (k2 := 7060 + 80) (n2 := 8 * (7060) + 8 * 80) (by omega) (by omega) ?_
          refine T_aC h hq dL_text_184 cv_L_52 (Nat.le_of_ble_eq_true rfl) (Nat.le_trans (Nat.le_of_ble_eq_true rfl) hf) fun T29 M hi hq h => ?_
          refine V_iconst (v := 1) dL_text_187 (by decide) ?_
          refine V_iload_n (i := 1) dL_text_188 rfl rfl ?_
          refine V_sipush (v := 1024) dL_text_189 (by decide) ?_
          refine V_idiv dL_text_192 (by decide) ?_
          refine V_bipush (v := 6) dL_text_193 (by decide) ?_
          refine V_irem dL_text_195 (by decide) ?_
          refine V_iadd dL_text_196 ?_
          refine V_spare (k2 := 6980 + 80) (n2 := 8 * (6980) + 8 * 80) (by omega) (by omega) ?_
          refine T_aI h hq dL_text_197 cv_L_57 (Nat.le_of_ble_eq_true rfl) (Nat.le_trans (Nat.le_of_ble_eq_true rfl) hf) fun T30 M hi hq h => ?_
          refine V_bipush (v := 59) dL_text_200 (by decide) ?_
          refine V_spare (k2 := 6900 + 80) (n2 := 8 * (6900) + 8 * 80) (by omega) (by omega) ?_
          refine T_aC h hq dL_text_202 cv_L_52 (Nat.le_of_ble_eq_true rfl) (Nat.le_trans (Nat.le_of_ble_eq_true rfl) hf) fun T31 M hi hq h => ?_
          refine V_pop dL_text_205 rfl ?_
          exact V_sub (ks := [0, 1, 2, 3]) rfl (hj24 _ _ _ hq h)
      · intro T25 M hi hq h
        refine V_iconst (v := 1) dL_text_206 (by decide) ?_
        refine V_iload_n (i := 1) dL_text_207 rfl rfl ?_
        refine V_sipush (v := 8192) dL_text_208 (by decide) ?_
        refine V_idiv dL_text_211 (by decide) ?_
        refine V_iconst (v := 3) dL_text_212 (by decide) ?_
        refine V_irem dL_text_213 (by decide) ?_
        refine V_iadd dL_text_214 ?_
        refine D_istore (i := 4) h dL_text_215 (Nat.le_of_ble_eq_true rfl) fun v32 h => ?_
        refine V_iconst (v := 0) dL_text_217 (by decide) ?_
        refine V_istore (i := 5) dL_text_218 (Nat.le_of_ble_eq_true rfl) ?_
        refine V_spare (k2 := 1200 * (4 - 1) + (3300)) (n2 := 8 * (1200 * (4 - 1) + (3300))) (by omega) (by omega) ?_
        refine V_sub (ks := [2, 3, 4, 5, 1, 0]) rfl (lv_L_text_220 (k := 3300) hf hsb hcl ?_ 4 _ _ _ _ hq h)
        · intro T52 M hi hq h
          refine V_iconst (v := 0) dL_text_366 (by decide) ?_
          refine V_istore (i := 5) dL_text_367 (Nat.le_of_ble_eq_true rfl) ?_
          refine V_spare (k2 := 560 * (6 - 1) + (500)) (n2 := 8 * (560 * (6 - 1) + (500))) (by omega) (by omega) ?_
          refine V_sub (ks := [1, 2, 3, 4, 0]) rfl (lv_L_text_369 (k := 500) hf hsb hcl ?_ 6 _ _ _ _ hq h)
          · intro T69 M hi hq h
            refine V_iload_n (i := 1) dL_text_481 rfl rfl ?_
            refine V_ldcI (v := 32768) dL_text_482 tw_1305 ?_
            refine V_idiv dL_text_484 (by decide) ?_
            refine V_iconst (v := 2) dL_text_485 (by decide) ?_
            refine V_irem dL_text_486 (by decide) ?_
            refine D_if_ne (tgt := 530) h dL_text_487 rfl (fun b70 h => ?_) (fun b70 h => ?_)
            · refine V_aload_n (i := 3) dL_text_530 rfl rfl ?_
              refine V_spare (k2 := 400 + 100) (n2 := 8 * (400) + 8 * 100) (by omega) (by omega) ?_
              refine T_toS hq hsb dL_text_531 cv_L_71 (Nat.le_of_ble_eq_true rfl) (Nat.le_trans (Nat.le_of_ble_eq_true rfl) hf) fun s M hi hend => ?_
              obtain rfl := Option.some.inj h
              exact V_areturn dL_text_534 rfl (Or.inr ⟨_, rfl⟩) hend
            · refine V_aload_n (i := 3) dL_text_490 rfl rfl ?_
              refine V_ldcS (j := 23) dL_text_491 (by decide +kernel) ?_
              refine V_spare (k2 := 420 + 80) (n2 := 8 * (420) + 8 * 80) (by omega) (by omega) ?_
              refine T_aS h hq dL_text_493 cv_L_46 (by decide) (Nat.le_of_ble_eq_true rfl) (Nat.le_trans (Nat.le_of_ble_eq_true rfl) hf) fun T71 M hi hq h => ?_
              refine V_ldcS (j := 18) dL_text_496 (by decide +kernel) ?_
              refine V_iload_n (i := 1) dL_text_498 rfl rfl ?_
              refine V_ldcI (v := 65536) dL_text_499 tw_1307 ?_
              refine V_idiv dL_text_501 (by decide) ?_
              refine V_iload_n (i := 2) dL_text_502 rfl rfl ?_
              refine D_gd h fun g72 h => ?_
              refine V_irem dL_text_503 (nz0_ok g72) ?_
              refine D_schar h dL_text_504 cv_L_14 (by decide) (Nat.le_of_ble_eq_true rfl) (Nat.le_trans (Nat.le_of_ble_eq_true rfl) hf) fun h => ?_
              refine V_spare (k2 := 340 + 80) (n2 := 8 * (340) + 8 * 80) (by omega) (by omega) ?_
              refine T_aC h hq dL_text_507 cv_L_52 (Nat.le_of_ble_eq_true rfl) (Nat.le_trans (Nat.le_of_ble_eq_true rfl) hf) fun T73 M hi hq h => ?_
              refine V_bipush (v := 32) dL_text_510 (by decide) ?_
              refine V_spare (k2 := 260 + 80) (n2 := 8 * (260) + 8 * 80) (by omega) (by omega) ?_
              refine T_aC h hq dL_text_512 cv_L_52 (Nat.le_of_ble_eq_true rfl) (Nat.le_trans (Nat.le_of_ble_eq_true rfl) hf) fun T74 M hi hq h => ?_
              refine V_iload_n (i := 1) dL_text_515 rfl rfl ?_
              refine V_ldcI (v := 1048576) dL_text_516 tw_1308 ?_
              refine V_idiv dL_text_518 (by decide) ?_
              refine V_iconst (v := 5) dL_text_519 (by decide) ?_
              refine V_irem dL_text_520 (by decide) ?_
              refine V_spare (k2 := 180 + 80) (n2 := 8 * (180) + 8 * 80) (by omega) (by omega) ?_
              refine T_aI h hq dL_text_521 cv_L_57 (Nat.le_of_ble_eq_true rfl) (Nat.le_trans (Nat.le_of_ble_eq_true rfl) hf) fun T75 M hi hq h => ?_
              refine V_bipush (v := 59) dL_text_524 (by decide) ?_
              refine V_spare (k2 := 100 + 80) (n2 := 8 * (100) + 8 * 80) (by omega) (by omega) ?_
              refine T_aC h hq dL_text_526 cv_L_52 (Nat.le_of_ble_eq_true rfl) (Nat.le_trans (Nat.le_of_ble_eq_true rfl) hf) fun T76 M hi hq h => ?_
              refine V_pop dL_text_529 rfl ?_
              refine V_aload_n (i := 3) dL_text_530 rfl rfl ?_
              refine V_spare (k2 := 0 + 100) (n2 := 8 * (0) + 8 * 100) (by omega) (by omega) ?_
              refine T_toS hq hsb dL_text_531 cv_L_71 (Nat.le_of_ble_eq_true rfl) (Nat.le_trans (Nat.le_of_ble_eq_true rfl) hf) fun s M hi hend => ?_
              obtain rfl := Option.some.inj h
              exact V_areturn dL_text_534 rfl (Or.inr ⟨_, rfl⟩) hend
