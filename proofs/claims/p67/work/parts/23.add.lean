/-! Hand.add: a new row in the place of the old one -/
def prow (a b c : Int32) : Nat → Int32 := fun k => if k = 0 then a else if k = 1 then b else if k = 2 then c else if k = 3 then a else if k = 4 then -1 else if k = 5 then -1 else if k = 8 then -1 else 0
noncomputable def f_X10_add (Y : Nat → Nat → Int32) (a b c : Int32) : Nat → Nat → Int32 := w2 (setU Y (40 + ix (Y 60 15)) (prow a b c)) 60 15 (Y 60 15 + 1)
/-- a method's end where the rows may have moved -/
def PHA (h : Nat) (M0 : MM) (hi0 : Nat) (q0 : RS) (Y : Nat → Nat → Int32) : PS := fun q M2 hi2 => q = q0 ∧ ∃ A : Nat → Nat, HS h A M0 hi0 Y M2 hi2
theorem mset_2 {M : MM} {a : Nat} {e1 e2 : va_E} : mset (mset M a e1) a e2 = mset M a e2 := by
  funext q
  unfold mset
  by_cases h : q = a
  · rw [if_pos h, if_pos h]
  · rw [if_neg h, if_neg h, if_neg h]
theorem mset_eq {M : MM} {a : Nat} {e : va_E} : mset M a e a = some e := if_pos rfl
theorem mset_ne {M : MM} {a b : Nat} {e : va_E} (h : b ≠ a) : mset M a e b = M b := if_neg h
def A2f (A : Nat → Nat) (p x : Nat) : Nat → Nat := fun u => if u = 40 + p then x else A u
section Add
variable {h : Nat} {A : Nat → Nat} {Y : Nat → Nat → Int32} {M M0 : MM} {hi hi0 p : Nat} {R : Nat → Int32}
theorem ht_p (hp : p < 12) : HT (hN Y) (hT Y) (hL Y) (40 + p) = some (1, 9) := by
  unfold HT
  rw [if_neg (by omega), if_neg (by omega), if_neg (by omega), if_neg (by omega), if_neg (by omega), if_neg (by omega), if_pos ⟨by omega, by omega⟩]
theorem HC_mv (hp : p < 12) (n8 : hN Y ≤ 8) (t4 : hT Y ≤ 4) {x v : Nat} (h1 : v ≠ 40 + p) (h2 : v ≠ 14) : HC (A2f A p x) (setU Y (40 + p) R) v = HC A Y v := by
  rw [HC_ne h1 (by omega) (by omega)]
  unfold HC
  have key : ∀ tg len base, HO (hN Y) (hT Y) v = some (tg, len, base) → refs len (fun i => A2f A p x (base + i)) = refs len (fun i => A (base + i)) := by
    intro tg len base hh
    funext i
    unfold refs
    by_cases hl : i < len
    · rw [if_pos hl, if_pos hl]
      have hne : ¬ (base + i = 40 + p) := by
        unfold HO at hh
        rw [if_neg (show ¬ v = 14 from h2)] at hh
        repeat' split at hh
        all_goals first | (cases hh; omega) | cases hh
      exact congrArg some (if_neg hne)
    · rw [if_neg hl, if_neg hl]
  cases hO : HO (hN Y) (hT Y) v with
  | none => rfl
  | some z =>
    obtain ⟨tg, len, base⟩ := z
    show some _ = some _
    rw [key tg len base hO]
theorem HS.addrow (q : HS h A M0 hi0 Y M hi) (hp : p < 12) : HS h (A2f A p hi) M0 hi0 (setU Y (40 + p) R) (mset (mset M hi (.inl (1, 9, .inl (ints 9 R)))) (A 14) (.inl (3, 12, .inr (.inr (.inr (.inr (va_up (refs 12 fun i => A (40 + i)) p (some hi)))))))) (hi + 1) := by
  have n8 := q.n8
  have t4 := q.t4
  have a60 : 40 + p ≠ 60 := by omega
  have hob : hobj (A2f A p hi) (setU Y (40 + p) R) = hobj A Y := by
    unfold hobj A2f
    rw [setU_ne (Ne.symm a60)]
    simp only [show ¬ (2 = 40 + p) by omega, show ¬ (3 = 40 + p) by omega, show ¬ (4 = 40 + p) by omega, show ¬ (5 = 40 + p) by omega, show ¬ (6 = 40 + p) by omega, show ¬ (7 = 40 + p) by omega, show ¬ (8 = 40 + p) by omega, show ¬ (9 = 40 + p) by omega, show ¬ (10 = 40 + p) by omega, show ¬ (11 = 40 + p) by omega, show ¬ (12 = 40 + p) by omega, show ¬ (13 = 40 + p) by omega, show ¬ (14 = 40 + p) by omega, if_false]
  have c14 := q.1.2.2.2.2 14 _ (HC_out (A := A) (ho_14 (Y := Y)))
  have n14 : A 14 ≠ hi := by have := c14.2.2.1; omega
  have eN : hN (setU Y (40 + p) R) = hN Y := hN_set a60
  have eT : hT (setU Y (40 + p) R) = hT Y := hT_set a60
  have w40 : HC (A2f A p hi) (setU Y (40 + p) R) (40 + p) = some (.inl (1, 9, .inl (ints 9 R))) := by
    rw [HC_row (ht_p hp), setU_eq]
  have w14 : HC (A2f A p hi) (setU Y (40 + p) R) 14 = some (.inl (3, 12, .inr (.inr (.inr (.inr (va_up (refs 12 fun i => A (40 + i)) p (some hi))))))) := by
    rw [HC_out (A := A2f A p hi) (ho_14 (Y := setU Y (40 + p) R))]
    have e : refs 12 (fun i => A2f A p hi (40 + i)) = va_up (refs 12 fun i => A (40 + i)) p (some hi) := by
      funext i
      unfold refs va_up A2f
      by_cases hi9 : i = p
      · subst hi9
        rw [if_pos hp, if_pos rfl]
        exact congrArg some (if_pos rfl)
      · rw [if_neg hi9]
        show (if i < 12 then some (if 40 + i = 40 + p then hi else A (40 + i)) else none) = (if i < 12 then some (A (40 + i)) else none)
        rw [if_neg (show ¬ (40 + i = 40 + p) by omega)]
    rw [e]
  have live : ∀ v e', HC (A2f A p hi) (setU Y (40 + p) R) v = some e' → v = 40 + p ∨ (A2f A p hi v = A v ∧ ∃ e2, HC A Y v = some e2) := by
    intro v e' hv
    by_cases h1 : v = 40 + p
    · exact Or.inl h1
    refine Or.inr ⟨if_neg h1, ?_⟩
    by_cases h2 : v = 14
    · subst h2; exact ⟨_, HC_out (A := A) (ho_14 (Y := Y))⟩
    · rw [HC_mv hp n8 t4 h1 h2] at hv
      exact ⟨_, hv⟩
  refine ⟨⟨by rw [eN]; exact n8, by rw [eT]; exact t4, Nat.lt_succ_of_lt q.1.2.2.1, ?_, fun u e he => ?_⟩, fun a ha => ?_, Nat.le_succ_of_le q.2.2⟩
  · rw [hob, mset_ne (by have := c14.2.1; omega), mset_ne (by have := q.1.2.2.1; omega)]
    exact q.o
  · rcases live u e he with rfl | ⟨hA, e2, he2⟩
    · have e9 : A2f A p hi (40 + p) = hi := if_pos rfl
      rw [e9]
      rw [w40] at he
      cases he
      refine ⟨by rw [mset_ne (Ne.symm n14), mset_eq], q.1.2.2.1, Nat.lt_succ_self _, fun v e' hv hx => ?_⟩
      rcases live v e' hv with rfl | ⟨hA, e2, he2⟩
      · rfl
      · have := (q.1.2.2.2.2 v e2 he2).2.2.1
        omega
    · obtain ⟨w1, w2, w3, w4⟩ := q.1.2.2.2.2 u e2 he2
      rw [hA]
      refine ⟨?_, w2, Nat.lt_succ_of_lt w3, fun v e' hv hx => ?_⟩
      · by_cases h14 : u = 14
        · subst h14
          rw [mset_eq, ← w14]
          exact he
        · rw [mset_ne (fun hx => h14 (w4 14 _ (HC_out (A := A) (ho_14 (Y := Y))) hx)), mset_ne (by omega), w1]
          have h40 : u ≠ 40 + p := fun hx => by
            subst hx
            have e9 : A2f A p hi (40 + p) = hi := if_pos rfl
            omega
          rw [HC_mv hp n8 t4 h40 h14] at he
          exact he2.symm.trans he
      · rcases live v e' hv with rfl | ⟨hA2, e3, he3⟩
        · have e9 : A2f A p hi (40 + p) = hi := if_pos rfl
          omega
        · exact w4 v e3 he3 (by rw [← hA2]; exact hx)
  · rw [mset_ne (by have := c14.2.1; omega), mset_ne (by have := q.1.2.2.1; omega)]
    exact q.2.1 a ha
end Add
section AddW
variable {G : GT} {f : Nat} {call : CT} {md : MD} {P0 : PS} {pc : Nat} {lv : List (Nat × Value)} {hi k n : Nat} {rest : List Value}
theorem H_r9 {N : MM} {a : Nat} {g : Nat → Int32} {i v : Int32} {j : Nat} (hin : inr i 9 = true) (hj : ix i = j) (hd : decode md.2.1 pc = .ok (.iastore, 1)) (kk : V G f call md P0 (pc + 1) lv rest (mset N a (.inl (1, 9, .inl (upd g j v)))) hi k n) : V G f call md P0 pc lv (.int v :: .int i :: .ref a :: rest) (mset N a (.inl (1, 9, .inl g))) hi k n := by
  subst hj
  refine V_iastore hd mset_eq (inr_vp hin) ?_
  rw [mset_2]
  exact kk
theorem prow_e {a b c : Int32} : upd (upd (upd (upd (upd (upd (upd (upd (upd (fun _ => (0 : Int32)) 0 a) 1 b) 2 c) 3 a) 4 (-1)) 5 (-1)) 6 0) 7 0) 8 (-1) = ints 9 (prow a b c) := by
  funext k
  unfold ints prow upd
  by_cases h9 : k < 9
  · rw [if_pos h9]
    rcases (show k = 0 ∨ k = 1 ∨ k = 2 ∨ k = 3 ∨ k = 4 ∨ k = 5 ∨ k = 6 ∨ k = 7 ∨ k = 8 by omega) with rfl | rfl | rfl | rfl | rfl | rfl | rfl | rfl | rfl <;> rfl
  · rw [if_neg h9]
    simp only [show ¬ k = 0 by omega, show ¬ k = 1 by omega, show ¬ k = 2 by omega, show ¬ k = 3 by omega, show ¬ k = 4 by omega, show ¬ k = 5 by omega, show ¬ k = 6 by omega, show ¬ k = 7 by omega, show ¬ k = 8 by omega, if_false]
theorem e_X10_add {f0 : Nat} {oh : Nat} {A : Nat → Nat} {M0 : MM} {hi0 : Nat} {Y : Nat → Nat → Int32} {a1 a2 a3 : Int32} (hf0 : 1 ≤ f0) (hq : HQ oh A Y M0 hi0) (hp : inr (Y 60 15) 12 = true) : Ex G f0 mX10_add [.ref oh, .int a1, .int a2, .int a3] M0 hi0 2 (8 * 2) (PHA oh M0 hi0 (.inl none) (f_X10_add Y a1 a2 a3)) := by
  obtain ⟨f, rfl, hf⟩ := suc_of hf0
  have hq := HS.here hq
  refine ⟨Nat.le_of_ble_eq_true rfl, ?_⟩
  have q2 := hq.addrow (R := prow a1 a2 a3) (inr_lt hp)
  have n14 : A 14 ≠ hi0 := by have := (hq.1.2.2.2.2 14 _ (HC_out (A := A) (ho_14 (Y := Y)))).2.2.1; omega
  refine V_aload_n (i := 0) dX10_add_0 rfl rfl ?_
  refine V_getfield dX10_add_1 hq.o fl_X10_9 rfl ?_
  refine V_aload_n (i := 0) dX10_add_4 rfl rfl ?_
  refine V_getfield dX10_add_5 hq.o fl_X10_111 rfl ?_
  refine V_bipush (v := 9) dX10_add_8 (by decide) ?_
  refine V_spare (k2 := 1 + 1) (n2 := 7 + 9) (by decide) (by decide) ?_
  refine V_newarray (aty := .int) (t := 1) (N0 := 9) (x := (9, .inl fun _ => 0)) dX10_add_10 tw_77 rfl (by decide) (fun cA => rfl) (by decide) (by decide) (by decide) ?_
  refine V_dup dX10_add_12 rfl ?_
  refine V_iconst (v := 0) dX10_add_13 (by decide) ?_
  refine V_iload_n (i := 1) dX10_add_14 rfl rfl ?_
  refine H_r9 (j := 0) (by decide) (by decide) dX10_add_15 ?_
  refine V_dup dX10_add_16 rfl ?_
  refine V_iconst (v := 1) dX10_add_17 (by decide) ?_
  refine V_iload_n (i := 2) dX10_add_18 rfl rfl ?_
  refine H_r9 (j := 1) (by decide) (by decide) dX10_add_19 ?_
  refine V_dup dX10_add_20 rfl ?_
  refine V_iconst (v := 2) dX10_add_21 (by decide) ?_
  refine V_iload_n (i := 3) dX10_add_22 rfl rfl ?_
  refine H_r9 (j := 2) (by decide) (by decide) dX10_add_23 ?_
  refine V_dup dX10_add_24 rfl ?_
  refine V_iconst (v := 3) dX10_add_25 (by decide) ?_
  refine V_iload_n (i := 1) dX10_add_26 rfl rfl ?_
  refine H_r9 (j := 3) (by decide) (by decide) dX10_add_27 ?_
  refine V_dup dX10_add_28 rfl ?_
  refine V_iconst (v := 4) dX10_add_29 (by decide) ?_
  refine V_iconst (v := -1) dX10_add_30 (by decide) ?_
  refine H_r9 (j := 4) (by decide) (by decide) dX10_add_31 ?_
  refine V_dup dX10_add_32 rfl ?_
  refine V_iconst (v := 5) dX10_add_33 (by decide) ?_
  refine V_iconst (v := -1) dX10_add_34 (by decide) ?_
  refine H_r9 (j := 5) (by decide) (by decide) dX10_add_35 ?_
  refine V_dup dX10_add_36 rfl ?_
  refine V_bipush (v := 6) dX10_add_37 (by decide) ?_
  refine V_iconst (v := 0) dX10_add_39 (by decide) ?_
  refine H_r9 (j := 6) (by decide) (by decide) dX10_add_40 ?_
  refine V_dup dX10_add_41 rfl ?_
  refine V_bipush (v := 7) dX10_add_42 (by decide) ?_
  refine V_iconst (v := 0) dX10_add_44 (by decide) ?_
  refine H_r9 (j := 7) (by decide) (by decide) dX10_add_45 ?_
  refine V_dup dX10_add_46 rfl ?_
  refine V_bipush (v := 8) dX10_add_47 (by decide) ?_
  refine V_iconst (v := -1) dX10_add_49 (by decide) ?_
  refine H_r9 (j := 8) (by decide) (by decide) dX10_add_50 ?_
  rw [prow_e]
  refine V_aastA (t := 3) (t2 := 1) (x2 := (9, .inl (ints 9 (prow a1 a2 a3)))) (ET := .int) dX10_add_51 ((mset_ne n14).trans (hq.r ho_14)) rfl (by decide) (inr_vp hp) mset_eq ⟨rfl, by decide⟩ (by decide) ?_
  refine V_aload_n (i := 0) dX10_add_52 rfl rfl ?_
  refine V_dup dX10_add_53 rfl ?_
  refine V_getfield dX10_add_54 q2.o fl_X10_111 rfl ?_
  refine V_iconst (v := 1) dX10_add_57 (by decide) ?_
  refine V_iadd dX10_add_58 ?_
  refine V_putfield dX10_add_59 q2.o (fp_X10_111 rfl) rfl rfl (Nat.le_of_ble_eq_true rfl) ?_
  have q3 := q2.putO (kk := 15) (v := Y 60 15 + 1) (Or.inl rfl)
  have e60 : setU Y (40 + ix (Y 60 15)) (prow a1 a2 a3) 60 15 = Y 60 15 := by rw [setU_ne (by have := inr_lt hp; omega)]
  rw [e60]
  exact V_return dX10_add_62 rfl ⟨rfl, _, q3⟩
/-- a call of add -/
theorem H_cA {M0 : MM} {hi0 oh : Nat} {A : Nat → Nat} {M : MM} {Y : Nat → Nat → Int32} {a1 a2 a3 : Int32} {idx : Nat} {R : Type} {r : R} {K : (Nat → Nat → Int32) → Option R} (hh : gd (inr (Y 60 15) 12) (bnd (f_X10_add Y a1 a2 a3) K) = some r) (q : HS oh A M0 hi0 Y M hi) (hd : decode md.2.1 pc = .ok (.invokevirtual idx, 3)) (hc : CVr md.1.cls idx mX10_add 3) (hcs : csum rest ≤ 8) (hf : 1 ≤ f)
    (kk : ∀ (Y : Nat → Nat → Int32) (A : Nat → Nat) (M : MM) (hi : Nat), HS oh A M0 hi0 Y M hi → K Y = some r → V G f (Ex G f) md P0 (pc + 3) lv rest M hi k n) : V G f (Ex G f) md P0 pc lv (.int a3 :: .int a2 :: .int a1 :: .ref oh :: rest) M hi (k + 2) (n + 8 * 2) := by
  obtain ⟨g1, hh⟩ := gd_ok hh
  exact V_callV (As := [_, _, _]) hd hc rfl (H_recv q) rfl hcs (e_X10_add hf q.1 g1) (fun v M2 hi2 hp => by obtain ⟨h1, A2, q2⟩ := hp; cases h1; exact kk _ A2 _ _ (q.go q2) hh) (fun E M2 hi2 hp => by obtain ⟨h1, -⟩ := hp; cases h1)
end AddW
