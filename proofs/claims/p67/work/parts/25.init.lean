/-! THE HAND's CONSTRUCTOR -/
def HX (h : Nat) (ob : List Value) (C : Nat → Option va_E) (A : Nat → Nat) (M0 : MM) (hi0 : Nat) (M : MM) (hi : Nat) : Prop := HG h ob C A M hi ∧ (∀ a, a < h → M a = M0 a) ∧ hi0 ≤ hi
def cdf (n hi : Nat) : Nat → Option Nat := fun i => if i < n then some (hi + 1 + i) else none
def cdz : vp_A → va_E := fun z => .inl (1, z)
def Cm (C : Nat → Option va_E) (u0 base N t t2 : Nat) (z2 : vp_A) (hi : Nat) : Nat → Option va_E := fun v => if v = u0 then some (.inl (t, N, .inr (.inr (.inr (.inr (cdf N hi)))))) else if base ≤ v ∧ v < base + N then some (.inl (t2, z2)) else C v
def Am (A : Nat → Nat) (u0 base N hi : Nat) : Nat → Nat := fun v => if v = u0 then hi else if base ≤ v ∧ v < base + N then hi + 1 + (v - base) else A v
def C1u (C : Nat → Option va_E) (u : Nat) (e : va_E) : Nat → Option va_E := fun v => if v = u then some e else C v
def A1u (A : Nat → Nat) (u a : Nat) : Nat → Nat := fun v => if v = u then a else A v
section HXs
variable {h : Nat} {ob : List Value} {C : Nat → Option va_E} {A : Nat → Nat} {M M0 : MM} {hi hi0 : Nat}
theorem HX.o (q : HX h ob C A M0 hi0 M hi) : M h = some (.inr (10, ob)) := q.1.2.1
theorem HX.up {hi2 : Nat} (q : HX h ob C A M0 hi0 M hi) (hle : hi ≤ hi2) : HX h ob C A M0 hi0 M hi2 := ⟨q.1.up hle, q.2.1, Nat.le_trans q.2.2 hle⟩
theorem HX.weak {C2 : Nat → Option va_E} (q : HX h ob C A M0 hi0 M hi) (w : ∀ u e, C2 u = some e → C u = some e) : HX h ob C2 A M0 hi0 M hi :=
  ⟨⟨q.1.1, q.1.2.1, fun u e he => ⟨(q.1.2.2 u e (w u e he)).1, (q.1.2.2 u e (w u e he)).2.1, (q.1.2.2 u e (w u e he)).2.2.1, fun v e' hv hx => (q.1.2.2 u e (w u e he)).2.2.2 v e' (w v e' hv) hx⟩⟩, q.2⟩
theorem HX.obj (q : HX h ob C A M0 hi0 M hi) (ob2 : List Value) : HX h ob2 C A M0 hi0 (mset M h (.inr (10, ob2))) hi := by
  refine ⟨⟨q.1.1, mset_eq, fun u e he => ⟨?_, (q.1.2.2 u e he).2⟩⟩, fun a ha => ?_, q.2.2⟩
  · rw [mset_ne (by have := (q.1.2.2 u e he).2.1; omega)]
    exact (q.1.2.2 u e he).1
  · rw [mset_ne (by omega)]
    exact q.2.1 a ha
theorem HX.one {u : Nat} {e : va_E} (q : HX h ob C A M0 hi0 M hi) (hu : C u = none) : HX h ob (C1u C u e) (A1u A u hi) M0 hi0 (mset M hi e) (hi + 1) := by
  have lt := q.1.1
  refine ⟨⟨Nat.lt_succ_of_lt lt, by rw [mset_ne (by omega)]; exact q.1.2.1, fun v e1 he => ?_⟩, fun a ha => by rw [mset_ne (by omega)]; exact q.2.1 a ha, Nat.le_succ_of_le q.2.2⟩
  unfold C1u at he
  unfold A1u C1u
  by_cases hv : v = u
  · subst hv
    rw [if_pos rfl] at he ⊢
    cases he
    refine ⟨mset_eq, lt, Nat.lt_succ_self _, fun w e' hw hx => ?_⟩
    by_cases hwu : w = v
    · exact hwu.symm
    · rw [if_neg hwu] at hw hx
      have := (q.1.2.2 w e' hw).2.2.1
      omega
  · rw [if_neg hv] at he ⊢
    obtain ⟨w1, w2, w3, w4⟩ := q.1.2.2 v e1 he
    refine ⟨by rw [mset_ne (by omega)]; exact w1, w2, Nat.lt_succ_of_lt w3, fun w e' hw hx => ?_⟩
    by_cases hwu : w = u
    · rw [if_pos hwu] at hx
      omega
    · rw [if_neg hwu] at hw hx
      exact w4 w e' hw hx
theorem HX.mna {u0 base N t t2 : Nat} {z2 : vp_A} (q : HX h ob C A M0 hi0 M hi) (hu : u0 < base ∨ base + N ≤ u0) : HX h ob (Cm C u0 base N t t2 z2 hi) (Am A u0 base N hi) M0 hi0 (mrows M hi N (.inl (t, N, .inr (.inr (.inr (.inr (cdf N hi)))))) (.inl (t2, z2))) (hi + 1 + N) := by
  have lt := q.1.1
  have old : ∀ a, a < hi → mrows M hi N (.inl (t, N, .inr (.inr (.inr (.inr (cdf N hi)))))) (.inl (t2, z2)) a = M a := fun a ha => by
    unfold mrows
    rw [if_neg (by omega), if_neg (by omega)]
  refine ⟨⟨by omega, by rw [old _ lt]; exact q.1.2.1, fun v e1 he => ?_⟩, fun a ha => by rw [old _ (by omega)]; exact q.2.1 a ha, by have := q.2.2; omega⟩
  unfold Cm at he
  unfold Am Cm
  by_cases h0 : v = u0
  · subst h0
    rw [if_pos rfl] at he ⊢
    cases he
    refine ⟨by unfold mrows; rw [if_pos rfl], lt, by omega, fun w e' hw hx => ?_⟩
    by_cases hwu : w = v
    · exact hwu.symm
    · rw [if_neg hwu] at hw hx
      by_cases hb : base ≤ w ∧ w < base + N
      · rw [if_pos hb] at hx; omega
      · rw [if_neg hb] at hw hx
        have := (q.1.2.2 w e' hw).2.2.1
        omega
  · rw [if_neg h0] at he ⊢
    by_cases h1 : base ≤ v ∧ v < base + N
    · rw [if_pos h1] at he ⊢
      cases he
      refine ⟨by unfold mrows; rw [if_neg (by omega), if_pos ⟨by omega, by omega⟩], by omega, by omega, fun w e' hw hx => ?_⟩
      by_cases hwu : w = u0
      · rw [if_pos hwu] at hx; omega
      · rw [if_neg hwu] at hw hx
        by_cases hb : base ≤ w ∧ w < base + N
        · rw [if_pos hb] at hx; omega
        · rw [if_neg hb] at hw hx
          have := (q.1.2.2 w e' hw).2.2.1
          omega
    · rw [if_neg h1] at he ⊢
      obtain ⟨w1, w2, w3, w4⟩ := q.1.2.2 v e1 he
      refine ⟨by rw [old _ w3]; exact w1, w2, by omega, fun w e' hw hx => ?_⟩
      by_cases hwu : w = u0
      · rw [if_pos hwu] at hx; omega
      · rw [if_neg hwu] at hw hx
        by_cases hb : base ≤ w ∧ w < base + N
        · rw [if_pos hb] at hx; omega
        · rw [if_neg hb] at hw hx
          exact w4 w e' hw hx
theorem HX.put {C2 : Nat → Option va_E} {u : Nat} {e0 e : va_E} (q : HX h ob C A M0 hi0 M hi) (hu : C u = some e0) (h1 : C2 u = some e) (h2 : ∀ v, v ≠ u → C2 v = C v) : HX h ob C2 A M0 hi0 (mset M (A u) e) hi :=
  ⟨q.1.put hu h1 h2, fun a ha => by rw [mset_ne (by have := (q.1.2.2 u e0 hu).2.1; omega)]; exact q.2.1 a ha, q.2.2⟩
end HXs
section HXr
variable {G : GT} {f : Nat} {call : CT} {md : MD} {P0 : PS} {pc : Nat} {lv : List (Nat × Value)} {hi k n : Nat} {rest : List Value} {R : Type} {r : R}
variable {h : Nat} {ob : List Value} {C : Nat → Option va_E} {A : Nat → Nat} {M M0 : MM} {hi0 : Nat}
theorem P_pf {kk0 idx : Nat} {v : Value} {ty : FieldType} (q : HX h ob C A M0 hi0 M hi) (hd : decode md.2.1 pc = .ok (.putfield idx, 3)) (hF : FPT md idx 10 kk0 ty) (h1 : narrow ty v = v) (h2 : fits ty v = true) (hl : kk0 < ob.length) (kk : ∀ M, HX h (ob.set kk0 v) C A M0 hi0 M hi → V G f call md P0 (pc + 3) lv rest M hi k n) : V G f call md P0 pc lv (v :: .ref h :: rest) M hi k n :=
  V_putfield hd q.o hF h1 h2 hl (kk _ (q.obj _))
theorem P_mna {idx t t2 u0 base N1 N2 : Nat} {n1 n2 : Int32} {z2 : vp_A} {ET : FieldType} (q : HX h ob C A M0 hi0 M hi) (hu : u0 < base ∨ base + N1 ≤ u0) (hd : decode md.2.1 pc = .ok (.multianewarray idx 2, 4)) (h1 : Cond.classLink md.1.cls idx ("[" ++ (FieldType.array ET).toString) ∈ TB) (h2 : ET ∈ nwAA) (h3 : tyk t = .array ET ∧ t < 10) (h4 : tyk t2 = ET ∧ t2 < 3) (h5 : Cond.arrayClass ET ∈ TB) (h6 : ¬ n1 < 0 ∧ n1.toNatClampNeg = N1 ∧ N1 ≤ 5000) (h7 : ¬ n2 < 0 ∧ n2.toNatClampNeg = N2 ∧ N2 ≤ 5000)
    (h8 : ∀ cA : ClassId, vp_cell cA z2 = arrV cA N2 (fun _ => defaultValue ET)) (kk : ∀ M, HX h ob (Cm C u0 base N1 t t2 z2 hi) (Am A u0 base N1 hi) M0 hi0 M (hi + 1 + N1) → V G f call md P0 (pc + 4) lv (.ref hi :: rest) M (hi + 1 + N1) k n) : V G f call md P0 pc lv (.int n2 :: .int n1 :: rest) M hi (k + (1 + N1)) (n + (N1 + N1 * N2)) :=
  V_mna hd h1 h2 h3 h4 h5 h6 h7 h8 (kk _ (q.mna hu))
theorem P_new {aty : ArrayType} {t N0 u : Nat} {len : Int32} {x : vp_A} (q : HX h ob C A M0 hi0 M hi) (hu : C u = none) (hd : decode md.2.1 pc = .ok (.newarray aty, 2)) (h1 : Cond.arrayClass (newarray.typeOf aty) ∈ TB) (h2 : tyk t = newarray.typeOf aty) (h3 : t < 3) (h4 : ∀ cA : ClassId, vp_cell cA x = arrV cA N0 (fun _ => defaultValue (newarray.typeOf aty))) (h5 : ¬ len < 0) (h6 : len.toNatClampNeg = N0) (h7 : N0 ≤ 5000)
    (kk : ∀ M, HX h ob (C1u C u (.inl (t, x))) (A1u A u hi) M0 hi0 M (hi + 1) → V G f call md P0 (pc + 2) lv (.ref hi :: rest) M (hi + 1) k n) : V G f call md P0 pc lv (.int len :: rest) M hi (k + 1) (n + N0) :=
  V_newarray hd h1 h2 h3 h4 h5 h6 h7 (kk _ (q.one hu))
theorem P_anew {idx t N0 u : Nat} {len : Int32} {ET : FieldType} (q : HX h ob C A M0 hi0 M hi) (hu : C u = none) (hd : decode md.2.1 pc = .ok (.anewarray idx, 3)) (h1 : Cond.classLink md.1.cls idx (FieldType.array ET).toString ∈ TB) (h2 : ET ∈ nwAA) (h3 : tyk t = .array ET) (h4 : t < 10) (h5 : ¬ len < 0) (h6 : len.toNatClampNeg = N0) (h7 : N0 ≤ 5000)
    (kk : ∀ M, HX h ob (C1u C u (.inl (t, N0, .inr (.inr (.inr (.inr (fun _ => none))))))) (A1u A u hi) M0 hi0 M (hi + 1) → V G f call md P0 (pc + 3) lv (.ref hi :: rest) M (hi + 1) k n) : V G f call md P0 pc lv (.int len :: rest) M hi (k + 1) (n + N0) :=
  V_anewA hd h1 h2 h3 h4 h5 h6 h7 (kk _ (q.one hu))
theorem P_ist {C2 : Nat → Option va_E} {u len : Nat} {g : Nat → Int32} {x v : Int32} (q : HX h ob C A M0 hi0 M hi) (hin : inr x len = true) (hc : C u = some (.inl (1, len, .inl (ints len g)))) (hc2 : C2 u = some (.inl (1, len, .inl (ints len (upd g (ix x) v))))) (hne : ∀ w, w ≠ u → C2 w = C w) (hd : decode md.2.1 pc = .ok (.iastore, 1)) (kk : ∀ M, HX h ob C2 A M0 hi0 M hi → V G f call md P0 (pc + 1) lv rest M hi k n) : V G f call md P0 pc lv (.int v :: .int x :: .ref (A u) :: rest) M hi k n := by
  refine V_iastore hd (q.1.2.2 u _ hc).1 (inr_vp hin) ?_
  rw [show upd (ints len g) x.toNatClampNeg v = ints len (upd g (ix x) v) from ints_up (inr_lt hin)]
  exact kk _ (q.put hc hc2 hne)
theorem P_zst {C2 : Nat → Option va_E} {u len : Nat} {g : Nat → Int32} {x v : Int32} (q : HX h ob C A M0 hi0 M hi) (hin : inr x len = true) (hc : C u = some (.inl (2, len, .inl (ints len g)))) (hc2 : C2 u = some (.inl (2, len, .inl (ints len (upd g (ix x) (nz v)))))) (hne : ∀ w, w ≠ u → C2 w = C w) (hd : decode md.2.1 pc = .ok (.bastore, 1)) (kk : ∀ M, HX h ob C2 A M0 hi0 M hi → V G f call md P0 (pc + 1) lv rest M hi k n) : V G f call md P0 pc lv (.int v :: .int x :: .ref (A u) :: rest) M hi k n := by
  refine V_zastore hd (q.1.2.2 u _ hc).1 (inr_vp hin) ?_
  rw [show upd (ints len g) x.toNatClampNeg (vp_nar .boolean v) = ints len (upd g (ix x) (nz v)) from ints_up (inr_lt hin)]
  exact kk _ (q.put hc hc2 hne)
theorem P_ald {u tg len : Nat} {g : Nat → Option Nat} {x : Int32} {y : Nat} {ET : FieldType} (q : HX h ob C A M0 hi0 M hi) (hin : inr x len = true) (hc : C u = some (.inl (tg, len, .inr (.inr (.inr (.inr g)))))) (hy : g (ix x) = some y) (hty : tyk tg = .array ET) (h10 : tg < 10) (hd : decode md.2.1 pc = .ok (.aaload, 1)) (kk : V G f call md P0 (pc + 1) lv (.ref y :: rest) M hi k n) : V G f call md P0 pc lv (.int x :: .ref (A u) :: rest) M hi k n := by
  refine V_aaldA hd (q.1.2.2 u _ hc).1 hty h10 (inr_vp hin) ?_
  rw [show g x.toNatClampNeg = some y from hy]
  exact kk
theorem P_xI {b a k2 n2 : Nat} {W : Nat → Nat → Int32} {st As : List Value} {idx nn : Nat} {md2 : MD} {o : Option (String ⊕ Int32)} {K : Int32 → Option R} (hh : bdv o K = some r) (q : HX h ob C A M0 hi0 M hi) (hb : b + 609 ≤ h) (hcw : MEM b 609 W M0 = M0) (hd : decode md.2.1 pc = .ok (.invokevirtual idx, 3)) (hc : CVr md.1.cls idx md2 nn) (hl : As.length = nn) (hr : RECV (MEM b 609 W M) a md2.1.cls) (hst : st = As.reverse ++ .ref a :: rest) (hcs : csum rest ≤ 8)
    (hx : ∀ x, o = some x → call md2 (.ref a :: As) (MEM b 609 W M) hi k2 n2 (RP (rhoI x) (MEM b 609 W M))) (kk : ∀ (x : Int32) (hi : Nat), HX h ob C A M0 hi0 M hi → K x = some r → V G f call md P0 (pc + 3) lv (.int x :: rest) M hi k n) : V G f call md P0 pc lv st M hi (k + k2) (n + n2) := by
  have e := cw_of hb hcw q.2.1
  cases o with
  | none => cases hh
  | some x =>
    cases x with
    | inl E => cases hh
    | inr x =>
      have hx2 := hx _ rfl
      rw [e] at hx2 hr
      exact V_callVm hd hc hl hr hst hcs hx2 (fun v M2 hi2 hle hp => by obtain ⟨h1, rfl⟩ := hp; cases h1; exact kk x _ (q.up hle) hh) (fun E M2 hi2 hle hp => by obtain ⟨h1, -⟩ := hp; cases h1)
theorem P_xN {b a : Nat} {W : Nat → Nat → Int32} {st As : List Value} {idx nn : Nat} {md2 : MD} {o : Option Int32} {K : Int32 → Option R} (hh : bdc o K = some r) (q : HX h ob C A M0 hi0 M hi) (hb : b + 609 ≤ h) (hcw : MEM b 609 W M0 = M0) (hd : decode md.2.1 pc = .ok (.invokevirtual idx, 3)) (hc : CVr md.1.cls idx md2 nn) (hl : As.length = nn) (hr : RECV (MEM b 609 W M) a md2.1.cls) (hst : st = As.reverse ++ .ref a :: rest) (hcs : csum rest ≤ 8)
    (hx : ∀ x, o = some x → call md2 (.ref a :: As) (MEM b 609 W M) hi 0 0 (RH (.inl (some (.int x))) (MEM b 609 W M) hi)) (kk : ∀ (x : Int32), K x = some r → V G f call md P0 (pc + 3) lv (.int x :: rest) M hi k n) : V G f call md P0 pc lv st M hi k n := by
  have e := cw_of hb hcw q.2.1
  cases o with
  | none => cases hh
  | some x =>
    have hx2 := hx _ rfl
    rw [e] at hx2 hr
    exact V_callV (k2 := 0) (n2 := 0) hd hc hl hr hst hcs hx2 (fun v M2 hi2 hp => by obtain ⟨h1, rfl, rfl⟩ := hp; cases h1; exact kk x hh) (fun E M2 hi2 hp => by obtain ⟨h1, -⟩ := hp; cases h1)
end HXr
/-- the first half: stations and tracks -/
def mk1 (u : Nat) : Bool := u == 2 || u == 3 || u == 4 || u == 5 || u == 14 || (Nat.ble 16 u && Nat.blt u 32) || (Nat.ble 40 u && Nat.blt u 52)
def C1 (A : Nat → Nat) (Y : Nat → Nat → Int32) (u : Nat) : Option va_E := if mk1 u = true then HC A Y u else none
def obP1 (A : Nat → Nat) (Y : Nat → Nat → Int32) : List Value := [.int (Y 60 0), .int (Y 60 1), .ref (A 2), .ref (A 3), .ref (A 4), .ref (A 5), .null, .null, .null, .null, .null, .null, .null, .null, .ref (A 14), .int (Y 60 15), .int (Y 60 16)]
def H1 (h : Nat) (A : Nat → Nat) (M0 : MM) (hi0 : Nat) (Y : Nat → Nat → Int32) (M : MM) (hi : Nat) : Prop := hN Y ≤ 8 ∧ hT Y ≤ 4 ∧ HX h (obP1 A Y) (C1 A Y) A M0 hi0 M hi
def Y1 (n t : Int32) : Nat → Nat → Int32 := fun u => if u = 60 then (fun k => if k = 0 then n else if k = 1 then t else 0) else fun _ => 0
theorem mk1_lt {u : Nat} (h : mk1 u = true) : u < 52 := by
  unfold mk1 at h
  simp only [Bool.or_eq_true, Bool.and_eq_true, beq_iff_eq, Nat.ble_eq, Nat.blt_eq] at h
  omega
theorem C1_put {A : Nat → Nat} {Y : Nat → Nat → Int32} {u tg len : Nat} (S : Nat → Int32) (hm : mk1 u = true) (ht : HT (hN Y) (hT Y) (hL Y) u = some (tg, len)) : C1 A Y u = some (.inl (tg, len, .inl (ints len (Y u)))) ∧ C1 A (setU Y u S) u = some (.inl (tg, len, .inl (ints len S))) ∧ (∀ v, v ≠ u → C1 A (setU Y u S) v = C1 A Y v) ∧ obP1 A (setU Y u S) = obP1 A Y ∧ hN (setU Y u S) = hN Y ∧ hT (setU Y u S) = hT Y := by
  have hlt := mk1_lt hm
  have a0 : u ≠ 60 := by omega
  have a1 : u ≠ 61 := by omega
  refine ⟨by unfold C1; rw [if_pos hm, HC_row ht], ?_, fun v hv => by unfold C1; rw [HC_ne hv a0 a1], by unfold obP1; rw [setU_ne (Ne.symm a0)], hN_set a0, hT_set a0⟩
  unfold C1
  rw [if_pos hm, HC_row (by rw [hN_set a0, hT_set a0, hL_set a1]; exact ht), setU_eq]
theorem ht_16n {Y : Nat → Nat → Int32} {x : Int32} (h2 : hN Y ≤ 8) (g : inr x (hN Y) = true) : HT (hN Y) (hT Y) (hL Y) (16 + ix x) = some (1, hN Y) := by
  have h1 := inr_lt g
  unfold HT
  rw [if_neg (by omega), if_neg (by omega), if_neg (by omega), if_pos ⟨by omega, by omega, by omega⟩]
theorem ht_24n {Y : Nat → Nat → Int32} {x : Int32} (h2 : hN Y ≤ 8) (g : inr x (hN Y) = true) : HT (hN Y) (hT Y) (hL Y) (24 + ix x) = some (2, hN Y) := by
  have h1 := inr_lt g
  unfold HT
  rw [if_neg (by omega), if_neg (by omega), if_neg (by omega), if_neg (by omega), if_pos ⟨by omega, by omega, by omega⟩]
theorem ht_32n {Y : Nat → Nat → Int32} {i : Nat} (h2 : hT Y ≤ 4) (g : i < hT Y) : HT (hN Y) (hT Y) (hL Y) (32 + i) = some (1, hL Y i) := by
  unfold HT
  rw [if_neg (by omega), if_neg (by omega), if_neg (by omega), if_neg (by omega), if_neg (by omega), if_pos ⟨by omega, by omega, by omega⟩, Nat.add_sub_cancel_left]
theorem C1_2 {A : Nat → Nat} {Y : Nat → Nat → Int32} : C1 A Y 2 = some (.inl (3, hN Y, .inr (.inr (.inr (.inr (refs (hN Y) fun i => A (16 + i))))))) := by
  unfold C1
  rw [if_pos (by decide)]
  exact HC_out ho_2
theorem C1_3 {A : Nat → Nat} {Y : Nat → Nat → Int32} : C1 A Y 3 = some (.inl (9, hN Y, .inr (.inr (.inr (.inr (refs (hN Y) fun i => A (24 + i))))))) := by
  unfold C1
  rw [if_pos (by decide)]
  exact HC_out ho_3
theorem mk1_16 {j : Nat} (h : j < 16) : mk1 (16 + j) = true := by
  unfold mk1
  simp only [Bool.or_eq_true, Bool.and_eq_true, beq_iff_eq, Nat.ble_eq, Nat.blt_eq]
  omega
noncomputable def l_ini_118 (W : Nat → Nat → Int32) (c2 : Int32) {R : Type} (K : (Nat → Nat → Int32) → Option R) : Nat → (Nat → Nat → Int32) → Int32 → Option R
  | 0, _, _ => none
  | N + 1, Y, x3 => if (Y 60 0) ≤ x3 then K Y else gd (inr c2 (hN Y)) (gd (inr x3 (hN Y)) (bdv (f_X9_travelTime W c2 x3) (fun v => bnd (w2 Y (16 + ix c2) (ix x3) v) (fun Y => bdv (f_X9_isTrackOpen W c2 x3) (fun v2 => bnd (w2 Y (24 + ix c2) (ix x3) (nz v2)) (fun Y => l_ini_118 W c2 K N Y (x3 + 1)))))))
section Ini
variable {G : GT} {f : Nat} {oh b : Nat} {A : Nat → Nat} {M0 : MM} {hi0 k : Nat} {W : Nat → Nat → Int32} {P0 : PS} {R : Type} {r : R}
theorem lv_ini_118 {c2 : Int32} {K : (Nat → Nat → Int32) → Option R} (hf : 9 ≤ f) (hb : b + 609 ≤ oh) (hcw : MEM b 609 W M0 = M0) (hK : ∀ (Y : Nat → Nat → Int32) (M : MM) (hi : Nat), H1 oh A M0 hi0 Y M hi → K Y = some r → V G f (Ex G f) mX10_init P0 160 [(0, .ref oh), (1, .ref b), (2, .int c2)] [] M hi k (8 * k)) : ∀ (N : Nat) (Y : Nat → Nat → Int32) (x3 : Int32) (M : MM) (hi : Nat), H1 oh A M0 hi0 Y M hi → l_ini_118 W c2 K N Y x3 = some r → V G f (Ex G f) mX10_init P0 118 [(0, .ref oh), (1, .ref b), (2, .int c2), (3, .int x3)] [] M hi (4 * N + k) (8 * (4 * N + k)) := by
  intro N
  induction N with
  | zero => intro Y x3 M hi hq h; cases h
  | succ N ih =>
    intro Y x3 M hi hq h
    rw [l_ini_118] at h
    obtain ⟨n8, t4, hq⟩ := hq
    refine V_iload_n (i := 3) dX10_init_118 rfl rfl ?_
    refine V_aload_n (i := 0) dX10_init_119 rfl rfl ?_
    refine V_getfield dX10_init_120 hq.o fl_X10_20 rfl ?_
    refine D_icmp_ge (tgt := 160) h dX10_init_123 rfl (fun b1 h => ?_) (fun b1 h => ?_)
    · refine V_spare (k2 := k) (n2 := 8 * k) (by omega) (by omega) ?_
      exact V_sub (ks := [0, 1, 2]) rfl (hK _ _ _ ⟨n8, t4, hq⟩ h)
    · refine D_gd h fun g2 h => ?_
      refine D_gd h fun g3 h => ?_
      refine V_aload_n (i := 0) dX10_init_126 rfl rfl ?_
      refine V_getfield dX10_init_127 hq.o fl_X10_30 rfl ?_
      refine V_iload_n (i := 2) dX10_init_130 rfl rfl ?_
      refine P_ald (tg := 3) (y := A (16 + ix c2)) (ET := .int) hq g2 C1_2 (if_pos (inr_lt g2)) rfl (by decide) dX10_init_131 ?_
      refine V_iload_n (i := 3) dX10_init_132 rfl rfl ?_
      refine V_aload_n (i := 1) dX10_init_133 rfl rfl ?_
      refine V_iload_n (i := 2) dX10_init_134 rfl rfl ?_
      refine V_iload_n (i := 3) dX10_init_135 rfl rfl ?_
      refine V_spare (k2 := (4 * N + k + 2) + 2) (n2 := 8 * (4 * N + k + 2) + 12) (by omega) (by omega) ?_
      refine P_xI (As := [_, _]) h hq hb hcw dX10_init_136 cv_X10_54 rfl ⟨_, _, _, mem_x9 (Nat.le_refl _), rfl, rfl⟩ rfl (Nat.le_of_ble_eq_true rfl) (fun x hx => e_X9_travelTime hf (Nat.le_refl _) hx) fun v hi hq h => ?_
      have w := C1_put (A := A) (upd (Y (16 + ix c2)) (ix x3) v) (mk1_16 (show ix c2 < 16 by have := inr_lt g2; omega)) (ht_16n n8 g2)
      refine P_ist (C2 := C1 A (w2 Y (16 + ix c2) (ix x3) v)) hq g3 w.1 w.2.1 w.2.2.1 dX10_init_139 fun M hq => ?_
      rw [← w.2.2.2.1] at hq
      have g2 : inr c2 (hN (w2 Y (16 + ix c2) (ix x3) v)) = true := by rw [show hN (w2 Y (16 + ix c2) (ix x3) v) = hN Y from w.2.2.2.2.1]; exact g2
      have g3 : inr x3 (hN (w2 Y (16 + ix c2) (ix x3) v)) = true := by rw [show hN (w2 Y (16 + ix c2) (ix x3) v) = hN Y from w.2.2.2.2.1]; exact g3
      replace n8 : hN (w2 Y (16 + ix c2) (ix x3) v) ≤ 8 := by rw [show hN (w2 Y (16 + ix c2) (ix x3) v) = hN Y from w.2.2.2.2.1]; exact n8
      replace t4 : hT (w2 Y (16 + ix c2) (ix x3) v) ≤ 4 := by rw [show hT (w2 Y (16 + ix c2) (ix x3) v) = hT Y from w.2.2.2.2.2]; exact t4
      replace hq : HX oh (obP1 A (w2 Y (16 + ix c2) (ix x3) v)) (C1 A (w2 Y (16 + ix c2) (ix x3) v)) A M0 hi0 M hi := hq
      change (fun Y2 : Nat → Nat → Int32 => bdv (f_X9_isTrackOpen W c2 x3) fun v2 => bnd (w2 Y2 (24 + ix c2) (ix x3) (nz v2)) fun Y => l_ini_118 W c2 K N Y (x3 + 1)) (w2 Y (16 + ix c2) (ix x3) v) = some r at h
      generalize w2 Y (16 + ix c2) (ix x3) v = Y at *
      clear w
      refine V_aload_n (i := 0) dX10_init_140 rfl rfl ?_
      refine V_getfield dX10_init_141 hq.o fl_X10_35 rfl ?_
      refine V_iload_n (i := 2) dX10_init_144 rfl rfl ?_
      refine P_ald (tg := 9) (y := A (24 + ix c2)) (ET := .boolean) hq g2 C1_3 (if_pos (inr_lt g2)) rfl (by decide) dX10_init_145 ?_
      refine V_iload_n (i := 3) dX10_init_146 rfl rfl ?_
      refine V_aload_n (i := 1) dX10_init_147 rfl rfl ?_
      refine V_iload_n (i := 2) dX10_init_148 rfl rfl ?_
      refine V_iload_n (i := 3) dX10_init_149 rfl rfl ?_
      refine V_spare (k2 := (4 * N + k) + 2) (n2 := 8 * (4 * N + k) + 12) (by omega) (by omega) ?_
      refine P_xI (As := [_, _]) h hq hb hcw dX10_init_150 cv_X10_58 rfl ⟨_, _, _, mem_x9 (Nat.le_refl _), rfl, rfl⟩ rfl (Nat.le_of_ble_eq_true rfl) (fun x hx => e_X9_isTrackOpen hf (Nat.le_refl _) hx) fun v hi hq h => ?_
      have w := C1_put (A := A) (upd (Y (24 + ix c2)) (ix x3) (nz v)) (show mk1 (24 + ix c2) = true from (show 24 + ix c2 = 16 + (8 + ix c2) by omega) ▸ mk1_16 (show 8 + ix c2 < 16 by have := inr_lt g2; omega)) (ht_24n n8 g2)
      refine P_zst (C2 := C1 A (w2 Y (24 + ix c2) (ix x3) (nz v))) hq g3 w.1 w.2.1 w.2.2.1 dX10_init_153 fun M hq => ?_
      rw [← w.2.2.2.1] at hq
      refine V_iinc (i := 3) (v := x3 + 1) dX10_init_154 rfl rfl (Nat.le_of_ble_eq_true rfl) ?_
      refine V_goto (tgt := 118) dX10_init_157 rfl ?_
      exact V_sub (ks := [1, 2, 3, 0]) rfl (ih _ _ _ _ ⟨w.2.2.2.2.1 ▸ n8, w.2.2.2.2.2 ▸ t4, hq⟩ h)
theorem mk1_4 : mk1 4 = true := by decide
theorem mk1_5 : mk1 5 = true := by decide
end Ini
noncomputable def l_ini_86 (W : Nat → Nat → Int32) {R : Type} (K : (Nat → Nat → Int32) → Option R) : Nat → (Nat → Nat → Int32) → Int32 → Option R
  | 0, _, _ => none
  | N + 1, Y, x2 => if (Y 60 0) ≤ x2 then K Y else gd (inr x2 (hN Y)) (bdv (f_X9_isRequestStop W x2) (fun v => bnd (w2 Y 4 (ix x2) (nz v)) (fun Y => bdv (f_X9_inspectionTime W x2) (fun v => bnd (w2 Y 5 (ix x2) v) (fun Y => l_ini_118 W x2 (fun Y => l_ini_86 W K N Y (x2 + 1)) 8 Y 0)))))
section Ini2
variable {G : GT} {f : Nat} {oh b : Nat} {A : Nat → Nat} {M0 : MM} {hi0 k : Nat} {W : Nat → Nat → Int32} {P0 : PS} {R : Type} {r : R}
theorem lv_ini_86 {K : (Nat → Nat → Int32) → Option R} (hf : 9 ≤ f) (hb : b + 609 ≤ oh) (hcw : MEM b 609 W M0 = M0) (hK : ∀ (Y : Nat → Nat → Int32) (M : MM) (hi : Nat), H1 oh A M0 hi0 Y M hi → K Y = some r → V G f (Ex G f) mX10_init P0 166 [(0, .ref oh), (1, .ref b)] [] M hi k (8 * k)) : ∀ (N : Nat) (Y : Nat → Nat → Int32) (x2 : Int32) (M : MM) (hi : Nat), H1 oh A M0 hi0 Y M hi → l_ini_86 W K N Y x2 = some r → V G f (Ex G f) mX10_init P0 86 [(0, .ref oh), (1, .ref b), (2, .int x2)] [] M hi (34 * N + k) (8 * (34 * N + k)) := by
  intro N
  induction N with
  | zero => intro Y x2 M hi hq h; cases h
  | succ N ih =>
    intro Y x2 M hi hq h
    rw [l_ini_86] at h
    obtain ⟨n8, t4, hq⟩ := hq
    refine V_iload_n (i := 2) dX10_init_86 rfl rfl ?_
    refine V_aload_n (i := 0) dX10_init_87 rfl rfl ?_
    refine V_getfield dX10_init_88 hq.o fl_X10_20 rfl ?_
    refine D_icmp_ge (tgt := 166) h dX10_init_91 rfl (fun b1 h => ?_) (fun b1 h => ?_)
    · refine V_spare (k2 := k) (n2 := 8 * k) (by omega) (by omega) ?_
      exact V_sub (ks := [0, 1]) rfl (hK _ _ _ ⟨n8, t4, hq⟩ h)
    · refine D_gd h fun g2 h => ?_
      refine V_aload_n (i := 0) dX10_init_94 rfl rfl ?_
      refine V_getfield dX10_init_95 hq.o fl_X10_38 rfl ?_
      refine V_iload_n (i := 2) dX10_init_98 rfl rfl ?_
      refine V_aload_n (i := 1) dX10_init_99 rfl rfl ?_
      refine V_iload_n (i := 2) dX10_init_100 rfl rfl ?_
      refine V_spare (k2 := (34 * N + k + 33) + 1) (n2 := 8 * (34 * N + k + 33) + 6) (by omega) (by omega) ?_
      refine P_xI (As := [_]) h hq hb hcw dX10_init_101 cv_X10_46 rfl ⟨_, _, _, mem_x9 (Nat.le_refl _), rfl, rfl⟩ rfl (Nat.le_of_ble_eq_true rfl) (fun x hx => e_X9_isRequestStop hf (Nat.le_refl _) hx) fun v hi hq h => ?_
      have w := C1_put (A := A) (upd (Y 4) (ix x2) (nz v)) mk1_4 (ht_4 (Y := Y))
      refine P_zst (C2 := C1 A (w2 Y 4 (ix x2) (nz v))) hq g2 w.1 w.2.1 w.2.2.1 dX10_init_104 fun M hq => ?_
      rw [← w.2.2.2.1] at hq
      have g2 : inr x2 (hN (w2 Y 4 (ix x2) (nz v))) = true := by rw [show hN (w2 Y 4 (ix x2) (nz v)) = hN Y from w.2.2.2.2.1]; exact g2
      replace n8 : hN (w2 Y 4 (ix x2) (nz v)) ≤ 8 := by rw [show hN (w2 Y 4 (ix x2) (nz v)) = hN Y from w.2.2.2.2.1]; exact n8
      replace t4 : hT (w2 Y 4 (ix x2) (nz v)) ≤ 4 := by rw [show hT (w2 Y 4 (ix x2) (nz v)) = hT Y from w.2.2.2.2.2]; exact t4
      replace hq : HX oh (obP1 A (w2 Y 4 (ix x2) (nz v))) (C1 A (w2 Y 4 (ix x2) (nz v))) A M0 hi0 M hi := hq
      change (fun Y2 : Nat → Nat → Int32 => bdv (f_X9_inspectionTime W x2) fun v2 => bnd (w2 Y2 5 (ix x2) v2) fun Y => l_ini_118 W x2 (fun Y => l_ini_86 W K N Y (x2 + 1)) 8 Y 0) (w2 Y 4 (ix x2) (nz v)) = some r at h
      generalize w2 Y 4 (ix x2) (nz v) = Y at *
      clear w
      refine V_aload_n (i := 0) dX10_init_105 rfl rfl ?_
      refine V_getfield dX10_init_106 hq.o fl_X10_42 rfl ?_
      refine V_iload_n (i := 2) dX10_init_109 rfl rfl ?_
      refine V_aload_n (i := 1) dX10_init_110 rfl rfl ?_
      refine V_iload_n (i := 2) dX10_init_111 rfl rfl ?_
      refine V_spare (k2 := (34 * N + k + 32) + 1) (n2 := 8 * (34 * N + k + 32) + 6) (by omega) (by omega) ?_
      refine P_xI (As := [_]) h hq hb hcw dX10_init_112 cv_X10_50 rfl ⟨_, _, _, mem_x9 (Nat.le_refl _), rfl, rfl⟩ rfl (Nat.le_of_ble_eq_true rfl) (fun x hx => e_X9_inspectionTime hf (Nat.le_refl _) hx) fun v hi hq h => ?_
      have w := C1_put (A := A) (upd (Y 5) (ix x2) v) mk1_5 (ht_5 (Y := Y))
      refine P_ist (C2 := C1 A (w2 Y 5 (ix x2) v)) hq g2 w.1 w.2.1 w.2.2.1 dX10_init_115 fun M hq => ?_
      rw [← w.2.2.2.1] at hq
      refine V_iconst (v := 0) dX10_init_116 (by decide) ?_
      refine V_istore_n (i := 3) dX10_init_117 rfl (Nat.le_of_ble_eq_true rfl) ?_
      refine V_spare (k2 := 4 * 8 + (34 * N + k)) (n2 := 8 * (4 * 8 + (34 * N + k))) (by omega) (by omega) ?_
      refine V_sub (ks := [1, 2, 3, 0]) rfl (lv_ini_118 (k := 34 * N + k) hf hb hcw ?_ 8 _ _ _ _ ⟨w.2.2.2.2.1 ▸ n8, w.2.2.2.2.2 ▸ t4, hq⟩ h)
      intro Y M hi hq h
      refine V_iinc (i := 2) (v := x2 + 1) dX10_init_160 rfl rfl (Nat.le_of_ble_eq_true rfl) ?_
      refine V_goto (tgt := 86) dX10_init_163 rfl ?_
      exact V_sub (ks := [1, 2, 0]) rfl (ih _ _ _ _ hq h)
end Ini2
def iok (x : Int32) (m : Nat) : Bool := !(decide (x < 0)) && Nat.ble (ix x) m
theorem iok_of {x : Int32} {m : Nat} (h : iok x m = true) : ¬ x < 0 ∧ ix x ≤ m := by
  unfold iok at h
  rw [Bool.and_eq_true] at h
  refine ⟨fun q => ?_, Nat.ble_eq.mp h.2⟩
  rw [decide_eq_true q] at h
  exact absurd h.1 (by decide)
def dflH : List Value := [.int 0, .int 0, .null, .null, .null, .null, .null, .null, .null, .null, .null, .null, .null, .null, .null, .int 0, .int 0]
def C5 (N a0 a1 a2 : Nat) : Nat → Option va_E := C1u (C1u (Cm (Cm (Cm (fun _ => none) 14 40 12 3 1 (9, .inl fun _ => 0) a0) 2 16 N 3 1 (N, .inl fun _ => 0) a1) 3 24 N 9 2 (N, .inl fun _ => 0) a2) 4 (.inl (2, N, .inl fun _ => 0))) 5 (.inl (1, N, .inl fun _ => 0))
def A5 (N a0 a1 a2 a3 a4 : Nat) : Nat → Nat := A1u (A1u (Am (Am (Am (fun _ => 0) 14 40 12 a0) 2 16 N a1) 3 24 N a2) 4 a3) 5 a4
theorem ints_z {n : Nat} : ints n (fun _ => (0 : Int32)) = fun _ => 0 := by
  funext j
  unfold ints
  exact ite_self _
theorem cdf_refs {n a : Nat} {g : Nat → Nat} (h : ∀ i, i < n → g i = a + 1 + i) : refs n g = cdf n a := by
  funext i
  unfold refs cdf
  by_cases hi : i < n
  · rw [if_pos hi, if_pos hi, h i hi]
  · rw [if_neg hi, if_neg hi]
theorem init_w {n t : Int32} {a0 a1 a2 a3 a4 : Nat} (n8 : ix n ≤ 8) : ∀ u e, C1 (A5 (ix n) a0 a1 a2 a3 a4) (Y1 n t) u = some e → C5 (ix n) a0 a1 a2 u = some e := by
  intro u e he
  have eN : hN (Y1 n t) = ix n := rfl
  have eT : hT (Y1 n t) = ix t := rfl
  have hz : ∀ v, v ≠ 60 → Y1 n t v = fun _ => 0 := fun v hv => if_neg hv
  unfold C1 at he
  by_cases hm : mk1 u = true
  · rw [if_pos hm] at he
    unfold mk1 at hm
    simp only [Bool.or_eq_true, Bool.and_eq_true, beq_iff_eq, Nat.ble_eq, Nat.blt_eq] at hm
    rcases (show u = 2 ∨ u = 3 ∨ u = 4 ∨ u = 5 ∨ u = 14 ∨ (16 ≤ u ∧ u < 24) ∨ (24 ≤ u ∧ u < 32) ∨ (40 ≤ u ∧ u < 52) by omega) with rfl | rfl | rfl | rfl | rfl | hu | hu | hu
    · rw [HC_out ho_2, eN] at he
      rw [← he, cdf_refs (a := a1) (fun i hi => ?_)]
      · rfl
      · unfold A5 A1u Am
        rw [if_neg (by omega), if_neg (by omega), if_neg (by omega), if_neg (by omega), if_neg (by omega), if_pos ⟨by omega, by omega⟩]
        omega
    · rw [HC_out ho_3, eN] at he
      rw [← he, cdf_refs (a := a2) (fun i hi => ?_)]
      · rfl
      · unfold A5 A1u Am
        rw [if_neg (by omega), if_neg (by omega), if_neg (by omega), if_pos ⟨by omega, by omega⟩]
        omega
    · rw [HC_row ht_4, eN, hz 4 (by decide), ints_z] at he
      rw [← he]
      rfl
    · rw [HC_row ht_5, eN, hz 5 (by decide), ints_z] at he
      rw [← he]
      rfl
    · rw [HC_out ho_14] at he
      rw [← he, cdf_refs (a := a0) (fun i hi => ?_)]
      · rfl
      · unfold A5 A1u Am
        rw [if_neg (by omega), if_neg (by omega), if_neg (by omega), if_neg (by omega), if_neg (by omega), if_neg (by omega), if_neg (by omega), if_pos ⟨by omega, by omega⟩]
        omega
    · by_cases hl : u - 16 < ix n
      · have ht : HT (hN (Y1 n t)) (hT (Y1 n t)) (hL (Y1 n t)) u = some (1, ix n) := by
          unfold HT
          rw [eN, if_neg (by omega), if_neg (by omega), if_neg (by omega), if_pos ⟨by omega, by omega, by omega⟩]
        rw [HC_row ht, hz u (by omega), ints_z] at he
        rw [← he]
        unfold C5 C1u Cm
        rw [if_neg (by omega), if_neg (by omega), if_neg (by omega), if_neg (by omega), if_neg (by omega), if_pos ⟨by omega, by omega⟩]
      · have ho : HO (hN (Y1 n t)) (hT (Y1 n t)) u = none := by
          unfold HO
          rw [if_neg (by omega), if_neg (by omega), if_neg (by omega), if_neg (by omega)]
        have ht : HT (hN (Y1 n t)) (hT (Y1 n t)) (hL (Y1 n t)) u = none := by
          unfold HT
          rw [eN, if_neg (by omega), if_neg (by omega), if_neg (by omega), if_neg (by omega), if_neg (by omega), if_neg (by omega), if_neg (by omega)]
        unfold HC at he
        rw [ho, ht] at he
        cases he
    · by_cases hl : u - 24 < ix n
      · have ht : HT (hN (Y1 n t)) (hT (Y1 n t)) (hL (Y1 n t)) u = some (2, ix n) := by
          unfold HT
          rw [eN, if_neg (by omega), if_neg (by omega), if_neg (by omega), if_neg (by omega), if_pos ⟨by omega, by omega, by omega⟩]
        rw [HC_row ht, hz u (by omega), ints_z] at he
        rw [← he]
        unfold C5 C1u Cm
        rw [if_neg (by omega), if_neg (by omega), if_neg (by omega), if_pos ⟨by omega, by omega⟩]
      · have ho : HO (hN (Y1 n t)) (hT (Y1 n t)) u = none := by
          unfold HO
          rw [if_neg (by omega), if_neg (by omega), if_neg (by omega), if_neg (by omega)]
        have ht : HT (hN (Y1 n t)) (hT (Y1 n t)) (hL (Y1 n t)) u = none := by
          unfold HT
          rw [eN, if_neg (by omega), if_neg (by omega), if_neg (by omega), if_neg (by omega), if_neg (by omega), if_neg (by omega), if_neg (by omega)]
        unfold HC at he
        rw [ho, ht] at he
        cases he
    · have ht : HT (hN (Y1 n t)) (hT (Y1 n t)) (hL (Y1 n t)) u = some (1, 9) := by
        unfold HT
        rw [if_neg (by omega), if_neg (by omega), if_neg (by omega), if_neg (by omega), if_neg (by omega), if_neg (by omega), if_pos ⟨by omega, by omega⟩]
      rw [HC_row ht, hz u (by omega), ints_z] at he
      rw [← he]
      unfold C5 C1u Cm
      rw [if_neg (by omega), if_neg (by omega), if_neg (by omega), if_neg (by omega), if_neg (by omega), if_neg (by omega), if_neg (by omega), if_pos ⟨by omega, by omega⟩]
  · rw [if_neg hm] at he
    cases he
section Ini3
variable {G : GT} {f : Nat} {oh b : Nat} {M0 : MM} {hi0 K0 : Nat} {W : Nat → Nat → Int32} {P0 : PS} {R : Type} {r : R}
theorem init_1 {K : Int32 → Int32 → Option R} (hf : 9 ≤ f) (hb : b + 609 ≤ oh) (hcw : MEM b 609 W M0 = M0) (ho : M0 oh = some (.inr (10, dflH))) (hlt : oh < hi0) (h : bdc (f_X9_stationCount W) (fun sn => bdc (f_X9_trainCount W) (fun tn => gd (iok sn 8) (gd (iok tn 4) (K sn tn)))) = some r)
    (kk : ∀ (sn tn : Int32) (A : Nat → Nat) (M : MM) (hi : Nat), H1 oh A M0 hi0 (Y1 sn tn) M hi → K sn tn = some r → V G f (Ex G f) mX10_init P0 86 [(0, .ref oh), (1, .ref b), (2, .int 0)] [] M hi K0 (8 * K0)) : V G f (Ex G f) mX10_init P0 0 [(0, .ref oh), (1, .ref b)] [] M0 hi0 (K0 + 80) (8 * (K0 + 80)) := by
  have hq : HX oh dflH (fun _ => none) (fun _ => 0) M0 hi0 M0 hi0 := ⟨⟨hlt, ho, fun u e he => by cases he⟩, fun _ _ => rfl, Nat.le_refl _⟩
  refine V_aload_n (i := 0) dX10_init_0 rfl rfl ?_
  refine V_objInit dX10_init_1 tw_720 (Nat.le_of_ble_eq_true rfl) (Nat.le_trans (Nat.le_of_ble_eq_true rfl) hf) ?_
  refine V_aload_n (i := 0) dX10_init_4 rfl rfl ?_
  refine V_bipush (v := 12) dX10_init_5 (by decide) ?_
  refine V_bipush (v := 9) dX10_init_7 (by decide) ?_
  refine V_spare (k2 := K0 + 50 + (1 + 12)) (n2 := 8 * (K0 + 50) + (12 + 12 * 9)) (by omega) (by omega) ?_
  refine P_mna (u0 := 14) (base := 40) (N1 := 12) (N2 := 9) (t := 3) (t2 := 1) (z2 := (9, .inl fun _ => 0)) (ET := .int) hq (by omega) dX10_init_9 tw_721 (by decide) ⟨rfl, by decide⟩ ⟨rfl, by decide⟩ tw_77 ⟨by decide, by decide, by decide⟩ ⟨by decide, by decide, by decide⟩ (fun cA => rfl) fun M hq => ?_
  refine P_pf hq dX10_init_13 (fp_X10_9 rfl rfl) rfl rfl (Nat.le_of_ble_eq_true rfl) fun M hq => ?_
  refine V_aload_n (i := 0) dX10_init_16 rfl rfl ?_
  refine V_aload_n (i := 1) dX10_init_17 rfl rfl ?_
  refine P_xN (As := []) h hq hb hcw dX10_init_18 cv_X10_14 rfl ⟨_, _, _, mem_x9 (Nat.le_refl _), rfl, rfl⟩ rfl (Nat.le_of_ble_eq_true rfl) (fun x hx => e_X9_stationCount (Nat.le_trans (Nat.le_of_ble_eq_true rfl) hf) (Nat.le_refl _) hx) fun sn h => ?_
  refine P_pf hq dX10_init_21 (fp_X10_20 rfl rfl) rfl rfl (Nat.le_of_ble_eq_true rfl) fun M hq => ?_
  refine V_aload_n (i := 0) dX10_init_24 rfl rfl ?_
  refine V_aload_n (i := 1) dX10_init_25 rfl rfl ?_
  refine P_xN (As := []) h hq hb hcw dX10_init_26 cv_X10_24 rfl ⟨_, _, _, mem_x9 (Nat.le_refl _), rfl, rfl⟩ rfl (Nat.le_of_ble_eq_true rfl) (fun x hx => e_X9_trainCount (Nat.le_trans (Nat.le_of_ble_eq_true rfl) hf) (Nat.le_refl _) hx) fun tn h => ?_
  refine P_pf hq dX10_init_29 (fp_X10_27 rfl rfl) rfl rfl (Nat.le_of_ble_eq_true rfl) fun M hq => ?_
  refine D_gd h fun gn h => ?_
  refine D_gd h fun gt h => ?_
  obtain ⟨n0, n8⟩ := iok_of gn
  obtain ⟨t0, t4⟩ := iok_of gt
  refine V_aload_n (i := 0) dX10_init_32 rfl rfl ?_
  refine V_aload_n (i := 0) dX10_init_33 rfl rfl ?_
  refine V_getfield dX10_init_34 hq.o fl_X10_20 rfl ?_
  refine V_aload_n (i := 0) dX10_init_37 rfl rfl ?_
  refine V_getfield dX10_init_38 hq.o fl_X10_20 rfl ?_
  refine V_spare (k2 := K0 + 30 + (1 + (ix sn))) (n2 := 8 * (K0 + 30) + ((ix sn) + (ix sn) * (ix sn))) (by omega) (by have := Nat.mul_le_mul n8 n8; omega) ?_
  refine P_mna (u0 := 2) (base := 16) (N1 := (ix sn)) (N2 := (ix sn)) (t := 3) (t2 := 1) (z2 := (ix sn, .inl fun _ => 0)) (ET := .int) hq (by omega) dX10_init_41 tw_721 (by decide) ⟨rfl, by decide⟩ ⟨rfl, by decide⟩ tw_77 ⟨n0, rfl, by omega⟩ ⟨n0, rfl, by omega⟩ (fun cA => rfl) fun M hq => ?_
  refine P_pf hq dX10_init_45 (fp_X10_30 rfl rfl) rfl rfl (Nat.le_of_ble_eq_true rfl) fun M hq => ?_
  refine V_aload_n (i := 0) dX10_init_48 rfl rfl ?_
  refine V_aload_n (i := 0) dX10_init_49 rfl rfl ?_
  refine V_getfield dX10_init_50 hq.o fl_X10_20 rfl ?_
  refine V_aload_n (i := 0) dX10_init_53 rfl rfl ?_
  refine V_getfield dX10_init_54 hq.o fl_X10_20 rfl ?_
  refine V_spare (k2 := K0 + 10 + (1 + (ix sn))) (n2 := 8 * (K0 + 10) + ((ix sn) + (ix sn) * (ix sn))) (by omega) (by have := Nat.mul_le_mul n8 n8; omega) ?_
  refine P_mna (u0 := 3) (base := 24) (N1 := (ix sn)) (N2 := (ix sn)) (t := 9) (t2 := 2) (z2 := (ix sn, .inl fun _ => 0)) (ET := .boolean) hq (by omega) dX10_init_57 tw_728 (by decide) ⟨rfl, by decide⟩ ⟨rfl, by decide⟩ tw_682 ⟨n0, rfl, by omega⟩ ⟨n0, rfl, by omega⟩ (fun cA => rfl) fun M hq => ?_
  refine P_pf hq dX10_init_61 (fp_X10_35 rfl rfl) rfl rfl (Nat.le_of_ble_eq_true rfl) fun M hq => ?_
  refine V_aload_n (i := 0) dX10_init_64 rfl rfl ?_
  refine V_aload_n (i := 0) dX10_init_65 rfl rfl ?_
  refine V_getfield dX10_init_66 hq.o fl_X10_20 rfl ?_
  refine V_spare (k2 := (K0 + 5) + 1) (n2 := 8 * (K0 + 5) + ix sn) (by omega) (by omega) ?_
  refine P_new (aty := .boolean) (t := 2) (N0 := ix sn) (u := 4) (x := (ix sn, .inl fun _ => 0)) hq (by simp [Cm]) dX10_init_69 tw_682 rfl (by decide) (fun cA => rfl) n0 rfl (by omega) fun M hq => ?_
  refine P_pf hq dX10_init_71 (fp_X10_38 rfl rfl) rfl rfl (Nat.le_of_ble_eq_true rfl) fun M hq => ?_
  refine V_aload_n (i := 0) dX10_init_74 rfl rfl ?_
  refine V_aload_n (i := 0) dX10_init_75 rfl rfl ?_
  refine V_getfield dX10_init_76 hq.o fl_X10_20 rfl ?_
  refine V_spare (k2 := K0 + 1) (n2 := 8 * K0 + ix sn) (by omega) (by omega) ?_
  refine P_new (aty := .int) (t := 1) (N0 := ix sn) (u := 5) (x := (ix sn, .inl fun _ => 0)) hq (by simp [Cm, C1u]) dX10_init_79 tw_77 rfl (by decide) (fun cA => rfl) n0 rfl (by omega) fun M hq => ?_
  refine P_pf hq dX10_init_81 (fp_X10_42 rfl rfl) rfl rfl (Nat.le_of_ble_eq_true rfl) fun M hq => ?_
  refine V_iconst (v := 0) dX10_init_84 (by decide) ?_
  refine V_istore_n (i := 2) dX10_init_85 rfl (Nat.le_of_ble_eq_true rfl) ?_
  have hw : H1 oh (A5 (ix sn) hi0 (hi0 + 1 + 12) (hi0 + 1 + 12 + 1 + ix sn) (hi0 + 1 + 12 + 1 + ix sn + 1 + ix sn) (hi0 + 1 + 12 + 1 + ix sn + 1 + ix sn + 1)) M0 hi0 (Y1 sn tn) M _ := ⟨n8, t4, HX.weak (C := C5 (ix sn) hi0 (hi0 + 1 + 12) (hi0 + 1 + 12 + 1 + ix sn)) hq (init_w n8)⟩
  exact V_sub (ks := [1, 2, 0]) rfl (kk sn tn _ _ _ hw h)
end Ini3
theorem C1_no {A : Nat → Nat} {Y : Nat → Nat → Int32} {u : Nat} (h : mk1 u = false) : C1 A Y u = none := by
  unfold C1
  rw [h]
  rfl
theorem mk1_no : mk1 6 = false ∧ mk1 7 = false ∧ mk1 8 = false ∧ mk1 9 = false ∧ mk1 10 = false ∧ mk1 11 = false ∧ mk1 12 = false ∧ mk1 13 = false := by decide
def C2 (cnt : Nat) (A : Nat → Nat) (Y : Nat → Nat → Int32) (u : Nat) : Option va_E := if u = 6 then some (.inl (3, hT Y, .inr (.inr (.inr (.inr (fun i => if i < cnt then some (A (32 + i)) else none)))))) else if 32 ≤ u ∧ u < 36 ∧ ¬ (u - 32 < cnt) then none else HC A Y u
def H2 (cnt h : Nat) (A : Nat → Nat) (M0 : MM) (hi0 : Nat) (Y : Nat → Nat → Int32) (M : MM) (hi : Nat) : Prop := hN Y ≤ 8 ∧ hT Y ≤ 4 ∧ HX h (hobj A Y) (C2 cnt A Y) A M0 hi0 M hi
def Z7 (Y : Nat → Nat → Int32) : Nat → Nat → Int32 := fun u => if 7 ≤ u ∧ u ≤ 13 then (fun _ => 0) else Y u
def A7 (A : Nat → Nat) (a : Nat) : Nat → Nat := A1u (A1u (A1u (A1u (A1u (A1u (A1u (A1u A 6 a) 7 (a + 1)) 8 (a + 1 + 1)) 9 (a + 1 + 1 + 1)) 10 (a + 1 + 1 + 1 + 1)) 11 (a + 1 + 1 + 1 + 1 + 1)) 12 (a + 1 + 1 + 1 + 1 + 1 + 1)) 13 (a + 1 + 1 + 1 + 1 + 1 + 1 + 1)
def C7 (C : Nat → Option va_E) (t : Nat) : Nat → Option va_E := C1u (C1u (C1u (C1u (C1u (C1u (C1u (C1u C 6 (.inl (3, t, .inr (.inr (.inr (.inr (fun _ => none))))))) 7 (.inl (1, t, .inl fun _ => 0))) 8 (.inl (1, t, .inl fun _ => 0))) 9 (.inl (1, t, .inl fun _ => 0))) 10 (.inl (1, t, .inl fun _ => 0))) 11 (.inl (1, t, .inl fun _ => 0))) 12 (.inl (1, t, .inl fun _ => 0))) 13 (.inl (1, t, .inl fun _ => 0))
theorem Z7_ne {Y : Nat → Nat → Int32} {u : Nat} (h : ¬ (7 ≤ u ∧ u ≤ 13)) : Z7 Y u = Y u := if_neg h
theorem A7_ne {A : Nat → Nat} {a u : Nat} (h : u < 6 ∨ 13 < u) : A7 A a u = A u := by
  unfold A7 A1u
  rw [if_neg (by omega), if_neg (by omega), if_neg (by omega), if_neg (by omega), if_neg (by omega), if_neg (by omega), if_neg (by omega), if_neg (by omega)]
theorem C7_ne {C : Nat → Option va_E} {t u : Nat} (h : u < 6 ∨ 13 < u) : C7 C t u = C u := by
  unfold C7 C1u
  rw [if_neg (by omega), if_neg (by omega), if_neg (by omega), if_neg (by omega), if_neg (by omega), if_neg (by omega), if_neg (by omega), if_neg (by omega)]
theorem init_w2 {A : Nat → Nat} {Y : Nat → Nat → Int32} {a : Nat} (n8 : hN Y ≤ 8) : ∀ u e, C2 0 (A7 A a) (Z7 Y) u = some e → C7 (C1 A Y) (hT Y) u = some e := by
  intro u e he
  have eN : hN (Z7 Y) = hN Y := by unfold hN; rw [Z7_ne (by decide)]
  have eT : hT (Z7 Y) = hT Y := by unfold hT; rw [Z7_ne (by decide)]
  have eL : hL (Z7 Y) = hL Y := by funext i; unfold hL; rw [Z7_ne (by decide)]
  unfold C2 at he
  by_cases h6 : u = 6
  · subst h6
    rw [if_pos rfl, eT] at he
    rw [← he]
    show some _ = some _
    congr 1
  rw [if_neg h6] at he
  by_cases h32 : 32 ≤ u ∧ u < 36 ∧ ¬ (u - 32 < 0)
  · rw [if_pos h32] at he
    cases he
  rw [if_neg h32] at he
  by_cases h7 : 7 ≤ u ∧ u ≤ 13
  · have ht : HT (hN (Z7 Y)) (hT (Z7 Y)) (hL (Z7 Y)) u = some (1, hT Y) := by
      unfold HT
      rw [if_neg (by omega), if_neg (by omega), if_pos h7, eT]
    rw [HC_row ht, show Z7 Y u = fun _ => 0 from if_pos h7, ints_z] at he
    rw [← he]
    rcases (show u = 7 ∨ u = 8 ∨ u = 9 ∨ u = 10 ∨ u = 11 ∨ u = 12 ∨ u = 13 by omega) with rfl | rfl | rfl | rfl | rfl | rfl | rfl <;> rfl
  · have e2 : HC (A7 A a) (Z7 Y) u = HC A Y u := by
      unfold HC
      rw [eN, eT, eL, Z7_ne h7]
      cases hO : HO (hN Y) (hT Y) u with
      | none => rfl
      | some z =>
        obtain ⟨tg, len, base⟩ := z
        have hb : 16 ≤ base := by
          unfold HO at hO
          repeat' split at hO
          all_goals first | (cases hO; omega) | cases hO
        have e3 : (fun i => A7 A a (base + i)) = fun i => A (base + i) := by
          funext i
          exact A7_ne (Or.inr (by omega))
        show some _ = some _
        rw [e3]
    rw [e2] at he
    have hm : mk1 u = true := by
      have h60 : u < 52 := by
        cases hO : HO (hN Y) (hT Y) u with
        | some z =>
          unfold HO at hO
          repeat' split at hO
          all_goals first | omega | cases hO
        | none =>
          cases hT9 : HT (hN Y) (hT Y) (hL Y) u with
          | some z => exact HT_lt hT9
          | none =>
            unfold HC at he
            rw [hO, hT9] at he
            cases he
      have h37 : ¬ (36 ≤ u ∧ u < 40) ∧ ¬ (u < 2) ∧ u ≠ 15 := by
        refine ⟨fun q => ?_, fun q => ?_, fun q => ?_⟩
        all_goals
          unfold HC HO HT at he
          rw [if_neg (by omega), if_neg (by omega), if_neg (by omega), if_neg (by omega)] at he
          dsimp only at he
          rw [if_neg (by omega), if_neg (by omega), if_neg (by omega), if_neg (by omega), if_neg (by omega), if_neg (by omega), if_neg (by omega)] at he
          cases he
      unfold mk1
      simp only [Bool.or_eq_true, Bool.and_eq_true, beq_iff_eq, Nat.ble_eq, Nat.blt_eq]
      omega
    rw [C7_ne (by omega)]
    unfold C1
    rw [if_pos hm]
    exact he
section Ini4
variable {G : GT} {f : Nat} {oh b : Nat} {A : Nat → Nat} {M0 : MM} {hi0 K0 : Nat} {W : Nat → Nat → Int32} {P0 : PS} {R : Type} {r : R}
theorem init_2 {Y : Nat → Nat → Int32} {M : MM} {hi : Nat} (hq : H1 oh A M0 hi0 Y M hi) (t0 : ¬ Y 60 1 < 0)
    (kk : ∀ (A : Nat → Nat) (M : MM) (hi : Nat), H2 0 oh A M0 hi0 (Z7 Y) M hi → V G f (Ex G f) mX10_init P0 249 [(0, .ref oh), (1, .ref b), (2, .int 0)] [] M hi K0 (8 * K0)) : V G f (Ex G f) mX10_init P0 166 [(0, .ref oh), (1, .ref b)] [] M hi (K0 + 10) (8 * (K0 + 10)) := by
  obtain ⟨n8, t4, hq⟩ := hq
  obtain ⟨m6, m7, m8, m9, m10, m11, m12, m13⟩ := mk1_no
  refine V_aload_n (i := 0) dX10_init_166 rfl rfl ?_
  refine V_aload_n (i := 0) dX10_init_167 rfl rfl ?_
  refine V_getfield dX10_init_168 hq.o fl_X10_27 rfl ?_
  refine V_spare (k2 := (K0 + 8) + 1) (n2 := 8 * (K0 + 8) + hT Y) (by omega) (by omega) ?_
  refine P_anew (t := 3) (N0 := hT Y) (u := 6) (ET := .int) hq (C1_no (by decide)) dX10_init_171 tw_819 (by decide) rfl (by decide) t0 rfl (by omega) fun M hq => ?_
  refine P_pf hq dX10_init_174 (fp_X10_63 rfl rfl) rfl rfl (Nat.le_of_ble_eq_true rfl) fun M hq => ?_
  refine V_aload_n (i := 0) dX10_init_177 rfl rfl ?_
  refine V_aload_n (i := 0) dX10_init_178 rfl rfl ?_
  refine V_getfield dX10_init_179 hq.o fl_X10_27 rfl ?_
  refine V_spare (k2 := K0 + 7 + 1) (n2 := 8 * (K0 + 7) + hT Y) (by omega) (by omega) ?_
  refine P_new (aty := .int) (t := 1) (N0 := hT Y) (u := 7) (x := (hT Y, .inl fun _ => 0)) hq (by unfold C1u; simp [C1_no, m6, m7, m8, m9, m10, m11, m12, m13]) dX10_init_182 tw_77 rfl (by decide) (fun cA => rfl) t0 rfl (by omega) fun M hq => ?_
  refine P_pf hq dX10_init_184 (fp_X10_66 rfl rfl) rfl rfl (Nat.le_of_ble_eq_true rfl) fun M hq => ?_
  refine V_aload_n (i := 0) dX10_init_187 rfl rfl ?_
  refine V_aload_n (i := 0) dX10_init_188 rfl rfl ?_
  refine V_getfield dX10_init_189 hq.o fl_X10_27 rfl ?_
  refine V_spare (k2 := K0 + 6 + 1) (n2 := 8 * (K0 + 6) + hT Y) (by omega) (by omega) ?_
  refine P_new (aty := .int) (t := 1) (N0 := hT Y) (u := 8) (x := (hT Y, .inl fun _ => 0)) hq (by unfold C1u; simp [C1_no, m6, m7, m8, m9, m10, m11, m12, m13]) dX10_init_192 tw_77 rfl (by decide) (fun cA => rfl) t0 rfl (by omega) fun M hq => ?_
  refine P_pf hq dX10_init_194 (fp_X10_69 rfl rfl) rfl rfl (Nat.le_of_ble_eq_true rfl) fun M hq => ?_
  refine V_aload_n (i := 0) dX10_init_197 rfl rfl ?_
  refine V_aload_n (i := 0) dX10_init_198 rfl rfl ?_
  refine V_getfield dX10_init_199 hq.o fl_X10_27 rfl ?_
  refine V_spare (k2 := K0 + 5 + 1) (n2 := 8 * (K0 + 5) + hT Y) (by omega) (by omega) ?_
  refine P_new (aty := .int) (t := 1) (N0 := hT Y) (u := 9) (x := (hT Y, .inl fun _ => 0)) hq (by unfold C1u; simp [C1_no, m6, m7, m8, m9, m10, m11, m12, m13]) dX10_init_202 tw_77 rfl (by decide) (fun cA => rfl) t0 rfl (by omega) fun M hq => ?_
  refine P_pf hq dX10_init_204 (fp_X10_72 rfl rfl) rfl rfl (Nat.le_of_ble_eq_true rfl) fun M hq => ?_
  refine V_aload_n (i := 0) dX10_init_207 rfl rfl ?_
  refine V_aload_n (i := 0) dX10_init_208 rfl rfl ?_
  refine V_getfield dX10_init_209 hq.o fl_X10_27 rfl ?_
  refine V_spare (k2 := K0 + 4 + 1) (n2 := 8 * (K0 + 4) + hT Y) (by omega) (by omega) ?_
  refine P_new (aty := .int) (t := 1) (N0 := hT Y) (u := 10) (x := (hT Y, .inl fun _ => 0)) hq (by unfold C1u; simp [C1_no, m6, m7, m8, m9, m10, m11, m12, m13]) dX10_init_212 tw_77 rfl (by decide) (fun cA => rfl) t0 rfl (by omega) fun M hq => ?_
  refine P_pf hq dX10_init_214 (fp_X10_75 rfl rfl) rfl rfl (Nat.le_of_ble_eq_true rfl) fun M hq => ?_
  refine V_aload_n (i := 0) dX10_init_217 rfl rfl ?_
  refine V_aload_n (i := 0) dX10_init_218 rfl rfl ?_
  refine V_getfield dX10_init_219 hq.o fl_X10_27 rfl ?_
  refine V_spare (k2 := K0 + 3 + 1) (n2 := 8 * (K0 + 3) + hT Y) (by omega) (by omega) ?_
  refine P_new (aty := .int) (t := 1) (N0 := hT Y) (u := 11) (x := (hT Y, .inl fun _ => 0)) hq (by unfold C1u; simp [C1_no, m6, m7, m8, m9, m10, m11, m12, m13]) dX10_init_222 tw_77 rfl (by decide) (fun cA => rfl) t0 rfl (by omega) fun M hq => ?_
  refine P_pf hq dX10_init_224 (fp_X10_78 rfl rfl) rfl rfl (Nat.le_of_ble_eq_true rfl) fun M hq => ?_
  refine V_aload_n (i := 0) dX10_init_227 rfl rfl ?_
  refine V_aload_n (i := 0) dX10_init_228 rfl rfl ?_
  refine V_getfield dX10_init_229 hq.o fl_X10_27 rfl ?_
  refine V_spare (k2 := K0 + 2 + 1) (n2 := 8 * (K0 + 2) + hT Y) (by omega) (by omega) ?_
  refine P_new (aty := .int) (t := 1) (N0 := hT Y) (u := 12) (x := (hT Y, .inl fun _ => 0)) hq (by unfold C1u; simp [C1_no, m6, m7, m8, m9, m10, m11, m12, m13]) dX10_init_232 tw_77 rfl (by decide) (fun cA => rfl) t0 rfl (by omega) fun M hq => ?_
  refine P_pf hq dX10_init_234 (fp_X10_81 rfl rfl) rfl rfl (Nat.le_of_ble_eq_true rfl) fun M hq => ?_
  refine V_aload_n (i := 0) dX10_init_237 rfl rfl ?_
  refine V_aload_n (i := 0) dX10_init_238 rfl rfl ?_
  refine V_getfield dX10_init_239 hq.o fl_X10_27 rfl ?_
  refine V_spare (k2 := K0 + 1 + 1) (n2 := 8 * (K0 + 1) + hT Y) (by omega) (by omega) ?_
  refine P_new (aty := .int) (t := 1) (N0 := hT Y) (u := 13) (x := (hT Y, .inl fun _ => 0)) hq (by unfold C1u; simp [C1_no, m6, m7, m8, m9, m10, m11, m12, m13]) dX10_init_242 tw_77 rfl (by decide) (fun cA => rfl) t0 rfl (by omega) fun M hq => ?_
  refine P_pf hq dX10_init_244 (fp_X10_84 rfl rfl) rfl rfl (Nat.le_of_ble_eq_true rfl) fun M hq => ?_
  refine V_iconst (v := 0) dX10_init_247 (by decide) ?_
  refine V_istore_n (i := 2) dX10_init_248 rfl (Nat.le_of_ble_eq_true rfl) ?_
  have e60 : Z7 Y 60 = Y 60 := Z7_ne (by decide)
  have hw : H2 0 oh (A7 A hi) M0 hi0 (Z7 Y) M (hi + 1 + 1 + 1 + 1 + 1 + 1 + 1 + 1) := by
    refine ⟨by unfold hN; rw [e60]; exact n8, by unfold hT; rw [e60]; exact t4, ?_⟩
    refine HX.weak (C := C7 (C1 A Y) (hT Y)) ?_ (init_w2 n8)
    have e9 : hobj (A7 A hi) (Z7 Y) = [.int (Y 60 0), .int (Y 60 1), .ref (A 2), .ref (A 3), .ref (A 4), .ref (A 5), .ref hi, .ref (hi + 1), .ref (hi + 1 + 1), .ref (hi + 1 + 1 + 1), .ref (hi + 1 + 1 + 1 + 1), .ref (hi + 1 + 1 + 1 + 1 + 1), .ref (hi + 1 + 1 + 1 + 1 + 1 + 1), .ref (hi + 1 + 1 + 1 + 1 + 1 + 1 + 1), .ref (A 14), .int (Y 60 15), .int (Y 60 16)] := by
      unfold hobj
      rw [e60]
      rfl
    rw [e9]
    exact hq
  refine V_spare (k2 := K0) (n2 := 8 * K0) (by omega) (by omega) ?_
  exact V_sub (ks := [1, 2, 0]) rfl (kk _ _ _ hw)
end Ini4
def Yr (Y : Nat → Nat → Int32) (i : Nat) (len : Int32) : Nat → Nat → Int32 := setU (w2 Y 61 i len) (32 + i) (fun _ => 0)
noncomputable def l_ini_272 (W : Nat → Nat → Int32) (i : Nat) {R : Type} (K : (Nat → Nat → Int32) → Option R) : Nat → (Nat → Nat → Int32) → Int32 → Option R
  | 0, _, _ => none
  | N + 1, Y, x3 => if nI (hL Y i) ≤ x3 then K Y else gd (inr x3 (hL Y i)) (bdv (f_X9_routeStation W (nI i) x3) (fun v => bnd (w2 Y (32 + i) (ix x3) v) (fun Y => l_ini_272 W i K N Y (x3 + 1))))
noncomputable def l_ini_249 (W : Nat → Nat → Int32) {R : Type} (K : (Nat → Nat → Int32) → Option R) : Nat → (Nat → Nat → Int32) → Nat → Option R
  | 0, _, _ => none
  | N + 1, Y, i => if (Y 60 1) ≤ nI i then gd (Nat.ble (hT Y) i) (K Y) else gd (Nat.blt i (hT Y)) (bdv (f_X9_routeLength W (nI i)) (fun len => gd (iok len 6) (bnd (Yr Y i len) (fun Y => l_ini_272 W i (fun Y => bdv (f_X9_capacity W (nI i)) (fun v => bnd (w2 Y 7 i v) (fun Y => bnd (w2 Y 9 i 1) (fun Y => l_ini_249 W K N Y (i + 1))))) 7 Y 0))))
theorem C2_put {A : Nat → Nat} {Y : Nat → Nat → Int32} {u tg len cnt : Nat} (S : Nat → Int32) (hm : ¬ (32 ≤ u ∧ u < 36 ∧ ¬ (u - 32 < cnt))) (ht : HT (hN Y) (hT Y) (hL Y) u = some (tg, len)) : C2 cnt A Y u = some (.inl (tg, len, .inl (ints len (Y u)))) ∧ C2 cnt A (setU Y u S) u = some (.inl (tg, len, .inl (ints len S))) ∧ (∀ v, v ≠ u → C2 cnt A (setU Y u S) v = C2 cnt A Y v) ∧ hobj A (setU Y u S) = hobj A Y ∧ hN (setU Y u S) = hN Y ∧ hT (setU Y u S) = hT Y ∧ hL (setU Y u S) = hL Y := by
  have hlt := HT_lt ht
  have a0 : u ≠ 60 := by omega
  have a1 : u ≠ 61 := by omega
  have h6 : u ≠ 6 := fun q => by subst q; cases ht
  have ht2 : HT (hN (setU Y u S)) (hT (setU Y u S)) (hL (setU Y u S)) u = some (tg, len) := by rw [hN_set a0, hT_set a0, hL_set a1]; exact ht
  refine ⟨by unfold C2; rw [if_neg h6, if_neg hm, HC_row ht], by unfold C2; rw [if_neg h6, if_neg hm, HC_row ht2, setU_eq], fun v hv => ?_, by unfold hobj; rw [setU_ne (Ne.symm a0)], hN_set a0, hT_set a0, hL_set a1⟩
  unfold C2
  rw [hT_set a0, HC_ne hv a0 a1]
theorem nI_L {Y : Nat → Nat → Int32} {i : Nat} : hL Y i = ix (Y 61 i) := rfl
section Ini5
variable {G : GT} {f : Nat} {oh b : Nat} {A : Nat → Nat} {M0 : MM} {hi0 k : Nat} {W : Nat → Nat → Int32} {P0 : PS} {R : Type} {r : R}
theorem lv_ini_272 {i : Nat} {K : (Nat → Nat → Int32) → Option R} (hi5 : i < 5000) (hf : 9 ≤ f) (hb : b + 609 ≤ oh) (hcw : MEM b 609 W M0 = M0) (hK : ∀ (Y : Nat → Nat → Int32) (M : MM) (hi : Nat), i < hT Y → H2 (i + 1) oh A M0 hi0 Y M hi → K Y = some r → V G f (Ex G f) mX10_init P0 303 [(0, .ref oh), (1, .ref b), (2, .int (nI i))] [] M hi k (8 * k)) : ∀ (N : Nat) (Y : Nat → Nat → Int32) (x3 : Int32) (M : MM) (hi : Nat), i < hT Y → H2 (i + 1) oh A M0 hi0 Y M hi → l_ini_272 W i K N Y x3 = some r → V G f (Ex G f) mX10_init P0 272 [(0, .ref oh), (1, .ref b), (2, .int (nI i)), (3, .int x3)] [] M hi (2 * N + k) (8 * (2 * N + k)) := by
  intro N
  induction N with
  | zero => intro Y x3 M hi hiT hq h; cases h
  | succ N ih =>
    intro Y x3 M hi hiT hq h
    rw [l_ini_272] at h
    obtain ⟨n8, t4, hq⟩ := hq
    have g2 : inr (nI i) (hT Y) = true := by
      unfold inr
      rw [show ix (nI i) = i from nI_clamp (by omega), decide_eq_false (nI_pos (by omega))]
      exact Nat.blt_eq.mpr hiT
    have c6 : C2 (i + 1) A Y 6 = some (.inl (3, hT Y, .inr (.inr (.inr (.inr (fun j => if j < i + 1 then some (A (32 + j)) else none)))))) := by unfold C2; rw [if_pos rfl]
    have hy : (fun j => if j < i + 1 then some (A (32 + j)) else none) (ix (nI i)) = some (A (32 + i)) := by
      rw [show ix (nI i) = i from nI_clamp (by omega)]
      exact if_pos (Nat.lt_succ_self i)
    have ht := ht_32n t4 hiT
    have w0 := C2_put (cnt := i + 1) (A := A) (Y (32 + i)) (show ¬ (32 ≤ 32 + i ∧ 32 + i < 36 ∧ ¬ (32 + i - 32 < i + 1)) by omega) ht
    refine V_iload_n (i := 3) dX10_init_272 rfl rfl ?_
    refine V_aload_n (i := 0) dX10_init_273 rfl rfl ?_
    refine V_getfield dX10_init_274 hq.o fl_X10_63 rfl ?_
    refine V_iload_n (i := 2) dX10_init_277 rfl rfl ?_
    refine P_ald (tg := 3) (y := A (32 + i)) (ET := .int) hq g2 c6 hy rfl (by decide) dX10_init_278 ?_
    refine V_alen (t := 1) (v := nI (hL Y i)) dX10_init_279 (hq.1.2.2 _ _ w0.1).1 (by decide) rfl ?_
    refine D_icmp_ge (tgt := 303) h dX10_init_280 rfl (fun b1 h => ?_) (fun b1 h => ?_)
    · refine V_spare (k2 := k) (n2 := 8 * k) (by omega) (by omega) ?_
      exact V_sub (ks := [0, 1, 2]) rfl (hK _ _ _ hiT ⟨n8, t4, hq⟩ h)
    · refine D_gd h fun g3 h => ?_
      refine V_aload_n (i := 0) dX10_init_283 rfl rfl ?_
      refine V_getfield dX10_init_284 hq.o fl_X10_63 rfl ?_
      refine V_iload_n (i := 2) dX10_init_287 rfl rfl ?_
      refine P_ald (tg := 3) (y := A (32 + i)) (ET := .int) hq g2 c6 hy rfl (by decide) dX10_init_288 ?_
      refine V_iload_n (i := 3) dX10_init_289 rfl rfl ?_
      refine V_aload_n (i := 1) dX10_init_290 rfl rfl ?_
      refine V_iload_n (i := 2) dX10_init_291 rfl rfl ?_
      refine V_iload_n (i := 3) dX10_init_292 rfl rfl ?_
      refine V_spare (k2 := (2 * N + k) + 2) (n2 := 8 * (2 * N + k) + 12) (by omega) (by omega) ?_
      refine P_xI (As := [_, _]) h hq hb hcw dX10_init_293 cv_X10_90 rfl ⟨_, _, _, mem_x9 (Nat.le_refl _), rfl, rfl⟩ rfl (Nat.le_of_ble_eq_true rfl) (fun x hx => e_X9_routeStation hf (Nat.le_refl _) hx) fun v hi hq h => ?_
      have w := C2_put (cnt := i + 1) (A := A) (upd (Y (32 + i)) (ix x3) v) (show ¬ (32 ≤ 32 + i ∧ 32 + i < 36 ∧ ¬ (32 + i - 32 < i + 1)) by omega) ht
      refine P_ist (C2 := C2 (i + 1) A (w2 Y (32 + i) (ix x3) v)) hq g3 w.1 w.2.1 w.2.2.1 dX10_init_296 fun M hq => ?_
      rw [← w.2.2.2.1] at hq
      refine V_iinc (i := 3) (v := x3 + 1) dX10_init_297 rfl rfl (Nat.le_of_ble_eq_true rfl) ?_
      refine V_goto (tgt := 272) dX10_init_300 rfl ?_
      exact V_sub (ks := [1, 2, 3, 0]) rfl (ih _ _ _ _ (by rw [w.2.2.2.2.2.1]; exact hiT) ⟨w.2.2.2.2.1 ▸ n8, w.2.2.2.2.2.1 ▸ t4, hq⟩ h)
end Ini5
theorem Yr_60 {Y : Nat → Nat → Int32} {i : Nat} {len : Int32} (h : i < 4) : Yr Y i len 60 = Y 60 := by
  unfold Yr w2
  rw [setU_ne (by omega), setU_ne (by decide)]
theorem C2_row {A : Nat → Nat} {Y : Nat → Nat → Int32} {i a : Nat} {len : Int32} (n8 : hN Y ≤ 8) (hi4 : i < 4) (hiT : i < hT Y) : ∀ u e, C2 (i + 1) (A1u A (32 + i) a) (Yr Y i len) u = some e → u = 6 ∨ C1u (C2 i A Y) (32 + i) (.inl (1, ix len, .inl fun _ => 0)) u = some e := by
  intro u e he
  have e60 := Yr_60 (Y := Y) (len := len) hi4
  have eN : hN (Yr Y i len) = hN Y := by unfold hN; rw [e60]
  have eT : hT (Yr Y i len) = hT Y := by unfold hT; rw [e60]
  have eL : ∀ j, j ≠ i → hL (Yr Y i len) j = hL Y j := fun j hj => by
    unfold hL Yr w2
    rw [setU_ne (by omega), setU_eq]
    unfold upd
    rw [if_neg hj]
  have eLi : hL (Yr Y i len) i = ix len := by
    unfold hL Yr w2
    rw [setU_ne (by omega), setU_eq]
    unfold upd
    rw [if_pos rfl]
  by_cases h6 : u = 6
  · exact Or.inl h6
  refine Or.inr ?_
  unfold C2 at he
  rw [if_neg h6] at he
  by_cases h32 : 32 ≤ u ∧ u < 36 ∧ ¬ (u - 32 < i + 1)
  · rw [if_pos h32] at he; cases he
  rw [if_neg h32] at he
  unfold C1u
  by_cases hu : u = 32 + i
  · subst hu
    rw [if_pos rfl]
    have ht : HT (hN (Yr Y i len)) (hT (Yr Y i len)) (hL (Yr Y i len)) (32 + i) = some (1, ix len) := by
      unfold HT
      rw [if_neg (by omega), if_neg (by omega), if_neg (by omega), if_neg (by omega), if_neg (by omega), if_pos ⟨by omega, by omega, by rw [eT]; omega⟩, Nat.add_sub_cancel_left, eLi]
    rw [HC_row ht, show Yr Y i len (32 + i) = fun _ => 0 from setU_eq, ints_z] at he
    exact he
  · rw [if_neg hu]
    unfold C2
    rw [if_neg h6, if_neg (by omega), ← he]
    unfold HC
    rw [eN, eT]
    cases hO : HO (hN Y) (hT Y) u with
    | some z =>
      obtain ⟨tg, len2, base⟩ := z
      have e3 : refs len2 (fun j => A1u A (32 + i) a (base + j)) = refs len2 (fun j => A (base + j)) ∨ u = 6 := by
        unfold HO at hO
        rw [if_neg (show ¬ u = 6 from h6)] at hO
        refine Or.inl ?_
        funext j
        unfold refs
        by_cases hj : j < len2
        · rw [if_pos hj, if_pos hj]
          have hne : base + j ≠ 32 + i := by
            repeat' split at hO
            all_goals first | (cases hO; omega) | cases hO
          exact congrArg some (if_neg hne).symm.symm
        · rw [if_neg hj, if_neg hj]
      rcases e3 with e3 | e3
      · show some _ = some _
        rw [e3]
      · exact absurd e3 h6
    | none =>
      have hLq : HT (hN Y) (hT Y) (hL (Yr Y i len)) u = HT (hN Y) (hT Y) (hL Y) u := by
        unfold HT
        by_cases hr : 32 ≤ u ∧ u < 36 ∧ u - 32 < hT Y
        · rw [if_neg (by omega), if_neg (by omega), if_neg (by omega), if_neg (by omega), if_neg (by omega), if_pos hr, if_neg (by omega), if_neg (by omega), if_neg (by omega), if_neg (by omega), if_neg (by omega), if_pos hr, eL _ (by omega)]
        · simp only [if_neg hr]
      have hYu : HT (hN Y) (hT Y) (hL Y) u ≠ none → Yr Y i len u = Y u := fun hh => by
        unfold Yr w2
        rw [setU_ne hu, setU_ne (fun q => hh (by subst q; rfl))]
      dsimp only
      rw [hLq]
      cases hT9 : HT (hN Y) (hT Y) (hL Y) u with
      | none => rfl
      | some z =>
        rw [hYu (by rw [hT9]; exact fun q => by cases q)]
section Ini6
variable {G : GT} {f : Nat} {oh b : Nat} {M0 : MM} {hi0 k : Nat} {W : Nat → Nat → Int32} {P0 : PS} {R : Type} {r : R}
theorem lv_ini_249 {K : (Nat → Nat → Int32) → Option R} (hf : 9 ≤ f) (hb : b + 609 ≤ oh) (hcw : MEM b 609 W M0 = M0) (hK : ∀ (Y : Nat → Nat → Int32) (A : Nat → Nat) (M : MM) (hi : Nat), HS oh A M0 hi0 Y M hi → K Y = some r → V G f (Ex G f) mX10_init P0 327 [(0, .ref oh), (1, .ref b)] [] M hi k (8 * k)) : ∀ (N : Nat) (Y : Nat → Nat → Int32) (i : Nat) (A : Nat → Nat) (M : MM) (hi : Nat), i ≤ hT Y → H2 i oh A M0 hi0 Y M hi → l_ini_249 W K N Y i = some r → V G f (Ex G f) mX10_init P0 249 [(0, .ref oh), (1, .ref b), (2, .int (nI i))] [] M hi (20 * N + k) (8 * (20 * N + k)) := by
  intro N
  induction N with
  | zero => intro Y i A M hi hiT hq h; cases h
  | succ N ih =>
    intro Y i A M hi hiT hq h
    rw [l_ini_249] at h
    obtain ⟨n8, t4, hq⟩ := hq
    refine V_iload_n (i := 2) dX10_init_249 rfl rfl ?_
    refine V_aload_n (i := 0) dX10_init_250 rfl rfl ?_
    refine V_getfield dX10_init_251 hq.o fl_X10_27 rfl ?_
    refine D_icmp_ge (tgt := 327) h dX10_init_254 rfl (fun b1 h => ?_) (fun b1 h => ?_)
    · refine D_gd h fun g1 h => ?_
      have e := Nat.ble_eq.mp g1
      have ei : i = hT Y := by omega
      refine V_spare (k2 := k) (n2 := 8 * k) (by omega) (by omega) ?_
      refine V_sub (ks := [0, 1]) rfl (hK Y A _ _ ⟨⟨n8, t4, (HX.weak hq (fun u e he => ?_)).1⟩, hq.2.1, hq.2.2⟩ h)
      subst ei
      unfold C2
      by_cases h6 : u = 6
      · subst h6
        rw [if_pos rfl, ← he, HC_out ho_6]
        rfl
      rw [if_neg h6]
      by_cases h32 : 32 ≤ u ∧ u < 36 ∧ ¬ (u - 32 < hT Y)
      · exfalso
        unfold HC HO HT at he
        rw [if_neg (by omega), if_neg (by omega), if_neg (by omega), if_neg (by omega)] at he
        dsimp only at he
        rw [if_neg (by omega), if_neg (by omega), if_neg (by omega), if_neg (by omega), if_neg (by omega), if_neg (by omega), if_neg (by omega)] at he
        cases he
      · rw [if_neg h32]
        exact he
    · refine D_gd h fun g1 h => ?_
      have hiT : i < hT Y := Nat.blt_eq.mp g1
      have hi4 : i < 4 := by omega
      have g2 : inr (nI i) (hT Y) = true := by
        unfold inr
        rw [show ix (nI i) = i from nI_clamp (by omega), decide_eq_false (nI_pos (by omega))]
        exact Nat.blt_eq.mpr hiT
      have eix : ix (nI i) = i := nI_clamp (by omega)
      refine V_aload_n (i := 0) dX10_init_257 rfl rfl ?_
      refine V_getfield dX10_init_258 hq.o fl_X10_63 rfl ?_
      refine V_iload_n (i := 2) dX10_init_261 rfl rfl ?_
      refine V_aload_n (i := 1) dX10_init_262 rfl rfl ?_
      refine V_iload_n (i := 2) dX10_init_263 rfl rfl ?_
      refine V_spare (k2 := (20 * N + k + 19) + 1) (n2 := 8 * (20 * N + k + 19) + 6) (by omega) (by omega) ?_
      refine P_xI (As := [_]) h hq hb hcw dX10_init_264 cv_X10_87 rfl ⟨_, _, _, mem_x9 (Nat.le_refl _), rfl, rfl⟩ rfl (Nat.le_of_ble_eq_true rfl) (fun x hx => e_X9_routeLength hf (Nat.le_refl _) hx) fun len hi hq h => ?_
      refine D_gd h fun g3 h => ?_
      obtain ⟨l0, l6⟩ := iok_of g3
      refine V_spare (k2 := (20 * N + k + 18) + 1) (n2 := 8 * (20 * N + k + 18) + ix len) (by omega) (by omega) ?_
      have hn : C2 i A Y (32 + i) = none := by
        unfold C2
        rw [if_neg (by omega), if_pos ⟨by omega, by omega, by omega⟩]
      refine P_new (aty := .int) (t := 1) (N0 := ix len) (u := 32 + i) (x := (ix len, .inl fun _ => 0)) hq hn dX10_init_267 tw_77 rfl (by decide) (fun cA => rfl) l0 rfl (by omega) fun M hq => ?_
      have hA6 : A 6 = A1u A (32 + i) hi 6 := (if_neg (show ¬ 6 = 32 + i by omega)).symm
      have c6 : C1u (C2 i A Y) (32 + i) (.inl (1, ix len, .inl fun _ => 0)) 6 = some (.inl (3, hT Y, .inr (.inr (.inr (.inr (fun j => if j < i then some (A (32 + j)) else none)))))) := by
        unfold C1u C2
        rw [if_neg (by omega), if_pos rfl]
      have c32 : C1u (C2 i A Y) (32 + i) (.inl (1, ix len, .inl fun _ => 0)) (32 + i) = some (.inl (1, ix len, .inl fun _ => 0)) := if_pos rfl
      have m6 := (hq.1.2.2 6 _ c6).1
      have m32 := (hq.1.2.2 _ _ c32).1
      rw [show A1u A (32 + i) hi (32 + i) = hi from if_pos rfl] at m32
      rw [← hA6] at m6
      refine V_aastA (t := 3) (t2 := 1) (x2 := (ix len, .inl fun _ => 0)) (ET := .int) dX10_init_269 m6 rfl (by decide) (inr_vp g2) m32 ⟨rfl, by decide⟩ (by decide) ?_
      have eT : hT (Yr Y i len) = hT Y := by unfold hT; rw [Yr_60 hi4]
      have eN : hN (Yr Y i len) = hN Y := by unfold hN; rw [Yr_60 hi4]
      have q2 : HX oh (hobj A Y) (fun v => if v = 6 then some (.inl (3, hT Y, .inr (.inr (.inr (.inr (va_up (fun j => if j < i then some (A (32 + j)) else none) (nI i).toNatClampNeg (some hi))))))) else C1u (C2 i A Y) (32 + i) (.inl (1, ix len, .inl fun _ => 0)) v) (A1u A (32 + i) hi) M0 hi0 (mset M (A 6) (.inl (3, hT Y, .inr (.inr (.inr (.inr (va_up (fun j => if j < i then some (A (32 + j)) else none) (nI i).toNatClampNeg (some hi)))))))) (hi + 1) := by
        rw [hA6]
        exact hq.put c6 (if_pos rfl) (fun v hv => if_neg hv)
      have q3 : H2 (i + 1) oh (A1u A (32 + i) hi) M0 hi0 (Yr Y i len) (mset M (A 6) (.inl (3, hT Y, .inr (.inr (.inr (.inr (va_up (fun j => if j < i then some (A (32 + j)) else none) (nI i).toNatClampNeg (some hi)))))))) (hi + 1) := by
        refine ⟨by rw [eN]; exact n8, by rw [eT]; exact t4, ?_⟩
        have eo : hobj (A1u A (32 + i) hi) (Yr Y i len) = hobj A Y := by
          have hne : ∀ v, v < 15 → A1u A (32 + i) hi v = A v := fun v hv => if_neg (by omega)
          unfold hobj
          rw [Yr_60 hi4, hne 2 (by decide), hne 3 (by decide), hne 4 (by decide), hne 5 (by decide), hne 6 (by decide), hne 7 (by decide), hne 8 (by decide), hne 9 (by decide), hne 10 (by decide), hne 11 (by decide), hne 12 (by decide), hne 13 (by decide), hne 14 (by decide)]
        rw [eo]
        refine q2.weak (fun u e he => ?_)
        by_cases h6 : u = 6
        · subst h6
          rw [if_pos rfl, ← he]
          unfold C2
          rw [if_pos rfl, eT, show (nI i).toNatClampNeg = i from eix]
          have e5 : va_up (fun j => if j < i then some (A (32 + j)) else none) i (some hi) = fun j => if j < i + 1 then some (A1u A (32 + i) hi (32 + j)) else none := by
            funext j
            unfold va_up A1u
            by_cases hj : j = i
            · subst hj
              rw [if_pos rfl, if_pos (Nat.lt_succ_self j), if_pos rfl]
            · rw [if_neg hj, if_neg (show ¬ (32 + j = 32 + i) by omega)]
              show (if j < i then some (A (32 + j)) else none) = _
              by_cases hj2 : j < i
              · rw [if_pos hj2, if_pos (by omega)]
              · rw [if_neg hj2, if_neg (by omega)]
          rw [e5]
        · rw [if_neg h6]
          rcases C2_row n8 hi4 hiT u e he with hh | hh
          · exact absurd hh h6
          · exact hh
      clear q2 hq m6 m32 c6 c32 hn
      generalize mset M (A 6) (.inl (3, hT Y, .inr (.inr (.inr (.inr (va_up (fun j => if j < i then some (A (32 + j)) else none) (nI i).toNatClampNeg (some hi))))))) = M at *
      generalize A1u A (32 + i) hi = A at *
      change l_ini_272 W i (fun Y => bdv (f_X9_capacity W (nI i)) (fun v => bnd (w2 Y 7 i v) (fun Y => bnd (w2 Y 9 i 1) (fun Y => l_ini_249 W K N Y (i + 1))))) 7 (Yr Y i len) 0 = some r at h
      have hiT2 : i < hT (Yr Y i len) := by rw [eT]; exact hiT
      refine V_iconst (v := 0) dX10_init_270 (by decide) ?_
      refine V_istore_n (i := 3) dX10_init_271 rfl (Nat.le_of_ble_eq_true rfl) ?_
      refine V_spare (k2 := 2 * 7 + (20 * N + k + 2)) (n2 := 8 * (2 * 7 + (20 * N + k + 2))) (by omega) (by omega) ?_
      refine V_sub (ks := [1, 2, 3, 0]) rfl (lv_ini_272 (k := 20 * N + k + 2) (by omega) hf hb hcw ?_ 7 _ _ _ _ hiT2 q3 h)
      clear h q3 hiT2 eT eN g1 g2 hiT n8 t4 b1
      intro Y M hi hiT hq h
      obtain ⟨n8, t4, hq⟩ := hq
      have g2 : inr (nI i) (hT Y) = true := by
        unfold inr
        rw [show ix (nI i) = i from nI_clamp (by omega), decide_eq_false (nI_pos (by omega))]
        exact Nat.blt_eq.mpr hiT
      refine V_aload_n (i := 0) dX10_init_303 rfl rfl ?_
      refine V_getfield dX10_init_304 hq.o fl_X10_66 rfl ?_
      refine V_iload_n (i := 2) dX10_init_307 rfl rfl ?_
      refine V_aload_n (i := 1) dX10_init_308 rfl rfl ?_
      refine V_iload_n (i := 2) dX10_init_309 rfl rfl ?_
      refine V_spare (k2 := (20 * N + k + 1) + 1) (n2 := 8 * (20 * N + k + 1) + 6) (by omega) (by omega) ?_
      refine P_xI (As := [_]) h hq hb hcw dX10_init_310 cv_X10_93 rfl ⟨_, _, _, mem_x9 (Nat.le_refl _), rfl, rfl⟩ rfl (Nat.le_of_ble_eq_true rfl) (fun x hx => e_X9_capacity hf (Nat.le_refl _) hx) fun v hi hq h => ?_
      have w := C2_put (cnt := i + 1) (A := A) (upd (Y 7) i v) (show ¬ (32 ≤ 7 ∧ 7 < 36 ∧ ¬ (7 - 32 < i + 1)) by omega) (ht_7 (Y := Y))
      refine P_ist (C2 := C2 (i + 1) A (w2 Y 7 i v)) hq g2 w.1 (by rw [eix]; exact w.2.1) w.2.2.1 dX10_init_313 fun M hq => ?_
      rw [← w.2.2.2.1] at hq
      have g2 : inr (nI i) (hT (w2 Y 7 i v)) = true := by rw [show hT (w2 Y 7 i v) = hT Y from w.2.2.2.2.2.1]; exact g2
      replace n8 : hN (w2 Y 7 i v) ≤ 8 := by rw [show hN (w2 Y 7 i v) = hN Y from w.2.2.2.2.1]; exact n8
      replace t4 : hT (w2 Y 7 i v) ≤ 4 := by rw [show hT (w2 Y 7 i v) = hT Y from w.2.2.2.2.2.1]; exact t4
      replace hiT : i < hT (w2 Y 7 i v) := by rw [show hT (w2 Y 7 i v) = hT Y from w.2.2.2.2.2.1]; exact hiT
      replace hq : HX oh (hobj A (w2 Y 7 i v)) (C2 (i + 1) A (w2 Y 7 i v)) A M0 hi0 M hi := hq
      change (fun Y2 : Nat → Nat → Int32 => bnd (w2 Y2 9 i 1) (fun Y => l_ini_249 W K N Y (i + 1))) (w2 Y 7 i v) = some r at h
      generalize w2 Y 7 i v = Y at *
      clear w
      refine V_aload_n (i := 0) dX10_init_314 rfl rfl ?_
      refine V_getfield dX10_init_315 hq.o fl_X10_72 rfl ?_
      refine V_iload_n (i := 2) dX10_init_318 rfl rfl ?_
      refine V_iconst (v := 1) dX10_init_319 (by decide) ?_
      have w := C2_put (cnt := i + 1) (A := A) (upd (Y 9) i 1) (show ¬ (32 ≤ 9 ∧ 9 < 36 ∧ ¬ (9 - 32 < i + 1)) by omega) (ht_9 (Y := Y))
      refine P_ist (C2 := C2 (i + 1) A (w2 Y 9 i 1)) hq g2 w.1 (by rw [eix]; exact w.2.1) w.2.2.1 dX10_init_320 fun M hq => ?_
      rw [← w.2.2.2.1] at hq
      refine V_iinc (i := 2) (v := nI (i + 1)) dX10_init_321 rfl (nI_1 _) (Nat.le_of_ble_eq_true rfl) ?_
      refine V_goto (tgt := 249) dX10_init_324 rfl ?_
      refine V_spare (k2 := 20 * N + k) (n2 := 8 * (20 * N + k)) (by omega) (by omega) ?_
      exact V_sub (ks := [1, 2, 0]) rfl (ih _ _ _ _ _ (by rw [w.2.2.2.2.2.1]; exact hiT) ⟨w.2.2.2.2.1 ▸ n8, w.2.2.2.2.2.1 ▸ t4, hq⟩ h)
end Ini6
noncomputable def l_ini_329 (W : Nat → Nat → Int32) : Nat → (Nat → Nat → Int32) → Int32 → Option (Nat → Nat → Int32)
  | 0, _, _ => none
  | N + 1, Y, x2 => bdc (f_X9_parcelCount W) (fun c => if c ≤ x2 then some Y else bdv (f_X9_origin W x2) (fun v1 => bdv (f_X9_destination W x2) (fun v2 => bdv (f_X9_priority W x2) (fun v3 => gd (inr (Y 60 15) 12) (bnd (f_X10_add Y v1 v2 v3) (fun Y => l_ini_329 W N Y (x2 + 1)))))))
noncomputable def f_X10_init (W : Nat → Nat → Int32) : Option (Nat → Nat → Int32) :=
  bdc (f_X9_stationCount W) (fun sn => bdc (f_X9_trainCount W) (fun tn => gd (iok sn 8) (gd (iok tn 4) (l_ini_86 W (fun Y => gd (!(decide (Y 60 1 < 0))) (l_ini_249 W (fun Y => l_ini_329 W 14 Y 0) 5 (Z7 Y) 0)) 9 (Y1 sn tn) 0))))
section Ini7
variable {G : GT} {f : Nat} {oh b : Nat} {M0 : MM} {hi0 k : Nat} {W : Nat → Nat → Int32} {r : Nat → Nat → Int32}
theorem lv_ini_329 (hf : 9 ≤ f) (hb : b + 609 ≤ oh) (hcw : MEM b 609 W M0 = M0) : ∀ (N : Nat) (Y : Nat → Nat → Int32) (x2 : Int32) (A : Nat → Nat) (M : MM) (hi : Nat), HS oh A M0 hi0 Y M hi → l_ini_329 W N Y x2 = some r → V G f (Ex G f) mX10_init (PHA oh M0 hi0 (.inl none) r) 329 [(0, .ref oh), (1, .ref b), (2, .int x2)] [] M hi (5 * N + k) (8 * (5 * N + k)) := by
  intro N
  induction N with
  | zero => intro Y x2 A M hi hq h; cases h
  | succ N ih =>
    intro Y x2 A M hi hq h
    rw [l_ini_329] at h
    refine V_iload_n (i := 2) dX10_init_329 rfl rfl ?_
    refine V_aload_n (i := 1) dX10_init_330 rfl rfl ?_
    refine V_spare (k2 := (5 * N + k + 5) + 0) (n2 := 8 * (5 * N + k + 5) + 0) (by omega) (by omega) ?_
    refine H_xN (As := []) h hq hb hcw dX10_init_331 cv_X10_95 rfl ⟨_, _, _, mem_x9 (Nat.le_refl _), rfl, rfl⟩ rfl (Nat.le_of_ble_eq_true rfl) (fun x hx => e_X9_parcelCount (Nat.le_trans (Nat.le_of_ble_eq_true rfl) hf) (Nat.le_refl _) hx) fun c hi hq h => ?_
    refine D_icmp_ge (tgt := 362) h dX10_init_334 rfl (fun b1 h => ?_) (fun b1 h => ?_)
    · obtain rfl := Option.some.inj h
      exact V_return dX10_init_362 rfl ⟨rfl, _, hq⟩
    · refine V_aload_n (i := 0) dX10_init_337 rfl rfl ?_
      refine V_aload_n (i := 1) dX10_init_338 rfl rfl ?_
      refine V_iload_n (i := 2) dX10_init_339 rfl rfl ?_
      refine V_spare (k2 := (5 * N + k + 4) + 1) (n2 := 8 * (5 * N + k + 4) + 6) (by omega) (by omega) ?_
      refine H_xI (As := [_]) h hq hb hcw dX10_init_340 cv_X10_98 rfl ⟨_, _, _, mem_x9 (Nat.le_refl _), rfl, rfl⟩ rfl (Nat.le_of_ble_eq_true rfl) (fun x hx => e_X9_origin hf (Nat.le_refl _) hx) fun v1 hi hq h => ?_
      refine V_aload_n (i := 1) dX10_init_343 rfl rfl ?_
      refine V_iload_n (i := 2) dX10_init_344 rfl rfl ?_
      refine V_spare (k2 := (5 * N + k + 3) + 1) (n2 := 8 * (5 * N + k + 3) + 6) (by omega) (by omega) ?_
      refine H_xI (As := [_]) h hq hb hcw dX10_init_345 cv_X10_101 rfl ⟨_, _, _, mem_x9 (Nat.le_refl _), rfl, rfl⟩ rfl (Nat.le_of_ble_eq_true rfl) (fun x hx => e_X9_destination hf (Nat.le_refl _) hx) fun v2 hi hq h => ?_
      refine V_aload_n (i := 1) dX10_init_348 rfl rfl ?_
      refine V_iload_n (i := 2) dX10_init_349 rfl rfl ?_
      refine V_spare (k2 := (5 * N + k + 2) + 1) (n2 := 8 * (5 * N + k + 2) + 6) (by omega) (by omega) ?_
      refine H_xI (As := [_]) h hq hb hcw dX10_init_350 cv_X10_104 rfl ⟨_, _, _, mem_x9 (Nat.le_refl _), rfl, rfl⟩ rfl (Nat.le_of_ble_eq_true rfl) (fun x hx => e_X9_priority hf (Nat.le_refl _) hx) fun v3 hi hq h => ?_
      refine V_spare (k2 := (5 * N + k) + 2) (n2 := 8 * (5 * N + k) + 8 * 2) (by omega) (by omega) ?_
      refine H_cA h hq dX10_init_353 cv_X10_107 (Nat.le_of_ble_eq_true rfl) (Nat.le_trans (Nat.le_of_ble_eq_true rfl) hf) fun Y A M hi hq h => ?_
      refine V_iinc (i := 2) (v := x2 + 1) dX10_init_356 rfl rfl (Nat.le_of_ble_eq_true rfl) ?_
      refine V_goto (tgt := 329) dX10_init_359 rfl ?_
      exact V_sub (ks := [1, 2, 0]) rfl (ih _ _ _ _ _ hq h)
theorem e_X10_init {f0 : Nat} (hf0 : 10 ≤ f0) (hb : b + 609 ≤ oh) (hcw : MEM b 609 W M0 = M0) (ho : M0 oh = some (.inr (10, dflH))) (hlt : oh < hi0) (h : f_X10_init W = some r) : Ex G f0 mX10_init [.ref oh, .ref b] M0 hi0 1000 (8 * 1000) (PHA oh M0 hi0 (.inl none) r) := by
  obtain ⟨f, rfl, hf⟩ := suc_of hf0
  unfold f_X10_init at h
  refine ⟨Nat.le_of_ble_eq_true rfl, ?_⟩
  refine V_spare (k2 := 800 + 80) (n2 := 8 * (800 + 80)) (by decide) (by decide) ?_
  refine init_1 (K0 := 800) hf hb hcw ho hlt h (fun sn tn A M hi hq h => ?_)
  refine V_spare (k2 := 34 * 9 + 400) (n2 := 8 * (34 * 9 + 400)) (by decide) (by decide) ?_
  refine lv_ini_86 (k := 400) hf hb hcw ?_ 9 _ _ _ _ hq h
  intro Y M hi hq h
  refine D_gd h fun g1 h => ?_
  have t0 : ¬ Y 60 1 < 0 := fun q => by rw [decide_eq_true q] at g1; cases g1
  refine V_spare (k2 := 390 + 10) (n2 := 8 * (390 + 10)) (by decide) (by decide) ?_
  refine init_2 (K0 := 390) hq t0 (fun A M hi hq => ?_)
  refine V_spare (k2 := 20 * 5 + 200) (n2 := 8 * (20 * 5 + 200)) (by decide) (by decide) ?_
  refine lv_ini_249 (k := 200) hf hb hcw ?_ 5 _ 0 _ _ _ (Nat.zero_le _) hq h
  intro Y A M hi hq h
  refine V_iconst (v := 0) dX10_init_327 (by decide) ?_
  refine V_istore_n (i := 2) dX10_init_328 rfl (Nat.le_of_ble_eq_true rfl) ?_
  refine V_spare (k2 := 5 * 14 + 100) (n2 := 8 * (5 * 14 + 100)) (by decide) (by decide) ?_
  exact V_sub (ks := [1, 2, 0]) rfl (lv_ini_329 (k := 100) hf hb hcw 14 _ _ _ _ _ hq h)
end Ini7
