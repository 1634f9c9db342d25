/-! THE HAND's MEMORY: an object at h, its arrays at the addresses A u (units: 2 .. 14 by field; 16+a time's rows, 24+a open's, 32+t route's, 40+p parcel's); Y u k is the number at place k of unit u; unit 60: the object's own numbers, by field; 61: the routes' lengths -/
/-- an array of references: type, length, the first unit of what it holds -/
def HO (n t u : Nat) : Option (Nat × Nat × Nat) := if u = 2 then some (3, n, 16) else if u = 3 then some (9, n, 24) else if u = 6 then some (3, t, 32) else if u = 14 then some (3, 12, 40) else none
/-- an array of numbers: type, length -/
def HT (n t : Nat) (L : Nat → Nat) (u : Nat) : Option (Nat × Nat) :=
  if u = 4 then some (2, n) else if u = 5 then some (1, n) else if 7 ≤ u ∧ u ≤ 13 then some (1, t) else if 16 ≤ u ∧ u < 24 ∧ u - 16 < n then some (1, n) else
  if 24 ≤ u ∧ u < 32 ∧ u - 24 < n then some (2, n) else if 32 ≤ u ∧ u < 36 ∧ u - 32 < t then some (1, L (u - 32)) else if 40 ≤ u ∧ u < 52 then some (1, 9) else none
def hN (Y : Nat → Nat → Int32) : Nat := ix (Y 60 0)
def hT (Y : Nat → Nat → Int32) : Nat := ix (Y 60 1)
def hL (Y : Nat → Nat → Int32) (i : Nat) : Nat := ix (Y 61 i)
def HC (A : Nat → Nat) (Y : Nat → Nat → Int32) (u : Nat) : Option va_E := match HO (hN Y) (hT Y) u with
  | some (tg, len, base) => some (.inl (tg, len, .inr (.inr (.inr (.inr (refs len fun i => A (base + i)))))))
  | none => match HT (hN Y) (hT Y) (hL Y) u with
    | some (tg, len) => some (.inl (tg, len, .inl (ints len (Y u))))
    | none => none
def hobj (A : Nat → Nat) (Y : Nat → Nat → Int32) : List Value := [.int (Y 60 0), .int (Y 60 1), .ref (A 2), .ref (A 3), .ref (A 4), .ref (A 5), .ref (A 6), .ref (A 7), .ref (A 8), .ref (A 9), .ref (A 10), .ref (A 11), .ref (A 12), .ref (A 13), .ref (A 14), .int (Y 60 15), .int (Y 60 16)]
/-- cells C of units, apart, above h and below hi, and the object at h -/
def HG (h : Nat) (ob : List Value) (C : Nat → Option va_E) (A : Nat → Nat) (M : MM) (hi : Nat) : Prop :=
  h < hi ∧ M h = some (.inr (10, ob)) ∧ ∀ u e, C u = some e → M (A u) = some e ∧ h < A u ∧ A u < hi ∧ ∀ v e', C v = some e' → A u = A v → u = v
def HQ (h : Nat) (A : Nat → Nat) (Y : Nat → Nat → Int32) (M : MM) (hi : Nat) : Prop := hN Y ≤ 8 ∧ hT Y ≤ 4 ∧ HG h (hobj A Y) (HC A Y) A M hi
/-- .. and what was below h when the method began is there still -/
def HS (h : Nat) (A : Nat → Nat) (M0 : MM) (hi0 : Nat) (Y : Nat → Nat → Int32) (M : MM) (hi : Nat) : Prop := HQ h A Y M hi ∧ (∀ a, a < h → M a = M0 a) ∧ hi0 ≤ hi
/-- what a method of the Hand hands back -/
def PH (h : Nat) (A : Nat → Nat) (M0 : MM) (hi0 : Nat) (q0 : RS) (Y : Nat → Nat → Int32) : PS := fun q M2 hi2 => q = q0 ∧ HS h A M0 hi0 Y M2 hi2
theorem HO_out {n t u : Nat} {L : Nat → Nat} {q : Nat × Nat} (h : HT n t L u = some q) : HO n t u = none := by
  unfold HT at h
  unfold HO
  by_cases h2 : u = 2
  · subst h2; simp at h
  by_cases h3 : u = 3
  · subst h3; simp at h
  by_cases h6 : u = 6
  · subst h6; simp at h
  by_cases h14 : u = 14
  · subst h14; simp at h
  rw [if_neg h2, if_neg h3, if_neg h6, if_neg h14]
theorem HT_lt {n t u : Nat} {L : Nat → Nat} {q : Nat × Nat} (h : HT n t L u = some q) : u < 52 := by
  unfold HT at h
  repeat' split at h
  all_goals first | omega | cases h
theorem HC_row {A : Nat → Nat} {Y : Nat → Nat → Int32} {u tg len : Nat} (h : HT (hN Y) (hT Y) (hL Y) u = some (tg, len)) : HC A Y u = some (.inl (tg, len, .inl (ints len (Y u)))) := by
  unfold HC
  rw [HO_out h, h]
theorem HC_out {A : Nat → Nat} {Y : Nat → Nat → Int32} {u tg len base : Nat} (h : HO (hN Y) (hT Y) u = some (tg, len, base)) : HC A Y u = some (.inl (tg, len, .inr (.inr (.inr (.inr (refs len fun i => A (base + i))))))) := by
  unfold HC
  rw [h]
theorem hN_set {Y : Nat → Nat → Int32} {u : Nat} {S : Nat → Int32} (h : u ≠ 60) : hN (setU Y u S) = hN Y := by unfold hN; rw [setU_ne (Ne.symm h)]
theorem hT_set {Y : Nat → Nat → Int32} {u : Nat} {S : Nat → Int32} (h : u ≠ 60) : hT (setU Y u S) = hT Y := by unfold hT; rw [setU_ne (Ne.symm h)]
theorem hL_set {Y : Nat → Nat → Int32} {u : Nat} {S : Nat → Int32} (h : u ≠ 61) : hL (setU Y u S) = hL Y := by funext i; unfold hL; rw [setU_ne (Ne.symm h)]
theorem HC_ne {A : Nat → Nat} {Y : Nat → Nat → Int32} {u v : Nat} {S : Nat → Int32} (h : v ≠ u) (h0 : u ≠ 60) (h1 : u ≠ 61) : HC A (setU Y u S) v = HC A Y v := by
  unfold HC
  rw [hN_set h0, hT_set h0, hL_set h1, setU_ne h]
section HRows
variable {h : Nat} {A : Nat → Nat} {Y : Nat → Nat → Int32} {M M0 : MM} {hi hi0 : Nat}
theorem HS.o (q : HS h A M0 hi0 Y M hi) : M h = some (.inr (10, hobj A Y)) := q.1.2.2.2.1
theorem HS.n8 (q : HS h A M0 hi0 Y M hi) : hN Y ≤ 8 := q.1.1
theorem HS.t4 (q : HS h A M0 hi0 Y M hi) : hT Y ≤ 4 := q.1.2.1
theorem HS.t {u tg len : Nat} (q : HS h A M0 hi0 Y M hi) (ht : HT (hN Y) (hT Y) (hL Y) u = some (tg, len)) : M (A u) = some (.inl (tg, len, .inl (ints len (Y u)))) := (q.1.2.2.2.2 u _ (HC_row ht)).1
theorem HS.r {u tg len base : Nat} (q : HS h A M0 hi0 Y M hi) (ht : HO (hN Y) (hT Y) u = some (tg, len, base)) : M (A u) = some (.inl (tg, len, .inr (.inr (.inr (.inr (refs len fun i => A (base + i))))))) := (q.1.2.2.2.2 u _ (HC_out ht)).1
theorem HS.here (q : HQ h A Y M hi) : HS h A M hi Y M hi := ⟨q, fun _ _ => rfl, Nat.le_refl _⟩
theorem HS.go {M1 : MM} {hi1 : Nat} {Y2 : Nat → Nat → Int32} {M2 : MM} {hi2 : Nat} {A2 : Nat → Nat} (q : HS h A M0 hi0 Y M1 hi1) (q2 : HS h A2 M1 hi1 Y2 M2 hi2) : HS h A2 M0 hi0 Y2 M2 hi2 := ⟨q2.1, fun a ha => (q2.2.1 a ha).trans (q.2.1 a ha), Nat.le_trans q.2.2 q2.2.2⟩
theorem HG.up {ob : List Value} {C : Nat → Option va_E} {hi2 : Nat} (q : HG h ob C A M hi) (hle : hi ≤ hi2) : HG h ob C A M hi2 := ⟨Nat.lt_of_lt_of_le q.1 hle, q.2.1, fun u e he => ⟨(q.2.2 u e he).1, (q.2.2 u e he).2.1, Nat.lt_of_lt_of_le (q.2.2 u e he).2.2.1 hle, (q.2.2 u e he).2.2.2⟩⟩
theorem HS.up {hi2 : Nat} (q : HS h A M0 hi0 Y M hi) (hle : hi ≤ hi2) : HS h A M0 hi0 Y M hi2 := ⟨⟨q.1.1, q.1.2.1, q.1.2.2.up hle⟩, q.2.1, Nat.le_trans q.2.2 hle⟩
/-- a cell at hi or above: nobody's of the Hand -/
theorem HG.new {ob : List Value} {C : Nat → Option va_E} {a : Nat} {e : va_E} (q : HG h ob C A M hi) (ha : hi ≤ a) : HG h ob C A (mset M a e) hi := by
  refine ⟨q.1, ?_, fun u e1 he => ⟨?_, (q.2.2 u e1 he).2⟩⟩
  · unfold mset
    rw [if_neg (by have := q.1; omega)]
    exact q.2.1
  · unfold mset
    rw [if_neg (by have := (q.2.2 u e1 he).2.2.1; omega)]
    exact (q.2.2 u e1 he).1
theorem HS.new {a : Nat} {e : va_E} (q : HS h A M0 hi0 Y M hi) (ha : hi ≤ a) : HS h A M0 hi0 Y (mset M a e) hi := by
  refine ⟨⟨q.1.1, q.1.2.1, q.1.2.2.new ha⟩, fun x hx => ?_, q.2.2⟩
  unfold mset
  rw [if_neg (by have := q.1.2.2.1; omega)]
  exact q.2.1 x hx
theorem HG.put {ob : List Value} {C C' : Nat → Option va_E} {u : Nat} {e0 e : va_E} (q : HG h ob C A M hi) (hu : C u = some e0) (h1 : C' u = some e) (h2 : ∀ v, v ≠ u → C' v = C v) : HG h ob C' A (mset M (A u) e) hi := by
  have lv : ∀ v e1, C' v = some e1 → ∃ e2, C v = some e2 := fun v e1 he => by
    by_cases hv : v = u
    · subst hv; exact ⟨e0, hu⟩
    · exact ⟨e1, by rw [← h2 v hv]; exact he⟩
  refine ⟨q.1, ?_, fun v e1 he => ?_⟩
  · unfold mset
    rw [if_neg (by have := (q.2.2 u e0 hu).2.1; omega)]
    exact q.2.1
  · obtain ⟨e2, he2⟩ := lv v e1 he
    obtain ⟨w1, w2, w3, w4⟩ := q.2.2 v e2 he2
    refine ⟨?_, w2, w3, fun v9 e9 he9 hx => ?_⟩
    · unfold mset
      by_cases hv : v = u
      · subst hv
        rw [if_pos rfl]
        exact h1.symm.trans he
      · rw [if_neg (fun hx => hv (w4 u e0 hu hx)), w1]
        rw [h2 v hv] at he
        exact he2.symm.trans he
    · obtain ⟨e8, he8⟩ := lv v9 e9 he9
      exact w4 v9 e8 he8 hx
theorem HS.put {u tg len : Nat} (S : Nat → Int32) (q : HS h A M0 hi0 Y M hi) (ht : HT (hN Y) (hT Y) (hL Y) u = some (tg, len)) : HS h A M0 hi0 (setU Y u S) (mset M (A u) (.inl (tg, len, .inl (ints len S)))) hi := by
  have hlt := HT_lt ht
  have a0 : u ≠ 60 := by omega
  have a1 : u ≠ 61 := by omega
  have hob : hobj A (setU Y u S) = hobj A Y := by
    unfold hobj
    rw [setU_ne (Ne.symm a0)]
  refine ⟨⟨by rw [hN_set a0]; exact q.1.1, by rw [hT_set a0]; exact q.1.2.1, ?_⟩, fun x hx => ?_, q.2.2⟩
  · rw [hob]
    refine q.1.2.2.put (HC_row ht) ?_ (fun v hv => HC_ne hv a0 a1)
    have ht2 : HT (hN (setU Y u S)) (hT (setU Y u S)) (hL (setU Y u S)) u = some (tg, len) := by rw [hN_set a0, hT_set a0, hL_set a1]; exact ht
    rw [HC_row ht2, setU_eq]
  · unfold mset
    rw [if_neg (by have := (q.1.2.2.2.2 u _ (HC_row ht)).2.1; omega)]
    exact q.2.1 x hx
theorem HC_o {kk : Nat} {v : Int32} (hk : kk = 15 ∨ kk = 16) (u : Nat) : HC A (w2 Y 60 kk v) u = HC A Y u ∨ u = 60 := by
  by_cases hu : u = 60
  · exact Or.inr hu
  refine Or.inl ?_
  have e1 : hN (w2 Y 60 kk v) = hN Y := by unfold hN w2; rw [setU_eq]; unfold upd; rw [if_neg (by omega)]
  have e2 : hT (w2 Y 60 kk v) = hT Y := by unfold hT w2; rw [setU_eq]; unfold upd; rw [if_neg (by omega)]
  have e3 : hL (w2 Y 60 kk v) = hL Y := by funext i; unfold hL w2; rw [setU_ne (by decide)]
  unfold HC
  rw [e1, e2, e3]
  unfold w2
  rw [setU_ne hu]
theorem HC_60 {Y : Nat → Nat → Int32} : HC A Y 60 = none := by
  unfold HC HO HT
  simp
theorem HS.putO {kk : Nat} {v : Int32} (hk : kk = 15 ∨ kk = 16) (q : HS h A M0 hi0 Y M hi) : HS h A M0 hi0 (w2 Y 60 kk v) (mset M h (.inr (10, (hobj A Y).set kk (.int v)))) hi := by
  have hC : HC A (w2 Y 60 kk v) = HC A Y := by
    funext u
    rcases HC_o (A := A) (Y := Y) (v := v) hk u with e | rfl
    · exact e
    · rw [HC_60, HC_60]
  have e1 : hN (w2 Y 60 kk v) = hN Y := by unfold hN w2; rw [setU_eq]; unfold upd; rw [if_neg (by omega)]
  have e2 : hT (w2 Y 60 kk v) = hT Y := by unfold hT w2; rw [setU_eq]; unfold upd; rw [if_neg (by omega)]
  have hob : (hobj A Y).set kk (.int v) = hobj A (w2 Y 60 kk v) := by
    unfold hobj w2
    rw [setU_eq]
    rcases hk with rfl | rfl <;> rfl
  refine ⟨⟨by rw [e1]; exact q.1.1, by rw [e2]; exact q.1.2.1, ?_⟩, fun x hx => ?_, q.2.2⟩
  · rw [hob, hC]
    refine ⟨q.1.2.2.1, by unfold mset; rw [if_pos rfl], fun u e he => ?_⟩
    obtain ⟨w1, w2, w3, w4⟩ := q.1.2.2.2.2 u e he
    refine ⟨?_, w2, w3, w4⟩
    unfold mset
    rw [if_neg (by omega)]
    exact w1
  · unfold mset
    rw [if_neg (by omega)]
    exact q.2.1 x hx
-- what the units are
theorem ht_4 : HT (hN Y) (hT Y) (hL Y) 4 = some (2, hN Y) := rfl
theorem ht_5 : HT (hN Y) (hT Y) (hL Y) 5 = some (1, hN Y) := rfl
theorem ht_7 : HT (hN Y) (hT Y) (hL Y) 7 = some (1, hT Y) := rfl
theorem ht_8 : HT (hN Y) (hT Y) (hL Y) 8 = some (1, hT Y) := rfl
theorem ht_9 : HT (hN Y) (hT Y) (hL Y) 9 = some (1, hT Y) := rfl
theorem ht_10 : HT (hN Y) (hT Y) (hL Y) 10 = some (1, hT Y) := rfl
theorem ht_11 : HT (hN Y) (hT Y) (hL Y) 11 = some (1, hT Y) := rfl
theorem ht_12 : HT (hN Y) (hT Y) (hL Y) 12 = some (1, hT Y) := rfl
theorem ht_13 : HT (hN Y) (hT Y) (hL Y) 13 = some (1, hT Y) := rfl
theorem ht_16 {x : Int32} (q : HS h A M0 hi0 Y M hi) (g : inr x (hN Y) = true) : HT (hN Y) (hT Y) (hL Y) (16 + ix x) = some (1, hN Y) := by
  have h1 := inr_lt g
  have h2 := q.n8
  unfold HT
  rw [if_neg (by omega), if_neg (by omega), if_neg (by omega), if_pos ⟨by omega, by omega, by omega⟩]
theorem ht_24 {x : Int32} (q : HS h A M0 hi0 Y M hi) (g : inr x (hN Y) = true) : HT (hN Y) (hT Y) (hL Y) (24 + ix x) = some (2, hN Y) := by
  have h1 := inr_lt g
  have h2 := q.n8
  unfold HT
  rw [if_neg (by omega), if_neg (by omega), if_neg (by omega), if_neg (by omega), if_pos ⟨by omega, by omega, by omega⟩]
theorem ht_32 {x : Int32} (q : HS h A M0 hi0 Y M hi) (g : inr x (hT Y) = true) : HT (hN Y) (hT Y) (hL Y) (32 + ix x) = some (1, hL Y (ix x)) := by
  have h1 := inr_lt g
  have h2 := q.t4
  unfold HT
  rw [if_neg (by omega), if_neg (by omega), if_neg (by omega), if_neg (by omega), if_neg (by omega), if_pos ⟨by omega, by omega, by omega⟩, Nat.add_sub_cancel_left]
theorem ht_40 {x : Int32} (g : inr x 12 = true) : HT (hN Y) (hT Y) (hL Y) (40 + ix x) = some (1, 9) := by
  have h1 := inr_lt g
  unfold HT
  rw [if_neg (by omega), if_neg (by omega), if_neg (by omega), if_neg (by omega), if_neg (by omega), if_neg (by omega), if_pos ⟨by omega, by omega⟩]
theorem ho_2 : HO (hN Y) (hT Y) 2 = some (3, hN Y, 16) := rfl
theorem ho_3 : HO (hN Y) (hT Y) 3 = some (9, hN Y, 24) := rfl
theorem ho_6 : HO (hN Y) (hT Y) 6 = some (3, hT Y, 32) := rfl
theorem ho_14 : HO (hN Y) (hT Y) 14 = some (3, 12, 40) := rfl
end HRows
section HDec
variable {G : GT} {f : Nat} {call : CT} {md : MD} {P0 : PS} {pc : Nat} {lv : List (Nat × Value)} {hi k n : Nat} {rest : List Value} {R : Type} {r : R}
variable {h : Nat} {A : Nat → Nat} {Y : Nat → Nat → Int32} {M M0 : MM} {hi0 : Nat}
theorem H_ald {u tg len base : Nat} {x : Int32} {K : Option R} {ET : FieldType} (hh : gd (inr x len) K = some r) (q : HS h A M0 hi0 Y M hi) (ht : HO (hN Y) (hT Y) u = some (tg, len, base)) (hty : tyk tg = .array ET) (h10 : tg < 10) (hd : decode md.2.1 pc = .ok (.aaload, 1)) (kk : inr x len = true → K = some r → V G f call md P0 (pc + 1) lv (.ref (A (base + ix x)) :: rest) M hi k n) : V G f call md P0 pc lv (.int x :: .ref (A u) :: rest) M hi k n := by
  obtain ⟨g1, hh⟩ := gd_ok hh
  refine V_aaldA hd (q.r ht) hty h10 (inr_vp g1) ?_
  have e : refs len (fun i => A (base + i)) x.toNatClampNeg = some (A (base + ix x)) := if_pos (inr_lt g1)
  rw [e]
  exact kk g1 hh
theorem H_ist {u len : Nat} {x v : Int32} {K : (Nat → Nat → Int32) → Option R} (hh : gd (inr x len) (bnd (w2 Y u (ix x) v) K) = some r) (q : HS h A M0 hi0 Y M hi) (ht : HT (hN Y) (hT Y) (hL Y) u = some (1, len)) (hd : decode md.2.1 pc = .ok (.iastore, 1)) (kk : ∀ (Y : Nat → Nat → Int32) (M : MM), HS h A M0 hi0 Y M hi → K Y = some r → V G f call md P0 (pc + 1) lv rest M hi k n) : V G f call md P0 pc lv (.int v :: .int x :: .ref (A u) :: rest) M hi k n := by
  obtain ⟨g1, hh⟩ := gd_ok hh
  refine V_iastore hd (q.t ht) (inr_vp g1) ?_
  rw [show upd (ints len (Y u)) x.toNatClampNeg v = ints len (upd (Y u) (ix x) v) from ints_up (inr_lt g1)]
  exact kk _ _ (q.put _ ht) hh
theorem H_zst {u len : Nat} {x v : Int32} {K : (Nat → Nat → Int32) → Option R} (hh : gd (inr x len) (bnd (w2 Y u (ix x) (nz v)) K) = some r) (q : HS h A M0 hi0 Y M hi) (ht : HT (hN Y) (hT Y) (hL Y) u = some (2, len)) (hd : decode md.2.1 pc = .ok (.bastore, 1)) (kk : ∀ (Y : Nat → Nat → Int32) (M : MM), HS h A M0 hi0 Y M hi → K Y = some r → V G f call md P0 (pc + 1) lv rest M hi k n) : V G f call md P0 pc lv (.int v :: .int x :: .ref (A u) :: rest) M hi k n := by
  obtain ⟨g1, hh⟩ := gd_ok hh
  refine V_zastore hd (q.t ht) (inr_vp g1) ?_
  rw [show upd (ints len (Y u)) x.toNatClampNeg (vp_nar .boolean v) = ints len (upd (Y u) (ix x) (nz v)) from ints_up (inr_lt g1)]
  exact kk _ _ (q.put _ ht) hh
theorem H_put {kk0 idx : Nat} {v : Int32} {K : (Nat → Nat → Int32) → Option R} (hk : kk0 = 15 ∨ kk0 = 16) (hh : bnd (w2 Y 60 kk0 v) K = some r) (q : HS h A M0 hi0 Y M hi) (hd : decode md.2.1 pc = .ok (.putfield idx, 3)) (hF : FPT md idx 10 kk0 .int) (kk : ∀ (Y : Nat → Nat → Int32) (M : MM), HS h A M0 hi0 Y M hi → K Y = some r → V G f call md P0 (pc + 3) lv rest M hi k n) : V G f call md P0 pc lv (.int v :: .ref h :: rest) M hi k n :=
  V_putfield hd q.o hF rfl rfl (by rcases hk with rfl | rfl <;> exact Nat.le_of_ble_eq_true rfl) (kk _ _ (q.putO hk) hh)
end HDec
/-- .. and far's own row of numbers at bb -/
def HB (h : Nat) (A : Nat → Nat) (M0 : MM) (hi0 : Nat) (Y : Nat → Nat → Int32) (B : Nat → Int32) (bb : Nat) (M : MM) (hi : Nat) : Prop :=
  HS h A M0 hi0 Y M hi ∧ M bb = some (.inl (1, hN Y, .inl (ints (hN Y) B))) ∧ h < bb ∧ bb < hi ∧ ∀ u e, HC A Y u = some e → A u ≠ bb
def bdv {A R : Type} (x : Option (String ⊕ A)) (K : A → Option R) : Option R := match x with
  | some (.inr a) => K a
  | _ => none
section HCalls
variable {G : GT} {f : Nat} {call : CT} {md : MD} {P0 : PS} {pc : Nat} {lv : List (Nat × Value)} {hi k n : Nat} {rest : List Value} {R : Type} {r : R}
variable {h : Nat} {A : Nat → Nat} {Y : Nat → Nat → Int32} {M M0 : MM} {hi0 : Nat}
theorem HB.new {B : Nat → Int32} (q : HS h A M0 hi0 Y M hi) : HB h A M0 hi0 Y B hi (mset M hi (.inl (1, hN Y, .inl (ints (hN Y) B)))) (hi + 1) := by
  have q2 := (q.new (a := hi) (e := .inl (1, hN Y, .inl (ints (hN Y) B))) (Nat.le_refl _)).up (Nat.le_succ hi)
  refine ⟨q2, by unfold mset; rw [if_pos rfl], q.1.2.2.1, Nat.lt_succ_self _, fun u e he => ?_⟩
  have := (q.1.2.2.2.2 u e he).2.2.1
  omega
theorem HB.put {B B2 : Nat → Int32} {bb : Nat} (q : HB h A M0 hi0 Y B bb M hi) : HB h A M0 hi0 Y B2 bb (mset M bb (.inl (1, hN Y, .inl (ints (hN Y) B2)))) hi := by
  obtain ⟨q1, q2, q3, q4, q5⟩ := q
  refine ⟨⟨⟨q1.1.1, q1.1.2.1, q1.1.2.2.1, ?_, fun u e he => ?_⟩, fun a ha => ?_, q1.2.2⟩, by unfold mset; rw [if_pos rfl], q3, q4, q5⟩
  · unfold mset
    rw [if_neg (by omega)]
    exact q1.1.2.2.2.1
  · refine ⟨?_, (q1.1.2.2.2.2 u e he).2⟩
    unfold mset
    rw [if_neg (q5 u e he)]
    exact (q1.1.2.2.2.2 u e he).1
  · unfold mset
    rw [if_neg (by omega)]
    exact q1.2.1 a ha
theorem H_newB {K : (Nat → Int32) → Option R} {x : Int32} (hx : x = Y 60 0) (hh : gd (!(decide (x < 0))) (bnd (fun _ => (0 : Int32)) K) = some r) (q : HS h A M0 hi0 Y M hi) (hd : decode md.2.1 pc = .ok (.newarray .int, 2)) (hw : Cond.arrayClass .int ∈ TB)
    (kk : ∀ (B : Nat → Int32) (M2 : MM), HB h A M0 hi0 Y B hi M2 (hi + 1) → K B = some r → V G f call md P0 (pc + 2) lv (.ref hi :: rest) M2 (hi + 1) k (n)) : V G f call md P0 pc lv (.int x :: rest) M hi (k + 1) (n + 8) := by
  obtain ⟨g1, hh⟩ := gd_ok hh
  have g2 : ¬ x < 0 := fun q => by rw [decide_eq_true q] at g1; cases g1
  have e8 := q.n8
  have eN : x.toNatClampNeg = hN Y := by rw [hx]; rfl
  refine V_spare (k2 := k + 1) (n2 := n + hN Y) (Nat.le_refl _) (Nat.add_le_add_left e8 n) ?_
  refine V_newarray (aty := .int) (t := 1) (x := (hN Y, .inl (ints (hN Y) fun _ => 0))) hd hw rfl (by decide) (fun cA => ?_) g2 eN (by omega) (kk _ _ (HB.new q) hh)
  have e0 : ints (hN Y) (fun _ => (0 : Int32)) = fun _ => 0 := by
    funext j
    unfold ints
    exact ite_self _
  rw [e0]
  rfl
theorem H_bld {B : Nat → Int32} {bb : Nat} {x : Int32} {K : Option R} (hh : gd (inr x (hN Y)) K = some r) (q : HB h A M0 hi0 Y B bb M hi) (hd : decode md.2.1 pc = .ok (.iaload, 1)) (kk : K = some r → V G f call md P0 (pc + 1) lv (.int (B (ix x)) :: rest) M hi k n) : V G f call md P0 pc lv (.int x :: .ref bb :: rest) M hi k n := D3_ild hh q.2.1 hd kk
theorem H_bst {B : Nat → Int32} {bb : Nat} {x v : Int32} {K : (Nat → Int32) → Option R} (hh : gd (inr x (hN Y)) (bnd (upd B (ix x) v) K) = some r) (q : HB h A M0 hi0 Y B bb M hi) (hd : decode md.2.1 pc = .ok (.iastore, 1)) (kk : ∀ (B : Nat → Int32) (M : MM), HB h A M0 hi0 Y B bb M hi → K B = some r → V G f call md P0 (pc + 1) lv rest M hi k n) : V G f call md P0 pc lv (.int v :: .int x :: .ref bb :: rest) M hi k n := by
  obtain ⟨g1, hh⟩ := gd_ok hh
  refine V_iastore hd q.2.1 (inr_vp g1) ?_
  rw [show upd (ints (hN Y) B) x.toNatClampNeg v = ints (hN Y) (upd B (ix x) v) from ints_up (inr_lt g1)]
  exact kk _ _ q.put hh
theorem H_cI {a k2 n2 : Nat} {st As : List Value} {idx nn : Nat} {md2 : MD} {o : Option Int32} {K : Int32 → Option R} (hh : bdc o K = some r) (q : HS h A M0 hi0 Y M hi) (hd : decode md.2.1 pc = .ok (.invokevirtual idx, 3)) (hc : CVr md.1.cls idx md2 nn) (hl : As.length = nn) (hr : RECV M a md2.1.cls) (hst : st = As.reverse ++ .ref a :: rest) (hcs : csum rest ≤ 8)
    (hx : ∀ x, o = some x → call md2 (.ref a :: As) M hi k2 n2 (PH h A M hi (.inl (some (.int x))) Y)) (kk : ∀ (x : Int32) (M : MM) (hi : Nat), HS h A M0 hi0 Y M hi → K x = some r → V G f call md P0 (pc + 3) lv (.int x :: rest) M hi k n) : V G f call md P0 pc lv st M hi (k + k2) (n + n2) := by
  cases o with
  | none => cases hh
  | some x => exact V_callV hd hc hl hr hst hcs (hx x rfl) (fun v M2 hi2 hp => by obtain ⟨h1, q2⟩ := hp; cases h1; exact kk x _ _ (q.go q2) hh) (fun E M2 hi2 hp => by obtain ⟨h1, -⟩ := hp; cases h1)
theorem H_cU {a k2 n2 : Nat} {st As : List Value} {idx nn : Nat} {md2 : MD} {o : Option (Nat → Nat → Int32)} {K : (Nat → Nat → Int32) → Option R} (hh : bdc o K = some r) (q : HS h A M0 hi0 Y M hi) (hd : decode md.2.1 pc = .ok (.invokevirtual idx, 3)) (hc : CVr md.1.cls idx md2 nn) (hl : As.length = nn) (hr : RECV M a md2.1.cls) (hst : st = As.reverse ++ .ref a :: rest) (hcs : csum rest ≤ 8)
    (hx : ∀ x, o = some x → call md2 (.ref a :: As) M hi k2 n2 (PH h A M hi (.inl none) x)) (kk : ∀ (Y : Nat → Nat → Int32) (M : MM) (hi : Nat), HS h A M0 hi0 Y M hi → K Y = some r → V G f call md P0 (pc + 3) lv rest M hi k n) : V G f call md P0 pc lv st M hi (k + k2) (n + n2) := by
  cases o with
  | none => cases hh
  | some x => exact V_callV hd hc hl hr hst hcs (hx x rfl) (fun v M2 hi2 hp => by obtain ⟨h1, q2⟩ := hp; cases h1; exact kk x _ _ (q.go q2) hh) (fun E M2 hi2 hp => by obtain ⟨h1, -⟩ := hp; cases h1)
theorem H_recv (q : HS h A M0 hi0 Y M hi) : RECV M h RX10 := ⟨_, _, _, q.o, rfl, rfl⟩
/-- the class's own cells lie below the Hand and stay -/
theorem cw_of {b : Nat} {W : Nat → Nat → Int32} (hb : b + 609 ≤ h) (hcw : MEM b 609 W M0 = M0) (q : ∀ a, a < h → M a = M0 a) : MEM b 609 W M = M := by
  funext a
  have e := congrFun hcw a
  unfold MEM at e ⊢
  by_cases h1 : b ≤ a ∧ a < b + 609
  · rw [if_pos h1] at e ⊢
    rw [e, q a (by omega)]
  · rw [if_neg h1]
theorem H_xI {b a k2 n2 : Nat} {W : Nat → Nat → Int32} {st As : List Value} {idx nn : Nat} {md2 : MD} {o : Option (String ⊕ Int32)} {K : Int32 → Option R} (hh : bdv o K = some r) (q : HS h A M0 hi0 Y M hi) (hb : b + 609 ≤ h) (hcw : MEM b 609 W M0 = M0) (hd : decode md.2.1 pc = .ok (.invokevirtual idx, 3)) (hc : CVr md.1.cls idx md2 nn) (hl : As.length = nn) (hr : RECV (MEM b 609 W M) a md2.1.cls) (hst : st = As.reverse ++ .ref a :: rest) (hcs : csum rest ≤ 8)
    (hx : ∀ x, o = some x → call md2 (.ref a :: As) (MEM b 609 W M) hi k2 n2 (RP (rhoI x) (MEM b 609 W M))) (kk : ∀ (x : Int32) (hi : Nat), HS h A M0 hi0 Y M hi → K x = some r → V G f call md P0 (pc + 3) lv (.int x :: rest) M hi k n) : V G f call md P0 pc lv st M hi (k + k2) (n + n2) := by
  have e := cw_of hb hcw q.2.1
  cases o with
  | none => cases hh
  | some x =>
    cases x with
    | inl E => cases hh
    | inr x =>
      have hx2 := hx _ rfl
      rw [e] at hx2 hr
      exact V_callVm hd hc hl hr hst hcs hx2 (fun v M2 hi2 hle hp => by obtain ⟨h1, rfl⟩ := hp; cases h1; exact kk x _ (q.up hle) hh) (fun E M2 hi2 hle hp => by obtain ⟨h1, -⟩ := hp; cases h1)
theorem H_xN {b a k2 n2 : Nat} {W : Nat → Nat → Int32} {st As : List Value} {idx nn : Nat} {md2 : MD} {o : Option Int32} {K : Int32 → Option R} (hh : bdc o K = some r) (q : HS h A M0 hi0 Y M hi) (hb : b + 609 ≤ h) (hcw : MEM b 609 W M0 = M0) (hd : decode md.2.1 pc = .ok (.invokevirtual idx, 3)) (hc : CVr md.1.cls idx md2 nn) (hl : As.length = nn) (hr : RECV (MEM b 609 W M) a md2.1.cls) (hst : st = As.reverse ++ .ref a :: rest) (hcs : csum rest ≤ 8)
    (hx : ∀ x, o = some x → call md2 (.ref a :: As) (MEM b 609 W M) hi k2 n2 (RH (.inl (some (.int x))) (MEM b 609 W M) hi)) (kk : ∀ (x : Int32) (hi : Nat), HS h A M0 hi0 Y M hi → K x = some r → V G f call md P0 (pc + 3) lv (.int x :: rest) M hi k n) : V G f call md P0 pc lv st M hi (k + k2) (n + n2) := by
  have e := cw_of hb hcw q.2.1
  cases o with
  | none => cases hh
  | some x =>
    have hx2 := hx _ rfl
    rw [e] at hx2 hr
    exact V_callV hd hc hl hr hst hcs hx2 (fun v M2 hi2 hp => by obtain ⟨h1, rfl, rfl⟩ := hp; cases h1; exact kk x _ q hh) (fun E M2 hi2 hp => by obtain ⟨h1, -⟩ := hp; cases h1)
end HCalls
