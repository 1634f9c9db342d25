theorem fl_of {w : Cond} (i : Nat) (h : FLT[i]? = some w) : w ∈ FLT := List.mem_of_getElem? h
section Start
variable {b : Nat} {s : State}
theorem ev_len {A : Array Value} {t u : Term} (h : t.eval A s none [] s = u.eval A s none [] s) : (Term.length t).eval A s none [] s = (Term.length u).eval A s none [] s := by
  simp only [Term.eval]
  rw [h]
theorem ev_elem {A : Array Value} {t u : Term} {k : Int32} (h : t.eval A s none [] s = u.eval A s none [] s) : (Term.elem t (.int k)).eval A s none [] s = (Term.elem u (.int k)).eval A s none [] s := by
  simp only [Term.eval]
  rw [h]
theorem ev_eqR {A : Array Value} {t u : Term} {a : Nat} (h : (Cond.eq t u).before A s = true) (hu : u.eval A s none [] s = some (.ref a)) : t.eval A s none [] s = some (.ref a) := by
  cases ht : t.eval A s none [] s with
  | none => simp [Cond.before, Cond.holds, Cond.value, ht] at h
  | some v =>
    simp only [Cond.before, Cond.holds, Cond.value, ht, hu] at h
    cases v with
    | ref x => simp at h; rw [h]
    | _ => simp at h
theorem ev_eqL {A : Array Value} {t u : Term} {a : Nat} (h : (Cond.eq t u).before A s = true) (ht : t.eval A s none [] s = some (.ref a)) : u.eval A s none [] s = some (.ref a) := by
  cases hu : u.eval A s none [] s with
  | none => simp [Cond.before, Cond.holds, Cond.value, hu] at h
  | some v =>
    simp only [Cond.before, Cond.holds, Cond.value, ht, hu] at h
    cases v with
    | ref x => simp at h; rw [h]
    | _ => simp at h
theorem getD_at {l : List Int32} {k : Nat} (h : k < l.length) : l.getD k 0 = l[k] := by
  rw [List.getD_eq_getElem?_getD, List.getElem?_eq_getElem h]
  rfl
theorem ofNat_inj {a b : Nat} (ha : a ≤ 5000) (hb : b ≤ 5000) (h : Int32.ofNat a = Int32.ofNat b) : a = b := by
  have h2 := congrArg Int32.toInt h
  rw [Int32.toInt_ofNat_of_lt (by omega), Int32.toInt_ofNat_of_lt (by omega)] at h2
  omega
theorem st_strings (hgv : (Jvm.Cond.and given_1 narrow_1).before #[Value.ref b] s = true) : ∃ adK adV : Nat → Nat, vk_S nSTR lensS bytsS adK adV (gA s.heap.size) s s.heap ∧ ∀ i, i < nSTR → (tmS i).eval #[Value.ref b] s none [] s = some (.ref (adK i)) := by
  have hs : ∀ c ∈ FLT, c.before #[Value.ref b] s = true := fun c hc => flat_of_before _ hgv c hc
  have hA : ∀ a : Nat, a < s.heap.size → ¬ gA s.heap.size a := fun a h q => Nat.lt_irrefl _ (Nat.lt_of_lt_of_le h q)
  have wx : ∀ i, i < nSTR → (Cond.exactly (tmS i) "java/lang/String").before #[Value.ref b] s = true := fun i hi => hs _ (wlS_in hi (by unfold wlS; exact List.mem_append_left _ List.mem_cons_self))
  have wc : ∀ i, i < nSTR → (Cond.eq (.field (tmS i) "java/lang/String" "coder" "B") (.int 0)).before #[Value.ref b] s = true := fun i hi => hs _ (wlS_in hi (by unfold wlS; exact List.mem_append_left _ (List.mem_cons_of_mem _ List.mem_cons_self)))
  have wa : ∀ i, i < nSTR → (Cond.arrayOf (.field (tmS i) "java/lang/String" "value" "[B") .byte).before #[Value.ref b] s = true := fun i hi => hs _ (wlS_in hi (by unfold wlS; exact List.mem_append_left _ (List.mem_cons_of_mem _ (List.mem_cons_of_mem _ List.mem_cons_self))))
  have wl : ∀ i, i < nSTR → (Cond.eq (.length (.field (tmS i) "java/lang/String" "value" "[B")) (.int (Int32.ofNat (lensS.getD i 0)))).before #[Value.ref b] s = true := fun i hi => hs _ (wlS_in hi (by unfold wlS; exact List.mem_append_left _ (List.mem_cons_of_mem _ (List.mem_cons_of_mem _ (List.mem_cons_of_mem _ List.mem_cons_self)))))
  have we : ∀ i, i < nSTR → ∀ j, j < lensS.getD i 0 → (Cond.eq (.elem (.field (tmS i) "java/lang/String" "value" "[B") (.int (Int32.ofNat j))) (.int ((bytsS.getD i []).getD j 0))).before #[Value.ref b] s = true := fun i hi j hj => hs _ (wlS_in hi (by unfold wlS; exact List.mem_append_right _ (List.mem_map.mpr ⟨j, List.mem_range.mpr hj, rfl⟩)))
  have h0 : ∀ i : Nat, ∃ q : Nat × Nat, i < nSTR → (tmS i).eval #[Value.ref b] s none [] s = some (.ref q.1) ∧ va_O "java/lang/String" q.1 (gA s.heap.size) s s.heap ∧ va_OF "java/lang/String" "coder" "B" (.int 0) q.1 (gA s.heap.size) s s.heap ∧ va_OF "java/lang/String" "value" "[B" (.ref q.2) q.1 (gA s.heap.size) s s.heap ∧ va_T .byte q.2 (lensS.getD i 0) (fun j => .int ((bytsS.getD i []).getD j 0)) (gA s.heap.size) s s.heap := by
    intro i
    by_cases hi : i < nSTR
    · obtain ⟨a, c, cA, kA, q1, q2, q3, q4, q5, q6, -⟩ := Cond.exactly_spec (args := #[Value.ref b]) (first := s) (o := none) (s := s) (idx := []) (t := tmS i) (cls := "java/lang/String") (wx i hi)
      obtain ⟨t, ht, hT⟩ := va_Tof (f := fun j => .int ((bytsS.getD i []).getD j 0)) (A := gA s.heap.size) (Nat.lt_of_le_of_lt (lenS_le i) (by decide)) (wa i hi) (va_eqt (wl i hi)) (fun j hj => va_eqt (we i hi j hj)) hA
      exact ⟨(a, t), fun _ => ⟨q1, ⟨cA, q3, q5, by rw [q6]; exact q2, hA a (Array.getElem?_eq_some_iff.mp q3).1⟩, vk_OFof q1 (va_eqt (wc i hi)) hA, vk_OFof q1 ht hA, hT⟩⟩
    · exact ⟨(0, 0), fun h => absurd h hi⟩
  obtain ⟨ad, had⟩ := Classical.axiomOfChoice h0
  refine ⟨fun i => (ad i).1, fun i => (ad i).2, ⟨fun i hi => (had i hi).2, fun i j hi hj e => ?_⟩, fun i hi => (had i hi).1⟩
  have hf : (Term.field (tmS i) "java/lang/String" "value" "[B").eval #[Value.ref b] s none [] s = (Term.field (tmS j) "java/lang/String" "value" "[B").eval #[Value.ref b] s none [] s := by
    rw [va_fe (had i hi).1, va_fe (had j hj).1]
    show s.fieldOf? (ad i).1 _ _ _ = s.fieldOf? (ad j).1 _ _ _
    rw [show (ad i).1 = (ad j).1 from e]
  have hle : lensS.getD i 0 = lensS.getD j 0 := by
    have h1 := (va_eqt (wl i hi)).symm.trans ((ev_len hf).trans (va_eqt (wl j hj)))
    exact ofNat_inj (lenS_le i) (lenS_le j) (Value.int.inj (Option.some.inj h1))
  refine bytS_ne i hi j hj (List.ext_getElem (by rw [lenS_byt i hi, lenS_byt j hj, hle]) fun k h1 h2 => ?_)
  have hk1 : k < lensS.getD i 0 := by rw [← lenS_byt i hi]; exact h1
  have hk2 : k < lensS.getD j 0 := by rw [← hle]; exact hk1
  have h3 := (va_eqt (we i hi k hk1)).symm.trans ((ev_elem hf).trans (va_eqt (we j hj k hk2)))
  have h4 := Value.int.inj (Option.some.inj h3)
  exact (getD_at h1).symm.trans (h4.trans (getD_at h2))
theorem st_K (hts : ∀ w ∈ lw_tbl, w.before #[Value.ref b] s = true) : ∃ (D : va_G) (cyt : Nat → ClassId), va_K D vwCl (TYL cyt) s := by
  have htb : ∀ w ∈ TB, w.before #[Value.ref b] s = true := fun w hw => hts w (tl_TB hw)
  have h0 : ∀ k : Nat, ∃ q : ClassId × (Nat → Nat), ∀ r : vw_C, vwCl[k]? = some r → u_Kn s r.1 r.2.1 r.2.2 q.1 q.2 := by
    intro k
    match k with
    | 0 => obtain ⟨c0, i0, h⟩ := u_known (C := RX0) (T := TX0) (N := 3) (n := 3) htb vin_X0 (htb _ tw_328); exact ⟨(c0, i0), fun r hr => by cases (show some (RX0, TX0, 3) = some r from hr); exact h⟩
    | 1 => obtain ⟨c0, i0, h⟩ := u_known (C := RX1) (T := TX1) (N := 2) (n := 2) htb vin_X1 (htb _ tw_348); exact ⟨(c0, i0), fun r hr => by cases (show some (RX1, TX1, 2) = some r from hr); exact h⟩
    | 2 => obtain ⟨c0, i0, h⟩ := u_known (C := RX2) (T := TX2) (N := 10) (n := 10) htb vin_X2 (htb _ tw_149); exact ⟨(c0, i0), fun r hr => by cases (show some (RX2, TX2, 10) = some r from hr); exact h⟩
    | 3 => obtain ⟨c0, i0, h⟩ := u_known (C := RX3) (T := TX3) (N := 11) (n := 11) htb vin_X3 (htb _ tw_255); exact ⟨(c0, i0), fun r hr => by cases (show some (RX3, TX3, 11) = some r from hr); exact h⟩
    | 4 => obtain ⟨c0, i0, h⟩ := u_known (C := RX4) (T := TX4) (N := 12) (n := 12) htb vin_X4 (htb _ tw_33); exact ⟨(c0, i0), fun r hr => by cases (show some (RX4, TX4, 12) = some r from hr); exact h⟩
    | 5 => obtain ⟨c0, i0, h⟩ := u_known (C := RX5) (T := TX5) (N := 4) (n := 4) htb vin_X5 (htb _ tw_46); exact ⟨(c0, i0), fun r hr => by cases (show some (RX5, TX5, 4) = some r from hr); exact h⟩
    | 6 => obtain ⟨c0, i0, h⟩ := u_known (C := RX6) (T := TX6) (N := 5) (n := 5) htb vin_X6 (htb _ tw_261); exact ⟨(c0, i0), fun r hr => by cases (show some (RX6, TX6, 5) = some r from hr); exact h⟩
    | 7 => obtain ⟨c0, i0, h⟩ := u_known (C := RX7) (T := TX7) (N := 4) (n := 4) htb vin_X7 (htb _ tw_72); exact ⟨(c0, i0), fun r hr => by cases (show some (RX7, TX7, 4) = some r from hr); exact h⟩
    | 8 => obtain ⟨c0, i0, h⟩ := u_known (C := RX8) (T := TX8) (N := 10) (n := 10) htb vin_X8 (htb _ tw_96); exact ⟨(c0, i0), fun r hr => by cases (show some (RX8, TX8, 10) = some r from hr); exact h⟩
    | 9 => obtain ⟨c0, i0, h⟩ := u_known (C := RX9) (T := TX9) (N := 7) (n := 7) htb vin_X9 (htb _ tw_25); exact ⟨(c0, i0), fun r hr => by cases (show some (RX9, TX9, 7) = some r from hr); exact h⟩
    | 10 => obtain ⟨c0, i0, h⟩ := u_known (C := RX10) (T := TX10) (N := 21) (n := 21) htb vin_X10 (htb _ tw_1344); exact ⟨(c0, i0), fun r hr => by cases (show some (RX10, TX10, 21) = some r from hr); exact h⟩
    | n + 11 => exact ⟨(0, fun _ => 0), fun r hr => by simp [vwCl] at hr⟩
  have h1 : ∀ t : Nat, ∃ c : ClassId, t < 9 → ArrOfT s c (tyk t) ∧ va_RA s c (tyk t) := by
    have pr : ∀ ty : FieldType, (Cond.arrayClass ty).before #[Value.ref b] s = true → ∃ c, ArrOfT s c ty ∧ s.vm.findClass ("[" ++ ty.toString) = some c := fun ty h => by
      obtain ⟨c, k, comp, h1, h2, h3⟩ := Cond.arrayClass_spec (args := #[Value.ref b]) (first := s) (o := none) (idx := []) h
      exact ⟨c, fun N z => ⟨(fun k h => by cases h), k, h2, comp, h3⟩, h1⟩
    have ob : ∀ C : String, (Cond.arrayOver (.object C)).before #[Value.ref b] s = true → ∃ c, ArrOfT s c (.object C) ∧ va_RA s c (.object C) := fun C h => by
      obtain ⟨comp, c, k, h1, h2, h3, h4, h5⟩ := Cond.arrayOver_spec (args := #[Value.ref b]) (first := s) (o := none) (idx := []) h
      exact ⟨c, fun N z => ⟨(fun k h => by cases h), k, h3, comp, h4⟩, k, comp, h3, h4, h1, h5⟩
    intro t
    match t with
    | 0 => obtain ⟨c, h1, h2⟩ := pr .byte (htb _ tw_286); exact ⟨c, fun _ => ⟨h1, h2⟩⟩
    | 1 => obtain ⟨c, h1, h2⟩ := pr .int (htb _ tw_71); exact ⟨c, fun _ => ⟨h1, h2⟩⟩
    | 2 => obtain ⟨c, h1, h2⟩ := pr .boolean (htb _ tw_682); exact ⟨c, fun _ => ⟨h1, h2⟩⟩
    | 3 => obtain ⟨c, h1, h2⟩ := pr .long (htb _ tw_1946); exact ⟨c, fun _ => ⟨h1, h2⟩⟩
    | 4 => obtain ⟨c, h1, h2⟩ := ob RX2 (hts _ (tl_of 45 (by decide +kernel))); exact ⟨c, fun _ => ⟨h1, h2⟩⟩
    | 5 => obtain ⟨c, h1, h2⟩ := ob RX4 (hts _ (tl_of 334 (by decide +kernel))); exact ⟨c, fun _ => ⟨h1, h2⟩⟩
    | 6 => obtain ⟨c, h1, h2⟩ := ob RX5 (hts _ (tl_of 39 (by decide +kernel))); exact ⟨c, fun _ => ⟨h1, h2⟩⟩
    | 7 => obtain ⟨c, h1, h2⟩ := ob RX7 (hts _ (tl_of 41 (by decide +kernel))); exact ⟨c, fun _ => ⟨h1, h2⟩⟩
    | 8 => obtain ⟨c, h1, h2⟩ := ob RX8 (hts _ (tl_of 43 (by decide +kernel))); exact ⟨c, fun _ => ⟨h1, h2⟩⟩
    | n + 9 => exact ⟨0, fun h => absurd h (by omega)⟩
  obtain ⟨q, hq⟩ := Classical.axiomOfChoice h0
  obtain ⟨cyt, hc⟩ := Classical.axiomOfChoice h1
  refine ⟨(fun k => (q k).1, fun k => (q k).2), cyt, fun c r hr => hq c r hr, fun k z hz => ?_⟩
  match k, hz with
  | 0, hz => cases (show some (cyt 0, tyk 0) = some z from hz); exact hc 0 (by decide)
  | 1, hz => cases (show some (cyt 1, tyk 1) = some z from hz); exact hc 1 (by decide)
  | 2, hz => cases (show some (cyt 2, tyk 2) = some z from hz); exact hc 2 (by decide)
  | 3, hz => cases (show some (cyt 3, tyk 3) = some z from hz); exact hc 3 (by decide)
  | 4, hz => cases (show some (cyt 4, tyk 4) = some z from hz); exact hc 4 (by decide)
  | 5, hz => cases (show some (cyt 5, tyk 5) = some z from hz); exact hc 5 (by decide)
  | 6, hz => cases (show some (cyt 6, tyk 6) = some z from hz); exact hc 6 (by decide)
  | 7, hz => cases (show some (cyt 7, tyk 7) = some z from hz); exact hc 7 (by decide)
  | 8, hz => cases (show some (cyt 8, tyk 8) = some z from hz); exact hc 8 (by decide)
  | n + 9, hz => simp [TYL] at hz
theorem NC_eq : NC = [("java/lang/IllegalStateException", "java/lang/IllegalArgumentException"), ("java/lang/IllegalStateException", "java/lang/IndexOutOfBoundsException"), ("java/lang/IllegalStateException", "java/util/NoSuchElementException"), ("java/lang/IllegalArgumentException", "java/lang/IllegalStateException"), ("java/lang/IllegalArgumentException", "java/lang/IndexOutOfBoundsException"), ("java/lang/IllegalArgumentException", "java/util/NoSuchElementException"), ("java/lang/IndexOutOfBoundsException", "java/lang/IllegalStateException"), ("java/lang/IndexOutOfBoundsException", "java/lang/IllegalArgumentException"), ("java/lang/IndexOutOfBoundsException", "java/util/NoSuchElementException"), ("java/util/NoSuchElementException", "java/lang/IllegalStateException"), ("java/util/NoSuchElementException", "java/lang/IllegalArgumentException"), ("java/util/NoSuchElementException", "java/lang/IndexOutOfBoundsException")] := by decide +kernel
theorem st_KH {L : Nat} {xs : Nat → Int32} {adK adV : Nat → Nat} (hts : ∀ w ∈ lw_tbl, w.before #[Value.ref b] s = true) (hX : va_X b L xs s s.heap) (hbl : b < s.heap.size) (hgv : (Jvm.Cond.and given_1 narrow_1).before #[Value.ref b] s = true) (hS : vk_S nSTR lensS bytsS adK adV (gA s.heap.size) s s.heap) (hev : ∀ i, i < nSTR → (tmS i).eval #[Value.ref b] s none [] s = some (.ref (adK i))) : KH (b, L, xs, adK, adV) s.heap.size s s.heap := by
  have hs : ∀ c ∈ FLT, c.before #[Value.ref b] s = true := fun c hc => flat_of_before _ hgv c hc
  have hA : ∀ a : Nat, a < s.heap.size → ¬ gA s.heap.size a := fun a h q => Nat.lt_irrefl _ (Nat.lt_of_lt_of_le h q)
  refine ⟨⟨hX, hbl, hA b hbl⟩, vx_Zqof (hts _ (tl_of 837 (by decide +kernel))) (hts _ (tl_of 17 (by decide +kernel))) (hs _ (fl_of 9 (by decide +kernel))) hA, vx_Zqof (hts _ (tl_of 839 (by decide +kernel))) (hts _ (tl_of 17 (by decide +kernel))) (hs _ (fl_of 10 (by decide +kernel))) hA, ?_, ?_, ?_, ?_, ?_, ?_, hS, va_Zof (hts _ (tl_of 376 (by decide +kernel))) (hts _ (tl_of 11 (by decide +kernel))) (va_eqt (hs _ (fl_of 4 (by decide +kernel)))) hA, va_Zqof (hts _ (tl_of 392 (by decide +kernel))) (hts _ (tl_of 13 (by decide +kernel))) (hs _ (fl_of 5 (by decide +kernel))) hA⟩
  · intro q hq
    simp only [STR, List.mem_cons, List.not_mem_nil, or_false] at hq
    rcases hq with rfl | rfl | rfl | rfl | rfl | rfl | rfl | rfl | rfl | rfl | rfl | rfl | rfl | rfl | rfl | rfl | rfl | rfl | rfl | rfl | rfl | rfl | rfl | rfl | rfl | rfl | rfl | rfl | rfl | rfl | rfl | rfl | rfl | rfl
    · exact vk_R.of (hts _ (tl_of 362 (by decide +kernel))) (hev 0 (by decide))
    · exact vk_R.of (hts _ (tl_of 470 (by decide +kernel))) (hev 1 (by decide))
    · exact vk_R.of (hts _ (tl_of 475 (by decide +kernel))) (hev 2 (by decide))
    · exact vk_R.of (hts _ (tl_of 476 (by decide +kernel))) (hev 3 (by decide))
    · exact vk_R.of (hts _ (tl_of 477 (by decide +kernel))) (hev 4 (by decide))
    · exact vk_R.of (hts _ (tl_of 478 (by decide +kernel))) (hev 5 (by decide))
    · exact vk_R.of (hts _ (tl_of 479 (by decide +kernel))) (hev 6 (by decide))
    · exact vk_R.of (hts _ (tl_of 480 (by decide +kernel))) (hev 7 (by decide))
    · exact vk_R.of (hts _ (tl_of 481 (by decide +kernel))) (hev 8 (by decide))
    · exact vk_R.of (hts _ (tl_of 852 (by decide +kernel))) (hev 9 (by decide))
    · exact vk_R.of (hts _ (tl_of 899 (by decide +kernel))) (hev 10 (by decide))
    · exact vk_R.of (hts _ (tl_of 913 (by decide +kernel))) (hev 11 (by decide))
    · exact vk_R.of (hts _ (tl_of 940 (by decide +kernel))) (hev 12 (by decide))
    · exact vk_R.of (hts _ (tl_of 986 (by decide +kernel))) (hev 13 (by decide))
    · exact vk_R.of (hts _ (tl_of 1027 (by decide +kernel))) (hev 14 (by decide))
    · exact vk_R.of (hts _ (tl_of 1130 (by decide +kernel))) (hev 15 (by decide))
    · exact vk_R.of (hts _ (tl_of 1228 (by decide +kernel))) (hev 16 (by decide))
    · exact vk_R.of (hts _ (tl_of 1252 (by decide +kernel))) (hev 17 (by decide))
    · exact vk_R.of (hts _ (tl_of 1267 (by decide +kernel))) (hev 18 (by decide))
    · exact vk_R.of (hts _ (tl_of 1268 (by decide +kernel))) (hev 19 (by decide))
    · exact vk_R.of (hts _ (tl_of 1298 (by decide +kernel))) (hev 20 (by decide))
    · exact vk_R.of (hts _ (tl_of 1311 (by decide +kernel))) (hev 21 (by decide))
    · exact vk_R.of (hts _ (tl_of 1322 (by decide +kernel))) (hev 22 (by decide))
    · exact vk_R.of (hts _ (tl_of 1330 (by decide +kernel))) (hev 23 (by decide))
    · exact vk_R.of (hts _ (tl_of 1338 (by decide +kernel))) (hev 24 (by decide))
    · exact vk_R.of (hts _ (tl_of 1349 (by decide +kernel))) (ev_eqL (hs _ (fl_of 875 (by decide +kernel))) (hev 0 (by decide)))
    · exact vk_R.of (hts _ (tl_of 1376 (by decide +kernel))) (ev_eqL (hs _ (fl_of 884 (by decide +kernel))) (hev 1 (by decide)))
    · exact vk_R.of (hts _ (tl_of 1381 (by decide +kernel))) (ev_eqL (hs _ (fl_of 896 (by decide +kernel))) (hev 2 (by decide)))
    · exact vk_R.of (hts _ (tl_of 1409 (by decide +kernel))) (ev_eqL (hs _ (fl_of 906 (by decide +kernel))) (hev 3 (by decide)))
    · exact vk_R.of (hts _ (tl_of 1432 (by decide +kernel))) (ev_eqL (hs _ (fl_of 916 (by decide +kernel))) (hev 4 (by decide)))
    · exact vk_R.of (hts _ (tl_of 1440 (by decide +kernel))) (ev_eqL (hs _ (fl_of 927 (by decide +kernel))) (hev 5 (by decide)))
    · exact vk_R.of (hts _ (tl_of 1451 (by decide +kernel))) (ev_eqL (hs _ (fl_of 939 (by decide +kernel))) (hev 6 (by decide)))
    · exact vk_R.of (hts _ (tl_of 1456 (by decide +kernel))) (ev_eqL (hs _ (fl_of 949 (by decide +kernel))) (hev 7 (by decide)))
    · exact vk_R.of (hts _ (tl_of 1461 (by decide +kernel))) (ev_eqL (hs _ (fl_of 957 (by decide +kernel))) (hev 8 (by decide)))
  · intro q hq
    simp only [nwM, List.mem_cons, List.not_mem_nil, or_false] at hq
    rcases hq with rfl | rfl | rfl | rfl | rfl
    · exact va_Nw.of rfl (hts _ (tl_of 47 (by decide +kernel)))
    · exact va_Nw.of rfl (hts _ (tl_of 73 (by decide +kernel)))
    · exact va_Nw.of rfl (hts _ (tl_of 256 (by decide +kernel)))
    · exact va_Nw.of rfl (hts _ (tl_of 262 (by decide +kernel)))
    · exact va_Nw.of rfl (hts _ (tl_of 349 (by decide +kernel)))
  · intro q hq
    simp only [nwD, List.mem_cons, List.not_mem_nil, or_false] at hq
    rcases hq with rfl | rfl | rfl | rfl | rfl | rfl
    · exact va_Nw.of rfl (hts _ (tl_of 813 (by decide +kernel)))
    · exact va_Nw.of rfl (hts _ (tl_of 814 (by decide +kernel)))
    · exact va_Nw.of rfl (hts _ (tl_of 815 (by decide +kernel)))
    · exact va_Nw.of rfl (hts _ (tl_of 816 (by decide +kernel)))
    · exact va_Nw.of rfl (hts _ (tl_of 817 (by decide +kernel)))
    · exact va_Nw.of rfl (hts _ (tl_of 818 (by decide +kernel)))
  · intro q hq
    simp only [nwC, List.mem_cons, List.not_mem_nil, or_false] at hq
    rcases hq with rfl | rfl | rfl | rfl | rfl | rfl | rfl | rfl | rfl | rfl | rfl | rfl | rfl | rfl | rfl | rfl | rfl | rfl | rfl | rfl | rfl
    · exact va_Nw.of rfl (hts _ (tl_of 812 (by decide +kernel)))
    · exact va_Nw.of rfl (hts _ (tl_of 892 (by decide +kernel)))
    · exact va_Nw.of rfl (hts _ (tl_of 933 (by decide +kernel)))
    · exact va_Nw.of rfl (hts _ (tl_of 979 (by decide +kernel)))
    · exact va_Nw.of rfl (hts _ (tl_of 1948 (by decide +kernel)))
    · exact va_Nw.of rfl (hts _ (tl_of 1949 (by decide +kernel)))
    · exact va_Nw.of rfl (hts _ (tl_of 1950 (by decide +kernel)))
    · exact va_Nw.of rfl (hts _ (tl_of 1951 (by decide +kernel)))
    · exact va_Nw.of rfl (hts _ (tl_of 1952 (by decide +kernel)))
    · exact va_Nw.of rfl (hts _ (tl_of 1953 (by decide +kernel)))
    · exact va_Nw.of rfl (hts _ (tl_of 1954 (by decide +kernel)))
    · exact va_Nw.of rfl (hts _ (tl_of 1955 (by decide +kernel)))
    · exact va_Nw.of rfl (hts _ (tl_of 1956 (by decide +kernel)))
    · exact va_Nw.of rfl (hts _ (tl_of 1957 (by decide +kernel)))
    · exact va_Nw.of rfl (hts _ (tl_of 1958 (by decide +kernel)))
    · exact va_Nw.of rfl (hts _ (tl_of 1959 (by decide +kernel)))
    · exact va_Nw.of rfl (hts _ (tl_of 1960 (by decide +kernel)))
    · exact va_Nw.of rfl (hts _ (tl_of 1961 (by decide +kernel)))
    · exact va_Nw.of rfl (hts _ (tl_of 1962 (by decide +kernel)))
    · exact va_Nw.of rfl (hts _ (tl_of 1963 (by decide +kernel)))
    · exact va_Nw.of rfl (hts _ (tl_of 1964 (by decide +kernel)))
  · intro q hq
    simp only [nwA, List.mem_cons, List.not_mem_nil, or_false] at hq
    rcases hq with rfl | rfl | rfl | rfl | rfl
    · exact va_AO.of (hts _ (tl_of 39 (by decide +kernel)))
    · exact va_AO.of (hts _ (tl_of 41 (by decide +kernel)))
    · exact va_AO.of (hts _ (tl_of 43 (by decide +kernel)))
    · exact va_AO.of (hts _ (tl_of 45 (by decide +kernel)))
    · exact va_AO.of (hts _ (tl_of 334 (by decide +kernel)))
  · intro q hq
    rw [NC_eq] at hq
    simp only [List.mem_cons, List.not_mem_nil, or_false] at hq
    rcases hq with rfl | rfl | rfl | rfl | rfl | rfl | rfl | rfl | rfl | rfl | rfl | rfl
    · exact va_Nc.of (hs _ (fl_of 36 (by decide +kernel)))
    · exact va_Nc.of (hs _ (fl_of 50 (by decide +kernel)))
    · exact va_Nc.of (hs _ (fl_of 64 (by decide +kernel)))
    · exact va_Nc.of (hs _ (fl_of 22 (by decide +kernel)))
    · exact va_Nc.of (hs _ (fl_of 51 (by decide +kernel)))
    · exact va_Nc.of (hs _ (fl_of 65 (by decide +kernel)))
    · exact va_Nc.of (hs _ (fl_of 23 (by decide +kernel)))
    · exact va_Nc.of (hs _ (fl_of 37 (by decide +kernel)))
    · exact va_Nc.of (hs _ (fl_of 66 (by decide +kernel)))
    · exact va_Nc.of (hs _ (fl_of 24 (by decide +kernel)))
    · exact va_Nc.of (hs _ (fl_of 38 (by decide +kernel)))
    · exact va_Nc.of (hs _ (fl_of 52 (by decide +kernel)))
end Start
