theorem vaux_X0 : ∀ k, k < 3 → u_lay RX0 TX0 k ∈ TB
  | 0, _ => tw_340
  | 1, _ => tw_342
  | 2, _ => tw_344
  | n + 3, h => absurd h (by omega)
theorem vin_X0 : ∀ w ∈ u_ws RX0 TX0 3, w ∈ TB := fun w hw => by
  obtain ⟨k, hk, rfl⟩ := List.mem_map.mp hw
  exact vaux_X0 k (List.mem_range.mp hk)
theorem vaux_X1 : ∀ k, k < 2 → u_lay RX1 TX1 k ∈ TB
  | 0, _ => tw_357
  | 1, _ => tw_359
  | n + 2, h => absurd h (by omega)
theorem vin_X1 : ∀ w ∈ u_ws RX1 TX1 2, w ∈ TB := fun w hw => by
  obtain ⟨k, hk, rfl⟩ := List.mem_map.mp hw
  exact vaux_X1 k (List.mem_range.mp hk)
theorem vaux_X2 : ∀ k, k < 10 → u_lay RX2 TX2 k ∈ TB
  | 0, _ => tw_181
  | 1, _ => tw_183
  | 2, _ => tw_185
  | 3, _ => tw_187
  | 4, _ => tw_189
  | 5, _ => tw_191
  | 6, _ => tw_193
  | 7, _ => tw_195
  | 8, _ => tw_197
  | 9, _ => tw_199
  | n + 10, h => absurd h (by omega)
theorem vin_X2 : ∀ w ∈ u_ws RX2 TX2 10, w ∈ TB := fun w hw => by
  obtain ⟨k, hk, rfl⟩ := List.mem_map.mp hw
  exact vaux_X2 k (List.mem_range.mp hk)
theorem vaux_X3 : ∀ k, k < 11 → u_lay RX3 TX3 k ∈ TB
  | 0, _ => tw_304
  | 1, _ => tw_306
  | 2, _ => tw_308
  | 3, _ => tw_310
  | 4, _ => tw_312
  | 5, _ => tw_314
  | 6, _ => tw_316
  | 7, _ => tw_318
  | 8, _ => tw_320
  | 9, _ => tw_322
  | 10, _ => tw_324
  | n + 11, h => absurd h (by omega)
theorem vin_X3 : ∀ w ∈ u_ws RX3 TX3 11, w ∈ TB := fun w hw => by
  obtain ⟨k, hk, rfl⟩ := List.mem_map.mp hw
  exact vaux_X3 k (List.mem_range.mp hk)
theorem vaux_X4 : ∀ k, k < 12 → u_lay RX4 TX4 k ∈ TB
  | 0, _ => tw_229
  | 1, _ => tw_231
  | 2, _ => tw_233
  | 3, _ => tw_235
  | 4, _ => tw_237
  | 5, _ => tw_239
  | 6, _ => tw_241
  | 7, _ => tw_243
  | 8, _ => tw_245
  | 9, _ => tw_247
  | 10, _ => tw_249
  | 11, _ => tw_251
  | n + 12, h => absurd h (by omega)
theorem vin_X4 : ∀ w ∈ u_ws RX4 TX4 12, w ∈ TB := fun w hw => by
  obtain ⟨k, hk, rfl⟩ := List.mem_map.mp hw
  exact vaux_X4 k (List.mem_range.mp hk)
theorem vaux_X5 : ∀ k, k < 4 → u_lay RX5 TX5 k ∈ TB
  | 0, _ => tw_62
  | 1, _ => tw_64
  | 2, _ => tw_66
  | 3, _ => tw_68
  | n + 4, h => absurd h (by omega)
theorem vin_X5 : ∀ w ∈ u_ws RX5 TX5 4, w ∈ TB := fun w hw => by
  obtain ⟨k, hk, rfl⟩ := List.mem_map.mp hw
  exact vaux_X5 k (List.mem_range.mp hk)
theorem vaux_X6 : ∀ k, k < 5 → u_lay RX6 TX6 k ∈ TB
  | 0, _ => tw_275
  | 1, _ => tw_277
  | 2, _ => tw_279
  | 3, _ => tw_281
  | 4, _ => tw_283
  | n + 5, h => absurd h (by omega)
theorem vin_X6 : ∀ w ∈ u_ws RX6 TX6 5, w ∈ TB := fun w hw => by
  obtain ⟨k, hk, rfl⟩ := List.mem_map.mp hw
  exact vaux_X6 k (List.mem_range.mp hk)
theorem vaux_X7 : ∀ k, k < 4 → u_lay RX7 TX7 k ∈ TB
  | 0, _ => tw_87
  | 1, _ => tw_89
  | 2, _ => tw_91
  | 3, _ => tw_93
  | n + 4, h => absurd h (by omega)
theorem vin_X7 : ∀ w ∈ u_ws RX7 TX7 4, w ∈ TB := fun w hw => by
  obtain ⟨k, hk, rfl⟩ := List.mem_map.mp hw
  exact vaux_X7 k (List.mem_range.mp hk)
theorem vaux_X8 : ∀ k, k < 10 → u_lay RX8 TX8 k ∈ TB
  | 0, _ => tw_128
  | 1, _ => tw_130
  | 2, _ => tw_132
  | 3, _ => tw_134
  | 4, _ => tw_136
  | 5, _ => tw_138
  | 6, _ => tw_140
  | 7, _ => tw_142
  | 8, _ => tw_144
  | 9, _ => tw_146
  | n + 10, h => absurd h (by omega)
theorem vin_X8 : ∀ w ∈ u_ws RX8 TX8 10, w ∈ TB := fun w hw => by
  obtain ⟨k, hk, rfl⟩ := List.mem_map.mp hw
  exact vaux_X8 k (List.mem_range.mp hk)
theorem vaux_X9 : ∀ k, k < 7 → u_lay RX9 TX9 k ∈ TB
  | 0, _ => tw_667
  | 1, _ => tw_669
  | 2, _ => tw_671
  | 3, _ => tw_673
  | 4, _ => tw_675
  | 5, _ => tw_677
  | 6, _ => tw_679
  | n + 7, h => absurd h (by omega)
theorem vin_X9 : ∀ w ∈ u_ws RX9 TX9 7, w ∈ TB := fun w hw => by
  obtain ⟨k, hk, rfl⟩ := List.mem_map.mp hw
  exact vaux_X9 k (List.mem_range.mp hk)
theorem vaux_X10 : ∀ k, k < 21 → u_lay RX10 TX10 k ∈ TB
  | 0, _ => tw_1570
  | 1, _ => tw_1572
  | 2, _ => tw_1574
  | 3, _ => tw_1576
  | 4, _ => tw_1578
  | 5, _ => tw_1580
  | 6, _ => tw_1582
  | 7, _ => tw_1584
  | 8, _ => tw_1586
  | 9, _ => tw_1588
  | 10, _ => tw_1590
  | 11, _ => tw_1592
  | 12, _ => tw_1594
  | 13, _ => tw_1596
  | 14, _ => tw_1598
  | 15, _ => tw_1600
  | 16, _ => tw_1602
  | 17, _ => tw_1604
  | 18, _ => tw_1606
  | 19, _ => tw_1608
  | 20, _ => tw_1610
  | n + 21, h => absurd h (by omega)
theorem vin_X10 : ∀ w ∈ u_ws RX10 TX10 21, w ∈ TB := fun w hw => by
  obtain ⟨k, hk, rfl⟩ := List.mem_map.mp hw
  exact vaux_X10 k (List.mem_range.mp hk)
theorem vwOK {ci : Nat} {C : String} {T : u_T} {N : Nat} (h : vwCl[ci]? = some (C, T, N)) : (∀ w ∈ u_ws C T N, w ∈ TB) ∧ (∃ ty : Nat → FieldType, ∀ k, k < N → parseFieldDescriptor (T k).2.2.1 = some (ty k)) ∧ (∀ a, a < N → ∀ b, b < N → a ≠ b → (T a).2.1 ≠ (T b).2.1) := by
  match ci, h with
  | 0, h => cases (show some (RX0, TX0, 3) = some (C, T, N) from h); exact ⟨vin_X0, ⟨tyX0, tyX0_ok⟩, nmX0⟩
  | 1, h => cases (show some (RX1, TX1, 2) = some (C, T, N) from h); exact ⟨vin_X1, ⟨tyX1, tyX1_ok⟩, nmX1⟩
  | 2, h => cases (show some (RX2, TX2, 10) = some (C, T, N) from h); exact ⟨vin_X2, ⟨tyX2, tyX2_ok⟩, nmX2⟩
  | 3, h => cases (show some (RX3, TX3, 11) = some (C, T, N) from h); exact ⟨vin_X3, ⟨tyX3, tyX3_ok⟩, nmX3⟩
  | 4, h => cases (show some (RX4, TX4, 12) = some (C, T, N) from h); exact ⟨vin_X4, ⟨tyX4, tyX4_ok⟩, nmX4⟩
  | 5, h => cases (show some (RX5, TX5, 4) = some (C, T, N) from h); exact ⟨vin_X5, ⟨tyX5, tyX5_ok⟩, nmX5⟩
  | 6, h => cases (show some (RX6, TX6, 5) = some (C, T, N) from h); exact ⟨vin_X6, ⟨tyX6, tyX6_ok⟩, nmX6⟩
  | 7, h => cases (show some (RX7, TX7, 4) = some (C, T, N) from h); exact ⟨vin_X7, ⟨tyX7, tyX7_ok⟩, nmX7⟩
  | 8, h => cases (show some (RX8, TX8, 10) = some (C, T, N) from h); exact ⟨vin_X8, ⟨tyX8, tyX8_ok⟩, nmX8⟩
  | 9, h => cases (show some (RX9, TX9, 7) = some (C, T, N) from h); exact ⟨vin_X9, ⟨tyX9, tyX9_ok⟩, nmX9⟩
  | 10, h => cases (show some (RX10, TX10, 21) = some (C, T, N) from h); exact ⟨vin_X10, ⟨tyX10, tyX10_ok⟩, nmX10⟩
  | n + 11, h => simp [vwCl] at h

theorem mmin_static : Cond.static Lib.Math.min.name ∈ TB := tw_532
theorem mmin_code : Cond.code Lib.Math.min.name Lib.Math.min.code 2 (some .int) ∈ TB := tw_533
theorem mmin_init : Cond.initialized "java/lang/Math" ∈ TB := tw_15
theorem obj_inst : Cond.instanceMethod Lib.objectInit ∈ TB := tw_30
theorem obj_code : Cond.code Lib.objectInit ⟨#[0xb1]⟩ 1 none ∈ TB := tw_31
def gA (lo : Nat) : Nat → Prop := fun q => lo ≤ q
def cvE (cyt : Nat → ClassId) : va_E → va_E
  | .inl (t, a) => .inl (cyt t, a)
  | .inr o => .inr o
/-- what the heap H holds, from the address lo on: its size is hi, and at each address of M the thing that M says -/
def RepH (D : va_G) (cyt : Nat → ClassId) (lo : Nat) (M : MM) (hi : Nat) (H : Heap) : Prop := H.size = hi ∧ ∀ (a : Nat) (e : va_E), M a = some e → gA lo a ∧ va_at D vwCl (a, cvE cyt e) H
theorem one_P {D : va_G} {a : Nat} {e : va_E} {H : Heap} (h : va_at D vwCl (a, e) H) : va_P D vwCl [(a, e)] H := fun k q hq => by
  match k, hq with
  | 0, hq => cases hq; exact h
  | k + 1, hq => simp at hq
theorem RepH.set {D : va_G} {cyt : Nat → ClassId} {lo : Nat} {M : MM} {hi : Nat} {H H' : Heap} {a : Nat} {e : va_E} (h : RepH D cyt lo M hi H) (ha : gA lo a) (he : va_at D vwCl (a, cvE cyt e) H') (z : H'.size = H.size) (oq : ∀ q : Nat, q ≠ a → H'[q]? = H[q]?) : RepH D cyt lo (mset M a e) hi H' := by
  refine ⟨z.trans h.1, fun b e' hb => ?_⟩
  unfold mset at hb
  by_cases hba : b = a
  · subst hba
    rw [if_pos rfl] at hb
    cases hb
    exact ⟨ha, he⟩
  · rw [if_neg hba] at hb
    exact ⟨(h.2 b e' hb).1, (h.2 b e' hb).2.kept (oq b hba)⟩
theorem RepH.push {D : va_G} {cyt : Nat → ClassId} {lo : Nat} {M : MM} {hi : Nat} {H H' : Heap} {e : va_E} (h : RepH D cyt lo M hi H) (ha : lo ≤ hi) (he : va_at D vwCl (hi, cvE cyt e) H') (z : H'.size = hi + 1) (oq : ∀ q : Nat, q < hi → H'[q]? = H[q]?) : RepH D cyt lo (mset M hi e) (hi + 1) H' := by
  refine ⟨z, fun b e' hb => ?_⟩
  unfold mset at hb
  by_cases hba : b = hi
  · subst hba
    rw [if_pos rfl] at hb
    cases hb
    exact ⟨ha, he⟩
  · rw [if_neg hba] at hb
    have hlt : b < H.size := (h.2 b e' hb).2.lt
    exact ⟨(h.2 b e' hb).1, (h.2 b e' hb).2.kept (oq b (by have := h.1; omega))⟩
/-- what the start gives of the cells that were there before, seen over H -/
def KH (G : GT) (lo : Nat) (U : State) (H : Heap) : Prop :=
  (va_X G.1 G.2.1 G.2.2.1 U H ∧ G.1 < H.size ∧ ¬ gA lo G.1) ∧ vx_Zq Bundle.tN "UNASSIGNED_STACK" Bundle.steD (gA lo) U H ∧ vx_Zq Bundle.tN "SUPPRESSED_SENTINEL" Bundle.listD (gA lo) U H ∧
  (∀ q, q ∈ STR → vk_R q.1 q.2.1 (TXT q.2.2) (G.2.2.2.1 q.2.2) U) ∧ (∀ q, q ∈ nwM → va_Nw (.methodLinkNest q.1 q.2.1 q.2.2.1 q.2.2.2) U) ∧ (∀ x, x ∈ nwD → va_Nw (.declares x) U) ∧ (∀ q, q ∈ nwC → va_Nw (.castable q.1 q.2) U) ∧
  (∀ C, C ∈ nwA → va_AO C U) ∧ (∀ q, q ∈ NC → va_Nc q.1 q.2 U) ∧ vk_S nSTR lensS bytsS G.2.2.2.1 G.2.2.2.2 (gA lo) U H ∧ va_Z "java/lang/String" "COMPACT_STRINGS" "Z" (.int 1) (gA lo) U H ∧ va_Zq "jdk/internal/util/Preconditions" "SIOOBE_FORMATTER" "Ljava/util/function/BiFunction;" (gA lo) U H
theorem KH.same {G : GT} {lo : Nat} {u U : State} {H : Heap} (hv : U.vm = u.vm) (h : KH G lo u H) : KH G lo U H := by
  have ha : u.vm.Alike U.vm := by rw [hv]; exact Vm.Alike.refl _
  obtain ⟨⟨a1, a2, a3⟩, b, c, d, e1, f1, g1, h1, i1, j1, k1, l1⟩ := h
  exact ⟨⟨va_X.moved ha a1, a2, a3⟩, vx_Zq.moved ha b, vx_Zq.moved ha c, fun q hq => vk_R.same hv (d q hq), fun q hq => va_Nw.same rfl hv.symm (e1 q hq), fun q hq => va_Nw.same rfl hv.symm (f1 q hq), fun q hq => va_Nw.same rfl hv.symm (g1 q hq), fun C hC => va_AO.moved ha (h1 C hC), fun q hq => va_Nc.moved ha (i1 q hq), vk_S.moved ha j1, va_Z.moved ha k1, va_Zq.moved ha l1⟩
theorem KH.warm {G : GT} {lo : Nat} {s U : State} {H : Heap} (hW : s.WarmedH U.vm) (h : KH G lo s H) : KH G lo U H := by
  have ha : s.vm.Alike U.vm := hW.alike
  obtain ⟨⟨a1, a2, a3⟩, b, c, d, e1, f1, g1, h1, i1, j1, k1, l1⟩ := h
  exact ⟨⟨va_X.moved ha a1, a2, a3⟩, vx_Zq.moved ha b, vx_Zq.moved ha c, fun q hq => vk_R.warm hW (d q hq), fun q hq => va_Nw.warmM hW (e1 q hq), fun q hq => va_Nw.warmD hW (f1 q hq), fun q hq => va_Nw.warmC hW (g1 q hq), fun C hC => va_AO.moved ha (h1 C hC), fun q hq => va_Nc.moved ha (i1 q hq), vk_S.moved ha j1, va_Z.moved ha k1, va_Zq.moved ha l1⟩
theorem KH.kept {G : GT} {lo : Nat} {U : State} {H H1 : Heap} (h : KH G lo U H) (hs : H.size ≤ H1.size) (hq : ∀ a : Nat, a < H.size → ¬ gA lo a → H1[a]? = H[a]?) : KH G lo U H1 := by
  obtain ⟨⟨a1, a2, a3⟩, b, c, d, e1, f1, g1, h1, i1, j1, k1, l1⟩ := h
  exact ⟨⟨va_X.kept a1 (hq _ a2 a3), Nat.lt_of_lt_of_le a2 hs, a3⟩, vx_Zq.kept b hq, vx_Zq.kept c hq, d, e1, f1, g1, h1, i1, vk_S.kept j1 hq, va_Z.kept k1 hq, va_Zq.kept l1 hq⟩
theorem KH.go {G : GT} {lo : Nat} {s U : State} {H : Heap} {locs : List Loc} (h : KH G lo s s.heap) (hW : s.WarmedH U.vm) (hS : va_S (gA lo) s.heap H locs) : KH G lo U H := (h.warm hW).kept hS.1 hS.2.1
def RM (f mc ms : Nat) : Room := { frames := f, cells := mc, slots := ms, locals := 39 * f }
def PcM (G : GT) (D : va_G) (cyt : Nat → ClassId) (lo : Nat) (As : List Value) (M : MM) (hi : Nat) : Array Value → State → Prop := fun a U => a = As.toArray ∧ RepH D cyt lo M hi U.heap ∧ va_K D vwCl (TYL cyt) U ∧ KH G lo U U.heap ∧ lo ≤ U.heap.size
def QcM (D : va_G) (cyt : Nat → ClassId) (lo : Nat) (P : PS) : Array Value → State → Outcome → State → Prop := fun _ st o t => ∃ (v : Option Value) (M2 : MM) (hi2 : Nat), o = .returned v ∧ P (.inl v) M2 hi2 ∧ RepH D cyt lo M2 hi2 t.heap ∧ va_F (gA lo) st t
def XcM (D : va_G) (cyt : Nat → ClassId) (lo : Nat) (P : PS) : String → State → State → Prop := fun E st t => ∃ (M2 : MM) (hi2 : Nat), P (.inr E) M2 hi2 ∧ RepH D cyt lo M2 hi2 t.heap ∧ va_F (gA lo) st t
theorem blindM {G : GT} {D : va_G} {cyt : Nat → ClassId} {lo : Nat} {As : List Value} {M : MM} {hi : Nat} : FrameBlind (PcM G D cyt lo As M hi) := fun a U g mk h => ⟨h.1, h.2.1, va_K.moved (u := U) (U := U.calling g mk a) (Vm.Alike.refl U.vm) h.2.2.1, KH.same (u := U) (U := U.calling g mk a) rfl h.2.2.2.1, h.2.2.2.2⟩
def okw (w : Cond) : Prop := w ∈ TB ∨ (∃ x ∈ nwD, w = .declares x) ∨ ∃ q ∈ nwC, w = .castable q.1 q.2
def okb (w : Cond) : Bool := (goodWord w && decide (w ∈ tables_1)) || match w with
  | .declares x => decide (x ∈ nwD)
  | .castable a b => decide ((a, b) ∈ nwC)
  | _ => false
theorem okw_of {w : Cond} (h : okb w = true) : okw w := by
  unfold okb at h
  rw [Bool.or_eq_true, Bool.and_eq_true] at h
  rcases h with ⟨h1, h2⟩ | h
  · exact Or.inl (List.mem_filter.mpr ⟨List.mem_append_right _ (of_decide_eq_true h2), h1⟩)
  · split at h
    · exact Or.inr (Or.inl ⟨_, of_decide_eq_true h, rfl⟩)
    · exact Or.inr (Or.inr ⟨_, of_decide_eq_true h, rfl⟩)
    · cases h
theorem ot_good {w : Cond} (h : goodWord w = true) : vx_ot w = true := by unfold vx_ot; rw [h, Bool.or_true]
theorem okw_ot {w : Cond} (h : okw w) : vx_ot w = true := by
  rcases h with h | ⟨x, -, rfl⟩ | ⟨q, -, rfl⟩
  · exact ot_good (tb_good _ h)
  · rfl
  · rfl
/-- a throw's words but the one of the constructor's own pool entry -/
def atA (E : String) : List Cond := Bundle.throwableAtoms ++ Bundle.throwableSAtoms ++ Bundle.chainSAtoms E XN
def atT (E : String) : List Cond := ((Bundle.ownAtoms "" 0 E XN).drop (atA E).length).tail
theorem at_ex (E : String) : ∃ T : List Cond, ∀ (own : String) (ic : Nat), Bundle.ownAtoms own ic E XN = atA E ++ .methodLink own ic (Bundle.initS E) :: T := ⟨_, fun _ _ => rfl⟩
def atX (E : String) : List Cond := atA E ++ atT E
theorem at_E0 : (atX "java/lang/IllegalStateException").all (fun w => !(vx_no w) || okb w) = true := by decide +kernel
theorem at_E1 : (atX "java/lang/IllegalArgumentException").all (fun w => !(vx_no w) || okb w) = true := by decide +kernel
theorem at_E2 : (atX "java/lang/IndexOutOfBoundsException").all (fun w => !(vx_no w) || okb w) = true := by decide +kernel
theorem at_in {own : String} {ic : Nat} {E : String} {w : Cond} (h : w ∈ Bundle.ownAtoms own ic E XN) : w = .methodLink own ic (Bundle.initS E) ∨ w ∈ atX E := by
  obtain ⟨T, hT⟩ := at_ex E
  have e : atT E = T := by
    unfold atT
    rw [hT "" 0, List.drop_left]
    rfl
  rw [hT own ic] at h
  unfold atX
  rw [e]
  rcases List.mem_append.mp h with h | h
  · exact Or.inr (List.mem_append_left _ h)
  · rcases List.mem_cons.mp h with h | h
    · exact Or.inl h
    · exact Or.inr (List.mem_append_right _ h)
theorem xn_fit : ∀ n ∈ XN, Bundle.fit n = true := by decide +kernel
theorem exs_ok {E own : String} {ic : Nat} (hE : E ∈ EX3) (w2 : Cond.methodLink own ic (Bundle.initS E) ∈ TB) : Bundle.fit E = true ∧ (∀ w ∈ vx_atS own ic E XN, okw w) ∧ (Cond.initialized E ∈ TB ∧ True) := by
  have key : (atX E).all (fun w => !(vx_no w) || okb w) = true → ∀ w ∈ vx_atS own ic E XN, okw w := by
    intro h w hw
    obtain ⟨h1, h2⟩ := List.mem_filter.mp hw
    rcases at_in h1 with rfl | h3
    · exact Or.inl w2
    · have h4 := List.all_eq_true.mp h w h3
      rw [h2] at h4
      exact okw_of h4
  simp only [EX3, List.mem_cons, List.not_mem_nil, or_false] at hE
  rcases hE with rfl | rfl | rfl
  · exact ⟨by decide +kernel, key at_E0, tw_20, trivial⟩
  · exact ⟨by decide +kernel, key at_E1, tw_21, trivial⟩
  · exact ⟨by decide +kernel, key at_E2, tw_22, trivial⟩
theorem goodIn_ws {cw : Cond} (h : cw ∈ TB) : GoodIn TB (cw :: TB) := fun w hw => by
  have h9 : w ∈ TB := by rcases List.mem_cons.mp hw with rfl | h2; exact h; exact h2
  exact ⟨h9, good_of_word (tb_good w h9)⟩
theorem goodIn_wsV {own : String} {idx : Nat} {y : MethodName} {cw : Cond} (w1 : Cond.methodLink own idx y ∈ TB) (w2 : Cond.instanceMethod y ∈ TB) (w3 : Cond.selects y.cls y y ∈ TB) (w4 : Cond.initialized y.cls ∈ TB) (h : cw ∈ TB) : GoodIn TB (wsV own idx y.cls y (cw :: TB)) := fun w hw => by
  have h9 : w ∈ TB := by
    simp only [wsV, List.cons_append, List.nil_append, List.mem_cons] at hw
    rcases hw with rfl | rfl | rfl | rfl | rfl | h2 <;> assumption
  exact ⟨h9, good_of_word (tb_good w h9)⟩
theorem goodIn_vaS {own : String} {idx : Nat} {y : MethodName} {cw : Cond} (w1 : Cond.methodLink own idx y ∈ TB) (w2 : Cond.static y ∈ TB) (w4 : Cond.initialized y.cls ∈ TB) (h : cw ∈ TB) : GoodIn TB (va_wsS own idx y (cw :: TB)) := fun w hw => by
  have h9 : w ∈ TB := by
    simp only [va_wsS, List.cons_append, List.nil_append, List.mem_cons] at hw
    rcases hw with rfl | rfl | rfl | rfl | h2 <;> assumption
  exact ⟨h9, good_of_word (tb_good w h9)⟩
theorem met_of_vx {l : Launch} {y : MethodName} {ws : List Cond} {rm : Room} {Pc : Array Value → State → Prop} {Qc : Array Value → State → Outcome → State → Prop} {XC : String → State → State → Prop} {mc ms : Nat} {free : Addr → Prop} (h : vx_Met l y ws rm Pc Qc XC mc ms free) (hx : ∀ E st t, ¬ XC E st t) : Met l y ws rm Pc Qc mc ms free := by
  intro p e ha hc hk s m args below hf happ hP hK
  obtain ⟨n, o, h1, h2, h3, h4⟩ := h p e ha hc hk s m args below hf happ hP hK
  refine ⟨n, o, h1, h2, h3, ?_⟩
  rcases h4 with h4 | ⟨q, _, E, _, _, hxx, _⟩
  · exact h4
  · exact absurd hxx (hx E _ _)
