theorem vaux_X0 : ∀ k, k < 3 → u_lay RX0 TX0 k ∈ TB
  | 0, _ => tw_343
  | 1, _ => tw_345
  | 2, _ => tw_347
  | n + 3, h => absurd h (by omega)
theorem vin_X0 : ∀ w ∈ u_ws RX0 TX0 3, w ∈ TB := fun w hw => by
  obtain ⟨k, hk, rfl⟩ := List.mem_map.mp hw
  exact vaux_X0 k (List.mem_range.mp hk)
theorem vaux_X1 : ∀ k, k < 2 → u_lay RX1 TX1 k ∈ TB
  | 0, _ => tw_357
  | 1, _ => tw_359
  | n + 2, h => absurd h (by omega)
theorem vin_X1 : ∀ w ∈ u_ws RX1 TX1 2, w ∈ TB := fun w hw => by
  obtain ⟨k, hk, rfl⟩ := List.mem_map.mp hw
  exact vaux_X1 k (List.mem_range.mp hk)
theorem vaux_X2 : ∀ k, k < 10 → u_lay RX2 TX2 k ∈ TB
  | 0, _ => tw_187
  | 1, _ => tw_189
  | 2, _ => tw_191
  | 3, _ => tw_193
  | 4, _ => tw_195
  | 5, _ => tw_197
  | 6, _ => tw_199
  | 7, _ => tw_201
  | 8, _ => tw_203
  | 9, _ => tw_205
  | n + 10, h => absurd h (by omega)
theorem vin_X2 : ∀ w ∈ u_ws RX2 TX2 10, w ∈ TB := fun w hw => by
  obtain ⟨k, hk, rfl⟩ := List.mem_map.mp hw
  exact vaux_X2 k (List.mem_range.mp hk)
theorem vaux_X3 : ∀ k, k < 11 → u_lay RX3 TX3 k ∈ TB
  | 0, _ => tw_308
  | 1, _ => tw_310
  | 2, _ => tw_312
  | 3, _ => tw_314
  | 4, _ => tw_316
  | 5, _ => tw_318
  | 6, _ => tw_320
  | 7, _ => tw_322
  | 8, _ => tw_324
  | 9, _ => tw_326
  | 10, _ => tw_328
  | n + 11, h => absurd h (by omega)
theorem vin_X3 : ∀ w ∈ u_ws RX3 TX3 11, w ∈ TB := fun w hw => by
  obtain ⟨k, hk, rfl⟩ := List.mem_map.mp hw
  exact vaux_X3 k (List.mem_range.mp hk)
theorem vaux_X4 : ∀ k, k < 12 → u_lay RX4 TX4 k ∈ TB
  | 0, _ => tw_234
  | 1, _ => tw_236
  | 2, _ => tw_238
  | 3, _ => tw_240
  | 4, _ => tw_242
  | 5, _ => tw_244
  | 6, _ => tw_246
  | 7, _ => tw_248
  | 8, _ => tw_250
  | 9, _ => tw_252
  | 10, _ => tw_254
  | 11, _ => tw_256
  | n + 12, h => absurd h (by omega)
theorem vin_X4 : ∀ w ∈ u_ws RX4 TX4 12, w ∈ TB := fun w hw => by
  obtain ⟨k, hk, rfl⟩ := List.mem_map.mp hw
  exact vaux_X4 k (List.mem_range.mp hk)
theorem vaux_X5 : ∀ k, k < 4 → u_lay RX5 TX5 k ∈ TB
  | 0, _ => tw_68
  | 1, _ => tw_70
  | 2, _ => tw_72
  | 3, _ => tw_74
  | n + 4, h => absurd h (by omega)
theorem vin_X5 : ∀ w ∈ u_ws RX5 TX5 4, w ∈ TB := fun w hw => by
  obtain ⟨k, hk, rfl⟩ := List.mem_map.mp hw
  exact vaux_X5 k (List.mem_range.mp hk)
theorem vaux_X6 : ∀ k, k < 5 → u_lay RX6 TX6 k ∈ TB
  | 0, _ => tw_280
  | 1, _ => tw_282
  | 2, _ => tw_284
  | 3, _ => tw_286
  | 4, _ => tw_288
  | n + 5, h => absurd h (by omega)
theorem vin_X6 : ∀ w ∈ u_ws RX6 TX6 5, w ∈ TB := fun w hw => by
  obtain ⟨k, hk, rfl⟩ := List.mem_map.mp hw
  exact vaux_X6 k (List.mem_range.mp hk)
theorem vaux_X7 : ∀ k, k < 4 → u_lay RX7 TX7 k ∈ TB
  | 0, _ => tw_93
  | 1, _ => tw_95
  | 2, _ => tw_97
  | 3, _ => tw_99
  | n + 4, h => absurd h (by omega)
theorem vin_X7 : ∀ w ∈ u_ws RX7 TX7 4, w ∈ TB := fun w hw => by
  obtain ⟨k, hk, rfl⟩ := List.mem_map.mp hw
  exact vaux_X7 k (List.mem_range.mp hk)
theorem vaux_X8 : ∀ k, k < 10 → u_lay RX8 TX8 k ∈ TB
  | 0, _ => tw_134
  | 1, _ => tw_136
  | 2, _ => tw_138
  | 3, _ => tw_140
  | 4, _ => tw_142
  | 5, _ => tw_144
  | 6, _ => tw_146
  | 7, _ => tw_148
  | 8, _ => tw_150
  | 9, _ => tw_152
  | n + 10, h => absurd h (by omega)
theorem vin_X8 : ∀ w ∈ u_ws RX8 TX8 10, w ∈ TB := fun w hw => by
  obtain ⟨k, hk, rfl⟩ := List.mem_map.mp hw
  exact vaux_X8 k (List.mem_range.mp hk)
theorem vaux_X9 : ∀ k, k < 7 → u_lay RX9 TX9 k ∈ TB
  | 0, _ => tw_667
  | 1, _ => tw_669
  | 2, _ => tw_671
  | 3, _ => tw_673
  | 4, _ => tw_675
  | 5, _ => tw_677
  | 6, _ => tw_679
  | n + 7, h => absurd h (by omega)
theorem vin_X9 : ∀ w ∈ u_ws RX9 TX9 7, w ∈ TB := fun w hw => by
  obtain ⟨k, hk, rfl⟩ := List.mem_map.mp hw
  exact vaux_X9 k (List.mem_range.mp hk)
theorem vaux_X10 : ∀ k, k < 17 → u_lay RX10 TX10 k ∈ TB
  | 0, _ => tw_899
  | 1, _ => tw_901
  | 2, _ => tw_903
  | 3, _ => tw_905
  | 4, _ => tw_907
  | 5, _ => tw_909
  | 6, _ => tw_911
  | 7, _ => tw_913
  | 8, _ => tw_915
  | 9, _ => tw_917
  | 10, _ => tw_919
  | 11, _ => tw_921
  | 12, _ => tw_923
  | 13, _ => tw_925
  | 14, _ => tw_927
  | 15, _ => tw_929
  | 16, _ => tw_931
  | n + 17, h => absurd h (by omega)
theorem vin_X10 : ∀ w ∈ u_ws RX10 TX10 17, w ∈ TB := fun w hw => by
  obtain ⟨k, hk, rfl⟩ := List.mem_map.mp hw
  exact vaux_X10 k (List.mem_range.mp hk)
theorem vaux_J0 : ∀ k, k < 4 → u_lay RJ0 TJ0 k ∈ TB
  | 0, _ => tw_1365
  | 1, _ => tw_1367
  | 2, _ => tw_1369
  | 3, _ => tw_1371
  | n + 4, h => absurd h (by omega)
theorem vin_J0 : ∀ w ∈ u_ws RJ0 TJ0 4, w ∈ TB := fun w hw => by
  obtain ⟨k, hk, rfl⟩ := List.mem_map.mp hw
  exact vaux_J0 k (List.mem_range.mp hk)
theorem vaux_J4 : ∀ k, k < 4 → u_lay RJ4 TJ4 k ∈ TB
  | 0, _ => tw_1152
  | 1, _ => tw_1154
  | 2, _ => tw_1156
  | 3, _ => tw_1158
  | n + 4, h => absurd h (by omega)
theorem vin_J4 : ∀ w ∈ u_ws RJ4 TJ4 4, w ∈ TB := fun w hw => by
  obtain ⟨k, hk, rfl⟩ := List.mem_map.mp hw
  exact vaux_J4 k (List.mem_range.mp hk)
theorem vwOK {ci : Nat} {C : String} {T : u_T} {N : Nat} (h : vwCl[ci]? = some (C, T, N)) : (∀ w ∈ u_ws C T N, w ∈ TB) ∧ (∃ ty : Nat → FieldType, ∀ k, k < N → parseFieldDescriptor (T k).2.2.1 = some (ty k)) ∧ (∀ a, a < N → ∀ b, b < N → a ≠ b → (T a).2.1 ≠ (T b).2.1) := by
  match ci, h with
  | 0, h => cases (show some (RX0, TX0, 3) = some (C, T, N) from h); exact ⟨vin_X0, ⟨tyX0, tyX0_ok⟩, nmX0⟩
  | 1, h => cases (show some (RX1, TX1, 2) = some (C, T, N) from h); exact ⟨vin_X1, ⟨tyX1, tyX1_ok⟩, nmX1⟩
  | 2, h => cases (show some (RX2, TX2, 10) = some (C, T, N) from h); exact ⟨vin_X2, ⟨tyX2, tyX2_ok⟩, nmX2⟩
  | 3, h => cases (show some (RX3, TX3, 11) = some (C, T, N) from h); exact ⟨vin_X3, ⟨tyX3, tyX3_ok⟩, nmX3⟩
  | 4, h => cases (show some (RX4, TX4, 12) = some (C, T, N) from h); exact ⟨vin_X4, ⟨tyX4, tyX4_ok⟩, nmX4⟩
  | 5, h => cases (show some (RX5, TX5, 4) = some (C, T, N) from h); exact ⟨vin_X5, ⟨tyX5, tyX5_ok⟩, nmX5⟩
  | 6, h => cases (show some (RX6, TX6, 5) = some (C, T, N) from h); exact ⟨vin_X6, ⟨tyX6, tyX6_ok⟩, nmX6⟩
  | 7, h => cases (show some (RX7, TX7, 4) = some (C, T, N) from h); exact ⟨vin_X7, ⟨tyX7, tyX7_ok⟩, nmX7⟩
  | 8, h => cases (show some (RX8, TX8, 10) = some (C, T, N) from h); exact ⟨vin_X8, ⟨tyX8, tyX8_ok⟩, nmX8⟩
  | 9, h => cases (show some (RX9, TX9, 7) = some (C, T, N) from h); exact ⟨vin_X9, ⟨tyX9, tyX9_ok⟩, nmX9⟩
  | 10, h => cases (show some (RX10, TX10, 17) = some (C, T, N) from h); exact ⟨vin_X10, ⟨tyX10, tyX10_ok⟩, nmX10⟩
  | 11, h => cases (show some (RJ0, TJ0, 4) = some (C, T, N) from h); exact ⟨vin_J0, ⟨tyJ0, tyJ0_ok⟩, nmJ0⟩
  | 12, h => cases (show some (RJ4, TJ4, 4) = some (C, T, N) from h); exact ⟨vin_J4, ⟨tyJ4, tyJ4_ok⟩, nmJ4⟩
  | n + 13, h => simp [vwCl] at h

theorem mmin_static : Cond.static Lib.Math.min.name ∈ TB := tw_532
theorem mmin_code : Cond.code Lib.Math.min.name Lib.Math.min.code 2 (some .int) ∈ TB := tw_533
theorem mmax_static : Cond.static Lib.Math.max.name ∈ TB := tw_1186
theorem mmax_code : Cond.code Lib.Math.max.name Lib.Math.max.code 2 (some .int) ∈ TB := tw_1187
theorem acp_nat : Cond.native arraycopyName ∈ TB := tw_1206
theorem acp_stat : Cond.static arraycopyName ∈ TB := tw_1205
theorem acp_init : Cond.initialized "java/lang/System" ∈ TB := tw_20
theorem cl_same : Cond.sameMethod "[B" "java/lang/Object" "clone" "()Ljava/lang/Object;" ∈ TB := tw_1197
theorem cl_nat : Cond.native ⟨"java/lang/Object", "clone", "()Ljava/lang/Object;"⟩ ∈ TB := tw_1198
theorem cl_inst : Cond.instanceMethod ⟨"java/lang/Object", "clone", "()Ljava/lang/Object;"⟩ ∈ TB := tw_1199
theorem cl_sel : Cond.selects "[B" ⟨"[B", "clone", "()Ljava/lang/Object;"⟩ ⟨"java/lang/Object", "clone", "()Ljava/lang/Object;"⟩ ∈ TB := tw_1200
theorem mmin_init : Cond.initialized "java/lang/Math" ∈ TB := tw_15
theorem obj_inst : Cond.instanceMethod Lib.objectInit ∈ TB := tw_37
theorem obj_code : Cond.code Lib.objectInit ⟨#[0xb1]⟩ 1 none ∈ TB := tw_38
def gA (lo : Nat) : Nat → Prop := fun q => lo ≤ q
def cvE (cyt : Nat → ClassId) : va_E → va_E
  | .inl (t, a) => .inl (cyt t, a)
  | .inr o => .inr o
/-- what the heap H holds, from the address lo on: its size is hi, and at each address of M the thing that M says -/
def RepH (D : va_G) (cyt : Nat → ClassId) (lo : Nat) (M : MM) (hi : Nat) (H : Heap) : Prop := H.size = hi ∧ ∀ (a : Nat) (e : va_E), M a = some e → gA lo a ∧ va_at D vwCl (a, cvE cyt e) H
theorem one_P {D : va_G} {a : Nat} {e : va_E} {H : Heap} (h : va_at D vwCl (a, e) H) : va_P D vwCl [(a, e)] H := fun k q hq => by
  match k, hq with
  | 0, hq => cases hq; exact h
  | k + 1, hq => simp at hq
theorem RepH.set {D : va_G} {cyt : Nat → ClassId} {lo : Nat} {M : MM} {hi : Nat} {H H' : Heap} {a : Nat} {e : va_E} (h : RepH D cyt lo M hi H) (ha : gA lo a) (he : va_at D vwCl (a, cvE cyt e) H') (z : H'.size = H.size) (oq : ∀ q : Nat, q ≠ a → H'[q]? = H[q]?) : RepH D cyt lo (mset M a e) hi H' := by
  refine ⟨z.trans h.1, fun b e' hb => ?_⟩
  unfold mset at hb
  by_cases hba : b = a
  · subst hba
    rw [if_pos rfl] at hb
    cases hb
    exact ⟨ha, he⟩
  · rw [if_neg hba] at hb
    exact ⟨(h.2 b e' hb).1, (h.2 b e' hb).2.kept (oq b hba)⟩
theorem RepH.push {D : va_G} {cyt : Nat → ClassId} {lo : Nat} {M : MM} {hi : Nat} {H H' : Heap} {e : va_E} (h : RepH D cyt lo M hi H) (ha : lo ≤ hi) (he : va_at D vwCl (hi, cvE cyt e) H') (z : H'.size = hi + 1) (oq : ∀ q : Nat, q < hi → H'[q]? = H[q]?) : RepH D cyt lo (mset M hi e) (hi + 1) H' := by
  refine ⟨z, fun b e' hb => ?_⟩
  unfold mset at hb
  by_cases hba : b = hi
  · subst hba
    rw [if_pos rfl] at hb
    cases hb
    exact ⟨ha, he⟩
  · rw [if_neg hba] at hb
    have hlt : b < H.size := (h.2 b e' hb).2.lt
    exact ⟨(h.2 b e' hb).1, (h.2 b e' hb).2.kept (oq b (by have := h.1; omega))⟩
def va_AOA (t : FieldType) (U : State) : Prop := (Cond.arrayOver (.array t)).before #[] U = true
theorem va_AOA.use {t : FieldType} {A : Array Value} {U : State} (h : va_AOA t U) : (Cond.arrayOver (.array t)).before A U = true := h
theorem va_AOA.moved {t : FieldType} {u U : State} (hvm : u.vm.Alike U.vm) (h : va_AOA t u) : va_AOA t U := by
  obtain ⟨comp, c, k, h1, h2, h3, h4, h5⟩ := arrayOverA_spec h
  obtain ⟨k', hk', he⟩ := hvm.2.2 _ _ h3
  have hb : U.vm.bare = u.vm.bare := by first | exact hvm.bare_eq | exact hvm.bare_eq.symm
  have h22 := (va_idx_bare u.vm comp).trans h2
  have hi : (U.vm.classes.findIdx? fun (x : Class) => match x.kind with | .array component _ => component == comp | _ => false) = some c := (va_idx_bare U.vm comp).symm.trans (by rw [hb]; exact h22)
  have hkind : k'.kind = .array comp (.array t) := by rw [he]; exact h4
  have f1 : U.vm.findClass (FieldType.array t).toString = some comp := by rw [hvm.findClass]; exact h1
  have f2 : U.vm.findClass ("[" ++ (FieldType.array t).toString) = some c := by rw [hvm.findClass]; exact h5
  unfold va_AOA Cond.before Cond.holds
  simp only [Cond.value]
  rw [f1, Option.bind_some]
  refine (congrArg (fun o : Option Nat => (o.bind (fun c => (U.vm.classes[c]?).map fun (k : Class) => match k.kind with | .array _ ty => decide (ty = FieldType.array t) && decide (U.vm.findClass ("[" ++ (FieldType.array t).toString) = some c) | _ => false) == some true)) hi).trans ?_
  simp [hk', hkind, f2]
/-- what the start gives of the cells that were there before, seen over H -/
def KH (G : GT) (lo : Nat) (U : State) (H : Heap) : Prop :=
  (va_X G.1 G.2.1 G.2.2.1 U H ∧ G.1 < H.size ∧ ¬ gA lo G.1) ∧ vx_Zq Bundle.tN "UNASSIGNED_STACK" Bundle.steD (gA lo) U H ∧ vx_Zq Bundle.tN "SUPPRESSED_SENTINEL" Bundle.listD (gA lo) U H ∧
  (∀ q, q ∈ STR → vk_R q.1 q.2.1 (TXT q.2.2) (G.2.2.2.1 q.2.2) U) ∧ (∀ q, q ∈ nwM → va_Nw (.methodLinkNest q.1 q.2.1 q.2.2.1 q.2.2.2) U) ∧ (∀ x, x ∈ nwD → va_Nw (.declares x) U) ∧ (∀ q, q ∈ nwC → va_Nw (.castable q.1 q.2) U) ∧
  ((∀ C, C ∈ nwA → va_AO C U) ∧ (∀ t, t ∈ nwAA → va_AOA t U) ∧ va_Z "java/lang/Integer" "DigitOnes" "[B" (.ref (G.2.2.2.2 nSTR)) (gA lo) U H ∧ va_T .byte (G.2.2.2.2 nSTR) 100 (fun q => .int (digV q)) (gA lo) U H) ∧ (∀ q, q ∈ NC → va_Nc q.1 q.2 U) ∧ vk_S nSTR lensS bytsS G.2.2.2.1 G.2.2.2.2 (gA lo) U H ∧ va_Z "java/lang/String" "COMPACT_STRINGS" "Z" (.int 1) (gA lo) U H ∧ va_Zq "jdk/internal/util/Preconditions" "SIOOBE_FORMATTER" "Ljava/util/function/BiFunction;" (gA lo) U H
theorem KH.same {G : GT} {lo : Nat} {u U : State} {H : Heap} (hv : U.vm = u.vm) (h : KH G lo u H) : KH G lo U H := by
  have ha : u.vm.Alike U.vm := by rw [hv]; exact Vm.Alike.refl _
  obtain ⟨⟨a1, a2, a3⟩, b, c, d, e1, f1, g1, h1, i1, j1, k1, l1⟩ := h
  exact ⟨⟨va_X.moved ha a1, a2, a3⟩, vx_Zq.moved ha b, vx_Zq.moved ha c, fun q hq => vk_R.same hv (d q hq), fun q hq => va_Nw.same rfl hv.symm (e1 q hq), fun q hq => va_Nw.same rfl hv.symm (f1 q hq), fun q hq => va_Nw.same rfl hv.symm (g1 q hq), ⟨fun C hC => va_AO.moved ha (h1.1 C hC), fun t ht => va_AOA.moved ha (h1.2.1 t ht), va_Z.moved ha h1.2.2.1, va_T.moved ha h1.2.2.2⟩, fun q hq => va_Nc.moved ha (i1 q hq), vk_S.moved ha j1, va_Z.moved ha k1, va_Zq.moved ha l1⟩
theorem KH.warm {G : GT} {lo : Nat} {s U : State} {H : Heap} (hW : s.WarmedH U.vm) (h : KH G lo s H) : KH G lo U H := by
  have ha : s.vm.Alike U.vm := hW.alike
  obtain ⟨⟨a1, a2, a3⟩, b, c, d, e1, f1, g1, h1, i1, j1, k1, l1⟩ := h
  exact ⟨⟨va_X.moved ha a1, a2, a3⟩, vx_Zq.moved ha b, vx_Zq.moved ha c, fun q hq => vk_R.warm hW (d q hq), fun q hq => va_Nw.warmM hW (e1 q hq), fun q hq => va_Nw.warmD hW (f1 q hq), fun q hq => va_Nw.warmC hW (g1 q hq), ⟨fun C hC => va_AO.moved ha (h1.1 C hC), fun t ht => va_AOA.moved ha (h1.2.1 t ht), va_Z.moved ha h1.2.2.1, va_T.moved ha h1.2.2.2⟩, fun q hq => va_Nc.moved ha (i1 q hq), vk_S.moved ha j1, va_Z.moved ha k1, va_Zq.moved ha l1⟩
theorem KH.kept {G : GT} {lo : Nat} {U : State} {H H1 : Heap} (h : KH G lo U H) (hs : H.size ≤ H1.size) (hq : ∀ a : Nat, a < H.size → ¬ gA lo a → H1[a]? = H[a]?) : KH G lo U H1 := by
  obtain ⟨⟨a1, a2, a3⟩, b, c, d, e1, f1, g1, h1, i1, j1, k1, l1⟩ := h
  exact ⟨⟨va_X.kept a1 (hq _ a2 a3), Nat.lt_of_lt_of_le a2 hs, a3⟩, vx_Zq.kept b hq, vx_Zq.kept c hq, d, e1, f1, g1, ⟨h1.1, h1.2.1, va_Z.kept h1.2.2.1 hq, va_T.kept h1.2.2.2 hq⟩, i1, vk_S.kept j1 hq, va_Z.kept k1 hq, va_Zq.kept l1 hq⟩
theorem KH.go {G : GT} {lo : Nat} {s U : State} {H : Heap} {locs : List Loc} (h : KH G lo s s.heap) (hW : s.WarmedH U.vm) (hS : va_S (gA lo) s.heap H locs) : KH G lo U H := (h.warm hW).kept hS.1 hS.2.1
def RM (f mc ms : Nat) : Room := { frames := f, cells := mc, slots := ms, locals := 39 * f }
def PcM (G : GT) (D : va_G) (cyt : Nat → ClassId) (lo : Nat) (As : List Value) (M : MM) (hi : Nat) : Array Value → State → Prop := fun a U => a = As.toArray ∧ RepH D cyt lo M hi U.heap ∧ va_K D vwCl (TYL cyt) U ∧ KH G lo U U.heap ∧ lo ≤ U.heap.size
def QcM (D : va_G) (cyt : Nat → ClassId) (lo : Nat) (P : PS) : Array Value → State → Outcome → State → Prop := fun _ st o t => ∃ (v : Option Value) (M2 : MM) (hi2 : Nat), o = .returned v ∧ P (.inl v) M2 hi2 ∧ RepH D cyt lo M2 hi2 t.heap ∧ va_F (gA lo) st t
def XcM (D : va_G) (cyt : Nat → ClassId) (lo : Nat) (P : PS) : String → State → State → Prop := fun E st t => ∃ (M2 : MM) (hi2 : Nat), P (.inr E) M2 hi2 ∧ RepH D cyt lo M2 hi2 t.heap ∧ va_F (gA lo) st t
theorem blindM {G : GT} {D : va_G} {cyt : Nat → ClassId} {lo : Nat} {As : List Value} {M : MM} {hi : Nat} : FrameBlind (PcM G D cyt lo As M hi) := fun a U g mk h => ⟨h.1, h.2.1, va_K.moved (u := U) (U := U.calling g mk a) (Vm.Alike.refl U.vm) h.2.2.1, KH.same (u := U) (U := U.calling g mk a) rfl h.2.2.2.1, h.2.2.2.2⟩
def okw (w : Cond) : Prop := w ∈ TB ∨ (∃ x ∈ nwD, w = .declares x) ∨ ∃ q ∈ nwC, w = .castable q.1 q.2
def okb (w : Cond) : Bool := (goodWord w && decide (w ∈ tables_1)) || match w with
  | .declares x => decide (x ∈ nwD)
  | .castable a b => decide ((a, b) ∈ nwC)
  | _ => false
theorem okw_of {w : Cond} (h : okb w = true) : okw w := by
  unfold okb at h
  rw [Bool.or_eq_true, Bool.and_eq_true] at h
  rcases h with ⟨h1, h2⟩ | h
  · exact Or.inl (List.mem_filter.mpr ⟨List.mem_append_right _ (List.mem_append_right _ (of_decide_eq_true h2)), h1⟩)
  · split at h
    · exact Or.inr (Or.inl ⟨_, of_decide_eq_true h, rfl⟩)
    · exact Or.inr (Or.inr ⟨_, of_decide_eq_true h, rfl⟩)
    · cases h
theorem ot_good {w : Cond} (h : goodWord w = true) : vx_ot w = true := by unfold vx_ot; rw [h, Bool.or_true]
theorem okw_ot {w : Cond} (h : okw w) : vx_ot w = true := by
  rcases h with h | ⟨x, -, rfl⟩ | ⟨q, -, rfl⟩
  · exact ot_good (tb_good _ h)
  · rfl
  · rfl
/-- a throw's words but the one of the constructor's own pool entry -/
def atA (E : String) : List Cond := Bundle.throwableAtoms ++ Bundle.throwableSAtoms ++ Bundle.chainSAtoms E XN
def atT (E : String) : List Cond := ((Bundle.ownAtoms "" 0 E XN).drop (atA E).length).tail
theorem at_ex (E : String) : ∃ T : List Cond, ∀ (own : String) (ic : Nat), Bundle.ownAtoms own ic E XN = atA E ++ .methodLink own ic (Bundle.initS E) :: T := ⟨_, fun _ _ => rfl⟩
def atX (E : String) : List Cond := atA E ++ atT E
theorem at_E0 : (atX "java/lang/IllegalStateException").all (fun w => !(vx_no w) || okb w) = true := by decide +kernel
theorem at_E1 : (atX "java/lang/IllegalArgumentException").all (fun w => !(vx_no w) || okb w) = true := by decide +kernel
theorem at_E2 : (atX "java/lang/IndexOutOfBoundsException").all (fun w => !(vx_no w) || okb w) = true := by decide +kernel
theorem at_in {own : String} {ic : Nat} {E : String} {w : Cond} (h : w ∈ Bundle.ownAtoms own ic E XN) : w = .methodLink own ic (Bundle.initS E) ∨ w ∈ atX E := by
  obtain ⟨T, hT⟩ := at_ex E
  have e : atT E = T := by
    unfold atT
    rw [hT "" 0, List.drop_left]
    rfl
  rw [hT own ic] at h
  unfold atX
  rw [e]
  rcases List.mem_append.mp h with h | h
  · exact Or.inr (List.mem_append_left _ h)
  · rcases List.mem_cons.mp h with h | h
    · exact Or.inl h
    · exact Or.inr (List.mem_append_right _ h)
theorem xn_fit : ∀ n ∈ XN, Bundle.fit n = true := by decide +kernel
theorem exs_ok {E own : String} {ic : Nat} (hE : E ∈ EX3) (w2 : Cond.methodLink own ic (Bundle.initS E) ∈ TB) : Bundle.fit E = true ∧ (∀ w ∈ vx_atS own ic E XN, okw w) ∧ (Cond.initialized E ∈ TB ∧ True) := by
  have key : (atX E).all (fun w => !(vx_no w) || okb w) = true → ∀ w ∈ vx_atS own ic E XN, okw w := by
    intro h w hw
    obtain ⟨h1, h2⟩ := List.mem_filter.mp hw
    rcases at_in h1 with rfl | h3
    · exact Or.inl w2
    · have h4 := List.all_eq_true.mp h w h3
      rw [h2] at h4
      exact okw_of h4
  simp only [EX3, List.mem_cons, List.not_mem_nil, or_false] at hE
  rcases hE with rfl | rfl | rfl
  · exact ⟨by decide +kernel, key at_E0, tw_27, trivial⟩
  · exact ⟨by decide +kernel, key at_E1, tw_26, trivial⟩
  · exact ⟨by decide +kernel, key at_E2, tw_29, trivial⟩
theorem goodIn_ws {cw : Cond} (h : cw ∈ TB) : GoodIn TB (cw :: TB) := fun w hw => by
  have h9 : w ∈ TB := by rcases List.mem_cons.mp hw with rfl | h2; exact h; exact h2
  exact ⟨h9, good_of_word (tb_good w h9)⟩
theorem goodIn_wsV {own : String} {idx : Nat} {y : MethodName} {cw : Cond} (w1 : Cond.methodLink own idx y ∈ TB) (w2 : Cond.instanceMethod y ∈ TB) (w3 : Cond.selects y.cls y y ∈ TB) (w4 : Cond.initialized y.cls ∈ TB) (h : cw ∈ TB) : GoodIn TB (wsV own idx y.cls y (cw :: TB)) := fun w hw => by
  have h9 : w ∈ TB := by
    simp only [wsV, List.cons_append, List.nil_append, List.mem_cons] at hw
    rcases hw with rfl | rfl | rfl | rfl | rfl | h2 <;> assumption
  exact ⟨h9, good_of_word (tb_good w h9)⟩
theorem goodIn_wsU {own CR : String} {idx : Nat} {y : MethodName} {cw : Cond} (w1 : Cond.methodLink own idx y ∈ TB) (w2 : Cond.sameMethod y.cls y.cls y.name y.desc ∈ TB) (w3 : Cond.selects CR y y ∈ TB) (w4 : Cond.instanceMethod y ∈ TB) (w5 : Cond.initialized y.cls ∈ TB) (h : cw ∈ TB) : GoodIn TB (va_wsU own idx CR y.cls y y (cw :: TB)) := fun w hw => by
  have h9 : w ∈ TB := by
    simp only [va_wsU, List.cons_append, List.nil_append, List.mem_cons] at hw
    rcases hw with rfl | rfl | rfl | rfl | rfl | rfl | h2 <;> assumption
  exact ⟨h9, good_of_word (tb_good w h9)⟩
theorem goodIn_wsO {own CR : String} {idx : Nat} {xn y : MethodName} {cw : Cond} (w1 : Cond.methodLink own idx xn ∈ TB) (w2 : Cond.sameMethod xn.cls xn.cls xn.name xn.desc ∈ TB) (w3 : Cond.instanceMethod xn ∈ TB) (w4 : Cond.selects CR xn y ∈ TB) (w5 : Cond.instanceMethod y ∈ TB) (w6 : Cond.initialized y.cls ∈ TB) (h : cw ∈ TB) : GoodIn TB (va_wsO own idx CR xn.cls xn y (cw :: TB)) := fun w hw => by
  have h9 : w ∈ TB := by
    simp only [va_wsO, List.cons_append, List.nil_append, List.mem_cons] at hw
    rcases hw with rfl | rfl | rfl | rfl | rfl | rfl | rfl | h2 <;> assumption
  exact ⟨h9, good_of_word (tb_good w h9)⟩
theorem goodIn_wsSU {own : String} {idx : Nat} {y : MethodName} {cw : Cond} (w1 : Cond.methodLink own idx y ∈ TB) (w2 : Cond.sameMethod y.cls y.cls y.name y.desc ∈ TB) (w3 : Cond.superclass own y.cls ∈ TB) (w4 : Cond.instanceMethod y ∈ TB) (w5 : Cond.initialized y.cls ∈ TB) (h : cw ∈ TB) : GoodIn TB (va_wsSU own idx y (cw :: TB)) := fun w hw => by
  have h9 : w ∈ TB := by
    simp only [va_wsSU, List.cons_append, List.nil_append, List.mem_cons] at hw
    rcases hw with rfl | rfl | rfl | rfl | rfl | rfl | h2 <;> assumption
  exact ⟨h9, good_of_word (tb_good w h9)⟩
theorem goodIn_vaS {own : String} {idx : Nat} {y : MethodName} {cw : Cond} (w1 : Cond.methodLink own idx y ∈ TB) (w2 : Cond.static y ∈ TB) (w4 : Cond.initialized y.cls ∈ TB) (h : cw ∈ TB) : GoodIn TB (va_wsS own idx y (cw :: TB)) := fun w hw => by
  have h9 : w ∈ TB := by
    simp only [va_wsS, List.cons_append, List.nil_append, List.mem_cons] at hw
    rcases hw with rfl | rfl | rfl | rfl | h2 <;> assumption
  exact ⟨h9, good_of_word (tb_good w h9)⟩
theorem met_of_vx {l : Launch} {y : MethodName} {ws : List Cond} {rm : Room} {Pc : Array Value → State → Prop} {Qc : Array Value → State → Outcome → State → Prop} {XC : String → State → State → Prop} {mc ms : Nat} {free : Addr → Prop} (h : vx_Met l y ws rm Pc Qc XC mc ms free) (hx : ∀ E st t, ¬ XC E st t) : Met l y ws rm Pc Qc mc ms free := by
  intro p e ha hc hk s m args below hf happ hP hK
  obtain ⟨n, o, h1, h2, h3, h4⟩ := h p e ha hc hk s m args below hf happ hP hK
  refine ⟨n, o, h1, h2, h3, ?_⟩
  rcases h4 with h4 | ⟨q, _, E, _, _, hxx, _⟩
  · exact h4
  · exact absurd hxx (hx E _ _)
section CopyRow
variable {p : Program} {l : Launch} {e : Env} {R : Room} {s : State} {m : MethodId} {args : Array Value} {below : List Frame} {meth : Method} {c : Code} {H : Heap} {locs : List Loc} {cells slots : Nat} {Q : State → Prop} {pc : Nat} {ls : Array Slot} {rest : List Value}
theorem w_copy {cc : ByteArray} (hexec : p.tables.exec = Jvm.exec) (hb : c.code = cc) (hml : c.maxLocals = ls.size) {own : String} {index : Nat} (hown : s.vm.findClass own = some m.cls) (hlink : (Cond.methodLink own index arraycopyName).before args s = true) (hnat : (Cond.native arraycopyName).before args s = true) (hstat : (Cond.static arraycopyName).before args s = true) (hini : (Cond.initialized "java/lang/System").before args s = true)
    {a0 a n0 n1 : Nat} {cs : Cell} {cA : ClassId} {f0 g : Nat → Int32} {sp dp n : Int32} (hcs : H[a0]? = some cs) (hs : s.isArrayOf cs .byte) (hsn : cs.vm ≠ .unknown) (hsz : n0 ≤ cs.slots.size) (hval : ∀ j : Nat, j < n0 → cs.slots[j]? = some (.int (f0 j)))
    (ha : H[a]? = some (vp_cell cA (n1, .inl g))) (hA : ArrOfT s cA .byte) (h1 : ¬ sp < 0) (h2 : ¬ dp < 0) (h3 : ¬ n < 0) (h4 : sp.toNatClampNeg + n.toNatClampNeg ≤ n0) (h5 : dp.toNatClampNeg + n.toNatClampNeg ≤ n1) (hfit : ∀ i, i < n.toNatClampNeg → fits .byte (.int (f0 (sp.toNatClampNeg + i))) = true)
    (hframes : 1 ≤ R.frames) (hlocals : (rest.map fun v => v.category).sum + (nativeFrameWords "java/lang/System" "arraycopy" 5 + 11) ≤ R.locals) (hdg : decode cc pc = .ok (.invokestatic index, 3))
    (kk : ∀ (H1 : Heap) (locs1 : List Loc), H1[a]? = some (vp_cell cA (n1, .inl (va_cpy f0 g sp.toNatClampNeg dp.toNatClampNeg n.toNatClampNeg))) → H1.size = H.size → (∀ q : Nat, q ≠ a → H1[q]? = H[q]?) → (∀ x ∈ locs1, x ∈ locs ∨ x.base = a) → W p l e R s m args below meth c H1 locs1 cells slots Q (F0 m (pc + 3) ls rest)) : W p l e R s m args below meth c H locs cells slots Q (F0 m pc ls (.int n :: .int dp :: .ref a :: .int sp :: .ref a0 :: rest)) := by
  have nn : ∀ z : Int32, ¬ z < 0 → z.toInt = (z.toNatClampNeg : Int) := by
    intro z hz
    have hz0 : (0 : Int) ≤ z.toInt := by
      have := Int32.not_lt.mp hz
      simpa using Int32.le_iff_toInt_le.mp this
    show z.toInt = ((z.toInt.toNat : Nat) : Int)
    omega
  intro T hT X
  obtain ⟨hs6, k0, hk0, cm0, hkk0⟩ := hs
  obtain ⟨-, k1, hk1, cm1, hkk1⟩ := hA n1 (fun j => .int (g j))
  obtain ⟨vm', X', step⟩ := X.arraycopy hexec hown hlink hnat hstat hini (src := a0) (dst := a) (cs := cs) (cd := vp_cell cA (n1, .inl g)) (srcPos := sp) (destPos := dp) (n := n) (by rw [hT]; exact hcs) (by rw [hT]; exact ha)
    hs6 (fun _ h => by cases h) hsn (fun h => by cases h) hk0 hk1 hkk0 hkk1 (by decide) h1 h2 h3
    (by rw [nn sp h1, nn n h3]; omega)
    (by rw [nn dp h2, nn n h3]; show ¬ _ > ((arrV cA n1 (fun j => .int (g j))).slots.size : Int); rw [arrV_size]; omega)
    (fun vm₁ _ i hi => by
      have e9 : cs.slots.getD (sp.toNatClampNeg + i) .null = .int (f0 (sp.toNatClampNeg + i)) := by
        rw [Array.getD_eq_getD_getElem?, hval _ (by omega)]
        rfl
      refine ⟨?_, ?_⟩
      · rw [e9]
        exact hfit i hi
      · rw [e9]
        exact trivial)
    (g := F0 m pc ls (.int n :: .int dp :: .ref a :: .int sp :: .ref a0 :: rest)) rfl (by rw [hml]) (rest := rest) rfl (by rw [hb]; exact hdg) hframes (by show 2 * 0 + _ + _ ≤ _; omega)
  have e1 : copied cs (vp_cell cA (n1, .inl g)) sp dp n = vp_cell cA (n1, .inl (va_cpy f0 g sp.toNatClampNeg dp.toNatClampNeg n.toNatClampNeg)) := by
    have e2 : cs.stretch sp.toNatClampNeg n.toNatClampNeg = (arrV cA n0 (fun j => .int (f0 j))).stretch sp.toNatClampNeg n.toNatClampNeg := by
      unfold Cell.stretch
      apply List.map_congr_left
      intro i hi
      have hi2 := List.mem_range.mp hi
      rw [Array.getD_eq_getD_getElem?, Array.getD_eq_getD_getElem?, hval _ (by omega), arrV_read _ _ (by omega)]
    have e3 := va_copied (fun z => .int z) cA cA (n1 := n1) (dp := dp.toNatClampNeg) f0 g h4
    rw [← e2] at e3
    exact e3
  rw [e1] at X' step
  have hl : a < H.size := (Array.getElem?_eq_some_iff.mp ha).1
  have hheap : ((T.setVm vm').setCell a (vp_cell cA (n1, .inl (va_cpy f0 g sp.toNatClampNeg dp.toNatClampNeg n.toNatClampNeg)))).heap = H.setIfInBounds a (vp_cell cA (n1, .inl (va_cpy f0 g sp.toNatClampNeg dp.toNatClampNeg n.toNatClampNeg))) := by rw [← hT]; rfl
  have oq : ∀ q : Nat, q ≠ a → (H.setIfInBounds a (vp_cell cA (n1, .inl (va_cpy f0 g sp.toNatClampNeg dp.toNatClampNeg n.toNatClampNeg))))[q]? = H[q]? := fun q hq => by simp [Array.getElem?_setIfInBounds, Ne.symm hq]
  obtain ⟨t, a1, b1⟩ := kk _ _ (show (H.setIfInBounds a _)[a]? = some _ by simp [Array.getElem?_setIfInBounds, hl]) (by simp) oq (fun x hx => by
      rcases List.mem_append.mp hx with h | h
      · exact Or.inl h
      · obtain ⟨z, -, hz⟩ := List.mem_map.mp h
        exact Or.inr (by rw [← hz])) _ hheap X'
  exact ⟨t, step t a1, b1⟩
end CopyRow
