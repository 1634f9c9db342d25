section Sound
variable {p : Program} {l : Launch} {e : Env} {R : Room} {s : State} {m : MethodId} {args : Array Value} {below : List Frame} {meth : Method} {c : Code}
variable {G : GT} {D : va_G} {cyt : Nat → ClassId} {lo : Nat} {md : MD} {f : Nat} {call : CT} {P0 : PS} {CK SK : Nat} {Qt : State → Prop}
def BF (p : Program) (l : Launch) (R : Room) (s : State) (m : MethodId) (args : Array Value) (meth : Method) (c : Code) (G : GT) (D : va_G) (cyt : Nat → ClassId) (lo : Nat) (md : MD) (f CK SK : Nat) : Prop :=
  p.tables.exec = Jvm.exec ∧ c.code = md.2.1 ∧ c.maxLocals = md.2.2.1 ∧ s.vm.findClass md.1.cls = some m.cls ∧ (∀ w ∈ TB, w.before args s = true) ∧ meth.locks = false ∧ meth.sig.returnType = md.2.2.2.1 ∧ (md.1.name = "<init>" → meth.name = "<init>") ∧ c.exceptionTable.toList = tableOf md.2.2.2.2 ∧ va_K D vwCl (TYL cyt) s ∧ KH G lo s s.heap ∧ lo ≤ s.heap.size ∧ f ≤ R.frames ∧ 39 * f ≤ R.locals ∧ CK ≤ R.cells ∧ SK ≤ R.slots ∧ l.stackTraces = false
theorem BF.hx (B : BF p l R s m args meth c G D cyt lo md f CK SK) : p.tables.exec = Jvm.exec := B.1
theorem BF.hb (B : BF p l R s m args meth c G D cyt lo md f CK SK) : c.code = md.2.1 := B.2.1
theorem BF.ml (B : BF p l R s m args meth c G D cyt lo md f CK SK) : c.maxLocals = md.2.2.1 := B.2.2.1
theorem BF.own (B : BF p l R s m args meth c G D cyt lo md f CK SK) : s.vm.findClass md.1.cls = some m.cls := B.2.2.2.1
theorem BF.hts (B : BF p l R s m args meth c G D cyt lo md f CK SK) : ∀ w ∈ TB, w.before args s = true := B.2.2.2.2.1
theorem BF.lk (B : BF p l R s m args meth c G D cyt lo md f CK SK) : meth.locks = false := B.2.2.2.2.2.1
theorem BF.ret (B : BF p l R s m args meth c G D cyt lo md f CK SK) : meth.sig.returnType = md.2.2.2.1 := B.2.2.2.2.2.2.1
theorem BF.ini (B : BF p l R s m args meth c G D cyt lo md f CK SK) : md.1.name = "<init>" → meth.name = "<init>" := B.2.2.2.2.2.2.2.1
theorem BF.tbl (B : BF p l R s m args meth c G D cyt lo md f CK SK) : c.exceptionTable.toList = tableOf md.2.2.2.2 := B.2.2.2.2.2.2.2.2.1
theorem BF.hK (B : BF p l R s m args meth c G D cyt lo md f CK SK) : va_K D vwCl (TYL cyt) s := B.2.2.2.2.2.2.2.2.2.1
theorem BF.kh (B : BF p l R s m args meth c G D cyt lo md f CK SK) : KH G lo s s.heap := B.2.2.2.2.2.2.2.2.2.2.1
theorem BF.lo0 (B : BF p l R s m args meth c G D cyt lo md f CK SK) : lo ≤ s.heap.size := B.2.2.2.2.2.2.2.2.2.2.2.1
theorem BF.fr (B : BF p l R s m args meth c G D cyt lo md f CK SK) : f ≤ R.frames := B.2.2.2.2.2.2.2.2.2.2.2.2.1
theorem BF.lc (B : BF p l R s m args meth c G D cyt lo md f CK SK) : 39 * f ≤ R.locals := B.2.2.2.2.2.2.2.2.2.2.2.2.2.1
theorem BF.rc (B : BF p l R s m args meth c G D cyt lo md f CK SK) : CK ≤ R.cells := B.2.2.2.2.2.2.2.2.2.2.2.2.2.2.1
theorem BF.rs (B : BF p l R s m args meth c G D cyt lo md f CK SK) : SK ≤ R.slots := B.2.2.2.2.2.2.2.2.2.2.2.2.2.2.2.1
theorem BF.nst (B : BF p l R s m args meth c G D cyt lo md f CK SK) : l.stackTraces = false := B.2.2.2.2.2.2.2.2.2.2.2.2.2.2.2.2
theorem BF.lo_le (B : BF p l R s m args meth c G D cyt lo md f CK SK) {x : Nat} (h : s.heap.size ≤ x) : lo ≤ x := Nat.le_trans B.lo0 h
theorem BF.scr (B : BF p l R s m args meth c G D cyt lo md f CK SK) : va_X G.1 G.2.1 G.2.2.1 s s.heap := B.kh.1.1
theorem BF.scrl (B : BF p l R s m args meth c G D cyt lo md f CK SK) : G.1 < s.heap.size := B.kh.1.2.1
theorem BF.scrA (B : BF p l R s m args meth c G D cyt lo md f CK SK) : ¬ gA lo G.1 := B.kh.1.2.2
theorem BF.str (B : BF p l R s m args meth c G D cyt lo md f CK SK) {own : String} {idx j : Nat} (h : (own, idx, j) ∈ STR) : vk_R own idx (TXT j) (G.2.2.2.1 j) s := B.kh.2.2.2.1 _ h
theorem BF.sS (B : BF p l R s m args meth c G D cyt lo md f CK SK) {j : Nat} (h : j < nSTR) : va_O "java/lang/String" (G.2.2.2.1 j) (gA lo) s s.heap ∧ va_OF "java/lang/String" "coder" "B" (.int 0) (G.2.2.2.1 j) (gA lo) s s.heap ∧ va_OF "java/lang/String" "value" "[B" (.ref (G.2.2.2.2 j)) (G.2.2.2.1 j) (gA lo) s s.heap ∧ va_T .byte (G.2.2.2.2 j) (lenS j) (fun q => .int (chS j q)) (gA lo) s s.heap := B.kh.2.2.2.2.2.2.2.2.2.1.1 j h
theorem BF.nest (B : BF p l R s m args meth c G D cyt lo md f CK SK) {own host : String} {idx : Nat} {y : MethodName} (h : (own, idx, y, host) ∈ nwM) : va_Nw (.methodLinkNest own idx y host) s := B.kh.2.2.2.2.1 _ h
theorem BF.over (B : BF p l R s m args meth c G D cyt lo md f CK SK) {C : String} (h : C ∈ nwA) : va_AO C s := B.kh.2.2.2.2.2.2.2.1.1 _ h
theorem BF.overA (B : BF p l R s m args meth c G D cyt lo md f CK SK) {t : FieldType} (h : t ∈ nwAA) : (Cond.arrayOver (.array t)).before args s = true := va_AOA.use (B.kh.2.2.2.2.2.2.2.1.2.1 _ h)
theorem BF.dig (B : BF p l R s m args meth c G D cyt lo md f CK SK) : va_Z "java/lang/Integer" "DigitOnes" "[B" (.ref (G.2.2.2.2 nSTR)) (gA lo) s s.heap ∧ va_T .byte (G.2.2.2.2 nSTR) 100 (fun q => .int (digV q)) (gA lo) s s.heap := B.kh.2.2.2.2.2.2.2.1.2.2
theorem BF.nc (B : BF p l R s m args meth c G D cyt lo md f CK SK) {E nm : String} (h : (E, nm) ∈ NC) : va_Nc E nm s := B.kh.2.2.2.2.2.2.2.2.1 _ h
theorem BF.cst (B : BF p l R s m args meth c G D cyt lo md f CK SK) {E nm : String} (h : (E, nm) ∈ nwC) : (Cond.castable E nm).before args s = true := va_Nw.use rfl (B.kh.2.2.2.2.2.2.1 _ h)
theorem BF.atS (B : BF p l R s m args meth c G D cyt lo md f CK SK) {w : Cond} (h : okw w) : w.before args s = true := by
  rcases h with h | ⟨x, hx, rfl⟩ | ⟨q, hq, rfl⟩
  · exact B.hts _ h
  · exact va_Nw.use rfl (B.kh.2.2.2.2.2.1 _ hx)
  · exact B.cst hq
def WX (p : Program) (l : Launch) (e : Env) (R : Room) (s : State) (m : MethodId) (args : Array Value) (below : List Frame) (meth : Method) (c : Code) (G : GT) (D : va_G) (cyt : Nat → ClassId) (lo : Nat) (md : MD) (CK SK : Nat) (Qt : State → Prop) : XT := fun pc lv st M hi k n => ∀ (H : Heap) (locs : List Loc) (cells slots : Nat) (ls : Array Slot), (lv_has ls md.2.2.1 lv ∧ RepH D cyt lo M hi H ∧ va_S (gA lo) s.heap H locs ∧ cells + k ≤ CK ∧ slots + n ≤ SK) → W p l e R s m args below meth c H locs cells slots Qt (F0 m pc ls st)
def HCt (l : Launch) (G : GT) (D : va_G) (cyt : Nat → ClassId) (lo f : Nat) (call : CT) : Prop := ∀ (md2 : MD) (As : List Value) (M : MM) (hi k2 n2 : Nat) (P : PS) (nn : Nat), call md2 As M hi k2 n2 P → MOK md2 nn → 1 ≤ f ∧ vx_Met l md2.1 (codeW md2 :: TB) (RM (f - 1) k2 n2) (PcM G D cyt lo As M hi) (QcM D cyt lo P) (XcM D cyt lo P) k2 n2 (gA lo)
def HOt (p : Program) (l : Launch) (e : Env) (R : Room) (s : State) (m : MethodId) (args : Array Value) (below : List Frame) (meth : Method) (c : Code) (D : va_G) (cyt : Nat → ClassId) (lo : Nat) (md : MD) (P0 : PS) (CK SK : Nat) (Qt : State → Prop) : Prop := ∀ (pc : Nat) (lv : List (Nat × Value)) (M : MM) (hi k n : Nat) (E : String) (H : Heap) (locs : List Loc) (cells slots : Nat) (ls : Array Slot) (rest : List Value) (q : Nat) (ce : Cell), md.2.2.2.2 = [] → P0 (.inr E) M hi → (lv_has ls md.2.2.1 lv ∧ RepH D cyt lo M hi H ∧ va_S (gA lo) s.heap H locs ∧ cells + k ≤ CK ∧ slots + n ≤ SK) → H[q]? = some ce → ce.vm = .none → s.vm.findClass E = some ce.cls → vx_W p l e R s m args below meth c H locs cells slots Qt (F0 m pc ls rest) q
theorem run_use {P : PS} {mc ms : Nat} {a : Array Value} {rest st0 : List Value} {H : Heap} {locs : List Loc} {cells slots pc : Nat} {ls : Array Slot}
    (hr : vx_Run p l e R s m args below meth c H locs cells slots mc ms (F0 m pc ls st0) rest (QcM D cyt lo P a) (XcM D cyt lo P) (gA lo)) (hS : va_S (gA lo) s.heap H locs)
    (kk : ∀ (v : Option Value) (M2 : MM) (hi2 : Nat) (H1 : Heap) (locs1 : List Loc), P (.inl v) M2 hi2 → RepH D cyt lo M2 hi2 H1 → va_S (gA lo) s.heap H1 locs1 → W p l e R s m args below meth c H1 locs1 (cells + mc) (slots + ms) Qt (F0 m (pc + 3) ls (v.toList ++ rest)))
    (kx : ∀ (E : String) (ce : Cell) (q : Nat) (M2 : MM) (hi2 : Nat) (H1 : Heap) (locs1 : List Loc), P (.inr E) M2 hi2 → RepH D cyt lo M2 hi2 H1 → va_S (gA lo) s.heap H1 locs1 → H1[q]? = some ce → ce.vm = .none → s.vm.findClass E = some ce.cls → vx_W p l e R s m args below meth c H1 locs1 (cells + mc) (slots + ms) Qt (F0 m pc ls rest) q) :
    W p l e R s m args below meth c H locs cells slots Qt (F0 m pc ls st0) := by
  intro T hT X
  rcases hr T hT X with ⟨v, st₀, t, T', L, h0, X', hL, e1, e2, ⟨v', M2, hi2, hv, hp, hrep, hF⟩, st⟩ | ⟨q, st₀, t, T', L, E, ce, h0, X', hL, e1, e2, ⟨M2, hi2, hp, hrep, hF⟩, hce, hcv, hcl, st⟩
  · cases hv
    obtain ⟨k1, k2, k3⟩ := vx_keep h0 e1 hS (fun _ _ h => h) (fun _ h => h) hL hF
    obtain ⟨t2, a1, b1⟩ := kk _ M2 hi2 T'.heap (locs ++ L) hp (by rw [e1]; exact hrep) k3 T' rfl X'
    exact ⟨t2, st t2 a1, b1⟩
  · obtain ⟨k1, k2, k3⟩ := vx_keep h0 e1 hS (fun _ _ h => h) (fun _ h => h) hL hF
    obtain ⟨t2, a1, b1⟩ := kx E ce q M2 hi2 T'.heap (locs ++ L) hp (by rw [e1]; exact hrep) k3 (by rw [e1]; exact hce) hcv hcl T' rfl X'
    exact ⟨t2, st.trans a1, b1⟩
theorem run_useI {P : PS} {mc ms : Nat} {a : Array Value} {rest st0 : List Value} {H : Heap} {locs : List Loc} {cells slots pc : Nat} {ls : Array Slot}
    (hr : va_Run p l e R s m args below meth c H locs cells slots mc ms (F0 m pc ls st0) rest (QcM D cyt lo P a) (gA lo)) (hS : va_S (gA lo) s.heap H locs)
    (kk : ∀ (v : Option Value) (M2 : MM) (hi2 : Nat) (H1 : Heap) (locs1 : List Loc), P (.inl v) M2 hi2 → RepH D cyt lo M2 hi2 H1 → va_S (gA lo) s.heap H1 locs1 → W p l e R s m args below meth c H1 locs1 (cells + mc) (slots + ms) Qt (F0 m (pc + 3) ls (v.toList ++ rest))) :
    W p l e R s m args below meth c H locs cells slots Qt (F0 m pc ls st0) := by
  intro T hT X
  obtain ⟨v, st₀, t, T', L, h0, X', hL, e1, e2, ⟨v', M2, hi2, hv, hp, hrep, hF⟩, st⟩ := hr T hT X
  cases hv
  obtain ⟨k1, k2, k3⟩ := vx_keep h0 e1 hS (fun _ _ h => h) (fun _ h => h) hL hF
  obtain ⟨t2, a1, b1⟩ := kk _ M2 hi2 T'.heap (locs ++ L) hp (by rw [e1]; exact hrep) k3 T' rfl X'
  exact ⟨t2, st t2 a1, b1⟩
theorem th_sound (B : BF p l R s m args meth c G D cyt lo md f CK SK) (HO : HOt p l e R s m args below meth c D cyt lo md P0 CK SK Qt) {pc : Nat} {lv : List (Nat × Value)} {M : MM} {hi k n : Nat} {E : String} (h : TH md P0 (WX p l e R s m args below meth c G D cyt lo md CK SK Qt) pc lv M hi k n E)
    {H : Heap} {locs : List Loc} {cells slots : Nat} {ls : Array Slot} {rest : List Value} {q : Nat} {ce : Cell} (C : lv_has ls md.2.2.1 lv ∧ RepH D cyt lo M hi H ∧ va_S (gA lo) s.heap H locs ∧ cells + k ≤ CK ∧ slots + n ≤ SK) (hce : H[q]? = some ce) (hcv : ce.vm = .none) (hcl : s.vm.findClass E = some ce.cls) : vx_W p l e R s m args below meth c H locs cells slots Qt (F0 m pc ls rest) q := by
  rcases h with ⟨h1, h2⟩ | ⟨pre, x, suf, nm, hsp, hpass, hx, h0, hl, hcst, hk⟩
  · exact HO pc lv M hi k n E H locs cells slots ls rest q ce h1 h2 C hce hcv hcl
  · refine vx_catch (own := md.1.cls) (name := nm) B.own (tableOf pre) ⟨x.1, x.2.1, x.2.2.1, x.2.2.2⟩ (tableOf suf) (by rw [B.tbl, hsp]; simp [tableOf]) (fun z hz => ?_) hx h0 (B.hts _ hl) (B.cst hcst) hce hcv hcl (hk q H locs cells slots ls C)
    obtain ⟨y, hy, rfl⟩ := List.mem_map.mp hz
    rcases hpass y hy with h | ⟨h, nz, h3, h4⟩
    · exact Or.inl h
    · exact Or.inr ⟨h, nz, B.hts _ h3, B.nc h4⟩
theorem run_useM {P : PS} {mc ms : Nat} {a : Array Value} {rest st0 : List Value} {H : Heap} {locs : List Loc} {cells slots pc : Nat} {ls : Array Slot}
    (hr : vx_Run p l e R s m args below meth c H locs cells slots mc ms (F0 m pc ls st0) rest (QcM D cyt lo P a) (XcM D cyt lo P) (gA lo)) (hS : va_S (gA lo) s.heap H locs)
    (kk : ∀ (v : Option Value) (M2 : MM) (hi2 : Nat) (H1 : Heap) (locs1 : List Loc), H.size ≤ H1.size → P (.inl v) M2 hi2 → RepH D cyt lo M2 hi2 H1 → va_S (gA lo) s.heap H1 locs1 → W p l e R s m args below meth c H1 locs1 (cells + mc) (slots + ms) Qt (F0 m (pc + 3) ls (v.toList ++ rest)))
    (kx : ∀ (E : String) (ce : Cell) (q : Nat) (M2 : MM) (hi2 : Nat) (H1 : Heap) (locs1 : List Loc), H.size ≤ H1.size → P (.inr E) M2 hi2 → RepH D cyt lo M2 hi2 H1 → va_S (gA lo) s.heap H1 locs1 → H1[q]? = some ce → ce.vm = .none → s.vm.findClass E = some ce.cls → vx_W p l e R s m args below meth c H1 locs1 (cells + mc) (slots + ms) Qt (F0 m pc ls rest) q) :
    W p l e R s m args below meth c H locs cells slots Qt (F0 m pc ls st0) := by
  intro T hT X
  rcases hr T hT X with ⟨v, st₀, t, T', L, h0, X', hL, e1, e2, ⟨v', M2, hi2, hv, hp, hrep, hF⟩, st⟩ | ⟨q, st₀, t, T', L, E, ce, h0, X', hL, e1, e2, ⟨M2, hi2, hp, hrep, hF⟩, hce, hcv, hcl, st⟩
  · cases hv
    obtain ⟨k1, k2, k3⟩ := vx_keep h0 e1 hS (fun _ _ h => h) (fun _ h => h) hL hF
    obtain ⟨t2, a1, b1⟩ := kk _ M2 hi2 T'.heap (locs ++ L) k1 hp (by rw [e1]; exact hrep) k3 T' rfl X'
    exact ⟨t2, st t2 a1, b1⟩
  · obtain ⟨k1, k2, k3⟩ := vx_keep h0 e1 hS (fun _ _ h => h) (fun _ h => h) hL hF
    obtain ⟨t2, a1, b1⟩ := kx E ce q M2 hi2 T'.heap (locs ++ L) k1 hp (by rw [e1]; exact hrep) k3 (by rw [e1]; exact hce) hcv hcl T' rfl X'
    exact ⟨t2, st.trans a1, b1⟩
theorem run_useIM {P : PS} {mc ms : Nat} {a : Array Value} {rest st0 : List Value} {H : Heap} {locs : List Loc} {cells slots pc : Nat} {ls : Array Slot}
    (hr : va_Run p l e R s m args below meth c H locs cells slots mc ms (F0 m pc ls st0) rest (QcM D cyt lo P a) (gA lo)) (hS : va_S (gA lo) s.heap H locs)
    (kk : ∀ (v : Option Value) (M2 : MM) (hi2 : Nat) (H1 : Heap) (locs1 : List Loc), H.size ≤ H1.size → P (.inl v) M2 hi2 → RepH D cyt lo M2 hi2 H1 → va_S (gA lo) s.heap H1 locs1 → W p l e R s m args below meth c H1 locs1 (cells + mc) (slots + ms) Qt (F0 m (pc + 3) ls (v.toList ++ rest))) :
    W p l e R s m args below meth c H locs cells slots Qt (F0 m pc ls st0) := by
  intro T hT X
  obtain ⟨v, st₀, t, T', L, h0, X', hL, e1, e2, ⟨v', M2, hi2, hv, hp, hrep, hF⟩, st⟩ := hr T hT X
  cases hv
  obtain ⟨k1, k2, k3⟩ := vx_keep h0 e1 hS (fun _ _ h => h) (fun _ h => h) hL hF
  obtain ⟨t2, a1, b1⟩ := kk _ M2 hi2 T'.heap (locs ++ L) k1 hp (by rw [e1]; exact hrep) k3 T' rfl X'
  exact ⟨t2, st t2 a1, b1⟩
set_option maxHeartbeats 2000000 in
theorem S_iconst (B : BF p l R s m args meth c G D cyt lo md f CK SK) : Ru_iconst G f call md P0 (WX p l e R s m args below meth c G D cyt lo md CK SK Qt) := by
  intro pc lv M hi k n rest n0 v h0 h1 h2 H locs cells slots ls C
  exact lv_iconst B.hx B.hb h0 h1 (h2 H locs cells slots ls C)
set_option maxHeartbeats 2000000 in
theorem S_bipush (B : BF p l R s m args meth c G D cyt lo md f CK SK) : Ru_bipush G f call md P0 (WX p l e R s m args below meth c G D cyt lo md CK SK Qt) := by
  intro pc lv M hi k n rest n0 v h0 h1 h2 H locs cells slots ls C
  exact lv_bipush B.hx B.hb h0 h1 (h2 H locs cells slots ls C)
set_option maxHeartbeats 2000000 in
theorem S_sipush (B : BF p l R s m args meth c G D cyt lo md f CK SK) : Ru_sipush G f call md P0 (WX p l e R s m args below meth c G D cyt lo md CK SK Qt) := by
  intro pc lv M hi k n rest n0 v h0 h1 h2 H locs cells slots ls C
  exact lv_sipush B.hx B.hb h0 h1 (h2 H locs cells slots ls C)
set_option maxHeartbeats 2000000 in
theorem S_lconst (B : BF p l R s m args meth c G D cyt lo md f CK SK) : Ru_lconst G f call md P0 (WX p l e R s m args below meth c G D cyt lo md CK SK Qt) := by
  intro pc lv M hi k n rest n0 v h0 h1 h2 H locs cells slots ls C
  exact lv_lconst B.hx B.hb h0 h1 (h2 H locs cells slots ls C)
set_option maxHeartbeats 2000000 in
theorem S_iload_n (B : BF p l R s m args meth c G D cyt lo md f CK SK) : Ru_iload_n G f call md P0 (WX p l e R s m args below meth c G D cyt lo md CK SK Qt) := by
  intro pc lv M hi k n rest k0 i x h0 h1 h2 h3 H locs cells slots ls C
  exact lv_iload_n B.hx B.hb h0 h1 (lget_at C.1 h2) (h3 H locs cells slots ls C)
set_option maxHeartbeats 2000000 in
theorem S_iload (B : BF p l R s m args meth c G D cyt lo md f CK SK) : Ru_iload G f call md P0 (WX p l e R s m args below meth c G D cyt lo md CK SK Qt) := by
  intro pc lv M hi k n rest i x h0 h1 h2 H locs cells slots ls C
  exact lv_iload B.hx B.hb h0 (lget_at C.1 h1) (h2 H locs cells slots ls C)
set_option maxHeartbeats 2000000 in
theorem S_aload_n (B : BF p l R s m args meth c G D cyt lo md f CK SK) : Ru_aload_n G f call md P0 (WX p l e R s m args below meth c G D cyt lo md CK SK Qt) := by
  intro pc lv M hi k n rest k0 i x h0 h1 h2 h3 H locs cells slots ls C
  exact lv_aload_n B.hx B.hb h0 h1 (lget_at C.1 h2) (h3 H locs cells slots ls C)
set_option maxHeartbeats 2000000 in
theorem S_aload (B : BF p l R s m args meth c G D cyt lo md f CK SK) : Ru_aload G f call md P0 (WX p l e R s m args below meth c G D cyt lo md CK SK Qt) := by
  intro pc lv M hi k n rest i x h0 h1 h2 H locs cells slots ls C
  exact lv_aload B.hx B.hb h0 (lget_at C.1 h1) (h2 H locs cells slots ls C)
set_option maxHeartbeats 2000000 in
theorem S_aload_nN (B : BF p l R s m args meth c G D cyt lo md f CK SK) : Ru_aload_nN G f call md P0 (WX p l e R s m args below meth c G D cyt lo md CK SK Qt) := by
  intro pc lv M hi k n rest k0 i h0 h1 h2 h3 H locs cells slots ls C
  exact lv_aload_nN B.hx B.hb h0 h1 (lget_at C.1 h2) (h3 H locs cells slots ls C)
set_option maxHeartbeats 2000000 in
theorem S_aloadN (B : BF p l R s m args meth c G D cyt lo md f CK SK) : Ru_aloadN G f call md P0 (WX p l e R s m args below meth c G D cyt lo md CK SK Qt) := by
  intro pc lv M hi k n rest i h0 h1 h2 H locs cells slots ls C
  exact lv_aloadN B.hx B.hb h0 (lget_at C.1 h1) (h2 H locs cells slots ls C)
set_option maxHeartbeats 2000000 in
theorem S_dload (B : BF p l R s m args meth c G D cyt lo md f CK SK) : Ru_dload G f call md P0 (WX p l e R s m args below meth c G D cyt lo md CK SK Qt) := by
  intro pc lv M hi k n rest i x h0 h1 h2 H locs cells slots ls C
  exact lv_dload B.hx B.hb h0 (lget_at C.1 h1) (h2 H locs cells slots ls C)
set_option maxHeartbeats 2000000 in
theorem S_iadd (B : BF p l R s m args meth c G D cyt lo md f CK SK) : Ru_iadd G f call md P0 (WX p l e R s m args below meth c G D cyt lo md CK SK Qt) := by
  intro pc lv M hi k n rest x y h0 h1 H locs cells slots ls C
  exact lv_iadd B.hx B.hb h0 (h1 H locs cells slots ls C)
set_option maxHeartbeats 2000000 in
theorem S_isub (B : BF p l R s m args meth c G D cyt lo md f CK SK) : Ru_isub G f call md P0 (WX p l e R s m args below meth c G D cyt lo md CK SK Qt) := by
  intro pc lv M hi k n rest x y h0 h1 H locs cells slots ls C
  exact lv_isub B.hx B.hb h0 (h1 H locs cells slots ls C)
set_option maxHeartbeats 2000000 in
theorem S_imul (B : BF p l R s m args meth c G D cyt lo md f CK SK) : Ru_imul G f call md P0 (WX p l e R s m args below meth c G D cyt lo md CK SK Qt) := by
  intro pc lv M hi k n rest x y h0 h1 H locs cells slots ls C
  exact lv_imul B.hx B.hb h0 (h1 H locs cells slots ls C)
set_option maxHeartbeats 2000000 in
theorem S_iand (B : BF p l R s m args meth c G D cyt lo md f CK SK) : Ru_iand G f call md P0 (WX p l e R s m args below meth c G D cyt lo md CK SK Qt) := by
  intro pc lv M hi k n rest x y h0 h1 H locs cells slots ls C
  exact lv_iand B.hx B.hb h0 (h1 H locs cells slots ls C)
set_option maxHeartbeats 2000000 in
theorem S_ior (B : BF p l R s m args meth c G D cyt lo md f CK SK) : Ru_ior G f call md P0 (WX p l e R s m args below meth c G D cyt lo md CK SK Qt) := by
  intro pc lv M hi k n rest x y h0 h1 H locs cells slots ls C
  exact lv_ior B.hx B.hb h0 (h1 H locs cells slots ls C)
set_option maxHeartbeats 2000000 in
theorem S_idiv (B : BF p l R s m args meth c G D cyt lo md f CK SK) : Ru_idiv G f call md P0 (WX p l e R s m args below meth c G D cyt lo md CK SK Qt) := by
  intro pc lv M hi k n rest x y h0 h1 h2 H locs cells slots ls C
  exact lv_idiv B.hx B.hb h0 h1 (h2 H locs cells slots ls C)
set_option maxHeartbeats 2000000 in
theorem S_irem (B : BF p l R s m args meth c G D cyt lo md f CK SK) : Ru_irem G f call md P0 (WX p l e R s m args below meth c G D cyt lo md CK SK Qt) := by
  intro pc lv M hi k n rest x y h0 h1 h2 H locs cells slots ls C
  exact lv_irem B.hx B.hb h0 h1 (h2 H locs cells slots ls C)
set_option maxHeartbeats 2000000 in
theorem S_ineg (B : BF p l R s m args meth c G D cyt lo md f CK SK) : Ru_ineg G f call md P0 (WX p l e R s m args below meth c G D cyt lo md CK SK Qt) := by
  intro pc lv M hi k n rest x h0 h1 H locs cells slots ls C
  exact lv_ineg B.hx B.hb h0 (h1 H locs cells slots ls C)
set_option maxHeartbeats 2000000 in
theorem S_ishl (B : BF p l R s m args meth c G D cyt lo md f CK SK) : Ru_ishl G f call md P0 (WX p l e R s m args below meth c G D cyt lo md CK SK Qt) := by
  intro pc lv M hi k n rest x y h0 h1 H locs cells slots ls C
  exact lv_ishl B.hx B.hb h0 (h1 H locs cells slots ls C)
set_option maxHeartbeats 2000000 in
theorem S_ishr (B : BF p l R s m args meth c G D cyt lo md f CK SK) : Ru_ishr G f call md P0 (WX p l e R s m args below meth c G D cyt lo md CK SK Qt) := by
  intro pc lv M hi k n rest x y h0 h1 H locs cells slots ls C
  exact lv_ishr B.hx B.hb h0 (h1 H locs cells slots ls C)
set_option maxHeartbeats 2000000 in
theorem S_iushr (B : BF p l R s m args meth c G D cyt lo md f CK SK) : Ru_iushr G f call md P0 (WX p l e R s m args below meth c G D cyt lo md CK SK Qt) := by
  intro pc lv M hi k n rest x y v h0 h1 h2 H locs cells slots ls C
  exact lv_iushr B.hx B.hb h0 h1 (h2 H locs cells slots ls C)
set_option maxHeartbeats 2000000 in
theorem S_i2l (B : BF p l R s m args meth c G D cyt lo md f CK SK) : Ru_i2l G f call md P0 (WX p l e R s m args below meth c G D cyt lo md CK SK Qt) := by
  intro pc lv M hi k n rest x v h0 h1 h2 H locs cells slots ls C
  exact lv_i2l B.hx B.hb h0 h1 (h2 H locs cells slots ls C)
set_option maxHeartbeats 2000000 in
theorem S_i2b (B : BF p l R s m args meth c G D cyt lo md f CK SK) : Ru_i2b G f call md P0 (WX p l e R s m args below meth c G D cyt lo md CK SK Qt) := by
  intro pc lv M hi k n rest x v h0 h1 h2 H locs cells slots ls C
  exact lv_i2b B.hx B.hb h0 h1 (h2 H locs cells slots ls C)
set_option maxHeartbeats 2000000 in
theorem S_i2f (B : BF p l R s m args meth c G D cyt lo md f CK SK) : Ru_i2f G f call md P0 (WX p l e R s m args below meth c G D cyt lo md CK SK Qt) := by
  intro pc lv M hi k n rest x h0 h1 H locs cells slots ls C
  exact lv_i2f B.hx B.hb h0 (h1 H locs cells slots ls C)
set_option maxHeartbeats 2000000 in
theorem S_i2d (B : BF p l R s m args meth c G D cyt lo md f CK SK) : Ru_i2d G f call md P0 (WX p l e R s m args below meth c G D cyt lo md CK SK Qt) := by
  intro pc lv M hi k n rest x h0 h1 H locs cells slots ls C
  exact lv_i2d B.hx B.hb h0 (h1 H locs cells slots ls C)
set_option maxHeartbeats 2000000 in
theorem S_dup (B : BF p l R s m args meth c G D cyt lo md f CK SK) : Ru_dup G f call md P0 (WX p l e R s m args below meth c G D cyt lo md CK SK Qt) := by
  intro pc lv M hi k n rest va h0 h1 h2 H locs cells slots ls C
  exact lv_dup B.hx B.hb h0 h1 (h2 H locs cells slots ls C)
set_option maxHeartbeats 2000000 in
theorem S_pop (B : BF p l R s m args meth c G D cyt lo md f CK SK) : Ru_pop G f call md P0 (WX p l e R s m args below meth c G D cyt lo md CK SK Qt) := by
  intro pc lv M hi k n rest va h0 h1 h2 H locs cells slots ls C
  exact lv_pop B.hx B.hb h0 h1 (h2 H locs cells slots ls C)
set_option maxHeartbeats 2000000 in
theorem S_dup2_11 (B : BF p l R s m args meth c G D cyt lo md f CK SK) : Ru_dup2_11 G f call md P0 (WX p l e R s m args below meth c G D cyt lo md CK SK Qt) := by
  intro pc lv M hi k n rest va vb h0 h1 h2 h3 H locs cells slots ls C
  exact lv_dup2_11 B.hx B.hb h0 h1 h2 (h3 H locs cells slots ls C)
set_option maxHeartbeats 2000000 in
theorem S_null (B : BF p l R s m args meth c G D cyt lo md f CK SK) : Ru_null G f call md P0 (WX p l e R s m args below meth c G D cyt lo md CK SK Qt) := by
  intro pc lv M hi k n rest  h0 h1 H locs cells slots ls C
  exact lv_null B.hx B.hb h0 (h1 H locs cells slots ls C)
set_option maxHeartbeats 2000000 in
theorem S_ifnull (B : BF p l R s m args meth c G D cyt lo md f CK SK) : Ru_ifnull G f call md P0 (WX p l e R s m args below meth c G D cyt lo md CK SK Qt) := by
  intro pc lv M hi k n rest x off h0 h1 H locs cells slots ls C
  exact lv_ifnull B.hx B.hb h0 (h1 H locs cells slots ls C)
set_option maxHeartbeats 2000000 in
theorem S_ifnullN (B : BF p l R s m args meth c G D cyt lo md f CK SK) : Ru_ifnullN G f call md P0 (WX p l e R s m args below meth c G D cyt lo md CK SK Qt) := by
  intro pc lv M hi k n rest off tgt h0 h1 h2 H locs cells slots ls C
  exact lv_ifnullN B.hx B.hb h0 h1 (h2 H locs cells slots ls C)
set_option maxHeartbeats 2000000 in
theorem S_ifnonnull (B : BF p l R s m args meth c G D cyt lo md f CK SK) : Ru_ifnonnull G f call md P0 (WX p l e R s m args below meth c G D cyt lo md CK SK Qt) := by
  intro pc lv M hi k n rest x off tgt h0 h1 h2 H locs cells slots ls C
  exact lv_ifnonnull B.hx B.hb h0 h1 (h2 H locs cells slots ls C)
set_option maxHeartbeats 2000000 in
theorem S_ifnonnullN (B : BF p l R s m args meth c G D cyt lo md f CK SK) : Ru_ifnonnullN G f call md P0 (WX p l e R s m args below meth c G D cyt lo md CK SK Qt) := by
  intro pc lv M hi k n rest off h0 h1 H locs cells slots ls C
  exact lv_ifnonnullN B.hx B.hb h0 (h1 H locs cells slots ls C)
set_option maxHeartbeats 2000000 in
theorem S_fconst0 (B : BF p l R s m args meth c G D cyt lo md f CK SK) : Ru_fconst0 G f call md P0 (WX p l e R s m args below meth c G D cyt lo md CK SK Qt) := by
  intro pc lv M hi k n rest  h0 h1 H locs cells slots ls C
  exact lv_fconst0 B.hx B.hb h0 (h1 H locs cells slots ls C)
set_option maxHeartbeats 2000000 in
theorem S_dconst0 (B : BF p l R s m args meth c G D cyt lo md f CK SK) : Ru_dconst0 G f call md P0 (WX p l e R s m args below meth c G D cyt lo md CK SK Qt) := by
  intro pc lv M hi k n rest  h0 h1 H locs cells slots ls C
  exact lv_dconst0 B.hx B.hb h0 (h1 H locs cells slots ls C)
set_option maxHeartbeats 2000000 in
theorem S_fdiv (B : BF p l R s m args meth c G D cyt lo md f CK SK) : Ru_fdiv G f call md P0 (WX p l e R s m args below meth c G D cyt lo md CK SK Qt) := by
  intro pc lv M hi k n rest x y h0 h1 h2 H locs cells slots ls C
  exact lv_fdiv B.hx B.hb h0 h1 (h2 H locs cells slots ls C)
set_option maxHeartbeats 2000000 in
theorem S_ddiv (B : BF p l R s m args meth c G D cyt lo md f CK SK) : Ru_ddiv G f call md P0 (WX p l e R s m args below meth c G D cyt lo md CK SK Qt) := by
  intro pc lv M hi k n rest x y h0 h1 h2 H locs cells slots ls C
  exact lv_ddiv B.hx B.hb h0 h1 (h2 H locs cells slots ls C)
set_option maxHeartbeats 2000000 in
theorem S_f2d (B : BF p l R s m args meth c G D cyt lo md f CK SK) : Ru_f2d G f call md P0 (WX p l e R s m args below meth c G D cyt lo md CK SK Qt) := by
  intro pc lv M hi k n rest x h0 h1 h2 H locs cells slots ls C
  exact lv_f2d B.hx B.hb h0 h1 (h2 H locs cells slots ls C)
set_option maxHeartbeats 2000000 in
theorem S_dcmp (B : BF p l R s m args meth c G D cyt lo md f CK SK) : Ru_dcmp G f call md P0 (WX p l e R s m args below meth c G D cyt lo md CK SK Qt) := by
  intro pc lv M hi k n rest x y op h0 h1 H locs cells slots ls C
  exact lv_dcmp B.hx B.hb h0 (h1 H locs cells slots ls C)
set_option maxHeartbeats 2000000 in
theorem S_lcmp (B : BF p l R s m args meth c G D cyt lo md f CK SK) : Ru_lcmp G f call md P0 (WX p l e R s m args below meth c G D cyt lo md CK SK Qt) := by
  intro pc lv M hi k n rest x y h0 h1 H locs cells slots ls C
  exact W.lcmp B.hx B.hb h0 (h1 H locs cells slots ls C)
set_option maxHeartbeats 2000000 in
theorem S_goto (B : BF p l R s m args meth c G D cyt lo md f CK SK) : Ru_goto G f call md P0 (WX p l e R s m args below meth c G D cyt lo md CK SK Qt) := by
  intro pc lv M hi k n rest off tgt h0 h1 h2 H locs cells slots ls C
  exact lv_goto B.hx B.hb h0 h1 (h2 H locs cells slots ls C)
set_option maxHeartbeats 2000000 in
theorem S_tableIn (B : BF p l R s m args meth c G D cyt lo md f CK SK) : Ru_tableIn G f call md P0 (WX p l e R s m args below meth c G D cyt lo md CK SK Qt) := by
  intro pc lv M hi k n rest dflt lo0 hi0 offs len x off tgt h0 h1 h2 h3 h4 h5 H locs cells slots ls C
  exact lv_tableIn B.hx B.hb h0 h1 h2 h3 h4 (h5 H locs cells slots ls C)
set_option maxHeartbeats 2000000 in
theorem S_tableOut (B : BF p l R s m args meth c G D cyt lo md f CK SK) : Ru_tableOut G f call md P0 (WX p l e R s m args below meth c G D cyt lo md CK SK Qt) := by
  intro pc lv M hi k n rest dflt lo0 hi0 offs len x tgt h0 h1 h2 h3 H locs cells slots ls C
  exact lv_tableOut B.hx B.hb h0 h1 h2 (h3 H locs cells slots ls C)
set_option maxHeartbeats 2000000 in
theorem S_if_eq (B : BF p l R s m args meth c G D cyt lo md f CK SK) : Ru_if_eq G f call md P0 (WX p l e R s m args below meth c G D cyt lo md CK SK Qt) := by
  intro pc lv M hi k n rest x off tgt h0 h1 h2 h3 H locs cells slots ls C
  exact lv_if_eq B.hx B.hb h0 h1 (fun z => h2 z H locs cells slots ls C) (fun z => h3 z H locs cells slots ls C)
set_option maxHeartbeats 2000000 in
theorem S_if_ne (B : BF p l R s m args meth c G D cyt lo md f CK SK) : Ru_if_ne G f call md P0 (WX p l e R s m args below meth c G D cyt lo md CK SK Qt) := by
  intro pc lv M hi k n rest x off tgt h0 h1 h2 h3 H locs cells slots ls C
  exact lv_if_ne B.hx B.hb h0 h1 (fun z => h2 z H locs cells slots ls C) (fun z => h3 z H locs cells slots ls C)
set_option maxHeartbeats 2000000 in
theorem S_if_lt (B : BF p l R s m args meth c G D cyt lo md f CK SK) : Ru_if_lt G f call md P0 (WX p l e R s m args below meth c G D cyt lo md CK SK Qt) := by
  intro pc lv M hi k n rest x off tgt h0 h1 h2 h3 H locs cells slots ls C
  exact lv_if_lt B.hx B.hb h0 h1 (fun z => h2 z H locs cells slots ls C) (fun z => h3 z H locs cells slots ls C)
set_option maxHeartbeats 2000000 in
theorem S_if_ge (B : BF p l R s m args meth c G D cyt lo md f CK SK) : Ru_if_ge G f call md P0 (WX p l e R s m args below meth c G D cyt lo md CK SK Qt) := by
  intro pc lv M hi k n rest x off tgt h0 h1 h2 h3 H locs cells slots ls C
  exact lv_if_ge B.hx B.hb h0 h1 (fun z => h2 z H locs cells slots ls C) (fun z => h3 z H locs cells slots ls C)
set_option maxHeartbeats 2000000 in
theorem S_if_gt (B : BF p l R s m args meth c G D cyt lo md f CK SK) : Ru_if_gt G f call md P0 (WX p l e R s m args below meth c G D cyt lo md CK SK Qt) := by
  intro pc lv M hi k n rest x off tgt h0 h1 h2 h3 H locs cells slots ls C
  exact lv_if_gt B.hx B.hb h0 h1 (fun z => h2 z H locs cells slots ls C) (fun z => h3 z H locs cells slots ls C)
set_option maxHeartbeats 2000000 in
theorem S_if_le (B : BF p l R s m args meth c G D cyt lo md f CK SK) : Ru_if_le G f call md P0 (WX p l e R s m args below meth c G D cyt lo md CK SK Qt) := by
  intro pc lv M hi k n rest x off tgt h0 h1 h2 h3 H locs cells slots ls C
  exact lv_if_le B.hx B.hb h0 h1 (fun z => h2 z H locs cells slots ls C) (fun z => h3 z H locs cells slots ls C)
set_option maxHeartbeats 2000000 in
theorem S_icmp_eq (B : BF p l R s m args meth c G D cyt lo md f CK SK) : Ru_icmp_eq G f call md P0 (WX p l e R s m args below meth c G D cyt lo md CK SK Qt) := by
  intro pc lv M hi k n rest x y off tgt h0 h1 h2 h3 H locs cells slots ls C
  exact lv_icmp_eq B.hx B.hb h0 h1 (fun z => h2 z H locs cells slots ls C) (fun z => h3 z H locs cells slots ls C)
set_option maxHeartbeats 2000000 in
theorem S_icmp_ne (B : BF p l R s m args meth c G D cyt lo md f CK SK) : Ru_icmp_ne G f call md P0 (WX p l e R s m args below meth c G D cyt lo md CK SK Qt) := by
  intro pc lv M hi k n rest x y off tgt h0 h1 h2 h3 H locs cells slots ls C
  exact lv_icmp_ne B.hx B.hb h0 h1 (fun z => h2 z H locs cells slots ls C) (fun z => h3 z H locs cells slots ls C)
set_option maxHeartbeats 2000000 in
theorem S_icmp_lt (B : BF p l R s m args meth c G D cyt lo md f CK SK) : Ru_icmp_lt G f call md P0 (WX p l e R s m args below meth c G D cyt lo md CK SK Qt) := by
  intro pc lv M hi k n rest x y off tgt h0 h1 h2 h3 H locs cells slots ls C
  exact lv_icmp_lt B.hx B.hb h0 h1 (fun z => h2 z H locs cells slots ls C) (fun z => h3 z H locs cells slots ls C)
set_option maxHeartbeats 2000000 in
theorem S_icmp_ge (B : BF p l R s m args meth c G D cyt lo md f CK SK) : Ru_icmp_ge G f call md P0 (WX p l e R s m args below meth c G D cyt lo md CK SK Qt) := by
  intro pc lv M hi k n rest x y off tgt h0 h1 h2 h3 H locs cells slots ls C
  exact lv_icmp_ge B.hx B.hb h0 h1 (fun z => h2 z H locs cells slots ls C) (fun z => h3 z H locs cells slots ls C)
set_option maxHeartbeats 2000000 in
theorem S_icmp_gt (B : BF p l R s m args meth c G D cyt lo md f CK SK) : Ru_icmp_gt G f call md P0 (WX p l e R s m args below meth c G D cyt lo md CK SK Qt) := by
  intro pc lv M hi k n rest x y off tgt h0 h1 h2 h3 H locs cells slots ls C
  exact lv_icmp_gt B.hx B.hb h0 h1 (fun z => h2 z H locs cells slots ls C) (fun z => h3 z H locs cells slots ls C)
set_option maxHeartbeats 2000000 in
theorem S_icmp_le (B : BF p l R s m args meth c G D cyt lo md f CK SK) : Ru_icmp_le G f call md P0 (WX p l e R s m args below meth c G D cyt lo md CK SK Qt) := by
  intro pc lv M hi k n rest x y off tgt h0 h1 h2 h3 H locs cells slots ls C
  exact lv_icmp_le B.hx B.hb h0 h1 (fun z => h2 z H locs cells slots ls C) (fun z => h3 z H locs cells slots ls C)
set_option maxHeartbeats 2000000 in
theorem S_istore_n (B : BF p l R s m args meth c G D cyt lo md f CK SK) : Ru_istore_n G f call md P0 (WX p l e R s m args below meth c G D cyt lo md CK SK Qt) := by
  intro pc lv M hi k n rest q i x h0 h1 h2 h3 H locs cells slots ls C
  exact lv_istore_n B.hx B.hb h0 h1 C.1 h2 rfl (fun ls2 h9 => h3 H locs cells slots ls2 ⟨h9, C.2⟩)
set_option maxHeartbeats 2000000 in
theorem S_istore (B : BF p l R s m args meth c G D cyt lo md f CK SK) : Ru_istore G f call md P0 (WX p l e R s m args below meth c G D cyt lo md CK SK Qt) := by
  intro pc lv M hi k n rest i x h0 h1 h2 H locs cells slots ls C
  exact lv_istore B.hx B.hb h0 C.1 h1 rfl (fun ls2 h9 => h2 H locs cells slots ls2 ⟨h9, C.2⟩)
set_option maxHeartbeats 2000000 in
theorem S_astore_n (B : BF p l R s m args meth c G D cyt lo md f CK SK) : Ru_astore_n G f call md P0 (WX p l e R s m args below meth c G D cyt lo md CK SK Qt) := by
  intro pc lv M hi k n rest q i x h0 h1 h2 h3 H locs cells slots ls C
  exact lv_astore_n B.hx B.hb h0 h1 C.1 h2 rfl (fun ls2 h9 => h3 H locs cells slots ls2 ⟨h9, C.2⟩)
set_option maxHeartbeats 2000000 in
theorem S_astore (B : BF p l R s m args meth c G D cyt lo md f CK SK) : Ru_astore G f call md P0 (WX p l e R s m args below meth c G D cyt lo md CK SK Qt) := by
  intro pc lv M hi k n rest i x h0 h1 h2 H locs cells slots ls C
  exact lv_astore B.hx B.hb h0 C.1 h1 rfl (fun ls2 h9 => h2 H locs cells slots ls2 ⟨h9, C.2⟩)
set_option maxHeartbeats 2000000 in
theorem S_astore_nN (B : BF p l R s m args meth c G D cyt lo md f CK SK) : Ru_astore_nN G f call md P0 (WX p l e R s m args below meth c G D cyt lo md CK SK Qt) := by
  intro pc lv M hi k n rest q i h0 h1 h2 h3 H locs cells slots ls C
  exact lv_astore_nN B.hx B.hb h0 h1 C.1 h2 rfl (fun ls2 h9 => h3 H locs cells slots ls2 ⟨h9, C.2⟩)
set_option maxHeartbeats 2000000 in
theorem S_astoreN (B : BF p l R s m args meth c G D cyt lo md f CK SK) : Ru_astoreN G f call md P0 (WX p l e R s m args below meth c G D cyt lo md CK SK Qt) := by
  intro pc lv M hi k n rest i h0 h1 h2 H locs cells slots ls C
  exact lv_astoreN B.hx B.hb h0 C.1 h1 rfl (fun ls2 h9 => h2 H locs cells slots ls2 ⟨h9, C.2⟩)
set_option maxHeartbeats 2000000 in
theorem S_dstore (B : BF p l R s m args meth c G D cyt lo md f CK SK) : Ru_dstore G f call md P0 (WX p l e R s m args below meth c G D cyt lo md CK SK Qt) := by
  intro pc lv M hi k n rest i x h0 h1 h2 H locs cells slots ls C
  exact lv_dstore B.hx B.hb h0 C.1 h1 rfl (fun ls2 h9 => h2 H locs cells slots ls2 ⟨h9, C.2⟩)
set_option maxHeartbeats 2000000 in
theorem S_iinc (B : BF p l R s m args meth c G D cyt lo md f CK SK) : Ru_iinc G f call md P0 (WX p l e R s m args below meth c G D cyt lo md CK SK Qt) := by
  intro pc lv M hi k n rest i c x v h0 h1 h2 h3 h4 H locs cells slots ls C
  obtain ⟨j, hj⟩ := List.getElem?_of_mem (lget_mem h1)
  exact lv_iinc B.hx B.hb h0 C.1 hj h2 h3 rfl (fun ls2 h9 => h4 H locs cells slots ls2 ⟨h9, C.2⟩)
set_option maxHeartbeats 2000000 in
theorem S_sub (B : BF p l R s m args meth c G D cyt lo md f CK SK) : Ru_sub G f call md P0 (WX p l e R s m args below meth c G D cyt lo md CK SK Qt) := by
  intro pc lv M hi k n rest ks lv2 h0 h1 H locs cells slots ls C
  exact h1 H locs cells slots ls ⟨lv_sub C.1 ks h0, C.2⟩
set_option maxHeartbeats 2000000 in
theorem S_spare (B : BF p l R s m args meth c G D cyt lo md f CK SK) : Ru_spare G f call md P0 (WX p l e R s m args below meth c G D cyt lo md CK SK Qt) := by
  intro pc lv M hi k n rest k2 n2 h0 h1 h2 H locs cells slots ls C
  exact h2 H locs cells slots ls ⟨C.1, C.2.1, C.2.2.1, Nat.le_trans (Nat.add_le_add_left h0 _) C.2.2.2.1, Nat.le_trans (Nat.add_le_add_left h1 _) C.2.2.2.2⟩
set_option maxHeartbeats 2000000 in
theorem S_getfield (B : BF p l R s m args meth c G D cyt lo md f CK SK) : Ru_getfield G f call md P0 (WX p l e R s m args below meth c G D cyt lo md CK SK Qt) := by
  intro pc lv M hi k n rest idx a ci kk fs v h0 h1 h2 h3 h4 H locs cells slots ls C
  obtain ⟨C0, T0, N0, hc, hk, hlink⟩ := h2
  exact va_get (D := D) (cl := vwCl) (ci := ci) (ws := [(a, .inr (ci, fs))]) (tys := TYL cyt) B.hx B.hb B.hts (vwOK hc).1 B.own B.hK (one_P (C.2.1.2 a _ h1).2) 0 rfl hc kk hk (B.hts _ hlink) (fun _ h => h) h3 h0 (h4 H locs cells slots ls C)
set_option maxHeartbeats 2000000 in
theorem S_putfield (B : BF p l R s m args meth c G D cyt lo md f CK SK) : Ru_putfield G f call md P0 (WX p l e R s m args below meth c G D cyt lo md CK SK Qt) := by
  intro pc lv M hi k n rest idx a ci kk fs v ty h0 h1 h2 h3 h4 h5 h6 H locs cells slots ls C
  obtain ⟨C0, T0, N0, hc, hk, hlink, hd, hfin⟩ := h2
  obtain ⟨hin, ⟨ty0, hty⟩, hnm⟩ := vwOK hc
  have hap := va_apart (own := md.1.cls) B.hts hin ty0 hty hnm B.hK hc
  have hat : va_at D vwCl (a, .inr (ci, fs)) H := (C.2.1.2 a _ h1).2
  obtain ⟨r, g1, cell, q1, q2, q3, q4⟩ := hat
  have hr : r = (C0, T0, N0) := Option.some.inj (g1.symm.trans hc)
  subst hr
  obtain ⟨hS, hfc, kC, hkC, hkind⟩ := B.hK.1 ci _ hc
  obtain ⟨cf, kf, fi, f, hfo, hsl⟩ := hS kk hk
  have hst := (u_facts hfc hkC (u_lays B.hts hin hk) hfo).1
  have hlay := B.hts _ (hin _ (u_in_lay hk))
  unfold u_lay at hlay
  have fin : ∀ H' : Heap, H'[a]? = some (cell.setSlot f.slot v) → H'.size = H.size → (∀ q, q ≠ a → H'[q]? = H[q]?) → W p l e R s m args below meth c H' (locs ++ [⟨a, f.slot⟩]) cells slots Qt (F0 m (pc + 3) ls rest) := by
    intro H' e1 e2 e3
    rw [hsl] at e1
    refine h6 H' _ cells slots ls ⟨C.1, C.2.1.set (C.2.1.2 a _ h1).1 ?_ e2 e3, C.2.2.1.put e2 e3 (C.2.1.2 a _ h1).1, C.2.2.2⟩
    exact ⟨_, hc, t_OB.to (V := updV (vp_V fs) kk v) ⟨_, e1, q2, q3, t_set q4 hap hk v⟩ (fun j _ => vp_updV_set h5 v j)⟩
  rcases hfin with hfin | ⟨hini, hfin, hdecl⟩
  · rw [if_neg (by rw [hfin]; decide)] at hlay
    have h8 := u_store hfc hkC hkind hlay hfo hd h3 h4
    exact W.putK B.hx B.hb (f := f) ⟨B.own, B.hts _ hlink, ⟨_, _, _, hfo⟩, hst⟩ (by rw [q2]; exact h8) q1 q3 (by rw [hsl]; exact k2_hasslot (q4 kk hk)) rfl rfl h0 fin
  · rw [if_pos hfin] at hlay
    have hcf : m.cls = cf := by
      obtain ⟨_, _, c', _, _, _, -, -, hf', -, -, -, hown2, -⟩ := Cond.laysFinal_spec hlay
      have e1 : c' = cf := by have := hfo.symm.trans hf'; simp at this; exact this.1.symm
      rw [hdecl] at hown2
      rw [← e1]; exact Option.some.inj (B.own.symm.trans hown2)
    have h8 := u_fits hfc hkC hkind (Or.inr hlay) hfo hd h3 h4
    exact W.putFinK B.hx B.hb B.own (B.hts _ hlink) hfo hst hcf (B.ini hini) (by rw [q2]; exact h8) q1 q3 (by rw [hsl]; exact k2_hasslot (q4 kk hk)) rfl rfl h0 fin
set_option maxHeartbeats 2000000 in
theorem S_iaload (B : BF p l R s m args meth c G D cyt lo md f CK SK) : Ru_iaload G f call md P0 (WX p l e R s m args below meth c G D cyt lo md CK SK Qt) := by
  intro pc lv M hi k n rest a n0 g i h0 h1 h2 h3 H locs cells slots ls C
  exact va_iald (D := D) (cl := vwCl) (ws := [(a, .inl (cyt 1, n0, .inl g))]) (tys := TYL cyt) B.hx B.hb B.hK (one_P (C.2.1.2 a _ h1).2) 0 1 rfl rfl h2 h0 (h3 H locs cells slots ls C)
set_option maxHeartbeats 2000000 in
theorem S_baload (B : BF p l R s m args meth c G D cyt lo md f CK SK) : Ru_baload G f call md P0 (WX p l e R s m args below meth c G D cyt lo md CK SK Qt) := by
  intro pc lv M hi k n rest a n0 g i h0 h1 h2 h3 H locs cells slots ls C
  exact va_bald (D := D) (cl := vwCl) (ws := [(a, .inl (cyt 0, n0, .inl g))]) (tys := TYL cyt) B.hx B.hb B.hK (one_P (C.2.1.2 a _ h1).2) 0 0 rfl rfl h2 h0 (h3 H locs cells slots ls C)
set_option maxHeartbeats 2000000 in
theorem S_zaload (B : BF p l R s m args meth c G D cyt lo md f CK SK) : Ru_zaload G f call md P0 (WX p l e R s m args below meth c G D cyt lo md CK SK Qt) := by
  intro pc lv M hi k n rest a n0 g i h0 h1 h2 h3 H locs cells slots ls C
  exact va_zald (D := D) (cl := vwCl) (ws := [(a, .inl (cyt 2, n0, .inl g))]) (tys := TYL cyt) B.hx B.hb B.hK (one_P (C.2.1.2 a _ h1).2) 0 2 rfl rfl h2 h0 (h3 H locs cells slots ls C)
set_option maxHeartbeats 2000000 in
theorem S_aaload (B : BF p l R s m args meth c G D cyt lo md f CK SK) : Ru_aaload G f call md P0 (WX p l e R s m args below meth c G D cyt lo md CK SK Qt) := by
  intro pc lv M hi k n rest a n0 t g i CC h0 h1 h2 h3 h4 h5 H locs cells slots ls C
  exact va_aldq (D := D) (cl := vwCl) (ws := [(a, .inl (cyt t, n0, .inr (.inr (.inr (.inr g)))))]) (tys := TYL cyt) B.hx B.hb B.hK (one_P (C.2.1.2 a _ h1).2) 0 t rfl (by rw [TYL_at h3, h2]) h4 h0 (h5 H locs cells slots ls C)
set_option maxHeartbeats 2000000 in
theorem S_alen (B : BF p l R s m args meth c G D cyt lo md f CK SK) : Ru_alen G f call md P0 (WX p l e R s m args below meth c G D cyt lo md CK SK Qt) := by
  intro pc lv M hi k n rest a t x v h0 h1 h2 h3 h4 H locs cells slots ls C
  exact va_alen (D := D) (cl := vwCl) (ws := [(a, .inl (cyt t, x))]) (tys := TYL cyt) B.hx B.hb B.hK (one_P (C.2.1.2 a _ h1).2) 0 t rfl (TYL_at h2) h3 h0 (h4 H locs cells slots ls C)
set_option maxHeartbeats 2000000 in
theorem S_sld (B : BF p l R s m args meth c G D cyt lo md f CK SK) : Ru_sld G f call md P0 (WX p l e R s m args below meth c G D cyt lo md CK SK Qt) := by
  intro pc lv M hi k n rest i h0 h1 h2 H locs cells slots ls C
  exact va_sld B.hx B.hb B.scr B.scrl B.scrA C.2.2.1 h1 h0 (h2 H locs cells slots ls C)
set_option maxHeartbeats 2000000 in
theorem S_slen (B : BF p l R s m args meth c G D cyt lo md f CK SK) : Ru_slen G f call md P0 (WX p l e R s m args below meth c G D cyt lo md CK SK Qt) := by
  intro pc lv M hi k n rest h0 h1 H locs cells slots ls C
  exact va_slen B.hx B.hb B.scr B.scrl B.scrA C.2.2.1 h0 (h1 H locs cells slots ls C)
set_option maxHeartbeats 2000000 in
theorem S_iastore (B : BF p l R s m args meth c G D cyt lo md f CK SK) : Ru_iastore G f call md P0 (WX p l e R s m args below meth c G D cyt lo md CK SK Qt) := by
  intro pc lv M hi k n rest a n0 g i x h0 h1 h2 h3 H locs cells slots ls C
  have hcell : H[a]? = some (vp_cell (cyt 1) (n0, .inl g)) := (C.2.1.2 a _ h1).2
  refine W.iast B.hx B.hb hcell ((B.hK.2 1 _ (show (TYL cyt)[1]? = some (cyt 1, tyk 1) from rfl)).1 n0 (fun j => .int (g j))) (fun q => by cases q) (by show ¬ (i < 0 ∨ (arrV _ _ _).slots.size ≤ _); rw [arrV_size]; exact h2) rfl rfl h0 fun H1 e z oq => ?_
  refine h3 H1 _ cells slots ls ⟨C.1, C.2.1.set (C.2.1.2 a _ h1).1 ?_ z oq, C.2.2.1.put z oq (C.2.1.2 a _ h1).1, C.2.2.2⟩
  show H1[a]? = some (vp_cell _ _)
  rw [e]
  rw [vp_cell_i, vp_cell_i, arrV_store]
  congr 2
  funext q
  by_cases hq : q = i.toNatClampNeg
  · subst hq
    simp [updV, upd]
    try rfl
  · simp [updV, upd, hq]
set_option maxHeartbeats 2000000 in
theorem S_bastore (B : BF p l R s m args meth c G D cyt lo md f CK SK) : Ru_bastore G f call md P0 (WX p l e R s m args below meth c G D cyt lo md CK SK Qt) := by
  intro pc lv M hi k n rest a n0 g i x h0 h1 h2 h3 H locs cells slots ls C
  have hcell : H[a]? = some (vp_cell (cyt 0) (n0, .inl g)) := (C.2.1.2 a _ h1).2
  refine W.bast B.hx B.hb hcell ((B.hK.2 0 _ (show (TYL cyt)[0]? = some (cyt 0, tyk 0) from rfl)).1 n0 (fun j => .int (g j))) (fun q => by cases q) (by show ¬ (i < 0 ∨ (arrV _ _ _).slots.size ≤ _); rw [arrV_size]; exact h2) rfl rfl h0 fun H1 e z oq => ?_
  refine h3 H1 _ cells slots ls ⟨C.1, C.2.1.set (C.2.1.2 a _ h1).1 ?_ z oq, C.2.2.1.put z oq (C.2.1.2 a _ h1).1, C.2.2.2⟩
  show H1[a]? = some (vp_cell _ _)
  rw [e]
  rw [vp_cell_i, vp_cell_i, arrV_store]
  congr 2
  funext q
  by_cases hq : q = i.toNatClampNeg
  · subst hq
    simp [updV, upd, vp_nar]
    try rfl
  · simp [updV, upd, vp_nar, hq]
set_option maxHeartbeats 2000000 in
theorem S_zastore (B : BF p l R s m args meth c G D cyt lo md f CK SK) : Ru_zastore G f call md P0 (WX p l e R s m args below meth c G D cyt lo md CK SK Qt) := by
  intro pc lv M hi k n rest a n0 g i x h0 h1 h2 h3 H locs cells slots ls C
  have hcell : H[a]? = some (vp_cell (cyt 2) (n0, .inl g)) := (C.2.1.2 a _ h1).2
  refine W.zast B.hx B.hb hcell ((B.hK.2 2 _ (show (TYL cyt)[2]? = some (cyt 2, tyk 2) from rfl)).1 n0 (fun j => .int (g j))) (fun q => by cases q) (by show ¬ (i < 0 ∨ (arrV _ _ _).slots.size ≤ _); rw [arrV_size]; exact h2) rfl rfl h0 fun H1 e z oq => ?_
  refine h3 H1 _ cells slots ls ⟨C.1, C.2.1.set (C.2.1.2 a _ h1).1 ?_ z oq, C.2.2.1.put z oq (C.2.1.2 a _ h1).1, C.2.2.2⟩
  show H1[a]? = some (vp_cell _ _)
  rw [e]
  rw [vp_cell_i, vp_cell_i, arrV_store]
  congr 2
  funext q
  by_cases hq : q = i.toNatClampNeg
  · subst hq
    simp [updV, upd, vp_nar]
    try rfl
  · simp [updV, upd, vp_nar, hq]
set_option maxHeartbeats 2000000 in
theorem S_aastore (B : BF p l R s m args meth c G D cyt lo md f CK SK) : Ru_aastore G f call md P0 (WX p l e R s m args below meth c G D cyt lo md CK SK Qt) := by
  intro pc lv M hi k n rest a n0 t v ci g i r vs h0 h1 h2 h3 h4 h5 h6 h7 H locs cells slots ls C
  have hlt : i.toNatClampNeg < n0 := Nat.not_le.mp fun q => h4 (Or.inr q)
  have hn0 : ¬ i < 0 := fun q => h4 (Or.inl q)
  have hcell : H[a]? = some (vp_cell (cyt t) (n0, .inr (.inr (.inr (.inr g))))) := (C.2.1.2 a _ h1).2
  have hat : va_at D vwCl (v, .inr (ci, vs)) H := (C.2.1.2 v _ h5).2
  obtain ⟨r', hr', cellV, g1, g2, g3, -⟩ := hat
  have hcls := (B.hK.1 ci r h6).2
  obtain ⟨kA, comp, k1, k2, k3, -⟩ := (show va_RA s (cyt t) (.object r.1) from h2 ▸ (B.hK.2 t _ (TYL_at h3)).2)
  have hcomp : comp = D.1 ci := Option.some.inj (k3.symm.trans hcls.1)
  subst hcomp
  obtain ⟨kC, hkC, -⟩ := hcls.2
  refine W.aast B.hx B.hb hcell (fun q h => by cases h) (fun h => by cases h) k1 k2 rfl hkC ⟨hn0, by show _ < (arrV _ _ _).slots.size; rw [arrV_size]; exact hlt⟩ g1 (fun q h => by rw [g3] at h; cases h) (by rw [g2]; exact hkC) (by rw [g2]; exact va_assign hcls) rfl rfl h0 fun H1 e z oq => ?_
  refine h7 H1 _ cells slots ls ⟨C.1, C.2.1.set (C.2.1.2 a _ h1).1 ?_ z oq, C.2.2.1.put z oq (C.2.1.2 a _ h1).1, C.2.2.2⟩
  show H1[a]? = some (vp_cell _ _)
  rw [e]
  rw [vp_cell_q, vp_cell_q, arrV_store]
  congr 2
  funext q
  by_cases hq : q = i.toNatClampNeg
  · subst hq
    simp [updV, va_up, va_rf]
  · simp [updV, va_up, hq]
set_option maxHeartbeats 2000000 in
theorem S_new (B : BF p l R s m args meth c G D cyt lo md f CK SK) : Ru_new G f call md P0 (WX p l e R s m args below meth c G D cyt lo md CK SK Qt) := by
  intro pc lv M hi k n rest idx ci N0 fs h0 h1 h2 H locs cells slots ls C
  obtain ⟨C0, T0, hc, w1, w2, w3, hdf⟩ := h1
  obtain ⟨hin, ⟨ty0, hty⟩, hnm⟩ := vwOK hc
  have hKn := B.hK.1 ci _ hc
  have hC4 := C.2.2.2.1
  have hC5 := C.2.2.2.2
  refine W.newcK B.hx B.hb B.own (B.hts _ w1) (B.hts _ w2) (B.hts _ w3) rfl h0 (by have := B.rc; omega) (by have := B.rs; omega) hKn.2.1 C.2.1.1 fun H1 kC hkC e1 z1 o1 => ?_
  refine h2 H1 locs (cells + 1) (slots + N0) ls ⟨C.1, C.2.1.push (B.lo_le (Nat.le_trans C.2.2.1.1 (Nat.le_of_eq C.2.1.1))) ?_ z1 o1, ⟨by have := C.2.2.1.1; have := C.2.1.1; omega, fun x q1 q2 => (o1 x (by have := C.2.2.1.1; have := C.2.1.1; omega)).trans (C.2.2.1.2.1 x q1 q2), C.2.2.1.2.2⟩, by omega, by omega⟩
  exact ⟨_, hc, (u_born ty0 B.hts hin hKn hkC e1 hty).to (fun j hj => hdf j hj _ (hty j hj))⟩
set_option maxHeartbeats 2000000 in
theorem S_newarray (B : BF p l R s m args meth c G D cyt lo md f CK SK) : Ru_newarray G f call md P0 (WX p l e R s m args below meth c G D cyt lo md CK SK Qt) := by
  intro pc lv M hi k n rest aty t N0 len x h0 h1 h2 h3 h4 h5 h6 h7 h8 H locs cells slots ls C
  have hC4 := C.2.2.2.1
  have hC5 := C.2.2.2.2
  refine va_newaK B.hx B.hb (B.hts _ h1) rfl h0 rfl h5 h6 (by cases aty <;> (first | (show N0 * 1 ≤ _; omega) | (show N0 * 2 ≤ _; omega) | (show N0 * 4 ≤ _; omega) | (show N0 * 8 ≤ _; omega))) (by have := B.rc; omega) (by have := B.rs; omega) C.2.1.1 fun H1 cA e1 z1 o1 hAr hNm => ?_
  have hcA : cA = cyt t := by
    have h9 := (B.hK.2 t _ (TYL_at (show t < 10 by omega))).2
    have h10 : s.vm.findClass ("[" ++ (tyk t).toString) = some (cyt t) := by
      match t, h3, h9 with
      | 0, _, h9 => exact h9
      | 1, _, h9 => exact h9
      | 2, _, h9 => exact h9
    rw [h2] at h10
    exact Option.some.inj (hNm.symm.trans h10)
  subst hcA
  refine h8 H1 locs (cells + 1) (slots + N0) ls ⟨C.1, C.2.1.push (B.lo_le (Nat.le_trans C.2.2.1.1 (Nat.le_of_eq C.2.1.1))) ?_ z1 o1, ⟨by have := C.2.2.1.1; have := C.2.1.1; omega, fun x q1 q2 => (o1 x (by have := C.2.2.1.1; have := C.2.1.1; omega)).trans (C.2.2.1.2.1 x q1 q2), C.2.2.1.2.2⟩, by omega, by omega⟩
  show H1[hi]? = some (vp_cell _ _)
  rw [h4]
  exact e1
set_option maxHeartbeats 2000000 in
theorem S_anew (B : BF p l R s m args meth c G D cyt lo md f CK SK) : Ru_anew G f call md P0 (WX p l e R s m args below meth c G D cyt lo md CK SK Qt) := by
  intro pc lv M hi k n rest idx t N0 len CC h0 h1 h2 h3 h4 h5 h6 h7 h8 H locs cells slots ls C
  have hC4 := C.2.2.2.1
  have hC5 := C.2.2.2.2
  subst h6
  refine W.anew B.hx B.hb B.own (B.hts _ h1) (va_AO.use (B.over h2)) rfl h0 rfl h5 (by omega) (by have := B.rc; omega) (by have := B.rs; omega) fun cA kA comp f1 f2 f3 f4 => ?_
  generalize hH1 : H.push ({ cls := cA, slots := Array.replicate len.toNatClampNeg .null, vm := .none } : Cell) = H1
  have z1 : H1.size = hi + 1 := by rw [← hH1, Array.size_push, C.2.1.1]
  have e1 : H1[hi]? = some (arrV cA len.toNatClampNeg (fun _ => .null)) := by rw [← hH1, ← C.2.1.1, Array.getElem?_push_size, ← arrV_new]
  have o1 : ∀ q : Nat, q < hi → H1[q]? = H[q]? := fun q hq => by rw [← hH1, Array.getElem?_push, if_neg (by have := C.2.1.1; omega)]
  have hcA : cA = cyt t := by
    have h9 := (B.hK.2 t _ (TYL_at h4)).2
    rw [h3] at h9
    obtain ⟨_, _, _, _, _, h10⟩ := h9
    exact Option.some.inj (f1.symm.trans h10)
  subst hcA
  rw [C.2.1.1]
  refine h8 H1 locs (cells + 1) (slots + len.toNatClampNeg) ls ⟨C.1, C.2.1.push (B.lo_le (Nat.le_trans C.2.2.1.1 (Nat.le_of_eq C.2.1.1))) ?_ z1 o1, ⟨by have := C.2.2.1.1; have := C.2.1.1; omega, fun x q1 q2 => (o1 x (by have := C.2.2.1.1; have := C.2.1.1; omega)).trans (C.2.2.1.2.1 x q1 q2), C.2.2.1.2.2⟩, by omega, by omega⟩
  show H1[hi]? = some (vp_cell _ _)
  rw [vp_cell_q]
  exact e1
set_option maxHeartbeats 2000000 in
theorem S_ldcI (B : BF p l R s m args meth c G D cyt lo md f CK SK) : Ru_ldcI G f call md P0 (WX p l e R s m args below meth c G D cyt lo md CK SK Qt) := by
  intro pc lv M hi k n rest idx v h0 h1 h2 H locs cells slots ls C
  exact lv_ldc B.hx B.hb B.own (B.hts _ h1) h0 (h2 H locs cells slots ls C)
set_option maxHeartbeats 2000000 in
theorem S_ldcS (B : BF p l R s m args meth c G D cyt lo md f CK SK) : Ru_ldcS G f call md P0 (WX p l e R s m args below meth c G D cyt lo md CK SK Qt) := by
  intro pc lv M hi k n rest idx j h0 h1 h2 H locs cells slots ls C
  exact va_ldcS B.hx B.hb B.own (B.str h1) h0 (h2 H locs cells slots ls C)
set_option maxHeartbeats 2000000 in
theorem S_ldcSW (B : BF p l R s m args meth c G D cyt lo md f CK SK) : Ru_ldcSW G f call md P0 (WX p l e R s m args below meth c G D cyt lo md CK SK Qt) := by
  intro pc lv M hi k n rest idx j h0 h1 h2 H locs cells slots ls C
  intro T hT X
  obtain ⟨t, a1, b1⟩ := h2 H locs cells slots ls C T hT X
  exact ⟨t, Jvm.Stand.ldcStringW X B.hx B.own (B.str h1).1 (B.str h1).2 (g := F0 m pc ls rest) rfl (by rw [B.hb]; exact h0) t a1, b1⟩
set_option maxHeartbeats 2000000 in
theorem S_mmin (B : BF p l R s m args meth c G D cyt lo md f CK SK) : Ru_mmin G f call md P0 (WX p l e R s m args below meth c G D cyt lo md CK SK Qt) := by
  intro pc lv M hi k n rest idx x y h0 h1 h2 h3 h4 H locs cells slots ls C
  have hC4 := C.2.2.2.1
  have hC5 := C.2.2.2.2
  have q1 := B.fr
  have q2 := B.lc
  exact va_mmin B.hx B.hb (B.ml.trans C.1.1.symm) B.own (B.hts _ h1) (B.hts _ mmin_static) (B.hts _ mmin_init) (B.hts _ mmin_code) (by omega) (by unfold csum at h2; omega) (by have := B.rc; omega) (by have := B.rs; omega) h0 (h4 H locs cells slots ls C)
set_option maxHeartbeats 2000000 in
theorem S_objInit (B : BF p l R s m args meth c G D cyt lo md f CK SK) : Ru_objInit G f call md P0 (WX p l e R s m args below meth c G D cyt lo md CK SK Qt) := by
  intro pc lv M hi k n rest idx a h0 h1 h2 h3 h4 H locs cells slots ls C
  have q1 := B.fr
  have q2 := B.lc
  exact W.objInit B.hx B.hb B.own (B.hts _ h1) (B.hts _ obj_inst) (B.hts _ obj_code) rfl (C.1.1.trans B.ml.symm) rfl h0 (by omega) (by unfold csum at h2; show 2 * 0 + _ + 12 ≤ _; omega) (h4 H locs cells slots ls C)
set_option maxHeartbeats 2000000 in
theorem S_callV (B : BF p l R s m args meth c G D cyt lo md f CK SK) (HC : HCt l G D cyt lo f call) (HO : HOt p l e R s m args below meth c D cyt lo md P0 CK SK Qt) : Ru_callV G f call md P0 (WX p l e R s m args below meth c G D cyt lo md CK SK Qt) := by
  intro pc lv M hi k n rest st As idx a nn k2 n2 md2 P h0 h1 h2 h3 h4 h5 h6 h7 h8 H locs cells slots ls C
  subst h4
  have hC4 := C.2.2.2.1
  have hC5 := C.2.2.2.2
  have q1 := B.fr
  have q2 := B.lc
  have q3 := B.rc
  have q4 := B.rs
  obtain ⟨hok, hhh, w1, w2, w3⟩ := h1
  obtain ⟨hf, hM⟩ := HC md2 (Value.ref a :: As) M hi k2 n2 P nn h6 hok
  obtain ⟨y, bytes, maxL, ret, hh⟩ := md2
  dsimp only at hhh
  subst hhh
  obtain ⟨o1, o2, o3, o4, o5, o6⟩ := hok
  have o7 : maxL ≤ 20 := o6
  have hHsz : lo ≤ H.size := B.lo_le C.2.2.1.1
  have hPc : ∀ U : State, U.heap = H → s.WarmedH U.vm → PcM G D cyt lo (Value.ref a :: As) M hi (Value.ref a :: As).toArray U := fun U hU hW => ⟨rfl, by rw [hU]; exact C.2.1, va_K.moved hW.alike B.hK, by rw [hU]; exact B.kh.go hW C.2.2.1, by rw [hU]; exact hHsz⟩
  have hrecv : ∃ cellB : Cell, H[a]? = some cellB ∧ cellB.vm.isStatics = false ∧ s.vm.findClass y.cls = some cellB.cls := by
    obtain ⟨ci, vs, r, g1, g2, g3⟩ := h3
    have hat : va_at D vwCl (a, .inr (ci, vs)) H := (C.2.1.2 a _ g1).2
    obtain ⟨r', hr', cell, e1, e2, e3, -⟩ := hat
    have hrr : r' = r := Option.some.inj (hr'.symm.trans g2)
    subst hrr
    exact ⟨cell, e1, by rw [e3]; rfl, by rw [← g3, e2]; exact (B.hK.1 ci _ g2).2.1⟩
  have hr : vx_Run p l e R s m args below meth c H locs cells slots k2 n2 (F0 m pc ls (As.reverse ++ .ref a :: rest)) rest (QcM D cyt lo P (Value.ref a :: As).toArray) (XcM D cyt lo P) (gA lo) := vx_runV (As := As) (rest := rest) ⟨B.hx, B.hb, B.ml, B.own, B.hts⟩ hM (cwV (C := y.cls) (ws' := TB) nn B.hts (goodIn_wsV w1 w2 w3 o3 o2) rfl rfl rfl ⟨rfl, o4.1, o4.2, o5⟩ ⟨by show f - 1 + 1 ≤ _; omega, by show 8 + (maxL + 11) + 39 * (f - 1) ≤ _; omega⟩) ⟨blindM, hrecv, hPc⟩ rfl h2 C.1.1 rfl (lv_room h5) h0 (show cells + k2 ≤ R.cells ∧ slots + n2 ≤ R.slots from ⟨by omega, by omega⟩)
  exact run_use hr C.2.2.1 (fun v M2 hi2 H1 locs1 hp rep hS => h7 v M2 hi2 hp H1 locs1 (cells + k2) (slots + n2) ls ⟨C.1, rep, hS, by omega, by omega⟩) (fun E ce q M2 hi2 H1 locs1 hp rep hS e1 e2 e3 => th_sound B HO (h8 E M2 hi2 hp) ⟨C.1, rep, hS, by omega, by omega⟩ e1 e2 e3)
set_option maxHeartbeats 2000000 in
theorem S_callS (B : BF p l R s m args meth c G D cyt lo md f CK SK) (HC : HCt l G D cyt lo f call) (HO : HOt p l e R s m args below meth c D cyt lo md P0 CK SK Qt) : Ru_callS G f call md P0 (WX p l e R s m args below meth c G D cyt lo md CK SK Qt) := by
  intro pc lv M hi k n rest st As idx a nn k2 n2 md2 P h0 h1 h2 h3 h4 h5 h6 h7 H locs cells slots ls C
  subst h3
  have hC4 := C.2.2.2.1
  have hC5 := C.2.2.2.2
  have q1 := B.fr
  have q2 := B.lc
  have q3 := B.rc
  have q4 := B.rs
  obtain ⟨hok, hhh, w1, w2⟩ := h1
  obtain ⟨hf, hM⟩ := HC md2 As M hi k2 n2 P nn h5 hok
  obtain ⟨y, bytes, maxL, ret, hh⟩ := md2
  dsimp only at hhh
  subst hhh
  obtain ⟨o1, o2, o3, o4, o5, o6⟩ := hok
  have o7 : maxL ≤ 20 := o6
  have hHsz : lo ≤ H.size := B.lo_le C.2.2.1.1
  have hPc : ∀ U : State, U.heap = H → s.WarmedH U.vm → PcM G D cyt lo As M hi As.toArray U := fun U hU hW => ⟨rfl, by rw [hU]; exact C.2.1, va_K.moved hW.alike B.hK, by rw [hU]; exact B.kh.go hW C.2.2.1, by rw [hU]; exact hHsz⟩
  have hr : vx_Run p l e R s m args below meth c H locs cells slots k2 n2 (F0 m pc ls (As.reverse ++ rest)) rest (QcM D cyt lo P As.toArray) (XcM D cyt lo P) (gA lo) := vx_runS (As := As) (rest := rest) ⟨B.hx, B.hb, B.ml, B.own, B.hts⟩ hM ⟨callB_of (ws' := TB) nn B.hts (goodIn_ws o2) rfl rfl rfl (B.hts _ o3) (B.hts _ w1) ⟨o4.1, o4.2, o5⟩ ⟨by show f - 1 + 1 ≤ _; omega, by show 8 + (maxL + 11) + 39 * (f - 1) ≤ _; omega⟩, B.hts _ w2⟩ ⟨blindM, hPc⟩ rfl h2 C.1.1 rfl (lv_room h4) h0 (show cells + k2 ≤ R.cells ∧ slots + n2 ≤ R.slots from ⟨by omega, by omega⟩)
  exact run_use hr C.2.2.1 (fun v M2 hi2 H1 locs1 hp rep hS => h6 v M2 hi2 hp H1 locs1 (cells + k2) (slots + n2) ls ⟨C.1, rep, hS, by omega, by omega⟩) (fun E ce q M2 hi2 H1 locs1 hp rep hS e1 e2 e3 => th_sound B HO (h7 E M2 hi2 hp) ⟨C.1, rep, hS, by omega, by omega⟩ e1 e2 e3)
set_option maxHeartbeats 2000000 in
theorem S_callSX (B : BF p l R s m args meth c G D cyt lo md f CK SK) (HC : HCt l G D cyt lo f call) (HO : HOt p l e R s m args below meth c D cyt lo md P0 CK SK Qt) : Ru_callSX G f call md P0 (WX p l e R s m args below meth c G D cyt lo md CK SK Qt) := by
  intro pc lv M hi k n rest st As idx a nn k2 n2 md2 P h0 h1 h2 h3 h4 h5 h6 h7 H locs cells slots ls C
  subst h3
  have hC4 := C.2.2.2.1
  have hC5 := C.2.2.2.2
  have q1 := B.fr
  have q2 := B.lc
  have q3 := B.rc
  have q4 := B.rs
  obtain ⟨hok, hhh, w1, w2⟩ := h1
  obtain ⟨hf, hM⟩ := HC md2 As M hi k2 n2 P nn h5 hok
  obtain ⟨y, bytes, maxL, ret, hh⟩ := md2
  dsimp only at hhh
  obtain ⟨z0, zs, hhh⟩ : ∃ z0 zs, hh = z0 :: zs := by cases hh with | nil => exact absurd rfl hhh | cons z0 zs => exact ⟨z0, zs, rfl⟩
  subst hhh
  obtain ⟨o1, o2, o3, o4, o5, o6⟩ := hok
  have o7 : maxL ≤ 20 := o6
  have hHsz : lo ≤ H.size := B.lo_le C.2.2.1.1
  have hPc : ∀ U : State, U.heap = H → s.WarmedH U.vm → PcM G D cyt lo As M hi As.toArray U := fun U hU hW => ⟨rfl, by rw [hU]; exact C.2.1, va_K.moved hW.alike B.hK, by rw [hU]; exact B.kh.go hW C.2.2.1, by rw [hU]; exact hHsz⟩
  have hr : vx_Run p l e R s m args below meth c H locs cells slots k2 n2 (F0 m pc ls (As.reverse ++ rest)) rest (QcM D cyt lo P As.toArray) (XcM D cyt lo P) (gA lo) := vx_runSX (hh := z0 :: zs) (As := As) (rest := rest) ⟨B.hx, B.hb, B.ml, B.own, B.hts⟩ hM (vx_cwSW (ws' := TB) nn B.hts (goodIn_vaS w1 w2 o3 o2) rfl rfl rfl ⟨o4.1, o4.2, o5⟩ ⟨by show f - 1 + 1 ≤ _; omega, by show 8 + (maxL + 11) + 39 * (f - 1) ≤ _; omega⟩) ⟨blindM, hPc⟩ rfl h2 C.1.1 rfl (lv_room h4) h0 (show cells + k2 ≤ R.cells ∧ slots + n2 ≤ R.slots from ⟨by omega, by omega⟩)
  exact run_use hr C.2.2.1 (fun v M2 hi2 H1 locs1 hp rep hS => h6 v M2 hi2 hp H1 locs1 (cells + k2) (slots + n2) ls ⟨C.1, rep, hS, by omega, by omega⟩) (fun E ce q M2 hi2 H1 locs1 hp rep hS e1 e2 e3 => th_sound B HO (h7 E M2 hi2 hp) ⟨C.1, rep, hS, by omega, by omega⟩ e1 e2 e3)
set_option maxHeartbeats 2000000 in
theorem S_callI (B : BF p l R s m args meth c G D cyt lo md f CK SK) (HC : HCt l G D cyt lo f call) : Ru_callI G f call md P0 (WX p l e R s m args below meth c G D cyt lo md CK SK Qt) := by
  intro pc lv M hi k n rest st As idx a nn k2 n2 md2 P h0 h1 h2 h3 h4 h5 h6 h7 H locs cells slots ls C
  subst h3
  have hC4 := C.2.2.2.1
  have hC5 := C.2.2.2.2
  have q1 := B.fr
  have q2 := B.lc
  have q3 := B.rc
  have q4 := B.rs
  obtain ⟨hok, hhh, hret, w1, w2, hnm⟩ := h1
  obtain ⟨hf, hM⟩ := HC md2 (Value.ref a :: As) M hi k2 n2 P nn h5 hok
  obtain ⟨y, bytes, maxL, ret, hh⟩ := md2
  dsimp only at hhh
  subst hhh
  dsimp only at hret
  subst hret
  obtain ⟨o1, o2, o3, o4, o5, o6⟩ := hok
  have o7 : maxL ≤ 20 := o6
  have hHsz : lo ≤ H.size := B.lo_le C.2.2.1.1
  have hPc : ∀ U : State, U.heap = H → s.WarmedH U.vm → PcM G D cyt lo (Value.ref a :: As) M hi (Value.ref a :: As).toArray U := fun U hU hW => ⟨rfl, by rw [hU]; exact C.2.1, va_K.moved hW.alike B.hK, by rw [hU]; exact B.kh.go hW C.2.2.1, by rw [hU]; exact hHsz⟩
  have hM2 := met_of_vx hM (fun E st t hx => by obtain ⟨M2, hi2, hp, -⟩ := hx; exact h7 E M2 hi2 hp)
  have hr : va_Run p l e R s m args below meth c H locs cells slots k2 n2 (F0 m pc ls (As.reverse ++ .ref a :: rest)) rest (QcM D cyt lo P (Value.ref a :: As).toArray) (gA lo) := va_runI (As := As) (rest := rest) ⟨B.hx, B.hb, B.ml, B.own, B.hts⟩ hM2 ⟨callB_of (ws' := TB) nn B.hts (goodIn_ws o2) rfl rfl rfl (B.hts _ o3) (B.hts _ w1) ⟨o4.1, o4.2, o5⟩ ⟨by show f - 1 + 1 ≤ _; omega, by show 8 + (maxL + 11) + 39 * (f - 1) ≤ _; omega⟩, hnm, B.hts _ w2⟩ ⟨blindM, hPc⟩ rfl h2 C.1.1 rfl (lv_room h4) h0 (show cells + k2 ≤ R.cells ∧ slots + n2 ≤ R.slots from ⟨by omega, by omega⟩)
  exact run_useI hr C.2.2.1 (fun v M2 hi2 H1 locs1 hp rep hS => h6 v M2 hi2 hp H1 locs1 (cells + k2) (slots + n2) ls ⟨C.1, rep, hS, by omega, by omega⟩)
set_option maxHeartbeats 2000000 in
theorem S_callN (B : BF p l R s m args meth c G D cyt lo md f CK SK) (HC : HCt l G D cyt lo f call) : Ru_callN G f call md P0 (WX p l e R s m args below meth c G D cyt lo md CK SK Qt) := by
  intro pc lv M hi k n rest st As idx a nn k2 n2 md2 P h0 h1 h2 h3 h4 h5 h6 h7 H locs cells slots ls C
  subst h3
  have hC4 := C.2.2.2.1
  have hC5 := C.2.2.2.2
  have q1 := B.fr
  have q2 := B.lc
  have q3 := B.rc
  have q4 := B.rs
  obtain ⟨hok, hhh, hret, w1, w2, hnm⟩ := h1
  obtain ⟨hf, hM⟩ := HC md2 (Value.ref a :: As) M hi k2 n2 P nn h5 hok
  obtain ⟨y, bytes, maxL, ret, hh⟩ := md2
  dsimp only at hhh
  subst hhh
  dsimp only at hret
  subst hret
  obtain ⟨o1, o2, o3, o4, o5, o6⟩ := hok
  have o7 : maxL ≤ 20 := o6
  have hHsz : lo ≤ H.size := B.lo_le C.2.2.1.1
  have hPc : ∀ U : State, U.heap = H → s.WarmedH U.vm → PcM G D cyt lo (Value.ref a :: As) M hi (Value.ref a :: As).toArray U := fun U hU hW => ⟨rfl, by rw [hU]; exact C.2.1, va_K.moved hW.alike B.hK, by rw [hU]; exact B.kh.go hW C.2.2.1, by rw [hU]; exact hHsz⟩
  have hM2 := met_of_vx hM (fun E st t hx => by obtain ⟨M2, hi2, hp, -⟩ := hx; exact h7 E M2 hi2 hp)
  obtain ⟨host, w1⟩ := w1
  have hr : va_Run p l e R s m args below meth c H locs cells slots k2 n2 (F0 m pc ls (As.reverse ++ .ref a :: rest)) rest (QcM D cyt lo P (Value.ref a :: As).toArray) (gA lo) := va_runIN (As := As) (rest := rest) ⟨B.hx, B.hb, B.ml, B.own, B.hts⟩ hM2 ⟨va_cnB (host := host) (ws' := TB) nn B.hts (goodIn_ws o2) rfl rfl rfl (B.nest w1) (B.hts _ o3) ⟨o4.1, o4.2, o5⟩ ⟨by show f - 1 + 1 ≤ _; omega, by show 8 + (maxL + 11) + 39 * (f - 1) ≤ _; omega⟩, hnm, B.hts _ w2⟩ ⟨blindM, hPc⟩ rfl h2 C.1.1 rfl (lv_room h4) h0 (show cells + k2 ≤ R.cells ∧ slots + n2 ≤ R.slots from ⟨by omega, by omega⟩)
  exact run_useI hr C.2.2.1 (fun v M2 hi2 H1 locs1 hp rep hS => h6 v M2 hi2 hp H1 locs1 (cells + k2) (slots + n2) ls ⟨C.1, rep, hS, by omega, by omega⟩)
set_option maxHeartbeats 2000000 in
theorem S_gstrV (B : BF p l R s m args meth c G D cyt lo md f CK SK) : Ru_gstrV G f call md P0 (WX p l e R s m args below meth c G D cyt lo md CK SK Qt) := by
  intro pc lv M hi k n rest idx j h0 h1 h2 h3 H locs cells slots ls C
  exact vk_getf B.hx B.hb (B.sS h2).2.2.1 C.2.2.1 B.own (B.hts _ h1) (fun _ h => h) h0 (h3 H locs cells slots ls C)
set_option maxHeartbeats 2000000 in
theorem S_gstrC (B : BF p l R s m args meth c G D cyt lo md f CK SK) : Ru_gstrC G f call md P0 (WX p l e R s m args below meth c G D cyt lo md CK SK Qt) := by
  intro pc lv M hi k n rest idx j h0 h1 h2 h3 H locs cells slots ls C
  exact vk_getf B.hx B.hb (B.sS h2).2.1 C.2.2.1 B.own (B.hts _ h1) (fun _ h => h) h0 (h3 H locs cells slots ls C)
set_option maxHeartbeats 2000000 in
theorem S_strlen (B : BF p l R s m args meth c G D cyt lo md f CK SK) : Ru_strlen G f call md P0 (WX p l e R s m args below meth c G D cyt lo md CK SK Qt) := by
  intro pc lv M hi k n rest j h0 h1 h2 H locs cells slots ls C
  exact va_tlen B.hx B.hb (B.sS h1).2.2.2 C.2.2.1 rfl h0 (h2 H locs cells slots ls C)
set_option maxHeartbeats 2000000 in
theorem S_strbyte (B : BF p l R s m args meth c G D cyt lo md f CK SK) : Ru_strbyte G f call md P0 (WX p l e R s m args below meth c G D cyt lo md CK SK Qt) := by
  intro pc lv M hi k n rest j i h0 h1 h2 h3 H locs cells slots ls C
  exact va_tb B.hx B.hb (B.sS h1).2.2.2 C.2.2.1 h2 rfl h0 (h3 H locs cells slots ls C)
set_option maxHeartbeats 2000000 in
theorem S_getsC (B : BF p l R s m args meth c G D cyt lo md f CK SK) : Ru_getsC G f call md P0 (WX p l e R s m args below meth c G D cyt lo md CK SK Qt) := by
  intro pc lv M hi k n rest idx h0 h1 h2 H locs cells slots ls C
  exact va_gets B.hx B.hb B.kh.2.2.2.2.2.2.2.2.2.2.1 C.2.2.1 B.own (B.hts _ h1) (fun _ h => h) h0 (h2 H locs cells slots ls C)
set_option maxHeartbeats 2000000 in
theorem S_getsF (B : BF p l R s m args meth c G D cyt lo md f CK SK) : Ru_getsF G f call md P0 (WX p l e R s m args below meth c G D cyt lo md CK SK Qt) := by
  intro pc lv M hi k n rest idx h0 h1 h2 h3 H locs cells slots ls C
  rcases B.kh.2.2.2.2.2.2.2.2.2.2.2 with hz | ⟨t, hz⟩
  · exact va_gets B.hx B.hb hz C.2.2.1 B.own (B.hts _ h1) (fun _ h => h) h0 (h2 H locs cells slots ls C)
  · exact va_gets B.hx B.hb hz C.2.2.1 B.own (B.hts _ h1) (fun _ h => h) h0 (h3 t H locs cells slots ls C)
set_option maxHeartbeats 2000000 in
theorem S_i2c (B : BF p l R s m args meth c G D cyt lo md f CK SK) : Ru_i2c G f call md P0 (WX p l e R s m args below meth c G D cyt lo md CK SK Qt) := by
  intro pc lv M hi k n rest x v h0 h1 h2 H locs cells slots ls C
  exact lv_i2c B.hx B.hb h0 h1 (h2 H locs cells slots ls C)
set_option maxHeartbeats 2000000 in
theorem S_callVS (B : BF p l R s m args meth c G D cyt lo md f CK SK) (HC : HCt l G D cyt lo f call) (HO : HOt p l e R s m args below meth c D cyt lo md P0 CK SK Qt) : Ru_callVS G f call md P0 (WX p l e R s m args below meth c G D cyt lo md CK SK Qt) := by
  intro pc lv M hi k n rest st As idx a nn k2 n2 md2 P j h0 h1 h2 h3 h4 h5 h6 h7 h8 H locs cells slots ls C
  subst h4
  have hC4 := C.2.2.2.1
  have hC5 := C.2.2.2.2
  have q1 := B.fr
  have q2 := B.lc
  have q3 := B.rc
  have q4 := B.rs
  obtain ⟨hok, hhh, w1, w2, w3⟩ := h1
  obtain ⟨hf, hM⟩ := HC md2 (Value.ref a :: As) M hi k2 n2 P nn h6 hok
  obtain ⟨y, bytes, maxL, ret, hh⟩ := md2
  dsimp only at hhh
  subst hhh
  obtain ⟨o1, o2, o3, o4, o5, o6⟩ := hok
  have o7 : maxL ≤ 20 := o6
  have hHsz : lo ≤ H.size := B.lo_le C.2.2.1.1
  have hPc : ∀ U : State, U.heap = H → s.WarmedH U.vm → PcM G D cyt lo (Value.ref a :: As) M hi (Value.ref a :: As).toArray U := fun U hU hW => ⟨rfl, by rw [hU]; exact C.2.1, va_K.moved hW.alike B.hK, by rw [hU]; exact B.kh.go hW C.2.2.1, by rw [hU]; exact hHsz⟩
  have hrecv : ∃ cellB : Cell, H[a]? = some cellB ∧ cellB.vm.isStatics = false ∧ s.vm.findClass y.cls = some cellB.cls := by
    obtain ⟨g1, g2, g3⟩ := h3
    dsimp only at g3
    rw [g1, g3]
    exact vk_recv B.kh.2.2.2.2.2.2.2.2.2.1 g2 C.2.2.1
  have hr : vx_Run p l e R s m args below meth c H locs cells slots k2 n2 (F0 m pc ls (As.reverse ++ .ref a :: rest)) rest (QcM D cyt lo P (Value.ref a :: As).toArray) (XcM D cyt lo P) (gA lo) := vx_runV (As := As) (rest := rest) ⟨B.hx, B.hb, B.ml, B.own, B.hts⟩ hM (cwV (C := y.cls) (ws' := TB) nn B.hts (goodIn_wsV w1 w2 w3 o3 o2) rfl rfl rfl ⟨rfl, o4.1, o4.2, o5⟩ ⟨by show f - 1 + 1 ≤ _; omega, by show 8 + (maxL + 11) + 39 * (f - 1) ≤ _; omega⟩) ⟨blindM, hrecv, hPc⟩ rfl h2 C.1.1 rfl (lv_room h5) h0 (show cells + k2 ≤ R.cells ∧ slots + n2 ≤ R.slots from ⟨by omega, by omega⟩)
  exact run_use hr C.2.2.1 (fun v M2 hi2 H1 locs1 hp rep hS => h7 v M2 hi2 hp H1 locs1 (cells + k2) (slots + n2) ls ⟨C.1, rep, hS, by omega, by omega⟩) (fun E ce q M2 hi2 H1 locs1 hp rep hS e1 e2 e3 => th_sound B HO (h8 E M2 hi2 hp) ⟨C.1, rep, hS, by omega, by omega⟩ e1 e2 e3)
set_option maxHeartbeats 2000000 in
theorem S_dup_x1 (B : BF p l R s m args meth c G D cyt lo md f CK SK) : Ru_dup_x1 G f call md P0 (WX p l e R s m args below meth c G D cyt lo md CK SK Qt) := by
  intro pc lv M hi k n rest va vb h0 h1 h2 h3 H locs cells slots ls C
  exact lv_dup_x1 B.hx B.hb h0 h1 h2 (h3 H locs cells slots ls C)
set_option maxHeartbeats 2000000 in
theorem S_mmax (B : BF p l R s m args meth c G D cyt lo md f CK SK) : Ru_mmax G f call md P0 (WX p l e R s m args below meth c G D cyt lo md CK SK Qt) := by
  intro pc lv M hi k n rest idx x y h0 h1 h2 h3 h4 H locs cells slots ls C
  have hC4 := C.2.2.2.1
  have hC5 := C.2.2.2.2
  have q1 := B.fr
  have q2 := B.lc
  exact va_mmax B.hx B.hb (B.ml.trans C.1.1.symm) B.own (B.hts _ h1) (B.hts _ mmax_static) (B.hts _ mmin_init) (B.hts _ mmax_code) (by omega) (by unfold csum at h2; omega) (by have := B.rc; omega) (by have := B.rs; omega) h0 (h4 H locs cells slots ls C)
set_option maxHeartbeats 2000000 in
theorem S_callU (B : BF p l R s m args meth c G D cyt lo md f CK SK) (HC : HCt l G D cyt lo f call) : Ru_callU G f call md P0 (WX p l e R s m args below meth c G D cyt lo md CK SK Qt) := by
  intro pc lv M hi k n rest st As idx a nn k2 n2 md2 P CR h0 h1 h2 h3 h4 h5 h6 h7 h8 H locs cells slots ls C
  subst h4
  have hC4 := C.2.2.2.1
  have hC5 := C.2.2.2.2
  have q1 := B.fr
  have q2 := B.lc
  have q3 := B.rc
  have q4 := B.rs
  obtain ⟨hok, hhh, hw⟩ := h1
  obtain ⟨hf, hM⟩ := HC md2 (Value.ref a :: As) M hi k2 n2 P nn h6 hok
  obtain ⟨y, bytes, maxL, ret, hh⟩ := md2
  dsimp only at hhh
  subst hhh
  obtain ⟨o1, o2, o3, o4, o5, o6⟩ := hok
  have o7 : maxL ≤ 20 := o6
  have hHsz : lo ≤ H.size := B.lo_le C.2.2.1.1
  have hPc : ∀ U : State, U.heap = H → s.WarmedH U.vm → PcM G D cyt lo (Value.ref a :: As) M hi (Value.ref a :: As).toArray U := fun U hU hW => ⟨rfl, by rw [hU]; exact C.2.1, va_K.moved hW.alike B.hK, by rw [hU]; exact B.kh.go hW C.2.2.1, by rw [hU]; exact hHsz⟩
  have hrecv : ∃ cellB : Cell, H[a]? = some cellB ∧ cellB.vm.isStatics = false ∧ s.vm.findClass CR = some cellB.cls := by
    obtain ⟨ci, vs, r, g1, g2, g3⟩ := h3
    have hat : va_at D vwCl (a, .inr (ci, vs)) H := (C.2.1.2 a _ g1).2
    obtain ⟨r', hr', cell, e1, e2, e3, -⟩ := hat
    have hrr : r' = r := Option.some.inj (hr'.symm.trans g2)
    subst hrr
    exact ⟨cell, e1, by rw [e3]; rfl, by rw [← g3, e2]; exact (B.hK.1 ci _ g2).2.1⟩
  have hM2 := met_of_vx hM (fun E st t hx => by obtain ⟨M2, hi2, hp, -⟩ := hx; exact h8 E M2 hi2 hp)
  obtain ⟨w1, w2, w3, w4⟩ := hw
  have hr : va_Run p l e R s m args below meth c H locs cells slots k2 n2 (F0 m pc ls (As.reverse ++ .ref a :: rest)) rest (QcM D cyt lo P (Value.ref a :: As).toArray) (gA lo) := va_runU (As := As) (rest := rest) ⟨B.hx, B.hb, B.ml, B.own, B.hts⟩ hM2 (va_cwU (C := CR) (owner := y.cls) (x := y) (ws' := TB) nn B.hts (goodIn_wsU w1 w2 w3 w4 o3 o2) rfl rfl rfl rfl ⟨o4.1, o4.2, o5⟩ ⟨by show f - 1 + 1 ≤ _; omega, by show 8 + (maxL + 11) + 39 * (f - 1) ≤ _; omega⟩) ⟨blindM, hrecv, hPc⟩ rfl h2 C.1.1 rfl (lv_room h5) h0 (show cells + k2 ≤ R.cells ∧ slots + n2 ≤ R.slots from ⟨by omega, by omega⟩)
  exact run_useI hr C.2.2.1 (fun v M2 hi2 H1 locs1 hp rep hS => h7 v M2 hi2 hp H1 locs1 (cells + k2) (slots + n2) ls ⟨C.1, rep, hS, by omega, by omega⟩)
set_option maxHeartbeats 2000000 in
theorem S_callSU (B : BF p l R s m args meth c G D cyt lo md f CK SK) (HC : HCt l G D cyt lo f call) : Ru_callSU G f call md P0 (WX p l e R s m args below meth c G D cyt lo md CK SK Qt) := by
  intro pc lv M hi k n rest st As idx a nn k2 n2 md2 P CR h0 h1 h2 h3 h4 h5 h6 h7 h8 H locs cells slots ls C
  subst h4
  have hC4 := C.2.2.2.1
  have hC5 := C.2.2.2.2
  have q1 := B.fr
  have q2 := B.lc
  have q3 := B.rc
  have q4 := B.rs
  obtain ⟨hok, hhh, hw⟩ := h1
  obtain ⟨hf, hM⟩ := HC md2 (Value.ref a :: As) M hi k2 n2 P nn h6 hok
  obtain ⟨y, bytes, maxL, ret, hh⟩ := md2
  dsimp only at hhh
  subst hhh
  obtain ⟨o1, o2, o3, o4, o5, o6⟩ := hok
  have o7 : maxL ≤ 20 := o6
  have hHsz : lo ≤ H.size := B.lo_le C.2.2.1.1
  have hPc : ∀ U : State, U.heap = H → s.WarmedH U.vm → PcM G D cyt lo (Value.ref a :: As) M hi (Value.ref a :: As).toArray U := fun U hU hW => ⟨rfl, by rw [hU]; exact C.2.1, va_K.moved hW.alike B.hK, by rw [hU]; exact B.kh.go hW C.2.2.1, by rw [hU]; exact hHsz⟩
  have hrecv : ∃ cellB : Cell, H[a]? = some cellB ∧ cellB.vm.isStatics = false ∧ s.vm.findClass CR = some cellB.cls := by
    obtain ⟨ci, vs, r, g1, g2, g3⟩ := h3
    have hat : va_at D vwCl (a, .inr (ci, vs)) H := (C.2.1.2 a _ g1).2
    obtain ⟨r', hr', cell, e1, e2, e3, -⟩ := hat
    have hrr : r' = r := Option.some.inj (hr'.symm.trans g2)
    subst hrr
    exact ⟨cell, e1, by rw [e3]; rfl, by rw [← g3, e2]; exact (B.hK.1 ci _ g2).2.1⟩
  have hM2 := met_of_vx hM (fun E st t hx => by obtain ⟨M2, hi2, hp, -⟩ := hx; exact h8 E M2 hi2 hp)
  obtain ⟨w1, w2, w3, w4, w5⟩ := hw
  obtain ⟨ci, vs, r, g1, g2, g3⟩ := h3
  have hKn := B.hK.1 ci _ g2
  obtain ⟨kC, hkC, hkind⟩ := hKn.2.2
  have hr : va_Run p l e R s m args below meth c H locs cells slots k2 n2 (F0 m pc ls (As.reverse ++ .ref a :: rest)) rest (QcM D cyt lo P (Value.ref a :: As).toArray) (gA lo) := va_runSU (C := CR) (cC := D.1 ci) (As := As) (rest := rest) ⟨by rw [← g3]; exact hKn.2.1, kC, hkC, hkind⟩ ⟨B.hx, B.hb, B.ml, B.own, B.hts⟩ hM2 (va_cwSU (ws' := TB) nn B.hts (goodIn_wsSU w1 w2 w3 w4 o3 o2) rfl rfl rfl ⟨w5, o5⟩ ⟨by show f - 1 + 1 ≤ _; omega, by show 8 + (maxL + 11) + 39 * (f - 1) ≤ _; omega⟩) ⟨blindM, hrecv, hPc⟩ rfl h2 C.1.1 rfl (lv_room h5) h0 (show cells + k2 ≤ R.cells ∧ slots + n2 ≤ R.slots from ⟨by omega, by omega⟩)
  exact run_useI hr C.2.2.1 (fun v M2 hi2 H1 locs1 hp rep hS => h7 v M2 hi2 hp H1 locs1 (cells + k2) (slots + n2) ls ⟨C.1, rep, hS, by omega, by omega⟩)
set_option maxHeartbeats 2000000 in
theorem S_callO (B : BF p l R s m args meth c G D cyt lo md f CK SK) (HC : HCt l G D cyt lo f call) : Ru_callO G f call md P0 (WX p l e R s m args below meth c G D cyt lo md CK SK Qt) := by
  intro pc lv M hi k n rest st As idx a nn k2 n2 md2 P CR xn h0 h1 h2 h3 h4 h5 h6 h7 h8 H locs cells slots ls C
  subst h4
  have hC4 := C.2.2.2.1
  have hC5 := C.2.2.2.2
  have q1 := B.fr
  have q2 := B.lc
  have q3 := B.rc
  have q4 := B.rs
  obtain ⟨hok, hhh, hw⟩ := h1
  obtain ⟨hf, hM⟩ := HC md2 (Value.ref a :: As) M hi k2 n2 P nn h6 hok
  obtain ⟨y, bytes, maxL, ret, hh⟩ := md2
  dsimp only at hhh
  subst hhh
  obtain ⟨o1, o2, o3, o4, o5, o6⟩ := hok
  have o7 : maxL ≤ 20 := o6
  have hHsz : lo ≤ H.size := B.lo_le C.2.2.1.1
  have hPc : ∀ U : State, U.heap = H → s.WarmedH U.vm → PcM G D cyt lo (Value.ref a :: As) M hi (Value.ref a :: As).toArray U := fun U hU hW => ⟨rfl, by rw [hU]; exact C.2.1, va_K.moved hW.alike B.hK, by rw [hU]; exact B.kh.go hW C.2.2.1, by rw [hU]; exact hHsz⟩
  have hrecv : ∃ cellB : Cell, H[a]? = some cellB ∧ cellB.vm.isStatics = false ∧ s.vm.findClass CR = some cellB.cls := by
    obtain ⟨ci, vs, r, g1, g2, g3⟩ := h3
    have hat : va_at D vwCl (a, .inr (ci, vs)) H := (C.2.1.2 a _ g1).2
    obtain ⟨r', hr', cell, e1, e2, e3, -⟩ := hat
    have hrr : r' = r := Option.some.inj (hr'.symm.trans g2)
    subst hrr
    exact ⟨cell, e1, by rw [e3]; rfl, by rw [← g3, e2]; exact (B.hK.1 ci _ g2).2.1⟩
  have hM2 := met_of_vx hM (fun E st t hx => by obtain ⟨M2, hi2, hp, -⟩ := hx; exact h8 E M2 hi2 hp)
  obtain ⟨w1, w2, w3, w4, w5, b0, m0, r0, w6, w7⟩ := hw
  have hr : va_Run p l e R s m args below meth c H locs cells slots k2 n2 (F0 m pc ls (As.reverse ++ .ref a :: rest)) rest (QcM D cyt lo P (Value.ref a :: As).toArray) (gA lo) := va_runU (As := As) (rest := rest) ⟨B.hx, B.hb, B.ml, B.own, B.hts⟩ hM2 (va_cwO (C := CR) (owner := xn.cls) (x := xn) (ws' := TB) (b0 := b0) (m0 := m0) (r0 := r0) nn B.hts (goodIn_wsO w1 w2 w3 w4 w5 o3 o2) rfl rfl rfl w6 w7 ⟨by show f - 1 + 1 ≤ _; omega, by show 8 + (maxL + 11) + 39 * (f - 1) ≤ _; omega⟩) ⟨blindM, hrecv, hPc⟩ rfl h2 C.1.1 rfl (lv_room h5) h0 (show cells + k2 ≤ R.cells ∧ slots + n2 ≤ R.slots from ⟨by omega, by omega⟩)
  exact run_useI hr C.2.2.1 (fun v M2 hi2 H1 locs1 hp rep hS => h7 v M2 hi2 hp H1 locs1 (cells + k2) (slots + n2) ls ⟨C.1, rep, hS, by omega, by omega⟩)
set_option maxHeartbeats 2000000 in
theorem S_copyb (B : BF p l R s m args meth c G D cyt lo md f CK SK) : Ru_copyb G f call md P0 (WX p l e R s m args below meth c G D cyt lo md CK SK Qt) := by
  intro pc lv M hi k n rest idx a0 a n0 n1 g0 g sp dp cn h0 h1 h2 h3 h4 h5 h6 h7 h8 h9 h10 H locs cells slots ls C
  have hC4 := C.2.2.2.1
  have hC5 := C.2.2.2.2
  have q1 := B.fr
  have q2 := B.lc
  obtain ⟨p1, p2, p3⟩ := h7
  have hlw : (rest.map fun v => v.category).sum + (nativeFrameWords "java/lang/System" "arraycopy" 5 + 11) ≤ R.locals := by
    have e : nativeFrameWords "java/lang/System" "arraycopy" 5 + 11 ≤ 31 := by decide
    unfold csum at h2
    omega
  have hfin : ∀ (H1 : Heap) (locs1 : List Loc), H1[a]? = some (vp_cell (cyt 0) (n1, .inl (va_cpy g0 g sp.toNatClampNeg dp.toNatClampNeg cn.toNatClampNeg))) → H1.size = H.size → (∀ q : Nat, q ≠ a → H1[q]? = H[q]?) → (∀ x ∈ locs1, x ∈ locs ∨ x.base = a) → W p l e R s m args below meth c H1 locs1 cells slots Qt (F0 m (pc + 3) ls rest) := by
    intro H1 locs1 r1 r2 r3 r4
    have hga : gA lo a := (C.2.1.2 a _ h5).1
    refine h10 H1 locs1 cells slots ls ⟨C.1, C.2.1.set hga r1 r2 r3, ⟨by rw [r2]; exact C.2.2.1.1, fun q g1 g2 => (r3 q (fun e9 => g2 (by rw [e9]; exact hga))).trans (C.2.2.1.2.1 q g1 g2), fun x hx => ?_⟩, C.2.2.2⟩
    rcases r4 x hx with h | h
    · exact C.2.2.1.2.2 x h
    · rw [h]; exact hga
  exact w_copy (n0 := n0) (f0 := g0) B.hx B.hb (B.ml.trans C.1.1.symm) B.own (B.hts _ h1) (B.hts _ acp_nat) (B.hts _ acp_stat) (B.hts _ acp_init) (C.2.1.2 a0 _ h4).2 ((B.hK.2 0 _ (TYL_at (by decide))).1 n0 (fun j => .int (g0 j))) (fun h => by cases h) (by show n0 ≤ (arrV _ _ _).slots.size; rw [arrV_size]; exact Nat.le_refl _) (fun j hj => arrV_read _ _ hj) (C.2.1.2 a _ h5).2 (B.hK.2 0 _ (TYL_at (by decide))).1 p1 p2 p3 h8.1 h8.2 h9 (by omega) hlw h0 hfin
set_option maxHeartbeats 2000000 in
theorem S_copyT (B : BF p l R s m args meth c G D cyt lo md f CK SK) : Ru_copyT G f call md P0 (WX p l e R s m args below meth c G D cyt lo md CK SK Qt) := by
  intro pc lv M hi k n rest idx j a n1 g sp dp cn h0 h1 h2 h3 h4 h5 h6 h7 h8 h9 h10 H locs cells slots ls C
  have hC4 := C.2.2.2.1
  have hC5 := C.2.2.2.2
  have q1 := B.fr
  have q2 := B.lc
  obtain ⟨p1, p2, p3⟩ := h7
  have hlw : (rest.map fun v => v.category).sum + (nativeFrameWords "java/lang/System" "arraycopy" 5 + 11) ≤ R.locals := by
    have e : nativeFrameWords "java/lang/System" "arraycopy" 5 + 11 ≤ 31 := by decide
    unfold csum at h2
    omega
  have hfin : ∀ (H1 : Heap) (locs1 : List Loc), H1[a]? = some (vp_cell (cyt 0) (n1, .inl (va_cpy (chS j) g sp.toNatClampNeg dp.toNatClampNeg cn.toNatClampNeg))) → H1.size = H.size → (∀ q : Nat, q ≠ a → H1[q]? = H[q]?) → (∀ x ∈ locs1, x ∈ locs ∨ x.base = a) → W p l e R s m args below meth c H1 locs1 cells slots Qt (F0 m (pc + 3) ls rest) := by
    intro H1 locs1 r1 r2 r3 r4
    have hga : gA lo a := (C.2.1.2 a _ h5).1
    refine h10 H1 locs1 cells slots ls ⟨C.1, C.2.1.set hga r1 r2 r3, ⟨by rw [r2]; exact C.2.2.1.1, fun q g1 g2 => (r3 q (fun e9 => g2 (by rw [e9]; exact hga))).trans (C.2.2.1.2.1 q g1 g2), fun x hx => ?_⟩, C.2.2.2⟩
    rcases r4 x hx with h | h
    · exact C.2.2.1.2.2 x h
    · rw [h]; exact hga
  obtain ⟨cell, t1, t2, t3, t4, t5, t6, t7⟩ := (B.sS h4).2.2.2
  have tlt : G.2.2.2.2 j < s.heap.size := (Array.getElem?_eq_some_iff.mp t1).1
  exact w_copy (n0 := lenS j) (f0 := chS j) B.hx B.hb (B.ml.trans C.1.1.symm) B.own (B.hts _ h1) (B.hts _ acp_nat) (B.hts _ acp_stat) (B.hts _ acp_init) ((C.2.2.1.2.1 _ tlt t7).trans t1) t2 t3 t4 (fun q hq => t6 q hq) (C.2.1.2 a _ h5).2 (B.hK.2 0 _ (TYL_at (by decide))).1 p1 p2 p3 h8.1 h8.2 h9 (by omega) hlw h0 hfin
set_option maxHeartbeats 2000000 in
theorem S_anewA (B : BF p l R s m args meth c G D cyt lo md f CK SK) : Ru_anewA G f call md P0 (WX p l e R s m args below meth c G D cyt lo md CK SK Qt) := by
  intro pc lv M hi k n rest idx t N0 len ET h0 h1 h2 h3 h4 h5 h6 h7 h8 H locs cells slots ls C
  have hC4 := C.2.2.2.1
  have hC5 := C.2.2.2.2
  subst h6
  refine W.anewA B.hx B.hb B.own (B.hts _ h1) (B.overA h2) rfl h0 rfl h5 (by omega) (by have := B.rc; omega) (by have := B.rs; omega) fun cA kA comp f1 f2 f3 f4 => ?_
  generalize hH1 : H.push ({ cls := cA, slots := Array.replicate len.toNatClampNeg .null, vm := .none } : Cell) = H1
  have z1 : H1.size = hi + 1 := by rw [← hH1, Array.size_push, C.2.1.1]
  have e1 : H1[hi]? = some (arrV cA len.toNatClampNeg (fun _ => .null)) := by rw [← hH1, ← C.2.1.1, Array.getElem?_push_size, ← arrV_new]
  have o1 : ∀ q : Nat, q < hi → H1[q]? = H[q]? := fun q hq => by rw [← hH1, Array.getElem?_push, if_neg (by have := C.2.1.1; omega)]
  have hcA : cA = cyt t := by
    have h9 : s.vm.findClass ("[" ++ (FieldType.array ET).toString) = some (cyt t) := by
      have h99 := (B.hK.2 t _ (TYL_at h4)).2
      rw [h3] at h99
      exact h99
    exact Option.some.inj (f1.symm.trans h9)
  subst hcA
  rw [C.2.1.1]
  refine h8 H1 locs (cells + 1) (slots + len.toNatClampNeg) ls ⟨C.1, C.2.1.push (B.lo_le (Nat.le_trans C.2.2.1.1 (Nat.le_of_eq C.2.1.1))) ?_ z1 o1, ⟨by have := C.2.2.1.1; have := C.2.1.1; omega, fun x q1 q2 => (o1 x (by have := C.2.2.1.1; have := C.2.1.1; omega)).trans (C.2.2.1.2.1 x q1 q2), C.2.2.1.2.2⟩, by omega, by omega⟩
  show H1[hi]? = some (vp_cell _ _)
  rw [vp_cell_q]
  exact e1
set_option maxHeartbeats 2000000 in
theorem S_aaldA (B : BF p l R s m args meth c G D cyt lo md f CK SK) : Ru_aaldA G f call md P0 (WX p l e R s m args below meth c G D cyt lo md CK SK Qt) := by
  intro pc lv M hi k n rest a n0 t g i ET h0 h1 h2 h3 h4 h5 H locs cells slots ls C
  have hcell : H[a]? = some (vp_cell (cyt t) (n0, .inr (.inr (.inr (.inr g))))) := (C.2.1.2 a _ h1).2
  have hlt : i.toNatClampNeg < n0 := Nat.not_le.mp fun q => h4 (Or.inr q)
  have hA := (B.hK.2 t _ (TYL_at h3)).1 n0 (fun j => va_rf (g j))
  rw [h2] at hA
  exact W.aald (ty := .array ET) (v := va_rf (g i.toNatClampNeg)) B.hx B.hb hcell hA rfl (fun q => by cases q) (by show ¬ (i < 0 ∨ (arrV _ _ _).slots.size ≤ _); rw [arrV_size]; exact h4) (arrV_read _ _ hlt) rfl rfl h0 (h5 H locs cells slots ls C)
set_option maxHeartbeats 2000000 in
theorem S_aastA (B : BF p l R s m args meth c G D cyt lo md f CK SK) : Ru_aastA G f call md P0 (WX p l e R s m args below meth c G D cyt lo md CK SK Qt) := by
  intro pc lv M hi k n rest a n0 t v t2 g x2 i ET h0 h1 h2 h3 h4 h5 h6 h7 h8 H locs cells slots ls C
  have hlt : i.toNatClampNeg < n0 := Nat.not_le.mp fun q => h4 (Or.inr q)
  have hn0 : ¬ i < 0 := fun q => h4 (Or.inl q)
  have hcell : H[a]? = some (vp_cell (cyt t) (n0, .inr (.inr (.inr (.inr g))))) := (C.2.1.2 a _ h1).2
  have hcv : H[v]? = some (vp_cell (cyt t2) x2) := (C.2.1.2 v _ h5).2
  obtain ⟨comp, c9, k9, u1, -, u2, u3, u4⟩ := arrayOverA_spec (B.overA h7)
  have e1 : c9 = cyt t := by
    have h99 := (B.hK.2 t _ (TYL_at h3)).2
    rw [h2] at h99
    exact Option.some.inj (u4.symm.trans h99)
  subst e1
  have e2 : comp = cyt t2 := by
    have h99 := (B.hK.2 t2 _ (TYL_at (show t2 < 10 by omega))).2
    have h98 : s.vm.findClass ("[" ++ ET.toString) = some (cyt t2) := by
      rw [← h6.1]
      obtain ⟨-, h61⟩ := h6
      match t2, h61, h99 with
      | 0, _, h99 => exact h99
      | 1, _, h99 => exact h99
      | 2, _, h99 => exact h99
    exact Option.some.inj (u1.symm.trans h98)
  subst e2
  obtain ⟨-, kv, hkv, cmv, hkkv⟩ := (B.hK.2 t2 _ (TYL_at (show t2 < 10 by omega))).1 0 (fun _ => .null)
  have hcls2 : (vp_cell (cyt t2) x2).cls = cyt t2 := by obtain ⟨n9, f | f | f | f | f⟩ := x2 <;> rfl
  have hvm2 : (vp_cell (cyt t2) x2).vm = .none := by obtain ⟨n9, f | f | f | f | f⟩ := x2 <;> rfl
  refine W.aast B.hx B.hb hcell (fun q h => by cases h) (fun h => by cases h) u2 u3 rfl hkv ⟨hn0, by show _ < (arrV _ _ _).slots.size; rw [arrV_size]; exact hlt⟩ hcv (fun q h => by rw [hvm2] at h; cases h) (by rw [hcls2]; exact hkv) (by rw [hcls2]; exact va_asg _ _) rfl rfl h0 fun H1 e z oq => ?_
  refine h8 H1 _ cells slots ls ⟨C.1, C.2.1.set (C.2.1.2 a _ h1).1 ?_ z oq, C.2.2.1.put z oq (C.2.1.2 a _ h1).1, C.2.2.2⟩
  show H1[a]? = some (vp_cell _ _)
  rw [e]
  rw [vp_cell_q, vp_cell_q, arrV_store]
  congr 2
  funext q
  by_cases hq : q = i.toNatClampNeg
  · subst hq
    simp [updV, va_up, va_rf]
  · simp [updV, va_up, hq]
set_option maxHeartbeats 2000000 in
theorem S_mna (B : BF p l R s m args meth c G D cyt lo md f CK SK) : Ru_mna G f call md P0 (WX p l e R s m args below meth c G D cyt lo md CK SK Qt) := by
  intro pc lv M hi k n rest idx t t2 N1 N2 n1 n2 z2 ET h0 h1 h2 h3 h4 h5 h6 h7 h8 h9 H locs cells slots ls C
  have hC4 := C.2.2.2.1
  have hC5 := C.2.2.2.2
  obtain ⟨p1, rfl, p2⟩ := h6
  obtain ⟨r1, rfl, r2⟩ := h7
  have hET : ET = .byte ∨ ET = .int ∨ ET = .boolean := by
    obtain ⟨h41, h42⟩ := h4
    match t2, h42, h41 with
    | 0, _, h41 => exact Or.inl h41.symm
    | 1, _, h41 => exact Or.inr (Or.inl h41.symm)
    | 2, _, h41 => exact Or.inr (Or.inr h41.symm)
  have hcb : componentBytes ET ≤ 4 := by rcases hET with rfl | rfl | rfl <;> decide
  have hb2 : n2.toNatClampNeg * componentBytes ET ≤ 536870912 := Nat.le_trans (Nat.mul_le_mul r2 hcb) (by decide)
  have hdf : fits ET (defaultValue ET) = true := by rcases hET with rfl | rfl | rfl <;> rfl
  have hdd : (defaultValue ET).isDefault = true := by rcases hET with rfl | rfl | rfl <;> rfl
  intro T hT Xs
  obtain ⟨vm₁, cA, comp, -, fA, fC, -, -, X', step⟩ := Xs.multianewarray2F B.hx B.own (B.hts _ h1) (B.overA h2) (B.hts _ h5) (g := F0 m pc ls (.int n2 :: .int n1 :: rest)) rfl (by rw [B.hb]; exact h0) rfl p1 r1 (by omega) hb2 (by omega) hdf hdd (by have := B.rc; omega) (by have := B.rs; omega)
  have e1 : cA = cyt t := by
    have h99 := (B.hK.2 t _ (TYL_at h3.2)).2
    rw [h3.1] at h99
    exact Option.some.inj (fA.symm.trans h99)
  have e2 : comp = cyt t2 := by
    have h99 := (B.hK.2 t2 _ (TYL_at (show t2 < 10 by omega))).2
    have h98 : s.vm.findClass ("[" ++ ET.toString) = some (cyt t2) := by
      rw [← h4.1]
      obtain ⟨-, h41⟩ := h4
      match t2, h41, h99 with
      | 0, _, h99 => exact h99
      | 1, _, h99 => exact h99
      | 2, _, h99 => exact h99
    exact Option.some.inj (fC.symm.trans h98)
  subst e1
  subst e2
  generalize hF : Jvm.Free.Multi.fill (T.setVm vm₁) (cyt t) (cyt t2) n1.toNatClampNeg n2.toNatClampNeg (defaultValue ET) n1.toNatClampNeg = F at X' step
  have hTh : (T.setVm vm₁).heap = H := hT
  obtain ⟨f1, f2, -, -⟩ := Jvm.Free.Multi.fill_facts (T.setVm vm₁) (cyt t) (cyt t2) n1.toNatClampNeg n2.toNatClampNeg (defaultValue ET) n1.toNatClampNeg
  rw [hF, hTh] at f1 f2
  have hold : ∀ x : Nat, x < H.size → F.heap[x]? = H[x]? := fun x hx => by
    have := Jvm.Free.Multi.fill_old (T.setVm vm₁) (cyt t) (cyt t2) n1.toNatClampNeg n2.toNatClampNeg (defaultValue ET) (a := x) (by rw [hTh]; exact hx) n1.toNatClampNeg
    rw [hF, hTh] at this
    exact this
  have hrow : ∀ j : Nat, j < n1.toNatClampNeg → F.heap[H.size + 1 + j]? = some (vp_cell (cyt t2) z2) := fun j hj => by
    have := Jvm.Free.Multi.fill_inner (T.setVm vm₁) (cyt t) (cyt t2) n1.toNatClampNeg n2.toNatClampNeg (defaultValue ET) n1.toNatClampNeg j hj
    rw [hF, hTh] at this
    rw [this, h8, ← arrV_new]
    rfl
  have hsz := C.2.1.1
  rw [vr_outer, hsz] at f2
  have hge := B.lo_le C.2.2.1.1
  have hrep : RepH D cyt lo (mrows M hi n1.toNatClampNeg (.inl (t, n1.toNatClampNeg, .inr (.inr (.inr (.inr (fun i => if i < n1.toNatClampNeg then some (hi + 1 + i) else none)))))) (.inl (t2, z2))) (hi + 1 + n1.toNatClampNeg) F.heap := by
    refine ⟨by rw [f1, hsz], fun a e he => ?_⟩
    unfold mrows at he
    by_cases ha : a = hi
    · subst ha
      rw [if_pos rfl] at he
      cases he
      refine ⟨by show lo ≤ _; omega, ?_⟩
      show F.heap[_]? = some (vp_cell _ _)
      rw [vp_cell_q]
      exact f2
    · rw [if_neg ha] at he
      by_cases hb : hi < a ∧ a ≤ hi + n1.toNatClampNeg
      · rw [if_pos hb] at he
        cases he
        refine ⟨by show lo ≤ _; omega, ?_⟩
        have h77 := hrow (a - hi - 1) (by omega)
        rw [hsz, show hi + 1 + (a - hi - 1) = a by omega] at h77
        exact h77
      · rw [if_neg hb] at he
        obtain ⟨w1, w2⟩ := C.2.1.2 a e he
        exact ⟨w1, w2.kept (hold a w2.lt)⟩
  obtain ⟨t9, a1, b1⟩ := h9 F.heap locs (cells + 1 + n1.toNatClampNeg) (slots + n1.toNatClampNeg + n1.toNatClampNeg * n2.toNatClampNeg) ls ⟨C.1, hrep, ⟨by rw [f1]; have := C.2.2.1.1; omega, fun x q1 q2 => (hold x (Nat.lt_of_lt_of_le q1 C.2.2.1.1)).trans (C.2.2.1.2.1 x q1 q2), C.2.2.1.2.2⟩, by omega, by omega⟩ F rfl X'
  refine ⟨t9, step t9 ?_, b1⟩
  rw [show T.heap.size = hi from by rw [hT]; exact hsz]
  exact a1
set_option maxHeartbeats 2000000 in
theorem S_cloneb (B : BF p l R s m args meth c G D cyt lo md f CK SK) : Ru_cloneb G f call md P0 (WX p l e R s m args below meth c G D cyt lo md CK SK Qt) := by
  intro pc lv M hi k n rest idx a n0 g h0 h1 h2 h3 h4 h5 h6 H locs cells slots ls C
  have hC4 := C.2.2.2.1
  have hC5 := C.2.2.2.2
  have q1 := B.fr
  have q2 := B.lc
  have hvm0 : (vp_cell (cyt 0) (n0, .inl g)).vm = .none := rfl
  have hcl0 : (vp_cell (cyt 0) (n0, .inl g)).cls = cyt 0 := rfl
  have hsz : (vp_cell (cyt 0) (n0, .inl g)).slots.size = n0 := arrV_size _ _ _
  have hnm : s.vm.findClass "[B" = some (cyt 0) := (B.hK.2 0 _ (TYL_at (by decide))).2
  obtain ⟨c0, t0', f1, f2, f3⟩ := Cond.castable_spec (B.cst (E := "[B") (nm := "java/lang/Cloneable") (by decide))
  cases hnm.symm.trans f1
  intro T hT X
  have hcellT : T.heap[a]? = some (vp_cell (cyt 0) (n0, .inl g)) := by rw [hT]; exact (C.2.1.2 a _ h4).2
  obtain ⟨-, kA, hkA, comp, hkind⟩ := State.isArrayOf_alike X.warmed.alike ((B.hK.2 0 _ (TYL_at (by decide))).1 0 (fun _ => .null))
  obtain ⟨-, kS, hkS, compS, hkindS⟩ := (B.hK.2 0 _ (TYL_at (by decide))).1 0 (fun _ => .null)
  obtain ⟨vm', X', st⟩ := X.cloneArray B.hx B.own (B.hts _ h1) (B.hts _ cl_same) (B.hts _ cl_nat) (B.hts _ cl_inst) (B.hts _ cl_sel) (a := a) (cell := vp_cell (cyt 0) (n0, .inl g)) hcellT (fun k h => by cases h) (fun h => by cases h) hnm f2 f3
    (fun i v hv => by
      have hk' : T.vm.classes[cyt 0]? = some kA := hkA
      have hi : i < n0 := by
        have := (Array.getElem?_eq_some_iff.mp hv).1
        rw [hsz] at this
        exact this
      have hv2 : v = .int (g i) := Option.some.inj (hv.symm.trans (arrV_read _ _ hi))
      subst hv2
      rw [hcl0]
      simpa [State.fitsSlot, State.slotType?, hk', hkind, tyk] using h5 i hi)
    (g := F0 m pc ls (.ref a :: rest)) rfl (C.1.1.trans B.ml.symm) rfl (by rw [B.hb]; exact h0) (by omega) (by unfold csum at h2; show 2 * 0 + _ + 14 ≤ _; omega) (by have := B.rc; omega) (by rw [hsz]; have := B.rs; omega) (hloader := Vm.clonesLoader_of_array hkS hkindS)
  rw [hsz] at X'
  generalize hH1 : H.push (vp_cell (cyt 0) (n0, .inl g)) = H1
  have z1 : H1.size = hi + 1 := by rw [← hH1, Array.size_push, C.2.1.1]
  have e1 : H1[hi]? = some (vp_cell (cyt 0) (n0, .inl g)) := by rw [← hH1, ← C.2.1.1, Array.getElem?_push_size]
  have o1 : ∀ q : Nat, q < hi → H1[q]? = H[q]? := fun q hq => by rw [← hH1, Array.getElem?_push, if_neg (by have := C.2.1.1; omega)]
  obtain ⟨t, b1, b2⟩ := h6 H1 locs (cells + 1) (slots + n0) ls ⟨C.1, C.2.1.push (B.lo_le (Nat.le_trans C.2.2.1.1 (Nat.le_of_eq C.2.1.1))) e1 z1 o1, ⟨by have := C.2.2.1.1; have := C.2.1.1; omega, fun x q1 q2 => (o1 x (by have := C.2.2.1.1; have := C.2.1.1; omega)).trans (C.2.2.1.2.1 x q1 q2), C.2.2.1.2.2⟩, by omega, by omega⟩
    ((T.setVm vm').pushCell (vp_cell (cyt 0) (n0, .inl g))) (by rw [← hH1, ← hT]; rfl) X'
  refine ⟨t, st t ?_, b2⟩
  rw [hT, C.2.1.1]
  exact b1
set_option maxHeartbeats 2000000 in
theorem S_castb (B : BF p l R s m args meth c G D cyt lo md f CK SK) : Ru_castb G f call md P0 (WX p l e R s m args below meth c G D cyt lo md CK SK Qt) := by
  intro pc lv M hi k n rest idx a x h0 h1 h2 h3 H locs cells slots ls C
  exact va_castA (D := D) (cl := vwCl) (ws := [(a, .inl (cyt 0, x))]) B.hx B.hb B.own (B.hts _ h1) (one_P (C.2.1.2 a _ h2).2) 0 rfl (B.hK.2 0 _ (TYL_at (by decide))).2 h0 (h3 H locs cells slots ls C)
set_option maxHeartbeats 2000000 in
theorem S_getsD (B : BF p l R s m args meth c G D cyt lo md f CK SK) : Ru_getsD G f call md P0 (WX p l e R s m args below meth c G D cyt lo md CK SK Qt) := by
  intro pc lv M hi k n rest idx h0 h1 h2 H locs cells slots ls C
  exact va_gets B.hx B.hb B.dig.1 C.2.2.1 B.own (B.hts _ h1) (fun _ h => h) h0 (h2 H locs cells slots ls C)
set_option maxHeartbeats 2000000 in
theorem S_digb (B : BF p l R s m args meth c G D cyt lo md f CK SK) : Ru_digb G f call md P0 (WX p l e R s m args below meth c G D cyt lo md CK SK Qt) := by
  intro pc lv M hi k n rest i h0 h1 h2 H locs cells slots ls C
  exact va_tb B.hx B.hb B.dig.2 C.2.2.1 h1 rfl h0 (h2 H locs cells slots ls C)
set_option maxHeartbeats 2000000 in
theorem S_callVm (B : BF p l R s m args meth c G D cyt lo md f CK SK) (HC : HCt l G D cyt lo f call) (HO : HOt p l e R s m args below meth c D cyt lo md P0 CK SK Qt) : Ru_callVm G f call md P0 (WX p l e R s m args below meth c G D cyt lo md CK SK Qt) := by
  intro pc lv M hi k n rest st As idx a nn k2 n2 md2 P h0 h1 h2 h3 h4 h5 h6 h7 h8 H locs cells slots ls C
  subst h4
  have hC4 := C.2.2.2.1
  have hC5 := C.2.2.2.2
  have q1 := B.fr
  have q2 := B.lc
  have q3 := B.rc
  have q4 := B.rs
  obtain ⟨hok, hhh, w1, w2, w3⟩ := h1
  obtain ⟨hf, hM⟩ := HC md2 (Value.ref a :: As) M hi k2 n2 P nn h6 hok
  obtain ⟨y, bytes, maxL, ret, hh⟩ := md2
  dsimp only at hhh
  subst hhh
  obtain ⟨o1, o2, o3, o4, o5, o6⟩ := hok
  have o7 : maxL ≤ 20 := o6
  have hHsz : lo ≤ H.size := B.lo_le C.2.2.1.1
  have hPc : ∀ U : State, U.heap = H → s.WarmedH U.vm → PcM G D cyt lo (Value.ref a :: As) M hi (Value.ref a :: As).toArray U := fun U hU hW => ⟨rfl, by rw [hU]; exact C.2.1, va_K.moved hW.alike B.hK, by rw [hU]; exact B.kh.go hW C.2.2.1, by rw [hU]; exact hHsz⟩
  have hrecv : ∃ cellB : Cell, H[a]? = some cellB ∧ cellB.vm.isStatics = false ∧ s.vm.findClass y.cls = some cellB.cls := by
    obtain ⟨ci, vs, r, g1, g2, g3⟩ := h3
    have hat : va_at D vwCl (a, .inr (ci, vs)) H := (C.2.1.2 a _ g1).2
    obtain ⟨r', hr', cell, e1, e2, e3, -⟩ := hat
    have hrr : r' = r := Option.some.inj (hr'.symm.trans g2)
    subst hrr
    exact ⟨cell, e1, by rw [e3]; rfl, by rw [← g3, e2]; exact (B.hK.1 ci _ g2).2.1⟩
  have hr : vx_Run p l e R s m args below meth c H locs cells slots k2 n2 (F0 m pc ls (As.reverse ++ .ref a :: rest)) rest (QcM D cyt lo P (Value.ref a :: As).toArray) (XcM D cyt lo P) (gA lo) := vx_runV (As := As) (rest := rest) ⟨B.hx, B.hb, B.ml, B.own, B.hts⟩ hM (cwV (C := y.cls) (ws' := TB) nn B.hts (goodIn_wsV w1 w2 w3 o3 o2) rfl rfl rfl ⟨rfl, o4.1, o4.2, o5⟩ ⟨by show f - 1 + 1 ≤ _; omega, by show 8 + (maxL + 11) + 39 * (f - 1) ≤ _; omega⟩) ⟨blindM, hrecv, hPc⟩ rfl h2 C.1.1 rfl (lv_room h5) h0 (show cells + k2 ≤ R.cells ∧ slots + n2 ≤ R.slots from ⟨by omega, by omega⟩)
  exact run_useM hr C.2.2.1 (fun v M2 hi2 H1 locs1 hle hp rep hS => h7 v M2 hi2 (by rw [← C.2.1.1, ← rep.1]; exact hle) hp H1 locs1 (cells + k2) (slots + n2) ls ⟨C.1, rep, hS, by omega, by omega⟩) (fun E ce q M2 hi2 H1 locs1 hle hp rep hS e1 e2 e3 => th_sound B HO (h8 E M2 hi2 (by rw [← C.2.1.1, ← rep.1]; exact hle) hp) ⟨C.1, rep, hS, by omega, by omega⟩ e1 e2 e3)
set_option maxHeartbeats 2000000 in
theorem S_callSm (B : BF p l R s m args meth c G D cyt lo md f CK SK) (HC : HCt l G D cyt lo f call) (HO : HOt p l e R s m args below meth c D cyt lo md P0 CK SK Qt) : Ru_callSm G f call md P0 (WX p l e R s m args below meth c G D cyt lo md CK SK Qt) := by
  intro pc lv M hi k n rest st As idx a nn k2 n2 md2 P h0 h1 h2 h3 h4 h5 h6 h7 H locs cells slots ls C
  subst h3
  have hC4 := C.2.2.2.1
  have hC5 := C.2.2.2.2
  have q1 := B.fr
  have q2 := B.lc
  have q3 := B.rc
  have q4 := B.rs
  obtain ⟨hok, hhh, w1, w2⟩ := h1
  obtain ⟨hf, hM⟩ := HC md2 As M hi k2 n2 P nn h5 hok
  obtain ⟨y, bytes, maxL, ret, hh⟩ := md2
  dsimp only at hhh
  subst hhh
  obtain ⟨o1, o2, o3, o4, o5, o6⟩ := hok
  have o7 : maxL ≤ 20 := o6
  have hHsz : lo ≤ H.size := B.lo_le C.2.2.1.1
  have hPc : ∀ U : State, U.heap = H → s.WarmedH U.vm → PcM G D cyt lo As M hi As.toArray U := fun U hU hW => ⟨rfl, by rw [hU]; exact C.2.1, va_K.moved hW.alike B.hK, by rw [hU]; exact B.kh.go hW C.2.2.1, by rw [hU]; exact hHsz⟩
  have hr : vx_Run p l e R s m args below meth c H locs cells slots k2 n2 (F0 m pc ls (As.reverse ++ rest)) rest (QcM D cyt lo P As.toArray) (XcM D cyt lo P) (gA lo) := vx_runS (As := As) (rest := rest) ⟨B.hx, B.hb, B.ml, B.own, B.hts⟩ hM ⟨callB_of (ws' := TB) nn B.hts (goodIn_ws o2) rfl rfl rfl (B.hts _ o3) (B.hts _ w1) ⟨o4.1, o4.2, o5⟩ ⟨by show f - 1 + 1 ≤ _; omega, by show 8 + (maxL + 11) + 39 * (f - 1) ≤ _; omega⟩, B.hts _ w2⟩ ⟨blindM, hPc⟩ rfl h2 C.1.1 rfl (lv_room h4) h0 (show cells + k2 ≤ R.cells ∧ slots + n2 ≤ R.slots from ⟨by omega, by omega⟩)
  exact run_useM hr C.2.2.1 (fun v M2 hi2 H1 locs1 hle hp rep hS => h6 v M2 hi2 (by rw [← C.2.1.1, ← rep.1]; exact hle) hp H1 locs1 (cells + k2) (slots + n2) ls ⟨C.1, rep, hS, by omega, by omega⟩) (fun E ce q M2 hi2 H1 locs1 hle hp rep hS e1 e2 e3 => th_sound B HO (h7 E M2 hi2 (by rw [← C.2.1.1, ← rep.1]; exact hle) hp) ⟨C.1, rep, hS, by omega, by omega⟩ e1 e2 e3)
set_option maxHeartbeats 2000000 in
theorem S_callSXm (B : BF p l R s m args meth c G D cyt lo md f CK SK) (HC : HCt l G D cyt lo f call) (HO : HOt p l e R s m args below meth c D cyt lo md P0 CK SK Qt) : Ru_callSXm G f call md P0 (WX p l e R s m args below meth c G D cyt lo md CK SK Qt) := by
  intro pc lv M hi k n rest st As idx a nn k2 n2 md2 P h0 h1 h2 h3 h4 h5 h6 h7 H locs cells slots ls C
  subst h3
  have hC4 := C.2.2.2.1
  have hC5 := C.2.2.2.2
  have q1 := B.fr
  have q2 := B.lc
  have q3 := B.rc
  have q4 := B.rs
  obtain ⟨hok, hhh, w1, w2⟩ := h1
  obtain ⟨hf, hM⟩ := HC md2 As M hi k2 n2 P nn h5 hok
  obtain ⟨y, bytes, maxL, ret, hh⟩ := md2
  dsimp only at hhh
  obtain ⟨z0, zs, hhh⟩ : ∃ z0 zs, hh = z0 :: zs := by cases hh with | nil => exact absurd rfl hhh | cons z0 zs => exact ⟨z0, zs, rfl⟩
  subst hhh
  obtain ⟨o1, o2, o3, o4, o5, o6⟩ := hok
  have o7 : maxL ≤ 20 := o6
  have hHsz : lo ≤ H.size := B.lo_le C.2.2.1.1
  have hPc : ∀ U : State, U.heap = H → s.WarmedH U.vm → PcM G D cyt lo As M hi As.toArray U := fun U hU hW => ⟨rfl, by rw [hU]; exact C.2.1, va_K.moved hW.alike B.hK, by rw [hU]; exact B.kh.go hW C.2.2.1, by rw [hU]; exact hHsz⟩
  have hr : vx_Run p l e R s m args below meth c H locs cells slots k2 n2 (F0 m pc ls (As.reverse ++ rest)) rest (QcM D cyt lo P As.toArray) (XcM D cyt lo P) (gA lo) := vx_runSX (hh := z0 :: zs) (As := As) (rest := rest) ⟨B.hx, B.hb, B.ml, B.own, B.hts⟩ hM (vx_cwSW (ws' := TB) nn B.hts (goodIn_vaS w1 w2 o3 o2) rfl rfl rfl ⟨o4.1, o4.2, o5⟩ ⟨by show f - 1 + 1 ≤ _; omega, by show 8 + (maxL + 11) + 39 * (f - 1) ≤ _; omega⟩) ⟨blindM, hPc⟩ rfl h2 C.1.1 rfl (lv_room h4) h0 (show cells + k2 ≤ R.cells ∧ slots + n2 ≤ R.slots from ⟨by omega, by omega⟩)
  exact run_useM hr C.2.2.1 (fun v M2 hi2 H1 locs1 hle hp rep hS => h6 v M2 hi2 (by rw [← C.2.1.1, ← rep.1]; exact hle) hp H1 locs1 (cells + k2) (slots + n2) ls ⟨C.1, rep, hS, by omega, by omega⟩) (fun E ce q M2 hi2 H1 locs1 hle hp rep hS e1 e2 e3 => th_sound B HO (h7 E M2 hi2 (by rw [← C.2.1.1, ← rep.1]; exact hle) hp) ⟨C.1, rep, hS, by omega, by omega⟩ e1 e2 e3)
set_option maxHeartbeats 2000000 in
theorem S_callIm (B : BF p l R s m args meth c G D cyt lo md f CK SK) (HC : HCt l G D cyt lo f call) : Ru_callIm G f call md P0 (WX p l e R s m args below meth c G D cyt lo md CK SK Qt) := by
  intro pc lv M hi k n rest st As idx a nn k2 n2 md2 P h0 h1 h2 h3 h4 h5 h6 h7 H locs cells slots ls C
  subst h3
  have hC4 := C.2.2.2.1
  have hC5 := C.2.2.2.2
  have q1 := B.fr
  have q2 := B.lc
  have q3 := B.rc
  have q4 := B.rs
  obtain ⟨hok, hhh, hret, w1, w2, hnm⟩ := h1
  obtain ⟨hf, hM⟩ := HC md2 (Value.ref a :: As) M hi k2 n2 P nn h5 hok
  obtain ⟨y, bytes, maxL, ret, hh⟩ := md2
  dsimp only at hhh
  subst hhh
  dsimp only at hret
  subst hret
  obtain ⟨o1, o2, o3, o4, o5, o6⟩ := hok
  have o7 : maxL ≤ 20 := o6
  have hHsz : lo ≤ H.size := B.lo_le C.2.2.1.1
  have hPc : ∀ U : State, U.heap = H → s.WarmedH U.vm → PcM G D cyt lo (Value.ref a :: As) M hi (Value.ref a :: As).toArray U := fun U hU hW => ⟨rfl, by rw [hU]; exact C.2.1, va_K.moved hW.alike B.hK, by rw [hU]; exact B.kh.go hW C.2.2.1, by rw [hU]; exact hHsz⟩
  have hM2 := met_of_vx hM (fun E st t hx => by obtain ⟨M2, hi2, hp, -⟩ := hx; exact h7 E M2 hi2 hp)
  have hr : va_Run p l e R s m args below meth c H locs cells slots k2 n2 (F0 m pc ls (As.reverse ++ .ref a :: rest)) rest (QcM D cyt lo P (Value.ref a :: As).toArray) (gA lo) := va_runI (As := As) (rest := rest) ⟨B.hx, B.hb, B.ml, B.own, B.hts⟩ hM2 ⟨callB_of (ws' := TB) nn B.hts (goodIn_ws o2) rfl rfl rfl (B.hts _ o3) (B.hts _ w1) ⟨o4.1, o4.2, o5⟩ ⟨by show f - 1 + 1 ≤ _; omega, by show 8 + (maxL + 11) + 39 * (f - 1) ≤ _; omega⟩, hnm, B.hts _ w2⟩ ⟨blindM, hPc⟩ rfl h2 C.1.1 rfl (lv_room h4) h0 (show cells + k2 ≤ R.cells ∧ slots + n2 ≤ R.slots from ⟨by omega, by omega⟩)
  exact run_useIM hr C.2.2.1 (fun v M2 hi2 H1 locs1 hle hp rep hS => h6 v M2 hi2 (by rw [← C.2.1.1, ← rep.1]; exact hle) hp H1 locs1 (cells + k2) (slots + n2) ls ⟨C.1, rep, hS, by omega, by omega⟩)
set_option maxHeartbeats 2000000 in
theorem S_ireturn (B : BF p l R s m args meth c G D cyt lo md f CK SK) : Ru_ireturn G f call md P0 (WX p l e R s m args below meth c G D cyt lo md CK SK (vx_MQ below (QcM D cyt lo P0) (XcM D cyt lo P0) args s CK SK (gA lo))) := by
  intro pc lv M hi k n v h0 h1 h2 H locs cells slots ls C
  have hend : ∀ t : State, t.heap = H → s.WarmedH t.vm → QcM D cyt lo P0 args s (.returned (some (.int v))) t := fun t ht hW => ⟨_, M, hi, rfl, h2, by rw [ht]; exact C.2.1, C.2.2.1.F ht⟩
  refine vx_ret (W.widen (k := CK) (n := SK) (by have := C.2.2.2.1; omega) (by have := C.2.2.2.2; omega) ?_)
  obtain ⟨ty, h3, h4⟩ := h1
  exact W.zret B.hx B.hb (B.ret.trans h3) h4 hend C.2.2.1.2.2 h0 B.lk
set_option maxHeartbeats 2000000 in
theorem S_return (B : BF p l R s m args meth c G D cyt lo md f CK SK) : Ru_return G f call md P0 (WX p l e R s m args below meth c G D cyt lo md CK SK (vx_MQ below (QcM D cyt lo P0) (XcM D cyt lo P0) args s CK SK (gA lo))) := by
  intro pc lv M hi k n h0 h1 h2 H locs cells slots ls C
  have hend : ∀ t : State, t.heap = H → s.WarmedH t.vm → QcM D cyt lo P0 args s (.returned none) t := fun t ht hW => ⟨_, M, hi, rfl, h2, by rw [ht]; exact C.2.1, C.2.2.1.F ht⟩
  refine vx_ret (W.widen (k := CK) (n := SK) (by have := C.2.2.2.1; omega) (by have := C.2.2.2.2; omega) ?_)
  exact W.vret B.hx B.hb (B.ret.trans h1) hend C.2.2.1.2.2 h0 B.lk
set_option maxHeartbeats 2000000 in
theorem S_areturn (B : BF p l R s m args meth c G D cyt lo md f CK SK) : Ru_areturn G f call md P0 (WX p l e R s m args below meth c G D cyt lo md CK SK (vx_MQ below (QcM D cyt lo P0) (XcM D cyt lo P0) args s CK SK (gA lo))) := by
  intro pc lv M hi k n CC v h0 h1 h3 h2 H locs cells slots ls C
  have hend : ∀ t : State, t.heap = H → s.WarmedH t.vm → QcM D cyt lo P0 args s (.returned (some v)) t := fun t ht hW => ⟨_, M, hi, rfl, h2, by rw [ht]; exact C.2.1, C.2.2.1.F ht⟩
  refine vx_ret (W.widen (k := CK) (n := SK) (by have := C.2.2.2.1; omega) (by have := C.2.2.2.2; omega) ?_)
  exact W.aret B.hx B.hb (B.ret.trans h1) (Or.inl ⟨_, rfl⟩) h3 hend C.2.2.1.2.2 h0 B.lk
set_option maxHeartbeats 2000000 in
theorem S_areturnA (B : BF p l R s m args meth c G D cyt lo md f CK SK) : Ru_areturnA G f call md P0 (WX p l e R s m args below meth c G D cyt lo md CK SK (vx_MQ below (QcM D cyt lo P0) (XcM D cyt lo P0) args s CK SK (gA lo))) := by
  intro pc lv M hi k n CC v h0 h1 h3 h2 H locs cells slots ls C
  have hend : ∀ t : State, t.heap = H → s.WarmedH t.vm → QcM D cyt lo P0 args s (.returned (some v)) t := fun t ht hW => ⟨_, M, hi, rfl, h2, by rw [ht]; exact C.2.1, C.2.2.1.F ht⟩
  refine vx_ret (W.widen (k := CK) (n := SK) (by have := C.2.2.2.1; omega) (by have := C.2.2.2.2; omega) ?_)
  exact W.aret B.hx B.hb (B.ret.trans h1) (Or.inr ⟨_, rfl⟩) h3 hend C.2.2.1.2.2 h0 B.lk
set_option maxHeartbeats 2000000 in
theorem S_freturn (B : BF p l R s m args meth c G D cyt lo md f CK SK) : Ru_freturn G f call md P0 (WX p l e R s m args below meth c G D cyt lo md CK SK (vx_MQ below (QcM D cyt lo P0) (XcM D cyt lo P0) args s CK SK (gA lo))) := by
  intro pc lv M hi k n v h0 h1 h2 H locs cells slots ls C
  have hend : ∀ t : State, t.heap = H → s.WarmedH t.vm → QcM D cyt lo P0 args s (.returned (some (.float v))) t := fun t ht hW => ⟨_, M, hi, rfl, h2, by rw [ht]; exact C.2.1, C.2.2.1.F ht⟩
  refine vx_ret (W.widen (k := CK) (n := SK) (by have := C.2.2.2.1; omega) (by have := C.2.2.2.2; omega) ?_)
  exact W.fret B.hx B.hb (B.ret.trans h1) hend C.2.2.1.2.2 h0 B.lk
set_option maxHeartbeats 2000000 in
theorem S_dreturn (B : BF p l R s m args meth c G D cyt lo md f CK SK) : Ru_dreturn G f call md P0 (WX p l e R s m args below meth c G D cyt lo md CK SK (vx_MQ below (QcM D cyt lo P0) (XcM D cyt lo P0) args s CK SK (gA lo))) := by
  intro pc lv M hi k n v h0 h1 h2 H locs cells slots ls C
  have hend : ∀ t : State, t.heap = H → s.WarmedH t.vm → QcM D cyt lo P0 args s (.returned (some (.double v))) t := fun t ht hW => ⟨_, M, hi, rfl, h2, by rw [ht]; exact C.2.1, C.2.2.1.F ht⟩
  refine vx_ret (W.widen (k := CK) (n := SK) (by have := C.2.2.2.1; omega) (by have := C.2.2.2.2; omega) ?_)
  exact W.dret B.hx B.hb (B.ret.trans h1) hend C.2.2.1.2.2 h0 B.lk
set_option maxHeartbeats 2000000 in
theorem S_throwS (B : BF p l R s m args meth c G D cyt lo md f CK SK) : Ru_throwS G f call md P0 (WX p l e R s m args below meth c G D cyt lo md CK SK (vx_MQ below (QcM D cyt lo P0) (XcM D cyt lo P0) args s CK SK (gA lo))) := by
  intro pc lv M hi k n rest ik is ic j E d0 d3 d4 d6 d9 hE w1 w2 hstr hcs hf hhh hp H locs cells slots ls C
  have hC4 := C.2.2.2.1
  have hC5 := C.2.2.2.2
  have q1 := B.fr
  have q2 := B.lc
  have htab : ∀ x ∈ c.exceptionTable.toList, covers x (pc + 9) = false := fun x hx => by rw [B.tbl, hhh] at hx; cases hx
  obtain ⟨x1, x2, x3⟩ := exs_ok hE w2
  unfold csum at hcs
  refine vx_throwS (names := XN) (A := gA lo) (mc := CK) (ms := SK) B.hx B.hb B.nst B.own x1 xn_fit (B.hts _ w1) (B.hts _ x3.1) (B.str hstr) (fun w hw => B.atS (x2 w hw)) (fun w hw => ?_) B.kh.2.1 B.kh.2.2.1 C.2.2.1 (C.1.1.trans B.ml.symm) d0 d3 d4 d6 d9 htab (by show 2 + 3 < _; omega) (by show _ + (13 * (2 + 1) + 43) ≤ _; omega) (by have := B.rc; omega) (by have := B.rs; omega) B.lk ?_ C.2.2.1.2.2 (by omega) (by omega)
  · rcases List.mem_cons.mp hw with rfl | hw
    · exact ot_good (tb_good _ w1)
    · rcases List.mem_cons.mp hw with rfl | hw
      · exact ot_good (tb_good _ x3.1)
      · exact okw_ot (x2 w hw)
  · intro t hW hz hk
    refine ⟨M, t.heap.size, hp _ (by have := C.2.1.1; omega), ⟨rfl, fun a e hM => ⟨(C.2.1.2 a e hM).1, (C.2.1.2 a e hM).2.kept (hk _ (C.2.1.2 a e hM).2.lt)⟩⟩, ⟨Nat.le_trans C.2.2.1.1 hz, fun q h1 h2 => (hk q (Nat.lt_of_lt_of_le h1 C.2.2.1.1)).trans (C.2.2.1.2.1 q h1 h2)⟩⟩
set_option maxHeartbeats 2000000 in
theorem S_throwSW (B : BF p l R s m args meth c G D cyt lo md f CK SK) : Ru_throwSW G f call md P0 (WX p l e R s m args below meth c G D cyt lo md CK SK (vx_MQ below (QcM D cyt lo P0) (XcM D cyt lo P0) args s CK SK (gA lo))) := by
  intro pc lv M hi k n rest ik is ic j E d0 d3 d4 d6 d9 hE w1 w2 hstr hcs hf hhh hp H locs cells slots ls C
  have hC4 := C.2.2.2.1
  have hC5 := C.2.2.2.2
  have q1 := B.fr
  have q2 := B.lc
  have htab : ∀ x ∈ c.exceptionTable.toList, covers x (pc + 10) = false := fun x hx => by rw [B.tbl, hhh] at hx; cases hx
  obtain ⟨x1, x2, x3⟩ := exs_ok hE w2
  unfold csum at hcs
  refine vx_throwSW (names := XN) (A := gA lo) (mc := CK) (ms := SK) B.hx B.hb B.nst B.own x1 xn_fit (B.hts _ w1) (B.hts _ x3.1) (B.str hstr) (fun w hw => B.atS (x2 w hw)) (fun w hw => ?_) B.kh.2.1 B.kh.2.2.1 C.2.2.1 (C.1.1.trans B.ml.symm) d0 d3 d4 d6 d9 htab (by show 2 + 3 < _; omega) (by show _ + (13 * (2 + 1) + 43) ≤ _; omega) (by have := B.rc; omega) (by have := B.rs; omega) B.lk ?_ C.2.2.1.2.2 (by omega) (by omega)
  · rcases List.mem_cons.mp hw with rfl | hw
    · exact ot_good (tb_good _ w1)
    · rcases List.mem_cons.mp hw with rfl | hw
      · exact ot_good (tb_good _ x3.1)
      · exact okw_ot (x2 w hw)
  · intro t hW hz hk
    refine ⟨M, t.heap.size, hp _ (by have := C.2.1.1; omega), ⟨rfl, fun a e hM => ⟨(C.2.1.2 a e hM).1, (C.2.1.2 a e hM).2.kept (hk _ (C.2.1.2 a e hM).2.lt)⟩⟩, ⟨Nat.le_trans C.2.2.1.1 hz, fun q h1 h2 => (hk q (Nat.lt_of_lt_of_le h1 C.2.2.1.1)).trans (C.2.2.1.2.1 q h1 h2)⟩⟩
set_option maxHeartbeats 2000000 in
theorem S_throwN (B : BF p l R s m args meth c G D cyt lo md f CK SK) : Ru_throwN G f call md P0 (WX p l e R s m args below meth c G D cyt lo md CK SK (vx_MQ below (QcM D cyt lo P0) (XcM D cyt lo P0) args s CK SK (gA lo))) := by
  intro pc lv M hi k n rest ik is ic j d0 d3 d4 d6 d9 w1 w2 hstr hcs hf hhh hp H locs cells slots ls C
  have hC4 := C.2.2.2.1
  have hC5 := C.2.2.2.2
  have q1 := B.fr
  have q2 := B.lc
  have htab : ∀ x ∈ c.exceptionTable.toList, covers x (pc + 9) = false := fun x hx => by rw [B.tbl, hhh] at hx; cases hx
  unfold csum at hcs
  refine vx_throwN (A := gA lo) (mc := CK) (ms := SK) B.hx B.hb B.nst B.own (B.hts _ w1) (B.hts _ nse_ini) (B.str hstr) (fun w hw => B.atS (n_ok w2 w hw)) (fun w hw => ?_) B.kh.2.1 B.kh.2.2.1 C.2.2.1 (C.1.1.trans B.ml.symm) d0 d3 d4 d6 d9 htab (by show 2 + 3 < _; omega) (by show _ + (13 * (2 + 1) + 43) ≤ _; omega) (by have := B.rc; omega) (by have := B.rs; omega) B.lk ?_ C.2.2.1.2.2 (by omega) (by omega)
  · rcases List.mem_cons.mp hw with rfl | hw
    · exact ot_good (tb_good _ w1)
    · rcases List.mem_cons.mp hw with rfl | hw
      · exact ot_good (tb_good _ nse_ini)
      · exact okw_ot (n_ok w2 w hw)
  · intro t hW hz hk
    refine ⟨M, t.heap.size, hp _ (by have := C.2.1.1; omega), ⟨rfl, fun a e hM => ⟨(C.2.1.2 a e hM).1, (C.2.1.2 a e hM).2.kept (hk _ (C.2.1.2 a e hM).2.lt)⟩⟩, ⟨Nat.le_trans C.2.2.1.1 hz, fun q h1 h2 => (hk q (Nat.lt_of_lt_of_le h1 C.2.2.1.1)).trans (C.2.2.1.2.1 q h1 h2)⟩⟩
set_option maxHeartbeats 2000000 in
theorem S_throwNW (B : BF p l R s m args meth c G D cyt lo md f CK SK) : Ru_throwNW G f call md P0 (WX p l e R s m args below meth c G D cyt lo md CK SK (vx_MQ below (QcM D cyt lo P0) (XcM D cyt lo P0) args s CK SK (gA lo))) := by
  intro pc lv M hi k n rest ik is ic j d0 d3 d4 d6 d9 w1 w2 hstr hcs hf hhh hp H locs cells slots ls C
  have hC4 := C.2.2.2.1
  have hC5 := C.2.2.2.2
  have q1 := B.fr
  have q2 := B.lc
  have htab : ∀ x ∈ c.exceptionTable.toList, covers x (pc + 10) = false := fun x hx => by rw [B.tbl, hhh] at hx; cases hx
  unfold csum at hcs
  refine vx_throwNW (A := gA lo) (mc := CK) (ms := SK) B.hx B.hb B.nst B.own (B.hts _ w1) (B.hts _ nse_ini) (B.str hstr) (fun w hw => B.atS (n_ok w2 w hw)) (fun w hw => ?_) B.kh.2.1 B.kh.2.2.1 C.2.2.1 (C.1.1.trans B.ml.symm) d0 d3 d4 d6 d9 htab (by show 2 + 3 < _; omega) (by show _ + (13 * (2 + 1) + 43) ≤ _; omega) (by have := B.rc; omega) (by have := B.rs; omega) B.lk ?_ C.2.2.1.2.2 (by omega) (by omega)
  · rcases List.mem_cons.mp hw with rfl | hw
    · exact ot_good (tb_good _ w1)
    · rcases List.mem_cons.mp hw with rfl | hw
      · exact ot_good (tb_good _ nse_ini)
      · exact okw_ot (n_ok w2 w hw)
  · intro t hW hz hk
    refine ⟨M, t.heap.size, hp _ (by have := C.2.1.1; omega), ⟨rfl, fun a e hM => ⟨(C.2.1.2 a e hM).1, (C.2.1.2 a e hM).2.kept (hk _ (C.2.1.2 a e hM).2.lt)⟩⟩, ⟨Nat.le_trans C.2.2.1.1 hz, fun q h1 h2 => (hk q (Nat.lt_of_lt_of_le h1 C.2.2.1.1)).trans (C.2.2.1.2.1 q h1 h2)⟩⟩
theorem S_all (B : BF p l R s m args meth c G D cyt lo md f CK SK) (HC : HCt l G D cyt lo f call) (HO : HOt p l e R s m args below meth c D cyt lo md P0 CK SK Qt) (hE : Ru_ireturn G f call md P0 (WX p l e R s m args below meth c G D cyt lo md CK SK Qt) ∧ Ru_return G f call md P0 (WX p l e R s m args below meth c G D cyt lo md CK SK Qt) ∧ Ru_areturn G f call md P0 (WX p l e R s m args below meth c G D cyt lo md CK SK Qt) ∧ Ru_areturnA G f call md P0 (WX p l e R s m args below meth c G D cyt lo md CK SK Qt) ∧ Ru_freturn G f call md P0 (WX p l e R s m args below meth c G D cyt lo md CK SK Qt) ∧ Ru_dreturn G f call md P0 (WX p l e R s m args below meth c G D cyt lo md CK SK Qt) ∧ Ru_throwS G f call md P0 (WX p l e R s m args below meth c G D cyt lo md CK SK Qt) ∧ Ru_throwSW G f call md P0 (WX p l e R s m args below meth c G D cyt lo md CK SK Qt) ∧ Ru_throwN G f call md P0 (WX p l e R s m args below meth c G D cyt lo md CK SK Qt) ∧ Ru_throwNW G f call md P0 (WX p l e R s m args below meth c G D cyt lo md CK SK Qt)) : Rules G f call md P0 (WX p l e R s m args below meth c G D cyt lo md CK SK Qt) := ⟨⟨S_iconst B, S_bipush B, S_sipush B, S_lconst B, S_iload_n B, S_iload B, S_aload_n B, S_aload B⟩, ⟨S_aload_nN B, S_aloadN B, S_dload B, S_iadd B, S_isub B, S_imul B, S_iand B, S_ior B⟩, ⟨S_idiv B, S_irem B, S_ineg B, S_ishl B, S_ishr B, S_iushr B, S_i2l B, S_i2b B⟩, ⟨S_i2f B, S_i2d B, S_dup B, S_pop B, S_dup2_11 B, S_null B, S_ifnull B, S_ifnullN B⟩, ⟨S_ifnonnull B, S_ifnonnullN B, S_fconst0 B, S_dconst0 B, S_fdiv B, S_ddiv B, S_f2d B, S_dcmp B⟩, ⟨S_lcmp B, S_goto B, S_tableIn B, S_tableOut B, S_if_eq B, S_if_ne B, S_if_lt B, S_if_ge B⟩, ⟨S_if_gt B, S_if_le B, S_icmp_eq B, S_icmp_ne B, S_icmp_lt B, S_icmp_ge B, S_icmp_gt B, S_icmp_le B⟩, ⟨S_istore_n B, S_istore B, S_astore_n B, S_astore B, S_astore_nN B, S_astoreN B, S_dstore B, S_iinc B⟩, ⟨S_sub B, S_spare B, S_getfield B, S_putfield B, S_iaload B, S_baload B, S_zaload B, S_aaload B⟩, ⟨S_alen B, S_sld B, S_slen B, S_iastore B, S_bastore B, S_zastore B, S_aastore B, S_new B⟩, ⟨S_newarray B, S_anew B, S_ldcI B, S_ldcS B, S_ldcSW B, S_mmin B, S_objInit B, S_callV B HC HO⟩, ⟨S_callS B HC HO, S_callSX B HC HO, S_callI B HC, S_callN B HC, hE.1, hE.2.1, hE.2.2.1, hE.2.2.2.1⟩, ⟨hE.2.2.2.2.1, hE.2.2.2.2.2.1, hE.2.2.2.2.2.2.1, hE.2.2.2.2.2.2.2.1, hE.2.2.2.2.2.2.2.2.1, hE.2.2.2.2.2.2.2.2.2, S_gstrV B, S_gstrC B⟩, ⟨S_strlen B, S_strbyte B, S_getsC B, S_getsF B, S_i2c B, S_callVS B HC HO, S_dup_x1 B, S_mmax B⟩, ⟨S_callU B HC, S_callSU B HC, S_callO B HC, S_copyb B, S_copyT B, S_anewA B, S_aaldA B, S_aastA B⟩, ⟨S_mna B, S_cloneb B, S_castb B, S_getsD B, S_digb B, S_callVm B HC HO, S_callSm B HC HO, S_callSXm B HC HO⟩, S_callIm B HC⟩
end Sound
