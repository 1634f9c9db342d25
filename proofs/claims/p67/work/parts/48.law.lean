/-! THE LAW: its body, walked -/
def PL : PS := fun q _ _ => q = .inl (some (.int 1))
theorem bdc_ok {A R : Type} {o : Option A} {K : A → Option R} {r : R} (h : bdc o K = some r) : ∃ a, o = some a ∧ K a = some r := by
  cases o with
  | none => cases h
  | some a => exact ⟨a, rfl, h⟩
theorem HQ.wr {oh b hi : Nat} {A : Nat → Nat} {Y W : Nat → Nat → Int32} {M : MM} (q : HQ oh A Y M hi) (hb : b + 609 ≤ oh) : HQ oh A Y (MEM b 609 W M) hi := by
  obtain ⟨q1, q2, q3, q4, q5⟩ := q
  refine ⟨q1, q2, q3, (MEM_off hb).trans q4, fun u e he => ?_⟩
  obtain ⟨w1, w2, w3, w4⟩ := q5 u e he
  exact ⟨(MEM_off (by omega)).trans w1, w2, w3, w4⟩
theorem HQ.up {oh hi hi2 : Nat} {A : Nat → Nat} {Y : Nat → Nat → Int32} {M : MM} (q : HQ oh A Y M hi) (hle : hi ≤ hi2) : HQ oh A Y M hi2 := ⟨q.1, q.2.1, q.2.2.up hle⟩
/-- the class at b, the Hand at oh above it -/
def LHx (b : Nat) (W : Nat → Nat → Int32) (oh : Nat) (Y : Nat → Nat → Int32) (M : MM) (hi : Nat) : Prop := b + 609 ≤ oh ∧ MEM b 609 W M = M ∧ ∃ A : Nat → Nat, HQ oh A Y M hi
theorem LHx.go {b oh hi hi2 : Nat} {W Y Y2 : Nat → Nat → Int32} {A : Nat → Nat} {M M2 : MM} (q : LHx b W oh Y M hi) (hs : HS oh A M hi Y2 M2 hi2) : LHx b W oh Y2 M2 hi2 := by
  obtain ⟨q1, q2, -⟩ := q
  refine ⟨q1, ?_, A, hs.1⟩
  funext a
  have e := congrFun q2 a
  unfold MEM at e ⊢
  by_cases h : b ≤ a ∧ a < b + 609
  · rw [if_pos h] at e ⊢
    rw [e, hs.2.1 a (by omega)]
  · rw [if_neg h]
theorem LHx.wr {b oh hi hi2 : Nat} {W W2 Y : Nat → Nat → Int32} {M : MM} (q : LHx b W oh Y M hi) (hle : hi ≤ hi2) : LHx b W2 oh Y (MEM b 609 W2 M) hi2 := by
  obtain ⟨q1, q2, A, q3⟩ := q
  exact ⟨q1, MEM_2, A, (q3.wr q1).up hle⟩
noncomputable def l_law_88 (c : Int32) (K : (Nat → Nat → Int32) → Option Int32) : Nat → (Nat → Nat → Int32) → Int32 → Option Int32
  | 0, _, _ => none
  | N + 1, Y, j => if c / 16 - c / 16 / 3 * 3 < j then K Y else bdc (f_X10_minute Y) (fun Y => l_law_88 c K N Y (j + 1))
noncomputable def f_check (W Y : Nat → Nat → Int32) (K : Option Int32) : Option Int32 :=
  bdc (f_X10_agrees Y W) (fun a => if a = 0 then some 0 else bdc (f_X9_parcelBalance W) (fun pb => if pb = 0 then bdc (f_X9_loadingBalance W) (fun lb => if lb = 0 then K else some 0) else some 0))
noncomputable def l_law_48 (cl : Int32 → Int32) : Nat → (Nat → Nat → Int32) → (Nat → Nat → Int32) → Int32 → Option Int32
  | 0, _, _, _ => none
  | N + 1, W, Y, x => if 42 ≤ x then some 1 else gd (inr x 64) (bdc (f_L_acts W (cl x)) (fun p => if cl x - cl x / 16 * 16 ≤ 6 then (if p.1 = -9 then f_check p.2 Y (l_law_48 cl N p.2 Y (x + 1)) else bdc (f_X10_follow Y (cl x)) (fun Y => f_check p.2 Y (l_law_48 cl N p.2 Y (x + 1)))) else bdc (f_X10_delivered Y) (fun d => l_law_88 (cl x) (fun Y => bdc (f_X10_delivered Y) (fun d2 => if p.1 = d2 - d then f_check p.2 Y (l_law_48 cl N p.2 Y (x + 1)) else some 0)) 4 Y 0)))
noncomputable def f_law (cl : Int32 → Int32) : Option Int32 :=
  bdc (f_X9_init W00) (fun W => bdc (f_L_text cl) (fun T => bdc (f_L_says W T) (fun W => bdc (f_L_loaded W) (fun p => bdc (f_X9_stationCount p.2) (fun sc => if p.1 = sc then bdc (f_X9_errorCode p.2) (fun e => if e = 0 then bdc (f_X10_init p.2) (fun Y => l_law_48 cl 33 p.2 Y 10) else some 0) else some 0)))))
section Law
variable {G : GT} {f0 f : Nat} {hi k n b oh : Nat} {W Y : Nat → Nat → Int32} {M : MM} {cl : Int32 → Int32}
theorem Y_xN {md2 : MD} {nn idx pc : Nat} {lv : List (Nat × Value)} {rest st : List Value} {o : Option Int32} {K : Int32 → Option Int32} (hh : bdc o K = some 1) (q : LHx b W oh Y M hi) (hm : md2.1.cls = RX9) (hd : decode mL_law.2.1 pc = .ok (.invokevirtual idx, 3)) (hc : CVr RL idx md2 nn) (hn : nn = 0) (hst : st = .ref b :: rest) (hcs : csum rest ≤ 8) (hx : ∀ x, o = some x → Ex G f md2 [.ref b] (MEM b 609 W M) hi 0 0 (RH (.inl (some (.int x))) (MEM b 609 W M) hi)) (kk : ∀ x, K x = some 1 → V G f (Ex G f) mL_law PL (pc + 3) lv (.int x :: rest) M hi k n) : V G f (Ex G f) mL_law PL pc lv st M hi k n := by
  obtain ⟨x, hx1, hx2⟩ := bdc_ok hh
  have e := hx x hx1
  rw [q.2.1] at e
  refine V_callV (As := []) (k2 := 0) (n2 := 0) hd hc hn.symm (hm ▸ q.2.1 ▸ ⟨_, _, _, mem_x9 (Nat.le_refl _), rfl, rfl⟩) hst hcs e (fun v M2 hi2 hp => ?_) (fun E M2 hi2 hp => by obtain ⟨h1, -⟩ := hp; cases h1)
  obtain ⟨h1, rfl, rfl⟩ := hp
  cases h1
  exact kk x hx2
theorem Y_hI {md2 : MD} {As : List Value} {nn idx pc k2 n2 : Nat} {lv : List (Nat × Value)} {rest st : List Value} {o : Option Int32} {K : Int32 → Option Int32} (hh : bdc o K = some 1) (q : LHx b W oh Y M hi) (hm : md2.1.cls = RX10) (hd : decode mL_law.2.1 pc = .ok (.invokevirtual idx, 3)) (hc : CVr RL idx md2 nn) (hn : As.length = nn) (hst : st = As.reverse ++ .ref oh :: rest) (hcs : csum rest ≤ 8) (hx : ∀ x A, o = some x → HQ oh A Y M hi → Ex G f md2 (.ref oh :: As) M hi k2 n2 (PH oh A M hi (.inl (some (.int x))) Y)) (kk : ∀ x (M : MM) (hi : Nat), LHx b W oh Y M hi → K x = some 1 → V G f (Ex G f) mL_law PL (pc + 3) lv (.int x :: rest) M hi k n) : V G f (Ex G f) mL_law PL pc lv st M hi (k + k2) (n + n2) := by
  obtain ⟨x, hx1, hx2⟩ := bdc_ok hh
  obtain ⟨q1, q2, A, q3⟩ := id q
  refine V_callV (As := As) hd hc hn (hm ▸ ⟨_, _, _, q3.2.2.2.1, rfl, rfl⟩) hst hcs (hx x A hx1 q3) (fun v M2 hi2 hp => ?_) (fun E M2 hi2 hp => by obtain ⟨h1, -⟩ := hp; cases h1)
  obtain ⟨h1, hs⟩ := hp
  cases h1
  exact kk x _ _ (q.go hs) hx2
theorem Y_hM {idx pc : Nat} {lv : List (Nat × Value)} {K : (Nat → Nat → Int32) → Option Int32} (hh : bdc (f_X10_minute Y) K = some 1) (q : LHx b W oh Y M hi) (hd : decode mL_law.2.1 pc = .ok (.invokevirtual idx, 3)) (hc : CVr RL idx mX10_minute 0) (hf : 6 ≤ f) (kk : ∀ Y (M : MM) (hi : Nat), LHx b W oh Y M hi → K Y = some 1 → V G f (Ex G f) mL_law PL (pc + 3) lv [] M hi k n) : V G f (Ex G f) mL_law PL pc lv [.ref oh] M hi (k + 3888) (n + 8 * 3888) := by
  obtain ⟨x, hx1, hx2⟩ := bdc_ok hh
  obtain ⟨q1, q2, A, q3⟩ := id q
  refine V_callV (As := []) hd hc rfl ⟨_, _, _, q3.2.2.2.1, rfl, rfl⟩ rfl (Nat.le_of_ble_eq_true rfl) (e_X10_minute hf q3 hx1) (fun v M2 hi2 hp => ?_) (fun E M2 hi2 hp => by obtain ⟨h1, -⟩ := hp; cases h1)
  obtain ⟨h1, hs⟩ := hp
  cases h1
  exact kk x _ _ (q.go hs) hx2
theorem Y_hF {c : Int32} {idx pc : Nat} {lv : List (Nat × Value)} {K : (Nat → Nat → Int32) → Option Int32} (hh : bdc (f_X10_follow Y c) K = some 1) (q : LHx b W oh Y M hi) (hd : decode mL_law.2.1 pc = .ok (.invokevirtual idx, 3)) (hc : CVr RL idx mX10_follow 2) (hf : 2 ≤ f) (kk : ∀ Y (M : MM) (hi : Nat), LHx b W oh Y M hi → K Y = some 1 → V G f (Ex G f) mL_law PL (pc + 3) lv [] M hi k n) : V G f (Ex G f) mL_law PL pc lv [.int c, .ref b, .ref oh] M hi (k + 2) (n + 8 * 2) := by
  obtain ⟨x, hx1, hx2⟩ := bdc_ok hh
  obtain ⟨q1, q2, A, q3⟩ := id q
  refine V_callV (As := [.ref b, .int c]) hd hc rfl ⟨_, _, _, q3.2.2.2.1, rfl, rfl⟩ rfl (Nat.le_of_ble_eq_true rfl) (e_X10_follow hf q3 hx1) (fun v M2 hi2 hp => ?_) (fun E M2 hi2 hp => by obtain ⟨h1, -⟩ := hp; cases h1)
  obtain ⟨h1, A2, hs⟩ := hp
  cases h1
  exact kk x _ _ (q.go hs) hx2
theorem lv_check {lv : List (Nat × Value)} {K : Option Int32} (hf : 14 ≤ f) (q : LHx b W oh Y M hi) (hl1 : lget lv 1 = some (.ref b)) (hl2 : lget lv 2 = some (.ref oh)) (h : f_check W Y K = some 1) (kk : ∀ (M : MM) (hi : Nat), LHx b W oh Y M hi → K = some 1 → V G f (Ex G f) mL_law PL 165 lv [] M hi k n) : V G f (Ex G f) mL_law PL 141 lv [] M hi (k + 240) (n + 8 * 240) := by
  unfold f_check at h
  refine V_aload_n (i := 2) dL_law_141 rfl hl2 ?_
  refine V_aload_n (i := 1) dL_law_142 rfl hl1 ?_
  refine Y_hI (As := [_]) h q rfl dL_law_143 cv_L_142 rfl rfl (Nat.le_of_ble_eq_true rfl) (fun x A hx hq => e_X10_agrees (Nat.le_trans (Nat.le_of_ble_eq_true rfl) hf) hq q.1 q.2.1 hx) fun a M hi q h => ?_
  refine D_if_eq (tgt := 163) h dL_law_146 rfl (fun _ h => by cases h) (fun _ h => ?_)
  refine V_aload_n (i := 1) dL_law_149 rfl hl1 ?_
  refine Y_xN h q rfl dL_law_150 cv_L_146 rfl rfl (Nat.le_of_ble_eq_true rfl) (fun x hx => e_X9_parcelBalance (Nat.le_trans (Nat.le_of_ble_eq_true rfl) hf) (Nat.le_refl _) hx) fun a h => ?_
  refine D_if_ne (tgt := 163) h dL_law_153 rfl (fun _ h => by cases h) (fun _ h => ?_)
  refine V_aload_n (i := 1) dL_law_156 rfl hl1 ?_
  refine Y_xN h q rfl dL_law_157 cv_L_149 rfl rfl (Nat.le_of_ble_eq_true rfl) (fun x hx => e_X9_loadingBalance (Nat.le_trans (Nat.le_of_ble_eq_true rfl) hf) (Nat.le_refl _) hx) fun a h => ?_
  refine D_if_eq (tgt := 165) h dL_law_160 rfl (fun _ h => kk _ _ q h) (fun _ h => by cases h)
theorem lv_law_88 {c x t d : Int32} {K : (Nat → Nat → Int32) → Option Int32} (hf : 14 ≤ f) (kk : ∀ (Y : Nat → Nat → Int32) (M : MM) (hi : Nat) (j : Int32), LHx b W oh Y M hi → K Y = some 1 → V G f (Ex G f) mL_law PL 110 [(0, .ref G.1), (1, .ref b), (2, .ref oh), (3, .int x), (4, .int c), (5, .int t), (6, .int d)] [] M hi k (8 * k)) : ∀ (N : Nat) (Y : Nat → Nat → Int32) (j : Int32) (M : MM) (hi : Nat), LHx b W oh Y M hi → l_law_88 c K N Y j = some 1 → V G f (Ex G f) mL_law PL 88 [(0, .ref G.1), (1, .ref b), (2, .ref oh), (3, .int x), (4, .int c), (5, .int t), (6, .int d), (7, .int j)] [] M hi (k + (N - 1) * 3888) (8 * (k + (N - 1) * 3888)) := by
  intro N
  induction N with
  | zero => intro Y j M hi q h; cases h
  | succ N ih =>
    intro Y j M hi q h
    rw [l_law_88] at h
    refine V_iload (i := 7) dL_law_88 rfl ?_
    refine V_iload (i := 4) dL_law_90 rfl ?_
    refine V_bipush (v := 16) dL_law_92 (by decide) ?_
    refine V_idiv dL_law_94 (by decide) ?_
    refine V_iconst (v := 3) dL_law_95 (by decide) ?_
    refine V_irem dL_law_96 (by decide) ?_
    refine D_icmp_gt (tgt := 110) h dL_law_97 rfl (fun _ h => ?_) (fun _ h => ?_)
    · refine V_spare (k2 := k) (n2 := 8 * k) (by omega) (by omega) ?_
      exact V_sub (ks := [0, 1, 2, 3, 4, 5, 6]) rfl (kk _ _ _ j q h)
    · cases N with
      | zero =>
        obtain ⟨y, -, hy⟩ := bdc_ok h
        cases hy
      | succ N =>
        refine V_aload_n (i := 2) dL_law_100 rfl rfl ?_
        refine V_spare (k2 := (k + (N + 1 - 1) * 3888) + 3888) (n2 := 8 * (k + (N + 1 - 1) * 3888) + 8 * 3888) (by omega) (by omega) ?_
        refine Y_hM h q dL_law_101 cv_L_135 (Nat.le_trans (Nat.le_of_ble_eq_true rfl) hf) fun Y M hi q h => ?_
        refine V_iinc (i := 7) (v := j + 1) dL_law_104 rfl rfl (Nat.le_of_ble_eq_true rfl) ?_
        refine V_goto (tgt := 88) dL_law_107 rfl ?_
        exact V_sub (ks := [1, 2, 3, 4, 5, 6, 7, 0]) rfl (ih _ _ _ _ q h)
theorem lv_law_48 (hf : 14 ≤ f) (hl : G.2.1 ≤ 5000) : ∀ (N : Nat) (W Y : Nat → Nat → Int32) (x : Int32) (M : MM) (hi : Nat), LHx b W oh Y M hi → l_law_48 (celG G) N W Y x = some 1 → V G f (Ex G f) mL_law PL 48 [(0, .ref G.1), (1, .ref b), (2, .ref oh), (3, .int x)] [] M hi (12000 * N) (8 * (12000 * N)) := by
  intro N
  induction N with
  | zero => intro W Y x M hi q h; cases h
  | succ N ih =>
    intro W Y x M hi q h
    rw [l_law_48] at h
    refine V_iload_n (i := 3) dL_law_48 rfl rfl ?_
    refine V_bipush (v := 42) dL_law_49 (by decide) ?_
    refine D_icmp_ge (tgt := 171) h dL_law_51 rfl (fun _ h => ?_) (fun _ h => ?_)
    · refine V_iconst (v := 1) dL_law_171 (by decide) ?_
      exact V_ireturn dL_law_172 ⟨_, rfl, rfl⟩ rfl
    refine D_gd h fun g1 h => ?_
    refine V_aload_n (i := 0) dL_law_54 rfl rfl ?_
    refine V_iload_n (i := 3) dL_law_55 rfl rfl ?_
    refine V_callS (a := 0) (As := [.ref G.1, .int x]) (k := 12000 * (N + 1)) (n := 8 * (12000 * (N + 1))) (k2 := 0) (n2 := 0) dL_law_56 cs_L_33 rfl rfl (Nat.le_of_ble_eq_true rfl) (e_L_cell (Nat.le_trans (Nat.le_of_ble_eq_true rfl) hf) hl g1) (fun v M hi hp => ?_) (fun E M2 hi2 hp => by obtain ⟨h1, -⟩ := hp; cases h1)
    obtain ⟨h1, rfl, rfl⟩ := hp
    cases h1
    revert h
    generalize celG G x = c
    intro h
    obtain ⟨p, hp1, h⟩ := bdc_ok h
    refine V_istore (i := 4) dL_law_59 (Nat.le_of_ble_eq_true rfl) ?_
    refine V_aload_n (i := 1) dL_law_61 rfl rfl ?_
    refine V_iload (i := 4) dL_law_62 rfl ?_
    have ha := e_L_acts (G := G) (b := b) (c := 609) (M := M) (hi := hi) (f0 := f) (Nat.le_trans (Nat.le_of_ble_eq_true rfl) hf) (Nat.le_refl _) hp1
    rw [q.2.1] at ha
    refine V_spare (k2 := (12000 * N + 240 + 11700) + 5) (n2 := (8 * (12000 * N) + 8 * 240 + 8 * 11700) + 30) (by omega) (by omega) ?_
    refine V_callSXm (a := 0) (As := [.ref b, .int c]) dL_law_64 cx_L_128 rfl rfl (Nat.le_of_ble_eq_true rfl) ha (fun v M2 hi2 hle hp => ?_) (fun E M2 hi2 hle hp => by obtain ⟨h1, -⟩ := hp; cases h1)
    obtain ⟨h1, rfl⟩ := hp
    cases h1
    have q := q.wr (W2 := p.2) hle
    clear ha hp1
    generalize MEM b 609 p.2 M = M at q ⊢
    refine V_istore (i := 5) dL_law_67 (Nat.le_of_ble_eq_true rfl) ?_
    refine V_iload (i := 4) dL_law_69 rfl ?_
    refine V_bipush (v := 16) dL_law_71 (by decide) ?_
    refine V_irem dL_law_73 (by decide) ?_
    refine V_bipush (v := 6) dL_law_74 (by decide) ?_
    have hend : ∀ (Y : Nat → Nat → Int32) (M : MM) (hi : Nat), LHx b p.2 oh Y M hi → f_check p.2 Y (l_law_48 (celG G) N p.2 Y (x + 1)) = some 1 → V G f (Ex G f) mL_law PL 141 [(0, .ref G.1), (1, .ref b), (2, .ref oh), (3, .int x)] [] M hi (12000 * N + 240) (8 * (12000 * N) + 8 * 240) := by
      intro Y M hi q h
      refine lv_check hf q rfl rfl h fun M hi q h => ?_
      refine V_iinc (i := 3) (v := x + 1) dL_law_165 rfl rfl (Nat.le_of_ble_eq_true rfl) ?_
      refine V_goto (tgt := 48) dL_law_168 rfl ?_
      exact V_sub (ks := [1, 2, 3, 0]) rfl (ih _ _ _ _ _ q h)
    refine D_icmp_le (tgt := 127) h dL_law_76 rfl (fun _ h => ?_) (fun _ h => ?_)
    · refine V_iload (i := 5) dL_law_127 rfl ?_
      refine V_bipush (v := -9) dL_law_129 (by decide) ?_
      refine D_icmp_eq (tgt := 141) h dL_law_131 rfl (fun _ h => ?_) (fun _ h => ?_)
      · refine V_spare (k2 := 12000 * N + 240) (n2 := 8 * (12000 * N) + 8 * 240) (by omega) (by omega) ?_
        exact V_sub (ks := [2, 3, 4, 5]) rfl (hend _ _ _ q h)
      · refine V_aload_n (i := 2) dL_law_134 rfl rfl ?_
        refine V_aload_n (i := 1) dL_law_135 rfl rfl ?_
        refine V_iload (i := 4) dL_law_136 rfl ?_
        refine V_spare (k2 := (12000 * N + 240) + 2) (n2 := (8 * (12000 * N) + 8 * 240) + 8 * 2) (by omega) (by omega) ?_
        refine Y_hF h q dL_law_138 cv_L_138 (Nat.le_trans (Nat.le_of_ble_eq_true rfl) hf) fun Y M hi q h => ?_
        exact V_sub (ks := [2, 3, 4, 5]) rfl (hend _ _ _ q h)
    · refine V_aload_n (i := 2) dL_law_79 rfl rfl ?_
      refine V_spare (k2 := (12000 * N + 240 + 3 * 3888) + 0) (n2 := 8 * (12000 * N + 240 + 3 * 3888) + 8 * 0) (by omega) (by omega) ?_
      refine Y_hI (As := []) h q rfl dL_law_80 cv_L_132 rfl rfl (Nat.le_of_ble_eq_true rfl) (fun x A hx hq => e_X10_delivered (Nat.le_trans (Nat.le_of_ble_eq_true rfl) hf) hq hx) fun d M hi q h => ?_
      refine V_istore (i := 6) dL_law_83 (Nat.le_of_ble_eq_true rfl) ?_
      refine V_iconst (v := 0) dL_law_85 (by decide) ?_
      refine V_istore (i := 7) dL_law_86 (Nat.le_of_ble_eq_true rfl) ?_
      refine V_sub (ks := [4, 5, 6, 7, 3, 2, 1, 0]) (lv2 := [(0, .ref G.1), (1, .ref b), (2, .ref oh), (3, .int x), (4, .int c), (5, .int p.1), (6, .int d), (7, .int 0)]) rfl ?_
      refine lv_law_88 (k := 12000 * N + 240) hf (fun Y M hi j q h => ?_) 4 _ _ _ _ q h
      refine V_iload (i := 5) dL_law_110 rfl ?_
      refine V_aload_n (i := 2) dL_law_112 rfl rfl ?_
      refine V_spare (k2 := (12000 * N + 240) + 0) (n2 := (8 * (12000 * N) + 8 * 240) + 8 * 0) (by omega) (by omega) ?_
      refine Y_hI (As := []) h q rfl dL_law_113 cv_L_132 rfl rfl (Nat.le_of_ble_eq_true rfl) (fun x A hx hq => e_X10_delivered (Nat.le_trans (Nat.le_of_ble_eq_true rfl) hf) hq hx) fun d2 M hi q h => ?_
      refine V_iload (i := 6) dL_law_116 rfl ?_
      refine V_isub dL_law_118 ?_
      refine D_icmp_eq (tgt := 124) h dL_law_119 rfl (fun _ h => ?_) (fun _ h => by cases h)
      refine V_goto (tgt := 141) dL_law_124 rfl ?_
      exact V_sub (ks := [0, 1, 2, 3]) rfl (hend _ _ _ q h)
theorem e_law {p : Nat} (hf0 : 15 ≤ f0) (hl : G.2.1 ≤ 5000) (h : f_law (celG G) = some 1) : Ex G f0 mL_law [.ref G.1] M p 410000 3290000 PL := by
  obtain ⟨f, rfl, hf⟩ := suc_of hf0
  unfold f_law at h
  refine ⟨Nat.le_of_ble_eq_true rfl, ?_⟩
  obtain ⟨W0, h1, h⟩ := bdc_ok h
  refine V_new (N0 := 7) (k := 409999) (n := 3289993) dL_law_0 nw_L_19 ?_
  refine V_dup dL_law_3 rfl ?_
  refine V_callI (As := []) (k := 409391) (n := 3284395) (k2 := 608) (n2 := 5598) dL_law_4 ci_L_107 rfl rfl (Nat.le_of_ble_eq_true rfl) (e_X9_init (p := p) hf h1) (fun v M2 hi2 hp => ?_) (fun E M2 hi2 hp => by obtain ⟨h1, -⟩ := hp; cases h1)
  obtain ⟨q1, rfl, rfl⟩ := hp
  cases q1
  refine V_astore_n (i := 1) dL_law_7 rfl (Nat.le_of_ble_eq_true rfl) ?_
  refine V_aload_n (i := 1) dL_law_8 rfl rfl ?_
  refine V_aload_n (i := 0) dL_law_9 rfl rfl ?_
  obtain ⟨T, h2, h⟩ := bdc_ok h
  refine V_callSm (a := 0) (As := [.ref G.1]) (k := 397831) (n := 3191915) (k2 := 11560) (n2 := 8 * 11560) dL_law_10 cs_L_108 rfl rfl (Nat.le_of_ble_eq_true rfl) (e_L_text (Nat.le_trans (Nat.le_of_ble_eq_true rfl) hf) ⟨rfl, hl⟩ h2) (fun v M2 hi2 hle hp => ?_) (fun E M2 hi2 hle hp => by obtain ⟨s, h1, -⟩ := hp; cases h1)
  obtain ⟨s, q1, hs, hsb, hbel, -⟩ := hp
  cases q1
  have hq : SYx p W0 s T M2 hi2 := by
    refine ⟨hsb, ?_, hs⟩
    funext a
    unfold MEM
    by_cases ha : p ≤ a ∧ a < p + 609
    · rw [if_pos ha, hbel a (by omega)]
      unfold MEM
      rw [if_pos ha]
    · rw [if_neg ha]
  obtain ⟨W1, h3, h⟩ := bdc_ok h
  refine V_callSm (a := 0) (As := [.ref p, .ref s]) (k := 397780) (n := 3191507) (k2 := 51) (n2 := 8 * 51) dL_law_13 cs_L_112 rfl rfl (Nat.le_of_ble_eq_true rfl) (e_L_says (Nat.le_trans (Nat.le_of_ble_eq_true rfl) hf) hq h3) (fun v M3 hi3 hle3 hp => ?_) (fun E M2 hi2 hle hp => by obtain ⟨h1, -⟩ := hp; cases h1)
  obtain ⟨q1, hm3, -⟩ := hp
  cases q1
  refine V_aload_n (i := 1) dL_law_16 rfl rfl ?_
  obtain ⟨pr, h4, h⟩ := bdc_ok h
  have hx := e_L_loaded (G := G) (b := p) (c := 609) (M := M3) (hi := hi3) (f0 := f) (Nat.le_trans (Nat.le_of_ble_eq_true rfl) hf) (Nat.le_refl _) h4
  rw [hm3] at hx
  refine V_callSXm (a := 0) (As := [.ref p]) (k := 397779) (n := 3191501) (k2 := 1) (n2 := 6) dL_law_17 cx_L_116 rfl rfl (Nat.le_of_ble_eq_true rfl) hx (fun v M4 hi4 hle4 hp => ?_) (fun E M2 hi2 hle hp => by obtain ⟨h1, -⟩ := hp; cases h1)
  obtain ⟨q1, rfl⟩ := hp
  cases q1
  have hm4 : MEM p 609 pr.2 (MEM p 609 pr.2 M3) = MEM p 609 pr.2 M3 := MEM_2
  have hp4 : p + 609 ≤ hi4 := by have := hs.choose_spec; omega
  generalize MEM p 609 pr.2 M3 = M4 at hm4 ⊢
  refine V_aload_n (i := 1) dL_law_20 rfl rfl ?_
  obtain ⟨sc, h5, h⟩ := bdc_ok h
  have e5 := e_X9_stationCount (G := G) (b := p) (c := 609) (M := M4) (hi := hi4) (f0 := f) (k := 0) (n := 0) (Nat.le_trans (Nat.le_of_ble_eq_true rfl) hf) (Nat.le_refl _) h5
  rw [hm4] at e5
  refine V_callV (As := []) (k2 := 0) (n2 := 0) dL_law_21 cv_L_75 rfl (hm4 ▸ ⟨_, _, _, mem_x9 (Nat.le_refl _), rfl, rfl⟩) rfl (Nat.le_of_ble_eq_true rfl) e5 (fun v M5 hi5 hp => ?_) (fun E M2 hi2 hp => by obtain ⟨h1, -⟩ := hp; cases h1)
  obtain ⟨q1, rfl, rfl⟩ := hp
  cases q1
  refine D_icmp_ne (tgt := 34) h dL_law_24 rfl (fun _ h => by cases h) (fun _ h => ?_)
  refine V_aload_n (i := 1) dL_law_27 rfl rfl ?_
  obtain ⟨ec, h6, h⟩ := bdc_ok h
  have e6 := e_X9_errorCode (G := G) (b := p) (c := 609) (M := M5) (hi := hi5) (f0 := f) (k := 0) (n := 0) (Nat.le_trans (Nat.le_of_ble_eq_true rfl) hf) (Nat.le_refl _) h6
  rw [hm4] at e6
  refine V_callV (As := []) (k2 := 0) (n2 := 0) dL_law_28 cv_L_120 rfl (hm4 ▸ ⟨_, _, _, mem_x9 (Nat.le_refl _), rfl, rfl⟩) rfl (Nat.le_of_ble_eq_true rfl) e6 (fun v M6 hi6 hp => ?_) (fun E M2 hi2 hp => by obtain ⟨h1, -⟩ := hp; cases h1)
  obtain ⟨q1, rfl, rfl⟩ := hp
  cases q1
  refine D_if_eq (tgt := 36) h dL_law_31 rfl (fun _ h => ?_) (fun _ h => by cases h)
  obtain ⟨Y, h7, h⟩ := bdc_ok h
  refine V_new (N0 := 17) (k := 397778) (n := 3191484) dL_law_36 nw_L_123 ?_
  refine V_dup dL_law_39 rfl ?_
  refine V_aload_n (i := 1) dL_law_40 rfl rfl ?_
  have hm6 : MEM p 609 pr.2 (mset M6 hi6 (.inr (10, dflH))) = mset M6 hi6 (.inr (10, dflH)) := by
    funext a
    have ex := congrFun hm4 a
    unfold MEM at ex ⊢
    unfold mset
    by_cases h : p ≤ a ∧ a < p + 609
    · rw [if_pos h] at ex ⊢
      rw [ex, if_neg (by omega)]
    · rw [if_neg h]
  refine V_callIm (As := [.ref p]) (k := 396778) (n := 3183484) (k2 := 1000) (n2 := 8 * 1000) dL_law_41 ci_L_125 rfl rfl (Nat.le_of_ble_eq_true rfl) (e_X10_init (Nat.le_trans (Nat.le_of_ble_eq_true rfl) hf) hp4 hm6 mset_eq (Nat.lt_succ_self _) h7) (fun v M7 hi7 hle7 hp => ?_) (fun E M2 hi2 hp => by obtain ⟨h1, -⟩ := hp; cases h1)
  obtain ⟨q1, A, hs7⟩ := hp
  cases q1
  have q7 : LHx p pr.2 hi6 Y M7 hi7 := by
    refine ⟨hp4, ?_, A, hs7.1⟩
    funext a
    have ex := congrFun hm6 a
    unfold MEM at ex ⊢
    by_cases h : p ≤ a ∧ a < p + 609
    · rw [if_pos h] at ex ⊢
      rw [ex, hs7.2.1 a (by omega)]
      rfl
    · rw [if_neg h]
  refine V_astore_n (i := 2) dL_law_44 rfl (Nat.le_of_ble_eq_true rfl) ?_
  refine V_bipush (v := 10) dL_law_45 (by decide) ?_
  refine V_istore_n (i := 3) dL_law_47 rfl (Nat.le_of_ble_eq_true rfl) ?_
  refine V_sub (ks := [3, 2, 1, 0]) (lv2 := [(0, .ref G.1), (1, .ref p), (2, .ref hi6), (3, .int 10)]) rfl ?_
  refine V_spare (k2 := 12000 * 33) (n2 := 8 * (12000 * 33)) (by decide) (by decide) ?_
  exact lv_law_48 hf hl 33 _ _ _ _ _ q7 h
end Law
