/-! THE DECOMPILER'S ROWS: each takes along h, that the decompiled rest of the body has the value r -/
def ix (x : Int32) : Nat := x.toNatClampNeg
def inr (x : Int32) (n : Nat) : Bool := !(decide (x < 0)) && Nat.blt (ix x) n
theorem inr_vp {x : Int32} {n : Nat} (h : inr x n = true) : vp_in x n := by
  unfold inr at h
  unfold vp_in
  rw [Bool.and_eq_true] at h
  obtain ⟨h1, h2⟩ := h
  intro q
  rcases q with q | q
  · rw [decide_eq_true q] at h1
    cases h1
  · have h3 := Nat.blt_eq.mp h2
    unfold ix at h3
    omega
theorem inr_lt {x : Int32} {n : Nat} (h : inr x n = true) : ix x < n := by
  unfold inr at h
  rw [Bool.and_eq_true] at h
  exact Nat.blt_eq.mp h.2
def z01 (x : Int32) : Bool := decide (x = 0) || decide (x = 1)
theorem z01_ok {x : Int32} (h : z01 x = true) : x = 0 ∨ x = 1 := by
  unfold z01 at h
  rw [Bool.or_eq_true] at h
  rcases h with h | h
  · exact Or.inl (of_decide_eq_true h)
  · exact Or.inr (of_decide_eq_true h)
theorem z01_nar {x : Int32} (h : z01 x = true) : narrow .boolean (.int x) = .int x := by
  rcases z01_ok h with rfl | rfl <;> rfl
def nz0 (x : Int32) : Bool := !(decide (x = 0))
theorem nz0_ok {x : Int32} (h : nz0 x = true) : ¬ (x = 0) := by
  intro q
  unfold nz0 at h
  rw [decide_eq_true q] at h
  cases h
def gd {R : Type} (b : Bool) (K : Option R) : Option R := match b with
  | true => K
  | false => none
theorem gd_ok {R : Type} {b : Bool} {K : Option R} {r : R} (h : gd b K = some r) : b = true ∧ K = some r := by
  cases b with
  | true => exact ⟨rfl, h⟩
  | false => cases h
noncomputable def gdp {R : Type} (p : Prop) (K : Option R) : Option R := @ite _ p (Classical.propDecidable p) K none
theorem gdp_ok {R : Type} {p : Prop} {K : Option R} {r : R} (h : gdp p K = some r) : p ∧ K = some r := by
  unfold gdp at h
  by_cases hp : p
  · rw [if_pos hp] at h; exact ⟨hp, h⟩
  · rw [if_neg hp] at h; cases h
def bnd {A R : Type} (x : A) (K : A → Option R) : Option R := K x
def jn {A R : Type} (rest : A) (body : A → Option R) : Option R := body rest
def bdc {A R : Type} (x : Option A) (K : A → Option R) : Option R := match x with
  | some a => K a
  | none => none
def bd2 {A B R : Type} (x : Option (A × B)) (K : A → B → Option R) : Option R := match x with
  | some (a, b) => K a b
  | none => none
/-- a callee that may throw: what is thrown goes on -/
def bdt {A R : Type} (x : Option (String ⊕ A)) (L : String → Option R) (K : A → Option R) : Option R := match x with
  | some (.inr a) => K a
  | some (.inl e) => L e
  | none => none
def bt2 {A B R : Type} (x : Option ((String ⊕ A) × B)) (L : String → B → Option R) (K : A → B → Option R) : Option R := match x with
  | some (.inr a, b) => K a b
  | some (.inl e, b) => L e b
  | none => none
def opc {R : Type} (x : Option Nat) (K0 : Option R) (K : Nat → Option R) : Option R := match x with
  | none => K0
  | some i => K i
theorem opc_n {R : Type} {K0 : Option R} {K : Nat → Option R} {r : R} (h : opc none K0 K = some r) : K0 = some r := h
theorem opc_s {R : Type} {K0 : Option R} {K : Nat → Option R} {i : Nat} {r : R} (h : opc (some i) K0 K = some r) : K i = some r := h
def orf (q : Nat) (x : Option Nat) : Value := match x with
  | none => .null
  | some i => .ref (q + i)
def FU : Nat := 4096
def RP (q0 : RS) (M0 : MM) : PS := fun q M2 _ => q = q0 ∧ M2 = M0
def RH (q0 : RS) (M0 : MM) (h0 : Nat) : PS := fun q M2 hi2 => q = q0 ∧ M2 = M0 ∧ hi2 = h0
theorem suc_of {d f : Nat} (h : d + 1 ≤ f) : ∃ g, f = g + 1 ∧ d ≤ g := ⟨f - 1, by omega, by omega⟩
def ushr (x y : Int32) : Int32 := (x.toUInt32 >>> (y.toUInt32 &&& Int32.toUInt32 31)).toInt32
def tso (x : Int32) (lo hi : Int) : Bool := decide (x.toInt < lo) || decide (hi < x.toInt)
theorem tso_ok {x : Int32} {lo hi : Int} (h : tso x lo hi = true) : x.toInt < lo ∨ hi < x.toInt := by
  unfold tso at h
  rw [Bool.or_eq_true] at h
  rcases h with h | h
  · exact Or.inl (of_decide_eq_true h)
  · exact Or.inr (of_decide_eq_true h)
section DRows
variable {G : GT} {f : Nat} {call : CT} {md : MD} {P0 : PS} {pc : Nat} {lv : List (Nat × Value)} {M : MM} {hi k n : Nat} {rest : List Value} {R : Type} {r : R}
theorem D_gd {b : Bool} {K : Option R} {goal : Prop} (h : gd b K = some r) (kk : b = true → K = some r → goal) : goal := kk (gd_ok h).1 (gd_ok h).2
theorem D_gdp {b : Prop} {K : Option R} {goal : Prop} (h : gdp b K = some r) (kk : b → K = some r → goal) : goal := kk (gdp_ok h).1 (gdp_ok h).2
theorem D_ite {c : Prop} [dc : Decidable c] {A B : Option R} {goal : Prop} (h : (if c then A else B) = some r) (k1 : c → A = some r → goal) (k2 : ¬ c → B = some r → goal) : goal := by
  by_cases q : c
  · rw [if_pos q] at h; exact k1 q h
  · rw [if_neg q] at h; exact k2 q h
theorem D_jn {A : Type} {rst : A} {body : A → Option R} {goal : Prop} (C : A → Prop) (h : jn rst body = some r) (k1 : ∀ j, C j → body j = some r → goal) (k2 : C rst) : goal := k1 rst k2 h
theorem D_opc {o : Option Nat} {K0 : Option R} {K : Nat → Option R} {q : Nat} {vw : Value → Prop} (h : opc o K0 K = some r) (k1 : K0 = some r → vw .null) (k2 : ∀ i, K i = some r → vw (.ref (q + i))) : vw (orf q o) := by
  cases o with
  | none => exact k1 h
  | some i => exact k2 i h
theorem D_if_eq {x : Int32} {off : Int} {tgt : Nat} {A B : Option R} (h : (if x = 0 then A else B) = some r) (hd : decode md.2.1 pc = .ok (.ifCond .eq off, 3)) (ht : (pc : Int) + off = (tgt : Int)) (k1 : x = 0 → A = some r → V G f call md P0 tgt lv rest M hi k n) (k2 : ¬ (x = 0) → B = some r → V G f call md P0 (pc + 3) lv rest M hi k n) : V G f call md P0 pc lv (.int x :: rest) M hi k n :=
  V_if_eq hd ht (fun q => k1 q (by rwa [if_pos q] at h)) (fun q => k2 q (by rwa [if_neg q] at h))
theorem D_if_ne {x : Int32} {off : Int} {tgt : Nat} {A B : Option R} (h : (if x = 0 then A else B) = some r) (hd : decode md.2.1 pc = .ok (.ifCond .ne off, 3)) (ht : (pc : Int) + off = (tgt : Int)) (k1 : ¬ x = 0 → B = some r → V G f call md P0 tgt lv rest M hi k n) (k2 : x = 0 → A = some r → V G f call md P0 (pc + 3) lv rest M hi k n) : V G f call md P0 pc lv (.int x :: rest) M hi k n :=
  V_if_ne hd ht (fun q => k1 q (by rwa [if_neg q] at h)) (fun q => k2 q (by rwa [if_pos q] at h))
theorem D_if_lt {x : Int32} {off : Int} {tgt : Nat} {A B : Option R} (h : (if x < 0 then A else B) = some r) (hd : decode md.2.1 pc = .ok (.ifCond .lt off, 3)) (ht : (pc : Int) + off = (tgt : Int)) (k1 : x < 0 → A = some r → V G f call md P0 tgt lv rest M hi k n) (k2 : ¬ (x < 0) → B = some r → V G f call md P0 (pc + 3) lv rest M hi k n) : V G f call md P0 pc lv (.int x :: rest) M hi k n :=
  V_if_lt hd ht (fun q => k1 q (by rwa [if_pos q] at h)) (fun q => k2 q (by rwa [if_neg q] at h))
theorem D_if_ge {x : Int32} {off : Int} {tgt : Nat} {A B : Option R} (h : (if 0 ≤ x then A else B) = some r) (hd : decode md.2.1 pc = .ok (.ifCond .ge off, 3)) (ht : (pc : Int) + off = (tgt : Int)) (k1 : 0 ≤ x → A = some r → V G f call md P0 tgt lv rest M hi k n) (k2 : ¬ (0 ≤ x) → B = some r → V G f call md P0 (pc + 3) lv rest M hi k n) : V G f call md P0 pc lv (.int x :: rest) M hi k n :=
  V_if_ge hd ht (fun q => k1 q (by rwa [if_pos q] at h)) (fun q => k2 q (by rwa [if_neg q] at h))
theorem D_if_gt {x : Int32} {off : Int} {tgt : Nat} {A B : Option R} (h : (if 0 < x then A else B) = some r) (hd : decode md.2.1 pc = .ok (.ifCond .gt off, 3)) (ht : (pc : Int) + off = (tgt : Int)) (k1 : 0 < x → A = some r → V G f call md P0 tgt lv rest M hi k n) (k2 : ¬ (0 < x) → B = some r → V G f call md P0 (pc + 3) lv rest M hi k n) : V G f call md P0 pc lv (.int x :: rest) M hi k n :=
  V_if_gt hd ht (fun q => k1 q (by rwa [if_pos q] at h)) (fun q => k2 q (by rwa [if_neg q] at h))
theorem D_if_le {x : Int32} {off : Int} {tgt : Nat} {A B : Option R} (h : (if x ≤ 0 then A else B) = some r) (hd : decode md.2.1 pc = .ok (.ifCond .le off, 3)) (ht : (pc : Int) + off = (tgt : Int)) (k1 : x ≤ 0 → A = some r → V G f call md P0 tgt lv rest M hi k n) (k2 : ¬ (x ≤ 0) → B = some r → V G f call md P0 (pc + 3) lv rest M hi k n) : V G f call md P0 pc lv (.int x :: rest) M hi k n :=
  V_if_le hd ht (fun q => k1 q (by rwa [if_pos q] at h)) (fun q => k2 q (by rwa [if_neg q] at h))
theorem D_icmp_eq {x y : Int32} {off : Int} {tgt : Nat} {A B : Option R} (h : (if x = y then A else B) = some r) (hd : decode md.2.1 pc = .ok (.if_icmp .eq off, 3)) (ht : (pc : Int) + off = (tgt : Int)) (k1 : x = y → A = some r → V G f call md P0 tgt lv rest M hi k n) (k2 : ¬ (x = y) → B = some r → V G f call md P0 (pc + 3) lv rest M hi k n) : V G f call md P0 pc lv (.int y :: .int x :: rest) M hi k n :=
  V_icmp_eq hd ht (fun q => k1 q (by rwa [if_pos q] at h)) (fun q => k2 q (by rwa [if_neg q] at h))
theorem D_icmp_lt {x y : Int32} {off : Int} {tgt : Nat} {A B : Option R} (h : (if x < y then A else B) = some r) (hd : decode md.2.1 pc = .ok (.if_icmp .lt off, 3)) (ht : (pc : Int) + off = (tgt : Int)) (k1 : x < y → A = some r → V G f call md P0 tgt lv rest M hi k n) (k2 : ¬ (x < y) → B = some r → V G f call md P0 (pc + 3) lv rest M hi k n) : V G f call md P0 pc lv (.int y :: .int x :: rest) M hi k n :=
  V_icmp_lt hd ht (fun q => k1 q (by rwa [if_pos q] at h)) (fun q => k2 q (by rwa [if_neg q] at h))
theorem D_icmp_ge {x y : Int32} {off : Int} {tgt : Nat} {A B : Option R} (h : (if y ≤ x then A else B) = some r) (hd : decode md.2.1 pc = .ok (.if_icmp .ge off, 3)) (ht : (pc : Int) + off = (tgt : Int)) (k1 : y ≤ x → A = some r → V G f call md P0 tgt lv rest M hi k n) (k2 : ¬ (y ≤ x) → B = some r → V G f call md P0 (pc + 3) lv rest M hi k n) : V G f call md P0 pc lv (.int y :: .int x :: rest) M hi k n :=
  V_icmp_ge hd ht (fun q => k1 q (by rwa [if_pos q] at h)) (fun q => k2 q (by rwa [if_neg q] at h))
theorem D_icmp_gt {x y : Int32} {off : Int} {tgt : Nat} {A B : Option R} (h : (if y < x then A else B) = some r) (hd : decode md.2.1 pc = .ok (.if_icmp .gt off, 3)) (ht : (pc : Int) + off = (tgt : Int)) (k1 : y < x → A = some r → V G f call md P0 tgt lv rest M hi k n) (k2 : ¬ (y < x) → B = some r → V G f call md P0 (pc + 3) lv rest M hi k n) : V G f call md P0 pc lv (.int y :: .int x :: rest) M hi k n :=
  V_icmp_gt hd ht (fun q => k1 q (by rwa [if_pos q] at h)) (fun q => k2 q (by rwa [if_neg q] at h))
theorem D_icmp_le {x y : Int32} {off : Int} {tgt : Nat} {A B : Option R} (h : (if x ≤ y then A else B) = some r) (hd : decode md.2.1 pc = .ok (.if_icmp .le off, 3)) (ht : (pc : Int) + off = (tgt : Int)) (k1 : x ≤ y → A = some r → V G f call md P0 tgt lv rest M hi k n) (k2 : ¬ (x ≤ y) → B = some r → V G f call md P0 (pc + 3) lv rest M hi k n) : V G f call md P0 pc lv (.int y :: .int x :: rest) M hi k n :=
  V_icmp_le hd ht (fun q => k1 q (by rwa [if_pos q] at h)) (fun q => k2 q (by rwa [if_neg q] at h))
theorem D_icmp_ne {x y : Int32} {off : Int} {tgt : Nat} {A B : Option R} (h : (if x = y then A else B) = some r) (hd : decode md.2.1 pc = .ok (.if_icmp .ne off, 3)) (ht : (pc : Int) + off = (tgt : Int)) (k1 : ¬ x = y → B = some r → V G f call md P0 tgt lv rest M hi k n) (k2 : x = y → A = some r → V G f call md P0 (pc + 3) lv rest M hi k n) : V G f call md P0 pc lv (.int y :: .int x :: rest) M hi k n :=
  V_icmp_ne hd ht (fun q => k1 q (by rwa [if_neg q] at h)) (fun q => k2 q (by rwa [if_pos q] at h))
theorem D_istore_n {q : Fin 4} {i : Nat} {v : Int32} {K : Int32 → Option R} (h : bnd v K = some r) (hd : decode md.2.1 pc = .ok (.istore_n q, 1)) (hq : (q : Nat) = i) (hn : i < md.2.2.1) (kk : ∀ x, K x = some r → V G f call md P0 (pc + 1) (lset lv i (.int x)) rest M hi k n) : V G f call md P0 pc lv (.int v :: rest) M hi k n := V_istore_n hd hq hn (kk _ h)
theorem D_istore {i : Nat} {v : Int32} {K : Int32 → Option R} (h : bnd v K = some r) (hd : decode md.2.1 pc = .ok (.istore i, 2)) (hn : i < md.2.2.1) (kk : ∀ x, K x = some r → V G f call md P0 (pc + 2) (lset lv i (.int x)) rest M hi k n) : V G f call md P0 pc lv (.int v :: rest) M hi k n := V_istore hd hn (kk _ h)
theorem D_iinc {i : Nat} {c : Int} {x w : Int32} (hd : decode md.2.1 pc = .ok (.iinc i c, 3)) (hl : lget lv i = some (.int x)) (hw : Int32.ofInt c = w) (hn : i < md.2.2.1) (kk : V G f call md P0 (pc + 3) (lset lv i (.int (x + w))) rest M hi k n) : V G f call md P0 pc lv rest M hi k n := V_iinc hd hl (by rw [hw]) hn kk
theorem V_tsIn {dflt lo0 hi0 : Int} {offs : Array Int} {len : Nat} {x c : Int32} {off : Int} {tgt : Nat} (hx : x = c) (hd : decode md.2.1 pc = .ok (.tableswitch dflt lo0 hi0 offs, len)) (h1 : ¬ c.toInt < lo0) (h2 : ¬ hi0 < c.toInt) (h3 : offs[(c.toInt - lo0).toNat]? = some off) (h4 : (pc : Int) + off = (tgt : Int)) (kk : V G f call md P0 tgt lv rest M hi k n) : V G f call md P0 pc lv (.int x :: rest) M hi k n := by
  subst hx
  exact V_tableIn hd h1 h2 h3 h4 kk
theorem V_tsOut {dflt lo0 hi0 : Int} {offs : Array Int} {len : Nat} {x : Int32} {tgt : Nat} {K : Option R} (h : gd (tso x lo0 hi0) K = some r) (hd : decode md.2.1 pc = .ok (.tableswitch dflt lo0 hi0 offs, len)) (h4 : (pc : Int) + dflt = (tgt : Int)) (kk : K = some r → V G f call md P0 tgt lv rest M hi k n) : V G f call md P0 pc lv (.int x :: rest) M hi k n :=
  V_tableOut hd (tso_ok (gd_ok h).1) h4 (kk (gd_ok h).2)
theorem D_cVI {a : Nat} {st As : List Value} {idx nn : Nat} {md2 : MD} {o : Option Int32} {K : Int32 → Option R} (h : bdc o K = some r) (hd : decode md.2.1 pc = .ok (.invokevirtual idx, 3)) (hc : CVr md.1.cls idx md2 nn) (hl : As.length = nn) (hr : RECV M a md2.1.cls) (hst : st = As.reverse ++ .ref a :: rest) (hcs : csum rest ≤ 8) (hx : ∀ x, o = some x → call md2 (.ref a :: As) M hi 0 0 (RH (.inl (some (.int x))) M hi)) (kk : ∀ x, K x = some r → V G f call md P0 (pc + 3) lv (.int x :: rest) M hi k n) : V G f call md P0 pc lv st M hi k n := by
  match o, h, hx with
  | some x, h, hx =>
    exact V_callV (k2 := 0) (n2 := 0) hd hc hl hr hst hcs (hx x rfl) (fun v M2 hi2 hp => by obtain ⟨h1, rfl, rfl⟩ := hp; cases h1; exact kk x h) (fun E M2 hi2 hp => by obtain ⟨h1, -⟩ := hp; cases h1)
theorem D_cVD {a : Nat} {st As : List Value} {idx nn : Nat} {md2 : MD} {o : Option UInt64} {K : UInt64 → Option R} (h : bdc o K = some r) (hd : decode md.2.1 pc = .ok (.invokevirtual idx, 3)) (hc : CVr md.1.cls idx md2 nn) (hl : As.length = nn) (hr : RECV M a md2.1.cls) (hst : st = As.reverse ++ .ref a :: rest) (hcs : csum rest ≤ 8) (hx : ∀ x, o = some x → call md2 (.ref a :: As) M hi 0 0 (RH (.inl (some (.double x))) M hi)) (kk : ∀ x, K x = some r → V G f call md P0 (pc + 3) lv (.double x :: rest) M hi k n) : V G f call md P0 pc lv st M hi k n := by
  match o, h, hx with
  | some x, h, hx =>
    exact V_callV (k2 := 0) (n2 := 0) hd hc hl hr hst hcs (hx x rfl) (fun v M2 hi2 hp => by obtain ⟨h1, rfl, rfl⟩ := hp; cases h1; exact kk x h) (fun E M2 hi2 hp => by obtain ⟨h1, -⟩ := hp; cases h1)
theorem D_cVF {a : Nat} {st As : List Value} {idx nn : Nat} {md2 : MD} {o : Option UInt32} {K : UInt32 → Option R} (h : bdc o K = some r) (hd : decode md.2.1 pc = .ok (.invokevirtual idx, 3)) (hc : CVr md.1.cls idx md2 nn) (hl : As.length = nn) (hr : RECV M a md2.1.cls) (hst : st = As.reverse ++ .ref a :: rest) (hcs : csum rest ≤ 8) (hx : ∀ x, o = some x → call md2 (.ref a :: As) M hi 0 0 (RH (.inl (some (.float x))) M hi)) (kk : ∀ x, K x = some r → V G f call md P0 (pc + 3) lv (.float x :: rest) M hi k n) : V G f call md P0 pc lv st M hi k n := by
  match o, h, hx with
  | some x, h, hx =>
    exact V_callV (k2 := 0) (n2 := 0) hd hc hl hr hst hcs (hx x rfl) (fun v M2 hi2 hp => by obtain ⟨h1, rfl, rfl⟩ := hp; cases h1; exact kk x h) (fun E M2 hi2 hp => by obtain ⟨h1, -⟩ := hp; cases h1)
theorem D_cVU {B : Type} {a : Nat} {st As : List Value} {idx nn : Nat} {md2 : MD} {o : Option B} {μ : B → MM} {K : B → Option R} (h : bdc o K = some r) (hd : decode md.2.1 pc = .ok (.invokevirtual idx, 3)) (hc : CVr md.1.cls idx md2 nn) (hl : As.length = nn) (hr : RECV M a md2.1.cls) (hst : st = As.reverse ++ .ref a :: rest) (hcs : csum rest ≤ 8) (hx : ∀ y, o = some y → call md2 (.ref a :: As) M hi 0 0 (RH (.inl none) (μ y) hi)) (kk : ∀ y, K y = some r → V G f call md P0 (pc + 3) lv (rest) (μ y) hi k n) : V G f call md P0 pc lv st M hi k n := by
  match o, h, hx with
  | some y, h, hx =>
    exact V_callV (k2 := 0) (n2 := 0) hd hc hl hr hst hcs (hx y rfl) (fun v M2 hi2 hp => by obtain ⟨h1, rfl, rfl⟩ := hp; cases h1; exact kk y h) (fun E M2 hi2 hp => by obtain ⟨h1, -⟩ := hp; cases h1)
theorem D_cVIW {B : Type} {a : Nat} {st As : List Value} {idx nn : Nat} {md2 : MD} {o : Option (Int32 × B)} {μ : B → MM} {K : Int32 → B → Option R} (h : bd2 o K = some r) (hd : decode md.2.1 pc = .ok (.invokevirtual idx, 3)) (hc : CVr md.1.cls idx md2 nn) (hl : As.length = nn) (hr : RECV M a md2.1.cls) (hst : st = As.reverse ++ .ref a :: rest) (hcs : csum rest ≤ 8) (hx : ∀ x y, o = some (x, y) → call md2 (.ref a :: As) M hi 0 0 (RH (.inl (some (.int x))) (μ y) hi)) (kk : ∀ x y, K x y = some r → V G f call md P0 (pc + 3) lv (.int x :: rest) (μ y) hi k n) : V G f call md P0 pc lv st M hi k n := by
  match o, h, hx with
  | some (x, y), h, hx =>
    exact V_callV (k2 := 0) (n2 := 0) hd hc hl hr hst hcs (hx x y rfl) (fun v M2 hi2 hp => by obtain ⟨h1, rfl, rfl⟩ := hp; cases h1; exact kk x y h) (fun E M2 hi2 hp => by obtain ⟨h1, -⟩ := hp; cases h1)
theorem D_cSI {st As : List Value} {idx nn : Nat} {md2 : MD} {o : Option Int32} {K : Int32 → Option R} (h : bdc o K = some r) (hd : decode md.2.1 pc = .ok (.invokestatic idx, 3)) (hc : CSr md.1.cls idx md2 nn) (hl : As.length = nn) (hst : st = As.reverse ++ rest) (hcs : csum rest ≤ 8) (hx : ∀ x, o = some x → call md2 (As) M hi 0 0 (RH (.inl (some (.int x))) M hi)) (kk : ∀ x, K x = some r → V G f call md P0 (pc + 3) lv (.int x :: rest) M hi k n) : V G f call md P0 pc lv st M hi k n := by
  match o, h, hx with
  | some x, h, hx =>
    exact V_callS (a := 0) (k2 := 0) (n2 := 0) hd hc hl hst hcs (hx x rfl) (fun v M2 hi2 hp => by obtain ⟨h1, rfl, rfl⟩ := hp; cases h1; exact kk x h) (fun E M2 hi2 hp => by obtain ⟨h1, -⟩ := hp; cases h1)
theorem D_cSD {st As : List Value} {idx nn : Nat} {md2 : MD} {o : Option UInt64} {K : UInt64 → Option R} (h : bdc o K = some r) (hd : decode md.2.1 pc = .ok (.invokestatic idx, 3)) (hc : CSr md.1.cls idx md2 nn) (hl : As.length = nn) (hst : st = As.reverse ++ rest) (hcs : csum rest ≤ 8) (hx : ∀ x, o = some x → call md2 (As) M hi 0 0 (RH (.inl (some (.double x))) M hi)) (kk : ∀ x, K x = some r → V G f call md P0 (pc + 3) lv (.double x :: rest) M hi k n) : V G f call md P0 pc lv st M hi k n := by
  match o, h, hx with
  | some x, h, hx =>
    exact V_callS (a := 0) (k2 := 0) (n2 := 0) hd hc hl hst hcs (hx x rfl) (fun v M2 hi2 hp => by obtain ⟨h1, rfl, rfl⟩ := hp; cases h1; exact kk x h) (fun E M2 hi2 hp => by obtain ⟨h1, -⟩ := hp; cases h1)
theorem D_cSF {st As : List Value} {idx nn : Nat} {md2 : MD} {o : Option UInt32} {K : UInt32 → Option R} (h : bdc o K = some r) (hd : decode md.2.1 pc = .ok (.invokestatic idx, 3)) (hc : CSr md.1.cls idx md2 nn) (hl : As.length = nn) (hst : st = As.reverse ++ rest) (hcs : csum rest ≤ 8) (hx : ∀ x, o = some x → call md2 (As) M hi 0 0 (RH (.inl (some (.float x))) M hi)) (kk : ∀ x, K x = some r → V G f call md P0 (pc + 3) lv (.float x :: rest) M hi k n) : V G f call md P0 pc lv st M hi k n := by
  match o, h, hx with
  | some x, h, hx =>
    exact V_callS (a := 0) (k2 := 0) (n2 := 0) hd hc hl hst hcs (hx x rfl) (fun v M2 hi2 hp => by obtain ⟨h1, rfl, rfl⟩ := hp; cases h1; exact kk x h) (fun E M2 hi2 hp => by obtain ⟨h1, -⟩ := hp; cases h1)
theorem D_cSU {B : Type} {st As : List Value} {idx nn : Nat} {md2 : MD} {o : Option B} {μ : B → MM} {K : B → Option R} (h : bdc o K = some r) (hd : decode md.2.1 pc = .ok (.invokestatic idx, 3)) (hc : CSr md.1.cls idx md2 nn) (hl : As.length = nn) (hst : st = As.reverse ++ rest) (hcs : csum rest ≤ 8) (hx : ∀ y, o = some y → call md2 (As) M hi 0 0 (RH (.inl none) (μ y) hi)) (kk : ∀ y, K y = some r → V G f call md P0 (pc + 3) lv (rest) (μ y) hi k n) : V G f call md P0 pc lv st M hi k n := by
  match o, h, hx with
  | some y, h, hx =>
    exact V_callS (a := 0) (k2 := 0) (n2 := 0) hd hc hl hst hcs (hx y rfl) (fun v M2 hi2 hp => by obtain ⟨h1, rfl, rfl⟩ := hp; cases h1; exact kk y h) (fun E M2 hi2 hp => by obtain ⟨h1, -⟩ := hp; cases h1)
theorem D_cSIW {B : Type} {st As : List Value} {idx nn : Nat} {md2 : MD} {o : Option (Int32 × B)} {μ : B → MM} {K : Int32 → B → Option R} (h : bd2 o K = some r) (hd : decode md.2.1 pc = .ok (.invokestatic idx, 3)) (hc : CSr md.1.cls idx md2 nn) (hl : As.length = nn) (hst : st = As.reverse ++ rest) (hcs : csum rest ≤ 8) (hx : ∀ x y, o = some (x, y) → call md2 (As) M hi 0 0 (RH (.inl (some (.int x))) (μ y) hi)) (kk : ∀ x y, K x y = some r → V G f call md P0 (pc + 3) lv (.int x :: rest) (μ y) hi k n) : V G f call md P0 pc lv st M hi k n := by
  match o, h, hx with
  | some (x, y), h, hx =>
    exact V_callS (a := 0) (k2 := 0) (n2 := 0) hd hc hl hst hcs (hx x y rfl) (fun v M2 hi2 hp => by obtain ⟨h1, rfl, rfl⟩ := hp; cases h1; exact kk x y h) (fun E M2 hi2 hp => by obtain ⟨h1, -⟩ := hp; cases h1)
theorem D_cVP {a : Nat} {st As : List Value} {idx nn q : Nat} {md2 : MD} {o : Option (Option Nat)} {K : Option Nat → Option R} (h : bdc o K = some r) (hd : decode md.2.1 pc = .ok (.invokevirtual idx, 3)) (hc : CVr md.1.cls idx md2 nn) (hl : As.length = nn) (hr : RECV M a md2.1.cls) (hst : st = As.reverse ++ .ref a :: rest) (hcs : csum rest ≤ 8) (hx : ∀ x, o = some x → call md2 (.ref a :: As) M hi 0 0 (RH (.inl (some (orf q x))) M hi)) (kk : ∀ x, K x = some r → V G f call md P0 (pc + 3) lv (orf q x :: rest) M hi k n) : V G f call md P0 pc lv st M hi k n := by
  match o, h, hx with
  | some x, h, hx =>
    exact V_callV (k2 := 0) (n2 := 0) hd hc hl hr hst hcs (hx x rfl) (fun v M2 hi2 hp => by obtain ⟨h1, rfl, rfl⟩ := hp; cases h1; exact kk x h) (fun E M2 hi2 hp => by obtain ⟨h1, -⟩ := hp; cases h1)
end DRows
