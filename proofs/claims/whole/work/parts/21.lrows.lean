/-! rows that the law alone needs -/
section LRows
variable {G : GT} {f : Nat} {call : CT} {md : MD} {P0 : PS} {pc : Nat} {lv : List (Nat × Value)} {M : MM} {hi k n : Nat} {rest : List Value} {R : Type} {r : R}
theorem D_sld {x : Int32} {K : Option R} (h : gd (inr x G.2.1) K = some r) (hd : decode md.2.1 pc = .ok (.iaload, 1)) (kk : K = some r → V G f call md P0 (pc + 1) lv (.int (G.2.2.1 (ix x)) :: rest) M hi k n) : V G f call md P0 pc lv (.int x :: .ref G.1 :: rest) M hi k n :=
  V_sld hd (inr_vp (gd_ok h).1) (kk (gd_ok h).2)
theorem D_cSXIW {B : Type} {st As : List Value} {idx nn k2 n2 : Nat} {md2 : MD} {o : Option (Int32 × B)} {μ : B → MM} {K : Int32 → B → Option R} (h : bd2 o K = some r) (hd : decode md.2.1 pc = .ok (.invokestatic idx, 3)) (hc : CSXr md.1.cls idx md2 nn) (hl : As.length = nn) (hst : st = As.reverse ++ rest) (hcs : csum rest ≤ 8) (hx : ∀ x y, o = some (x, y) → call md2 As M hi k2 n2 (RP (.inl (some (.int x))) (μ y))) (kk : ∀ x y hi, K x y = some r → V G f call md P0 (pc + 3) lv (.int x :: rest) (μ y) hi k n) : V G f call md P0 pc lv st M hi (k + k2) (n + n2) := by
  match o, h, hx with
  | some (x, y), h, hx =>
    exact V_callSX (a := 0) hd hc hl hst hcs (hx x y rfl) (fun v M2 hi2 hp => by obtain ⟨h1, rfl⟩ := hp; cases h1; exact kk x y _ h) (fun E M2 hi2 hp => by obtain ⟨h1, -⟩ := hp; cases h1)
theorem D_cVDW {B : Type} {a : Nat} {st As : List Value} {idx nn : Nat} {md2 : MD} {o : Option (UInt64 × B)} {μ : B → MM} {K : UInt64 → B → Option R} (h : bd2 o K = some r) (hd : decode md.2.1 pc = .ok (.invokevirtual idx, 3)) (hc : CVr md.1.cls idx md2 nn) (hl : As.length = nn) (hr : RECV M a md2.1.cls) (hst : st = As.reverse ++ .ref a :: rest) (hcs : csum rest ≤ 8) (hx : ∀ x y, o = some (x, y) → call md2 (.ref a :: As) M hi 0 0 (RH (.inl (some (.double x))) (μ y) hi)) (kk : ∀ x y, K x y = some r → V G f call md P0 (pc + 3) lv (.double x :: rest) (μ y) hi k n) : V G f call md P0 pc lv st M hi k n := by
  match o, h, hx with
  | some (x, y), h, hx =>
    exact V_callV (k2 := 0) (n2 := 0) hd hc hl hr hst hcs (hx x y rfl) (fun v M2 hi2 hp => by obtain ⟨h1, rfl, rfl⟩ := hp; cases h1; exact kk x y h) (fun E M2 hi2 hp => by obtain ⟨h1, -⟩ := hp; cases h1)
theorem D_cVFW {B : Type} {a : Nat} {st As : List Value} {idx nn : Nat} {md2 : MD} {o : Option (UInt32 × B)} {μ : B → MM} {K : UInt32 → B → Option R} (h : bd2 o K = some r) (hd : decode md.2.1 pc = .ok (.invokevirtual idx, 3)) (hc : CVr md.1.cls idx md2 nn) (hl : As.length = nn) (hr : RECV M a md2.1.cls) (hst : st = As.reverse ++ .ref a :: rest) (hcs : csum rest ≤ 8) (hx : ∀ x y, o = some (x, y) → call md2 (.ref a :: As) M hi 0 0 (RH (.inl (some (.float x))) (μ y) hi)) (kk : ∀ x y, K x y = some r → V G f call md P0 (pc + 3) lv (.float x :: rest) (μ y) hi k n) : V G f call md P0 pc lv st M hi k n := by
  match o, h, hx with
  | some (x, y), h, hx =>
    exact V_callV (k2 := 0) (n2 := 0) hd hc hl hr hst hcs (hx x y rfl) (fun v M2 hi2 hp => by obtain ⟨h1, rfl, rfl⟩ := hp; cases h1; exact kk x y h) (fun E M2 hi2 hp => by obtain ⟨h1, -⟩ := hp; cases h1)
end LRows
def PL : PS := fun q _ _ => q = .inl (some (.int 1))
