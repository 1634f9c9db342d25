section SRows
variable {G : GT} {f : Nat} {call : CT} {md : MD} {P0 : PS} {pc : Nat} {lv : List (Nat × Value)} {M Mx : MM} {hi k n : Nat} {rest : List Value} {p : Nat} {S : Nat → Int32} {R : Type} {r : R}
theorem D_ild {a n0 : Nat} {g : Nat → Int32} {x : Int32} {K : Option R} (h : gd (inr x n0) K = some r) (hm : M a = some (.inl (1, n0, .inl g))) (hd : decode md.2.1 pc = .ok (.iaload, 1)) (kk : K = some r → V G f call md P0 (pc + 1) lv (.int (g (ix x)) :: rest) M hi k n) : V G f call md P0 pc lv (.int x :: .ref a :: rest) M hi k n :=
  V_iaload hd hm (inr_vp (gd_ok h).1) (kk (gd_ok h).2)
theorem D_aldSt {x : Int32} {K : Option R} (h : gd (inr x 8) K = some r) (hm : Mx = wr p S M) (hd : decode md.2.1 pc = .ok (.aaload, 1)) (kk : ix x < 8 → K = some r → V G f call md P0 (pc + 1) lv (.ref (p + 6 + ix x) :: rest) Mx hi k n) : V G f call md P0 pc lv (.int x :: .ref (p + 1) :: rest) Mx hi k n := by
  obtain ⟨g, h⟩ := gd_ok h
  refine V_aaload (t := 6) (CC := RX5) hd (hm ▸ wr_a1) rfl (by decide) (inr_vp g) ?_
  have e : refs 8 (fun i => p + 6 + i) x.toNatClampNeg = some (p + 6 + ix x) := if_pos (inr_lt g)
  rw [e]
  exact kk (inr_lt g) h
theorem D_aldTk {x : Int32} {K : Option R} (h : gd (inr x 12) K = some r) (hm : Mx = wr p S M) (hd : decode md.2.1 pc = .ok (.aaload, 1)) (kk : ix x < 12 → K = some r → V G f call md P0 (pc + 1) lv (.ref (p + 14 + ix x) :: rest) Mx hi k n) : V G f call md P0 pc lv (.int x :: .ref (p + 2) :: rest) Mx hi k n := by
  obtain ⟨g, h⟩ := gd_ok h
  refine V_aaload (t := 7) (CC := RX7) hd (hm ▸ wr_a2) rfl (by decide) (inr_vp g) ?_
  have e : refs 12 (fun i => p + 14 + i) x.toNatClampNeg = some (p + 14 + ix x) := if_pos (inr_lt g)
  rw [e]
  exact kk (inr_lt g) h
theorem D_aldTr {x : Int32} {K : Option R} (h : gd (inr x 4) K = some r) (hm : Mx = wr p S M) (hd : decode md.2.1 pc = .ok (.aaload, 1)) (kk : ix x < 4 → K = some r → V G f call md P0 (pc + 1) lv (.ref (p + 26 + 2 * ix x) :: rest) Mx hi k n) : V G f call md P0 pc lv (.int x :: .ref (p + 3) :: rest) Mx hi k n := by
  obtain ⟨g, h⟩ := gd_ok h
  refine V_aaload (t := 8) (CC := RX8) hd (hm ▸ wr_a3) rfl (by decide) (inr_vp g) ?_
  have e : refs 4 (fun i => p + 26 + 2 * i) x.toNatClampNeg = some (p + 26 + 2 * ix x) := if_pos (inr_lt g)
  rw [e]
  exact kk (inr_lt g) h
theorem D_aldPc {x : Int32} {K : Option R} (h : gd (inr x 12) K = some r) (hm : Mx = wr p S M) (hd : decode md.2.1 pc = .ok (.aaload, 1)) (kk : ix x < 12 → K = some r → V G f call md P0 (pc + 1) lv (.ref (p + 34 + ix x) :: rest) Mx hi k n) : V G f call md P0 pc lv (.int x :: .ref (p + 4) :: rest) Mx hi k n := by
  obtain ⟨g, h⟩ := gd_ok h
  refine V_aaload (t := 4) (CC := RX2) hd (hm ▸ wr_a4) rfl (by decide) (inr_vp g) ?_
  have e : refs 12 (fun i => p + 34 + i) x.toNatClampNeg = some (p + 34 + ix x) := if_pos (inr_lt g)
  rw [e]
  exact kk (inr_lt g) h
theorem D_ildD {x : Int32} {K : Option R} (h : gd (inr x 64) K = some r) (hm : Mx = wr p S M) (hd : decode md.2.1 pc = .ok (.iaload, 1)) (kk : K = some r → V G f call md P0 (pc + 1) lv (.int (S (251 + ix x)) :: rest) Mx hi k n) : V G f call md P0 pc lv (.int x :: .ref (p + 5) :: rest) Mx hi k n := by
  obtain ⟨g, h⟩ := gd_ok h
  refine V_iaload hd (hm ▸ wr_a5) (inr_vp g) ?_
  have e : ints 64 (fun i => S (251 + i)) x.toNatClampNeg = S (251 + ix x) := if_pos (inr_lt g)
  rw [e]
  exact kk h
theorem D_ildR {i : Nat} {x : Int32} {K : Option R} (h : gd (inr x 6) K = some r) (hi4 : i < 4) (hm : Mx = wr p S M) (hd : decode md.2.1 pc = .ok (.iaload, 1)) (kk : K = some r → V G f call md P0 (pc + 1) lv (.int (S (87 + 14 * i + 2 + ix x)) :: rest) Mx hi k n) : V G f call md P0 pc lv (.int x :: .ref (p + 27 + 2 * i) :: rest) Mx hi k n := by
  obtain ⟨g, h⟩ := gd_ok h
  refine V_iaload hd (hm ▸ wr_sp hi4) (inr_vp g) ?_
  have e : ints 6 (fun j => S (87 + 14 * i + 2 + j)) x.toNatClampNeg = S (87 + 14 * i + 2 + ix x) := if_pos (inr_lt g)
  rw [e]
  exact kk h
theorem nI_ix {x : Int32} {n : Nat} (h : inr x n = true) : nI (ix x) = x := by
  unfold inr at h
  rw [Bool.and_eq_true] at h
  have h0 : ¬ x < 0 := fun q => by rw [decide_eq_true q] at h; cases h.1
  unfold nI ix
  have h1 : 0 ≤ x.toInt := by
    have := Int32.lt_iff_toInt_lt (x := x) (y := 0)
    have h2 : ¬ x.toInt < (0 : Int32).toInt := fun q => h0 (this.mpr q)
    simpa using h2
  apply Int32.toInt_inj.mp
  rw [Int32.toInt_ofNat_of_lt]
  · unfold Int32.toNatClampNeg
    omega
  · have := x.toInt_lt
    unfold Int32.toNatClampNeg
    omega
theorem D_istD {x v : Int32} {K : (Nat → Int32) → Option R} (h : gd (inr x 64) (bnd (upd S (251 + ix x) v) K) = some r) (hd : decode md.2.1 pc = .ok (.iastore, 1)) (kk : ∀ S, K S = some r → V G f call md P0 (pc + 1) lv rest (wr p S M) hi k n) : V G f call md P0 pc lv (.int v :: .int x :: .ref (p + 5) :: rest) (wr p S M) hi k n := by
  obtain ⟨g, h⟩ := gd_ok h
  have e := V_istD (G := G) (f := f) (call := call) (md := md) (P0 := P0) (pc := pc) (lv := lv) (M := M) (hi := hi) (k := k) (n := n) (rest := rest) (p := p) (S := S) (i := ix x) (x := v) hd (inr_lt g) (kk _ h)
  rw [nI_ix g] at e
  exact e
theorem D_istR {i : Nat} {x v : Int32} {K : (Nat → Int32) → Option R} (h : gd (inr x 6) (bnd (upd S (87 + 14 * i + 2 + ix x) v) K) = some r) (hi4 : i < 4) (hd : decode md.2.1 pc = .ok (.iastore, 1)) (kk : ∀ S, K S = some r → V G f call md P0 (pc + 1) lv rest (wr p S M) hi k n) : V G f call md P0 pc lv (.int v :: .int x :: .ref (p + 27 + 2 * i) :: rest) (wr p S M) hi k n := by
  obtain ⟨g, h⟩ := gd_ok h
  have e := V_istR (G := G) (f := f) (call := call) (md := md) (P0 := P0) (pc := pc) (lv := lv) (M := M) (hi := hi) (k := k) (n := n) (rest := rest) (p := p) (S := S) (i := i) (j := ix x) (x := v) hd hi4 (inr_lt g) (kk _ h)
  rw [nI_ix g] at e
  exact e
theorem D_pf_X4_5 {idx : Nat} {v : Int32} {K : (Nat → Int32) → Option R} (h : bnd (upd S (1) v) K = some r) (hd : decode md.2.1 pc = .ok (.putfield idx, 3)) (hF : FPT md idx 4 5 .int) (kk : ∀ S, K S = some r → V G f call md P0 (pc + 3) lv rest (wr p S M) hi k n) : V G f call md P0 pc lv (.int v :: .ref (p) :: rest) (wr p S M) hi k n := V_pf_X4_5 hd hF (kk _ h)
theorem D_pf_X4_6 {idx : Nat} {v : Int32} {K : (Nat → Int32) → Option R} (h : bnd (upd S (2) v) K = some r) (hd : decode md.2.1 pc = .ok (.putfield idx, 3)) (hF : FPT md idx 4 6 .int) (kk : ∀ S, K S = some r → V G f call md P0 (pc + 3) lv rest (wr p S M) hi k n) : V G f call md P0 pc lv (.int v :: .ref (p) :: rest) (wr p S M) hi k n := V_pf_X4_6 hd hF (kk _ h)
theorem D_pf_X4_7 {idx : Nat} {v : Int32} {K : (Nat → Int32) → Option R} (h : bnd (upd S (3) v) K = some r) (hd : decode md.2.1 pc = .ok (.putfield idx, 3)) (hF : FPT md idx 4 7 .int) (kk : ∀ S, K S = some r → V G f call md P0 (pc + 3) lv rest (wr p S M) hi k n) : V G f call md P0 pc lv (.int v :: .ref (p) :: rest) (wr p S M) hi k n := V_pf_X4_7 hd hF (kk _ h)
theorem D_pf_X4_8 {idx : Nat} {v : Int32} {K : (Nat → Int32) → Option R} (h : bnd (upd S (4) v) K = some r) (hd : decode md.2.1 pc = .ok (.putfield idx, 3)) (hF : FPT md idx 4 8 .int) (kk : ∀ S, K S = some r → V G f call md P0 (pc + 3) lv rest (wr p S M) hi k n) : V G f call md P0 pc lv (.int v :: .ref (p) :: rest) (wr p S M) hi k n := V_pf_X4_8 hd hF (kk _ h)
theorem D_pf_X4_9 {idx : Nat} {v : Int32} {K : (Nat → Int32) → Option R} (h : bnd (upd S (0) v) K = some r) (hd : decode md.2.1 pc = .ok (.putfield idx, 3)) (hF : FPT md idx 4 9 .int) (kk : ∀ S, K S = some r → V G f call md P0 (pc + 3) lv rest (wr p S M) hi k n) : V G f call md P0 pc lv (.int v :: .ref (p) :: rest) (wr p S M) hi k n := V_pf_X4_9 hd hF (kk _ h)
theorem D_pf_X4_10 {idx : Nat} {v : Int32} {K : (Nat → Int32) → Option R} (h : bnd (upd S (5) v) K = some r) (hd : decode md.2.1 pc = .ok (.putfield idx, 3)) (hF : FPT md idx 4 10 .int) (kk : ∀ S, K S = some r → V G f call md P0 (pc + 3) lv rest (wr p S M) hi k n) : V G f call md P0 pc lv (.int v :: .ref (p) :: rest) (wr p S M) hi k n := V_pf_X4_10 hd hF (kk _ h)
theorem D_pf_X4_11 {idx : Nat} {v : Int32} {K : (Nat → Int32) → Option R} (h : bnd (upd S (6) v) K = some r) (hd : decode md.2.1 pc = .ok (.putfield idx, 3)) (hF : FPT md idx 4 11 .int) (kk : ∀ S, K S = some r → V G f call md P0 (pc + 3) lv rest (wr p S M) hi k n) : V G f call md P0 pc lv (.int v :: .ref (p) :: rest) (wr p S M) hi k n := V_pf_X4_11 hd hF (kk _ h)
theorem D_pf_X5_0 {idx : Nat} {v : Int32} {i : Nat} {K : (Nat → Int32) → Option R} (h : bnd (upd S (7 + 4 * i) v) K = some r) (hd : decode md.2.1 pc = .ok (.putfield idx, 3)) (hF : FPT md idx 5 0 .int) (hj : i < 8) (kk : ∀ S, K S = some r → V G f call md P0 (pc + 3) lv rest (wr p S M) hi k n) : V G f call md P0 pc lv (.int v :: .ref (p + 6 + i) :: rest) (wr p S M) hi k n := V_pf_X5_0 hd hF hj (kk _ h)
theorem D_pf_X5_1 {idx : Nat} {v : Int32} {i : Nat} {K : (Nat → Int32) → Option R} (h : bnd (upd S (7 + 4 * i + 1) v) K = some r) (hd : decode md.2.1 pc = .ok (.putfield idx, 3)) (hF : FPT md idx 5 1 .boolean) (hv : v = 0 ∨ v = 1) (hj : i < 8) (kk : ∀ S, K S = some r → V G f call md P0 (pc + 3) lv rest (wr p S M) hi k n) : V G f call md P0 pc lv (.int v :: .ref (p + 6 + i) :: rest) (wr p S M) hi k n := V_pf_X5_1 hd hF hv hj (kk _ h)
theorem D_pf_X5_2 {idx : Nat} {v : Int32} {i : Nat} {K : (Nat → Int32) → Option R} (h : bnd (upd S (7 + 4 * i + 2) v) K = some r) (hd : decode md.2.1 pc = .ok (.putfield idx, 3)) (hF : FPT md idx 5 2 .int) (hj : i < 8) (kk : ∀ S, K S = some r → V G f call md P0 (pc + 3) lv rest (wr p S M) hi k n) : V G f call md P0 pc lv (.int v :: .ref (p + 6 + i) :: rest) (wr p S M) hi k n := V_pf_X5_2 hd hF hj (kk _ h)
theorem D_pf_X5_3 {idx : Nat} {v : Int32} {i : Nat} {K : (Nat → Int32) → Option R} (h : bnd (upd S (7 + 4 * i + 3) v) K = some r) (hd : decode md.2.1 pc = .ok (.putfield idx, 3)) (hF : FPT md idx 5 3 .int) (hj : i < 8) (kk : ∀ S, K S = some r → V G f call md P0 (pc + 3) lv rest (wr p S M) hi k n) : V G f call md P0 pc lv (.int v :: .ref (p + 6 + i) :: rest) (wr p S M) hi k n := V_pf_X5_3 hd hF hj (kk _ h)
theorem D_pf_X7_0 {idx : Nat} {v : Int32} {i : Nat} {K : (Nat → Int32) → Option R} (h : bnd (upd S (39 + 4 * i) v) K = some r) (hd : decode md.2.1 pc = .ok (.putfield idx, 3)) (hF : FPT md idx 7 0 .int) (hj : i < 12) (kk : ∀ S, K S = some r → V G f call md P0 (pc + 3) lv rest (wr p S M) hi k n) : V G f call md P0 pc lv (.int v :: .ref (p + 14 + i) :: rest) (wr p S M) hi k n := V_pf_X7_0 hd hF hj (kk _ h)
theorem D_pf_X7_1 {idx : Nat} {v : Int32} {i : Nat} {K : (Nat → Int32) → Option R} (h : bnd (upd S (39 + 4 * i + 1) v) K = some r) (hd : decode md.2.1 pc = .ok (.putfield idx, 3)) (hF : FPT md idx 7 1 .int) (hj : i < 12) (kk : ∀ S, K S = some r → V G f call md P0 (pc + 3) lv rest (wr p S M) hi k n) : V G f call md P0 pc lv (.int v :: .ref (p + 14 + i) :: rest) (wr p S M) hi k n := V_pf_X7_1 hd hF hj (kk _ h)
theorem D_pf_X7_2 {idx : Nat} {v : Int32} {i : Nat} {K : (Nat → Int32) → Option R} (h : bnd (upd S (39 + 4 * i + 2) v) K = some r) (hd : decode md.2.1 pc = .ok (.putfield idx, 3)) (hF : FPT md idx 7 2 .int) (hj : i < 12) (kk : ∀ S, K S = some r → V G f call md P0 (pc + 3) lv rest (wr p S M) hi k n) : V G f call md P0 pc lv (.int v :: .ref (p + 14 + i) :: rest) (wr p S M) hi k n := V_pf_X7_2 hd hF hj (kk _ h)
theorem D_pf_X7_3 {idx : Nat} {v : Int32} {i : Nat} {K : (Nat → Int32) → Option R} (h : bnd (upd S (39 + 4 * i + 3) v) K = some r) (hd : decode md.2.1 pc = .ok (.putfield idx, 3)) (hF : FPT md idx 7 3 .boolean) (hv : v = 0 ∨ v = 1) (hj : i < 12) (kk : ∀ S, K S = some r → V G f call md P0 (pc + 3) lv rest (wr p S M) hi k n) : V G f call md P0 pc lv (.int v :: .ref (p + 14 + i) :: rest) (wr p S M) hi k n := V_pf_X7_3 hd hF hv hj (kk _ h)
theorem D_pf_X8_1 {idx : Nat} {v : Int32} {i : Nat} {K : (Nat → Int32) → Option R} (h : bnd (upd S (87 + 14 * i) v) K = some r) (hd : decode md.2.1 pc = .ok (.putfield idx, 3)) (hF : FPT md idx 8 1 .int) (hj : i < 4) (kk : ∀ S, K S = some r → V G f call md P0 (pc + 3) lv rest (wr p S M) hi k n) : V G f call md P0 pc lv (.int v :: .ref (p + 26 + 2 * i) :: rest) (wr p S M) hi k n := V_pf_X8_1 hd hF hj (kk _ h)
theorem D_pf_X8_3 {idx : Nat} {v : Int32} {i : Nat} {K : (Nat → Int32) → Option R} (h : bnd (upd S (87 + 14 * i + 1) v) K = some r) (hd : decode md.2.1 pc = .ok (.putfield idx, 3)) (hF : FPT md idx 8 3 .int) (hj : i < 4) (kk : ∀ S, K S = some r → V G f call md P0 (pc + 3) lv rest (wr p S M) hi k n) : V G f call md P0 pc lv (.int v :: .ref (p + 26 + 2 * i) :: rest) (wr p S M) hi k n := V_pf_X8_3 hd hF hj (kk _ h)
theorem D_pf_X8_4 {idx : Nat} {v : Int32} {i : Nat} {K : (Nat → Int32) → Option R} (h : bnd (upd S (87 + 14 * i + 8) v) K = some r) (hd : decode md.2.1 pc = .ok (.putfield idx, 3)) (hF : FPT md idx 8 4 .int) (hj : i < 4) (kk : ∀ S, K S = some r → V G f call md P0 (pc + 3) lv rest (wr p S M) hi k n) : V G f call md P0 pc lv (.int v :: .ref (p + 26 + 2 * i) :: rest) (wr p S M) hi k n := V_pf_X8_4 hd hF hj (kk _ h)
theorem D_pf_X8_5 {idx : Nat} {v : Int32} {i : Nat} {K : (Nat → Int32) → Option R} (h : bnd (upd S (87 + 14 * i + 9) v) K = some r) (hd : decode md.2.1 pc = .ok (.putfield idx, 3)) (hF : FPT md idx 8 5 .boolean) (hv : v = 0 ∨ v = 1) (hj : i < 4) (kk : ∀ S, K S = some r → V G f call md P0 (pc + 3) lv rest (wr p S M) hi k n) : V G f call md P0 pc lv (.int v :: .ref (p + 26 + 2 * i) :: rest) (wr p S M) hi k n := V_pf_X8_5 hd hF hv hj (kk _ h)
theorem D_pf_X8_6 {idx : Nat} {v : Int32} {i : Nat} {K : (Nat → Int32) → Option R} (h : bnd (upd S (87 + 14 * i + 10) v) K = some r) (hd : decode md.2.1 pc = .ok (.putfield idx, 3)) (hF : FPT md idx 8 6 .int) (hj : i < 4) (kk : ∀ S, K S = some r → V G f call md P0 (pc + 3) lv rest (wr p S M) hi k n) : V G f call md P0 pc lv (.int v :: .ref (p + 26 + 2 * i) :: rest) (wr p S M) hi k n := V_pf_X8_6 hd hF hj (kk _ h)
theorem D_pf_X8_7 {idx : Nat} {v : Int32} {i : Nat} {K : (Nat → Int32) → Option R} (h : bnd (upd S (87 + 14 * i + 11) v) K = some r) (hd : decode md.2.1 pc = .ok (.putfield idx, 3)) (hF : FPT md idx 8 7 .int) (hj : i < 4) (kk : ∀ S, K S = some r → V G f call md P0 (pc + 3) lv rest (wr p S M) hi k n) : V G f call md P0 pc lv (.int v :: .ref (p + 26 + 2 * i) :: rest) (wr p S M) hi k n := V_pf_X8_7 hd hF hj (kk _ h)
theorem D_pf_X8_8 {idx : Nat} {v : Int32} {i : Nat} {K : (Nat → Int32) → Option R} (h : bnd (upd S (87 + 14 * i + 12) v) K = some r) (hd : decode md.2.1 pc = .ok (.putfield idx, 3)) (hF : FPT md idx 8 8 .int) (hj : i < 4) (kk : ∀ S, K S = some r → V G f call md P0 (pc + 3) lv rest (wr p S M) hi k n) : V G f call md P0 pc lv (.int v :: .ref (p + 26 + 2 * i) :: rest) (wr p S M) hi k n := V_pf_X8_8 hd hF hj (kk _ h)
theorem D_pf_X8_9 {idx : Nat} {v : Int32} {i : Nat} {K : (Nat → Int32) → Option R} (h : bnd (upd S (87 + 14 * i + 13) v) K = some r) (hd : decode md.2.1 pc = .ok (.putfield idx, 3)) (hF : FPT md idx 8 9 .int) (hj : i < 4) (kk : ∀ S, K S = some r → V G f call md P0 (pc + 3) lv rest (wr p S M) hi k n) : V G f call md P0 pc lv (.int v :: .ref (p + 26 + 2 * i) :: rest) (wr p S M) hi k n := V_pf_X8_9 hd hF hj (kk _ h)
theorem D_pf_X2_1 {idx : Nat} {v : Int32} {i : Nat} {K : (Nat → Int32) → Option R} (h : bnd (upd S (143 + 9 * i) v) K = some r) (hd : decode md.2.1 pc = .ok (.putfield idx, 3)) (hF : FPT md idx 2 1 .int) (hj : i < 12) (kk : ∀ S, K S = some r → V G f call md P0 (pc + 3) lv rest (wr p S M) hi k n) : V G f call md P0 pc lv (.int v :: .ref (p + 34 + i) :: rest) (wr p S M) hi k n := V_pf_X2_1 hd hF hj (kk _ h)
theorem D_pf_X2_2 {idx : Nat} {v : Int32} {i : Nat} {K : (Nat → Int32) → Option R} (h : bnd (upd S (143 + 9 * i + 1) v) K = some r) (hd : decode md.2.1 pc = .ok (.putfield idx, 3)) (hF : FPT md idx 2 2 .int) (hj : i < 12) (kk : ∀ S, K S = some r → V G f call md P0 (pc + 3) lv rest (wr p S M) hi k n) : V G f call md P0 pc lv (.int v :: .ref (p + 34 + i) :: rest) (wr p S M) hi k n := V_pf_X2_2 hd hF hj (kk _ h)
theorem D_pf_X2_3 {idx : Nat} {v : Int32} {i : Nat} {K : (Nat → Int32) → Option R} (h : bnd (upd S (143 + 9 * i + 2) v) K = some r) (hd : decode md.2.1 pc = .ok (.putfield idx, 3)) (hF : FPT md idx 2 3 .int) (hj : i < 12) (kk : ∀ S, K S = some r → V G f call md P0 (pc + 3) lv rest (wr p S M) hi k n) : V G f call md P0 pc lv (.int v :: .ref (p + 34 + i) :: rest) (wr p S M) hi k n := V_pf_X2_3 hd hF hj (kk _ h)
theorem D_pf_X2_4 {idx : Nat} {v : Int32} {i : Nat} {K : (Nat → Int32) → Option R} (h : bnd (upd S (143 + 9 * i + 3) v) K = some r) (hd : decode md.2.1 pc = .ok (.putfield idx, 3)) (hF : FPT md idx 2 4 .int) (hj : i < 12) (kk : ∀ S, K S = some r → V G f call md P0 (pc + 3) lv rest (wr p S M) hi k n) : V G f call md P0 pc lv (.int v :: .ref (p + 34 + i) :: rest) (wr p S M) hi k n := V_pf_X2_4 hd hF hj (kk _ h)
theorem D_pf_X2_5 {idx : Nat} {v : Int32} {i : Nat} {K : (Nat → Int32) → Option R} (h : bnd (upd S (143 + 9 * i + 4) v) K = some r) (hd : decode md.2.1 pc = .ok (.putfield idx, 3)) (hF : FPT md idx 2 5 .int) (hj : i < 12) (kk : ∀ S, K S = some r → V G f call md P0 (pc + 3) lv rest (wr p S M) hi k n) : V G f call md P0 pc lv (.int v :: .ref (p + 34 + i) :: rest) (wr p S M) hi k n := V_pf_X2_5 hd hF hj (kk _ h)
theorem D_pf_X2_6 {idx : Nat} {v : Int32} {i : Nat} {K : (Nat → Int32) → Option R} (h : bnd (upd S (143 + 9 * i + 8) v) K = some r) (hd : decode md.2.1 pc = .ok (.putfield idx, 3)) (hF : FPT md idx 2 6 .int) (hj : i < 12) (kk : ∀ S, K S = some r → V G f call md P0 (pc + 3) lv rest (wr p S M) hi k n) : V G f call md P0 pc lv (.int v :: .ref (p + 34 + i) :: rest) (wr p S M) hi k n := V_pf_X2_6 hd hF hj (kk _ h)
theorem D_pf_X2_7 {idx : Nat} {v : Int32} {i : Nat} {K : (Nat → Int32) → Option R} (h : bnd (upd S (143 + 9 * i + 5) v) K = some r) (hd : decode md.2.1 pc = .ok (.putfield idx, 3)) (hF : FPT md idx 2 7 .int) (hj : i < 12) (kk : ∀ S, K S = some r → V G f call md P0 (pc + 3) lv rest (wr p S M) hi k n) : V G f call md P0 pc lv (.int v :: .ref (p + 34 + i) :: rest) (wr p S M) hi k n := V_pf_X2_7 hd hF hj (kk _ h)
theorem D_pf_X2_8 {idx : Nat} {v : Int32} {i : Nat} {K : (Nat → Int32) → Option R} (h : bnd (upd S (143 + 9 * i + 6) v) K = some r) (hd : decode md.2.1 pc = .ok (.putfield idx, 3)) (hF : FPT md idx 2 8 .int) (hj : i < 12) (kk : ∀ S, K S = some r → V G f call md P0 (pc + 3) lv rest (wr p S M) hi k n) : V G f call md P0 pc lv (.int v :: .ref (p + 34 + i) :: rest) (wr p S M) hi k n := V_pf_X2_8 hd hF hj (kk _ h)
theorem D_pf_X2_9 {idx : Nat} {v : Int32} {i : Nat} {K : (Nat → Int32) → Option R} (h : bnd (upd S (143 + 9 * i + 7) v) K = some r) (hd : decode md.2.1 pc = .ok (.putfield idx, 3)) (hF : FPT md idx 2 9 .int) (hj : i < 12) (kk : ∀ S, K S = some r → V G f call md P0 (pc + 3) lv rest (wr p S M) hi k n) : V G f call md P0 pc lv (.int v :: .ref (p + 34 + i) :: rest) (wr p S M) hi k n := V_pf_X2_9 hd hF hj (kk _ h)
/-- two States that lie apart -/
def apt (p q : Nat) : Prop := q + 46 ≤ p ∨ p + 46 ≤ q
variable {q : Nat} {T : Nat → Int32}
theorem wr2 {j : Nat} {e : va_E} (hpq : apt p q) (hj : j < 46) (h : wr q T M (q + j) = some e) : wr p S (wr q T M) (q + j) = some e := by
  rw [wr_out (by unfold apt at hpq; omega), h]
theorem wr2_o (hpq : apt p q) : wr p S (wr q T M) q = some (.inr (4, stO q T)) := wr2 (j := 0) hpq (by omega) wr_o
theorem wr2_a {j : Nat} {e : va_E} (hpq : apt p q) (hj : j < 46) (h : wr q T M (q + j) = some e) : wr p S (wr q T M) (q + j) = some e := wr2 hpq hj h
theorem wr2_st {i : Nat} (hpq : apt p q) (h : i < 8) : wr p S (wr q T M) (q + 6 + i) = some (.inr (5, stSt T i)) := by
  have e := wr_st (p := q) (S := T) (M := M) h
  rw [Nat.add_assoc] at e ⊢
  exact wr2 hpq (by omega) e
theorem wr2_tk {i : Nat} (hpq : apt p q) (h : i < 12) : wr p S (wr q T M) (q + 14 + i) = some (.inr (7, stTk T i)) := by
  have e := wr_tk (p := q) (S := T) (M := M) h
  rw [Nat.add_assoc] at e ⊢
  exact wr2 hpq (by omega) e
theorem wr2_tr {i : Nat} (hpq : apt p q) (h : i < 4) : wr p S (wr q T M) (q + 26 + 2 * i) = some (.inr (8, stTr q T i)) := by
  have e := wr_tr (p := q) (S := T) (M := M) h
  rw [Nat.add_assoc] at e ⊢
  exact wr2 hpq (by omega) e
theorem wr2_sp {i : Nat} (hpq : apt p q) (h : i < 4) : wr p S (wr q T M) (q + 27 + 2 * i) = some (.inl (1, 6, .inl (ints 6 fun j => T (87 + 14 * i + 2 + j)))) := by
  have e := wr_sp (p := q) (S := T) (M := M) h
  rw [Nat.add_assoc] at e ⊢
  exact wr2 hpq (by omega) e
theorem wr2_pc {i : Nat} (hpq : apt p q) (h : i < 12) : wr p S (wr q T M) (q + 34 + i) = some (.inr (2, stPc T i)) := by
  have e := wr_pc (p := q) (S := T) (M := M) h
  rw [Nat.add_assoc] at e ⊢
  exact wr2 hpq (by omega) e
theorem D_aldSt2 {x : Int32} {K : Option R} (h : gd (inr x 8) K = some r) (hpq : apt p q) (hd : decode md.2.1 pc = .ok (.aaload, 1)) (kk : ix x < 8 → K = some r → V G f call md P0 (pc + 1) lv (.ref (q + 6 + ix x) :: rest) (wr p S (wr q T M)) hi k n) : V G f call md P0 pc lv (.int x :: .ref (q + 1) :: rest) (wr p S (wr q T M)) hi k n := by
  obtain ⟨g, h⟩ := gd_ok h
  refine V_aaload (t := 6) (CC := RX5) hd (wr2 hpq (by omega) wr_a1) rfl (by decide) (inr_vp g) ?_
  have e : refs 8 (fun i => q + 6 + i) x.toNatClampNeg = some (q + 6 + ix x) := if_pos (inr_lt g)
  rw [e]
  exact kk (inr_lt g) h
theorem D_aldTk2 {x : Int32} {K : Option R} (h : gd (inr x 12) K = some r) (hpq : apt p q) (hd : decode md.2.1 pc = .ok (.aaload, 1)) (kk : ix x < 12 → K = some r → V G f call md P0 (pc + 1) lv (.ref (q + 14 + ix x) :: rest) (wr p S (wr q T M)) hi k n) : V G f call md P0 pc lv (.int x :: .ref (q + 2) :: rest) (wr p S (wr q T M)) hi k n := by
  obtain ⟨g, h⟩ := gd_ok h
  refine V_aaload (t := 7) (CC := RX7) hd (wr2 hpq (by omega) wr_a2) rfl (by decide) (inr_vp g) ?_
  have e : refs 12 (fun i => q + 14 + i) x.toNatClampNeg = some (q + 14 + ix x) := if_pos (inr_lt g)
  rw [e]
  exact kk (inr_lt g) h
theorem D_aldTr2 {x : Int32} {K : Option R} (h : gd (inr x 4) K = some r) (hpq : apt p q) (hd : decode md.2.1 pc = .ok (.aaload, 1)) (kk : ix x < 4 → K = some r → V G f call md P0 (pc + 1) lv (.ref (q + 26 + 2 * ix x) :: rest) (wr p S (wr q T M)) hi k n) : V G f call md P0 pc lv (.int x :: .ref (q + 3) :: rest) (wr p S (wr q T M)) hi k n := by
  obtain ⟨g, h⟩ := gd_ok h
  refine V_aaload (t := 8) (CC := RX8) hd (wr2 hpq (by omega) wr_a3) rfl (by decide) (inr_vp g) ?_
  have e : refs 4 (fun i => q + 26 + 2 * i) x.toNatClampNeg = some (q + 26 + 2 * ix x) := if_pos (inr_lt g)
  rw [e]
  exact kk (inr_lt g) h
theorem D_aldPc2 {x : Int32} {K : Option R} (h : gd (inr x 12) K = some r) (hpq : apt p q) (hd : decode md.2.1 pc = .ok (.aaload, 1)) (kk : ix x < 12 → K = some r → V G f call md P0 (pc + 1) lv (.ref (q + 34 + ix x) :: rest) (wr p S (wr q T M)) hi k n) : V G f call md P0 pc lv (.int x :: .ref (q + 4) :: rest) (wr p S (wr q T M)) hi k n := by
  obtain ⟨g, h⟩ := gd_ok h
  refine V_aaload (t := 4) (CC := RX2) hd (wr2 hpq (by omega) wr_a4) rfl (by decide) (inr_vp g) ?_
  have e : refs 12 (fun i => q + 34 + i) x.toNatClampNeg = some (q + 34 + ix x) := if_pos (inr_lt g)
  rw [e]
  exact kk (inr_lt g) h
theorem D_ildD2 {x : Int32} {K : Option R} (h : gd (inr x 64) K = some r) (hpq : apt p q) (hd : decode md.2.1 pc = .ok (.iaload, 1)) (kk : K = some r → V G f call md P0 (pc + 1) lv (.int (T (251 + ix x)) :: rest) (wr p S (wr q T M)) hi k n) : V G f call md P0 pc lv (.int x :: .ref (q + 5) :: rest) (wr p S (wr q T M)) hi k n := by
  obtain ⟨g, h⟩ := gd_ok h
  refine V_iaload hd (wr2 hpq (by omega) wr_a5) (inr_vp g) ?_
  have e : ints 64 (fun i => T (251 + i)) x.toNatClampNeg = T (251 + ix x) := if_pos (inr_lt g)
  rw [e]
  exact kk h
theorem D_ildR2 {i : Nat} {x : Int32} {K : Option R} (h : gd (inr x 6) K = some r) (hi4 : i < 4) (hpq : apt p q) (hd : decode md.2.1 pc = .ok (.iaload, 1)) (kk : K = some r → V G f call md P0 (pc + 1) lv (.int (T (87 + 14 * i + 2 + ix x)) :: rest) (wr p S (wr q T M)) hi k n) : V G f call md P0 pc lv (.int x :: .ref (q + 27 + 2 * i) :: rest) (wr p S (wr q T M)) hi k n := by
  obtain ⟨g, h⟩ := gd_ok h
  refine V_iaload hd (wr2_sp hpq hi4) (inr_vp g) ?_
  have e : ints 6 (fun j => T (87 + 14 * i + 2 + j)) x.toNatClampNeg = T (87 + 14 * i + 2 + ix x) := if_pos (inr_lt g)
  rw [e]
  exact kk h
end SRows
/-! the reference's int[251] with far behind it -/
section QRows
variable {G : GT} {f : Nat} {call : CT} {md : MD} {P0 : PS} {pc : Nat} {lv : List (Nat × Value)} {M : MM} {hi k n : Nat} {rest : List Value} {ga fa q : Nat} {F : Nat → Int32} {R : Type} {r : R}
theorem ints_up {N j : Nat} {g : Nat → Int32} {v : Int32} (h : j < N) : upd (ints N g) j v = ints N (upd g j v) := by
  rw [ints_upd h]
  rfl
end QRows
