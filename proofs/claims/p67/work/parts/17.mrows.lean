section MRows
variable {G : GT} {f : Nat} {call : CT} {md : MD} {P0 : PS} {pc : Nat} {lv : List (Nat × Value)} {M Mx : MM} {hi k n : Nat} {rest : List Value} {b c u p : Nat} {W : Nat → Nat → Int32} {R : Type} {r : R}
theorem mst (hc : 609 ≤ c) (hu : u < 13) (hp : p = PA b u) : MEM b c W M = wr p (W u) (MEM b c W M) := hp ▸ MEM_st hc hu
theorem mst_o (hc : 609 ≤ c) (hu : u < 13) (hp : p = PA b u) : MEM b c W M p = some (.inr (4, stO p (W u))) := by
  rw [mst hc hu hp]; exact wr_o
theorem mst_a1 (hc : 609 ≤ c) (hu : u < 13) (hp : p = PA b u) : MEM b c W M (p + 1) = some (.inl (6, 8, .inr (.inr (.inr (.inr (refs 8 fun i => p + 6 + i)))))) := by
  rw [mst hc hu hp]; exact wr_a1
theorem mst_a2 (hc : 609 ≤ c) (hu : u < 13) (hp : p = PA b u) : MEM b c W M (p + 2) = some (.inl (7, 12, .inr (.inr (.inr (.inr (refs 12 fun i => p + 14 + i)))))) := by
  rw [mst hc hu hp]; exact wr_a2
theorem mst_a3 (hc : 609 ≤ c) (hu : u < 13) (hp : p = PA b u) : MEM b c W M (p + 3) = some (.inl (8, 4, .inr (.inr (.inr (.inr (refs 4 fun i => p + 26 + 2 * i)))))) := by
  rw [mst hc hu hp]; exact wr_a3
theorem mst_a4 (hc : 609 ≤ c) (hu : u < 13) (hp : p = PA b u) : MEM b c W M (p + 4) = some (.inl (4, 12, .inr (.inr (.inr (.inr (refs 12 fun i => p + 34 + i)))))) := by
  rw [mst hc hu hp]; exact wr_a4
theorem mst_a5 (hc : 609 ≤ c) (hu : u < 13) (hp : p = PA b u) : MEM b c W M (p + 5) = some (.inl (1, 64, .inl (ints 64 fun i => W u (251 + i)))) := by
  rw [mst hc hu hp]; exact wr_a5
theorem mst_st {i : Nat} (hc : 609 ≤ c) (hu : u < 13) (hp : p = PA b u) (h : i < 8) : MEM b c W M (p + 6 + i) = some (.inr (5, stSt (W u) i)) := by
  rw [mst hc hu hp]; exact wr_st h
theorem mst_tk {i : Nat} (hc : 609 ≤ c) (hu : u < 13) (hp : p = PA b u) (h : i < 12) : MEM b c W M (p + 14 + i) = some (.inr (7, stTk (W u) i)) := by
  rw [mst hc hu hp]; exact wr_tk h
theorem mst_tr {i : Nat} (hc : 609 ≤ c) (hu : u < 13) (hp : p = PA b u) (h : i < 4) : MEM b c W M (p + 26 + 2 * i) = some (.inr (8, stTr p (W u) i)) := by
  rw [mst hc hu hp]; exact wr_tr h
theorem mst_sp {i : Nat} (hc : 609 ≤ c) (hu : u < 13) (hp : p = PA b u) (h : i < 4) : MEM b c W M (p + 27 + 2 * i) = some (.inl (1, 6, .inl (ints 6 fun j => W u (87 + 14 * i + 2 + j)))) := by
  rw [mst hc hu hp]; exact wr_sp h
theorem mst_pc {i : Nat} (hc : 609 ≤ c) (hu : u < 13) (hp : p = PA b u) (h : i < 12) : MEM b c W M (p + 34 + i) = some (.inr (2, stPc (W u) i)) := by
  rw [mst hc hu hp]; exact wr_pc h
theorem D3_ild {a n0 : Nat} {g : Nat → Int32} {x : Int32} {K : Option R} (h : gd (inr x n0) K = some r) (hm : Mx a = some (.inl (1, n0, .inl (ints n0 g)))) (hd : decode md.2.1 pc = .ok (.iaload, 1)) (kk : K = some r → V G f call md P0 (pc + 1) lv (.int (g (ix x)) :: rest) Mx hi k n) : V G f call md P0 pc lv (.int x :: .ref a :: rest) Mx hi k n := by
  obtain ⟨g1, h⟩ := gd_ok h
  refine V_iaload hd hm (inr_vp g1) ?_
  have e : ints n0 g x.toNatClampNeg = g (ix x) := if_pos (inr_lt g1)
  rw [e]
  exact kk h
theorem D3_bld {a n0 : Nat} {g : Nat → Int32} {x : Int32} {K : Option R} (h : gd (inr x n0) K = some r) (hm : Mx a = some (.inl (0, n0, .inl (ints n0 g)))) (hd : decode md.2.1 pc = .ok (.baload, 1)) (kk : K = some r → V G f call md P0 (pc + 1) lv (.int (g (ix x)) :: rest) Mx hi k n) : V G f call md P0 pc lv (.int x :: .ref a :: rest) Mx hi k n := by
  obtain ⟨g1, h⟩ := gd_ok h
  refine V_baload hd hm (inr_vp g1) ?_
  have e : ints n0 g x.toNatClampNeg = g (ix x) := if_pos (inr_lt g1)
  rw [e]
  exact kk h
theorem D3_zld {a n0 : Nat} {g : Nat → Int32} {x : Int32} {K : Option R} (h : gd (inr x n0) K = some r) (hm : Mx a = some (.inl (2, n0, .inl (ints n0 g)))) (hd : decode md.2.1 pc = .ok (.baload, 1)) (kk : K = some r → V G f call md P0 (pc + 1) lv (.int (g (ix x)) :: rest) Mx hi k n) : V G f call md P0 pc lv (.int x :: .ref a :: rest) Mx hi k n := by
  obtain ⟨g1, h⟩ := gd_ok h
  refine V_zaload hd hm (inr_vp g1) ?_
  have e : ints n0 g x.toNatClampNeg = g (ix x) := if_pos (inr_lt g1)
  rw [e]
  exact kk h
def nb (x : Int32) : Int32 := vp_nar .byte x
def nz (x : Int32) : Int32 := vp_nar .boolean x
theorem D3_ist {a n0 : Nat} {x v : Int32} {K : (Nat → Nat → Int32) → Option R} (h : gd (inr x n0) (bnd (w2 W u (ix x) v) K) = some r) (hm : MEM b c W M a = some (.inl (1, n0, .inl (ints n0 (W u))))) (hs : ∀ S : Nat → Int32, mset (MEM b c W M) a (.inl (1, n0, .inl (ints n0 S))) = MEM b c (setU W u S) M) (hd : decode md.2.1 pc = .ok (.iastore, 1)) (kk : ∀ W, K W = some r → V G f call md P0 (pc + 1) lv rest (MEM b c W M) hi k n) : V G f call md P0 pc lv (.int v :: .int x :: .ref a :: rest) (MEM b c W M) hi k n := by
  obtain ⟨g1, h⟩ := gd_ok h
  refine V_iastore hd hm (inr_vp g1) ?_
  rw [show upd (ints n0 (W u)) x.toNatClampNeg v = ints n0 (upd (W u) (ix x) v) from ints_up (inr_lt g1), hs]
  exact kk _ h
theorem D3_bst {a n0 : Nat} {x v : Int32} {K : (Nat → Nat → Int32) → Option R} (h : gd (inr x n0) (bnd (w2 W u (ix x) (nb v)) K) = some r) (hm : MEM b c W M a = some (.inl (0, n0, .inl (ints n0 (W u))))) (hs : ∀ S : Nat → Int32, mset (MEM b c W M) a (.inl (0, n0, .inl (ints n0 S))) = MEM b c (setU W u S) M) (hd : decode md.2.1 pc = .ok (.bastore, 1)) (kk : ∀ W, K W = some r → V G f call md P0 (pc + 1) lv rest (MEM b c W M) hi k n) : V G f call md P0 pc lv (.int v :: .int x :: .ref a :: rest) (MEM b c W M) hi k n := by
  obtain ⟨g1, h⟩ := gd_ok h
  refine V_bastore hd hm (inr_vp g1) ?_
  rw [show upd (ints n0 (W u)) x.toNatClampNeg (vp_nar .byte v) = ints n0 (upd (W u) (ix x) (nb v)) from ints_up (inr_lt g1), hs]
  exact kk _ h
theorem D3_zst {a n0 : Nat} {x v : Int32} {K : (Nat → Nat → Int32) → Option R} (h : gd (inr x n0) (bnd (w2 W u (ix x) (nz v)) K) = some r) (hm : MEM b c W M a = some (.inl (2, n0, .inl (ints n0 (W u))))) (hs : ∀ S : Nat → Int32, mset (MEM b c W M) a (.inl (2, n0, .inl (ints n0 S))) = MEM b c (setU W u S) M) (hd : decode md.2.1 pc = .ok (.bastore, 1)) (kk : ∀ W, K W = some r → V G f call md P0 (pc + 1) lv rest (MEM b c W M) hi k n) : V G f call md P0 pc lv (.int v :: .int x :: .ref a :: rest) (MEM b c W M) hi k n := by
  obtain ⟨g1, h⟩ := gd_ok h
  refine V_zastore hd hm (inr_vp g1) ?_
  rw [show upd (ints n0 (W u)) x.toNatClampNeg (vp_nar .boolean v) = ints n0 (upd (W u) (ix x) (nz v)) from ints_up (inr_lt g1), hs]
  exact kk _ h
theorem D3_put {a ci j kk idx : Nat} {fs : List Value} {v : Int32} {K : (Nat → Nat → Int32) → Option R} (h : bnd (w2 W u j v) K = some r) (hd : decode md.2.1 pc = .ok (.putfield idx, 3)) (hm : MEM b c W M a = some (.inr (ci, fs))) (hF : FPT md idx ci kk .int) (hl : kk < fs.length) (hs : mset (MEM b c W M) a (.inr (ci, fs.set kk (.int v))) = MEM b c (w2 W u j v) M) (k1 : ∀ W, K W = some r → V G f call md P0 (pc + 3) lv rest (MEM b c W M) hi k n) : V G f call md P0 pc lv (.int v :: .ref a :: rest) (MEM b c W M) hi k n := by
  refine V_putfield hd hm hF rfl rfl hl ?_
  rw [hs]
  exact k1 _ h
theorem D3_qld8 {x : Int32} {K : Option R} (hc : 609 ≤ c) (h : gd (inr x 8) K = some r) (hd : decode md.2.1 pc = .ok (.aaload, 1)) (kk : ix x < 8 → K = some r → V G f call md P0 (pc + 1) lv (.ref (b + 145 + 46 * ix x) :: rest) (MEM b c W M) hi k n) : V G f call md P0 pc lv (.int x :: .ref (b + 144) :: rest) (MEM b c W M) hi k n := by
  obtain ⟨g, h⟩ := gd_ok h
  refine V_aaload (t := 5) (CC := RX4) hd (mem_hs hc) rfl (by decide) (inr_vp g) ?_
  have e : refs 8 (fun i => b + 145 + 46 * i) x.toNatClampNeg = some (b + 145 + 46 * ix x) := if_pos (inr_lt g)
  rw [e]
  exact kk (inr_lt g) h
theorem D3_qld2 {x : Int32} {K : Option R} (hc : 609 ≤ c) (h : gd (inr x 2) K = some r) (hd : decode md.2.1 pc = .ok (.aaload, 1)) (kk : ix x < 2 → K = some r → V G f call md P0 (pc + 1) lv (.ref (b + 517 + 46 * ix x) :: rest) (MEM b c W M) hi k n) : V G f call md P0 pc lv (.int x :: .ref (b + 515) :: rest) (MEM b c W M) hi k n := by
  obtain ⟨g, h⟩ := gd_ok h
  refine V_aaload (t := 5) (CC := RX4) hd (mem_sl hc) rfl (by decide) (inr_vp g) ?_
  have e : refs 2 (fun i => b + 517 + 46 * i) x.toNatClampNeg = some (b + 517 + 46 * ix x) := if_pos (inr_lt g)
  rw [e]
  exact kk (inr_lt g) h
theorem D3_gen {μ : (Nat → Nat → Int32) → MM} {W0 : Nat → Nat → Int32} {K : (Nat → Nat → Int32) → Option R} (h : bnd W0 K = some r) (kk : ∀ W, K W = some r → V G f call md P0 pc lv rest (μ W) hi k n) : V G f call md P0 pc lv rest (μ W0) hi k n := kk _ h
/-- the reference's int arrays 21 .. 25 -/
theorem D3_pf_X5_2 {idx i : Nat} {v : Int32} {K : (Nat → Nat → Int32) → Option R} (hc : 609 ≤ c) (h : bnd (w2 W u (7 + 4 * i + 2) v) K = some r) (hd : decode md.2.1 pc = .ok (.putfield idx, 3)) (hF : FPT md idx 5 2 .int) (hj : i < 8) (hu : u < 13) (hp : p = PA b u) (k1 : ∀ W, K W = some r → V G f call md P0 (pc + 3) lv rest (MEM b c W M) hi k n) : V G f call md P0 pc lv (.int v :: .ref (p + 6 + i) :: rest) (MEM b c W M) hi k n := by
  have e := V_pf_X5_2 (G := G) (f := f) (call := call) (md := md) (P0 := P0) (pc := pc) (lv := lv) (hi := hi) (k := k) (n := n) (rest := rest) (p := p) (S := W u) (M := MEM b c W M) (v := v) hd hF hj
  subst hp
  rw [MEM_set hc hu, ← MEM_st hc hu] at e
  exact e (k1 _ h)
theorem D3_pf_X2_3 {idx i : Nat} {v : Int32} {K : (Nat → Nat → Int32) → Option R} (hc : 609 ≤ c) (h : bnd (w2 W u (143 + 9 * i + 2) v) K = some r) (hd : decode md.2.1 pc = .ok (.putfield idx, 3)) (hF : FPT md idx 2 3 .int) (hj : i < 12) (hu : u < 13) (hp : p = PA b u) (k1 : ∀ W, K W = some r → V G f call md P0 (pc + 3) lv rest (MEM b c W M) hi k n) : V G f call md P0 pc lv (.int v :: .ref (p + 34 + i) :: rest) (MEM b c W M) hi k n := by
  have e := V_pf_X2_3 (G := G) (f := f) (call := call) (md := md) (P0 := P0) (pc := pc) (lv := lv) (hi := hi) (k := k) (n := n) (rest := rest) (p := p) (S := W u) (M := MEM b c W M) (v := v) hd hF hj
  subst hp
  rw [MEM_set hc hu, ← MEM_st hc hu] at e
  exact e (k1 _ h)
theorem psc_13_0 {v : Int32} (hc : 609 ≤ c) : mset (MEM b c W M) (b + 93) (.inr (3, ([.ref (b + 94), .ref (b + 96), .int (W 13 0), .int (W 13 1), .int (W 13 2), .int (W 13 3), .int (W 13 4), .int (W 13 5), .int (W 13 6), .ref (b + 142), .int (W 13 7)] : List Value).set 2 (.int v))) = MEM b c (w2 W 13 0 v) M := put_13 hc (S := upd (W 13) 0 v)
theorem psc_13_1 {v : Int32} (hc : 609 ≤ c) : mset (MEM b c W M) (b + 93) (.inr (3, ([.ref (b + 94), .ref (b + 96), .int (W 13 0), .int (W 13 1), .int (W 13 2), .int (W 13 3), .int (W 13 4), .int (W 13 5), .int (W 13 6), .ref (b + 142), .int (W 13 7)] : List Value).set 3 (.int v))) = MEM b c (w2 W 13 1 v) M := put_13 hc (S := upd (W 13) 1 v)
theorem psc_13_2 {v : Int32} (hc : 609 ≤ c) : mset (MEM b c W M) (b + 93) (.inr (3, ([.ref (b + 94), .ref (b + 96), .int (W 13 0), .int (W 13 1), .int (W 13 2), .int (W 13 3), .int (W 13 4), .int (W 13 5), .int (W 13 6), .ref (b + 142), .int (W 13 7)] : List Value).set 4 (.int v))) = MEM b c (w2 W 13 2 v) M := put_13 hc (S := upd (W 13) 2 v)
theorem psc_13_3 {v : Int32} (hc : 609 ≤ c) : mset (MEM b c W M) (b + 93) (.inr (3, ([.ref (b + 94), .ref (b + 96), .int (W 13 0), .int (W 13 1), .int (W 13 2), .int (W 13 3), .int (W 13 4), .int (W 13 5), .int (W 13 6), .ref (b + 142), .int (W 13 7)] : List Value).set 5 (.int v))) = MEM b c (w2 W 13 3 v) M := put_13 hc (S := upd (W 13) 3 v)
theorem psc_13_4 {v : Int32} (hc : 609 ≤ c) : mset (MEM b c W M) (b + 93) (.inr (3, ([.ref (b + 94), .ref (b + 96), .int (W 13 0), .int (W 13 1), .int (W 13 2), .int (W 13 3), .int (W 13 4), .int (W 13 5), .int (W 13 6), .ref (b + 142), .int (W 13 7)] : List Value).set 6 (.int v))) = MEM b c (w2 W 13 4 v) M := put_13 hc (S := upd (W 13) 4 v)
theorem psc_13_5 {v : Int32} (hc : 609 ≤ c) : mset (MEM b c W M) (b + 93) (.inr (3, ([.ref (b + 94), .ref (b + 96), .int (W 13 0), .int (W 13 1), .int (W 13 2), .int (W 13 3), .int (W 13 4), .int (W 13 5), .int (W 13 6), .ref (b + 142), .int (W 13 7)] : List Value).set 7 (.int v))) = MEM b c (w2 W 13 5 v) M := put_13 hc (S := upd (W 13) 5 v)
theorem psc_13_6 {v : Int32} (hc : 609 ≤ c) : mset (MEM b c W M) (b + 93) (.inr (3, ([.ref (b + 94), .ref (b + 96), .int (W 13 0), .int (W 13 1), .int (W 13 2), .int (W 13 3), .int (W 13 4), .int (W 13 5), .int (W 13 6), .ref (b + 142), .int (W 13 7)] : List Value).set 8 (.int v))) = MEM b c (w2 W 13 6 v) M := put_13 hc (S := upd (W 13) 6 v)
theorem psc_13_7 {v : Int32} (hc : 609 ≤ c) : mset (MEM b c W M) (b + 93) (.inr (3, ([.ref (b + 94), .ref (b + 96), .int (W 13 0), .int (W 13 1), .int (W 13 2), .int (W 13 3), .int (W 13 4), .int (W 13 5), .int (W 13 6), .ref (b + 142), .int (W 13 7)] : List Value).set 10 (.int v))) = MEM b c (w2 W 13 7 v) M := put_13 hc (S := upd (W 13) 7 v)
theorem psc_15_0 {v : Int32} (hc : 609 ≤ c) : mset (MEM b c W M) (b + 94) (.inr (6, ([.ref (b + 95), .int (W 15 0), .int (W 15 1), .int (W 15 2), .int (W 15 3)] : List Value).set 1 (.int v))) = MEM b c (w2 W 15 0 v) M := put_15 hc (S := upd (W 15) 0 v)
theorem psc_15_1 {v : Int32} (hc : 609 ≤ c) : mset (MEM b c W M) (b + 94) (.inr (6, ([.ref (b + 95), .int (W 15 0), .int (W 15 1), .int (W 15 2), .int (W 15 3)] : List Value).set 2 (.int v))) = MEM b c (w2 W 15 1 v) M := put_15 hc (S := upd (W 15) 1 v)
theorem psc_15_2 {v : Int32} (hc : 609 ≤ c) : mset (MEM b c W M) (b + 94) (.inr (6, ([.ref (b + 95), .int (W 15 0), .int (W 15 1), .int (W 15 2), .int (W 15 3)] : List Value).set 3 (.int v))) = MEM b c (w2 W 15 2 v) M := put_15 hc (S := upd (W 15) 2 v)
theorem psc_15_3 {v : Int32} (hc : 609 ≤ c) : mset (MEM b c W M) (b + 94) (.inr (6, ([.ref (b + 95), .int (W 15 0), .int (W 15 1), .int (W 15 2), .int (W 15 3)] : List Value).set 4 (.int v))) = MEM b c (w2 W 15 3 v) M := put_15 hc (S := upd (W 15) 3 v)
theorem psc_17_0 {v : Int32} (hc : 609 ≤ c) : mset (MEM b c W M) (b + 143) (.inr (0, ([.ref (b + 144), .int (W 17 0), .int (W 17 1)] : List Value).set 1 (.int v))) = MEM b c (w2 W 17 0 v) M := put_17 hc (S := upd (W 17) 0 v)
theorem psc_17_1 {v : Int32} (hc : 609 ≤ c) : mset (MEM b c W M) (b + 143) (.inr (0, ([.ref (b + 144), .int (W 17 0), .int (W 17 1)] : List Value).set 2 (.int v))) = MEM b c (w2 W 17 1 v) M := put_17 hc (S := upd (W 17) 1 v)
theorem psc_18_0 {v : Int32} (hc : 609 ≤ c) : mset (MEM b c W M) (b + 513) (.inr (1, ([.ref (b + 514), .int (W 18 0)] : List Value).set 1 (.int v))) = MEM b c (w2 W 18 0 v) M := put_18 hc (S := upd (W 18) 0 v)
theorem pst_14 (hc : 609 ≤ c) (S : Nat → Int32) : mset (MEM b c W M) (b + 142) (.inl (1, 6, .inl (ints 6 S))) = MEM b c (setU W 14 S) M := put_14 hc
theorem pst_16 (hc : 609 ≤ c) (S : Nat → Int32) : mset (MEM b c W M) (b + 95) (.inl (0, 600, .inl (ints 600 S))) = MEM b c (setU W 16 S) M := put_16 hc
theorem pst_19 (hc : 609 ≤ c) (S : Nat → Int32) : mset (MEM b c W M) (b + 514) (.inl (0, 71, .inl (ints 71 S))) = MEM b c (setU W 19 S) M := put_19 hc
theorem pst_20 (hc : 609 ≤ c) (S : Nat → Int32) : mset (MEM b c W M) (b + 516) (.inl (2, 2, .inl (ints 2 S))) = MEM b c (setU W 20 S) M := put_20 hc
/-! throws -/
def rhoI (x : String ⊕ Int32) : RS := match x with
  | .inl e => .inr e
  | .inr v => .inl (some (.int v))
def rhoU (x : String ⊕ Unit) : RS := match x with
  | .inl e => .inr e
  | .inr _ => .inl none
theorem D_th {X : XT} {E : String} {ρ : R → RS} {μ : R → MM} {r0 : R} (h : some r0 = some r) (hh : md.2.2.2.2 = []) (e1 : ρ r0 = .inr E) (e2 : μ r0 = M) : TH md (RP (ρ r) (μ r)) X pc lv M hi k n E := by
  cases h
  exact Or.inl ⟨hh, e1.symm, e2.symm⟩
theorem D_throwS {ρ : R → RS} {μ : R → MM} {r0 : R} {ik is ic j : Nat} {E : String} (h : some r0 = some r) (h0 : decode md.2.1 pc = .ok (.new ik, 3)) (h1 : decode md.2.1 (pc + 3) = .ok (.dup, 1)) (h2 : decode md.2.1 (pc + 4) = .ok (.ldc is, 2)) (h3 : decode md.2.1 (pc + 6) = .ok (.invokespecial ic, 3)) (h4 : decode md.2.1 (pc + 9) = .ok (.athrow, 1)) (h5 : E ∈ EX3) (h6 : Cond.classLink md.1.cls ik E ∈ TB) (h7 : Cond.methodLink md.1.cls ic (Bundle.initS E) ∈ TB) (h8 : (md.1.cls, is, j) ∈ STR) (h9 : csum rest ≤ 8) (h10 : 6 ≤ f) (h11 : md.2.2.2.2 = []) (e1 : ρ r0 = .inr E) (e2 : μ r0 = M) : V G f call md (RP (ρ r) (μ r)) pc lv rest M hi (k + 1) (n + 6) := by
  cases h
  exact V_throwS h0 h1 h2 h3 h4 h5 h6 h7 h8 h9 h10 h11 (fun _ _ => ⟨e1.symm, e2.symm⟩)
theorem D_throwN {ρ : R → RS} {μ : R → MM} {r0 : R} {ik is ic j : Nat} (h : some r0 = some r) (h0 : decode md.2.1 pc = .ok (.new ik, 3)) (h1 : decode md.2.1 (pc + 3) = .ok (.dup, 1)) (h2 : decode md.2.1 (pc + 4) = .ok (.ldc is, 2)) (h3 : decode md.2.1 (pc + 6) = .ok (.invokespecial ic, 3)) (h4 : decode md.2.1 (pc + 9) = .ok (.athrow, 1)) (h6 : Cond.classLink md.1.cls ik NSE ∈ TB) (h7 : Cond.methodLink md.1.cls ic (Bundle.initS NSE) ∈ TB) (h8 : (md.1.cls, is, j) ∈ STR) (h9 : csum rest ≤ 8) (h10 : 7 ≤ f) (h11 : md.2.2.2.2 = []) (e1 : ρ r0 = .inr NSE) (e2 : μ r0 = M) : V G f call md (RP (ρ r) (μ r)) pc lv rest M hi (k + 1) (n + 6) := by
  cases h
  exact V_throwN h0 h1 h2 h3 h4 h6 h7 h8 h9 h10 h11 (fun _ _ => ⟨e1.symm, e2.symm⟩)
theorem D_throwSW {ρ : R → RS} {μ : R → MM} {r0 : R} {ik is ic j : Nat} {E : String} (h : some r0 = some r) (h0 : decode md.2.1 pc = .ok (.new ik, 3)) (h1 : decode md.2.1 (pc + 3) = .ok (.dup, 1)) (h2 : decode md.2.1 (pc + 4) = .ok (.ldc_w is, 3)) (h3 : decode md.2.1 (pc + 7) = .ok (.invokespecial ic, 3)) (h4 : decode md.2.1 (pc + 10) = .ok (.athrow, 1)) (h5 : E ∈ EX3) (h6 : Cond.classLink md.1.cls ik E ∈ TB) (h7 : Cond.methodLink md.1.cls ic (Bundle.initS E) ∈ TB) (h8 : (md.1.cls, is, j) ∈ STR) (h9 : csum rest ≤ 8) (h10 : 6 ≤ f) (h11 : md.2.2.2.2 = []) (e1 : ρ r0 = .inr E) (e2 : μ r0 = M) : V G f call md (RP (ρ r) (μ r)) pc lv rest M hi (k + 1) (n + 6) := by
  cases h
  exact V_throwSW h0 h1 h2 h3 h4 h5 h6 h7 h8 h9 h10 h11 (fun _ _ => ⟨e1.symm, e2.symm⟩)
theorem D_throwNW {ρ : R → RS} {μ : R → MM} {r0 : R} {ik is ic j : Nat} (h : some r0 = some r) (h0 : decode md.2.1 pc = .ok (.new ik, 3)) (h1 : decode md.2.1 (pc + 3) = .ok (.dup, 1)) (h2 : decode md.2.1 (pc + 4) = .ok (.ldc_w is, 3)) (h3 : decode md.2.1 (pc + 7) = .ok (.invokespecial ic, 3)) (h4 : decode md.2.1 (pc + 10) = .ok (.athrow, 1)) (h6 : Cond.classLink md.1.cls ik NSE ∈ TB) (h7 : Cond.methodLink md.1.cls ic (Bundle.initS NSE) ∈ TB) (h8 : (md.1.cls, is, j) ∈ STR) (h9 : csum rest ≤ 8) (h10 : 7 ≤ f) (h11 : md.2.2.2.2 = []) (e1 : ρ r0 = .inr NSE) (e2 : μ r0 = M) : V G f call md (RP (ρ r) (μ r)) pc lv rest M hi (k + 1) (n + 6) := by
  cases h
  exact V_throwNW h0 h1 h2 h3 h4 h6 h7 h8 h9 h10 h11 (fun _ _ => ⟨e1.symm, e2.symm⟩)
theorem D_tVI {a : Nat} {st As : List Value} {idx nn k2 n2 : Nat} {md2 : MD} {o : Option (String ⊕ Int32)} {L : String → Option R} {K : Int32 → Option R} (h : bdt o L K = some r) (hd : decode md.2.1 pc = .ok (.invokevirtual idx, 3)) (hc : CVr md.1.cls idx md2 nn) (hl : As.length = nn) (hr : RECV M a md2.1.cls) (hst : st = As.reverse ++ .ref a :: rest) (hcs : csum rest ≤ 8) (hx : ∀ x, o = some x → call md2 (.ref a :: As) M hi k2 n2 (RP (rhoI x) M)) (kt : ∀ e hi, L e = some r → TH md P0 (V G f call md P0) pc lv M hi k n e) (kk : ∀ x hi, K x = some r → V G f call md P0 (pc + 3) lv (.int x :: rest) M hi k n) : V G f call md P0 pc lv st M hi (k + k2) (n + n2) := by
  match o, h, hx with
  | some (.inr x), h, hx =>
    exact V_callV hd hc hl hr hst hcs (hx _ rfl) (fun v M2 hi2 hp => by obtain ⟨h1, rfl⟩ := hp; cases h1; exact kk x _ h) (fun E M2 hi2 hp => by obtain ⟨h1, -⟩ := hp; cases h1)
  | some (.inl e), h, hx =>
    exact V_callV hd hc hl hr hst hcs (hx _ rfl) (fun v M2 hi2 hp => by obtain ⟨h1, -⟩ := hp; cases h1) (fun E M2 hi2 hp => by obtain ⟨h1, rfl⟩ := hp; cases h1; exact kt _ _ h)
theorem D_tVU {a : Nat} {st As : List Value} {idx nn k2 n2 : Nat} {md2 : MD} {o : Option (String ⊕ Unit)} {L : String → Option R} {K : Unit → Option R} (h : bdt o L K = some r) (hd : decode md.2.1 pc = .ok (.invokevirtual idx, 3)) (hc : CVr md.1.cls idx md2 nn) (hl : As.length = nn) (hr : RECV M a md2.1.cls) (hst : st = As.reverse ++ .ref a :: rest) (hcs : csum rest ≤ 8) (hx : ∀ x, o = some x → call md2 (.ref a :: As) M hi k2 n2 (RP (rhoU x) M)) (kt : ∀ e hi, L e = some r → TH md P0 (V G f call md P0) pc lv M hi k n e) (kk : ∀  hi, K () = some r → V G f call md P0 (pc + 3) lv (rest) M hi k n) : V G f call md P0 pc lv st M hi (k + k2) (n + n2) := by
  match o, h, hx with
  | some (.inr ()), h, hx =>
    exact V_callV hd hc hl hr hst hcs (hx _ rfl) (fun v M2 hi2 hp => by obtain ⟨h1, rfl⟩ := hp; cases h1; exact kk  _ h) (fun E M2 hi2 hp => by obtain ⟨h1, -⟩ := hp; cases h1)
  | some (.inl e), h, hx =>
    exact V_callV hd hc hl hr hst hcs (hx _ rfl) (fun v M2 hi2 hp => by obtain ⟨h1, -⟩ := hp; cases h1) (fun E M2 hi2 hp => by obtain ⟨h1, rfl⟩ := hp; cases h1; exact kt _ _ h)
theorem D_tVIW {B : Type} {μ : B → MM} {a : Nat} {st As : List Value} {idx nn k2 n2 : Nat} {md2 : MD} {o : Option ((String ⊕ Int32) × B)} {L : String → B → Option R} {K : Int32 → B → Option R} (h : bt2 o L K = some r) (hd : decode md.2.1 pc = .ok (.invokevirtual idx, 3)) (hc : CVr md.1.cls idx md2 nn) (hl : As.length = nn) (hr : RECV M a md2.1.cls) (hst : st = As.reverse ++ .ref a :: rest) (hcs : csum rest ≤ 8) (hx : ∀ x y, o = some (x, y) → call md2 (.ref a :: As) M hi k2 n2 (RP (rhoI x) (μ y))) (kt : ∀ e y hi, L e y = some r → TH md P0 (V G f call md P0) pc lv (μ y) hi k n e) (kk : ∀ x y hi, K x y = some r → V G f call md P0 (pc + 3) lv (.int x :: rest) (μ y) hi k n) : V G f call md P0 pc lv st M hi (k + k2) (n + n2) := by
  match o, h, hx with
  | some (.inr x, y), h, hx =>
    exact V_callV hd hc hl hr hst hcs (hx _ _ rfl) (fun v M2 hi2 hp => by obtain ⟨h1, rfl⟩ := hp; cases h1; exact kk x _ _ h) (fun E M2 hi2 hp => by obtain ⟨h1, -⟩ := hp; cases h1)
  | some (.inl e, y), h, hx =>
    exact V_callV hd hc hl hr hst hcs (hx _ _ rfl) (fun v M2 hi2 hp => by obtain ⟨h1, -⟩ := hp; cases h1) (fun E M2 hi2 hp => by obtain ⟨h1, rfl⟩ := hp; cases h1; exact kt _ _ _ h)
theorem D_tVUW {B : Type} {μ : B → MM} {a : Nat} {st As : List Value} {idx nn k2 n2 : Nat} {md2 : MD} {o : Option ((String ⊕ Unit) × B)} {L : String → B → Option R} {K : Unit → B → Option R} (h : bt2 o L K = some r) (hd : decode md.2.1 pc = .ok (.invokevirtual idx, 3)) (hc : CVr md.1.cls idx md2 nn) (hl : As.length = nn) (hr : RECV M a md2.1.cls) (hst : st = As.reverse ++ .ref a :: rest) (hcs : csum rest ≤ 8) (hx : ∀ x y, o = some (x, y) → call md2 (.ref a :: As) M hi k2 n2 (RP (rhoU x) (μ y))) (kt : ∀ e y hi, L e y = some r → TH md P0 (V G f call md P0) pc lv (μ y) hi k n e) (kk : ∀  y hi, K () y = some r → V G f call md P0 (pc + 3) lv (rest) (μ y) hi k n) : V G f call md P0 pc lv st M hi (k + k2) (n + n2) := by
  match o, h, hx with
  | some (.inr (), y), h, hx =>
    exact V_callV hd hc hl hr hst hcs (hx _ _ rfl) (fun v M2 hi2 hp => by obtain ⟨h1, rfl⟩ := hp; cases h1; exact kk  _ _ h) (fun E M2 hi2 hp => by obtain ⟨h1, -⟩ := hp; cases h1)
  | some (.inl e, y), h, hx =>
    exact V_callV hd hc hl hr hst hcs (hx _ _ rfl) (fun v M2 hi2 hp => by obtain ⟨h1, -⟩ := hp; cases h1) (fun E M2 hi2 hp => by obtain ⟨h1, rfl⟩ := hp; cases h1; exact kt _ _ _ h)
theorem D_tSI {st As : List Value} {idx nn k2 n2 : Nat} {md2 : MD} {o : Option (String ⊕ Int32)} {L : String → Option R} {K : Int32 → Option R} (h : bdt o L K = some r) (hd : decode md.2.1 pc = .ok (.invokestatic idx, 3)) (hc : CSr md.1.cls idx md2 nn) (hl : As.length = nn) (hst : st = As.reverse ++ rest) (hcs : csum rest ≤ 8) (hx : ∀ x, o = some x → call md2 (As) M hi k2 n2 (RP (rhoI x) M)) (kt : ∀ e hi, L e = some r → TH md P0 (V G f call md P0) pc lv M hi k n e) (kk : ∀ x hi, K x = some r → V G f call md P0 (pc + 3) lv (.int x :: rest) M hi k n) : V G f call md P0 pc lv st M hi (k + k2) (n + n2) := by
  match o, h, hx with
  | some (.inr x), h, hx =>
    exact V_callS (a := 0) hd hc hl hst hcs (hx _ rfl) (fun v M2 hi2 hp => by obtain ⟨h1, rfl⟩ := hp; cases h1; exact kk x _ h) (fun E M2 hi2 hp => by obtain ⟨h1, -⟩ := hp; cases h1)
  | some (.inl e), h, hx =>
    exact V_callS (a := 0) hd hc hl hst hcs (hx _ rfl) (fun v M2 hi2 hp => by obtain ⟨h1, -⟩ := hp; cases h1) (fun E M2 hi2 hp => by obtain ⟨h1, rfl⟩ := hp; cases h1; exact kt _ _ h)
theorem D_tSU {st As : List Value} {idx nn k2 n2 : Nat} {md2 : MD} {o : Option (String ⊕ Unit)} {L : String → Option R} {K : Unit → Option R} (h : bdt o L K = some r) (hd : decode md.2.1 pc = .ok (.invokestatic idx, 3)) (hc : CSr md.1.cls idx md2 nn) (hl : As.length = nn) (hst : st = As.reverse ++ rest) (hcs : csum rest ≤ 8) (hx : ∀ x, o = some x → call md2 (As) M hi k2 n2 (RP (rhoU x) M)) (kt : ∀ e hi, L e = some r → TH md P0 (V G f call md P0) pc lv M hi k n e) (kk : ∀  hi, K () = some r → V G f call md P0 (pc + 3) lv (rest) M hi k n) : V G f call md P0 pc lv st M hi (k + k2) (n + n2) := by
  match o, h, hx with
  | some (.inr ()), h, hx =>
    exact V_callS (a := 0) hd hc hl hst hcs (hx _ rfl) (fun v M2 hi2 hp => by obtain ⟨h1, rfl⟩ := hp; cases h1; exact kk  _ h) (fun E M2 hi2 hp => by obtain ⟨h1, -⟩ := hp; cases h1)
  | some (.inl e), h, hx =>
    exact V_callS (a := 0) hd hc hl hst hcs (hx _ rfl) (fun v M2 hi2 hp => by obtain ⟨h1, -⟩ := hp; cases h1) (fun E M2 hi2 hp => by obtain ⟨h1, rfl⟩ := hp; cases h1; exact kt _ _ h)
theorem D_tSIW {B : Type} {μ : B → MM} {st As : List Value} {idx nn k2 n2 : Nat} {md2 : MD} {o : Option ((String ⊕ Int32) × B)} {L : String → B → Option R} {K : Int32 → B → Option R} (h : bt2 o L K = some r) (hd : decode md.2.1 pc = .ok (.invokestatic idx, 3)) (hc : CSr md.1.cls idx md2 nn) (hl : As.length = nn) (hst : st = As.reverse ++ rest) (hcs : csum rest ≤ 8) (hx : ∀ x y, o = some (x, y) → call md2 (As) M hi k2 n2 (RP (rhoI x) (μ y))) (kt : ∀ e y hi, L e y = some r → TH md P0 (V G f call md P0) pc lv (μ y) hi k n e) (kk : ∀ x y hi, K x y = some r → V G f call md P0 (pc + 3) lv (.int x :: rest) (μ y) hi k n) : V G f call md P0 pc lv st M hi (k + k2) (n + n2) := by
  match o, h, hx with
  | some (.inr x, y), h, hx =>
    exact V_callS (a := 0) hd hc hl hst hcs (hx _ _ rfl) (fun v M2 hi2 hp => by obtain ⟨h1, rfl⟩ := hp; cases h1; exact kk x _ _ h) (fun E M2 hi2 hp => by obtain ⟨h1, -⟩ := hp; cases h1)
  | some (.inl e, y), h, hx =>
    exact V_callS (a := 0) hd hc hl hst hcs (hx _ _ rfl) (fun v M2 hi2 hp => by obtain ⟨h1, -⟩ := hp; cases h1) (fun E M2 hi2 hp => by obtain ⟨h1, rfl⟩ := hp; cases h1; exact kt _ _ _ h)
theorem D_tSUW {B : Type} {μ : B → MM} {st As : List Value} {idx nn k2 n2 : Nat} {md2 : MD} {o : Option ((String ⊕ Unit) × B)} {L : String → B → Option R} {K : Unit → B → Option R} (h : bt2 o L K = some r) (hd : decode md.2.1 pc = .ok (.invokestatic idx, 3)) (hc : CSr md.1.cls idx md2 nn) (hl : As.length = nn) (hst : st = As.reverse ++ rest) (hcs : csum rest ≤ 8) (hx : ∀ x y, o = some (x, y) → call md2 (As) M hi k2 n2 (RP (rhoU x) (μ y))) (kt : ∀ e y hi, L e y = some r → TH md P0 (V G f call md P0) pc lv (μ y) hi k n e) (kk : ∀  y hi, K () y = some r → V G f call md P0 (pc + 3) lv (rest) (μ y) hi k n) : V G f call md P0 pc lv st M hi (k + k2) (n + n2) := by
  match o, h, hx with
  | some (.inr (), y), h, hx =>
    exact V_callS (a := 0) hd hc hl hst hcs (hx _ _ rfl) (fun v M2 hi2 hp => by obtain ⟨h1, rfl⟩ := hp; cases h1; exact kk  _ _ h) (fun E M2 hi2 hp => by obtain ⟨h1, -⟩ := hp; cases h1)
  | some (.inl e, y), h, hx =>
    exact V_callS (a := 0) hd hc hl hst hcs (hx _ _ rfl) (fun v M2 hi2 hp => by obtain ⟨h1, -⟩ := hp; cases h1) (fun E M2 hi2 hp => by obtain ⟨h1, rfl⟩ := hp; cases h1; exact kt _ _ _ h)
end MRows
