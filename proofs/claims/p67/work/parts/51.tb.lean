/-! what holds of a State's vector s (numbers), and of the reference's row g beside it -/
def z_bo (v : Int) : Prop := v = 0 ∨ v = 1
def z_cn (s : Nat → Int) (a b : Int) (k : Nat) : Bool := decide ((s (39 + 4 * k) = a ∧ s (39 + 4 * k + 1) = b) ∨ (s (39 + 4 * k) = b ∧ s (39 + 4 * k + 1) = a))
def z_tk (s : Nat → Int) (a b : Int) : Option Nat := z_ff (z_cn s a b) 0 (s 2).toNat
/-- the stop of train t at the place p of its route -/
def z_sp (s : Nat → Int) (t : Nat) (p : Int) : Int := s (87 + 14 * t + 2 + p.toNat)
def z_cu (s : Nat → Int) (t : Nat) : Int := z_sp s t (s (87 + 14 * t + 8))
def z_nx (s : Nat → Int) (t : Nat) : Int := z_sp s t (s (87 + 14 * t + 8) + (2 * s (87 + 14 * t + 9) - 1))
def z_cnt4 (b : Int) (s : Nat → Int) : Prop := (0 ≤ s 0 ∧ s 0 ≤ b) ∧ (0 ≤ s 1 ∧ s 1 ≤ 8) ∧ (0 ≤ s 2 ∧ s 2 ≤ 12) ∧ (0 ≤ s 3 ∧ s 3 ≤ 4) ∧ (0 ≤ s 4 ∧ s 4 ≤ 12)
def z_bos (s : Nat → Int) : Prop := (∀ i : Nat, i < 8 → z_bo (s (7 + 4 * i + 1))) ∧ (∀ i : Nat, i < 12 → z_bo (s (39 + 4 * i + 3))) ∧ (∀ i : Nat, i < 4 → z_bo (s (87 + 14 * i + 9)))
def z_stn (s : Nat → Int) (i : Nat) : Prop := (0 ≤ s (7 + 4 * i + 2) ∧ s (7 + 4 * i + 2) ≤ 9) ∧ (-1 ≤ s (7 + 4 * i + 3) ∧ s (7 + 4 * i + 3) ≤ s 0)
def z_trk (s : Nat → Int) (k : Nat) : Prop := (0 ≤ s (39 + 4 * k) ∧ s (39 + 4 * k) < s 1) ∧ (0 ≤ s (39 + 4 * k + 1) ∧ s (39 + 4 * k + 1) < s 1) ∧ (1 ≤ s (39 + 4 * k + 2) ∧ s (39 + 4 * k + 2) ≤ 9)
def z_trn (s : Nat → Int) (t : Nat) : Prop := (1 ≤ s (87 + 14 * t) ∧ s (87 + 14 * t) ≤ 4) ∧ (2 ≤ s (87 + 14 * t + 1) ∧ s (87 + 14 * t + 1) ≤ 6) ∧ (∀ j : Nat, (j : Int) < s (87 + 14 * t + 1) → 0 ≤ s (87 + 14 * t + 2 + j) ∧ s (87 + 14 * t + 2 + j) < s 1) ∧ (∀ j : Nat, (j : Int) + 1 < s (87 + 14 * t + 1) → z_tk s (s (87 + 14 * t + 2 + j)) (s (87 + 14 * t + 2 + (j + 1))) ≠ none) ∧ (0 ≤ s (87 + 14 * t + 8) ∧ s (87 + 14 * t + 8) < s (87 + 14 * t + 1)) ∧ (0 ≤ s (87 + 14 * t + 8) + (2 * s (87 + 14 * t + 9) - 1) ∧ s (87 + 14 * t + 8) + (2 * s (87 + 14 * t + 9) - 1) < s (87 + 14 * t + 1)) ∧ (0 ≤ s (87 + 14 * t + 10) ∧ s (87 + 14 * t + 10) ≤ 9)
def z_pcl (s : Nat → Int) (i : Nat) : Prop := (0 ≤ s (143 + 9 * i) ∧ s (143 + 9 * i) < s 1) ∧ (0 ≤ s (143 + 9 * i + 1) ∧ s (143 + 9 * i + 1) < s 1) ∧ (1 ≤ s (143 + 9 * i + 2) ∧ s (143 + 9 * i + 2) ≤ 9) ∧ (-1 ≤ s (143 + 9 * i + 3) ∧ s (143 + 9 * i + 3) < s 1) ∧ (-1 ≤ s (143 + 9 * i + 4) ∧ s (143 + 9 * i + 4) < s 3) ∧ (-1 ≤ s (143 + 9 * i + 5) ∧ s (143 + 9 * i + 5) < s 1) ∧ (0 ≤ s (143 + 9 * i + 7) ∧ s (143 + 9 * i + 7) ≤ s 0 + 9) ∧ (-1 ≤ s (143 + 9 * i + 8) ∧ s (143 + 9 * i + 8) ≤ s 0) ∧ ((s (143 + 9 * i + 3) ≠ -1 ∧ s (143 + 9 * i + 4) = -1 ∧ s (143 + 9 * i + 8) = -1 ∧ s (143 + 9 * i + 5) = -1) ∨ (s (143 + 9 * i + 3) = -1 ∧ s (143 + 9 * i + 4) ≠ -1 ∧ s (143 + 9 * i + 8) = -1) ∨ (s (143 + 9 * i + 3) = -1 ∧ s (143 + 9 * i + 4) = -1 ∧ s (143 + 9 * i + 8) ≠ -1))
/-- a track in use between y and b that takes w minutes -/
def z_eg (s : Nat → Int) (y b : Nat) (w : Int) : Prop := ∃ k : Nat, (k : Int) < s 2 ∧ s (39 + 4 * k + 3) = 1 ∧ s (39 + 4 * k + 2) = w ∧ ((s (39 + 4 * k) = y ∧ s (39 + 4 * k + 1) = b) ∨ (s (39 + 4 * k + 1) = y ∧ s (39 + 4 * k) = b))
/-- T is the table of distances of the vector's tracks -/
def z_tab (s : Nat → Int) (T : Nat → Nat → Int) : Prop := (∀ x y, 0 ≤ T x y ∧ T x y ≤ 1000) ∧ (∀ x, T x x = 0) ∧ (∀ y b w, z_eg s y b w → T y b ≤ w) ∧ (∀ a b c, a < 8 → b < 8 → c < 8 → T a c ≤ T a b + T b c) ∧ (∀ a b, a < 8 → b < 8 → T a b < 1000 → a = b ∨ ∃ y w, y < 8 ∧ z_eg s y b w ∧ T a y + w ≤ T a b) ∧ (∀ a b, a < 8 → b < 8 → T a b = T b a)
def zT (s : Nat → Int) (a b : Nat) : Int := if a < 8 ∧ b < 8 then s (251 + (a * 8 + b)) else if a = b then 0 else 1000
def z_dis (s : Nat → Int) : Prop := z_tab s (zT s)
def z_inv (b : Int) (s : Nat → Int) : Prop := z_cnt4 b s ∧ z_bos s ∧ (∀ i : Nat, (i : Int) < s 1 → z_stn s i) ∧ (∀ k : Nat, (k : Int) < s 2 → z_trk s k) ∧ (∀ t : Nat, (t : Int) < s 3 → z_trn s t) ∧ (∀ i : Nat, (i : Int) < s 4 → z_pcl s i) ∧ z_dis s
def z_pk (a b c d : Int) : Int := if b = 0 then 96 + a else if c = 0 then (96 + a) * 256 + (96 + b) else if d = 0 then ((96 + a) * 256 + (96 + b)) * 256 + (96 + c) else (((96 + a) * 256 + (96 + b)) * 256 + (96 + c)) * 256 + (96 + d)
def z_ltr (a b c d : Int) : Prop := (1 ≤ a ∧ a ≤ 26) ∧ (0 ≤ b ∧ b ≤ 26) ∧ (0 ≤ c ∧ c ≤ 26) ∧ (0 ≤ d ∧ d ≤ 26) ∧ (b = 0 → c = 0) ∧ (c = 0 → d = 0)
def z_nm (x y : Int) : Prop := ∃ a b c d, z_ltr a b c d ∧ x = z_pk a b c d ∧ y = ((a * 27 + b) * 27 + c) * 27 + d
def z_tv (s g : Nat → Int) (t : Nat) : Prop := (s (87 + 14 * t + 10) = 0 ∧ g (87 + 14 * t + 10) = -1) ∨ (0 < s (87 + 14 * t + 10) ∧ 0 ≤ g (87 + 14 * t + 10) ∧ ∃ k, z_tk s (z_cu s t) (z_nx s t) = some k ∧ g (87 + 14 * t + 10) = s (39 + 4 * k + 2) - s (87 + 14 * t + 10))
def z_rtn (s g : Nat → Int) (t : Nat) : Prop := g (87 + 14 * t) = s (87 + 14 * t) ∧ g (87 + 14 * t + 1) = s (87 + 14 * t + 1) ∧ (∀ j : Nat, (j : Int) < s (87 + 14 * t + 1) → g (87 + 14 * t + 2 + j) = s (87 + 14 * t + 2 + j)) ∧ g (87 + 14 * t + 8) = s (87 + 14 * t + 8) ∧ g (87 + 14 * t + 9) = 2 * s (87 + 14 * t + 9) - 1 ∧ z_tv s g t ∧ g (87 + 14 * t + 11) = s (87 + 14 * t + 11) ∧ g (87 + 14 * t + 12) = s (87 + 14 * t + 12) ∧ g (87 + 14 * t + 13) = s (87 + 14 * t + 13)
def z_rel (s g : Nat → Int) : Prop := (∀ k, k < 7 → g k = s k) ∧ (∀ i : Nat, (i : Int) < s 1 → z_nm (s (7 + 4 * i)) (g (7 + 4 * i)) ∧ g (7 + 4 * i + 1) = s (7 + 4 * i + 1) ∧ g (7 + 4 * i + 2) = s (7 + 4 * i + 2)) ∧ (∀ k : Nat, (k : Int) < s 2 → ∀ j, j < 4 → g (39 + 4 * k + j) = s (39 + 4 * k + j)) ∧ (∀ t : Nat, (t : Int) < s 3 → z_rtn s g t) ∧ (∀ i : Nat, (i : Int) < s 4 → ∀ j, j < 9 → g (143 + 9 * i + j) = s (143 + 9 * i + j))
/-! values that both compute: tracks, counts -/
section Val
variable {b : Int} {s g : Nat → Int}
theorem z_FU : FU = 4096 := rfl
theorem z_con (h : z_inv b s) {x y : Int} (hx : zR x) (hy : zR y) {k : Nat} (hk : (k : Int) < s 2) : f_X7_connects (zV s) k (zI x) (zI y) = some (zI (if z_cn s x y k then 1 else 0)) := by
  obtain ⟨⟨h0, h1, h2, h3, h4⟩, -, -, ht, -⟩ := h
  obtain ⟨t1, t2, -⟩ := ht k hk
  unfold zR at hx hy
  unfold f_X7_connects z_cn
  by_cases c1 : s (39 + 4 * k) = x <;> by_cases c2 : s (39 + 4 * k + 1) = y <;> by_cases c3 : s (39 + 4 * k) = y <;> by_cases c4 : s (39 + 4 * k + 1) = x <;> simp (disch := omega) only [z_lit, z_n, z_add, z_sub, z_mul, z_neg, z_ltT, z_ltF, z_leT, z_leF, z_eqT, z_eqF, z_v, z_upd, z_ue, z_un, z_ixn, z_ixo, z_ix0, z_ix1, z_ix2, z_ix3, z_ix4, z_ix5, z_ix6, Int.reduceToNat, z_inr, z_gd, z_bnd, z_jn, z_bdc, z_bd2, z_opn, z_ops, z_z01, if_true, if_false, Bool.false_eq_true] <;> first | rw [decide_eq_true (by omega)]; rfl | rw [decide_eq_false (by omega)]; rfl
theorem z_Ctk (h : z_inv b s) {x y : Int} (hx : zR x) (hy : zR y) : f_X4_findTrack (zV s) (zI x) (zI y) = some (zI (z_oi (z_tk s x y))) := by
  have hh := h
  obtain ⟨⟨h0, h1, h2, h3, h4⟩, -⟩ := h
  unfold f_X4_findTrack
  have e := z_fnd (l := l_X4_findTrack_2 (zV s) (zI x) (zI y)) (H := fun k => some (zI (k : Int))) (E := some (zI (-1))) (n := (s 2).toNat) (p := z_cn s x y) (fun N i hi => ?_) (fun N => ?_) (s 2).toNat 0 FU (by omega) (by unfold FU; omega)
  · rw [z_lit 0]
    refine e.trans ?_
    unfold z_tk
    cases z_ff (z_cn s x y) 0 (s 2).toNat <;> rfl
  · rw [l_X4_findTrack_2]
    simp (disch := omega) only [z_lit, z_n, z_add, z_sub, z_mul, z_neg, z_ltT, z_ltF, z_leT, z_leF, z_eqT, z_eqF, z_v, z_upd, z_ue, z_un, z_ixn, z_ixo, z_ix0, z_ix1, z_ix2, z_ix3, z_ix4, z_ix5, z_ix6, Int.reduceToNat, z_inr, z_gd, z_bnd, z_jn, z_bdc, z_bd2, z_opn, z_ops, z_z01, if_true, if_false, Bool.false_eq_true, z_con hh hx hy]
    cases z_cn s x y i <;> simp (disch := omega) only [z_lit, z_n, z_add, z_sub, z_mul, z_neg, z_ltT, z_ltF, z_leT, z_leF, z_eqT, z_eqF, z_v, z_upd, z_ue, z_un, z_ixn, z_ixo, z_ix0, z_ix1, z_ix2, z_ix3, z_ix4, z_ix5, z_ix6, Int.reduceToNat, z_inr, z_gd, z_bnd, z_jn, z_bdc, z_bd2, z_opn, z_ops, z_z01, if_true, if_false, Bool.false_eq_true, if_true, if_false, Bool.false_eq_true] <;> rfl
  · rw [l_X4_findTrack_2]
    simp (disch := omega) only [z_lit, z_n, z_add, z_sub, z_mul, z_neg, z_ltT, z_ltF, z_leT, z_leF, z_eqT, z_eqF, z_v, z_upd, z_ue, z_un, z_ixn, z_ixo, z_ix0, z_ix1, z_ix2, z_ix3, z_ix4, z_ix5, z_ix6, Int.reduceToNat, z_inr, z_gd, z_bnd, z_jn, z_bdc, z_bd2, z_opn, z_ops, z_z01, if_true, if_false, Bool.false_eq_true]
end Val
/-! counts of parcels, order of parcels -/
def z_wt (s : Nat → Int) (x : Int) (k : Nat) : Bool := decide (s (143 + 9 * k + 3) = x)
def z_ca (s : Nat → Int) (x : Int) (k : Nat) : Bool := decide (s (143 + 9 * k + 4) = x)
def z_de (s : Nat → Int) (k : Nat) : Bool := decide (s (143 + 9 * k + 8) ≠ -1)
def z_bf (s : Nat → Int) (k j : Nat) : Bool := decide (s (143 + 9 * j + 2) < s (143 + 9 * k + 2) ∨ (s (143 + 9 * k + 2) = s (143 + 9 * j + 2) ∧ k < j))
def z_he (s : Nat → Int) (k : Nat) : Bool := decide (s 0 < s (143 + 9 * k + 7))
def z_B (b : Bool) : Int := if b then 1 else 0
theorem z_Bt : z_B true = 1 := (rfl)
theorem z_Bf : z_B false = 0 := (rfl)
theorem z_i1 {R : Type} {A B : R} {_ : Decidable (zI 1 = zI 0)} : (if zI 1 = zI 0 then A else B) = B := z_eqF (by omega) (by omega) (by omega) (by omega) (by omega)
theorem z_i0 {R : Type} {A B : R} {_ : Decidable (zI 0 = zI 0)} : (if zI 0 = zI 0 then A else B) = A := if_pos rfl
section Cnt
variable {b : Int} {s g : Nat → Int}
theorem z_Cbf (h : z_inv b s) {i j : Nat} (hi : (i : Int) < s 4) (hj : (j : Int) < s 4) : f_X2_isConsideredBefore (zV s) i j = some (zI (z_B (z_bf s i j))) := by
  obtain ⟨⟨h0, h1, h2, h3, h4⟩, -, -, -, -, hp, -⟩ := h
  obtain ⟨-, -, a2, -⟩ := hp i hi
  obtain ⟨-, -, b2, -⟩ := hp j hj
  unfold f_X2_isConsideredBefore z_bf
  rcases (show s (143 + 9 * j + 2) < s (143 + 9 * i + 2) ∨ s (143 + 9 * i + 2) < s (143 + 9 * j + 2) ∨ (s (143 + 9 * i + 2) = s (143 + 9 * j + 2) ∧ i < j) ∨ (s (143 + 9 * i + 2) = s (143 + 9 * j + 2) ∧ j ≤ i) by omega) with c | c | c | c <;> simp (disch := omega) only [z_lit, z_n, z_add, z_sub, z_mul, z_neg, z_ltT, z_ltF, z_leT, z_leF, z_eqT, z_eqF, z_v, z_upd, z_ue, z_un, z_ixn, z_ixo, z_ix0, z_ix1, z_ix2, z_ix3, z_ix4, z_ix5, z_ix6, Int.reduceToNat, z_inr, z_gd, z_bnd, z_jn, z_bdc, z_bd2, z_opn, z_ops, z_z01, if_true, if_false, Bool.false_eq_true] <;> first | rw [decide_eq_true (by omega)]; rfl | rw [decide_eq_false (by omega)]; rfl
theorem z_Che (h : z_inv b s) (hb : b ≤ 1000000000) {i : Nat} (hi : (i : Int) < s 4) : f_X2_isHeldAt (zV s) i (zI (s 0)) = some (zI (z_B (decide (s (143 + 9 * i + 3) ≠ -1 ∧ z_he s i = true)))) := by
  obtain ⟨⟨h0, h1, h2, h3, h4⟩, -, -, -, -, hp, -⟩ := h
  obtain ⟨-, -, -, a3, -, -, a7, -⟩ := hp i hi
  unfold f_X2_isHeldAt z_he
  by_cases c1 : s (143 + 9 * i + 3) = -1
  · simp (disch := omega) only [z_lit, z_n, z_add, z_sub, z_mul, z_neg, z_ltT, z_ltF, z_leT, z_leF, z_eqT, z_eqF, z_v, z_upd, z_ue, z_un, z_ixn, z_ixo, z_ix0, z_ix1, z_ix2, z_ix3, z_ix4, z_ix5, z_ix6, Int.reduceToNat, z_inr, z_gd, z_bnd, z_jn, z_bdc, z_bd2, z_opn, z_ops, z_z01, if_true, if_false, Bool.false_eq_true]
    rw [decide_eq_false (fun q => q.1 c1)]; rfl
  · by_cases c : s 0 < s (143 + 9 * i + 7)
    · simp (disch := omega) only [z_lit, z_n, z_add, z_sub, z_mul, z_neg, z_ltT, z_ltF, z_leT, z_leF, z_eqT, z_eqF, z_v, z_upd, z_ue, z_un, z_ixn, z_ixo, z_ix0, z_ix1, z_ix2, z_ix3, z_ix4, z_ix5, z_ix6, Int.reduceToNat, z_inr, z_gd, z_bnd, z_jn, z_bdc, z_bd2, z_opn, z_ops, z_z01, if_true, if_false, Bool.false_eq_true]
      rw [decide_eq_true ⟨c1, decide_eq_true c⟩]; rfl
    · simp (disch := omega) only [z_lit, z_n, z_add, z_sub, z_mul, z_neg, z_ltT, z_ltF, z_leT, z_leF, z_eqT, z_eqF, z_v, z_upd, z_ue, z_un, z_ixn, z_ixo, z_ix0, z_ix1, z_ix2, z_ix3, z_ix4, z_ix5, z_ix6, Int.reduceToNat, z_inr, z_gd, z_bnd, z_jn, z_bdc, z_bd2, z_opn, z_ops, z_z01, if_true, if_false, Bool.false_eq_true]
      rw [decide_eq_false (fun q => c (of_decide_eq_true q.2))]; rfl
theorem z_Crd (h : z_inv b s) (hb : b ≤ 1000000000) {i : Nat} {x : Int} (hi : (i : Int) < s 4) (hx0 : 0 ≤ x) (hx : x < 100) : f_X2_isReadyAt (zV s) i (zI x) (zI (s 0)) = some (zI (z_B (z_wt s x i && !z_he s i))) := by
  obtain ⟨⟨h0, h1, h2, h3, h4⟩, -, -, -, -, hp, -⟩ := h
  obtain ⟨-, -, -, a3, -, -, a7, -⟩ := hp i hi
  unfold f_X2_isReadyAt z_he z_wt
  by_cases c1 : s (143 + 9 * i + 3) = -1
  · simp (disch := omega) only [z_lit, z_n, z_add, z_sub, z_mul, z_neg, z_ltT, z_ltF, z_leT, z_leF, z_eqT, z_eqF, z_v, z_upd, z_ue, z_un, z_ixn, z_ixo, z_ix0, z_ix1, z_ix2, z_ix3, z_ix4, z_ix5, z_ix6, Int.reduceToNat, z_inr, z_gd, z_bnd, z_jn, z_bdc, z_bd2, z_opn, z_ops, z_z01, if_true, if_false, Bool.false_eq_true]
    rw [decide_eq_false (by omega)]; rfl
  · by_cases c2 : s (143 + 9 * i + 3) = x
    · by_cases c : s 0 < s (143 + 9 * i + 7)
      · simp (disch := omega) only [z_lit, z_n, z_add, z_sub, z_mul, z_neg, z_ltT, z_ltF, z_leT, z_leF, z_eqT, z_eqF, z_v, z_upd, z_ue, z_un, z_ixn, z_ixo, z_ix0, z_ix1, z_ix2, z_ix3, z_ix4, z_ix5, z_ix6, Int.reduceToNat, z_inr, z_gd, z_bnd, z_jn, z_bdc, z_bd2, z_opn, z_ops, z_z01, if_true, if_false, Bool.false_eq_true]
        rw [decide_eq_true c2, decide_eq_true c]; rfl
      · simp (disch := omega) only [z_lit, z_n, z_add, z_sub, z_mul, z_neg, z_ltT, z_ltF, z_leT, z_leF, z_eqT, z_eqF, z_v, z_upd, z_ue, z_un, z_ixn, z_ixo, z_ix0, z_ix1, z_ix2, z_ix3, z_ix4, z_ix5, z_ix6, Int.reduceToNat, z_inr, z_gd, z_bnd, z_jn, z_bdc, z_bd2, z_opn, z_ops, z_z01, if_true, if_false, Bool.false_eq_true]
        rw [decide_eq_true c2, decide_eq_false c]; rfl
    · simp (disch := omega) only [z_lit, z_n, z_add, z_sub, z_mul, z_neg, z_ltT, z_ltF, z_leT, z_leF, z_eqT, z_eqF, z_v, z_upd, z_ue, z_un, z_ixn, z_ixo, z_ix0, z_ix1, z_ix2, z_ix3, z_ix4, z_ix5, z_ix6, Int.reduceToNat, z_inr, z_gd, z_bnd, z_jn, z_bdc, z_bd2, z_opn, z_ops, z_z01, if_true, if_false, Bool.false_eq_true]
      rw [decide_eq_false c2]; rfl
theorem z_Cca (h : z_inv b s) {x : Int} (hx : zR x) : f_X4_countCarriedBy (zV s) (zI x) = some (zI (z_ct (z_ca s x) 0 (s 4).toNat)) := by
  obtain ⟨⟨h0, h1, h2, h3, h4⟩, -, -, -, -, hp, -⟩ := h
  unfold zR at hx
  have e := z_cnt (l := l_X4_countCarriedBy_4 (zV s) (zI x)) (K := fun k => some (zI k)) (n := (s 4).toNat) (p := z_ca s x) (fun N y i hi => ?_) (fun N y => ?_) (s 4).toNat 0 FU 0 (by omega) (by unfold FU; omega)
  · unfold f_X4_countCarriedBy
    rw [z_lit 0, Int.zero_add] at *
    exact e
  · obtain ⟨-, -, -, a3, a4, -⟩ := hp i (by omega)
    rw [l_X4_countCarriedBy_4]
    unfold z_ca
    by_cases c : s (143 + 9 * i + 4) = x
    · rw [decide_eq_true c]
      simp (disch := omega) only [z_lit, z_n, z_add, z_sub, z_mul, z_neg, z_ltT, z_ltF, z_leT, z_leF, z_eqT, z_eqF, z_v, z_upd, z_ue, z_un, z_ixn, z_ixo, z_ix0, z_ix1, z_ix2, z_ix3, z_ix4, z_ix5, z_ix6, Int.reduceToNat, z_inr, z_gd, z_bnd, z_jn, z_bdc, z_bd2, z_opn, z_ops, z_z01, if_true, if_false, Bool.false_eq_true, if_true]
    · rw [decide_eq_false c]
      simp (disch := omega) only [z_lit, z_n, z_add, z_sub, z_mul, z_neg, z_ltT, z_ltF, z_leT, z_leF, z_eqT, z_eqF, z_v, z_upd, z_ue, z_un, z_ixn, z_ixo, z_ix0, z_ix1, z_ix2, z_ix3, z_ix4, z_ix5, z_ix6, Int.reduceToNat, z_inr, z_gd, z_bnd, z_jn, z_bdc, z_bd2, z_opn, z_ops, z_z01, if_true, if_false, Bool.false_eq_true, if_false, Bool.false_eq_true, Int.add_zero]
  · rw [l_X4_countCarriedBy_4]
    simp (disch := omega) only [z_lit, z_n, z_add, z_sub, z_mul, z_neg, z_ltT, z_ltF, z_leT, z_leF, z_eqT, z_eqF, z_v, z_upd, z_ue, z_un, z_ixn, z_ixo, z_ix0, z_ix1, z_ix2, z_ix3, z_ix4, z_ix5, z_ix6, Int.reduceToNat, z_inr, z_gd, z_bnd, z_jn, z_bdc, z_bd2, z_opn, z_ops, z_z01, if_true, if_false, Bool.false_eq_true]
theorem z_Cwa (h : z_inv b s) {x : Int} (hx : zR x) : f_X4_countWaitingAt (zV s) (zI x) = some (zI (z_ct (z_wt s x) 0 (s 4).toNat)) := by
  obtain ⟨⟨h0, h1, h2, h3, h4⟩, -, -, -, -, hp, -⟩ := h
  unfold zR at hx
  have e := z_cnt (l := l_X4_countWaitingAt_4 (zV s) (zI x)) (K := fun k => some (zI k)) (n := (s 4).toNat) (p := z_wt s x) (fun N y i hi => ?_) (fun N y => ?_) (s 4).toNat 0 FU 0 (by omega) (by unfold FU; omega)
  · unfold f_X4_countWaitingAt
    rw [z_lit 0, Int.zero_add] at *
    exact e
  · obtain ⟨-, -, -, a3, a4, -⟩ := hp i (by omega)
    rw [l_X4_countWaitingAt_4]
    unfold z_wt
    by_cases c : s (143 + 9 * i + 3) = x
    · rw [decide_eq_true c]
      simp (disch := omega) only [z_lit, z_n, z_add, z_sub, z_mul, z_neg, z_ltT, z_ltF, z_leT, z_leF, z_eqT, z_eqF, z_v, z_upd, z_ue, z_un, z_ixn, z_ixo, z_ix0, z_ix1, z_ix2, z_ix3, z_ix4, z_ix5, z_ix6, Int.reduceToNat, z_inr, z_gd, z_bnd, z_jn, z_bdc, z_bd2, z_opn, z_ops, z_z01, if_true, if_false, Bool.false_eq_true, if_true]
    · rw [decide_eq_false c]
      simp (disch := omega) only [z_lit, z_n, z_add, z_sub, z_mul, z_neg, z_ltT, z_ltF, z_leT, z_leF, z_eqT, z_eqF, z_v, z_upd, z_ue, z_un, z_ixn, z_ixo, z_ix0, z_ix1, z_ix2, z_ix3, z_ix4, z_ix5, z_ix6, Int.reduceToNat, z_inr, z_gd, z_bnd, z_jn, z_bdc, z_bd2, z_opn, z_ops, z_z01, if_true, if_false, Bool.false_eq_true, if_false, Bool.false_eq_true, Int.add_zero]
  · rw [l_X4_countWaitingAt_4]
    simp (disch := omega) only [z_lit, z_n, z_add, z_sub, z_mul, z_neg, z_ltT, z_ltF, z_leT, z_leF, z_eqT, z_eqF, z_v, z_upd, z_ue, z_un, z_ixn, z_ixo, z_ix0, z_ix1, z_ix2, z_ix3, z_ix4, z_ix5, z_ix6, Int.reduceToNat, z_inr, z_gd, z_bnd, z_jn, z_bdc, z_bd2, z_opn, z_ops, z_z01, if_true, if_false, Bool.false_eq_true]
theorem z_Cd1 (h : z_inv b s) (hb : b ≤ 1000000000) {i : Nat} (hi : (i : Int) < s 4) : f_X2_isDelivered (zV s) i = some (zI (z_B (z_de s i))) := by
  obtain ⟨⟨h0, h1, h2, h3, h4⟩, -, -, -, -, hp, -⟩ := h
  obtain ⟨-, -, -, -, -, -, -, a8, -⟩ := hp i hi
  unfold f_X2_isDelivered z_de
  by_cases c : s (143 + 9 * i + 8) = -1
  · simp (disch := omega) only [z_lit, z_n, z_add, z_sub, z_mul, z_neg, z_ltT, z_ltF, z_leT, z_leF, z_eqT, z_eqF, z_v, z_upd, z_ue, z_un, z_ixn, z_ixo, z_ix0, z_ix1, z_ix2, z_ix3, z_ix4, z_ix5, z_ix6, Int.reduceToNat, z_inr, z_gd, z_bnd, z_jn, z_bdc, z_bd2, z_opn, z_ops, z_z01, if_true, if_false, Bool.false_eq_true]
    rw [decide_eq_false (fun q => q c)]; rfl
  · simp (disch := omega) only [z_lit, z_n, z_add, z_sub, z_mul, z_neg, z_ltT, z_ltF, z_leT, z_leF, z_eqT, z_eqF, z_v, z_upd, z_ue, z_un, z_ixn, z_ixo, z_ix0, z_ix1, z_ix2, z_ix3, z_ix4, z_ix5, z_ix6, Int.reduceToNat, z_inr, z_gd, z_bnd, z_jn, z_bdc, z_bd2, z_opn, z_ops, z_z01, if_true, if_false, Bool.false_eq_true]
    rw [decide_eq_true c]; rfl
theorem z_Cde (h : z_inv b s) (hb : b ≤ 1000000000) : f_X4_countDelivered (zV s) = some (zI (z_ct (z_de s) 0 (s 4).toNat)) := by
  have hh := h
  obtain ⟨⟨h0, h1, h2, h3, h4⟩, -, -, -, -, hp, -⟩ := h
  have e := z_cnt (l := l_X4_countDelivered_4 (zV s)) (K := fun k => some (zI k)) (n := (s 4).toNat) (p := z_de s) (fun N y i hi => ?_) (fun N y => ?_) (s 4).toNat 0 FU 0 (by omega) (by unfold FU; omega)
  · unfold f_X4_countDelivered
    rw [z_lit 0, Int.zero_add] at *
    exact e
  · rw [l_X4_countDelivered_4]
    simp (disch := omega) only [z_lit, z_n, z_add, z_sub, z_mul, z_neg, z_ltT, z_ltF, z_leT, z_leF, z_eqT, z_eqF, z_v, z_upd, z_ue, z_un, z_ixn, z_ixo, z_ix0, z_ix1, z_ix2, z_ix3, z_ix4, z_ix5, z_ix6, Int.reduceToNat, z_inr, z_gd, z_bnd, z_jn, z_bdc, z_bd2, z_opn, z_ops, z_z01, if_true, if_false, Bool.false_eq_true, z_Cd1 hh hb (show (i : Int) < s 4 by omega)]
    cases z_de s i <;> simp (disch := omega) only [z_lit, z_n, z_add, z_sub, z_mul, z_neg, z_ltT, z_ltF, z_leT, z_leF, z_eqT, z_eqF, z_v, z_upd, z_ue, z_un, z_ixn, z_ixo, z_ix0, z_ix1, z_ix2, z_ix3, z_ix4, z_ix5, z_ix6, Int.reduceToNat, z_inr, z_gd, z_bnd, z_jn, z_bdc, z_bd2, z_opn, z_ops, z_z01, if_true, if_false, Bool.false_eq_true, z_Bt, z_Bf, z_i1, z_i0, if_true, if_false, Bool.false_eq_true, Int.add_zero]
  · rw [l_X4_countDelivered_4]
    simp (disch := omega) only [z_lit, z_n, z_add, z_sub, z_mul, z_neg, z_ltT, z_ltF, z_leT, z_leF, z_eqT, z_eqF, z_v, z_upd, z_ue, z_un, z_ixn, z_ixo, z_ix0, z_ix1, z_ix2, z_ix3, z_ix4, z_ix5, z_ix6, Int.reduceToNat, z_inr, z_gd, z_bnd, z_jn, z_bdc, z_bd2, z_opn, z_ops, z_z01, if_true, if_false, Bool.false_eq_true]
end Cnt
/-! trains' places, distances, drop stations -/
theorem z_ixp {m : Nat} {z w : Int} (h0 : 0 ≤ z) (h1 : 0 ≤ w) (h : (m : Int) + z + w < 2147483648) : ix (zI ((m : Int) + z + w)) = m + z.toNat + w.toNat := by
  rw [show (m : Int) + z + w = ((m + z.toNat + w.toNat : Nat) : Int) by omega, z_ixn (by omega)]
def z_ok (s : Nat → Int) (t : Nat) (p : Int) : Bool := decide (0 ≤ p ∧ p < s (87 + 14 * t + 1))
def z_ah (s : Nat → Int) (t : Nat) (p : Int) : Int := if z_ok s t p then z_sp s t p else -1
def z_d (s : Nat → Int) (x y : Int) : Int := zT s x.toNat y.toNat
section Trn
variable {b : Int} {s g : Nat → Int}
theorem z_Csa (h : z_inv b s) {t : Nat} (ht : (t : Int) < s 3) {x p : Int} (hx : 0 ≤ x ∧ x < 7) (hp : (s (87 + 14 * t + 9) = 0 → p = s (87 + 14 * t + 8) - x) ∧ (s (87 + 14 * t + 9) = 1 → p = s (87 + 14 * t + 8) + x)) : f_X8_stationAhead (zV s) t (zI x) = some (zI (z_ah s t p)) := by
  obtain ⟨⟨h0, h1, h2, h3, h4⟩, ⟨-, -, hb⟩, -, -, hn, -, -⟩ := h
  obtain ⟨-, a1, a2, -, a4, a5, -⟩ := hn t ht
  have d := hb t (by omega)
  unfold f_X8_stationAhead z_ah z_sp
  rcases d with d | d
  · have e := hp.1 d
    by_cases c : 0 ≤ p ∧ p < s (87 + 14 * t + 1)
    · rw [show z_ok s t p = true from decide_eq_true c]
      rw [show s (87 + 14 * t + 2 + p.toNat) = s (87 + 14 * t + 2 + (s (87 + 14 * t + 8) - x).toNat) by rw [e]]
      simp (disch := omega) only [z_lit, z_n, z_add, z_sub, z_mul, z_neg, z_ltT, z_ltF, z_leT, z_leF, z_eqT, z_eqF, z_v, z_upd, z_ue, z_un, z_ixn, z_ixo, z_ix0, z_ix1, z_ix2, z_ix3, z_ix4, z_ix5, z_ix6, Int.reduceToNat, z_inr, z_gd, z_bnd, z_jn, z_bdc, z_bd2, z_opn, z_ops, z_z01, if_true, if_false, Bool.false_eq_true, if_true]
      rw [z_ixz (by omega) (by omega)]
    · rw [show z_ok s t p = false from decide_eq_false c]
      by_cases c2 : p < 0
      · simp (disch := omega) only [z_lit, z_n, z_add, z_sub, z_mul, z_neg, z_ltT, z_ltF, z_leT, z_leF, z_eqT, z_eqF, z_v, z_upd, z_ue, z_un, z_ixn, z_ixo, z_ix0, z_ix1, z_ix2, z_ix3, z_ix4, z_ix5, z_ix6, Int.reduceToNat, z_inr, z_gd, z_bnd, z_jn, z_bdc, z_bd2, z_opn, z_ops, z_z01, if_true, if_false, Bool.false_eq_true, if_false, Bool.false_eq_true]
      · simp (disch := omega) only [z_lit, z_n, z_add, z_sub, z_mul, z_neg, z_ltT, z_ltF, z_leT, z_leF, z_eqT, z_eqF, z_v, z_upd, z_ue, z_un, z_ixn, z_ixo, z_ix0, z_ix1, z_ix2, z_ix3, z_ix4, z_ix5, z_ix6, Int.reduceToNat, z_inr, z_gd, z_bnd, z_jn, z_bdc, z_bd2, z_opn, z_ops, z_z01, if_true, if_false, Bool.false_eq_true, if_false, Bool.false_eq_true]
  · have e := hp.2 d
    by_cases c : 0 ≤ p ∧ p < s (87 + 14 * t + 1)
    · rw [show z_ok s t p = true from decide_eq_true c]
      rw [show s (87 + 14 * t + 2 + p.toNat) = s (87 + 14 * t + 2 + (s (87 + 14 * t + 8) + x).toNat) by rw [e]]
      simp (disch := omega) only [z_lit, z_n, z_add, z_sub, z_mul, z_neg, z_ltT, z_ltF, z_leT, z_leF, z_eqT, z_eqF, z_v, z_upd, z_ue, z_un, z_ixn, z_ixo, z_ix0, z_ix1, z_ix2, z_ix3, z_ix4, z_ix5, z_ix6, Int.reduceToNat, z_inr, z_gd, z_bnd, z_jn, z_bdc, z_bd2, z_opn, z_ops, z_z01, if_true, if_false, Bool.false_eq_true, if_true]
      rw [z_ixz (by omega) (by omega)]
    · rw [show z_ok s t p = false from decide_eq_false c]
      by_cases c2 : p < 0
      · simp (disch := omega) only [z_lit, z_n, z_add, z_sub, z_mul, z_neg, z_ltT, z_ltF, z_leT, z_leF, z_eqT, z_eqF, z_v, z_upd, z_ue, z_un, z_ixn, z_ixo, z_ix0, z_ix1, z_ix2, z_ix3, z_ix4, z_ix5, z_ix6, Int.reduceToNat, z_inr, z_gd, z_bnd, z_jn, z_bdc, z_bd2, z_opn, z_ops, z_z01, if_true, if_false, Bool.false_eq_true, if_false, Bool.false_eq_true]
      · simp (disch := omega) only [z_lit, z_n, z_add, z_sub, z_mul, z_neg, z_ltT, z_ltF, z_leT, z_leF, z_eqT, z_eqF, z_v, z_upd, z_ue, z_un, z_ixn, z_ixo, z_ix0, z_ix1, z_ix2, z_ix3, z_ix4, z_ix5, z_ix6, Int.reduceToNat, z_inr, z_gd, z_bnd, z_jn, z_bdc, z_bd2, z_opn, z_ops, z_z01, if_true, if_false, Bool.false_eq_true, if_false, Bool.false_eq_true]
theorem z_Ccu (h : z_inv b s) {t : Nat} (ht : (t : Int) < s 3) : f_X8_stationAhead (zV s) t (zI 0) = some (zI (z_cu s t)) := by
  obtain ⟨-, -, -, -, a4, a5, -⟩ := h.2.2.2.2.1 t ht
  rw [z_Csa h ht (x := 0) (p := s (87 + 14 * t + 8)) (by omega) (by omega)]
  unfold z_ah z_cu
  rw [show z_ok s t (s (87 + 14 * t + 8)) = true from decide_eq_true a4]
  rfl
theorem z_Cnx (h : z_inv b s) {t : Nat} (ht : (t : Int) < s 3) : f_X8_stationAhead (zV s) t (zI 1) = some (zI (z_nx s t)) := by
  obtain ⟨-, -, -, -, a4, a5, -⟩ := h.2.2.2.2.1 t ht
  rw [z_Csa h ht (x := 1) (p := s (87 + 14 * t + 8) + (2 * s (87 + 14 * t + 9) - 1)) (by omega) (by omega)]
  unfold z_ah z_nx
  rw [show z_ok s t (s (87 + 14 * t + 8) + (2 * s (87 + 14 * t + 9) - 1)) = true from decide_eq_true a5]
  rfl
theorem z_spb (h : z_inv b s) {t : Nat} (ht : (t : Int) < s 3) {p : Int} (hp : 0 ≤ p ∧ p < s (87 + 14 * t + 1)) : 0 ≤ z_sp s t p ∧ z_sp s t p < s 1 := by
  obtain ⟨-, -, a2, -⟩ := h.2.2.2.2.1 t ht
  exact a2 p.toNat (by omega)
theorem z_cub (h : z_inv b s) {t : Nat} (ht : (t : Int) < s 3) : 0 ≤ z_cu s t ∧ z_cu s t < s 1 := z_spb h ht (h.2.2.2.2.1 t ht).2.2.2.2.1
theorem z_nxb (h : z_inv b s) {t : Nat} (ht : (t : Int) < s 3) : 0 ≤ z_nx s t ∧ z_nx s t < s 1 := z_spb h ht (h.2.2.2.2.1 t ht).2.2.2.2.2.1
theorem z_Cdi {x y : Int} (hx : 0 ≤ x ∧ x < 8) (hy : 0 ≤ y ∧ y < 8) : f_X4_distanceBetween (zV s) (zI x) (zI y) = some (zI (z_d s x y)) := by
  have e : z_d s x y = s (251 + (x.toNat * 8 + y.toNat)) := by
    unfold z_d zT
    rw [if_pos (by omega)]
  rw [e]
  unfold f_X4_distanceBetween
  simp (disch := omega) only [z_lit, z_n, z_add, z_sub, z_mul, z_neg, z_ltT, z_ltF, z_leT, z_leF, z_eqT, z_eqF, z_v, z_upd, z_ue, z_un, z_ixn, z_ixo, z_ix0, z_ix1, z_ix2, z_ix3, z_ix4, z_ix5, z_ix6, Int.reduceToNat, z_inr, z_gd, z_bnd, z_jn, z_bdc, z_bd2, z_opn, z_ops, z_z01, if_true, if_false, Bool.false_eq_true]
  rw [z_ixz (by omega) (by omega), show (x * 8 + y).toNat = x.toNat * 8 + y.toNat by omega]
theorem z_Cdn {y : Int} : f_X4_distanceBetween (zV s) (zI (-1)) (zI y) = some (zI 1000) := by
  unfold f_X4_distanceBetween
  simp (disch := omega) only [z_lit, z_n, z_add, z_sub, z_mul, z_neg, z_ltT, z_ltF, z_leT, z_leF, z_eqT, z_eqF, z_v, z_upd, z_ue, z_un, z_ixn, z_ixo, z_ix0, z_ix1, z_ix2, z_ix3, z_ix4, z_ix5, z_ix6, Int.reduceToNat, z_inr, z_gd, z_bnd, z_jn, z_bdc, z_bd2, z_opn, z_ops, z_z01, if_true, if_false, Bool.false_eq_true]
/-- the drop station, m places of the route from p on -/
def z_dr (s : Nat → Int) (t : Nat) (y : Int) : Nat → Int → Int → Int → Int
  | 0, _, bs, _ => bs
  | m + 1, p, bs, ls => if z_ok s t p then (if z_d s (z_sp s t p) y < ls then z_dr s t y m (p + (2 * s (87 + 14 * t + 9) - 1)) (z_sp s t p) (z_d s (z_sp s t p) y) else z_dr s t y m (p + (2 * s (87 + 14 * t + 9) - 1)) bs ls) else bs
def z_dp (s : Nat → Int) (t : Nat) (y : Int) : Int := z_dr s t y 5 (s (87 + 14 * t + 8) + (2 * s (87 + 14 * t + 9) - 1)) (-1) (z_d s (z_cu s t) y)
theorem z_dr_o {t : Nat} {y p bs ls : Int} (h : z_ok s t p = false) : ∀ m, z_dr s t y m p bs ls = bs
  | 0 => rfl
  | m + 1 => by
    unfold z_dr
    rw [h]
    rfl
theorem z_db (h : z_inv b s) {x y : Int} : 0 ≤ z_d s x y ∧ z_d s x y ≤ 1000 := by
  have q := h.2.2.2.2.2.2.1 x.toNat y.toNat
  exact q
theorem z_Cdr (h : z_inv b s) {t : Nat} (ht : (t : Int) < s 3) {y : Int} (hy : 0 ≤ y ∧ y < 8) : ∀ (m N : Nat) (x p bs ls : Int), x + m = 6 → m < N → 1 ≤ x → ((s (87 + 14 * t + 9) = 0 → p = s (87 + 14 * t + 8) - x) ∧ (s (87 + 14 * t + 9) = 1 → p = s (87 + 14 * t + 8) + x)) → 0 ≤ ls ∧ ls ≤ 1000 → l_X4_findDrop_17 (zV s) t (zI y) N (zI bs) (zI ls) (zI x) = some (zI (z_dr s t y m p bs ls)) := by
  have d := h.2.1.2.2 t (by have := h.1.2.2.2.1; omega)
  obtain ⟨-, a1, a2, -, a4, a5, -⟩ := h.2.2.2.2.1 t ht
  have h1 := h.1.2.1
  intro m
  induction m with
  | zero =>
    intro N x p bs ls hm hN hx hp hl
    obtain ⟨N, rfl⟩ : ∃ m, N = m + 1 := ⟨N - 1, by omega⟩
    rw [l_X4_findDrop_17]
    simp (disch := omega) only [z_lit, z_n, z_add, z_sub, z_mul, z_neg, z_ltT, z_ltF, z_leT, z_leF, z_eqT, z_eqF, z_v, z_upd, z_ue, z_un, z_ixn, z_ixo, z_ix0, z_ix1, z_ix2, z_ix3, z_ix4, z_ix5, z_ix6, Int.reduceToNat, z_inr, z_gd, z_bnd, z_jn, z_bdc, z_bd2, z_opn, z_ops, z_z01, if_true, if_false, Bool.false_eq_true]
    rfl
  | succ m ih =>
    intro N x p bs ls hm hN hx hp hl
    obtain ⟨N, rfl⟩ : ∃ m, N = m + 1 := ⟨N - 1, by omega⟩
    have hq : ((s (87 + 14 * t + 9) = 0 → p + (2 * s (87 + 14 * t + 9) - 1) = s (87 + 14 * t + 8) - (x + 1)) ∧ (s (87 + 14 * t + 9) = 1 → p + (2 * s (87 + 14 * t + 9) - 1) = s (87 + 14 * t + 8) + (x + 1))) := by
      refine ⟨fun q => ?_, fun q => ?_⟩
      · have := hp.1 q; omega
      · have := hp.2 q; omega
    rw [l_X4_findDrop_17]
    simp (disch := omega) only [z_lit, z_n, z_add, z_sub, z_mul, z_neg, z_ltT, z_ltF, z_leT, z_leF, z_eqT, z_eqF, z_v, z_upd, z_ue, z_un, z_ixn, z_ixo, z_ix0, z_ix1, z_ix2, z_ix3, z_ix4, z_ix5, z_ix6, Int.reduceToNat, z_inr, z_gd, z_bnd, z_jn, z_bdc, z_bd2, z_opn, z_ops, z_z01, if_true, if_false, Bool.false_eq_true, z_Csa h ht (x := x) (p := p) (by omega) hp]
    unfold z_ah
    by_cases c : z_ok s t p = true
    · have cb := z_spb h ht (of_decide_eq_true c)
      have cd := z_db h (x := z_sp s t p) (y := y)
      unfold z_dr
      simp only [c, if_true]
      simp (disch := omega) only [z_lit, z_n, z_add, z_sub, z_mul, z_neg, z_ltT, z_ltF, z_leT, z_leF, z_eqT, z_eqF, z_v, z_upd, z_ue, z_un, z_ixn, z_ixo, z_ix0, z_ix1, z_ix2, z_ix3, z_ix4, z_ix5, z_ix6, Int.reduceToNat, z_inr, z_gd, z_bnd, z_jn, z_bdc, z_bd2, z_opn, z_ops, z_z01, if_true, if_false, Bool.false_eq_true, z_Cdi (s := s) (x := z_sp s t p) (y := y) (by omega) hy]
      by_cases c2 : z_d s (z_sp s t p) y < ls
      · rw [z_leF (by omega) (by omega) (by omega), if_pos c2]
        exact ih N (x + 1) _ _ _ (by omega) (by omega) (by omega) hq cd
      · rw [z_leT (by omega) (by omega) (by omega), if_neg c2]
        exact ih N (x + 1) _ _ _ (by omega) (by omega) (by omega) hq hl
    · have c0 : z_ok s t p = false := Bool.eq_false_iff.mpr c
      have c1 := of_decide_eq_false c0
      rw [z_dr_o c0, c0]
      simp only [if_false, Bool.false_eq_true]
      rw [z_Cdn, z_bdc, z_leT (by omega) (by omega) (by omega)]
      rw [ih N (x + 1) _ _ _ (by omega) (by omega) (by omega) hq hl, z_dr_o]
      refine decide_eq_false ?_
      rcases d with d | d
      · have := hp.1 d; omega
      · have := hp.2 d; omega
theorem z_Cdp (h : z_inv b s) {t : Nat} (ht : (t : Int) < s 3) {y : Int} (hy : 0 ≤ y ∧ y < 8) : f_X4_findDrop (zV s) t (zI y) = some (zI (z_dp s t y)) := by
  have cu := z_cub h ht
  have h1 := h.1.2.1
  unfold f_X4_findDrop
  simp (disch := omega) only [z_lit, z_n, z_add, z_sub, z_mul, z_neg, z_ltT, z_ltF, z_leT, z_leF, z_eqT, z_eqF, z_v, z_upd, z_ue, z_un, z_ixn, z_ixo, z_ix0, z_ix1, z_ix2, z_ix3, z_ix4, z_ix5, z_ix6, Int.reduceToNat, z_inr, z_gd, z_bnd, z_jn, z_bdc, z_bd2, z_opn, z_ops, z_z01, if_true, if_false, Bool.false_eq_true, z_Ccu h ht, z_Cdi (s := s) (x := z_cu s t) (y := y) (by omega) hy]
  exact z_Cdr h ht hy 5 FU 1 (s (87 + 14 * t + 8) + (2 * s (87 + 14 * t + 9) - 1)) _ _ (by omega) (by unfold FU; omega) (by omega) (by omega) (z_db h)
end Trn
