/-! loads -/
def x_cq (s : Nat → Int) (k : Nat) : Bool := decide (s (143 + 9 * k + 4) ≠ -1)
/-- as many are on trains as were loaded and not unloaded -/
def x_ba (s : Nat → Int) : Prop := s 5 - s 6 = z_ct (x_cq s) 0 (z_np s)
def x_J (b : Int) (s : Nat → Int) : Prop := z_inv b s ∧ x_un s ∧ x_ba s
/-- nothing that is before v could be loaded -/
def x_nc (s : Nat → Int) (t : Nat) (v : Int) : Prop := z_cr s t < s (87 + 14 * t) → ∀ k : Nat, (k : Int) < s 4 → z_cl s t k = true → v ≤ z_ky s k
def x_I (b : Int) (s : Nat → Int) (Y : Nat → Nat → Int32) (t : Nat) (c : Int) (M : Nat) : Prop := x_J b s ∧ x_rel s Y ∧ (t : Int) < s 3 ∧ (0 ≤ c ∧ c ≤ 4 ∧ c ≤ z_cr s t) ∧ 5 ≤ (M : Int) + c
section Lds
variable {b : Int} {s s' : Nat → Int} {Y Y' : Nat → Nat → Int32}
theorem x_un_c (h2 : s' 2 = s 2) (hl : s 2 ≤ 12) (e : ∀ k, 39 ≤ k → k < 87 → s' k = s k) (hu : x_un s) : x_un s' := fun k hk => by
  rw [h2] at hk
  rw [e _ (by omega) (by omega), e _ (by omega) (by omega), z_tk_c h2 hl e]
  exact hu k hk
theorem x_tm_c (h : z_inv b s) (h2 : s' 2 = s 2) (e : ∀ k, 39 ≤ k → k < 87 → s' k = s k) (a c : Nat) : x_tm s' a c = x_tm s a c ∧ x_op s' a c = x_op s a c := by
  have c2 := h.1.2.2.1
  unfold x_tm x_op
  rw [z_tk_c h2 (by omega) e]
  cases g : z_tk s (a : Int) (c : Int) with
  | none => exact ⟨rfl, rfl⟩
  | some k =>
    have := z_ff_s _ _ _ g
    exact ⟨e _ (by omega) (by omega), e _ (by omega) (by omega)⟩
theorem x_rel_fr (h : z_inv b s) (r : x_rel s Y) (e : z_fr s s') (eY : ∀ u, (u < 40 ∨ 52 ≤ u) → Y' u = Y u) (hp : ∀ i : Nat, (i : Int) < s 4 → ∀ j, j < 9 → Y' (40 + i) j = zI (s' (143 + 9 * i + j))) : x_rel s' Y' := by
  obtain ⟨c0, c1, c2, c3, c4⟩ := h.1
  obtain ⟨r0, r1, r2, r3, -⟩ := r
  have f : ∀ k, (k < 5 ∨ (7 ≤ k ∧ k < 143)) → s' k = s k := fun k hk => e k (by omega)
  have f3 : s' 3 = s 3 := f 3 (by omega)
  have f1 : s' 1 = s 1 := f 1 (by omega)
  refine ⟨?_, fun i hi => ?_, fun a c ha hc => ?_, fun t ht => ?_, fun i hi j hj => ?_⟩
  · unfold x_r0
    rw [eY 60 (by omega), f 1 (by omega), f 3 (by omega), f 4 (by omega), f 0 (by omega)]
    exact r0
  · rw [f1] at hi
    rw [eY 4 (by omega), eY 5 (by omega), f _ (by omega), f _ (by omega)]
    exact r1 i hi
  · rw [f1] at ha hc
    obtain ⟨q1, q2⟩ := x_tm_c h (f 2 (by omega)) (fun k _ _ => f k (by omega)) a c
    rw [eY _ (by omega), eY _ (by omega), q1, q2]
    exact r2 a c ha hc
  · rw [f3] at ht
    have q := r3 t ht
    unfold x_rt at q ⊢
    have tl := (h.2.2.2.2.1 t ht).2.1
    rw [eY 61 (by omega), eY 7 (by omega), eY 8 (by omega), eY 9 (by omega), eY 10 (by omega), eY 11 (by omega), eY 12 (by omega), eY 13 (by omega), eY (32 + t) (by omega), f _ (by omega), f _ (by omega), f _ (by omega), f _ (by omega), f _ (by omega), f _ (by omega), f _ (by omega), f _ (by omega)]
    refine ⟨⟨q.1.1, q.1.2.1, fun j hj => ?_⟩, q.2⟩
    rw [f _ (by omega)]
    exact q.1.2.2 j hj
  · rw [f 4 (by omega)] at hi
    exact hp i hi j hj
theorem x_ld_ba (h : z_inv b s) (q : x_ba s) {t w : Nat} {d : Int} (hw : (w : Int) < s 4) (hs : s (143 + 9 * w + 3) ≠ -1) : x_ba (z_ld s t w d) := by
  have c4 := h.1.2.2.2.2
  have pw := (h.2.2.2.2.2.1 w hw).2.2.2.2.2.2.2.2
  have n4 : z_ld s t w d 4 = s 4 := z_ld_o (by omega) (by omega) (by omega) (by omega)
  have e6 : z_ld s t w d 6 = s 6 := z_ld_o (by omega) (by omega) (by omega) (by omega)
  have np : z_np (z_ld s t w d) = z_np s := by unfold z_np; rw [n4]
  unfold x_ba at q ⊢
  rw [np, z_ld_c5, e6]
  have hn : (z_np s : Int) = s 4 := by unfold z_np; omega
  have := z_ct_up (p := x_cq s) (q := x_cq (z_ld s t w d)) (w := w) (z_np s) 0 (by omega) (by omega) (fun j _ hj hne => by
    unfold x_cq
    rw [z_ld_o (by omega) (by omega) (by omega) (by omega)]) (by
    unfold x_cq
    exact decide_eq_false (by omega)) (by
    unfold x_cq
    rw [z_ld_4]
    exact decide_eq_true (by omega))
  omega
theorem x_ld_J (h : x_J b s) {t w : Nat} {d : Int} (ht : (t : Int) < s 3) (hw : (w : Int) < s 4) (hd : -1 ≤ d ∧ d < s 1) (hs : s (143 + 9 * w + 3) ≠ -1) : x_J b (z_ld s t w d) := by
  have c2 := h.1.1.2.2.1
  exact ⟨z_ld_inv h.1 ht hw hd hs, x_un_c (z_ld_o (by omega) (by omega) (by omega) (by omega)) (by omega) (fun k _ _ => z_ld_o (by omega) (by omega) (by omega) (by omega)) h.2.1, x_ld_ba h.1 h.2.2 hw hs⟩
def x_Yl (Y : Nat → Nat → Int32) (w : Nat) (d t : Int) : Nat → Nat → Int32 := w2 (w2 (w2 Y (40 + w) 5 (zI d)) (40 + w) 3 (zI (-1))) (40 + w) 4 (zI t)
theorem x_ld_rel (h : z_inv b s) (r : x_rel s Y) {t w : Nat} {d : Int} (hw : (w : Int) < s 4) : x_rel (z_ld s t w d) (x_Yl Y w d t) := by
  have c4 := h.1.2.2.2.2
  refine x_rel_fr h r (z_ld_fr (by omega)) (fun u hu => ?_) (fun i hi j hj => ?_)
  · unfold x_Yl
    rw [z_w2u (by omega), z_w2u (by omega), z_w2u (by omega)]
  · have q := r.2.2.2.2 i hi j hj
    unfold x_Yl
    by_cases c : i = w
    · subst c
      by_cases c3 : j = 3
      · subst c3
        rw [z_w2k (by omega), z_w2e, z_ld_3]
      by_cases c4' : j = 4
      · subst c4'
        rw [z_w2e, z_ld_4]
      by_cases c5 : j = 5
      · subst c5
        rw [z_w2k (by omega), z_w2k (by omega), z_w2e, z_ld_5]
      · rw [z_w2k (by omega), z_w2k (by omega), z_w2k (by omega), z_ld_o (by omega) (by omega) (by omega) (by omega)]
        exact q
    · rw [z_w2u (by omega), z_w2u (by omega), z_w2u (by omega), z_ld_o (by omega) (by omega) (by omega) (by omega)]
      exact q
theorem x_ky_c (e : ∀ k, (k : Nat) < 12 → s' (143 + 9 * k + 2) = s (143 + 9 * k + 2)) {k : Nat} (hk : k < 12) : z_ky s' k = z_ky s k := by
  unfold z_ky
  rw [e k hk]
theorem x_ld9 (hb : b ≤ 1000000000) {t : Nat} {P : Int} (hP : 1 ≤ P ∧ P ≤ 9) (K : (Nat → Nat → Int32) → Option (Nat → Nat → Int32)) : ∀ (d i N : Nat) (s : Nat → Int) (Y : Nat → Nat → Int32) (c : Int) (M : Nat), i + d = z_np s → d < N → x_I b s Y t c M → x_nc s t ((i : Int) - 16 * P) → ∃ s' Y' c' M', l_X10_loads_9 (zI (t : Int)) (zI P) K N Y (zI (i : Int)) = K Y' ∧ x_I b s' Y' t c' M' ∧ x_nc s' t ((z_np s' : Int) - 16 * P) ∧ z_fr s s' ∧ l_X4_loadTrain_2 t M (zV s) (zI c) = l_X4_loadTrain_2 t M' (zV s') (zI c') := by
  intro d
  induction d with
  | zero =>
    intro i N s Y c M h1 h2 I hn
    obtain ⟨N, rfl⟩ : ∃ m, N = m + 1 := ⟨N - 1, by omega⟩
    have c4 := I.1.1.1.2.2.2.2
    have q15 := I.2.1.1.2.2.1
    have e4 : (z_np s : Int) = s 4 := by unfold z_np; omega
    refine ⟨s, Y, c, M, ?_, I, ?_, fun _ _ => rfl, rfl⟩
    · rw [l_X10_loads_9]
      simp (disch := omega) only [z_lit, z_n, z_add, z_sub, z_mul, z_neg, z_ltT, z_ltF, z_leT, z_leF, z_eqT, z_eqF, z_v, z_upd, z_ue, z_un, z_ixn, z_ixo, z_ix0, z_ix1, z_ix2, z_ix3, z_ix4, z_ix5, z_ix6, Int.reduceToNat, z_inr, z_gd, z_bnd, z_jn, z_bdc, z_bd2, z_opn, z_ops, z_z01, if_true, if_false, Bool.false_eq_true, q15]
    · rw [show z_np s = i by omega]
      exact hn
  | succ d ih =>
    intro i N s Y c M h1 h2 I hn
    obtain ⟨N, rfl⟩ : ∃ m, N = m + 1 := ⟨N - 1, by omega⟩
    obtain ⟨J, r, ht, hc, hM⟩ := id I
    obtain ⟨h, hu, hba⟩ := id J
    obtain ⟨c0, c1, c2, c3, c4⟩ := h.1
    have e4 : (z_np s : Int) = s 4 := by unfold z_np; omega
    have hi : (i : Int) < s 4 := by omega
    have q15 := r.1.2.2.1
    have q2 := r.2.2.2.2 i hi 2 (by omega)
    have pi := h.2.2.2.2.2.1 i hi
    have p2 := pi.2.2.1
    have hb0 : Nat.blt 0 N = true := z_blt (by omega)
    have skip : (z_cl s t i = true → z_cr s t < s (87 + 14 * t) → s (143 + 9 * i + 2) ≠ P) → x_nc s t (((i + 1 : Nat) : Int) - 16 * P) := by
      intro hsk hr k hk hcl
      have a1 := hn hr k hk hcl
      by_cases e : k = i
      · subst e
        have a2 := hsk hcl hr
        unfold z_ky at a1 ⊢
        omega
      · have p2k := (h.2.2.2.2.2.1 k hk).2.2.1
        unfold z_ky at a1 ⊢
        omega
    by_cases cP : s (143 + 9 * i + 2) = P
    · have fit := x_fit h hb hu r ht hi
      cases fi : x_fi s t i with
      | false =>
        obtain ⟨s', Y', c', M', e1, e2, e3, e5, e6⟩ := ih (i + 1) N s Y c M (by omega) (by omega) I (skip (fun a1 a2 => by
          unfold x_fi at fi
          rw [a1, decide_eq_true a2] at fi
          cases fi))
        refine ⟨s', Y', c', M', ?_, e2, e3, e5, e6⟩
        rw [l_X10_loads_9, ← e1, z_cs]
        rw [fi] at fit
        simp (disch := omega) only [z_lit, z_n, z_add, z_sub, z_mul, z_neg, z_ltT, z_ltF, z_leT, z_leF, z_eqT, z_eqF, z_v, z_upd, z_ue, z_un, z_ixn, z_ixo, z_ix0, z_ix1, z_ix2, z_ix3, z_ix4, z_ix5, z_ix6, Int.reduceToNat, z_inr, z_gd, z_bnd, z_jn, z_bdc, z_bd2, z_opn, z_ops, z_z01, if_true, if_false, Bool.false_eq_true, q15, q2, hb0, fit, z_Bf]
      | true =>
        have dp := x_dp h hu r ht hi
        have fi2 := fi
        unfold x_fi at fi2
        rw [Bool.and_eq_true] at fi2
        obtain ⟨cl, rm⟩ := fi2
        have rm := of_decide_eq_true rm
        have cap := (h.2.2.2.2.1 t ht).1
        -- the class takes it too
        obtain ⟨o, ho, ho2⟩ := z_Cnl h hb ht
        rw [if_pos rm] at ho2
        have kyi : z_ky s i = (i : Int) - 16 * P := by unfold z_ky; rw [cP]
        have ow : o = some i := by
          cases o with
          | none =>
            have := ho2 i (by omega)
            rw [cl] at this
            cases this
          | some v =>
            obtain ⟨v1, v2, v3⟩ := ho2
            rcases v3 i (by omega) cl with e | e
            · rw [e]
            · exfalso
              have vlt : (v : Int) < s 4 := by omega
              rw [z_bf_ky h vlt hi] at e
              have := of_decide_eq_true e
              have := hn rm v vlt v2
              omega
        rw [ow] at ho
        obtain ⟨dd, hd⟩ : ∃ d, z_dp s t (s (143 + 9 * i + 1)) = d := ⟨_, rfl⟩
        have dpb := z_dpb h ht (y := s (143 + 9 * i + 1))
        have cu := z_cub h ht
        rw [hd] at dp dpb
        have cl2 := cl
        unfold z_cl at cl2
        rw [Bool.and_eq_true, Bool.and_eq_true] at cl2
        have wst : s (143 + 9 * i + 3) = z_cu s t := of_decide_eq_true cl2.1.1
        have hs : s (143 + 9 * i + 3) ≠ -1 := by omega
        have J' := x_ld_J J (t := t) (w := i) (d := dd) ht hi dpb hs
        have r' := x_ld_rel h r (t := t) (w := i) (d := dd) hi
        have o3 : z_ld s t i dd 3 = s 3 := z_ld_o (by omega) (by omega) (by omega) (by omega)
        have o4 : z_ld s t i dd 4 = s 4 := z_ld_o (by omega) (by omega) (by omega) (by omega)
        have oC : z_ld s t i dd (87 + 14 * t) = s (87 + 14 * t) := z_ld_o (by omega) (by omega) (by omega) (by omega)
        have np' : z_np (z_ld s t i dd) = z_np s := by unfold z_np; rw [o4]
        have cr' := z_ld_cr h (t := t) (d := dd) hi hs
        have M1 : ∃ m, M = m + 1 := ⟨M - 1, by omega⟩
        obtain ⟨M, rfl⟩ := M1
        have I' : x_I b (z_ld s t i dd) (x_Yl Y i dd t) t (c + 1) M := ⟨J', r', by rw [o3]; exact ht, by rw [cr']; omega, by omega⟩
        obtain ⟨s', Y', c', M', e1, e2, e3, e5, e6⟩ := ih (i + 1) N (z_ld s t i dd) (x_Yl Y i dd t) (c + 1) M (by rw [np']; omega) (by omega) I' (fun _ k hk hcl => by
          rw [o4] at hk
          rw [z_ld_cl h ht (by omega), Bool.and_eq_true] at hcl
          have ne : k ≠ i := of_decide_eq_true hcl.2
          have a1 := hn rm k hk hcl.1
          have p2k := (h.2.2.2.2.2.1 k hk).2.2.1
          rw [x_ky_c (s := s) (fun k hk => z_ld_o (by omega) (by omega) (by omega) (by omega)) (by omega)]
          unfold z_ky at a1 ⊢
          omega)
        refine ⟨s', Y', c', M', ?_, e2, e3, fun k hk => by rw [e5 k hk, z_ld_fr (by omega) k hk], ?_⟩
        · rw [l_X10_loads_9, ← e1, z_cs]
          rw [fi] at fit
          unfold x_Yl
          simp (disch := omega) only [z_lit, z_n, z_add, z_sub, z_mul, z_neg, z_ltT, z_ltF, z_leT, z_leF, z_eqT, z_eqF, z_v, z_upd, z_ue, z_un, z_ixn, z_ixo, z_ix0, z_ix1, z_ix2, z_ix3, z_ix4, z_ix5, z_ix6, Int.reduceToNat, z_inr, z_gd, z_bnd, z_jn, z_bdc, z_bd2, z_opn, z_ops, z_z01, if_true, if_false, Bool.false_eq_true, q15, q2, hb0, fit, z_Bt, dp]
        · rw [z_Clt h ht hi (by omega) ho, hd]
          exact e6
    · obtain ⟨s', Y', c', M', e1, e2, e3, e5, e6⟩ := ih (i + 1) N s Y c M (by omega) (by omega) I (skip (fun _ _ => cP))
      refine ⟨s', Y', c', M', ?_, e2, e3, e5, e6⟩
      rw [l_X10_loads_9, ← e1, z_cs]
      simp (disch := omega) only [z_lit, z_n, z_add, z_sub, z_mul, z_neg, z_ltT, z_ltF, z_leT, z_leF, z_eqT, z_eqF, z_v, z_upd, z_ue, z_un, z_ixn, z_ixo, z_ix0, z_ix1, z_ix2, z_ix3, z_ix4, z_ix5, z_ix6, Int.reduceToNat, z_inr, z_gd, z_bnd, z_jn, z_bdc, z_bd2, z_opn, z_ops, z_z01, if_true, if_false, Bool.false_eq_true, q15, q2]
theorem x_ld3 (hb : b ≤ 1000000000) {t : Nat} : ∀ (P N : Nat) (s : Nat → Int) (Y : Nat → Nat → Int32) (c : Int) (M : Nat), P < N → P ≤ 9 → x_I b s Y t c M → x_nc s t (-(16 * (P : Int))) → ∃ s' Y', l_X10_loads_3 (zI (t : Int)) N Y (zI (P : Int)) = some Y' ∧ l_X4_loadTrain_2 t M (zV s) (zI c) = some (zV s') ∧ x_J b s' ∧ x_rel s' Y' ∧ z_fr s s' := by
  intro P
  induction P with
  | zero =>
    intro N s Y c M h1 h2 I hn
    obtain ⟨N, rfl⟩ : ∃ m, N = m + 1 := ⟨N - 1, by omega⟩
    obtain ⟨J, r, ht, hc, hM⟩ := id I
    have M1 : ∃ m, M = m + 1 := ⟨M - 1, by omega⟩
    obtain ⟨M, rfl⟩ := M1
    obtain ⟨o, ho, ho2⟩ := z_Cnl J.1 hb ht
    have c4 := J.1.1.2.2.2.2
    have e4 : (z_np s : Int) = s 4 := by unfold z_np; omega
    have on : o = none := by
      split at ho2
      · rename_i rm
        cases o with
        | none => rfl
        | some w =>
          exfalso
          have wl : (w : Int) < s 4 := by have := ho2.1; omega
          have a1 := hn rm w wl ho2.2.1
          have p2k := (J.1.2.2.2.2.2.1 w wl).2.2.1
          unfold z_ky at a1
          omega
      · exact ho2
    rw [on] at ho
    refine ⟨s, Y, ?_, z_Cle (by omega) ho, J, r, fun _ _ => rfl⟩
    rw [l_X10_loads_3]
    simp (disch := omega) only [z_lit, z_n, z_add, z_sub, z_mul, z_neg, z_ltT, z_ltF, z_leT, z_leF, z_eqT, z_eqF, z_v, z_upd, z_ue, z_un, z_ixn, z_ixo, z_ix0, z_ix1, z_ix2, z_ix3, z_ix4, z_ix5, z_ix6, Int.reduceToNat, z_inr, z_gd, z_bnd, z_jn, z_bdc, z_bd2, z_opn, z_ops, z_z01, if_true, if_false, Bool.false_eq_true]
  | succ P ih =>
    intro N s Y c M h1 h2 I hn
    obtain ⟨N, rfl⟩ : ∃ m, N = m + 1 := ⟨N - 1, by omega⟩
    have c4 := I.1.1.1.2.2.2.2
    have e4 : (z_np s : Int) = s 4 := by unfold z_np; omega
    have hb0 : Nat.blt 0 N = true := z_blt (by omega)
    obtain ⟨s1, Y1, c', M', e1, e2, e3, e5, e6⟩ := x_ld9 hb (P := ((P + 1 : Nat) : Int)) (t := t) (by omega) (fun Y14 => l_X10_loads_3 (zI (t : Int)) N Y14 (zI ((P + 1 : Nat) : Int) + -zI 1)) (z_np s) 0 13 s Y c M (by omega) (by omega) I (by
      rw [show ((0 : Nat) : Int) - 16 * ((P + 1 : Nat) : Int) = -(16 * ((P + 1 : Nat) : Int)) by omega]
      exact hn)
    have d4 := e2.1.1.1.2.2.2.2
    have g4 : (z_np s1 : Int) = s1 4 := by unfold z_np; omega
    obtain ⟨s', Y', f1, f2, f3, f4, f5⟩ := ih N s1 Y1 c' M' (by omega) (by omega) e2 (fun rm k hk hcl => by
      have a1 := e3 rm k hk hcl
      have p2k := (e2.1.1.2.2.2.2.2.1 k hk).2.2.1
      unfold z_ky at a1 ⊢
      omega)
    refine ⟨s', Y', ?_, by rw [e6]; exact f2, f3, f4, fun k hk => by rw [f5 k hk, e5 k hk]⟩
    rw [l_X10_loads_3, ← f1]
    rw [show (P : Int) = ((P + 1 : Nat) : Int) + -1 by omega, ← z_add, ← z_neg, ← e1]
    rw [z_l0, z_leF (by omega) (by omega) (by omega), hb0, z_gd]
    rfl
theorem x_lds (hb : b ≤ 1000000000) (J : x_J b s) (r : x_rel s Y) {t : Nat} (ht : (t : Int) < s 3) : ∃ s' Y', f_X10_loads Y (zI (t : Int)) = some Y' ∧ f_X4_loadTrain (zV s) t = some (zV s') ∧ x_J b s' ∧ x_rel s' Y' ∧ z_fr s s' := by
  have cb := z_ct_b (p := z_ca s t) (z_np s) 0
  obtain ⟨s', Y', e1, e2, e3, e4, e5⟩ := x_ld3 hb (t := t) 9 10 s Y 0 FU (by omega) (by omega) ⟨J, r, ht, ⟨by omega, by omega, by unfold z_cr; omega⟩, by unfold FU; omega⟩ (fun _ k hk _ => by
    have p2k := (J.1.2.2.2.2.2.1 k hk).2.2.1
    unfold z_ky
    omega)
  exact ⟨s', Y', e1, e2, e3, e4, e5⟩
end Lds
