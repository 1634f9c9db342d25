/-! one parcel is loaded; loadTrain and loadAll side by side -/
def z_ld (s : Nat → Int) (t w : Nat) (d : Int) : Nat → Int := zu (zu (zu (zu s (143 + 9 * w + 3) (-1)) (143 + 9 * w + 4) t) (143 + 9 * w + 5) d) 5 (s 5 + 1)
section Ldt
variable {b : Int} {s s' g g' : Nat → Int}
theorem z_j9 {j : Nat} (h : j < 9) : j = 0 ∨ j = 1 ∨ j = 2 ∨ j = 3 ∨ j = 4 ∨ j = 5 ∨ j = 6 ∨ j = 7 ∨ j = 8 := by omega
theorem z_ld_fr {t w : Nat} {d : Int} (hw : w < 12) : z_fr s (z_ld s t w d) := by
  intro k hk
  unfold z_ld
  rw [z_un (by omega), z_un (by omega), z_un (by omega), z_un (by omega)]
theorem z_ld_o {t w k : Nat} {d : Int} (h3 : k ≠ 143 + 9 * w + 3) (h4 : k ≠ 143 + 9 * w + 4) (h5 : k ≠ 143 + 9 * w + 5) (h6 : k ≠ 5) : z_ld s t w d k = s k := by
  unfold z_ld
  rw [z_un h6, z_un h5, z_un h4, z_un h3]
theorem z_ld_3 {t w : Nat} {d : Int} : z_ld s t w d (143 + 9 * w + 3) = -1 := by
  unfold z_ld
  rw [z_un (by omega), z_un (by omega), z_un (by omega), z_ue rfl]
theorem z_ld_4 {t w : Nat} {d : Int} : z_ld s t w d (143 + 9 * w + 4) = t := by
  unfold z_ld
  rw [z_un (by omega), z_un (by omega), z_ue rfl]
theorem z_ld_5 {t w : Nat} {d : Int} : z_ld s t w d (143 + 9 * w + 5) = d := by
  unfold z_ld
  rw [z_un (by omega), z_ue rfl]
theorem z_ld_c5 {t w : Nat} {d : Int} : z_ld s t w d 5 = s 5 + 1 := by
  unfold z_ld
  rw [z_ue rfl]
theorem z_ld_inv (h : z_inv b s) {t w : Nat} {d : Int} (ht : (t : Int) < s 3) (hw : (w : Int) < s 4) (hd : -1 ≤ d ∧ d < s 1) (hs : s (143 + 9 * w + 3) ≠ -1) : z_inv b (z_ld s t w d) := by
  have h4 := h.1.2.2.2.2
  refine z_inv_fr h (z_ld_fr (by omega)) (fun i hi => ?_)
  have p := h.2.2.2.2.2.1 i hi
  have c1 : z_ld s t w d 1 = s 1 := z_ld_o (by omega) (by omega) (by omega) (by omega)
  have c3 : z_ld s t w d 3 = s 3 := z_ld_o (by omega) (by omega) (by omega) (by omega)
  have c0 : z_ld s t w d 0 = s 0 := z_ld_o (by omega) (by omega) (by omega) (by omega)
  unfold z_pcl at p ⊢
  rw [c0, c1, c3]
  by_cases e : i = w
  · subst e
    rw [z_ld_3, z_ld_4, z_ld_5, z_ld_o (k := 143 + 9 * i) (by omega) (by omega) (by omega) (by omega), z_ld_o (k := 143 + 9 * i + 1) (by omega) (by omega) (by omega) (by omega), z_ld_o (k := 143 + 9 * i + 2) (by omega) (by omega) (by omega) (by omega), z_ld_o (k := 143 + 9 * i + 7) (by omega) (by omega) (by omega) (by omega), z_ld_o (k := 143 + 9 * i + 8) (by omega) (by omega) (by omega) (by omega)]
    obtain ⟨p0, p1, p2, p3, p4, p5, p7, p8, p9⟩ := p
    refine ⟨p0, p1, p2, by omega, by omega, by omega, p7, p8, ?_⟩
    rcases p9 with q | q | q
    · exact Or.inr (Or.inl ⟨rfl, by omega, q.2.2.1⟩)
    · exact absurd q.1 hs
    · exact absurd q.1 hs
  · rw [z_ld_o (k := 143 + 9 * i) (by omega) (by omega) (by omega) (by omega), z_ld_o (k := 143 + 9 * i + 1) (by omega) (by omega) (by omega) (by omega), z_ld_o (k := 143 + 9 * i + 2) (by omega) (by omega) (by omega) (by omega), z_ld_o (k := 143 + 9 * i + 3) (by omega) (by omega) (by omega) (by omega), z_ld_o (k := 143 + 9 * i + 4) (by omega) (by omega) (by omega) (by omega), z_ld_o (k := 143 + 9 * i + 5) (by omega) (by omega) (by omega) (by omega), z_ld_o (k := 143 + 9 * i + 7) (by omega) (by omega) (by omega) (by omega), z_ld_o (k := 143 + 9 * i + 8) (by omega) (by omega) (by omega) (by omega)]
    exact p
/-- the reference's loading of one parcel -/
def z_lg (g : Nat → Int) (t w : Nat) (d : Int) : Nat → Int := zu (zu (zu (zu g (143 + 9 * w + 5) d) (143 + 9 * w + 3) (-1)) (143 + 9 * w + 4) t) 5 (g 5 + 1)
theorem z_lg_ld {t w : Nat} {d : Int} (hw : w < 12) : z_lg g t w d = z_ld g t w d := by
  funext k
  unfold z_lg z_ld zu
  by_cases c1 : k = 5
  · rw [if_pos c1, if_pos c1]
  · rw [if_neg c1, if_neg c1]
    by_cases c2 : k = 143 + 9 * w + 4
    · rw [if_pos c2, if_neg (by omega), if_pos c2]
    · rw [if_neg c2]
      by_cases c3 : k = 143 + 9 * w + 3
      · rw [if_pos c3, if_neg (by omega), if_neg c2, if_pos c3]
      · rw [if_neg c3, if_neg c2]
        rw [if_neg c3]
theorem z_ld_rel (h : z_inv b s) (r : z_rel s g) {t w : Nat} {d : Int} (hw : (w : Int) < s 4) : z_rel (z_ld s t w d) (z_ld g t w d) := by
  have h4 := h.1.2.2.2.2
  refine z_rel_fr h r (z_ld_fr (by omega)) (fun k hk => z_ld_o (by omega) (by omega) (by omega) (by omega)) ?_ ?_ (fun i hi j hj => ?_)
  · rw [z_ld_c5, z_ld_c5, r.1 5 (by omega)]
  · rw [z_ld_o (by omega) (by omega) (by omega) (by omega), z_ld_o (by omega) (by omega) (by omega) (by omega), r.1 6 (by omega)]
  · have q := r.2.2.2.2 i hi j hj
    by_cases e : i = w
    · subst e
      by_cases c3 : j = 3
      · subst c3
        rw [z_ld_3, z_ld_3]
      · by_cases c4 : j = 4
        · subst c4
          rw [z_ld_4, z_ld_4]
        · by_cases c5 : j = 5
          · subst c5
            rw [z_ld_5, z_ld_5]
          · rw [z_ld_o (by omega) (by omega) (by omega) (by omega), z_ld_o (by omega) (by omega) (by omega) (by omega)]
            exact q
    · rw [z_ld_o (by omega) (by omega) (by omega) (by omega), z_ld_o (by omega) (by omega) (by omega) (by omega)]
      exact q
theorem z_ld_cr (h : z_inv b s) {t w : Nat} {d : Int} (hw : (w : Int) < s 4) (hs : s (143 + 9 * w + 3) ≠ -1) : z_cr (z_ld s t w d) t = z_cr s t + 1 := by
  have h4 := h.1.2.2.2.2
  have p := (h.2.2.2.2.2.1 w hw).2.2.2.2.2.2.2.2
  unfold z_cr z_np
  rw [show z_ld s t w d 4 = s 4 from z_ld_o (by omega) (by omega) (by omega) (by omega)]
  refine z_ct_up (w := w) _ _ (by omega) (by omega) (fun j _ hj hne => ?_) ?_ ?_
  · unfold z_ca
    rw [z_ld_o (by omega) (by omega) (by omega) (by omega)]
  · unfold z_ca
    exact decide_eq_false (by omega)
  · unfold z_ca
    rw [z_ld_4]
    exact decide_eq_true rfl
theorem z_ld_wt {t w k : Nat} {d x : Int} (hx : x ≠ -1) : z_wt (z_ld s t w d) x k = (z_wt s x k && decide (k ≠ w)) := by
  unfold z_wt
  by_cases e : k = w
  · subst e
    rw [z_ld_3, decide_eq_false (fun q => hx q.symm), decide_eq_false (p := k ≠ k) (fun q => q rfl), Bool.and_false]
  · rw [z_ld_o (by omega) (by omega) (by omega) (by omega), decide_eq_true (p := k ≠ w) e, Bool.and_true]
theorem z_ld_bf {t w i j : Nat} {d : Int} : z_bf (z_ld s t w d) i j = z_bf s i j := by
  unfold z_bf
  rw [z_ld_o (by omega) (by omega) (by omega) (by omega), z_ld_o (k := 143 + 9 * i + 2) (by omega) (by omega) (by omega) (by omega)]
theorem z_ld_he {t w i : Nat} {d : Int} : z_he (z_ld s t w d) i = z_he s i := by
  unfold z_he
  rw [z_ld_o (by omega) (by omega) (by omega) (by omega), z_ld_o (k := 143 + 9 * i + 7) (by omega) (by omega) (by omega) (by omega)]
theorem z_ld_cu (h : z_inv b s) {t t' w : Nat} {d : Int} (ht : (t' : Int) < s 3) : z_cu (z_ld s t w d) t' = z_cu s t' := by
  have h3 := h.1.2.2.2.1
  exact z_cu_c (h.2.2.2.2.1 t' ht) (fun k hk => z_ld_o (by omega) (by omega) (by omega) (by omega))
theorem z_ld_dp (h : z_inv b s) {t t' w : Nat} {d y : Int} (ht : (t' : Int) < s 3) (hw : w < 12) : z_dp (z_ld s t w d) t' y = z_dp s t' y := by
  have h3 := h.1.2.2.2.1
  exact z_dp_c (h.2.2.2.2.1 t' ht) (fun k hk => z_ld_o (by omega) (by omega) (by omega) (by omega)) (fun k hk => z_ld_o (by omega) (by omega) (by omega) (by omega))
theorem z_ld_cl (h : z_inv b s) {t w k : Nat} {d : Int} (ht : (t : Int) < s 3) (hw : w < 12) : z_cl (z_ld s t w d) t k = (z_cl s t k && decide (k ≠ w)) := by
  have cu := z_cub h ht
  unfold z_cl
  rw [z_ld_cu h ht, z_ld_wt (by omega), z_ld_he, z_ld_dp h ht hw, z_ld_o (by omega) (by omega) (by omega) (by omega)]
  cases z_wt s (z_cu s t) k <;> cases z_he s k <;> cases decide (k ≠ w) <;> simp
/-- the class's turn of loadTrain that loads w -/
theorem z_Clt (h : z_inv b s) {t w N : Nat} {c : Int} (ht : (t : Int) < s 3) (hw : (w : Int) < s 4) (hc : 0 ≤ c ∧ c < 4) (hf : f_X4_findNextToLoad (zV s) t = some (some w)) : l_X4_loadTrain_2 t (N + 1) (zV s) (zI c) = l_X4_loadTrain_2 t N (zV (z_ld s t w (z_dp s t (s (143 + 9 * w + 1))))) (zI (c + 1)) := by
  have h4 := h.1.2.2.2.2
  have h1 := h.1.2.1
  have p1 := (h.2.2.2.2.2.1 w hw).2.1
  rw [l_X4_loadTrain_2]
  unfold f_X2_board
  simp (disch := omega) only [z_lit, z_n, z_add, z_sub, z_mul, z_neg, z_ltT, z_ltF, z_leT, z_leF, z_eqT, z_eqF, z_v, z_upd, z_ue, z_un, z_ixn, z_ixo, z_ix0, z_ix1, z_ix2, z_ix3, z_ix4, z_ix5, z_ix6, Int.reduceToNat, z_inr, z_gd, z_bnd, z_jn, z_bdc, z_bd2, z_opn, z_ops, z_z01, if_true, if_false, Bool.false_eq_true, hf, z_blt, z_Cdp h ht (y := s (143 + 9 * w + 1)) (by omega)]
  rfl
theorem z_Cle {t M : Nat} {c : Int} (hc : 0 ≤ c ∧ c ≤ 4) (hf : f_X4_findNextToLoad (zV s) t = some none) : l_X4_loadTrain_2 t (M + 1) (zV s) (zI c) = some (zV s) := by
  rw [l_X4_loadTrain_2]
  by_cases q : c = 4
  · simp (disch := omega) only [z_lit, z_n, z_add, z_sub, z_mul, z_neg, z_ltT, z_ltF, z_leT, z_leF, z_eqT, z_eqF, z_v, z_upd, z_ue, z_un, z_ixn, z_ixo, z_ix0, z_ix1, z_ix2, z_ix3, z_ix4, z_ix5, z_ix6, Int.reduceToNat, z_inr, z_gd, z_bnd, z_jn, z_bdc, z_bd2, z_opn, z_ops, z_z01, if_true, if_false, Bool.false_eq_true]
  · simp (disch := omega) only [z_lit, z_n, z_add, z_sub, z_mul, z_neg, z_ltT, z_ltF, z_leT, z_leF, z_eqT, z_eqF, z_v, z_upd, z_ue, z_un, z_ixn, z_ixo, z_ix0, z_ix1, z_ix2, z_ix3, z_ix4, z_ix5, z_ix6, Int.reduceToNat, z_inr, z_gd, z_bnd, z_jn, z_bdc, z_bd2, z_opn, z_ops, z_z01, if_true, if_false, Bool.false_eq_true, hf]
/-- loadAll's loop and loadTrain's -/
theorem z_lda (hb : b ≤ 1000000000) {t : Nat} {C X : Int} : ∀ (m N M : Nat) (s g : Nat → Int) (n rm c : Int), m < N → 5 ≤ M + c → z_inv b s → z_rel s g → (t : Int) < s 3 → s (87 + 14 * t) = C → z_cu s t = X → rm = C - z_cr s t → 0 ≤ c ∧ rm + c ≤ 4 ∧ c ≤ 4 → 0 ≤ n → (if rm ≤ 0 then 0 else rm) + (z_np s - n + 1) ≤ m → (∀ k : Nat, (k : Int) < s 4 → z_wt s X k = true → z_ac s X k < n → z_cl s t k = false) → n ≤ z_np s + 1 → ∃ s' g', l_X10_loadAll_33 (zI t) (zI X) N (zV g) (zI rm) (zI n) (zI (z_oi (z_co s X n))) = some (zV g') ∧ l_X4_loadTrain_2 t M (zV s) (zI c) = some (zV s') ∧ z_inv b s' ∧ z_rel s' g' ∧ z_fr s s' ∧ (∀ k, 7 ≤ k → k < 143 → g' k = g k) := by
  intro m
  induction m using Nat.strongRecOn with
  | _ m ih =>
    intro N M s g n rm c hN hM h r ht hC hX hrm hc hn hm hH hnp
    obtain ⟨N, rfl⟩ : ∃ k, N = k + 1 := ⟨N - 1, by omega⟩
    obtain ⟨M, rfl⟩ : ∃ k, M = k + 1 := ⟨M - 1, by omega⟩
    obtain ⟨⟨h0, h1, h2, h3, h4⟩, -, -, -, htn, hp, -⟩ := id h
    obtain ⟨a0, -⟩ := htn t ht
    have cu := z_cub h ht
    rw [hX] at cu
    have cb := z_ct_b (p := z_ca s t) (z_np s) 0
    have cb2 : (z_np s : Int) = s 4 := by unfold z_np; omega
    have crb : 0 ≤ z_cr s t ∧ z_cr s t ≤ 12 := by unfold z_cr; omega
    obtain ⟨o, ho, ho2⟩ := z_Cnl h hb ht
    cases hco : z_co s X n with
    | none =>
      have nocl : ∀ j, j < z_np s → z_cl s t j = false := fun j hj => by
        cases hw : z_wt s X j with
        | true => exact hH j (by omega) hw (z_co_n h hn hco (by omega) hw)
        | false =>
          unfold z_cl
          rw [hX, hw]
          rfl
      have on : o = none := by
        split at ho2
        · cases o with
          | none => rfl
          | some w => exact absurd ho2.2.1 (by rw [nocl w ho2.1]; decide)
        · exact ho2
      rw [on] at ho
      refine ⟨s, g, ?_, z_Cle (by omega) ho, h, r, fun k _ => rfl, fun k _ _ => rfl⟩
      unfold z_oi
      rw [l_X10_loadAll_33]
      simp (disch := omega) only [z_lit, z_n, z_add, z_sub, z_mul, z_neg, z_ltT, z_ltF, z_leT, z_leF, z_eqT, z_eqF, z_v, z_upd, z_ue, z_un, z_ixn, z_ixo, z_ix0, z_ix1, z_ix2, z_ix3, z_ix4, z_ix5, z_ix6, Int.reduceToNat, z_inr, z_gd, z_bnd, z_jn, z_bdc, z_bd2, z_opn, z_ops, z_z01, if_true, if_false, Bool.false_eq_true]
    | some w =>
      obtain ⟨-, w1, w2, -⟩ := z_ff_s _ _ _ hco
      rw [Bool.and_eq_true] at w2
      have wac := of_decide_eq_true w2.2
      have wlt : (w : Int) < s 4 := by omega
      have pw := hp w wlt
      have wst : s (143 + 9 * w + 3) = X := of_decide_eq_true w2.1
      by_cases hr : rm ≤ 0
      · have on : o = none := by
          rw [if_neg (by omega)] at ho2
          exact ho2
        rw [on] at ho
        refine ⟨s, g, ?_, z_Cle (by omega) ho, h, r, fun k _ => rfl, fun k _ _ => rfl⟩
        rw [l_X10_loadAll_33]
        unfold z_oi
        simp (disch := omega) only [z_lit, z_n, z_add, z_sub, z_mul, z_neg, z_ltT, z_ltF, z_leT, z_leF, z_eqT, z_eqF, z_v, z_upd, z_ue, z_un, z_ixn, z_ixo, z_ix0, z_ix1, z_ix2, z_ix3, z_ix4, z_ix5, z_ix6, Int.reduceToNat, z_inr, z_gd, z_bnd, z_jn, z_bdc, z_bd2, z_opn, z_ops, z_z01, if_true, if_false, Bool.false_eq_true]
      · rw [if_neg hr] at hm
        obtain ⟨g1, e1, e2⟩ := z_Gcl h hb r ht wlt
        have r1 := z_rel_c h r e2
        have clw : z_cl s t w = (!z_he s w && decide (z_dp s t (s (143 + 9 * w + 1)) ≠ -1)) := by
          unfold z_cl
          rw [hX, w2.1, Bool.true_and]
        rw [← clw] at e1
        rw [l_X10_loadAll_33]
        unfold z_oi
        simp (disch := omega) only [z_lit, z_n, z_add, z_sub, z_mul, z_neg, z_ltT, z_ltF, z_leT, z_leF, z_eqT, z_eqF, z_v, z_upd, z_ue, z_un, z_ixn, z_ixo, z_ix0, z_ix1, z_ix2, z_ix3, z_ix4, z_ix5, z_ix6, Int.reduceToNat, z_inr, z_gd, z_bnd, z_jn, z_bdc, z_bd2, z_opn, z_ops, z_z01, if_true, if_false, Bool.false_eq_true, e1]
        cases hcl : z_cl s t w with
        | false =>
          simp (disch := omega) only [z_Bf, z_i0, if_true]
          rw [z_Gco h r1 (by unfold zR; omega) (by unfold zR; omega), z_bdc]
          have H1 : ∀ k : Nat, (k : Int) < s 4 → z_wt s X k = true → z_ac s X k < n + 1 → z_cl s t k = false := by
            intro k hk hw hac
            by_cases e : z_ac s X k = n
            · have := z_ac_inj h hk wlt hw w2.1 (by omega)
              rw [this]
              exact hcl
            · exact hH k hk hw (by omega)
          obtain ⟨s2, g3, k1, k2, k3, k4, k5, k6⟩ := ih (m - 1) (by omega) N (M + 1) s g1 (n + 1) rm c (by omega) (by omega) h r1 ht hC hX hrm hc (by omega) (by rw [if_neg hr]; omega) H1 (by have := (z_ct_b (p := fun j => z_wt s X j && z_bf s j w) (z_np s) 0).2; unfold z_ac at wac; omega)
          exact ⟨s2, g3, k1, k2, k3, k4, k5, fun k a1 a2 => by rw [k6 k a1 a2, e2 k (by omega)]⟩
        | true =>
          obtain ⟨g2, f1, f2⟩ := z_Gdp h r1 ht wlt
          have r2 := z_rel_c h r1 f2
          have g25 := r2.1 5 (by omega)
          have dpb := z_dpb h ht (y := s (143 + 9 * w + 1))
          have dpn : z_dp s t (s (143 + 9 * w + 1)) ≠ -1 := by
            rw [clw, Bool.and_eq_true] at hcl
            exact of_decide_eq_true hcl.2
          -- the class takes w too
          have ow : o = some w := by
            rw [if_pos (by omega)] at ho2
            cases o with
            | none => exact absurd hcl (by rw [ho2 w (by omega)]; decide)
            | some v =>
              obtain ⟨v1, v2, v3⟩ := ho2
              rcases v3 w (by omega) hcl with e | e
              · rw [e]
              · exfalso
                have vlt : (v : Int) < s 4 := by omega
                have vw : z_wt s X v = true := by
                  unfold z_cl at v2
                  rw [Bool.and_eq_true, Bool.and_eq_true, hX] at v2
                  exact v2.1.1
                have := z_ac_lt h vlt wlt vw e
                rw [hH v vlt vw (by omega)] at v2
                cases v2
          rw [ow] at ho
          obtain ⟨d, hd⟩ : ∃ d, z_dp s t (s (143 + 9 * w + 1)) = d := ⟨_, rfl⟩
          rw [hd] at f1 dpb dpn
          have hs : s (143 + 9 * w + 3) ≠ -1 := by omega
          have h' := z_ld_inv h (d := d) ht wlt dpb hs
          have r' := z_ld_rel h r2 (t := t) (d := d) wlt
          have c3 : z_ld s t w d 3 = s 3 := z_ld_o (by omega) (by omega) (by omega) (by omega)
          have c4 : z_ld s t w d 4 = s 4 := z_ld_o (by omega) (by omega) (by omega) (by omega)
          have cC : z_ld s t w d (87 + 14 * t) = s (87 + 14 * t) := z_ld_o (by omega) (by omega) (by omega) (by omega)
          have np' : z_np (z_ld s t w d) = z_np s := by unfold z_np; rw [c4]
          have cr' := z_ld_cr h (t := t) (d := d) wlt hs
          have cX : z_cu (z_ld s t w d) t = X := by rw [z_ld_cu h ht, hX]
          simp (disch := omega) only [z_Bt, z_i1, if_false, z_lit, z_n, z_add, z_sub, z_mul, z_neg, z_ltT, z_ltF, z_leT, z_leF, z_eqT, z_eqF, z_v, z_upd, z_ue, z_un, z_ixn, z_ixo, z_ix0, z_ix1, z_ix2, z_ix3, z_ix4, z_ix5, z_ix6, Int.reduceToNat, z_inr, z_gd, z_bnd, z_jn, z_bdc, z_bd2, z_opn, z_ops, z_z01, if_true, if_false, Bool.false_eq_true, z_ofP, f1, g25]
          rw [show zu (zu (zu (zu g2 (143 + 9 * w + 5) d) (143 + 9 * w + 3) (-1)) (143 + 9 * w + 4) t) 5 (s 5 + 1) = z_ld g2 t w d by rw [← z_lg_ld (by omega)]; unfold z_lg; rw [g25]]
          rw [z_Gco h' r' (by unfold zR; omega) (by unfold zR; omega), z_bdc]
          rw [z_Clt h ht wlt (by omega) ho, hd]
          have frl : z_fr s (z_ld s t w d) := z_ld_fr (by omega)
          have H' : ∀ k : Nat, (k : Int) < z_ld s t w d 4 → z_wt (z_ld s t w d) X k = true → z_ac (z_ld s t w d) X k < n → z_cl (z_ld s t w d) t k = false := by
            intro k hk hw hac
            rw [c4] at hk
            rw [z_ld_wt (by omega), Bool.and_eq_true] at hw
            have kw : k ≠ w := of_decide_eq_true hw.2
            rw [z_ld_cl h ht (by omega), decide_eq_true (p := k ≠ w) kw, Bool.and_true]
            refine hH k hk hw.1 ?_
            -- what is loaded was not considered before k
            have hb0 : z_bf s w k = false := by
              cases q : z_bf s w k with
              | false => rfl
              | true =>
                exfalso
                have a1 := z_ac_lt h wlt hk w2.1 q
                have a2 : z_ac s X k ≤ z_ac (z_ld s t w d) X k + 1 := by
                  unfold z_ac
                  rw [np']
                  have u1 : ∀ j, 0 ≤ j → j < 0 + z_np s → j ≠ w → (z_wt s X j && z_bf s j k) = (z_wt (z_ld s t w d) X j && z_bf (z_ld s t w d) j k) := fun j _ hj hne => by
                    rw [z_ld_wt (by omega), z_ld_bf, decide_eq_true (p := j ≠ w) hne, Bool.and_true]
                  have u2 : (z_wt (z_ld s t w d) X w && z_bf (z_ld s t w d) w k) = false := by
                    rw [z_ld_wt (by omega), decide_eq_false (p := w ≠ w) (fun q => q rfl), Bool.and_false, Bool.false_and]
                  have u3 : (z_wt s X w && z_bf s w k) = true := by
                    rw [w2.1, q]
                    rfl
                  rw [z_ct_up (p := fun j => z_wt (z_ld s t w d) X j && z_bf (z_ld s t w d) j k) (q := fun j => z_wt s X j && z_bf s j k) (w := w) (z_np s) 0 (by omega) (by omega) u1 u2 u3]
                  exact Int.le_refl _
                omega
            have a3 : z_ac s X k = z_ac (z_ld s t w d) X k := by
              unfold z_ac
              rw [np']
              refine z_ct_c _ _ (fun j _ hj => ?_)
              rw [z_ld_wt (by omega), z_ld_bf]
              by_cases e : j = w
              · rw [e, hb0, Bool.and_false, Bool.and_false]
              · rw [decide_eq_true (p := j ≠ w) e, Bool.and_true]
            omega
          obtain ⟨s2, g3, k1, k2, k3, k4, k5, k6⟩ := ih (m - 1) (by omega) N M (z_ld s t w d) (z_ld g2 t w d) n (rm + -1) (c + 1) (by omega) (by omega) h' r' (by rw [c3]; exact ht) (by rw [cC]; exact hC) cX (by omega) (by omega) hn (by rw [np']; split <;> omega) H' (by rw [np']; exact hnp)
          exact ⟨s2, g3, k1, k2, k3, k4, fun k hk => by rw [k5 k hk, frl k hk], fun k a1 a2 => by rw [k6 k a1 a2, z_ld_o (by omega) (by omega) (by omega) (by omega), f2 k (by omega), e2 k (by omega)]⟩
theorem z_loads (hb : b ≤ 1000000000) (h : z_inv b s) (r : z_rel s g) {t : Nat} (ht : (t : Int) < s 3) : ∃ s' g', f_X10_loadAll (zV g) (zI t) = some (zV g') ∧ f_X4_loadTrain (zV s) t = some (zV s') ∧ z_inv b s' ∧ z_rel s' g' ∧ z_fr s s' ∧ (∀ k, 7 ≤ k → k < 143 → g' k = g k) := by
  obtain ⟨⟨h0, h1, h2, h3, h4⟩, -, -, -, hn, -⟩ := id h
  obtain ⟨a0, -⟩ := hn t ht
  have cu := z_cub h ht
  have q0 := (r.2.2.2.1 t ht).1
  have cb := z_ct_b (p := z_ca s t) (z_np s) 0
  have cb2 : (z_np s : Int) = s 4 := by unfold z_np; omega
  have crb : 0 ≤ z_cr s t ∧ z_cr s t ≤ 12 := by unfold z_cr; omega
  unfold f_X10_loadAll f_X4_loadTrain
  simp (disch := omega) only [z_lit, z_n, z_add, z_sub, z_mul, z_neg, z_ltT, z_ltF, z_leT, z_leF, z_eqT, z_eqF, z_v, z_upd, z_ue, z_un, z_ixn, z_ixo, z_ix0, z_ix1, z_ix2, z_ix3, z_ix4, z_ix5, z_ix6, Int.reduceToNat, z_inr, z_gd, z_bnd, z_jn, z_bdc, z_bd2, z_opn, z_ops, z_z01, if_true, if_false, Bool.false_eq_true, z_Gcu h r ht, z_ofT, Nat.add_zero, q0, z_Gca h r (show zR (t : Int) by unfold zR; omega), z_Gco h r (show zR (z_cu s t) by unfold zR; omega) (show zR 0 by unfold zR; omega)]
  have := z_lda hb 17 FU FU s g 0 (s (87 + 14 * t) - z_cr s t) 0 (by unfold FU; omega) (by unfold FU; omega) h r ht rfl rfl rfl (by omega) (by omega) (by split <;> omega) (fun k _ _ q => by
    have := (z_ct_b (p := fun j => z_wt s (z_cu s t) j && z_bf s j k) (z_np s) 0).1
    unfold z_ac at q
    omega) (by omega)
  exact this
end Ldt
