/-! the reference's parser -/
section Pc
variable {W W' W0 V V' V0 : Nat → Nat → Int32} {T : Nat → Int} {n r p q p' q' : Nat} {kd kd' : Int} {s g : Nat → Int} {b : Int} {c : Int} {x : Int32}
def y_Rf (T : Nat → Int) (n : Nat) (V0 V : Nat → Nat → Int32) : Prop := (∀ u, u ≠ 22 → u ≠ 27 → u ≠ 30 → V u = V0 u) ∧ (∀ k, k < 4 ∨ 10 < k → V 30 k = V0 30 k) ∧ z_GT T n V
def y_Rt (T : Nat → Int) (n : Nat) (V : Nat → Nat → Int32) (p q : Nat) (kd : Int) : Prop := V 30 4 = zI q ∧ V 30 5 = zI p ∧ V 30 6 = zI (y_rk kd) ∧ V 30 8 = zI (if kd = 1 then ((q - p : Nat) : Int) else 0) ∧ V 30 7 = zI (if kd = 2 then y_rv T p (q - p) else 0) ∧ ∃ r, z_tok T n r p q kd
def y_Rg (b : Int) (T : Nat → Int) (n : Nat) (V0 : Nat → Nat → Int32) (s g : Nat → Int) (p q : Nat) (kd : Int) (V : Nat → Nat → Int32) : Prop := y_Rf T n V0 V ∧ y_Rt T n V p q kd ∧ V 30 9 = zI 0 ∧ V 30 10 = zI (-1) ∧ (∀ k, k < 251 → V 22 k = zI (g k)) ∧ z_PI b s g
def y_Re (T : Nat → Int) (n : Nat) (V0 : Nat → Nat → Int32) (c : Int) (x : Int32) (V : Nat → Nat → Int32) : Prop := y_Rf T n V0 V ∧ (∃ p q kd, y_Rt T n V p q kd) ∧ V 30 9 = zI c ∧ V 30 10 = x ∧ (1 ≤ c ∧ c ≤ 6)
theorem y_Rg_b (h : y_Rg b T n V0 s g p q kd V) : p ≤ q ∧ q ≤ n ∧ n ≤ 600 ∧ (0 ≤ kd ∧ kd ≤ 4) ∧ (kd = 0 → p = n ∧ q = n) ∧ (kd ≠ 0 → p < q) := by
  obtain ⟨r, t⟩ := h.2.1.2.2.2.2.2
  have := y_tkb t
  exact ⟨this.1, this.2.1, h.1.2.2.2.2.1, this.2.2⟩
theorem y_ra (h : y_Rg b T n V0 s g p q kd V) (t : z_tok T n q p' q' kd') : ∃ V', f_X10_next V = some V' ∧ y_Rg b T n V0 s g p' q' kd' V' := by
  obtain ⟨a1, a2, a3, a4, a5, a6⟩ := h
  obtain ⟨V', e, f1, f2, f3, f4, f5, f6, f7⟩ := y_Gadv a1.2.2 a2.1 t
  refine ⟨V', ?_, ⟨fun u x y z => by rw [f1 u z]; exact a1.1 u x y z, fun k hk => by rw [f2 k (by omega)]; exact a1.2.1 k hk, fun k hk => by rw [f1 28 (by omega)]; exact a1.2.2.1 k hk, a1.2.2.2.1, a1.2.2.2.2.1, by rw [f2 3 (by omega)]; exact a1.2.2.2.2.2⟩, ⟨f3, f4, f5, f6, f7, q, t⟩, by rw [f2 9 (by omega)]; exact a3, by rw [f2 10 (by omega)]; exact a4, fun k hk => by rw [f1 22 (by omega)]; exact a5 k hk, a6⟩
  unfold f_X10_next
  rw [a3, z_l0, if_pos rfl, e, z_bdc]
theorem y_rf (h : y_Rg b T n V0 s g p q kd V) {c : Int} (hc : 1 ≤ c ∧ c ≤ 6) : ∃ V', f_X10_check V (zI 0) (zI c) = some (zI 0, V') ∧ y_Re T n V0 c (zI p) V' := by
  obtain ⟨a1, a2, a3, a4, a5, a6⟩ := h
  have k5 : w2 V 30 9 (zI c) 30 5 = zI p := by rw [z_w2k (by omega)]; exact a2.2.1
  refine ⟨w2 (w2 V 30 9 (zI c)) 30 10 (zI p), ?_, ⟨fun u x y z => by rw [z_w2u z, z_w2u z]; exact a1.1 u x y z, fun k hk => by rw [z_w2k (by omega), z_w2k (by omega)]; exact a1.2.1 k hk, z_GT_2 (z_GT_2 a1.2.2 (by omega)) (by omega)⟩, ⟨p, q, kd, ?_⟩, by rw [z_w2k (by omega), z_w2e], z_w2e, hc⟩
  · unfold f_X10_check
    rw [a3, z_l0, if_pos rfl, if_pos rfl, z_bnd, k5, z_bnd, z_w2k (by omega), z_w2e, z_eqF (by omega) (by omega) (by omega) (by omega) (by omega)]
  · obtain ⟨b1, b2, b3, b4, b5, b6⟩ := a2
    exact ⟨by rw [z_w2k (by omega), z_w2k (by omega)]; exact b1, by rw [z_w2k (by omega), z_w2k (by omega)]; exact b2, by rw [z_w2k (by omega), z_w2k (by omega)]; exact b3, by rw [z_w2k (by omega), z_w2k (by omega)]; exact b4, by rw [z_w2k (by omega), z_w2k (by omega)]; exact b5, b6⟩
theorem y_rc (h : y_Rg b T n V0 s g p q kd V) (d : Int32) : f_X10_check V (zI 1) d = some (zI 1, V) := by
  unfold f_X10_check
  rw [h.2.2.1, z_l0, if_pos rfl, z_eqF (by omega) (by omega) (by omega) (by omega) (by omega), if_pos rfl, z_l1]
theorem y_rx (h : y_Re T n V0 c x V) (v d : Int32) : f_X10_check V v d = some (zI 0, V) := by
  unfold f_X10_check
  rw [h.2.2.1, z_l0, z_eqF (by have := h.2.2.2.2; omega) (by have := h.2.2.2.2; omega) (by have := h.2.2.2.2; omega) (by omega) (by omega), z_eqF (by have := h.2.2.2.2; omega) (by have := h.2.2.2.2; omega) (by have := h.2.2.2.2; omega) (by omega) (by omega)]
theorem y_rn (h : y_Re T n V0 c x V) : f_X10_next V = some V := by
  unfold f_X10_next
  rw [h.2.2.1, z_l0, z_eqF (by have := h.2.2.2.2; omega) (by have := h.2.2.2.2; omega) (by have := h.2.2.2.2; omega) (by omega) (by omega)]
theorem y_r9 (h : y_Re T n V0 c x V) {A : Type} (X Y : A) : (if V 30 9 = 0 then X else Y) = Y := by
  rw [h.2.2.1, z_l0, z_eqF (by have := h.2.2.2.2; omega) (by have := h.2.2.2.2; omega) (by have := h.2.2.2.2; omega) (by omega) (by omega)]
theorem y_r0 (h : y_Rg b T n V0 s g p q kd V) {A : Type} (X Y : A) : (if V 30 9 = 0 then X else Y) = X := by
  rw [h.2.2.1, z_l0, if_pos rfl]
theorem y_rk3 {kd : Int} (h : 0 ≤ kd ∧ kd ≤ 4) : (y_rk kd = 3 ↔ kd = 1) ∧ (y_rk kd = 2 ↔ kd = 2) ∧ (y_rk kd = 1 ↔ kd = 3 ∨ kd = 4) ∧ (y_rk kd = 0 ↔ kd = 0) ∧ (0 ≤ y_rk kd ∧ y_rk kd ≤ 3) := by
  unfold y_rk
  split
  · omega
  · split
    · omega
    · split <;> omega
/-- looking at a station's name -/
theorem y_lke (h : y_Re T n V0 c x V) : f_X10_look V = some (zI 0, V) := by
  unfold f_X10_look
  rw [z_jn]
  have e : ∀ v2 : Int32, (bd2 (f_X10_check V v2 (1 : Int32)) (fun v5 W4 => jn (fun (v7 : Int32) => jn (fun (v11 : Int32) => bd2 (f_X10_check W4 v11 (4 : Int32)) (fun v15 W14 => if (W14 30 9) = 0 then some (v7, W14) else some ((0 : Int32), W14))) (fun j10 => if (W4 30 9) = 0 then if v7 = (-1 : Int32) then j10 (0 : Int32) else j10 (1 : Int32) else j10 (1 : Int32))) (fun j6 => if (W4 30 9) = 0 then bdc (f_X10_named W4) (fun v9 => j6 v9) else j6 (0 : Int32)))) = some (zI 0, V) := fun v2 => by
    rw [y_rx h, z_bd2, z_jn, y_r9 h]
    dsimp only
    rw [z_jn, y_r9 h]
    dsimp only
    rw [y_rx h, z_bd2, y_r9 h, z_l0]
  split
  · exact e 1
  · exact e 0
theorem y_lk (h : y_Rg b T n V0 s g p q kd V) :
    (kd ≠ 1 → ∃ V', f_X10_look V = some (zI 0, V') ∧ y_Re T n V0 1 (zI p) V') ∧
    (kd = 1 → y_st T s p q = -1 → ∃ V', f_X10_look V = some (zI 0, V') ∧ y_Re T n V0 4 (zI p) V') ∧
    (kd = 1 → y_st T s p q ≠ -1 → f_X10_look V = some (zI (y_st T s p q), V)) := by
  have hb := y_Rg_b h
  have k3 := y_rk3 hb.2.2.2.1
  have sb := y_st_b (T := T) (p := p) (q := q) h.2.2.2.2.2
  have c1 := h.2.2.2.2.2.1.1.2.1
  obtain ⟨r, t⟩ := h.2.1.2.2.2.2.2
  unfold f_X10_look
  rw [z_jn, h.2.1.2.2.1, show (3 : Int32) = zI 3 from z_lit 3]
  refine ⟨fun e => ?_, fun e d => ?_, fun e d => ?_⟩
  · rw [z_eqF (by omega) (by omega) (by omega) (by omega) (by omega)]
    obtain ⟨V', f1, f2⟩ := y_rf h (c := 1) (by omega)
    refine ⟨V', ?_, f2⟩
    dsimp only
    rw [z_l0, z_l1, f1, z_bd2, z_jn, ← z_l0, y_r9 f2]
    dsimp only
    rw [z_jn, y_r9 f2]
    dsimp only
    rw [y_rx f2, z_bd2, y_r9 f2]
  all_goals
    subst e
    have nd := y_Gnd h.1.2.2 h.2.2.2.2.2.1 h.2.2.2.2.2.2.1 h.2.2.2.2.1 h.2.1.2.1 (by rw [h.2.1.2.2.2.1, if_pos rfl]) (y_tkw t)
    rw [show z_oi (y_fs s (y_wn T p q)) = y_st T s p q from rfl] at nd
    rw [z_eqT (by omega)]
    dsimp only
    rw [show (1 : Int32) = zI 1 from z_l1, y_rc h, z_bd2, z_jn, y_r0 h, nd, z_bdc]
    dsimp only
    rw [z_jn, y_r0 h]
  · obtain ⟨V', f1, f2⟩ := y_rf h (c := 4) (by omega)
    refine ⟨V', ?_, f2⟩
    rw [if_pos (by rw [d]; rfl), show (4 : Int32) = zI 4 from z_lit 4, z_l0]
    dsimp only
    rw [f1, z_bd2, ← z_l0, y_r9 f2]
  · rw [show (-zI 1 : Int32) = zI (-1) from rfl, z_eqF d (by omega) (by omega) (by omega) (by omega)]
    dsimp only
    rw [y_rc h, z_bd2, y_r0 h]
theorem y_ste (h : y_Re T n V0 c x V) : f_X10_station V = some (zI 0, V) := by
  unfold f_X10_station
  rw [y_lke h, z_bd2, y_rn h, z_bdc]
theorem y_nue (h : y_Re T n V0 c x V) (lo hi : Int32) : f_X10_number V lo hi = some (lo, V) := by
  unfold f_X10_number
  have ib : ∃ v, f_X10_isBetween (V 30 7) lo hi = some v := by
    unfold f_X10_isBetween
    split <;> (try split) <;> exact ⟨_, rfl⟩
  obtain ⟨v, ib⟩ := ib
  rw [z_jn]
  have e : ∀ v2 : Int32, (bd2 (f_X10_check V v2 (1 : Int32)) (fun v5 W4 => bdc (f_X10_isBetween (W4 30 7) lo hi) (fun v6 => bd2 (f_X10_check W4 v6 (2 : Int32)) (fun v8 W7 => if (W7 30 9) = 0 then bnd (W7 30 7) (fun v11 => bdc (f_X10_next W7) (fun W12 => some (v11, W12))) else bdc (f_X10_next W7) (fun W10 => some (lo, W10)))))) = some (lo, V) := fun v2 => by
    rw [y_rx h, z_bd2, ib, z_bdc, y_rx h, z_bd2, y_r9 h, y_rn h, z_bdc]
  split
  · exact e 1
  · exact e 0
theorem y_nu (h : y_Rg b T n V0 s g p q kd V) (t : z_tok T n q p' q' kd') {lo hi : Int} (hl : 0 ≤ lo ∧ lo ≤ 60) (hh : 0 ≤ hi ∧ hi ≤ 60) :
    (kd ≠ 2 → ∃ v V', f_X10_number V (zI lo) (zI hi) = some (v, V') ∧ y_Re T n V0 1 (zI p) V') ∧
    (kd = 2 → ¬ (lo ≤ y_cv T p (q - p) ∧ y_cv T p (q - p) ≤ hi) → ∃ v V', f_X10_number V (zI lo) (zI hi) = some (v, V') ∧ y_Re T n V0 2 (zI p) V') ∧
    (kd = 2 → (lo ≤ y_cv T p (q - p) ∧ y_cv T p (q - p) ≤ hi) → ∃ V', f_X10_number V (zI lo) (zI hi) = some (zI (y_cv T p (q - p)), V') ∧ y_Rg b T n V0 s g p' q' kd' V') := by
  have hb := y_Rg_b h
  have k3 := y_rk3 hb.2.2.2.1
  obtain ⟨r, t0⟩ := h.2.1.2.2.2.2.2
  unfold f_X10_number
  rw [z_jn, h.2.1.2.2.1, z_l2]
  refine ⟨fun e => ?_, fun e d => ?_, fun e d => ?_⟩
  · rw [z_eqF (by omega) (by omega) (by omega) (by omega) (by omega)]
    obtain ⟨V', f1, f2⟩ := y_rf h (c := 1) (by omega)
    refine ⟨zI lo, V', ?_, f2⟩
    dsimp only
    have ib : ∃ v, f_X10_isBetween (V' 30 7) (zI lo) (zI hi) = some v := by
      unfold f_X10_isBetween
      split <;> (try split) <;> exact ⟨_, rfl⟩
    obtain ⟨v, ib⟩ := ib
    rw [z_l0, z_l1, f1, z_bd2, ib, z_bdc, y_rx f2, z_bd2, ← z_l0, y_r9 f2, y_rn f2, z_bdc]
  all_goals
    subst e
    have hr := y_tkd t0
    have vb := y_cv_b (T := T) (p := p) (q - p) (fun k a b => hr.2.2.1 k a (by omega))
    have rb := y_rv_b (T := T) (p := p) (q - p) (fun k a b => hr.2.2.1 k a (by omega))
    have ib := z_Gib (x := y_rv T p (q - p)) (lo := lo) (hi := hi) (by omega) (by omega) (by omega)
    have e7 : V 30 7 = zI (y_rv T p (q - p)) := by rw [h.2.1.2.2.2.2.1, if_pos rfl]
    rw [z_eqT (by omega)]
    dsimp only
    rw [show (1 : Int32) = zI 1 from z_l1, y_rc h, z_bd2, e7]
  · obtain ⟨V', f1, f2⟩ := y_rf h (c := 2) (by omega)
    refine ⟨zI lo, V', ?_, f2⟩
    rw [ib.2 (by unfold z_in; omega), z_bdc, f1, z_bd2, y_r9 f2, y_rn f2, z_bdc]
  · obtain ⟨V', f1, f2⟩ := y_ra h t
    refine ⟨V', ?_, f2⟩
    rw [ib.1 (by unfold z_in; omega), z_bdc, y_rc h, z_bd2, y_r0 h, z_bnd, e7, f1, z_bdc]
    have : y_rv T p (q - p) = y_cv T p (q - p) := by omega
    rw [this]
theorem y_fie (h : y_Re T n V0 c x V) : f_X10_finish V = some V := by
  obtain ⟨p, q, kd, b1, b2, b3, b4, b5, r, t⟩ := h.2.1
  have tb := y_tkb t
  have k3 := y_rk3 tb.2.2.1
  have hn := h.1.2.2.2.2.1
  unfold f_X10_finish
  rw [b3, z_l1]
  by_cases e : y_rk kd = 1
  · rw [z_eqT e, b2, z_inr (by omega) (by omega) (by omega), z_gd]
    split
    · rw [y_rx h, z_bd2, y_rn h, z_bdc]
    · rw [y_rx h, z_bd2, y_rn h, z_bdc]
  · rw [z_eqF e (by omega) (by omega) (by omega) (by omega), y_rx h, z_bd2, y_rn h, z_bdc]
theorem y_fi (h : y_Rg b T n V0 s g p q kd V) (t : z_tok T n q p' q' kd') : (kd ≠ 3 → ∃ V', f_X10_finish V = some V' ∧ y_Re T n V0 1 (zI p) V') ∧ (kd = 3 → ∃ V', f_X10_finish V = some V' ∧ y_Rg b T n V0 s g p' q' kd' V') := by
  have hb := y_Rg_b h
  have k3 := y_rk3 hb.2.2.2.1
  obtain ⟨r, t0⟩ := h.2.1.2.2.2.2.2
  unfold f_X10_finish
  rw [h.2.1.2.2.1, h.2.1.2.1, z_l1]
  have hT : p < 600 → V 28 p = zI (T p) := fun k => h.1.2.2.1 p k
  have hv := h.1.2.2.2.1 p
  refine ⟨fun e => ?_, fun e => ?_⟩
  · obtain ⟨V', f1, f2⟩ := y_rf h (c := 1) (by omega)
    refine ⟨V', ?_, f2⟩
    by_cases d : kd = 4
    · have e59 : T p ≠ 59 := by
        rcases t0.2.2 with ⟨d1, d2, d3⟩ | ⟨d1, d2, d3⟩
        · omega
        · rcases d3 with ⟨f1, f2⟩ | ⟨f1, f2⟩ | ⟨f1, f2, f3⟩ | ⟨f1, f2, f3, f4, f5⟩
          · omega
          · omega
          · omega
          · exact f4
      rw [z_eqT (by omega), z_inr (by omega) (by omega) (by omega), z_gd, z_ixn (by omega), hT (by omega), show (59 : Int32) = zI 59 from z_lit 59, z_eqF e59 (by omega) (by omega) (by omega) (by omega), z_l0, f1, z_bd2, y_rn f2, z_bdc]
    · rw [z_eqF (by omega) (by omega) (by omega) (by omega) (by omega), z_l0, f1, z_bd2, y_rn f2, z_bdc]
  · obtain ⟨V', f1, f2⟩ := y_ra h t
    have e59 : T p = 59 := by
      rcases t0.2.2 with ⟨d1, d2, d3⟩ | ⟨d1, d2, d3⟩
      · omega
      · rcases d3 with ⟨f1, f2⟩ | ⟨f1, f2⟩ | ⟨f1, f2, f3⟩ | ⟨f1, f2, f3, f4, f5⟩
        · omega
        · omega
        · exact f2
        · omega
    refine ⟨V', ?_, f2⟩
    rw [z_eqT (by omega), z_inr (by omega) (by omega) (by omega), z_gd, z_ixn (by omega), hT (by omega), show (59 : Int32) = zI 59 from z_lit 59, z_eqT e59, y_rc h, z_bd2, f1, z_bdc]
end Pc
