def y_rk (kd : Int) : Int := if kd = 0 then 0 else if kd = 1 then 3 else if kd = 2 then 2 else 1
def y_rv (T : Nat → Int) (p : Nat) : Nat → Int
  | 0 => 0
  | m + 1 => if y_rv T p m ≤ 99999999 then 10 * y_rv T p m + T (p + m) - 48 else y_rv T p m
def y_cv (T : Nat → Int) (p : Nat) : Nat → Int
  | 0 => 0
  | m + 1 => if y_cv T p m * 10 + T (p + m) - 48 < 1000 then y_cv T p m * 10 + T (p + m) - 48 else 1000
def y_Gtk (T : Nat → Int) (V V' : Nat → Nat → Int32) (p q : Nat) (kd : Int) : Prop := (∀ u, u ≠ 30 → V' u = V u) ∧ (∀ k, k < 4 ∨ 8 < k → V' 30 k = V 30 k) ∧ V' 30 4 = zI q ∧ V' 30 5 = zI p ∧ V' 30 6 = zI (y_rk kd) ∧ V' 30 8 = zI (if kd = 1 then ((q - p : Nat) : Int) else 0) ∧ V' 30 7 = zI (if kd = 2 then y_rv T p (q - p) else 0)
section Adw
variable {W W' V V' : Nat → Nat → Int32} {T : Nat → Int} {n r p q : Nat} {kd : Int}
theorem y_rv_b : ∀ m, (∀ k, p ≤ k → k < p + m → z_in 48 57 (T k)) → 0 ≤ y_rv T p m ∧ y_rv T p m ≤ 999999999
  | 0, _ => by unfold y_rv; omega
  | m + 1, h => by
    have := y_rv_b m (fun k a b => h k a (by omega))
    have c := h (p + m) (by omega) (by omega)
    unfold z_in at c
    rw [y_rv]
    split <;> omega
theorem y_cv_b : ∀ m, (∀ k, p ≤ k → k < p + m → z_in 48 57 (T k)) → (0 ≤ y_cv T p m ∧ y_cv T p m ≤ 1000) ∧ ((y_cv T p m = y_rv T p m ∧ y_cv T p m < 1000) ∨ (y_cv T p m = 1000 ∧ 1000 ≤ y_rv T p m))
  | 0, _ => by unfold y_cv y_rv; omega
  | m + 1, h => by
    have a := y_cv_b m (fun k a b => h k a (by omega))
    have b := y_rv_b m (fun k a b => h k a (by omega))
    have c := h (p + m) (by omega) (by omega)
    unfold z_in at c
    rw [y_cv, y_rv]
    split <;> split <;> omega
theorem y_Gw {p0 : Nat} (hr : z_rn T n 97 122 p0 q) : ∀ d N (V : Nat → Nat → Int32) (m : Nat) (l : Int), z_GT T n V → m + d = q → p0 ≤ m → V 30 4 = zI m → V 30 8 = zI l → d < N → ∃ V', l_X10_advance_95 N V = some V' ∧ (∀ u, u ≠ 30 → V' u = V u) ∧ (∀ k, k ≠ 4 → k ≠ 8 → V' 30 k = V 30 k) ∧ V' 30 4 = zI q ∧ V' 30 8 = zI (l + d) := by
  obtain ⟨r1, r2, r3, r4⟩ := hr
  intro d
  induction d with
  | zero =>
    intro N V m l h hm hp h4 h8 hN
    obtain ⟨M, rfl⟩ : ∃ M, N = M + 1 := ⟨N - 1, by omega⟩
    obtain rfl : m = q := by omega
    have hn := h.2.2.1
    refine ⟨V, ?_, fun _ _ => rfl, fun _ _ _ => rfl, h4, by rw [h8]; congr 1; omega⟩
    rw [l_X10_advance_95, h4, show (97 : Int32) = zI 97 from z_lit 97, show (122 : Int32) = zI 122 from z_lit 122]
    by_cases e : m = n
    · rw [z_Gbx h (by omega) (by omega), z_bdc, (z_Gib (by omega) (by omega) (by omega)).2 (by unfold z_in; omega), z_bdc, z_l0, if_pos rfl]
    · have c : ¬ z_in 97 122 (T m) := by
        rcases r4 with c | c
        · exact absurd c e
        · exact c
      have hT := h.2.1 m
      rw [z_Gby h (by omega), z_bdc, (z_Gib (by omega) (by omega) (by omega)).2 c, z_bdc, z_l0, if_pos rfl]
  | succ d ih =>
    intro N V m l h hm hp h4 h8 hN
    obtain ⟨M, rfl⟩ : ∃ M, N = M + 1 := ⟨N - 1, by omega⟩
    have hn := h.2.2.1
    have hT := h.2.1 m
    obtain ⟨V', e1, e2, e3, e4, e5⟩ := ih M (w2 (w2 V 30 8 (zI (l + 1))) 30 4 (zI ((m : Int) + 1))) (m + 1) (l + 1) (z_GT_2 (z_GT_2 h (by omega)) (by omega)) (by omega) (by omega) z_w2e (by rw [z_w2k (by omega), z_w2e]) (by omega)
    refine ⟨V', ?_, fun u hu => by rw [e2 u hu, z_w2u hu, z_w2u hu], fun k a b => by rw [e3 k a b, z_w2k a, z_w2k b], e4, by rw [e5]; congr 1; omega⟩
    rw [l_X10_advance_95, h4, show (97 : Int32) = zI 97 from z_lit 97, show (122 : Int32) = zI 122 from z_lit 122]
    rw [z_Gby h (by omega), z_bdc, (z_Gib (by omega) (by omega) (by omega)).1 (r3 m hp (by omega)), z_bdc, z_l0, z_eqF (by omega) (by omega) (by omega) (by omega) (by omega), z_bnd, z_bnd, h8, z_l1, z_add, z_w2k (by omega), h4, z_add]
    exact e1
theorem y_Gd {p0 : Nat} (hr : z_rn T n 48 57 p0 q) : ∀ d N (V : Nat → Nat → Int32) (m : Nat), z_GT T n V → m + d = q → p0 ≤ m → V 30 4 = zI m → V 30 7 = zI (y_rv T p0 (m - p0)) → d < N → ∃ V', l_X10_advance_152 N V = some V' ∧ (∀ u, u ≠ 30 → V' u = V u) ∧ (∀ k, k ≠ 4 → k ≠ 7 → V' 30 k = V 30 k) ∧ V' 30 4 = zI q ∧ V' 30 7 = zI (y_rv T p0 (q - p0)) := by
  obtain ⟨r1, r2, r3, r4⟩ := hr
  intro d
  induction d with
  | zero =>
    intro N V m h hm hp h4 h7 hN
    obtain ⟨M, rfl⟩ : ∃ M, N = M + 1 := ⟨N - 1, by omega⟩
    obtain rfl : m = q := by omega
    have hn := h.2.2.1
    refine ⟨V, ?_, fun _ _ => rfl, fun _ _ _ => rfl, h4, h7⟩
    rw [l_X10_advance_152, h4, show (48 : Int32) = zI 48 from z_lit 48, show (57 : Int32) = zI 57 from z_lit 57]
    by_cases e : m = n
    · rw [z_Gbx h (by omega) (by omega), z_bdc, (z_Gib (by omega) (by omega) (by omega)).2 (by unfold z_in; omega), z_bdc, z_l0, if_pos rfl]
    · have c : ¬ z_in 48 57 (T m) := by
        rcases r4 with c | c
        · exact absurd c e
        · exact c
      have hT := h.2.1 m
      rw [z_Gby h (by omega), z_bdc, (z_Gib (by omega) (by omega) (by omega)).2 c, z_bdc, z_l0, if_pos rfl]
  | succ d ih =>
    intro N V m h hm hp h4 h7 hN
    obtain ⟨M, rfl⟩ : ∃ M, N = M + 1 := ⟨N - 1, by omega⟩
    have hn := h.2.2.1
    have hT := h.2.1 m
    have vb := y_rv_b (T := T) (p := p0) (m - p0) (fun k a b => r3 k a (by omega))
    have ev : y_rv T p0 (m + 1 - p0) = if y_rv T p0 (m - p0) ≤ 99999999 then 10 * y_rv T p0 (m - p0) + T m - 48 else y_rv T p0 (m - p0) := by
      rw [show m + 1 - p0 = (m - p0) + 1 by omega, y_rv, show p0 + (m - p0) = m by omega]
    obtain ⟨V', e1, e2, e3, e4, e5⟩ := ih M (w2 (w2 V 30 7 (zI (y_rv T p0 (m + 1 - p0)))) 30 4 (zI ((m : Int) + 1))) (m + 1) (z_GT_2 (z_GT_2 h (by omega)) (by omega)) (by omega) (by omega) z_w2e (by rw [z_w2k (by omega), z_w2e]) (by omega)
    refine ⟨V', ?_, fun u hu => by rw [e2 u hu, z_w2u hu, z_w2u hu], fun k a b => by rw [e3 k a b, z_w2k a, z_w2k b], e4, e5⟩
    rw [l_X10_advance_152, h4, show (48 : Int32) = zI 48 from z_lit 48, show (57 : Int32) = zI 57 from z_lit 57]
    rw [z_Gby h (by omega), z_bdc, (z_Gib (by omega) (by omega) (by omega)).1 (r3 m hp (by omega)), z_bdc, z_l0, z_eqF (by omega) (by omega) (by omega) (by omega) (by omega), h7, show (99999999 : Int32) = zI 99999999 from z_lit 99999999]
    by_cases c : y_rv T p0 (m - p0) ≤ 99999999
    · rw [if_pos c] at ev
      rw [z_leT c (by omega) (by omega), z_bdc, z_bnd, z_bnd, z_w2k (by omega), h4, z_l1, show (10 : Int32) = zI 10 from z_lit 10, z_mul, z_add, z_add, z_sub, ← ev]
      exact e1
    · rw [if_neg c] at ev
      rw [z_leF (by omega) (by omega) (by omega), z_bnd, z_bnd, z_w2k (by omega), h4, z_l1, z_add, ← ev]
      exact e1
theorem y_Gadv (h : z_GT T n V) (h4 : V 30 4 = zI r) (t : z_tok T n r p q kd) : ∃ V', f_X10_advance V = some V' ∧ y_Gtk T V V' p q kd := by
  obtain ⟨t1, t2, t3⟩ := t
  have hn := h.2.2.1
  have hp : p ≤ n := by rcases t3 with ⟨c, -⟩ | ⟨c, -⟩ <;> omega
  have hb : p = n ∨ ¬ z_bl (T p) := by
    rcases t3 with ⟨c, -⟩ | ⟨-, c, -⟩
    · exact Or.inl c
    · exact Or.inr c
  unfold f_X10_advance
  rw [z_Gskip hp hb (p - r) FU _ r h (by omega) h4 t2 (by unfold FU; omega)]
  rw [z_bnd, z_bnd, z_bnd, z_w2e, z_l0]
  have hX : ∃ X, w2 (w2 (w2 (w2 V 30 4 (zI p)) 30 5 (zI p)) 30 8 (zI 0)) 30 7 (zI 0) = X ∧ z_GT T n X ∧ (∀ u, u ≠ 30 → X u = V u) ∧ (∀ k, k < 4 ∨ 8 < k → X 30 k = V 30 k) ∧ X 30 4 = zI p ∧ X 30 5 = zI p ∧ X 30 8 = zI 0 ∧ X 30 7 = zI 0 :=
    ⟨_, rfl, z_GT_2 (z_GT_2 (z_GT_2 (z_GT_2 h (by omega)) (by omega)) (by omega)) (by omega), fun u hu => by rw [z_w2u hu, z_w2u hu, z_w2u hu, z_w2u hu], fun k hk => by rw [z_w2k (by omega), z_w2k (by omega), z_w2k (by omega), z_w2k (by omega)], by rw [z_w2k (by omega), z_w2k (by omega), z_w2k (by omega), z_w2e], by rw [z_w2k (by omega), z_w2k (by omega), z_w2e], by rw [z_w2k (by omega), z_w2e], z_w2e⟩
  obtain ⟨X, hX, g, xu, xk, x4, x5, x8, x7⟩ := hX
  rw [hX]
  clear hX
  rw [x4, show (97 : Int32) = zI 97 from z_lit 97, show (122 : Int32) = zI 122 from z_lit 122, show (48 : Int32) = zI 48 from z_lit 48, show (57 : Int32) = zI 57 from z_lit 57]
  have gX : ∀ v, z_GT T n (w2 X 30 6 v) := fun v => z_GT_2 g (by omega)
  have y4 : ∀ v, w2 X 30 6 v 30 4 = zI p := fun v => by rw [z_w2k (by omega)]; exact x4
  have y7 : ∀ v, w2 X 30 6 v 30 7 = zI 0 := fun v => by rw [z_w2k (by omega)]; exact x7
  have y8 : ∀ v, w2 X 30 6 v 30 8 = zI 0 := fun v => by rw [z_w2k (by omega)]; exact x8
  have y5 : ∀ v, w2 X 30 6 v 30 5 = zI p := fun v => by rw [z_w2k (by omega)]; exact x5
  have yu : ∀ v u, u ≠ 30 → w2 X 30 6 v u = V u := fun v u hu => by rw [z_w2u hu, xu u hu]
  have yk : ∀ v k, k < 4 ∨ 8 < k → w2 X 30 6 v 30 k = V 30 k := fun v k hk => by rw [z_w2k (by omega), xk k hk]
  have y6 : ∀ v, w2 X 30 6 v 30 6 = v := fun v => z_w2e
  rcases t3 with ⟨c1, c2, c3⟩ | ⟨c1, c2, c3⟩
  · rw [z_Gbx g (by omega) (by omega), z_bdc, show (-1 : Int32) = zI (-1) from rfl, if_pos rfl, z_bnd]
    refine ⟨_, rfl, yu _, yk _, ?_, y5 _, ?_, ?_, ?_⟩
    · rw [y4, c1, c2]
    · rw [y6, c3]
      rfl
    · rw [y8, c3]
      rfl
    · rw [y7, c3]
      rfl
  · have hT := h.2.1 p
    rw [z_Gby g c1, z_bdc, show (-1 : Int32) = zI (-1) from rfl, z_eqF (by omega) (by omega) (by omega) (by omega) (by omega)]
    have i1 := z_Gib (x := T p) (lo := 97) (hi := 122) (by omega) (by omega) (by omega)
    have i2 := z_Gib (x := T p) (lo := 48) (hi := 57) (by omega) (by omega) (by omega)
    rcases c3 with ⟨d1, d2⟩ | ⟨d1, d2⟩ | ⟨d1, d2, d3⟩ | ⟨d1, d2, d3, d4, d5⟩
    · have e := d2.2.2.1 p (by omega) d2.1
      have l1 := d2.1
      have l2 := d2.2.1
      obtain ⟨V', f1, f2, f3, f4, f5⟩ := y_Gw d2 (q - p) FU (w2 X 30 6 (zI 3)) p 0 (gX _) (by omega) (by omega) (y4 _) (y8 _) (by unfold FU; omega)
      refine ⟨V', ?_, fun u hu => by rw [f2 u hu, yu _ u hu], fun k hk => by rw [f3 k (by omega) (by omega), yk _ k hk], f4, ?_, ?_, ?_, ?_⟩
      · rw [i1.1 e, z_bdc, z_eqF (by omega) (by omega) (by omega) (by omega) (by omega), z_bnd, show (3 : Int32) = zI 3 from z_lit 3]
        exact f1
      · rw [f3 5 (by omega) (by omega), y5]
      · rw [f3 6 (by omega) (by omega), y6, d1]
        rfl
      · rw [f5, d1, if_pos rfl, Int.zero_add]
      · rw [f3 7 (by omega) (by omega), y7, d1, if_neg (by omega)]
    · have e := d2.2.2.1 p (by omega) d2.1
      have e' : ¬ z_in 97 122 (T p) := by unfold z_in at e ⊢; omega
      have l1 := d2.1
      have l2 := d2.2.1
      obtain ⟨V', f1, f2, f3, f4, f5⟩ := y_Gd d2 (q - p) FU (w2 X 30 6 (zI 2)) p (gX _) (by omega) (by omega) (y4 _) (by rw [y7, Nat.sub_self, y_rv]) (by unfold FU; omega)
      refine ⟨V', ?_, fun u hu => by rw [f2 u hu, yu _ u hu], fun k hk => by rw [f3 k (by omega) (by omega), yk _ k hk], f4, ?_, ?_, ?_, ?_⟩
      · rw [i1.2 e', z_bdc, if_pos rfl, i2.1 e, z_bdc, z_eqF (by omega) (by omega) (by omega) (by omega) (by omega), z_bnd, z_l2]
        exact f1
      · rw [f3 5 (by omega) (by omega), y5]
      · rw [f3 6 (by omega) (by omega), y6, d1]
        rfl
      · rw [f3 8 (by omega) (by omega), y8, d1, if_neg (by omega)]
      · rw [f5, d1, if_pos rfl]
    all_goals
      have e1 : ¬ z_in 97 122 (T p) := by first | assumption | (unfold z_in; omega)
      have e2 : ¬ z_in 48 57 (T p) := by first | assumption | (unfold z_in; omega)
      rw [i1.2 e1, z_bdc, if_pos rfl, i2.2 e2, z_bdc, if_pos rfl, z_bnd, z_bnd, y4, z_l1, z_add]
      refine ⟨_, rfl, fun u hu => by rw [z_w2u hu, yu _ u hu], fun k hk => by rw [z_w2k (by omega), yk _ k hk], ?_, ?_, ?_, ?_, ?_⟩
      · rw [z_w2e, show q = p + 1 by assumption]
        rfl
      · rw [z_w2k (by omega), y5]
      · rw [z_w2k (by omega), y6, d1]
        rfl
      · rw [z_w2k (by omega), y8, d1, if_neg (by omega)]
      · rw [z_w2k (by omega), y7, d1, if_neg (by omega)]
end Adw
