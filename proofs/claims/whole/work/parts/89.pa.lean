/-! the class's parser when a fault has been noted -/
section Pa
variable {W W' W0 V V' : Nat → Nat → Int32} {T : Nat → Int} {n r p q : Nat} {kd : Int} {s g : Nat → Int} {b : Int}
/-- what the class's parser leaves alone, and the text -/
def y_Cf (T : Nat → Int) (n : Nat) (W0 W : Nat → Nat → Int32) : Prop := (∀ u, u ≠ 2 → u ≠ 13 → u ≠ 14 → u ≠ 15 → W u = W0 u) ∧ z_CT T n W
def y_Ctk2 (T : Nat → Int) (n : Nat) (W : Nat → Nat → Int32) (p q : Nat) (kd : Int) : Prop := W 15 2 = zI p ∧ W 15 3 = zI q ∧ W 15 1 = zI kd ∧ ∃ r, z_tok T n r p q kd
def y_Ce (b : Int) (T : Nat → Int) (n : Nat) (W0 : Nat → Nat → Int32) (s g : Nat → Int) (c : Int) (x : Int32) (W : Nat → Nat → Int32) : Prop := y_Cf T n W0 W ∧ (∃ p q kd, y_Ctk2 T n W p q kd) ∧ W 13 0 = zI c ∧ W 13 1 = x ∧ (1 ≤ c ∧ c ≤ 6) ∧ W 2 = zV s ∧ z_PI b s g
theorem y_tkb (h : z_tok T n r p q kd) : p ≤ q ∧ q ≤ n ∧ (0 ≤ kd ∧ kd ≤ 4) ∧ (kd = 0 → p = n ∧ q = n) ∧ (kd ≠ 0 → p < q) := by
  rcases h.2.2 with ⟨d1, d2, d3⟩ | ⟨d1, d2, d3⟩
  · omega
  · rcases d3 with ⟨f1, f2⟩ | ⟨f1, f2⟩ | ⟨f1, f2, f3⟩ | ⟨f1, f2, f3, f4, f5⟩
    · have := f2.1; have := f2.2.1; omega
    · have := f2.1; have := f2.2.1; omega
    · omega
    · omega
theorem y_tkw (h : z_tok T n r p q 1) : z_rn T n 97 122 p q := by
  rcases h.2.2 with ⟨d1, d2, d3⟩ | ⟨d1, d2, d3⟩
  · omega
  · rcases d3 with ⟨f1, f2⟩ | ⟨f1, f2⟩ | ⟨f1, f2, f3⟩ | ⟨f1, f2, f3, f4, f5⟩
    · exact f2
    all_goals omega
theorem y_tkd (h : z_tok T n r p q 2) : z_rn T n 48 57 p q := by
  rcases h.2.2 with ⟨d1, d2, d3⟩ | ⟨d1, d2, d3⟩
  · omega
  · rcases d3 with ⟨f1, f2⟩ | ⟨f1, f2⟩ | ⟨f1, f2, f3⟩ | ⟨f1, f2, f3, f4, f5⟩
    · omega
    · exact f2
    all_goals omega
theorem y_Cf_tk (h : y_Cf T n W0 W) : y_Cf T n W0 (y_Ctk W p q kd) := by
  unfold y_Ctk
  exact ⟨fun u a b c d => by rw [z_w2u d, z_w2u d, z_w2u d]; exact h.1 u a b c d, z_CT_2 (z_CT_2 (z_CT_2 h.2 (by omega)) (by omega)) (by omega)⟩
theorem y_Ctk_u {u : Nat} (h : u ≠ 15) : y_Ctk W p q kd u = W u := by
  unfold y_Ctk
  rw [z_w2u h, z_w2u h, z_w2u h]
theorem y_Ctk_t (t : z_tok T n r p q kd) : y_Ctk2 T n (y_Ctk W p q kd) p q kd := by
  unfold y_Ctk
  exact ⟨by rw [z_w2k (by omega), z_w2k (by omega), z_w2e], z_w2e, by rw [z_w2k (by omega), z_w2e], r, t⟩
theorem y_Cf_13 (h : y_Cf T n W0 W) {k : Nat} {v : Int32} : y_Cf T n W0 (w2 W 13 k v) := ⟨fun u a b c d => by rw [z_w2u b]; exact h.1 u a b c d, fun k hk => by rw [z_w2u (by omega)]; exact h.2.1 k hk, h.2.2.1, h.2.2.2.1, by rw [z_w2u (by omega)]; exact h.2.2.2.2⟩
theorem y_Cf_14 (h : y_Cf T n W0 W) {k : Nat} {v : Int32} : y_Cf T n W0 (w2 W 14 k v) := ⟨fun u a b c d => by rw [z_w2u c]; exact h.1 u a b c d, fun k hk => by rw [z_w2u (by omega)]; exact h.2.1 k hk, h.2.2.1, h.2.2.2.1, by rw [z_w2u (by omega)]; exact h.2.2.2.2⟩
theorem y_Ctk2_u (h : y_Ctk2 T n W p q kd) (e : W' 15 = W 15) : y_Ctk2 T n W' p q kd := by
  unfold y_Ctk2
  rw [e]
  exact h
theorem y_Ce_13 {c : Int} {x : Int32} (h : y_Ce b T n W0 s g c x W) {k : Nat} (hk : 2 ≤ k) {v : Int32} : y_Ce b T n W0 s g c x (w2 W 13 k v) := by
  obtain ⟨a1, ⟨p, q, kd, a2⟩, a3, a4, a5, a6, a7⟩ := h
  exact ⟨y_Cf_13 a1, ⟨p, q, kd, y_Ctk2_u a2 (z_w2u (by omega))⟩, by rw [z_w2k (by omega)]; exact a3, by rw [z_w2k (by omega)]; exact a4, a5, by rw [z_w2u (by omega)]; exact a6, a7⟩
/-- total, and what is noted stays -/
def y_T (P : (Nat → Nat → Int32) → Prop) (f : (Nat → Nat → Int32) → Option (Nat → Nat → Int32)) : Prop := ∀ W, P W → ∃ W', f W = some W' ∧ P W'
def y_T2 (P : (Nat → Nat → Int32) → Prop) (f : (Nat → Nat → Int32) → Option (Int32 × (Nat → Nat → Int32))) : Prop := ∀ W, P W → ∃ v W', f W = some (v, W') ∧ P W'
variable {P : (Nat → Nat → Int32) → Prop}
theorem y_T_b {f K} (h : y_T P f) (k : y_T P K) : y_T P (fun W => bdc (f W) K) := fun W w => by
  obtain ⟨W1, e1, w1⟩ := h W w
  obtain ⟨W2, e2, w2'⟩ := k W1 w1
  refine ⟨W2, ?_, w2'⟩
  dsimp only
  rw [e1, z_bdc, e2]
theorem y_T_2 {f} {K : Int32 → (Nat → Nat → Int32) → Option (Nat → Nat → Int32)} (h : y_T2 P f) (k : ∀ v, y_T P (K v)) : y_T P (fun W => bd2 (f W) K) := fun W w => by
  obtain ⟨v, W1, e1, w1⟩ := h W w
  obtain ⟨W2, e2, w2'⟩ := k v W1 w1
  refine ⟨W2, ?_, w2'⟩
  dsimp only
  rw [e1, z_bd2, e2]
theorem y_T_s : y_T P (fun W => some W) := fun W w => ⟨W, rfl, w⟩
theorem y_T_n {f : (Nat → Nat → Int32) → (Nat → Nat → Int32)} {K} (h : ∀ W, P W → P (f W)) (k : y_T P K) : y_T P (fun W => bnd (f W) K) := fun W w => k (f W) (h W w)
variable {c : Int} {x : Int32}
theorem y_Ta : y_T (y_Ce b T n W0 s g c x) f_X6_advance := fun W w => by
  obtain ⟨a1, ⟨p, q, kd, a2⟩, a3, a4, a5, a6, a7⟩ := w
  obtain ⟨r, t⟩ := a2.2.2.2
  have tb := y_tkb t
  obtain ⟨p', q', kd', t'⟩ := z_tok_x (T := T) (n := n) (r := q) (by omega)
  refine ⟨_, y_Cadv a1.2 a2.2.1 t', y_Cf_tk a1, ⟨p', q', kd', y_Ctk_t t'⟩, ?_, ?_, a5, ?_, a7⟩
  · rw [y_Ctk_u (by omega)]; exact a3
  · rw [y_Ctk_u (by omega)]; exact a4
  · rw [y_Ctk_u (by omega)]; exact a6
theorem y_Tf (d : Int32) (W) (w : y_Ce b T n W0 s g c x W) : f_X3_fail W d = some W := by
  unfold f_X3_fail
  rw [w.2.2.1, z_l0, z_eqF (by have := w.2.2.2.2.1; omega) (by have := w.2.2.2.2.1; omega) (by have := w.2.2.2.2.1; omega) (by omega) (by omega)]
theorem y_Tf' (d : Int32) : y_T (y_Ce b T n W0 s g c x) (fun W => f_X3_fail W d) := fun W w => ⟨W, y_Tf d W w, w⟩
theorem y_nmb (h : z_PI b s g) : ∀ i : Nat, (i : Int) < s 1 → 0 ≤ s (7 + 4 * i) ∧ s (7 + 4 * i) < 2147483648 := fun i hi => by
  obtain ⟨⟨a, b', c', d, q1, q2, q3⟩, -⟩ := h.2.1.2.1 i hi
  have := y_pk_p q1
  rw [q2]
  omega
theorem y_Tfs (W) (w : y_Ce b T n W0 s g c x W) (v : Int32) : ∃ y, f_X4_findStation (W 2) v = some y := by
  obtain ⟨v', rfl, hv⟩ := z_arg v
  rw [w.2.2.2.2.2.1]
  exact ⟨_, y_Cfs w.2.2.2.2.2.2.1 (y_nmb w.2.2.2.2.2.2) hv⟩
theorem y_Tft (W) (w : y_Ce b T n W0 s g c x W) (v u : Int32) : ∃ y, f_X4_findTrack (W 2) v u = some y := by
  obtain ⟨v', rfl, hv⟩ := z_arg v
  obtain ⟨u', rfl, hu⟩ := z_arg u
  rw [w.2.2.2.2.2.1]
  exact ⟨_, z_Ctk w.2.2.2.2.2.2.1 hv hu⟩
theorem y_Tpn (W) (w : y_Ce b T n W0 s g c x W) : ∃ y, f_X6_packName W = some y := by
  obtain ⟨a1, ⟨p, q, kd, a2⟩, -⟩ := w
  obtain ⟨r, t⟩ := a2.2.2.2
  have tb := y_tkb t
  exact (y_Cpn a1.2 a2.1 a2.2.1 (by omega) (by omega)).1
theorem y_Tns : y_T2 (y_Ce b T n W0 s g c x) f_X3_findNamedStation := fun W w => by
  unfold f_X3_findNamedStation
  obtain ⟨v, e1⟩ := y_Tpn W w
  obtain ⟨y, e2⟩ := y_Tfs W w v
  rw [z_jn, e1, z_bdc, e2, z_bdc, y_Tf _ W w, y_Tf _ W w]
  by_cases c1 : W 15 1 = 1
  · rw [if_pos c1]
    dsimp only
    rw [if_pos c1]
    by_cases c2 : y = -1
    · rw [if_pos c2]
      exact ⟨y, W, rfl, w⟩
    · rw [if_neg c2]
      exact ⟨y, W, rfl, w⟩
  · rw [if_neg c1]
    dsimp only
    rw [if_neg c1]
    exact ⟨-1, W, rfl, w⟩
theorem y_Tfa (d v : Int32) : y_T2 (y_Ce b T n W0 s g c x) (fun W => bdc (f_X3_fail W d) (fun W1 => bdc (f_X6_advance W1) (fun W2 => some (v, W2)))) := fun W w => by
  obtain ⟨W1, e, w1⟩ := y_Ta W w
  refine ⟨v, W1, ?_, w1⟩
  dsimp only
  rw [y_Tf d W w, z_bdc, e, z_bdc]
theorem y_Taa (v : Int32) : y_T2 (y_Ce b T n W0 s g c x) (fun W => bdc (f_X6_advance W) (fun W2 => some (v, W2))) := fun W w => by
  obtain ⟨W1, e, w1⟩ := y_Ta W w
  refine ⟨v, W1, ?_, w1⟩
  dsimp only
  rw [e, z_bdc]
theorem y_Tst : y_T2 (y_Ce b T n W0 s g c x) f_X3_takeStation := fun W w => by
  unfold f_X3_takeStation
  obtain ⟨v, W1, e1, w1⟩ := y_Tns W w
  obtain ⟨W2, e2, w2'⟩ := y_Ta W1 w1
  rw [e1, z_bd2, e2, z_bdc]
  exact ⟨v, W2, rfl, w2'⟩
theorem y_Tnn : y_T2 (y_Ce b T n W0 s g c x) f_X3_takeNewName := fun W w => by
  unfold f_X3_takeNewName
  obtain ⟨v, e1⟩ := y_Tpn W w
  obtain ⟨y, e2⟩ := y_Tfs W w v
  rw [e1, z_bdc, e2, z_bdc]
  split
  · split
    · exact y_Tfa _ _ W w
    · split
      · exact y_Taa _ W w
      · exact y_Tfa _ _ W w
  · exact y_Tfa _ _ W w
theorem y_Tss : y_T2 (y_Ce b T n W0 s g c x) f_X3_takeSecondStation := fun W w => by
  unfold f_X3_takeSecondStation
  obtain ⟨v, W1, e1, w1⟩ := y_Tns W w
  obtain ⟨y, e2⟩ := y_Tft W1 w1 (W1 13 4) v
  rw [e1, z_bd2, e2, z_bdc, z_jn]
  suffices H : ∀ z : Int32, ∃ v' W', (if (W1 13 2) = (7 : Int32) then if z = 0 then bdc (f_X3_fail W1 (5 : Int32)) (fun W19 => bdc (f_X6_advance W19) (fun W20 => some (v, W20))) else bdc (f_X6_advance W1) (fun W18 => some (v, W18)) else if (W1 13 4) = v then bdc (f_X3_fail W1 (5 : Int32)) (fun W9 => bdc (f_X6_advance W9) (fun W10 => some (v, W10))) else if (W1 13 2) = (3 : Int32) then if z = 0 then bdc (f_X6_advance W1) (fun W14 => some (v, W14)) else bdc (f_X3_fail W1 (5 : Int32)) (fun W15 => bdc (f_X6_advance W15) (fun W16 => some (v, W16))) else bdc (f_X6_advance W1) (fun W12 => some (v, W12))) = some (v', W') ∧ y_Ce b T n W0 s g c x W' by
    split
    · exact H 0
    · exact H 1
  intro z
  split
  · split
    · exact y_Tfa _ _ W1 w1
    · exact y_Taa _ W1 w1
  · split
    · exact y_Tfa _ _ W1 w1
    · split
      · split
        · exact y_Taa _ W1 w1
        · exact y_Tfa _ _ W1 w1
      · exact y_Taa _ W1 w1
theorem y_Trt : y_T (y_Ce b T n W0 s g c x) f_X3_takeRoute := fun W w => by
  unfold f_X3_takeRoute FU
  have w1 : y_Ce b T n W0 s g c x (w2 W 13 7 0) := y_Ce_13 w (by omega)
  refine ⟨w2 W 13 7 0, ?_, w1⟩
  rw [z_bnd, l_X3_takeRoute_7, w1.2.2.1, z_l0, show (6 : Int32) = zI 6 from z_lit 6, z_ltF (by omega) (by omega) (by omega), z_eqF (by have := w1.2.2.2.2.1; omega) (by have := w1.2.2.2.2.1; omega) (by have := w1.2.2.2.2.1; omega) (by omega) (by omega)]
end Pa
