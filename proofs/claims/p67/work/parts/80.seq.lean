/-! a sequence of statements, read by the class -/
def x_at (TT : Nat → Int) (n : Nat) (W0 : Nat → Nat → Int32) (r : Nat) (s g : Nat → Int) (W : Nat → Nat → Int32) : Prop := ∃ p q kd, z_tok TT n r p q kd ∧ y_Cg 0 TT n W0 s g p q kd W
def x_has (TT : Nat → Int) (r : Nat) (C : List Int) : Prop := ∀ j, j < C.length → TT (r + j) = C.getD j 0
/-- from the state s (beside it g) m statements, the bytes C, lead to s' -/
def x_seq (s g : Nat → Int) (C : List Int) (m : Nat) (s' g' : Nat → Int) : Prop := ∀ TT n W0 r W, x_has TT r C → r + C.length ≤ n → x_at TT n W0 r s g W → ∃ W', x_at TT n W0 (r + C.length) s' g' W' ∧ ∀ N (i : Nat), i + m ≤ 600 → l_X3_parse_26 (N + m) W (zI (i : Int)) = l_X3_parse_26 N W' (zI ((i + m : Nat) : Int))
section Seq
variable {TT : Nat → Int} {n r p q p' q' : Nat} {kd kd' : Int}
theorem x_rnu {lo hi : Int} (h : z_rn TT n lo hi p q) (h' : z_rn TT n lo hi p q') : q = q' := by
  obtain ⟨a1, a2, a3, a4⟩ := h
  obtain ⟨b1, b2, b3, b4⟩ := h'
  by_cases c : q < q'
  · have := b3 q (by omega) c
    rcases a4 with e | e
    · omega
    · exact absurd this e
  · by_cases d : q' < q
    · have := a3 q' (by omega) d
      rcases b4 with e | e
      · omega
      · exact absurd this e
    · omega
theorem x_tku (h : z_tok TT n r p q kd) (h' : z_tok TT n r p' q' kd') : p = p' ∧ q = q' ∧ kd = kd' := by
  obtain ⟨a1, a2, a3⟩ := h
  obtain ⟨b1, b2, b3⟩ := h'
  have e : p = p' := by
    by_cases c : p < p'
    · have := b2 p a1 c
      rcases a3 with ⟨d, -⟩ | ⟨-, d, -⟩
      · rcases b3 with ⟨f, -⟩ | ⟨f, -⟩ <;> omega
      · exact absurd this d
    · by_cases c2 : p' < p
      · have := a2 p' b1 c2
        rcases b3 with ⟨d, -⟩ | ⟨-, d, -⟩
        · rcases a3 with ⟨f, -⟩ | ⟨f, -⟩ <;> omega
        · exact absurd this d
      · omega
  subst e
  refine ⟨rfl, ?_⟩
  rcases a3 with ⟨c1, c2, c3⟩ | ⟨c1, -, c3⟩
  · rcases b3 with ⟨d1, d2, d3⟩ | ⟨d1, -, d3⟩
    · exact ⟨by omega, by omega⟩
    · omega
  · rcases b3 with ⟨d1, d2, d3⟩ | ⟨d1, -, d3⟩
    · omega
    · rcases c3 with ⟨k1, k2⟩ | ⟨k1, k2⟩ | ⟨k1, k2, k3⟩ | ⟨k1, k2, k3, k4, k5⟩ <;> rcases d3 with ⟨l1, l2⟩ | ⟨l1, l2⟩ | ⟨l1, l2, l3⟩ | ⟨l1, l2, l3, l4, l5⟩
      · exact ⟨x_rnu k2 l2, by omega⟩
      · exfalso
        have u := k2.2.2.1 p (by omega) k2.1
        have v := l2.2.2.1 p (by omega) l2.1
        unfold z_in at u v
        omega
      · exfalso
        have u := k2.2.2.1 p (by omega) k2.1
        unfold z_in at u
        omega
      · exact absurd (k2.2.2.1 p (by omega) k2.1) l2
      · exfalso
        have u := k2.2.2.1 p (by omega) k2.1
        have v := l2.2.2.1 p (by omega) l2.1
        unfold z_in at u v
        omega
      · exact ⟨x_rnu k2 l2, by omega⟩
      · exfalso
        have u := k2.2.2.1 p (by omega) k2.1
        unfold z_in at u
        omega
      · exact absurd (k2.2.2.1 p (by omega) k2.1) l3
      · exfalso
        have u := l2.2.2.1 p (by omega) l2.1
        unfold z_in at u
        omega
      · exfalso
        have u := l2.2.2.1 p (by omega) l2.1
        unfold z_in at u
        omega
      · exact ⟨by omega, by omega⟩
      · omega
      · exact absurd (l2.2.2.1 p (by omega) l2.1) k2
      · exact absurd (l2.2.2.1 p (by omega) l2.1) k3
      · omega
      · exact ⟨by omega, by omega⟩
theorem x_at_g {W0 W : Nat → Nat → Int32} {s g : Nat → Int} (h : x_at TT n W0 r s g W) (t : z_tok TT n r p q kd) : y_Cg 0 TT n W0 s g p q kd W := by
  obtain ⟨p', q', kd', t', c⟩ := h
  obtain ⟨rfl, rfl, rfl⟩ := x_tku t t'
  exact c
theorem x_has_l {C D : List Int} (h : x_has TT r (C ++ D)) : x_has TT r C := fun j hj => by
  have := h j (by rw [List.length_append]; omega)
  rw [this, List.getD_eq_getElem?_getD, List.getD_eq_getElem?_getD, List.getElem?_append_left hj]
theorem x_has_r {C D : List Int} (h : x_has TT r (C ++ D)) : x_has TT (r + C.length) D := fun j hj => by
  have := h (C.length + j) (by rw [List.length_append]; omega)
  rw [Nat.add_assoc, this, List.getD_eq_getElem?_getD, List.getD_eq_getElem?_getD, List.getElem?_append_right (by omega), Nat.add_sub_cancel_left]
theorem x_seq_nil {s g : Nat → Int} : x_seq s g [] 0 s g := fun TT n W0 r W _ _ h => ⟨W, h, fun N i _ => rfl⟩
theorem x_seq_app {s g s1 g1 s2 g2 : Nat → Int} {C D : List Int} {m k : Nat} (h1 : x_seq s g C m s1 g1) (h2 : x_seq s1 g1 D k s2 g2) : x_seq s g (C ++ D) (m + k) s2 g2 := by
  intro TT n W0 r W hh hr ha
  rw [List.length_append] at hr
  obtain ⟨W1, e1, e2⟩ := h1 TT n W0 r W (x_has_l hh) (by omega) ha
  obtain ⟨W2, f1, f2⟩ := h2 TT n W0 (r + C.length) W1 (x_has_r hh) (by omega) e1
  refine ⟨W2, by rw [List.length_append, ← Nat.add_assoc]; exact f1, fun N i hi => ?_⟩
  rw [show N + (m + k) = (N + k) + m by omega, e2 (N + k) i (by omega), f2 N (i + m) (by omega), Nat.add_assoc]
end Seq
