/-! what the table is -/
def EDG (nt : Nat) (ta tb tm : Nat → Nat) (op : Nat → Bool) (y b w : Nat) : Prop := ∃ k, k < nt ∧ op k = true ∧ tm k = w ∧ ((ta k = y ∧ tb k = b) ∨ (tb k = y ∧ ta k = b))
def TAB (ns nt : Nat) (ta tb tm : Nat → Nat) (op : Nat → Bool) (T : Nat → Nat → Nat) : Prop :=
  (∀ x y, T x y ≤ 1000) ∧ (∀ x, T x x = 0) ∧ (∀ y b w, EDG nt ta tb tm op y b w → T y b ≤ w) ∧ (∀ a b c, a < ns → b < ns → c < ns → T a c ≤ T a b + T b c) ∧ (∀ a b, a < ns → b < ns → T a b < 1000 → a = b ∨ ∃ y w, y < ns ∧ EDG nt ta tb tm op y b w ∧ T a y + w ≤ T a b)
theorem EDG_symm {nt : Nat} {ta tb tm : Nat → Nat} {op : Nat → Bool} {y b w : Nat} (h : EDG nt ta tb tm op y b w) : EDG nt ta tb tm op b y w := by
  obtain ⟨k, h1, h2, h3, h4⟩ := h
  exact ⟨k, h1, h2, h3, h4.elim (fun q => Or.inr ⟨q.2, q.1⟩) (fun q => Or.inl ⟨q.2, q.1⟩)⟩
theorem shr_at {T : Nat → Nat → Nat} {a b m : Nat} : shr T a b m a b = min m (T a b) := by
  unfold shr up2
  rw [if_pos ⟨rfl, rfl⟩]
theorem shr_off {T : Nat → Nat → Nat} {a b m x y : Nat} (h : ¬ (x = a ∧ y = b)) : shr T a b m x y = T x y := by
  unfold shr up2
  rw [if_neg h]
/-- after some edges: an entry below 1000 stands on the diagonal, or is no less than an edge -/
theorem edT_edge {nt : Nat} {ta tb tm : Nat → Nat} {op : Nat → Bool} : ∀ k, k ≤ nt → ∀ a b, edT ta tb tm op T00 k a b < 1000 → a = b ∨ ∃ w, EDG nt ta tb tm op a b w ∧ w ≤ edT ta tb tm op T00 k a b
  | 0, _, a, b, h => by
    left
    unfold edT T00 at h
    by_cases q : a = b
    · exact q
    · rw [if_neg q] at h; omega
  | k + 1, hk, a, b, h => by
    have ih := edT_edge (nt := nt) (ta := ta) (tb := tb) (tm := tm) (op := op) k (by omega)
    rw [show edT ta tb tm op T00 (k + 1) = if op k then shr (shr (edT ta tb tm op T00 k) (ta k) (tb k) (tm k)) (tb k) (ta k) (tm k) else edT ta tb tm op T00 k from rfl] at h ⊢
    cases hop : op k with
    | false =>
      rw [hop, if_neg (by decide)] at h
      rw [if_neg (by decide)]
      exact ih a b h
    | true =>
      rw [hop, if_pos rfl] at h
      rw [if_pos rfl]
      have e1 : EDG nt ta tb tm op (ta k) (tb k) (tm k) := ⟨k, by omega, hop, rfl, Or.inl ⟨rfl, rfl⟩⟩
      -- one shortening keeps it
      have key : ∀ (U : Nat → Nat → Nat) (p q m : Nat), EDG nt ta tb tm op p q m → (∀ a b, U a b < 1000 → a = b ∨ ∃ w, EDG nt ta tb tm op a b w ∧ w ≤ U a b) → ∀ a b, shr U p q m a b < 1000 → a = b ∨ ∃ w, EDG nt ta tb tm op a b w ∧ w ≤ shr U p q m a b := by
        intro U p q m he hU a b hab
        by_cases hc : a = p ∧ b = q
        · obtain ⟨rfl, rfl⟩ := hc
          rw [shr_at] at hab ⊢
          by_cases hm : m ≤ U a b
          · exact Or.inr ⟨m, he, by omega⟩
          · rw [Nat.min_eq_right (by omega)] at hab ⊢
            exact hU a b hab
        · rw [shr_off hc] at hab ⊢
          exact hU a b hab
      exact key _ _ _ _ (EDG_symm e1) (key _ _ _ _ e1 ih) a b h
theorem edT_mono {ta tb tm : Nat → Nat} {op : Nat → Bool} {T : Nat → Nat → Nat} {j x y : Nat} : ∀ d, edT ta tb tm op T (j + d) x y ≤ edT ta tb tm op T j x y
  | 0 => Nat.le_refl _
  | d + 1 => by
    refine Nat.le_trans ?_ (edT_mono (ta := ta) (tb := tb) (tm := tm) (op := op) (T := T) (j := j) (x := x) (y := y) d)
    rw [show j + (d + 1) = (j + d) + 1 by omega, show edT ta tb tm op T (j + d + 1) = if op (j + d) then shr (shr (edT ta tb tm op T (j + d)) (ta (j + d)) (tb (j + d)) (tm (j + d))) (tb (j + d)) (ta (j + d)) (tm (j + d)) else edT ta tb tm op T (j + d) from rfl]
    split
    · exact Nat.le_trans shr_le shr_le
    · exact Nat.le_refl _
theorem edT_low {nt : Nat} {ta tb tm : Nat → Nat} {op : Nat → Bool} {T : Nat → Nat → Nat} {y b w : Nat} (h : EDG nt ta tb tm op y b w) : edT ta tb tm op T nt y b ≤ w := by
  obtain ⟨k, h1, h2, h3, h4⟩ := h
  obtain ⟨d, rfl⟩ : ∃ d, nt = (k + 1) + d := ⟨nt - (k + 1), by omega⟩
  refine Nat.le_trans (edT_mono d) ?_
  rw [show edT ta tb tm op T (k + 1) = if op k then shr (shr (edT ta tb tm op T k) (ta k) (tb k) (tm k)) (tb k) (ta k) (tm k) else edT ta tb tm op T k from rfl, h2, if_pos rfl]
  rcases h4 with ⟨rfl, rfl⟩ | ⟨rfl, rfl⟩
  · refine Nat.le_trans shr_le ?_
    rw [shr_at]
    omega
  · rw [shr_at]
    omega
theorem rowT_eq {v b : Nat} {T : Nat → Nat → Nat} (h : T v v = 0) : ∀ c x y, rowT v b T c x y = if x = b ∧ y < c then min (T b y) (T b v + T v y) else T x y
  | 0, x, y => by rw [if_neg (by omega)]; rfl
  | c + 1, x, y => by
    have ih := rowT_eq (v := v) (b := b) h c
    have e1 : rowT v b T c b v = T b v := by
      rw [ih]
      split
      · omega
      · rfl
    have e2 : rowT v b T c v c = T v c := by rw [ih, if_neg (by omega)]
    have e3 : rowT v b T c b c = T b c := by rw [ih, if_neg (by omega)]
    rw [show rowT v b T (c + 1) = shr (rowT v b T c) b c (rowT v b T c b v + rowT v b T c v c) from rfl, e1, e2]
    by_cases hc : x = b ∧ y = c
    · obtain ⟨rfl, rfl⟩ := hc
      rw [shr_at, e3, if_pos ⟨rfl, by omega⟩]
      omega
    · rw [shr_off hc, ih]
      by_cases hx : x = b ∧ y < c
      · rw [if_pos hx, if_pos (by omega)]
      · rw [if_neg hx, if_neg (by omega)]
theorem stgT_eq {v ns : Nat} {T : Nat → Nat → Nat} (h : T v v = 0) : ∀ b x y, stgT v ns T b x y = if x < b ∧ y < ns then min (T x y) (T x v + T v y) else T x y
  | 0, x, y => by rw [if_neg (by omega)]; rfl
  | b + 1, x, y => by
    have ih := stgT_eq (v := v) (ns := ns) h b
    have e0 : stgT v ns T b v v = 0 := by
      rw [ih]
      split <;> omega
    have e1 : ∀ y, stgT v ns T b b y = T b y := fun y => by rw [ih, if_neg (by omega)]
    have e2 : ∀ y, stgT v ns T b v y = T v y := fun y => by
      rw [ih]
      split
      · omega
      · rfl
    rw [show stgT v ns T (b + 1) = rowT v b (stgT v ns T b) ns from rfl, rowT_eq e0, e1, e1, e2, ih]
    by_cases hx : x = b ∧ y < ns
    · obtain ⟨rfl, hy⟩ := hx
      rw [if_pos ⟨rfl, hy⟩, if_pos ⟨by omega, hy⟩]
    · rw [if_neg hx]
      by_cases hy : x < b ∧ y < ns
      · rw [if_pos hy, if_pos (by omega)]
      · rw [if_neg hy, if_neg (by omega)]
theorem fwT_S {ns v : Nat} {T : Nat → Nat → Nat} (h : fwT ns T v v v = 0) {x y : Nat} (hx : x < ns) (hy : y < ns) : fwT ns T (v + 1) x y = min (fwT ns T v x y) (fwT ns T v x v + fwT ns T v v y) := by
  rw [show fwT ns T (v + 1) = stgT v ns (fwT ns T v) ns from rfl, stgT_eq h, if_pos ⟨hx, hy⟩]
theorem fwT_0 {ns : Nat} {T : Nat → Nat → Nat} (h : ∀ x, T x x = 0) (v x : Nat) : fwT ns T v x x = 0 := by
  have h1 := fwT_le (ns := ns) (T := T) (x := x) (y := x) v
  rw [h x] at h1
  omega
theorem fw_tri {ns : Nat} {T : Nat → Nat → Nat} (h : ∀ x, T x x = 0) : ∀ v, v ≤ ns → ∀ a b c, a < ns → b < v → c < ns → fwT ns T v a c ≤ fwT ns T v a b + fwT ns T v b c
  | 0, _, a, b, c, _, hb, _ => absurd hb (by omega)
  | v + 1, hv, a, b, c, ha, hb, hc => by
    have ih := fw_tri (ns := ns) h v (by omega)
    have z := fwT_0 (ns := ns) h v v
    rw [fwT_S z ha hc, fwT_S z ha (show b < ns by omega), fwT_S z (show b < ns by omega) hc]
    by_cases hbv : b = v
    · subst hbv
      omega
    · have q1 := ih a b c ha (by omega) hc
      have q2 := ih v b c (by omega) (by omega) hc
      have q3 := ih a b v ha (by omega) (by omega)
      omega
theorem fw_pred {ns nt : Nat} {ta tb tm : Nat → Nat} {op : Nat → Bool} {T : Nat → Nat → Nat} (h : ∀ x, T x x = 0) (hp : ∀ a b, a < ns → b < ns → T a b < 1000 → a = b ∨ ∃ y w, y < ns ∧ EDG nt ta tb tm op y b w ∧ T a y + w ≤ T a b) (hM : ∀ x y, T x y ≤ 1000) : ∀ v, v ≤ ns → ∀ a b, a < ns → b < ns → fwT ns T v a b < 1000 → a = b ∨ ∃ y w, y < ns ∧ EDG nt ta tb tm op y b w ∧ fwT ns T v a y + w ≤ fwT ns T v a b
  | 0, _, a, b, ha, hb, hl => hp a b ha hb hl
  | v + 1, hv, a, b, ha, hb, hl => by
    have ih := fw_pred (nt := nt) (ta := ta) (tb := tb) (tm := tm) (op := op) h hp hM v (by omega)
    have z := fwT_0 (ns := ns) h v v
    rw [fwT_S z ha hb] at hl ⊢
    have hM1 := Nat.le_trans (fwT_le (ns := ns) (T := T) (x := a) (y := b) v) (hM a b)
    by_cases hc : fwT ns T v a b ≤ fwT ns T v a v + fwT ns T v v b
    · rw [Nat.min_eq_left hc] at hl ⊢
      rcases ih a b ha hb hl with q | ⟨y, w, h1, h2, h3⟩
      · exact Or.inl q
      · refine Or.inr ⟨y, w, h1, h2, ?_⟩
        rw [fwT_S z ha h1]
        omega
    · rw [Nat.min_eq_right (by omega)] at hl ⊢
      rcases ih v b (by omega) hb (by omega) with q | ⟨y, w, h1, h2, h3⟩
      · subst q
        omega
      · refine Or.inr ⟨y, w, h1, h2, ?_⟩
        rw [fwT_S z ha h1]
        omega
theorem tab_ok {ns nt : Nat} {ta tb tm : Nat → Nat} {op : Nat → Bool} (ht : ∀ k, k < nt → ta k < ns ∧ tb k < ns) : TAB ns nt ta tb tm op (tabT nt ta tb tm op ns) := by
  have hE : ∀ y b w, EDG nt ta tb tm op y b w → y < ns ∧ b < ns := fun y b w h => by
    obtain ⟨k, h1, -, -, h4⟩ := h
    have := ht k h1
    rcases h4 with ⟨rfl, rfl⟩ | ⟨rfl, rfl⟩
    · exact this
    · exact ⟨this.2, this.1⟩
  have h0 : ∀ x, edT ta tb tm op T00 nt x x = 0 := fun x => by
    have h := edT_le (ta := ta) (tb := tb) (tm := tm) (op := op) (T := T00) (x := x) (y := x) nt
    rw [show T00 x x = 0 by unfold T00; rw [if_pos rfl]] at h
    omega
  have hM : ∀ x y, edT ta tb tm op T00 nt x y ≤ 1000 := fun x y => Nat.le_trans (edT_le nt) T00_le
  refine ⟨fun x y => Nat.le_trans (fwT_le ns) (hM x y), fwT_0 h0 ns, fun y b w h => Nat.le_trans (fwT_le ns) (edT_low h), fun a b c ha hb hc => fw_tri h0 ns (Nat.le_refl _) a b c ha hb hc, fun a b ha hb hl => ?_⟩
  refine fw_pred h0 (fun a b ha hb hl => ?_) hM ns (Nat.le_refl _) a b ha hb hl
  rcases edT_edge (nt := nt) nt (Nat.le_refl _) a b hl with q | ⟨w, h1, h2⟩
  · exact Or.inl q
  · exact Or.inr ⟨a, w, ha, h1, by rw [h0]; omega⟩
section TabUse
variable {ns nt : Nat} {ta tb tm : Nat → Nat} {op : Nat → Bool} {T : Nat → Nat → Nat}
theorem TAB.sym_le (h : TAB ns nt ta tb tm op T) (ht : ∀ k, k < nt → 1 ≤ tm k) : ∀ n a b, a < ns → b < ns → T a b = n → n < 1000 → T b a ≤ n := by
  obtain ⟨h1, h2, h3, h4, h5⟩ := h
  intro n
  induction n using Nat.strongRecOn with
  | _ n ih =>
    intro a b ha hb hn hl
    rcases h5 a b ha hb (by omega) with q | ⟨y, w, hy, he, hw⟩
    · subst q
      rw [h2]
      omega
    · have hw1 : 1 ≤ w := by
        obtain ⟨k, k1, -, rfl, -⟩ := he
        exact ht k k1
      have i1 := ih (T a y) (by omega) a y ha hy rfl (by omega)
      have e1 := h3 b y w (EDG_symm he)
      have t1 := h4 b y a hb hy ha
      omega
theorem TAB.sym (h : TAB ns nt ta tb tm op T) (ht : ∀ k, k < nt → 1 ≤ tm k) {a b : Nat} (ha : a < ns) (hb : b < ns) : T a b = T b a := by
  have m1 := h.1 a b
  have m2 := h.1 b a
  by_cases q : T a b < 1000
  · have r := h.sym_le ht (T a b) a b ha hb rfl q
    by_cases q2 : T b a < 1000
    · have r2 := h.sym_le ht (T b a) b a hb ha rfl q2
      omega
    · omega
  · by_cases q2 : T b a < 1000
    · have r2 := h.sym_le ht (T b a) b a hb ha rfl q2
      omega
    · omega
end TabUse
