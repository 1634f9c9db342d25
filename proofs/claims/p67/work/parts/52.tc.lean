/-! the reference's measure finds the class's table -/
theorem z_ct_le {p q : Nat → Bool} : ∀ d i, (∀ j, i ≤ j → j < i + d → p j = true → q j = true) → z_ct p i d ≤ z_ct q i d
  | 0, i, _ => Int.le_refl _
  | d + 1, i, h => by
    have e := z_ct_le d (i + 1) (fun j h1 h2 => h j (by omega) (by omega))
    have e0 := h i (by omega) (by omega)
    unfold z_ct
    cases hp : p i with
    | false =>
      simp only [if_false, Bool.false_eq_true]
      split <;> omega
    | true =>
      rw [e0 hp]
      omega
theorem z_ct_lt {p q : Nat → Bool} : ∀ d i, (∀ j, i ≤ j → j < i + d → p j = true → q j = true) → (∃ j, i ≤ j ∧ j < i + d ∧ p j = false ∧ q j = true) → z_ct p i d + 1 ≤ z_ct q i d
  | 0, i, _, h => by
    obtain ⟨j, h1, h2, -⟩ := h
    omega
  | d + 1, i, h, h2 => by
    obtain ⟨j, j1, j2, j3, j4⟩ := h2
    unfold z_ct
    by_cases e : j = i
    · subst e
      have e2 := z_ct_le d (j + 1) (fun k h1 h2 => h k (by omega) (by omega))
      rw [j3, j4]
      simp only [if_false, if_true, Bool.false_eq_true]
      omega
    · have e2 := z_ct_lt d (i + 1) (fun k h1 h2 => h k (by omega) (by omega)) ⟨j, by omega, by omega, j3, j4⟩
      have e0 := h i (by omega) (by omega)
      cases hp : p i with
      | false =>
        simp only [if_false, Bool.false_eq_true]
        split <;> omega
      | true =>
        rw [e0 hp]
        omega
section Tab
variable {b : Int} {s g : Nat → Int} {T : Nat → Nat → Int}
theorem z_egw (h : z_inv b s) {y x : Nat} {w : Int} (e : z_eg s y x w) : (1 ≤ w ∧ w ≤ 9) ∧ y < 8 ∧ x < 8 := by
  obtain ⟨k, k1, k2, k3, k4⟩ := e
  obtain ⟨t1, t2, t3⟩ := h.2.2.2.1 k k1
  have h1 := h.1.2.1
  omega
theorem z_egs {y x : Nat} {w : Int} (e : z_eg s y x w) : z_eg s x y w := by
  obtain ⟨k, k1, k2, k3, k4⟩ := e
  exact ⟨k, k1, k2, k3, by rcases k4 with q | q; exact Or.inr ⟨q.2, q.1⟩; exact Or.inl ⟨q.2, q.1⟩⟩
theorem z_tab_72 (h : z_inv b s) (hT : z_tab s T) {a : Nat} (ha : a < 8) : ∀ n : Nat, ∀ x, x < 8 → T a x = n → T a x < 1000 → T a x ≤ 9 * z_ct (fun k => decide (T a k < T a x)) 0 8 := by
  intro n
  induction n using Nat.strongRecOn with
  | _ n ih =>
    intro x hx hn hl
    obtain ⟨t1, t2, t3, t4, t5, t6⟩ := hT
    rcases t5 a x ha hx hl with q | ⟨y, w, hy, he, hw⟩
    · subst q
      rw [t2 a]
      have := (z_ct_b (p := fun k => decide (T a k < 0)) 8 0).1
      omega
    · have w1 := z_egw h he
      have e1 := t3 y x w he
      have e2 := t4 a y x ha hy hx
      have e3 := t1 a y
      have e4 := ih (T a y).toNat (by omega) y hy (by omega) (by omega)
      have e5 := z_ct_lt (p := fun k => decide (T a k < T a y)) (q := fun k => decide (T a k < T a x)) 8 0 (fun j _ _ hj => by
        have := of_decide_eq_true hj
        exact decide_eq_true (by omega)) ⟨y, by omega, by omega, decide_eq_false (by omega), decide_eq_true (by omega)⟩
      omega
theorem z_tab_fin (h : z_inv b s) (hT : z_tab s T) {a x : Nat} (ha : a < 8) (hx : x < 8) : T a x ≤ 72 ∨ T a x = 1000 := by
  have t1 := hT.1 a x
  by_cases c : T a x < 1000
  · have e := z_tab_72 h hT ha (T a x).toNat x hx (by omega) c
    have := (z_ct_b (p := fun k => decide (T a k < T a x)) 8 0).2
    omega
  · omega
/-- what far holds of the table's row -/
def z_en (v : Int) : Int := if v = 1000 then 99999 else v
def z_lo (T : Nat → Nat → Int) (y : Nat) (F : Nat → Int) : Prop := ∀ k, k < 8 → (0 ≤ F k ∧ F k ≤ 99999) ∧ (T y k < 1000 → T y k ≤ F k) ∧ (T y k = 1000 → F k = 99999)
def z_rx (F : Nat → Int) (a x : Nat) (w : Int) : Nat → Int := fun k => if k = x ∧ F a + w < F x then F a + w else F k
def z_md (F0 F : Nat → Int) (m : Int) : Prop := (∀ k, k < 8 → F k ≤ F0 k) ∧ ((m = 0 ∧ ∀ k, k < 8 → F k = F0 k) ∨ (m = 1 ∧ ∃ k, k < 8 ∧ F k < F0 k))
theorem z_rx_lo (h : z_inv b s) (hT : z_tab s T) {y a x : Nat} {w : Int} {F : Nat → Int} (hy : y < 8) (he : z_eg s a x w) (hF : z_lo T y F) : z_lo T y (z_rx F a x w) := by
  intro k hk
  obtain ⟨w1, ha, hx⟩ := z_egw h he
  have f1 := hF k hk
  have f2 := hF a ha
  have f3 := hF x hx
  unfold z_rx
  by_cases c : k = x ∧ F a + w < F x
  · rw [if_pos c]
    obtain ⟨rfl, c2⟩ := c
    have e1 := hT.2.2.1 a k w he
    have e2 := hT.2.2.2.1 y a k hy ha hx
    have e3 := z_tab_fin h hT hy ha
    have e4 := z_tab_fin h hT hy hx
    have e5 := hT.1 y a
    omega
  · rw [if_neg c]
    exact f1
theorem z_rx_md {F0 F : Nat → Int} {m : Int} {a x : Nat} {w : Int} (hx : x < 8) (hm : z_md F0 F m) : z_md F0 (z_rx F a x w) (if m = 0 then z_B (decide (F a + w < F x)) else m) := by
  obtain ⟨h1, h2⟩ := hm
  by_cases c : F a + w < F x
  · have e : ∀ k, k < 8 → z_rx F a x w k ≤ F k := fun k hk => by
      unfold z_rx
      split
      · rename_i q
        rw [q.1]
        omega
      · omega
    refine ⟨fun k hk => Int.le_trans (e k hk) (h1 k hk), Or.inr ⟨?_, x, hx, ?_⟩⟩
    · rw [decide_eq_true c]
      rcases h2 with ⟨q, -⟩ | ⟨q, -⟩ <;> simp [q, z_B]
    · have := h1 x hx
      unfold z_rx
      rw [if_pos ⟨rfl, c⟩]
      omega
  · have e : z_rx F a x w = F := by
      funext k
      unfold z_rx
      rw [if_neg (fun q => c q.2)]
    rw [e, decide_eq_false c]
    refine ⟨h1, ?_⟩
    rcases h2 with ⟨q, q2⟩ | ⟨q, q2⟩
    · exact Or.inl ⟨by simp [q, z_B], q2⟩
    · exact Or.inr ⟨by simp [q], q2⟩
theorem z_rx_le {F : Nat → Int} {a x : Nat} {w : Int} : z_rx F a x w x ≤ F a + w := by
  unfold z_rx
  split <;> omega
theorem z_rx_le2 {F : Nat → Int} {a x k : Nat} {w : Int} : z_rx F a x w k ≤ F k := by
  unfold z_rx
  split
  · rename_i q
    rw [q.1]
    omega
  · omega
/-- within a round, behind i tracks -/
def z_rd (s g : Nat → Int) (T : Nat → Nat → Int) (y : Nat) (F0 : Nat → Int) (i : Nat) (a : (Nat → Int32) × Int32) : Prop := ∃ (v F : Nat → Int) (m : Int), a = (zV v, zI m) ∧ (∀ k, k < 251 → v k = g k) ∧ (∀ k, k < 8 → v (251 + k) = F k) ∧ z_lo T y F ∧ z_md F0 F m ∧ (∀ k, k < i → s (39 + 4 * k + 3) = 1 → ∀ p q : Nat, (s (39 + 4 * k) = p ∧ s (39 + 4 * k + 1) = q) ∨ (s (39 + 4 * k + 1) = p ∧ s (39 + 4 * k) = q) → F q ≤ F0 p + s (39 + 4 * k + 2))
end Tab
/-! the reference's measure to its end; its drop station -/
section Drp
variable {b : Int} {s g : Nat → Int} {T : Nat → Nat → Int}
theorem z_fix (h : z_inv b s) (hT : z_tab s T) {y : Nat} (hy : y < 8) {F : Nat → Int} (h0 : F y = 0) (hF : z_lo T y F) (hx : ∀ p q w, z_eg s p q w → F q ≤ F p + w) : ∀ n : Nat, ∀ k, k < 8 → T y k = n → T y k < 1000 → F k = T y k := by
  intro n
  induction n using Nat.strongRecOn with
  | _ n ih =>
    intro k hk hn hl
    have f1 := hF k hk
    rcases hT.2.2.2.2.1 y k hy hk hl with q | ⟨a, w, ha, he, hw⟩
    · subst q
      rw [h0, hT.2.1]
    · have w1 := z_egw h he
      have e3 := hT.1 y a
      have e4 := ih (T y a).toNat (by omega) a ha (by omega) (by omega)
      have e5 := hx a k w he
      omega
theorem z_fix_en (h : z_inv b s) (hT : z_tab s T) {y : Nat} (hy : y < 8) {F : Nat → Int} (h0 : F y = 0) (hF : z_lo T y F) (hx : ∀ p q w, z_eg s p q w → F q ≤ F p + w) {k : Nat} (hk : k < 8) : F k = z_en (T y k) := by
  have e := hT.1 y k
  unfold z_en
  by_cases c : T y k = 1000
  · rw [if_pos c]
    exact (hF k hk).2.2 c
  · rw [if_neg c]
    exact z_fix h hT hy h0 hF hx (T y k).toNat k hk (by omega) (by omega)
theorem z_rel_c {g' : Nat → Int} (hc : z_inv b s) (r : z_rel s g) (e : ∀ k, k < 251 → g' k = g k) : z_rel s g' := by
  obtain ⟨r0, r1, r2, r3, r4⟩ := r
  obtain ⟨⟨h0, h1, h2, h3, h4⟩, -, -, -, hn, -⟩ := hc
  refine ⟨fun k hk => by rw [e k (by omega)]; exact r0 k hk, fun i hi => ?_, fun k hk j hj => by rw [e _ (by omega)]; exact r2 k hk j hj, fun t ht => ?_, fun i hi j hj => by rw [e _ (by omega)]; exact r4 i hi j hj⟩
  · rw [e _ (by omega), e _ (by omega), e _ (by omega)]
    exact r1 i hi
  · obtain ⟨a0, a1, a2, a3, a4, a5, a6, a7, a8⟩ := r3 t ht
    refine ⟨by rw [e _ (by omega)]; exact a0, by rw [e _ (by omega)]; exact a1, fun j hj => ?_, by rw [e _ (by omega)]; exact a3, by rw [e _ (by omega)]; exact a4, ?_, by rw [e _ (by omega)]; exact a6, by rw [e _ (by omega)]; exact a7, by rw [e _ (by omega)]; exact a8⟩
    · have := (hn t ht).2.1
      rw [e _ (by omega)]
      exact a2 j hj
    · unfold z_tv at a5 ⊢
      rw [e _ (by omega)]
      exact a5
theorem z_en_lt {v w : Int} (hv : 0 ≤ v ∧ v ≤ 1000) (hw : 0 ≤ w ∧ w ≤ 1000) : z_en v ≤ z_en w ↔ v ≤ w := by
  unfold z_en
  split <;> split <;> omega
theorem z_en_b {v : Int} (hv : 0 ≤ v ∧ v ≤ 1000) : 0 ≤ z_en v ∧ z_en v ≤ 99999 := by
  unfold z_en
  split <;> omega
theorem z_dsym (h : z_inv b s) {x y : Int} (hx : 0 ≤ x ∧ x < 8) (hy : 0 ≤ y ∧ y < 8) : z_d s x y = z_d s y x := h.2.2.2.2.2.2.2.2.2.2.2 x.toNat y.toNat (by omega) (by omega)
end Drp
/-! the order in which waiting parcels are considered -/
theorem z_ct_up {p q : Nat → Bool} {w : Nat} : ∀ d i, i ≤ w → w < i + d → (∀ j, i ≤ j → j < i + d → j ≠ w → q j = p j) → p w = false → q w = true → z_ct q i d = z_ct p i d + 1
  | 0, i, h1, h2, _, _, _ => absurd h2 (by omega)
  | d + 1, i, h1, h2, h, hp, hq => by
    unfold z_ct
    by_cases e : i = w
    · subst e
      rw [hp, hq, z_ct_c d (i + 1) (fun j h1 h2 => h j (by omega) (by omega) (by omega))]
      simp only [if_true, if_false, Bool.false_eq_true]
      omega
    · rw [h i (by omega) (by omega) e, z_ct_up d (i + 1) (by omega) (by omega) (fun j h1 h2 => h j (by omega) (by omega)) hp hq]
      omega
theorem z_ct_ne {p q : Nat → Bool} : ∀ d i, z_ct p i d < z_ct q i d → ∃ j, i ≤ j ∧ j < i + d ∧ p j = false ∧ q j = true
  | 0, i, h => absurd h (by unfold z_ct; omega)
  | d + 1, i, h => by
    unfold z_ct at h
    by_cases e : p i = false ∧ q i = true
    · exact ⟨i, by omega, by omega, e.1, e.2⟩
    · have : z_ct p (i + 1) d < z_ct q (i + 1) d := by
        cases hp : p i <;> cases hq : q i <;> rw [hp, hq] at h e <;> simp at h e <;> omega
      obtain ⟨j, j1, j2, j3⟩ := z_ct_ne d (i + 1) this
      exact ⟨j, by omega, by omega, j3⟩
section Ord
variable {b : Int} {s g : Nat → Int}
def z_np (s : Nat → Int) : Nat := (s 4).toNat
/-- how many of those that wait at x are considered before k -/
def z_ac (s : Nat → Int) (x : Int) (k : Nat) : Int := z_ct (fun j => z_wt s x j && z_bf s j k) 0 (z_np s)
def z_co (s : Nat → Int) (x : Int) (n : Int) : Option Nat := z_ff (fun k => z_wt s x k && decide (z_ac s x k = n)) 0 (z_np s)
/-- the order as numbers -/
def z_ky (s : Nat → Int) (j : Nat) : Int := j - 16 * s (143 + 9 * j + 2)
theorem z_bf_ky (h : z_inv b s) {i j : Nat} (hi : (i : Int) < s 4) (hj : (j : Int) < s 4) : z_bf s i j = decide (z_ky s i < z_ky s j) := by
  have h4 := h.1.2.2.2.2
  unfold z_bf z_ky
  by_cases c : s (143 + 9 * j + 2) < s (143 + 9 * i + 2) ∨ (s (143 + 9 * i + 2) = s (143 + 9 * j + 2) ∧ i < j)
  · rw [decide_eq_true c, decide_eq_true (by omega)]
  · rw [decide_eq_false c, decide_eq_false (by omega)]
theorem z_ky_inj (h : z_inv b s) {i j : Nat} (hi : (i : Int) < s 4) (hj : (j : Int) < s 4) (e : z_ky s i = z_ky s j) : i = j := by
  have h4 := h.1.2.2.2.2
  unfold z_ky at e
  omega
def z_fk (s : Nat → Int) (x v : Int) : Int := z_ct (fun j => z_wt s x j && decide (z_ky s j < v)) 0 (z_np s)
theorem z_ac_fk (h : z_inv b s) {x : Int} {k : Nat} (hk : (k : Int) < s 4) : z_ac s x k = z_fk s x (z_ky s k) := by
  unfold z_ac z_fk
  refine z_ct_c _ _ (fun j _ hj => ?_)
  unfold z_np at hj
  rw [z_bf_ky h (by omega) hk]
theorem z_ac_lt (h : z_inv b s) {x : Int} {i k : Nat} (hi : (i : Int) < s 4) (hk : (k : Int) < s 4) (hw : z_wt s x i = true) (hb : z_bf s i k = true) : z_ac s x i < z_ac s x k := by
  have hb2 : z_ky s i < z_ky s k := by
    rw [z_bf_ky h hi hk] at hb
    exact of_decide_eq_true hb
  rw [z_ac_fk h hi, z_ac_fk h hk]
  unfold z_fk
  have e := z_ct_lt (p := fun j => z_wt s x j && decide (z_ky s j < z_ky s i)) (q := fun j => z_wt s x j && decide (z_ky s j < z_ky s k)) (z_np s) 0 (fun j _ hj hp => ?_) ⟨i, by omega, by unfold z_np; omega, ?_, ?_⟩
  · omega
  · rw [Bool.and_eq_true] at hp ⊢
    exact ⟨hp.1, decide_eq_true (by have := of_decide_eq_true hp.2; omega)⟩
  · rw [hw, Bool.true_and]
    exact decide_eq_false (by omega)
  · rw [hw, Bool.true_and]
    exact decide_eq_true hb2
theorem z_bf_tot (h : z_inv b s) {i k : Nat} (hi : (i : Int) < s 4) (hk : (k : Int) < s 4) (hne : i ≠ k) : z_bf s i k = true ∨ z_bf s k i = true := by
  have e : z_ky s i ≠ z_ky s k := fun q => hne (z_ky_inj h hi hk q)
  rw [z_bf_ky h hi hk, z_bf_ky h hk hi]
  rcases Int.lt_or_gt_of_ne e with q | q
  · exact Or.inl (decide_eq_true q)
  · exact Or.inr (decide_eq_true q)
theorem z_bf_tr (h : z_inv b s) {i j k : Nat} (hi : (i : Int) < s 4) (hj : (j : Int) < s 4) (hk : (k : Int) < s 4) (h1 : z_bf s i j = true) (h2 : z_bf s j k = true) : z_bf s i k = true := by
  rw [z_bf_ky h hi hj] at h1
  rw [z_bf_ky h hj hk] at h2
  rw [z_bf_ky h hi hk]
  have := of_decide_eq_true h1
  have := of_decide_eq_true h2
  exact decide_eq_true (by omega)
theorem z_ac_inj (h : z_inv b s) {x : Int} {i k : Nat} (hi : (i : Int) < s 4) (hk : (k : Int) < s 4) (hw : z_wt s x i = true) (hw2 : z_wt s x k = true) (e : z_ac s x i = z_ac s x k) : i = k := by
  by_cases c : i = k
  · exact c
  · rcases z_bf_tot h hi hk c with q | q
    · have := z_ac_lt h hi hk hw q
      omega
    · have := z_ac_lt h hk hi hw2 q
      omega
theorem z_fk_s (h : z_inv b s) {x v : Int} : z_fk s x (v + 1) ≤ z_fk s x v + 1 := by
  by_cases c : ∃ j : Nat, (j : Int) < s 4 ∧ z_ky s j = v ∧ z_wt s x j = true
  · obtain ⟨j, j1, j2, j3⟩ := c
    unfold z_fk
    rw [z_ct_up (p := fun j => z_wt s x j && decide (z_ky s j < v)) (q := fun j => z_wt s x j && decide (z_ky s j < v + 1)) (w := j) (z_np s) 0 (by omega) (by unfold z_np; omega) (fun k _ hk hne => ?_) (by rw [j3, j2, Bool.true_and]; exact decide_eq_false (by omega)) (by rw [j3, j2, Bool.true_and]; exact decide_eq_true (by omega))]
    · exact Int.le_refl _
    · unfold z_np at hk
      have : z_ky s k ≠ v := fun q => hne (z_ky_inj h (by omega) j1 (by omega))
      congr 1
      by_cases q : z_ky s k < v
      · rw [decide_eq_true q, decide_eq_true (by omega)]
      · rw [decide_eq_false q, decide_eq_false (by omega)]
  · have e : z_fk s x (v + 1) = z_fk s x v := by
      unfold z_fk
      refine z_ct_c _ _ (fun k _ hk => ?_)
      unfold z_np at hk
      cases hw : z_wt s x k with
      | false => rfl
      | true =>
        have : z_ky s k ≠ v := fun q => c ⟨k, by omega, q, hw⟩
        by_cases q : z_ky s k < v
        · rw [decide_eq_true q, decide_eq_true (by omega)]
        · rw [decide_eq_false q, decide_eq_false (by omega)]
    omega
theorem z_fk_iv (h : z_inv b s) {x m : Int} (hm : 0 ≤ m) : ∀ n : Nat, m + 1 ≤ z_fk s x (-200 + n) → ∃ v, z_fk s x v = m ∧ z_fk s x (v + 1) = m + 1
  | 0, hn => by
    exfalso
    have : z_fk s x (-200) = 0 := by
      unfold z_fk
      rw [z_ct_c (q := fun _ => false) _ _ (fun j _ hj => ?_)]
      · have : ∀ d i, z_ct (fun _ => false) i d = 0 := by
          intro d
          induction d with
          | zero => intro i; rfl
          | succ d ih =>
            intro i
            unfold z_ct
            rw [ih]
            rfl
        exact this _ _
      · unfold z_np at hj
        have := (h.2.2.2.2.2.1 j (by omega)).2.2.1
        rw [show decide (z_ky s j < -200) = false from decide_eq_false (by unfold z_ky; omega), Bool.and_false]
    rw [show (-200 + ((0 : Nat) : Int)) = -200 from rfl] at hn
    omega
  | n + 1, hn => by
    by_cases c : m + 1 ≤ z_fk s x (-200 + n)
    · exact z_fk_iv h hm n c
    · have e := z_fk_s h (x := x) (v := -200 + n)
      rw [show (-200 + ((n + 1 : Nat) : Int)) = -200 + n + 1 by omega] at hn
      exact ⟨-200 + n, by omega, by omega⟩
/-- where none has n before it, none has more -/
theorem z_co_n (h : z_inv b s) {x n : Int} (hn : 0 ≤ n) (hc : z_co s x n = none) {k : Nat} (hk : (k : Int) < s 4) (hw : z_wt s x k = true) : z_ac s x k < n := by
  have none_n : ∀ j : Nat, (j : Int) < s 4 → z_wt s x j = true → z_ac s x j ≠ n := fun j hj hw q => by
    have := z_ff_n _ _ hc j (by omega) (by unfold z_np; omega)
    rw [hw, Bool.true_and] at this
    exact (of_decide_eq_false this) q
  by_cases c : z_ac s x k < n
  · exact c
  · exfalso
    have e := none_n k hk hw
    have hr := (h.2.2.2.2.2.1 k hk).2.2.1
    have h4 := h.1.2.2.2.2
    obtain ⟨v, v1, v2⟩ := z_fk_iv h (x := x) hn (z_ky s k + 200).toNat (by
      rw [show (-200 + (((z_ky s k + 200).toNat : Nat) : Int)) = z_ky s k by unfold z_ky; omega, ← z_ac_fk h hk]
      omega)
    obtain ⟨j, j1, j2, j3, j4⟩ := z_ct_ne (p := fun j => z_wt s x j && decide (z_ky s j < v)) (q := fun j => z_wt s x j && decide (z_ky s j < v + 1)) (z_np s) 0 (by
      show z_fk s x v < z_fk s x (v + 1)
      omega)
    rw [Bool.and_eq_true] at j4
    rw [j4.1, Bool.true_and] at j3
    have d1 := of_decide_eq_true j4.2
    have d2 := of_decide_eq_false j3
    have jn : (j : Int) < s 4 := by unfold z_np at j2; omega
    refine none_n j jn j4.1 ?_
    rw [z_ac_fk h jn, show z_ky s j = v by omega]
    exact v1
end Ord
/-! loading -/
theorem z_blt {w n : Nat} (h : w < n) : Nat.blt w n = true := Nat.blt_eq.mpr h
def z_cl (s : Nat → Int) (t : Nat) (k : Nat) : Bool := z_wt s (z_cu s t) k && !z_he s k && decide (z_dp s t (s (143 + 9 * k + 1)) ≠ -1)
/-- only parcels and the counts of loadings differ -/
def z_fr (s s' : Nat → Int) : Prop := ∀ k, (k < 5 ∨ (7 ≤ k ∧ k < 143) ∨ 251 ≤ k) → s' k = s k
section Lod
variable {b : Int} {s s' g g' : Nat → Int}
theorem z_tk_c (h2 : s' 2 = s 2) (hl : s 2 ≤ 12) (e : ∀ k, 39 ≤ k → k < 87 → s' k = s k) {x y : Int} : z_tk s' x y = z_tk s x y := by
  unfold z_tk
  rw [h2]
  refine z_ff_c _ _ (fun j _ hj => ?_)
  unfold z_cn
  rw [e (39 + 4 * j) (by omega) (by omega), e (39 + 4 * j + 1) (by omega) (by omega)]
theorem z_eg_c (h2 : s' 2 = s 2) (hl : s 2 ≤ 12) (e : ∀ k, 39 ≤ k → k < 87 → s' k = s k) {y x : Nat} {w : Int} : z_eg s' y x w ↔ z_eg s y x w := by
  constructor
  · rintro ⟨k, k1, k2⟩
    rw [h2] at k1
    rw [e _ (by omega) (by omega), e _ (by omega) (by omega), e _ (by omega) (by omega), e _ (by omega) (by omega)] at k2
    exact ⟨k, k1, k2⟩
  · rintro ⟨k, k1, k2⟩
    refine ⟨k, by rw [h2]; exact k1, ?_⟩
    rw [e _ (by omega) (by omega), e _ (by omega) (by omega), e _ (by omega) (by omega), e _ (by omega) (by omega)]
    exact k2
theorem z_dis_c (h2 : s' 2 = s 2) (hl : s 2 ≤ 12) (e : ∀ k, 39 ≤ k → k < 87 → s' k = s k) (e2 : ∀ k, 251 ≤ k → s' k = s k) (h : z_dis s) : z_dis s' := by
  unfold z_dis at h ⊢
  have q : zT s' = zT s := by
    funext a b
    unfold zT
    rw [e2 _ (by omega)]
  rw [q]
  obtain ⟨t1, t2, t3, t4, t5, t6⟩ := h
  refine ⟨t1, t2, fun y x w he => t3 y x w ((z_eg_c h2 hl e).mp he), t4, fun a c ha hc hl2 => ?_, t6⟩
  rcases t5 a c ha hc hl2 with q | ⟨y, w, hy, he, hw⟩
  · exact Or.inl q
  · exact Or.inr ⟨y, w, hy, (z_eg_c h2 hl e).mpr he, hw⟩
theorem z_trn_c (h1 : s' 1 = s 1) (h2 : s' 2 = s 2) (hl : s 2 ≤ 12) (e : ∀ k, 39 ≤ k → k < 87 → s' k = s k) {t : Nat} (et : ∀ k, k < 11 → s' (87 + 14 * t + k) = s (87 + 14 * t + k)) (h : z_trn s t) : z_trn s' t := by
  obtain ⟨a0, a1, a2, a3, a4, a5, a6⟩ := h
  have e0 := et 0 (by omega)
  have e1 := et 1 (by omega)
  have e8 := et 8 (by omega)
  have e9 := et 9 (by omega)
  have e10 := et 10 (by omega)
  simp only [Nat.add_zero] at e0
  have es : ∀ j : Nat, j < 6 → s' (87 + 14 * t + 2 + j) = s (87 + 14 * t + 2 + j) := fun j hj => by
    have := et (2 + j) (by omega)
    rw [← Nat.add_assoc] at this
    exact this
  unfold z_trn
  rw [e0, e1, e8, e9, e10, h1]
  refine ⟨a0, a1, fun j hj => ?_, fun j hj => ?_, a4, a5, a6⟩
  · rw [es j (by omega)]
    exact a2 j hj
  · rw [es j (by omega), es (j + 1) (by omega), z_tk_c h2 hl e]
    exact a3 j hj
theorem z_sp_c {t : Nat} (et : ∀ k, k < 11 → s' (87 + 14 * t + k) = s (87 + 14 * t + k)) {p : Int} (hp : p < 6) : z_sp s' t p = z_sp s t p := by
  unfold z_sp
  have := et (2 + p.toNat) (by omega)
  rw [← Nat.add_assoc] at this
  exact this
theorem z_cu_c {t : Nat} (h : z_trn s t) (et : ∀ k, k < 11 → s' (87 + 14 * t + k) = s (87 + 14 * t + k)) : z_cu s' t = z_cu s t := by
  obtain ⟨-, a1, -, -, a4, a5, -⟩ := h
  unfold z_cu
  rw [et 8 (by omega), z_sp_c et (by omega)]
theorem z_nx_c {t : Nat} (h : z_trn s t) (et : ∀ k, k < 11 → s' (87 + 14 * t + k) = s (87 + 14 * t + k)) : z_nx s' t = z_nx s t := by
  obtain ⟨-, a1, -, -, a4, a5, -⟩ := h
  unfold z_nx
  rw [et 8 (by omega), et 9 (by omega), z_sp_c et (by omega)]
theorem z_dr_c {t : Nat} (h : z_trn s t) (et : ∀ k, k < 11 → s' (87 + 14 * t + k) = s (87 + 14 * t + k)) (e2 : ∀ k, 251 ≤ k → s' k = s k) {y : Int} : ∀ m p bs ls, z_dr s' t y m p bs ls = z_dr s t y m p bs ls
  | 0, p, bs, ls => rfl
  | m + 1, p, bs, ls => by
    have eo : z_ok s' t p = z_ok s t p := by
      unfold z_ok
      rw [et 1 (by omega)]
    unfold z_dr
    rw [eo]
    by_cases c : z_ok s t p = true
    · have cp := of_decide_eq_true c
      have a1 := h.2.1
      have ed : ∀ x, z_d s' x y = z_d s x y := fun x => by
        unfold z_d zT
        rw [e2 _ (by omega)]
      rw [if_pos c, if_pos c, z_sp_c et (by omega), ed, et 9 (by omega), z_dr_c h et e2, z_dr_c h et e2]
    · rw [if_neg c, if_neg c]
theorem z_dp_c {t : Nat} (h : z_trn s t) (et : ∀ k, k < 11 → s' (87 + 14 * t + k) = s (87 + 14 * t + k)) (e2 : ∀ k, 251 ≤ k → s' k = s k) {y : Int} : z_dp s' t y = z_dp s t y := by
  unfold z_dp
  rw [z_dr_c h et e2, et 8 (by omega), et 9 (by omega), z_cu_c h et]
  rw [show z_d s' (z_cu s t) y = z_d s (z_cu s t) y by unfold z_d zT; rw [e2 _ (by omega)]]
theorem z_inv_fr (h : z_inv b s) (e : z_fr s s') (hp : ∀ i : Nat, (i : Int) < s 4 → z_pcl s' i) : z_inv b s' := by
  obtain ⟨h0, ⟨b1, b2, b3⟩, a1, a2, a3, a4, a5⟩ := h
  obtain ⟨c0, c1, c2, c3, c4⟩ := id h0
  refine ⟨?_, ⟨fun i hi => by rw [e _ (by omega)]; exact b1 i hi, fun i hi => by rw [e _ (by omega)]; exact b2 i hi, fun i hi => by rw [e _ (by omega)]; exact b3 i hi⟩, fun i hi => ?_, fun k hk => ?_, fun t ht => ?_, fun i hi => hp i (by rw [e 4 (by omega)] at hi; exact hi), ?_⟩
  · unfold z_cnt4
    rw [e 0 (by omega), e 1 (by omega), e 2 (by omega), e 3 (by omega), e 4 (by omega)]
    exact h0
  · rw [e 1 (by omega)] at hi
    have := a1 i hi
    unfold z_stn at this ⊢
    rw [e _ (by omega), e _ (by omega), e 0 (by omega)]
    exact this
  · rw [e 2 (by omega)] at hk
    have := a2 k hk
    unfold z_trk at this ⊢
    rw [e _ (by omega), e _ (by omega), e _ (by omega), e _ (by omega)]
    exact this
  · rw [e 3 (by omega)] at ht
    exact z_trn_c (e 1 (by omega)) (e 2 (by omega)) (by omega) (fun k h1 h2 => e k (by omega)) (fun k hk => e _ (by omega)) (a3 t ht)
  · exact z_dis_c (e 2 (by omega)) (by omega) (fun k h1 h2 => e k (by omega)) (fun k hk => e k (by omega)) a5
theorem z_rel_fr (h : z_inv b s) (r : z_rel s g) (e : z_fr s s') (eg : ∀ k, (k < 5 ∨ (7 ≤ k ∧ k < 143)) → g' k = g k) (h5 : g' 5 = s' 5) (h6 : g' 6 = s' 6) (hp : ∀ i : Nat, (i : Int) < s 4 → ∀ j, j < 9 → g' (143 + 9 * i + j) = s' (143 + 9 * i + j)) : z_rel s' g' := by
  obtain ⟨r0, r1, r2, r3, r4⟩ := r
  obtain ⟨⟨c0, c1, c2, c3, c4⟩, -, -, -, hn, -, -⟩ := h
  refine ⟨fun k hk => ?_, fun i hi => ?_, fun k hk j hj => ?_, fun t ht => ?_, fun i hi => hp i (by rw [e 4 (by omega)] at hi; exact hi)⟩
  · by_cases c : k = 5
    · rw [c]; exact h5
    · by_cases c2 : k = 6
      · rw [c2]; exact h6
      · rw [eg k (by omega), e k (by omega)]
        exact r0 k hk
  · rw [e 1 (by omega)] at hi
    rw [e _ (by omega), e _ (by omega), e _ (by omega), eg _ (by omega), eg _ (by omega), eg _ (by omega)]
    exact r1 i hi
  · rw [e 2 (by omega)] at hk
    rw [e _ (by omega), eg _ (by omega)]
    exact r2 k hk j hj
  · rw [e 3 (by omega)] at ht
    obtain ⟨a0, a1, a2, a3, a4, a5, a6, a7, a8⟩ := r3 t ht
    have tn := hn t ht
    have et : ∀ k, k < 14 → s' (87 + 14 * t + k) = s (87 + 14 * t + k) := fun k hk => e _ (by omega)
    have tl := tn.2.1
    unfold z_rtn
    rw [e _ (by omega), e _ (by omega), e _ (by omega), e _ (by omega), e _ (by omega), e _ (by omega), e _ (by omega), eg _ (by omega), eg _ (by omega), eg _ (by omega), eg _ (by omega), eg _ (by omega), eg _ (by omega), eg _ (by omega)]
    refine ⟨a0, a1, fun j hj => by rw [e _ (by omega), eg _ (by omega)]; exact a2 j hj, a3, a4, ?_, a6, a7, a8⟩
    unfold z_tv at a5 ⊢
    rw [z_cu_c tn (fun k hk => et k (by omega)), z_nx_c tn (fun k hk => et k (by omega)), z_tk_c (e 2 (by omega)) (by omega) (fun k h1 h2 => e k (by omega)), e (87 + 14 * t + 10) (by omega), eg (87 + 14 * t + 10) (by omega)]
    rcases a5 with q | ⟨q1, q2, k, q3, q4⟩
    · exact Or.inl q
    · refine Or.inr ⟨q1, q2, k, q3, ?_⟩
      have := z_ff_s _ _ _ q3
      rw [e _ (by omega)]
      exact q4
end Lod
/-! the parcel to load next; the reference's wouldLoad -/
section Nxt
variable {b : Int} {s s' g g' : Nat → Int}
/-- o is the best of the first i parcels that train t can load -/
def z_bs (s : Nat → Int) (t i : Nat) (o : Option Nat) : Prop := match o with
  | none => ∀ j, j < i → z_cl s t j = false
  | some w => w < i ∧ z_cl s t w = true ∧ ∀ j, j < i → z_cl s t j = true → j = w ∨ z_bf s w j = true
def z_cr (s : Nat → Int) (t : Nat) : Int := z_ct (z_ca s t) 0 (z_np s)
theorem z_oi_nn {x : Int} (h : 0 ≤ x) {R : Type} {A B : R} {_ : Decidable (zI x = zI (-1))} (hx : x < 100) : (if zI x = zI (-1) then A else B) = B := z_eqF (by omega) (by omega) (by omega) (by omega) (by omega)
theorem z_dpb (h : z_inv b s) {t : Nat} (ht : (t : Int) < s 3) {y : Int} : -1 ≤ z_dp s t y ∧ z_dp s t y < s 1 := by
  have key : ∀ m p bs ls, (-1 ≤ bs ∧ bs < s 1) → -1 ≤ z_dr s t y m p bs ls ∧ z_dr s t y m p bs ls < s 1 := by
    intro m
    induction m with
    | zero => intro p bs ls hb; exact hb
    | succ m ih =>
      intro p bs ls hb
      unfold z_dr
      split
      · rename_i c
        have := z_spb h ht (of_decide_eq_true c)
        split
        · exact ih _ _ _ (by omega)
        · exact ih _ _ _ hb
      · exact hb
  have h1 := h.1.2.1
  exact key 5 _ _ _ (by omega)
theorem z_Cnl (h : z_inv b s) (hb : b ≤ 1000000000) {t : Nat} (ht : (t : Int) < s 3) : ∃ o, f_X4_findNextToLoad (zV s) t = some o ∧ (if z_cr s t < s (87 + 14 * t) then z_bs s t (z_np s) o else o = none) := by
  obtain ⟨⟨h0, h1, h2, h3, h4⟩, -, -, -, hn, hp, -⟩ := id h
  obtain ⟨a0, -⟩ := hn t ht
  have cu := z_cub h ht
  have cb := z_ct_b (p := z_ca s t) (z_np s) 0
  have cb2 : z_np s ≤ 12 := by unfold z_np; omega
  unfold f_X4_findNextToLoad
  simp (disch := omega) only [z_lit, z_n, z_add, z_sub, z_mul, z_neg, z_ltT, z_ltF, z_leT, z_leF, z_eqT, z_eqF, z_v, z_upd, z_ue, z_un, z_ixn, z_ixo, z_ix0, z_ix1, z_ix2, z_ix3, z_ix4, z_ix5, z_ix6, Int.reduceToNat, z_inr, z_gd, z_bnd, z_jn, z_bdc, z_bd2, z_opn, z_ops, z_z01, if_true, if_false, Bool.false_eq_true, z_Cca h (show zR (t : Int) by unfold zR; omega)]
  unfold z_cr z_np at *
  by_cases c : z_ct (z_ca s t) 0 (s 4).toNat < s (87 + 14 * t)
  · simp (disch := omega) only [z_lit, z_n, z_add, z_sub, z_mul, z_neg, z_ltT, z_ltF, z_leT, z_leF, z_eqT, z_eqF, z_v, z_upd, z_ue, z_un, z_ixn, z_ixo, z_ix0, z_ix1, z_ix2, z_ix3, z_ix4, z_ix5, z_ix6, Int.reduceToNat, z_inr, z_gd, z_bnd, z_jn, z_bdc, z_bd2, z_opn, z_ops, z_z01, if_true, if_false, Bool.false_eq_true, z_Ccu h ht, c]
    refine z_run (l := l_X4_findNextToLoad_28 (zV s) t (zI (z_cu s t))) (n := (s 4).toNat) (P := fun i o => z_bs s t i o) (Q := fun r => ∃ o, r = some o ∧ z_bs s t (s 4).toNat o) (fun N i o hi hq => ?_) (fun N o hq => ?_) (s 4).toNat 0 FU none (by omega) (by unfold FU; omega) (fun j hj => absurd hj (by omega))
    · have hi2 : (i : Int) < s 4 := by omega
      obtain ⟨-, p1, -⟩ := hp i hi2
      have hR := z_Crd h hb hi2 (x := z_cu s t) (by omega) (by omega)
      have hD := z_Cdp h ht (y := s (143 + 9 * i + 1)) (by omega)
      have hdb := z_dpb h ht (y := s (143 + 9 * i + 1))
      cases o with
      | none =>
        by_cases cl : z_cl s t i = true
        · refine ⟨some i, ⟨by omega, cl, fun j hj hc => ?_⟩, ?_⟩
          · by_cases e : j = i
            · exact Or.inl e
            · have := hq j (by omega)
              rw [this] at hc
              cases hc
          · unfold z_cl at cl
            rw [Bool.and_eq_true] at cl
            have c2 := of_decide_eq_true cl.2
            rw [l_X4_findNextToLoad_28]
            simp (disch := omega) only [z_lit, z_n, z_add, z_sub, z_mul, z_neg, z_ltT, z_ltF, z_leT, z_leF, z_eqT, z_eqF, z_v, z_upd, z_ue, z_un, z_ixn, z_ixo, z_ix0, z_ix1, z_ix2, z_ix3, z_ix4, z_ix5, z_ix6, Int.reduceToNat, z_inr, z_gd, z_bnd, z_jn, z_bdc, z_bd2, z_opn, z_ops, z_z01, if_true, if_false, Bool.false_eq_true, hR, cl.1, z_Bt, z_i1, hD]
        · have cl0 : z_cl s t i = false := Bool.eq_false_iff.mpr cl
          refine ⟨none, fun j hj => ?_, ?_⟩
          · by_cases e : j = i
            · rw [e]; exact cl0
            · exact hq j (by omega)
          · unfold z_cl at cl0
            rw [l_X4_findNextToLoad_28]
            simp (disch := omega) only [z_lit, z_n, z_add, z_sub, z_mul, z_neg, z_ltT, z_ltF, z_leT, z_leF, z_eqT, z_eqF, z_v, z_upd, z_ue, z_un, z_ixn, z_ixo, z_ix0, z_ix1, z_ix2, z_ix3, z_ix4, z_ix5, z_ix6, Int.reduceToNat, z_inr, z_gd, z_bnd, z_jn, z_bdc, z_bd2, z_opn, z_ops, z_z01, if_true, if_false, Bool.false_eq_true, hR, hD]
            cases cw : (z_wt s (z_cu s t) i && !z_he s i) with
            | false => simp (disch := omega) only [z_lit, z_n, z_add, z_sub, z_mul, z_neg, z_ltT, z_ltF, z_leT, z_leF, z_eqT, z_eqF, z_v, z_upd, z_ue, z_un, z_ixn, z_ixo, z_ix0, z_ix1, z_ix2, z_ix3, z_ix4, z_ix5, z_ix6, Int.reduceToNat, z_inr, z_gd, z_bnd, z_jn, z_bdc, z_bd2, z_opn, z_ops, z_z01, if_true, if_false, Bool.false_eq_true, z_Bf, z_i0]
            | true =>
              rw [cw, Bool.true_and] at cl0
              have := of_decide_eq_false cl0
              simp (disch := omega) only [z_lit, z_n, z_add, z_sub, z_mul, z_neg, z_ltT, z_ltF, z_leT, z_leF, z_eqT, z_eqF, z_v, z_upd, z_ue, z_un, z_ixn, z_ixo, z_ix0, z_ix1, z_ix2, z_ix3, z_ix4, z_ix5, z_ix6, Int.reduceToNat, z_inr, z_gd, z_bnd, z_jn, z_bdc, z_bd2, z_opn, z_ops, z_z01, if_true, if_false, Bool.false_eq_true, z_Bt, z_i1]
      | some w =>
        obtain ⟨q1, q2, q3⟩ := hq
        have hB := z_Cbf h hi2 (show (w : Int) < s 4 by omega)
        by_cases cl : z_cl s t i = true
        · by_cases cb : z_bf s i w = true
          · refine ⟨some i, ⟨by omega, cl, fun j hj hc => ?_⟩, ?_⟩
            · by_cases e : j = i
              · exact Or.inl e
              · rcases q3 j (by omega) hc with e2 | e2
                · subst e2
                  exact Or.inr cb
                · exact Or.inr (z_bf_tr h hi2 (show (w : Int) < s 4 by omega) (show (j : Int) < s 4 by omega) cb e2)
            · unfold z_cl at cl
              rw [Bool.and_eq_true] at cl
              have c2 := of_decide_eq_true cl.2
              rw [l_X4_findNextToLoad_28]
              simp (disch := omega) only [z_lit, z_n, z_add, z_sub, z_mul, z_neg, z_ltT, z_ltF, z_leT, z_leF, z_eqT, z_eqF, z_v, z_upd, z_ue, z_un, z_ixn, z_ixo, z_ix0, z_ix1, z_ix2, z_ix3, z_ix4, z_ix5, z_ix6, Int.reduceToNat, z_inr, z_gd, z_bnd, z_jn, z_bdc, z_bd2, z_opn, z_ops, z_z01, if_true, if_false, Bool.false_eq_true, z_blt, hR, cl.1, z_Bt, z_i1, hD, hB, cb]
          · have cb0 : z_bf s i w = false := Bool.eq_false_iff.mpr cb
            refine ⟨some w, ⟨by omega, q2, fun j hj hc => ?_⟩, ?_⟩
            · by_cases e : j = i
              · rw [e]
                rcases z_bf_tot h hi2 (show (w : Int) < s 4 by omega) (by omega) with e2 | e2
                · exact absurd e2 cb
                · exact Or.inr e2
              · exact q3 j (by omega) hc
            · unfold z_cl at cl
              rw [Bool.and_eq_true] at cl
              rw [l_X4_findNextToLoad_28]
              simp (disch := omega) only [z_lit, z_n, z_add, z_sub, z_mul, z_neg, z_ltT, z_ltF, z_leT, z_leF, z_eqT, z_eqF, z_v, z_upd, z_ue, z_un, z_ixn, z_ixo, z_ix0, z_ix1, z_ix2, z_ix3, z_ix4, z_ix5, z_ix6, Int.reduceToNat, z_inr, z_gd, z_bnd, z_jn, z_bdc, z_bd2, z_opn, z_ops, z_z01, if_true, if_false, Bool.false_eq_true, z_blt, hR, cl.1, z_Bt, z_i1, hD, hB, cb0, z_Bf, z_i0]
        · have cl0 : z_cl s t i = false := Bool.eq_false_iff.mpr cl
          refine ⟨some w, ⟨by omega, q2, fun j hj hc => ?_⟩, ?_⟩
          · by_cases e : j = i
            · rw [e, cl0] at hc
              cases hc
            · exact q3 j (by omega) hc
          · unfold z_cl at cl0
            rw [l_X4_findNextToLoad_28]
            simp (disch := omega) only [z_lit, z_n, z_add, z_sub, z_mul, z_neg, z_ltT, z_ltF, z_leT, z_leF, z_eqT, z_eqF, z_v, z_upd, z_ue, z_un, z_ixn, z_ixo, z_ix0, z_ix1, z_ix2, z_ix3, z_ix4, z_ix5, z_ix6, Int.reduceToNat, z_inr, z_gd, z_bnd, z_jn, z_bdc, z_bd2, z_opn, z_ops, z_z01, if_true, if_false, Bool.false_eq_true, z_blt, hR, hD, hB]
            cases cw : (z_wt s (z_cu s t) i && !z_he s i) with
            | false => simp (disch := omega) only [z_lit, z_n, z_add, z_sub, z_mul, z_neg, z_ltT, z_ltF, z_leT, z_leF, z_eqT, z_eqF, z_v, z_upd, z_ue, z_un, z_ixn, z_ixo, z_ix0, z_ix1, z_ix2, z_ix3, z_ix4, z_ix5, z_ix6, Int.reduceToNat, z_inr, z_gd, z_bnd, z_jn, z_bdc, z_bd2, z_opn, z_ops, z_z01, if_true, if_false, Bool.false_eq_true, z_Bf, z_i0]
            | true =>
              rw [cw, Bool.true_and] at cl0
              have := of_decide_eq_false cl0
              cases z_bf s i w <;> simp (disch := omega) only [z_lit, z_n, z_add, z_sub, z_mul, z_neg, z_ltT, z_ltF, z_leT, z_leF, z_eqT, z_eqF, z_v, z_upd, z_ue, z_un, z_ixn, z_ixo, z_ix0, z_ix1, z_ix2, z_ix3, z_ix4, z_ix5, z_ix6, Int.reduceToNat, z_inr, z_gd, z_bnd, z_jn, z_bdc, z_bd2, z_opn, z_ops, z_z01, if_true, if_false, Bool.false_eq_true, z_Bt, z_Bf, z_i1, z_i0]
    · cases o with
      | none =>
        refine ⟨none, ?_, hq⟩
        rw [l_X4_findNextToLoad_28]
        simp (disch := omega) only [z_lit, z_n, z_add, z_sub, z_mul, z_neg, z_ltT, z_ltF, z_leT, z_leF, z_eqT, z_eqF, z_v, z_upd, z_ue, z_un, z_ixn, z_ixo, z_ix0, z_ix1, z_ix2, z_ix3, z_ix4, z_ix5, z_ix6, Int.reduceToNat, z_inr, z_gd, z_bnd, z_jn, z_bdc, z_bd2, z_opn, z_ops, z_z01, if_true, if_false, Bool.false_eq_true]
      | some w =>
        refine ⟨some w, ?_, hq⟩
        have := hq.1
        rw [l_X4_findNextToLoad_28]
        simp (disch := omega) only [z_lit, z_n, z_add, z_sub, z_mul, z_neg, z_ltT, z_ltF, z_leT, z_leF, z_eqT, z_eqF, z_v, z_upd, z_ue, z_un, z_ixn, z_ixo, z_ix0, z_ix1, z_ix2, z_ix3, z_ix4, z_ix5, z_ix6, Int.reduceToNat, z_inr, z_gd, z_bnd, z_jn, z_bdc, z_bd2, z_opn, z_ops, z_z01, if_true, if_false, Bool.false_eq_true, z_blt]
  · simp (disch := omega) only [z_lit, z_n, z_add, z_sub, z_mul, z_neg, z_ltT, z_ltF, z_leT, z_leF, z_eqT, z_eqF, z_v, z_upd, z_ue, z_un, z_ixn, z_ixo, z_ix0, z_ix1, z_ix2, z_ix3, z_ix4, z_ix5, z_ix6, Int.reduceToNat, z_inr, z_gd, z_bnd, z_jn, z_bdc, z_bd2, z_opn, z_ops, z_z01, if_true, if_false, Bool.false_eq_true, c]
    exact ⟨none, rfl, rfl⟩
end Nxt
