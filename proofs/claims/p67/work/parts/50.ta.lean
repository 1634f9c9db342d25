theorem bdc_s {A R : Type} {a : A} {K : A → Option R} : bdc (some a) K = K a := rfl
/-! DISTANCES: the class's table -/
def dS (S : Nat → Int32) (T : Nat → Nat → Nat) : Nat → Int32 := fun k => if 251 ≤ k ∧ k < 315 then nI (T ((k - 251) / 8) ((k - 251) % 8)) else S k
theorem dS_in {S : Nat → Int32} {T : Nat → Nat → Nat} {a b : Nat} (ha : a < 8) (hb : b < 8) : dS S T (251 + (a * 8 + b)) = nI (T a b) := by
  unfold dS
  rw [if_pos ⟨by omega, by omega⟩, show (251 + (a * 8 + b) - 251) / 8 = a by omega, show (251 + (a * 8 + b) - 251) % 8 = b by omega]
theorem dS_out {S : Nat → Int32} {T : Nat → Nat → Nat} {k : Nat} (h : k < 251) : dS S T k = S k := by
  unfold dS
  rw [if_neg (by omega)]
def up2 (T : Nat → Nat → Nat) (a b v : Nat) : Nat → Nat → Nat := fun x y => if x = a ∧ y = b then v else T x y
theorem dS_upd {S : Nat → Int32} {T : Nat → Nat → Nat} {a b v : Nat} (ha : a < 8) (hb : b < 8) : upd (dS S T) (251 + (a * 8 + b)) (nI v) = dS S (up2 T a b v) := by
  funext k
  unfold upd dS up2
  by_cases h : k = 251 + (a * 8 + b)
  · rw [if_pos h, if_pos (by omega), if_pos (by omega)]
  · rw [if_neg h]
    by_cases h2 : 251 ≤ k ∧ k < 315
    · rw [if_pos h2, if_pos h2, if_neg (by omega)]
    · rw [if_neg h2, if_neg h2]
def shr (T : Nat → Nat → Nat) (a b m : Nat) : Nat → Nat → Nat := up2 T a b (min m (T a b))
theorem shr_le {T : Nat → Nat → Nat} {a b m x y : Nat} : shr T a b m x y ≤ T x y := by
  unfold shr up2
  split
  · rename_i h; obtain ⟨rfl, rfl⟩ := h; omega
  · omega
theorem up2_same {T : Nat → Nat → Nat} {a b : Nat} : up2 T a b (T a b) = T := by
  funext x y
  unfold up2
  by_cases h : x = a ∧ y = b
  · obtain ⟨rfl, rfl⟩ := h
    rw [if_pos ⟨rfl, rfl⟩]
  · rw [if_neg h]
theorem dist_n {S : Nat → Int32} {T : Nat → Nat → Nat} {a b : Nat} (ha : a < 8) (hb : b < 8) : f_X4_distanceBetween (dS S T) (nI a) (nI b) = some (nI (T a b)) := by
  unfold f_X4_distanceBetween
  rw [if_neg (nI_pos (by omega)), l_8, if_neg (nI_ge ha (by omega)), if_neg (nI_pos (by omega)), if_pos (nI_lt hb (by omega)), n_mul, nI_add, gd_t (inr_n (by omega) (by omega)), ix_n (by omega), dS_in ha hb]
theorem short_n {S : Nat → Int32} {T : Nat → Nat → Nat} {a b m : Nat} (ha : a < 8) (hb : b < 8) (hm : m < 2 ^ 31) (hT : T a b < 2 ^ 31) : f_X4_shorten (dS S T) (nI a) (nI b) (nI m) = some (dS S (shr T a b m)) := by
  unfold f_X4_shorten
  rw [l_8, n_mul, nI_add, bnd_e, if_neg (nI_pos (by omega)), show (64 : Int32) = nI 64 from rfl, if_neg (nI_ge (by omega) (by omega)), gd_t (inr_n (by omega) (by omega)), ix_n (by omega), dS_in ha hb]
  by_cases h : T a b ≤ m
  · rw [if_pos (nI_le h hm)]
    unfold shr
    rw [Nat.min_eq_right h, up2_same]
  · rw [if_neg (nI_ge (by omega) hT), gd_t (inr_n (by omega) (by omega)), bnd_e, dS_upd ha hb]
    unfold shr
    rw [Nat.min_eq_left (by omega)]
/-- the first n places of the table are begun -/
def T00 (a b : Nat) : Nat := if a = b then 0 else 1000
def iS (S : Nat → Int32) (n : Nat) : Nat → Int32 := fun k => if 251 ≤ k ∧ k < 251 + n then nI (T00 ((k - 251) / 8) ((k - 251) % 8)) else S k
theorem iS_upd {S : Nat → Int32} {a b : Nat} (ha : a < 8) (hb : b < 8) : upd (iS S (a * 8 + b)) (251 + (a * 8 + b)) (nI (T00 a b)) = iS S (a * 8 + (b + 1)) := by
  funext k
  unfold upd iS
  by_cases h : k = 251 + (a * 8 + b)
  · rw [if_pos h, if_pos (by omega), h, show (251 + (a * 8 + b) - 251) / 8 = a by omega, show (251 + (a * 8 + b) - 251) % 8 = b by omega]
  · rw [if_neg h]
    by_cases h2 : 251 ≤ k ∧ k < 251 + (a * 8 + b)
    · rw [if_pos h2, if_pos (by omega)]
    · rw [if_neg h2, if_neg (by omega)]
theorem iS_64 {S : Nat → Int32} : iS S 64 = dS S T00 := rfl
theorem iS_0 {S : Nat → Int32} : iS S 0 = S := by
  funext k
  unfold iS
  rw [if_neg (by omega)]
theorem ini_in {S : Nat → Int32} {a : Nat} {K : (Nat → Int32) → Option (Nat → Int32)} (ha : a < 8) : ∀ (d b N : Nat), b + d = 8 → d + 1 ≤ N → l_X4_measureDistances_10 (nI a) K N (iS S (a * 8 + b)) (nI b) = K (iS S ((a + 1) * 8)) := by
  intro d
  induction d with
  | zero =>
    intro b N hb hN
    obtain ⟨N, rfl⟩ : ∃ m, N = m + 1 := ⟨N - 1, by omega⟩
    rw [l_X4_measureDistances_10, l_8, if_pos (nI_le (by omega) (by omega)), show a * 8 + b = (a + 1) * 8 by omega]
  | succ d ih =>
    intro b N hb hN
    obtain ⟨N, rfl⟩ : ∃ m, N = m + 1 := ⟨N - 1, by omega⟩
    rw [l_X4_measureDistances_10, l_8, if_neg (nI_ge (by omega) (by omega))]
    have e := ih (b + 1) N (by omega) (by omega)
    by_cases h : a = b
    · rw [if_pos (by rw [h]), n_mul, nI_add, gd_t (inr_n (by omega) (by omega)), ix_n (by omega), bnd_e, l_1, nI_add, l_0, show (0 : Nat) = T00 a b by unfold T00; rw [if_pos h], iS_upd ha (by omega)]
      exact e
    · rw [if_neg (fun q => h ((nI_eq (by omega) (by omega)).mp q)), n_mul, nI_add, gd_t (inr_n (by omega) (by omega)), ix_n (by omega), bnd_e, l_1, nI_add, l_1000, show (1000 : Nat) = T00 a b by unfold T00; rw [if_neg h], iS_upd ha (by omega)]
      exact e
theorem ini_out {S : Nat → Int32} {K : (Nat → Int32) → Option (Nat → Int32)} : ∀ (d a N : Nat), a + d = 8 → d + 1 ≤ N → l_X4_measureDistances_2 K N (iS S (a * 8)) (nI a) = K (dS S T00) := by
  intro d
  induction d with
  | zero =>
    intro a N ha hN
    obtain ⟨N, rfl⟩ : ∃ m, N = m + 1 := ⟨N - 1, by omega⟩
    rw [l_X4_measureDistances_2, l_8, if_pos (nI_le (by omega) (by omega)), show a * 8 = 64 by omega, iS_64]
  | succ d ih =>
    intro a N ha hN
    obtain ⟨N, rfl⟩ : ∃ m, N = m + 1 := ⟨N - 1, by omega⟩
    rw [l_X4_measureDistances_2, l_8, if_neg (nI_ge (by omega) (by omega)), l_0, show a * 8 = a * 8 + 0 by omega, ini_in (by omega) 8 0 FU (by omega) (by unfold FU; omega), l_1, nI_add]
    exact ih (a + 1) N (by omega) (by omega)
/-- the tracks of a vector -/
def TRK (S : Nat → Int32) (nt : Nat) (ta tb tm : Nat → Nat) (op : Nat → Bool) : Prop := S 2 = nI nt ∧ nt ≤ 12 ∧ ∀ k, k < nt → S (39 + 4 * k) = nI (ta k) ∧ S (39 + 4 * k + 1) = nI (tb k) ∧ S (39 + 4 * k + 2) = nI (tm k) ∧ S (39 + 4 * k + 3) = (if op k then 1 else 0) ∧ ta k < 8 ∧ tb k < 8 ∧ 1 ≤ tm k ∧ tm k ≤ 9
def edT (ta tb tm : Nat → Nat) (op : Nat → Bool) (T : Nat → Nat → Nat) : Nat → Nat → Nat → Nat
  | 0 => T
  | k + 1 => if op k then shr (shr (edT ta tb tm op T k) (ta k) (tb k) (tm k)) (tb k) (ta k) (tm k) else edT ta tb tm op T k
theorem edT_le {ta tb tm : Nat → Nat} {op : Nat → Bool} {T : Nat → Nat → Nat} {x y : Nat} : ∀ k, edT ta tb tm op T k x y ≤ T x y
  | 0 => Nat.le_refl _
  | k + 1 => by
    have h := edT_le (ta := ta) (tb := tb) (tm := tm) (op := op) (T := T) (x := x) (y := y) k
    unfold edT
    split
    · exact Nat.le_trans shr_le (Nat.le_trans shr_le h)
    · exact h
theorem ed_loop {S : Nat → Int32} {nt : Nat} {ta tb tm : Nat → Nat} {op : Nat → Bool} {T : Nat → Nat → Nat} {K : (Nat → Int32) → Option (Nat → Int32)} (hS : TRK S nt ta tb tm op) (hT : ∀ x y, T x y ≤ 1000) : ∀ (d k N : Nat), k + d = nt → d + 1 ≤ N → l_X4_measureDistances_53 K N (dS S (edT ta tb tm op T k)) (nI k) = K (dS S (edT ta tb tm op T nt)) := by
  obtain ⟨h2, hn, hk⟩ := hS
  intro d
  induction d with
  | zero =>
    intro k N hd hN
    obtain ⟨N, rfl⟩ : ∃ m, N = m + 1 := ⟨N - 1, by omega⟩
    rw [l_X4_measureDistances_53, dS_out (by omega), h2, if_pos (nI_le (by omega) (by omega)), show k = nt by omega]
  | succ d ih =>
    intro k N hd hN
    obtain ⟨N, rfl⟩ : ∃ m, N = m + 1 := ⟨N - 1, by omega⟩
    have e := ih (k + 1) N (by omega) (by omega)
    obtain ⟨e0, e1, e2, e3, ha, hb, hm1, hm2⟩ := hk k (by omega)
    have hle : ∀ x y, edT ta tb tm op T k x y ≤ 1000 := fun x y => Nat.le_trans (edT_le k) (hT x y)
    have hg : inr (nI k) 12 = true := inr_n (by omega) (by omega)
    rw [l_X4_measureDistances_53, dS_out (by omega), h2, if_neg (nI_ge (by omega) (by omega)), gd_t hg, ix_n (by omega), dS_out (by omega), e3]
    rw [show edT ta tb tm op T (k + 1) = if op k then shr (shr (edT ta tb tm op T k) (ta k) (tb k) (tm k)) (tb k) (ta k) (tm k) else edT ta tb tm op T k from rfl] at e
    cases hop : op k with
    | false =>
      rw [hop, if_neg (by decide)] at e
      rw [show (if false = true then (1 : Int32) else 0) = 0 from rfl, if_pos rfl, l_1, nI_add]
      exact e
    | true =>
      rw [hop, if_pos rfl] at e
      rw [show (if true = true then (1 : Int32) else 0) = 1 from rfl, if_neg (by decide), gd_t hg, gd_t hg, gd_t hg, dS_out (by omega), dS_out (by omega), dS_out (by omega), e0, e1, e2, short_n ha hb (by omega) (by have := hle (ta k) (tb k); omega), bdc_s, gd_t hg, gd_t hg, gd_t hg, dS_out (by omega), dS_out (by omega), dS_out (by omega), e0, e1, e2, short_n hb ha (by omega) (by have := hle (tb k) (ta k); have := shr_le (T := edT ta tb tm op T k) (a := ta k) (b := tb k) (m := tm k) (x := tb k) (y := ta k); omega), bdc_s, l_1, nI_add]
      exact e
/-! the three loops -/
def rowT (v b : Nat) (T : Nat → Nat → Nat) : Nat → Nat → Nat → Nat
  | 0 => T
  | c + 1 => shr (rowT v b T c) b c (rowT v b T c b v + rowT v b T c v c)
def stgT (v ns : Nat) (T : Nat → Nat → Nat) : Nat → Nat → Nat → Nat
  | 0 => T
  | b + 1 => rowT v b (stgT v ns T b) ns
def fwT (ns : Nat) (T : Nat → Nat → Nat) : Nat → Nat → Nat → Nat
  | 0 => T
  | v + 1 => stgT v ns (fwT ns T v) ns
theorem rowT_le {v b x y : Nat} {T : Nat → Nat → Nat} : ∀ c, rowT v b T c x y ≤ T x y
  | 0 => Nat.le_refl _
  | c + 1 => by
    unfold rowT
    exact Nat.le_trans shr_le (rowT_le c)
theorem stgT_le {v ns x y : Nat} {T : Nat → Nat → Nat} : ∀ b, stgT v ns T b x y ≤ T x y
  | 0 => Nat.le_refl _
  | b + 1 => by
    unfold stgT
    exact Nat.le_trans (rowT_le _) (stgT_le b)
theorem fwT_le {ns x y : Nat} {T : Nat → Nat → Nat} : ∀ v, fwT ns T v x y ≤ T x y
  | 0 => Nat.le_refl _
  | v + 1 => by
    unfold fwT
    exact Nat.le_trans (stgT_le _) (fwT_le v)
theorem row_loop {S : Nat → Int32} {ns v b : Nat} {T : Nat → Nat → Nat} {K : (Nat → Int32) → Option (Nat → Int32)} (h1 : S 1 = nI ns) (hn : ns ≤ 8) (hv : v < 8) (hb : b < 8) (hT : ∀ x y, T x y ≤ 1000) : ∀ (d c N : Nat), c + d = ns → d + 1 ≤ N → l_X4_measureDistances_163 (nI v) (nI b) K N (dS S (rowT v b T c)) (nI c) = K (dS S (rowT v b T ns)) := by
  intro d
  induction d with
  | zero =>
    intro c N hd hN
    obtain ⟨N, rfl⟩ : ∃ m, N = m + 1 := ⟨N - 1, by omega⟩
    rw [l_X4_measureDistances_163, dS_out (by omega), h1, if_pos (nI_le (by omega) (by omega)), show c = ns by omega]
  | succ d ih =>
    intro c N hd hN
    obtain ⟨N, rfl⟩ : ∃ m, N = m + 1 := ⟨N - 1, by omega⟩
    have e := ih (c + 1) N (by omega) (by omega)
    have hle : ∀ x y, rowT v b T c x y ≤ 1000 := fun x y => Nat.le_trans (rowT_le c) (hT x y)
    have q1 := hle b v
    have q2 := hle v c
    have q3 := hle b c
    rw [l_X4_measureDistances_163, dS_out (by omega), h1, if_neg (nI_ge (by omega) (by omega)), dist_n hb hv, bdc_s, dist_n hv (by omega), bdc_s, nI_add, short_n hb (by omega) (by omega) (by omega), bdc_s, l_1, nI_add]
    exact e
theorem stg_loop {S : Nat → Int32} {ns v : Nat} {T : Nat → Nat → Nat} {K : (Nat → Int32) → Option (Nat → Int32)} (h1 : S 1 = nI ns) (hn : ns ≤ 8) (hv : v < 8) (hT : ∀ x y, T x y ≤ 1000) : ∀ (d b N : Nat), b + d = ns → d + 1 ≤ N → l_X4_measureDistances_153 (nI v) K N (dS S (stgT v ns T b)) (nI b) = K (dS S (stgT v ns T ns)) := by
  intro d
  induction d with
  | zero =>
    intro b N hd hN
    obtain ⟨N, rfl⟩ : ∃ m, N = m + 1 := ⟨N - 1, by omega⟩
    rw [l_X4_measureDistances_153, dS_out (by omega), h1, if_pos (nI_le (by omega) (by omega)), show b = ns by omega]
  | succ d ih =>
    intro b N hd hN
    obtain ⟨N, rfl⟩ : ∃ m, N = m + 1 := ⟨N - 1, by omega⟩
    have e := ih (b + 1) N (by omega) (by omega)
    have r := row_loop (S := S) (ns := ns) (v := v) (b := b) (T := stgT v ns T b) (K := fun S26 => l_X4_measureDistances_153 (nI v) K N S26 (nI b + (1 : Int32))) h1 hn hv (by omega) (fun x y => Nat.le_trans (stgT_le b) (hT x y)) ns 0 FU (by omega) (by unfold FU; omega)
    rw [l_X4_measureDistances_153, dS_out (by omega), h1, if_neg (nI_ge (by omega) (by omega)), l_0]
    refine (Eq.trans ?_ r).trans ?_
    · rfl
    · show l_X4_measureDistances_153 (nI v) K N (dS S (rowT v b (stgT v ns T b) ns)) (nI b + (1 : Int32)) = _
      rw [l_1, nI_add]
      exact e
theorem fw_loop {S : Nat → Int32} {ns : Nat} {T : Nat → Nat → Nat} (h1 : S 1 = nI ns) (hn : ns ≤ 8) (hT : ∀ x y, T x y ≤ 1000) : ∀ (d v N : Nat), v + d = ns → d + 1 ≤ N → l_X4_measureDistances_143 N (dS S (fwT ns T v)) (nI v) = some (dS S (fwT ns T ns)) := by
  intro d
  induction d with
  | zero =>
    intro v N hd hN
    obtain ⟨N, rfl⟩ : ∃ m, N = m + 1 := ⟨N - 1, by omega⟩
    rw [l_X4_measureDistances_143, dS_out (by omega), h1, if_pos (nI_le (by omega) (by omega)), show v = ns by omega]
  | succ d ih =>
    intro v N hd hN
    obtain ⟨N, rfl⟩ : ∃ m, N = m + 1 := ⟨N - 1, by omega⟩
    have e := ih (v + 1) N (by omega) (by omega)
    have r := stg_loop (S := S) (ns := ns) (v := v) (T := fwT ns T v) (K := fun S27 => l_X4_measureDistances_143 N S27 (nI v + (1 : Int32))) h1 hn (by omega) (fun x y => Nat.le_trans (fwT_le v) (hT x y)) ns 0 FU (by omega) (by unfold FU; omega)
    rw [l_X4_measureDistances_143, dS_out (by omega), h1, if_neg (nI_ge (by omega) (by omega)), l_0]
    refine (Eq.trans ?_ r).trans ?_
    · rfl
    · show l_X4_measureDistances_143 N (dS S (stgT v ns (fwT ns T v) ns)) (nI v + (1 : Int32)) = _
      rw [l_1, nI_add]
      exact e
def tabT (nt : Nat) (ta tb tm : Nat → Nat) (op : Nat → Bool) (ns : Nat) : Nat → Nat → Nat := fwT ns (edT ta tb tm op T00 nt) ns
theorem T00_le {x y : Nat} : T00 x y ≤ 1000 := by
  unfold T00
  split <;> omega
theorem measure_n {S : Nat → Int32} {ns nt : Nat} {ta tb tm : Nat → Nat} {op : Nat → Bool} (h1 : S 1 = nI ns) (hn : ns ≤ 8) (hS : TRK S nt ta tb tm op) : f_X4_measureDistances S = some (dS S (tabT nt ta tb tm op ns)) := by
  unfold f_X4_measureDistances
  have hnt := hS.2.1
  have a := ini_out (S := S) (K := fun (S7 : Nat → Int32) => l_X4_measureDistances_53 (fun (S19 : Nat → Int32) => l_X4_measureDistances_143 FU S19 (0 : Int32)) FU S7 (0 : Int32)) 8 0 FU (by omega) (by unfold FU; omega)
  rw [show 0 * 8 = 0 by omega, iS_0] at a
  refine Eq.trans a ?_
  have b := ed_loop (S := S) (T := T00) (K := fun (S19 : Nat → Int32) => l_X4_measureDistances_143 FU S19 (0 : Int32)) hS (fun _ _ => T00_le) nt 0 FU (by omega) (by unfold FU; omega)
  refine Eq.trans b ?_
  exact fw_loop (S := S) (T := edT ta tb tm op T00 nt) h1 hn (fun x y => Nat.le_trans (edT_le nt) T00_le) ns 0 FU (by omega) (by unfold FU; omega)
/-! what the table is -/
def EDG (nt : Nat) (ta tb tm : Nat → Nat) (op : Nat → Bool) (y b w : Nat) : Prop := ∃ k, k < nt ∧ op k = true ∧ tm k = w ∧ ((ta k = y ∧ tb k = b) ∨ (tb k = y ∧ ta k = b))
def TAB (ns nt : Nat) (ta tb tm : Nat → Nat) (op : Nat → Bool) (T : Nat → Nat → Nat) : Prop :=
  (∀ x y, T x y ≤ 1000) ∧ (∀ x, T x x = 0) ∧ (∀ y b w, EDG nt ta tb tm op y b w → T y b ≤ w) ∧ (∀ a b c, a < ns → b < ns → c < ns → T a c ≤ T a b + T b c) ∧ (∀ a b, a < ns → b < ns → T a b < 1000 → a = b ∨ ∃ y w, y < ns ∧ EDG nt ta tb tm op y b w ∧ T a y + w ≤ T a b)
theorem EDG_symm {nt : Nat} {ta tb tm : Nat → Nat} {op : Nat → Bool} {y b w : Nat} (h : EDG nt ta tb tm op y b w) : EDG nt ta tb tm op b y w := by
  obtain ⟨k, h1, h2, h3, h4⟩ := h
  exact ⟨k, h1, h2, h3, h4.elim (fun q => Or.inr ⟨q.2, q.1⟩) (fun q => Or.inl ⟨q.2, q.1⟩)⟩
theorem shr_at {T : Nat → Nat → Nat} {a b m : Nat} : shr T a b m a b = min m (T a b) := by
  unfold shr up2
  rw [if_pos ⟨rfl, rfl⟩]
theorem shr_off {T : Nat → Nat → Nat} {a b m x y : Nat} (h : ¬ (x = a ∧ y = b)) : shr T a b m x y = T x y := by
  unfold shr up2
  rw [if_neg h]
/-- after some edges: an entry below 1000 stands on the diagonal, or is no less than an edge -/
theorem edT_edge {nt : Nat} {ta tb tm : Nat → Nat} {op : Nat → Bool} : ∀ k, k ≤ nt → ∀ a b, edT ta tb tm op T00 k a b < 1000 → a = b ∨ ∃ w, EDG nt ta tb tm op a b w ∧ w ≤ edT ta tb tm op T00 k a b
  | 0, _, a, b, h => by
    left
    unfold edT T00 at h
    by_cases q : a = b
    · exact q
    · rw [if_neg q] at h; omega
  | k + 1, hk, a, b, h => by
    have ih := edT_edge (nt := nt) (ta := ta) (tb := tb) (tm := tm) (op := op) k (by omega)
    rw [show edT ta tb tm op T00 (k + 1) = if op k then shr (shr (edT ta tb tm op T00 k) (ta k) (tb k) (tm k)) (tb k) (ta k) (tm k) else edT ta tb tm op T00 k from rfl] at h ⊢
    cases hop : op k with
    | false =>
      rw [hop, if_neg (by decide)] at h
      rw [if_neg (by decide)]
      exact ih a b h
    | true =>
      rw [hop, if_pos rfl] at h
      rw [if_pos rfl]
      have e1 : EDG nt ta tb tm op (ta k) (tb k) (tm k) := ⟨k, by omega, hop, rfl, Or.inl ⟨rfl, rfl⟩⟩
      -- one shortening keeps it
      have key : ∀ (U : Nat → Nat → Nat) (p q m : Nat), EDG nt ta tb tm op p q m → (∀ a b, U a b < 1000 → a = b ∨ ∃ w, EDG nt ta tb tm op a b w ∧ w ≤ U a b) → ∀ a b, shr U p q m a b < 1000 → a = b ∨ ∃ w, EDG nt ta tb tm op a b w ∧ w ≤ shr U p q m a b := by
        intro U p q m he hU a b hab
        by_cases hc : a = p ∧ b = q
        · obtain ⟨rfl, rfl⟩ := hc
          rw [shr_at] at hab ⊢
          by_cases hm : m ≤ U a b
          · exact Or.inr ⟨m, he, by omega⟩
          · rw [Nat.min_eq_right (by omega)] at hab ⊢
            exact hU a b hab
        · rw [shr_off hc] at hab ⊢
          exact hU a b hab
      exact key _ _ _ _ (EDG_symm e1) (key _ _ _ _ e1 ih) a b h
theorem edT_mono {ta tb tm : Nat → Nat} {op : Nat → Bool} {T : Nat → Nat → Nat} {j x y : Nat} : ∀ d, edT ta tb tm op T (j + d) x y ≤ edT ta tb tm op T j x y
  | 0 => Nat.le_refl _
  | d + 1 => by
    refine Nat.le_trans ?_ (edT_mono (ta := ta) (tb := tb) (tm := tm) (op := op) (T := T) (j := j) (x := x) (y := y) d)
    rw [show j + (d + 1) = (j + d) + 1 by omega, show edT ta tb tm op T (j + d + 1) = if op (j + d) then shr (shr (edT ta tb tm op T (j + d)) (ta (j + d)) (tb (j + d)) (tm (j + d))) (tb (j + d)) (ta (j + d)) (tm (j + d)) else edT ta tb tm op T (j + d) from rfl]
    split
    · exact Nat.le_trans shr_le shr_le
    · exact Nat.le_refl _
theorem edT_low {nt : Nat} {ta tb tm : Nat → Nat} {op : Nat → Bool} {T : Nat → Nat → Nat} {y b w : Nat} (h : EDG nt ta tb tm op y b w) : edT ta tb tm op T nt y b ≤ w := by
  obtain ⟨k, h1, h2, h3, h4⟩ := h
  obtain ⟨d, rfl⟩ : ∃ d, nt = (k + 1) + d := ⟨nt - (k + 1), by omega⟩
  refine Nat.le_trans (edT_mono d) ?_
  rw [show edT ta tb tm op T (k + 1) = if op k then shr (shr (edT ta tb tm op T k) (ta k) (tb k) (tm k)) (tb k) (ta k) (tm k) else edT ta tb tm op T k from rfl, h2, if_pos rfl]
  rcases h4 with ⟨rfl, rfl⟩ | ⟨rfl, rfl⟩
  · refine Nat.le_trans shr_le ?_
    rw [shr_at]
    omega
  · rw [shr_at]
    omega
theorem rowT_eq {v b : Nat} {T : Nat → Nat → Nat} (h : T v v = 0) : ∀ c x y, rowT v b T c x y = if x = b ∧ y < c then min (T b y) (T b v + T v y) else T x y
  | 0, x, y => by rw [if_neg (by omega)]; rfl
  | c + 1, x, y => by
    have ih := rowT_eq (v := v) (b := b) h c
    have e1 : rowT v b T c b v = T b v := by
      rw [ih]
      split
      · omega
      · rfl
    have e2 : rowT v b T c v c = T v c := by rw [ih, if_neg (by omega)]
    have e3 : rowT v b T c b c = T b c := by rw [ih, if_neg (by omega)]
    rw [show rowT v b T (c + 1) = shr (rowT v b T c) b c (rowT v b T c b v + rowT v b T c v c) from rfl, e1, e2]
    by_cases hc : x = b ∧ y = c
    · obtain ⟨rfl, rfl⟩ := hc
      rw [shr_at, e3, if_pos ⟨rfl, by omega⟩]
      omega
    · rw [shr_off hc, ih]
      by_cases hx : x = b ∧ y < c
      · rw [if_pos hx, if_pos (by omega)]
      · rw [if_neg hx, if_neg (by omega)]
theorem stgT_eq {v ns : Nat} {T : Nat → Nat → Nat} (h : T v v = 0) : ∀ b x y, stgT v ns T b x y = if x < b ∧ y < ns then min (T x y) (T x v + T v y) else T x y
  | 0, x, y => by rw [if_neg (by omega)]; rfl
  | b + 1, x, y => by
    have ih := stgT_eq (v := v) (ns := ns) h b
    have e0 : stgT v ns T b v v = 0 := by
      rw [ih]
      split <;> omega
    have e1 : ∀ y, stgT v ns T b b y = T b y := fun y => by rw [ih, if_neg (by omega)]
    have e2 : ∀ y, stgT v ns T b v y = T v y := fun y => by
      rw [ih]
      split
      · omega
      · rfl
    rw [show stgT v ns T (b + 1) = rowT v b (stgT v ns T b) ns from rfl, rowT_eq e0, e1, e1, e2, ih]
    by_cases hx : x = b ∧ y < ns
    · obtain ⟨rfl, hy⟩ := hx
      rw [if_pos ⟨rfl, hy⟩, if_pos ⟨by omega, hy⟩]
    · rw [if_neg hx]
      by_cases hy : x < b ∧ y < ns
      · rw [if_pos hy, if_pos (by omega)]
      · rw [if_neg hy, if_neg (by omega)]
theorem fwT_S {ns v : Nat} {T : Nat → Nat → Nat} (h : fwT ns T v v v = 0) {x y : Nat} (hx : x < ns) (hy : y < ns) : fwT ns T (v + 1) x y = min (fwT ns T v x y) (fwT ns T v x v + fwT ns T v v y) := by
  rw [show fwT ns T (v + 1) = stgT v ns (fwT ns T v) ns from rfl, stgT_eq h, if_pos ⟨hx, hy⟩]
theorem fwT_0 {ns : Nat} {T : Nat → Nat → Nat} (h : ∀ x, T x x = 0) (v x : Nat) : fwT ns T v x x = 0 := by
  have h1 := fwT_le (ns := ns) (T := T) (x := x) (y := x) v
  rw [h x] at h1
  omega
theorem fw_tri {ns : Nat} {T : Nat → Nat → Nat} (h : ∀ x, T x x = 0) : ∀ v, v ≤ ns → ∀ a b c, a < ns → b < v → c < ns → fwT ns T v a c ≤ fwT ns T v a b + fwT ns T v b c
  | 0, _, a, b, c, _, hb, _ => absurd hb (by omega)
  | v + 1, hv, a, b, c, ha, hb, hc => by
    have ih := fw_tri (ns := ns) h v (by omega)
    have z := fwT_0 (ns := ns) h v v
    rw [fwT_S z ha hc, fwT_S z ha (show b < ns by omega), fwT_S z (show b < ns by omega) hc]
    by_cases hbv : b = v
    · subst hbv
      omega
    · have q1 := ih a b c ha (by omega) hc
      have q2 := ih v b c (by omega) (by omega) hc
      have q3 := ih a b v ha (by omega) (by omega)
      omega
theorem fw_pred {ns nt : Nat} {ta tb tm : Nat → Nat} {op : Nat → Bool} {T : Nat → Nat → Nat} (h : ∀ x, T x x = 0) (hp : ∀ a b, a < ns → b < ns → T a b < 1000 → a = b ∨ ∃ y w, y < ns ∧ EDG nt ta tb tm op y b w ∧ T a y + w ≤ T a b) (hM : ∀ x y, T x y ≤ 1000) : ∀ v, v ≤ ns → ∀ a b, a < ns → b < ns → fwT ns T v a b < 1000 → a = b ∨ ∃ y w, y < ns ∧ EDG nt ta tb tm op y b w ∧ fwT ns T v a y + w ≤ fwT ns T v a b
  | 0, _, a, b, ha, hb, hl => hp a b ha hb hl
  | v + 1, hv, a, b, ha, hb, hl => by
    have ih := fw_pred (nt := nt) (ta := ta) (tb := tb) (tm := tm) (op := op) h hp hM v (by omega)
    have z := fwT_0 (ns := ns) h v v
    rw [fwT_S z ha hb] at hl ⊢
    have hM1 := Nat.le_trans (fwT_le (ns := ns) (T := T) (x := a) (y := b) v) (hM a b)
    by_cases hc : fwT ns T v a b ≤ fwT ns T v a v + fwT ns T v v b
    · rw [Nat.min_eq_left hc] at hl ⊢
      rcases ih a b ha hb hl with q | ⟨y, w, h1, h2, h3⟩
      · exact Or.inl q
      · refine Or.inr ⟨y, w, h1, h2, ?_⟩
        rw [fwT_S z ha h1]
        omega
    · rw [Nat.min_eq_right (by omega)] at hl ⊢
      rcases ih v b (by omega) hb (by omega) with q | ⟨y, w, h1, h2, h3⟩
      · subst q
        omega
      · refine Or.inr ⟨y, w, h1, h2, ?_⟩
        rw [fwT_S z ha h1]
        omega
theorem tab_ok {ns nt : Nat} {ta tb tm : Nat → Nat} {op : Nat → Bool} (ht : ∀ k, k < nt → ta k < ns ∧ tb k < ns) : TAB ns nt ta tb tm op (tabT nt ta tb tm op ns) := by
  have hE : ∀ y b w, EDG nt ta tb tm op y b w → y < ns ∧ b < ns := fun y b w h => by
    obtain ⟨k, h1, -, -, h4⟩ := h
    have := ht k h1
    rcases h4 with ⟨rfl, rfl⟩ | ⟨rfl, rfl⟩
    · exact this
    · exact ⟨this.2, this.1⟩
  have h0 : ∀ x, edT ta tb tm op T00 nt x x = 0 := fun x => by
    have h := edT_le (ta := ta) (tb := tb) (tm := tm) (op := op) (T := T00) (x := x) (y := x) nt
    rw [show T00 x x = 0 by unfold T00; rw [if_pos rfl]] at h
    omega
  have hM : ∀ x y, edT ta tb tm op T00 nt x y ≤ 1000 := fun x y => Nat.le_trans (edT_le nt) T00_le
  refine ⟨fun x y => Nat.le_trans (fwT_le ns) (hM x y), fwT_0 h0 ns, fun y b w h => Nat.le_trans (fwT_le ns) (edT_low h), fun a b c ha hb hc => fw_tri h0 ns (Nat.le_refl _) a b c ha hb hc, fun a b ha hb hl => ?_⟩
  refine fw_pred h0 (fun a b ha hb hl => ?_) hM ns (Nat.le_refl _) a b ha hb hl
  rcases edT_edge (nt := nt) nt (Nat.le_refl _) a b hl with q | ⟨w, h1, h2⟩
  · exact Or.inl q
  · exact Or.inr ⟨a, w, ha, h1, by rw [h0]; omega⟩
section TabUse
variable {ns nt : Nat} {ta tb tm : Nat → Nat} {op : Nat → Bool} {T : Nat → Nat → Nat}
theorem TAB.sym_le (h : TAB ns nt ta tb tm op T) (ht : ∀ k, k < nt → 1 ≤ tm k) : ∀ n a b, a < ns → b < ns → T a b = n → n < 1000 → T b a ≤ n := by
  obtain ⟨h1, h2, h3, h4, h5⟩ := h
  intro n
  induction n using Nat.strongRecOn with
  | _ n ih =>
    intro a b ha hb hn hl
    rcases h5 a b ha hb (by omega) with q | ⟨y, w, hy, he, hw⟩
    · subst q
      rw [h2]
      omega
    · have hw1 : 1 ≤ w := by
        obtain ⟨k, k1, -, rfl, -⟩ := he
        exact ht k k1
      have i1 := ih (T a y) (by omega) a y ha hy rfl (by omega)
      have e1 := h3 b y w (EDG_symm he)
      have t1 := h4 b y a hb hy ha
      omega
theorem TAB.sym (h : TAB ns nt ta tb tm op T) (ht : ∀ k, k < nt → 1 ≤ tm k) {a b : Nat} (ha : a < ns) (hb : b < ns) : T a b = T b a := by
  have m1 := h.1 a b
  have m2 := h.1 b a
  by_cases q : T a b < 1000
  · have r := h.sym_le ht (T a b) a b ha hb rfl q
    by_cases q2 : T b a < 1000
    · have r2 := h.sym_le ht (T b a) b a hb ha rfl q2
      omega
    · omega
  · by_cases q2 : T b a < 1000
    · have r2 := h.sym_le ht (T b a) b a hb ha rfl q2
      omega
    · omega
end TabUse
