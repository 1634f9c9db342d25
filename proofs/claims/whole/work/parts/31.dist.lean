/-! DISTANCES: the class's table -/
def dS (S : Nat → Int32) (T : Nat → Nat → Nat) : Nat → Int32 := fun k => if 251 ≤ k ∧ k < 315 then nI (T ((k - 251) / 8) ((k - 251) % 8)) else S k
theorem dS_in {S : Nat → Int32} {T : Nat → Nat → Nat} {a b : Nat} (ha : a < 8) (hb : b < 8) : dS S T (251 + (a * 8 + b)) = nI (T a b) := by
  unfold dS
  rw [if_pos ⟨by omega, by omega⟩, show (251 + (a * 8 + b) - 251) / 8 = a by omega, show (251 + (a * 8 + b) - 251) % 8 = b by omega]
theorem dS_out {S : Nat → Int32} {T : Nat → Nat → Nat} {k : Nat} (h : k < 251) : dS S T k = S k := by
  unfold dS
  rw [if_neg (by omega)]
def up2 (T : Nat → Nat → Nat) (a b v : Nat) : Nat → Nat → Nat := fun x y => if x = a ∧ y = b then v else T x y
theorem dS_upd {S : Nat → Int32} {T : Nat → Nat → Nat} {a b v : Nat} (ha : a < 8) (hb : b < 8) : upd (dS S T) (251 + (a * 8 + b)) (nI v) = dS S (up2 T a b v) := by
  funext k
  unfold upd dS up2
  by_cases h : k = 251 + (a * 8 + b)
  · rw [if_pos h, if_pos (by omega), if_pos (by omega)]
  · rw [if_neg h]
    by_cases h2 : 251 ≤ k ∧ k < 315
    · rw [if_pos h2, if_pos h2, if_neg (by omega)]
    · rw [if_neg h2, if_neg h2]
def shr (T : Nat → Nat → Nat) (a b m : Nat) : Nat → Nat → Nat := up2 T a b (min m (T a b))
theorem shr_le {T : Nat → Nat → Nat} {a b m x y : Nat} : shr T a b m x y ≤ T x y := by
  unfold shr up2
  split
  · rename_i h; obtain ⟨rfl, rfl⟩ := h; omega
  · omega
theorem up2_same {T : Nat → Nat → Nat} {a b : Nat} : up2 T a b (T a b) = T := by
  funext x y
  unfold up2
  by_cases h : x = a ∧ y = b
  · obtain ⟨rfl, rfl⟩ := h
    rw [if_pos ⟨rfl, rfl⟩]
  · rw [if_neg h]
theorem dist_n {S : Nat → Int32} {T : Nat → Nat → Nat} {a b : Nat} (ha : a < 8) (hb : b < 8) : f_X4_distanceBetween (dS S T) (nI a) (nI b) = some (nI (T a b)) := by
  unfold f_X4_distanceBetween
  rw [if_neg (nI_pos (by omega)), l_8, if_neg (nI_ge ha (by omega)), if_neg (nI_pos (by omega)), if_pos (nI_lt hb (by omega)), n_mul, nI_add, gd_t (inr_n (by omega) (by omega)), ix_n (by omega), dS_in ha hb]
theorem short_n {S : Nat → Int32} {T : Nat → Nat → Nat} {a b m : Nat} (ha : a < 8) (hb : b < 8) (hm : m < 2 ^ 31) (hT : T a b < 2 ^ 31) : f_X4_shorten (dS S T) (nI a) (nI b) (nI m) = some (dS S (shr T a b m)) := by
  unfold f_X4_shorten
  rw [l_8, n_mul, nI_add, bnd_e, if_neg (nI_pos (by omega)), show (64 : Int32) = nI 64 from rfl, if_neg (nI_ge (by omega) (by omega)), gd_t (inr_n (by omega) (by omega)), ix_n (by omega), dS_in ha hb]
  by_cases h : T a b ≤ m
  · rw [if_pos (nI_le h hm)]
    unfold shr
    rw [Nat.min_eq_right h, up2_same]
  · rw [if_neg (nI_ge (by omega) hT), gd_t (inr_n (by omega) (by omega)), bnd_e, dS_upd ha hb]
    unfold shr
    rw [Nat.min_eq_left (by omega)]
/-- the first n places of the table are begun -/
def T00 (a b : Nat) : Nat := if a = b then 0 else 1000
def iS (S : Nat → Int32) (n : Nat) : Nat → Int32 := fun k => if 251 ≤ k ∧ k < 251 + n then nI (T00 ((k - 251) / 8) ((k - 251) % 8)) else S k
theorem iS_upd {S : Nat → Int32} {a b : Nat} (ha : a < 8) (hb : b < 8) : upd (iS S (a * 8 + b)) (251 + (a * 8 + b)) (nI (T00 a b)) = iS S (a * 8 + (b + 1)) := by
  funext k
  unfold upd iS
  by_cases h : k = 251 + (a * 8 + b)
  · rw [if_pos h, if_pos (by omega), h, show (251 + (a * 8 + b) - 251) / 8 = a by omega, show (251 + (a * 8 + b) - 251) % 8 = b by omega]
  · rw [if_neg h]
    by_cases h2 : 251 ≤ k ∧ k < 251 + (a * 8 + b)
    · rw [if_pos h2, if_pos (by omega)]
    · rw [if_neg h2, if_neg (by omega)]
theorem iS_64 {S : Nat → Int32} : iS S 64 = dS S T00 := rfl
theorem iS_0 {S : Nat → Int32} : iS S 0 = S := by
  funext k
  unfold iS
  rw [if_neg (by omega)]
theorem ini_in {S : Nat → Int32} {a : Nat} {K : (Nat → Int32) → Option (Nat → Int32)} (ha : a < 8) : ∀ (d b N : Nat), b + d = 8 → d + 1 ≤ N → l_X4_measureDistances_10 (nI a) K N (iS S (a * 8 + b)) (nI b) = K (iS S ((a + 1) * 8)) := by
  intro d
  induction d with
  | zero =>
    intro b N hb hN
    obtain ⟨N, rfl⟩ : ∃ m, N = m + 1 := ⟨N - 1, by omega⟩
    rw [l_X4_measureDistances_10, l_8, if_pos (nI_le (by omega) (by omega)), show a * 8 + b = (a + 1) * 8 by omega]
  | succ d ih =>
    intro b N hb hN
    obtain ⟨N, rfl⟩ : ∃ m, N = m + 1 := ⟨N - 1, by omega⟩
    rw [l_X4_measureDistances_10, l_8, if_neg (nI_ge (by omega) (by omega))]
    have e := ih (b + 1) N (by omega) (by omega)
    by_cases h : a = b
    · rw [if_pos (by rw [h]), n_mul, nI_add, gd_t (inr_n (by omega) (by omega)), ix_n (by omega), bnd_e, l_1, nI_add, l_0, show (0 : Nat) = T00 a b by unfold T00; rw [if_pos h], iS_upd ha (by omega)]
      exact e
    · rw [if_neg (fun q => h ((nI_eq (by omega) (by omega)).mp q)), n_mul, nI_add, gd_t (inr_n (by omega) (by omega)), ix_n (by omega), bnd_e, l_1, nI_add, l_1000, show (1000 : Nat) = T00 a b by unfold T00; rw [if_neg h], iS_upd ha (by omega)]
      exact e
theorem ini_out {S : Nat → Int32} {K : (Nat → Int32) → Option (Nat → Int32)} : ∀ (d a N : Nat), a + d = 8 → d + 1 ≤ N → l_X4_measureDistances_2 K N (iS S (a * 8)) (nI a) = K (dS S T00) := by
  intro d
  induction d with
  | zero =>
    intro a N ha hN
    obtain ⟨N, rfl⟩ : ∃ m, N = m + 1 := ⟨N - 1, by omega⟩
    rw [l_X4_measureDistances_2, l_8, if_pos (nI_le (by omega) (by omega)), show a * 8 = 64 by omega, iS_64]
  | succ d ih =>
    intro a N ha hN
    obtain ⟨N, rfl⟩ : ∃ m, N = m + 1 := ⟨N - 1, by omega⟩
    rw [l_X4_measureDistances_2, l_8, if_neg (nI_ge (by omega) (by omega)), l_0, show a * 8 = a * 8 + 0 by omega, ini_in (by omega) 8 0 FU (by omega) (by unfold FU; omega), l_1, nI_add]
    exact ih (a + 1) N (by omega) (by omega)
/-- the tracks of a vector -/
def TRK (S : Nat → Int32) (nt : Nat) (ta tb tm : Nat → Nat) (op : Nat → Bool) : Prop := S 2 = nI nt ∧ nt ≤ 12 ∧ ∀ k, k < nt → S (39 + 4 * k) = nI (ta k) ∧ S (39 + 4 * k + 1) = nI (tb k) ∧ S (39 + 4 * k + 2) = nI (tm k) ∧ S (39 + 4 * k + 3) = (if op k then 1 else 0) ∧ ta k < 8 ∧ tb k < 8 ∧ 1 ≤ tm k ∧ tm k ≤ 9
def edT (ta tb tm : Nat → Nat) (op : Nat → Bool) (T : Nat → Nat → Nat) : Nat → Nat → Nat → Nat
  | 0 => T
  | k + 1 => if op k then shr (shr (edT ta tb tm op T k) (ta k) (tb k) (tm k)) (tb k) (ta k) (tm k) else edT ta tb tm op T k
theorem edT_le {ta tb tm : Nat → Nat} {op : Nat → Bool} {T : Nat → Nat → Nat} {x y : Nat} : ∀ k, edT ta tb tm op T k x y ≤ T x y
  | 0 => Nat.le_refl _
  | k + 1 => by
    have h := edT_le (ta := ta) (tb := tb) (tm := tm) (op := op) (T := T) (x := x) (y := y) k
    unfold edT
    split
    · exact Nat.le_trans shr_le (Nat.le_trans shr_le h)
    · exact h
theorem ed_loop {S : Nat → Int32} {nt : Nat} {ta tb tm : Nat → Nat} {op : Nat → Bool} {T : Nat → Nat → Nat} {K : (Nat → Int32) → Option (Nat → Int32)} (hS : TRK S nt ta tb tm op) (hT : ∀ x y, T x y ≤ 1000) : ∀ (d k N : Nat), k + d = nt → d + 1 ≤ N → l_X4_measureDistances_53 K N (dS S (edT ta tb tm op T k)) (nI k) = K (dS S (edT ta tb tm op T nt)) := by
  obtain ⟨h2, hn, hk⟩ := hS
  intro d
  induction d with
  | zero =>
    intro k N hd hN
    obtain ⟨N, rfl⟩ : ∃ m, N = m + 1 := ⟨N - 1, by omega⟩
    rw [l_X4_measureDistances_53, dS_out (by omega), h2, if_pos (nI_le (by omega) (by omega)), show k = nt by omega]
  | succ d ih =>
    intro k N hd hN
    obtain ⟨N, rfl⟩ : ∃ m, N = m + 1 := ⟨N - 1, by omega⟩
    have e := ih (k + 1) N (by omega) (by omega)
    obtain ⟨e0, e1, e2, e3, ha, hb, hm1, hm2⟩ := hk k (by omega)
    have hle : ∀ x y, edT ta tb tm op T k x y ≤ 1000 := fun x y => Nat.le_trans (edT_le k) (hT x y)
    have hg : inr (nI k) 12 = true := inr_n (by omega) (by omega)
    rw [l_X4_measureDistances_53, dS_out (by omega), h2, if_neg (nI_ge (by omega) (by omega)), gd_t hg, ix_n (by omega), dS_out (by omega), e3]
    rw [show edT ta tb tm op T (k + 1) = if op k then shr (shr (edT ta tb tm op T k) (ta k) (tb k) (tm k)) (tb k) (ta k) (tm k) else edT ta tb tm op T k from rfl] at e
    cases hop : op k with
    | false =>
      rw [hop, if_neg (by decide)] at e
      rw [show (if false = true then (1 : Int32) else 0) = 0 from rfl, if_pos rfl, l_1, nI_add]
      exact e
    | true =>
      rw [hop, if_pos rfl] at e
      rw [show (if true = true then (1 : Int32) else 0) = 1 from rfl, if_neg (by decide), gd_t hg, gd_t hg, gd_t hg, dS_out (by omega), dS_out (by omega), dS_out (by omega), e0, e1, e2, short_n ha hb (by omega) (by have := hle (ta k) (tb k); omega), bdc_s, gd_t hg, gd_t hg, gd_t hg, dS_out (by omega), dS_out (by omega), dS_out (by omega), e0, e1, e2, short_n hb ha (by omega) (by have := hle (tb k) (ta k); have := shr_le (T := edT ta tb tm op T k) (a := ta k) (b := tb k) (m := tm k) (x := tb k) (y := ta k); omega), bdc_s, l_1, nI_add]
      exact e
/-! the three loops -/
def rowT (v b : Nat) (T : Nat → Nat → Nat) : Nat → Nat → Nat → Nat
  | 0 => T
  | c + 1 => shr (rowT v b T c) b c (rowT v b T c b v + rowT v b T c v c)
def stgT (v ns : Nat) (T : Nat → Nat → Nat) : Nat → Nat → Nat → Nat
  | 0 => T
  | b + 1 => rowT v b (stgT v ns T b) ns
def fwT (ns : Nat) (T : Nat → Nat → Nat) : Nat → Nat → Nat → Nat
  | 0 => T
  | v + 1 => stgT v ns (fwT ns T v) ns
theorem rowT_le {v b x y : Nat} {T : Nat → Nat → Nat} : ∀ c, rowT v b T c x y ≤ T x y
  | 0 => Nat.le_refl _
  | c + 1 => by
    unfold rowT
    exact Nat.le_trans shr_le (rowT_le c)
theorem stgT_le {v ns x y : Nat} {T : Nat → Nat → Nat} : ∀ b, stgT v ns T b x y ≤ T x y
  | 0 => Nat.le_refl _
  | b + 1 => by
    unfold stgT
    exact Nat.le_trans (rowT_le _) (stgT_le b)
theorem fwT_le {ns x y : Nat} {T : Nat → Nat → Nat} : ∀ v, fwT ns T v x y ≤ T x y
  | 0 => Nat.le_refl _
  | v + 1 => by
    unfold fwT
    exact Nat.le_trans (stgT_le _) (fwT_le v)
theorem row_loop {S : Nat → Int32} {ns v b : Nat} {T : Nat → Nat → Nat} {K : (Nat → Int32) → Option (Nat → Int32)} (h1 : S 1 = nI ns) (hn : ns ≤ 8) (hv : v < 8) (hb : b < 8) (hT : ∀ x y, T x y ≤ 1000) : ∀ (d c N : Nat), c + d = ns → d + 1 ≤ N → l_X4_measureDistances_163 (nI v) (nI b) K N (dS S (rowT v b T c)) (nI c) = K (dS S (rowT v b T ns)) := by
  intro d
  induction d with
  | zero =>
    intro c N hd hN
    obtain ⟨N, rfl⟩ : ∃ m, N = m + 1 := ⟨N - 1, by omega⟩
    rw [l_X4_measureDistances_163, dS_out (by omega), h1, if_pos (nI_le (by omega) (by omega)), show c = ns by omega]
  | succ d ih =>
    intro c N hd hN
    obtain ⟨N, rfl⟩ : ∃ m, N = m + 1 := ⟨N - 1, by omega⟩
    have e := ih (c + 1) N (by omega) (by omega)
    have hle : ∀ x y, rowT v b T c x y ≤ 1000 := fun x y => Nat.le_trans (rowT_le c) (hT x y)
    have q1 := hle b v
    have q2 := hle v c
    have q3 := hle b c
    rw [l_X4_measureDistances_163, dS_out (by omega), h1, if_neg (nI_ge (by omega) (by omega)), dist_n hb hv, bdc_s, dist_n hv (by omega), bdc_s, nI_add, short_n hb (by omega) (by omega) (by omega), bdc_s, l_1, nI_add]
    exact e
theorem stg_loop {S : Nat → Int32} {ns v : Nat} {T : Nat → Nat → Nat} {K : (Nat → Int32) → Option (Nat → Int32)} (h1 : S 1 = nI ns) (hn : ns ≤ 8) (hv : v < 8) (hT : ∀ x y, T x y ≤ 1000) : ∀ (d b N : Nat), b + d = ns → d + 1 ≤ N → l_X4_measureDistances_153 (nI v) K N (dS S (stgT v ns T b)) (nI b) = K (dS S (stgT v ns T ns)) := by
  intro d
  induction d with
  | zero =>
    intro b N hd hN
    obtain ⟨N, rfl⟩ : ∃ m, N = m + 1 := ⟨N - 1, by omega⟩
    rw [l_X4_measureDistances_153, dS_out (by omega), h1, if_pos (nI_le (by omega) (by omega)), show b = ns by omega]
  | succ d ih =>
    intro b N hd hN
    obtain ⟨N, rfl⟩ : ∃ m, N = m + 1 := ⟨N - 1, by omega⟩
    have e := ih (b + 1) N (by omega) (by omega)
    have r := row_loop (S := S) (ns := ns) (v := v) (b := b) (T := stgT v ns T b) (K := fun S26 => l_X4_measureDistances_153 (nI v) K N S26 (nI b + (1 : Int32))) h1 hn hv (by omega) (fun x y => Nat.le_trans (stgT_le b) (hT x y)) ns 0 FU (by omega) (by unfold FU; omega)
    rw [l_X4_measureDistances_153, dS_out (by omega), h1, if_neg (nI_ge (by omega) (by omega)), l_0]
    refine (Eq.trans ?_ r).trans ?_
    · rfl
    · show l_X4_measureDistances_153 (nI v) K N (dS S (rowT v b (stgT v ns T b) ns)) (nI b + (1 : Int32)) = _
      rw [l_1, nI_add]
      exact e
theorem fw_loop {S : Nat → Int32} {ns : Nat} {T : Nat → Nat → Nat} (h1 : S 1 = nI ns) (hn : ns ≤ 8) (hT : ∀ x y, T x y ≤ 1000) : ∀ (d v N : Nat), v + d = ns → d + 1 ≤ N → l_X4_measureDistances_143 N (dS S (fwT ns T v)) (nI v) = some (dS S (fwT ns T ns)) := by
  intro d
  induction d with
  | zero =>
    intro v N hd hN
    obtain ⟨N, rfl⟩ : ∃ m, N = m + 1 := ⟨N - 1, by omega⟩
    rw [l_X4_measureDistances_143, dS_out (by omega), h1, if_pos (nI_le (by omega) (by omega)), show v = ns by omega]
  | succ d ih =>
    intro v N hd hN
    obtain ⟨N, rfl⟩ : ∃ m, N = m + 1 := ⟨N - 1, by omega⟩
    have e := ih (v + 1) N (by omega) (by omega)
    have r := stg_loop (S := S) (ns := ns) (v := v) (T := fwT ns T v) (K := fun S27 => l_X4_measureDistances_143 N S27 (nI v + (1 : Int32))) h1 hn (by omega) (fun x y => Nat.le_trans (fwT_le v) (hT x y)) ns 0 FU (by omega) (by unfold FU; omega)
    rw [l_X4_measureDistances_143, dS_out (by omega), h1, if_neg (nI_ge (by omega) (by omega)), l_0]
    refine (Eq.trans ?_ r).trans ?_
    · rfl
    · show l_X4_measureDistances_143 N (dS S (stgT v ns (fwT ns T v) ns)) (nI v + (1 : Int32)) = _
      rw [l_1, nI_add]
      exact e
def tabT (nt : Nat) (ta tb tm : Nat → Nat) (op : Nat → Bool) (ns : Nat) : Nat → Nat → Nat := fwT ns (edT ta tb tm op T00 nt) ns
theorem T00_le {x y : Nat} : T00 x y ≤ 1000 := by
  unfold T00
  split <;> omega
theorem measure_n {S : Nat → Int32} {ns nt : Nat} {ta tb tm : Nat → Nat} {op : Nat → Bool} (h1 : S 1 = nI ns) (hn : ns ≤ 8) (hS : TRK S nt ta tb tm op) : f_X4_measureDistances S = some (dS S (tabT nt ta tb tm op ns)) := by
  unfold f_X4_measureDistances
  have hnt := hS.2.1
  have a := ini_out (S := S) (K := fun (S7 : Nat → Int32) => l_X4_measureDistances_53 (fun (S19 : Nat → Int32) => l_X4_measureDistances_143 FU S19 (0 : Int32)) FU S7 (0 : Int32)) 8 0 FU (by omega) (by unfold FU; omega)
  rw [show 0 * 8 = 0 by omega, iS_0] at a
  refine Eq.trans a ?_
  have b := ed_loop (S := S) (T := T00) (K := fun (S19 : Nat → Int32) => l_X4_measureDistances_143 FU S19 (0 : Int32)) hS (fun _ _ => T00_le) nt 0 FU (by omega) (by unfold FU; omega)
  refine Eq.trans b ?_
  exact fw_loop (S := S) (T := edT ta tb tm op T00 nt) h1 hn (fun x y => Nat.le_trans (edT_le nt) T00_le) ns 0 FU (by omega) (by unfold FU; omega)
