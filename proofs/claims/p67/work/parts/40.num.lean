/-! THE PURE PART over integers: zI an integer as an int, zV a vector of integers as a vector of ints -/
def zI (z : Int) : Int32 := Int32.ofInt z
def zV (s : Nat → Int) : Nat → Int32 := fun k => zI (s k)
def zu (s : Nat → Int) (k : Nat) (v : Int) : Nat → Int := fun j => if j = k then v else s j
def zR (z : Int) : Prop := -2147483648 ≤ z ∧ z < 2147483648
theorem z_toInt {z : Int} (h : zR z) : (zI z).toInt = z := Int32.toInt_ofInt_of_le (by unfold zR at h; omega) (by unfold zR at h; omega)
theorem z_lit (n : Nat) : (OfNat.ofNat n : Int32) = zI (OfNat.ofNat n) := (Int32.ofInt_eq_ofNat (n := n)).symm
theorem z_n (n : Nat) : nI n = zI (n : Int) := (Int32.ofInt_eq_ofNat (n := n)).symm
theorem z_add (a b : Int) : zI a + zI b = zI (a + b) := (Int32.ofInt_add a b).symm
theorem z_mul (a b : Int) : zI a * zI b = zI (a * b) := (Int32.ofInt_mul a b).symm
theorem z_neg (a : Int) : -zI a = zI (-a) := Int32.neg_ofInt
theorem z_sub (a b : Int) : zI a - zI b = zI (a - b) := (Int32.ofInt_sub a b).symm
theorem z_of (x : Int32) : zI x.toInt = x := Int32.ofInt_toInt x
theorem z_lt {a b : Int} (ha : zR a) (hb : zR b) : (zI a < zI b) = (a < b) := by
  rw [Int32.lt_iff_toInt_lt, z_toInt ha, z_toInt hb]
theorem z_le {a b : Int} (ha : zR a) (hb : zR b) : (zI a ≤ zI b) = (a ≤ b) := by
  rw [Int32.le_iff_toInt_le, z_toInt ha, z_toInt hb]
theorem z_eq {a b : Int} (ha : zR a) (hb : zR b) : (zI a = zI b) = (a = b) := by
  rw [← Int32.toInt_inj, z_toInt ha, z_toInt hb]
section If
variable {R : Type} {a b : Int} {A B : R}
theorem z_ltT {_ : Decidable (zI a < zI b)} (h : a < b) (ha : -2147483648 ≤ a) (hb : b < 2147483648) : (if zI a < zI b then A else B) = A := if_pos (by rw [z_lt ⟨ha, by omega⟩ ⟨by omega, hb⟩]; exact h)
theorem z_ltF {_ : Decidable (zI a < zI b)} (h : b ≤ a) (hb : -2147483648 ≤ b) (ha : a < 2147483648) : (if zI a < zI b then A else B) = B := if_neg (by rw [z_lt ⟨by omega, ha⟩ ⟨hb, by omega⟩]; omega)
theorem z_leT {_ : Decidable (zI a ≤ zI b)} (h : a ≤ b) (ha : -2147483648 ≤ a) (hb : b < 2147483648) : (if zI a ≤ zI b then A else B) = A := if_pos (by rw [z_le ⟨ha, by omega⟩ ⟨by omega, hb⟩]; exact h)
theorem z_leF {_ : Decidable (zI a ≤ zI b)} (h : b < a) (hb : -2147483648 ≤ b) (ha : a < 2147483648) : (if zI a ≤ zI b then A else B) = B := if_neg (by rw [z_le ⟨by omega, ha⟩ ⟨hb, by omega⟩]; omega)
theorem z_eqT {_ : Decidable (zI a = zI b)} (h : a = b) : (if zI a = zI b then A else B) = A := if_pos (by rw [h])
theorem z_eqF {_ : Decidable (zI a = zI b)} (h : a ≠ b) (h1 : -2147483648 ≤ a) (h2 : a < 2147483648) (h3 : -2147483648 ≤ b) (h4 : b < 2147483648) : (if zI a = zI b then A else B) = B := if_neg (by rw [z_eq ⟨h1, h2⟩ ⟨h3, h4⟩]; exact h)
end If
theorem z_v (s : Nat → Int) (k : Nat) : zV s k = zI (s k) := (rfl)
theorem z_upd (s : Nat → Int) (k : Nat) (v : Int) : upd (zV s) k (zI v) = zV (zu s k v) := by
  funext j
  unfold upd zV zu
  by_cases h : j = k
  · rw [if_pos h, if_pos h]
  · rw [if_neg h, if_neg h]
theorem z_ue {s : Nat → Int} {k j : Nat} {v : Int} (h : j = k) : zu s k v j = v := if_pos h
theorem z_un {s : Nat → Int} {k j : Nat} {v : Int} (h : j ≠ k) : zu s k v j = s j := if_neg h
theorem z_ixz {z : Int} (h1 : -2147483648 ≤ z) (h2 : z < 2147483648) : ix (zI z) = z.toNat := Int32.toNatClampNeg_ofInt_of_le (by omega) (by omega)
theorem z_ixn {m : Nat} (h : m < 2147483648) : ix (zI (m : Int)) = m := by
  rw [z_ixz (by omega) (by omega), Int.toNat_natCast]
theorem z_ixo {m : Nat} {z : Int} (h0 : 0 ≤ z) (h : (m : Int) + z < 2147483648) : ix (zI ((m : Int) + z)) = m + z.toNat := by
  rw [z_ixz (by omega) (by omega)]
  omega
theorem z_ix0 : ix (zI 0) = 0 := z_ixn (m := 0) (by omega)
theorem z_ix1 : ix (zI 1) = 1 := z_ixn (m := 1) (by omega)
theorem z_ix2 : ix (zI 2) = 2 := z_ixn (m := 2) (by omega)
theorem z_ix3 : ix (zI 3) = 3 := z_ixn (m := 3) (by omega)
theorem z_ix4 : ix (zI 4) = 4 := z_ixn (m := 4) (by omega)
theorem z_ix5 : ix (zI 5) = 5 := z_ixn (m := 5) (by omega)
theorem z_ix6 : ix (zI 6) = 6 := z_ixn (m := 6) (by omega)
theorem z_inr {z : Int} {n : Nat} (h1 : 0 ≤ z) (h2 : z < n) (h3 : z < 2147483648) : inr (zI z) n = true := by
  unfold inr
  rw [z_ixz (by omega) h3, Bool.and_eq_true, Bool.not_eq_true', decide_eq_false_iff_not, Nat.blt_eq]
  refine ⟨?_, by omega⟩
  rw [show (0 : Int32) = zI 0 from z_lit 0, z_lt ⟨by omega, h3⟩ ⟨by omega, by omega⟩]
  omega
theorem z_gd {R : Type} {K : Option R} : gd true K = K := (rfl)
theorem z_bnd {A R : Type} {x : A} {K : A → Option R} : bnd x K = K x := (rfl)
theorem z_jn {A R : Type} {x : A} {K : A → Option R} : jn x K = K x := (rfl)
theorem z_bdc {A R : Type} {a : A} {K : A → Option R} : bdc (some a) K = K a := (rfl)
theorem z_bd2 {A B R : Type} {a : A} {b : B} {K : A → B → Option R} : bd2 (some (a, b)) K = K a b := (rfl)
theorem z_opn {R : Type} {K0 : Option R} {K : Nat → Option R} : opc none K0 K = K0 := (rfl)
theorem z_ops {R : Type} {K0 : Option R} {K : Nat → Option R} {i : Nat} : opc (some i) K0 K = K i := (rfl)
theorem z_z01 {z : Int} (h : z = 0 ∨ z = 1) : z01 (zI z) = true := by
  rcases h with rfl | rfl <;> rfl
theorem z_cs (i : Nat) : ((i + 1 : Nat) : Int) = (i : Int) + 1 := (rfl)
/-! loops -/
def z_ct (p : Nat → Bool) : Nat → Nat → Int
  | _, 0 => 0
  | i, d + 1 => (if p i then 1 else 0) + z_ct p (i + 1) d
theorem z_ct_b {p : Nat → Bool} : ∀ d i, 0 ≤ z_ct p i d ∧ z_ct p i d ≤ d
  | 0, i => by simp [z_ct]
  | d + 1, i => by
    have h := z_ct_b (p := p) d (i + 1)
    unfold z_ct
    split <;> omega
theorem z_ct_c {p q : Nat → Bool} : ∀ d i, (∀ j, i ≤ j → j < i + d → p j = q j) → z_ct p i d = z_ct q i d
  | 0, i, _ => rfl
  | d + 1, i, h => by
    unfold z_ct
    rw [h i (by omega) (by omega), z_ct_c d (i + 1) (fun j h1 h2 => h j (by omega) (by omega))]
theorem z_cnt {R : Type} {l : Nat → Int32 → Int32 → Option R} {K : Int → Option R} {n : Nat} {p : Nat → Bool}
    (hs : ∀ N x (i : Nat), i < n → l (N + 1) (zI x) (zI i) = l N (zI (x + if p i then 1 else 0)) (zI ((i : Int) + 1)))
    (he : ∀ N x, l (N + 1) (zI x) (zI n) = K x) : ∀ d i N x, i + d = n → d < N → l N (zI x) (zI (i : Int)) = K (x + z_ct p i d)
  | 0, i, N, x, h1, h2 => by
    obtain ⟨N, rfl⟩ : ∃ m, N = m + 1 := ⟨N - 1, by omega⟩
    rw [show i = n by omega, he, show z_ct p n 0 = 0 from rfl, Int.add_zero]
  | d + 1, i, N, x, h1, h2 => by
    obtain ⟨N, rfl⟩ : ∃ m, N = m + 1 := ⟨N - 1, by omega⟩
    rw [hs N x i (by omega), ← z_cs, z_cnt hs he d (i + 1) N _ (by omega) (by omega)]
    rw [show z_ct p i (d + 1) = (if p i then 1 else 0) + z_ct p (i + 1) d from rfl, Int.add_assoc]
/-- the first place from i on, of d places, where p holds -/
def z_ff (p : Nat → Bool) : Nat → Nat → Option Nat
  | _, 0 => none
  | i, d + 1 => if p i then some i else z_ff p (i + 1) d
theorem z_ff_c {p q : Nat → Bool} : ∀ d i, (∀ j, i ≤ j → j < i + d → p j = q j) → z_ff p i d = z_ff q i d
  | 0, i, _ => rfl
  | d + 1, i, h => by
    unfold z_ff
    rw [h i (by omega) (by omega), z_ff_c d (i + 1) (fun j h1 h2 => h j (by omega) (by omega))]
theorem z_ff_s {p : Nat → Bool} : ∀ d i k, z_ff p i d = some k → i ≤ k ∧ k < i + d ∧ p k = true ∧ ∀ j, i ≤ j → j < k → p j = false
  | 0, i, k, h => by cases h
  | d + 1, i, k, h => by
    unfold z_ff at h
    by_cases hp : p i = true
    · rw [if_pos hp] at h
      obtain rfl := Option.some.inj h
      exact ⟨by omega, by omega, hp, fun j h1 h2 => absurd h1 (by omega)⟩
    · rw [if_neg hp] at h
      obtain ⟨h1, h2, h3, h4⟩ := z_ff_s d (i + 1) k h
      refine ⟨by omega, by omega, h3, fun j g1 g2 => ?_⟩
      by_cases e : j = i
      · subst e
        exact Bool.eq_false_iff.mpr hp
      · exact h4 j (by omega) g2
theorem z_ff_n {p : Nat → Bool} : ∀ d i, z_ff p i d = none → ∀ j, i ≤ j → j < i + d → p j = false
  | 0, i, _, j, h1, h2 => absurd h2 (by omega)
  | d + 1, i, h, j, h1, h2 => by
    unfold z_ff at h
    by_cases hp : p i = true
    · rw [if_pos hp] at h
      cases h
    · rw [if_neg hp] at h
      by_cases e : j = i
      · subst e
        exact Bool.eq_false_iff.mpr hp
      · exact z_ff_n d (i + 1) h j (by omega) (by omega)
def z_oi : Option Nat → Int
  | none => -1
  | some k => k
theorem z_fnd {R : Type} {l : Nat → Int32 → Option R} {H : Nat → Option R} {E : Option R} {n : Nat} {p : Nat → Bool}
    (hs : ∀ N (i : Nat), i < n → l (N + 1) (zI i) = if p i then H i else l N (zI ((i : Int) + 1)))
    (he : ∀ N, l (N + 1) (zI n) = E) : ∀ d i N, i + d = n → d < N → l N (zI (i : Int)) = match z_ff p i d with | some k => H k | none => E
  | 0, i, N, h1, h2 => by
    obtain ⟨N, rfl⟩ : ∃ m, N = m + 1 := ⟨N - 1, by omega⟩
    rw [show i = n by omega, he]
    rfl
  | d + 1, i, N, h1, h2 => by
    obtain ⟨N, rfl⟩ : ∃ m, N = m + 1 := ⟨N - 1, by omega⟩
    rw [hs N i (by omega)]
    unfold z_ff
    by_cases hp : p i = true
    · rw [if_pos hp, if_pos hp]
    · rw [if_neg hp, if_neg hp, ← z_cs, z_fnd hs he d (i + 1) N (by omega) (by omega)]
/-- a loop that holds P i at its i-th turn, for one vector -/
theorem z_run {A R : Type} {l : Nat → A → Int32 → Option R} {n : Nat} {P : Nat → A → Prop} {Q : Option R → Prop}
    (hs : ∀ N (i : Nat) a, i < n → P i a → ∃ a', P (i + 1) a' ∧ l (N + 1) a (zI i) = l N a' (zI ((i : Int) + 1)))
    (he : ∀ N a, P n a → Q (l (N + 1) a (zI n))) : ∀ d i N a, i + d = n → d < N → P i a → Q (l N a (zI (i : Int)))
  | 0, i, N, a, h1, h2, hp => by
    obtain ⟨N, rfl⟩ : ∃ m, N = m + 1 := ⟨N - 1, by omega⟩
    obtain rfl : i = n := by omega
    exact he N a hp
  | d + 1, i, N, a, h1, h2, hp => by
    obtain ⟨N, rfl⟩ : ∃ m, N = m + 1 := ⟨N - 1, by omega⟩
    obtain ⟨a', h3, h4⟩ := hs N i a (by omega) hp
    rw [h4, ← z_cs]
    exact z_run hs he d (i + 1) N a' (by omega) (by omega) h3
/-- two loops that hold P i at their i-th turns -/
theorem z_run2 {A B R T : Type} {l : Nat → A → Int32 → Option R} {m : Nat → B → Int32 → Option T} {n : Nat} {P : Nat → A → B → Prop} {Q : Option R → Option T → Prop}
    (hs : ∀ N M (i : Nat) a b, i < n → P i a b → ∃ a' b', P (i + 1) a' b' ∧ l (N + 1) a (zI i) = l N a' (zI ((i : Int) + 1)) ∧ m (M + 1) b (zI i) = m M b' (zI ((i : Int) + 1)))
    (he : ∀ N M a b, P n a b → Q (l (N + 1) a (zI n)) (m (M + 1) b (zI n))) : ∀ d i N M a b, i + d = n → d < N → d < M → P i a b → Q (l N a (zI (i : Int))) (m M b (zI (i : Int)))
  | 0, i, N, M, a, b, h1, h2, h3, hp => by
    obtain ⟨N, rfl⟩ : ∃ m, N = m + 1 := ⟨N - 1, by omega⟩
    obtain ⟨M, rfl⟩ : ∃ m, M = m + 1 := ⟨M - 1, by omega⟩
    obtain rfl : i = n := by omega
    exact he N M a b hp
  | d + 1, i, N, M, a, b, h1, h2, h3, hp => by
    obtain ⟨N, rfl⟩ : ∃ m, N = m + 1 := ⟨N - 1, by omega⟩
    obtain ⟨M, rfl⟩ : ∃ m, M = m + 1 := ⟨M - 1, by omega⟩
    obtain ⟨a', b', h4, h5, h6⟩ := hs N M i a b (by omega) hp
    rw [h5, h6, ← z_cs]
    exact z_run2 hs he d (i + 1) N M a' b' (by omega) (by omega) (by omega) h4
