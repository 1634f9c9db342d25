/-! the class's measureDistances makes the table -/
theorem edT_out {ns nt : Nat} {ta tb tm : Nat → Nat} {op : Nat → Bool} (ht : ∀ k, k < nt → ta k < ns ∧ tb k < ns) {x y : Nat} (h : ¬ (x < ns ∧ y < ns)) : ∀ k, k ≤ nt → edT ta tb tm op T00 k x y = T00 x y
  | 0, _ => rfl
  | k + 1, hk => by
    have ih := edT_out (tm := tm) (op := op) ht h k (by omega)
    have e := ht k (by omega)
    rw [show edT ta tb tm op T00 (k + 1) = if op k then shr (shr (edT ta tb tm op T00 k) (ta k) (tb k) (tm k)) (tb k) (ta k) (tm k) else edT ta tb tm op T00 k from rfl]
    split
    · rw [shr_off (by omega), shr_off (by omega)]
      exact ih
    · exact ih
theorem fwT_out {ns : Nat} {T : Nat → Nat → Nat} (h0 : ∀ x, T x x = 0) {x y : Nat} (h : ¬ (x < ns ∧ y < ns)) : ∀ v, fwT ns T v x y = T x y
  | 0 => rfl
  | v + 1 => by
    rw [show fwT ns T (v + 1) = stgT v ns (fwT ns T v) ns from rfl, stgT_eq (fwT_0 h0 v v), if_neg h]
    exact fwT_out h0 h v
def z_ka (s : Nat → Int) (k : Nat) : Nat := (s (39 + 4 * k)).toNat
def z_kb (s : Nat → Int) (k : Nat) : Nat := (s (39 + 4 * k + 1)).toNat
def z_km (s : Nat → Int) (k : Nat) : Nat := (s (39 + 4 * k + 2)).toNat
def z_ko (s : Nat → Int) (k : Nat) : Bool := decide (s (39 + 4 * k + 3) = 1)
section Mes
variable {b : Int} {s : Nat → Int}
def z_ms (s : Nat → Int) (T : Nat → Nat → Nat) : Nat → Int := fun k => if 251 ≤ k ∧ k < 315 then (T ((k - 251) / 8) ((k - 251) % 8) : Int) else s k
theorem z_ms_o {T : Nat → Nat → Nat} {k : Nat} (h : k < 251 ∨ 315 ≤ k) : z_ms s T k = s k := if_neg (by omega)
theorem z_ms_zT {T : Nat → Nat → Nat} {x y : Nat} (hx : x < 8) (hy : y < 8) : zT (z_ms s T) x y = T x y := by
  unfold zT z_ms
  rw [if_pos ⟨hx, hy⟩, if_pos (by omega), show (251 + (x * 8 + y) - 251) / 8 = x by omega, show (251 + (x * 8 + y) - 251) % 8 = y by omega]
theorem z_Cme (h1 : 0 ≤ s 1 ∧ s 1 ≤ 8) (h2 : 0 ≤ s 2 ∧ s 2 ≤ 12) (hk : ∀ k : Nat, (k : Int) < s 2 → z_trk s k) (hb : ∀ k : Nat, k < 12 → z_bo (s (39 + 4 * k + 3))) : ∃ s', f_X4_measureDistances (zV s) = some (zV s') ∧ (∀ k, k < 251 ∨ 315 ≤ k → s' k = s k) ∧ z_dis s' := by
  obtain ⟨ns, hns⟩ : ∃ n : Nat, s 1 = n := ⟨(s 1).toNat, by omega⟩
  obtain ⟨nt, hnt⟩ : ∃ n : Nat, s 2 = n := ⟨(s 2).toNat, by omega⟩
  have trk : TRK (zV s) nt (z_ka s) (z_kb s) (z_km s) (z_ko s) := by
    refine ⟨by rw [z_v, hnt, z_n], by omega, fun k hk2 => ?_⟩
    obtain ⟨t0, t1, t2⟩ := hk k (by omega)
    have hbk := hb k (by omega)
    unfold z_ka z_kb z_km z_ko
    refine ⟨?_, ?_, ?_, ?_, by omega, by omega, by omega, by omega⟩
    · rw [z_v, z_n]; congr 1; omega
    · rw [z_v, z_n]; congr 1; omega
    · rw [z_v, z_n]; congr 1; omega
    · rw [z_v]
      rcases hbk with q | q
      · rw [q]; rfl
      · rw [q]; rfl
  have e := measure_n (S := zV s) (ns := ns) (by rw [z_v, hns, z_n]) (by omega) trk
  have ht : ∀ k, k < nt → z_ka s k < ns ∧ z_kb s k < ns := fun k hk2 => by
    unfold z_ka z_kb
    obtain ⟨t0, t1, t2⟩ := hk k (by omega)
    omega
  have tb := tab_ok (ns := ns) (nt := nt) (ta := z_ka s) (tb := z_kb s) (tm := z_km s) (op := z_ko s) ht
  have t0 : ∀ x, edT (z_ka s) (z_kb s) (z_km s) (z_ko s) T00 nt x x = 0 := fun x => by
    have h := edT_le (ta := z_ka s) (tb := z_kb s) (tm := z_km s) (op := z_ko s) (T := T00) (x := x) (y := x) nt
    rw [show T00 x x = 0 by unfold T00; rw [if_pos rfl]] at h
    omega
  have out : ∀ x y, ¬ (x < ns ∧ y < ns) → tabT nt (z_ka s) (z_kb s) (z_km s) (z_ko s) ns x y = T00 x y := fun x y hxy => by
    unfold tabT
    rw [fwT_out t0 hxy, edT_out ht hxy nt (Nat.le_refl _)]
  generalize tabT nt (z_ka s) (z_kb s) (z_km s) (z_ko s) ns = T at *
  have sym : ∀ {x y : Nat}, x < ns → y < ns → T x y = T y x := fun hx hy => tb.sym (fun k hk2 => by
    obtain ⟨t0, t1, t2⟩ := hk k (by omega)
    unfold z_km
    omega) hx hy
  obtain ⟨u1, u2, u3, u4, u5⟩ := tb
  refine ⟨z_ms s T, ?_, fun k hk2 => z_ms_o hk2, ?_⟩
  · refine e.trans (congrArg some ?_)
    funext k
    unfold dS zV z_ms
    by_cases c : 251 ≤ k ∧ k < 315
    · rw [if_pos c, if_pos c, z_n]
    · rw [if_neg c, if_neg c]
  · have eg : ∀ y x w, z_eg (z_ms s T) y x w → y < ns ∧ x < ns ∧ EDG nt (z_ka s) (z_kb s) (z_km s) (z_ko s) y x w.toNat ∧ 0 ≤ w := by
      rintro y x w ⟨k, k1, k2, k3, k4⟩
      rw [z_ms_o (by omega)] at k1
      rw [z_ms_o (by omega)] at k2
      rw [z_ms_o (by omega)] at k3
      rw [z_ms_o (by omega), z_ms_o (by omega)] at k4
      obtain ⟨t0, t1, t2⟩ := hk k k1
      refine ⟨by omega, by omega, ⟨k, by omega, decide_eq_true k2, by unfold z_km; rw [k3], ?_⟩, by omega⟩
      rcases k4 with q | q
      · exact Or.inl ⟨by unfold z_ka; omega, by unfold z_kb; omega⟩
      · exact Or.inr ⟨by unfold z_kb; omega, by unfold z_ka; omega⟩
    have ge : ∀ y x w, EDG nt (z_ka s) (z_kb s) (z_km s) (z_ko s) y x w → z_eg (z_ms s T) y x w := by
      rintro y x w ⟨k, k1, k2, k3, k4⟩
      obtain ⟨t0, t1, t2⟩ := hk k (by omega)
      have k2' := of_decide_eq_true k2
      have k3' : (s (39 + 4 * k + 2)).toNat = w := k3
      refine ⟨k, by rw [z_ms_o (by omega)]; omega, by rw [z_ms_o (by omega)]; exact k2', by rw [z_ms_o (by omega)]; omega, ?_⟩
      rw [z_ms_o (by omega), z_ms_o (by omega)]
      rcases k4 with ⟨q1, q2⟩ | ⟨q1, q2⟩
      · have q1' : (s (39 + 4 * k)).toNat = y := q1
        have q2' : (s (39 + 4 * k + 1)).toNat = x := q2
        exact Or.inl ⟨by omega, by omega⟩
      · have q1' : (s (39 + 4 * k + 1)).toNat = y := q1
        have q2' : (s (39 + 4 * k)).toNat = x := q2
        exact Or.inr ⟨by omega, by omega⟩
    have val : ∀ x y, x < 8 → y < 8 → zT (z_ms s T) x y = T x y := fun x y hx hy => z_ms_zT hx hy
    refine ⟨fun x y => ?_, fun x => ?_, fun y x w he => ?_, fun a c d ha hc hd => ?_, fun a c ha hc hl => ?_, fun a c ha hc => ?_⟩
    · by_cases c : x < 8 ∧ y < 8
      · rw [val x y c.1 c.2]
        have := u1 x y
        omega
      · unfold zT
        rw [if_neg c]
        split <;> omega
    · by_cases c : x < 8
      · rw [val x x c c, u2 x]
        rfl
      · unfold zT
        rw [if_neg (by omega), if_pos rfl]
    · obtain ⟨e1, e2, e3, e4⟩ := eg y x w he
      rw [val y x (by omega) (by omega)]
      have := u3 y x _ e3
      omega
    · rw [val a d ha hd, val a c ha hc, val c d hc hd]
      by_cases q : a < ns ∧ c < ns ∧ d < ns
      · have := u4 a c d q.1 q.2.1 q.2.2
        omega
      · have o1 := u1 a d
        have o2 := out a c
        have o3 := out c d
        have o4 := out a d
        unfold T00 at o2 o3 o4
        by_cases q2 : a < ns ∧ c < ns
        · have o3' := o3 (by omega)
          split at o3'
          · omega
          · omega
        · have o2' := o2 (by omega)
          split at o2'
          · rename_i q3
            subst q3
            omega
          · omega
    · rw [val a c ha hc] at hl ⊢
      by_cases q : a < ns ∧ c < ns
      · rcases u5 a c q.1 q.2 (by omega) with q3 | ⟨y, w, hy, he, hw⟩
        · exact Or.inl q3
        · exact Or.inr ⟨y, w, by omega, ge y c w he, by rw [val a y ha (by omega)]; omega⟩
      · have o := out a c q
        unfold T00 at o
        split at o
        · rename_i q3
          exact Or.inl q3
        · omega
    · rw [val a c ha hc, val c a hc ha]
      by_cases q : a < ns ∧ c < ns
      · rw [sym q.1 q.2]
      · have o1 := out a c q
        have o2 := out c a (by omega)
        unfold T00 at o1 o2
        split at o1
        · rename_i q3
          subst q3
          rfl
        · rw [if_neg (by omega)] at o2
          omega
end Mes
