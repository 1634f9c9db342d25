/-! A STATE of the class: 46 cells from the address p on, as one vector of ints S -/
def stO (p : Nat) (S : Nat → Int32) : List Value := [.ref (p + 1), .ref (p + 2), .ref (p + 3), .ref (p + 4), .ref (p + 5), .int (S 1), .int (S 2), .int (S 3), .int (S 4), .int (S 0), .int (S 5), .int (S 6)]
def stSt (S : Nat → Int32) (i : Nat) : List Value := [.int (S (7 + 4 * i)), .int (S (7 + 4 * i + 1)), .int (S (7 + 4 * i + 2)), .int (S (7 + 4 * i + 3))]
def stTk (S : Nat → Int32) (i : Nat) : List Value := [.int (S (39 + 4 * i)), .int (S (39 + 4 * i + 1)), .int (S (39 + 4 * i + 2)), .int (S (39 + 4 * i + 3))]
def stTr (p : Nat) (S : Nat → Int32) (i : Nat) : List Value := [.int (nI i), .int (S (87 + 14 * i)), .ref (p + 27 + 2 * i), .int (S (87 + 14 * i + 1)), .int (S (87 + 14 * i + 8)), .int (S (87 + 14 * i + 9)), .int (S (87 + 14 * i + 10)), .int (S (87 + 14 * i + 11)), .int (S (87 + 14 * i + 12)), .int (S (87 + 14 * i + 13))]
def stPc (S : Nat → Int32) (i : Nat) : List Value := [.int (nI i), .int (S (143 + 9 * i)), .int (S (143 + 9 * i + 1)), .int (S (143 + 9 * i + 2)), .int (S (143 + 9 * i + 3)), .int (S (143 + 9 * i + 4)), .int (S (143 + 9 * i + 8)), .int (S (143 + 9 * i + 5)), .int (S (143 + 9 * i + 6)), .int (S (143 + 9 * i + 7))]
def refs (N : Nat) (g : Nat → Nat) : Nat → Option Nat := fun i => if i < N then some (g i) else none
def ints (N : Nat) (g : Nat → Int32) : Nat → Int32 := fun i => if i < N then g i else 0
def stc (p : Nat) (S : Nat → Int32) (j : Nat) : va_E :=
  if j = 0 then .inr (4, stO p S)
  else if j = 1 then .inl (6, 8, .inr (.inr (.inr (.inr (refs 8 fun i => p + 6 + i)))))
  else if j = 2 then .inl (7, 12, .inr (.inr (.inr (.inr (refs 12 fun i => p + 14 + i)))))
  else if j = 3 then .inl (8, 4, .inr (.inr (.inr (.inr (refs 4 fun i => p + 26 + 2 * i)))))
  else if j = 4 then .inl (4, 12, .inr (.inr (.inr (.inr (refs 12 fun i => p + 34 + i)))))
  else if j = 5 then .inl (1, 64, .inl (ints 64 fun i => S (251 + i)))
  else if j < 14 then .inr (5, stSt S (j - 6))
  else if j < 26 then .inr (7, stTk S (j - 14))
  else if j < 34 then (if (j - 26) % 2 = 0 then .inr (8, stTr p S ((j - 26) / 2)) else .inl (1, 6, .inl (ints 6 fun i => S (87 + 14 * ((j - 26) / 2) + 2 + i))))
  else .inr (2, stPc S (j - 34))
/-- the memory M, but for a State's cells from p on -/
def wr (p : Nat) (S : Nat → Int32) (M : MM) : MM := fun a => if p ≤ a ∧ a < p + 46 then some (stc p S (a - p)) else M a
theorem wr_at {p : Nat} {S : Nat → Int32} {M : MM} {j : Nat} (h : j < 46) : wr p S M (p + j) = some (stc p S j) := by
  unfold wr
  rw [if_pos ⟨by omega, by omega⟩, Nat.add_sub_cancel_left]
theorem wr_out {p : Nat} {S : Nat → Int32} {M : MM} {a : Nat} (h : a < p ∨ p + 46 ≤ a) : wr p S M a = M a := by
  unfold wr
  rw [if_neg (by omega)]
theorem wr_wr {p : Nat} {S T : Nat → Int32} {M : MM} : wr p S (wr p T M) = wr p S M := by
  funext a
  unfold wr
  split <;> rfl
theorem wr_comm {p q : Nat} {S T : Nat → Int32} {M : MM} (h : p + 46 ≤ q ∨ q + 46 ≤ p) : wr p S (wr q T M) = wr q T (wr p S M) := by
  funext a
  unfold wr
  by_cases h1 : p ≤ a ∧ a < p + 46
  · rw [if_pos h1, if_neg (by omega), if_pos h1]
  · rw [if_neg h1, if_neg h1]
theorem stc_0 (p : Nat) (S : Nat → Int32) : stc p S 0 = .inr (4, stO p S) := rfl
theorem stc_5 (p : Nat) (S : Nat → Int32) : stc p S 5 = .inl (1, 64, .inl (ints 64 fun i => S (251 + i))) := rfl
theorem stc_st {p : Nat} {S : Nat → Int32} {i : Nat} (h : i < 8) : stc p S (6 + i) = .inr (5, stSt S i) := by
  unfold stc
  rw [if_neg (by omega), if_neg (by omega), if_neg (by omega), if_neg (by omega), if_neg (by omega), if_neg (by omega), if_pos (by omega), Nat.add_sub_cancel_left]
theorem stc_tk {p : Nat} {S : Nat → Int32} {i : Nat} (h : i < 12) : stc p S (14 + i) = .inr (7, stTk S i) := by
  unfold stc
  rw [if_neg (by omega), if_neg (by omega), if_neg (by omega), if_neg (by omega), if_neg (by omega), if_neg (by omega), if_neg (by omega), if_pos (by omega), Nat.add_sub_cancel_left]
theorem stc_tr {p : Nat} {S : Nat → Int32} {i : Nat} (h : i < 4) : stc p S (26 + 2 * i) = .inr (8, stTr p S i) := by
  unfold stc
  rw [if_neg (by omega), if_neg (by omega), if_neg (by omega), if_neg (by omega), if_neg (by omega), if_neg (by omega), if_neg (by omega), if_neg (by omega), if_pos (by omega), if_pos (by omega), show (26 + 2 * i - 26) / 2 = i by omega]
theorem stc_sp {p : Nat} {S : Nat → Int32} {i : Nat} (h : i < 4) : stc p S (27 + 2 * i) = .inl (1, 6, .inl (ints 6 fun j => S (87 + 14 * i + 2 + j))) := by
  unfold stc
  rw [if_neg (by omega), if_neg (by omega), if_neg (by omega), if_neg (by omega), if_neg (by omega), if_neg (by omega), if_neg (by omega), if_neg (by omega), if_pos (by omega), if_neg (by omega), show (27 + 2 * i - 26) / 2 = i by omega]
theorem stc_pc {p : Nat} {S : Nat → Int32} {i : Nat} : stc p S (34 + i) = .inr (2, stPc S i) := by
  unfold stc
  rw [if_neg (by omega), if_neg (by omega), if_neg (by omega), if_neg (by omega), if_neg (by omega), if_neg (by omega), if_neg (by omega), if_neg (by omega), if_neg (by omega), Nat.add_sub_cancel_left]
theorem wr_o {p : Nat} {S : Nat → Int32} {M : MM} : wr p S M p = some (.inr (4, stO p S)) := wr_at (j := 0) (by omega)
theorem wr_a1 {p : Nat} {S : Nat → Int32} {M : MM} : wr p S M (p + 1) = some (.inl (6, 8, .inr (.inr (.inr (.inr (refs 8 fun i => p + 6 + i)))))) := wr_at (j := 1) (by omega)
theorem wr_a2 {p : Nat} {S : Nat → Int32} {M : MM} : wr p S M (p + 2) = some (.inl (7, 12, .inr (.inr (.inr (.inr (refs 12 fun i => p + 14 + i)))))) := wr_at (j := 2) (by omega)
theorem wr_a3 {p : Nat} {S : Nat → Int32} {M : MM} : wr p S M (p + 3) = some (.inl (8, 4, .inr (.inr (.inr (.inr (refs 4 fun i => p + 26 + 2 * i)))))) := wr_at (j := 3) (by omega)
theorem wr_a4 {p : Nat} {S : Nat → Int32} {M : MM} : wr p S M (p + 4) = some (.inl (4, 12, .inr (.inr (.inr (.inr (refs 12 fun i => p + 34 + i)))))) := wr_at (j := 4) (by omega)
theorem wr_a5 {p : Nat} {S : Nat → Int32} {M : MM} : wr p S M (p + 5) = some (.inl (1, 64, .inl (ints 64 fun i => S (251 + i)))) := wr_at (j := 5) (by omega)
theorem wr_st {p : Nat} {S : Nat → Int32} {M : MM} {i : Nat} (h : i < 8) : wr p S M (p + 6 + i) = some (.inr (5, stSt S i)) := by
  rw [Nat.add_assoc, wr_at (by omega), stc_st h]
theorem wr_tk {p : Nat} {S : Nat → Int32} {M : MM} {i : Nat} (h : i < 12) : wr p S M (p + 14 + i) = some (.inr (7, stTk S i)) := by
  rw [Nat.add_assoc, wr_at (by omega), stc_tk h]
theorem wr_tr {p : Nat} {S : Nat → Int32} {M : MM} {i : Nat} (h : i < 4) : wr p S M (p + 26 + 2 * i) = some (.inr (8, stTr p S i)) := by
  rw [Nat.add_assoc, wr_at (by omega), stc_tr h]
theorem wr_sp {p : Nat} {S : Nat → Int32} {M : MM} {i : Nat} (h : i < 4) : wr p S M (p + 27 + 2 * i) = some (.inl (1, 6, .inl (ints 6 fun j => S (87 + 14 * i + 2 + j)))) := by
  rw [Nat.add_assoc, wr_at (by omega), stc_sp h]
theorem wr_pc {p : Nat} {S : Nat → Int32} {M : MM} {i : Nat} (h : i < 12) : wr p S M (p + 34 + i) = some (.inr (2, stPc S i)) := by
  rw [Nat.add_assoc, wr_at (by omega), stc_pc]
/-- the cell that holds the vector's place k -/
def ownc (k : Nat) : Nat := if k < 7 then 0 else if k < 39 then 6 + (k - 7) / 4 else if k < 87 then 14 + (k - 39) / 4 else if k < 143 then (if 2 ≤ (k - 87) % 14 ∧ (k - 87) % 14 < 8 then 27 + 2 * ((k - 87) / 14) else 26 + 2 * ((k - 87) / 14)) else if k < 251 then 34 + (k - 143) / 9 else 5
theorem own_o {k : Nat} (h : k < 7) : ownc k = 0 := by unfold ownc; rw [if_pos h]
theorem own_st {i c : Nat} (h : i < 8) (hc : c < 4) : ownc (7 + 4 * i + c) = 6 + i := by
  unfold ownc
  rw [if_neg (by omega), if_pos (by omega)]
  omega
theorem own_tk {i c : Nat} (h : i < 12) (hc : c < 4) : ownc (39 + 4 * i + c) = 14 + i := by
  unfold ownc
  rw [if_neg (by omega), if_neg (by omega), if_pos (by omega)]
  omega
theorem own_tr {i c : Nat} (h : i < 4) (hc : c < 14) (hn : ¬ (2 ≤ c ∧ c < 8)) : ownc (87 + 14 * i + c) = 26 + 2 * i := by
  unfold ownc
  rw [if_neg (by omega), if_neg (by omega), if_neg (by omega), if_pos (by omega), if_neg (by omega)]
  omega
theorem own_sp {i c : Nat} (h : i < 4) (hc : c < 6) : ownc (87 + 14 * i + 2 + c) = 27 + 2 * i := by
  unfold ownc
  rw [if_neg (by omega), if_neg (by omega), if_neg (by omega), if_pos (by omega), if_pos (by omega)]
  omega
theorem own_pc {i c : Nat} (h : i < 12) (hc : c < 9) : ownc (143 + 9 * i + c) = 34 + i := by
  unfold ownc
  rw [if_neg (by omega), if_neg (by omega), if_neg (by omega), if_neg (by omega), if_pos (by omega)]
  omega
theorem own_st0 {i : Nat} (h : i < 8) : ownc (7 + 4 * i) = 6 + i := own_st (c := 0) h (by omega)
theorem own_tk0 {i : Nat} (h : i < 12) : ownc (39 + 4 * i) = 14 + i := own_tk (c := 0) h (by omega)
theorem own_tr0 {i : Nat} (h : i < 4) : ownc (87 + 14 * i) = 26 + 2 * i := own_tr (c := 0) h (by omega) (by omega)
theorem own_pc0 {i : Nat} (h : i < 12) : ownc (143 + 9 * i) = 34 + i := own_pc (c := 0) h (by omega)
theorem own_ds {c : Nat} : ownc (251 + c) = 5 := by
  unfold ownc
  rw [if_neg (by omega), if_neg (by omega), if_neg (by omega), if_neg (by omega), if_neg (by omega)]
theorem upd_o {S : Nat → Int32} {k i : Nat} {v : Int32} (h : ownc i ≠ ownc k) : upd S k v i = S i := by
  unfold upd
  rw [if_neg (fun e => h (by rw [e]))]
theorem upd_same {S : Nat → Int32} {k : Nat} {v : Int32} : upd S k v k = v := by unfold upd; rw [if_pos rfl]
theorem upd_ne {S : Nat → Int32} {k i : Nat} {v : Int32} (h : i ≠ k) : upd S k v i = S i := by unfold upd; rw [if_neg h]
theorem ints_congr {N : Nat} {g h : Nat → Int32} (e : ∀ i, i < N → g i = h i) : ints N g = ints N h := by
  funext i
  unfold ints
  split
  · exact e i (by assumption)
  · rfl
theorem ints_upd {N k : Nat} {g : Nat → Int32} {v : Int32} (h : k < N) : upd (ints N g) k v = ints N (fun i => if i = k then v else g i) := by
  funext i
  show (if i = k then v else if i < N then g i else 0) = if i < N then (if i = k then v else g i) else 0
  by_cases e : i = k
  · subst e
    rw [if_pos rfl, if_pos h, if_pos rfl]
  · rw [if_neg e]
    by_cases q : i < N
    · rw [if_pos q, if_pos q, if_neg e]
    · rw [if_neg q, if_neg q]
theorem stc_upd {p : Nat} {S : Nat → Int32} {k : Nat} {v : Int32} {j : Nat} (hj : j < 46) (h : j ≠ ownc k) : stc p (upd S k v) j = stc p S j := by
  have u : ∀ i, ownc i = j → upd S k v i = S i := fun i hi => upd_o (by rw [hi]; exact h)
  by_cases h0 : j = 0
  · subst h0
    rw [stc_0, stc_0]
    unfold stO
    rw [u 0 (own_o (by omega)), u 1 (own_o (by omega)), u 2 (own_o (by omega)), u 3 (own_o (by omega)), u 4 (own_o (by omega)), u 5 (own_o (by omega)), u 6 (own_o (by omega))]
  by_cases h5 : j < 6
  · rcases (show j = 1 ∨ j = 2 ∨ j = 3 ∨ j = 4 ∨ j = 5 by omega) with rfl | rfl | rfl | rfl | rfl
    · rfl
    · rfl
    · rfl
    · rfl
    · rw [stc_5, stc_5, ints_congr (h := fun i => S (251 + i)) (fun i _ => u _ own_ds)]
  by_cases h14 : j < 14
  · obtain ⟨i, rfl⟩ : ∃ i, j = 6 + i := ⟨j - 6, by omega⟩
    rw [stc_st (by omega), stc_st (by omega)]
    unfold stSt
    rw [u _ (own_st0 (by omega)), u _ (own_st (c := 1) (by omega) (by omega)), u _ (own_st (c := 2) (by omega) (by omega)), u _ (own_st (c := 3) (by omega) (by omega))]
  by_cases h26 : j < 26
  · obtain ⟨i, rfl⟩ : ∃ i, j = 14 + i := ⟨j - 14, by omega⟩
    rw [stc_tk (by omega), stc_tk (by omega)]
    unfold stTk
    rw [u _ (own_tk0 (by omega)), u _ (own_tk (c := 1) (by omega) (by omega)), u _ (own_tk (c := 2) (by omega) (by omega)), u _ (own_tk (c := 3) (by omega) (by omega))]
  by_cases h34 : j < 34
  · by_cases hm : j % 2 = 0
    · obtain ⟨i, rfl⟩ : ∃ i, j = 26 + 2 * i := ⟨(j - 26) / 2, by omega⟩
      rw [stc_tr (by omega), stc_tr (by omega)]
      unfold stTr
      rw [u _ (own_tr0 (by omega)), u _ (own_tr (c := 1) (by omega) (by omega) (by omega)), u _ (own_tr (c := 8) (by omega) (by omega) (by omega)), u _ (own_tr (c := 9) (by omega) (by omega) (by omega)), u _ (own_tr (c := 10) (by omega) (by omega) (by omega)), u _ (own_tr (c := 11) (by omega) (by omega) (by omega)), u _ (own_tr (c := 12) (by omega) (by omega) (by omega)), u _ (own_tr (c := 13) (by omega) (by omega) (by omega))]
    · obtain ⟨i, rfl⟩ : ∃ i, j = 27 + 2 * i := ⟨(j - 27) / 2, by omega⟩
      rw [stc_sp (by omega), stc_sp (by omega), ints_congr (h := fun c => S (87 + 14 * i + 2 + c)) (fun c hc => u _ (own_sp (by omega) hc))]
  · obtain ⟨i, rfl⟩ : ∃ i, j = 34 + i := ⟨j - 34, by omega⟩
    rw [stc_pc, stc_pc]
    unfold stPc
    rw [u _ (own_pc0 (by omega)), u _ (own_pc (c := 1) (by omega) (by omega)), u _ (own_pc (c := 2) (by omega) (by omega)), u _ (own_pc (c := 3) (by omega) (by omega)), u _ (own_pc (c := 4) (by omega) (by omega)), u _ (own_pc (c := 5) (by omega) (by omega)), u _ (own_pc (c := 6) (by omega) (by omega)), u _ (own_pc (c := 7) (by omega) (by omega)), u _ (own_pc (c := 8) (by omega) (by omega))]
theorem ownc_lt {k : Nat} (h : k < 315) : ownc k < 46 := by
  unfold ownc
  split
  · omega
  · split
    · omega
    · split
      · omega
      · split
        · split <;> omega
        · split <;> omega
theorem wr_set {p : Nat} {S : Nat → Int32} {M : MM} {k : Nat} {v : Int32} {e : va_E} (h : k < 315) (he : stc p (upd S k v) (ownc k) = e) : mset (wr p S M) (p + ownc k) e = wr p (upd S k v) M := by
  have hl := ownc_lt h
  funext a
  unfold mset
  by_cases ha : a = p + ownc k
  · rw [if_pos ha, ha, wr_at hl, he]
  · rw [if_neg ha]
    by_cases hr : p ≤ a ∧ a < p + 46
    · obtain ⟨j, rfl⟩ : ∃ j, a = p + j := ⟨a - p, by omega⟩
      rw [wr_at (by omega), wr_at (by omega), stc_upd (by omega) (by omega)]
    · rw [wr_out (by omega), wr_out (by omega)]
section VRows
variable {G : GT} {f : Nat} {call : CT} {md : MD} {P0 : PS} {pc : Nat} {lv : List (Nat × Value)} {M : MM} {hi k n : Nat} {rest : List Value} {p : Nat} {S : Nat → Int32}
theorem V_istD {i : Nat} {x : Int32} (hd : decode md.2.1 pc = .ok (.iastore, 1)) (h : i < 64) (kk : V G f call md P0 (pc + 1) lv rest (wr p (upd S (251 + i) x) M) hi k n) : V G f call md P0 pc lv (.int x :: .int (nI i) :: .ref (p + 5) :: rest) (wr p S M) hi k n := by
  refine V_iastore hd wr_a5 (vp_in_nI h (by decide)) ?_
  rw [nI_clamp (by omega), ints_upd h]
  have e := wr_set (p := p) (S := S) (M := M) (k := 251 + i) (v := x) (e := .inl (1, 64, .inl (ints 64 fun j => if j = i then x else S (251 + j)))) (by omega) (by
    rw [own_ds, stc_5]
    have e : ints 64 (fun q => upd S (251 + i) x (251 + q)) = ints 64 (fun j => if j = i then x else S (251 + j)) := ints_congr (fun j _ => by
      show (if 251 + j = 251 + i then x else S (251 + j)) = if j = i then x else S (251 + j)
      by_cases q : j = i
      · rw [if_pos (by omega), if_pos q]
      · rw [if_neg (by omega), if_neg q])
    rw [e])
  rw [own_ds] at e
  rw [e]
  exact kk
theorem V_istR {i j : Nat} {x : Int32} (hd : decode md.2.1 pc = .ok (.iastore, 1)) (h : i < 4) (hj : j < 6) (kk : V G f call md P0 (pc + 1) lv rest (wr p (upd S (87 + 14 * i + 2 + j) x) M) hi k n) : V G f call md P0 pc lv (.int x :: .int (nI j) :: .ref (p + 27 + 2 * i) :: rest) (wr p S M) hi k n := by
  refine V_iastore hd (wr_sp h) (vp_in_nI hj (by decide)) ?_
  rw [nI_clamp (by omega), ints_upd hj]
  have e := wr_set (p := p) (S := S) (M := M) (k := 87 + 14 * i + 2 + j) (v := x) (e := .inl (1, 6, .inl (ints 6 fun c => if c = j then x else S (87 + 14 * i + 2 + c)))) (by omega) (by
    rw [own_sp h hj, stc_sp h]
    have e : ints 6 (fun q => upd S (87 + 14 * i + 2 + j) x (87 + 14 * i + 2 + q)) = ints 6 (fun c => if c = j then x else S (87 + 14 * i + 2 + c)) := ints_congr (fun c _ => by
      show (if 87 + 14 * i + 2 + c = 87 + 14 * i + 2 + j then x else S (87 + 14 * i + 2 + c)) = if c = j then x else S (87 + 14 * i + 2 + c)
      by_cases q : c = j
      · rw [if_pos (by omega), if_pos q]
      · rw [if_neg (by omega), if_neg q])
    rw [e])
  rw [own_sp h hj, ← Nat.add_assoc] at e
  rw [e]
  exact kk
theorem V_pf_X4_5 {idx : Nat} {v : Int32} (hd : decode md.2.1 pc = .ok (.putfield idx, 3)) (hF : FPT md idx 4 5 .int) (kk : V G f call md P0 (pc + 3) lv rest (wr p (upd S (1) v) M) hi k n) : V G f call md P0 pc lv (.int v :: .ref (p) :: rest) (wr p S M) hi k n := by
  refine V_putfield hd (wr_o) hF rfl rfl (Nat.le_of_ble_eq_true rfl) ?_
  have e := wr_set (p := p) (S := S) (M := M) (k := 1) (v := v) (e := .inr (4, (stO p S).set 5 (.int v))) (by omega) (by
    rw [own_o (by omega), stc_0]
    simp [stO, upd])
  rw [own_o (by omega), Nat.add_zero] at e
  rw [e]
  exact kk
theorem V_pf_X4_6 {idx : Nat} {v : Int32} (hd : decode md.2.1 pc = .ok (.putfield idx, 3)) (hF : FPT md idx 4 6 .int) (kk : V G f call md P0 (pc + 3) lv rest (wr p (upd S (2) v) M) hi k n) : V G f call md P0 pc lv (.int v :: .ref (p) :: rest) (wr p S M) hi k n := by
  refine V_putfield hd (wr_o) hF rfl rfl (Nat.le_of_ble_eq_true rfl) ?_
  have e := wr_set (p := p) (S := S) (M := M) (k := 2) (v := v) (e := .inr (4, (stO p S).set 6 (.int v))) (by omega) (by
    rw [own_o (by omega), stc_0]
    simp [stO, upd])
  rw [own_o (by omega), Nat.add_zero] at e
  rw [e]
  exact kk
theorem V_pf_X4_7 {idx : Nat} {v : Int32} (hd : decode md.2.1 pc = .ok (.putfield idx, 3)) (hF : FPT md idx 4 7 .int) (kk : V G f call md P0 (pc + 3) lv rest (wr p (upd S (3) v) M) hi k n) : V G f call md P0 pc lv (.int v :: .ref (p) :: rest) (wr p S M) hi k n := by
  refine V_putfield hd (wr_o) hF rfl rfl (Nat.le_of_ble_eq_true rfl) ?_
  have e := wr_set (p := p) (S := S) (M := M) (k := 3) (v := v) (e := .inr (4, (stO p S).set 7 (.int v))) (by omega) (by
    rw [own_o (by omega), stc_0]
    simp [stO, upd])
  rw [own_o (by omega), Nat.add_zero] at e
  rw [e]
  exact kk
theorem V_pf_X4_8 {idx : Nat} {v : Int32} (hd : decode md.2.1 pc = .ok (.putfield idx, 3)) (hF : FPT md idx 4 8 .int) (kk : V G f call md P0 (pc + 3) lv rest (wr p (upd S (4) v) M) hi k n) : V G f call md P0 pc lv (.int v :: .ref (p) :: rest) (wr p S M) hi k n := by
  refine V_putfield hd (wr_o) hF rfl rfl (Nat.le_of_ble_eq_true rfl) ?_
  have e := wr_set (p := p) (S := S) (M := M) (k := 4) (v := v) (e := .inr (4, (stO p S).set 8 (.int v))) (by omega) (by
    rw [own_o (by omega), stc_0]
    simp [stO, upd])
  rw [own_o (by omega), Nat.add_zero] at e
  rw [e]
  exact kk
theorem V_pf_X4_9 {idx : Nat} {v : Int32} (hd : decode md.2.1 pc = .ok (.putfield idx, 3)) (hF : FPT md idx 4 9 .int) (kk : V G f call md P0 (pc + 3) lv rest (wr p (upd S (0) v) M) hi k n) : V G f call md P0 pc lv (.int v :: .ref (p) :: rest) (wr p S M) hi k n := by
  refine V_putfield hd (wr_o) hF rfl rfl (Nat.le_of_ble_eq_true rfl) ?_
  have e := wr_set (p := p) (S := S) (M := M) (k := 0) (v := v) (e := .inr (4, (stO p S).set 9 (.int v))) (by omega) (by
    rw [own_o (by omega), stc_0]
    simp [stO, upd])
  rw [own_o (by omega), Nat.add_zero] at e
  rw [e]
  exact kk
theorem V_pf_X4_10 {idx : Nat} {v : Int32} (hd : decode md.2.1 pc = .ok (.putfield idx, 3)) (hF : FPT md idx 4 10 .int) (kk : V G f call md P0 (pc + 3) lv rest (wr p (upd S (5) v) M) hi k n) : V G f call md P0 pc lv (.int v :: .ref (p) :: rest) (wr p S M) hi k n := by
  refine V_putfield hd (wr_o) hF rfl rfl (Nat.le_of_ble_eq_true rfl) ?_
  have e := wr_set (p := p) (S := S) (M := M) (k := 5) (v := v) (e := .inr (4, (stO p S).set 10 (.int v))) (by omega) (by
    rw [own_o (by omega), stc_0]
    simp [stO, upd])
  rw [own_o (by omega), Nat.add_zero] at e
  rw [e]
  exact kk
theorem V_pf_X4_11 {idx : Nat} {v : Int32} (hd : decode md.2.1 pc = .ok (.putfield idx, 3)) (hF : FPT md idx 4 11 .int) (kk : V G f call md P0 (pc + 3) lv rest (wr p (upd S (6) v) M) hi k n) : V G f call md P0 pc lv (.int v :: .ref (p) :: rest) (wr p S M) hi k n := by
  refine V_putfield hd (wr_o) hF rfl rfl (Nat.le_of_ble_eq_true rfl) ?_
  have e := wr_set (p := p) (S := S) (M := M) (k := 6) (v := v) (e := .inr (4, (stO p S).set 11 (.int v))) (by omega) (by
    rw [own_o (by omega), stc_0]
    simp [stO, upd])
  rw [own_o (by omega), Nat.add_zero] at e
  rw [e]
  exact kk
theorem V_pf_X5_0 {idx : Nat} {v : Int32} {i : Nat} (hd : decode md.2.1 pc = .ok (.putfield idx, 3)) (hF : FPT md idx 5 0 .int) (h : i < 8) (kk : V G f call md P0 (pc + 3) lv rest (wr p (upd S (7 + 4 * i) v) M) hi k n) : V G f call md P0 pc lv (.int v :: .ref (p + 6 + i) :: rest) (wr p S M) hi k n := by
  refine V_putfield hd (wr_st h) hF rfl rfl (Nat.le_of_ble_eq_true rfl) ?_
  have e := wr_set (p := p) (S := S) (M := M) (k := 7 + 4 * i) (v := v) (e := .inr (5, (stSt S i).set 0 (.int v))) (by omega) (by
    rw [own_st0 h, stc_st h]
    simp [stSt, upd])
  rw [own_st0 h, ← Nat.add_assoc] at e
  rw [e]
  exact kk
theorem V_pf_X5_1 {idx : Nat} {v : Int32} {i : Nat} (hd : decode md.2.1 pc = .ok (.putfield idx, 3)) (hF : FPT md idx 5 1 .boolean) (hv : v = 0 ∨ v = 1) (h : i < 8) (kk : V G f call md P0 (pc + 3) lv rest (wr p (upd S (7 + 4 * i + 1) v) M) hi k n) : V G f call md P0 pc lv (.int v :: .ref (p + 6 + i) :: rest) (wr p S M) hi k n := by
  refine V_putfield hd (wr_st h) hF (by rcases hv with rfl | rfl <;> rfl) (by rcases hv with rfl | rfl <;> rfl) (Nat.le_of_ble_eq_true rfl) ?_
  have e := wr_set (p := p) (S := S) (M := M) (k := 7 + 4 * i + 1) (v := v) (e := .inr (5, (stSt S i).set 1 (.int v))) (by omega) (by
    rw [own_st (c := 1) h (by omega), stc_st h]
    simp [stSt, upd])
  rw [own_st (c := 1) h (by omega), ← Nat.add_assoc] at e
  rw [e]
  exact kk
theorem V_pf_X5_2 {idx : Nat} {v : Int32} {i : Nat} (hd : decode md.2.1 pc = .ok (.putfield idx, 3)) (hF : FPT md idx 5 2 .int) (h : i < 8) (kk : V G f call md P0 (pc + 3) lv rest (wr p (upd S (7 + 4 * i + 2) v) M) hi k n) : V G f call md P0 pc lv (.int v :: .ref (p + 6 + i) :: rest) (wr p S M) hi k n := by
  refine V_putfield hd (wr_st h) hF rfl rfl (Nat.le_of_ble_eq_true rfl) ?_
  have e := wr_set (p := p) (S := S) (M := M) (k := 7 + 4 * i + 2) (v := v) (e := .inr (5, (stSt S i).set 2 (.int v))) (by omega) (by
    rw [own_st (c := 2) h (by omega), stc_st h]
    simp [stSt, upd])
  rw [own_st (c := 2) h (by omega), ← Nat.add_assoc] at e
  rw [e]
  exact kk
theorem V_pf_X5_3 {idx : Nat} {v : Int32} {i : Nat} (hd : decode md.2.1 pc = .ok (.putfield idx, 3)) (hF : FPT md idx 5 3 .int) (h : i < 8) (kk : V G f call md P0 (pc + 3) lv rest (wr p (upd S (7 + 4 * i + 3) v) M) hi k n) : V G f call md P0 pc lv (.int v :: .ref (p + 6 + i) :: rest) (wr p S M) hi k n := by
  refine V_putfield hd (wr_st h) hF rfl rfl (Nat.le_of_ble_eq_true rfl) ?_
  have e := wr_set (p := p) (S := S) (M := M) (k := 7 + 4 * i + 3) (v := v) (e := .inr (5, (stSt S i).set 3 (.int v))) (by omega) (by
    rw [own_st (c := 3) h (by omega), stc_st h]
    simp [stSt, upd])
  rw [own_st (c := 3) h (by omega), ← Nat.add_assoc] at e
  rw [e]
  exact kk
theorem V_pf_X7_0 {idx : Nat} {v : Int32} {i : Nat} (hd : decode md.2.1 pc = .ok (.putfield idx, 3)) (hF : FPT md idx 7 0 .int) (h : i < 12) (kk : V G f call md P0 (pc + 3) lv rest (wr p (upd S (39 + 4 * i) v) M) hi k n) : V G f call md P0 pc lv (.int v :: .ref (p + 14 + i) :: rest) (wr p S M) hi k n := by
  refine V_putfield hd (wr_tk h) hF rfl rfl (Nat.le_of_ble_eq_true rfl) ?_
  have e := wr_set (p := p) (S := S) (M := M) (k := 39 + 4 * i) (v := v) (e := .inr (7, (stTk S i).set 0 (.int v))) (by omega) (by
    rw [own_tk0 h, stc_tk h]
    simp [stTk, upd])
  rw [own_tk0 h, ← Nat.add_assoc] at e
  rw [e]
  exact kk
theorem V_pf_X7_1 {idx : Nat} {v : Int32} {i : Nat} (hd : decode md.2.1 pc = .ok (.putfield idx, 3)) (hF : FPT md idx 7 1 .int) (h : i < 12) (kk : V G f call md P0 (pc + 3) lv rest (wr p (upd S (39 + 4 * i + 1) v) M) hi k n) : V G f call md P0 pc lv (.int v :: .ref (p + 14 + i) :: rest) (wr p S M) hi k n := by
  refine V_putfield hd (wr_tk h) hF rfl rfl (Nat.le_of_ble_eq_true rfl) ?_
  have e := wr_set (p := p) (S := S) (M := M) (k := 39 + 4 * i + 1) (v := v) (e := .inr (7, (stTk S i).set 1 (.int v))) (by omega) (by
    rw [own_tk (c := 1) h (by omega), stc_tk h]
    simp [stTk, upd])
  rw [own_tk (c := 1) h (by omega), ← Nat.add_assoc] at e
  rw [e]
  exact kk
theorem V_pf_X7_2 {idx : Nat} {v : Int32} {i : Nat} (hd : decode md.2.1 pc = .ok (.putfield idx, 3)) (hF : FPT md idx 7 2 .int) (h : i < 12) (kk : V G f call md P0 (pc + 3) lv rest (wr p (upd S (39 + 4 * i + 2) v) M) hi k n) : V G f call md P0 pc lv (.int v :: .ref (p + 14 + i) :: rest) (wr p S M) hi k n := by
  refine V_putfield hd (wr_tk h) hF rfl rfl (Nat.le_of_ble_eq_true rfl) ?_
  have e := wr_set (p := p) (S := S) (M := M) (k := 39 + 4 * i + 2) (v := v) (e := .inr (7, (stTk S i).set 2 (.int v))) (by omega) (by
    rw [own_tk (c := 2) h (by omega), stc_tk h]
    simp [stTk, upd])
  rw [own_tk (c := 2) h (by omega), ← Nat.add_assoc] at e
  rw [e]
  exact kk
theorem V_pf_X7_3 {idx : Nat} {v : Int32} {i : Nat} (hd : decode md.2.1 pc = .ok (.putfield idx, 3)) (hF : FPT md idx 7 3 .boolean) (hv : v = 0 ∨ v = 1) (h : i < 12) (kk : V G f call md P0 (pc + 3) lv rest (wr p (upd S (39 + 4 * i + 3) v) M) hi k n) : V G f call md P0 pc lv (.int v :: .ref (p + 14 + i) :: rest) (wr p S M) hi k n := by
  refine V_putfield hd (wr_tk h) hF (by rcases hv with rfl | rfl <;> rfl) (by rcases hv with rfl | rfl <;> rfl) (Nat.le_of_ble_eq_true rfl) ?_
  have e := wr_set (p := p) (S := S) (M := M) (k := 39 + 4 * i + 3) (v := v) (e := .inr (7, (stTk S i).set 3 (.int v))) (by omega) (by
    rw [own_tk (c := 3) h (by omega), stc_tk h]
    simp [stTk, upd])
  rw [own_tk (c := 3) h (by omega), ← Nat.add_assoc] at e
  rw [e]
  exact kk
theorem V_pf_X8_1 {idx : Nat} {v : Int32} {i : Nat} (hd : decode md.2.1 pc = .ok (.putfield idx, 3)) (hF : FPT md idx 8 1 .int) (h : i < 4) (kk : V G f call md P0 (pc + 3) lv rest (wr p (upd S (87 + 14 * i) v) M) hi k n) : V G f call md P0 pc lv (.int v :: .ref (p + 26 + 2 * i) :: rest) (wr p S M) hi k n := by
  refine V_putfield hd (wr_tr h) hF rfl rfl (Nat.le_of_ble_eq_true rfl) ?_
  have e := wr_set (p := p) (S := S) (M := M) (k := 87 + 14 * i) (v := v) (e := .inr (8, (stTr p S i).set 1 (.int v))) (by omega) (by
    rw [own_tr0 h, stc_tr h]
    simp [stTr, upd])
  rw [own_tr0 h, ← Nat.add_assoc] at e
  rw [e]
  exact kk
theorem V_pf_X8_3 {idx : Nat} {v : Int32} {i : Nat} (hd : decode md.2.1 pc = .ok (.putfield idx, 3)) (hF : FPT md idx 8 3 .int) (h : i < 4) (kk : V G f call md P0 (pc + 3) lv rest (wr p (upd S (87 + 14 * i + 1) v) M) hi k n) : V G f call md P0 pc lv (.int v :: .ref (p + 26 + 2 * i) :: rest) (wr p S M) hi k n := by
  refine V_putfield hd (wr_tr h) hF rfl rfl (Nat.le_of_ble_eq_true rfl) ?_
  have e := wr_set (p := p) (S := S) (M := M) (k := 87 + 14 * i + 1) (v := v) (e := .inr (8, (stTr p S i).set 3 (.int v))) (by omega) (by
    rw [own_tr (c := 1) h (by omega) (by omega), stc_tr h]
    simp [stTr, upd])
  rw [own_tr (c := 1) h (by omega) (by omega), ← Nat.add_assoc] at e
  rw [e]
  exact kk
theorem V_pf_X8_4 {idx : Nat} {v : Int32} {i : Nat} (hd : decode md.2.1 pc = .ok (.putfield idx, 3)) (hF : FPT md idx 8 4 .int) (h : i < 4) (kk : V G f call md P0 (pc + 3) lv rest (wr p (upd S (87 + 14 * i + 8) v) M) hi k n) : V G f call md P0 pc lv (.int v :: .ref (p + 26 + 2 * i) :: rest) (wr p S M) hi k n := by
  refine V_putfield hd (wr_tr h) hF rfl rfl (Nat.le_of_ble_eq_true rfl) ?_
  have e := wr_set (p := p) (S := S) (M := M) (k := 87 + 14 * i + 8) (v := v) (e := .inr (8, (stTr p S i).set 4 (.int v))) (by omega) (by
    rw [own_tr (c := 8) h (by omega) (by omega), stc_tr h]
    simp [stTr, upd])
  rw [own_tr (c := 8) h (by omega) (by omega), ← Nat.add_assoc] at e
  rw [e]
  exact kk
theorem V_pf_X8_5 {idx : Nat} {v : Int32} {i : Nat} (hd : decode md.2.1 pc = .ok (.putfield idx, 3)) (hF : FPT md idx 8 5 .boolean) (hv : v = 0 ∨ v = 1) (h : i < 4) (kk : V G f call md P0 (pc + 3) lv rest (wr p (upd S (87 + 14 * i + 9) v) M) hi k n) : V G f call md P0 pc lv (.int v :: .ref (p + 26 + 2 * i) :: rest) (wr p S M) hi k n := by
  refine V_putfield hd (wr_tr h) hF (by rcases hv with rfl | rfl <;> rfl) (by rcases hv with rfl | rfl <;> rfl) (Nat.le_of_ble_eq_true rfl) ?_
  have e := wr_set (p := p) (S := S) (M := M) (k := 87 + 14 * i + 9) (v := v) (e := .inr (8, (stTr p S i).set 5 (.int v))) (by omega) (by
    rw [own_tr (c := 9) h (by omega) (by omega), stc_tr h]
    simp [stTr, upd])
  rw [own_tr (c := 9) h (by omega) (by omega), ← Nat.add_assoc] at e
  rw [e]
  exact kk
theorem V_pf_X8_6 {idx : Nat} {v : Int32} {i : Nat} (hd : decode md.2.1 pc = .ok (.putfield idx, 3)) (hF : FPT md idx 8 6 .int) (h : i < 4) (kk : V G f call md P0 (pc + 3) lv rest (wr p (upd S (87 + 14 * i + 10) v) M) hi k n) : V G f call md P0 pc lv (.int v :: .ref (p + 26 + 2 * i) :: rest) (wr p S M) hi k n := by
  refine V_putfield hd (wr_tr h) hF rfl rfl (Nat.le_of_ble_eq_true rfl) ?_
  have e := wr_set (p := p) (S := S) (M := M) (k := 87 + 14 * i + 10) (v := v) (e := .inr (8, (stTr p S i).set 6 (.int v))) (by omega) (by
    rw [own_tr (c := 10) h (by omega) (by omega), stc_tr h]
    simp [stTr, upd])
  rw [own_tr (c := 10) h (by omega) (by omega), ← Nat.add_assoc] at e
  rw [e]
  exact kk
theorem V_pf_X8_7 {idx : Nat} {v : Int32} {i : Nat} (hd : decode md.2.1 pc = .ok (.putfield idx, 3)) (hF : FPT md idx 8 7 .int) (h : i < 4) (kk : V G f call md P0 (pc + 3) lv rest (wr p (upd S (87 + 14 * i + 11) v) M) hi k n) : V G f call md P0 pc lv (.int v :: .ref (p + 26 + 2 * i) :: rest) (wr p S M) hi k n := by
  refine V_putfield hd (wr_tr h) hF rfl rfl (Nat.le_of_ble_eq_true rfl) ?_
  have e := wr_set (p := p) (S := S) (M := M) (k := 87 + 14 * i + 11) (v := v) (e := .inr (8, (stTr p S i).set 7 (.int v))) (by omega) (by
    rw [own_tr (c := 11) h (by omega) (by omega), stc_tr h]
    simp [stTr, upd])
  rw [own_tr (c := 11) h (by omega) (by omega), ← Nat.add_assoc] at e
  rw [e]
  exact kk
theorem V_pf_X8_8 {idx : Nat} {v : Int32} {i : Nat} (hd : decode md.2.1 pc = .ok (.putfield idx, 3)) (hF : FPT md idx 8 8 .int) (h : i < 4) (kk : V G f call md P0 (pc + 3) lv rest (wr p (upd S (87 + 14 * i + 12) v) M) hi k n) : V G f call md P0 pc lv (.int v :: .ref (p + 26 + 2 * i) :: rest) (wr p S M) hi k n := by
  refine V_putfield hd (wr_tr h) hF rfl rfl (Nat.le_of_ble_eq_true rfl) ?_
  have e := wr_set (p := p) (S := S) (M := M) (k := 87 + 14 * i + 12) (v := v) (e := .inr (8, (stTr p S i).set 8 (.int v))) (by omega) (by
    rw [own_tr (c := 12) h (by omega) (by omega), stc_tr h]
    simp [stTr, upd])
  rw [own_tr (c := 12) h (by omega) (by omega), ← Nat.add_assoc] at e
  rw [e]
  exact kk
theorem V_pf_X8_9 {idx : Nat} {v : Int32} {i : Nat} (hd : decode md.2.1 pc = .ok (.putfield idx, 3)) (hF : FPT md idx 8 9 .int) (h : i < 4) (kk : V G f call md P0 (pc + 3) lv rest (wr p (upd S (87 + 14 * i + 13) v) M) hi k n) : V G f call md P0 pc lv (.int v :: .ref (p + 26 + 2 * i) :: rest) (wr p S M) hi k n := by
  refine V_putfield hd (wr_tr h) hF rfl rfl (Nat.le_of_ble_eq_true rfl) ?_
  have e := wr_set (p := p) (S := S) (M := M) (k := 87 + 14 * i + 13) (v := v) (e := .inr (8, (stTr p S i).set 9 (.int v))) (by omega) (by
    rw [own_tr (c := 13) h (by omega) (by omega), stc_tr h]
    simp [stTr, upd])
  rw [own_tr (c := 13) h (by omega) (by omega), ← Nat.add_assoc] at e
  rw [e]
  exact kk
theorem V_pf_X2_1 {idx : Nat} {v : Int32} {i : Nat} (hd : decode md.2.1 pc = .ok (.putfield idx, 3)) (hF : FPT md idx 2 1 .int) (h : i < 12) (kk : V G f call md P0 (pc + 3) lv rest (wr p (upd S (143 + 9 * i) v) M) hi k n) : V G f call md P0 pc lv (.int v :: .ref (p + 34 + i) :: rest) (wr p S M) hi k n := by
  refine V_putfield hd (wr_pc h) hF rfl rfl (Nat.le_of_ble_eq_true rfl) ?_
  have e := wr_set (p := p) (S := S) (M := M) (k := 143 + 9 * i) (v := v) (e := .inr (2, (stPc S i).set 1 (.int v))) (by omega) (by
    rw [own_pc0 h, stc_pc]
    simp [stPc, upd])
  rw [own_pc0 h, ← Nat.add_assoc] at e
  rw [e]
  exact kk
theorem V_pf_X2_2 {idx : Nat} {v : Int32} {i : Nat} (hd : decode md.2.1 pc = .ok (.putfield idx, 3)) (hF : FPT md idx 2 2 .int) (h : i < 12) (kk : V G f call md P0 (pc + 3) lv rest (wr p (upd S (143 + 9 * i + 1) v) M) hi k n) : V G f call md P0 pc lv (.int v :: .ref (p + 34 + i) :: rest) (wr p S M) hi k n := by
  refine V_putfield hd (wr_pc h) hF rfl rfl (Nat.le_of_ble_eq_true rfl) ?_
  have e := wr_set (p := p) (S := S) (M := M) (k := 143 + 9 * i + 1) (v := v) (e := .inr (2, (stPc S i).set 2 (.int v))) (by omega) (by
    rw [own_pc (c := 1) h (by omega), stc_pc]
    simp [stPc, upd])
  rw [own_pc (c := 1) h (by omega), ← Nat.add_assoc] at e
  rw [e]
  exact kk
theorem V_pf_X2_3 {idx : Nat} {v : Int32} {i : Nat} (hd : decode md.2.1 pc = .ok (.putfield idx, 3)) (hF : FPT md idx 2 3 .int) (h : i < 12) (kk : V G f call md P0 (pc + 3) lv rest (wr p (upd S (143 + 9 * i + 2) v) M) hi k n) : V G f call md P0 pc lv (.int v :: .ref (p + 34 + i) :: rest) (wr p S M) hi k n := by
  refine V_putfield hd (wr_pc h) hF rfl rfl (Nat.le_of_ble_eq_true rfl) ?_
  have e := wr_set (p := p) (S := S) (M := M) (k := 143 + 9 * i + 2) (v := v) (e := .inr (2, (stPc S i).set 3 (.int v))) (by omega) (by
    rw [own_pc (c := 2) h (by omega), stc_pc]
    simp [stPc, upd])
  rw [own_pc (c := 2) h (by omega), ← Nat.add_assoc] at e
  rw [e]
  exact kk
theorem V_pf_X2_4 {idx : Nat} {v : Int32} {i : Nat} (hd : decode md.2.1 pc = .ok (.putfield idx, 3)) (hF : FPT md idx 2 4 .int) (h : i < 12) (kk : V G f call md P0 (pc + 3) lv rest (wr p (upd S (143 + 9 * i + 3) v) M) hi k n) : V G f call md P0 pc lv (.int v :: .ref (p + 34 + i) :: rest) (wr p S M) hi k n := by
  refine V_putfield hd (wr_pc h) hF rfl rfl (Nat.le_of_ble_eq_true rfl) ?_
  have e := wr_set (p := p) (S := S) (M := M) (k := 143 + 9 * i + 3) (v := v) (e := .inr (2, (stPc S i).set 4 (.int v))) (by omega) (by
    rw [own_pc (c := 3) h (by omega), stc_pc]
    simp [stPc, upd])
  rw [own_pc (c := 3) h (by omega), ← Nat.add_assoc] at e
  rw [e]
  exact kk
theorem V_pf_X2_5 {idx : Nat} {v : Int32} {i : Nat} (hd : decode md.2.1 pc = .ok (.putfield idx, 3)) (hF : FPT md idx 2 5 .int) (h : i < 12) (kk : V G f call md P0 (pc + 3) lv rest (wr p (upd S (143 + 9 * i + 4) v) M) hi k n) : V G f call md P0 pc lv (.int v :: .ref (p + 34 + i) :: rest) (wr p S M) hi k n := by
  refine V_putfield hd (wr_pc h) hF rfl rfl (Nat.le_of_ble_eq_true rfl) ?_
  have e := wr_set (p := p) (S := S) (M := M) (k := 143 + 9 * i + 4) (v := v) (e := .inr (2, (stPc S i).set 5 (.int v))) (by omega) (by
    rw [own_pc (c := 4) h (by omega), stc_pc]
    simp [stPc, upd])
  rw [own_pc (c := 4) h (by omega), ← Nat.add_assoc] at e
  rw [e]
  exact kk
theorem V_pf_X2_6 {idx : Nat} {v : Int32} {i : Nat} (hd : decode md.2.1 pc = .ok (.putfield idx, 3)) (hF : FPT md idx 2 6 .int) (h : i < 12) (kk : V G f call md P0 (pc + 3) lv rest (wr p (upd S (143 + 9 * i + 8) v) M) hi k n) : V G f call md P0 pc lv (.int v :: .ref (p + 34 + i) :: rest) (wr p S M) hi k n := by
  refine V_putfield hd (wr_pc h) hF rfl rfl (Nat.le_of_ble_eq_true rfl) ?_
  have e := wr_set (p := p) (S := S) (M := M) (k := 143 + 9 * i + 8) (v := v) (e := .inr (2, (stPc S i).set 6 (.int v))) (by omega) (by
    rw [own_pc (c := 8) h (by omega), stc_pc]
    simp [stPc, upd])
  rw [own_pc (c := 8) h (by omega), ← Nat.add_assoc] at e
  rw [e]
  exact kk
theorem V_pf_X2_7 {idx : Nat} {v : Int32} {i : Nat} (hd : decode md.2.1 pc = .ok (.putfield idx, 3)) (hF : FPT md idx 2 7 .int) (h : i < 12) (kk : V G f call md P0 (pc + 3) lv rest (wr p (upd S (143 + 9 * i + 5) v) M) hi k n) : V G f call md P0 pc lv (.int v :: .ref (p + 34 + i) :: rest) (wr p S M) hi k n := by
  refine V_putfield hd (wr_pc h) hF rfl rfl (Nat.le_of_ble_eq_true rfl) ?_
  have e := wr_set (p := p) (S := S) (M := M) (k := 143 + 9 * i + 5) (v := v) (e := .inr (2, (stPc S i).set 7 (.int v))) (by omega) (by
    rw [own_pc (c := 5) h (by omega), stc_pc]
    simp [stPc, upd])
  rw [own_pc (c := 5) h (by omega), ← Nat.add_assoc] at e
  rw [e]
  exact kk
theorem V_pf_X2_8 {idx : Nat} {v : Int32} {i : Nat} (hd : decode md.2.1 pc = .ok (.putfield idx, 3)) (hF : FPT md idx 2 8 .int) (h : i < 12) (kk : V G f call md P0 (pc + 3) lv rest (wr p (upd S (143 + 9 * i + 6) v) M) hi k n) : V G f call md P0 pc lv (.int v :: .ref (p + 34 + i) :: rest) (wr p S M) hi k n := by
  refine V_putfield hd (wr_pc h) hF rfl rfl (Nat.le_of_ble_eq_true rfl) ?_
  have e := wr_set (p := p) (S := S) (M := M) (k := 143 + 9 * i + 6) (v := v) (e := .inr (2, (stPc S i).set 8 (.int v))) (by omega) (by
    rw [own_pc (c := 6) h (by omega), stc_pc]
    simp [stPc, upd])
  rw [own_pc (c := 6) h (by omega), ← Nat.add_assoc] at e
  rw [e]
  exact kk
theorem V_pf_X2_9 {idx : Nat} {v : Int32} {i : Nat} (hd : decode md.2.1 pc = .ok (.putfield idx, 3)) (hF : FPT md idx 2 9 .int) (h : i < 12) (kk : V G f call md P0 (pc + 3) lv rest (wr p (upd S (143 + 9 * i + 7) v) M) hi k n) : V G f call md P0 pc lv (.int v :: .ref (p + 34 + i) :: rest) (wr p S M) hi k n := by
  refine V_putfield hd (wr_pc h) hF rfl rfl (Nat.le_of_ble_eq_true rfl) ?_
  have e := wr_set (p := p) (S := S) (M := M) (k := 143 + 9 * i + 7) (v := v) (e := .inr (2, (stPc S i).set 9 (.int v))) (by omega) (by
    rw [own_pc (c := 7) h (by omega), stc_pc]
    simp [stPc, upd])
  rw [own_pc (c := 7) h (by omega), ← Nat.add_assoc] at e
  rw [e]
  exact kk
end VRows
