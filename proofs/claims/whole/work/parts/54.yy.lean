section Y
variable {a b : Int}
theorem z_lt1 (h : a < b) (ha : -2147483648 ≤ a) (hb : b < 2147483648) : (zI a < zI b) = True := by
  rw [z_lt ⟨ha, by omega⟩ ⟨by omega, hb⟩]
  exact eq_true h
theorem z_lt0 (h : b ≤ a) (hb : -2147483648 ≤ b) (ha : a < 2147483648) : (zI a < zI b) = False := by
  rw [z_lt ⟨by omega, ha⟩ ⟨hb, by omega⟩]
  exact eq_false (by omega)
theorem z_le1 (h : a ≤ b) (ha : -2147483648 ≤ a) (hb : b < 2147483648) : (zI a ≤ zI b) = True := by
  rw [z_le ⟨ha, by omega⟩ ⟨by omega, hb⟩]
  exact eq_true h
theorem z_le0 (h : b < a) (hb : -2147483648 ≤ b) (ha : a < 2147483648) : (zI a ≤ zI b) = False := by
  rw [z_le ⟨by omega, ha⟩ ⟨hb, by omega⟩]
  exact eq_false (by omega)
theorem z_eq1 (h : a = b) : (zI a = zI b) = True := eq_true (by rw [h])
theorem z_eq0 (h : a ≠ b) (h1 : -2147483648 ≤ a) (h2 : a < 2147483648) (h3 : -2147483648 ≤ b) (h4 : b < 2147483648) : (zI a = zI b) = False := by
  rw [z_eq ⟨h1, h2⟩ ⟨h3, h4⟩]
  exact eq_false h
theorem z_10 : (zI 1 = zI 0) = False := z_eq0 (by omega) (by omega) (by omega) (by omega) (by omega)
end Y
