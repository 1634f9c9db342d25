theorem pure_law {L : Nat} {xs : Nat → Int32} (hL : L ≤ 3072) : f_law L xs = some () := by
  exact w_all hL
