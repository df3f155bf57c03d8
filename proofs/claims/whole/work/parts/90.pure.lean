theorem pure_law (L : Nat) (xs : Nat → Int32) (hL : L ≤ 3584) : ∃ σ' : St, f_L_law L xs st_193 = some (1, σ') := by
  sorry
