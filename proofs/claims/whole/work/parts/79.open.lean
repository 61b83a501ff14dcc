theorem law_pure (L : Nat) (xs : Nat → Int32) (hL : L ≤ 3072) : ∃ (n : Nat) (M1 : MemT), g_L_law n L xs Mz = some (1, M1) := by
  sorry
