theorem am_pure (L : Nat) (xs : Nat → Int32) (hL : L ≤ 3584) : ∃ (n : Nat) (M' : am_M), am_run am_P n 1400 ta_L_law 0 (am_entry [.ref 8] 4) [] (ag_M0 L xs) = some (some (.int 1), M') ∧ am_nx M' - 9 ≤ 600000 ∧ am_us M' ≤ 7302250 := by
  obtain ⟨N', h⟩ := lz_all L xs hL
  exact am_pureOf L xs h
