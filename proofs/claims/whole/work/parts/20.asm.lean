/-! the law up to its loop's head -/
theorem am_E_step {d : Nat} {co : List am_A} {i : Nat} {ls st : List Value} {M : am_M} {r : Option Value × am_M} {pc : Nat} {ins : Instr} {aux : List Nat} (hi : co[i]? = some (pc, ins, aux)) (hr : am_isRet ins = false) (hv : am_isInv ins = false) {i' : Nat} {ls' st' : List Value} {M' : am_M} (hs : am_step ins aux i ls st M = some (i', ls', st', M')) (h : ∃ n, am_run am_P n d co i' ls' st' M' = some r) : ∃ n, am_run am_P n d co i ls st M = some r := by
  obtain ⟨n, h⟩ := h
  refine ⟨n + 1, ?_⟩
  unfold am_run
  rw [hi]
  dsimp only
  rw [if_neg (by rw [hr]; decide), if_neg (by rw [hv]; decide), hs]
  exact h
theorem am_E_call {d' : Nat} {co : List am_A} {i : Nat} {ls st : List Value} {M : am_M} {r : Option Value × am_M} {pc : Nat} {ins : Instr} {aux : List Nat} (hi : co[i]? = some (pc, ins, aux)) (hr : am_isRet ins = false) (hv : am_isInv ins = true) {mi : Nat} {as rest : List Value} (hc : am_call aux st M = some (mi, as, rest)) {inf : am_I} (hP : am_P mi = some inf) (hl : (am_lay as).length ≤ inf.2.2.1) {n' : Nat} {v : Option Value} {M1 : am_M} (hC : am_run am_P n' d' inf.2.2.2.2.2 0 (am_entry as inf.2.2.1) [] M = some (v, M1)) (h : ∃ n, am_run am_P n (d' + 1) co (i + 1) ls (v.toList ++ rest) M1 = some r) : ∃ n, am_run am_P n (d' + 1) co i ls st M = some r := by
  obtain ⟨n, h⟩ := h
  refine ⟨n + n' + 1, ?_⟩
  unfold am_run
  rw [hi]
  dsimp only
  rw [if_neg (by rw [hr]; decide), if_pos hv, hc]
  dsimp only
  rw [hP]
  dsimp only
  rw [if_pos hl, am_run_fuel am_P n' (n + n') _ _ _ _ _ _ _ (by omega) hC]
  exact am_run_fuel am_P n (n + n') _ _ _ _ _ _ _ (by omega) h
theorem ag_M0nx (L : Nat) (xs : Nat → Int32) : am_nx (ag_M0 L xs) = 9 := rfl
set_option maxRecDepth 100000 in
theorem ac_first (L : Nat) (xs : Nat → Int32) {r : Option Value × am_M} (h : ∃ n, am_run am_P n 1400 ta_L_law 8 [.ref 8, .ref 9, .ref 142, am_junk] [] (ag_rp (ag_M0 L xs) ag_l4) = some r) : ∃ n, am_run am_P n 1400 ta_L_law 0 (am_entry [.ref 8] 4) [] (ag_M0 L xs) = some r := by
  have hn := ag_M0nx L xs
  have e5 : am_nx (ag_rp (ag_M0 L xs) ag_l2) = 142 := (ag_nxE hn ag_l2).trans (by decide +kernel)
  refine am_E_step (i' := 1) (ls' := [.ref 8, am_junk, am_junk, am_junk]) (st' := [.ref 9]) (M' := ag_rp (ag_M0 L xs) ag_l1) rfl rfl rfl rfl ?_
  refine am_E_step (i' := 2) (ls' := [.ref 8, am_junk, am_junk, am_junk]) (st' := [.ref 9, .ref 9]) (M' := ag_rp (ag_M0 L xs) ag_l1) rfl rfl rfl rfl ?_
  refine am_E_call (d' := 1399) (mi := 46) (as := [.ref 9]) (rest := [.ref 9]) (inf := inf_X6_init) (v := none) (M1 := ag_rp (ag_M0 L xs) ag_l2) rfl rfl rfl rfl rfl (Nat.le_of_ble_eq_true rfl) (ag_runE hn _ _ _ _ _ _ _ _ ag_c6) ?_
  refine am_E_step (i' := 4) (ls' := [.ref 8, .ref 9, am_junk, am_junk]) (st' := []) (M' := ag_rp (ag_M0 L xs) ag_l2) rfl rfl rfl rfl ?_
  refine am_E_step (i' := 5) (ls' := [.ref 8, .ref 9, am_junk, am_junk]) (st' := [.ref 142]) (M' := ag_rp (ag_M0 L xs) ag_l3) rfl rfl rfl (by
    show some (_, _, Value.ref (am_nx (ag_rp (ag_M0 L xs) ag_l2)) :: _, _) = _
    rw [e5]
    rfl) ?_
  refine am_E_step (i' := 6) (ls' := [.ref 8, .ref 9, am_junk, am_junk]) (st' := [.ref 142, .ref 142]) (M' := ag_rp (ag_M0 L xs) ag_l3) rfl rfl rfl rfl ?_
  have e6 : am_sh (ag_rp (ag_M0 L xs) ag_l3) 142 = (7, 81) := ag_shE hn ag_l3 142 (7, 81) (by decide +kernel)
  refine am_E_call (d' := 1399) (mi := 111) (as := [.ref 142]) (rest := [.ref 142]) (inf := inf_X7_init) (v := none) (M1 := ag_rp (ag_M0 L xs) ag_l4) rfl rfl rfl (ag_callE (na := 0) (Or.inl rfl) rfl (by rw [e6]) (Nat.zero_le _) (Nat.le_of_ble_eq_true rfl)) rfl (Nat.le_of_ble_eq_true rfl) (ag_runE hn _ _ _ _ _ _ _ _ ag_c7) ?_
  exact am_E_step (i' := 8) (ls' := [.ref 8, .ref 9, .ref 142, am_junk]) (st' := []) (M' := ag_rp (ag_M0 L xs) ag_l4) rfl rfl rfl rfl h
