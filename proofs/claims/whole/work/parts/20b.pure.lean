/-! the memory once both objects stand, as a world -/
def ag_us : List ag_E → Nat
  | [] => 0
  | .inl (_, _, c) :: es => ag_us es + c
  | .inr _ :: es => ag_us es
theorem ag_usE {M : am_M} (h : am_us M = 0) : ∀ es, am_us (ag_rp M es) = ag_us es
  | [] => h
  | .inl (t, n, c) :: es => congrArg (· + c) (ag_usE h es)
  | .inr (.inl (p, k, x)) :: es => (am_wr_us _ _ _ _).trans (ag_usE h es)
  | .inr (.inr (p, k, q)) :: es => (am_wr_us _ _ _ _).trans (ag_usE h es)
theorem ag_shN {M : am_M} (h : am_nx M = 9) : ∀ (es : List ag_E) (p : Nat), ag_sh es p = none → am_sh (ag_rp M es) p = am_sh M p
  | [], _, _ => rfl
  | .inl (t, n, c) :: es, p, z => by
    unfold ag_sh at z
    show (if p = am_nx (ag_rp M es) then (t, n) else am_sh (ag_rp M es) p) = _
    rw [ag_nxE h es]
    split at z
    · cases z
    next hb =>
      rw [if_neg (fun w => by rw [w, Nat.beq_refl] at hb; cases hb)]
      exact ag_shN h es p z
  | .inr (.inl (p', k, x)) :: es, p, z => (am_wr_sh _ _ _ _ _).trans (ag_shN h es p z)
  | .inr (.inr (p', k, q)) :: es, p, z => (am_wr_sh _ _ _ _ _).trans (ag_shN h es p z)
theorem ag_sh_lt : ∀ (es : List ag_E) (p : Nat), (p < 9 ∨ ag_nx es ≤ p) → 9 ≤ ag_nx es ∧ ag_sh es p = none
  | [], _, _ => ⟨Nat.le_refl _, rfl⟩
  | .inl (t, n, c) :: es, p, h => by
    have hn : ag_nx (.inl (t, n, c) :: es) = ag_nx es + 1 := rfl
    rw [hn] at h ⊢
    obtain ⟨a, b⟩ := ag_sh_lt es p (by omega)
    refine ⟨by omega, ?_⟩
    unfold ag_sh
    split
    next hb =>
      have := Nat.eq_of_beq_eq_true hb
      omega
    · exact b
  | .inr (.inl (p', k, x)) :: es, p, h => ag_sh_lt es p h
  | .inr (.inr (p', k, q)) :: es, p, h => ag_sh_lt es p h
set_option maxRecDepth 100000 in
theorem ag_shT : ∀ p, p < 199 → 9 ≤ p → ag_sh ag_l4 p = some (am_MSc p) := by decide +kernel
set_option maxRecDepth 100000 in
theorem ag_nxT : ag_nx ag_l4 = 199 ∧ ag_us ag_l4 = 3977 := by decide +kernel
theorem ag_roS (L : Nat) : ∀ p, p < 9 → p ≠ 8 → am_roS L p = am_MSc p := by
  intro p h1 h2
  rcases (by omega : p = 0 ∨ p = 1 ∨ p = 2 ∨ p = 3 ∨ p = 4 ∨ p = 5 ∨ p = 6 ∨ p = 7) with rfl | rfl | rfl | rfl | rfl | rfl | rfl | rfl <;> rfl
theorem ag_MSbig {p : Nat} (h : 199 ≤ p) : am_MSc p = (1000, 0) := by
  unfold am_MSc
  split
  next hb => exact absurd (Nat.le_of_ble_eq_true hb) (by omega)
  · rfl
theorem ag_sh4 (L : Nat) (xs : Nat → Int32) (p : Nat) : am_sh (ag_rp (ag_M0 L xs) ag_l4) p = (match Nat.beq p 8 with
  | true => (100, L)
  | false => am_MSc p) := by
  have hn := ag_M0nx L xs
  by_cases h9 : p < 9
  · rw [ag_shN hn _ _ (ag_sh_lt ag_l4 p (Or.inl h9)).2]
    show (if p < 9 then am_roS L p else _) = _
    rw [if_pos h9]
    split
    next hb =>
      rw [Nat.eq_of_beq_eq_true hb]
      rfl
    next hb => exact ag_roS L p h9 (fun w => by rw [w] at hb; cases hb)
  · have h8 : Nat.beq p 8 = false := by
      cases hb : Nat.beq p 8
      · rfl
      · have := Nat.eq_of_beq_eq_true hb
        omega
    rw [h8]
    by_cases h : p < 199
    · exact ag_shE hn _ _ _ (ag_shT p h (by omega))
    · rw [ag_shN hn _ _ (ag_sh_lt ag_l4 p (Or.inr (by rw [ag_nxT.1]; omega))).2]
      show (if p < 9 then _ else (1000, 0)) = _
      rw [if_neg h9]
      exact (ag_MSbig (by omega)).symm
set_option maxRecDepth 100000 in
theorem ag_RT : ∀ p, p < 199 → (am_MRl p).length ≤ 82 ∧ ∀ k, k < 82 → (am_MR p k = none ∨ ag_R ag_l4 p k = am_MR p k) := by decide +kernel
theorem ag_MRbig {p : Nat} (h : 199 ≤ p) (k : Nat) : am_MR p k = none := by
  unfold am_MR am_MRl
  split
  next hb => exact absurd (Nat.le_of_ble_eq_true hb) (by omega)
  · rfl
theorem ag_R4 (L : Nat) (xs : Nat → Int32) (p k q : Nat) (h : am_MR p k = some q) : (ag_rp (ag_M0 L xs) ag_l4).2.2.1 p k = some q := by
  by_cases hp : p < 199
  · obtain ⟨h1, h2⟩ := ag_RT p hp
    by_cases hk : k < 82
    · rcases h2 k hk with h3 | h3
      · rw [h3] at h
        cases h
      · exact ag_RE _ _ _ _ (h3.trans h)
    · unfold am_MR at h
      rw [List.getD_eq_getElem?_getD, List.getElem?_eq_none (by omega)] at h
      cases h
  · rw [ag_MRbig (by omega)] at h
    cases h
/-- the world of a run -/
def ag_W (L : Nat) (xs : Nat → Int32) : av_W := ⟨(L, (ag_rp (ag_M0 L xs) ag_l4).2.2.1), ag_R4 L xs⟩
def ag_N (L : Nat) (xs : Nat → Int32) : av_N := ((ag_rp (ag_M0 L xs) ag_l4).1, (ag_rp (ag_M0 L xs) ag_l4).2.1)
theorem ag_S4g (M : am_M) (W : av_W) (hW : W.1.2 = M.2.2.1) (e1 : M.2.2.2.1 = am_MS W) (e2 : M.2.2.2.2.1 = 199) (e3 : M.2.2.2.2.2 = 3977) : M = (M.1, M.2.1, av_S0 W) := by
  unfold av_S0
  rw [hW, ← e1, ← e2, ← e3]
theorem ag_S4 (L : Nat) (xs : Nat → Int32) : ag_rp (ag_M0 L xs) ag_l4 = ((ag_rp (ag_M0 L xs) ag_l4).1, (ag_rp (ag_M0 L xs) ag_l4).2.1, av_S0 (ag_W L xs)) := by
  refine ag_S4g _ (ag_W L xs) ?_ (funext fun p => ag_sh4 L xs p) ((ag_nxE (ag_M0nx L xs) ag_l4).trans ag_nxT.1) ((ag_usE (M := ag_M0 L xs) rfl ag_l4).trans ag_nxT.2)
  unfold ag_W
  rfl
/-- the pure statement, out of the loop's -/
theorem am_pureOf (L : Nat) (xs : Nat → Int32) {N' : av_N} (h : av_V (av_S0 (ag_W L xs)) 1400 ta_L_law 8 [.ref 8, .ref 9, .ref 142, am_junk] [] (ag_N L xs) = some (some (.int 1), N')) : ∃ (n : Nat) (M' : am_M), am_run am_P n 1400 ta_L_law 0 (am_entry [.ref 8] 4) [] (ag_M0 L xs) = some (some (.int 1), M') ∧ am_nx M' - 9 ≤ 600000 ∧ am_us M' ≤ 7302250 := by
  have h1 := av_V_R h
  unfold av_R ag_N at h1
  dsimp only at h1
  rw [← ag_S4 L xs] at h1
  obtain ⟨n, hn⟩ := ac_first L xs h1
  exact ⟨n, _, hn, by show 199 - 9 ≤ 600000; decide, by show 3977 ≤ 7302250; decide⟩
