/-! scenes copied -/
theorem sp_rows_43_12 (L : av_W) (d : Nat) {N : av_N} {s : Nat} (h : N.1 12 4 = nI s) (hs : s ≤ 5) : ∃ N', av_C (av_S0 L) (d + 1) 37 [.ref 43, .ref 12] N = some (none, N') ∧ N'.1 43 4 = nI s ∧ (∀ r, r < s → ∀ j, j < 4 → N'.1 (43 + 1 + j) r = N.1 (12 + 1 + j) r) ∧ al_fr (fun q => 43 ≤ q ∧ q ≤ 47) N N' := by
  have key := lp_0 (P := fun k => ∀ M, al_fr (fun q => 43 ≤ q ∧ q ≤ 47) N M → M.1 43 4 = nI s → (∀ r, r < k → ∀ j, j < 4 → M.1 (43 + 1 + j) r = N.1 (12 + 1 + j) r) → ∃ N', av_V (av_S0 L) (d + 1) ta_X3_become 10 [.ref 43, .ref 12, .int (nI k)] [] M = some (none, N') ∧ N'.1 43 4 = nI s ∧ (∀ r, r < s → ∀ j, j < 4 → N'.1 (43 + 1 + j) r = N.1 (12 + 1 + j) r) ∧ al_fr (fun q => 43 ≤ q ∧ q ≤ 47) N N') s (fun M hM h4 hc => by
    refine ⟨M, ?_, h4, hc, hM⟩
    apply eq_X3_become_43_12_10 (d := d)
    rw [h4, if_neg (nI_nlt (Nat.le_refl _) (by omega))]) (fun k hk ih M hM h4 hc => by
    have rd : ∀ j, 12 ≤ j → j ≤ 16 → M.1 j k = N.1 j k := fun j a b => (hM j (by omega) k).1
    obtain ⟨N', c1, c2⟩ := ih (av_w (av_w (av_w (av_w M 44 k (N.1 13 k)) 45 k (N.1 14 k)) 46 k (N.1 15 k)) 47 k (N.1 16 k)) (al_fr_tr hM (al_fr_tr (al_fr_w (D := fun q => 43 ≤ q ∧ q ≤ 47) M (by omega) _ _) (al_fr_tr (al_fr_w (D := fun q => 43 ≤ q ∧ q ≤ 47) _ (by omega) _ _) (al_fr_tr (al_fr_w (D := fun q => 43 ≤ q ∧ q ≤ 47) _ (by omega) _ _) (al_fr_w (D := fun q => 43 ≤ q ∧ q ≤ 47) _ (by omega) _ _))))) (by
      simp (disch := (first | decide | omega)) only [av_w_s, av_w_o, av_w_k]
      exact h4) (fun r hr j hj => by
      have hold := hc r
      by_cases e : r = k
      · subst e
        rcases (by omega : j = 0 ∨ j = 1 ∨ j = 2 ∨ j = 3) with rfl | rfl | rfl | rfl <;> simp (disch := (first | decide | omega)) only [av_w_s, av_w_o, av_w_k]
      · rw [av_w_k _ _ _ _ e, av_w_k _ _ _ _ e, av_w_k _ _ _ _ e, av_w_k _ _ _ _ e]
        exact hold (by omega) j hj)
    refine ⟨N', ?_, c2⟩
    apply eq_X3_become_43_12_10 (d := d)
    simp (disch := (first | decide | omega)) only [av_gx_s, nI_clamp, av_kP, nI_add, av_w_o, rd]
    rw [h4, if_pos (nI_lt hk (by omega)), show Int32.ofNat 5 = nI 5 from rfl, if_pos (nI_lt (show k < 5 by omega) (by decide))]
    exact c1)
  obtain ⟨N', c1, c2⟩ := key (av_w N 43 4 (nI s)) (al_fr_w (D := fun q => 43 ≤ q ∧ q ≤ 47) N (by omega) _ _) (av_w_s _ _ _ _) (fun r hr => absurd hr (Nat.not_lt_zero _))
  refine ⟨N', ?_, c2⟩
  apply eq_X3_become_43_12 (d := d)
  rw [h, sp_min, av_bi_s, show Int32.ofNat 5 = nI 5 from rfl, if_neg (nI_nlt hs (by omega)), av_kP]
  exact c1
theorem sp_rows_48_17 (L : av_W) (d : Nat) {N : av_N} {s : Nat} (h : N.1 17 4 = nI s) (hs : s ≤ 6) : ∃ N', av_C (av_S0 L) (d + 1) 37 [.ref 48, .ref 17] N = some (none, N') ∧ N'.1 48 4 = nI s ∧ (∀ r, r < s → ∀ j, j < 4 → N'.1 (48 + 1 + j) r = N.1 (17 + 1 + j) r) ∧ al_fr (fun q => 48 ≤ q ∧ q ≤ 52) N N' := by
  have key := lp_0 (P := fun k => ∀ M, al_fr (fun q => 48 ≤ q ∧ q ≤ 52) N M → M.1 48 4 = nI s → (∀ r, r < k → ∀ j, j < 4 → M.1 (48 + 1 + j) r = N.1 (17 + 1 + j) r) → ∃ N', av_V (av_S0 L) (d + 1) ta_X3_become 10 [.ref 48, .ref 17, .int (nI k)] [] M = some (none, N') ∧ N'.1 48 4 = nI s ∧ (∀ r, r < s → ∀ j, j < 4 → N'.1 (48 + 1 + j) r = N.1 (17 + 1 + j) r) ∧ al_fr (fun q => 48 ≤ q ∧ q ≤ 52) N N') s (fun M hM h4 hc => by
    refine ⟨M, ?_, h4, hc, hM⟩
    apply eq_X3_become_48_17_10 (d := d)
    rw [h4, if_neg (nI_nlt (Nat.le_refl _) (by omega))]) (fun k hk ih M hM h4 hc => by
    have rd : ∀ j, 17 ≤ j → j ≤ 21 → M.1 j k = N.1 j k := fun j a b => (hM j (by omega) k).1
    obtain ⟨N', c1, c2⟩ := ih (av_w (av_w (av_w (av_w M 49 k (N.1 18 k)) 50 k (N.1 19 k)) 51 k (N.1 20 k)) 52 k (N.1 21 k)) (al_fr_tr hM (al_fr_tr (al_fr_w (D := fun q => 48 ≤ q ∧ q ≤ 52) M (by omega) _ _) (al_fr_tr (al_fr_w (D := fun q => 48 ≤ q ∧ q ≤ 52) _ (by omega) _ _) (al_fr_tr (al_fr_w (D := fun q => 48 ≤ q ∧ q ≤ 52) _ (by omega) _ _) (al_fr_w (D := fun q => 48 ≤ q ∧ q ≤ 52) _ (by omega) _ _))))) (by
      simp (disch := (first | decide | omega)) only [av_w_s, av_w_o, av_w_k]
      exact h4) (fun r hr j hj => by
      have hold := hc r
      by_cases e : r = k
      · subst e
        rcases (by omega : j = 0 ∨ j = 1 ∨ j = 2 ∨ j = 3) with rfl | rfl | rfl | rfl <;> simp (disch := (first | decide | omega)) only [av_w_s, av_w_o, av_w_k]
      · rw [av_w_k _ _ _ _ e, av_w_k _ _ _ _ e, av_w_k _ _ _ _ e, av_w_k _ _ _ _ e]
        exact hold (by omega) j hj)
    refine ⟨N', ?_, c2⟩
    apply eq_X3_become_48_17_10 (d := d)
    simp (disch := (first | decide | omega)) only [av_gx_s, nI_clamp, av_kP, nI_add, av_w_o, rd]
    rw [h4, if_pos (nI_lt hk (by omega)), show Int32.ofNat 6 = nI 6 from rfl, if_pos (nI_lt (show k < 6 by omega) (by decide))]
    exact c1)
  obtain ⟨N', c1, c2⟩ := key (av_w N 48 4 (nI s)) (al_fr_w (D := fun q => 48 ≤ q ∧ q ≤ 52) N (by omega) _ _) (av_w_s _ _ _ _) (fun r hr => absurd hr (Nat.not_lt_zero _))
  refine ⟨N', ?_, c2⟩
  apply eq_X3_become_48_17 (d := d)
  rw [h, sp_min, av_bi_s, show Int32.ofNat 6 = nI 6 from rfl, if_neg (nI_nlt hs (by omega)), av_kP]
  exact c1
theorem sp_rows_53_22 (L : av_W) (d : Nat) {N : av_N} {s : Nat} (h : N.1 22 4 = nI s) (hs : s ≤ 8) : ∃ N', av_C (av_S0 L) (d + 1) 37 [.ref 53, .ref 22] N = some (none, N') ∧ N'.1 53 4 = nI s ∧ (∀ r, r < s → ∀ j, j < 4 → N'.1 (53 + 1 + j) r = N.1 (22 + 1 + j) r) ∧ al_fr (fun q => 53 ≤ q ∧ q ≤ 57) N N' := by
  have key := lp_0 (P := fun k => ∀ M, al_fr (fun q => 53 ≤ q ∧ q ≤ 57) N M → M.1 53 4 = nI s → (∀ r, r < k → ∀ j, j < 4 → M.1 (53 + 1 + j) r = N.1 (22 + 1 + j) r) → ∃ N', av_V (av_S0 L) (d + 1) ta_X3_become 10 [.ref 53, .ref 22, .int (nI k)] [] M = some (none, N') ∧ N'.1 53 4 = nI s ∧ (∀ r, r < s → ∀ j, j < 4 → N'.1 (53 + 1 + j) r = N.1 (22 + 1 + j) r) ∧ al_fr (fun q => 53 ≤ q ∧ q ≤ 57) N N') s (fun M hM h4 hc => by
    refine ⟨M, ?_, h4, hc, hM⟩
    apply eq_X3_become_53_22_10 (d := d)
    rw [h4, if_neg (nI_nlt (Nat.le_refl _) (by omega))]) (fun k hk ih M hM h4 hc => by
    have rd : ∀ j, 22 ≤ j → j ≤ 26 → M.1 j k = N.1 j k := fun j a b => (hM j (by omega) k).1
    obtain ⟨N', c1, c2⟩ := ih (av_w (av_w (av_w (av_w M 54 k (N.1 23 k)) 55 k (N.1 24 k)) 56 k (N.1 25 k)) 57 k (N.1 26 k)) (al_fr_tr hM (al_fr_tr (al_fr_w (D := fun q => 53 ≤ q ∧ q ≤ 57) M (by omega) _ _) (al_fr_tr (al_fr_w (D := fun q => 53 ≤ q ∧ q ≤ 57) _ (by omega) _ _) (al_fr_tr (al_fr_w (D := fun q => 53 ≤ q ∧ q ≤ 57) _ (by omega) _ _) (al_fr_w (D := fun q => 53 ≤ q ∧ q ≤ 57) _ (by omega) _ _))))) (by
      simp (disch := (first | decide | omega)) only [av_w_s, av_w_o, av_w_k]
      exact h4) (fun r hr j hj => by
      have hold := hc r
      by_cases e : r = k
      · subst e
        rcases (by omega : j = 0 ∨ j = 1 ∨ j = 2 ∨ j = 3) with rfl | rfl | rfl | rfl <;> simp (disch := (first | decide | omega)) only [av_w_s, av_w_o, av_w_k]
      · rw [av_w_k _ _ _ _ e, av_w_k _ _ _ _ e, av_w_k _ _ _ _ e, av_w_k _ _ _ _ e]
        exact hold (by omega) j hj)
    refine ⟨N', ?_, c2⟩
    apply eq_X3_become_53_22_10 (d := d)
    simp (disch := (first | decide | omega)) only [av_gx_s, nI_clamp, av_kP, nI_add, av_w_o, rd]
    rw [h4, if_pos (nI_lt hk (by omega)), show Int32.ofNat 8 = nI 8 from rfl, if_pos (nI_lt (show k < 8 by omega) (by decide))]
    exact c1)
  obtain ⟨N', c1, c2⟩ := key (av_w N 53 4 (nI s)) (al_fr_w (D := fun q => 53 ≤ q ∧ q ≤ 57) N (by omega) _ _) (av_w_s _ _ _ _) (fun r hr => absurd hr (Nat.not_lt_zero _))
  refine ⟨N', ?_, c2⟩
  apply eq_X3_become_53_22 (d := d)
  rw [h, sp_min, av_bi_s, show Int32.ofNat 8 = nI 8 from rfl, if_neg (nI_nlt hs (by omega)), av_kP]
  exact c1
theorem sp_rows_12_43 (L : av_W) (d : Nat) {N : av_N} {s : Nat} (h : N.1 43 4 = nI s) (hs : s ≤ 5) : ∃ N', av_C (av_S0 L) (d + 1) 37 [.ref 12, .ref 43] N = some (none, N') ∧ N'.1 12 4 = nI s ∧ (∀ r, r < s → ∀ j, j < 4 → N'.1 (12 + 1 + j) r = N.1 (43 + 1 + j) r) ∧ al_fr (fun q => 12 ≤ q ∧ q ≤ 16) N N' := by
  have key := lp_0 (P := fun k => ∀ M, al_fr (fun q => 12 ≤ q ∧ q ≤ 16) N M → M.1 12 4 = nI s → (∀ r, r < k → ∀ j, j < 4 → M.1 (12 + 1 + j) r = N.1 (43 + 1 + j) r) → ∃ N', av_V (av_S0 L) (d + 1) ta_X3_become 10 [.ref 12, .ref 43, .int (nI k)] [] M = some (none, N') ∧ N'.1 12 4 = nI s ∧ (∀ r, r < s → ∀ j, j < 4 → N'.1 (12 + 1 + j) r = N.1 (43 + 1 + j) r) ∧ al_fr (fun q => 12 ≤ q ∧ q ≤ 16) N N') s (fun M hM h4 hc => by
    refine ⟨M, ?_, h4, hc, hM⟩
    apply eq_X3_become_12_43_10 (d := d)
    rw [h4, if_neg (nI_nlt (Nat.le_refl _) (by omega))]) (fun k hk ih M hM h4 hc => by
    have rd : ∀ j, 43 ≤ j → j ≤ 47 → M.1 j k = N.1 j k := fun j a b => (hM j (by omega) k).1
    obtain ⟨N', c1, c2⟩ := ih (av_w (av_w (av_w (av_w M 13 k (N.1 44 k)) 14 k (N.1 45 k)) 15 k (N.1 46 k)) 16 k (N.1 47 k)) (al_fr_tr hM (al_fr_tr (al_fr_w (D := fun q => 12 ≤ q ∧ q ≤ 16) M (by omega) _ _) (al_fr_tr (al_fr_w (D := fun q => 12 ≤ q ∧ q ≤ 16) _ (by omega) _ _) (al_fr_tr (al_fr_w (D := fun q => 12 ≤ q ∧ q ≤ 16) _ (by omega) _ _) (al_fr_w (D := fun q => 12 ≤ q ∧ q ≤ 16) _ (by omega) _ _))))) (by
      simp (disch := (first | decide | omega)) only [av_w_s, av_w_o, av_w_k]
      exact h4) (fun r hr j hj => by
      have hold := hc r
      by_cases e : r = k
      · subst e
        rcases (by omega : j = 0 ∨ j = 1 ∨ j = 2 ∨ j = 3) with rfl | rfl | rfl | rfl <;> simp (disch := (first | decide | omega)) only [av_w_s, av_w_o, av_w_k]
      · rw [av_w_k _ _ _ _ e, av_w_k _ _ _ _ e, av_w_k _ _ _ _ e, av_w_k _ _ _ _ e]
        exact hold (by omega) j hj)
    refine ⟨N', ?_, c2⟩
    apply eq_X3_become_12_43_10 (d := d)
    simp (disch := (first | decide | omega)) only [av_gx_s, nI_clamp, av_kP, nI_add, av_w_o, rd]
    rw [h4, if_pos (nI_lt hk (by omega)), show Int32.ofNat 5 = nI 5 from rfl, if_pos (nI_lt (show k < 5 by omega) (by decide))]
    exact c1)
  obtain ⟨N', c1, c2⟩ := key (av_w N 12 4 (nI s)) (al_fr_w (D := fun q => 12 ≤ q ∧ q ≤ 16) N (by omega) _ _) (av_w_s _ _ _ _) (fun r hr => absurd hr (Nat.not_lt_zero _))
  refine ⟨N', ?_, c2⟩
  apply eq_X3_become_12_43 (d := d)
  rw [h, sp_min, av_bi_s, show Int32.ofNat 5 = nI 5 from rfl, if_neg (nI_nlt hs (by omega)), av_kP]
  exact c1
theorem sp_rows_17_48 (L : av_W) (d : Nat) {N : av_N} {s : Nat} (h : N.1 48 4 = nI s) (hs : s ≤ 6) : ∃ N', av_C (av_S0 L) (d + 1) 37 [.ref 17, .ref 48] N = some (none, N') ∧ N'.1 17 4 = nI s ∧ (∀ r, r < s → ∀ j, j < 4 → N'.1 (17 + 1 + j) r = N.1 (48 + 1 + j) r) ∧ al_fr (fun q => 17 ≤ q ∧ q ≤ 21) N N' := by
  have key := lp_0 (P := fun k => ∀ M, al_fr (fun q => 17 ≤ q ∧ q ≤ 21) N M → M.1 17 4 = nI s → (∀ r, r < k → ∀ j, j < 4 → M.1 (17 + 1 + j) r = N.1 (48 + 1 + j) r) → ∃ N', av_V (av_S0 L) (d + 1) ta_X3_become 10 [.ref 17, .ref 48, .int (nI k)] [] M = some (none, N') ∧ N'.1 17 4 = nI s ∧ (∀ r, r < s → ∀ j, j < 4 → N'.1 (17 + 1 + j) r = N.1 (48 + 1 + j) r) ∧ al_fr (fun q => 17 ≤ q ∧ q ≤ 21) N N') s (fun M hM h4 hc => by
    refine ⟨M, ?_, h4, hc, hM⟩
    apply eq_X3_become_17_48_10 (d := d)
    rw [h4, if_neg (nI_nlt (Nat.le_refl _) (by omega))]) (fun k hk ih M hM h4 hc => by
    have rd : ∀ j, 48 ≤ j → j ≤ 52 → M.1 j k = N.1 j k := fun j a b => (hM j (by omega) k).1
    obtain ⟨N', c1, c2⟩ := ih (av_w (av_w (av_w (av_w M 18 k (N.1 49 k)) 19 k (N.1 50 k)) 20 k (N.1 51 k)) 21 k (N.1 52 k)) (al_fr_tr hM (al_fr_tr (al_fr_w (D := fun q => 17 ≤ q ∧ q ≤ 21) M (by omega) _ _) (al_fr_tr (al_fr_w (D := fun q => 17 ≤ q ∧ q ≤ 21) _ (by omega) _ _) (al_fr_tr (al_fr_w (D := fun q => 17 ≤ q ∧ q ≤ 21) _ (by omega) _ _) (al_fr_w (D := fun q => 17 ≤ q ∧ q ≤ 21) _ (by omega) _ _))))) (by
      simp (disch := (first | decide | omega)) only [av_w_s, av_w_o, av_w_k]
      exact h4) (fun r hr j hj => by
      have hold := hc r
      by_cases e : r = k
      · subst e
        rcases (by omega : j = 0 ∨ j = 1 ∨ j = 2 ∨ j = 3) with rfl | rfl | rfl | rfl <;> simp (disch := (first | decide | omega)) only [av_w_s, av_w_o, av_w_k]
      · rw [av_w_k _ _ _ _ e, av_w_k _ _ _ _ e, av_w_k _ _ _ _ e, av_w_k _ _ _ _ e]
        exact hold (by omega) j hj)
    refine ⟨N', ?_, c2⟩
    apply eq_X3_become_17_48_10 (d := d)
    simp (disch := (first | decide | omega)) only [av_gx_s, nI_clamp, av_kP, nI_add, av_w_o, rd]
    rw [h4, if_pos (nI_lt hk (by omega)), show Int32.ofNat 6 = nI 6 from rfl, if_pos (nI_lt (show k < 6 by omega) (by decide))]
    exact c1)
  obtain ⟨N', c1, c2⟩ := key (av_w N 17 4 (nI s)) (al_fr_w (D := fun q => 17 ≤ q ∧ q ≤ 21) N (by omega) _ _) (av_w_s _ _ _ _) (fun r hr => absurd hr (Nat.not_lt_zero _))
  refine ⟨N', ?_, c2⟩
  apply eq_X3_become_17_48 (d := d)
  rw [h, sp_min, av_bi_s, show Int32.ofNat 6 = nI 6 from rfl, if_neg (nI_nlt hs (by omega)), av_kP]
  exact c1
theorem sp_rows_22_53 (L : av_W) (d : Nat) {N : av_N} {s : Nat} (h : N.1 53 4 = nI s) (hs : s ≤ 8) : ∃ N', av_C (av_S0 L) (d + 1) 37 [.ref 22, .ref 53] N = some (none, N') ∧ N'.1 22 4 = nI s ∧ (∀ r, r < s → ∀ j, j < 4 → N'.1 (22 + 1 + j) r = N.1 (53 + 1 + j) r) ∧ al_fr (fun q => 22 ≤ q ∧ q ≤ 26) N N' := by
  have key := lp_0 (P := fun k => ∀ M, al_fr (fun q => 22 ≤ q ∧ q ≤ 26) N M → M.1 22 4 = nI s → (∀ r, r < k → ∀ j, j < 4 → M.1 (22 + 1 + j) r = N.1 (53 + 1 + j) r) → ∃ N', av_V (av_S0 L) (d + 1) ta_X3_become 10 [.ref 22, .ref 53, .int (nI k)] [] M = some (none, N') ∧ N'.1 22 4 = nI s ∧ (∀ r, r < s → ∀ j, j < 4 → N'.1 (22 + 1 + j) r = N.1 (53 + 1 + j) r) ∧ al_fr (fun q => 22 ≤ q ∧ q ≤ 26) N N') s (fun M hM h4 hc => by
    refine ⟨M, ?_, h4, hc, hM⟩
    apply eq_X3_become_22_53_10 (d := d)
    rw [h4, if_neg (nI_nlt (Nat.le_refl _) (by omega))]) (fun k hk ih M hM h4 hc => by
    have rd : ∀ j, 53 ≤ j → j ≤ 57 → M.1 j k = N.1 j k := fun j a b => (hM j (by omega) k).1
    obtain ⟨N', c1, c2⟩ := ih (av_w (av_w (av_w (av_w M 23 k (N.1 54 k)) 24 k (N.1 55 k)) 25 k (N.1 56 k)) 26 k (N.1 57 k)) (al_fr_tr hM (al_fr_tr (al_fr_w (D := fun q => 22 ≤ q ∧ q ≤ 26) M (by omega) _ _) (al_fr_tr (al_fr_w (D := fun q => 22 ≤ q ∧ q ≤ 26) _ (by omega) _ _) (al_fr_tr (al_fr_w (D := fun q => 22 ≤ q ∧ q ≤ 26) _ (by omega) _ _) (al_fr_w (D := fun q => 22 ≤ q ∧ q ≤ 26) _ (by omega) _ _))))) (by
      simp (disch := (first | decide | omega)) only [av_w_s, av_w_o, av_w_k]
      exact h4) (fun r hr j hj => by
      have hold := hc r
      by_cases e : r = k
      · subst e
        rcases (by omega : j = 0 ∨ j = 1 ∨ j = 2 ∨ j = 3) with rfl | rfl | rfl | rfl <;> simp (disch := (first | decide | omega)) only [av_w_s, av_w_o, av_w_k]
      · rw [av_w_k _ _ _ _ e, av_w_k _ _ _ _ e, av_w_k _ _ _ _ e, av_w_k _ _ _ _ e]
        exact hold (by omega) j hj)
    refine ⟨N', ?_, c2⟩
    apply eq_X3_become_22_53_10 (d := d)
    simp (disch := (first | decide | omega)) only [av_gx_s, nI_clamp, av_kP, nI_add, av_w_o, rd]
    rw [h4, if_pos (nI_lt hk (by omega)), show Int32.ofNat 8 = nI 8 from rfl, if_pos (nI_lt (show k < 8 by omega) (by decide))]
    exact c1)
  obtain ⟨N', c1, c2⟩ := key (av_w N 22 4 (nI s)) (al_fr_w (D := fun q => 22 ≤ q ∧ q ≤ 26) N (by omega) _ _) (av_w_s _ _ _ _) (fun r hr => absurd hr (Nat.not_lt_zero _))
  refine ⟨N', ?_, c2⟩
  apply eq_X3_become_22_53 (d := d)
  rw [h, sp_min, av_bi_s, show Int32.ofNat 8 = nI 8 from rfl, if_neg (nI_nlt hs (by omega)), av_kP]
  exact c1
theorem sp_rows_79_12 (L : av_W) (d : Nat) {N : av_N} {s : Nat} (h : N.1 12 4 = nI s) (hs : s ≤ 5) : ∃ N', av_C (av_S0 L) (d + 1) 37 [.ref 79, .ref 12] N = some (none, N') ∧ N'.1 79 4 = nI s ∧ (∀ r, r < s → ∀ j, j < 4 → N'.1 (79 + 1 + j) r = N.1 (12 + 1 + j) r) ∧ al_fr (fun q => 79 ≤ q ∧ q ≤ 83) N N' := by
  have key := lp_0 (P := fun k => ∀ M, al_fr (fun q => 79 ≤ q ∧ q ≤ 83) N M → M.1 79 4 = nI s → (∀ r, r < k → ∀ j, j < 4 → M.1 (79 + 1 + j) r = N.1 (12 + 1 + j) r) → ∃ N', av_V (av_S0 L) (d + 1) ta_X3_become 10 [.ref 79, .ref 12, .int (nI k)] [] M = some (none, N') ∧ N'.1 79 4 = nI s ∧ (∀ r, r < s → ∀ j, j < 4 → N'.1 (79 + 1 + j) r = N.1 (12 + 1 + j) r) ∧ al_fr (fun q => 79 ≤ q ∧ q ≤ 83) N N') s (fun M hM h4 hc => by
    refine ⟨M, ?_, h4, hc, hM⟩
    apply eq_X3_become_79_12_10 (d := d)
    rw [h4, if_neg (nI_nlt (Nat.le_refl _) (by omega))]) (fun k hk ih M hM h4 hc => by
    have rd : ∀ j, 12 ≤ j → j ≤ 16 → M.1 j k = N.1 j k := fun j a b => (hM j (by omega) k).1
    obtain ⟨N', c1, c2⟩ := ih (av_w (av_w (av_w (av_w M 80 k (N.1 13 k)) 81 k (N.1 14 k)) 82 k (N.1 15 k)) 83 k (N.1 16 k)) (al_fr_tr hM (al_fr_tr (al_fr_w (D := fun q => 79 ≤ q ∧ q ≤ 83) M (by omega) _ _) (al_fr_tr (al_fr_w (D := fun q => 79 ≤ q ∧ q ≤ 83) _ (by omega) _ _) (al_fr_tr (al_fr_w (D := fun q => 79 ≤ q ∧ q ≤ 83) _ (by omega) _ _) (al_fr_w (D := fun q => 79 ≤ q ∧ q ≤ 83) _ (by omega) _ _))))) (by
      simp (disch := (first | decide | omega)) only [av_w_s, av_w_o, av_w_k]
      exact h4) (fun r hr j hj => by
      have hold := hc r
      by_cases e : r = k
      · subst e
        rcases (by omega : j = 0 ∨ j = 1 ∨ j = 2 ∨ j = 3) with rfl | rfl | rfl | rfl <;> simp (disch := (first | decide | omega)) only [av_w_s, av_w_o, av_w_k]
      · rw [av_w_k _ _ _ _ e, av_w_k _ _ _ _ e, av_w_k _ _ _ _ e, av_w_k _ _ _ _ e]
        exact hold (by omega) j hj)
    refine ⟨N', ?_, c2⟩
    apply eq_X3_become_79_12_10 (d := d)
    simp (disch := (first | decide | omega)) only [av_gx_s, nI_clamp, av_kP, nI_add, av_w_o, rd]
    rw [h4, if_pos (nI_lt hk (by omega)), show Int32.ofNat 5 = nI 5 from rfl, if_pos (nI_lt (show k < 5 by omega) (by decide))]
    exact c1)
  obtain ⟨N', c1, c2⟩ := key (av_w N 79 4 (nI s)) (al_fr_w (D := fun q => 79 ≤ q ∧ q ≤ 83) N (by omega) _ _) (av_w_s _ _ _ _) (fun r hr => absurd hr (Nat.not_lt_zero _))
  refine ⟨N', ?_, c2⟩
  apply eq_X3_become_79_12 (d := d)
  rw [h, sp_min, av_bi_s, show Int32.ofNat 5 = nI 5 from rfl, if_neg (nI_nlt hs (by omega)), av_kP]
  exact c1
theorem sp_rows_84_17 (L : av_W) (d : Nat) {N : av_N} {s : Nat} (h : N.1 17 4 = nI s) (hs : s ≤ 6) : ∃ N', av_C (av_S0 L) (d + 1) 37 [.ref 84, .ref 17] N = some (none, N') ∧ N'.1 84 4 = nI s ∧ (∀ r, r < s → ∀ j, j < 4 → N'.1 (84 + 1 + j) r = N.1 (17 + 1 + j) r) ∧ al_fr (fun q => 84 ≤ q ∧ q ≤ 88) N N' := by
  have key := lp_0 (P := fun k => ∀ M, al_fr (fun q => 84 ≤ q ∧ q ≤ 88) N M → M.1 84 4 = nI s → (∀ r, r < k → ∀ j, j < 4 → M.1 (84 + 1 + j) r = N.1 (17 + 1 + j) r) → ∃ N', av_V (av_S0 L) (d + 1) ta_X3_become 10 [.ref 84, .ref 17, .int (nI k)] [] M = some (none, N') ∧ N'.1 84 4 = nI s ∧ (∀ r, r < s → ∀ j, j < 4 → N'.1 (84 + 1 + j) r = N.1 (17 + 1 + j) r) ∧ al_fr (fun q => 84 ≤ q ∧ q ≤ 88) N N') s (fun M hM h4 hc => by
    refine ⟨M, ?_, h4, hc, hM⟩
    apply eq_X3_become_84_17_10 (d := d)
    rw [h4, if_neg (nI_nlt (Nat.le_refl _) (by omega))]) (fun k hk ih M hM h4 hc => by
    have rd : ∀ j, 17 ≤ j → j ≤ 21 → M.1 j k = N.1 j k := fun j a b => (hM j (by omega) k).1
    obtain ⟨N', c1, c2⟩ := ih (av_w (av_w (av_w (av_w M 85 k (N.1 18 k)) 86 k (N.1 19 k)) 87 k (N.1 20 k)) 88 k (N.1 21 k)) (al_fr_tr hM (al_fr_tr (al_fr_w (D := fun q => 84 ≤ q ∧ q ≤ 88) M (by omega) _ _) (al_fr_tr (al_fr_w (D := fun q => 84 ≤ q ∧ q ≤ 88) _ (by omega) _ _) (al_fr_tr (al_fr_w (D := fun q => 84 ≤ q ∧ q ≤ 88) _ (by omega) _ _) (al_fr_w (D := fun q => 84 ≤ q ∧ q ≤ 88) _ (by omega) _ _))))) (by
      simp (disch := (first | decide | omega)) only [av_w_s, av_w_o, av_w_k]
      exact h4) (fun r hr j hj => by
      have hold := hc r
      by_cases e : r = k
      · subst e
        rcases (by omega : j = 0 ∨ j = 1 ∨ j = 2 ∨ j = 3) with rfl | rfl | rfl | rfl <;> simp (disch := (first | decide | omega)) only [av_w_s, av_w_o, av_w_k]
      · rw [av_w_k _ _ _ _ e, av_w_k _ _ _ _ e, av_w_k _ _ _ _ e, av_w_k _ _ _ _ e]
        exact hold (by omega) j hj)
    refine ⟨N', ?_, c2⟩
    apply eq_X3_become_84_17_10 (d := d)
    simp (disch := (first | decide | omega)) only [av_gx_s, nI_clamp, av_kP, nI_add, av_w_o, rd]
    rw [h4, if_pos (nI_lt hk (by omega)), show Int32.ofNat 6 = nI 6 from rfl, if_pos (nI_lt (show k < 6 by omega) (by decide))]
    exact c1)
  obtain ⟨N', c1, c2⟩ := key (av_w N 84 4 (nI s)) (al_fr_w (D := fun q => 84 ≤ q ∧ q ≤ 88) N (by omega) _ _) (av_w_s _ _ _ _) (fun r hr => absurd hr (Nat.not_lt_zero _))
  refine ⟨N', ?_, c2⟩
  apply eq_X3_become_84_17 (d := d)
  rw [h, sp_min, av_bi_s, show Int32.ofNat 6 = nI 6 from rfl, if_neg (nI_nlt hs (by omega)), av_kP]
  exact c1
theorem sp_rows_89_22 (L : av_W) (d : Nat) {N : av_N} {s : Nat} (h : N.1 22 4 = nI s) (hs : s ≤ 8) : ∃ N', av_C (av_S0 L) (d + 1) 37 [.ref 89, .ref 22] N = some (none, N') ∧ N'.1 89 4 = nI s ∧ (∀ r, r < s → ∀ j, j < 4 → N'.1 (89 + 1 + j) r = N.1 (22 + 1 + j) r) ∧ al_fr (fun q => 89 ≤ q ∧ q ≤ 93) N N' := by
  have key := lp_0 (P := fun k => ∀ M, al_fr (fun q => 89 ≤ q ∧ q ≤ 93) N M → M.1 89 4 = nI s → (∀ r, r < k → ∀ j, j < 4 → M.1 (89 + 1 + j) r = N.1 (22 + 1 + j) r) → ∃ N', av_V (av_S0 L) (d + 1) ta_X3_become 10 [.ref 89, .ref 22, .int (nI k)] [] M = some (none, N') ∧ N'.1 89 4 = nI s ∧ (∀ r, r < s → ∀ j, j < 4 → N'.1 (89 + 1 + j) r = N.1 (22 + 1 + j) r) ∧ al_fr (fun q => 89 ≤ q ∧ q ≤ 93) N N') s (fun M hM h4 hc => by
    refine ⟨M, ?_, h4, hc, hM⟩
    apply eq_X3_become_89_22_10 (d := d)
    rw [h4, if_neg (nI_nlt (Nat.le_refl _) (by omega))]) (fun k hk ih M hM h4 hc => by
    have rd : ∀ j, 22 ≤ j → j ≤ 26 → M.1 j k = N.1 j k := fun j a b => (hM j (by omega) k).1
    obtain ⟨N', c1, c2⟩ := ih (av_w (av_w (av_w (av_w M 90 k (N.1 23 k)) 91 k (N.1 24 k)) 92 k (N.1 25 k)) 93 k (N.1 26 k)) (al_fr_tr hM (al_fr_tr (al_fr_w (D := fun q => 89 ≤ q ∧ q ≤ 93) M (by omega) _ _) (al_fr_tr (al_fr_w (D := fun q => 89 ≤ q ∧ q ≤ 93) _ (by omega) _ _) (al_fr_tr (al_fr_w (D := fun q => 89 ≤ q ∧ q ≤ 93) _ (by omega) _ _) (al_fr_w (D := fun q => 89 ≤ q ∧ q ≤ 93) _ (by omega) _ _))))) (by
      simp (disch := (first | decide | omega)) only [av_w_s, av_w_o, av_w_k]
      exact h4) (fun r hr j hj => by
      have hold := hc r
      by_cases e : r = k
      · subst e
        rcases (by omega : j = 0 ∨ j = 1 ∨ j = 2 ∨ j = 3) with rfl | rfl | rfl | rfl <;> simp (disch := (first | decide | omega)) only [av_w_s, av_w_o, av_w_k]
      · rw [av_w_k _ _ _ _ e, av_w_k _ _ _ _ e, av_w_k _ _ _ _ e, av_w_k _ _ _ _ e]
        exact hold (by omega) j hj)
    refine ⟨N', ?_, c2⟩
    apply eq_X3_become_89_22_10 (d := d)
    simp (disch := (first | decide | omega)) only [av_gx_s, nI_clamp, av_kP, nI_add, av_w_o, rd]
    rw [h4, if_pos (nI_lt hk (by omega)), show Int32.ofNat 8 = nI 8 from rfl, if_pos (nI_lt (show k < 8 by omega) (by decide))]
    exact c1)
  obtain ⟨N', c1, c2⟩ := key (av_w N 89 4 (nI s)) (al_fr_w (D := fun q => 89 ≤ q ∧ q ≤ 93) N (by omega) _ _) (av_w_s _ _ _ _) (fun r hr => absurd hr (Nat.not_lt_zero _))
  refine ⟨N', ?_, c2⟩
  apply eq_X3_become_89_22 (d := d)
  rw [h, sp_min, av_bi_s, show Int32.ofNat 8 = nI 8 from rfl, if_neg (nI_nlt hs (by omega)), av_kP]
  exact c1
theorem sp_scene_77_10 (L : av_W) (d : Nat) {N : av_N} {n day s1 s2 s3 : Nat} {B : Nat → Nat → Nat} (hs : al_sn N 10 27 n day B) (h1 : N.1 12 4 = nI s1) (h2 : N.1 17 4 = nI s2) (h3 : N.1 22 4 = nI s3) (l1 : s1 ≤ 5) (l2 : s2 ≤ 6) (l3 : s3 ≤ 8) : ∃ N', av_C (av_S0 L) (d + 8) 41 [.ref 77, .ref 10] N = some (none, N') ∧ al_sn N' 77 94 n day B ∧ N'.1 77 3 = N.1 10 3 ∧ (N'.1 79 4 = nI s1 ∧ ∀ r, r < s1 → ∀ j, j < 4 → N'.1 (79 + 1 + j) r = N.1 (12 + 1 + j) r) ∧ (N'.1 84 4 = nI s2 ∧ ∀ r, r < s2 → ∀ j, j < 4 → N'.1 (84 + 1 + j) r = N.1 (17 + 1 + j) r) ∧ (N'.1 89 4 = nI s3 ∧ ∀ r, r < s3 → ∀ j, j < 4 → N'.1 (89 + 1 + j) r = N.1 (22 + 1 + j) r) ∧ al_fr (fun q => 77 ≤ q ∧ q ≤ 107) N N' := by
  have hn := hs.1
  have key := lp_0 (P := fun k => ∀ M, al_fr (fun q => 77 ≤ q ∧ q ≤ 107) N M → M.1 77 1 = nI n → M.1 77 2 = nI day → M.1 77 3 = N.1 10 3 → (∀ b, b < k → al_bd M (94 + 2 * b) (B b)) → ∃ N', av_V (av_S0 L) (d + 8) ta_X4_become 14 [.ref 77, .ref 10, .int (nI k)] [] M = some (none, N') ∧ al_sn N' 77 94 n day B ∧ N'.1 77 3 = N.1 10 3 ∧ (N'.1 79 4 = nI s1 ∧ ∀ r, r < s1 → ∀ j, j < 4 → N'.1 (79 + 1 + j) r = N.1 (12 + 1 + j) r) ∧ (N'.1 84 4 = nI s2 ∧ ∀ r, r < s2 → ∀ j, j < 4 → N'.1 (84 + 1 + j) r = N.1 (17 + 1 + j) r) ∧ (N'.1 89 4 = nI s3 ∧ ∀ r, r < s3 → ∀ j, j < 4 → N'.1 (89 + 1 + j) r = N.1 (22 + 1 + j) r) ∧ al_fr (fun q => 77 ≤ q ∧ q ≤ 107) N N') n (fun M hM m1 m2 m3 mb => by
    have rd : ∀ q k, 10 ≤ q → q ≤ 40 → M.1 q k = N.1 q k := fun q k a b => (hM q (by omega) k).1
    obtain ⟨M1, c1, a1, a2, f1⟩ := sp_rows_79_12 L (d + 6) ((rd 12 4 (by decide) (by decide)).trans h1) l1
    obtain ⟨M2, c2, b1, b2, f2⟩ := sp_rows_84_17 L (d + 6) (((f1 17 (by omega) 4).1.trans (rd 17 4 (by decide) (by decide))).trans h2) l2
    obtain ⟨M3, c3, d1, d2, f3⟩ := sp_rows_89_22 L (d + 6) (((f2 22 (by omega) 4).1.trans ((f1 22 (by omega) 4).1.trans (rd 22 4 (by decide) (by decide)))).trans h3) l3
    have g : ∀ q k, ¬ (79 ≤ q ∧ q ≤ 93) → M3.1 q k = M.1 q k := fun q k hq => ((f3 q (by omega) k).1.trans ((f2 q (by omega) k).1)).trans (f1 q (by omega) k).1
    refine ⟨M3, ?_, ⟨hn, (g _ _ (by omega)).trans m1, (g _ _ (by omega)).trans m2, fun b hb => ⟨⟨fun f x y => (g _ _ (by omega)).trans ((mb b hb).1 f x y), fun j hj => (g _ _ (by omega)).trans ((mb b hb).2 j hj)⟩, (hs.2.2.2.1 b hb).2⟩, hs.2.2.2.2⟩, (g _ _ (by omega)).trans m3, ⟨((f3 _ (by omega) _).1.trans (f2 _ (by omega) _).1).trans a1, fun r hr j hj => ((f3 _ (by omega) _).1.trans (f2 _ (by omega) _).1).trans ((a2 r hr j hj).trans (rd _ _ (by omega) (by omega)))⟩, ⟨(f3 _ (by omega) _).1.trans b1, fun r hr j hj => (f3 _ (by omega) _).1.trans ((b2 r hr j hj).trans ((f1 _ (by omega) _).1.trans (rd _ _ (by omega) (by omega))))⟩, ⟨d1, fun r hr j hj => (d2 r hr j hj).trans ((f2 _ (by omega) _).1.trans ((f1 _ (by omega) _).1.trans (rd _ _ (by omega) (by omega))))⟩, al_fr_tr hM (al_fr_tr (al_fr_mono f1 (fun q z => by omega)) (al_fr_tr (al_fr_mono f2 (fun q z => by omega)) (al_fr_mono f3 (fun q z => by omega))))⟩
    apply eq_X4_become_77_10_14 (d := d + 7)
    rw [m1, if_neg (nI_nlt (Nat.le_refl _) (by omega)), c1, av_bv_s, c2, av_bv_s, c3, av_bv_s]) (fun k hk ih M hM m1 m2 m3 mb => by
    obtain ⟨kb, ok, -⟩ := hs.2.2.2.1 k hk
    have hp : al_bp (94 + 2 * k) := al_bp94 (by omega)
    have hq : al_bp (27 + 2 * k) := al_bp27 (by omega)
    obtain ⟨s1', s2', s3', s4'⟩ := al_bpE hp L
    have kbM : al_bd M (27 + 2 * k) (B k) := al_bd_fr kb hM (by omega) (by omega)
    have c1 := sp_become L d hp hq (by omega) kbM ok
    have b1 := bw_bd hp hq (by omega) kbM
    have f1 := bw_fr M (94 + 2 * k) (27 + 2 * k)
    have g : ∀ q j, q ≠ 94 + 2 * k → q ≠ 94 + 2 * k + 1 → (bwN M (94 + 2 * k) (27 + 2 * k)).1 q j = M.1 q j := fun q j x y => (f1 q (by omega) j).1
    obtain ⟨N', c2, c3⟩ := ih _ (al_fr_tr hM (al_fr_mono f1 (fun q z => by omega))) ((g _ _ (by omega) (by omega)).trans m1) ((g _ _ (by omega) (by omega)).trans m2) ((g _ _ (by omega) (by omega)).trans m3) (fun b hb => by
      by_cases e : b = k
      · subst e
        exact b1
      · exact ⟨fun f x y => (g _ _ (by omega) (by omega)).trans ((mb b (by omega)).1 f x y), fun j hj => (g _ _ (by omega) (by omega)).trans ((mb b (by omega)).2 j hj)⟩)
    refine ⟨N', ?_, c3⟩
    apply eq_X4_become_77_10_14 (d := d + 7)
    rw [m1, if_pos (nI_lt hk (by omega)), av_gx_s (by omega) (by omega), nI_clamp (by omega), al_R78 k (by omega), av_bd_s, av_gx_s (by omega) (by omega), al_R11 k (by omega), av_bd_s, s1', av_tg_s, c1, av_bv_s, av_kP, nI_add]
    exact c2)
  obtain ⟨N', c1, c2⟩ := key (av_w (av_w (av_w N 77 1 (nI n)) 77 2 (nI day)) 77 3 (N.1 10 3)) (al_fr_tr (al_fr_w (D := fun q => 77 ≤ q ∧ q ≤ 107) N (by omega) _ _) (al_fr_tr (al_fr_w (D := fun q => 77 ≤ q ∧ q ≤ 107) _ (by omega) _ _) (al_fr_w (D := fun q => 77 ≤ q ∧ q ≤ 107) _ (by omega) _ _))) (by simp (disch := decide) only [av_w_s, av_w_o, av_w_k]) (by simp (disch := decide) only [av_w_s, av_w_o, av_w_k]) (by simp (disch := decide) only [av_w_s, av_w_o, av_w_k]) (fun b hb => absurd hb (Nat.not_lt_zero _))
  refine ⟨N', ?_, c2⟩
  apply eq_X4_become_77_10 (d := d + 7)
  simp (disch := decide) only [av_w_o, av_kP]
  rw [hs.2.1, hs.2.2.1]
  exact c1
theorem sp_scene_41_10 (L : av_W) (d : Nat) {N : av_N} {n day s1 s2 s3 : Nat} {B : Nat → Nat → Nat} (hs : al_sn N 10 27 n day B) (h1 : N.1 12 4 = nI s1) (h2 : N.1 17 4 = nI s2) (h3 : N.1 22 4 = nI s3) (l1 : s1 ≤ 5) (l2 : s2 ≤ 6) (l3 : s3 ≤ 8) : ∃ N', av_C (av_S0 L) (d + 8) 41 [.ref 41, .ref 10] N = some (none, N') ∧ al_sn N' 41 58 n day B ∧ N'.1 41 3 = N.1 10 3 ∧ (N'.1 43 4 = nI s1 ∧ ∀ r, r < s1 → ∀ j, j < 4 → N'.1 (43 + 1 + j) r = N.1 (12 + 1 + j) r) ∧ (N'.1 48 4 = nI s2 ∧ ∀ r, r < s2 → ∀ j, j < 4 → N'.1 (48 + 1 + j) r = N.1 (17 + 1 + j) r) ∧ (N'.1 53 4 = nI s3 ∧ ∀ r, r < s3 → ∀ j, j < 4 → N'.1 (53 + 1 + j) r = N.1 (22 + 1 + j) r) ∧ al_fr (fun q => 41 ≤ q ∧ q ≤ 71) N N' := by
  have hn := hs.1
  have key := lp_0 (P := fun k => ∀ M, al_fr (fun q => 41 ≤ q ∧ q ≤ 71) N M → M.1 41 1 = nI n → M.1 41 2 = nI day → M.1 41 3 = N.1 10 3 → (∀ b, b < k → al_bd M (58 + 2 * b) (B b)) → ∃ N', av_V (av_S0 L) (d + 8) ta_X4_become 14 [.ref 41, .ref 10, .int (nI k)] [] M = some (none, N') ∧ al_sn N' 41 58 n day B ∧ N'.1 41 3 = N.1 10 3 ∧ (N'.1 43 4 = nI s1 ∧ ∀ r, r < s1 → ∀ j, j < 4 → N'.1 (43 + 1 + j) r = N.1 (12 + 1 + j) r) ∧ (N'.1 48 4 = nI s2 ∧ ∀ r, r < s2 → ∀ j, j < 4 → N'.1 (48 + 1 + j) r = N.1 (17 + 1 + j) r) ∧ (N'.1 53 4 = nI s3 ∧ ∀ r, r < s3 → ∀ j, j < 4 → N'.1 (53 + 1 + j) r = N.1 (22 + 1 + j) r) ∧ al_fr (fun q => 41 ≤ q ∧ q ≤ 71) N N') n (fun M hM m1 m2 m3 mb => by
    have rd : ∀ q k, 10 ≤ q → q ≤ 40 → M.1 q k = N.1 q k := fun q k a b => (hM q (by omega) k).1
    obtain ⟨M1, c1, a1, a2, f1⟩ := sp_rows_43_12 L (d + 6) ((rd 12 4 (by decide) (by decide)).trans h1) l1
    obtain ⟨M2, c2, b1, b2, f2⟩ := sp_rows_48_17 L (d + 6) (((f1 17 (by omega) 4).1.trans (rd 17 4 (by decide) (by decide))).trans h2) l2
    obtain ⟨M3, c3, d1, d2, f3⟩ := sp_rows_53_22 L (d + 6) (((f2 22 (by omega) 4).1.trans ((f1 22 (by omega) 4).1.trans (rd 22 4 (by decide) (by decide)))).trans h3) l3
    have g : ∀ q k, ¬ (43 ≤ q ∧ q ≤ 57) → M3.1 q k = M.1 q k := fun q k hq => ((f3 q (by omega) k).1.trans ((f2 q (by omega) k).1)).trans (f1 q (by omega) k).1
    refine ⟨M3, ?_, ⟨hn, (g _ _ (by omega)).trans m1, (g _ _ (by omega)).trans m2, fun b hb => ⟨⟨fun f x y => (g _ _ (by omega)).trans ((mb b hb).1 f x y), fun j hj => (g _ _ (by omega)).trans ((mb b hb).2 j hj)⟩, (hs.2.2.2.1 b hb).2⟩, hs.2.2.2.2⟩, (g _ _ (by omega)).trans m3, ⟨((f3 _ (by omega) _).1.trans (f2 _ (by omega) _).1).trans a1, fun r hr j hj => ((f3 _ (by omega) _).1.trans (f2 _ (by omega) _).1).trans ((a2 r hr j hj).trans (rd _ _ (by omega) (by omega)))⟩, ⟨(f3 _ (by omega) _).1.trans b1, fun r hr j hj => (f3 _ (by omega) _).1.trans ((b2 r hr j hj).trans ((f1 _ (by omega) _).1.trans (rd _ _ (by omega) (by omega))))⟩, ⟨d1, fun r hr j hj => (d2 r hr j hj).trans ((f2 _ (by omega) _).1.trans ((f1 _ (by omega) _).1.trans (rd _ _ (by omega) (by omega))))⟩, al_fr_tr hM (al_fr_tr (al_fr_mono f1 (fun q z => by omega)) (al_fr_tr (al_fr_mono f2 (fun q z => by omega)) (al_fr_mono f3 (fun q z => by omega))))⟩
    apply eq_X4_become_41_10_14 (d := d + 7)
    rw [m1, if_neg (nI_nlt (Nat.le_refl _) (by omega)), c1, av_bv_s, c2, av_bv_s, c3, av_bv_s]) (fun k hk ih M hM m1 m2 m3 mb => by
    obtain ⟨kb, ok, -⟩ := hs.2.2.2.1 k hk
    have hp : al_bp (58 + 2 * k) := al_bp58 (by omega)
    have hq : al_bp (27 + 2 * k) := al_bp27 (by omega)
    obtain ⟨s1', s2', s3', s4'⟩ := al_bpE hp L
    have kbM : al_bd M (27 + 2 * k) (B k) := al_bd_fr kb hM (by omega) (by omega)
    have c1 := sp_become L d hp hq (by omega) kbM ok
    have b1 := bw_bd hp hq (by omega) kbM
    have f1 := bw_fr M (58 + 2 * k) (27 + 2 * k)
    have g : ∀ q j, q ≠ 58 + 2 * k → q ≠ 58 + 2 * k + 1 → (bwN M (58 + 2 * k) (27 + 2 * k)).1 q j = M.1 q j := fun q j x y => (f1 q (by omega) j).1
    obtain ⟨N', c2, c3⟩ := ih _ (al_fr_tr hM (al_fr_mono f1 (fun q z => by omega))) ((g _ _ (by omega) (by omega)).trans m1) ((g _ _ (by omega) (by omega)).trans m2) ((g _ _ (by omega) (by omega)).trans m3) (fun b hb => by
      by_cases e : b = k
      · subst e
        exact b1
      · exact ⟨fun f x y => (g _ _ (by omega) (by omega)).trans ((mb b (by omega)).1 f x y), fun j hj => (g _ _ (by omega) (by omega)).trans ((mb b (by omega)).2 j hj)⟩)
    refine ⟨N', ?_, c3⟩
    apply eq_X4_become_41_10_14 (d := d + 7)
    rw [m1, if_pos (nI_lt hk (by omega)), av_gx_s (by omega) (by omega), nI_clamp (by omega), al_R42 k (by omega), av_bd_s, av_gx_s (by omega) (by omega), al_R11 k (by omega), av_bd_s, s1', av_tg_s, c1, av_bv_s, av_kP, nI_add]
    exact c2)
  obtain ⟨N', c1, c2⟩ := key (av_w (av_w (av_w N 41 1 (nI n)) 41 2 (nI day)) 41 3 (N.1 10 3)) (al_fr_tr (al_fr_w (D := fun q => 41 ≤ q ∧ q ≤ 71) N (by omega) _ _) (al_fr_tr (al_fr_w (D := fun q => 41 ≤ q ∧ q ≤ 71) _ (by omega) _ _) (al_fr_w (D := fun q => 41 ≤ q ∧ q ≤ 71) _ (by omega) _ _))) (by simp (disch := decide) only [av_w_s, av_w_o, av_w_k]) (by simp (disch := decide) only [av_w_s, av_w_o, av_w_k]) (by simp (disch := decide) only [av_w_s, av_w_o, av_w_k]) (fun b hb => absurd hb (Nat.not_lt_zero _))
  refine ⟨N', ?_, c2⟩
  apply eq_X4_become_41_10 (d := d + 7)
  simp (disch := decide) only [av_w_o, av_kP]
  rw [hs.2.1, hs.2.2.1]
  exact c1
theorem sp_scene_10_41 (L : av_W) (d : Nat) {N : av_N} {n day s1 s2 s3 : Nat} {B : Nat → Nat → Nat} (hs : al_sn N 41 58 n day B) (h1 : N.1 43 4 = nI s1) (h2 : N.1 48 4 = nI s2) (h3 : N.1 53 4 = nI s3) (l1 : s1 ≤ 5) (l2 : s2 ≤ 6) (l3 : s3 ≤ 8) : ∃ N', av_C (av_S0 L) (d + 8) 41 [.ref 10, .ref 41] N = some (none, N') ∧ al_sn N' 10 27 n day B ∧ N'.1 10 3 = N.1 41 3 ∧ (N'.1 12 4 = nI s1 ∧ ∀ r, r < s1 → ∀ j, j < 4 → N'.1 (12 + 1 + j) r = N.1 (43 + 1 + j) r) ∧ (N'.1 17 4 = nI s2 ∧ ∀ r, r < s2 → ∀ j, j < 4 → N'.1 (17 + 1 + j) r = N.1 (48 + 1 + j) r) ∧ (N'.1 22 4 = nI s3 ∧ ∀ r, r < s3 → ∀ j, j < 4 → N'.1 (22 + 1 + j) r = N.1 (53 + 1 + j) r) ∧ al_fr (fun q => 10 ≤ q ∧ q ≤ 40) N N' := by
  have hn := hs.1
  have key := lp_0 (P := fun k => ∀ M, al_fr (fun q => 10 ≤ q ∧ q ≤ 40) N M → M.1 10 1 = nI n → M.1 10 2 = nI day → M.1 10 3 = N.1 41 3 → (∀ b, b < k → al_bd M (27 + 2 * b) (B b)) → ∃ N', av_V (av_S0 L) (d + 8) ta_X4_become 14 [.ref 10, .ref 41, .int (nI k)] [] M = some (none, N') ∧ al_sn N' 10 27 n day B ∧ N'.1 10 3 = N.1 41 3 ∧ (N'.1 12 4 = nI s1 ∧ ∀ r, r < s1 → ∀ j, j < 4 → N'.1 (12 + 1 + j) r = N.1 (43 + 1 + j) r) ∧ (N'.1 17 4 = nI s2 ∧ ∀ r, r < s2 → ∀ j, j < 4 → N'.1 (17 + 1 + j) r = N.1 (48 + 1 + j) r) ∧ (N'.1 22 4 = nI s3 ∧ ∀ r, r < s3 → ∀ j, j < 4 → N'.1 (22 + 1 + j) r = N.1 (53 + 1 + j) r) ∧ al_fr (fun q => 10 ≤ q ∧ q ≤ 40) N N') n (fun M hM m1 m2 m3 mb => by
    have rd : ∀ q k, 41 ≤ q → q ≤ 71 → M.1 q k = N.1 q k := fun q k a b => (hM q (by omega) k).1
    obtain ⟨M1, c1, a1, a2, f1⟩ := sp_rows_12_43 L (d + 6) ((rd 43 4 (by decide) (by decide)).trans h1) l1
    obtain ⟨M2, c2, b1, b2, f2⟩ := sp_rows_17_48 L (d + 6) (((f1 48 (by omega) 4).1.trans (rd 48 4 (by decide) (by decide))).trans h2) l2
    obtain ⟨M3, c3, d1, d2, f3⟩ := sp_rows_22_53 L (d + 6) (((f2 53 (by omega) 4).1.trans ((f1 53 (by omega) 4).1.trans (rd 53 4 (by decide) (by decide)))).trans h3) l3
    have g : ∀ q k, ¬ (12 ≤ q ∧ q ≤ 26) → M3.1 q k = M.1 q k := fun q k hq => ((f3 q (by omega) k).1.trans ((f2 q (by omega) k).1)).trans (f1 q (by omega) k).1
    refine ⟨M3, ?_, ⟨hn, (g _ _ (by omega)).trans m1, (g _ _ (by omega)).trans m2, fun b hb => ⟨⟨fun f x y => (g _ _ (by omega)).trans ((mb b hb).1 f x y), fun j hj => (g _ _ (by omega)).trans ((mb b hb).2 j hj)⟩, (hs.2.2.2.1 b hb).2⟩, hs.2.2.2.2⟩, (g _ _ (by omega)).trans m3, ⟨((f3 _ (by omega) _).1.trans (f2 _ (by omega) _).1).trans a1, fun r hr j hj => ((f3 _ (by omega) _).1.trans (f2 _ (by omega) _).1).trans ((a2 r hr j hj).trans (rd _ _ (by omega) (by omega)))⟩, ⟨(f3 _ (by omega) _).1.trans b1, fun r hr j hj => (f3 _ (by omega) _).1.trans ((b2 r hr j hj).trans ((f1 _ (by omega) _).1.trans (rd _ _ (by omega) (by omega))))⟩, ⟨d1, fun r hr j hj => (d2 r hr j hj).trans ((f2 _ (by omega) _).1.trans ((f1 _ (by omega) _).1.trans (rd _ _ (by omega) (by omega))))⟩, al_fr_tr hM (al_fr_tr (al_fr_mono f1 (fun q z => by omega)) (al_fr_tr (al_fr_mono f2 (fun q z => by omega)) (al_fr_mono f3 (fun q z => by omega))))⟩
    apply eq_X4_become_10_41_14 (d := d + 7)
    rw [m1, if_neg (nI_nlt (Nat.le_refl _) (by omega)), c1, av_bv_s, c2, av_bv_s, c3, av_bv_s]) (fun k hk ih M hM m1 m2 m3 mb => by
    obtain ⟨kb, ok, -⟩ := hs.2.2.2.1 k hk
    have hp : al_bp (27 + 2 * k) := al_bp27 (by omega)
    have hq : al_bp (58 + 2 * k) := al_bp58 (by omega)
    obtain ⟨s1', s2', s3', s4'⟩ := al_bpE hp L
    have kbM : al_bd M (58 + 2 * k) (B k) := al_bd_fr kb hM (by omega) (by omega)
    have c1 := sp_become L d hp hq (by omega) kbM ok
    have b1 := bw_bd hp hq (by omega) kbM
    have f1 := bw_fr M (27 + 2 * k) (58 + 2 * k)
    have g : ∀ q j, q ≠ 27 + 2 * k → q ≠ 27 + 2 * k + 1 → (bwN M (27 + 2 * k) (58 + 2 * k)).1 q j = M.1 q j := fun q j x y => (f1 q (by omega) j).1
    obtain ⟨N', c2, c3⟩ := ih _ (al_fr_tr hM (al_fr_mono f1 (fun q z => by omega))) ((g _ _ (by omega) (by omega)).trans m1) ((g _ _ (by omega) (by omega)).trans m2) ((g _ _ (by omega) (by omega)).trans m3) (fun b hb => by
      by_cases e : b = k
      · subst e
        exact b1
      · exact ⟨fun f x y => (g _ _ (by omega) (by omega)).trans ((mb b (by omega)).1 f x y), fun j hj => (g _ _ (by omega) (by omega)).trans ((mb b (by omega)).2 j hj)⟩)
    refine ⟨N', ?_, c3⟩
    apply eq_X4_become_10_41_14 (d := d + 7)
    rw [m1, if_pos (nI_lt hk (by omega)), av_gx_s (by omega) (by omega), nI_clamp (by omega), al_R11 k (by omega), av_bd_s, av_gx_s (by omega) (by omega), al_R42 k (by omega), av_bd_s, s1', av_tg_s, c1, av_bv_s, av_kP, nI_add]
    exact c2)
  obtain ⟨N', c1, c2⟩ := key (av_w (av_w (av_w N 10 1 (nI n)) 10 2 (nI day)) 10 3 (N.1 41 3)) (al_fr_tr (al_fr_w (D := fun q => 10 ≤ q ∧ q ≤ 40) N (by omega) _ _) (al_fr_tr (al_fr_w (D := fun q => 10 ≤ q ∧ q ≤ 40) _ (by omega) _ _) (al_fr_w (D := fun q => 10 ≤ q ∧ q ≤ 40) _ (by omega) _ _))) (by simp (disch := decide) only [av_w_s, av_w_o, av_w_k]) (by simp (disch := decide) only [av_w_s, av_w_o, av_w_k]) (by simp (disch := decide) only [av_w_s, av_w_o, av_w_k]) (fun b hb => absurd hb (Nat.not_lt_zero _))
  refine ⟨N', ?_, c2⟩
  apply eq_X4_become_10_41 (d := d + 7)
  simp (disch := decide) only [av_w_o, av_kP]
  rw [hs.2.1, hs.2.2.1]
  exact c1
