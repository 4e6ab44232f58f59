/-! ways, outs: the reference, and both asked -/
theorem sp_layWays (L : av_W) (d : Nat) {N : av_N} {n day h0 : Nat} {B : Nat → Nat → Nat} {cs : List (Nat × Nat × List Nat)} (hm : al_mv N n day B cs) (hh0 : h0 < 10) : ∃ N', av_C (av_S0 L) (d + 7) 182 [.ref 142, .int (nI h0)] N = some (none, N') ∧ (∀ h, h < 10 → N'.2 164 h = lN (sWay (sFree B n (sTop cs) day) h0 23 h)) ∧ al_fr (fun q => q = 164 ∨ q = 165) N N' := by
  have hn := hm.1
  have ht := sTop_le cs
  have fs : ∀ M, al_fr (fun q => q = 164 ∨ q = 165) N M → al_mv M n day B cs := fun M hM => al_mv_fr hm (fun q k a b c => (hM q (by omega) k).1)
  have fl : ∀ t, (sFree B n (sTop cs) day) t < 2 ^ 31 := fun t => Nat.lt_trans (sFree_lt _ _ _ _ ht.2) (by decide)
  have copy : ∀ t, t < 24 → (∀ M x y, al_fr (fun q => q = 164 ∨ q = 165) N M → (∀ h, h < 10 → M.2 164 h = lN (sWay (sFree B n (sTop cs) day) h0 t h)) → ∃ N', av_V (av_S0 L) (d + 7) ta_X7_layWays 26 [.ref 142, .int (nI h0), .int (nI (t + 1)), .int x, .int y] [] M = some (none, N') ∧ (∀ h, h < 10 → N'.2 164 h = lN (sWay (sFree B n (sTop cs) day) h0 23 h)) ∧ al_fr (fun q => q = 164 ∨ q = 165) N N') → ∀ M x, al_fr (fun q => q = 164 ∨ q = 165) N M → (∀ h, h < 10 → M.2 165 h = lN (sWay (sFree B n (sTop cs) day) h0 t h)) → ∃ N', av_V (av_S0 L) (d + 7) ta_X7_layWays 80 [.ref 142, .int (nI h0), .int (nI t), .int x, .int (nI 0)] [] M = some (none, N') ∧ (∀ h, h < 10 → N'.2 164 h = lN (sWay (sFree B n (sTop cs) day) h0 23 h)) ∧ al_fr (fun q => q = 164 ∨ q = 165) N N' := by
    intro t htt hout M x hM h5
    refine lp_0 (P := fun k => ∀ M, al_fr (fun q => q = 164 ∨ q = 165) N M → (∀ h, h < 10 → M.2 165 h = lN (sWay (sFree B n (sTop cs) day) h0 t h)) → (∀ h, h < k → M.2 164 h = lN (sWay (sFree B n (sTop cs) day) h0 t h)) → ∃ N', av_V (av_S0 L) (d + 7) ta_X7_layWays 80 [.ref 142, .int (nI h0), .int (nI t), .int x, .int (nI k)] [] M = some (none, N') ∧ (∀ h, h < 10 → N'.2 164 h = lN (sWay (sFree B n (sTop cs) day) h0 23 h)) ∧ al_fr (fun q => q = 164 ∨ q = 165) N N') 10 ?_ ?_ M hM h5 (fun h hh => absurd hh (Nat.not_lt_zero _))
    · intro M hM h5 h4
      obtain ⟨N', c1, c2, c3⟩ := hout M x (nI 10) hM h4
      refine ⟨N', ?_, c2, c3⟩
      apply eq_X7_layWays_80 (d := d + 6)
      simp only [av_kP]
      rw [if_neg (nI_nlt (Nat.le_refl _) (by decide)), nI_add]
      exact c1
    · intro k hk ih M hM h5 h4
      obtain ⟨N', c1, c2, c3⟩ := ih (av_wl M 164 k (lN (sWay (sFree B n (sTop cs) day) h0 t k))) (al_fr_tr hM (al_fr_wl M (Or.inl rfl) _ _)) (fun h hh => by
        rw [av_wl_o _ _ _ _ _ (by decide)]
        exact h5 h hh) (fun h hh => by
        by_cases e : h = k
        · subst e
          exact av_wl_s _ _ _ _
        · rw [av_wl_k _ _ _ _ e]
          exact h4 h (by omega))
      refine ⟨N', ?_, c2, c3⟩
      apply eq_X7_layWays_80 (d := d + 6)
      simp only [av_kP]
      rw [if_pos (nI_lt hk (by decide)), av_gx_s (by omega) (by omega), av_gx_s (by omega) (by omega), nI_clamp (by omega), h5 k hk, nI_add]
      exact c1
  have one : ∀ t, t + 1 < 24 → (∀ M x y, al_fr (fun q => q = 164 ∨ q = 165) N M → (∀ h, h < 10 → M.2 164 h = lN (sWay (sFree B n (sTop cs) day) h0 (t + 1) h)) → ∃ N', av_V (av_S0 L) (d + 7) ta_X7_layWays 26 [.ref 142, .int (nI h0), .int (nI (t + 1 + 1)), .int x, .int y] [] M = some (none, N') ∧ (∀ h, h < 10 → N'.2 164 h = lN (sWay (sFree B n (sTop cs) day) h0 23 h)) ∧ al_fr (fun q => q = 164 ∨ q = 165) N N') → ∀ M, al_fr (fun q => q = 164 ∨ q = 165) N M → (∀ h, h < 10 → M.2 164 h = lN (sWay (sFree B n (sTop cs) day) h0 t h)) → ∃ N', av_V (av_S0 L) (d + 7) ta_X7_layWays 35 [.ref 142, .int (nI h0), .int (nI (t + 1)), .int (nI ((sFree B n (sTop cs) day) (t + 1))), .int (nI 0)] [] M = some (none, N') ∧ (∀ h, h < 10 → N'.2 164 h = lN (sWay (sFree B n (sTop cs) day) h0 23 h)) ∧ al_fr (fun q => q = 164 ∨ q = 165) N N' := by
    intro t htt hout M hM h4
    refine lp_0 (P := fun k => ∀ M, al_fr (fun q => q = 164 ∨ q = 165) N M → (∀ h, h < 10 → M.2 164 h = lN (sWay (sFree B n (sTop cs) day) h0 t h)) → (∀ h, h < k → M.2 165 h = lN (sWay (sFree B n (sTop cs) day) h0 (t + 1) h)) → ∃ N', av_V (av_S0 L) (d + 7) ta_X7_layWays 35 [.ref 142, .int (nI h0), .int (nI (t + 1)), .int (nI ((sFree B n (sTop cs) day) (t + 1))), .int (nI k)] [] M = some (none, N') ∧ (∀ h, h < 10 → N'.2 164 h = lN (sWay (sFree B n (sTop cs) day) h0 23 h)) ∧ al_fr (fun q => q = 164 ∨ q = 165) N N') 10 ?_ ?_ M hM h4 (fun h hh => absurd hh (Nat.not_lt_zero _))
    · intro M hM h4 h5
      obtain ⟨N', c1, c2, c3⟩ := copy (t + 1) htt hout M (nI ((sFree B n (sTop cs) day) (t + 1))) hM h5
      refine ⟨N', ?_, c2, c3⟩
      apply eq_X7_layWays_35 (d := d + 6)
      simp only [av_kP]
      rw [if_neg (nI_nlt (Nat.le_refl _) (by decide))]
      exact c1
    · intro k hk ih M hM h4 h5
      obtain ⟨N', c1, c2, c3⟩ := ih (av_wl M 165 k (lN (sWay (sFree B n (sTop cs) day) h0 (t + 1) k))) (al_fr_tr hM (al_fr_wl M (Or.inr rfl) _ _)) (fun h hh => by
        rw [av_wl_o _ _ _ _ _ (by decide)]
        exact h4 h hh) (fun h hh => by
        by_cases e : h = k
        · subst e
          exact av_wl_s _ _ _ _
        · rw [av_wl_k _ _ _ _ e]
          exact h5 h (by omega))
      refine ⟨N', ?_, c2, c3⟩
      have es : sWay (sFree B n (sTop cs) day) h0 (t + 1) k = if ((sFree B n (sTop cs) day) (t + 1)).testBit k then ((if 0 < k then sWay (sFree B n (sTop cs) day) h0 t (k - 1) else 0) + sWay (sFree B n (sTop cs) day) h0 t k) + (if k + 1 < 10 then sWay (sFree B n (sTop cs) day) h0 t (k + 1) else 0) else 0 := rfl
      rw [es] at c1
      cases hb : ((sFree B n (sTop cs) day) (t + 1)).testBit k
      · rw [hb, if_neg (by decide)] at c1
        apply eq_X7_layWays_35 (d := d + 6)
        simp only [av_kP, lN_of]
        rw [if_pos (nI_lt hk (by decide)), sp_has L _ (fl _) (by omega), av_bi_s, hb, av_if_f, av_gx_s (by omega) (by omega), nI_clamp (by omega), nI_add]
        exact c1
      · rw [hb, if_pos rfl] at c1
        apply eq_X7_layWays_35 (d := d + 6)
        simp only [av_kP, lN_of]
        rw [if_pos (nI_lt hk (by decide)), sp_has L _ (fl _) (by omega), av_bi_s, hb, av_if_t, av_gx_s (by omega) (by omega), nI_clamp (by omega), nI_add]
        by_cases g0 : 0 < k
        · rw [if_pos (nI_lt g0 (by omega)), av_sub (show 1 ≤ k by omega), av_gx_s (by omega) (by omega), nI_clamp (by omega), h4 k hk, h4 (k - 1) (by omega)]
          rw [if_pos g0, Nat.add_comm (sWay (sFree B n (sTop cs) day) h0 t (k - 1))] at c1
          by_cases g9 : k + 1 < 10
          · rw [if_pos (nI_lt (show k < 9 by omega) (by decide)), av_gx_s (by omega) (by omega), nI_clamp (by omega), h4 (k + 1) g9, lN_add, lN_add, av_gx_s (by omega) (by omega)]
            rw [if_pos g9] at c1
            exact c1
          · rw [if_neg (nI_nlt (show 9 ≤ k by omega) (by omega)), lN_add, lN_add, av_gx_s (by omega) (by omega)]
            rw [if_neg g9] at c1
            exact c1
        · rw [if_neg (nI_nlt (by omega) (by omega)), h4 k hk]
          rw [if_neg g0, Nat.add_comm 0] at c1
          by_cases g9 : k + 1 < 10
          · rw [if_pos (nI_lt (show k < 9 by omega) (by decide)), av_gx_s (by omega) (by omega), nI_clamp (by omega), h4 (k + 1) g9, lN_add, lN_add, av_gx_s (by omega) (by omega)]
            rw [if_pos g9] at c1
            exact c1
          · rw [if_neg (nI_nlt (show 9 ≤ k by omega) (by omega)), lN_add, lN_add, av_gx_s (by omega) (by omega)]
            rw [if_neg g9] at c1
            exact c1
  have hours := lp_k (P := fun t => ∀ M T, al_fr (fun q => q = 164 ∨ q = 165) N M → (∀ h, h < 10 → M.2 164 h = lN (sWay (sFree B n (sTop cs) day) h0 (t - 1) h)) → (T = [am_junk, am_junk] ∨ ∃ x y, T = [.int x, .int y]) → ∃ N', av_V (av_S0 L) (d + 7) ta_X7_layWays 26 (.ref 142 :: .int (nI h0) :: .int (nI t) :: T) [] M = some (none, N') ∧ (∀ h, h < 10 → N'.2 164 h = lN (sWay (sFree B n (sTop cs) day) h0 23 h)) ∧ al_fr (fun q => q = 164 ∨ q = 165) N N') (k := 1) (n := 24) (by decide) (fun M T hM h4 hT => by
    refine ⟨M, ?_, h4, hM⟩
    rcases hT with rfl | ⟨x, y, rfl⟩
    · apply eq_X7_layWays_26 (d := d + 6)
      rw [av_kP, if_neg (nI_nlt (Nat.le_refl _) (by decide))]
    · apply eq_X7_layWays_26_b (d := d + 6)
      rw [av_kP, if_neg (nI_nlt (Nat.le_refl _) (by decide))]) (fun t ht1 ht2 ih M T hM h4 hT => by
    obtain ⟨t, rfl⟩ : ∃ j, t = j + 1 := ⟨t - 1, by omega⟩
    obtain ⟨N', c1, c2, c3⟩ := one t ht2 (fun M x y hM h4 => ih M _ hM h4 (Or.inr ⟨_, _, rfl⟩)) M hM h4
    refine ⟨N', ?_, c2, c3⟩
    rcases hT with rfl | ⟨x, y, rfl⟩
    · apply eq_X7_layWays_26 (d := d + 6)
      simp only [av_kP]
      rw [if_pos (nI_lt ht2 (by decide)), sp_freeAtM L _ (fs M hM) ht2, av_bi_s]
      exact c1
    · apply eq_X7_layWays_26_b (d := d + 6)
      simp only [av_kP]
      rw [if_pos (nI_lt ht2 (by decide)), sp_freeAtM L _ (fs M hM) ht2, av_bi_s]
      exact c1)
  have first := lp_0 (P := fun k => ∀ M, al_fr (fun q => q = 164 ∨ q = 165) N M → (∀ h, h < k → M.2 164 h = lN (sWay (sFree B n (sTop cs) day) h0 0 h)) → ∃ N', av_V (av_S0 L) (d + 7) ta_X7_layWays 2 [.ref 142, .int (nI h0), .int (nI k), am_junk, am_junk] [] M = some (none, N') ∧ (∀ h, h < 10 → N'.2 164 h = lN (sWay (sFree B n (sTop cs) day) h0 23 h)) ∧ al_fr (fun q => q = 164 ∨ q = 165) N N') 10 (fun M hM h4 => by
    obtain ⟨N', c1, c2, c3⟩ := hours M _ hM h4 (Or.inl rfl)
    refine ⟨N', ?_, c2, c3⟩
    apply eq_X7_layWays_2 (d := d + 6)
    simp only [av_kP]
    rw [if_neg (nI_nlt (Nat.le_refl _) (by decide))]
    exact c1) (fun k hk ih M hM h4 => by
    obtain ⟨N', c1, c2, c3⟩ := ih (av_wl M 164 k (lN (sWay (sFree B n (sTop cs) day) h0 0 k))) (al_fr_tr hM (al_fr_wl M (Or.inl rfl) _ _)) (fun h hh => by
      by_cases e : h = k
      · subst e
        exact av_wl_s _ _ _ _
      · rw [av_wl_k _ _ _ _ e]
        exact h4 h (by omega))
    refine ⟨N', ?_, c2, c3⟩
    have es : sWay (sFree B n (sTop cs) day) h0 0 k = if k = h0 then (if ((sFree B n (sTop cs) day) 0).testBit k then 1 else 0) else 0 := rfl
    rw [es] at c1
    apply eq_X7_layWays_2 (d := d + 6)
    simp only [av_kP, lN_of]
    rw [if_pos (nI_lt hk (by decide)), sp_freeAtM L _ (fs M hM) (by decide), av_bi_s, sp_has L _ (fl _) (by omega), av_bi_s, av_gx_s (by omega) (by omega), av_gx_s (by omega) (by omega), nI_clamp (by omega), nI_add]
    by_cases e : k = h0
    · rw [if_pos (congrArg nI e)]
      rw [if_pos e] at c1
      cases hb : ((sFree B n (sTop cs) day) 0).testBit k
      · rw [hb, if_neg (by decide)] at c1
        rw [av_if_f]
        exact c1
      · rw [hb, if_pos rfl] at c1
        rw [av_if_t]
        exact c1
    · rw [if_neg (nI_ne (by omega) (by omega) e)]
      rw [if_neg e] at c1
      exact c1)
  obtain ⟨N', c1, c2, c3⟩ := first N (al_fr_rf _ _) (fun h hh => absurd hh (Nat.not_lt_zero _))
  refine ⟨N', ?_, c2, c3⟩
  apply eq_X7_layWays (d := d + 6)
  rw [av_kP]
  exact c1
theorem al_dWC {N N1 : av_N} (h : al_fr al_dW N N1) : al_fr al_dC N N1 := al_fr_mono h (fun q z => by unfold al_dC; unfold al_dW at z; omega)
theorem al_qW {N N1 : av_N} (h : al_fr (fun q => q = 164 ∨ q = 165) N N1) : al_f2 al_qM N N1 := al_f2_of h (fun q k z => by unfold al_qM; omega)
theorem ca_ways (L : av_W) (d : Nat) {N : av_N} {n day : Nat} {B : Nat → Nat → Nat} {cs : List (Nat × Nat × List Nat)} (hc : al_cv N n day B cs) (hm : al_mv N n day B cs) (x : Int32) : al_ask L (d + 20) N n day B cs 66 [.ref 9, .int x] 183 [.ref 142, .int x] := by
  obtain ⟨hs, e, he⟩ := hc
  have hn := hs.1
  have ht := sTop_le cs
  obtain ⟨q1, q2, q3, q4⟩ := al_epE (al_ep_e he.1) L
  have hes := he.2.2.1.2.2.2.1
  cases hx : av_lt x (sTop cs)
  · refine ask_eq hm (.long (Int64.ofNat 9223372036854775808)) ?_ ?_
    · apply eq_X6_ways (d := d + 19)
      simp only [av_kP]
      rw [sp_estuaryNow L _ he, av_br_s, q1, av_tg_s, hes, sp_within, av_bi_s, av_lt_wi (by omega), hx, av_if_f]
    · apply eq_X7_ways (d := d + 19)
      rw [sp_isHeight L _ hm, av_bi_s, hx, av_if_fk]
  obtain ⟨h0, hh0, rfl⟩ := (av_ltE (by omega)).mp hx
  obtain ⟨N1, c1, l1, f1⟩ := sp_layAir_10 L (d + 16) hs ht.2 neN
  have lay : ∀ M, al_fr al_dW N1 M → al_lay M (fun t => sOnce B (sTop cs) day 99 t n) (fun t => sTwice B (sTop cs) day 99 t n) := fun M h => al_lay_fr l1 h (by unfold al_dW; omega) (by unfold al_dW; omega)
  have sum : ∀ M, (∀ h, h < 10 → M.2 114 h = lN (sWay (sFree B n (sTop cs) day) h0 23 h)) → av_V (av_S0 L) (d + 20) ta_X6_ways 59 [.ref 9, .int (nI h0), .int (nI (sTop cs)), .long (lN 0), am_junk, .int (nI 0)] [] M = some (some (.long (lN (sumN (sWay (sFree B n (sTop cs) day) h0 23) 10))), M) := by
    intro M h4
    exact lp_0 (P := fun k => av_V (av_S0 L) (d + 20) ta_X6_ways 59 [.ref 9, .int (nI h0), .int (nI (sTop cs)), .long (lN (sumN (sWay (sFree B n (sTop cs) day) h0 23) k)), am_junk, .int (nI k)] [] M = some (some (.long (lN (sumN (sWay (sFree B n (sTop cs) day) h0 23) 10))), M)) 10 (by
      apply eq_X6_ways_59 (d := d + 19)
      simp only [show Int32.ofNat 10 = nI 10 from rfl]
      rw [if_neg (nI_nlt (Nat.le_refl _) (by decide))]) (fun k hk ih => by
      apply eq_X6_ways_59 (d := d + 19)
      simp only [show Int32.ofNat 10 = nI 10 from rfl, av_kP]
      rw [if_pos (nI_lt hk (by decide)), av_gx_s (by omega) (by omega), nI_clamp (by omega), h4 k hk, lN_add, nI_add]
      exact ih)
  have hours := lp_k (P := fun t => ∀ M, al_fr al_dW N1 M → (∀ h, h < 10 → M.2 114 h = lN (sWay (sFree B n (sTop cs) day) h0 (t - 1) h)) → ∃ N', av_V (av_S0 L) (d + 20) ta_X6_ways 46 [.ref 9, .int (nI h0), .int (nI (sTop cs)), .int (nI t), am_junk, am_junk] [] M = some (some (.long (lN (sumN (sWay (sFree B n (sTop cs) day) h0 23) 10))), N') ∧ al_fr al_dW N1 N') (k := 1) (n := 24) (by decide) (fun M hM h4 => by
    refine ⟨M, ?_, hM⟩
    apply eq_X6_ways_46 (d := d + 19)
    simp only [av_kP, lN_of]
    rw [if_neg (nI_nlt (Nat.le_refl _) (by decide))]
    exact sum M h4) (fun t ht1 ht2 ih M hM h4 => by
    obtain ⟨t, rfl⟩ : ∃ j, t = j + 1 := ⟨t - 1, by omega⟩
    obtain ⟨N2, c2, h5, f2⟩ := sp_goAnHour L (d + 12) hn (lay M hM) ht.2 ht2 h4
    obtain ⟨N', c3, f3⟩ := ih N2 (al_fr_tr hM f2) h5
    refine ⟨N', ?_, f3⟩
    apply eq_X6_ways_46 (d := d + 19)
    simp only [av_kP]
    rw [if_pos (nI_lt ht2 (by decide)), c2, av_bv_s, nI_add]
    exact c3)
  have first := lp_0 (P := fun k => ∀ M, al_fr al_dW N1 M → (∀ h, h < k → M.2 114 h = lN (sWay (sFree B n (sTop cs) day) h0 0 h)) → ∃ N', av_V (av_S0 L) (d + 20) ta_X6_ways 21 [.ref 9, .int (nI h0), .int (nI (sTop cs)), .int (nI k), am_junk, am_junk] [] M = some (some (.long (lN (sumN (sWay (sFree B n (sTop cs) day) h0 23) 10))), N') ∧ al_fr al_dW N1 N') 10 (fun M hM h4 => by
    obtain ⟨N', c3, f3⟩ := hours M hM h4
    refine ⟨N', ?_, f3⟩
    apply eq_X6_ways_21 (d := d + 19)
    simp only [show Int32.ofNat 10 = nI 10 from rfl, av_kP]
    rw [if_neg (nI_nlt (Nat.le_refl _) (by decide))]
    exact c3) (fun k hk ih M hM h4 => by
    obtain ⟨N', c3, f3⟩ := ih (av_wl M 114 k (lN (sWay (sFree B n (sTop cs) day) h0 0 k))) (al_fr_tr hM (al_fr_wl M (Or.inl rfl) _ _)) (fun h hh => by
      by_cases e : h = k
      · subst e
        exact av_wl_s _ _ _ _
      · rw [av_wl_k _ _ _ _ e]
        exact h4 h (by omega))
    refine ⟨N', ?_, f3⟩
    have es : sWay (sFree B n (sTop cs) day) h0 0 k = if k = h0 then (if ((sFree B n (sTop cs) day) 0).testBit k then 1 else 0) else 0 := rfl
    rw [es] at c3
    apply eq_X6_ways_21 (d := d + 19)
    simp only [show Int32.ofNat 10 = nI 10 from rfl, av_kP, lN_of]
    rw [if_pos (nI_lt hk (by decide)), sp_isFree L _ hn (lay M hM) ht.2 (by decide) (by omega), av_bi_s, av_gx_s (by omega) (by omega), av_gx_s (by omega) (by omega), nI_clamp (by omega), nI_add]
    by_cases e : k = h0
    · rw [if_pos (congrArg nI e)]
      rw [if_pos e] at c3
      cases hb : ((sFree B n (sTop cs) day) 0).testBit k
      · rw [hb, if_neg (by decide)] at c3
        rw [av_if_f]
        exact c3
      · rw [hb, if_pos rfl] at c3
        rw [av_if_t]
        exact c3
    · rw [if_neg (nI_ne (by omega) (by omega) e)]
      rw [if_neg e] at c3
      exact c3)
  obtain ⟨N2, c2, f2⟩ := first N1 (al_fr_rf _ _) (fun h hh => absurd hh (Nat.not_lt_zero _))
  refine ask_of hm (.long (lN (sumN (sWay (sFree B n (sTop cs) day) h0 23) 10))) (N1 := N2) ?_ (al_fr_tr (al_dLC f1) (al_dWC f2)) (fun M _ hmM => ?_)
  · apply eq_X6_ways (d := d + 19)
    simp only [av_kP]
    rw [sp_estuaryNow L _ he, av_br_s, q1, av_tg_s, hes, sp_within, av_bi_s, av_lt_wi (by omega), hx, av_if_t, c1, av_bv_s]
    exact c2
  obtain ⟨M1, g1, h4, r1⟩ := sp_layWays L (d + 12) hmM (show h0 < 10 by omega)
  refine ⟨M1, ?_, al_mv_fr hmM (fun q k a b c => (r1 q (by omega) k).1), al_qW r1⟩
  apply eq_X7_ways (d := d + 19)
  rw [sp_isHeight L _ hmM, av_bi_s, hx, av_if_tk, g1, av_bv_s]
  simp only [av_kP, lN_of]
  exact lp_0 (P := fun k => av_V (av_S0 L) (d + 20) ta_X7_ways 13 [.ref 142, .int (nI h0), .long (lN (sumN (sWay (sFree B n (sTop cs) day) h0 23) k)), am_junk, .int (nI k)] [] M1 = some (some (.long (lN (sumN (sWay (sFree B n (sTop cs) day) h0 23) 10))), M1)) 10 (by
      apply eq_X7_ways_13 (d := d + 19)
      simp only [av_kP]
      rw [if_neg (nI_nlt (Nat.le_refl _) (by decide))]) (fun k hk ih => by
      apply eq_X7_ways_13 (d := d + 19)
      simp only [av_kP]
      rw [if_pos (nI_lt hk (by decide)), av_gx_s (by omega) (by omega), nI_clamp (by omega), h4 k hk, lN_add, nI_add]
      exact ih)
def sOut (fr : Nat → Nat) (h0 t : Nat) : Nat := sBits (fun h => decide (0 < sWay fr h0 t h)) 10
theorem sOut_0 (fr : Nat → Nat) {h0 : Nat} (hf : ∀ t, fr t < 1024) (h : h0 < 10) : 2 ^ h0 &&& fr 0 = sOut fr h0 0 := by
  apply Nat.eq_of_testBit_eq
  intro i
  unfold sOut
  rw [Nat.testBit_and, sBits_bit, Nat.testBit_two_pow]
  have e0 : sWay fr h0 0 i = if i = h0 then (if (fr 0).testBit i then 1 else 0) else 0 := rfl
  rw [e0]
  by_cases e : h0 = i
  · subst e
    rw [decide_eq_true h, if_pos rfl]
    cases (fr 0).testBit h0 <;> simp
  · rw [if_neg (fun z => e z.symm)]
    simp [e]
theorem sOut_s (fr : Nat → Nat) {h0 : Nat} (hf : ∀ t, fr t < 1024) (t : Nat) : (((sOut fr h0 t ||| sOut fr h0 t * 2 ^ 1) ||| sOut fr h0 t / 2 ^ 1) &&& fr (t + 1)) = sOut fr h0 (t + 1) := by
  apply Nat.eq_of_testBit_eq
  intro i
  unfold sOut
  rw [Nat.testBit_and, Nat.testBit_or, Nat.testBit_or, Nat.testBit_mul_two_pow, Nat.testBit_div_two_pow, sBits_bit, sBits_bit, sBits_bit, sBits_bit]
  have e0 : sWay fr h0 (t + 1) i = if (fr (t + 1)).testBit i then ((if 0 < i then sWay fr h0 t (i - 1) else 0) + sWay fr h0 t i) + (if i + 1 < 10 then sWay fr h0 t (i + 1) else 0) else 0 := rfl
  rw [e0]
  cases hb : (fr (t + 1)).testBit i
  · simp
  · have hi := bit_10 (hf _) hb
    rw [if_pos rfl, Bool.and_true, decide_eq_true hi, Bool.true_and, Bool.true_and, decide_eq_true (show i - 1 < 10 by omega), Bool.true_and]
    by_cases h1 : 0 < i
    · rw [if_pos h1, decide_eq_true (show 1 ≤ i by omega), Bool.true_and]
      by_cases h9 : i + 1 < 10
      · rw [if_pos h9, decide_eq_true h9, Bool.true_and, ← Bool.decide_or, ← Bool.decide_or]
        apply decide_eq_decide.mpr
        omega
      · rw [if_neg h9, decide_eq_false h9, Bool.false_and, Bool.or_false, ← Bool.decide_or]
        apply decide_eq_decide.mpr
        omega
    · rw [if_neg h1, decide_eq_false (show ¬ 1 ≤ i by omega), Bool.false_and, Bool.or_false]
      by_cases h9 : i + 1 < 10
      · rw [if_pos h9, decide_eq_true h9, Bool.true_and, ← Bool.decide_or]
        apply decide_eq_decide.mpr
        omega
      · rw [if_neg h9, decide_eq_false h9, Bool.false_and, Bool.or_false]
        apply decide_eq_decide.mpr
        omega
theorem lg_pos {a : Nat} (h : a < 2 ^ 40) : nI 0 < lg_cmp (lN a) (lN 0) ↔ 0 < a := by
  have ea : (lN a).toInt = a := lg_ofNat_toInt (by omega)
  have e0 : (lN 0).toInt = 0 := by decide
  unfold lg_cmp
  by_cases hz : 0 < a
  · rw [if_pos (show lN a > lN 0 from by show lN 0 < lN a; rw [Int64.lt_iff_toInt_lt, ea, e0]; omega)]
    exact ⟨fun _ => hz, fun _ => by decide⟩
  · have : a = 0 := by omega
    subst this
    decide
theorem ca_outs (L : av_W) (d : Nat) {N : av_N} {n day : Nat} {B : Nat → Nat → Nat} {cs : List (Nat × Nat × List Nat)} (hc : al_cv N n day B cs) (hm : al_mv N n day B cs) (x : Int32) : al_ask L (d + 20) N n day B cs 67 [.ref 9, .int x] 184 [.ref 142, .int x] := by
  obtain ⟨hs, e, he⟩ := hc
  have hn := hs.1
  have ht := sTop_le cs
  obtain ⟨q1, q2, q3, q4⟩ := al_epE (al_ep_e he.1) L
  have hes := he.2.2.1.2.2.2.1
  have fl : ∀ t, (sFree B n (sTop cs) day) t < 1024 := fun t => sFree_lt _ _ _ _ ht.2
  cases hx : av_lt x (sTop cs)
  · refine ask_eq hm (.int (av_k (-1))) ?_ ?_
    · apply eq_X6_outs (d := d + 19)
      simp only [av_kP]
      rw [sp_estuaryNow L _ he, av_br_s, q1, av_tg_s, hes, sp_within, av_bi_s, av_lt_wi (by omega), hx, av_if_f]
    · apply eq_X7_outs (d := d + 19)
      rw [sp_isHeight L _ hm, av_bi_s, hx, av_if_fk]
  obtain ⟨h0, hh0, rfl⟩ := (av_ltE (by omega)).mp hx
  obtain ⟨N1, c1, l1, f1⟩ := sp_layAir_10 L (d + 16) hs ht.2 neN
  refine ask_of hm (.int (nI (sOut (sFree B n (sTop cs) day) h0 23))) (N1 := N1) ?_ (al_dLC f1) (fun M _ hmM => ?_)
  · have hours := lp_k (P := fun t => av_V (av_S0 L) (d + 20) ta_X6_outs 30 [.ref 9, .int (nI h0), .int (nI (sTop cs)), .int (nI (sOut (sFree B n (sTop cs) day) h0 (t - 1))), .int (nI t)] [] N1 = some (some (.int (nI (sOut (sFree B n (sTop cs) day) h0 23))), N1)) (k := 1) (n := 24) (by decide) (by
      apply eq_X6_outs_30 (d := d + 19)
      simp only [av_kP]
      rw [if_neg (nI_nlt (Nat.le_refl _) (by decide))]) (fun t ht1 ht2 ih => by
      obtain ⟨t, rfl⟩ : ∃ j, t = j + 1 := ⟨t - 1, by omega⟩
      have hlt : sOut (sFree B n (sTop cs) day) h0 t < 2 ^ 31 := Nat.lt_trans (sBits_1024 _ (Nat.le_refl _)) (by decide)
      have ih : av_V (av_S0 L) (d + 20) ta_X6_outs 30 [.ref 9, .int (nI h0), .int (nI (sTop cs)), .int (nI (sOut (sFree B n (sTop cs) day) h0 (t + 1))), .int (nI (t + 1 + 1))] [] N1 = some (some (.int (nI (sOut (sFree B n (sTop cs) day) h0 23))), N1) := ih
      rw [← sOut_s _ fl] at ih
      apply eq_X6_outs_30 (d := d + 19)
      simp only [av_kP]
      rw [if_pos (nI_lt ht2 (by decide)), sp_freeAt L _ hn l1 ht.2 ht2, av_bi_s, Nat.add_sub_cancel, av_shl _ (by decide), av_shr hlt (by decide), av_or, av_or, av_and, nI_add]
      exact ih)
    apply eq_X6_outs (d := d + 19)
    simp only [av_kP]
    rw [sp_estuaryNow L _ he, av_br_s, q1, av_tg_s, hes, sp_within, av_bi_s, av_lt_wi (by omega), hx, av_if_t, c1, av_bv_s, sp_freeAt L _ hn l1 ht.2 (by decide), av_bi_s, av_shl 1 (by omega), Nat.one_mul, av_and, sOut_0 _ fl (by omega)]
    exact hours
  obtain ⟨M1, g1, h4, r1⟩ := sp_layWays L (d + 12) hmM (show h0 < 10 by omega)
  refine ⟨M1, ?_, al_mv_fr hmM (fun q k a b c => (r1 q (by omega) k).1), al_qW r1⟩
  apply eq_X7_outs (d := d + 19)
  rw [sp_isHeight L _ hmM, av_bi_s, hx, av_if_tk, g1, av_bv_s]
  simp only [av_kP, lN_of]
  exact lp_0 (P := fun k => av_V (av_S0 L) (d + 20) ta_X7_outs 13 [.ref 142, .int (nI h0), .int (nI (sBits (fun h => decide (0 < sWay (sFree B n (sTop cs) day) h0 23 h)) k)), .int (nI k)] [] M1 = some (some (.int (nI (sOut (sFree B n (sTop cs) day) h0 23))), M1)) 10 (by
      apply eq_X7_outs_13 (d := d + 19)
      simp only [av_kP]
      rw [if_neg (nI_nlt (Nat.le_refl _) (by decide))]
      rfl) (fun k hk ih => by
      apply eq_X7_outs_13 (d := d + 19)
      simp only [av_kP, lN_of]
      rw [if_pos (nI_lt hk (by decide)), av_gx_s (by omega) (by omega), nI_clamp (by omega), h4 k hk]
      simp (disch := omega) only [lg_pos (sWay_63 (sFree B n (sTop cs) day) h0 k (show 23 < 24 by decide)), nI_add, av_shl, av_or, Nat.one_mul]
      have es : sBits (fun h => decide (0 < sWay (sFree B n (sTop cs) day) h0 23 h)) (k + 1) = sBits (fun h => decide (0 < sWay (sFree B n (sTop cs) day) h0 23 h)) k ||| (if decide (0 < sWay (sFree B n (sTop cs) day) h0 23 k) then 2 ^ k else 0) := rfl
      rw [es] at ih
      by_cases hp : 0 < sWay (sFree B n (sTop cs) day) h0 23 k
      · rw [if_pos hp]
        rw [decide_eq_true hp, if_pos rfl] at ih
        exact ih
      · rw [if_neg hp]
        rw [decide_eq_false hp, if_neg (by decide)] at ih
        exact ih)
