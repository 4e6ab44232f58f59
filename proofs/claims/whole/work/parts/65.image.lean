/-! the image, and back -/
theorem al_fr_q {D : Nat → Prop} {N N' : av_N} (h : al_fr D N N') {q k : Nat} (hq : ¬ D q) : N'.1 q k = N.1 q k := (h q hq k).1
theorem im_33 (L : av_W) (d : Nat) (M : av_N) : ∃ M', ((∀ q, q < 7 → ∀ j, j < 7 → M'.1 (177 + q) j = M.1 (143 + q) j)) ∧ al_fr (fun q => 177 ≤ q ∧ q ≤ 183) M M' ∧ (∀ r, av_V (av_S0 L) d ta_X7_image 96 [.ref 142, .int (nI 0)] [] M' = some r → av_V (av_S0 L) d ta_X7_image 33 [.ref 142, .int (nI 0)] [] M = some r) := by
  refine lp_0 (P := fun k => ∀ M : av_N, ((∀ q, q < 7 → ∀ j, j < k → M.1 (177 + q) j = M.1 (143 + q) j)) → ∃ M', ((∀ q, q < 7 → ∀ j, j < 7 → M'.1 (177 + q) j = M.1 (143 + q) j)) ∧ al_fr (fun q => 177 ≤ q ∧ q ≤ 183) M M' ∧ (∀ r, av_V (av_S0 L) d ta_X7_image 96 [.ref 142, .int (nI 0)] [] M' = some r → av_V (av_S0 L) d ta_X7_image 33 [.ref 142, .int (nI k)] [] M = some r)) 7 ?_ ?_ M (fun q _ j hj => absurd hj (Nat.not_lt_zero _))
  · intro M hM
    refine ⟨M, hM, al_fr_rf _ _, ?_⟩
    intro r hr
    apply eq_X7_image_33
    simp only [av_kP]
    rw [if_neg (by decide)]
    exact hr
  · intro k hk ih M hM
    have f1 : al_fr (fun q => 177 ≤ q ∧ q ≤ 183) M (av_w (av_w (av_w (av_w (av_w (av_w (av_w M 177 k (M.1 143 k)) 178 k (M.1 144 k)) 179 k (M.1 145 k)) 180 k (M.1 146 k)) 181 k (M.1 147 k)) 182 k (M.1 148 k)) 183 k (M.1 149 k)) := (al_fr_tr (al_fr_tr (al_fr_tr (al_fr_tr (al_fr_tr (al_fr_tr (al_fr_w (D := (fun q => 177 ≤ q ∧ q ≤ 183)) _ (by omega) _ _) (al_fr_w (D := (fun q => 177 ≤ q ∧ q ≤ 183)) _ (by omega) _ _)) (al_fr_w (D := (fun q => 177 ≤ q ∧ q ≤ 183)) _ (by omega) _ _)) (al_fr_w (D := (fun q => 177 ≤ q ∧ q ≤ 183)) _ (by omega) _ _)) (al_fr_w (D := (fun q => 177 ≤ q ∧ q ≤ 183)) _ (by omega) _ _)) (al_fr_w (D := (fun q => 177 ≤ q ∧ q ≤ 183)) _ (by omega) _ _)) (al_fr_w (D := (fun q => 177 ≤ q ∧ q ≤ 183)) _ (by omega) _ _))
    obtain ⟨M', c1, c2, c3⟩ := ih (av_w (av_w (av_w (av_w (av_w (av_w (av_w M 177 k (M.1 143 k)) 178 k (M.1 144 k)) 179 k (M.1 145 k)) 180 k (M.1 146 k)) 181 k (M.1 147 k)) 182 k (M.1 148 k)) 183 k (M.1 149 k)) (fun q hq j hj => by
      rw [al_fr_q f1 (q := 143 + q) (by omega)]
      by_cases e : j = k
      · subst e
        rcases (by omega : q = 0 ∨ q = 1 ∨ q = 2 ∨ q = 3 ∨ q = 4 ∨ q = 5 ∨ q = 6) with rfl | rfl | rfl | rfl | rfl | rfl | rfl <;> simp (disch := (first | decide | omega)) only [av_w_s, av_w_o]
      · rw [av_w_k _ _ _ _ e]; rw [av_w_k _ _ _ _ e]; rw [av_w_k _ _ _ _ e]; rw [av_w_k _ _ _ _ e]; rw [av_w_k _ _ _ _ e]; rw [av_w_k _ _ _ _ e]; rw [av_w_k _ _ _ _ e]
        exact hM q hq j (by omega))
    refine ⟨M', fun q hq j hj => (c1 q hq j hj).trans (al_fr_q f1 (by omega)), al_fr_tr f1 c2, fun r hr => ?_⟩
    have c4 := c3 r hr
    apply eq_X7_image_33
    simp only [av_kP]
    rw [if_pos (nI_lt hk (by decide))]
    simp (disch := (first | decide | omega)) only [av_gx_s, nI_clamp, av_kP, nI_add, av_w_o]
    exact c4
theorem im_96 (L : av_W) (d : Nat) (M : av_N) : ∃ M', ((∀ q, q < 1 → ∀ j, j < 28 → M'.1 (184 + q) j = M.1 (150 + q) j)) ∧ al_fr (fun q => 184 ≤ q ∧ q ≤ 184) M M' ∧ (∀ r, av_V (av_S0 L) d ta_X7_image 111 [.ref 142, .int (nI 0)] [] M' = some r → av_V (av_S0 L) d ta_X7_image 96 [.ref 142, .int (nI 0)] [] M = some r) := by
  refine lp_0 (P := fun k => ∀ M : av_N, ((∀ q, q < 1 → ∀ j, j < k → M.1 (184 + q) j = M.1 (150 + q) j)) → ∃ M', ((∀ q, q < 1 → ∀ j, j < 28 → M'.1 (184 + q) j = M.1 (150 + q) j)) ∧ al_fr (fun q => 184 ≤ q ∧ q ≤ 184) M M' ∧ (∀ r, av_V (av_S0 L) d ta_X7_image 111 [.ref 142, .int (nI 0)] [] M' = some r → av_V (av_S0 L) d ta_X7_image 96 [.ref 142, .int (nI k)] [] M = some r)) 28 ?_ ?_ M (fun q _ j hj => absurd hj (Nat.not_lt_zero _))
  · intro M hM
    refine ⟨M, hM, al_fr_rf _ _, ?_⟩
    intro r hr
    apply eq_X7_image_96
    simp only [av_kP]
    rw [if_neg (by decide)]
    exact hr
  · intro k hk ih M hM
    have f1 : al_fr (fun q => 184 ≤ q ∧ q ≤ 184) M (av_w M 184 k (M.1 150 k)) := (al_fr_w (D := (fun q => 184 ≤ q ∧ q ≤ 184)) _ (by omega) _ _)
    obtain ⟨M', c1, c2, c3⟩ := ih (av_w M 184 k (M.1 150 k)) (fun q hq j hj => by
      rw [al_fr_q f1 (q := 150 + q) (by omega)]
      by_cases e : j = k
      · subst e
        cases (by omega : q = 0) <;> simp (disch := (first | decide | omega)) only [av_w_s, av_w_o]
      · rw [av_w_k _ _ _ _ e]
        exact hM q hq j (by omega))
    refine ⟨M', fun q hq j hj => (c1 q hq j hj).trans (al_fr_q f1 (by omega)), al_fr_tr f1 c2, fun r hr => ?_⟩
    have c4 := c3 r hr
    apply eq_X7_image_96
    simp only [av_kP]
    rw [if_pos (nI_lt hk (by decide))]
    simp (disch := (first | decide | omega)) only [av_gx_s, nI_clamp, av_kP, nI_add, av_w_o]
    exact c4
theorem im_111 (L : av_W) (d : Nat) (M : av_N) : ∃ M', ((∀ q, q < 3 → ∀ j, j < 5 → M'.1 (185 + q) j = M.1 (166 + q) j) ∧ (∀ j, j < 5 → M'.1 193 j = am_nar 103 (M.1 169 j))) ∧ al_fr (fun q => (185 ≤ q ∧ q ≤ 187) ∨ q = 193) M M' ∧ (∀ r, av_V (av_S0 L) d ta_X7_image 150 [.ref 142, .int (nI 0)] [] M' = some r → av_V (av_S0 L) d ta_X7_image 111 [.ref 142, .int (nI 0)] [] M = some r) := by
  refine lp_0 (P := fun k => ∀ M : av_N, ((∀ q, q < 3 → ∀ j, j < k → M.1 (185 + q) j = M.1 (166 + q) j) ∧ (∀ j, j < k → M.1 193 j = am_nar 103 (M.1 169 j))) → ∃ M', ((∀ q, q < 3 → ∀ j, j < 5 → M'.1 (185 + q) j = M.1 (166 + q) j) ∧ (∀ j, j < 5 → M'.1 193 j = am_nar 103 (M.1 169 j))) ∧ al_fr (fun q => (185 ≤ q ∧ q ≤ 187) ∨ q = 193) M M' ∧ (∀ r, av_V (av_S0 L) d ta_X7_image 150 [.ref 142, .int (nI 0)] [] M' = some r → av_V (av_S0 L) d ta_X7_image 111 [.ref 142, .int (nI k)] [] M = some r)) 5 ?_ ?_ M ⟨fun q _ j hj => absurd hj (Nat.not_lt_zero _), fun j hj => absurd hj (Nat.not_lt_zero _)⟩
  · intro M hM
    refine ⟨M, hM, al_fr_rf _ _, ?_⟩
    intro r hr
    apply eq_X7_image_111
    simp only [av_kP]
    rw [if_neg (by decide)]
    exact hr
  · intro k hk ih M hM
    have f1 : al_fr (fun q => (185 ≤ q ∧ q ≤ 187) ∨ q = 193) M (av_w (av_w (av_w (av_w M 185 k (M.1 166 k)) 186 k (M.1 167 k)) 187 k (M.1 168 k)) 193 k (am_nar 103 (M.1 169 k))) := (al_fr_tr (al_fr_tr (al_fr_tr (al_fr_w (D := (fun q => (185 ≤ q ∧ q ≤ 187) ∨ q = 193)) _ (by omega) _ _) (al_fr_w (D := (fun q => (185 ≤ q ∧ q ≤ 187) ∨ q = 193)) _ (by omega) _ _)) (al_fr_w (D := (fun q => (185 ≤ q ∧ q ≤ 187) ∨ q = 193)) _ (by omega) _ _)) (al_fr_w (D := (fun q => (185 ≤ q ∧ q ≤ 187) ∨ q = 193)) _ (by omega) _ _))
    obtain ⟨hM, hN⟩ := hM
    obtain ⟨M', c1, c2, c3⟩ := ih (av_w (av_w (av_w (av_w M 185 k (M.1 166 k)) 186 k (M.1 167 k)) 187 k (M.1 168 k)) 193 k (am_nar 103 (M.1 169 k))) ⟨fun q hq j hj => by
      rw [al_fr_q f1 (q := 166 + q) (by omega)]
      by_cases e : j = k
      · subst e
        rcases (by omega : q = 0 ∨ q = 1 ∨ q = 2) with rfl | rfl | rfl <;> simp (disch := (first | decide | omega)) only [av_w_s, av_w_o]
      · rw [av_w_k _ _ _ _ e]; rw [av_w_k _ _ _ _ e]; rw [av_w_k _ _ _ _ e]; rw [av_w_k _ _ _ _ e]
        exact hM q hq j (by omega), fun j hj => by
      rw [al_fr_q f1 (q := 169) (by omega)]
      by_cases e : j = k
      · subst e
        exact av_w_s _ _ _ _
      · rw [av_w_k _ _ _ _ e]; rw [av_w_k _ _ _ _ e]; rw [av_w_k _ _ _ _ e]; rw [av_w_k _ _ _ _ e]
        exact hN j (by omega)⟩
    refine ⟨M', ⟨fun q hq j hj => (c1.1 q hq j hj).trans (al_fr_q f1 (by omega)), fun j hj => (c1.2 j hj).trans (congrArg _ (al_fr_q f1 (by omega)))⟩, al_fr_tr f1 c2, fun r hr => ?_⟩
    have c4 := c3 r hr
    apply eq_X7_image_111
    simp only [av_kP]
    rw [if_pos (nI_lt hk (by decide))]
    simp (disch := (first | decide | omega)) only [av_gx_s, nI_clamp, av_kP, nI_add, av_w_o]
    exact c4
theorem im_150 (L : av_W) (d : Nat) (M : av_N) : ∃ M', ((∀ q, q < 3 → ∀ j, j < 6 → M'.1 (188 + q) j = M.1 (170 + q) j)) ∧ al_fr (fun q => 188 ≤ q ∧ q ≤ 190) M M' ∧ (∀ r, av_V (av_S0 L) d ta_X7_image 181 [.ref 142, .int (nI 0)] [] M' = some r → av_V (av_S0 L) d ta_X7_image 150 [.ref 142, .int (nI 0)] [] M = some r) := by
  refine lp_0 (P := fun k => ∀ M : av_N, ((∀ q, q < 3 → ∀ j, j < k → M.1 (188 + q) j = M.1 (170 + q) j)) → ∃ M', ((∀ q, q < 3 → ∀ j, j < 6 → M'.1 (188 + q) j = M.1 (170 + q) j)) ∧ al_fr (fun q => 188 ≤ q ∧ q ≤ 190) M M' ∧ (∀ r, av_V (av_S0 L) d ta_X7_image 181 [.ref 142, .int (nI 0)] [] M' = some r → av_V (av_S0 L) d ta_X7_image 150 [.ref 142, .int (nI k)] [] M = some r)) 6 ?_ ?_ M (fun q _ j hj => absurd hj (Nat.not_lt_zero _))
  · intro M hM
    refine ⟨M, hM, al_fr_rf _ _, ?_⟩
    intro r hr
    apply eq_X7_image_150
    simp only [av_kP]
    rw [if_neg (by decide)]
    exact hr
  · intro k hk ih M hM
    have f1 : al_fr (fun q => 188 ≤ q ∧ q ≤ 190) M (av_w (av_w (av_w M 188 k (M.1 170 k)) 189 k (M.1 171 k)) 190 k (M.1 172 k)) := (al_fr_tr (al_fr_tr (al_fr_w (D := (fun q => 188 ≤ q ∧ q ≤ 190)) _ (by omega) _ _) (al_fr_w (D := (fun q => 188 ≤ q ∧ q ≤ 190)) _ (by omega) _ _)) (al_fr_w (D := (fun q => 188 ≤ q ∧ q ≤ 190)) _ (by omega) _ _))
    obtain ⟨M', c1, c2, c3⟩ := ih (av_w (av_w (av_w M 188 k (M.1 170 k)) 189 k (M.1 171 k)) 190 k (M.1 172 k)) (fun q hq j hj => by
      rw [al_fr_q f1 (q := 170 + q) (by omega)]
      by_cases e : j = k
      · subst e
        rcases (by omega : q = 0 ∨ q = 1 ∨ q = 2) with rfl | rfl | rfl <;> simp (disch := (first | decide | omega)) only [av_w_s, av_w_o]
      · rw [av_w_k _ _ _ _ e]; rw [av_w_k _ _ _ _ e]; rw [av_w_k _ _ _ _ e]
        exact hM q hq j (by omega))
    refine ⟨M', fun q hq j hj => (c1 q hq j hj).trans (al_fr_q f1 (by omega)), al_fr_tr f1 c2, fun r hr => ?_⟩
    have c4 := c3 r hr
    apply eq_X7_image_150
    simp only [av_kP]
    rw [if_pos (nI_lt hk (by decide))]
    simp (disch := (first | decide | omega)) only [av_gx_s, nI_clamp, av_kP, nI_add, av_w_o]
    exact c4
theorem im_181 (L : av_W) (d : Nat) (M : av_N) : ∃ M', ((∀ q, q < 2 → ∀ j, j < 8 → M'.1 (191 + q) j = M.1 (173 + q) j)) ∧ al_fr (fun q => 191 ≤ q ∧ q ≤ 192) M M' ∧ av_V (av_S0 L) d ta_X7_image 181 [.ref 142, .int (nI 0)] [] M = some (some (.int (M.1 142 0)), M') := by
  refine lp_0 (P := fun k => ∀ M : av_N, ((∀ q, q < 2 → ∀ j, j < k → M.1 (191 + q) j = M.1 (173 + q) j)) → ∃ M', ((∀ q, q < 2 → ∀ j, j < 8 → M'.1 (191 + q) j = M.1 (173 + q) j)) ∧ al_fr (fun q => 191 ≤ q ∧ q ≤ 192) M M' ∧ av_V (av_S0 L) d ta_X7_image 181 [.ref 142, .int (nI k)] [] M = some (some (.int (M.1 142 0)), M')) 8 ?_ ?_ M (fun q _ j hj => absurd hj (Nat.not_lt_zero _))
  · intro M hM
    refine ⟨M, hM, al_fr_rf _ _, ?_⟩
    apply eq_X7_image_181
    simp only [av_kP]
    rw [if_neg (by decide)]
  · intro k hk ih M hM
    have f1 : al_fr (fun q => 191 ≤ q ∧ q ≤ 192) M (av_w (av_w M 191 k (M.1 173 k)) 192 k (M.1 174 k)) := (al_fr_tr (al_fr_w (D := (fun q => 191 ≤ q ∧ q ≤ 192)) _ (by omega) _ _) (al_fr_w (D := (fun q => 191 ≤ q ∧ q ≤ 192)) _ (by omega) _ _))
    obtain ⟨M', c1, c2, c3⟩ := ih (av_w (av_w M 191 k (M.1 173 k)) 192 k (M.1 174 k)) (fun q hq j hj => by
      rw [al_fr_q f1 (q := 173 + q) (by omega)]
      by_cases e : j = k
      · subst e
        rcases (by omega : q = 0 ∨ q = 1) with rfl | rfl <;> simp (disch := (first | decide | omega)) only [av_w_s, av_w_o]
      · rw [av_w_k _ _ _ _ e]; rw [av_w_k _ _ _ _ e]
        exact hM q hq j (by omega))
    refine ⟨M', fun q hq j hj => (c1 q hq j hj).trans (al_fr_q f1 (by omega)), al_fr_tr f1 c2, ?_⟩
    have c4 := c3
    rw [al_fr_q f1 (q := 142) (by omega)] at c4
    apply eq_X7_image_181
    simp only [av_kP]
    rw [if_pos (nI_lt hk (by decide))]
    simp (disch := (first | decide | omega)) only [av_gx_s, nI_clamp, av_kP, nI_add, av_w_o]
    exact c4
theorem un_35 (L : av_W) (d : Nat) (M : av_N) : ∃ M', ((∀ q, q < 7 → ∀ j, j < 7 → M'.1 (143 + q) j = M.1 (177 + q) j)) ∧ al_fr (fun q => 143 ≤ q ∧ q ≤ 149) M M' ∧ (∀ r, av_V (av_S0 L) d ta_X7_undo 98 [.ref 142, .int (nI 0)] [] M' = some r → av_V (av_S0 L) d ta_X7_undo 35 [.ref 142, .int (nI 0)] [] M = some r) := by
  refine lp_0 (P := fun k => ∀ M : av_N, ((∀ q, q < 7 → ∀ j, j < k → M.1 (143 + q) j = M.1 (177 + q) j)) → ∃ M', ((∀ q, q < 7 → ∀ j, j < 7 → M'.1 (143 + q) j = M.1 (177 + q) j)) ∧ al_fr (fun q => 143 ≤ q ∧ q ≤ 149) M M' ∧ (∀ r, av_V (av_S0 L) d ta_X7_undo 98 [.ref 142, .int (nI 0)] [] M' = some r → av_V (av_S0 L) d ta_X7_undo 35 [.ref 142, .int (nI k)] [] M = some r)) 7 ?_ ?_ M (fun q _ j hj => absurd hj (Nat.not_lt_zero _))
  · intro M hM
    refine ⟨M, hM, al_fr_rf _ _, ?_⟩
    intro r hr
    apply eq_X7_undo_35
    simp only [av_kP]
    rw [if_neg (by decide)]
    exact hr
  · intro k hk ih M hM
    have f1 : al_fr (fun q => 143 ≤ q ∧ q ≤ 149) M (av_w (av_w (av_w (av_w (av_w (av_w (av_w M 143 k (M.1 177 k)) 144 k (M.1 178 k)) 145 k (M.1 179 k)) 146 k (M.1 180 k)) 147 k (M.1 181 k)) 148 k (M.1 182 k)) 149 k (M.1 183 k)) := (al_fr_tr (al_fr_tr (al_fr_tr (al_fr_tr (al_fr_tr (al_fr_tr (al_fr_w (D := (fun q => 143 ≤ q ∧ q ≤ 149)) _ (by omega) _ _) (al_fr_w (D := (fun q => 143 ≤ q ∧ q ≤ 149)) _ (by omega) _ _)) (al_fr_w (D := (fun q => 143 ≤ q ∧ q ≤ 149)) _ (by omega) _ _)) (al_fr_w (D := (fun q => 143 ≤ q ∧ q ≤ 149)) _ (by omega) _ _)) (al_fr_w (D := (fun q => 143 ≤ q ∧ q ≤ 149)) _ (by omega) _ _)) (al_fr_w (D := (fun q => 143 ≤ q ∧ q ≤ 149)) _ (by omega) _ _)) (al_fr_w (D := (fun q => 143 ≤ q ∧ q ≤ 149)) _ (by omega) _ _))
    obtain ⟨M', c1, c2, c3⟩ := ih (av_w (av_w (av_w (av_w (av_w (av_w (av_w M 143 k (M.1 177 k)) 144 k (M.1 178 k)) 145 k (M.1 179 k)) 146 k (M.1 180 k)) 147 k (M.1 181 k)) 148 k (M.1 182 k)) 149 k (M.1 183 k)) (fun q hq j hj => by
      rw [al_fr_q f1 (q := 177 + q) (by omega)]
      by_cases e : j = k
      · subst e
        rcases (by omega : q = 0 ∨ q = 1 ∨ q = 2 ∨ q = 3 ∨ q = 4 ∨ q = 5 ∨ q = 6) with rfl | rfl | rfl | rfl | rfl | rfl | rfl <;> simp (disch := (first | decide | omega)) only [av_w_s, av_w_o]
      · rw [av_w_k _ _ _ _ e]; rw [av_w_k _ _ _ _ e]; rw [av_w_k _ _ _ _ e]; rw [av_w_k _ _ _ _ e]; rw [av_w_k _ _ _ _ e]; rw [av_w_k _ _ _ _ e]; rw [av_w_k _ _ _ _ e]
        exact hM q hq j (by omega))
    refine ⟨M', fun q hq j hj => (c1 q hq j hj).trans (al_fr_q f1 (by omega)), al_fr_tr f1 c2, fun r hr => ?_⟩
    have c4 := c3 r hr
    apply eq_X7_undo_35
    simp only [av_kP]
    rw [if_pos (nI_lt hk (by decide))]
    simp (disch := (first | decide | omega)) only [av_gx_s, nI_clamp, av_kP, nI_add, av_w_o]
    exact c4
theorem un_98 (L : av_W) (d : Nat) (M : av_N) : ∃ M', ((∀ q, q < 1 → ∀ j, j < 28 → M'.1 (150 + q) j = M.1 (184 + q) j)) ∧ al_fr (fun q => 150 ≤ q ∧ q ≤ 150) M M' ∧ (∀ r, av_V (av_S0 L) d ta_X7_undo 113 [.ref 142, .int (nI 0)] [] M' = some r → av_V (av_S0 L) d ta_X7_undo 98 [.ref 142, .int (nI 0)] [] M = some r) := by
  refine lp_0 (P := fun k => ∀ M : av_N, ((∀ q, q < 1 → ∀ j, j < k → M.1 (150 + q) j = M.1 (184 + q) j)) → ∃ M', ((∀ q, q < 1 → ∀ j, j < 28 → M'.1 (150 + q) j = M.1 (184 + q) j)) ∧ al_fr (fun q => 150 ≤ q ∧ q ≤ 150) M M' ∧ (∀ r, av_V (av_S0 L) d ta_X7_undo 113 [.ref 142, .int (nI 0)] [] M' = some r → av_V (av_S0 L) d ta_X7_undo 98 [.ref 142, .int (nI k)] [] M = some r)) 28 ?_ ?_ M (fun q _ j hj => absurd hj (Nat.not_lt_zero _))
  · intro M hM
    refine ⟨M, hM, al_fr_rf _ _, ?_⟩
    intro r hr
    apply eq_X7_undo_98
    simp only [av_kP]
    rw [if_neg (by decide)]
    exact hr
  · intro k hk ih M hM
    have f1 : al_fr (fun q => 150 ≤ q ∧ q ≤ 150) M (av_w M 150 k (M.1 184 k)) := (al_fr_w (D := (fun q => 150 ≤ q ∧ q ≤ 150)) _ (by omega) _ _)
    obtain ⟨M', c1, c2, c3⟩ := ih (av_w M 150 k (M.1 184 k)) (fun q hq j hj => by
      rw [al_fr_q f1 (q := 184 + q) (by omega)]
      by_cases e : j = k
      · subst e
        cases (by omega : q = 0) <;> simp (disch := (first | decide | omega)) only [av_w_s, av_w_o]
      · rw [av_w_k _ _ _ _ e]
        exact hM q hq j (by omega))
    refine ⟨M', fun q hq j hj => (c1 q hq j hj).trans (al_fr_q f1 (by omega)), al_fr_tr f1 c2, fun r hr => ?_⟩
    have c4 := c3 r hr
    apply eq_X7_undo_98
    simp only [av_kP]
    rw [if_pos (nI_lt hk (by decide))]
    simp (disch := (first | decide | omega)) only [av_gx_s, nI_clamp, av_kP, nI_add, av_w_o]
    exact c4
theorem un_113 (L : av_W) (d : Nat) (M : av_N) : ∃ M', ((∀ q, q < 3 → ∀ j, j < 5 → M'.1 (166 + q) j = M.1 (185 + q) j) ∧ (∀ j, j < 5 → M'.1 169 j = am_nar 103 (M.1 193 j))) ∧ al_fr (fun q => (166 ≤ q ∧ q ≤ 168) ∨ q = 169) M M' ∧ (∀ r, av_V (av_S0 L) d ta_X7_undo 152 [.ref 142, .int (nI 0)] [] M' = some r → av_V (av_S0 L) d ta_X7_undo 113 [.ref 142, .int (nI 0)] [] M = some r) := by
  refine lp_0 (P := fun k => ∀ M : av_N, ((∀ q, q < 3 → ∀ j, j < k → M.1 (166 + q) j = M.1 (185 + q) j) ∧ (∀ j, j < k → M.1 169 j = am_nar 103 (M.1 193 j))) → ∃ M', ((∀ q, q < 3 → ∀ j, j < 5 → M'.1 (166 + q) j = M.1 (185 + q) j) ∧ (∀ j, j < 5 → M'.1 169 j = am_nar 103 (M.1 193 j))) ∧ al_fr (fun q => (166 ≤ q ∧ q ≤ 168) ∨ q = 169) M M' ∧ (∀ r, av_V (av_S0 L) d ta_X7_undo 152 [.ref 142, .int (nI 0)] [] M' = some r → av_V (av_S0 L) d ta_X7_undo 113 [.ref 142, .int (nI k)] [] M = some r)) 5 ?_ ?_ M ⟨fun q _ j hj => absurd hj (Nat.not_lt_zero _), fun j hj => absurd hj (Nat.not_lt_zero _)⟩
  · intro M hM
    refine ⟨M, hM, al_fr_rf _ _, ?_⟩
    intro r hr
    apply eq_X7_undo_113
    simp only [av_kP]
    rw [if_neg (by decide)]
    exact hr
  · intro k hk ih M hM
    have f1 : al_fr (fun q => (166 ≤ q ∧ q ≤ 168) ∨ q = 169) M (av_w (av_w (av_w (av_w M 166 k (M.1 185 k)) 167 k (M.1 186 k)) 168 k (M.1 187 k)) 169 k (am_nar 103 (M.1 193 k))) := (al_fr_tr (al_fr_tr (al_fr_tr (al_fr_w (D := (fun q => (166 ≤ q ∧ q ≤ 168) ∨ q = 169)) _ (by omega) _ _) (al_fr_w (D := (fun q => (166 ≤ q ∧ q ≤ 168) ∨ q = 169)) _ (by omega) _ _)) (al_fr_w (D := (fun q => (166 ≤ q ∧ q ≤ 168) ∨ q = 169)) _ (by omega) _ _)) (al_fr_w (D := (fun q => (166 ≤ q ∧ q ≤ 168) ∨ q = 169)) _ (by omega) _ _))
    obtain ⟨hM, hN⟩ := hM
    obtain ⟨M', c1, c2, c3⟩ := ih (av_w (av_w (av_w (av_w M 166 k (M.1 185 k)) 167 k (M.1 186 k)) 168 k (M.1 187 k)) 169 k (am_nar 103 (M.1 193 k))) ⟨fun q hq j hj => by
      rw [al_fr_q f1 (q := 185 + q) (by omega)]
      by_cases e : j = k
      · subst e
        rcases (by omega : q = 0 ∨ q = 1 ∨ q = 2) with rfl | rfl | rfl <;> simp (disch := (first | decide | omega)) only [av_w_s, av_w_o]
      · rw [av_w_k _ _ _ _ e]; rw [av_w_k _ _ _ _ e]; rw [av_w_k _ _ _ _ e]; rw [av_w_k _ _ _ _ e]
        exact hM q hq j (by omega), fun j hj => by
      rw [al_fr_q f1 (q := 193) (by omega)]
      by_cases e : j = k
      · subst e
        exact av_w_s _ _ _ _
      · rw [av_w_k _ _ _ _ e]; rw [av_w_k _ _ _ _ e]; rw [av_w_k _ _ _ _ e]; rw [av_w_k _ _ _ _ e]
        exact hN j (by omega)⟩
    refine ⟨M', ⟨fun q hq j hj => (c1.1 q hq j hj).trans (al_fr_q f1 (by omega)), fun j hj => (c1.2 j hj).trans (congrArg _ (al_fr_q f1 (by omega)))⟩, al_fr_tr f1 c2, fun r hr => ?_⟩
    have c4 := c3 r hr
    apply eq_X7_undo_113
    simp only [av_kP]
    rw [if_pos (nI_lt hk (by decide))]
    simp (disch := (first | decide | omega)) only [av_gx_s, nI_clamp, av_kP, nI_add, av_w_o]
    exact c4
theorem un_152 (L : av_W) (d : Nat) (M : av_N) : ∃ M', ((∀ q, q < 3 → ∀ j, j < 6 → M'.1 (170 + q) j = M.1 (188 + q) j)) ∧ al_fr (fun q => 170 ≤ q ∧ q ≤ 172) M M' ∧ (∀ r, av_V (av_S0 L) d ta_X7_undo 183 [.ref 142, .int (nI 0)] [] M' = some r → av_V (av_S0 L) d ta_X7_undo 152 [.ref 142, .int (nI 0)] [] M = some r) := by
  refine lp_0 (P := fun k => ∀ M : av_N, ((∀ q, q < 3 → ∀ j, j < k → M.1 (170 + q) j = M.1 (188 + q) j)) → ∃ M', ((∀ q, q < 3 → ∀ j, j < 6 → M'.1 (170 + q) j = M.1 (188 + q) j)) ∧ al_fr (fun q => 170 ≤ q ∧ q ≤ 172) M M' ∧ (∀ r, av_V (av_S0 L) d ta_X7_undo 183 [.ref 142, .int (nI 0)] [] M' = some r → av_V (av_S0 L) d ta_X7_undo 152 [.ref 142, .int (nI k)] [] M = some r)) 6 ?_ ?_ M (fun q _ j hj => absurd hj (Nat.not_lt_zero _))
  · intro M hM
    refine ⟨M, hM, al_fr_rf _ _, ?_⟩
    intro r hr
    apply eq_X7_undo_152
    simp only [av_kP]
    rw [if_neg (by decide)]
    exact hr
  · intro k hk ih M hM
    have f1 : al_fr (fun q => 170 ≤ q ∧ q ≤ 172) M (av_w (av_w (av_w M 170 k (M.1 188 k)) 171 k (M.1 189 k)) 172 k (M.1 190 k)) := (al_fr_tr (al_fr_tr (al_fr_w (D := (fun q => 170 ≤ q ∧ q ≤ 172)) _ (by omega) _ _) (al_fr_w (D := (fun q => 170 ≤ q ∧ q ≤ 172)) _ (by omega) _ _)) (al_fr_w (D := (fun q => 170 ≤ q ∧ q ≤ 172)) _ (by omega) _ _))
    obtain ⟨M', c1, c2, c3⟩ := ih (av_w (av_w (av_w M 170 k (M.1 188 k)) 171 k (M.1 189 k)) 172 k (M.1 190 k)) (fun q hq j hj => by
      rw [al_fr_q f1 (q := 188 + q) (by omega)]
      by_cases e : j = k
      · subst e
        rcases (by omega : q = 0 ∨ q = 1 ∨ q = 2) with rfl | rfl | rfl <;> simp (disch := (first | decide | omega)) only [av_w_s, av_w_o]
      · rw [av_w_k _ _ _ _ e]; rw [av_w_k _ _ _ _ e]; rw [av_w_k _ _ _ _ e]
        exact hM q hq j (by omega))
    refine ⟨M', fun q hq j hj => (c1 q hq j hj).trans (al_fr_q f1 (by omega)), al_fr_tr f1 c2, fun r hr => ?_⟩
    have c4 := c3 r hr
    apply eq_X7_undo_152
    simp only [av_kP]
    rw [if_pos (nI_lt hk (by decide))]
    simp (disch := (first | decide | omega)) only [av_gx_s, nI_clamp, av_kP, nI_add, av_w_o]
    exact c4
theorem un_183 (L : av_W) (d : Nat) (M : av_N) : ∃ M', ((∀ q, q < 2 → ∀ j, j < 8 → M'.1 (173 + q) j = M.1 (191 + q) j)) ∧ al_fr (fun q => 173 ≤ q ∧ q ≤ 174) M M' ∧ av_V (av_S0 L) d ta_X7_undo 183 [.ref 142, .int (nI 0)] [] M = some (some (.int (M.1 142 0)), M') := by
  refine lp_0 (P := fun k => ∀ M : av_N, ((∀ q, q < 2 → ∀ j, j < k → M.1 (173 + q) j = M.1 (191 + q) j)) → ∃ M', ((∀ q, q < 2 → ∀ j, j < 8 → M'.1 (173 + q) j = M.1 (191 + q) j)) ∧ al_fr (fun q => 173 ≤ q ∧ q ≤ 174) M M' ∧ av_V (av_S0 L) d ta_X7_undo 183 [.ref 142, .int (nI k)] [] M = some (some (.int (M.1 142 0)), M')) 8 ?_ ?_ M (fun q _ j hj => absurd hj (Nat.not_lt_zero _))
  · intro M hM
    refine ⟨M, hM, al_fr_rf _ _, ?_⟩
    apply eq_X7_undo_183
    simp only [av_kP]
    rw [if_neg (by decide)]
  · intro k hk ih M hM
    have f1 : al_fr (fun q => 173 ≤ q ∧ q ≤ 174) M (av_w (av_w M 173 k (M.1 191 k)) 174 k (M.1 192 k)) := (al_fr_tr (al_fr_w (D := (fun q => 173 ≤ q ∧ q ≤ 174)) _ (by omega) _ _) (al_fr_w (D := (fun q => 173 ≤ q ∧ q ≤ 174)) _ (by omega) _ _))
    obtain ⟨M', c1, c2, c3⟩ := ih (av_w (av_w M 173 k (M.1 191 k)) 174 k (M.1 192 k)) (fun q hq j hj => by
      rw [al_fr_q f1 (q := 191 + q) (by omega)]
      by_cases e : j = k
      · subst e
        rcases (by omega : q = 0 ∨ q = 1) with rfl | rfl <;> simp (disch := (first | decide | omega)) only [av_w_s, av_w_o]
      · rw [av_w_k _ _ _ _ e]; rw [av_w_k _ _ _ _ e]
        exact hM q hq j (by omega))
    refine ⟨M', fun q hq j hj => (c1 q hq j hj).trans (al_fr_q f1 (by omega)), al_fr_tr f1 c2, ?_⟩
    have c4 := c3
    rw [al_fr_q f1 (q := 142) (by omega)] at c4
    apply eq_X7_undo_183
    simp only [av_kP]
    rw [if_pos (nI_lt hk (by decide))]
    simp (disch := (first | decide | omega)) only [av_gx_s, nI_clamp, av_kP, nI_add, av_w_o]
    exact c4
theorem sp_imageM (L : av_W) (d : Nat) (N : av_N) : ∃ N2, av_C (av_S0 L) d 197 [.ref 142] N = some (some (.int (N.1 142 0)), N2) ∧ (N2.1 142 50 = nI 1 ∧ N2.1 142 51 = N.1 142 12 ∧ N2.1 142 52 = N.1 142 0 ∧ N2.1 142 53 = N.1 142 1 ∧ N2.1 142 54 = N.1 142 2 ∧ N2.1 142 55 = N.1 142 36 ∧ N2.1 142 56 = N.1 142 41 ∧ N2.1 142 57 = N.1 142 42) ∧ (∀ q, q < 7 → ∀ j, j < 7 → N2.1 (177 + q) j = N.1 (143 + q) j) ∧ (∀ q, q < 1 → ∀ j, j < 28 → N2.1 (184 + q) j = N.1 (150 + q) j) ∧ (∀ q, q < 3 → ∀ j, j < 5 → N2.1 (185 + q) j = N.1 (166 + q) j) ∧ (∀ j, j < 5 → N2.1 193 j = am_nar 103 (N.1 169 j)) ∧ (∀ q, q < 3 → ∀ j, j < 6 → N2.1 (188 + q) j = N.1 (170 + q) j) ∧ (∀ q, q < 2 → ∀ j, j < 8 → N2.1 (191 + q) j = N.1 (173 + q) j) ∧ al_f2 (fun q k => (q = 142 ∧ 50 ≤ k ∧ k ≤ 57) ∨ (177 ≤ q ∧ q ≤ 193)) N N2 := by
  have f0 : al_f2 (fun q k => (q = 142 ∧ 50 ≤ k ∧ k ≤ 57) ∨ (177 ≤ q ∧ q ≤ 193)) N (av_w (av_w (av_w (av_w (av_w (av_w (av_w (av_w N 142 50 (nI 1)) 142 51 (N.1 142 12)) 142 52 (N.1 142 0)) 142 53 (N.1 142 1)) 142 54 (N.1 142 2)) 142 55 (N.1 142 36)) 142 56 (N.1 142 41)) 142 57 (N.1 142 42)) := (al_f2_tr (al_f2_tr (al_f2_tr (al_f2_tr (al_f2_tr (al_f2_tr (al_f2_tr (al_f2_w (D := (fun q k => (q = 142 ∧ 50 ≤ k ∧ k ≤ 57) ∨ (177 ≤ q ∧ q ≤ 193))) _ (by omega) _) (al_f2_w (D := (fun q k => (q = 142 ∧ 50 ≤ k ∧ k ≤ 57) ∨ (177 ≤ q ∧ q ≤ 193))) _ (by omega) _)) (al_f2_w (D := (fun q k => (q = 142 ∧ 50 ≤ k ∧ k ≤ 57) ∨ (177 ≤ q ∧ q ≤ 193))) _ (by omega) _)) (al_f2_w (D := (fun q k => (q = 142 ∧ 50 ≤ k ∧ k ≤ 57) ∨ (177 ≤ q ∧ q ≤ 193))) _ (by omega) _)) (al_f2_w (D := (fun q k => (q = 142 ∧ 50 ≤ k ∧ k ≤ 57) ∨ (177 ≤ q ∧ q ≤ 193))) _ (by omega) _)) (al_f2_w (D := (fun q k => (q = 142 ∧ 50 ≤ k ∧ k ≤ 57) ∨ (177 ≤ q ∧ q ≤ 193))) _ (by omega) _)) (al_f2_w (D := (fun q k => (q = 142 ∧ 50 ≤ k ∧ k ≤ 57) ∨ (177 ≤ q ∧ q ≤ 193))) _ (by omega) _)) (al_f2_w (D := (fun q k => (q = 142 ∧ 50 ≤ k ∧ k ≤ 57) ∨ (177 ≤ q ∧ q ≤ 193))) _ (by omega) _))
  obtain ⟨M1, a1, g1, r1⟩ := im_33 L d (av_w (av_w (av_w (av_w (av_w (av_w (av_w (av_w N 142 50 (nI 1)) 142 51 (N.1 142 12)) 142 52 (N.1 142 0)) 142 53 (N.1 142 1)) 142 54 (N.1 142 2)) 142 55 (N.1 142 36)) 142 56 (N.1 142 41)) 142 57 (N.1 142 42))
  obtain ⟨M2, a2, g2, r2⟩ := im_96 L d M1
  obtain ⟨M3, a3, g3, r3⟩ := im_111 L d M2
  obtain ⟨M4, a4, g4, r4⟩ := im_150 L d M3
  obtain ⟨M5, a5, g5, r5⟩ := im_181 L d M4
  refine ⟨M5, ?_, ⟨?_, ?_, ?_, ?_, ?_, ?_, ?_, ?_⟩, ?_, ?_, ?_, ?_, ?_, ?_, al_f2_tr f0 ?_⟩
  · apply eq_X7_image
    simp only [av_kP]
    simp (disch := (first | decide | omega)) only [av_w_k]
    refine r1 _ (r2 _ (r3 _ (r4 _ ?_)))
    rw [r5, al_fr_q g4 (by omega), al_fr_q g3 (by omega), al_fr_q g2 (by omega), al_fr_q g1 (by omega)]
    simp (disch := (first | decide | omega)) only [av_w_s, av_w_k]
  · rw [al_fr_q g5 (by omega), al_fr_q g4 (by omega), al_fr_q g3 (by omega), al_fr_q g2 (by omega), al_fr_q g1 (by omega)]
    simp (disch := (first | decide | omega)) only [av_w_s, av_w_k]
  · rw [al_fr_q g5 (by omega), al_fr_q g4 (by omega), al_fr_q g3 (by omega), al_fr_q g2 (by omega), al_fr_q g1 (by omega)]
    simp (disch := (first | decide | omega)) only [av_w_s, av_w_k]
  · rw [al_fr_q g5 (by omega), al_fr_q g4 (by omega), al_fr_q g3 (by omega), al_fr_q g2 (by omega), al_fr_q g1 (by omega)]
    simp (disch := (first | decide | omega)) only [av_w_s, av_w_k]
  · rw [al_fr_q g5 (by omega), al_fr_q g4 (by omega), al_fr_q g3 (by omega), al_fr_q g2 (by omega), al_fr_q g1 (by omega)]
    simp (disch := (first | decide | omega)) only [av_w_s, av_w_k]
  · rw [al_fr_q g5 (by omega), al_fr_q g4 (by omega), al_fr_q g3 (by omega), al_fr_q g2 (by omega), al_fr_q g1 (by omega)]
    simp (disch := (first | decide | omega)) only [av_w_s, av_w_k]
  · rw [al_fr_q g5 (by omega), al_fr_q g4 (by omega), al_fr_q g3 (by omega), al_fr_q g2 (by omega), al_fr_q g1 (by omega)]
    simp (disch := (first | decide | omega)) only [av_w_s, av_w_k]
  · rw [al_fr_q g5 (by omega), al_fr_q g4 (by omega), al_fr_q g3 (by omega), al_fr_q g2 (by omega), al_fr_q g1 (by omega)]
    simp (disch := (first | decide | omega)) only [av_w_s, av_w_k]
  · rw [al_fr_q g5 (by omega), al_fr_q g4 (by omega), al_fr_q g3 (by omega), al_fr_q g2 (by omega), al_fr_q g1 (by omega)]
    simp (disch := (first | decide | omega)) only [av_w_s, av_w_k]
  · intro q hq j hj
    rw [al_fr_q g5 (by omega), al_fr_q g4 (by omega), al_fr_q g3 (by omega), al_fr_q g2 (by omega)]; rw [a1 q hq j hj]; exact (f0 _ _ (by omega)).1
  · intro q hq j hj
    rw [al_fr_q g5 (by omega), al_fr_q g4 (by omega), al_fr_q g3 (by omega)]; rw [a2 q hq j hj]; rw [al_fr_q g1 (by omega)]; exact (f0 _ _ (by omega)).1
  · intro q hq j hj
    rw [al_fr_q g5 (by omega), al_fr_q g4 (by omega)]; rw [a3.1 q hq j hj]; rw [al_fr_q g2 (by omega), al_fr_q g1 (by omega)]; exact (f0 _ _ (by omega)).1
  · intro j hj
    rw [al_fr_q g5 (by omega), al_fr_q g4 (by omega)]; rw [a3.2 j hj]; rw [al_fr_q g2 (by omega), al_fr_q g1 (by omega)]; exact congrArg _ (f0 _ _ (by omega)).1
  · intro q hq j hj
    rw [al_fr_q g5 (by omega)]; rw [a4 q hq j hj]; rw [al_fr_q g3 (by omega), al_fr_q g2 (by omega), al_fr_q g1 (by omega)]; exact (f0 _ _ (by omega)).1
  · intro q hq j hj
    rw [a5 q hq j hj]; rw [al_fr_q g4 (by omega), al_fr_q g3 (by omega), al_fr_q g2 (by omega), al_fr_q g1 (by omega)]; exact (f0 _ _ (by omega)).1
  · exact al_f2_tr (al_f2_of g1 (fun q k z => by omega)) (al_f2_tr (al_f2_of g2 (fun q k z => by omega)) (al_f2_tr (al_f2_of g3 (fun q k z => by omega)) (al_f2_tr (al_f2_of g4 (fun q k z => by omega)) (al_f2_of g5 (fun q k z => by omega)))))
theorem sp_undoM (L : av_W) (d : Nat) (N : av_N) (h0 : N.1 142 50 ≠ nI 0) : ∃ N2, av_C (av_S0 L) d 198 [.ref 142] N = some (some (.int (N.1 142 52)), N2) ∧ (N2.1 142 12 = N.1 142 51 ∧ N2.1 142 0 = N.1 142 52 ∧ N2.1 142 1 = N.1 142 53 ∧ N2.1 142 2 = N.1 142 54 ∧ N2.1 142 36 = N.1 142 55 ∧ N2.1 142 41 = N.1 142 56 ∧ N2.1 142 42 = N.1 142 57) ∧ (∀ q, q < 7 → ∀ j, j < 7 → N2.1 (143 + q) j = N.1 (177 + q) j) ∧ (∀ q, q < 1 → ∀ j, j < 28 → N2.1 (150 + q) j = N.1 (184 + q) j) ∧ (∀ q, q < 3 → ∀ j, j < 5 → N2.1 (166 + q) j = N.1 (185 + q) j) ∧ (∀ j, j < 5 → N2.1 169 j = am_nar 103 (N.1 193 j)) ∧ (∀ q, q < 3 → ∀ j, j < 6 → N2.1 (170 + q) j = N.1 (188 + q) j) ∧ (∀ q, q < 2 → ∀ j, j < 8 → N2.1 (173 + q) j = N.1 (191 + q) j) ∧ al_f2 (fun q k => (q = 142 ∧ (k ≤ 2 ∨ k = 12 ∨ k = 36 ∨ k = 41 ∨ k = 42)) ∨ (143 ≤ q ∧ q ≤ 150) ∨ (166 ≤ q ∧ q ≤ 174)) N N2 := by
  have f0 : al_f2 (fun q k => (q = 142 ∧ (k ≤ 2 ∨ k = 12 ∨ k = 36 ∨ k = 41 ∨ k = 42)) ∨ (143 ≤ q ∧ q ≤ 150) ∨ (166 ≤ q ∧ q ≤ 174)) N (av_w (av_w (av_w (av_w (av_w (av_w (av_w N 142 12 (N.1 142 51)) 142 0 (N.1 142 52)) 142 1 (N.1 142 53)) 142 2 (N.1 142 54)) 142 36 (N.1 142 55)) 142 41 (N.1 142 56)) 142 42 (N.1 142 57)) := (al_f2_tr (al_f2_tr (al_f2_tr (al_f2_tr (al_f2_tr (al_f2_tr (al_f2_w (D := (fun q k => (q = 142 ∧ (k ≤ 2 ∨ k = 12 ∨ k = 36 ∨ k = 41 ∨ k = 42)) ∨ (143 ≤ q ∧ q ≤ 150) ∨ (166 ≤ q ∧ q ≤ 174))) _ (by omega) _) (al_f2_w (D := (fun q k => (q = 142 ∧ (k ≤ 2 ∨ k = 12 ∨ k = 36 ∨ k = 41 ∨ k = 42)) ∨ (143 ≤ q ∧ q ≤ 150) ∨ (166 ≤ q ∧ q ≤ 174))) _ (by omega) _)) (al_f2_w (D := (fun q k => (q = 142 ∧ (k ≤ 2 ∨ k = 12 ∨ k = 36 ∨ k = 41 ∨ k = 42)) ∨ (143 ≤ q ∧ q ≤ 150) ∨ (166 ≤ q ∧ q ≤ 174))) _ (by omega) _)) (al_f2_w (D := (fun q k => (q = 142 ∧ (k ≤ 2 ∨ k = 12 ∨ k = 36 ∨ k = 41 ∨ k = 42)) ∨ (143 ≤ q ∧ q ≤ 150) ∨ (166 ≤ q ∧ q ≤ 174))) _ (by omega) _)) (al_f2_w (D := (fun q k => (q = 142 ∧ (k ≤ 2 ∨ k = 12 ∨ k = 36 ∨ k = 41 ∨ k = 42)) ∨ (143 ≤ q ∧ q ≤ 150) ∨ (166 ≤ q ∧ q ≤ 174))) _ (by omega) _)) (al_f2_w (D := (fun q k => (q = 142 ∧ (k ≤ 2 ∨ k = 12 ∨ k = 36 ∨ k = 41 ∨ k = 42)) ∨ (143 ≤ q ∧ q ≤ 150) ∨ (166 ≤ q ∧ q ≤ 174))) _ (by omega) _)) (al_f2_w (D := (fun q k => (q = 142 ∧ (k ≤ 2 ∨ k = 12 ∨ k = 36 ∨ k = 41 ∨ k = 42)) ∨ (143 ≤ q ∧ q ≤ 150) ∨ (166 ≤ q ∧ q ≤ 174))) _ (by omega) _))
  obtain ⟨M1, a1, g1, r1⟩ := un_35 L d (av_w (av_w (av_w (av_w (av_w (av_w (av_w N 142 12 (N.1 142 51)) 142 0 (N.1 142 52)) 142 1 (N.1 142 53)) 142 2 (N.1 142 54)) 142 36 (N.1 142 55)) 142 41 (N.1 142 56)) 142 42 (N.1 142 57))
  obtain ⟨M2, a2, g2, r2⟩ := un_98 L d M1
  obtain ⟨M3, a3, g3, r3⟩ := un_113 L d M2
  obtain ⟨M4, a4, g4, r4⟩ := un_152 L d M3
  obtain ⟨M5, a5, g5, r5⟩ := un_183 L d M4
  refine ⟨M5, ?_, ⟨?_, ?_, ?_, ?_, ?_, ?_, ?_⟩, ?_, ?_, ?_, ?_, ?_, ?_, al_f2_tr f0 ?_⟩
  · apply eq_X7_undo
    simp only [av_kP]
    simp (disch := (first | decide | omega)) only [av_w_k]
    rw [if_neg h0]
    refine r1 _ (r2 _ (r3 _ (r4 _ ?_)))
    rw [r5, al_fr_q g4 (by omega), al_fr_q g3 (by omega), al_fr_q g2 (by omega), al_fr_q g1 (by omega)]
    simp (disch := (first | decide | omega)) only [av_w_s, av_w_k]
  · rw [al_fr_q g5 (by omega), al_fr_q g4 (by omega), al_fr_q g3 (by omega), al_fr_q g2 (by omega), al_fr_q g1 (by omega)]
    simp (disch := (first | decide | omega)) only [av_w_s, av_w_k]
  · rw [al_fr_q g5 (by omega), al_fr_q g4 (by omega), al_fr_q g3 (by omega), al_fr_q g2 (by omega), al_fr_q g1 (by omega)]
    simp (disch := (first | decide | omega)) only [av_w_s, av_w_k]
  · rw [al_fr_q g5 (by omega), al_fr_q g4 (by omega), al_fr_q g3 (by omega), al_fr_q g2 (by omega), al_fr_q g1 (by omega)]
    simp (disch := (first | decide | omega)) only [av_w_s, av_w_k]
  · rw [al_fr_q g5 (by omega), al_fr_q g4 (by omega), al_fr_q g3 (by omega), al_fr_q g2 (by omega), al_fr_q g1 (by omega)]
    simp (disch := (first | decide | omega)) only [av_w_s, av_w_k]
  · rw [al_fr_q g5 (by omega), al_fr_q g4 (by omega), al_fr_q g3 (by omega), al_fr_q g2 (by omega), al_fr_q g1 (by omega)]
    simp (disch := (first | decide | omega)) only [av_w_s, av_w_k]
  · rw [al_fr_q g5 (by omega), al_fr_q g4 (by omega), al_fr_q g3 (by omega), al_fr_q g2 (by omega), al_fr_q g1 (by omega)]
    simp (disch := (first | decide | omega)) only [av_w_s, av_w_k]
  · rw [al_fr_q g5 (by omega), al_fr_q g4 (by omega), al_fr_q g3 (by omega), al_fr_q g2 (by omega), al_fr_q g1 (by omega)]
    simp (disch := (first | decide | omega)) only [av_w_s, av_w_k]
  · intro q hq j hj
    rw [al_fr_q g5 (by omega), al_fr_q g4 (by omega), al_fr_q g3 (by omega), al_fr_q g2 (by omega)]; rw [a1 q hq j hj]; exact (f0 _ _ (by omega)).1
  · intro q hq j hj
    rw [al_fr_q g5 (by omega), al_fr_q g4 (by omega), al_fr_q g3 (by omega)]; rw [a2 q hq j hj]; rw [al_fr_q g1 (by omega)]; exact (f0 _ _ (by omega)).1
  · intro q hq j hj
    rw [al_fr_q g5 (by omega), al_fr_q g4 (by omega)]; rw [a3.1 q hq j hj]; rw [al_fr_q g2 (by omega), al_fr_q g1 (by omega)]; exact (f0 _ _ (by omega)).1
  · intro j hj
    rw [al_fr_q g5 (by omega), al_fr_q g4 (by omega)]; rw [a3.2 j hj]; rw [al_fr_q g2 (by omega), al_fr_q g1 (by omega)]; exact congrArg _ (f0 _ _ (by omega)).1
  · intro q hq j hj
    rw [al_fr_q g5 (by omega)]; rw [a4 q hq j hj]; rw [al_fr_q g3 (by omega), al_fr_q g2 (by omega), al_fr_q g1 (by omega)]; exact (f0 _ _ (by omega)).1
  · intro q hq j hj
    rw [a5 q hq j hj]; rw [al_fr_q g4 (by omega), al_fr_q g3 (by omega), al_fr_q g2 (by omega), al_fr_q g1 (by omega)]; exact (f0 _ _ (by omega)).1
  · exact al_f2_tr (al_f2_of g1 (fun q k z => by omega)) (al_f2_tr (al_f2_of g2 (fun q k z => by omega)) (al_f2_tr (al_f2_of g3 (fun q k z => by omega)) (al_f2_tr (al_f2_of g4 (fun q k z => by omega)) (al_f2_of g5 (fun q k z => by omega)))))
theorem nar_1 {x : Nat} (h : x ≤ 1) : am_nar 103 (nI x) = nI x := by
  rcases (by omega : x = 0 ∨ x = 1) with rfl | rfl <;> decide
theorem cl_image (L : av_W) (d : Nat) {N : av_N} (hR : RR N) : al_call L (d + 20) N 77 [.ref 9] 197 [.ref 142] := by
  obtain ⟨n, day, B, e, k, T, h⟩ := hR
  have h0 := h
  obtain ⟨⟨b1, b2, ⟨m1, m2, m3⟩, b4, b5, b6⟩, hE, he, hI, hF, ⟨s, S, S1, ⟨S2, S3⟩, S4, S5, S6⟩, ⟨l, X, L1, ⟨L2, L3⟩, L4, L5, L6⟩, ⟨w, Y, K1, ⟨K2, K3⟩, K4, K5, K6⟩, hT, hX, hO⟩ := h0
  have hn := b1.1
  obtain ⟨N', c1, c2, c3, ⟨c4, c5⟩, ⟨c6, c7⟩, ⟨c8, c9⟩, c10⟩ := sp_scene_41_10 L (d + 11) b1 S2 L2 K2 S1 L1 K1
  have f1 : al_f2 (fun q k => (q = 9 ∧ k = 2) ∨ (41 ≤ q ∧ q ≤ 71)) N (av_w N' 9 2 (nI 1)) := al_f2_tr (al_f2_of c10 (fun q k z => by omega)) (al_f2_w _ (by omega) _)
  obtain ⟨N2, r1, ⟨i0, i1, i2, i3, i4, i5, i6, i7⟩, g1, g2, g3, g4, g5, g6, f2⟩ := sp_imageM L (d + 20) (av_w N' 9 2 (nI 1))
  have o1 : ∀ q k, ¬ ((q = 9 ∧ k = 2) ∨ (41 ≤ q ∧ q ≤ 71)) → (av_w N' 9 2 (nI 1)).1 q k = N.1 q k := fun q k z => (f1 q k z).1
  have o2 : ∀ q k, 41 ≤ q → q ≤ 71 → N2.1 q k = N'.1 q k := fun q k x y => ((f2 q k (by omega)).1).trans (av_w_o _ _ _ _ _ (by omega))
  generalize hN1 : av_w N' 9 2 (nI 1) = N1 at *
  refine ⟨.int (nI n), N1, N2, ?_, ?_, ⟨n, day, B, e, k, T, RA_I h (al_f2_mono (al_f2_tr (al_f2_mono f1 (E := fun q k => uI q k) (fun q k z => by unfold uI; omega)) (al_f2_mono f2 (fun q k z => by unfold uI; omega))) (fun q k z => Or.inl z)) (Or.inr ⟨?_, i0, n, day, B, e, he, b6, al_sn_on c2 (o2 _ _ (by omega) (by omega)) (o2 _ _ (by omega) (by omega)) (fun q k x y => o2 _ _ (by omega) (by omega)), ?_, ⟨?_, ?_, fun b hb => ?_⟩, ?_, ?_, ⟨s, S, S1, ⟨?_, fun r hr j hj => ?_⟩, ?_, fun r hr => ⟨?_, ?_, ?_, ?_⟩, S6⟩, ⟨l, X, L1, ⟨?_, fun r hr j hj => ?_⟩, ?_, fun r hr => ⟨?_, ?_, ?_⟩, L6⟩, w, Y, K1, ⟨?_, fun r hr j hj => ?_⟩, ?_, fun r hr => ⟨?_, ?_⟩, K6⟩)⟩, fun j => o1 _ _ (by omega)⟩
  · apply eq_X6_image (d := d + 19)
    simp only [av_kP]
    rw [c1, av_bv_s, av_bt_1, hN1, o1 _ _ (by omega), b1.2.1]
  · rw [r1, o1 _ _ (by omega), m1]
  · rw [(f2 _ _ (by omega)).1, ← hN1]
    exact av_w_s _ _ _ _
  · rw [o2 _ _ (by omega) (by omega), c3, b2]
  · rw [i2, o1 _ _ (by omega), m1]
  · rw [i3, o1 _ _ (by omega), m2]
  · obtain ⟨x1, x2, x3, x4, x5, x6, x7, x8⟩ := m3 b hb
    have rd : ∀ q, q < 7 → N2.1 (177 + q) b = N.1 (143 + q) b := fun q hq => (g1 q hq b (by omega)).trans (o1 _ _ (by omega))
    refine ⟨(rd 0 (by omega)).trans x1, (rd 1 (by omega)).trans x2, (rd 2 (by omega)).trans x3, (rd 3 (by omega)).trans x4, (rd 4 (by omega)).trans x5, (rd 5 (by omega)).trans x6, (rd 6 (by omega)).trans x7, fun j hj => ?_⟩
    exact ((g2 0 (by omega) (4 * b + j) (by omega)).trans (o1 _ _ (by omega))).trans (x8 j hj)
  · rw [i4, o1 _ _ (by omega), b4]
  · rw [i1, o1 _ _ (by omega), b5]
  · rw [o2 _ _ (by omega) (by omega), c4]
  · rw [o2 _ _ (by omega) (by omega), c5 r hr j hj, S3 r hr j hj]
  · rw [i5, o1 _ _ (by omega), S4]
  · exact ((g3 0 (by omega) r (by omega)).trans (o1 _ _ (by omega))).trans (S5 r hr).1
  · exact ((g3 1 (by omega) r (by omega)).trans (o1 _ _ (by omega))).trans (S5 r hr).2.1
  · exact ((g3 2 (by omega) r (by omega)).trans (o1 _ _ (by omega))).trans (S5 r hr).2.2.1
  · rw [g4 r (by omega), o1 _ _ (by omega), (S5 r hr).2.2.2, nar_1 (S6 r hr).2.2.1]
  · rw [o2 _ _ (by omega) (by omega), c6]
  · rw [o2 _ _ (by omega) (by omega), c7 r hr j (by omega), L3 r hr j hj]
  · rw [i6, o1 _ _ (by omega), L4]
  · exact ((g5 0 (by omega) r (by omega)).trans (o1 _ _ (by omega))).trans (L5 r hr).1
  · exact ((g5 1 (by omega) r (by omega)).trans (o1 _ _ (by omega))).trans (L5 r hr).2.1
  · exact ((g5 2 (by omega) r (by omega)).trans (o1 _ _ (by omega))).trans (L5 r hr).2.2
  · rw [o2 _ _ (by omega) (by omega), c8]
  · rw [o2 _ _ (by omega) (by omega), c9 r hr j (by omega), K3 r hr j hj]
  · rw [i7, o1 _ _ (by omega), K4]
  · exact ((g6 0 (by omega) r (by omega)).trans (o1 _ _ (by omega))).trans (K5 r hr).1
  · exact ((g6 1 (by omega) r (by omega)).trans (o1 _ _ (by omega))).trans (K5 r hr).2
theorem cl_undo (L : av_W) (d : Nat) {N : av_N} (hR : RR N) : al_call L (d + 20) N 78 [.ref 9] 198 [.ref 142] := by
  have hR' := hR
  obtain ⟨n0, day0, B0, e0, k, T, h⟩ := hR
  obtain ⟨hB, hE, he0, hI, hF, hS, hL, hK, hT, hX, hO⟩ := h
  rcases hI with ⟨h1, h2⟩ | hI
  · refine call_no hR' (.int (av_k (-3))) ?_ ?_
    · apply eq_X6_undo (d := d + 19)
      simp only [av_kP]
      rw [h1, if_pos rfl]
    · apply eq_X7_undo
      simp only [av_kP]
      rw [h2, if_pos rfl]
  have hI' : gI N k := Or.inr hI
  obtain ⟨h1, h2, n, day, B, e, he, b6, b1, b2, ⟨m1, m2, m3⟩, b4, b5, ⟨s, S, S1, ⟨S2, S3⟩, S4, S5, S6⟩, ⟨l, X, L1, ⟨L2, L3⟩, L4, L5, L6⟩, ⟨w, Y, K1, ⟨K2, K3⟩, K4, K5, K6⟩⟩ := hI
  have hn := b1.1
  obtain ⟨N1, c1, c2, c3, ⟨c4, c5⟩, ⟨c6, c7⟩, ⟨c8, c9⟩, c10⟩ := sp_scene_10_41 L (d + 11) b1 S2 L2 K2 S1 L1 K1
  have o1 : ∀ q k, ¬ (10 ≤ q ∧ q ≤ 40) → N1.1 q k = N.1 q k := fun q k z => (c10 q z k).1
  obtain ⟨N2, r1, ⟨i1, i2, i3, i4, i5, i6, i7⟩, g1, g2, g3, g4, g5, g6, f2⟩ := sp_undoM L (d + 20) N1 (by rw [o1 _ _ (by omega), h2]; decide)
  have o2 : ∀ q k, 10 ≤ q → q ≤ 40 → N2.1 q k = N1.1 q k := fun q k x y => (f2 q k (by omega)).1
  have f3 : al_f2 (fun q k => (10 ≤ q ∧ q ≤ 40) ∨ (q = 142 ∧ (k ≤ 2 ∨ k = 12 ∨ k = 36 ∨ k = 41 ∨ k = 42)) ∨ (143 ≤ q ∧ q ≤ 150) ∨ (166 ≤ q ∧ q ≤ 174)) N N2 := al_f2_tr (al_f2_of c10 (fun q k z => by omega)) (al_f2_mono f2 (fun q k z => by omega))
  refine ⟨.int (nI n), N1, N2, ?_, ?_, ⟨n, day, B, e, k, T, ⟨al_sn_on c2 (o2 _ _ (by omega) (by omega)) (o2 _ _ (by omega) (by omega)) (fun q k x y => o2 _ _ (by omega) (by omega)), ?_, ⟨?_, ?_, fun b hb => ?_⟩, ?_, ?_, b6⟩, gE_on hE (eqOn_of f3 (fun q k z => by unfold uE at z; omega)), he, gI_on hI' (eqOn_of f3 (fun q k z => by unfold uI at z; omega)), gF_on hF (eqOn_of f3 (fun q k z => by unfold uF at z; omega)), ⟨s, S, S1, ⟨?_, fun r hr j hj => ?_⟩, ?_, fun r hr => ⟨?_, ?_, ?_, ?_⟩, S6⟩, ⟨l, X, L1, ⟨?_, fun r hr j hj => ?_⟩, ?_, fun r hr => ⟨?_, ?_, ?_⟩, L6⟩, ⟨w, Y, K1, ⟨?_, fun r hr j hj => ?_⟩, ?_, fun r hr => ⟨?_, ?_⟩, K6⟩, gTx_on hT (eqOn_of f3 (fun q k z => by unfold uT at z; omega)), gX_on hX (eqOn_of f3 (fun q k z => by unfold uX at z; omega)), gO_on hO (eqOn_of f3 (fun q k z => by unfold uO at z; omega))⟩, fun j => o1 _ _ (by omega)⟩
  · apply eq_X6_undo (d := d + 19)
    simp only [av_kP]
    rw [h1, if_neg (by decide), c1, av_bv_s, c2.2.1]
  · rw [r1, o1 _ _ (by omega), m1]
  · rw [o2 _ _ (by omega) (by omega), c3, b2]
  · rw [i2, o1 _ _ (by omega), m1]
  · rw [i3, o1 _ _ (by omega), m2]
  · obtain ⟨x1, x2, x3, x4, x5, x6, x7, x8⟩ := m3 b hb
    have rd : ∀ q, q < 7 → N2.1 (143 + q) b = N.1 (177 + q) b := fun q hq => (g1 q hq b (by omega)).trans (o1 _ _ (by omega))
    refine ⟨(rd 0 (by omega)).trans x1, (rd 1 (by omega)).trans x2, (rd 2 (by omega)).trans x3, (rd 3 (by omega)).trans x4, (rd 4 (by omega)).trans x5, (rd 5 (by omega)).trans x6, (rd 6 (by omega)).trans x7, fun j hj => ?_⟩
    exact ((g2 0 (by omega) (4 * b + j) (by omega)).trans (o1 _ _ (by omega))).trans (x8 j hj)
  · rw [i4, o1 _ _ (by omega), b4]
  · rw [i1, o1 _ _ (by omega), b5]
  · rw [o2 _ _ (by omega) (by omega), c4]
  · rw [o2 _ _ (by omega) (by omega), c5 r hr j hj, S3 r hr j hj]
  · rw [i5, o1 _ _ (by omega), S4]
  · exact ((g3 0 (by omega) r (by omega)).trans (o1 _ _ (by omega))).trans (S5 r hr).1
  · exact ((g3 1 (by omega) r (by omega)).trans (o1 _ _ (by omega))).trans (S5 r hr).2.1
  · exact ((g3 2 (by omega) r (by omega)).trans (o1 _ _ (by omega))).trans (S5 r hr).2.2.1
  · rw [g4 r (by omega), o1 _ _ (by omega), (S5 r hr).2.2.2, nar_1 (S6 r hr).2.2.1]
  · rw [o2 _ _ (by omega) (by omega), c6]
  · rw [o2 _ _ (by omega) (by omega), c7 r hr j (by omega), L3 r hr j hj]
  · rw [i6, o1 _ _ (by omega), L4]
  · exact ((g5 0 (by omega) r (by omega)).trans (o1 _ _ (by omega))).trans (L5 r hr).1
  · exact ((g5 1 (by omega) r (by omega)).trans (o1 _ _ (by omega))).trans (L5 r hr).2.1
  · exact ((g5 2 (by omega) r (by omega)).trans (o1 _ _ (by omega))).trans (L5 r hr).2.2
  · rw [o2 _ _ (by omega) (by omega), c8]
  · rw [o2 _ _ (by omega) (by omega), c9 r hr j (by omega), K3 r hr j hj]
  · rw [i7, o1 _ _ (by omega), K4]
  · exact ((g6 0 (by omega) r (by omega)).trans (o1 _ _ (by omega))).trans (K5 r hr).1
  · exact ((g6 1 (by omega) r (by omega)).trans (o1 _ _ (by omega))).trans (K5 r hr).2
