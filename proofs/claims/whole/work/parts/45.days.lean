/-! worst; days asked -/
def okW (T : List Value) : Prop := T = [am_junk, am_junk] ∨ (∃ x, T = [.int x, am_junk]) ∨ ∃ x y, T = [.int x, .int y]
theorem ca_worst (L : av_W) (d : Nat) {N : av_N} {n day : Nat} {B : Nat → Nat → Nat} {cs : List (Nat × Nat × List Nat)} (hc : al_cv N n day B cs) (hm : al_mv N n day B cs) : al_ask L (d + 20) N n day B cs 58 [.ref 9] 167 [.ref 142] := by
  obtain ⟨hs, e, he⟩ := hc
  have hn := hs.1
  have hm1 := hm.2.1.1
  have inner : ∀ a, a < n → (∀ (f m : Int32) T T', okW T → okW T' → ∃ z, av_V (av_S0 L) (d + 20) ta_X6_worst 6 (.ref 9 :: .int f :: .int m :: .int (nI (a + 1)) :: T) [] N = some (some (.int z), N) ∧ av_V (av_S0 L) (d + 20) ta_X7_worst 6 (.ref 142 :: .int f :: .int m :: .int (nI (a + 1)) :: T') [] N = some (some (.int z), N)) → ∀ b, a < b → b ≤ n → ∀ (f m : Int32) v v', okv v → okv v' → ∃ z, av_V (av_S0 L) (d + 20) ta_X6_worst 15 [.ref 9, .int f, .int m, .int (nI a), .int (nI b), v] [] N = some (some (.int z), N) ∧ av_V (av_S0 L) (d + 20) ta_X7_worst 14 [.ref 142, .int f, .int m, .int (nI a), .int (nI b), v'] [] N = some (some (.int z), N) := by
    intro a ha hout b hab hbn
    refine lp_k (P := fun b => ∀ (f m : Int32) v v', okv v → okv v' → ∃ z, av_V (av_S0 L) (d + 20) ta_X6_worst 15 [.ref 9, .int f, .int m, .int (nI a), .int (nI b), v] [] N = some (some (.int z), N) ∧ av_V (av_S0 L) (d + 20) ta_X7_worst 14 [.ref 142, .int f, .int m, .int (nI a), .int (nI b), v'] [] N = some (some (.int z), N)) hbn ?_ ?_
    · intro f m v v' hv hv'
      obtain ⟨z, c1, c2⟩ := hout f m [.int (nI n), v] [.int (nI n), v'] (by rcases hv with rfl | ⟨x, rfl⟩; exact Or.inr (Or.inl ⟨_, rfl⟩); exact Or.inr (Or.inr ⟨_, _, rfl⟩)) (by rcases hv' with rfl | ⟨x, rfl⟩; exact Or.inr (Or.inl ⟨_, rfl⟩); exact Or.inr (Or.inr ⟨_, _, rfl⟩))
      refine ⟨z, ?_, ?_⟩
      · rcases hv with rfl | ⟨x, rfl⟩
        · apply eq_X6_worst_15_a (d := d + 19)
          rw [hs.2.1, if_neg (nI_nlt (Nat.le_refl _) (by omega)), av_kP, nI_add]
          exact c1
        · apply eq_X6_worst_15_b (d := d + 19)
          rw [hs.2.1, if_neg (nI_nlt (Nat.le_refl _) (by omega)), av_kP, nI_add]
          exact c1
      · rcases hv' with rfl | ⟨x, rfl⟩
        · apply eq_X7_worst_14_a (d := d + 19)
          rw [hm1, if_neg (nI_nlt (Nat.le_refl _) (by omega)), av_kP, nI_add]
          exact c2
        · apply eq_X7_worst_14_b (d := d + 19)
          rw [hm1, if_neg (nI_nlt (Nat.le_refl _) (by omega)), av_kP, nI_add]
          exact c2
    · intro j hj1 hj ih f m v v' hv hv'
      obtain ⟨z, c1, c2⟩ := ih (if m < nI (sClash (B a) (B j) (sTop cs) day) then nI 10 * nI a + nI j else f) (if m < nI (sClash (B a) (B j) (sTop cs) day) then nI (sClash (B a) (B j) (sTop cs) day) else m) (.int (nI (sClash (B a) (B j) (sTop cs) day))) (.int (nI (sClash (B a) (B j) (sTop cs) day))) (Or.inr ⟨_, rfl⟩) (Or.inr ⟨_, rfl⟩)
      refine ⟨z, ?_, ?_⟩
      · have body : ∀ A, A = (if m < nI (sClash (B a) (B j) (sTop cs) day) then av_V (av_S0 L) (d + 20) ta_X6_worst 15 [.ref 9, .int (nI 10 * nI a + nI j), .int (nI (sClash (B a) (B j) (sTop cs) day)), .int (nI a), .int (nI (j + 1)), .int (nI (sClash (B a) (B j) (sTop cs) day))] [] N else av_V (av_S0 L) (d + 20) ta_X6_worst 15 [.ref 9, .int f, .int m, .int (nI a), .int (nI (j + 1)), .int (nI (sClash (B a) (B j) (sTop cs) day))] [] N) → A = some (some (.int z), N) := by
          intro A hA
          rw [hA, ← c1]
          by_cases h : m < nI (sClash (B a) (B j) (sTop cs) day)
          · rw [if_pos h, if_pos h, if_pos h]
          · rw [if_neg h, if_neg h, if_neg h]
        rcases hv with rfl | ⟨x, rfl⟩
        · apply eq_X6_worst_15_a (d := d + 19)
          rw [hs.2.1, if_pos (nI_lt hj (by omega)), av_gx_s (by omega) (by omega), nI_clamp (by omega), al_R11 a (by omega), av_bd_s, av_gx_s (by omega) (by omega), nI_clamp (by omega), al_R11 j (by omega), av_bd_s, sp_clashOf L _ hs he ha hj, av_bi_s]
          simp only [av_kP, nI_add j 1]
          exact body _ rfl
        · apply eq_X6_worst_15_b (d := d + 19)
          rw [hs.2.1, if_pos (nI_lt hj (by omega)), av_gx_s (by omega) (by omega), nI_clamp (by omega), al_R11 a (by omega), av_bd_s, av_gx_s (by omega) (by omega), nI_clamp (by omega), al_R11 j (by omega), av_bd_s, sp_clashOf L _ hs he ha hj, av_bi_s]
          simp only [av_kP, nI_add j 1]
          exact body _ rfl
      · have body : ∀ A, A = (if m < nI (sClash (B a) (B j) (sTop cs) day) then av_V (av_S0 L) (d + 20) ta_X7_worst 14 [.ref 142, .int (nI 10 * nI a + nI j), .int (nI (sClash (B a) (B j) (sTop cs) day)), .int (nI a), .int (nI (j + 1)), .int (nI (sClash (B a) (B j) (sTop cs) day))] [] N else av_V (av_S0 L) (d + 20) ta_X7_worst 14 [.ref 142, .int f, .int m, .int (nI a), .int (nI (j + 1)), .int (nI (sClash (B a) (B j) (sTop cs) day))] [] N) → A = some (some (.int z), N) := by
          intro A hA
          rw [hA, ← c2]
          by_cases h : m < nI (sClash (B a) (B j) (sTop cs) day)
          · rw [if_pos h, if_pos h, if_pos h]
          · rw [if_neg h, if_neg h, if_neg h]
        rcases hv' with rfl | ⟨x, rfl⟩
        · apply eq_X7_worst_14_a (d := d + 19)
          rw [hm1, if_pos (nI_lt hj (by omega)), sp_clashOfM L _ hm ha hj, av_bi_s]
          simp only [av_kP, nI_add j 1]
          exact body _ rfl
        · apply eq_X7_worst_14_b (d := d + 19)
          rw [hm1, if_pos (nI_lt hj (by omega)), sp_clashOfM L _ hm ha hj, av_bi_s]
          simp only [av_kP, nI_add j 1]
          exact body _ rfl
  have outer := lp_0 (P := fun a => ∀ (f m : Int32) T T', okW T → okW T' → ∃ z, av_V (av_S0 L) (d + 20) ta_X6_worst 6 (.ref 9 :: .int f :: .int m :: .int (nI a) :: T) [] N = some (some (.int z), N) ∧ av_V (av_S0 L) (d + 20) ta_X7_worst 6 (.ref 142 :: .int f :: .int m :: .int (nI a) :: T') [] N = some (some (.int z), N)) n (fun f m T T' hT hT' => by
    refine ⟨f, ?_, ?_⟩
    · rcases hT with rfl | ⟨x, rfl⟩ | ⟨x, y, rfl⟩
      · apply eq_X6_worst_6 (d := d + 19)
        rw [hs.2.1, if_neg (nI_nlt (Nat.le_refl _) (by omega))]
      · apply eq_X6_worst_6_b (d := d + 19)
        rw [hs.2.1, if_neg (nI_nlt (Nat.le_refl _) (by omega))]
      · apply eq_X6_worst_6_c (d := d + 19)
        rw [hs.2.1, if_neg (nI_nlt (Nat.le_refl _) (by omega))]
    · rcases hT' with rfl | ⟨x, rfl⟩ | ⟨x, y, rfl⟩
      · apply eq_X7_worst_6 (d := d + 19)
        rw [hm1, if_neg (nI_nlt (Nat.le_refl _) (by omega))]
      · apply eq_X7_worst_6_b (d := d + 19)
        rw [hm1, if_neg (nI_nlt (Nat.le_refl _) (by omega))]
      · apply eq_X7_worst_6_c (d := d + 19)
        rw [hm1, if_neg (nI_nlt (Nat.le_refl _) (by omega))]) (fun a ha ih f m T T' hT hT' => by
    have go := inner a ha ih (a + 1) (Nat.lt_succ_self a) ha f m
    have hv1 : ∃ v, okv v ∧ ∀ z, av_V (av_S0 L) (d + 20) ta_X6_worst 15 [.ref 9, .int f, .int m, .int (nI a), .int (nI (a + 1)), v] [] N = some (some (.int z), N) → av_V (av_S0 L) (d + 20) ta_X6_worst 6 (.ref 9 :: .int f :: .int m :: .int (nI a) :: T) [] N = some (some (.int z), N) := by
      rcases hT with rfl | ⟨x, rfl⟩ | ⟨x, y, rfl⟩
      · refine ⟨am_junk, Or.inl rfl, fun z hz => ?_⟩
        apply eq_X6_worst_6 (d := d + 19)
        rw [hs.2.1, if_pos (nI_lt ha (by omega)), av_kP, nI_add]
        exact hz
      · refine ⟨am_junk, Or.inl rfl, fun z hz => ?_⟩
        apply eq_X6_worst_6_b (d := d + 19)
        rw [hs.2.1, if_pos (nI_lt ha (by omega)), av_kP, nI_add]
        exact hz
      · refine ⟨.int y, Or.inr ⟨_, rfl⟩, fun z hz => ?_⟩
        apply eq_X6_worst_6_c (d := d + 19)
        rw [hs.2.1, if_pos (nI_lt ha (by omega)), av_kP, nI_add]
        exact hz
    have hv2 : ∃ v, okv v ∧ ∀ z, av_V (av_S0 L) (d + 20) ta_X7_worst 14 [.ref 142, .int f, .int m, .int (nI a), .int (nI (a + 1)), v] [] N = some (some (.int z), N) → av_V (av_S0 L) (d + 20) ta_X7_worst 6 (.ref 142 :: .int f :: .int m :: .int (nI a) :: T') [] N = some (some (.int z), N) := by
      rcases hT' with rfl | ⟨x, rfl⟩ | ⟨x, y, rfl⟩
      · refine ⟨am_junk, Or.inl rfl, fun z hz => ?_⟩
        apply eq_X7_worst_6 (d := d + 19)
        rw [hm1, if_pos (nI_lt ha (by omega)), av_kP, nI_add]
        exact hz
      · refine ⟨am_junk, Or.inl rfl, fun z hz => ?_⟩
        apply eq_X7_worst_6_b (d := d + 19)
        rw [hm1, if_pos (nI_lt ha (by omega)), av_kP, nI_add]
        exact hz
      · refine ⟨.int y, Or.inr ⟨_, rfl⟩, fun z hz => ?_⟩
        apply eq_X7_worst_6_c (d := d + 19)
        rw [hm1, if_pos (nI_lt ha (by omega)), av_kP, nI_add]
        exact hz
    obtain ⟨v, o1, k1⟩ := hv1
    obtain ⟨v', o2, k2⟩ := hv2
    obtain ⟨z, c1, c2⟩ := go v v' o1 o2
    exact ⟨z, k1 z c1, k2 z c2⟩)
  obtain ⟨z, c1, c2⟩ := outer (av_k (-5)) (nI 0) [am_junk, am_junk] [am_junk, am_junk] (Or.inl rfl) (Or.inl rfl)
  refine ask_eq hm (.int z) ?_ ?_
  · apply eq_X6_worst (d := d + 19)
    simp only [av_kP]
    exact c1
  · apply eq_X7_worst (d := d + 19)
    simp only [av_kP]
    exact c2
abbrev al_dH (q : Nat) : Prop := q = 108 ∨ q = 109
theorem al_dHC {N N1 : av_N} (h : al_fr al_dH N N1) : al_fr al_dC N N1 := al_fr_mono h (fun q z => by unfold al_dC; unfold al_dH at z; omega)
theorem al_cv_H {N N1 : av_N} {n day : Nat} {B : Nat → Nat → Nat} (hs : al_sn N 10 27 n day B) (h : al_fr al_dH N N1) : al_sn N1 10 27 n day B := al_sn_fr hs h (by unfold al_dH; omega) (fun q a b => by unfold al_dH; omega)
theorem al_ce_H {N N1 : av_N} {e : Nat} {cs : List (Nat × Nat × List Nat)} (he : al_ce N e cs) (h : al_fr al_dH N N1) : al_ce N1 e cs := al_ce_fr he h (by unfold al_dH; omega) (fun q a b => by unfold al_dH; omega)
theorem al_b108 : al_bp 108 := Or.inl rfl
theorem sp_ghost (L : av_W) (d : Nat) {M : av_N} {b : Nat} {X : Nat → Nat} (hb : b < 7) (h : al_bd M (27 + 2 * b) X) (ok : al_ok X) : ∃ N1, av_C (av_S0 L) (d + 7) 2 [.ref 108, .ref (27 + 2 * b)] M = some (none, N1) ∧ al_bd N1 108 X ∧ al_fr al_dH M N1 := ⟨_, sp_become L d al_b108 (al_bp27 hb) (by omega) h ok, bw_bd al_b108 (al_bp27 hb) (by omega) h, bw_fr M 108 (27 + 2 * b)⟩
theorem al_dG_q {N N' : av_N} (h : al_f2 al_dG N N') : al_f2 al_qM N N' := al_f2_mono h (fun q k z => by unfold al_dG at z; unfold al_qM; omega)
theorem al_dS_q {N N' : av_N} (h : al_f2 (fun q k => q = 162 ∨ (q = 142 ∧ (k = 30 ∨ k = 31))) N N') : al_f2 al_qM N N' := al_f2_mono h (fun q k z => by unfold al_qM; omega)
theorem al_dP_q {N N' : av_N} (h : al_f2 (fun q k => q = 149 ∨ (q = 142 ∧ (k = 1 ∨ k = 2))) N N') : al_f2 al_qM N N' := al_f2_mono h (fun q k z => by unfold al_qM; omega)
theorem al_kp_fr {N N' : av_N} {n day : Nat} {B : Nat → Nat → Nat} (h : al_kp N n day B) {D : Nat → Nat → Prop} (hf : al_f2 D N N') (h1 : ¬ D 142 30) (h2 : ¬ D 142 31) (h3 : ∀ k, ¬ D 162 k) : al_kp N' n day B := ⟨(al_f2_e hf h1).trans h.1, (al_f2_e hf h2).trans h.2.1, fun b hb => (al_f2_e hf (h3 b)).trans (h.2.2 b hb)⟩
theorem al_mv_S {N N' : av_N} {n day : Nat} {B : Nat → Nat → Nat} {cs : List (Nat × Nat × List Nat)} (h : al_mv N n day B cs) (hf : al_f2 (fun q k => q = 162 ∨ (q = 142 ∧ (k = 30 ∨ k = 31))) N N') : al_mv N' n day B cs := by
  obtain ⟨hn, ⟨a1, a2, a3⟩, hg, ⟨b0, hme⟩, hok, hd⟩ := h
  refine ⟨hn, ⟨(al_f2_e hf (by omega)).trans a1, (al_f2_e hf (by omega)).trans a2, fun c hc => ?_⟩, (al_f2_e hf (by omega)).trans hg, ⟨b0, al_me_fr hme (al_f2_e hf (by omega)) (fun q k h1 h2 => al_f2_e hf (by omega))⟩, hok, hd⟩
  obtain ⟨m1, m2, m3, m4, m5, m6, m7, m8⟩ := a3 c hc
  exact ⟨(al_f2_e hf (by omega)).trans m1, (al_f2_e hf (by omega)).trans m2, (al_f2_e hf (by omega)).trans m3, (al_f2_e hf (by omega)).trans m4, (al_f2_e hf (by omega)).trans m5, (al_f2_e hf (by omega)).trans m6, (al_f2_e hf (by omega)).trans m7, fun j hj => (al_f2_e hf (by omega)).trans (m8 j hj)⟩
theorem sLive_of (B : Nat → Nat) (cs : List (Nat × Nat × List Nat)) (g t day : Nat) : ∀ m f, f ≠ 8 → f ≠ 9 → sLive B cs g t day m f = B f
  | 0, _, _, _ => rfl
  | m + 1, f, h8, h9 => by
    show sDay (sLive B cs g t day m) cs g t (day + m) f = B f
    unfold sDay
    by_cases h : sLive B cs g t day m 9 = 0
    · rw [if_pos h, if_neg h8, if_neg h9]
      exact sLive_of B cs g t day m f h8 h9
    · rw [if_neg h]
      exact sLive_of B cs g t day m f h8 h9
/-- the reference asks how things are behind some days, and puts all back -/
theorem sp_away (L : av_W) (d : Nat) {N : av_N} {n day m : Nat} {B : Nat → Nat → Nat} {cs : List (Nat × Nat × List Nat)} (hm : al_mv N n day B cs) (hd : day + m < 2 ^ 19) : ∃ N1 N2, av_C (av_S0 L) (d + 7) 171 [.ref 142] N = some (none, N1) ∧ av_C (av_S0 L) (d + 7) 169 [.ref 142, .int (nI m)] N1 = some (none, N2) ∧ al_mv N2 n (day + m) (sGoN B cs day m) cs ∧ al_f2 al_qM N N2 ∧ ∀ M, al_fr (fun q => q = 160) N2 M → ∃ N3, av_C (av_S0 L) (d + 7) 172 [.ref 142] M = some (none, N3) ∧ al_mv N3 n day B cs ∧ al_f2 al_qM N N3 := by
  obtain ⟨N1, c1, k1, f1⟩ := sp_save L (d + 7) hm
  have hm1 := al_mv_S hm f1
  obtain ⟨N2, c2, hm2, f2⟩ := sp_goDays L d hm1 hd
  have k2 := al_kp_fr k1 f2 (by unfold al_dG; omega) (by unfold al_dG; omega) (fun k => by unfold al_dG; omega)
  refine ⟨N1, N2, c1, c2, hm2, al_f2_tr (al_dS_q f1) (al_dG_q f2), fun M hM => ?_⟩
  have hm3 := al_mv_160 hm2 hM
  have f3 : al_f2 (fun q k => q = 160) N2 M := al_f2_of hM (fun q k h => h)
  have k3 := al_kp_fr k2 f3 (by omega) (by omega) (fun k => by omega)
  obtain ⟨N3, c3, hm4, f4⟩ := sp_putBack L (d + 7) hm3 hm.2.2.2.2.2 k3 (fun b hb f h8 h9 => sLive_of _ _ _ _ _ _ _ h8 h9) (fun b hb => (hm.2.2.2.2.1 b hb).1)
  exact ⟨N3, c3, hm4, al_f2_tr (al_dS_q f1) (al_f2_tr (al_dG_q f2) (al_f2_tr (al_q160 hM) (al_dP_q f4)))⟩
