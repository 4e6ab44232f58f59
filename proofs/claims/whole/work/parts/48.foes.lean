/-! who clashes with whom; sets of birds at peace; the fewest to evict -/
def sFoe (B : Nat → Nat → Nat) (n top day a : Nat) : Nat := sBits (fun b => !(b == a) && decide (0 < sClash (B a) (B b) top day)) n
def sPeace (foe : Nat → Nat) (n X : Nat) : Bool := !anyN (fun b => X.testBit b && !(X &&& foe b == 0)) n
theorem sClash_le (A C : Nat → Nat) (day : Nat) {top : Nat} (ht : top ≤ 10) : sClash A C top day ≤ 240 := sum2_le (fun t h => by split <;> omega) ht
theorem sFoe_lt (B : Nat → Nat → Nat) (top day a : Nat) {n : Nat} (hn : n ≤ 7) : sFoe B n top day a < 2 ^ 31 := sBits_31 _ (by omega)
theorem sp_findFoes (L : av_W) (d : Nat) {N : av_N} {n day e : Nat} {B : Nat → Nat → Nat} {cs : List (Nat × Nat × List Nat)} (hs : al_sn N 10 27 n day B) (he : al_ce N e cs) : ∃ N', av_C (av_S0 L) (d + 4) 98 [.ref 9] N = some (none, N') ∧ (∀ a, a < n → N'.1 112 a = nI (sFoe B n (sTop cs) day a)) ∧ al_fr (fun q => q = 112) N N' := by
  have hn := hs.1
  have ht := sTop_le cs
  have fs : ∀ M, al_fr (fun q => q = 112) N M → al_sn M 10 27 n day B ∧ al_ce M e cs := fun M hM => ⟨al_sn_fr hs hM (by omega) (fun q a b => by omega), al_ce_fr he hM (by omega) (fun q a b => by omega)⟩
  have inner : ∀ a, a < n → ∀ M, al_fr (fun q => q = 112) N M → ∀ q', (∃ x y, av_V (av_S0 L) (d + 4) ta_X6_findFoes 2 [.ref 9, .int (nI (a + 1)), .int x, .int y] [] (av_w M 112 a (nI (sFoe B n (sTop cs) day a))) = some q' ∧ x = nI (sFoe B n (sTop cs) day a) ∧ y = nI n) → av_V (av_S0 L) (d + 4) ta_X6_findFoes 11 [.ref 9, .int (nI a), .int (nI 0), .int (nI 0)] [] M = some q' := by
    intro a ha M hM q' hq
    obtain ⟨x, y, hq, rfl, rfl⟩ := hq
    obtain ⟨hsM, heM⟩ := fs M hM
    refine lp_0 (P := fun k => av_V (av_S0 L) (d + 4) ta_X6_findFoes 11 [.ref 9, .int (nI a), .int (nI (sBits (fun b => !(b == a) && decide (0 < sClash (B a) (B b) (sTop cs) day)) k)), .int (nI k)] [] M = some q') n ?_ ?_
    · apply eq_X6_findFoes_11 (d := d + 3)
      rw [hsM.2.1, if_neg (nI_nlt (Nat.le_refl _) (by omega)), av_gx_s (by omega) (by omega), nI_clamp (by omega), av_kP, nI_add]
      exact hq
    · intro k hk ih
      have e2 : sBits (fun b => !(b == a) && decide (0 < sClash (B a) (B b) (sTop cs) day)) (k + 1) = sBits (fun b => !(b == a) && decide (0 < sClash (B a) (B b) (sTop cs) day)) k ||| (if (!(k == a) && decide (0 < sClash (B a) (B k) (sTop cs) day)) then 2 ^ k else 0) := rfl
      rw [e2] at ih
      apply eq_X6_findFoes_11 (d := d + 3)
      rw [hsM.2.1, if_pos (nI_lt hk (by omega))]
      by_cases hka : k = a
      · rw [if_pos (congrArg nI hka), av_kP, nI_add]
        rw [if_neg (by rw [hka]; simp), Nat.or_zero] at ih
        exact ih
      · have hle := sClash_le (B a) (B k) day ht.2
        rw [if_neg (nI_ne (by omega) (by omega) hka), av_gx_s (by omega) (by omega), nI_clamp (by omega), al_R11 a (by omega), av_bd_s, av_gx_s (by omega) (by omega), nI_clamp (by omega), al_R11 k (by omega), av_bd_s, sp_clashOf L _ hsM heM ha hk, av_bi_s]
        simp (disch := omega) only [av_kP, nI_ltI, nI_add, av_shl, av_or, Nat.one_mul]
        by_cases hc : 0 < sClash (B a) (B k) (sTop cs) day
        · rw [if_pos hc]
          rw [if_pos (by simpa using ⟨hka, hc⟩)] at ih
          exact ih
        · rw [if_neg hc]
          rw [if_neg (by rw [decide_eq_false hc]; simp), Nat.or_zero] at ih
          exact ih
  have outer := lp_0 (P := fun k => ∀ M T, al_fr (fun q => q = 112) N M → (∀ a, a < k → M.1 112 a = nI (sFoe B n (sTop cs) day a)) → (T = [am_junk, am_junk] ∨ ∃ x y, T = [.int x, .int y]) → ∃ N', av_V (av_S0 L) (d + 4) ta_X6_findFoes 2 (.ref 9 :: .int (nI k) :: T) [] M = some (none, N') ∧ (∀ a, a < n → N'.1 112 a = nI (sFoe B n (sTop cs) day a)) ∧ al_fr (fun q => q = 112) N N') n (fun M T hM hf hT => by
    refine ⟨M, ?_, hf, hM⟩
    rcases hT with rfl | ⟨x, y, rfl⟩
    · apply eq_X6_findFoes_2 (d := d + 3)
      rw [(fs M hM).1.2.1, if_neg (nI_nlt (Nat.le_refl _) (by omega))]
    · apply eq_X6_findFoes_2_b (d := d + 3)
      rw [(fs M hM).1.2.1, if_neg (nI_nlt (Nat.le_refl _) (by omega))]) (fun k hk ih M T hM hf hT => by
    obtain ⟨N', c1, c2, c3⟩ := ih (av_w M 112 k (nI (sFoe B n (sTop cs) day k))) [.int (nI (sFoe B n (sTop cs) day k)), .int (nI n)] (al_fr_tr hM (al_fr_w1 M _ _ _)) (fun a ha => by
      by_cases e : a = k
      · subst e
        exact av_w_s _ _ _ _
      · rw [av_w_k _ _ _ _ e]
        exact hf a (by omega)) (Or.inr ⟨_, _, rfl⟩)
    have hi := inner k hk M hM _ ⟨_, _, c1, rfl, rfl⟩
    refine ⟨N', ?_, c2, c3⟩
    rcases hT with rfl | ⟨x, y, rfl⟩
    · apply eq_X6_findFoes_2 (d := d + 3)
      rw [(fs M hM).1.2.1, if_pos (nI_lt hk (by omega)), av_kP]
      exact hi
    · apply eq_X6_findFoes_2_b (d := d + 3)
      rw [(fs M hM).1.2.1, if_pos (nI_lt hk (by omega)), av_kP]
      exact hi)
  obtain ⟨N', c1, c2, c3⟩ := outer N [am_junk, am_junk] (al_fr_rf _ _) (fun a h => absurd h (Nat.not_lt_zero _)) (Or.inl rfl)
  refine ⟨N', ?_, c2, c3⟩
  apply eq_X6_findFoes (d := d + 3)
  rw [av_kP]
  exact c1
theorem sp_findRents (L : av_W) (d : Nat) {N : av_N} {n day e : Nat} {B : Nat → Nat → Nat} {cs : List (Nat × Nat × List Nat)} (hs : al_sn N 10 27 n day B) (he : al_ce N e cs) : ∃ N', av_C (av_S0 L) (d + 4) 99 [.ref 9] N = some (none, N') ∧ (∀ a, a < n → N'.1 113 a = nI (sRent (B a) cs (sTop cs) day)) ∧ al_fr (fun q => q = 113) N N' := by
  have hn := hs.1
  have hd := hs.2.2.2.2
  have fs : ∀ M, al_fr (fun q => q = 113) N M → al_sn M 10 27 n day B ∧ al_ce M e cs := fun M hM => ⟨al_sn_fr hs hM (by omega) (fun q a b => by omega), al_ce_fr he hM (by omega) (fun q a b => by omega)⟩
  have outer := lp_0 (P := fun k => ∀ M, al_fr (fun q => q = 113) N M → (∀ a, a < k → M.1 113 a = nI (sRent (B a) cs (sTop cs) day)) → ∃ N', av_V (av_S0 L) (d + 4) ta_X6_findRents 5 [.ref 9, .ref (116 + 2 * e), .int (nI k)] [] M = some (none, N') ∧ (∀ a, a < n → N'.1 113 a = nI (sRent (B a) cs (sTop cs) day)) ∧ al_fr (fun q => q = 113) N N') n (fun M hM hf => by
    refine ⟨M, ?_, hf, hM⟩
    apply eq_X6_findRents_5_a (d := d + 3)
    rw [(fs M hM).1.2.1, if_neg (nI_nlt (Nat.le_refl _) (by omega))]) (fun k hk ih M hM hf => by
    obtain ⟨hsM, heM⟩ := fs M hM
    obtain ⟨kb, ok, -⟩ := hsM.2.2.2.1 k hk
    have hbp : al_bp (27 + 2 * k) := al_bp27 (by omega)
    obtain ⟨s1, s2, s3, s4⟩ := al_bpE hbp L
    obtain ⟨N', c1, c2, c3⟩ := ih (av_w M 113 k (nI (sRent (B k) cs (sTop cs) day))) (al_fr_tr hM (al_fr_w1 M _ _ _)) (fun a ha => by
      by_cases e : a = k
      · subst e
        exact av_w_s _ _ _ _
      · rw [av_w_k _ _ _ _ e]
        exact hf a (by omega))
    refine ⟨N', ?_, c2, c3⟩
    apply eq_X6_findRents_5_a (d := d + 3)
    rw [hsM.2.1, if_pos (nI_lt hk (by omega)), av_gx_s (by omega) (by omega), nI_clamp (by omega), al_R11 k (by omega), av_bd_s, s1, av_tg_s, hsM.2.2.1, sp_rent L _ (al_ep_e heM.1) heM.2.2.1 hbp kb ok (by omega) heM.2.2.2.1 heM.2.2.2.2, av_bi_s, av_gx_s (by omega) (by omega), av_kP, nI_add]
    exact c1)
  obtain ⟨N', c1, c2, c3⟩ := outer N (al_fr_rf _ _) (fun a h => absurd h (Nat.not_lt_zero _))
  refine ⟨N', ?_, c2, c3⟩
  apply eq_X6_findRents (d := d + 3)
  rw [sp_estuaryNow L _ he, av_br_s, av_kP]
  exact c1
theorem sPeace_s (foe : Nat → Nat) (n X : Nat) : (∀ k, k < n → (X.testBit k && !(X &&& foe k == 0)) = false) → sPeace foe n X = true := by
  intro h
  unfold sPeace
  rw [anyN_f.mpr h]
  rfl
theorem sPeace_f {foe : Nat → Nat} {n X k : Nat} (hk : k < n) (h1 : X.testBit k = true) (h2 : ¬ X &&& foe k = 0) : sPeace foe n X = false := by
  unfold sPeace
  cases ha : anyN (fun b => X.testBit b && !(X &&& foe b == 0)) n
  · rw [anyN_f] at ha
    have := ha k hk
    rw [h1, Bool.true_and] at this
    simp at this
    exact absurd this h2
  · rfl
theorem sp_isPeaceful (L : av_W) (d : Nat) {N : av_N} {n X : Nat} {foe : Nat → Nat} (hn : n ≤ 7) (h1 : N.1 10 1 = nI n) (hf : ∀ a, a < n → N.1 112 a = nI (foe a)) (hX : X < 2 ^ 31) : av_C (av_S0 L) d 100 [.ref 9, .int (nI X)] N = some (some (.int (av_b (sPeace foe n X))), N) := by
  have key := lp_0 (P := fun k => (∀ j, j < k → (X.testBit j && !(X &&& foe j == 0)) = false) → av_V (av_S0 L) d ta_X6_isPeaceful 2 [.ref 9, .int (nI X), .int (nI k)] [] N = some (some (.int (av_b (sPeace foe n X))), N)) n (fun h => by
    apply eq_X6_isPeaceful_2
    rw [h1, if_neg (nI_nlt (Nat.le_refl _) (by omega)), av_kP, av_bt_1, sPeace_s foe n X h]
    rfl) (fun k hk ih h => by
    apply eq_X6_isPeaceful_2
    have ha : X &&& foe k < 2 ^ 31 := Nat.lt_of_le_of_lt Nat.and_le_left hX
    rw [h1, if_pos (nI_lt hk (by omega)), av_gx_s (by omega) (by omega), nI_clamp (by omega), hf k hk]
    simp only [av_kP, av_bit hX (show k < 32 by omega), av_and, nI_eq ha (show 0 < 2 ^ 31 by decide), nI_add, av_bt_0]
    cases hb : X.testBit k
    · rw [if_pos rfl]
      refine ih (fun j hj => ?_)
      by_cases e : j = k
      · rw [e, hb]
        rfl
      · exact h j (by omega)
    · rw [if_neg (by decide)]
      by_cases h0 : X &&& foe k = 0
      · rw [if_pos h0]
        refine ih (fun j hj => ?_)
        by_cases e : j = k
        · rw [e, h0]
          simp
        · exact h j (by omega)
      · rw [if_neg h0, sPeace_f hk hb h0]
        rfl)
  apply eq_X6_isPeaceful
  rw [av_kP]
  exact key (fun j hj => absurd hj (Nat.not_lt_zero _))
theorem sp_isPeacefulM (L : av_W) (d : Nat) {N : av_N} {n X : Nat} {foe : Nat → Nat} (hn : n ≤ 7) (h1 : N.1 142 0 = nI n) (hf : ∀ a, a < n → N.1 163 a = nI (foe a)) (hX : X < 2 ^ 31) : av_C (av_S0 L) (d + 1) 179 [.ref 142, .int (nI X)] N = some (some (.int (av_b (sPeace foe n X))), N) := by
  have key := lp_0 (P := fun k => (∀ j, j < k → (X.testBit j && !(X &&& foe j == 0)) = false) → av_V (av_S0 L) (d + 1) ta_X7_isPeaceful 2 [.ref 142, .int (nI X), .int (nI k)] [] N = some (some (.int (av_b (sPeace foe n X))), N)) n (fun h => by
    apply eq_X7_isPeaceful_2
    rw [h1, if_neg (nI_nlt (Nat.le_refl _) (by omega)), av_kP, av_bt_1, sPeace_s foe n X h]
    rfl) (fun k hk ih h => by
    apply eq_X7_isPeaceful_2
    have ha : X &&& foe k < 2 ^ 31 := Nat.lt_of_le_of_lt Nat.and_le_left hX
    rw [h1, if_pos (nI_lt hk (by omega)), sp_has L _ hX (by omega), av_bi_s, av_gx_s (by omega) (by omega), nI_clamp (by omega), hf k hk, av_and, Nat.and_comm]
    simp only [av_kP, av_b_0, nI_eq ha (show 0 < 2 ^ 31 by decide), nI_add, av_bt_0]
    cases hb : X.testBit k
    · rw [if_pos rfl]
      refine ih (fun j hj => ?_)
      by_cases e : j = k
      · rw [e, hb]
        rfl
      · exact h j (by omega)
    · rw [if_neg (by decide)]
      by_cases h0 : X &&& foe k = 0
      · rw [if_pos h0]
        refine ih (fun j hj => ?_)
        by_cases e : j = k
        · rw [e, h0]
          simp
        · exact h j (by omega)
      · rw [if_neg h0, sPeace_f hk hb h0]
        rfl)
  apply eq_X7_isPeaceful
  rw [av_kP]
  exact key (fun j hj => absurd hj (Nat.not_lt_zero _))
def sSetRent (r : Nat → Nat) (X : Nat) (n : Nat) : Nat := sumN (fun b => if X.testBit b then r b else 0) n
theorem sp_rentOfSet (L : av_W) (d : Nat) {N : av_N} {n X : Nat} {r : Nat → Nat} (hn : n ≤ 7) (h1 : N.1 10 1 = nI n) (hf : ∀ a, a < n → N.1 113 a = nI (r a)) (hX : X < 2 ^ 31) : av_C (av_S0 L) d 101 [.ref 9, .int (nI X)] N = some (some (.int (nI (sSetRent r X n))), N) := by
  have key := lp_0 (P := fun k => av_V (av_S0 L) d ta_X6_rentOfSet 4 [.ref 9, .int (nI X), .int (nI (sumN (fun b => if X.testBit b then r b else 0) k)), .int (nI k)] [] N = some (some (.int (nI (sSetRent r X n))), N)) n (by
    apply eq_X6_rentOfSet_4
    rw [h1, if_neg (nI_nlt (Nat.le_refl _) (by omega))]
    rfl) (fun k hk ih => by
    apply eq_X6_rentOfSet_4
    rw [h1, if_pos (nI_lt hk (by omega)), av_gx_s (by omega) (by omega), nI_clamp (by omega), hf k hk]
    simp only [av_kP, av_bit hX (show k < 32 by omega), nI_add]
    have e : sumN (fun b => if X.testBit b then r b else 0) (k + 1) = sumN (fun b => if X.testBit b then r b else 0) k + (if X.testBit k then r k else 0) := rfl
    rw [e] at ih
    cases hb : X.testBit k
    · rw [hb] at ih
      rw [if_pos rfl]
      exact ih
    · rw [hb] at ih
      rw [if_neg (by decide)]
      exact ih)
  apply eq_X6_rentOfSet
  rw [av_kP]
  exact key
theorem sp_layFoes (L : av_W) (d : Nat) {N : av_N} {n day : Nat} {B : Nat → Nat → Nat} {cs : List (Nat × Nat × List Nat)} (hm : al_mv N n day B cs) : ∃ N', av_C (av_S0 L) (d + 6) 178 [.ref 142] N = some (none, N') ∧ (∀ a, a < n → N'.1 163 a = nI (sFoe B n (sTop cs) day a)) ∧ al_fr (fun q => q = 163) N N' := by
  have hn := hm.1
  have ht := sTop_le cs
  have fs : ∀ M, al_fr (fun q => q = 163) N M → al_mv M n day B cs := fun M hM => al_mv_fr hm (fun q k a b c => (hM q (by omega) k).1)
  have inner : ∀ a, a < n → ∀ M, al_fr (fun q => q = 163) N M → (∀ j, j < a → M.1 163 j = nI (sFoe B n (sTop cs) day j)) → (∀ M, al_fr (fun q => q = 163) N M → (∀ j, j < a + 1 → M.1 163 j = nI (sFoe B n (sTop cs) day j)) → ∀ v, okv v → ∃ N', av_V (av_S0 L) (d + 6) ta_X7_layFoes 2 [.ref 142, .int (nI (a + 1)), v] [] M = some (none, N') ∧ (∀ a, a < n → N'.1 163 a = nI (sFoe B n (sTop cs) day a)) ∧ al_fr (fun q => q = 163) N N') → M.1 163 a = nI 0 → ∃ N', av_V (av_S0 L) (d + 6) ta_X7_layFoes 13 [.ref 142, .int (nI a), .int (nI 0)] [] M = some (none, N') ∧ (∀ a, a < n → N'.1 163 a = nI (sFoe B n (sTop cs) day a)) ∧ al_fr (fun q => q = 163) N N' := by
    intro a ha M hM hf hout h0
    refine lp_0 (P := fun k => ∀ M, al_fr (fun q => q = 163) N M → (∀ j, j < a → M.1 163 j = nI (sFoe B n (sTop cs) day j)) → M.1 163 a = nI (sBits (fun b => !(b == a) && decide (0 < sClash (B a) (B b) (sTop cs) day)) k) → ∃ N', av_V (av_S0 L) (d + 6) ta_X7_layFoes 13 [.ref 142, .int (nI a), .int (nI k)] [] M = some (none, N') ∧ (∀ a, a < n → N'.1 163 a = nI (sFoe B n (sTop cs) day a)) ∧ al_fr (fun q => q = 163) N N') n ?_ ?_ M hM hf h0
    · intro M hM hf hk
      obtain ⟨N', c1, c2, c3⟩ := hout M hM (fun j hj => by
        by_cases e : j = a
        · rw [e]
          exact hk
        · exact hf j (by omega)) (.int (nI n)) (Or.inr ⟨_, rfl⟩)
      refine ⟨N', ?_, c2, c3⟩
      apply eq_X7_layFoes_13 (d := d + 5)
      rw [(fs M hM).2.1.1, if_neg (nI_nlt (Nat.le_refl _) (by omega)), av_kP, nI_add]
      exact c1
    · intro k hk ih M hM hf hk2
      have hmM := fs M hM
      have hle := sClash_le (B a) (B k) day ht.2
      obtain ⟨N', c1, c2, c3⟩ := ih (av_w M 163 a (nI (sBits (fun b => !(b == a) && decide (0 < sClash (B a) (B b) (sTop cs) day)) (k + 1)))) (al_fr_tr hM (al_fr_w1 M _ _ _)) (fun j hj => by
        rw [av_w_k _ _ _ _ (by omega)]
        exact hf j hj) (av_w_s _ _ _ _)
      refine ⟨N', ?_, c2, c3⟩
      have e2 : sBits (fun b => !(b == a) && decide (0 < sClash (B a) (B b) (sTop cs) day)) (k + 1) = sBits (fun b => !(b == a) && decide (0 < sClash (B a) (B b) (sTop cs) day)) k ||| (if (!(k == a) && decide (0 < sClash (B a) (B k) (sTop cs) day)) then 2 ^ k else 0) := rfl
      rw [e2] at c1
      apply eq_X7_layFoes_13 (d := d + 5)
      rw [hmM.2.1.1, if_pos (nI_lt hk (by omega)), sp_clashOfM L _ hmM ha hk, av_bi_s]
      simp (disch := omega) only [av_gx_s, nI_clamp, hk2, av_kP, nI_eq, nI_ltI, nI_add, av_shl, av_or, Nat.one_mul]
      by_cases hka : a = k
      · rw [if_pos hka]
        rw [if_neg (by rw [hka]; simp)] at c1
        exact c1
      · rw [if_neg hka]
        by_cases hc : 0 < sClash (B a) (B k) (sTop cs) day
        · rw [if_pos hc]
          rw [if_pos (by simpa using ⟨fun z => hka z.symm, hc⟩)] at c1
          exact c1
        · rw [if_neg hc]
          rw [if_neg (by rw [decide_eq_false hc]; simp)] at c1
          exact c1
  have outer := lp_0 (P := fun k => ∀ M, al_fr (fun q => q = 163) N M → (∀ a, a < k → M.1 163 a = nI (sFoe B n (sTop cs) day a)) → ∀ v, okv v → ∃ N', av_V (av_S0 L) (d + 6) ta_X7_layFoes 2 [.ref 142, .int (nI k), v] [] M = some (none, N') ∧ (∀ a, a < n → N'.1 163 a = nI (sFoe B n (sTop cs) day a)) ∧ al_fr (fun q => q = 163) N N') n (fun M hM hf v hv => by
    refine ⟨M, ?_, hf, hM⟩
    rcases hv with rfl | ⟨x, rfl⟩
    · apply eq_X7_layFoes_2 (d := d + 5)
      rw [(fs M hM).2.1.1, if_neg (nI_nlt (Nat.le_refl _) (by omega))]
    · apply eq_X7_layFoes_2_b (d := d + 5)
      rw [(fs M hM).2.1.1, if_neg (nI_nlt (Nat.le_refl _) (by omega))]) (fun k hk ih M hM hf v hv => by
    obtain ⟨N', c1, c2, c3⟩ := inner k hk (av_w M 163 k (nI 0)) (al_fr_tr hM (al_fr_w1 M _ _ _)) (fun j hj => by
      rw [av_w_k _ _ _ _ (by omega)]
      exact hf j hj) ih (av_w_s _ _ _ _)
    refine ⟨N', ?_, c2, c3⟩
    rcases hv with rfl | ⟨x, rfl⟩
    · apply eq_X7_layFoes_2 (d := d + 5)
      rw [(fs M hM).2.1.1, if_pos (nI_lt hk (by omega)), av_gx_s (by omega) (by omega), nI_clamp (by omega), av_kP]
      exact c1
    · apply eq_X7_layFoes_2_b (d := d + 5)
      rw [(fs M hM).2.1.1, if_pos (nI_lt hk (by omega)), av_gx_s (by omega) (by omega), nI_clamp (by omega), av_kP]
      exact c1)
  obtain ⟨N', c1, c2, c3⟩ := outer N (al_fr_rf _ _) (fun a h => absurd h (Nat.not_lt_zero _)) am_junk (Or.inl rfl)
  refine ⟨N', ?_, c2, c3⟩
  apply eq_X7_layFoes (d := d + 5)
  rw [av_kP]
  exact c1
