/-! on, empty, pass -/
theorem av_lt_n {j n : Nat} (hj : j < 2 ^ 31) (hn : n < 2 ^ 31) : av_lt (nI j) n = decide (j < n) := by
  by_cases h : j < n
  · rw [decide_eq_true h]
    exact (av_ltE hn).mpr ⟨j, h, rfl⟩
  · rw [decide_eq_false h]
    cases hx : av_lt (nI j) n
    · rfl
    · obtain ⟨i, h1, h2⟩ := (av_ltE hn).mp hx
      rw [nI_eq hj (by omega)] at h2
      omega
theorem av_lt_neg (n : Nat) : av_lt (av_k (-1)) n = false := by
  unfold av_lt
  rw [decide_eq_false (show ¬ ¬ av_k (-1) < nI 0 by decide), Bool.false_and]
theorem av_wi_neg {x : Int32} (h : x < nI 0) {a b : Nat} (ha : a < 2 ^ 31) : av_wi x (nI a) (nI b) = false := by
  unfold av_wi
  rw [decide_eq_false, Bool.false_and]
  intro z
  apply z
  rw [Int32.lt_iff_toInt_lt, nI_toInt ha]
  rw [Int32.lt_iff_toInt_lt, nI_toInt (by decide)] at h
  omega
theorem nI_ne {a b : Nat} (ha : a < 2 ^ 31) (hb : b < 2 ^ 31) (h : a ≠ b) : ¬ nI a = nI b := fun z => h ((nI_eq ha hb).mp z)
theorem sGoN_ok {N : av_N} {n day : Nat} {B : Nat → Nat → Nat} {cs : List (Nat × Nat × List Nat)} (hs : al_sn N 10 27 n day B) {b : Nat} (hb : b < n) (m : Nat) : al_ok (sGoN B cs day m b) := sLive_ok (hs.2.2.2.1 b hb).2.1 m
/-- the ghost of a bird lives some days -/
theorem sp_ghostLive (L : av_W) (d : Nat) {M : av_N} {n day e m b : Nat} {B : Nat → Nat → Nat} {cs : List (Nat × Nat × List Nat)} (hs : al_sn M 10 27 n day B) (he : al_ce M e cs) (hb : b < n) (hmd : m ≤ 200) : ∃ N1 N2, av_C (av_S0 L) (d + 7) 2 [.ref 108, .ref (27 + 2 * b)] M = some (none, N1) ∧ N1.1 10 2 = nI day ∧ av_C (av_S0 L) (d + 7) 11 [.ref 108, .ref (116 + 2 * e), .int (nI day), .int (nI m)] N1 = some (none, N2) ∧ al_bd N2 108 (sGoN B cs day m b) ∧ al_fr al_dH M N2 := by
  have hn := hs.1
  obtain ⟨kb, ok, -⟩ := hs.2.2.2.1 b hb
  have hd := hs.2.2.2.2
  obtain ⟨N1, c1, b1, f1⟩ := sp_ghost L d (by omega) kb ok
  have he1 := al_ce_H he f1
  obtain ⟨N2, c2, b2, f2⟩ := sp_live L (d + 2) (day := day) (n := m) (al_ep_e he1.1) he1.2.2.1 al_b108 b1 ok (by omega) he1.2.2.2.1 he1.2.2.2.2
  exact ⟨N1, N2, c1, (al_cv_H hs f1).2.2.1, c2, b2, al_fr_tr f1 (al_fr_mono f2 (fun q z => Or.inl z))⟩
theorem sp_onOne (L : av_W) (d : Nat) {N : av_N} {n day e m b : Nat} {B : Nat → Nat → Nat} {cs : List (Nat × Nat × List Nat)} (hs : al_sn N 10 27 n day B) (he : al_ce N e cs) (hb : b < n) (hm60 : m ≤ 60) {j : Nat} (hj : j < 100) : ∃ N', av_V (av_S0 L) (d + 20) ta_X6_on 28 [.ref 9, .int (nI m), .int (nI j), .ref (27 + 2 * b), am_junk, am_junk, am_junk, am_junk] [] N = some (some (.int (if j < 20 then nI (sGoN B cs day m b 8) else nI (sRent (sGoN B cs day m b) cs (sTop cs) (day + m)))), N') ∧ al_fr al_dH N N' := by
  obtain ⟨N1, N2, c1, e1, c2, b2, f2⟩ := sp_ghostLive L (d + 12) hs he hb (show m ≤ 200 by omega)
  have hs2 := al_cv_H hs f2
  have he2 := al_ce_H he f2
  have hd := hs.2.2.2.2
  refine ⟨N2, ?_, f2⟩
  apply eq_X6_on_28_a (d := d + 19)
  simp only [av_kP]
  rw [sp_within, av_bi_s, av_wiN (by decide) (by decide) (by omega), decide_eq_true (by omega), av_if_t, sp_estuaryNow L _ he, av_br_s, c1, av_bv_s, e1, c2, av_bv_s, b2.1 8 (by decide) (by decide), hs2.2.2.1, nI_add, sp_rent L _ (al_ep_e he2.1) he2.2.2.1 al_b108 b2 (sGoN_ok hs hb m) (by omega) he2.2.2.2.1 he2.2.2.2.2, av_bi_s]
  by_cases h : j < 20
  · rw [if_pos (nI_lt h (by decide)), if_pos h]
  · rw [if_neg (nI_nlt (by omega) (by omega)), if_neg h]
theorem sp_onAll (L : av_W) (d : Nat) {N : av_N} {n day e m : Nat} {B : Nat → Nat → Nat} {cs : List (Nat × Nat × List Nat)} (hs : al_sn N 10 27 n day B) (he : al_ce N e cs) (hm60 : m ≤ 60) {j : Nat} (hj : j < 2) : ∃ N', av_V (av_S0 L) (d + 20) ta_X6_on 28 [.ref 9, .int (nI m), .int (nI j), .null, am_junk, am_junk, am_junk, am_junk] [] N = some (some (.int (if j = 0 then nI (sGone (sGoN B cs day m) n) else nI (sAllRent (sGoN B cs day m) n cs (day + m)))), N') ∧ al_fr al_dH N N' := by
  have hn := hs.1
  have hd := hs.2.2.2.2
  have key := lp_0 (P := fun k => ∀ M, al_fr al_dH N M → ∃ N', av_V (av_S0 L) (d + 20) ta_X6_on 75 [.ref 9, .int (nI m), .int (nI j), .null, .ref (116 + 2 * e), .int (nI (sBits (fun b => sGoN B cs day m b 9 == 1) k)), .int (nI (sumN (fun b => sRent (sGoN B cs day m b) cs (sTop cs) (day + m)) k)), .int (nI k)] [] M = some (some (.int (if j = 0 then nI (sGone (sGoN B cs day m) n) else nI (sAllRent (sGoN B cs day m) n cs (day + m)))), N') ∧ al_fr al_dH N N') n (fun M hM => by
    refine ⟨M, ?_, hM⟩
    apply eq_X6_on_75_a (d := d + 19)
    rw [(al_cv_H hs hM).2.1, if_neg (nI_nlt (Nat.le_refl _) (by omega)), av_kP]
    by_cases h : j = 0
    · rw [if_pos h, h, if_pos rfl]
      rfl
    · rw [if_neg h, if_neg (fun z => h ((nI_eq (by omega) (by decide)).mp z))]
      rfl) (fun k hk ih M hM => by
    have hsM := al_cv_H hs hM
    have heM := al_ce_H he hM
    obtain ⟨N1, N2, c1, e1, c2, b2, f2⟩ := sp_ghostLive L (d + 12) hsM heM hk (show m ≤ 200 by omega)
    have hs2 := al_cv_H hsM f2
    have he2 := al_ce_H heM f2
    have ok2 := sGoN_ok (cs := cs) hsM hk m
    have h9 : sGoN B cs day m k 9 ≤ 1 := ok2.2.2.2.2.2.2.2.2.2.2.1
    obtain ⟨N', c3, f3⟩ := ih N2 (al_fr_tr hM f2)
    refine ⟨N', ?_, f3⟩
    apply eq_X6_on_75_a (d := d + 19)
    rw [hsM.2.1, if_pos (nI_lt hk (by omega)), av_gx_s (by omega) (by omega), nI_clamp (by omega), al_R11 k (by omega), av_bd_s, c1, av_bv_s, e1, c2, av_bv_s, b2.1 9 (by decide) (by decide), hs2.2.2.1, nI_add, sp_rent L _ (al_ep_e he2.1) he2.2.2.1 al_b108 b2 ok2 (by omega) he2.2.2.2.1 he2.2.2.2.2, av_bi_s, av_bi_s]
    simp (disch := omega) only [av_kP, nI_eq, nI_add, av_shl, av_or, Nat.one_mul]
    have eb : sBits (fun b => sGoN B cs day m b 9 == 1) (k + 1) = sBits (fun b => sGoN B cs day m b 9 == 1) k ||| (if sGoN B cs day m k 9 == 1 then 2 ^ k else 0) := rfl
    rw [eb] at c3
    by_cases h0 : sGoN B cs day m k 9 = 0
    · rw [if_pos h0]
      rw [h0] at c3
      exact c3
    · rw [if_neg h0]
      rw [show sGoN B cs day m k 9 = 1 by omega] at c3
      exact c3)
  obtain ⟨N', c, f⟩ := key N (al_fr_rf _ _)
  refine ⟨N', ?_, f⟩
  apply eq_X6_on_28_b (d := d + 19)
  simp only [av_kP]
  rw [sp_within, av_bi_s, av_wiN (by decide) (by decide) (by omega), decide_eq_true (by omega), av_if_t, sp_estuaryNow L _ he, av_br_s]
  exact c
theorem av_wiD {x : Int32} {M : Nat} (hM : M < 2 ^ 31) (h : av_wi x (nI 0) (nI M) = true) : ∃ m, m ≤ M ∧ x = nI m := by
  obtain ⟨j, h1, h2, h3⟩ := (av_wiE (by decide) hM).mp h
  exact ⟨j, h2, h3⟩
theorem ca_on (L : av_W) (d : Nat) {N : av_N} {n day : Nat} {B : Nat → Nat → Nat} {cs : List (Nat × Nat × List Nat)} (hc : al_cv N n day B cs) (hm : al_mv N n day B cs) (hD : day ≤ 9999) (x w : Int32) : al_ask L (d + 20) N n day B cs 60 [.ref 9, .int x, .int w] 173 [.ref 142, .int x, .int w] := by
  obtain ⟨hs, e, he⟩ := hc
  have hn := hs.1
  have hd := hs.2.2.2.2
  have hm1 := hm.2.1.1
  have hbad : ∀ M, av_wi x (nI 0) (nI 60) = false → av_V (av_S0 L) (d + 20) ta_X7_on 26 [.ref 142, .int x, .int w, am_junk] [] M = some (some (.int (av_k (-2))), M) := by
    intro M hx
    apply eq_X7_on_26 (d := d + 19)
    rw [sp_isDays, av_bi_s, hx, av_if_fk]
  by_cases hneg : w < nI 0
  · refine ask_eq hm (.int (av_k (-1))) ?_ ?_
    · apply eq_X6_on (d := d + 19)
      simp only [av_kP]
      have l1 : ∀ a : Nat, a < 2 ^ 31 → w < nI a := fun a ha => by
        rw [Int32.lt_iff_toInt_lt, nI_toInt ha]
        rw [Int32.lt_iff_toInt_lt, nI_toInt (by decide)] at hneg
        omega
      rw [if_pos (l1 20 (by decide)), if_pos (l1 10 (by decide))]
      apply eq_X6_on_17 (d := d + 19)
      rw [sp_birdAt_no L _ hs.2.1 (av_lt_neg n), av_br_n, if_neg (fun z => by rw [z] at hneg; exact absurd hneg (by decide)), if_neg (fun z => by rw [z] at hneg; exact absurd hneg (by decide))]
    · apply eq_X7_on (d := d + 19)
      simp only [av_kP]
      rw [sp_in, av_bi_s, av_wi_neg hneg (by decide), av_if_f, hm1, sp_in, av_bi_s, nI_add, av_wi_neg hneg (by decide), av_if_f, hm1, sp_in, av_bi_s, nI_add, av_wi_neg hneg (by decide), av_if_f]
  rw [nI_0] at hneg
  obtain ⟨j, hj, rfl⟩ := nI_of hneg
  by_cases hj2 : j < 2
  · have hcC : ∀ q, av_V (av_S0 L) (d + 20) ta_X6_on 28 [.ref 9, .int x, .int (nI j), .null, am_junk, am_junk, am_junk, am_junk] [] N = some q → av_C (av_S0 L) (d + 20) 60 [.ref 9, .int x, .int (nI j)] N = some q := by
      intro q hq
      apply eq_X6_on (d := d + 19)
      simp only [av_kP]
      rw [if_pos (nI_lt (by omega) (by decide)), if_pos (nI_lt (by omega) (by decide))]
      apply eq_X6_on_17 (d := d + 19)
      simp only [av_kP]
      rw [sp_birdAt_no L _ hs.2.1 (av_lt_neg n), av_br_n]
      rcases (by omega : j = 0 ∨ j = 1) with rfl | rfl
      · rw [if_pos rfl]
        exact hq
      · rw [if_neg (by decide), if_pos rfl]
        exact hq
    have hcM : ∀ M q, av_V (av_S0 L) (d + 20) ta_X7_on 26 [.ref 142, .int x, .int (nI j), am_junk] [] M = some q → av_C (av_S0 L) (d + 20) 173 [.ref 142, .int x, .int (nI j)] M = some q := by
      intro M q hq
      apply eq_X7_on (d := d + 19)
      simp only [av_kP]
      rw [sp_in, av_bi_s, av_wiN (by decide) (by decide) (by omega), decide_eq_true (by omega), av_if_t]
      exact hq
    cases hx : av_wi x (nI 0) (nI 60)
    · refine ask_eq hm (.int (av_k (-2))) (hcC _ ?_) (hcM _ _ (hbad N hx))
      apply eq_X6_on_28_b (d := d + 19)
      simp only [av_kP]
      rw [sp_within, av_bi_s, hx, av_if_f]
    obtain ⟨m, hm60, rfl⟩ := av_wiD (by decide) hx
    obtain ⟨N1, c1, f1⟩ := sp_onAll L d hs he hm60 hj2
    refine ask_of hm _ (hcC _ c1) (al_dHC f1) (fun M _ hmM => ?_)
    obtain ⟨M1, M2, g1, g2, hm2, g3, g4⟩ := sp_away L (d + 12) hmM (show day + m < 2 ^ 19 by omega)
    rcases (by omega : j = 0 ∨ j = 1) with rfl | rfl
    · obtain ⟨M3, g5, hm3, g6⟩ := g4 M2 (al_fr_rf _ _)
      refine ⟨M3, hcM _ _ ?_, hm3, g6⟩
      apply eq_X7_on_26 (d := d + 19)
      simp only [av_kP]
      rw [sp_isDays, av_bi_s, hx, av_if_t, g1, av_bv_s, g2, av_bv_s, if_pos trivial, g5, av_bv_s, hm2.2.2.1, if_pos trivial]
    · obtain ⟨M4, g7, f7⟩ := sp_allRentM L (d + 13) hm2
      obtain ⟨M3, g5, hm3, g6⟩ := g4 M4 f7
      refine ⟨M3, hcM _ _ ?_, hm3, g6⟩
      apply eq_X7_on_26 (d := d + 19)
      simp only [av_kP]
      rw [sp_isDays, av_bi_s, hx, av_if_t, g1, av_bv_s, g2, av_bv_s, if_neg (by decide), if_pos trivial, g7, av_bi_s, g5, av_bv_s, if_neg (by decide)]
  by_cases hj3 : (10 ≤ j ∧ j < 10 + n) ∨ (20 ≤ j ∧ j < 20 + n)
  · obtain ⟨b, hb, hjb⟩ : ∃ b, b < n ∧ (j = 10 + b ∨ j = 20 + b) := by
      rcases hj3 with h | h
      · exact ⟨j - 10, by omega, by omega⟩
      · exact ⟨j - 20, by omega, by omega⟩
    have hcC : ∀ q, av_V (av_S0 L) (d + 20) ta_X6_on 28 [.ref 9, .int x, .int (nI j), .ref (27 + 2 * b), am_junk, am_junk, am_junk, am_junk] [] N = some q → av_C (av_S0 L) (d + 20) 60 [.ref 9, .int x, .int (nI j)] N = some q := by
      intro q hq
      have hon : av_V (av_S0 L) (d + 20) ta_X6_on 17 [.ref 9, .int x, .int (nI j), am_junk, am_junk, am_junk, am_junk, am_junk] [.int (nI b), .ref 10] N = some q := by
        apply eq_X6_on_17 (d := d + 19)
        simp only [av_kP]
        rw [sp_birdAt L _ hs.2.1 hn hb, av_br_s, if_neg (nI_ne (by omega) (by omega) (by omega)), if_neg (nI_ne (by omega) (by omega) (by omega))]
        exact hq
      apply eq_X6_on (d := d + 19)
      simp only [av_kP]
      rcases hjb with h | h
      · rw [if_pos (nI_lt (by omega) (by decide)), if_neg (nI_nlt (by omega) (by omega)), av_sub (by omega), show j - 10 = b by omega]
        exact hon
      · rw [if_neg (nI_nlt (by omega) (by omega)), av_sub (by omega), show j - 20 = b by omega]
        exact hon
    have hcM : ∀ M q, M.1 142 0 = nI n → av_V (av_S0 L) (d + 20) ta_X7_on 26 [.ref 142, .int x, .int (nI j), am_junk] [] M = some q → av_C (av_S0 L) (d + 20) 173 [.ref 142, .int x, .int (nI j)] M = some q := by
      intro M q hM1 hq
      apply eq_X7_on (d := d + 19)
      simp only [av_kP]
      rw [sp_in, av_bi_s, av_wiN (by decide) (by decide) (by omega), decide_eq_false (by omega), av_if_f, hM1, sp_in, av_bi_s, nI_add, av_wiN (by omega) (by omega) (by omega)]
      rcases hjb with h | h
      · rw [decide_eq_true (by omega), av_if_t]
        exact hq
      · rw [decide_eq_false (by omega), av_if_f, hM1, sp_in, av_bi_s, nI_add, av_wiN (by omega) (by omega) (by omega), decide_eq_true (by omega), av_if_t]
        exact hq
    cases hx : av_wi x (nI 0) (nI 60)
    · refine ask_eq hm (.int (av_k (-2))) (hcC _ ?_) (hcM _ _ hm1 (hbad N hx))
      apply eq_X6_on_28_a (d := d + 19)
      simp only [av_kP]
      rw [sp_within, av_bi_s, hx, av_if_f]
    obtain ⟨m, hm60, rfl⟩ := av_wiD (by decide) hx
    obtain ⟨N1, c1, f1⟩ := sp_onOne L d hs he hb hm60 (j := j) (by omega)
    refine ask_of hm _ (hcC _ c1) (al_dHC f1) (fun M _ hmM => ?_)
    obtain ⟨M1, M2, g1, g2, hm2, g3, g4⟩ := sp_away L (d + 12) hmM (show day + m < 2 ^ 19 by omega)
    have m7 := (hm2.2.1.2.2 b hb).2.2.2.2.2.2.1
    rcases hjb with h | h
    · obtain ⟨M3, g5, hm3, g6⟩ := g4 M2 (al_fr_rf _ _)
      refine ⟨M3, hcM _ _ hmM.2.1.1 ?_, hm3, g6⟩
      apply eq_X7_on_26 (d := d + 19)
      simp only [av_kP]
      rw [sp_isDays, av_bi_s, hx, av_if_t, g1, av_bv_s, g2, av_bv_s, if_neg (nI_ne (by omega) (by omega) (by omega)), if_neg (nI_ne (by omega) (by omega) (by omega)), if_pos (nI_lt (by omega) (by decide)), av_sub (by omega), show j - 10 = b by omega, av_gx_s (by omega) (by omega), g5, av_bv_s, nI_clamp (by omega), m7, if_pos (show j < 20 by omega)]
    · obtain ⟨M4, g7, f7⟩ := sp_rentM L (d + 14) hm2 hb
      obtain ⟨M3, g5, hm3, g6⟩ := g4 M4 f7
      refine ⟨M3, hcM _ _ hmM.2.1.1 ?_, hm3, g6⟩
      apply eq_X7_on_26 (d := d + 19)
      simp only [av_kP]
      rw [sp_isDays, av_bi_s, hx, av_if_t, g1, av_bv_s, g2, av_bv_s, if_neg (nI_ne (by omega) (by omega) (by omega)), if_neg (nI_ne (by omega) (by omega) (by omega)), if_neg (nI_nlt (by omega) (by omega)), av_sub (by omega), show j - 20 = b by omega, g7, av_bi_s, g5, av_bv_s, if_neg (show ¬ j < 20 by omega)]
  · refine ask_eq hm (.int (av_k (-1))) ?_ ?_
    · have hon : ∀ t, av_lt t n = false → av_V (av_S0 L) (d + 20) ta_X6_on 17 [.ref 9, .int x, .int (nI j), am_junk, am_junk, am_junk, am_junk, am_junk] [.int t, .ref 10] N = some (some (.int (av_k (-1))), N) := by
        intro t ht
        apply eq_X6_on_17 (d := d + 19)
        simp only [av_kP]
        rw [sp_birdAt_no L _ hs.2.1 ht, av_br_n, if_neg (nI_ne (by omega) (by omega) (by omega)), if_neg (nI_ne (by omega) (by omega) (by omega))]
      apply eq_X6_on (d := d + 19)
      simp only [av_kP]
      by_cases h20 : j < 20
      · rw [if_pos (nI_lt h20 (by decide))]
        by_cases h10 : j < 10
        · rw [if_pos (nI_lt h10 (by decide))]
          exact hon _ (av_lt_neg n)
        · rw [if_neg (nI_nlt (by omega) (by omega)), av_sub (by omega)]
          exact hon _ (by rw [av_lt_n (by omega) (by omega), decide_eq_false (by omega)])
      · rw [if_neg (nI_nlt (by omega) (by omega)), av_sub (by omega)]
        exact hon _ (by rw [av_lt_n (by omega) (by omega), decide_eq_false (by omega)])
    · apply eq_X7_on (d := d + 19)
      simp only [av_kP]
      rw [sp_in, av_bi_s, av_wiN (by decide) (by decide) (by omega), decide_eq_false (by omega), av_if_f, hm1, sp_in, av_bi_s, nI_add, av_wiN (by omega) (by omega) (by omega), decide_eq_false (by omega), av_if_f, hm1, sp_in, av_bi_s, nI_add, av_wiN (by omega) (by omega) (by omega), decide_eq_false (by omega), av_if_f]
def sEmp (p : Nat → Bool) : Nat → Nat → Int32
  | 0, _ => av_k (-5)
  | m + 1, k => if p k then nI k else sEmp p m (k + 1)
theorem sEmp_s (p : Nat → Bool) {k : Nat} (h : k < 100) : sEmp p (100 - k) k = if p k then nI k else sEmp p (100 - (k + 1)) (k + 1) := by
  rw [show 100 - k = (100 - (k + 1)) + 1 by omega]
  rfl
theorem ca_empty (L : av_W) (d : Nat) {N : av_N} {n day : Nat} {B : Nat → Nat → Nat} {cs : List (Nat × Nat × List Nat)} (hc : al_cv N n day B cs) (hm : al_mv N n day B cs) (hD : day ≤ 9999) (x : Int32) : al_ask L (d + 20) N n day B cs 61 [.ref 9, .int x] 174 [.ref 142, .int x] := by
  obtain ⟨hs, e, he⟩ := hc
  have hn := hs.1
  have hd := hs.2.2.2.2
  have hm1 := hm.2.1.1
  cases hx : av_lt x n
  · refine ask_eq hm (.int (av_k (-1))) ?_ ?_
    · apply eq_X6_empty (d := d + 19)
      rw [sp_birdAt_no L _ hs.2.1 hx, av_br_n]
    · apply eq_X7_empty (d := d + 19)
      rw [sp_isBird L _ x hm1 (by omega), av_bi_s, hx, av_if_fk]
  obtain ⟨b, hb, rfl⟩ := (av_ltE (by omega)).mp hx
  obtain ⟨kb, ok, -⟩ := hs.2.2.2.1 b hb
  obtain ⟨N1, c1, b1, f1⟩ := sp_ghost L (d + 12) (show b < 7 by omega) kb ok
  have keyC := lp_0 (P := fun k => ∀ M, al_fr al_dH N M → al_bd M 108 (sGoN B cs day k b) → ∃ N', av_V (av_S0 L) (d + 20) ta_X6_empty 18 [.ref 9, .int (nI b), .ref (27 + 2 * b), .ref (116 + 2 * e), .int (nI k)] [] M = some (some (.int (sEmp (fun k => sGoN B cs day k b 9 == 1) (100 - k) k)), N') ∧ al_fr al_dH N N') 100 (fun M hM hb1 => by
    refine ⟨M, ?_, hM⟩
    apply eq_X6_empty_18_a (d := d + 19)
    rw [av_kP, if_pos (nI_lt (by decide) (by decide))]
    rfl) (fun k hk ih M hM hb1 => by
    have hsM := al_cv_H hs hM
    have heM := al_ce_H he hM
    have okk := sGoN_ok (cs := cs) hs hb k
    have h9 : sGoN B cs day k b 9 ≤ 1 := okk.2.2.2.2.2.2.2.2.2.2.1
    obtain ⟨M2, c2, b2, f2⟩ := sp_day L (d + 15) (day := day + k) (al_ep_e heM.1) heM.2.2.1 al_b108 hb1 okk (by omega) heM.2.2.2.1 heM.2.2.2.2
    obtain ⟨N', c3, f3⟩ := ih M2 (al_fr_tr hM (al_fr_mono f2 (fun q z => Or.inl z))) b2
    by_cases h0 : sGoN B cs day k b 9 = 0
    · refine ⟨N', ?_, f3⟩
      rw [sEmp_s _ hk, h0, if_neg (by decide)]
      apply eq_X6_empty_18_a (d := d + 19)
      simp only [av_kP]
      rw [if_neg (nI_nlt (by omega) (by decide)), hb1.1 9 (by decide) (by decide), if_pos (congrArg nI h0), hsM.2.2.1, nI_add, c2, av_bv_s, nI_add]
      exact c3
    · refine ⟨M, ?_, hM⟩
      rw [sEmp_s _ hk, show sGoN B cs day k b 9 = 1 by omega, if_pos (by decide)]
      apply eq_X6_empty_18_a (d := d + 19)
      simp only [av_kP]
      rw [if_neg (nI_nlt (by omega) (by decide)), hb1.1 9 (by decide) (by decide), if_neg (nI_ne (by omega) (by omega) (by omega))])
  obtain ⟨N2, c2, f2⟩ := keyC N1 f1 b1
  refine ask_of hm (.int (sEmp (fun k => sGoN B cs day k b 9 == 1) 100 0)) (N1 := N2) ?_ (al_dHC f2) (fun M _ hmM => ?_)
  · apply eq_X6_empty (d := d + 19)
    rw [sp_birdAt L _ hs.2.1 hn hb, av_br_s, sp_estuaryNow L _ he, av_br_s, c1, av_bv_s, av_kP]
    exact c2
  obtain ⟨M1, g1, k1, r1⟩ := sp_save L (d + 19) hmM
  have hmM1 := al_mv_S hmM r1
  have back : ∀ M' k, al_mv M' n (day + k) (sGoN B cs day k) cs → al_kp M' n day B → al_f2 al_qM M M' → ∃ M3, av_C (av_S0 L) (d + 19) 172 [.ref 142] M' = some (none, M3) ∧ al_mv M3 n day B cs ∧ al_f2 al_qM M M3 := by
    intro M' k h1 h2 h3
    obtain ⟨M3, c3, h4, h5⟩ := sp_putBack L (d + 19) h1 hmM.2.2.2.2.2 h2 (fun b hb f h8 h9 => sLive_of _ _ _ _ _ _ _ h8 h9) (fun b hb => (hmM.2.2.2.2.1 b hb).1)
    exact ⟨M3, c3, h4, al_f2_tr h3 (al_dP_q h5)⟩
  have keyM := lp_0 (P := fun k => ∀ M', al_mv M' n (day + k) (sGoN B cs day k) cs → al_kp M' n day B → al_f2 al_qM M M' → ∃ M3, av_V (av_S0 L) (d + 20) ta_X7_empty 10 [.ref 142, .int (nI b), .int (nI k)] [] M' = some (some (.int (sEmp (fun k => sGoN B cs day k b 9 == 1) (100 - k) k)), M3) ∧ al_mv M3 n day B cs ∧ al_f2 al_qM M M3) 100 (fun M' h1 h2 h3 => by
    obtain ⟨M3, c3, h4, h5⟩ := back M' _ h1 h2 h3
    refine ⟨M3, ?_, h4, h5⟩
    apply eq_X7_empty_10 (d := d + 19)
    simp only [av_kP]
    rw [if_neg (nI_nlt (Nat.le_refl _) (by decide)), c3, av_bv_s, if_neg (nI_nlt (Nat.le_refl _) (by decide))]
    rfl) (fun k hk ih M' h1 h2 h3 => by
    have okk := (h1.2.2.2.2.1 b hb).1
    have h9 : sGoN B cs day k b 9 ≤ 1 := okk.2.2.2.2.2.2.2.2.2.2.1
    by_cases h0 : sGoN B cs day k b 9 = 0
    · obtain ⟨M2, c2, h4, h5⟩ := sp_goDay L (d + 13) h1 (by omega)
      obtain ⟨M3, c3, h6, h7⟩ := ih M2 h4 (al_kp_fr h2 h5 (by unfold al_dG; omega) (by unfold al_dG; omega) (fun k => by unfold al_dG; omega)) (al_f2_tr h3 (al_dG_q h5))
      refine ⟨M3, ?_, h6, h7⟩
      rw [sEmp_s _ hk, h0, if_neg (by decide)]
      apply eq_X7_empty_10 (d := d + 19)
      simp only [av_kP]
      rw [if_pos (nI_lt hk (by decide)), h1.2.2.1, sp_hasG L _ h1 hb, av_bi_s, h0, show ((0 : Nat) == 1) = false from rfl, av_if_f, c2, av_bv_s, nI_add]
      exact c3
    · obtain ⟨M3, c3, h4, h5⟩ := back M' _ h1 h2 h3
      refine ⟨M3, ?_, h4, h5⟩
      rw [sEmp_s _ hk, show sGoN B cs day k b 9 = 1 by omega, if_pos (by decide)]
      apply eq_X7_empty_10 (d := d + 19)
      simp only [av_kP]
      rw [if_pos (nI_lt hk (by decide)), h1.2.2.1, sp_hasG L _ h1 hb, av_bi_s, show sGoN B cs day k b 9 = 1 by omega, show ((1 : Nat) == 1) = true from rfl, av_if_t, c3, av_bv_s, if_pos (nI_lt hk (by decide))])
  obtain ⟨M3, c3, h4, h5⟩ := keyM M1 hmM1 k1 (al_dS_q r1)
  refine ⟨M3, ?_, h4, h5⟩
  apply eq_X7_empty (d := d + 19)
  rw [sp_isBird L _ _ hmM.2.1.1 (by omega), av_bi_s, hx, av_if_tk, g1, av_bv_s, av_kP]
  exact c3
