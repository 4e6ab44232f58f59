/-! odds, mean -/
theorem gcd_step (p q : Nat) : Nat.gcd p q = Nat.gcd q (p % q) := by
  rw [Nat.gcd_comm p q, Nat.gcd_rec q p, Nat.gcd_comm]
def sFrac (a b : Nat) (w : Int32) : Int64 := if w = nI 0 then lN (a / Nat.gcd a b) else lN (b / Nat.gcd a b)
theorem sp_part (L : av_W) (d : Nat) {a b : Nat} {w : Int32} (ha : a < 2 ^ 24) (hb : b < 2 ^ 24) (h0 : 0 < b) (N : av_N) : av_C (av_S0 L) d 106 [.int (nI a), .int (nI b), .int w] N = some (some (.long (sFrac a b w)), N) := by
  have hg : Nat.gcd a b ≤ b := Nat.gcd_le_right a h0
  have hg0 : 0 < Nat.gcd a b := Nat.gcd_pos_of_pos_right a h0
  have hda : a / Nat.gcd a b ≤ a := Nat.div_le_self _ _
  have hdb : b / Nat.gcd a b ≤ b := Nat.div_le_self _ _
  have fin : ∀ A : Option av_Q, A = (if nI (Nat.gcd a b) = nI 0 then (some (some (.long (lN 0)), N)) else (if w = nI 0 then (av_nz (nI (Nat.gcd a b)) (some (some (.long (nI a / nI (Nat.gcd a b)).toInt64), N))) else (av_nz (nI (Nat.gcd a b)) (some (some (.long (nI b / nI (Nat.gcd a b)).toInt64), N))))) → A = some (some (.long (sFrac a b w)), N) := by
    intro A hA
    rw [hA, if_neg (nI_ne (by omega) (by decide) (by omega)), av_nz_s hg0 (by omega), av_nz_s hg0 (by omega), av_div (by omega) (by omega), av_div (by omega) (by omega), nI_l (by omega), nI_l (by omega)]
    unfold sFrac
    by_cases h : w = nI 0
    · rw [if_pos h, if_pos h]
    · rw [if_neg h, if_neg h]
  have key : ∀ (k s dv rs : Nat) (v : Value), okv v → dv < 2 ^ 24 → rs < 2 ^ k → k ≤ 24 → s + 2 * k ≤ 60 → Nat.gcd dv rs = Nat.gcd a b → av_V (av_S0 L) d ta_X6_partOfFraction 6 [.int (nI a), .int (nI b), .int w, .int (nI dv), .int (nI rs), .int (nI s), v] [] N = some (some (.long (sFrac a b w)), N) := by
    have done : ∀ (s dv : Nat) (v : Value), okv v → s < 64 → Nat.gcd dv 0 = Nat.gcd a b → av_V (av_S0 L) d ta_X6_partOfFraction 6 [.int (nI a), .int (nI b), .int w, .int (nI dv), .int (nI 0), .int (nI s), v] [] N = some (some (.long (sFrac a b w)), N) := by
      intro s dv v hv hs hgc
      rw [Nat.gcd_zero_right] at hgc
      rw [hgc]
      rcases hv with rfl | ⟨x, rfl⟩
      · apply eq_X6_partOfFraction_6_a
        simp only [av_kP, lN_of]
        rw [if_pos (nI_lt hs (by decide)), if_pos trivial]
        exact fin _ rfl
      · apply eq_X6_partOfFraction_6_b
        simp only [av_kP, lN_of]
        rw [if_pos (nI_lt hs (by decide)), if_pos trivial]
        exact fin _ rfl
    have one : ∀ (s dv rs : Nat) (v : Value), okv v → s < 64 → dv < 2 ^ 24 → 0 < rs → rs < 2 ^ 24 → ∀ q, av_V (av_S0 L) d ta_X6_partOfFraction 6 [.int (nI a), .int (nI b), .int w, .int (nI rs), .int (nI (dv % rs)), .int (nI (s + 1)), .int (nI (dv % rs))] [] N = some q → av_V (av_S0 L) d ta_X6_partOfFraction 6 [.int (nI a), .int (nI b), .int w, .int (nI dv), .int (nI rs), .int (nI s), v] [] N = some q := by
      intro s dv rs v hv hs hdv h0 hrs q hq
      rcases hv with rfl | ⟨x, rfl⟩
      · apply eq_X6_partOfFraction_6_a
        simp only [av_kP, lN_of]
        rw [if_pos (nI_lt hs (by decide)), if_neg (nI_ne (by omega) (by decide) (by omega)), av_nz_s h0 (by omega), av_rem (by omega) (by omega), nI_add]
        exact hq
      · apply eq_X6_partOfFraction_6_b
        simp only [av_kP, lN_of]
        rw [if_pos (nI_lt hs (by decide)), if_neg (nI_ne (by omega) (by decide) (by omega)), av_nz_s h0 (by omega), av_rem (by omega) (by omega), nI_add]
        exact hq
    intro k
    induction k with
    | zero =>
      intro s dv rs v hv hdv hrs _ hs hgc
      have : rs = 0 := by omega
      subst this
      exact done s dv v hv (by omega) hgc
    | succ k ih =>
      intro s dv rs v hv hdv hrs hk hs hgc
      have hp : 2 ^ (k + 1) ≤ 2 ^ 24 := Nat.pow_le_pow_right (by decide) hk
      by_cases h0 : rs = 0
      · subst h0
        exact done s dv v hv (by omega) hgc
      · have hr0 : 0 < rs := by omega
        refine one s dv rs v hv (by omega) hdv hr0 (by omega) _ ?_
        rw [gcd_step] at hgc
        have l1 : dv % rs < rs := Nat.mod_lt _ hr0
        by_cases h1 : dv % rs = 0
        · rw [h1] at hgc ⊢
          exact done (s + 1) rs _ (Or.inr ⟨_, rfl⟩) (by omega) hgc
        · have hm0 : 0 < dv % rs := by omega
          refine one (s + 1) rs (dv % rs) _ (Or.inr ⟨_, rfl⟩) (by omega) (by omega) hm0 (by omega) _ ?_
          rw [gcd_step] at hgc
          have l2 : rs % (dv % rs) < dv % rs := Nat.mod_lt _ hm0
          have l3 : rs % (dv % rs) ≤ rs - dv % rs := by
            have := Nat.mod_eq_sub_mod (a := rs) (b := dv % rs) (by omega)
            rw [this]
            exact Nat.mod_le _ _
          refine ih (s + 2) (dv % rs) (rs % (dv % rs)) _ (Or.inr ⟨_, rfl⟩) (by omega) ?_ (by omega) (by omega) hgc
          rw [Nat.pow_succ] at hrs
          omega
  apply eq_X6_partOfFraction
  rw [av_kP]
  exact key 24 0 b a am_junk (Or.inl rfl) hb ha (Nat.le_refl _) (by decide) (Nat.gcd_comm b a)
theorem sp_lowest (L : av_W) (d : Nat) {a b : Nat} {w : Int32} (ha : a < 2 ^ 24) (hb : b < 2 ^ 24) (h0 : 0 < b) (N : av_N) : av_C (av_S0 L) (d + 1) 189 [.ref 142, .int (nI a), .int (nI b), .int w] N = some (some (.long (sFrac a b w)), N) := by
  have hg : Nat.gcd a b ≤ b := Nat.gcd_le_right a h0
  have hg0 : 0 < Nat.gcd a b := Nat.gcd_pos_of_pos_right a h0
  have hda : a / Nat.gcd a b ≤ a := Nat.div_le_self _ _
  have hdb : b / Nat.gcd a b ≤ b := Nat.div_le_self _ _
  have key : ∀ (k p q : Nat) (v : Value), okv v → p < 2 ^ 24 → q < 2 ^ 24 → q ≤ k → av_V (av_S0 L) d ta_X7_divisor 4 [.ref 142, .int (nI a), .int (nI b), .int (nI p), .int (nI q), v] [] N = some (some (.int (nI (Nat.gcd p q))), N) := by
    intro k
    induction k with
    | zero =>
      intro p q v hv hp hq hk
      have : q = 0 := by omega
      subst this
      rcases hv with rfl | ⟨x, rfl⟩
      · apply eq_X7_divisor_4_a
        rw [av_kP, if_pos rfl, Nat.gcd_zero_right]
      · apply eq_X7_divisor_4_b
        rw [av_kP, if_pos rfl, Nat.gcd_zero_right]
    | succ k ih =>
      intro p q v hv hp hq hk
      by_cases hz : q = 0
      · subst hz
        rcases hv with rfl | ⟨x, rfl⟩
        · apply eq_X7_divisor_4_a
          rw [av_kP, if_pos rfl, Nat.gcd_zero_right]
        · apply eq_X7_divisor_4_b
          rw [av_kP, if_pos rfl, Nat.gcd_zero_right]
      · have l1 : p % q < q := Nat.mod_lt _ (by omega)
        have := ih q (p % q) (.int (nI (p % q))) (Or.inr ⟨_, rfl⟩) hq (by omega) (by omega)
        rw [gcd_step]
        rcases hv with rfl | ⟨x, rfl⟩
        · apply eq_X7_divisor_4_a
          rw [av_kP, if_neg (nI_ne (by omega) (by decide) hz), av_nz_s (by omega) (by omega), av_rem (by omega) (by omega)]
          exact this
        · apply eq_X7_divisor_4_b
          rw [av_kP, if_neg (nI_ne (by omega) (by decide) hz), av_nz_s (by omega) (by omega), av_rem (by omega) (by omega)]
          exact this
  have hdv : av_C (av_S0 L) d 188 [.ref 142, .int (nI a), .int (nI b)] N = some (some (.int (nI (Nat.gcd a b))), N) := by
    apply eq_X7_divisor
    exact key b a b am_junk (Or.inl rfl) ha hb (Nat.le_refl _)
  apply eq_X7_lowest (d := d)
  rw [hdv, av_bi_s, av_kP, av_nz_s hg0 (by omega), av_nz_s hg0 (by omega), av_div (by omega) (by omega), av_div (by omega) (by omega), nI_l (by omega), nI_l (by omega)]
  unfold sFrac
  by_cases h : w = nI 0
  · rw [if_pos h, if_pos h]
  · rw [if_neg h, if_neg h]
theorem ca_odds (L : av_W) (d : Nat) {N : av_N} {n day : Nat} {B : Nat → Nat → Nat} {cs : List (Nat × Nat × List Nat)} (hc : al_cv N n day B cs) (hm : al_mv N n day B cs) (y w : Int32) : al_ask L (d + 20) N n day B cs 70 [.ref 9, .int y, .int w] 190 [.ref 142, .int y, .int w] := by
  obtain ⟨hs, e, he⟩ := hc
  have hn := hs.1
  have ht := sTop_le cs
  obtain ⟨q1, q2, q3, q4⟩ := al_epE (al_ep_e he.1) L
  have hes := he.2.2.1.2.2.2.1
  cases hy : av_wi y (nI 0) (nI 23)
  · refine ask_eq hm (.long (Int64.ofNat 9223372036854775808)) ?_ ?_
    · apply eq_X6_odds (d := d + 19)
      simp only [av_kP]
      rw [sp_within, av_bi_s, hy, av_if_f]
    · apply eq_X7_odds (d := d + 19)
      rw [sp_isHour, av_bi_s, hy, av_if_fk]
  obtain ⟨t, htt, rfl⟩ := av_wiH hy
  cases hw : av_wi w (nI 0) (nI 1)
  · refine ask_eq hm (.long (Int64.ofNat 9223372036854775808)) ?_ ?_
    · apply eq_X6_odds (d := d + 19)
      simp only [av_kP]
      rw [sp_within, av_bi_s, hy, av_if_t, sp_within, av_bi_s, hw, av_if_f]
    · apply eq_X7_odds (d := d + 19)
      simp only [av_kP]
      rw [sp_isHour, av_bi_s, hy, av_if_t, sp_in, av_bi_s, hw, av_if_f]
  obtain ⟨N1, c1, c2, c3⟩ := sp_layAir_10 L (d + 16) hs ht.2 neN
  have hfl := sFree_lt B n day t ht.2
  have hp := sPop_le 10 (sFree B n (sTop cs) day t)
  refine ask_eq2 hm (.long (sFrac (sPop 10 (sFree B n (sTop cs) day t)) (sTop cs) w)) (N1 := N1) ?_ (al_dLC c3) (fun M hm => ?_)
  · apply eq_X6_odds (d := d + 19)
    simp only [av_kP]
    rw [sp_within, av_bi_s, hy, av_if_t, sp_within, av_bi_s, hw, av_if_t, sp_estuaryNow L _ he, av_br_s, q1, av_tg_s, hes, c1, av_bv_s, sp_freeAt L _ hn c2 ht.2 htt, av_bi_s, sp_bc10 L _ hfl, av_bi_s, sp_part L _ (by omega) (by omega) (by omega), av_bl_s]
  · obtain ⟨b0, hme⟩ := hm.2.2.2.1
    apply eq_X7_odds (d := d + 19)
    simp only [av_kP]
    rw [sp_isHour, av_bi_s, hy, av_if_t, sp_in, av_bi_s, hw, av_if_t, sp_freeAtM L _ hm htt, av_bi_s, sp_ones L _ hfl, av_bi_s, sp_topM L _ hme, av_bi_s, sp_lowest L _ (by omega) (by omega) (by omega), av_bl_s]
theorem ca_mean (L : av_W) (d : Nat) {N : av_N} {n day : Nat} {B : Nat → Nat → Nat} {cs : List (Nat × Nat × List Nat)} (hc : al_cv N n day B cs) (hm : al_mv N n day B cs) (w : Int32) : al_ask L (d + 20) N n day B cs 71 [.ref 9, .int w] 191 [.ref 142, .int w] := by
  obtain ⟨hs, e, he⟩ := hc
  have hn := hs.1
  have hgl : sGone B n < 1024 := sBits_1024 _ (by omega)
  have hpop : sPop 10 (sGone B n) ≤ n := by
    unfold sGone
    rw [sPop_bits _ (by omega)]
    have := sumN_le (f := fun i => if B i 9 == 1 then 1 else 0) (c := 1) (n := n) (fun i _ => by split <;> omega)
    omega
  have hrl : sAllRent B n cs day ≤ 7 * 237840 := by
    have := sumN_le (f := fun b => sRent (B b) cs (sTop cs) day) (c := 237840) (n := n) (fun b hb => sRent_le (hs.2.2.2.1 b hb).2.1 he.2.2.2.1 he.2.2.2.2 _ _)
    exact Nat.le_trans this (Nat.mul_le_mul_right _ hn)
  by_cases hz : n - sPop 10 (sGone B n) = 0
  · refine ask_eq hm (.long (Int64.ofNat 9223372036854775808)) ?_ ?_
    · apply eq_X6_mean (d := d + 19)
      simp only [av_kP]
      rw [sp_outBits L _ hs, av_bi_s, sp_bc10 L _ hgl, av_bi_s, hs.2.1, av_sub hpop, hz, if_pos rfl]
    · apply eq_X7_mean (d := d + 19)
      simp only [av_kP]
      rw [hm.2.2.1, sp_ones L _ hgl, av_bi_s, sp_in, av_bi_s, hm.2.1.1, av_sub hpop, hz, if_neg (show ¬ nI 0 < nI 0 by decide)]
      cases av_wi w (nI 0) (nI 1)
      · rw [av_if_f]
      · rw [av_if_t]
  cases hw : av_wi w (nI 0) (nI 1)
  · refine ask_eq hm (.long (Int64.ofNat 9223372036854775808)) ?_ ?_
    · apply eq_X6_mean (d := d + 19)
      simp only [av_kP]
      rw [sp_outBits L _ hs, av_bi_s, sp_bc10 L _ hgl, av_bi_s, hs.2.1, av_sub hpop, if_neg (nI_ne (by omega) (by decide) hz), sp_within, av_bi_s, hw, av_if_f]
    · apply eq_X7_mean (d := d + 19)
      simp only [av_kP]
      rw [hm.2.2.1, sp_ones L _ hgl, av_bi_s, sp_in, av_bi_s, hw, av_if_f]
  refine ask_160 hm (.long (sFrac (sAllRent B n cs day) (n - sPop 10 (sGone B n)) w)) ?_ ?_
  · apply eq_X6_mean (d := d + 19)
    simp only [av_kP]
    rw [sp_outBits L _ hs, av_bi_s, sp_bc10 L _ hgl, av_bi_s, hs.2.1, av_sub hpop, if_neg (nI_ne (by omega) (by decide) hz), sp_within, av_bi_s, hw, av_if_t, sp_rentOfAll_10 L _ hs he, av_bi_s, sp_part L _ (by omega) (by omega) (by omega), av_bl_s]
  · obtain ⟨N2, c, f⟩ := sp_allRentM L (d + 13) hm
    refine ⟨N2, ?_, f⟩
    apply eq_X7_mean (d := d + 19)
    simp only [av_kP]
    rw [hm.2.2.1, sp_ones L _ hgl, av_bi_s, sp_in, av_bi_s, hw, av_if_t, hm.2.1.1, av_sub hpop, if_pos (nI_lt (by omega) (by omega)), c, av_bi_s, sp_lowest L _ (by omega) (by omega) (by omega), av_bl_s]
