/-! questions: the class's answer and the reference's, one behind the other -/
abbrev al_dC (q : Nat) : Prop := 77 ≤ q ∧ q ≤ 115
def al_ask (L : av_W) (d : Nat) (N : av_N) (n day : Nat) (B : Nat → Nat → Nat) (cs : List (Nat × Nat × List Nat)) (mc : Nat) (ac : List Value) (mm : Nat) (am : List Value) : Prop := ∃ v N1 N2, av_C (av_S0 L) d mc ac N = some (some v, N1) ∧ al_fr al_dC N N1 ∧ av_C (av_S0 L) d mm am N1 = some (some v, N2) ∧ al_mv N2 n day B cs ∧ al_f2 al_qM N1 N2
theorem ask_of {L : av_W} {d : Nat} {N : av_N} {n day : Nat} {B : Nat → Nat → Nat} {cs : List (Nat × Nat × List Nat)} {mc mm : Nat} {ac am : List Value} (hm : al_mv N n day B cs) (v : Value) {N1 : av_N} (h1 : av_C (av_S0 L) d mc ac N = some (some v, N1)) (hf : al_fr al_dC N N1) (h2 : ∀ M, al_fr al_dC N M → al_mv M n day B cs → ∃ N2, av_C (av_S0 L) d mm am M = some (some v, N2) ∧ al_mv N2 n day B cs ∧ al_f2 al_qM M N2) : al_ask L d N n day B cs mc ac mm am := by
  obtain ⟨N2, c, h, f⟩ := h2 N1 hf (al_mv_fr hm (fun q k a b c => (hf q (by unfold al_dC; omega) k).1))
  exact ⟨v, N1, N2, h1, hf, c, h, f⟩
/-- neither changes anything -/
theorem ask_eq {L : av_W} {d : Nat} {N : av_N} {n day : Nat} {B : Nat → Nat → Nat} {cs : List (Nat × Nat × List Nat)} {mc mm : Nat} {ac am : List Value} (hm : al_mv N n day B cs) (v : Value) (h1 : av_C (av_S0 L) d mc ac N = some (some v, N)) (h2 : av_C (av_S0 L) d mm am N = some (some v, N)) : al_ask L d N n day B cs mc ac mm am := ⟨v, N, N, h1, al_fr_rf _ _, h2, hm, al_f2_rf _ _⟩
theorem ask_160 {L : av_W} {d : Nat} {N : av_N} {n day : Nat} {B : Nat → Nat → Nat} {cs : List (Nat × Nat × List Nat)} {mc mm : Nat} {ac am : List Value} (hm : al_mv N n day B cs) (v : Value) (h1 : av_C (av_S0 L) d mc ac N = some (some v, N)) (h2 : ∃ N2, av_C (av_S0 L) d mm am N = some (some v, N2) ∧ al_fr (fun q => q = 160) N N2) : al_ask L d N n day B cs mc ac mm am := by
  obtain ⟨N2, c, f⟩ := h2
  exact ⟨v, N, N2, h1, al_fr_rf _ _, c, al_mv_160 hm f, al_q160 f⟩
theorem ask_eq2 {L : av_W} {d : Nat} {N : av_N} {n day : Nat} {B : Nat → Nat → Nat} {cs : List (Nat × Nat × List Nat)} {mc mm : Nat} {ac am : List Value} (hm : al_mv N n day B cs) (v : Value) {N1 : av_N} (h1 : av_C (av_S0 L) d mc ac N = some (some v, N1)) (hf : al_fr al_dC N N1) (h2 : ∀ M, al_mv M n day B cs → av_C (av_S0 L) d mm am M = some (some v, M)) : al_ask L d N n day B cs mc ac mm am := ask_of hm v h1 hf (fun M _ hM => ⟨M, h2 M hM, hM, al_f2_rf _ _⟩)
theorem av_if_f {α : Type} (A B : α) : (if av_b false = nI 0 then A else B) = A := if_pos rfl
theorem av_if_t {α : Type} (A B : α) : (if av_b true = nI 0 then A else B) = B := if_neg (by decide)
theorem av_if_fk {α : Type} (A B : α) : (if av_b false = av_k 0 then A else B) = A := if_pos (by decide)
theorem av_if_tk {α : Type} (A B : α) : (if av_b true = av_k 0 then A else B) = B := if_neg (by decide)
theorem al_dLC {N N1 : av_N} (h : al_fr al_dL N N1) : al_fr al_dC N N1 := al_fr_mono h (fun q z => by unfold al_dC; unfold al_dL at z; omega)
theorem sp_outBits (L : av_W) (d : Nat) {N : av_N} {n day : Nat} {B : Nat → Nat → Nat} (hs : al_sn N 10 27 n day B) : av_C (av_S0 L) d 40 [.ref 10] N = some (some (.int (nI (sGone B n))), N) := by
  have hn := hs.1
  have key := lp_0 (P := fun k => av_V (av_S0 L) d ta_X4_outBits 4 [.ref 10, .int (nI (sBits (fun b => B b 9 == 1) k)), .int (nI k)] [] N = some (some (.int (nI (sGone B n))), N)) n (by
    apply eq_X4_outBits_10_4
    rw [hs.2.1, if_neg (nI_nlt (Nat.le_refl _) (by omega))]
    rfl) (fun k hk ih => by
    obtain ⟨kb, ok, -⟩ := hs.2.2.2.1 k hk
    have hbp : al_bp (27 + 2 * k) := al_bp27 (by omega)
    obtain ⟨s1, s2, s3, s4⟩ := al_bpE hbp L
    have h9 : B k 9 ≤ 1 := ok.2.2.2.2.2.2.2.2.2.2.1
    apply eq_X4_outBits_10_4
    rw [hs.2.1, if_pos (nI_lt hk (by omega)), av_gx_s (by omega) (by omega), nI_clamp (by omega), al_R11 k (by omega), av_bd_s, s1, av_tg_s, kb.1 9 (by decide) (by decide)]
    simp (disch := omega) only [av_kP, nI_eq, nI_add, av_shl, av_or, Nat.one_mul]
    have e : sBits (fun b => B b 9 == 1) (k + 1) = sBits (fun b => B b 9 == 1) k ||| (if B k 9 == 1 then 2 ^ k else 0) := rfl
    rw [e] at ih
    by_cases h0 : B k 9 = 0
    · rw [if_pos h0]
      rw [h0] at ih
      exact ih
    · rw [if_neg h0]
      rw [show B k 9 = 1 by omega] at ih
      exact ih)
  apply eq_X4_outBits_10
  rw [av_kP]
  exact key
theorem sp_partOf (L : av_W) (d : Nat) {N : av_N} {n day : Nat} {B : Nat → Nat → Nat} {cs : List (Nat × Nat × List Nat)} (hm : al_mv N n day B cs) {b f : Nat} (hb : b < n) (hf : f ≤ 4) : av_C (av_S0 L) d 122 [.ref 142, .int (nI b), .int (nI f)] N = some (some (.int (nI (B b (4 + f)))), N) := by
  have hn := hm.1
  obtain ⟨m1, m2, m3, m4, m5, m6, m7, m8⟩ := hm.2.1.2.2 b hb
  apply eq_X7_partOf
  rcases (by omega : f = 0 ∨ f = 1 ∨ f = 2 ∨ f = 3 ∨ f = 4) with rfl | rfl | rfl | rfl | rfl <;> simp (disch := omega) only [av_gx_s, nI_clamp, m3, m4, m5, m6, m7, av_kP, nI_eq] <;> rfl
theorem ca_of (L : av_W) (d : Nat) {N : av_N} {n day : Nat} {B : Nat → Nat → Nat} {cs : List (Nat × Nat × List Nat)} (hc : al_cv N n day B cs) (hm : al_mv N n day B cs) (x w : Int32) : al_ask L (d + 20) N n day B cs 48 [.ref 9, .int x, .int w] 155 [.ref 142, .int x, .int w] := by
  obtain ⟨hs, e, he⟩ := hc
  have hn := hs.1
  have hd := hs.2.2.2.2
  have ht := sTop_le cs
  cases hx : av_lt x n
  · refine ask_eq hm (.int (av_k (-1))) ?_ ?_
    · apply eq_X6_of (d := d + 19)
      rw [sp_birdAt_no L _ hs.2.1 hx, av_br_n]
    · apply eq_X7_of (d := d + 19)
      rw [sp_isBird L _ x hm.2.1.1 (by omega), av_bi_s, hx, av_if_fk]
  obtain ⟨b, hb, rfl⟩ := (av_ltE (by omega)).mp hx
  obtain ⟨kb, ok, k1⟩ := hs.2.2.2.1 b hb
  obtain ⟨m1, m2, m3, m4, m5, m6, m7, m8⟩ := hm.2.1.2.2 b hb
  have hbp : al_bp (27 + 2 * b) := al_bp27 (by omega)
  obtain ⟨s1, s2, s3, s4⟩ := al_bpE hbp L
  obtain ⟨q1, q2, q3, q4⟩ := al_epE (al_ep_e he.1) L
  have h9 : B b 9 ≤ 1 := ok.2.2.2.2.2.2.2.2.2.2.1
  have hbirdC := sp_birdAt L (d + 19) hs.2.1 hn hb
  have hestC := sp_estuaryNow L (d + 18) he
  have hbirdM := sp_isBird L (d + 18) (nI b) hm.2.1.1 (show n < 2 ^ 31 by omega)
  by_cases h0 : w = nI 0
  · subst h0
    refine ask_eq hm (.int (nI (B b 2))) ?_ ?_
    · apply eq_X6_of (d := d + 19)
      rw [hbirdC, av_br_s, hestC, av_br_s]
      simp only [av_kP]
      rw [if_pos trivial, s1, av_tg_s, kb.1 2 (by decide) (by decide)]
    · apply eq_X7_of (d := d + 19)
      rw [hbirdM, av_bi_s, hx, av_if_tk]
      simp only [av_kP]
      rw [if_pos trivial, av_gx_s (by omega) (by omega), nI_clamp (by omega), m1]
  by_cases h1 : w = nI 1
  · subst h1
    refine ask_eq hm (.int (nI (B b 3))) ?_ ?_
    · apply eq_X6_of (d := d + 19)
      rw [hbirdC, av_br_s, hestC, av_br_s]
      simp only [av_kP]
      rw [if_neg (by decide), if_pos trivial, s1, av_tg_s, kb.1 3 (by decide) (by decide)]
    · apply eq_X7_of (d := d + 19)
      rw [hbirdM, av_bi_s, hx, av_if_tk]
      simp only [av_kP]
      rw [if_neg (by decide), if_pos trivial, av_gx_s (by omega) (by omega), nI_clamp (by omega), m2]
  by_cases h2 : w = nI 2
  · subst h2
    refine ask_eq hm (.int (nI (B b 4))) ?_ ?_
    · apply eq_X6_of (d := d + 19)
      rw [hbirdC, av_br_s, hestC, av_br_s]
      simp only [av_kP]
      rw [if_neg (by decide), if_neg (by decide), if_pos trivial, s1, av_tg_s, kb.1 4 (by decide) (by decide)]
    · apply eq_X7_of (d := d + 19)
      rw [hbirdM, av_bi_s, hx, av_if_tk]
      simp only [av_kP]
      rw [if_neg (by decide), if_neg (by decide), if_pos trivial, av_sub (by decide), sp_partOf L _ hm hb (by decide), av_bi_s]
  by_cases h3 : w = nI 3
  · subst h3
    refine ask_eq hm (.int (nI (B b 5))) ?_ ?_
    · apply eq_X6_of (d := d + 19)
      rw [hbirdC, av_br_s, hestC, av_br_s]
      simp only [av_kP]
      rw [if_neg (by decide), if_neg (by decide), if_neg (by decide), if_pos trivial, s1, av_tg_s, kb.1 5 (by decide) (by decide)]
    · apply eq_X7_of (d := d + 19)
      rw [hbirdM, av_bi_s, hx, av_if_tk]
      simp only [av_kP]
      rw [if_neg (by decide), if_neg (by decide), if_neg (by decide), if_pos trivial, av_sub (by decide), sp_partOf L _ hm hb (by decide), av_bi_s]
  by_cases h4 : w = nI 4
  · subst h4
    refine ask_eq hm (.int (nI (B b 6))) ?_ ?_
    · apply eq_X6_of (d := d + 19)
      rw [hbirdC, av_br_s, hestC, av_br_s]
      simp only [av_kP]
      rw [if_neg (by decide), if_neg (by decide), if_neg (by decide), if_neg (by decide), if_pos trivial, s1, av_tg_s, kb.1 6 (by decide) (by decide)]
    · apply eq_X7_of (d := d + 19)
      rw [hbirdM, av_bi_s, hx, av_if_tk]
      simp only [av_kP]
      rw [if_neg (by decide), if_neg (by decide), if_neg (by decide), if_neg (by decide), if_pos trivial, av_sub (by decide), sp_partOf L _ hm hb (by decide), av_bi_s]
  by_cases h5 : w = nI 5
  · subst h5
    refine ask_eq hm (.int (nI (B b 7))) ?_ ?_
    · apply eq_X6_of (d := d + 19)
      rw [hbirdC, av_br_s, hestC, av_br_s]
      simp only [av_kP]
      rw [if_neg (by decide), if_neg (by decide), if_neg (by decide), if_neg (by decide), if_neg (by decide), if_pos trivial, s1, av_tg_s, kb.1 7 (by decide) (by decide)]
    · apply eq_X7_of (d := d + 19)
      rw [hbirdM, av_bi_s, hx, av_if_tk]
      simp only [av_kP]
      rw [if_neg (by decide), if_neg (by decide), if_neg (by decide), if_neg (by decide), if_neg (by decide), if_pos trivial, av_sub (by decide), sp_partOf L _ hm hb (by decide), av_bi_s]
  by_cases h6 : w = nI 6
  · subst h6
    refine ask_eq hm (.int (nI (B b 8))) ?_ ?_
    · apply eq_X6_of (d := d + 19)
      rw [hbirdC, av_br_s, hestC, av_br_s]
      simp only [av_kP]
      rw [if_neg (by decide), if_neg (by decide), if_neg (by decide), if_neg (by decide), if_neg (by decide), if_neg (by decide), if_pos trivial, s1, av_tg_s, kb.1 8 (by decide) (by decide)]
    · apply eq_X7_of (d := d + 19)
      rw [hbirdM, av_bi_s, hx, av_if_tk]
      simp only [av_kP]
      rw [if_neg (by decide), if_neg (by decide), if_neg (by decide), if_neg (by decide), if_neg (by decide), if_neg (by decide), if_pos trivial, av_sub (by decide), sp_partOf L _ hm hb (by decide), av_bi_s]
  by_cases h7 : w = nI 7
  · subst h7
    refine ask_eq hm (.int (nI (B b 9))) ?_ ?_
    · apply eq_X6_of (d := d + 19)
      rw [hbirdC, av_br_s, hestC, av_br_s]
      simp only [av_kP]
      rw [if_neg (by decide), if_neg (by decide), if_neg (by decide), if_neg (by decide), if_neg (by decide), if_neg (by decide), if_neg (by decide), if_pos trivial, s1, av_tg_s, kb.1 9 (by decide) (by decide)]
      rcases (by omega : B b 9 = 0 ∨ B b 9 = 1) with h | h <;> rw [h] <;> rfl
    · apply eq_X7_of (d := d + 19)
      rw [hbirdM, av_bi_s, hx, av_if_tk]
      simp only [av_kP]
      rw [if_neg (by decide), if_neg (by decide), if_neg (by decide), if_neg (by decide), if_neg (by decide), if_neg (by decide), if_neg (by decide), if_pos trivial, hm.2.2.1, sp_hasG L _ hm hb, av_bi_s]
      rcases (by omega : B b 9 = 0 ∨ B b 9 = 1) with h | h <;> rw [h] <;> rfl
  by_cases h8 : w = nI 8
  · subst h8
    refine ask_eq hm (.int (nI (sBot (B b)))) ?_ ?_
    · apply eq_X6_of (d := d + 19)
      rw [hbirdC, av_br_s, hestC, av_br_s]
      simp only [av_kP]
      rw [if_neg (by decide), if_neg (by decide), if_neg (by decide), if_neg (by decide), if_neg (by decide), if_neg (by decide), if_neg (by decide), if_neg (by decide), if_pos trivial, s1, av_tg_s, sp_bottom L _ hbp kb ok, av_bi_s]
    · apply eq_X7_of (d := d + 19)
      rw [hbirdM, av_bi_s, hx, av_if_tk]
      simp only [av_kP]
      rw [if_neg (by decide), if_neg (by decide), if_neg (by decide), if_neg (by decide), if_neg (by decide), if_neg (by decide), if_neg (by decide), if_neg (by decide), if_pos trivial, sp_bottomM L _ hn hm.2.1 hb ok, av_bi_s]
  by_cases h9 : w = nI 9
  · subst h9
    refine ask_eq hm (.int (nI (sBeg (B b) day))) ?_ ?_
    · apply eq_X6_of (d := d + 19)
      rw [hbirdC, av_br_s, hestC, av_br_s]
      simp only [av_kP]
      rw [if_neg (by decide), if_neg (by decide), if_neg (by decide), if_neg (by decide), if_neg (by decide), if_neg (by decide), if_neg (by decide), if_neg (by decide), if_neg (by decide), if_pos trivial, s1, av_tg_s, hs.2.2.1, sp_begins L _ hbp kb ok (by omega), av_bi_s]
    · apply eq_X7_of (d := d + 19)
      rw [hbirdM, av_bi_s, hx, av_if_tk]
      simp only [av_kP]
      rw [if_neg (by decide), if_neg (by decide), if_neg (by decide), if_neg (by decide), if_neg (by decide), if_neg (by decide), if_neg (by decide), if_neg (by decide), if_neg (by decide), if_pos trivial, sp_beginsM L _ hn hm.2.1 hb ok (by omega), av_bi_s]
  by_cases h10 : w = nI 10
  · subst h10
    refine ask_160 hm (.int (nI (sPrice (sTr (B b) day) cs))) ?_ ?_
    · apply eq_X6_of (d := d + 19)
      rw [hbirdC, av_br_s, hestC, av_br_s]
      simp only [av_kP]
      rw [if_neg (by decide), if_neg (by decide), if_neg (by decide), if_neg (by decide), if_neg (by decide), if_neg (by decide), if_neg (by decide), if_neg (by decide), if_neg (by decide), if_neg (by decide), if_pos trivial, q1, av_tg_s, hs.2.2.1, sp_price L _ (al_ep_e he.1) he.2.2.1 hbp kb ok (by omega) he.2.2.2.1 he.2.2.2.2, av_bi_s]
    · obtain ⟨N2, c, f⟩ := sp_priceM L (d + 17) hm hb
      refine ⟨N2, ?_, f⟩
      apply eq_X7_of (d := d + 19)
      rw [hbirdM, av_bi_s, hx, av_if_tk]
      simp only [av_kP]
      rw [if_neg (by decide), if_neg (by decide), if_neg (by decide), if_neg (by decide), if_neg (by decide), if_neg (by decide), if_neg (by decide), if_neg (by decide), if_neg (by decide), if_neg (by decide), if_pos trivial, c, av_bi_s]
  by_cases h11 : w = nI 11
  · subst h11
    refine ask_eq hm (.int (nI (sStrips (B b) (sTop cs)))) ?_ ?_
    · apply eq_X6_of (d := d + 19)
      rw [hbirdC, av_br_s, hestC, av_br_s]
      simp only [av_kP]
      rw [if_neg (by decide), if_neg (by decide), if_neg (by decide), if_neg (by decide), if_neg (by decide), if_neg (by decide), if_neg (by decide), if_neg (by decide), if_neg (by decide), if_neg (by decide), if_neg (by decide), if_pos trivial, q1, av_tg_s, s1, av_tg_s, he.2.2.1.2.2.2.1, sp_strips L _ hbp kb ok ht.2, av_bi_s]
    · apply eq_X7_of (d := d + 19)
      rw [hbirdM, av_bi_s, hx, av_if_tk]
      simp only [av_kP]
      rw [if_neg (by decide), if_neg (by decide), if_neg (by decide), if_neg (by decide), if_neg (by decide), if_neg (by decide), if_neg (by decide), if_neg (by decide), if_neg (by decide), if_neg (by decide), if_neg (by decide), if_pos trivial, sp_stripsM L _ hm hb, av_bi_s]
  by_cases h12 : w = nI 12
  · subst h12
    refine ask_160 hm (.int (nI (sRent (B b) cs (sTop cs) day))) ?_ ?_
    · apply eq_X6_of (d := d + 19)
      rw [hbirdC, av_br_s, hestC, av_br_s]
      simp only [av_kP]
      rw [if_neg (by decide), if_neg (by decide), if_neg (by decide), if_neg (by decide), if_neg (by decide), if_neg (by decide), if_neg (by decide), if_neg (by decide), if_neg (by decide), if_neg (by decide), if_neg (by decide), if_neg (by decide), if_pos trivial, s1, av_tg_s, hs.2.2.1, sp_rent L _ (al_ep_e he.1) he.2.2.1 hbp kb ok (by omega) he.2.2.2.1 he.2.2.2.2, av_bi_s]
    · obtain ⟨N2, c, f⟩ := sp_rentM L (d + 14) hm hb
      refine ⟨N2, ?_, f⟩
      apply eq_X7_of (d := d + 19)
      rw [hbirdM, av_bi_s, hx, av_if_tk]
      simp only [av_kP]
      rw [if_neg (by decide), if_neg (by decide), if_neg (by decide), if_neg (by decide), if_neg (by decide), if_neg (by decide), if_neg (by decide), if_neg (by decide), if_neg (by decide), if_neg (by decide), if_neg (by decide), if_neg (by decide), if_pos trivial, c, av_bi_s]
  refine ask_eq hm (.int (av_k (-1))) ?_ ?_
  · apply eq_X6_of (d := d + 19)
    rw [hbirdC, av_br_s, hestC, av_br_s]
    simp only [av_kP]
    rw [if_neg h0, if_neg h1, if_neg h2, if_neg h3, if_neg h4, if_neg h5, if_neg h6, if_neg h7, if_neg h8, if_neg h9, if_neg h10, if_neg h11, if_neg h12]
  · apply eq_X7_of (d := d + 19)
    rw [hbirdM, av_bi_s, hx, av_if_tk]
    simp only [av_kP]
    rw [if_neg h0, if_neg h1, if_neg h2, if_neg h3, if_neg h4, if_neg h5, if_neg h6, if_neg h7, if_neg h8, if_neg h9, if_neg h10, if_neg h11, if_neg h12]
theorem ca_told (L : av_W) (d : Nat) {N : av_N} {n day : Nat} {B : Nat → Nat → Nat} {cs : List (Nat × Nat × List Nat)} (hc : al_cv N n day B cs) (hm : al_mv N n day B cs) (w : Int32) : al_ask L (d + 20) N n day B cs 54 [.ref 9, .int w] 161 [.ref 142, .int w] := by
  obtain ⟨hs, e, he⟩ := hc
  have hn := hs.1
  have ht := sTop_le cs
  obtain ⟨q1, q2, q3, q4⟩ := al_epE (al_ep_e he.1) L
  have hestC := sp_estuaryNow L (d + 18) he
  obtain ⟨b0, hme⟩ := hm.2.2.2.1
  by_cases h0 : w = nI 0
  · subst h0
    refine ask_eq hm (.int (nI day)) ?_ ?_
    · apply eq_X6_told (d := d + 19)
      rw [hestC, av_br_s]
      simp only [av_kP]
      rw [if_pos trivial, hs.2.2.1]
    · apply eq_X7_told (d := d + 19)
      simp only [av_kP]
      rw [if_pos trivial, hm.2.1.2.1]
  by_cases h1 : w = nI 1
  · subst h1
    refine ask_eq hm (.int (nI (sGain cs))) ?_ ?_
    · apply eq_X6_told (d := d + 19)
      rw [hestC, av_br_s]
      simp only [av_kP]
      rw [if_neg (by decide), if_pos trivial, q1, av_tg_s, he.2.2.1.2.2.1]
    · apply eq_X7_told (d := d + 19)
      simp only [av_kP]
      rw [if_neg (by decide), if_pos trivial, sp_lastOf L _ hme (by decide), av_bi_s]
      rfl
  by_cases h2 : w = nI 2
  · subst h2
    refine ask_eq hm (.int (nI (sTop cs))) ?_ ?_
    · apply eq_X6_told (d := d + 19)
      rw [hestC, av_br_s]
      simp only [av_kP]
      rw [if_neg (by decide), if_neg (by decide), if_pos trivial, q1, av_tg_s, he.2.2.1.2.2.2.1]
    · apply eq_X7_told (d := d + 19)
      simp only [av_kP]
      rw [if_neg (by decide), if_neg (by decide), if_pos trivial, sp_topM L _ hme, av_bi_s]
  by_cases h3 : w = nI 3
  · subst h3
    refine ask_eq hm (.int (nI (sGone B n))) ?_ ?_
    · apply eq_X6_told (d := d + 19)
      rw [hestC, av_br_s]
      simp only [av_kP]
      rw [if_neg (by decide), if_neg (by decide), if_neg (by decide), if_pos trivial, sp_outBits L _ hs, av_bi_s]
    · apply eq_X7_told (d := d + 19)
      simp only [av_kP]
      rw [if_neg (by decide), if_neg (by decide), if_neg (by decide), if_pos trivial, hm.2.2.1]
  by_cases h4 : w = nI 4
  · subst h4
    obtain ⟨N1, c, f⟩ := sp_freeStrips L (d + 15) hs ht.2
    refine ask_eq2 hm (.int (nI (sAllFree B n (sTop cs) day))) (N1 := N1) ?_ (al_dLC f) (fun M hm => ?_)
    · apply eq_X6_told (d := d + 19)
      rw [hestC, av_br_s]
      simp only [av_kP]
      rw [if_neg (by decide), if_neg (by decide), if_neg (by decide), if_neg (by decide), if_pos trivial, q1, av_tg_s, he.2.2.1.2.2.2.1, c, av_bi_s]
    · apply eq_X7_told (d := d + 19)
      simp only [av_kP]
      rw [if_neg (by decide), if_neg (by decide), if_neg (by decide), if_neg (by decide), if_pos trivial, sp_allFree L _ hm, av_bi_s]
  by_cases h5 : w = nI 5
  · subst h5
    obtain ⟨N1, c, f⟩ := sp_crowded_10 L (d + 15) hs he
    refine ask_eq2 hm (.int (nI (sCrowd B n (sTop cs) day))) (N1 := N1) ?_ (al_dLC f) (fun M hm => ?_)
    · apply eq_X6_told (d := d + 19)
      rw [hestC, av_br_s]
      simp only [av_kP]
      rw [if_neg (by decide), if_neg (by decide), if_neg (by decide), if_neg (by decide), if_neg (by decide), if_pos trivial, c, av_bi_s]
    · apply eq_X7_told (d := d + 19)
      simp only [av_kP]
      rw [if_neg (by decide), if_neg (by decide), if_neg (by decide), if_neg (by decide), if_neg (by decide), if_pos trivial, sp_crowdedM L _ hm, av_bi_s]
  by_cases h6 : w = nI 6
  · subst h6
    refine ask_160 hm (.int (nI (sAllRent B n cs day))) ?_ ?_
    · apply eq_X6_told (d := d + 19)
      rw [hestC, av_br_s]
      simp only [av_kP]
      rw [if_neg (by decide), if_neg (by decide), if_neg (by decide), if_neg (by decide), if_neg (by decide), if_neg (by decide), if_pos trivial, sp_rentOfAll_10 L _ hs he, av_bi_s]
    · obtain ⟨N2, c, f⟩ := sp_allRentM L (d + 13) hm
      refine ⟨N2, ?_, f⟩
      apply eq_X7_told (d := d + 19)
      simp only [av_kP]
      rw [if_neg (by decide), if_neg (by decide), if_neg (by decide), if_neg (by decide), if_neg (by decide), if_neg (by decide), if_pos trivial, c, av_bi_s]
  refine ask_eq hm (.int (av_k (-1))) ?_ ?_
  · apply eq_X6_told (d := d + 19)
    rw [hestC, av_br_s]
    simp only [av_kP]
    rw [if_neg h0, if_neg h1, if_neg h2, if_neg h3, if_neg h4, if_neg h5, if_neg h6]
  · apply eq_X7_told (d := d + 19)
    simp only [av_kP]
    rw [if_neg h0, if_neg h1, if_neg h2, if_neg h3, if_neg h4, if_neg h5, if_neg h6]
theorem av_wiH {x : Int32} (h : av_wi x (nI 0) (nI 23) = true) : ∃ t, t < 24 ∧ x = nI t := by
  obtain ⟨j, h1, h2, h3⟩ := (av_wiE (by decide) (by decide)).mp h
  exact ⟨j, by omega, h3⟩
theorem ca_held (L : av_W) (d : Nat) {N : av_N} {n day : Nat} {B : Nat → Nat → Nat} {cs : List (Nat × Nat × List Nat)} (hc : al_cv N n day B cs) (hm : al_mv N n day B cs) (x y : Int32) : al_ask L (d + 20) N n day B cs 55 [.ref 9, .int x, .int y] 163 [.ref 142, .int x, .int y] := by
  obtain ⟨hs, e, he⟩ := hc
  have hn := hs.1
  have hd := hs.2.2.2.2
  have ht := sTop_le cs
  obtain ⟨q1, q2, q3, q4⟩ := al_epE (al_ep_e he.1) L
  have hestC := sp_estuaryNow L (d + 18) he
  have hes := he.2.2.1.2.2.2.1
  cases hx : av_lt x (sTop cs)
  · refine ask_eq hm (.int (av_k (-1))) ?_ ?_
    · apply eq_X6_held (d := d + 19)
      simp only [av_kP]
      rw [hestC, av_br_s, q1, av_tg_s, hes, sp_within, av_bi_s, av_lt_wi (by omega), hx, av_if_f]
    · apply eq_X7_held (d := d + 19)
      rw [sp_isHeight L _ hm, av_bi_s, hx, av_if_fk]
  obtain ⟨h, hh, rfl⟩ := (av_ltE (by omega)).mp hx
  cases hy : av_wi y (nI 0) (nI 23)
  · refine ask_eq hm (.int (av_k (-1))) ?_ ?_
    · apply eq_X6_held (d := d + 19)
      simp only [av_kP]
      rw [hestC, av_br_s, q1, av_tg_s, hes, sp_within, av_bi_s, av_lt_wi (by omega), hx, av_if_t, sp_within, av_bi_s, hy, av_if_f]
    · apply eq_X7_held (d := d + 19)
      rw [sp_isHeight L _ hm, av_bi_s, hx, av_if_tk, sp_isHour, av_bi_s, hy, av_if_fk]
  obtain ⟨t, htt, rfl⟩ := av_wiH hy
  refine ask_eq hm (.int (nI (sHeld B n (sTop cs) day h t))) ?_ ?_
  · have key := lp_0 (P := fun k => av_V (av_S0 L) (d + 20) ta_X6_held 22 [.ref 9, .int (nI h), .int (nI t), .int (nI (sTop cs)), .int (nI (sBits (fun b => sHolds (B b) (sTop cs) day h t) k)), .int (nI k)] [] N = some (some (.int (nI (sHeld B n (sTop cs) day h t))), N)) n (by
      apply eq_X6_held_22 (d := d + 19)
      rw [hs.2.1, if_neg (nI_nlt (Nat.le_refl _) (by omega))]
      rfl) (fun k hk ih => by
      obtain ⟨kb, ok, -⟩ := hs.2.2.2.1 k hk
      have hbp : al_bp (27 + 2 * k) := al_bp27 (by omega)
      obtain ⟨s1, s2, s3, s4⟩ := al_bpE hbp L
      apply eq_X6_held_22 (d := d + 19)
      rw [hs.2.1, if_pos (nI_lt hk (by omega)), av_gx_s (by omega) (by omega), nI_clamp (by omega), al_R11 k (by omega), av_bd_s, s1, av_tg_s, hs.2.2.1, sp_holds L _ hbp kb ok ht.2 (by omega) (by omega) (by omega), av_bi_s]
      simp (disch := omega) only [av_kP, av_b_0, nI_add, av_shl, av_or, Nat.one_mul]
      have e : sBits (fun b => sHolds (B b) (sTop cs) day h t) (k + 1) = sBits (fun b => sHolds (B b) (sTop cs) day h t) k ||| (if sHolds (B k) (sTop cs) day h t then 2 ^ k else 0) := rfl
      rw [e] at ih
      cases hb : sHolds (B k) (sTop cs) day h t
      · rw [hb] at ih
        rw [if_pos rfl]
        rw [if_neg (by decide), Nat.or_zero] at ih
        exact ih
      · rw [hb] at ih
        rw [if_neg (by decide)]
        exact ih)
    apply eq_X6_held (d := d + 19)
    simp only [av_kP]
    rw [hestC, av_br_s, q1, av_tg_s, hes, sp_within, av_bi_s, av_lt_wi (by omega), hx, av_if_t, sp_within, av_bi_s, hy, av_if_t]
    exact key
  · apply eq_X7_held (d := d + 19)
    rw [sp_isHeight L _ hm, av_bi_s, hx, av_if_tk, sp_isHour, av_bi_s, hy, av_if_tk, sp_heldBy L _ hm (by omega) htt, av_bi_s]
theorem ca_free (L : av_W) (d : Nat) {N : av_N} {n day : Nat} {B : Nat → Nat → Nat} {cs : List (Nat × Nat × List Nat)} (hc : al_cv N n day B cs) (hm : al_mv N n day B cs) (y : Int32) : al_ask L (d + 20) N n day B cs 56 [.ref 9, .int y] 164 [.ref 142, .int y] := by
  obtain ⟨hs, e, he⟩ := hc
  have hn := hs.1
  have ht := sTop_le cs
  obtain ⟨q1, q2, q3, q4⟩ := al_epE (al_ep_e he.1) L
  have hestC := sp_estuaryNow L (d + 18) he
  have hes := he.2.2.1.2.2.2.1
  cases hy : av_wi y (nI 0) (nI 23)
  · refine ask_eq hm (.int (av_k (-1))) ?_ ?_
    · apply eq_X6_free (d := d + 19)
      simp only [av_kP]
      rw [sp_within, av_bi_s, hy, av_if_f]
    · apply eq_X7_free (d := d + 19)
      rw [sp_isHour, av_bi_s, hy, av_if_fk]
  obtain ⟨t, htt, rfl⟩ := av_wiH hy
  obtain ⟨N1, c1, c2, c3⟩ := sp_layAir_10 L (d + 16) hs ht.2 neN
  have he1 := al_ce_fr he c3 (by unfold al_dL; omega) (fun q a b => by unfold al_dL; omega)
  refine ask_eq2 hm (.int (nI (sFree B n (sTop cs) day t))) (N1 := N1) ?_ (al_dLC c3) (fun M hm => ?_)
  · apply eq_X6_free (d := d + 19)
    simp only [av_kP]
    rw [sp_within, av_bi_s, hy, av_if_t, hestC, av_br_s, q1, av_tg_s, hes, c1, av_bv_s, sp_freeAt L _ hn c2 ht.2 htt, av_bi_s]
  · apply eq_X7_free (d := d + 19)
    rw [sp_isHour, av_bi_s, hy, av_if_tk, sp_freeAtM L _ hm htt, av_bi_s]
theorem ca_clash (L : av_W) (d : Nat) {N : av_N} {n day : Nat} {B : Nat → Nat → Nat} {cs : List (Nat × Nat × List Nat)} (hc : al_cv N n day B cs) (hm : al_mv N n day B cs) (x y : Int32) : al_ask L (d + 20) N n day B cs 57 [.ref 9, .int x, .int y] 166 [.ref 142, .int x, .int y] := by
  obtain ⟨hs, e, he⟩ := hc
  have hn := hs.1
  cases hx : av_lt x n
  · refine ask_eq hm (.int (av_k (-1))) ?_ ?_
    · apply eq_X6_clash (d := d + 19)
      rw [sp_birdAt_no L _ hs.2.1 hx, av_br_n]
      cases hy : av_lt y n
      · rw [sp_birdAt_no L _ hs.2.1 hy, av_br_n]
      · obtain ⟨b, hb, rfl⟩ := (av_ltE (by omega)).mp hy
        rw [sp_birdAt L _ hs.2.1 hn hb, av_br_s]
    · apply eq_X7_clash (d := d + 19)
      rw [sp_isBird L _ x hm.2.1.1 (by omega), av_bi_s, hx, av_if_fk]
  obtain ⟨a, ha, rfl⟩ := (av_ltE (by omega)).mp hx
  cases hy : av_lt y n
  · refine ask_eq hm (.int (av_k (-1))) ?_ ?_
    · apply eq_X6_clash (d := d + 19)
      rw [sp_birdAt L _ hs.2.1 hn ha, av_br_s, sp_birdAt_no L _ hs.2.1 hy, av_br_n]
    · apply eq_X7_clash (d := d + 19)
      rw [sp_isBird L _ _ hm.2.1.1 (by omega), av_bi_s, hx, av_if_tk, sp_isBird L _ y hm.2.1.1 (by omega), av_bi_s, hy, av_if_fk]
  obtain ⟨b, hb, rfl⟩ := (av_ltE (by omega)).mp hy
  by_cases hab : nI a = nI b
  · refine ask_eq hm (.int (av_k (-2))) ?_ ?_
    · apply eq_X6_clash (d := d + 19)
      rw [sp_birdAt L _ hs.2.1 hn ha, av_br_s, sp_birdAt L _ hs.2.1 hn hb, av_br_s, if_pos hab]
    · apply eq_X7_clash (d := d + 19)
      rw [sp_isBird L _ _ hm.2.1.1 (by omega), av_bi_s, hx, av_if_tk, sp_isBird L _ _ hm.2.1.1 (by omega), av_bi_s, hy, av_if_tk, if_pos hab]
  · refine ask_eq hm (.int (nI (sClash (B a) (B b) (sTop cs) day))) ?_ ?_
    · apply eq_X6_clash (d := d + 19)
      rw [sp_birdAt L _ hs.2.1 hn ha, av_br_s, sp_birdAt L _ hs.2.1 hn hb, av_br_s, if_neg hab, sp_clashOf L _ hs he ha hb, av_bi_s]
    · apply eq_X7_clash (d := d + 19)
      rw [sp_isBird L _ _ hm.2.1.1 (by omega), av_bi_s, hx, av_if_tk, sp_isBird L _ _ hm.2.1.1 (by omega), av_bi_s, hy, av_if_tk, if_neg hab, sp_clashOfM L _ hm ha hb, av_bi_s]
