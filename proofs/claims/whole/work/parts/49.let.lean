/-! let -/
def sLetF (g : Nat) (p : Nat → Bool) (r : Nat → Nat) : Nat → Nat × Nat
  | 0 => (0, 0)
  | k + 1 => if (k + 1) &&& g = 0 then (if p (k + 1) then (if (sLetF g p r k).2 < r (k + 1) then (k + 1, r (k + 1)) else sLetF g p r k) else sLetF g p r k) else sLetF g p r k
theorem sLetF_le {g : Nat} {p : Nat → Bool} {r : Nat → Nat} {c : Nat} (h : ∀ k, r k ≤ c) : ∀ k, (sLetF g p r k).2 ≤ c
  | 0 => Nat.zero_le _
  | k + 1 => by
    have ih := sLetF_le h k (g := g) (p := p)
    unfold sLetF
    split
    · split
      · split
        · exact h _
        · exact ih
      · exact ih
    · exact ih
theorem sSetRent_le {N : av_N} {n day : Nat} {B : Nat → Nat → Nat} {cs : List (Nat × Nat × List Nat)} (hm : al_mv N n day B cs) (X : Nat) : sSetRent (fun b => sRent (B b) cs (sTop cs) day) X n ≤ 7 * 237840 := by
  obtain ⟨hn, -, -, ⟨b0, hme⟩, hok, -⟩ := hm
  have := sumN_le (f := fun b => if X.testBit b then sRent (B b) cs (sTop cs) day else 0) (c := 237840) (n := n) (fun b hb => by
    split
    · exact sRent_le (hok b hb).1 hme.2.2 hme.2.1.1 _ _
    · omega)
  exact Nat.le_trans this (Nat.mul_le_mul_right _ hn)
theorem two_pow_7 {n : Nat} (h : n ≤ 7) : 2 ^ n ≤ 128 := Nat.pow_le_pow_right (by decide) h
theorem ca_let (L : av_W) (d : Nat) {N : av_N} {n day : Nat} {B : Nat → Nat → Nat} {cs : List (Nat × Nat × List Nat)} (hc : al_cv N n day B cs) (hm : al_mv N n day B cs) (w : Int32) : al_ask L (d + 20) N n day B cs 64 [.ref 9, .int w] 180 [.ref 142, .int w] := by
  obtain ⟨hs, e, he⟩ := hc
  have hn := hs.1
  have h2n := two_pow_7 hn
  have h2p := Nat.two_pow_pos n
  cases hw : av_wi w (nI 0) (nI 1)
  · refine ask_eq hm (.int (av_k (-1))) ?_ ?_
    · apply eq_X6_let (d := d + 19)
      simp only [av_kP]
      rw [sp_within, av_bi_s, hw, av_if_f]
    · apply eq_X7_let (d := d + 19)
      simp only [av_kP]
      rw [sp_in, av_bi_s, hw, av_if_f]
  obtain ⟨N1, c1, k1, f1⟩ := sp_findFoes L (d + 15) hs he
  have hs1 : al_sn N1 10 27 n day B := al_sn_fr hs f1 (by omega) (fun q a b => by omega)
  have he1 : al_ce N1 e cs := al_ce_fr he f1 (by omega) (fun q a b => by omega)
  obtain ⟨N2, c2, k2, f2⟩ := sp_findRents L (d + 15) hs1 he1
  have hs2 : al_sn N2 10 27 n day B := al_sn_fr hs1 f2 (by omega) (fun q a b => by omega)
  have k1' : ∀ a, a < n → N2.1 112 a = nI (sFoe B n (sTop cs) day a) := fun a ha => (al_fr_k f2 (by decide)).trans (k1 a ha)
  have hg7 : sGone B n < 2 ^ 31 := sBits_31 _ (by omega)
  have hgl : sGone B n < 128 := Nat.lt_of_lt_of_le (sBits_lt _ n) h2n
  have hrl := fun X => sSetRent_le hm X
  have e1 : 1 + (2 ^ n - 1) = 2 ^ n := by omega
  -- the class
  have keyC := lp_0 (P := fun j => ∀ v, okv v → av_V (av_S0 L) (d + 20) ta_X6_let 29 [.ref 9, .int w, .int (nI (sGone B n)), .int (nI (2 ^ n - 1)), .int (nI (sLetF (sGone B n) (sPeace (sFoe B n (sTop cs) day) n) (fun X => sSetRent (fun b => sRent (B b) cs (sTop cs) day) X n) j).1), .int (nI (sLetF (sGone B n) (sPeace (sFoe B n (sTop cs) day) n) (fun X => sSetRent (fun b => sRent (B b) cs (sTop cs) day) X n) j).2), .int (nI (j + 1)), v] [] N2 = some (some (.int (if w = nI 0 then nI (sLetF (sGone B n) (sPeace (sFoe B n (sTop cs) day) n) (fun X => sSetRent (fun b => sRent (B b) cs (sTop cs) day) X n) (2 ^ n - 1)).1 else nI (sLetF (sGone B n) (sPeace (sFoe B n (sTop cs) day) n) (fun X => sSetRent (fun b => sRent (B b) cs (sTop cs) day) X n) (2 ^ n - 1)).2)), N2)) (2 ^ n - 1) (fun v hv => by
    have fin : ∀ A, A = (if w = nI 0 then some (some (Value.int (nI (sLetF (sGone B n) (sPeace (sFoe B n (sTop cs) day) n) (fun X => sSetRent (fun b => sRent (B b) cs (sTop cs) day) X n) (2 ^ n - 1)).1)), N2) else some (some (Value.int (nI (sLetF (sGone B n) (sPeace (sFoe B n (sTop cs) day) n) (fun X => sSetRent (fun b => sRent (B b) cs (sTop cs) day) X n) (2 ^ n - 1)).2)), N2)) → A = some (some (.int (if w = nI 0 then nI (sLetF (sGone B n) (sPeace (sFoe B n (sTop cs) day) n) (fun X => sSetRent (fun b => sRent (B b) cs (sTop cs) day) X n) (2 ^ n - 1)).1 else nI (sLetF (sGone B n) (sPeace (sFoe B n (sTop cs) day) n) (fun X => sSetRent (fun b => sRent (B b) cs (sTop cs) day) X n) (2 ^ n - 1)).2)), N2) := by
      intro A hA
      rw [hA]
      by_cases h : w = nI 0
      · rw [if_pos h, if_pos h]
      · rw [if_neg h, if_neg h]
    rcases hv with rfl | ⟨z, rfl⟩
    · apply eq_X6_let_29_a (d := d + 19)
      rw [if_pos (nI_lt (Nat.lt_succ_self _) (by omega)), av_kP]
      exact fin _ rfl
    · apply eq_X6_let_29_b (d := d + 19)
      rw [if_pos (nI_lt (Nat.lt_succ_self _) (by omega)), av_kP]
      exact fin _ rfl) (fun j hj ih v hv => by
    have hX : j + 1 < 2 ^ 31 := by omega
    have hp := sp_isPeaceful L (d + 19) (N := N2) (X := j + 1) (foe := sFoe B n (sTop cs) day) hn hs2.2.1 k1' hX
    have hr := sp_rentOfSet L (d + 19) (N := N2) (X := j + 1) (r := fun b => sRent (B b) cs (sTop cs) day) hn hs2.2.1 k2 hX
    have hrj := hrl (j + 1)
    have hsl := sLetF_le (g := sGone B n) (p := sPeace (sFoe B n (sTop cs) day) n) hrl j
    have es : sLetF (sGone B n) (sPeace (sFoe B n (sTop cs) day) n) (fun X => sSetRent (fun b => sRent (B b) cs (sTop cs) day) X n) (j + 1) = if (j + 1) &&& sGone B n = 0 then (if sPeace (sFoe B n (sTop cs) day) n (j + 1) then (if (sLetF (sGone B n) (sPeace (sFoe B n (sTop cs) day) n) (fun X => sSetRent (fun b => sRent (B b) cs (sTop cs) day) X n) j).2 < sSetRent (fun b => sRent (B b) cs (sTop cs) day) (j + 1) n then (j + 1, sSetRent (fun b => sRent (B b) cs (sTop cs) day) (j + 1) n) else sLetF (sGone B n) (sPeace (sFoe B n (sTop cs) day) n) (fun X => sSetRent (fun b => sRent (B b) cs (sTop cs) day) X n) j) else sLetF (sGone B n) (sPeace (sFoe B n (sTop cs) day) n) (fun X => sSetRent (fun b => sRent (B b) cs (sTop cs) day) X n) j) else sLetF (sGone B n) (sPeace (sFoe B n (sTop cs) day) n) (fun X => sSetRent (fun b => sRent (B b) cs (sTop cs) day) X n) j := rfl
    rw [es] at ih
    generalize sSetRent (fun b => sRent (B b) cs (sTop cs) day) (j + 1) n = G at *
    generalize sLetF (sGone B n) (sPeace (sFoe B n (sTop cs) day) n) (fun X => sSetRent (fun b => sRent (B b) cs (sTop cs) day) X n) j = S at *
    have hla : (j + 1) &&& sGone B n < 2 ^ 31 := Nat.lt_of_le_of_lt Nat.and_le_left hX
    have body : ∀ (A0 : Value), (A0 = am_junk ∨ ∃ x, A0 = .int x) → (if nI (j + 1) &&& nI (sGone B n) = nI 0 then (av_bi (av_C (av_S0 L) (d + 19) 100 [.ref 9, .int (nI (j + 1))] N2) fun z102 N101 => if z102 = nI 0 then (av_V (av_S0 L) (d + 19 + 1) ta_X6_let 29 [.ref 9, .int w, .int (nI (sGone B n)), .int (nI (2 ^ n - 1)), .int (nI S.1), .int (nI S.2), .int (nI (j + 1) + nI 1), A0] [] N101) else (av_bi (av_C (av_S0 L) (d + 19) 101 [.ref 9, .int (nI (j + 1))] N101) fun z104 N103 => if nI S.2 < z104 then (av_V (av_S0 L) (d + 19 + 1) ta_X6_let 29 [.ref 9, .int w, .int (nI (sGone B n)), .int (nI (2 ^ n - 1)), .int (nI (j + 1)), .int z104, .int (nI (j + 1) + nI 1), .int z104] [] N103) else (av_V (av_S0 L) (d + 19 + 1) ta_X6_let 29 [.ref 9, .int w, .int (nI (sGone B n)), .int (nI (2 ^ n - 1)), .int (nI S.1), .int (nI S.2), .int (nI (j + 1) + nI 1), .int z104] [] N103))) else (av_V (av_S0 L) (d + 19 + 1) ta_X6_let 29 [.ref 9, .int w, .int (nI (sGone B n)), .int (nI (2 ^ n - 1)), .int (nI S.1), .int (nI S.2), .int (nI (j + 1) + nI 1), A0] [] N2)) = some (some (.int (if w = nI 0 then nI (sLetF (sGone B n) (sPeace (sFoe B n (sTop cs) day) n) (fun X => sSetRent (fun b => sRent (B b) cs (sTop cs) day) X n) (2 ^ n - 1)).1 else nI (sLetF (sGone B n) (sPeace (sFoe B n (sTop cs) day) n) (fun X => sSetRent (fun b => sRent (B b) cs (sTop cs) day) X n) (2 ^ n - 1)).2)), N2) := by
      intro A0 hA0
      rw [hp, av_bi_s, hr, av_bi_s, av_and, nI_add]
      simp only [nI_eq hla (show 0 < 2 ^ 31 by decide), av_b_0, nI_ltI (show S.2 < 2 ^ 31 by omega) (show G < 2 ^ 31 by omega)]
      by_cases h1 : (j + 1) &&& sGone B n = 0
      · rw [if_pos h1]
        rw [if_pos h1] at ih
        cases h2 : sPeace (sFoe B n (sTop cs) day) n (j + 1)
        · rw [h2] at ih
          rw [if_pos rfl]
          exact ih A0 hA0
        · rw [h2] at ih
          rw [if_neg (by decide)]
          rw [if_pos rfl] at ih
          by_cases h3 : S.2 < G
          · rw [if_pos h3]
            rw [if_pos h3] at ih
            exact ih _ (Or.inr ⟨_, rfl⟩)
          · rw [if_neg h3]
            rw [if_neg h3] at ih
            exact ih _ (Or.inr ⟨_, rfl⟩)
      · rw [if_neg h1]
        rw [if_neg h1] at ih
        exact ih A0 hA0
    rcases hv with rfl | ⟨z, rfl⟩
    · apply eq_X6_let_29_a (d := d + 19)
      rw [if_neg (nI_nlt (by omega) (by omega))]
      simp only [av_kP]
      exact body _ (Or.inl rfl)
    · apply eq_X6_let_29_b (d := d + 19)
      rw [if_neg (nI_nlt (by omega) (by omega))]
      simp only [av_kP]
      exact body _ (Or.inr ⟨_, rfl⟩))
  have keyC0 := keyC am_junk (Or.inl rfl)
  refine ask_of hm (.int (if w = nI 0 then nI (sLetF (sGone B n) (sPeace (sFoe B n (sTop cs) day) n) (fun X => sSetRent (fun b => sRent (B b) cs (sTop cs) day) X n) (2 ^ n - 1)).1 else nI (sLetF (sGone B n) (sPeace (sFoe B n (sTop cs) day) n) (fun X => sSetRent (fun b => sRent (B b) cs (sTop cs) day) X n) (2 ^ n - 1)).2)) (N1 := N2) ?_ (al_fr_tr (al_fr_mono f1 (fun q z => by unfold al_dC; omega)) (al_fr_mono f2 (fun q z => by unfold al_dC; omega))) (fun M _ hmM => ?_)
  · apply eq_X6_let (d := d + 19)
    simp only [av_kP]
    rw [sp_within, av_bi_s, hw, av_if_t, c1, av_bv_s, c2, av_bv_s, sp_outBits L _ hs2, av_bi_s, hs2.2.1, av_ones (by omega)]
    exact keyC0
  obtain ⟨M1, g1, k3, r1⟩ := sp_layFoes L (d + 13) hmM
  have hmM1 : al_mv M1 n day B cs := al_mv_fr hmM (fun q k a b c => (r1 q (by omega) k).1)
  have fs : ∀ M', al_fr (fun q => q = 160) M1 M' → al_mv M' n day B cs ∧ ∀ a, a < n → M'.1 163 a = nI (sFoe B n (sTop cs) day a) := fun M' h => ⟨al_mv_160 hmM1 h, fun a ha => (al_fr_k h (by decide)).trans (k3 a ha)⟩
  have keyM := lp_0 (P := fun j => ∀ M' T, al_fr (fun q => q = 160) M1 M' → (T = [am_junk, am_junk] ∨ ∃ x y, T = [.int x, .int y]) → ∃ N', av_V (av_S0 L) (d + 20) ta_X7_let 16 (.ref 142 :: .int w :: .int (nI (sLetF (sGone B n) (sPeace (sFoe B n (sTop cs) day) n) (fun X => sSetRent (fun b => sRent (B b) cs (sTop cs) day) X n) j).1) :: .int (nI (sLetF (sGone B n) (sPeace (sFoe B n (sTop cs) day) n) (fun X => sSetRent (fun b => sRent (B b) cs (sTop cs) day) X n) j).2) :: .int (nI (j + 1)) :: T) [] M' = some (some (.int (if w = nI 0 then nI (sLetF (sGone B n) (sPeace (sFoe B n (sTop cs) day) n) (fun X => sSetRent (fun b => sRent (B b) cs (sTop cs) day) X n) (2 ^ n - 1)).1 else nI (sLetF (sGone B n) (sPeace (sFoe B n (sTop cs) day) n) (fun X => sSetRent (fun b => sRent (B b) cs (sTop cs) day) X n) (2 ^ n - 1)).2)), N') ∧ al_fr (fun q => q = 160) M1 N') (2 ^ n - 1) (fun M' T hM hT => by
    obtain ⟨hv, hfo⟩ := fs M' hM
    refine ⟨M', ?_, hM⟩
    have fin : ∀ A, A = (if w = nI 0 then some (some (Value.int (nI (sLetF (sGone B n) (sPeace (sFoe B n (sTop cs) day) n) (fun X => sSetRent (fun b => sRent (B b) cs (sTop cs) day) X n) (2 ^ n - 1)).1)), M') else some (some (Value.int (nI (sLetF (sGone B n) (sPeace (sFoe B n (sTop cs) day) n) (fun X => sSetRent (fun b => sRent (B b) cs (sTop cs) day) X n) (2 ^ n - 1)).2)), M')) → A = some (some (.int (if w = nI 0 then nI (sLetF (sGone B n) (sPeace (sFoe B n (sTop cs) day) n) (fun X => sSetRent (fun b => sRent (B b) cs (sTop cs) day) X n) (2 ^ n - 1)).1 else nI (sLetF (sGone B n) (sPeace (sFoe B n (sTop cs) day) n) (fun X => sSetRent (fun b => sRent (B b) cs (sTop cs) day) X n) (2 ^ n - 1)).2)), M') := by
      intro A hA
      rw [hA]
      by_cases h : w = nI 0
      · rw [if_pos h, if_pos h]
      · rw [if_neg h, if_neg h]
    rcases hT with rfl | ⟨x, y, rfl⟩
    · apply eq_X7_let_16 (d := d + 19)
      simp only [av_kP]
      rw [hv.2.1.1, av_shl 1 (by omega), Nat.one_mul, if_neg (nI_nlt (by omega) (by omega))]
      exact fin _ rfl
    · apply eq_X7_let_16_b (d := d + 19)
      simp only [av_kP]
      rw [hv.2.1.1, av_shl 1 (by omega), Nat.one_mul, if_neg (nI_nlt (by omega) (by omega))]
      exact fin _ rfl) (fun j hj ih M' T hM hT => by
    obtain ⟨hv, hfo⟩ := fs M' hM
    have hX : j + 1 < 2 ^ 31 := by omega
    have hp := sp_isPeacefulM L (d + 18) (N := M') (X := j + 1) (foe := sFoe B n (sTop cs) day) hn hv.2.1.1 hfo hX
    have hrj := hrl (j + 1)
    have hsl := sLetF_le (g := sGone B n) (p := sPeace (sFoe B n (sTop cs) day) n) hrl j
    have es : sLetF (sGone B n) (sPeace (sFoe B n (sTop cs) day) n) (fun X => sSetRent (fun b => sRent (B b) cs (sTop cs) day) X n) (j + 1) = if (j + 1) &&& sGone B n = 0 then (if sPeace (sFoe B n (sTop cs) day) n (j + 1) then (if (sLetF (sGone B n) (sPeace (sFoe B n (sTop cs) day) n) (fun X => sSetRent (fun b => sRent (B b) cs (sTop cs) day) X n) j).2 < sSetRent (fun b => sRent (B b) cs (sTop cs) day) (j + 1) n then (j + 1, sSetRent (fun b => sRent (B b) cs (sTop cs) day) (j + 1) n) else sLetF (sGone B n) (sPeace (sFoe B n (sTop cs) day) n) (fun X => sSetRent (fun b => sRent (B b) cs (sTop cs) day) X n) j) else sLetF (sGone B n) (sPeace (sFoe B n (sTop cs) day) n) (fun X => sSetRent (fun b => sRent (B b) cs (sTop cs) day) X n) j) else sLetF (sGone B n) (sPeace (sFoe B n (sTop cs) day) n) (fun X => sSetRent (fun b => sRent (B b) cs (sTop cs) day) X n) j := rfl
    rw [es] at ih
    have hla : (j + 1) &&& sGone B n < 2 ^ 31 := Nat.lt_of_le_of_lt Nat.and_le_left hX
    have enter : ∀ q, (if (j + 1) &&& sGone B n = 0 then (if sPeace (sFoe B n (sTop cs) day) n (j + 1) = false then av_V (av_S0 L) (d + 20) ta_X7_let 16 (.ref 142 :: .int w :: .int (nI (sLetF (sGone B n) (sPeace (sFoe B n (sTop cs) day) n) (fun X => sSetRent (fun b => sRent (B b) cs (sTop cs) day) X n) j).1) :: .int (nI (sLetF (sGone B n) (sPeace (sFoe B n (sTop cs) day) n) (fun X => sSetRent (fun b => sRent (B b) cs (sTop cs) day) X n) j).2) :: .int (nI (j + 1 + 1)) :: T) [] M' else av_V (av_S0 L) (d + 20) ta_X7_let 36 [.ref 142, .int w, .int (nI (sLetF (sGone B n) (sPeace (sFoe B n (sTop cs) day) n) (fun X => sSetRent (fun b => sRent (B b) cs (sTop cs) day) X n) j).1), .int (nI (sLetF (sGone B n) (sPeace (sFoe B n (sTop cs) day) n) (fun X => sSetRent (fun b => sRent (B b) cs (sTop cs) day) X n) j).2), .int (nI (j + 1)), .int (nI 0), .int (nI 0)] [] M') else av_V (av_S0 L) (d + 20) ta_X7_let 16 (.ref 142 :: .int w :: .int (nI (sLetF (sGone B n) (sPeace (sFoe B n (sTop cs) day) n) (fun X => sSetRent (fun b => sRent (B b) cs (sTop cs) day) X n) j).1) :: .int (nI (sLetF (sGone B n) (sPeace (sFoe B n (sTop cs) day) n) (fun X => sSetRent (fun b => sRent (B b) cs (sTop cs) day) X n) j).2) :: .int (nI (j + 1 + 1)) :: T) [] M') = some q → av_V (av_S0 L) (d + 20) ta_X7_let 16 (.ref 142 :: .int w :: .int (nI (sLetF (sGone B n) (sPeace (sFoe B n (sTop cs) day) n) (fun X => sSetRent (fun b => sRent (B b) cs (sTop cs) day) X n) j).1) :: .int (nI (sLetF (sGone B n) (sPeace (sFoe B n (sTop cs) day) n) (fun X => sSetRent (fun b => sRent (B b) cs (sTop cs) day) X n) j).2) :: .int (nI (j + 1)) :: T) [] M' = some q := by
      intro q hq
      rcases hT with rfl | ⟨x, y, rfl⟩
      · apply eq_X7_let_16 (d := d + 19)
        simp only [av_kP]
        rw [hv.2.1.1, av_shl 1 (by omega), Nat.one_mul, if_pos (nI_lt (by omega) (by omega)), hp, av_bi_s, hv.2.2.1, av_and, nI_add]
        simp only [nI_eq hla (show 0 < 2 ^ 31 by decide), av_b_0]
        exact hq
      · apply eq_X7_let_16_b (d := d + 19)
        simp only [av_kP]
        rw [hv.2.1.1, av_shl 1 (by omega), Nat.one_mul, if_pos (nI_lt (by omega) (by omega)), hp, av_bi_s, hv.2.2.1, av_and, nI_add]
        simp only [nI_eq hla (show 0 < 2 ^ 31 by decide), av_b_0]
        exact hq
    by_cases h1 : (j + 1) &&& sGone B n = 0
    · rw [if_pos h1] at ih
      cases h2 : sPeace (sFoe B n (sTop cs) day) n (j + 1)
      · rw [h2, if_neg (by decide)] at ih
        obtain ⟨N', c3, f3⟩ := ih M' T hM hT
        refine ⟨N', enter _ ?_, f3⟩
        rw [if_pos h1, h2, if_pos rfl]
        exact c3
      · rw [h2, if_pos rfl] at ih
        have sum := lp_0 (P := fun k => ∀ M'', al_fr (fun q => q = 160) M1 M'' → ∃ N', av_V (av_S0 L) (d + 20) ta_X7_let 36 [.ref 142, .int w, .int (nI (sLetF (sGone B n) (sPeace (sFoe B n (sTop cs) day) n) (fun X => sSetRent (fun b => sRent (B b) cs (sTop cs) day) X n) j).1), .int (nI (sLetF (sGone B n) (sPeace (sFoe B n (sTop cs) day) n) (fun X => sSetRent (fun b => sRent (B b) cs (sTop cs) day) X n) j).2), .int (nI (j + 1)), .int (nI (sumN (fun b => if (j + 1).testBit b then sRent (B b) cs (sTop cs) day else 0) k)), .int (nI k)] [] M'' = some (some (.int (if w = nI 0 then nI (sLetF (sGone B n) (sPeace (sFoe B n (sTop cs) day) n) (fun X => sSetRent (fun b => sRent (B b) cs (sTop cs) day) X n) (2 ^ n - 1)).1 else nI (sLetF (sGone B n) (sPeace (sFoe B n (sTop cs) day) n) (fun X => sSetRent (fun b => sRent (B b) cs (sTop cs) day) X n) (2 ^ n - 1)).2)), N') ∧ al_fr (fun q => q = 160) M1 N') n (fun M'' hM2 => by
          obtain ⟨N', c3, f3⟩ := ih M'' [.int (nI (sSetRent (fun b => sRent (B b) cs (sTop cs) day) (j + 1) n)), .int (nI n)] hM2 (Or.inr ⟨_, _, rfl⟩)
          refine ⟨N', ?_, f3⟩
          apply eq_X7_let_36 (d := d + 19)
          have eG : sumN (fun b => if (j + 1).testBit b then sRent (B b) cs (sTop cs) day else 0) n = sSetRent (fun b => sRent (B b) cs (sTop cs) day) (j + 1) n := rfl
          rw [eG, (fs M'' hM2).1.2.1.1, if_neg (nI_nlt (Nat.le_refl _) (by omega)), av_kP, nI_add]
          generalize sSetRent (fun b => sRent (B b) cs (sTop cs) day) (j + 1) n = G at *
          generalize sLetF (sGone B n) (sPeace (sFoe B n (sTop cs) day) n) (fun X => sSetRent (fun b => sRent (B b) cs (sTop cs) day) X n) j = S at *
          by_cases h3 : S.2 < G
          · rw [if_pos (nI_lt h3 (by omega))]
            rw [if_pos h3] at c3
            exact c3
          · rw [if_neg (nI_nlt (by omega) (by omega))]
            rw [if_neg h3] at c3
            exact c3) (fun k hk ih2 M'' hM2 => by
          obtain ⟨hv2, -⟩ := fs M'' hM2
          have e3 : sumN (fun b => if (j + 1).testBit b then sRent (B b) cs (sTop cs) day else 0) (k + 1) = sumN (fun b => if (j + 1).testBit b then sRent (B b) cs (sTop cs) day else 0) k + (if (j + 1).testBit k then sRent (B k) cs (sTop cs) day else 0) := rfl
          rw [e3] at ih2
          cases hb : (j + 1).testBit k
          · rw [hb] at ih2
            obtain ⟨N', c3, f3⟩ := ih2 M'' hM2
            refine ⟨N', ?_, f3⟩
            apply eq_X7_let_36 (d := d + 19)
            rw [hv2.2.1.1, if_pos (nI_lt hk (by omega)), sp_has L _ hX (by omega), av_bi_s, hb, av_if_fk, av_kP, nI_add, av_kP, nI_add]
            exact c3
          · rw [hb] at ih2
            obtain ⟨M3, c4, f4⟩ := sp_rentM L (d + 14) hv2 hk
            obtain ⟨N', c3, f3⟩ := ih2 M3 (al_fr_tr hM2 f4)
            refine ⟨N', ?_, f3⟩
            apply eq_X7_let_36 (d := d + 19)
            rw [hv2.2.1.1, if_pos (nI_lt hk (by omega)), sp_has L _ hX (by omega), av_bi_s, hb, av_if_tk, c4, av_bi_s, av_kP, nI_add, nI_add]
            exact c3)
        obtain ⟨N', c3, f3⟩ := sum M' hM
        refine ⟨N', enter _ ?_, f3⟩
        rw [if_pos h1, h2, if_neg (by decide)]
        exact c3
    · rw [if_neg h1] at ih
      obtain ⟨N', c3, f3⟩ := ih M' T hM hT
      refine ⟨N', enter _ ?_, f3⟩
      rw [if_neg h1]
      exact c3)
  obtain ⟨M2, g2, r2⟩ := keyM M1 [am_junk, am_junk] (al_fr_rf _ _) (Or.inl rfl)
  refine ⟨M2, ?_, (fs M2 r2).1, al_f2_tr (al_f2_of r1 (fun q k z => by unfold al_qM; omega)) (al_q160 r2)⟩
  apply eq_X7_let (d := d + 19)
  simp only [av_kP]
  rw [sp_in, av_bi_s, hw, av_if_t, g1, av_bv_s]
  exact g2
