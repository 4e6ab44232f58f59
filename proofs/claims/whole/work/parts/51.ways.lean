/-! ways, outs -/
theorem av_wl_s (N : av_N) (p k : Nat) (x : Int64) : (av_wl N p k x).2 p k = x := am_up_s _ _ _ _
theorem av_wl_o (N : av_N) (p k : Nat) (x : Int64) {q : Nat} (j : Nat) (h : q ≠ p) : (av_wl N p k x).2 q j = N.2 q j := am_up_n _ _ (fun z => h z.1)
theorem av_wl_k (N : av_N) (p k : Nat) (x : Int64) {q j : Nat} (h : j ≠ k) : (av_wl N p k x).2 q j = N.2 q j := am_up_n _ _ (fun z => h z.2)
theorem al_fr_wl {D : Nat → Prop} (N : av_N) {p : Nat} (hp : D p) (k : Nat) (x : Int64) : al_fr D N (av_wl N p k x) := fun _ hq j => ⟨rfl, av_wl_o N p k x j (fun z => hq (z ▸ hp))⟩
def sStep (w : Nat → Nat) (f h : Nat) : Nat := if f.testBit h then ((if 0 < h then w (h - 1) else 0) + w h) + (if h + 1 < 10 then w (h + 1) else 0) else 0
def sWay (fr : Nat → Nat) (h0 : Nat) : Nat → Nat → Nat
  | 0 => fun h => if h = h0 then (if (fr 0).testBit h then 1 else 0) else 0
  | t + 1 => sStep (sWay fr h0 t) (fr (t + 1))
theorem sStep_le {w : Nat → Nat} {c : Nat} (h : ∀ k, w k ≤ c) (f k : Nat) : sStep w f k ≤ 3 * c := by
  have h1 := h (k - 1)
  have h2 := h k
  have h3 := h (k + 1)
  unfold sStep
  split
  · split <;> split <;> omega
  · omega
theorem sWay_le (fr : Nat → Nat) (h0 : Nat) : ∀ t h, sWay fr h0 t h ≤ 3 ^ t
  | 0, h => by
    unfold sWay
    split
    · split <;> decide
    · decide
  | t + 1, h => by
    have := sStep_le (sWay_le fr h0 t) (fr (t + 1)) h
    rw [Nat.pow_succ, Nat.mul_comm]
    exact this
theorem sWay_63 (fr : Nat → Nat) (h0 h : Nat) {t : Nat} (ht : t < 24) : sWay fr h0 t h < 2 ^ 40 := Nat.lt_of_le_of_lt (sWay_le fr h0 t h) (Nat.lt_of_le_of_lt (Nat.pow_le_pow_right (by decide) (show t ≤ 23 by omega)) (by decide))
abbrev al_dW (q : Nat) : Prop := q = 114 ∨ q = 115
theorem sp_goAnHour (L : av_W) (d : Nat) {N : av_N} {n day : Nat} {B : Nat → Nat → Nat} {c : Nat → Nat} {top t : Nat} {w : Nat → Nat} (hn : n ≤ 7) (hl : al_lay N (fun t => sOnce B top day 99 t n) c) (ht : top ≤ 10) (htt : t < 24) (hw : ∀ h, h < 10 → N.2 114 h = lN (w h)) : ∃ N', av_C (av_S0 L) (d + 7) 102 [.ref 9, .int (nI t), .int (nI top)] N = some (none, N') ∧ (∀ h, h < 10 → N'.2 114 h = lN (sStep w (sFree B n top day t) h)) ∧ al_fr al_dW N N' := by
  have key := lp_0 (P := fun k => ∀ M T, al_fr al_dW N M → (∀ h, h < 10 → M.2 114 h = lN (w h)) → (∀ h, h < k → M.2 115 h = lN (sStep w (sFree B n top day t) h)) → (T = [am_junk, am_junk, am_junk, am_junk] ∨ ∃ x y, T = [.long x, am_junk, .long y, am_junk]) → ∃ N', av_V (av_S0 L) (d + 7) ta_X6_goAnHour 2 (.ref 9 :: .int (nI t) :: .int (nI top) :: .int (nI k) :: T) [] M = some (none, N') ∧ (∀ h, h < 10 → N'.2 114 h = lN (sStep w (sFree B n top day t) h)) ∧ al_fr al_dW N N') 10 (fun M T hM h1 h2 hT => by
    refine ⟨av_cpJ M 115 114 (nI 0) (nI 0) (nI 10), ?_, fun h hh => ?_, al_fr_tr hM (fun q hq k => ⟨rfl, ?_⟩)⟩
    · rcases hT with rfl | ⟨x, y, rfl⟩
      · apply eq_X6_goAnHour_2_a (d := d)
        simp only [av_kP, show Int32.ofNat 10 = nI 10 from rfl]
        rw [if_neg (nI_nlt (Nat.le_refl _) (by decide)), show ∀ A : Option av_Q, av_gc (nI 0) (nI 0) (nI 10) 10 10 A = A from fun A => if_pos (by decide)]
      · apply eq_X6_goAnHour_2_b (d := d)
        simp only [av_kP, show Int32.ofNat 10 = nI 10 from rfl]
        rw [if_neg (nI_nlt (Nat.le_refl _) (by decide)), show ∀ A : Option av_Q, av_gc (nI 0) (nI 0) (nI 10) 10 10 A = A from fun A => if_pos (by decide)]
    · rw [← h2 h hh]
      show (if 114 = 114 then va_cpy (M.2 115) (M.2 114) (nI 0).toNatClampNeg (nI 0).toNatClampNeg (nI 10).toNatClampNeg h else M.2 114 h) = _
      rw [if_pos rfl, nI_clamp (by decide), nI_clamp (by decide)]
      unfold va_cpy
      rw [if_pos (by omega), show 0 + (h - 0) = h by omega]
    · show (if q = 114 then va_cpy (M.2 115) (M.2 114) (nI 0).toNatClampNeg (nI 0).toNatClampNeg (nI 10).toNatClampNeg k else M.2 q k) = M.2 q k
      rw [if_neg (fun z => hq (Or.inl z))]) (fun k hk ih M T hM h1 h2 hT => by
    have hfr := sp_isFree L (d + 4) (h := k) hn (al_lay_fr hl hM (by unfold al_dW; omega) (by unfold al_dW; omega)) ht htt (show k < 32 by omega)
    have go : ∀ x y, ∃ N', av_V (av_S0 L) (d + 7) ta_X6_goAnHour 2 [.ref 9, .int (nI t), .int (nI top), .int (nI (k + 1)), .long x, am_junk, .long y, am_junk] [] (av_wl M 115 k (lN (sStep w (sFree B n top day t) k))) = some (none, N') ∧ (∀ h, h < 10 → N'.2 114 h = lN (sStep w (sFree B n top day t) h)) ∧ al_fr al_dW N N' := fun x y => ih _ _ (al_fr_tr hM (al_fr_wl M (Or.inr rfl) _ _)) (fun h hh => by
      rw [av_wl_o _ _ _ _ _ (by decide)]
      exact h1 h hh) (fun h hh => by
      by_cases e : h = k
      · subst e
        exact av_wl_s _ _ _ _
      · rw [av_wl_k _ _ _ _ e]
        exact h2 h (by omega)) (Or.inr ⟨_, _, rfl⟩)
    obtain ⟨N', c1, c2, c3⟩ := go (if 0 < k then lN (w (k - 1)) else lN 0) (if k + 1 < 10 then lN (w (k + 1)) else lN 0)
    refine ⟨N', ?_, c2, c3⟩
    rcases hT with rfl | ⟨x, y, rfl⟩
    · by_cases h0 : 0 < k
      · have hh0 : 0 < k := h0
        by_cases h9 : k + 1 < 10
        · apply eq_X6_goAnHour_2_a (d := d)
          simp only [av_kP, show Int32.ofNat 10 = nI 10 from rfl, lN_of]
          rw [if_pos (nI_lt hk (by decide)), if_pos (nI_lt h0 (by omega)), av_sub (show 1 ≤ k by omega), av_gx_s (by omega) (by omega), nI_add, if_pos (nI_lt h9 (by omega)), av_gx_s (by omega) (by omega), hfr, av_bi_s]
          simp (disch := omega) only [nI_clamp, av_gx_s, av_b_0, h1, lN_add]
          unfold sStep at c1
          simp only [if_pos h0, if_pos h9] at c1
          cases hb : (sFree B n top day t).testBit k
          · rw [hb] at c1
            rw [if_pos rfl]
            exact c1
          · rw [hb] at c1
            rw [if_neg (by decide)]
            exact c1
        · apply eq_X6_goAnHour_2_a (d := d)
          simp only [av_kP, show Int32.ofNat 10 = nI 10 from rfl, lN_of]
          rw [if_pos (nI_lt hk (by decide)), if_pos (nI_lt h0 (by omega)), av_sub (show 1 ≤ k by omega), av_gx_s (by omega) (by omega), nI_add, if_neg (nI_nlt (by omega) (by omega)), hfr, av_bi_s]
          simp (disch := omega) only [nI_clamp, av_gx_s, av_b_0, h1, lN_add]
          unfold sStep at c1
          simp only [if_pos h0, if_neg h9] at c1
          cases hb : (sFree B n top day t).testBit k
          · rw [hb] at c1
            rw [if_pos rfl]
            exact c1
          · rw [hb] at c1
            rw [if_neg (by decide)]
            exact c1
      · have hh0 : ¬ 0 < k := h0
        by_cases h9 : k + 1 < 10
        · apply eq_X6_goAnHour_2_a (d := d)
          simp only [av_kP, show Int32.ofNat 10 = nI 10 from rfl, lN_of]
          rw [if_pos (nI_lt hk (by decide)), if_neg (nI_nlt (by omega) (by omega)), nI_add, if_pos (nI_lt h9 (by omega)), av_gx_s (by omega) (by omega), hfr, av_bi_s]
          simp (disch := omega) only [nI_clamp, av_gx_s, av_b_0, h1, lN_add]
          unfold sStep at c1
          simp only [if_neg h0, if_pos h9] at c1
          cases hb : (sFree B n top day t).testBit k
          · rw [hb] at c1
            rw [if_pos rfl]
            exact c1
          · rw [hb] at c1
            rw [if_neg (by decide)]
            exact c1
        · apply eq_X6_goAnHour_2_a (d := d)
          simp only [av_kP, show Int32.ofNat 10 = nI 10 from rfl, lN_of]
          rw [if_pos (nI_lt hk (by decide)), if_neg (nI_nlt (by omega) (by omega)), nI_add, if_neg (nI_nlt (by omega) (by omega)), hfr, av_bi_s]
          simp (disch := omega) only [nI_clamp, av_gx_s, av_b_0, h1, lN_add]
          unfold sStep at c1
          simp only [if_neg h0, if_neg h9] at c1
          cases hb : (sFree B n top day t).testBit k
          · rw [hb] at c1
            rw [if_pos rfl]
            exact c1
          · rw [hb] at c1
            rw [if_neg (by decide)]
            exact c1
    · by_cases h0 : 0 < k
      · have hh0 : 0 < k := h0
        by_cases h9 : k + 1 < 10
        · apply eq_X6_goAnHour_2_b (d := d)
          simp only [av_kP, show Int32.ofNat 10 = nI 10 from rfl, lN_of]
          rw [if_pos (nI_lt hk (by decide)), if_pos (nI_lt h0 (by omega)), av_sub (show 1 ≤ k by omega), av_gx_s (by omega) (by omega), nI_add, if_pos (nI_lt h9 (by omega)), av_gx_s (by omega) (by omega), hfr, av_bi_s]
          simp (disch := omega) only [nI_clamp, av_gx_s, av_b_0, h1, lN_add]
          unfold sStep at c1
          simp only [if_pos h0, if_pos h9] at c1
          cases hb : (sFree B n top day t).testBit k
          · rw [hb] at c1
            rw [if_pos rfl]
            exact c1
          · rw [hb] at c1
            rw [if_neg (by decide)]
            exact c1
        · apply eq_X6_goAnHour_2_b (d := d)
          simp only [av_kP, show Int32.ofNat 10 = nI 10 from rfl, lN_of]
          rw [if_pos (nI_lt hk (by decide)), if_pos (nI_lt h0 (by omega)), av_sub (show 1 ≤ k by omega), av_gx_s (by omega) (by omega), nI_add, if_neg (nI_nlt (by omega) (by omega)), hfr, av_bi_s]
          simp (disch := omega) only [nI_clamp, av_gx_s, av_b_0, h1, lN_add]
          unfold sStep at c1
          simp only [if_pos h0, if_neg h9] at c1
          cases hb : (sFree B n top day t).testBit k
          · rw [hb] at c1
            rw [if_pos rfl]
            exact c1
          · rw [hb] at c1
            rw [if_neg (by decide)]
            exact c1
      · have hh0 : ¬ 0 < k := h0
        by_cases h9 : k + 1 < 10
        · apply eq_X6_goAnHour_2_b (d := d)
          simp only [av_kP, show Int32.ofNat 10 = nI 10 from rfl, lN_of]
          rw [if_pos (nI_lt hk (by decide)), if_neg (nI_nlt (by omega) (by omega)), nI_add, if_pos (nI_lt h9 (by omega)), av_gx_s (by omega) (by omega), hfr, av_bi_s]
          simp (disch := omega) only [nI_clamp, av_gx_s, av_b_0, h1, lN_add]
          unfold sStep at c1
          simp only [if_neg h0, if_pos h9] at c1
          cases hb : (sFree B n top day t).testBit k
          · rw [hb] at c1
            rw [if_pos rfl]
            exact c1
          · rw [hb] at c1
            rw [if_neg (by decide)]
            exact c1
        · apply eq_X6_goAnHour_2_b (d := d)
          simp only [av_kP, show Int32.ofNat 10 = nI 10 from rfl, lN_of]
          rw [if_pos (nI_lt hk (by decide)), if_neg (nI_nlt (by omega) (by omega)), nI_add, if_neg (nI_nlt (by omega) (by omega)), hfr, av_bi_s]
          simp (disch := omega) only [nI_clamp, av_gx_s, av_b_0, h1, lN_add]
          unfold sStep at c1
          simp only [if_neg h0, if_neg h9] at c1
          cases hb : (sFree B n top day t).testBit k
          · rw [hb] at c1
            rw [if_pos rfl]
            exact c1
          · rw [hb] at c1
            rw [if_neg (by decide)]
            exact c1)
  obtain ⟨N', c1, c2, c3⟩ := key N [am_junk, am_junk, am_junk, am_junk] (al_fr_rf _ _) hw (fun h hh => absurd hh (Nat.not_lt_zero _)) (Or.inl rfl)
  refine ⟨N', ?_, c2, c3⟩
  apply eq_X6_goAnHour (d := d)
  rw [av_kP]
  exact c1
