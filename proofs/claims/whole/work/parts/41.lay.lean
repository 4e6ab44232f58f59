/-! the class's air: who is laid where -/
/-- a scene: how many birds, the day, the birds -/
def al_sn (N : av_N) (P pb n day : Nat) (B : Nat → Nat → Nat) : Prop := n ≤ 7 ∧ N.1 P 1 = nI n ∧ N.1 P 2 = nI day ∧ (∀ b, b < n → al_bd N (pb + 2 * b) (B b) ∧ al_ok (B b) ∧ B b 1 = b) ∧ day < 2 ^ 19
def al_ce (N : av_N) (e : Nat) (cs : List (Nat × Nat × List Nat)) : Prop := e < 7 ∧ N.1 10 3 = nI e ∧ al_es N (116 + 2 * e) (sFl cs) (sGain cs) (sTop cs) ∧ (∀ c ∈ cs, sCl c) ∧ cs.length ≤ 10
/-- the class as it stands: birds, day, the estuary that holds -/
def al_cv (N : av_N) (n day : Nat) (B : Nat → Nat → Nat) (cs : List (Nat × Nat × List Nat)) : Prop := al_sn N 10 27 n day B ∧ ∃ e, al_ce N e cs
theorem al_R74 : ∀ j, j < 7 → am_MR 74 j = some (116 + 2 * j) := by decide
theorem al_R78 : ∀ j, j < 7 → am_MR 78 j = some (94 + 2 * j) := by decide
theorem al_R42 : ∀ j, j < 7 → am_MR 42 j = some (58 + 2 * j) := by decide
theorem al_bp27 {b : Nat} (h : b < 7) : al_bp (27 + 2 * b) := Or.inr ⟨b, h, Or.inl rfl⟩
theorem al_bp58 {b : Nat} (h : b < 7) : al_bp (58 + 2 * b) := Or.inr ⟨b, h, Or.inr (Or.inl rfl)⟩
theorem al_bp94 {b : Nat} (h : b < 7) : al_bp (94 + 2 * b) := Or.inr ⟨b, h, Or.inr (Or.inr rfl)⟩
theorem al_ep_e {e : Nat} (h : e < 7) : al_ep (116 + 2 * e) := ⟨e, h, rfl⟩
theorem sp_estuaryNow (L : av_W) (d : Nat) {N : av_N} {e : Nat} {cs : List (Nat × Nat × List Nat)} (h : al_ce N e cs) : av_C (av_S0 L) (d + 1) 88 [.ref 9] N = some (some (.ref (116 + 2 * e)), N) := by
  obtain ⟨h1, h2, -⟩ := h
  apply eq_X6_estuaryNow (d := d)
  rw [h2, av_kP, av_kP, sp_within, av_bi_s, av_wiN (by decide) (by decide) (by omega), if_neg (by rw [decide_eq_true (by omega)]; decide), h2, av_gx_s (by omega) (by omega), nI_clamp (by omega), al_R74 e h1]
  rfl
def al_lay (N : av_N) (a b : Nat → Nat) : Prop := ∀ t, t < 24 → N.1 110 t = nI (a t) ∧ N.1 111 t = nI (b t)
abbrev al_dL (q : Nat) : Prop := q = 110 ∨ q = 111
theorem sp_layBird (L : av_W) (d : Nat) {N : av_N} {a b : Nat → Nat} (h : al_lay N a b) {x m : Nat} (hm : m < 2 ^ 31) : ∃ N', av_C (av_S0 L) d 90 [.ref 9, .int (nI x), .int (nI m)] N = some (none, N') ∧ al_lay N' (fun t => if m.testBit t then a t ||| x else a t) (fun t => if m.testBit t then b t ||| (a t &&& x) else b t) ∧ al_fr al_dL N N' := by
  have key := lp_0 (P := fun k => ∀ M, (∀ t, t < k → M.1 110 t = nI (if m.testBit t then a t ||| x else a t) ∧ M.1 111 t = nI (if m.testBit t then b t ||| (a t &&& x) else b t)) → (∀ t, k ≤ t → t < 24 → M.1 110 t = nI (a t) ∧ M.1 111 t = nI (b t)) → al_fr al_dL N M → ∃ N', av_V (av_S0 L) d ta_X6_layBird 2 [.ref 9, .int (nI x), .int (nI m), .int (nI k)] [] M = some (none, N') ∧ al_lay N' (fun t => if m.testBit t then a t ||| x else a t) (fun t => if m.testBit t then b t ||| (a t &&& x) else b t) ∧ al_fr al_dL N N') 24 (fun M h1 h2 hf => by
    refine ⟨M, ?_, h1, hf⟩
    apply eq_X6_layBird_2
    rw [av_kP, if_neg (nI_nlt (Nat.le_refl _) (by decide))]) (fun k hk ih M h1 h2 hf => by
    obtain ⟨e1, e2⟩ := h2 k (Nat.le_refl _) hk
    by_cases hb : m.testBit k = true
    · obtain ⟨N', c1, c2, c3⟩ := ih (av_w (av_w M 111 k (nI (b k ||| (a k &&& x)))) 110 k (nI (a k ||| x))) (fun t ht => by
        by_cases e : t = k
        · subst e
          rw [if_pos hb, if_pos hb]
          exact ⟨av_w_s _ _ _ _, (av_w_o _ _ _ _ _ (by decide)).trans (av_w_s _ _ _ _)⟩
        · rw [av_w_k _ _ _ _ e, av_w_o _ _ _ _ _ (by decide), av_w_o _ _ _ _ _ (by decide), av_w_k _ _ _ _ e]
          exact h1 t (by omega)) (fun t ht ht2 => by
        rw [av_w_k _ _ _ _ (by omega), av_w_o _ _ _ _ _ (by decide), av_w_o _ _ _ _ _ (by decide), av_w_k _ _ _ _ (by omega)]
        exact h2 t (by omega) ht2) (al_fr_tr hf (al_fr_tr (al_fr_w M (Or.inr rfl) _ _) (al_fr_w _ (Or.inl rfl) _ _)))
      refine ⟨N', ?_, c2, c3⟩
      apply eq_X6_layBird_2
      have hnb : ¬ ((nI m >>> (nI k &&& 31)) &&& nI 1 = nI 0) := fun z => by
        rw [av_bit hm (by omega)] at z
        rw [hb] at z
        cases z
      simp only [av_kP]
      rw [if_pos (nI_lt hk (by decide)), if_neg hnb]
      simp (disch := omega) only [av_gx_s, nI_clamp, e1, e2, av_kP, av_and, av_or, nI_add, av_w_o _ 111 _ _ _ (show (110 : Nat) ≠ 111 by decide)]
      exact c1
    · obtain ⟨N', c1, c2, c3⟩ := ih M (fun t ht => by
        by_cases e : t = k
        · subst e
          rw [if_neg hb, if_neg hb]
          exact ⟨e1, e2⟩
        · exact h1 t (by omega)) (fun t ht ht2 => h2 t (by omega) ht2) hf
      refine ⟨N', ?_, c2, c3⟩
      apply eq_X6_layBird_2
      rw [av_kP, if_pos (nI_lt hk (by decide)), av_kP, av_kP, if_pos ((av_bit hm (by omega)).mpr (by simpa using hb)), nI_add]
      exact c1)
  obtain ⟨N', c1, c2, c3⟩ := key N (fun t ht => absurd ht (Nat.not_lt_zero _)) (fun t _ ht => h t ht) (al_fr_rf _ _)
  refine ⟨N', ?_, c2, c3⟩
  apply eq_X6_layBird
  rw [av_kP]
  exact c1
/-- heights held in an hour, by the first birds but for one; and by two of them or more -/
def sOnce (B : Nat → Nat → Nat) (top day w t : Nat) : Nat → Nat
  | 0 => 0
  | k + 1 => if k = w then sOnce B top day w t k else if (sSm (B k) day).testBit t then sOnce B top day w t k ||| sHm (B k) top else sOnce B top day w t k
def sTwice (B : Nat → Nat → Nat) (top day w t : Nat) : Nat → Nat
  | 0 => 0
  | k + 1 => if k = w then sTwice B top day w t k else if (sSm (B k) day).testBit t then sTwice B top day w t k ||| (sOnce B top day w t k &&& sHm (B k) top) else sTwice B top day w t k
theorem al_bd_2 {D : Nat → Prop} {N N' : av_N} {p : Nat} {B : Nat → Nat} (h : al_bd N p B) (hf : al_fr D N N') (h1 : ¬ D p) (h2 : ¬ D (p + 1)) : al_bd N' p B := al_bd_fr h hf h1 h2
theorem al_sn_fr {N N' : av_N} {P pb n day : Nat} {B : Nat → Nat → Nat} (h : al_sn N P pb n day B) {D : Nat → Prop} (hf : al_fr D N N') (hP : ¬ D P) (hb : ∀ q, pb ≤ q → q < pb + 14 → ¬ D q) : al_sn N' P pb n day B := by
  obtain ⟨h1, h2, h3, h4, h5⟩ := h
  refine ⟨h1, ((hf P hP 1).1).trans h2, ((hf P hP 2).1).trans h3, fun b hb' => ?_, h5⟩
  obtain ⟨k1, k2⟩ := h4 b hb'
  exact ⟨al_bd_fr k1 hf (hb _ (by omega) (by omega)) (hb _ (by omega) (by omega)), k2⟩
theorem al_ce_fr {N N' : av_N} {e : Nat} {cs : List (Nat × Nat × List Nat)} (h : al_ce N e cs) {D : Nat → Prop} (hf : al_fr D N N') (h10 : ¬ D 10) (hq : ∀ q, 116 ≤ q → q < 130 → ¬ D q) : al_ce N' e cs := by
  obtain ⟨h1, h2, h3, h4⟩ := h
  exact ⟨h1, ((hf 10 h10 3).1).trans h2, al_es_fr h3 hf (hq _ (by omega) (by omega)) (hq _ (by omega) (by omega)), h4⟩
theorem al_cv_fr {N N' : av_N} {n day : Nat} {B : Nat → Nat → Nat} {cs : List (Nat × Nat × List Nat)} (h : al_cv N n day B cs) {D : Nat → Prop} (hf : al_fr D N N') (hq : ∀ q, q = 10 ∨ (27 ≤ q ∧ q < 41) ∨ (116 ≤ q ∧ q < 130) → ¬ D q) : al_cv N' n day B cs := by
  obtain ⟨h1, e, h2⟩ := h
  exact ⟨al_sn_fr h1 hf (hq _ (by omega)) (fun q a b => hq q (by omega)), e, al_ce_fr h2 hf (hq _ (by omega)) (fun q a b => hq q (by omega))⟩
theorem sp_layAir_10 (L : av_W) (d : Nat) {N : av_N} {n day : Nat} {B : Nat → Nat → Nat} (hs : al_sn N 10 27 n day B) {top w : Nat} {x3 : Int32} (ht : top ≤ 10) (hw : ∀ k, k < 7 → (nI k = x3 ↔ k = w)) : ∃ N', av_C (av_S0 L) (d + 3) 89 [.ref 9, .ref 10, .int (nI top), .int x3] N = some (none, N') ∧ al_lay N' (fun t => sOnce B top day w t n) (fun t => sTwice B top day w t n) ∧ al_fr al_dL N N' := by
  have hn := hs.1
  have keyb := lp_0 (P := fun k => ∀ M, al_lay M (fun t => sOnce B top day w t k) (fun t => sTwice B top day w t k) → al_fr al_dL N M → ∃ N', av_V (av_S0 L) (d + 3) ta_X6_layAir 19 [.ref 9, .ref 10, .int (nI top), .int x3, .int (nI k)] [] M = some (none, N') ∧ al_lay N' (fun t => sOnce B top day w t n) (fun t => sTwice B top day w t n) ∧ al_fr al_dL N N') n (fun M hM hf => by
    have hs' := al_sn_fr hs hf (by unfold al_dL; omega) (fun q a b => by unfold al_dL; omega)
    refine ⟨M, ?_, hM, hf⟩
    apply eq_X6_layAir_10_19 (d := d + 2)
    rw [hs'.2.1, if_neg (nI_nlt (Nat.le_refl _) (by omega))]) (fun k hk ih M hM hf => by
    have hs' := al_sn_fr hs hf (by unfold al_dL; omega) (fun q a b => by unfold al_dL; omega)
    obtain ⟨kb, ok, -⟩ := hs'.2.2.2.1 k hk
    have hbp : al_bp (27 + 2 * k) := al_bp27 (by omega)
    obtain ⟨s1, s2, s3, s4⟩ := al_bpE hbp L
    by_cases hkw : k = w
    · obtain ⟨N', c1, c2, c3⟩ := ih M (by
        intro t ht
        have := hM t ht
        show M.1 110 t = nI (if k = w then _ else _) ∧ M.1 111 t = nI (if k = w then _ else _)
        rw [if_pos hkw, if_pos hkw]
        exact this) hf
      refine ⟨N', ?_, c2, c3⟩
      apply eq_X6_layAir_10_19 (d := d + 2)
      rw [hs'.2.1, if_pos (nI_lt hk (by omega)), if_pos ((hw k (by omega)).mpr hkw), av_kP, nI_add]
      exact c1
    · obtain ⟨N1, c1, c2, c3⟩ := sp_layBird L (d + 2) hM (x := sHm (B k) top) (m := sSm (B k) day) (Nat.lt_trans (sSm_lt _ _) (by decide))
      obtain ⟨N', c4, c5, c6⟩ := ih N1 (by
        intro t ht
        have := c2 t ht
        show N1.1 110 t = nI (if k = w then _ else if (sSm (B k) day).testBit t then _ else _) ∧ N1.1 111 t = nI (if k = w then _ else if (sSm (B k) day).testBit t then _ else _)
        rw [if_neg hkw, if_neg hkw]
        exact this) (al_fr_tr hf c3)
      refine ⟨N', ?_, c5, c6⟩
      apply eq_X6_layAir_10_19 (d := d + 2)
      rw [hs'.2.1, if_pos (nI_lt hk (by omega)), if_neg (fun z => hkw ((hw k (by omega)).mp z)), av_gx_s (by omega) (by omega), nI_clamp (by omega), al_R11 k (by omega), av_bd_s, s1, av_tg_s, sp_heights L _ hbp kb ok (by omega), av_bi_s, av_gx_s (by omega) (by omega), av_bd_s, s1, av_tg_s, hs'.2.2.1, sp_span L _ hbp kb ok (by have := hs.2.2.2.2; omega), av_bi_s, c1, av_bv_s, av_kP, nI_add]
      exact c4)
  have keyz := lp_0 (P := fun k => ∀ M, (∀ t, t < k → M.1 110 t = nI 0 ∧ M.1 111 t = nI 0) → al_fr al_dL N M → ∃ N', av_V (av_S0 L) (d + 3) ta_X6_layAir 2 [.ref 9, .ref 10, .int (nI top), .int x3, .int (nI k)] [] M = some (none, N') ∧ al_lay N' (fun t => sOnce B top day w t n) (fun t => sTwice B top day w t n) ∧ al_fr al_dL N N') 24 (fun M hM hf => by
    obtain ⟨N', c1, c2, c3⟩ := keyb M hM hf
    refine ⟨N', ?_, c2, c3⟩
    apply eq_X6_layAir_10_2 (d := d + 2)
    rw [av_kP, if_neg (nI_nlt (Nat.le_refl _) (by decide)), av_kP]
    exact c1) (fun k hk ih M hM hf => by
    obtain ⟨N', c1, c2, c3⟩ := ih (av_w (av_w M 110 k (nI 0)) 111 k (nI 0)) (fun t ht => by
      by_cases e : t = k
      · subst e
        exact ⟨(av_w_o _ _ _ _ _ (by decide)).trans (av_w_s _ _ _ _), av_w_s _ _ _ _⟩
      · rw [av_w_o _ _ _ _ _ (by decide), av_w_k _ _ _ _ e, av_w_k _ _ _ _ e, av_w_o _ _ _ _ _ (by decide)]
        exact hM t (by omega)) (al_fr_tr hf (al_fr_tr (al_fr_w M (Or.inl rfl) _ _) (al_fr_w _ (Or.inr rfl) _ _)))
    refine ⟨N', ?_, c2, c3⟩
    apply eq_X6_layAir_10_2 (d := d + 2)
    rw [av_kP, if_pos (nI_lt hk (by decide)), av_gx_s (by omega) (by omega), av_gx_s (by omega) (by omega), nI_clamp (by omega), av_kP, av_kP, nI_add]
    exact c1)
  obtain ⟨N', c1, c2, c3⟩ := keyz N (fun t ht => absurd ht (Nat.not_lt_zero _)) (al_fr_rf _ _)
  refine ⟨N', ?_, c2, c3⟩
  apply eq_X6_layAir_10 (d := d + 2)
  rw [av_kP]
  exact c1
theorem sp_layAir_77 (L : av_W) (d : Nat) {N : av_N} {n day : Nat} {B : Nat → Nat → Nat} (hs : al_sn N 77 94 n day B) {top w : Nat} {x3 : Int32} (ht : top ≤ 10) (hw : ∀ k, k < 7 → (nI k = x3 ↔ k = w)) : ∃ N', av_C (av_S0 L) (d + 3) 89 [.ref 9, .ref 77, .int (nI top), .int x3] N = some (none, N') ∧ al_lay N' (fun t => sOnce B top day w t n) (fun t => sTwice B top day w t n) ∧ al_fr al_dL N N' := by
  have hn := hs.1
  have keyb := lp_0 (P := fun k => ∀ M, al_lay M (fun t => sOnce B top day w t k) (fun t => sTwice B top day w t k) → al_fr al_dL N M → ∃ N', av_V (av_S0 L) (d + 3) ta_X6_layAir 19 [.ref 9, .ref 77, .int (nI top), .int x3, .int (nI k)] [] M = some (none, N') ∧ al_lay N' (fun t => sOnce B top day w t n) (fun t => sTwice B top day w t n) ∧ al_fr al_dL N N') n (fun M hM hf => by
    have hs' := al_sn_fr hs hf (by unfold al_dL; omega) (fun q a b => by unfold al_dL; omega)
    refine ⟨M, ?_, hM, hf⟩
    apply eq_X6_layAir_77_19 (d := d + 2)
    rw [hs'.2.1, if_neg (nI_nlt (Nat.le_refl _) (by omega))]) (fun k hk ih M hM hf => by
    have hs' := al_sn_fr hs hf (by unfold al_dL; omega) (fun q a b => by unfold al_dL; omega)
    obtain ⟨kb, ok, -⟩ := hs'.2.2.2.1 k hk
    have hbp : al_bp (94 + 2 * k) := al_bp94 (by omega)
    obtain ⟨s1, s2, s3, s4⟩ := al_bpE hbp L
    by_cases hkw : k = w
    · obtain ⟨N', c1, c2, c3⟩ := ih M (by
        intro t ht
        have := hM t ht
        show M.1 110 t = nI (if k = w then _ else _) ∧ M.1 111 t = nI (if k = w then _ else _)
        rw [if_pos hkw, if_pos hkw]
        exact this) hf
      refine ⟨N', ?_, c2, c3⟩
      apply eq_X6_layAir_77_19 (d := d + 2)
      rw [hs'.2.1, if_pos (nI_lt hk (by omega)), if_pos ((hw k (by omega)).mpr hkw), av_kP, nI_add]
      exact c1
    · obtain ⟨N1, c1, c2, c3⟩ := sp_layBird L (d + 2) hM (x := sHm (B k) top) (m := sSm (B k) day) (Nat.lt_trans (sSm_lt _ _) (by decide))
      obtain ⟨N', c4, c5, c6⟩ := ih N1 (by
        intro t ht
        have := c2 t ht
        show N1.1 110 t = nI (if k = w then _ else if (sSm (B k) day).testBit t then _ else _) ∧ N1.1 111 t = nI (if k = w then _ else if (sSm (B k) day).testBit t then _ else _)
        rw [if_neg hkw, if_neg hkw]
        exact this) (al_fr_tr hf c3)
      refine ⟨N', ?_, c5, c6⟩
      apply eq_X6_layAir_77_19 (d := d + 2)
      rw [hs'.2.1, if_pos (nI_lt hk (by omega)), if_neg (fun z => hkw ((hw k (by omega)).mp z)), av_gx_s (by omega) (by omega), nI_clamp (by omega), al_R78 k (by omega), av_bd_s, s1, av_tg_s, sp_heights L _ hbp kb ok (by omega), av_bi_s, av_gx_s (by omega) (by omega), av_bd_s, s1, av_tg_s, hs'.2.2.1, sp_span L _ hbp kb ok (by have := hs.2.2.2.2; omega), av_bi_s, c1, av_bv_s, av_kP, nI_add]
      exact c4)
  have keyz := lp_0 (P := fun k => ∀ M, (∀ t, t < k → M.1 110 t = nI 0 ∧ M.1 111 t = nI 0) → al_fr al_dL N M → ∃ N', av_V (av_S0 L) (d + 3) ta_X6_layAir 2 [.ref 9, .ref 77, .int (nI top), .int x3, .int (nI k)] [] M = some (none, N') ∧ al_lay N' (fun t => sOnce B top day w t n) (fun t => sTwice B top day w t n) ∧ al_fr al_dL N N') 24 (fun M hM hf => by
    obtain ⟨N', c1, c2, c3⟩ := keyb M hM hf
    refine ⟨N', ?_, c2, c3⟩
    apply eq_X6_layAir_77_2 (d := d + 2)
    rw [av_kP, if_neg (nI_nlt (Nat.le_refl _) (by decide)), av_kP]
    exact c1) (fun k hk ih M hM hf => by
    obtain ⟨N', c1, c2, c3⟩ := ih (av_w (av_w M 110 k (nI 0)) 111 k (nI 0)) (fun t ht => by
      by_cases e : t = k
      · subst e
        exact ⟨(av_w_o _ _ _ _ _ (by decide)).trans (av_w_s _ _ _ _), av_w_s _ _ _ _⟩
      · rw [av_w_o _ _ _ _ _ (by decide), av_w_k _ _ _ _ e, av_w_k _ _ _ _ e, av_w_o _ _ _ _ _ (by decide)]
        exact hM t (by omega)) (al_fr_tr hf (al_fr_tr (al_fr_w M (Or.inl rfl) _ _) (al_fr_w _ (Or.inr rfl) _ _)))
    refine ⟨N', ?_, c2, c3⟩
    apply eq_X6_layAir_77_2 (d := d + 2)
    rw [av_kP, if_pos (nI_lt hk (by decide)), av_gx_s (by omega) (by omega), av_gx_s (by omega) (by omega), nI_clamp (by omega), av_kP, av_kP, nI_add]
    exact c1)
  obtain ⟨N', c1, c2, c3⟩ := keyz N (fun t ht => absurd ht (Nat.not_lt_zero _)) (al_fr_rf _ _)
  refine ⟨N', ?_, c2, c3⟩
  apply eq_X6_layAir_77 (d := d + 2)
  rw [av_kP]
  exact c1
