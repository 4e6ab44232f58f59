/-! the class's loop over a condition -/
theorem dU_P {p : Nat} : ∀ q k, dU p q k → dP p q k := fun _ _ z => Or.inr z
theorem dS_P {p : Nat} : ∀ q k, dS q k → dP p q k := fun _ _ z => Or.inl z
theorem eh_stop (L : av_W) (D : Nat) {N : av_N} {F : Nat → Nat} {f p a n k : Nat} {l : List Nat} {v : Value} (due : Bool) (hF : qF F f) (he : al_ep p) (hB : qB N F f) (hG : cG N p a l) (hl : a ≤ f) (hla : l.length + due.toNat ≤ a) (hk : k < 100) (hv : okv v) (h1 : qG F f a ≠ 38) (h2 : qG F f a ≠ 124) : ∃ N', av_V (av_S0 L) (D + 1) ta_X2_either 9 [.ref 72, .ref p, .int (nI n), .int (nI 1), .int (av_b due), .int (nI k), v] [] N = some (some (.int (nI 1)), N') ∧ cG N' p a (l ++ (qE due 2).map sCls) ∧ al_f2 (dP p) N N' := by
  have h100 := hF.1
  obtain ⟨s1, s2, s3, s4⟩ := al_epE he L
  have n1 : ¬ qV F f a = nI 38 := fun z => h1 ((qV_eq hF a (by decide) (by decide)).mp z)
  have n2 : ¬ qV F f a = nI 124 := fun z => h2 ((qV_eq hF a (by decide) (by decide)).mp z)
  cases due
  · refine ⟨N, ?_, by rw [show (qE false 2).map sCls = [] from rfl, List.append_nil]; exact hG, al_f2_rf _ _⟩
    rcases hv with rfl | ⟨y, rfl⟩
    · apply eq_X2_either_9 (d := D)
      simp only [av_kP]
      rw [if_pos (nI_lt hk (by decide)), if_neg (by decide), sp_next L _ hF hB hG.1 hl, av_bi_s, if_neg n1, sp_next L _ hF hB hG.1 hl, av_bi_s, if_neg n2, av_if_f, av_bt_1]
    · apply eq_X2_either_9_b (d := D)
      simp only [av_kP]
      rw [if_pos (nI_lt hk (by decide)), if_neg (by decide), sp_next L _ hF hB hG.1 hl, av_bi_s, if_neg n1, sp_next L _ hF hB hG.1 hl, av_bi_s, if_neg n2, av_if_f, av_bt_1]
  · have hla : l.length + 1 ≤ a := hla
    obtain ⟨N', c1, c2, c3⟩ := cG_put L D he hG (by omega) (x1 := nI 2) (sp_step (k := 2) (o := 0) (by decide))
    refine ⟨N', ?_, c2, al_f2_mono c3 dU_P⟩
    rcases hv with rfl | ⟨y, rfl⟩
    · apply eq_X2_either_9 (d := D)
      simp only [av_kP]
      rw [if_pos (nI_lt hk (by decide)), if_neg (by decide), sp_next L _ hF hB hG.1 hl, av_bi_s, if_neg n1, sp_next L _ hF hB hG.1 hl, av_bi_s, if_neg n2, av_if_t, s1, av_tg_s, c1, av_bv_s, av_bt_1]
    · apply eq_X2_either_9_b (d := D)
      simp only [av_kP]
      rw [if_pos (nI_lt hk (by decide)), if_neg (by decide), sp_next L _ hF hB hG.1 hl, av_bi_s, if_neg n1, sp_next L _ hF hB hG.1 hl, av_bi_s, if_neg n2, av_if_t, s1, av_tg_s, c1, av_bv_s, av_bt_1]
theorem eh_fail (L : av_W) (D : Nat) {N : av_N} {p a n k : Nat} {v : Value} (due : Bool) (he : al_ep p) (hG : cX N p a) (hk : k ≤ 100) (hv : okv v) : ∃ N', av_V (av_S0 L) (D + 1) ta_X2_either 9 [.ref 72, .ref p, .int (nI n), .int (nI 0), .int (av_b due), .int (nI k), v] [] N = some (some (.int (nI 0)), N') ∧ cX N' p a ∧ al_f2 (dP p) N N' := by
  obtain ⟨s1, s2, s3, s4⟩ := al_epE he L
  cases due
  · refine ⟨N, ?_, hG, al_f2_rf _ _⟩
    by_cases hk2 : k < 100
    · rcases hv with rfl | ⟨y, rfl⟩
      · apply eq_X2_either_9 (d := D)
        simp only [av_kP]
        rw [if_pos (nI_lt hk2 (by decide)), if_pos trivial, av_if_f, av_bt_0]
      · apply eq_X2_either_9_b (d := D)
        simp only [av_kP]
        rw [if_pos (nI_lt hk2 (by decide)), if_pos trivial, av_if_f, av_bt_0]
    · rcases hv with rfl | ⟨y, rfl⟩
      · apply eq_X2_either_9 (d := D)
        simp only [av_kP]
        rw [if_neg (nI_nlt (by omega) (by omega)), av_if_f, av_bt_0]
      · apply eq_X2_either_9_b (d := D)
        simp only [av_kP]
        rw [if_neg (nI_nlt (by omega) (by omega)), av_if_f, av_bt_0]
  · obtain ⟨N', c1, c2, c3⟩ := cX_put L D he hG (nI 2) (nI 0)
    refine ⟨N', ?_, c2, al_f2_mono c3 dU_P⟩
    by_cases hk2 : k < 100
    · rcases hv with rfl | ⟨y, rfl⟩
      · apply eq_X2_either_9 (d := D)
        simp only [av_kP]
        rw [if_pos (nI_lt hk2 (by decide)), if_pos trivial, av_if_t, s1, av_tg_s, c1, av_bv_s, av_bt_0]
      · apply eq_X2_either_9_b (d := D)
        simp only [av_kP]
        rw [if_pos (nI_lt hk2 (by decide)), if_pos trivial, av_if_t, s1, av_tg_s, c1, av_bv_s, av_bt_0]
    · rcases hv with rfl | ⟨y, rfl⟩
      · apply eq_X2_either_9 (d := D)
        simp only [av_kP]
        rw [if_neg (nI_nlt (by omega) (by omega)), av_if_t, s1, av_tg_s, c1, av_bv_s, av_bt_0]
      · apply eq_X2_either_9_b (d := D)
        simp only [av_kP]
        rw [if_neg (nI_nlt (by omega) (by omega)), av_if_t, s1, av_tg_s, c1, av_bv_s, av_bt_0]
theorem eh_and (L : av_W) (D : Nat) {N : av_N} {F : Nat → Nat} {f p a n k : Nat} {x4 : Int32} {v : Value} {q : av_Q} (hF : qF F f) (hB : qB N F f) (hG : N.1 72 2 = nI a) (hl : a ≤ f) (hk : k < 100) (hv : okv v) (h1 : qG F f a = 38) (h : av_V (av_S0 L) (D + 1) ta_X2_either 44 [.ref 72, .ref p, .int (nI n), .int (nI 1), .int x4, .int (nI k), .int (nI 1)] [] (av_w N 72 2 (nI (a + 1))) = some q) : av_V (av_S0 L) (D + 1) ta_X2_either 9 [.ref 72, .ref p, .int (nI n), .int (nI 1), .int x4, .int (nI k), v] [] N = some q := by
  have e1 : qV F f a = nI 38 := (qV_eq hF a (by decide) (by decide)).mpr h1
  rcases hv with rfl | ⟨y, rfl⟩
  · apply eq_X2_either_9 (d := D)
    simp only [av_kP]
    rw [if_pos (nI_lt hk (by decide)), if_neg (by decide), sp_next L _ hF hB hG hl, av_bi_s, if_pos e1]
    apply eq_X2_either_22 (d := D)
    simp only [av_kP]
    rw [sp_next L _ hF hB hG hl, av_bi_s, if_pos e1, if_neg (by decide), hG, nI_add]
    exact h
  · apply eq_X2_either_9_b (d := D)
    simp only [av_kP]
    rw [if_pos (nI_lt hk (by decide)), if_neg (by decide), sp_next L _ hF hB hG hl, av_bi_s, if_pos e1]
    apply eq_X2_either_22_b (d := D)
    simp only [av_kP]
    rw [sp_next L _ hF hB hG hl, av_bi_s, if_pos e1, if_neg (by decide), hG, nI_add]
    exact h
theorem eh_or (L : av_W) (D : Nat) {N : av_N} {F : Nat → Nat} {f p a n k : Nat} {l : List Nat} {v : Value} (due : Bool) (hF : qF F f) (he : al_ep p) (hB : qB N F f) (hG : cG N p a l) (hl : a ≤ f) (hla : l.length + due.toNat ≤ a) (hk : k < 100) (hv : okv v) (h1 : qG F f a = 124) : ∃ M, cG M p (a + 1) (l ++ (qE due 2).map sCls) ∧ al_f2 (dP p) N M ∧ ∀ q, av_V (av_S0 L) (D + 1) ta_X2_either 44 [.ref 72, .ref p, .int (nI n), .int (nI 1), .int (av_b due), .int (nI k), .int (nI 0)] [] M = some q → av_V (av_S0 L) (D + 1) ta_X2_either 9 [.ref 72, .ref p, .int (nI n), .int (nI 1), .int (av_b due), .int (nI k), v] [] N = some q := by
  have h100 := hF.1
  obtain ⟨s1, s2, s3, s4⟩ := al_epE he L
  have e1 : qV F f a = nI 124 := (qV_eq hF a (by decide) (by decide)).mpr h1
  have n1 : ¬ qV F f a = nI 38 := fun z => by have := (qV_eq hF a (by decide) (by decide)).mp z; omega
  have f1 : al_f2 dS N (av_w N 72 2 (nI (a + 1))) := al_f2_w N ⟨rfl, rfl⟩ _
  have g1 := cG_S he hG f1 (a' := a + 1) (av_w_s _ _ _ _)
  have hG1 := hG.1
  cases due
  · refine ⟨av_w N 72 2 (nI (a + 1)), by rw [show (qE false 2).map sCls = [] from rfl, List.append_nil]; exact g1, al_f2_mono f1 dS_P, fun q h => ?_⟩
    rcases hv with rfl | ⟨y, rfl⟩
    · apply eq_X2_either_9 (d := D)
      simp only [av_kP]
      rw [if_pos (nI_lt hk (by decide)), if_neg (by decide), sp_next L _ hF hB hG1 hl, av_bi_s, if_neg n1, sp_next L _ hF hB hG1 hl, av_bi_s, if_pos e1]
      apply eq_X2_either_22 (d := D)
      simp only [av_kP]
      rw [sp_next L _ hF hB hG1 hl, av_bi_s, if_neg n1, if_pos trivial, av_if_f, hG1, nI_add]
      exact h
    · apply eq_X2_either_9_b (d := D)
      simp only [av_kP]
      rw [if_pos (nI_lt hk (by decide)), if_neg (by decide), sp_next L _ hF hB hG1 hl, av_bi_s, if_neg n1, sp_next L _ hF hB hG1 hl, av_bi_s, if_pos e1]
      apply eq_X2_either_22_b (d := D)
      simp only [av_kP]
      rw [sp_next L _ hF hB hG1 hl, av_bi_s, if_neg n1, if_pos trivial, av_if_f, hG1, nI_add]
      exact h
  · have hla : l.length + 1 ≤ a := hla
    obtain ⟨M, c1, c2, c3⟩ := cG_put L D he g1 (by omega) (x1 := nI 2) (sp_step (k := 2) (o := 0) (by decide))
    refine ⟨M, c2, al_f2_tr (al_f2_mono f1 dS_P) (al_f2_mono c3 dU_P), fun q h => ?_⟩
    rcases hv with rfl | ⟨y, rfl⟩
    · apply eq_X2_either_9 (d := D)
      simp only [av_kP]
      rw [if_pos (nI_lt hk (by decide)), if_neg (by decide), sp_next L _ hF hB hG1 hl, av_bi_s, if_neg n1, sp_next L _ hF hB hG1 hl, av_bi_s, if_pos e1]
      apply eq_X2_either_22 (d := D)
      simp only [av_kP]
      rw [sp_next L _ hF hB hG1 hl, av_bi_s, if_neg n1, if_pos trivial, av_if_t, s1, av_tg_s, hG1, nI_add, c1, av_bv_s]
      exact h
    · apply eq_X2_either_9_b (d := D)
      simp only [av_kP]
      rw [if_pos (nI_lt hk (by decide)), if_neg (by decide), sp_next L _ hF hB hG1 hl, av_bi_s, if_neg n1, sp_next L _ hF hB hG1 hl, av_bi_s, if_pos e1]
      apply eq_X2_either_22_b (d := D)
      simp only [av_kP]
      rw [sp_next L _ hF hB hG1 hl, av_bi_s, if_neg n1, if_pos trivial, av_if_t, s1, av_tg_s, hG1, nI_add, c1, av_bv_s]
      exact h
theorem eh_44and (L : av_W) (D : Nat) {N N1 N2 : av_N} {p n k : Nat} {x3 : Int32} {q : av_Q} (b due : Bool) (he : al_ep p) (h1 : av_C (av_S0 L) D 28 [.ref 72, .ref p, .int (nI n)] N = some (some (.int (av_b b)), N1)) (h2 : av_C (av_S0 L) D 15 [.ref p, .int (nI 1), .int (nI 0)] N1 = some (none, N2)) (h : av_V (av_S0 L) (D + 1) ta_X2_either 9 [.ref 72, .ref p, .int (nI n), .int (av_b b), .int (av_b due), .int (nI (k + 1)), .int (nI 1)] [] N2 = some q) : av_V (av_S0 L) (D + 1) ta_X2_either 44 [.ref 72, .ref p, .int (nI n), .int x3, .int (av_b due), .int (nI k), .int (nI 1)] [] N = some q := by
  obtain ⟨s1, s2, s3, s4⟩ := al_epE he L
  apply eq_X2_either_44 (d := D)
  simp only [av_kP]
  have e : av_b due ||| nI 0 = av_b due := by cases due <;> decide
  rw [h1, av_bi_s, if_neg (by decide), s1, av_tg_s, h2, av_bv_s, if_neg (by decide), e, nI_add]
  exact h
theorem eh_44or (L : av_W) (D : Nat) {N N1 : av_N} {p n k : Nat} {x3 : Int32} {q : av_Q} (b due : Bool) (h1 : av_C (av_S0 L) D 28 [.ref 72, .ref p, .int (nI n)] N = some (some (.int (av_b b)), N1)) (h : av_V (av_S0 L) (D + 1) ta_X2_either 9 [.ref 72, .ref p, .int (nI n), .int (av_b b), .int (av_b true), .int (nI (k + 1)), .int (nI 0)] [] N1 = some q) : av_V (av_S0 L) (D + 1) ta_X2_either 44 [.ref 72, .ref p, .int (nI n), .int x3, .int (av_b due), .int (nI k), .int (nI 0)] [] N = some q := by
  apply eq_X2_either_44 (d := D)
  simp only [av_kP]
  have e : av_b due ||| nI 1 = av_b true := by cases due <;> decide
  rw [h1, av_bi_s, if_pos trivial, if_pos trivial, e, nI_add]
  exact h
