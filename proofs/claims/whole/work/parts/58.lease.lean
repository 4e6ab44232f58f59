/-! leased -/
def sLs (B X : Nat → Nat → Nat) : Nat → Nat → Nat → Nat
  | 0 => B
  | r + 1 => sUpd (sLs B X r) (X r 0) (sSet (sSet (sLs B X r (X r 0)) 4 (X r 1)) 6 (X r 2))
theorem sLs_of (B X : Nat → Nat → Nat) : ∀ r b f, f ≠ 4 → f ≠ 6 → sLs B X r b f = B b f
  | 0, _, _, _, _ => rfl
  | r + 1, b, f, h4, h6 => by
    show sUpd (sLs B X r) (X r 0) (sSet (sSet (sLs B X r (X r 0)) 4 (X r 1)) 6 (X r 2)) b f = B b f
    by_cases e : b = X r 0
    · rw [← e, sUpd_s, sSet_n _ _ h6, sSet_n _ _ h4]
      exact sLs_of B X r b f h4 h6
    · rw [sUpd_n _ _ e]
      exact sLs_of B X r b f h4 h6
theorem sLs_ok {B X : Nat → Nat → Nat} {n s : Nat} (hB : ∀ b, b < n → al_ok (B b)) (hX : ∀ r, r < s → X r 0 < n ∧ X r 1 ≤ 9 ∧ X r 2 < 24) : ∀ r, r ≤ s → ∀ b, b < n → al_ok (sLs B X r b)
  | 0, _, b, hb => hB b hb
  | r + 1, hr, b, hb => by
    obtain ⟨h0, h1, h2⟩ := hX r (by omega)
    show al_ok (sUpd (sLs B X r) (X r 0) (sSet (sSet (sLs B X r (X r 0)) 4 (X r 1)) 6 (X r 2)) b)
    by_cases e : b = X r 0
    · rw [← e, sUpd_s]
      exact al_ok_6 (al_ok_4 (sLs_ok hB hX r (by omega) b hb) h1) h2
    · rw [sUpd_n _ _ e]
      exact sLs_ok hB hX r (by omega) b hb
theorem sp_birdAt77 (L : av_W) (d : Nat) {j n : Nat} {N : av_N} (h : N.1 77 1 = nI n) (hn : n ≤ 7) (hj : j < n) : av_C (av_S0 L) d 39 [.ref 77, .int (nI j)] N = some (some (.ref (94 + 2 * j)), N) := by
  apply eq_X4_birdAt_77
  have hj' : j < 2 ^ 31 := by omega
  rw [h, av_kP, if_neg (nI_nlt (Nat.zero_le _) hj'), if_pos (nI_lt hj (by omega)), show Int32.ofNat 7 = nI 7 from rfl, if_pos (nI_lt (by omega) (by decide)), av_gx_s (by omega) hj', nI_clamp hj', al_R78 j (by omega)]
  rfl
theorem sp_leasedC (L : av_W) (d : Nat) {N : av_N} {n day e s : Nat} {B X : Nat → Nat → Nat} {cs : List (Nat × Nat × List Nat)} {w : Int32} (hs : al_sn N 77 94 n day B) (he : al_ce N e cs) (s6 : s ≤ 6) (hr : al_rows N 17 s 3 X) (hX : ∀ r, r < s → X r 0 < n ∧ X r 1 ≤ 9 ∧ X r 2 < 24) : ∃ N', av_V (av_S0 L) (d + 20) ta_X6_leased 14 [.ref 9, .int w, .int (nI 0), am_junk] [] N = some (some (.int (if w = nI 0 then nI (sCrowd (sLs B X s) n (sTop cs) day) else nI (sAllRent (sLs B X s) n cs day))), N') ∧ al_fr al_dC N N' := by
  have hn := hs.1
  have hok : ∀ r, r ≤ s → ∀ b, b < n → al_ok (sLs B X r b) := sLs_ok (fun b hb => (hs.2.2.2.1 b hb).2.1) hX
  have key := lp_0 (P := fun k => ∀ M v, (v = am_junk ∨ (∃ p, v = .ref p) ∨ v = .null) → al_fr al_dC N M → al_sn M 77 94 n day (sLs B X k) → al_ce M e cs → al_rows M 17 s 3 X → ∃ N', av_V (av_S0 L) (d + 20) ta_X6_leased 14 [.ref 9, .int w, .int (nI k), v] [] M = some (some (.int (if w = nI 0 then nI (sCrowd (sLs B X s) n (sTop cs) day) else nI (sAllRent (sLs B X s) n cs day))), N') ∧ al_fr al_dC N N') s (fun M v hv hM hsM heM hrM => by
    by_cases hw : w = nI 0
    · obtain ⟨N', c, f⟩ := sp_crowded_77 L (d + 15) hsM heM
      refine ⟨N', ?_, al_fr_tr hM (al_dLC f)⟩
      rw [if_pos hw]
      rcases hv with rfl | ⟨p, rfl⟩ | rfl
      · apply eq_X6_leased_14_a (d := d + 19)
        rw [hrM.1, if_neg (nI_nlt (Nat.le_refl _) (by omega)), av_kP, if_pos hw, c, av_bi_s]
      · apply eq_X6_leased_14_b (d := d + 19)
        rw [hrM.1, if_neg (nI_nlt (Nat.le_refl _) (by omega)), av_kP, if_pos hw, c, av_bi_s]
      · apply eq_X6_leased_14_c (d := d + 19)
        rw [hrM.1, if_neg (nI_nlt (Nat.le_refl _) (by omega)), av_kP, if_pos hw, c, av_bi_s]
    · have c := sp_rentOfAll_77 L (d + 15) hsM heM
      refine ⟨M, ?_, hM⟩
      rw [if_neg hw]
      rcases hv with rfl | ⟨p, rfl⟩ | rfl
      · apply eq_X6_leased_14_a (d := d + 19)
        rw [hrM.1, if_neg (nI_nlt (Nat.le_refl _) (by omega)), av_kP, if_neg hw, c, av_bi_s]
      · apply eq_X6_leased_14_b (d := d + 19)
        rw [hrM.1, if_neg (nI_nlt (Nat.le_refl _) (by omega)), av_kP, if_neg hw, c, av_bi_s]
      · apply eq_X6_leased_14_c (d := d + 19)
        rw [hrM.1, if_neg (nI_nlt (Nat.le_refl _) (by omega)), av_kP, if_neg hw, c, av_bi_s]) (fun k hk ih M v hv hM hsM heM hrM => by
    obtain ⟨h0, h1, h2⟩ := hX k hk
    have hp : al_bp (94 + 2 * X k 0) := al_bp94 (by omega)
    obtain ⟨t1, t2, t3, t4⟩ := al_bpE hp L
    obtain ⟨kb, ok, k1⟩ := hsM.2.2.2.1 (X k 0) h0
    have r0 : M.1 18 k = nI (X k 0) := hrM.2 k hk 0 (by decide)
    have r1 : M.1 19 k = nI (X k 1) := hrM.2 k hk 1 (by decide)
    have r2 : M.1 20 k = nI (X k 2) := hrM.2 k hk 2 (by decide)
    have b2 := al_bd_set (k := X k 2) (f := 6) (al_bd_set (k := X k 1) (f := 4) kb (by decide) (fun _ _ => rfl)) (by decide) (fun _ _ => rfl)
    have fw : al_fr (fun q => q = 94 + 2 * X k 0) M (av_w (av_w M (94 + 2 * X k 0) 4 (nI (X k 1))) (94 + 2 * X k 0) 6 (nI (X k 2))) := al_fr_tr (al_fr_w1 M _ _ _) (al_fr_w1 _ _ _ _)
    obtain ⟨N', c, f⟩ := ih _ (.ref (94 + 2 * X k 0)) (Or.inr (Or.inl ⟨_, rfl⟩)) (al_fr_tr hM (al_fr_mono fw (fun q z => by unfold al_dC; omega))) ⟨hn, (al_fr_k fw (by omega)).trans hsM.2.1, (al_fr_k fw (by omega)).trans hsM.2.2.1, fun b hb => by
      show al_bd _ _ (sUpd (sLs B X k) (X k 0) (sSet (sSet (sLs B X k (X k 0)) 4 (X k 1)) 6 (X k 2)) b) ∧ al_ok (sUpd (sLs B X k) (X k 0) (sSet (sSet (sLs B X k (X k 0)) 4 (X k 1)) 6 (X k 2)) b) ∧ sUpd (sLs B X k) (X k 0) (sSet (sSet (sLs B X k (X k 0)) 4 (X k 1)) 6 (X k 2)) b 1 = b
      by_cases e : b = X k 0
      · rw [← e, sUpd_s, e]
        exact ⟨b2, al_ok_6 (al_ok_4 ok h1) h2, k1⟩
      · rw [sUpd_n _ _ e]
        obtain ⟨x1, x2, x3⟩ := hsM.2.2.2.1 b hb
        exact ⟨al_bd_fr x1 fw (by omega) (by omega), x2, x3⟩, hsM.2.2.2.2⟩ (al_ce_fr heM fw (by omega) (fun q a b => by omega)) (al_rows_fr hrM fw (fun q a b => by omega))
    refine ⟨N', ?_, f⟩
    rcases hv with rfl | ⟨p, rfl⟩ | rfl
    · apply eq_X6_leased_14_a (d := d + 19)
      rw [hrM.1, if_pos (nI_lt hk (by omega)), av_gx_s (by omega) (by omega), nI_clamp (by omega), r0, sp_birdAt77 L _ hsM.2.1 hn h0, av_br_s, av_gx_s (by omega) (by omega), t1, av_tg_s, av_gx_s (by omega) (by omega), av_tg_s, r1, av_w_o _ _ _ _ _ (by omega), r2, av_kP, nI_add]
      exact c
    · apply eq_X6_leased_14_b (d := d + 19)
      rw [hrM.1, if_pos (nI_lt hk (by omega)), av_gx_s (by omega) (by omega), nI_clamp (by omega), r0, sp_birdAt77 L _ hsM.2.1 hn h0, av_br_s, av_gx_s (by omega) (by omega), t1, av_tg_s, av_gx_s (by omega) (by omega), av_tg_s, r1, av_w_o _ _ _ _ _ (by omega), r2, av_kP, nI_add]
      exact c
    · apply eq_X6_leased_14_c (d := d + 19)
      rw [hrM.1, if_pos (nI_lt hk (by omega)), av_gx_s (by omega) (by omega), nI_clamp (by omega), r0, sp_birdAt77 L _ hsM.2.1 hn h0, av_br_s, av_gx_s (by omega) (by omega), t1, av_tg_s, av_gx_s (by omega) (by omega), av_tg_s, r1, av_w_o _ _ _ _ _ (by omega), r2, av_kP, nI_add]
      exact c)
  exact key N am_junk (Or.inl rfl) (al_fr_rf _ _) hs he hr
def al_qL (q k : Nat) : Prop := q = 145 ∨ q = 147 ∨ q = 160 ∨ q = 175 ∨ q = 176
theorem al_qLq {N N' : av_N} (h : al_f2 al_qL N N') : al_f2 al_qM N N' := al_f2_mono h (fun q k z => by unfold al_qL at z; unfold al_qM; omega)
theorem sp_leasedM (L : av_W) (d : Nat) {N : av_N} {n day s : Nat} {B X : Nat → Nat → Nat} {cs : List (Nat × Nat × List Nat)} {w : Int32} (hm : al_mv N n day B cs) (s6 : s ≤ 6) (g1 : N.1 142 41 = nI s) (g2 : ∀ r, r < s → N.1 170 r = nI (X r 0) ∧ N.1 171 r = nI (X r 1) ∧ N.1 172 r = nI (X r 2)) (hX : ∀ r, r < s → X r 0 < n ∧ X r 1 ≤ 9 ∧ X r 2 < 24) : ∃ N', av_V (av_S0 L) (d + 20) ta_X7_leased 10 [.ref 142, .int w, .int (nI 0), am_junk] [] N = some (some (.int (if w = nI 0 then nI (sCrowd (sLs B X s) n (sTop cs) day) else nI (sAllRent (sLs B X s) n cs day))), N') ∧ al_mv N' n day B cs ∧ al_f2 al_qL N N' := by
  have hn := hm.1
  have hBok : ∀ b, b < n → al_ok (B b) := fun b hb => (hm.2.2.2.2.1 b hb).1
  have hok : ∀ r, r ≤ s → ∀ b, b < n → al_ok (sLs B X r b) := sLs_ok hBok hX
  have q0 : ∀ q k, q = 145 ∨ q = 147 ∨ q = 160 ∨ q = 175 ∨ q = 176 → al_qL q k := fun q k h => h
  -- put back
  have back := lp_0 (P := fun k => ∀ M z, al_f2 al_qL N M → al_mv M n day (fun b => if b < k then B b else sLs B X s b) cs → (∀ b, b < n → M.1 175 b = nI (B b 4) ∧ M.1 176 b = nI (B b 6)) → ∃ N', av_V (av_S0 L) (d + 20) ta_X7_leased 72 [.ref 142, .int w, .int z, .int (nI k)] [] M = some (some (.int z), N') ∧ al_mv N' n day B cs ∧ al_f2 al_qL N N') n (fun M z hM hv hw => by
    refine ⟨M, ?_, al_mv_cg hv (fun b hb f => by rw [if_pos hb]), hM⟩
    apply eq_X7_leased_72 (d := d + 19)
    rw [hv.2.1.1, if_neg (nI_nlt (Nat.le_refl _) (by omega))]) (fun k hk ih M z hM hv hw => by
    obtain ⟨w1, w2⟩ := hw k hk
    have hA := al_mv_set hv (b := k) (f := 4) (by decide) (B k 4) (fun _ => by
      rw [if_neg (Nat.lt_irrefl k)]
      exact al_ok_4 (hok s (Nat.le_refl _) k hk) (hBok k hk).2.2.2.1)
    have hB := al_mv_set hA (b := k) (f := 6) (by decide) (B k 6) (fun _ => by
      rw [sUpd_s, if_neg (Nat.lt_irrefl k)]
      exact al_ok_6 (al_ok_4 (hok s (Nat.le_refl _) k hk) (hBok k hk).2.2.2.1) (hBok k hk).2.2.2.2.2.2.1)
    rw [sUpd_s, if_neg (Nat.lt_irrefl k), sUpd_sUpd] at hB
    obtain ⟨N', c, h1, h2⟩ := ih _ z (al_f2_tr hM (al_f2_tr (al_f2_w M (q0 145 k (by omega)) (nI (B k 4))) (al_f2_w _ (q0 147 k (by omega)) (nI (B k 6))))) (al_mv_cg hB (fun b hb f => by
      by_cases e : b = k
      · subst e
        rw [sUpd_s, if_pos (by omega)]
        by_cases e6 : f = 6
        · rw [e6, sSet_s]
        · by_cases e4 : f = 4
          · rw [e4, sSet_n _ _ (by decide), sSet_s]
          · rw [sSet_n _ _ e6, sSet_n _ _ e4, sLs_of _ _ _ _ _ e4 e6]
      · rw [sUpd_n _ _ e]
        by_cases e2 : b < k
        · rw [if_pos e2, if_pos (by omega)]
        · rw [if_neg e2, if_neg (by omega)])) (fun b hb => by
      rw [av_w_o _ _ _ _ _ (by decide), av_w_o _ _ _ _ _ (by decide), av_w_o _ _ _ _ _ (by decide), av_w_o _ _ _ _ _ (by decide)]
      exact hw b hb)
    refine ⟨N', ?_, h1, h2⟩
    apply eq_X7_leased_72 (d := d + 19)
    rw [hv.2.1.1, if_pos (nI_lt hk (by omega)), av_gx_s (by omega) (by omega), av_gx_s (by omega) (by omega), av_gx_s (by omega) (by omega), av_gx_s (by omega) (by omega), nI_clamp (by omega), w1, av_w_o _ _ _ _ _ (by decide), w2, av_kP, nI_add]
    exact c)
  have apply' := lp_0 (P := fun k => ∀ M, al_f2 al_qL N M → al_mv M n day (sLs B X k) cs → (∀ b, b < n → M.1 175 b = nI (B b 4) ∧ M.1 176 b = nI (B b 6)) → ∃ N', av_V (av_S0 L) (d + 20) ta_X7_leased 34 [.ref 142, .int w, .int (nI k), am_junk] [] M = some (some (.int (if w = nI 0 then nI (sCrowd (sLs B X s) n (sTop cs) day) else nI (sAllRent (sLs B X s) n cs day))), N') ∧ al_mv N' n day B cs ∧ al_f2 al_qL N N') s (fun M hM hv hw => by
    have e41 : M.1 142 41 = nI s := (al_f2_e hM (by unfold al_qL; omega)).trans g1
    by_cases hz : w = nI 0
    · obtain ⟨N', c, h1, h2⟩ := back M (nI (sCrowd (sLs B X s) n (sTop cs) day)) hM (al_mv_cg hv (fun b hb f => by rw [if_neg (Nat.not_lt_zero _)])) hw
      refine ⟨N', ?_, h1, h2⟩
      rw [if_pos hz]
      apply eq_X7_leased_34 (d := d + 19)
      simp only [av_kP]
      rw [e41, if_neg (nI_nlt (Nat.le_refl _) (by omega)), if_pos hz, sp_crowdedM L _ hv, av_bi_s]
      exact c
    · obtain ⟨M2, c2, f2⟩ := sp_allRentM L (d + 13) hv
      obtain ⟨N', c, h1, h2⟩ := back M2 (nI (sAllRent (sLs B X s) n cs day)) (al_f2_tr hM (al_f2_of f2 (fun q k z => by unfold al_qL; omega))) (al_mv_cg (al_mv_160 hv f2) (fun b hb f => by rw [if_neg (Nat.not_lt_zero _)])) (fun b hb => ⟨(al_fr_k f2 (by decide)).trans (hw b hb).1, (al_fr_k f2 (by decide)).trans (hw b hb).2⟩)
      refine ⟨N', ?_, h1, h2⟩
      rw [if_neg hz]
      apply eq_X7_leased_34 (d := d + 19)
      simp only [av_kP]
      rw [e41, if_neg (nI_nlt (Nat.le_refl _) (by omega)), if_neg hz, c2, av_bi_s]
      exact c) (fun k hk ih M hM hv hw => by
    have e41 : M.1 142 41 = nI s := (al_f2_e hM (by unfold al_qL; omega)).trans g1
    obtain ⟨h0, h1, h2⟩ := hX k hk
    have r0 : M.1 170 k = nI (X k 0) := (al_f2_e hM (by unfold al_qL; omega)).trans (g2 k hk).1
    have r1 : M.1 171 k = nI (X k 1) := (al_f2_e hM (by unfold al_qL; omega)).trans (g2 k hk).2.1
    have r2 : M.1 172 k = nI (X k 2) := (al_f2_e hM (by unfold al_qL; omega)).trans (g2 k hk).2.2
    have hA := al_mv_set hv (b := X k 0) (f := 4) (by decide) (X k 1) (fun hb => al_ok_4 (hok k (by omega) _ hb) h1)
    have hB := al_mv_set hA (b := X k 0) (f := 6) (by decide) (X k 2) (fun hb => by
      rw [sUpd_s]
      exact al_ok_6 (al_ok_4 (hok k (by omega) _ hb) h1) h2)
    rw [sUpd_s, sUpd_sUpd] at hB
    obtain ⟨N', c, h3, h4⟩ := ih _ (al_f2_tr hM (al_f2_tr (al_f2_w M (q0 145 (X k 0) (by omega)) (nI (X k 1))) (al_f2_w _ (q0 147 (X k 0) (by omega)) (nI (X k 2))))) hB (fun b hb => by
      rw [av_w_o _ _ _ _ _ (by decide), av_w_o _ _ _ _ _ (by decide), av_w_o _ _ _ _ _ (by decide), av_w_o _ _ _ _ _ (by decide)]
      exact hw b hb)
    refine ⟨N', ?_, h3, h4⟩
    apply eq_X7_leased_34 (d := d + 19)
    simp (disch := (first | decide | omega)) only [av_gx_s, nI_clamp, av_kP, nI_add, av_w_o, r0, r1, r2]
    rw [e41, if_pos (nI_lt hk (by omega))]
    exact c)
  have save := lp_0 (P := fun k => ∀ M, al_f2 al_qL N M → al_mv M n day B cs → (∀ b, b < k → M.1 175 b = nI (B b 4) ∧ M.1 176 b = nI (B b 6)) → ∃ N', av_V (av_S0 L) (d + 20) ta_X7_leased 10 [.ref 142, .int w, .int (nI k), am_junk] [] M = some (some (.int (if w = nI 0 then nI (sCrowd (sLs B X s) n (sTop cs) day) else nI (sAllRent (sLs B X s) n cs day))), N') ∧ al_mv N' n day B cs ∧ al_f2 al_qL N N') n (fun M hM hv hw => by
    obtain ⟨N', c, h1, h2⟩ := apply' M hM hv hw
    refine ⟨N', ?_, h1, h2⟩
    apply eq_X7_leased_10 (d := d + 19)
    rw [hv.2.1.1, if_neg (nI_nlt (Nat.le_refl _) (by omega)), av_kP]
    exact c) (fun k hk ih M hM hv hw => by
    obtain ⟨-, -, m3, -, m5, -⟩ := hv.2.1.2.2 k hk
    obtain ⟨N', c, h1, h2⟩ := ih (av_w (av_w M 175 k (nI (B k 4))) 176 k (nI (B k 6))) (al_f2_tr hM (al_f2_tr (al_f2_w M (q0 175 k (by omega)) _) (al_f2_w _ (q0 176 k (by omega)) _))) (al_mv_fr hv (fun q j a b c => by rw [av_w_o _ _ _ _ _ (by omega), av_w_o _ _ _ _ _ (by omega)])) (fun b hb => by
      by_cases e : b = k
      · subst e
        exact ⟨(av_w_o _ _ _ _ _ (by decide)).trans (av_w_s _ _ _ _), av_w_s _ _ _ _⟩
      · rw [av_w_o _ _ _ _ _ (by decide), av_w_k _ _ _ _ e, av_w_k _ _ _ _ e, av_w_o _ _ _ _ _ (by decide)]
        exact hw b (by omega))
    refine ⟨N', ?_, h1, h2⟩
    apply eq_X7_leased_10 (d := d + 19)
    rw [hv.2.1.1, if_pos (nI_lt hk (by omega)), av_gx_s (by omega) (by omega), av_gx_s (by omega) (by omega), av_gx_s (by omega) (by omega), av_gx_s (by omega) (by omega), nI_clamp (by omega), m3, av_w_o _ _ _ _ _ (by decide), m5, av_kP, nI_add]
    exact c)
  exact save N (al_f2_rf _ _) hm (fun b hb => absurd hb (Nat.not_lt_zero _))
theorem ca_leased (L : av_W) (d : Nat) {N : av_N} {n day : Nat} {B : Nat → Nat → Nat} {cs : List (Nat × Nat × List Nat)} (hc : al_cv N n day B cs) (hm : al_mv N n day B cs) {s1 s s3 : Nat} {X : Nat → Nat → Nat} (l1 : s1 ≤ 5) (l3 : s3 ≤ 8) (z1 : N.1 12 4 = nI s1) (z3 : N.1 22 4 = nI s3) (hg : gL N 17 41 170 n s X) (w : Int32) : al_ask L (d + 20) N n day B cs 73 [.ref 9, .int w] 193 [.ref 142, .int w] := by
  obtain ⟨hs, e, he⟩ := hc
  have hn := hs.1
  obtain ⟨s6, hr, g1, g2, g3⟩ := hg
  cases hw : av_wi w (nI 0) (nI 1)
  · refine ask_eq hm (.int (av_k (-1))) ?_ ?_
    · apply eq_X6_leased (d := d + 19)
      simp only [av_kP]
      rw [sp_within, av_bi_s, hw, av_if_f]
    · apply eq_X7_leased (d := d + 19)
      simp only [av_kP]
      rw [sp_in, av_bi_s, hw, av_if_f]
  obtain ⟨N1, c1, hs1, -, -, -, -, f1⟩ := sp_scene_77_10 L (d + 11) hs z1 hr.1 z3 l1 s6 l3
  have he1 : al_ce N1 e cs := al_ce_fr he f1 (by omega) (fun q a b => by omega)
  have hr1 : al_rows N1 17 s 3 X := al_rows_fr hr f1 (fun q a b => by omega)
  obtain ⟨N2, c2, f2⟩ := sp_leasedC L d (w := w) hs1 he1 s6 hr1 g3
  refine ask_of hm (.int (if w = nI 0 then nI (sCrowd (sLs B X s) n (sTop cs) day) else nI (sAllRent (sLs B X s) n cs day))) (N1 := N2) ?_ (al_fr_tr (al_fr_mono f1 (fun q z => by unfold al_dC; omega)) f2) (fun M hfM hmM => ?_)
  · apply eq_X6_leased (d := d + 19)
    simp only [av_kP]
    rw [sp_within, av_bi_s, hw, av_if_t, c1, av_bv_s]
    exact c2
  · have fr : ∀ q k, 142 ≤ q → M.1 q k = N.1 q k := fun q k h => (hfM q (by unfold al_dC; omega) k).1
    obtain ⟨M2, g4, h4, f4⟩ := sp_leasedM L d (w := w) hmM s6 ((fr _ _ (by decide)).trans g1) (fun r hr => ⟨(fr _ _ (by decide)).trans (g2 r hr).1, (fr _ _ (by decide)).trans (g2 r hr).2.1, (fr _ _ (by decide)).trans (g2 r hr).2.2⟩) g3
    refine ⟨M2, ?_, h4, al_qLq f4⟩
    apply eq_X7_leased (d := d + 19)
    simp only [av_kP]
    rw [sp_in, av_bi_s, hw, av_if_t]
    exact g4
