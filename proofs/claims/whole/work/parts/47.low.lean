/-! lower, sooner -/
def sMin (g : Nat → Nat) : Nat → Nat × Nat
  | 0 => (0, 0)
  | k + 1 => if k = 0 ∨ g k < (sMin g k).2 then (k, g k) else sMin g k
theorem sum2_le {f : Nat → Nat → Nat} {top : Nat} (h : ∀ t h, f t h ≤ 1) (ht : top ≤ 10) : sum2 f top ≤ 240 := by
  have h1 : ∀ t, sumN (f t) top ≤ 10 := fun t => by
    have := sumN_le (f := f t) (c := 1) (n := top) (fun i _ => h t i)
    omega
  have := sumN_le (f := fun t => sumN (f t) top) (c := 10) (n := 24) (fun t _ => h1 t)
  unfold sum2
  omega
theorem sShared_le (B : Nat → Nat → Nat) (n day b : Nat) {top : Nat} (ht : top ≤ 10) : sShared B n top day b ≤ 240 := sum2_le (fun t h => by split <;> omega) ht
theorem sMin_le {g : Nat → Nat} {c : Nat} (h : ∀ k, g k ≤ c) : ∀ k, (sMin g k).2 ≤ c
  | 0 => Nat.zero_le _
  | k + 1 => by
    have := sMin_le h k
    unfold sMin
    split
    · exact h k
    · exact this
theorem al_bd_set {M : av_N} {p f k : Nat} {X Y : Nat → Nat} (h : al_bd M p Y) (hf : 1 ≤ f ∧ f ≤ 9) (he : ∀ g, g ≠ f → Y g = X g) : al_bd (av_w M p f (nI k)) p (sSet X f k) := by
  refine ⟨fun g g1 g9 => ?_, fun j hj => ?_⟩
  · by_cases e : g = f
    · subst e
      rw [av_w_s, sSet_s]
    · rw [av_w_k _ _ _ _ e, sSet_n _ _ e, h.1 g g1 g9, he g e]
  · rw [av_w_o _ _ _ _ _ (by omega), sSet_n _ _ (by omega), h.2 j hj, he _ (by omega)]
theorem al_ok_4 {X : Nat → Nat} (ok : al_ok X) {k : Nat} (h : k ≤ 9) : al_ok (sSet X 4 k) := by
  obtain ⟨o1, o2, o3, o4, o5, o6, o7, o8, o9, o10, o11, o12⟩ := ok
  exact ⟨o1, o2, o3, h, o5, o6, o7, o8, o9, o10, o11, fun j hj => by rw [sSet_n _ _ (by omega)]; exact o12 j hj⟩
theorem al_ok_6 {X : Nat → Nat} (ok : al_ok X) {k : Nat} (h : k < 24) : al_ok (sSet X 6 k) := by
  obtain ⟨o1, o2, o3, o4, o5, o6, o7, o8, o9, o10, o11, o12⟩ := ok
  exact ⟨o1, o2, o3, o4, o5, o6, h, o8, o9, o10, o11, fun j hj => by rw [sSet_n _ _ (by omega)]; exact o12 j hj⟩
theorem sSet_sSet (X : Nat → Nat) (f j k : Nat) : sSet (sSet X f j) f k = sSet X f k := by
  funext g
  unfold sSet
  split <;> rfl
theorem sUpd_sUpd (B : Nat → Nat → Nat) (b : Nat) (X Y : Nat → Nat) : sUpd (sUpd B b X) b Y = sUpd B b Y := by
  funext c
  unfold sUpd
  split <;> rfl
theorem sSet_id (X : Nat → Nat) (f : Nat) : sSet X f (X f) = X := by
  funext g
  unfold sSet
  split
  next h => rw [h]
  · rfl
theorem sUpd_id (B : Nat → Nat → Nat) (b : Nat) : sUpd B b (B b) = B := by
  funext c
  unfold sUpd
  split
  next h => rw [h]
  · rfl
theorem ne_b (b : Nat) (hb : b < 7) (k : Nat) (hk : k < 7) : (nI k = nI b ↔ k = b) := nI_eq (by omega) (by omega)
theorem ca_lower (L : av_W) (d : Nat) {N : av_N} {n day : Nat} {B : Nat → Nat → Nat} {cs : List (Nat × Nat × List Nat)} (hc : al_cv N n day B cs) (hm : al_mv N n day B cs) (x w : Int32) : al_ask L (d + 20) N n day B cs 62 [.ref 9, .int x, .int w] 176 [.ref 142, .int x, .int w] := by
  obtain ⟨hs, e, he⟩ := hc
  have hn := hs.1
  have hd := hs.2.2.2.2
  have ht := sTop_le cs
  obtain ⟨q1, q2, q3, q4⟩ := al_epE (al_ep_e he.1) L
  have hes := he.2.2.1.2.2.2.1
  cases hx : av_lt x n
  · refine ask_eq hm (.int (av_k (-1))) ?_ ?_
    · apply eq_X6_lower (d := d + 19)
      rw [sp_birdAt_no L _ hs.2.1 hx, av_br_n]
    · apply eq_X7_lower (d := d + 19)
      rw [sp_isBird L _ x hm.2.1.1 (by omega), av_bi_s, hx, av_if_fk]
  obtain ⟨b, hb, rfl⟩ := (av_ltE (by omega)).mp hx
  obtain ⟨kb, ok, -⟩ := hs.2.2.2.1 b hb
  cases hw : av_wi w (nI 0) (nI 1)
  · refine ask_eq hm (.int (av_k (-1))) ?_ ?_
    · apply eq_X6_lower (d := d + 19)
      simp only [av_kP]
      rw [sp_birdAt L _ hs.2.1 hn hb, av_br_s, sp_within, av_bi_s, hw, av_if_f]
    · apply eq_X7_lower (d := d + 19)
      simp only [av_kP]
      rw [sp_isBird L _ _ hm.2.1.1 (by omega), av_bi_s, hx, av_if_t, sp_in, av_bi_s, hw, av_if_f]
  obtain ⟨N1, c1, l1, f1⟩ := sp_layAir_10 L (d + 16) hs ht.2 (ne_b b (by omega))
  have hs1 := al_sn_fr hs f1 (by unfold al_dL; omega) (fun q a b => by unfold al_dL; omega)
  obtain ⟨kb1, -⟩ := hs1.2.2.2.1 b hb
  obtain ⟨N2, c2, b2, f2⟩ := sp_ghost L (d + 12) (show b < 7 by omega) kb1 ok
  have hg : ∀ k, sShared (sUpd B b (sSet (B b) 4 k)) n (sTop cs) day b ≤ 240 := fun k => sShared_le _ _ _ _ ht.2
  have keyC := lp_0 (P := fun k => ∀ M v Y, okv v → al_fr al_dH N1 M → al_bd M 108 Y → (∀ g, g ≠ 4 → Y g = B b g) → ∃ N', av_V (av_S0 L) (d + 20) ta_X6_lower 34 [.ref 9, .int (nI b), .int w, .ref (27 + 2 * b), .int (nI (sTop cs)), .int (nI (sMin (fun k => sShared (sUpd B b (sSet (B b) 4 k)) n (sTop cs) day b) k).1), .int (nI (sMin (fun k => sShared (sUpd B b (sSet (B b) 4 k)) n (sTop cs) day b) k).2), .int (nI k), v] [] M = some (some (.int (if w = nI 0 then nI (sMin (fun k => sShared (sUpd B b (sSet (B b) 4 k)) n (sTop cs) day b) 10).1 else nI (sMin (fun k => sShared (sUpd B b (sSet (B b) 4 k)) n (sTop cs) day b) 10).2)), N') ∧ al_fr al_dH N1 N') 10 (fun M v Y hv hM hb1 hY => by
    have fin : ∀ A, A = (if w = nI 0 then some (some (Value.int (nI (sMin (fun k => sShared (sUpd B b (sSet (B b) 4 k)) n (sTop cs) day b) 10).1)), M) else some (some (Value.int (nI (sMin (fun k => sShared (sUpd B b (sSet (B b) 4 k)) n (sTop cs) day b) 10).2)), M)) → A = some (some (.int (if w = nI 0 then nI (sMin (fun k => sShared (sUpd B b (sSet (B b) 4 k)) n (sTop cs) day b) 10).1 else nI (sMin (fun k => sShared (sUpd B b (sSet (B b) 4 k)) n (sTop cs) day b) 10).2)), M) := by
      intro A hA
      rw [hA]
      by_cases h : w = nI 0
      · rw [if_pos h, if_pos h]
      · rw [if_neg h, if_neg h]
    refine ⟨M, ?_, hM⟩
    rcases hv with rfl | ⟨z, rfl⟩
    · apply eq_X6_lower_34_a (d := d + 19)
      simp only [av_kP]
      rw [if_neg (nI_nlt (Nat.le_refl _) (by decide))]
      exact fin _ rfl
    · apply eq_X6_lower_34_b (d := d + 19)
      simp only [av_kP]
      rw [if_neg (nI_nlt (Nat.le_refl _) (by decide))]
      exact fin _ rfl) (fun k hk ih M v Y hv hM hb1 hY => by
    have hb2 : al_bd (av_w M 108 4 (nI k)) 108 (sSet (B b) 4 k) := al_bd_set hb1 (by decide) hY
    have hf2 : al_fr al_dH N1 (av_w M 108 4 (nI k)) := al_fr_tr hM (al_fr_w M (Or.inl rfl) _ _)
    have hl2 := al_lay_fr l1 hf2 (by unfold al_dH; omega) (by unfold al_dH; omega)
    have hd2 : (av_w M 108 4 (nI k)).1 10 2 = nI day := (al_cv_H hs1 hf2).2.2.1
    have hsh : av_C (av_S0 L) (d + 19) 97 [.ref 9, .ref 108, .int (nI (sTop cs))] (av_w M 108 4 (nI k)) = some (some (.int (nI (sShared (sUpd B b (sSet (B b) 4 k)) n (sTop cs) day b))), av_w M 108 4 (nI k)) := by
      rw [← sShared_shr B day _ hn ht.2 hb]
      exact sp_sharedStrips L (d + 16) hl2 hd2 hd ht.2 al_b108 hb2 (al_ok_4 ok (by omega))
    have hk1 := hg k
    have hk2 := sMin_le hg k
    obtain ⟨N', c3, f3⟩ := ih _ (.int (nI (sShared (sUpd B b (sSet (B b) 4 k)) n (sTop cs) day b))) _ (Or.inr ⟨_, rfl⟩) hf2 hb2 (fun g hgf => sSet_n _ _ hgf)
    refine ⟨N', ?_, f3⟩
    have es : sMin (fun k => sShared (sUpd B b (sSet (B b) 4 k)) n (sTop cs) day b) (k + 1) = if k = 0 ∨ sShared (sUpd B b (sSet (B b) 4 k)) n (sTop cs) day b < (sMin (fun k => sShared (sUpd B b (sSet (B b) 4 k)) n (sTop cs) day b) k).2 then (k, sShared (sUpd B b (sSet (B b) 4 k)) n (sTop cs) day b) else sMin (fun k => sShared (sUpd B b (sSet (B b) 4 k)) n (sTop cs) day b) k := rfl
    rw [es] at c3
    generalize sShared (sUpd B b (sSet (B b) 4 k)) n (sTop cs) day b = G at *
    generalize sMin (fun k => sShared (sUpd B b (sSet (B b) 4 k)) n (sTop cs) day b) k = S at *
    have body : (if nI k = nI 0 then av_V (av_S0 L) (d + 19 + 1) ta_X6_lower 34 [.ref 9, .int (nI b), .int w, .ref (27 + 2 * b), .int (nI (sTop cs)), .int (nI k), .int (nI G), .int (nI k + nI 1), .int (nI G)] [] (av_w M 108 4 (nI k)) else if nI G < nI S.2 then av_V (av_S0 L) (d + 19 + 1) ta_X6_lower 34 [.ref 9, .int (nI b), .int w, .ref (27 + 2 * b), .int (nI (sTop cs)), .int (nI k), .int (nI G), .int (nI k + nI 1), .int (nI G)] [] (av_w M 108 4 (nI k)) else av_V (av_S0 L) (d + 19 + 1) ta_X6_lower 34 [.ref 9, .int (nI b), .int w, .ref (27 + 2 * b), .int (nI (sTop cs)), .int (nI S.1), .int (nI S.2), .int (nI k + nI 1), .int (nI G)] [] (av_w M 108 4 (nI k))) = some (some (.int (if w = nI 0 then nI (sMin (fun k => sShared (sUpd B b (sSet (B b) 4 k)) n (sTop cs) day b) 10).1 else nI (sMin (fun k => sShared (sUpd B b (sSet (B b) 4 k)) n (sTop cs) day b) 10).2)), N') := by
      rw [nI_add]
      by_cases h0 : k = 0
      · rw [if_pos (congrArg nI h0)]
        rw [if_pos (Or.inl h0)] at c3
        exact c3
      · rw [if_neg (nI_ne (by omega) (by decide) h0)]
        by_cases h1 : G < S.2
        · rw [if_pos (nI_lt h1 (by omega))]
          rw [if_pos (Or.inr h1)] at c3
          exact c3
        · rw [if_neg (nI_nlt (by omega) (by omega))]
          rw [if_neg (fun z => z.elim h0 h1)] at c3
          exact c3
    rcases hv with rfl | ⟨z, rfl⟩
    · apply eq_X6_lower_34_a (d := d + 19)
      simp only [av_kP]
      rw [if_pos (nI_lt hk (by decide)), hsh, av_bi_s]
      exact body
    · apply eq_X6_lower_34_b (d := d + 19)
      simp only [av_kP]
      rw [if_pos (nI_lt hk (by decide)), hsh, av_bi_s]
      exact body)
  obtain ⟨N3, c3, f3⟩ := keyC N2 am_junk (B b) (Or.inl rfl) f2 b2 (fun g _ => rfl)
  refine ask_of hm (N1 := N3) (v := .int (if w = nI 0 then nI (sMin (fun k => sShared (sUpd B b (sSet (B b) 4 k)) n (sTop cs) day b) 10).1 else nI (sMin (fun k => sShared (sUpd B b (sSet (B b) 4 k)) n (sTop cs) day b) 10).2)) ?_ (al_fr_tr (al_dLC f1) (al_dHC f3)) (fun M _ hmM => ?_)
  · apply eq_X6_lower (d := d + 19)
    simp only [av_kP]
    rw [sp_birdAt L _ hs.2.1 hn hb, av_br_s, sp_within, av_bi_s, hw, av_if_t, sp_estuaryNow L _ he, av_br_s, q1, av_tg_s, hes, c1, av_bv_s, c2, av_bv_s]
    exact c3
  have hwas : M.1 145 b = nI (B b 4) := (hmM.2.1.2.2 b hb).2.2.1
  have keyM := lp_0 (P := fun k => ∀ M' v y, okv v → al_f2 al_qM M M' → al_mv M' n day (sUpd B b (sSet (B b) 4 y)) cs → ∃ N', av_V (av_S0 L) (d + 20) ta_X7_lower 23 [.ref 142, .int (nI b), .int w, .int (nI (B b 4)), .int (nI (sMin (fun k => sShared (sUpd B b (sSet (B b) 4 k)) n (sTop cs) day b) k).1), .int (if k = 0 then av_k (-1) else nI (sMin (fun k => sShared (sUpd B b (sSet (B b) 4 k)) n (sTop cs) day b) k).2), .int (nI k), v] [] M' = some (some (.int (if w = nI 0 then nI (sMin (fun k => sShared (sUpd B b (sSet (B b) 4 k)) n (sTop cs) day b) 10).1 else nI (sMin (fun k => sShared (sUpd B b (sSet (B b) 4 k)) n (sTop cs) day b) 10).2)), N') ∧ al_mv N' n day B cs ∧ al_f2 al_qM M N') 10 (fun M' v y hv hM hv2 => by
    have hv3 := al_mv_set hv2 (b := b) (f := 4) (by decide) (B b 4) (fun _ => by rw [sUpd_s, sSet_sSet, sSet_id]; exact ok)
    rw [sUpd_s, sSet_sSet, sSet_id, sUpd_sUpd, sUpd_id] at hv3
    have fin : ∀ A, A = (if w = nI 0 then some (some (Value.int (nI (sMin (fun k => sShared (sUpd B b (sSet (B b) 4 k)) n (sTop cs) day b) 10).1)), av_w M' 145 b (nI (B b 4))) else some (some (Value.int (nI (sMin (fun k => sShared (sUpd B b (sSet (B b) 4 k)) n (sTop cs) day b) 10).2)), av_w M' 145 b (nI (B b 4)))) → A = some (some (.int (if w = nI 0 then nI (sMin (fun k => sShared (sUpd B b (sSet (B b) 4 k)) n (sTop cs) day b) 10).1 else nI (sMin (fun k => sShared (sUpd B b (sSet (B b) 4 k)) n (sTop cs) day b) 10).2)), av_w M' 145 b (nI (B b 4))) := by
      intro A hA
      rw [hA]
      by_cases h : w = nI 0
      · rw [if_pos h, if_pos h]
      · rw [if_neg h, if_neg h]
    refine ⟨_, ?_, hv3, al_f2_tr hM (al_f2_w M' (by unfold al_qM; omega) _)⟩
    rcases hv with rfl | ⟨z, rfl⟩
    · apply eq_X7_lower_23_a (d := d + 19)
      simp only [av_kP]
      rw [if_neg (nI_nlt (Nat.le_refl _) (by decide)), av_gx_s (by omega) (by omega), nI_clamp (by omega)]
      exact fin _ rfl
    · apply eq_X7_lower_23_b (d := d + 19)
      simp only [av_kP]
      rw [if_neg (nI_nlt (Nat.le_refl _) (by decide)), av_gx_s (by omega) (by omega), nI_clamp (by omega)]
      exact fin _ rfl) (fun k hk ih M' v y hv hM hv2 => by
    have hv3 := al_mv_set hv2 (b := b) (f := 4) (by decide) k (fun _ => by rw [sUpd_s, sSet_sSet]; exact al_ok_4 ok (by omega))
    rw [sUpd_s, sSet_sSet, sUpd_sUpd] at hv3
    have hsh : av_C (av_S0 L) (d + 19) 175 [.ref 142, .int (nI b)] (av_w M' 145 b (nI k)) = some (some (.int (nI (sShared (sUpd B b (sSet (B b) 4 k)) n (sTop cs) day b))), av_w M' 145 b (nI k)) := sp_sharedM L (d + 13) hv3 hb
    have hk1 := hg k
    have hk2 := sMin_le hg k
    obtain ⟨N', c3, f3, f4⟩ := ih (av_w M' 145 b (nI k)) (.int (nI (sShared (sUpd B b (sSet (B b) 4 k)) n (sTop cs) day b))) k (Or.inr ⟨_, rfl⟩) (al_f2_tr hM (al_f2_w M' (by unfold al_qM; omega) _)) hv3
    refine ⟨N', ?_, f3, f4⟩
    have es : sMin (fun k => sShared (sUpd B b (sSet (B b) 4 k)) n (sTop cs) day b) (k + 1) = if k = 0 ∨ sShared (sUpd B b (sSet (B b) 4 k)) n (sTop cs) day b < (sMin (fun k => sShared (sUpd B b (sSet (B b) 4 k)) n (sTop cs) day b) k).2 then (k, sShared (sUpd B b (sSet (B b) 4 k)) n (sTop cs) day b) else sMin (fun k => sShared (sUpd B b (sSet (B b) 4 k)) n (sTop cs) day b) k := rfl
    rw [es, if_neg (Nat.succ_ne_zero k)] at c3
    generalize sShared (sUpd B b (sSet (B b) 4 k)) n (sTop cs) day b = G at *
    generalize sMin (fun k => sShared (sUpd B b (sSet (B b) 4 k)) n (sTop cs) day b) k = S at *
    have body : (if (if k = 0 then av_k (-1) else nI S.2) < nI 0 then av_V (av_S0 L) (d + 19 + 1) ta_X7_lower 23 [.ref 142, .int (nI b), .int w, .int (nI (B b 4)), .int (nI k), .int (nI G), .int (nI k + nI 1), .int (nI G)] [] (av_w M' 145 b (nI k)) else if nI G < (if k = 0 then av_k (-1) else nI S.2) then av_V (av_S0 L) (d + 19 + 1) ta_X7_lower 23 [.ref 142, .int (nI b), .int w, .int (nI (B b 4)), .int (nI k), .int (nI G), .int (nI k + nI 1), .int (nI G)] [] (av_w M' 145 b (nI k)) else av_V (av_S0 L) (d + 19 + 1) ta_X7_lower 23 [.ref 142, .int (nI b), .int w, .int (nI (B b 4)), .int (nI S.1), .int (if k = 0 then av_k (-1) else nI S.2), .int (nI k + nI 1), .int (nI G)] [] (av_w M' 145 b (nI k))) = some (some (.int (if w = nI 0 then nI (sMin (fun k => sShared (sUpd B b (sSet (B b) 4 k)) n (sTop cs) day b) 10).1 else nI (sMin (fun k => sShared (sUpd B b (sSet (B b) 4 k)) n (sTop cs) day b) 10).2)), N') := by
      rw [nI_add]
      by_cases h0 : k = 0
      · rw [if_pos h0, if_pos (show av_k (-1) < nI 0 by decide)]
        rw [if_pos (Or.inl h0)] at c3
        exact c3
      · rw [if_neg h0, if_neg (nI_nlt (Nat.zero_le _) (by omega))]
        by_cases h1 : G < S.2
        · rw [if_pos (nI_lt h1 (by omega))]
          rw [if_pos (Or.inr h1)] at c3
          exact c3
        · rw [if_neg (nI_nlt (by omega) (by omega))]
          rw [if_neg (fun z => z.elim h0 h1)] at c3
          exact c3
    rcases hv with rfl | ⟨z, rfl⟩
    · apply eq_X7_lower_23_a (d := d + 19)
      simp only [av_kP]
      rw [if_pos (nI_lt hk (by decide)), av_gx_s (by omega) (by omega), nI_clamp (by omega), hsh, av_bi_s]
      exact body
    · apply eq_X7_lower_23_b (d := d + 19)
      simp only [av_kP]
      rw [if_pos (nI_lt hk (by decide)), av_gx_s (by omega) (by omega), nI_clamp (by omega), hsh, av_bi_s]
      exact body)
  obtain ⟨N4, c4, h4, f4⟩ := keyM M am_junk (B b 4) (Or.inl rfl) (al_f2_rf _ _) (by rw [sSet_id, sUpd_id]; exact hmM)
  refine ⟨N4, ?_, h4, f4⟩
  apply eq_X7_lower (d := d + 19)
  rw [if_pos rfl] at c4
  simp only [av_kP]
  rw [sp_isBird L _ _ hmM.2.1.1 (by omega), av_bi_s, hx, av_if_t, sp_in, av_bi_s, hw, av_if_t, av_gx_s (by omega) (by omega), nI_clamp (by omega), hwas]
  exact c4
theorem ca_sooner (L : av_W) (d : Nat) {N : av_N} {n day : Nat} {B : Nat → Nat → Nat} {cs : List (Nat × Nat × List Nat)} (hc : al_cv N n day B cs) (hm : al_mv N n day B cs) (x w : Int32) : al_ask L (d + 20) N n day B cs 63 [.ref 9, .int x, .int w] 177 [.ref 142, .int x, .int w] := by
  obtain ⟨hs, e, he⟩ := hc
  have hn := hs.1
  have hd := hs.2.2.2.2
  have ht := sTop_le cs
  obtain ⟨q1, q2, q3, q4⟩ := al_epE (al_ep_e he.1) L
  have hes := he.2.2.1.2.2.2.1
  cases hx : av_lt x n
  · refine ask_eq hm (.int (av_k (-1))) ?_ ?_
    · apply eq_X6_sooner (d := d + 19)
      rw [sp_birdAt_no L _ hs.2.1 hx, av_br_n]
    · apply eq_X7_sooner (d := d + 19)
      rw [sp_isBird L _ x hm.2.1.1 (by omega), av_bi_s, hx, av_if_fk]
  obtain ⟨b, hb, rfl⟩ := (av_ltE (by omega)).mp hx
  obtain ⟨kb, ok, -⟩ := hs.2.2.2.1 b hb
  cases hw : av_wi w (nI 0) (nI 1)
  · refine ask_eq hm (.int (av_k (-1))) ?_ ?_
    · apply eq_X6_sooner (d := d + 19)
      simp only [av_kP]
      rw [sp_birdAt L _ hs.2.1 hn hb, av_br_s, sp_within, av_bi_s, hw, av_if_f]
    · apply eq_X7_sooner (d := d + 19)
      simp only [av_kP]
      rw [sp_isBird L _ _ hm.2.1.1 (by omega), av_bi_s, hx, av_if_t, sp_in, av_bi_s, hw, av_if_f]
  obtain ⟨N1, c1, l1, f1⟩ := sp_layAir_10 L (d + 16) hs ht.2 (ne_b b (by omega))
  have hs1 := al_sn_fr hs f1 (by unfold al_dL; omega) (fun q a b => by unfold al_dL; omega)
  obtain ⟨kb1, -⟩ := hs1.2.2.2.1 b hb
  obtain ⟨N2, c2, b2, f2⟩ := sp_ghost L (d + 12) (show b < 7 by omega) kb1 ok
  have hg : ∀ k, sShared (sUpd B b (sSet (B b) 6 k)) n (sTop cs) day b ≤ 240 := fun k => sShared_le _ _ _ _ ht.2
  have keyC := lp_0 (P := fun k => ∀ M v Y, okv v → al_fr al_dH N1 M → al_bd M 108 Y → (∀ g, g ≠ 6 → Y g = B b g) → ∃ N', av_V (av_S0 L) (d + 20) ta_X6_sooner 34 [.ref 9, .int (nI b), .int w, .ref (27 + 2 * b), .int (nI (sTop cs)), .int (nI (sMin (fun k => sShared (sUpd B b (sSet (B b) 6 k)) n (sTop cs) day b) k).1), .int (nI (sMin (fun k => sShared (sUpd B b (sSet (B b) 6 k)) n (sTop cs) day b) k).2), .int (nI k), v] [] M = some (some (.int (if w = nI 0 then nI (sMin (fun k => sShared (sUpd B b (sSet (B b) 6 k)) n (sTop cs) day b) 24).1 else nI (sMin (fun k => sShared (sUpd B b (sSet (B b) 6 k)) n (sTop cs) day b) 24).2)), N') ∧ al_fr al_dH N1 N') 24 (fun M v Y hv hM hb1 hY => by
    have fin : ∀ A, A = (if w = nI 0 then some (some (Value.int (nI (sMin (fun k => sShared (sUpd B b (sSet (B b) 6 k)) n (sTop cs) day b) 24).1)), M) else some (some (Value.int (nI (sMin (fun k => sShared (sUpd B b (sSet (B b) 6 k)) n (sTop cs) day b) 24).2)), M)) → A = some (some (.int (if w = nI 0 then nI (sMin (fun k => sShared (sUpd B b (sSet (B b) 6 k)) n (sTop cs) day b) 24).1 else nI (sMin (fun k => sShared (sUpd B b (sSet (B b) 6 k)) n (sTop cs) day b) 24).2)), M) := by
      intro A hA
      rw [hA]
      by_cases h : w = nI 0
      · rw [if_pos h, if_pos h]
      · rw [if_neg h, if_neg h]
    refine ⟨M, ?_, hM⟩
    rcases hv with rfl | ⟨z, rfl⟩
    · apply eq_X6_sooner_34_a (d := d + 19)
      simp only [av_kP]
      rw [if_neg (nI_nlt (Nat.le_refl _) (by decide))]
      exact fin _ rfl
    · apply eq_X6_sooner_34_b (d := d + 19)
      simp only [av_kP]
      rw [if_neg (nI_nlt (Nat.le_refl _) (by decide))]
      exact fin _ rfl) (fun k hk ih M v Y hv hM hb1 hY => by
    have hb2 : al_bd (av_w M 108 6 (nI k)) 108 (sSet (B b) 6 k) := al_bd_set hb1 (by decide) hY
    have hf2 : al_fr al_dH N1 (av_w M 108 6 (nI k)) := al_fr_tr hM (al_fr_w M (Or.inl rfl) _ _)
    have hl2 := al_lay_fr l1 hf2 (by unfold al_dH; omega) (by unfold al_dH; omega)
    have hd2 : (av_w M 108 6 (nI k)).1 10 2 = nI day := (al_cv_H hs1 hf2).2.2.1
    have hsh : av_C (av_S0 L) (d + 19) 97 [.ref 9, .ref 108, .int (nI (sTop cs))] (av_w M 108 6 (nI k)) = some (some (.int (nI (sShared (sUpd B b (sSet (B b) 6 k)) n (sTop cs) day b))), av_w M 108 6 (nI k)) := by
      rw [← sShared_shr B day _ hn ht.2 hb]
      exact sp_sharedStrips L (d + 16) hl2 hd2 hd ht.2 al_b108 hb2 (al_ok_6 ok (by omega))
    have hk1 := hg k
    have hk2 := sMin_le hg k
    obtain ⟨N', c3, f3⟩ := ih _ (.int (nI (sShared (sUpd B b (sSet (B b) 6 k)) n (sTop cs) day b))) _ (Or.inr ⟨_, rfl⟩) hf2 hb2 (fun g hgf => sSet_n _ _ hgf)
    refine ⟨N', ?_, f3⟩
    have es : sMin (fun k => sShared (sUpd B b (sSet (B b) 6 k)) n (sTop cs) day b) (k + 1) = if k = 0 ∨ sShared (sUpd B b (sSet (B b) 6 k)) n (sTop cs) day b < (sMin (fun k => sShared (sUpd B b (sSet (B b) 6 k)) n (sTop cs) day b) k).2 then (k, sShared (sUpd B b (sSet (B b) 6 k)) n (sTop cs) day b) else sMin (fun k => sShared (sUpd B b (sSet (B b) 6 k)) n (sTop cs) day b) k := rfl
    rw [es] at c3
    generalize sShared (sUpd B b (sSet (B b) 6 k)) n (sTop cs) day b = G at *
    generalize sMin (fun k => sShared (sUpd B b (sSet (B b) 6 k)) n (sTop cs) day b) k = S at *
    have body : (if nI k = nI 0 then av_V (av_S0 L) (d + 19 + 1) ta_X6_sooner 34 [.ref 9, .int (nI b), .int w, .ref (27 + 2 * b), .int (nI (sTop cs)), .int (nI k), .int (nI G), .int (nI k + nI 1), .int (nI G)] [] (av_w M 108 6 (nI k)) else if nI G < nI S.2 then av_V (av_S0 L) (d + 19 + 1) ta_X6_sooner 34 [.ref 9, .int (nI b), .int w, .ref (27 + 2 * b), .int (nI (sTop cs)), .int (nI k), .int (nI G), .int (nI k + nI 1), .int (nI G)] [] (av_w M 108 6 (nI k)) else av_V (av_S0 L) (d + 19 + 1) ta_X6_sooner 34 [.ref 9, .int (nI b), .int w, .ref (27 + 2 * b), .int (nI (sTop cs)), .int (nI S.1), .int (nI S.2), .int (nI k + nI 1), .int (nI G)] [] (av_w M 108 6 (nI k))) = some (some (.int (if w = nI 0 then nI (sMin (fun k => sShared (sUpd B b (sSet (B b) 6 k)) n (sTop cs) day b) 24).1 else nI (sMin (fun k => sShared (sUpd B b (sSet (B b) 6 k)) n (sTop cs) day b) 24).2)), N') := by
      rw [nI_add]
      by_cases h0 : k = 0
      · rw [if_pos (congrArg nI h0)]
        rw [if_pos (Or.inl h0)] at c3
        exact c3
      · rw [if_neg (nI_ne (by omega) (by decide) h0)]
        by_cases h1 : G < S.2
        · rw [if_pos (nI_lt h1 (by omega))]
          rw [if_pos (Or.inr h1)] at c3
          exact c3
        · rw [if_neg (nI_nlt (by omega) (by omega))]
          rw [if_neg (fun z => z.elim h0 h1)] at c3
          exact c3
    rcases hv with rfl | ⟨z, rfl⟩
    · apply eq_X6_sooner_34_a (d := d + 19)
      simp only [av_kP]
      rw [if_pos (nI_lt hk (by decide)), hsh, av_bi_s]
      exact body
    · apply eq_X6_sooner_34_b (d := d + 19)
      simp only [av_kP]
      rw [if_pos (nI_lt hk (by decide)), hsh, av_bi_s]
      exact body)
  obtain ⟨N3, c3, f3⟩ := keyC N2 am_junk (B b) (Or.inl rfl) f2 b2 (fun g _ => rfl)
  refine ask_of hm (N1 := N3) (v := .int (if w = nI 0 then nI (sMin (fun k => sShared (sUpd B b (sSet (B b) 6 k)) n (sTop cs) day b) 24).1 else nI (sMin (fun k => sShared (sUpd B b (sSet (B b) 6 k)) n (sTop cs) day b) 24).2)) ?_ (al_fr_tr (al_dLC f1) (al_dHC f3)) (fun M _ hmM => ?_)
  · apply eq_X6_sooner (d := d + 19)
    simp only [av_kP]
    rw [sp_birdAt L _ hs.2.1 hn hb, av_br_s, sp_within, av_bi_s, hw, av_if_t, sp_estuaryNow L _ he, av_br_s, q1, av_tg_s, hes, c1, av_bv_s, c2, av_bv_s]
    exact c3
  have hwas : M.1 147 b = nI (B b 6) := (hmM.2.1.2.2 b hb).2.2.2.2.1
  have keyM := lp_0 (P := fun k => ∀ M' v y, okv v → al_f2 al_qM M M' → al_mv M' n day (sUpd B b (sSet (B b) 6 y)) cs → ∃ N', av_V (av_S0 L) (d + 20) ta_X7_sooner 23 [.ref 142, .int (nI b), .int w, .int (nI (B b 6)), .int (nI (sMin (fun k => sShared (sUpd B b (sSet (B b) 6 k)) n (sTop cs) day b) k).1), .int (if k = 0 then av_k (-1) else nI (sMin (fun k => sShared (sUpd B b (sSet (B b) 6 k)) n (sTop cs) day b) k).2), .int (nI k), v] [] M' = some (some (.int (if w = nI 0 then nI (sMin (fun k => sShared (sUpd B b (sSet (B b) 6 k)) n (sTop cs) day b) 24).1 else nI (sMin (fun k => sShared (sUpd B b (sSet (B b) 6 k)) n (sTop cs) day b) 24).2)), N') ∧ al_mv N' n day B cs ∧ al_f2 al_qM M N') 24 (fun M' v y hv hM hv2 => by
    have hv3 := al_mv_set hv2 (b := b) (f := 6) (by decide) (B b 6) (fun _ => by rw [sUpd_s, sSet_sSet, sSet_id]; exact ok)
    rw [sUpd_s, sSet_sSet, sSet_id, sUpd_sUpd, sUpd_id] at hv3
    have fin : ∀ A, A = (if w = nI 0 then some (some (Value.int (nI (sMin (fun k => sShared (sUpd B b (sSet (B b) 6 k)) n (sTop cs) day b) 24).1)), av_w M' 147 b (nI (B b 6))) else some (some (Value.int (nI (sMin (fun k => sShared (sUpd B b (sSet (B b) 6 k)) n (sTop cs) day b) 24).2)), av_w M' 147 b (nI (B b 6)))) → A = some (some (.int (if w = nI 0 then nI (sMin (fun k => sShared (sUpd B b (sSet (B b) 6 k)) n (sTop cs) day b) 24).1 else nI (sMin (fun k => sShared (sUpd B b (sSet (B b) 6 k)) n (sTop cs) day b) 24).2)), av_w M' 147 b (nI (B b 6))) := by
      intro A hA
      rw [hA]
      by_cases h : w = nI 0
      · rw [if_pos h, if_pos h]
      · rw [if_neg h, if_neg h]
    refine ⟨_, ?_, hv3, al_f2_tr hM (al_f2_w M' (by unfold al_qM; omega) _)⟩
    rcases hv with rfl | ⟨z, rfl⟩
    · apply eq_X7_sooner_23_a (d := d + 19)
      simp only [av_kP]
      rw [if_neg (nI_nlt (Nat.le_refl _) (by decide)), av_gx_s (by omega) (by omega), nI_clamp (by omega)]
      exact fin _ rfl
    · apply eq_X7_sooner_23_b (d := d + 19)
      simp only [av_kP]
      rw [if_neg (nI_nlt (Nat.le_refl _) (by decide)), av_gx_s (by omega) (by omega), nI_clamp (by omega)]
      exact fin _ rfl) (fun k hk ih M' v y hv hM hv2 => by
    have hv3 := al_mv_set hv2 (b := b) (f := 6) (by decide) k (fun _ => by rw [sUpd_s, sSet_sSet]; exact al_ok_6 ok (by omega))
    rw [sUpd_s, sSet_sSet, sUpd_sUpd] at hv3
    have hsh : av_C (av_S0 L) (d + 19) 175 [.ref 142, .int (nI b)] (av_w M' 147 b (nI k)) = some (some (.int (nI (sShared (sUpd B b (sSet (B b) 6 k)) n (sTop cs) day b))), av_w M' 147 b (nI k)) := sp_sharedM L (d + 13) hv3 hb
    have hk1 := hg k
    have hk2 := sMin_le hg k
    obtain ⟨N', c3, f3, f4⟩ := ih (av_w M' 147 b (nI k)) (.int (nI (sShared (sUpd B b (sSet (B b) 6 k)) n (sTop cs) day b))) k (Or.inr ⟨_, rfl⟩) (al_f2_tr hM (al_f2_w M' (by unfold al_qM; omega) _)) hv3
    refine ⟨N', ?_, f3, f4⟩
    have es : sMin (fun k => sShared (sUpd B b (sSet (B b) 6 k)) n (sTop cs) day b) (k + 1) = if k = 0 ∨ sShared (sUpd B b (sSet (B b) 6 k)) n (sTop cs) day b < (sMin (fun k => sShared (sUpd B b (sSet (B b) 6 k)) n (sTop cs) day b) k).2 then (k, sShared (sUpd B b (sSet (B b) 6 k)) n (sTop cs) day b) else sMin (fun k => sShared (sUpd B b (sSet (B b) 6 k)) n (sTop cs) day b) k := rfl
    rw [es, if_neg (Nat.succ_ne_zero k)] at c3
    generalize sShared (sUpd B b (sSet (B b) 6 k)) n (sTop cs) day b = G at *
    generalize sMin (fun k => sShared (sUpd B b (sSet (B b) 6 k)) n (sTop cs) day b) k = S at *
    have body : (if (if k = 0 then av_k (-1) else nI S.2) < nI 0 then av_V (av_S0 L) (d + 19 + 1) ta_X7_sooner 23 [.ref 142, .int (nI b), .int w, .int (nI (B b 6)), .int (nI k), .int (nI G), .int (nI k + nI 1), .int (nI G)] [] (av_w M' 147 b (nI k)) else if nI G < (if k = 0 then av_k (-1) else nI S.2) then av_V (av_S0 L) (d + 19 + 1) ta_X7_sooner 23 [.ref 142, .int (nI b), .int w, .int (nI (B b 6)), .int (nI k), .int (nI G), .int (nI k + nI 1), .int (nI G)] [] (av_w M' 147 b (nI k)) else av_V (av_S0 L) (d + 19 + 1) ta_X7_sooner 23 [.ref 142, .int (nI b), .int w, .int (nI (B b 6)), .int (nI S.1), .int (if k = 0 then av_k (-1) else nI S.2), .int (nI k + nI 1), .int (nI G)] [] (av_w M' 147 b (nI k))) = some (some (.int (if w = nI 0 then nI (sMin (fun k => sShared (sUpd B b (sSet (B b) 6 k)) n (sTop cs) day b) 24).1 else nI (sMin (fun k => sShared (sUpd B b (sSet (B b) 6 k)) n (sTop cs) day b) 24).2)), N') := by
      rw [nI_add]
      by_cases h0 : k = 0
      · rw [if_pos h0, if_pos (show av_k (-1) < nI 0 by decide)]
        rw [if_pos (Or.inl h0)] at c3
        exact c3
      · rw [if_neg h0, if_neg (nI_nlt (Nat.zero_le _) (by omega))]
        by_cases h1 : G < S.2
        · rw [if_pos (nI_lt h1 (by omega))]
          rw [if_pos (Or.inr h1)] at c3
          exact c3
        · rw [if_neg (nI_nlt (by omega) (by omega))]
          rw [if_neg (fun z => z.elim h0 h1)] at c3
          exact c3
    rcases hv with rfl | ⟨z, rfl⟩
    · apply eq_X7_sooner_23_a (d := d + 19)
      simp only [av_kP]
      rw [if_pos (nI_lt hk (by decide)), av_gx_s (by omega) (by omega), nI_clamp (by omega), hsh, av_bi_s]
      exact body
    · apply eq_X7_sooner_23_b (d := d + 19)
      simp only [av_kP]
      rw [if_pos (nI_lt hk (by decide)), av_gx_s (by omega) (by omega), nI_clamp (by omega), hsh, av_bi_s]
      exact body)
  obtain ⟨N4, c4, h4, f4⟩ := keyM M am_junk (B b 6) (Or.inl rfl) (al_f2_rf _ _) (by rw [sSet_id, sUpd_id]; exact hmM)
  refine ⟨N4, ?_, h4, f4⟩
  apply eq_X7_sooner (d := d + 19)
  rw [if_pos rfl] at c4
  simp only [av_kP]
  rw [sp_isBird L _ _ hmM.2.1.1 (by omega), av_bi_s, hx, av_if_t, sp_in, av_bi_s, hw, av_if_t, av_gx_s (by omega) (by omega), nI_clamp (by omega), hwas]
  exact c4
