/-! row, bird, pass -/
theorem al_md_row {N : av_N} {n day : Nat} {B : Nat → Nat → Nat} (h : al_md N n day B) {b j : Nat} (hj : j < 4) (x : Nat) : al_md (av_w N 150 (4 * b + j) (nI x)) n day (sUpd B b (sSet (B b) (10 + j) x)) := by
  obtain ⟨h1, h2, h3⟩ := h
  refine ⟨(av_w_o N _ _ _ _ (by omega)).trans h1, (av_w_o N _ _ _ _ (by omega)).trans h2, fun c hc => ?_⟩
  obtain ⟨m1, m2, m3, m4, m5, m6, m7, m8⟩ := h3 c hc
  have key : ∀ f, f < 10 → sUpd B b (sSet (B b) (10 + j) x) c f = B c f := fun f hf => by
    by_cases e : c = b
    · subst e
      rw [sUpd_s, sSet_n _ _ (by omega)]
    · rw [sUpd_n _ _ e]
  rw [key 2 (by decide), key 3 (by decide), key 4 (by decide), key 5 (by decide), key 6 (by decide), key 7 (by decide), key 8 (by decide)]
  refine ⟨(av_w_o N _ _ _ _ (by decide)).trans m1, (av_w_o N _ _ _ _ (by decide)).trans m2, (av_w_o N _ _ _ _ (by decide)).trans m3, (av_w_o N _ _ _ _ (by decide)).trans m4, (av_w_o N _ _ _ _ (by decide)).trans m5, (av_w_o N _ _ _ _ (by decide)).trans m6, (av_w_o N _ _ _ _ (by decide)).trans m7, fun i hi => ?_⟩
  by_cases e : c = b
  · subst e
    rw [sUpd_s]
    by_cases e2 : i = j
    · subst e2
      rw [av_w_s, sSet_s]
    · rw [av_w_k _ _ _ _ (by omega), sSet_n _ _ (by omega)]
      exact m8 i hi
  · rw [sUpd_n _ _ e, av_w_k _ _ _ _ (by omega)]
    exact m8 i hi
theorem al_md_on {N N' : av_N} {n day : Nat} {B : Nat → Nat → Nat} (h : al_md N n day B) (hf : ∀ q k, (q = 142 ∧ k ≤ 1) ∨ (143 ≤ q ∧ q ≤ 150) → N'.1 q k = N.1 q k) : al_md N' n day B := by
  obtain ⟨h1, h2, h3⟩ := h
  refine ⟨(hf _ _ (by omega)).trans h1, (hf _ _ (by omega)).trans h2, fun b hb => ?_⟩
  obtain ⟨x1, x2, x3, x4, x5, x6, x7, x8⟩ := h3 b hb
  exact ⟨(hf _ _ (by omega)).trans x1, (hf _ _ (by omega)).trans x2, (hf _ _ (by omega)).trans x3, (hf _ _ (by omega)).trans x4, (hf _ _ (by omega)).trans x5, (hf _ _ (by omega)).trans x6, (hf _ _ (by omega)).trans x7, fun j hj => (hf _ _ (by omega)).trans (x8 j hj)⟩
theorem cl_row (L : av_W) (d : Nat) {N : av_N} (hR : RR N) (x w z : Int32) : al_call L (d + 20) N 51 [.ref 9, .int x, .int w, .int z] 125 [.ref 142, .int x, .int w, .int z] := by
  have hR' := hR
  obtain ⟨n, day, B, e, k, T, h⟩ := hR
  have h0 := h
  obtain ⟨hB, hE, he, hI, hF, hS, hL, hK, hT, hX, hO⟩ := h0
  have hm := RA_mv hB hE he
  have hs := hB.1
  have hn := hs.1
  cases hx : av_lt x n
  · refine call_no hR' (.int (av_k (-1))) ?_ ?_
    · apply eq_X6_row (d := d + 19)
      rw [sp_birdAt_no L _ hs.2.1 hx, av_br_n]
    · apply eq_X7_row (d := d + 19)
      rw [sp_isBird L _ x hm.2.1.1 (by omega), av_bi_s, hx, av_if_fk]
  obtain ⟨b, hb, rfl⟩ := (av_ltE (by omega)).mp hx
  obtain ⟨kb, ok, k1⟩ := hs.2.2.2.1 b hb
  have hbp : al_bp (27 + 2 * b) := al_bp27 (by omega)
  obtain ⟨s1, s2, s3, s4⟩ := al_bpE hbp L
  cases hw : av_wi w (nI 0) (nI 3)
  · refine call_no hR' (.int (av_k (-1))) ?_ ?_
    · apply eq_X6_row (d := d + 19)
      simp only [av_kP]
      rw [sp_birdAt L _ hs.2.1 hn hb, av_br_s, sp_within, av_bi_s, hw, av_if_f]
    · apply eq_X7_row (d := d + 19)
      simp only [av_kP]
      rw [sp_isBird L _ _ hm.2.1.1 (by omega), av_bi_s, hx, av_if_t, sp_in, av_bi_s, hw, av_if_f]
  obtain ⟨j, hj, rfl⟩ := av_wiD (by decide) hw
  cases hz : av_wi z (nI 0) (nI 9)
  · refine call_no hR' (.int (av_k (-2))) ?_ ?_
    · apply eq_X6_row (d := d + 19)
      simp only [av_kP]
      rw [sp_birdAt L _ hs.2.1 hn hb, av_br_s, sp_within, av_bi_s, hw, av_if_t, sp_within, av_bi_s, hz, av_if_f]
    · apply eq_X7_row (d := d + 19)
      simp only [av_kP]
      rw [sp_isBird L _ _ hm.2.1.1 (by omega), av_bi_s, hx, av_if_t, sp_in, av_bi_s, hw, av_if_t, sp_in, av_bi_s, hz, av_if_f]
  obtain ⟨m, hm9, rfl⟩ := av_wiD (by decide) hz
  obtain ⟨m1, m2, m3, m4, m5, m6, m7, m8⟩ := hm.2.1.2.2 b hb
  have o2 : B b 2 < 7 := ok.2.1
  by_cases hk6 : B b 2 = 6
  · have okm : al_ok (sSet (B b) (10 + j) m) := al_ok_f ok (by omega)
    have e28 : ∀ q k, q ≠ 28 + 2 * b → (av_w N (28 + 2 * b) j (nI m)).1 q k = N.1 q k := fun q k hq => av_w_o _ _ _ _ _ hq
    have hmd := al_md_row (al_md_on (N' := av_w N (28 + 2 * b) j (nI m)) hm.2.1 (fun q k hq => e28 q k (by omega))) (b := b) (j := j) (by omega) m
    have hbd : al_bd (av_w (av_w N (28 + 2 * b) j (nI m)) 150 (4 * b + j) (nI m)) (27 + 2 * b) (sSet (B b) (10 + j) m) := by
      refine ⟨fun f f1 f9 => ?_, fun i hi => ?_⟩
      · rw [av_w_o _ _ _ _ _ (by omega), av_w_o _ _ _ _ _ (by omega), sSet_n _ _ (by omega)]
        exact kb.1 f f1 f9
      · rw [av_w_o _ _ _ _ _ (by omega), show 27 + 2 * b + 1 = 28 + 2 * b by omega]
        by_cases e2 : i = j
        · subst e2
          rw [av_w_s, sSet_s]
        · rw [av_w_k _ _ _ _ e2, sSet_n _ _ (by omega)]
          have := kb.2 i hi
          rw [show 27 + 2 * b + 1 = 28 + 2 * b by omega] at this
          exact this
    have hgone : sGone (sUpd B b (sSet (B b) (10 + j) m)) n = sGone B n := sGone_cg (fun c hc => by
      by_cases e : c = b
      · subst e
        rw [sUpd_s, sSet_n _ _ (by omega)]
      · rw [sUpd_n _ _ e])
    refine ⟨.int (nI (B b (10 + j))), av_w N (28 + 2 * b) j (nI m), av_w (av_w N (28 + 2 * b) j (nI m)) 150 (4 * b + j) (nI m), ?_, ?_, ⟨n, day, sUpd B b (sSet (B b) (10 + j) m), e, k, T, RA_B h (al_f2_tr (al_f2_w N (by unfold uB; omega) _) (al_f2_w _ (by unfold uB; omega) _)) (gB_up hB hb hbd okm (by rw [sSet_n _ _ (by omega)]; exact k1) hmd (by rw [hgone, av_w_o _ _ _ _ _ (by decide), e28 _ _ (by omega)]; exact hm.2.2.1) (fun q k hq => by rw [av_w_o _ _ _ _ _ (by omega), av_w_o _ _ _ _ _ (by omega)])) (Nat.le_refl _) he⟩, fun i => av_w_o _ _ _ _ _ (by omega)⟩
    · have r1 := kb.2 j (by omega)
      apply eq_X6_row (d := d + 19)
      simp only [av_kP]
      rw [sp_birdAt L _ hs.2.1 hn hb, av_br_s, sp_within, av_bi_s, hw, av_if_t, sp_within, av_bi_s, hz, av_if_t, s1, av_tg_s, kb.1 2 (by decide) (by decide), if_pos (congrArg nI hk6), av_tg_s, s2, av_bd_s, s3, av_tg_s, av_gx_s (by show j < 4; omega) (by omega), av_tg_s, av_bd_s, av_ge_s (by omega), s3, av_tg_s, av_gx_s (by show j < 4; omega) (by omega), nI_clamp (by omega), r1, show 27 + 2 * b + 1 = 28 + 2 * b by omega]
    · have r2 : (av_w N (28 + 2 * b) j (nI m)).1 150 (4 * b + j) = nI (B b (10 + j)) := (e28 _ _ (by omega)).trans (m8 j (by omega))
      have r3 : (av_w N (28 + 2 * b) j (nI m)).1 143 b = nI (B b 2) := (e28 _ _ (by omega)).trans m1
      have r4 : (av_w N (28 + 2 * b) j (nI m)).1 142 0 = nI n := (e28 _ _ (by omega)).trans hm.2.1.1
      apply eq_X7_row (d := d + 19)
      simp only [av_kP]
      rw [sp_isBird L _ _ r4 (by omega), av_bi_s, hx, av_if_t, sp_in, av_bi_s, hw, av_if_t, sp_in, av_bi_s, hz, av_if_t, av_gx_s (by omega) (by omega), nI_clamp (by omega), r3, if_pos (congrArg nI hk6), av_mul, nI_add, av_gx_s (by omega) (by omega), av_gx_s (by omega) (by omega), nI_clamp (by omega), r2]
  · refine call_no hR' (.int (av_k (-3))) ?_ ?_
    · apply eq_X6_row (d := d + 19)
      simp only [av_kP]
      rw [sp_birdAt L _ hs.2.1 hn hb, av_br_s, sp_within, av_bi_s, hw, av_if_t, sp_within, av_bi_s, hz, av_if_t, s1, av_tg_s, kb.1 2 (by decide) (by decide), if_neg (nI_ne (by omega) (by decide) hk6)]
    · apply eq_X7_row (d := d + 19)
      simp only [av_kP]
      rw [sp_isBird L _ _ hm.2.1.1 (by omega), av_bi_s, hx, av_if_t, sp_in, av_bi_s, hw, av_if_t, sp_in, av_bi_s, hz, av_if_t, av_gx_s (by omega) (by omega), nI_clamp (by omega), m1, if_neg (nI_ne (by omega) (by decide) hk6)]
def sNew (i c v l t f h : Nat) : Nat → Nat := fun g => if g = 1 then i else if g = 2 then c else if g = 3 then v else if g = 4 then l else if g = 5 then t else if g = 6 then f else if g = 7 then h else if g = 8 then 100 else 0
theorem sp_begin0 (L : av_W) (d : Nat) {N : av_N} {b c v : Nat} (hb : b < 7) : ∃ N', av_C (av_S0 L) d 1 [.ref (27 + 2 * b), .int (nI b), .int (nI c), .int (nI v)] N = some (none, N') ∧ N'.1 (27 + 2 * b) 1 = nI b ∧ N'.1 (27 + 2 * b) 2 = nI c ∧ N'.1 (27 + 2 * b) 3 = nI v ∧ N'.1 (27 + 2 * b) 8 = nI 100 ∧ N'.1 (27 + 2 * b) 9 = nI 0 ∧ (∀ j, j < 4 → N'.1 (28 + 2 * b) j = nI 0) ∧ al_fr (fun q => q = 27 + 2 * b ∨ q = 28 + 2 * b) N N' := by
  have hbp : al_bp (27 + 2 * b) := al_bp27 hb
  obtain ⟨s1, s2, s3, s4⟩ := al_bpE hbp L
  have key := lp_0 (P := fun k => ∀ M, (∀ j, j < k → M.1 (28 + 2 * b) j = nI 0) → ∃ N', av_V (av_S0 L) d ta_X0_begin 17 [.ref (27 + 2 * b), .int (nI b), .int (nI c), .int (nI v), .int (nI k)] [] M = some (none, N') ∧ (∀ j, j < 4 → N'.1 (28 + 2 * b) j = nI 0) ∧ al_fr (fun q => q = 28 + 2 * b) M N') 4 (fun M hM => by
    refine ⟨M, ?_, hM, al_fr_rf _ _⟩
    apply eq_X0_begin_17
    rw [av_kP, if_neg (nI_nlt (Nat.le_refl _) (by decide))]) (fun k hk ih M hM => by
    obtain ⟨N', c1, c2, c3⟩ := ih (av_w M (28 + 2 * b) k (nI 0)) (fun j hj => by
      by_cases e : j = k
      · subst e
        exact av_w_s _ _ _ _
      · rw [av_w_k _ _ _ _ e]
        exact hM j (by omega))
    refine ⟨N', ?_, c2, al_fr_tr (al_fr_w1 M _ _ _) c3⟩
    apply eq_X0_begin_17
    simp only [av_kP]
    rw [if_pos (nI_lt hk (by decide)), s1, av_tg_s, s2, av_bd_s, av_ge_s (by omega), s3, av_tg_s, av_gx_s (by show k < 4; omega) (by omega), nI_clamp (by omega), nI_add, show 27 + 2 * b + 1 = 28 + 2 * b by omega]
    exact c1)
  obtain ⟨N', c1, c2, c3⟩ := key (av_w (av_w (av_w (av_w (av_w N (27 + 2 * b) 1 (nI b)) (27 + 2 * b) 2 (nI c)) (27 + 2 * b) 3 (nI v)) (27 + 2 * b) 8 (nI 100)) (27 + 2 * b) 9 (nI 0)) (fun j hj => absurd hj (Nat.not_lt_zero _))
  have g : ∀ f, N'.1 (27 + 2 * b) f = (av_w (av_w (av_w (av_w (av_w N (27 + 2 * b) 1 (nI b)) (27 + 2 * b) 2 (nI c)) (27 + 2 * b) 3 (nI v)) (27 + 2 * b) 8 (nI 100)) (27 + 2 * b) 9 (nI 0)).1 (27 + 2 * b) f := fun f => al_fr_k c3 (by omega)
  refine ⟨N', ?_, (g 1).trans (by simp (disch := decide) only [av_w_s, av_w_k]), (g 2).trans (by simp (disch := decide) only [av_w_s, av_w_k]), (g 3).trans (by simp (disch := decide) only [av_w_s, av_w_k]), (g 8).trans (by simp (disch := decide) only [av_w_s, av_w_k]), (g 9).trans (by simp (disch := decide) only [av_w_s, av_w_k]), c2, al_fr_tr (al_fr_mono (al_fr_tr (al_fr_w1 N (27 + 2 * b) 1 (nI b)) (al_fr_tr (al_fr_w1 _ (27 + 2 * b) 2 (nI c)) (al_fr_tr (al_fr_w1 _ (27 + 2 * b) 3 (nI v)) (al_fr_tr (al_fr_w1 _ (27 + 2 * b) 8 (nI 100)) (al_fr_w1 _ (27 + 2 * b) 9 (nI 0)))))) (fun q z => Or.inl z)) (al_fr_mono c3 (fun q z => Or.inr z))⟩
  apply eq_X0_begin
  simp only [av_kP]
  rw [s1, av_tg_s, av_tg_s, av_tg_s, av_tg_s, av_tg_s, av_bt_0]
  exact c1
theorem sNew_ok {i c v l t f h : Nat} (h1 : i < 7) (h2 : c < 7) (h3 : v ≤ 9) (h4 : l ≤ 9) (h5 : 1 ≤ t ∧ t ≤ 10) (h6 : f < 24) (h7 : 1 ≤ h ∧ h ≤ 24) : al_ok (sNew i c v l t f h) := by
  refine ⟨h1, h2, h3, h4, h5.1, h5.2, h6, h7.1, h7.2, by show 100 ≤ 9999; decide, by show 0 ≤ 1; decide, fun j hj => ?_⟩
  unfold sNew
  rw [if_neg (by omega), if_neg (by omega), if_neg (by omega), if_neg (by omega), if_neg (by omega), if_neg (by omega), if_neg (by omega), if_neg (by omega)]
  omega
theorem cl_bird (L : av_W) (d : Nat) {N : av_N} (hR : RR N) (x1 x2 x3 x4 x5 x6 : Int32) : al_call L (d + 20) N 47 [.ref 9, .int x1, .int x2, .int x3, .int x4, .int x5, .int x6] 120 [.ref 142, .int x1, .int x2, .int x3, .int x4, .int x5, .int x6] := by
  have hR' := hR
  obtain ⟨n, day, B, e, k, T, h⟩ := hR
  have h0 := h
  obtain ⟨hB, hE, he, hI, hF, hS, hL, hK, hT, hX, hO⟩ := h0
  have hm := RA_mv hB hE he
  have hs := hB.1
  have hn := hs.1
  cases y0 : av_wi x1 (nI 0) (nI 6)
  · refine call_no hR' (.int (av_k (-1))) ?_ ?_
    · apply eq_X6_bird (d := d + 19)
      simp only [av_kP]
      rw [sp_within, av_bi_s, y0, av_if_f]
    · apply eq_X7_bird (d := d + 19)
      simp only [av_kP]
      rw [sp_in, av_bi_s, y0, av_if_f]
  cases y1 : av_wi x2 (nI 0) (nI 9)
  · refine call_no hR' (.int (av_k (-2))) ?_ ?_
    · apply eq_X6_bird (d := d + 19)
      simp only [av_kP]
      rw [sp_within, av_bi_s, y0, av_if_t, sp_within, av_bi_s, y1, av_if_f]
      apply eq_X6_bird_34 (d := d + 19)
      rw [if_pos rfl]
    · apply eq_X7_bird (d := d + 19)
      simp only [av_kP]
      rw [sp_in, av_bi_s, y0, av_if_t, sp_in, av_bi_s, y1, av_if_f]
  cases y2 : av_wi x3 (nI 0) (nI 9)
  · refine call_no hR' (.int (av_k (-2))) ?_ ?_
    · apply eq_X6_bird (d := d + 19)
      simp only [av_kP]
      rw [sp_within, av_bi_s, y0, av_if_t, sp_within, av_bi_s, y1, av_if_t, sp_within, av_bi_s, y2, av_if_f]
      apply eq_X6_bird_34 (d := d + 19)
      rw [if_pos rfl]
    · apply eq_X7_bird (d := d + 19)
      simp only [av_kP]
      rw [sp_in, av_bi_s, y0, av_if_t, sp_in, av_bi_s, y1, av_if_t, sp_isLow, av_bi_s, y2, av_if_f]
  cases y3 : av_wi x4 (nI 1) (nI 10)
  · refine call_no hR' (.int (av_k (-2))) ?_ ?_
    · apply eq_X6_bird (d := d + 19)
      simp only [av_kP]
      rw [sp_within, av_bi_s, y0, av_if_t, sp_within, av_bi_s, y1, av_if_t, sp_within, av_bi_s, y2, av_if_t, sp_within, av_bi_s, y3, av_if_f]
      apply eq_X6_bird_34 (d := d + 19)
      rw [if_pos rfl]
    · apply eq_X7_bird (d := d + 19)
      simp only [av_kP]
      rw [sp_in, av_bi_s, y0, av_if_t, sp_in, av_bi_s, y1, av_if_t, sp_isLow, av_bi_s, y2, av_if_t, sp_in, av_bi_s, y3, av_if_f]
  cases y4 : av_wi x5 (nI 0) (nI 23)
  · refine call_no hR' (.int (av_k (-2))) ?_ ?_
    · apply eq_X6_bird (d := d + 19)
      simp only [av_kP]
      rw [sp_within, av_bi_s, y0, av_if_t, sp_within, av_bi_s, y1, av_if_t, sp_within, av_bi_s, y2, av_if_t, sp_within, av_bi_s, y3, av_if_t, sp_within, av_bi_s, y4, av_if_f]
      apply eq_X6_bird_34 (d := d + 19)
      rw [if_pos rfl]
    · apply eq_X7_bird (d := d + 19)
      simp only [av_kP]
      rw [sp_in, av_bi_s, y0, av_if_t, sp_in, av_bi_s, y1, av_if_t, sp_isLow, av_bi_s, y2, av_if_t, sp_in, av_bi_s, y3, av_if_t, sp_isHour, av_bi_s, y4, av_if_f]
  cases y5 : av_wi x6 (nI 1) (nI 24)
  · refine call_no hR' (.int (av_k (-2))) ?_ ?_
    · apply eq_X6_bird (d := d + 19)
      simp only [av_kP]
      rw [sp_within, av_bi_s, y0, av_if_t, sp_within, av_bi_s, y1, av_if_t, sp_within, av_bi_s, y2, av_if_t, sp_within, av_bi_s, y3, av_if_t, sp_within, av_bi_s, y4, av_if_t, sp_within, av_bi_s, y5, av_if_f]
      apply eq_X6_bird_34 (d := d + 19)
      rw [if_pos rfl]
    · apply eq_X7_bird (d := d + 19)
      simp only [av_kP]
      rw [sp_in, av_bi_s, y0, av_if_t, sp_in, av_bi_s, y1, av_if_t, sp_isLow, av_bi_s, y2, av_if_t, sp_in, av_bi_s, y3, av_if_t, sp_isHour, av_bi_s, y4, av_if_t, sp_in, av_bi_s, y5, av_if_f]
  obtain ⟨c, hc, rfl⟩ := av_wiD (by decide) y0
  obtain ⟨v, hv, rfl⟩ := av_wiD (by decide) y1
  obtain ⟨l, hl, rfl⟩ := av_wiD (by decide) y2
  obtain ⟨t, ht1, ht2, rfl⟩ := (av_wiE (by decide) (by decide)).mp y3
  obtain ⟨f, hf, rfl⟩ := av_wiD (by decide) y4
  obtain ⟨g, hg1, hg2, rfl⟩ := (av_wiE (by decide) (by decide)).mp y5
  by_cases h7 : n = 7
  · refine call_no hR' (.int (av_k (-4))) ?_ ?_
    · apply eq_X6_bird (d := d + 19)
      simp only [av_kP]
      rw [sp_within, av_bi_s, y0, av_if_t, sp_within, av_bi_s, y1, av_if_t, sp_within, av_bi_s, y2, av_if_t, sp_within, av_bi_s, y3, av_if_t, sp_within, av_bi_s, y4, av_if_t, sp_within, av_bi_s, y5, av_if_t, if_neg (by decide), hs.2.1, if_neg (nI_nlt (by omega) (by omega))]
    · apply eq_X7_bird (d := d + 19)
      simp only [av_kP]
      rw [sp_in, av_bi_s, y0, av_if_t, sp_in, av_bi_s, y1, av_if_t, sp_isLow, av_bi_s, y2, av_if_t, sp_in, av_bi_s, y3, av_if_t, sp_isHour, av_bi_s, y4, av_if_t, sp_in, av_bi_s, y5, av_if_t, hm.2.1.1, if_pos (congrArg nI h7)]
  have h7' : n < 7 := by omega
  have hbp : al_bp (27 + 2 * n) := al_bp27 h7'
  obtain ⟨s1, s2, s3, s4⟩ := al_bpE hbp L
  obtain ⟨N1, c1, b1, b2, b3, b8, b9, br, f1⟩ := sp_begin0 L (d + 19) (N := N) (b := n) (c := c) (v := v) h7'
  have okX := sNew_ok (i := n) (c := c) (v := v) (l := l) (t := t) (f := f) (h := g) h7' (by omega) hv hl ⟨ht1, ht2⟩ (by omega) ⟨hg1, hg2⟩
  have hg0 : sGone B n < 1024 := sBits_1024 _ (by omega)
  have fr1 : ∀ q k, q ≠ 27 + 2 * n → q ≠ 28 + 2 * n → N1.1 q k = N.1 q k := fun q k x y => (f1 q (by omega) k).1
  have hNC : ∃ N2, N2 = av_w (av_w (av_w (av_w (av_w N1 (27 + 2 * n) 4 (nI l)) (27 + 2 * n) 5 (nI t)) (27 + 2 * n) 6 (nI f)) (27 + 2 * n) 7 (nI g)) 10 1 (nI (n + 1)) := ⟨_, rfl⟩
  obtain ⟨N2, hN2⟩ := hNC
  have fr2 : ∀ q k, q ≠ 27 + 2 * n → q ≠ 28 + 2 * n → ¬ (q = 10 ∧ k = 1) → N2.1 q k = N.1 q k := fun q k x y z => by
    rw [hN2, show (av_w (av_w (av_w (av_w (av_w N1 (27 + 2 * n) 4 (nI l)) (27 + 2 * n) 5 (nI t)) (27 + 2 * n) 6 (nI f)) (27 + 2 * n) 7 (nI g)) 10 1 (nI (n + 1))).1 q k = (av_w (av_w (av_w (av_w N1 (27 + 2 * n) 4 (nI l)) (27 + 2 * n) 5 (nI t)) (27 + 2 * n) 6 (nI f)) (27 + 2 * n) 7 (nI g)).1 q k from am_up_n _ _ (fun w => z w), av_w_o _ _ _ _ _ x, av_w_o _ _ _ _ _ x, av_w_o _ _ _ _ _ x, av_w_o _ _ _ _ _ x]
    exact fr1 q k x y
  have hbd2 : al_bd N2 (27 + 2 * n) (sNew n c v l t f g) := by
    rw [hN2]
    refine ⟨fun q q1 q9 => ?_, fun j hj => ?_⟩
    · rcases (by omega : q = 1 ∨ q = 2 ∨ q = 3 ∨ q = 4 ∨ q = 5 ∨ q = 6 ∨ q = 7 ∨ q = 8 ∨ q = 9) with rfl | rfl | rfl | rfl | rfl | rfl | rfl | rfl | rfl <;> simp (disch := (first | decide | omega)) only [av_w_s, av_w_o, av_w_k, b1, b2, b3, b8, b9] <;> rfl
    · rw [show 27 + 2 * n + 1 = 28 + 2 * n by omega]
      simp (disch := (first | decide | omega)) only [av_w_s, av_w_o, av_w_k]
      rw [br j hj]
      unfold sNew
      rw [if_neg (by omega), if_neg (by omega), if_neg (by omega), if_neg (by omega), if_neg (by omega), if_neg (by omega), if_neg (by omega), if_neg (by omega)]
  have hfN2 : al_f2 (fun q k => uB q k ∨ uZ q k) N N2 := by
    rw [hN2]
    exact al_f2_tr (al_f2_of f1 (fun q k z => by unfold uB; omega)) (al_f2_tr (al_f2_w _ (by unfold uB; omega) _) (al_f2_tr (al_f2_w _ (by unfold uB; omega) _) (al_f2_tr (al_f2_w _ (by unfold uB; omega) _) (al_f2_tr (al_f2_w _ (by unfold uB; omega) _) (al_f2_w _ (by unfold uB; omega) _)))))
  have hcC : av_C (av_S0 L) (d + 20) 47 [.ref 9, .int (nI c), .int (nI v), .int (nI l), .int (nI t), .int (nI f), .int (nI g)] N = some (some (.int (nI n)), N2) := by
    have e10 : N1.1 10 1 = nI n := (fr1 _ _ (by omega) (by omega)).trans hs.2.1
    have e1 : N2.1 (27 + 2 * n) 1 = nI n := hbd2.1 1 (by decide) (by decide)
    rw [← e1, hN2]
    apply eq_X6_bird (d := d + 19)
    simp only [av_kP]
    rw [sp_within, av_bi_s, y0, av_if_t, sp_within, av_bi_s, y1, av_if_t, sp_within, av_bi_s, y2, av_if_t, sp_within, av_bi_s, y3, av_if_t, sp_within, av_bi_s, y4, av_if_t, sp_within, av_bi_s, y5, av_if_t, if_neg (by decide), hs.2.1, if_pos (nI_lt h7' (by decide)), av_gx_s (by omega) (by omega), nI_clamp (by omega), al_R11 n h7', av_bd_s, s1, av_tg_s, c1, av_bv_s, av_tg_s, av_tg_s, av_tg_s, av_tg_s, av_tg_s]
    have e11 : (av_w (av_w (av_w (av_w N1 (27 + 2 * n) 4 (nI l)) (27 + 2 * n) 5 (nI t)) (27 + 2 * n) 6 (nI f)) (27 + 2 * n) 7 (nI g)).1 10 1 + nI 1 = nI (n + 1) := by
      simp (disch := (first | decide | omega)) only [av_w_o]
      rw [e10, nI_add]
    rw [e11]
  -- the reference
  have m0 : N2.1 142 0 = nI n := (fr2 _ _ (by omega) (by omega) (by omega)).trans hm.2.1.1
  have hgz : (sGone B n).testBit n = false := Nat.testBit_lt_two_pow (sBits_lt _ n)
  have hNM : ∃ N3, N3 = av_w (av_w (av_w (av_w (av_w (av_w (av_w (av_w N2 143 n (nI c)) 144 n (nI v)) 145 n (nI l)) 146 n (nI t)) 147 n (nI f)) 148 n (nI g)) 149 n (nI 100)) 142 2 (nI (sGone B n)) := ⟨_, rfl⟩
  obtain ⟨N3, hN3⟩ := hNM
  have loop := lp_0 (P := fun j => ∀ M, (∀ i, i < j → M.1 150 (4 * n + i) = nI 0) → al_f2 (fun q k => q = 150 ∧ 4 * n ≤ k) N3 M → ∃ N4, av_V (av_S0 L) (d + 20) ta_X7_bird 97 [.ref 142, .int (nI c), .int (nI v), .int (nI l), .int (nI t), .int (nI f), .int (nI g), .int (nI j)] [] M = some (some (.int (nI n)), N4) ∧ N4.1 142 0 = nI (n + 1) ∧ (∀ i, i < 4 → N4.1 150 (4 * n + i) = nI 0) ∧ al_f2 (fun q k => (q = 150 ∧ 4 * n ≤ k) ∨ (q = 142 ∧ k = 0)) N3 N4) 4 (fun M hM hfM => by
    have e0 : M.1 142 0 = nI n := by
      rw [al_f2_e hfM (by omega), hN3]
      simp (disch := (first | decide | omega)) only [av_w_o, av_w_k]
      exact m0
    refine ⟨av_w M 142 0 (nI (n + 1)), ?_, av_w_s _ _ _ _, fun i hi => (av_w_o _ _ _ _ _ (by decide)).trans (hM i hi), al_f2_tr (al_f2_mono hfM (fun q k z => Or.inl z)) (al_f2_w M (Or.inr ⟨rfl, rfl⟩) _)⟩
    apply eq_X7_bird_97 (d := d + 19)
    simp only [av_kP]
    rw [if_neg (nI_nlt (Nat.le_refl _) (by decide)), e0, nI_add, av_w_s, av_sub (by omega), Nat.add_sub_cancel]) (fun j hj ih M hM hfM => by
    have e0 : M.1 142 0 = nI n := by
      rw [al_f2_e hfM (by omega), hN3]
      simp (disch := (first | decide | omega)) only [av_w_o, av_w_k]
      exact m0
    obtain ⟨N4, c4, r4⟩ := ih (av_w M 150 (4 * n + j) (nI 0)) (fun i hi => by
      by_cases e : i = j
      · subst e
        exact av_w_s _ _ _ _
      · rw [av_w_k _ _ _ _ (by omega)]
        exact hM i (by omega)) (al_f2_tr hfM (al_f2_w M ⟨rfl, by omega⟩ _))
    refine ⟨N4, ?_, r4⟩
    apply eq_X7_bird_97 (d := d + 19)
    simp only [av_kP]
    rw [if_pos (nI_lt hj (by decide)), e0, av_mul, nI_add, av_gx_s (by omega) (by omega), nI_clamp (by omega), nI_add]
    exact c4)
  obtain ⟨N4, c4, z0, z1, f4⟩ := loop N3 (fun i hi => absurd hi (Nat.not_lt_zero _)) (al_f2_rf _ _)
  have fr4 : ∀ q k, (143 ≤ q ∧ q ≤ 149 ∧ k ≠ n) ∨ (q = 150 ∧ k < 4 * n) ∨ (q = 142 ∧ k ≠ 0 ∧ k ≠ 2) ∨ q < 142 → N4.1 q k = N2.1 q k := fun q k hq => by
    rw [al_f2_e f4 (by omega), hN3]
    by_cases e : q = 142
    · subst e
      simp (disch := (first | decide | omega)) only [av_w_o, av_w_k]
    · rw [av_w_o _ _ _ _ _ e]
      by_cases e3 : 143 ≤ q ∧ q ≤ 149
      · rw [av_w_k _ _ _ _ (by omega), av_w_k _ _ _ _ (by omega), av_w_k _ _ _ _ (by omega), av_w_k _ _ _ _ (by omega), av_w_k _ _ _ _ (by omega), av_w_k _ _ _ _ (by omega), av_w_k _ _ _ _ (by omega)]
      · rw [av_w_o _ _ _ _ _ (by omega), av_w_o _ _ _ _ _ (by omega), av_w_o _ _ _ _ _ (by omega), av_w_o _ _ _ _ _ (by omega), av_w_o _ _ _ _ _ (by omega), av_w_o _ _ _ _ _ (by omega), av_w_o _ _ _ _ _ (by omega)]
  have hcM : av_C (av_S0 L) (d + 20) 120 [.ref 142, .int (nI c), .int (nI v), .int (nI l), .int (nI t), .int (nI f), .int (nI g)] N2 = some (some (.int (nI n)), N4) := by
    have g2 : N2.1 142 2 = nI (sGone B n) := (fr2 _ _ (by omega) (by omega) (by omega)).trans hm.2.2.1
    have gg : sMinus (sGone B n) (2 ^ n) = sGone B n := by
      apply Nat.eq_of_testBit_eq
      intro i
      rw [sMinus_bit' hg0, Nat.testBit_two_pow]
      by_cases e : n = i
      · rw [← e, hgz]
        rfl
      · rw [decide_eq_false e]
        simp
    apply eq_X7_bird (d := d + 19)
    simp only [av_kP]
    rw [sp_in, av_bi_s, y0, av_if_t, sp_in, av_bi_s, y1, av_if_t, sp_isLow, av_bi_s, y2, av_if_t, sp_in, av_bi_s, y3, av_if_t, sp_isHour, av_bi_s, y4, av_if_t, sp_in, av_bi_s, y5, av_if_t, m0, if_neg (nI_ne (by omega) (by decide) h7)]
    simp (disch := (first | decide | omega)) only [av_gx_s, nI_clamp, av_w_o, m0, g2, av_shl, Nat.one_mul]
    rw [av_andn hg0, gg, ← hN3]
    exact c4
  have hB' : gB N4 (n + 1) day (sUpd B n (sNew n c v l t f g)) e := by
    obtain ⟨⟨a1, a2, a3, a4, a5⟩, q2, q3, q4, q5, q6⟩ := hB
    refine ⟨⟨h7', ?_, ((fr4 _ _ (by omega)).trans (fr2 _ _ (by omega) (by omega) (by omega))).trans a3, fun b hb => ?_, a5⟩, ((fr4 _ _ (by omega)).trans (fr2 _ _ (by omega) (by omega) (by omega))).trans q2, ⟨z0, ((fr4 _ _ (by omega)).trans (fr2 _ _ (by omega) (by omega) (by omega))).trans q3.2.1, fun b hb => ?_⟩, ?_, ((fr4 _ _ (by omega)).trans (fr2 _ _ (by omega) (by omega) (by omega))).trans q5, q6⟩
    · rw [fr4 _ _ (by omega), hN2]
      exact av_w_s _ _ _ _
    · by_cases e : b = n
      · subst e
        rw [sUpd_s]
        exact ⟨al_bd_on hbd2 (fun k => fr4 _ _ (by omega)) (fun k => fr4 _ _ (by omega)), okX, rfl⟩
      · rw [sUpd_n _ _ e]
        obtain ⟨k1, k2⟩ := a4 b (by omega)
        exact ⟨al_bd_on k1 (fun k => (fr4 _ _ (by omega)).trans (fr2 _ _ (by omega) (by omega) (by omega))) (fun k => (fr4 _ _ (by omega)).trans (fr2 _ _ (by omega) (by omega) (by omega))), k2⟩
    · by_cases e : b = n
      · subst e
        rw [sUpd_s]
        have rd : ∀ q k, q ≠ 142 → q ≠ 150 → N4.1 q k = N3.1 q k := fun q k x y => al_f2_e f4 (by omega)
        refine ⟨(rd _ _ (by decide) (by decide)).trans ?_, (rd _ _ (by decide) (by decide)).trans ?_, (rd _ _ (by decide) (by decide)).trans ?_, (rd _ _ (by decide) (by decide)).trans ?_, (rd _ _ (by decide) (by decide)).trans ?_, (rd _ _ (by decide) (by decide)).trans ?_, (rd _ _ (by decide) (by decide)).trans ?_, fun j hj => ?_⟩
        · rw [hN3]
          simp (disch := (first | decide | omega)) only [av_w_o, av_w_s]
          rfl
        · rw [hN3]
          simp (disch := (first | decide | omega)) only [av_w_o, av_w_s]
          rfl
        · rw [hN3]
          simp (disch := (first | decide | omega)) only [av_w_o, av_w_s]
          rfl
        · rw [hN3]
          simp (disch := (first | decide | omega)) only [av_w_o, av_w_s]
          rfl
        · rw [hN3]
          simp (disch := (first | decide | omega)) only [av_w_o, av_w_s]
          rfl
        · rw [hN3]
          simp (disch := (first | decide | omega)) only [av_w_o, av_w_s]
          rfl
        · rw [hN3]
          simp (disch := (first | decide | omega)) only [av_w_o, av_w_s]
          rfl
        · rw [z1 j hj]
          unfold sNew
          rw [if_neg (by omega), if_neg (by omega), if_neg (by omega), if_neg (by omega), if_neg (by omega), if_neg (by omega), if_neg (by omega), if_neg (by omega)]
      · rw [sUpd_n _ _ e]
        obtain ⟨x1, x2, x3, x4, x5, x6, x7, x8⟩ := q3.2.2 b (by omega)
        exact ⟨((fr4 _ _ (by omega)).trans (fr2 _ _ (by omega) (by omega) (by omega))).trans x1, ((fr4 _ _ (by omega)).trans (fr2 _ _ (by omega) (by omega) (by omega))).trans x2, ((fr4 _ _ (by omega)).trans (fr2 _ _ (by omega) (by omega) (by omega))).trans x3, ((fr4 _ _ (by omega)).trans (fr2 _ _ (by omega) (by omega) (by omega))).trans x4, ((fr4 _ _ (by omega)).trans (fr2 _ _ (by omega) (by omega) (by omega))).trans x5, ((fr4 _ _ (by omega)).trans (fr2 _ _ (by omega) (by omega) (by omega))).trans x6, ((fr4 _ _ (by omega)).trans (fr2 _ _ (by omega) (by omega) (by omega))).trans x7, fun j hj => ((fr4 _ _ (by omega)).trans (fr2 _ _ (by omega) (by omega) (by omega))).trans (x8 j hj)⟩
    · rw [al_f2_e f4 (by omega), hN3, av_w_s]
      congr 1
      show sGone B n = sBits (fun b => sUpd B n (sNew n c v l t f g) b 9 == 1) n ||| (if sUpd B n (sNew n c v l t f g) n 9 == 1 then 2 ^ n else 0)
      rw [sUpd_s, if_neg (show ¬ (sNew n c v l t f g 9 == 1) = true from by show ¬ ((0 : Nat) == 1) = true; decide), Nat.or_zero]
      exact (sGone_cg (fun b hb => by rw [sUpd_n _ _ (by omega)])).symm
  have hf4 : al_f2 (fun q k => uB q k ∨ uZ q k) N N4 := by
    refine al_f2_tr hfN2 (al_f2_tr (N' := N3) ?_ (al_f2_mono f4 (fun q k z => by unfold uB; omega)))
    rw [hN3]
    exact al_f2_tr (al_f2_w _ (by unfold uB; omega) _) (al_f2_tr (al_f2_w _ (by unfold uB; omega) _) (al_f2_tr (al_f2_w _ (by unfold uB; omega) _) (al_f2_tr (al_f2_w _ (by unfold uB; omega) _) (al_f2_tr (al_f2_w _ (by unfold uB; omega) _) (al_f2_tr (al_f2_w _ (by unfold uB; omega) _) (al_f2_tr (al_f2_w _ (by unfold uB; omega) _) (al_f2_w _ (by unfold uB; omega) _)))))))
  exact ⟨.int (nI n), N2, N4, hcC, hcM, ⟨n + 1, day, _, e, k, T, RA_B h hf4 hB' (Nat.le_succ n) he⟩, fun i => fr2 _ _ (by omega) (by omega) (by omega)⟩
theorem cl_pass (L : av_W) (d : Nat) {N : av_N} (hR : RR N) (x : Int32) : al_call L (d + 20) N 59 [.ref 9, .int x] 170 [.ref 142, .int x] := by
  have hR' := hR
  obtain ⟨n, day, B, e, k, T, h⟩ := hR
  have h0 := h
  obtain ⟨hB, hE, he, hI, hF, hS, hL, hK, hT, hX, hO⟩ := h0
  have hm := RA_mv hB hE he
  have hs := hB.1
  have hn := hs.1
  have hce := al_ce_of hB hE he
  have hD := hB.2.2.2.2.2
  cases hx : av_wi x (nI 0) (nI 60)
  · refine call_no hR' (.int (av_k (-2))) ?_ ?_
    · apply eq_X6_pass (d := d + 19)
      simp only [av_kP]
      rw [sp_within, av_bi_s, hx, av_if_f]
    · apply eq_X7_pass (d := d + 19)
      rw [sp_isDays, av_bi_s, hx, av_if_fk]
  obtain ⟨m, hm60, rfl⟩ := av_wiD (by decide) hx
  by_cases hbig : 9999 < day + m
  · refine call_no hR' (.int (av_k (-3))) ?_ ?_
    · apply eq_X6_pass (d := d + 19)
      simp only [av_kP]
      rw [sp_within, av_bi_s, hx, av_if_t, hs.2.2.1, nI_add, if_pos (nI_lt hbig (by omega))]
    · apply eq_X7_pass (d := d + 19)
      simp only [av_kP]
      rw [sp_isDays, av_bi_s, hx, av_if_t, hm.2.1.2.1, nI_add, if_pos (nI_lt hbig (by omega))]
  have sCk : ∀ b, b < n → al_ok (sGoN B (sTxt T e) day m b) := fun b hb => sGoN_ok hs hb m
  have keyC := lp_0 (P := fun k => ∀ M, al_f2 (fun q k => 27 ≤ q ∧ q ≤ 40) N M → (∀ b, b < n → al_bd M (27 + 2 * b) (if b < k then sGoN B (sTxt T e) day m b else B b)) → ∃ N1, av_V (av_S0 L) (d + 20) ta_X6_pass 21 [.ref 9, .int (nI m), .ref (116 + 2 * e), .int (nI k)] [] M = some (some (.int (nI (day + m))), N1) ∧ N1.1 10 2 = nI (day + m) ∧ (∀ b, b < n → al_bd N1 (27 + 2 * b) (sGoN B (sTxt T e) day m b)) ∧ al_f2 (fun q k => (27 ≤ q ∧ q ≤ 40) ∨ (q = 10 ∧ k = 2)) N N1) n (fun M hM hb => by
    have e2 : M.1 10 2 = nI day := (al_f2_e hM (by omega)).trans hs.2.2.1
    refine ⟨av_w M 10 2 (nI (day + m)), ?_, av_w_s _ _ _ _, fun b hbn => ?_, al_f2_tr (al_f2_mono hM (fun q k z => Or.inl z)) (al_f2_w M (Or.inr ⟨rfl, rfl⟩) _)⟩
    · apply eq_X6_pass_21_a (d := d + 19)
      rw [show M.1 10 1 = nI n from (al_f2_e hM (by omega)).trans hs.2.1, if_neg (nI_nlt (Nat.le_refl _) (by omega)), e2, nI_add, av_w_s]
    · have := hb b hbn
      rw [if_pos hbn] at this
      exact al_bd_on this (fun k => av_w_o _ _ _ _ _ (by omega)) (fun k => av_w_o _ _ _ _ _ (by omega))) (fun k hk ih M hM hb => by
    have hbp : al_bp (27 + 2 * k) := al_bp27 (by omega)
    obtain ⟨s1, s2, s3, s4⟩ := al_bpE hbp L
    have hbk : al_bd M (27 + 2 * k) (B k) := by
      have := hb k hk
      rw [if_neg (Nat.lt_irrefl k)] at this
      exact this
    have hes : al_es M (116 + 2 * e) (sFl (sTxt T e)) (sGain (sTxt T e)) (sTop (sTxt T e)) := al_es_on hce.2.2.1 (fun k => al_f2_e hM (by omega)) (fun k => al_f2_e hM (by omega))
    obtain ⟨M2, c2, b2, f2⟩ := sp_live L (d + 14) (day := day) (n := m) (al_ep_e hce.1) hes hbp hbk (hs.2.2.2.1 k hk).2.1 (by omega) hce.2.2.2.1 hce.2.2.2.2
    obtain ⟨N1, c3, r3⟩ := ih M2 (al_f2_tr hM (al_f2_of f2 (fun q k z => by omega))) (fun b hbn => by
      by_cases e : b = k
      · subst e
        rw [if_pos (Nat.lt_succ_self b)]
        exact b2
      · have := al_bd_fr (hb b hbn) f2 (by omega) (by omega)
        by_cases e2 : b < k
        · rw [if_pos e2] at this
          rw [if_pos (by omega)]
          exact this
        · rw [if_neg e2] at this
          rw [if_neg (by omega)]
          exact this)
    refine ⟨N1, ?_, r3⟩
    apply eq_X6_pass_21_a (d := d + 19)
    rw [show M.1 10 1 = nI n from (al_f2_e hM (by omega)).trans hs.2.1, if_pos (nI_lt hk (by omega)), av_gx_s (by omega) (by omega), nI_clamp (by omega), al_R11 k (by omega), av_bd_s, s1, av_tg_s, show M.1 10 2 = nI day from (al_f2_e hM (by omega)).trans hs.2.2.1, c2, av_bv_s, av_kP, nI_add]
    exact c3)
  obtain ⟨N1, c1, d1, b1, f1⟩ := keyC N (al_f2_rf _ _) (fun b hb => by
    rw [if_neg (Nat.not_lt_zero _)]
    exact (hs.2.2.2.1 b hb).1)
  have hm1 : al_mv N1 n day B (sTxt T e) := al_mv_fr hm (fun q k a b c => al_f2_e f1 (by omega))
  obtain ⟨N2, c2, hm2, f2⟩ := sp_goDays L (d + 12) (m := m) hm1 (by omega)
  have fr : ∀ q k, ¬ al_dG q k → N2.1 q k = N1.1 q k := fun q k hq => al_f2_e f2 hq
  unfold al_dG at fr
  refine ⟨.int (nI (day + m)), N1, N2, ?_, ?_, ⟨n, day + m, sGoN B (sTxt T e) day m, e, k, T, RA_B h (al_f2_tr (al_f2_mono f1 (fun q k z => by unfold uB; omega)) (al_f2_mono f2 (fun q k z => by unfold al_dG at z; unfold uB uZ; omega))) ⟨⟨hn, (fr _ _ (by omega)).trans ((al_f2_e f1 (by omega)).trans hs.2.1), (fr _ _ (by omega)).trans d1, fun b hb => ⟨al_bd_on (b1 b hb) (fun k => fr _ _ (by omega)) (fun k => fr _ _ (by omega)), (hm2.2.2.2.2.1 b hb)⟩, by omega⟩, (fr _ _ (by omega)).trans ((al_f2_e f1 (by omega)).trans hB.2.1), hm2.2.1, hm2.2.2.1, (fr _ _ (by omega)).trans ((al_f2_e f1 (by omega)).trans hB.2.2.2.2.1), by omega⟩ (Nat.le_refl _) he⟩, fun i => al_f2_e f1 (by omega)⟩
  · apply eq_X6_pass (d := d + 19)
    simp only [av_kP]
    rw [sp_within, av_bi_s, hx, av_if_t, hs.2.2.1, nI_add, if_neg (nI_nlt (by omega) (by omega)), sp_estuaryNow L _ hce, av_br_s]
    exact c1
  · apply eq_X7_pass (d := d + 19)
    simp only [av_kP]
    rw [sp_isDays, av_bi_s, hx, av_if_t, hm1.2.1.2.1, nI_add, if_neg (nI_nlt (by omega) (by omega)), c2, av_bv_s, hm2.2.1.2.1]
