/-! feed, see, lease, book, taken, count, trace -/
theorem sp_put_12 (L : av_W) (d : Nat) {N : av_N} {s : Nat} {x1 x2 x3 x4 : Int32} (h : N.1 12 4 = nI s) (hs : s ≤ 5) : av_C (av_S0 L) d 36 [.ref 12, .int x1, .int x2, .int x3, .int x4] N = some (if s < 5 then (some (.int (av_b true)), av_w (av_w (av_w (av_w (av_w N 13 s x1) 14 s x2) 15 s x3) 16 s x4) 12 4 (nI (s + 1))) else (some (.int (av_b false)), N)) := by
  apply eq_X3_put_12
  rw [h, show Int32.ofNat 5 = nI 5 from rfl]
  by_cases hc : s < 5
  · rw [if_pos (nI_lt hc (by decide)), if_pos hc]
    simp (disch := (first | decide | omega)) only [av_gx_s, nI_clamp, av_w_o, h, av_kP, nI_add, av_bt_1]
    rfl
  · rw [if_neg (nI_nlt (by omega) (by omega)), if_neg hc, av_kP, av_bt_0]
    rfl
theorem sp_put_17 (L : av_W) (d : Nat) {N : av_N} {s : Nat} {x1 x2 x3 x4 : Int32} (h : N.1 17 4 = nI s) (hs : s ≤ 6) : av_C (av_S0 L) d 36 [.ref 17, .int x1, .int x2, .int x3, .int x4] N = some (if s < 6 then (some (.int (av_b true)), av_w (av_w (av_w (av_w (av_w N 18 s x1) 19 s x2) 20 s x3) 21 s x4) 17 4 (nI (s + 1))) else (some (.int (av_b false)), N)) := by
  apply eq_X3_put_17
  rw [h, show Int32.ofNat 6 = nI 6 from rfl]
  by_cases hc : s < 6
  · rw [if_pos (nI_lt hc (by decide)), if_pos hc]
    simp (disch := (first | decide | omega)) only [av_gx_s, nI_clamp, av_w_o, h, av_kP, nI_add, av_bt_1]
    rfl
  · rw [if_neg (nI_nlt (by omega) (by omega)), if_neg hc, av_kP, av_bt_0]
    rfl
theorem sp_put_22 (L : av_W) (d : Nat) {N : av_N} {s : Nat} {x1 x2 x3 x4 : Int32} (h : N.1 22 4 = nI s) (hs : s ≤ 8) : av_C (av_S0 L) d 36 [.ref 22, .int x1, .int x2, .int x3, .int x4] N = some (if s < 8 then (some (.int (av_b true)), av_w (av_w (av_w (av_w (av_w N 23 s x1) 24 s x2) 25 s x3) 26 s x4) 22 4 (nI (s + 1))) else (some (.int (av_b false)), N)) := by
  apply eq_X3_put_22
  rw [h, show Int32.ofNat 8 = nI 8 from rfl]
  by_cases hc : s < 8
  · rw [if_pos (nI_lt hc (by decide)), if_pos hc]
    simp (disch := (first | decide | omega)) only [av_gx_s, nI_clamp, av_w_o, h, av_kP, nI_add, av_bt_1]
    rfl
  · rw [if_neg (nI_nlt (by omega) (by omega)), if_neg hc, av_kP, av_bt_0]
    rfl
theorem al_rows_put {N N' : av_N} {P s w : Nat} {X : Nat → Nat → Nat} {v : Nat → Nat} (h : al_rows N P s w X) (h4 : N'.1 P 4 = nI (s + 1)) (hv : ∀ j, j < w → N'.1 (P + 1 + j) s = nI (v j)) (ho : ∀ r j, r < s → j < w → N'.1 (P + 1 + j) r = N.1 (P + 1 + j) r) : al_rows N' P (s + 1) w (sUpd X s v) := by
  refine ⟨h4, fun r hr j hj => ?_⟩
  by_cases e : r = s
  · subst e
    rw [sUpd_s]
    exact hv j hj
  · rw [sUpd_n _ _ e, ho r j (by omega) hj]
    exact h.2 r (by omega) j hj
theorem nar_by : ∀ m, m < 128 → am_nar 102 ((nI m).toInt8.toInt32) = nI m := by decide +kernel
theorem cl_feed (L : av_W) (d : Nat) {N : av_N} (hR : RR N) (x : Int32) : al_call L (d + 20) N 52 [.ref 9, .int x] 126 [.ref 142, .int x] := by
  have hR' := hR
  obtain ⟨n, day, B, e, k, T, h⟩ := hR
  have h0 := h
  obtain ⟨hB, hE, he, hI, hF, hS, hL, hK, hT, hX, hO⟩ := h0
  obtain ⟨f, F, f1, f2, f3, f4⟩ := hF
  cases hx : av_wi x (nI 0) (nI 127)
  · refine call_no hR' (.int (av_k (-2))) ?_ ?_
    · apply eq_X6_feed (d := d + 19)
      simp only [av_kP]
      rw [sp_within, av_bi_s, hx, av_if_f]
    · apply eq_X7_feed (d := d + 19)
      simp only [av_kP]
      rw [sp_in, av_bi_s, hx, av_if_f]
  obtain ⟨m, hm, rfl⟩ := av_wiD (by decide) hx
  by_cases hf : f = 100
  · refine call_no hR' (.int (av_k (-4))) ?_ ?_
    · have c : av_C (av_S0 L) (d + 19) 21 [.ref 72, .int (nI m)] N = some (some (.int (av_b false)), N) := by
        apply eq_X2_put
        rw [f2, show Int32.ofNat 100 = nI 100 from rfl, if_neg (nI_nlt (by omega) (by omega)), av_kP, av_bt_0]
        rfl
      apply eq_X6_feed (d := d + 19)
      simp only [av_kP]
      rw [sp_within, av_bi_s, hx, av_if_t, c, av_bi_s, av_if_f]
    · apply eq_X7_feed (d := d + 19)
      simp only [av_kP]
      rw [sp_in, av_bi_s, hx, av_if_t, f3, if_pos (congrArg nI hf)]
  · have hf' : f < 100 := by omega
    refine ⟨.int (nI (f + 1)), av_w (av_w N 73 f (nI m)) 72 1 (nI (f + 1)), av_w (av_w (av_w (av_w N 73 f (nI m)) 72 1 (nI (f + 1))) 151 f (nI m)) 142 13 (nI (f + 1)), ?_, ?_, ⟨n, day, B, e, k, T, RA_F h (al_f2_tr (al_f2_w N (by unfold uF; omega) _) (al_f2_tr (al_f2_w _ (by unfold uF; omega) _) (al_f2_tr (al_f2_w _ (by unfold uF; omega) _) (al_f2_w _ (by unfold uF; omega) _)))) ⟨f + 1, fun j => if j = f then m else F j, hf', ?_, ?_, fun j hj => ?_⟩⟩, fun i => ?_⟩
    · have c : av_C (av_S0 L) (d + 19) 21 [.ref 72, .int (nI m)] N = some (some (.int (av_b true)), av_w (av_w N 73 f (nI m)) 72 1 (nI (f + 1))) := by
        apply eq_X2_put
        rw [f2, show Int32.ofNat 100 = nI 100 from rfl, if_pos (nI_lt hf' (by decide)), nar_by m (by omega)]
        simp (disch := (first | decide | omega)) only [av_gx_s, nI_clamp, av_w_o, f2, av_kP, nI_add, av_bt_1]
        rfl
      apply eq_X6_feed (d := d + 19)
      simp only [av_kP]
      rw [sp_within, av_bi_s, hx, av_if_t, c, av_bi_s, av_if_t, av_w_s]
    · have e13 : (av_w (av_w N 73 f (nI m)) 72 1 (nI (f + 1))).1 142 13 = nI f := by
        simp (disch := (first | decide | omega)) only [av_w_o]
        exact f3
      apply eq_X7_feed (d := d + 19)
      simp only [av_kP]
      rw [sp_in, av_bi_s, hx, av_if_t, e13, if_neg (nI_ne (by omega) (by decide) hf)]
      simp (disch := (first | decide | omega)) only [av_gx_s, nI_clamp, av_w_o, av_w_s, f3, nI_add]
    · simp (disch := (first | decide | omega)) only [av_w_o, av_w_s]
    · simp (disch := (first | decide | omega)) only [av_w_o, av_w_s]
    · by_cases e : j = f
      · subst e
        simp (disch := (first | decide | omega)) only [av_w_o, av_w_s, if_pos]
        exact ⟨trivial, trivial, by omega⟩
      · obtain ⟨a1, a2, a3⟩ := f4 j (by omega)
        simp (disch := (first | decide | omega)) only [av_w_o, av_w_k, if_neg e]
        exact ⟨a1, a2, a3⟩
    · simp (disch := (first | decide | omega)) only [av_w_o]
theorem cl_see (L : av_W) (d : Nat) {N : av_N} (hR : RR N) (x y : Int32) {z : Nat} (hz : z ≤ 1) (w : Int32) : al_call L (d + 20) N 68 [.ref 9, .int x, .int y, .int (nI z), .int w] 185 [.ref 142, .int x, .int y, .int (nI z), .int w] := by
  have hR' := hR
  obtain ⟨n, day, B, e, k, T, h⟩ := hR
  have h0 := h
  obtain ⟨hB, hE, he, hI, hF, hS, hL, hK, hT, hX, hO⟩ := h0
  obtain ⟨s, S, s5, hr, g1, g2, g3⟩ := hS
  by_cases hm1 : x = av_k (-1)
  · refine ⟨.int (nI 0), av_w N 12 4 (nI 0), av_w (av_w N 12 4 (nI 0)) 142 36 (nI 0), ?_, ?_, ⟨n, day, B, e, k, T, RA_S h (al_f2_tr (al_f2_w N (by unfold uS; omega) _) (al_f2_w _ (by unfold uS; omega) _)) ⟨0, S, Nat.zero_le _, ⟨?_, fun r hr => absurd hr (Nat.not_lt_zero _)⟩, av_w_s _ _ _ _, fun r hr => absurd hr (Nat.not_lt_zero _), fun r hr => absurd hr (Nat.not_lt_zero _)⟩⟩, fun i => av_w_o _ _ _ _ _ (by decide)⟩
    · apply eq_X6_see (d := d + 19)
      rw [if_pos hm1, av_kP]
    · apply eq_X7_see (d := d + 19)
      rw [if_pos hm1, av_kP]
    · rw [av_w_o _ _ _ _ _ (by decide), av_w_s]
  have bad28 : av_V (av_S0 L) (d + 20) ta_X6_see 28 [.ref 9, .int x, .int y, .int (nI z), .int w, am_junk] [.int (nI 0)] N = some (some (.int (av_k (-2))), N) := by
    apply eq_X6_see_28 (d := d + 19)
    rw [av_kP, if_pos rfl]
  cases y0 : av_wi x (nI 0) (nI 9)
  · refine call_no hR' (.int (av_k (-2))) ?_ ?_
    · apply eq_X6_see (d := d + 19)
      simp only [av_kP]
      rw [if_neg hm1, sp_within, av_bi_s, y0, av_if_f]
      exact bad28
    · apply eq_X7_see (d := d + 19)
      simp only [av_kP]
      rw [if_neg hm1, sp_isLow, av_bi_s, y0, av_if_f]
  cases y1 : av_wi y (nI 0) (nI 23)
  · refine call_no hR' (.int (av_k (-2))) ?_ ?_
    · apply eq_X6_see (d := d + 19)
      simp only [av_kP]
      rw [if_neg hm1, sp_within, av_bi_s, y0, av_if_t, sp_within, av_bi_s, y1, av_if_f]
      exact bad28
    · apply eq_X7_see (d := d + 19)
      simp only [av_kP]
      rw [if_neg hm1, sp_isLow, av_bi_s, y0, av_if_t, sp_isHour, av_bi_s, y1, av_if_f]
  cases y2 : av_wi w (nI 0) (nI 20)
  · refine call_no hR' (.int (av_k (-2))) ?_ ?_
    · apply eq_X6_see (d := d + 19)
      simp only [av_kP]
      rw [if_neg hm1, sp_within, av_bi_s, y0, av_if_t, sp_within, av_bi_s, y1, av_if_t, sp_within, av_bi_s, y2, av_if_f]
      exact bad28
    · apply eq_X7_see (d := d + 19)
      simp only [av_kP]
      rw [if_neg hm1, sp_isLow, av_bi_s, y0, av_if_t, sp_isHour, av_bi_s, y1, av_if_t, sp_in, av_bi_s, y2, av_if_f]
  obtain ⟨a, ha, rfl⟩ := av_wiD (by decide) y0
  obtain ⟨b, hb, rfl⟩ := av_wiD (by decide) y1
  obtain ⟨c, hc, rfl⟩ := av_wiD (by decide) y2
  have pre : ∀ q, av_V (av_S0 L) (d + 20) ta_X6_see 28 [.ref 9, .int (nI a), .int (nI b), .int (nI z), .int (nI c), am_junk] [.int (nI 1)] N = some q → av_C (av_S0 L) (d + 20) 68 [.ref 9, .int (nI a), .int (nI b), .int (nI z), .int (nI c)] N = some q := fun q hq => by
    apply eq_X6_see (d := d + 19)
    simp only [av_kP]
    rw [if_neg hm1, sp_within, av_bi_s, y0, av_if_t, sp_within, av_bi_s, y1, av_if_t, sp_within, av_bi_s, y2, av_if_t]
    exact hq
  by_cases hs5 : s = 5
  · refine call_no hR' (.int (av_k (-4))) (pre _ ?_) ?_
    · apply eq_X6_see_28 (d := d + 19)
      simp only [av_kP]
      rw [if_neg (by decide), sp_put_12 L _ hr.1 s5, sp_put_12 L _ hr.1 s5]
      simp only [if_neg (show ¬ s < 5 by omega), av_bi_s, av_if_f]
      split <;> rfl
    · apply eq_X7_see (d := d + 19)
      simp only [av_kP]
      rw [if_neg hm1, sp_isLow, av_bi_s, y0, av_if_t, sp_isHour, av_bi_s, y1, av_if_t, sp_in, av_bi_s, y2, av_if_t, g1, if_pos (congrArg nI hs5)]
  · have hs5' : s < 5 := by omega
    refine ⟨.int (nI (s + 1)), av_w (av_w (av_w (av_w (av_w N 13 s (nI a)) 14 s (nI b)) 15 s (nI z)) 16 s (nI c)) 12 4 (nI (s + 1)), av_w (av_w (av_w (av_w (av_w (av_w (av_w (av_w (av_w (av_w N 13 s (nI a)) 14 s (nI b)) 15 s (nI z)) 16 s (nI c)) 12 4 (nI (s + 1))) 166 s (nI a)) 167 s (nI b)) 169 s (nI z)) 168 s (nI c)) 142 36 (nI (s + 1)), pre _ ?_, ?_, ⟨n, day, B, e, k, T, RA_S h ?_ ⟨s + 1, sUpd S s (fun j => if j = 0 then a else if j = 1 then b else if j = 2 then z else c), hs5', al_rows_put hr ?_ (fun j hj => ?_) (fun r j hr hj => ?_), ?_, fun r hr => ?_, fun r hr => ?_⟩⟩, fun i => ?_⟩
    · apply eq_X6_see_28 (d := d + 19)
      simp only [av_kP]
      rw [if_neg (by decide), sp_put_12 L _ hr.1 s5, sp_put_12 L _ hr.1 s5]
      simp only [if_pos hs5', av_bi_s, av_if_t]
      rcases (by omega : z = 0 ∨ z = 1) with rfl | rfl
      · rw [if_pos rfl, av_w_s]
      · rw [if_neg (by decide), av_w_s]
    · have e36 : (av_w (av_w (av_w (av_w (av_w N 13 s (nI a)) 14 s (nI b)) 15 s (nI z)) 16 s (nI c)) 12 4 (nI (s + 1))).1 142 36 = nI s := by
        simp (disch := (first | decide | omega)) only [av_w_o]
        exact g1
      have hnz : am_nar 103 (nI z) = nI z := by rcases (by omega : z = 0 ∨ z = 1) with rfl | rfl <;> decide
      apply eq_X7_see (d := d + 19)
      simp only [av_kP]
      rw [if_neg hm1, sp_isLow, av_bi_s, y0, av_if_t, sp_isHour, av_bi_s, y1, av_if_t, sp_in, av_bi_s, y2, av_if_t, e36, if_neg (nI_ne (by omega) (by decide) hs5), hnz]
      simp (disch := (first | decide | omega)) only [av_gx_s, nI_clamp, av_w_o, av_w_s, g1, nI_add]
    · exact al_f2_tr (al_f2_w _ (by unfold uS; omega) _) (al_f2_tr (al_f2_w _ (by unfold uS; omega) _) (al_f2_tr (al_f2_w _ (by unfold uS; omega) _) (al_f2_tr (al_f2_w _ (by unfold uS; omega) _) (al_f2_tr (al_f2_w _ (by unfold uS; omega) _) (al_f2_tr (al_f2_w _ (by unfold uS; omega) _) (al_f2_tr (al_f2_w _ (by unfold uS; omega) _) (al_f2_tr (al_f2_w _ (by unfold uS; omega) _) (al_f2_tr (al_f2_w _ (by unfold uS; omega) _) (al_f2_w _ (by unfold uS; omega) _)))))))))
    · simp (disch := (first | decide | omega)) only [av_w_o, av_w_s]
    · rcases (by omega : j = 0 ∨ j = 1 ∨ j = 2 ∨ j = 3) with rfl | rfl | rfl | rfl <;> simp (disch := (first | decide | omega)) only [av_w_o, av_w_s] <;> rfl
    · rcases (by omega : j = 0 ∨ j = 1 ∨ j = 2 ∨ j = 3) with rfl | rfl | rfl | rfl <;> simp (disch := (first | decide | omega)) only [av_w_o, av_w_k]
    · simp (disch := (first | decide | omega)) only [av_w_o, av_w_s]
    · by_cases e : r = s
      · subst e
        rw [sUpd_s]
        simp (disch := (first | decide | omega)) only [av_w_o, av_w_s]
        exact ⟨rfl, rfl, rfl, rfl⟩
      · obtain ⟨a1, a2, a3, a4⟩ := g2 r (by omega)
        rw [sUpd_n _ _ e]
        simp (disch := (first | decide | omega)) only [av_w_o, av_w_k]
        exact ⟨a1, a2, a3, a4⟩
    · by_cases e : r = s
      · subst e
        rw [sUpd_s]
        exact ⟨ha, Nat.lt_succ_of_le hb, hz, hc⟩
      · rw [sUpd_n _ _ e]
        exact g3 r (by omega)
    · simp (disch := (first | decide | omega)) only [av_w_o]
theorem cl_lease (L : av_W) (d : Nat) {N : av_N} (hR : RR N) (x y w : Int32) : al_call L (d + 20) N 72 [.ref 9, .int x, .int y, .int w] 192 [.ref 142, .int x, .int y, .int w] := by
  have hR' := hR
  obtain ⟨n, day, B, e, k, T, h⟩ := hR
  have h0 := h
  obtain ⟨hB, hE, he, hI, hF, hS, hL, hK, hT, hX, hO⟩ := h0
  have hm := RA_mv hB hE he
  have hs := hB.1
  have hn := hs.1
  obtain ⟨s, S, s5, hr, g1, g2, g3⟩ := hL
  by_cases hm1 : x = av_k (-1)
  · refine ⟨.int (nI 0), av_w N 17 4 (nI 0), av_w (av_w N 17 4 (nI 0)) 142 41 (nI 0), ?_, ?_, ⟨n, day, B, e, k, T, RA_L h (al_f2_tr (al_f2_w N (by unfold uL; omega) _) (al_f2_w _ (by unfold uL; omega) _)) ⟨0, S, Nat.zero_le _, ⟨?_, fun r hr => absurd hr (Nat.not_lt_zero _)⟩, av_w_s _ _ _ _, fun r hr => absurd hr (Nat.not_lt_zero _), fun r hr => absurd hr (Nat.not_lt_zero _)⟩⟩, fun i => av_w_o _ _ _ _ _ (by decide)⟩
    · apply eq_X6_lease (d := d + 19)
      rw [if_pos hm1, av_kP]
    · apply eq_X7_lease (d := d + 19)
      rw [if_pos hm1, av_kP]
    · rw [av_w_o _ _ _ _ _ (by decide), av_w_s]
  cases hx : av_lt x n
  · refine call_no hR' (.int (av_k (-1))) ?_ ?_
    · apply eq_X6_lease (d := d + 19)
      rw [if_neg hm1, sp_birdAt_no L _ hs.2.1 hx, av_br_n]
    · apply eq_X7_lease (d := d + 19)
      rw [if_neg hm1, sp_isBird L _ x hm.2.1.1 (by omega), av_bi_s, hx, av_if_fk]
  obtain ⟨b, hb, rfl⟩ := (av_ltE (by omega)).mp hx
  cases y1 : av_wi y (nI 0) (nI 9)
  · refine call_no hR' (.int (av_k (-2))) ?_ ?_
    · apply eq_X6_lease (d := d + 19)
      simp only [av_kP]
      rw [if_neg hm1, sp_birdAt L _ hs.2.1 hn hb, av_br_s, sp_within, av_bi_s, y1, av_if_f]
    · apply eq_X7_lease (d := d + 19)
      simp only [av_kP]
      rw [if_neg hm1, sp_isBird L _ _ hm.2.1.1 (by omega), av_bi_s, hx, av_if_t, sp_isLow, av_bi_s, y1, av_if_f]
  cases y2 : av_wi w (nI 0) (nI 23)
  · refine call_no hR' (.int (av_k (-2))) ?_ ?_
    · apply eq_X6_lease (d := d + 19)
      simp only [av_kP]
      rw [if_neg hm1, sp_birdAt L _ hs.2.1 hn hb, av_br_s, sp_within, av_bi_s, y1, av_if_t, sp_within, av_bi_s, y2, av_if_f]
    · apply eq_X7_lease (d := d + 19)
      simp only [av_kP]
      rw [if_neg hm1, sp_isBird L _ _ hm.2.1.1 (by omega), av_bi_s, hx, av_if_t, sp_isLow, av_bi_s, y1, av_if_t, sp_isHour, av_bi_s, y2, av_if_f]
  obtain ⟨a, ha, rfl⟩ := av_wiD (by decide) y1
  obtain ⟨c, hc, rfl⟩ := av_wiD (by decide) y2
  by_cases hs5 : s = 6
  · refine call_no hR' (.int (av_k (-4))) ?_ ?_
    · apply eq_X6_lease (d := d + 19)
      simp only [av_kP]
      rw [if_neg hm1, sp_birdAt L _ hs.2.1 hn hb, av_br_s, sp_within, av_bi_s, y1, av_if_t, sp_within, av_bi_s, y2, av_if_t, sp_put_17 L _ hr.1 s5, if_neg (show ¬ s < 6 by omega), av_bi_s, av_if_f]
    · apply eq_X7_lease (d := d + 19)
      simp only [av_kP]
      rw [if_neg hm1, sp_isBird L _ _ hm.2.1.1 (by omega), av_bi_s, hx, av_if_t, sp_isLow, av_bi_s, y1, av_if_t, sp_isHour, av_bi_s, y2, av_if_t, g1, if_pos (congrArg nI hs5)]
  · have hs5' : s < 6 := by omega
    refine ⟨.int (nI (s + 1)), av_w (av_w (av_w (av_w (av_w N 18 s (nI b)) 19 s (nI a)) 20 s (nI c)) 21 s (nI 0)) 17 4 (nI (s + 1)), av_w (av_w (av_w (av_w (av_w (av_w (av_w (av_w (av_w N 18 s (nI b)) 19 s (nI a)) 20 s (nI c)) 21 s (nI 0)) 17 4 (nI (s + 1))) 170 s (nI b)) 171 s (nI a)) 172 s (nI c)) 142 41 (nI (s + 1)), ?_, ?_, ⟨n, day, B, e, k, T, RA_L h ?_ ⟨s + 1, sUpd S s (fun j => if j = 0 then b else if j = 1 then a else c), hs5', al_rows_put hr ?_ (fun j hj => ?_) (fun r j hr hj => ?_), ?_, fun r hr => ?_, fun r hr => ?_⟩⟩, fun i => ?_⟩
    · apply eq_X6_lease (d := d + 19)
      simp only [av_kP]
      rw [if_neg hm1, sp_birdAt L _ hs.2.1 hn hb, av_br_s, sp_within, av_bi_s, y1, av_if_t, sp_within, av_bi_s, y2, av_if_t, sp_put_17 L _ hr.1 s5, if_pos hs5', av_bi_s, av_if_t, av_w_s]
    · have e36 : (av_w (av_w (av_w (av_w (av_w N 18 s (nI b)) 19 s (nI a)) 20 s (nI c)) 21 s (nI 0)) 17 4 (nI (s + 1))).1 142 41 = nI s := by
        simp (disch := (first | decide | omega)) only [av_w_o]
        exact g1
      have e0 : (av_w (av_w (av_w (av_w (av_w N 18 s (nI b)) 19 s (nI a)) 20 s (nI c)) 21 s (nI 0)) 17 4 (nI (s + 1))).1 142 0 = nI n := by
        simp (disch := (first | decide | omega)) only [av_w_o]
        exact hm.2.1.1
      apply eq_X7_lease (d := d + 19)
      simp only [av_kP]
      rw [if_neg hm1, sp_isBird L _ _ e0 (by omega), av_bi_s, hx, av_if_t, sp_isLow, av_bi_s, y1, av_if_t, sp_isHour, av_bi_s, y2, av_if_t, e36, if_neg (nI_ne (by omega) (by decide) hs5)]
      simp (disch := (first | decide | omega)) only [av_gx_s, nI_clamp, av_w_o, av_w_s, g1, nI_add]
    · exact al_f2_tr (al_f2_w _ (by unfold uL; omega) _) (al_f2_tr (al_f2_w _ (by unfold uL; omega) _) (al_f2_tr (al_f2_w _ (by unfold uL; omega) _) (al_f2_tr (al_f2_w _ (by unfold uL; omega) _) (al_f2_tr (al_f2_w _ (by unfold uL; omega) _) (al_f2_tr (al_f2_w _ (by unfold uL; omega) _) (al_f2_tr (al_f2_w _ (by unfold uL; omega) _) (al_f2_tr (al_f2_w _ (by unfold uL; omega) _) (al_f2_w _ (by unfold uL; omega) _))))))))
    · simp (disch := (first | decide | omega)) only [av_w_o, av_w_s]
    · rcases (by omega : j = 0 ∨ j = 1 ∨ j = 2) with rfl | rfl | rfl <;> simp (disch := (first | decide | omega)) only [av_w_o, av_w_s] <;> rfl
    · rcases (by omega : j = 0 ∨ j = 1 ∨ j = 2) with rfl | rfl | rfl <;> simp (disch := (first | decide | omega)) only [av_w_o, av_w_k]
    · simp (disch := (first | decide | omega)) only [av_w_o, av_w_s]
    · by_cases e : r = s
      · subst e
        rw [sUpd_s]
        simp (disch := (first | decide | omega)) only [av_w_o, av_w_s]
        exact ⟨rfl, rfl, rfl⟩
      · obtain ⟨a1, a2, a3⟩ := g2 r (by omega)
        rw [sUpd_n _ _ e]
        simp (disch := (first | decide | omega)) only [av_w_o, av_w_k]
        exact ⟨a1, a2, a3⟩
    · by_cases e : r = s
      · subst e
        rw [sUpd_s]
        exact ⟨hb, ha, Nat.lt_succ_of_le hc⟩
      · rw [sUpd_n _ _ e]
        exact g3 r (by omega)
    · simp (disch := (first | decide | omega)) only [av_w_o]
theorem cl_book (L : av_W) (d : Nat) {N : av_N} (hR : RR N) (x y : Int32) : al_call L (d + 20) N 74 [.ref 9, .int x, .int y] 194 [.ref 142, .int x, .int y] := by
  have hR' := hR
  obtain ⟨n, day, B, e, k, T, h⟩ := hR
  have h0 := h
  obtain ⟨hB, hE, he, hI, hF, hS, hL, hK, hT, hX, hO⟩ := h0
  have hm := RA_mv hB hE he
  have hs := hB.1
  have hn := hs.1
  obtain ⟨s, S, s5, hr, g1, g2, g3⟩ := hK
  by_cases hm1 : x = av_k (-1)
  · refine ⟨.int (nI 0), av_w N 22 4 (nI 0), av_w (av_w N 22 4 (nI 0)) 142 42 (nI 0), ?_, ?_, ⟨n, day, B, e, k, T, RA_K h (al_f2_tr (al_f2_w N (by unfold uK; omega) _) (al_f2_w _ (by unfold uK; omega) _)) ⟨0, S, Nat.zero_le _, ⟨?_, fun r hr => absurd hr (Nat.not_lt_zero _)⟩, av_w_s _ _ _ _, fun r hr => absurd hr (Nat.not_lt_zero _), fun r hr => absurd hr (Nat.not_lt_zero _)⟩⟩, fun i => av_w_o _ _ _ _ _ (by decide)⟩
    · apply eq_X6_book (d := d + 19)
      rw [if_pos hm1, av_kP]
    · apply eq_X7_book (d := d + 19)
      rw [if_pos hm1, av_kP]
    · rw [av_w_o _ _ _ _ _ (by decide), av_w_s]
  cases hx : av_lt x n
  · refine call_no hR' (.int (av_k (-1))) ?_ ?_
    · apply eq_X6_book (d := d + 19)
      rw [if_neg hm1, sp_birdAt_no L _ hs.2.1 hx, av_br_n]
    · apply eq_X7_book (d := d + 19)
      rw [if_neg hm1, sp_isBird L _ x hm.2.1.1 (by omega), av_bi_s, hx, av_if_fk]
  obtain ⟨b, hb, rfl⟩ := (av_ltE (by omega)).mp hx
  cases y1 : av_wi y (nI 0) (nI 9999)
  · refine call_no hR' (.int (av_k (-2))) ?_ ?_
    · apply eq_X6_book (d := d + 19)
      simp only [av_kP]
      rw [if_neg hm1, sp_birdAt L _ hs.2.1 hn hb, av_br_s, sp_within, av_bi_s, y1, av_if_f]
    · apply eq_X7_book (d := d + 19)
      simp only [av_kP]
      rw [if_neg hm1, sp_isBird L _ _ hm.2.1.1 (by omega), av_bi_s, hx, av_if_t, sp_isPurse, av_bi_s, y1, av_if_f]
  obtain ⟨a, ha, rfl⟩ := av_wiD (by decide) y1
  by_cases hs5 : s = 8
  · refine call_no hR' (.int (av_k (-4))) ?_ ?_
    · apply eq_X6_book (d := d + 19)
      simp only [av_kP]
      rw [if_neg hm1, sp_birdAt L _ hs.2.1 hn hb, av_br_s, sp_within, av_bi_s, y1, av_if_t, sp_put_22 L _ hr.1 s5, if_neg (show ¬ s < 8 by omega), av_bi_s, av_if_f]
    · apply eq_X7_book (d := d + 19)
      simp only [av_kP]
      rw [if_neg hm1, sp_isBird L _ _ hm.2.1.1 (by omega), av_bi_s, hx, av_if_t, sp_isPurse, av_bi_s, y1, av_if_t, g1, if_pos (congrArg nI hs5)]
  · have hs5' : s < 8 := by omega
    refine ⟨.int (nI (s + 1)), av_w (av_w (av_w (av_w (av_w N 23 s (nI b)) 24 s (nI a)) 25 s (nI 0)) 26 s (nI 0)) 22 4 (nI (s + 1)), av_w (av_w (av_w (av_w (av_w (av_w (av_w (av_w N 23 s (nI b)) 24 s (nI a)) 25 s (nI 0)) 26 s (nI 0)) 22 4 (nI (s + 1))) 173 s (nI b)) 174 s (nI a)) 142 42 (nI (s + 1)), ?_, ?_, ⟨n, day, B, e, k, T, RA_K h ?_ ⟨s + 1, sUpd S s (fun j => if j = 0 then b else a), hs5', al_rows_put hr ?_ (fun j hj => ?_) (fun r j hr hj => ?_), ?_, fun r hr => ?_, fun r hr => ?_⟩⟩, fun i => ?_⟩
    · apply eq_X6_book (d := d + 19)
      simp only [av_kP]
      rw [if_neg hm1, sp_birdAt L _ hs.2.1 hn hb, av_br_s, sp_within, av_bi_s, y1, av_if_t, sp_put_22 L _ hr.1 s5, if_pos hs5', av_bi_s, av_if_t, av_w_s]
    · have e36 : (av_w (av_w (av_w (av_w (av_w N 23 s (nI b)) 24 s (nI a)) 25 s (nI 0)) 26 s (nI 0)) 22 4 (nI (s + 1))).1 142 42 = nI s := by
        simp (disch := (first | decide | omega)) only [av_w_o]
        exact g1
      have e0 : (av_w (av_w (av_w (av_w (av_w N 23 s (nI b)) 24 s (nI a)) 25 s (nI 0)) 26 s (nI 0)) 22 4 (nI (s + 1))).1 142 0 = nI n := by
        simp (disch := (first | decide | omega)) only [av_w_o]
        exact hm.2.1.1
      apply eq_X7_book (d := d + 19)
      simp only [av_kP]
      rw [if_neg hm1, sp_isBird L _ _ e0 (by omega), av_bi_s, hx, av_if_t, sp_isPurse, av_bi_s, y1, av_if_t, e36, if_neg (nI_ne (by omega) (by decide) hs5)]
      simp (disch := (first | decide | omega)) only [av_gx_s, nI_clamp, av_w_o, av_w_s, g1, nI_add]
    · exact al_f2_tr (al_f2_w _ (by unfold uK; omega) _) (al_f2_tr (al_f2_w _ (by unfold uK; omega) _) (al_f2_tr (al_f2_w _ (by unfold uK; omega) _) (al_f2_tr (al_f2_w _ (by unfold uK; omega) _) (al_f2_tr (al_f2_w _ (by unfold uK; omega) _) (al_f2_tr (al_f2_w _ (by unfold uK; omega) _) (al_f2_tr (al_f2_w _ (by unfold uK; omega) _) (al_f2_w _ (by unfold uK; omega) _)))))))
    · simp (disch := (first | decide | omega)) only [av_w_o, av_w_s]
    · rcases (by omega : j = 0 ∨ j = 1) with rfl | rfl <;> simp (disch := (first | decide | omega)) only [av_w_o, av_w_s] <;> rfl
    · rcases (by omega : j = 0 ∨ j = 1) with rfl | rfl <;> simp (disch := (first | decide | omega)) only [av_w_o, av_w_k]
    · simp (disch := (first | decide | omega)) only [av_w_o, av_w_s]
    · by_cases e : r = s
      · subst e
        rw [sUpd_s]
        simp (disch := (first | decide | omega)) only [av_w_o, av_w_s]
        exact ⟨rfl, rfl⟩
      · obtain ⟨a1, a2⟩ := g2 r (by omega)
        rw [sUpd_n _ _ e]
        simp (disch := (first | decide | omega)) only [av_w_o, av_w_k]
        exact ⟨a1, a2⟩
    · by_cases e : r = s
      · subst e
        rw [sUpd_s]
        exact ⟨hb, ha⟩
      · rw [sUpd_n _ _ e]
        exact g3 r (by omega)
    · simp (disch := (first | decide | omega)) only [av_w_o]
def sAb : Nat → Nat
  | 4 => 1 | 5 => 2 | 6 => 3 | _ => 0
def sUn (k : Nat) : Nat → Nat → Bool
  | 0, at' => at' == k
  | m + 1, at' => if at' = k then true else sUn k m (sAb at')
theorem sAb_ro : ∀ a, a < 7 → (am_roL 3).getD a 0 = nI (sAb a) ∧ sAb a < 7 := by decide +kernel
theorem sUn_f : ∀ c, c < 7 → ∀ k, k < 7 → sUn k 7 c = (k == 0 || c == k || k == 1 && c == 4 || k == 2 && c == 5 || k == 3 && c == 6) := by decide +kernel
theorem sp_isUnder (L : av_W) (d : Nat) {N : av_N} (hO : gO N) {c k : Nat} (hc : c < 7) (hk : k < 7) : av_C (av_S0 L) (d + 1) 107 [.int (nI c), .int (nI k)] N = some (some (.int (av_b (sUn k 7 c))), N) := by
  have fin : ∀ a : Nat, a < 7 → (if nI a = nI k then av_bt (nI 1) (some (some (Value.int (nI 1)), N)) else av_bt (nI 0) (some (some (Value.int (nI 0)), N))) = some (some (.int (av_b (a == k))), N) := fun a ha => by
    rw [av_bt_1, av_bt_0]
    by_cases h : a = k
    · rw [if_pos (congrArg nI h), h]
      simp [av_b]
    · rw [if_neg (nI_ne (by omega) (by omega) h), show (a == k) = false from by simpa using h]
      rfl
  have key : ∀ m s a, s + m = 7 → a < 7 → av_V (av_S0 L) (d + 1) ta_X6_isUnder 4 [.int (nI c), .int (nI k), .int (nI a), .int (nI s)] [] N = some (some (.int (av_b (sUn k m a))), N) := by
    intro m
    induction m with
    | zero =>
      intro s a hs ha
      apply eq_X6_isUnder_4 (d := d)
      simp only [av_kP]
      rw [if_neg (nI_nlt (by omega) (by omega))]
      exact fin a ha
    | succ m ih =>
      intro s a hs ha
      obtain ⟨r1, r2⟩ := sAb_ro a ha
      apply eq_X6_isUnder_4 (d := d)
      simp only [av_kP]
      rw [if_pos (nI_lt (by omega) (by decide)), sp_within, av_bi_s, av_wiN (by decide) (by decide) (by omega), decide_eq_true (by omega), av_if_t, av_gx_s (by omega) (by omega), nI_clamp (by omega), hO.1 3 (by decide), r1, nI_add, fin a ha]
      unfold sUn
      by_cases h : a = k
      · rw [if_pos (congrArg nI h), if_pos h, h]
        simp
      · rw [if_neg (nI_ne (by omega) (by omega) h), if_neg h]
        exact ih (s + 1) (sAb a) (by omega) r2
  apply eq_X6_isUnder (d := d)
  rw [av_kP]
  exact key 7 0 c rfl hc
theorem cl_taken (L : av_W) (d : Nat) {N : av_N} (hR : RR N) (x w : Int32) : al_call L (d + 20) N 81 [.ref 9, .int x, .int w] 209 [.ref 142, .int x, .int w] := by
  have hR' := hR
  obtain ⟨n, day, B, e, k, T, h⟩ := hR
  have h0 := h
  obtain ⟨hB, hE, he, hI, hF, hS, hL, hK, hT, hX, hO⟩ := h0
  have hm := RA_mv hB hE he
  have hs := hB.1
  have hn := hs.1
  cases hw : av_wi w (nI 0) (nI 6)
  · refine call_no hR' (.int (av_k (-2))) ?_ ?_
    · apply eq_X6_taken (d := d + 19)
      simp only [av_kP]
      rw [sp_within, av_bi_s, hw, av_if_f]
    · apply eq_X7_taken (d := d + 19)
      simp only [av_kP]
      rw [sp_in, av_bi_s, hw, av_if_f]
  obtain ⟨c, hc, rfl⟩ := av_wiD (by decide) hw
  cases hx : av_lt x n
  · refine call_no hR' (.int (av_k (-11))) ?_ ?_
    · apply eq_X6_taken (d := d + 19)
      simp only [av_kP]
      rw [sp_within, av_bi_s, hw, av_if_t, sp_birdAt_no L _ hs.2.1 hx, av_br_n]
    · apply eq_X7_taken (d := d + 19)
      simp only [av_kP]
      rw [sp_in, av_bi_s, hw, av_if_t, sp_isBird L _ x hm.2.1.1 (by omega), av_bi_s, hx, av_if_f]
  obtain ⟨b, hb, rfl⟩ := (av_ltE (by omega)).mp hx
  obtain ⟨kb, ok, k1⟩ := hs.2.2.2.1 b hb
  have hbp : al_bp (27 + 2 * b) := al_bp27 (by omega)
  obtain ⟨s1, s2, s3, s4⟩ := al_bpE hbp L
  have o2 : B b 2 < 7 := ok.2.1
  have m1 := (hm.2.1.2.2 b hb).1
  have hu := sUn_f (B b 2) o2 c (by omega)
  refine call_no hR' (.int (if sUn c 7 (B b 2) then nI (B b 2) else av_k (-12))) ?_ ?_
  · apply eq_X6_taken (d := d + 19)
    simp only [av_kP]
    rw [sp_within, av_bi_s, hw, av_if_t, sp_birdAt L _ hs.2.1 hn hb, av_br_s, s1, av_tg_s, kb.1 2 (by decide) (by decide), sp_isUnder L _ hO o2 (by omega), av_bi_s, av_tg_s, kb.1 2 (by decide) (by decide)]
    cases sUn c 7 (B b 2)
    · rw [av_if_f, if_neg (by decide)]
    · rw [av_if_t, if_pos rfl]
  · have v30 : av_V (av_S0 L) (d + 20) ta_X7_taken 30 [.ref 142, .int (nI b), .int (nI c), .int (nI (B b 2))] [] N = some (some (.int (if (c == 2 && B b 2 == 5 || c == 3 && B b 2 == 6) then nI (B b 2) else av_k (-12))), N) := by
      apply eq_X7_taken_30 (d := d + 19)
      simp (disch := (first | decide | omega)) only [av_kP, nI_eq]
      by_cases a2 : c = 2
      · rw [if_pos a2, a2]
        by_cases a5 : B b 2 = 5
        · rw [if_pos a5, a5]
          rfl
        · rw [if_neg a5, if_neg (by decide), show (B b 2 == 5) = false from by simpa using a5]
          rfl
      · rw [if_neg a2, show (c == 2) = false from by simpa using a2]
        by_cases a3 : c = 3
        · rw [if_pos a3, a3]
          by_cases a6 : B b 2 = 6
          · rw [if_pos a6, a6]
            rfl
          · rw [if_neg a6, show (B b 2 == 6) = false from by simpa using a6]
            rfl
        · rw [if_neg a3, show (c == 3) = false from by simpa using a3]
          rfl
    rw [hu]
    apply eq_X7_taken (d := d + 19)
    simp only [av_kP]
    rw [sp_in, av_bi_s, hw, av_if_t, sp_isBird L _ _ hm.2.1.1 (by omega), av_bi_s, hx, av_if_t, av_gx_s (by omega) (by omega), nI_clamp (by omega), m1, v30]
    simp (disch := (first | decide | omega)) only [nI_eq]
    by_cases a0 : c = 0
    · rw [if_pos a0, a0]
      rfl
    · rw [if_neg a0, show (c == 0) = false from by simpa using a0]
      by_cases ac : B b 2 = c
      · rw [if_pos ac, ac]
        simp
      · rw [if_neg ac, show (B b 2 == c) = false from by simpa using ac]
        by_cases a1 : c = 1
        · rw [if_pos a1, a1]
          by_cases a4 : B b 2 = 4
          · rw [if_pos a4, a4]
            rfl
          · rw [if_neg a4, show (B b 2 == 4) = false from by simpa using a4]
            rfl
        · rw [if_neg a1, show (c == 1) = false from by simpa using a1]
          rfl
theorem cl_count (L : av_W) (d : Nat) {N : av_N} (hR : RR N) (w : Int32) : al_call L (d + 20) N 82 [.ref 9, .int w] 210 [.ref 142, .int w] := by
  have hR' := hR
  obtain ⟨n, day, B, e, k, T, h⟩ := hR
  have h0 := h
  obtain ⟨hB, hE, he, hI, hF, hS, hL, hK, hT, hX, hO⟩ := h0
  have hm := RA_mv hB hE he
  have hs := hB.1
  have hn := hs.1
  obtain ⟨f, F, f1, f2, f3, f4⟩ := hF
  obtain ⟨s, S, s5, hr, g1, g2, g3⟩ := hS
  obtain ⟨t, X, t5, ht, v1, v2, v3⟩ := hL
  obtain ⟨u, Y, u5, hu, w1, w2, w3⟩ := hK
  obtain ⟨r, tr, x1, x2, x3, x4⟩ := hX
  have a0 : N.1 10 1 = nI n := hs.2.1
  have b0 : N.1 142 0 = nI n := hm.2.1.1
  have a1 : N.1 9 5 = nI k := hE.2.1
  have b1 : N.1 142 11 = nI k := hE.2.2.1
  have a2 : N.1 12 4 = nI s := hr.1
  have a3 : N.1 17 4 = nI t := ht.1
  have a4 : N.1 22 4 = nI u := hu.1
  refine call_no hR' (.int (if w = nI 0 then nI n else if w = nI 1 then nI k else if w = nI 2 then nI s else if w = nI 3 then nI t else if w = nI 4 then nI u else if w = nI 5 then nI f else if w = nI 6 then nI r else av_k (-2))) ?_ ?_
  · apply eq_X6_count
    simp only [av_kP]
    rw [a0, a1, a2, a3, a4, f2, x2]
    repeat' split
    all_goals rfl
  · apply eq_X7_count
    simp only [av_kP]
    rw [b0, b1, g1, v1, w1, f3, x3]
    repeat' split
    all_goals rfl
theorem cl_trace (L : av_W) (d : Nat) {N : av_N} (hR : RR N) (w : Int32) : al_call L (d + 20) N 80 [.ref 9, .int w] 208 [.ref 142, .int w] := by
  have hR' := hR
  obtain ⟨n, day, B, e, k, T, h⟩ := hR
  have h0 := h
  obtain ⟨hB, hE, he, hI, hF, hS, hL, hK, hT, hX, hO⟩ := h0
  obtain ⟨r, tr, x1, x2, x3, x4⟩ := hX
  by_cases hneg : w < nI 0
  · refine call_no hR' (.int (av_k (-1))) ?_ ?_
    · apply eq_X6_trace
      rw [av_kP, if_pos hneg]
    · apply eq_X7_trace (d := d + 19)
      simp only [av_kP]
      rw [sp_in, av_bi_s, av_wi_neg hneg (by decide), av_if_f]
  have hneg' := hneg
  rw [nI_0] at hneg'
  obtain ⟨j, hj, rfl⟩ := nI_of hneg'
  by_cases h20 : j < 20
  · by_cases hjr : j < r
    · obtain ⟨y1, y2⟩ := x4 j hjr h20
      refine call_no hR' (.int (nI (tr j))) ?_ ?_
      · apply eq_X6_trace
        rw [av_kP, if_neg hneg, x2, if_pos (nI_lt hjr (by omega)), show Int32.ofNat 20 = nI 20 from rfl, if_pos (nI_lt h20 (by decide)), av_gx_s h20 hj, nI_clamp hj, y1]
      · apply eq_X7_trace (d := d + 19)
        simp only [av_kP]
        rw [sp_in, av_bi_s, av_wiN (by decide) (by decide) hj, decide_eq_true (by omega), av_if_t, x3, if_pos (nI_lt hjr (by omega)), av_gx_s h20 hj, nI_clamp hj, y2]
    · refine call_no hR' (.int (av_k (-1))) ?_ ?_
      · apply eq_X6_trace
        rw [av_kP, if_neg hneg, x2, if_neg (nI_nlt (by omega) hj)]
      · apply eq_X7_trace (d := d + 19)
        simp only [av_kP]
        rw [sp_in, av_bi_s, av_wiN (by decide) (by decide) hj, decide_eq_true (by omega), av_if_t, x3, if_neg (nI_nlt (by omega) hj)]
  · refine call_no hR' (.int (av_k (-1))) ?_ ?_
    · apply eq_X6_trace
      rw [av_kP, if_neg hneg, show Int32.ofNat 20 = nI 20 from rfl, if_neg (nI_nlt (by omega) hj)]
      split <;> rfl
    · apply eq_X7_trace (d := d + 19)
      simp only [av_kP]
      rw [sp_in, av_bi_s, av_wiN (by decide) (by decide) hj, decide_eq_false (by omega), av_if_f]
