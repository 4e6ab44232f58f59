/-! tapes -/
theorem sT_m1 {s : Nat} (h : s ≤ 5) : av_k ((s : Int) - 1) = av_k (-1) ↔ s = 0 := by
  constructor
  · intro z
    have := congrArg Int32.toInt z
    rw [av_kI (by omega) (by omega), av_kI (by omega) (by omega)] at this
    omega
  · intro z
    rw [z]
    rfl
theorem sT_lt {s : Nat} (h : s ≤ 5) : av_k ((s : Int) - 1) < nI 0 ↔ s = 0 := by
  rw [av_klt0 (by omega) (by omega)]
  omega
theorem sT_k {s j : Nat} (h : s ≤ 5) (hj : j ≤ 5) : av_k ((s : Int) - 1) = nI j ↔ s = j + 1 := by
  rw [← av_kN j]
  constructor
  · intro z
    have := congrArg Int32.toInt z
    rw [av_kI (by omega) (by omega), av_kI (by omega) (by omega)] at this
    omega
  · intro z
    rw [z]
    congr 1
    omega
theorem gT_up {N N2 : av_N} {st ln : Nat → Nat} {it : Nat → Nat → Int64} (h : gT N st ln it) {t s l : Nat} {v : Nat → Int64} (ht : t < 6) (hs : s ≤ 5) (hl : l ≤ 60) (h0 : s = 0 → l = 0) (e1 : N2.1 (130 + 2 * t) 1 = av_k ((s : Int) - 1)) (e2 : N2.1 (130 + 2 * t) 2 = nI l) (e3 : N2.1 195 t = av_k ((s : Int) - 1)) (e4 : N2.1 196 t = nI l) (e5 : ∀ j, j < 60 → N2.2 (131 + 2 * t) j = v j ∧ N2.2 197 (60 * t + j) = v j) (hf : ∀ u, u < 6 → u ≠ t → (∀ k, N2.1 (130 + 2 * u) k = N.1 (130 + 2 * u) k) ∧ N2.1 195 u = N.1 195 u ∧ N2.1 196 u = N.1 196 u ∧ ∀ j, j < 60 → N2.2 (131 + 2 * u) j = N.2 (131 + 2 * u) j ∧ N2.2 197 (60 * u + j) = N.2 197 (60 * u + j)) : gT N2 (fun u => if u = t then s else st u) (fun u => if u = t then l else ln u) (fun u => if u = t then v else it u) := by
  intro u hu
  by_cases e : u = t
  · subst e
    dsimp only
    rw [if_pos rfl, if_pos rfl, if_pos rfl]
    exact ⟨hs, hl, h0, e1, e2, e3, e4, e5⟩
  · dsimp only
    rw [if_neg e, if_neg e, if_neg e]
    obtain ⟨a1, a2, a3, a4, a5, a6, a7, a8⟩ := h u hu
    obtain ⟨b1, b2, b3, b4⟩ := hf u hu e
    exact ⟨a1, a2, a3, (b1 1).trans a4, (b1 2).trans a5, b2.trans a6, b3.trans a7, fun j hj => ⟨(b4 j hj).1.trans (a8 j hj).1, (b4 j hj).2.trans (a8 j hj).2⟩⟩
theorem av_w_2 (N : av_N) (p k : Nat) (x : Int32) : (av_w N p k x).2 = N.2 := rfl
theorem av_wl_1 (N : av_N) (p k : Nat) (x : Int64) : (av_wl N p k x).1 = N.1 := rfl
theorem al_f2_wl {D : Nat → Nat → Prop} (N : av_N) {p k : Nat} (hp : D p k) (x : Int64) : al_f2 D N (av_wl N p k x) := fun q j hq => ⟨rfl, am_up_n _ _ (fun z => hq (by rw [z.1, z.2]; exact hp))⟩
theorem sp_begin5 (L : av_W) (d : Nat) {N : av_N} {t m : Nat} {x : Int32} (ht : t < 6) (hm : m ≤ 60) : ∃ N', av_C (av_S0 L) (d + 1) 43 [.ref (130 + 2 * t), .int x, .int (nI m)] N = some (none, N') ∧ N'.1 (130 + 2 * t) 1 = x ∧ N'.1 (130 + 2 * t) 2 = nI m ∧ (∀ j, j < 60 → N'.2 (131 + 2 * t) j = lN 0) ∧ al_f2 (fun q k => (q = 130 + 2 * t ∧ (k = 1 ∨ k = 2)) ∨ q = 131 + 2 * t) N N' := by
  obtain ⟨p1, p2, p3⟩ := al_tp ht L
  have key := lp_0 (P := fun k => ∀ M, (∀ j, j < k → M.2 (131 + 2 * t) j = lN 0) → ∃ N', av_V (av_S0 L) (d + 1) ta_X5_begin 12 [.ref (130 + 2 * t), .int x, .int (nI m), .int (nI k)] [] M = some (none, N') ∧ (∀ j, j < 60 → N'.2 (131 + 2 * t) j = lN 0) ∧ al_f2 (fun q k => q = 131 + 2 * t) M N' ∧ N'.1 = M.1) 60 (fun M hM => by
    refine ⟨M, ?_, hM, al_f2_rf _ _, rfl⟩
    apply eq_X5_begin_12 (d := d)
    rw [p1, av_tg_s, p2, av_bd_s, p3, show ∀ A : Option av_Q, av_al (101, 60) A = A from fun _ => rfl, show Int32.ofNat 60 = nI 60 from rfl, if_neg (nI_nlt (Nat.le_refl _) (by decide))]) (fun k hk ih M hM => by
    obtain ⟨N', c1, c2, c3, c4⟩ := ih (av_wl M (131 + 2 * t) k (lN 0)) (fun j hj => by
      by_cases e : j = k
      · subst e
        exact av_wl_s _ _ _ _
      · rw [av_wl_k _ _ _ _ e]
        exact hM j (by omega))
    refine ⟨N', ?_, c2, al_f2_tr (al_f2_wl (D := fun q k => q = 131 + 2 * t) M rfl _) c3, c4⟩
    apply eq_X5_begin_12 (d := d)
    simp only [av_kP, lN_of]
    rw [p1, av_tg_s, av_tg_s, p2, av_bd_s, av_bd_s, p3, show ∀ A : Option av_Q, av_al (101, 60) A = A from fun _ => rfl, show Int32.ofNat 60 = nI 60 from rfl, if_pos (nI_lt hk (by decide)), av_ge_s (by omega), av_tg_s, av_gx_s hk (by omega), nI_clamp (by omega), nI_add]
    exact c1)
  obtain ⟨N', c1, c2, c3, c4⟩ := key (av_w (av_w N (130 + 2 * t) 1 x) (130 + 2 * t) 2 (nI m)) (fun j hj => absurd hj (Nat.not_lt_zero _))
  refine ⟨N', ?_, by rw [c4, av_w_k _ _ _ _ (by decide), av_w_s], by rw [c4, av_w_s], c2, al_f2_tr (al_f2_w N (Or.inl ⟨rfl, Or.inl rfl⟩) _) (al_f2_tr (al_f2_w _ (Or.inl ⟨rfl, Or.inr rfl⟩) _) (al_f2_mono c3 (fun q k z => Or.inr z)))⟩
  apply eq_X5_begin (d := d)
  simp only [av_kP]
  have e1 : (if nI m < nI 60 then nI m else nI 60) = nI m := by
    by_cases h : m < 60
    · rw [if_pos (nI_lt h (by decide))]
    · rw [if_neg (nI_nlt (by omega) (by omega)), show m = 60 by omega]
  have e2 : (if nI 0 < nI m then nI m else nI 0) = nI m := by
    by_cases h : 0 < m
    · rw [if_pos (nI_lt h (by omega))]
    · rw [if_neg (nI_nlt (by omega) (by omega)), show m = 0 by omega]
  rw [p1, av_tg_s, sp_min, av_bi_s, e1, sp_max, av_bi_s, e2, av_tg_s]
  exact c1
theorem sp_tape41 (L : av_W) (d : Nat) {N : av_N} {t : Nat} {x y : Int32} (ht : t < 6) : ∃ N', av_V (av_S0 L) (d + 1) ta_X7_tape 41 [.ref 142, .int (nI t), .int x, .int y, .int (nI 0)] [] N = some (some (.int (nI 1)), N') ∧ (∀ j, j < 60 → N'.2 197 (60 * t + j) = lN 0) ∧ (∀ q k, ¬ (q = 197 ∧ 60 * t ≤ k ∧ k < 60 * t + 60) → N'.2 q k = N.2 q k) ∧ N'.1 = N.1 := by
  refine lp_0 (P := fun k => ∀ M, (∀ j, j < k → M.2 197 (60 * t + j) = lN 0) → (∀ q k, ¬ (q = 197 ∧ 60 * t ≤ k ∧ k < 60 * t + 60) → M.2 q k = N.2 q k) → M.1 = N.1 → ∃ N', av_V (av_S0 L) (d + 1) ta_X7_tape 41 [.ref 142, .int (nI t), .int x, .int y, .int (nI k)] [] M = some (some (.int (nI 1)), N') ∧ (∀ j, j < 60 → N'.2 197 (60 * t + j) = lN 0) ∧ (∀ q k, ¬ (q = 197 ∧ 60 * t ≤ k ∧ k < 60 * t + 60) → N'.2 q k = N.2 q k) ∧ N'.1 = N.1) 60 ?_ ?_ N (fun j hj => absurd hj (Nat.not_lt_zero _)) (fun _ _ _ => rfl) rfl
  · intro M h1 h2 h3
    refine ⟨M, ?_, h1, h2, h3⟩
    apply eq_X7_tape_41 (d := d)
    simp only [av_kP]
    rw [if_neg (nI_nlt (Nat.le_refl _) (by decide))]
  · intro k hk ih M h1 h2 h3
    obtain ⟨N', c1, c2⟩ := ih (av_wl M 197 (60 * t + k) (lN 0)) (fun j hj => by
      by_cases e : j = k
      · subst e
        exact av_wl_s _ _ _ _
      · rw [av_wl_k _ _ _ _ (by omega)]
        exact h1 j (by omega)) (fun q i hq => by
      rw [show (av_wl M 197 (60 * t + k) (lN 0)).2 q i = M.2 q i from am_up_n _ _ (by omega)]
      exact h2 q i hq) h3
    refine ⟨N', ?_, c2⟩
    apply eq_X7_tape_41 (d := d)
    simp only [av_kP, lN_of]
    rw [if_pos (nI_lt hk (by decide)), av_mul, nI_add, av_gx_s (by omega) (by omega), nI_clamp (by omega), nI_add]
    exact c1
theorem cl_tape (L : av_W) (d : Nat) {N : av_N} (hR : RR N) (x w z : Int32) : al_call L (d + 20) N 83 [.ref 9, .int x, .int w, .int z] 212 [.ref 142, .int x, .int w, .int z] := by
  have hR' := hR
  obtain ⟨n, day, B, e, k, T, h⟩ := hR
  have h0 := h
  obtain ⟨hB, hE, he, hI, hF, hS, hL, hK, hT, hX, hO⟩ := h0
  obtain ⟨st, ln, it, hg⟩ := hT
  cases hx : av_wi x (nI 0) (nI 5)
  · refine call_no hR' (.int (av_k (-1))) ?_ ?_
    · apply eq_X6_tape (d := d + 19)
      simp only [av_kP]
      rw [sp_within, av_bi_s, hx, av_if_f]
    · apply eq_X7_tape (d := d + 19)
      rw [show av_C (av_S0 L) (d + 19) 211 [.ref 142, .int x] N = some (some (.int (av_b false)), N) from by
        apply eq_X7_isTape (d := d + 18)
        simp only [av_kP]
        rw [sp_in, av_bi_s, hx, av_bt_b], av_bi_s, av_if_fk]
  obtain ⟨t, ht5, rfl⟩ := av_wiD (by decide) hx
  have isT : ∀ M, av_C (av_S0 L) (d + 19) 211 [.ref 142, .int (nI t)] M = some (some (.int (av_b true)), M) := fun M => by
    apply eq_X7_isTape (d := d + 18)
    simp only [av_kP]
    rw [sp_in, av_bi_s, hx, av_bt_b]
  obtain ⟨p1, p2, p3⟩ := al_tp (show t < 6 by omega) L
  obtain ⟨g1, g2, g3, g4, g5, g6, g7, g8⟩ := hg t (by omega)
  have sm1 : av_k ((st t : Int) - 1) = av_k (-1) ↔ st t = 0 := sT_m1 g1
  have slt : av_k ((st t : Int) - 1) < nI 0 ↔ st t = 0 := sT_lt g1
  -- what a good call does
  have good : ∀ s m : Nat, s ≤ 5 → m ≤ 60 → (s = 0 → m = 0) → w = av_k ((s : Int) - 1) → (∀ N1, av_C (av_S0 L) (d + 19) 43 [.ref (130 + 2 * t), .int w, .int (nI m)] N = some (none, N1) → av_C (av_S0 L) (d + 20) 83 [.ref 9, .int (nI t), .int w, .int z] N = some (some (.int (nI 1)), N1)) → (∀ M q, av_V (av_S0 L) (d + 20) ta_X7_tape 41 [.ref 142, .int (nI t), .int w, .int z, .int (nI 0)] [] (av_w (av_w M 195 t w) 196 t (nI m)) = some q → av_C (av_S0 L) (d + 20) 212 [.ref 142, .int (nI t), .int w, .int z] M = some q) → al_call L (d + 20) N 83 [.ref 9, .int (nI t), .int w, .int z] 212 [.ref 142, .int (nI t), .int w, .int z] := by
    intro s m hs5 hm hsm hw hC hM
    obtain ⟨N1, c1, a1, a2, a3, f1⟩ := sp_begin5 L (d + 18) (N := N) (x := w) (show t < 6 by omega) hm
    obtain ⟨N2, c2, b1, b2, b3⟩ := sp_tape41 L (d + 19) (N := av_w (av_w N1 195 t w) 196 t (nI m)) (x := w) (y := z) (show t < 6 by omega)
    have fr : ∀ q k, q ≠ 195 → q ≠ 196 → N2.1 q k = N1.1 q k := fun q k y1 y2 => by rw [b3, av_w_o _ _ _ _ _ y2, av_w_o _ _ _ _ _ y1]
    have fr2 : ∀ q k, q ≠ 197 → N2.2 q k = N1.2 q k := fun q k y1 => (b2 q k (by omega)).trans rfl
    refine ⟨.int (nI 1), N1, N2, hC N1 c1, hM N1 _ c2, ⟨n, day, B, e, k, T, RA_T h (al_f2_tr (al_f2_mono f1 (fun q k z => by unfold uT; omega)) (fun q k hq => ?_)) ⟨_, _, _, gT_up hg (t := t) (s := s) (l := m) (v := fun _ => lN 0) (by omega) hs5 hm hsm ?_ ?_ ?_ ?_ (fun j hj => ⟨(fr2 _ _ (by omega)).trans (a3 j hj), b1 j hj⟩) (fun u hu hut => ⟨fun k => (fr _ _ (by omega) (by omega)).trans (f1 _ _ (by omega)).1, ?_, ?_, fun j hj => ⟨(fr2 _ _ (by omega)).trans (f1 _ _ (by omega)).2, (b2 _ _ (by omega)).trans (f1 _ _ (by omega)).2⟩⟩)⟩⟩, fun i => (f1 8 i (by omega)).1⟩
    · unfold uT uZ at hq
      exact ⟨fr q k (by omega) (by omega), fr2 q k (by omega)⟩
    · rw [fr _ _ (by omega) (by omega), a1, hw]
    · rw [fr _ _ (by omega) (by omega), a2]
    · rw [b3, av_w_o _ _ _ _ _ (by decide), av_w_s, hw]
    · rw [b3, av_w_s]
    · rw [b3, av_w_o _ _ _ _ _ (by decide), av_w_k _ _ _ _ hut]
      exact (f1 _ _ (by omega)).1
    · rw [b3, av_w_k _ _ _ _ hut, av_w_o _ _ _ _ _ (by decide)]
      exact (f1 _ _ (by omega)).1
  have wi14 : ∀ j : Nat, j ≤ 5 → av_wi (av_k ((j : Int) - 1)) (av_k (-1)) (nI 4) = true := fun j hj => by
    rcases (by omega : j = 0 ∨ j = 1 ∨ j = 2 ∨ j = 3 ∨ j = 4 ∨ j = 5) with rfl | rfl | rfl | rfl | rfl | rfl <;> decide
  by_cases hw1 : w = av_k (-1)
  · subst hw1
    refine good 0 0 (by decide) (by decide) (fun _ => rfl) rfl (fun N1 c => ?_) (fun M q hq => ?_)
    · apply eq_X6_tape (d := d + 19)
      simp only [av_kP]
      rw [sp_within, av_bi_s, hx, av_if_t, if_pos trivial, av_gx_s (by omega) (by omega), nI_clamp (by omega), al_R75 t (by omega), av_bd_s, p1, av_tg_s, c, av_bv_s]
    · apply eq_X7_tape (d := d + 19)
      simp only [av_kP]
      have hlt : av_k (-1) < nI 0 := by decide
      rw [isT, av_bi_s, av_if_t, sp_in, av_bi_s, show av_wi (av_k (-1)) (av_k (-1)) (nI 4) = true from by decide, av_if_t]
      simp (disch := omega) only [if_pos hlt, av_gx_s, nI_clamp]
      exact hq
  have wi1 : av_wi w (av_k (-1)) (nI 4) = av_wi w (nI 0) (nI 4) := by
    unfold av_wi
    have : (w < av_k (-1)) ↔ (w < nI 0) := by
      constructor
      · intro z
        rw [Int32.lt_iff_toInt_lt, av_kI (by decide) (by decide)] at z
        rw [Int32.lt_iff_toInt_lt, nI_toInt (by decide)]
        omega
      · intro z
        rw [Int32.lt_iff_toInt_lt, nI_toInt (by decide)] at z
        rw [Int32.lt_iff_toInt_lt, av_kI (by decide) (by decide)]
        have : w.toInt ≠ -1 := fun y => hw1 (Int32.toInt_inj.mp (by rw [y, av_kI (by decide) (by decide)]))
        omega
    rw [decide_eq_decide.mpr (not_congr this)]
  cases hw : av_wi w (nI 0) (nI 4)
  · refine call_no hR' (.int (av_k (-2))) ?_ ?_
    · apply eq_X6_tape (d := d + 19)
      simp only [av_kP]
      rw [sp_within, av_bi_s, hx, av_if_t, if_neg hw1, sp_within, av_bi_s, hw, av_if_f]
    · apply eq_X7_tape (d := d + 19)
      simp only [av_kP]
      rw [isT, av_bi_s, av_if_t, sp_in, av_bi_s, wi1, hw, av_if_f]
  obtain ⟨s, hs4, rfl⟩ := av_wiD (by decide) hw
  have hnn : ¬ nI s < nI 0 := nI_nlt (Nat.zero_le _) (by omega)
  by_cases hbig : nI 60 < z
  · refine call_no hR' (.int (av_k (-2))) ?_ ?_
    · apply eq_X6_tape (d := d + 19)
      simp only [av_kP]
      rw [sp_within, av_bi_s, hx, av_if_t, if_neg hw1, sp_within, av_bi_s, hw, av_if_t, if_pos hbig]
    · apply eq_X7_tape (d := d + 19)
      simp only [av_kP]
      rw [isT, av_bi_s, av_if_t, sp_in, av_bi_s, wi1, hw, av_if_t, if_neg hnn, if_pos hbig]
  by_cases hneg : z < nI 0
  · refine call_no hR' (.int (av_k (-14))) ?_ ?_
    · apply eq_X6_tape (d := d + 19)
      simp only [av_kP]
      rw [sp_within, av_bi_s, hx, av_if_t, if_neg hw1, sp_within, av_bi_s, hw, av_if_t, if_neg hbig, if_pos hneg]
    · apply eq_X7_tape (d := d + 19)
      simp only [av_kP]
      rw [isT, av_bi_s, av_if_t, sp_in, av_bi_s, wi1, hw, av_if_t, if_neg hnn, if_neg hbig, if_neg hnn, if_pos hneg]
  have hneg' := hneg
  rw [nI_0] at hneg'
  obtain ⟨m, hm, rfl⟩ := nI_of hneg'
  have hm60 : m ≤ 60 := by
    rw [nI_ltI (by decide) hm] at hbig
    omega
  refine good (s + 1) m (by omega) hm60 (fun z => absurd z (Nat.succ_ne_zero s)) ?_ (fun N1 c => ?_) (fun M q hq => ?_)
  · rw [← av_kN]
    congr 1
    omega
  · apply eq_X6_tape (d := d + 19)
    simp only [av_kP]
    rw [sp_within, av_bi_s, hx, av_if_t, if_neg hw1, sp_within, av_bi_s, hw, av_if_t, if_neg hbig, if_neg hneg, av_gx_s (by omega) (by omega), nI_clamp (by omega), al_R75 t (by omega), av_bd_s, p1, av_tg_s, c, av_bv_s]
  · apply eq_X7_tape (d := d + 19)
    simp only [av_kP]
    rw [isT, av_bi_s, av_if_t, sp_in, av_bi_s, wi1, hw, av_if_t]
    simp (disch := omega) only [if_neg hnn, if_neg hbig, if_neg hneg, av_gx_s, nI_clamp]
    exact hq
def sCut (s : Nat) (v : Int64) : Int64 := if s = 1 then v.toInt32.toInt8.toInt32.toInt64 else if s = 2 then v.toInt32.toInt16.toInt32.toInt64 else if s = 3 then v.toInt32.toInt64 else if s = 5 then (if lg_cmp v (lN 0) = nI 0 then lN 0 else lN 1) else v
theorem sp_cut (L : av_W) (d : Nat) {N : av_N} {t s : Nat} (ht : t < 6) (hs : s ≤ 5) (h : N.1 (130 + 2 * t) 1 = av_k ((s : Int) - 1)) (v : Int64) : av_C (av_S0 L) d 44 [.ref (130 + 2 * t), .long v] N = some (some (.long (sCut s v)), N) := by
  obtain ⟨p1, p2, p3⟩ := al_tp ht L
  apply eq_X5_cut
  rw [p1, av_tg_s, h]
  simp only [av_kP, lN_of, sT_k hs (show 0 ≤ 5 by decide), sT_k hs (show 1 ≤ 5 by decide), sT_k hs (show 2 ≤ 5 by decide), sT_k hs (show 3 ≤ 5 by decide), sT_k hs (show 4 ≤ 5 by decide)]
  unfold sCut
  rcases (by omega : s = 0 ∨ s = 1 ∨ s = 2 ∨ s = 3 ∨ s = 4 ∨ s = 5) with rfl | rfl | rfl | rfl | rfl | rfl
  · rfl
  · rfl
  · rfl
  · rfl
  · rfl
  · show (if lg_cmp v (lN 0) = nI 0 then some (some (Value.long (lN 0)), N) else some (some (Value.long (lN 1)), N)) = some (some (Value.long (if lg_cmp v (lN 0) = nI 0 then lN 0 else lN 1)), N)
    split <;> rfl
theorem sp_narrow (L : av_W) (d : Nat) {N : av_N} {s : Nat} (hs : s ≤ 5) (v : Int64) : av_C (av_S0 L) d 213 [.ref 142, .int (av_k ((s : Int) - 1)), .long v] N = some (some (.long (sCut s v)), N) := by
  apply eq_X7_narrow
  simp only [av_kP, lN_of, sT_k hs (show 0 ≤ 5 by decide), sT_k hs (show 1 ≤ 5 by decide), sT_k hs (show 2 ≤ 5 by decide), sT_k hs (show 4 ≤ 5 by decide)]
  unfold sCut
  rcases (by omega : s = 0 ∨ s = 1 ∨ s = 2 ∨ s = 3 ∨ s = 4 ∨ s = 5) with rfl | rfl | rfl | rfl | rfl | rfl
  · rfl
  · rfl
  · rfl
  · rfl
  · rfl
  · show (if lg_cmp v (lN 0) = nI 0 then some (some (Value.long (lN 0)), N) else some (some (Value.long (lN 1)), N)) = some (some (Value.long (if lg_cmp v (lN 0) = nI 0 then lN 0 else lN 1)), N)
    split <;> rfl
theorem cl_item (L : av_W) (d : Nat) {N : av_N} (hR : RR N) (x y : Int32) (v : Int64) : al_call L (d + 20) N 84 [.ref 9, .int x, .int y, .long v] 214 [.ref 142, .int x, .int y, .long v] := by
  have hR' := hR
  obtain ⟨n, day, B, e, k, T, h⟩ := hR
  have h0 := h
  obtain ⟨hB, hE, he, hI, hF, hS, hL, hK, hT, hX, hO⟩ := h0
  obtain ⟨st, ln, it, hg⟩ := hT
  cases hx : av_wi x (nI 0) (nI 5)
  · refine call_no hR' (.int (av_k (-1))) ?_ ?_
    · apply eq_X6_item (d := d + 19)
      simp only [av_kP]
      rw [sp_within, av_bi_s, hx, av_if_f]
    · apply eq_X7_item (d := d + 19)
      rw [show av_C (av_S0 L) (d + 19) 211 [.ref 142, .int x] N = some (some (.int (av_b false)), N) from by
        apply eq_X7_isTape (d := d + 18)
        simp only [av_kP]
        rw [sp_in, av_bi_s, hx, av_bt_b], av_bi_s, av_if_fk]
  obtain ⟨t, ht5, rfl⟩ := av_wiD (by decide) hx
  have isT : ∀ M, av_C (av_S0 L) (d + 19) 211 [.ref 142, .int (nI t)] M = some (some (.int (av_b true)), M) := fun M => by
    apply eq_X7_isTape (d := d + 18)
    simp only [av_kP]
    rw [sp_in, av_bi_s, hx, av_bt_b]
  obtain ⟨p1, p2, p3⟩ := al_tp (show t < 6 by omega) L
  obtain ⟨g1, g2, g3, g4, g5, g6, g7, g8⟩ := hg t (by omega)
  have sm1 : av_k ((st t : Int) - 1) = av_k (-1) ↔ st t = 0 := sT_m1 g1
  have slt : av_k ((st t : Int) - 1) < nI 0 ↔ st t = 0 := sT_lt g1
  by_cases h0 : st t = 0
  · refine call_no hR' (.int (av_k (-11))) ?_ ?_
    · apply eq_X6_item (d := d + 19)
      simp only [av_kP]
      rw [sp_within, av_bi_s, hx, av_if_t, av_gx_s (by omega) (by omega), nI_clamp (by omega), al_R75 t (by omega), av_bd_s, p1, av_tg_s, g4, if_pos (sm1.mpr h0)]
    · apply eq_X7_item (d := d + 19)
      simp only [av_kP]
      rw [isT, av_bi_s, av_if_t, av_gx_s (by omega) (by omega), nI_clamp (by omega), g6, if_pos (slt.mpr h0)]
  cases hy : av_lt y (ln t)
  · refine call_no hR' (.int (av_k (-13))) ?_ ?_
    · apply eq_X6_item (d := d + 19)
      simp only [av_kP]
      rw [sp_within, av_bi_s, hx, av_if_t, av_gx_s (by omega) (by omega), nI_clamp (by omega), al_R75 t (by omega), av_bd_s, p1, av_tg_s, g4, if_neg (fun z => h0 (sm1.mp z))]
      by_cases hneg : y < nI 0
      · rw [if_pos hneg]
      · rw [if_neg hneg, av_tg_s, g5, if_neg (fun z => by
          unfold av_lt at hy
          rw [decide_eq_true hneg, Bool.true_and, decide_eq_true z] at hy
          cases hy)]
    · apply eq_X7_item (d := d + 19)
      simp only [av_kP]
      rw [isT, av_bi_s, av_if_t, av_gx_s (by omega) (by omega), nI_clamp (by omega), g6, if_neg (fun z => h0 (slt.mp z)), av_gx_s (by omega) (by omega), g7, sp_in, av_bi_s, av_lt_wi (by omega), hy, av_if_f]
  obtain ⟨i, hi, rfl⟩ := (av_ltE (by omega)).mp hy
  refine ⟨.int (nI 1), av_wl N (131 + 2 * t) i (sCut (st t) v), av_wl (av_wl N (131 + 2 * t) i (sCut (st t) v)) 197 (60 * t + i) (sCut (st t) v), ?_, ?_, ⟨n, day, B, e, k, T, RA_T h (al_f2_tr (al_f2_wl N (by unfold uT; omega) _) (al_f2_wl _ (by unfold uT; omega) _)) ⟨_, _, _, gT_up hg (t := t) (s := st t) (l := ln t) (v := fun j => if j = i then sCut (st t) v else it t j) (by omega) g1 g2 g3 g4 g5 g6 g7 (fun j hj => ?_) (fun u hu hut => ⟨fun _ => rfl, rfl, rfl, fun j hj => ⟨?_, ?_⟩⟩)⟩⟩, fun i => rfl⟩
  · apply eq_X6_item (d := d + 19)
    simp only [av_kP]
    rw [sp_within, av_bi_s, hx, av_if_t, av_gx_s (by omega) (by omega), nI_clamp (by omega), al_R75 t (by omega), av_bd_s, p1, av_tg_s, g4, if_neg (fun z => h0 (sm1.mp z)), if_neg (nI_nlt (Nat.zero_le _) (by omega)), av_tg_s, g5, if_pos (nI_lt hi (by omega)), av_tg_s, p2, av_bd_s, av_tg_s, sp_cut L _ (by omega) g1 g4, av_bl_s, av_ge_s (by omega), p3, av_tg_s, av_gx_s (by show i < 60; omega) (by omega), nI_clamp (by omega)]
  · apply eq_X7_item (d := d + 19)
    simp only [av_kP]
    have e195 : (av_wl N (131 + 2 * t) i (sCut (st t) v)).1 195 t = av_k ((st t : Int) - 1) := g6
    have e196 : (av_wl N (131 + 2 * t) i (sCut (st t) v)).1 196 t = nI (ln t) := g7
    rw [isT, av_bi_s, av_if_t, av_gx_s (by omega) (by omega), nI_clamp (by omega), e195, if_neg (fun z => h0 (slt.mp z)), av_gx_s (by omega) (by omega), e196, sp_in, av_bi_s, av_lt_wi (by omega), hy, av_if_t, av_gx_s (by omega) (by omega), e195, sp_narrow L _ g1, av_bl_s, av_mul, nI_add, av_gx_s (by omega) (by omega), nI_clamp (by omega)]
  · by_cases e : j = i
    · subst e
      rw [if_pos rfl]
      exact ⟨(av_wl_o _ _ _ _ _ (by omega)).trans (av_wl_s _ _ _ _), av_wl_s _ _ _ _⟩
    · rw [if_neg e, av_wl_o _ _ _ _ _ (by omega), av_wl_k _ _ _ _ e, av_wl_k _ _ _ _ (by omega), av_wl_o _ _ _ _ _ (by omega)]
      exact g8 j hj
  · rw [av_wl_o _ _ _ _ _ (by omega), av_wl_o _ _ _ _ _ (by omega)]
  · rw [av_wl_k _ _ _ _ (by omega), av_wl_o _ _ _ _ _ (by omega)]
theorem cl_read (L : av_W) (d : Nat) {N : av_N} (hR : RR N) (x y : Int32) : al_call L (d + 20) N 85 [.ref 9, .int x, .int y] 215 [.ref 142, .int x, .int y] := by
  have hR' := hR
  obtain ⟨n, day, B, e, k, T, h⟩ := hR
  have h0 := h
  obtain ⟨hB, hE, he, hI, hF, hS, hL, hK, hT, hX, hO⟩ := h0
  obtain ⟨st, ln, it, hg⟩ := hT
  cases hx : av_wi x (nI 0) (nI 5)
  · refine call_no hR' (.long (Int64.ofNat 9223372036854775808)) ?_ ?_
    · apply eq_X6_read (d := d + 19)
      simp only [av_kP]
      rw [sp_within, av_bi_s, hx, av_if_f]
    · apply eq_X7_read (d := d + 19)
      rw [show av_C (av_S0 L) (d + 19) 211 [.ref 142, .int x] N = some (some (.int (av_b false)), N) from by
        apply eq_X7_isTape (d := d + 18)
        simp only [av_kP]
        rw [sp_in, av_bi_s, hx, av_bt_b], av_bi_s, av_if_fk]
  obtain ⟨t, ht5, rfl⟩ := av_wiD (by decide) hx
  have isT : ∀ M, av_C (av_S0 L) (d + 19) 211 [.ref 142, .int (nI t)] M = some (some (.int (av_b true)), M) := fun M => by
    apply eq_X7_isTape (d := d + 18)
    simp only [av_kP]
    rw [sp_in, av_bi_s, hx, av_bt_b]
  obtain ⟨p1, p2, p3⟩ := al_tp (show t < 6 by omega) L
  obtain ⟨g1, g2, g3, g4, g5, g6, g7, g8⟩ := hg t (by omega)
  have sm1 : av_k ((st t : Int) - 1) = av_k (-1) ↔ st t = 0 := sT_m1 g1
  have slt : av_k ((st t : Int) - 1) < nI 0 ↔ st t = 0 := sT_lt g1
  cases hy : av_lt y (ln t)
  · refine call_no hR' (.long (Int64.ofNat 9223372036854775808)) ?_ ?_
    · apply eq_X6_read (d := d + 19)
      simp only [av_kP]
      rw [sp_within, av_bi_s, hx, av_if_t, av_gx_s (by omega) (by omega), nI_clamp (by omega), al_R75 t (by omega), av_bd_s]
      by_cases hneg : y < nI 0
      · rw [if_pos hneg]
      · rw [if_neg hneg, p1, av_tg_s, g5, if_neg (fun z => by
          unfold av_lt at hy
          rw [decide_eq_true hneg, Bool.true_and, decide_eq_true z] at hy
          cases hy)]
    · apply eq_X7_read (d := d + 19)
      simp only [av_kP]
      rw [isT, av_bi_s, av_if_t, av_gx_s (by omega) (by omega), nI_clamp (by omega), g6, av_gx_s (by omega) (by omega), g7, sp_in, av_bi_s, av_lt_wi (by omega), hy, av_if_f]
      split <;> rfl
  obtain ⟨i, hi, rfl⟩ := (av_ltE (by omega)).mp hy
  obtain ⟨e1, e2⟩ := g8 i (by omega)
  refine call_no hR' (.long (it t i)) ?_ ?_
  · apply eq_X6_read (d := d + 19)
    simp only [av_kP]
    rw [sp_within, av_bi_s, hx, av_if_t, av_gx_s (by omega) (by omega), nI_clamp (by omega), al_R75 t (by omega), av_bd_s, if_neg (nI_nlt (Nat.zero_le _) (by omega)), p1, av_tg_s, g5, if_pos (nI_lt hi (by omega)), av_tg_s, p2, av_bd_s, p3, av_tg_s, av_gx_s (by show i < 60; omega) (by omega), nI_clamp (by omega), e1]
  · apply eq_X7_read (d := d + 19)
    simp only [av_kP]
    rw [isT, av_bi_s, av_if_t, av_gx_s (by omega) (by omega), nI_clamp (by omega), g6, if_neg (fun z => by have := g3 (slt.mp z); omega), av_gx_s (by omega) (by omega), g7, sp_in, av_bi_s, av_lt_wi (by omega), hy, av_if_t, av_mul, nI_add, av_gx_s (by omega) (by omega), nI_clamp (by omega), e2]
theorem lg_gt {a b : Nat} (ha : a < 2 ^ 40) (hb : b < 2 ^ 40) : nI 0 < lg_cmp (lN a) (lN b) ↔ b < a := by
  have ea : (lN a).toInt = a := lg_ofNat_toInt (by omega)
  have eb : (lN b).toInt = b := lg_ofNat_toInt (by omega)
  unfold lg_cmp
  by_cases h1 : b < a
  · rw [if_pos (show lN a > lN b from by show lN b < lN a; rw [Int64.lt_iff_toInt_lt, ea, eb]; omega)]
    exact ⟨fun _ => h1, fun _ => by decide⟩
  · rw [if_neg (show ¬ lN a > lN b from by show ¬ lN b < lN a; rw [Int64.lt_iff_toInt_lt, ea, eb]; omega)]
    by_cases h2 : lN a = lN b
    · rw [if_pos h2]
      exact ⟨fun z => absurd z (by decide), fun z => absurd z h1⟩
    · rw [if_neg h2]
      exact ⟨fun z => absurd z (by decide), fun z => absurd z h1⟩
theorem sub_ltg {a b i : Nat} (ha : a < 2 ^ 20) (hb : b < 2 ^ 31) (hi : i < 2 ^ 31) : (nI a - nI b < nI i) ↔ a < i + b := by
  rw [← av_kN a, av_ksub, Int32.lt_iff_toInt_lt, av_kI (by omega) (by omega), nI_toInt hi]
  omega
theorem sp_hasPart (L : av_W) (d : Nat) {N : av_N} {t l : Nat} (ht : t < 6) (hl : l ≤ 60) (h : N.1 (130 + 2 * t) 2 = nI l) (i m : Int32) : av_C (av_S0 L) d 45 [.ref (130 + 2 * t), .int i, .int m] N = some (some (.int (av_b (decide (¬ m < nI 0) && (decide (¬ i < nI 0) && decide (i.toNatClampNeg + m.toNatClampNeg ≤ l))))), N) := by
  obtain ⟨p1, p2, p3⟩ := al_tp ht L
  apply eq_X5_hasPart
  simp only [av_kP]
  by_cases h1 : m < nI 0
  · rw [if_pos h1, av_bt_0, decide_eq_false (fun z => z h1)]
    rfl
  · by_cases h2 : i < nI 0
    · rw [if_neg h1, if_pos h2, av_bt_0, decide_eq_false (show ¬ ¬ i < nI 0 from fun z => z h2), Bool.false_and, Bool.and_false]
      rfl
    · rw [decide_eq_true h1, decide_eq_true h2, Bool.true_and, Bool.true_and, if_neg h1, if_neg h2, p1, av_tg_s, h]
      rw [nI_0] at h1 h2
      obtain ⟨m, hm, rfl⟩ := nI_of h1
      obtain ⟨i, hi, rfl⟩ := nI_of h2
      rw [nI_clamp hm, nI_clamp hi, nI_l hi, nI_l hm, nI_l (by omega), lN_add, av_bt_0, av_bt_1]
      by_cases h3 : i + m ≤ l
      · rw [if_neg (fun z => by have := (lg_gt (by omega) (by omega)).mp z; omega), decide_eq_true h3]
        rfl
      · rw [if_pos ((lg_gt (by omega) (by omega)).mpr (by omega)), decide_eq_false h3]
        rfl
theorem cl_shift (L : av_W) (d : Nat) {N : av_N} (hR : RR N) (x i0 y j0 m0 : Int32) : al_call L (d + 20) N 86 [.ref 9, .int x, .int i0, .int y, .int j0, .int m0] 216 [.ref 142, .int x, .int i0, .int y, .int j0, .int m0] := by
  have hR' := hR
  obtain ⟨n, day, B, e, k, T, h⟩ := hR
  have h0 := h
  obtain ⟨hB, hE, he, hI, hF, hS, hL, hK, hT, hX, hO⟩ := h0
  obtain ⟨st, ln, it, hg⟩ := hT
  have noT : ∀ x M, av_wi x (nI 0) (nI 5) = false → av_C (av_S0 L) (d + 19) 211 [.ref 142, .int x] M = some (some (.int (av_b false)), M) := fun x M hx => by
    apply eq_X7_isTape (d := d + 18)
    simp only [av_kP]
    rw [sp_in, av_bi_s, hx, av_bt_b]
  have isT : ∀ x M, av_wi x (nI 0) (nI 5) = true → av_C (av_S0 L) (d + 19) 211 [.ref 142, .int x] M = some (some (.int (av_b true)), M) := fun x M hx => by
    apply eq_X7_isTape (d := d + 18)
    simp only [av_kP]
    rw [sp_in, av_bi_s, hx, av_bt_b]
  cases hx : av_wi x (nI 0) (nI 5)
  · refine call_no hR' (.int (av_k (-1))) ?_ ?_
    · apply eq_X6_shift (d := d + 13)
      simp only [av_kP]
      rw [sp_within, av_bi_s, hx, av_if_f]
    · apply eq_X7_shift (d := d + 19)
      rw [noT x N hx, av_bi_s, av_if_fk]
  cases hy : av_wi y (nI 0) (nI 5)
  · refine call_no hR' (.int (av_k (-1))) ?_ ?_
    · apply eq_X6_shift (d := d + 13)
      simp only [av_kP]
      rw [sp_within, av_bi_s, hx, av_if_t, sp_within, av_bi_s, hy, av_if_f]
    · apply eq_X7_shift (d := d + 19)
      simp only [av_kP]
      rw [isT x N hx, av_bi_s, av_if_t, noT y N hy, av_bi_s, av_if_f]
  have hx' := isT x
  have hy' := isT y
  obtain ⟨t, ht5, rfl⟩ := av_wiD (by decide) hx
  obtain ⟨u, hu5, rfl⟩ := av_wiD (by decide) hy
  obtain ⟨p1, p2, p3⟩ := al_tp (show t < 6 by omega) L
  obtain ⟨g1, g2, g3, g4, g5, g6, g7, g8⟩ := hg t (by omega)
  obtain ⟨q1, q2, q3⟩ := al_tp (show u < 6 by omega) L
  obtain ⟨h1, h2, h3, h4, h5, h6, h7, h8⟩ := hg u (by omega)
  have preC : ∀ q, (if av_k ((st t : Int) - 1) = av_k (-1) then some (some (Value.int (av_k (-11))), N) else if av_k ((st u : Int) - 1) = av_k (-1) then some (some (Value.int (av_k (-11))), N) else if av_k ((st t : Int) - 1) = av_k ((st u : Int) - 1) then (if (decide (¬ m0 < nI 0) && (decide (¬ i0 < nI 0) && decide (i0.toNatClampNeg + m0.toNatClampNeg ≤ ln t))) = false then some (some (Value.int (av_k (-13))), N) else if (decide (¬ m0 < nI 0) && (decide (¬ j0 < nI 0) && decide (j0.toNatClampNeg + m0.toNatClampNeg ≤ ln u))) = false then some (some (Value.int (av_k (-13))), N) else av_gc i0 j0 m0 60 60 (some (some (Value.int m0), av_cpJ N (131 + 2 * t) (131 + 2 * u) i0 j0 m0))) else some (some (Value.int (av_k (-12))), N)) = some q → av_C (av_S0 L) (d + 20) 86 [.ref 9, .int (nI t), .int i0, .int (nI u), .int j0, .int m0] N = some q := fun q hq => by
    apply eq_X6_shift (d := d + 13)
    simp only [av_kP]
    rw [sp_within, av_bi_s, hx, av_if_t, sp_within, av_bi_s, hy, av_if_t, av_gx_s (by omega) (by omega), nI_clamp (by omega), al_R75 t (by omega), av_bd_s, av_gx_s (by omega) (by omega), nI_clamp (by omega), al_R75 u (by omega), av_bd_s, p1, av_tg_s, q1, av_tg_s, g4, h4, av_tg_s, av_tg_s, av_tg_s, sp_hasPart L _ (by omega) g2 g5, av_bi_s, av_tg_s, sp_hasPart L _ (by omega) h2 h5, av_bi_s, av_tg_s, p2, av_bd_s, av_tg_s, q2, av_bd_s, p3, av_tg_s, q3, av_tg_s, av_ge_s (by omega), av_ge_s (by omega)]
    simp only [av_b_0]
    exact hq
  have preM : ∀ M q, M.1 195 t = av_k ((st t : Int) - 1) → M.1 195 u = av_k ((st u : Int) - 1) → M.1 196 t = nI (ln t) → M.1 196 u = nI (ln u) → (if av_k ((st t : Int) - 1) < nI 0 then some (some (Value.int (av_k (-11))), M) else if av_k ((st u : Int) - 1) < nI 0 then some (some (Value.int (av_k (-11))), M) else if av_k ((st t : Int) - 1) = av_k ((st u : Int) - 1) then (if m0 < nI 0 then some (some (Value.int (av_k (-13))), M) else if i0 < nI 0 then some (some (Value.int (av_k (-13))), M) else if j0 < nI 0 then some (some (Value.int (av_k (-13))), M) else if nI (ln t) - m0 < i0 then some (some (Value.int (av_k (-13))), M) else if nI (ln u) - m0 < j0 then some (some (Value.int (av_k (-13))), M) else av_V (av_S0 L) (d + 20) ta_X7_shift 59 [.ref 142, .int (nI t), .int i0, .int (nI u), .int j0, .int m0, .int (nI 0)] [] M) else some (some (Value.int (av_k (-12))), M)) = some q → av_C (av_S0 L) (d + 20) 216 [.ref 142, .int (nI t), .int i0, .int (nI u), .int j0, .int m0] M = some q := fun M q e1 e2 e3 e4 hq => by
    apply eq_X7_shift (d := d + 19)
    simp only [av_kP]
    rw [hx' M hx, av_bi_s, av_if_t, hy' M hy, av_bi_s, av_if_t]
    simp (disch := omega) only [av_gx_s, nI_clamp]
    rw [e1, e2, e3, e4]
    exact hq
  by_cases z1 : st t = 0
  · refine call_no hR' (.int (av_k (-11))) (preC _ ?_) (preM N _ g6 h6 g7 h7 ?_)
    · rw [if_pos ((sT_m1 g1).mpr z1)]
    · rw [if_pos ((sT_lt g1).mpr z1)]
  by_cases z2 : st u = 0
  · refine call_no hR' (.int (av_k (-11))) (preC _ ?_) (preM N _ g6 h6 g7 h7 ?_)
    · rw [if_neg (fun z => z1 ((sT_m1 g1).mp z)), if_pos ((sT_m1 h1).mpr z2)]
    · rw [if_neg (fun z => z1 ((sT_lt g1).mp z)), if_pos ((sT_lt h1).mpr z2)]
  by_cases z3 : av_k ((st t : Int) - 1) = av_k ((st u : Int) - 1)
  · have bad : (m0 < nI 0 ∨ i0 < nI 0 ∨ j0 < nI 0 ∨ ¬ i0.toNatClampNeg + m0.toNatClampNeg ≤ ln t ∨ ¬ j0.toNatClampNeg + m0.toNatClampNeg ≤ ln u) → al_call L (d + 20) N 86 [.ref 9, .int (nI t), .int i0, .int (nI u), .int j0, .int m0] 216 [.ref 142, .int (nI t), .int i0, .int (nI u), .int j0, .int m0] := fun hbad => by
      refine call_no hR' (.int (av_k (-13))) (preC _ ?_) (preM N _ g6 h6 g7 h7 ?_)
      · rw [if_neg (fun z => z1 ((sT_m1 g1).mp z)), if_neg (fun z => z2 ((sT_m1 h1).mp z)), if_pos z3]
        cases c1 : (decide (¬ m0 < nI 0) && (decide (¬ i0 < nI 0) && decide (i0.toNatClampNeg + m0.toNatClampNeg ≤ ln t)))
        · rw [if_pos rfl]
        · cases c2 : (decide (¬ m0 < nI 0) && (decide (¬ j0 < nI 0) && decide (j0.toNatClampNeg + m0.toNatClampNeg ≤ ln u)))
          · rw [if_neg (by decide), if_pos rfl]
          · simp at c1 c2
            rcases hbad with h | h | h | h | h
            · exact absurd h (by have := c1.1; rw [av_le] at this; exact this)
            · exact absurd h (by have := c1.2.1; rw [av_le] at this; exact this)
            · exact absurd h (by have := c2.2.1; rw [av_le] at this; exact this)
            · exact absurd c1.2.2 h
            · exact absurd c2.2.2 h
      · rw [if_neg (fun z => z1 ((sT_lt g1).mp z)), if_neg (fun z => z2 ((sT_lt h1).mp z)), if_pos z3]
        by_cases y1 : m0 < nI 0
        · rw [if_pos y1]
        rw [if_neg y1]
        by_cases y2 : i0 < nI 0
        · rw [if_pos y2]
        rw [if_neg y2]
        by_cases y3 : j0 < nI 0
        · rw [if_pos y3]
        rw [if_neg y3]
        rw [nI_0] at y1 y2 y3
        obtain ⟨m, hm, rfl⟩ := nI_of y1
        obtain ⟨i, hi, rfl⟩ := nI_of y2
        obtain ⟨j, hj, rfl⟩ := nI_of y3
        rw [nI_clamp hm, nI_clamp hi, nI_clamp hj] at hbad
        rw [nI_0] at hbad
        by_cases y4 : ln t < i + m
        · rw [if_pos ((sub_ltg (by omega) hm hi).mpr y4)]
        · rw [if_neg (fun z => y4 ((sub_ltg (by omega) hm hi).mp z)), if_pos ((sub_ltg (by omega) hm hj).mpr (by
            rcases hbad with h | h | h | h | h
            · exact absurd h y1
            · exact absurd h y2
            · exact absurd h y3
            · omega
            · omega))]
    by_cases y1 : m0 < nI 0
    · exact bad (Or.inl y1)
    by_cases y2 : i0 < nI 0
    · exact bad (Or.inr (Or.inl y2))
    by_cases y3 : j0 < nI 0
    · exact bad (Or.inr (Or.inr (Or.inl y3)))
    by_cases y4 : i0.toNatClampNeg + m0.toNatClampNeg ≤ ln t
    · by_cases y5 : j0.toNatClampNeg + m0.toNatClampNeg ≤ ln u
      · have w1 := y1
        have w2 := y2
        have w3 := y3
        rw [nI_0] at w1 w2 w3
        obtain ⟨m, hm, rfl⟩ := nI_of w1
        obtain ⟨i, hi, rfl⟩ := nI_of w2
        obtain ⟨j, hj, rfl⟩ := nI_of w3
        rw [nI_clamp hm, nI_clamp hi] at y4
        rw [nI_clamp hm, nI_clamp hj] at y5
        have n2 : ∀ q k, (av_cpJ N (131 + 2 * t) (131 + 2 * u) (nI i) (nI j) (nI m)).2 q k = if q = 131 + 2 * u ∧ j ≤ k ∧ k < j + m then N.2 (131 + 2 * t) (i + (k - j)) else N.2 q k := fun q k => by
          show (if q = 131 + 2 * u then va_cpy (N.2 (131 + 2 * t)) (N.2 (131 + 2 * u)) (nI i).toNatClampNeg (nI j).toNatClampNeg (nI m).toNatClampNeg k else N.2 q k) = _
          rw [nI_clamp hm, nI_clamp hi, nI_clamp hj]
          unfold va_cpy
          by_cases e : q = 131 + 2 * u
          · rw [if_pos e, e]
            by_cases e2 : j ≤ k ∧ k < j + m
            · rw [if_pos e2, if_pos ⟨rfl, e2⟩]
            · rw [if_neg e2, if_neg (fun z => e2 z.2)]
          · rw [if_neg e, if_neg (fun z => e z.1)]
        -- the reference copies aside, and back
        have back := lp_0 (P := fun c => ∀ M : av_N, (∀ r, r < m → M.2 198 r = it t (i + r)) → (∀ r, r < c → M.2 197 (60 * u + j + r) = it t (i + r)) → (∀ q k, q ≠ 198 → ¬ (q = 197 ∧ 60 * u + j ≤ k ∧ k < 60 * u + j + m) → M.2 q k = (av_cpJ N (131 + 2 * t) (131 + 2 * u) (nI i) (nI j) (nI m)).2 q k) → M.1 = N.1 → ∃ N2, av_V (av_S0 L) (d + 20) ta_X7_shift 80 [.ref 142, .int (nI t), .int (nI i), .int (nI u), .int (nI j), .int (nI m), .int (nI c)] [] M = some (some (.int (nI m)), N2) ∧ (∀ r, r < m → N2.2 197 (60 * u + j + r) = it t (i + r)) ∧ (∀ q k, q ≠ 198 → ¬ (q = 197 ∧ 60 * u + j ≤ k ∧ k < 60 * u + j + m) → N2.2 q k = (av_cpJ N (131 + 2 * t) (131 + 2 * u) (nI i) (nI j) (nI m)).2 q k) ∧ N2.1 = N.1) m (fun M a1 a2 a3 a4 => by
          refine ⟨M, ?_, a2, a3, a4⟩
          apply eq_X7_shift_80 (d := d + 19)
          rw [if_neg (nI_nlt (Nat.le_refl _) hm)]) (fun c hc ih M a1 a2 a3 a4 => by
          obtain ⟨N2, c1, c2⟩ := ih (av_wl M 197 (60 * u + j + c) (it t (i + c))) (fun r hr => by
            rw [av_wl_o _ _ _ _ _ (by decide)]
            exact a1 r hr) (fun r hr => by
            by_cases e : r = c
            · subst e
              exact av_wl_s _ _ _ _
            · rw [av_wl_k _ _ _ _ (by omega)]
              exact a2 r (by omega)) (fun q k hq hk => by
            rw [show (av_wl M 197 (60 * u + j + c) (it t (i + c))).2 q k = M.2 q k from am_up_n _ _ (by omega)]
            exact a3 q k hq hk) a4
          refine ⟨N2, ?_, c2⟩
          apply eq_X7_shift_80 (d := d + 19)
          simp only [av_kP]
          rw [if_pos (nI_lt hc hm), av_gx_s (by omega) (by omega), nI_clamp (by omega), a1 c hc, av_mul, nI_add, nI_add, av_gx_s (by omega) (by omega), nI_clamp (by omega), nI_add]
          exact c1)
        have aside := lp_0 (P := fun c => ∀ M : av_N, (∀ r, r < c → M.2 198 r = it t (i + r)) → (∀ q k, q ≠ 198 → M.2 q k = (av_cpJ N (131 + 2 * t) (131 + 2 * u) (nI i) (nI j) (nI m)).2 q k) → M.1 = N.1 → ∃ N2, av_V (av_S0 L) (d + 20) ta_X7_shift 59 [.ref 142, .int (nI t), .int (nI i), .int (nI u), .int (nI j), .int (nI m), .int (nI c)] [] M = some (some (.int (nI m)), N2) ∧ (∀ r, r < m → N2.2 197 (60 * u + j + r) = it t (i + r)) ∧ (∀ q k, q ≠ 198 → ¬ (q = 197 ∧ 60 * u + j ≤ k ∧ k < 60 * u + j + m) → N2.2 q k = (av_cpJ N (131 + 2 * t) (131 + 2 * u) (nI i) (nI j) (nI m)).2 q k) ∧ N2.1 = N.1) m (fun M a1 a2 a3 => by
          obtain ⟨N2, c1, c2⟩ := back M a1 (fun r hr => absurd hr (Nat.not_lt_zero _)) (fun q k hq _ => a2 q k hq) a3
          refine ⟨N2, ?_, c2⟩
          apply eq_X7_shift_59 (d := d + 19)
          simp only [av_kP]
          rw [if_neg (nI_nlt (Nat.le_refl _) hm)]
          exact c1) (fun c hc ih M a1 a2 a3 => by
          have e1 : M.2 197 (60 * t + i + c) = it t (i + c) := by
            rw [a2 _ _ (by decide), n2, if_neg (by omega), show 60 * t + i + c = 60 * t + (i + c) by omega]
            exact (g8 (i + c) (by omega)).2
          obtain ⟨N2, c1, c2⟩ := ih (av_wl M 198 c (it t (i + c))) (fun r hr => by
            by_cases e : r = c
            · subst e
              exact av_wl_s _ _ _ _
            · rw [av_wl_k _ _ _ _ e]
              exact a1 r (by omega)) (fun q k hq => by
            rw [av_wl_o _ _ _ _ _ hq]
            exact a2 q k hq) a3
          refine ⟨N2, ?_, c2⟩
          apply eq_X7_shift_59 (d := d + 19)
          simp only [av_kP]
          rw [if_pos (nI_lt hc hm), av_mul, nI_add, nI_add, av_gx_s (by omega) (by omega), av_gx_s (by omega) (by omega), nI_clamp (by omega), nI_clamp (by omega), e1, nI_add]
          exact c1)
        obtain ⟨N2, c1, c2, c3, c4⟩ := aside (av_cpJ N (131 + 2 * t) (131 + 2 * u) (nI i) (nI j) (nI m)) (fun r hr => absurd hr (Nat.not_lt_zero _)) (fun _ _ _ => rfl) rfl
        refine ⟨.int (nI m), av_cpJ N (131 + 2 * t) (131 + 2 * u) (nI i) (nI j) (nI m), N2, preC _ ?_, preM _ _ g6 h6 g7 h7 ?_, ⟨n, day, B, e, k, T, RA_T h (fun q k hq => ?_) ⟨_, _, _, gT_up hg (t := u) (s := st u) (l := ln u) (v := fun r => if j ≤ r ∧ r < j + m then it t (i + (r - j)) else it u r) (by omega) h1 h2 h3 (by rw [c4]; exact h4) (by rw [c4]; exact h5) (by rw [c4]; exact h6) (by rw [c4]; exact h7) (fun r hr => ?_) (fun w hw hwu => ⟨fun k => by rw [c4], by rw [c4], by rw [c4], fun r hr => ⟨?_, ?_⟩⟩)⟩⟩, fun _ => rfl⟩
        · rw [if_neg (fun z => z1 ((sT_m1 g1).mp z)), if_neg (fun z => z2 ((sT_m1 h1).mp z)), if_pos z3, nI_clamp hm, nI_clamp hi, nI_clamp hj, decide_eq_true y1, decide_eq_true y2, decide_eq_true y3, decide_eq_true y4, decide_eq_true y5]
          rw [if_neg (by decide), if_neg (by decide)]
          exact if_pos ⟨by rw [← nI_0]; exact y2, by rw [← nI_0]; exact y3, by rw [← nI_0]; exact y1, by rw [nI_clamp hm, nI_clamp hi]; omega, by rw [nI_clamp hm, nI_clamp hj]; omega⟩
        · rw [if_neg (fun z => z1 ((sT_lt g1).mp z)), if_neg (fun z => z2 ((sT_lt h1).mp z)), if_pos z3, if_neg y1, if_neg y2, if_neg y3, if_neg (fun z => by have := (sub_ltg (by omega) hm hi).mp z; omega), if_neg (fun z => by have := (sub_ltg (by omega) hm hj).mp z; omega)]
          exact c1
        · unfold uT uZ at hq
          refine ⟨by rw [c4], ?_⟩
          rw [c3 q k (by omega) (by omega), n2, if_neg (by omega)]
        · refine ⟨?_, ?_⟩
          · rw [c3 _ _ (by omega) (by omega), n2]
            by_cases e : j ≤ r ∧ r < j + m
            · rw [if_pos ⟨rfl, e⟩, if_pos e]
              exact (g8 _ (by omega)).1
            · rw [if_neg (fun z => e z.2), if_neg e]
              exact (h8 r hr).1
          · by_cases e : j ≤ r ∧ r < j + m
            · rw [if_pos e]
              have := c2 (r - j) (by omega)
              rw [show 60 * u + j + (r - j) = 60 * u + r by omega] at this
              exact this
            · rw [if_neg e, c3 _ _ (by decide) (by omega), n2, if_neg (by omega)]
              exact (h8 r hr).2
        · rw [c3 _ _ (by omega) (by omega), n2, if_neg (by omega)]
        · rw [c3 _ _ (by decide) (by omega), n2, if_neg (by omega)]
      · exact bad (Or.inr (Or.inr (Or.inr (Or.inr y5))))
    · exact bad (Or.inr (Or.inr (Or.inr (Or.inl y4))))
  · refine call_no hR' (.int (av_k (-12))) (preC _ ?_) (preM N _ g6 h6 g7 h7 ?_)
    · rw [if_neg (fun z => z1 ((sT_m1 g1).mp z)), if_neg (fun z => z2 ((sT_m1 h1).mp z)), if_neg z3]
    · rw [if_neg (fun z => z1 ((sT_lt g1).mp z)), if_neg (fun z => z2 ((sT_lt h1).mp z)), if_neg z3]
