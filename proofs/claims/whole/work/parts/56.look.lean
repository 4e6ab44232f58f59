/-! looked, judge -/
def gK (N : av_N) (P fs p n s : Nat) (X : Nat → Nat → Nat) : Prop := s ≤ 8 ∧ al_rows N P s 2 X ∧ N.1 142 fs = nI s ∧ (∀ r, r < s → N.1 p r = nI (X r 0) ∧ N.1 (p + 1) r = nI (X r 1)) ∧ ∀ r, r < s → X r 0 < n ∧ X r 1 ≤ 9999
def gL (N : av_N) (P fs p n s : Nat) (X : Nat → Nat → Nat) : Prop := s ≤ 6 ∧ al_rows N P s 3 X ∧ N.1 142 fs = nI s ∧ (∀ r, r < s → N.1 p r = nI (X r 0) ∧ N.1 (p + 1) r = nI (X r 1) ∧ N.1 (p + 2) r = nI (X r 2)) ∧ ∀ r, r < s → X r 0 < n ∧ X r 1 ≤ 9 ∧ X r 2 < 24
def gT (N : av_N) (st ln : Nat → Nat) (it : Nat → Nat → Int64) : Prop := ∀ t, t < 6 → st t ≤ 5 ∧ ln t ≤ 60 ∧ (st t = 0 → ln t = 0) ∧ N.1 (130 + 2 * t) 1 = av_k ((st t : Int) - 1) ∧ N.1 (130 + 2 * t) 2 = nI (ln t) ∧ N.1 195 t = av_k ((st t : Int) - 1) ∧ N.1 196 t = nI (ln t) ∧ ∀ j, j < 60 → N.2 (131 + 2 * t) j = it t j ∧ N.2 197 (60 * t + j) = it t j
theorem sEmp_t (p : Nat → Bool) {k s : Nat} (h : k < s) : sEmp p (s - k) k = if p k then nI k else sEmp p (s - (k + 1)) (k + 1) := by
  rw [show s - k = (s - (k + 1)) + 1 by omega]
  rfl
theorem ca_looked (L : av_W) (d : Nat) {N : av_N} {n day : Nat} {B : Nat → Nat → Nat} {cs : List (Nat × Nat × List Nat)} (hc : al_cv N n day B cs) (hm : al_mv N n day B cs) {s : Nat} {X : Nat → Nat → Nat} (hg : gK N 22 42 173 n s X) : al_ask L (d + 20) N n day B cs 75 [.ref 9] 195 [.ref 142] := by
  obtain ⟨hs, e, he⟩ := hc
  have hn := hs.1
  obtain ⟨s8, hr, g1, g2, g3⟩ := hg
  refine ask_eq hm (.int (sEmp (fun r => !(B (X r 0) 8 == X r 1)) s 0)) ?_ ?_
  · have key := lp_0 (P := fun k => ∀ v, (v = am_junk ∨ ∃ p, v = .ref p) → av_V (av_S0 L) (d + 20) ta_X6_looked 2 [.ref 9, .int (nI k), v] [] N = some (some (.int (sEmp (fun r => !(B (X r 0) 8 == X r 1)) (s - k) k)), N)) s (fun v hv => by
      rw [Nat.sub_self]
      rcases hv with rfl | ⟨p, rfl⟩
      · apply eq_X6_looked_2_a (d := d + 19)
        rw [hr.1, if_neg (nI_nlt (Nat.le_refl _) (by omega))]
        rfl
      · apply eq_X6_looked_2_b (d := d + 19)
        rw [hr.1, if_neg (nI_nlt (Nat.le_refl _) (by omega))]
        rfl) (fun k hk ih v hv => by
      obtain ⟨b1, b2⟩ := g3 k hk
      have r0 : N.1 23 k = nI (X k 0) := hr.2 k hk 0 (by decide)
      have r1 : N.1 24 k = nI (X k 1) := hr.2 k hk 1 (by decide)
      obtain ⟨kb, ok, -⟩ := hs.2.2.2.1 (X k 0) b1
      have hbp : al_bp (27 + 2 * X k 0) := al_bp27 (by omega)
      obtain ⟨t1, t2, t3, t4⟩ := al_bpE hbp L
      have o8 : B (X k 0) 8 ≤ 9999 := ok.2.2.2.2.2.2.2.2.2.1
      have ih' := ih (.ref (27 + 2 * X k 0)) (Or.inr ⟨_, rfl⟩)
      rw [sEmp_t _ hk]
      have body : (if nI (B (X k 0) 8) = nI (X k 1) then av_V (av_S0 L) (d + 19 + 1) ta_X6_looked 2 [.ref 9, .int (nI k + nI 1), .ref (27 + 2 * X k 0)] [] N else some (some (.int (nI k)), N)) = some (some (.int (if (!(B (X k 0) 8 == X k 1)) then nI k else sEmp (fun r => !(B (X r 0) 8 == X r 1)) (s - (k + 1)) (k + 1))), N) := by
        rw [nI_add]
        by_cases h : B (X k 0) 8 = X k 1
        · rw [if_pos (congrArg nI h), h]
          simpa using ih'
        · rw [if_neg (nI_ne (by omega) (by omega) h), show (B (X k 0) 8 == X k 1) = false from by simpa using h]
          rfl
      rcases hv with rfl | ⟨p, rfl⟩
      · apply eq_X6_looked_2_a (d := d + 19)
        simp only [av_kP]
        rw [hr.1, if_pos (nI_lt hk (by omega)), av_gx_s (by omega) (by omega), nI_clamp (by omega), r0, sp_birdAt L _ hs.2.1 hn b1, av_br_s, t1, av_tg_s, av_gx_s (by omega) (by omega), kb.1 8 (by decide) (by decide), r1]
        exact body
      · apply eq_X6_looked_2_b (d := d + 19)
        simp only [av_kP]
        rw [hr.1, if_pos (nI_lt hk (by omega)), av_gx_s (by omega) (by omega), nI_clamp (by omega), r0, sp_birdAt L _ hs.2.1 hn b1, av_br_s, t1, av_tg_s, av_gx_s (by omega) (by omega), kb.1 8 (by decide) (by decide), r1]
        exact body)
    apply eq_X6_looked (d := d + 19)
    simp only [av_kP]
    exact key am_junk (Or.inl rfl)
  · have key := lp_0 (P := fun k => av_V (av_S0 L) (d + 20) ta_X7_looked 2 [.ref 142, .int (nI k)] [] N = some (some (.int (sEmp (fun r => !(B (X r 0) 8 == X r 1)) (s - k) k)), N)) s (by
      rw [Nat.sub_self]
      apply eq_X7_looked_2
      rw [g1, if_neg (nI_nlt (Nat.le_refl _) (by omega))]
      rfl) (fun k hk ih => by
      obtain ⟨b1, b2⟩ := g3 k hk
      obtain ⟨r0, r1⟩ := g2 k hk
      have r1 : N.1 174 k = nI (X k 1) := r1
      have ok := (hs.2.2.2.1 (X k 0) b1).2.1
      have o8 : B (X k 0) 8 ≤ 9999 := ok.2.2.2.2.2.2.2.2.2.1
      have m7 := (hm.2.1.2.2 (X k 0) b1).2.2.2.2.2.2.1
      rw [sEmp_t _ hk]
      apply eq_X7_looked_2
      simp only [av_kP]
      rw [g1, if_pos (nI_lt hk (by omega)), av_gx_s (by omega) (by omega), nI_clamp (by omega), r0, av_gx_s (by omega) (by omega), nI_clamp (by omega), av_gx_s (by omega) (by omega), m7, r1, nI_add]
      by_cases h : B (X k 0) 8 = X k 1
      · rw [if_pos (congrArg nI h), h]
        simpa using ih
      · rw [if_neg (nI_ne (by omega) (by omega) h), show (B (X k 0) 8 == X k 1) = false from by simpa using h]
        rfl)
    apply eq_X7_looked
    simp only [av_kP]
    exact key
theorem al_R75 : ∀ j, j < 6 → am_MR 75 j = some (130 + 2 * j) := by decide
theorem al_tp {t : Nat} (h : t < 6) (L : av_W) : am_MS L (130 + 2 * t) = (5, 3) ∧ am_MR (130 + 2 * t) 0 = some (131 + 2 * t) ∧ am_MS L (131 + 2 * t) = (101, 60) := by
  rcases (by omega : t = 0 ∨ t = 1 ∨ t = 2 ∨ t = 3 ∨ t = 4 ∨ t = 5) with rfl | rfl | rfl | rfl | rfl | rfl <;> exact ⟨rfl, rfl, rfl⟩
def sJdg (it : Nat → Int64) (f : Nat → Nat) (l i : Nat) : Nat → Nat → Int32
  | 0, _ => av_k (-5)
  | m + 1, k => if i + k < l then (if lg_cmp (it (i + k)) (lN (f k)) = nI 0 then sJdg it f l i m (k + 1) else nI k) else nI (100 + k)
theorem sJdg_s (it : Nat → Int64) (f : Nat → Nat) (l i : Nat) {k : Nat} (h : k < 24) : sJdg it f l i (24 - k) k = if i + k < l then (if lg_cmp (it (i + k)) (lN (f k)) = nI 0 then sJdg it f l i (24 - (k + 1)) (k + 1) else nI k) else nI (100 + k) := by
  rw [show 24 - k = (24 - (k + 1)) + 1 by omega]
  rfl
theorem lt_sub {i a b : Nat} (hi : i < 2 ^ 31) (ha : a < 2 ^ 20) (hb : b < 2 ^ 20) : (nI i < nI a - nI b) ↔ i + b < a := by
  rw [← av_kN a, av_ksub, Int32.lt_iff_toInt_lt, av_kI (by omega) (by omega), nI_toInt hi]
  omega
theorem sub_lt1 {i a b : Nat} (hi : i < 2 ^ 31) (ha : a < 2 ^ 20) (hb : b < 2 ^ 20) : (nI a - nI b - nI 1 < nI i) ↔ ¬ i + b < a := by
  rw [← av_kN a, av_ksub, av_ksub, Int32.lt_iff_toInt_lt, av_kI (by omega) (by omega), nI_toInt hi]
  omega
theorem ca_judge (L : av_W) (d : Nat) {N : av_N} {n day : Nat} {B : Nat → Nat → Nat} {cs : List (Nat × Nat × List Nat)} (hc : al_cv N n day B cs) (hm : al_mv N n day B cs) {st ln : Nat → Nat} {it : Nat → Nat → Int64} (hg : gT N st ln it) (x y : Int32) : al_ask L (d + 20) N n day B cs 76 [.ref 9, .int x, .int y] 196 [.ref 142, .int x, .int y] := by
  obtain ⟨hs, e, he⟩ := hc
  have hn := hs.1
  have ht := sTop_le cs
  obtain ⟨q1, q2, q3, q4⟩ := al_epE (al_ep_e he.1) L
  have hes := he.2.2.1.2.2.2.1
  cases hx : av_wi x (nI 0) (nI 5)
  · refine ask_eq hm (.int (av_k (-1))) ?_ ?_
    · apply eq_X6_judge (d := d + 19)
      simp only [av_kP]
      rw [sp_within, av_bi_s, hx, av_if_f]
    · apply eq_X7_judge (d := d + 19)
      rw [show av_C (av_S0 L) (d + 19) 211 [.ref 142, .int x] N = some (some (.int (av_b false)), N) from by
        apply eq_X7_isTape (d := d + 18)
        simp only [av_kP]
        rw [sp_in, av_bi_s, hx, av_bt_b], av_bi_s, av_if_fk]
  obtain ⟨t, ht5, rfl⟩ := av_wiD (by decide) hx
  have isT : ∀ M, av_C (av_S0 L) (d + 19) 211 [.ref 142, .int (nI t)] M = some (some (.int (av_b true)), M) := fun M => by
    apply eq_X7_isTape (d := d + 18)
    simp only [av_kP]
    rw [sp_in, av_bi_s, hx, av_bt_b]
  obtain ⟨p1, p2, p3⟩ := al_tp (show t < 6 by omega) L
  obtain ⟨g1, g2, g3, g4, g5, g6, g7, g8⟩ := hg t (by omega)
  have sneg : ∀ k : Nat, k ≤ 5 → (av_k ((st t : Int) - 1) = nI k ↔ st t = k + 1) := fun k hk => by
    rw [← av_kN k]
    constructor
    · intro z
      have := congrArg Int32.toInt z
      rw [av_kI (by omega) (by omega), av_kI (by omega) (by omega)] at this
      omega
    · intro z
      rw [z]
      congr 1
      omega
  have sm1 : av_k ((st t : Int) - 1) = av_k (-1) ↔ st t = 0 := by
    constructor
    · intro z
      have := congrArg Int32.toInt z
      rw [av_kI (by omega) (by omega), av_kI (by omega) (by omega)] at this
      omega
    · intro z
      rw [z]
      rfl
  have slt : av_k ((st t : Int) - 1) < nI 0 ↔ st t = 0 := by
    rw [av_klt0 (by omega) (by omega)]
    omega
  by_cases hcast : st t = 0 ∨ st t = 4
  · by_cases hneg : y < nI 0
    · refine ask_eq hm (.int (nI 100)) ?_ ?_
      · apply eq_X6_judge (d := d + 19)
        simp only [av_kP]
        rw [sp_within, av_bi_s, hx, av_if_t, av_gx_s (by omega) (by omega), nI_clamp (by omega), al_R75 t (by omega), av_bd_s, p1, av_tg_s, av_tg_s, g4, if_pos hneg]
        rcases hcast with h | h
        · rw [if_pos (sm1.mpr h)]
        · rw [if_neg (fun z => by have := sm1.mp z; omega), if_pos ((sneg 3 (by decide)).mpr (by omega))]
      · have v21 : av_V (av_S0 L) (d + 20) ta_X7_judge 21 [.ref 142, .int (nI t), .int y, .int (nI 0)] [] N = some (some (.int (nI 100)), N) := by
          apply eq_X7_judge_21 (d := d + 19)
          simp only [av_kP]
          rw [if_pos (nI_lt (by decide) (by decide)), av_gx_s (by omega) (by omega), nI_clamp (by omega), g6, if_pos hneg, nI_add]
          split <;> rfl
        apply eq_X7_judge (d := d + 19)
        simp only [av_kP]
        rw [isT, av_bi_s, av_if_t, av_gx_s (by omega) (by omega), nI_clamp (by omega), g6, av_gx_s (by omega) (by omega), v21]
        rcases hcast with h | h
        · rw [if_pos (slt.mpr h)]
        · rw [if_neg (fun z => by have := slt.mp z; omega), if_pos ((sneg 3 (by decide)).mpr (by omega))]
    · have hneg' := hneg
      rw [nI_0] at hneg'
      obtain ⟨i, hi, rfl⟩ := nI_of hneg'
      obtain ⟨N1, c1, l1, f1⟩ := sp_layAir_10 L (d + 16) hs ht.2 neN
      have frT : ∀ M : av_N, (∀ q k, 130 ≤ q → q ≤ 141 ∨ (195 ≤ q ∧ q ≤ 197) → M.1 q k = N.1 q k ∧ M.2 q k = N.2 q k) → M.1 (130 + 2 * t) 2 = nI (ln t) ∧ M.1 195 t = av_k ((st t : Int) - 1) ∧ M.1 196 t = nI (ln t) ∧ ∀ j, j < 60 → M.2 (131 + 2 * t) j = it t j ∧ M.2 197 (60 * t + j) = it t j := fun M h => ⟨((h _ _ (by omega) (by omega)).1).trans g5, ((h _ _ (by omega) (by omega)).1).trans g6, ((h _ _ (by omega) (by omega)).1).trans g7, fun j hj => ⟨((h _ _ (by omega) (by omega)).2).trans (g8 j hj).1, ((h _ _ (by omega) (by omega)).2).trans (g8 j hj).2⟩⟩
      have t1 := frT N1 (fun q k a b => f1 q (by unfold al_dL; omega) k)
      refine ask_of hm (.int (sJdg (it t) (sFree B n (sTop cs) day) (ln t) i 24 0)) (N1 := N1) ?_ (al_dLC f1) (fun M hfM hmM => ?_)
      · have key := lp_0 (P := fun k => av_V (av_S0 L) (d + 20) ta_X6_judge 38 [.ref 9, .int (nI t), .int (nI i), .ref (130 + 2 * t), .int (nI (sTop cs)), .int (nI k)] [] N1 = some (some (.int (sJdg (it t) (sFree B n (sTop cs) day) (ln t) i (24 - k) k)), N1)) 24 (by
          apply eq_X6_judge_38 (d := d + 19)
          simp only [av_kP]
          rw [if_neg (nI_nlt (Nat.le_refl _) (by decide))]
          rfl) (fun k hk ih => by
          rw [sJdg_s _ _ _ _ hk]
          apply eq_X6_judge_38 (d := d + 19)
          simp only [av_kP]
          rw [if_pos (nI_lt hk (by decide)), p1, av_tg_s, av_tg_s, t1.1, p2, av_bd_s, p3, av_tg_s]
          by_cases hik : i + k < ln t
          · have hfl := sFree_lt B n day k ht.2
            rw [if_pos ((lt_sub hi (by omega) (by omega)).mpr hik), if_pos hik, nI_add, av_gx_s (by show i + k < 60; omega) (by omega), nI_clamp (by omega), (t1.2.2.2 (i + k) (by omega)).1, sp_freeAt L _ hn l1 ht.2 hk, av_bi_s, nI_l (by omega), nI_add]
            by_cases hz : lg_cmp (it t (i + k)) (lN (sFree B n (sTop cs) day k)) = nI 0
            · rw [if_pos hz, if_pos hz]
              exact ih
            · rw [if_neg hz, if_neg hz]
          · rw [if_neg (fun z => hik ((lt_sub hi (by omega) (by omega)).mp z)), if_neg hik, nI_add])
        apply eq_X6_judge (d := d + 19)
        simp only [av_kP]
        rw [sp_within, av_bi_s, hx, av_if_t, av_gx_s (by omega) (by omega), nI_clamp (by omega), al_R75 t (by omega), av_bd_s, p1, av_tg_s, av_tg_s, g4, if_neg hneg, sp_estuaryNow L _ he, av_br_s, q1, av_tg_s, hes, c1, av_bv_s]
        rcases hcast with h | h
        · rw [if_pos (sm1.mpr h)]
          exact key
        · rw [if_neg (fun z => by have := sm1.mp z; omega), if_pos ((sneg 3 (by decide)).mpr (by omega))]
          exact key
      · have t2 := frT M (fun q k a b => hfM q (by unfold al_dC; omega) k)
        refine ⟨M, ?_, hmM, al_f2_rf _ _⟩
        have key := lp_0 (P := fun k => av_V (av_S0 L) (d + 20) ta_X7_judge 21 [.ref 142, .int (nI t), .int (nI i), .int (nI k)] [] M = some (some (.int (sJdg (it t) (sFree B n (sTop cs) day) (ln t) i (24 - k) k)), M)) 24 (by
          apply eq_X7_judge_21 (d := d + 19)
          simp only [av_kP]
          rw [if_neg (nI_nlt (Nat.le_refl _) (by decide))]
          rfl) (fun k hk ih => by
          rw [sJdg_s _ _ _ _ hk]
          apply eq_X7_judge_21 (d := d + 19)
          simp only [av_kP]
          rw [if_pos (nI_lt hk (by decide)), av_gx_s (by omega) (by omega), nI_clamp (by omega), t2.2.1, if_neg hneg, av_gx_s (by omega) (by omega), t2.2.2.1]
          by_cases hik : i + k < ln t
          · have hfl := sFree_lt B n day k ht.2
            rw [if_neg (fun z => by have := slt.mp z; have := g3 this; omega), if_neg (fun z => (sub_lt1 hi (by omega) (by omega)).mp z hik), if_pos hik, av_mul, nI_add, nI_add, av_gx_s (by omega) (by omega), nI_clamp (by omega), show 60 * t + i + k = 60 * t + (i + k) by omega, (t2.2.2.2 (i + k) (by omega)).2, sp_freeAtM L _ hmM hk, av_bi_s, nI_l (by omega), nI_add]
            by_cases hz : lg_cmp (it t (i + k)) (lN (sFree B n (sTop cs) day k)) = nI 0
            · rw [if_pos hz, if_pos hz]
              exact ih
            · rw [if_neg hz, if_neg hz]
          · rw [if_neg hik, if_pos ((sub_lt1 hi (by omega) (by omega)).mpr hik), nI_add]
            split <;> rfl)
        apply eq_X7_judge (d := d + 19)
        simp only [av_kP]
        rw [isT, av_bi_s, av_if_t, av_gx_s (by omega) (by omega), nI_clamp (by omega), t2.2.1, av_gx_s (by omega) (by omega)]
        rcases hcast with h | h
        · rw [if_pos (slt.mpr h)]
          exact key
        · rw [if_neg (fun z => by have := slt.mp z; omega), if_pos ((sneg 3 (by decide)).mpr (by omega))]
          exact key
  · refine ask_eq hm (.int (av_k (-12))) ?_ ?_
    · apply eq_X6_judge (d := d + 19)
      simp only [av_kP]
      rw [sp_within, av_bi_s, hx, av_if_t, av_gx_s (by omega) (by omega), nI_clamp (by omega), al_R75 t (by omega), av_bd_s, p1, av_tg_s, av_tg_s, g4, if_neg (fun z => hcast (Or.inl (sm1.mp z))), if_neg (fun z => hcast (Or.inr ((sneg 3 (by decide)).mp z)))]
    · apply eq_X7_judge (d := d + 19)
      simp only [av_kP]
      rw [isT, av_bi_s, av_if_t, av_gx_s (by omega) (by omega), nI_clamp (by omega), g6, av_gx_s (by omega) (by omega), if_neg (fun z => hcast (Or.inl (slt.mp z))), if_neg (fun z => hcast (Or.inr ((sneg 3 (by decide)).mp z)))]
