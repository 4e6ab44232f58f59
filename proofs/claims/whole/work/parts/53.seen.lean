/-! what was seen: the class -/
def al_rows (N : av_N) (P s w : Nat) (X : Nat → Nat → Nat) : Prop := N.1 P 4 = nI s ∧ ∀ r, r < s → ∀ j, j < w → N.1 (P + 1 + j) r = nI (X r j)
/-- what was seen, in both: rows of height, hour, whether held, days -/
def gS (N : av_N) (P fs p ph s : Nat) (S : Nat → Nat → Nat) : Prop := s ≤ 5 ∧ al_rows N P s 4 S ∧ N.1 142 fs = nI s ∧ (∀ r, r < s → N.1 p r = nI (S r 0) ∧ N.1 (p + 1) r = nI (S r 1) ∧ N.1 (p + 2) r = nI (S r 3) ∧ N.1 ph r = nI (S r 2)) ∧ ∀ r, r < s → S r 0 ≤ 9 ∧ S r 1 < 24 ∧ S r 2 ≤ 1 ∧ S r 3 ≤ 20
def sSee (S : Nat → Nat → Nat) (cs : List (Nat × Nat × List Nat)) (day : Nat) (X : Nat → Nat) (r : Nat) : Bool := sHolds (sLive X cs (sGain cs) (sTop cs) day (S r 3)) (sTop cs) (day + S r 3) (S r 0) (S r 1)
def sLastP (S : Nat → Nat → Nat) : Nat → Nat
  | 0 => 0
  | r + 1 => if sLastP S r < S r 3 + 1 then S r 3 + 1 else sLastP S r
theorem sLastP_le {S : Nat → Nat → Nat} : ∀ {s r : Nat}, r < s → S r 3 < sLastP S s
  | s + 1, r, h => by
    unfold sLastP
    by_cases e : r = s
    · subst e
      split <;> omega
    · have := sLastP_le (S := S) (show r < s by omega)
      split <;> omega
theorem sLastP_21 {S : Nat → Nat → Nat} : ∀ {s : Nat}, (∀ r, r < s → S r 3 ≤ 20) → sLastP S s ≤ 21
  | 0, _ => Nat.zero_le _
  | s + 1, h => by
    have h1 := sLastP_21 (S := S) (s := s) (fun r hr => h r (by omega))
    have h2 := h s (by omega)
    unfold sLastP
    split <;> omega
theorem av_kk {a b : Int} (ha : -2147483648 ≤ a ∧ a ≤ 2147483647) (hb : -2147483648 ≤ b ∧ b ≤ 2147483647) : av_k a < av_k b ↔ a < b := by
  rw [Int32.lt_iff_toInt_lt, av_kI ha.1 ha.2, av_kI hb.1 hb.2]
theorem sp_lastSeen (L : av_W) (d : Nat) {N : av_N} {s : Nat} {S : Nat → Nat → Nat} (hs : s ≤ 5) (hr : al_rows N 12 s 4 S) (hb : ∀ r, r < s → S r 3 ≤ 20) : av_C (av_S0 L) (d + 1) 104 [.ref 9] N = some (some (.int (av_k ((sLastP S s : Int) - 1))), N) := by
  have key := lp_0 (P := fun k => av_V (av_S0 L) (d + 1) ta_X6_lastSeenDays 4 [.ref 9, .int (av_k ((sLastP S k : Int) - 1)), .int (nI k)] [] N = some (some (.int (av_k ((sLastP S s : Int) - 1))), N)) s (by
    apply eq_X6_lastSeenDays_4 (d := d)
    rw [hr.1, if_neg (nI_nlt (Nat.le_refl _) (by omega))]) (fun k hk ih => by
    have h20 := hb k hk
    have h21 := sLastP_21 (S := S) (s := k) (fun r hr => hb r (by omega))
    have h16 : N.1 16 k = nI (S k 3) := hr.2 k hk 3 (by decide)
    apply eq_X6_lastSeenDays_4 (d := d)
    rw [hr.1, if_pos (nI_lt hk (by omega)), av_gx_s (by omega) (by omega), nI_clamp (by omega), h16, sp_max, av_bi_s, av_kP, nI_add]
    have e : (if av_k ((sLastP S k : Int) - 1) < nI (S k 3) then nI (S k 3) else av_k ((sLastP S k : Int) - 1)) = av_k ((sLastP S (k + 1) : Int) - 1) := by
      have es : sLastP S (k + 1) = if sLastP S k < S k 3 + 1 then S k 3 + 1 else sLastP S k := rfl
      rw [← av_kN (S k 3), es]
      by_cases h : sLastP S k < S k 3 + 1
      · rw [if_pos ((av_kk (by omega) (by omega)).mpr (by omega)), if_pos h]
        congr 1
        omega
      · rw [if_neg (fun z => h (by have := (av_kk (by omega) (by omega)).mp z; omega)), if_neg h]
    rw [e]
    exact ih)
  apply eq_X6_lastSeenDays (d := d)
  rw [av_kP]
  exact key
theorem sBits_cg2 {p q : Nat → Bool} {n : Nat} (h : ∀ i, i < n → p i = q i) : sBits p n = sBits q n := sBits_cg h
theorem sBits_or2 (p q : Nat → Bool) (n : Nat) : sBits p n ||| sBits q n = sBits (fun i => p i || q i) n := by
  apply Nat.eq_of_testBit_eq
  intro i
  rw [Nat.testBit_or, sBits_bit, sBits_bit, sBits_bit]
  cases decide (i < n) <;> simp
theorem sBits_inj {p q : Nat → Bool} {n : Nat} (h : sBits p n = sBits q n) : ∀ i, i < n → p i = q i := by
  intro i hi
  have h1 := sBits_bit p n i
  have h2 := sBits_bit q n i
  rw [h, h2, decide_eq_true hi, Bool.true_and, Bool.true_and] at h1
  exact h1.symm
theorem sp_seenAsTold (L : av_W) (d : Nat) {N : av_N} {s : Nat} {S : Nat → Nat → Nat} (hs : s ≤ 5) (hr : al_rows N 12 s 4 S) (hb : ∀ r, r < s → S r 2 ≤ 1) : av_C (av_S0 L) d 105 [.ref 9] N = some (some (.int (nI (sBits (fun r => S r 2 == 1) s))), N) := by
  have key := lp_0 (P := fun k => av_V (av_S0 L) d ta_X6_seenAsTold 4 [.ref 9, .int (nI (sBits (fun r => S r 2 == 1) k)), .int (nI k)] [] N = some (some (.int (nI (sBits (fun r => S r 2 == 1) s))), N)) s (by
    apply eq_X6_seenAsTold_4
    rw [hr.1, if_neg (nI_nlt (Nat.le_refl _) (by omega))]) (fun k hk ih => by
    have h1 := hb k hk
    have h15 : N.1 15 k = nI (S k 2) := hr.2 k hk 2 (by decide)
    apply eq_X6_seenAsTold_4
    rw [hr.1, if_pos (nI_lt hk (by omega)), av_gx_s (by omega) (by omega), nI_clamp (by omega), h15, av_shl _ (by omega), av_or, av_kP, nI_add]
    have e : sBits (fun r => S r 2 == 1) (k + 1) = sBits (fun r => S r 2 == 1) k ||| S k 2 * 2 ^ k := by
      show _ ||| (if S k 2 == 1 then 2 ^ k else 0) = _
      rcases (by omega : S k 2 = 0 ∨ S k 2 = 1) with h | h <;> rw [h]
      · rw [if_neg (by decide), Nat.zero_mul]
      · rw [if_pos (by decide), Nat.one_mul]
    rw [← e]
    exact ih)
  apply eq_X6_seenAsTold
  rw [av_kP]
  exact key
theorem al_rows_fr {N N' : av_N} {P s w : Nat} {X : Nat → Nat → Nat} (h : al_rows N P s w X) {D : Nat → Prop} (hf : al_fr D N N') (hD : ∀ q, P ≤ q → q ≤ P + w → ¬ D q) : al_rows N' P s w X := ⟨((hf _ (hD P (Nat.le_refl _) (by omega)) 4).1).trans h.1, fun r hr j hj => ((hf _ (hD _ (by omega) (by omega)) r).1).trans (h.2 r hr j hj)⟩
theorem sp_seenHeldBy (L : av_W) (d : Nat) {N : av_N} {n day e s b low : Nat} {S B : Nat → Nat → Nat} {cs : List (Nat × Nat × List Nat)} (hs : al_sn N 10 27 n day B) (he : al_ce N e cs) (hD : day ≤ 9999) (s5 : s ≤ 5) (hr : al_rows N 12 s 4 S) (hS : ∀ r, r < s → S r 0 ≤ 9 ∧ S r 1 < 24 ∧ S r 2 ≤ 1 ∧ S r 3 ≤ 20) (hb : b < n) (hl : low ≤ 9) : ∃ N', av_C (av_S0 L) (d + 8) 103 [.ref 9, .ref (27 + 2 * b), .int (nI low), .ref (116 + 2 * e)] N = some (some (.int (nI (sBits (sSee S cs day (sSet (B b) 4 low)) s))), N') ∧ al_fr al_dH N N' := by
  have hn := hs.1
  have ht := sTop_le cs
  obtain ⟨kb, ok, -⟩ := hs.2.2.2.1 b hb
  have okl := al_ok_4 ok hl
  obtain ⟨q1, q2, q3, q4⟩ := al_epE (al_ep_e he.1) L
  have h21 := sLastP_21 (S := S) (s := s) (fun r hr => (hS r hr).2.2.2)
  have fs : ∀ M, al_fr al_dH N M → al_sn M 10 27 n day B ∧ al_ce M e cs ∧ al_rows M 12 s 4 S := fun M h => ⟨al_cv_H hs h, al_ce_H he h, al_rows_fr hr h (fun q a b => by unfold al_dH; omega)⟩
  have rows : ∀ k, k < sLastP S s → (∀ M T, al_fr al_dH N M → al_bd M 108 (sLive (sSet (B b) 4 low) cs (sGain cs) (sTop cs) day (k + 1)) → okW T → ∃ N', av_V (av_S0 L) (d + 8) ta_X6_seenHeldBy 15 (.ref 9 :: .ref (27 + 2 * b) :: .int (nI low) :: .ref (116 + 2 * e) :: .int (av_k ((sLastP S s : Int) - 1)) :: .int (nI (sBits (fun r => decide (S r 3 < k + 1) && sSee S cs day (sSet (B b) 4 low) r) s)) :: .int (nI (k + 1)) :: T) [] M = some (some (.int (nI (sBits (sSee S cs day (sSet (B b) 4 low)) s))), N') ∧ al_fr al_dH N N') → ∀ M v, okv v → al_fr al_dH N M → al_bd M 108 (sLive (sSet (B b) 4 low) cs (sGain cs) (sTop cs) day k) → ∃ N', av_V (av_S0 L) (d + 8) ta_X6_seenHeldBy 20 [.ref 9, .ref (27 + 2 * b), .int (nI low), .ref (116 + 2 * e), .int (av_k ((sLastP S s : Int) - 1)), .int (nI (sBits (fun r => decide (S r 3 < k) && sSee S cs day (sSet (B b) 4 low) r) s)), .int (nI k), .int (nI 0), v] [] M = some (some (.int (nI (sBits (sSee S cs day (sSet (B b) 4 low)) s))), N') ∧ al_fr al_dH N N' := by
    intro k hk hout M v hv hM hbd
    obtain ⟨hsM, heM, hrM⟩ := fs M hM
    have okk := sLive_ok (cs := cs) (g := sGain cs) (t := sTop cs) (day := day) okl k
    have e0 : sBits (fun r => decide (S r 3 < k) && sSee S cs day (sSet (B b) 4 low) r) s = sBits (fun r => (decide (S r 3 < k) || (decide (S r 3 = k) && decide (r < 0))) && sSee S cs day (sSet (B b) 4 low) r) s := sBits_cg (fun r _ => by simp)
    rw [e0]
    refine lp_0 (P := fun j => ∀ v, okv v → ∃ N', av_V (av_S0 L) (d + 8) ta_X6_seenHeldBy 20 [.ref 9, .ref (27 + 2 * b), .int (nI low), .ref (116 + 2 * e), .int (av_k ((sLastP S s : Int) - 1)), .int (nI (sBits (fun r => (decide (S r 3 < k) || (decide (S r 3 = k) && decide (r < j))) && sSee S cs day (sSet (B b) 4 low) r) s)), .int (nI k), .int (nI j), v] [] M = some (some (.int (nI (sBits (sSee S cs day (sSet (B b) 4 low)) s))), N') ∧ al_fr al_dH N N') s ?_ ?_ v hv
    · intro v hv
      obtain ⟨M2, c2, b2, f2⟩ := sp_day L (d + 3) (day := day + k) (al_ep_e heM.1) heM.2.2.1 al_b108 hbd okk (by omega) heM.2.2.2.1 heM.2.2.2.2
      have e1 : sBits (fun r => (decide (S r 3 < k) || (decide (S r 3 = k) && decide (r < s))) && sSee S cs day (sSet (B b) 4 low) r) s = sBits (fun r => decide (S r 3 < k + 1) && sSee S cs day (sSet (B b) 4 low) r) s := sBits_cg (fun r hr => by
        rw [decide_eq_true hr, Bool.and_true, ← Bool.decide_or]
        congr 1
        apply decide_eq_decide.mpr
        omega)
      rw [e1]
      rcases hv with rfl | ⟨x, rfl⟩
      · obtain ⟨N', c3, f3⟩ := hout M2 [.int (nI s), am_junk] (al_fr_tr hM (al_fr_mono f2 (fun q z => Or.inl z))) b2 (Or.inr (Or.inl ⟨_, rfl⟩))
        refine ⟨N', ?_, f3⟩
        apply eq_X6_seenHeldBy_20_a (d := d + 7)
        simp only [av_kP]
        rw [hrM.1, if_neg (nI_nlt (Nat.le_refl _) (by omega)), hsM.2.2.1, nI_add, c2, av_bv_s, nI_add]
        exact c3
      · obtain ⟨N', c3, f3⟩ := hout M2 [.int (nI s), .int x] (al_fr_tr hM (al_fr_mono f2 (fun q z => Or.inl z))) b2 (Or.inr (Or.inr ⟨_, _, rfl⟩))
        refine ⟨N', ?_, f3⟩
        apply eq_X6_seenHeldBy_20_b (d := d + 7)
        simp only [av_kP]
        rw [hrM.1, if_neg (nI_nlt (Nat.le_refl _) (by omega)), hsM.2.2.1, nI_add, c2, av_bv_s, nI_add]
        exact c3
    · intro j hj ih v hv
      obtain ⟨h0, h1, h2, h3⟩ := hS j hj
      have r0 : M.1 13 j = nI (S j 0) := hrM.2 j hj 0 (by decide)
      have r1 : M.1 14 j = nI (S j 1) := hrM.2 j hj 1 (by decide)
      have r3 : M.1 16 j = nI (S j 3) := hrM.2 j hj 3 (by decide)
      by_cases hjk : S j 3 = k
      · have hh := sp_holds L (d + 4) (top := sTop cs) (day := day + k) (h := S j 0) (t := S j 1) al_b108 hbd okk ht.2 (by omega) (by omega) (by omega)
        have hsee : sHolds (sLive (sSet (B b) 4 low) cs (sGain cs) (sTop cs) day k) (sTop cs) (day + k) (S j 0) (S j 1) = sSee S cs day (sSet (B b) 4 low) j := by
          unfold sSee
          rw [hjk]
        rw [hsee] at hh
        cases hb : sSee S cs day (sSet (B b) 4 low) j
        · rw [hb] at hh
          obtain ⟨N', c3, f3⟩ := ih (.int (nI 0)) (Or.inr ⟨_, rfl⟩)
          have e2 : sBits (fun r => (decide (S r 3 < k) || (decide (S r 3 = k) && decide (r < j + 1))) && sSee S cs day (sSet (B b) 4 low) r) s = sBits (fun r => (decide (S r 3 < k) || (decide (S r 3 = k) && decide (r < j))) && sSee S cs day (sSet (B b) 4 low) r) s := sBits_cg (fun r hr => by
            by_cases e : r = j
            · rw [e, hb, Bool.and_false, Bool.and_false]
            · rw [show decide (r < j + 1) = decide (r < j) from decide_eq_decide.mpr (by omega)])
          rw [e2] at c3
          refine ⟨N', ?_, f3⟩
          rcases hv with rfl | ⟨x, rfl⟩
          · apply eq_X6_seenHeldBy_20_a (d := d + 7)
            simp only [av_kP]
            rw [hrM.1, if_pos (nI_lt hj (by omega)), av_gx_s (by omega) (by omega), nI_clamp (by omega), r3, if_pos (congrArg nI hjk), av_gx_s (by omega) (by omega), av_gx_s (by omega) (by omega), q1, av_tg_s, r0, r1, heM.2.2.1.2.2.2.1, hsM.2.2.1, nI_add, hh, av_bi_s, av_if_f, if_pos trivial, av_or, Nat.or_zero, nI_add]
            exact c3
          · apply eq_X6_seenHeldBy_20_b (d := d + 7)
            simp only [av_kP]
            rw [hrM.1, if_pos (nI_lt hj (by omega)), av_gx_s (by omega) (by omega), nI_clamp (by omega), r3, if_pos (congrArg nI hjk), av_gx_s (by omega) (by omega), av_gx_s (by omega) (by omega), q1, av_tg_s, r0, r1, heM.2.2.1.2.2.2.1, hsM.2.2.1, nI_add, hh, av_bi_s, av_if_f, if_pos trivial, av_or, Nat.or_zero, nI_add]
            exact c3
        · rw [hb] at hh
          obtain ⟨N', c3, f3⟩ := ih (.int (nI 1)) (Or.inr ⟨_, rfl⟩)
          have e2 : sBits (fun r => (decide (S r 3 < k) || (decide (S r 3 = k) && decide (r < j + 1))) && sSee S cs day (sSet (B b) 4 low) r) s = sBits (fun r => (decide (S r 3 < k) || (decide (S r 3 = k) && decide (r < j))) && sSee S cs day (sSet (B b) 4 low) r) s ||| 2 ^ j := by
            rw [← sBits_or hj]
            refine sBits_cg (fun r hr => ?_)
            by_cases e : r = j
            · rw [if_pos e, e, hb, hjk]
              simp
            · rw [if_neg e, show decide (r < j + 1) = decide (r < j) from decide_eq_decide.mpr (by omega)]
          rw [e2] at c3
          refine ⟨N', ?_, f3⟩
          rcases hv with rfl | ⟨x, rfl⟩
          · apply eq_X6_seenHeldBy_20_a (d := d + 7)
            simp only [av_kP]
            rw [hrM.1, if_pos (nI_lt hj (by omega)), av_gx_s (by omega) (by omega), nI_clamp (by omega), r3, if_pos (congrArg nI hjk), av_gx_s (by omega) (by omega), av_gx_s (by omega) (by omega), q1, av_tg_s, r0, r1, heM.2.2.1.2.2.2.1, hsM.2.2.1, nI_add, hh, av_bi_s, av_if_t, if_neg (by decide), av_shl 1 (by omega), Nat.one_mul, av_or, nI_add]
            exact c3
          · apply eq_X6_seenHeldBy_20_b (d := d + 7)
            simp only [av_kP]
            rw [hrM.1, if_pos (nI_lt hj (by omega)), av_gx_s (by omega) (by omega), nI_clamp (by omega), r3, if_pos (congrArg nI hjk), av_gx_s (by omega) (by omega), av_gx_s (by omega) (by omega), q1, av_tg_s, r0, r1, heM.2.2.1.2.2.2.1, hsM.2.2.1, nI_add, hh, av_bi_s, av_if_t, if_neg (by decide), av_shl 1 (by omega), Nat.one_mul, av_or, nI_add]
            exact c3
      · obtain ⟨N', c3, f3⟩ := ih (.int (nI 0)) (Or.inr ⟨_, rfl⟩)
        have e2 : sBits (fun r => (decide (S r 3 < k) || (decide (S r 3 = k) && decide (r < j + 1))) && sSee S cs day (sSet (B b) 4 low) r) s = sBits (fun r => (decide (S r 3 < k) || (decide (S r 3 = k) && decide (r < j))) && sSee S cs day (sSet (B b) 4 low) r) s := sBits_cg (fun r hr => by
          by_cases e : r = j
          · rw [e, decide_eq_false hjk, Bool.false_and, Bool.false_and]
          · rw [show decide (r < j + 1) = decide (r < j) from decide_eq_decide.mpr (by omega)])
        rw [e2] at c3
        refine ⟨N', ?_, f3⟩
        rcases hv with rfl | ⟨x, rfl⟩
        · apply eq_X6_seenHeldBy_20_a (d := d + 7)
          simp only [av_kP]
          rw [hrM.1, if_pos (nI_lt hj (by omega)), av_gx_s (by omega) (by omega), nI_clamp (by omega), r3, if_neg (nI_ne (by omega) (by omega) hjk), if_pos trivial, av_or, Nat.or_zero, nI_add]
          exact c3
        · apply eq_X6_seenHeldBy_20_b (d := d + 7)
          simp only [av_kP]
          rw [hrM.1, if_pos (nI_lt hj (by omega)), av_gx_s (by omega) (by omega), nI_clamp (by omega), r3, if_neg (nI_ne (by omega) (by omega) hjk), if_pos trivial, av_or, Nat.or_zero, nI_add]
          exact c3
  have daysL := lp_0 (P := fun k => ∀ M T, al_fr al_dH N M → al_bd M 108 (sLive (sSet (B b) 4 low) cs (sGain cs) (sTop cs) day k) → okW T → ∃ N', av_V (av_S0 L) (d + 8) ta_X6_seenHeldBy 15 (.ref 9 :: .ref (27 + 2 * b) :: .int (nI low) :: .ref (116 + 2 * e) :: .int (av_k ((sLastP S s : Int) - 1)) :: .int (nI (sBits (fun r => decide (S r 3 < k) && sSee S cs day (sSet (B b) 4 low) r) s)) :: .int (nI k) :: T) [] M = some (some (.int (nI (sBits (sSee S cs day (sSet (B b) 4 low)) s))), N') ∧ al_fr al_dH N N') (sLastP S s) (fun M T hM hbd hT => by
    have e1 : sBits (fun r => decide (S r 3 < sLastP S s) && sSee S cs day (sSet (B b) 4 low) r) s = sBits (sSee S cs day (sSet (B b) 4 low)) s := sBits_cg (fun r hr => by rw [decide_eq_true (sLastP_le hr), Bool.true_and])
    have hlt : av_k ((sLastP S s : Int) - 1) < nI (sLastP S s) := by
      rw [← av_kN (sLastP S s)]
      exact (av_kk (by omega) (by omega)).mpr (by omega)
    refine ⟨M, ?_, hM⟩
    rw [e1]
    rcases hT with rfl | ⟨x, rfl⟩ | ⟨x, y, rfl⟩
    · apply eq_X6_seenHeldBy_15 (d := d + 7)
      rw [if_pos hlt]
    · apply eq_X6_seenHeldBy_15_b (d := d + 7)
      rw [if_pos hlt]
    · apply eq_X6_seenHeldBy_15_c (d := d + 7)
      rw [if_pos hlt]) (fun k hk ih M T hM hbd hT => by
    have hge : ¬ av_k ((sLastP S s : Int) - 1) < nI k := by
      rw [← av_kN k]
      exact fun z => by have := (av_kk (by omega) (by omega)).mp z; omega
    have go := rows k hk ih M
    rcases hT with rfl | ⟨x, rfl⟩ | ⟨x, y, rfl⟩
    · obtain ⟨N', c, f⟩ := go am_junk (Or.inl rfl) hM hbd
      refine ⟨N', ?_, f⟩
      apply eq_X6_seenHeldBy_15 (d := d + 7)
      rw [if_neg hge, av_kP]
      exact c
    · obtain ⟨N', c, f⟩ := go am_junk (Or.inl rfl) hM hbd
      refine ⟨N', ?_, f⟩
      apply eq_X6_seenHeldBy_15_b (d := d + 7)
      rw [if_neg hge, av_kP]
      exact c
    · obtain ⟨N', c, f⟩ := go (.int y) (Or.inr ⟨_, rfl⟩) hM hbd
      refine ⟨N', ?_, f⟩
      apply eq_X6_seenHeldBy_15_c (d := d + 7)
      rw [if_neg hge, av_kP]
      exact c)
  obtain ⟨N1, c1, b1, f1⟩ := sp_ghost L d (show b < 7 by omega) kb ok
  have b2 : al_bd (av_w N1 108 4 (nI low)) 108 (sSet (B b) 4 low) := al_bd_set b1 (by decide) (fun _ _ => rfl)
  have f2 : al_fr al_dH N (av_w N1 108 4 (nI low)) := al_fr_tr f1 (al_fr_w N1 (Or.inl rfl) _ _)
  obtain ⟨N', c3, f3⟩ := daysL (av_w N1 108 4 (nI low)) [am_junk, am_junk] f2 b2 (Or.inl rfl)
  refine ⟨N', ?_, f3⟩
  have e0 : sBits (fun r => decide (S r 3 < 0) && sSee S cs day (sSet (B b) 4 low) r) s = 0 := (sBits_0 _ _).mpr (fun r _ => by simp)
  rw [e0] at c3
  apply eq_X6_seenHeldBy (d := d + 7)
  rw [c1, av_bv_s, sp_lastSeen L _ s5 (fs _ f2).2.2 (fun r hr => (hS r hr).2.2.2), av_bi_s]
  simp only [av_kP]
  exact c3
