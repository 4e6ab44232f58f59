/-! days of the reference: all rent, a day, days, saved and put back -/
def al_f2 (D : Nat → Nat → Prop) (N N' : av_N) : Prop := ∀ q k, ¬ D q k → N'.1 q k = N.1 q k ∧ N'.2 q k = N.2 q k
theorem al_f2_rf (D : Nat → Nat → Prop) (N : av_N) : al_f2 D N N := fun _ _ _ => ⟨rfl, rfl⟩
theorem al_f2_tr {D : Nat → Nat → Prop} {N N' N'' : av_N} (h : al_f2 D N N') (h' : al_f2 D N' N'') : al_f2 D N N'' := fun q k hq => ⟨((h' q k hq).1).trans (h q k hq).1, ((h' q k hq).2).trans (h q k hq).2⟩
theorem al_f2_mono {D E : Nat → Nat → Prop} {N N' : av_N} (h : al_f2 D N N') (hm : ∀ q k, D q k → E q k) : al_f2 E N N' := fun q k hq => h q k (fun z => hq (hm q k z))
theorem al_f2_of {D : Nat → Prop} {E : Nat → Nat → Prop} {N N' : av_N} (h : al_fr D N N') (hm : ∀ q k, D q → E q k) : al_f2 E N N' := fun q k hq => h q (fun z => hq (hm q k z)) k
theorem al_f2_w {D : Nat → Nat → Prop} (N : av_N) {p k : Nat} (hp : D p k) (x : Int32) : al_f2 D N (av_w N p k x) := fun q j hq => ⟨am_up_n _ _ (fun z => hq (by rw [z.1, z.2]; exact hp)), rfl⟩
theorem al_f2_e {D : Nat → Nat → Prop} {N N' : av_N} (h : al_f2 D N N') {q k : Nat} (hq : ¬ D q k) : N'.1 q k = N.1 q k := (h q k hq).1
/-- what a question may change of the reference: what it reckons in, and what it puts back -/
def al_qM (q k : Nat) : Prop := (158 ≤ q ∧ q ≤ 165 ∧ q ≠ 159) ∨ q = 175 ∨ q = 176 ∨ q = 145 ∨ q = 147 ∨ q = 149 ∨ (q = 142 ∧ (k = 1 ∨ k = 2 ∨ k = 30 ∨ k = 31))
theorem al_q160 {N N' : av_N} (h : al_fr (fun q => q = 160) N N') : al_f2 al_qM N N' := al_f2_of h (fun q k z => Or.inl (by omega))
def sAllRent (B : Nat → Nat → Nat) (n : Nat) (cs : List (Nat × Nat × List Nat)) (day : Nat) : Nat := sumN (fun b => sRent (B b) cs (sTop cs) day) n
theorem sp_allRentM (L : av_W) (d : Nat) {N : av_N} {n day : Nat} {B : Nat → Nat → Nat} {cs : List (Nat × Nat × List Nat)} (hv : al_mv N n day B cs) : ∃ N', av_C (av_S0 L) (d + 6) 160 [.ref 142] N = some (some (.int (nI (sAllRent B n cs day))), N') ∧ al_fr (fun q => q = 160) N N' := by
  have hn := hv.1
  have key := lp_0 (P := fun k => ∀ M, al_fr (fun q => q = 160) N M → ∃ N', av_V (av_S0 L) (d + 6) ta_X7_allRent 4 [.ref 142, .int (nI (sumN (fun b => sRent (B b) cs (sTop cs) day) k)), .int (nI k)] [] M = some (some (.int (nI (sAllRent B n cs day))), N') ∧ al_fr (fun q => q = 160) N N') n (fun M hM => by
    refine ⟨M, ?_, hM⟩
    apply eq_X7_allRent_4 (d := d + 5)
    rw [(al_mv_160 hv hM).2.1.1, if_neg (nI_nlt (Nat.le_refl _) (by omega))]
    rfl) (fun k hk ih M hM => by
    have hv' := al_mv_160 hv hM
    obtain ⟨N1, c1, f1⟩ := sp_rentM L d hv' hk
    obtain ⟨N2, c2, f2⟩ := ih N1 (al_fr_tr hM f1)
    refine ⟨N2, ?_, f2⟩
    apply eq_X7_allRent_4 (d := d + 5)
    rw [hv'.2.1.1, if_pos (nI_lt hk (by omega)), c1, av_bi_s, nI_add, av_kP, nI_add]
    exact c2)
  obtain ⟨N', c, f⟩ := key N (al_fr_rf _ _)
  refine ⟨N', ?_, f⟩
  apply eq_X7_allRent (d := d + 5)
  rw [av_kP]
  exact c
def sUpd (B : Nat → Nat → Nat) (b : Nat) (X : Nat → Nat) : Nat → Nat → Nat := fun c => if c = b then X else B c
def sSet (X : Nat → Nat) (f x : Nat) : Nat → Nat := fun g => if g = f then x else X g
theorem sUpd_s (B : Nat → Nat → Nat) (b : Nat) (X : Nat → Nat) : sUpd B b X b = X := if_pos rfl
theorem sUpd_n (B : Nat → Nat → Nat) {b c : Nat} (X : Nat → Nat) (h : c ≠ b) : sUpd B b X c = B c := if_neg h
theorem sSet_s (X : Nat → Nat) (f x : Nat) : sSet X f x f = x := if_pos rfl
theorem sSet_n (X : Nat → Nat) {f g : Nat} (x : Nat) (h : g ≠ f) : sSet X f x g = X g := if_neg h
/-- a bird's number is set: place 141 + f holds field f of them all -/
theorem al_md_set {N : av_N} {n day : Nat} {B : Nat → Nat → Nat} (h : al_md N n day B) {b f : Nat} (hf : 2 ≤ f ∧ f ≤ 8) (x : Nat) : al_md (av_w N (141 + f) b (nI x)) n day (sUpd B b (sSet (B b) f x)) := by
  obtain ⟨h1, h2, h3⟩ := h
  refine ⟨(av_w_o N _ _ _ _ (by omega)).trans h1, (av_w_o N _ _ _ _ (by omega)).trans h2, fun c hc => ?_⟩
  obtain ⟨m1, m2, m3, m4, m5, m6, m7, m8⟩ := h3 c hc
  have key : ∀ g, 2 ≤ g → g ≤ 8 → N.1 (141 + g) c = nI (B c g) → (av_w N (141 + f) b (nI x)).1 (141 + g) c = nI (sUpd B b (sSet (B b) f x) c g) := by
    intro g g1 g2 hg
    by_cases hcb : c = b
    · subst hcb
      rw [sUpd_s]
      by_cases hgf : g = f
      · subst hgf
        rw [av_w_s, sSet_s]
      · rw [av_w_o N _ _ _ _ (by omega), sSet_n _ _ hgf]
        exact hg
    · rw [sUpd_n _ _ hcb, av_w_k N _ _ _ hcb]
      exact hg
  refine ⟨key 2 (by decide) (by decide) m1, key 3 (by decide) (by decide) m2, key 4 (by decide) (by decide) m3, key 5 (by decide) (by decide) m4, key 6 (by decide) (by decide) m5, key 7 (by decide) (by decide) m6, key 8 (by decide) (by decide) m7, fun j hj => ?_⟩
  rw [av_w_o N _ _ _ _ (by omega), m8 j hj]
  by_cases hcb : c = b
  · subst hcb
    rw [sUpd_s, sSet_n _ _ (by omega)]
  · rw [sUpd_n _ _ hcb]
theorem al_md_cg {N : av_N} {n day : Nat} {B B' : Nat → Nat → Nat} (h : al_md N n day B) (he : ∀ b, b < n → ∀ f, f ≠ 9 → B' b f = B b f) : al_md N n day B' := by
  obtain ⟨h1, h2, h3⟩ := h
  refine ⟨h1, h2, fun c hc => ?_⟩
  have e := he c hc
  rw [e 2 (by decide), e 3 (by decide), e 4 (by decide), e 5 (by decide), e 6 (by decide), e 7 (by decide), e 8 (by decide)]
  obtain ⟨m1, m2, m3, m4, m5, m6, m7, m8⟩ := h3 c hc
  exact ⟨m1, m2, m3, m4, m5, m6, m7, fun j hj => by rw [e _ (by omega)]; exact m8 j hj⟩
theorem sBits_cg {p p' : Nat → Bool} : ∀ {n : Nat}, (∀ b, b < n → p' b = p b) → sBits p' n = sBits p n
  | 0, _ => rfl
  | n + 1, h => by
    show sBits p' n ||| _ = sBits p n ||| _
    rw [sBits_cg (fun b hb => h b (by omega)), h n (by omega)]
theorem sGone_cg {B B' : Nat → Nat → Nat} {n : Nat} (h : ∀ b, b < n → B' b 9 = B b 9) : sGone B' n = sGone B n := sBits_cg (fun b hb => by rw [h b hb])
theorem al_ok_cg {X Y : Nat → Nat} (h : al_ok X) (he : ∀ f, Y f = X f) : al_ok Y := by
  rw [show Y = X from funext he]
  exact h
theorem al_mv_cg {N : av_N} {n day : Nat} {B B' : Nat → Nat → Nat} {cs : List (Nat × Nat × List Nat)} (h : al_mv N n day B cs) (he : ∀ b, b < n → ∀ f, B' b f = B b f) : al_mv N n day B' cs := by
  obtain ⟨hn, hm, hg, hme, hok, hd⟩ := h
  exact ⟨hn, al_md_cg hm (fun b hb f _ => he b hb f), by rw [hg, sGone_cg (fun b hb => he b hb 9)], hme, fun b hb => ⟨al_ok_cg (hok b hb).1 (he b hb), (he b hb 1).trans (hok b hb).2⟩, hd⟩
/-- a field of a bird set (neither its number nor whether it is out) -/
theorem al_mv_set {N : av_N} {n day : Nat} {B : Nat → Nat → Nat} {cs : List (Nat × Nat × List Nat)} (h : al_mv N n day B cs) {b f : Nat} (hf : 2 ≤ f ∧ f ≤ 8) (x : Nat) (ok : b < n → al_ok (sSet (B b) f x)) : al_mv (av_w N (141 + f) b (nI x)) n day (sUpd B b (sSet (B b) f x)) cs := by
  obtain ⟨hn, hm, hg, ⟨b0, hme⟩, hok, hd⟩ := h
  refine ⟨hn, al_md_set hm hf x, ?_, ⟨b0, al_me_fr hme (av_w_o N _ _ _ _ (by omega)) (fun q k h1 h2 => av_w_o N _ _ _ _ (by omega))⟩, fun c hc => ?_, hd⟩
  · rw [av_w_o N _ _ _ _ (by omega), hg, sGone_cg (fun c hc => ?_)]
    by_cases hcb : c = b
    · subst hcb
      rw [sUpd_s, sSet_n _ _ (by omega)]
    · rw [sUpd_n _ _ hcb]
  · by_cases hcb : c = b
    · subst hcb
      rw [sUpd_s, sSet_n _ _ (by omega)]
      exact ⟨ok hc, (hok c hc).2⟩
    · rw [sUpd_n _ _ hcb]
      exact hok c hc
theorem sBits_or {p : Nat → Bool} {b : Nat} : ∀ {n : Nat}, b < n → sBits (fun c => if c = b then true else p c) n = sBits p n ||| 2 ^ b := by
  intro n hb
  apply Nat.eq_of_testBit_eq
  intro i
  rw [Nat.testBit_or, sBits_bit, sBits_bit, Nat.testBit_two_pow]
  by_cases h : i = b
  · subst h
    simp [hb]
  · rw [if_neg h, decide_eq_false (show ¬ b = i from fun z => h z.symm), Bool.or_false]
/-- whether a bird is out is set -/
theorem al_mv_out {N : av_N} {n day : Nat} {B : Nat → Nat → Nat} {cs : List (Nat × Nat × List Nat)} (h : al_mv N n day B cs) {b x : Nat} (hx : x ≤ 1) : al_mv (av_w N 142 2 (nI (sGone (sUpd B b (sSet (B b) 9 x)) n))) n day (sUpd B b (sSet (B b) 9 x)) cs := by
  obtain ⟨hn, hm, hg, ⟨b0, hme⟩, hok, hd⟩ := h
  have hm' : al_md (av_w N 142 2 (nI (sGone (sUpd B b (sSet (B b) 9 x)) n))) n day B := by
    obtain ⟨h1, h2, h3⟩ := hm
    refine ⟨(av_w_k N _ _ _ (by decide)).trans h1, (av_w_k N _ _ _ (by decide)).trans h2, fun c hc => ?_⟩
    obtain ⟨m1, m2, m3, m4, m5, m6, m7, m8⟩ := h3 c hc
    exact ⟨(av_w_o N _ _ _ _ (by decide)).trans m1, (av_w_o N _ _ _ _ (by decide)).trans m2, (av_w_o N _ _ _ _ (by decide)).trans m3, (av_w_o N _ _ _ _ (by decide)).trans m4, (av_w_o N _ _ _ _ (by decide)).trans m5, (av_w_o N _ _ _ _ (by decide)).trans m6, (av_w_o N _ _ _ _ (by decide)).trans m7, fun j hj => (av_w_o N _ _ _ _ (by decide)).trans (m8 j hj)⟩
  refine ⟨hn, al_md_cg hm' (fun c hc f hf => ?_), av_w_s _ _ _ _, ⟨b0, al_me_fr hme (av_w_k N _ _ _ (by decide)) (fun q k h1 h2 => av_w_o N _ _ _ _ (by omega))⟩, fun c hc => ?_, hd⟩
  · by_cases hcb : c = b
    · subst hcb
      rw [sUpd_s, sSet_n _ _ hf]
    · rw [sUpd_n _ _ hcb]
  · by_cases hcb : c = b
    · subst hcb
      rw [sUpd_s, sSet_n _ _ (by decide)]
      refine ⟨?_, (hok c hc).2⟩
      obtain ⟨o1, o2, o3, o4, o5, o6, o7, o8, o9, o10, o11, o12⟩ := (hok c hc).1
      refine ⟨o1, o2, o3, o4, o5, o6, o7, o8, o9, o10, hx, fun j hj => ?_⟩
      rw [sSet_n _ _ (by omega)]
      exact o12 j hj
    · rw [sUpd_n _ _ hcb]
      exact hok c hc
def sGain (cs : List (Nat × Nat × List Nat)) : Nat := sLast 2 cs 0
theorem sGain_le {cs : List (Nat × Nat × List Nat)} (h : ∀ c ∈ cs, sCl c) : sGain cs ≤ 99 := sLast_le cs 0 h (by decide)
def sGoB (B : Nat → Nat → Nat) (cs : List (Nat × Nat × List Nat)) (day : Nat) : Nat → Nat → Nat := fun b => sDay (B b) cs (sGain cs) (sTop cs) day
theorem av_9999 {z : Int} (h1 : -2147483648 ≤ z) (h2 : z ≤ 2147483647) : nI 9999 < av_k z ↔ 9999 < z := by
  rw [Int32.lt_iff_toInt_lt, av_kI h1 h2, nI_toInt (by decide)]
  omega
theorem sDay_0 {B : Nat → Nat} {cs : List (Nat × Nat × List Nat)} {g t day : Nat} (h : B 9 = 0) : sDay B cs g t day = sSet (sSet B 8 (sPurse (sLeft B cs g t day))) 9 (if sLeft B cs g t day < 0 then 1 else 0) := by
  funext f
  unfold sDay sSet
  rw [if_pos h]
  by_cases h8 : f = 8
  · subst h8
    rfl
  · rw [if_neg h8, if_neg h8]
theorem sDay_1 {B : Nat → Nat} {cs : List (Nat × Nat × List Nat)} {g t day : Nat} (h : ¬ B 9 = 0) : sDay B cs g t day = B := by
  funext f
  unfold sDay
  rw [if_neg h]
def al_dG (q k : Nat) : Prop := q = 160 ∨ q = 161 ∨ q = 149 ∨ (q = 142 ∧ (k = 1 ∨ k = 2))
theorem sp_goDay (L : av_W) (d : Nat) {N : av_N} {n day : Nat} {B : Nat → Nat → Nat} {cs : List (Nat × Nat × List Nat)} (hv : al_mv N n day B cs) (hd1 : day + 1 < 2 ^ 19) : ∃ N', av_C (av_S0 L) (d + 6) 168 [.ref 142] N = some (none, N') ∧ al_mv N' n (day + 1) (sGoB B cs day) cs ∧ al_f2 al_dG N N' := by
  have hn := hv.1
  obtain ⟨b0, hme⟩ := hv.2.2.2.1
  have hcl := hme.2.2
  have h10 := hme.2.1.1
  have hok := hv.2.2.2.2.1
  have hg99 := sGain_le hcl
  have key2 := lp_0 (P := fun k => ∀ M, al_mv M n day (fun b => if b < k then sGoB B cs day b else B b) cs → (∀ b, b < n → M.1 161 b = nI (sRent (B b) cs (sTop cs) day)) → al_f2 al_dG N M → ∀ v, okv v → ∃ N', av_V (av_S0 L) (d + 6) ta_X7_goDay 17 [.ref 142, .int (nI k), v] [] M = some (none, N') ∧ al_mv N' n (day + 1) (sGoB B cs day) cs ∧ al_f2 al_dG N N') n (fun M hM hdue hf v hv0 => by
    have hM' := al_mv_cg hM (B' := sGoB B cs day) (fun b hb f => by rw [if_pos hb])
    obtain ⟨q1, ⟨q2, q3, q4⟩, q5, ⟨b1, q6⟩, q7, q8⟩ := hM'
    refine ⟨av_w M 142 1 (nI (day + 1)), ?_, ⟨q1, ⟨(av_w_k M _ _ _ (by decide)).trans q2, av_w_s _ _ _ _, fun c hc => ?_⟩, (av_w_k M _ _ _ (by decide)).trans q5, ⟨b1, al_me_fr q6 (av_w_k M _ _ _ (by decide)) (fun q k h1 h2 => av_w_o M _ _ _ _ (by omega))⟩, q7, hd1⟩, al_f2_tr hf (al_f2_w M (show al_dG 142 1 by unfold al_dG; omega) _)⟩
    · rcases hv0 with rfl | ⟨x, rfl⟩
      · apply eq_X7_goDay_17_a (d := d + 5)
        rw [q2, if_neg (nI_nlt (Nat.le_refl _) (by omega)), q3, av_kP, nI_add]
      · apply eq_X7_goDay_17_b (d := d + 5)
        rw [q2, if_neg (nI_nlt (Nat.le_refl _) (by omega)), q3, av_kP, nI_add]
    · obtain ⟨m1, m2, m3, m4, m5, m6, m7, m8⟩ := q4 c hc
      exact ⟨(av_w_o M _ _ _ _ (by decide)).trans m1, (av_w_o M _ _ _ _ (by decide)).trans m2, (av_w_o M _ _ _ _ (by decide)).trans m3, (av_w_o M _ _ _ _ (by decide)).trans m4, (av_w_o M _ _ _ _ (by decide)).trans m5, (av_w_o M _ _ _ _ (by decide)).trans m6, (av_w_o M _ _ _ _ (by decide)).trans m7, fun j hj => (av_w_o M _ _ _ _ (by decide)).trans (m8 j hj)⟩) (fun k hk ih M hM hdue hf v hv0 => by
    have okk := (hok k hk).1
    have h9' : B k 9 ≤ 1 := okk.2.2.2.2.2.2.2.2.2.2.1
    have h8' : B k 8 ≤ 9999 := okk.2.2.2.2.2.2.2.2.2.1
    have hr := sRent_le okk hcl h10 (sTop cs) day
    have z1 : -2147483648 ≤ sLeft (B k) cs (sGain cs) (sTop cs) day := by unfold sLeft; omega
    have z2 : sLeft (B k) cs (sGain cs) (sTop cs) day ≤ 2147483647 := by unfold sLeft; omega
    have el : nI (B k 8 + sGain cs) - nI (sRent (B k) cs (sTop cs) day) = av_k (sLeft (B k) cs (sGain cs) (sTop cs) day) := by
      rw [← av_kN, av_ksub]
      congr 1
    obtain ⟨b1, hme1⟩ := hM.2.2.2.1
    have hm1 := hM.2.1.1
    have hgM := hM.2.2.1
    have m7 : M.1 149 k = nI (B k 8) := by
      have : M.1 149 k = nI ((if k < k then sGoB B cs day k else B k) 8) := (hM.2.1.2.2 k hk).2.2.2.2.2.2.1
      rw [if_neg (Nat.lt_irrefl k)] at this
      exact this
    have hdk := hdue k hk
    have hgb := sp_hasG L (d + 5) hM hk M
    simp only [if_neg (show ¬ k < k by omega)] at hgb
    have hlast : av_C (av_S0 L) (d + 5) 144 [.ref 142, .int (nI 2), .int (nI 0)] M = some (some (.int (nI (sGain cs))), M) := sp_lastOf L (d + 4) hme1 (by decide)
    by_cases h9 : B k 9 = 0
    · have ok2 : al_ok (sSet (B k) 8 (sPurse (sLeft (B k) cs (sGain cs) (sTop cs) day))) := by
        obtain ⟨o1, o2, o3, o4, o5, o6, o7, o8, o9, o10, o11, o12⟩ := okk
        refine ⟨o1, o2, o3, o4, o5, o6, o7, o8, o9, sPurse_le _, o11, fun j hj => ?_⟩
        rw [sSet_n _ _ (by omega)]
        exact o12 j hj
      have hA := al_mv_set hM (b := k) (f := 8) (by decide) (sPurse (sLeft (B k) cs (sGain cs) (sTop cs) day)) (fun _ => by
        rw [if_neg (show ¬ k < k by omega)]
        exact ok2)
      have hB := al_mv_out hA (b := k) (x := if sLeft (B k) cs (sGain cs) (sTop cs) day < 0 then 1 else 0) (by split <;> decide)
      simp only [sUpd_s, if_neg (show ¬ k < k by omega)] at hB
      rw [← sDay_0 h9] at hB
      have hC := al_mv_cg hB (B' := fun b => if b < k + 1 then sGoB B cs day b else B b) (fun b hb f => by
        by_cases e : b = k
        · subst e
          rw [sUpd_s, if_pos (by omega)]
          rfl
        · rw [sUpd_n _ _ e, sUpd_n _ _ e]
          by_cases e2 : b < k
          · rw [if_pos e2, if_pos (by omega)]
          · rw [if_neg e2, if_neg (by omega)])
      have hG : sGone (sUpd (sUpd (fun b => if b < k then sGoB B cs day b else B b) k (sSet (B k) 8 (sPurse (sLeft (B k) cs (sGain cs) (sTop cs) day)))) k (sDay (B k) cs (sGain cs) (sTop cs) day)) n = if sLeft (B k) cs (sGain cs) (sTop cs) day < 0 then sGone (fun b => if b < k then sGoB B cs day b else B b) n ||| 2 ^ k else sGone (fun b => if b < k then sGoB B cs day b else B b) n := by
        rw [sDay_0 h9]
        split
        · unfold sGone
          rw [← sBits_or hk]
          refine sBits_cg (fun b hb => ?_)
          by_cases e : b = k
          · subst e
            rw [sUpd_s, sSet_s, if_pos rfl]
            rfl
          · rw [sUpd_n _ _ e, sUpd_n _ _ e, if_neg e]
        · refine sGone_cg (fun b hb => ?_)
          by_cases e : b = k
          · subst e
            rw [sUpd_s, sSet_s, if_neg (by omega), h9]
          · rw [sUpd_n _ _ e, sUpd_n _ _ e]
      rw [hG] at hC
      have hfr := al_f2_tr hf (al_f2_tr (al_f2_w M (show al_dG 149 k by unfold al_dG; omega) (nI (sPurse (sLeft (B k) cs (sGain cs) (sTop cs) day)))) (al_f2_w _ (show al_dG 142 2 by unfold al_dG; omega) (nI (if sLeft (B k) cs (sGain cs) (sTop cs) day < 0 then sGone (fun b => if b < k then sGoB B cs day b else B b) n ||| 2 ^ k else sGone (fun b => if b < k then sGoB B cs day b else B b) n))))
      obtain ⟨N', c1, c2, c3⟩ := ih _ hC (fun b hb => by
        show (av_w (av_w M 149 k _) 142 2 _).1 161 b = _
        rw [av_w_o _ _ _ _ _ (by decide), av_w_o _ _ _ _ _ (by decide)]
        exact hdue b hb) hfr (.int (av_k (sLeft (B k) cs (sGain cs) (sTop cs) day))) (Or.inr ⟨_, rfl⟩)
      refine ⟨N', ?_, c2, c3⟩
      have e142 : ∀ x, (av_w M 149 k x).1 142 2 = nI (sGone (fun b => if b < k then sGoB B cs day b else B b) n) := fun x => (av_w_o M _ _ _ _ (by decide)).trans hgM
      have fin : ∀ A, A = av_V (av_S0 L) (d + 6) ta_X7_goDay 17 [.ref 142, .int (nI (k + 1)), .int (av_k (sLeft (B k) cs (sGain cs) (sTop cs) day))] [] (av_w (av_w M 149 k (nI (sPurse (sLeft (B k) cs (sGain cs) (sTop cs) day)))) 142 2 (nI (if sLeft (B k) cs (sGain cs) (sTop cs) day < 0 then sGone (fun b => if b < k then sGoB B cs day b else B b) n ||| 2 ^ k else sGone (fun b => if b < k then sGoB B cs day b else B b) n))) → A = some (none, N') := fun A hA => hA.trans c1
      have body : ∀ A, A = (if av_k (sLeft (B k) cs (sGain cs) (sTop cs) day) < nI 0 then (if av_k (sLeft (B k) cs (sGain cs) (sTop cs) day) < nI 0 then av_V (av_S0 L) (d + 6) ta_X7_goDay 17 [.ref 142, .int (nI (k + 1)), .int (av_k (sLeft (B k) cs (sGain cs) (sTop cs) day))] [] (av_w (av_w M 149 k (nI 0)) 142 2 (nI (sGone (fun b => if b < k then sGoB B cs day b else B b) n ||| 2 ^ k))) else av_V (av_S0 L) (d + 6) ta_X7_goDay 17 [.ref 142, .int (nI (k + 1)), .int (av_k (sLeft (B k) cs (sGain cs) (sTop cs) day))] [] (av_w (av_w M 149 k (nI 0)) 142 2 (nI (sGone (fun b => if b < k then sGoB B cs day b else B b) n)))) else if nI 9999 < av_k (sLeft (B k) cs (sGain cs) (sTop cs) day) then (if av_k (sLeft (B k) cs (sGain cs) (sTop cs) day) < nI 0 then av_V (av_S0 L) (d + 6) ta_X7_goDay 17 [.ref 142, .int (nI (k + 1)), .int (av_k (sLeft (B k) cs (sGain cs) (sTop cs) day))] [] (av_w (av_w M 149 k (nI 9999)) 142 2 (nI (sGone (fun b => if b < k then sGoB B cs day b else B b) n ||| 2 ^ k))) else av_V (av_S0 L) (d + 6) ta_X7_goDay 17 [.ref 142, .int (nI (k + 1)), .int (av_k (sLeft (B k) cs (sGain cs) (sTop cs) day))] [] (av_w (av_w M 149 k (nI 9999)) 142 2 (nI (sGone (fun b => if b < k then sGoB B cs day b else B b) n)))) else (if av_k (sLeft (B k) cs (sGain cs) (sTop cs) day) < nI 0 then av_V (av_S0 L) (d + 6) ta_X7_goDay 17 [.ref 142, .int (nI (k + 1)), .int (av_k (sLeft (B k) cs (sGain cs) (sTop cs) day))] [] (av_w (av_w M 149 k (av_k (sLeft (B k) cs (sGain cs) (sTop cs) day))) 142 2 (nI (sGone (fun b => if b < k then sGoB B cs day b else B b) n ||| 2 ^ k))) else av_V (av_S0 L) (d + 6) ta_X7_goDay 17 [.ref 142, .int (nI (k + 1)), .int (av_k (sLeft (B k) cs (sGain cs) (sTop cs) day))] [] (av_w (av_w M 149 k (av_k (sLeft (B k) cs (sGain cs) (sTop cs) day))) 142 2 (nI (sGone (fun b => if b < k then sGoB B cs day b else B b) n))))) → A = some (none, N') := by
        intro A hA
        apply fin
        rw [hA]
        unfold sPurse
        by_cases hz : sLeft (B k) cs (sGain cs) (sTop cs) day < 0
        · rw [if_pos ((av_klt0 z1 z2).mpr hz), if_pos ((av_klt0 z1 z2).mpr hz), if_pos hz, if_pos hz]
        · rw [if_neg (fun w => hz ((av_klt0 z1 z2).mp w)), if_neg hz, if_neg hz]
          by_cases h99 : 9999 < sLeft (B k) cs (sGain cs) (sTop cs) day
          · rw [if_pos ((av_9999 z1 z2).mpr h99), if_neg (fun w => hz ((av_klt0 z1 z2).mp w)), if_pos h99]
          · rw [if_neg (fun w => h99 ((av_9999 z1 z2).mp w)), if_neg (fun w => hz ((av_klt0 z1 z2).mp w)), if_neg h99, ← av_kz z1 z2 (by omega)]
      rcases hv0 with rfl | ⟨x, rfl⟩
      · apply eq_X7_goDay_17_a (d := d + 5)
        rw [hm1, if_pos (nI_lt hk (by omega)), hgM, hgb, av_bi_s]
        simp (disch := omega) only [av_kP, av_b_0, hlast, av_bi_s, av_gx_s, nI_clamp, m7, hdk, el, nI_add, e142, av_shl, av_or, Nat.one_mul]
        rw [if_pos (by rw [h9]; rfl)]
        exact body _ rfl
      · apply eq_X7_goDay_17_b (d := d + 5)
        rw [hm1, if_pos (nI_lt hk (by omega)), hgM, hgb, av_bi_s]
        simp (disch := omega) only [av_kP, av_b_0, hlast, av_bi_s, av_gx_s, nI_clamp, m7, hdk, el, nI_add, e142, av_shl, av_or, Nat.one_mul]
        rw [if_pos (by rw [h9]; rfl)]
        exact body _ rfl
    · have hC := al_mv_cg hM (B' := fun b => if b < k + 1 then sGoB B cs day b else B b) (fun b hb f => by
        by_cases e : b = k
        · subst e
          rw [if_pos (by omega), if_neg (by omega)]
          unfold sGoB
          rw [sDay_1 h9]
        · by_cases e2 : b < k
          · rw [if_pos e2, if_pos (by omega)]
          · rw [if_neg e2, if_neg (by omega)])
      obtain ⟨N', c1, c2, c3⟩ := ih M hC hdue hf v hv0
      refine ⟨N', ?_, c2, c3⟩
      have h91 : B k 9 = 1 := by omega
      rcases hv0 with rfl | ⟨x, rfl⟩
      · apply eq_X7_goDay_17_a (d := d + 5)
        rw [hm1, if_pos (nI_lt hk (by omega)), hgM, hgb, av_bi_s, if_neg (by rw [h91]; decide), av_kP, nI_add]
        exact c1
      · apply eq_X7_goDay_17_b (d := d + 5)
        rw [hm1, if_pos (nI_lt hk (by omega)), hgM, hgb, av_bi_s, if_neg (by rw [h91]; decide), av_kP, nI_add]
        exact c1)
  have key1 := lp_0 (P := fun k => ∀ M, al_fr (fun q => q = 160 ∨ q = 161) N M → (∀ b, b < k → M.1 161 b = nI (sRent (B b) cs (sTop cs) day)) → ∃ N', av_V (av_S0 L) (d + 6) ta_X7_goDay 2 [.ref 142, .int (nI k), am_junk] [] M = some (none, N') ∧ al_mv N' n (day + 1) (sGoB B cs day) cs ∧ al_f2 al_dG N N') n (fun M hM hdue => by
    have hv' := al_mv_fr hv (fun q k a b c => (hM q (by omega) k).1)
    obtain ⟨N', c1, c2, c3⟩ := key2 M (al_mv_cg hv' (fun b hb f => by rw [if_neg (by omega)])) hdue (al_f2_of hM (fun q k h => by unfold al_dG; omega)) am_junk (Or.inl rfl)
    refine ⟨N', ?_, c2, c3⟩
    apply eq_X7_goDay_2 (d := d + 5)
    rw [hv'.2.1.1, if_neg (nI_nlt (Nat.le_refl _) (by omega)), av_kP]
    exact c1) (fun k hk ih M hM hdue => by
    have hv' := al_mv_fr hv (fun q k a b c => (hM q (by omega) k).1)
    obtain ⟨N1, c1, f1⟩ := sp_rentM L d hv' hk
    obtain ⟨N', c2, c3, c4⟩ := ih (av_w N1 161 k (nI (sRent (B k) cs (sTop cs) day))) (al_fr_tr hM (al_fr_tr (al_fr_mono f1 (fun q h => Or.inl h)) (al_fr_w N1 (Or.inr rfl) _ _))) (fun b hb => by
      by_cases e : b = k
      · subst e
        exact av_w_s _ _ _ _
      · rw [av_w_k _ _ _ _ e, al_fr_k f1 (by decide)]
        exact hdue b (by omega))
    refine ⟨N', ?_, c3, c4⟩
    apply eq_X7_goDay_2 (d := d + 5)
    rw [hv'.2.1.1, if_pos (nI_lt hk (by omega)), c1, av_bi_s, av_gx_s (by omega) (by omega), nI_clamp (by omega), av_kP, nI_add]
    exact c2)
  obtain ⟨N', c1, c2, c3⟩ := key1 N (al_fr_rf _ _) (fun b hb => absurd hb (Nat.not_lt_zero _))
  refine ⟨N', ?_, c2, c3⟩
  apply eq_X7_goDay (d := d + 5)
  rw [av_kP]
  exact c1
def sGoN (B : Nat → Nat → Nat) (cs : List (Nat × Nat × List Nat)) (day n : Nat) : Nat → Nat → Nat := fun b => sLive (B b) cs (sGain cs) (sTop cs) day n
theorem sp_goDays (L : av_W) (d : Nat) {N : av_N} {n day m : Nat} {B : Nat → Nat → Nat} {cs : List (Nat × Nat × List Nat)} (hv : al_mv N n day B cs) (hd1 : day + m < 2 ^ 19) : ∃ N', av_C (av_S0 L) (d + 7) 169 [.ref 142, .int (nI m)] N = some (none, N') ∧ al_mv N' n (day + m) (sGoN B cs day m) cs ∧ al_f2 al_dG N N' := by
  have key := lp_0 (P := fun k => ∀ M, al_mv M n (day + k) (sGoN B cs day k) cs → al_f2 al_dG N M → ∃ N', av_V (av_S0 L) (d + 7) ta_X7_goDays 2 [.ref 142, .int (nI m), .int (nI k)] [] M = some (none, N') ∧ al_mv N' n (day + m) (sGoN B cs day m) cs ∧ al_f2 al_dG N N') m (fun M hM hf => by
    refine ⟨M, ?_, hM, hf⟩
    apply eq_X7_goDays_2 (d := d + 6)
    rw [if_neg (nI_nlt (Nat.le_refl _) (by omega))]) (fun k hk ih M hM hf => by
    obtain ⟨N1, c1, c2, c3⟩ := sp_goDay L d hM (by omega)
    obtain ⟨N', c4, c5, c6⟩ := ih N1 c2 (al_f2_tr hf c3)
    refine ⟨N', ?_, c5, c6⟩
    apply eq_X7_goDays_2 (d := d + 6)
    rw [if_pos (nI_lt hk (by omega)), c1, av_bv_s, av_kP, nI_add]
    exact c4)
  obtain ⟨N', c1, c2, c3⟩ := key N hv (al_f2_rf _ _)
  refine ⟨N', ?_, c2, c3⟩
  apply eq_X7_goDays (d := d + 6)
  rw [av_kP]
  exact c1
/-- what is kept of days, outs and purses -/
def al_kp (N : av_N) (n day : Nat) (B : Nat → Nat → Nat) : Prop := N.1 142 30 = nI day ∧ N.1 142 31 = nI (sGone B n) ∧ ∀ b, b < n → N.1 162 b = nI (B b 8)
theorem sp_save (L : av_W) (d : Nat) {N : av_N} {n day : Nat} {B : Nat → Nat → Nat} {cs : List (Nat × Nat × List Nat)} (hv : al_mv N n day B cs) : ∃ N', av_C (av_S0 L) d 171 [.ref 142] N = some (none, N') ∧ al_kp N' n day B ∧ al_f2 (fun q k => q = 162 ∨ (q = 142 ∧ (k = 30 ∨ k = 31))) N N' := by
  have hn := hv.1
  have h2 := hv.2.1.2.1
  have h3 := hv.2.2.1
  have h4 : ∀ b, b < n → N.1 149 b = nI (B b 8) := fun b hb => (hv.2.1.2.2 b hb).2.2.2.2.2.2.1
  have key := lp_0 (P := fun k => ∀ M, M.1 142 30 = nI day → M.1 142 31 = nI (sGone B n) → (∀ b, b < k → b < n → M.1 162 b = nI (B b 8)) → al_f2 (fun q k => q = 162 ∨ (q = 142 ∧ (k = 30 ∨ k = 31))) N M → ∃ N', av_V (av_S0 L) d ta_X7_save 10 [.ref 142, .int (nI k)] [] M = some (none, N') ∧ al_kp N' n day B ∧ al_f2 (fun q k => q = 162 ∨ (q = 142 ∧ (k = 30 ∨ k = 31))) N N') 7 (fun M h30 h31 hp hf => by
    refine ⟨M, ?_, ⟨h30, h31, fun b hb => hp b (by omega) hb⟩, hf⟩
    apply eq_X7_save_10
    rw [av_kP, if_neg (nI_nlt (Nat.le_refl _) (by omega))]) (fun k hk ih M h30 h31 hp hf => by
    obtain ⟨N', c4, c5, c6⟩ := ih (av_w M 162 k (M.1 149 k)) ((av_w_o M _ _ _ _ (by decide)).trans h30) ((av_w_o M _ _ _ _ (by decide)).trans h31) (fun b hb hbn => by
      by_cases e : b = k
      · subst e
        rw [av_w_s, al_f2_e hf (by omega)]
        exact h4 b hbn
      · rw [av_w_k _ _ _ _ e]
        exact hp b (by omega) hbn) (al_f2_tr hf (al_f2_w M (Or.inl rfl) _))
    refine ⟨N', ?_, c5, c6⟩
    apply eq_X7_save_10
    rw [av_kP, if_pos (nI_lt hk (by omega)), av_gx_s (by omega) (by omega), av_gx_s (by omega) (by omega), nI_clamp (by omega), av_kP, nI_add]
    exact c4)
  obtain ⟨N', c1, c2, c3⟩ := key (av_w (av_w N 142 30 (nI day)) 142 31 (nI (sGone B n))) ((av_w_k _ _ _ _ (by decide)).trans (av_w_s _ _ _ _)) (av_w_s _ _ _ _) (fun b hb => absurd hb (Nat.not_lt_zero _)) (al_f2_tr (al_f2_w N (Or.inr ⟨rfl, Or.inl rfl⟩) _) (al_f2_w _ (Or.inr ⟨rfl, Or.inr rfl⟩) _))
  refine ⟨N', ?_, c2, c3⟩
  apply eq_X7_save
  rw [h2, av_w_k _ _ _ _ (by decide), h3, av_kP]
  exact c1
theorem sp_putBack (L : av_W) (d : Nat) {N : av_N} {n day day2 : Nat} {B B2 : Nat → Nat → Nat} {cs : List (Nat × Nat × List Nat)} (hv : al_mv N n day2 B2 cs) (hd : day < 2 ^ 19) (hk : al_kp N n day B) (he : ∀ b, b < n → ∀ f, f ≠ 8 → f ≠ 9 → B2 b f = B b f) (hok : ∀ b, b < n → al_ok (B b)) : ∃ N', av_C (av_S0 L) d 172 [.ref 142] N = some (none, N') ∧ al_mv N' n day B cs ∧ al_f2 (fun q k => q = 149 ∨ (q = 142 ∧ (k = 1 ∨ k = 2))) N N' := by
  obtain ⟨hn, hm, hg, ⟨b0, hme⟩, hok2, -⟩ := hv
  obtain ⟨k1, k2, k3⟩ := hk
  have key := lp_0 (P := fun k => ∀ M, M.1 142 1 = nI day → M.1 142 2 = nI (sGone B n) → (∀ b, b < k → b < n → M.1 149 b = nI (B b 8)) → al_f2 (fun q k => q = 149 ∨ (q = 142 ∧ (k = 1 ∨ k = 2))) N M → ∃ N', av_V (av_S0 L) d ta_X7_putBack 10 [.ref 142, .int (nI k)] [] M = some (none, N') ∧ al_mv N' n day B cs ∧ al_f2 (fun q k => q = 149 ∨ (q = 142 ∧ (k = 1 ∨ k = 2))) N N') 7 (fun M h1 h2 hp hf => by
    refine ⟨M, ?_, ⟨hn, ⟨(al_f2_e hf (by omega)).trans hm.1, h1, fun b hb => ?_⟩, h2, ⟨b0, al_me_fr hme (al_f2_e hf (by omega)) (fun q k a b => al_f2_e hf (by omega))⟩, fun b hb => ⟨hok b hb, ?_⟩, hd⟩, hf⟩
    · apply eq_X7_putBack_10
      rw [av_kP, if_neg (nI_nlt (Nat.le_refl _) (by omega))]
    · obtain ⟨m1, m2, m3, m4, m5, m6, m7, m8⟩ := hm.2.2 b hb
      have e := he b hb
      rw [e 2 (by decide) (by decide)] at m1
      rw [e 3 (by decide) (by decide)] at m2
      rw [e 4 (by decide) (by decide)] at m3
      rw [e 5 (by decide) (by decide)] at m4
      rw [e 6 (by decide) (by decide)] at m5
      rw [e 7 (by decide) (by decide)] at m6
      exact ⟨(al_f2_e hf (by omega)).trans m1, (al_f2_e hf (by omega)).trans m2, (al_f2_e hf (by omega)).trans m3, (al_f2_e hf (by omega)).trans m4, (al_f2_e hf (by omega)).trans m5, (al_f2_e hf (by omega)).trans m6, hp b (by omega) hb, fun j hj => by
        rw [← e _ (by omega) (by omega)]
        exact (al_f2_e hf (by omega)).trans (m8 j hj)⟩
    · rw [← he b hb 1 (by decide) (by decide)]
      exact (hok2 b hb).2) (fun k hk ih M h1 h2 hp hf => by
    obtain ⟨N', c4, c5, c6⟩ := ih (av_w M 149 k (M.1 162 k)) ((av_w_o M _ _ _ _ (by decide)).trans h1) ((av_w_o M _ _ _ _ (by decide)).trans h2) (fun b hb hbn => by
      by_cases e : b = k
      · subst e
        rw [av_w_s, al_f2_e hf (by omega)]
        exact k3 b hbn
      · rw [av_w_k _ _ _ _ e]
        exact hp b (by omega) hbn) (al_f2_tr hf (al_f2_w M (Or.inl rfl) _))
    refine ⟨N', ?_, c5, c6⟩
    apply eq_X7_putBack_10
    rw [av_kP, if_pos (nI_lt hk (by omega)), av_gx_s (by omega) (by omega), av_gx_s (by omega) (by omega), nI_clamp (by omega), av_kP, nI_add]
    exact c4)
  obtain ⟨N', c1, c2, c3⟩ := key (av_w (av_w N 142 1 (nI day)) 142 2 (nI (sGone B n))) ((av_w_k _ _ _ _ (by decide)).trans (av_w_s _ _ _ _)) (av_w_s _ _ _ _) (fun b hb => absurd hb (Nat.not_lt_zero _)) (al_f2_tr (al_f2_w N (Or.inr ⟨rfl, Or.inl rfl⟩) _) (al_f2_w _ (Or.inr ⟨rfl, Or.inr rfl⟩) _))
  refine ⟨N', ?_, c2, c3⟩
  apply eq_X7_putBack
  rw [k1, av_w_k _ _ _ _ (by decide), k2, av_kP]
  exact c1
