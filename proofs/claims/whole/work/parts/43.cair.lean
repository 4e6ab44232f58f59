/-! the class's questions of the air -/
theorem av_freem {a top : Nat} (ht : top ≤ 10) : (nI 1 <<< (nI top &&& 31)) - nI 1 &&& (nI a ^^^ av_k (-1)) = nI (sBits (fun h => !a.testBit h) top) := by
  rw [av_ones (by omega), show av_k (-1) = nI 4294967295 from by decide, av_xor, av_and]
  congr 1
  apply Nat.eq_of_testBit_eq
  intro i
  rw [Nat.testBit_and, Nat.testBit_two_pow_sub_one, Nat.testBit_xor, sBits_bit]
  by_cases hi : i < top
  · rw [decide_eq_true hi, Bool.true_and, Bool.true_and]
    have : ∀ i, i < 10 → (4294967295 : Nat).testBit i = true := by decide +kernel
    rw [this i (by omega), Bool.xor_true]
  · rw [decide_eq_false hi, Bool.false_and, Bool.false_and]
theorem sp_freeAt (L : av_W) (d : Nat) {N : av_N} {n day : Nat} {B : Nat → Nat → Nat} {b : Nat → Nat} {top t : Nat} (hn : n ≤ 7) (hl : al_lay N (fun t => sOnce B top day 99 t n) b) (ht : top ≤ 10) (htt : t < 24) : av_C (av_S0 L) (d + 1) 91 [.ref 9, .int (nI t), .int (nI top)] N = some (some (.int (nI (sFree B n top day t))), N) := by
  have h1 := (hl t htt).1
  apply eq_X6_freeAt (d := d)
  rw [av_kP, av_kP, sp_within, av_bi_s, av_wiN (by decide) (by decide) (by omega), if_neg (by rw [decide_eq_true (by omega)]; decide), av_gx_s (by omega) (by omega), nI_clamp (by omega), h1, av_kP, av_freem ht, sFree_once B top day t hn]
theorem sp_isFree (L : av_W) (d : Nat) {N : av_N} {n day : Nat} {B : Nat → Nat → Nat} {b : Nat → Nat} {top t h : Nat} (hn : n ≤ 7) (hl : al_lay N (fun t => sOnce B top day 99 t n) b) (ht : top ≤ 10) (htt : t < 24) (hh : h < 32) : av_C (av_S0 L) (d + 2) 92 [.ref 9, .int (nI h), .int (nI t), .int (nI top)] N = some (some (.int (av_b ((sFree B n top day t).testBit h))), N) := by
  have hf := sFree_lt B n day t ht
  apply eq_X6_isFree (d := d + 1)
  rw [sp_freeAt L _ hn hl ht htt, av_bi_s]
  simp only [av_kP, av_bit (show sFree B n top day t < 2 ^ 31 by omega) hh, av_bt_0, av_bt_1]
  cases (sFree B n top day t).testBit h <;> rfl
theorem neN (k : Nat) (hk : k < 7) : (nI k = av_k (-1) ↔ k = 99) := by
  constructor
  · intro z
    have := congrArg Int32.toInt z
    rw [nI_toInt (by omega), av_kI (by decide) (by decide)] at this
    omega
  · intro z
    omega
theorem al_lay_fr {N N' : av_N} {a b : Nat → Nat} {D : Nat → Prop} (h : al_lay N a b) (hf : al_fr D N N') (h1 : ¬ D 110) (h2 : ¬ D 111) : al_lay N' a b := fun t ht => ⟨((hf _ h1 t).1).trans (h t ht).1, ((hf _ h2 t).1).trans (h t ht).2⟩
theorem sp_bc10 (L : av_W) (d : Nat) {m : Nat} (hm : m < 1024) (N : av_N) : av_C (av_S0 L) d 217 [.int (nI m)] N = some (some (.int (nI (sPop 10 m))), N) := by
  rw [sp_bc, bc_10 m hm]
theorem sp_freeStrips (L : av_W) (d : Nat) {N : av_N} {n day : Nat} {B : Nat → Nat → Nat} (hs : al_sn N 10 27 n day B) {top : Nat} (ht : top ≤ 10) : ∃ N', av_C (av_S0 L) (d + 4) 93 [.ref 9, .int (nI top)] N = some (some (.int (nI (sAllFree B n top day))), N') ∧ al_fr al_dL N N' := by
  obtain ⟨N1, c1, c2, c3⟩ := sp_layAir_10 L d hs ht neN
  refine ⟨N1, ?_, c3⟩
  have key := lp_0 (P := fun k => av_V (av_S0 L) (d + 4) ta_X6_freeStrips 10 [.ref 9, .int (nI top), .int (nI (sumN (fun t => sPop 10 (sFree B n top day t)) k)), .int (nI k)] [] N1 = some (some (.int (nI (sAllFree B n top day))), N1)) 24 (by
    apply eq_X6_freeStrips_10 (d := d + 3)
    rw [av_kP, if_neg (nI_nlt (Nat.le_refl _) (by decide))]
    rfl) (fun k hk ih => by
    apply eq_X6_freeStrips_10 (d := d + 3)
    rw [av_kP, if_pos (nI_lt hk (by decide)), sp_freeAt L _ hs.1 c2 ht hk, av_bi_s, sp_bc10 L _ (sFree_lt _ _ _ _ ht), av_bi_s, nI_add, av_kP, nI_add]
    exact ih)
  apply eq_X6_freeStrips (d := d + 3)
  rw [c1, av_bv_s, av_kP]
  exact key
theorem sp_crowded_10 (L : av_W) (d : Nat) {N : av_N} {n day e : Nat} {B : Nat → Nat → Nat} {cs : List (Nat × Nat × List Nat)} (hs : al_sn N 10 27 n day B) (he : al_ce N e cs) : ∃ N', av_C (av_S0 L) (d + 4) 94 [.ref 9, .ref 10] N = some (some (.int (nI (sCrowd B n (sTop cs) day))), N') ∧ al_fr al_dL N N' := by
  have ht := sTop_le cs
  have hes := he.2.2.1
  obtain ⟨q1, q2, q3, q4⟩ := al_epE (al_ep_e he.1) L
  obtain ⟨N1, c1, c2, c3⟩ := sp_layAir_10 L d hs ht.2 neN
  refine ⟨N1, ?_, c3⟩
  rw [← sCrowd_twice B day hs.1 ht.2]
  have key := lp_0 (P := fun k => av_V (av_S0 L) (d + 4) ta_X6_crowded 11 [.ref 9, .ref 10, .int (nI (sumN (fun t => sPop 10 (sTwice B (sTop cs) day 99 t n)) k)), .int (nI k)] [] N1 = some (some (.int (nI (sumN (fun t => sPop 10 (sTwice B (sTop cs) day 99 t n)) 24))), N1)) 24 (by
    apply eq_X6_crowded_10_11 (d := d + 3)
    rw [av_kP, if_neg (nI_nlt (Nat.le_refl _) (by decide))]) (fun k hk ih => by
    have h2 := (c2 k hk).2
    have hlt : sTwice B (sTop cs) day 99 k n < 1024 := Nat.lt_of_lt_of_le (sTwice_lt _ _ _ _ _ _) (Nat.pow_le_pow_right (by decide) ht.2 : 2 ^ sTop cs ≤ 2 ^ 10)
    apply eq_X6_crowded_10_11 (d := d + 3)
    rw [av_kP, if_pos (nI_lt hk (by decide)), av_gx_s (by omega) (by omega), nI_clamp (by omega), h2, sp_bc10 L _ hlt, av_bi_s, nI_add, av_kP, nI_add]
    exact ih)
  apply eq_X6_crowded_10 (d := d + 3)
  rw [sp_estuaryNow L _ he, av_br_s, q1, av_tg_s, hes.2.2.2.1, c1, av_bv_s, av_kP]
  exact key
theorem sp_rentOfAll_10 (L : av_W) (d : Nat) {N : av_N} {n day e : Nat} {B : Nat → Nat → Nat} {cs : List (Nat × Nat × List Nat)} (hs : al_sn N 10 27 n day B) (he : al_ce N e cs) : av_C (av_S0 L) (d + 4) 95 [.ref 9, .ref 10] N = some (some (.int (nI (sAllRent B n cs day))), N) := by
  have hn := hs.1
  have ht := sTop_le cs
  have hes := he.2.2.1
  obtain ⟨h10, hd⟩ := And.intro he.2.2.2.2 hs.2.2.2.2
  have key := lp_0 (P := fun k => av_V (av_S0 L) (d + 4) ta_X6_rentOfAll 7 [.ref 9, .ref 10, .ref (116 + 2 * e), .int (nI (sumN (fun b => sRent (B b) cs (sTop cs) day) k)), .int (nI k)] [] N = some (some (.int (nI (sAllRent B n cs day))), N)) n (by
    apply eq_X6_rentOfAll_10_7_a (d := d + 3)
    rw [hs.2.1, if_neg (nI_nlt (Nat.le_refl _) (by omega))]
    rfl) (fun k hk ih => by
    obtain ⟨kb, ok, -⟩ := hs.2.2.2.1 k hk
    have hbp : al_bp (27 + 2 * k) := al_bp27 (by omega)
    obtain ⟨s1, s2, s3, s4⟩ := al_bpE hbp L
    apply eq_X6_rentOfAll_10_7_a (d := d + 3)
    rw [hs.2.1, if_pos (nI_lt hk (by omega)), av_gx_s (by omega) (by omega), nI_clamp (by omega), al_R11 k (by omega), av_bd_s, s1, av_tg_s, hs.2.2.1, sp_rent L _ (al_ep_e he.1) hes hbp kb ok (by omega) he.2.2.2.1 h10, av_bi_s, nI_add, av_kP, nI_add]
    exact ih)
  apply eq_X6_rentOfAll_10 (d := d + 3)
  rw [sp_estuaryNow L _ he, av_br_s, av_kP]
  exact key
theorem sp_crowded_77 (L : av_W) (d : Nat) {N : av_N} {n day e : Nat} {B : Nat → Nat → Nat} {cs : List (Nat × Nat × List Nat)} (hs : al_sn N 77 94 n day B) (he : al_ce N e cs) : ∃ N', av_C (av_S0 L) (d + 4) 94 [.ref 9, .ref 77] N = some (some (.int (nI (sCrowd B n (sTop cs) day))), N') ∧ al_fr al_dL N N' := by
  have ht := sTop_le cs
  have hes := he.2.2.1
  obtain ⟨q1, q2, q3, q4⟩ := al_epE (al_ep_e he.1) L
  obtain ⟨N1, c1, c2, c3⟩ := sp_layAir_77 L d hs ht.2 neN
  refine ⟨N1, ?_, c3⟩
  rw [← sCrowd_twice B day hs.1 ht.2]
  have key := lp_0 (P := fun k => av_V (av_S0 L) (d + 4) ta_X6_crowded 11 [.ref 9, .ref 77, .int (nI (sumN (fun t => sPop 10 (sTwice B (sTop cs) day 99 t n)) k)), .int (nI k)] [] N1 = some (some (.int (nI (sumN (fun t => sPop 10 (sTwice B (sTop cs) day 99 t n)) 24))), N1)) 24 (by
    apply eq_X6_crowded_77_11 (d := d + 3)
    rw [av_kP, if_neg (nI_nlt (Nat.le_refl _) (by decide))]) (fun k hk ih => by
    have h2 := (c2 k hk).2
    have hlt : sTwice B (sTop cs) day 99 k n < 1024 := Nat.lt_of_lt_of_le (sTwice_lt _ _ _ _ _ _) (Nat.pow_le_pow_right (by decide) ht.2 : 2 ^ sTop cs ≤ 2 ^ 10)
    apply eq_X6_crowded_77_11 (d := d + 3)
    rw [av_kP, if_pos (nI_lt hk (by decide)), av_gx_s (by omega) (by omega), nI_clamp (by omega), h2, sp_bc10 L _ hlt, av_bi_s, nI_add, av_kP, nI_add]
    exact ih)
  apply eq_X6_crowded_77 (d := d + 3)
  rw [sp_estuaryNow L _ he, av_br_s, q1, av_tg_s, hes.2.2.2.1, c1, av_bv_s, av_kP]
  exact key
theorem sp_rentOfAll_77 (L : av_W) (d : Nat) {N : av_N} {n day e : Nat} {B : Nat → Nat → Nat} {cs : List (Nat × Nat × List Nat)} (hs : al_sn N 77 94 n day B) (he : al_ce N e cs) : av_C (av_S0 L) (d + 4) 95 [.ref 9, .ref 77] N = some (some (.int (nI (sAllRent B n cs day))), N) := by
  have hn := hs.1
  have ht := sTop_le cs
  have hes := he.2.2.1
  obtain ⟨h10, hd⟩ := And.intro he.2.2.2.2 hs.2.2.2.2
  have key := lp_0 (P := fun k => av_V (av_S0 L) (d + 4) ta_X6_rentOfAll 7 [.ref 9, .ref 77, .ref (116 + 2 * e), .int (nI (sumN (fun b => sRent (B b) cs (sTop cs) day) k)), .int (nI k)] [] N = some (some (.int (nI (sAllRent B n cs day))), N)) n (by
    apply eq_X6_rentOfAll_77_7_a (d := d + 3)
    rw [hs.2.1, if_neg (nI_nlt (Nat.le_refl _) (by omega))]
    rfl) (fun k hk ih => by
    obtain ⟨kb, ok, -⟩ := hs.2.2.2.1 k hk
    have hbp : al_bp (94 + 2 * k) := al_bp94 (by omega)
    obtain ⟨s1, s2, s3, s4⟩ := al_bpE hbp L
    apply eq_X6_rentOfAll_77_7_a (d := d + 3)
    rw [hs.2.1, if_pos (nI_lt hk (by omega)), av_gx_s (by omega) (by omega), nI_clamp (by omega), al_R78 k (by omega), av_bd_s, s1, av_tg_s, hs.2.2.1, sp_rent L _ (al_ep_e he.1) hes hbp kb ok (by omega) he.2.2.2.1 h10, av_bi_s, nI_add, av_kP, nI_add]
    exact ih)
  apply eq_X6_rentOfAll_77 (d := d + 3)
  rw [sp_estuaryNow L _ he, av_br_s, av_kP]
  exact key
theorem sp_clashOf (L : av_W) (d : Nat) {N : av_N} {n day e : Nat} {B : Nat → Nat → Nat} {cs : List (Nat × Nat × List Nat)} (hs : al_sn N 10 27 n day B) (he : al_ce N e cs) {a b : Nat} (ha : a < n) (hb : b < n) : av_C (av_S0 L) (d + 3) 96 [.ref 9, .ref (27 + 2 * a), .ref (27 + 2 * b)] N = some (some (.int (nI (sClash (B a) (B b) (sTop cs) day))), N) := by
  have hn := hs.1
  have ht := sTop_le cs
  have hes := he.2.2.1
  have hd := hs.2.2.2.2
  obtain ⟨q1, q2, q3, q4⟩ := al_epE (al_ep_e he.1) L
  obtain ⟨ka, oka, -⟩ := hs.2.2.2.1 a ha
  obtain ⟨kb, okb, -⟩ := hs.2.2.2.1 b hb
  have hap : al_bp (27 + 2 * a) := al_bp27 (by omega)
  have hbp : al_bp (27 + 2 * b) := al_bp27 (by omega)
  obtain ⟨s1, s2, s3, s4⟩ := al_bpE hap L
  obtain ⟨t1, t2, t3, t4⟩ := al_bpE hbp L
  have l1 : sHm (B a) (sTop cs) &&& sHm (B b) (sTop cs) < 1024 := Nat.lt_of_lt_of_le (and_lt_2 (sHm_lt _ _)) (Nat.pow_le_pow_right (by decide) ht.2 : 2 ^ sTop cs ≤ 2 ^ 10)
  have l2 : sSm (B a) day &&& sSm (B b) day < 2 ^ 24 := and_lt_2 (sSm_lt _ _)
  apply eq_X6_clashOf (d := d + 2)
  rw [sp_estuaryNow L _ he, av_br_s, q1, av_tg_s, s1, av_tg_s, hes.2.2.2.1, sp_heights L _ hap ka oka (by omega), av_bi_s, t1, av_tg_s, sp_heights L _ hbp kb okb (by omega), av_bi_s, av_tg_s, hs.2.2.1, sp_span L _ hap ka oka (by omega), av_bi_s, av_tg_s, hs.2.2.1, sp_span L _ hbp kb okb (by omega), av_bi_s, av_and, av_and, sp_bc10 L _ l1, av_bi_s, sp_bc, bc_24 l2, av_bi_s, av_mul, sClash_pop _ _ _ ht.2]
theorem sp_sharedStrips (L : av_W) (d : Nat) {N : av_N} {n day p b : Nat} {B : Nat → Nat → Nat} {X : Nat → Nat} {c : Nat → Nat} {top : Nat} (hl : al_lay N (fun t => sOnce B top day b t n) c) (hday : N.1 10 2 = nI day) (hd : day < 2 ^ 19) (ht : top ≤ 10) (hp : al_bp p) (hx : al_bd N p X) (ok : al_ok X) : av_C (av_S0 L) (d + 3) 97 [.ref 9, .ref p, .int (nI top)] N = some (some (.int (nI (sShr B n top day b X))), N) := by
  obtain ⟨s1, s2, s3, s4⟩ := al_bpE hp L
  have hS : sSm X day < 2 ^ 31 := Nat.lt_trans (sSm_lt _ _) (by decide)
  have key := lp_0 (P := fun k => av_V (av_S0 L) (d + 3) ta_X6_sharedStrips 14 [.ref 9, .ref p, .int (nI top), .int (nI (sHm X top)), .int (nI (sSm X day)), .int (nI (sumN (fun t => if (sSm X day).testBit t then sPop 10 (sHm X top &&& sOnce B top day b t n) else 0) k)), .int (nI k)] [] N = some (some (.int (nI (sShr B n top day b X))), N)) 24 (by
    apply eq_X6_sharedStrips_14 (d := d + 2)
    rw [av_kP, if_neg (nI_nlt (Nat.le_refl _) (by decide))]
    rfl) (fun k hk ih => by
    have h1 := (hl k hk).1
    have l1 : sHm X top &&& sOnce B top day b k n < 1024 := Nat.lt_of_lt_of_le (and_lt_2 (sHm_lt _ _)) (Nat.pow_le_pow_right (by decide) ht : 2 ^ top ≤ 2 ^ 10)
    apply eq_X6_sharedStrips_14 (d := d + 2)
    rw [av_kP, if_pos (nI_lt hk (by decide)), av_gx_s (by omega) (by omega), nI_clamp (by omega), h1, av_and, sp_bc10 L _ l1, av_bi_s]
    simp only [av_kP, av_bit hS (show k < 32 by omega), nI_add]
    have e : sumN (fun t => if (sSm X day).testBit t then sPop 10 (sHm X top &&& sOnce B top day b t n) else 0) (k + 1) = sumN (fun t => if (sSm X day).testBit t then sPop 10 (sHm X top &&& sOnce B top day b t n) else 0) k + (if (sSm X day).testBit k then sPop 10 (sHm X top &&& sOnce B top day b k n) else 0) := rfl
    rw [e] at ih
    cases hb : (sSm X day).testBit k
    · rw [hb] at ih
      rw [if_pos rfl]
      exact ih
    · rw [hb] at ih
      rw [if_neg (by decide)]
      exact ih)
  apply eq_X6_sharedStrips (d := d + 2)
  rw [s1, av_tg_s, sp_heights L _ hp hx ok (by omega), av_bi_s, av_tg_s, hday, sp_span L _ hp hx ok (by omega), av_bi_s, av_kP]
  exact key
