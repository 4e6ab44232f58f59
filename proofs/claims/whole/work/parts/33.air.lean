/-! the reference's air: heights, strips, who holds what; memory stays as it is -/
def sumN (f : Nat → Nat) : Nat → Nat
  | 0 => 0
  | n + 1 => sumN f n + f n
def sBits (p : Nat → Bool) : Nat → Nat
  | 0 => 0
  | n + 1 => sBits p n ||| (if p n then 2 ^ n else 0)
theorem lp_up {P : Nat → Prop} : ∀ (m k : Nat), (∀ j, k ≤ j → j < k + m → P (j + 1) → P j) → P (k + m) → P k
  | 0, _, _, h => h
  | m + 1, k, hs, h => hs k (Nat.le_refl _) (by omega) (lp_up m (k + 1) (fun j h1 h2 => hs j (by omega) (by omega)) (by rw [show k + 1 + m = k + (m + 1) by omega]; exact h))
theorem lp_0 {P : Nat → Prop} (n : Nat) (he : P n) (hs : ∀ k, k < n → P (k + 1) → P k) : P 0 := lp_up n 0 (fun j _ h => hs j (by omega)) (by rw [Nat.zero_add]; exact he)
theorem lp_k {P : Nat → Prop} {k n : Nat} (hk : k ≤ n) (he : P n) (hs : ∀ j, k ≤ j → j < n → P (j + 1) → P j) : P k := lp_up (n - k) k (fun j h1 h => hs j h1 (by omega)) (by rw [show k + (n - k) = n by omega]; exact he)
def okv (v : Value) : Prop := v = am_junk ∨ ∃ x, v = .int x
theorem lp_2d {P : Nat → Nat → Value → Prop} {Q : Nat → Nat → Nat → Prop} (f : Nat → Nat → Nat) (top : Nat) (h1 : ∀ acc t v, okv v → t < 24 → Q acc t 0 → P acc t v) (h2 : ∀ acc t h, t < 24 → h < top → Q (acc + f t h) t (h + 1) → Q acc t h) (h3 : ∀ acc t, t < 24 → P acc (t + 1) (.int (nI top)) → Q acc t top) (h4 : ∀ v, okv v → P (sumN (fun t => sumN (f t) top) 24) 24 v) : P 0 0 am_junk := by
  have key : ∀ v, okv v → P (sumN (fun t => sumN (f t) top) 0) 0 v := by
    refine lp_0 (P := fun t => ∀ v, okv v → P (sumN (fun t => sumN (f t) top) t) t v) 24 h4 (fun t ht ih v hv => h1 _ _ _ hv ht ?_)
    have := lp_0 (P := fun h => Q (sumN (fun t => sumN (f t) top) t + sumN (f t) h) t h) top (h3 _ _ ht (ih _ (Or.inr ⟨_, rfl⟩))) (fun h hh ih2 => h2 _ _ _ ht hh (by rw [Nat.add_assoc]; exact ih2))
    exact this
  exact key _ (Or.inl rfl)
theorem sBits_lt (p : Nat → Bool) : ∀ n, sBits p n < 2 ^ n
  | 0 => Nat.two_pow_pos 0
  | n + 1 => by
    have ih := sBits_lt p n
    unfold sBits
    rw [Nat.pow_succ]
    refine Nat.or_lt_two_pow (n := n + 1) (by rw [Nat.pow_succ]; omega) ?_
    rw [Nat.pow_succ]
    have := Nat.two_pow_pos n
    split <;> omega
theorem sBits_bit (p : Nat → Bool) : ∀ n i, (sBits p n).testBit i = (decide (i < n) && p i)
  | 0, i => by
    show (0 : Nat).testBit i = _
    simp
  | n + 1, i => by
    have ih := sBits_bit p n i
    unfold sBits
    rw [Nat.testBit_or, ih]
    by_cases h : i = n
    · subst h
      cases hp : p i <;> simp
    · by_cases h2 : i < n
      · rw [decide_eq_true h2, decide_eq_true (show i < n + 1 by omega)]
        cases hp : p i <;> cases hn : p n <;> simp [Nat.testBit_two_pow] <;> omega
      · rw [decide_eq_false h2, decide_eq_false (show ¬ i < n + 1 by omega)]
        cases hn : p n <;> simp [Nat.testBit_two_pow] <;> omega
theorem sBits_31 (p : Nat → Bool) {n : Nat} (h : n ≤ 30) : sBits p n < 2 ^ 31 := Nat.lt_of_lt_of_le (sBits_lt p n) (Nat.pow_le_pow_right (by decide) (by omega))
theorem sBits_1024 (p : Nat → Bool) {n : Nat} (h : n ≤ 10) : sBits p n < 1024 := Nat.lt_of_lt_of_le (sBits_lt p n) (Nat.pow_le_pow_right (by decide) h : 2 ^ n ≤ 2 ^ 10)
theorem sBits_0 (p : Nat → Bool) (n : Nat) : sBits p n = 0 ↔ ∀ i, i < n → p i = false := by
  constructor
  · intro h i hi
    have := sBits_bit p n i
    rw [h, decide_eq_true hi] at this
    simpa using this.symm
  · intro h
    apply Nat.eq_of_testBit_eq
    intro i
    rw [sBits_bit]
    by_cases hi : i < n
    · rw [h i hi]
      simp
    · simp [hi]
def sGone (B : Nat → Nat → Nat) (n : Nat) : Nat := sBits (fun b => B b 9 == 1) n
/-- the reference as it stands: birds, day, the text that holds -/
def al_mv (N : av_N) (n day : Nat) (B : Nat → Nat → Nat) (cs : List (Nat × Nat × List Nat)) : Prop := n ≤ 7 ∧ al_md N n day B ∧ N.1 142 2 = nI (sGone B n) ∧ (∃ b0, al_me N b0 cs) ∧ (∀ b, b < n → al_ok (B b) ∧ B b 1 = b) ∧ day < 2 ^ 19
theorem sGone_bit (B : Nat → Nat → Nat) {n b : Nat} (h : b < n) : (sGone B n).testBit b = (B b 9 == 1) := by
  unfold sGone
  rw [sBits_bit, decide_eq_true h, Bool.true_and]
theorem av_sub_lt {a b : Nat} (ha : a < 2 ^ 30) (hb : b < 2 ^ 30) : (nI a - nI b < nI 0) ↔ a < b := by
  rw [← av_kN a, av_ksub, Int32.lt_iff_toInt_lt, av_kI (by omega) (by omega), nI_toInt (by decide)]
  omega
theorem av_sub_add {a b c : Nat} (h : b ≤ a + c) : nI a - nI b + nI c = nI (a + c - b) := by
  rw [← av_kN a, av_ksub, av_kadd, ← av_kN]
  congr 1
  omega
def sUp (B : Nat → Nat) (top : Nat) : Nat := if B 2 = 4 ∨ top < sBot B + B 5 then top else sBot B + B 5
def sHn (B : Nat → Nat) (top : Nat) : Nat := sUp B top - sBot B
theorem hm_bits : ∀ T, T < 11 → ∀ b, b < 12 → ∀ top, top < 11 → ∀ h, h < 32 → (((2 ^ T - 1) * 2 ^ b) % 2 ^ top).testBit h = (decide (b ≤ h) && decide (h < b + T) && decide (h < top)) := by decide +kernel
theorem hm_pop : ∀ T, T < 11 → ∀ b, b < 12 → ∀ top, top < 11 → sPop 10 (((2 ^ T - 1) * 2 ^ b) % 2 ^ top) = (if top < b + T then top else b + T) - b := by decide +kernel
theorem sHm_bit {B : Nat → Nat} (ok : al_ok B) {top h : Nat} (ht : top ≤ 10) (hh : h < 32) : (sHm B top).testBit h = (decide (B 9 = 0) && (decide (sBot B ≤ h) && decide (h < sBot B + sHn B top))) := by
  have h1 := sBot_le ok
  have h2 := sTall_le ok
  unfold sHm
  by_cases h9 : B 9 = 0
  · rw [if_pos h9, hm_bits _ (by omega) _ (by omega) _ (by omega) _ hh, decide_eq_true h9, Bool.true_and, Bool.and_assoc]
    by_cases hb : sBot B ≤ h
    · rw [decide_eq_true hb, Bool.true_and, Bool.true_and, ← Bool.decide_and]
      apply decide_eq_decide.mpr
      unfold sHn sUp sTall
      by_cases h4 : B 2 = 4
      · rw [if_pos h4, if_pos (Or.inl h4)]
        unfold sBot at hb ⊢
        rw [if_neg (by omega)] at hb ⊢
        omega
      · rw [if_neg h4]
        by_cases h5 : top < sBot B + B 5
        · rw [if_pos (Or.inr h5)]
          omega
        · rw [if_neg (fun z => z.elim h4 h5)]
          omega
    · rw [decide_eq_false hb, Bool.false_and, Bool.false_and]
  · rw [if_neg h9, decide_eq_false h9]
    simp
theorem sPop_hm {B : Nat → Nat} (ok : al_ok B) {top : Nat} (ht : top ≤ 10) : sPop 10 (sHm B top) = if B 9 = 0 then sHn B top else 0 := by
  have h1 := sBot_le ok
  have h2 := sTall_le ok
  unfold sHm
  by_cases h9 : B 9 = 0
  · rw [if_pos h9, if_pos h9, hm_pop _ (by omega) _ (by omega) _ (by omega)]
    unfold sHn sUp sTall
    by_cases h4 : B 2 = 4
    · rw [if_pos h4, if_pos (Or.inl h4)]
      by_cases h5 : top < sBot B + 10
      · rw [if_pos h5]
      · rw [if_neg h5]
        omega
    · rw [if_neg h4]
      by_cases h5 : top < sBot B + B 5
      · rw [if_pos h5, if_pos (Or.inr h5)]
      · rw [if_neg h5, if_neg (fun z => z.elim h4 h5)]
  · rw [if_neg h9, if_neg h9]
    rfl
theorem sHolds_eq {B : Nat → Nat} (ok : al_ok B) {top day h t : Nat} (ht : top ≤ 10) (hh : h < 32) (htt : t < 24) : sHolds B top day h t = (decide (B 9 = 0) && (decide ((t + 24 - sBeg B day) % 24 < B 7) && (decide (sBot B ≤ h) && decide (h < sBot B + sHn B top)))) := by
  unfold sHolds sSm
  rw [sHm_bit ok ht hh, sSmN_bit _ (by have := ok.2.2.2.2.2.2.2.2.1; omega) _ (sBeg_lt _) _ htt]
  cases decide (B 9 = 0) <;> cases decide ((t + 24 - sBeg B day) % 24 < B 7) <;> simp
theorem sUp_le {B : Nat → Nat} (ok : al_ok B) {top : Nat} (ht : top ≤ 10) : sUp B top ≤ 10 := by
  unfold sUp
  split
  · exact ht
  next h =>
    have : ¬ top < sBot B + B 5 := fun z => h (Or.inr z)
    omega
theorem sp_heightsM (L : av_W) (d : Nat) {N : av_N} {n day : Nat} {B : Nat → Nat → Nat} {cs : List (Nat × Nat × List Nat)} (hv : al_mv N n day B cs) {b : Nat} (hb : b < n) : av_C (av_S0 L) (d + 3) 151 [.ref 142, .int (nI b)] N = some (some (.int (nI (sHn (B b) (sTop cs)))), N) := by
  obtain ⟨hn, hm, hg, ⟨b0, hme⟩, hok, hd⟩ := hv
  obtain ⟨m1, m2, m3, m4, m5, m6, m7, m8⟩ := hm.2.2 b hb
  have ok := (hok b hb).1
  have h1 := sBot_le ok
  have ok' := ok
  obtain ⟨o1, o2, o3, o4, o5, o6, o7, o8, o9, o10, o11, o12⟩ := ok'
  have ht := sTop_le cs
  apply eq_X7_heights (d := d + 2)
  simp (disch := omega) only [av_gx_s, nI_clamp, m1, m4, av_kO, nI_eq, sp_topM L _ hme, sp_bottomM L _ hn hm hb ok, av_bi_s, nI_add, nI_ltI]
  unfold sHn sUp
  by_cases h4 : B b 2 = 4
  · rw [if_pos h4, if_pos (Or.inl h4)]
    by_cases h5 : sTop cs < sBot (B b)
    · rw [if_pos h5, show sTop cs - sBot (B b) = 0 by omega]
    · rw [if_neg h5, av_sub (by omega)]
  · rw [if_neg h4]
    by_cases h5 : sTop cs < sBot (B b) + B b 5
    · rw [if_pos h5, if_pos (Or.inr h5)]
      by_cases h6 : sTop cs < sBot (B b)
      · rw [if_pos h6, show sTop cs - sBot (B b) = 0 by omega]
      · rw [if_neg h6, av_sub (by omega)]
    · rw [if_neg h5, if_neg (show ¬ sBot (B b) + B b 5 < sBot (B b) by omega), av_sub (by omega), if_neg (fun z => z.elim h4 h5)]
theorem sp_hasG (L : av_W) (d : Nat) {N : av_N} {n day : Nat} {B : Nat → Nat → Nat} {cs : List (Nat × Nat × List Nat)} (hv : al_mv N n day B cs) {b : Nat} (hb : b < n) (N' : av_N) : av_C (av_S0 L) d 113 [.ref 142, .int (nI (sGone B n)), .int (nI b)] N' = some (some (.int (av_b (B b 9 == 1))), N') := by
  have hn := hv.1
  have := sp_has L d (m := sGone B n) (b := b) (sBits_31 _ (by omega)) (by omega) N'
  rw [this, sGone_bit B hb]
theorem sp_holdsStrip (L : av_W) (d : Nat) {N : av_N} {n day : Nat} {B : Nat → Nat → Nat} {cs : List (Nat × Nat × List Nat)} (hv : al_mv N n day B cs) {b h t : Nat} (hb : b < n) (hh : h < 32) (htt : t < 24) : av_C (av_S0 L) (d + 4) 152 [.ref 142, .int (nI b), .int (nI h), .int (nI t)] N = some (some (.int (av_b (sHolds (B b) (sTop cs) day h t))), N) := by
  have hv' := hv
  obtain ⟨hn, hm, hg, ⟨b0, hme⟩, hok, hd⟩ := hv'
  obtain ⟨m1, m2, m3, m4, m5, m6, m7, m8⟩ := hm.2.2 b hb
  have ok := (hok b hb).1
  have h1 := sBot_le ok
  have ok' := ok
  obtain ⟨o1, o2, o3, o4, o5, o6, o7, o8, o9, o10, o11, o12⟩ := ok'
  have ht := sTop_le cs
  have hu := sUp_le ok ht.2
  have hbg := sBeg_lt (B := B b) day
  have hsn : sHn (B b) (sTop cs) ≤ 10 := by unfold sHn; omega
  have key : ∀ (x4 : Int32) (s : Nat), s < 48 → av_V (av_S0 L) (d + 4) ta_X7_holdsStrip 21 [.ref 142, .int (nI b), .int (nI h), .int (nI t), .int x4] [.int (nI s)] N = some (some (.int (av_b (decide (s < B b 7) && (decide (sBot (B b) ≤ h) && decide (h < sBot (B b) + sHn (B b) (sTop cs)))))), N) := by
    intro x4 s hs
    apply eq_X7_holdsStrip_21 (d := d + 3)
    simp (disch := omega) only [av_gx_s, nI_clamp, m6, nI_ltI, sp_bottomM L _ hn hm hb ok, sp_heightsM L _ hv hb, av_bi_s, nI_add, av_kO, av_bt_0, av_bt_1]
    by_cases a1 : s < B b 7
    · rw [if_pos a1]
      by_cases a2 : h < sBot (B b)
      · rw [if_pos a2, decide_eq_false (show ¬ sBot (B b) ≤ h by omega)]
        simp [av_b]
      · rw [if_neg a2]
        by_cases a3 : h < sBot (B b) + sHn (B b) (sTop cs)
        · rw [if_pos a3, decide_eq_true a1, decide_eq_true a3, decide_eq_true (show sBot (B b) ≤ h by omega)]
          rfl
        · rw [if_neg a3, decide_eq_false a3]
          simp [av_b]
    · rw [if_neg a1, decide_eq_false a1]
      rfl
  apply eq_X7_holdsStrip (d := d + 3)
  rw [hg, sp_hasG L _ hv hb, av_bi_s, av_kO, av_kO]
  rw [sHolds_eq ok ht.2 hh htt]
  simp only [av_b_0]
  by_cases h9 : B b 9 = 0
  · rw [if_pos (by rw [h9]; rfl), sp_beginsM L _ hn hm hb ok (by omega), av_bi_s, decide_eq_true h9, Bool.true_and]
    by_cases hlt : t < sBeg (B b) day
    · rw [if_pos ((av_sub_lt (by omega) (by omega)).mpr hlt), av_sub_add (by omega), key _ _ (by omega)]
      rw [show (t + 24 - sBeg (B b) day) % 24 = t + 24 - sBeg (B b) day by omega]
    · rw [if_neg (fun z => hlt ((av_sub_lt (by omega) (by omega)).mp z)), av_sub (by omega), key _ _ (by omega)]
      rw [show (t + 24 - sBeg (B b) day) % 24 = t - sBeg (B b) day by omega]
  · rw [if_neg (by rw [show B b 9 = 1 by omega]; decide), decide_eq_false h9, Bool.false_and]
    rfl
def sHeld (B : Nat → Nat → Nat) (n top day h t : Nat) : Nat := sBits (fun b => sHolds (B b) top day h t) n
theorem sp_heldBy (L : av_W) (d : Nat) {N : av_N} {n day : Nat} {B : Nat → Nat → Nat} {cs : List (Nat × Nat × List Nat)} (hv : al_mv N n day B cs) {h t : Nat} (hh : h < 32) (htt : t < 24) : av_C (av_S0 L) (d + 5) 156 [.ref 142, .int (nI h), .int (nI t)] N = some (some (.int (nI (sHeld B n (sTop cs) day h t))), N) := by
  have hn := hv.1
  have hm1 := hv.2.1.1
  have key := lp_0 (P := fun k => av_V (av_S0 L) (d + 5) ta_X7_heldBy 4 [.ref 142, .int (nI h), .int (nI t), .int (nI (sBits (fun b => sHolds (B b) (sTop cs) day h t) k)), .int (nI k)] [] N = some (some (.int (nI (sHeld B n (sTop cs) day h t))), N)) n (by
    apply eq_X7_heldBy_4 (d := d + 4)
    rw [hm1, if_neg (nI_nlt (Nat.le_refl _) (by omega))]
    rfl) (fun k hk ih => by
    apply eq_X7_heldBy_4 (d := d + 4)
    rw [hm1, if_pos (nI_lt hk (by omega)), sp_holdsStrip L _ hv hk hh htt, av_bi_s]
    simp (disch := omega) only [av_kO, nI_add, av_shl, av_or, av_b_0, Nat.one_mul]
    have e : sBits (fun b => sHolds (B b) (sTop cs) day h t) (k + 1) = sBits (fun b => sHolds (B b) (sTop cs) day h t) k ||| (if sHolds (B k) (sTop cs) day h t then 2 ^ k else 0) := rfl
    rw [e] at ih
    cases hc : sHolds (B k) (sTop cs) day h t
    · rw [hc] at ih
      rw [if_pos rfl]
      exact ih
    · rw [hc] at ih
      rw [if_neg (by decide)]
      exact ih)
  apply eq_X7_heldBy (d := d + 4)
  rw [av_kO]
  exact key
def sFree (B : Nat → Nat → Nat) (n top day t : Nat) : Nat := sBits (fun h => sHeld B n top day h t == 0) top
theorem sp_freeAtM (L : av_W) (d : Nat) {N : av_N} {n day : Nat} {B : Nat → Nat → Nat} {cs : List (Nat × Nat × List Nat)} (hv : al_mv N n day B cs) {t : Nat} (htt : t < 24) : av_C (av_S0 L) (d + 6) 157 [.ref 142, .int (nI t)] N = some (some (.int (nI (sFree B n (sTop cs) day t))), N) := by
  have hn := hv.1
  obtain ⟨b0, hme⟩ := hv.2.2.2.1
  have ht := sTop_le cs
  have key := lp_0 (P := fun k => av_V (av_S0 L) (d + 6) ta_X7_freeAt 4 [.ref 142, .int (nI t), .int (nI (sBits (fun h => sHeld B n (sTop cs) day h t == 0) k)), .int (nI k)] [] N = some (some (.int (nI (sFree B n (sTop cs) day t))), N)) (sTop cs) (by
    apply eq_X7_freeAt_4 (d := d + 5)
    rw [sp_topM L _ hme, av_bi_s, if_neg (nI_nlt (Nat.le_refl _) (by omega))]
    rfl) (fun k hk ih => by
    apply eq_X7_freeAt_4 (d := d + 5)
    have hb : sHeld B n (sTop cs) day k t < 2 ^ 31 := sBits_31 _ (by omega)
    rw [sp_topM L _ hme, av_bi_s, if_pos (nI_lt hk (by omega)), sp_heldBy L _ hv (by omega) htt, av_bi_s]
    simp (disch := omega) only [av_kO, nI_add, av_shl, av_or, nI_eq, Nat.one_mul]
    have e : sBits (fun h => sHeld B n (sTop cs) day h t == 0) (k + 1) = sBits (fun h => sHeld B n (sTop cs) day h t == 0) k ||| (if sHeld B n (sTop cs) day k t == 0 then 2 ^ k else 0) := rfl
    rw [e] at ih
    by_cases hc : sHeld B n (sTop cs) day k t = 0
    · rw [if_pos hc]
      rw [if_pos (by rw [hc]; rfl)] at ih
      exact ih
    · rw [if_neg hc]
      rw [if_neg (by simpa using hc)] at ih
      exact ih)
  apply eq_X7_freeAt (d := d + 5)
  rw [av_kO]
  exact key
theorem pop_step : ∀ m, m < 1024 → m ≠ 0 → (m &&& (m - 1)) < m ∧ sPop 10 (m &&& (m - 1)) + 1 = sPop 10 m := by decide +kernel
theorem sp_ones (L : av_W) (d : Nat) {m : Nat} (hm : m < 1024) (N : av_N) : av_C (av_S0 L) d 114 [.ref 142, .int (nI m)] N = some (some (.int (nI (sPop 10 m))), N) := by
  have e0 : sPop 10 0 = 0 := by decide
  have key : ∀ (k m acc : Nat) (x : Int32), m ≤ k → m < 1024 → av_V (av_S0 L) d ta_X7_ones 4 [.ref 142, .int x, .int (nI acc), .int (nI m)] [] N = some (some (.int (nI (acc + sPop 10 m))), N) := by
    intro k
    induction k with
    | zero =>
      intro m acc x h1 h2
      apply eq_X7_ones_4
      rw [show m = 0 by omega, av_kO, if_pos rfl, e0]
      rfl
    | succ k ih =>
      intro m acc x h1 h2
      apply eq_X7_ones_4
      by_cases h0 : m = 0
      · rw [h0, av_kO, if_pos rfl, e0]
        rfl
      · obtain ⟨p1, p2⟩ := pop_step m h2 h0
        rw [av_kO, if_neg (fun z => h0 ((nI_eq (by omega) (by decide)).mp z)), av_kO, av_sub (show 1 ≤ m by omega), av_and, nI_add, ih (m &&& (m - 1)) (acc + 1) x (by omega) (by omega)]
        rw [show acc + 1 + sPop 10 (m &&& (m - 1)) = acc + sPop 10 m by omega]
  apply eq_X7_ones
  rw [av_kO]
  have := key m m 0 (nI m) (Nat.le_refl _) hm
  rw [Nat.zero_add] at this
  exact this
theorem sp_isHeight (L : av_W) (d : Nat) {N : av_N} {n day : Nat} {B : Nat → Nat → Nat} {cs : List (Nat × Nat × List Nat)} (hv : al_mv N n day B cs) (x : Int32) : av_C (av_S0 L) (d + 3) 162 [.ref 142, .int x] N = some (some (.int (av_b (av_lt x (sTop cs)))), N) := by
  obtain ⟨b0, hme⟩ := hv.2.2.2.1
  have ht := sTop_le cs
  apply eq_X7_isHeight (d := d + 2)
  rw [sp_topM L _ hme, av_bi_s, av_kO, av_kO, sp_in, av_bi_s, av_bt_b, av_lt_wi (by omega)]
def sAllFree (B : Nat → Nat → Nat) (n top day : Nat) : Nat := sumN (fun t => sPop 10 (sFree B n top day t)) 24
theorem sFree_lt (B : Nat → Nat → Nat) (n day t : Nat) {top : Nat} (h : top ≤ 10) : sFree B n top day t < 1024 := sBits_1024 _ h
theorem sHeld_lt (B : Nat → Nat → Nat) (top day h t : Nat) {n : Nat} (hn : n ≤ 7) : sHeld B n top day h t < 1024 := sBits_1024 _ (by omega)
theorem sp_allFree (L : av_W) (d : Nat) {N : av_N} {n day : Nat} {B : Nat → Nat → Nat} {cs : List (Nat × Nat × List Nat)} (hv : al_mv N n day B cs) : av_C (av_S0 L) (d + 7) 158 [.ref 142] N = some (some (.int (nI (sAllFree B n (sTop cs) day))), N) := by
  have ht := sTop_le cs
  have key := lp_0 (P := fun k => av_V (av_S0 L) (d + 7) ta_X7_allFree 4 [.ref 142, .int (nI (sumN (fun t => sPop 10 (sFree B n (sTop cs) day t)) k)), .int (nI k)] [] N = some (some (.int (nI (sAllFree B n (sTop cs) day))), N)) 24 (by
    apply eq_X7_allFree_4 (d := d + 6)
    rw [av_kO, if_neg (nI_nlt (Nat.le_refl _) (by decide))]
    rfl) (fun k hk ih => by
    apply eq_X7_allFree_4 (d := d + 6)
    rw [av_kO, if_pos (nI_lt hk (by decide)), sp_freeAtM L _ hv hk, av_bi_s, sp_ones L _ (sFree_lt _ _ _ _ ht.2), av_bi_s, nI_add, av_kO, nI_add]
    exact ih)
  apply eq_X7_allFree (d := d + 6)
  rw [av_kO]
  exact key
def sum2 (f : Nat → Nat → Nat) (top : Nat) : Nat := sumN (fun t => sumN (f t) top) 24
def sCrowd (B : Nat → Nat → Nat) (n top day : Nat) : Nat := sum2 (fun t h => if 1 < sPop 10 (sHeld B n top day h t) then 1 else 0) top
theorem sp_crowdedM (L : av_W) (d : Nat) {N : av_N} {n day : Nat} {B : Nat → Nat → Nat} {cs : List (Nat × Nat × List Nat)} (hv : al_mv N n day B cs) : av_C (av_S0 L) (d + 6) 159 [.ref 142] N = some (some (.int (nI (sCrowd B n (sTop cs) day))), N) := by
  have hn := hv.1
  obtain ⟨b0, hme⟩ := hv.2.2.2.1
  have ht := sTop_le cs
  apply eq_X7_crowded (d := d + 5)
  rw [av_kO]
  refine lp_2d (P := fun acc t v => av_V (av_S0 L) (d + 6) ta_X7_crowded 4 [.ref 142, .int (nI acc), .int (nI t), v] [] N = some (some (.int (nI (sCrowd B n (sTop cs) day))), N)) (Q := fun acc t h => av_V (av_S0 L) (d + 6) ta_X7_crowded 9 [.ref 142, .int (nI acc), .int (nI t), .int (nI h)] [] N = some (some (.int (nI (sCrowd B n (sTop cs) day))), N)) (fun t h => if 1 < sPop 10 (sHeld B n (sTop cs) day h t) then 1 else 0) (sTop cs) ?_ ?_ ?_ ?_
  · rintro acc t v (rfl | ⟨x, rfl⟩) ht ih
    · apply eq_X7_crowded_4 (d := d + 5)
      rw [av_kO, if_pos (nI_lt ht (by decide)), av_kO]
      exact ih
    · apply eq_X7_crowded_4_b (d := d + 5)
      rw [av_kO, if_pos (nI_lt ht (by decide)), av_kO]
      exact ih
  · intro acc t h htt hh ih
    apply eq_X7_crowded_9 (d := d + 5)
    have hp := sPop_le 10 (sHeld B n (sTop cs) day h t)
    rw [sp_topM L _ hme, av_bi_s, if_pos (nI_lt hh (by omega)), sp_heldBy L _ hv (by omega) htt, av_bi_s, sp_ones L _ (sHeld_lt _ _ _ _ _ hn), av_bi_s]
    simp (disch := omega) only [av_kO, nI_add, nI_ltI]
    by_cases hc : 1 < sPop 10 (sHeld B n (sTop cs) day h t)
    · rw [if_pos hc]
      rw [if_pos hc] at ih
      exact ih
    · rw [if_neg hc]
      rw [if_neg hc] at ih
      exact ih
  · intro acc t htt ih
    apply eq_X7_crowded_9 (d := d + 5)
    rw [sp_topM L _ hme, av_bi_s, if_neg (nI_nlt (Nat.le_refl _) (by omega)), av_kO, nI_add]
    exact ih
  · rintro v (rfl | ⟨x, rfl⟩)
    · apply eq_X7_crowded_4 (d := d + 5)
      rw [av_kO, if_neg (nI_nlt (Nat.le_refl _) (by decide))]
      rfl
    · apply eq_X7_crowded_4_b (d := d + 5)
      rw [av_kO, if_neg (nI_nlt (Nat.le_refl _) (by decide))]
      rfl
def sClash (B C : Nat → Nat) (top day : Nat) : Nat := sum2 (fun t h => if sHolds B top day h t && sHolds C top day h t then 1 else 0) top
theorem sp_clashOfM (L : av_W) (d : Nat) {N : av_N} {n day : Nat} {B : Nat → Nat → Nat} {cs : List (Nat × Nat × List Nat)} (hv : al_mv N n day B cs) {a b : Nat} (ha : a < n) (hb : b < n) : av_C (av_S0 L) (d + 5) 165 [.ref 142, .int (nI a), .int (nI b)] N = some (some (.int (nI (sClash (B a) (B b) (sTop cs) day))), N) := by
  have hn := hv.1
  obtain ⟨b0, hme⟩ := hv.2.2.2.1
  have ht := sTop_le cs
  apply eq_X7_clashOf (d := d + 4)
  rw [av_kO]
  refine lp_2d (P := fun acc t v => av_V (av_S0 L) (d + 5) ta_X7_clashOf 4 [.ref 142, .int (nI a), .int (nI b), .int (nI acc), .int (nI t), v] [] N = some (some (.int (nI (sClash (B a) (B b) (sTop cs) day))), N)) (Q := fun acc t h => av_V (av_S0 L) (d + 5) ta_X7_clashOf 9 [.ref 142, .int (nI a), .int (nI b), .int (nI acc), .int (nI t), .int (nI h)] [] N = some (some (.int (nI (sClash (B a) (B b) (sTop cs) day))), N)) (fun t h => if sHolds (B a) (sTop cs) day h t && sHolds (B b) (sTop cs) day h t then 1 else 0) (sTop cs) ?_ ?_ ?_ ?_
  · rintro acc t v (rfl | ⟨x, rfl⟩) ht ih
    · apply eq_X7_clashOf_4 (d := d + 4)
      rw [av_kO, if_pos (nI_lt ht (by decide)), av_kO]
      exact ih
    · apply eq_X7_clashOf_4_b (d := d + 4)
      rw [av_kO, if_pos (nI_lt ht (by decide)), av_kO]
      exact ih
  · intro acc t h htt hh ih
    apply eq_X7_clashOf_9 (d := d + 4)
    rw [sp_topM L _ hme, av_bi_s, if_pos (nI_lt hh (by omega)), sp_holdsStrip L _ hv ha (by omega) htt, av_bi_s, sp_holdsStrip L _ hv hb (by omega) htt, av_bi_s]
    simp (disch := omega) only [av_kO, nI_add, av_b_0]
    revert ih
    cases sHolds (B a) (sTop cs) day h t <;> cases sHolds (B b) (sTop cs) day h t <;> exact fun ih => ih
  · intro acc t htt ih
    apply eq_X7_clashOf_9 (d := d + 4)
    rw [sp_topM L _ hme, av_bi_s, if_neg (nI_nlt (Nat.le_refl _) (by omega)), av_kO, nI_add]
    exact ih
  · rintro v (rfl | ⟨x, rfl⟩)
    · apply eq_X7_clashOf_4 (d := d + 4)
      rw [av_kO, if_neg (nI_nlt (Nat.le_refl _) (by decide))]
      rfl
    · apply eq_X7_clashOf_4_b (d := d + 4)
      rw [av_kO, if_neg (nI_nlt (Nat.le_refl _) (by decide))]
      rfl
def sShared (B : Nat → Nat → Nat) (n top day b : Nat) : Nat := sum2 (fun t h => if sHolds (B b) top day h t && decide (1 < sPop 10 (sHeld B n top day h t)) then 1 else 0) top
theorem sp_sharedM (L : av_W) (d : Nat) {N : av_N} {n day : Nat} {B : Nat → Nat → Nat} {cs : List (Nat × Nat × List Nat)} (hv : al_mv N n day B cs) {a : Nat} (ha : a < n) : av_C (av_S0 L) (d + 6) 175 [.ref 142, .int (nI a)] N = some (some (.int (nI (sShared B n (sTop cs) day a))), N) := by
  have hn := hv.1
  obtain ⟨b0, hme⟩ := hv.2.2.2.1
  have ht := sTop_le cs
  apply eq_X7_shared (d := d + 5)
  rw [av_kO]
  refine lp_2d (P := fun acc t v => av_V (av_S0 L) (d + 6) ta_X7_shared 4 [.ref 142, .int (nI a), .int (nI acc), .int (nI t), v] [] N = some (some (.int (nI (sShared B n (sTop cs) day a))), N)) (Q := fun acc t h => av_V (av_S0 L) (d + 6) ta_X7_shared 9 [.ref 142, .int (nI a), .int (nI acc), .int (nI t), .int (nI h)] [] N = some (some (.int (nI (sShared B n (sTop cs) day a))), N)) (fun t h => if sHolds (B a) (sTop cs) day h t && decide (1 < sPop 10 (sHeld B n (sTop cs) day h t)) then 1 else 0) (sTop cs) ?_ ?_ ?_ ?_
  · rintro acc t v (rfl | ⟨x, rfl⟩) ht ih
    · apply eq_X7_shared_4 (d := d + 5)
      rw [av_kO, if_pos (nI_lt ht (by decide)), av_kO]
      exact ih
    · apply eq_X7_shared_4_b (d := d + 5)
      rw [av_kO, if_pos (nI_lt ht (by decide)), av_kO]
      exact ih
  · intro acc t h htt hh ih
    apply eq_X7_shared_9 (d := d + 5)
    have hp := sPop_le 10 (sHeld B n (sTop cs) day h t)
    rw [sp_topM L _ hme, av_bi_s, if_pos (nI_lt hh (by omega)), sp_holdsStrip L _ hv ha (by omega) htt, av_bi_s, sp_heldBy L _ hv (by omega) htt, av_bi_s, sp_ones L _ (sHeld_lt _ _ _ _ _ hn), av_bi_s]
    simp (disch := omega) only [av_kO, nI_add, av_b_0, nI_ltI]
    revert ih
    cases sHolds (B a) (sTop cs) day h t
    · exact fun ih => ih
    · by_cases hc : 1 < sPop 10 (sHeld B n (sTop cs) day h t)
      · rw [if_pos hc, decide_eq_true hc]
        exact fun ih => ih
      · rw [if_neg hc, decide_eq_false hc]
        exact fun ih => ih
  · intro acc t htt ih
    apply eq_X7_shared_9 (d := d + 5)
    rw [sp_topM L _ hme, av_bi_s, if_neg (nI_nlt (Nat.le_refl _) (by omega)), av_kO, nI_add]
    exact ih
  · rintro v (rfl | ⟨x, rfl⟩)
    · apply eq_X7_shared_4 (d := d + 5)
      rw [av_kO, if_neg (nI_nlt (Nat.le_refl _) (by decide))]
      rfl
    · apply eq_X7_shared_4_b (d := d + 5)
      rw [av_kO, if_neg (nI_nlt (Nat.le_refl _) (by decide))]
      rfl
