/-! the reference's birds, and what both ask first -/
def av_lt (x : Int32) (n : Nat) : Bool := decide (¬ x < nI 0) && decide (x < nI n)
theorem av_ltE {x : Int32} {n : Nat} (hn : n < 2 ^ 31) : av_lt x n = true ↔ ∃ j, j < n ∧ x = nI j := by
  unfold av_lt
  rw [Bool.and_eq_true, decide_eq_true_eq, decide_eq_true_eq]
  constructor
  · rintro ⟨h1, h2⟩
    rw [nI_0] at h1
    obtain ⟨j, hj, rfl⟩ := nI_of h1
    exact ⟨j, (nI_ltI hj hn).mp h2, rfl⟩
  · rintro ⟨j, h1, rfl⟩
    exact ⟨nI_nlt (Nat.zero_le _) (by omega), nI_lt h1 hn⟩
theorem av_lt_wi {x : Int32} {n : Nat} (hn : n < 2 ^ 31) : av_wi x (nI 0) (nI n - nI 1) = av_lt x n := by
  unfold av_wi av_lt
  have e : (¬ nI n - nI 1 < x) ↔ x < nI n := by
    have e0 : (nI n - nI 1).toInt = (n : Int) - 1 := by
      cases n with
      | zero => decide
      | succ m =>
        rw [av_sub (by omega), nI_toInt (by omega)]
        omega
    rw [Int32.lt_iff_toInt_lt, Int32.lt_iff_toInt_lt, e0, nI_toInt hn]
    omega
  rw [decide_eq_decide.mpr e]
theorem av_bt_lt {α : Type} (b : Bool) (A : Option α) : av_bt (av_b b) A = A := av_bt_b b A
theorem sp_has (L : av_W) (d : Nat) {m b : Nat} (hm : m < 2 ^ 31) (hb : b < 32) (N : av_N) : av_C (av_S0 L) d 113 [.ref 142, .int (nI m), .int (nI b)] N = some (some (.int (av_b (m.testBit b))), N) := by
  apply eq_X7_has
  rw [av_kO, av_kO, av_shr hm hb, av_and, Nat.and_one_is_mod]
  have hd : m / 2 ^ b % 2 < 2 := Nat.mod_lt _ (by decide)
  by_cases h : m / 2 ^ b % 2 = 1
  · rw [h, if_pos rfl, Nat.testBit_eq_decide_div_mod_eq, decide_eq_true h]
    rfl
  · rw [show m / 2 ^ b % 2 = 0 by omega, if_neg (by decide), Nat.testBit_eq_decide_div_mod_eq, decide_eq_false h]
    rfl
theorem sp_isBird (L : av_W) (d : Nat) (x : Int32) {n : Nat} {N : av_N} (h : N.1 142 0 = nI n) (hn : n < 2 ^ 31) : av_C (av_S0 L) (d + 1) 115 [.ref 142, .int x] N = some (some (.int (av_b (av_lt x n))), N) := by
  apply eq_X7_isBird
  rw [h, av_kO, av_kO, sp_in, av_bi_s, av_bt_b, av_lt_wi hn]
theorem sp_isLow (L : av_W) (d : Nat) (x : Int32) (N : av_N) : av_C (av_S0 L) (d + 1) 116 [.ref 142, .int x] N = some (some (.int (av_b (av_wi x (nI 0) (nI 9)))), N) := by
  apply eq_X7_isLow
  rw [av_kO, av_kO, sp_in, av_bi_s, av_bt_b]
theorem sp_isHour (L : av_W) (d : Nat) (x : Int32) (N : av_N) : av_C (av_S0 L) (d + 1) 117 [.ref 142, .int x] N = some (some (.int (av_b (av_wi x (nI 0) (nI 23)))), N) := by
  apply eq_X7_isHour
  rw [av_kO, av_kO, sp_in, av_bi_s, av_bt_b]
theorem sp_isPurse (L : av_W) (d : Nat) (x : Int32) (N : av_N) : av_C (av_S0 L) (d + 1) 118 [.ref 142, .int x] N = some (some (.int (av_b (av_wi x (nI 0) (nI 9999)))), N) := by
  apply eq_X7_isPurse
  rw [av_kO, av_kO, sp_in, av_bi_s, av_bt_b]
theorem sp_isDays (L : av_W) (d : Nat) (x : Int32) (N : av_N) : av_C (av_S0 L) (d + 1) 119 [.ref 142, .int x] N = some (some (.int (av_b (av_wi x (nI 0) (nI 60)))), N) := by
  apply eq_X7_isDays
  rw [av_kO, av_kO, sp_in, av_bi_s, av_bt_b]
theorem al_R11 : ∀ j, j < 7 → am_MR 11 j = some (27 + 2 * j) := by decide
theorem sp_birdAt (L : av_W) (d : Nat) {j n : Nat} {N : av_N} (h : N.1 10 1 = nI n) (hn : n ≤ 7) (hj : j < n) : av_C (av_S0 L) d 39 [.ref 10, .int (nI j)] N = some (some (.ref (27 + 2 * j)), N) := by
  apply eq_X4_birdAt_10
  have hj' : j < 2 ^ 31 := by omega
  rw [h, av_kO, if_neg (nI_nlt (Nat.zero_le _) hj'), if_pos (nI_lt hj (by omega)), show Int32.ofNat 7 = nI 7 from rfl, if_pos (nI_lt (by omega) (by decide)), av_gx_s (by omega) hj', nI_clamp hj', al_R11 j (by omega)]
  rfl
theorem sp_birdAt_no (L : av_W) (d : Nat) {x : Int32} {n : Nat} {N : av_N} (h : N.1 10 1 = nI n) (hx : av_lt x n = false) : av_C (av_S0 L) d 39 [.ref 10, .int x] N = some (some .null, N) := by
  apply eq_X4_birdAt_10
  rw [h, av_kO]
  unfold av_lt at hx
  by_cases h1 : x < nI 0
  · rw [if_pos h1]
  · rw [if_neg h1]
    rw [(decide_eq_true h1 : decide (¬ x < nI 0) = true), Bool.true_and] at hx
    rw [if_neg (of_decide_eq_false hx)]
/-- the reference's birds -/
def al_md (N : av_N) (n day : Nat) (B : Nat → Nat → Nat) : Prop := N.1 142 0 = nI n ∧ N.1 142 1 = nI day ∧ ∀ b, b < n → N.1 143 b = nI (B b 2) ∧ N.1 144 b = nI (B b 3) ∧ N.1 145 b = nI (B b 4) ∧ N.1 146 b = nI (B b 5) ∧ N.1 147 b = nI (B b 6) ∧ N.1 148 b = nI (B b 7) ∧ N.1 149 b = nI (B b 8) ∧ ∀ j, j < 4 → N.1 150 (4 * b + j) = nI (B b (10 + j))
theorem sp_bottomM (L : av_W) (d : Nat) {N : av_N} {n day : Nat} {B : Nat → Nat → Nat} (hn : n ≤ 7) (hm : al_md N n day B) {b : Nat} (hb : b < n) (ok : al_ok (B b)) : av_C (av_S0 L) d 149 [.ref 142, .int (nI b)] N = some (some (.int (nI (sBot (B b)))), N) := by
  obtain ⟨o1, o2, o3, o4, -⟩ := ok
  obtain ⟨m1, m2, m3, m4, -⟩ := hm.2.2 b hb
  apply eq_X7_bottom
  simp (disch := omega) only [av_gx_s, nI_clamp, m1, m3, av_kO, nI_eq, nI_add]
  unfold sBot
  by_cases h2 : B b 2 = 2 <;> by_cases h5 : B b 2 = 5 <;> simp [h2, h5]
theorem sp_beginsM (L : av_W) (d : Nat) {N : av_N} {n day : Nat} {B : Nat → Nat → Nat} (hn : n ≤ 7) (hm : al_md N n day B) {b : Nat} (hb : b < n) (ok : al_ok (B b)) (hd : day < 2 ^ 20) : av_C (av_S0 L) d 150 [.ref 142, .int (nI b)] N = some (some (.int (nI (sBeg (B b) day))), N) := by
  obtain ⟨o1, o2, o3, o4, o5, o6, o7, o8, o9, o10, o11, o12⟩ := ok
  have hm1 := hm.2.1
  obtain ⟨m1, m2, m3, m4, m5, m6, m7, m8⟩ := hm.2.2 b hb
  have hr := m8 (day % 4) (Nat.mod_lt _ (by decide))
  have hr9 := o12 (day % 4) (Nat.mod_lt _ (by decide))
  have a2 : day % 2 < 2 := Nat.mod_lt _ (by decide)
  have a3 : day % 3 < 3 := Nat.mod_lt _ (by decide)
  have a4 : day % 4 < 4 := Nat.mod_lt _ (by decide)
  apply eq_X7_begins
  simp (disch := omega) only [av_gx_s, av_nz_s, nI_clamp, m1, m5, hm1, av_kO, nI_eq, av_rem, nI_add, av_mul, hr]
  unfold sBeg
  by_cases h3 : B b 2 = 3
  · rw [if_pos h3, if_neg (by omega), if_neg (by omega), if_pos h3]
  · rw [if_neg h3]
    by_cases h4 : B b 2 = 4
    · rw [if_pos h4, if_neg (by omega), if_neg (by omega), if_neg (by omega), Nat.mod_eq_of_lt o7]
    · rw [if_neg h4]
      by_cases h5 : B b 2 = 5
      · rw [if_pos h5, if_neg (by omega), if_pos h5]
      · rw [if_neg h5]
        by_cases h6 : B b 2 = 6
        · rw [if_pos h6, if_pos h6, Nat.add_assoc]
        · rw [if_neg h6, if_neg h6, if_neg h5, if_neg h3, Nat.mod_eq_of_lt o7]
