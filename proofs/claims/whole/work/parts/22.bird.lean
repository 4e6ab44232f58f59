/-! birds -/
def al_bp (p : Nat) : Prop := p = 108 ∨ ∃ b, b < 7 ∧ (p = 27 + 2 * b ∨ p = 58 + 2 * b ∨ p = 94 + 2 * b)
theorem al_bpE {p : Nat} (h : al_bp p) (L : av_W) : am_MS L p = (0, 10) ∧ am_MR p 0 = some (p + 1) ∧ am_MS L (p + 1) = (100, 4) ∧ 9 ≤ p := by
  rcases h with rfl | ⟨b, hb, h⟩
  · exact ⟨rfl, rfl, rfl, by decide⟩
  · rcases (by omega : b = 0 ∨ b = 1 ∨ b = 2 ∨ b = 3 ∨ b = 4 ∨ b = 5 ∨ b = 6) with rfl | rfl | rfl | rfl | rfl | rfl | rfl <;> rcases h with rfl | rfl | rfl <;> exact ⟨rfl, rfl, rfl, by decide⟩
/-- a bird's numbers: 1 .. 9 its fields, 10 .. 13 its row -/
def al_bd (N : av_N) (p : Nat) (B : Nat → Nat) : Prop := (∀ f, 1 ≤ f → f ≤ 9 → N.1 p f = nI (B f)) ∧ ∀ j, j < 4 → N.1 (p + 1) j = nI (B (10 + j))
def al_ok (B : Nat → Nat) : Prop := B 1 < 7 ∧ B 2 < 7 ∧ B 3 ≤ 9 ∧ B 4 ≤ 9 ∧ 1 ≤ B 5 ∧ B 5 ≤ 10 ∧ B 6 < 24 ∧ 1 ≤ B 7 ∧ B 7 ≤ 24 ∧ B 8 ≤ 9999 ∧ B 9 ≤ 1 ∧ ∀ j, j < 4 → B (10 + j) ≤ 9
def sBot (B : Nat → Nat) : Nat := if B 2 = 2 ∨ B 2 = 5 then B 4 + 2 else B 4
def sBeg (B : Nat → Nat) (day : Nat) : Nat := if B 2 = 6 then (B 6 + (day % 2 + B (10 + day % 4))) % 24 else if B 2 = 5 then (B 6 + day % 3) % 24 else if B 2 = 3 then (B 6 + day % 2) % 24 else B 6 % 24
theorem sp_fmod (L : av_W) (d : Nat) {a b : Nat} (ha : a < 2 ^ 31) (hb : b < 2 ^ 31) (h0 : 0 < b) (N : av_N) : av_C (av_S0 L) d 218 [.int (nI a), .int (nI b)] N = some (some (.int (nI (a % b))), N) := by
  apply eq_J9_floorMod_7cf53
  have hx : a ^^^ b < 2 ^ 31 := Nat.xor_lt_two_pow ha hb
  rw [av_nz_s h0 hb, av_kO, av_xor, if_neg (nI_nlt (Nat.zero_le _) hx), av_rem ha hb]
theorem sp_bottom (L : av_W) (d : Nat) {p : Nat} {N : av_N} {B : Nat → Nat} (hp : al_bp p) (hb : al_bd N p B) (ok : al_ok B) : av_C (av_S0 L) d 4 [.ref p] N = some (some (.int (nI (sBot B))), N) := by
  obtain ⟨s1, s2, s3, s4⟩ := al_bpE hp L
  obtain ⟨o1, o2, o3, o4, o5, o6, o7, o8, o9, o10, o11, o12⟩ := ok
  apply eq_X0_bottom
  rw [hb.1 2 (by decide) (by decide), hb.1 4 (by decide) (by decide), s1]
  simp (disch := omega) only [av_tg_s, av_kO, nI_eq, nI_add]
  unfold sBot
  by_cases h2 : B 2 = 2 <;> by_cases h5 : B 2 = 5 <;> simp [h2, h5]
theorem sp_begins (L : av_W) (d : Nat) {p : Nat} {N : av_N} {B : Nat → Nat} (hp : al_bp p) (hb : al_bd N p B) (ok : al_ok B) {day : Nat} (hd : day < 2 ^ 20) : av_C (av_S0 L) (d + 1) 5 [.ref p, .int (nI day)] N = some (some (.int (nI (sBeg B day))), N) := by
  obtain ⟨s1, s2, s3, s4⟩ := al_bpE hp L
  obtain ⟨o1, o2, o3, o4, o5, o6, o7, o8, o9, o10, o11, o12⟩ := ok
  have key : ∀ x, x < 2 → (B 2 = 6 → x = day % 2) → (B 2 = 3 → x = day % 2) → (B 2 ≠ 6 → B 2 ≠ 3 → x = 0) → av_V (av_S0 L) (d + 1) ta_X0_begins 14 [.ref p, .int (nI day), .int (nI x)] [] N = some (some (.int (nI (sBeg B day))), N) := by
    intro x hx h6 h3 h0
    apply eq_X0_begins_14
    have hr := hb.2 (day % 4) (Nat.mod_lt _ (by decide))
    have hr9 := o12 (day % 4) (Nat.mod_lt _ (by decide))
    have m3 : day % 3 < 3 := Nat.mod_lt _ (by decide)
    have m4 : day % 4 < 4 := Nat.mod_lt _ (by decide)
    rw [s1, s2, hb.1 2 (by decide) (by decide), hb.1 6 (by decide) (by decide)]
    simp (disch := omega) only [av_tg_s, av_kO, nI_eq, nI_add, av_bd_s, sp_fmod, av_bi_s, s1, s3, av_gx_s, nI_clamp, hr, hb.1 2, hb.1 6]
    unfold sBeg
    by_cases h9 : B 2 = 6
    · rw [if_pos h9, if_pos h9, if_neg (by omega), h6 h9]
    · rw [if_neg h9, if_neg h9]
      by_cases h8 : B 2 = 5
      · rw [if_pos h8, if_pos h8]
      · rw [if_neg h8, if_neg h8]
        by_cases h7 : B 2 = 3
        · rw [if_pos h7, h3 h7]
        · rw [if_neg h7, h0 h9 h7, Nat.add_zero]
  have m2 : day % 2 < 2 := Nat.mod_lt _ (by decide)
  apply eq_X0_begins
  rw [s1, hb.1 2 (by decide) (by decide)]
  simp (disch := omega) only [av_tg_s, av_kO, nI_eq, sp_fmod, av_bi_s]
  by_cases h7 : B 2 = 3
  · rw [if_pos h7]
    exact key _ m2 (fun _ => rfl) (fun _ => rfl) (fun _ z => absurd h7 z)
  · rw [if_neg h7]
    by_cases h9 : B 2 = 6
    · rw [if_pos h9]
      exact key _ m2 (fun _ => rfl) (fun _ => rfl) (fun z _ => absurd h9 z)
    · rw [if_neg h9]
      exact key 0 (by decide) (fun z => absurd z h9) (fun z => absurd z h7) (fun _ _ => rfl)
