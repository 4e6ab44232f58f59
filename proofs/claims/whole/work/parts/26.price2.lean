/-! the class's price -/
def al_ep (p : Nat) : Prop := ∃ e, e < 7 ∧ p = 116 + 2 * e
theorem al_epE {p : Nat} (h : al_ep p) (L : av_W) : am_MS L p = (1, 4) ∧ am_MR p 0 = some (p + 1) ∧ am_MS L (p + 1) = (100, 100) ∧ 9 ≤ p := by
  obtain ⟨b, hb, rfl⟩ := h
  rcases (by omega : b = 0 ∨ b = 1 ∨ b = 2 ∨ b = 3 ∨ b = 4 ∨ b = 5 ∨ b = 6) with rfl | rfl | rfl | rfl | rfl | rfl | rfl <;> exact ⟨rfl, rfl, rfl, by decide⟩
/-- an estuary's steps, gain and top -/
def al_es (N : av_N) (p : Nat) (F : List Nat) (g t : Nat) : Prop := F.length ≤ 100 ∧ N.1 p 1 = nI F.length ∧ N.1 p 2 = nI g ∧ N.1 p 3 = nI t ∧ g ≤ 99 ∧ 1 ≤ t ∧ t ≤ 10 ∧ ∀ i, i < F.length → N.1 (p + 1) i = nI (F.getD i 0)
def sTr (B : Nat → Nat) (day f : Nat) : Nat := if f = 0 then B 1 else if f = 1 then B 2 else if f = 2 then B 3 else if f = 3 then B 4 else if f = 4 then B 6 else day % 10
theorem lN_of (n : Nat) : Int64.ofNat n = lN n := rfl
theorem sp_trait (L : av_W) (d : Nat) {p : Nat} {N : av_N} {B : Nat → Nat} (hp : al_bp p) (hb : al_bd N p B) {day f : Nat} (hd : day < 2 ^ 20) (hf : f ≤ 5) : av_C (av_S0 L) d 19 [.int (nI (sLet f)), .ref p, .int (nI day)] N = some (some (.int (nI (sTr B day f))), N) := by
  obtain ⟨s1, s2, s3, s4⟩ := al_bpE hp L
  have b1 := hb.1 1 (by decide) (by decide)
  have b2 := hb.1 2 (by decide) (by decide)
  have b3 := hb.1 3 (by decide) (by decide)
  have b4 := hb.1 4 (by decide) (by decide)
  have b6 := hb.1 6 (by decide) (by decide)
  apply eq_X1_trait
  rcases (by omega : f = 0 ∨ f = 1 ∨ f = 2 ∨ f = 3 ∨ f = 4 ∨ f = 5) with rfl | rfl | rfl | rfl | rfl | rfl <;> simp (disch := omega) only [sLet, av_kO, nI_eq, s1, av_tg_s, b1, b2, b3, b4, b6, av_nz_s, av_rem, sTr] <;> rfl
theorem sp_passes (L : av_W) (d : Nat) {p : Nat} {N : av_N} {B : Nat → Nat} (hp : al_bp p) (hb : al_bd N p B) (ok : al_ok B) {day u : Nat} (hd : day < 2 ^ 20) (hu : u / 1000 ≤ 5) (hs : u / 100 % 10 ≤ 2) : av_C (av_S0 L) (d + 1) 18 [.int (nI ((sLet (u / 1000) * 128 + (60 + u / 100 % 10)) * 128 + u % 100)), .ref p, .int (nI day)] N = some (some (.int (av_b (sTest (sTr B day) u))), N) := by
  have hl : sLet (u / 1000) < 128 := by
    rcases (by omega : u / 1000 = 0 ∨ u / 1000 = 1 ∨ u / 1000 = 2 ∨ u / 1000 = 3 ∨ u / 1000 = 4 ∨ u / 1000 = 5) with h | h | h | h | h | h <;> rw [h] <;> decide
  have htr : sTr B day (u / 1000) < 2 ^ 31 := by
    obtain ⟨o1, o2, o3, o4, o5, o6, o7, o8, o9, o10, o11, o12⟩ := ok
    unfold sTr
    repeat' split
    all_goals omega
  have hn : u % 100 < 100 := Nat.mod_lt _ (by decide)
  generalize hM : (sLet (u / 1000) * 128 + (60 + u / 100 % 10)) * 128 + u % 100 = M
  have hM1 : M < 2 ^ 31 := by omega
  have e1 : M / 2 ^ 14 = sLet (u / 1000) := by omega
  have e2 : M / 2 ^ 7 % 2 ^ 7 = 60 + u / 100 % 10 := by omega
  have e3 : M % 2 ^ 7 = u % 100 := by omega
  apply eq_X1_passes
  simp only [av_kO]
  rw [show nI 127 = nI (2 ^ 7 - 1) from rfl, av_mask, av_shr hM1 (by decide), av_shr hM1 (by decide), av_mask, e1, e2, e3, sp_trait L d hp hb hd hu, av_bi_s]
  simp (disch := omega) only [nI_eq, nI_ltI, av_bt_0, av_bt_1]
  unfold sTest
  rcases (by omega : u / 100 % 10 = 0 ∨ u / 100 % 10 = 1 ∨ u / 100 % 10 = 2) with h | h | h
  · by_cases h9 : sTr B day (u / 1000) < u % 100 <;> simp [h, h9, av_b]
  · by_cases h9 : sTr B day (u / 1000) = u % 100 <;> simp [h, h9, av_b]
  · by_cases h9 : u % 100 < sTr B day (u / 1000) <;> simp [h, h9, av_b]
theorem av_al_s {α : Type} (A : Option α) : av_al (100, 100) A = A := rfl
theorem av_and7 (a : Nat) : nI a &&& nI 7 = nI (a % 8) := av_mask a 3
noncomputable def al_V (L : av_W) (d p pb : Nat) (day : Int32) (P : Int32) (m : Int64) (i : Nat) (v7 : Value) (N : av_N) : Option av_Q := av_V (av_S0 L) (d + 1) ta_X1_price 6 [.ref p, .ref pb, .int day, .int P, .long m, am_junk, .int (nI i), v7] [] N
theorem pr_step {L : av_W} {d p pb : Nat} {day P : Int32} {m : Nat} {i : Nat} {v7 : Value} {N : av_N} {q : av_Q} {F : List Nat} {g t : Nat} (he : al_ep p) (hs : al_es N p F g t) (hi : i < F.length) (hv : v7 = am_junk ∨ ∃ x, v7 = .int x) {k o : Nat} (hk : F.getD i 0 = k + 8 * o) (hk8 : k < 8) (ho : o < 2 ^ 25)
    (h : (if k = 0 then al_V L d p pb day P (lN m ^^^ lN 1) (i + 1) (.int (nI o)) N else if k = 1 then al_V L d p pb day P ((lN m >>> (lN 1 &&& 63)) &&& (lN m ||| lN 18446744073709551614)) (i + 1) (.int (nI o)) N else if k = 2 then al_V L d p pb day P ((lN m >>> (lN 1 &&& 63)) ||| (lN m &&& lN 1)) (i + 1) (.int (nI o)) N
      else if k = 3 then (av_bi (av_C (av_S0 L) d 18 [.int (nI o), .ref pb, .int day] N) fun z N => if z = nI 0 then al_V L d p pb day P ((lN m <<< (lN 1 &&& 63)) ||| lN 0) (i + 1) (.int (nI o)) N else al_V L d p pb day P ((lN m <<< (lN 1 &&& 63)) ||| lN 1) (i + 1) (.int (nI o)) N)
      else if k = 4 then (if lg_cmp (lN m &&& lN 1) (lN 0) = nI 0 then al_V L d p pb day (P + nI 0) (lN 0) (i + 1) (.int (nI o)) N else al_V L d p pb day (P + nI o) (lN 0) (i + 1) (.int (nI o)) N)
      else (if lg_cmp (lN m &&& lN 1) (lN 0) = nI 0 then al_V L d p pb day (P - nI 0) (lN 0) (i + 1) (.int (nI o)) N else al_V L d p pb day (P - nI o) (lN 0) (i + 1) (.int (nI o)) N)) = some q) : al_V L d p pb day P (lN m) i v7 N = some q := by
  obtain ⟨s1, s2, s3, s4⟩ := al_epE he L
  obtain ⟨c1, c2, -, -, -, -, -, c3⟩ := hs
  have c4 := c3 i hi
  rw [hk] at c4
  have e7 : (k + 8 * o) % 8 = k := by omega
  have e8 : (k + 8 * o) / 8 = o := by omega
  unfold al_V at h ⊢
  rcases hv with rfl | ⟨x, rfl⟩
  · apply eq_X1_price_6_a
    rw [s1, s2, c2]
    simp only [↓av_tg_s, ↓av_bd_s]
    rw [s3]
    simp only [↓av_al_s, ↓av_tg_s]
    rw [if_pos (nI_lt hi (by omega)), if_pos (show nI i < Int32.ofNat 100 from nI_lt (show i < 100 by omega) (by decide))]
    simp only [↓av_gx_s (show i < 100 by omega) (show i < 2 ^ 31 by omega), nI_clamp (show i < 2 ^ 31 by omega)]
    rw [c4]
    simp (disch := omega) only [av_kO, av_and7, av_shr, e7, e8, nI_eq, nI_add, lN_of, nI_l]
    exact h
  · apply eq_X1_price_6_b
    rw [s1, s2, c2]
    simp only [↓av_tg_s, ↓av_bd_s]
    rw [s3]
    simp only [↓av_al_s, ↓av_tg_s]
    rw [if_pos (nI_lt hi (by omega)), if_pos (show nI i < Int32.ofNat 100 from nI_lt (show i < 100 by omega) (by decide))]
    simp only [↓av_gx_s (show i < 100 by omega) (show i < 2 ^ 31 by omega), nI_clamp (show i < 2 ^ 31 by omega)]
    rw [c4]
    simp (disch := omega) only [av_kO, av_and7, av_shr, e7, e8, nI_eq, nI_add, lN_of, nI_l]
    exact h
