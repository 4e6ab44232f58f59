/-! strips, rents, a day of a bird -/
theorem sPop_le : ∀ n m, sPop n m ≤ n
  | 0, _ => Nat.le_refl _
  | n + 1, m => by
    have := sPop_le n m
    unfold sPop
    split <;> omega
theorem sSum_le (tr : Nat → Nat) : ∀ (cs : List (Nat × Nat × List Nat)) (z : Int), (∀ c ∈ cs, sCl c) → sSum tr cs z ≤ z + 99 * (cs.length : Int)
  | [], z, _ => by
    show z ≤ _
    simp
  | c :: cs, z, h => by
    have w := (h c List.mem_cons_self).2.1
    have ih := fun z => sSum_le tr cs z (fun y hy => h y (List.mem_cons_of_mem _ hy))
    show sSum tr cs _ ≤ _
    rw [List.length_cons]
    refine Int.le_trans (ih _) ?_
    split
    · split <;> omega
    · split
      · split <;> omega
      · omega
theorem sPrice_le {tr : Nat → Nat} {cs : List (Nat × Nat × List Nat)} (h : ∀ c ∈ cs, sCl c) (hl : cs.length ≤ 10) : sPrice tr cs ≤ 991 := by
  have := sSum_le tr cs 1 h
  unfold sPrice
  omega
def sStrips (B : Nat → Nat) (top : Nat) : Nat := sPop 10 (sHm B top) * B 7
theorem sStrips_le {B : Nat → Nat} (ok : al_ok B) (top : Nat) : sStrips B top ≤ 240 := by
  have h1 := sPop_le 10 (sHm B top)
  have h2 : B 7 ≤ 24 := ok.2.2.2.2.2.2.2.2.1
  unfold sStrips
  exact Nat.le_trans (Nat.mul_le_mul h1 h2) (by decide)
theorem sp_strips (L : av_W) (d : Nat) {p : Nat} {N : av_N} {B : Nat → Nat} (hp : al_bp p) (hb : al_bd N p B) (ok : al_ok B) {top : Nat} (ht : top ≤ 10) : av_C (av_S0 L) (d + 2) 9 [.ref p, .int (nI top)] N = some (some (.int (nI (sStrips B top))), N) := by
  obtain ⟨s1, s2, s3, s4⟩ := al_bpE hp L
  apply eq_X0_strips (d := d + 1)
  have hm : sHm B top < 1024 := Nat.lt_of_lt_of_le (sHm_lt B top) (Nat.pow_le_pow_right (by decide) ht : 2 ^ top ≤ 2 ^ 10)
  rw [s1, av_tg_s, sp_heights L d hp hb ok (by omega), av_bi_s, sp_bc, av_bi_s, av_tg_s, hb.1 7 (by decide) (by decide), bc_10 _ hm, av_mul]
  rfl
def sRent (B : Nat → Nat) (cs : List (Nat × Nat × List Nat)) (top day : Nat) : Nat := if B 2 = 1 ∨ B 2 = 4 then sStrips B top * sPrice (sTr B day) cs / 2 else sStrips B top * sPrice (sTr B day) cs
theorem sRent_le {B : Nat → Nat} {cs : List (Nat × Nat × List Nat)} (ok : al_ok B) (h : ∀ c ∈ cs, sCl c) (hl : cs.length ≤ 10) (top day : Nat) : sRent B cs top day ≤ 237840 := by
  have h1 := Nat.mul_le_mul (sStrips_le ok top) (sPrice_le (tr := sTr B day) h hl)
  unfold sRent
  split
  · exact Nat.le_trans (Nat.div_le_self _ _) (Nat.le_trans h1 (by decide))
  · exact Nat.le_trans h1 (by decide)
theorem sp_rent (L : av_W) (d : Nat) {p pb : Nat} {N : av_N} {B : Nat → Nat} {day : Nat} {g t : Nat} {cs : List (Nat × Nat × List Nat)} (he : al_ep p) (hs : al_es N p (sFl cs) g t) (hp : al_bp pb) (hb : al_bd N pb B) (ok : al_ok B) (hd : day < 2 ^ 20) (hc : ∀ c ∈ cs, sCl c) (hl : cs.length ≤ 10) : av_C (av_S0 L) (d + 3) 10 [.ref pb, .ref p, .int (nI day)] N = some (some (.int (nI (sRent B cs t day))), N) := by
  obtain ⟨s1, s2, s3, s4⟩ := al_bpE hp L
  obtain ⟨q1, q2, q3, q4⟩ := al_epE he L
  have h1 := sStrips_le ok t
  have h2 := Nat.mul_le_mul (sStrips_le ok t) (sPrice_le (tr := sTr B day) hc hl)
  have ok2 : B 2 < 7 := ok.2.1
  apply eq_X0_rent (d := d + 2)
  rw [s1, q1, hs.2.2.2.1]
  simp only [↓av_tg_s]
  rw [sp_strips L d hp hb ok hs.2.2.2.2.2.2.1]
  simp only [↓av_bi_s]
  rw [sp_price L d he hs hp hb ok hd hc hl]
  simp only [↓av_bi_s]
  rw [hb.1 2 (by decide) (by decide)]
  simp (disch := omega) only [av_kO, nI_eq, av_nz_s, av_mul, av_div]
  unfold sRent
  by_cases h0 : sStrips B t = 0
  · rw [if_pos h0, h0, Nat.zero_mul]
    by_cases k1 : B 2 = 1 <;> by_cases k4 : B 2 = 4 <;> simp [k1, k4]
  · rw [if_neg h0]
    by_cases k1 : B 2 = 1 <;> by_cases k4 : B 2 = 4 <;> simp [k1, k4]
