/-! a day of a bird -/
theorem av_kz {z : Int} (h1 : -2147483648 ≤ z) (h2 : z ≤ 2147483647) (h : 0 ≤ z) : av_k z = nI z.toNat := by
  apply Int32.toInt_inj.mp
  rw [av_kI h1 h2, nI_toInt (by omega)]
  omega
/-- purse and out after a day -/
def sPurse (z : Int) : Nat := if z < 0 then 0 else if 9999 < z then 9999 else z.toNat
theorem av_clamp {z : Int} (h1 : -2147483648 ≤ z) (h2 : z ≤ 2147483647) : (let y := if av_k z < nI 9999 then av_k z else nI 9999; if nI 0 < y then y else nI 0) = nI (sPurse z) := by
  have e := av_kI h1 h2
  have e9 : (nI 9999).toInt = 9999 := by decide
  have e0 : (nI 0).toInt = 0 := by decide
  unfold sPurse
  dsimp only
  by_cases hz : z < 0
  · rw [if_pos (show av_k z < nI 9999 by rw [Int32.lt_iff_toInt_lt, e, e9]; omega), if_neg (show ¬ nI 0 < av_k z by rw [Int32.lt_iff_toInt_lt, e, e0]; omega), if_pos hz]
  · by_cases h9 : 9999 < z
    · rw [if_neg (show ¬ av_k z < nI 9999 by rw [Int32.lt_iff_toInt_lt, e, e9]; omega), if_pos (show nI 0 < nI 9999 by decide), if_neg hz, if_pos h9]
    · by_cases h8 : z = 9999
      · subst h8
        decide
      · rw [if_pos (show av_k z < nI 9999 by rw [Int32.lt_iff_toInt_lt, e, e9]; omega), if_neg hz, if_neg h9]
        by_cases h0 : 0 < z
        · rw [if_pos (show nI 0 < av_k z by rw [Int32.lt_iff_toInt_lt, e, e0]; exact h0), av_kz h1 h2 (by omega)]
        · rw [if_neg (show ¬ nI 0 < av_k z by rw [Int32.lt_iff_toInt_lt, e, e0]; exact h0), show z = 0 by omega]
          rfl
def sLeft (B : Nat → Nat) (cs : List (Nat × Nat × List Nat)) (g top day : Nat) : Int := (B 8 : Int) + (g : Int) - (sRent B cs top day : Int)
theorem sp_liveADay (L : av_W) (d : Nat) {p pb : Nat} {N : av_N} {B : Nat → Nat} {day : Nat} {g t : Nat} {cs : List (Nat × Nat × List Nat)} (he : al_ep p) (hs : al_es N p (sFl cs) g t) (hp : al_bp pb) (hb : al_bd N pb B) (ok : al_ok B) (hd : day < 2 ^ 20) (hc : ∀ c ∈ cs, sCl c) (hl : cs.length ≤ 10) : av_C (av_S0 L) (d + 4) 12 [.ref pb, .ref p, .int (nI day)] N = some (none, if B 9 = 0 then av_w (av_w N pb 9 (if sLeft B cs g t day < 0 then nI 1 else nI 0)) pb 8 (nI (sPurse (sLeft B cs g t day))) else N) := by
  obtain ⟨s1, s2, s3, s4⟩ := al_bpE hp L
  obtain ⟨q1, q2, q3, q4⟩ := al_epE he L
  have hr := sRent_le ok hc hl t day
  have h8 : B 8 ≤ 9999 := ok.2.2.2.2.2.2.2.2.2.1
  have h9' : B 9 ≤ 1 := ok.2.2.2.2.2.2.2.2.2.2.1
  have hg : g ≤ 99 := hs.2.2.2.2.1
  have z1 : -2147483648 ≤ sLeft B cs g t day := by unfold sLeft; omega
  have z2 : sLeft B cs g t day ≤ 2147483647 := by unfold sLeft; omega
  have el : nI (B 8) + nI g - nI (sRent B cs t day) = av_k (sLeft B cs g t day) := by
    rw [nI_add, ← av_kN, av_ksub]
    congr 1
  have hcl := av_clamp z1 z2
  dsimp only at hcl
  apply eq_X0_liveADay (d := d + 3)
  rw [s1, q1, hb.1 9 (by decide) (by decide), hb.1 8 (by decide) (by decide), hs.2.2.1]
  simp only [↓av_tg_s]
  by_cases h9 : B 9 = 0
  · rw [h9, if_pos (show nI 0 = av_k 0 from rfl), if_pos rfl, sp_rent L d he hs hp hb ok hd hc hl]
    simp only [↓av_bi_s]
    rw [el]
    by_cases hz : sLeft B cs g t day < 0
    · rw [if_pos (show av_k (sLeft B cs g t day) < av_k 0 by rw [Int32.lt_iff_toInt_lt, av_kI z1 z2]; exact hz), if_pos hz]
      simp only [av_kO, ↓av_bt_1, sp_min, sp_max, ↓av_bi_s]
      rw [hcl]
    · rw [if_neg (show ¬ av_k (sLeft B cs g t day) < av_k 0 by rw [Int32.lt_iff_toInt_lt, av_kI z1 z2]; exact hz), if_neg hz]
      simp only [av_kO, ↓av_bt_0, sp_min, sp_max, ↓av_bi_s]
      rw [hcl]
  · rw [if_neg (show ¬ nI (B 9) = av_k 0 by rw [av_kO, nI_eq (by omega) (by decide)]; exact h9), if_neg h9]
