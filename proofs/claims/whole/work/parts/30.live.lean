/-! a day of a bird -/
theorem av_kz {z : Int} (h1 : -2147483648 ≤ z) (h2 : z ≤ 2147483647) (h : 0 ≤ z) : av_k z = nI z.toNat := by
  apply Int32.toInt_inj.mp
  rw [av_kI h1 h2, nI_toInt (by omega)]
  omega
/-- purse and out after a day -/
def sPurse (z : Int) : Nat := if z < 0 then 0 else if 9999 < z then 9999 else z.toNat
theorem av_clamp {z : Int} (h1 : -2147483648 ≤ z) (h2 : z ≤ 2147483647) : (let y := if av_k z < nI 9999 then av_k z else nI 9999; if nI 0 < y then y else nI 0) = nI (sPurse z) := by
  have e := av_kI h1 h2
  have e9 : (nI 9999).toInt = 9999 := by decide
  have e0 : (nI 0).toInt = 0 := by decide
  unfold sPurse
  dsimp only
  by_cases hz : z < 0
  · rw [if_pos (show av_k z < nI 9999 by rw [Int32.lt_iff_toInt_lt, e, e9]; omega), if_neg (show ¬ nI 0 < av_k z by rw [Int32.lt_iff_toInt_lt, e, e0]; omega), if_pos hz]
  · by_cases h9 : 9999 < z
    · rw [if_neg (show ¬ av_k z < nI 9999 by rw [Int32.lt_iff_toInt_lt, e, e9]; omega), if_pos (show nI 0 < nI 9999 by decide), if_neg hz, if_pos h9]
    · by_cases h8 : z = 9999
      · subst h8
        decide
      · rw [if_pos (show av_k z < nI 9999 by rw [Int32.lt_iff_toInt_lt, e, e9]; omega), if_neg hz, if_neg h9]
        by_cases h0 : 0 < z
        · rw [if_pos (show nI 0 < av_k z by rw [Int32.lt_iff_toInt_lt, e, e0]; exact h0), av_kz h1 h2 (by omega)]
        · rw [if_neg (show ¬ nI 0 < av_k z by rw [Int32.lt_iff_toInt_lt, e, e0]; exact h0), show z = 0 by omega]
          rfl
