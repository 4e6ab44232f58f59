theorem gd_l {l l' : List Nat} {n : Nat} (h : n < l.length) : (l ++ l').getD n 0 = l.getD n 0 := by
  rw [List.getD_eq_getElem?_getD, List.getD_eq_getElem?_getD, List.getElem?_append_left h]
theorem gd_r {l l' : List Nat} (n : Nat) : (l ++ l').getD (l.length + n) 0 = l'.getD n 0 := by
  rw [List.getD_eq_getElem?_getD, List.getD_eq_getElem?_getD, List.getElem?_append_right (by omega), Nat.add_sub_cancel_left]
theorem gd_map (f : Nat → Nat) {l : List Nat} {n : Nat} (h : n < l.length) : (l.map f).getD n 0 = f (l.getD n 0) := by
  rw [List.getD_eq_getElem?_getD, List.getD_eq_getElem?_getD, List.getElem?_map, List.getElem?_eq_getElem h]
  rfl
theorem sp_max (L : av_W) (d : Nat) (x y : Int32) (N : av_N) : av_C (av_S0 L) d 219 [.int x, .int y] N = some (some (.int (if x < y then y else x)), N) := by
  apply eq_J9_max_7cf53
  by_cases h : x < y
  · rw [if_pos h, if_pos h]
  · rw [if_neg h, if_neg h]
theorem sp_min (L : av_W) (d : Nat) (x y : Int32) (N : av_N) : av_C (av_S0 L) d 220 [.int x, .int y] N = some (some (.int (if y < x then y else x)), N) := by
  apply eq_J9_min_7cf53
  by_cases h : y < x
  · rw [if_pos h, if_pos h]
  · rw [if_neg h, if_neg h]
theorem av_max0 {z : Int} (h1 : -2147483648 ≤ z) (h2 : z ≤ 2147483647) : (if nI 0 < av_k z then av_k z else nI 0) = nI z.toNat := by
  have e := av_kI h1 h2
  by_cases h : 0 < z
  · rw [if_pos (by rw [Int32.lt_iff_toInt_lt, e]; exact h)]
    apply Int32.toInt_inj.mp
    rw [e, nI_toInt (by omega)]
    omega
  · rw [if_neg (by rw [Int32.lt_iff_toInt_lt, e]; exact h), show z.toNat = 0 by omega]
theorem av_kadd (z : Int) (n : Nat) : av_k z + nI n = av_k (z + n) := by
  rw [← av_kN]
  exact (Int32.ofInt_add z n).symm
theorem av_ksub (z : Int) (n : Nat) : av_k z - nI n = av_k (z - n) := by
  rw [← av_kN]
  exact (Int32.ofInt_sub z n).symm
theorem pr_end {L : av_W} {d p pb : Nat} {day : Int32} {z : Int} {m : Int64} {v7 : Value} {N : av_N} {F : List Nat} {g t : Nat} (he : al_ep p) (hs : al_es N p F g t) (hv : v7 = am_junk ∨ ∃ x, v7 = .int x) (h1 : -2147483648 ≤ z) (h2 : z ≤ 2147483647) : al_V L d p pb day (av_k z) m F.length v7 N = some (some (.int (nI z.toNat)), N) := by
  obtain ⟨s1, s2, s3, s4⟩ := al_epE he L
  obtain ⟨c1, c2, -⟩ := hs
  unfold al_V
  rcases hv with rfl | ⟨x, rfl⟩
  · apply eq_X1_price_6_a
    rw [s1, s2, c2]
    simp only [↓av_tg_s]
    rw [if_neg (nI_nlt (Nat.le_refl _) (by omega)), sp_max, av_bi_s, av_kO, av_max0 h1 h2]
  · apply eq_X1_price_6_b
    rw [s1, s2, c2]
    simp only [↓av_tg_s]
    rw [if_neg (nI_nlt (Nat.le_refl _) (by omega)), sp_max, av_bi_s, av_kO, av_max0 h1 h2]
set_option maxHeartbeats 1000000 in
theorem pr_cls {L : av_W} {d p pb : Nat} {N : av_N} {B : Nat → Nat} {day : Nat} {F : List Nat} {g t : Nat} (he : al_ep p) (hs : al_es N p F g t) (hp : al_bp pb) (hb : al_bd N pb B) (ok : al_ok B) (hd : day < 2 ^ 20) : ∀ (cs : List (Nat × Nat × List Nat)) (pre : List Nat) (z : Int) (v7 : Value), F = pre ++ sFl cs → (∀ c ∈ cs, sCl c) → -1000000 - 99 * (cs.length : Int) ≤ z - 198 * cs.length → z + 198 * cs.length ≤ 1000000 + 99 * (cs.length : Int) → (v7 = am_junk ∨ ∃ x, v7 = .int x) →
    al_V L (d + 1) p pb (nI day) (av_k z) (lN 0) pre.length v7 N = some (some (.int (nI (sSum (sTr B day) cs z).toNat)), N) := by
  intro cs
  induction cs with
  | nil =>
    intro pre z v7 hF hc h1 h2 hv
    have : F.length = pre.length := by rw [hF]; simp [sFl]
    rw [← this]
    simp at h1 h2
    exact pr_end he hs hv (by omega) (by omega)
  | cons c cs ih =>
    intro pre z v7 hF hc h1 h2 hv
    rw [List.length_cons] at h1 h2
    obtain ⟨w3, w99, wc⟩ := hc c List.mem_cons_self
    have hcs : ∀ c ∈ cs, sCl c := fun y hy => hc y (List.mem_cons_of_mem _ hy)
    by_cases hw : c.1 ≤ 1
    · obtain ⟨l50, htk, hval⟩ := wc hw
      obtain ⟨v, hv1⟩ := hval (sTr B day)
      have hF2 : F = (pre ++ (c.2.2.map sCls ++ [4 + c.1 + 8 * c.2.1])) ++ sFl cs := by
        rw [hF, show sFl (c :: cs) = (if c.1 ≤ 1 then c.2.2.map sCls ++ [4 + c.1 + 8 * c.2.1] else []) ++ sFl cs from rfl, if_pos hw]
        exact (List.append_assoc _ _ _).symm
      have hFl : F.length = pre.length + (c.2.2.length + 1) + (sFl cs).length := by
        rw [hF2]
        simp
        omega
      refine pr_toks he hs hp hb ok hd c.2.2 [] [v] pre.length v7 (fun j hj => ?_) (by omega) htk hv1 (by simp; omega) hv (fun v' hv' => ?_)
      · rw [hF2, List.append_assoc, gd_r, List.append_assoc, gd_l (by simp; omega), gd_map _ hj]
      · have hg : F.getD (pre.length + c.2.2.length) 0 = (4 + c.1) + 8 * c.2.1 := by
          rw [hF2, List.append_assoc, gd_r, List.append_assoc]
          have := gd_r (l := c.2.2.map sCls) (l' := [4 + c.1 + 8 * c.2.1] ++ sFl cs) 0
          rw [List.length_map, Nat.add_zero] at this
          rw [this]
          rfl
        refine pr_step he hs (by omega) hv' (k := 4 + c.1) (o := c.2.1) hg (by omega) (by omega) ?_
        have fin : ∀ z' : Int, -1000000 - 99 * (cs.length : Int) ≤ z' - 198 * cs.length → z' + 198 * cs.length ≤ 1000000 + 99 * (cs.length : Int) → al_V L (d + 1) p pb (nI day) (av_k z') (lN 0) (pre.length + c.2.2.length + 1) (.int (nI c.2.1)) N = some (some (.int (nI (sSum (sTr B day) cs z').toNat)), N) := by
          intro z' a1 a2
          have := ih (pre ++ (c.2.2.map sCls ++ [4 + c.1 + 8 * c.2.1])) z' (.int (nI c.2.1)) hF2 hcs a1 a2 (Or.inr ⟨_, rfl⟩)
          rw [show (pre ++ (c.2.2.map sCls ++ [4 + c.1 + 8 * c.2.1])).length = pre.length + c.2.2.length + 1 by simp; omega] at this
          exact this
        have hsv : sVal (sTr B day) c.2.2 = v := by unfold sVal; rw [hv1]
        rw [if_neg (by omega), if_neg (by omega), if_neg (by omega), if_neg (by omega)]
        unfold sSum
        rw [hsv]
        rcases (by omega : c.1 = 0 ∨ c.1 = 1) with h0 | h0
        · rw [h0, if_pos rfl, if_pos rfl]
          cases v
          · rw [show sB [false] = 0 from rfl, if_pos lg_c0, av_kadd, if_neg (by decide)]
            have := fin z (by omega) (by omega)
            simpa using this
          · rw [show sB [true] = 1 from rfl, if_neg lg_c1, av_kadd, if_pos rfl]
            exact fin (z + c.2.1) (by omega) (by omega)
        · rw [h0, if_neg (show ¬ 4 + 1 = 4 by decide)]
          cases v
          · rw [show sB [false] = 0 from rfl, if_pos lg_c0, av_ksub]
            have := fin z (by omega) (by omega)
            simpa using this
          · rw [show sB [true] = 1 from rfl, if_neg lg_c1, av_ksub]
            have := fin (z - c.2.1) (by omega) (by omega)
            simpa using this
    · have e1 : sFl (c :: cs) = sFl cs := by
        show (if c.1 ≤ 1 then _ else []) ++ sFl cs = sFl cs
        rw [if_neg hw]
        rfl
      have e2 : sSum (sTr B day) (c :: cs) z = sSum (sTr B day) cs z := by
        show sSum _ cs (if c.1 = 0 then _ else if c.1 = 1 then _ else z) = _
        rw [if_neg (by omega), if_neg (by omega)]
      rw [e2]
      exact ih pre z v7 (by rw [← e1]; exact hF) hcs (by omega) (by omega) hv
theorem sp_price (L : av_W) (d : Nat) {p pb : Nat} {N : av_N} {B : Nat → Nat} {day : Nat} {g t : Nat} {cs : List (Nat × Nat × List Nat)} (he : al_ep p) (hs : al_es N p (sFl cs) g t) (hp : al_bp pb) (hb : al_bd N pb B) (ok : al_ok B) (hd : day < 2 ^ 20) (hc : ∀ c ∈ cs, sCl c) (hl : cs.length ≤ 10) : av_C (av_S0 L) (d + 2) 16 [.ref p, .ref pb, .int (nI day)] N = some (some (.int (nI (sPrice (sTr B day) cs))), N) := by
  apply eq_X1_price (d := d + 1)
  exact pr_cls (d := d) he hs hp hb ok hd cs [] 1 am_junk rfl hc (by omega) (by omega) (Or.inl rfl)
