def am_okF (P : Nat → Option am_I) (inf : am_I) : Prop := plainFor inf.1 = true ∧ inf.1.cls = inf.2.2.2.2.1 ∧ am_pc inf.2.2.2.2.2 0 = some 0 ∧ ∀ i, i < inf.2.2.2.2.2.length → am_chk P inf i = true
theorem am_okF_of {P : Nat → Option am_I} {inf : am_I} (h : am_okM P inf) : am_okF P inf := ⟨plainFor_of_name h.1, h.2⟩
set_option maxRecDepth 100000 in
theorem ok_J9_floorMod_7cf53 : am_okF am_P inf_J9_floorMod_7cf53 := ⟨by decide +kernel, by decide +kernel, by decide +kernel, am_allE (by decide +kernel)⟩
set_option maxRecDepth 100000 in
theorem ok_J9_max_7cf53 : am_okF am_P inf_J9_max_7cf53 := ⟨by decide +kernel, by decide +kernel, by decide +kernel, am_allE (by decide +kernel)⟩
set_option maxRecDepth 100000 in
theorem ok_J9_min_7cf53 : am_okF am_P inf_J9_min_7cf53 := ⟨by decide +kernel, by decide +kernel, by decide +kernel, am_allE (by decide +kernel)⟩
def am_allR (P : Nat → Option am_I) (inf : am_I) (a n : Nat) : Bool := (List.range n).all fun i => am_chk P inf (a + i)
theorem am_allRE {P : Nat → Option am_I} {inf : am_I} {a n : Nat} (h : am_allR P inf a n = true) {i : Nat} (h1 : a ≤ i) (h2 : i < a + n) : am_chk P inf i = true := by
  have := List.all_eq_true.mp h (i - a) (List.mem_range.mpr (by omega))
  rw [show a + (i - a) = i from by omega] at this
  exact this
set_option maxRecDepth 100000 in
theorem ok_L_law_0 : am_allR am_P inf_L_law 0 6 = true := by decide +kernel
set_option maxRecDepth 100000 in
theorem ok_L_law_6 : am_chk am_P inf_L_law 6 = true := by
  have e : am_chk am_P inf_L_law 6 = (decide (decode cL_law 12 = .ok (.invokespecial 12, 3)) && (!am_falls (.invokespecial 12) || decide (am_pc ta_L_law 7 = some (12 + 3))) && (decide (inf_X7_init.1.name = "<init>") && decide (inf_X7_init.2.2.2.1 = none) && am_w 865 (.methodLink RL 12 inf_X7_init.1) && am_w 867 (.code inf_X7_init.1 inf_X7_init.2.1 inf_X7_init.2.2.1 none) && am_w 866 (.instanceMethod inf_X7_init.1) && am_w 104 (.initialized inf_X7_init.1.cls) && am_chkN inf_X7_init 0)) := rfl
  rw [e]
  simp only [Bool.and_eq_true]
  refine ⟨⟨by decide +kernel, by decide +kernel⟩, ⟨⟨⟨⟨⟨by decide +kernel, by decide +kernel⟩, by decide +kernel⟩, ?_⟩, by decide +kernel⟩, by decide +kernel⟩, by decide +kernel⟩
  exact decide_eq_true (rfl : lw_tbl[867]? = some (.code inf_X7_init.1 inf_X7_init.2.1 inf_X7_init.2.2.1 none))
set_option maxRecDepth 100000 in
theorem ok_L_law_7 : am_allR am_P inf_L_law 7 53 = true := by decide +kernel
set_option maxRecDepth 100000 in
theorem ok_L_law_60 : am_allR am_P inf_L_law 60 60 = true := by decide +kernel
set_option maxRecDepth 100000 in
theorem ok_L_law_120 : am_allR am_P inf_L_law 120 60 = true := by decide +kernel
set_option maxRecDepth 100000 in
theorem ok_L_law_180 : am_allR am_P inf_L_law 180 60 = true := by decide +kernel
set_option maxRecDepth 100000 in
theorem ok_L_law_240 : am_allR am_P inf_L_law 240 60 = true := by decide +kernel
set_option maxRecDepth 100000 in
theorem ok_L_law_300 : am_allR am_P inf_L_law 300 60 = true := by decide +kernel
set_option maxRecDepth 100000 in
theorem ok_L_law_360 : am_allR am_P inf_L_law 360 60 = true := by decide +kernel
set_option maxRecDepth 100000 in
theorem ok_L_law_420 : am_allR am_P inf_L_law 420 60 = true := by decide +kernel
set_option maxRecDepth 100000 in
theorem ok_L_law_480 : am_allR am_P inf_L_law 480 60 = true := by decide +kernel
set_option maxRecDepth 100000 in
theorem ok_L_law_540 : am_allR am_P inf_L_law 540 60 = true := by decide +kernel
set_option maxRecDepth 100000 in
theorem ok_L_law_600 : am_allR am_P inf_L_law 600 60 = true := by decide +kernel
set_option maxRecDepth 100000 in
theorem ok_L_law_660 : am_allR am_P inf_L_law 660 60 = true := by decide +kernel
set_option maxRecDepth 100000 in
theorem ok_L_law_720 : am_allR am_P inf_L_law 720 44 = true := by decide +kernel
set_option maxRecDepth 100000 in
theorem ok_L_law_764 : am_chk am_P inf_L_law 764 = true := by
  have e : am_chk am_P inf_L_law 764 = (decide (decode cL_law 1150 = .ok (.invokevirtual 145, 3)) && (!am_falls (.invokevirtual 145) || decide (am_pc ta_L_law 765 = some (1150 + 3))) && (decide (7 < 8) && decide (inf_X7_image.1.cls = am_cn 7) && am_w 1459 (.methodLink RL 145 inf_X7_image.1) && am_w 1462 (.code inf_X7_image.1 inf_X7_image.2.1 inf_X7_image.2.2.1 inf_X7_image.2.2.2.1) && am_w 1460 (.instanceMethod inf_X7_image.1) && am_w 1461 (.selects (am_cn 7) inf_X7_image.1 inf_X7_image.1) && am_w 104 (.initialized inf_X7_image.1.cls) && am_chkN inf_X7_image 0)) := rfl
  rw [e]
  simp only [Bool.and_eq_true]
  refine ⟨⟨by decide +kernel, by decide +kernel⟩, ⟨⟨⟨⟨⟨⟨by decide +kernel, by decide +kernel⟩, by decide +kernel⟩, ?_⟩, by decide +kernel⟩, by decide +kernel⟩, by decide +kernel⟩, by decide +kernel⟩
  exact decide_eq_true (rfl : lw_tbl[1462]? = some (.code inf_X7_image.1 inf_X7_image.2.1 inf_X7_image.2.2.1 inf_X7_image.2.2.2.1))
set_option maxRecDepth 100000 in
theorem ok_L_law_765 : am_allR am_P inf_L_law 765 6 = true := by decide +kernel
set_option maxRecDepth 100000 in
theorem ok_L_law_771 : am_chk am_P inf_L_law 771 = true := by
  have e : am_chk am_P inf_L_law 771 = (decide (decode cL_law 1163 = .ok (.invokevirtual 149, 3)) && (!am_falls (.invokevirtual 149) || decide (am_pc ta_L_law 772 = some (1163 + 3))) && (decide (7 < 8) && decide (inf_X7_undo.1.cls = am_cn 7) && am_w 1463 (.methodLink RL 149 inf_X7_undo.1) && am_w 1466 (.code inf_X7_undo.1 inf_X7_undo.2.1 inf_X7_undo.2.2.1 inf_X7_undo.2.2.2.1) && am_w 1464 (.instanceMethod inf_X7_undo.1) && am_w 1465 (.selects (am_cn 7) inf_X7_undo.1 inf_X7_undo.1) && am_w 104 (.initialized inf_X7_undo.1.cls) && am_chkN inf_X7_undo 0)) := rfl
  rw [e]
  simp only [Bool.and_eq_true]
  refine ⟨⟨by decide +kernel, by decide +kernel⟩, ⟨⟨⟨⟨⟨⟨by decide +kernel, by decide +kernel⟩, by decide +kernel⟩, ?_⟩, by decide +kernel⟩, by decide +kernel⟩, by decide +kernel⟩, by decide +kernel⟩
  exact decide_eq_true (rfl : lw_tbl[1466]? = some (.code inf_X7_undo.1 inf_X7_undo.2.1 inf_X7_undo.2.2.1 inf_X7_undo.2.2.2.1))
set_option maxRecDepth 100000 in
theorem ok_L_law_772 : am_allR am_P inf_L_law 772 8 = true := by decide +kernel
set_option maxRecDepth 100000 in
theorem ok_L_law_780 : am_allR am_P inf_L_law 780 60 = true := by decide +kernel
set_option maxRecDepth 100000 in
theorem ok_L_law_840 : am_allR am_P inf_L_law 840 60 = true := by decide +kernel
set_option maxRecDepth 100000 in
theorem ok_L_law_900 : am_allR am_P inf_L_law 900 60 = true := by decide +kernel
set_option maxRecDepth 100000 in
theorem ok_L_law_960 : am_allR am_P inf_L_law 960 60 = true := by decide +kernel
set_option maxRecDepth 100000 in
theorem ok_L_law_1020 : am_allR am_P inf_L_law 1020 40 = true := by decide +kernel
set_option maxRecDepth 100000 in
theorem ok_L_law : am_okM am_P inf_L_law := ⟨by decide +kernel, by decide +kernel, by decide +kernel, fun i hi => by
  have hl : inf_L_law.2.2.2.2.2.length = 1060 := by decide +kernel
  rw [hl] at hi
  by_cases h0 : i < 60
  · by_cases ha : i < 6
    · exact am_allRE ok_L_law_0 (by omega) (by omega)
    · by_cases hb : i = 6
      · rw [hb]
        exact ok_L_law_6
      · exact am_allRE ok_L_law_7 (by omega) (by omega)
  by_cases h60 : i < 120
  · exact am_allRE ok_L_law_60 (by omega) (by omega)
  by_cases h120 : i < 180
  · exact am_allRE ok_L_law_120 (by omega) (by omega)
  by_cases h180 : i < 240
  · exact am_allRE ok_L_law_180 (by omega) (by omega)
  by_cases h240 : i < 300
  · exact am_allRE ok_L_law_240 (by omega) (by omega)
  by_cases h300 : i < 360
  · exact am_allRE ok_L_law_300 (by omega) (by omega)
  by_cases h360 : i < 420
  · exact am_allRE ok_L_law_360 (by omega) (by omega)
  by_cases h420 : i < 480
  · exact am_allRE ok_L_law_420 (by omega) (by omega)
  by_cases h480 : i < 540
  · exact am_allRE ok_L_law_480 (by omega) (by omega)
  by_cases h540 : i < 600
  · exact am_allRE ok_L_law_540 (by omega) (by omega)
  by_cases h600 : i < 660
  · exact am_allRE ok_L_law_600 (by omega) (by omega)
  by_cases h660 : i < 720
  · exact am_allRE ok_L_law_660 (by omega) (by omega)
  by_cases h720 : i < 780
  · by_cases ha : i < 764
    · exact am_allRE ok_L_law_720 (by omega) (by omega)
    · by_cases hb : i = 764
      · rw [hb]
        exact ok_L_law_764
      · by_cases hc : i < 771
        · exact am_allRE ok_L_law_765 (by omega) (by omega)
        · by_cases hd : i = 771
          · rw [hd]
            exact ok_L_law_771
          · exact am_allRE ok_L_law_772 (by omega) (by omega)
  by_cases h780 : i < 840
  · exact am_allRE ok_L_law_780 (by omega) (by omega)
  by_cases h840 : i < 900
  · exact am_allRE ok_L_law_840 (by omega) (by omega)
  by_cases h900 : i < 960
  · exact am_allRE ok_L_law_900 (by omega) (by omega)
  by_cases h960 : i < 1020
  · exact am_allRE ok_L_law_960 (by omega) (by omega)
  exact am_allRE ok_L_law_1020 (by omega) (by omega)⟩
