set_option maxRecDepth 100000 in
theorem ok_X6_count : am_okM am_P inf_X6_count := ⟨by decide +kernel, by decide +kernel, by decide +kernel, am_allE (by decide +kernel)⟩
set_option maxRecDepth 100000 in
theorem ok_X6_tape : am_okM am_P inf_X6_tape := ⟨by decide +kernel, by decide +kernel, by decide +kernel, am_allE (by decide +kernel)⟩
set_option maxRecDepth 100000 in
theorem ok_X6_item : am_okM am_P inf_X6_item := ⟨by decide +kernel, by decide +kernel, by decide +kernel, am_allE (by decide +kernel)⟩
set_option maxRecDepth 100000 in
theorem ok_X6_read : am_okM am_P inf_X6_read := ⟨by decide +kernel, by decide +kernel, by decide +kernel, am_allE (by decide +kernel)⟩
set_option maxRecDepth 100000 in
theorem ok_X6_shift : am_okM am_P inf_X6_shift := ⟨by decide +kernel, by decide +kernel, by decide +kernel, am_allE (by decide +kernel)⟩
set_option maxRecDepth 100000 in
theorem ok_X6_within : am_okM am_P inf_X6_within := ⟨by decide +kernel, by decide +kernel, by decide +kernel, am_allE (by decide +kernel)⟩
set_option maxRecDepth 100000 in
theorem ok_X6_estuaryNow : am_okM am_P inf_X6_estuaryNow := ⟨by decide +kernel, by decide +kernel, by decide +kernel, am_allE (by decide +kernel)⟩
set_option maxRecDepth 100000 in
theorem ok_X6_layAir : am_okM am_P inf_X6_layAir := ⟨by decide +kernel, by decide +kernel, by decide +kernel, am_allE (by decide +kernel)⟩
set_option maxRecDepth 100000 in
theorem ok_X6_layBird : am_okM am_P inf_X6_layBird := ⟨by decide +kernel, by decide +kernel, by decide +kernel, am_allE (by decide +kernel)⟩
set_option maxRecDepth 100000 in
theorem ok_X6_freeAt : am_okM am_P inf_X6_freeAt := ⟨by decide +kernel, by decide +kernel, by decide +kernel, am_allE (by decide +kernel)⟩
set_option maxRecDepth 100000 in
theorem ok_X6_isFree : am_okM am_P inf_X6_isFree := ⟨by decide +kernel, by decide +kernel, by decide +kernel, am_allE (by decide +kernel)⟩
set_option maxRecDepth 100000 in
theorem ok_X6_freeStrips : am_okM am_P inf_X6_freeStrips := ⟨by decide +kernel, by decide +kernel, by decide +kernel, am_allE (by decide +kernel)⟩
set_option maxRecDepth 100000 in
theorem ok_X6_crowded : am_okM am_P inf_X6_crowded := ⟨by decide +kernel, by decide +kernel, by decide +kernel, am_allE (by decide +kernel)⟩
set_option maxRecDepth 100000 in
theorem ok_X6_rentOfAll : am_okM am_P inf_X6_rentOfAll := ⟨by decide +kernel, by decide +kernel, by decide +kernel, am_allE (by decide +kernel)⟩
set_option maxRecDepth 100000 in
theorem ok_X6_clashOf : am_okM am_P inf_X6_clashOf := ⟨by decide +kernel, by decide +kernel, by decide +kernel, am_allE (by decide +kernel)⟩
set_option maxRecDepth 100000 in
theorem ok_X6_sharedStrips : am_okM am_P inf_X6_sharedStrips := ⟨by decide +kernel, by decide +kernel, by decide +kernel, am_allE (by decide +kernel)⟩
set_option maxRecDepth 100000 in
theorem ok_X6_findFoes : am_okM am_P inf_X6_findFoes := ⟨by decide +kernel, by decide +kernel, by decide +kernel, am_allE (by decide +kernel)⟩
set_option maxRecDepth 100000 in
theorem ok_X6_findRents : am_okM am_P inf_X6_findRents := ⟨by decide +kernel, by decide +kernel, by decide +kernel, am_allE (by decide +kernel)⟩
set_option maxRecDepth 100000 in
theorem ok_X6_isPeaceful : am_okM am_P inf_X6_isPeaceful := ⟨by decide +kernel, by decide +kernel, by decide +kernel, am_allE (by decide +kernel)⟩
set_option maxRecDepth 100000 in
theorem ok_X6_rentOfSet : am_okM am_P inf_X6_rentOfSet := ⟨by decide +kernel, by decide +kernel, by decide +kernel, am_allE (by decide +kernel)⟩
set_option maxRecDepth 100000 in
theorem ok_X6_goAnHour : am_okM am_P inf_X6_goAnHour := ⟨by decide +kernel, by decide +kernel, by decide +kernel, am_allE (by decide +kernel)⟩
set_option maxRecDepth 100000 in
theorem ok_X6_seenHeldBy : am_okM am_P inf_X6_seenHeldBy := ⟨by decide +kernel, by decide +kernel, by decide +kernel, am_allE (by decide +kernel)⟩
set_option maxRecDepth 100000 in
theorem ok_X6_lastSeenDays : am_okM am_P inf_X6_lastSeenDays := ⟨by decide +kernel, by decide +kernel, by decide +kernel, am_allE (by decide +kernel)⟩
set_option maxRecDepth 100000 in
theorem ok_X6_seenAsTold : am_okM am_P inf_X6_seenAsTold := ⟨by decide +kernel, by decide +kernel, by decide +kernel, am_allE (by decide +kernel)⟩
set_option maxRecDepth 100000 in
theorem ok_X6_partOfFraction : am_okM am_P inf_X6_partOfFraction := ⟨by decide +kernel, by decide +kernel, by decide +kernel, am_allE (by decide +kernel)⟩
set_option maxRecDepth 100000 in
theorem ok_X6_isUnder : am_okM am_P inf_X6_isUnder := ⟨by decide +kernel, by decide +kernel, by decide +kernel, am_allE (by decide +kernel)⟩
set_option maxRecDepth 100000 in
theorem ok_X6_run : am_okM am_P inf_X6_run := ⟨by decide +kernel, by decide +kernel, by decide +kernel, am_allE (by decide +kernel)⟩
set_option maxRecDepth 100000 in
theorem ok_X6_kindAbove : am_okM am_P inf_X6_kindAbove := ⟨by decide +kernel, by decide +kernel, by decide +kernel, am_allE (by decide +kernel)⟩
set_option maxRecDepth 100000 in
theorem ok_X6_note : am_okM am_P inf_X6_note := ⟨by decide +kernel, by decide +kernel, by decide +kernel, am_allE (by decide +kernel)⟩
set_option maxRecDepth 100000 in
theorem ok_X7_init : am_okM am_P inf_X7_init := ⟨by decide +kernel, by decide +kernel, by decide +kernel, am_allE (by decide +kernel)⟩
set_option maxRecDepth 100000 in
theorem ok_X7_in : am_okM am_P inf_X7_in := ⟨by decide +kernel, by decide +kernel, by decide +kernel, am_allE (by decide +kernel)⟩
set_option maxRecDepth 100000 in
theorem ok_X7_has : am_okM am_P inf_X7_has := ⟨by decide +kernel, by decide +kernel, by decide +kernel, am_allE (by decide +kernel)⟩
set_option maxRecDepth 100000 in
theorem ok_X7_ones : am_okM am_P inf_X7_ones := ⟨by decide +kernel, by decide +kernel, by decide +kernel, am_allE (by decide +kernel)⟩
set_option maxRecDepth 100000 in
theorem ok_X7_isBird : am_okM am_P inf_X7_isBird := ⟨by decide +kernel, by decide +kernel, by decide +kernel, am_allE (by decide +kernel)⟩
set_option maxRecDepth 100000 in
theorem ok_X7_isLow : am_okM am_P inf_X7_isLow := ⟨by decide +kernel, by decide +kernel, by decide +kernel, am_allE (by decide +kernel)⟩
