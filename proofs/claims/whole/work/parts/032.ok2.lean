set_option maxRecDepth 100000 in
theorem ok_X6_of : am_okM am_P inf_X6_of := ⟨by decide +kernel, by decide +kernel, by decide +kernel, am_allE (by decide +kernel)⟩
set_option maxRecDepth 100000 in
theorem ok_X6_set : am_okM am_P inf_X6_set := ⟨by decide +kernel, by decide +kernel, by decide +kernel, am_allE (by decide +kernel)⟩
set_option maxRecDepth 100000 in
theorem ok_X6_evict : am_okM am_P inf_X6_evict := ⟨by decide +kernel, by decide +kernel, by decide +kernel, am_allE (by decide +kernel)⟩
set_option maxRecDepth 100000 in
theorem ok_X6_row : am_okM am_P inf_X6_row := ⟨by decide +kernel, by decide +kernel, by decide +kernel, am_allE (by decide +kernel)⟩
set_option maxRecDepth 100000 in
theorem ok_X6_feed : am_okM am_P inf_X6_feed := ⟨by decide +kernel, by decide +kernel, by decide +kernel, am_allE (by decide +kernel)⟩
set_option maxRecDepth 100000 in
theorem ok_X6_estuary : am_okM am_P inf_X6_estuary := ⟨by decide +kernel, by decide +kernel, by decide +kernel, am_allE (by decide +kernel)⟩
set_option maxRecDepth 100000 in
theorem ok_X6_told : am_okM am_P inf_X6_told := ⟨by decide +kernel, by decide +kernel, by decide +kernel, am_allE (by decide +kernel)⟩
set_option maxRecDepth 100000 in
theorem ok_X6_held : am_okM am_P inf_X6_held := ⟨by decide +kernel, by decide +kernel, by decide +kernel, am_allE (by decide +kernel)⟩
set_option maxRecDepth 100000 in
theorem ok_X6_free : am_okM am_P inf_X6_free := ⟨by decide +kernel, by decide +kernel, by decide +kernel, am_allE (by decide +kernel)⟩
set_option maxRecDepth 100000 in
theorem ok_X6_clash : am_okM am_P inf_X6_clash := ⟨by decide +kernel, by decide +kernel, by decide +kernel, am_allE (by decide +kernel)⟩
set_option maxRecDepth 100000 in
theorem ok_X6_worst : am_okM am_P inf_X6_worst := ⟨by decide +kernel, by decide +kernel, by decide +kernel, am_allE (by decide +kernel)⟩
set_option maxRecDepth 100000 in
theorem ok_X6_pass : am_okM am_P inf_X6_pass := ⟨by decide +kernel, by decide +kernel, by decide +kernel, am_allE (by decide +kernel)⟩
set_option maxRecDepth 100000 in
theorem ok_X6_on : am_okM am_P inf_X6_on := ⟨by decide +kernel, by decide +kernel, by decide +kernel, am_allE (by decide +kernel)⟩
set_option maxRecDepth 100000 in
theorem ok_X6_empty : am_okM am_P inf_X6_empty := ⟨by decide +kernel, by decide +kernel, by decide +kernel, am_allE (by decide +kernel)⟩
set_option maxRecDepth 100000 in
theorem ok_X6_lower : am_okM am_P inf_X6_lower := ⟨by decide +kernel, by decide +kernel, by decide +kernel, am_allE (by decide +kernel)⟩
set_option maxRecDepth 100000 in
theorem ok_X6_sooner : am_okM am_P inf_X6_sooner := ⟨by decide +kernel, by decide +kernel, by decide +kernel, am_allE (by decide +kernel)⟩
set_option maxRecDepth 100000 in
theorem ok_X6_let : am_okM am_P inf_X6_let := ⟨by decide +kernel, by decide +kernel, by decide +kernel, am_allE (by decide +kernel)⟩
set_option maxRecDepth 100000 in
theorem ok_X6_whoEvict : am_okM am_P inf_X6_whoEvict := ⟨by decide +kernel, by decide +kernel, by decide +kernel, am_allE (by decide +kernel)⟩
set_option maxRecDepth 100000 in
theorem ok_X6_ways : am_okM am_P inf_X6_ways := ⟨by decide +kernel, by decide +kernel, by decide +kernel, am_allE (by decide +kernel)⟩
set_option maxRecDepth 100000 in
theorem ok_X6_outs : am_okM am_P inf_X6_outs := ⟨by decide +kernel, by decide +kernel, by decide +kernel, am_allE (by decide +kernel)⟩
set_option maxRecDepth 100000 in
theorem ok_X6_see : am_okM am_P inf_X6_see := ⟨by decide +kernel, by decide +kernel, by decide +kernel, am_allE (by decide +kernel)⟩
set_option maxRecDepth 100000 in
theorem ok_X6_can : am_okM am_P inf_X6_can := ⟨by decide +kernel, by decide +kernel, by decide +kernel, am_allE (by decide +kernel)⟩
set_option maxRecDepth 100000 in
theorem ok_X6_odds : am_okM am_P inf_X6_odds := ⟨by decide +kernel, by decide +kernel, by decide +kernel, am_allE (by decide +kernel)⟩
set_option maxRecDepth 100000 in
theorem ok_X6_mean : am_okM am_P inf_X6_mean := ⟨by decide +kernel, by decide +kernel, by decide +kernel, am_allE (by decide +kernel)⟩
set_option maxRecDepth 100000 in
theorem ok_X6_lease : am_okM am_P inf_X6_lease := ⟨by decide +kernel, by decide +kernel, by decide +kernel, am_allE (by decide +kernel)⟩
set_option maxRecDepth 100000 in
theorem ok_X6_leased : am_okM am_P inf_X6_leased := ⟨by decide +kernel, by decide +kernel, by decide +kernel, am_allE (by decide +kernel)⟩
set_option maxRecDepth 100000 in
theorem ok_X6_book : am_okM am_P inf_X6_book := ⟨by decide +kernel, by decide +kernel, by decide +kernel, am_allE (by decide +kernel)⟩
set_option maxRecDepth 100000 in
theorem ok_X6_looked : am_okM am_P inf_X6_looked := ⟨by decide +kernel, by decide +kernel, by decide +kernel, am_allE (by decide +kernel)⟩
set_option maxRecDepth 100000 in
theorem ok_X6_judge : am_okM am_P inf_X6_judge := ⟨by decide +kernel, by decide +kernel, by decide +kernel, am_allE (by decide +kernel)⟩
set_option maxRecDepth 100000 in
theorem ok_X6_image : am_okM am_P inf_X6_image := ⟨by decide +kernel, by decide +kernel, by decide +kernel, am_allE (by decide +kernel)⟩
set_option maxRecDepth 100000 in
theorem ok_X6_undo : am_okM am_P inf_X6_undo := ⟨by decide +kernel, by decide +kernel, by decide +kernel, am_allE (by decide +kernel)⟩
set_option maxRecDepth 100000 in
theorem ok_X6_act : am_okM am_P inf_X6_act := ⟨by decide +kernel, by decide +kernel, by decide +kernel, am_allE (by decide +kernel)⟩
set_option maxRecDepth 100000 in
theorem ok_X6_trace : am_okM am_P inf_X6_trace := ⟨by decide +kernel, by decide +kernel, by decide +kernel, am_allE (by decide +kernel)⟩
set_option maxRecDepth 100000 in
theorem ok_X6_taken : am_okM am_P inf_X6_taken := ⟨by decide +kernel, by decide +kernel, by decide +kernel, am_allE (by decide +kernel)⟩
