def am_all (P : Nat → Option am_I) (inf : am_I) : Bool := (List.range inf.2.2.2.2.2.length).all fun i => am_chk P inf i
theorem am_allE {P : Nat → Option am_I} {inf : am_I} (h : am_all P inf = true) : ∀ i, i < inf.2.2.2.2.2.length → am_chk P inf i = true := fun i hi => List.all_eq_true.mp h i (List.mem_range.mpr hi)
set_option maxRecDepth 100000 in
theorem ok_X0_init : am_okM am_P inf_X0_init := ⟨by decide +kernel, by decide +kernel, by decide +kernel, am_allE (by decide +kernel)⟩
set_option maxRecDepth 100000 in
theorem ok_X0_begin : am_okM am_P inf_X0_begin := ⟨by decide +kernel, by decide +kernel, by decide +kernel, am_allE (by decide +kernel)⟩
set_option maxRecDepth 100000 in
theorem ok_X0_become : am_okM am_P inf_X0_become := ⟨by decide +kernel, by decide +kernel, by decide +kernel, am_allE (by decide +kernel)⟩
set_option maxRecDepth 100000 in
theorem ok_X0_change : am_okM am_P inf_X0_change := ⟨by decide +kernel, by decide +kernel, by decide +kernel, am_allE (by decide +kernel)⟩
set_option maxRecDepth 100000 in
theorem ok_X0_bottom : am_okM am_P inf_X0_bottom := ⟨by decide +kernel, by decide +kernel, by decide +kernel, am_allE (by decide +kernel)⟩
set_option maxRecDepth 100000 in
theorem ok_X0_begins : am_okM am_P inf_X0_begins := ⟨by decide +kernel, by decide +kernel, by decide +kernel, am_allE (by decide +kernel)⟩
set_option maxRecDepth 100000 in
theorem ok_X0_heights : am_okM am_P inf_X0_heights := ⟨by decide +kernel, by decide +kernel, by decide +kernel, am_allE (by decide +kernel)⟩
set_option maxRecDepth 100000 in
theorem ok_X0_span : am_okM am_P inf_X0_span := ⟨by decide +kernel, by decide +kernel, by decide +kernel, am_allE (by decide +kernel)⟩
set_option maxRecDepth 100000 in
theorem ok_X0_holds : am_okM am_P inf_X0_holds := ⟨by decide +kernel, by decide +kernel, by decide +kernel, am_allE (by decide +kernel)⟩
set_option maxRecDepth 100000 in
theorem ok_X0_strips : am_okM am_P inf_X0_strips := ⟨by decide +kernel, by decide +kernel, by decide +kernel, am_allE (by decide +kernel)⟩
set_option maxRecDepth 100000 in
theorem ok_X0_rent : am_okM am_P inf_X0_rent := ⟨by decide +kernel, by decide +kernel, by decide +kernel, am_allE (by decide +kernel)⟩
set_option maxRecDepth 100000 in
theorem ok_X0_live : am_okM am_P inf_X0_live := ⟨by decide +kernel, by decide +kernel, by decide +kernel, am_allE (by decide +kernel)⟩
set_option maxRecDepth 100000 in
theorem ok_X0_liveADay : am_okM am_P inf_X0_liveADay := ⟨by decide +kernel, by decide +kernel, by decide +kernel, am_allE (by decide +kernel)⟩
set_option maxRecDepth 100000 in
theorem ok_X1_init : am_okM am_P inf_X1_init := ⟨by decide +kernel, by decide +kernel, by decide +kernel, am_allE (by decide +kernel)⟩
set_option maxRecDepth 100000 in
theorem ok_X1_clear : am_okM am_P inf_X1_clear := ⟨by decide +kernel, by decide +kernel, by decide +kernel, am_allE (by decide +kernel)⟩
set_option maxRecDepth 100000 in
theorem ok_X1_put : am_okM am_P inf_X1_put := ⟨by decide +kernel, by decide +kernel, by decide +kernel, am_allE (by decide +kernel)⟩
set_option maxRecDepth 100000 in
theorem ok_X1_price : am_okM am_P inf_X1_price := ⟨by decide +kernel, by decide +kernel, by decide +kernel, am_allE (by decide +kernel)⟩
set_option maxRecDepth 100000 in
theorem ok_X1_testOf : am_okM am_P inf_X1_testOf := ⟨by decide +kernel, by decide +kernel, by decide +kernel, am_allE (by decide +kernel)⟩
set_option maxRecDepth 100000 in
theorem ok_X1_passes : am_okM am_P inf_X1_passes := ⟨by decide +kernel, by decide +kernel, by decide +kernel, am_allE (by decide +kernel)⟩
set_option maxRecDepth 100000 in
theorem ok_X1_trait : am_okM am_P inf_X1_trait := ⟨by decide +kernel, by decide +kernel, by decide +kernel, am_allE (by decide +kernel)⟩
set_option maxRecDepth 100000 in
theorem ok_X2_init : am_okM am_P inf_X2_init := ⟨by decide +kernel, by decide +kernel, by decide +kernel, am_allE (by decide +kernel)⟩
set_option maxRecDepth 100000 in
theorem ok_X2_put : am_okM am_P inf_X2_put := ⟨by decide +kernel, by decide +kernel, by decide +kernel, am_allE (by decide +kernel)⟩
set_option maxRecDepth 100000 in
theorem ok_X2_parse : am_okM am_P inf_X2_parse := ⟨by decide +kernel, by decide +kernel, by decide +kernel, am_allE (by decide +kernel)⟩
set_option maxRecDepth 100000 in
theorem ok_X2_clause : am_okM am_P inf_X2_clause := ⟨by decide +kernel, by decide +kernel, by decide +kernel, am_allE (by decide +kernel)⟩
set_option maxRecDepth 100000 in
theorem ok_X2_change : am_okM am_P inf_X2_change := ⟨by decide +kernel, by decide +kernel, by decide +kernel, am_allE (by decide +kernel)⟩
set_option maxRecDepth 100000 in
theorem ok_X2_gain : am_okM am_P inf_X2_gain := ⟨by decide +kernel, by decide +kernel, by decide +kernel, am_allE (by decide +kernel)⟩
set_option maxRecDepth 100000 in
theorem ok_X2_top : am_okM am_P inf_X2_top := ⟨by decide +kernel, by decide +kernel, by decide +kernel, am_allE (by decide +kernel)⟩
set_option maxRecDepth 100000 in
theorem ok_X2_either : am_okM am_P inf_X2_either := ⟨by decide +kernel, by decide +kernel, by decide +kernel, am_allE (by decide +kernel)⟩
set_option maxRecDepth 100000 in
theorem ok_X2_factor : am_okM am_P inf_X2_factor := ⟨by decide +kernel, by decide +kernel, by decide +kernel, am_allE (by decide +kernel)⟩
set_option maxRecDepth 100000 in
theorem ok_X2_test : am_okM am_P inf_X2_test := ⟨by decide +kernel, by decide +kernel, by decide +kernel, am_allE (by decide +kernel)⟩
set_option maxRecDepth 100000 in
theorem ok_X2_isLetter : am_okM am_P inf_X2_isLetter := ⟨by decide +kernel, by decide +kernel, by decide +kernel, am_allE (by decide +kernel)⟩
set_option maxRecDepth 100000 in
theorem ok_X2_next : am_okM am_P inf_X2_next := ⟨by decide +kernel, by decide +kernel, by decide +kernel, am_allE (by decide +kernel)⟩
set_option maxRecDepth 100000 in
theorem ok_X2_skip : am_okM am_P inf_X2_skip := ⟨by decide +kernel, by decide +kernel, by decide +kernel, am_allE (by decide +kernel)⟩
set_option maxRecDepth 100000 in
theorem ok_X2_skipWord : am_okM am_P inf_X2_skipWord := ⟨by decide +kernel, by decide +kernel, by decide +kernel, am_allE (by decide +kernel)⟩
set_option maxRecDepth 100000 in
theorem ok_X2_number : am_okM am_P inf_X2_number := ⟨by decide +kernel, by decide +kernel, by decide +kernel, am_allE (by decide +kernel)⟩
set_option maxRecDepth 100000 in
theorem ok_X3_init : am_okM am_P inf_X3_init := ⟨by decide +kernel, by decide +kernel, by decide +kernel, am_allE (by decide +kernel)⟩
set_option maxRecDepth 100000 in
theorem ok_X3_put : am_okM am_P inf_X3_put := ⟨by decide +kernel, by decide +kernel, by decide +kernel, am_allE (by decide +kernel)⟩
set_option maxRecDepth 100000 in
theorem ok_X3_become : am_okM am_P inf_X3_become := ⟨by decide +kernel, by decide +kernel, by decide +kernel, am_allE (by decide +kernel)⟩
set_option maxRecDepth 100000 in
theorem ok_X4_init : am_okM am_P inf_X4_init := ⟨by decide +kernel, by decide +kernel, by decide +kernel, am_allE (by decide +kernel)⟩
set_option maxRecDepth 100000 in
theorem ok_X4_birdAt : am_okM am_P inf_X4_birdAt := ⟨by decide +kernel, by decide +kernel, by decide +kernel, am_allE (by decide +kernel)⟩
set_option maxRecDepth 100000 in
theorem ok_X4_outBits : am_okM am_P inf_X4_outBits := ⟨by decide +kernel, by decide +kernel, by decide +kernel, am_allE (by decide +kernel)⟩
set_option maxRecDepth 100000 in
theorem ok_X4_become : am_okM am_P inf_X4_become := ⟨by decide +kernel, by decide +kernel, by decide +kernel, am_allE (by decide +kernel)⟩
set_option maxRecDepth 100000 in
theorem ok_X5_init : am_okM am_P inf_X5_init := ⟨by decide +kernel, by decide +kernel, by decide +kernel, am_allE (by decide +kernel)⟩
set_option maxRecDepth 100000 in
theorem ok_X5_begin : am_okM am_P inf_X5_begin := ⟨by decide +kernel, by decide +kernel, by decide +kernel, am_allE (by decide +kernel)⟩
set_option maxRecDepth 100000 in
theorem ok_X5_cut : am_okM am_P inf_X5_cut := ⟨by decide +kernel, by decide +kernel, by decide +kernel, am_allE (by decide +kernel)⟩
set_option maxRecDepth 100000 in
theorem ok_X5_hasPart : am_okM am_P inf_X5_hasPart := ⟨by decide +kernel, by decide +kernel, by decide +kernel, am_allE (by decide +kernel)⟩
set_option maxRecDepth 100000 in
theorem ok_X6_init : am_okM am_P inf_X6_init := ⟨by decide +kernel, by decide +kernel, by decide +kernel, am_allE (by decide +kernel)⟩
set_option maxRecDepth 100000 in
theorem ok_X6_bird : am_okM am_P inf_X6_bird := ⟨by decide +kernel, by decide +kernel, by decide +kernel, am_allE (by decide +kernel)⟩
