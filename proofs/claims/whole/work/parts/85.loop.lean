/-! the law's loop: it goes on while the answers are alike, and they are -/
def lz_G (o : Option av_Q) : Prop := ∃ N', o = some (some (.int (nI 1)), N')
theorem lz_of {A B : Option av_Q} (e : ∀ q, A = some q → B = some q) (h : lz_G A) : lz_G B := by
  obtain ⟨N', h⟩ := h
  exact ⟨N', e _ h⟩
theorem lz_if {P : Prop} [Decidable P] {a b : Option av_Q} (ha : P → lz_G a) (hb : ¬ P → lz_G b) : lz_G (if P then a else b) := by
  by_cases h : P
  · rw [if_pos h]
    exact ha h
  · rw [if_neg h]
    exact hb h
theorem lz_gx {j : Int32} {n : Nat} {o : Option av_Q} (hj : ¬ j < 0 ∧ j.toNatClampNeg < n) (h : lz_G o) : lz_G (av_gx j n o) := by
  unfold av_gx
  rw [if_pos hj]
  exact h
theorem lz_call {L : av_W} {d : Nat} {N : av_N} {mc mm : Nat} {ac am : List Value} (h : al_call L d N mc ac mm am) (hk : rt_all rt_int mc = true) {f : Int32 → av_N → Option av_Q} (hf : ∀ z N1, N1.1 8 = N.1 8 → (∃ N2, av_C (av_S0 L) d mm am N1 = some (some (.int z), N2) ∧ RR N2) → lz_G (f z N1)) : lz_G (av_bi (av_C (av_S0 L) d mc ac N) f) := by
  obtain ⟨v, N1, N2, h1, h2, h3, h4⟩ := h
  obtain ⟨z, hz⟩ := rt_C rt_ri hk h1
  cases hz
  rw [h1, av_bi_s]
  exact hf z N1 (funext h4) ⟨N2, h2, h3⟩
theorem lz_callL {L : av_W} {d : Nat} {N : av_N} {mc mm : Nat} {ac am : List Value} (h : al_call L d N mc ac mm am) (hk : rt_all rt_long mc = true) {f : Int64 → av_N → Option av_Q} (hf : ∀ z N1, N1.1 8 = N.1 8 → (∃ N2, av_C (av_S0 L) d mm am N1 = some (some (.long z), N2) ∧ RR N2) → lz_G (f z N1)) : lz_G (av_bl (av_C (av_S0 L) d mc ac N) f) := by
  obtain ⟨v, N1, N2, h1, h2, h3, h4⟩ := h
  obtain ⟨z, hz⟩ := rt_C rt_rl hk h1
  cases hz
  rw [h1, av_bl_s]
  exact hf z N1 (funext h4) ⟨N2, h2, h3⟩
theorem lz_two {S : av_S} {d mm : Nat} {am : List Value} {z : Int32} {N1 N2 : av_N} (h : av_C S d mm am N1 = some (some (.int z), N2)) {g g' : av_N → Option av_Q} (hg : lz_G (g N2)) : lz_G (av_bi (av_C S d mm am N1) fun z2 N3 => if z = z2 then g N3 else g' N3) := by
  rw [h, av_bi_s, if_pos rfl]
  exact hg
theorem lz_cmp (z : Int64) : lg_cmp z z = av_k 0 := by
  unfold lg_cmp
  rw [if_neg (by exact Int64.lt_irrefl), if_pos rfl]
  decide
theorem lz_twoL {S : av_S} {d mm : Nat} {am : List Value} {z : Int64} {N1 N2 : av_N} (h : av_C S d mm am N1 = some (some (.long z), N2)) {g g' : av_N → Option av_Q} (hg : lz_G (g N2)) : lz_G (av_bl (av_C S d mm am N1) fun z2 N3 => if lg_cmp z z2 = av_k 0 then g N3 else g' N3) := by
  rw [h, av_bl_s, if_pos (lz_cmp z)]
  exact hg
theorem lz_b0 : av_k 0 = nI 0 := by decide
theorem lz_b1 : av_k 1 = nI 1 := by decide
theorem lz_evict {L : av_W} {d : Nat} {x : Int32} {N : av_N} (hR : RR N) (hx1 : ¬ (x + av_k 1) < 0 ∧ (x + av_k 1).toNatClampNeg < L.1.1) (hx2 : ¬ (x + av_k 2) < 0 ∧ (x + av_k 2).toNatClampNeg < L.1.1) (hgo : ∀ N2, RR N2 → lz_G (av_V (av_S0 L) (d + 20 + 1) ta_L_law 10 [.ref 8, .ref 9, .ref 142, .int (x + av_k 7)] [] N2)) (h : N.1 8 (x + av_k 2).toNatClampNeg = av_k 0) : lz_G (av_V (av_S0 L) (d + 20 + 1) ta_L_law 168 [.ref 8, .ref 9, .ref 142, .int x] [.int (av_k 0), .int (N.1 8 (x + av_k 1).toNatClampNeg), .ref 9] N) := by
  refine lz_of (fun q => eq_L_law_168 L (d + 20) x _ _ N (q := q)) ?_
  rw [lz_b0]
  refine lz_call (cl_evict L d hR _ (z := 0) (by decide)) (rt_ints 50 (by decide)) ?_
  intro z N1 h8 ⟨N2, h2, h3⟩
  refine lz_gx hx1 (lz_gx hx2 (lz_if (fun _ => ?_) (fun w => absurd (by rw [h8]; exact h.trans lz_b0) w)))
  rw [h8]
  exact lz_two h2 (hgo N2 h3)
theorem lz_evict1 {L : av_W} {d : Nat} {x : Int32} {N : av_N} (hR : RR N) (hx1 : ¬ (x + av_k 1) < 0 ∧ (x + av_k 1).toNatClampNeg < L.1.1) (hx2 : ¬ (x + av_k 2) < 0 ∧ (x + av_k 2).toNatClampNeg < L.1.1) (hgo : ∀ N2, RR N2 → lz_G (av_V (av_S0 L) (d + 20 + 1) ta_L_law 10 [.ref 8, .ref 9, .ref 142, .int (x + av_k 7)] [] N2)) (h : ¬ N.1 8 (x + av_k 2).toNatClampNeg = av_k 0) : lz_G (av_V (av_S0 L) (d + 20 + 1) ta_L_law 168 [.ref 8, .ref 9, .ref 142, .int x] [.int (av_k 1), .int (N.1 8 (x + av_k 1).toNatClampNeg), .ref 9] N) := by
  refine lz_of (fun q => eq_L_law_168 L (d + 20) x _ _ N (q := q)) ?_
  rw [show (Value.int (av_k 1)) = Value.int (nI 1) from congrArg Value.int lz_b1]
  refine lz_call (cl_evict L d hR _ (z := 1) (by decide)) (rt_ints 50 (by decide)) ?_
  intro z N1 h8 ⟨N2, h2, h3⟩
  refine lz_gx hx1 (lz_gx hx2 (lz_if (fun w => absurd (by rw [h8] at w; exact w) h) (fun _ => ?_)))
  rw [h8]
  exact lz_two h2 (hgo N2 h3)
theorem lz_see {L : av_W} {d : Nat} {x : Int32} {N : av_N} (hR : RR N) (hx1 : ¬ (x + av_k 1) < 0 ∧ (x + av_k 1).toNatClampNeg < L.1.1) (hx2 : ¬ (x + av_k 2) < 0 ∧ (x + av_k 2).toNatClampNeg < L.1.1) (hx3 : ¬ (x + av_k 3) < 0 ∧ (x + av_k 3).toNatClampNeg < L.1.1) (hx4 : ¬ (x + av_k 4) < 0 ∧ (x + av_k 4).toNatClampNeg < L.1.1) (hgo : ∀ N2, RR N2 → lz_G (av_V (av_S0 L) (d + 20 + 1) ta_L_law 10 [.ref 8, .ref 9, .ref 142, .int (x + av_k 7)] [] N2)) (h : N.1 8 (x + av_k 3).toNatClampNeg = av_k 0) : lz_G (av_V (av_S0 L) (d + 20 + 1) ta_L_law 538 [.ref 8, .ref 9, .ref 142, .int x] [.int (av_k 0), .int (N.1 8 (x + av_k 2).toNatClampNeg), .int (N.1 8 (x + av_k 1).toNatClampNeg), .ref 9] N) := by
  refine lz_of (fun q => eq_L_law_538 L (d + 20) x _ _ _ N (q := q)) (lz_gx hx4 ?_)
  rw [lz_b0]
  refine lz_call (cl_see L d hR _ _ (z := 0) (by decide) _) (rt_ints 68 (by decide)) ?_
  intro z N1 h8 ⟨N2, h2, h3⟩
  refine lz_gx hx1 (lz_gx hx2 (lz_gx hx3 (lz_if (fun _ => ?_) (fun w => absurd (by rw [h8]; exact h.trans lz_b0) w))))
  rw [h8]
  exact lz_gx hx4 (lz_two h2 (hgo N2 h3))
theorem lz_see1 {L : av_W} {d : Nat} {x : Int32} {N : av_N} (hR : RR N) (hx1 : ¬ (x + av_k 1) < 0 ∧ (x + av_k 1).toNatClampNeg < L.1.1) (hx2 : ¬ (x + av_k 2) < 0 ∧ (x + av_k 2).toNatClampNeg < L.1.1) (hx3 : ¬ (x + av_k 3) < 0 ∧ (x + av_k 3).toNatClampNeg < L.1.1) (hx4 : ¬ (x + av_k 4) < 0 ∧ (x + av_k 4).toNatClampNeg < L.1.1) (hgo : ∀ N2, RR N2 → lz_G (av_V (av_S0 L) (d + 20 + 1) ta_L_law 10 [.ref 8, .ref 9, .ref 142, .int (x + av_k 7)] [] N2)) (h : ¬ N.1 8 (x + av_k 3).toNatClampNeg = av_k 0) : lz_G (av_V (av_S0 L) (d + 20 + 1) ta_L_law 538 [.ref 8, .ref 9, .ref 142, .int x] [.int (av_k 1), .int (N.1 8 (x + av_k 2).toNatClampNeg), .int (N.1 8 (x + av_k 1).toNatClampNeg), .ref 9] N) := by
  refine lz_of (fun q => eq_L_law_538 L (d + 20) x _ _ _ N (q := q)) (lz_gx hx4 ?_)
  rw [show (Value.int (av_k 1)) = Value.int (nI 1) from congrArg Value.int lz_b1]
  refine lz_call (cl_see L d hR _ _ (z := 1) (by decide) _) (rt_ints 68 (by decide)) ?_
  intro z N1 h8 ⟨N2, h2, h3⟩
  refine lz_gx hx1 (lz_gx hx2 (lz_gx hx3 (lz_if (fun w => absurd (by rw [h8] at w; exact w) h) (fun _ => ?_))))
  rw [h8]
  exact lz_gx hx4 (lz_two h2 (hgo N2 h3))
set_option maxHeartbeats 4000000 in
theorem lz_step (L : av_W) (d : Nat) (x : Int32) (N : av_N) (hR : RR N) (h0 : ¬ (Int32.ofNat L.1.1 - av_k 7 < x)) (hx0 : ¬ x < 0 ∧ x.toNatClampNeg < L.1.1) (hx1 : ¬ (x + av_k 1) < 0 ∧ (x + av_k 1).toNatClampNeg < L.1.1) (hx2 : ¬ (x + av_k 2) < 0 ∧ (x + av_k 2).toNatClampNeg < L.1.1) (hx3 : ¬ (x + av_k 3) < 0 ∧ (x + av_k 3).toNatClampNeg < L.1.1) (hx4 : ¬ (x + av_k 4) < 0 ∧ (x + av_k 4).toNatClampNeg < L.1.1) (hx5 : ¬ (x + av_k 5) < 0 ∧ (x + av_k 5).toNatClampNeg < L.1.1) (hx6 : ¬ (x + av_k 6) < 0 ∧ (x + av_k 6).toNatClampNeg < L.1.1) (hgo : ∀ N2, RR N2 → lz_G (av_V (av_S0 L) (d + 20 + 1) ta_L_law 10 [.ref 8, .ref 9, .ref 142, .int (x + av_k 7)] [] N2)) : lz_G (av_V (av_S0 L) (d + 20 + 1) ta_L_law 10 [.ref 8, .ref 9, .ref 142, .int x] [] N) := by
  refine lz_of (fun q => eq_L_law_10 L (d + 20) x N (q := q)) (lz_if (fun h => absurd h h0) (fun _ => lz_gx hx0 ?_))
  refine lz_if (fun _ => ?_) (fun _ => ?_)
  · refine lz_gx hx1 (lz_gx hx2 (lz_gx hx3 (lz_gx hx4 (lz_gx hx5 (lz_gx hx6 (lz_call (cl_bird L d hR _ _ _ _ _ _) (rt_ints 47 (by decide)) ?_))))))
    intro z N1 h8 ⟨N2, h2, h3⟩
    rw [h8]
    exact lz_gx hx1 (lz_gx hx2 (lz_gx hx3 (lz_gx hx4 (lz_gx hx5 (lz_gx hx6 (lz_two h2 (hgo N2 h3)))))))
  refine lz_if (fun _ => ?_) (fun _ => ?_)
  · refine lz_gx hx1 (lz_gx hx2 (lz_call (cl_of L d hR _ _) (rt_ints 48 (by decide)) ?_))
    intro z N1 h8 ⟨N2, h2, h3⟩
    rw [h8]
    exact lz_gx hx1 (lz_gx hx2 (lz_two h2 (hgo N2 h3)))
  refine lz_if (fun _ => ?_) (fun _ => ?_)
  · refine lz_gx hx1 (lz_gx hx2 (lz_gx hx3 (lz_call (cl_set L d hR _ _ _) (rt_ints 49 (by decide)) ?_)))
    intro z N1 h8 ⟨N2, h2, h3⟩
    rw [h8]
    exact lz_gx hx1 (lz_gx hx2 (lz_gx hx3 (lz_two h2 (hgo N2 h3))))
  refine lz_if (fun _ => lz_gx hx1 (lz_gx hx2 (lz_if (fun h => lz_evict hR hx1 hx2 hgo h) (fun h => lz_evict1 hR hx1 hx2 hgo h)))) (fun _ => ?_)
  refine lz_if (fun _ => ?_) (fun _ => ?_)
  · refine lz_gx hx1 (lz_gx hx2 (lz_gx hx3 (lz_call (cl_row L d hR _ _ _) (rt_ints 51 (by decide)) ?_)))
    intro z N1 h8 ⟨N2, h2, h3⟩
    rw [h8]
    exact lz_gx hx1 (lz_gx hx2 (lz_gx hx3 (lz_two h2 (hgo N2 h3))))
  refine lz_if (fun _ => ?_) (fun _ => ?_)
  · refine lz_gx hx1 (lz_call (cl_feed L d hR _) (rt_ints 52 (by decide)) ?_)
    intro z N1 h8 ⟨N2, h2, h3⟩
    rw [h8]
    exact lz_gx hx1 (lz_two h2 (hgo N2 h3))
  refine lz_if (fun _ => ?_) (fun _ => ?_)
  · refine lz_call (cl_estuary L d hR) (rt_ints 53 (by decide)) ?_
    intro z N1 h8 ⟨N2, h2, h3⟩
    exact lz_two h2 (hgo N2 h3)
  refine lz_if (fun _ => ?_) (fun _ => ?_)
  · refine lz_gx hx1 (lz_call (cl_told L d hR _) (rt_ints 54 (by decide)) ?_)
    intro z N1 h8 ⟨N2, h2, h3⟩
    rw [h8]
    exact lz_gx hx1 (lz_two h2 (hgo N2 h3))
  refine lz_if (fun _ => ?_) (fun _ => ?_)
  · refine lz_gx hx1 (lz_gx hx2 (lz_call (cl_held L d hR _ _) (rt_ints 55 (by decide)) ?_))
    intro z N1 h8 ⟨N2, h2, h3⟩
    rw [h8]
    exact lz_gx hx1 (lz_gx hx2 (lz_two h2 (hgo N2 h3)))
  refine lz_if (fun _ => ?_) (fun _ => ?_)
  · refine lz_gx hx1 (lz_call (cl_free L d hR _) (rt_ints 56 (by decide)) ?_)
    intro z N1 h8 ⟨N2, h2, h3⟩
    rw [h8]
    exact lz_gx hx1 (lz_two h2 (hgo N2 h3))
  refine lz_if (fun _ => ?_) (fun _ => ?_)
  · refine lz_gx hx1 (lz_gx hx2 (lz_call (cl_clash L d hR _ _) (rt_ints 57 (by decide)) ?_))
    intro z N1 h8 ⟨N2, h2, h3⟩
    rw [h8]
    exact lz_gx hx1 (lz_gx hx2 (lz_two h2 (hgo N2 h3)))
  refine lz_if (fun _ => ?_) (fun _ => ?_)
  · refine lz_call (cl_worst L d hR) (rt_ints 58 (by decide)) ?_
    intro z N1 h8 ⟨N2, h2, h3⟩
    exact lz_two h2 (hgo N2 h3)
  refine lz_if (fun _ => ?_) (fun _ => ?_)
  · refine lz_gx hx1 (lz_call (cl_pass L d hR _) (rt_ints 59 (by decide)) ?_)
    intro z N1 h8 ⟨N2, h2, h3⟩
    rw [h8]
    exact lz_gx hx1 (lz_two h2 (hgo N2 h3))
  refine lz_if (fun _ => ?_) (fun _ => ?_)
  · refine lz_gx hx1 (lz_gx hx2 (lz_call (cl_on L d hR _ _) (rt_ints 60 (by decide)) ?_))
    intro z N1 h8 ⟨N2, h2, h3⟩
    rw [h8]
    exact lz_gx hx1 (lz_gx hx2 (lz_two h2 (hgo N2 h3)))
  refine lz_if (fun _ => ?_) (fun _ => ?_)
  · refine lz_gx hx1 (lz_call (cl_empty L d hR _) (rt_ints 61 (by decide)) ?_)
    intro z N1 h8 ⟨N2, h2, h3⟩
    rw [h8]
    exact lz_gx hx1 (lz_two h2 (hgo N2 h3))
  refine lz_if (fun _ => ?_) (fun _ => ?_)
  · refine lz_gx hx1 (lz_gx hx2 (lz_call (cl_lower L d hR _ _) (rt_ints 62 (by decide)) ?_))
    intro z N1 h8 ⟨N2, h2, h3⟩
    rw [h8]
    exact lz_gx hx1 (lz_gx hx2 (lz_two h2 (hgo N2 h3)))
  refine lz_if (fun _ => ?_) (fun _ => ?_)
  · refine lz_gx hx1 (lz_gx hx2 (lz_call (cl_sooner L d hR _ _) (rt_ints 63 (by decide)) ?_))
    intro z N1 h8 ⟨N2, h2, h3⟩
    rw [h8]
    exact lz_gx hx1 (lz_gx hx2 (lz_two h2 (hgo N2 h3)))
  refine lz_if (fun _ => ?_) (fun _ => ?_)
  · refine lz_gx hx1 (lz_call (cl_let L d hR _) (rt_ints 64 (by decide)) ?_)
    intro z N1 h8 ⟨N2, h2, h3⟩
    rw [h8]
    exact lz_gx hx1 (lz_two h2 (hgo N2 h3))
  refine lz_if (fun _ => ?_) (fun _ => ?_)
  · refine lz_call (cl_whoEvict L d hR) (rt_ints 65 (by decide)) ?_
    intro z N1 h8 ⟨N2, h2, h3⟩
    exact lz_two h2 (hgo N2 h3)
  refine lz_if (fun _ => ?_) (fun _ => ?_)
  · refine lz_gx hx1 (lz_callL (cl_ways L d hR _) (rt_longs 66 (by decide)) ?_)
    intro z N1 h8 ⟨N2, h2, h3⟩
    rw [h8]
    exact lz_gx hx1 (lz_twoL h2 (hgo N2 h3))
  refine lz_if (fun _ => ?_) (fun _ => ?_)
  · refine lz_gx hx1 (lz_call (cl_outs L d hR _) (rt_ints 67 (by decide)) ?_)
    intro z N1 h8 ⟨N2, h2, h3⟩
    rw [h8]
    exact lz_gx hx1 (lz_two h2 (hgo N2 h3))
  refine lz_if (fun _ => lz_gx hx1 (lz_gx hx2 (lz_gx hx3 (lz_if (fun h => lz_see hR hx1 hx2 hx3 hx4 hgo h) (fun h => lz_see1 hR hx1 hx2 hx3 hx4 hgo h))))) (fun _ => ?_)
  refine lz_if (fun _ => ?_) (fun _ => ?_)
  · refine lz_gx hx1 (lz_gx hx2 (lz_call (cl_can L d hR _ _) (rt_ints 69 (by decide)) ?_))
    intro z N1 h8 ⟨N2, h2, h3⟩
    rw [h8]
    exact lz_gx hx1 (lz_gx hx2 (lz_two h2 (hgo N2 h3)))
  refine lz_if (fun _ => ?_) (fun _ => ?_)
  · refine lz_gx hx1 (lz_gx hx2 (lz_callL (cl_odds L d hR _ _) (rt_longs 70 (by decide)) ?_))
    intro z N1 h8 ⟨N2, h2, h3⟩
    rw [h8]
    exact lz_gx hx1 (lz_gx hx2 (lz_twoL h2 (hgo N2 h3)))
  refine lz_if (fun _ => ?_) (fun _ => ?_)
  · refine lz_gx hx1 (lz_callL (cl_mean L d hR _) (rt_longs 71 (by decide)) ?_)
    intro z N1 h8 ⟨N2, h2, h3⟩
    rw [h8]
    exact lz_gx hx1 (lz_twoL h2 (hgo N2 h3))
  refine lz_if (fun _ => ?_) (fun _ => ?_)
  · refine lz_gx hx1 (lz_gx hx2 (lz_gx hx3 (lz_call (cl_lease L d hR _ _ _) (rt_ints 72 (by decide)) ?_)))
    intro z N1 h8 ⟨N2, h2, h3⟩
    rw [h8]
    exact lz_gx hx1 (lz_gx hx2 (lz_gx hx3 (lz_two h2 (hgo N2 h3))))
  refine lz_if (fun _ => ?_) (fun _ => ?_)
  · refine lz_gx hx1 (lz_call (cl_leased L d hR _) (rt_ints 73 (by decide)) ?_)
    intro z N1 h8 ⟨N2, h2, h3⟩
    rw [h8]
    exact lz_gx hx1 (lz_two h2 (hgo N2 h3))
  refine lz_if (fun _ => ?_) (fun _ => ?_)
  · refine lz_gx hx1 (lz_gx hx2 (lz_call (cl_book L d hR _ _) (rt_ints 74 (by decide)) ?_))
    intro z N1 h8 ⟨N2, h2, h3⟩
    rw [h8]
    exact lz_gx hx1 (lz_gx hx2 (lz_two h2 (hgo N2 h3)))
  refine lz_if (fun _ => ?_) (fun _ => ?_)
  · refine lz_call (cl_looked L d hR) (rt_ints 75 (by decide)) ?_
    intro z N1 h8 ⟨N2, h2, h3⟩
    exact lz_two h2 (hgo N2 h3)
  refine lz_if (fun _ => ?_) (fun _ => ?_)
  · refine lz_gx hx1 (lz_gx hx2 (lz_call (cl_judge L d hR _ _) (rt_ints 76 (by decide)) ?_))
    intro z N1 h8 ⟨N2, h2, h3⟩
    rw [h8]
    exact lz_gx hx1 (lz_gx hx2 (lz_two h2 (hgo N2 h3)))
  refine lz_if (fun _ => ?_) (fun _ => ?_)
  · refine lz_call (cl_image L d hR) (rt_ints 77 (by decide)) ?_
    intro z N1 h8 ⟨N2, h2, h3⟩
    exact lz_two h2 (hgo N2 h3)
  refine lz_if (fun _ => ?_) (fun _ => ?_)
  · refine lz_call (cl_undo L d hR) (rt_ints 78 (by decide)) ?_
    intro z N1 h8 ⟨N2, h2, h3⟩
    exact lz_two h2 (hgo N2 h3)
  refine lz_if (fun _ => ?_) (fun _ => ?_)
  · refine lz_gx hx1 (lz_gx hx2 (lz_gx hx3 (lz_call (cl_act L d hR _ _ _) (rt_ints 79 (by decide)) ?_)))
    intro z N1 h8 ⟨N2, h2, h3⟩
    rw [h8]
    exact lz_gx hx1 (lz_gx hx2 (lz_gx hx3 (lz_two h2 (hgo N2 h3))))
  refine lz_if (fun _ => ?_) (fun _ => ?_)
  · refine lz_gx hx1 (lz_call (cl_trace L d hR _) (rt_ints 80 (by decide)) ?_)
    intro z N1 h8 ⟨N2, h2, h3⟩
    rw [h8]
    exact lz_gx hx1 (lz_two h2 (hgo N2 h3))
  refine lz_if (fun _ => ?_) (fun _ => ?_)
  · refine lz_gx hx1 (lz_gx hx2 (lz_call (cl_taken L d hR _ _) (rt_ints 81 (by decide)) ?_))
    intro z N1 h8 ⟨N2, h2, h3⟩
    rw [h8]
    exact lz_gx hx1 (lz_gx hx2 (lz_two h2 (hgo N2 h3)))
  refine lz_if (fun _ => ?_) (fun _ => ?_)
  · refine lz_gx hx1 (lz_call (cl_count L d hR _) (rt_ints 82 (by decide)) ?_)
    intro z N1 h8 ⟨N2, h2, h3⟩
    rw [h8]
    exact lz_gx hx1 (lz_two h2 (hgo N2 h3))
  refine lz_if (fun _ => ?_) (fun _ => ?_)
  · refine lz_gx hx1 (lz_gx hx2 (lz_gx hx3 (lz_call (cl_tape L d hR _ _ _) (rt_ints 83 (by decide)) ?_)))
    intro z N1 h8 ⟨N2, h2, h3⟩
    rw [h8]
    exact lz_gx hx1 (lz_gx hx2 (lz_gx hx3 (lz_two h2 (hgo N2 h3))))
  refine lz_if (fun _ => ?_) (fun _ => ?_)
  · refine lz_gx hx1 (lz_gx hx2 (lz_gx hx3 (lz_gx hx4 (lz_call (cl_item L d hR _ _ _) (rt_ints 84 (by decide)) ?_))))
    intro z N1 h8 ⟨N2, h2, h3⟩
    rw [h8]
    exact lz_gx hx1 (lz_gx hx2 (lz_gx hx3 (lz_gx hx4 (lz_two h2 (hgo N2 h3)))))
  refine lz_if (fun _ => ?_) (fun _ => ?_)
  · refine lz_gx hx1 (lz_gx hx2 (lz_callL (cl_read L d hR _ _) (rt_longs 85 (by decide)) ?_))
    intro z N1 h8 ⟨N2, h2, h3⟩
    rw [h8]
    exact lz_gx hx1 (lz_gx hx2 (lz_twoL h2 (hgo N2 h3)))
  refine lz_if (fun _ => ?_) (fun _ => ?_)
  · refine lz_gx hx1 (lz_gx hx2 (lz_gx hx3 (lz_gx hx4 (lz_gx hx5 (lz_call (cl_shift L d hR _ _ _ _ _) (rt_ints 86 (by decide)) ?_)))))
    intro z N1 h8 ⟨N2, h2, h3⟩
    rw [h8]
    exact lz_gx hx1 (lz_gx hx2 (lz_gx hx3 (lz_gx hx4 (lz_gx hx5 (lz_two h2 (hgo N2 h3))))))
  exact hgo N hR
theorem lz_exit {L i : Nat} (hL : L ≤ 3584) (hi : i ≤ 3600) : (Int32.ofNat L - av_k 7 < nI i) ↔ L < i + 7 := by
  have e7 : av_k 7 = nI 7 := by decide
  have e1 : (Int32.ofNat L) = av_k (L : Int) := (av_kN L).symm
  rw [e7, e1, av_ksub, ← av_kN i, av_kk (by omega) (by omega)]
  omega
theorem lz_x {L : av_W} (hL : L.1.1 ≤ 3584) {i k : Nat} (h : i + k < L.1.1) : ¬ (nI i + av_k (k : Int)) < 0 ∧ (nI i + av_k (k : Int)).toNatClampNeg < L.1.1 := by
  rw [av_kN, nI_add]
  have hj : i + k < 2 ^ 31 := by omega
  exact ⟨nI_pos hj, by rw [nI_clamp hj]; exact h⟩
theorem lz_loop (L : av_W) (hL : L.1.1 ≤ 3584) (d : Nat) : ∀ (m i : Nat) (N : av_N), RR N → L.1.1 ≤ i + m → i ≤ 3600 → lz_G (av_V (av_S0 L) (d + 20 + 1) ta_L_law 10 [.ref 8, .ref 9, .ref 142, .int (nI i)] [] N) := by
  have hend : ∀ (i : Nat) (N : av_N), i ≤ 3600 → L.1.1 < i + 7 → lz_G (av_V (av_S0 L) (d + 20 + 1) ta_L_law 10 [.ref 8, .ref 9, .ref 142, .int (nI i)] [] N) := by
    intro i N hi h
    refine lz_of (fun q => eq_L_law_10 L (d + 20) (nI i) N (q := q)) (lz_if (fun _ => ?_) (fun w => absurd ((lz_exit hL hi).mpr h) w))
    rw [lz_b1, av_bt_1]
    exact ⟨N, rfl⟩
  intro m
  induction m with
  | zero => intro i N hR h1 h2; exact hend i N h2 (by omega)
  | succ m ih =>
    intro i N hR h1 h2
    by_cases h : i + 7 ≤ L.1.1
    · have hi : i < 2 ^ 31 := by omega
      refine lz_step L d (nI i) N hR (fun w => absurd ((lz_exit hL h2).mp w) (by omega)) ⟨nI_pos hi, by rw [nI_clamp hi]; omega⟩ (lz_x (k := 1) hL (by omega)) (lz_x (k := 2) hL (by omega)) (lz_x (k := 3) hL (by omega)) (lz_x (k := 4) hL (by omega)) (lz_x (k := 5) hL (by omega)) (lz_x (k := 6) hL (by omega)) ?_
      intro N2 hR2
      rw [show av_k 7 = nI 7 from by decide, nI_add]
      exact ih (i + 7) N2 hR2 (by omega) (by omega)
    · exact hend i N h2 (by omega)
theorem lz_all (L : Nat) (xs : Nat → Int32) (hL : L ≤ 3584) : ∃ N', av_V (av_S0 (ag_W L xs)) 1400 ta_L_law 8 [.ref 8, .ref 9, .ref 142, am_junk] [] (ag_N L xs) = some (some (.int 1), N') := by
  have e0 : av_k 0 = nI 0 := by decide
  obtain ⟨N', h⟩ := lz_loop (ag_W L xs) hL 1379 L 0 (ag_N L xs) (ag_RR L xs) (Nat.le_add_left _ _) (by decide)
  refine ⟨N', eq_L_law_8 (ag_W L xs) 1399 (ag_N L xs) ?_⟩
  rw [e0]
  exact h
