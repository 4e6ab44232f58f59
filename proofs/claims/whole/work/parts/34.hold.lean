/-! the reference's price: a clause's tokens on the pile, the clauses one by one; only the pile changes -/
theorem av_kP (n : Nat) : av_k (no_index (@OfNat.ofNat Int n _)) = nI (OfNat.ofNat n) := av_kN n
theorem sp_factOf (L : av_W) (d : Nat) {N : av_N} {n day : Nat} {B : Nat → Nat → Nat} {cs : List (Nat × Nat × List Nat)} (hv : al_mv N n day B cs) {b f : Nat} (hb : b < n) (hf : f ≤ 5) : av_C (av_S0 L) d 146 [.ref 142, .int (nI f), .int (nI b)] N = some (some (.int (nI (sTr (B b) day f))), N) := by
  obtain ⟨hn, hm, hg, ⟨b0, hme⟩, hok, hd⟩ := hv
  obtain ⟨m1, m2, m3, m4, m5, m6, m7, m8⟩ := hm.2.2 b hb
  have hm1 := hm.2.1
  have e1 := (hok b hb).2
  apply eq_X7_factOf
  rcases (by omega : f = 0 ∨ f = 1 ∨ f = 2 ∨ f = 3 ∨ f = 4 ∨ f = 5) with rfl | rfl | rfl | rfl | rfl | rfl <;> simp (disch := omega) only [av_kP, nI_eq, nI_clamp, av_gx_s, m1, m2, m3, m5, hm1, av_nz_s, av_rem, sTr, e1] <;> rfl
def al_pl (N : av_N) : List Bool → Prop
  | [] => True
  | a :: s => N.1 160 s.length = av_b a ∧ al_pl N s
theorem al_pl_w {N : av_N} {j : Nat} {x : Int32} : ∀ {s : List Bool}, al_pl N s → s.length ≤ j → al_pl (av_w N 160 j x) s
  | [], _, _ => trivial
  | a :: s, h, hj => by
    rw [List.length_cons] at hj
    exact ⟨(av_w_k N 160 j x (by omega)).trans h.1, al_pl_w h.2 (by omega)⟩
def okT (T : List Value) : Prop := T = [am_junk, am_junk, am_junk] ∨ (∃ x, T = [.int x, am_junk, am_junk]) ∨ ∃ x y z, T = [.int x, .int y, .int z]
theorem av_dec (m : Nat) : nI (m + 1) + Int32.ofInt (-1) = nI m := by
  rw [← av_kN, ← av_kN]
  refine (Int32.ofInt_add _ _).symm.trans ?_
  show av_k _ = av_k _
  congr 1
  omega
theorem am_nar_b (b : Bool) : am_nar 103 (av_b b) = av_b b := by cases b <;> decide
theorem am_nar_1 : am_nar 103 (nI 1) = av_b true := by decide
theorem am_nar_0 : am_nar 103 (nI 0) = av_b false := by decide
theorem sTr_lt {B : Nat → Nat} (ok : al_ok B) (day f : Nat) (hd : day < 2 ^ 19) : sTr B day f < 2 ^ 31 := by
  obtain ⟨o1, o2, o3, o4, o5, o6, o7, o8, o9, o10, o11, o12⟩ := ok
  unfold sTr
  repeat' split
  all_goals omega
theorem ho_t95 {L : av_W} {d : Nat} {N : av_N} {c bb : Nat} {q : av_Q} {s : List Bool} {k u : Nat} {tr : Nat → Nat} (hs : s.length ≤ 90) (hu : u / 1000 ≤ 5) (hus : u / 100 % 10 ≤ 2) (htr : tr (u / 1000) < 2 ^ 31) (h : av_V (av_S0 L) (d + 1) ta_X7_holds 7 [.ref 142, .int (nI c), .int (nI bb), .int (nI (s.length + 1)), .int (nI (k + 1)), .int (nI u), .int (nI (tr (u / 1000))), .int (nI (u / 100 % 10))] [] (av_w N 160 s.length (av_b (sTest tr u))) = some q) : av_V (av_S0 L) (d + 1) ta_X7_holds 95 [.ref 142, .int (nI c), .int (nI bb), .int (nI s.length), .int (nI k), .int (nI u), .int (nI (tr (u / 1000))), .int (nI (u / 100 % 10))] [] N = some q := by
  have hn : u % 100 < 100 := Nat.mod_lt _ (by decide)
  have hul : u < 6000 := by omega
  unfold sTest at h
  apply eq_X7_holds_95 (d := d)
  rcases (by omega : u / 100 % 10 = 0 ∨ u / 100 % 10 = 1 ∨ u / 100 % 10 = 2) with e | e | e
  · rw [e] at h ⊢
    rw [av_kP, if_pos rfl]
    apply eq_X7_holds_100 (d := d)
    rw [av_kP, av_nz_s (by decide) (by decide), av_rem (by omega) (by decide)]
    simp (disch := omega) only [av_kP, av_gx_s, nI_clamp, nI_add, am_nar_1, am_nar_0, nI_ltI]
    by_cases h1 : tr (u / 1000) < u % 100
    · rw [if_pos h1]
      rw [if_pos rfl, decide_eq_true h1] at h
      exact h
    · rw [if_neg h1]
      rw [if_pos rfl, decide_eq_false h1] at h
      exact h
  · rw [e] at h ⊢
    rw [av_kP, if_neg (by decide)]
    apply eq_X7_holds_109 (d := d)
    rw [av_kP, if_pos rfl, av_kP, av_nz_s (by decide) (by decide), av_rem (by omega) (by decide)]
    simp (disch := omega) only [av_kP, av_gx_s, nI_clamp, nI_add, am_nar_1, am_nar_0, nI_eq]
    by_cases h1 : tr (u / 1000) = u % 100
    · rw [if_pos h1]
      rw [if_neg (by decide), if_pos rfl, decide_eq_true h1] at h
      exact h
    · rw [if_neg h1]
      rw [if_neg (by decide), if_pos rfl, decide_eq_false h1] at h
      exact h
  · rw [e] at h ⊢
    rw [av_kP, if_neg (by decide)]
    apply eq_X7_holds_109 (d := d)
    rw [av_kP, if_neg (by decide)]
    apply eq_X7_holds_121 (d := d)
    rw [av_kP, av_nz_s (by decide) (by decide), av_rem (by omega) (by decide)]
    simp (disch := omega) only [av_kP, av_gx_s, nI_clamp, nI_add, am_nar_1, am_nar_0, nI_ltI]
    by_cases h1 : u % 100 < tr (u / 1000)
    · rw [if_pos h1]
      rw [if_neg (by decide), if_neg (by decide), decide_eq_true h1] at h
      exact h
    · rw [if_neg h1]
      rw [if_neg (by decide), if_neg (by decide), decide_eq_false h1] at h
      exact h
theorem ho_and_j {L : av_W} {d : Nat} {c bb : Nat} {N : av_N} {q : av_Q} {a b : Bool} {s : List Bool} {k : Nat} (hs : s.length ≤ 90) (hp : al_pl N (b :: a :: s)) (h : av_V (av_S0 L) (d + 1) ta_X7_holds 7 [.ref 142, .int (nI c), .int (nI bb), .int (nI (s.length + 1)), .int (nI (k + 1)), .int (av_k (-38)), am_junk, am_junk] [] (av_w N 160 s.length (av_b (a && b))) = some q) : av_V (av_S0 L) (d + 1) ta_X7_holds 38 [.ref 142, .int (nI c), .int (nI bb), .int (nI (s.length + 2)), .int (nI k), .int (av_k (-38)), am_junk, am_junk] [] N = some q := by
  have p1 : N.1 160 (s.length + 1) = av_b b := hp.1
  have p2 : N.1 160 s.length = av_b a := hp.2.1
  have e63 : (a && b) = false → av_V (av_S0 L) (d + 1) ta_X7_holds 63 [.ref 142, .int (nI c), .int (nI bb), .int (nI (s.length + 1)), .int (nI k), .int (av_k (-38)), am_junk, am_junk] [.int (nI s.length), .ref 160] N = some q := by
    intro e
    apply eq_X7_holds_63 (d := d)
    rw [e] at h
    simp (disch := omega) only [av_kP, av_gx_s, nI_clamp, nI_add, am_nar_0]
    exact h
  apply eq_X7_holds_38 (d := d)
  rw [if_pos (by decide), av_dec]
  apply eq_X7_holds_41 (d := d)
  rw [if_pos rfl, av_kP, av_sub (by omega), Nat.add_sub_cancel]
  apply eq_X7_holds_49 (d := d)
  rw [av_kP, av_sub (by omega), Nat.add_sub_cancel, av_gx_s (by omega) (by omega), nI_clamp (by omega), p2, av_kP]
  simp only [av_b_0]
  cases a
  · rw [if_pos rfl]
    exact e63 rfl
  · rw [if_neg (by decide)]
    apply eq_X7_holds_56 (d := d)
    simp (disch := omega) only [av_kP, av_gx_s, nI_clamp, nI_add, am_nar_1, p1, av_b_0]
    cases b
    · rw [if_pos rfl]
      exact e63 rfl
    · rw [if_neg (by decide)]
      exact h
theorem ho_or_j {L : av_W} {d : Nat} {c bb : Nat} {N : av_N} {q : av_Q} {a b : Bool} {s : List Bool} {k : Nat} (hs : s.length ≤ 90) (hp : al_pl N (b :: a :: s)) (h : av_V (av_S0 L) (d + 1) ta_X7_holds 7 [.ref 142, .int (nI c), .int (nI bb), .int (nI (s.length + 1)), .int (nI (k + 1)), .int (av_k (-124)), am_junk, am_junk] [] (av_w N 160 s.length (av_b (a || b))) = some q) : av_V (av_S0 L) (d + 1) ta_X7_holds 38 [.ref 142, .int (nI c), .int (nI bb), .int (nI (s.length + 2)), .int (nI k), .int (av_k (-124)), am_junk, am_junk] [] N = some q := by
  have p1 : N.1 160 (s.length + 1) = av_b b := hp.1
  have p2 : N.1 160 s.length = av_b a := hp.2.1
  apply eq_X7_holds_38 (d := d)
  rw [if_pos (by decide), av_dec]
  apply eq_X7_holds_41 (d := d)
  rw [if_neg (by decide), av_kP, av_sub (by omega), Nat.add_sub_cancel]
  apply eq_X7_holds_65 (d := d)
  rw [av_kP, av_sub (by omega), Nat.add_sub_cancel]
  simp (disch := omega) only [av_kP, av_gx_s, nI_clamp, nI_add, am_nar_1, am_nar_0, p1, p2, av_b_0]
  cases a
  · rw [if_pos rfl]
    cases b
    · rw [if_pos rfl]
      exact h
    · rw [if_neg (by decide)]
      exact h
  · rw [if_neg (by decide)]
    exact h
theorem ho_test_j {L : av_W} {d : Nat} {N : av_N} {n day : Nat} {B : Nat → Nat → Nat} {cs : List (Nat × Nat × List Nat)} (hv : al_mv N n day B cs) {c bb : Nat} (hb : bb < n) {q : av_Q} {s : List Bool} {k u : Nat} (hs : s.length ≤ 90) (hu : u / 1000 ≤ 5) (hus : u / 100 % 10 ≤ 2) (h : av_V (av_S0 L) (d + 1) ta_X7_holds 7 [.ref 142, .int (nI c), .int (nI bb), .int (nI (s.length + 1)), .int (nI (k + 1)), .int (nI u), .int (nI (sTr (B bb) day (u / 1000))), .int (nI (u / 100 % 10))] [] (av_w N 160 s.length (av_b (sTest (sTr (B bb) day) u))) = some q) : av_V (av_S0 L) (d + 1) ta_X7_holds 38 [.ref 142, .int (nI c), .int (nI bb), .int (nI s.length), .int (nI k), .int (nI u), am_junk, am_junk] [] N = some q := by
  have htr := sTr_lt ((hv.2.2.2.2.1 bb hb).1) day (u / 1000) hv.2.2.2.2.2
  apply eq_X7_holds_38 (d := d)
  rw [av_kP, if_neg (nI_nlt (Nat.zero_le _) (by omega))]
  apply eq_X7_holds_82 (d := d)
  rw [av_kP, av_nz_s (by decide) (by decide), av_div (by omega) (by decide), sp_factOf L _ hv hb hu, av_bi_s, av_kP, av_kP, av_nz_s (by decide) (by decide), av_nz_s (by decide) (by decide), av_div (by omega) (by decide), av_rem (by omega) (by decide)]
  exact ho_t95 hs hu hus htr h
theorem ho_and_i {L : av_W} {d : Nat} {c bb : Nat} {N : av_N} {q : av_Q} {a b : Bool} {s : List Bool} {k : Nat} {x6 x7 : Int32} (hs : s.length ≤ 90) (hp : al_pl N (b :: a :: s)) (h : av_V (av_S0 L) (d + 1) ta_X7_holds 7 [.ref 142, .int (nI c), .int (nI bb), .int (nI (s.length + 1)), .int (nI (k + 1)), .int (av_k (-38)), .int x6, .int x7] [] (av_w N 160 s.length (av_b (a && b))) = some q) : av_V (av_S0 L) (d + 1) ta_X7_holds 38 [.ref 142, .int (nI c), .int (nI bb), .int (nI (s.length + 2)), .int (nI k), .int (av_k (-38)), .int x6, .int x7] [] N = some q := by
  have p1 : N.1 160 (s.length + 1) = av_b b := hp.1
  have p2 : N.1 160 s.length = av_b a := hp.2.1
  have e63 : (a && b) = false → av_V (av_S0 L) (d + 1) ta_X7_holds 63 [.ref 142, .int (nI c), .int (nI bb), .int (nI (s.length + 1)), .int (nI k), .int (av_k (-38)), .int x6, .int x7] [.int (nI s.length), .ref 160] N = some q := by
    intro e
    apply eq_X7_holds_63_b (d := d)
    rw [e] at h
    simp (disch := omega) only [av_kP, av_gx_s, nI_clamp, nI_add, am_nar_0]
    exact h
  apply eq_X7_holds_38_b (d := d)
  rw [if_pos (by decide), av_dec]
  apply eq_X7_holds_41_b (d := d)
  rw [if_pos rfl, av_kP, av_sub (by omega), Nat.add_sub_cancel]
  apply eq_X7_holds_49_b (d := d)
  rw [av_kP, av_sub (by omega), Nat.add_sub_cancel, av_gx_s (by omega) (by omega), nI_clamp (by omega), p2, av_kP]
  simp only [av_b_0]
  cases a
  · rw [if_pos rfl]
    exact e63 rfl
  · rw [if_neg (by decide)]
    apply eq_X7_holds_56_b (d := d)
    simp (disch := omega) only [av_kP, av_gx_s, nI_clamp, nI_add, am_nar_1, p1, av_b_0]
    cases b
    · rw [if_pos rfl]
      exact e63 rfl
    · rw [if_neg (by decide)]
      exact h
theorem ho_or_i {L : av_W} {d : Nat} {c bb : Nat} {N : av_N} {q : av_Q} {a b : Bool} {s : List Bool} {k : Nat} {x6 x7 : Int32} (hs : s.length ≤ 90) (hp : al_pl N (b :: a :: s)) (h : av_V (av_S0 L) (d + 1) ta_X7_holds 7 [.ref 142, .int (nI c), .int (nI bb), .int (nI (s.length + 1)), .int (nI (k + 1)), .int (av_k (-124)), .int x6, .int x7] [] (av_w N 160 s.length (av_b (a || b))) = some q) : av_V (av_S0 L) (d + 1) ta_X7_holds 38 [.ref 142, .int (nI c), .int (nI bb), .int (nI (s.length + 2)), .int (nI k), .int (av_k (-124)), .int x6, .int x7] [] N = some q := by
  have p1 : N.1 160 (s.length + 1) = av_b b := hp.1
  have p2 : N.1 160 s.length = av_b a := hp.2.1
  apply eq_X7_holds_38_b (d := d)
  rw [if_pos (by decide), av_dec]
  apply eq_X7_holds_41_b (d := d)
  rw [if_neg (by decide), av_kP, av_sub (by omega), Nat.add_sub_cancel]
  apply eq_X7_holds_65_b (d := d)
  rw [av_kP, av_sub (by omega), Nat.add_sub_cancel]
  simp (disch := omega) only [av_kP, av_gx_s, nI_clamp, nI_add, am_nar_1, am_nar_0, p1, p2, av_b_0]
  cases a
  · rw [if_pos rfl]
    cases b
    · rw [if_pos rfl]
      exact h
    · rw [if_neg (by decide)]
      exact h
  · rw [if_neg (by decide)]
    exact h
theorem ho_test_i {L : av_W} {d : Nat} {N : av_N} {n day : Nat} {B : Nat → Nat → Nat} {cs : List (Nat × Nat × List Nat)} (hv : al_mv N n day B cs) {c bb : Nat} (hb : bb < n) {q : av_Q} {s : List Bool} {k u : Nat} {x6 x7 : Int32} (hs : s.length ≤ 90) (hu : u / 1000 ≤ 5) (hus : u / 100 % 10 ≤ 2) (h : av_V (av_S0 L) (d + 1) ta_X7_holds 7 [.ref 142, .int (nI c), .int (nI bb), .int (nI (s.length + 1)), .int (nI (k + 1)), .int (nI u), .int (nI (sTr (B bb) day (u / 1000))), .int (nI (u / 100 % 10))] [] (av_w N 160 s.length (av_b (sTest (sTr (B bb) day) u))) = some q) : av_V (av_S0 L) (d + 1) ta_X7_holds 38 [.ref 142, .int (nI c), .int (nI bb), .int (nI s.length), .int (nI k), .int (nI u), .int x6, .int x7] [] N = some q := by
  have htr := sTr_lt ((hv.2.2.2.2.1 bb hb).1) day (u / 1000) hv.2.2.2.2.2
  apply eq_X7_holds_38_b (d := d)
  rw [av_kP, if_neg (nI_nlt (Nat.zero_le _) (by omega))]
  apply eq_X7_holds_82_b (d := d)
  rw [av_kP, av_nz_s (by decide) (by decide), av_div (by omega) (by decide), sp_factOf L _ hv hb hu, av_bi_s, av_kP, av_kP, av_nz_s (by decide) (by decide), av_nz_s (by decide) (by decide), av_div (by omega) (by decide), av_rem (by omega) (by decide)]
  exact ho_t95 hs hu hus htr h
