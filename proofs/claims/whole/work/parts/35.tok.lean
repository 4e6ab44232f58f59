theorem al_fr_k {p : Nat} {N N' : av_N} (h : al_fr (fun q => q = p) N N') {q k : Nat} (hq : q ≠ p) : N'.1 q k = N.1 q k := (h q hq k).1
theorem al_fr_w1 (N : av_N) (p k : Nat) (x : Int32) : al_fr (fun q => q = p) N (av_w N p k x) := al_fr_w (D := fun q => q = p) N rfl k x
theorem al_md_fr {N N' : av_N} {n day : Nat} {B : Nat → Nat → Nat} (h : al_md N n day B) (hf : ∀ q k, 142 ≤ q → q ≤ 150 → N'.1 q k = N.1 q k) : al_md N' n day B := by
  obtain ⟨h1, h2, h3⟩ := h
  refine ⟨(hf 142 0 (by decide) (by decide)).trans h1, (hf 142 1 (by decide) (by decide)).trans h2, fun b hb => ?_⟩
  obtain ⟨m1, m2, m3, m4, m5, m6, m7, m8⟩ := h3 b hb
  exact ⟨(hf _ _ (by decide) (by decide)).trans m1, (hf _ _ (by decide) (by decide)).trans m2, (hf _ _ (by decide) (by decide)).trans m3, (hf _ _ (by decide) (by decide)).trans m4, (hf _ _ (by decide) (by decide)).trans m5, (hf _ _ (by decide) (by decide)).trans m6, (hf _ _ (by decide) (by decide)).trans m7, fun j hj => (hf _ _ (by decide) (by decide)).trans (m8 j hj)⟩
theorem al_mc_fr {N N' : av_N} {b0 : Nat} {cs : List (Nat × Nat × List Nat)} (h : al_mc N b0 cs) (hf : ∀ q k, 153 ≤ q → q ≤ 157 → N'.1 q k = N.1 q k) : al_mc N' b0 cs := by
  refine ⟨h.1, fun c hc => ?_⟩
  obtain ⟨h1, h2, h3⟩ := h.2 c hc
  refine ⟨(hf _ _ (by decide) (by decide)).trans h1, (hf _ _ (by decide) (by decide)).trans h2, fun hw => ?_⟩
  obtain ⟨a, a1, a2, a3, a4⟩ := h3 hw
  exact ⟨a, (hf _ _ (by decide) (by decide)).trans a1, (hf _ _ (by decide) (by decide)).trans a2, a3, fun i hi => (hf _ _ (by decide) (by decide)).trans (a4 i hi)⟩
theorem al_bg_fr {N N' : av_N} {b0 n : Nat} (h : al_bg N b0 n) (h1 : N'.1 142 12 = N.1 142 12) (h2 : ∀ k, N'.1 152 k = N.1 152 k) : al_bg N' b0 n := by
  rcases h with ⟨a, b, c⟩ | ⟨e, a, b, c, f⟩
  · exact Or.inl ⟨h1.trans a, b, c⟩
  · exact Or.inr ⟨e, a, h1.trans b, c, (h2 e).trans f⟩
theorem al_me_fr {N N' : av_N} {b0 : Nat} {cs : List (Nat × Nat × List Nat)} (h : al_me N b0 cs) (h1 : N'.1 142 12 = N.1 142 12) (hf : ∀ q k, 152 ≤ q → q ≤ 157 → N'.1 q k = N.1 q k) : al_me N' b0 cs := ⟨al_bg_fr h.1 h1 (fun k => hf _ k (by decide) (by decide)), al_mc_fr h.2.1 (fun q k a b => hf q k (by omega) b), h.2.2⟩
/-- what the view of the reference rests on -/
theorem al_mv_fr {N N' : av_N} {n day : Nat} {B : Nat → Nat → Nat} {cs : List (Nat × Nat × List Nat)} (h : al_mv N n day B cs) (hf : ∀ q k, 142 ≤ q → q ≤ 157 → q ≠ 151 → N'.1 q k = N.1 q k) : al_mv N' n day B cs := by
  obtain ⟨hn, hm, hg, ⟨b0, hme⟩, hok, hd⟩ := h
  exact ⟨hn, al_md_fr hm (fun q k a b => hf q k a (by omega) (by omega)), (hf _ _ (by decide) (by decide) (by decide)).trans hg, ⟨b0, al_me_fr hme (hf _ _ (by decide) (by decide) (by decide)) (fun q k a b => hf q k (by omega) b (by omega))⟩, hok, hd⟩
theorem al_mv_160 {N N' : av_N} {n day : Nat} {B : Nat → Nat → Nat} {cs : List (Nat × Nat × List Nat)} (h : al_mv N n day B cs) (hf : al_fr (fun q => q = 160) N N') : al_mv N' n day B cs := al_mv_fr h (fun q k a b c => al_fr_k hf (by omega))
theorem nI_nk33 {u : Nat} (h : u < 2 ^ 31) : ¬ nI u = av_k (-33) := by
  intro z
  have := congrArg Int32.toInt z
  rw [nI_toInt h, av_kI (by decide) (by decide)] at this
  omega
theorem sEv_cons {tr : Nat → Nat} {t : Nat} {ts : List Nat} {s s' : List Bool} (h : sEv tr (t :: ts) s = some s') : ∃ s1, sEv tr [t] s = some s1 ∧ sEv tr ts s1 = some s' := by
  match t, s, h with
  | 0, a :: s, h => exact ⟨_, rfl, h⟩
  | 1, b :: a :: s, h => exact ⟨_, rfl, h⟩
  | 2, b :: a :: s, h => exact ⟨_, rfl, h⟩
  | u + 3, s, h => exact ⟨_, rfl, h⟩
theorem sEv_len {tr : Nat → Nat} {x : Nat} {s s1 : List Bool} (h : sEv tr [x] s = some s1) : s1.length ≤ s.length + 1 := by
  match x, s, h with
  | 0, a :: s, h =>
    have h : some ((!a) :: s) = some s1 := h
    cases h
    simp
  | 1, b :: a :: s, h =>
    have h : some ((a && b) :: s) = some s1 := h
    cases h
    simp
  | 2, b :: a :: s, h =>
    have h : some ((a || b) :: s) = some s1 := h
    cases h
    simp
  | u + 3, s, h =>
    have h : some (sTest tr u :: s) = some s1 := h
    cases h
    simp
theorem ho_tok {L : av_W} {d : Nat} {N : av_N} {n day : Nat} {B : Nat → Nat → Nat} {cs : List (Nat × Nat × List Nat)} (hv : al_mv N n day B cs) {c bb k to tk : Nat} (hb : bb < n) (hc : c < 60) (hto : N.1 156 c = nI to) (hk : k < to) (h6 : to ≤ 600) (hr : N.1 157 k = sSgn tk) (htk : sTok tk) {s s' : List Bool} (hev : sEv (sTr (B bb) day) [tk] s = some s') (hp : al_pl N s) (hs : s.length ≤ 90) {T : List Value} (hT : okT T) : ∃ T' N', okT T' ∧ al_pl N' s' ∧ al_fr (fun q => q = 160) N N' ∧ ∀ q, av_V (av_S0 L) (d + 1) ta_X7_holds 7 (.ref 142 :: .int (nI c) :: .int (nI bb) :: .int (nI s'.length) :: .int (nI (k + 1)) :: T') [] N' = some q → av_V (av_S0 L) (d + 1) ta_X7_holds 7 (.ref 142 :: .int (nI c) :: .int (nI bb) :: .int (nI s.length) :: .int (nI k) :: T) [] N = some q := by
  rcases htk with hx | ⟨u, rfl, hu, hus⟩
  · rcases (by omega : tk = 0 ∨ tk = 1 ∨ tk = 2) with rfl | rfl | rfl
    · cases s with
      | nil => cases hev
      | cons a s1 =>
        have hev : some ((!a) :: s1) = some s' := hev
        cases hev
        rw [List.length_cons] at hs
        have p1 : N.1 160 s1.length = av_b a := hp.1
        rcases hT with rfl | ⟨x, rfl⟩ | ⟨x, y, z, rfl⟩
        · refine ⟨[.int (sSgn 0), am_junk, am_junk], av_w N 160 s1.length (av_b (!a)), Or.inr (Or.inl ⟨_, rfl⟩), ⟨av_w_s _ _ _ _, al_pl_w hp.2 (Nat.le_refl _)⟩, al_fr_w1 N _ _ _, fun q h => ?_⟩
          apply eq_X7_holds_7_a (d := d)
          simp (disch := omega) only [av_gx_s, nI_clamp, hto, nI_ltI, av_kP, av_sub, Nat.add_sub_cancel, hr, List.length_cons, if_pos hk, sSgn, p1, am_nar_1, am_nar_0, av_b_0, nI_add]
          cases a
          · exact h
          · exact h
        · refine ⟨[.int (sSgn 0), am_junk, am_junk], av_w N 160 s1.length (av_b (!a)), Or.inr (Or.inl ⟨_, rfl⟩), ⟨av_w_s _ _ _ _, al_pl_w hp.2 (Nat.le_refl _)⟩, al_fr_w1 N _ _ _, fun q h => ?_⟩
          apply eq_X7_holds_7_b (d := d)
          simp (disch := omega) only [av_gx_s, nI_clamp, hto, nI_ltI, av_kP, av_sub, Nat.add_sub_cancel, hr, List.length_cons, if_pos hk, sSgn, p1, am_nar_1, am_nar_0, av_b_0, nI_add]
          cases a
          · exact h
          · exact h
        · refine ⟨[.int (sSgn 0), .int y, .int z], av_w N 160 s1.length (av_b (!a)), Or.inr (Or.inr ⟨_, _, _, rfl⟩), ⟨av_w_s _ _ _ _, al_pl_w hp.2 (Nat.le_refl _)⟩, al_fr_w1 N _ _ _, fun q h => ?_⟩
          apply eq_X7_holds_7_c (d := d)
          simp (disch := omega) only [av_gx_s, nI_clamp, hto, nI_ltI, av_kP, av_sub, Nat.add_sub_cancel, hr, List.length_cons, if_pos hk, sSgn, p1, am_nar_1, am_nar_0, av_b_0, nI_add]
          cases a
          · exact h
          · exact h
    · cases s with
      | nil => cases hev
      | cons b s0 => cases s0 with
        | nil => cases hev
        | cons a s1 =>
        have hev : some ((a && b) :: s1) = some s' := hev
        cases hev
        rw [List.length_cons, List.length_cons] at hs
        rcases hT with rfl | ⟨x, rfl⟩ | ⟨x, y, z, rfl⟩
        · refine ⟨[.int (sSgn 1), am_junk, am_junk], av_w N 160 s1.length (av_b (a && b)), Or.inr (Or.inl ⟨_, rfl⟩), ⟨av_w_s _ _ _ _, al_pl_w hp.2.2 (Nat.le_refl _)⟩, al_fr_w1 N _ _ _, fun q h => ?_⟩
          apply eq_X7_holds_7_a (d := d)
          simp (disch := omega) only [av_gx_s, nI_clamp, hto, nI_ltI, av_kP, av_sub, Nat.add_sub_cancel, hr, List.length_cons, if_pos hk]
          rw [if_neg (by decide)]
          exact ho_and_j (by omega) hp h
        · refine ⟨[.int (sSgn 1), am_junk, am_junk], av_w N 160 s1.length (av_b (a && b)), Or.inr (Or.inl ⟨_, rfl⟩), ⟨av_w_s _ _ _ _, al_pl_w hp.2.2 (Nat.le_refl _)⟩, al_fr_w1 N _ _ _, fun q h => ?_⟩
          apply eq_X7_holds_7_b (d := d)
          simp (disch := omega) only [av_gx_s, nI_clamp, hto, nI_ltI, av_kP, av_sub, Nat.add_sub_cancel, hr, List.length_cons, if_pos hk]
          rw [if_neg (by decide)]
          exact ho_and_j (by omega) hp h
        · refine ⟨[.int (sSgn 1), .int y, .int z], av_w N 160 s1.length (av_b (a && b)), Or.inr (Or.inr ⟨_, _, _, rfl⟩), ⟨av_w_s _ _ _ _, al_pl_w hp.2.2 (Nat.le_refl _)⟩, al_fr_w1 N _ _ _, fun q h => ?_⟩
          apply eq_X7_holds_7_c (d := d)
          simp (disch := omega) only [av_gx_s, nI_clamp, hto, nI_ltI, av_kP, av_sub, Nat.add_sub_cancel, hr, List.length_cons, if_pos hk]
          rw [if_neg (by decide)]
          exact ho_and_i (by omega) hp h
    · cases s with
      | nil => cases hev
      | cons b s0 => cases s0 with
        | nil => cases hev
        | cons a s1 =>
        have hev : some ((a || b) :: s1) = some s' := hev
        cases hev
        rw [List.length_cons, List.length_cons] at hs
        rcases hT with rfl | ⟨x, rfl⟩ | ⟨x, y, z, rfl⟩
        · refine ⟨[.int (sSgn 2), am_junk, am_junk], av_w N 160 s1.length (av_b (a || b)), Or.inr (Or.inl ⟨_, rfl⟩), ⟨av_w_s _ _ _ _, al_pl_w hp.2.2 (Nat.le_refl _)⟩, al_fr_w1 N _ _ _, fun q h => ?_⟩
          apply eq_X7_holds_7_a (d := d)
          simp (disch := omega) only [av_gx_s, nI_clamp, hto, nI_ltI, av_kP, av_sub, Nat.add_sub_cancel, hr, List.length_cons, if_pos hk]
          rw [if_neg (by decide)]
          exact ho_or_j (by omega) hp h
        · refine ⟨[.int (sSgn 2), am_junk, am_junk], av_w N 160 s1.length (av_b (a || b)), Or.inr (Or.inl ⟨_, rfl⟩), ⟨av_w_s _ _ _ _, al_pl_w hp.2.2 (Nat.le_refl _)⟩, al_fr_w1 N _ _ _, fun q h => ?_⟩
          apply eq_X7_holds_7_b (d := d)
          simp (disch := omega) only [av_gx_s, nI_clamp, hto, nI_ltI, av_kP, av_sub, Nat.add_sub_cancel, hr, List.length_cons, if_pos hk]
          rw [if_neg (by decide)]
          exact ho_or_j (by omega) hp h
        · refine ⟨[.int (sSgn 2), .int y, .int z], av_w N 160 s1.length (av_b (a || b)), Or.inr (Or.inr ⟨_, _, _, rfl⟩), ⟨av_w_s _ _ _ _, al_pl_w hp.2.2 (Nat.le_refl _)⟩, al_fr_w1 N _ _ _, fun q h => ?_⟩
          apply eq_X7_holds_7_c (d := d)
          simp (disch := omega) only [av_gx_s, nI_clamp, hto, nI_ltI, av_kP, av_sub, Nat.add_sub_cancel, hr, List.length_cons, if_pos hk]
          rw [if_neg (by decide)]
          exact ho_or_i (by omega) hp h
  · have hev : some (sTest (sTr (B bb) day) u :: s) = some s' := hev
    cases hev
    have hul : u < 6000 := by omega
    rcases hT with rfl | ⟨x, rfl⟩ | ⟨x, y, z, rfl⟩
    · refine ⟨[.int (nI u), .int (nI (sTr (B bb) day (u / 1000))), .int (nI (u / 100 % 10))], av_w N 160 s.length (av_b (sTest (sTr (B bb) day) u)), Or.inr (Or.inr ⟨_, _, _, rfl⟩), ⟨av_w_s _ _ _ _, al_pl_w hp (Nat.le_refl _)⟩, al_fr_w1 N _ _ _, fun q h => ?_⟩
      apply eq_X7_holds_7_a (d := d)
      simp (disch := omega) only [av_gx_s, nI_clamp, hto, nI_ltI, av_kP, av_sub, Nat.add_sub_cancel, hr, List.length_cons, if_pos hk, sSgn]
      rw [if_neg (nI_nk33 (by omega))]
      exact ho_test_j hv hb (by omega) hu hus h
    · refine ⟨[.int (nI u), .int (nI (sTr (B bb) day (u / 1000))), .int (nI (u / 100 % 10))], av_w N 160 s.length (av_b (sTest (sTr (B bb) day) u)), Or.inr (Or.inr ⟨_, _, _, rfl⟩), ⟨av_w_s _ _ _ _, al_pl_w hp (Nat.le_refl _)⟩, al_fr_w1 N _ _ _, fun q h => ?_⟩
      apply eq_X7_holds_7_b (d := d)
      simp (disch := omega) only [av_gx_s, nI_clamp, hto, nI_ltI, av_kP, av_sub, Nat.add_sub_cancel, hr, List.length_cons, if_pos hk, sSgn]
      rw [if_neg (nI_nk33 (by omega))]
      exact ho_test_j hv hb (by omega) hu hus h
    · refine ⟨[.int (nI u), .int (nI (sTr (B bb) day (u / 1000))), .int (nI (u / 100 % 10))], av_w N 160 s.length (av_b (sTest (sTr (B bb) day) u)), Or.inr (Or.inr ⟨_, _, _, rfl⟩), ⟨av_w_s _ _ _ _, al_pl_w hp (Nat.le_refl _)⟩, al_fr_w1 N _ _ _, fun q h => ?_⟩
      apply eq_X7_holds_7_c (d := d)
      simp (disch := omega) only [av_gx_s, nI_clamp, hto, nI_ltI, av_kP, av_sub, Nat.add_sub_cancel, hr, List.length_cons, if_pos hk, sSgn]
      rw [if_neg (nI_nk33 (by omega))]
      exact ho_test_i hv hb (by omega) hu hus h
