theorem sEv_lnt {tr : Nat → Nat} {x : Nat} {s s1 : List Bool} (h : sEv tr [x] s = some s1) : s1.length ≤ s.length + (if x < 3 then 0 else 1) := by
  match x, s, h with
  | 0, a :: s, h =>
    have h : some ((!a) :: s) = some s1 := h
    cases h
    simp
  | 1, b :: a :: s, h =>
    have h : some ((a && b) :: s) = some s1 := h
    cases h
    simp
  | 2, b :: a :: s, h =>
    have h : some ((a || b) :: s) = some s1 := h
    cases h
    simp
  | u + 3, s, h =>
    have h : some (sTest tr u :: s) = some s1 := h
    cases h
    rw [if_neg (by omega)]
    simp
theorem ho_run {L : av_W} {d : Nat} {n day : Nat} {B : Nat → Nat → Nat} {cs : List (Nat × Nat × List Nat)} {c bb to : Nat} (hb : bb < n) (hc : c < 60) (h6 : to ≤ 600) : ∀ (ts : List Nat) (N : av_N) (k : Nat) (s s' : List Bool) (T : List Value), al_mv N n day B cs → N.1 156 c = nI to → k + ts.length ≤ to → (∀ i, i < ts.length → N.1 157 (k + i) = sSgn (ts.getD i 0)) → (∀ x ∈ ts, sTok x) → sEv (sTr (B bb) day) ts s = some s' → al_pl N s → s.length + sNt ts ≤ 90 → okT T → ∃ T' N', okT T' ∧ al_pl N' s' ∧ al_fr (fun q => q = 160) N N' ∧ ∀ q, av_V (av_S0 L) (d + 1) ta_X7_holds 7 (.ref 142 :: .int (nI c) :: .int (nI bb) :: .int (nI s'.length) :: .int (nI (k + ts.length)) :: T') [] N' = some q → av_V (av_S0 L) (d + 1) ta_X7_holds 7 (.ref 142 :: .int (nI c) :: .int (nI bb) :: .int (nI s.length) :: .int (nI k) :: T) [] N = some q := by
  intro ts
  induction ts with
  | nil =>
    intro N k s s' T hv hto hk hr htk hev hp hs hT
    cases hev
    exact ⟨T, N, hT, hp, al_fr_rf _ _, fun q h => h⟩
  | cons x ts ih =>
    intro N k s s' T hv hto hk hr htk hev hp hs hT
    rw [List.length_cons] at hk
    rw [show sNt (x :: ts) = (if x < 3 then 0 else 1) + sNt ts from rfl] at hs
    obtain ⟨s1, e1, e2⟩ := sEv_cons hev
    have hx := htk x List.mem_cons_self
    have hr0 : N.1 157 k = sSgn x := hr 0 (by rw [List.length_cons]; omega)
    obtain ⟨T1, N1, t1, p1, f1, g1⟩ := ho_tok (L := L) (d := d) hv hb hc hto (show k < to by omega) h6 hr0 hx e1 hp (by omega) hT
    have hl1 : s1.length ≤ s.length + (if x < 3 then 0 else 1) := sEv_lnt e1
    have hr1 : ∀ i, i < ts.length → N1.1 157 (k + 1 + i) = sSgn (ts.getD i 0) := fun i hi => by
      have := hr (i + 1) (by rw [List.length_cons]; omega)
      rw [al_fr_k f1 (by decide), show k + 1 + i = k + (i + 1) by omega, this]
      rfl
    obtain ⟨T2, N2, t2, p2, f2, g2⟩ := ih N1 (k + 1) s1 s' T1 (al_mv_160 hv f1) ((al_fr_k f1 (by decide)).trans hto) (by omega) hr1 (fun y hy => htk y (List.mem_cons_of_mem _ hy)) e2 p1 (by omega) t1
    refine ⟨T2, N2, t2, p2, al_fr_tr f1 f2, fun q h => g1 q (g2 q ?_)⟩
    rw [List.length_cons, show k + (ts.length + 1) = k + 1 + ts.length by omega] at h
    exact h
theorem sp_holdsM (L : av_W) (d : Nat) {N : av_N} {n day : Nat} {B : Nat → Nat → Nat} {cs : List (Nat × Nat × List Nat)} (hv : al_mv N n day B cs) {b0 i bb : Nat} (hme : al_me N b0 cs) (hi : i < cs.length) (hb : bb < n) (hw : (cs.getD i (0, 0, [])).1 ≤ 1) : ∃ N', av_C (av_S0 L) (d + 1) 147 [.ref 142, .int (nI (b0 + i)), .int (nI bb)] N = some (some (.int (av_b (sVal (sTr (B bb) day) (cs.getD i (0, 0, [])).2.2))), N') ∧ al_fr (fun q => q = 160) N N' := by
  obtain ⟨hg, ⟨hl, hm⟩, hcl⟩ := hme
  have h60 := al_bg_le hg hl
  obtain ⟨m1, m2, m3⟩ := hm i hi
  obtain ⟨a, a1, a2, a3, a4⟩ := m3 hw
  have hmem : cs.getD i (0, 0, []) ∈ cs := by
    rw [List.getD_eq_getElem?_getD, List.getElem?_eq_getElem hi]
    exact List.getElem_mem hi
  obtain ⟨w3, w99, wc⟩ := hcl _ hmem
  obtain ⟨l50, htk, hval⟩ := wc hw
  obtain ⟨v, hv1⟩ := hval (sTr (B bb) day)
  generalize cs.getD i (0, 0, []) = cl at *
  obtain ⟨T', N', t1, p1, f1, g1⟩ := ho_run (L := L) (d := d) hb (show b0 + i < 60 by omega) a3 cl.2.2 N a [] [v] [am_junk, am_junk, am_junk] hv a2 (Nat.le_refl _) a4 htk hv1 trivial (by simp; omega) (Or.inl rfl)
  refine ⟨N', ?_, f1⟩
  have hsv : sVal (sTr (B bb) day) cl.2.2 = v := by unfold sVal; rw [hv1]
  have b2 : N'.1 156 (b0 + i) = nI (a + cl.2.2.length) := (al_fr_k f1 (by decide)).trans a2
  have p0 : N'.1 160 0 = av_b v := p1.1
  apply eq_X7_holds (d := d)
  rw [av_gx_s (by omega) (by omega), nI_clamp (by omega), a1, av_kP, hsv]
  refine g1 _ ?_
  rcases t1 with rfl | ⟨x, rfl⟩ | ⟨x, y, z, rfl⟩
  · apply eq_X7_holds_7_a (d := d)
    rw [av_gx_s (by omega) (by omega), nI_clamp (by omega), b2, if_neg (nI_nlt (Nat.le_refl _) (by omega)), av_kP, av_gx_s (by decide) (by decide), nI_clamp (by decide), p0, av_bt_b]
  · apply eq_X7_holds_7_b (d := d)
    rw [av_gx_s (by omega) (by omega), nI_clamp (by omega), b2, if_neg (nI_nlt (Nat.le_refl _) (by omega)), av_kP, av_gx_s (by decide) (by decide), nI_clamp (by decide), p0, av_bt_b]
  · apply eq_X7_holds_7_c (d := d)
    rw [av_gx_s (by omega) (by omega), nI_clamp (by omega), b2, if_neg (nI_nlt (Nat.le_refl _) (by omega)), av_kP, av_gx_s (by decide) (by decide), nI_clamp (by decide), p0, av_bt_b]
theorem av_kneg (z : Int) (n : Nat) : av_k z + -nI n = av_k (z - n) := by
  rw [← av_ksub]
  exact (Int32.sub_eq_add_neg _ _).symm
theorem av_klt0 {z : Int} (h1 : -2147483648 ≤ z) (h2 : z ≤ 2147483647) : av_k z < nI 0 ↔ z < 0 := by
  rw [Int32.lt_iff_toInt_lt, av_kI h1 h2, nI_toInt (by decide)]
  omega
theorem sp_priceM (L : av_W) (d : Nat) {N : av_N} {n day : Nat} {B : Nat → Nat → Nat} {cs : List (Nat × Nat × List Nat)} (hv : al_mv N n day B cs) {bb : Nat} (hb : bb < n) : ∃ N', av_C (av_S0 L) (d + 2) 148 [.ref 142, .int (nI bb)] N = some (some (.int (nI (sPrice (sTr (B bb) day) cs))), N') ∧ al_fr (fun q => q = 160) N N' := by
  obtain ⟨b0, hme⟩ := hv.2.2.2.1
  have h60 := al_bg_le hme.1 hme.2.1.1
  have h10 := hme.2.1.1
  have hcl := hme.2.2
  have key : ∀ (r pre : List (Nat × Nat × List Nat)) (z : Int) (M : av_N), cs = pre ++ r → al_fr (fun q => q = 160) N M → -1000000 - 99 * (r.length : Int) ≤ z - 198 * r.length → z + 198 * r.length ≤ 1000000 + 99 * (r.length : Int) → ∃ N', av_V (av_S0 L) (d + 2) ta_X7_price 5 [.ref 142, .int (nI bb), .int (av_k z), .int (nI (b0 + pre.length))] [] M = some (some (.int (nI (sSum (sTr (B bb) day) r z).toNat)), N') ∧ al_fr (fun q => q = 160) N N' := by
    intro r
    induction r with
    | nil =>
      intro pre z M hcs hf h1 h2
      have hlen : cs.length = pre.length := by rw [hcs]; simp
      have hme' := al_me_fr hme (al_fr_k hf (by decide)) (fun q k a b => al_fr_k hf (by omega))
      simp at h1 h2
      refine ⟨M, ?_, hf⟩
      apply eq_X7_price_5 (d := d + 1)
      rw [sp_behind L _ hme'.1, av_bi_s, hlen, if_neg (nI_nlt (Nat.le_refl _) (by omega)), av_kP]
      show _ = some (some (Value.int (nI z.toNat)), M)
      by_cases hz : z < 0
      · rw [if_pos ((av_klt0 (by omega) (by omega)).mpr hz), show z.toNat = 0 by omega]
      · rw [if_neg (fun w => hz ((av_klt0 (by omega) (by omega)).mp w)), av_kz (by omega) (by omega) (by omega)]
    | cons c r ih =>
      intro pre z M hcs hf h1 h2
      rw [List.length_cons] at h1 h2
      have hlen : cs.length = pre.length + (r.length + 1) := by rw [hcs]; simp
      have hme' := al_me_fr hme (al_fr_k hf (by decide)) (fun q k a b => al_fr_k hf (by omega))
      have hv' := al_mv_160 hv hf
      obtain ⟨m1, m2, -⟩ := hme'.2.1.2 pre.length (by omega)
      have hgd : cs.getD pre.length (0, 0, []) = c := by
        rw [hcs, List.getD_eq_getElem?_getD, List.getElem?_append_right (Nat.le_refl _), Nat.sub_self]
        rfl
      rw [hgd] at m1 m2
      have hc := hcl c (by rw [hcs]; simp)
      have w3 := hc.1
      have w99 := hc.2.1
      have ih' := fun z M => ih (pre ++ [c]) z M (by rw [hcs]; simp)
      rw [show (pre ++ [c]).length = pre.length + 1 by simp] at ih'
      by_cases hw : c.1 ≤ 1
      · obtain ⟨N1, c1, f1⟩ := sp_holdsM L d hv' hme' (i := pre.length) (by omega) hb (by rw [hgd]; exact hw)
        rw [hgd] at c1
        have m1' : N1.1 153 (b0 + pre.length) = nI c.1 := (al_fr_k f1 (by decide)).trans m1
        have m2' : N1.1 154 (b0 + pre.length) = nI c.2.1 := (al_fr_k f1 (by decide)).trans m2
        obtain ⟨N2, c2, f2⟩ := ih' (if c.1 = 0 then (if sVal (sTr (B bb) day) c.2.2 then z + c.2.1 else z) else (if sVal (sTr (B bb) day) c.2.2 then z - c.2.1 else z)) N1 (al_fr_tr hf f1) (by split <;> split <;> omega) (by split <;> split <;> omega)
        refine ⟨N2, ?_, f2⟩
        apply eq_X7_price_5 (d := d + 1)
        rw [sp_behind L _ hme'.1, av_bi_s, if_pos (nI_lt (by omega) (by omega)), av_gx_s (by omega) (by omega), nI_clamp (by omega), m1, av_kP, if_neg (nI_nlt (by omega) (by decide)), c1, av_bi_s]
        simp (disch := omega) only [av_b_0, av_gx_s, nI_clamp, m1', m2', nI_eq, av_kP, nI_add, av_kadd, av_kneg]
        unfold sSum
        have e0 : (if c.1 = 0 then (if sVal (sTr (B bb) day) c.2.2 then z + c.2.1 else z) else if c.1 = 1 then (if sVal (sTr (B bb) day) c.2.2 then z - c.2.1 else z) else z) = (if c.1 = 0 then (if sVal (sTr (B bb) day) c.2.2 then z + c.2.1 else z) else (if sVal (sTr (B bb) day) c.2.2 then z - c.2.1 else z)) := by
          rcases (by omega : c.1 = 0 ∨ c.1 = 1) with h0 | h0 <;> simp [h0]
        rw [e0]
        rw [← Nat.add_assoc] at c2
        revert c2
        cases sVal (sTr (B bb) day) c.2.2
        · rcases (by omega : c.1 = 0 ∨ c.1 = 1) with h0 | h0 <;> simp [h0]
        · rcases (by omega : c.1 = 0 ∨ c.1 = 1) with h0 | h0 <;> simp [h0]
      · obtain ⟨N2, c2, f2⟩ := ih' z M hf (by omega) (by omega)
        refine ⟨N2, ?_, f2⟩
        apply eq_X7_price_5 (d := d + 1)
        rw [sp_behind L _ hme'.1, av_bi_s, if_pos (nI_lt (by omega) (by omega)), av_gx_s (by omega) (by omega), nI_clamp (by omega), m1, av_kP, if_pos (nI_lt (by omega) (by omega)), nI_add]
        unfold sSum
        rw [if_neg (by omega), if_neg (by omega)]
        exact c2
  obtain ⟨N', c1, f1⟩ := key cs [] 1 N rfl (al_fr_rf _ _) (by omega) (by omega)
  refine ⟨N', ?_, f1⟩
  apply eq_X7_price (d := d + 1)
  rw [sp_begin L _ hme.1, av_bi_s]
  exact c1
theorem sp_stripsM (L : av_W) (d : Nat) {N : av_N} {n day : Nat} {B : Nat → Nat → Nat} {cs : List (Nat × Nat × List Nat)} (hv : al_mv N n day B cs) {b : Nat} (hb : b < n) : av_C (av_S0 L) (d + 4) 153 [.ref 142, .int (nI b)] N = some (some (.int (nI (sStrips (B b) (sTop cs)))), N) := by
  have hn := hv.1
  obtain ⟨m1, m2, m3, m4, m5, m6, m7, m8⟩ := hv.2.1.2.2 b hb
  have ok := (hv.2.2.2.2.1 b hb).1
  have h9 : B b 9 ≤ 1 := ok.2.2.2.2.2.2.2.2.2.2.1
  apply eq_X7_strips (d := d + 3)
  rw [hv.2.2.1, sp_hasG L _ hv hb, av_bi_s]
  simp (disch := omega) only [av_kP, av_b_0, sp_heightsM L _ hv hb, av_bi_s, av_gx_s, nI_clamp, m6, av_mul]
  unfold sStrips
  rw [sPop_hm ok (sTop_le cs).2]
  by_cases h : B b 9 = 0
  · rw [if_pos (by rw [h]; rfl), if_pos h]
  · rw [if_neg (by rw [show B b 9 = 1 by omega]; decide), if_neg h, Nat.zero_mul]
theorem sp_rentM (L : av_W) (d : Nat) {N : av_N} {n day : Nat} {B : Nat → Nat → Nat} {cs : List (Nat × Nat × List Nat)} (hv : al_mv N n day B cs) {b : Nat} (hb : b < n) : ∃ N', av_C (av_S0 L) (d + 5) 154 [.ref 142, .int (nI b)] N = some (some (.int (nI (sRent (B b) cs (sTop cs) day))), N') ∧ al_fr (fun q => q = 160) N N' := by
  have hn := hv.1
  obtain ⟨m1, m2, m3, m4, m5, m6, m7, m8⟩ := hv.2.1.2.2 b hb
  have ok := (hv.2.2.2.2.1 b hb).1
  obtain ⟨b0, hme⟩ := hv.2.2.2.1
  have o2 : B b 2 < 7 := ok.2.1
  have hx := Nat.mul_le_mul (sStrips_le ok (sTop cs)) (sPrice_le (tr := sTr (B b) day) hme.2.2 hme.2.1.1)
  obtain ⟨N1, c1, f1⟩ := sp_priceM L (d + 2) hv hb
  refine ⟨N1, ?_, f1⟩
  apply eq_X7_rent (d := d + 4)
  simp (disch := omega) only [av_gx_s, nI_clamp, m1, av_kP, nI_eq, sp_stripsM L _ hv hb, av_bi_s, c1, av_nz_s, av_mul, av_div]
  unfold sRent
  by_cases h1 : B b 2 = 1
  · rw [if_pos h1, if_pos (Or.inl h1)]
  · rw [if_neg h1]
    by_cases h4 : B b 2 = 4
    · rw [if_pos h4, if_pos (Or.inr h4)]
    · rw [if_neg h4, if_neg (fun z => z.elim h1 h4)]
