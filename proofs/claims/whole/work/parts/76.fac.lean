/-! conditions, whole: one part, and several -/
theorem either_ok (L : av_W) (D d : Nat) {F : Nat → Nat} {f n : Nat} (hF : qF F f) (hn : n ≤ 4) (hFac : ∀ a, a ≤ f → ∃ r, okR f a r ∧ okC L D 28 F f n a r ∧ okFM L d F f n a r) (a : Nat) (ha : a ≤ f) : ∃ r, okR f a r ∧ okC L (D + 1) 27 F f n a r ∧ okEM L d F f n a r := by
  have h100 := hF.1
  obtain ⟨r1, k1, C1, M1⟩ := hFac a ha
  obtain ⟨x1, x2, x3⟩ := k1
  have preC : ∀ N p q, (av_bi (av_C (av_S0 L) D 28 [.ref 72, .ref p, .int (nI n)] N) fun z102 N101 => av_V (av_S0 L) (D + 1) ta_X2_either 9 [.ref 72, .ref p, .int (nI n), .int z102, .int (av_b false), .int (nI 0), am_junk] [] N101) = some q → av_C (av_S0 L) (D + 1) 27 [.ref 72, .ref p, .int (nI n)] N = some q := fun N p q hq => by
    apply eq_X2_either (d := D)
    simp only [av_kP]
    exact hq
  cases hr1 : r1.1
  · refine ⟨(false, r1.2.1, []), ⟨x1, x2, fun z => (by cases z)⟩, ?_, ?_⟩
    · intro N p l he hB hG hla
      obtain ⟨N1, c1, c2, c3, c4⟩ := C1 N p l he hB hG hla
      obtain ⟨N3, e4, e5, e6⟩ := eh_fail L D (n := n) (k := 0) (v := am_junk) false he (c4 hr1) (by omega) (Or.inl rfl)
      rw [hr1] at c1
      refine ⟨N3, preC _ _ _ ?_, al_f2_tr c2 e6, fun z => (by cases z), fun _ => e5⟩
      rw [c1, av_bi_s]
      exact e4
    · intro N c s w v hB hc hv hS hw hs hb
      refine ⟨fun _ => ?_, fun z => (by cases z)⟩
      obtain ⟨A1, A2⟩ := M1 N c s w 0 v hB hc hv hS (Nat.zero_le _) hw (by omega) (fun i hi => absurd hi (Nat.not_lt_zero _)) (by
        rcases hb with hb | hb
        · exact Or.inl hb
        · exact Or.inr ⟨40, hb, by decide, by decide⟩)
      exact A1 hr1
  · obtain ⟨y1, y2, y3, y4⟩ := x3 hr1
    obtain ⟨r2, k2, C2, M2⟩ := more_ok L D d hF hn hFac (f - r1.2.1) r1.2.1 false false x2 (Nat.le_refl _)
    obtain ⟨u1, u2, u3⟩ := k2
    refine ⟨(r2.1, r2.2.1, r1.2.2 ++ r2.2.2), ⟨by show a ≤ r2.2.1; omega, u2, fun z => ?_⟩, ?_, ?_⟩
    · obtain ⟨u4, u5, u6⟩ := u3 z
      refine ⟨by show a < r2.2.1; omega, ?_, fun x hx => ?_, fun tr s => ?_⟩
      · show (r1.2.2 ++ r2.2.2).length + 2 * sNt (r1.2.2 ++ r2.2.2) + a ≤ r2.2.1
        rw [sNt_app, List.length_append]
        have : false.toNat = 0 := rfl
        omega
      · rcases List.mem_append.mp hx with hx | hx
        · exact y3 x hx
        · exact u5 x hx
      · obtain ⟨v, hv⟩ := y4 tr s
        obtain ⟨v', hv'⟩ := u6 tr s v v
        refine ⟨v', ?_⟩
        show sEv tr (r1.2.2 ++ r2.2.2) s = _
        rw [sEv_app _ _ _ _ hv]
        exact hv'
    · intro N p l he hB hG hla
      obtain ⟨N1, c1, c2, c3, c4⟩ := C1 N p l he hB hG hla
      obtain ⟨N3, e4, e5, e6, e7⟩ := C2 N1 p 0 _ am_junk he (dP_B he hB c2) (c3 hr1) (by rw [List.length_append, List.length_map]; show _ + 0 ≤ _; omega) (by omega) (Or.inl rfl)
      rw [hr1] at c1
      refine ⟨N3, preC _ _ _ ?_, al_f2_tr c2 e5, fun z => ?_, e7⟩
      · rw [c1, av_bi_s]
        exact e4
      · have := e6 z
        rw [List.append_assoc, ← List.map_append] at this
        exact this
    · intro N c s w v hB hc hv hS hw hs hb
      obtain ⟨A1, A2⟩ := M1 N c s w 0 v hB hc hv hS (Nat.zero_le _) hw (by omega) (fun i hi => absurd hi (Nat.not_lt_zero _)) (by
        rcases hb with hb | hb
        · exact Or.inl hb
        · exact Or.inr ⟨40, hb, by decide, by decide⟩)
      obtain ⟨M, z, z1, ⟨z2, z3, z4, z5⟩, z6, z7⟩ := A2 hr1
      rw [show List.replicate 0 0 = ([] : List Nat) from rfl, List.append_nil] at z3 z6
      obtain ⟨B1, B2⟩ := M2 M c (s + r1.2.2.length) w (.int z) (qM_E hB z7) hc (okv_i _) ⟨z2, z3, z4, z5⟩ (by show w + 0 + 0 ≤ _; omega) (by show _ + (w + 0 + 0) ≤ _; omega) (fun z => by cases z) (fun z => by cases z) (by
        rcases hb with hb | hb
        · exact Or.inl hb
        · by_cases w0 : w = 0
          · exact Or.inl w0
          · refine Or.inr ?_
            rw [(z7 158 _ (by unfold dE; omega)).1]
            exact hb)
      refine ⟨fun hz => ?_, fun hz => ?_⟩
      · obtain ⟨M3, w1, w2, w3⟩ := B1 hz
        exact ⟨M3, z1 _ w1, w2, al_f2_tr z7 (al_f2_mono w3 (dE_le (by omega) (by omega)))⟩
      · obtain ⟨M3, w1, ⟨w2, w3, w4, w5⟩, w6, w7⟩ := B2 hz
        have w3 : M3.1 142 24 = nI (s + r1.2.2.length + r2.2.2.length) := w3
        have w6 : tk M3 (s + r1.2.2.length) r2.2.2 := w6
        refine ⟨M3, fun q hq => z1 q (w1 q hq), ⟨w2, ?_, w4, w5⟩, ?_, al_f2_tr z7 (al_f2_mono w7 (dE_le (by omega) (by omega)))⟩
        · rw [w3, List.length_append]
          congr 1
          omega
        · exact tk_app (M1 := M) z6 w6 (fun k hk => (w7 _ _ (by unfold dE; omega)).1)
theorem fh_test (L : av_W) (D : Nat) {N : av_N} {F : Nat → Nat} {f p a n : Nat} {b : Bool} {N' : av_N} (hF : qF F f) (hB : qB N F f) (hG : N.1 72 2 = nI a) (hl : a ≤ f) (h1 : qG F f a ≠ 33) (h2 : qG F f a ≠ 40) (h : av_C (av_S0 L) D 29 [.ref 72, .ref p] N = some (some (.int (av_b b)), N')) : av_C (av_S0 L) (D + 1) 28 [.ref 72, .ref p, .int (nI n)] N = some (some (.int (av_b b)), N') := by
  have n1 : ¬ qV F f a = nI 33 := fun z => h1 ((qV_eq hF a (by decide) (by decide)).mp z)
  have n2 : ¬ qV F f a = nI 40 := fun z => h2 ((qV_eq hF a (by decide) (by decide)).mp z)
  apply eq_X2_factor (d := D)
  simp only [av_kP]
  rw [sp_next L _ hF hB hG hl, av_bi_s, if_neg n1, if_neg n2, h, av_bi_s, av_bt_b]
theorem fh_deep (L : av_W) (D : Nat) {N : av_N} {F : Nat → Nat} {f p a n : Nat} (hF : qF F f) (hB : qB N F f) (hG : N.1 72 2 = nI a) (hl : a ≤ f) (h1 : qG F f a = 33 ∨ qG F f a = 40) (hn : n = 4) : av_C (av_S0 L) (D + 1) 28 [.ref 72, .ref p, .int (nI n)] N = some (some (.int (nI 0)), N) := by
  have e33 := qV_eq hF a (c := 33) (by decide) (by decide)
  have e40 := qV_eq hF a (c := 40) (by decide) (by decide)
  subst hn
  apply eq_X2_factor (d := D)
  simp only [av_kP]
  rw [sp_next L _ hF hB hG hl, av_bi_s]
  rcases h1 with h1 | h1
  · rw [if_pos (e33.mpr h1)]
    apply eq_X2_factor_13 (d := D)
    simp only [av_kP]
    rw [if_neg (by decide), av_bt_0]
  · rw [if_neg (fun z => by have := e33.mp z; omega), if_pos (e40.mpr h1)]
    apply eq_X2_factor_13 (d := D)
    simp only [av_kP]
    rw [if_neg (by decide), av_bt_0]
theorem fh_not (L : av_W) (D : Nat) {N N1 N2 : av_N} {F : Nat → Nat} {f p a n : Nat} {b : Bool} (hF : qF F f) (he : al_ep p) (hB : qB N F f) (hG : N.1 72 2 = nI a) (hl : a ≤ f) (h1 : qG F f a = 33) (hn : n < 4) (h2 : av_C (av_S0 L) D 28 [.ref 72, .ref p, .int (nI (n + 1))] (av_w N 72 2 (nI (a + 1))) = some (some (.int (av_b b)), N1)) (h3 : av_C (av_S0 L) D 15 [.ref p, .int (nI 0), .int (nI 0)] N1 = some (none, N2)) : av_C (av_S0 L) (D + 1) 28 [.ref 72, .ref p, .int (nI n)] N = some (some (.int (av_b b)), N2) := by
  obtain ⟨s1, s2, s3, s4⟩ := al_epE he L
  have e33 : qV F f a = nI 33 := (qV_eq hF a (c := 33) (by decide) (by decide)).mpr h1
  apply eq_X2_factor (d := D)
  simp only [av_kP]
  rw [sp_next L _ hF hB hG hl, av_bi_s, if_pos e33, e33]
  apply eq_X2_factor_13 (d := D)
  simp only [av_kP]
  rw [if_pos (nI_lt hn (by decide)), if_neg (by decide), hG, nI_add, nI_add, h2, av_bi_s, s1, av_tg_s, h3, av_bv_s, av_bt_b]
theorem fh_open (L : av_W) (D : Nat) {N N1 : av_N} {F : Nat → Nat} {f p a n : Nat} {b : Bool} {q : av_Q} (hF : qF F f) (hB : qB N F f) (hG : N.1 72 2 = nI a) (hl : a ≤ f) (h1 : qG F f a = 40) (hn : n < 4) (h2 : av_C (av_S0 L) D 27 [.ref 72, .ref p, .int (nI (n + 1))] (av_w N 72 2 (nI (a + 1))) = some (some (.int (av_b b)), N1)) (h3 : (if b = false then some (some (.int (nI 0)), N1) else av_bi (av_C (av_S0 L) D 32 [.ref 72, .int (nI 41)] N1) fun z107 N106 => if z107 = nI 0 then some (some (.int (nI 0)), N106) else some (some (.int (nI 1)), N106)) = some q) : av_C (av_S0 L) (D + 1) 28 [.ref 72, .ref p, .int (nI n)] N = some q := by
  have e40 : qV F f a = nI 40 := (qV_eq hF a (c := 40) (by decide) (by decide)).mpr h1
  apply eq_X2_factor (d := D)
  simp only [av_kP]
  rw [sp_next L _ hF hB hG hl, av_bi_s, e40, if_neg (by decide), if_pos rfl]
  apply eq_X2_factor_13 (d := D)
  simp only [av_kP]
  rw [if_pos (nI_lt hn (by decide)), if_pos trivial, hG, nI_add, nI_add, h2, av_bi_s]
  simp only [av_bt_0, av_bt_1]
  cases b
  · rw [av_if_f]
    rw [if_pos rfl] at h3
    exact h3
  · rw [av_if_t]
    rw [if_neg (by decide)] at h3
    exact h3
theorem rep_s (x : List Nat) (j : Nat) : x ++ List.replicate (j + 1) 0 = (x ++ [0]) ++ List.replicate j 0 := by
  rw [List.append_assoc]
  rfl
theorem fac_ok (L : av_W) (d : Nat) {F : Nat → Nat} {f : Nat} (hF : qF F f) : ∀ (m n e : Nat), n + m = 4 → ∀ a, a ≤ f → ∃ r, okR f a r ∧ okC L (e + 3 + 2 * m) 28 F f n a r ∧ okFM L d F f n a r := by
  have h100 := hF.1
  intro m
  induction m with
  | zero =>
    intro n e hn a ha
    by_cases hg : qG F f a = 33 ∨ qG F f a = 40
    · refine ⟨(false, a, []), ⟨Nat.le_refl _, ha, fun z => (by cases z)⟩, ?_, ?_⟩
      · intro N p l he hB hG hla
        exact ⟨N, fh_deep L _ hF hB hG.1 ha hg (by omega), al_f2_rf _ _, fun z => (by cases z), fun _ => cG_X hG (by omega)⟩
      · intro N c s w j v hB hc hv hS hj hw hs h8 h9
        refine ⟨fun _ => ⟨N, eV_deep L d hF hc hB hS.1 ha hv hg ?_, hS.1, al_f2_rf _ _⟩, fun z => (by cases z)⟩
        rw [hS.2.2.2, show n = 4 by omega]
    · exact ⟨qT F f a, qT_ok ha, fun N p l he hB hG hla => by
      obtain ⟨N', c1, c2, c3, c4⟩ := sp_testC L (e) hF he hB hG ha hla
      exact ⟨N', fh_test L _ hF hB hG.1 ha (by omega) (by omega) c1, c2, c3, c4⟩, fun N c s w j v hB hc hv hS hj hw hs h8 h9 => by
      obtain ⟨t1, t2, t3, t4⟩ := hS
      obtain ⟨A1, A2⟩ := sp_testM L d hF hB t1 ha t2 t3 t4 hj (by omega) (fun _ => by omega) (by omega) h8 h9
      refine ⟨fun hz => ?_, fun hz => ?_⟩
      · obtain ⟨M, m1, m2, m3⟩ := A1 hz
        refine ⟨M, eV_test L d hF hc hB t1 ha hv (by omega) (by omega) ?_, m2, al_f2_mono m3 dT_E⟩
        rw [m1, av_bi_s, if_pos rfl]
      · obtain ⟨M, m1, m2, m3, m4, m5, m6, m7⟩ := A2 hz
        refine ⟨M, qV F f a, fun q hq => eV_test L d hF hc hB t1 ha hv (by omega) (by omega) ?_, ⟨m2, m3, m4, m5⟩, m6, al_f2_mono m7 dT_E⟩
        rw [m1, av_bi_s, if_neg (by decide)]
        exact hq⟩
  | succ m ih =>
    intro n e hn a ha
    rw [show e + 3 + 2 * (m + 1) = e + 4 + 2 * m + 1 by omega]
    by_cases g33 : qG F f a = 33
    · have hlt := qG_in (F := F) (f := f) (a := a) (by omega)
      obtain ⟨r1, k1, C1, M1⟩ := ih (n + 1) (e + 1) (by omega) (a + 1) (by omega)
      obtain ⟨x1, x2, x3⟩ := k1
      refine ⟨(r1.1, r1.2.1, r1.2.2 ++ [0]), ⟨by show a ≤ r1.2.1; omega, x2, fun z => ?_⟩, ?_, ?_⟩
      · obtain ⟨y1, y2, y3, y4⟩ := x3 z
        refine ⟨by show a < r1.2.1; omega, ?_, fun x hx => ?_, fun tr s => ?_⟩
        · show (r1.2.2 ++ [0]).length + 2 * sNt (r1.2.2 ++ [0]) + a ≤ r1.2.1
          rw [sNt_app, List.length_append, show [0].length = 1 from rfl, show sNt [0] = 0 from rfl]
          omega
        · rcases List.mem_append.mp hx with hx | hx
          · exact y3 x hx
          · have := List.mem_singleton.mp hx
            exact Or.inl (by omega)
        · obtain ⟨v, hv⟩ := y4 tr s
          refine ⟨!v, ?_⟩
          show sEv tr (r1.2.2 ++ [0]) s = _
          rw [sEv_app _ _ _ _ hv]
          rfl
      · intro N p l he hB hG hla
        have f0 : al_f2 dS N (av_w N 72 2 (nI (a + 1))) := al_f2_w N ⟨rfl, rfl⟩ _
        obtain ⟨N1, c1, c2, c3, c4⟩ := C1 (av_w N 72 2 (nI (a + 1))) p l he (qB_S hB f0) (cG_S he hG f0 (av_w_s _ _ _ _)) (by omega)
        rw [show e + 1 + 3 + 2 * m = e + 4 + 2 * m by omega] at c1
        cases hr1 : r1.1
        · obtain ⟨N2, e1, e2, e3⟩ := cX_put L (e + 4 + 2 * m) he (c4 hr1) (nI 0) (nI 0)
          rw [hr1] at c1
          exact ⟨N2, fh_not L (e + 4 + 2 * m) hF he hB hG.1 ha g33 (by omega) c1 e1, al_f2_tr (al_f2_mono f0 dS_P) (al_f2_tr c2 (al_f2_mono e3 dU_P)), fun z => (by cases z), fun _ => e2⟩
        · obtain ⟨y1, y2, y3, y4⟩ := x3 hr1
          obtain ⟨N2, e1, e2, e3⟩ := cG_put L (e + 4 + 2 * m) he (c3 hr1) (by rw [List.length_append, List.length_map]; omega) (x1 := nI 0) (sp_step (k := 0) (o := 0) (by decide))
          rw [hr1] at c1
          refine ⟨N2, fh_not L (e + 4 + 2 * m) hF he hB hG.1 ha g33 (by omega) c1 e1, al_f2_tr (al_f2_mono f0 dS_P) (al_f2_tr c2 (al_f2_mono e3 dU_P)), fun _ => ?_, fun z => (by cases z)⟩
          show cG N2 p r1.2.1 (l ++ (r1.2.2 ++ [0]).map sCls)
          rw [List.map_append, ← List.append_assoc]
          exact e2
      · intro N c s w j v hB hc hv hS hj hw hs h8 h9
        have f1 : al_f2 (dE c s w) N (av_w (av_w (av_w (av_w N 142 26 (nI (n + 1))) 158 (w + j) (nI 33)) 142 25 (nI (w + j + 1))) 142 14 (nI (a + 1))) := al_f2_tr (al_f2_w (D := dE c s w) N (by unfold dE; omega) _) (al_f2_tr (al_f2_w (D := dE c s w) _ (by unfold dE; omega) _) (al_f2_tr (al_f2_w (D := dE c s w) _ (by unfold dE; omega) _) (al_f2_w (D := dE c s w) _ (by unfold dE; omega) _)))
        obtain ⟨A1, A2⟩ := M1 (av_w (av_w (av_w (av_w N 142 26 (nI (n + 1))) 158 (w + j) (nI 33)) 142 25 (nI (w + j + 1))) 142 14 (nI (a + 1))) c s w (j + 1) (.int (qV F f a)) (qM_E hB f1) hc (okv_i _) ⟨av_w_s _ _ _ _, by simp (disch := decide) only [av_w_k, av_w_o]; exact hS.2.1, by simp (disch := decide) only [av_w_k, av_w_s]; rfl, by simp (disch := decide) only [av_w_k, av_w_o, av_w_s]⟩ (by omega) (by omega) (by omega) (fun i hi => by
          simp (disch := decide) only [av_w_o]
          by_cases e : i = j
          · subst e
            exact av_w_s _ _ _ _
          · rw [av_w_k _ _ _ _ (by omega), av_w_o _ _ _ _ _ (by decide)]
            exact h8 i (by omega)) (by
          rcases h9 with h9 | ⟨t, t1, t2⟩
          · exact Or.inl h9
          · by_cases w0 : w = 0
            · exact Or.inl w0
            · refine Or.inr ⟨t, ?_, t2⟩
              simp (disch := decide) only [av_w_o]
              rw [av_w_k _ _ _ _ (by omega), av_w_o _ _ _ _ _ (by decide)]
              exact t1)
        have pre : ∀ q, eV L d c (nI 1) (.int (qV F f a)) (av_w (av_w (av_w (av_w N 142 26 (nI (n + 1))) 158 (w + j) (nI 33)) 142 25 (nI (w + j + 1))) 142 14 (nI (a + 1))) = some q → eV L d c (nI 1) v N = some q := fun q hq => eV_push L d hF hc hB hS ha hv g33 (Or.inl rfl) (by omega) (by omega) hq
        refine ⟨fun hz => ?_, fun hz => ?_⟩
        · obtain ⟨M3, w1, w2, w3⟩ := A1 hz
          exact ⟨M3, pre _ w1, w2, al_f2_tr f1 w3⟩
        · obtain ⟨M3, z, w1, ⟨w2, w3, w4, w5⟩, w6, w7⟩ := A2 hz
          rw [rep_s] at w3 w6
          refine ⟨M3, z, fun q hq => pre q (w1 q hq), ⟨w2, w3, w4, ?_⟩, w6, al_f2_tr f1 w7⟩
          rw [w5]
          congr 1
          omega
    · by_cases g40 : qG F f a = 40
      · have hlt := qG_in (F := F) (f := f) (a := a) (by omega)
        obtain ⟨r1, k1, C1, M1⟩ := either_ok L (e + 3 + 2 * m) d hF (n := n + 1) (by omega) (fun a ha => ih (n + 1) e (by omega) a ha) (a + 1) (by omega)
        obtain ⟨x1, x2, x3⟩ := k1
        have eD : e + 3 + 2 * m + 1 = e + 4 + 2 * m := by omega
        have pushed : ∀ (N : av_N) (c s w j : Nat) (v : Value), qM N F f → c < 60 → okv v → mSt N a s (w + j) n → j ≤ n → w + j ≤ a → s + w + j ≤ 500 + a → ∃ Q, al_f2 (dE c s (w + j)) N Q ∧ mSt Q (a + 1) s (w + j + 1) (n + 1) ∧ Q.1 158 (w + j) = nI 40 ∧ qM Q F f ∧ ∀ q, eV L d c (nI 1) (.int (qV F f a)) Q = some q → eV L d c (nI 1) v N = some q := by
          intro N c s w j v hB hc hv hS hj hw hs
          have f1 : al_f2 (dE c s (w + j)) N (av_w (av_w (av_w (av_w N 142 26 (nI (n + 1))) 158 (w + j) (nI 40)) 142 25 (nI (w + j + 1))) 142 14 (nI (a + 1))) := al_f2_tr (al_f2_w (D := dE c s (w + j)) N (by unfold dE; omega) _) (al_f2_tr (al_f2_w (D := dE c s (w + j)) _ (by unfold dE; omega) _) (al_f2_tr (al_f2_w (D := dE c s (w + j)) _ (by unfold dE; omega) _) (al_f2_w (D := dE c s (w + j)) _ (by unfold dE; omega) _)))
          exact ⟨_, f1, ⟨av_w_s _ _ _ _, by simp (disch := decide) only [av_w_k, av_w_o]; exact hS.2.1, by simp (disch := decide) only [av_w_k, av_w_s], by simp (disch := decide) only [av_w_k, av_w_o, av_w_s]⟩, by simp (disch := decide) only [av_w_o, av_w_s], qM_E hB f1, fun q hq => eV_push L d hF hc hB hS ha hv g40 (Or.inr rfl) (by omega) (by omega) hq⟩
        have bad : (r1.1 = false ∨ (r1.1 = true ∧ qG F f r1.2.1 ≠ 41)) → ∃ r, okR f a r ∧ okC L (e + 4 + 2 * m + 1) 28 F f n a r ∧ okFM L d F f n a r := by
          intro hbad
          refine ⟨(false, r1.2.1, []), ⟨by show a ≤ r1.2.1; omega, x2, fun z => (by cases z)⟩, ?_, ?_⟩
          · intro N p l he hB hG hla
            have f0 : al_f2 dS N (av_w N 72 2 (nI (a + 1))) := al_f2_w N ⟨rfl, rfl⟩ _
            obtain ⟨N1, c1, c2, c3, c4⟩ := C1 (av_w N 72 2 (nI (a + 1))) p l he (qB_S hB f0) (cG_S he hG f0 (av_w_s _ _ _ _)) (by omega)
            rw [eD] at c1
            have fr := al_f2_tr (al_f2_mono f0 dS_P) c2
            rcases hbad with hr1 | ⟨hr1, hg⟩
            · refine ⟨N1, fh_open L (e + 4 + 2 * m) hF hB hG.1 ha g40 (by omega) c1 ?_, fr, fun z => (by cases z), fun _ => c4 hr1⟩
              rw [hr1, if_pos rfl]
              rfl
            · obtain ⟨y1, y2, y3, y4⟩ := x3 hr1
              have c3 := c3 hr1
              refine ⟨N1, fh_open L (e + 4 + 2 * m) hF hB hG.1 ha g40 (by omega) c1 ?_, fr, fun z => (by cases z), fun _ => cG_X c3 (by rw [List.length_append, List.length_map]; omega)⟩
              rw [hr1, if_neg (by decide), show e + 4 + 2 * m = e + 3 + 2 * m + 1 by omega, sp_skip L _ hF (dP_B he hB fr) c3.1 x2 (by decide) (by decide), if_neg hg, av_bi_s, if_pos rfl]
              rfl
          · intro N c s w j v hB hc hv hS hj hw hs h8 h9
            refine ⟨fun _ => ?_, fun z => (by cases z)⟩
            obtain ⟨Q, f1, hQ, q40, hBQ, pre⟩ := pushed N c s w j v hB hc hv hS hj hw hs
            obtain ⟨A1, A2⟩ := M1 Q c s (w + j + 1) (.int (qV F f a)) hBQ hc (okv_i _) hQ (by omega) (by omega) (Or.inr q40)
            rcases hbad with hr1 | ⟨hr1, hg⟩
            · obtain ⟨M3, w1, w2, w3⟩ := A1 hr1
              exact ⟨M3, pre _ w1, w2, al_f2_tr (al_f2_mono f1 (dE_le (Nat.le_refl _) (by omega))) (al_f2_mono w3 (dE_le (by omega) (by omega)))⟩
            · obtain ⟨M3, w1, ⟨w2, w3, w4, w5⟩, w6, w7⟩ := A2 hr1
              refine ⟨av_w M3 156 c (M3.1 142 24), pre _ (w1 _ ?_), (av_w_o _ _ _ _ _ (by decide)).trans w2, al_f2_tr (al_f2_mono f1 (dE_le (Nat.le_refl _) (by omega))) (al_f2_tr (al_f2_mono w7 (dE_le (by omega) (by omega))) (al_f2_w (D := dE c s w) M3 (by unfold dE; omega) _))⟩
              unfold mTail
              rw [w4, if_neg (nI_ne (by omega) (by decide) (by omega)), if_neg (fun z => hg ((qV_eq hF _ (by decide) (by decide)).mp z))]
        cases hr1 : r1.1
        · exact bad (Or.inl hr1)
        · by_cases g41 : qG F f r1.2.1 = 41
          · have hlt2 := qG_in (F := F) (f := f) (a := r1.2.1) (by omega)
            obtain ⟨y1, y2, y3, y4⟩ := x3 hr1
            refine ⟨(true, r1.2.1 + 1, r1.2.2), ⟨by show a ≤ r1.2.1 + 1; omega, by show r1.2.1 + 1 ≤ f; omega, fun _ => ⟨by show a < r1.2.1 + 1; omega, by show r1.2.2.length + 2 * sNt r1.2.2 + a ≤ r1.2.1 + 1; omega, y3, y4⟩⟩, ?_, ?_⟩
            · intro N p l he hB hG hla
              have f0 : al_f2 dS N (av_w N 72 2 (nI (a + 1))) := al_f2_w N ⟨rfl, rfl⟩ _
              obtain ⟨N1, c1, c2, c3, c4⟩ := C1 (av_w N 72 2 (nI (a + 1))) p l he (qB_S hB f0) (cG_S he hG f0 (av_w_s _ _ _ _)) (by omega)
              rw [eD] at c1
              have fr := al_f2_tr (al_f2_mono f0 dS_P) c2
              have c3 := c3 hr1
              have f2 : al_f2 dS N1 (av_w N1 72 2 (nI (r1.2.1 + 1))) := al_f2_w N1 ⟨rfl, rfl⟩ _
              refine ⟨_, fh_open L (e + 4 + 2 * m) hF hB hG.1 ha g40 (by omega) c1 ?_, al_f2_tr fr (al_f2_mono f2 dS_P), fun _ => cG_S he c3 f2 (av_w_s _ _ _ _), fun z => (by cases z)⟩
              rw [hr1, if_neg (by decide), show e + 4 + 2 * m = e + 3 + 2 * m + 1 by omega, sp_skip L _ hF (dP_B he hB fr) c3.1 x2 (by decide) (by decide), if_pos g41, av_bi_s, if_neg (by decide)]
              rfl
            · intro N c s w j v hB hc hv hS hj hw hs h8 h9
              refine ⟨fun z => (by cases z), fun _ => ?_⟩
              obtain ⟨Q, f1, hQ, q40, hBQ, pre⟩ := pushed N c s w j v hB hc hv hS hj hw hs
              obtain ⟨A1, A2⟩ := M1 Q c s (w + j + 1) (.int (qV F f a)) hBQ hc (okv_i _) hQ (by omega) (by omega) (Or.inr q40)
              obtain ⟨M3, w1, ⟨w2, w3, w4, w5⟩, w6, w7⟩ := A2 hr1
              have e25 : M3.1 142 25 - nI 1 = nI (w + j) := by rw [w4, av_sub (by omega)]; congr 1
              have e26 : M3.1 142 26 - nI 1 = nI n := by rw [w5, av_sub (by omega)]; congr 1
              have e14 : M3.1 142 14 + nI 1 = nI (r1.2.1 + 1) := by rw [w2, nI_add]
              have f3 : al_f2 (dE c s (w + j + 1)) Q (av_w (av_w (av_w (av_w M3 156 c (M3.1 142 24)) 142 25 (nI (w + j))) 142 26 (nI n)) 142 14 (nI (r1.2.1 + 1))) := al_f2_tr w7 (al_f2_tr (al_f2_w (D := dE c s (w + j + 1)) M3 (by unfold dE; omega) _) (al_f2_tr (al_f2_w (D := dE c s (w + j + 1)) _ (by unfold dE; omega) _) (al_f2_tr (al_f2_w (D := dE c s (w + j + 1)) _ (by unfold dE; omega) _) (al_f2_w (D := dE c s (w + j + 1)) _ (by unfold dE; omega) _))))
              have p24 : (av_w (av_w (av_w (av_w M3 156 c (M3.1 142 24)) 142 25 (nI (w + j))) 142 26 (nI n)) 142 14 (nI (r1.2.1 + 1))).1 142 24 = nI (s + r1.2.2.length) := by
                simp (disch := decide) only [av_w_k, av_w_o]
                exact w3
              have p25 : (av_w (av_w (av_w (av_w M3 156 c (M3.1 142 24)) 142 25 (nI (w + j))) 142 26 (nI n)) 142 14 (nI (r1.2.1 + 1))).1 142 25 = nI (w + j) := by
                simp (disch := decide) only [av_w_k, av_w_s]
              have p26 : (av_w (av_w (av_w (av_w M3 156 c (M3.1 142 24)) 142 25 (nI (w + j))) 142 26 (nI n)) 142 14 (nI (r1.2.1 + 1))).1 142 26 = nI n := by
                simp (disch := decide) only [av_w_k, av_w_s]
              have p14 : (av_w (av_w (av_w (av_w M3 156 c (M3.1 142 24)) 142 25 (nI (w + j))) 142 26 (nI n)) 142 14 (nI (r1.2.1 + 1))).1 142 14 = nI (r1.2.1 + 1) := av_w_s _ _ _ _
              have p157 : ∀ k, (av_w (av_w (av_w (av_w M3 156 c (M3.1 142 24)) 142 25 (nI (w + j))) 142 26 (nI n)) 142 14 (nI (r1.2.1 + 1))).1 157 k = M3.1 157 k := fun k => by
                simp (disch := decide) only [av_w_o]
              have tail : ∀ q, (av_bv (av_C (av_S0 L) (d + 3) 133 [.ref 142] (av_w (av_w (av_w (av_w M3 156 c (M3.1 142 24)) 142 25 (nI (w + j))) 142 26 (nI n)) 142 14 (nI (r1.2.1 + 1)))) (fun N105 => eV L d c (nI 0) (.int (qV F f r1.2.1)) N105)) = some q → mTail L d c (qV F f r1.2.1) M3 = some q := fun q hq => by
                unfold mTail
                rw [e25, e26, e14, w4, if_neg (nI_ne (by omega) (by decide) (by omega)), if_pos ((qV_eq hF _ (by decide) (by decide)).mpr g41)]
                exact hq
              generalize av_w (av_w (av_w (av_w M3 156 c (M3.1 142 24)) 142 25 (nI (w + j))) 142 26 (nI n)) 142 14 (nI (r1.2.1 + 1)) = P at *
              have fP : al_f2 (dE c s (w + j)) N P := al_f2_tr f1 (al_f2_mono f3 (dE_le (Nat.le_refl _) (by omega)))
              obtain ⟨M4, v1, v2, v3, v4, v5, v6⟩ := sp_whole L (d + 2) p24 p25 p26 hj (by omega) (by omega) (by omega) (fun i hi => by
                rw [(fP 158 _ (by unfold dE; omega)).1]
                exact h8 i hi) (by
                rcases h9 with h9 | ⟨t, t1, t2⟩
                · exact Or.inl h9
                · by_cases w0 : w = 0
                  · exact Or.inl w0
                  · refine Or.inr ⟨t, ?_, t2⟩
                    rw [(fP 158 _ (by unfold dE; omega)).1]
                    exact t1)
              refine ⟨M4, qV F f r1.2.1, fun q hq => pre _ (w1 _ (tail _ ?_)), ⟨((v6 _ _ (by unfold dW; omega)).1).trans p14, ?_, v3, v4⟩, ?_, al_f2_tr (al_f2_mono fP (dE_le (Nat.le_refl _) (by omega))) (al_f2_mono v6 (fun q k z => dW_E q k (dW_le (by omega) q k z)))⟩
              · rw [v1, av_bv_s]
                exact hq
              · rw [v2, List.length_append, List.length_replicate]
                congr 1
                show s + r1.2.2.length + j = s + (r1.2.2.length + j)
                omega
              · refine tk_app (M1 := M3) w6 (tk_rep v5) (fun k hk => ?_)
                have hk : k < s + r1.2.2.length := hk
                rw [(v6 157 k (by unfold dW; omega)).1, p157]
          · exact bad (Or.inr ⟨hr1, g41⟩)
      · exact ⟨qT F f a, qT_ok ha, fun N p l he hB hG hla => by
        obtain ⟨N', c1, c2, c3, c4⟩ := sp_testC L (e + 2 + 2 * m) hF he hB hG ha hla
        rw [show e + 2 + 2 * m + 2 = e + 4 + 2 * m by omega] at c1
        exact ⟨N', fh_test L _ hF hB hG.1 ha (by omega) (by omega) c1, c2, c3, c4⟩, fun N c s w j v hB hc hv hS hj hw hs h8 h9 => by
        obtain ⟨t1, t2, t3, t4⟩ := hS
        obtain ⟨A1, A2⟩ := sp_testM L d hF hB t1 ha t2 t3 t4 hj (by omega) (fun _ => by omega) (by omega) h8 h9
        refine ⟨fun hz => ?_, fun hz => ?_⟩
        · obtain ⟨M, m1, m2, m3⟩ := A1 hz
          refine ⟨M, eV_test L d hF hc hB t1 ha hv (by omega) (by omega) ?_, m2, al_f2_mono m3 dT_E⟩
          rw [m1, av_bi_s, if_pos rfl]
        · obtain ⟨M, m1, m2, m3, m4, m5, m6, m7⟩ := A2 hz
          refine ⟨M, qV F f a, fun q hq => eV_test L d hF hc hB t1 ha hv (by omega) (by omega) ?_, ⟨m2, m3, m4, m5⟩, m6, al_f2_mono m7 dT_E⟩
          rw [m1, av_bi_s, if_neg (by decide)]
          exact hq⟩
