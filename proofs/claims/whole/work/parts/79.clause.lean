/-! dear and cheap; clauses whole -/
theorem rest_cond (L : av_W) (e d w : Nat) {F : Nat → Nat} {f a : Nat} {r : Nat × Nat} (hF : qF F f) (ha : a ≤ f) (hn : qN F f a = some r) (hw : w ≤ 1) : ∃ r', okL f a r' ∧ r'.2.2.1 = w ∧ okWC L (e + 13) w F f a r' ∧ okWM L d w F f a r' := by
  have h100 := hF.1
  obtain ⟨n1, n2, n3⟩ := qN_le hn
  have hnm : ¬ nI r.1 = av_k (-1) := nI_nm1 (by omega)
  have preC : ∀ (N : av_N) (p : Nat) (q : av_Q) (N1 : av_N), av_C (av_S0 L) (e + 12) 34 [.ref 72] N = some (some (.int (nI r.1)), N1) → am_MS L p = (1, 4) → (av_bi (av_C (av_S0 L) (e + 12) 32 [.ref 72, .int (nI 32)] N1) fun z105 N104 => if z105 = nI 0 then av_bv (av_C (av_S0 L) (e + 12) 15 [.ref p, .int (nI (4 + w)), .int (nI r.1)] N104) fun N106 => some (some (.int (nI 0)), N106) else av_bi (av_C (av_S0 L) (e + 12) 27 [.ref 72, .ref p, .int (nI 0)] N104) fun z108 N107 => if z108 = nI 0 then av_bv (av_C (av_S0 L) (e + 12) 15 [.ref p, .int (nI (4 + w)), .int (nI r.1)] N107) fun N109 => some (some (.int (nI 0)), N109) else av_bv (av_C (av_S0 L) (e + 12) 15 [.ref p, .int (nI (4 + w)), .int (nI r.1)] N107) fun N110 => some (some (.int (nI 1)), N110)) = some q → wC L (e + 13) w p N = some q := fun N p q N1 h1 s1 hq => by
    unfold wC
    rw [if_pos hw]
    apply eq_X2_change (d := e + 12)
    simp only [av_kP]
    rw [h1, av_bi_s, if_neg hnm, s1]
    simp only [av_tg_s, av_bt_0, av_bt_1]
    exact hq
  have preM : ∀ (N : av_N) (c : Nat) (q : av_Q) (M1 : av_N), av_C (av_S0 L) (d + 4) 131 [.ref 142] N = some (some (.int (nI 1)), M1) → M1.1 153 c = nI w → M1.1 142 15 = nI r.1 → (av_bi (av_C (av_S0 L) (d + 4) 128 [.ref 142, .int (nI 32)] (av_w M1 154 c (nI r.1))) fun z106 N105 => if z106 = nI 0 then some (some (.int (nI 0)), N105) else av_bi (av_C (av_S0 L) (d + 4) 137 [.ref 142, .int (nI c)] N105) fun z108 N107 => if z108 = nI 0 then some (some (.int (nI 0)), N107) else some (some (.int (nI 1)), N107)) = some q → wM L d c N = some q := fun N c q M1 h1 h2 h3 hq => by
    unfold wM
    rw [h1, av_bi_s, if_neg (by decide), h2, if_pos (nI_lt (by omega) (by decide)), h3]
    exact hq
  by_cases g32 : qG F f r.2 = 32
  · have hlt := qG_in (F := F) (f := f) (a := r.2) (by omega)
    obtain ⟨r1, k1, C1, M1⟩ := either_ok L (e + 3 + 2 * 4) d hF (n := 0) (by decide) (fun a ha => fac_ok L d hF 4 0 e (by decide) a ha) (r.2 + 1) (by omega)
    obtain ⟨x1, x2, x3⟩ := k1
    refine ⟨(r1.1, r1.2.1, (w, r.1, r1.2.2)), ⟨by show a ≤ r1.2.1; omega, x2, fun z => ?_⟩, rfl, ?_, ?_⟩
    · obtain ⟨y1, y2, y3, y4⟩ := x3 z
      exact ⟨by show a < r1.2.1; omega, by show w ≤ 3; omega, n1, fun _ => ⟨by show r1.2.2.length + 2 * sNt r1.2.2 + 2 + a ≤ r1.2.1; omega, y3, y4⟩, fun z => absurd hw z⟩
    · intro N p l g x he hB hG hla hg hx
      have hp := al_ep_n he
      obtain ⟨s1, s2, s3, s4⟩ := al_epE he L
      obtain ⟨N1, c1, c2, c3⟩ := (sp_number L (e + 11) hF hB hG.1 ha).2 r hn
      have f2 : al_f2 dS N (av_w N1 72 2 (nI (r.2 + 1))) := al_f2_tr c3 (al_f2_w _ ⟨rfl, rfl⟩ _)
      obtain ⟨N3, c4, c5, c6, c7⟩ := C1 (av_w N1 72 2 (nI (r.2 + 1))) p l he (qB_S hB f2) (cG_S he hG f2 (av_w_s _ _ _ _)) (by omega)
      have c4 : av_C (av_S0 L) (e + 12) 27 [.ref 72, .ref p, .int (nI 0)] (av_w N1 72 2 (nI (r.2 + 1))) = some (some (.int (av_b r1.1)), N3) := c4
      have f3 := al_f2_tr (al_f2_mono f2 dS_P) c5
      have sk := sp_skip L (e + 11) hF (qB_S hB c3) c2 n3 (c := 32) (by decide) (by decide)
      rw [if_pos g32] at sk
      cases hr : r1.1
      · obtain ⟨N4, v1, v2, v3⟩ := cX_put L (e + 12) he (c7 hr) (nI (4 + w)) (nI r.1)
        refine ⟨N4, preC N p _ N1 c1 s1 ?_, al_f2_tr (al_f2_mono f3 dP_Q) (al_f2_mono v3 (fun q k z => dP_Q q k (Or.inr z))), fun z => (by cases z), fun _ => v2⟩
        rw [hr] at c4
        rw [sk, av_bi_s, if_neg (by decide), c4, av_bi_s, av_if_f, v1, av_bv_s]
        rfl
      · obtain ⟨y1, y2, y3, y4⟩ := x3 hr
        obtain ⟨N4, v1, v2, v3⟩ := cG_put L (e + 12) he (c6 hr) (by rw [List.length_append, List.length_map]; omega) (sp_step (k := 4 + w) (o := r.1) (by omega))
        have f4 : al_f2 (dP p) N N4 := al_f2_tr f3 (al_f2_mono v3 dU_P)
        refine ⟨N4, preC N p _ N1 c1 s1 ?_, al_f2_mono f4 dP_Q, fun _ => ⟨?_, ?_, ?_⟩, fun z => (by cases z)⟩
        · rw [hr] at c4
          rw [sk, av_bi_s, if_neg (by decide), c4, av_bi_s, av_if_t, v1, av_bv_s]
          rfl
        · rw [show sFl [(w, r.1, r1.2.2)] = r1.2.2.map sCls ++ [4 + w + 8 * r.1] from by
            show (if w ≤ 1 then _ else []) ++ [] = _
            rw [if_pos hw, List.append_nil], ← List.append_assoc]
          exact v2
        · rw [if_neg (by show ¬ w = 2; omega)]
          exact ((f4 _ _ (by unfold dP dS dU; omega)).1).trans hg
        · rw [if_neg (by show ¬ w = 3; omega)]
          exact ((f4 _ _ (by unfold dP dS dU; omega)).1).trans hx
    · intro N c s hB hc ha14 hs hsa hw153
      obtain ⟨Q1, c1, c2, c3, c4⟩ := (sp_takesNumber L (d + 2) hF hB ha14 ha).2 r hn
      have f2 : al_f2 (dC c s) N (av_w (av_w Q1 154 c (nI r.1)) 142 14 (nI (r.2 + 1))) := al_f2_tr (al_f2_mono c4 dN_C) (al_f2_tr (al_f2_w (D := dC c s) Q1 (by unfold dC; omega) _) (al_f2_w (D := dC c s) _ (by unfold dC; omega) _))
      have f1 : al_f2 (dC c s) N (av_w Q1 154 c (nI r.1)) := al_f2_tr (al_f2_mono c4 dN_C) (al_f2_w (D := dC c s) Q1 (by unfold dC; omega) _)
      have e153 : Q1.1 153 c = nI w := ((c4 153 c (by unfold dN; omega)).1).trans hw153
      have sk := sp_takes L (d + 3) hF (qM_C hB f1) ((av_w_o _ _ _ _ _ (by decide)).trans c2) n3 (c := 32) (by decide) (by decide)
      rw [if_pos g32] at sk
      have e24 : (av_w (av_w Q1 154 c (nI r.1)) 142 14 (nI (r.2 + 1))).1 142 24 = nI s := by
        simp (disch := decide) only [av_w_k, av_w_o]
        exact ((c4 142 24 (by unfold dN; omega)).1).trans hs
      obtain ⟨M3, m1, m2, m3, m4⟩ := sp_takesE L d hF M1 (qM_C hB f2) hc (av_w_s _ _ _ _) e24 (by omega)
      have r153 : (av_w (av_w Q1 154 c (nI r.1)) 142 14 (nI (r.2 + 1))).1 153 c = nI w := by
        simp (disch := decide) only [av_w_o]
        exact e153
      have r154 : (av_w (av_w Q1 154 c (nI r.1)) 142 14 (nI (r.2 + 1))).1 154 c = nI r.1 := by
        simp (disch := decide) only [av_w_o]
        exact av_w_s _ _ _ _
      obtain ⟨k153, k154⟩ : M3.1 153 c = nI w ∧ M3.1 154 c = nI r.1 := ⟨((m3 153 c (by unfold dK; omega)).1).trans r153, ((m3 154 c (by unfold dK; omega)).1).trans r154⟩
      refine ⟨M3, preM N c _ Q1 c1 e153 c3 ?_, al_f2_tr f2 (al_f2_mono m3 dK_C), ⟨m2, fun z => ?_⟩, k153⟩
      · rw [sk, av_bi_s, if_neg (by decide), m1, av_bi_s]
        show (if av_b r1.1 = nI 0 then _ else _) = some (some (Value.int (av_b r1.1)), M3)
        cases r1.1
        · rw [av_if_f]
          rfl
        · rw [av_if_t]
          rfl
      · obtain ⟨z1, z2, z3, z4⟩ := m4 z
        exact ⟨k154, z1, fun _ => ⟨z2, z3⟩, z4⟩
  · refine ⟨(false, r.2, (w, r.1, [])), ⟨by show a ≤ r.2; omega, n3, fun z => (by cases z)⟩, rfl, ?_, ?_⟩
    · intro N p l g x he hB hG hla hg hx
      have hp := al_ep_n he
      obtain ⟨s1, s2, s3, s4⟩ := al_epE he L
      obtain ⟨N1, c1, c2, c3⟩ := (sp_number L (e + 11) hF hB hG.1 ha).2 r hn
      have sk := sp_skip L (e + 11) hF (qB_S hB c3) c2 n3 (c := 32) (by decide) (by decide)
      rw [if_neg g32] at sk
      obtain ⟨N4, v1, v2, v3⟩ := cX_put L (e + 12) he (cG_X (cG_S he hG c3 c2) (by omega)) (nI (4 + w)) (nI r.1)
      refine ⟨N4, preC N p _ N1 c1 s1 ?_, al_f2_tr (al_f2_mono c3 dS_Q) (al_f2_mono v3 (fun q k z => dP_Q q k (Or.inr z))), fun z => (by cases z), fun _ => v2⟩
      rw [sk, av_bi_s, if_pos rfl, v1, av_bv_s]
      rfl
    · intro N c s hB hc ha14 hs hsa hw153
      obtain ⟨Q1, c1, c2, c3, c4⟩ := (sp_takesNumber L (d + 2) hF hB ha14 ha).2 r hn
      have f1 : al_f2 (dC c s) N (av_w Q1 154 c (nI r.1)) := al_f2_tr (al_f2_mono c4 dN_C) (al_f2_w (D := dC c s) Q1 (by unfold dC; omega) _)
      have e153 : Q1.1 153 c = nI w := ((c4 153 c (by unfold dN; omega)).1).trans hw153
      have sk := sp_takes L (d + 3) hF (qM_C hB f1) ((av_w_o _ _ _ _ _ (by decide)).trans c2) n3 (c := 32) (by decide) (by decide)
      rw [if_neg g32] at sk
      refine ⟨_, preM N c _ Q1 c1 e153 c3 ?_, f1, ⟨(av_w_o _ _ _ _ _ (by decide)).trans c2, fun z => (by cases z)⟩, (av_w_o _ _ _ _ _ (by decide)).trans e153⟩
      rw [sk, av_bi_s, if_pos rfl]
      rfl
