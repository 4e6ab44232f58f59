/-! a clause, whole -/
def okClC (L : av_W) (D : Nat) (F : Nat → Nat) (f a : Nat) (r : Bool × Nat × (Nat × Nat × List Nat)) : Prop := ∀ (N : av_N) (p : Nat) (l : List Nat) (g x : Nat), al_ep p → qB N F f → cG N p a l → l.length ≤ a → N.1 p 2 = nI g → N.1 p 3 = nI (qTp x) → (∀ p, p < 8 → ∀ k, N.1 p k = (am_roL p).getD k 0) → ∃ N', av_C (av_S0 L) D 23 [.ref 72, .ref p] N = some (some (.int (av_b r.1)), N') ∧ al_f2 (dQ p) N N' ∧ okLR N' p l g x r
def okClM (L : av_W) (D : Nat) (F : Nat → Nat) (f a : Nat) (r : Bool × Nat × (Nat × Nat × List Nat)) : Prop := ∀ (N : av_N) (c s : Nat), qM N F f → c < 60 → N.1 142 14 = nI a → N.1 142 24 = nI s → s ≤ 500 + a → (∀ k, k < 16 → N.1 159 k = nI (sLetr.getD k 0)) → ∃ M, av_C (av_S0 L) D 139 [.ref 142, .int (nI c)] N = some (some (.int (av_b r.1)), M) ∧ al_f2 (dC c s) N M ∧ okLM M c s r ∧ (r.1 = true → M.1 153 c = nI r.2.2.1)
theorem hCM (L : av_W) (d : Nat) {N N1 : av_N} {c : Nat} {b : Bool} {q : av_Q} (hc : c < 60) (h1 : av_C (av_S0 L) (d + 4) 138 [.ref 142, .int (nI c)] N = some (some (.int (av_b b)), N1)) (h : (if b = false then some (some (.int (nI 0)), N1) else wM L d c N1) = some q) : av_C (av_S0 L) (d + 5) 139 [.ref 142, .int (nI c)] N = some q := by
  apply eq_X7_takesClause (d := d + 4)
  simp only [av_kP]
  rw [h1, av_bi_s]
  simp only [av_bt_0, av_bt_1]
  cases b
  · rw [av_if_f]
    rw [if_pos rfl] at h
    exact h
  · rw [av_if_t]
    rw [if_neg (by decide)] at h
    simp (disch := first | decide | omega) only [av_gx_s, nI_clamp, av_w_o]
    exact h
theorem rest_ok (L : av_W) (e d w : Nat) {F : Nat → Nat} {f a : Nat} (hF : qF F f) (ha : a ≤ f) (hw : w ≤ 3) : ∃ r', okL f a r' ∧ (r'.1 = true → r'.2.2.1 = w) ∧ okWC L (e + 13) w F f a r' ∧ okWM L d w F f a r' := by
  cases hn : qN F f a with
  | none =>
    obtain ⟨h1, h2⟩ := rest_none L (e + 11) d w hF ha hn
    exact ⟨(false, a, (w, 0, [])), ⟨Nat.le_refl _, ha, fun z => (by cases z)⟩, fun z => (by cases z), h1, h2⟩
  | some r =>
    obtain ⟨n1, n2, n3⟩ := qN_le hn
    by_cases w1 : w ≤ 1
    · obtain ⟨r', h1, h2, h3, h4⟩ := rest_cond L e d w hF ha hn w1
      exact ⟨r', h1, fun _ => h2, h3, h4⟩
    · obtain ⟨h1, h2⟩ := rest_num L (e + 11) d w hF ha hn (by omega)
      exact ⟨(true, r.2, (w, r.1, [])), ⟨by show a ≤ r.2; omega, n3, fun _ => ⟨n2, hw, n1, fun z => absurd z w1, fun _ => rfl⟩⟩, fun _ => rfl, h1, h2⟩
theorem clause_ok (L : av_W) (e d : Nat) {F : Nat → Nat} {f : Nat} (hF : qF F f) (a : Nat) (ha : a ≤ f) : ∃ r, okL f a r ∧ okClC L (e + 14) F f a r ∧ okClM L (d + 5) F f a r := by
  have h100 := hF.1
  have hw := qK_le (qG F f a)
  obtain ⟨q1, q2, q3, q4, q5, q6⟩ := qWd_ok _ hw
  have ql := qW_le (F := F) (f := f) (qWd (qK (qG F f a)) ++ [32]) a (fun c hc => (q1 c hc).1) ha
  obtain ⟨l1, l2, l3⟩ := ql
  have len : (qWd (qK (qG F f a)) ++ [32]).length = (qWd (qK (qG F f a))).length + 1 := by rw [List.length_append]; rfl
  have wordC : ∀ (N : av_N) (p : Nat) (l : List Nat), qB N F f → N.1 72 2 = nI a → (∀ p, p < 8 → ∀ k, N.1 p k = (am_roL p).getD k 0) → ∃ N1, av_C (av_S0 L) (e + 13) 33 [.ref 72, .ref (4 + qK (qG F f a))] N = some (some (.int (av_b (qW F f (qWd (qK (qG F f a)) ++ [32]) a).1)), N1) ∧ N1.1 72 2 = nI (qW F f (qWd (qK (qG F f a)) ++ [32]) a).2 ∧ al_f2 dS N N1 := fun N p l hB h2 hr => sp_skipWord L (e + 6) (qWd (qK (qG F f a)) ++ [32]) hF (qWd_MS L hw) (by omega) hB h2 ha (fun j hj => by
    rw [hr _ (by omega) j]
    exact q6 j hj) q1 (by omega)
  have wordM : ∀ (N : av_N) (c : Nat), qM N F f → c < 60 → N.1 142 14 = nI a → (∀ k, k < 16 → N.1 159 k = nI (sLetr.getD k 0)) → ∃ N1, av_C (av_S0 L) (d + 4) 138 [.ref 142, .int (nI c)] N = some (some (.int (av_b (qW F f (qWd (qK (qG F f a)) ++ [32]) a).1)), N1) ∧ N1.1 142 14 = nI (qW F f (qWd (qK (qG F f a)) ++ [32]) a).2 ∧ al_f2 (fun q k => dN q k ∨ (q = 153 ∧ k = c)) N N1 ∧ N1.1 153 c = nI (qK (qG F f a)) := fun N c hB hc h2 hr => by
    have f1 : al_f2 (fun q k => dN q k ∨ (q = 153 ∧ k = c)) N (av_w N 153 c (nI (qK (qG F f a)))) := al_f2_w (D := fun q k => dN q k ∨ (q = 153 ∧ k = c)) N (Or.inr ⟨rfl, rfl⟩) _
    obtain ⟨N1, c1, c2, c3⟩ := sp_takesWord L (d + 1) (qWd (qK (qG F f a))) hF (s := qSt (qK (qG F f a))) q4 (N := av_w N 153 c (nI (qK (qG F f a)))) (qM_on hB f1 (by unfold dN; omega) (fun k => by unfold dN; omega)) ((av_w_o _ _ _ _ _ (by decide)).trans h2) ha (fun j hj => by
      rw [av_w_o _ _ _ _ _ (by decide), hr _ (by omega), q5 j hj]) (fun x hx => q1 x (List.mem_append_left _ hx))
    refine ⟨N1, hM L (d + 3) hF hB hc h2 ha c1 ?_, c2, al_f2_tr f1 (al_f2_mono c3 (fun q k z => Or.inl z)), ?_⟩
    · cases (qW F f (qWd (qK (qG F f a)) ++ [32]) a).1
      · exact Or.inl rfl
      · exact Or.inr rfl
    · rw [(c3 153 c (by unfold dN; omega)).1]
      exact av_w_s _ _ _ _
  cases hq : (qW F f (qWd (qK (qG F f a)) ++ [32]) a).1
  · refine ⟨(false, (qW F f (qWd (qK (qG F f a)) ++ [32]) a).2, (0, 0, [])), ⟨l1, l2, fun z => (by cases z)⟩, ?_, ?_⟩
    · intro N p l g x he hB hG hla hg hx hr
      obtain ⟨N1, c1, c2, c3⟩ := wordC N p l hB hG.1 hr
      rw [hq] at c1
      refine ⟨N1, hC L (e + 13) hF hB hG.1 ha c1 ?_, al_f2_mono c3 dS_Q, fun z => (by cases z), fun _ => cG_X (cG_S he hG c3 c2) (by omega)⟩
      rw [if_pos rfl]
      rfl
    · intro N c s hB hc h2 h3 hs hr
      obtain ⟨N1, c1, c2, c3, c4⟩ := wordM N c hB hc h2 hr
      rw [hq] at c1
      refine ⟨N1, hCM L d hc c1 ?_, al_f2_mono c3 (fun q k z => by
        rcases z with z | z
        · exact dN_C q k z
        · unfold dC; omega), ⟨c2, fun z => (by cases z)⟩, fun z => (by cases z)⟩
      rw [if_pos rfl]
      rfl
  · have l3 := l3 hq
    obtain ⟨r, k1, k2, C1, M1⟩ := rest_ok L e d (qK (qG F f a)) hF l2 hw
    obtain ⟨x1, x2, x3⟩ := k1
    refine ⟨r, ⟨by omega, x2, fun z => ?_⟩, ?_, ?_⟩
    · obtain ⟨y1, y2, y3, y4, y5⟩ := x3 z
      refine ⟨by omega, y2, y3, fun w => ?_, y5⟩
      obtain ⟨z1, z2, z3⟩ := y4 w
      exact ⟨by omega, z2, z3⟩
    · intro N p l g x he hB hG hla hg hx hr
      have hp := al_ep_n he
      obtain ⟨N1, c1, c2, c3⟩ := wordC N p l hB hG.1 hr
      rw [hq] at c1
      obtain ⟨N2, e1, e2, e3⟩ := C1 N1 p l g x he (qB_S hB c3) (cG_S he hG c3 c2) (by omega) (((c3 _ _ (by unfold dS; omega)).1).trans hg) (((c3 _ _ (by unfold dS; omega)).1).trans hx)
      refine ⟨N2, hC L (e + 13) hF hB hG.1 ha c1 ?_, al_f2_tr (al_f2_mono c3 dS_Q) e2, e3⟩
      unfold wC at e1
      rw [if_neg (by decide), e1, av_bi_s]
      cases r.1
      · rw [av_if_f]
        rfl
      · rw [av_if_t]
        rfl
    · intro N c s hB hc h2 h3 hs hr
      obtain ⟨N1, c1, c2, c3, c4⟩ := wordM N c hB hc h2 hr
      rw [hq] at c1
      have f1 : al_f2 (dC c s) N N1 := al_f2_mono c3 (fun q k z => by
        rcases z with z | z
        · exact dN_C q k z
        · unfold dC; omega)
      obtain ⟨M, e1, e2, e3, e4⟩ := M1 N1 c s (qM_C hB f1) hc c2 (((c3 142 24 (by unfold dN; omega)).1).trans h3) (by omega) c4
      refine ⟨M, hCM L d hc c1 ?_, al_f2_tr f1 e2, e3, fun z => ?_⟩
      · rw [if_neg (by decide)]
        exact e1
      · rw [e4, k2 z]
