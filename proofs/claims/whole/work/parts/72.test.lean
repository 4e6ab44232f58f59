/-! a test of a text, by both; settling -/
def tk (M : av_N) (s : Nat) (l : List Nat) : Prop := ∀ i, i < l.length → M.1 157 (s + i) = sSgn (l.getD i 0)
theorem tk_nil (M : av_N) (s : Nat) : tk M s [] := fun i hi => absurd hi (Nat.not_lt_zero _)
theorem tk_one {M : av_N} {s x : Nat} (h : M.1 157 s = sSgn x) : tk M s [x] := fun i hi => by
  have : i = 0 := by
    have : [x].length = 1 := rfl
    omega
  subst this
  exact h
theorem tk_app {M1 M2 : av_N} {s : Nat} {l1 l2 : List Nat} (h1 : tk M1 s l1) (h2 : tk M2 (s + l1.length) l2) (hf : ∀ k, k < s + l1.length → M2.1 157 k = M1.1 157 k) : tk M2 s (l1 ++ l2) := fun i hi => by
  rw [List.length_append] at hi
  by_cases e : i < l1.length
  · rw [gd_l e, hf _ (by omega)]
    exact h1 i e
  · have := h2 (i - l1.length) (by omega)
    rw [show s + l1.length + (i - l1.length) = s + i by omega] at this
    rw [this]
    have e2 := gd_r (l := l1) (l' := l2) (i - l1.length)
    rw [show l1.length + (i - l1.length) = i by omega] at e2
    rw [e2]
theorem tk_rep {M : av_N} {s j : Nat} (h : ∀ i, i < j → M.1 157 (s + i) = av_k (-33)) : tk M s (List.replicate j 0) := fun i hi => by
  rw [List.length_replicate] at hi
  rw [h i hi, List.getD_eq_getElem?_getD, List.getElem?_replicate, if_pos hi]
  rfl
def qE (b : Bool) (x : Nat) : List Nat := if b then [x] else []
theorem qE_len (b : Bool) (x : Nat) : (qE b x).length = b.toNat := by cases b <;> rfl
theorem tk_qE {M : av_N} {s x : Nat} {b : Bool} (h : b = true → M.1 157 s = sSgn x) : tk M s (qE b x) := by
  cases b
  · exact tk_nil _ _
  · exact tk_one (h rfl)
theorem dW_le {s s' : Nat} (h : s ≤ s') : ∀ q k, dW s' q k → dW s q k := fun q k z => by
  unfold dW at z ⊢
  omega
theorem sp_settle38 (L : av_W) (d : Nat) {N : av_N} {s w o : Nat} {due pa : Bool} (h1 : N.1 142 24 = nI s) (h2 : N.1 142 25 = nI (w + due.toNat + pa.toNat)) (h3 : N.1 142 26 = nI o) (hw : w + due.toNat + pa.toNat ≤ 100) (hs : s + due.toNat + pa.toNat ≤ 600) (hd : due = true → N.1 158 w = nI 124) (hp : pa = true → N.1 158 (w + due.toNat) = nI 38) (h9 : w = 0 ∨ ∃ t, N.1 158 (w - 1) = nI t ∧ t < 128 ∧ t ≠ 38 ∧ t ≠ 124) : ∃ M, av_C (av_S0 L) (d + 1) 134 [.ref 142, .int (nI 38)] N = some (none, M) ∧ M.1 142 24 = nI (s + (qE pa 1).length) ∧ M.1 142 25 = nI (w + due.toNat) ∧ M.1 142 26 = nI o ∧ tk M s (qE pa 1) ∧ al_f2 (dW s) N M := by
  have stop : ∀ M : av_N, (∀ q, M.1 158 q = N.1 158 q) → (w + due.toNat = 0 ∨ ∃ t, M.1 158 (w + due.toNat - 1) = nI t ∧ t < 128 ∧ t ≠ 38 ∧ (t ≠ 124 ∨ 38 = 38)) := fun M hM => by
    cases due
    · rcases h9 with h9 | ⟨t, t1, t2, t3, t4⟩
      · exact Or.inl h9
      · exact Or.inr ⟨t, (hM _).trans t1, t2, t3, Or.inr rfl⟩
    · exact Or.inr ⟨124, (hM _).trans (hd rfl), by decide, by decide, Or.inr rfl⟩
  cases pa
  · refine ⟨N, settle_C_stop L d h2 hw (stop N (fun _ => rfl)), h1, h2, h3, tk_nil _ _, al_f2_rf _ _⟩
  · have hw : w + due.toNat + 1 ≤ 100 := hw
    have hs : s + due.toNat + 1 ≤ 600 := hs
    refine ⟨_, settle_C_pop L d h1 h2 (by omega) (by omega) (by decide) (hp rfl) (Or.inl rfl) (settle_V_stop L d (w := w + due.toNat) ?_ (by omega) (stop _ (fun _ => ?_))), av_w_s _ _ _ _, ?_, ?_, tk_one ?_, al_f2_tr (al_f2_w (D := dW s) N (Or.inl ⟨rfl, Or.inr (Or.inl rfl)⟩) _) (al_f2_tr (al_f2_w (D := dW s) _ (Or.inr ⟨rfl, Nat.le_refl _⟩) _) (al_f2_w (D := dW s) _ (Or.inl ⟨rfl, Or.inl rfl⟩) _))⟩
    · simp (disch := decide) only [av_w_k, av_w_s, av_w_o]
    · simp (disch := decide) only [av_w_o]
    · simp (disch := decide) only [av_w_k, av_w_s, av_w_o]
    · simp (disch := decide) only [av_w_k, av_w_s, av_w_o]
      exact h3
    · rw [av_w_o _ _ _ _ _ (by decide), av_w_s]
      decide
theorem sp_settle124 (L : av_W) (d : Nat) {N : av_N} {s w o : Nat} {due pa : Bool} (h1 : N.1 142 24 = nI s) (h2 : N.1 142 25 = nI (w + due.toNat + pa.toNat)) (h3 : N.1 142 26 = nI o) (hw : w + due.toNat + pa.toNat ≤ 100) (hs : s + due.toNat + pa.toNat ≤ 600) (hd : due = true → N.1 158 w = nI 124) (hp : pa = true → N.1 158 (w + due.toNat) = nI 38) (h9 : w = 0 ∨ ∃ t, N.1 158 (w - 1) = nI t ∧ t < 128 ∧ t ≠ 38 ∧ t ≠ 124) : ∃ M, av_C (av_S0 L) (d + 1) 134 [.ref 142, .int (nI 124)] N = some (none, M) ∧ M.1 142 24 = nI (s + (qE pa 1 ++ qE due 2).length) ∧ M.1 142 25 = nI w ∧ M.1 142 26 = nI o ∧ tk M s (qE pa 1 ++ qE due 2) ∧ al_f2 (dW s) N M := by
  have stop : ∀ M : av_N, (∀ q, M.1 158 q = N.1 158 q) → (w = 0 ∨ ∃ t, M.1 158 (w - 1) = nI t ∧ t < 128 ∧ t ≠ 38 ∧ (t ≠ 124 ∨ 124 = 38)) := fun M hM => by
    rcases h9 with h9 | ⟨t, t1, t2, t3, t4⟩
    · exact Or.inl h9
    · exact Or.inr ⟨t, (hM _).trans t1, t2, t3, Or.inl t4⟩
  have fr : ∀ (M : av_N) (x : Nat) (y : Int32) (s1 : Nat), s ≤ s1 → al_f2 (dW s) M (av_w (av_w (av_w M 142 25 (nI x)) 157 s1 y) 142 24 (nI (s1 + 1))) := fun M x y s1 hs1 => al_f2_tr (al_f2_w (D := dW s) M (Or.inl ⟨rfl, Or.inr (Or.inl rfl)⟩) _) (al_f2_tr (al_f2_w (D := dW s) _ (Or.inr ⟨rfl, hs1⟩) _) (al_f2_w (D := dW s) _ (Or.inl ⟨rfl, Or.inl rfl⟩) _))
  cases pa <;> cases due
  · refine ⟨N, settle_C_stop L d h2 hw (stop N (fun _ => rfl)), h1, h2, h3, tk_nil _ _, al_f2_rf _ _⟩
  · have hw : w + 1 ≤ 100 := hw
    have hs : s + 1 ≤ 600 := hs
    refine ⟨_, settle_C_pop L d h1 h2 (by omega) (by omega) (by decide) (hd rfl) (Or.inr ⟨rfl, by decide⟩) (settle_V_stop L d (w := w) ?_ (by omega) (stop _ (fun _ => ?_))), av_w_s _ _ _ _, ?_, ?_, tk_one ?_, fr _ _ _ _ (Nat.le_refl _)⟩
    · simp (disch := decide) only [av_w_k, av_w_s, av_w_o]
    · simp (disch := decide) only [av_w_o]
    · simp (disch := decide) only [av_w_k, av_w_s, av_w_o]
    · simp (disch := decide) only [av_w_k, av_w_s, av_w_o]
      exact h3
    · rw [av_w_o _ _ _ _ _ (by decide), av_w_s]
      decide
  · have hw : w + 1 ≤ 100 := hw
    have hs : s + 1 ≤ 600 := hs
    refine ⟨_, settle_C_pop L d (w := w) h1 h2 (by omega) (by omega) (by decide) (hp rfl) (Or.inl rfl) (settle_V_stop L d (w := w) ?_ (by omega) (stop _ (fun _ => ?_))), av_w_s _ _ _ _, ?_, ?_, tk_one ?_, fr _ _ _ _ (Nat.le_refl _)⟩
    · simp (disch := decide) only [av_w_k, av_w_s, av_w_o]
    · simp (disch := decide) only [av_w_o]
    · simp (disch := decide) only [av_w_k, av_w_s, av_w_o]
    · simp (disch := decide) only [av_w_k, av_w_s, av_w_o]
      exact h3
    · rw [av_w_o _ _ _ _ _ (by decide), av_w_s]
      decide
  · have hw : w + 1 + 1 ≤ 100 := hw
    have hs : s + 1 + 1 ≤ 600 := hs
    have f1 := fr N (w + 1) (-nI 38) s (Nat.le_refl _)
    have f2 := fr (av_w (av_w (av_w N 142 25 (nI (w + 1))) 157 s (-nI 38)) 142 24 (nI (s + 1))) w (-nI 124) (s + 1) (by omega)
    refine ⟨_, settle_C_pop L d h1 h2 (by omega) (by omega) (by decide) (hp rfl) (Or.inl rfl) (settle_V_pop L d (w := w) (s := s + 1) (t := 124) (av_w_s _ _ _ _) ?_ (by omega) (by omega) (by decide) ?_ (Or.inr ⟨rfl, by decide⟩) (settle_V_stop L d (w := w) ?_ (by omega) (stop _ (fun _ => ?_)))), av_w_s _ _ _ _, ?_, ?_, ?_, al_f2_tr f1 f2⟩
    · simp (disch := decide) only [av_w_k, av_w_s, av_w_o]
      rfl
    · simp (disch := decide) only [av_w_o]
      exact hd rfl
    · simp (disch := decide) only [av_w_k, av_w_s, av_w_o]
    · simp (disch := decide) only [av_w_o]
    · simp (disch := decide) only [av_w_k, av_w_s, av_w_o]
    · simp (disch := decide) only [av_w_k, av_w_s, av_w_o]
      exact h3
    · refine tk_app (M1 := av_w (av_w (av_w N 142 25 (nI (w + 1))) 157 s (-nI 38)) 142 24 (nI (s + 1))) (l1 := [1]) (l2 := [2]) (tk_one ?_) (tk_one ?_) (fun k hk => ?_)
      · rw [av_w_o _ _ _ _ _ (by decide), av_w_s]
        decide
      · show (av_w (av_w (av_w _ 142 25 (nI w)) 157 (s + 1) (-nI 124)) 142 24 (nI (s + 1 + 1))).1 157 (s + 1) = _
        rw [av_w_o _ _ _ _ _ (by decide), av_w_s]
        decide
      · have hk : k < s + 1 := hk
        rw [av_w_o _ _ _ _ _ (by decide), av_w_k _ _ _ _ (by omega), av_w_o _ _ _ _ _ (by decide)]
        rfl
/-! a test -/
def qT (F : Nat → Nat) (f a : Nat) : Bool × Nat × List Nat :=
  if qP (qG F f a) < 6 then (if 60 ≤ qG F f (a + 1) ∧ qG F f (a + 1) ≤ 62 then (match qN F f (a + 2) with
    | some r => (true, r.2, [(1000 * qP (qG F f a) + 100 * (qG F f (a + 1) - 60) + r.1) + 3])
    | none => (false, a + 2, [])) else (false, a + 1, [])) else (false, a, [])
theorem dP_B {N N' : av_N} {F : Nat → Nat} {f p : Nat} (he : al_ep p) (h : qB N F f) (hf : al_f2 (dP p) N N') : qB N' F f := by
  have hp := al_ep_n he
  exact qB_on h hf (by unfold dP dS dU; omega) (fun k => by unfold dP dS dU; omega)
theorem cG_S {N N' : av_N} {p a a' : Nat} {l : List Nat} (he : al_ep p) (h : cG N p a l) (hf : al_f2 dS N N') (h2 : N'.1 72 2 = nI a') : cG N' p a' l := by
  have hp := al_ep_n he
  exact ⟨h2, ((hf _ _ (by unfold dS; omega)).1).trans h.2.1, fun i hi => ((hf _ _ (by unfold dS; omega)).1).trans (h.2.2 i hi)⟩
theorem nI_nm1 {v : Nat} (h : v < 2 ^ 31) : ¬ nI v = av_k (-1) := fun z => by
  have := congrArg Int32.toInt z
  rw [av_kI (by decide) (by decide), nI_toInt h] at this
  omega
theorem qT_le {F : Nat → Nat} {f a : Nat} (h : a ≤ f) : a ≤ (qT F f a).2.1 ∧ (qT F f a).2.1 ≤ f := by
  unfold qT
  by_cases h1 : qP (qG F f a) < 6
  · have h0 := qG_in (F := F) (f := f) (a := a) (qP_let h1).2
    rw [if_pos h1]
    by_cases h2 : 60 ≤ qG F f (a + 1) ∧ qG F f (a + 1) ≤ 62
    · have h3 := qG_in (F := F) (f := f) (a := a + 1) (by omega)
      rw [if_pos h2]
      cases hn : qN F f (a + 2) with
      | none => exact ⟨by show a ≤ a + 2; omega, by show a + 2 ≤ f; omega⟩
      | some r =>
        obtain ⟨r1, r2, r3⟩ := qN_le hn
        exact ⟨by show a ≤ r.2; omega, r3⟩
    · rw [if_neg h2]
      exact ⟨by show a ≤ a + 1; omega, by show a + 1 ≤ f; omega⟩
  · rw [if_neg h1]
    exact ⟨Nat.le_refl _, h⟩
theorem sp_testC (L : av_W) (d : Nat) {N : av_N} {F : Nat → Nat} {f p a : Nat} {l : List Nat} (hF : qF F f) (he : al_ep p) (hB : qB N F f) (hG : cG N p a l) (hl : a ≤ f) (hla : l.length ≤ a) : ∃ N', av_C (av_S0 L) (d + 2) 29 [.ref 72, .ref p] N = some (some (.int (av_b (qT F f a).1)), N') ∧ al_f2 (dP p) N N' ∧ ((qT F f a).1 = true → cG N' p (qT F f a).2.1 (l ++ (qT F f a).2.2.map sCls)) ∧ ((qT F f a).1 = false → cX N' p (qT F f a).2.1) := by
  have h100 := hF.1
  have hp := al_ep_n he
  obtain ⟨s1, s2, s3, s4⟩ := al_epE he L
  have dSP : ∀ q k, dS q k → dP p q k := fun q k z => Or.inl z
  have dUP : ∀ q k, dU p q k → dP p q k := fun q k z => Or.inr z
  unfold qT
  by_cases h1 : qP (qG F f a) < 6
  · obtain ⟨l1, l2⟩ := qP_let h1
    have h0 := qG_in (F := F) (f := f) (a := a) l2
    have hc := qG_lt hF a
    have fr1 : al_f2 dS N (av_w N 72 2 (nI (a + 1))) := al_f2_w N ⟨rfl, rfl⟩ _
    have n1 := sp_next L (d + 1) hF (qB_S hB fr1) (a := a + 1) (av_w_s _ _ _ _) h0
    rw [if_pos h1]
    by_cases h2 : 60 ≤ qG F f (a + 1) ∧ qG F f (a + 1) ≤ 62
    · have h3 := qG_in (F := F) (f := f) (a := a + 1) (by omega)
      have fr2 : al_f2 dS N (av_w (av_w N 72 2 (nI (a + 1))) 72 2 (nI (a + 1 + 1))) := al_f2_tr fr1 (al_f2_w _ ⟨rfl, rfl⟩ _)
      have num := sp_number L d hF (qB_S hB fr2) (a := a + 1 + 1) (av_w_s _ _ _ _) h3
      have g2 := cG_S he hG fr2 (a' := a + 1 + 1) (av_w_s _ _ _ _)
      have pre : ∀ q, av_V (av_S0 L) (d + 2) ta_X2_test 28 [.ref 72, .ref p, .int (nI (qG F f a)), .int (nI (qG F f (a + 1))), am_junk] [] (av_w N 72 2 (nI (a + 1))) = some q → av_C (av_S0 L) (d + 2) 29 [.ref 72, .ref p] N = some q := fun q hq => by
        apply eq_X2_test (d := d + 1)
        simp only [av_kP]
        rw [sp_next L _ hF hB hG.1 hl, av_bi_s, sp_isLetter L _ _ hF a, av_bi_s, decide_eq_true h1, av_if_t, hG.1, nI_add, n1, av_bi_s]
        rw [qV_G l2, qV_G (show qG F f (a + 1) ≠ 0 by omega)]
        rcases (by omega : qG F f (a + 1) = 60 ∨ qG F f (a + 1) = 61 ∨ qG F f (a + 1) = 62) with e | e | e
        · rw [e] at hq ⊢
          rw [if_pos rfl]
          exact hq
        · rw [e] at hq ⊢
          rw [if_neg (by decide), if_pos rfl]
          exact hq
        · rw [e] at hq ⊢
          rw [if_neg (by decide), if_neg (by decide), if_pos rfl]
          exact hq
      rw [if_pos h2]
      have a12 : (av_w N 72 2 (nI (a + 1))).1 72 2 = nI (a + 1) := av_w_s _ _ _ _
      cases hn : qN F f (a + 2) with
      | none =>
        have c1 := num.1 hn
        have hto : ∃ x, av_C (av_S0 L) (d + 1) 17 [.int (nI (qG F f a)), .int (nI (qG F f (a + 1))), .int (av_k (-1))] (av_w (av_w N 72 2 (nI (a + 1))) 72 2 (nI (a + 1 + 1))) = some (some (.int x), av_w (av_w N 72 2 (nI (a + 1))) 72 2 (nI (a + 1 + 1))) := ⟨_, eq_X1_testOf L (d + 1) _ _ _ _ rfl⟩
        obtain ⟨x, hto⟩ := hto
        obtain ⟨N', c2, c3, c4⟩ := cX_put L (d + 1) he (cG_X g2 (by omega)) (nI 3) x
        refine ⟨N', pre _ ?_, al_f2_tr (al_f2_mono fr2 dSP) (al_f2_mono c4 dUP), fun z => (by cases z), fun _ => c3⟩
        apply eq_X2_test_28 (d := d + 1)
        simp only [av_kP]
        rw [a12, nI_add, c1, av_bi_s, hto, av_bi_s, s1, av_tg_s, c2, av_bv_s, if_pos rfl, av_bt_0]
        rfl
      | some r =>
        obtain ⟨r1, r2, r3⟩ := qN_le hn
        obtain ⟨N1, c1, c2, c3⟩ := num.2 r hn
        have fr3 := al_f2_tr fr2 c3
        have g3 := cG_S he hG fr3 c2
        obtain ⟨N', c4, c5, c6⟩ := cG_put L (d + 1) he g3 (by omega) (x1 := nI 3) (sp_step (k := 3) (o := (qG F f a * 128 + qG F f (a + 1)) * 128 + r.1) (by decide))
        refine ⟨N', pre _ ?_, al_f2_tr (al_f2_mono fr3 dSP) (al_f2_mono c6 dUP), fun _ => ?_, fun z => by cases z⟩
        · apply eq_X2_test_28 (d := d + 1)
          simp only [av_kP]
          rw [a12, nI_add, c1, av_bi_s, sp_testOf L _ _ (by omega) (by omega), av_bi_s, s1, av_tg_s, c4, av_bv_s, if_neg (nI_nm1 (by omega)), av_bt_1]
          rfl
        · have e : 3 + 8 * ((qG F f a * 128 + qG F f (a + 1)) * 128 + r.1) = sCls ((1000 * qP (qG F f a) + 100 * (qG F f (a + 1) - 60) + r.1) + 3) := by
            show _ = 3 + 8 * ((sLet ((1000 * qP (qG F f a) + 100 * (qG F f (a + 1) - 60) + r.1) / 1000) * 128 + (60 + (1000 * qP (qG F f a) + 100 * (qG F f (a + 1) - 60) + r.1) / 100 % 10)) * 128 + (1000 * qP (qG F f a) + 100 * (qG F f (a + 1) - 60) + r.1) % 100)
            rw [show (1000 * qP (qG F f a) + 100 * (qG F f (a + 1) - 60) + r.1) / 1000 = qP (qG F f a) by omega, l1, show 60 + (1000 * qP (qG F f a) + 100 * (qG F f (a + 1) - 60) + r.1) / 100 % 10 = qG F f (a + 1) by omega, show (1000 * qP (qG F f a) + 100 * (qG F f (a + 1) - 60) + r.1) % 100 = r.1 by omega]
          rw [e] at c5
          exact c5
    · rw [if_neg h2]
      refine ⟨av_w N 72 2 (nI (a + 1)), ?_, al_f2_mono fr1 dSP, fun z => (by cases z), fun _ => cG_X (cG_S he hG fr1 (av_w_s _ _ _ _)) (by omega)⟩
      apply eq_X2_test (d := d + 1)
      simp only [av_kP]
      rw [sp_next L _ hF hB hG.1 hl, av_bi_s, sp_isLetter L _ _ hF a, av_bi_s, decide_eq_true h1, av_if_t, hG.1, nI_add, n1, av_bi_s]
      have ne : ∀ c, c = 60 ∨ c = 61 ∨ c = 62 → ¬ qV F f (a + 1) = nI c := fun c hc z => by
        have := (qV_eq hF (a + 1) (c := c) (by omega) (by omega)).mp z
        omega
      rw [if_neg (ne 60 (by omega)), if_neg (ne 61 (by omega)), if_neg (ne 62 (by omega)), av_bt_0]
      rfl
  · rw [if_neg h1]
    refine ⟨N, ?_, al_f2_rf _ _, fun z => (by cases z), fun _ => cG_X hG (by omega)⟩
    apply eq_X2_test (d := d + 1)
    simp only [av_kP]
    rw [sp_next L _ hF hB hG.1 hl, av_bi_s, sp_isLetter L _ _ hF a, av_bi_s, decide_eq_false h1, av_if_f, av_bt_0]
    rfl
def dT (s q k : Nat) : Prop := dN q k ∨ dW s q k
theorem sp_testM (L : av_W) (d : Nat) {N : av_N} {F : Nat → Nat} {f a s w j o : Nat} (hF : qF F f) (hB : qM N F f) (ha : N.1 142 14 = nI a) (hl : a ≤ f) (h1 : N.1 142 24 = nI s) (h2 : N.1 142 25 = nI (w + j)) (h3 : N.1 142 26 = nI o) (h4 : j ≤ o) (h5 : w + j ≤ 100) (h6 : a < f → s + j < 600) (h7 : o ≤ 100) (h8 : ∀ i, i < j → N.1 158 (w + i) = nI 33) (h9 : w = 0 ∨ ∃ t, N.1 158 (w - 1) = nI t ∧ t ≠ 33 ∧ t < 128) : ((qT F f a).1 = false → ∃ M, av_C (av_S0 L) (d + 3) 136 [.ref 142] N = some (some (.int (nI 0)), M) ∧ M.1 142 14 = nI (qT F f a).2.1 ∧ al_f2 (dT s) N M) ∧ ((qT F f a).1 = true → ∃ M, av_C (av_S0 L) (d + 3) 136 [.ref 142] N = some (some (.int (nI 1)), M) ∧ M.1 142 14 = nI (qT F f a).2.1 ∧ M.1 142 24 = nI (s + ((qT F f a).2.2 ++ List.replicate j 0).length) ∧ M.1 142 25 = nI w ∧ M.1 142 26 = nI (o - j) ∧ tk M s ((qT F f a).2.2 ++ List.replicate j 0) ∧ al_f2 (dT s) N M) := by
  have h100 := hF.1
  unfold qT
  by_cases p1 : qP (qG F f a) < 6
  · obtain ⟨l1, l2⟩ := qP_let p1
    have h0 := qG_in (F := F) (f := f) (a := a) l2
    have h6 := h6 h0
    have hc := qG_lt hF a
    have fr1 : al_f2 dN N (av_w N 142 14 (nI (a + 1))) := al_f2_w N ⟨rfl, Or.inl rfl⟩ _
    have n1 := sp_nextM L (d + 2) hF (qM_N hB fr1) (a := a + 1) (av_w_s _ _ _ _) h0
    rw [if_pos p1]
    by_cases p2 : 60 ≤ qG F f (a + 1) ∧ qG F f (a + 1) ≤ 62
    · have p3 := qG_in (F := F) (f := f) (a := a + 1) (by omega)
      have fr2 : al_f2 dN N (av_w (av_w N 142 14 (nI (a + 1))) 142 14 (nI (a + 1 + 1))) := al_f2_tr fr1 (al_f2_w _ ⟨rfl, Or.inl rfl⟩ _)
      have num := sp_takesNumber L d hF (qM_N hB fr2) (a := a + 1 + 1) (av_w_s _ _ _ _) p3
      rw [if_pos p2]
      have pn : ¬ nI (qP (qG F f a)) < nI 0 := nI_nlt (Nat.zero_le _) (by omega)
      have a12 : (av_w N 142 14 (nI (a + 1))).1 142 14 = nI (a + 1) := av_w_s _ _ _ _
      cases hn : qN F f (a + 2) with
      | none =>
        refine ⟨fun _ => ⟨_, ?_, av_w_s _ _ _ _, al_f2_mono fr2 (fun q k z => Or.inl z)⟩, fun z => by cases z⟩
        apply eq_X7_takesTest (d := d + 2)
        simp only [av_kP]
        rw [sp_nextM L _ hF hB ha hl, av_bi_s, sp_place L _ _ hF a, av_bi_s, if_pos p1, if_neg pn, ha, nI_add, n1, av_bi_s, sp_in, av_bi_s, qV_wi hF _ (by decide) (by decide) (by decide), decide_eq_true p2, av_if_t, a12, nI_add, num.1 hn, av_bi_s, if_pos rfl, av_bt_0]
      | some r =>
        obtain ⟨r1, r2, r3⟩ := qN_le hn
        obtain ⟨N1, c1, c2, c3, c4⟩ := num.2 r hn
        have fr3 := al_f2_tr fr2 c4
        have x24 : N1.1 142 24 = nI s := ((fr3 _ _ (by unfold dN; omega)).1).trans h1
        have fr4 : al_f2 (dW s) N1 (av_w (av_w N1 157 s (nI (1000 * qP (qG F f a) + 100 * (qG F f (a + 1) - 60) + r.1))) 142 24 (nI (s + 1))) := al_f2_tr (al_f2_w (D := dW s) _ (Or.inr ⟨rfl, Nat.le_refl _⟩) _) (al_f2_w (D := dW s) _ (Or.inl ⟨rfl, Or.inl rfl⟩) _)
        have fr5 : ∀ q k, ¬ (dN q k) → (q ≠ 142 ∨ k ≠ 24) → q ≠ 157 → (av_w (av_w N1 157 s (nI (1000 * qP (qG F f a) + 100 * (qG F f (a + 1) - 60) + r.1))) 142 24 (nI (s + 1))).1 q k = N.1 q k := fun q k z1 z2 z3 => by
          rw [show (av_w (av_w N1 157 s (nI (1000 * qP (qG F f a) + 100 * (qG F f (a + 1) - 60) + r.1))) 142 24 (nI (s + 1))).1 q k = (av_w N1 157 s (nI (1000 * qP (qG F f a) + 100 * (qG F f (a + 1) - 60) + r.1))).1 q k from am_up_n _ _ (by omega), av_w_o _ _ _ _ _ z3]
          exact (fr3 _ _ z1).1
        obtain ⟨M, w1, w2, w3, w4, w5, w6⟩ := sp_whole L (d + 1) (N := av_w (av_w N1 157 s (nI (1000 * qP (qG F f a) + 100 * (qG F f (a + 1) - 60) + r.1))) 142 24 (nI (s + 1))) (s := s + 1) (w := w) (j := j) (o := o) (av_w_s _ _ _ _) ((fr5 _ _ (by unfold dN; omega) (by decide) (by decide)).trans h2) ((fr5 _ _ (by unfold dN; omega) (by decide) (by decide)).trans h3) h4 h5 (by omega) h7 (fun i hi => (fr5 _ _ (by unfold dN; omega) (by omega) (by decide)).trans (h8 i hi)) (by
          rcases h9 with h9 | ⟨t, t1, t2⟩
          · exact Or.inl h9
          · exact Or.inr ⟨t, (fr5 _ _ (by unfold dN; omega) (by omega) (by decide)).trans t1, t2⟩)
        refine ⟨fun z => (by cases z), fun _ => ⟨M, ?_, ?_, ?_, w3, w4, ?_, ?_⟩⟩
        · apply eq_X7_takesTest (d := d + 2)
          simp only [av_kP]
          rw [sp_nextM L _ hF hB ha hl, av_bi_s, sp_place L _ _ hF a, av_bi_s, if_pos p1, if_neg pn, ha, nI_add, n1, av_bi_s, sp_in, av_bi_s, qV_wi hF _ (by decide) (by decide) (by decide), decide_eq_true p2, av_if_t, a12, nI_add, c1, av_bi_s, if_neg (by decide), c3, qV_G (show qG F f (a + 1) ≠ 0 by omega), av_mul, av_sub (by omega), av_mul, nI_add, nI_add, sp_emits L _ x24 (by omega), av_bv_s, w1, av_bv_s, av_bt_1]
        · rw [(w6 _ _ (by unfold dW; omega)).1, av_w_k _ _ _ _ (by decide), av_w_o _ _ _ _ _ (by decide), c2]
        · rw [w2, List.length_append, List.length_replicate]
          show nI (s + 1 + j) = nI (s + (1 + j))
          congr 1
          omega
        · refine tk_app (M1 := av_w (av_w N1 157 s (nI (1000 * qP (qG F f a) + 100 * (qG F f (a + 1) - 60) + r.1))) 142 24 (nI (s + 1))) (tk_one ?_) (tk_rep w5) (fun k hk => ?_)
          · rw [av_w_o _ _ _ _ _ (by decide), av_w_s]
            rfl
          · have hk : k < s + 1 := hk
            exact (w6 _ _ (by unfold dW; omega)).1
        · exact al_f2_tr (al_f2_mono fr3 (fun q k z => Or.inl z)) (al_f2_tr (al_f2_mono fr4 (fun q k z => Or.inr z)) (al_f2_mono w6 (fun q k z => Or.inr (dW_le (by omega) q k z))))
    · rw [if_neg p2]
      refine ⟨fun _ => ⟨_, ?_, av_w_s _ _ _ _, al_f2_mono fr1 (fun q k z => Or.inl z)⟩, fun z => by cases z⟩
      apply eq_X7_takesTest (d := d + 2)
      simp only [av_kP]
      rw [sp_nextM L _ hF hB ha hl, av_bi_s, sp_place L _ _ hF a, av_bi_s, if_pos p1, if_neg (nI_nlt (Nat.zero_le _) (by omega)), ha, nI_add, n1, av_bi_s, sp_in, av_bi_s, qV_wi hF _ (by decide) (by decide) (by decide), decide_eq_false p2, av_if_f, av_bt_0]
  · rw [if_neg p1]
    refine ⟨fun _ => ⟨N, ?_, ha, al_f2_rf _ _⟩, fun z => by cases z⟩
    apply eq_X7_takesTest (d := d + 2)
    simp only [av_kP]
    rw [sp_nextM L _ hF hB ha hl, av_bi_s, sp_place L _ _ hF a, av_bi_s, if_neg p1, if_pos (by decide), av_bt_0]
