/-! a text, whole -/
def dR (p q k : Nat) : Prop := (q = 72 ∧ (k = 1 ∨ k = 2)) ∨ (q = p ∧ 1 ≤ k ∧ k ≤ 3) ∨ q = p + 1
theorem dQ_R {p : Nat} : ∀ q k, dQ p q k → dR p q k := fun q k z => by
  unfold dQ at z
  unfold dR
  omega
theorem dS_R {p : Nat} : ∀ q k, dS q k → dR p q k := fun q k z => dQ_R q k (dS_Q q k z)
def dL (k i s q c : Nat) : Prop := (q = 142 ∧ (c = 14 ∨ c = 15 ∨ c = 24 ∨ c = 25 ∨ c = 26)) ∨ (q = 157 ∧ s ≤ c) ∨ q = 158 ∨ (153 ≤ q ∧ q ≤ 156 ∧ 10 * k + i ≤ c ∧ c < 10 * k + 10) ∨ (q = 152 ∧ c = k)
theorem dL_le {k i i' s s' : Nat} (h1 : i ≤ i') (h2 : s ≤ s') : ∀ q c, dL k i' s' q c → dL k i s q c := fun q c z => by
  unfold dL at z ⊢
  omega
def cL (N : av_N) (p : Nat) (l : List Nat) (g x : Nat) : Prop := l.length ≤ 100 ∧ N.1 p 1 = nI l.length ∧ (∀ i, i < l.length → N.1 (p + 1) i = nI (l.getD i 0)) ∧ N.1 p 2 = nI g ∧ N.1 p 3 = nI (qTp x)
def mCl (M : av_N) (k c : Nat) (cl : Nat × Nat × List Nat) : Prop := M.1 153 c = nI cl.1 ∧ M.1 154 c = nI cl.2.1 ∧ (cl.1 ≤ 1 → ∃ a, M.1 155 c = nI a ∧ M.1 156 c = nI (a + cl.2.2.length) ∧ a + cl.2.2.length ≤ 100 * k + 100 ∧ ∀ j, j < cl.2.2.length → M.1 157 (a + j) = sSgn (cl.2.2.getD j 0))
abbrev qX := Bool × Nat × List (Nat × Nat × List Nat)
def okLpC (L : av_W) (D : Nat) (F : Nat → Nat) (f i a : Nat) (r : qX) : Prop := ∀ (N : av_N) (p : Nat) (l : List Nat) (g x : Nat), al_ep p → qB N F f → cG N p a l → l.length ≤ a → N.1 p 2 = nI g → N.1 p 3 = nI (qTp x) → (∀ p, p < 8 → ∀ k, N.1 p k = (am_roL p).getD k 0) → ∃ N', av_V (av_S0 L) D ta_X2_parse 11 [.ref 72, .ref p, .int (nI 1), .int (nI i)] [] N = some (some (.int (if r.1 = true then av_k (-1) else nI r.2.1)), N') ∧ al_f2 (dR p) N N' ∧ N'.1 72 1 = nI 0 ∧ (r.1 = true → cL N' p (l ++ sFl r.2.2) (sLast 2 r.2.2 g) (sLast 3 r.2.2 x))
noncomputable def tM (L : av_W) (d k i : Nat) (N : av_N) : Option av_Q := if N.1 142 14 = N.1 142 13 then some (some (.int (nI 1)), N) else if nI i = nI 10 then some (some (.int (nI 0)), N) else av_bi (av_C (av_S0 L) (d + 5) 128 [.ref 142, .int (nI 59)] N) fun z N1 => if z = nI 0 then some (some (.int (nI 0)), N1) else av_V (av_S0 L) (d + 6) ta_X7_goesText 10 [.ref 142, .int (nI k), .int (nI i)] [] N1
def okLpM (L : av_W) (d : Nat) (F : Nat → Nat) (f i a : Nat) (r : qX) : Prop := ∀ (N : av_N) (k s : Nat), qM N F f → k ≤ 5 → N.1 142 14 = nI a → N.1 142 24 = nI s → s ≤ 100 * k + a → (∀ k, k < 16 → N.1 159 k = nI (sLetr.getD k 0)) → N.1 152 k = nI i → ∃ M, tM L d k i N = some (some (.int (av_b r.1)), M) ∧ M.1 142 14 = nI r.2.1 ∧ al_f2 (dL k i s) N M ∧ (r.1 = true → M.1 152 k = nI (i + r.2.2.length) ∧ ∀ j, j < r.2.2.length → mCl M k (10 * k + i + j) (r.2.2.getD j (0, 0, [])))
def okX (f i : Nat) (r : qX) : Prop := r.2.1 ≤ f ∧ (r.1 = true → i + r.2.2.length ≤ 10 ∧ ∀ c ∈ r.2.2, sCl c)
theorem sCl_of {f a : Nat} {r : Bool × Nat × (Nat × Nat × List Nat)} (h : okL f a r) (hf : f ≤ 100) (hr : r.1 = true) : sCl r.2.2 := by
  obtain ⟨x1, x2, x3⟩ := h
  obtain ⟨y1, y2, y3, y4, y5⟩ := x3 hr
  refine ⟨y2, y3, fun w => ?_⟩
  obtain ⟨z1, z2, z3⟩ := y4 w
  exact ⟨⟨by omega, by omega⟩, z2, fun tr => z3 tr []⟩
theorem pl_35no (L : av_W) (D : Nat) {N : av_N} {p a : Nat} {x3 : Int32} (ha : N.1 72 2 = nI a) : av_V (av_S0 L) (D + 1) ta_X2_parse 35 [.ref 72, .ref p, .int (nI 0), .int x3] [] N = some (some (.int (nI a)), av_w N 72 1 (nI 0)) := by
  apply eq_X2_parse_35 (d := D)
  simp only [av_kP]
  rw [if_pos trivial, if_pos trivial, av_w_k _ _ _ _ (by decide), ha]
theorem pl_no (L : av_W) (D : Nat) {N : av_N} {p a i : Nat} (hi : i ≤ 10) (ha : N.1 72 2 = nI a) : av_V (av_S0 L) (D + 1) ta_X2_parse 11 [.ref 72, .ref p, .int (nI 0), .int (nI i)] [] N = some (some (.int (nI a)), av_w N 72 1 (nI 0)) := by
  apply eq_X2_parse_11 (d := D)
  simp only [av_kP]
  by_cases h : i < 10
  · rw [if_pos (nI_lt h (by decide)), if_pos trivial, pl_35no L D ha]
  · rw [if_neg (nI_nlt (by omega) (by omega)), pl_35no L D ha]
theorem pl_35 (L : av_W) (D : Nat) {N : av_N} {p a f : Nat} {x3 : Int32} (ha : N.1 72 2 = nI a) (hf : N.1 72 1 = nI f) (hl : a ≤ f) (h100 : f ≤ 100) : av_V (av_S0 L) (D + 1) ta_X2_parse 35 [.ref 72, .ref p, .int (nI 1), .int x3] [] N = some (some (.int (if a = f then av_k (-1) else nI a)), av_w N 72 1 (nI 0)) := by
  apply eq_X2_parse_35 (d := D)
  simp only [av_kP]
  rw [if_neg (by decide), ha, hf]
  by_cases h : a = f
  · rw [if_pos (by rw [h]), if_neg (by decide), if_pos h]
  · rw [if_neg (nI_ne (by omega) (by omega) h), if_pos trivial, if_neg h, av_w_k _ _ _ _ (by decide), ha]
theorem goes_step (L : av_W) (d : Nat) {N M : av_N} {k i : Nat} {b : Bool} {q : av_Q} (hk : k ≤ 5) (hi : i < 10) (h1 : av_C (av_S0 L) (d + 5) 139 [.ref 142, .int (nI (10 * k + i))] N = some (some (.int (av_b b)), M)) (h : (if b = false then some (some (.int (nI 0)), M) else tM L d k (i + 1) (av_w M 152 k (nI (i + 1)))) = some q) : av_V (av_S0 L) (d + 6) ta_X7_goesText 10 [.ref 142, .int (nI k), .int (nI i)] [] N = some q := by
  apply eq_X7_goesText_10 (d := d + 5)
  simp only [av_kP]
  rw [av_mul, nI_add, h1, av_bi_s]
  simp only [av_bt_0, av_bt_1]
  cases b
  · rw [if_pos rfl] at h
    rw [av_if_f]
    exact h
  · rw [if_neg (by decide)] at h
    rw [av_if_t, av_gx_s (by omega) (by omega), nI_clamp (by omega), nI_add]
    exact h
theorem sFl_c (c : Nat × Nat × List Nat) (cs : List (Nat × Nat × List Nat)) : sFl [c] ++ sFl cs = sFl (c :: cs) := by
  show ((if c.1 ≤ 1 then c.2.2.map sCls ++ [4 + c.1 + 8 * c.2.1] else []) ++ []) ++ sFl cs = (if c.1 ≤ 1 then c.2.2.map sCls ++ [4 + c.1 + 8 * c.2.1] else []) ++ sFl cs
  rw [List.append_nil]
theorem loop_ok (L : av_W) (e d : Nat) {F : Nat → Nat} {f : Nat} (hF : qF F f) : ∀ (m i a : Nat), i + m = 10 → 1 ≤ i → a ≤ f → ∃ r : qX, okX f i r ∧ okLpC L (e + 15) F f i a r ∧ okLpM L d F f i a r := by
  have h100 := hF.1
  intro m
  induction m with
  | zero =>
    intro i a him hi1 ha
    have i10 : i = 10 := by omega
    subst i10
    by_cases haf : a = f
    · exact ⟨(true, f, []), ⟨Nat.le_refl _, fun _ => ⟨by show _ + 0 ≤ 10; omega, fun c hc => (by cases hc)⟩⟩, fun N p l g x he hB hG hla hg hx hr => by
      have hp := al_ep_n he
      refine ⟨av_w N 72 1 (nI 0), ?_, al_f2_w (D := dR p) N (by unfold dR; omega) _, av_w_s _ _ _ _, fun _ => ⟨by rw [show l ++ sFl ([] : List (Nat × Nat × List Nat)) = l from List.append_nil _]; omega, ?_, fun j hj => ?_, (av_w_o _ _ _ _ _ (by omega)).trans hg, (av_w_o _ _ _ _ _ (by omega)).trans hx⟩⟩
      · apply eq_X2_parse_11 (d := e + 14)
        simp only [av_kP]
        rw [if_neg (by decide), pl_35 L (e + 14) hG.1 hB.1 ha h100, if_pos haf]
        rfl
      · rw [show l ++ sFl ([] : List (Nat × Nat × List Nat)) = l from List.append_nil _]
        exact (av_w_o _ _ _ _ _ (by omega)).trans hG.2.1
      · rw [show l ++ sFl ([] : List (Nat × Nat × List Nat)) = l from List.append_nil _] at hj ⊢
        exact (av_w_o _ _ _ _ _ (by omega)).trans (hG.2.2 j hj), fun N k s hB hk h14 h24 hs hr h152 => by
      refine ⟨N, ?_, h14.trans (by rw [haf]), al_f2_rf _ _, fun _ => ⟨h152, fun j hj => absurd hj (Nat.not_lt_zero _)⟩⟩
      unfold tM
      rw [h14, hB.1, if_pos (by rw [haf])]
      rfl⟩
    · refine ⟨(false, a, []), ⟨ha, fun z => (by cases z)⟩, ?_, ?_⟩
      · intro N p l g x he hB hG hla hg hx hr
        refine ⟨av_w N 72 1 (nI 0), ?_, al_f2_w (D := dR p) N (by unfold dR; omega) _, av_w_s _ _ _ _, fun z => (by cases z)⟩
        apply eq_X2_parse_11 (d := e + 14)
        simp only [av_kP]
        rw [if_neg (by decide), pl_35 L (e + 14) hG.1 hB.1 ha h100, if_neg haf]
        rfl
      · intro N k s hB hk h14 h24 hs hr h152
        refine ⟨N, ?_, h14, al_f2_rf _ _, fun z => (by cases z)⟩
        unfold tM
        rw [h14, hB.1, if_neg (nI_ne (by omega) (by omega) haf), if_pos rfl]
        rfl
  | succ m ih =>
    intro i a him hi1 ha
    by_cases haf : a = f
    · exact ⟨(true, f, []), ⟨Nat.le_refl _, fun _ => ⟨by show _ + 0 ≤ 10; omega, fun c hc => (by cases hc)⟩⟩, fun N p l g x he hB hG hla hg hx hr => by
      have hp := al_ep_n he
      refine ⟨av_w N 72 1 (nI 0), ?_, al_f2_w (D := dR p) N (by unfold dR; omega) _, av_w_s _ _ _ _, fun _ => ⟨by rw [show l ++ sFl ([] : List (Nat × Nat × List Nat)) = l from List.append_nil _]; omega, ?_, fun j hj => ?_, (av_w_o _ _ _ _ _ (by omega)).trans hg, (av_w_o _ _ _ _ _ (by omega)).trans hx⟩⟩
      · apply eq_X2_parse_11 (d := e + 14)
        simp only [av_kP]
        rw [if_pos (nI_lt (by omega) (by decide)), if_neg (by decide), hG.1, hB.1, if_neg (nI_nlt (by omega) (by omega)), pl_35 L (e + 14) hG.1 hB.1 ha h100, if_pos haf]
        rfl
      · rw [show l ++ sFl ([] : List (Nat × Nat × List Nat)) = l from List.append_nil _]
        exact (av_w_o _ _ _ _ _ (by omega)).trans hG.2.1
      · rw [show l ++ sFl ([] : List (Nat × Nat × List Nat)) = l from List.append_nil _] at hj ⊢
        exact (av_w_o _ _ _ _ _ (by omega)).trans (hG.2.2 j hj), fun N k s hB hk h14 h24 hs hr h152 => by
      refine ⟨N, ?_, h14.trans (by rw [haf]), al_f2_rf _ _, fun _ => ⟨h152, fun j hj => absurd hj (Nat.not_lt_zero _)⟩⟩
      unfold tM
      rw [h14, hB.1, if_pos (by rw [haf])]
      rfl⟩
    have hlt : a < f := by omega
    have ni10 : ¬ nI i = nI 10 := nI_ne (by omega) (by decide) (by omega)
    have headM : ∀ (N : av_N) (k : Nat) (q : av_Q), qM N F f → N.1 142 14 = nI a → (av_bi (if qG F f a = 59 then some (some (.int (nI 1)), av_w N 142 14 (nI (a + 1))) else some (some (.int (nI 0)), N)) fun z N1 => if z = nI 0 then some (some (.int (nI 0)), N1) else av_V (av_S0 L) (d + 6) ta_X7_goesText 10 [.ref 142, .int (nI k), .int (nI i)] [] N1) = some q → tM L d k i N = some q := fun N k q hB h14 hq => by
      unfold tM
      rw [h14, hB.1, if_neg (nI_ne (by omega) (by omega) haf), if_neg ni10, sp_takes L (d + 4) hF hB h14 ha (by decide) (by decide)]
      exact hq
    have headC : ∀ (N : av_N) (p : Nat) (q : av_Q), qB N F f → N.1 72 2 = nI a → (av_bi (if qG F f a = 59 then some (some (.int (nI 1)), av_w N 72 2 (nI (a + 1))) else some (some (.int (nI 0)), N)) fun z102 N101 => if z102 = nI 0 then av_V (av_S0 L) (e + 15) ta_X2_parse 11 [.ref 72, .ref p, .int (nI 0), .int (nI (i + 1))] [] N101 else av_bi (av_C (av_S0 L) (e + 14) 23 [.ref 72, .ref p] N101) fun z104 N103 => if z104 = nI 0 then av_V (av_S0 L) (e + 15) ta_X2_parse 11 [.ref 72, .ref p, .int (nI 0), .int (nI (i + 1))] [] N103 else av_V (av_S0 L) (e + 15) ta_X2_parse 11 [.ref 72, .ref p, .int (nI 1), .int (nI (i + 1))] [] N103) = some q → av_V (av_S0 L) (e + 15) ta_X2_parse 11 [.ref 72, .ref p, .int (nI 1), .int (nI i)] [] N = some q := fun N p q hB h72 hq => by
      apply eq_X2_parse_11 (d := e + 14)
      simp only [av_kP]
      rw [if_pos (nI_lt (by omega) (by decide)), if_neg (by decide), h72, hB.1, if_pos (nI_lt hlt (by omega)), sp_skip L (e + 13) hF hB h72 ha (by decide) (by decide), nI_add]
      exact hq
    by_cases g59 : qG F f a = 59
    · obtain ⟨r1, k1, C1, M1⟩ := clause_ok L e d hF (a + 1) (by omega)
      have k1' := k1
      obtain ⟨x1, x2, x3⟩ := k1'
      -- what both have done before the clause is known
      have stepC : ∀ (N : av_N) (p : Nat) (l : List Nat) (g x : Nat), al_ep p → qB N F f → cG N p a l → l.length ≤ a → N.1 p 2 = nI g → N.1 p 3 = nI (qTp x) → (∀ p, p < 8 → ∀ k, N.1 p k = (am_roL p).getD k 0) → ∃ N1, al_f2 (dQ p) N N1 ∧ okLR N1 p l g x r1 ∧ ∀ q, (if r1.1 = false then av_V (av_S0 L) (e + 15) ta_X2_parse 11 [.ref 72, .ref p, .int (nI 0), .int (nI (i + 1))] [] N1 else av_V (av_S0 L) (e + 15) ta_X2_parse 11 [.ref 72, .ref p, .int (nI 1), .int (nI (i + 1))] [] N1) = some q → av_V (av_S0 L) (e + 15) ta_X2_parse 11 [.ref 72, .ref p, .int (nI 1), .int (nI i)] [] N = some q := by
        intro N p l g x he hB hG hla hg hx hr
        have hp := al_ep_n he
        have f0 : al_f2 dS N (av_w N 72 2 (nI (a + 1))) := al_f2_w N ⟨rfl, rfl⟩ _
        obtain ⟨N1, c1, c2, c3⟩ := C1 (av_w N 72 2 (nI (a + 1))) p l g x he (qB_S hB f0) (cG_S he hG f0 (av_w_s _ _ _ _)) (by omega) ((av_w_o _ _ _ _ _ (by omega)).trans hg) ((av_w_o _ _ _ _ _ (by omega)).trans hx) (fun p hp k => (av_w_o _ _ _ _ _ (by omega)).trans (hr p hp k))
        refine ⟨N1, al_f2_tr (al_f2_mono f0 dS_Q) c2, c3, fun q hq => headC N p q hB hG.1 ?_⟩
        rw [if_pos g59, av_bi_s, if_neg (by decide), c1, av_bi_s]
        cases hr1 : r1.1
        · rw [hr1, if_pos rfl] at hq
          rw [av_if_f]
          exact hq
        · rw [hr1, if_neg (by decide)] at hq
          rw [av_if_t]
          exact hq
      have stepM : ∀ (N : av_N) (k s : Nat), qM N F f → k ≤ 5 → N.1 142 14 = nI a → N.1 142 24 = nI s → s ≤ 100 * k + a → (∀ k, k < 16 → N.1 159 k = nI (sLetr.getD k 0)) → ∃ M, al_f2 (dC (10 * k + i) s) N M ∧ okLM M (10 * k + i) s r1 ∧ (r1.1 = true → M.1 153 (10 * k + i) = nI r1.2.2.1) ∧ ∀ q, (if r1.1 = false then some (some (.int (nI 0)), M) else tM L d k (i + 1) (av_w M 152 k (nI (i + 1)))) = some q → tM L d k i N = some q := by
        intro N k s hB hk h14 h24 hs hr
        have f0 : al_f2 (dC (10 * k + i) s) N (av_w N 142 14 (nI (a + 1))) := al_f2_w N (by unfold dC; omega) _
        obtain ⟨M, c1, c2, c3, c4⟩ := M1 (av_w N 142 14 (nI (a + 1))) (10 * k + i) s (qM_C hB f0) (by omega) (av_w_s _ _ _ _) ((av_w_k _ _ _ _ (by decide)).trans h24) (by omega) (fun k hk => (av_w_o _ _ _ _ _ (by decide)).trans (hr k hk))
        refine ⟨M, al_f2_tr f0 c2, c3, c4, fun q hq => headM N k q hB h14 ?_⟩
        rw [if_pos g59, av_bi_s, if_neg (by decide)]
        exact goes_step L d hk (by omega) c1 hq
      cases hr1 : r1.1
      · refine ⟨(false, r1.2.1, []), ⟨x2, fun z => (by cases z)⟩, ?_, ?_⟩
        · intro N p l g x he hB hG hla hg hx hr
          obtain ⟨N1, f1, c3, pre⟩ := stepC N p l g x he hB hG hla hg hx hr
          refine ⟨av_w N1 72 1 (nI 0), pre _ ?_, al_f2_tr (al_f2_mono f1 dQ_R) (al_f2_w (D := dR p) N1 (by unfold dR; omega) _), av_w_s _ _ _ _, fun z => (by cases z)⟩
          rw [hr1, if_pos rfl]
          exact pl_no L (e + 14) (by omega) (c3.2 hr1).1
        · intro N k s hB hk h14 h24 hs hr h152
          obtain ⟨M, f1, ⟨m1, m2⟩, m3, pre⟩ := stepM N k s hB hk h14 h24 hs hr
          refine ⟨M, pre _ ?_, m1, al_f2_mono f1 (fun q c z => by unfold dC at z; unfold dL; omega), fun z => (by cases z)⟩
          rw [hr1, if_pos rfl]
          rfl
      · obtain ⟨y1, y2, y3, y4, y5⟩ := x3 hr1
        have hcl : sCl r1.2.2 := sCl_of k1 h100 hr1
        obtain ⟨r2, ⟨u1, u2⟩, C2, M2⟩ := ih (i + 1) r1.2.1 (by omega) (by omega) x2
        refine ⟨(r2.1, r2.2.1, r1.2.2 :: r2.2.2), ⟨u1, fun z => ⟨by rw [List.length_cons]; have := (u2 z).1; omega, fun c hc => ?_⟩⟩, ?_, ?_⟩
        · rcases List.mem_cons.mp hc with rfl | hc
          · exact hcl
          · exact (u2 z).2 c hc
        · intro N p l g x he hB hG hla hg hx hr
          have hp := al_ep_n he
          obtain ⟨N1, f1, c3, pre⟩ := stepC N p l g x he hB hG hla hg hx hr
          obtain ⟨c4, c5, c6⟩ := c3.1 hr1
          have llen : (l ++ sFl [r1.2.2]).length ≤ r1.2.1 := by
            rw [List.length_append]
            show _ + ((if r1.2.2.1 ≤ 1 then r1.2.2.2.2.map sCls ++ [4 + r1.2.2.1 + 8 * r1.2.2.2.1] else []) ++ []).length ≤ _
            rw [List.append_nil]
            by_cases w1 : r1.2.2.1 ≤ 1
            · obtain ⟨z1, z2, z3⟩ := y4 w1
              rw [if_pos w1, List.length_append, List.length_map]
              show _ + (_ + 1) ≤ _
              omega
            · rw [if_neg w1]
              show _ + 0 ≤ _
              omega
          obtain ⟨N2, e1, e2, e3, e4⟩ := C2 N1 p _ _ _ he (qB_Q he hB f1) c4 llen c5 c6 (fun q hq k => ((f1 q k (by unfold dQ; omega)).1).trans (hr q hq k))
          refine ⟨N2, pre _ ?_, al_f2_tr (al_f2_mono f1 dQ_R) e2, e3, fun z => ?_⟩
          · rw [hr1, if_neg (by decide)]
            exact e1
          · have := e4 z
            rw [List.append_assoc, sFl_c] at this
            exact this
        · intro N k s hB hk h14 h24 hs hr h152
          obtain ⟨M, f1, ⟨m1, m2⟩, m3, pre⟩ := stepM N k s hB hk h14 h24 hs hr
          obtain ⟨t1, t2, t3, t4⟩ := m2 hr1
          have tl : r1.2.2.2.2.length + a + 1 ≤ r1.2.1 := by
            by_cases w1 : r1.2.2.1 ≤ 1
            · obtain ⟨z1, z2, z3⟩ := y4 w1
              omega
            · rw [y5 w1]
              show 0 + a + 1 ≤ _
              omega
          have f2 : al_f2 (dL k i s) N (av_w M 152 k (nI (i + 1))) := al_f2_tr (al_f2_mono f1 (fun q c z => by unfold dC at z; unfold dL; omega)) (al_f2_w (D := dL k i s) M (by unfold dL; omega) _)
          obtain ⟨M3, e1, e2, e3, e4⟩ := M2 (av_w M 152 k (nI (i + 1))) k (s + r1.2.2.2.2.length) (qM_on hB f2 (by unfold dL; omega) (fun k => by unfold dL; omega)) hk ((av_w_o _ _ _ _ _ (by decide)).trans m1) ((av_w_o _ _ _ _ _ (by decide)).trans t2) (by omega) (fun k hk => ((f2 159 k (by unfold dL; omega)).1).trans (hr k hk)) (av_w_s _ _ _ _)
          refine ⟨M3, pre _ ?_, e2, al_f2_tr f2 (al_f2_mono e3 (dL_le (by omega) (by omega))), fun z => ?_⟩
          · rw [hr1, if_neg (by decide)]
            exact e1
          · obtain ⟨v1, v2⟩ := e4 z
            refine ⟨?_, fun j hj => ?_⟩
            · rw [v1]
              show nI (i + 1 + r2.2.2.length) = nI (i + (r2.2.2.length + 1))
              congr 1
              omega
            · cases j with
              | zero =>
                have rd : ∀ q, 153 ≤ q → q ≤ 156 → M3.1 q (10 * k + i + 0) = M.1 q (10 * k + i) := fun q a1 a2 => ((e3 q _ (by unfold dL; omega)).1).trans (av_w_o _ _ _ _ _ (by omega))
                refine ⟨(rd 153 (by omega) (by omega)).trans (m3 hr1), (rd 154 (by omega) (by omega)).trans t1, fun w1 => ?_⟩
                obtain ⟨t5, t6⟩ := t3 w1
                refine ⟨s, (rd 155 (by omega) (by omega)).trans t5, (rd 156 (by omega) (by omega)).trans t6, by show s + r1.2.2.2.2.length ≤ _; omega, fun j hj => ?_⟩
                have hj : j < r1.2.2.2.2.length := hj
                rw [(e3 157 _ (by unfold dL; omega)).1, av_w_o _ _ _ _ _ (by decide)]
                exact t4 j hj
              | succ j =>
                have := v2 j (by have : j + 1 < r2.2.2.length + 1 := hj; omega)
                rw [show 10 * k + (i + 1) + j = 10 * k + i + (j + 1) by omega] at this
                exact this
    · refine ⟨(false, a, []), ⟨ha, fun z => (by cases z)⟩, ?_, ?_⟩
      · intro N p l g x he hB hG hla hg hx hr
        refine ⟨av_w N 72 1 (nI 0), headC N p _ hB hG.1 ?_, al_f2_w (D := dR p) N (by unfold dR; omega) _, av_w_s _ _ _ _, fun z => (by cases z)⟩
        rw [if_neg g59, av_bi_s, if_pos rfl]
        exact pl_no L (e + 14) (by omega) hG.1
      · intro N k s hB hk h14 h24 hs hr h152
        refine ⟨N, headM N k _ hB h14 ?_, h14, al_f2_rf _ _, fun z => (by cases z)⟩
        rw [if_neg g59, av_bi_s, if_pos rfl]
        rfl
