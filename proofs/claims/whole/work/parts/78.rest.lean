/-! clauses: what follows the word -/
theorem cG_Q {N N' : av_N} {p a a' : Nat} {l : List Nat} (h : cG N p a l) (h1 : N'.1 72 2 = nI a') (h2 : N'.1 p 1 = N.1 p 1) (h3 : ∀ k, N'.1 (p + 1) k = N.1 (p + 1) k) : cG N' p a' l := ⟨h1, h2.trans h.2.1, fun i hi => (h3 i).trans (h.2.2 i hi)⟩
theorem qB_Q {N N' : av_N} {F : Nat → Nat} {f p : Nat} (he : al_ep p) (h : qB N F f) (hf : al_f2 (dQ p) N N') : qB N' F f := by
  have hp := al_ep_n he
  exact qB_on h hf (by unfold dQ; omega) (fun k => by unfold dQ; omega)
theorem sp_top2 (L : av_W) (d : Nat) (N : av_N) {v : Nat} (hv : v ≤ 99) : ∃ y, av_C (av_S0 L) d 220 [.int (nI 10), .int (nI v)] N = some (some (.int y), N) ∧ av_C (av_S0 L) d 219 [.int (nI 1), .int y] N = some (some (.int (nI (qTp v))), N) := by
  refine ⟨_, sp_min L d _ _ N, ?_⟩
  rw [sp_max]
  have e : (if nI v < nI 10 then nI v else nI 10) = nI (if v < 10 then v else 10) := by
    by_cases h : v < 10
    · rw [if_pos (nI_lt h (by decide)), if_pos h]
    · rw [if_neg (nI_nlt (by omega) (by omega)), if_neg h]
  rw [e]
  have e2 : (if nI 1 < nI (if v < 10 then v else 10) then nI (if v < 10 then v else 10) else nI 1) = nI (qTp v) := by
    unfold qTp
    by_cases h : v < 10
    · rw [if_pos h, if_neg (show ¬ 10 < v by omega)]
      by_cases h2 : 1 < v
      · rw [if_pos (nI_lt h2 (by omega)), if_neg (show ¬ v < 1 by omega)]
      · rw [if_neg (nI_nlt (by omega) (by omega))]
        by_cases h1 : v < 1
        · rw [if_pos h1]
        · rw [if_neg h1, show v = 1 by omega]
    · rw [if_neg h, if_pos (show nI 1 < nI 10 by decide), if_neg (show ¬ v < 1 by omega)]
      by_cases h2 : 10 < v
      · rw [if_pos h2]
      · rw [if_neg h2, show v = 10 by omega]
  rw [e2]
noncomputable def wC (L : av_W) (D w p : Nat) (N : av_N) : Option av_Q := if w ≤ 1 then av_C (av_S0 L) D 24 [.ref 72, .ref p, .int (nI (4 + w))] N else if w = 2 then av_C (av_S0 L) D 25 [.ref 72, .ref p] N else av_C (av_S0 L) D 26 [.ref 72, .ref p] N
noncomputable def wM (L : av_W) (d c : Nat) (N : av_N) : Option av_Q := av_bi (av_C (av_S0 L) (d + 4) 131 [.ref 142] N) fun z104 N103 => if z104 = nI 0 then some (some (.int (nI 0)), N103) else if N103.1 153 c < nI 2 then av_bi (av_C (av_S0 L) (d + 4) 128 [.ref 142, .int (nI 32)] (av_w N103 154 c (N103.1 142 15))) fun z106 N105 => if z106 = nI 0 then some (some (.int (nI 0)), N105) else av_bi (av_C (av_S0 L) (d + 4) 137 [.ref 142, .int (nI c)] N105) fun z108 N107 => if z108 = nI 0 then some (some (.int (nI 0)), N107) else some (some (.int (nI 1)), N107) else some (some (.int (nI 1)), av_w N103 154 c (N103.1 142 15))
def okWC (L : av_W) (D w : Nat) (F : Nat → Nat) (f a : Nat) (r : Bool × Nat × (Nat × Nat × List Nat)) : Prop := ∀ (N : av_N) (p : Nat) (l : List Nat) (g x : Nat), al_ep p → qB N F f → cG N p a l → l.length + 1 ≤ a → N.1 p 2 = nI g → N.1 p 3 = nI (qTp x) → ∃ N', wC L D w p N = some (some (.int (av_b r.1)), N') ∧ al_f2 (dQ p) N N' ∧ okLR N' p l g x r
def okWM (L : av_W) (d w : Nat) (F : Nat → Nat) (f a : Nat) (r : Bool × Nat × (Nat × Nat × List Nat)) : Prop := ∀ (N : av_N) (c s : Nat), qM N F f → c < 60 → N.1 142 14 = nI a → N.1 142 24 = nI s → s ≤ 500 + a → N.1 153 c = nI w → ∃ M, wM L d c N = some (some (.int (av_b r.1)), M) ∧ al_f2 (dC c s) N M ∧ okLM M c s r ∧ M.1 153 c = nI w
theorem qM_C {N N' : av_N} {F : Nat → Nat} {f c s : Nat} (h : qM N F f) (hf : al_f2 (dC c s) N N') : qM N' F f := qM_on h hf (by unfold dC; omega) (fun k => by unfold dC; omega)
/-- no number -/
theorem rest_none (L : av_W) (D d w : Nat) {F : Nat → Nat} {f a : Nat} (hF : qF F f) (ha : a ≤ f) (hn : qN F f a = none) : okWC L (D + 2) w F f a (false, a, (w, 0, [])) ∧ okWM L d w F f a (false, a, (w, 0, [])) := by
  have h100 := hF.1
  refine ⟨?_, ?_⟩
  · intro N p l g x he hB hG hla hg hx
    have hp := al_ep_n he
    obtain ⟨s1, s2, s3, s4⟩ := al_epE he L
    have num := (sp_number L D hF hB hG.1 ha).1 hn
    have cx : cX N p a := cG_X hG (by omega)
    unfold wC
    by_cases h1 : w ≤ 1
    · rw [if_pos h1]
      obtain ⟨N1, c1, c2, c3⟩ := cX_put L (D + 1) he cx (nI (4 + w)) (av_k (-1))
      refine ⟨N1, ?_, al_f2_mono c3 (fun q k z => dP_Q q k (Or.inr z)), fun z => (by cases z), fun _ => c2⟩
      apply eq_X2_change (d := D + 1)
      simp only [av_kP]
      rw [num, av_bi_s, if_pos rfl, s1, av_tg_s, c1, av_bv_s, av_bt_0]
      rfl
    · rw [if_neg h1]
      by_cases h2 : w = 2
      · rw [if_pos h2]
        refine ⟨av_w N p 2 (av_k (-1)), ?_, al_f2_w (D := dQ p) N (by unfold dQ; omega) _, fun z => (by cases z), fun _ => ?_⟩
        · apply eq_X2_gain (d := D + 1)
          rw [num, av_bi_s, s1, av_tg_s, if_pos rfl]
          rfl
        · obtain ⟨x1, s, x2, x3⟩ := cx
          exact ⟨(av_w_o _ _ _ _ _ (by omega)).trans x1, s, x2, (av_w_k _ _ _ _ (by decide)).trans x3⟩
      · rw [if_neg h2]
        have m1 := sp_min L (D + 1) (nI 10) (av_k (-1)) N
        have m2 := sp_max L (D + 1) (nI 1) (if av_k (-1) < nI 10 then av_k (-1) else nI 10) N
        refine ⟨av_w N p 3 (if nI 1 < (if av_k (-1) < nI 10 then av_k (-1) else nI 10) then (if av_k (-1) < nI 10 then av_k (-1) else nI 10) else nI 1), ?_, al_f2_w (D := dQ p) N (by unfold dQ; omega) _, fun z => (by cases z), fun _ => ?_⟩
        · apply eq_X2_top (d := D + 1)
          simp only [av_kP]
          rw [num, av_bi_s, m1, av_bi_s, m2, av_bi_s, s1, av_tg_s, if_pos rfl]
          rfl
        · obtain ⟨x1, s, x2, x3⟩ := cx
          exact ⟨(av_w_o _ _ _ _ _ (by omega)).trans x1, s, x2, (av_w_k _ _ _ _ (by decide)).trans x3⟩
  · intro N c s hB hc ha14 hs hsa hw
    refine ⟨N, ?_, al_f2_rf _ _, ⟨ha14, fun z => (by cases z)⟩, hw⟩
    unfold wM
    rw [(sp_takesNumber L (d + 2) hF hB ha14 ha).1 hn, av_bi_s, if_pos rfl]
    rfl
/-- gain and top -/
theorem rest_num (L : av_W) (D d w : Nat) {F : Nat → Nat} {f a : Nat} {r : Nat × Nat} (hF : qF F f) (ha : a ≤ f) (hn : qN F f a = some r) (hw : w = 2 ∨ w = 3) : okWC L (D + 2) w F f a (true, r.2, (w, r.1, [])) ∧ okWM L d w F f a (true, r.2, (w, r.1, [])) := by
  have h100 := hF.1
  obtain ⟨n1, n2, n3⟩ := qN_le hn
  have hnm : ¬ nI r.1 = av_k (-1) := nI_nm1 (by omega)
  refine ⟨?_, ?_⟩
  · intro N p l g x he hB hG hla hg hx
    have hp := al_ep_n he
    obtain ⟨s1, s2, s3, s4⟩ := al_epE he L
    obtain ⟨N1, c1, c2, c3⟩ := (sp_number L D hF hB hG.1 ha).2 r hn
    have rd : ∀ q k, q ≠ 72 → N1.1 q k = N.1 q k := fun q k z => (c3 q k (by unfold dS; omega)).1
    unfold wC
    rcases hw with rfl | rfl
    · rw [if_neg (by decide), if_pos rfl]
      refine ⟨av_w N1 p 2 (nI r.1), ?_, al_f2_tr (al_f2_mono c3 dS_Q) (al_f2_w (D := dQ p) N1 (by unfold dQ; omega) _), fun _ => ⟨?_, ?_, ?_⟩, fun z => (by cases z)⟩
      · apply eq_X2_gain (d := D + 1)
        rw [c1, av_bi_s, s1, av_tg_s, if_neg hnm]
        rfl
      · rw [show l ++ sFl [(2, r.1, [])] = l from List.append_nil _]
        exact cG_Q hG ((av_w_o _ _ _ _ _ (by omega)).trans c2) ((av_w_k _ _ _ _ (by decide)).trans (rd _ _ (by omega))) (fun k => (av_w_o _ _ _ _ _ (by omega)).trans (rd _ _ (by omega)))
      · exact av_w_s _ _ _ _
      · exact ((av_w_k _ _ _ _ (by decide)).trans (rd _ _ (by omega))).trans hx
    · rw [if_neg (by decide), if_neg (by decide)]
      obtain ⟨y, m1, m2⟩ := sp_top2 L (D + 1) N1 n1
      refine ⟨av_w N1 p 3 (nI (qTp r.1)), ?_, al_f2_tr (al_f2_mono c3 dS_Q) (al_f2_w (D := dQ p) N1 (by unfold dQ; omega) _), fun _ => ⟨?_, ?_, ?_⟩, fun z => (by cases z)⟩
      · apply eq_X2_top (d := D + 1)
        simp only [av_kP]
        rw [c1, av_bi_s, m1, av_bi_s, m2, av_bi_s, s1, av_tg_s, if_neg hnm]
        rfl
      · rw [show l ++ sFl [(3, r.1, [])] = l from List.append_nil _]
        exact cG_Q hG ((av_w_o _ _ _ _ _ (by omega)).trans c2) ((av_w_k _ _ _ _ (by decide)).trans (rd _ _ (by omega))) (fun k => (av_w_o _ _ _ _ _ (by omega)).trans (rd _ _ (by omega)))
      · exact ((av_w_k _ _ _ _ (by decide)).trans (rd _ _ (by omega))).trans hg
      · exact av_w_s _ _ _ _
  · intro N c s hB hc ha14 hs hsa hw153
    obtain ⟨M1, c1, c2, c3, c4⟩ := (sp_takesNumber L (d + 2) hF hB ha14 ha).2 r hn
    have rd : ∀ q k, q ≠ 142 → M1.1 q k = N.1 q k := fun q k z => (c4 q k (by unfold dN; omega)).1
    refine ⟨av_w M1 154 c (nI r.1), ?_, al_f2_tr (al_f2_mono c4 dN_C) (al_f2_w (D := dC c s) M1 (by unfold dC; omega) _), ⟨(av_w_o _ _ _ _ _ (by decide)).trans c2, fun _ => ⟨av_w_s _ _ _ _, ((av_w_o _ _ _ _ _ (by decide)).trans ((c4 142 24 (by unfold dN; omega)).1)).trans hs, fun z => ?_, tk_nil _ _⟩⟩, ((av_w_o _ _ _ _ _ (by decide)).trans (rd _ _ (by decide))).trans hw153⟩
    · unfold wM
      rw [c1, av_bi_s, if_neg (by decide), rd 153 c (by decide), hw153, if_neg (by rcases hw with rfl | rfl <;> decide), c3]
      rfl
    · have z : w ≤ 1 := z
      omega
