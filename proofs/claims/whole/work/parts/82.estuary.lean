/-! a text told, read: the call -/
def okTC (L : av_W) (D : Nat) (F : Nat → Nat) (f : Nat) (r : qX) : Prop := ∀ (N : av_N) (p : Nat), al_ep p → qB N F f → (∀ p, p < 8 → ∀ k, N.1 p k = (am_roL p).getD k 0) → ∃ N', av_C (av_S0 L) D 22 [.ref 72, .ref p] N = some (some (.int (if r.1 = true then av_k (-1) else nI r.2.1)), N') ∧ al_f2 (dR p) N N' ∧ N'.1 72 1 = nI 0 ∧ (r.1 = true → cL N' p (sFl r.2.2) (sLast 2 r.2.2 0) (sLast 3 r.2.2 10))
def okTM (L : av_W) (D : Nat) (F : Nat → Nat) (f : Nat) (r : qX) : Prop := ∀ (N : av_N) (k : Nat), qM N F f → k ≤ 5 → (∀ k, k < 16 → N.1 159 k = nI (sLetr.getD k 0)) → ∃ M, av_C (av_S0 L) D 140 [.ref 142, .int (nI k)] N = some (some (.int (av_b r.1)), M) ∧ M.1 142 14 = nI r.2.1 ∧ al_f2 (dL k 0 (100 * k)) N M ∧ (r.1 = true → M.1 152 k = nI r.2.2.length ∧ ∀ j, j < r.2.2.length → mCl M k (10 * k + j) (r.2.2.getD j (0, 0, [])))
theorem text_ok (L : av_W) (e d : Nat) {F : Nat → Nat} {f : Nat} (hF : qF F f) : ∃ r : qX, r.2.1 ≤ f ∧ (r.1 = true → r.2.2.length ≤ 10 ∧ ∀ c ∈ r.2.2, sCl c) ∧ okTC L (e + 15) F f r ∧ okTM L (d + 6) F f r := by
  have h100 := hF.1
  obtain ⟨r1, k1, C1, M1⟩ := clause_ok L e d hF 0 (Nat.zero_le _)
  have k1' := k1
  obtain ⟨x1, x2, x3⟩ := k1'
  have stepC : ∀ (N : av_N) (p : Nat), al_ep p → qB N F f → (∀ p, p < 8 → ∀ k, N.1 p k = (am_roL p).getD k 0) → ∃ N1, al_f2 (dQ p) N N1 ∧ okLR N1 p [] 0 10 r1 ∧ ∀ q, (if r1.1 = false then av_V (av_S0 L) (e + 15) ta_X2_parse 11 [.ref 72, .ref p, .int (nI 0), .int (nI 1)] [] N1 else av_V (av_S0 L) (e + 15) ta_X2_parse 11 [.ref 72, .ref p, .int (nI 1), .int (nI 1)] [] N1) = some q → av_C (av_S0 L) (e + 15) 22 [.ref 72, .ref p] N = some q := by
    intro N p he hB hr
    have hp := al_ep_n he
    obtain ⟨s1, s2, s3, s4⟩ := al_epE he L
    have f0 : al_f2 (dQ p) N (av_w (av_w (av_w (av_w N 72 2 (nI 0)) p 1 (nI 0)) p 2 (nI 0)) p 3 (nI 10)) := al_f2_tr (al_f2_w (D := dQ p) N (by unfold dQ; omega) _) (al_f2_tr (al_f2_w (D := dQ p) _ (by unfold dQ; omega) _) (al_f2_tr (al_f2_w (D := dQ p) _ (by unfold dQ; omega) _) (al_f2_w (D := dQ p) _ (by unfold dQ; omega) _)))
    have clr : av_C (av_S0 L) (e + 14) 14 [.ref p] (av_w N 72 2 (nI 0)) = some (none, av_w (av_w (av_w (av_w N 72 2 (nI 0)) p 1 (nI 0)) p 2 (nI 0)) p 3 (nI 10)) := by
      apply eq_X1_clear
      simp only [av_kP]
      rw [s1, av_tg_s, av_tg_s, av_tg_s]
    obtain ⟨N1, c1, c2, c3⟩ := C1 (av_w (av_w (av_w (av_w N 72 2 (nI 0)) p 1 (nI 0)) p 2 (nI 0)) p 3 (nI 10)) p [] 0 10 he (qB_Q he hB f0) ⟨by
      rw [av_w_o _ _ _ _ _ (by omega), av_w_o _ _ _ _ _ (by omega), av_w_o _ _ _ _ _ (by omega), av_w_s], by
      rw [av_w_k _ _ _ _ (by decide), av_w_k _ _ _ _ (by decide), av_w_s]
      rfl, fun i hi => absurd hi (Nat.not_lt_zero _)⟩ (Nat.le_refl _) (by rw [av_w_k _ _ _ _ (by decide), av_w_s]) (by rw [av_w_s]; rfl) (fun q hq k => ((f0 q k (by unfold dQ; omega)).1).trans (hr q hq k))
    refine ⟨N1, al_f2_tr f0 c2, c3, fun q hq => ?_⟩
    apply eq_X2_parse (d := e + 14)
    simp only [av_kP]
    rw [s1, av_tg_s, clr, av_bv_s, c1, av_bi_s]
    cases hr1 : r1.1
    · rw [hr1, if_pos rfl] at hq
      exact hq
    · rw [hr1, if_neg (by decide)] at hq
      exact hq
  have stepM : ∀ (N : av_N) (k : Nat), qM N F f → k ≤ 5 → (∀ k, k < 16 → N.1 159 k = nI (sLetr.getD k 0)) → ∃ M, al_f2 (dL k 0 (100 * k)) N M ∧ okLM M (10 * k) (100 * k) r1 ∧ (r1.1 = true → M.1 153 (10 * k) = nI r1.2.2.1) ∧ ∀ q, (if r1.1 = false then some (some (.int (nI 0)), M) else tM L d k (0 + 1) (av_w M 152 k (nI (0 + 1)))) = some q → av_C (av_S0 L) (d + 6) 140 [.ref 142, .int (nI k)] N = some q := by
    intro N k hB hk hr
    have f0 : al_f2 (dL k 0 (100 * k)) N (av_w (av_w N 142 14 (nI 0)) 142 24 (nI (100 * k))) := al_f2_tr (al_f2_w (D := dL k 0 (100 * k)) N (by unfold dL; omega) _) (al_f2_w (D := dL k 0 (100 * k)) _ (by unfold dL; omega) _)
    obtain ⟨M, c1, c2, c3, c4⟩ := M1 (av_w (av_w N 142 14 (nI 0)) 142 24 (nI (100 * k))) (10 * k) (100 * k) (qM_on hB f0 (by unfold dL; omega) (fun k => by unfold dL; omega)) (by omega) (by rw [av_w_k _ _ _ _ (by decide), av_w_s]) (av_w_s _ _ _ _) (by omega) (fun k hk => ((f0 159 k (by unfold dL; omega)).1).trans (hr k hk))
    refine ⟨M, al_f2_tr f0 (al_f2_mono c2 (fun q c z => by unfold dC at z; unfold dL; omega)), c3, c4, fun q hq => ?_⟩
    apply eq_X7_goesText (d := d + 5)
    simp only [av_kP]
    rw [av_mul]
    exact goes_step L d hk (by decide) c1 hq
  cases hr1 : r1.1
  · refine ⟨(false, r1.2.1, []), x2, fun z => (by cases z), ?_, ?_⟩
    · intro N p he hB hr
      have hp := al_ep_n he
      obtain ⟨N1, f1, c3, pre⟩ := stepC N p he hB hr
      refine ⟨av_w N1 72 1 (nI 0), pre _ ?_, al_f2_tr (al_f2_mono f1 dQ_R) (al_f2_w (D := dR p) N1 (by unfold dR; omega) _), av_w_s _ _ _ _, fun z => (by cases z)⟩
      rw [hr1, if_pos rfl]
      exact pl_no L (e + 14) (by decide) (c3.2 hr1).1
    · intro N k hB hk hr
      obtain ⟨M, f1, ⟨m1, m2⟩, m3, pre⟩ := stepM N k hB hk hr
      refine ⟨M, pre _ ?_, m1, f1, fun z => (by cases z)⟩
      rw [hr1, if_pos rfl]
      rfl
  · obtain ⟨y1, y2, y3, y4, y5⟩ := x3 hr1
    have hcl : sCl r1.2.2 := sCl_of k1 h100 hr1
    obtain ⟨r2, ⟨u1, u2⟩, C2, M2⟩ := loop_ok L e d hF 9 1 r1.2.1 (by decide) (by decide) x2
    refine ⟨(r2.1, r2.2.1, r1.2.2 :: r2.2.2), u1, fun z => ⟨by rw [List.length_cons]; have := (u2 z).1; omega, fun c hc => ?_⟩, ?_, ?_⟩
    · rcases List.mem_cons.mp hc with rfl | hc
      · exact hcl
      · exact (u2 z).2 c hc
    · intro N p he hB hr
      have hp := al_ep_n he
      obtain ⟨N1, f1, c3, pre⟩ := stepC N p he hB hr
      obtain ⟨c4, c5, c6⟩ := c3.1 hr1
      rw [List.nil_append] at c4
      have llen : (sFl [r1.2.2]).length ≤ r1.2.1 := by
        show ((if r1.2.2.1 ≤ 1 then r1.2.2.2.2.map sCls ++ [4 + r1.2.2.1 + 8 * r1.2.2.2.1] else []) ++ []).length ≤ _
        rw [List.append_nil]
        by_cases w1 : r1.2.2.1 ≤ 1
        · obtain ⟨z1, z2, z3⟩ := y4 w1
          rw [if_pos w1, List.length_append, List.length_map]
          show _ + 1 ≤ _
          omega
        · rw [if_neg w1]
          show 0 ≤ _
          omega
      obtain ⟨N2, e1, e2, e3, e4⟩ := C2 N1 p _ _ _ he (qB_Q he hB f1) c4 llen c5 c6 (fun q hq k => ((f1 q k (by unfold dQ; omega)).1).trans (hr q hq k))
      refine ⟨N2, pre _ ?_, al_f2_tr (al_f2_mono f1 dQ_R) e2, e3, fun z => ?_⟩
      · rw [hr1, if_neg (by decide)]
        exact e1
      · have := e4 z
        rw [sFl_c] at this
        exact this
    · intro N k hB hk hr
      obtain ⟨M, f1, ⟨m1, m2⟩, m3, pre⟩ := stepM N k hB hk hr
      obtain ⟨t1, t2, t3, t4⟩ := m2 hr1
      have tl : r1.2.2.2.2.length + 1 ≤ r1.2.1 := by
        by_cases w1 : r1.2.2.1 ≤ 1
        · obtain ⟨z1, z2, z3⟩ := y4 w1
          omega
        · rw [y5 w1]
          show 0 + 1 ≤ _
          omega
      have f2 : al_f2 (dL k 0 (100 * k)) N (av_w M 152 k (nI (0 + 1))) := al_f2_tr f1 (al_f2_w (D := dL k 0 (100 * k)) M (by unfold dL; omega) _)
      obtain ⟨M3, e1, e2, e3, e4⟩ := M2 (av_w M 152 k (nI (0 + 1))) k (100 * k + r1.2.2.2.2.length) (qM_on hB f2 (by unfold dL; omega) (fun k => by unfold dL; omega)) hk ((av_w_o _ _ _ _ _ (by decide)).trans m1) ((av_w_o _ _ _ _ _ (by decide)).trans t2) (by omega) (fun k hk => ((f2 159 k (by unfold dL; omega)).1).trans (hr k hk)) (av_w_s _ _ _ _)
      refine ⟨M3, pre _ ?_, e2, al_f2_tr f2 (al_f2_mono e3 (dL_le (by omega) (by omega))), fun z => ?_⟩
      · rw [hr1, if_neg (by decide)]
        exact e1
      · obtain ⟨v1, v2⟩ := e4 z
        refine ⟨?_, fun j hj => ?_⟩
        · rw [v1]
          show nI (1 + r2.2.2.length) = nI (r2.2.2.length + 1)
          congr 1
          omega
        · cases j with
          | zero =>
            have rd : ∀ q, 153 ≤ q → q ≤ 156 → M3.1 q (10 * k + 0) = M.1 q (10 * k) := fun q a1 a2 => ((e3 q _ (by unfold dL; omega)).1).trans (av_w_o _ _ _ _ _ (by omega))
            refine ⟨(rd 153 (by omega) (by omega)).trans (m3 hr1), (rd 154 (by omega) (by omega)).trans t1, fun w1 => ?_⟩
            obtain ⟨t5, t6⟩ := t3 w1
            refine ⟨100 * k, (rd 155 (by omega) (by omega)).trans t5, (rd 156 (by omega) (by omega)).trans t6, by show 100 * k + r1.2.2.2.2.length ≤ _; omega, fun j hj => ?_⟩
            have hj : j < r1.2.2.2.2.length := hj
            rw [(e3 157 _ (by unfold dL; omega)).1, av_w_o _ _ _ _ _ (by decide)]
            exact t4 j hj
          | succ j =>
            have := v2 j (by have : j + 1 < r2.2.2.length + 1 := hj; omega)
            rw [show 10 * k + 1 + j = 10 * k + (j + 1) by omega] at this
            exact this
theorem qTp_top (cs : List (Nat × Nat × List Nat)) : qTp (sLast 3 cs 10) = sTop cs := rfl
theorem cl_estuary (L : av_W) (d : Nat) {N : av_N} (hR : RR N) : al_call L (d + 20) N 53 [.ref 9] 141 [.ref 142] := by
  have hR' := hR
  obtain ⟨n, day, B, e, k, T, hB, hE, he, hI, hF0, hS, hL, hK, hT, hX, hO⟩ := hR
  have hE' := hE
  obtain ⟨k6, E1, E2, E3, E4⟩ := hE'
  obtain ⟨f, F, f100, F1, F2, F3⟩ := hF0
  have hF : qF F f := ⟨f100, fun j hj => (F3 j hj).2.2⟩
  have qb : qB N F f := ⟨F1, fun j hj => (F3 j hj).1⟩
  have qm : qM N F f := ⟨F2, fun j hj => (F3 j hj).2.1⟩
  by_cases hk6 : k = 6
  · refine call_no hR' (.int (av_k (-4))) ?_ ?_
    · apply eq_X6_estuary (d := d + 19)
      simp only [av_kP]
      rw [E1, if_neg (nI_nlt (by omega) (by omega))]
    · apply eq_X7_estuary (d := d + 19)
      simp only [av_kP]
      rw [E2, if_pos (by rw [hk6])]
  have hk5 : k ≤ 5 := by omega
  obtain ⟨r, r1, r2, C, M⟩ := text_ok L (d + 4) (d + 13) hF
  have hp : al_ep (118 + 2 * k) := ⟨k + 1, by omega, by omega⟩
  obtain ⟨N1, c1, c2, c3, c4⟩ := C N (118 + 2 * k) hp qb hO.1
  -- the class's end
  have preC : ∀ q, (if (if r.1 = true then av_k (-1) else nI r.2.1) = av_k (-1) then some (some (.int (nI (k + 1) - nI 1)), av_w (av_w N1 9 5 (nI (k + 1))) 10 3 (nI (k + 1))) else some (some (.int (av_k (-10) - (if r.1 = true then av_k (-1) else nI r.2.1))), N1)) = some q → av_C (av_S0 L) (d + 20) 53 [.ref 9] N = some q := fun q hq => by
    apply eq_X6_estuary (d := d + 19)
    simp only [av_kP]
    have e5 : N1.1 9 5 = nI k := ((c2 9 5 (by unfold dR; omega)).1).trans E1
    rw [E1, if_pos (nI_lt (by omega) (by decide)), nI_add, av_gx_s (by omega) (by omega), nI_clamp (by omega), al_R74 (k + 1) (by omega), av_bd_s, show 116 + 2 * (k + 1) = 118 + 2 * k by omega, c1, av_bi_s, e5, nI_add]
    simp (disch := decide) only [av_w_s, av_w_o]
    exact hq
  have qmOf : ∀ N2 : av_N, (∀ q j, q ≠ 9 → q ≠ 10 → N2.1 q j = N1.1 q j) → qM N2 F f ∧ (∀ j, j < 16 → N2.1 159 j = nI (sLetr.getD j 0)) ∧ N2.1 142 11 = nI k := fun N2 h2 => by
    refine ⟨⟨?_, fun j hj => ?_⟩, fun j hj => ?_, ?_⟩
    · rw [h2 _ _ (by decide) (by decide), (c2 _ _ (by unfold dR; omega)).1]
      exact qm.1
    · rw [h2 _ _ (by decide) (by decide), (c2 _ _ (by unfold dR; omega)).1]
      exact qm.2 j hj
    · rw [h2 _ _ (by decide) (by decide), (c2 _ _ (by unfold dR; omega)).1]
      exact hO.2 j hj
    · rw [h2 _ _ (by decide) (by decide), (c2 _ _ (by unfold dR; omega)).1]
      exact E2
  cases hr : r.1
  · -- a text that does not go
    obtain ⟨a1, a2, a3⟩ := qmOf N1 (fun _ _ _ _ => rfl)
    obtain ⟨M1, m1, m2, m3, m4⟩ := M N1 k a1 hk5 a2
    have f1 : al_f2 (fun q j => dR (118 + 2 * k) q j ∨ dL k 0 (100 * k) q j ∨ (q = 142 ∧ j = 13)) N (av_w M1 142 13 (nI 0)) := al_f2_tr (al_f2_mono c2 (fun q j z => Or.inl z)) (al_f2_tr (al_f2_mono m3 (fun q j z => Or.inr (Or.inl z))) (al_f2_w _ (Or.inr (Or.inr ⟨rfl, rfl⟩)) _))
    have rd : ∀ q j, ¬ (dR (118 + 2 * k) q j ∨ dL k 0 (100 * k) q j ∨ (q = 142 ∧ j = 13)) → (av_w M1 142 13 (nI 0)).1 q j = N.1 q j := fun q j z => (f1 q j z).1
    refine ⟨.int (av_k (-10) - nI r.2.1), N1, av_w M1 142 13 (nI 0), preC _ ?_, ?_, ⟨n, day, B, e, k, T, gB_on hB (eqOn_of f1 (fun q j z => by unfold uB at z; unfold dR dL; omega)), ⟨k6, ?_, ?_, ?_, fun i hi => ?_⟩, he, gI_on hI (eqOn_of f1 (fun q j z => by unfold uI at z; unfold dR dL; omega)), ⟨0, F, by decide, ?_, av_w_s _ _ _ _, fun j hj => absurd hj (Nat.not_lt_zero _)⟩, gSx_on hS (eqOn_of f1 (fun q j z => by unfold uS at z; unfold dR dL; omega)), gLx_on hL (eqOn_of f1 (fun q j z => by unfold uL at z; unfold dR dL; omega)), gKx_on hK (eqOn_of f1 (fun q j z => by unfold uK at z; unfold dR dL; omega)), gTx_on hT (eqOn_of f1 (fun q j z => by unfold uT at z; unfold dR dL; omega)), gX_on hX (eqOn_of f1 (fun q j z => by unfold uX at z; unfold dR dL; omega)), gO_on hO (eqOn_of f1 (fun q j z => by unfold uO at z; unfold dR dL; omega))⟩, fun j => (c2 8 j (by unfold dR; omega)).1⟩
    · rw [hr, if_neg (show ¬ (false = true) by decide), if_neg (nI_nm1 (show r.2.1 < 2 ^ 31 by omega))]
    · apply eq_X7_estuary (d := d + 19)
      simp only [av_kP]
      rw [a3, if_neg (nI_ne (by omega) (by decide) hk6), m1, av_bi_s, hr, av_if_f, av_w_k _ _ _ _ (by decide), m2]
    · exact (rd _ _ (by unfold dR dL; omega)).trans E1
    · exact (rd _ _ (by unfold dR dL; omega)).trans E2
    · exact al_es_on E3 (fun j => rd _ _ (by unfold dR dL; omega)) (fun j => rd _ _ (by unfold dR dL; omega))
    · obtain ⟨z1, z2, z3, z4⟩ := E4 i hi
      exact ⟨al_es_on z1 (fun j => rd _ _ (by unfold dR dL; omega)) (fun j => rd _ _ (by unfold dR dL; omega)), (rd _ _ (by unfold dR dL; omega)).trans z2, al_mt_on z3 (fun q c x1 x2 x3 => rd _ _ (by unfold dR dL; omega)) (fun c x1 => rd _ _ (by unfold dR dL; omega)), z4⟩
    · exact ((av_w_o _ _ _ _ _ (by decide)).trans ((m3 72 1 (by unfold dL; omega)).1)).trans c3
  · -- one that goes
    obtain ⟨l10, hcl⟩ := r2 hr
    obtain ⟨c5, c6, c7, c8, c9⟩ := c4 hr
    obtain ⟨a1, a2, a3⟩ := qmOf (av_w (av_w N1 9 5 (nI (k + 1))) 10 3 (nI (k + 1))) (fun q j x y => by rw [av_w_o _ _ _ _ _ y, av_w_o _ _ _ _ _ x])
    obtain ⟨M1, m1, m2, m3, m4⟩ := M (av_w (av_w N1 9 5 (nI (k + 1))) 10 3 (nI (k + 1))) k a1 hk5 a2
    obtain ⟨m5, m6⟩ := m4 hr
    have e11 : M1.1 142 11 = nI k := ((m3 142 11 (by unfold dL; omega)).1).trans a3
    have f1 : al_f2 (fun q j => dR (118 + 2 * k) q j ∨ dL k 0 (100 * k) q j ∨ (q = 142 ∧ 11 ≤ j ∧ j ≤ 13) ∨ (q = 9 ∧ j = 5) ∨ (q = 10 ∧ j = 3)) N (av_w (av_w (av_w M1 142 13 (nI 0)) 142 12 (nI k)) 142 11 (nI (k + 1))) := al_f2_tr (al_f2_mono c2 (fun q j z => Or.inl z)) (al_f2_tr (al_f2_w _ (Or.inr (Or.inr (Or.inr (Or.inl ⟨rfl, rfl⟩)))) _) (al_f2_tr (al_f2_w _ (Or.inr (Or.inr (Or.inr (Or.inr ⟨rfl, rfl⟩)))) _) (al_f2_tr (al_f2_mono m3 (fun q j z => Or.inr (Or.inl z))) (al_f2_tr (al_f2_w _ (Or.inr (Or.inr (Or.inl ⟨rfl, by decide, by decide⟩))) _) (al_f2_tr (al_f2_w _ (Or.inr (Or.inr (Or.inl ⟨rfl, by decide, by decide⟩))) _) (al_f2_w _ (Or.inr (Or.inr (Or.inl ⟨rfl, by decide, by decide⟩))) _))))))
    have rd : ∀ q j, ¬ (dR (118 + 2 * k) q j ∨ dL k 0 (100 * k) q j ∨ (q = 142 ∧ 11 ≤ j ∧ j ≤ 13) ∨ (q = 9 ∧ j = 5) ∨ (q = 10 ∧ j = 3)) → (av_w (av_w (av_w M1 142 13 (nI 0)) 142 12 (nI k)) 142 11 (nI (k + 1))).1 q j = N.1 q j := fun q j z => (f1 q j z).1
    have rM : ∀ q j, q ≠ 142 → (av_w (av_w (av_w M1 142 13 (nI 0)) 142 12 (nI k)) 142 11 (nI (k + 1))).1 q j = M1.1 q j := fun q j z => by
      rw [av_w_o _ _ _ _ _ z, av_w_o _ _ _ _ _ z, av_w_o _ _ _ _ _ z]
    have rN1 : ∀ q j, q ≠ 142 → q ≠ 9 → q ≠ 10 → ¬ dL k 0 (100 * k) q j → (av_w (av_w (av_w M1 142 13 (nI 0)) 142 12 (nI k)) 142 11 (nI (k + 1))).1 q j = N1.1 q j := fun q j z1 z2 z3 z4 => by
      rw [rM q j z1, (m3 q j z4).1, av_w_o _ _ _ _ _ z3, av_w_o _ _ _ _ _ z2]
    have r11 : (av_w (av_w (av_w M1 142 13 (nI 0)) 142 12 (nI k)) 142 11 (nI (k + 1))).1 142 11 = nI (k + 1) := av_w_s _ _ _ _
    have r12 : (av_w (av_w (av_w M1 142 13 (nI 0)) 142 12 (nI k)) 142 11 (nI (k + 1))).1 142 12 = nI k := by
      simp (disch := decide) only [av_w_k, av_w_s]
    have r13 : (av_w (av_w (av_w M1 142 13 (nI 0)) 142 12 (nI k)) 142 11 (nI (k + 1))).1 142 13 = nI 0 := by
      simp (disch := decide) only [av_w_k, av_w_s]
    have run : av_C (av_S0 L) (d + 20) 141 [.ref 142] (av_w (av_w N1 9 5 (nI (k + 1))) 10 3 (nI (k + 1))) = some (some (.int (nI k)), av_w (av_w (av_w M1 142 13 (nI 0)) 142 12 (nI k)) 142 11 (nI (k + 1))) := by
      apply eq_X7_estuary (d := d + 19)
      simp only [av_kP]
      rw [a3, if_neg (nI_ne (by omega) (by decide) hk6), m1, av_bi_s, hr, av_if_t]
      simp (disch := decide) only [av_w_k, av_w_s]
      rw [e11, nI_add]
    generalize av_w (av_w (av_w M1 142 13 (nI 0)) 142 12 (nI k)) 142 11 (nI (k + 1)) = Q at *
    obtain ⟨⟨b1, b2, b3, b4, b5⟩, B2, ⟨B3, B4, B5⟩, B6, B7, B8⟩ := hB
    refine ⟨.int (nI k), av_w (av_w N1 9 5 (nI (k + 1))) 10 3 (nI (k + 1)), Q, preC _ ?_, run, ⟨n, day, B, k + 1, k + 1, (fun i => if i = k then r.2.2 else T i), ⟨al_sn_on ⟨b1, b2, b3, b4, b5⟩ (rd _ _ (by unfold dR dL; omega)) (rd _ _ (by unfold dR dL; omega)) (fun q j x y => rd _ _ (by unfold dR dL; omega)), ?_, ⟨(rd _ _ (by unfold dR dL; omega)).trans B3, (rd _ _ (by unfold dR dL; omega)).trans B4, fun b hb => ?_⟩, (rd _ _ (by unfold dR dL; omega)).trans B6, r12, B8⟩, ⟨by omega, ?_, r11, ?_, fun i hi => ?_⟩, Nat.le_refl _, gI_le (gI_on hI (eqOn_of f1 (fun q j z => by unfold uI at z; unfold dR dL; omega))) (by omega), ⟨0, F, by decide, ?_, r13, fun j hj => absurd hj (Nat.not_lt_zero _)⟩, gSx_on hS (eqOn_of f1 (fun q j z => by unfold uS at z; unfold dR dL; omega)), gLx_on hL (eqOn_of f1 (fun q j z => by unfold uL at z; unfold dR dL; omega)), gKx_on hK (eqOn_of f1 (fun q j z => by unfold uK at z; unfold dR dL; omega)), gTx_on hT (eqOn_of f1 (fun q j z => by unfold uT at z; unfold dR dL; omega)), gX_on hX (eqOn_of f1 (fun q j z => by unfold uX at z; unfold dR dL; omega)), gO_on hO (eqOn_of f1 (fun q j z => by unfold uO at z; unfold dR dL; omega))⟩, fun j => ?_⟩
    · rw [hr, if_pos rfl, if_pos rfl, av_sub (by omega), Nat.add_sub_cancel]
    · rw [rM _ _ (by decide), (m3 10 3 (by unfold dL; omega)).1]
      exact av_w_s _ _ _ _
    · obtain ⟨x1, x2, x3, x4, x5, x6, x7, x8⟩ := B5 b hb
      exact ⟨(rd _ _ (by unfold dR dL; omega)).trans x1, (rd _ _ (by unfold dR dL; omega)).trans x2, (rd _ _ (by unfold dR dL; omega)).trans x3, (rd _ _ (by unfold dR dL; omega)).trans x4, (rd _ _ (by unfold dR dL; omega)).trans x5, (rd _ _ (by unfold dR dL; omega)).trans x6, (rd _ _ (by unfold dR dL; omega)).trans x7, fun j hj => (rd _ _ (by unfold dR dL; omega)).trans (x8 j hj)⟩
    · rw [rM _ _ (by decide), (m3 9 5 (by unfold dL; omega)).1, av_w_o _ _ _ _ _ (by decide), av_w_s]
    · exact al_es_on E3 (fun j => rd _ _ (by unfold dR dL; omega)) (fun j => rd _ _ (by unfold dR dL; omega))
    · by_cases ik : i = k
      · subst ik
        dsimp only
        rw [if_pos rfl]
        refine ⟨⟨c5, ?_, ?_, ?_, sLast_le _ _ hcl (by decide), (sTop_le _).1, (sTop_le _).2, fun j hj => ?_⟩, ?_, ⟨l10, fun c hc => ?_⟩, hcl⟩
        · rw [rN1 _ _ (by omega) (by omega) (by omega) (by unfold dL; omega), c6]
        · rw [rN1 _ _ (by omega) (by omega) (by omega) (by unfold dL; omega), c8]
          rfl
        · rw [rN1 _ _ (by omega) (by omega) (by omega) (by unfold dL; omega), c9, qTp_top]
        · rw [rN1 _ _ (by omega) (by omega) (by omega) (by unfold dL; omega), c7 j hj]
        · rw [rM _ _ (by decide), m5]
        · obtain ⟨y1, y2, y3⟩ := m6 c hc
          refine ⟨(rM _ _ (by decide)).trans y1, (rM _ _ (by decide)).trans y2, fun w1 => ?_⟩
          obtain ⟨a, z1, z2, z3, z4⟩ := y3 w1
          exact ⟨a, (rM _ _ (by decide)).trans z1, (rM _ _ (by decide)).trans z2, z3, fun j hj => (rM _ _ (by decide)).trans (z4 j hj)⟩
      · dsimp only
        rw [if_neg ik]
        obtain ⟨z1, z2, z3, z4⟩ := E4 i (by omega)
        exact ⟨al_es_on z1 (fun j => rd _ _ (by unfold dR dL; omega)) (fun j => rd _ _ (by unfold dR dL; omega)), (rd _ _ (by unfold dR dL; omega)).trans z2, al_mt_on z3 (fun q c x1 x2 x3 => rd _ _ (by unfold dR dL; omega)) (fun c x1 => rd _ _ (by unfold dR dL; omega)), z4⟩
    · rw [rN1 _ _ (by decide) (by decide) (by decide) (by unfold dL; omega)]
      exact c3
    · rw [av_w_o _ _ _ _ _ (by decide), av_w_o _ _ _ _ _ (by decide)]
      exact (c2 8 j (by unfold dR; omega)).1
