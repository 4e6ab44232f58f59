/-! clauses: their words -/
def qK (g : Nat) : Nat := if g = 99 then 1 else if g = 100 then 0 else if g = 103 then 2 else 3
def qWd : Nat → List Nat
  | 0 => [100, 101, 97, 114]
  | 1 => [99, 104, 101, 97, 112]
  | 2 => [103, 97, 105, 110]
  | _ => [116, 111, 112]
def qSt : Nat → Nat
  | 0 => 0
  | 1 => 4
  | 2 => 9
  | _ => 13
theorem qK_le (g : Nat) : qK g ≤ 3 := by
  unfold qK
  split
  · decide
  · split
    · decide
    · split <;> decide
theorem qWd_ok : ∀ w, w ≤ 3 → (∀ c ∈ qWd w ++ [32], 1 ≤ c ∧ c < 128) ∧ (qWd w).length ≤ 5 ∧ 3 ≤ (qWd w).length ∧ qSt w + (qWd w).length ≤ 16 ∧ (∀ j, j < (qWd w).length → sLetr.getD (qSt w + j) 0 = (qWd w).getD j 0) ∧ (∀ j, j < (qWd w ++ [32]).length → (am_roL (4 + w)).getD j 0 = nI ((qWd w ++ [32]).getD j 0)) := by decide
theorem qWd_MS (L : av_W) {w : Nat} (h : w ≤ 3) : am_MS L (4 + w) = (200, (qWd w ++ [32]).length) := by
  rcases (by omega : w = 0 ∨ w = 1 ∨ w = 2 ∨ w = 3) with rfl | rfl | rfl | rfl <;> rfl
theorem hC (L : av_W) (D : Nat) {N N1 : av_N} {F : Nat → Nat} {f p a : Nat} {q : av_Q} {b1 : Bool} (hF : qF F f) (hB : qB N F f) (ha : N.1 72 2 = nI a) (hl : a ≤ f) (h1 : av_C (av_S0 L) D 33 [.ref 72, .ref (4 + qK (qG F f a))] N = some (some (.int (av_b b1)), N1)) (h : (if b1 = false then some (some (.int (nI 0)), N1) else av_bi (if qK (qG F f a) ≤ 1 then av_C (av_S0 L) D 24 [.ref 72, .ref p, .int (nI (4 + qK (qG F f a)))] N1 else if qK (qG F f a) = 2 then av_C (av_S0 L) D 25 [.ref 72, .ref p] N1 else av_C (av_S0 L) D 26 [.ref 72, .ref p] N1) fun z N2 => if z = nI 0 then some (some (.int (nI 0)), N2) else some (some (.int (nI 1)), N2)) = some q) : av_C (av_S0 L) (D + 1) 23 [.ref 72, .ref p] N = some q := by
  have e : ∀ c, 1 ≤ c → c < 128 → (qV F f a = nI c ↔ qG F f a = c) := fun c c1 c2 => qV_eq hF a c1 c2
  apply eq_X2_clause (d := D)
  simp only [av_kP]
  rw [sp_next L _ hF hB ha hl, av_bi_s]
  simp only [av_bt_0, av_bt_1]
  generalize qG F f a = g at *
  by_cases g99 : g = 99
  · subst g99
    rw [if_pos ((e 99 (by decide) (by decide)).mpr rfl)]
    have h1 : av_C (av_S0 L) D 33 [.ref 72, .ref 5] N = some (some (.int (av_b b1)), N1) := h1
    rw [h1, av_bi_s]
    cases b1
    · rw [av_if_f]
      rw [if_pos rfl] at h
      exact h
    · rw [av_if_t]
      rw [if_neg (by decide)] at h
      exact h
  rw [if_neg (fun z => g99 ((e 99 (by decide) (by decide)).mp z))]
  by_cases g100 : g = 100
  · subst g100
    rw [if_pos ((e 100 (by decide) (by decide)).mpr rfl)]
    have h1 : av_C (av_S0 L) D 33 [.ref 72, .ref 4] N = some (some (.int (av_b b1)), N1) := h1
    rw [h1, av_bi_s]
    cases b1
    · rw [av_if_f]
      rw [if_pos rfl] at h
      exact h
    · rw [av_if_t]
      rw [if_neg (by decide)] at h
      exact h
  rw [if_neg (fun z => g100 ((e 100 (by decide) (by decide)).mp z))]
  by_cases g101 : g = 101
  · subst g101
    rw [if_pos ((e 101 (by decide) (by decide)).mpr rfl)]
    have h1 : av_C (av_S0 L) D 33 [.ref 72, .ref 7] N = some (some (.int (av_b b1)), N1) := h1
    rw [h1, av_bi_s]
    cases b1
    · rw [av_if_f]
      rw [if_pos rfl] at h
      exact h
    · rw [av_if_t]
      rw [if_neg (by decide)] at h
      exact h
  rw [if_neg (fun z => g101 ((e 101 (by decide) (by decide)).mp z))]
  by_cases g102 : g = 102
  · subst g102
    rw [if_pos ((e 102 (by decide) (by decide)).mpr rfl)]
    have h1 : av_C (av_S0 L) D 33 [.ref 72, .ref 7] N = some (some (.int (av_b b1)), N1) := h1
    rw [h1, av_bi_s]
    cases b1
    · rw [av_if_f]
      rw [if_pos rfl] at h
      exact h
    · rw [av_if_t]
      rw [if_neg (by decide)] at h
      exact h
  rw [if_neg (fun z => g102 ((e 102 (by decide) (by decide)).mp z))]
  by_cases g103 : g = 103
  · subst g103
    rw [if_pos ((e 103 (by decide) (by decide)).mpr rfl)]
    have h1 : av_C (av_S0 L) D 33 [.ref 72, .ref 6] N = some (some (.int (av_b b1)), N1) := h1
    rw [h1, av_bi_s]
    cases b1
    · rw [av_if_f]
      rw [if_pos rfl] at h
      exact h
    · rw [av_if_t]
      rw [if_neg (by decide)] at h
      exact h
  rw [if_neg (fun z => g103 ((e 103 (by decide) (by decide)).mp z))]
  have k3 : qK g = 3 := by
    unfold qK
    rw [if_neg g99, if_neg g100, if_neg g103]
  rw [k3] at h1 h
  have h1 : av_C (av_S0 L) D 33 [.ref 72, .ref 7] N = some (some (.int (av_b b1)), N1) := h1
  rw [h1, av_bi_s]
  cases b1
  · rw [av_if_f]
    rw [if_pos rfl] at h
    exact h
  · rw [av_if_t]
    rw [if_neg (by decide)] at h
    exact h
theorem hM (L : av_W) (D : Nat) {N N1 : av_N} {F : Nat → Nat} {f c a : Nat} {z : Int32} (hF : qF F f) (hB : qM N F f) (hc : c < 60) (ha : N.1 142 14 = nI a) (hl : a ≤ f) (h1 : av_C (av_S0 L) D 129 [.ref 142, .int (nI (qSt (qK (qG F f a)))), .int (nI (qWd (qK (qG F f a))).length)] (av_w N 153 c (nI (qK (qG F f a)))) = some (some (.int z), N1)) (hz : z = nI 0 ∨ z = nI 1) : av_C (av_S0 L) (D + 1) 138 [.ref 142, .int (nI c)] N = some (some (.int z), N1) := by
  have e : ∀ c, 1 ≤ c → c < 128 → (qV F f a = nI c ↔ qG F f a = c) := fun c c1 c2 => qV_eq hF a c1 c2
  have hbt : av_bt z (some (some (Value.int z), N1)) = some (some (Value.int z), N1) := by
    rcases hz with rfl | rfl <;> rfl
  apply eq_X7_takesHead (d := D)
  simp only [av_kP]
  rw [sp_nextM L _ hF hB ha hl, av_bi_s]
  generalize qG F f a = g at *
  by_cases g99 : g = 99
  · subst g99
    rw [if_pos ((e 99 (by decide) (by decide)).mpr rfl), av_gx_s hc (by omega), nI_clamp (by omega)]
    have h1 : av_C (av_S0 L) D 129 [.ref 142, .int (nI 4), .int (nI 5)] (av_w N 153 c (nI 1)) = some (some (.int z), N1) := h1
    rw [h1, av_bi_s, hbt]
  rw [if_neg (fun z => g99 ((e 99 (by decide) (by decide)).mp z))]
  by_cases g100 : g = 100
  · subst g100
    rw [if_pos ((e 100 (by decide) (by decide)).mpr rfl), av_gx_s hc (by omega), nI_clamp (by omega)]
    have h1 : av_C (av_S0 L) D 129 [.ref 142, .int (nI 0), .int (nI 4)] (av_w N 153 c (nI 0)) = some (some (.int z), N1) := h1
    rw [h1, av_bi_s, hbt]
  rw [if_neg (fun z => g100 ((e 100 (by decide) (by decide)).mp z))]
  by_cases g101 : g = 101
  · subst g101
    rw [if_pos ((e 101 (by decide) (by decide)).mpr rfl), av_gx_s hc (by omega), nI_clamp (by omega)]
    have h1 : av_C (av_S0 L) D 129 [.ref 142, .int (nI 13), .int (nI 3)] (av_w N 153 c (nI 3)) = some (some (.int z), N1) := h1
    rw [h1, av_bi_s, hbt]
  rw [if_neg (fun z => g101 ((e 101 (by decide) (by decide)).mp z))]
  by_cases g102 : g = 102
  · subst g102
    rw [if_pos ((e 102 (by decide) (by decide)).mpr rfl), av_gx_s hc (by omega), nI_clamp (by omega)]
    have h1 : av_C (av_S0 L) D 129 [.ref 142, .int (nI 13), .int (nI 3)] (av_w N 153 c (nI 3)) = some (some (.int z), N1) := h1
    rw [h1, av_bi_s, hbt]
  rw [if_neg (fun z => g102 ((e 102 (by decide) (by decide)).mp z))]
  by_cases g103 : g = 103
  · subst g103
    rw [if_pos ((e 103 (by decide) (by decide)).mpr rfl), av_gx_s hc (by omega), nI_clamp (by omega)]
    have h1 : av_C (av_S0 L) D 129 [.ref 142, .int (nI 9), .int (nI 4)] (av_w N 153 c (nI 2)) = some (some (.int z), N1) := h1
    rw [h1, av_bi_s, hbt]
  rw [if_neg (fun z => g103 ((e 103 (by decide) (by decide)).mp z))]
  have k3 : qK g = 3 := by
    unfold qK
    rw [if_neg g99, if_neg g100, if_neg g103]
  rw [k3] at h1
  rw [av_gx_s hc (by omega), nI_clamp (by omega)]
  have h1 : av_C (av_S0 L) D 129 [.ref 142, .int (nI 13), .int (nI 3)] (av_w N 153 c (nI 3)) = some (some (.int z), N1) := h1
  rw [h1, av_bi_s, hbt]
/-! what follows a word: a number, and for dear and cheap a condition -/
def dQ (p q k : Nat) : Prop := (q = 72 ∧ k = 2) ∨ (q = p ∧ 1 ≤ k ∧ k ≤ 3) ∨ q = p + 1
theorem dP_Q {p : Nat} : ∀ q k, dP p q k → dQ p q k := fun q k z => by
  unfold dP dS dU at z
  unfold dQ
  omega
theorem dS_Q {p : Nat} : ∀ q k, dS q k → dQ p q k := fun q k z => Or.inl z
def dC (c s q k : Nat) : Prop := (q = 142 ∧ (k = 14 ∨ k = 15 ∨ k = 24 ∨ k = 25 ∨ k = 26)) ∨ (q = 157 ∧ s ≤ k) ∨ q = 158 ∨ (153 ≤ q ∧ q ≤ 156 ∧ k = c)
theorem dE_C {c s w : Nat} : ∀ q k, dE c s w q k → dC c s q k := fun q k z => by
  unfold dE at z
  unfold dC
  omega
theorem dN_C {c s : Nat} : ∀ q k, dN q k → dC c s q k := fun q k z => by
  unfold dN at z
  unfold dC
  omega
def qTp (x : Nat) : Nat := if x < 1 then 1 else if 10 < x then 10 else x
/-- after the word w: good, where, the clause -/
def okL (f a : Nat) (r : Bool × Nat × (Nat × Nat × List Nat)) : Prop := a ≤ r.2.1 ∧ r.2.1 ≤ f ∧ (r.1 = true → a < r.2.1 ∧ r.2.2.1 ≤ 3 ∧ r.2.2.2.1 ≤ 99 ∧ (r.2.2.1 ≤ 1 → r.2.2.2.2.length + 2 * sNt r.2.2.2.2 + 2 + a ≤ r.2.1 ∧ (∀ x ∈ r.2.2.2.2, sTok x) ∧ ∀ tr s, ∃ v, sEv tr r.2.2.2.2 s = some (v :: s)) ∧ (¬ r.2.2.1 ≤ 1 → r.2.2.2.2 = []))
def okLR (N' : av_N) (p : Nat) (l : List Nat) (g x : Nat) (r : Bool × Nat × (Nat × Nat × List Nat)) : Prop := (r.1 = true → cG N' p r.2.1 (l ++ sFl [r.2.2]) ∧ N'.1 p 2 = nI (if r.2.2.1 = 2 then r.2.2.2.1 else g) ∧ N'.1 p 3 = nI (qTp (if r.2.2.1 = 3 then r.2.2.2.1 else x))) ∧ (r.1 = false → cX N' p r.2.1)
def okLM (M : av_N) (c s : Nat) (r : Bool × Nat × (Nat × Nat × List Nat)) : Prop := M.1 142 14 = nI r.2.1 ∧ (r.1 = true → M.1 154 c = nI r.2.2.2.1 ∧ M.1 142 24 = nI (s + r.2.2.2.2.length) ∧ (r.2.2.1 ≤ 1 → M.1 155 c = nI s ∧ M.1 156 c = nI (s + r.2.2.2.2.length)) ∧ tk M s r.2.2.2.2)
def dK (c s q k : Nat) : Prop := (q = 142 ∧ (k = 14 ∨ k = 15 ∨ k = 24 ∨ k = 25 ∨ k = 26)) ∨ (q = 157 ∧ s ≤ k) ∨ q = 158 ∨ (155 ≤ q ∧ q ≤ 156 ∧ k = c)
theorem dE_K {c s w : Nat} : ∀ q k, dE c s w q k → dK c s q k := fun q k z => by
  unfold dE at z
  unfold dK
  omega
theorem dK_C {c s : Nat} : ∀ q k, dK c s q k → dC c s q k := fun q k z => by
  unfold dK at z
  unfold dC
  omega
theorem sp_takesE (L : av_W) (d : Nat) {F : Nat → Nat} {f a : Nat} {r : Bool × Nat × List Nat} {N : av_N} {c s : Nat} (hF : qF F f) (h : okEM L d F f 0 a r) (hB : qM N F f) (hc : c < 60) (ha : N.1 142 14 = nI a) (hs : N.1 142 24 = nI s) (hsa : s ≤ 500 + a) : ∃ M, av_C (av_S0 L) (d + 4) 137 [.ref 142, .int (nI c)] N = some (some (.int (av_b r.1)), M) ∧ M.1 142 14 = nI r.2.1 ∧ al_f2 (dK c s) N M ∧ (r.1 = true → M.1 142 24 = nI (s + r.2.2.length) ∧ M.1 155 c = nI s ∧ M.1 156 c = nI (s + r.2.2.length) ∧ tk M s r.2.2) := by
  have f1 : al_f2 (dK c s) N (av_w (av_w (av_w N 142 25 (nI 0)) 142 26 (nI 0)) 155 c (nI s)) := al_f2_tr (al_f2_w (D := dK c s) N (by unfold dK; omega) _) (al_f2_tr (al_f2_w (D := dK c s) _ (by unfold dK; omega) _) (al_f2_w (D := dK c s) _ (by unfold dK; omega) _))
  have pre : ∀ q, eV L d c (nI 1) am_junk (av_w (av_w (av_w N 142 25 (nI 0)) 142 26 (nI 0)) 155 c (nI s)) = some q → av_C (av_S0 L) (d + 4) 137 [.ref 142, .int (nI c)] N = some q := fun q hq => by
    apply eq_X7_takesE (d := d + 3)
    simp only [av_kP]
    have e : (av_w (av_w N 142 25 (nI 0)) 142 26 (nI 0)).1 142 24 = nI s := by
      simp (disch := decide) only [av_w_k]
      exact hs
    rw [av_gx_s hc (by omega), nI_clamp (by omega), e]
    exact hq
  have e155 : (av_w (av_w (av_w N 142 25 (nI 0)) 142 26 (nI 0)) 155 c (nI s)).1 155 c = nI s := av_w_s _ _ _ _
  obtain ⟨A1, A2⟩ := h (av_w (av_w (av_w N 142 25 (nI 0)) 142 26 (nI 0)) 155 c (nI s)) c s 0 am_junk (qM_on hB f1 (by unfold dK; omega) (fun k => by unfold dK; omega)) hc (Or.inl rfl) ⟨by simp (disch := decide) only [av_w_k, av_w_o]; exact ha, by simp (disch := decide) only [av_w_k, av_w_o]; exact hs, by simp (disch := decide) only [av_w_k, av_w_o, av_w_s], by simp (disch := decide) only [av_w_k, av_w_o, av_w_s]⟩ (Nat.zero_le _) (by omega) (Or.inl rfl)
  cases hr : r.1
  · obtain ⟨M, m1, m2, m3⟩ := A1 hr
    exact ⟨M, pre _ m1, m2, al_f2_tr f1 (al_f2_mono m3 dE_K), fun z => (by cases z)⟩
  · obtain ⟨M, m1, ⟨m2, m3, m4, m5⟩, m6, m7⟩ := A2 hr
    refine ⟨av_w M 156 c (M.1 142 24), pre _ (m1 _ ?_), (av_w_o _ _ _ _ _ (by decide)).trans m2, al_f2_tr f1 (al_f2_tr (al_f2_mono m7 dE_K) (al_f2_w (D := dK c s) _ (by unfold dK; omega) _)), fun _ => ⟨(av_w_o _ _ _ _ _ (by decide)).trans m3, ?_, ?_, fun i hi => ?_⟩⟩
    · unfold mTail
      rw [m4, if_pos rfl]
      rfl
    · rw [av_w_o _ _ _ _ _ (by decide), (m7 155 c (by unfold dE; omega)).1]
      exact e155
    · rw [av_w_s, m3]
    · rw [av_w_o _ _ _ _ _ (by decide)]
      exact m6 i hi
