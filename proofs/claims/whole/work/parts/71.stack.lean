/-! steps put, tokens emitted, the reference's stack -/
def dU (p q k : Nat) : Prop := (q = p ∧ k = 1) ∨ q = p + 1
def dP (p q k : Nat) : Prop := dS q k ∨ dU p q k
def cG (N : av_N) (p a : Nat) (l : List Nat) : Prop := N.1 72 2 = nI a ∧ N.1 p 1 = nI l.length ∧ ∀ i, i < l.length → N.1 (p + 1) i = nI (l.getD i 0)
def cX (N : av_N) (p a : Nat) : Prop := N.1 72 2 = nI a ∧ ∃ s, s ≤ 100 ∧ N.1 p 1 = nI s
theorem cG_X {N : av_N} {p a : Nat} {l : List Nat} (h : cG N p a l) (hl : l.length ≤ 100) : cX N p a := ⟨h.1, l.length, hl, h.2.1⟩
theorem al_ep_n {p : Nat} (h : al_ep p) : 116 ≤ p ∧ p ≤ 128 := by
  obtain ⟨e, he, rfl⟩ := h
  omega
theorem sp_put (L : av_W) (d : Nat) {N : av_N} {p s : Nat} (he : al_ep p) (h : N.1 p 1 = nI s) (hs : s ≤ 100) (x1 x2 : Int32) : ∃ N', av_C (av_S0 L) d 15 [.ref p, .int x1, .int x2] N = some (none, N') ∧ al_f2 (dU p) N N' ∧ (∃ s', s' ≤ 100 ∧ N'.1 p 1 = nI s') ∧ (s < 100 → N'.1 p 1 = nI (s + 1) ∧ N'.1 (p + 1) s = x1 ||| (x2 <<< (nI 3 &&& 31))) ∧ ∀ j, j < s → N'.1 (p + 1) j = N.1 (p + 1) j := by
  obtain ⟨s1, s2, s3, s4⟩ := al_epE he L
  have pre : ∀ q, (if nI s < nI 100 then av_gx (nI s) 100 (some (none, av_w (av_w N (p + 1) s (x1 ||| (x2 <<< (nI 3 &&& 31)))) p 1 (nI (s + 1)))) else some (none, N)) = some q → av_C (av_S0 L) d 15 [.ref p, .int x1, .int x2] N = some q := fun q hq => by
    apply eq_X1_put
    simp only [av_kP]
    rw [s1, s2]
    simp only [↓av_tg_s, ↓av_bd_s]
    rw [s3, h]
    simp only [↓av_al_s, ↓av_tg_s, ↓av_ge_s (show 9 ≤ p + 1 by omega)]
    rw [show Int32.ofNat 100 = nI 100 from rfl, nI_clamp (by omega), av_w_o _ _ _ _ _ (show p ≠ p + 1 by omega), h, nI_add]
    exact hq
  by_cases hlt : s < 100
  · rw [if_pos (nI_lt hlt (by decide)), av_gx_s hlt (by omega)] at pre
    refine ⟨_, pre _ rfl, al_f2_tr (al_f2_w (D := dU p) N (Or.inr rfl) _) (al_f2_w (D := dU p) _ (Or.inl ⟨rfl, rfl⟩) _), ⟨s + 1, by omega, av_w_s _ _ _ _⟩, fun _ => ⟨av_w_s _ _ _ _, ?_⟩, fun j hj => ?_⟩
    · rw [av_w_o _ _ _ _ _ (by omega), av_w_s]
    · rw [av_w_o _ _ _ _ _ (by omega), av_w_k _ _ _ _ (by omega)]
  · rw [if_neg (nI_nlt (by omega) (by omega))] at pre
    exact ⟨_, pre _ rfl, al_f2_rf _ _, ⟨s, hs, h⟩, fun z => absurd z hlt, fun j hj => rfl⟩
theorem cG_put (L : av_W) (d : Nat) {N : av_N} {p a : Nat} {l : List Nat} (he : al_ep p) (h : cG N p a l) (hl : l.length < 100) {x1 x2 : Int32} {c : Nat} (hc : x1 ||| (x2 <<< (nI 3 &&& 31)) = nI c) : ∃ N', av_C (av_S0 L) d 15 [.ref p, .int x1, .int x2] N = some (none, N') ∧ cG N' p a (l ++ [c]) ∧ al_f2 (dU p) N N' := by
  have hp := al_ep_n he
  obtain ⟨N', c1, c2, c3, c4, c5⟩ := sp_put L d he h.2.1 (by omega) x1 x2
  obtain ⟨c6, c7⟩ := c4 hl
  refine ⟨N', c1, ⟨((c2 72 2 (by unfold dU; omega)).1).trans h.1, ?_, fun i hi => ?_⟩, c2⟩
  · rw [c6, List.length_append]
    rfl
  · rw [List.length_append] at hi
    have l1 : [c].length = 1 := rfl
    by_cases e : i = l.length
    · subst e
      rw [c7, hc, gd_e1]
    · rw [c5 i (by omega), gd_l1 (by omega)]
      exact h.2.2 i (by omega)
theorem cX_put (L : av_W) (d : Nat) {N : av_N} {p a : Nat} (he : al_ep p) (h : cX N p a) (x1 x2 : Int32) : ∃ N', av_C (av_S0 L) d 15 [.ref p, .int x1, .int x2] N = some (none, N') ∧ cX N' p a ∧ al_f2 (dU p) N N' := by
  have hp := al_ep_n he
  obtain ⟨h1, s, h2, h3⟩ := h
  obtain ⟨N', c1, c2, c3, c4, c5⟩ := sp_put L d he h3 h2 x1 x2
  exact ⟨N', c1, ⟨((c2 72 2 (by unfold dU; omega)).1).trans h1, c3⟩, c2⟩
theorem or_add {a b : Nat} (i : Nat) (h : b < 2 ^ i) : 2 ^ i * a ||| b = 2 ^ i * a + b := (Nat.two_pow_add_eq_or_of_lt h a).symm
theorem sp_step {k o : Nat} (hk : k < 8) : nI k ||| (nI o <<< (nI 3 &&& 31)) = nI (k + 8 * o) := by
  rw [av_shl o (by decide), av_or, Nat.or_comm, show o * 2 ^ 3 = 2 ^ 3 * o from Nat.mul_comm _ _, or_add 3 hk, Nat.add_comm]
theorem sp_testOf (L : av_W) (d : Nat) (N : av_N) {l s n : Nat} (hs : s < 128) (hn : n < 128) : av_C (av_S0 L) d 17 [.int (nI l), .int (nI s), .int (nI n)] N = some (some (.int (nI ((l * 128 + s) * 128 + n))), N) := by
  apply eq_X1_testOf
  simp only [av_kP]
  rw [av_shl l (by decide), av_or, av_shl _ (by decide), av_or]
  rw [show l * 2 ^ 7 = 2 ^ 7 * l from Nat.mul_comm _ _, or_add 7 hs, show (2 ^ 7 * l + s) * 2 ^ 7 = 2 ^ 7 * (2 ^ 7 * l + s) from Nat.mul_comm _ _, or_add 7 hn]
def qP (c : Nat) : Nat := if c = 98 then 0 else if c = 107 then 1 else if c = 118 then 2 else if c = 108 then 3 else if c = 102 then 4 else if c = 100 then 5 else 6
theorem qP_let {c : Nat} (h : qP c < 6) : sLet (qP c) = c ∧ c ≠ 0 := by
  unfold qP at h ⊢
  by_cases h1 : c = 98
  · rw [if_pos h1, h1]; exact ⟨rfl, by decide⟩
  rw [if_neg h1] at h ⊢
  by_cases h2 : c = 107
  · rw [if_pos h2, h2]; exact ⟨rfl, by decide⟩
  rw [if_neg h2] at h ⊢
  by_cases h3 : c = 118
  · rw [if_pos h3, h3]; exact ⟨rfl, by decide⟩
  rw [if_neg h3] at h ⊢
  by_cases h4 : c = 108
  · rw [if_pos h4, h4]; exact ⟨rfl, by decide⟩
  rw [if_neg h4] at h ⊢
  by_cases h5 : c = 102
  · rw [if_pos h5, h5]; exact ⟨rfl, by decide⟩
  rw [if_neg h5] at h ⊢
  by_cases h6 : c = 100
  · rw [if_pos h6, h6]; exact ⟨rfl, by decide⟩
  rw [if_neg h6] at h
  omega
theorem sp_isLetter (L : av_W) (d : Nat) (N : av_N) {F : Nat → Nat} {f : Nat} (hF : qF F f) (a : Nat) : av_C (av_S0 L) d 30 [.int (qV F f a)] N = some (some (.int (av_b (decide (qP (qG F f a) < 6)))), N) := by
  apply eq_X2_isLetter
  simp only [av_kP]
  have e : ∀ c, 1 ≤ c → c < 128 → (qV F f a = nI c ↔ qG F f a = c) := fun c c1 c2 => qV_eq hF a c1 c2
  unfold qP
  by_cases h0 : qG F f a = 98
  · rw [if_pos ((e 98 (by decide) (by decide)).mpr h0), if_pos h0]
    rfl
  rw [if_neg (fun z => h0 ((e 98 (by decide) (by decide)).mp z)), if_neg h0]
  by_cases h1 : qG F f a = 107
  · rw [if_pos ((e 107 (by decide) (by decide)).mpr h1), if_pos h1]
    rfl
  rw [if_neg (fun z => h1 ((e 107 (by decide) (by decide)).mp z)), if_neg h1]
  by_cases h2 : qG F f a = 118
  · rw [if_pos ((e 118 (by decide) (by decide)).mpr h2), if_pos h2]
    rfl
  rw [if_neg (fun z => h2 ((e 118 (by decide) (by decide)).mp z)), if_neg h2]
  by_cases h3 : qG F f a = 108
  · rw [if_pos ((e 108 (by decide) (by decide)).mpr h3), if_pos h3]
    rfl
  rw [if_neg (fun z => h3 ((e 108 (by decide) (by decide)).mp z)), if_neg h3]
  by_cases h4 : qG F f a = 102
  · rw [if_pos ((e 102 (by decide) (by decide)).mpr h4), if_pos h4]
    rfl
  rw [if_neg (fun z => h4 ((e 102 (by decide) (by decide)).mp z)), if_neg h4]
  by_cases h5 : qG F f a = 100
  · rw [if_pos ((e 100 (by decide) (by decide)).mpr h5), if_pos h5]
    rfl
  rw [if_neg (fun z => h5 ((e 100 (by decide) (by decide)).mp z)), if_neg h5]
  rfl
theorem sp_place (L : av_W) (d : Nat) (N : av_N) {F : Nat → Nat} {f : Nat} (hF : qF F f) (a : Nat) : av_C (av_S0 L) d 135 [.ref 142, .int (qV F f a)] N = some (some (.int (if qP (qG F f a) < 6 then nI (qP (qG F f a)) else av_k (-1))), N) := by
  apply eq_X7_place
  simp only [av_kP]
  have e : ∀ c, 1 ≤ c → c < 128 → (qV F f a = nI c ↔ qG F f a = c) := fun c c1 c2 => qV_eq hF a c1 c2
  unfold qP
  by_cases h0 : qG F f a = 98
  · rw [if_pos ((e 98 (by decide) (by decide)).mpr h0), h0]
    rfl
  rw [if_neg (fun z => h0 ((e 98 (by decide) (by decide)).mp z))]
  by_cases h1 : qG F f a = 100
  · rw [if_pos ((e 100 (by decide) (by decide)).mpr h1), h1]
    rfl
  rw [if_neg (fun z => h1 ((e 100 (by decide) (by decide)).mp z))]
  by_cases h2 : qG F f a = 102
  · rw [if_pos ((e 102 (by decide) (by decide)).mpr h2), h2]
    rfl
  rw [if_neg (fun z => h2 ((e 102 (by decide) (by decide)).mp z))]
  by_cases h3 : qG F f a = 107
  · rw [if_pos ((e 107 (by decide) (by decide)).mpr h3), h3]
    rfl
  rw [if_neg (fun z => h3 ((e 107 (by decide) (by decide)).mp z))]
  by_cases h4 : qG F f a = 108
  · rw [if_pos ((e 108 (by decide) (by decide)).mpr h4), h4]
    rfl
  rw [if_neg (fun z => h4 ((e 108 (by decide) (by decide)).mp z))]
  by_cases h5 : qG F f a = 118
  · rw [if_pos ((e 118 (by decide) (by decide)).mpr h5), h5]
    rfl
  rw [if_neg (fun z => h5 ((e 118 (by decide) (by decide)).mp z))]
  rw [if_neg h0, if_neg h3, if_neg h5, if_neg h4, if_neg h2, if_neg h1, if_neg (by decide)]
/-! the reference: a token emitted; what waits -/
theorem sp_emits (L : av_W) (d : Nat) {N : av_N} {s : Nat} (h : N.1 142 24 = nI s) (hs : s < 600) (x : Int32) : av_C (av_S0 L) d 132 [.ref 142, .int x] N = some (none, av_w (av_w N 157 s x) 142 24 (nI (s + 1))) := by
  apply eq_X7_emits
  simp only [av_kP]
  rw [h, av_gx_s hs (by omega), nI_clamp (by omega), av_w_o _ _ _ _ _ (by decide), h, nI_add]
def dW (s q k : Nat) : Prop := (q = 142 ∧ (k = 24 ∨ k = 25 ∨ k = 26)) ∨ (q = 157 ∧ s ≤ k)
theorem whole_V (L : av_W) (d : Nat) : ∀ (j : Nat) (N : av_N) (s w o : Nat), N.1 142 24 = nI s → N.1 142 25 = nI (w + j) → N.1 142 26 = nI o → j ≤ o → w + j ≤ 100 → s + j ≤ 600 → o ≤ 100 → (∀ i, i < j → N.1 158 (w + i) = nI 33) → (w = 0 ∨ ∃ t, N.1 158 (w - 1) = nI t ∧ t ≠ 33 ∧ t < 128) → ∃ N', av_V (av_S0 L) (d + 1) ta_X7_whole 0 [.ref 142] [] N = some (none, N') ∧ N'.1 142 24 = nI (s + j) ∧ N'.1 142 25 = nI w ∧ N'.1 142 26 = nI (o - j) ∧ (∀ i, i < j → N'.1 157 (s + i) = av_k (-33)) ∧ al_f2 (dW s) N N' := by
  intro j
  induction j with
  | zero =>
    intro N s w o h1 h2 h3 h4 h5 h6 h7 h8 h9
    refine ⟨N, ?_, h1, h2, h3, fun i hi => absurd hi (Nat.not_lt_zero _), al_f2_rf _ _⟩
    apply eq_X7_whole_0 (d := d)
    simp only [av_kP]
    rw [h2]
    by_cases w0 : w = 0
    · rw [if_neg (nI_nlt (by omega) (by omega))]
    · rcases h9 with h9 | ⟨t, t1, t2, t3⟩
      · exact absurd h9 w0
      · rw [if_pos (nI_lt (by omega) (by omega)), av_sub (by omega), av_gx_s (by omega) (by omega), nI_clamp (by omega), show w + 0 - 1 = w - 1 by omega, t1, if_neg (nI_ne (by omega) (by decide) t2)]
  | succ j ih =>
    intro N s w o h1 h2 h3 h4 h5 h6 h7 h8 h9
    have e1 : w + (j + 1) - 1 = w + j := by omega
    have top := h8 j (by omega)
    obtain ⟨N', c1, c2, c3, c4, c5, c6⟩ := ih (av_w (av_w (av_w (av_w N 157 s (av_k (-33))) 142 24 (nI (s + 1))) 142 25 (nI (w + j))) 142 26 (nI (o - 1))) (s + 1) w (o - 1) (by simp (disch := decide) only [av_w_s, av_w_k]) (by simp (disch := decide) only [av_w_s, av_w_k]) (av_w_s _ _ _ _) (by omega) (by omega) (by omega) (by omega) (fun i hi => by
      simp (disch := decide) only [av_w_o]
      exact h8 i (by omega)) (by
      rcases h9 with h9 | ⟨t, t1, t2, t3⟩
      · exact Or.inl h9
      · refine Or.inr ⟨t, ?_, t2, t3⟩
        simp (disch := decide) only [av_w_o]
        exact t1)
    have f1 : al_f2 (dW s) N (av_w (av_w (av_w (av_w N 157 s (av_k (-33))) 142 24 (nI (s + 1))) 142 25 (nI (w + j))) 142 26 (nI (o - 1))) := al_f2_tr (al_f2_w (D := dW s) N (Or.inr ⟨rfl, Nat.le_refl _⟩) _) (al_f2_tr (al_f2_w (D := dW s) _ (Or.inl ⟨rfl, Or.inl rfl⟩) _) (al_f2_tr (al_f2_w (D := dW s) _ (Or.inl ⟨rfl, Or.inr (Or.inl rfl)⟩) _) (al_f2_w (D := dW s) _ (Or.inl ⟨rfl, Or.inr (Or.inr rfl)⟩) _)))
    refine ⟨N', ?_, by rw [c2]; congr 1; omega, c3, by rw [c4]; congr 1; omega, fun i hi => ?_, al_f2_tr f1 (al_f2_mono c6 (fun q k z => by unfold dW at z ⊢; omega))⟩
    · apply eq_X7_whole_0 (d := d)
      simp only [av_kP]
      rw [h2, if_pos (nI_lt (by omega) (by omega)), av_sub (by omega), e1, av_gx_s (by omega) (by omega), nI_clamp (by omega), top, if_pos rfl, sp_emits L _ h1 (by omega), av_bv_s]
      simp (disch := decide) only [av_w_s, av_w_k, av_w_o]
      rw [h2, h3, av_sub (by omega), av_sub (by omega), e1]
      exact c1
    · by_cases e : i = 0
      · subst e
        rw [(c6 157 (s + 0) (by unfold dW; omega)).1]
        simp (disch := decide) only [av_w_o]
        exact av_w_s _ _ _ _
      · have := c5 (i - 1) (by omega)
        rw [show s + 1 + (i - 1) = s + i by omega] at this
        exact this
theorem sp_whole (L : av_W) (d : Nat) {N : av_N} {j s w o : Nat} (h1 : N.1 142 24 = nI s) (h2 : N.1 142 25 = nI (w + j)) (h3 : N.1 142 26 = nI o) (h4 : j ≤ o) (h5 : w + j ≤ 100) (h6 : s + j ≤ 600) (h7 : o ≤ 100) (h8 : ∀ i, i < j → N.1 158 (w + i) = nI 33) (h9 : w = 0 ∨ ∃ t, N.1 158 (w - 1) = nI t ∧ t ≠ 33 ∧ t < 128) : ∃ N', av_C (av_S0 L) (d + 1) 133 [.ref 142] N = some (none, N') ∧ N'.1 142 24 = nI (s + j) ∧ N'.1 142 25 = nI w ∧ N'.1 142 26 = nI (o - j) ∧ (∀ i, i < j → N'.1 157 (s + i) = av_k (-33)) ∧ al_f2 (dW s) N N' := by
  cases j with
  | zero =>
    refine ⟨N, ?_, h1, h2, h3, fun i hi => absurd hi (Nat.not_lt_zero _), al_f2_rf _ _⟩
    apply eq_X7_whole (d := d)
    simp only [av_kP]
    rw [h2]
    by_cases w0 : w = 0
    · rw [if_neg (nI_nlt (by omega) (by omega))]
    · rcases h9 with h9 | ⟨t, t1, t2, t3⟩
      · exact absurd h9 w0
      · rw [if_pos (nI_lt (by omega) (by omega)), av_sub (by omega), av_gx_s (by omega) (by omega), nI_clamp (by omega), show w + 0 - 1 = w - 1 by omega, t1, if_neg (nI_ne (by omega) (by decide) t2)]
  | succ j =>
    have e1 : w + (j + 1) - 1 = w + j := by omega
    have top := h8 j (by omega)
    obtain ⟨N', c1, c2, c3, c4, c5, c6⟩ := whole_V L d j (av_w (av_w (av_w (av_w N 157 s (av_k (-33))) 142 24 (nI (s + 1))) 142 25 (nI (w + j))) 142 26 (nI (o - 1))) (s + 1) w (o - 1) (by simp (disch := decide) only [av_w_s, av_w_k]) (by simp (disch := decide) only [av_w_s, av_w_k]) (av_w_s _ _ _ _) (by omega) (by omega) (by omega) (by omega) (fun i hi => by
      simp (disch := decide) only [av_w_o]
      exact h8 i (by omega)) (by
      rcases h9 with h9 | ⟨t, t1, t2, t3⟩
      · exact Or.inl h9
      · refine Or.inr ⟨t, ?_, t2, t3⟩
        simp (disch := decide) only [av_w_o]
        exact t1)
    have f1 : al_f2 (dW s) N (av_w (av_w (av_w (av_w N 157 s (av_k (-33))) 142 24 (nI (s + 1))) 142 25 (nI (w + j))) 142 26 (nI (o - 1))) := al_f2_tr (al_f2_w (D := dW s) N (Or.inr ⟨rfl, Nat.le_refl _⟩) _) (al_f2_tr (al_f2_w (D := dW s) _ (Or.inl ⟨rfl, Or.inl rfl⟩) _) (al_f2_tr (al_f2_w (D := dW s) _ (Or.inl ⟨rfl, Or.inr (Or.inl rfl)⟩) _) (al_f2_w (D := dW s) _ (Or.inl ⟨rfl, Or.inr (Or.inr rfl)⟩) _)))
    refine ⟨N', ?_, by rw [c2]; congr 1; omega, c3, by rw [c4]; congr 1; omega, fun i hi => ?_, al_f2_tr f1 (al_f2_mono c6 (fun q k z => by unfold dW at z ⊢; omega))⟩
    · apply eq_X7_whole (d := d)
      simp only [av_kP]
      rw [h2, if_pos (nI_lt (by omega) (by omega)), av_sub (by omega), e1, av_gx_s (by omega) (by omega), nI_clamp (by omega), top, if_pos rfl, sp_emits L _ h1 (by omega), av_bv_s]
      simp (disch := decide) only [av_w_s, av_w_k, av_w_o]
      rw [h2, h3, av_sub (by omega), av_sub (by omega), e1]
      exact c1
    · by_cases e : i = 0
      · subst e
        rw [(c6 157 (s + 0) (by unfold dW; omega)).1]
        simp (disch := decide) only [av_w_o]
        exact av_w_s _ _ _ _
      · have := c5 (i - 1) (by omega)
        rw [show s + 1 + (i - 1) = s + i by omega] at this
        exact this
theorem settle_V_stop (L : av_W) (d : Nat) {N : av_N} {w z : Nat} (h2 : N.1 142 25 = nI w) (hw : w ≤ 100) (h9 : w = 0 ∨ ∃ t, N.1 158 (w - 1) = nI t ∧ t < 128 ∧ t ≠ 38 ∧ (t ≠ 124 ∨ z = 38)) : av_V (av_S0 L) (d + 1) ta_X7_settle 0 [.ref 142, .int (nI z)] [] N = some (none, N) := by
  apply eq_X7_settle_0 (d := d)
  simp only [av_kP]
  rw [h2]
  by_cases w0 : w = 0
  · rw [if_neg (nI_nlt (by omega) (by omega))]
  · rcases h9 with h9 | ⟨t, t1, t2, t3, t4⟩
    · exact absurd h9 w0
    · rw [if_pos (nI_lt (by omega) (by omega)), av_sub (by omega), av_gx_s (by omega) (by omega), nI_clamp (by omega), t1, if_neg (nI_ne (by omega) (by decide) t3), av_gx_s (by omega) (by omega)]
      by_cases e : t = 124
      · rcases t4 with t4 | t4
        · exact absurd e t4
        · rw [if_pos (by rw [e]), if_pos (by rw [t4])]
      · rw [if_neg (nI_ne (by omega) (by decide) e)]
theorem settle_V_pop (L : av_W) (d : Nat) {N : av_N} {w z s t : Nat} {q : av_Q} (h1 : N.1 142 24 = nI s) (h2 : N.1 142 25 = nI (w + 1)) (hw : w < 100) (hs : s < 600) (hz : z < 128) (ht : N.1 158 w = nI t) (h9 : t = 38 ∨ (t = 124 ∧ z ≠ 38)) (h : av_V (av_S0 L) (d + 1) ta_X7_settle 0 [.ref 142, .int (nI z)] [] (av_w (av_w (av_w N 142 25 (nI w)) 157 s (-nI t)) 142 24 (nI (s + 1))) = some q) : av_V (av_S0 L) (d + 1) ta_X7_settle 0 [.ref 142, .int (nI z)] [] N = some q := by
  apply eq_X7_settle_0 (d := d)
  simp only [av_kP]
  have h1' : (av_w N 142 25 (nI w)).1 142 24 = nI s := (av_w_k _ _ _ _ (by decide)).trans h1
  have t' : (av_w N 142 25 (nI w)).1 158 w = nI t := (av_w_o _ _ _ _ _ (by decide)).trans ht
  rw [h2, if_pos (nI_lt (by omega) (by omega)), av_sub (by omega), Nat.add_sub_cancel, av_gx_s (by omega) (by omega), nI_clamp (by omega), ht, av_w_s, nI_clamp (by omega), t', av_gx_s (by omega) (by omega), av_gx_s (by omega) (by omega), sp_emits L _ h1' hs, av_bv_s]
  rcases h9 with rfl | ⟨rfl, h9⟩
  · rw [if_pos rfl]
    exact h
  · rw [if_neg (by decide), if_pos rfl, if_neg (nI_ne (by omega) (by decide) h9)]
    exact h
theorem settle_C_stop (L : av_W) (d : Nat) {N : av_N} {w z : Nat} (h2 : N.1 142 25 = nI w) (hw : w ≤ 100) (h9 : w = 0 ∨ ∃ t, N.1 158 (w - 1) = nI t ∧ t < 128 ∧ t ≠ 38 ∧ (t ≠ 124 ∨ z = 38)) : av_C (av_S0 L) (d + 1) 134 [.ref 142, .int (nI z)] N = some (none, N) := by
  apply eq_X7_settle (d := d)
  simp only [av_kP]
  rw [h2]
  by_cases w0 : w = 0
  · rw [if_neg (nI_nlt (by omega) (by omega))]
  · rcases h9 with h9 | ⟨t, t1, t2, t3, t4⟩
    · exact absurd h9 w0
    · rw [if_pos (nI_lt (by omega) (by omega)), av_sub (by omega), av_gx_s (by omega) (by omega), nI_clamp (by omega), t1, if_neg (nI_ne (by omega) (by decide) t3), av_gx_s (by omega) (by omega)]
      by_cases e : t = 124
      · rcases t4 with t4 | t4
        · exact absurd e t4
        · rw [if_pos (by rw [e]), if_pos (by rw [t4])]
      · rw [if_neg (nI_ne (by omega) (by decide) e)]
theorem settle_C_pop (L : av_W) (d : Nat) {N : av_N} {w z s t : Nat} {q : av_Q} (h1 : N.1 142 24 = nI s) (h2 : N.1 142 25 = nI (w + 1)) (hw : w < 100) (hs : s < 600) (hz : z < 128) (ht : N.1 158 w = nI t) (h9 : t = 38 ∨ (t = 124 ∧ z ≠ 38)) (h : av_V (av_S0 L) (d + 1) ta_X7_settle 0 [.ref 142, .int (nI z)] [] (av_w (av_w (av_w N 142 25 (nI w)) 157 s (-nI t)) 142 24 (nI (s + 1))) = some q) : av_C (av_S0 L) (d + 1) 134 [.ref 142, .int (nI z)] N = some q := by
  apply eq_X7_settle (d := d)
  simp only [av_kP]
  have h1' : (av_w N 142 25 (nI w)).1 142 24 = nI s := (av_w_k _ _ _ _ (by decide)).trans h1
  have t' : (av_w N 142 25 (nI w)).1 158 w = nI t := (av_w_o _ _ _ _ _ (by decide)).trans ht
  rw [h2, if_pos (nI_lt (by omega) (by omega)), av_sub (by omega), Nat.add_sub_cancel, av_gx_s (by omega) (by omega), nI_clamp (by omega), ht, av_w_s, nI_clamp (by omega), t', av_gx_s (by omega) (by omega), av_gx_s (by omega) (by omega), sp_emits L _ h1' hs, av_bv_s]
  rcases h9 with rfl | ⟨rfl, h9⟩
  · rw [if_pos rfl]
    exact h
  · rw [if_neg (by decide), if_pos rfl, if_neg (nI_ne (by omega) (by decide) h9)]
    exact h
