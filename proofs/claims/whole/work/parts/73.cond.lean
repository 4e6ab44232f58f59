/-! conditions: what both readings of one come to -/
def dE (c s w q k : Nat) : Prop := (q = 142 ∧ (k = 14 ∨ k = 15 ∨ k = 24 ∨ k = 25 ∨ k = 26)) ∨ (q = 157 ∧ s ≤ k) ∨ (q = 158 ∧ w ≤ k) ∨ (q = 156 ∧ k = c)
theorem dE_le {c s s' w w' : Nat} (h1 : s ≤ s') (h2 : w ≤ w') : ∀ q k, dE c s' w' q k → dE c s w q k := fun q k z => by
  unfold dE at z ⊢
  omega
theorem dT_E {c s w : Nat} : ∀ q k, dT s q k → dE c s w q k := fun q k z => by
  unfold dT dN dW at z
  unfold dE
  omega
theorem dW_E {c s w : Nat} : ∀ q k, dW s q k → dE c s w q k := fun q k z => by
  unfold dW at z
  unfold dE
  omega
theorem qM_E {N N' : av_N} {F : Nat → Nat} {f c s w : Nat} (h : qM N F f) (hf : al_f2 (dE c s w) N N') : qM N' F f := qM_on h hf (by unfold dE; omega) (fun k => by unfold dE; omega)
def okR (f a : Nat) (r : Bool × Nat × List Nat) : Prop := a ≤ r.2.1 ∧ r.2.1 ≤ f ∧ (r.1 = true → a < r.2.1 ∧ r.2.2.length + 2 * sNt r.2.2 + a ≤ r.2.1 ∧ (∀ x ∈ r.2.2, sTok x) ∧ ∀ tr s, ∃ v, sEv tr r.2.2 s = some (v :: s))
def okC (L : av_W) (D mi : Nat) (F : Nat → Nat) (f n a : Nat) (r : Bool × Nat × List Nat) : Prop := ∀ (N : av_N) (p : Nat) (l : List Nat), al_ep p → qB N F f → cG N p a l → l.length ≤ a → ∃ N', av_C (av_S0 L) D mi [.ref 72, .ref p, .int (nI n)] N = some (some (.int (av_b r.1)), N') ∧ al_f2 (dP p) N N' ∧ (r.1 = true → cG N' p r.2.1 (l ++ r.2.2.map sCls)) ∧ (r.1 = false → cX N' p r.2.1)
noncomputable def eV (L : av_W) (d c : Nat) (x2 : Int32) (v : Value) (N : av_N) : Option av_Q := av_V (av_S0 L) (d + 4) ta_X7_takesE 14 [.ref 142, .int (nI c), .int x2, v] [] N
noncomputable def mTail (L : av_W) (d c : Nat) (z : Int32) (M : av_N) : Option av_Q := if M.1 142 25 = nI 0 then some (some (.int (nI 1)), av_w M 156 c (M.1 142 24)) else if z = nI 41 then av_bv (av_C (av_S0 L) (d + 3) 133 [.ref 142] (av_w (av_w (av_w (av_w M 156 c (M.1 142 24)) 142 25 (M.1 142 25 - nI 1)) 142 26 (M.1 142 26 - nI 1)) 142 14 (M.1 142 14 + nI 1))) (fun N105 => eV L d c (nI 0) (.int z) N105) else some (some (.int (nI 0)), av_w M 156 c (M.1 142 24))
def mSt (N : av_N) (a s w n : Nat) : Prop := N.1 142 14 = nI a ∧ N.1 142 24 = nI s ∧ N.1 142 25 = nI w ∧ N.1 142 26 = nI n
def okFM (L : av_W) (d : Nat) (F : Nat → Nat) (f n a : Nat) (r : Bool × Nat × List Nat) : Prop := ∀ (N : av_N) (c s w j : Nat) (v : Value), qM N F f → c < 60 → okv v → mSt N a s (w + j) n → j ≤ n → w + j ≤ a → s + w + j ≤ 500 + a → (∀ i, i < j → N.1 158 (w + i) = nI 33) → (w = 0 ∨ ∃ t, N.1 158 (w - 1) = nI t ∧ t ≠ 33 ∧ t < 128) →
  (r.1 = false → ∃ M, eV L d c (nI 1) v N = some (some (.int (nI 0)), M) ∧ M.1 142 14 = nI r.2.1 ∧ al_f2 (dE c s w) N M) ∧
  (r.1 = true → ∃ M z, (∀ q, eV L d c (nI 0) (.int z) M = some q → eV L d c (nI 1) v N = some q) ∧ mSt M r.2.1 (s + (r.2.2 ++ List.replicate j 0).length) w (n - j) ∧ tk M s (r.2.2 ++ List.replicate j 0) ∧ al_f2 (dE c s w) N M)
def okEM (L : av_W) (d : Nat) (F : Nat → Nat) (f n a : Nat) (r : Bool × Nat × List Nat) : Prop := ∀ (N : av_N) (c s w : Nat) (v : Value), qM N F f → c < 60 → okv v → mSt N a s w n → w ≤ a → s + w ≤ 500 + a → (w = 0 ∨ N.1 158 (w - 1) = nI 40) →
  (r.1 = false → ∃ M, eV L d c (nI 1) v N = some (some (.int (nI 0)), M) ∧ M.1 142 14 = nI r.2.1 ∧ al_f2 (dE c s w) N M) ∧
  (r.1 = true → ∃ M, (∀ q, mTail L d c (qV F f r.2.1) M = some q → eV L d c (nI 1) v N = some q) ∧ mSt M r.2.1 (s + r.2.2.length) w n ∧ tk M s r.2.2 ∧ al_f2 (dE c s w) N M)
theorem sEv_app {tr : Nat → Nat} : ∀ (x y : List Nat) (s s1 : List Bool), sEv tr x s = some s1 → sEv tr (x ++ y) s = sEv tr y s1
  | [], y, s, s1, h => by cases h; rfl
  | t :: x, y, s, s1, h => by
    obtain ⟨s2, e1, e2⟩ := sEv_cons h
    have ih := sEv_app x y s2 s1 e2
    rw [← ih]
    match t, s, e1 with
    | 0, a :: s, e1 => cases e1; rfl
    | 1, b :: a :: s, e1 => cases e1; rfl
    | 2, b :: a :: s, e1 => cases e1; rfl
    | u + 3, s, e1 => cases e1; rfl
/-! a test as a condition -/
theorem qT_ok {F : Nat → Nat} {f a : Nat} (h : a ≤ f) : okR f a (qT F f a) := by
  have hle := qT_le (F := F) h
  refine ⟨hle.1, hle.2, ?_⟩
  unfold qT
  by_cases h1 : qP (qG F f a) < 6
  · rw [if_pos h1]
    by_cases h2 : 60 ≤ qG F f (a + 1) ∧ qG F f (a + 1) ≤ 62
    · rw [if_pos h2]
      cases hn : qN F f (a + 2) with
      | none => exact fun z => by cases z
      | some r =>
        obtain ⟨r1, r2, r3⟩ := qN_le hn
        intro _
        refine ⟨by show a < r.2; omega, ?_, fun x hx => ?_, fun tr s => ⟨sTest tr (1000 * qP (qG F f a) + 100 * (qG F f (a + 1) - 60) + r.1), rfl⟩⟩
        · show 1 + 2 * ((if (1000 * qP (qG F f a) + 100 * (qG F f (a + 1) - 60) + r.1) + 3 < 3 then 0 else 1) + 0) + a ≤ r.2
          rw [if_neg (by omega)]
          omega
        · have hx := List.mem_singleton.mp hx
          exact Or.inr ⟨_, hx, by omega, by omega⟩
    · rw [if_neg h2]
      exact fun z => by cases z
  · rw [if_neg h1]
    exact fun z => by cases z
/-! the head of the reference's loop -/
theorem eV_test (L : av_W) (d : Nat) {N : av_N} {F : Nat → Nat} {f a c : Nat} {v : Value} {q : av_Q} (hF : qF F f) (hc : c < 60) (hB : qM N F f) (ha : N.1 142 14 = nI a) (hl : a ≤ f) (hv : okv v) (h1 : qG F f a ≠ 33) (h2 : qG F f a ≠ 40) (h : (av_bi (av_C (av_S0 L) (d + 3) 136 [.ref 142] N) fun z108 N107 => if z108 = nI 0 then some (some (.int (nI 0)), N107) else eV L d c (nI 0) (.int (qV F f a)) N107) = some q) : eV L d c (nI 1) v N = some q := by
  have n1 : ¬ qV F f a = nI 33 := fun z => h1 ((qV_eq hF a (by decide) (by decide)).mp z)
  have n2 : ¬ qV F f a = nI 40 := fun z => h2 ((qV_eq hF a (by decide) (by decide)).mp z)
  rcases hv with rfl | ⟨x, rfl⟩
  · apply eq_X7_takesE_14_a (d := d + 3)
    simp only [av_kP]
    rw [sp_nextM L _ hF hB ha hl, av_bi_s, if_neg (by decide), if_neg n1, if_neg n2]
    simp only [av_bt_0]
    exact h
  · apply eq_X7_takesE_14_b (d := d + 3)
    simp only [av_kP]
    rw [sp_nextM L _ hF hB ha hl, av_bi_s, if_neg (by decide), if_neg n1, if_neg n2]
    simp only [av_bt_0]
    exact h
theorem eV_deep (L : av_W) (d : Nat) {N : av_N} {F : Nat → Nat} {f a c : Nat} {v : Value} (hF : qF F f) (hc : c < 60) (hB : qM N F f) (ha : N.1 142 14 = nI a) (hl : a ≤ f) (hv : okv v) (h1 : qG F f a = 33 ∨ qG F f a = 40) (h4 : N.1 142 26 = nI 4) : eV L d c (nI 1) v N = some (some (.int (nI 0)), N) := by
  have e33 := qV_eq hF a (c := 33) (by decide) (by decide)
  have e40 := qV_eq hF a (c := 40) (by decide) (by decide)
  rcases hv with rfl | ⟨x, rfl⟩
  · apply eq_X7_takesE_14_a (d := d + 3)
    simp only [av_kP]
    rw [sp_nextM L _ hF hB ha hl, av_bi_s, if_neg (by decide)]
    rcases h1 with h1 | h1
    · rw [if_pos (e33.mpr h1), if_pos h4, av_bt_0]
    · rw [if_neg (fun z => by have := e33.mp z; omega), if_pos (e40.mpr h1), if_pos h4, av_bt_0]
  · apply eq_X7_takesE_14_b (d := d + 3)
    simp only [av_kP]
    rw [sp_nextM L _ hF hB ha hl, av_bi_s, if_neg (by decide)]
    rcases h1 with h1 | h1
    · rw [if_pos (e33.mpr h1), if_pos h4, av_bt_0]
    · rw [if_neg (fun z => by have := e33.mp z; omega), if_pos (e40.mpr h1), if_pos h4, av_bt_0]
theorem eV_push (L : av_W) (d : Nat) {N : av_N} {F : Nat → Nat} {f a s w n c g : Nat} {v : Value} {q : av_Q} (hF : qF F f) (hc : c < 60) (hB : qM N F f) (hS : mSt N a s w n) (hl : a ≤ f) (hv : okv v) (h1 : qG F f a = g) (hg : g = 33 ∨ g = 40) (hw : w ≤ 100) (hn : n < 4) (h : eV L d c (nI 1) (.int (qV F f a)) (av_w (av_w (av_w (av_w N 142 26 (nI (n + 1))) 158 w (nI g)) 142 25 (nI (w + 1))) 142 14 (nI (a + 1))) = some q) : eV L d c (nI 1) v N = some q := by
  have e33 := qV_eq hF a (c := 33) (by decide) (by decide)
  have e40 := qV_eq hF a (c := 40) (by decide) (by decide)
  obtain ⟨s1, s2, s3, s4⟩ := hS
  have eg : qV F f a = nI g := (qV_eq hF a (by omega) (by omega)).mpr h1
  have n4 : ¬ nI n = nI 4 := nI_ne (by omega) (by decide) (by omega)
  have t25 : (av_w N 142 26 (nI (n + 1))).1 142 25 = nI w := (av_w_k _ _ _ _ (by decide)).trans s3
  rcases hv with rfl | ⟨x, rfl⟩
  · apply eq_X7_takesE_14_a (d := d + 3)
    simp only [av_kP]
    rw [sp_nextM L _ hF hB s1 hl, av_bi_s, if_neg (by decide)]
    rcases hg with rfl | rfl
    · rw [if_pos (e33.mpr h1), s4, if_neg n4, nI_add, t25, av_gx_s (by omega) (by omega), nI_clamp (by omega)]
      simp (disch := decide) only [av_w_k, av_w_o]
      rw [s3, s1, nI_add, nI_add, eg]
      rw [eg] at h
      exact h
    · rw [if_neg (fun z => by have := e33.mp z; omega), if_pos (e40.mpr h1), s4, if_neg n4, nI_add, t25, av_gx_s (by omega) (by omega), nI_clamp (by omega)]
      simp (disch := decide) only [av_w_k, av_w_o]
      rw [s3, s1, nI_add, nI_add, eg]
      rw [eg] at h
      exact h
  · apply eq_X7_takesE_14_b (d := d + 3)
    simp only [av_kP]
    rw [sp_nextM L _ hF hB s1 hl, av_bi_s, if_neg (by decide)]
    rcases hg with rfl | rfl
    · rw [if_pos (e33.mpr h1), s4, if_neg n4, nI_add, t25, av_gx_s (by omega) (by omega), nI_clamp (by omega)]
      simp (disch := decide) only [av_w_k, av_w_o]
      rw [s3, s1, nI_add, nI_add, eg]
      rw [eg] at h
      exact h
    · rw [if_neg (fun z => by have := e33.mp z; omega), if_pos (e40.mpr h1), s4, if_neg n4, nI_add, t25, av_gx_s (by omega) (by omega), nI_clamp (by omega)]
      simp (disch := decide) only [av_w_k, av_w_o]
      rw [s3, s1, nI_add, nI_add, eg]
      rw [eg] at h
      exact h
theorem eV_op (L : av_W) (d : Nat) {N M : av_N} {F : Nat → Nat} {f a w c g : Nat} {v : Value} {q : av_Q} (hF : qF F f) (hc : c < 60) (hB : qM N F f) (ha : N.1 142 14 = nI a) (hl : a ≤ f) (hv : okv v) (h1 : qG F f a = g) (hg : g = 38 ∨ g = 124) (hset : av_C (av_S0 L) (d + 3) 134 [.ref 142, .int (nI g)] N = some (none, M)) (m14 : M.1 142 14 = nI a) (m25 : M.1 142 25 = nI w) (hw : w ≤ 100) (h : eV L d c (nI 1) (.int (nI g)) (av_w (av_w (av_w M 158 w (nI g)) 142 25 (nI (w + 1))) 142 14 (nI (a + 1))) = some q) : eV L d c (nI 0) v N = some q := by
  have e38 := qV_eq hF a (c := 38) (by decide) (by decide)
  have e124 := qV_eq hF a (c := 124) (by decide) (by decide)
  have eg : qV F f a = nI g := (qV_eq hF a (by omega) (by omega)).mpr h1
  rcases hv with rfl | ⟨x, rfl⟩
  · apply eq_X7_takesE_14_a (d := d + 3)
    simp only [av_kP]
    rw [sp_nextM L _ hF hB ha hl, av_bi_s, if_pos trivial]
    rcases hg with rfl | rfl
    · rw [if_pos (e38.mpr h1), eg, hset, av_bv_s, m25, av_gx_s (by omega) (by omega), nI_clamp (by omega)]
      simp (disch := decide) only [av_w_k, av_w_o]
      rw [m25, m14, nI_add, nI_add]
      exact h
    · rw [if_neg (fun z => by have := e38.mp z; omega), if_pos (e124.mpr h1), eg, hset, av_bv_s, m25, av_gx_s (by omega) (by omega), nI_clamp (by omega)]
      simp (disch := decide) only [av_w_k, av_w_o]
      rw [m25, m14, nI_add, nI_add]
      exact h
  · apply eq_X7_takesE_14_b (d := d + 3)
    simp only [av_kP]
    rw [sp_nextM L _ hF hB ha hl, av_bi_s, if_pos trivial]
    rcases hg with rfl | rfl
    · rw [if_pos (e38.mpr h1), eg, hset, av_bv_s, m25, av_gx_s (by omega) (by omega), nI_clamp (by omega)]
      simp (disch := decide) only [av_w_k, av_w_o]
      rw [m25, m14, nI_add, nI_add]
      exact h
    · rw [if_neg (fun z => by have := e38.mp z; omega), if_pos (e124.mpr h1), eg, hset, av_bv_s, m25, av_gx_s (by omega) (by omega), nI_clamp (by omega)]
      simp (disch := decide) only [av_w_k, av_w_o]
      rw [m25, m14, nI_add, nI_add]
      exact h
theorem eV_end (L : av_W) (d : Nat) {N M : av_N} {F : Nat → Nat} {f a c : Nat} {v : Value} {q : av_Q} (hF : qF F f) (hc : c < 60) (hB : qM N F f) (ha : N.1 142 14 = nI a) (hl : a ≤ f) (hv : okv v) (h1 : qG F f a ≠ 38) (h2 : qG F f a ≠ 124) (hset : av_C (av_S0 L) (d + 3) 134 [.ref 142, .int (nI 124)] N = some (none, M)) (h : mTail L d c (qV F f a) M = some q) : eV L d c (nI 0) v N = some q := by
  have n1 : ¬ qV F f a = nI 38 := fun z => h1 ((qV_eq hF a (by decide) (by decide)).mp z)
  have n2 : ¬ qV F f a = nI 124 := fun z => h2 ((qV_eq hF a (by decide) (by decide)).mp z)
  rcases hv with rfl | ⟨x, rfl⟩
  · apply eq_X7_takesE_14_a (d := d + 3)
    simp only [av_kP]
    rw [sp_nextM L _ hF hB ha hl, av_bi_s, if_pos trivial, if_neg n1, if_neg n2, hset, av_bv_s, av_gx_s hc (by omega), nI_clamp (by omega)]
    simp (disch := decide) only [av_w_k, av_w_o, av_bt_0, av_bt_1]
    exact h
  · apply eq_X7_takesE_14_b (d := d + 3)
    simp only [av_kP]
    rw [sp_nextM L _ hF hB ha hl, av_bi_s, if_pos trivial, if_neg n1, if_neg n2, hset, av_bv_s, av_gx_s hc (by omega), nI_clamp (by omega)]
    simp (disch := decide) only [av_w_k, av_w_o, av_bt_0, av_bt_1]
    exact h
