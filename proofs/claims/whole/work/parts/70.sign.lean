/-! texts: signs, numbers, words -/
def qG (F : Nat → Nat) (f a : Nat) : Nat := if a < f then F a else 0
def qV (F : Nat → Nat) (f a : Nat) : Int32 := if a < f then nI (F a) else av_k (-1)
def qF (F : Nat → Nat) (f : Nat) : Prop := f ≤ 100 ∧ ∀ j, j < f → F j < 128
def qB (N : av_N) (F : Nat → Nat) (f : Nat) : Prop := N.1 72 1 = nI f ∧ ∀ j, j < f → N.1 73 j = nI (F j)
def qM (N : av_N) (F : Nat → Nat) (f : Nat) : Prop := N.1 142 13 = nI f ∧ ∀ j, j < f → N.1 151 j = nI (F j)
theorem qG_lt {F : Nat → Nat} {f : Nat} (hF : qF F f) (a : Nat) : qG F f a < 128 := by
  unfold qG
  split
  next h => exact hF.2 a h
  · decide
theorem qG_in {F : Nat → Nat} {f a : Nat} (h : qG F f a ≠ 0) : a < f := by
  unfold qG at h
  split at h
  next h1 => exact h1
  · exact absurd rfl h
theorem qV_G {F : Nat → Nat} {f a : Nat} (h : qG F f a ≠ 0) : qV F f a = nI (qG F f a) := by
  have := qG_in h
  unfold qV qG
  rw [if_pos this, if_pos this]
theorem qV_eq {F : Nat → Nat} {f : Nat} (hF : qF F f) (a : Nat) {c : Nat} (c1 : 1 ≤ c) (c2 : c < 128) : qV F f a = nI c ↔ qG F f a = c := by
  by_cases h : a < f
  · unfold qV qG
    rw [if_pos h, if_pos h]
    have := hF.2 a h
    exact nI_eq (by omega) (by omega)
  · unfold qV qG
    rw [if_neg h, if_neg h]
    constructor
    · intro z
      have := congrArg Int32.toInt z
      rw [av_kI (by decide) (by decide), nI_toInt (by omega)] at this
      omega
    · intro z
      omega
theorem qV_lt {F : Nat → Nat} {f : Nat} (hF : qF F f) (a : Nat) {c : Nat} (c1 : 1 ≤ c) (c2 : c < 128) : qV F f a < nI c ↔ qG F f a < c := by
  by_cases h : a < f
  · unfold qV qG
    rw [if_pos h, if_pos h]
    have := hF.2 a h
    exact ⟨fun z => Classical.byContradiction fun y => nI_nlt (by omega) (by omega) z, fun z => nI_lt z (by omega)⟩
  · unfold qV qG
    rw [if_neg h, if_neg h, Int32.lt_iff_toInt_lt, av_kI (by decide) (by decide), nI_toInt (by omega)]
    omega
theorem qV_gt {F : Nat → Nat} {f : Nat} (hF : qF F f) (a : Nat) {c : Nat} (c2 : c < 128) : nI c < qV F f a ↔ c < qG F f a := by
  by_cases h : a < f
  · unfold qV qG
    rw [if_pos h, if_pos h]
    have := hF.2 a h
    exact ⟨fun z => Classical.byContradiction fun y => nI_nlt (by omega) (by omega) z, fun z => nI_lt z (by omega)⟩
  · unfold qV qG
    rw [if_neg h, if_neg h, Int32.lt_iff_toInt_lt, av_kI (by decide) (by decide), nI_toInt (by omega)]
    omega
theorem qV_wi {F : Nat → Nat} {f : Nat} (hF : qF F f) (a : Nat) {b c : Nat} (b1 : 1 ≤ b) (b2 : b < 128) (c2 : c < 128) : av_wi (qV F f a) (nI b) (nI c) = decide (b ≤ qG F f a ∧ qG F f a ≤ c) := by
  unfold av_wi
  have e1 := qV_lt hF a b1 b2
  have e2 := qV_gt hF a c2
  by_cases x : qG F f a < b
  · rw [decide_eq_false (p := ¬ qV F f a < nI b) (fun z => z (e1.mpr x)), Bool.false_and, decide_eq_false (by omega)]
  · rw [decide_eq_true (p := ¬ qV F f a < nI b) (fun z => x (e1.mp z)), Bool.true_and]
    by_cases y : c < qG F f a
    · rw [decide_eq_false (p := ¬ nI c < qV F f a) (fun z => z (e2.mpr y)), decide_eq_false (by omega)]
    · rw [decide_eq_true (p := ¬ nI c < qV F f a) (fun z => y (e2.mp z)), decide_eq_true (by omega)]
theorem sp_next (L : av_W) (d : Nat) {N : av_N} {F : Nat → Nat} {f a : Nat} (hF : qF F f) (hB : qB N F f) (ha : N.1 72 2 = nI a) (hl : a ≤ f) : av_C (av_S0 L) d 31 [.ref 72] N = some (some (.int (qV F f a)), N) := by
  have h100 := hF.1
  apply eq_X2_next
  simp only [av_kP]
  unfold qV
  rw [ha, hB.1, if_neg (nI_nlt (Nat.zero_le _) (by omega))]
  by_cases h : a < f
  · rw [if_pos h, if_pos (nI_lt h (by omega)), show Int32.ofNat 100 = nI 100 from rfl, if_pos (nI_lt (show a < 100 by omega) (by decide)), av_gx_s (by omega) (by omega), nI_clamp (by omega), hB.2 a h]
  · rw [if_neg h, if_neg (nI_nlt (by omega) (by omega))]
theorem sp_nextM (L : av_W) (d : Nat) {N : av_N} {F : Nat → Nat} {f a : Nat} (hF : qF F f) (hB : qM N F f) (ha : N.1 142 14 = nI a) (hl : a ≤ f) : av_C (av_S0 L) d 127 [.ref 142] N = some (some (.int (qV F f a)), N) := by
  have h100 := hF.1
  apply eq_X7_next
  unfold qV
  rw [ha, hB.1]
  by_cases h : a < f
  · rw [if_pos h, if_pos (nI_lt h (by omega)), av_gx_s (by omega) (by omega), nI_clamp (by omega), hB.2 a h]
  · rw [if_neg h, if_neg (nI_nlt (by omega) (by omega))]
/-- one sign, if it is there -/
theorem sp_skip (L : av_W) (d : Nat) {N : av_N} {F : Nat → Nat} {f a : Nat} (hF : qF F f) (hB : qB N F f) (ha : N.1 72 2 = nI a) (hl : a ≤ f) {c : Nat} (c1 : 1 ≤ c) (c2 : c < 128) : av_C (av_S0 L) (d + 1) 32 [.ref 72, .int (nI c)] N = if qG F f a = c then some (some (.int (nI 1)), av_w N 72 2 (nI (a + 1))) else some (some (.int (nI 0)), N) := by
  by_cases h : qG F f a = c
  · rw [if_pos h]
    apply eq_X2_skip (d := d)
    simp only [av_kP]
    rw [sp_next L _ hF hB ha hl, av_bi_s, if_pos ((qV_eq hF a c1 c2).mpr h), if_neg (by decide), av_bt_1, ha, nI_add]
  · rw [if_neg h]
    apply eq_X2_skip (d := d)
    simp only [av_kP]
    rw [sp_next L _ hF hB ha hl, av_bi_s, if_neg (fun z => h ((qV_eq hF a c1 c2).mp z)), if_pos trivial, av_bt_0]
theorem sp_takes (L : av_W) (d : Nat) {N : av_N} {F : Nat → Nat} {f a : Nat} (hF : qF F f) (hB : qM N F f) (ha : N.1 142 14 = nI a) (hl : a ≤ f) {c : Nat} (c1 : 1 ≤ c) (c2 : c < 128) : av_C (av_S0 L) (d + 1) 128 [.ref 142, .int (nI c)] N = if qG F f a = c then some (some (.int (nI 1)), av_w N 142 14 (nI (a + 1))) else some (some (.int (nI 0)), N) := by
  by_cases h : qG F f a = c
  · rw [if_pos h]
    apply eq_X7_takes (d := d)
    simp only [av_kP]
    rw [sp_nextM L _ hF hB ha hl, av_bi_s, if_pos ((qV_eq hF a c1 c2).mpr h), av_bt_1, ha, nI_add]
  · rw [if_neg h]
    apply eq_X7_takes (d := d)
    simp only [av_kP]
    rw [sp_nextM L _ hF hB ha hl, av_bi_s, if_neg (fun z => h ((qV_eq hF a c1 c2).mp z)), av_bt_0]
/-! words -/
def qW (F : Nat → Nat) (f : Nat) : List Nat → Nat → Bool × Nat
  | [], a => (true, a)
  | c :: w, a => if qG F f a = c then qW F f w (a + 1) else (false, a)
theorem qW_le {F : Nat → Nat} {f : Nat} : ∀ (w : List Nat) (a : Nat), (∀ c ∈ w, 1 ≤ c) → a ≤ f → a ≤ (qW F f w a).2 ∧ (qW F f w a).2 ≤ f ∧ ((qW F f w a).1 = true → (qW F f w a).2 = a + w.length)
  | [], a, _, h => ⟨Nat.le_refl _, h, fun _ => rfl⟩
  | c :: w, a, hw, h => by
    unfold qW
    by_cases e : qG F f a = c
    · rw [if_pos e]
      have hc := hw c List.mem_cons_self
      have hl := qG_in (F := F) (f := f) (a := a) (by omega)
      obtain ⟨r1, r2, r3⟩ := qW_le w (a + 1) (fun x hx => hw x (List.mem_cons_of_mem _ hx)) hl
      refine ⟨by omega, r2, fun z => ?_⟩
      rw [r3 z, List.length_cons]
      omega
    · rw [if_neg e]
      exact ⟨Nat.le_refl _, h, fun z => by cases z⟩
def dS (q k : Nat) : Prop := q = 72 ∧ k = 2
def dN (q k : Nat) : Prop := q = 142 ∧ (k = 14 ∨ k = 15)
theorem qB_on {N N' : av_N} {F : Nat → Nat} {f : Nat} (h : qB N F f) {D : Nat → Nat → Prop} (hf : al_f2 D N N') (hd : ¬ D 72 1) (hd2 : ∀ k, ¬ D 73 k) : qB N' F f := ⟨((hf _ _ hd).1).trans h.1, fun j hj => ((hf _ _ (hd2 j)).1).trans (h.2 j hj)⟩
theorem qM_on {N N' : av_N} {F : Nat → Nat} {f : Nat} (h : qM N F f) {D : Nat → Nat → Prop} (hf : al_f2 D N N') (hd : ¬ D 142 13) (hd2 : ∀ k, ¬ D 151 k) : qM N' F f := ⟨((hf _ _ hd).1).trans h.1, fun j hj => ((hf _ _ (hd2 j)).1).trans (h.2 j hj)⟩
theorem qB_S {N N' : av_N} {F : Nat → Nat} {f : Nat} (h : qB N F f) (hf : al_f2 dS N N') : qB N' F f := qB_on h hf (by unfold dS; omega) (fun k => by unfold dS; omega)
theorem qM_N {N N' : av_N} {F : Nat → Nat} {f : Nat} (h : qM N F f) (hf : al_f2 dN N N') : qM N' F f := qM_on h hf (by unfold dN; omega) (fun k => by unfold dN; omega)
theorem sp_skipWord_4 (L : av_W) (d : Nat) {F : Nat → Nat} {f p n : Nat} (hF : qF F f) (hp : am_MS L p = (200, n)) (hn : n ≤ 20) : ∀ (w : List Nat) (N : av_N) (a i : Nat), qB N F f → N.1 72 2 = nI a → a ≤ f → i + w.length = n → (∀ j, j < w.length → N.1 p (i + j) = nI (w.getD j 0)) → (∀ c ∈ w, 1 ≤ c ∧ c < 128) → p ≠ 72 → ∃ N', av_V (av_S0 L) (d + 7) ta_X2_skipWord 4 [.ref 72, .ref p, .int (nI 1), .int (nI i)] [] N = some (some (.int (av_b (qW F f w a).1)), N') ∧ N'.1 72 2 = nI (qW F f w a).2 ∧ al_f2 dS N N' := by
  intro w
  induction w with
  | nil =>
    intro N a i hB ha hl hi hw hc hp2
    refine ⟨N, ?_, ha, al_f2_rf _ _⟩
    apply eq_X2_skipWord_4 (d := d)
    simp only [av_kP]
    rw [if_neg (by decide), hp, av_tg_s, show Int32.ofNat (200, n).2 = nI n from rfl, if_neg (nI_nlt (by rw [List.length_nil] at hi; omega) (by omega)), av_bt_1]
    rfl
  | cons c w ih =>
    intro N a i hB ha hl hi hw hc hp2
    rw [List.length_cons] at hi
    obtain ⟨c1, c2⟩ := hc c List.mem_cons_self
    have h0 : N.1 p i = nI c := hw 0 (by rw [List.length_cons]; omega)
    have pre : ∀ q, (av_bi (if qG F f a = c then some (some (.int (nI 1)), av_w N 72 2 (nI (a + 1))) else some (some (.int (nI 0)), N)) fun z102 N101 => av_V (av_S0 L) (d + 7) ta_X2_skipWord 4 [.ref 72, .ref p, .int z102, .int (nI (i + 1))] [] N101) = some q → av_V (av_S0 L) (d + 7) ta_X2_skipWord 4 [.ref 72, .ref p, .int (nI 1), .int (nI i)] [] N = some q := fun q hq => by
      apply eq_X2_skipWord_4 (d := d)
      simp only [av_kP]
      rw [if_neg (by decide), hp, av_tg_s, show Int32.ofNat (200, n).2 = nI n from rfl, if_pos (nI_lt (by omega) (by omega)), av_tg_s, av_gx_s (by show i < n; omega) (by omega), nI_clamp (by omega), h0, sp_skip L (d + 5) hF hB ha hl c1 c2, nI_add]
      exact hq
    by_cases e : qG F f a = c
    · have hlt := qG_in (F := F) (f := f) (a := a) (by omega)
      have fr : al_f2 dS N (av_w N 72 2 (nI (a + 1))) := al_f2_w N ⟨rfl, rfl⟩ _
      obtain ⟨N', q1, q2, q3⟩ := ih (av_w N 72 2 (nI (a + 1))) (a + 1) (i + 1) (qB_S hB fr) (av_w_s _ _ _ _) hlt (by omega) (fun j hj => by
        rw [av_w_o _ _ _ _ _ hp2, show i + 1 + j = i + (j + 1) by omega, hw (j + 1) (by rw [List.length_cons]; omega)]
        rfl) (fun x hx => hc x (List.mem_cons_of_mem _ hx)) hp2
      have e2 : qW F f (c :: w) a = qW F f w (a + 1) := if_pos e
      rw [e2]
      refine ⟨N', pre _ ?_, q2, al_f2_tr fr q3⟩
      rw [if_pos e, av_bi_s]
      exact q1
    · have e2 : qW F f (c :: w) a = (false, a) := if_neg e
      rw [e2]
      refine ⟨N, pre _ ?_, ha, al_f2_rf _ _⟩
      rw [if_neg e, av_bi_s]
      apply eq_X2_skipWord_4 (d := d)
      simp only [av_kP]
      rw [if_pos trivial, av_bt_0]
      rfl
theorem sp_skipWord (L : av_W) (d : Nat) {F : Nat → Nat} {f p : Nat} {N : av_N} {a : Nat} (w : List Nat) (hF : qF F f) (hp : am_MS L p = (200, w.length)) (hn : w.length ≤ 20) (hB : qB N F f) (ha : N.1 72 2 = nI a) (hl : a ≤ f) (hw : ∀ j, j < w.length → N.1 p j = nI (w.getD j 0)) (hc : ∀ c ∈ w, 1 ≤ c ∧ c < 128) (hp2 : p ≠ 72) : ∃ N', av_C (av_S0 L) (d + 7) 33 [.ref 72, .ref p] N = some (some (.int (av_b (qW F f w a).1)), N') ∧ N'.1 72 2 = nI (qW F f w a).2 ∧ al_f2 dS N N' := by
  obtain ⟨N', q1, q2, q3⟩ := sp_skipWord_4 L d hF hp hn w N a 0 hB ha hl (by omega) (fun j hj => by rw [Nat.zero_add]; exact hw j hj) hc hp2
  refine ⟨N', ?_, q2, q3⟩
  apply eq_X2_skipWord (d := d)
  simp only [av_kP]
  exact q1
theorem sp_takesWord_2 (L : av_W) (d : Nat) {F : Nat → Nat} {f s n : Nat} (hF : qF F f) (hsn : s + n ≤ 16) : ∀ (w : List Nat) (N : av_N) (a i : Nat), qM N F f → N.1 142 14 = nI a → a ≤ f → i + w.length = n → (∀ j, j < w.length → N.1 159 (s + (i + j)) = nI (w.getD j 0)) → (∀ c ∈ w, 1 ≤ c ∧ c < 128) → ∃ N', av_V (av_S0 L) (d + 2) ta_X7_takesWord 2 [.ref 142, .int (nI s), .int (nI n), .int (nI i)] [] N = some (some (.int (av_b (qW F f (w ++ [32]) a).1)), N') ∧ N'.1 142 14 = nI (qW F f (w ++ [32]) a).2 ∧ al_f2 dN N N' := by
  intro w
  induction w with
  | nil =>
    intro N a i hB ha hl hi hw hc
    have e2 : qW F f ([] ++ [32]) a = if qG F f a = 32 then (true, a + 1) else (false, a) := rfl
    have pre : ∀ q, (av_bi (if qG F f a = 32 then some (some (.int (nI 1)), av_w N 142 14 (nI (a + 1))) else some (some (.int (nI 0)), N)) fun z102 N101 => av_bt z102 (some (some (.int z102), N101))) = some q → av_V (av_S0 L) (d + 2) ta_X7_takesWord 2 [.ref 142, .int (nI s), .int (nI n), .int (nI i)] [] N = some q := fun q hq => by
      apply eq_X7_takesWord_2 (d := d + 1)
      simp only [av_kP]
      rw [if_neg (nI_nlt (by rw [List.length_nil] at hi; omega) (by omega)), sp_takes L d hF hB ha hl (by decide) (by decide)]
      exact hq
    rw [e2]
    by_cases e : qG F f a = 32
    · rw [if_pos e] at pre ⊢
      exact ⟨_, pre _ rfl, av_w_s _ _ _ _, al_f2_w N ⟨rfl, Or.inl rfl⟩ _⟩
    · rw [if_neg e] at pre ⊢
      exact ⟨_, pre _ rfl, ha, al_f2_rf _ _⟩
  | cons c w ih =>
    intro N a i hB ha hl hi hw hc
    rw [List.length_cons] at hi
    obtain ⟨c1, c2⟩ := hc c List.mem_cons_self
    have h0 : N.1 159 (s + i) = nI c := hw 0 (by rw [List.length_cons]; omega)
    have pre : ∀ q, (av_bi (if qG F f a = c then some (some (.int (nI 1)), av_w N 142 14 (nI (a + 1))) else some (some (.int (nI 0)), N)) fun z104 N103 => if z104 = nI 0 then av_bt (nI 0) (some (some (.int (nI 0)), N103)) else av_V (av_S0 L) (d + 2) ta_X7_takesWord 2 [.ref 142, .int (nI s), .int (nI n), .int (nI (i + 1))] [] N103) = some q → av_V (av_S0 L) (d + 2) ta_X7_takesWord 2 [.ref 142, .int (nI s), .int (nI n), .int (nI i)] [] N = some q := fun q hq => by
      apply eq_X7_takesWord_2 (d := d + 1)
      simp only [av_kP]
      rw [if_pos (nI_lt (by omega) (by omega)), nI_add, av_gx_s (by omega) (by omega), nI_clamp (by omega), h0, sp_takes L d hF hB ha hl c1 c2, nI_add]
      exact hq
    by_cases e : qG F f a = c
    · have hlt := qG_in (F := F) (f := f) (a := a) (by omega)
      have fr : al_f2 dN N (av_w N 142 14 (nI (a + 1))) := al_f2_w N ⟨rfl, Or.inl rfl⟩ _
      obtain ⟨N', q1, q2, q3⟩ := ih (av_w N 142 14 (nI (a + 1))) (a + 1) (i + 1) (qM_N hB fr) (av_w_s _ _ _ _) hlt (by omega) (fun j hj => by
        rw [av_w_o _ _ _ _ _ (by decide), show i + 1 + j = i + (j + 1) by omega, hw (j + 1) (by rw [List.length_cons]; omega)]
        rfl) (fun x hx => hc x (List.mem_cons_of_mem _ hx))
      have e2 : qW F f (c :: w ++ [32]) a = qW F f (w ++ [32]) (a + 1) := if_pos e
      rw [e2]
      refine ⟨N', pre _ ?_, q2, al_f2_tr fr q3⟩
      rw [if_pos e, av_bi_s, if_neg (by decide)]
      exact q1
    · have e2 : qW F f (c :: w ++ [32]) a = (false, a) := if_neg e
      rw [e2]
      refine ⟨N, pre _ ?_, ha, al_f2_rf _ _⟩
      rw [if_neg e, av_bi_s, if_pos rfl, av_bt_0]
      rfl
theorem sp_takesWord (L : av_W) (d : Nat) {F : Nat → Nat} {f s : Nat} {N : av_N} {a : Nat} (w : List Nat) (hF : qF F f) (hsn : s + w.length ≤ 16) (hB : qM N F f) (ha : N.1 142 14 = nI a) (hl : a ≤ f) (hw : ∀ j, j < w.length → N.1 159 (s + j) = nI (w.getD j 0)) (hc : ∀ c ∈ w, 1 ≤ c ∧ c < 128) : ∃ N', av_C (av_S0 L) (d + 2) 129 [.ref 142, .int (nI s), .int (nI w.length)] N = some (some (.int (av_b (qW F f (w ++ [32]) a).1)), N') ∧ N'.1 142 14 = nI (qW F f (w ++ [32]) a).2 ∧ al_f2 dN N N' := by
  obtain ⟨N', q1, q2, q3⟩ := sp_takesWord_2 L d hF hsn w N a 0 hB ha hl (by omega) (fun j hj => by rw [Nat.zero_add]; exact hw j hj) hc
  refine ⟨N', ?_, q2, q3⟩
  apply eq_X7_takesWord (d := d + 1)
  simp only [av_kP]
  exact q1
/-! numbers -/
def qD (F : Nat → Nat) (f a : Nat) : Bool := decide (48 ≤ qG F f a ∧ qG F f a ≤ 57)
def qN (F : Nat → Nat) (f a : Nat) : Option (Nat × Nat) := if qD F f a = true then (if qD F f (a + 1) = true then some (10 * (qG F f a - 48) + (qG F f (a + 1) - 48), a + 2) else some (qG F f a - 48, a + 1)) else none
theorem qD_in {F : Nat → Nat} {f a : Nat} (h : qD F f a = true) : a < f ∧ 48 ≤ qG F f a ∧ qG F f a ≤ 57 := by
  have := of_decide_eq_true h
  exact ⟨qG_in (F := F) (f := f) (a := a) (by omega), this⟩
theorem qN_le {F : Nat → Nat} {f a : Nat} {r : Nat × Nat} (h : qN F f a = some r) : r.1 ≤ 99 ∧ a < r.2 ∧ r.2 ≤ f := by
  unfold qN at h
  split at h
  next h1 =>
    obtain ⟨x1, x2, x3⟩ := qD_in h1
    split at h
    next h2 =>
      obtain ⟨y1, y2, y3⟩ := qD_in h2
      cases h
      refine ⟨?_, ?_, ?_⟩ <;> dsimp only <;> omega
    next =>
      cases h
      refine ⟨?_, ?_, ?_⟩ <;> dsimp only <;> omega
  · cases h
theorem sp_nstop (L : av_W) (d : Nat) {N : av_N} {F : Nat → Nat} {f a k : Nat} (x : Int32) (hF : qF F f) (hB : qB N F f) (ha : N.1 72 2 = nI a) (hl : a ≤ f) (hk : k ≤ 2) (h : k = 2 ∨ qD F f a = false) : av_V (av_S0 L) (d + 1) ta_X2_number 4 [.ref 72, .int x, .int (nI k)] [] N = some (some (.int x), N) := by
  apply eq_X2_number_4 (d := d)
  simp only [av_kP]
  by_cases h2 : k = 2
  · rw [if_neg (nI_nlt (by omega) (by omega))]
  · have hd : qD F f a = false := by
      rcases h with h | h
      · exact absurd h h2
      · exact h
    have hd := of_decide_eq_false hd
    rw [if_pos (nI_lt (by omega) (by decide)), sp_next L _ hF hB ha hl, av_bi_s]
    by_cases e : qG F f a < 48
    · rw [if_pos ((qV_lt hF a (by decide) (by decide)).mpr e)]
    · rw [if_neg (fun z => e ((qV_lt hF a (by decide) (by decide)).mp z)), sp_next L _ hF hB ha hl, av_bi_s, if_pos ((qV_gt hF a (by decide)).mpr (by omega))]
theorem sp_nstep (L : av_W) (d : Nat) {N : av_N} {F : Nat → Nat} {f a k : Nat} {x : Int32} {q : av_Q} (hF : qF F f) (hB : qB N F f) (ha : N.1 72 2 = nI a) (hl : a ≤ f) (hk : k < 2) (hd : qD F f a = true) (h : av_V (av_S0 L) (d + 1) ta_X2_number 4 [.ref 72, .int (nI 10 * (if nI 0 < x then x else nI 0) + nI (qG F f a) - nI 48), .int (nI (k + 1))] [] (av_w N 72 2 (nI (a + 1))) = some q) : av_V (av_S0 L) (d + 1) ta_X2_number 4 [.ref 72, .int x, .int (nI k)] [] N = some q := by
  obtain ⟨h1, h2, h3⟩ := qD_in hd
  apply eq_X2_number_4 (d := d)
  simp only [av_kP]
  rw [if_pos (nI_lt hk (by decide)), sp_next L _ hF hB ha hl, av_bi_s, if_neg (fun z => by have := (qV_lt hF a (by decide) (by decide)).mp z; omega), sp_next L _ hF hB ha hl, av_bi_s, if_neg (fun z => by have := (qV_gt hF a (by decide)).mp z; omega), sp_max, av_bi_s, sp_next L _ hF hB ha hl, av_bi_s, ha, nI_add, nI_add, qV_G (by omega)]
  exact h
theorem sp_number (L : av_W) (d : Nat) {N : av_N} {F : Nat → Nat} {f a : Nat} (hF : qF F f) (hB : qB N F f) (ha : N.1 72 2 = nI a) (hl : a ≤ f) : (qN F f a = none → av_C (av_S0 L) (d + 1) 34 [.ref 72] N = some (some (.int (av_k (-1))), N)) ∧ ∀ r, qN F f a = some r → ∃ N', av_C (av_S0 L) (d + 1) 34 [.ref 72] N = some (some (.int (nI r.1)), N') ∧ N'.1 72 2 = nI r.2 ∧ al_f2 dS N N' := by
  have pre : ∀ q, av_V (av_S0 L) (d + 1) ta_X2_number 4 [.ref 72, .int (av_k (-1)), .int (nI 0)] [] N = some q → av_C (av_S0 L) (d + 1) 34 [.ref 72] N = some q := fun q hq => by
    apply eq_X2_number (d := d)
    simp only [av_kP]
    exact hq
  unfold qN
  cases hd : qD F f a
  · rw [if_neg (by decide)]
    exact ⟨fun _ => pre _ (sp_nstop L d _ hF hB ha hl (by decide) (Or.inr hd)), fun r hr => by cases hr⟩
  · obtain ⟨x1, x2, x3⟩ := qD_in hd
    rw [if_pos rfl]
    have f1 : al_f2 dS N (av_w N 72 2 (nI (a + 1))) := al_f2_w N ⟨rfl, rfl⟩ _
    have e1 : nI 10 * (if nI 0 < av_k (-1) then av_k (-1) else nI 0) + nI (qG F f a) - nI 48 = nI (qG F f a - 48) := by
      rw [if_neg (by decide), av_mul, nI_add, av_sub (by omega)]
      congr 1
      omega
    cases hd2 : qD F f (a + 1)
    · rw [if_neg (by decide)]
      refine ⟨fun z => (by cases z), fun r hr => ?_⟩
      cases hr
      refine ⟨av_w N 72 2 (nI (a + 1)), pre _ (sp_nstep L d hF hB ha hl (by decide) hd ?_), av_w_s _ _ _ _, f1⟩
      rw [e1]
      exact sp_nstop L d _ hF (qB_S hB f1) (av_w_s _ _ _ _) (by omega) (by decide) (Or.inr hd2)
    · obtain ⟨y1, y2, y3⟩ := qD_in hd2
      rw [if_pos rfl]
      refine ⟨fun z => (by cases z), fun r hr => ?_⟩
      cases hr
      have f2 : al_f2 dS (av_w N 72 2 (nI (a + 1))) (av_w (av_w N 72 2 (nI (a + 1))) 72 2 (nI (a + 1 + 1))) := al_f2_w _ ⟨rfl, rfl⟩ _
      have e2 : nI 10 * (if nI 0 < nI (qG F f a - 48) then nI (qG F f a - 48) else nI 0) + nI (qG F f (a + 1)) - nI 48 = nI (10 * (qG F f a - 48) + (qG F f (a + 1) - 48)) := by
        have e3 : (if nI 0 < nI (qG F f a - 48) then nI (qG F f a - 48) else nI 0) = nI (qG F f a - 48) := by
          by_cases z : 0 < qG F f a - 48
          · rw [if_pos (nI_lt z (by omega))]
          · rw [if_neg (nI_nlt (by omega) (by decide)), show qG F f a - 48 = 0 by omega]
        rw [e3, av_mul, nI_add, av_sub (by omega)]
        congr 1
        omega
      refine ⟨_, pre _ (sp_nstep L d hF hB ha hl (by decide) hd ?_), av_w_s _ _ _ _, al_f2_tr f1 f2⟩
      rw [e1]
      refine sp_nstep L d hF (qB_S hB f1) (av_w_s _ _ _ _) (by omega) (by decide) hd2 ?_
      rw [e2]
      exact sp_nstop L d _ hF (qB_S (qB_S hB f1) f2) (av_w_s _ _ _ _) (by omega) (by decide) (Or.inl rfl)
theorem sp_isDigit (L : av_W) (d : Nat) {N : av_N} {F : Nat → Nat} {f a : Nat} (hF : qF F f) (hB : qM N F f) (ha : N.1 142 14 = nI a) (hl : a ≤ f) : av_C (av_S0 L) (d + 1) 130 [.ref 142] N = some (some (.int (av_b (qD F f a))), N) := by
  apply eq_X7_isDigit (d := d)
  simp only [av_kP]
  rw [sp_nextM L _ hF hB ha hl, av_bi_s, sp_in, av_bi_s, qV_wi hF a (by decide) (by decide) (by decide), av_bt_b]
  rfl
theorem sp_nstopM (L : av_W) (d : Nat) {N : av_N} {F : Nat → Nat} {f a k : Nat} (hF : qF F f) (hB : qM N F f) (ha : N.1 142 14 = nI a) (hl : a ≤ f) (hk : k ≤ 2) (h : k = 2 ∨ qD F f a = false) : av_V (av_S0 L) (d + 2) ta_X7_takesNumber 10 [.ref 142, .int (nI k)] [] N = some (some (.int (nI 1)), N) := by
  apply eq_X7_takesNumber_10 (d := d + 1)
  simp only [av_kP]
  by_cases h2 : k = 2
  · rw [if_neg (nI_nlt (by omega) (by omega)), av_bt_1]
  · have hd : qD F f a = false := by
      rcases h with h | h
      · exact absurd h h2
      · exact h
    rw [if_pos (nI_lt (by omega) (by decide)), sp_isDigit L d hF hB ha hl, av_bi_s, hd, av_if_f, av_bt_1]
theorem sp_nstepM (L : av_W) (d : Nat) {N : av_N} {F : Nat → Nat} {f a k v : Nat} {q : av_Q} (hF : qF F f) (hB : qM N F f) (ha : N.1 142 14 = nI a) (hv : N.1 142 15 = nI v) (hl : a ≤ f) (hk : k < 2) (hd : qD F f a = true) (h : av_V (av_S0 L) (d + 2) ta_X7_takesNumber 10 [.ref 142, .int (nI (k + 1))] [] (av_w (av_w N 142 15 (nI (10 * v + (qG F f a - 48)))) 142 14 (nI (a + 1))) = some q) : av_V (av_S0 L) (d + 2) ta_X7_takesNumber 10 [.ref 142, .int (nI k)] [] N = some q := by
  obtain ⟨h1, h2, h3⟩ := qD_in hd
  have e : nI 10 * nI v + nI (qG F f a) - nI 48 = nI (10 * v + (qG F f a - 48)) := by
    rw [av_mul, nI_add, av_sub (by omega)]
    congr 1
    omega
  apply eq_X7_takesNumber_10 (d := d + 1)
  simp only [av_kP]
  rw [if_pos (nI_lt hk (by decide)), sp_isDigit L d hF hB ha hl, av_bi_s, hd, av_if_t, sp_nextM L _ hF hB ha hl, av_bi_s, hv, qV_G (by omega), e, av_w_k _ _ _ _ (by decide), ha, nI_add, nI_add]
  exact h
theorem sp_takesNumber (L : av_W) (d : Nat) {N : av_N} {F : Nat → Nat} {f a : Nat} (hF : qF F f) (hB : qM N F f) (ha : N.1 142 14 = nI a) (hl : a ≤ f) : (qN F f a = none → av_C (av_S0 L) (d + 2) 131 [.ref 142] N = some (some (.int (nI 0)), N)) ∧ ∀ r, qN F f a = some r → ∃ N', av_C (av_S0 L) (d + 2) 131 [.ref 142] N = some (some (.int (nI 1)), N') ∧ N'.1 142 14 = nI r.2 ∧ N'.1 142 15 = nI r.1 ∧ al_f2 dN N N' := by
  unfold qN
  cases hd : qD F f a
  · rw [if_neg (by decide)]
    refine ⟨fun _ => ?_, fun r hr => by cases hr⟩
    apply eq_X7_takesNumber (d := d + 1)
    simp only [av_kP]
    rw [sp_isDigit L d hF hB ha hl, av_bi_s, hd, av_if_f, av_bt_0]
  · obtain ⟨x1, x2, x3⟩ := qD_in hd
    rw [if_pos rfl]
    have pre : ∀ q, av_V (av_S0 L) (d + 2) ta_X7_takesNumber 10 [.ref 142, .int (nI 0)] [] (av_w N 142 15 (nI 0)) = some q → av_C (av_S0 L) (d + 2) 131 [.ref 142] N = some q := fun q hq => by
      apply eq_X7_takesNumber (d := d + 1)
      simp only [av_kP]
      rw [sp_isDigit L d hF hB ha hl, av_bi_s, hd, av_if_t]
      exact hq
    have f0 : al_f2 dN N (av_w N 142 15 (nI 0)) := al_f2_w N ⟨rfl, Or.inr rfl⟩ _
    have a0 : (av_w N 142 15 (nI 0)).1 142 14 = nI a := (av_w_k _ _ _ _ (by decide)).trans ha
    have f1 : ∀ M v x, al_f2 dN M (av_w (av_w M 142 15 (nI v)) 142 14 (nI x)) := fun M v x => al_f2_tr (al_f2_w M ⟨rfl, Or.inr rfl⟩ _) (al_f2_w _ ⟨rfl, Or.inl rfl⟩ _)
    have r15 : ∀ (M : av_N) v x, (av_w (av_w M 142 15 (nI v)) 142 14 (nI x)).1 142 15 = nI v := fun M v x => by rw [av_w_k _ _ _ _ (by decide), av_w_s]
    cases hd2 : qD F f (a + 1)
    · rw [if_neg (by decide)]
      refine ⟨fun z => (by cases z), fun r hr => ?_⟩
      cases hr
      refine ⟨av_w (av_w (av_w N 142 15 (nI 0)) 142 15 (nI (10 * 0 + (qG F f a - 48)))) 142 14 (nI (a + 1)), pre _ (sp_nstepM L d (k := 0) (v := 0) hF (qM_N hB f0) a0 (av_w_s _ _ _ _) hl (by decide) hd ?_), av_w_s _ _ _ _, (r15 _ _ _).trans (congrArg nI (by omega)), al_f2_tr f0 (f1 _ _ _)⟩
      exact sp_nstopM L d hF (qM_N (qM_N hB f0) (f1 _ _ _)) (av_w_s _ _ _ _) (by omega) (by decide) (Or.inr hd2)
    · obtain ⟨y1, y2, y3⟩ := qD_in hd2
      rw [if_pos rfl]
      refine ⟨fun z => (by cases z), fun r hr => ?_⟩
      cases hr
      refine ⟨av_w (av_w (av_w (av_w (av_w N 142 15 (nI 0)) 142 15 (nI (10 * 0 + (qG F f a - 48)))) 142 14 (nI (a + 1))) 142 15 (nI (10 * (10 * 0 + (qG F f a - 48)) + (qG F f (a + 1) - 48)))) 142 14 (nI (a + 1 + 1)), pre _ (sp_nstepM L d (k := 0) (v := 0) hF (qM_N hB f0) a0 (av_w_s _ _ _ _) hl (by decide) hd (sp_nstepM L d hF (qM_N (qM_N hB f0) (f1 _ _ _)) (av_w_s _ _ _ _) (r15 _ _ _) (by omega) (by decide) hd2 ?_)), av_w_s _ _ _ _, (r15 _ _ _).trans (congrArg nI (by first | omega | (dsimp only; omega) | dsimp only)), al_f2_tr f0 (al_f2_tr (f1 _ _ _) (f1 _ _ _))⟩
      exact sp_nstopM L d hF (qM_N (qM_N (qM_N hB f0) (f1 _ _ _)) (f1 _ _ _)) (av_w_s _ _ _ _) (by omega) (by decide) (Or.inl rfl)
