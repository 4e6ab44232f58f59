/-! acts -/
def cT (N : av_N) (l : List Nat) : Prop := N.1 9 8 = nI l.length ∧ ∀ j, j < l.length → j < 20 → N.1 76 j = nI (l.getD j 0)
def mT (N : av_N) (l : List Nat) : Prop := N.1 142 75 = nI l.length ∧ ∀ j, j < l.length → j < 20 → N.1 194 j = nI (l.getD j 0)
def dX (q k : Nat) : Prop := (q = 9 ∧ k = 8) ∨ q = 76
def dM (q k : Nat) : Prop := (q = 142 ∧ k = 75) ∨ q = 194
theorem gd_l1 {l : List Nat} {x j : Nat} (h : j < l.length) : (l ++ [x]).getD j 0 = l.getD j 0 := by
  rw [List.getD_eq_getElem?_getD, List.getD_eq_getElem?_getD, List.getElem?_append_left h]
theorem gd_e1 (l : List Nat) (x : Nat) : (l ++ [x]).getD l.length 0 = x := by
  rw [List.getD_eq_getElem?_getD, List.getElem?_append_right (Nat.le_refl _), Nat.sub_self]
  rfl
theorem sp_note (L : av_W) (d : Nat) {N : av_N} {l : List Nat} (b : Nat) (h : cT N l) (hl : l.length ≤ 900) : ∃ N', av_C (av_S0 L) d 110 [.ref 9, .int (nI b)] N = some (none, N') ∧ cT N' (l ++ [b]) ∧ al_f2 dX N N' := by
  by_cases h20 : l.length < 20
  · refine ⟨av_w (av_w N 76 l.length (nI b)) 9 8 (nI (l.length + 1)), ?_, ⟨?_, fun j hj h2 => ?_⟩, al_f2_tr (al_f2_w (D := dX) N (Or.inr rfl) _) (al_f2_w (D := dX) _ (Or.inl ⟨rfl, rfl⟩) _)⟩
    · apply eq_X6_note
      rw [h.1, show Int32.ofNat 20 = nI 20 from rfl, if_pos (nI_lt h20 (by decide)), av_gx_s h20 (by omega), nI_clamp (by omega), av_w_o _ _ _ _ _ (by decide), h.1, av_kP, nI_add]
    · rw [av_w_s, List.length_append]
      rfl
    · rw [av_w_o _ _ _ _ _ (by decide)]
      rw [List.length_append] at hj
      by_cases e : j = l.length
      · subst e
        rw [av_w_s, gd_e1]
      · have hj' : j < l.length := by
          have : [b].length = 1 := rfl
          omega
        rw [av_w_k _ _ _ _ e, gd_l1 hj']
        exact h.2 j hj' h2
  · refine ⟨av_w N 9 8 (nI (l.length + 1)), ?_, ⟨?_, fun j hj h2 => ?_⟩, al_f2_w (D := dX) _ (Or.inl ⟨rfl, rfl⟩) _⟩
    · apply eq_X6_note
      rw [h.1, show Int32.ofNat 20 = nI 20 from rfl, if_neg (nI_nlt (by omega) (by omega)), av_kP, nI_add]
    · rw [av_w_s, List.length_append]
      rfl
    · rw [av_w_o _ _ _ _ _ (by decide), gd_l1 (by omega)]
      exact h.2 j (by omega) h2
theorem sp_body (L : av_W) (d : Nat) {N : av_N} {l : List Nat} (b : Nat) (h : mT N l) (hl : l.length ≤ 900) : ∃ N', av_C (av_S0 L) d 199 [.ref 142, .int (nI b)] N = some (none, N') ∧ mT N' (l ++ [b]) ∧ al_f2 dM N N' := by
  by_cases h20 : l.length < 20
  · refine ⟨av_w (av_w N 194 l.length (nI b)) 142 75 (nI (l.length + 1)), ?_, ⟨?_, fun j hj h2 => ?_⟩, al_f2_tr (al_f2_w (D := dM) N (Or.inr rfl) _) (al_f2_w (D := dM) _ (Or.inl ⟨rfl, rfl⟩) _)⟩
    · apply eq_X7_body
      rw [h.1, show av_k 20 = nI 20 from rfl, if_pos (nI_lt h20 (by decide)), av_gx_s h20 (by omega), nI_clamp (by omega), av_w_o _ _ _ _ _ (by decide), h.1, av_kP, nI_add]
    · rw [av_w_s, List.length_append]
      rfl
    · rw [av_w_o _ _ _ _ _ (by decide)]
      rw [List.length_append] at hj
      by_cases e : j = l.length
      · subst e
        rw [av_w_s, gd_e1]
      · have hj' : j < l.length := by
          have : [b].length = 1 := rfl
          omega
        rw [av_w_k _ _ _ _ e, gd_l1 hj']
        exact h.2 j hj' h2
  · refine ⟨av_w N 142 75 (nI (l.length + 1)), ?_, ⟨?_, fun j hj h2 => ?_⟩, al_f2_w (D := dM) _ (Or.inl ⟨rfl, rfl⟩) _⟩
    · apply eq_X7_body
      rw [h.1, show av_k 20 = nI 20 from rfl, if_neg (nI_nlt (by omega) (by omega)), av_kP, nI_add]
    · rw [av_w_s, List.length_append]
      rfl
    · rw [av_w_o _ _ _ _ _ (by decide), gd_l1 (by omega)]
      exact h.2 j (by omega) h2
def aBody (k a : Nat) : Nat := [10, 11, 12, 10, 20, 12, 30, 11, 12, 10, 11, 40, 50, 51, 12, 30, 11, 60, 71, 70, 40].getD (3 * k + a) 0
def aUp (b : Nat) : Nat := [0, 0, 0, 0, 1, 2, 3].getD (b / 10 - 1) 0
def sR1 (b : Nat) (g : Int32 → Int32) : Option (List Nat × Int32) → Option (List Nat × Int32)
  | none => none
  | some r => some (b :: r.1, g r.2)
def sR2 (b : Nat) : Option (List Nat × Int32) → Option (List Nat × Int32) → Option (List Nat × Int32)
  | some r, some s => some (b :: (r.1 ++ s.1), r.2 + s.2)
  | _, _ => none
theorem sR1_E {b : Nat} {g : Int32 → Int32} {r : Option (List Nat × Int32)} {ts : List Nat} {y : Int32} (h : sR1 b g r = some (ts, y)) : ∃ t1 y1, r = some (t1, y1) ∧ ts = b :: t1 ∧ y = g y1 := by
  cases r with
  | none => cases h
  | some r =>
    cases h
    exact ⟨r.1, r.2, rfl, rfl, rfl⟩
theorem sR2_E {b : Nat} {r s : Option (List Nat × Int32)} {ts : List Nat} {y : Int32} (h : sR2 b r s = some (ts, y)) : ∃ t1 y1 t2 y2, r = some (t1, y1) ∧ s = some (t2, y2) ∧ ts = b :: (t1 ++ t2) ∧ y = y1 + y2 := by
  cases r with
  | none => cases h
  | some r => cases s with
    | none => cases h
    | some s =>
      cases h
      exact ⟨r.1, r.2, s.1, s.2, rfl, rfl, rfl, rfl⟩
/-- what a body does, given what deeper runs do -/
def aStep (F : Nat → Nat → Int32 → Option (List Nat × Int32)) (o i v b : Nat) (x : Int32) : Option (List Nat × Int32) :=
  if b = 10 then some ([10], x + nI i)
  else if b = 11 then sR1 11 (fun y => y - nI v) (F o 0 x)
  else if b = 12 then sR1 12 (fun y => y * nI 2) (F o 1 x)
  else if b = 20 then sR1 20 (fun y => y ^^^ nI 6) (F (aUp b) 1 x)
  else if b = 30 then sR1 30 (fun y => y) (F (aUp b) 0 (x * nI 3))
  else if b = 40 then sR2 40 (F (aUp b) 2 x) (F o 1 (nI 1))
  else if b = 50 then sR1 50 (fun y => -y) (F (aUp b) 0 x)
  else if b = 51 then sR1 51 (fun y => y) (F (aUp b) 1 (x + nI 1))
  else if b = 60 then sR1 60 (fun y => y) (F (aUp b) 2 (x - nI i))
  else if b = 70 then sR2 70 (F (aUp b) 1 x) (F (aUp b) 0 (nI 2))
  else if b = 71 then sR1 71 (fun y => y ^^^ nI v) (F (aUp b) 0 x)
  else none
def aRun : Nat → Nat → Nat → Nat → Nat → Nat → Int32 → Option (List Nat × Int32)
  | 0, _, _, _, _, _, _ => none
  | f + 1, o, i, v, k, a, x => aStep (fun k a x => aRun f o i v k a x) o i v (aBody k a) x
def cI (N : av_N) (p o i v : Nat) : Prop := N.1 p 1 = nI i ∧ N.1 p 2 = nI o ∧ N.1 p 3 = nI v ∧ (∀ k, N.1 2 k = (am_roL 2).getD k 0) ∧ ∀ k, N.1 3 k = (am_roL 3).getD k 0
theorem cI_on {N N' : av_N} {p o i v : Nat} (h : cI N p o i v) (hp : al_bp p) (hf : al_f2 dX N N') : cI N' p o i v := by
  have hne : p ≠ 9 ∧ p ≠ 76 := by
    rcases hp with rfl | ⟨b, hb, h⟩
    · decide
    · omega
  have o1 : ∀ q k, q ≠ 9 → q ≠ 76 → N'.1 q k = N.1 q k := fun q k a b => (hf q k (by unfold dX; omega)).1
  obtain ⟨a1, a2, a3, a4, a5⟩ := h
  exact ⟨(o1 _ _ hne.1 hne.2).trans a1, (o1 _ _ hne.1 hne.2).trans a2, (o1 _ _ hne.1 hne.2).trans a3, fun k => (o1 _ _ (by decide) (by decide)).trans (a4 k), fun k => (o1 _ _ (by decide) (by decide)).trans (a5 k)⟩
theorem sp_kindAbove (L : av_W) (d : Nat) {N : av_N} (h : ∀ k, N.1 3 k = (am_roL 3).getD k 0) {b : Nat} (hb : 10 ≤ b) (h7 : b < 80) : av_C (av_S0 L) (d + 1) 109 [.int (nI b)] N = some (some (.int (nI (aUp b))), N) := by
  apply eq_X6_kindAbove (d := d)
  simp only [av_kP]
  have e : nI b / nI 10 - nI 1 = nI (b / 10 - 1) := by
    rw [av_div (by omega) (by decide), ← av_kN, av_ksub, ← av_kN]
    congr 1
    omega
  have e2 : ∀ j, j < 7 → (am_roL 3).getD j 0 = nI ([0, 0, 0, 0, 1, 2, 3].getD j 0) := by decide
  rw [av_nz_s (by decide) (by decide), e, sp_within, av_bi_s, av_wiN (by decide) (by decide) (by omega), decide_eq_true (by omega), av_if_t, av_gx_s (by omega) (by omega), nI_clamp (by omega), h, e2 _ (by omega)]
  rfl
theorem sBody_of (k a : Nat) (hk : k < 7) (ha : a < 3) : (am_roL 2).getD (3 * k + a) 0 = nI (aBody k a) ∧ (aBody k a = 10 ∨ aBody k a = 11 ∨ aBody k a = 12 ∨ aBody k a = 20 ∨ aBody k a = 30 ∨ aBody k a = 40 ∨ aBody k a = 50 ∨ aBody k a = 51 ∨ aBody k a = 60 ∨ aBody k a = 70 ∨ aBody k a = 71) := by
  have h : ∀ k, k < 7 → ∀ a, a < 3 → (am_roL 2).getD (3 * k + a) 0 = nI (aBody k a) ∧ (aBody k a = 10 ∨ aBody k a = 11 ∨ aBody k a = 12 ∨ aBody k a = 20 ∨ aBody k a = 30 ∨ aBody k a = 40 ∨ aBody k a = 50 ∨ aBody k a = 51 ∨ aBody k a = 60 ∨ aBody k a = 70 ∨ aBody k a = 71) := by decide
  exact h k hk a ha
theorem run_c (L : av_W) {pb o i v : Nat} (hp : al_bp pb) (ho : o < 7) : ∀ (f d k a p : Nat) (x y : Int32) (ts : List Nat), k < 7 → a < 3 → aRun f o i v k a x = some (ts, y) → p + f ≤ 40 → ∀ (N : av_N) (l : List Nat), cI N pb o i v → cT N l → l.length + ts.length ≤ 900 → ∃ N', av_C (av_S0 L) (d + f + 1) 108 [.ref 9, .ref pb, .int (nI k), .int (nI a), .int x, .int (nI p)] N = some (some (.int y), N') ∧ cT N' (l ++ ts) ∧ al_f2 dX N N' := by
  obtain ⟨s1, s2, s3, s4⟩ := al_bpE hp L
  intro f
  induction f with
  | zero =>
    intro d k a p x y ts hk ha h
    cases h
  | succ f ih =>
    intro d k a p x y ts hk ha h hpf N l hI hT hl
    obtain ⟨hb, hbs⟩ := sBody_of k a hk ha
    have h : aStep (fun k a x => aRun f o i v k a x) o i v (aBody k a) x = some (ts, y) := h
    have hb2 : N.1 2 (3 * k + a) = nI (aBody k a) := (hI.2.2.2.1 _).trans hb
    generalize aBody k a = b at h hbs hb2
    have e40 : ¬ nI 40 < nI p := nI_nlt (by omega) (by omega)
    have e21 : nI (3 * k + a) < nI 21 := nI_lt (by omega) (by decide)
    have e0 : ¬ nI (3 * k + a) < nI 0 := nI_nlt (by omega) (by omega)
    have sub : ∀ (N1 : av_N) (l1 : List Nat) (k1 a1 : Nat) (x1 y1 : Int32) (t1 : List Nat), k1 < 7 → a1 < 3 → aRun f o i v k1 a1 x1 = some (t1, y1) → cI N1 pb o i v → cT N1 l1 → l1.length + t1.length ≤ 900 → ∃ N', av_C (av_S0 L) (d + f + 1) 108 [.ref 9, .ref pb, .int (nI k1), .int (nI a1), .int x1, .int (nI (p + 1))] N1 = some (some (.int y1), N') ∧ cT N' (l1 ++ t1) ∧ al_f2 dX N1 N' ∧ cI N' pb o i v := fun N1 l1 k1 a1 x1 y1 t1 u1 u2 u3 u4 u5 u6 => by
      obtain ⟨N', c1, c2, c3⟩ := ih d k1 a1 (p + 1) x1 y1 t1 u1 u2 u3 (by omega) N1 l1 u4 u5 u6
      exact ⟨N', c1, c2, c3, cI_on u4 hp c3⟩
    have hl9 : l.length ≤ 900 := by omega
    rcases hbs with rfl | rfl | rfl | rfl | rfl | rfl | rfl | rfl | rfl | rfl | rfl
    · obtain ⟨N1, n1, t1, g1⟩ := sp_note L (d + f + 1) 10 hT hl9
      have i1 := cI_on hI hp g1
      have h : some ([10], x + nI i) = some (ts, y) := h
      cases h
      refine ⟨N1, ?_, t1, g1⟩
      · apply eq_X6_run (d := d + f + 1)
        simp only [av_kP]
        rw [if_neg e40, av_mul, nI_add, if_neg e0, show Int32.ofNat 21 = nI 21 from rfl, if_pos e21, av_gx_s (by omega) (by omega), nI_clamp (by omega), hb2, n1, av_bv_s, s1, av_tg_s, sp_kindAbove L (d + f) i1.2.2.2.2 (by decide) (by decide), av_bi_s, if_pos rfl, av_tg_s, i1.1]
    · obtain ⟨N1, n1, t1, g1⟩ := sp_note L (d + f + 1) 11 hT hl9
      have i1 := cI_on hI hp g1
      have h : sR1 11 (fun y => y - nI v) (aRun f o i v o 0 x) = some (ts, y) := h
      obtain ⟨t2, y2, h2, rfl, rfl⟩ := sR1_E h
      rw [List.length_cons] at hl
      obtain ⟨N2, c2, r2, g2, i2⟩ := sub N1 (l ++ [11]) o 0 x y2 t2 ho (by decide) h2 i1 t1 (by rw [List.length_append]; show l.length + 1 + _ ≤ _; omega)
      refine ⟨N2, ?_, by rw [List.append_assoc] at r2; exact r2, al_f2_tr g1 g2⟩
      · apply eq_X6_run (d := d + f + 1)
        simp only [av_kP]
        rw [if_neg e40, av_mul, nI_add, if_neg e0, show Int32.ofNat 21 = nI 21 from rfl, if_pos e21, av_gx_s (by omega) (by omega), nI_clamp (by omega), hb2, n1, av_bv_s, s1, av_tg_s, sp_kindAbove L (d + f) i1.2.2.2.2 (by decide) (by decide), av_bi_s, if_neg (by decide), if_pos rfl, i1.2.1, nI_add, c2, av_bi_s, av_tg_s, i2.2.2.1]
    · obtain ⟨N1, n1, t1, g1⟩ := sp_note L (d + f + 1) 12 hT hl9
      have i1 := cI_on hI hp g1
      have h : sR1 12 (fun y => y * nI 2) (aRun f o i v o 1 x) = some (ts, y) := h
      obtain ⟨t2, y2, h2, rfl, rfl⟩ := sR1_E h
      rw [List.length_cons] at hl
      obtain ⟨N2, c2, r2, g2, i2⟩ := sub N1 (l ++ [12]) o 1 x y2 t2 ho (by decide) h2 i1 t1 (by rw [List.length_append]; show l.length + 1 + _ ≤ _; omega)
      refine ⟨N2, ?_, by rw [List.append_assoc] at r2; exact r2, al_f2_tr g1 g2⟩
      · apply eq_X6_run (d := d + f + 1)
        simp only [av_kP]
        rw [if_neg e40, av_mul, nI_add, if_neg e0, show Int32.ofNat 21 = nI 21 from rfl, if_pos e21, av_gx_s (by omega) (by omega), nI_clamp (by omega), hb2, n1, av_bv_s, s1, av_tg_s, sp_kindAbove L (d + f) i1.2.2.2.2 (by decide) (by decide), av_bi_s, if_neg (by decide), if_neg (by decide), if_pos rfl, i1.2.1, nI_add, c2, av_bi_s]
    · obtain ⟨N1, n1, t1, g1⟩ := sp_note L (d + f + 1) 20 hT hl9
      have i1 := cI_on hI hp g1
      have h : sR1 20 (fun y => y ^^^ nI 6) (aRun f o i v (aUp 20) 1 x) = some (ts, y) := h
      obtain ⟨t2, y2, h2, rfl, rfl⟩ := sR1_E h
      rw [List.length_cons] at hl
      obtain ⟨N2, c2, r2, g2, i2⟩ := sub N1 (l ++ [20]) (aUp 20) 1 x y2 t2 (by decide) (by decide) h2 i1 t1 (by rw [List.length_append]; show l.length + 1 + _ ≤ _; omega)
      refine ⟨N2, ?_, by rw [List.append_assoc] at r2; exact r2, al_f2_tr g1 g2⟩
      · apply eq_X6_run (d := d + f + 1)
        simp only [av_kP]
        rw [if_neg e40, av_mul, nI_add, if_neg e0, show Int32.ofNat 21 = nI 21 from rfl, if_pos e21, av_gx_s (by omega) (by omega), nI_clamp (by omega), hb2, n1, av_bv_s, s1, av_tg_s, sp_kindAbove L (d + f) i1.2.2.2.2 (by decide) (by decide), av_bi_s, if_neg (by decide), if_neg (by decide), if_neg (by decide), if_pos rfl, nI_add, c2, av_bi_s]
    · obtain ⟨N1, n1, t1, g1⟩ := sp_note L (d + f + 1) 30 hT hl9
      have i1 := cI_on hI hp g1
      have h : sR1 30 (fun y => y) (aRun f o i v (aUp 30) 0 (x * nI 3)) = some (ts, y) := h
      obtain ⟨t2, y2, h2, rfl, rfl⟩ := sR1_E h
      rw [List.length_cons] at hl
      obtain ⟨N2, c2, r2, g2, i2⟩ := sub N1 (l ++ [30]) (aUp 30) 0 (x * nI 3) y t2 (by decide) (by decide) h2 i1 t1 (by rw [List.length_append]; show l.length + 1 + _ ≤ _; omega)
      refine ⟨N2, ?_, by rw [List.append_assoc] at r2; exact r2, al_f2_tr g1 g2⟩
      · apply eq_X6_run (d := d + f + 1)
        simp only [av_kP]
        rw [if_neg e40, av_mul, nI_add, if_neg e0, show Int32.ofNat 21 = nI 21 from rfl, if_pos e21, av_gx_s (by omega) (by omega), nI_clamp (by omega), hb2, n1, av_bv_s, s1, av_tg_s, sp_kindAbove L (d + f) i1.2.2.2.2 (by decide) (by decide), av_bi_s, if_neg (by decide), if_neg (by decide), if_neg (by decide), if_neg (by decide), if_pos rfl, nI_add, c2, av_bi_s]
    · obtain ⟨N1, n1, t1, g1⟩ := sp_note L (d + f + 1) 40 hT hl9
      have i1 := cI_on hI hp g1
      have h : sR2 40 (aRun f o i v (aUp 40) 2 x) (aRun f o i v o 1 (nI 1)) = some (ts, y) := h
      obtain ⟨t2, y2, t3, y3, h2, h3, rfl, rfl⟩ := sR2_E h
      rw [List.length_cons, List.length_append] at hl
      obtain ⟨N2, c2, r2, g2, i2⟩ := sub N1 (l ++ [40]) (aUp 40) 2 x y2 t2 (by decide) (by decide) h2 i1 t1 (by rw [List.length_append]; show l.length + 1 + _ ≤ _; omega)
      obtain ⟨N3, c3, r3, g3, i3⟩ := sub N2 (l ++ [40] ++ t2) o 1 (nI 1) y3 t3 ho (by decide) h3 i2 r2 (by rw [List.length_append, List.length_append]; show l.length + 1 + _ + _ ≤ _; omega)
      refine ⟨N3, ?_, by rw [List.append_assoc, List.append_assoc] at r3; exact r3, al_f2_tr g1 (al_f2_tr g2 g3)⟩
      · apply eq_X6_run (d := d + f + 1)
        simp only [av_kP]
        rw [if_neg e40, av_mul, nI_add, if_neg e0, show Int32.ofNat 21 = nI 21 from rfl, if_pos e21, av_gx_s (by omega) (by omega), nI_clamp (by omega), hb2, n1, av_bv_s, s1, av_tg_s, sp_kindAbove L (d + f) i1.2.2.2.2 (by decide) (by decide), av_bi_s, if_neg (by decide), if_neg (by decide), if_neg (by decide), if_neg (by decide), if_neg (by decide), if_pos rfl, nI_add, c2, av_bi_s, i1.2.1, c3, av_bi_s]
    · obtain ⟨N1, n1, t1, g1⟩ := sp_note L (d + f + 1) 50 hT hl9
      have i1 := cI_on hI hp g1
      have h : sR1 50 (fun y => -y) (aRun f o i v (aUp 50) 0 x) = some (ts, y) := h
      obtain ⟨t2, y2, h2, rfl, rfl⟩ := sR1_E h
      rw [List.length_cons] at hl
      obtain ⟨N2, c2, r2, g2, i2⟩ := sub N1 (l ++ [50]) (aUp 50) 0 x y2 t2 (by decide) (by decide) h2 i1 t1 (by rw [List.length_append]; show l.length + 1 + _ ≤ _; omega)
      refine ⟨N2, ?_, by rw [List.append_assoc] at r2; exact r2, al_f2_tr g1 g2⟩
      · apply eq_X6_run (d := d + f + 1)
        simp only [av_kP]
        rw [if_neg e40, av_mul, nI_add, if_neg e0, show Int32.ofNat 21 = nI 21 from rfl, if_pos e21, av_gx_s (by omega) (by omega), nI_clamp (by omega), hb2, n1, av_bv_s, s1, av_tg_s, sp_kindAbove L (d + f) i1.2.2.2.2 (by decide) (by decide), av_bi_s, if_neg (by decide), if_neg (by decide), if_neg (by decide), if_neg (by decide), if_neg (by decide), if_neg (by decide), if_pos rfl, nI_add, c2, av_bi_s]
    · obtain ⟨N1, n1, t1, g1⟩ := sp_note L (d + f + 1) 51 hT hl9
      have i1 := cI_on hI hp g1
      have h : sR1 51 (fun y => y) (aRun f o i v (aUp 51) 1 (x + nI 1)) = some (ts, y) := h
      obtain ⟨t2, y2, h2, rfl, rfl⟩ := sR1_E h
      rw [List.length_cons] at hl
      obtain ⟨N2, c2, r2, g2, i2⟩ := sub N1 (l ++ [51]) (aUp 51) 1 (x + nI 1) y t2 (by decide) (by decide) h2 i1 t1 (by rw [List.length_append]; show l.length + 1 + _ ≤ _; omega)
      refine ⟨N2, ?_, by rw [List.append_assoc] at r2; exact r2, al_f2_tr g1 g2⟩
      · apply eq_X6_run (d := d + f + 1)
        simp only [av_kP]
        rw [if_neg e40, av_mul, nI_add, if_neg e0, show Int32.ofNat 21 = nI 21 from rfl, if_pos e21, av_gx_s (by omega) (by omega), nI_clamp (by omega), hb2, n1, av_bv_s, s1, av_tg_s, sp_kindAbove L (d + f) i1.2.2.2.2 (by decide) (by decide), av_bi_s, if_neg (by decide), if_neg (by decide), if_neg (by decide), if_neg (by decide), if_neg (by decide), if_neg (by decide), if_neg (by decide), if_pos rfl, nI_add, c2, av_bi_s]
    · obtain ⟨N1, n1, t1, g1⟩ := sp_note L (d + f + 1) 60 hT hl9
      have i1 := cI_on hI hp g1
      have h : sR1 60 (fun y => y) (aRun f o i v (aUp 60) 2 (x - nI i)) = some (ts, y) := h
      obtain ⟨t2, y2, h2, rfl, rfl⟩ := sR1_E h
      rw [List.length_cons] at hl
      obtain ⟨N2, c2, r2, g2, i2⟩ := sub N1 (l ++ [60]) (aUp 60) 2 (x - nI i) y t2 (by decide) (by decide) h2 i1 t1 (by rw [List.length_append]; show l.length + 1 + _ ≤ _; omega)
      refine ⟨N2, ?_, by rw [List.append_assoc] at r2; exact r2, al_f2_tr g1 g2⟩
      · apply eq_X6_run (d := d + f + 1)
        simp only [av_kP]
        rw [if_neg e40, av_mul, nI_add, if_neg e0, show Int32.ofNat 21 = nI 21 from rfl, if_pos e21, av_gx_s (by omega) (by omega), nI_clamp (by omega), hb2, n1, av_bv_s, s1, av_tg_s, sp_kindAbove L (d + f) i1.2.2.2.2 (by decide) (by decide), av_bi_s, if_neg (by decide), if_neg (by decide), if_neg (by decide), if_neg (by decide), if_neg (by decide), if_neg (by decide), if_neg (by decide), if_neg (by decide), if_pos rfl, av_tg_s, i1.1, nI_add, c2, av_bi_s]
    · obtain ⟨N1, n1, t1, g1⟩ := sp_note L (d + f + 1) 70 hT hl9
      have i1 := cI_on hI hp g1
      have h : sR2 70 (aRun f o i v (aUp 70) 1 x) (aRun f o i v (aUp 70) 0 (nI 2)) = some (ts, y) := h
      obtain ⟨t2, y2, t3, y3, h2, h3, rfl, rfl⟩ := sR2_E h
      rw [List.length_cons, List.length_append] at hl
      obtain ⟨N2, c2, r2, g2, i2⟩ := sub N1 (l ++ [70]) (aUp 70) 1 x y2 t2 (by decide) (by decide) h2 i1 t1 (by rw [List.length_append]; show l.length + 1 + _ ≤ _; omega)
      obtain ⟨N3, c3, r3, g3, i3⟩ := sub N2 (l ++ [70] ++ t2) (aUp 70) 0 (nI 2) y3 t3 (by decide) (by decide) h3 i2 r2 (by rw [List.length_append, List.length_append]; show l.length + 1 + _ + _ ≤ _; omega)
      refine ⟨N3, ?_, by rw [List.append_assoc, List.append_assoc] at r3; exact r3, al_f2_tr g1 (al_f2_tr g2 g3)⟩
      · apply eq_X6_run (d := d + f + 1)
        simp only [av_kP]
        rw [if_neg e40, av_mul, nI_add, if_neg e0, show Int32.ofNat 21 = nI 21 from rfl, if_pos e21, av_gx_s (by omega) (by omega), nI_clamp (by omega), hb2, n1, av_bv_s, s1, av_tg_s, sp_kindAbove L (d + f) i1.2.2.2.2 (by decide) (by decide), av_bi_s, if_neg (by decide), if_neg (by decide), if_neg (by decide), if_neg (by decide), if_neg (by decide), if_neg (by decide), if_neg (by decide), if_neg (by decide), if_neg (by decide), if_pos rfl, nI_add, c2, av_bi_s, c3, av_bi_s]
    · obtain ⟨N1, n1, t1, g1⟩ := sp_note L (d + f + 1) 71 hT hl9
      have i1 := cI_on hI hp g1
      have h : sR1 71 (fun y => y ^^^ nI v) (aRun f o i v (aUp 71) 0 x) = some (ts, y) := h
      obtain ⟨t2, y2, h2, rfl, rfl⟩ := sR1_E h
      rw [List.length_cons] at hl
      obtain ⟨N2, c2, r2, g2, i2⟩ := sub N1 (l ++ [71]) (aUp 71) 0 x y2 t2 (by decide) (by decide) h2 i1 t1 (by rw [List.length_append]; show l.length + 1 + _ ≤ _; omega)
      refine ⟨N2, ?_, by rw [List.append_assoc] at r2; exact r2, al_f2_tr g1 g2⟩
      · apply eq_X6_run (d := d + f + 1)
        simp only [av_kP]
        rw [if_neg e40, av_mul, nI_add, if_neg e0, show Int32.ofNat 21 = nI 21 from rfl, if_pos e21, av_gx_s (by omega) (by omega), nI_clamp (by omega), hb2, n1, av_bv_s, s1, av_tg_s, sp_kindAbove L (d + f) i1.2.2.2.2 (by decide) (by decide), av_bi_s, if_neg (by decide), if_neg (by decide), if_neg (by decide), if_neg (by decide), if_neg (by decide), if_neg (by decide), if_neg (by decide), if_neg (by decide), if_neg (by decide), if_neg (by decide), if_pos rfl, nI_add, c2, av_bi_s, av_tg_s, i2.2.2.1]
/-- the reference's acts: what ran, and what came of it -/
def rF (o i v : Nat) (x : Int32) : List Nat × Int32 :=
  if o = 2 then ([30, 10], x * nI 3 + nI i) else if o = 3 then ([10], x + nI i) else if o = 4 then ([50, 10], -(x + nI i)) else if o = 5 then ([30, 10], x * nI 3 + nI i) else if o = 6 then ([71, 10], (x + nI i) ^^^ nI v) else ([10], x + nI i)
def rBS (o i v : Nat) (x : Int32) : List Nat × Int32 := (11 :: (rF o i v x).1, (rF o i v x).2 - nI v)
def rSS (o i v : Nat) (x : Int32) : List Nat × Int32 := (20 :: (rBS o i v x).1, (rBS o i v x).2 ^^^ nI 6)
def rS (o i v : Nat) (x : Int32) : List Nat × Int32 :=
  if o = 1 then rSS o i v x else if o = 4 then (51 :: (rSS o i v (x + nI 1)).1, (rSS o i v (x + nI 1)).2) else if o = 6 then (70 :: ((rBS o i v x).1 ++ [10]), (rBS o i v x).2 + (nI 2 + nI i)) else rBS o i v x
def rBT (o i v : Nat) (x : Int32) : List Nat × Int32 := (12 :: (rS o i v x).1, (rS o i v x).2 * nI 2)
def rT (o i v : Nat) (x : Int32) : List Nat × Int32 :=
  if o = 3 then (40 :: ((rBT o i v x).1 ++ (rS o i v (nI 1)).1), (rBT o i v x).2 + (rS o i v (nI 1)).2) else if o = 4 then rBT o i v x else if o = 5 then (60 :: (rBT o i v (x - nI i)).1, (rBT o i v (x - nI i)).2) else if o = 6 then (40 :: ((rBT o i v x).1 ++ (rS o i v (nI 1)).1), (rBT o i v x).2 + (rS o i v (nI 1)).2) else rBT o i v x
theorem aRun_r {o i v : Nat} (ho : o < 7) (x : Int32) : aRun 18 o i v o 0 x = some (rF o i v x) ∧ aRun 18 o i v o 1 x = some (rS o i v x) ∧ aRun 18 o i v o 2 x = some (rT o i v x) := by
  rcases (by omega : o = 0 ∨ o = 1 ∨ o = 2 ∨ o = 3 ∨ o = 4 ∨ o = 5 ∨ o = 6) with rfl | rfl | rfl | rfl | rfl | rfl | rfl <;> exact ⟨rfl, rfl, rfl⟩
theorem r_len {o i v : Nat} (ho : o < 7) (x : Int32) : (rF o i v x).1.length ≤ 2 ∧ (rBS o i v x).1.length ≤ 3 ∧ (rSS o i v x).1.length ≤ 4 ∧ (rS o i v x).1.length ≤ 6 ∧ (rBT o i v x).1.length ≤ 7 ∧ (rT o i v x).1.length ≤ 15 := by
  rcases (by omega : o = 0 ∨ o = 1 ∨ o = 2 ∨ o = 3 ∨ o = 4 ∨ o = 5 ∨ o = 6) with rfl | rfl | rfl | rfl | rfl | rfl | rfl <;> exact ⟨Nat.le_of_ble_eq_true rfl, Nat.le_of_ble_eq_true rfl, Nat.le_of_ble_eq_true rfl, Nat.le_of_ble_eq_true rfl, Nat.le_of_ble_eq_true rfl, Nat.le_of_ble_eq_true rfl⟩
def mI (N : av_N) (o i v : Nat) : Prop := N.1 143 i = nI o ∧ N.1 144 i = nI v
theorem mI_on {N N' : av_N} {o i v : Nat} (h : mI N o i v) (hf : al_f2 dM N N') : mI N' o i v := ⟨((hf 143 i (by unfold dM; omega)).1).trans h.1, ((hf 144 i (by unfold dM; omega)).1).trans h.2⟩
/-- a method of the reference does it -/
def mR (L : av_W) (d mi o i v : Nat) (x : Int32) (r : List Nat × Int32) : Prop := ∀ (N : av_N) (l : List Nat), mI N o i v → mT N l → l.length + r.1.length ≤ 900 → ∃ N', av_C (av_S0 L) d mi [.ref 142, .int (nI i), .int x] N = some (some (.int r.2), N') ∧ mT N' (l ++ r.1) ∧ al_f2 dM N N'
theorem m200 (L : av_W) (d : Nat) {o i v : Nat} (hi : i < 7) (ho : o < 7) (x : Int32) : mR L (d + 1) 200 o i v x (([10], x + nI i)) := by
  intro N l hI hT hl
  have hl : l.length + ([10]).length ≤ 900 := hl
  obtain ⟨N1, c1, t1, g1⟩ := sp_body L (d + 0) 10 hT (by omega)
  have i1 := mI_on hI g1
  refine ⟨N1, ?_, by have tt := t1; exact tt, g1⟩
  show av_C (av_S0 L) (d + 1) 200 [.ref 142, .int (nI i), .int x] N = some (some (.int (x + nI i)), N1)
  apply eq_X7_birdFlies (d := d + 0)
  simp only [av_kP]
  rw [c1, av_bv_s]
theorem m201 (L : av_W) (d : Nat) {o i v : Nat} (hi : i < 7) (ho : o < 7) (x : Int32) : mR L (d + 2) 201 o i v x (rF o i v x) := by
  intro N l hI hT hl
  rcases (by omega : o = 0 ∨ o = 1 ∨ o = 2 ∨ o = 3 ∨ o = 4 ∨ o = 5 ∨ o = 6) with rfl | rfl | rfl | rfl | rfl | rfl | rfl
  · have hl : l.length + ([10]).length ≤ 900 := hl
    obtain ⟨N1, c1, t1, g1⟩ := m200 L (d + 0) hi ho x N l hI hT (by omega)
    have i1 := mI_on hI g1
    refine ⟨N1, ?_, by have tt := t1; exact tt, g1⟩
    show av_C (av_S0 L) (d + 2) 201 [.ref 142, .int (nI i), .int x] N = some (some (.int (x + nI i)), N1)
    apply eq_X7_fliesAct (d := d + 1)
    simp only [av_kP]
    rw [av_gx_s hi (by omega), nI_clamp (by omega), hI.1, if_neg (by decide), if_neg (by decide), if_neg (by decide), if_neg (by decide), if_neg (by decide), c1, av_bi_s]
  · have hl : l.length + ([10]).length ≤ 900 := hl
    obtain ⟨N1, c1, t1, g1⟩ := m200 L (d + 0) hi ho x N l hI hT (by omega)
    have i1 := mI_on hI g1
    refine ⟨N1, ?_, by have tt := t1; exact tt, g1⟩
    show av_C (av_S0 L) (d + 2) 201 [.ref 142, .int (nI i), .int x] N = some (some (.int (x + nI i)), N1)
    apply eq_X7_fliesAct (d := d + 1)
    simp only [av_kP]
    rw [av_gx_s hi (by omega), nI_clamp (by omega), hI.1, if_neg (by decide), if_neg (by decide), if_neg (by decide), if_neg (by decide), if_neg (by decide), c1, av_bi_s]
  · have hl : l.length + (30 :: [10]).length ≤ 900 := hl
    rw [List.length_cons] at hl
    obtain ⟨N1, c1, t1, g1⟩ := sp_body L (d + 1) 30 hT (by omega)
    have i1 := mI_on hI g1
    obtain ⟨N2, c2, t2, g2⟩ := m200 L (d + 0) hi ho (x * nI 3) N1 (l ++ [30]) i1 t1 (by rw [List.length_append]; have l1 : ∀ z : Nat, [z].length = 1 := fun _ => rfl; (try simp only [l1] at hl); (try simp only [l1]); omega)
    have i2 := mI_on i1 g2
    refine ⟨N2, ?_, by have tt := t2; simp only [List.append_assoc] at tt; exact tt, (al_f2_tr g1 g2)⟩
    show av_C (av_S0 L) (d + 2) 201 [.ref 142, .int (nI i), .int x] N = some (some (.int (x * nI 3 + nI i)), N2)
    apply eq_X7_fliesAct (d := d + 1)
    simp only [av_kP]
    rw [av_gx_s hi (by omega), nI_clamp (by omega), hI.1, if_pos rfl, c1, av_bv_s, c2, av_bi_s]
  · have hl : l.length + ([10]).length ≤ 900 := hl
    obtain ⟨N1, c1, t1, g1⟩ := m200 L (d + 0) hi ho x N l hI hT (by omega)
    have i1 := mI_on hI g1
    refine ⟨N1, ?_, by have tt := t1; exact tt, g1⟩
    show av_C (av_S0 L) (d + 2) 201 [.ref 142, .int (nI i), .int x] N = some (some (.int (x + nI i)), N1)
    apply eq_X7_fliesAct (d := d + 1)
    simp only [av_kP]
    rw [av_gx_s hi (by omega), nI_clamp (by omega), hI.1, if_neg (by decide), if_pos rfl, c1, av_bi_s]
  · have hl : l.length + (50 :: [10]).length ≤ 900 := hl
    rw [List.length_cons] at hl
    obtain ⟨N1, c1, t1, g1⟩ := sp_body L (d + 1) 50 hT (by omega)
    have i1 := mI_on hI g1
    obtain ⟨N2, c2, t2, g2⟩ := m200 L (d + 0) hi ho x N1 (l ++ [50]) i1 t1 (by rw [List.length_append]; have l1 : ∀ z : Nat, [z].length = 1 := fun _ => rfl; (try simp only [l1] at hl); (try simp only [l1]); omega)
    have i2 := mI_on i1 g2
    refine ⟨N2, ?_, by have tt := t2; simp only [List.append_assoc] at tt; exact tt, (al_f2_tr g1 g2)⟩
    show av_C (av_S0 L) (d + 2) 201 [.ref 142, .int (nI i), .int x] N = some (some (.int (-(x + nI i))), N2)
    apply eq_X7_fliesAct (d := d + 1)
    simp only [av_kP]
    rw [av_gx_s hi (by omega), nI_clamp (by omega), hI.1, if_neg (by decide), if_neg (by decide), if_pos rfl, c1, av_bv_s, c2, av_bi_s]
  · have hl : l.length + (30 :: [10]).length ≤ 900 := hl
    rw [List.length_cons] at hl
    obtain ⟨N1, c1, t1, g1⟩ := sp_body L (d + 1) 30 hT (by omega)
    have i1 := mI_on hI g1
    obtain ⟨N2, c2, t2, g2⟩ := m200 L (d + 0) hi ho (x * nI 3) N1 (l ++ [30]) i1 t1 (by rw [List.length_append]; have l1 : ∀ z : Nat, [z].length = 1 := fun _ => rfl; (try simp only [l1] at hl); (try simp only [l1]); omega)
    have i2 := mI_on i1 g2
    refine ⟨N2, ?_, by have tt := t2; simp only [List.append_assoc] at tt; exact tt, (al_f2_tr g1 g2)⟩
    show av_C (av_S0 L) (d + 2) 201 [.ref 142, .int (nI i), .int x] N = some (some (.int (x * nI 3 + nI i)), N2)
    apply eq_X7_fliesAct (d := d + 1)
    simp only [av_kP]
    rw [av_gx_s hi (by omega), nI_clamp (by omega), hI.1, if_neg (by decide), if_neg (by decide), if_neg (by decide), if_pos rfl, c1, av_bv_s, c2, av_bi_s]
  · have hl : l.length + (71 :: [10]).length ≤ 900 := hl
    rw [List.length_cons] at hl
    obtain ⟨N1, c1, t1, g1⟩ := sp_body L (d + 1) 71 hT (by omega)
    have i1 := mI_on hI g1
    obtain ⟨N2, c2, t2, g2⟩ := m200 L (d + 0) hi ho x N1 (l ++ [71]) i1 t1 (by rw [List.length_append]; have l1 : ∀ z : Nat, [z].length = 1 := fun _ => rfl; (try simp only [l1] at hl); (try simp only [l1]); omega)
    have i2 := mI_on i1 g2
    refine ⟨N2, ?_, by have tt := t2; simp only [List.append_assoc] at tt; exact tt, (al_f2_tr g1 g2)⟩
    show av_C (av_S0 L) (d + 2) 201 [.ref 142, .int (nI i), .int x] N = some (some (.int ((x + nI i) ^^^ nI v)), N2)
    apply eq_X7_fliesAct (d := d + 1)
    simp only [av_kP]
    rw [av_gx_s hi (by omega), nI_clamp (by omega), hI.1, if_neg (by decide), if_neg (by decide), if_neg (by decide), if_neg (by decide), if_pos rfl, c1, av_bv_s, c2, av_bi_s, av_gx_s hi (by omega), i2.2]
theorem m202 (L : av_W) (d : Nat) {o i v : Nat} (hi : i < 7) (ho : o < 7) (x : Int32) : mR L (d + 3) 202 o i v x (rBS o i v x) := by
  intro N l hI hT hl
  have hl : l.length + (11 :: (rF o i v x).1).length ≤ 900 := hl
  rw [List.length_cons] at hl
  obtain ⟨N1, c1, t1, g1⟩ := sp_body L (d + 2) 11 hT (by omega)
  have i1 := mI_on hI g1
  obtain ⟨N2, c2, t2, g2⟩ := m201 L (d + 0) hi ho x N1 (l ++ [11]) i1 t1 (by rw [List.length_append]; have l1 : ∀ z : Nat, [z].length = 1 := fun _ => rfl; (try simp only [l1] at hl); (try simp only [l1]); omega)
  have i2 := mI_on i1 g2
  refine ⟨N2, ?_, by have tt := t2; simp only [List.append_assoc] at tt; exact tt, (al_f2_tr g1 g2)⟩
  show av_C (av_S0 L) (d + 3) 202 [.ref 142, .int (nI i), .int x] N = some (some (.int ((rF o i v x).2 - nI v)), N2)
  apply eq_X7_birdSings (d := d + 2)
  simp only [av_kP]
  rw [c1, av_bv_s, c2, av_bi_s, av_gx_s hi (by omega), nI_clamp (by omega), i2.2]
theorem m203 (L : av_W) (d : Nat) {o i v : Nat} (hi : i < 7) (ho : o < 7) (x : Int32) : mR L (d + 4) 203 o i v x (rSS o i v x) := by
  intro N l hI hT hl
  have hl : l.length + (20 :: (rBS o i v x).1).length ≤ 900 := hl
  rw [List.length_cons] at hl
  obtain ⟨N1, c1, t1, g1⟩ := sp_body L (d + 3) 20 hT (by omega)
  have i1 := mI_on hI g1
  obtain ⟨N2, c2, t2, g2⟩ := m202 L (d + 0) hi ho x N1 (l ++ [20]) i1 t1 (by rw [List.length_append]; have l1 : ∀ z : Nat, [z].length = 1 := fun _ => rfl; (try simp only [l1] at hl); (try simp only [l1]); omega)
  have i2 := mI_on i1 g2
  refine ⟨N2, ?_, by have tt := t2; simp only [List.append_assoc] at tt; exact tt, (al_f2_tr g1 g2)⟩
  show av_C (av_S0 L) (d + 4) 203 [.ref 142, .int (nI i), .int x] N = some (some (.int ((rBS o i v x).2 ^^^ nI 6)), N2)
  apply eq_X7_singerSings (d := d + 3)
  simp only [av_kP]
  rw [c1, av_bv_s, c2, av_bi_s]
theorem m204 (L : av_W) (d : Nat) {o i v : Nat} (hi : i < 7) (ho : o < 7) (x : Int32) : mR L (d + 5) 204 o i v x (rS o i v x) := by
  intro N l hI hT hl
  rcases (by omega : o = 0 ∨ o = 1 ∨ o = 2 ∨ o = 3 ∨ o = 4 ∨ o = 5 ∨ o = 6) with rfl | rfl | rfl | rfl | rfl | rfl | rfl
  · have hl : l.length + ((rBS 0 i v x).1).length ≤ 900 := hl
    obtain ⟨N1, c1, t1, g1⟩ := m202 L (d + 1) hi ho x N l hI hT (by omega)
    have i1 := mI_on hI g1
    refine ⟨N1, ?_, by have tt := t1; exact tt, g1⟩
    show av_C (av_S0 L) (d + 5) 204 [.ref 142, .int (nI i), .int x] N = some (some (.int ((rBS 0 i v x).2)), N1)
    apply eq_X7_singsAct (d := d + 4)
    simp only [av_kP]
    rw [av_gx_s hi (by omega), nI_clamp (by omega), hI.1, if_neg (by decide), if_neg (by decide), if_neg (by decide), c1, av_bi_s]
  · have hl : l.length + ((rSS 1 i v x).1).length ≤ 900 := hl
    obtain ⟨N1, c1, t1, g1⟩ := m203 L (d + 0) hi ho x N l hI hT (by omega)
    have i1 := mI_on hI g1
    refine ⟨N1, ?_, by have tt := t1; exact tt, g1⟩
    show av_C (av_S0 L) (d + 5) 204 [.ref 142, .int (nI i), .int x] N = some (some (.int ((rSS 1 i v x).2)), N1)
    apply eq_X7_singsAct (d := d + 4)
    simp only [av_kP]
    rw [av_gx_s hi (by omega), nI_clamp (by omega), hI.1, if_pos rfl, c1, av_bi_s]
  · have hl : l.length + ((rBS 2 i v x).1).length ≤ 900 := hl
    obtain ⟨N1, c1, t1, g1⟩ := m202 L (d + 1) hi ho x N l hI hT (by omega)
    have i1 := mI_on hI g1
    refine ⟨N1, ?_, by have tt := t1; exact tt, g1⟩
    show av_C (av_S0 L) (d + 5) 204 [.ref 142, .int (nI i), .int x] N = some (some (.int ((rBS 2 i v x).2)), N1)
    apply eq_X7_singsAct (d := d + 4)
    simp only [av_kP]
    rw [av_gx_s hi (by omega), nI_clamp (by omega), hI.1, if_neg (by decide), if_neg (by decide), if_neg (by decide), c1, av_bi_s]
  · have hl : l.length + ((rBS 3 i v x).1).length ≤ 900 := hl
    obtain ⟨N1, c1, t1, g1⟩ := m202 L (d + 1) hi ho x N l hI hT (by omega)
    have i1 := mI_on hI g1
    refine ⟨N1, ?_, by have tt := t1; exact tt, g1⟩
    show av_C (av_S0 L) (d + 5) 204 [.ref 142, .int (nI i), .int x] N = some (some (.int ((rBS 3 i v x).2)), N1)
    apply eq_X7_singsAct (d := d + 4)
    simp only [av_kP]
    rw [av_gx_s hi (by omega), nI_clamp (by omega), hI.1, if_neg (by decide), if_neg (by decide), if_neg (by decide), c1, av_bi_s]
  · have hl : l.length + (51 :: (rSS 4 i v (x + nI 1)).1).length ≤ 900 := hl
    rw [List.length_cons] at hl
    obtain ⟨N1, c1, t1, g1⟩ := sp_body L (d + 4) 51 hT (by omega)
    have i1 := mI_on hI g1
    obtain ⟨N2, c2, t2, g2⟩ := m203 L (d + 0) hi ho (x + nI 1) N1 (l ++ [51]) i1 t1 (by rw [List.length_append]; have l1 : ∀ z : Nat, [z].length = 1 := fun _ => rfl; (try simp only [l1] at hl); (try simp only [l1]); omega)
    have i2 := mI_on i1 g2
    refine ⟨N2, ?_, by have tt := t2; simp only [List.append_assoc] at tt; exact tt, (al_f2_tr g1 g2)⟩
    show av_C (av_S0 L) (d + 5) 204 [.ref 142, .int (nI i), .int x] N = some (some (.int ((rSS 4 i v (x + nI 1)).2)), N2)
    apply eq_X7_singsAct (d := d + 4)
    simp only [av_kP]
    rw [av_gx_s hi (by omega), nI_clamp (by omega), hI.1, if_neg (by decide), if_pos rfl, c1, av_bv_s, c2, av_bi_s]
  · have hl : l.length + ((rBS 5 i v x).1).length ≤ 900 := hl
    obtain ⟨N1, c1, t1, g1⟩ := m202 L (d + 1) hi ho x N l hI hT (by omega)
    have i1 := mI_on hI g1
    refine ⟨N1, ?_, by have tt := t1; exact tt, g1⟩
    show av_C (av_S0 L) (d + 5) 204 [.ref 142, .int (nI i), .int x] N = some (some (.int ((rBS 5 i v x).2)), N1)
    apply eq_X7_singsAct (d := d + 4)
    simp only [av_kP]
    rw [av_gx_s hi (by omega), nI_clamp (by omega), hI.1, if_neg (by decide), if_neg (by decide), if_neg (by decide), c1, av_bi_s]
  · have hl : l.length + (70 :: ((rBS 6 i v x).1 ++ [10])).length ≤ 900 := hl
    rw [List.length_cons, List.length_append] at hl
    obtain ⟨N1, c1, t1, g1⟩ := sp_body L (d + 4) 70 hT (by omega)
    have i1 := mI_on hI g1
    obtain ⟨N2, c2, t2, g2⟩ := m202 L (d + 1) hi ho x N1 (l ++ [70]) i1 t1 (by rw [List.length_append]; have l1 : ∀ z : Nat, [z].length = 1 := fun _ => rfl; (try simp only [l1] at hl); (try simp only [l1]); omega)
    have i2 := mI_on i1 g2
    obtain ⟨N3, c3, t3, g3⟩ := m200 L (d + 3) hi ho (nI 2) N2 ((l ++ [70]) ++ (rBS 6 i v x).1) i2 t2 (by rw [List.length_append, List.length_append]; have l1 : ∀ z : Nat, [z].length = 1 := fun _ => rfl; (try simp only [l1] at hl); (try simp only [l1]); omega)
    have i3 := mI_on i2 g3
    refine ⟨N3, ?_, by have tt := t3; simp only [List.append_assoc] at tt; exact tt, (al_f2_tr g1 (al_f2_tr g2 g3))⟩
    show av_C (av_S0 L) (d + 5) 204 [.ref 142, .int (nI i), .int x] N = some (some (.int ((rBS 6 i v x).2 + (nI 2 + nI i))), N3)
    apply eq_X7_singsAct (d := d + 4)
    simp only [av_kP]
    rw [av_gx_s hi (by omega), nI_clamp (by omega), hI.1, if_neg (by decide), if_neg (by decide), if_pos rfl, c1, av_bv_s, c2, av_bi_s, c3, av_bi_s]
theorem m205 (L : av_W) (d : Nat) {o i v : Nat} (hi : i < 7) (ho : o < 7) (x : Int32) : mR L (d + 6) 205 o i v x (rBT o i v x) := by
  intro N l hI hT hl
  have hl : l.length + (12 :: (rS o i v x).1).length ≤ 900 := hl
  rw [List.length_cons] at hl
  obtain ⟨N1, c1, t1, g1⟩ := sp_body L (d + 5) 12 hT (by omega)
  have i1 := mI_on hI g1
  obtain ⟨N2, c2, t2, g2⟩ := m204 L (d + 0) hi ho x N1 (l ++ [12]) i1 t1 (by rw [List.length_append]; have l1 : ∀ z : Nat, [z].length = 1 := fun _ => rfl; (try simp only [l1] at hl); (try simp only [l1]); omega)
  have i2 := mI_on i1 g2
  refine ⟨N2, ?_, by have tt := t2; simp only [List.append_assoc] at tt; exact tt, (al_f2_tr g1 g2)⟩
  show av_C (av_S0 L) (d + 6) 205 [.ref 142, .int (nI i), .int x] N = some (some (.int ((rS o i v x).2 * nI 2)), N2)
  apply eq_X7_birdTells (d := d + 5)
  simp only [av_kP]
  rw [c1, av_bv_s, c2, av_bi_s]
theorem m206 (L : av_W) (d : Nat) {o i v : Nat} (hi : i < 7) (ho : o < 7) (x : Int32) : mR L (d + 7) 206 o i v x (rT o i v x) := by
  intro N l hI hT hl
  rcases (by omega : o = 0 ∨ o = 1 ∨ o = 2 ∨ o = 3 ∨ o = 4 ∨ o = 5 ∨ o = 6) with rfl | rfl | rfl | rfl | rfl | rfl | rfl
  · have hl : l.length + ((rBT 0 i v x).1).length ≤ 900 := hl
    obtain ⟨N1, c1, t1, g1⟩ := m205 L (d + 0) hi ho x N l hI hT (by omega)
    have i1 := mI_on hI g1
    refine ⟨N1, ?_, by have tt := t1; exact tt, g1⟩
    show av_C (av_S0 L) (d + 7) 206 [.ref 142, .int (nI i), .int x] N = some (some (.int ((rBT 0 i v x).2)), N1)
    apply eq_X7_tellsAct (d := d + 6)
    simp only [av_kP]
    rw [av_gx_s hi (by omega), nI_clamp (by omega), hI.1, if_neg (by decide), if_neg (by decide), if_neg (by decide), if_neg (by decide), c1, av_bi_s]
  · have hl : l.length + ((rBT 1 i v x).1).length ≤ 900 := hl
    obtain ⟨N1, c1, t1, g1⟩ := m205 L (d + 0) hi ho x N l hI hT (by omega)
    have i1 := mI_on hI g1
    refine ⟨N1, ?_, by have tt := t1; exact tt, g1⟩
    show av_C (av_S0 L) (d + 7) 206 [.ref 142, .int (nI i), .int x] N = some (some (.int ((rBT 1 i v x).2)), N1)
    apply eq_X7_tellsAct (d := d + 6)
    simp only [av_kP]
    rw [av_gx_s hi (by omega), nI_clamp (by omega), hI.1, if_neg (by decide), if_neg (by decide), if_neg (by decide), if_neg (by decide), c1, av_bi_s]
  · have hl : l.length + ((rBT 2 i v x).1).length ≤ 900 := hl
    obtain ⟨N1, c1, t1, g1⟩ := m205 L (d + 0) hi ho x N l hI hT (by omega)
    have i1 := mI_on hI g1
    refine ⟨N1, ?_, by have tt := t1; exact tt, g1⟩
    show av_C (av_S0 L) (d + 7) 206 [.ref 142, .int (nI i), .int x] N = some (some (.int ((rBT 2 i v x).2)), N1)
    apply eq_X7_tellsAct (d := d + 6)
    simp only [av_kP]
    rw [av_gx_s hi (by omega), nI_clamp (by omega), hI.1, if_neg (by decide), if_neg (by decide), if_neg (by decide), if_neg (by decide), c1, av_bi_s]
  · have hl : l.length + (40 :: ((rBT 3 i v x).1 ++ (rS 3 i v (nI 1)).1)).length ≤ 900 := hl
    rw [List.length_cons, List.length_append] at hl
    obtain ⟨N1, c1, t1, g1⟩ := sp_body L (d + 6) 40 hT (by omega)
    have i1 := mI_on hI g1
    obtain ⟨N2, c2, t2, g2⟩ := m205 L (d + 0) hi ho x N1 (l ++ [40]) i1 t1 (by rw [List.length_append]; have l1 : ∀ z : Nat, [z].length = 1 := fun _ => rfl; (try simp only [l1] at hl); (try simp only [l1]); omega)
    have i2 := mI_on i1 g2
    obtain ⟨N3, c3, t3, g3⟩ := m204 L (d + 1) hi ho (nI 1) N2 ((l ++ [40]) ++ (rBT 3 i v x).1) i2 t2 (by rw [List.length_append, List.length_append]; have l1 : ∀ z : Nat, [z].length = 1 := fun _ => rfl; (try simp only [l1] at hl); (try simp only [l1]); omega)
    have i3 := mI_on i2 g3
    refine ⟨N3, ?_, by have tt := t3; simp only [List.append_assoc] at tt; exact tt, (al_f2_tr g1 (al_f2_tr g2 g3))⟩
    show av_C (av_S0 L) (d + 7) 206 [.ref 142, .int (nI i), .int x] N = some (some (.int ((rBT 3 i v x).2 + (rS 3 i v (nI 1)).2)), N3)
    apply eq_X7_tellsAct (d := d + 6)
    simp only [av_kP]
    rw [av_gx_s hi (by omega), nI_clamp (by omega), hI.1, if_pos rfl, c1, av_bv_s, c2, av_bi_s, c3, av_bi_s]
  · have hl : l.length + ((rBT 4 i v x).1).length ≤ 900 := hl
    obtain ⟨N1, c1, t1, g1⟩ := m205 L (d + 0) hi ho x N l hI hT (by omega)
    have i1 := mI_on hI g1
    refine ⟨N1, ?_, by have tt := t1; exact tt, g1⟩
    show av_C (av_S0 L) (d + 7) 206 [.ref 142, .int (nI i), .int x] N = some (some (.int ((rBT 4 i v x).2)), N1)
    apply eq_X7_tellsAct (d := d + 6)
    simp only [av_kP]
    rw [av_gx_s hi (by omega), nI_clamp (by omega), hI.1, if_neg (by decide), if_pos rfl, c1, av_bi_s]
  · have hl : l.length + (60 :: (rBT 5 i v (x - nI i)).1).length ≤ 900 := hl
    rw [List.length_cons] at hl
    obtain ⟨N1, c1, t1, g1⟩ := sp_body L (d + 6) 60 hT (by omega)
    have i1 := mI_on hI g1
    obtain ⟨N2, c2, t2, g2⟩ := m205 L (d + 0) hi ho (x - nI i) N1 (l ++ [60]) i1 t1 (by rw [List.length_append]; have l1 : ∀ z : Nat, [z].length = 1 := fun _ => rfl; (try simp only [l1] at hl); (try simp only [l1]); omega)
    have i2 := mI_on i1 g2
    refine ⟨N2, ?_, by have tt := t2; simp only [List.append_assoc] at tt; exact tt, (al_f2_tr g1 g2)⟩
    show av_C (av_S0 L) (d + 7) 206 [.ref 142, .int (nI i), .int x] N = some (some (.int ((rBT 5 i v (x - nI i)).2)), N2)
    apply eq_X7_tellsAct (d := d + 6)
    simp only [av_kP]
    rw [av_gx_s hi (by omega), nI_clamp (by omega), hI.1, if_neg (by decide), if_neg (by decide), if_pos rfl, c1, av_bv_s, c2, av_bi_s]
  · have hl : l.length + (40 :: ((rBT 6 i v x).1 ++ (rS 6 i v (nI 1)).1)).length ≤ 900 := hl
    rw [List.length_cons, List.length_append] at hl
    obtain ⟨N1, c1, t1, g1⟩ := sp_body L (d + 6) 40 hT (by omega)
    have i1 := mI_on hI g1
    obtain ⟨N2, c2, t2, g2⟩ := m205 L (d + 0) hi ho x N1 (l ++ [40]) i1 t1 (by rw [List.length_append]; have l1 : ∀ z : Nat, [z].length = 1 := fun _ => rfl; (try simp only [l1] at hl); (try simp only [l1]); omega)
    have i2 := mI_on i1 g2
    obtain ⟨N3, c3, t3, g3⟩ := m204 L (d + 1) hi ho (nI 1) N2 ((l ++ [40]) ++ (rBT 6 i v x).1) i2 t2 (by rw [List.length_append, List.length_append]; have l1 : ∀ z : Nat, [z].length = 1 := fun _ => rfl; (try simp only [l1] at hl); (try simp only [l1]); omega)
    have i3 := mI_on i2 g3
    refine ⟨N3, ?_, by have tt := t3; simp only [List.append_assoc] at tt; exact tt, (al_f2_tr g1 (al_f2_tr g2 g3))⟩
    show av_C (av_S0 L) (d + 7) 206 [.ref 142, .int (nI i), .int x] N = some (some (.int ((rBT 6 i v x).2 + (rS 6 i v (nI 1)).2)), N3)
    apply eq_X7_tellsAct (d := d + 6)
    simp only [av_kP]
    rw [av_gx_s hi (by omega), nI_clamp (by omega), hI.1, if_neg (by decide), if_neg (by decide), if_neg (by decide), if_pos rfl, c1, av_bv_s, c2, av_bi_s, c3, av_bi_s]
theorem cl_act (L : av_W) (d : Nat) {N : av_N} (hR : RR N) (x w z : Int32) : al_call L (d + 20) N 79 [.ref 9, .int x, .int w, .int z] 207 [.ref 142, .int x, .int w, .int z] := by
  obtain ⟨n, day, B, e, k, T, h⟩ := hR
  have h0 := h
  obtain ⟨hB, hE, he, hI, hF, hS, hL, hK, hT, hX, hO⟩ := h0
  have hm := RA_mv hB hE he
  have hs := hB.1
  have hn := hs.1
  have c0 : cT (av_w N 9 8 (nI 0)) [] := ⟨av_w_s _ _ _ _, fun j hj => absurd hj (Nat.not_lt_zero _)⟩
  have m0 : ∀ M, mT (av_w M 142 75 (nI 0)) [] := fun M => ⟨av_w_s _ _ _ _, fun j hj => absurd hj (Nat.not_lt_zero _)⟩
  have fc : al_f2 dX N (av_w N 9 8 (nI 0)) := al_f2_w N (Or.inl ⟨rfl, rfl⟩) _
  have fm : ∀ M, al_f2 dM M (av_w M 142 75 (nI 0)) := fun M => al_f2_w M (Or.inl ⟨rfl, rfl⟩) _
  -- what holds when both have the same trace
  have fin : ∀ (v : Int32) (N1 N2 : av_N) (l : List Nat), l.length ≤ 1000 → av_C (av_S0 L) (d + 20) 79 [.ref 9, .int x, .int w, .int z] N = some (some (.int v), N1) → av_C (av_S0 L) (d + 20) 207 [.ref 142, .int x, .int w, .int z] N1 = some (some (.int v), N2) → cT N1 l → mT N2 l → al_f2 dX N N1 → al_f2 dM N1 N2 → al_call L (d + 20) N 79 [.ref 9, .int x, .int w, .int z] 207 [.ref 142, .int x, .int w, .int z] := by
    intro v N1 N2 l hl r1 r2 t1 t2 f1 f2
    refine ⟨.int v, N1, N2, r1, r2, ⟨n, day, B, e, k, T, RA_X h (al_f2_tr (al_f2_mono f1 (fun q k z => by unfold dX at z; unfold uX; omega)) (al_f2_mono f2 (fun q k z => by unfold dM at z; unfold uX; omega))) ⟨l.length, fun j => l.getD j 0, hl, ?_, t2.1, fun j hj h2 => ⟨?_, t2.2 j hj h2⟩⟩⟩, fun j => (f1 8 j (by unfold dX; omega)).1⟩
    · rw [(f2 9 8 (by unfold dM; omega)).1]
      exact t1.1
    · rw [(f2 76 j (by unfold dM; omega)).1]
      exact t1.2 j hj h2
  have cN : ∀ q k, ¬ dX q k → (av_w N 9 8 (nI 0)).1 q k = N.1 q k := fun q k z => (fc q k z).1
  have mN : ∀ M q k, ¬ dM q k → (av_w M 142 75 (nI 0)).1 q k = M.1 q k := fun M q k z => (fm M q k z).1
  have c10 : (av_w N 9 8 (nI 0)).1 10 1 = nI n := (cN _ _ (by unfold dX; omega)).trans hs.2.1
  cases hx : av_lt x n
  · refine fin (nI 0) _ _ [] (by decide) ?_ ?_ c0 (m0 _) fc (fm _)
    · apply eq_X6_act (d := d + 19)
      simp only [av_kP]
      rw [sp_birdAt_no L _ c10 hx, av_br_n]
    · apply eq_X7_act (d := d + 19)
      simp only [av_kP]
      rw [sp_isBird L _ x (n := n) (by rw [mN _ _ _ (by unfold dM; omega), cN _ _ (by unfold dX; omega)]; exact hm.2.1.1) (by omega), av_bi_s, hx, av_if_f]
  obtain ⟨b, hb, rfl⟩ := (av_ltE (by omega)).mp hx
  have isB : ∀ M, M.1 142 0 = nI n → av_C (av_S0 L) (d + 19) 115 [.ref 142, .int (nI b)] M = some (some (.int (av_b true)), M) := fun M hM => by
    rw [sp_isBird L _ (nI b) hM (by omega), hx]
  have m142 : ∀ M, M.1 142 0 = nI n → (av_w M 142 75 (nI 0)).1 142 0 = nI n := fun M hM => (mN _ _ _ (by unfold dM; omega)).trans hM
  cases hw : av_wi w (nI 0) (nI 2)
  · refine fin (nI 0) _ _ [] (by decide) ?_ ?_ c0 (m0 _) fc (fm _)
    · apply eq_X6_act (d := d + 19)
      simp only [av_kP]
      rw [sp_birdAt L _ c10 hn hb, av_br_s, sp_within, av_bi_s, hw, av_if_f]
    · apply eq_X7_act (d := d + 19)
      simp only [av_kP]
      rw [isB _ (m142 _ ((cN _ _ (by unfold dX; omega)).trans hm.2.1.1)), av_bi_s, av_if_t, sp_in, av_bi_s, hw, av_if_f]
  obtain ⟨a, ha, rfl⟩ := av_wiD (by decide) hw
  obtain ⟨hbd, ok, hb1⟩ := hs.2.2.2.1 b hb
  have ho : B b 2 < 7 := ok.2.1
  have hp : al_bp (27 + 2 * b) := Or.inr ⟨b, by omega, Or.inl rfl⟩
  obtain ⟨s1, s2, s3, s4⟩ := al_bpE hp L
  have i0 : cI (av_w N 9 8 (nI 0)) (27 + 2 * b) (B b 2) b (B b 3) := ⟨((cN _ _ (by unfold dX; omega)).trans (hbd.1 1 (by decide) (by decide))).trans (by rw [hb1]), (cN _ _ (by unfold dX; omega)).trans (hbd.1 2 (by decide) (by decide)), (cN _ _ (by unfold dX; omega)).trans (hbd.1 3 (by decide) (by decide)), fun k => (cN _ _ (by unfold dX; omega)).trans (hO.1 2 (by decide) k), fun k => (cN _ _ (by unfold dX; omega)).trans (hO.1 3 (by decide) k)⟩
  have go : ∀ r : List Nat × Int32, r.1.length ≤ 15 → aRun 18 (B b 2) b (B b 3) (B b 2) a z = some r → (∀ M, mI M (B b 2) b (B b 3) → M.1 142 0 = nI n → ∃ N2, av_C (av_S0 L) (d + 20) 207 [.ref 142, .int (nI b), .int (nI a), .int z] M = some (some (.int r.2), N2) ∧ mT N2 r.1 ∧ al_f2 dM M N2) → al_call L (d + 20) N 79 [.ref 9, .int (nI b), .int (nI a), .int z] 207 [.ref 142, .int (nI b), .int (nI a), .int z] := by
    intro r hr hrun hM
    obtain ⟨N1, q1, q2, q3⟩ := run_c L hp ho 18 d (B b 2) a 0 z r.2 r.1 ho (by omega) hrun (by decide) _ [] i0 c0 (by show 0 + _ ≤ 900; omega)
    have f1 := al_f2_tr fc q3
    obtain ⟨x1, x2, x3, x4, x5, x6, x7, x8⟩ := hm.2.1.2.2 b hb
    obtain ⟨N2, w1, w2, w3⟩ := hM N1 ⟨((f1 _ _ (by unfold dX; omega)).1).trans x1, ((f1 _ _ (by unfold dX; omega)).1).trans x2⟩ (((f1 _ _ (by unfold dX; omega)).1).trans hm.2.1.1)
    refine fin r.2 N1 N2 r.1 (by omega) ?_ w1 q2 w2 f1 w3
    apply eq_X6_act (d := d + 19)
    simp only [av_kP]
    rw [sp_birdAt L _ c10 hn hb, av_br_s, sp_within, av_bi_s, hw, av_if_t, s1, av_tg_s, i0.2.1, q1, av_bi_s]
  have rl := r_len (i := b) (v := B b 3) ho z
  obtain ⟨a0, a1, a2⟩ := aRun_r (i := b) (v := B b 3) ho z
  rcases (by omega : a = 0 ∨ a = 1 ∨ a = 2) with rfl | rfl | rfl
  · refine go _ (by omega) a0 (fun M hi hM => ?_)
    obtain ⟨N2, w1, w2, w3⟩ := m201 L (d + 17) (by omega) ho z _ [] (mI_on hi (fm M)) (m0 M) (by show 0 + _ ≤ 900; omega)
    refine ⟨N2, ?_, w2, al_f2_tr (fm M) w3⟩
    apply eq_X7_act (d := d + 19)
    simp only [av_kP]
    rw [isB _ (m142 _ hM), av_bi_s, av_if_t, sp_in, av_bi_s, hw, av_if_t, if_pos trivial, w1, av_bi_s]
  · refine go _ (by omega) a1 (fun M hi hM => ?_)
    obtain ⟨N2, w1, w2, w3⟩ := m204 L (d + 14) (by omega) ho z _ [] (mI_on hi (fm M)) (m0 M) (by show 0 + _ ≤ 900; omega)
    refine ⟨N2, ?_, w2, al_f2_tr (fm M) w3⟩
    apply eq_X7_act (d := d + 19)
    simp only [av_kP]
    rw [isB _ (m142 _ hM), av_bi_s, av_if_t, sp_in, av_bi_s, hw, av_if_t, if_neg (by decide), if_pos trivial, w1, av_bi_s]
  · refine go _ (by omega) a2 (fun M hi hM => ?_)
    obtain ⟨N2, w1, w2, w3⟩ := m206 L (d + 12) (by omega) ho z _ [] (mI_on hi (fm M)) (m0 M) (by show 0 + _ ≤ 900; omega)
    refine ⟨N2, ?_, w2, al_f2_tr (fm M) w3⟩
    apply eq_X7_act (d := d + 19)
    simp only [av_kP]
    rw [isB _ (m142 _ hM), av_bi_s, av_if_t, sp_in, av_bi_s, hw, av_if_t, if_neg (by decide), if_neg (by decide), w1, av_bi_s]
