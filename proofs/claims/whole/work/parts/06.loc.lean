/-! a method's own variables -/
def am_lv (ad : Nat → Nat) (ls : List Value) : List (Nat × Value) := (List.range ls.length).filterMap fun i => match ls[i]? with
  | some v => if am_isJ v then none else some (i, am_cv ad v)
  | none => none
theorem am_lv_mem {ad : Nat → Nat} {ls : List Value} {q : Nat × Value} : q ∈ am_lv ad ls ↔ ∃ v : Value, ls[q.1]? = some v ∧ am_isJ v = false ∧ q.2 = am_cv ad v := by
  unfold am_lv
  rw [List.mem_filterMap]
  constructor
  · rintro ⟨i, hi, h⟩
    cases hv : ls[i]? with
    | none => rw [hv] at h; cases h
    | some v =>
      rw [hv] at h
      cases hj : am_isJ v with
      | true => simp [hj] at h
      | false =>
        simp [hj] at h
        subst h
        exact ⟨v, hv, hj, rfl⟩
  · rintro ⟨v, hv, hj, h⟩
    refine ⟨q.1, List.mem_range.mpr (List.getElem?_eq_some_iff.mp hv).1, ?_⟩
    rw [hv]
    simp [hj, ← h]
theorem am_lr_has {ad : Nat → Nat} {ls : List Value} {arr : Array Slot} {nL : Nat} (h : am_lr ad ls arr nL) : lv_has arr nL (am_lv ad ls) := by
  refine ⟨h.1, h.2.1, fun q hq => ?_⟩
  obtain ⟨v, h1, h2, h3⟩ := am_lv_mem.mp hq
  rw [h3]
  exact h.2.2.2 _ _ h1 h2
theorem am_has_lr {ad : Nat → Nat} {ls : List Value} {arr : Array Slot} {nL : Nat} {l : List (Nat × Value)} (h : lv_has arr nL l) (hl : ls.length = nL) (hm : ∀ (i : Nat) (v : Value), ls[i]? = some v → am_isJ v = false → (i, am_cv ad v) ∈ l) : am_lr ad ls arr nL :=
  ⟨h.1, h.2.1, hl, fun i v h1 h2 => h.2.2 _ (hm i v h1 h2)⟩
theorem am_lget {ad : Nat → Nat} {ls : List Value} {arr : Array Slot} {nL : Nat} (h : am_lr ad ls arr nL) {i : Nat} {v : Value} (hv : ls[i]? = some v) (hj : am_isJ v = false) : arr[i]? = some (.val (am_cv ad v)) := h.2.2.2 i v hv hj
theorem am_inv_len (ls : List Value) (i : Nat) : (am_inv ls i).length = ls.length := by
  cases i with
  | zero => rfl
  | succ i =>
    simp only [am_inv]
    split
    · split
      · simp
      · rfl
    · rfl
theorem am_inv_get {ls : List Value} {i j : Nat} {v : Value} (h : (am_inv ls i)[j]? = some v) (hj : am_isJ v = false) : ls[j]? = some v ∧ ¬ (j + 1 = i ∧ v.category = 2) := by
  cases i with
  | zero => exact ⟨h, by omega⟩
  | succ i =>
    cases hv : ls[i]? with
    | none =>
      simp only [am_inv, hv] at h
      refine ⟨h, fun z => ?_⟩
      have e : j = i := by omega
      subst e
      rw [hv] at h
      cases h
    | some w =>
      simp only [am_inv, hv] at h
      by_cases hc : w.category = 2
      · simp only [hc, if_true] at h
        by_cases e : j = i
        · subst e
          have hl : j < ls.length := (List.getElem?_eq_some_iff.mp hv).1
          rw [List.getElem?_set_self hl] at h
          cases h
          exact absurd hj (by decide)
        · rw [List.getElem?_set_ne (fun z => e z.symm)] at h
          exact ⟨h, fun z => e (by omega)⟩
      · simp only [hc, if_false] at h
        refine ⟨h, fun z => ?_⟩
        have e : j = i := by omega
        subst e
        rw [hv] at h
        cases h
        exact hc z.2
theorem am_lset1 {ad : Nat → Nat} {ls ls' : List Value} {arr : Array Slot} {nL i : Nat} {v : Value} (hl : ls.length = nL) (hs : am_set1 ls i v = some ls')
    (h : lv_has arr nL ((i, am_cv ad v) :: (am_lv ad ls).filter (fun q => !(q.1 == i) && !(q.1 + 1 == i && q.2.category == 2)))) : i < nL ∧ am_lr ad ls' arr nL := by
  unfold am_set1 at hs
  split at hs
  next hi =>
    cases hs
    refine ⟨by omega, am_has_lr h (by rw [List.length_set, am_inv_len, hl]) fun j w h1 h2 => ?_⟩
    by_cases e : j = i
    · subst e
      rw [List.getElem?_set_self (by rw [am_inv_len]; exact hi)] at h1
      cases h1
      exact List.mem_cons_self
    · rw [List.getElem?_set_ne (fun z => e z.symm)] at h1
      obtain ⟨g1, g2⟩ := am_inv_get h1 h2
      refine List.mem_cons_of_mem _ (List.mem_filter.mpr ⟨am_lv_mem.mpr ⟨w, g1, h2, rfl⟩, ?_⟩)
      simp only [am_cat, Bool.and_eq_true, Bool.not_eq_true', beq_eq_false_iff_ne, Bool.and_eq_false_iff]
      refine ⟨e, ?_⟩
      by_cases e2 : j + 1 = i
      · exact Or.inr fun z => g2 ⟨e2, z⟩
      · exact Or.inl e2
  next => cases hs
theorem am_lset1i {ls ls' : List Value} {i : Nat} {v : Value} (hs : am_set1 ls i v = some ls') : i < ls.length := by
  unfold am_set1 at hs
  split at hs
  · assumption
  · cases hs
theorem am_lset2i {ls ls' : List Value} {i : Nat} {v : Value} (hs : am_set2 ls i v = some ls') : i + 1 < ls.length := by
  unfold am_set2 at hs
  split at hs
  · assumption
  · cases hs
theorem am_lset2 {ad : Nat → Nat} {ls ls' : List Value} {arr : Array Slot} {nL i : Nat} {v : Value} (hl : ls.length = nL) (hs : am_set2 ls i v = some ls')
    (h : lv_has arr nL ((i, am_cv ad v) :: (am_lv ad ls).filter (fun q => !(q.1 == i) && (!(q.1 == i + 1) && !(q.1 + 1 == i && q.2.category == 2))))) : am_lr ad ls' arr nL := by
  unfold am_set2 at hs
  split at hs
  next hi =>
    cases hs
    refine am_has_lr h (by rw [List.length_set, List.length_set, am_inv_len, hl]) fun j w h1 h2 => ?_
    by_cases e1 : j = i + 1
    · subst e1
      rw [List.getElem?_set_self (by rw [List.length_set, am_inv_len]; exact hi)] at h1
      cases h1
      exact absurd h2 (by decide)
    · rw [List.getElem?_set_ne (fun z => e1 z.symm)] at h1
      by_cases e : j = i
      · subst e
        rw [List.getElem?_set_self (by rw [am_inv_len]; omega)] at h1
        cases h1
        exact List.mem_cons_self
      · rw [List.getElem?_set_ne (fun z => e z.symm)] at h1
        obtain ⟨g1, g2⟩ := am_inv_get h1 h2
        refine List.mem_cons_of_mem _ (List.mem_filter.mpr ⟨am_lv_mem.mpr ⟨w, g1, h2, rfl⟩, ?_⟩)
        simp only [am_cat, Bool.and_eq_true, Bool.not_eq_true', beq_eq_false_iff_ne, Bool.and_eq_false_iff]
        refine ⟨e, e1, ?_⟩
        by_cases e2 : j + 1 = i
        · exact Or.inr fun z => g2 ⟨e2, z⟩
        · exact Or.inl e2
  next => cases hs
theorem am_lay_args (ad : Nat → Nat) : ∀ (as : List Value) (k i : Nat) (v : Value), (am_lay as)[i]? = some v → am_isJ v = false → (k + i, am_cv ad v) ∈ lv_args k (as.map (am_cv ad)) := by
  intro as
  induction as with
  | nil => intro k i v h; simp [am_lay] at h
  | cons a as ih =>
    intro k i v h hj
    unfold am_lay at h
    by_cases hc : a.category = 2
    · rw [if_pos hc] at h
      rw [List.map_cons]
      unfold lv_args
      rw [am_cat, if_pos hc]
      match i, h with
      | 0, h => cases h; exact List.mem_cons_self
      | 1, h => cases h; exact absurd hj (by decide)
      | i + 2, h =>
        have := ih (k + 2) i v (by simpa using h) hj
        rw [show k + (i + 2) = k + 2 + i by omega]
        exact List.mem_cons_of_mem _ this
    · rw [if_neg hc] at h
      rw [List.map_cons]
      unfold lv_args
      rw [am_cat, if_neg hc]
      match i, h with
      | 0, h => cases h; exact List.mem_cons_self
      | i + 1, h =>
        have := ih (k + 1) i v (by simpa using h) hj
        rw [show k + (i + 1) = k + 1 + i by omega]
        exact List.mem_cons_of_mem _ this
theorem am_lay_len (ad : Nat → Nat) : ∀ as : List Value, (lg_sl (as.map (am_cv ad))).length = (am_lay as).length := by
  intro as
  induction as with
  | nil => rfl
  | cons a as ih =>
    rw [List.map_cons]
    unfold am_lay
    have e : lg_sl (am_cv ad a :: as.map (am_cv ad)) = (if (am_cv ad a).category = 2 then [Slot.val (am_cv ad a), .second] else [.val (am_cv ad a)]) ++ lg_sl (as.map (am_cv ad)) := rfl
    rw [e, List.length_append, ih, am_cat]
    split <;> simp <;> omega
theorem am_entryL (ad : Nat → Nat) (as : List Value) {n : Nat} (h : (am_lay as).length ≤ n) : am_lr ad (am_entry as n) ((lg_sl (as.map (am_cv ad)) ++ List.replicate (n - (lg_sl (as.map (am_cv ad))).length) Slot.unset).toArray) n := by
  have hl := lv_entry (as.map (am_cv ad)) (n := n) (by rw [am_lay_len]; exact h)
  refine am_has_lr hl (by unfold am_entry; simp; omega) fun i v h1 h2 => ?_
  unfold am_entry at h1
  by_cases hi : i < (am_lay as).length
  · rw [List.getElem?_append_left hi] at h1
    have := am_lay_args ad as 0 i v h1 h2
    rwa [Nat.zero_add] at this
  · rw [List.getElem?_append_right (by omega)] at h1
    have := List.eq_of_mem_replicate (List.mem_of_getElem? h1)
    subst this
    exact absurd h2 (by decide)
