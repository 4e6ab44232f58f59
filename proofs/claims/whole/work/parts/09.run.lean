theorem am_wr_mono (M : am_M) (p k : Nat) (v : Value) : am_nx M ≤ am_nx (am_wr M p k v) ∧ am_us M ≤ am_us (am_wr M p k v) := by
  rw [am_wr_nx, am_wr_us]
  exact ⟨Nat.le_refl _, Nat.le_refl _⟩
theorem am_new_mono (M : am_M) (tag n cost : Nat) : am_nx M ≤ am_nx (am_new M tag n cost) ∧ am_us M ≤ am_us (am_new M tag n cost) := ⟨Nat.le_succ _, Nat.le_add_right _ _⟩
set_option maxHeartbeats 4000000 in
theorem am_step_mono {ins : Instr} {aux : List Nat} {i : Nat} {ls st : List Value} {M : am_M} {i' : Nat} {ls' st' : List Value} {M' : am_M} (h : am_step ins aux i ls st M = some (i', ls', st', M')) : am_nx M ≤ am_nx M' ∧ am_us M ≤ am_us M' := by
  have rf : am_nx M ≤ am_nx M ∧ am_us M ≤ am_us M := ⟨Nat.le_refl _, Nat.le_refl _⟩
  unfold am_step at h
  split at h <;> first
    | (cases h; done)
    | (cases h; exact rf)
    | (obtain ⟨_, _, _, _, _, rfl⟩ := am_ld0 h; exact rf)
    | (obtain ⟨_, _, _, _, _, rfl⟩ := am_ld1 h; exact rf)
    | (rcases am_ld2 h with ⟨_, _, _, _, _, rfl⟩ | ⟨_, _, _, _, rfl⟩ <;> exact rf)
    | (obtain ⟨_, _, _, _, _, _, rfl⟩ := am_st0 h; exact rf)
    | (obtain ⟨_, _, _, _, _, _, rfl⟩ := am_st1 h; exact rf)
    | (obtain ⟨_, _, _, _, _, _, _, rfl⟩ := am_st2 h; exact rf)
    | (obtain ⟨_, _, _, _, _, rfl⟩ := am_ldE h; exact rf)
    | (obtain ⟨_, _, _, _, _, _, rfl⟩ := am_svE h; exact am_wr_mono _ _ _ _)
    | (split at h <;> first | (cases h; exact rf) | (cases h; exact am_wr_mono _ _ _ _) | (cases h; exact am_new_mono _ _ _ _) | (obtain ⟨_, _, h2⟩ := Option.map_eq_some_iff.mp h; cases h2; exact rf) | (obtain ⟨_, _, _, _, _, _, rfl⟩ := am_svE h; exact am_wr_mono _ _ _ _) | cases h)
    | (cases h; exact am_new_mono _ _ _ _)
theorem am_prim_mono {aux : List Nat} {i : Nat} {ls st : List Value} {M : am_M} {i' : Nat} {ls' st' : List Value} {M' : am_M} (h : am_prim aux i ls st M = some (i', ls', st', M')) : am_nx M = am_nx M' ∧ am_us M = am_us M' := by
  unfold am_prim at h
  split at h
  · split at h
    · cases h; exact ⟨rfl, rfl⟩
    · cases h
  · split at h
    · split at h
      · cases h; exact ⟨rfl, rfl⟩
      · cases h; exact ⟨rfl, rfl⟩
      · cases h
    · cases h
  · split at h
    · split at h
      · cases h
      · cases h; exact ⟨rfl, rfl⟩
    · cases h
  · split at h
    · cases h; exact ⟨rfl, rfl⟩
    · cases h
  · cases h
theorem am_run_mono (P : Nat → Option am_I) : ∀ (n d : Nat) (co : List am_A) (i : Nat) (ls st : List Value) (M : am_M) (r : Option Value) (M' : am_M), am_run P n d co i ls st M = some (r, M') → am_nx M ≤ am_nx M' ∧ am_us M ≤ am_us M' := by
  intro n
  induction n with
  | zero => intro d co i ls st M r M' h; cases h
  | succ n ih =>
    intro d co i ls st M r M' h
    unfold am_run at h
    split at h
    · cases h
    · split at h
      · obtain ⟨_, _, h2⟩ := Option.map_eq_some_iff.mp h
        cases h2
        exact ⟨Nat.le_refl _, Nat.le_refl _⟩
      · split at h
        · split at h
          · split at h
            · split at h
              · split at h
                next h1 =>
                  have a1 := ih _ _ _ _ _ _ _ _ h1
                  have a2 := ih _ _ _ _ _ _ _ _ h
                  exact ⟨Nat.le_trans a1.1 a2.1, Nat.le_trans a1.2 a2.2⟩
                · cases h
              · cases h
            · cases h
          · split at h
            next h1 =>
              have a1 := am_prim_mono h1
              have a2 := ih _ _ _ _ _ _ _ _ h
              rw [a1.1, a1.2]
              exact a2
            · cases h
        · split at h
          next h1 =>
            have a1 := am_step_mono h1
            have a2 := ih _ _ _ _ _ _ _ _ h
            exact ⟨Nat.le_trans a1.1 a2.1, Nat.le_trans a1.2 a2.2⟩
          · cases h
/-- what a return instruction hands back -/
def am_rk (ret : Option FieldType) (r : Option Value) (ins : Instr) : Prop :=
  (ins = .return_ ∧ r = none ∧ ret = none) ∨ (ins = .ireturn ∧ ∃ x : Int32, r = some (.int x) ∧ (ret = some .int ∨ (ret = some .boolean ∧ (x = 0 ∨ x = 1)))) ∨
  (ins = .lreturn ∧ ∃ x : Int64, r = some (.long x) ∧ ret = some .long) ∨ (ins = .areturn ∧ (r = some .null ∨ ∃ q : Nat, r = some (.ref q)) ∧ ∃ Cn, ret = some (.object Cn))
theorem am_retE {own nm : String} {ret : Option FieldType} {co : List am_A} {pc : Nat} {ins : Instr} {aux : List Nat} {st : List Value} {r : Option Value} (hk : am_chkI own nm ret co pc ins aux = true) (h : am_ret ins aux st = some r) : am_rk ret r ins ∧ st = r.toList ∧ am_len ins aux = 1 := by
  unfold am_ret at h
  split at h
  · cases h
    exact ⟨Or.inl ⟨rfl, rfl, of_decide_eq_true hk⟩, rfl, rfl⟩
  · cases h
    exact ⟨Or.inr (Or.inl ⟨rfl, _, rfl, Or.inl (of_decide_eq_true hk)⟩), rfl, rfl⟩
  · split at h
    next hx =>
      cases h
      exact ⟨Or.inr (Or.inl ⟨rfl, _, rfl, Or.inr ⟨of_decide_eq_true hk, hx⟩⟩), rfl, rfl⟩
    · cases h
  · cases h
    exact ⟨Or.inr (Or.inr (Or.inl ⟨rfl, _, rfl, of_decide_eq_true hk⟩)), rfl, rfl⟩
  · cases h
    refine ⟨Or.inr (Or.inr (Or.inr ⟨rfl, Or.inr ⟨_, rfl⟩, ?_⟩)), rfl, rfl⟩
    simp only [am_chkI] at hk
    split at hk
    · exact ⟨_, rfl⟩
    · cases hk
  · cases h
    refine ⟨Or.inr (Or.inr (Or.inr ⟨rfl, Or.inl rfl, ?_⟩)), rfl, rfl⟩
    simp only [am_chkI] at hk
    split at hk
    · exact ⟨_, rfl⟩
    · cases hk
  · cases h
theorem am_callE {aux : List Nat} {st : List Value} {M : am_M} {mi : Nat} {as rest : List Value} (h : am_call aux st M = some (mi, as, rest)) :
    (∃ n t, aux = 1 :: mi :: n :: t ∧ as.length = n ∧ st = as.reverse ++ rest ∧ (rest.map fun v => v.category).sum ≤ 8) ∨
    ∃ kd n ci t q as', aux = kd :: mi :: n :: ci :: t ∧ kd < 4 ∧ kd ≠ 1 ∧ as = .ref q :: as' ∧ as'.length = n ∧ st = as'.reverse ++ .ref q :: rest ∧ (am_sh M q).1 = ci ∧ (rest.map fun v => v.category).sum ≤ 8 := by
  unfold am_call at h
  split at h
  · split at h
    next hn =>
      cases h
      exact Or.inl ⟨_, _, rfl, by rw [List.length_reverse, List.length_take]; omega, by rw [List.reverse_reverse, List.take_append_drop], hn.2⟩
    · cases h
  · rename_i hno
    split at h
    next hkd =>
      split at h
      next q rest' hdr =>
        split at h
        next hn =>
          cases h
          exact Or.inr ⟨_, _, _, _, q, _, rfl, hkd, (fun z => by subst z; exact hno rfl), rfl, by rw [List.length_reverse, List.length_take]; omega, by rw [List.reverse_reverse, ← hdr, List.take_append_drop], hn.2.1, hn.2.2⟩
        · cases h
      · cases h
    · cases h
  · cases h
